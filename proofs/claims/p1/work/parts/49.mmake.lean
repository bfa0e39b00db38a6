/-! public methods on the fresh world, laid by wip/tools/p1gen.py -/
set_option maxRecDepth 100000 in
set_option maxHeartbeats 4000000 in
theorem cX10_hasMany_2 {l : Launch} {G : gG} {n k : Nat} {w : Nat → va_E} (hn : 42 ≤ n) (hw : ∀ i, 32 ≤ i → i < 42 → w (G.2.1 + i) = wl G.2.1 (LF G) (G.2.1 + i)) : Ct l G mX10_hasMany 0 0 [.int 0] n k w (some (.int 0), n, k, w) := by
  refine Ct.of (by decide) (Nat.le_of_ble_eq_true rfl) ⟨Nat.le_refl _, Nat.le_refl _⟩ ?_
  show Go l G mX10_hasMany _ 0 [(0, .int 0)] [] n k w
  refine go_iload_n (pc := 0) dX10_hasMany_0 rfl rfl ?_
  refine go_iconst (pc := 1) (v := 1) dX10_hasMany_1 (by decide) ?_
  refine go_icmp_eq_f (pc := 2) (tgt := 15) dX10_hasMany_2 (by decide) (by decide) ?_
  refine go_iload_n (pc := 5) dX10_hasMany_5 rfl rfl ?_
  refine go_iconst (pc := 6) (v := 2) dX10_hasMany_6 (by decide) ?_
  refine go_icmp_eq_f (pc := 7) (tgt := 15) dX10_hasMany_7 (by decide) (by decide) ?_
  refine go_iload_n (pc := 10) dX10_hasMany_10 rfl rfl ?_
  refine go_iconst (pc := 11) (v := 5) dX10_hasMany_11 (by decide) ?_
  refine go_icmp_ne_t (pc := 12) (tgt := 19) dX10_hasMany_12 (by decide) (by decide) ?_
  refine go_iconst (pc := 19) (v := 0) dX10_hasMany_19 (by decide) ?_
  exact go_zret (pc := 20) rfl rfl dX10_hasMany_20
set_option maxRecDepth 100000 in
set_option maxHeartbeats 4000000 in
theorem cX10_sizeOf_1 {l : Launch} {G : gG} {n k : Nat} {w : Nat → va_E} (hn : 42 ≤ n) (hw : ∀ i, 32 ≤ i → i < 42 → w (G.2.1 + i) = wl G.2.1 (LF G) (G.2.1 + i)) : Ct l G mX10_sizeOf 0 0 [.int 0, .int 0] n k w (some (.int 3), n, k, w) := by
  refine Ct.of (by decide) (Nat.le_of_ble_eq_true rfl) ⟨Nat.le_refl _, Nat.le_refl _⟩ ?_
  show Go l G mX10_sizeOf _ 0 [(0, .int 0), (1, .int 0)] [] n k w
  refine go_iload_n (pc := 0) dX10_sizeOf_0 rfl rfl ?_
  refine go_tableIn (pc := 1) (off := 39) (tgt := 40) dX10_sizeOf_1 (by decide) (by decide) (by decide) (by decide) ?_
  refine go_iconst (pc := 40) (v := 3) dX10_sizeOf_40 (by decide) ?_
  exact go_iret (pc := 41) rfl dX10_sizeOf_41
set_option maxRecDepth 100000 in
set_option maxHeartbeats 4000000 in
theorem cX10_lets_1 {l : Launch} {G : gG} {n k : Nat} {w : Nat → va_E} (hn : 42 ≤ n) (hw : ∀ i, 32 ≤ i → i < 42 → w (G.2.1 + i) = wl G.2.1 (LF G) (G.2.1 + i)) : Ct l G mX10_lets 0 0 [.ref (G.2.1 + 32), .int 0, .int 0, .int 1] n k (va_up w (G.2.1 + 33) (ai G 26100 (upd (upd (sx 256) (1 : Int32).toNatClampNeg 1) (2 : Int32).toNatClampNeg 1))) (none, n, k, (va_up w (G.2.1 + 33) (ai G 26100 (upd (upd (upd (sx 256) (1 : Int32).toNatClampNeg 1) (2 : Int32).toNatClampNeg 1) (1100 : Int32).toNatClampNeg 1)))) := by
  refine Ct.of (by decide) (Nat.le_of_ble_eq_true rfl) ⟨Nat.le_refl _, Nat.le_refl _⟩ ?_
  show Go l G mX10_lets _ 0 [(0, .ref (G.2.1 + 32)), (1, .int 0), (2, .int 0), (3, .int 1)] [] n k (va_up w (G.2.1 + 33) (ai G 26100 (upd (upd (sx 256) (1 : Int32).toNatClampNeg 1) (2 : Int32).toNatClampNeg 1)))
  refine go_aload_n (pc := 0) dX10_lets_0 rfl rfl ?_
  refine go_get (pc := 1) fX10_9 rfl (gz_b (by omega)) ((va_up_ne _ _ (gz_ne (by decide))).trans ((hw 32 (by decide) (by decide)).trans (wl_at (i := 32) rfl))) rfl dX10_lets_1 ?_
  refine go_sipush (pc := 4) (v := 1100) dX10_lets_4 (by decide) ?_
  refine go_bipush (pc := 7) (v := 10) dX10_lets_7 (by decide) ?_
  refine go_iload_n (pc := 9) dX10_lets_9 rfl rfl ?_
  refine go_imul (pc := 10) dX10_lets_10 ?_
  refine go_top (y := 0) (by decide) ?_
  refine go_iadd (pc := 11) dX10_lets_11 ?_
  refine go_top (y := 1100) (by decide) ?_
  refine go_iload_n (pc := 12) dX10_lets_12 rfl rfl ?_
  refine go_iadd (pc := 13) dX10_lets_13 ?_
  refine go_top (y := 1100) (by decide) ?_
  refine go_iload_n (pc := 14) dX10_lets_14 rfl rfl ?_
  refine go_iast (pc := 15) (gz_b (by omega)) (va_up_self _ _ _) (gv_in (by decide)) dX10_lets_15 ?_
  refine go_w (va_up_up _ _ _ _) ?_
  exact go_vret (pc := 16) rfl dX10_lets_16
set_option maxRecDepth 100000 in
set_option maxHeartbeats 4000000 in
theorem cX10_lets_2 {l : Launch} {G : gG} {n k : Nat} {w : Nat → va_E} (hn : 42 ≤ n) (hw : ∀ i, 32 ≤ i → i < 42 → w (G.2.1 + i) = wl G.2.1 (LF G) (G.2.1 + i)) : Ct l G mX10_lets 0 0 [.ref (G.2.1 + 32), .int 0, .int 1, .int 0] n k (va_up w (G.2.1 + 33) (ai G 26100 (upd (upd (upd (sx 256) (1 : Int32).toNatClampNeg 1) (2 : Int32).toNatClampNeg 1) (1100 : Int32).toNatClampNeg 1))) (none, n, k, (va_up w (G.2.1 + 33) (ai G 26100 (upd (upd (upd (upd (sx 256) (1 : Int32).toNatClampNeg 1) (2 : Int32).toNatClampNeg 1) (1100 : Int32).toNatClampNeg 1) (1101 : Int32).toNatClampNeg 0)))) := by
  refine Ct.of (by decide) (Nat.le_of_ble_eq_true rfl) ⟨Nat.le_refl _, Nat.le_refl _⟩ ?_
  show Go l G mX10_lets _ 0 [(0, .ref (G.2.1 + 32)), (1, .int 0), (2, .int 1), (3, .int 0)] [] n k (va_up w (G.2.1 + 33) (ai G 26100 (upd (upd (upd (sx 256) (1 : Int32).toNatClampNeg 1) (2 : Int32).toNatClampNeg 1) (1100 : Int32).toNatClampNeg 1)))
  refine go_aload_n (pc := 0) dX10_lets_0 rfl rfl ?_
  refine go_get (pc := 1) fX10_9 rfl (gz_b (by omega)) ((va_up_ne _ _ (gz_ne (by decide))).trans ((hw 32 (by decide) (by decide)).trans (wl_at (i := 32) rfl))) rfl dX10_lets_1 ?_
  refine go_sipush (pc := 4) (v := 1100) dX10_lets_4 (by decide) ?_
  refine go_bipush (pc := 7) (v := 10) dX10_lets_7 (by decide) ?_
  refine go_iload_n (pc := 9) dX10_lets_9 rfl rfl ?_
  refine go_imul (pc := 10) dX10_lets_10 ?_
  refine go_top (y := 0) (by decide) ?_
  refine go_iadd (pc := 11) dX10_lets_11 ?_
  refine go_top (y := 1100) (by decide) ?_
  refine go_iload_n (pc := 12) dX10_lets_12 rfl rfl ?_
  refine go_iadd (pc := 13) dX10_lets_13 ?_
  refine go_top (y := 1101) (by decide) ?_
  refine go_iload_n (pc := 14) dX10_lets_14 rfl rfl ?_
  refine go_iast (pc := 15) (gz_b (by omega)) (va_up_self _ _ _) (gv_in (by decide)) dX10_lets_15 ?_
  refine go_w (va_up_up _ _ _ _) ?_
  exact go_vret (pc := 16) rfl dX10_lets_16
set_option maxRecDepth 100000 in
set_option maxHeartbeats 4000000 in
theorem cX10_lets_3 {l : Launch} {G : gG} {n k : Nat} {w : Nat → va_E} (hn : 42 ≤ n) (hw : ∀ i, 32 ≤ i → i < 42 → w (G.2.1 + i) = wl G.2.1 (LF G) (G.2.1 + i)) : Ct l G mX10_lets 0 0 [.ref (G.2.1 + 32), .int 0, .int 2, .int 0] n k (va_up w (G.2.1 + 33) (ai G 26100 (upd (upd (upd (upd (sx 256) (1 : Int32).toNatClampNeg 1) (2 : Int32).toNatClampNeg 1) (1100 : Int32).toNatClampNeg 1) (1101 : Int32).toNatClampNeg 0))) (none, n, k, (va_up w (G.2.1 + 33) (ai G 26100 (upd (upd (upd (upd (upd (sx 256) (1 : Int32).toNatClampNeg 1) (2 : Int32).toNatClampNeg 1) (1100 : Int32).toNatClampNeg 1) (1101 : Int32).toNatClampNeg 0) (1102 : Int32).toNatClampNeg 0)))) := by
  refine Ct.of (by decide) (Nat.le_of_ble_eq_true rfl) ⟨Nat.le_refl _, Nat.le_refl _⟩ ?_
  show Go l G mX10_lets _ 0 [(0, .ref (G.2.1 + 32)), (1, .int 0), (2, .int 2), (3, .int 0)] [] n k (va_up w (G.2.1 + 33) (ai G 26100 (upd (upd (upd (upd (sx 256) (1 : Int32).toNatClampNeg 1) (2 : Int32).toNatClampNeg 1) (1100 : Int32).toNatClampNeg 1) (1101 : Int32).toNatClampNeg 0)))
  refine go_aload_n (pc := 0) dX10_lets_0 rfl rfl ?_
  refine go_get (pc := 1) fX10_9 rfl (gz_b (by omega)) ((va_up_ne _ _ (gz_ne (by decide))).trans ((hw 32 (by decide) (by decide)).trans (wl_at (i := 32) rfl))) rfl dX10_lets_1 ?_
  refine go_sipush (pc := 4) (v := 1100) dX10_lets_4 (by decide) ?_
  refine go_bipush (pc := 7) (v := 10) dX10_lets_7 (by decide) ?_
  refine go_iload_n (pc := 9) dX10_lets_9 rfl rfl ?_
  refine go_imul (pc := 10) dX10_lets_10 ?_
  refine go_top (y := 0) (by decide) ?_
  refine go_iadd (pc := 11) dX10_lets_11 ?_
  refine go_top (y := 1100) (by decide) ?_
  refine go_iload_n (pc := 12) dX10_lets_12 rfl rfl ?_
  refine go_iadd (pc := 13) dX10_lets_13 ?_
  refine go_top (y := 1102) (by decide) ?_
  refine go_iload_n (pc := 14) dX10_lets_14 rfl rfl ?_
  refine go_iast (pc := 15) (gz_b (by omega)) (va_up_self _ _ _) (gv_in (by decide)) dX10_lets_15 ?_
  refine go_w (va_up_up _ _ _ _) ?_
  exact go_vret (pc := 16) rfl dX10_lets_16
set_option maxRecDepth 100000 in
set_option maxHeartbeats 4000000 in
theorem cX10_lets_4 {l : Launch} {G : gG} {n k : Nat} {w : Nat → va_E} (hn : 42 ≤ n) (hw : ∀ i, 32 ≤ i → i < 42 → w (G.2.1 + i) = wl G.2.1 (LF G) (G.2.1 + i)) : Ct l G mX10_lets 0 0 [.ref (G.2.1 + 32), .int 0, .int 3, .int 0] n k (va_up w (G.2.1 + 33) (ai G 26100 (upd (upd (upd (upd (upd (sx 256) (1 : Int32).toNatClampNeg 1) (2 : Int32).toNatClampNeg 1) (1100 : Int32).toNatClampNeg 1) (1101 : Int32).toNatClampNeg 0) (1102 : Int32).toNatClampNeg 0))) (none, n, k, (va_up w (G.2.1 + 33) (ai G 26100 (upd (upd (upd (upd (upd (upd (sx 256) (1 : Int32).toNatClampNeg 1) (2 : Int32).toNatClampNeg 1) (1100 : Int32).toNatClampNeg 1) (1101 : Int32).toNatClampNeg 0) (1102 : Int32).toNatClampNeg 0) (1103 : Int32).toNatClampNeg 0)))) := by
  refine Ct.of (by decide) (Nat.le_of_ble_eq_true rfl) ⟨Nat.le_refl _, Nat.le_refl _⟩ ?_
  show Go l G mX10_lets _ 0 [(0, .ref (G.2.1 + 32)), (1, .int 0), (2, .int 3), (3, .int 0)] [] n k (va_up w (G.2.1 + 33) (ai G 26100 (upd (upd (upd (upd (upd (sx 256) (1 : Int32).toNatClampNeg 1) (2 : Int32).toNatClampNeg 1) (1100 : Int32).toNatClampNeg 1) (1101 : Int32).toNatClampNeg 0) (1102 : Int32).toNatClampNeg 0)))
  refine go_aload_n (pc := 0) dX10_lets_0 rfl rfl ?_
  refine go_get (pc := 1) fX10_9 rfl (gz_b (by omega)) ((va_up_ne _ _ (gz_ne (by decide))).trans ((hw 32 (by decide) (by decide)).trans (wl_at (i := 32) rfl))) rfl dX10_lets_1 ?_
  refine go_sipush (pc := 4) (v := 1100) dX10_lets_4 (by decide) ?_
  refine go_bipush (pc := 7) (v := 10) dX10_lets_7 (by decide) ?_
  refine go_iload_n (pc := 9) dX10_lets_9 rfl rfl ?_
  refine go_imul (pc := 10) dX10_lets_10 ?_
  refine go_top (y := 0) (by decide) ?_
  refine go_iadd (pc := 11) dX10_lets_11 ?_
  refine go_top (y := 1100) (by decide) ?_
  refine go_iload_n (pc := 12) dX10_lets_12 rfl rfl ?_
  refine go_iadd (pc := 13) dX10_lets_13 ?_
  refine go_top (y := 1103) (by decide) ?_
  refine go_iload_n (pc := 14) dX10_lets_14 rfl rfl ?_
  refine go_iast (pc := 15) (gz_b (by omega)) (va_up_self _ _ _) (gv_in (by decide)) dX10_lets_15 ?_
  refine go_w (va_up_up _ _ _ _) ?_
  exact go_vret (pc := 16) rfl dX10_lets_16
set_option maxRecDepth 100000 in
set_option maxHeartbeats 4000000 in
theorem cX10_lets_5 {l : Launch} {G : gG} {n k : Nat} {w : Nat → va_E} (hn : 42 ≤ n) (hw : ∀ i, 32 ≤ i → i < 42 → w (G.2.1 + i) = wl G.2.1 (LF G) (G.2.1 + i)) : Ct l G mX10_lets 0 0 [.ref (G.2.1 + 32), .int 0, .int 4, .int 0] n k (va_up w (G.2.1 + 33) (ai G 26100 (upd (upd (upd (upd (upd (upd (sx 256) (1 : Int32).toNatClampNeg 1) (2 : Int32).toNatClampNeg 1) (1100 : Int32).toNatClampNeg 1) (1101 : Int32).toNatClampNeg 0) (1102 : Int32).toNatClampNeg 0) (1103 : Int32).toNatClampNeg 0))) (none, n, k, (va_up w (G.2.1 + 33) (ai G 26100 (upd (upd (upd (upd (upd (upd (upd (sx 256) (1 : Int32).toNatClampNeg 1) (2 : Int32).toNatClampNeg 1) (1100 : Int32).toNatClampNeg 1) (1101 : Int32).toNatClampNeg 0) (1102 : Int32).toNatClampNeg 0) (1103 : Int32).toNatClampNeg 0) (1104 : Int32).toNatClampNeg 0)))) := by
  refine Ct.of (by decide) (Nat.le_of_ble_eq_true rfl) ⟨Nat.le_refl _, Nat.le_refl _⟩ ?_
  show Go l G mX10_lets _ 0 [(0, .ref (G.2.1 + 32)), (1, .int 0), (2, .int 4), (3, .int 0)] [] n k (va_up w (G.2.1 + 33) (ai G 26100 (upd (upd (upd (upd (upd (upd (sx 256) (1 : Int32).toNatClampNeg 1) (2 : Int32).toNatClampNeg 1) (1100 : Int32).toNatClampNeg 1) (1101 : Int32).toNatClampNeg 0) (1102 : Int32).toNatClampNeg 0) (1103 : Int32).toNatClampNeg 0)))
  refine go_aload_n (pc := 0) dX10_lets_0 rfl rfl ?_
  refine go_get (pc := 1) fX10_9 rfl (gz_b (by omega)) ((va_up_ne _ _ (gz_ne (by decide))).trans ((hw 32 (by decide) (by decide)).trans (wl_at (i := 32) rfl))) rfl dX10_lets_1 ?_
  refine go_sipush (pc := 4) (v := 1100) dX10_lets_4 (by decide) ?_
  refine go_bipush (pc := 7) (v := 10) dX10_lets_7 (by decide) ?_
  refine go_iload_n (pc := 9) dX10_lets_9 rfl rfl ?_
  refine go_imul (pc := 10) dX10_lets_10 ?_
  refine go_top (y := 0) (by decide) ?_
  refine go_iadd (pc := 11) dX10_lets_11 ?_
  refine go_top (y := 1100) (by decide) ?_
  refine go_iload_n (pc := 12) dX10_lets_12 rfl rfl ?_
  refine go_iadd (pc := 13) dX10_lets_13 ?_
  refine go_top (y := 1104) (by decide) ?_
  refine go_iload_n (pc := 14) dX10_lets_14 rfl rfl ?_
  refine go_iast (pc := 15) (gz_b (by omega)) (va_up_self _ _ _) (gv_in (by decide)) dX10_lets_15 ?_
  refine go_w (va_up_up _ _ _ _) ?_
  exact go_vret (pc := 16) rfl dX10_lets_16
set_option maxRecDepth 100000 in
set_option maxHeartbeats 4000000 in
theorem cX10_lets_6 {l : Launch} {G : gG} {n k : Nat} {w : Nat → va_E} (hn : 42 ≤ n) (hw : ∀ i, 32 ≤ i → i < 42 → w (G.2.1 + i) = wl G.2.1 (LF G) (G.2.1 + i)) : Ct l G mX10_lets 0 0 [.ref (G.2.1 + 32), .int 0, .int 5, .int 0] n k (va_up w (G.2.1 + 33) (ai G 26100 (upd (upd (upd (upd (upd (upd (upd (sx 256) (1 : Int32).toNatClampNeg 1) (2 : Int32).toNatClampNeg 1) (1100 : Int32).toNatClampNeg 1) (1101 : Int32).toNatClampNeg 0) (1102 : Int32).toNatClampNeg 0) (1103 : Int32).toNatClampNeg 0) (1104 : Int32).toNatClampNeg 0))) (none, n, k, (va_up w (G.2.1 + 33) (ai G 26100 (upd (upd (upd (upd (upd (upd (upd (upd (sx 256) (1 : Int32).toNatClampNeg 1) (2 : Int32).toNatClampNeg 1) (1100 : Int32).toNatClampNeg 1) (1101 : Int32).toNatClampNeg 0) (1102 : Int32).toNatClampNeg 0) (1103 : Int32).toNatClampNeg 0) (1104 : Int32).toNatClampNeg 0) (1105 : Int32).toNatClampNeg 0)))) := by
  refine Ct.of (by decide) (Nat.le_of_ble_eq_true rfl) ⟨Nat.le_refl _, Nat.le_refl _⟩ ?_
  show Go l G mX10_lets _ 0 [(0, .ref (G.2.1 + 32)), (1, .int 0), (2, .int 5), (3, .int 0)] [] n k (va_up w (G.2.1 + 33) (ai G 26100 (upd (upd (upd (upd (upd (upd (upd (sx 256) (1 : Int32).toNatClampNeg 1) (2 : Int32).toNatClampNeg 1) (1100 : Int32).toNatClampNeg 1) (1101 : Int32).toNatClampNeg 0) (1102 : Int32).toNatClampNeg 0) (1103 : Int32).toNatClampNeg 0) (1104 : Int32).toNatClampNeg 0)))
  refine go_aload_n (pc := 0) dX10_lets_0 rfl rfl ?_
  refine go_get (pc := 1) fX10_9 rfl (gz_b (by omega)) ((va_up_ne _ _ (gz_ne (by decide))).trans ((hw 32 (by decide) (by decide)).trans (wl_at (i := 32) rfl))) rfl dX10_lets_1 ?_
  refine go_sipush (pc := 4) (v := 1100) dX10_lets_4 (by decide) ?_
  refine go_bipush (pc := 7) (v := 10) dX10_lets_7 (by decide) ?_
  refine go_iload_n (pc := 9) dX10_lets_9 rfl rfl ?_
  refine go_imul (pc := 10) dX10_lets_10 ?_
  refine go_top (y := 0) (by decide) ?_
  refine go_iadd (pc := 11) dX10_lets_11 ?_
  refine go_top (y := 1100) (by decide) ?_
  refine go_iload_n (pc := 12) dX10_lets_12 rfl rfl ?_
  refine go_iadd (pc := 13) dX10_lets_13 ?_
  refine go_top (y := 1105) (by decide) ?_
  refine go_iload_n (pc := 14) dX10_lets_14 rfl rfl ?_
  refine go_iast (pc := 15) (gz_b (by omega)) (va_up_self _ _ _) (gv_in (by decide)) dX10_lets_15 ?_
  refine go_w (va_up_up _ _ _ _) ?_
  exact go_vret (pc := 16) rfl dX10_lets_16
set_option maxRecDepth 100000 in
set_option maxHeartbeats 4000000 in
theorem cX10_hasMany_3 {l : Launch} {G : gG} {n k : Nat} {w : Nat → va_E} (hn : 42 ≤ n) (hw : ∀ i, 32 ≤ i → i < 42 → w (G.2.1 + i) = wl G.2.1 (LF G) (G.2.1 + i)) : Ct l G mX10_hasMany 0 0 [.int 0] n k (va_up w (G.2.1 + 33) (ai G 26100 (upd (upd (upd (upd (upd (upd (upd (upd (upd (sx 256) (1 : Int32).toNatClampNeg 1) (2 : Int32).toNatClampNeg 1) (1100 : Int32).toNatClampNeg 1) (1101 : Int32).toNatClampNeg 0) (1102 : Int32).toNatClampNeg 0) (1103 : Int32).toNatClampNeg 0) (1104 : Int32).toNatClampNeg 0) (1105 : Int32).toNatClampNeg 0) (6100 : Int32).toNatClampNeg 0))) (some (.int 0), n, k, (va_up w (G.2.1 + 33) (ai G 26100 (upd (upd (upd (upd (upd (upd (upd (upd (upd (sx 256) (1 : Int32).toNatClampNeg 1) (2 : Int32).toNatClampNeg 1) (1100 : Int32).toNatClampNeg 1) (1101 : Int32).toNatClampNeg 0) (1102 : Int32).toNatClampNeg 0) (1103 : Int32).toNatClampNeg 0) (1104 : Int32).toNatClampNeg 0) (1105 : Int32).toNatClampNeg 0) (6100 : Int32).toNatClampNeg 0)))) := by
  refine Ct.of (by decide) (Nat.le_of_ble_eq_true rfl) ⟨Nat.le_refl _, Nat.le_refl _⟩ ?_
  show Go l G mX10_hasMany _ 0 [(0, .int 0)] [] n k (va_up w (G.2.1 + 33) (ai G 26100 (upd (upd (upd (upd (upd (upd (upd (upd (upd (sx 256) (1 : Int32).toNatClampNeg 1) (2 : Int32).toNatClampNeg 1) (1100 : Int32).toNatClampNeg 1) (1101 : Int32).toNatClampNeg 0) (1102 : Int32).toNatClampNeg 0) (1103 : Int32).toNatClampNeg 0) (1104 : Int32).toNatClampNeg 0) (1105 : Int32).toNatClampNeg 0) (6100 : Int32).toNatClampNeg 0)))
  refine go_iload_n (pc := 0) dX10_hasMany_0 rfl rfl ?_
  refine go_iconst (pc := 1) (v := 1) dX10_hasMany_1 (by decide) ?_
  refine go_icmp_eq_f (pc := 2) (tgt := 15) dX10_hasMany_2 (by decide) (by decide) ?_
  refine go_iload_n (pc := 5) dX10_hasMany_5 rfl rfl ?_
  refine go_iconst (pc := 6) (v := 2) dX10_hasMany_6 (by decide) ?_
  refine go_icmp_eq_f (pc := 7) (tgt := 15) dX10_hasMany_7 (by decide) (by decide) ?_
  refine go_iload_n (pc := 10) dX10_hasMany_10 rfl rfl ?_
  refine go_iconst (pc := 11) (v := 5) dX10_hasMany_11 (by decide) ?_
  refine go_icmp_ne_t (pc := 12) (tgt := 19) dX10_hasMany_12 (by decide) (by decide) ?_
  refine go_iconst (pc := 19) (v := 0) dX10_hasMany_19 (by decide) ?_
  exact go_zret (pc := 20) rfl rfl dX10_hasMany_20
set_option maxRecDepth 100000 in
set_option maxHeartbeats 4000000 in
theorem cX10_of_1 {l : Launch} {G : gG} {n k : Nat} {w : Nat → va_E} (hn : 42 ≤ n) (hw : ∀ i, 32 ≤ i → i < 42 → w (G.2.1 + i) = wl G.2.1 (LF G) (G.2.1 + i)) : Ct l G mX10_of 0 0 [.ref (G.2.1 + 32), .int 0, .int 1] n k (va_up w (G.2.1 + 33) (ai G 26100 (upd (upd (upd (upd (upd (upd (upd (upd (upd (sx 256) (1 : Int32).toNatClampNeg 1) (2 : Int32).toNatClampNeg 1) (1100 : Int32).toNatClampNeg 1) (1101 : Int32).toNatClampNeg 0) (1102 : Int32).toNatClampNeg 0) (1103 : Int32).toNatClampNeg 0) (1104 : Int32).toNatClampNeg 0) (1105 : Int32).toNatClampNeg 0) (6100 : Int32).toNatClampNeg 0))) (some (.int 0), n, k, (va_up w (G.2.1 + 33) (ai G 26100 (upd (upd (upd (upd (upd (upd (upd (upd (upd (sx 256) (1 : Int32).toNatClampNeg 1) (2 : Int32).toNatClampNeg 1) (1100 : Int32).toNatClampNeg 1) (1101 : Int32).toNatClampNeg 0) (1102 : Int32).toNatClampNeg 0) (1103 : Int32).toNatClampNeg 0) (1104 : Int32).toNatClampNeg 0) (1105 : Int32).toNatClampNeg 0) (6100 : Int32).toNatClampNeg 0)))) := by
  refine Ct.of (by decide) (Nat.le_of_ble_eq_true rfl) ⟨Nat.le_refl _, Nat.le_refl _⟩ ?_
  show Go l G mX10_of _ 0 [(0, .ref (G.2.1 + 32)), (1, .int 0), (2, .int 1)] [] n k (va_up w (G.2.1 + 33) (ai G 26100 (upd (upd (upd (upd (upd (upd (upd (upd (upd (sx 256) (1 : Int32).toNatClampNeg 1) (2 : Int32).toNatClampNeg 1) (1100 : Int32).toNatClampNeg 1) (1101 : Int32).toNatClampNeg 0) (1102 : Int32).toNatClampNeg 0) (1103 : Int32).toNatClampNeg 0) (1104 : Int32).toNatClampNeg 0) (1105 : Int32).toNatClampNeg 0) (6100 : Int32).toNatClampNeg 0)))
  refine go_aload_n (pc := 0) dX10_of_0 rfl rfl ?_
  refine go_get (pc := 1) fX10_9 rfl (gz_b (by omega)) ((va_up_ne _ _ (gz_ne (by decide))).trans ((hw 32 (by decide) (by decide)).trans (wl_at (i := 32) rfl))) rfl dX10_of_1 ?_
  refine go_sipush (pc := 4) (v := 1100) dX10_of_4 (by decide) ?_
  refine go_bipush (pc := 7) (v := 10) dX10_of_7 (by decide) ?_
  refine go_iload_n (pc := 9) dX10_of_9 rfl rfl ?_
  refine go_imul (pc := 10) dX10_of_10 ?_
  refine go_top (y := 0) (by decide) ?_
  refine go_iadd (pc := 11) dX10_of_11 ?_
  refine go_top (y := 1100) (by decide) ?_
  refine go_iload_n (pc := 12) dX10_of_12 rfl rfl ?_
  refine go_iadd (pc := 13) dX10_of_13 ?_
  refine go_top (y := 1101) (by decide) ?_
  refine go_iald (pc := 14) (gz_b (by omega)) (va_up_self _ _ _) (gv_in (by decide)) dX10_of_14 ?_
  refine go_top (y := 0) rfl ?_
  exact go_iret (pc := 15) rfl dX10_of_15
set_option maxRecDepth 100000 in
set_option maxHeartbeats 4000000 in
theorem cX10_linksOf_1 {l : Launch} {G : gG} {n k : Nat} {w : Nat → va_E} (hn : 42 ≤ n) (hw : ∀ i, 32 ≤ i → i < 42 → w (G.2.1 + i) = wl G.2.1 (LF G) (G.2.1 + i)) : Ct l G mX10_linksOf 1 22 [.ref (G.2.1 + 32), .int 0] n k (va_up w (G.2.1 + 33) (ai G 26100 (upd (upd (upd (upd (upd (upd (upd (upd (upd (sx 256) (1 : Int32).toNatClampNeg 1) (2 : Int32).toNatClampNeg 1) (1100 : Int32).toNatClampNeg 1) (1101 : Int32).toNatClampNeg 0) (1102 : Int32).toNatClampNeg 0) (1103 : Int32).toNatClampNeg 0) (1104 : Int32).toNatClampNeg 0) (1105 : Int32).toNatClampNeg 0) (6100 : Int32).toNatClampNeg 0))) (some (.int 2), n, k, (va_up w (G.2.1 + 33) (ai G 26100 (upd (upd (upd (upd (upd (upd (upd (upd (upd (sx 256) (1 : Int32).toNatClampNeg 1) (2 : Int32).toNatClampNeg 1) (1100 : Int32).toNatClampNeg 1) (1101 : Int32).toNatClampNeg 0) (1102 : Int32).toNatClampNeg 0) (1103 : Int32).toNatClampNeg 0) (1104 : Int32).toNatClampNeg 0) (1105 : Int32).toNatClampNeg 0) (6100 : Int32).toNatClampNeg 0)))) := by
  refine Ct.of (by decide) (Nat.le_of_ble_eq_true rfl) ⟨Nat.le_refl _, Nat.le_refl _⟩ ?_
  show Go l G mX10_linksOf _ 0 [(0, .ref (G.2.1 + 32)), (1, .int 0)] [] n k (va_up w (G.2.1 + 33) (ai G 26100 (upd (upd (upd (upd (upd (upd (upd (upd (upd (sx 256) (1 : Int32).toNatClampNeg 1) (2 : Int32).toNatClampNeg 1) (1100 : Int32).toNatClampNeg 1) (1101 : Int32).toNatClampNeg 0) (1102 : Int32).toNatClampNeg 0) (1103 : Int32).toNatClampNeg 0) (1104 : Int32).toNatClampNeg 0) (1105 : Int32).toNatClampNeg 0) (6100 : Int32).toNatClampNeg 0)))
  refine go_aload_n (pc := 0) dX10_linksOf_0 rfl rfl ?_
  refine go_iload_n (pc := 1) dX10_linksOf_1 rfl rfl ?_
  refine go_iconst (pc := 2) (v := 1) dX10_linksOf_2 (by decide) ?_
  refine go_callV_i (pc := 3) vX10_71 rfl (cX10_of_1 hn hw) rfl rfl (gz_b (by omega)) ((va_up_ne _ _ (gz_ne (by decide))).trans ((hw 32 (by decide) (by decide)).trans (wl_at (i := 32) rfl))) rfl (Nat.le_of_ble_eq_true rfl) ⟨Nat.le_of_ble_eq_true rfl, Nat.le_of_ble_eq_true rfl, (Nat.le_add_right _ _), (Nat.le_add_right _ _)⟩ dX10_linksOf_3 ?_
  refine go_istore_n (pc := 6) (lv' := [(2, .int 0), (0, .ref (G.2.1 + 32)), (1, .int 0)]) dX10_linksOf_6 rfl (by decide) rfl ?_
  refine go_iload_n (pc := 7) dX10_linksOf_7 rfl rfl ?_
  refine go_if_ne_f (pc := 8) (tgt := 15) dX10_linksOf_8 (by decide) (by decide) ?_
  refine go_iconst (pc := 11) (v := 2) dX10_linksOf_11 (by decide) ?_
  refine go_goto (pc := 12) (tgt := 44) dX10_linksOf_12 (by decide) ?_
  exact go_iret (pc := 44) rfl dX10_linksOf_44
set_option maxRecDepth 100000 in
set_option maxHeartbeats 4000000 in
theorem cX10_of_2 {l : Launch} {G : gG} {n k : Nat} {w : Nat → va_E} (hn : 42 ≤ n) (hw : ∀ i, 32 ≤ i → i < 42 → w (G.2.1 + i) = wl G.2.1 (LF G) (G.2.1 + i)) : Ct l G mX10_of 0 0 [.ref (G.2.1 + 32), .int 0, .int 2] n k (va_up w (G.2.1 + 33) (ai G 26100 (upd (upd (upd (upd (upd (upd (upd (upd (upd (sx 256) (1 : Int32).toNatClampNeg 1) (2 : Int32).toNatClampNeg 1) (1100 : Int32).toNatClampNeg 1) (1101 : Int32).toNatClampNeg 0) (1102 : Int32).toNatClampNeg 0) (1103 : Int32).toNatClampNeg 0) (1104 : Int32).toNatClampNeg 0) (1105 : Int32).toNatClampNeg 0) (6100 : Int32).toNatClampNeg 0))) (some (.int 0), n, k, (va_up w (G.2.1 + 33) (ai G 26100 (upd (upd (upd (upd (upd (upd (upd (upd (upd (sx 256) (1 : Int32).toNatClampNeg 1) (2 : Int32).toNatClampNeg 1) (1100 : Int32).toNatClampNeg 1) (1101 : Int32).toNatClampNeg 0) (1102 : Int32).toNatClampNeg 0) (1103 : Int32).toNatClampNeg 0) (1104 : Int32).toNatClampNeg 0) (1105 : Int32).toNatClampNeg 0) (6100 : Int32).toNatClampNeg 0)))) := by
  refine Ct.of (by decide) (Nat.le_of_ble_eq_true rfl) ⟨Nat.le_refl _, Nat.le_refl _⟩ ?_
  show Go l G mX10_of _ 0 [(0, .ref (G.2.1 + 32)), (1, .int 0), (2, .int 2)] [] n k (va_up w (G.2.1 + 33) (ai G 26100 (upd (upd (upd (upd (upd (upd (upd (upd (upd (sx 256) (1 : Int32).toNatClampNeg 1) (2 : Int32).toNatClampNeg 1) (1100 : Int32).toNatClampNeg 1) (1101 : Int32).toNatClampNeg 0) (1102 : Int32).toNatClampNeg 0) (1103 : Int32).toNatClampNeg 0) (1104 : Int32).toNatClampNeg 0) (1105 : Int32).toNatClampNeg 0) (6100 : Int32).toNatClampNeg 0)))
  refine go_aload_n (pc := 0) dX10_of_0 rfl rfl ?_
  refine go_get (pc := 1) fX10_9 rfl (gz_b (by omega)) ((va_up_ne _ _ (gz_ne (by decide))).trans ((hw 32 (by decide) (by decide)).trans (wl_at (i := 32) rfl))) rfl dX10_of_1 ?_
  refine go_sipush (pc := 4) (v := 1100) dX10_of_4 (by decide) ?_
  refine go_bipush (pc := 7) (v := 10) dX10_of_7 (by decide) ?_
  refine go_iload_n (pc := 9) dX10_of_9 rfl rfl ?_
  refine go_imul (pc := 10) dX10_of_10 ?_
  refine go_top (y := 0) (by decide) ?_
  refine go_iadd (pc := 11) dX10_of_11 ?_
  refine go_top (y := 1100) (by decide) ?_
  refine go_iload_n (pc := 12) dX10_of_12 rfl rfl ?_
  refine go_iadd (pc := 13) dX10_of_13 ?_
  refine go_top (y := 1102) (by decide) ?_
  refine go_iald (pc := 14) (gz_b (by omega)) (va_up_self _ _ _) (gv_in (by decide)) dX10_of_14 ?_
  refine go_top (y := 0) rfl ?_
  exact go_iret (pc := 15) rfl dX10_of_15
set_option maxRecDepth 100000 in
set_option maxHeartbeats 4000000 in
theorem cX10_linkAt_1 {l : Launch} {G : gG} {n k : Nat} {w : Nat → va_E} (hn : 42 ≤ n) (hw : ∀ i, 32 ≤ i → i < 42 → w (G.2.1 + i) = wl G.2.1 (LF G) (G.2.1 + i)) : Ct l G mX10_linkAt 1 22 [.ref (G.2.1 + 32), .int 0, .int 0] n k (va_up w (G.2.1 + 33) (ai G 26100 (upd (upd (upd (upd (upd (upd (upd (upd (upd (sx 256) (1 : Int32).toNatClampNeg 1) (2 : Int32).toNatClampNeg 1) (1100 : Int32).toNatClampNeg 1) (1101 : Int32).toNatClampNeg 0) (1102 : Int32).toNatClampNeg 0) (1103 : Int32).toNatClampNeg 0) (1104 : Int32).toNatClampNeg 0) (1105 : Int32).toNatClampNeg 0) (6100 : Int32).toNatClampNeg 0))) (some (.int 6101), n, k, (va_up w (G.2.1 + 33) (ai G 26100 (upd (upd (upd (upd (upd (upd (upd (upd (upd (sx 256) (1 : Int32).toNatClampNeg 1) (2 : Int32).toNatClampNeg 1) (1100 : Int32).toNatClampNeg 1) (1101 : Int32).toNatClampNeg 0) (1102 : Int32).toNatClampNeg 0) (1103 : Int32).toNatClampNeg 0) (1104 : Int32).toNatClampNeg 0) (1105 : Int32).toNatClampNeg 0) (6100 : Int32).toNatClampNeg 0)))) := by
  refine Ct.of (by decide) (Nat.le_of_ble_eq_true rfl) ⟨Nat.le_refl _, Nat.le_refl _⟩ ?_
  show Go l G mX10_linkAt _ 0 [(0, .ref (G.2.1 + 32)), (1, .int 0), (2, .int 0)] [] n k (va_up w (G.2.1 + 33) (ai G 26100 (upd (upd (upd (upd (upd (upd (upd (upd (upd (sx 256) (1 : Int32).toNatClampNeg 1) (2 : Int32).toNatClampNeg 1) (1100 : Int32).toNatClampNeg 1) (1101 : Int32).toNatClampNeg 0) (1102 : Int32).toNatClampNeg 0) (1103 : Int32).toNatClampNeg 0) (1104 : Int32).toNatClampNeg 0) (1105 : Int32).toNatClampNeg 0) (6100 : Int32).toNatClampNeg 0)))
  refine go_aload_n (pc := 0) dX10_linkAt_0 rfl rfl ?_
  refine go_iload_n (pc := 1) dX10_linkAt_1 rfl rfl ?_
  refine go_iconst (pc := 2) (v := 1) dX10_linkAt_2 (by decide) ?_
  refine go_callV_i (pc := 3) vX10_71 rfl (cX10_of_1 hn hw) rfl rfl (gz_b (by omega)) ((va_up_ne _ _ (gz_ne (by decide))).trans ((hw 32 (by decide) (by decide)).trans (wl_at (i := 32) rfl))) rfl (Nat.le_of_ble_eq_true rfl) ⟨Nat.le_of_ble_eq_true rfl, Nat.le_of_ble_eq_true rfl, (Nat.le_add_right _ _), (Nat.le_add_right _ _)⟩ dX10_linkAt_3 ?_
  refine go_istore_n (pc := 6) (lv' := [(3, .int 0), (0, .ref (G.2.1 + 32)), (1, .int 0), (2, .int 0)]) dX10_linkAt_6 rfl (by decide) rfl ?_
  refine go_sipush (pc := 7) (v := 6100) dX10_linkAt_7 (by decide) ?_
  refine go_aload_n (pc := 10) dX10_linkAt_10 rfl rfl ?_
  refine go_iload_n (pc := 11) dX10_linkAt_11 rfl rfl ?_
  refine go_iconst (pc := 12) (v := 2) dX10_linkAt_12 (by decide) ?_
  refine go_callV_i (pc := 13) vX10_71 rfl (cX10_of_2 hn hw) rfl rfl (gz_b (by omega)) ((va_up_ne _ _ (gz_ne (by decide))).trans ((hw 32 (by decide) (by decide)).trans (wl_at (i := 32) rfl))) rfl (Nat.le_of_ble_eq_true rfl) ⟨Nat.le_of_ble_eq_true rfl, Nat.le_of_ble_eq_true rfl, (Nat.le_add_right _ _), (Nat.le_add_right _ _)⟩ dX10_linkAt_13 ?_
  refine go_iadd (pc := 16) dX10_linkAt_16 ?_
  refine go_top (y := 6100) (by decide) ?_
  refine go_iload_n (pc := 17) dX10_linkAt_17 rfl rfl ?_
  refine go_iconst (pc := 18) (v := 1) dX10_linkAt_18 (by decide) ?_
  refine go_icmp_eq_f (pc := 19) (tgt := 27) dX10_linkAt_19 (by decide) (by decide) ?_
  refine go_iload_n (pc := 22) dX10_linkAt_22 rfl rfl ?_
  refine go_iconst (pc := 23) (v := 5) dX10_linkAt_23 (by decide) ?_
  refine go_icmp_ne_t (pc := 24) (tgt := 31) dX10_linkAt_24 (by decide) (by decide) ?_
  refine go_iconst (pc := 31) (v := 1) dX10_linkAt_31 (by decide) ?_
  refine go_iadd (pc := 32) dX10_linkAt_32 ?_
  refine go_top (y := 6101) (by decide) ?_
  refine go_iload_n (pc := 33) dX10_linkAt_33 rfl rfl ?_
  refine go_iadd (pc := 34) dX10_linkAt_34 ?_
  refine go_top (y := 6101) (by decide) ?_
  exact go_iret (pc := 35) rfl dX10_linkAt_35
set_option maxRecDepth 100000 in
set_option maxHeartbeats 4000000 in
theorem cX10_of_3 {l : Launch} {G : gG} {n k : Nat} {w : Nat → va_E} (hn : 42 ≤ n) (hw : ∀ i, 32 ≤ i → i < 42 → w (G.2.1 + i) = wl G.2.1 (LF G) (G.2.1 + i)) : Ct l G mX10_of 0 0 [.ref (G.2.1 + 32), .int 0, .int 1] n k (va_up w (G.2.1 + 33) (ai G 26100 (upd (upd (upd (upd (upd (upd (upd (upd (upd (upd (sx 256) (1 : Int32).toNatClampNeg 1) (2 : Int32).toNatClampNeg 1) (1100 : Int32).toNatClampNeg 1) (1101 : Int32).toNatClampNeg 0) (1102 : Int32).toNatClampNeg 0) (1103 : Int32).toNatClampNeg 0) (1104 : Int32).toNatClampNeg 0) (1105 : Int32).toNatClampNeg 0) (6100 : Int32).toNatClampNeg 0) (6101 : Int32).toNatClampNeg ((-1))))) (some (.int 0), n, k, (va_up w (G.2.1 + 33) (ai G 26100 (upd (upd (upd (upd (upd (upd (upd (upd (upd (upd (sx 256) (1 : Int32).toNatClampNeg 1) (2 : Int32).toNatClampNeg 1) (1100 : Int32).toNatClampNeg 1) (1101 : Int32).toNatClampNeg 0) (1102 : Int32).toNatClampNeg 0) (1103 : Int32).toNatClampNeg 0) (1104 : Int32).toNatClampNeg 0) (1105 : Int32).toNatClampNeg 0) (6100 : Int32).toNatClampNeg 0) (6101 : Int32).toNatClampNeg ((-1)))))) := by
  refine Ct.of (by decide) (Nat.le_of_ble_eq_true rfl) ⟨Nat.le_refl _, Nat.le_refl _⟩ ?_
  show Go l G mX10_of _ 0 [(0, .ref (G.2.1 + 32)), (1, .int 0), (2, .int 1)] [] n k (va_up w (G.2.1 + 33) (ai G 26100 (upd (upd (upd (upd (upd (upd (upd (upd (upd (upd (sx 256) (1 : Int32).toNatClampNeg 1) (2 : Int32).toNatClampNeg 1) (1100 : Int32).toNatClampNeg 1) (1101 : Int32).toNatClampNeg 0) (1102 : Int32).toNatClampNeg 0) (1103 : Int32).toNatClampNeg 0) (1104 : Int32).toNatClampNeg 0) (1105 : Int32).toNatClampNeg 0) (6100 : Int32).toNatClampNeg 0) (6101 : Int32).toNatClampNeg ((-1)))))
  refine go_aload_n (pc := 0) dX10_of_0 rfl rfl ?_
  refine go_get (pc := 1) fX10_9 rfl (gz_b (by omega)) ((va_up_ne _ _ (gz_ne (by decide))).trans ((hw 32 (by decide) (by decide)).trans (wl_at (i := 32) rfl))) rfl dX10_of_1 ?_
  refine go_sipush (pc := 4) (v := 1100) dX10_of_4 (by decide) ?_
  refine go_bipush (pc := 7) (v := 10) dX10_of_7 (by decide) ?_
  refine go_iload_n (pc := 9) dX10_of_9 rfl rfl ?_
  refine go_imul (pc := 10) dX10_of_10 ?_
  refine go_top (y := 0) (by decide) ?_
  refine go_iadd (pc := 11) dX10_of_11 ?_
  refine go_top (y := 1100) (by decide) ?_
  refine go_iload_n (pc := 12) dX10_of_12 rfl rfl ?_
  refine go_iadd (pc := 13) dX10_of_13 ?_
  refine go_top (y := 1101) (by decide) ?_
  refine go_iald (pc := 14) (gz_b (by omega)) (va_up_self _ _ _) (gv_in (by decide)) dX10_of_14 ?_
  refine go_top (y := 0) rfl ?_
  exact go_iret (pc := 15) rfl dX10_of_15
set_option maxRecDepth 100000 in
set_option maxHeartbeats 4000000 in
theorem cX10_of_4 {l : Launch} {G : gG} {n k : Nat} {w : Nat → va_E} (hn : 42 ≤ n) (hw : ∀ i, 32 ≤ i → i < 42 → w (G.2.1 + i) = wl G.2.1 (LF G) (G.2.1 + i)) : Ct l G mX10_of 0 0 [.ref (G.2.1 + 32), .int 0, .int 2] n k (va_up w (G.2.1 + 33) (ai G 26100 (upd (upd (upd (upd (upd (upd (upd (upd (upd (upd (sx 256) (1 : Int32).toNatClampNeg 1) (2 : Int32).toNatClampNeg 1) (1100 : Int32).toNatClampNeg 1) (1101 : Int32).toNatClampNeg 0) (1102 : Int32).toNatClampNeg 0) (1103 : Int32).toNatClampNeg 0) (1104 : Int32).toNatClampNeg 0) (1105 : Int32).toNatClampNeg 0) (6100 : Int32).toNatClampNeg 0) (6101 : Int32).toNatClampNeg ((-1))))) (some (.int 0), n, k, (va_up w (G.2.1 + 33) (ai G 26100 (upd (upd (upd (upd (upd (upd (upd (upd (upd (upd (sx 256) (1 : Int32).toNatClampNeg 1) (2 : Int32).toNatClampNeg 1) (1100 : Int32).toNatClampNeg 1) (1101 : Int32).toNatClampNeg 0) (1102 : Int32).toNatClampNeg 0) (1103 : Int32).toNatClampNeg 0) (1104 : Int32).toNatClampNeg 0) (1105 : Int32).toNatClampNeg 0) (6100 : Int32).toNatClampNeg 0) (6101 : Int32).toNatClampNeg ((-1)))))) := by
  refine Ct.of (by decide) (Nat.le_of_ble_eq_true rfl) ⟨Nat.le_refl _, Nat.le_refl _⟩ ?_
  show Go l G mX10_of _ 0 [(0, .ref (G.2.1 + 32)), (1, .int 0), (2, .int 2)] [] n k (va_up w (G.2.1 + 33) (ai G 26100 (upd (upd (upd (upd (upd (upd (upd (upd (upd (upd (sx 256) (1 : Int32).toNatClampNeg 1) (2 : Int32).toNatClampNeg 1) (1100 : Int32).toNatClampNeg 1) (1101 : Int32).toNatClampNeg 0) (1102 : Int32).toNatClampNeg 0) (1103 : Int32).toNatClampNeg 0) (1104 : Int32).toNatClampNeg 0) (1105 : Int32).toNatClampNeg 0) (6100 : Int32).toNatClampNeg 0) (6101 : Int32).toNatClampNeg ((-1)))))
  refine go_aload_n (pc := 0) dX10_of_0 rfl rfl ?_
  refine go_get (pc := 1) fX10_9 rfl (gz_b (by omega)) ((va_up_ne _ _ (gz_ne (by decide))).trans ((hw 32 (by decide) (by decide)).trans (wl_at (i := 32) rfl))) rfl dX10_of_1 ?_
  refine go_sipush (pc := 4) (v := 1100) dX10_of_4 (by decide) ?_
  refine go_bipush (pc := 7) (v := 10) dX10_of_7 (by decide) ?_
  refine go_iload_n (pc := 9) dX10_of_9 rfl rfl ?_
  refine go_imul (pc := 10) dX10_of_10 ?_
  refine go_top (y := 0) (by decide) ?_
  refine go_iadd (pc := 11) dX10_of_11 ?_
  refine go_top (y := 1100) (by decide) ?_
  refine go_iload_n (pc := 12) dX10_of_12 rfl rfl ?_
  refine go_iadd (pc := 13) dX10_of_13 ?_
  refine go_top (y := 1102) (by decide) ?_
  refine go_iald (pc := 14) (gz_b (by omega)) (va_up_self _ _ _) (gv_in (by decide)) dX10_of_14 ?_
  refine go_top (y := 0) rfl ?_
  exact go_iret (pc := 15) rfl dX10_of_15
set_option maxRecDepth 100000 in
set_option maxHeartbeats 4000000 in
theorem cX10_linkAt_2 {l : Launch} {G : gG} {n k : Nat} {w : Nat → va_E} (hn : 42 ≤ n) (hw : ∀ i, 32 ≤ i → i < 42 → w (G.2.1 + i) = wl G.2.1 (LF G) (G.2.1 + i)) : Ct l G mX10_linkAt 1 22 [.ref (G.2.1 + 32), .int 0, .int 1] n k (va_up w (G.2.1 + 33) (ai G 26100 (upd (upd (upd (upd (upd (upd (upd (upd (upd (upd (sx 256) (1 : Int32).toNatClampNeg 1) (2 : Int32).toNatClampNeg 1) (1100 : Int32).toNatClampNeg 1) (1101 : Int32).toNatClampNeg 0) (1102 : Int32).toNatClampNeg 0) (1103 : Int32).toNatClampNeg 0) (1104 : Int32).toNatClampNeg 0) (1105 : Int32).toNatClampNeg 0) (6100 : Int32).toNatClampNeg 0) (6101 : Int32).toNatClampNeg ((-1))))) (some (.int 6102), n, k, (va_up w (G.2.1 + 33) (ai G 26100 (upd (upd (upd (upd (upd (upd (upd (upd (upd (upd (sx 256) (1 : Int32).toNatClampNeg 1) (2 : Int32).toNatClampNeg 1) (1100 : Int32).toNatClampNeg 1) (1101 : Int32).toNatClampNeg 0) (1102 : Int32).toNatClampNeg 0) (1103 : Int32).toNatClampNeg 0) (1104 : Int32).toNatClampNeg 0) (1105 : Int32).toNatClampNeg 0) (6100 : Int32).toNatClampNeg 0) (6101 : Int32).toNatClampNeg ((-1)))))) := by
  refine Ct.of (by decide) (Nat.le_of_ble_eq_true rfl) ⟨Nat.le_refl _, Nat.le_refl _⟩ ?_
  show Go l G mX10_linkAt _ 0 [(0, .ref (G.2.1 + 32)), (1, .int 0), (2, .int 1)] [] n k (va_up w (G.2.1 + 33) (ai G 26100 (upd (upd (upd (upd (upd (upd (upd (upd (upd (upd (sx 256) (1 : Int32).toNatClampNeg 1) (2 : Int32).toNatClampNeg 1) (1100 : Int32).toNatClampNeg 1) (1101 : Int32).toNatClampNeg 0) (1102 : Int32).toNatClampNeg 0) (1103 : Int32).toNatClampNeg 0) (1104 : Int32).toNatClampNeg 0) (1105 : Int32).toNatClampNeg 0) (6100 : Int32).toNatClampNeg 0) (6101 : Int32).toNatClampNeg ((-1)))))
  refine go_aload_n (pc := 0) dX10_linkAt_0 rfl rfl ?_
  refine go_iload_n (pc := 1) dX10_linkAt_1 rfl rfl ?_
  refine go_iconst (pc := 2) (v := 1) dX10_linkAt_2 (by decide) ?_
  refine go_callV_i (pc := 3) vX10_71 rfl (cX10_of_3 hn hw) rfl rfl (gz_b (by omega)) ((va_up_ne _ _ (gz_ne (by decide))).trans ((hw 32 (by decide) (by decide)).trans (wl_at (i := 32) rfl))) rfl (Nat.le_of_ble_eq_true rfl) ⟨Nat.le_of_ble_eq_true rfl, Nat.le_of_ble_eq_true rfl, (Nat.le_add_right _ _), (Nat.le_add_right _ _)⟩ dX10_linkAt_3 ?_
  refine go_istore_n (pc := 6) (lv' := [(3, .int 0), (0, .ref (G.2.1 + 32)), (1, .int 0), (2, .int 1)]) dX10_linkAt_6 rfl (by decide) rfl ?_
  refine go_sipush (pc := 7) (v := 6100) dX10_linkAt_7 (by decide) ?_
  refine go_aload_n (pc := 10) dX10_linkAt_10 rfl rfl ?_
  refine go_iload_n (pc := 11) dX10_linkAt_11 rfl rfl ?_
  refine go_iconst (pc := 12) (v := 2) dX10_linkAt_12 (by decide) ?_
  refine go_callV_i (pc := 13) vX10_71 rfl (cX10_of_4 hn hw) rfl rfl (gz_b (by omega)) ((va_up_ne _ _ (gz_ne (by decide))).trans ((hw 32 (by decide) (by decide)).trans (wl_at (i := 32) rfl))) rfl (Nat.le_of_ble_eq_true rfl) ⟨Nat.le_of_ble_eq_true rfl, Nat.le_of_ble_eq_true rfl, (Nat.le_add_right _ _), (Nat.le_add_right _ _)⟩ dX10_linkAt_13 ?_
  refine go_iadd (pc := 16) dX10_linkAt_16 ?_
  refine go_top (y := 6100) (by decide) ?_
  refine go_iload_n (pc := 17) dX10_linkAt_17 rfl rfl ?_
  refine go_iconst (pc := 18) (v := 1) dX10_linkAt_18 (by decide) ?_
  refine go_icmp_eq_f (pc := 19) (tgt := 27) dX10_linkAt_19 (by decide) (by decide) ?_
  refine go_iload_n (pc := 22) dX10_linkAt_22 rfl rfl ?_
  refine go_iconst (pc := 23) (v := 5) dX10_linkAt_23 (by decide) ?_
  refine go_icmp_ne_t (pc := 24) (tgt := 31) dX10_linkAt_24 (by decide) (by decide) ?_
  refine go_iconst (pc := 31) (v := 1) dX10_linkAt_31 (by decide) ?_
  refine go_iadd (pc := 32) dX10_linkAt_32 ?_
  refine go_top (y := 6101) (by decide) ?_
  refine go_iload_n (pc := 33) dX10_linkAt_33 rfl rfl ?_
  refine go_iadd (pc := 34) dX10_linkAt_34 ?_
  refine go_top (y := 6102) (by decide) ?_
  exact go_iret (pc := 35) rfl dX10_linkAt_35
set_option maxRecDepth 100000 in
set_option maxHeartbeats 4000000 in
theorem cX10_makes_1 {l : Launch} {G : gG} (x2 : Int32) {n k : Nat} {w : Nat → va_E} (hn : 42 ≤ n) (hw : ∀ i, 32 ≤ i → i < 42 → w (G.2.1 + i) = wl G.2.1 (LF G) (G.2.1 + i)) : Ct l G mX10_makes 2 45 [.ref (G.2.1 + 32), .int 0, .int x2] n k w (some (.int 0), n, k, (va_up w (G.2.1 + 33) (ai G 26100 (upd (upd (upd (upd (upd (upd (upd (upd (upd (upd (upd (upd (sx 256) (1 : Int32).toNatClampNeg 1) (2 : Int32).toNatClampNeg 1) (1100 : Int32).toNatClampNeg 1) (1101 : Int32).toNatClampNeg 0) (1102 : Int32).toNatClampNeg 0) (1103 : Int32).toNatClampNeg 0) (1104 : Int32).toNatClampNeg 0) (1105 : Int32).toNatClampNeg 0) (6100 : Int32).toNatClampNeg 0) (6101 : Int32).toNatClampNeg ((-1))) (6102 : Int32).toNatClampNeg ((-1))) (16 : Int32).toNatClampNeg 3)))) := by
  refine Ct.of (by decide) (Nat.le_of_ble_eq_true rfl) ⟨Nat.le_refl _, Nat.le_refl _⟩ ?_
  show Go l G mX10_makes _ 0 [(0, .ref (G.2.1 + 32)), (1, .int 0), (2, .int x2)] [] n k w
  refine go_iload_n (pc := 0) dX10_makes_0 rfl rfl ?_
  refine go_callS_i (pc := 1) sX10_138 rfl (cX10_hasMany_2 hn hw) rfl rfl (Nat.le_of_ble_eq_true rfl) ⟨Nat.le_of_ble_eq_true rfl, Nat.le_of_ble_eq_true rfl, (Nat.le_add_right _ _), (Nat.le_add_right _ _)⟩ dX10_makes_1 ?_
  refine go_if_eq_t (pc := 4) (tgt := 11) dX10_makes_4 (by decide) (by decide) ?_
  refine go_iconst (pc := 11) (v := 0) dX10_makes_11 (by decide) ?_
  refine go_istore_n (pc := 12) (lv' := [(3, .int 0), (0, .ref (G.2.1 + 32)), (1, .int 0), (2, .int x2)]) dX10_makes_12 rfl (by decide) rfl ?_
  refine go_iload_n (pc := 13) dX10_makes_13 rfl rfl ?_
  refine go_if_ge_t (pc := 14) (tgt := 22) dX10_makes_14 (by decide) (by decide) ?_
  refine go_aload_n (pc := 22) dX10_makes_22 rfl rfl ?_
  refine go_get (pc := 23) fX10_9 rfl (gz_b (by omega)) ((hw 32 (by decide) (by decide)).trans (wl_at (i := 32) rfl)) rfl dX10_makes_23 ?_
  refine go_iconst (pc := 26) (v := 1) dX10_makes_26 (by decide) ?_
  refine go_iald (pc := 27) (gz_b (by omega)) ((hw 33 (by decide) (by decide)).trans (wl_at (i := 33) rfl)) (gv_in (by decide)) dX10_makes_27 ?_
  refine go_top (y := 0) rfl ?_
  refine go_sipush (pc := 28) (v := 500) dX10_makes_28 (by decide) ?_
  refine go_icmp_ne_t (pc := 31) (tgt := 40) dX10_makes_31 (by decide) (by decide) ?_
  refine go_iload_n (pc := 40) dX10_makes_40 rfl rfl ?_
  refine go_iload_n (pc := 41) dX10_makes_41 rfl rfl ?_
  refine go_callS_i (pc := 42) sX10_75 rfl (cX10_sizeOf_1 hn hw) rfl rfl (Nat.le_of_ble_eq_true rfl) ⟨Nat.le_of_ble_eq_true rfl, Nat.le_of_ble_eq_true rfl, (Nat.le_add_right _ _), (Nat.le_add_right _ _)⟩ dX10_makes_42 ?_
  refine go_istore (pc := 45) (lv' := [(4, .int 3), (3, .int 0), (0, .ref (G.2.1 + 32)), (1, .int 0), (2, .int x2)]) dX10_makes_45 (by decide) rfl ?_
  refine go_iload (pc := 47) dX10_makes_47 rfl ?_
  refine go_aload_n (pc := 49) dX10_makes_49 rfl rfl ?_
  refine go_get (pc := 50) fX10_9 rfl (gz_b (by omega)) ((hw 32 (by decide) (by decide)).trans (wl_at (i := 32) rfl)) rfl dX10_makes_50 ?_
  refine go_iconst (pc := 53) (v := 0) dX10_makes_53 (by decide) ?_
  refine go_iald (pc := 54) (gz_b (by omega)) ((hw 33 (by decide) (by decide)).trans (wl_at (i := 33) rfl)) (gv_in (by decide)) dX10_makes_54 ?_
  refine go_top (y := 256) rfl ?_
  refine go_aload_n (pc := 55) dX10_makes_55 rfl rfl ?_
  refine go_get (pc := 56) fX10_9 rfl (gz_b (by omega)) ((hw 32 (by decide) (by decide)).trans (wl_at (i := 32) rfl)) rfl dX10_makes_56 ?_
  refine go_bipush (pc := 59) (v := 16) dX10_makes_59 (by decide) ?_
  refine go_iald (pc := 61) (gz_b (by omega)) ((hw 33 (by decide) (by decide)).trans (wl_at (i := 33) rfl)) (gv_in (by decide)) dX10_makes_61 ?_
  refine go_top (y := 0) rfl ?_
  refine go_isub (pc := 62) dX10_makes_62 ?_
  refine go_top (y := 256) (by decide) ?_
  refine go_icmp_le_t (pc := 63) (tgt := 127) dX10_makes_63 (by decide) (by decide) ?_
  refine go_aload_n (pc := 127) dX10_makes_127 rfl rfl ?_
  refine go_get (pc := 128) fX10_9 rfl (gz_b (by omega)) ((hw 32 (by decide) (by decide)).trans (wl_at (i := 32) rfl)) rfl dX10_makes_128 ?_
  refine go_iconst (pc := 131) (v := 1) dX10_makes_131 (by decide) ?_
  refine go_iald (pc := 132) (gz_b (by omega)) ((hw 33 (by decide) (by decide)).trans (wl_at (i := 33) rfl)) (gv_in (by decide)) dX10_makes_132 ?_
  refine go_top (y := 0) rfl ?_
  refine go_istore (pc := 133) (lv' := [(5, .int 0), (4, .int 3), (3, .int 0), (0, .ref (G.2.1 + 32)), (1, .int 0), (2, .int x2)]) dX10_makes_133 (by decide) rfl ?_
  refine go_aload_n (pc := 135) dX10_makes_135 rfl rfl ?_
  refine go_get (pc := 136) fX10_9 rfl (gz_b (by omega)) ((hw 32 (by decide) (by decide)).trans (wl_at (i := 32) rfl)) rfl dX10_makes_136 ?_
  refine go_iconst (pc := 139) (v := 1) dX10_makes_139 (by decide) ?_
  refine go_dup2 (pc := 140) dX10_makes_140 rfl rfl ?_
  refine go_iald (pc := 141) (gz_b (by omega)) ((hw 33 (by decide) (by decide)).trans (wl_at (i := 33) rfl)) (gv_in (by decide)) dX10_makes_141 ?_
  refine go_top (y := 0) rfl ?_
  refine go_iconst (pc := 142) (v := 1) dX10_makes_142 (by decide) ?_
  refine go_iadd (pc := 143) dX10_makes_143 ?_
  refine go_top (y := 1) (by decide) ?_
  refine go_iast (pc := 144) (gz_b (by omega)) ((hw 33 (by decide) (by decide)).trans (wl_at (i := 33) rfl)) (gv_in (by decide)) dX10_makes_144 ?_
  refine go_aload_n (pc := 145) dX10_makes_145 rfl rfl ?_
  refine go_get (pc := 146) fX10_9 rfl (gz_b (by omega)) ((va_up_ne _ _ (gz_ne (by decide))).trans ((hw 32 (by decide) (by decide)).trans (wl_at (i := 32) rfl))) rfl dX10_makes_146 ?_
  refine go_iconst (pc := 149) (v := 2) dX10_makes_149 (by decide) ?_
  refine go_dup2 (pc := 150) dX10_makes_150 rfl rfl ?_
  refine go_iald (pc := 151) (gz_b (by omega)) (va_up_self _ _ _) (gv_in (by decide)) dX10_makes_151 ?_
  refine go_top (y := 0) rfl ?_
  refine go_iconst (pc := 152) (v := 1) dX10_makes_152 (by decide) ?_
  refine go_iadd (pc := 153) dX10_makes_153 ?_
  refine go_top (y := 1) (by decide) ?_
  refine go_iast (pc := 154) (gz_b (by omega)) (va_up_self _ _ _) (gv_in (by decide)) dX10_makes_154 ?_
  refine go_w (va_up_up _ _ _ _) ?_
  refine go_aload_n (pc := 155) dX10_makes_155 rfl rfl ?_
  refine go_iload (pc := 156) dX10_makes_156 rfl ?_
  refine go_iconst (pc := 158) (v := 0) dX10_makes_158 (by decide) ?_
  refine go_iconst (pc := 159) (v := 1) dX10_makes_159 (by decide) ?_
  refine go_callV_v (pc := 160) vX10_82 rfl (cX10_lets_1 hn hw) rfl rfl (gz_b (by omega)) ((va_up_ne _ _ (gz_ne (by decide))).trans ((hw 32 (by decide) (by decide)).trans (wl_at (i := 32) rfl))) rfl (Nat.le_of_ble_eq_true rfl) ⟨Nat.le_of_ble_eq_true rfl, Nat.le_of_ble_eq_true rfl, (Nat.le_add_right _ _), (Nat.le_add_right _ _)⟩ dX10_makes_160 ?_
  refine go_aload_n (pc := 163) dX10_makes_163 rfl rfl ?_
  refine go_iload (pc := 164) dX10_makes_164 rfl ?_
  refine go_iconst (pc := 166) (v := 1) dX10_makes_166 (by decide) ?_
  refine go_iload_n (pc := 167) dX10_makes_167 rfl rfl ?_
  refine go_callV_v (pc := 168) vX10_82 rfl (cX10_lets_2 hn hw) rfl rfl (gz_b (by omega)) ((va_up_ne _ _ (gz_ne (by decide))).trans ((hw 32 (by decide) (by decide)).trans (wl_at (i := 32) rfl))) rfl (Nat.le_of_ble_eq_true rfl) ⟨Nat.le_of_ble_eq_true rfl, Nat.le_of_ble_eq_true rfl, (Nat.le_add_right _ _), (Nat.le_add_right _ _)⟩ dX10_makes_168 ?_
  refine go_aload_n (pc := 171) dX10_makes_171 rfl rfl ?_
  refine go_iload (pc := 172) dX10_makes_172 rfl ?_
  refine go_iconst (pc := 174) (v := 2) dX10_makes_174 (by decide) ?_
  refine go_aload_n (pc := 175) dX10_makes_175 rfl rfl ?_
  refine go_get (pc := 176) fX10_9 rfl (gz_b (by omega)) ((va_up_ne _ _ (gz_ne (by decide))).trans ((hw 32 (by decide) (by decide)).trans (wl_at (i := 32) rfl))) rfl dX10_makes_176 ?_
  refine go_bipush (pc := 179) (v := 16) dX10_makes_179 (by decide) ?_
  refine go_iald (pc := 181) (gz_b (by omega)) (va_up_self _ _ _) (gv_in (by decide)) dX10_makes_181 ?_
  refine go_top (y := 0) rfl ?_
  refine go_callV_v (pc := 182) vX10_82 rfl (cX10_lets_3 hn hw) rfl rfl (gz_b (by omega)) ((va_up_ne _ _ (gz_ne (by decide))).trans ((hw 32 (by decide) (by decide)).trans (wl_at (i := 32) rfl))) rfl (Nat.le_of_ble_eq_true rfl) ⟨Nat.le_of_ble_eq_true rfl, Nat.le_of_ble_eq_true rfl, (Nat.le_add_right _ _), (Nat.le_add_right _ _)⟩ dX10_makes_182 ?_
  refine go_aload_n (pc := 185) dX10_makes_185 rfl rfl ?_
  refine go_iload (pc := 186) dX10_makes_186 rfl ?_
  refine go_iconst (pc := 188) (v := 3) dX10_makes_188 (by decide) ?_
  refine go_iload_n (pc := 189) dX10_makes_189 rfl rfl ?_
  refine go_callV_v (pc := 190) vX10_82 rfl (cX10_lets_4 hn hw) rfl rfl (gz_b (by omega)) ((va_up_ne _ _ (gz_ne (by decide))).trans ((hw 32 (by decide) (by decide)).trans (wl_at (i := 32) rfl))) rfl (Nat.le_of_ble_eq_true rfl) ⟨Nat.le_of_ble_eq_true rfl, Nat.le_of_ble_eq_true rfl, (Nat.le_add_right _ _), (Nat.le_add_right _ _)⟩ dX10_makes_190 ?_
  refine go_aload_n (pc := 193) dX10_makes_193 rfl rfl ?_
  refine go_iload (pc := 194) dX10_makes_194 rfl ?_
  refine go_iconst (pc := 196) (v := 4) dX10_makes_196 (by decide) ?_
  refine go_iconst (pc := 197) (v := 0) dX10_makes_197 (by decide) ?_
  refine go_callV_v (pc := 198) vX10_82 rfl (cX10_lets_5 hn hw) rfl rfl (gz_b (by omega)) ((va_up_ne _ _ (gz_ne (by decide))).trans ((hw 32 (by decide) (by decide)).trans (wl_at (i := 32) rfl))) rfl (Nat.le_of_ble_eq_true rfl) ⟨Nat.le_of_ble_eq_true rfl, Nat.le_of_ble_eq_true rfl, (Nat.le_add_right _ _), (Nat.le_add_right _ _)⟩ dX10_makes_198 ?_
  refine go_aload_n (pc := 201) dX10_makes_201 rfl rfl ?_
  refine go_iload (pc := 202) dX10_makes_202 rfl ?_
  refine go_iconst (pc := 204) (v := 5) dX10_makes_204 (by decide) ?_
  refine go_iconst (pc := 205) (v := 0) dX10_makes_205 (by decide) ?_
  refine go_callV_v (pc := 206) vX10_82 rfl (cX10_lets_6 hn hw) rfl rfl (gz_b (by omega)) ((va_up_ne _ _ (gz_ne (by decide))).trans ((hw 32 (by decide) (by decide)).trans (wl_at (i := 32) rfl))) rfl (Nat.le_of_ble_eq_true rfl) ⟨Nat.le_of_ble_eq_true rfl, Nat.le_of_ble_eq_true rfl, (Nat.le_add_right _ _), (Nat.le_add_right _ _)⟩ dX10_makes_206 ?_
  refine go_aload_n (pc := 209) dX10_makes_209 rfl rfl ?_
  refine go_get (pc := 210) fX10_9 rfl (gz_b (by omega)) ((va_up_ne _ _ (gz_ne (by decide))).trans ((hw 32 (by decide) (by decide)).trans (wl_at (i := 32) rfl))) rfl dX10_makes_210 ?_
  refine go_sipush (pc := 213) (v := 6100) dX10_makes_213 (by decide) ?_
  refine go_aload_n (pc := 216) dX10_makes_216 rfl rfl ?_
  refine go_get (pc := 217) fX10_9 rfl (gz_b (by omega)) ((va_up_ne _ _ (gz_ne (by decide))).trans ((hw 32 (by decide) (by decide)).trans (wl_at (i := 32) rfl))) rfl dX10_makes_217 ?_
  refine go_bipush (pc := 220) (v := 16) dX10_makes_220 (by decide) ?_
  refine go_iald (pc := 222) (gz_b (by omega)) (va_up_self _ _ _) (gv_in (by decide)) dX10_makes_222 ?_
  refine go_top (y := 0) rfl ?_
  refine go_iadd (pc := 223) dX10_makes_223 ?_
  refine go_top (y := 6100) (by decide) ?_
  refine go_bipush (pc := 224) (v := 8) dX10_makes_224 (by decide) ?_
  refine go_iload (pc := 226) dX10_makes_226 rfl ?_
  refine go_imul (pc := 228) dX10_makes_228 ?_
  refine go_top (y := 0) (by decide) ?_
  refine go_iload_n (pc := 229) dX10_makes_229 rfl rfl ?_
  refine go_iadd (pc := 230) dX10_makes_230 ?_
  refine go_top (y := 0) (by decide) ?_
  refine go_iast (pc := 231) (gz_b (by omega)) (va_up_self _ _ _) (gv_in (by decide)) dX10_makes_231 ?_
  refine go_w (va_up_up _ _ _ _) ?_
  refine go_iload_n (pc := 232) dX10_makes_232 rfl rfl ?_
  refine go_callS_i (pc := 233) sX10_138 rfl (cX10_hasMany_3 hn hw) rfl rfl (Nat.le_of_ble_eq_true rfl) ⟨Nat.le_of_ble_eq_true rfl, Nat.le_of_ble_eq_true rfl, (Nat.le_add_right _ _), (Nat.le_add_right _ _)⟩ dX10_makes_233 ?_
  refine go_if_eq_t (pc := 236) (tgt := 258) dX10_makes_236 (by decide) (by decide) ?_
  refine go_aload_n (pc := 258) dX10_makes_258 rfl rfl ?_
  refine go_iload (pc := 259) dX10_makes_259 rfl ?_
  refine go_callV_i (pc := 261) vX10_90 rfl (cX10_linksOf_1 hn hw) rfl rfl (gz_b (by omega)) ((va_up_ne _ _ (gz_ne (by decide))).trans ((hw 32 (by decide) (by decide)).trans (wl_at (i := 32) rfl))) rfl (Nat.le_of_ble_eq_true rfl) ⟨Nat.le_of_ble_eq_true rfl, Nat.le_of_ble_eq_true rfl, (Nat.le_add_right _ _), (Nat.le_add_right _ _)⟩ dX10_makes_261 ?_
  refine go_istore (pc := 264) (lv' := [(6, .int 2), (5, .int 0), (4, .int 3), (3, .int 0), (0, .ref (G.2.1 + 32)), (1, .int 0), (2, .int x2)]) dX10_makes_264 (by decide) rfl ?_
  refine go_iconst (pc := 266) (v := 0) dX10_makes_266 (by decide) ?_
  refine go_istore (pc := 267) (lv' := [(7, .int 0), (6, .int 2), (5, .int 0), (4, .int 3), (3, .int 0), (0, .ref (G.2.1 + 32)), (1, .int 0), (2, .int x2)]) dX10_makes_267 (by decide) rfl ?_
  refine go_iload (pc := 269) dX10_makes_269 rfl ?_
  refine go_iload (pc := 271) dX10_makes_271 rfl ?_
  refine go_icmp_ge_f (pc := 273) (tgt := 296) dX10_makes_273 (by decide) (by decide) ?_
  refine go_aload_n (pc := 276) dX10_makes_276 rfl rfl ?_
  refine go_get (pc := 277) fX10_9 rfl (gz_b (by omega)) ((va_up_ne _ _ (gz_ne (by decide))).trans ((hw 32 (by decide) (by decide)).trans (wl_at (i := 32) rfl))) rfl dX10_makes_277 ?_
  refine go_aload_n (pc := 280) dX10_makes_280 rfl rfl ?_
  refine go_iload (pc := 281) dX10_makes_281 rfl ?_
  refine go_iload (pc := 283) dX10_makes_283 rfl ?_
  refine go_callV_i (pc := 285) vX10_98 rfl (cX10_linkAt_1 hn hw) rfl rfl (gz_b (by omega)) ((va_up_ne _ _ (gz_ne (by decide))).trans ((hw 32 (by decide) (by decide)).trans (wl_at (i := 32) rfl))) rfl (Nat.le_of_ble_eq_true rfl) ⟨Nat.le_of_ble_eq_true rfl, Nat.le_of_ble_eq_true rfl, (Nat.le_add_right _ _), (Nat.le_add_right _ _)⟩ dX10_makes_285 ?_
  refine go_iconst (pc := 288) (v := (-1)) dX10_makes_288 (by decide) ?_
  refine go_iast (pc := 289) (gz_b (by omega)) (va_up_self _ _ _) (gv_in (by decide)) dX10_makes_289 ?_
  refine go_w (va_up_up _ _ _ _) ?_
  refine go_iinc (pc := 290) (v := 1) (lv' := [(7, .int 1), (6, .int 2), (5, .int 0), (4, .int 3), (3, .int 0), (0, .ref (G.2.1 + 32)), (1, .int 0), (2, .int x2)]) dX10_makes_290 0 rfl (by first | rfl | decide) (by decide) rfl ?_
  refine go_goto (pc := 293) (tgt := 269) dX10_makes_293 (by decide) ?_
  refine go_iload (pc := 269) dX10_makes_269 rfl ?_
  refine go_iload (pc := 271) dX10_makes_271 rfl ?_
  refine go_icmp_ge_f (pc := 273) (tgt := 296) dX10_makes_273 (by decide) (by decide) ?_
  refine go_aload_n (pc := 276) dX10_makes_276 rfl rfl ?_
  refine go_get (pc := 277) fX10_9 rfl (gz_b (by omega)) ((va_up_ne _ _ (gz_ne (by decide))).trans ((hw 32 (by decide) (by decide)).trans (wl_at (i := 32) rfl))) rfl dX10_makes_277 ?_
  refine go_aload_n (pc := 280) dX10_makes_280 rfl rfl ?_
  refine go_iload (pc := 281) dX10_makes_281 rfl ?_
  refine go_iload (pc := 283) dX10_makes_283 rfl ?_
  refine go_callV_i (pc := 285) vX10_98 rfl (cX10_linkAt_2 hn hw) rfl rfl (gz_b (by omega)) ((va_up_ne _ _ (gz_ne (by decide))).trans ((hw 32 (by decide) (by decide)).trans (wl_at (i := 32) rfl))) rfl (Nat.le_of_ble_eq_true rfl) ⟨Nat.le_of_ble_eq_true rfl, Nat.le_of_ble_eq_true rfl, (Nat.le_add_right _ _), (Nat.le_add_right _ _)⟩ dX10_makes_285 ?_
  refine go_iconst (pc := 288) (v := (-1)) dX10_makes_288 (by decide) ?_
  refine go_iast (pc := 289) (gz_b (by omega)) (va_up_self _ _ _) (gv_in (by decide)) dX10_makes_289 ?_
  refine go_w (va_up_up _ _ _ _) ?_
  refine go_iinc (pc := 290) (v := 2) (lv' := [(7, .int 2), (6, .int 2), (5, .int 0), (4, .int 3), (3, .int 0), (0, .ref (G.2.1 + 32)), (1, .int 0), (2, .int x2)]) dX10_makes_290 0 rfl (by first | rfl | decide) (by decide) rfl ?_
  refine go_goto (pc := 293) (tgt := 269) dX10_makes_293 (by decide) ?_
  refine go_iload (pc := 269) dX10_makes_269 rfl ?_
  refine go_iload (pc := 271) dX10_makes_271 rfl ?_
  refine go_icmp_ge_t (pc := 273) (tgt := 296) dX10_makes_273 (by decide) (by decide) ?_
  refine go_iload_n (pc := 296) dX10_makes_296 rfl rfl ?_
  refine go_iconst (pc := 297) (v := 3) dX10_makes_297 (by decide) ?_
  refine go_icmp_eq_f (pc := 298) (tgt := 306) dX10_makes_298 (by decide) (by decide) ?_
  refine go_iload_n (pc := 301) dX10_makes_301 rfl rfl ?_
  refine go_iconst (pc := 302) (v := 4) dX10_makes_302 (by decide) ?_
  refine go_icmp_ne_t (pc := 303) (tgt := 318) dX10_makes_303 (by decide) (by decide) ?_
  refine go_aload_n (pc := 318) dX10_makes_318 rfl rfl ?_
  refine go_get (pc := 319) fX10_9 rfl (gz_b (by omega)) ((va_up_ne _ _ (gz_ne (by decide))).trans ((hw 32 (by decide) (by decide)).trans (wl_at (i := 32) rfl))) rfl dX10_makes_319 ?_
  refine go_bipush (pc := 322) (v := 16) dX10_makes_322 (by decide) ?_
  refine go_dup2 (pc := 324) dX10_makes_324 rfl rfl ?_
  refine go_iald (pc := 325) (gz_b (by omega)) (va_up_self _ _ _) (gv_in (by decide)) dX10_makes_325 ?_
  refine go_top (y := 0) rfl ?_
  refine go_iload (pc := 326) dX10_makes_326 rfl ?_
  refine go_iadd (pc := 328) dX10_makes_328 ?_
  refine go_top (y := 3) (by decide) ?_
  refine go_iast (pc := 329) (gz_b (by omega)) (va_up_self _ _ _) (gv_in (by decide)) dX10_makes_329 ?_
  refine go_w (va_up_up _ _ _ _) ?_
  refine go_aload_n (pc := 330) dX10_makes_330 rfl rfl ?_
  refine go_get (pc := 331) fX10_9 rfl (gz_b (by omega)) ((va_up_ne _ _ (gz_ne (by decide))).trans ((hw 32 (by decide) (by decide)).trans (wl_at (i := 32) rfl))) rfl dX10_makes_331 ?_
  refine go_iconst (pc := 334) (v := 3) dX10_makes_334 (by decide) ?_
  refine go_iald (pc := 335) (gz_b (by omega)) (va_up_self _ _ _) (gv_in (by decide)) dX10_makes_335 ?_
  refine go_top (y := 0) rfl ?_
  refine go_iconst (pc := 336) (v := 1) dX10_makes_336 (by decide) ?_
  refine go_icmp_ne_t (pc := 337) (tgt := 349) dX10_makes_337 (by decide) (by decide) ?_
  refine go_iload (pc := 349) dX10_makes_349 rfl ?_
  exact go_iret (pc := 351) rfl dX10_makes_351
set_option maxRecDepth 100000 in
set_option maxHeartbeats 4000000 in
theorem cX10_answers_3 {l : Launch} {G : gG} {n k : Nat} {w : Nat → va_E} (hn : 42 ≤ n) (hw : ∀ i, 32 ≤ i → i < 42 → w (G.2.1 + i) = wl G.2.1 (LF G) (G.2.1 + i)) : Ct l G mX10_answers 1 25 [.ref (G.2.1 + 32), .int 0] n k (va_up w (G.2.1 + 33) (ai G 26100 (upd (upd (upd (upd (upd (upd (upd (upd (upd (upd (upd (upd (sx 256) (1 : Int32).toNatClampNeg 1) (2 : Int32).toNatClampNeg 1) (1100 : Int32).toNatClampNeg 1) (1101 : Int32).toNatClampNeg 0) (1102 : Int32).toNatClampNeg 0) (1103 : Int32).toNatClampNeg 0) (1104 : Int32).toNatClampNeg 0) (1105 : Int32).toNatClampNeg 0) (6100 : Int32).toNatClampNeg 0) (6101 : Int32).toNatClampNeg ((-1))) (6102 : Int32).toNatClampNeg ((-1))) (16 : Int32).toNatClampNeg 3))) (some (.int 0), n, k, (va_up (va_up w (G.2.1 + 33) (ai G 26100 (upd (upd (upd (upd (upd (upd (upd (upd (upd (upd (upd (upd (sx 256) (1 : Int32).toNatClampNeg 1) (2 : Int32).toNatClampNeg 1) (1100 : Int32).toNatClampNeg 1) (1101 : Int32).toNatClampNeg 0) (1102 : Int32).toNatClampNeg 0) (1103 : Int32).toNatClampNeg 0) (1104 : Int32).toNatClampNeg 0) (1105 : Int32).toNatClampNeg 0) (6100 : Int32).toNatClampNeg 0) (6101 : Int32).toNatClampNeg ((-1))) (6102 : Int32).toNatClampNeg ((-1))) (16 : Int32).toNatClampNeg 3))) (G.2.1 + 32) (ob 10 [.ref (G.2.1 + 33), .ref (G.2.1 + 34), .ref (G.2.1 + 35), .int 0, .int 0, .int 0, .int 0, .int 0, .ref (G.2.1 + 36), .ref (G.2.1 + 37), .ref (G.2.1 + 38), .ref (G.2.1 + 39), .int 0, .ref (G.2.1 + 40), .int 0, .ref (G.2.1 + 41)]))) := by
  refine Ct.of (by decide) (Nat.le_of_ble_eq_true rfl) ⟨Nat.le_refl _, Nat.le_refl _⟩ ?_
  show Go l G mX10_answers _ 0 [(0, .ref (G.2.1 + 32)), (1, .int 0)] [] n k (va_up w (G.2.1 + 33) (ai G 26100 (upd (upd (upd (upd (upd (upd (upd (upd (upd (upd (upd (upd (sx 256) (1 : Int32).toNatClampNeg 1) (2 : Int32).toNatClampNeg 1) (1100 : Int32).toNatClampNeg 1) (1101 : Int32).toNatClampNeg 0) (1102 : Int32).toNatClampNeg 0) (1103 : Int32).toNatClampNeg 0) (1104 : Int32).toNatClampNeg 0) (1105 : Int32).toNatClampNeg 0) (6100 : Int32).toNatClampNeg 0) (6101 : Int32).toNatClampNeg ((-1))) (6102 : Int32).toNatClampNeg ((-1))) (16 : Int32).toNatClampNeg 3)))
  refine go_aload_n (pc := 0) dX10_answers_0 rfl rfl ?_
  refine go_iload_n (pc := 1) dX10_answers_1 rfl rfl ?_
  refine go_i2l (pc := 2) dX10_answers_2 ?_
  refine go_topl (y := 0) (by decide) ?_
  refine go_ldc2 (pc := 3) rfl qX10_78 dX10_answers_3 ?_
  refine go_ldc2 (pc := 6) rfl qX10_80 dX10_answers_6 ?_
  refine go_callS_i (pc := 9) sX10_63 rfl (ct_in 0 ((-18)) ((-11))) rfl rfl (Nat.le_of_ble_eq_true rfl) ⟨Nat.le_of_ble_eq_true rfl, Nat.le_of_ble_eq_true rfl, (Nat.le_add_right _ _), (Nat.le_add_right _ _)⟩ dX10_answers_9 ?_
  refine go_top (y := 0) (by decide) ?_
  refine go_if_eq_t (pc := 12) (tgt := 22) dX10_answers_12 (by decide) (by decide) ?_
  refine go_iconst (pc := 22) (v := 0) dX10_answers_22 (by decide) ?_
  refine go_put (pc := 23) fX10_49 rfl (gz_b (by omega)) ((va_up_ne _ _ (gz_ne (by decide))).trans ((hw 32 (by decide) (by decide)).trans (wl_at (i := 32) rfl))) (Nat.le_of_ble_eq_true rfl) rfl rfl dX10_answers_23 ?_
  refine go_iload_n (pc := 26) dX10_answers_26 rfl rfl ?_
  exact go_iret (pc := 27) rfl dX10_answers_27
set_option maxRecDepth 100000 in
set_option maxHeartbeats 4000000 in
theorem cm_make_0_o {l : Launch} {G : gG} (x2 : Int32) {n k : Nat} {w : Nat → va_E} (hn : 42 ≤ n) (hw : ∀ i, 32 ≤ i → i < 42 → w (G.2.1 + i) = wl G.2.1 (LF G) (G.2.1 + i)) : Ct l G mX10_make 3 72 [.ref (G.2.1 + 32), .int 0, .int x2] n k w (some (.int 0), n, k, (va_up (va_up w (G.2.1 + 33) (ai G 26100 (upd (upd (upd (upd (upd (upd (upd (upd (upd (upd (upd (upd (sx 256) (1 : Int32).toNatClampNeg 1) (2 : Int32).toNatClampNeg 1) (1100 : Int32).toNatClampNeg 1) (1101 : Int32).toNatClampNeg 0) (1102 : Int32).toNatClampNeg 0) (1103 : Int32).toNatClampNeg 0) (1104 : Int32).toNatClampNeg 0) (1105 : Int32).toNatClampNeg 0) (6100 : Int32).toNatClampNeg 0) (6101 : Int32).toNatClampNeg ((-1))) (6102 : Int32).toNatClampNeg ((-1))) (16 : Int32).toNatClampNeg 3))) (G.2.1 + 32) (ob 10 [.ref (G.2.1 + 33), .ref (G.2.1 + 34), .ref (G.2.1 + 35), .int 0, .int 0, .int 0, .int 0, .int 0, .ref (G.2.1 + 36), .ref (G.2.1 + 37), .ref (G.2.1 + 38), .ref (G.2.1 + 39), .int 0, .ref (G.2.1 + 40), .int 0, .ref (G.2.1 + 41)]))) := by
  refine Ct.of (by decide) (Nat.le_of_ble_eq_true rfl) ⟨Nat.le_refl _, Nat.le_refl _⟩ ?_
  show Go l G mX10_make _ 0 [(0, .ref (G.2.1 + 32)), (1, .int 0), (2, .int x2)] [] n k w
  refine go_iload_n (pc := 0) dX10_make_0 rfl rfl ?_
  refine go_i2l (pc := 1) dX10_make_1 ?_
  refine go_topl (y := 0) (by decide) ?_
  refine go_lconst (pc := 2) (v := 0) dX10_make_2 (by decide) ?_
  refine go_ldc2 (pc := 3) rfl qX10_150 dX10_make_3 ?_
  refine go_callS_i (pc := 6) sX10_63 rfl (ct_in 0 0 5) rfl rfl (Nat.le_of_ble_eq_true rfl) ⟨Nat.le_of_ble_eq_true rfl, Nat.le_of_ble_eq_true rfl, (Nat.le_add_right _ _), (Nat.le_add_right _ _)⟩ dX10_make_6 ?_
  refine go_top (y := 1) (by decide) ?_
  refine go_if_eq_f (pc := 9) (tgt := 26) dX10_make_9 (by decide) (by decide) ?_
  refine go_iload_n (pc := 12) dX10_make_12 rfl rfl ?_
  refine go_callS_i (pc := 13) sX10_138 rfl (cX10_hasMany_2 hn hw) rfl rfl (Nat.le_of_ble_eq_true rfl) ⟨Nat.le_of_ble_eq_true rfl, Nat.le_of_ble_eq_true rfl, (Nat.le_add_right _ _), (Nat.le_add_right _ _)⟩ dX10_make_13 ?_
  refine go_if_eq_t (pc := 16) (tgt := 29) dX10_make_16 (by decide) (by decide) ?_
  refine go_aload_n (pc := 29) dX10_make_29 rfl rfl ?_
  refine go_aload_n (pc := 30) dX10_make_30 rfl rfl ?_
  refine go_iload_n (pc := 31) dX10_make_31 rfl rfl ?_
  refine go_iload_n (pc := 32) dX10_make_32 rfl rfl ?_
  refine go_callV_i (pc := 33) vX10_152 rfl (cX10_makes_1 x2 hn hw) rfl rfl (gz_b (by omega)) ((hw 32 (by decide) (by decide)).trans (wl_at (i := 32) rfl)) rfl (Nat.le_of_ble_eq_true rfl) ⟨Nat.le_of_ble_eq_true rfl, Nat.le_of_ble_eq_true rfl, (Nat.le_add_right _ _), (Nat.le_add_right _ _)⟩ dX10_make_33 ?_
  refine go_callV_i (pc := 36) vX10_155 rfl (cX10_answers_3 hn hw) rfl rfl (gz_b (by omega)) ((va_up_ne _ _ (gz_ne (by decide))).trans ((hw 32 (by decide) (by decide)).trans (wl_at (i := 32) rfl))) rfl (Nat.le_of_ble_eq_true rfl) ⟨Nat.le_of_ble_eq_true rfl, Nat.le_of_ble_eq_true rfl, (Nat.le_add_right _ _), (Nat.le_add_right _ _)⟩ dX10_make_36 ?_
  exact go_iret (pc := 39) rfl dX10_make_39
theorem cm_make_0 {l : Launch} {G : gG} (x2 : Int32) : CM l G mX10_make [.ref (G.2.1 + 32), .int 0, .int x2] 0 := by
  intro n k w hn hw
  exact ⟨3, 72, _, by decide, by decide, cm_make_0_o x2 hn hw⟩
set_option maxRecDepth 100000 in
set_option maxHeartbeats 4000000 in
theorem cX10_hasMany_4 {l : Launch} {G : gG} {n k : Nat} {w : Nat → va_E} (hn : 42 ≤ n) (hw : ∀ i, 32 ≤ i → i < 42 → w (G.2.1 + i) = wl G.2.1 (LF G) (G.2.1 + i)) : Ct l G mX10_hasMany 0 0 [.int 3] n k w (some (.int 0), n, k, w) := by
  refine Ct.of (by decide) (Nat.le_of_ble_eq_true rfl) ⟨Nat.le_refl _, Nat.le_refl _⟩ ?_
  show Go l G mX10_hasMany _ 0 [(0, .int 3)] [] n k w
  refine go_iload_n (pc := 0) dX10_hasMany_0 rfl rfl ?_
  refine go_iconst (pc := 1) (v := 1) dX10_hasMany_1 (by decide) ?_
  refine go_icmp_eq_f (pc := 2) (tgt := 15) dX10_hasMany_2 (by decide) (by decide) ?_
  refine go_iload_n (pc := 5) dX10_hasMany_5 rfl rfl ?_
  refine go_iconst (pc := 6) (v := 2) dX10_hasMany_6 (by decide) ?_
  refine go_icmp_eq_f (pc := 7) (tgt := 15) dX10_hasMany_7 (by decide) (by decide) ?_
  refine go_iload_n (pc := 10) dX10_hasMany_10 rfl rfl ?_
  refine go_iconst (pc := 11) (v := 5) dX10_hasMany_11 (by decide) ?_
  refine go_icmp_ne_t (pc := 12) (tgt := 19) dX10_hasMany_12 (by decide) (by decide) ?_
  refine go_iconst (pc := 19) (v := 0) dX10_hasMany_19 (by decide) ?_
  exact go_zret (pc := 20) rfl rfl dX10_hasMany_20
set_option maxRecDepth 100000 in
set_option maxHeartbeats 4000000 in
theorem cX10_sizeOf_2 {l : Launch} {G : gG} {n k : Nat} {w : Nat → va_E} (hn : 42 ≤ n) (hw : ∀ i, 32 ≤ i → i < 42 → w (G.2.1 + i) = wl G.2.1 (LF G) (G.2.1 + i)) : Ct l G mX10_sizeOf 0 0 [.int 3, .int 0] n k w (some (.int 3), n, k, w) := by
  refine Ct.of (by decide) (Nat.le_of_ble_eq_true rfl) ⟨Nat.le_refl _, Nat.le_refl _⟩ ?_
  show Go l G mX10_sizeOf _ 0 [(0, .int 3), (1, .int 0)] [] n k w
  refine go_iload_n (pc := 0) dX10_sizeOf_0 rfl rfl ?_
  refine go_tableIn (pc := 1) (off := 39) (tgt := 40) dX10_sizeOf_1 (by decide) (by decide) (by decide) (by decide) ?_
  refine go_iconst (pc := 40) (v := 3) dX10_sizeOf_40 (by decide) ?_
  exact go_iret (pc := 41) rfl dX10_sizeOf_41
set_option maxRecDepth 100000 in
set_option maxHeartbeats 4000000 in
theorem cX10_lets_7 {l : Launch} {G : gG} {n k : Nat} {w : Nat → va_E} (hn : 42 ≤ n) (hw : ∀ i, 32 ≤ i → i < 42 → w (G.2.1 + i) = wl G.2.1 (LF G) (G.2.1 + i)) : Ct l G mX10_lets 0 0 [.ref (G.2.1 + 32), .int 0, .int 1, .int 3] n k (va_up w (G.2.1 + 33) (ai G 26100 (upd (upd (upd (sx 256) (1 : Int32).toNatClampNeg 1) (2 : Int32).toNatClampNeg 1) (1100 : Int32).toNatClampNeg 1))) (none, n, k, (va_up w (G.2.1 + 33) (ai G 26100 (upd (upd (upd (upd (sx 256) (1 : Int32).toNatClampNeg 1) (2 : Int32).toNatClampNeg 1) (1100 : Int32).toNatClampNeg 1) (1101 : Int32).toNatClampNeg 3)))) := by
  refine Ct.of (by decide) (Nat.le_of_ble_eq_true rfl) ⟨Nat.le_refl _, Nat.le_refl _⟩ ?_
  show Go l G mX10_lets _ 0 [(0, .ref (G.2.1 + 32)), (1, .int 0), (2, .int 1), (3, .int 3)] [] n k (va_up w (G.2.1 + 33) (ai G 26100 (upd (upd (upd (sx 256) (1 : Int32).toNatClampNeg 1) (2 : Int32).toNatClampNeg 1) (1100 : Int32).toNatClampNeg 1)))
  refine go_aload_n (pc := 0) dX10_lets_0 rfl rfl ?_
  refine go_get (pc := 1) fX10_9 rfl (gz_b (by omega)) ((va_up_ne _ _ (gz_ne (by decide))).trans ((hw 32 (by decide) (by decide)).trans (wl_at (i := 32) rfl))) rfl dX10_lets_1 ?_
  refine go_sipush (pc := 4) (v := 1100) dX10_lets_4 (by decide) ?_
  refine go_bipush (pc := 7) (v := 10) dX10_lets_7 (by decide) ?_
  refine go_iload_n (pc := 9) dX10_lets_9 rfl rfl ?_
  refine go_imul (pc := 10) dX10_lets_10 ?_
  refine go_top (y := 0) (by decide) ?_
  refine go_iadd (pc := 11) dX10_lets_11 ?_
  refine go_top (y := 1100) (by decide) ?_
  refine go_iload_n (pc := 12) dX10_lets_12 rfl rfl ?_
  refine go_iadd (pc := 13) dX10_lets_13 ?_
  refine go_top (y := 1101) (by decide) ?_
  refine go_iload_n (pc := 14) dX10_lets_14 rfl rfl ?_
  refine go_iast (pc := 15) (gz_b (by omega)) (va_up_self _ _ _) (gv_in (by decide)) dX10_lets_15 ?_
  refine go_w (va_up_up _ _ _ _) ?_
  exact go_vret (pc := 16) rfl dX10_lets_16
set_option maxRecDepth 100000 in
set_option maxHeartbeats 4000000 in
theorem cX10_lets_8 {l : Launch} {G : gG} {n k : Nat} {w : Nat → va_E} (hn : 42 ≤ n) (hw : ∀ i, 32 ≤ i → i < 42 → w (G.2.1 + i) = wl G.2.1 (LF G) (G.2.1 + i)) : Ct l G mX10_lets 0 0 [.ref (G.2.1 + 32), .int 0, .int 2, .int 0] n k (va_up w (G.2.1 + 33) (ai G 26100 (upd (upd (upd (upd (sx 256) (1 : Int32).toNatClampNeg 1) (2 : Int32).toNatClampNeg 1) (1100 : Int32).toNatClampNeg 1) (1101 : Int32).toNatClampNeg 3))) (none, n, k, (va_up w (G.2.1 + 33) (ai G 26100 (upd (upd (upd (upd (upd (sx 256) (1 : Int32).toNatClampNeg 1) (2 : Int32).toNatClampNeg 1) (1100 : Int32).toNatClampNeg 1) (1101 : Int32).toNatClampNeg 3) (1102 : Int32).toNatClampNeg 0)))) := by
  refine Ct.of (by decide) (Nat.le_of_ble_eq_true rfl) ⟨Nat.le_refl _, Nat.le_refl _⟩ ?_
  show Go l G mX10_lets _ 0 [(0, .ref (G.2.1 + 32)), (1, .int 0), (2, .int 2), (3, .int 0)] [] n k (va_up w (G.2.1 + 33) (ai G 26100 (upd (upd (upd (upd (sx 256) (1 : Int32).toNatClampNeg 1) (2 : Int32).toNatClampNeg 1) (1100 : Int32).toNatClampNeg 1) (1101 : Int32).toNatClampNeg 3)))
  refine go_aload_n (pc := 0) dX10_lets_0 rfl rfl ?_
  refine go_get (pc := 1) fX10_9 rfl (gz_b (by omega)) ((va_up_ne _ _ (gz_ne (by decide))).trans ((hw 32 (by decide) (by decide)).trans (wl_at (i := 32) rfl))) rfl dX10_lets_1 ?_
  refine go_sipush (pc := 4) (v := 1100) dX10_lets_4 (by decide) ?_
  refine go_bipush (pc := 7) (v := 10) dX10_lets_7 (by decide) ?_
  refine go_iload_n (pc := 9) dX10_lets_9 rfl rfl ?_
  refine go_imul (pc := 10) dX10_lets_10 ?_
  refine go_top (y := 0) (by decide) ?_
  refine go_iadd (pc := 11) dX10_lets_11 ?_
  refine go_top (y := 1100) (by decide) ?_
  refine go_iload_n (pc := 12) dX10_lets_12 rfl rfl ?_
  refine go_iadd (pc := 13) dX10_lets_13 ?_
  refine go_top (y := 1102) (by decide) ?_
  refine go_iload_n (pc := 14) dX10_lets_14 rfl rfl ?_
  refine go_iast (pc := 15) (gz_b (by omega)) (va_up_self _ _ _) (gv_in (by decide)) dX10_lets_15 ?_
  refine go_w (va_up_up _ _ _ _) ?_
  exact go_vret (pc := 16) rfl dX10_lets_16
set_option maxRecDepth 100000 in
set_option maxHeartbeats 4000000 in
theorem cX10_lets_9 {l : Launch} {G : gG} {n k : Nat} {w : Nat → va_E} (hn : 42 ≤ n) (hw : ∀ i, 32 ≤ i → i < 42 → w (G.2.1 + i) = wl G.2.1 (LF G) (G.2.1 + i)) : Ct l G mX10_lets 0 0 [.ref (G.2.1 + 32), .int 0, .int 3, .int 0] n k (va_up w (G.2.1 + 33) (ai G 26100 (upd (upd (upd (upd (upd (sx 256) (1 : Int32).toNatClampNeg 1) (2 : Int32).toNatClampNeg 1) (1100 : Int32).toNatClampNeg 1) (1101 : Int32).toNatClampNeg 3) (1102 : Int32).toNatClampNeg 0))) (none, n, k, (va_up w (G.2.1 + 33) (ai G 26100 (upd (upd (upd (upd (upd (upd (sx 256) (1 : Int32).toNatClampNeg 1) (2 : Int32).toNatClampNeg 1) (1100 : Int32).toNatClampNeg 1) (1101 : Int32).toNatClampNeg 3) (1102 : Int32).toNatClampNeg 0) (1103 : Int32).toNatClampNeg 0)))) := by
  refine Ct.of (by decide) (Nat.le_of_ble_eq_true rfl) ⟨Nat.le_refl _, Nat.le_refl _⟩ ?_
  show Go l G mX10_lets _ 0 [(0, .ref (G.2.1 + 32)), (1, .int 0), (2, .int 3), (3, .int 0)] [] n k (va_up w (G.2.1 + 33) (ai G 26100 (upd (upd (upd (upd (upd (sx 256) (1 : Int32).toNatClampNeg 1) (2 : Int32).toNatClampNeg 1) (1100 : Int32).toNatClampNeg 1) (1101 : Int32).toNatClampNeg 3) (1102 : Int32).toNatClampNeg 0)))
  refine go_aload_n (pc := 0) dX10_lets_0 rfl rfl ?_
  refine go_get (pc := 1) fX10_9 rfl (gz_b (by omega)) ((va_up_ne _ _ (gz_ne (by decide))).trans ((hw 32 (by decide) (by decide)).trans (wl_at (i := 32) rfl))) rfl dX10_lets_1 ?_
  refine go_sipush (pc := 4) (v := 1100) dX10_lets_4 (by decide) ?_
  refine go_bipush (pc := 7) (v := 10) dX10_lets_7 (by decide) ?_
  refine go_iload_n (pc := 9) dX10_lets_9 rfl rfl ?_
  refine go_imul (pc := 10) dX10_lets_10 ?_
  refine go_top (y := 0) (by decide) ?_
  refine go_iadd (pc := 11) dX10_lets_11 ?_
  refine go_top (y := 1100) (by decide) ?_
  refine go_iload_n (pc := 12) dX10_lets_12 rfl rfl ?_
  refine go_iadd (pc := 13) dX10_lets_13 ?_
  refine go_top (y := 1103) (by decide) ?_
  refine go_iload_n (pc := 14) dX10_lets_14 rfl rfl ?_
  refine go_iast (pc := 15) (gz_b (by omega)) (va_up_self _ _ _) (gv_in (by decide)) dX10_lets_15 ?_
  refine go_w (va_up_up _ _ _ _) ?_
  exact go_vret (pc := 16) rfl dX10_lets_16
set_option maxRecDepth 100000 in
set_option maxHeartbeats 4000000 in
theorem cX10_lets_10 {l : Launch} {G : gG} {n k : Nat} {w : Nat → va_E} (hn : 42 ≤ n) (hw : ∀ i, 32 ≤ i → i < 42 → w (G.2.1 + i) = wl G.2.1 (LF G) (G.2.1 + i)) : Ct l G mX10_lets 0 0 [.ref (G.2.1 + 32), .int 0, .int 4, .int 0] n k (va_up w (G.2.1 + 33) (ai G 26100 (upd (upd (upd (upd (upd (upd (sx 256) (1 : Int32).toNatClampNeg 1) (2 : Int32).toNatClampNeg 1) (1100 : Int32).toNatClampNeg 1) (1101 : Int32).toNatClampNeg 3) (1102 : Int32).toNatClampNeg 0) (1103 : Int32).toNatClampNeg 0))) (none, n, k, (va_up w (G.2.1 + 33) (ai G 26100 (upd (upd (upd (upd (upd (upd (upd (sx 256) (1 : Int32).toNatClampNeg 1) (2 : Int32).toNatClampNeg 1) (1100 : Int32).toNatClampNeg 1) (1101 : Int32).toNatClampNeg 3) (1102 : Int32).toNatClampNeg 0) (1103 : Int32).toNatClampNeg 0) (1104 : Int32).toNatClampNeg 0)))) := by
  refine Ct.of (by decide) (Nat.le_of_ble_eq_true rfl) ⟨Nat.le_refl _, Nat.le_refl _⟩ ?_
  show Go l G mX10_lets _ 0 [(0, .ref (G.2.1 + 32)), (1, .int 0), (2, .int 4), (3, .int 0)] [] n k (va_up w (G.2.1 + 33) (ai G 26100 (upd (upd (upd (upd (upd (upd (sx 256) (1 : Int32).toNatClampNeg 1) (2 : Int32).toNatClampNeg 1) (1100 : Int32).toNatClampNeg 1) (1101 : Int32).toNatClampNeg 3) (1102 : Int32).toNatClampNeg 0) (1103 : Int32).toNatClampNeg 0)))
  refine go_aload_n (pc := 0) dX10_lets_0 rfl rfl ?_
  refine go_get (pc := 1) fX10_9 rfl (gz_b (by omega)) ((va_up_ne _ _ (gz_ne (by decide))).trans ((hw 32 (by decide) (by decide)).trans (wl_at (i := 32) rfl))) rfl dX10_lets_1 ?_
  refine go_sipush (pc := 4) (v := 1100) dX10_lets_4 (by decide) ?_
  refine go_bipush (pc := 7) (v := 10) dX10_lets_7 (by decide) ?_
  refine go_iload_n (pc := 9) dX10_lets_9 rfl rfl ?_
  refine go_imul (pc := 10) dX10_lets_10 ?_
  refine go_top (y := 0) (by decide) ?_
  refine go_iadd (pc := 11) dX10_lets_11 ?_
  refine go_top (y := 1100) (by decide) ?_
  refine go_iload_n (pc := 12) dX10_lets_12 rfl rfl ?_
  refine go_iadd (pc := 13) dX10_lets_13 ?_
  refine go_top (y := 1104) (by decide) ?_
  refine go_iload_n (pc := 14) dX10_lets_14 rfl rfl ?_
  refine go_iast (pc := 15) (gz_b (by omega)) (va_up_self _ _ _) (gv_in (by decide)) dX10_lets_15 ?_
  refine go_w (va_up_up _ _ _ _) ?_
  exact go_vret (pc := 16) rfl dX10_lets_16
set_option maxRecDepth 100000 in
set_option maxHeartbeats 4000000 in
theorem cX10_lets_11 {l : Launch} {G : gG} {n k : Nat} {w : Nat → va_E} (hn : 42 ≤ n) (hw : ∀ i, 32 ≤ i → i < 42 → w (G.2.1 + i) = wl G.2.1 (LF G) (G.2.1 + i)) : Ct l G mX10_lets 0 0 [.ref (G.2.1 + 32), .int 0, .int 5, .int 0] n k (va_up w (G.2.1 + 33) (ai G 26100 (upd (upd (upd (upd (upd (upd (upd (sx 256) (1 : Int32).toNatClampNeg 1) (2 : Int32).toNatClampNeg 1) (1100 : Int32).toNatClampNeg 1) (1101 : Int32).toNatClampNeg 3) (1102 : Int32).toNatClampNeg 0) (1103 : Int32).toNatClampNeg 0) (1104 : Int32).toNatClampNeg 0))) (none, n, k, (va_up w (G.2.1 + 33) (ai G 26100 (upd (upd (upd (upd (upd (upd (upd (upd (sx 256) (1 : Int32).toNatClampNeg 1) (2 : Int32).toNatClampNeg 1) (1100 : Int32).toNatClampNeg 1) (1101 : Int32).toNatClampNeg 3) (1102 : Int32).toNatClampNeg 0) (1103 : Int32).toNatClampNeg 0) (1104 : Int32).toNatClampNeg 0) (1105 : Int32).toNatClampNeg 0)))) := by
  refine Ct.of (by decide) (Nat.le_of_ble_eq_true rfl) ⟨Nat.le_refl _, Nat.le_refl _⟩ ?_
  show Go l G mX10_lets _ 0 [(0, .ref (G.2.1 + 32)), (1, .int 0), (2, .int 5), (3, .int 0)] [] n k (va_up w (G.2.1 + 33) (ai G 26100 (upd (upd (upd (upd (upd (upd (upd (sx 256) (1 : Int32).toNatClampNeg 1) (2 : Int32).toNatClampNeg 1) (1100 : Int32).toNatClampNeg 1) (1101 : Int32).toNatClampNeg 3) (1102 : Int32).toNatClampNeg 0) (1103 : Int32).toNatClampNeg 0) (1104 : Int32).toNatClampNeg 0)))
  refine go_aload_n (pc := 0) dX10_lets_0 rfl rfl ?_
  refine go_get (pc := 1) fX10_9 rfl (gz_b (by omega)) ((va_up_ne _ _ (gz_ne (by decide))).trans ((hw 32 (by decide) (by decide)).trans (wl_at (i := 32) rfl))) rfl dX10_lets_1 ?_
  refine go_sipush (pc := 4) (v := 1100) dX10_lets_4 (by decide) ?_
  refine go_bipush (pc := 7) (v := 10) dX10_lets_7 (by decide) ?_
  refine go_iload_n (pc := 9) dX10_lets_9 rfl rfl ?_
  refine go_imul (pc := 10) dX10_lets_10 ?_
  refine go_top (y := 0) (by decide) ?_
  refine go_iadd (pc := 11) dX10_lets_11 ?_
  refine go_top (y := 1100) (by decide) ?_
  refine go_iload_n (pc := 12) dX10_lets_12 rfl rfl ?_
  refine go_iadd (pc := 13) dX10_lets_13 ?_
  refine go_top (y := 1105) (by decide) ?_
  refine go_iload_n (pc := 14) dX10_lets_14 rfl rfl ?_
  refine go_iast (pc := 15) (gz_b (by omega)) (va_up_self _ _ _) (gv_in (by decide)) dX10_lets_15 ?_
  refine go_w (va_up_up _ _ _ _) ?_
  exact go_vret (pc := 16) rfl dX10_lets_16
set_option maxRecDepth 100000 in
set_option maxHeartbeats 4000000 in
theorem cX10_hasMany_5 {l : Launch} {G : gG} {n k : Nat} {w : Nat → va_E} (hn : 42 ≤ n) (hw : ∀ i, 32 ≤ i → i < 42 → w (G.2.1 + i) = wl G.2.1 (LF G) (G.2.1 + i)) : Ct l G mX10_hasMany 0 0 [.int 3] n k (va_up w (G.2.1 + 33) (ai G 26100 (upd (upd (upd (upd (upd (upd (upd (upd (upd (sx 256) (1 : Int32).toNatClampNeg 1) (2 : Int32).toNatClampNeg 1) (1100 : Int32).toNatClampNeg 1) (1101 : Int32).toNatClampNeg 3) (1102 : Int32).toNatClampNeg 0) (1103 : Int32).toNatClampNeg 0) (1104 : Int32).toNatClampNeg 0) (1105 : Int32).toNatClampNeg 0) (6100 : Int32).toNatClampNeg 3))) (some (.int 0), n, k, (va_up w (G.2.1 + 33) (ai G 26100 (upd (upd (upd (upd (upd (upd (upd (upd (upd (sx 256) (1 : Int32).toNatClampNeg 1) (2 : Int32).toNatClampNeg 1) (1100 : Int32).toNatClampNeg 1) (1101 : Int32).toNatClampNeg 3) (1102 : Int32).toNatClampNeg 0) (1103 : Int32).toNatClampNeg 0) (1104 : Int32).toNatClampNeg 0) (1105 : Int32).toNatClampNeg 0) (6100 : Int32).toNatClampNeg 3)))) := by
  refine Ct.of (by decide) (Nat.le_of_ble_eq_true rfl) ⟨Nat.le_refl _, Nat.le_refl _⟩ ?_
  show Go l G mX10_hasMany _ 0 [(0, .int 3)] [] n k (va_up w (G.2.1 + 33) (ai G 26100 (upd (upd (upd (upd (upd (upd (upd (upd (upd (sx 256) (1 : Int32).toNatClampNeg 1) (2 : Int32).toNatClampNeg 1) (1100 : Int32).toNatClampNeg 1) (1101 : Int32).toNatClampNeg 3) (1102 : Int32).toNatClampNeg 0) (1103 : Int32).toNatClampNeg 0) (1104 : Int32).toNatClampNeg 0) (1105 : Int32).toNatClampNeg 0) (6100 : Int32).toNatClampNeg 3)))
  refine go_iload_n (pc := 0) dX10_hasMany_0 rfl rfl ?_
  refine go_iconst (pc := 1) (v := 1) dX10_hasMany_1 (by decide) ?_
  refine go_icmp_eq_f (pc := 2) (tgt := 15) dX10_hasMany_2 (by decide) (by decide) ?_
  refine go_iload_n (pc := 5) dX10_hasMany_5 rfl rfl ?_
  refine go_iconst (pc := 6) (v := 2) dX10_hasMany_6 (by decide) ?_
  refine go_icmp_eq_f (pc := 7) (tgt := 15) dX10_hasMany_7 (by decide) (by decide) ?_
  refine go_iload_n (pc := 10) dX10_hasMany_10 rfl rfl ?_
  refine go_iconst (pc := 11) (v := 5) dX10_hasMany_11 (by decide) ?_
  refine go_icmp_ne_t (pc := 12) (tgt := 19) dX10_hasMany_12 (by decide) (by decide) ?_
  refine go_iconst (pc := 19) (v := 0) dX10_hasMany_19 (by decide) ?_
  exact go_zret (pc := 20) rfl rfl dX10_hasMany_20
set_option maxRecDepth 100000 in
set_option maxHeartbeats 4000000 in
theorem cX10_of_5 {l : Launch} {G : gG} {n k : Nat} {w : Nat → va_E} (hn : 42 ≤ n) (hw : ∀ i, 32 ≤ i → i < 42 → w (G.2.1 + i) = wl G.2.1 (LF G) (G.2.1 + i)) : Ct l G mX10_of 0 0 [.ref (G.2.1 + 32), .int 0, .int 1] n k (va_up w (G.2.1 + 33) (ai G 26100 (upd (upd (upd (upd (upd (upd (upd (upd (upd (sx 256) (1 : Int32).toNatClampNeg 1) (2 : Int32).toNatClampNeg 1) (1100 : Int32).toNatClampNeg 1) (1101 : Int32).toNatClampNeg 3) (1102 : Int32).toNatClampNeg 0) (1103 : Int32).toNatClampNeg 0) (1104 : Int32).toNatClampNeg 0) (1105 : Int32).toNatClampNeg 0) (6100 : Int32).toNatClampNeg 3))) (some (.int 3), n, k, (va_up w (G.2.1 + 33) (ai G 26100 (upd (upd (upd (upd (upd (upd (upd (upd (upd (sx 256) (1 : Int32).toNatClampNeg 1) (2 : Int32).toNatClampNeg 1) (1100 : Int32).toNatClampNeg 1) (1101 : Int32).toNatClampNeg 3) (1102 : Int32).toNatClampNeg 0) (1103 : Int32).toNatClampNeg 0) (1104 : Int32).toNatClampNeg 0) (1105 : Int32).toNatClampNeg 0) (6100 : Int32).toNatClampNeg 3)))) := by
  refine Ct.of (by decide) (Nat.le_of_ble_eq_true rfl) ⟨Nat.le_refl _, Nat.le_refl _⟩ ?_
  show Go l G mX10_of _ 0 [(0, .ref (G.2.1 + 32)), (1, .int 0), (2, .int 1)] [] n k (va_up w (G.2.1 + 33) (ai G 26100 (upd (upd (upd (upd (upd (upd (upd (upd (upd (sx 256) (1 : Int32).toNatClampNeg 1) (2 : Int32).toNatClampNeg 1) (1100 : Int32).toNatClampNeg 1) (1101 : Int32).toNatClampNeg 3) (1102 : Int32).toNatClampNeg 0) (1103 : Int32).toNatClampNeg 0) (1104 : Int32).toNatClampNeg 0) (1105 : Int32).toNatClampNeg 0) (6100 : Int32).toNatClampNeg 3)))
  refine go_aload_n (pc := 0) dX10_of_0 rfl rfl ?_
  refine go_get (pc := 1) fX10_9 rfl (gz_b (by omega)) ((va_up_ne _ _ (gz_ne (by decide))).trans ((hw 32 (by decide) (by decide)).trans (wl_at (i := 32) rfl))) rfl dX10_of_1 ?_
  refine go_sipush (pc := 4) (v := 1100) dX10_of_4 (by decide) ?_
  refine go_bipush (pc := 7) (v := 10) dX10_of_7 (by decide) ?_
  refine go_iload_n (pc := 9) dX10_of_9 rfl rfl ?_
  refine go_imul (pc := 10) dX10_of_10 ?_
  refine go_top (y := 0) (by decide) ?_
  refine go_iadd (pc := 11) dX10_of_11 ?_
  refine go_top (y := 1100) (by decide) ?_
  refine go_iload_n (pc := 12) dX10_of_12 rfl rfl ?_
  refine go_iadd (pc := 13) dX10_of_13 ?_
  refine go_top (y := 1101) (by decide) ?_
  refine go_iald (pc := 14) (gz_b (by omega)) (va_up_self _ _ _) (gv_in (by decide)) dX10_of_14 ?_
  refine go_top (y := 3) rfl ?_
  exact go_iret (pc := 15) rfl dX10_of_15
set_option maxRecDepth 100000 in
set_option maxHeartbeats 4000000 in
theorem cX10_linksOf_2 {l : Launch} {G : gG} {n k : Nat} {w : Nat → va_E} (hn : 42 ≤ n) (hw : ∀ i, 32 ≤ i → i < 42 → w (G.2.1 + i) = wl G.2.1 (LF G) (G.2.1 + i)) : Ct l G mX10_linksOf 1 22 [.ref (G.2.1 + 32), .int 0] n k (va_up w (G.2.1 + 33) (ai G 26100 (upd (upd (upd (upd (upd (upd (upd (upd (upd (sx 256) (1 : Int32).toNatClampNeg 1) (2 : Int32).toNatClampNeg 1) (1100 : Int32).toNatClampNeg 1) (1101 : Int32).toNatClampNeg 3) (1102 : Int32).toNatClampNeg 0) (1103 : Int32).toNatClampNeg 0) (1104 : Int32).toNatClampNeg 0) (1105 : Int32).toNatClampNeg 0) (6100 : Int32).toNatClampNeg 3))) (some (.int 1), n, k, (va_up w (G.2.1 + 33) (ai G 26100 (upd (upd (upd (upd (upd (upd (upd (upd (upd (sx 256) (1 : Int32).toNatClampNeg 1) (2 : Int32).toNatClampNeg 1) (1100 : Int32).toNatClampNeg 1) (1101 : Int32).toNatClampNeg 3) (1102 : Int32).toNatClampNeg 0) (1103 : Int32).toNatClampNeg 0) (1104 : Int32).toNatClampNeg 0) (1105 : Int32).toNatClampNeg 0) (6100 : Int32).toNatClampNeg 3)))) := by
  refine Ct.of (by decide) (Nat.le_of_ble_eq_true rfl) ⟨Nat.le_refl _, Nat.le_refl _⟩ ?_
  show Go l G mX10_linksOf _ 0 [(0, .ref (G.2.1 + 32)), (1, .int 0)] [] n k (va_up w (G.2.1 + 33) (ai G 26100 (upd (upd (upd (upd (upd (upd (upd (upd (upd (sx 256) (1 : Int32).toNatClampNeg 1) (2 : Int32).toNatClampNeg 1) (1100 : Int32).toNatClampNeg 1) (1101 : Int32).toNatClampNeg 3) (1102 : Int32).toNatClampNeg 0) (1103 : Int32).toNatClampNeg 0) (1104 : Int32).toNatClampNeg 0) (1105 : Int32).toNatClampNeg 0) (6100 : Int32).toNatClampNeg 3)))
  refine go_aload_n (pc := 0) dX10_linksOf_0 rfl rfl ?_
  refine go_iload_n (pc := 1) dX10_linksOf_1 rfl rfl ?_
  refine go_iconst (pc := 2) (v := 1) dX10_linksOf_2 (by decide) ?_
  refine go_callV_i (pc := 3) vX10_71 rfl (cX10_of_5 hn hw) rfl rfl (gz_b (by omega)) ((va_up_ne _ _ (gz_ne (by decide))).trans ((hw 32 (by decide) (by decide)).trans (wl_at (i := 32) rfl))) rfl (Nat.le_of_ble_eq_true rfl) ⟨Nat.le_of_ble_eq_true rfl, Nat.le_of_ble_eq_true rfl, (Nat.le_add_right _ _), (Nat.le_add_right _ _)⟩ dX10_linksOf_3 ?_
  refine go_istore_n (pc := 6) (lv' := [(2, .int 3), (0, .ref (G.2.1 + 32)), (1, .int 0)]) dX10_linksOf_6 rfl (by decide) rfl ?_
  refine go_iload_n (pc := 7) dX10_linksOf_7 rfl rfl ?_
  refine go_if_ne_t (pc := 8) (tgt := 15) dX10_linksOf_8 (by decide) (by decide) ?_
  refine go_iload_n (pc := 15) dX10_linksOf_15 rfl rfl ?_
  refine go_iconst (pc := 16) (v := 3) dX10_linksOf_16 (by decide) ?_
  refine go_icmp_eq_t (pc := 17) (tgt := 25) dX10_linksOf_17 (by decide) (by decide) ?_
  refine go_iconst (pc := 25) (v := 1) dX10_linksOf_25 (by decide) ?_
  refine go_goto (pc := 26) (tgt := 44) dX10_linksOf_26 (by decide) ?_
  exact go_iret (pc := 44) rfl dX10_linksOf_44
set_option maxRecDepth 100000 in
set_option maxHeartbeats 4000000 in
theorem cX10_of_6 {l : Launch} {G : gG} {n k : Nat} {w : Nat → va_E} (hn : 42 ≤ n) (hw : ∀ i, 32 ≤ i → i < 42 → w (G.2.1 + i) = wl G.2.1 (LF G) (G.2.1 + i)) : Ct l G mX10_of 0 0 [.ref (G.2.1 + 32), .int 0, .int 2] n k (va_up w (G.2.1 + 33) (ai G 26100 (upd (upd (upd (upd (upd (upd (upd (upd (upd (sx 256) (1 : Int32).toNatClampNeg 1) (2 : Int32).toNatClampNeg 1) (1100 : Int32).toNatClampNeg 1) (1101 : Int32).toNatClampNeg 3) (1102 : Int32).toNatClampNeg 0) (1103 : Int32).toNatClampNeg 0) (1104 : Int32).toNatClampNeg 0) (1105 : Int32).toNatClampNeg 0) (6100 : Int32).toNatClampNeg 3))) (some (.int 0), n, k, (va_up w (G.2.1 + 33) (ai G 26100 (upd (upd (upd (upd (upd (upd (upd (upd (upd (sx 256) (1 : Int32).toNatClampNeg 1) (2 : Int32).toNatClampNeg 1) (1100 : Int32).toNatClampNeg 1) (1101 : Int32).toNatClampNeg 3) (1102 : Int32).toNatClampNeg 0) (1103 : Int32).toNatClampNeg 0) (1104 : Int32).toNatClampNeg 0) (1105 : Int32).toNatClampNeg 0) (6100 : Int32).toNatClampNeg 3)))) := by
  refine Ct.of (by decide) (Nat.le_of_ble_eq_true rfl) ⟨Nat.le_refl _, Nat.le_refl _⟩ ?_
  show Go l G mX10_of _ 0 [(0, .ref (G.2.1 + 32)), (1, .int 0), (2, .int 2)] [] n k (va_up w (G.2.1 + 33) (ai G 26100 (upd (upd (upd (upd (upd (upd (upd (upd (upd (sx 256) (1 : Int32).toNatClampNeg 1) (2 : Int32).toNatClampNeg 1) (1100 : Int32).toNatClampNeg 1) (1101 : Int32).toNatClampNeg 3) (1102 : Int32).toNatClampNeg 0) (1103 : Int32).toNatClampNeg 0) (1104 : Int32).toNatClampNeg 0) (1105 : Int32).toNatClampNeg 0) (6100 : Int32).toNatClampNeg 3)))
  refine go_aload_n (pc := 0) dX10_of_0 rfl rfl ?_
  refine go_get (pc := 1) fX10_9 rfl (gz_b (by omega)) ((va_up_ne _ _ (gz_ne (by decide))).trans ((hw 32 (by decide) (by decide)).trans (wl_at (i := 32) rfl))) rfl dX10_of_1 ?_
  refine go_sipush (pc := 4) (v := 1100) dX10_of_4 (by decide) ?_
  refine go_bipush (pc := 7) (v := 10) dX10_of_7 (by decide) ?_
  refine go_iload_n (pc := 9) dX10_of_9 rfl rfl ?_
  refine go_imul (pc := 10) dX10_of_10 ?_
  refine go_top (y := 0) (by decide) ?_
  refine go_iadd (pc := 11) dX10_of_11 ?_
  refine go_top (y := 1100) (by decide) ?_
  refine go_iload_n (pc := 12) dX10_of_12 rfl rfl ?_
  refine go_iadd (pc := 13) dX10_of_13 ?_
  refine go_top (y := 1102) (by decide) ?_
  refine go_iald (pc := 14) (gz_b (by omega)) (va_up_self _ _ _) (gv_in (by decide)) dX10_of_14 ?_
  refine go_top (y := 0) rfl ?_
  exact go_iret (pc := 15) rfl dX10_of_15
set_option maxRecDepth 100000 in
set_option maxHeartbeats 4000000 in
theorem cX10_linkAt_3 {l : Launch} {G : gG} {n k : Nat} {w : Nat → va_E} (hn : 42 ≤ n) (hw : ∀ i, 32 ≤ i → i < 42 → w (G.2.1 + i) = wl G.2.1 (LF G) (G.2.1 + i)) : Ct l G mX10_linkAt 1 22 [.ref (G.2.1 + 32), .int 0, .int 0] n k (va_up w (G.2.1 + 33) (ai G 26100 (upd (upd (upd (upd (upd (upd (upd (upd (upd (sx 256) (1 : Int32).toNatClampNeg 1) (2 : Int32).toNatClampNeg 1) (1100 : Int32).toNatClampNeg 1) (1101 : Int32).toNatClampNeg 3) (1102 : Int32).toNatClampNeg 0) (1103 : Int32).toNatClampNeg 0) (1104 : Int32).toNatClampNeg 0) (1105 : Int32).toNatClampNeg 0) (6100 : Int32).toNatClampNeg 3))) (some (.int 6101), n, k, (va_up w (G.2.1 + 33) (ai G 26100 (upd (upd (upd (upd (upd (upd (upd (upd (upd (sx 256) (1 : Int32).toNatClampNeg 1) (2 : Int32).toNatClampNeg 1) (1100 : Int32).toNatClampNeg 1) (1101 : Int32).toNatClampNeg 3) (1102 : Int32).toNatClampNeg 0) (1103 : Int32).toNatClampNeg 0) (1104 : Int32).toNatClampNeg 0) (1105 : Int32).toNatClampNeg 0) (6100 : Int32).toNatClampNeg 3)))) := by
  refine Ct.of (by decide) (Nat.le_of_ble_eq_true rfl) ⟨Nat.le_refl _, Nat.le_refl _⟩ ?_
  show Go l G mX10_linkAt _ 0 [(0, .ref (G.2.1 + 32)), (1, .int 0), (2, .int 0)] [] n k (va_up w (G.2.1 + 33) (ai G 26100 (upd (upd (upd (upd (upd (upd (upd (upd (upd (sx 256) (1 : Int32).toNatClampNeg 1) (2 : Int32).toNatClampNeg 1) (1100 : Int32).toNatClampNeg 1) (1101 : Int32).toNatClampNeg 3) (1102 : Int32).toNatClampNeg 0) (1103 : Int32).toNatClampNeg 0) (1104 : Int32).toNatClampNeg 0) (1105 : Int32).toNatClampNeg 0) (6100 : Int32).toNatClampNeg 3)))
  refine go_aload_n (pc := 0) dX10_linkAt_0 rfl rfl ?_
  refine go_iload_n (pc := 1) dX10_linkAt_1 rfl rfl ?_
  refine go_iconst (pc := 2) (v := 1) dX10_linkAt_2 (by decide) ?_
  refine go_callV_i (pc := 3) vX10_71 rfl (cX10_of_5 hn hw) rfl rfl (gz_b (by omega)) ((va_up_ne _ _ (gz_ne (by decide))).trans ((hw 32 (by decide) (by decide)).trans (wl_at (i := 32) rfl))) rfl (Nat.le_of_ble_eq_true rfl) ⟨Nat.le_of_ble_eq_true rfl, Nat.le_of_ble_eq_true rfl, (Nat.le_add_right _ _), (Nat.le_add_right _ _)⟩ dX10_linkAt_3 ?_
  refine go_istore_n (pc := 6) (lv' := [(3, .int 3), (0, .ref (G.2.1 + 32)), (1, .int 0), (2, .int 0)]) dX10_linkAt_6 rfl (by decide) rfl ?_
  refine go_sipush (pc := 7) (v := 6100) dX10_linkAt_7 (by decide) ?_
  refine go_aload_n (pc := 10) dX10_linkAt_10 rfl rfl ?_
  refine go_iload_n (pc := 11) dX10_linkAt_11 rfl rfl ?_
  refine go_iconst (pc := 12) (v := 2) dX10_linkAt_12 (by decide) ?_
  refine go_callV_i (pc := 13) vX10_71 rfl (cX10_of_6 hn hw) rfl rfl (gz_b (by omega)) ((va_up_ne _ _ (gz_ne (by decide))).trans ((hw 32 (by decide) (by decide)).trans (wl_at (i := 32) rfl))) rfl (Nat.le_of_ble_eq_true rfl) ⟨Nat.le_of_ble_eq_true rfl, Nat.le_of_ble_eq_true rfl, (Nat.le_add_right _ _), (Nat.le_add_right _ _)⟩ dX10_linkAt_13 ?_
  refine go_iadd (pc := 16) dX10_linkAt_16 ?_
  refine go_top (y := 6100) (by decide) ?_
  refine go_iload_n (pc := 17) dX10_linkAt_17 rfl rfl ?_
  refine go_iconst (pc := 18) (v := 1) dX10_linkAt_18 (by decide) ?_
  refine go_icmp_eq_f (pc := 19) (tgt := 27) dX10_linkAt_19 (by decide) (by decide) ?_
  refine go_iload_n (pc := 22) dX10_linkAt_22 rfl rfl ?_
  refine go_iconst (pc := 23) (v := 5) dX10_linkAt_23 (by decide) ?_
  refine go_icmp_ne_t (pc := 24) (tgt := 31) dX10_linkAt_24 (by decide) (by decide) ?_
  refine go_iconst (pc := 31) (v := 1) dX10_linkAt_31 (by decide) ?_
  refine go_iadd (pc := 32) dX10_linkAt_32 ?_
  refine go_top (y := 6101) (by decide) ?_
  refine go_iload_n (pc := 33) dX10_linkAt_33 rfl rfl ?_
  refine go_iadd (pc := 34) dX10_linkAt_34 ?_
  refine go_top (y := 6101) (by decide) ?_
  exact go_iret (pc := 35) rfl dX10_linkAt_35
set_option maxRecDepth 100000 in
set_option maxHeartbeats 4000000 in
theorem cX10_of_7 {l : Launch} {G : gG} {n k : Nat} {w : Nat → va_E} (hn : 42 ≤ n) (hw : ∀ i, 32 ≤ i → i < 42 → w (G.2.1 + i) = wl G.2.1 (LF G) (G.2.1 + i)) : Ct l G mX10_of 0 0 [.ref (G.2.1 + 32), .int 0, .int 2] n k (va_up w (G.2.1 + 33) (ai G 26100 (upd (upd (upd (upd (upd (upd (upd (upd (upd (upd (sx 256) (1 : Int32).toNatClampNeg 1) (2 : Int32).toNatClampNeg 1) (1100 : Int32).toNatClampNeg 1) (1101 : Int32).toNatClampNeg 3) (1102 : Int32).toNatClampNeg 0) (1103 : Int32).toNatClampNeg 0) (1104 : Int32).toNatClampNeg 0) (1105 : Int32).toNatClampNeg 0) (6100 : Int32).toNatClampNeg 3) (6101 : Int32).toNatClampNeg ((-1))))) (some (.int 0), n, k, (va_up w (G.2.1 + 33) (ai G 26100 (upd (upd (upd (upd (upd (upd (upd (upd (upd (upd (sx 256) (1 : Int32).toNatClampNeg 1) (2 : Int32).toNatClampNeg 1) (1100 : Int32).toNatClampNeg 1) (1101 : Int32).toNatClampNeg 3) (1102 : Int32).toNatClampNeg 0) (1103 : Int32).toNatClampNeg 0) (1104 : Int32).toNatClampNeg 0) (1105 : Int32).toNatClampNeg 0) (6100 : Int32).toNatClampNeg 3) (6101 : Int32).toNatClampNeg ((-1)))))) := by
  refine Ct.of (by decide) (Nat.le_of_ble_eq_true rfl) ⟨Nat.le_refl _, Nat.le_refl _⟩ ?_
  show Go l G mX10_of _ 0 [(0, .ref (G.2.1 + 32)), (1, .int 0), (2, .int 2)] [] n k (va_up w (G.2.1 + 33) (ai G 26100 (upd (upd (upd (upd (upd (upd (upd (upd (upd (upd (sx 256) (1 : Int32).toNatClampNeg 1) (2 : Int32).toNatClampNeg 1) (1100 : Int32).toNatClampNeg 1) (1101 : Int32).toNatClampNeg 3) (1102 : Int32).toNatClampNeg 0) (1103 : Int32).toNatClampNeg 0) (1104 : Int32).toNatClampNeg 0) (1105 : Int32).toNatClampNeg 0) (6100 : Int32).toNatClampNeg 3) (6101 : Int32).toNatClampNeg ((-1)))))
  refine go_aload_n (pc := 0) dX10_of_0 rfl rfl ?_
  refine go_get (pc := 1) fX10_9 rfl (gz_b (by omega)) ((va_up_ne _ _ (gz_ne (by decide))).trans ((hw 32 (by decide) (by decide)).trans (wl_at (i := 32) rfl))) rfl dX10_of_1 ?_
  refine go_sipush (pc := 4) (v := 1100) dX10_of_4 (by decide) ?_
  refine go_bipush (pc := 7) (v := 10) dX10_of_7 (by decide) ?_
  refine go_iload_n (pc := 9) dX10_of_9 rfl rfl ?_
  refine go_imul (pc := 10) dX10_of_10 ?_
  refine go_top (y := 0) (by decide) ?_
  refine go_iadd (pc := 11) dX10_of_11 ?_
  refine go_top (y := 1100) (by decide) ?_
  refine go_iload_n (pc := 12) dX10_of_12 rfl rfl ?_
  refine go_iadd (pc := 13) dX10_of_13 ?_
  refine go_top (y := 1102) (by decide) ?_
  refine go_iald (pc := 14) (gz_b (by omega)) (va_up_self _ _ _) (gv_in (by decide)) dX10_of_14 ?_
  refine go_top (y := 0) rfl ?_
  exact go_iret (pc := 15) rfl dX10_of_15
set_option maxRecDepth 100000 in
set_option maxHeartbeats 4000000 in
theorem cX10_weakAt_1 {l : Launch} {G : gG} {n k : Nat} {w : Nat → va_E} (hn : 42 ≤ n) (hw : ∀ i, 32 ≤ i → i < 42 → w (G.2.1 + i) = wl G.2.1 (LF G) (G.2.1 + i)) : Ct l G mX10_weakAt 1 22 [.ref (G.2.1 + 32), .int 0] n k (va_up w (G.2.1 + 33) (ai G 26100 (upd (upd (upd (upd (upd (upd (upd (upd (upd (upd (sx 256) (1 : Int32).toNatClampNeg 1) (2 : Int32).toNatClampNeg 1) (1100 : Int32).toNatClampNeg 1) (1101 : Int32).toNatClampNeg 3) (1102 : Int32).toNatClampNeg 0) (1103 : Int32).toNatClampNeg 0) (1104 : Int32).toNatClampNeg 0) (1105 : Int32).toNatClampNeg 0) (6100 : Int32).toNatClampNeg 3) (6101 : Int32).toNatClampNeg ((-1))))) (some (.int 6102), n, k, (va_up w (G.2.1 + 33) (ai G 26100 (upd (upd (upd (upd (upd (upd (upd (upd (upd (upd (sx 256) (1 : Int32).toNatClampNeg 1) (2 : Int32).toNatClampNeg 1) (1100 : Int32).toNatClampNeg 1) (1101 : Int32).toNatClampNeg 3) (1102 : Int32).toNatClampNeg 0) (1103 : Int32).toNatClampNeg 0) (1104 : Int32).toNatClampNeg 0) (1105 : Int32).toNatClampNeg 0) (6100 : Int32).toNatClampNeg 3) (6101 : Int32).toNatClampNeg ((-1)))))) := by
  refine Ct.of (by decide) (Nat.le_of_ble_eq_true rfl) ⟨Nat.le_refl _, Nat.le_refl _⟩ ?_
  show Go l G mX10_weakAt _ 0 [(0, .ref (G.2.1 + 32)), (1, .int 0)] [] n k (va_up w (G.2.1 + 33) (ai G 26100 (upd (upd (upd (upd (upd (upd (upd (upd (upd (upd (sx 256) (1 : Int32).toNatClampNeg 1) (2 : Int32).toNatClampNeg 1) (1100 : Int32).toNatClampNeg 1) (1101 : Int32).toNatClampNeg 3) (1102 : Int32).toNatClampNeg 0) (1103 : Int32).toNatClampNeg 0) (1104 : Int32).toNatClampNeg 0) (1105 : Int32).toNatClampNeg 0) (6100 : Int32).toNatClampNeg 3) (6101 : Int32).toNatClampNeg ((-1)))))
  refine go_sipush (pc := 0) (v := 6100) dX10_weakAt_0 (by decide) ?_
  refine go_aload_n (pc := 3) dX10_weakAt_3 rfl rfl ?_
  refine go_iload_n (pc := 4) dX10_weakAt_4 rfl rfl ?_
  refine go_iconst (pc := 5) (v := 2) dX10_weakAt_5 (by decide) ?_
  refine go_callV_i (pc := 6) vX10_71 rfl (cX10_of_7 hn hw) rfl rfl (gz_b (by omega)) ((va_up_ne _ _ (gz_ne (by decide))).trans ((hw 32 (by decide) (by decide)).trans (wl_at (i := 32) rfl))) rfl (Nat.le_of_ble_eq_true rfl) ⟨Nat.le_of_ble_eq_true rfl, Nat.le_of_ble_eq_true rfl, (Nat.le_add_right _ _), (Nat.le_add_right _ _)⟩ dX10_weakAt_6 ?_
  refine go_iadd (pc := 9) dX10_weakAt_9 ?_
  refine go_top (y := 6100) (by decide) ?_
  refine go_iconst (pc := 10) (v := 2) dX10_weakAt_10 (by decide) ?_
  refine go_iadd (pc := 11) dX10_weakAt_11 ?_
  refine go_top (y := 6102) (by decide) ?_
  exact go_iret (pc := 12) rfl dX10_weakAt_12
set_option maxRecDepth 100000 in
set_option maxHeartbeats 4000000 in
theorem cX10_makes_2 {l : Launch} {G : gG} (x2 : Int32) {n k : Nat} {w : Nat → va_E} (hn : 42 ≤ n) (hw : ∀ i, 32 ≤ i → i < 42 → w (G.2.1 + i) = wl G.2.1 (LF G) (G.2.1 + i)) : Ct l G mX10_makes 2 45 [.ref (G.2.1 + 32), .int 3, .int x2] n k w (some (.int 0), n, k, (va_up w (G.2.1 + 33) (ai G 26100 (upd (upd (upd (upd (upd (upd (upd (upd (upd (upd (upd (upd (sx 256) (1 : Int32).toNatClampNeg 1) (2 : Int32).toNatClampNeg 1) (1100 : Int32).toNatClampNeg 1) (1101 : Int32).toNatClampNeg 3) (1102 : Int32).toNatClampNeg 0) (1103 : Int32).toNatClampNeg 0) (1104 : Int32).toNatClampNeg 0) (1105 : Int32).toNatClampNeg 0) (6100 : Int32).toNatClampNeg 3) (6101 : Int32).toNatClampNeg ((-1))) (6102 : Int32).toNatClampNeg ((-1))) (16 : Int32).toNatClampNeg 3)))) := by
  refine Ct.of (by decide) (Nat.le_of_ble_eq_true rfl) ⟨Nat.le_refl _, Nat.le_refl _⟩ ?_
  show Go l G mX10_makes _ 0 [(0, .ref (G.2.1 + 32)), (1, .int 3), (2, .int x2)] [] n k w
  refine go_iload_n (pc := 0) dX10_makes_0 rfl rfl ?_
  refine go_callS_i (pc := 1) sX10_138 rfl (cX10_hasMany_4 hn hw) rfl rfl (Nat.le_of_ble_eq_true rfl) ⟨Nat.le_of_ble_eq_true rfl, Nat.le_of_ble_eq_true rfl, (Nat.le_add_right _ _), (Nat.le_add_right _ _)⟩ dX10_makes_1 ?_
  refine go_if_eq_t (pc := 4) (tgt := 11) dX10_makes_4 (by decide) (by decide) ?_
  refine go_iconst (pc := 11) (v := 0) dX10_makes_11 (by decide) ?_
  refine go_istore_n (pc := 12) (lv' := [(3, .int 0), (0, .ref (G.2.1 + 32)), (1, .int 3), (2, .int x2)]) dX10_makes_12 rfl (by decide) rfl ?_
  refine go_iload_n (pc := 13) dX10_makes_13 rfl rfl ?_
  refine go_if_ge_t (pc := 14) (tgt := 22) dX10_makes_14 (by decide) (by decide) ?_
  refine go_aload_n (pc := 22) dX10_makes_22 rfl rfl ?_
  refine go_get (pc := 23) fX10_9 rfl (gz_b (by omega)) ((hw 32 (by decide) (by decide)).trans (wl_at (i := 32) rfl)) rfl dX10_makes_23 ?_
  refine go_iconst (pc := 26) (v := 1) dX10_makes_26 (by decide) ?_
  refine go_iald (pc := 27) (gz_b (by omega)) ((hw 33 (by decide) (by decide)).trans (wl_at (i := 33) rfl)) (gv_in (by decide)) dX10_makes_27 ?_
  refine go_top (y := 0) rfl ?_
  refine go_sipush (pc := 28) (v := 500) dX10_makes_28 (by decide) ?_
  refine go_icmp_ne_t (pc := 31) (tgt := 40) dX10_makes_31 (by decide) (by decide) ?_
  refine go_iload_n (pc := 40) dX10_makes_40 rfl rfl ?_
  refine go_iload_n (pc := 41) dX10_makes_41 rfl rfl ?_
  refine go_callS_i (pc := 42) sX10_75 rfl (cX10_sizeOf_2 hn hw) rfl rfl (Nat.le_of_ble_eq_true rfl) ⟨Nat.le_of_ble_eq_true rfl, Nat.le_of_ble_eq_true rfl, (Nat.le_add_right _ _), (Nat.le_add_right _ _)⟩ dX10_makes_42 ?_
  refine go_istore (pc := 45) (lv' := [(4, .int 3), (3, .int 0), (0, .ref (G.2.1 + 32)), (1, .int 3), (2, .int x2)]) dX10_makes_45 (by decide) rfl ?_
  refine go_iload (pc := 47) dX10_makes_47 rfl ?_
  refine go_aload_n (pc := 49) dX10_makes_49 rfl rfl ?_
  refine go_get (pc := 50) fX10_9 rfl (gz_b (by omega)) ((hw 32 (by decide) (by decide)).trans (wl_at (i := 32) rfl)) rfl dX10_makes_50 ?_
  refine go_iconst (pc := 53) (v := 0) dX10_makes_53 (by decide) ?_
  refine go_iald (pc := 54) (gz_b (by omega)) ((hw 33 (by decide) (by decide)).trans (wl_at (i := 33) rfl)) (gv_in (by decide)) dX10_makes_54 ?_
  refine go_top (y := 256) rfl ?_
  refine go_aload_n (pc := 55) dX10_makes_55 rfl rfl ?_
  refine go_get (pc := 56) fX10_9 rfl (gz_b (by omega)) ((hw 32 (by decide) (by decide)).trans (wl_at (i := 32) rfl)) rfl dX10_makes_56 ?_
  refine go_bipush (pc := 59) (v := 16) dX10_makes_59 (by decide) ?_
  refine go_iald (pc := 61) (gz_b (by omega)) ((hw 33 (by decide) (by decide)).trans (wl_at (i := 33) rfl)) (gv_in (by decide)) dX10_makes_61 ?_
  refine go_top (y := 0) rfl ?_
  refine go_isub (pc := 62) dX10_makes_62 ?_
  refine go_top (y := 256) (by decide) ?_
  refine go_icmp_le_t (pc := 63) (tgt := 127) dX10_makes_63 (by decide) (by decide) ?_
  refine go_aload_n (pc := 127) dX10_makes_127 rfl rfl ?_
  refine go_get (pc := 128) fX10_9 rfl (gz_b (by omega)) ((hw 32 (by decide) (by decide)).trans (wl_at (i := 32) rfl)) rfl dX10_makes_128 ?_
  refine go_iconst (pc := 131) (v := 1) dX10_makes_131 (by decide) ?_
  refine go_iald (pc := 132) (gz_b (by omega)) ((hw 33 (by decide) (by decide)).trans (wl_at (i := 33) rfl)) (gv_in (by decide)) dX10_makes_132 ?_
  refine go_top (y := 0) rfl ?_
  refine go_istore (pc := 133) (lv' := [(5, .int 0), (4, .int 3), (3, .int 0), (0, .ref (G.2.1 + 32)), (1, .int 3), (2, .int x2)]) dX10_makes_133 (by decide) rfl ?_
  refine go_aload_n (pc := 135) dX10_makes_135 rfl rfl ?_
  refine go_get (pc := 136) fX10_9 rfl (gz_b (by omega)) ((hw 32 (by decide) (by decide)).trans (wl_at (i := 32) rfl)) rfl dX10_makes_136 ?_
  refine go_iconst (pc := 139) (v := 1) dX10_makes_139 (by decide) ?_
  refine go_dup2 (pc := 140) dX10_makes_140 rfl rfl ?_
  refine go_iald (pc := 141) (gz_b (by omega)) ((hw 33 (by decide) (by decide)).trans (wl_at (i := 33) rfl)) (gv_in (by decide)) dX10_makes_141 ?_
  refine go_top (y := 0) rfl ?_
  refine go_iconst (pc := 142) (v := 1) dX10_makes_142 (by decide) ?_
  refine go_iadd (pc := 143) dX10_makes_143 ?_
  refine go_top (y := 1) (by decide) ?_
  refine go_iast (pc := 144) (gz_b (by omega)) ((hw 33 (by decide) (by decide)).trans (wl_at (i := 33) rfl)) (gv_in (by decide)) dX10_makes_144 ?_
  refine go_aload_n (pc := 145) dX10_makes_145 rfl rfl ?_
  refine go_get (pc := 146) fX10_9 rfl (gz_b (by omega)) ((va_up_ne _ _ (gz_ne (by decide))).trans ((hw 32 (by decide) (by decide)).trans (wl_at (i := 32) rfl))) rfl dX10_makes_146 ?_
  refine go_iconst (pc := 149) (v := 2) dX10_makes_149 (by decide) ?_
  refine go_dup2 (pc := 150) dX10_makes_150 rfl rfl ?_
  refine go_iald (pc := 151) (gz_b (by omega)) (va_up_self _ _ _) (gv_in (by decide)) dX10_makes_151 ?_
  refine go_top (y := 0) rfl ?_
  refine go_iconst (pc := 152) (v := 1) dX10_makes_152 (by decide) ?_
  refine go_iadd (pc := 153) dX10_makes_153 ?_
  refine go_top (y := 1) (by decide) ?_
  refine go_iast (pc := 154) (gz_b (by omega)) (va_up_self _ _ _) (gv_in (by decide)) dX10_makes_154 ?_
  refine go_w (va_up_up _ _ _ _) ?_
  refine go_aload_n (pc := 155) dX10_makes_155 rfl rfl ?_
  refine go_iload (pc := 156) dX10_makes_156 rfl ?_
  refine go_iconst (pc := 158) (v := 0) dX10_makes_158 (by decide) ?_
  refine go_iconst (pc := 159) (v := 1) dX10_makes_159 (by decide) ?_
  refine go_callV_v (pc := 160) vX10_82 rfl (cX10_lets_1 hn hw) rfl rfl (gz_b (by omega)) ((va_up_ne _ _ (gz_ne (by decide))).trans ((hw 32 (by decide) (by decide)).trans (wl_at (i := 32) rfl))) rfl (Nat.le_of_ble_eq_true rfl) ⟨Nat.le_of_ble_eq_true rfl, Nat.le_of_ble_eq_true rfl, (Nat.le_add_right _ _), (Nat.le_add_right _ _)⟩ dX10_makes_160 ?_
  refine go_aload_n (pc := 163) dX10_makes_163 rfl rfl ?_
  refine go_iload (pc := 164) dX10_makes_164 rfl ?_
  refine go_iconst (pc := 166) (v := 1) dX10_makes_166 (by decide) ?_
  refine go_iload_n (pc := 167) dX10_makes_167 rfl rfl ?_
  refine go_callV_v (pc := 168) vX10_82 rfl (cX10_lets_7 hn hw) rfl rfl (gz_b (by omega)) ((va_up_ne _ _ (gz_ne (by decide))).trans ((hw 32 (by decide) (by decide)).trans (wl_at (i := 32) rfl))) rfl (Nat.le_of_ble_eq_true rfl) ⟨Nat.le_of_ble_eq_true rfl, Nat.le_of_ble_eq_true rfl, (Nat.le_add_right _ _), (Nat.le_add_right _ _)⟩ dX10_makes_168 ?_
  refine go_aload_n (pc := 171) dX10_makes_171 rfl rfl ?_
  refine go_iload (pc := 172) dX10_makes_172 rfl ?_
  refine go_iconst (pc := 174) (v := 2) dX10_makes_174 (by decide) ?_
  refine go_aload_n (pc := 175) dX10_makes_175 rfl rfl ?_
  refine go_get (pc := 176) fX10_9 rfl (gz_b (by omega)) ((va_up_ne _ _ (gz_ne (by decide))).trans ((hw 32 (by decide) (by decide)).trans (wl_at (i := 32) rfl))) rfl dX10_makes_176 ?_
  refine go_bipush (pc := 179) (v := 16) dX10_makes_179 (by decide) ?_
  refine go_iald (pc := 181) (gz_b (by omega)) (va_up_self _ _ _) (gv_in (by decide)) dX10_makes_181 ?_
  refine go_top (y := 0) rfl ?_
  refine go_callV_v (pc := 182) vX10_82 rfl (cX10_lets_8 hn hw) rfl rfl (gz_b (by omega)) ((va_up_ne _ _ (gz_ne (by decide))).trans ((hw 32 (by decide) (by decide)).trans (wl_at (i := 32) rfl))) rfl (Nat.le_of_ble_eq_true rfl) ⟨Nat.le_of_ble_eq_true rfl, Nat.le_of_ble_eq_true rfl, (Nat.le_add_right _ _), (Nat.le_add_right _ _)⟩ dX10_makes_182 ?_
  refine go_aload_n (pc := 185) dX10_makes_185 rfl rfl ?_
  refine go_iload (pc := 186) dX10_makes_186 rfl ?_
  refine go_iconst (pc := 188) (v := 3) dX10_makes_188 (by decide) ?_
  refine go_iload_n (pc := 189) dX10_makes_189 rfl rfl ?_
  refine go_callV_v (pc := 190) vX10_82 rfl (cX10_lets_9 hn hw) rfl rfl (gz_b (by omega)) ((va_up_ne _ _ (gz_ne (by decide))).trans ((hw 32 (by decide) (by decide)).trans (wl_at (i := 32) rfl))) rfl (Nat.le_of_ble_eq_true rfl) ⟨Nat.le_of_ble_eq_true rfl, Nat.le_of_ble_eq_true rfl, (Nat.le_add_right _ _), (Nat.le_add_right _ _)⟩ dX10_makes_190 ?_
  refine go_aload_n (pc := 193) dX10_makes_193 rfl rfl ?_
  refine go_iload (pc := 194) dX10_makes_194 rfl ?_
  refine go_iconst (pc := 196) (v := 4) dX10_makes_196 (by decide) ?_
  refine go_iconst (pc := 197) (v := 0) dX10_makes_197 (by decide) ?_
  refine go_callV_v (pc := 198) vX10_82 rfl (cX10_lets_10 hn hw) rfl rfl (gz_b (by omega)) ((va_up_ne _ _ (gz_ne (by decide))).trans ((hw 32 (by decide) (by decide)).trans (wl_at (i := 32) rfl))) rfl (Nat.le_of_ble_eq_true rfl) ⟨Nat.le_of_ble_eq_true rfl, Nat.le_of_ble_eq_true rfl, (Nat.le_add_right _ _), (Nat.le_add_right _ _)⟩ dX10_makes_198 ?_
  refine go_aload_n (pc := 201) dX10_makes_201 rfl rfl ?_
  refine go_iload (pc := 202) dX10_makes_202 rfl ?_
  refine go_iconst (pc := 204) (v := 5) dX10_makes_204 (by decide) ?_
  refine go_iconst (pc := 205) (v := 0) dX10_makes_205 (by decide) ?_
  refine go_callV_v (pc := 206) vX10_82 rfl (cX10_lets_11 hn hw) rfl rfl (gz_b (by omega)) ((va_up_ne _ _ (gz_ne (by decide))).trans ((hw 32 (by decide) (by decide)).trans (wl_at (i := 32) rfl))) rfl (Nat.le_of_ble_eq_true rfl) ⟨Nat.le_of_ble_eq_true rfl, Nat.le_of_ble_eq_true rfl, (Nat.le_add_right _ _), (Nat.le_add_right _ _)⟩ dX10_makes_206 ?_
  refine go_aload_n (pc := 209) dX10_makes_209 rfl rfl ?_
  refine go_get (pc := 210) fX10_9 rfl (gz_b (by omega)) ((va_up_ne _ _ (gz_ne (by decide))).trans ((hw 32 (by decide) (by decide)).trans (wl_at (i := 32) rfl))) rfl dX10_makes_210 ?_
  refine go_sipush (pc := 213) (v := 6100) dX10_makes_213 (by decide) ?_
  refine go_aload_n (pc := 216) dX10_makes_216 rfl rfl ?_
  refine go_get (pc := 217) fX10_9 rfl (gz_b (by omega)) ((va_up_ne _ _ (gz_ne (by decide))).trans ((hw 32 (by decide) (by decide)).trans (wl_at (i := 32) rfl))) rfl dX10_makes_217 ?_
  refine go_bipush (pc := 220) (v := 16) dX10_makes_220 (by decide) ?_
  refine go_iald (pc := 222) (gz_b (by omega)) (va_up_self _ _ _) (gv_in (by decide)) dX10_makes_222 ?_
  refine go_top (y := 0) rfl ?_
  refine go_iadd (pc := 223) dX10_makes_223 ?_
  refine go_top (y := 6100) (by decide) ?_
  refine go_bipush (pc := 224) (v := 8) dX10_makes_224 (by decide) ?_
  refine go_iload (pc := 226) dX10_makes_226 rfl ?_
  refine go_imul (pc := 228) dX10_makes_228 ?_
  refine go_top (y := 0) (by decide) ?_
  refine go_iload_n (pc := 229) dX10_makes_229 rfl rfl ?_
  refine go_iadd (pc := 230) dX10_makes_230 ?_
  refine go_top (y := 3) (by decide) ?_
  refine go_iast (pc := 231) (gz_b (by omega)) (va_up_self _ _ _) (gv_in (by decide)) dX10_makes_231 ?_
  refine go_w (va_up_up _ _ _ _) ?_
  refine go_iload_n (pc := 232) dX10_makes_232 rfl rfl ?_
  refine go_callS_i (pc := 233) sX10_138 rfl (cX10_hasMany_5 hn hw) rfl rfl (Nat.le_of_ble_eq_true rfl) ⟨Nat.le_of_ble_eq_true rfl, Nat.le_of_ble_eq_true rfl, (Nat.le_add_right _ _), (Nat.le_add_right _ _)⟩ dX10_makes_233 ?_
  refine go_if_eq_t (pc := 236) (tgt := 258) dX10_makes_236 (by decide) (by decide) ?_
  refine go_aload_n (pc := 258) dX10_makes_258 rfl rfl ?_
  refine go_iload (pc := 259) dX10_makes_259 rfl ?_
  refine go_callV_i (pc := 261) vX10_90 rfl (cX10_linksOf_2 hn hw) rfl rfl (gz_b (by omega)) ((va_up_ne _ _ (gz_ne (by decide))).trans ((hw 32 (by decide) (by decide)).trans (wl_at (i := 32) rfl))) rfl (Nat.le_of_ble_eq_true rfl) ⟨Nat.le_of_ble_eq_true rfl, Nat.le_of_ble_eq_true rfl, (Nat.le_add_right _ _), (Nat.le_add_right _ _)⟩ dX10_makes_261 ?_
  refine go_istore (pc := 264) (lv' := [(6, .int 1), (5, .int 0), (4, .int 3), (3, .int 0), (0, .ref (G.2.1 + 32)), (1, .int 3), (2, .int x2)]) dX10_makes_264 (by decide) rfl ?_
  refine go_iconst (pc := 266) (v := 0) dX10_makes_266 (by decide) ?_
  refine go_istore (pc := 267) (lv' := [(7, .int 0), (6, .int 1), (5, .int 0), (4, .int 3), (3, .int 0), (0, .ref (G.2.1 + 32)), (1, .int 3), (2, .int x2)]) dX10_makes_267 (by decide) rfl ?_
  refine go_iload (pc := 269) dX10_makes_269 rfl ?_
  refine go_iload (pc := 271) dX10_makes_271 rfl ?_
  refine go_icmp_ge_f (pc := 273) (tgt := 296) dX10_makes_273 (by decide) (by decide) ?_
  refine go_aload_n (pc := 276) dX10_makes_276 rfl rfl ?_
  refine go_get (pc := 277) fX10_9 rfl (gz_b (by omega)) ((va_up_ne _ _ (gz_ne (by decide))).trans ((hw 32 (by decide) (by decide)).trans (wl_at (i := 32) rfl))) rfl dX10_makes_277 ?_
  refine go_aload_n (pc := 280) dX10_makes_280 rfl rfl ?_
  refine go_iload (pc := 281) dX10_makes_281 rfl ?_
  refine go_iload (pc := 283) dX10_makes_283 rfl ?_
  refine go_callV_i (pc := 285) vX10_98 rfl (cX10_linkAt_3 hn hw) rfl rfl (gz_b (by omega)) ((va_up_ne _ _ (gz_ne (by decide))).trans ((hw 32 (by decide) (by decide)).trans (wl_at (i := 32) rfl))) rfl (Nat.le_of_ble_eq_true rfl) ⟨Nat.le_of_ble_eq_true rfl, Nat.le_of_ble_eq_true rfl, (Nat.le_add_right _ _), (Nat.le_add_right _ _)⟩ dX10_makes_285 ?_
  refine go_iconst (pc := 288) (v := (-1)) dX10_makes_288 (by decide) ?_
  refine go_iast (pc := 289) (gz_b (by omega)) (va_up_self _ _ _) (gv_in (by decide)) dX10_makes_289 ?_
  refine go_w (va_up_up _ _ _ _) ?_
  refine go_iinc (pc := 290) (v := 1) (lv' := [(7, .int 1), (6, .int 1), (5, .int 0), (4, .int 3), (3, .int 0), (0, .ref (G.2.1 + 32)), (1, .int 3), (2, .int x2)]) dX10_makes_290 0 rfl (by first | rfl | decide) (by decide) rfl ?_
  refine go_goto (pc := 293) (tgt := 269) dX10_makes_293 (by decide) ?_
  refine go_iload (pc := 269) dX10_makes_269 rfl ?_
  refine go_iload (pc := 271) dX10_makes_271 rfl ?_
  refine go_icmp_ge_t (pc := 273) (tgt := 296) dX10_makes_273 (by decide) (by decide) ?_
  refine go_iload_n (pc := 296) dX10_makes_296 rfl rfl ?_
  refine go_iconst (pc := 297) (v := 3) dX10_makes_297 (by decide) ?_
  refine go_icmp_eq_t (pc := 298) (tgt := 306) dX10_makes_298 (by decide) (by decide) ?_
  refine go_aload_n (pc := 306) dX10_makes_306 rfl rfl ?_
  refine go_get (pc := 307) fX10_9 rfl (gz_b (by omega)) ((va_up_ne _ _ (gz_ne (by decide))).trans ((hw 32 (by decide) (by decide)).trans (wl_at (i := 32) rfl))) rfl dX10_makes_307 ?_
  refine go_aload_n (pc := 310) dX10_makes_310 rfl rfl ?_
  refine go_iload (pc := 311) dX10_makes_311 rfl ?_
  refine go_callV_i (pc := 313) vX10_120 rfl (cX10_weakAt_1 hn hw) rfl rfl (gz_b (by omega)) ((va_up_ne _ _ (gz_ne (by decide))).trans ((hw 32 (by decide) (by decide)).trans (wl_at (i := 32) rfl))) rfl (Nat.le_of_ble_eq_true rfl) ⟨Nat.le_of_ble_eq_true rfl, Nat.le_of_ble_eq_true rfl, (Nat.le_add_right _ _), (Nat.le_add_right _ _)⟩ dX10_makes_313 ?_
  refine go_iconst (pc := 316) (v := (-1)) dX10_makes_316 (by decide) ?_
  refine go_iast (pc := 317) (gz_b (by omega)) (va_up_self _ _ _) (gv_in (by decide)) dX10_makes_317 ?_
  refine go_w (va_up_up _ _ _ _) ?_
  refine go_aload_n (pc := 318) dX10_makes_318 rfl rfl ?_
  refine go_get (pc := 319) fX10_9 rfl (gz_b (by omega)) ((va_up_ne _ _ (gz_ne (by decide))).trans ((hw 32 (by decide) (by decide)).trans (wl_at (i := 32) rfl))) rfl dX10_makes_319 ?_
  refine go_bipush (pc := 322) (v := 16) dX10_makes_322 (by decide) ?_
  refine go_dup2 (pc := 324) dX10_makes_324 rfl rfl ?_
  refine go_iald (pc := 325) (gz_b (by omega)) (va_up_self _ _ _) (gv_in (by decide)) dX10_makes_325 ?_
  refine go_top (y := 0) rfl ?_
  refine go_iload (pc := 326) dX10_makes_326 rfl ?_
  refine go_iadd (pc := 328) dX10_makes_328 ?_
  refine go_top (y := 3) (by decide) ?_
  refine go_iast (pc := 329) (gz_b (by omega)) (va_up_self _ _ _) (gv_in (by decide)) dX10_makes_329 ?_
  refine go_w (va_up_up _ _ _ _) ?_
  refine go_aload_n (pc := 330) dX10_makes_330 rfl rfl ?_
  refine go_get (pc := 331) fX10_9 rfl (gz_b (by omega)) ((va_up_ne _ _ (gz_ne (by decide))).trans ((hw 32 (by decide) (by decide)).trans (wl_at (i := 32) rfl))) rfl dX10_makes_331 ?_
  refine go_iconst (pc := 334) (v := 3) dX10_makes_334 (by decide) ?_
  refine go_iald (pc := 335) (gz_b (by omega)) (va_up_self _ _ _) (gv_in (by decide)) dX10_makes_335 ?_
  refine go_top (y := 0) rfl ?_
  refine go_iconst (pc := 336) (v := 1) dX10_makes_336 (by decide) ?_
  refine go_icmp_ne_t (pc := 337) (tgt := 349) dX10_makes_337 (by decide) (by decide) ?_
  refine go_iload (pc := 349) dX10_makes_349 rfl ?_
  exact go_iret (pc := 351) rfl dX10_makes_351
set_option maxRecDepth 100000 in
set_option maxHeartbeats 4000000 in
theorem cX10_answers_4 {l : Launch} {G : gG} {n k : Nat} {w : Nat → va_E} (hn : 42 ≤ n) (hw : ∀ i, 32 ≤ i → i < 42 → w (G.2.1 + i) = wl G.2.1 (LF G) (G.2.1 + i)) : Ct l G mX10_answers 1 25 [.ref (G.2.1 + 32), .int 0] n k (va_up w (G.2.1 + 33) (ai G 26100 (upd (upd (upd (upd (upd (upd (upd (upd (upd (upd (upd (upd (sx 256) (1 : Int32).toNatClampNeg 1) (2 : Int32).toNatClampNeg 1) (1100 : Int32).toNatClampNeg 1) (1101 : Int32).toNatClampNeg 3) (1102 : Int32).toNatClampNeg 0) (1103 : Int32).toNatClampNeg 0) (1104 : Int32).toNatClampNeg 0) (1105 : Int32).toNatClampNeg 0) (6100 : Int32).toNatClampNeg 3) (6101 : Int32).toNatClampNeg ((-1))) (6102 : Int32).toNatClampNeg ((-1))) (16 : Int32).toNatClampNeg 3))) (some (.int 0), n, k, (va_up (va_up w (G.2.1 + 33) (ai G 26100 (upd (upd (upd (upd (upd (upd (upd (upd (upd (upd (upd (upd (sx 256) (1 : Int32).toNatClampNeg 1) (2 : Int32).toNatClampNeg 1) (1100 : Int32).toNatClampNeg 1) (1101 : Int32).toNatClampNeg 3) (1102 : Int32).toNatClampNeg 0) (1103 : Int32).toNatClampNeg 0) (1104 : Int32).toNatClampNeg 0) (1105 : Int32).toNatClampNeg 0) (6100 : Int32).toNatClampNeg 3) (6101 : Int32).toNatClampNeg ((-1))) (6102 : Int32).toNatClampNeg ((-1))) (16 : Int32).toNatClampNeg 3))) (G.2.1 + 32) (ob 10 [.ref (G.2.1 + 33), .ref (G.2.1 + 34), .ref (G.2.1 + 35), .int 0, .int 0, .int 0, .int 0, .int 0, .ref (G.2.1 + 36), .ref (G.2.1 + 37), .ref (G.2.1 + 38), .ref (G.2.1 + 39), .int 0, .ref (G.2.1 + 40), .int 0, .ref (G.2.1 + 41)]))) := by
  refine Ct.of (by decide) (Nat.le_of_ble_eq_true rfl) ⟨Nat.le_refl _, Nat.le_refl _⟩ ?_
  show Go l G mX10_answers _ 0 [(0, .ref (G.2.1 + 32)), (1, .int 0)] [] n k (va_up w (G.2.1 + 33) (ai G 26100 (upd (upd (upd (upd (upd (upd (upd (upd (upd (upd (upd (upd (sx 256) (1 : Int32).toNatClampNeg 1) (2 : Int32).toNatClampNeg 1) (1100 : Int32).toNatClampNeg 1) (1101 : Int32).toNatClampNeg 3) (1102 : Int32).toNatClampNeg 0) (1103 : Int32).toNatClampNeg 0) (1104 : Int32).toNatClampNeg 0) (1105 : Int32).toNatClampNeg 0) (6100 : Int32).toNatClampNeg 3) (6101 : Int32).toNatClampNeg ((-1))) (6102 : Int32).toNatClampNeg ((-1))) (16 : Int32).toNatClampNeg 3)))
  refine go_aload_n (pc := 0) dX10_answers_0 rfl rfl ?_
  refine go_iload_n (pc := 1) dX10_answers_1 rfl rfl ?_
  refine go_i2l (pc := 2) dX10_answers_2 ?_
  refine go_topl (y := 0) (by decide) ?_
  refine go_ldc2 (pc := 3) rfl qX10_78 dX10_answers_3 ?_
  refine go_ldc2 (pc := 6) rfl qX10_80 dX10_answers_6 ?_
  refine go_callS_i (pc := 9) sX10_63 rfl (ct_in 0 ((-18)) ((-11))) rfl rfl (Nat.le_of_ble_eq_true rfl) ⟨Nat.le_of_ble_eq_true rfl, Nat.le_of_ble_eq_true rfl, (Nat.le_add_right _ _), (Nat.le_add_right _ _)⟩ dX10_answers_9 ?_
  refine go_top (y := 0) (by decide) ?_
  refine go_if_eq_t (pc := 12) (tgt := 22) dX10_answers_12 (by decide) (by decide) ?_
  refine go_iconst (pc := 22) (v := 0) dX10_answers_22 (by decide) ?_
  refine go_put (pc := 23) fX10_49 rfl (gz_b (by omega)) ((va_up_ne _ _ (gz_ne (by decide))).trans ((hw 32 (by decide) (by decide)).trans (wl_at (i := 32) rfl))) (Nat.le_of_ble_eq_true rfl) rfl rfl dX10_answers_23 ?_
  refine go_iload_n (pc := 26) dX10_answers_26 rfl rfl ?_
  exact go_iret (pc := 27) rfl dX10_answers_27
set_option maxRecDepth 100000 in
set_option maxHeartbeats 4000000 in
theorem cm_make_3_o {l : Launch} {G : gG} (x2 : Int32) {n k : Nat} {w : Nat → va_E} (hn : 42 ≤ n) (hw : ∀ i, 32 ≤ i → i < 42 → w (G.2.1 + i) = wl G.2.1 (LF G) (G.2.1 + i)) : Ct l G mX10_make 3 72 [.ref (G.2.1 + 32), .int 3, .int x2] n k w (some (.int 0), n, k, (va_up (va_up w (G.2.1 + 33) (ai G 26100 (upd (upd (upd (upd (upd (upd (upd (upd (upd (upd (upd (upd (sx 256) (1 : Int32).toNatClampNeg 1) (2 : Int32).toNatClampNeg 1) (1100 : Int32).toNatClampNeg 1) (1101 : Int32).toNatClampNeg 3) (1102 : Int32).toNatClampNeg 0) (1103 : Int32).toNatClampNeg 0) (1104 : Int32).toNatClampNeg 0) (1105 : Int32).toNatClampNeg 0) (6100 : Int32).toNatClampNeg 3) (6101 : Int32).toNatClampNeg ((-1))) (6102 : Int32).toNatClampNeg ((-1))) (16 : Int32).toNatClampNeg 3))) (G.2.1 + 32) (ob 10 [.ref (G.2.1 + 33), .ref (G.2.1 + 34), .ref (G.2.1 + 35), .int 0, .int 0, .int 0, .int 0, .int 0, .ref (G.2.1 + 36), .ref (G.2.1 + 37), .ref (G.2.1 + 38), .ref (G.2.1 + 39), .int 0, .ref (G.2.1 + 40), .int 0, .ref (G.2.1 + 41)]))) := by
  refine Ct.of (by decide) (Nat.le_of_ble_eq_true rfl) ⟨Nat.le_refl _, Nat.le_refl _⟩ ?_
  show Go l G mX10_make _ 0 [(0, .ref (G.2.1 + 32)), (1, .int 3), (2, .int x2)] [] n k w
  refine go_iload_n (pc := 0) dX10_make_0 rfl rfl ?_
  refine go_i2l (pc := 1) dX10_make_1 ?_
  refine go_topl (y := 3) (by decide) ?_
  refine go_lconst (pc := 2) (v := 0) dX10_make_2 (by decide) ?_
  refine go_ldc2 (pc := 3) rfl qX10_150 dX10_make_3 ?_
  refine go_callS_i (pc := 6) sX10_63 rfl (ct_in 3 0 5) rfl rfl (Nat.le_of_ble_eq_true rfl) ⟨Nat.le_of_ble_eq_true rfl, Nat.le_of_ble_eq_true rfl, (Nat.le_add_right _ _), (Nat.le_add_right _ _)⟩ dX10_make_6 ?_
  refine go_top (y := 1) (by decide) ?_
  refine go_if_eq_f (pc := 9) (tgt := 26) dX10_make_9 (by decide) (by decide) ?_
  refine go_iload_n (pc := 12) dX10_make_12 rfl rfl ?_
  refine go_callS_i (pc := 13) sX10_138 rfl (cX10_hasMany_4 hn hw) rfl rfl (Nat.le_of_ble_eq_true rfl) ⟨Nat.le_of_ble_eq_true rfl, Nat.le_of_ble_eq_true rfl, (Nat.le_add_right _ _), (Nat.le_add_right _ _)⟩ dX10_make_13 ?_
  refine go_if_eq_t (pc := 16) (tgt := 29) dX10_make_16 (by decide) (by decide) ?_
  refine go_aload_n (pc := 29) dX10_make_29 rfl rfl ?_
  refine go_aload_n (pc := 30) dX10_make_30 rfl rfl ?_
  refine go_iload_n (pc := 31) dX10_make_31 rfl rfl ?_
  refine go_iload_n (pc := 32) dX10_make_32 rfl rfl ?_
  refine go_callV_i (pc := 33) vX10_152 rfl (cX10_makes_2 x2 hn hw) rfl rfl (gz_b (by omega)) ((hw 32 (by decide) (by decide)).trans (wl_at (i := 32) rfl)) rfl (Nat.le_of_ble_eq_true rfl) ⟨Nat.le_of_ble_eq_true rfl, Nat.le_of_ble_eq_true rfl, (Nat.le_add_right _ _), (Nat.le_add_right _ _)⟩ dX10_make_33 ?_
  refine go_callV_i (pc := 36) vX10_155 rfl (cX10_answers_4 hn hw) rfl rfl (gz_b (by omega)) ((va_up_ne _ _ (gz_ne (by decide))).trans ((hw 32 (by decide) (by decide)).trans (wl_at (i := 32) rfl))) rfl (Nat.le_of_ble_eq_true rfl) ⟨Nat.le_of_ble_eq_true rfl, Nat.le_of_ble_eq_true rfl, (Nat.le_add_right _ _), (Nat.le_add_right _ _)⟩ dX10_make_36 ?_
  exact go_iret (pc := 39) rfl dX10_make_39
theorem cm_make_3 {l : Launch} {G : gG} (x2 : Int32) : CM l G mX10_make [.ref (G.2.1 + 32), .int 3, .int x2] 0 := by
  intro n k w hn hw
  exact ⟨3, 72, _, by decide, by decide, cm_make_3_o x2 hn hw⟩
set_option maxRecDepth 100000 in
set_option maxHeartbeats 4000000 in
theorem cX10_hasMany_6 {l : Launch} {G : gG} {n k : Nat} {w : Nat → va_E} (hn : 42 ≤ n) (hw : ∀ i, 32 ≤ i → i < 42 → w (G.2.1 + i) = wl G.2.1 (LF G) (G.2.1 + i)) : Ct l G mX10_hasMany 0 0 [.int 4] n k w (some (.int 0), n, k, w) := by
  refine Ct.of (by decide) (Nat.le_of_ble_eq_true rfl) ⟨Nat.le_refl _, Nat.le_refl _⟩ ?_
  show Go l G mX10_hasMany _ 0 [(0, .int 4)] [] n k w
  refine go_iload_n (pc := 0) dX10_hasMany_0 rfl rfl ?_
  refine go_iconst (pc := 1) (v := 1) dX10_hasMany_1 (by decide) ?_
  refine go_icmp_eq_f (pc := 2) (tgt := 15) dX10_hasMany_2 (by decide) (by decide) ?_
  refine go_iload_n (pc := 5) dX10_hasMany_5 rfl rfl ?_
  refine go_iconst (pc := 6) (v := 2) dX10_hasMany_6 (by decide) ?_
  refine go_icmp_eq_f (pc := 7) (tgt := 15) dX10_hasMany_7 (by decide) (by decide) ?_
  refine go_iload_n (pc := 10) dX10_hasMany_10 rfl rfl ?_
  refine go_iconst (pc := 11) (v := 5) dX10_hasMany_11 (by decide) ?_
  refine go_icmp_ne_t (pc := 12) (tgt := 19) dX10_hasMany_12 (by decide) (by decide) ?_
  refine go_iconst (pc := 19) (v := 0) dX10_hasMany_19 (by decide) ?_
  exact go_zret (pc := 20) rfl rfl dX10_hasMany_20
set_option maxRecDepth 100000 in
set_option maxHeartbeats 4000000 in
theorem cX10_sizeOf_3 {l : Launch} {G : gG} {n k : Nat} {w : Nat → va_E} (hn : 42 ≤ n) (hw : ∀ i, 32 ≤ i → i < 42 → w (G.2.1 + i) = wl G.2.1 (LF G) (G.2.1 + i)) : Ct l G mX10_sizeOf 0 0 [.int 4, .int 0] n k w (some (.int 4), n, k, w) := by
  refine Ct.of (by decide) (Nat.le_of_ble_eq_true rfl) ⟨Nat.le_refl _, Nat.le_refl _⟩ ?_
  show Go l G mX10_sizeOf _ 0 [(0, .int 4), (1, .int 0)] [] n k w
  refine go_iload_n (pc := 0) dX10_sizeOf_0 rfl rfl ?_
  refine go_tableIn (pc := 1) (off := 41) (tgt := 42) dX10_sizeOf_1 (by decide) (by decide) (by decide) (by decide) ?_
  refine go_iconst (pc := 42) (v := 4) dX10_sizeOf_42 (by decide) ?_
  exact go_iret (pc := 43) rfl dX10_sizeOf_43
set_option maxRecDepth 100000 in
set_option maxHeartbeats 4000000 in
theorem cX10_lets_12 {l : Launch} {G : gG} {n k : Nat} {w : Nat → va_E} (hn : 42 ≤ n) (hw : ∀ i, 32 ≤ i → i < 42 → w (G.2.1 + i) = wl G.2.1 (LF G) (G.2.1 + i)) : Ct l G mX10_lets 0 0 [.ref (G.2.1 + 32), .int 0, .int 1, .int 4] n k (va_up w (G.2.1 + 33) (ai G 26100 (upd (upd (upd (sx 256) (1 : Int32).toNatClampNeg 1) (2 : Int32).toNatClampNeg 1) (1100 : Int32).toNatClampNeg 1))) (none, n, k, (va_up w (G.2.1 + 33) (ai G 26100 (upd (upd (upd (upd (sx 256) (1 : Int32).toNatClampNeg 1) (2 : Int32).toNatClampNeg 1) (1100 : Int32).toNatClampNeg 1) (1101 : Int32).toNatClampNeg 4)))) := by
  refine Ct.of (by decide) (Nat.le_of_ble_eq_true rfl) ⟨Nat.le_refl _, Nat.le_refl _⟩ ?_
  show Go l G mX10_lets _ 0 [(0, .ref (G.2.1 + 32)), (1, .int 0), (2, .int 1), (3, .int 4)] [] n k (va_up w (G.2.1 + 33) (ai G 26100 (upd (upd (upd (sx 256) (1 : Int32).toNatClampNeg 1) (2 : Int32).toNatClampNeg 1) (1100 : Int32).toNatClampNeg 1)))
  refine go_aload_n (pc := 0) dX10_lets_0 rfl rfl ?_
  refine go_get (pc := 1) fX10_9 rfl (gz_b (by omega)) ((va_up_ne _ _ (gz_ne (by decide))).trans ((hw 32 (by decide) (by decide)).trans (wl_at (i := 32) rfl))) rfl dX10_lets_1 ?_
  refine go_sipush (pc := 4) (v := 1100) dX10_lets_4 (by decide) ?_
  refine go_bipush (pc := 7) (v := 10) dX10_lets_7 (by decide) ?_
  refine go_iload_n (pc := 9) dX10_lets_9 rfl rfl ?_
  refine go_imul (pc := 10) dX10_lets_10 ?_
  refine go_top (y := 0) (by decide) ?_
  refine go_iadd (pc := 11) dX10_lets_11 ?_
  refine go_top (y := 1100) (by decide) ?_
  refine go_iload_n (pc := 12) dX10_lets_12 rfl rfl ?_
  refine go_iadd (pc := 13) dX10_lets_13 ?_
  refine go_top (y := 1101) (by decide) ?_
  refine go_iload_n (pc := 14) dX10_lets_14 rfl rfl ?_
  refine go_iast (pc := 15) (gz_b (by omega)) (va_up_self _ _ _) (gv_in (by decide)) dX10_lets_15 ?_
  refine go_w (va_up_up _ _ _ _) ?_
  exact go_vret (pc := 16) rfl dX10_lets_16
set_option maxRecDepth 100000 in
set_option maxHeartbeats 4000000 in
theorem cX10_lets_13 {l : Launch} {G : gG} {n k : Nat} {w : Nat → va_E} (hn : 42 ≤ n) (hw : ∀ i, 32 ≤ i → i < 42 → w (G.2.1 + i) = wl G.2.1 (LF G) (G.2.1 + i)) : Ct l G mX10_lets 0 0 [.ref (G.2.1 + 32), .int 0, .int 2, .int 0] n k (va_up w (G.2.1 + 33) (ai G 26100 (upd (upd (upd (upd (sx 256) (1 : Int32).toNatClampNeg 1) (2 : Int32).toNatClampNeg 1) (1100 : Int32).toNatClampNeg 1) (1101 : Int32).toNatClampNeg 4))) (none, n, k, (va_up w (G.2.1 + 33) (ai G 26100 (upd (upd (upd (upd (upd (sx 256) (1 : Int32).toNatClampNeg 1) (2 : Int32).toNatClampNeg 1) (1100 : Int32).toNatClampNeg 1) (1101 : Int32).toNatClampNeg 4) (1102 : Int32).toNatClampNeg 0)))) := by
  refine Ct.of (by decide) (Nat.le_of_ble_eq_true rfl) ⟨Nat.le_refl _, Nat.le_refl _⟩ ?_
  show Go l G mX10_lets _ 0 [(0, .ref (G.2.1 + 32)), (1, .int 0), (2, .int 2), (3, .int 0)] [] n k (va_up w (G.2.1 + 33) (ai G 26100 (upd (upd (upd (upd (sx 256) (1 : Int32).toNatClampNeg 1) (2 : Int32).toNatClampNeg 1) (1100 : Int32).toNatClampNeg 1) (1101 : Int32).toNatClampNeg 4)))
  refine go_aload_n (pc := 0) dX10_lets_0 rfl rfl ?_
  refine go_get (pc := 1) fX10_9 rfl (gz_b (by omega)) ((va_up_ne _ _ (gz_ne (by decide))).trans ((hw 32 (by decide) (by decide)).trans (wl_at (i := 32) rfl))) rfl dX10_lets_1 ?_
  refine go_sipush (pc := 4) (v := 1100) dX10_lets_4 (by decide) ?_
  refine go_bipush (pc := 7) (v := 10) dX10_lets_7 (by decide) ?_
  refine go_iload_n (pc := 9) dX10_lets_9 rfl rfl ?_
  refine go_imul (pc := 10) dX10_lets_10 ?_
  refine go_top (y := 0) (by decide) ?_
  refine go_iadd (pc := 11) dX10_lets_11 ?_
  refine go_top (y := 1100) (by decide) ?_
  refine go_iload_n (pc := 12) dX10_lets_12 rfl rfl ?_
  refine go_iadd (pc := 13) dX10_lets_13 ?_
  refine go_top (y := 1102) (by decide) ?_
  refine go_iload_n (pc := 14) dX10_lets_14 rfl rfl ?_
  refine go_iast (pc := 15) (gz_b (by omega)) (va_up_self _ _ _) (gv_in (by decide)) dX10_lets_15 ?_
  refine go_w (va_up_up _ _ _ _) ?_
  exact go_vret (pc := 16) rfl dX10_lets_16
set_option maxRecDepth 100000 in
set_option maxHeartbeats 4000000 in
theorem cX10_lets_14 {l : Launch} {G : gG} {n k : Nat} {w : Nat → va_E} (hn : 42 ≤ n) (hw : ∀ i, 32 ≤ i → i < 42 → w (G.2.1 + i) = wl G.2.1 (LF G) (G.2.1 + i)) : Ct l G mX10_lets 0 0 [.ref (G.2.1 + 32), .int 0, .int 3, .int 0] n k (va_up w (G.2.1 + 33) (ai G 26100 (upd (upd (upd (upd (upd (sx 256) (1 : Int32).toNatClampNeg 1) (2 : Int32).toNatClampNeg 1) (1100 : Int32).toNatClampNeg 1) (1101 : Int32).toNatClampNeg 4) (1102 : Int32).toNatClampNeg 0))) (none, n, k, (va_up w (G.2.1 + 33) (ai G 26100 (upd (upd (upd (upd (upd (upd (sx 256) (1 : Int32).toNatClampNeg 1) (2 : Int32).toNatClampNeg 1) (1100 : Int32).toNatClampNeg 1) (1101 : Int32).toNatClampNeg 4) (1102 : Int32).toNatClampNeg 0) (1103 : Int32).toNatClampNeg 0)))) := by
  refine Ct.of (by decide) (Nat.le_of_ble_eq_true rfl) ⟨Nat.le_refl _, Nat.le_refl _⟩ ?_
  show Go l G mX10_lets _ 0 [(0, .ref (G.2.1 + 32)), (1, .int 0), (2, .int 3), (3, .int 0)] [] n k (va_up w (G.2.1 + 33) (ai G 26100 (upd (upd (upd (upd (upd (sx 256) (1 : Int32).toNatClampNeg 1) (2 : Int32).toNatClampNeg 1) (1100 : Int32).toNatClampNeg 1) (1101 : Int32).toNatClampNeg 4) (1102 : Int32).toNatClampNeg 0)))
  refine go_aload_n (pc := 0) dX10_lets_0 rfl rfl ?_
  refine go_get (pc := 1) fX10_9 rfl (gz_b (by omega)) ((va_up_ne _ _ (gz_ne (by decide))).trans ((hw 32 (by decide) (by decide)).trans (wl_at (i := 32) rfl))) rfl dX10_lets_1 ?_
  refine go_sipush (pc := 4) (v := 1100) dX10_lets_4 (by decide) ?_
  refine go_bipush (pc := 7) (v := 10) dX10_lets_7 (by decide) ?_
  refine go_iload_n (pc := 9) dX10_lets_9 rfl rfl ?_
  refine go_imul (pc := 10) dX10_lets_10 ?_
  refine go_top (y := 0) (by decide) ?_
  refine go_iadd (pc := 11) dX10_lets_11 ?_
  refine go_top (y := 1100) (by decide) ?_
  refine go_iload_n (pc := 12) dX10_lets_12 rfl rfl ?_
  refine go_iadd (pc := 13) dX10_lets_13 ?_
  refine go_top (y := 1103) (by decide) ?_
  refine go_iload_n (pc := 14) dX10_lets_14 rfl rfl ?_
  refine go_iast (pc := 15) (gz_b (by omega)) (va_up_self _ _ _) (gv_in (by decide)) dX10_lets_15 ?_
  refine go_w (va_up_up _ _ _ _) ?_
  exact go_vret (pc := 16) rfl dX10_lets_16
set_option maxRecDepth 100000 in
set_option maxHeartbeats 4000000 in
theorem cX10_lets_15 {l : Launch} {G : gG} {n k : Nat} {w : Nat → va_E} (hn : 42 ≤ n) (hw : ∀ i, 32 ≤ i → i < 42 → w (G.2.1 + i) = wl G.2.1 (LF G) (G.2.1 + i)) : Ct l G mX10_lets 0 0 [.ref (G.2.1 + 32), .int 0, .int 4, .int 0] n k (va_up w (G.2.1 + 33) (ai G 26100 (upd (upd (upd (upd (upd (upd (sx 256) (1 : Int32).toNatClampNeg 1) (2 : Int32).toNatClampNeg 1) (1100 : Int32).toNatClampNeg 1) (1101 : Int32).toNatClampNeg 4) (1102 : Int32).toNatClampNeg 0) (1103 : Int32).toNatClampNeg 0))) (none, n, k, (va_up w (G.2.1 + 33) (ai G 26100 (upd (upd (upd (upd (upd (upd (upd (sx 256) (1 : Int32).toNatClampNeg 1) (2 : Int32).toNatClampNeg 1) (1100 : Int32).toNatClampNeg 1) (1101 : Int32).toNatClampNeg 4) (1102 : Int32).toNatClampNeg 0) (1103 : Int32).toNatClampNeg 0) (1104 : Int32).toNatClampNeg 0)))) := by
  refine Ct.of (by decide) (Nat.le_of_ble_eq_true rfl) ⟨Nat.le_refl _, Nat.le_refl _⟩ ?_
  show Go l G mX10_lets _ 0 [(0, .ref (G.2.1 + 32)), (1, .int 0), (2, .int 4), (3, .int 0)] [] n k (va_up w (G.2.1 + 33) (ai G 26100 (upd (upd (upd (upd (upd (upd (sx 256) (1 : Int32).toNatClampNeg 1) (2 : Int32).toNatClampNeg 1) (1100 : Int32).toNatClampNeg 1) (1101 : Int32).toNatClampNeg 4) (1102 : Int32).toNatClampNeg 0) (1103 : Int32).toNatClampNeg 0)))
  refine go_aload_n (pc := 0) dX10_lets_0 rfl rfl ?_
  refine go_get (pc := 1) fX10_9 rfl (gz_b (by omega)) ((va_up_ne _ _ (gz_ne (by decide))).trans ((hw 32 (by decide) (by decide)).trans (wl_at (i := 32) rfl))) rfl dX10_lets_1 ?_
  refine go_sipush (pc := 4) (v := 1100) dX10_lets_4 (by decide) ?_
  refine go_bipush (pc := 7) (v := 10) dX10_lets_7 (by decide) ?_
  refine go_iload_n (pc := 9) dX10_lets_9 rfl rfl ?_
  refine go_imul (pc := 10) dX10_lets_10 ?_
  refine go_top (y := 0) (by decide) ?_
  refine go_iadd (pc := 11) dX10_lets_11 ?_
  refine go_top (y := 1100) (by decide) ?_
  refine go_iload_n (pc := 12) dX10_lets_12 rfl rfl ?_
  refine go_iadd (pc := 13) dX10_lets_13 ?_
  refine go_top (y := 1104) (by decide) ?_
  refine go_iload_n (pc := 14) dX10_lets_14 rfl rfl ?_
  refine go_iast (pc := 15) (gz_b (by omega)) (va_up_self _ _ _) (gv_in (by decide)) dX10_lets_15 ?_
  refine go_w (va_up_up _ _ _ _) ?_
  exact go_vret (pc := 16) rfl dX10_lets_16
set_option maxRecDepth 100000 in
set_option maxHeartbeats 4000000 in
theorem cX10_lets_16 {l : Launch} {G : gG} {n k : Nat} {w : Nat → va_E} (hn : 42 ≤ n) (hw : ∀ i, 32 ≤ i → i < 42 → w (G.2.1 + i) = wl G.2.1 (LF G) (G.2.1 + i)) : Ct l G mX10_lets 0 0 [.ref (G.2.1 + 32), .int 0, .int 5, .int 0] n k (va_up w (G.2.1 + 33) (ai G 26100 (upd (upd (upd (upd (upd (upd (upd (sx 256) (1 : Int32).toNatClampNeg 1) (2 : Int32).toNatClampNeg 1) (1100 : Int32).toNatClampNeg 1) (1101 : Int32).toNatClampNeg 4) (1102 : Int32).toNatClampNeg 0) (1103 : Int32).toNatClampNeg 0) (1104 : Int32).toNatClampNeg 0))) (none, n, k, (va_up w (G.2.1 + 33) (ai G 26100 (upd (upd (upd (upd (upd (upd (upd (upd (sx 256) (1 : Int32).toNatClampNeg 1) (2 : Int32).toNatClampNeg 1) (1100 : Int32).toNatClampNeg 1) (1101 : Int32).toNatClampNeg 4) (1102 : Int32).toNatClampNeg 0) (1103 : Int32).toNatClampNeg 0) (1104 : Int32).toNatClampNeg 0) (1105 : Int32).toNatClampNeg 0)))) := by
  refine Ct.of (by decide) (Nat.le_of_ble_eq_true rfl) ⟨Nat.le_refl _, Nat.le_refl _⟩ ?_
  show Go l G mX10_lets _ 0 [(0, .ref (G.2.1 + 32)), (1, .int 0), (2, .int 5), (3, .int 0)] [] n k (va_up w (G.2.1 + 33) (ai G 26100 (upd (upd (upd (upd (upd (upd (upd (sx 256) (1 : Int32).toNatClampNeg 1) (2 : Int32).toNatClampNeg 1) (1100 : Int32).toNatClampNeg 1) (1101 : Int32).toNatClampNeg 4) (1102 : Int32).toNatClampNeg 0) (1103 : Int32).toNatClampNeg 0) (1104 : Int32).toNatClampNeg 0)))
  refine go_aload_n (pc := 0) dX10_lets_0 rfl rfl ?_
  refine go_get (pc := 1) fX10_9 rfl (gz_b (by omega)) ((va_up_ne _ _ (gz_ne (by decide))).trans ((hw 32 (by decide) (by decide)).trans (wl_at (i := 32) rfl))) rfl dX10_lets_1 ?_
  refine go_sipush (pc := 4) (v := 1100) dX10_lets_4 (by decide) ?_
  refine go_bipush (pc := 7) (v := 10) dX10_lets_7 (by decide) ?_
  refine go_iload_n (pc := 9) dX10_lets_9 rfl rfl ?_
  refine go_imul (pc := 10) dX10_lets_10 ?_
  refine go_top (y := 0) (by decide) ?_
  refine go_iadd (pc := 11) dX10_lets_11 ?_
  refine go_top (y := 1100) (by decide) ?_
  refine go_iload_n (pc := 12) dX10_lets_12 rfl rfl ?_
  refine go_iadd (pc := 13) dX10_lets_13 ?_
  refine go_top (y := 1105) (by decide) ?_
  refine go_iload_n (pc := 14) dX10_lets_14 rfl rfl ?_
  refine go_iast (pc := 15) (gz_b (by omega)) (va_up_self _ _ _) (gv_in (by decide)) dX10_lets_15 ?_
  refine go_w (va_up_up _ _ _ _) ?_
  exact go_vret (pc := 16) rfl dX10_lets_16
set_option maxRecDepth 100000 in
set_option maxHeartbeats 4000000 in
theorem cX10_hasMany_7 {l : Launch} {G : gG} {n k : Nat} {w : Nat → va_E} (hn : 42 ≤ n) (hw : ∀ i, 32 ≤ i → i < 42 → w (G.2.1 + i) = wl G.2.1 (LF G) (G.2.1 + i)) : Ct l G mX10_hasMany 0 0 [.int 4] n k (va_up w (G.2.1 + 33) (ai G 26100 (upd (upd (upd (upd (upd (upd (upd (upd (upd (sx 256) (1 : Int32).toNatClampNeg 1) (2 : Int32).toNatClampNeg 1) (1100 : Int32).toNatClampNeg 1) (1101 : Int32).toNatClampNeg 4) (1102 : Int32).toNatClampNeg 0) (1103 : Int32).toNatClampNeg 0) (1104 : Int32).toNatClampNeg 0) (1105 : Int32).toNatClampNeg 0) (6100 : Int32).toNatClampNeg 4))) (some (.int 0), n, k, (va_up w (G.2.1 + 33) (ai G 26100 (upd (upd (upd (upd (upd (upd (upd (upd (upd (sx 256) (1 : Int32).toNatClampNeg 1) (2 : Int32).toNatClampNeg 1) (1100 : Int32).toNatClampNeg 1) (1101 : Int32).toNatClampNeg 4) (1102 : Int32).toNatClampNeg 0) (1103 : Int32).toNatClampNeg 0) (1104 : Int32).toNatClampNeg 0) (1105 : Int32).toNatClampNeg 0) (6100 : Int32).toNatClampNeg 4)))) := by
  refine Ct.of (by decide) (Nat.le_of_ble_eq_true rfl) ⟨Nat.le_refl _, Nat.le_refl _⟩ ?_
  show Go l G mX10_hasMany _ 0 [(0, .int 4)] [] n k (va_up w (G.2.1 + 33) (ai G 26100 (upd (upd (upd (upd (upd (upd (upd (upd (upd (sx 256) (1 : Int32).toNatClampNeg 1) (2 : Int32).toNatClampNeg 1) (1100 : Int32).toNatClampNeg 1) (1101 : Int32).toNatClampNeg 4) (1102 : Int32).toNatClampNeg 0) (1103 : Int32).toNatClampNeg 0) (1104 : Int32).toNatClampNeg 0) (1105 : Int32).toNatClampNeg 0) (6100 : Int32).toNatClampNeg 4)))
  refine go_iload_n (pc := 0) dX10_hasMany_0 rfl rfl ?_
  refine go_iconst (pc := 1) (v := 1) dX10_hasMany_1 (by decide) ?_
  refine go_icmp_eq_f (pc := 2) (tgt := 15) dX10_hasMany_2 (by decide) (by decide) ?_
  refine go_iload_n (pc := 5) dX10_hasMany_5 rfl rfl ?_
  refine go_iconst (pc := 6) (v := 2) dX10_hasMany_6 (by decide) ?_
  refine go_icmp_eq_f (pc := 7) (tgt := 15) dX10_hasMany_7 (by decide) (by decide) ?_
  refine go_iload_n (pc := 10) dX10_hasMany_10 rfl rfl ?_
  refine go_iconst (pc := 11) (v := 5) dX10_hasMany_11 (by decide) ?_
  refine go_icmp_ne_t (pc := 12) (tgt := 19) dX10_hasMany_12 (by decide) (by decide) ?_
  refine go_iconst (pc := 19) (v := 0) dX10_hasMany_19 (by decide) ?_
  exact go_zret (pc := 20) rfl rfl dX10_hasMany_20
set_option maxRecDepth 100000 in
set_option maxHeartbeats 4000000 in
theorem cX10_of_8 {l : Launch} {G : gG} {n k : Nat} {w : Nat → va_E} (hn : 42 ≤ n) (hw : ∀ i, 32 ≤ i → i < 42 → w (G.2.1 + i) = wl G.2.1 (LF G) (G.2.1 + i)) : Ct l G mX10_of 0 0 [.ref (G.2.1 + 32), .int 0, .int 1] n k (va_up w (G.2.1 + 33) (ai G 26100 (upd (upd (upd (upd (upd (upd (upd (upd (upd (sx 256) (1 : Int32).toNatClampNeg 1) (2 : Int32).toNatClampNeg 1) (1100 : Int32).toNatClampNeg 1) (1101 : Int32).toNatClampNeg 4) (1102 : Int32).toNatClampNeg 0) (1103 : Int32).toNatClampNeg 0) (1104 : Int32).toNatClampNeg 0) (1105 : Int32).toNatClampNeg 0) (6100 : Int32).toNatClampNeg 4))) (some (.int 4), n, k, (va_up w (G.2.1 + 33) (ai G 26100 (upd (upd (upd (upd (upd (upd (upd (upd (upd (sx 256) (1 : Int32).toNatClampNeg 1) (2 : Int32).toNatClampNeg 1) (1100 : Int32).toNatClampNeg 1) (1101 : Int32).toNatClampNeg 4) (1102 : Int32).toNatClampNeg 0) (1103 : Int32).toNatClampNeg 0) (1104 : Int32).toNatClampNeg 0) (1105 : Int32).toNatClampNeg 0) (6100 : Int32).toNatClampNeg 4)))) := by
  refine Ct.of (by decide) (Nat.le_of_ble_eq_true rfl) ⟨Nat.le_refl _, Nat.le_refl _⟩ ?_
  show Go l G mX10_of _ 0 [(0, .ref (G.2.1 + 32)), (1, .int 0), (2, .int 1)] [] n k (va_up w (G.2.1 + 33) (ai G 26100 (upd (upd (upd (upd (upd (upd (upd (upd (upd (sx 256) (1 : Int32).toNatClampNeg 1) (2 : Int32).toNatClampNeg 1) (1100 : Int32).toNatClampNeg 1) (1101 : Int32).toNatClampNeg 4) (1102 : Int32).toNatClampNeg 0) (1103 : Int32).toNatClampNeg 0) (1104 : Int32).toNatClampNeg 0) (1105 : Int32).toNatClampNeg 0) (6100 : Int32).toNatClampNeg 4)))
  refine go_aload_n (pc := 0) dX10_of_0 rfl rfl ?_
  refine go_get (pc := 1) fX10_9 rfl (gz_b (by omega)) ((va_up_ne _ _ (gz_ne (by decide))).trans ((hw 32 (by decide) (by decide)).trans (wl_at (i := 32) rfl))) rfl dX10_of_1 ?_
  refine go_sipush (pc := 4) (v := 1100) dX10_of_4 (by decide) ?_
  refine go_bipush (pc := 7) (v := 10) dX10_of_7 (by decide) ?_
  refine go_iload_n (pc := 9) dX10_of_9 rfl rfl ?_
  refine go_imul (pc := 10) dX10_of_10 ?_
  refine go_top (y := 0) (by decide) ?_
  refine go_iadd (pc := 11) dX10_of_11 ?_
  refine go_top (y := 1100) (by decide) ?_
  refine go_iload_n (pc := 12) dX10_of_12 rfl rfl ?_
  refine go_iadd (pc := 13) dX10_of_13 ?_
  refine go_top (y := 1101) (by decide) ?_
  refine go_iald (pc := 14) (gz_b (by omega)) (va_up_self _ _ _) (gv_in (by decide)) dX10_of_14 ?_
  refine go_top (y := 4) rfl ?_
  exact go_iret (pc := 15) rfl dX10_of_15
set_option maxRecDepth 100000 in
set_option maxHeartbeats 4000000 in
theorem cX10_linksOf_3 {l : Launch} {G : gG} {n k : Nat} {w : Nat → va_E} (hn : 42 ≤ n) (hw : ∀ i, 32 ≤ i → i < 42 → w (G.2.1 + i) = wl G.2.1 (LF G) (G.2.1 + i)) : Ct l G mX10_linksOf 1 22 [.ref (G.2.1 + 32), .int 0] n k (va_up w (G.2.1 + 33) (ai G 26100 (upd (upd (upd (upd (upd (upd (upd (upd (upd (sx 256) (1 : Int32).toNatClampNeg 1) (2 : Int32).toNatClampNeg 1) (1100 : Int32).toNatClampNeg 1) (1101 : Int32).toNatClampNeg 4) (1102 : Int32).toNatClampNeg 0) (1103 : Int32).toNatClampNeg 0) (1104 : Int32).toNatClampNeg 0) (1105 : Int32).toNatClampNeg 0) (6100 : Int32).toNatClampNeg 4))) (some (.int 1), n, k, (va_up w (G.2.1 + 33) (ai G 26100 (upd (upd (upd (upd (upd (upd (upd (upd (upd (sx 256) (1 : Int32).toNatClampNeg 1) (2 : Int32).toNatClampNeg 1) (1100 : Int32).toNatClampNeg 1) (1101 : Int32).toNatClampNeg 4) (1102 : Int32).toNatClampNeg 0) (1103 : Int32).toNatClampNeg 0) (1104 : Int32).toNatClampNeg 0) (1105 : Int32).toNatClampNeg 0) (6100 : Int32).toNatClampNeg 4)))) := by
  refine Ct.of (by decide) (Nat.le_of_ble_eq_true rfl) ⟨Nat.le_refl _, Nat.le_refl _⟩ ?_
  show Go l G mX10_linksOf _ 0 [(0, .ref (G.2.1 + 32)), (1, .int 0)] [] n k (va_up w (G.2.1 + 33) (ai G 26100 (upd (upd (upd (upd (upd (upd (upd (upd (upd (sx 256) (1 : Int32).toNatClampNeg 1) (2 : Int32).toNatClampNeg 1) (1100 : Int32).toNatClampNeg 1) (1101 : Int32).toNatClampNeg 4) (1102 : Int32).toNatClampNeg 0) (1103 : Int32).toNatClampNeg 0) (1104 : Int32).toNatClampNeg 0) (1105 : Int32).toNatClampNeg 0) (6100 : Int32).toNatClampNeg 4)))
  refine go_aload_n (pc := 0) dX10_linksOf_0 rfl rfl ?_
  refine go_iload_n (pc := 1) dX10_linksOf_1 rfl rfl ?_
  refine go_iconst (pc := 2) (v := 1) dX10_linksOf_2 (by decide) ?_
  refine go_callV_i (pc := 3) vX10_71 rfl (cX10_of_8 hn hw) rfl rfl (gz_b (by omega)) ((va_up_ne _ _ (gz_ne (by decide))).trans ((hw 32 (by decide) (by decide)).trans (wl_at (i := 32) rfl))) rfl (Nat.le_of_ble_eq_true rfl) ⟨Nat.le_of_ble_eq_true rfl, Nat.le_of_ble_eq_true rfl, (Nat.le_add_right _ _), (Nat.le_add_right _ _)⟩ dX10_linksOf_3 ?_
  refine go_istore_n (pc := 6) (lv' := [(2, .int 4), (0, .ref (G.2.1 + 32)), (1, .int 0)]) dX10_linksOf_6 rfl (by decide) rfl ?_
  refine go_iload_n (pc := 7) dX10_linksOf_7 rfl rfl ?_
  refine go_if_ne_t (pc := 8) (tgt := 15) dX10_linksOf_8 (by decide) (by decide) ?_
  refine go_iload_n (pc := 15) dX10_linksOf_15 rfl rfl ?_
  refine go_iconst (pc := 16) (v := 3) dX10_linksOf_16 (by decide) ?_
  refine go_icmp_eq_f (pc := 17) (tgt := 25) dX10_linksOf_17 (by decide) (by decide) ?_
  refine go_iload_n (pc := 20) dX10_linksOf_20 rfl rfl ?_
  refine go_iconst (pc := 21) (v := 4) dX10_linksOf_21 (by decide) ?_
  refine go_icmp_ne_f (pc := 22) (tgt := 29) dX10_linksOf_22 (by decide) (by decide) ?_
  refine go_iconst (pc := 25) (v := 1) dX10_linksOf_25 (by decide) ?_
  refine go_goto (pc := 26) (tgt := 44) dX10_linksOf_26 (by decide) ?_
  exact go_iret (pc := 44) rfl dX10_linksOf_44
set_option maxRecDepth 100000 in
set_option maxHeartbeats 4000000 in
theorem cX10_of_9 {l : Launch} {G : gG} {n k : Nat} {w : Nat → va_E} (hn : 42 ≤ n) (hw : ∀ i, 32 ≤ i → i < 42 → w (G.2.1 + i) = wl G.2.1 (LF G) (G.2.1 + i)) : Ct l G mX10_of 0 0 [.ref (G.2.1 + 32), .int 0, .int 2] n k (va_up w (G.2.1 + 33) (ai G 26100 (upd (upd (upd (upd (upd (upd (upd (upd (upd (sx 256) (1 : Int32).toNatClampNeg 1) (2 : Int32).toNatClampNeg 1) (1100 : Int32).toNatClampNeg 1) (1101 : Int32).toNatClampNeg 4) (1102 : Int32).toNatClampNeg 0) (1103 : Int32).toNatClampNeg 0) (1104 : Int32).toNatClampNeg 0) (1105 : Int32).toNatClampNeg 0) (6100 : Int32).toNatClampNeg 4))) (some (.int 0), n, k, (va_up w (G.2.1 + 33) (ai G 26100 (upd (upd (upd (upd (upd (upd (upd (upd (upd (sx 256) (1 : Int32).toNatClampNeg 1) (2 : Int32).toNatClampNeg 1) (1100 : Int32).toNatClampNeg 1) (1101 : Int32).toNatClampNeg 4) (1102 : Int32).toNatClampNeg 0) (1103 : Int32).toNatClampNeg 0) (1104 : Int32).toNatClampNeg 0) (1105 : Int32).toNatClampNeg 0) (6100 : Int32).toNatClampNeg 4)))) := by
  refine Ct.of (by decide) (Nat.le_of_ble_eq_true rfl) ⟨Nat.le_refl _, Nat.le_refl _⟩ ?_
  show Go l G mX10_of _ 0 [(0, .ref (G.2.1 + 32)), (1, .int 0), (2, .int 2)] [] n k (va_up w (G.2.1 + 33) (ai G 26100 (upd (upd (upd (upd (upd (upd (upd (upd (upd (sx 256) (1 : Int32).toNatClampNeg 1) (2 : Int32).toNatClampNeg 1) (1100 : Int32).toNatClampNeg 1) (1101 : Int32).toNatClampNeg 4) (1102 : Int32).toNatClampNeg 0) (1103 : Int32).toNatClampNeg 0) (1104 : Int32).toNatClampNeg 0) (1105 : Int32).toNatClampNeg 0) (6100 : Int32).toNatClampNeg 4)))
  refine go_aload_n (pc := 0) dX10_of_0 rfl rfl ?_
  refine go_get (pc := 1) fX10_9 rfl (gz_b (by omega)) ((va_up_ne _ _ (gz_ne (by decide))).trans ((hw 32 (by decide) (by decide)).trans (wl_at (i := 32) rfl))) rfl dX10_of_1 ?_
  refine go_sipush (pc := 4) (v := 1100) dX10_of_4 (by decide) ?_
  refine go_bipush (pc := 7) (v := 10) dX10_of_7 (by decide) ?_
  refine go_iload_n (pc := 9) dX10_of_9 rfl rfl ?_
  refine go_imul (pc := 10) dX10_of_10 ?_
  refine go_top (y := 0) (by decide) ?_
  refine go_iadd (pc := 11) dX10_of_11 ?_
  refine go_top (y := 1100) (by decide) ?_
  refine go_iload_n (pc := 12) dX10_of_12 rfl rfl ?_
  refine go_iadd (pc := 13) dX10_of_13 ?_
  refine go_top (y := 1102) (by decide) ?_
  refine go_iald (pc := 14) (gz_b (by omega)) (va_up_self _ _ _) (gv_in (by decide)) dX10_of_14 ?_
  refine go_top (y := 0) rfl ?_
  exact go_iret (pc := 15) rfl dX10_of_15
set_option maxRecDepth 100000 in
set_option maxHeartbeats 4000000 in
theorem cX10_linkAt_4 {l : Launch} {G : gG} {n k : Nat} {w : Nat → va_E} (hn : 42 ≤ n) (hw : ∀ i, 32 ≤ i → i < 42 → w (G.2.1 + i) = wl G.2.1 (LF G) (G.2.1 + i)) : Ct l G mX10_linkAt 1 22 [.ref (G.2.1 + 32), .int 0, .int 0] n k (va_up w (G.2.1 + 33) (ai G 26100 (upd (upd (upd (upd (upd (upd (upd (upd (upd (sx 256) (1 : Int32).toNatClampNeg 1) (2 : Int32).toNatClampNeg 1) (1100 : Int32).toNatClampNeg 1) (1101 : Int32).toNatClampNeg 4) (1102 : Int32).toNatClampNeg 0) (1103 : Int32).toNatClampNeg 0) (1104 : Int32).toNatClampNeg 0) (1105 : Int32).toNatClampNeg 0) (6100 : Int32).toNatClampNeg 4))) (some (.int 6101), n, k, (va_up w (G.2.1 + 33) (ai G 26100 (upd (upd (upd (upd (upd (upd (upd (upd (upd (sx 256) (1 : Int32).toNatClampNeg 1) (2 : Int32).toNatClampNeg 1) (1100 : Int32).toNatClampNeg 1) (1101 : Int32).toNatClampNeg 4) (1102 : Int32).toNatClampNeg 0) (1103 : Int32).toNatClampNeg 0) (1104 : Int32).toNatClampNeg 0) (1105 : Int32).toNatClampNeg 0) (6100 : Int32).toNatClampNeg 4)))) := by
  refine Ct.of (by decide) (Nat.le_of_ble_eq_true rfl) ⟨Nat.le_refl _, Nat.le_refl _⟩ ?_
  show Go l G mX10_linkAt _ 0 [(0, .ref (G.2.1 + 32)), (1, .int 0), (2, .int 0)] [] n k (va_up w (G.2.1 + 33) (ai G 26100 (upd (upd (upd (upd (upd (upd (upd (upd (upd (sx 256) (1 : Int32).toNatClampNeg 1) (2 : Int32).toNatClampNeg 1) (1100 : Int32).toNatClampNeg 1) (1101 : Int32).toNatClampNeg 4) (1102 : Int32).toNatClampNeg 0) (1103 : Int32).toNatClampNeg 0) (1104 : Int32).toNatClampNeg 0) (1105 : Int32).toNatClampNeg 0) (6100 : Int32).toNatClampNeg 4)))
  refine go_aload_n (pc := 0) dX10_linkAt_0 rfl rfl ?_
  refine go_iload_n (pc := 1) dX10_linkAt_1 rfl rfl ?_
  refine go_iconst (pc := 2) (v := 1) dX10_linkAt_2 (by decide) ?_
  refine go_callV_i (pc := 3) vX10_71 rfl (cX10_of_8 hn hw) rfl rfl (gz_b (by omega)) ((va_up_ne _ _ (gz_ne (by decide))).trans ((hw 32 (by decide) (by decide)).trans (wl_at (i := 32) rfl))) rfl (Nat.le_of_ble_eq_true rfl) ⟨Nat.le_of_ble_eq_true rfl, Nat.le_of_ble_eq_true rfl, (Nat.le_add_right _ _), (Nat.le_add_right _ _)⟩ dX10_linkAt_3 ?_
  refine go_istore_n (pc := 6) (lv' := [(3, .int 4), (0, .ref (G.2.1 + 32)), (1, .int 0), (2, .int 0)]) dX10_linkAt_6 rfl (by decide) rfl ?_
  refine go_sipush (pc := 7) (v := 6100) dX10_linkAt_7 (by decide) ?_
  refine go_aload_n (pc := 10) dX10_linkAt_10 rfl rfl ?_
  refine go_iload_n (pc := 11) dX10_linkAt_11 rfl rfl ?_
  refine go_iconst (pc := 12) (v := 2) dX10_linkAt_12 (by decide) ?_
  refine go_callV_i (pc := 13) vX10_71 rfl (cX10_of_9 hn hw) rfl rfl (gz_b (by omega)) ((va_up_ne _ _ (gz_ne (by decide))).trans ((hw 32 (by decide) (by decide)).trans (wl_at (i := 32) rfl))) rfl (Nat.le_of_ble_eq_true rfl) ⟨Nat.le_of_ble_eq_true rfl, Nat.le_of_ble_eq_true rfl, (Nat.le_add_right _ _), (Nat.le_add_right _ _)⟩ dX10_linkAt_13 ?_
  refine go_iadd (pc := 16) dX10_linkAt_16 ?_
  refine go_top (y := 6100) (by decide) ?_
  refine go_iload_n (pc := 17) dX10_linkAt_17 rfl rfl ?_
  refine go_iconst (pc := 18) (v := 1) dX10_linkAt_18 (by decide) ?_
  refine go_icmp_eq_f (pc := 19) (tgt := 27) dX10_linkAt_19 (by decide) (by decide) ?_
  refine go_iload_n (pc := 22) dX10_linkAt_22 rfl rfl ?_
  refine go_iconst (pc := 23) (v := 5) dX10_linkAt_23 (by decide) ?_
  refine go_icmp_ne_t (pc := 24) (tgt := 31) dX10_linkAt_24 (by decide) (by decide) ?_
  refine go_iconst (pc := 31) (v := 1) dX10_linkAt_31 (by decide) ?_
  refine go_iadd (pc := 32) dX10_linkAt_32 ?_
  refine go_top (y := 6101) (by decide) ?_
  refine go_iload_n (pc := 33) dX10_linkAt_33 rfl rfl ?_
  refine go_iadd (pc := 34) dX10_linkAt_34 ?_
  refine go_top (y := 6101) (by decide) ?_
  exact go_iret (pc := 35) rfl dX10_linkAt_35
set_option maxRecDepth 100000 in
set_option maxHeartbeats 4000000 in
theorem cX10_of_10 {l : Launch} {G : gG} {n k : Nat} {w : Nat → va_E} (hn : 42 ≤ n) (hw : ∀ i, 32 ≤ i → i < 42 → w (G.2.1 + i) = wl G.2.1 (LF G) (G.2.1 + i)) : Ct l G mX10_of 0 0 [.ref (G.2.1 + 32), .int 0, .int 2] n k (va_up w (G.2.1 + 33) (ai G 26100 (upd (upd (upd (upd (upd (upd (upd (upd (upd (upd (sx 256) (1 : Int32).toNatClampNeg 1) (2 : Int32).toNatClampNeg 1) (1100 : Int32).toNatClampNeg 1) (1101 : Int32).toNatClampNeg 4) (1102 : Int32).toNatClampNeg 0) (1103 : Int32).toNatClampNeg 0) (1104 : Int32).toNatClampNeg 0) (1105 : Int32).toNatClampNeg 0) (6100 : Int32).toNatClampNeg 4) (6101 : Int32).toNatClampNeg ((-1))))) (some (.int 0), n, k, (va_up w (G.2.1 + 33) (ai G 26100 (upd (upd (upd (upd (upd (upd (upd (upd (upd (upd (sx 256) (1 : Int32).toNatClampNeg 1) (2 : Int32).toNatClampNeg 1) (1100 : Int32).toNatClampNeg 1) (1101 : Int32).toNatClampNeg 4) (1102 : Int32).toNatClampNeg 0) (1103 : Int32).toNatClampNeg 0) (1104 : Int32).toNatClampNeg 0) (1105 : Int32).toNatClampNeg 0) (6100 : Int32).toNatClampNeg 4) (6101 : Int32).toNatClampNeg ((-1)))))) := by
  refine Ct.of (by decide) (Nat.le_of_ble_eq_true rfl) ⟨Nat.le_refl _, Nat.le_refl _⟩ ?_
  show Go l G mX10_of _ 0 [(0, .ref (G.2.1 + 32)), (1, .int 0), (2, .int 2)] [] n k (va_up w (G.2.1 + 33) (ai G 26100 (upd (upd (upd (upd (upd (upd (upd (upd (upd (upd (sx 256) (1 : Int32).toNatClampNeg 1) (2 : Int32).toNatClampNeg 1) (1100 : Int32).toNatClampNeg 1) (1101 : Int32).toNatClampNeg 4) (1102 : Int32).toNatClampNeg 0) (1103 : Int32).toNatClampNeg 0) (1104 : Int32).toNatClampNeg 0) (1105 : Int32).toNatClampNeg 0) (6100 : Int32).toNatClampNeg 4) (6101 : Int32).toNatClampNeg ((-1)))))
  refine go_aload_n (pc := 0) dX10_of_0 rfl rfl ?_
  refine go_get (pc := 1) fX10_9 rfl (gz_b (by omega)) ((va_up_ne _ _ (gz_ne (by decide))).trans ((hw 32 (by decide) (by decide)).trans (wl_at (i := 32) rfl))) rfl dX10_of_1 ?_
  refine go_sipush (pc := 4) (v := 1100) dX10_of_4 (by decide) ?_
  refine go_bipush (pc := 7) (v := 10) dX10_of_7 (by decide) ?_
  refine go_iload_n (pc := 9) dX10_of_9 rfl rfl ?_
  refine go_imul (pc := 10) dX10_of_10 ?_
  refine go_top (y := 0) (by decide) ?_
  refine go_iadd (pc := 11) dX10_of_11 ?_
  refine go_top (y := 1100) (by decide) ?_
  refine go_iload_n (pc := 12) dX10_of_12 rfl rfl ?_
  refine go_iadd (pc := 13) dX10_of_13 ?_
  refine go_top (y := 1102) (by decide) ?_
  refine go_iald (pc := 14) (gz_b (by omega)) (va_up_self _ _ _) (gv_in (by decide)) dX10_of_14 ?_
  refine go_top (y := 0) rfl ?_
  exact go_iret (pc := 15) rfl dX10_of_15
set_option maxRecDepth 100000 in
set_option maxHeartbeats 4000000 in
theorem cX10_weakAt_2 {l : Launch} {G : gG} {n k : Nat} {w : Nat → va_E} (hn : 42 ≤ n) (hw : ∀ i, 32 ≤ i → i < 42 → w (G.2.1 + i) = wl G.2.1 (LF G) (G.2.1 + i)) : Ct l G mX10_weakAt 1 22 [.ref (G.2.1 + 32), .int 0] n k (va_up w (G.2.1 + 33) (ai G 26100 (upd (upd (upd (upd (upd (upd (upd (upd (upd (upd (sx 256) (1 : Int32).toNatClampNeg 1) (2 : Int32).toNatClampNeg 1) (1100 : Int32).toNatClampNeg 1) (1101 : Int32).toNatClampNeg 4) (1102 : Int32).toNatClampNeg 0) (1103 : Int32).toNatClampNeg 0) (1104 : Int32).toNatClampNeg 0) (1105 : Int32).toNatClampNeg 0) (6100 : Int32).toNatClampNeg 4) (6101 : Int32).toNatClampNeg ((-1))))) (some (.int 6102), n, k, (va_up w (G.2.1 + 33) (ai G 26100 (upd (upd (upd (upd (upd (upd (upd (upd (upd (upd (sx 256) (1 : Int32).toNatClampNeg 1) (2 : Int32).toNatClampNeg 1) (1100 : Int32).toNatClampNeg 1) (1101 : Int32).toNatClampNeg 4) (1102 : Int32).toNatClampNeg 0) (1103 : Int32).toNatClampNeg 0) (1104 : Int32).toNatClampNeg 0) (1105 : Int32).toNatClampNeg 0) (6100 : Int32).toNatClampNeg 4) (6101 : Int32).toNatClampNeg ((-1)))))) := by
  refine Ct.of (by decide) (Nat.le_of_ble_eq_true rfl) ⟨Nat.le_refl _, Nat.le_refl _⟩ ?_
  show Go l G mX10_weakAt _ 0 [(0, .ref (G.2.1 + 32)), (1, .int 0)] [] n k (va_up w (G.2.1 + 33) (ai G 26100 (upd (upd (upd (upd (upd (upd (upd (upd (upd (upd (sx 256) (1 : Int32).toNatClampNeg 1) (2 : Int32).toNatClampNeg 1) (1100 : Int32).toNatClampNeg 1) (1101 : Int32).toNatClampNeg 4) (1102 : Int32).toNatClampNeg 0) (1103 : Int32).toNatClampNeg 0) (1104 : Int32).toNatClampNeg 0) (1105 : Int32).toNatClampNeg 0) (6100 : Int32).toNatClampNeg 4) (6101 : Int32).toNatClampNeg ((-1)))))
  refine go_sipush (pc := 0) (v := 6100) dX10_weakAt_0 (by decide) ?_
  refine go_aload_n (pc := 3) dX10_weakAt_3 rfl rfl ?_
  refine go_iload_n (pc := 4) dX10_weakAt_4 rfl rfl ?_
  refine go_iconst (pc := 5) (v := 2) dX10_weakAt_5 (by decide) ?_
  refine go_callV_i (pc := 6) vX10_71 rfl (cX10_of_10 hn hw) rfl rfl (gz_b (by omega)) ((va_up_ne _ _ (gz_ne (by decide))).trans ((hw 32 (by decide) (by decide)).trans (wl_at (i := 32) rfl))) rfl (Nat.le_of_ble_eq_true rfl) ⟨Nat.le_of_ble_eq_true rfl, Nat.le_of_ble_eq_true rfl, (Nat.le_add_right _ _), (Nat.le_add_right _ _)⟩ dX10_weakAt_6 ?_
  refine go_iadd (pc := 9) dX10_weakAt_9 ?_
  refine go_top (y := 6100) (by decide) ?_
  refine go_iconst (pc := 10) (v := 2) dX10_weakAt_10 (by decide) ?_
  refine go_iadd (pc := 11) dX10_weakAt_11 ?_
  refine go_top (y := 6102) (by decide) ?_
  exact go_iret (pc := 12) rfl dX10_weakAt_12
set_option maxRecDepth 100000 in
set_option maxHeartbeats 4000000 in
theorem cX10_makes_3 {l : Launch} {G : gG} (x2 : Int32) {n k : Nat} {w : Nat → va_E} (hn : 42 ≤ n) (hw : ∀ i, 32 ≤ i → i < 42 → w (G.2.1 + i) = wl G.2.1 (LF G) (G.2.1 + i)) : Ct l G mX10_makes 2 45 [.ref (G.2.1 + 32), .int 4, .int x2] n k w (some (.int 0), n, k, (va_up w (G.2.1 + 33) (ai G 26100 (upd (upd (upd (upd (upd (upd (upd (upd (upd (upd (upd (upd (sx 256) (1 : Int32).toNatClampNeg 1) (2 : Int32).toNatClampNeg 1) (1100 : Int32).toNatClampNeg 1) (1101 : Int32).toNatClampNeg 4) (1102 : Int32).toNatClampNeg 0) (1103 : Int32).toNatClampNeg 0) (1104 : Int32).toNatClampNeg 0) (1105 : Int32).toNatClampNeg 0) (6100 : Int32).toNatClampNeg 4) (6101 : Int32).toNatClampNeg ((-1))) (6102 : Int32).toNatClampNeg ((-1))) (16 : Int32).toNatClampNeg 4)))) := by
  refine Ct.of (by decide) (Nat.le_of_ble_eq_true rfl) ⟨Nat.le_refl _, Nat.le_refl _⟩ ?_
  show Go l G mX10_makes _ 0 [(0, .ref (G.2.1 + 32)), (1, .int 4), (2, .int x2)] [] n k w
  refine go_iload_n (pc := 0) dX10_makes_0 rfl rfl ?_
  refine go_callS_i (pc := 1) sX10_138 rfl (cX10_hasMany_6 hn hw) rfl rfl (Nat.le_of_ble_eq_true rfl) ⟨Nat.le_of_ble_eq_true rfl, Nat.le_of_ble_eq_true rfl, (Nat.le_add_right _ _), (Nat.le_add_right _ _)⟩ dX10_makes_1 ?_
  refine go_if_eq_t (pc := 4) (tgt := 11) dX10_makes_4 (by decide) (by decide) ?_
  refine go_iconst (pc := 11) (v := 0) dX10_makes_11 (by decide) ?_
  refine go_istore_n (pc := 12) (lv' := [(3, .int 0), (0, .ref (G.2.1 + 32)), (1, .int 4), (2, .int x2)]) dX10_makes_12 rfl (by decide) rfl ?_
  refine go_iload_n (pc := 13) dX10_makes_13 rfl rfl ?_
  refine go_if_ge_t (pc := 14) (tgt := 22) dX10_makes_14 (by decide) (by decide) ?_
  refine go_aload_n (pc := 22) dX10_makes_22 rfl rfl ?_
  refine go_get (pc := 23) fX10_9 rfl (gz_b (by omega)) ((hw 32 (by decide) (by decide)).trans (wl_at (i := 32) rfl)) rfl dX10_makes_23 ?_
  refine go_iconst (pc := 26) (v := 1) dX10_makes_26 (by decide) ?_
  refine go_iald (pc := 27) (gz_b (by omega)) ((hw 33 (by decide) (by decide)).trans (wl_at (i := 33) rfl)) (gv_in (by decide)) dX10_makes_27 ?_
  refine go_top (y := 0) rfl ?_
  refine go_sipush (pc := 28) (v := 500) dX10_makes_28 (by decide) ?_
  refine go_icmp_ne_t (pc := 31) (tgt := 40) dX10_makes_31 (by decide) (by decide) ?_
  refine go_iload_n (pc := 40) dX10_makes_40 rfl rfl ?_
  refine go_iload_n (pc := 41) dX10_makes_41 rfl rfl ?_
  refine go_callS_i (pc := 42) sX10_75 rfl (cX10_sizeOf_3 hn hw) rfl rfl (Nat.le_of_ble_eq_true rfl) ⟨Nat.le_of_ble_eq_true rfl, Nat.le_of_ble_eq_true rfl, (Nat.le_add_right _ _), (Nat.le_add_right _ _)⟩ dX10_makes_42 ?_
  refine go_istore (pc := 45) (lv' := [(4, .int 4), (3, .int 0), (0, .ref (G.2.1 + 32)), (1, .int 4), (2, .int x2)]) dX10_makes_45 (by decide) rfl ?_
  refine go_iload (pc := 47) dX10_makes_47 rfl ?_
  refine go_aload_n (pc := 49) dX10_makes_49 rfl rfl ?_
  refine go_get (pc := 50) fX10_9 rfl (gz_b (by omega)) ((hw 32 (by decide) (by decide)).trans (wl_at (i := 32) rfl)) rfl dX10_makes_50 ?_
  refine go_iconst (pc := 53) (v := 0) dX10_makes_53 (by decide) ?_
  refine go_iald (pc := 54) (gz_b (by omega)) ((hw 33 (by decide) (by decide)).trans (wl_at (i := 33) rfl)) (gv_in (by decide)) dX10_makes_54 ?_
  refine go_top (y := 256) rfl ?_
  refine go_aload_n (pc := 55) dX10_makes_55 rfl rfl ?_
  refine go_get (pc := 56) fX10_9 rfl (gz_b (by omega)) ((hw 32 (by decide) (by decide)).trans (wl_at (i := 32) rfl)) rfl dX10_makes_56 ?_
  refine go_bipush (pc := 59) (v := 16) dX10_makes_59 (by decide) ?_
  refine go_iald (pc := 61) (gz_b (by omega)) ((hw 33 (by decide) (by decide)).trans (wl_at (i := 33) rfl)) (gv_in (by decide)) dX10_makes_61 ?_
  refine go_top (y := 0) rfl ?_
  refine go_isub (pc := 62) dX10_makes_62 ?_
  refine go_top (y := 256) (by decide) ?_
  refine go_icmp_le_t (pc := 63) (tgt := 127) dX10_makes_63 (by decide) (by decide) ?_
  refine go_aload_n (pc := 127) dX10_makes_127 rfl rfl ?_
  refine go_get (pc := 128) fX10_9 rfl (gz_b (by omega)) ((hw 32 (by decide) (by decide)).trans (wl_at (i := 32) rfl)) rfl dX10_makes_128 ?_
  refine go_iconst (pc := 131) (v := 1) dX10_makes_131 (by decide) ?_
  refine go_iald (pc := 132) (gz_b (by omega)) ((hw 33 (by decide) (by decide)).trans (wl_at (i := 33) rfl)) (gv_in (by decide)) dX10_makes_132 ?_
  refine go_top (y := 0) rfl ?_
  refine go_istore (pc := 133) (lv' := [(5, .int 0), (4, .int 4), (3, .int 0), (0, .ref (G.2.1 + 32)), (1, .int 4), (2, .int x2)]) dX10_makes_133 (by decide) rfl ?_
  refine go_aload_n (pc := 135) dX10_makes_135 rfl rfl ?_
  refine go_get (pc := 136) fX10_9 rfl (gz_b (by omega)) ((hw 32 (by decide) (by decide)).trans (wl_at (i := 32) rfl)) rfl dX10_makes_136 ?_
  refine go_iconst (pc := 139) (v := 1) dX10_makes_139 (by decide) ?_
  refine go_dup2 (pc := 140) dX10_makes_140 rfl rfl ?_
  refine go_iald (pc := 141) (gz_b (by omega)) ((hw 33 (by decide) (by decide)).trans (wl_at (i := 33) rfl)) (gv_in (by decide)) dX10_makes_141 ?_
  refine go_top (y := 0) rfl ?_
  refine go_iconst (pc := 142) (v := 1) dX10_makes_142 (by decide) ?_
  refine go_iadd (pc := 143) dX10_makes_143 ?_
  refine go_top (y := 1) (by decide) ?_
  refine go_iast (pc := 144) (gz_b (by omega)) ((hw 33 (by decide) (by decide)).trans (wl_at (i := 33) rfl)) (gv_in (by decide)) dX10_makes_144 ?_
  refine go_aload_n (pc := 145) dX10_makes_145 rfl rfl ?_
  refine go_get (pc := 146) fX10_9 rfl (gz_b (by omega)) ((va_up_ne _ _ (gz_ne (by decide))).trans ((hw 32 (by decide) (by decide)).trans (wl_at (i := 32) rfl))) rfl dX10_makes_146 ?_
  refine go_iconst (pc := 149) (v := 2) dX10_makes_149 (by decide) ?_
  refine go_dup2 (pc := 150) dX10_makes_150 rfl rfl ?_
  refine go_iald (pc := 151) (gz_b (by omega)) (va_up_self _ _ _) (gv_in (by decide)) dX10_makes_151 ?_
  refine go_top (y := 0) rfl ?_
  refine go_iconst (pc := 152) (v := 1) dX10_makes_152 (by decide) ?_
  refine go_iadd (pc := 153) dX10_makes_153 ?_
  refine go_top (y := 1) (by decide) ?_
  refine go_iast (pc := 154) (gz_b (by omega)) (va_up_self _ _ _) (gv_in (by decide)) dX10_makes_154 ?_
  refine go_w (va_up_up _ _ _ _) ?_
  refine go_aload_n (pc := 155) dX10_makes_155 rfl rfl ?_
  refine go_iload (pc := 156) dX10_makes_156 rfl ?_
  refine go_iconst (pc := 158) (v := 0) dX10_makes_158 (by decide) ?_
  refine go_iconst (pc := 159) (v := 1) dX10_makes_159 (by decide) ?_
  refine go_callV_v (pc := 160) vX10_82 rfl (cX10_lets_1 hn hw) rfl rfl (gz_b (by omega)) ((va_up_ne _ _ (gz_ne (by decide))).trans ((hw 32 (by decide) (by decide)).trans (wl_at (i := 32) rfl))) rfl (Nat.le_of_ble_eq_true rfl) ⟨Nat.le_of_ble_eq_true rfl, Nat.le_of_ble_eq_true rfl, (Nat.le_add_right _ _), (Nat.le_add_right _ _)⟩ dX10_makes_160 ?_
  refine go_aload_n (pc := 163) dX10_makes_163 rfl rfl ?_
  refine go_iload (pc := 164) dX10_makes_164 rfl ?_
  refine go_iconst (pc := 166) (v := 1) dX10_makes_166 (by decide) ?_
  refine go_iload_n (pc := 167) dX10_makes_167 rfl rfl ?_
  refine go_callV_v (pc := 168) vX10_82 rfl (cX10_lets_12 hn hw) rfl rfl (gz_b (by omega)) ((va_up_ne _ _ (gz_ne (by decide))).trans ((hw 32 (by decide) (by decide)).trans (wl_at (i := 32) rfl))) rfl (Nat.le_of_ble_eq_true rfl) ⟨Nat.le_of_ble_eq_true rfl, Nat.le_of_ble_eq_true rfl, (Nat.le_add_right _ _), (Nat.le_add_right _ _)⟩ dX10_makes_168 ?_
  refine go_aload_n (pc := 171) dX10_makes_171 rfl rfl ?_
  refine go_iload (pc := 172) dX10_makes_172 rfl ?_
  refine go_iconst (pc := 174) (v := 2) dX10_makes_174 (by decide) ?_
  refine go_aload_n (pc := 175) dX10_makes_175 rfl rfl ?_
  refine go_get (pc := 176) fX10_9 rfl (gz_b (by omega)) ((va_up_ne _ _ (gz_ne (by decide))).trans ((hw 32 (by decide) (by decide)).trans (wl_at (i := 32) rfl))) rfl dX10_makes_176 ?_
  refine go_bipush (pc := 179) (v := 16) dX10_makes_179 (by decide) ?_
  refine go_iald (pc := 181) (gz_b (by omega)) (va_up_self _ _ _) (gv_in (by decide)) dX10_makes_181 ?_
  refine go_top (y := 0) rfl ?_
  refine go_callV_v (pc := 182) vX10_82 rfl (cX10_lets_13 hn hw) rfl rfl (gz_b (by omega)) ((va_up_ne _ _ (gz_ne (by decide))).trans ((hw 32 (by decide) (by decide)).trans (wl_at (i := 32) rfl))) rfl (Nat.le_of_ble_eq_true rfl) ⟨Nat.le_of_ble_eq_true rfl, Nat.le_of_ble_eq_true rfl, (Nat.le_add_right _ _), (Nat.le_add_right _ _)⟩ dX10_makes_182 ?_
  refine go_aload_n (pc := 185) dX10_makes_185 rfl rfl ?_
  refine go_iload (pc := 186) dX10_makes_186 rfl ?_
  refine go_iconst (pc := 188) (v := 3) dX10_makes_188 (by decide) ?_
  refine go_iload_n (pc := 189) dX10_makes_189 rfl rfl ?_
  refine go_callV_v (pc := 190) vX10_82 rfl (cX10_lets_14 hn hw) rfl rfl (gz_b (by omega)) ((va_up_ne _ _ (gz_ne (by decide))).trans ((hw 32 (by decide) (by decide)).trans (wl_at (i := 32) rfl))) rfl (Nat.le_of_ble_eq_true rfl) ⟨Nat.le_of_ble_eq_true rfl, Nat.le_of_ble_eq_true rfl, (Nat.le_add_right _ _), (Nat.le_add_right _ _)⟩ dX10_makes_190 ?_
  refine go_aload_n (pc := 193) dX10_makes_193 rfl rfl ?_
  refine go_iload (pc := 194) dX10_makes_194 rfl ?_
  refine go_iconst (pc := 196) (v := 4) dX10_makes_196 (by decide) ?_
  refine go_iconst (pc := 197) (v := 0) dX10_makes_197 (by decide) ?_
  refine go_callV_v (pc := 198) vX10_82 rfl (cX10_lets_15 hn hw) rfl rfl (gz_b (by omega)) ((va_up_ne _ _ (gz_ne (by decide))).trans ((hw 32 (by decide) (by decide)).trans (wl_at (i := 32) rfl))) rfl (Nat.le_of_ble_eq_true rfl) ⟨Nat.le_of_ble_eq_true rfl, Nat.le_of_ble_eq_true rfl, (Nat.le_add_right _ _), (Nat.le_add_right _ _)⟩ dX10_makes_198 ?_
  refine go_aload_n (pc := 201) dX10_makes_201 rfl rfl ?_
  refine go_iload (pc := 202) dX10_makes_202 rfl ?_
  refine go_iconst (pc := 204) (v := 5) dX10_makes_204 (by decide) ?_
  refine go_iconst (pc := 205) (v := 0) dX10_makes_205 (by decide) ?_
  refine go_callV_v (pc := 206) vX10_82 rfl (cX10_lets_16 hn hw) rfl rfl (gz_b (by omega)) ((va_up_ne _ _ (gz_ne (by decide))).trans ((hw 32 (by decide) (by decide)).trans (wl_at (i := 32) rfl))) rfl (Nat.le_of_ble_eq_true rfl) ⟨Nat.le_of_ble_eq_true rfl, Nat.le_of_ble_eq_true rfl, (Nat.le_add_right _ _), (Nat.le_add_right _ _)⟩ dX10_makes_206 ?_
  refine go_aload_n (pc := 209) dX10_makes_209 rfl rfl ?_
  refine go_get (pc := 210) fX10_9 rfl (gz_b (by omega)) ((va_up_ne _ _ (gz_ne (by decide))).trans ((hw 32 (by decide) (by decide)).trans (wl_at (i := 32) rfl))) rfl dX10_makes_210 ?_
  refine go_sipush (pc := 213) (v := 6100) dX10_makes_213 (by decide) ?_
  refine go_aload_n (pc := 216) dX10_makes_216 rfl rfl ?_
  refine go_get (pc := 217) fX10_9 rfl (gz_b (by omega)) ((va_up_ne _ _ (gz_ne (by decide))).trans ((hw 32 (by decide) (by decide)).trans (wl_at (i := 32) rfl))) rfl dX10_makes_217 ?_
  refine go_bipush (pc := 220) (v := 16) dX10_makes_220 (by decide) ?_
  refine go_iald (pc := 222) (gz_b (by omega)) (va_up_self _ _ _) (gv_in (by decide)) dX10_makes_222 ?_
  refine go_top (y := 0) rfl ?_
  refine go_iadd (pc := 223) dX10_makes_223 ?_
  refine go_top (y := 6100) (by decide) ?_
  refine go_bipush (pc := 224) (v := 8) dX10_makes_224 (by decide) ?_
  refine go_iload (pc := 226) dX10_makes_226 rfl ?_
  refine go_imul (pc := 228) dX10_makes_228 ?_
  refine go_top (y := 0) (by decide) ?_
  refine go_iload_n (pc := 229) dX10_makes_229 rfl rfl ?_
  refine go_iadd (pc := 230) dX10_makes_230 ?_
  refine go_top (y := 4) (by decide) ?_
  refine go_iast (pc := 231) (gz_b (by omega)) (va_up_self _ _ _) (gv_in (by decide)) dX10_makes_231 ?_
  refine go_w (va_up_up _ _ _ _) ?_
  refine go_iload_n (pc := 232) dX10_makes_232 rfl rfl ?_
  refine go_callS_i (pc := 233) sX10_138 rfl (cX10_hasMany_7 hn hw) rfl rfl (Nat.le_of_ble_eq_true rfl) ⟨Nat.le_of_ble_eq_true rfl, Nat.le_of_ble_eq_true rfl, (Nat.le_add_right _ _), (Nat.le_add_right _ _)⟩ dX10_makes_233 ?_
  refine go_if_eq_t (pc := 236) (tgt := 258) dX10_makes_236 (by decide) (by decide) ?_
  refine go_aload_n (pc := 258) dX10_makes_258 rfl rfl ?_
  refine go_iload (pc := 259) dX10_makes_259 rfl ?_
  refine go_callV_i (pc := 261) vX10_90 rfl (cX10_linksOf_3 hn hw) rfl rfl (gz_b (by omega)) ((va_up_ne _ _ (gz_ne (by decide))).trans ((hw 32 (by decide) (by decide)).trans (wl_at (i := 32) rfl))) rfl (Nat.le_of_ble_eq_true rfl) ⟨Nat.le_of_ble_eq_true rfl, Nat.le_of_ble_eq_true rfl, (Nat.le_add_right _ _), (Nat.le_add_right _ _)⟩ dX10_makes_261 ?_
  refine go_istore (pc := 264) (lv' := [(6, .int 1), (5, .int 0), (4, .int 4), (3, .int 0), (0, .ref (G.2.1 + 32)), (1, .int 4), (2, .int x2)]) dX10_makes_264 (by decide) rfl ?_
  refine go_iconst (pc := 266) (v := 0) dX10_makes_266 (by decide) ?_
  refine go_istore (pc := 267) (lv' := [(7, .int 0), (6, .int 1), (5, .int 0), (4, .int 4), (3, .int 0), (0, .ref (G.2.1 + 32)), (1, .int 4), (2, .int x2)]) dX10_makes_267 (by decide) rfl ?_
  refine go_iload (pc := 269) dX10_makes_269 rfl ?_
  refine go_iload (pc := 271) dX10_makes_271 rfl ?_
  refine go_icmp_ge_f (pc := 273) (tgt := 296) dX10_makes_273 (by decide) (by decide) ?_
  refine go_aload_n (pc := 276) dX10_makes_276 rfl rfl ?_
  refine go_get (pc := 277) fX10_9 rfl (gz_b (by omega)) ((va_up_ne _ _ (gz_ne (by decide))).trans ((hw 32 (by decide) (by decide)).trans (wl_at (i := 32) rfl))) rfl dX10_makes_277 ?_
  refine go_aload_n (pc := 280) dX10_makes_280 rfl rfl ?_
  refine go_iload (pc := 281) dX10_makes_281 rfl ?_
  refine go_iload (pc := 283) dX10_makes_283 rfl ?_
  refine go_callV_i (pc := 285) vX10_98 rfl (cX10_linkAt_4 hn hw) rfl rfl (gz_b (by omega)) ((va_up_ne _ _ (gz_ne (by decide))).trans ((hw 32 (by decide) (by decide)).trans (wl_at (i := 32) rfl))) rfl (Nat.le_of_ble_eq_true rfl) ⟨Nat.le_of_ble_eq_true rfl, Nat.le_of_ble_eq_true rfl, (Nat.le_add_right _ _), (Nat.le_add_right _ _)⟩ dX10_makes_285 ?_
  refine go_iconst (pc := 288) (v := (-1)) dX10_makes_288 (by decide) ?_
  refine go_iast (pc := 289) (gz_b (by omega)) (va_up_self _ _ _) (gv_in (by decide)) dX10_makes_289 ?_
  refine go_w (va_up_up _ _ _ _) ?_
  refine go_iinc (pc := 290) (v := 1) (lv' := [(7, .int 1), (6, .int 1), (5, .int 0), (4, .int 4), (3, .int 0), (0, .ref (G.2.1 + 32)), (1, .int 4), (2, .int x2)]) dX10_makes_290 0 rfl (by first | rfl | decide) (by decide) rfl ?_
  refine go_goto (pc := 293) (tgt := 269) dX10_makes_293 (by decide) ?_
  refine go_iload (pc := 269) dX10_makes_269 rfl ?_
  refine go_iload (pc := 271) dX10_makes_271 rfl ?_
  refine go_icmp_ge_t (pc := 273) (tgt := 296) dX10_makes_273 (by decide) (by decide) ?_
  refine go_iload_n (pc := 296) dX10_makes_296 rfl rfl ?_
  refine go_iconst (pc := 297) (v := 3) dX10_makes_297 (by decide) ?_
  refine go_icmp_eq_f (pc := 298) (tgt := 306) dX10_makes_298 (by decide) (by decide) ?_
  refine go_iload_n (pc := 301) dX10_makes_301 rfl rfl ?_
  refine go_iconst (pc := 302) (v := 4) dX10_makes_302 (by decide) ?_
  refine go_icmp_ne_f (pc := 303) (tgt := 318) dX10_makes_303 (by decide) (by decide) ?_
  refine go_aload_n (pc := 306) dX10_makes_306 rfl rfl ?_
  refine go_get (pc := 307) fX10_9 rfl (gz_b (by omega)) ((va_up_ne _ _ (gz_ne (by decide))).trans ((hw 32 (by decide) (by decide)).trans (wl_at (i := 32) rfl))) rfl dX10_makes_307 ?_
  refine go_aload_n (pc := 310) dX10_makes_310 rfl rfl ?_
  refine go_iload (pc := 311) dX10_makes_311 rfl ?_
  refine go_callV_i (pc := 313) vX10_120 rfl (cX10_weakAt_2 hn hw) rfl rfl (gz_b (by omega)) ((va_up_ne _ _ (gz_ne (by decide))).trans ((hw 32 (by decide) (by decide)).trans (wl_at (i := 32) rfl))) rfl (Nat.le_of_ble_eq_true rfl) ⟨Nat.le_of_ble_eq_true rfl, Nat.le_of_ble_eq_true rfl, (Nat.le_add_right _ _), (Nat.le_add_right _ _)⟩ dX10_makes_313 ?_
  refine go_iconst (pc := 316) (v := (-1)) dX10_makes_316 (by decide) ?_
  refine go_iast (pc := 317) (gz_b (by omega)) (va_up_self _ _ _) (gv_in (by decide)) dX10_makes_317 ?_
  refine go_w (va_up_up _ _ _ _) ?_
  refine go_aload_n (pc := 318) dX10_makes_318 rfl rfl ?_
  refine go_get (pc := 319) fX10_9 rfl (gz_b (by omega)) ((va_up_ne _ _ (gz_ne (by decide))).trans ((hw 32 (by decide) (by decide)).trans (wl_at (i := 32) rfl))) rfl dX10_makes_319 ?_
  refine go_bipush (pc := 322) (v := 16) dX10_makes_322 (by decide) ?_
  refine go_dup2 (pc := 324) dX10_makes_324 rfl rfl ?_
  refine go_iald (pc := 325) (gz_b (by omega)) (va_up_self _ _ _) (gv_in (by decide)) dX10_makes_325 ?_
  refine go_top (y := 0) rfl ?_
  refine go_iload (pc := 326) dX10_makes_326 rfl ?_
  refine go_iadd (pc := 328) dX10_makes_328 ?_
  refine go_top (y := 4) (by decide) ?_
  refine go_iast (pc := 329) (gz_b (by omega)) (va_up_self _ _ _) (gv_in (by decide)) dX10_makes_329 ?_
  refine go_w (va_up_up _ _ _ _) ?_
  refine go_aload_n (pc := 330) dX10_makes_330 rfl rfl ?_
  refine go_get (pc := 331) fX10_9 rfl (gz_b (by omega)) ((va_up_ne _ _ (gz_ne (by decide))).trans ((hw 32 (by decide) (by decide)).trans (wl_at (i := 32) rfl))) rfl dX10_makes_331 ?_
  refine go_iconst (pc := 334) (v := 3) dX10_makes_334 (by decide) ?_
  refine go_iald (pc := 335) (gz_b (by omega)) (va_up_self _ _ _) (gv_in (by decide)) dX10_makes_335 ?_
  refine go_top (y := 0) rfl ?_
  refine go_iconst (pc := 336) (v := 1) dX10_makes_336 (by decide) ?_
  refine go_icmp_ne_t (pc := 337) (tgt := 349) dX10_makes_337 (by decide) (by decide) ?_
  refine go_iload (pc := 349) dX10_makes_349 rfl ?_
  exact go_iret (pc := 351) rfl dX10_makes_351
set_option maxRecDepth 100000 in
set_option maxHeartbeats 4000000 in
theorem cX10_answers_5 {l : Launch} {G : gG} {n k : Nat} {w : Nat → va_E} (hn : 42 ≤ n) (hw : ∀ i, 32 ≤ i → i < 42 → w (G.2.1 + i) = wl G.2.1 (LF G) (G.2.1 + i)) : Ct l G mX10_answers 1 25 [.ref (G.2.1 + 32), .int 0] n k (va_up w (G.2.1 + 33) (ai G 26100 (upd (upd (upd (upd (upd (upd (upd (upd (upd (upd (upd (upd (sx 256) (1 : Int32).toNatClampNeg 1) (2 : Int32).toNatClampNeg 1) (1100 : Int32).toNatClampNeg 1) (1101 : Int32).toNatClampNeg 4) (1102 : Int32).toNatClampNeg 0) (1103 : Int32).toNatClampNeg 0) (1104 : Int32).toNatClampNeg 0) (1105 : Int32).toNatClampNeg 0) (6100 : Int32).toNatClampNeg 4) (6101 : Int32).toNatClampNeg ((-1))) (6102 : Int32).toNatClampNeg ((-1))) (16 : Int32).toNatClampNeg 4))) (some (.int 0), n, k, (va_up (va_up w (G.2.1 + 33) (ai G 26100 (upd (upd (upd (upd (upd (upd (upd (upd (upd (upd (upd (upd (sx 256) (1 : Int32).toNatClampNeg 1) (2 : Int32).toNatClampNeg 1) (1100 : Int32).toNatClampNeg 1) (1101 : Int32).toNatClampNeg 4) (1102 : Int32).toNatClampNeg 0) (1103 : Int32).toNatClampNeg 0) (1104 : Int32).toNatClampNeg 0) (1105 : Int32).toNatClampNeg 0) (6100 : Int32).toNatClampNeg 4) (6101 : Int32).toNatClampNeg ((-1))) (6102 : Int32).toNatClampNeg ((-1))) (16 : Int32).toNatClampNeg 4))) (G.2.1 + 32) (ob 10 [.ref (G.2.1 + 33), .ref (G.2.1 + 34), .ref (G.2.1 + 35), .int 0, .int 0, .int 0, .int 0, .int 0, .ref (G.2.1 + 36), .ref (G.2.1 + 37), .ref (G.2.1 + 38), .ref (G.2.1 + 39), .int 0, .ref (G.2.1 + 40), .int 0, .ref (G.2.1 + 41)]))) := by
  refine Ct.of (by decide) (Nat.le_of_ble_eq_true rfl) ⟨Nat.le_refl _, Nat.le_refl _⟩ ?_
  show Go l G mX10_answers _ 0 [(0, .ref (G.2.1 + 32)), (1, .int 0)] [] n k (va_up w (G.2.1 + 33) (ai G 26100 (upd (upd (upd (upd (upd (upd (upd (upd (upd (upd (upd (upd (sx 256) (1 : Int32).toNatClampNeg 1) (2 : Int32).toNatClampNeg 1) (1100 : Int32).toNatClampNeg 1) (1101 : Int32).toNatClampNeg 4) (1102 : Int32).toNatClampNeg 0) (1103 : Int32).toNatClampNeg 0) (1104 : Int32).toNatClampNeg 0) (1105 : Int32).toNatClampNeg 0) (6100 : Int32).toNatClampNeg 4) (6101 : Int32).toNatClampNeg ((-1))) (6102 : Int32).toNatClampNeg ((-1))) (16 : Int32).toNatClampNeg 4)))
  refine go_aload_n (pc := 0) dX10_answers_0 rfl rfl ?_
  refine go_iload_n (pc := 1) dX10_answers_1 rfl rfl ?_
  refine go_i2l (pc := 2) dX10_answers_2 ?_
  refine go_topl (y := 0) (by decide) ?_
  refine go_ldc2 (pc := 3) rfl qX10_78 dX10_answers_3 ?_
  refine go_ldc2 (pc := 6) rfl qX10_80 dX10_answers_6 ?_
  refine go_callS_i (pc := 9) sX10_63 rfl (ct_in 0 ((-18)) ((-11))) rfl rfl (Nat.le_of_ble_eq_true rfl) ⟨Nat.le_of_ble_eq_true rfl, Nat.le_of_ble_eq_true rfl, (Nat.le_add_right _ _), (Nat.le_add_right _ _)⟩ dX10_answers_9 ?_
  refine go_top (y := 0) (by decide) ?_
  refine go_if_eq_t (pc := 12) (tgt := 22) dX10_answers_12 (by decide) (by decide) ?_
  refine go_iconst (pc := 22) (v := 0) dX10_answers_22 (by decide) ?_
  refine go_put (pc := 23) fX10_49 rfl (gz_b (by omega)) ((va_up_ne _ _ (gz_ne (by decide))).trans ((hw 32 (by decide) (by decide)).trans (wl_at (i := 32) rfl))) (Nat.le_of_ble_eq_true rfl) rfl rfl dX10_answers_23 ?_
  refine go_iload_n (pc := 26) dX10_answers_26 rfl rfl ?_
  exact go_iret (pc := 27) rfl dX10_answers_27
set_option maxRecDepth 100000 in
set_option maxHeartbeats 4000000 in
theorem cm_make_4_o {l : Launch} {G : gG} (x2 : Int32) {n k : Nat} {w : Nat → va_E} (hn : 42 ≤ n) (hw : ∀ i, 32 ≤ i → i < 42 → w (G.2.1 + i) = wl G.2.1 (LF G) (G.2.1 + i)) : Ct l G mX10_make 3 72 [.ref (G.2.1 + 32), .int 4, .int x2] n k w (some (.int 0), n, k, (va_up (va_up w (G.2.1 + 33) (ai G 26100 (upd (upd (upd (upd (upd (upd (upd (upd (upd (upd (upd (upd (sx 256) (1 : Int32).toNatClampNeg 1) (2 : Int32).toNatClampNeg 1) (1100 : Int32).toNatClampNeg 1) (1101 : Int32).toNatClampNeg 4) (1102 : Int32).toNatClampNeg 0) (1103 : Int32).toNatClampNeg 0) (1104 : Int32).toNatClampNeg 0) (1105 : Int32).toNatClampNeg 0) (6100 : Int32).toNatClampNeg 4) (6101 : Int32).toNatClampNeg ((-1))) (6102 : Int32).toNatClampNeg ((-1))) (16 : Int32).toNatClampNeg 4))) (G.2.1 + 32) (ob 10 [.ref (G.2.1 + 33), .ref (G.2.1 + 34), .ref (G.2.1 + 35), .int 0, .int 0, .int 0, .int 0, .int 0, .ref (G.2.1 + 36), .ref (G.2.1 + 37), .ref (G.2.1 + 38), .ref (G.2.1 + 39), .int 0, .ref (G.2.1 + 40), .int 0, .ref (G.2.1 + 41)]))) := by
  refine Ct.of (by decide) (Nat.le_of_ble_eq_true rfl) ⟨Nat.le_refl _, Nat.le_refl _⟩ ?_
  show Go l G mX10_make _ 0 [(0, .ref (G.2.1 + 32)), (1, .int 4), (2, .int x2)] [] n k w
  refine go_iload_n (pc := 0) dX10_make_0 rfl rfl ?_
  refine go_i2l (pc := 1) dX10_make_1 ?_
  refine go_topl (y := 4) (by decide) ?_
  refine go_lconst (pc := 2) (v := 0) dX10_make_2 (by decide) ?_
  refine go_ldc2 (pc := 3) rfl qX10_150 dX10_make_3 ?_
  refine go_callS_i (pc := 6) sX10_63 rfl (ct_in 4 0 5) rfl rfl (Nat.le_of_ble_eq_true rfl) ⟨Nat.le_of_ble_eq_true rfl, Nat.le_of_ble_eq_true rfl, (Nat.le_add_right _ _), (Nat.le_add_right _ _)⟩ dX10_make_6 ?_
  refine go_top (y := 1) (by decide) ?_
  refine go_if_eq_f (pc := 9) (tgt := 26) dX10_make_9 (by decide) (by decide) ?_
  refine go_iload_n (pc := 12) dX10_make_12 rfl rfl ?_
  refine go_callS_i (pc := 13) sX10_138 rfl (cX10_hasMany_6 hn hw) rfl rfl (Nat.le_of_ble_eq_true rfl) ⟨Nat.le_of_ble_eq_true rfl, Nat.le_of_ble_eq_true rfl, (Nat.le_add_right _ _), (Nat.le_add_right _ _)⟩ dX10_make_13 ?_
  refine go_if_eq_t (pc := 16) (tgt := 29) dX10_make_16 (by decide) (by decide) ?_
  refine go_aload_n (pc := 29) dX10_make_29 rfl rfl ?_
  refine go_aload_n (pc := 30) dX10_make_30 rfl rfl ?_
  refine go_iload_n (pc := 31) dX10_make_31 rfl rfl ?_
  refine go_iload_n (pc := 32) dX10_make_32 rfl rfl ?_
  refine go_callV_i (pc := 33) vX10_152 rfl (cX10_makes_3 x2 hn hw) rfl rfl (gz_b (by omega)) ((hw 32 (by decide) (by decide)).trans (wl_at (i := 32) rfl)) rfl (Nat.le_of_ble_eq_true rfl) ⟨Nat.le_of_ble_eq_true rfl, Nat.le_of_ble_eq_true rfl, (Nat.le_add_right _ _), (Nat.le_add_right _ _)⟩ dX10_make_33 ?_
  refine go_callV_i (pc := 36) vX10_155 rfl (cX10_answers_5 hn hw) rfl rfl (gz_b (by omega)) ((va_up_ne _ _ (gz_ne (by decide))).trans ((hw 32 (by decide) (by decide)).trans (wl_at (i := 32) rfl))) rfl (Nat.le_of_ble_eq_true rfl) ⟨Nat.le_of_ble_eq_true rfl, Nat.le_of_ble_eq_true rfl, (Nat.le_add_right _ _), (Nat.le_add_right _ _)⟩ dX10_make_36 ?_
  exact go_iret (pc := 39) rfl dX10_make_39
theorem cm_make_4 {l : Launch} {G : gG} (x2 : Int32) : CM l G mX10_make [.ref (G.2.1 + 32), .int 4, .int x2] 0 := by
  intro n k w hn hw
  exact ⟨3, 72, _, by decide, by decide, cm_make_4_o x2 hn hw⟩
set_option maxRecDepth 100000 in
set_option maxHeartbeats 4000000 in
theorem cm_make_lo_o {l : Launch} {G : gG} (x1 : Int32) (x2 : Int32) (k0 : x1 < 0) (k2 : (if 0 ≤ x1 ∧ x1 ≤ 5 then (1 : Int32) else 0) = 0) {n k : Nat} {w : Nat → va_E} (hn : 42 ≤ n) (hw : ∀ i, 32 ≤ i → i < 42 → w (G.2.1 + i) = wl G.2.1 (LF G) (G.2.1 + i)) : Ct l G mX10_make 1 25 [.ref (G.2.1 + 32), .int x1, .int x2] n k w (some (.int ((-102))), n, k, w) := by
  refine Ct.of (by decide) (Nat.le_of_ble_eq_true rfl) ⟨Nat.le_refl _, Nat.le_refl _⟩ ?_
  show Go l G mX10_make _ 0 [(0, .ref (G.2.1 + 32)), (1, .int x1), (2, .int x2)] [] n k w
  refine go_iload_n (pc := 0) dX10_make_0 rfl rfl ?_
  refine go_i2l (pc := 1) dX10_make_1 ?_
  refine go_lconst (pc := 2) (v := 0) dX10_make_2 (by decide) ?_
  refine go_ldc2 (pc := 3) rfl qX10_150 dX10_make_3 ?_
  refine go_callS_i (pc := 6) sX10_63 rfl (ct_in x1.toInt64 0 5) rfl rfl (Nat.le_of_ble_eq_true rfl) ⟨Nat.le_of_ble_eq_true rfl, Nat.le_of_ble_eq_true rfl, (Nat.le_add_right _ _), (Nat.le_add_right _ _)⟩ dX10_make_6 ?_
  refine go_top (y := (if 0 ≤ x1 ∧ x1 ≤ 5 then (1 : Int32) else 0)) (gi_in (by decide) (by decide)) ?_
  refine go_if_eq_t (pc := 9) (tgt := 26) dX10_make_9 (by decide) k2 ?_
  refine go_bipush (pc := 26) (v := (-102)) dX10_make_26 (by decide) ?_
  exact go_iret (pc := 28) rfl dX10_make_28
theorem cm_make_lo {l : Launch} {G : gG} (x1 : Int32) (x2 : Int32) (k0 : x1 < 0) (k2 : (if 0 ≤ x1 ∧ x1 ≤ 5 then (1 : Int32) else 0) = 0) : CM l G mX10_make [.ref (G.2.1 + 32), .int x1, .int x2] ((-102)) := by
  intro n k w hn hw
  exact ⟨1, 25, _, by decide, by decide, cm_make_lo_o x1 x2 k0 k2 hn hw⟩
set_option maxRecDepth 100000 in
set_option maxHeartbeats 4000000 in
theorem cm_make_hi_o {l : Launch} {G : gG} (x1 : Int32) (x2 : Int32) (k0 : ¬ x1 < 0) (k1 : 6 ≤ x1) (k2 : (if 0 ≤ x1 ∧ x1 ≤ 5 then (1 : Int32) else 0) = 0) {n k : Nat} {w : Nat → va_E} (hn : 42 ≤ n) (hw : ∀ i, 32 ≤ i → i < 42 → w (G.2.1 + i) = wl G.2.1 (LF G) (G.2.1 + i)) : Ct l G mX10_make 1 25 [.ref (G.2.1 + 32), .int x1, .int x2] n k w (some (.int ((-102))), n, k, w) := by
  refine Ct.of (by decide) (Nat.le_of_ble_eq_true rfl) ⟨Nat.le_refl _, Nat.le_refl _⟩ ?_
  show Go l G mX10_make _ 0 [(0, .ref (G.2.1 + 32)), (1, .int x1), (2, .int x2)] [] n k w
  refine go_iload_n (pc := 0) dX10_make_0 rfl rfl ?_
  refine go_i2l (pc := 1) dX10_make_1 ?_
  refine go_lconst (pc := 2) (v := 0) dX10_make_2 (by decide) ?_
  refine go_ldc2 (pc := 3) rfl qX10_150 dX10_make_3 ?_
  refine go_callS_i (pc := 6) sX10_63 rfl (ct_in x1.toInt64 0 5) rfl rfl (Nat.le_of_ble_eq_true rfl) ⟨Nat.le_of_ble_eq_true rfl, Nat.le_of_ble_eq_true rfl, (Nat.le_add_right _ _), (Nat.le_add_right _ _)⟩ dX10_make_6 ?_
  refine go_top (y := (if 0 ≤ x1 ∧ x1 ≤ 5 then (1 : Int32) else 0)) (gi_in (by decide) (by decide)) ?_
  refine go_if_eq_t (pc := 9) (tgt := 26) dX10_make_9 (by decide) k2 ?_
  refine go_bipush (pc := 26) (v := (-102)) dX10_make_26 (by decide) ?_
  exact go_iret (pc := 28) rfl dX10_make_28
theorem cm_make_hi {l : Launch} {G : gG} (x1 : Int32) (x2 : Int32) (k0 : ¬ x1 < 0) (k1 : 6 ≤ x1) (k2 : (if 0 ≤ x1 ∧ x1 ≤ 5 then (1 : Int32) else 0) = 0) : CM l G mX10_make [.ref (G.2.1 + 32), .int x1, .int x2] ((-102)) := by
  intro n k w hn hw
  exact ⟨1, 25, _, by decide, by decide, cm_make_hi_o x1 x2 k0 k1 k2 hn hw⟩
set_option maxRecDepth 100000 in
set_option maxHeartbeats 4000000 in
theorem cX10_hasMany_8 {l : Launch} {G : gG} {n k : Nat} {w : Nat → va_E} (hn : 42 ≤ n) (hw : ∀ i, 32 ≤ i → i < 42 → w (G.2.1 + i) = wl G.2.1 (LF G) (G.2.1 + i)) : Ct l G mX10_hasMany 0 0 [.int 1] n k w (some (.int 1), n, k, w) := by
  refine Ct.of (by decide) (Nat.le_of_ble_eq_true rfl) ⟨Nat.le_refl _, Nat.le_refl _⟩ ?_
  show Go l G mX10_hasMany _ 0 [(0, .int 1)] [] n k w
  refine go_iload_n (pc := 0) dX10_hasMany_0 rfl rfl ?_
  refine go_iconst (pc := 1) (v := 1) dX10_hasMany_1 (by decide) ?_
  refine go_icmp_eq_t (pc := 2) (tgt := 15) dX10_hasMany_2 (by decide) (by decide) ?_
  refine go_iconst (pc := 15) (v := 1) dX10_hasMany_15 (by decide) ?_
  refine go_goto (pc := 16) (tgt := 20) dX10_hasMany_16 (by decide) ?_
  exact go_zret (pc := 20) rfl rfl dX10_hasMany_20
set_option maxRecDepth 100000 in
set_option maxHeartbeats 4000000 in
theorem cm_make_1a_o {l : Launch} {G : gG} (x2 : Int32) (k0 : ¬ x2 ≤ 300) {n k : Nat} {w : Nat → va_E} (hn : 42 ≤ n) (hw : ∀ i, 32 ≤ i → i < 42 → w (G.2.1 + i) = wl G.2.1 (LF G) (G.2.1 + i)) : Ct l G mX10_make 1 25 [.ref (G.2.1 + 32), .int 1, .int x2] n k w (some (.int ((-102))), n, k, w) := by
  refine Ct.of (by decide) (Nat.le_of_ble_eq_true rfl) ⟨Nat.le_refl _, Nat.le_refl _⟩ ?_
  show Go l G mX10_make _ 0 [(0, .ref (G.2.1 + 32)), (1, .int 1), (2, .int x2)] [] n k w
  refine go_iload_n (pc := 0) dX10_make_0 rfl rfl ?_
  refine go_i2l (pc := 1) dX10_make_1 ?_
  refine go_topl (y := 1) (by decide) ?_
  refine go_lconst (pc := 2) (v := 0) dX10_make_2 (by decide) ?_
  refine go_ldc2 (pc := 3) rfl qX10_150 dX10_make_3 ?_
  refine go_callS_i (pc := 6) sX10_63 rfl (ct_in 1 0 5) rfl rfl (Nat.le_of_ble_eq_true rfl) ⟨Nat.le_of_ble_eq_true rfl, Nat.le_of_ble_eq_true rfl, (Nat.le_add_right _ _), (Nat.le_add_right _ _)⟩ dX10_make_6 ?_
  refine go_top (y := 1) (by decide) ?_
  refine go_if_eq_f (pc := 9) (tgt := 26) dX10_make_9 (by decide) (by decide) ?_
  refine go_iload_n (pc := 12) dX10_make_12 rfl rfl ?_
  refine go_callS_i (pc := 13) sX10_138 rfl (cX10_hasMany_8 hn hw) rfl rfl (Nat.le_of_ble_eq_true rfl) ⟨Nat.le_of_ble_eq_true rfl, Nat.le_of_ble_eq_true rfl, (Nat.le_add_right _ _), (Nat.le_add_right _ _)⟩ dX10_make_13 ?_
  refine go_if_eq_f (pc := 16) (tgt := 29) dX10_make_16 (by decide) (by decide) ?_
  refine go_iload_n (pc := 19) dX10_make_19 rfl rfl ?_
  refine go_sipush (pc := 20) (v := 300) dX10_make_20 (by decide) ?_
  refine go_icmp_le_f (pc := 23) (tgt := 29) dX10_make_23 (by decide) k0 ?_
  refine go_bipush (pc := 26) (v := (-102)) dX10_make_26 (by decide) ?_
  exact go_iret (pc := 28) rfl dX10_make_28
theorem cm_make_1a {l : Launch} {G : gG} (x2 : Int32) (k0 : ¬ x2 ≤ 300) : CM l G mX10_make [.ref (G.2.1 + 32), .int 1, .int x2] ((-102)) := by
  intro n k w hn hw
  exact ⟨1, 25, _, by decide, by decide, cm_make_1a_o x2 k0 hn hw⟩
set_option maxRecDepth 100000 in
set_option maxHeartbeats 4000000 in
theorem cX10_fails_3 {l : Launch} {G : gG} {n k : Nat} {w : Nat → va_E} (hn : 42 ≤ n) (hw : ∀ i, 32 ≤ i → i < 42 → w (G.2.1 + i) = wl G.2.1 (LF G) (G.2.1 + i)) : Ct l G mX10_fails 0 0 [.int 4] n k w (some (.int ((-14))), n, k, w) := by
  refine Ct.of (by decide) (Nat.le_of_ble_eq_true rfl) ⟨Nat.le_refl _, Nat.le_refl _⟩ ?_
  show Go l G mX10_fails _ 0 [(0, .int 4)] [] n k w
  refine go_bipush (pc := 0) (v := (-10)) dX10_fails_0 (by decide) ?_
  refine go_iload_n (pc := 2) dX10_fails_2 rfl rfl ?_
  refine go_isub (pc := 3) dX10_fails_3 ?_
  refine go_top (y := (-14)) (by decide) ?_
  exact go_iret (pc := 4) rfl dX10_fails_4
set_option maxRecDepth 100000 in
set_option maxHeartbeats 4000000 in
theorem cX10_makes_4 {l : Launch} {G : gG} (x2 : Int32) (k0 : x2 ≤ 300) (k1 : ¬ 0 ≤ x2) (k4 : x2 < 0) {n k : Nat} {w : Nat → va_E} (hn : 42 ≤ n) (hw : ∀ i, 32 ≤ i → i < 42 → w (G.2.1 + i) = wl G.2.1 (LF G) (G.2.1 + i)) : Ct l G mX10_makes 1 20 [.ref (G.2.1 + 32), .int 1, .int x2] n k w (some (.int ((-14))), n, k, w) := by
  refine Ct.of (by decide) (Nat.le_of_ble_eq_true rfl) ⟨Nat.le_refl _, Nat.le_refl _⟩ ?_
  show Go l G mX10_makes _ 0 [(0, .ref (G.2.1 + 32)), (1, .int 1), (2, .int x2)] [] n k w
  refine go_iload_n (pc := 0) dX10_makes_0 rfl rfl ?_
  refine go_callS_i (pc := 1) sX10_138 rfl (cX10_hasMany_8 hn hw) rfl rfl (Nat.le_of_ble_eq_true rfl) ⟨Nat.le_of_ble_eq_true rfl, Nat.le_of_ble_eq_true rfl, (Nat.le_add_right _ _), (Nat.le_add_right _ _)⟩ dX10_makes_1 ?_
  refine go_if_eq_f (pc := 4) (tgt := 11) dX10_makes_4 (by decide) (by decide) ?_
  refine go_iload_n (pc := 7) dX10_makes_7 rfl rfl ?_
  refine go_goto (pc := 8) (tgt := 12) dX10_makes_8 (by decide) ?_
  refine go_istore_n (pc := 12) (lv' := [(3, .int x2), (0, .ref (G.2.1 + 32)), (1, .int 1), (2, .int x2)]) dX10_makes_12 rfl (by decide) rfl ?_
  refine go_iload_n (pc := 13) dX10_makes_13 rfl rfl ?_
  refine go_if_ge_f (pc := 14) (tgt := 22) dX10_makes_14 (by decide) k1 ?_
  refine go_iconst (pc := 17) (v := 4) dX10_makes_17 (by decide) ?_
  refine go_callS_i (pc := 18) sX10_141 rfl (cX10_fails_3 hn hw) rfl rfl (Nat.le_of_ble_eq_true rfl) ⟨Nat.le_of_ble_eq_true rfl, Nat.le_of_ble_eq_true rfl, (Nat.le_add_right _ _), (Nat.le_add_right _ _)⟩ dX10_makes_18 ?_
  exact go_iret (pc := 21) rfl dX10_makes_21
set_option maxRecDepth 100000 in
set_option maxHeartbeats 4000000 in
theorem cX10_answers_6 {l : Launch} {G : gG} {n k : Nat} {w : Nat → va_E} (hn : 42 ≤ n) (hw : ∀ i, 32 ≤ i → i < 42 → w (G.2.1 + i) = wl G.2.1 (LF G) (G.2.1 + i)) : Ct l G mX10_answers 1 25 [.ref (G.2.1 + 32), .int ((-14))] n k w (some (.int ((-14))), n, k, (va_up w (G.2.1 + 32) (ob 10 [.ref (G.2.1 + 33), .ref (G.2.1 + 34), .ref (G.2.1 + 35), .int 0, .int 0, .int 4, .int 0, .int 0, .ref (G.2.1 + 36), .ref (G.2.1 + 37), .ref (G.2.1 + 38), .ref (G.2.1 + 39), .int 0, .ref (G.2.1 + 40), .int 0, .ref (G.2.1 + 41)]))) := by
  refine Ct.of (by decide) (Nat.le_of_ble_eq_true rfl) ⟨Nat.le_refl _, Nat.le_refl _⟩ ?_
  show Go l G mX10_answers _ 0 [(0, .ref (G.2.1 + 32)), (1, .int ((-14)))] [] n k w
  refine go_aload_n (pc := 0) dX10_answers_0 rfl rfl ?_
  refine go_iload_n (pc := 1) dX10_answers_1 rfl rfl ?_
  refine go_i2l (pc := 2) dX10_answers_2 ?_
  refine go_topl (y := (-14)) (by decide) ?_
  refine go_ldc2 (pc := 3) rfl qX10_78 dX10_answers_3 ?_
  refine go_ldc2 (pc := 6) rfl qX10_80 dX10_answers_6 ?_
  refine go_callS_i (pc := 9) sX10_63 rfl (ct_in ((-14)) ((-18)) ((-11))) rfl rfl (Nat.le_of_ble_eq_true rfl) ⟨Nat.le_of_ble_eq_true rfl, Nat.le_of_ble_eq_true rfl, (Nat.le_add_right _ _), (Nat.le_add_right _ _)⟩ dX10_answers_9 ?_
  refine go_top (y := 1) (by decide) ?_
  refine go_if_eq_f (pc := 12) (tgt := 22) dX10_answers_12 (by decide) (by decide) ?_
  refine go_bipush (pc := 15) (v := (-10)) dX10_answers_15 (by decide) ?_
  refine go_iload_n (pc := 17) dX10_answers_17 rfl rfl ?_
  refine go_isub (pc := 18) dX10_answers_18 ?_
  refine go_top (y := 4) (by decide) ?_
  refine go_goto (pc := 19) (tgt := 23) dX10_answers_19 (by decide) ?_
  refine go_put (pc := 23) fX10_49 rfl (gz_b (by omega)) ((hw 32 (by decide) (by decide)).trans (wl_at (i := 32) rfl)) (Nat.le_of_ble_eq_true rfl) rfl rfl dX10_answers_23 ?_
  refine go_iload_n (pc := 26) dX10_answers_26 rfl rfl ?_
  exact go_iret (pc := 27) rfl dX10_answers_27
set_option maxRecDepth 100000 in
set_option maxHeartbeats 4000000 in
theorem cm_make_1b_o {l : Launch} {G : gG} (x2 : Int32) (k0 : x2 ≤ 300) (k1 : ¬ 0 ≤ x2) (k4 : x2 < 0) {n k : Nat} {w : Nat → va_E} (hn : 42 ≤ n) (hw : ∀ i, 32 ≤ i → i < 42 → w (G.2.1 + i) = wl G.2.1 (LF G) (G.2.1 + i)) : Ct l G mX10_make 2 47 [.ref (G.2.1 + 32), .int 1, .int x2] n k w (some (.int ((-14))), n, k, (va_up w (G.2.1 + 32) (ob 10 [.ref (G.2.1 + 33), .ref (G.2.1 + 34), .ref (G.2.1 + 35), .int 0, .int 0, .int 4, .int 0, .int 0, .ref (G.2.1 + 36), .ref (G.2.1 + 37), .ref (G.2.1 + 38), .ref (G.2.1 + 39), .int 0, .ref (G.2.1 + 40), .int 0, .ref (G.2.1 + 41)]))) := by
  refine Ct.of (by decide) (Nat.le_of_ble_eq_true rfl) ⟨Nat.le_refl _, Nat.le_refl _⟩ ?_
  show Go l G mX10_make _ 0 [(0, .ref (G.2.1 + 32)), (1, .int 1), (2, .int x2)] [] n k w
  refine go_iload_n (pc := 0) dX10_make_0 rfl rfl ?_
  refine go_i2l (pc := 1) dX10_make_1 ?_
  refine go_topl (y := 1) (by decide) ?_
  refine go_lconst (pc := 2) (v := 0) dX10_make_2 (by decide) ?_
  refine go_ldc2 (pc := 3) rfl qX10_150 dX10_make_3 ?_
  refine go_callS_i (pc := 6) sX10_63 rfl (ct_in 1 0 5) rfl rfl (Nat.le_of_ble_eq_true rfl) ⟨Nat.le_of_ble_eq_true rfl, Nat.le_of_ble_eq_true rfl, (Nat.le_add_right _ _), (Nat.le_add_right _ _)⟩ dX10_make_6 ?_
  refine go_top (y := 1) (by decide) ?_
  refine go_if_eq_f (pc := 9) (tgt := 26) dX10_make_9 (by decide) (by decide) ?_
  refine go_iload_n (pc := 12) dX10_make_12 rfl rfl ?_
  refine go_callS_i (pc := 13) sX10_138 rfl (cX10_hasMany_8 hn hw) rfl rfl (Nat.le_of_ble_eq_true rfl) ⟨Nat.le_of_ble_eq_true rfl, Nat.le_of_ble_eq_true rfl, (Nat.le_add_right _ _), (Nat.le_add_right _ _)⟩ dX10_make_13 ?_
  refine go_if_eq_f (pc := 16) (tgt := 29) dX10_make_16 (by decide) (by decide) ?_
  refine go_iload_n (pc := 19) dX10_make_19 rfl rfl ?_
  refine go_sipush (pc := 20) (v := 300) dX10_make_20 (by decide) ?_
  refine go_icmp_le_t (pc := 23) (tgt := 29) dX10_make_23 (by decide) k0 ?_
  refine go_aload_n (pc := 29) dX10_make_29 rfl rfl ?_
  refine go_aload_n (pc := 30) dX10_make_30 rfl rfl ?_
  refine go_iload_n (pc := 31) dX10_make_31 rfl rfl ?_
  refine go_iload_n (pc := 32) dX10_make_32 rfl rfl ?_
  refine go_callV_i (pc := 33) vX10_152 rfl (cX10_makes_4 x2 k0 k1 k4 hn hw) rfl rfl (gz_b (by omega)) ((hw 32 (by decide) (by decide)).trans (wl_at (i := 32) rfl)) rfl (Nat.le_of_ble_eq_true rfl) ⟨Nat.le_of_ble_eq_true rfl, Nat.le_of_ble_eq_true rfl, (Nat.le_add_right _ _), (Nat.le_add_right _ _)⟩ dX10_make_33 ?_
  refine go_callV_i (pc := 36) vX10_155 rfl (cX10_answers_6 hn hw) rfl rfl (gz_b (by omega)) ((hw 32 (by decide) (by decide)).trans (wl_at (i := 32) rfl)) rfl (Nat.le_of_ble_eq_true rfl) ⟨Nat.le_of_ble_eq_true rfl, Nat.le_of_ble_eq_true rfl, (Nat.le_add_right _ _), (Nat.le_add_right _ _)⟩ dX10_make_36 ?_
  exact go_iret (pc := 39) rfl dX10_make_39
theorem cm_make_1b {l : Launch} {G : gG} (x2 : Int32) (k0 : x2 ≤ 300) (k1 : ¬ 0 ≤ x2) (k4 : x2 < 0) : CM l G mX10_make [.ref (G.2.1 + 32), .int 1, .int x2] ((-14)) := by
  intro n k w hn hw
  exact ⟨2, 47, _, by decide, by decide, cm_make_1b_o x2 k0 k1 k4 hn hw⟩
set_option maxRecDepth 100000 in
set_option maxHeartbeats 4000000 in
theorem cX10_sizeOf_4 {l : Launch} {G : gG} (x2 : Int32) {n k : Nat} {w : Nat → va_E} (hn : 42 ≤ n) (hw : ∀ i, 32 ≤ i → i < 42 → w (G.2.1 + i) = wl G.2.1 (LF G) (G.2.1 + i)) : Ct l G mX10_sizeOf 0 0 [.int 1, .int x2] n k w (some (.int (2 + x2)), n, k, w) := by
  refine Ct.of (by decide) (Nat.le_of_ble_eq_true rfl) ⟨Nat.le_refl _, Nat.le_refl _⟩ ?_
  show Go l G mX10_sizeOf _ 0 [(0, .int 1), (1, .int x2)] [] n k w
  refine go_iload_n (pc := 0) dX10_sizeOf_0 rfl rfl ?_
  refine go_tableIn (pc := 1) (off := 43) (tgt := 44) dX10_sizeOf_1 (by decide) (by decide) (by decide) (by decide) ?_
  refine go_iconst (pc := 44) (v := 2) dX10_sizeOf_44 (by decide) ?_
  refine go_iload_n (pc := 45) dX10_sizeOf_45 rfl rfl ?_
  refine go_iadd (pc := 46) dX10_sizeOf_46 ?_
  exact go_iret (pc := 47) rfl dX10_sizeOf_47
set_option maxRecDepth 100000 in
set_option maxHeartbeats 4000000 in
theorem cX10_comes_1 {l : Launch} {G : gG} {n k : Nat} {w : Nat → va_E} (hn : 42 ≤ n) (hw : ∀ i, 32 ≤ i → i < 42 → w (G.2.1 + i) = wl G.2.1 (LF G) (G.2.1 + i)) : Ct l G mX10_comes 0 0 [.ref (G.2.1 + 32), .int ((-1)), .int 0] n k (va_up w (G.2.1 + 39) (az G 500 (fun _ => 0))) (some (.int 0), n, k, (va_up w (G.2.1 + 39) (az G 500 (fun _ => 0)))) := by
  refine Ct.of (by decide) (Nat.le_of_ble_eq_true rfl) ⟨Nat.le_refl _, Nat.le_refl _⟩ ?_
  show Go l G mX10_comes _ 0 [(0, .ref (G.2.1 + 32)), (1, .int ((-1))), (2, .int 0)] [] n k (va_up w (G.2.1 + 39) (az G 500 (fun _ => 0)))
  refine go_iload_n (pc := 0) dX10_comes_0 rfl rfl ?_
  refine go_iconst (pc := 1) (v := (-1)) dX10_comes_1 (by decide) ?_
  refine go_icmp_eq_t (pc := 2) (tgt := 14) dX10_comes_2 (by decide) (by decide) ?_
  refine go_iload_n (pc := 14) dX10_comes_14 rfl rfl ?_
  exact go_iret (pc := 15) rfl dX10_comes_15
set_option maxRecDepth 100000 in
set_option maxHeartbeats 4000000 in
theorem cX10_reached_1 {l : Launch} {G : gG} {n k : Nat} {w : Nat → va_E} (hn : 42 ≤ n) (hw : ∀ i, 32 ≤ i → i < 42 → w (G.2.1 + i) = wl G.2.1 (LF G) (G.2.1 + i)) : Ct l G mX10_reached 1 22 [.ref (G.2.1 + 32)] n k w (some (.int 0), n, k, (va_up w (G.2.1 + 39) (az G 500 (fun _ => 0)))) := by
  refine Ct.of (by decide) (Nat.le_of_ble_eq_true rfl) ⟨Nat.le_refl _, Nat.le_refl _⟩ ?_
  show Go l G mX10_reached _ 0 [(0, .ref (G.2.1 + 32))] [] n k w
  refine go_iconst (pc := 0) (v := 0) dX10_reached_0 (by decide) ?_
  refine go_istore_n (pc := 1) (lv' := [(1, .int 0), (0, .ref (G.2.1 + 32))]) dX10_reached_1 rfl (by decide) rfl ?_
  refine go_ext (w' := va_up w (G.2.1 + 39) (az G 500 (fun j => if j < 0 then 0 else (fun _ => 0) j))) (fun i _ => ?_) (reached_l1 (a := G.2.1 + 32) (b := G.2.1 + 33) (b1 := G.2.1 + 34) (b2 := G.2.1 + 35) (b8 := G.2.1 + 36) (b9 := G.2.1 + 37) (b10 := G.2.1 + 38) (b11 := G.2.1 + 39) (b13 := G.2.1 + 40) (b15 := G.2.1 + 41) (f3 := 0) (f4 := 0) (f5 := 0) (f6 := 0) (f7 := 0) (f12 := 0) (f14 := 0) (f := fun _ => 0) (gz_b (by omega)) (gz_b (by omega)) (gz_ne (by decide)) ((hw 32 (by decide) (by decide)).trans (wl_at (i := 32) rfl)) ?_ 500 0 rfl (Nat.zero_le _))
  · by_cases hi : G.2.1 + i = G.2.1 + 39
    · rw [hi, va_up_self, ((hw 39 (by decide) (by decide)).trans (wl_at (i := 39) rfl))]; simp
    · rw [va_up_ne _ _ hi]
  refine go_iconst (pc := 22) (v := 0) dX10_reached_22 (by decide) ?_
  refine go_istore_n (pc := 23) (lv' := [(1, .int 0), (0, .ref (G.2.1 + 32))]) dX10_reached_23 rfl (by decide) rfl ?_
  refine go_iconst (pc := 24) (v := 0) dX10_reached_24 (by decide) ?_
  refine go_istore_n (pc := 25) (lv' := [(2, .int 0), (1, .int 0), (0, .ref (G.2.1 + 32))]) dX10_reached_25 rfl (by decide) rfl ?_
  refine go_iload_n (pc := 26) dX10_reached_26 rfl rfl ?_
  refine go_bipush (pc := 27) (v := 24) dX10_reached_27 (by decide) ?_
  refine go_icmp_ge_f (pc := 29) (tgt := 53) dX10_reached_29 (by decide) (by decide) ?_
  refine go_aload_n (pc := 32) dX10_reached_32 rfl rfl ?_
  refine go_aload_n (pc := 33) dX10_reached_33 rfl rfl ?_
  refine go_get (pc := 34) fX10_9 rfl (gz_b (by omega)) ((va_up_ne _ _ (gz_ne (by decide))).trans ((hw 32 (by decide) (by decide)).trans (wl_at (i := 32) rfl))) rfl dX10_reached_34 ?_
  refine go_bipush (pc := 37) (v := 20) dX10_reached_37 (by decide) ?_
  refine go_iload_n (pc := 39) dX10_reached_39 rfl rfl ?_
  refine go_iadd (pc := 40) dX10_reached_40 ?_
  refine go_top (y := 20) (by decide) ?_
  refine go_iald (pc := 41) (gz_b (by omega)) ((va_up_ne _ _ (gz_ne (by decide))).trans ((hw 33 (by decide) (by decide)).trans (wl_at (i := 33) rfl))) (gv_in (by decide)) dX10_reached_41 ?_
  refine go_top (y := (-1)) rfl ?_
  refine go_iload_n (pc := 42) dX10_reached_42 rfl rfl ?_
  refine go_callV_i (pc := 43) vX10_135 rfl (cX10_comes_1 hn hw) rfl rfl (gz_b (by omega)) ((va_up_ne _ _ (gz_ne (by decide))).trans ((hw 32 (by decide) (by decide)).trans (wl_at (i := 32) rfl))) rfl (Nat.le_of_ble_eq_true rfl) ⟨Nat.le_of_ble_eq_true rfl, Nat.le_of_ble_eq_true rfl, (Nat.le_add_right _ _), (Nat.le_add_right _ _)⟩ dX10_reached_43 ?_
  refine go_istore_n (pc := 46) (lv' := [(1, .int 0), (2, .int 0), (0, .ref (G.2.1 + 32))]) dX10_reached_46 rfl (by decide) rfl ?_
  refine go_iinc (pc := 47) (v := 1) (lv' := [(2, .int 1), (1, .int 0), (0, .ref (G.2.1 + 32))]) dX10_reached_47 1 rfl (by first | rfl | decide) (by decide) rfl ?_
  refine go_goto (pc := 50) (tgt := 26) dX10_reached_50 (by decide) ?_
  refine go_iload_n (pc := 26) dX10_reached_26 rfl rfl ?_
  refine go_bipush (pc := 27) (v := 24) dX10_reached_27 (by decide) ?_
  refine go_icmp_ge_f (pc := 29) (tgt := 53) dX10_reached_29 (by decide) (by decide) ?_
  refine go_aload_n (pc := 32) dX10_reached_32 rfl rfl ?_
  refine go_aload_n (pc := 33) dX10_reached_33 rfl rfl ?_
  refine go_get (pc := 34) fX10_9 rfl (gz_b (by omega)) ((va_up_ne _ _ (gz_ne (by decide))).trans ((hw 32 (by decide) (by decide)).trans (wl_at (i := 32) rfl))) rfl dX10_reached_34 ?_
  refine go_bipush (pc := 37) (v := 20) dX10_reached_37 (by decide) ?_
  refine go_iload_n (pc := 39) dX10_reached_39 rfl rfl ?_
  refine go_iadd (pc := 40) dX10_reached_40 ?_
  refine go_top (y := 21) (by decide) ?_
  refine go_iald (pc := 41) (gz_b (by omega)) ((va_up_ne _ _ (gz_ne (by decide))).trans ((hw 33 (by decide) (by decide)).trans (wl_at (i := 33) rfl))) (gv_in (by decide)) dX10_reached_41 ?_
  refine go_top (y := (-1)) rfl ?_
  refine go_iload_n (pc := 42) dX10_reached_42 rfl rfl ?_
  refine go_callV_i (pc := 43) vX10_135 rfl (cX10_comes_1 hn hw) rfl rfl (gz_b (by omega)) ((va_up_ne _ _ (gz_ne (by decide))).trans ((hw 32 (by decide) (by decide)).trans (wl_at (i := 32) rfl))) rfl (Nat.le_of_ble_eq_true rfl) ⟨Nat.le_of_ble_eq_true rfl, Nat.le_of_ble_eq_true rfl, (Nat.le_add_right _ _), (Nat.le_add_right _ _)⟩ dX10_reached_43 ?_
  refine go_istore_n (pc := 46) (lv' := [(1, .int 0), (2, .int 1), (0, .ref (G.2.1 + 32))]) dX10_reached_46 rfl (by decide) rfl ?_
  refine go_iinc (pc := 47) (v := 2) (lv' := [(2, .int 2), (1, .int 0), (0, .ref (G.2.1 + 32))]) dX10_reached_47 1 rfl (by first | rfl | decide) (by decide) rfl ?_
  refine go_goto (pc := 50) (tgt := 26) dX10_reached_50 (by decide) ?_
  refine go_iload_n (pc := 26) dX10_reached_26 rfl rfl ?_
  refine go_bipush (pc := 27) (v := 24) dX10_reached_27 (by decide) ?_
  refine go_icmp_ge_f (pc := 29) (tgt := 53) dX10_reached_29 (by decide) (by decide) ?_
  refine go_aload_n (pc := 32) dX10_reached_32 rfl rfl ?_
  refine go_aload_n (pc := 33) dX10_reached_33 rfl rfl ?_
  refine go_get (pc := 34) fX10_9 rfl (gz_b (by omega)) ((va_up_ne _ _ (gz_ne (by decide))).trans ((hw 32 (by decide) (by decide)).trans (wl_at (i := 32) rfl))) rfl dX10_reached_34 ?_
  refine go_bipush (pc := 37) (v := 20) dX10_reached_37 (by decide) ?_
  refine go_iload_n (pc := 39) dX10_reached_39 rfl rfl ?_
  refine go_iadd (pc := 40) dX10_reached_40 ?_
  refine go_top (y := 22) (by decide) ?_
  refine go_iald (pc := 41) (gz_b (by omega)) ((va_up_ne _ _ (gz_ne (by decide))).trans ((hw 33 (by decide) (by decide)).trans (wl_at (i := 33) rfl))) (gv_in (by decide)) dX10_reached_41 ?_
  refine go_top (y := (-1)) rfl ?_
  refine go_iload_n (pc := 42) dX10_reached_42 rfl rfl ?_
  refine go_callV_i (pc := 43) vX10_135 rfl (cX10_comes_1 hn hw) rfl rfl (gz_b (by omega)) ((va_up_ne _ _ (gz_ne (by decide))).trans ((hw 32 (by decide) (by decide)).trans (wl_at (i := 32) rfl))) rfl (Nat.le_of_ble_eq_true rfl) ⟨Nat.le_of_ble_eq_true rfl, Nat.le_of_ble_eq_true rfl, (Nat.le_add_right _ _), (Nat.le_add_right _ _)⟩ dX10_reached_43 ?_
  refine go_istore_n (pc := 46) (lv' := [(1, .int 0), (2, .int 2), (0, .ref (G.2.1 + 32))]) dX10_reached_46 rfl (by decide) rfl ?_
  refine go_iinc (pc := 47) (v := 3) (lv' := [(2, .int 3), (1, .int 0), (0, .ref (G.2.1 + 32))]) dX10_reached_47 1 rfl (by first | rfl | decide) (by decide) rfl ?_
  refine go_goto (pc := 50) (tgt := 26) dX10_reached_50 (by decide) ?_
  refine go_iload_n (pc := 26) dX10_reached_26 rfl rfl ?_
  refine go_bipush (pc := 27) (v := 24) dX10_reached_27 (by decide) ?_
  refine go_icmp_ge_f (pc := 29) (tgt := 53) dX10_reached_29 (by decide) (by decide) ?_
  refine go_aload_n (pc := 32) dX10_reached_32 rfl rfl ?_
  refine go_aload_n (pc := 33) dX10_reached_33 rfl rfl ?_
  refine go_get (pc := 34) fX10_9 rfl (gz_b (by omega)) ((va_up_ne _ _ (gz_ne (by decide))).trans ((hw 32 (by decide) (by decide)).trans (wl_at (i := 32) rfl))) rfl dX10_reached_34 ?_
  refine go_bipush (pc := 37) (v := 20) dX10_reached_37 (by decide) ?_
  refine go_iload_n (pc := 39) dX10_reached_39 rfl rfl ?_
  refine go_iadd (pc := 40) dX10_reached_40 ?_
  refine go_top (y := 23) (by decide) ?_
  refine go_iald (pc := 41) (gz_b (by omega)) ((va_up_ne _ _ (gz_ne (by decide))).trans ((hw 33 (by decide) (by decide)).trans (wl_at (i := 33) rfl))) (gv_in (by decide)) dX10_reached_41 ?_
  refine go_top (y := (-1)) rfl ?_
  refine go_iload_n (pc := 42) dX10_reached_42 rfl rfl ?_
  refine go_callV_i (pc := 43) vX10_135 rfl (cX10_comes_1 hn hw) rfl rfl (gz_b (by omega)) ((va_up_ne _ _ (gz_ne (by decide))).trans ((hw 32 (by decide) (by decide)).trans (wl_at (i := 32) rfl))) rfl (Nat.le_of_ble_eq_true rfl) ⟨Nat.le_of_ble_eq_true rfl, Nat.le_of_ble_eq_true rfl, (Nat.le_add_right _ _), (Nat.le_add_right _ _)⟩ dX10_reached_43 ?_
  refine go_istore_n (pc := 46) (lv' := [(1, .int 0), (2, .int 3), (0, .ref (G.2.1 + 32))]) dX10_reached_46 rfl (by decide) rfl ?_
  refine go_iinc (pc := 47) (v := 4) (lv' := [(2, .int 4), (1, .int 0), (0, .ref (G.2.1 + 32))]) dX10_reached_47 1 rfl (by first | rfl | decide) (by decide) rfl ?_
  refine go_goto (pc := 50) (tgt := 26) dX10_reached_50 (by decide) ?_
  refine go_iload_n (pc := 26) dX10_reached_26 rfl rfl ?_
  refine go_bipush (pc := 27) (v := 24) dX10_reached_27 (by decide) ?_
  refine go_icmp_ge_f (pc := 29) (tgt := 53) dX10_reached_29 (by decide) (by decide) ?_
  refine go_aload_n (pc := 32) dX10_reached_32 rfl rfl ?_
  refine go_aload_n (pc := 33) dX10_reached_33 rfl rfl ?_
  refine go_get (pc := 34) fX10_9 rfl (gz_b (by omega)) ((va_up_ne _ _ (gz_ne (by decide))).trans ((hw 32 (by decide) (by decide)).trans (wl_at (i := 32) rfl))) rfl dX10_reached_34 ?_
  refine go_bipush (pc := 37) (v := 20) dX10_reached_37 (by decide) ?_
  refine go_iload_n (pc := 39) dX10_reached_39 rfl rfl ?_
  refine go_iadd (pc := 40) dX10_reached_40 ?_
  refine go_top (y := 24) (by decide) ?_
  refine go_iald (pc := 41) (gz_b (by omega)) ((va_up_ne _ _ (gz_ne (by decide))).trans ((hw 33 (by decide) (by decide)).trans (wl_at (i := 33) rfl))) (gv_in (by decide)) dX10_reached_41 ?_
  refine go_top (y := (-1)) rfl ?_
  refine go_iload_n (pc := 42) dX10_reached_42 rfl rfl ?_
  refine go_callV_i (pc := 43) vX10_135 rfl (cX10_comes_1 hn hw) rfl rfl (gz_b (by omega)) ((va_up_ne _ _ (gz_ne (by decide))).trans ((hw 32 (by decide) (by decide)).trans (wl_at (i := 32) rfl))) rfl (Nat.le_of_ble_eq_true rfl) ⟨Nat.le_of_ble_eq_true rfl, Nat.le_of_ble_eq_true rfl, (Nat.le_add_right _ _), (Nat.le_add_right _ _)⟩ dX10_reached_43 ?_
  refine go_istore_n (pc := 46) (lv' := [(1, .int 0), (2, .int 4), (0, .ref (G.2.1 + 32))]) dX10_reached_46 rfl (by decide) rfl ?_
  refine go_iinc (pc := 47) (v := 5) (lv' := [(2, .int 5), (1, .int 0), (0, .ref (G.2.1 + 32))]) dX10_reached_47 1 rfl (by first | rfl | decide) (by decide) rfl ?_
  refine go_goto (pc := 50) (tgt := 26) dX10_reached_50 (by decide) ?_
  refine go_iload_n (pc := 26) dX10_reached_26 rfl rfl ?_
  refine go_bipush (pc := 27) (v := 24) dX10_reached_27 (by decide) ?_
  refine go_icmp_ge_f (pc := 29) (tgt := 53) dX10_reached_29 (by decide) (by decide) ?_
  refine go_aload_n (pc := 32) dX10_reached_32 rfl rfl ?_
  refine go_aload_n (pc := 33) dX10_reached_33 rfl rfl ?_
  refine go_get (pc := 34) fX10_9 rfl (gz_b (by omega)) ((va_up_ne _ _ (gz_ne (by decide))).trans ((hw 32 (by decide) (by decide)).trans (wl_at (i := 32) rfl))) rfl dX10_reached_34 ?_
  refine go_bipush (pc := 37) (v := 20) dX10_reached_37 (by decide) ?_
  refine go_iload_n (pc := 39) dX10_reached_39 rfl rfl ?_
  refine go_iadd (pc := 40) dX10_reached_40 ?_
  refine go_top (y := 25) (by decide) ?_
  refine go_iald (pc := 41) (gz_b (by omega)) ((va_up_ne _ _ (gz_ne (by decide))).trans ((hw 33 (by decide) (by decide)).trans (wl_at (i := 33) rfl))) (gv_in (by decide)) dX10_reached_41 ?_
  refine go_top (y := (-1)) rfl ?_
  refine go_iload_n (pc := 42) dX10_reached_42 rfl rfl ?_
  refine go_callV_i (pc := 43) vX10_135 rfl (cX10_comes_1 hn hw) rfl rfl (gz_b (by omega)) ((va_up_ne _ _ (gz_ne (by decide))).trans ((hw 32 (by decide) (by decide)).trans (wl_at (i := 32) rfl))) rfl (Nat.le_of_ble_eq_true rfl) ⟨Nat.le_of_ble_eq_true rfl, Nat.le_of_ble_eq_true rfl, (Nat.le_add_right _ _), (Nat.le_add_right _ _)⟩ dX10_reached_43 ?_
  refine go_istore_n (pc := 46) (lv' := [(1, .int 0), (2, .int 5), (0, .ref (G.2.1 + 32))]) dX10_reached_46 rfl (by decide) rfl ?_
  refine go_iinc (pc := 47) (v := 6) (lv' := [(2, .int 6), (1, .int 0), (0, .ref (G.2.1 + 32))]) dX10_reached_47 1 rfl (by first | rfl | decide) (by decide) rfl ?_
  refine go_goto (pc := 50) (tgt := 26) dX10_reached_50 (by decide) ?_
  refine go_iload_n (pc := 26) dX10_reached_26 rfl rfl ?_
  refine go_bipush (pc := 27) (v := 24) dX10_reached_27 (by decide) ?_
  refine go_icmp_ge_f (pc := 29) (tgt := 53) dX10_reached_29 (by decide) (by decide) ?_
  refine go_aload_n (pc := 32) dX10_reached_32 rfl rfl ?_
  refine go_aload_n (pc := 33) dX10_reached_33 rfl rfl ?_
  refine go_get (pc := 34) fX10_9 rfl (gz_b (by omega)) ((va_up_ne _ _ (gz_ne (by decide))).trans ((hw 32 (by decide) (by decide)).trans (wl_at (i := 32) rfl))) rfl dX10_reached_34 ?_
  refine go_bipush (pc := 37) (v := 20) dX10_reached_37 (by decide) ?_
  refine go_iload_n (pc := 39) dX10_reached_39 rfl rfl ?_
  refine go_iadd (pc := 40) dX10_reached_40 ?_
  refine go_top (y := 26) (by decide) ?_
  refine go_iald (pc := 41) (gz_b (by omega)) ((va_up_ne _ _ (gz_ne (by decide))).trans ((hw 33 (by decide) (by decide)).trans (wl_at (i := 33) rfl))) (gv_in (by decide)) dX10_reached_41 ?_
  refine go_top (y := (-1)) rfl ?_
  refine go_iload_n (pc := 42) dX10_reached_42 rfl rfl ?_
  refine go_callV_i (pc := 43) vX10_135 rfl (cX10_comes_1 hn hw) rfl rfl (gz_b (by omega)) ((va_up_ne _ _ (gz_ne (by decide))).trans ((hw 32 (by decide) (by decide)).trans (wl_at (i := 32) rfl))) rfl (Nat.le_of_ble_eq_true rfl) ⟨Nat.le_of_ble_eq_true rfl, Nat.le_of_ble_eq_true rfl, (Nat.le_add_right _ _), (Nat.le_add_right _ _)⟩ dX10_reached_43 ?_
  refine go_istore_n (pc := 46) (lv' := [(1, .int 0), (2, .int 6), (0, .ref (G.2.1 + 32))]) dX10_reached_46 rfl (by decide) rfl ?_
  refine go_iinc (pc := 47) (v := 7) (lv' := [(2, .int 7), (1, .int 0), (0, .ref (G.2.1 + 32))]) dX10_reached_47 1 rfl (by first | rfl | decide) (by decide) rfl ?_
  refine go_goto (pc := 50) (tgt := 26) dX10_reached_50 (by decide) ?_
  refine go_iload_n (pc := 26) dX10_reached_26 rfl rfl ?_
  refine go_bipush (pc := 27) (v := 24) dX10_reached_27 (by decide) ?_
  refine go_icmp_ge_f (pc := 29) (tgt := 53) dX10_reached_29 (by decide) (by decide) ?_
  refine go_aload_n (pc := 32) dX10_reached_32 rfl rfl ?_
  refine go_aload_n (pc := 33) dX10_reached_33 rfl rfl ?_
  refine go_get (pc := 34) fX10_9 rfl (gz_b (by omega)) ((va_up_ne _ _ (gz_ne (by decide))).trans ((hw 32 (by decide) (by decide)).trans (wl_at (i := 32) rfl))) rfl dX10_reached_34 ?_
  refine go_bipush (pc := 37) (v := 20) dX10_reached_37 (by decide) ?_
  refine go_iload_n (pc := 39) dX10_reached_39 rfl rfl ?_
  refine go_iadd (pc := 40) dX10_reached_40 ?_
  refine go_top (y := 27) (by decide) ?_
  refine go_iald (pc := 41) (gz_b (by omega)) ((va_up_ne _ _ (gz_ne (by decide))).trans ((hw 33 (by decide) (by decide)).trans (wl_at (i := 33) rfl))) (gv_in (by decide)) dX10_reached_41 ?_
  refine go_top (y := (-1)) rfl ?_
  refine go_iload_n (pc := 42) dX10_reached_42 rfl rfl ?_
  refine go_callV_i (pc := 43) vX10_135 rfl (cX10_comes_1 hn hw) rfl rfl (gz_b (by omega)) ((va_up_ne _ _ (gz_ne (by decide))).trans ((hw 32 (by decide) (by decide)).trans (wl_at (i := 32) rfl))) rfl (Nat.le_of_ble_eq_true rfl) ⟨Nat.le_of_ble_eq_true rfl, Nat.le_of_ble_eq_true rfl, (Nat.le_add_right _ _), (Nat.le_add_right _ _)⟩ dX10_reached_43 ?_
  refine go_istore_n (pc := 46) (lv' := [(1, .int 0), (2, .int 7), (0, .ref (G.2.1 + 32))]) dX10_reached_46 rfl (by decide) rfl ?_
  refine go_iinc (pc := 47) (v := 8) (lv' := [(2, .int 8), (1, .int 0), (0, .ref (G.2.1 + 32))]) dX10_reached_47 1 rfl (by first | rfl | decide) (by decide) rfl ?_
  refine go_goto (pc := 50) (tgt := 26) dX10_reached_50 (by decide) ?_
  refine go_iload_n (pc := 26) dX10_reached_26 rfl rfl ?_
  refine go_bipush (pc := 27) (v := 24) dX10_reached_27 (by decide) ?_
  refine go_icmp_ge_f (pc := 29) (tgt := 53) dX10_reached_29 (by decide) (by decide) ?_
  refine go_aload_n (pc := 32) dX10_reached_32 rfl rfl ?_
  refine go_aload_n (pc := 33) dX10_reached_33 rfl rfl ?_
  refine go_get (pc := 34) fX10_9 rfl (gz_b (by omega)) ((va_up_ne _ _ (gz_ne (by decide))).trans ((hw 32 (by decide) (by decide)).trans (wl_at (i := 32) rfl))) rfl dX10_reached_34 ?_
  refine go_bipush (pc := 37) (v := 20) dX10_reached_37 (by decide) ?_
  refine go_iload_n (pc := 39) dX10_reached_39 rfl rfl ?_
  refine go_iadd (pc := 40) dX10_reached_40 ?_
  refine go_top (y := 28) (by decide) ?_
  refine go_iald (pc := 41) (gz_b (by omega)) ((va_up_ne _ _ (gz_ne (by decide))).trans ((hw 33 (by decide) (by decide)).trans (wl_at (i := 33) rfl))) (gv_in (by decide)) dX10_reached_41 ?_
  refine go_top (y := (-1)) rfl ?_
  refine go_iload_n (pc := 42) dX10_reached_42 rfl rfl ?_
  refine go_callV_i (pc := 43) vX10_135 rfl (cX10_comes_1 hn hw) rfl rfl (gz_b (by omega)) ((va_up_ne _ _ (gz_ne (by decide))).trans ((hw 32 (by decide) (by decide)).trans (wl_at (i := 32) rfl))) rfl (Nat.le_of_ble_eq_true rfl) ⟨Nat.le_of_ble_eq_true rfl, Nat.le_of_ble_eq_true rfl, (Nat.le_add_right _ _), (Nat.le_add_right _ _)⟩ dX10_reached_43 ?_
  refine go_istore_n (pc := 46) (lv' := [(1, .int 0), (2, .int 8), (0, .ref (G.2.1 + 32))]) dX10_reached_46 rfl (by decide) rfl ?_
  refine go_iinc (pc := 47) (v := 9) (lv' := [(2, .int 9), (1, .int 0), (0, .ref (G.2.1 + 32))]) dX10_reached_47 1 rfl (by first | rfl | decide) (by decide) rfl ?_
  refine go_goto (pc := 50) (tgt := 26) dX10_reached_50 (by decide) ?_
  refine go_iload_n (pc := 26) dX10_reached_26 rfl rfl ?_
  refine go_bipush (pc := 27) (v := 24) dX10_reached_27 (by decide) ?_
  refine go_icmp_ge_f (pc := 29) (tgt := 53) dX10_reached_29 (by decide) (by decide) ?_
  refine go_aload_n (pc := 32) dX10_reached_32 rfl rfl ?_
  refine go_aload_n (pc := 33) dX10_reached_33 rfl rfl ?_
  refine go_get (pc := 34) fX10_9 rfl (gz_b (by omega)) ((va_up_ne _ _ (gz_ne (by decide))).trans ((hw 32 (by decide) (by decide)).trans (wl_at (i := 32) rfl))) rfl dX10_reached_34 ?_
  refine go_bipush (pc := 37) (v := 20) dX10_reached_37 (by decide) ?_
  refine go_iload_n (pc := 39) dX10_reached_39 rfl rfl ?_
  refine go_iadd (pc := 40) dX10_reached_40 ?_
  refine go_top (y := 29) (by decide) ?_
  refine go_iald (pc := 41) (gz_b (by omega)) ((va_up_ne _ _ (gz_ne (by decide))).trans ((hw 33 (by decide) (by decide)).trans (wl_at (i := 33) rfl))) (gv_in (by decide)) dX10_reached_41 ?_
  refine go_top (y := (-1)) rfl ?_
  refine go_iload_n (pc := 42) dX10_reached_42 rfl rfl ?_
  refine go_callV_i (pc := 43) vX10_135 rfl (cX10_comes_1 hn hw) rfl rfl (gz_b (by omega)) ((va_up_ne _ _ (gz_ne (by decide))).trans ((hw 32 (by decide) (by decide)).trans (wl_at (i := 32) rfl))) rfl (Nat.le_of_ble_eq_true rfl) ⟨Nat.le_of_ble_eq_true rfl, Nat.le_of_ble_eq_true rfl, (Nat.le_add_right _ _), (Nat.le_add_right _ _)⟩ dX10_reached_43 ?_
  refine go_istore_n (pc := 46) (lv' := [(1, .int 0), (2, .int 9), (0, .ref (G.2.1 + 32))]) dX10_reached_46 rfl (by decide) rfl ?_
  refine go_iinc (pc := 47) (v := 10) (lv' := [(2, .int 10), (1, .int 0), (0, .ref (G.2.1 + 32))]) dX10_reached_47 1 rfl (by first | rfl | decide) (by decide) rfl ?_
  refine go_goto (pc := 50) (tgt := 26) dX10_reached_50 (by decide) ?_
  refine go_iload_n (pc := 26) dX10_reached_26 rfl rfl ?_
  refine go_bipush (pc := 27) (v := 24) dX10_reached_27 (by decide) ?_
  refine go_icmp_ge_f (pc := 29) (tgt := 53) dX10_reached_29 (by decide) (by decide) ?_
  refine go_aload_n (pc := 32) dX10_reached_32 rfl rfl ?_
  refine go_aload_n (pc := 33) dX10_reached_33 rfl rfl ?_
  refine go_get (pc := 34) fX10_9 rfl (gz_b (by omega)) ((va_up_ne _ _ (gz_ne (by decide))).trans ((hw 32 (by decide) (by decide)).trans (wl_at (i := 32) rfl))) rfl dX10_reached_34 ?_
  refine go_bipush (pc := 37) (v := 20) dX10_reached_37 (by decide) ?_
  refine go_iload_n (pc := 39) dX10_reached_39 rfl rfl ?_
  refine go_iadd (pc := 40) dX10_reached_40 ?_
  refine go_top (y := 30) (by decide) ?_
  refine go_iald (pc := 41) (gz_b (by omega)) ((va_up_ne _ _ (gz_ne (by decide))).trans ((hw 33 (by decide) (by decide)).trans (wl_at (i := 33) rfl))) (gv_in (by decide)) dX10_reached_41 ?_
  refine go_top (y := (-1)) rfl ?_
  refine go_iload_n (pc := 42) dX10_reached_42 rfl rfl ?_
  refine go_callV_i (pc := 43) vX10_135 rfl (cX10_comes_1 hn hw) rfl rfl (gz_b (by omega)) ((va_up_ne _ _ (gz_ne (by decide))).trans ((hw 32 (by decide) (by decide)).trans (wl_at (i := 32) rfl))) rfl (Nat.le_of_ble_eq_true rfl) ⟨Nat.le_of_ble_eq_true rfl, Nat.le_of_ble_eq_true rfl, (Nat.le_add_right _ _), (Nat.le_add_right _ _)⟩ dX10_reached_43 ?_
  refine go_istore_n (pc := 46) (lv' := [(1, .int 0), (2, .int 10), (0, .ref (G.2.1 + 32))]) dX10_reached_46 rfl (by decide) rfl ?_
  refine go_iinc (pc := 47) (v := 11) (lv' := [(2, .int 11), (1, .int 0), (0, .ref (G.2.1 + 32))]) dX10_reached_47 1 rfl (by first | rfl | decide) (by decide) rfl ?_
  refine go_goto (pc := 50) (tgt := 26) dX10_reached_50 (by decide) ?_
  refine go_iload_n (pc := 26) dX10_reached_26 rfl rfl ?_
  refine go_bipush (pc := 27) (v := 24) dX10_reached_27 (by decide) ?_
  refine go_icmp_ge_f (pc := 29) (tgt := 53) dX10_reached_29 (by decide) (by decide) ?_
  refine go_aload_n (pc := 32) dX10_reached_32 rfl rfl ?_
  refine go_aload_n (pc := 33) dX10_reached_33 rfl rfl ?_
  refine go_get (pc := 34) fX10_9 rfl (gz_b (by omega)) ((va_up_ne _ _ (gz_ne (by decide))).trans ((hw 32 (by decide) (by decide)).trans (wl_at (i := 32) rfl))) rfl dX10_reached_34 ?_
  refine go_bipush (pc := 37) (v := 20) dX10_reached_37 (by decide) ?_
  refine go_iload_n (pc := 39) dX10_reached_39 rfl rfl ?_
  refine go_iadd (pc := 40) dX10_reached_40 ?_
  refine go_top (y := 31) (by decide) ?_
  refine go_iald (pc := 41) (gz_b (by omega)) ((va_up_ne _ _ (gz_ne (by decide))).trans ((hw 33 (by decide) (by decide)).trans (wl_at (i := 33) rfl))) (gv_in (by decide)) dX10_reached_41 ?_
  refine go_top (y := (-1)) rfl ?_
  refine go_iload_n (pc := 42) dX10_reached_42 rfl rfl ?_
  refine go_callV_i (pc := 43) vX10_135 rfl (cX10_comes_1 hn hw) rfl rfl (gz_b (by omega)) ((va_up_ne _ _ (gz_ne (by decide))).trans ((hw 32 (by decide) (by decide)).trans (wl_at (i := 32) rfl))) rfl (Nat.le_of_ble_eq_true rfl) ⟨Nat.le_of_ble_eq_true rfl, Nat.le_of_ble_eq_true rfl, (Nat.le_add_right _ _), (Nat.le_add_right _ _)⟩ dX10_reached_43 ?_
  refine go_istore_n (pc := 46) (lv' := [(1, .int 0), (2, .int 11), (0, .ref (G.2.1 + 32))]) dX10_reached_46 rfl (by decide) rfl ?_
  refine go_iinc (pc := 47) (v := 12) (lv' := [(2, .int 12), (1, .int 0), (0, .ref (G.2.1 + 32))]) dX10_reached_47 1 rfl (by first | rfl | decide) (by decide) rfl ?_
  refine go_goto (pc := 50) (tgt := 26) dX10_reached_50 (by decide) ?_
  refine go_iload_n (pc := 26) dX10_reached_26 rfl rfl ?_
  refine go_bipush (pc := 27) (v := 24) dX10_reached_27 (by decide) ?_
  refine go_icmp_ge_f (pc := 29) (tgt := 53) dX10_reached_29 (by decide) (by decide) ?_
  refine go_aload_n (pc := 32) dX10_reached_32 rfl rfl ?_
  refine go_aload_n (pc := 33) dX10_reached_33 rfl rfl ?_
  refine go_get (pc := 34) fX10_9 rfl (gz_b (by omega)) ((va_up_ne _ _ (gz_ne (by decide))).trans ((hw 32 (by decide) (by decide)).trans (wl_at (i := 32) rfl))) rfl dX10_reached_34 ?_
  refine go_bipush (pc := 37) (v := 20) dX10_reached_37 (by decide) ?_
  refine go_iload_n (pc := 39) dX10_reached_39 rfl rfl ?_
  refine go_iadd (pc := 40) dX10_reached_40 ?_
  refine go_top (y := 32) (by decide) ?_
  refine go_iald (pc := 41) (gz_b (by omega)) ((va_up_ne _ _ (gz_ne (by decide))).trans ((hw 33 (by decide) (by decide)).trans (wl_at (i := 33) rfl))) (gv_in (by decide)) dX10_reached_41 ?_
  refine go_top (y := (-1)) rfl ?_
  refine go_iload_n (pc := 42) dX10_reached_42 rfl rfl ?_
  refine go_callV_i (pc := 43) vX10_135 rfl (cX10_comes_1 hn hw) rfl rfl (gz_b (by omega)) ((va_up_ne _ _ (gz_ne (by decide))).trans ((hw 32 (by decide) (by decide)).trans (wl_at (i := 32) rfl))) rfl (Nat.le_of_ble_eq_true rfl) ⟨Nat.le_of_ble_eq_true rfl, Nat.le_of_ble_eq_true rfl, (Nat.le_add_right _ _), (Nat.le_add_right _ _)⟩ dX10_reached_43 ?_
  refine go_istore_n (pc := 46) (lv' := [(1, .int 0), (2, .int 12), (0, .ref (G.2.1 + 32))]) dX10_reached_46 rfl (by decide) rfl ?_
  refine go_iinc (pc := 47) (v := 13) (lv' := [(2, .int 13), (1, .int 0), (0, .ref (G.2.1 + 32))]) dX10_reached_47 1 rfl (by first | rfl | decide) (by decide) rfl ?_
  refine go_goto (pc := 50) (tgt := 26) dX10_reached_50 (by decide) ?_
  refine go_iload_n (pc := 26) dX10_reached_26 rfl rfl ?_
  refine go_bipush (pc := 27) (v := 24) dX10_reached_27 (by decide) ?_
  refine go_icmp_ge_f (pc := 29) (tgt := 53) dX10_reached_29 (by decide) (by decide) ?_
  refine go_aload_n (pc := 32) dX10_reached_32 rfl rfl ?_
  refine go_aload_n (pc := 33) dX10_reached_33 rfl rfl ?_
  refine go_get (pc := 34) fX10_9 rfl (gz_b (by omega)) ((va_up_ne _ _ (gz_ne (by decide))).trans ((hw 32 (by decide) (by decide)).trans (wl_at (i := 32) rfl))) rfl dX10_reached_34 ?_
  refine go_bipush (pc := 37) (v := 20) dX10_reached_37 (by decide) ?_
  refine go_iload_n (pc := 39) dX10_reached_39 rfl rfl ?_
  refine go_iadd (pc := 40) dX10_reached_40 ?_
  refine go_top (y := 33) (by decide) ?_
  refine go_iald (pc := 41) (gz_b (by omega)) ((va_up_ne _ _ (gz_ne (by decide))).trans ((hw 33 (by decide) (by decide)).trans (wl_at (i := 33) rfl))) (gv_in (by decide)) dX10_reached_41 ?_
  refine go_top (y := (-1)) rfl ?_
  refine go_iload_n (pc := 42) dX10_reached_42 rfl rfl ?_
  refine go_callV_i (pc := 43) vX10_135 rfl (cX10_comes_1 hn hw) rfl rfl (gz_b (by omega)) ((va_up_ne _ _ (gz_ne (by decide))).trans ((hw 32 (by decide) (by decide)).trans (wl_at (i := 32) rfl))) rfl (Nat.le_of_ble_eq_true rfl) ⟨Nat.le_of_ble_eq_true rfl, Nat.le_of_ble_eq_true rfl, (Nat.le_add_right _ _), (Nat.le_add_right _ _)⟩ dX10_reached_43 ?_
  refine go_istore_n (pc := 46) (lv' := [(1, .int 0), (2, .int 13), (0, .ref (G.2.1 + 32))]) dX10_reached_46 rfl (by decide) rfl ?_
  refine go_iinc (pc := 47) (v := 14) (lv' := [(2, .int 14), (1, .int 0), (0, .ref (G.2.1 + 32))]) dX10_reached_47 1 rfl (by first | rfl | decide) (by decide) rfl ?_
  refine go_goto (pc := 50) (tgt := 26) dX10_reached_50 (by decide) ?_
  refine go_iload_n (pc := 26) dX10_reached_26 rfl rfl ?_
  refine go_bipush (pc := 27) (v := 24) dX10_reached_27 (by decide) ?_
  refine go_icmp_ge_f (pc := 29) (tgt := 53) dX10_reached_29 (by decide) (by decide) ?_
  refine go_aload_n (pc := 32) dX10_reached_32 rfl rfl ?_
  refine go_aload_n (pc := 33) dX10_reached_33 rfl rfl ?_
  refine go_get (pc := 34) fX10_9 rfl (gz_b (by omega)) ((va_up_ne _ _ (gz_ne (by decide))).trans ((hw 32 (by decide) (by decide)).trans (wl_at (i := 32) rfl))) rfl dX10_reached_34 ?_
  refine go_bipush (pc := 37) (v := 20) dX10_reached_37 (by decide) ?_
  refine go_iload_n (pc := 39) dX10_reached_39 rfl rfl ?_
  refine go_iadd (pc := 40) dX10_reached_40 ?_
  refine go_top (y := 34) (by decide) ?_
  refine go_iald (pc := 41) (gz_b (by omega)) ((va_up_ne _ _ (gz_ne (by decide))).trans ((hw 33 (by decide) (by decide)).trans (wl_at (i := 33) rfl))) (gv_in (by decide)) dX10_reached_41 ?_
  refine go_top (y := (-1)) rfl ?_
  refine go_iload_n (pc := 42) dX10_reached_42 rfl rfl ?_
  refine go_callV_i (pc := 43) vX10_135 rfl (cX10_comes_1 hn hw) rfl rfl (gz_b (by omega)) ((va_up_ne _ _ (gz_ne (by decide))).trans ((hw 32 (by decide) (by decide)).trans (wl_at (i := 32) rfl))) rfl (Nat.le_of_ble_eq_true rfl) ⟨Nat.le_of_ble_eq_true rfl, Nat.le_of_ble_eq_true rfl, (Nat.le_add_right _ _), (Nat.le_add_right _ _)⟩ dX10_reached_43 ?_
  refine go_istore_n (pc := 46) (lv' := [(1, .int 0), (2, .int 14), (0, .ref (G.2.1 + 32))]) dX10_reached_46 rfl (by decide) rfl ?_
  refine go_iinc (pc := 47) (v := 15) (lv' := [(2, .int 15), (1, .int 0), (0, .ref (G.2.1 + 32))]) dX10_reached_47 1 rfl (by first | rfl | decide) (by decide) rfl ?_
  refine go_goto (pc := 50) (tgt := 26) dX10_reached_50 (by decide) ?_
  refine go_iload_n (pc := 26) dX10_reached_26 rfl rfl ?_
  refine go_bipush (pc := 27) (v := 24) dX10_reached_27 (by decide) ?_
  refine go_icmp_ge_f (pc := 29) (tgt := 53) dX10_reached_29 (by decide) (by decide) ?_
  refine go_aload_n (pc := 32) dX10_reached_32 rfl rfl ?_
  refine go_aload_n (pc := 33) dX10_reached_33 rfl rfl ?_
  refine go_get (pc := 34) fX10_9 rfl (gz_b (by omega)) ((va_up_ne _ _ (gz_ne (by decide))).trans ((hw 32 (by decide) (by decide)).trans (wl_at (i := 32) rfl))) rfl dX10_reached_34 ?_
  refine go_bipush (pc := 37) (v := 20) dX10_reached_37 (by decide) ?_
  refine go_iload_n (pc := 39) dX10_reached_39 rfl rfl ?_
  refine go_iadd (pc := 40) dX10_reached_40 ?_
  refine go_top (y := 35) (by decide) ?_
  refine go_iald (pc := 41) (gz_b (by omega)) ((va_up_ne _ _ (gz_ne (by decide))).trans ((hw 33 (by decide) (by decide)).trans (wl_at (i := 33) rfl))) (gv_in (by decide)) dX10_reached_41 ?_
  refine go_top (y := (-1)) rfl ?_
  refine go_iload_n (pc := 42) dX10_reached_42 rfl rfl ?_
  refine go_callV_i (pc := 43) vX10_135 rfl (cX10_comes_1 hn hw) rfl rfl (gz_b (by omega)) ((va_up_ne _ _ (gz_ne (by decide))).trans ((hw 32 (by decide) (by decide)).trans (wl_at (i := 32) rfl))) rfl (Nat.le_of_ble_eq_true rfl) ⟨Nat.le_of_ble_eq_true rfl, Nat.le_of_ble_eq_true rfl, (Nat.le_add_right _ _), (Nat.le_add_right _ _)⟩ dX10_reached_43 ?_
  refine go_istore_n (pc := 46) (lv' := [(1, .int 0), (2, .int 15), (0, .ref (G.2.1 + 32))]) dX10_reached_46 rfl (by decide) rfl ?_
  refine go_iinc (pc := 47) (v := 16) (lv' := [(2, .int 16), (1, .int 0), (0, .ref (G.2.1 + 32))]) dX10_reached_47 1 rfl (by first | rfl | decide) (by decide) rfl ?_
  refine go_goto (pc := 50) (tgt := 26) dX10_reached_50 (by decide) ?_
  refine go_iload_n (pc := 26) dX10_reached_26 rfl rfl ?_
  refine go_bipush (pc := 27) (v := 24) dX10_reached_27 (by decide) ?_
  refine go_icmp_ge_f (pc := 29) (tgt := 53) dX10_reached_29 (by decide) (by decide) ?_
  refine go_aload_n (pc := 32) dX10_reached_32 rfl rfl ?_
  refine go_aload_n (pc := 33) dX10_reached_33 rfl rfl ?_
  refine go_get (pc := 34) fX10_9 rfl (gz_b (by omega)) ((va_up_ne _ _ (gz_ne (by decide))).trans ((hw 32 (by decide) (by decide)).trans (wl_at (i := 32) rfl))) rfl dX10_reached_34 ?_
  refine go_bipush (pc := 37) (v := 20) dX10_reached_37 (by decide) ?_
  refine go_iload_n (pc := 39) dX10_reached_39 rfl rfl ?_
  refine go_iadd (pc := 40) dX10_reached_40 ?_
  refine go_top (y := 36) (by decide) ?_
  refine go_iald (pc := 41) (gz_b (by omega)) ((va_up_ne _ _ (gz_ne (by decide))).trans ((hw 33 (by decide) (by decide)).trans (wl_at (i := 33) rfl))) (gv_in (by decide)) dX10_reached_41 ?_
  refine go_top (y := (-1)) rfl ?_
  refine go_iload_n (pc := 42) dX10_reached_42 rfl rfl ?_
  refine go_callV_i (pc := 43) vX10_135 rfl (cX10_comes_1 hn hw) rfl rfl (gz_b (by omega)) ((va_up_ne _ _ (gz_ne (by decide))).trans ((hw 32 (by decide) (by decide)).trans (wl_at (i := 32) rfl))) rfl (Nat.le_of_ble_eq_true rfl) ⟨Nat.le_of_ble_eq_true rfl, Nat.le_of_ble_eq_true rfl, (Nat.le_add_right _ _), (Nat.le_add_right _ _)⟩ dX10_reached_43 ?_
  refine go_istore_n (pc := 46) (lv' := [(1, .int 0), (2, .int 16), (0, .ref (G.2.1 + 32))]) dX10_reached_46 rfl (by decide) rfl ?_
  refine go_iinc (pc := 47) (v := 17) (lv' := [(2, .int 17), (1, .int 0), (0, .ref (G.2.1 + 32))]) dX10_reached_47 1 rfl (by first | rfl | decide) (by decide) rfl ?_
  refine go_goto (pc := 50) (tgt := 26) dX10_reached_50 (by decide) ?_
  refine go_iload_n (pc := 26) dX10_reached_26 rfl rfl ?_
  refine go_bipush (pc := 27) (v := 24) dX10_reached_27 (by decide) ?_
  refine go_icmp_ge_f (pc := 29) (tgt := 53) dX10_reached_29 (by decide) (by decide) ?_
  refine go_aload_n (pc := 32) dX10_reached_32 rfl rfl ?_
  refine go_aload_n (pc := 33) dX10_reached_33 rfl rfl ?_
  refine go_get (pc := 34) fX10_9 rfl (gz_b (by omega)) ((va_up_ne _ _ (gz_ne (by decide))).trans ((hw 32 (by decide) (by decide)).trans (wl_at (i := 32) rfl))) rfl dX10_reached_34 ?_
  refine go_bipush (pc := 37) (v := 20) dX10_reached_37 (by decide) ?_
  refine go_iload_n (pc := 39) dX10_reached_39 rfl rfl ?_
  refine go_iadd (pc := 40) dX10_reached_40 ?_
  refine go_top (y := 37) (by decide) ?_
  refine go_iald (pc := 41) (gz_b (by omega)) ((va_up_ne _ _ (gz_ne (by decide))).trans ((hw 33 (by decide) (by decide)).trans (wl_at (i := 33) rfl))) (gv_in (by decide)) dX10_reached_41 ?_
  refine go_top (y := (-1)) rfl ?_
  refine go_iload_n (pc := 42) dX10_reached_42 rfl rfl ?_
  refine go_callV_i (pc := 43) vX10_135 rfl (cX10_comes_1 hn hw) rfl rfl (gz_b (by omega)) ((va_up_ne _ _ (gz_ne (by decide))).trans ((hw 32 (by decide) (by decide)).trans (wl_at (i := 32) rfl))) rfl (Nat.le_of_ble_eq_true rfl) ⟨Nat.le_of_ble_eq_true rfl, Nat.le_of_ble_eq_true rfl, (Nat.le_add_right _ _), (Nat.le_add_right _ _)⟩ dX10_reached_43 ?_
  refine go_istore_n (pc := 46) (lv' := [(1, .int 0), (2, .int 17), (0, .ref (G.2.1 + 32))]) dX10_reached_46 rfl (by decide) rfl ?_
  refine go_iinc (pc := 47) (v := 18) (lv' := [(2, .int 18), (1, .int 0), (0, .ref (G.2.1 + 32))]) dX10_reached_47 1 rfl (by first | rfl | decide) (by decide) rfl ?_
  refine go_goto (pc := 50) (tgt := 26) dX10_reached_50 (by decide) ?_
  refine go_iload_n (pc := 26) dX10_reached_26 rfl rfl ?_
  refine go_bipush (pc := 27) (v := 24) dX10_reached_27 (by decide) ?_
  refine go_icmp_ge_f (pc := 29) (tgt := 53) dX10_reached_29 (by decide) (by decide) ?_
  refine go_aload_n (pc := 32) dX10_reached_32 rfl rfl ?_
  refine go_aload_n (pc := 33) dX10_reached_33 rfl rfl ?_
  refine go_get (pc := 34) fX10_9 rfl (gz_b (by omega)) ((va_up_ne _ _ (gz_ne (by decide))).trans ((hw 32 (by decide) (by decide)).trans (wl_at (i := 32) rfl))) rfl dX10_reached_34 ?_
  refine go_bipush (pc := 37) (v := 20) dX10_reached_37 (by decide) ?_
  refine go_iload_n (pc := 39) dX10_reached_39 rfl rfl ?_
  refine go_iadd (pc := 40) dX10_reached_40 ?_
  refine go_top (y := 38) (by decide) ?_
  refine go_iald (pc := 41) (gz_b (by omega)) ((va_up_ne _ _ (gz_ne (by decide))).trans ((hw 33 (by decide) (by decide)).trans (wl_at (i := 33) rfl))) (gv_in (by decide)) dX10_reached_41 ?_
  refine go_top (y := (-1)) rfl ?_
  refine go_iload_n (pc := 42) dX10_reached_42 rfl rfl ?_
  refine go_callV_i (pc := 43) vX10_135 rfl (cX10_comes_1 hn hw) rfl rfl (gz_b (by omega)) ((va_up_ne _ _ (gz_ne (by decide))).trans ((hw 32 (by decide) (by decide)).trans (wl_at (i := 32) rfl))) rfl (Nat.le_of_ble_eq_true rfl) ⟨Nat.le_of_ble_eq_true rfl, Nat.le_of_ble_eq_true rfl, (Nat.le_add_right _ _), (Nat.le_add_right _ _)⟩ dX10_reached_43 ?_
  refine go_istore_n (pc := 46) (lv' := [(1, .int 0), (2, .int 18), (0, .ref (G.2.1 + 32))]) dX10_reached_46 rfl (by decide) rfl ?_
  refine go_iinc (pc := 47) (v := 19) (lv' := [(2, .int 19), (1, .int 0), (0, .ref (G.2.1 + 32))]) dX10_reached_47 1 rfl (by first | rfl | decide) (by decide) rfl ?_
  refine go_goto (pc := 50) (tgt := 26) dX10_reached_50 (by decide) ?_
  refine go_iload_n (pc := 26) dX10_reached_26 rfl rfl ?_
  refine go_bipush (pc := 27) (v := 24) dX10_reached_27 (by decide) ?_
  refine go_icmp_ge_f (pc := 29) (tgt := 53) dX10_reached_29 (by decide) (by decide) ?_
  refine go_aload_n (pc := 32) dX10_reached_32 rfl rfl ?_
  refine go_aload_n (pc := 33) dX10_reached_33 rfl rfl ?_
  refine go_get (pc := 34) fX10_9 rfl (gz_b (by omega)) ((va_up_ne _ _ (gz_ne (by decide))).trans ((hw 32 (by decide) (by decide)).trans (wl_at (i := 32) rfl))) rfl dX10_reached_34 ?_
  refine go_bipush (pc := 37) (v := 20) dX10_reached_37 (by decide) ?_
  refine go_iload_n (pc := 39) dX10_reached_39 rfl rfl ?_
  refine go_iadd (pc := 40) dX10_reached_40 ?_
  refine go_top (y := 39) (by decide) ?_
  refine go_iald (pc := 41) (gz_b (by omega)) ((va_up_ne _ _ (gz_ne (by decide))).trans ((hw 33 (by decide) (by decide)).trans (wl_at (i := 33) rfl))) (gv_in (by decide)) dX10_reached_41 ?_
  refine go_top (y := (-1)) rfl ?_
  refine go_iload_n (pc := 42) dX10_reached_42 rfl rfl ?_
  refine go_callV_i (pc := 43) vX10_135 rfl (cX10_comes_1 hn hw) rfl rfl (gz_b (by omega)) ((va_up_ne _ _ (gz_ne (by decide))).trans ((hw 32 (by decide) (by decide)).trans (wl_at (i := 32) rfl))) rfl (Nat.le_of_ble_eq_true rfl) ⟨Nat.le_of_ble_eq_true rfl, Nat.le_of_ble_eq_true rfl, (Nat.le_add_right _ _), (Nat.le_add_right _ _)⟩ dX10_reached_43 ?_
  refine go_istore_n (pc := 46) (lv' := [(1, .int 0), (2, .int 19), (0, .ref (G.2.1 + 32))]) dX10_reached_46 rfl (by decide) rfl ?_
  refine go_iinc (pc := 47) (v := 20) (lv' := [(2, .int 20), (1, .int 0), (0, .ref (G.2.1 + 32))]) dX10_reached_47 1 rfl (by first | rfl | decide) (by decide) rfl ?_
  refine go_goto (pc := 50) (tgt := 26) dX10_reached_50 (by decide) ?_
  refine go_iload_n (pc := 26) dX10_reached_26 rfl rfl ?_
  refine go_bipush (pc := 27) (v := 24) dX10_reached_27 (by decide) ?_
  refine go_icmp_ge_f (pc := 29) (tgt := 53) dX10_reached_29 (by decide) (by decide) ?_
  refine go_aload_n (pc := 32) dX10_reached_32 rfl rfl ?_
  refine go_aload_n (pc := 33) dX10_reached_33 rfl rfl ?_
  refine go_get (pc := 34) fX10_9 rfl (gz_b (by omega)) ((va_up_ne _ _ (gz_ne (by decide))).trans ((hw 32 (by decide) (by decide)).trans (wl_at (i := 32) rfl))) rfl dX10_reached_34 ?_
  refine go_bipush (pc := 37) (v := 20) dX10_reached_37 (by decide) ?_
  refine go_iload_n (pc := 39) dX10_reached_39 rfl rfl ?_
  refine go_iadd (pc := 40) dX10_reached_40 ?_
  refine go_top (y := 40) (by decide) ?_
  refine go_iald (pc := 41) (gz_b (by omega)) ((va_up_ne _ _ (gz_ne (by decide))).trans ((hw 33 (by decide) (by decide)).trans (wl_at (i := 33) rfl))) (gv_in (by decide)) dX10_reached_41 ?_
  refine go_top (y := (-1)) rfl ?_
  refine go_iload_n (pc := 42) dX10_reached_42 rfl rfl ?_
  refine go_callV_i (pc := 43) vX10_135 rfl (cX10_comes_1 hn hw) rfl rfl (gz_b (by omega)) ((va_up_ne _ _ (gz_ne (by decide))).trans ((hw 32 (by decide) (by decide)).trans (wl_at (i := 32) rfl))) rfl (Nat.le_of_ble_eq_true rfl) ⟨Nat.le_of_ble_eq_true rfl, Nat.le_of_ble_eq_true rfl, (Nat.le_add_right _ _), (Nat.le_add_right _ _)⟩ dX10_reached_43 ?_
  refine go_istore_n (pc := 46) (lv' := [(1, .int 0), (2, .int 20), (0, .ref (G.2.1 + 32))]) dX10_reached_46 rfl (by decide) rfl ?_
  refine go_iinc (pc := 47) (v := 21) (lv' := [(2, .int 21), (1, .int 0), (0, .ref (G.2.1 + 32))]) dX10_reached_47 1 rfl (by first | rfl | decide) (by decide) rfl ?_
  refine go_goto (pc := 50) (tgt := 26) dX10_reached_50 (by decide) ?_
  refine go_iload_n (pc := 26) dX10_reached_26 rfl rfl ?_
  refine go_bipush (pc := 27) (v := 24) dX10_reached_27 (by decide) ?_
  refine go_icmp_ge_f (pc := 29) (tgt := 53) dX10_reached_29 (by decide) (by decide) ?_
  refine go_aload_n (pc := 32) dX10_reached_32 rfl rfl ?_
  refine go_aload_n (pc := 33) dX10_reached_33 rfl rfl ?_
  refine go_get (pc := 34) fX10_9 rfl (gz_b (by omega)) ((va_up_ne _ _ (gz_ne (by decide))).trans ((hw 32 (by decide) (by decide)).trans (wl_at (i := 32) rfl))) rfl dX10_reached_34 ?_
  refine go_bipush (pc := 37) (v := 20) dX10_reached_37 (by decide) ?_
  refine go_iload_n (pc := 39) dX10_reached_39 rfl rfl ?_
  refine go_iadd (pc := 40) dX10_reached_40 ?_
  refine go_top (y := 41) (by decide) ?_
  refine go_iald (pc := 41) (gz_b (by omega)) ((va_up_ne _ _ (gz_ne (by decide))).trans ((hw 33 (by decide) (by decide)).trans (wl_at (i := 33) rfl))) (gv_in (by decide)) dX10_reached_41 ?_
  refine go_top (y := (-1)) rfl ?_
  refine go_iload_n (pc := 42) dX10_reached_42 rfl rfl ?_
  refine go_callV_i (pc := 43) vX10_135 rfl (cX10_comes_1 hn hw) rfl rfl (gz_b (by omega)) ((va_up_ne _ _ (gz_ne (by decide))).trans ((hw 32 (by decide) (by decide)).trans (wl_at (i := 32) rfl))) rfl (Nat.le_of_ble_eq_true rfl) ⟨Nat.le_of_ble_eq_true rfl, Nat.le_of_ble_eq_true rfl, (Nat.le_add_right _ _), (Nat.le_add_right _ _)⟩ dX10_reached_43 ?_
  refine go_istore_n (pc := 46) (lv' := [(1, .int 0), (2, .int 21), (0, .ref (G.2.1 + 32))]) dX10_reached_46 rfl (by decide) rfl ?_
  refine go_iinc (pc := 47) (v := 22) (lv' := [(2, .int 22), (1, .int 0), (0, .ref (G.2.1 + 32))]) dX10_reached_47 1 rfl (by first | rfl | decide) (by decide) rfl ?_
  refine go_goto (pc := 50) (tgt := 26) dX10_reached_50 (by decide) ?_
  refine go_iload_n (pc := 26) dX10_reached_26 rfl rfl ?_
  refine go_bipush (pc := 27) (v := 24) dX10_reached_27 (by decide) ?_
  refine go_icmp_ge_f (pc := 29) (tgt := 53) dX10_reached_29 (by decide) (by decide) ?_
  refine go_aload_n (pc := 32) dX10_reached_32 rfl rfl ?_
  refine go_aload_n (pc := 33) dX10_reached_33 rfl rfl ?_
  refine go_get (pc := 34) fX10_9 rfl (gz_b (by omega)) ((va_up_ne _ _ (gz_ne (by decide))).trans ((hw 32 (by decide) (by decide)).trans (wl_at (i := 32) rfl))) rfl dX10_reached_34 ?_
  refine go_bipush (pc := 37) (v := 20) dX10_reached_37 (by decide) ?_
  refine go_iload_n (pc := 39) dX10_reached_39 rfl rfl ?_
  refine go_iadd (pc := 40) dX10_reached_40 ?_
  refine go_top (y := 42) (by decide) ?_
  refine go_iald (pc := 41) (gz_b (by omega)) ((va_up_ne _ _ (gz_ne (by decide))).trans ((hw 33 (by decide) (by decide)).trans (wl_at (i := 33) rfl))) (gv_in (by decide)) dX10_reached_41 ?_
  refine go_top (y := (-1)) rfl ?_
  refine go_iload_n (pc := 42) dX10_reached_42 rfl rfl ?_
  refine go_callV_i (pc := 43) vX10_135 rfl (cX10_comes_1 hn hw) rfl rfl (gz_b (by omega)) ((va_up_ne _ _ (gz_ne (by decide))).trans ((hw 32 (by decide) (by decide)).trans (wl_at (i := 32) rfl))) rfl (Nat.le_of_ble_eq_true rfl) ⟨Nat.le_of_ble_eq_true rfl, Nat.le_of_ble_eq_true rfl, (Nat.le_add_right _ _), (Nat.le_add_right _ _)⟩ dX10_reached_43 ?_
  refine go_istore_n (pc := 46) (lv' := [(1, .int 0), (2, .int 22), (0, .ref (G.2.1 + 32))]) dX10_reached_46 rfl (by decide) rfl ?_
  refine go_iinc (pc := 47) (v := 23) (lv' := [(2, .int 23), (1, .int 0), (0, .ref (G.2.1 + 32))]) dX10_reached_47 1 rfl (by first | rfl | decide) (by decide) rfl ?_
  refine go_goto (pc := 50) (tgt := 26) dX10_reached_50 (by decide) ?_
  refine go_iload_n (pc := 26) dX10_reached_26 rfl rfl ?_
  refine go_bipush (pc := 27) (v := 24) dX10_reached_27 (by decide) ?_
  refine go_icmp_ge_f (pc := 29) (tgt := 53) dX10_reached_29 (by decide) (by decide) ?_
  refine go_aload_n (pc := 32) dX10_reached_32 rfl rfl ?_
  refine go_aload_n (pc := 33) dX10_reached_33 rfl rfl ?_
  refine go_get (pc := 34) fX10_9 rfl (gz_b (by omega)) ((va_up_ne _ _ (gz_ne (by decide))).trans ((hw 32 (by decide) (by decide)).trans (wl_at (i := 32) rfl))) rfl dX10_reached_34 ?_
  refine go_bipush (pc := 37) (v := 20) dX10_reached_37 (by decide) ?_
  refine go_iload_n (pc := 39) dX10_reached_39 rfl rfl ?_
  refine go_iadd (pc := 40) dX10_reached_40 ?_
  refine go_top (y := 43) (by decide) ?_
  refine go_iald (pc := 41) (gz_b (by omega)) ((va_up_ne _ _ (gz_ne (by decide))).trans ((hw 33 (by decide) (by decide)).trans (wl_at (i := 33) rfl))) (gv_in (by decide)) dX10_reached_41 ?_
  refine go_top (y := (-1)) rfl ?_
  refine go_iload_n (pc := 42) dX10_reached_42 rfl rfl ?_
  refine go_callV_i (pc := 43) vX10_135 rfl (cX10_comes_1 hn hw) rfl rfl (gz_b (by omega)) ((va_up_ne _ _ (gz_ne (by decide))).trans ((hw 32 (by decide) (by decide)).trans (wl_at (i := 32) rfl))) rfl (Nat.le_of_ble_eq_true rfl) ⟨Nat.le_of_ble_eq_true rfl, Nat.le_of_ble_eq_true rfl, (Nat.le_add_right _ _), (Nat.le_add_right _ _)⟩ dX10_reached_43 ?_
  refine go_istore_n (pc := 46) (lv' := [(1, .int 0), (2, .int 23), (0, .ref (G.2.1 + 32))]) dX10_reached_46 rfl (by decide) rfl ?_
  refine go_iinc (pc := 47) (v := 24) (lv' := [(2, .int 24), (1, .int 0), (0, .ref (G.2.1 + 32))]) dX10_reached_47 1 rfl (by first | rfl | decide) (by decide) rfl ?_
  refine go_goto (pc := 50) (tgt := 26) dX10_reached_50 (by decide) ?_
  refine go_iload_n (pc := 26) dX10_reached_26 rfl rfl ?_
  refine go_bipush (pc := 27) (v := 24) dX10_reached_27 (by decide) ?_
  refine go_icmp_ge_t (pc := 29) (tgt := 53) dX10_reached_29 (by decide) (by decide) ?_
  refine go_iconst (pc := 53) (v := 0) dX10_reached_53 (by decide) ?_
  refine go_istore_n (pc := 54) (lv' := [(2, .int 0), (1, .int 0), (0, .ref (G.2.1 + 32))]) dX10_reached_54 rfl (by decide) rfl ?_
  refine go_iconst (pc := 55) (v := 0) dX10_reached_55 (by decide) ?_
  refine go_istore_n (pc := 56) (lv' := [(3, .int 0), (2, .int 0), (1, .int 0), (0, .ref (G.2.1 + 32))]) dX10_reached_56 rfl (by decide) rfl ?_
  refine go_iload_n (pc := 57) dX10_reached_57 rfl rfl ?_
  refine go_iload_n (pc := 58) dX10_reached_58 rfl rfl ?_
  refine go_icmp_ge_t (pc := 59) (tgt := 128) dX10_reached_59 (by decide) (by decide) ?_
  refine go_iload_n (pc := 128) dX10_reached_128 rfl rfl ?_
  exact go_iret (pc := 129) rfl dX10_reached_129
set_option maxRecDepth 100000 in
set_option maxHeartbeats 4000000 in
theorem cX10_fails_4 {l : Launch} {G : gG} {n k : Nat} {w : Nat → va_E} (hn : 42 ≤ n) (hw : ∀ i, 32 ≤ i → i < 42 → w (G.2.1 + i) = wl G.2.1 (LF G) (G.2.1 + i)) : Ct l G mX10_fails 0 0 [.int 6] n k (va_up w (G.2.1 + 39) (az G 500 (fun _ => 0))) (some (.int ((-16))), n, k, (va_up w (G.2.1 + 39) (az G 500 (fun _ => 0)))) := by
  refine Ct.of (by decide) (Nat.le_of_ble_eq_true rfl) ⟨Nat.le_refl _, Nat.le_refl _⟩ ?_
  show Go l G mX10_fails _ 0 [(0, .int 6)] [] n k (va_up w (G.2.1 + 39) (az G 500 (fun _ => 0)))
  refine go_bipush (pc := 0) (v := (-10)) dX10_fails_0 (by decide) ?_
  refine go_iload_n (pc := 2) dX10_fails_2 rfl rfl ?_
  refine go_isub (pc := 3) dX10_fails_3 ?_
  refine go_top (y := (-16)) (by decide) ?_
  exact go_iret (pc := 4) rfl dX10_fails_4
set_option maxRecDepth 100000 in
set_option maxHeartbeats 4000000 in
theorem cX10_makes_5 {l : Launch} {G : gG} (x2 : Int32) (k0 : x2 ≤ 300) (k1 : 0 ≤ x2) (k4 : ¬ x2 < 0) (k2 : ¬ 2 + x2 ≤ 256) (k3 : ¬ 0 + (2 + x2) ≤ 256) {n k : Nat} {w : Nat → va_E} (hn : 42 ≤ n) (hw : ∀ i, 32 ≤ i → i < 42 → w (G.2.1 + i) = wl G.2.1 (LF G) (G.2.1 + i)) : Ct l G mX10_makes 2 48 [.ref (G.2.1 + 32), .int 1, .int x2] n k w (some (.int ((-16))), n, k, (va_up w (G.2.1 + 39) (az G 500 (fun _ => 0)))) := by
  refine Ct.of (by decide) (Nat.le_of_ble_eq_true rfl) ⟨Nat.le_refl _, Nat.le_refl _⟩ ?_
  show Go l G mX10_makes _ 0 [(0, .ref (G.2.1 + 32)), (1, .int 1), (2, .int x2)] [] n k w
  refine go_iload_n (pc := 0) dX10_makes_0 rfl rfl ?_
  refine go_callS_i (pc := 1) sX10_138 rfl (cX10_hasMany_8 hn hw) rfl rfl (Nat.le_of_ble_eq_true rfl) ⟨Nat.le_of_ble_eq_true rfl, Nat.le_of_ble_eq_true rfl, (Nat.le_add_right _ _), (Nat.le_add_right _ _)⟩ dX10_makes_1 ?_
  refine go_if_eq_f (pc := 4) (tgt := 11) dX10_makes_4 (by decide) (by decide) ?_
  refine go_iload_n (pc := 7) dX10_makes_7 rfl rfl ?_
  refine go_goto (pc := 8) (tgt := 12) dX10_makes_8 (by decide) ?_
  refine go_istore_n (pc := 12) (lv' := [(3, .int x2), (0, .ref (G.2.1 + 32)), (1, .int 1), (2, .int x2)]) dX10_makes_12 rfl (by decide) rfl ?_
  refine go_iload_n (pc := 13) dX10_makes_13 rfl rfl ?_
  refine go_if_ge_t (pc := 14) (tgt := 22) dX10_makes_14 (by decide) k1 ?_
  refine go_aload_n (pc := 22) dX10_makes_22 rfl rfl ?_
  refine go_get (pc := 23) fX10_9 rfl (gz_b (by omega)) ((hw 32 (by decide) (by decide)).trans (wl_at (i := 32) rfl)) rfl dX10_makes_23 ?_
  refine go_iconst (pc := 26) (v := 1) dX10_makes_26 (by decide) ?_
  refine go_iald (pc := 27) (gz_b (by omega)) ((hw 33 (by decide) (by decide)).trans (wl_at (i := 33) rfl)) (gv_in (by decide)) dX10_makes_27 ?_
  refine go_top (y := 0) rfl ?_
  refine go_sipush (pc := 28) (v := 500) dX10_makes_28 (by decide) ?_
  refine go_icmp_ne_t (pc := 31) (tgt := 40) dX10_makes_31 (by decide) (by decide) ?_
  refine go_iload_n (pc := 40) dX10_makes_40 rfl rfl ?_
  refine go_iload_n (pc := 41) dX10_makes_41 rfl rfl ?_
  refine go_callS_i (pc := 42) sX10_75 rfl (cX10_sizeOf_4 x2 hn hw) rfl rfl (Nat.le_of_ble_eq_true rfl) ⟨Nat.le_of_ble_eq_true rfl, Nat.le_of_ble_eq_true rfl, (Nat.le_add_right _ _), (Nat.le_add_right _ _)⟩ dX10_makes_42 ?_
  refine go_istore (pc := 45) (lv' := [(4, .int (2 + x2)), (3, .int x2), (0, .ref (G.2.1 + 32)), (1, .int 1), (2, .int x2)]) dX10_makes_45 (by decide) rfl ?_
  refine go_iload (pc := 47) dX10_makes_47 rfl ?_
  refine go_aload_n (pc := 49) dX10_makes_49 rfl rfl ?_
  refine go_get (pc := 50) fX10_9 rfl (gz_b (by omega)) ((hw 32 (by decide) (by decide)).trans (wl_at (i := 32) rfl)) rfl dX10_makes_50 ?_
  refine go_iconst (pc := 53) (v := 0) dX10_makes_53 (by decide) ?_
  refine go_iald (pc := 54) (gz_b (by omega)) ((hw 33 (by decide) (by decide)).trans (wl_at (i := 33) rfl)) (gv_in (by decide)) dX10_makes_54 ?_
  refine go_top (y := 256) rfl ?_
  refine go_aload_n (pc := 55) dX10_makes_55 rfl rfl ?_
  refine go_get (pc := 56) fX10_9 rfl (gz_b (by omega)) ((hw 32 (by decide) (by decide)).trans (wl_at (i := 32) rfl)) rfl dX10_makes_56 ?_
  refine go_bipush (pc := 59) (v := 16) dX10_makes_59 (by decide) ?_
  refine go_iald (pc := 61) (gz_b (by omega)) ((hw 33 (by decide) (by decide)).trans (wl_at (i := 33) rfl)) (gv_in (by decide)) dX10_makes_61 ?_
  refine go_top (y := 0) rfl ?_
  refine go_isub (pc := 62) dX10_makes_62 ?_
  refine go_top (y := 256) (by decide) ?_
  refine go_icmp_le_f (pc := 63) (tgt := 127) dX10_makes_63 (by decide) k2 ?_
  refine go_aload_n (pc := 66) dX10_makes_66 rfl rfl ?_
  refine go_callV_i (pc := 67) vX10_144 rfl (cX10_reached_1 hn hw) rfl rfl (gz_b (by omega)) ((hw 32 (by decide) (by decide)).trans (wl_at (i := 32) rfl)) rfl (Nat.le_of_ble_eq_true rfl) ⟨Nat.le_of_ble_eq_true rfl, Nat.le_of_ble_eq_true rfl, (Nat.le_add_right _ _), (Nat.le_add_right _ _)⟩ dX10_makes_67 ?_
  refine go_iload (pc := 70) dX10_makes_70 rfl ?_
  refine go_iadd (pc := 72) dX10_makes_72 ?_
  refine go_aload_n (pc := 73) dX10_makes_73 rfl rfl ?_
  refine go_get (pc := 74) fX10_9 rfl (gz_b (by omega)) ((va_up_ne _ _ (gz_ne (by decide))).trans ((hw 32 (by decide) (by decide)).trans (wl_at (i := 32) rfl))) rfl dX10_makes_74 ?_
  refine go_iconst (pc := 77) (v := 0) dX10_makes_77 (by decide) ?_
  refine go_iald (pc := 78) (gz_b (by omega)) ((va_up_ne _ _ (gz_ne (by decide))).trans ((hw 33 (by decide) (by decide)).trans (wl_at (i := 33) rfl))) (gv_in (by decide)) dX10_makes_78 ?_
  refine go_top (y := 256) rfl ?_
  refine go_icmp_le_f (pc := 79) (tgt := 88) dX10_makes_79 (by decide) k3 ?_
  refine go_bipush (pc := 82) (v := 6) dX10_makes_82 (by decide) ?_
  refine go_callS_i (pc := 84) sX10_141 rfl (cX10_fails_4 hn hw) rfl rfl (Nat.le_of_ble_eq_true rfl) ⟨Nat.le_of_ble_eq_true rfl, Nat.le_of_ble_eq_true rfl, (Nat.le_add_right _ _), (Nat.le_add_right _ _)⟩ dX10_makes_84 ?_
  exact go_iret (pc := 87) rfl dX10_makes_87
set_option maxRecDepth 100000 in
set_option maxHeartbeats 4000000 in
theorem cX10_answers_7 {l : Launch} {G : gG} {n k : Nat} {w : Nat → va_E} (hn : 42 ≤ n) (hw : ∀ i, 32 ≤ i → i < 42 → w (G.2.1 + i) = wl G.2.1 (LF G) (G.2.1 + i)) : Ct l G mX10_answers 1 25 [.ref (G.2.1 + 32), .int ((-16))] n k (va_up w (G.2.1 + 39) (az G 500 (fun _ => 0))) (some (.int ((-16))), n, k, (va_up (va_up w (G.2.1 + 39) (az G 500 (fun _ => 0))) (G.2.1 + 32) (ob 10 [.ref (G.2.1 + 33), .ref (G.2.1 + 34), .ref (G.2.1 + 35), .int 0, .int 0, .int 6, .int 0, .int 0, .ref (G.2.1 + 36), .ref (G.2.1 + 37), .ref (G.2.1 + 38), .ref (G.2.1 + 39), .int 0, .ref (G.2.1 + 40), .int 0, .ref (G.2.1 + 41)]))) := by
  refine Ct.of (by decide) (Nat.le_of_ble_eq_true rfl) ⟨Nat.le_refl _, Nat.le_refl _⟩ ?_
  show Go l G mX10_answers _ 0 [(0, .ref (G.2.1 + 32)), (1, .int ((-16)))] [] n k (va_up w (G.2.1 + 39) (az G 500 (fun _ => 0)))
  refine go_aload_n (pc := 0) dX10_answers_0 rfl rfl ?_
  refine go_iload_n (pc := 1) dX10_answers_1 rfl rfl ?_
  refine go_i2l (pc := 2) dX10_answers_2 ?_
  refine go_topl (y := (-16)) (by decide) ?_
  refine go_ldc2 (pc := 3) rfl qX10_78 dX10_answers_3 ?_
  refine go_ldc2 (pc := 6) rfl qX10_80 dX10_answers_6 ?_
  refine go_callS_i (pc := 9) sX10_63 rfl (ct_in ((-16)) ((-18)) ((-11))) rfl rfl (Nat.le_of_ble_eq_true rfl) ⟨Nat.le_of_ble_eq_true rfl, Nat.le_of_ble_eq_true rfl, (Nat.le_add_right _ _), (Nat.le_add_right _ _)⟩ dX10_answers_9 ?_
  refine go_top (y := 1) (by decide) ?_
  refine go_if_eq_f (pc := 12) (tgt := 22) dX10_answers_12 (by decide) (by decide) ?_
  refine go_bipush (pc := 15) (v := (-10)) dX10_answers_15 (by decide) ?_
  refine go_iload_n (pc := 17) dX10_answers_17 rfl rfl ?_
  refine go_isub (pc := 18) dX10_answers_18 ?_
  refine go_top (y := 6) (by decide) ?_
  refine go_goto (pc := 19) (tgt := 23) dX10_answers_19 (by decide) ?_
  refine go_put (pc := 23) fX10_49 rfl (gz_b (by omega)) ((va_up_ne _ _ (gz_ne (by decide))).trans ((hw 32 (by decide) (by decide)).trans (wl_at (i := 32) rfl))) (Nat.le_of_ble_eq_true rfl) rfl rfl dX10_answers_23 ?_
  refine go_iload_n (pc := 26) dX10_answers_26 rfl rfl ?_
  exact go_iret (pc := 27) rfl dX10_answers_27
set_option maxRecDepth 100000 in
set_option maxHeartbeats 4000000 in
theorem cm_make_1c_o {l : Launch} {G : gG} (x2 : Int32) (k0 : x2 ≤ 300) (k1 : 0 ≤ x2) (k4 : ¬ x2 < 0) (k2 : ¬ 2 + x2 ≤ 256) (k3 : ¬ 0 + (2 + x2) ≤ 256) {n k : Nat} {w : Nat → va_E} (hn : 42 ≤ n) (hw : ∀ i, 32 ≤ i → i < 42 → w (G.2.1 + i) = wl G.2.1 (LF G) (G.2.1 + i)) : Ct l G mX10_make 3 75 [.ref (G.2.1 + 32), .int 1, .int x2] n k w (some (.int ((-16))), n, k, (va_up (va_up w (G.2.1 + 39) (az G 500 (fun _ => 0))) (G.2.1 + 32) (ob 10 [.ref (G.2.1 + 33), .ref (G.2.1 + 34), .ref (G.2.1 + 35), .int 0, .int 0, .int 6, .int 0, .int 0, .ref (G.2.1 + 36), .ref (G.2.1 + 37), .ref (G.2.1 + 38), .ref (G.2.1 + 39), .int 0, .ref (G.2.1 + 40), .int 0, .ref (G.2.1 + 41)]))) := by
  refine Ct.of (by decide) (Nat.le_of_ble_eq_true rfl) ⟨Nat.le_refl _, Nat.le_refl _⟩ ?_
  show Go l G mX10_make _ 0 [(0, .ref (G.2.1 + 32)), (1, .int 1), (2, .int x2)] [] n k w
  refine go_iload_n (pc := 0) dX10_make_0 rfl rfl ?_
  refine go_i2l (pc := 1) dX10_make_1 ?_
  refine go_topl (y := 1) (by decide) ?_
  refine go_lconst (pc := 2) (v := 0) dX10_make_2 (by decide) ?_
  refine go_ldc2 (pc := 3) rfl qX10_150 dX10_make_3 ?_
  refine go_callS_i (pc := 6) sX10_63 rfl (ct_in 1 0 5) rfl rfl (Nat.le_of_ble_eq_true rfl) ⟨Nat.le_of_ble_eq_true rfl, Nat.le_of_ble_eq_true rfl, (Nat.le_add_right _ _), (Nat.le_add_right _ _)⟩ dX10_make_6 ?_
  refine go_top (y := 1) (by decide) ?_
  refine go_if_eq_f (pc := 9) (tgt := 26) dX10_make_9 (by decide) (by decide) ?_
  refine go_iload_n (pc := 12) dX10_make_12 rfl rfl ?_
  refine go_callS_i (pc := 13) sX10_138 rfl (cX10_hasMany_8 hn hw) rfl rfl (Nat.le_of_ble_eq_true rfl) ⟨Nat.le_of_ble_eq_true rfl, Nat.le_of_ble_eq_true rfl, (Nat.le_add_right _ _), (Nat.le_add_right _ _)⟩ dX10_make_13 ?_
  refine go_if_eq_f (pc := 16) (tgt := 29) dX10_make_16 (by decide) (by decide) ?_
  refine go_iload_n (pc := 19) dX10_make_19 rfl rfl ?_
  refine go_sipush (pc := 20) (v := 300) dX10_make_20 (by decide) ?_
  refine go_icmp_le_t (pc := 23) (tgt := 29) dX10_make_23 (by decide) k0 ?_
  refine go_aload_n (pc := 29) dX10_make_29 rfl rfl ?_
  refine go_aload_n (pc := 30) dX10_make_30 rfl rfl ?_
  refine go_iload_n (pc := 31) dX10_make_31 rfl rfl ?_
  refine go_iload_n (pc := 32) dX10_make_32 rfl rfl ?_
  refine go_callV_i (pc := 33) vX10_152 rfl (cX10_makes_5 x2 k0 k1 k4 k2 k3 hn hw) rfl rfl (gz_b (by omega)) ((hw 32 (by decide) (by decide)).trans (wl_at (i := 32) rfl)) rfl (Nat.le_of_ble_eq_true rfl) ⟨Nat.le_of_ble_eq_true rfl, Nat.le_of_ble_eq_true rfl, (Nat.le_add_right _ _), (Nat.le_add_right _ _)⟩ dX10_make_33 ?_
  refine go_callV_i (pc := 36) vX10_155 rfl (cX10_answers_7 hn hw) rfl rfl (gz_b (by omega)) ((va_up_ne _ _ (gz_ne (by decide))).trans ((hw 32 (by decide) (by decide)).trans (wl_at (i := 32) rfl))) rfl (Nat.le_of_ble_eq_true rfl) ⟨Nat.le_of_ble_eq_true rfl, Nat.le_of_ble_eq_true rfl, (Nat.le_add_right _ _), (Nat.le_add_right _ _)⟩ dX10_make_36 ?_
  exact go_iret (pc := 39) rfl dX10_make_39
theorem cm_make_1c {l : Launch} {G : gG} (x2 : Int32) (k0 : x2 ≤ 300) (k1 : 0 ≤ x2) (k4 : ¬ x2 < 0) (k2 : ¬ 2 + x2 ≤ 256) (k3 : ¬ 0 + (2 + x2) ≤ 256) : CM l G mX10_make [.ref (G.2.1 + 32), .int 1, .int x2] ((-16)) := by
  intro n k w hn hw
  exact ⟨3, 75, _, by decide, by decide, cm_make_1c_o x2 k0 k1 k4 k2 k3 hn hw⟩
set_option maxRecDepth 100000 in
set_option maxHeartbeats 4000000 in
theorem cX10_sizeOf_5 {l : Launch} {G : gG} (j : Nat) (hj : j ≤ 254) {n k : Nat} {w : Nat → va_E} (hn : 42 ≤ n) (hw : ∀ i, 32 ≤ i → i < 42 → w (G.2.1 + i) = wl G.2.1 (LF G) (G.2.1 + i)) : Ct l G mX10_sizeOf 0 0 [.int 1, .int (nI j)] n k w (some (.int (2 + (nI j))), n, k, w) := by
  refine Ct.of (by decide) (Nat.le_of_ble_eq_true rfl) ⟨Nat.le_refl _, Nat.le_refl _⟩ ?_
  show Go l G mX10_sizeOf _ 0 [(0, .int 1), (1, .int (nI j))] [] n k w
  refine go_iload_n (pc := 0) dX10_sizeOf_0 rfl rfl ?_
  refine go_tableIn (pc := 1) (off := 43) (tgt := 44) dX10_sizeOf_1 (by decide) (by decide) (by decide) (by decide) ?_
  refine go_iconst (pc := 44) (v := 2) dX10_sizeOf_44 (by decide) ?_
  refine go_iload_n (pc := 45) dX10_sizeOf_45 rfl rfl ?_
  refine go_iadd (pc := 46) dX10_sizeOf_46 ?_
  exact go_iret (pc := 47) rfl dX10_sizeOf_47
set_option maxRecDepth 100000 in
set_option maxHeartbeats 4000000 in
theorem cX10_lets_17 {l : Launch} {G : gG} {n k : Nat} {w : Nat → va_E} (hn : 42 ≤ n) (hw : ∀ i, 32 ≤ i → i < 42 → w (G.2.1 + i) = wl G.2.1 (LF G) (G.2.1 + i)) : Ct l G mX10_lets 0 0 [.ref (G.2.1 + 32), .int 0, .int 1, .int 1] n k (va_up w (G.2.1 + 33) (ai G 26100 (upd (upd (upd (sx 256) (1 : Int32).toNatClampNeg 1) (2 : Int32).toNatClampNeg 1) (1100 : Int32).toNatClampNeg 1))) (none, n, k, (va_up w (G.2.1 + 33) (ai G 26100 (upd (upd (upd (upd (sx 256) (1 : Int32).toNatClampNeg 1) (2 : Int32).toNatClampNeg 1) (1100 : Int32).toNatClampNeg 1) (1101 : Int32).toNatClampNeg 1)))) := by
  refine Ct.of (by decide) (Nat.le_of_ble_eq_true rfl) ⟨Nat.le_refl _, Nat.le_refl _⟩ ?_
  show Go l G mX10_lets _ 0 [(0, .ref (G.2.1 + 32)), (1, .int 0), (2, .int 1), (3, .int 1)] [] n k (va_up w (G.2.1 + 33) (ai G 26100 (upd (upd (upd (sx 256) (1 : Int32).toNatClampNeg 1) (2 : Int32).toNatClampNeg 1) (1100 : Int32).toNatClampNeg 1)))
  refine go_aload_n (pc := 0) dX10_lets_0 rfl rfl ?_
  refine go_get (pc := 1) fX10_9 rfl (gz_b (by omega)) ((va_up_ne _ _ (gz_ne (by decide))).trans ((hw 32 (by decide) (by decide)).trans (wl_at (i := 32) rfl))) rfl dX10_lets_1 ?_
  refine go_sipush (pc := 4) (v := 1100) dX10_lets_4 (by decide) ?_
  refine go_bipush (pc := 7) (v := 10) dX10_lets_7 (by decide) ?_
  refine go_iload_n (pc := 9) dX10_lets_9 rfl rfl ?_
  refine go_imul (pc := 10) dX10_lets_10 ?_
  refine go_top (y := 0) (by decide) ?_
  refine go_iadd (pc := 11) dX10_lets_11 ?_
  refine go_top (y := 1100) (by decide) ?_
  refine go_iload_n (pc := 12) dX10_lets_12 rfl rfl ?_
  refine go_iadd (pc := 13) dX10_lets_13 ?_
  refine go_top (y := 1101) (by decide) ?_
  refine go_iload_n (pc := 14) dX10_lets_14 rfl rfl ?_
  refine go_iast (pc := 15) (gz_b (by omega)) (va_up_self _ _ _) (gv_in (by decide)) dX10_lets_15 ?_
  refine go_w (va_up_up _ _ _ _) ?_
  exact go_vret (pc := 16) rfl dX10_lets_16
set_option maxRecDepth 100000 in
set_option maxHeartbeats 4000000 in
theorem cX10_lets_18 {l : Launch} {G : gG} {n k : Nat} {w : Nat → va_E} (hn : 42 ≤ n) (hw : ∀ i, 32 ≤ i → i < 42 → w (G.2.1 + i) = wl G.2.1 (LF G) (G.2.1 + i)) : Ct l G mX10_lets 0 0 [.ref (G.2.1 + 32), .int 0, .int 2, .int 0] n k (va_up w (G.2.1 + 33) (ai G 26100 (upd (upd (upd (upd (sx 256) (1 : Int32).toNatClampNeg 1) (2 : Int32).toNatClampNeg 1) (1100 : Int32).toNatClampNeg 1) (1101 : Int32).toNatClampNeg 1))) (none, n, k, (va_up w (G.2.1 + 33) (ai G 26100 (upd (upd (upd (upd (upd (sx 256) (1 : Int32).toNatClampNeg 1) (2 : Int32).toNatClampNeg 1) (1100 : Int32).toNatClampNeg 1) (1101 : Int32).toNatClampNeg 1) (1102 : Int32).toNatClampNeg 0)))) := by
  refine Ct.of (by decide) (Nat.le_of_ble_eq_true rfl) ⟨Nat.le_refl _, Nat.le_refl _⟩ ?_
  show Go l G mX10_lets _ 0 [(0, .ref (G.2.1 + 32)), (1, .int 0), (2, .int 2), (3, .int 0)] [] n k (va_up w (G.2.1 + 33) (ai G 26100 (upd (upd (upd (upd (sx 256) (1 : Int32).toNatClampNeg 1) (2 : Int32).toNatClampNeg 1) (1100 : Int32).toNatClampNeg 1) (1101 : Int32).toNatClampNeg 1)))
  refine go_aload_n (pc := 0) dX10_lets_0 rfl rfl ?_
  refine go_get (pc := 1) fX10_9 rfl (gz_b (by omega)) ((va_up_ne _ _ (gz_ne (by decide))).trans ((hw 32 (by decide) (by decide)).trans (wl_at (i := 32) rfl))) rfl dX10_lets_1 ?_
  refine go_sipush (pc := 4) (v := 1100) dX10_lets_4 (by decide) ?_
  refine go_bipush (pc := 7) (v := 10) dX10_lets_7 (by decide) ?_
  refine go_iload_n (pc := 9) dX10_lets_9 rfl rfl ?_
  refine go_imul (pc := 10) dX10_lets_10 ?_
  refine go_top (y := 0) (by decide) ?_
  refine go_iadd (pc := 11) dX10_lets_11 ?_
  refine go_top (y := 1100) (by decide) ?_
  refine go_iload_n (pc := 12) dX10_lets_12 rfl rfl ?_
  refine go_iadd (pc := 13) dX10_lets_13 ?_
  refine go_top (y := 1102) (by decide) ?_
  refine go_iload_n (pc := 14) dX10_lets_14 rfl rfl ?_
  refine go_iast (pc := 15) (gz_b (by omega)) (va_up_self _ _ _) (gv_in (by decide)) dX10_lets_15 ?_
  refine go_w (va_up_up _ _ _ _) ?_
  exact go_vret (pc := 16) rfl dX10_lets_16
set_option maxRecDepth 100000 in
set_option maxHeartbeats 4000000 in
theorem cX10_lets_19 {l : Launch} {G : gG} (j : Nat) (hj : j ≤ 254) {n k : Nat} {w : Nat → va_E} (hn : 42 ≤ n) (hw : ∀ i, 32 ≤ i → i < 42 → w (G.2.1 + i) = wl G.2.1 (LF G) (G.2.1 + i)) : Ct l G mX10_lets 0 0 [.ref (G.2.1 + 32), .int 0, .int 3, .int (nI j)] n k (va_up w (G.2.1 + 33) (ai G 26100 (upd (upd (upd (upd (upd (sx 256) (1 : Int32).toNatClampNeg 1) (2 : Int32).toNatClampNeg 1) (1100 : Int32).toNatClampNeg 1) (1101 : Int32).toNatClampNeg 1) (1102 : Int32).toNatClampNeg 0))) (none, n, k, (va_up w (G.2.1 + 33) (ai G 26100 (upd (upd (upd (upd (upd (upd (sx 256) (1 : Int32).toNatClampNeg 1) (2 : Int32).toNatClampNeg 1) (1100 : Int32).toNatClampNeg 1) (1101 : Int32).toNatClampNeg 1) (1102 : Int32).toNatClampNeg 0) (1103 : Int32).toNatClampNeg (nI j))))) := by
  refine Ct.of (by decide) (Nat.le_of_ble_eq_true rfl) ⟨Nat.le_refl _, Nat.le_refl _⟩ ?_
  show Go l G mX10_lets _ 0 [(0, .ref (G.2.1 + 32)), (1, .int 0), (2, .int 3), (3, .int (nI j))] [] n k (va_up w (G.2.1 + 33) (ai G 26100 (upd (upd (upd (upd (upd (sx 256) (1 : Int32).toNatClampNeg 1) (2 : Int32).toNatClampNeg 1) (1100 : Int32).toNatClampNeg 1) (1101 : Int32).toNatClampNeg 1) (1102 : Int32).toNatClampNeg 0)))
  refine go_aload_n (pc := 0) dX10_lets_0 rfl rfl ?_
  refine go_get (pc := 1) fX10_9 rfl (gz_b (by omega)) ((va_up_ne _ _ (gz_ne (by decide))).trans ((hw 32 (by decide) (by decide)).trans (wl_at (i := 32) rfl))) rfl dX10_lets_1 ?_
  refine go_sipush (pc := 4) (v := 1100) dX10_lets_4 (by decide) ?_
  refine go_bipush (pc := 7) (v := 10) dX10_lets_7 (by decide) ?_
  refine go_iload_n (pc := 9) dX10_lets_9 rfl rfl ?_
  refine go_imul (pc := 10) dX10_lets_10 ?_
  refine go_top (y := 0) (by decide) ?_
  refine go_iadd (pc := 11) dX10_lets_11 ?_
  refine go_top (y := 1100) (by decide) ?_
  refine go_iload_n (pc := 12) dX10_lets_12 rfl rfl ?_
  refine go_iadd (pc := 13) dX10_lets_13 ?_
  refine go_top (y := 1103) (by decide) ?_
  refine go_iload_n (pc := 14) dX10_lets_14 rfl rfl ?_
  refine go_iast (pc := 15) (gz_b (by omega)) (va_up_self _ _ _) (gv_in (by decide)) dX10_lets_15 ?_
  refine go_w (va_up_up _ _ _ _) ?_
  exact go_vret (pc := 16) rfl dX10_lets_16
set_option maxRecDepth 100000 in
set_option maxHeartbeats 4000000 in
theorem cX10_lets_20 {l : Launch} {G : gG} (j : Nat) (hj : j ≤ 254) {n k : Nat} {w : Nat → va_E} (hn : 42 ≤ n) (hw : ∀ i, 32 ≤ i → i < 42 → w (G.2.1 + i) = wl G.2.1 (LF G) (G.2.1 + i)) : Ct l G mX10_lets 0 0 [.ref (G.2.1 + 32), .int 0, .int 4, .int 0] n k (va_up w (G.2.1 + 33) (ai G 26100 (upd (upd (upd (upd (upd (upd (sx 256) (1 : Int32).toNatClampNeg 1) (2 : Int32).toNatClampNeg 1) (1100 : Int32).toNatClampNeg 1) (1101 : Int32).toNatClampNeg 1) (1102 : Int32).toNatClampNeg 0) (1103 : Int32).toNatClampNeg (nI j)))) (none, n, k, (va_up w (G.2.1 + 33) (ai G 26100 (upd (upd (upd (upd (upd (upd (upd (sx 256) (1 : Int32).toNatClampNeg 1) (2 : Int32).toNatClampNeg 1) (1100 : Int32).toNatClampNeg 1) (1101 : Int32).toNatClampNeg 1) (1102 : Int32).toNatClampNeg 0) (1103 : Int32).toNatClampNeg (nI j)) (1104 : Int32).toNatClampNeg 0)))) := by
  refine Ct.of (by decide) (Nat.le_of_ble_eq_true rfl) ⟨Nat.le_refl _, Nat.le_refl _⟩ ?_
  show Go l G mX10_lets _ 0 [(0, .ref (G.2.1 + 32)), (1, .int 0), (2, .int 4), (3, .int 0)] [] n k (va_up w (G.2.1 + 33) (ai G 26100 (upd (upd (upd (upd (upd (upd (sx 256) (1 : Int32).toNatClampNeg 1) (2 : Int32).toNatClampNeg 1) (1100 : Int32).toNatClampNeg 1) (1101 : Int32).toNatClampNeg 1) (1102 : Int32).toNatClampNeg 0) (1103 : Int32).toNatClampNeg (nI j))))
  refine go_aload_n (pc := 0) dX10_lets_0 rfl rfl ?_
  refine go_get (pc := 1) fX10_9 rfl (gz_b (by omega)) ((va_up_ne _ _ (gz_ne (by decide))).trans ((hw 32 (by decide) (by decide)).trans (wl_at (i := 32) rfl))) rfl dX10_lets_1 ?_
  refine go_sipush (pc := 4) (v := 1100) dX10_lets_4 (by decide) ?_
  refine go_bipush (pc := 7) (v := 10) dX10_lets_7 (by decide) ?_
  refine go_iload_n (pc := 9) dX10_lets_9 rfl rfl ?_
  refine go_imul (pc := 10) dX10_lets_10 ?_
  refine go_top (y := 0) (by decide) ?_
  refine go_iadd (pc := 11) dX10_lets_11 ?_
  refine go_top (y := 1100) (by decide) ?_
  refine go_iload_n (pc := 12) dX10_lets_12 rfl rfl ?_
  refine go_iadd (pc := 13) dX10_lets_13 ?_
  refine go_top (y := 1104) (by decide) ?_
  refine go_iload_n (pc := 14) dX10_lets_14 rfl rfl ?_
  refine go_iast (pc := 15) (gz_b (by omega)) (va_up_self _ _ _) (gv_in (by decide)) dX10_lets_15 ?_
  refine go_w (va_up_up _ _ _ _) ?_
  exact go_vret (pc := 16) rfl dX10_lets_16
set_option maxRecDepth 100000 in
set_option maxHeartbeats 4000000 in
theorem cX10_lets_21 {l : Launch} {G : gG} (j : Nat) (hj : j ≤ 254) {n k : Nat} {w : Nat → va_E} (hn : 42 ≤ n) (hw : ∀ i, 32 ≤ i → i < 42 → w (G.2.1 + i) = wl G.2.1 (LF G) (G.2.1 + i)) : Ct l G mX10_lets 0 0 [.ref (G.2.1 + 32), .int 0, .int 5, .int 0] n k (va_up w (G.2.1 + 33) (ai G 26100 (upd (upd (upd (upd (upd (upd (upd (sx 256) (1 : Int32).toNatClampNeg 1) (2 : Int32).toNatClampNeg 1) (1100 : Int32).toNatClampNeg 1) (1101 : Int32).toNatClampNeg 1) (1102 : Int32).toNatClampNeg 0) (1103 : Int32).toNatClampNeg (nI j)) (1104 : Int32).toNatClampNeg 0))) (none, n, k, (va_up w (G.2.1 + 33) (ai G 26100 (upd (upd (upd (upd (upd (upd (upd (upd (sx 256) (1 : Int32).toNatClampNeg 1) (2 : Int32).toNatClampNeg 1) (1100 : Int32).toNatClampNeg 1) (1101 : Int32).toNatClampNeg 1) (1102 : Int32).toNatClampNeg 0) (1103 : Int32).toNatClampNeg (nI j)) (1104 : Int32).toNatClampNeg 0) (1105 : Int32).toNatClampNeg 0)))) := by
  refine Ct.of (by decide) (Nat.le_of_ble_eq_true rfl) ⟨Nat.le_refl _, Nat.le_refl _⟩ ?_
  show Go l G mX10_lets _ 0 [(0, .ref (G.2.1 + 32)), (1, .int 0), (2, .int 5), (3, .int 0)] [] n k (va_up w (G.2.1 + 33) (ai G 26100 (upd (upd (upd (upd (upd (upd (upd (sx 256) (1 : Int32).toNatClampNeg 1) (2 : Int32).toNatClampNeg 1) (1100 : Int32).toNatClampNeg 1) (1101 : Int32).toNatClampNeg 1) (1102 : Int32).toNatClampNeg 0) (1103 : Int32).toNatClampNeg (nI j)) (1104 : Int32).toNatClampNeg 0)))
  refine go_aload_n (pc := 0) dX10_lets_0 rfl rfl ?_
  refine go_get (pc := 1) fX10_9 rfl (gz_b (by omega)) ((va_up_ne _ _ (gz_ne (by decide))).trans ((hw 32 (by decide) (by decide)).trans (wl_at (i := 32) rfl))) rfl dX10_lets_1 ?_
  refine go_sipush (pc := 4) (v := 1100) dX10_lets_4 (by decide) ?_
  refine go_bipush (pc := 7) (v := 10) dX10_lets_7 (by decide) ?_
  refine go_iload_n (pc := 9) dX10_lets_9 rfl rfl ?_
  refine go_imul (pc := 10) dX10_lets_10 ?_
  refine go_top (y := 0) (by decide) ?_
  refine go_iadd (pc := 11) dX10_lets_11 ?_
  refine go_top (y := 1100) (by decide) ?_
  refine go_iload_n (pc := 12) dX10_lets_12 rfl rfl ?_
  refine go_iadd (pc := 13) dX10_lets_13 ?_
  refine go_top (y := 1105) (by decide) ?_
  refine go_iload_n (pc := 14) dX10_lets_14 rfl rfl ?_
  refine go_iast (pc := 15) (gz_b (by omega)) (va_up_self _ _ _) (gv_in (by decide)) dX10_lets_15 ?_
  refine go_w (va_up_up _ _ _ _) ?_
  exact go_vret (pc := 16) rfl dX10_lets_16
set_option maxRecDepth 100000 in
set_option maxHeartbeats 4000000 in
theorem cX10_hasMany_9 {l : Launch} {G : gG} (j : Nat) (hj : j ≤ 254) {n k : Nat} {w : Nat → va_E} (hn : 42 ≤ n) (hw : ∀ i, 32 ≤ i → i < 42 → w (G.2.1 + i) = wl G.2.1 (LF G) (G.2.1 + i)) : Ct l G mX10_hasMany 0 0 [.int 1] n k (va_up w (G.2.1 + 33) (ai G 26100 (upd (upd (upd (upd (upd (upd (upd (upd (upd (sx 256) (1 : Int32).toNatClampNeg 1) (2 : Int32).toNatClampNeg 1) (1100 : Int32).toNatClampNeg 1) (1101 : Int32).toNatClampNeg 1) (1102 : Int32).toNatClampNeg 0) (1103 : Int32).toNatClampNeg (nI j)) (1104 : Int32).toNatClampNeg 0) (1105 : Int32).toNatClampNeg 0) (6100 : Int32).toNatClampNeg 1))) (some (.int 1), n, k, (va_up w (G.2.1 + 33) (ai G 26100 (upd (upd (upd (upd (upd (upd (upd (upd (upd (sx 256) (1 : Int32).toNatClampNeg 1) (2 : Int32).toNatClampNeg 1) (1100 : Int32).toNatClampNeg 1) (1101 : Int32).toNatClampNeg 1) (1102 : Int32).toNatClampNeg 0) (1103 : Int32).toNatClampNeg (nI j)) (1104 : Int32).toNatClampNeg 0) (1105 : Int32).toNatClampNeg 0) (6100 : Int32).toNatClampNeg 1)))) := by
  refine Ct.of (by decide) (Nat.le_of_ble_eq_true rfl) ⟨Nat.le_refl _, Nat.le_refl _⟩ ?_
  show Go l G mX10_hasMany _ 0 [(0, .int 1)] [] n k (va_up w (G.2.1 + 33) (ai G 26100 (upd (upd (upd (upd (upd (upd (upd (upd (upd (sx 256) (1 : Int32).toNatClampNeg 1) (2 : Int32).toNatClampNeg 1) (1100 : Int32).toNatClampNeg 1) (1101 : Int32).toNatClampNeg 1) (1102 : Int32).toNatClampNeg 0) (1103 : Int32).toNatClampNeg (nI j)) (1104 : Int32).toNatClampNeg 0) (1105 : Int32).toNatClampNeg 0) (6100 : Int32).toNatClampNeg 1)))
  refine go_iload_n (pc := 0) dX10_hasMany_0 rfl rfl ?_
  refine go_iconst (pc := 1) (v := 1) dX10_hasMany_1 (by decide) ?_
  refine go_icmp_eq_t (pc := 2) (tgt := 15) dX10_hasMany_2 (by decide) (by decide) ?_
  refine go_iconst (pc := 15) (v := 1) dX10_hasMany_15 (by decide) ?_
  refine go_goto (pc := 16) (tgt := 20) dX10_hasMany_16 (by decide) ?_
  exact go_zret (pc := 20) rfl rfl dX10_hasMany_20
set_option maxRecDepth 100000 in
set_option maxHeartbeats 4000000 in
theorem cX10_of_11 {l : Launch} {G : gG} (j : Nat) (hj : j ≤ 254) {n k : Nat} {w : Nat → va_E} (hn : 42 ≤ n) (hw : ∀ i, 32 ≤ i → i < 42 → w (G.2.1 + i) = wl G.2.1 (LF G) (G.2.1 + i)) : Ct l G mX10_of 0 0 [.ref (G.2.1 + 32), .int 0, .int 1] n k (va_up w (G.2.1 + 33) (ai G 26100 (upd (upd (upd (upd (upd (upd (upd (upd (upd (upd (sx 256) (1 : Int32).toNatClampNeg 1) (2 : Int32).toNatClampNeg 1) (1100 : Int32).toNatClampNeg 1) (1101 : Int32).toNatClampNeg 1) (1102 : Int32).toNatClampNeg 0) (1103 : Int32).toNatClampNeg (nI j)) (1104 : Int32).toNatClampNeg 0) (1105 : Int32).toNatClampNeg 0) (6100 : Int32).toNatClampNeg 1) (6101 : Int32).toNatClampNeg (nI j)))) (some (.int 1), n, k, (va_up w (G.2.1 + 33) (ai G 26100 (upd (upd (upd (upd (upd (upd (upd (upd (upd (upd (sx 256) (1 : Int32).toNatClampNeg 1) (2 : Int32).toNatClampNeg 1) (1100 : Int32).toNatClampNeg 1) (1101 : Int32).toNatClampNeg 1) (1102 : Int32).toNatClampNeg 0) (1103 : Int32).toNatClampNeg (nI j)) (1104 : Int32).toNatClampNeg 0) (1105 : Int32).toNatClampNeg 0) (6100 : Int32).toNatClampNeg 1) (6101 : Int32).toNatClampNeg (nI j))))) := by
  refine Ct.of (by decide) (Nat.le_of_ble_eq_true rfl) ⟨Nat.le_refl _, Nat.le_refl _⟩ ?_
  show Go l G mX10_of _ 0 [(0, .ref (G.2.1 + 32)), (1, .int 0), (2, .int 1)] [] n k (va_up w (G.2.1 + 33) (ai G 26100 (upd (upd (upd (upd (upd (upd (upd (upd (upd (upd (sx 256) (1 : Int32).toNatClampNeg 1) (2 : Int32).toNatClampNeg 1) (1100 : Int32).toNatClampNeg 1) (1101 : Int32).toNatClampNeg 1) (1102 : Int32).toNatClampNeg 0) (1103 : Int32).toNatClampNeg (nI j)) (1104 : Int32).toNatClampNeg 0) (1105 : Int32).toNatClampNeg 0) (6100 : Int32).toNatClampNeg 1) (6101 : Int32).toNatClampNeg (nI j))))
  refine go_aload_n (pc := 0) dX10_of_0 rfl rfl ?_
  refine go_get (pc := 1) fX10_9 rfl (gz_b (by omega)) ((va_up_ne _ _ (gz_ne (by decide))).trans ((hw 32 (by decide) (by decide)).trans (wl_at (i := 32) rfl))) rfl dX10_of_1 ?_
  refine go_sipush (pc := 4) (v := 1100) dX10_of_4 (by decide) ?_
  refine go_bipush (pc := 7) (v := 10) dX10_of_7 (by decide) ?_
  refine go_iload_n (pc := 9) dX10_of_9 rfl rfl ?_
  refine go_imul (pc := 10) dX10_of_10 ?_
  refine go_top (y := 0) (by decide) ?_
  refine go_iadd (pc := 11) dX10_of_11 ?_
  refine go_top (y := 1100) (by decide) ?_
  refine go_iload_n (pc := 12) dX10_of_12 rfl rfl ?_
  refine go_iadd (pc := 13) dX10_of_13 ?_
  refine go_top (y := 1101) (by decide) ?_
  refine go_iald (pc := 14) (gz_b (by omega)) (va_up_self _ _ _) (gv_in (by decide)) dX10_of_14 ?_
  refine go_top (y := 1) rfl ?_
  exact go_iret (pc := 15) rfl dX10_of_15
set_option maxRecDepth 100000 in
set_option maxHeartbeats 4000000 in
theorem cX10_of_12 {l : Launch} {G : gG} (j : Nat) (hj : j ≤ 254) {n k : Nat} {w : Nat → va_E} (hn : 42 ≤ n) (hw : ∀ i, 32 ≤ i → i < 42 → w (G.2.1 + i) = wl G.2.1 (LF G) (G.2.1 + i)) : Ct l G mX10_of 0 0 [.ref (G.2.1 + 32), .int 0, .int 3] n k (va_up w (G.2.1 + 33) (ai G 26100 (upd (upd (upd (upd (upd (upd (upd (upd (upd (upd (sx 256) (1 : Int32).toNatClampNeg 1) (2 : Int32).toNatClampNeg 1) (1100 : Int32).toNatClampNeg 1) (1101 : Int32).toNatClampNeg 1) (1102 : Int32).toNatClampNeg 0) (1103 : Int32).toNatClampNeg (nI j)) (1104 : Int32).toNatClampNeg 0) (1105 : Int32).toNatClampNeg 0) (6100 : Int32).toNatClampNeg 1) (6101 : Int32).toNatClampNeg (nI j)))) (some (.int (nI j)), n, k, (va_up w (G.2.1 + 33) (ai G 26100 (upd (upd (upd (upd (upd (upd (upd (upd (upd (upd (sx 256) (1 : Int32).toNatClampNeg 1) (2 : Int32).toNatClampNeg 1) (1100 : Int32).toNatClampNeg 1) (1101 : Int32).toNatClampNeg 1) (1102 : Int32).toNatClampNeg 0) (1103 : Int32).toNatClampNeg (nI j)) (1104 : Int32).toNatClampNeg 0) (1105 : Int32).toNatClampNeg 0) (6100 : Int32).toNatClampNeg 1) (6101 : Int32).toNatClampNeg (nI j))))) := by
  refine Ct.of (by decide) (Nat.le_of_ble_eq_true rfl) ⟨Nat.le_refl _, Nat.le_refl _⟩ ?_
  show Go l G mX10_of _ 0 [(0, .ref (G.2.1 + 32)), (1, .int 0), (2, .int 3)] [] n k (va_up w (G.2.1 + 33) (ai G 26100 (upd (upd (upd (upd (upd (upd (upd (upd (upd (upd (sx 256) (1 : Int32).toNatClampNeg 1) (2 : Int32).toNatClampNeg 1) (1100 : Int32).toNatClampNeg 1) (1101 : Int32).toNatClampNeg 1) (1102 : Int32).toNatClampNeg 0) (1103 : Int32).toNatClampNeg (nI j)) (1104 : Int32).toNatClampNeg 0) (1105 : Int32).toNatClampNeg 0) (6100 : Int32).toNatClampNeg 1) (6101 : Int32).toNatClampNeg (nI j))))
  refine go_aload_n (pc := 0) dX10_of_0 rfl rfl ?_
  refine go_get (pc := 1) fX10_9 rfl (gz_b (by omega)) ((va_up_ne _ _ (gz_ne (by decide))).trans ((hw 32 (by decide) (by decide)).trans (wl_at (i := 32) rfl))) rfl dX10_of_1 ?_
  refine go_sipush (pc := 4) (v := 1100) dX10_of_4 (by decide) ?_
  refine go_bipush (pc := 7) (v := 10) dX10_of_7 (by decide) ?_
  refine go_iload_n (pc := 9) dX10_of_9 rfl rfl ?_
  refine go_imul (pc := 10) dX10_of_10 ?_
  refine go_top (y := 0) (by decide) ?_
  refine go_iadd (pc := 11) dX10_of_11 ?_
  refine go_top (y := 1100) (by decide) ?_
  refine go_iload_n (pc := 12) dX10_of_12 rfl rfl ?_
  refine go_iadd (pc := 13) dX10_of_13 ?_
  refine go_top (y := 1103) (by decide) ?_
  refine go_iald (pc := 14) (gz_b (by omega)) (va_up_self _ _ _) (gv_in (by decide)) dX10_of_14 ?_
  refine go_top (y := nI j) rfl ?_
  exact go_iret (pc := 15) rfl dX10_of_15
set_option maxRecDepth 100000 in
set_option maxHeartbeats 4000000 in
theorem cX10_linksOf_4 {l : Launch} {G : gG} (j : Nat) (hj : j ≤ 254) {n k : Nat} {w : Nat → va_E} (hn : 42 ≤ n) (hw : ∀ i, 32 ≤ i → i < 42 → w (G.2.1 + i) = wl G.2.1 (LF G) (G.2.1 + i)) : Ct l G mX10_linksOf 1 22 [.ref (G.2.1 + 32), .int 0] n k (va_up w (G.2.1 + 33) (ai G 26100 (upd (upd (upd (upd (upd (upd (upd (upd (upd (upd (sx 256) (1 : Int32).toNatClampNeg 1) (2 : Int32).toNatClampNeg 1) (1100 : Int32).toNatClampNeg 1) (1101 : Int32).toNatClampNeg 1) (1102 : Int32).toNatClampNeg 0) (1103 : Int32).toNatClampNeg (nI j)) (1104 : Int32).toNatClampNeg 0) (1105 : Int32).toNatClampNeg 0) (6100 : Int32).toNatClampNeg 1) (6101 : Int32).toNatClampNeg (nI j)))) (some (.int (nI j)), n, k, (va_up w (G.2.1 + 33) (ai G 26100 (upd (upd (upd (upd (upd (upd (upd (upd (upd (upd (sx 256) (1 : Int32).toNatClampNeg 1) (2 : Int32).toNatClampNeg 1) (1100 : Int32).toNatClampNeg 1) (1101 : Int32).toNatClampNeg 1) (1102 : Int32).toNatClampNeg 0) (1103 : Int32).toNatClampNeg (nI j)) (1104 : Int32).toNatClampNeg 0) (1105 : Int32).toNatClampNeg 0) (6100 : Int32).toNatClampNeg 1) (6101 : Int32).toNatClampNeg (nI j))))) := by
  refine Ct.of (by decide) (Nat.le_of_ble_eq_true rfl) ⟨Nat.le_refl _, Nat.le_refl _⟩ ?_
  show Go l G mX10_linksOf _ 0 [(0, .ref (G.2.1 + 32)), (1, .int 0)] [] n k (va_up w (G.2.1 + 33) (ai G 26100 (upd (upd (upd (upd (upd (upd (upd (upd (upd (upd (sx 256) (1 : Int32).toNatClampNeg 1) (2 : Int32).toNatClampNeg 1) (1100 : Int32).toNatClampNeg 1) (1101 : Int32).toNatClampNeg 1) (1102 : Int32).toNatClampNeg 0) (1103 : Int32).toNatClampNeg (nI j)) (1104 : Int32).toNatClampNeg 0) (1105 : Int32).toNatClampNeg 0) (6100 : Int32).toNatClampNeg 1) (6101 : Int32).toNatClampNeg (nI j))))
  refine go_aload_n (pc := 0) dX10_linksOf_0 rfl rfl ?_
  refine go_iload_n (pc := 1) dX10_linksOf_1 rfl rfl ?_
  refine go_iconst (pc := 2) (v := 1) dX10_linksOf_2 (by decide) ?_
  refine go_callV_i (pc := 3) vX10_71 rfl (cX10_of_11 j hj hn hw) rfl rfl (gz_b (by omega)) ((va_up_ne _ _ (gz_ne (by decide))).trans ((hw 32 (by decide) (by decide)).trans (wl_at (i := 32) rfl))) rfl (Nat.le_of_ble_eq_true rfl) ⟨Nat.le_of_ble_eq_true rfl, Nat.le_of_ble_eq_true rfl, (Nat.le_add_right _ _), (Nat.le_add_right _ _)⟩ dX10_linksOf_3 ?_
  refine go_istore_n (pc := 6) (lv' := [(2, .int 1), (0, .ref (G.2.1 + 32)), (1, .int 0)]) dX10_linksOf_6 rfl (by decide) rfl ?_
  refine go_iload_n (pc := 7) dX10_linksOf_7 rfl rfl ?_
  refine go_if_ne_t (pc := 8) (tgt := 15) dX10_linksOf_8 (by decide) (by decide) ?_
  refine go_iload_n (pc := 15) dX10_linksOf_15 rfl rfl ?_
  refine go_iconst (pc := 16) (v := 3) dX10_linksOf_16 (by decide) ?_
  refine go_icmp_eq_f (pc := 17) (tgt := 25) dX10_linksOf_17 (by decide) (by decide) ?_
  refine go_iload_n (pc := 20) dX10_linksOf_20 rfl rfl ?_
  refine go_iconst (pc := 21) (v := 4) dX10_linksOf_21 (by decide) ?_
  refine go_icmp_ne_t (pc := 22) (tgt := 29) dX10_linksOf_22 (by decide) (by decide) ?_
  refine go_iload_n (pc := 29) dX10_linksOf_29 rfl rfl ?_
  refine go_iconst (pc := 30) (v := 2) dX10_linksOf_30 (by decide) ?_
  refine go_icmp_ne_t (pc := 31) (tgt := 38) dX10_linksOf_31 (by decide) (by decide) ?_
  refine go_aload_n (pc := 38) dX10_linksOf_38 rfl rfl ?_
  refine go_iload_n (pc := 39) dX10_linksOf_39 rfl rfl ?_
  refine go_iconst (pc := 40) (v := 3) dX10_linksOf_40 (by decide) ?_
  refine go_callV_i (pc := 41) vX10_71 rfl (cX10_of_12 j hj hn hw) rfl rfl (gz_b (by omega)) ((va_up_ne _ _ (gz_ne (by decide))).trans ((hw 32 (by decide) (by decide)).trans (wl_at (i := 32) rfl))) rfl (Nat.le_of_ble_eq_true rfl) ⟨Nat.le_of_ble_eq_true rfl, Nat.le_of_ble_eq_true rfl, (Nat.le_add_right _ _), (Nat.le_add_right _ _)⟩ dX10_linksOf_41 ?_
  exact go_iret (pc := 44) rfl dX10_linksOf_44
set_option maxRecDepth 100000 in
set_option maxHeartbeats 4000000 in
theorem cX10_makes_6 {l : Launch} {G : gG} (j : Nat) (hj : j ≤ 254) (k0 : nI j ≤ 300) (k1 : 0 ≤ nI j) (k4 : ¬ nI j < 0) (k2 : 2 + (nI j) ≤ 256) {n k : Nat} {w : Nat → va_E} (hn : 42 ≤ n) (hw : ∀ i, 32 ≤ i → i < 42 → w (G.2.1 + i) = wl G.2.1 (LF G) (G.2.1 + i)) : Ct l G mX10_makes 2 45 [.ref (G.2.1 + 32), .int 1, .int (nI j)] n k w (some (.int 0), n, k, (va_up w (G.2.1 + 33) (ai G 26100 (upd (fun q => if 6102 ≤ q ∧ q < 6102 + j then (-1) else (upd (upd (upd (upd (upd (upd (upd (upd (upd (upd (sx 256) (1 : Int32).toNatClampNeg 1) (2 : Int32).toNatClampNeg 1) (1100 : Int32).toNatClampNeg 1) (1101 : Int32).toNatClampNeg 1) (1102 : Int32).toNatClampNeg 0) (1103 : Int32).toNatClampNeg (nI j)) (1104 : Int32).toNatClampNeg 0) (1105 : Int32).toNatClampNeg 0) (6100 : Int32).toNatClampNeg 1) (6101 : Int32).toNatClampNeg (nI j)) q) (16 : Int32).toNatClampNeg (0 + (2 + (nI j))))))) := by
  refine Ct.of (by decide) (Nat.le_of_ble_eq_true rfl) ⟨Nat.le_refl _, Nat.le_refl _⟩ ?_
  show Go l G mX10_makes _ 0 [(0, .ref (G.2.1 + 32)), (1, .int 1), (2, .int (nI j))] [] n k w
  refine go_iload_n (pc := 0) dX10_makes_0 rfl rfl ?_
  refine go_callS_i (pc := 1) sX10_138 rfl (cX10_hasMany_8 hn hw) rfl rfl (Nat.le_of_ble_eq_true rfl) ⟨Nat.le_of_ble_eq_true rfl, Nat.le_of_ble_eq_true rfl, (Nat.le_add_right _ _), (Nat.le_add_right _ _)⟩ dX10_makes_1 ?_
  refine go_if_eq_f (pc := 4) (tgt := 11) dX10_makes_4 (by decide) (by decide) ?_
  refine go_iload_n (pc := 7) dX10_makes_7 rfl rfl ?_
  refine go_goto (pc := 8) (tgt := 12) dX10_makes_8 (by decide) ?_
  refine go_istore_n (pc := 12) (lv' := [(3, .int (nI j)), (0, .ref (G.2.1 + 32)), (1, .int 1), (2, .int (nI j))]) dX10_makes_12 rfl (by decide) rfl ?_
  refine go_iload_n (pc := 13) dX10_makes_13 rfl rfl ?_
  refine go_if_ge_t (pc := 14) (tgt := 22) dX10_makes_14 (by decide) k1 ?_
  refine go_aload_n (pc := 22) dX10_makes_22 rfl rfl ?_
  refine go_get (pc := 23) fX10_9 rfl (gz_b (by omega)) ((hw 32 (by decide) (by decide)).trans (wl_at (i := 32) rfl)) rfl dX10_makes_23 ?_
  refine go_iconst (pc := 26) (v := 1) dX10_makes_26 (by decide) ?_
  refine go_iald (pc := 27) (gz_b (by omega)) ((hw 33 (by decide) (by decide)).trans (wl_at (i := 33) rfl)) (gv_in (by decide)) dX10_makes_27 ?_
  refine go_top (y := 0) rfl ?_
  refine go_sipush (pc := 28) (v := 500) dX10_makes_28 (by decide) ?_
  refine go_icmp_ne_t (pc := 31) (tgt := 40) dX10_makes_31 (by decide) (by decide) ?_
  refine go_iload_n (pc := 40) dX10_makes_40 rfl rfl ?_
  refine go_iload_n (pc := 41) dX10_makes_41 rfl rfl ?_
  refine go_callS_i (pc := 42) sX10_75 rfl (cX10_sizeOf_5 j hj hn hw) rfl rfl (Nat.le_of_ble_eq_true rfl) ⟨Nat.le_of_ble_eq_true rfl, Nat.le_of_ble_eq_true rfl, (Nat.le_add_right _ _), (Nat.le_add_right _ _)⟩ dX10_makes_42 ?_
  refine go_istore (pc := 45) (lv' := [(4, .int (2 + (nI j))), (3, .int (nI j)), (0, .ref (G.2.1 + 32)), (1, .int 1), (2, .int (nI j))]) dX10_makes_45 (by decide) rfl ?_
  refine go_iload (pc := 47) dX10_makes_47 rfl ?_
  refine go_aload_n (pc := 49) dX10_makes_49 rfl rfl ?_
  refine go_get (pc := 50) fX10_9 rfl (gz_b (by omega)) ((hw 32 (by decide) (by decide)).trans (wl_at (i := 32) rfl)) rfl dX10_makes_50 ?_
  refine go_iconst (pc := 53) (v := 0) dX10_makes_53 (by decide) ?_
  refine go_iald (pc := 54) (gz_b (by omega)) ((hw 33 (by decide) (by decide)).trans (wl_at (i := 33) rfl)) (gv_in (by decide)) dX10_makes_54 ?_
  refine go_top (y := 256) rfl ?_
  refine go_aload_n (pc := 55) dX10_makes_55 rfl rfl ?_
  refine go_get (pc := 56) fX10_9 rfl (gz_b (by omega)) ((hw 32 (by decide) (by decide)).trans (wl_at (i := 32) rfl)) rfl dX10_makes_56 ?_
  refine go_bipush (pc := 59) (v := 16) dX10_makes_59 (by decide) ?_
  refine go_iald (pc := 61) (gz_b (by omega)) ((hw 33 (by decide) (by decide)).trans (wl_at (i := 33) rfl)) (gv_in (by decide)) dX10_makes_61 ?_
  refine go_top (y := 0) rfl ?_
  refine go_isub (pc := 62) dX10_makes_62 ?_
  refine go_top (y := 256) (by decide) ?_
  refine go_icmp_le_t (pc := 63) (tgt := 127) dX10_makes_63 (by decide) k2 ?_
  refine go_aload_n (pc := 127) dX10_makes_127 rfl rfl ?_
  refine go_get (pc := 128) fX10_9 rfl (gz_b (by omega)) ((hw 32 (by decide) (by decide)).trans (wl_at (i := 32) rfl)) rfl dX10_makes_128 ?_
  refine go_iconst (pc := 131) (v := 1) dX10_makes_131 (by decide) ?_
  refine go_iald (pc := 132) (gz_b (by omega)) ((hw 33 (by decide) (by decide)).trans (wl_at (i := 33) rfl)) (gv_in (by decide)) dX10_makes_132 ?_
  refine go_top (y := 0) rfl ?_
  refine go_istore (pc := 133) (lv' := [(5, .int 0), (4, .int (2 + (nI j))), (3, .int (nI j)), (0, .ref (G.2.1 + 32)), (1, .int 1), (2, .int (nI j))]) dX10_makes_133 (by decide) rfl ?_
  refine go_aload_n (pc := 135) dX10_makes_135 rfl rfl ?_
  refine go_get (pc := 136) fX10_9 rfl (gz_b (by omega)) ((hw 32 (by decide) (by decide)).trans (wl_at (i := 32) rfl)) rfl dX10_makes_136 ?_
  refine go_iconst (pc := 139) (v := 1) dX10_makes_139 (by decide) ?_
  refine go_dup2 (pc := 140) dX10_makes_140 rfl rfl ?_
  refine go_iald (pc := 141) (gz_b (by omega)) ((hw 33 (by decide) (by decide)).trans (wl_at (i := 33) rfl)) (gv_in (by decide)) dX10_makes_141 ?_
  refine go_top (y := 0) rfl ?_
  refine go_iconst (pc := 142) (v := 1) dX10_makes_142 (by decide) ?_
  refine go_iadd (pc := 143) dX10_makes_143 ?_
  refine go_top (y := 1) (by decide) ?_
  refine go_iast (pc := 144) (gz_b (by omega)) ((hw 33 (by decide) (by decide)).trans (wl_at (i := 33) rfl)) (gv_in (by decide)) dX10_makes_144 ?_
  refine go_aload_n (pc := 145) dX10_makes_145 rfl rfl ?_
  refine go_get (pc := 146) fX10_9 rfl (gz_b (by omega)) ((va_up_ne _ _ (gz_ne (by decide))).trans ((hw 32 (by decide) (by decide)).trans (wl_at (i := 32) rfl))) rfl dX10_makes_146 ?_
  refine go_iconst (pc := 149) (v := 2) dX10_makes_149 (by decide) ?_
  refine go_dup2 (pc := 150) dX10_makes_150 rfl rfl ?_
  refine go_iald (pc := 151) (gz_b (by omega)) (va_up_self _ _ _) (gv_in (by decide)) dX10_makes_151 ?_
  refine go_top (y := 0) rfl ?_
  refine go_iconst (pc := 152) (v := 1) dX10_makes_152 (by decide) ?_
  refine go_iadd (pc := 153) dX10_makes_153 ?_
  refine go_top (y := 1) (by decide) ?_
  refine go_iast (pc := 154) (gz_b (by omega)) (va_up_self _ _ _) (gv_in (by decide)) dX10_makes_154 ?_
  refine go_w (va_up_up _ _ _ _) ?_
  refine go_aload_n (pc := 155) dX10_makes_155 rfl rfl ?_
  refine go_iload (pc := 156) dX10_makes_156 rfl ?_
  refine go_iconst (pc := 158) (v := 0) dX10_makes_158 (by decide) ?_
  refine go_iconst (pc := 159) (v := 1) dX10_makes_159 (by decide) ?_
  refine go_callV_v (pc := 160) vX10_82 rfl (cX10_lets_1 hn hw) rfl rfl (gz_b (by omega)) ((va_up_ne _ _ (gz_ne (by decide))).trans ((hw 32 (by decide) (by decide)).trans (wl_at (i := 32) rfl))) rfl (Nat.le_of_ble_eq_true rfl) ⟨Nat.le_of_ble_eq_true rfl, Nat.le_of_ble_eq_true rfl, (Nat.le_add_right _ _), (Nat.le_add_right _ _)⟩ dX10_makes_160 ?_
  refine go_aload_n (pc := 163) dX10_makes_163 rfl rfl ?_
  refine go_iload (pc := 164) dX10_makes_164 rfl ?_
  refine go_iconst (pc := 166) (v := 1) dX10_makes_166 (by decide) ?_
  refine go_iload_n (pc := 167) dX10_makes_167 rfl rfl ?_
  refine go_callV_v (pc := 168) vX10_82 rfl (cX10_lets_17 hn hw) rfl rfl (gz_b (by omega)) ((va_up_ne _ _ (gz_ne (by decide))).trans ((hw 32 (by decide) (by decide)).trans (wl_at (i := 32) rfl))) rfl (Nat.le_of_ble_eq_true rfl) ⟨Nat.le_of_ble_eq_true rfl, Nat.le_of_ble_eq_true rfl, (Nat.le_add_right _ _), (Nat.le_add_right _ _)⟩ dX10_makes_168 ?_
  refine go_aload_n (pc := 171) dX10_makes_171 rfl rfl ?_
  refine go_iload (pc := 172) dX10_makes_172 rfl ?_
  refine go_iconst (pc := 174) (v := 2) dX10_makes_174 (by decide) ?_
  refine go_aload_n (pc := 175) dX10_makes_175 rfl rfl ?_
  refine go_get (pc := 176) fX10_9 rfl (gz_b (by omega)) ((va_up_ne _ _ (gz_ne (by decide))).trans ((hw 32 (by decide) (by decide)).trans (wl_at (i := 32) rfl))) rfl dX10_makes_176 ?_
  refine go_bipush (pc := 179) (v := 16) dX10_makes_179 (by decide) ?_
  refine go_iald (pc := 181) (gz_b (by omega)) (va_up_self _ _ _) (gv_in (by decide)) dX10_makes_181 ?_
  refine go_top (y := 0) rfl ?_
  refine go_callV_v (pc := 182) vX10_82 rfl (cX10_lets_18 hn hw) rfl rfl (gz_b (by omega)) ((va_up_ne _ _ (gz_ne (by decide))).trans ((hw 32 (by decide) (by decide)).trans (wl_at (i := 32) rfl))) rfl (Nat.le_of_ble_eq_true rfl) ⟨Nat.le_of_ble_eq_true rfl, Nat.le_of_ble_eq_true rfl, (Nat.le_add_right _ _), (Nat.le_add_right _ _)⟩ dX10_makes_182 ?_
  refine go_aload_n (pc := 185) dX10_makes_185 rfl rfl ?_
  refine go_iload (pc := 186) dX10_makes_186 rfl ?_
  refine go_iconst (pc := 188) (v := 3) dX10_makes_188 (by decide) ?_
  refine go_iload_n (pc := 189) dX10_makes_189 rfl rfl ?_
  refine go_callV_v (pc := 190) vX10_82 rfl (cX10_lets_19 j hj hn hw) rfl rfl (gz_b (by omega)) ((va_up_ne _ _ (gz_ne (by decide))).trans ((hw 32 (by decide) (by decide)).trans (wl_at (i := 32) rfl))) rfl (Nat.le_of_ble_eq_true rfl) ⟨Nat.le_of_ble_eq_true rfl, Nat.le_of_ble_eq_true rfl, (Nat.le_add_right _ _), (Nat.le_add_right _ _)⟩ dX10_makes_190 ?_
  refine go_aload_n (pc := 193) dX10_makes_193 rfl rfl ?_
  refine go_iload (pc := 194) dX10_makes_194 rfl ?_
  refine go_iconst (pc := 196) (v := 4) dX10_makes_196 (by decide) ?_
  refine go_iconst (pc := 197) (v := 0) dX10_makes_197 (by decide) ?_
  refine go_callV_v (pc := 198) vX10_82 rfl (cX10_lets_20 j hj hn hw) rfl rfl (gz_b (by omega)) ((va_up_ne _ _ (gz_ne (by decide))).trans ((hw 32 (by decide) (by decide)).trans (wl_at (i := 32) rfl))) rfl (Nat.le_of_ble_eq_true rfl) ⟨Nat.le_of_ble_eq_true rfl, Nat.le_of_ble_eq_true rfl, (Nat.le_add_right _ _), (Nat.le_add_right _ _)⟩ dX10_makes_198 ?_
  refine go_aload_n (pc := 201) dX10_makes_201 rfl rfl ?_
  refine go_iload (pc := 202) dX10_makes_202 rfl ?_
  refine go_iconst (pc := 204) (v := 5) dX10_makes_204 (by decide) ?_
  refine go_iconst (pc := 205) (v := 0) dX10_makes_205 (by decide) ?_
  refine go_callV_v (pc := 206) vX10_82 rfl (cX10_lets_21 j hj hn hw) rfl rfl (gz_b (by omega)) ((va_up_ne _ _ (gz_ne (by decide))).trans ((hw 32 (by decide) (by decide)).trans (wl_at (i := 32) rfl))) rfl (Nat.le_of_ble_eq_true rfl) ⟨Nat.le_of_ble_eq_true rfl, Nat.le_of_ble_eq_true rfl, (Nat.le_add_right _ _), (Nat.le_add_right _ _)⟩ dX10_makes_206 ?_
  refine go_aload_n (pc := 209) dX10_makes_209 rfl rfl ?_
  refine go_get (pc := 210) fX10_9 rfl (gz_b (by omega)) ((va_up_ne _ _ (gz_ne (by decide))).trans ((hw 32 (by decide) (by decide)).trans (wl_at (i := 32) rfl))) rfl dX10_makes_210 ?_
  refine go_sipush (pc := 213) (v := 6100) dX10_makes_213 (by decide) ?_
  refine go_aload_n (pc := 216) dX10_makes_216 rfl rfl ?_
  refine go_get (pc := 217) fX10_9 rfl (gz_b (by omega)) ((va_up_ne _ _ (gz_ne (by decide))).trans ((hw 32 (by decide) (by decide)).trans (wl_at (i := 32) rfl))) rfl dX10_makes_217 ?_
  refine go_bipush (pc := 220) (v := 16) dX10_makes_220 (by decide) ?_
  refine go_iald (pc := 222) (gz_b (by omega)) (va_up_self _ _ _) (gv_in (by decide)) dX10_makes_222 ?_
  refine go_top (y := 0) rfl ?_
  refine go_iadd (pc := 223) dX10_makes_223 ?_
  refine go_top (y := 6100) (by decide) ?_
  refine go_bipush (pc := 224) (v := 8) dX10_makes_224 (by decide) ?_
  refine go_iload (pc := 226) dX10_makes_226 rfl ?_
  refine go_imul (pc := 228) dX10_makes_228 ?_
  refine go_top (y := 0) (by decide) ?_
  refine go_iload_n (pc := 229) dX10_makes_229 rfl rfl ?_
  refine go_iadd (pc := 230) dX10_makes_230 ?_
  refine go_top (y := 1) (by decide) ?_
  refine go_iast (pc := 231) (gz_b (by omega)) (va_up_self _ _ _) (gv_in (by decide)) dX10_makes_231 ?_
  refine go_w (va_up_up _ _ _ _) ?_
  refine go_iload_n (pc := 232) dX10_makes_232 rfl rfl ?_
  refine go_callS_i (pc := 233) sX10_138 rfl (cX10_hasMany_9 j hj hn hw) rfl rfl (Nat.le_of_ble_eq_true rfl) ⟨Nat.le_of_ble_eq_true rfl, Nat.le_of_ble_eq_true rfl, (Nat.le_add_right _ _), (Nat.le_add_right _ _)⟩ dX10_makes_233 ?_
  refine go_if_eq_f (pc := 236) (tgt := 258) dX10_makes_236 (by decide) (by decide) ?_
  refine go_aload_n (pc := 239) dX10_makes_239 rfl rfl ?_
  refine go_get (pc := 240) fX10_9 rfl (gz_b (by omega)) ((va_up_ne _ _ (gz_ne (by decide))).trans ((hw 32 (by decide) (by decide)).trans (wl_at (i := 32) rfl))) rfl dX10_makes_240 ?_
  refine go_sipush (pc := 243) (v := 6100) dX10_makes_243 (by decide) ?_
  refine go_aload_n (pc := 246) dX10_makes_246 rfl rfl ?_
  refine go_get (pc := 247) fX10_9 rfl (gz_b (by omega)) ((va_up_ne _ _ (gz_ne (by decide))).trans ((hw 32 (by decide) (by decide)).trans (wl_at (i := 32) rfl))) rfl dX10_makes_247 ?_
  refine go_bipush (pc := 250) (v := 16) dX10_makes_250 (by decide) ?_
  refine go_iald (pc := 252) (gz_b (by omega)) (va_up_self _ _ _) (gv_in (by decide)) dX10_makes_252 ?_
  refine go_top (y := 0) rfl ?_
  refine go_iadd (pc := 253) dX10_makes_253 ?_
  refine go_top (y := 6100) (by decide) ?_
  refine go_iconst (pc := 254) (v := 1) dX10_makes_254 (by decide) ?_
  refine go_iadd (pc := 255) dX10_makes_255 ?_
  refine go_top (y := 6101) (by decide) ?_
  refine go_iload_n (pc := 256) dX10_makes_256 rfl rfl ?_
  refine go_iast (pc := 257) (gz_b (by omega)) (va_up_self _ _ _) (gv_in (by decide)) dX10_makes_257 ?_
  refine go_w (va_up_up _ _ _ _) ?_
  refine go_aload_n (pc := 258) dX10_makes_258 rfl rfl ?_
  refine go_iload (pc := 259) dX10_makes_259 rfl ?_
  refine go_callV_i (pc := 261) vX10_90 rfl (cX10_linksOf_4 j hj hn hw) rfl rfl (gz_b (by omega)) ((va_up_ne _ _ (gz_ne (by decide))).trans ((hw 32 (by decide) (by decide)).trans (wl_at (i := 32) rfl))) rfl (Nat.le_of_ble_eq_true rfl) ⟨Nat.le_of_ble_eq_true rfl, Nat.le_of_ble_eq_true rfl, (Nat.le_add_right _ _), (Nat.le_add_right _ _)⟩ dX10_makes_261 ?_
  refine go_istore (pc := 264) (lv' := [(6, .int (nI j)), (5, .int 0), (4, .int (2 + (nI j))), (3, .int (nI j)), (0, .ref (G.2.1 + 32)), (1, .int 1), (2, .int (nI j))]) dX10_makes_264 (by decide) rfl ?_
  refine go_iconst (pc := 266) (v := 0) dX10_makes_266 (by decide) ?_
  refine go_istore (pc := 267) (lv' := [(7, .int 0), (6, .int (nI j)), (5, .int 0), (4, .int (2 + (nI j))), (3, .int (nI j)), (0, .ref (G.2.1 + 32)), (1, .int 1), (2, .int (nI j))]) dX10_makes_267 (by decide) rfl ?_
  refine go_arr (g := fun q => if 6102 ≤ q ∧ q < 6102 + 0 then (-1) else (upd (upd (upd (upd (upd (upd (upd (upd (upd (upd (sx 256) (1 : Int32).toNatClampNeg 1) (2 : Int32).toNatClampNeg 1) (1100 : Int32).toNatClampNeg 1) (1101 : Int32).toNatClampNeg 1) (1102 : Int32).toNatClampNeg 0) (1103 : Int32).toNatClampNeg (nI j)) (1104 : Int32).toNatClampNeg 0) (1105 : Int32).toNatClampNeg 0) (6100 : Int32).toNatClampNeg 1) (6101 : Int32).toNatClampNeg (nI j)) q) (fun q _ => (if_neg (by omega)).symm) ?_
  refine makes_loop_1 (n := n) (k := k) (a := G.2.1 + 32) (b := G.2.1 + 33) (b1 := G.2.1 + 34) (b2 := G.2.1 + 35) (b8 := G.2.1 + 36) (b9 := G.2.1 + 37) (b10 := G.2.1 + 38) (b11 := G.2.1 + 39) (b13 := G.2.1 + 40) (b15 := G.2.1 + 41) (f3 := 0) (f4 := 0) (f5 := 0) (f6 := 0) (f7 := 0) (f12 := 0) (f14 := 0) (f := (upd (upd (upd (upd (upd (upd (upd (upd (upd (upd (sx 256) (1 : Int32).toNatClampNeg 1) (2 : Int32).toNatClampNeg 1) (1100 : Int32).toNatClampNeg 1) (1101 : Int32).toNatClampNeg 1) (1102 : Int32).toNatClampNeg 0) (1103 : Int32).toNatClampNeg (nI j)) (1104 : Int32).toNatClampNeg 0) (1105 : Int32).toNatClampNeg 0) (6100 : Int32).toNatClampNeg 1) (6101 : Int32).toNatClampNeg (nI j))) hj (Nat.le_of_ble_eq_true rfl) (Nat.le_of_ble_eq_true rfl) ⟨Nat.le_add_right _ _, Nat.le_add_right _ _⟩ rfl rfl (gz_b (by omega)) (gz_b (by omega)) (gz_ne (by decide)) ((hw 32 (by decide) (by decide)).trans (wl_at (i := 32) rfl)) ?_ j 0 (Nat.sub_zero j) (Nat.zero_le j)
  refine go_iload_n (pc := 296) dX10_makes_296 rfl rfl ?_
  refine go_iconst (pc := 297) (v := 3) dX10_makes_297 (by decide) ?_
  refine go_icmp_eq_f (pc := 298) (tgt := 306) dX10_makes_298 (by decide) (by decide) ?_
  refine go_iload_n (pc := 301) dX10_makes_301 rfl rfl ?_
  refine go_iconst (pc := 302) (v := 4) dX10_makes_302 (by decide) ?_
  refine go_icmp_ne_t (pc := 303) (tgt := 318) dX10_makes_303 (by decide) (by decide) ?_
  refine go_aload_n (pc := 318) dX10_makes_318 rfl rfl ?_
  refine go_get (pc := 319) fX10_9 rfl (gz_b (by omega)) ((va_up_ne _ _ (gz_ne (by decide))).trans ((hw 32 (by decide) (by decide)).trans (wl_at (i := 32) rfl))) rfl dX10_makes_319 ?_
  refine go_bipush (pc := 322) (v := 16) dX10_makes_322 (by decide) ?_
  refine go_dup2 (pc := 324) dX10_makes_324 rfl rfl ?_
  refine go_iald (pc := 325) (gz_b (by omega)) (va_up_self _ _ _) (gv_in (by decide)) dX10_makes_325 ?_
  refine go_top (y := 0) rfl ?_
  refine go_iload (pc := 326) dX10_makes_326 rfl ?_
  refine go_iadd (pc := 328) dX10_makes_328 ?_
  refine go_iast (pc := 329) (gz_b (by omega)) (va_up_self _ _ _) (gv_in (by decide)) dX10_makes_329 ?_
  refine go_w (va_up_up _ _ _ _) ?_
  refine go_aload_n (pc := 330) dX10_makes_330 rfl rfl ?_
  refine go_get (pc := 331) fX10_9 rfl (gz_b (by omega)) ((va_up_ne _ _ (gz_ne (by decide))).trans ((hw 32 (by decide) (by decide)).trans (wl_at (i := 32) rfl))) rfl dX10_makes_331 ?_
  refine go_iconst (pc := 334) (v := 3) dX10_makes_334 (by decide) ?_
  refine go_iald (pc := 335) (gz_b (by omega)) (va_up_self _ _ _) (gv_in (by decide)) dX10_makes_335 ?_
  refine go_top (y := 0) rfl ?_
  refine go_iconst (pc := 336) (v := 1) dX10_makes_336 (by decide) ?_
  refine go_icmp_ne_t (pc := 337) (tgt := 349) dX10_makes_337 (by decide) (by decide) ?_
  refine go_iload (pc := 349) dX10_makes_349 rfl ?_
  exact go_iret (pc := 351) rfl dX10_makes_351
set_option maxRecDepth 100000 in
set_option maxHeartbeats 4000000 in
theorem cX10_answers_8 {l : Launch} {G : gG} (j : Nat) (hj : j ≤ 254) {n k : Nat} {w : Nat → va_E} (hn : 42 ≤ n) (hw : ∀ i, 32 ≤ i → i < 42 → w (G.2.1 + i) = wl G.2.1 (LF G) (G.2.1 + i)) : Ct l G mX10_answers 1 25 [.ref (G.2.1 + 32), .int 0] n k (va_up w (G.2.1 + 33) (ai G 26100 (upd (fun q => if 6102 ≤ q ∧ q < 6102 + j then (-1) else (upd (upd (upd (upd (upd (upd (upd (upd (upd (upd (sx 256) (1 : Int32).toNatClampNeg 1) (2 : Int32).toNatClampNeg 1) (1100 : Int32).toNatClampNeg 1) (1101 : Int32).toNatClampNeg 1) (1102 : Int32).toNatClampNeg 0) (1103 : Int32).toNatClampNeg (nI j)) (1104 : Int32).toNatClampNeg 0) (1105 : Int32).toNatClampNeg 0) (6100 : Int32).toNatClampNeg 1) (6101 : Int32).toNatClampNeg (nI j)) q) (16 : Int32).toNatClampNeg (0 + (2 + (nI j)))))) (some (.int 0), n, k, (va_up (va_up w (G.2.1 + 33) (ai G 26100 (upd (fun q => if 6102 ≤ q ∧ q < 6102 + j then (-1) else (upd (upd (upd (upd (upd (upd (upd (upd (upd (upd (sx 256) (1 : Int32).toNatClampNeg 1) (2 : Int32).toNatClampNeg 1) (1100 : Int32).toNatClampNeg 1) (1101 : Int32).toNatClampNeg 1) (1102 : Int32).toNatClampNeg 0) (1103 : Int32).toNatClampNeg (nI j)) (1104 : Int32).toNatClampNeg 0) (1105 : Int32).toNatClampNeg 0) (6100 : Int32).toNatClampNeg 1) (6101 : Int32).toNatClampNeg (nI j)) q) (16 : Int32).toNatClampNeg (0 + (2 + (nI j)))))) (G.2.1 + 32) (ob 10 [.ref (G.2.1 + 33), .ref (G.2.1 + 34), .ref (G.2.1 + 35), .int 0, .int 0, .int 0, .int 0, .int 0, .ref (G.2.1 + 36), .ref (G.2.1 + 37), .ref (G.2.1 + 38), .ref (G.2.1 + 39), .int 0, .ref (G.2.1 + 40), .int 0, .ref (G.2.1 + 41)]))) := by
  refine Ct.of (by decide) (Nat.le_of_ble_eq_true rfl) ⟨Nat.le_refl _, Nat.le_refl _⟩ ?_
  show Go l G mX10_answers _ 0 [(0, .ref (G.2.1 + 32)), (1, .int 0)] [] n k (va_up w (G.2.1 + 33) (ai G 26100 (upd (fun q => if 6102 ≤ q ∧ q < 6102 + j then (-1) else (upd (upd (upd (upd (upd (upd (upd (upd (upd (upd (sx 256) (1 : Int32).toNatClampNeg 1) (2 : Int32).toNatClampNeg 1) (1100 : Int32).toNatClampNeg 1) (1101 : Int32).toNatClampNeg 1) (1102 : Int32).toNatClampNeg 0) (1103 : Int32).toNatClampNeg (nI j)) (1104 : Int32).toNatClampNeg 0) (1105 : Int32).toNatClampNeg 0) (6100 : Int32).toNatClampNeg 1) (6101 : Int32).toNatClampNeg (nI j)) q) (16 : Int32).toNatClampNeg (0 + (2 + (nI j))))))
  refine go_aload_n (pc := 0) dX10_answers_0 rfl rfl ?_
  refine go_iload_n (pc := 1) dX10_answers_1 rfl rfl ?_
  refine go_i2l (pc := 2) dX10_answers_2 ?_
  refine go_topl (y := 0) (by decide) ?_
  refine go_ldc2 (pc := 3) rfl qX10_78 dX10_answers_3 ?_
  refine go_ldc2 (pc := 6) rfl qX10_80 dX10_answers_6 ?_
  refine go_callS_i (pc := 9) sX10_63 rfl (ct_in 0 ((-18)) ((-11))) rfl rfl (Nat.le_of_ble_eq_true rfl) ⟨Nat.le_of_ble_eq_true rfl, Nat.le_of_ble_eq_true rfl, (Nat.le_add_right _ _), (Nat.le_add_right _ _)⟩ dX10_answers_9 ?_
  refine go_top (y := 0) (by decide) ?_
  refine go_if_eq_t (pc := 12) (tgt := 22) dX10_answers_12 (by decide) (by decide) ?_
  refine go_iconst (pc := 22) (v := 0) dX10_answers_22 (by decide) ?_
  refine go_put (pc := 23) fX10_49 rfl (gz_b (by omega)) ((va_up_ne _ _ (gz_ne (by decide))).trans ((hw 32 (by decide) (by decide)).trans (wl_at (i := 32) rfl))) (Nat.le_of_ble_eq_true rfl) rfl rfl dX10_answers_23 ?_
  refine go_iload_n (pc := 26) dX10_answers_26 rfl rfl ?_
  exact go_iret (pc := 27) rfl dX10_answers_27
set_option maxRecDepth 100000 in
set_option maxHeartbeats 4000000 in
theorem cm_make_1d_o {l : Launch} {G : gG} (j : Nat) (hj : j ≤ 254) (k0 : nI j ≤ 300) (k1 : 0 ≤ nI j) (k4 : ¬ nI j < 0) (k2 : 2 + (nI j) ≤ 256) {n k : Nat} {w : Nat → va_E} (hn : 42 ≤ n) (hw : ∀ i, 32 ≤ i → i < 42 → w (G.2.1 + i) = wl G.2.1 (LF G) (G.2.1 + i)) : Ct l G mX10_make 3 72 [.ref (G.2.1 + 32), .int 1, .int (nI j)] n k w (some (.int 0), n, k, (va_up (va_up w (G.2.1 + 33) (ai G 26100 (upd (fun q => if 6102 ≤ q ∧ q < 6102 + j then (-1) else (upd (upd (upd (upd (upd (upd (upd (upd (upd (upd (sx 256) (1 : Int32).toNatClampNeg 1) (2 : Int32).toNatClampNeg 1) (1100 : Int32).toNatClampNeg 1) (1101 : Int32).toNatClampNeg 1) (1102 : Int32).toNatClampNeg 0) (1103 : Int32).toNatClampNeg (nI j)) (1104 : Int32).toNatClampNeg 0) (1105 : Int32).toNatClampNeg 0) (6100 : Int32).toNatClampNeg 1) (6101 : Int32).toNatClampNeg (nI j)) q) (16 : Int32).toNatClampNeg (0 + (2 + (nI j)))))) (G.2.1 + 32) (ob 10 [.ref (G.2.1 + 33), .ref (G.2.1 + 34), .ref (G.2.1 + 35), .int 0, .int 0, .int 0, .int 0, .int 0, .ref (G.2.1 + 36), .ref (G.2.1 + 37), .ref (G.2.1 + 38), .ref (G.2.1 + 39), .int 0, .ref (G.2.1 + 40), .int 0, .ref (G.2.1 + 41)]))) := by
  refine Ct.of (by decide) (Nat.le_of_ble_eq_true rfl) ⟨Nat.le_refl _, Nat.le_refl _⟩ ?_
  show Go l G mX10_make _ 0 [(0, .ref (G.2.1 + 32)), (1, .int 1), (2, .int (nI j))] [] n k w
  refine go_iload_n (pc := 0) dX10_make_0 rfl rfl ?_
  refine go_i2l (pc := 1) dX10_make_1 ?_
  refine go_topl (y := 1) (by decide) ?_
  refine go_lconst (pc := 2) (v := 0) dX10_make_2 (by decide) ?_
  refine go_ldc2 (pc := 3) rfl qX10_150 dX10_make_3 ?_
  refine go_callS_i (pc := 6) sX10_63 rfl (ct_in 1 0 5) rfl rfl (Nat.le_of_ble_eq_true rfl) ⟨Nat.le_of_ble_eq_true rfl, Nat.le_of_ble_eq_true rfl, (Nat.le_add_right _ _), (Nat.le_add_right _ _)⟩ dX10_make_6 ?_
  refine go_top (y := 1) (by decide) ?_
  refine go_if_eq_f (pc := 9) (tgt := 26) dX10_make_9 (by decide) (by decide) ?_
  refine go_iload_n (pc := 12) dX10_make_12 rfl rfl ?_
  refine go_callS_i (pc := 13) sX10_138 rfl (cX10_hasMany_8 hn hw) rfl rfl (Nat.le_of_ble_eq_true rfl) ⟨Nat.le_of_ble_eq_true rfl, Nat.le_of_ble_eq_true rfl, (Nat.le_add_right _ _), (Nat.le_add_right _ _)⟩ dX10_make_13 ?_
  refine go_if_eq_f (pc := 16) (tgt := 29) dX10_make_16 (by decide) (by decide) ?_
  refine go_iload_n (pc := 19) dX10_make_19 rfl rfl ?_
  refine go_sipush (pc := 20) (v := 300) dX10_make_20 (by decide) ?_
  refine go_icmp_le_t (pc := 23) (tgt := 29) dX10_make_23 (by decide) k0 ?_
  refine go_aload_n (pc := 29) dX10_make_29 rfl rfl ?_
  refine go_aload_n (pc := 30) dX10_make_30 rfl rfl ?_
  refine go_iload_n (pc := 31) dX10_make_31 rfl rfl ?_
  refine go_iload_n (pc := 32) dX10_make_32 rfl rfl ?_
  refine go_callV_i (pc := 33) vX10_152 rfl (cX10_makes_6 j hj k0 k1 k4 k2 hn hw) rfl rfl (gz_b (by omega)) ((hw 32 (by decide) (by decide)).trans (wl_at (i := 32) rfl)) rfl (Nat.le_of_ble_eq_true rfl) ⟨Nat.le_of_ble_eq_true rfl, Nat.le_of_ble_eq_true rfl, (Nat.le_add_right _ _), (Nat.le_add_right _ _)⟩ dX10_make_33 ?_
  refine go_callV_i (pc := 36) vX10_155 rfl (cX10_answers_8 j hj hn hw) rfl rfl (gz_b (by omega)) ((va_up_ne _ _ (gz_ne (by decide))).trans ((hw 32 (by decide) (by decide)).trans (wl_at (i := 32) rfl))) rfl (Nat.le_of_ble_eq_true rfl) ⟨Nat.le_of_ble_eq_true rfl, Nat.le_of_ble_eq_true rfl, (Nat.le_add_right _ _), (Nat.le_add_right _ _)⟩ dX10_make_36 ?_
  exact go_iret (pc := 39) rfl dX10_make_39
theorem cm_make_1d {l : Launch} {G : gG} (j : Nat) (hj : j ≤ 254) (k0 : nI j ≤ 300) (k1 : 0 ≤ nI j) (k4 : ¬ nI j < 0) (k2 : 2 + (nI j) ≤ 256) : CM l G mX10_make [.ref (G.2.1 + 32), .int 1, .int (nI j)] 0 := by
  intro n k w hn hw
  exact ⟨3, 72, _, by decide, by decide, cm_make_1d_o j hj k0 k1 k4 k2 hn hw⟩
set_option maxRecDepth 100000 in
set_option maxHeartbeats 4000000 in
theorem cX10_hasMany_10 {l : Launch} {G : gG} {n k : Nat} {w : Nat → va_E} (hn : 42 ≤ n) (hw : ∀ i, 32 ≤ i → i < 42 → w (G.2.1 + i) = wl G.2.1 (LF G) (G.2.1 + i)) : Ct l G mX10_hasMany 0 0 [.int 2] n k w (some (.int 1), n, k, w) := by
  refine Ct.of (by decide) (Nat.le_of_ble_eq_true rfl) ⟨Nat.le_refl _, Nat.le_refl _⟩ ?_
  show Go l G mX10_hasMany _ 0 [(0, .int 2)] [] n k w
  refine go_iload_n (pc := 0) dX10_hasMany_0 rfl rfl ?_
  refine go_iconst (pc := 1) (v := 1) dX10_hasMany_1 (by decide) ?_
  refine go_icmp_eq_f (pc := 2) (tgt := 15) dX10_hasMany_2 (by decide) (by decide) ?_
  refine go_iload_n (pc := 5) dX10_hasMany_5 rfl rfl ?_
  refine go_iconst (pc := 6) (v := 2) dX10_hasMany_6 (by decide) ?_
  refine go_icmp_eq_t (pc := 7) (tgt := 15) dX10_hasMany_7 (by decide) (by decide) ?_
  refine go_iconst (pc := 15) (v := 1) dX10_hasMany_15 (by decide) ?_
  refine go_goto (pc := 16) (tgt := 20) dX10_hasMany_16 (by decide) ?_
  exact go_zret (pc := 20) rfl rfl dX10_hasMany_20
set_option maxRecDepth 100000 in
set_option maxHeartbeats 4000000 in
theorem cm_make_2a_o {l : Launch} {G : gG} (x2 : Int32) (k0 : ¬ x2 ≤ 300) {n k : Nat} {w : Nat → va_E} (hn : 42 ≤ n) (hw : ∀ i, 32 ≤ i → i < 42 → w (G.2.1 + i) = wl G.2.1 (LF G) (G.2.1 + i)) : Ct l G mX10_make 1 25 [.ref (G.2.1 + 32), .int 2, .int x2] n k w (some (.int ((-102))), n, k, w) := by
  refine Ct.of (by decide) (Nat.le_of_ble_eq_true rfl) ⟨Nat.le_refl _, Nat.le_refl _⟩ ?_
  show Go l G mX10_make _ 0 [(0, .ref (G.2.1 + 32)), (1, .int 2), (2, .int x2)] [] n k w
  refine go_iload_n (pc := 0) dX10_make_0 rfl rfl ?_
  refine go_i2l (pc := 1) dX10_make_1 ?_
  refine go_topl (y := 2) (by decide) ?_
  refine go_lconst (pc := 2) (v := 0) dX10_make_2 (by decide) ?_
  refine go_ldc2 (pc := 3) rfl qX10_150 dX10_make_3 ?_
  refine go_callS_i (pc := 6) sX10_63 rfl (ct_in 2 0 5) rfl rfl (Nat.le_of_ble_eq_true rfl) ⟨Nat.le_of_ble_eq_true rfl, Nat.le_of_ble_eq_true rfl, (Nat.le_add_right _ _), (Nat.le_add_right _ _)⟩ dX10_make_6 ?_
  refine go_top (y := 1) (by decide) ?_
  refine go_if_eq_f (pc := 9) (tgt := 26) dX10_make_9 (by decide) (by decide) ?_
  refine go_iload_n (pc := 12) dX10_make_12 rfl rfl ?_
  refine go_callS_i (pc := 13) sX10_138 rfl (cX10_hasMany_10 hn hw) rfl rfl (Nat.le_of_ble_eq_true rfl) ⟨Nat.le_of_ble_eq_true rfl, Nat.le_of_ble_eq_true rfl, (Nat.le_add_right _ _), (Nat.le_add_right _ _)⟩ dX10_make_13 ?_
  refine go_if_eq_f (pc := 16) (tgt := 29) dX10_make_16 (by decide) (by decide) ?_
  refine go_iload_n (pc := 19) dX10_make_19 rfl rfl ?_
  refine go_sipush (pc := 20) (v := 300) dX10_make_20 (by decide) ?_
  refine go_icmp_le_f (pc := 23) (tgt := 29) dX10_make_23 (by decide) k0 ?_
  refine go_bipush (pc := 26) (v := (-102)) dX10_make_26 (by decide) ?_
  exact go_iret (pc := 28) rfl dX10_make_28
theorem cm_make_2a {l : Launch} {G : gG} (x2 : Int32) (k0 : ¬ x2 ≤ 300) : CM l G mX10_make [.ref (G.2.1 + 32), .int 2, .int x2] ((-102)) := by
  intro n k w hn hw
  exact ⟨1, 25, _, by decide, by decide, cm_make_2a_o x2 k0 hn hw⟩
set_option maxRecDepth 100000 in
set_option maxHeartbeats 4000000 in
theorem cX10_makes_7 {l : Launch} {G : gG} (x2 : Int32) (k0 : x2 ≤ 300) (k1 : ¬ 0 ≤ x2) (k4 : x2 < 0) {n k : Nat} {w : Nat → va_E} (hn : 42 ≤ n) (hw : ∀ i, 32 ≤ i → i < 42 → w (G.2.1 + i) = wl G.2.1 (LF G) (G.2.1 + i)) : Ct l G mX10_makes 1 20 [.ref (G.2.1 + 32), .int 2, .int x2] n k w (some (.int ((-14))), n, k, w) := by
  refine Ct.of (by decide) (Nat.le_of_ble_eq_true rfl) ⟨Nat.le_refl _, Nat.le_refl _⟩ ?_
  show Go l G mX10_makes _ 0 [(0, .ref (G.2.1 + 32)), (1, .int 2), (2, .int x2)] [] n k w
  refine go_iload_n (pc := 0) dX10_makes_0 rfl rfl ?_
  refine go_callS_i (pc := 1) sX10_138 rfl (cX10_hasMany_10 hn hw) rfl rfl (Nat.le_of_ble_eq_true rfl) ⟨Nat.le_of_ble_eq_true rfl, Nat.le_of_ble_eq_true rfl, (Nat.le_add_right _ _), (Nat.le_add_right _ _)⟩ dX10_makes_1 ?_
  refine go_if_eq_f (pc := 4) (tgt := 11) dX10_makes_4 (by decide) (by decide) ?_
  refine go_iload_n (pc := 7) dX10_makes_7 rfl rfl ?_
  refine go_goto (pc := 8) (tgt := 12) dX10_makes_8 (by decide) ?_
  refine go_istore_n (pc := 12) (lv' := [(3, .int x2), (0, .ref (G.2.1 + 32)), (1, .int 2), (2, .int x2)]) dX10_makes_12 rfl (by decide) rfl ?_
  refine go_iload_n (pc := 13) dX10_makes_13 rfl rfl ?_
  refine go_if_ge_f (pc := 14) (tgt := 22) dX10_makes_14 (by decide) k1 ?_
  refine go_iconst (pc := 17) (v := 4) dX10_makes_17 (by decide) ?_
  refine go_callS_i (pc := 18) sX10_141 rfl (cX10_fails_3 hn hw) rfl rfl (Nat.le_of_ble_eq_true rfl) ⟨Nat.le_of_ble_eq_true rfl, Nat.le_of_ble_eq_true rfl, (Nat.le_add_right _ _), (Nat.le_add_right _ _)⟩ dX10_makes_18 ?_
  exact go_iret (pc := 21) rfl dX10_makes_21
set_option maxRecDepth 100000 in
set_option maxHeartbeats 4000000 in
theorem cm_make_2b_o {l : Launch} {G : gG} (x2 : Int32) (k0 : x2 ≤ 300) (k1 : ¬ 0 ≤ x2) (k4 : x2 < 0) {n k : Nat} {w : Nat → va_E} (hn : 42 ≤ n) (hw : ∀ i, 32 ≤ i → i < 42 → w (G.2.1 + i) = wl G.2.1 (LF G) (G.2.1 + i)) : Ct l G mX10_make 2 47 [.ref (G.2.1 + 32), .int 2, .int x2] n k w (some (.int ((-14))), n, k, (va_up w (G.2.1 + 32) (ob 10 [.ref (G.2.1 + 33), .ref (G.2.1 + 34), .ref (G.2.1 + 35), .int 0, .int 0, .int 4, .int 0, .int 0, .ref (G.2.1 + 36), .ref (G.2.1 + 37), .ref (G.2.1 + 38), .ref (G.2.1 + 39), .int 0, .ref (G.2.1 + 40), .int 0, .ref (G.2.1 + 41)]))) := by
  refine Ct.of (by decide) (Nat.le_of_ble_eq_true rfl) ⟨Nat.le_refl _, Nat.le_refl _⟩ ?_
  show Go l G mX10_make _ 0 [(0, .ref (G.2.1 + 32)), (1, .int 2), (2, .int x2)] [] n k w
  refine go_iload_n (pc := 0) dX10_make_0 rfl rfl ?_
  refine go_i2l (pc := 1) dX10_make_1 ?_
  refine go_topl (y := 2) (by decide) ?_
  refine go_lconst (pc := 2) (v := 0) dX10_make_2 (by decide) ?_
  refine go_ldc2 (pc := 3) rfl qX10_150 dX10_make_3 ?_
  refine go_callS_i (pc := 6) sX10_63 rfl (ct_in 2 0 5) rfl rfl (Nat.le_of_ble_eq_true rfl) ⟨Nat.le_of_ble_eq_true rfl, Nat.le_of_ble_eq_true rfl, (Nat.le_add_right _ _), (Nat.le_add_right _ _)⟩ dX10_make_6 ?_
  refine go_top (y := 1) (by decide) ?_
  refine go_if_eq_f (pc := 9) (tgt := 26) dX10_make_9 (by decide) (by decide) ?_
  refine go_iload_n (pc := 12) dX10_make_12 rfl rfl ?_
  refine go_callS_i (pc := 13) sX10_138 rfl (cX10_hasMany_10 hn hw) rfl rfl (Nat.le_of_ble_eq_true rfl) ⟨Nat.le_of_ble_eq_true rfl, Nat.le_of_ble_eq_true rfl, (Nat.le_add_right _ _), (Nat.le_add_right _ _)⟩ dX10_make_13 ?_
  refine go_if_eq_f (pc := 16) (tgt := 29) dX10_make_16 (by decide) (by decide) ?_
  refine go_iload_n (pc := 19) dX10_make_19 rfl rfl ?_
  refine go_sipush (pc := 20) (v := 300) dX10_make_20 (by decide) ?_
  refine go_icmp_le_t (pc := 23) (tgt := 29) dX10_make_23 (by decide) k0 ?_
  refine go_aload_n (pc := 29) dX10_make_29 rfl rfl ?_
  refine go_aload_n (pc := 30) dX10_make_30 rfl rfl ?_
  refine go_iload_n (pc := 31) dX10_make_31 rfl rfl ?_
  refine go_iload_n (pc := 32) dX10_make_32 rfl rfl ?_
  refine go_callV_i (pc := 33) vX10_152 rfl (cX10_makes_7 x2 k0 k1 k4 hn hw) rfl rfl (gz_b (by omega)) ((hw 32 (by decide) (by decide)).trans (wl_at (i := 32) rfl)) rfl (Nat.le_of_ble_eq_true rfl) ⟨Nat.le_of_ble_eq_true rfl, Nat.le_of_ble_eq_true rfl, (Nat.le_add_right _ _), (Nat.le_add_right _ _)⟩ dX10_make_33 ?_
  refine go_callV_i (pc := 36) vX10_155 rfl (cX10_answers_6 hn hw) rfl rfl (gz_b (by omega)) ((hw 32 (by decide) (by decide)).trans (wl_at (i := 32) rfl)) rfl (Nat.le_of_ble_eq_true rfl) ⟨Nat.le_of_ble_eq_true rfl, Nat.le_of_ble_eq_true rfl, (Nat.le_add_right _ _), (Nat.le_add_right _ _)⟩ dX10_make_36 ?_
  exact go_iret (pc := 39) rfl dX10_make_39
theorem cm_make_2b {l : Launch} {G : gG} (x2 : Int32) (k0 : x2 ≤ 300) (k1 : ¬ 0 ≤ x2) (k4 : x2 < 0) : CM l G mX10_make [.ref (G.2.1 + 32), .int 2, .int x2] ((-14)) := by
  intro n k w hn hw
  exact ⟨2, 47, _, by decide, by decide, cm_make_2b_o x2 k0 k1 k4 hn hw⟩
set_option maxRecDepth 100000 in
set_option maxHeartbeats 4000000 in
theorem cX10_sizeOf_6 {l : Launch} {G : gG} (x2 : Int32) {n k : Nat} {w : Nat → va_E} (hn : 42 ≤ n) (hw : ∀ i, 32 ≤ i → i < 42 → w (G.2.1 + i) = wl G.2.1 (LF G) (G.2.1 + i)) : Ct l G mX10_sizeOf 0 0 [.int 2, .int x2] n k w (some (.int (2 + ((x2 + 3) / 4))), n, k, w) := by
  refine Ct.of (by decide) (Nat.le_of_ble_eq_true rfl) ⟨Nat.le_refl _, Nat.le_refl _⟩ ?_
  show Go l G mX10_sizeOf _ 0 [(0, .int 2), (1, .int x2)] [] n k w
  refine go_iload_n (pc := 0) dX10_sizeOf_0 rfl rfl ?_
  refine go_tableIn (pc := 1) (off := 53) (tgt := 54) dX10_sizeOf_1 (by decide) (by decide) (by decide) (by decide) ?_
  refine go_iconst (pc := 54) (v := 2) dX10_sizeOf_54 (by decide) ?_
  refine go_iload_n (pc := 55) dX10_sizeOf_55 rfl rfl ?_
  refine go_iconst (pc := 56) (v := 3) dX10_sizeOf_56 (by decide) ?_
  refine go_iadd (pc := 57) dX10_sizeOf_57 ?_
  refine go_iconst (pc := 58) (v := 4) dX10_sizeOf_58 (by decide) ?_
  refine go_idiv (pc := 59) dX10_sizeOf_59 (by decide) ?_
  refine go_iadd (pc := 60) dX10_sizeOf_60 ?_
  exact go_iret (pc := 61) rfl dX10_sizeOf_61
set_option maxRecDepth 100000 in
set_option maxHeartbeats 4000000 in
theorem cX10_makes_8 {l : Launch} {G : gG} (x2 : Int32) (k0 : x2 ≤ 300) (k1 : 0 ≤ x2) (k4 : ¬ x2 < 0) (k2 : ¬ 2 + ((x2 + 3) / 4) ≤ 256) (k3 : ¬ 0 + (2 + ((x2 + 3) / 4)) ≤ 256) {n k : Nat} {w : Nat → va_E} (hn : 42 ≤ n) (hw : ∀ i, 32 ≤ i → i < 42 → w (G.2.1 + i) = wl G.2.1 (LF G) (G.2.1 + i)) : Ct l G mX10_makes 2 48 [.ref (G.2.1 + 32), .int 2, .int x2] n k w (some (.int ((-16))), n, k, (va_up w (G.2.1 + 39) (az G 500 (fun _ => 0)))) := by
  refine Ct.of (by decide) (Nat.le_of_ble_eq_true rfl) ⟨Nat.le_refl _, Nat.le_refl _⟩ ?_
  show Go l G mX10_makes _ 0 [(0, .ref (G.2.1 + 32)), (1, .int 2), (2, .int x2)] [] n k w
  refine go_iload_n (pc := 0) dX10_makes_0 rfl rfl ?_
  refine go_callS_i (pc := 1) sX10_138 rfl (cX10_hasMany_10 hn hw) rfl rfl (Nat.le_of_ble_eq_true rfl) ⟨Nat.le_of_ble_eq_true rfl, Nat.le_of_ble_eq_true rfl, (Nat.le_add_right _ _), (Nat.le_add_right _ _)⟩ dX10_makes_1 ?_
  refine go_if_eq_f (pc := 4) (tgt := 11) dX10_makes_4 (by decide) (by decide) ?_
  refine go_iload_n (pc := 7) dX10_makes_7 rfl rfl ?_
  refine go_goto (pc := 8) (tgt := 12) dX10_makes_8 (by decide) ?_
  refine go_istore_n (pc := 12) (lv' := [(3, .int x2), (0, .ref (G.2.1 + 32)), (1, .int 2), (2, .int x2)]) dX10_makes_12 rfl (by decide) rfl ?_
  refine go_iload_n (pc := 13) dX10_makes_13 rfl rfl ?_
  refine go_if_ge_t (pc := 14) (tgt := 22) dX10_makes_14 (by decide) k1 ?_
  refine go_aload_n (pc := 22) dX10_makes_22 rfl rfl ?_
  refine go_get (pc := 23) fX10_9 rfl (gz_b (by omega)) ((hw 32 (by decide) (by decide)).trans (wl_at (i := 32) rfl)) rfl dX10_makes_23 ?_
  refine go_iconst (pc := 26) (v := 1) dX10_makes_26 (by decide) ?_
  refine go_iald (pc := 27) (gz_b (by omega)) ((hw 33 (by decide) (by decide)).trans (wl_at (i := 33) rfl)) (gv_in (by decide)) dX10_makes_27 ?_
  refine go_top (y := 0) rfl ?_
  refine go_sipush (pc := 28) (v := 500) dX10_makes_28 (by decide) ?_
  refine go_icmp_ne_t (pc := 31) (tgt := 40) dX10_makes_31 (by decide) (by decide) ?_
  refine go_iload_n (pc := 40) dX10_makes_40 rfl rfl ?_
  refine go_iload_n (pc := 41) dX10_makes_41 rfl rfl ?_
  refine go_callS_i (pc := 42) sX10_75 rfl (cX10_sizeOf_6 x2 hn hw) rfl rfl (Nat.le_of_ble_eq_true rfl) ⟨Nat.le_of_ble_eq_true rfl, Nat.le_of_ble_eq_true rfl, (Nat.le_add_right _ _), (Nat.le_add_right _ _)⟩ dX10_makes_42 ?_
  refine go_istore (pc := 45) (lv' := [(4, .int (2 + ((x2 + 3) / 4))), (3, .int x2), (0, .ref (G.2.1 + 32)), (1, .int 2), (2, .int x2)]) dX10_makes_45 (by decide) rfl ?_
  refine go_iload (pc := 47) dX10_makes_47 rfl ?_
  refine go_aload_n (pc := 49) dX10_makes_49 rfl rfl ?_
  refine go_get (pc := 50) fX10_9 rfl (gz_b (by omega)) ((hw 32 (by decide) (by decide)).trans (wl_at (i := 32) rfl)) rfl dX10_makes_50 ?_
  refine go_iconst (pc := 53) (v := 0) dX10_makes_53 (by decide) ?_
  refine go_iald (pc := 54) (gz_b (by omega)) ((hw 33 (by decide) (by decide)).trans (wl_at (i := 33) rfl)) (gv_in (by decide)) dX10_makes_54 ?_
  refine go_top (y := 256) rfl ?_
  refine go_aload_n (pc := 55) dX10_makes_55 rfl rfl ?_
  refine go_get (pc := 56) fX10_9 rfl (gz_b (by omega)) ((hw 32 (by decide) (by decide)).trans (wl_at (i := 32) rfl)) rfl dX10_makes_56 ?_
  refine go_bipush (pc := 59) (v := 16) dX10_makes_59 (by decide) ?_
  refine go_iald (pc := 61) (gz_b (by omega)) ((hw 33 (by decide) (by decide)).trans (wl_at (i := 33) rfl)) (gv_in (by decide)) dX10_makes_61 ?_
  refine go_top (y := 0) rfl ?_
  refine go_isub (pc := 62) dX10_makes_62 ?_
  refine go_top (y := 256) (by decide) ?_
  refine go_icmp_le_f (pc := 63) (tgt := 127) dX10_makes_63 (by decide) k2 ?_
  refine go_aload_n (pc := 66) dX10_makes_66 rfl rfl ?_
  refine go_callV_i (pc := 67) vX10_144 rfl (cX10_reached_1 hn hw) rfl rfl (gz_b (by omega)) ((hw 32 (by decide) (by decide)).trans (wl_at (i := 32) rfl)) rfl (Nat.le_of_ble_eq_true rfl) ⟨Nat.le_of_ble_eq_true rfl, Nat.le_of_ble_eq_true rfl, (Nat.le_add_right _ _), (Nat.le_add_right _ _)⟩ dX10_makes_67 ?_
  refine go_iload (pc := 70) dX10_makes_70 rfl ?_
  refine go_iadd (pc := 72) dX10_makes_72 ?_
  refine go_aload_n (pc := 73) dX10_makes_73 rfl rfl ?_
  refine go_get (pc := 74) fX10_9 rfl (gz_b (by omega)) ((va_up_ne _ _ (gz_ne (by decide))).trans ((hw 32 (by decide) (by decide)).trans (wl_at (i := 32) rfl))) rfl dX10_makes_74 ?_
  refine go_iconst (pc := 77) (v := 0) dX10_makes_77 (by decide) ?_
  refine go_iald (pc := 78) (gz_b (by omega)) ((va_up_ne _ _ (gz_ne (by decide))).trans ((hw 33 (by decide) (by decide)).trans (wl_at (i := 33) rfl))) (gv_in (by decide)) dX10_makes_78 ?_
  refine go_top (y := 256) rfl ?_
  refine go_icmp_le_f (pc := 79) (tgt := 88) dX10_makes_79 (by decide) k3 ?_
  refine go_bipush (pc := 82) (v := 6) dX10_makes_82 (by decide) ?_
  refine go_callS_i (pc := 84) sX10_141 rfl (cX10_fails_4 hn hw) rfl rfl (Nat.le_of_ble_eq_true rfl) ⟨Nat.le_of_ble_eq_true rfl, Nat.le_of_ble_eq_true rfl, (Nat.le_add_right _ _), (Nat.le_add_right _ _)⟩ dX10_makes_84 ?_
  exact go_iret (pc := 87) rfl dX10_makes_87
set_option maxRecDepth 100000 in
set_option maxHeartbeats 4000000 in
theorem cm_make_2c_o {l : Launch} {G : gG} (x2 : Int32) (k0 : x2 ≤ 300) (k1 : 0 ≤ x2) (k4 : ¬ x2 < 0) (k2 : ¬ 2 + ((x2 + 3) / 4) ≤ 256) (k3 : ¬ 0 + (2 + ((x2 + 3) / 4)) ≤ 256) {n k : Nat} {w : Nat → va_E} (hn : 42 ≤ n) (hw : ∀ i, 32 ≤ i → i < 42 → w (G.2.1 + i) = wl G.2.1 (LF G) (G.2.1 + i)) : Ct l G mX10_make 3 75 [.ref (G.2.1 + 32), .int 2, .int x2] n k w (some (.int ((-16))), n, k, (va_up (va_up w (G.2.1 + 39) (az G 500 (fun _ => 0))) (G.2.1 + 32) (ob 10 [.ref (G.2.1 + 33), .ref (G.2.1 + 34), .ref (G.2.1 + 35), .int 0, .int 0, .int 6, .int 0, .int 0, .ref (G.2.1 + 36), .ref (G.2.1 + 37), .ref (G.2.1 + 38), .ref (G.2.1 + 39), .int 0, .ref (G.2.1 + 40), .int 0, .ref (G.2.1 + 41)]))) := by
  refine Ct.of (by decide) (Nat.le_of_ble_eq_true rfl) ⟨Nat.le_refl _, Nat.le_refl _⟩ ?_
  show Go l G mX10_make _ 0 [(0, .ref (G.2.1 + 32)), (1, .int 2), (2, .int x2)] [] n k w
  refine go_iload_n (pc := 0) dX10_make_0 rfl rfl ?_
  refine go_i2l (pc := 1) dX10_make_1 ?_
  refine go_topl (y := 2) (by decide) ?_
  refine go_lconst (pc := 2) (v := 0) dX10_make_2 (by decide) ?_
  refine go_ldc2 (pc := 3) rfl qX10_150 dX10_make_3 ?_
  refine go_callS_i (pc := 6) sX10_63 rfl (ct_in 2 0 5) rfl rfl (Nat.le_of_ble_eq_true rfl) ⟨Nat.le_of_ble_eq_true rfl, Nat.le_of_ble_eq_true rfl, (Nat.le_add_right _ _), (Nat.le_add_right _ _)⟩ dX10_make_6 ?_
  refine go_top (y := 1) (by decide) ?_
  refine go_if_eq_f (pc := 9) (tgt := 26) dX10_make_9 (by decide) (by decide) ?_
  refine go_iload_n (pc := 12) dX10_make_12 rfl rfl ?_
  refine go_callS_i (pc := 13) sX10_138 rfl (cX10_hasMany_10 hn hw) rfl rfl (Nat.le_of_ble_eq_true rfl) ⟨Nat.le_of_ble_eq_true rfl, Nat.le_of_ble_eq_true rfl, (Nat.le_add_right _ _), (Nat.le_add_right _ _)⟩ dX10_make_13 ?_
  refine go_if_eq_f (pc := 16) (tgt := 29) dX10_make_16 (by decide) (by decide) ?_
  refine go_iload_n (pc := 19) dX10_make_19 rfl rfl ?_
  refine go_sipush (pc := 20) (v := 300) dX10_make_20 (by decide) ?_
  refine go_icmp_le_t (pc := 23) (tgt := 29) dX10_make_23 (by decide) k0 ?_
  refine go_aload_n (pc := 29) dX10_make_29 rfl rfl ?_
  refine go_aload_n (pc := 30) dX10_make_30 rfl rfl ?_
  refine go_iload_n (pc := 31) dX10_make_31 rfl rfl ?_
  refine go_iload_n (pc := 32) dX10_make_32 rfl rfl ?_
  refine go_callV_i (pc := 33) vX10_152 rfl (cX10_makes_8 x2 k0 k1 k4 k2 k3 hn hw) rfl rfl (gz_b (by omega)) ((hw 32 (by decide) (by decide)).trans (wl_at (i := 32) rfl)) rfl (Nat.le_of_ble_eq_true rfl) ⟨Nat.le_of_ble_eq_true rfl, Nat.le_of_ble_eq_true rfl, (Nat.le_add_right _ _), (Nat.le_add_right _ _)⟩ dX10_make_33 ?_
  refine go_callV_i (pc := 36) vX10_155 rfl (cX10_answers_7 hn hw) rfl rfl (gz_b (by omega)) ((va_up_ne _ _ (gz_ne (by decide))).trans ((hw 32 (by decide) (by decide)).trans (wl_at (i := 32) rfl))) rfl (Nat.le_of_ble_eq_true rfl) ⟨Nat.le_of_ble_eq_true rfl, Nat.le_of_ble_eq_true rfl, (Nat.le_add_right _ _), (Nat.le_add_right _ _)⟩ dX10_make_36 ?_
  exact go_iret (pc := 39) rfl dX10_make_39
theorem cm_make_2c {l : Launch} {G : gG} (x2 : Int32) (k0 : x2 ≤ 300) (k1 : 0 ≤ x2) (k4 : ¬ x2 < 0) (k2 : ¬ 2 + ((x2 + 3) / 4) ≤ 256) (k3 : ¬ 0 + (2 + ((x2 + 3) / 4)) ≤ 256) : CM l G mX10_make [.ref (G.2.1 + 32), .int 2, .int x2] ((-16)) := by
  intro n k w hn hw
  exact ⟨3, 75, _, by decide, by decide, cm_make_2c_o x2 k0 k1 k4 k2 k3 hn hw⟩
set_option maxRecDepth 100000 in
set_option maxHeartbeats 4000000 in
theorem cX10_lets_22 {l : Launch} {G : gG} {n k : Nat} {w : Nat → va_E} (hn : 42 ≤ n) (hw : ∀ i, 32 ≤ i → i < 42 → w (G.2.1 + i) = wl G.2.1 (LF G) (G.2.1 + i)) : Ct l G mX10_lets 0 0 [.ref (G.2.1 + 32), .int 0, .int 1, .int 2] n k (va_up w (G.2.1 + 33) (ai G 26100 (upd (upd (upd (sx 256) (1 : Int32).toNatClampNeg 1) (2 : Int32).toNatClampNeg 1) (1100 : Int32).toNatClampNeg 1))) (none, n, k, (va_up w (G.2.1 + 33) (ai G 26100 (upd (upd (upd (upd (sx 256) (1 : Int32).toNatClampNeg 1) (2 : Int32).toNatClampNeg 1) (1100 : Int32).toNatClampNeg 1) (1101 : Int32).toNatClampNeg 2)))) := by
  refine Ct.of (by decide) (Nat.le_of_ble_eq_true rfl) ⟨Nat.le_refl _, Nat.le_refl _⟩ ?_
  show Go l G mX10_lets _ 0 [(0, .ref (G.2.1 + 32)), (1, .int 0), (2, .int 1), (3, .int 2)] [] n k (va_up w (G.2.1 + 33) (ai G 26100 (upd (upd (upd (sx 256) (1 : Int32).toNatClampNeg 1) (2 : Int32).toNatClampNeg 1) (1100 : Int32).toNatClampNeg 1)))
  refine go_aload_n (pc := 0) dX10_lets_0 rfl rfl ?_
  refine go_get (pc := 1) fX10_9 rfl (gz_b (by omega)) ((va_up_ne _ _ (gz_ne (by decide))).trans ((hw 32 (by decide) (by decide)).trans (wl_at (i := 32) rfl))) rfl dX10_lets_1 ?_
  refine go_sipush (pc := 4) (v := 1100) dX10_lets_4 (by decide) ?_
  refine go_bipush (pc := 7) (v := 10) dX10_lets_7 (by decide) ?_
  refine go_iload_n (pc := 9) dX10_lets_9 rfl rfl ?_
  refine go_imul (pc := 10) dX10_lets_10 ?_
  refine go_top (y := 0) (by decide) ?_
  refine go_iadd (pc := 11) dX10_lets_11 ?_
  refine go_top (y := 1100) (by decide) ?_
  refine go_iload_n (pc := 12) dX10_lets_12 rfl rfl ?_
  refine go_iadd (pc := 13) dX10_lets_13 ?_
  refine go_top (y := 1101) (by decide) ?_
  refine go_iload_n (pc := 14) dX10_lets_14 rfl rfl ?_
  refine go_iast (pc := 15) (gz_b (by omega)) (va_up_self _ _ _) (gv_in (by decide)) dX10_lets_15 ?_
  refine go_w (va_up_up _ _ _ _) ?_
  exact go_vret (pc := 16) rfl dX10_lets_16
set_option maxRecDepth 100000 in
set_option maxHeartbeats 4000000 in
theorem cX10_lets_23 {l : Launch} {G : gG} {n k : Nat} {w : Nat → va_E} (hn : 42 ≤ n) (hw : ∀ i, 32 ≤ i → i < 42 → w (G.2.1 + i) = wl G.2.1 (LF G) (G.2.1 + i)) : Ct l G mX10_lets 0 0 [.ref (G.2.1 + 32), .int 0, .int 2, .int 0] n k (va_up w (G.2.1 + 33) (ai G 26100 (upd (upd (upd (upd (sx 256) (1 : Int32).toNatClampNeg 1) (2 : Int32).toNatClampNeg 1) (1100 : Int32).toNatClampNeg 1) (1101 : Int32).toNatClampNeg 2))) (none, n, k, (va_up w (G.2.1 + 33) (ai G 26100 (upd (upd (upd (upd (upd (sx 256) (1 : Int32).toNatClampNeg 1) (2 : Int32).toNatClampNeg 1) (1100 : Int32).toNatClampNeg 1) (1101 : Int32).toNatClampNeg 2) (1102 : Int32).toNatClampNeg 0)))) := by
  refine Ct.of (by decide) (Nat.le_of_ble_eq_true rfl) ⟨Nat.le_refl _, Nat.le_refl _⟩ ?_
  show Go l G mX10_lets _ 0 [(0, .ref (G.2.1 + 32)), (1, .int 0), (2, .int 2), (3, .int 0)] [] n k (va_up w (G.2.1 + 33) (ai G 26100 (upd (upd (upd (upd (sx 256) (1 : Int32).toNatClampNeg 1) (2 : Int32).toNatClampNeg 1) (1100 : Int32).toNatClampNeg 1) (1101 : Int32).toNatClampNeg 2)))
  refine go_aload_n (pc := 0) dX10_lets_0 rfl rfl ?_
  refine go_get (pc := 1) fX10_9 rfl (gz_b (by omega)) ((va_up_ne _ _ (gz_ne (by decide))).trans ((hw 32 (by decide) (by decide)).trans (wl_at (i := 32) rfl))) rfl dX10_lets_1 ?_
  refine go_sipush (pc := 4) (v := 1100) dX10_lets_4 (by decide) ?_
  refine go_bipush (pc := 7) (v := 10) dX10_lets_7 (by decide) ?_
  refine go_iload_n (pc := 9) dX10_lets_9 rfl rfl ?_
  refine go_imul (pc := 10) dX10_lets_10 ?_
  refine go_top (y := 0) (by decide) ?_
  refine go_iadd (pc := 11) dX10_lets_11 ?_
  refine go_top (y := 1100) (by decide) ?_
  refine go_iload_n (pc := 12) dX10_lets_12 rfl rfl ?_
  refine go_iadd (pc := 13) dX10_lets_13 ?_
  refine go_top (y := 1102) (by decide) ?_
  refine go_iload_n (pc := 14) dX10_lets_14 rfl rfl ?_
  refine go_iast (pc := 15) (gz_b (by omega)) (va_up_self _ _ _) (gv_in (by decide)) dX10_lets_15 ?_
  refine go_w (va_up_up _ _ _ _) ?_
  exact go_vret (pc := 16) rfl dX10_lets_16
set_option maxRecDepth 100000 in
set_option maxHeartbeats 4000000 in
theorem cX10_lets_24 {l : Launch} {G : gG} (x2 : Int32) {n k : Nat} {w : Nat → va_E} (hn : 42 ≤ n) (hw : ∀ i, 32 ≤ i → i < 42 → w (G.2.1 + i) = wl G.2.1 (LF G) (G.2.1 + i)) : Ct l G mX10_lets 0 0 [.ref (G.2.1 + 32), .int 0, .int 3, .int x2] n k (va_up w (G.2.1 + 33) (ai G 26100 (upd (upd (upd (upd (upd (sx 256) (1 : Int32).toNatClampNeg 1) (2 : Int32).toNatClampNeg 1) (1100 : Int32).toNatClampNeg 1) (1101 : Int32).toNatClampNeg 2) (1102 : Int32).toNatClampNeg 0))) (none, n, k, (va_up w (G.2.1 + 33) (ai G 26100 (upd (upd (upd (upd (upd (upd (sx 256) (1 : Int32).toNatClampNeg 1) (2 : Int32).toNatClampNeg 1) (1100 : Int32).toNatClampNeg 1) (1101 : Int32).toNatClampNeg 2) (1102 : Int32).toNatClampNeg 0) (1103 : Int32).toNatClampNeg x2)))) := by
  refine Ct.of (by decide) (Nat.le_of_ble_eq_true rfl) ⟨Nat.le_refl _, Nat.le_refl _⟩ ?_
  show Go l G mX10_lets _ 0 [(0, .ref (G.2.1 + 32)), (1, .int 0), (2, .int 3), (3, .int x2)] [] n k (va_up w (G.2.1 + 33) (ai G 26100 (upd (upd (upd (upd (upd (sx 256) (1 : Int32).toNatClampNeg 1) (2 : Int32).toNatClampNeg 1) (1100 : Int32).toNatClampNeg 1) (1101 : Int32).toNatClampNeg 2) (1102 : Int32).toNatClampNeg 0)))
  refine go_aload_n (pc := 0) dX10_lets_0 rfl rfl ?_
  refine go_get (pc := 1) fX10_9 rfl (gz_b (by omega)) ((va_up_ne _ _ (gz_ne (by decide))).trans ((hw 32 (by decide) (by decide)).trans (wl_at (i := 32) rfl))) rfl dX10_lets_1 ?_
  refine go_sipush (pc := 4) (v := 1100) dX10_lets_4 (by decide) ?_
  refine go_bipush (pc := 7) (v := 10) dX10_lets_7 (by decide) ?_
  refine go_iload_n (pc := 9) dX10_lets_9 rfl rfl ?_
  refine go_imul (pc := 10) dX10_lets_10 ?_
  refine go_top (y := 0) (by decide) ?_
  refine go_iadd (pc := 11) dX10_lets_11 ?_
  refine go_top (y := 1100) (by decide) ?_
  refine go_iload_n (pc := 12) dX10_lets_12 rfl rfl ?_
  refine go_iadd (pc := 13) dX10_lets_13 ?_
  refine go_top (y := 1103) (by decide) ?_
  refine go_iload_n (pc := 14) dX10_lets_14 rfl rfl ?_
  refine go_iast (pc := 15) (gz_b (by omega)) (va_up_self _ _ _) (gv_in (by decide)) dX10_lets_15 ?_
  refine go_w (va_up_up _ _ _ _) ?_
  exact go_vret (pc := 16) rfl dX10_lets_16
set_option maxRecDepth 100000 in
set_option maxHeartbeats 4000000 in
theorem cX10_lets_25 {l : Launch} {G : gG} (x2 : Int32) {n k : Nat} {w : Nat → va_E} (hn : 42 ≤ n) (hw : ∀ i, 32 ≤ i → i < 42 → w (G.2.1 + i) = wl G.2.1 (LF G) (G.2.1 + i)) : Ct l G mX10_lets 0 0 [.ref (G.2.1 + 32), .int 0, .int 4, .int 0] n k (va_up w (G.2.1 + 33) (ai G 26100 (upd (upd (upd (upd (upd (upd (sx 256) (1 : Int32).toNatClampNeg 1) (2 : Int32).toNatClampNeg 1) (1100 : Int32).toNatClampNeg 1) (1101 : Int32).toNatClampNeg 2) (1102 : Int32).toNatClampNeg 0) (1103 : Int32).toNatClampNeg x2))) (none, n, k, (va_up w (G.2.1 + 33) (ai G 26100 (upd (upd (upd (upd (upd (upd (upd (sx 256) (1 : Int32).toNatClampNeg 1) (2 : Int32).toNatClampNeg 1) (1100 : Int32).toNatClampNeg 1) (1101 : Int32).toNatClampNeg 2) (1102 : Int32).toNatClampNeg 0) (1103 : Int32).toNatClampNeg x2) (1104 : Int32).toNatClampNeg 0)))) := by
  refine Ct.of (by decide) (Nat.le_of_ble_eq_true rfl) ⟨Nat.le_refl _, Nat.le_refl _⟩ ?_
  show Go l G mX10_lets _ 0 [(0, .ref (G.2.1 + 32)), (1, .int 0), (2, .int 4), (3, .int 0)] [] n k (va_up w (G.2.1 + 33) (ai G 26100 (upd (upd (upd (upd (upd (upd (sx 256) (1 : Int32).toNatClampNeg 1) (2 : Int32).toNatClampNeg 1) (1100 : Int32).toNatClampNeg 1) (1101 : Int32).toNatClampNeg 2) (1102 : Int32).toNatClampNeg 0) (1103 : Int32).toNatClampNeg x2)))
  refine go_aload_n (pc := 0) dX10_lets_0 rfl rfl ?_
  refine go_get (pc := 1) fX10_9 rfl (gz_b (by omega)) ((va_up_ne _ _ (gz_ne (by decide))).trans ((hw 32 (by decide) (by decide)).trans (wl_at (i := 32) rfl))) rfl dX10_lets_1 ?_
  refine go_sipush (pc := 4) (v := 1100) dX10_lets_4 (by decide) ?_
  refine go_bipush (pc := 7) (v := 10) dX10_lets_7 (by decide) ?_
  refine go_iload_n (pc := 9) dX10_lets_9 rfl rfl ?_
  refine go_imul (pc := 10) dX10_lets_10 ?_
  refine go_top (y := 0) (by decide) ?_
  refine go_iadd (pc := 11) dX10_lets_11 ?_
  refine go_top (y := 1100) (by decide) ?_
  refine go_iload_n (pc := 12) dX10_lets_12 rfl rfl ?_
  refine go_iadd (pc := 13) dX10_lets_13 ?_
  refine go_top (y := 1104) (by decide) ?_
  refine go_iload_n (pc := 14) dX10_lets_14 rfl rfl ?_
  refine go_iast (pc := 15) (gz_b (by omega)) (va_up_self _ _ _) (gv_in (by decide)) dX10_lets_15 ?_
  refine go_w (va_up_up _ _ _ _) ?_
  exact go_vret (pc := 16) rfl dX10_lets_16
set_option maxRecDepth 100000 in
set_option maxHeartbeats 4000000 in
theorem cX10_lets_26 {l : Launch} {G : gG} (x2 : Int32) {n k : Nat} {w : Nat → va_E} (hn : 42 ≤ n) (hw : ∀ i, 32 ≤ i → i < 42 → w (G.2.1 + i) = wl G.2.1 (LF G) (G.2.1 + i)) : Ct l G mX10_lets 0 0 [.ref (G.2.1 + 32), .int 0, .int 5, .int 0] n k (va_up w (G.2.1 + 33) (ai G 26100 (upd (upd (upd (upd (upd (upd (upd (sx 256) (1 : Int32).toNatClampNeg 1) (2 : Int32).toNatClampNeg 1) (1100 : Int32).toNatClampNeg 1) (1101 : Int32).toNatClampNeg 2) (1102 : Int32).toNatClampNeg 0) (1103 : Int32).toNatClampNeg x2) (1104 : Int32).toNatClampNeg 0))) (none, n, k, (va_up w (G.2.1 + 33) (ai G 26100 (upd (upd (upd (upd (upd (upd (upd (upd (sx 256) (1 : Int32).toNatClampNeg 1) (2 : Int32).toNatClampNeg 1) (1100 : Int32).toNatClampNeg 1) (1101 : Int32).toNatClampNeg 2) (1102 : Int32).toNatClampNeg 0) (1103 : Int32).toNatClampNeg x2) (1104 : Int32).toNatClampNeg 0) (1105 : Int32).toNatClampNeg 0)))) := by
  refine Ct.of (by decide) (Nat.le_of_ble_eq_true rfl) ⟨Nat.le_refl _, Nat.le_refl _⟩ ?_
  show Go l G mX10_lets _ 0 [(0, .ref (G.2.1 + 32)), (1, .int 0), (2, .int 5), (3, .int 0)] [] n k (va_up w (G.2.1 + 33) (ai G 26100 (upd (upd (upd (upd (upd (upd (upd (sx 256) (1 : Int32).toNatClampNeg 1) (2 : Int32).toNatClampNeg 1) (1100 : Int32).toNatClampNeg 1) (1101 : Int32).toNatClampNeg 2) (1102 : Int32).toNatClampNeg 0) (1103 : Int32).toNatClampNeg x2) (1104 : Int32).toNatClampNeg 0)))
  refine go_aload_n (pc := 0) dX10_lets_0 rfl rfl ?_
  refine go_get (pc := 1) fX10_9 rfl (gz_b (by omega)) ((va_up_ne _ _ (gz_ne (by decide))).trans ((hw 32 (by decide) (by decide)).trans (wl_at (i := 32) rfl))) rfl dX10_lets_1 ?_
  refine go_sipush (pc := 4) (v := 1100) dX10_lets_4 (by decide) ?_
  refine go_bipush (pc := 7) (v := 10) dX10_lets_7 (by decide) ?_
  refine go_iload_n (pc := 9) dX10_lets_9 rfl rfl ?_
  refine go_imul (pc := 10) dX10_lets_10 ?_
  refine go_top (y := 0) (by decide) ?_
  refine go_iadd (pc := 11) dX10_lets_11 ?_
  refine go_top (y := 1100) (by decide) ?_
  refine go_iload_n (pc := 12) dX10_lets_12 rfl rfl ?_
  refine go_iadd (pc := 13) dX10_lets_13 ?_
  refine go_top (y := 1105) (by decide) ?_
  refine go_iload_n (pc := 14) dX10_lets_14 rfl rfl ?_
  refine go_iast (pc := 15) (gz_b (by omega)) (va_up_self _ _ _) (gv_in (by decide)) dX10_lets_15 ?_
  refine go_w (va_up_up _ _ _ _) ?_
  exact go_vret (pc := 16) rfl dX10_lets_16
set_option maxRecDepth 100000 in
set_option maxHeartbeats 4000000 in
theorem cX10_hasMany_11 {l : Launch} {G : gG} (x2 : Int32) {n k : Nat} {w : Nat → va_E} (hn : 42 ≤ n) (hw : ∀ i, 32 ≤ i → i < 42 → w (G.2.1 + i) = wl G.2.1 (LF G) (G.2.1 + i)) : Ct l G mX10_hasMany 0 0 [.int 2] n k (va_up w (G.2.1 + 33) (ai G 26100 (upd (upd (upd (upd (upd (upd (upd (upd (upd (sx 256) (1 : Int32).toNatClampNeg 1) (2 : Int32).toNatClampNeg 1) (1100 : Int32).toNatClampNeg 1) (1101 : Int32).toNatClampNeg 2) (1102 : Int32).toNatClampNeg 0) (1103 : Int32).toNatClampNeg x2) (1104 : Int32).toNatClampNeg 0) (1105 : Int32).toNatClampNeg 0) (6100 : Int32).toNatClampNeg 2))) (some (.int 1), n, k, (va_up w (G.2.1 + 33) (ai G 26100 (upd (upd (upd (upd (upd (upd (upd (upd (upd (sx 256) (1 : Int32).toNatClampNeg 1) (2 : Int32).toNatClampNeg 1) (1100 : Int32).toNatClampNeg 1) (1101 : Int32).toNatClampNeg 2) (1102 : Int32).toNatClampNeg 0) (1103 : Int32).toNatClampNeg x2) (1104 : Int32).toNatClampNeg 0) (1105 : Int32).toNatClampNeg 0) (6100 : Int32).toNatClampNeg 2)))) := by
  refine Ct.of (by decide) (Nat.le_of_ble_eq_true rfl) ⟨Nat.le_refl _, Nat.le_refl _⟩ ?_
  show Go l G mX10_hasMany _ 0 [(0, .int 2)] [] n k (va_up w (G.2.1 + 33) (ai G 26100 (upd (upd (upd (upd (upd (upd (upd (upd (upd (sx 256) (1 : Int32).toNatClampNeg 1) (2 : Int32).toNatClampNeg 1) (1100 : Int32).toNatClampNeg 1) (1101 : Int32).toNatClampNeg 2) (1102 : Int32).toNatClampNeg 0) (1103 : Int32).toNatClampNeg x2) (1104 : Int32).toNatClampNeg 0) (1105 : Int32).toNatClampNeg 0) (6100 : Int32).toNatClampNeg 2)))
  refine go_iload_n (pc := 0) dX10_hasMany_0 rfl rfl ?_
  refine go_iconst (pc := 1) (v := 1) dX10_hasMany_1 (by decide) ?_
  refine go_icmp_eq_f (pc := 2) (tgt := 15) dX10_hasMany_2 (by decide) (by decide) ?_
  refine go_iload_n (pc := 5) dX10_hasMany_5 rfl rfl ?_
  refine go_iconst (pc := 6) (v := 2) dX10_hasMany_6 (by decide) ?_
  refine go_icmp_eq_t (pc := 7) (tgt := 15) dX10_hasMany_7 (by decide) (by decide) ?_
  refine go_iconst (pc := 15) (v := 1) dX10_hasMany_15 (by decide) ?_
  refine go_goto (pc := 16) (tgt := 20) dX10_hasMany_16 (by decide) ?_
  exact go_zret (pc := 20) rfl rfl dX10_hasMany_20
set_option maxRecDepth 100000 in
set_option maxHeartbeats 4000000 in
theorem cX10_of_13 {l : Launch} {G : gG} (x2 : Int32) {n k : Nat} {w : Nat → va_E} (hn : 42 ≤ n) (hw : ∀ i, 32 ≤ i → i < 42 → w (G.2.1 + i) = wl G.2.1 (LF G) (G.2.1 + i)) : Ct l G mX10_of 0 0 [.ref (G.2.1 + 32), .int 0, .int 1] n k (va_up w (G.2.1 + 33) (ai G 26100 (upd (upd (upd (upd (upd (upd (upd (upd (upd (upd (sx 256) (1 : Int32).toNatClampNeg 1) (2 : Int32).toNatClampNeg 1) (1100 : Int32).toNatClampNeg 1) (1101 : Int32).toNatClampNeg 2) (1102 : Int32).toNatClampNeg 0) (1103 : Int32).toNatClampNeg x2) (1104 : Int32).toNatClampNeg 0) (1105 : Int32).toNatClampNeg 0) (6100 : Int32).toNatClampNeg 2) (6101 : Int32).toNatClampNeg x2))) (some (.int 2), n, k, (va_up w (G.2.1 + 33) (ai G 26100 (upd (upd (upd (upd (upd (upd (upd (upd (upd (upd (sx 256) (1 : Int32).toNatClampNeg 1) (2 : Int32).toNatClampNeg 1) (1100 : Int32).toNatClampNeg 1) (1101 : Int32).toNatClampNeg 2) (1102 : Int32).toNatClampNeg 0) (1103 : Int32).toNatClampNeg x2) (1104 : Int32).toNatClampNeg 0) (1105 : Int32).toNatClampNeg 0) (6100 : Int32).toNatClampNeg 2) (6101 : Int32).toNatClampNeg x2)))) := by
  refine Ct.of (by decide) (Nat.le_of_ble_eq_true rfl) ⟨Nat.le_refl _, Nat.le_refl _⟩ ?_
  show Go l G mX10_of _ 0 [(0, .ref (G.2.1 + 32)), (1, .int 0), (2, .int 1)] [] n k (va_up w (G.2.1 + 33) (ai G 26100 (upd (upd (upd (upd (upd (upd (upd (upd (upd (upd (sx 256) (1 : Int32).toNatClampNeg 1) (2 : Int32).toNatClampNeg 1) (1100 : Int32).toNatClampNeg 1) (1101 : Int32).toNatClampNeg 2) (1102 : Int32).toNatClampNeg 0) (1103 : Int32).toNatClampNeg x2) (1104 : Int32).toNatClampNeg 0) (1105 : Int32).toNatClampNeg 0) (6100 : Int32).toNatClampNeg 2) (6101 : Int32).toNatClampNeg x2)))
  refine go_aload_n (pc := 0) dX10_of_0 rfl rfl ?_
  refine go_get (pc := 1) fX10_9 rfl (gz_b (by omega)) ((va_up_ne _ _ (gz_ne (by decide))).trans ((hw 32 (by decide) (by decide)).trans (wl_at (i := 32) rfl))) rfl dX10_of_1 ?_
  refine go_sipush (pc := 4) (v := 1100) dX10_of_4 (by decide) ?_
  refine go_bipush (pc := 7) (v := 10) dX10_of_7 (by decide) ?_
  refine go_iload_n (pc := 9) dX10_of_9 rfl rfl ?_
  refine go_imul (pc := 10) dX10_of_10 ?_
  refine go_top (y := 0) (by decide) ?_
  refine go_iadd (pc := 11) dX10_of_11 ?_
  refine go_top (y := 1100) (by decide) ?_
  refine go_iload_n (pc := 12) dX10_of_12 rfl rfl ?_
  refine go_iadd (pc := 13) dX10_of_13 ?_
  refine go_top (y := 1101) (by decide) ?_
  refine go_iald (pc := 14) (gz_b (by omega)) (va_up_self _ _ _) (gv_in (by decide)) dX10_of_14 ?_
  refine go_top (y := 2) rfl ?_
  exact go_iret (pc := 15) rfl dX10_of_15
set_option maxRecDepth 100000 in
set_option maxHeartbeats 4000000 in
theorem cX10_linksOf_5 {l : Launch} {G : gG} (x2 : Int32) {n k : Nat} {w : Nat → va_E} (hn : 42 ≤ n) (hw : ∀ i, 32 ≤ i → i < 42 → w (G.2.1 + i) = wl G.2.1 (LF G) (G.2.1 + i)) : Ct l G mX10_linksOf 1 22 [.ref (G.2.1 + 32), .int 0] n k (va_up w (G.2.1 + 33) (ai G 26100 (upd (upd (upd (upd (upd (upd (upd (upd (upd (upd (sx 256) (1 : Int32).toNatClampNeg 1) (2 : Int32).toNatClampNeg 1) (1100 : Int32).toNatClampNeg 1) (1101 : Int32).toNatClampNeg 2) (1102 : Int32).toNatClampNeg 0) (1103 : Int32).toNatClampNeg x2) (1104 : Int32).toNatClampNeg 0) (1105 : Int32).toNatClampNeg 0) (6100 : Int32).toNatClampNeg 2) (6101 : Int32).toNatClampNeg x2))) (some (.int 0), n, k, (va_up w (G.2.1 + 33) (ai G 26100 (upd (upd (upd (upd (upd (upd (upd (upd (upd (upd (sx 256) (1 : Int32).toNatClampNeg 1) (2 : Int32).toNatClampNeg 1) (1100 : Int32).toNatClampNeg 1) (1101 : Int32).toNatClampNeg 2) (1102 : Int32).toNatClampNeg 0) (1103 : Int32).toNatClampNeg x2) (1104 : Int32).toNatClampNeg 0) (1105 : Int32).toNatClampNeg 0) (6100 : Int32).toNatClampNeg 2) (6101 : Int32).toNatClampNeg x2)))) := by
  refine Ct.of (by decide) (Nat.le_of_ble_eq_true rfl) ⟨Nat.le_refl _, Nat.le_refl _⟩ ?_
  show Go l G mX10_linksOf _ 0 [(0, .ref (G.2.1 + 32)), (1, .int 0)] [] n k (va_up w (G.2.1 + 33) (ai G 26100 (upd (upd (upd (upd (upd (upd (upd (upd (upd (upd (sx 256) (1 : Int32).toNatClampNeg 1) (2 : Int32).toNatClampNeg 1) (1100 : Int32).toNatClampNeg 1) (1101 : Int32).toNatClampNeg 2) (1102 : Int32).toNatClampNeg 0) (1103 : Int32).toNatClampNeg x2) (1104 : Int32).toNatClampNeg 0) (1105 : Int32).toNatClampNeg 0) (6100 : Int32).toNatClampNeg 2) (6101 : Int32).toNatClampNeg x2)))
  refine go_aload_n (pc := 0) dX10_linksOf_0 rfl rfl ?_
  refine go_iload_n (pc := 1) dX10_linksOf_1 rfl rfl ?_
  refine go_iconst (pc := 2) (v := 1) dX10_linksOf_2 (by decide) ?_
  refine go_callV_i (pc := 3) vX10_71 rfl (cX10_of_13 x2 hn hw) rfl rfl (gz_b (by omega)) ((va_up_ne _ _ (gz_ne (by decide))).trans ((hw 32 (by decide) (by decide)).trans (wl_at (i := 32) rfl))) rfl (Nat.le_of_ble_eq_true rfl) ⟨Nat.le_of_ble_eq_true rfl, Nat.le_of_ble_eq_true rfl, (Nat.le_add_right _ _), (Nat.le_add_right _ _)⟩ dX10_linksOf_3 ?_
  refine go_istore_n (pc := 6) (lv' := [(2, .int 2), (0, .ref (G.2.1 + 32)), (1, .int 0)]) dX10_linksOf_6 rfl (by decide) rfl ?_
  refine go_iload_n (pc := 7) dX10_linksOf_7 rfl rfl ?_
  refine go_if_ne_t (pc := 8) (tgt := 15) dX10_linksOf_8 (by decide) (by decide) ?_
  refine go_iload_n (pc := 15) dX10_linksOf_15 rfl rfl ?_
  refine go_iconst (pc := 16) (v := 3) dX10_linksOf_16 (by decide) ?_
  refine go_icmp_eq_f (pc := 17) (tgt := 25) dX10_linksOf_17 (by decide) (by decide) ?_
  refine go_iload_n (pc := 20) dX10_linksOf_20 rfl rfl ?_
  refine go_iconst (pc := 21) (v := 4) dX10_linksOf_21 (by decide) ?_
  refine go_icmp_ne_t (pc := 22) (tgt := 29) dX10_linksOf_22 (by decide) (by decide) ?_
  refine go_iload_n (pc := 29) dX10_linksOf_29 rfl rfl ?_
  refine go_iconst (pc := 30) (v := 2) dX10_linksOf_30 (by decide) ?_
  refine go_icmp_ne_f (pc := 31) (tgt := 38) dX10_linksOf_31 (by decide) (by decide) ?_
  refine go_iconst (pc := 34) (v := 0) dX10_linksOf_34 (by decide) ?_
  refine go_goto (pc := 35) (tgt := 44) dX10_linksOf_35 (by decide) ?_
  exact go_iret (pc := 44) rfl dX10_linksOf_44
set_option maxRecDepth 100000 in
set_option maxHeartbeats 4000000 in
theorem cX10_makes_9 {l : Launch} {G : gG} (x2 : Int32) (k0 : x2 ≤ 300) (k1 : 0 ≤ x2) (k4 : ¬ x2 < 0) (k2 : 2 + ((x2 + 3) / 4) ≤ 256) {n k : Nat} {w : Nat → va_E} (hn : 42 ≤ n) (hw : ∀ i, 32 ≤ i → i < 42 → w (G.2.1 + i) = wl G.2.1 (LF G) (G.2.1 + i)) : Ct l G mX10_makes 2 44 [.ref (G.2.1 + 32), .int 2, .int x2] n k w (some (.int 0), n, k, (va_up w (G.2.1 + 33) (ai G 26100 (upd (upd (upd (upd (upd (upd (upd (upd (upd (upd (upd (sx 256) (1 : Int32).toNatClampNeg 1) (2 : Int32).toNatClampNeg 1) (1100 : Int32).toNatClampNeg 1) (1101 : Int32).toNatClampNeg 2) (1102 : Int32).toNatClampNeg 0) (1103 : Int32).toNatClampNeg x2) (1104 : Int32).toNatClampNeg 0) (1105 : Int32).toNatClampNeg 0) (6100 : Int32).toNatClampNeg 2) (6101 : Int32).toNatClampNeg x2) (16 : Int32).toNatClampNeg (0 + (2 + ((x2 + 3) / 4))))))) := by
  refine Ct.of (by decide) (Nat.le_of_ble_eq_true rfl) ⟨Nat.le_refl _, Nat.le_refl _⟩ ?_
  show Go l G mX10_makes _ 0 [(0, .ref (G.2.1 + 32)), (1, .int 2), (2, .int x2)] [] n k w
  refine go_iload_n (pc := 0) dX10_makes_0 rfl rfl ?_
  refine go_callS_i (pc := 1) sX10_138 rfl (cX10_hasMany_10 hn hw) rfl rfl (Nat.le_of_ble_eq_true rfl) ⟨Nat.le_of_ble_eq_true rfl, Nat.le_of_ble_eq_true rfl, (Nat.le_add_right _ _), (Nat.le_add_right _ _)⟩ dX10_makes_1 ?_
  refine go_if_eq_f (pc := 4) (tgt := 11) dX10_makes_4 (by decide) (by decide) ?_
  refine go_iload_n (pc := 7) dX10_makes_7 rfl rfl ?_
  refine go_goto (pc := 8) (tgt := 12) dX10_makes_8 (by decide) ?_
  refine go_istore_n (pc := 12) (lv' := [(3, .int x2), (0, .ref (G.2.1 + 32)), (1, .int 2), (2, .int x2)]) dX10_makes_12 rfl (by decide) rfl ?_
  refine go_iload_n (pc := 13) dX10_makes_13 rfl rfl ?_
  refine go_if_ge_t (pc := 14) (tgt := 22) dX10_makes_14 (by decide) k1 ?_
  refine go_aload_n (pc := 22) dX10_makes_22 rfl rfl ?_
  refine go_get (pc := 23) fX10_9 rfl (gz_b (by omega)) ((hw 32 (by decide) (by decide)).trans (wl_at (i := 32) rfl)) rfl dX10_makes_23 ?_
  refine go_iconst (pc := 26) (v := 1) dX10_makes_26 (by decide) ?_
  refine go_iald (pc := 27) (gz_b (by omega)) ((hw 33 (by decide) (by decide)).trans (wl_at (i := 33) rfl)) (gv_in (by decide)) dX10_makes_27 ?_
  refine go_top (y := 0) rfl ?_
  refine go_sipush (pc := 28) (v := 500) dX10_makes_28 (by decide) ?_
  refine go_icmp_ne_t (pc := 31) (tgt := 40) dX10_makes_31 (by decide) (by decide) ?_
  refine go_iload_n (pc := 40) dX10_makes_40 rfl rfl ?_
  refine go_iload_n (pc := 41) dX10_makes_41 rfl rfl ?_
  refine go_callS_i (pc := 42) sX10_75 rfl (cX10_sizeOf_6 x2 hn hw) rfl rfl (Nat.le_of_ble_eq_true rfl) ⟨Nat.le_of_ble_eq_true rfl, Nat.le_of_ble_eq_true rfl, (Nat.le_add_right _ _), (Nat.le_add_right _ _)⟩ dX10_makes_42 ?_
  refine go_istore (pc := 45) (lv' := [(4, .int (2 + ((x2 + 3) / 4))), (3, .int x2), (0, .ref (G.2.1 + 32)), (1, .int 2), (2, .int x2)]) dX10_makes_45 (by decide) rfl ?_
  refine go_iload (pc := 47) dX10_makes_47 rfl ?_
  refine go_aload_n (pc := 49) dX10_makes_49 rfl rfl ?_
  refine go_get (pc := 50) fX10_9 rfl (gz_b (by omega)) ((hw 32 (by decide) (by decide)).trans (wl_at (i := 32) rfl)) rfl dX10_makes_50 ?_
  refine go_iconst (pc := 53) (v := 0) dX10_makes_53 (by decide) ?_
  refine go_iald (pc := 54) (gz_b (by omega)) ((hw 33 (by decide) (by decide)).trans (wl_at (i := 33) rfl)) (gv_in (by decide)) dX10_makes_54 ?_
  refine go_top (y := 256) rfl ?_
  refine go_aload_n (pc := 55) dX10_makes_55 rfl rfl ?_
  refine go_get (pc := 56) fX10_9 rfl (gz_b (by omega)) ((hw 32 (by decide) (by decide)).trans (wl_at (i := 32) rfl)) rfl dX10_makes_56 ?_
  refine go_bipush (pc := 59) (v := 16) dX10_makes_59 (by decide) ?_
  refine go_iald (pc := 61) (gz_b (by omega)) ((hw 33 (by decide) (by decide)).trans (wl_at (i := 33) rfl)) (gv_in (by decide)) dX10_makes_61 ?_
  refine go_top (y := 0) rfl ?_
  refine go_isub (pc := 62) dX10_makes_62 ?_
  refine go_top (y := 256) (by decide) ?_
  refine go_icmp_le_t (pc := 63) (tgt := 127) dX10_makes_63 (by decide) k2 ?_
  refine go_aload_n (pc := 127) dX10_makes_127 rfl rfl ?_
  refine go_get (pc := 128) fX10_9 rfl (gz_b (by omega)) ((hw 32 (by decide) (by decide)).trans (wl_at (i := 32) rfl)) rfl dX10_makes_128 ?_
  refine go_iconst (pc := 131) (v := 1) dX10_makes_131 (by decide) ?_
  refine go_iald (pc := 132) (gz_b (by omega)) ((hw 33 (by decide) (by decide)).trans (wl_at (i := 33) rfl)) (gv_in (by decide)) dX10_makes_132 ?_
  refine go_top (y := 0) rfl ?_
  refine go_istore (pc := 133) (lv' := [(5, .int 0), (4, .int (2 + ((x2 + 3) / 4))), (3, .int x2), (0, .ref (G.2.1 + 32)), (1, .int 2), (2, .int x2)]) dX10_makes_133 (by decide) rfl ?_
  refine go_aload_n (pc := 135) dX10_makes_135 rfl rfl ?_
  refine go_get (pc := 136) fX10_9 rfl (gz_b (by omega)) ((hw 32 (by decide) (by decide)).trans (wl_at (i := 32) rfl)) rfl dX10_makes_136 ?_
  refine go_iconst (pc := 139) (v := 1) dX10_makes_139 (by decide) ?_
  refine go_dup2 (pc := 140) dX10_makes_140 rfl rfl ?_
  refine go_iald (pc := 141) (gz_b (by omega)) ((hw 33 (by decide) (by decide)).trans (wl_at (i := 33) rfl)) (gv_in (by decide)) dX10_makes_141 ?_
  refine go_top (y := 0) rfl ?_
  refine go_iconst (pc := 142) (v := 1) dX10_makes_142 (by decide) ?_
  refine go_iadd (pc := 143) dX10_makes_143 ?_
  refine go_top (y := 1) (by decide) ?_
  refine go_iast (pc := 144) (gz_b (by omega)) ((hw 33 (by decide) (by decide)).trans (wl_at (i := 33) rfl)) (gv_in (by decide)) dX10_makes_144 ?_
  refine go_aload_n (pc := 145) dX10_makes_145 rfl rfl ?_
  refine go_get (pc := 146) fX10_9 rfl (gz_b (by omega)) ((va_up_ne _ _ (gz_ne (by decide))).trans ((hw 32 (by decide) (by decide)).trans (wl_at (i := 32) rfl))) rfl dX10_makes_146 ?_
  refine go_iconst (pc := 149) (v := 2) dX10_makes_149 (by decide) ?_
  refine go_dup2 (pc := 150) dX10_makes_150 rfl rfl ?_
  refine go_iald (pc := 151) (gz_b (by omega)) (va_up_self _ _ _) (gv_in (by decide)) dX10_makes_151 ?_
  refine go_top (y := 0) rfl ?_
  refine go_iconst (pc := 152) (v := 1) dX10_makes_152 (by decide) ?_
  refine go_iadd (pc := 153) dX10_makes_153 ?_
  refine go_top (y := 1) (by decide) ?_
  refine go_iast (pc := 154) (gz_b (by omega)) (va_up_self _ _ _) (gv_in (by decide)) dX10_makes_154 ?_
  refine go_w (va_up_up _ _ _ _) ?_
  refine go_aload_n (pc := 155) dX10_makes_155 rfl rfl ?_
  refine go_iload (pc := 156) dX10_makes_156 rfl ?_
  refine go_iconst (pc := 158) (v := 0) dX10_makes_158 (by decide) ?_
  refine go_iconst (pc := 159) (v := 1) dX10_makes_159 (by decide) ?_
  refine go_callV_v (pc := 160) vX10_82 rfl (cX10_lets_1 hn hw) rfl rfl (gz_b (by omega)) ((va_up_ne _ _ (gz_ne (by decide))).trans ((hw 32 (by decide) (by decide)).trans (wl_at (i := 32) rfl))) rfl (Nat.le_of_ble_eq_true rfl) ⟨Nat.le_of_ble_eq_true rfl, Nat.le_of_ble_eq_true rfl, (Nat.le_add_right _ _), (Nat.le_add_right _ _)⟩ dX10_makes_160 ?_
  refine go_aload_n (pc := 163) dX10_makes_163 rfl rfl ?_
  refine go_iload (pc := 164) dX10_makes_164 rfl ?_
  refine go_iconst (pc := 166) (v := 1) dX10_makes_166 (by decide) ?_
  refine go_iload_n (pc := 167) dX10_makes_167 rfl rfl ?_
  refine go_callV_v (pc := 168) vX10_82 rfl (cX10_lets_22 hn hw) rfl rfl (gz_b (by omega)) ((va_up_ne _ _ (gz_ne (by decide))).trans ((hw 32 (by decide) (by decide)).trans (wl_at (i := 32) rfl))) rfl (Nat.le_of_ble_eq_true rfl) ⟨Nat.le_of_ble_eq_true rfl, Nat.le_of_ble_eq_true rfl, (Nat.le_add_right _ _), (Nat.le_add_right _ _)⟩ dX10_makes_168 ?_
  refine go_aload_n (pc := 171) dX10_makes_171 rfl rfl ?_
  refine go_iload (pc := 172) dX10_makes_172 rfl ?_
  refine go_iconst (pc := 174) (v := 2) dX10_makes_174 (by decide) ?_
  refine go_aload_n (pc := 175) dX10_makes_175 rfl rfl ?_
  refine go_get (pc := 176) fX10_9 rfl (gz_b (by omega)) ((va_up_ne _ _ (gz_ne (by decide))).trans ((hw 32 (by decide) (by decide)).trans (wl_at (i := 32) rfl))) rfl dX10_makes_176 ?_
  refine go_bipush (pc := 179) (v := 16) dX10_makes_179 (by decide) ?_
  refine go_iald (pc := 181) (gz_b (by omega)) (va_up_self _ _ _) (gv_in (by decide)) dX10_makes_181 ?_
  refine go_top (y := 0) rfl ?_
  refine go_callV_v (pc := 182) vX10_82 rfl (cX10_lets_23 hn hw) rfl rfl (gz_b (by omega)) ((va_up_ne _ _ (gz_ne (by decide))).trans ((hw 32 (by decide) (by decide)).trans (wl_at (i := 32) rfl))) rfl (Nat.le_of_ble_eq_true rfl) ⟨Nat.le_of_ble_eq_true rfl, Nat.le_of_ble_eq_true rfl, (Nat.le_add_right _ _), (Nat.le_add_right _ _)⟩ dX10_makes_182 ?_
  refine go_aload_n (pc := 185) dX10_makes_185 rfl rfl ?_
  refine go_iload (pc := 186) dX10_makes_186 rfl ?_
  refine go_iconst (pc := 188) (v := 3) dX10_makes_188 (by decide) ?_
  refine go_iload_n (pc := 189) dX10_makes_189 rfl rfl ?_
  refine go_callV_v (pc := 190) vX10_82 rfl (cX10_lets_24 x2 hn hw) rfl rfl (gz_b (by omega)) ((va_up_ne _ _ (gz_ne (by decide))).trans ((hw 32 (by decide) (by decide)).trans (wl_at (i := 32) rfl))) rfl (Nat.le_of_ble_eq_true rfl) ⟨Nat.le_of_ble_eq_true rfl, Nat.le_of_ble_eq_true rfl, (Nat.le_add_right _ _), (Nat.le_add_right _ _)⟩ dX10_makes_190 ?_
  refine go_aload_n (pc := 193) dX10_makes_193 rfl rfl ?_
  refine go_iload (pc := 194) dX10_makes_194 rfl ?_
  refine go_iconst (pc := 196) (v := 4) dX10_makes_196 (by decide) ?_
  refine go_iconst (pc := 197) (v := 0) dX10_makes_197 (by decide) ?_
  refine go_callV_v (pc := 198) vX10_82 rfl (cX10_lets_25 x2 hn hw) rfl rfl (gz_b (by omega)) ((va_up_ne _ _ (gz_ne (by decide))).trans ((hw 32 (by decide) (by decide)).trans (wl_at (i := 32) rfl))) rfl (Nat.le_of_ble_eq_true rfl) ⟨Nat.le_of_ble_eq_true rfl, Nat.le_of_ble_eq_true rfl, (Nat.le_add_right _ _), (Nat.le_add_right _ _)⟩ dX10_makes_198 ?_
  refine go_aload_n (pc := 201) dX10_makes_201 rfl rfl ?_
  refine go_iload (pc := 202) dX10_makes_202 rfl ?_
  refine go_iconst (pc := 204) (v := 5) dX10_makes_204 (by decide) ?_
  refine go_iconst (pc := 205) (v := 0) dX10_makes_205 (by decide) ?_
  refine go_callV_v (pc := 206) vX10_82 rfl (cX10_lets_26 x2 hn hw) rfl rfl (gz_b (by omega)) ((va_up_ne _ _ (gz_ne (by decide))).trans ((hw 32 (by decide) (by decide)).trans (wl_at (i := 32) rfl))) rfl (Nat.le_of_ble_eq_true rfl) ⟨Nat.le_of_ble_eq_true rfl, Nat.le_of_ble_eq_true rfl, (Nat.le_add_right _ _), (Nat.le_add_right _ _)⟩ dX10_makes_206 ?_
  refine go_aload_n (pc := 209) dX10_makes_209 rfl rfl ?_
  refine go_get (pc := 210) fX10_9 rfl (gz_b (by omega)) ((va_up_ne _ _ (gz_ne (by decide))).trans ((hw 32 (by decide) (by decide)).trans (wl_at (i := 32) rfl))) rfl dX10_makes_210 ?_
  refine go_sipush (pc := 213) (v := 6100) dX10_makes_213 (by decide) ?_
  refine go_aload_n (pc := 216) dX10_makes_216 rfl rfl ?_
  refine go_get (pc := 217) fX10_9 rfl (gz_b (by omega)) ((va_up_ne _ _ (gz_ne (by decide))).trans ((hw 32 (by decide) (by decide)).trans (wl_at (i := 32) rfl))) rfl dX10_makes_217 ?_
  refine go_bipush (pc := 220) (v := 16) dX10_makes_220 (by decide) ?_
  refine go_iald (pc := 222) (gz_b (by omega)) (va_up_self _ _ _) (gv_in (by decide)) dX10_makes_222 ?_
  refine go_top (y := 0) rfl ?_
  refine go_iadd (pc := 223) dX10_makes_223 ?_
  refine go_top (y := 6100) (by decide) ?_
  refine go_bipush (pc := 224) (v := 8) dX10_makes_224 (by decide) ?_
  refine go_iload (pc := 226) dX10_makes_226 rfl ?_
  refine go_imul (pc := 228) dX10_makes_228 ?_
  refine go_top (y := 0) (by decide) ?_
  refine go_iload_n (pc := 229) dX10_makes_229 rfl rfl ?_
  refine go_iadd (pc := 230) dX10_makes_230 ?_
  refine go_top (y := 2) (by decide) ?_
  refine go_iast (pc := 231) (gz_b (by omega)) (va_up_self _ _ _) (gv_in (by decide)) dX10_makes_231 ?_
  refine go_w (va_up_up _ _ _ _) ?_
  refine go_iload_n (pc := 232) dX10_makes_232 rfl rfl ?_
  refine go_callS_i (pc := 233) sX10_138 rfl (cX10_hasMany_11 x2 hn hw) rfl rfl (Nat.le_of_ble_eq_true rfl) ⟨Nat.le_of_ble_eq_true rfl, Nat.le_of_ble_eq_true rfl, (Nat.le_add_right _ _), (Nat.le_add_right _ _)⟩ dX10_makes_233 ?_
  refine go_if_eq_f (pc := 236) (tgt := 258) dX10_makes_236 (by decide) (by decide) ?_
  refine go_aload_n (pc := 239) dX10_makes_239 rfl rfl ?_
  refine go_get (pc := 240) fX10_9 rfl (gz_b (by omega)) ((va_up_ne _ _ (gz_ne (by decide))).trans ((hw 32 (by decide) (by decide)).trans (wl_at (i := 32) rfl))) rfl dX10_makes_240 ?_
  refine go_sipush (pc := 243) (v := 6100) dX10_makes_243 (by decide) ?_
  refine go_aload_n (pc := 246) dX10_makes_246 rfl rfl ?_
  refine go_get (pc := 247) fX10_9 rfl (gz_b (by omega)) ((va_up_ne _ _ (gz_ne (by decide))).trans ((hw 32 (by decide) (by decide)).trans (wl_at (i := 32) rfl))) rfl dX10_makes_247 ?_
  refine go_bipush (pc := 250) (v := 16) dX10_makes_250 (by decide) ?_
  refine go_iald (pc := 252) (gz_b (by omega)) (va_up_self _ _ _) (gv_in (by decide)) dX10_makes_252 ?_
  refine go_top (y := 0) rfl ?_
  refine go_iadd (pc := 253) dX10_makes_253 ?_
  refine go_top (y := 6100) (by decide) ?_
  refine go_iconst (pc := 254) (v := 1) dX10_makes_254 (by decide) ?_
  refine go_iadd (pc := 255) dX10_makes_255 ?_
  refine go_top (y := 6101) (by decide) ?_
  refine go_iload_n (pc := 256) dX10_makes_256 rfl rfl ?_
  refine go_iast (pc := 257) (gz_b (by omega)) (va_up_self _ _ _) (gv_in (by decide)) dX10_makes_257 ?_
  refine go_w (va_up_up _ _ _ _) ?_
  refine go_aload_n (pc := 258) dX10_makes_258 rfl rfl ?_
  refine go_iload (pc := 259) dX10_makes_259 rfl ?_
  refine go_callV_i (pc := 261) vX10_90 rfl (cX10_linksOf_5 x2 hn hw) rfl rfl (gz_b (by omega)) ((va_up_ne _ _ (gz_ne (by decide))).trans ((hw 32 (by decide) (by decide)).trans (wl_at (i := 32) rfl))) rfl (Nat.le_of_ble_eq_true rfl) ⟨Nat.le_of_ble_eq_true rfl, Nat.le_of_ble_eq_true rfl, (Nat.le_add_right _ _), (Nat.le_add_right _ _)⟩ dX10_makes_261 ?_
  refine go_istore (pc := 264) (lv' := [(6, .int 0), (5, .int 0), (4, .int (2 + ((x2 + 3) / 4))), (3, .int x2), (0, .ref (G.2.1 + 32)), (1, .int 2), (2, .int x2)]) dX10_makes_264 (by decide) rfl ?_
  refine go_iconst (pc := 266) (v := 0) dX10_makes_266 (by decide) ?_
  refine go_istore (pc := 267) (lv' := [(7, .int 0), (6, .int 0), (5, .int 0), (4, .int (2 + ((x2 + 3) / 4))), (3, .int x2), (0, .ref (G.2.1 + 32)), (1, .int 2), (2, .int x2)]) dX10_makes_267 (by decide) rfl ?_
  refine go_iload (pc := 269) dX10_makes_269 rfl ?_
  refine go_iload (pc := 271) dX10_makes_271 rfl ?_
  refine go_icmp_ge_t (pc := 273) (tgt := 296) dX10_makes_273 (by decide) (by decide) ?_
  refine go_iload_n (pc := 296) dX10_makes_296 rfl rfl ?_
  refine go_iconst (pc := 297) (v := 3) dX10_makes_297 (by decide) ?_
  refine go_icmp_eq_f (pc := 298) (tgt := 306) dX10_makes_298 (by decide) (by decide) ?_
  refine go_iload_n (pc := 301) dX10_makes_301 rfl rfl ?_
  refine go_iconst (pc := 302) (v := 4) dX10_makes_302 (by decide) ?_
  refine go_icmp_ne_t (pc := 303) (tgt := 318) dX10_makes_303 (by decide) (by decide) ?_
  refine go_aload_n (pc := 318) dX10_makes_318 rfl rfl ?_
  refine go_get (pc := 319) fX10_9 rfl (gz_b (by omega)) ((va_up_ne _ _ (gz_ne (by decide))).trans ((hw 32 (by decide) (by decide)).trans (wl_at (i := 32) rfl))) rfl dX10_makes_319 ?_
  refine go_bipush (pc := 322) (v := 16) dX10_makes_322 (by decide) ?_
  refine go_dup2 (pc := 324) dX10_makes_324 rfl rfl ?_
  refine go_iald (pc := 325) (gz_b (by omega)) (va_up_self _ _ _) (gv_in (by decide)) dX10_makes_325 ?_
  refine go_top (y := 0) rfl ?_
  refine go_iload (pc := 326) dX10_makes_326 rfl ?_
  refine go_iadd (pc := 328) dX10_makes_328 ?_
  refine go_iast (pc := 329) (gz_b (by omega)) (va_up_self _ _ _) (gv_in (by decide)) dX10_makes_329 ?_
  refine go_w (va_up_up _ _ _ _) ?_
  refine go_aload_n (pc := 330) dX10_makes_330 rfl rfl ?_
  refine go_get (pc := 331) fX10_9 rfl (gz_b (by omega)) ((va_up_ne _ _ (gz_ne (by decide))).trans ((hw 32 (by decide) (by decide)).trans (wl_at (i := 32) rfl))) rfl dX10_makes_331 ?_
  refine go_iconst (pc := 334) (v := 3) dX10_makes_334 (by decide) ?_
  refine go_iald (pc := 335) (gz_b (by omega)) (va_up_self _ _ _) (gv_in (by decide)) dX10_makes_335 ?_
  refine go_top (y := 0) rfl ?_
  refine go_iconst (pc := 336) (v := 1) dX10_makes_336 (by decide) ?_
  refine go_icmp_ne_t (pc := 337) (tgt := 349) dX10_makes_337 (by decide) (by decide) ?_
  refine go_iload (pc := 349) dX10_makes_349 rfl ?_
  exact go_iret (pc := 351) rfl dX10_makes_351
set_option maxRecDepth 100000 in
set_option maxHeartbeats 4000000 in
theorem cX10_answers_9 {l : Launch} {G : gG} (x2 : Int32) {n k : Nat} {w : Nat → va_E} (hn : 42 ≤ n) (hw : ∀ i, 32 ≤ i → i < 42 → w (G.2.1 + i) = wl G.2.1 (LF G) (G.2.1 + i)) : Ct l G mX10_answers 1 25 [.ref (G.2.1 + 32), .int 0] n k (va_up w (G.2.1 + 33) (ai G 26100 (upd (upd (upd (upd (upd (upd (upd (upd (upd (upd (upd (sx 256) (1 : Int32).toNatClampNeg 1) (2 : Int32).toNatClampNeg 1) (1100 : Int32).toNatClampNeg 1) (1101 : Int32).toNatClampNeg 2) (1102 : Int32).toNatClampNeg 0) (1103 : Int32).toNatClampNeg x2) (1104 : Int32).toNatClampNeg 0) (1105 : Int32).toNatClampNeg 0) (6100 : Int32).toNatClampNeg 2) (6101 : Int32).toNatClampNeg x2) (16 : Int32).toNatClampNeg (0 + (2 + ((x2 + 3) / 4)))))) (some (.int 0), n, k, (va_up (va_up w (G.2.1 + 33) (ai G 26100 (upd (upd (upd (upd (upd (upd (upd (upd (upd (upd (upd (sx 256) (1 : Int32).toNatClampNeg 1) (2 : Int32).toNatClampNeg 1) (1100 : Int32).toNatClampNeg 1) (1101 : Int32).toNatClampNeg 2) (1102 : Int32).toNatClampNeg 0) (1103 : Int32).toNatClampNeg x2) (1104 : Int32).toNatClampNeg 0) (1105 : Int32).toNatClampNeg 0) (6100 : Int32).toNatClampNeg 2) (6101 : Int32).toNatClampNeg x2) (16 : Int32).toNatClampNeg (0 + (2 + ((x2 + 3) / 4)))))) (G.2.1 + 32) (ob 10 [.ref (G.2.1 + 33), .ref (G.2.1 + 34), .ref (G.2.1 + 35), .int 0, .int 0, .int 0, .int 0, .int 0, .ref (G.2.1 + 36), .ref (G.2.1 + 37), .ref (G.2.1 + 38), .ref (G.2.1 + 39), .int 0, .ref (G.2.1 + 40), .int 0, .ref (G.2.1 + 41)]))) := by
  refine Ct.of (by decide) (Nat.le_of_ble_eq_true rfl) ⟨Nat.le_refl _, Nat.le_refl _⟩ ?_
  show Go l G mX10_answers _ 0 [(0, .ref (G.2.1 + 32)), (1, .int 0)] [] n k (va_up w (G.2.1 + 33) (ai G 26100 (upd (upd (upd (upd (upd (upd (upd (upd (upd (upd (upd (sx 256) (1 : Int32).toNatClampNeg 1) (2 : Int32).toNatClampNeg 1) (1100 : Int32).toNatClampNeg 1) (1101 : Int32).toNatClampNeg 2) (1102 : Int32).toNatClampNeg 0) (1103 : Int32).toNatClampNeg x2) (1104 : Int32).toNatClampNeg 0) (1105 : Int32).toNatClampNeg 0) (6100 : Int32).toNatClampNeg 2) (6101 : Int32).toNatClampNeg x2) (16 : Int32).toNatClampNeg (0 + (2 + ((x2 + 3) / 4))))))
  refine go_aload_n (pc := 0) dX10_answers_0 rfl rfl ?_
  refine go_iload_n (pc := 1) dX10_answers_1 rfl rfl ?_
  refine go_i2l (pc := 2) dX10_answers_2 ?_
  refine go_topl (y := 0) (by decide) ?_
  refine go_ldc2 (pc := 3) rfl qX10_78 dX10_answers_3 ?_
  refine go_ldc2 (pc := 6) rfl qX10_80 dX10_answers_6 ?_
  refine go_callS_i (pc := 9) sX10_63 rfl (ct_in 0 ((-18)) ((-11))) rfl rfl (Nat.le_of_ble_eq_true rfl) ⟨Nat.le_of_ble_eq_true rfl, Nat.le_of_ble_eq_true rfl, (Nat.le_add_right _ _), (Nat.le_add_right _ _)⟩ dX10_answers_9 ?_
  refine go_top (y := 0) (by decide) ?_
  refine go_if_eq_t (pc := 12) (tgt := 22) dX10_answers_12 (by decide) (by decide) ?_
  refine go_iconst (pc := 22) (v := 0) dX10_answers_22 (by decide) ?_
  refine go_put (pc := 23) fX10_49 rfl (gz_b (by omega)) ((va_up_ne _ _ (gz_ne (by decide))).trans ((hw 32 (by decide) (by decide)).trans (wl_at (i := 32) rfl))) (Nat.le_of_ble_eq_true rfl) rfl rfl dX10_answers_23 ?_
  refine go_iload_n (pc := 26) dX10_answers_26 rfl rfl ?_
  exact go_iret (pc := 27) rfl dX10_answers_27
set_option maxRecDepth 100000 in
set_option maxHeartbeats 4000000 in
theorem cm_make_2d_o {l : Launch} {G : gG} (x2 : Int32) (k0 : x2 ≤ 300) (k1 : 0 ≤ x2) (k4 : ¬ x2 < 0) (k2 : 2 + ((x2 + 3) / 4) ≤ 256) {n k : Nat} {w : Nat → va_E} (hn : 42 ≤ n) (hw : ∀ i, 32 ≤ i → i < 42 → w (G.2.1 + i) = wl G.2.1 (LF G) (G.2.1 + i)) : Ct l G mX10_make 3 71 [.ref (G.2.1 + 32), .int 2, .int x2] n k w (some (.int 0), n, k, (va_up (va_up w (G.2.1 + 33) (ai G 26100 (upd (upd (upd (upd (upd (upd (upd (upd (upd (upd (upd (sx 256) (1 : Int32).toNatClampNeg 1) (2 : Int32).toNatClampNeg 1) (1100 : Int32).toNatClampNeg 1) (1101 : Int32).toNatClampNeg 2) (1102 : Int32).toNatClampNeg 0) (1103 : Int32).toNatClampNeg x2) (1104 : Int32).toNatClampNeg 0) (1105 : Int32).toNatClampNeg 0) (6100 : Int32).toNatClampNeg 2) (6101 : Int32).toNatClampNeg x2) (16 : Int32).toNatClampNeg (0 + (2 + ((x2 + 3) / 4)))))) (G.2.1 + 32) (ob 10 [.ref (G.2.1 + 33), .ref (G.2.1 + 34), .ref (G.2.1 + 35), .int 0, .int 0, .int 0, .int 0, .int 0, .ref (G.2.1 + 36), .ref (G.2.1 + 37), .ref (G.2.1 + 38), .ref (G.2.1 + 39), .int 0, .ref (G.2.1 + 40), .int 0, .ref (G.2.1 + 41)]))) := by
  refine Ct.of (by decide) (Nat.le_of_ble_eq_true rfl) ⟨Nat.le_refl _, Nat.le_refl _⟩ ?_
  show Go l G mX10_make _ 0 [(0, .ref (G.2.1 + 32)), (1, .int 2), (2, .int x2)] [] n k w
  refine go_iload_n (pc := 0) dX10_make_0 rfl rfl ?_
  refine go_i2l (pc := 1) dX10_make_1 ?_
  refine go_topl (y := 2) (by decide) ?_
  refine go_lconst (pc := 2) (v := 0) dX10_make_2 (by decide) ?_
  refine go_ldc2 (pc := 3) rfl qX10_150 dX10_make_3 ?_
  refine go_callS_i (pc := 6) sX10_63 rfl (ct_in 2 0 5) rfl rfl (Nat.le_of_ble_eq_true rfl) ⟨Nat.le_of_ble_eq_true rfl, Nat.le_of_ble_eq_true rfl, (Nat.le_add_right _ _), (Nat.le_add_right _ _)⟩ dX10_make_6 ?_
  refine go_top (y := 1) (by decide) ?_
  refine go_if_eq_f (pc := 9) (tgt := 26) dX10_make_9 (by decide) (by decide) ?_
  refine go_iload_n (pc := 12) dX10_make_12 rfl rfl ?_
  refine go_callS_i (pc := 13) sX10_138 rfl (cX10_hasMany_10 hn hw) rfl rfl (Nat.le_of_ble_eq_true rfl) ⟨Nat.le_of_ble_eq_true rfl, Nat.le_of_ble_eq_true rfl, (Nat.le_add_right _ _), (Nat.le_add_right _ _)⟩ dX10_make_13 ?_
  refine go_if_eq_f (pc := 16) (tgt := 29) dX10_make_16 (by decide) (by decide) ?_
  refine go_iload_n (pc := 19) dX10_make_19 rfl rfl ?_
  refine go_sipush (pc := 20) (v := 300) dX10_make_20 (by decide) ?_
  refine go_icmp_le_t (pc := 23) (tgt := 29) dX10_make_23 (by decide) k0 ?_
  refine go_aload_n (pc := 29) dX10_make_29 rfl rfl ?_
  refine go_aload_n (pc := 30) dX10_make_30 rfl rfl ?_
  refine go_iload_n (pc := 31) dX10_make_31 rfl rfl ?_
  refine go_iload_n (pc := 32) dX10_make_32 rfl rfl ?_
  refine go_callV_i (pc := 33) vX10_152 rfl (cX10_makes_9 x2 k0 k1 k4 k2 hn hw) rfl rfl (gz_b (by omega)) ((hw 32 (by decide) (by decide)).trans (wl_at (i := 32) rfl)) rfl (Nat.le_of_ble_eq_true rfl) ⟨Nat.le_of_ble_eq_true rfl, Nat.le_of_ble_eq_true rfl, (Nat.le_add_right _ _), (Nat.le_add_right _ _)⟩ dX10_make_33 ?_
  refine go_callV_i (pc := 36) vX10_155 rfl (cX10_answers_9 x2 hn hw) rfl rfl (gz_b (by omega)) ((va_up_ne _ _ (gz_ne (by decide))).trans ((hw 32 (by decide) (by decide)).trans (wl_at (i := 32) rfl))) rfl (Nat.le_of_ble_eq_true rfl) ⟨Nat.le_of_ble_eq_true rfl, Nat.le_of_ble_eq_true rfl, (Nat.le_add_right _ _), (Nat.le_add_right _ _)⟩ dX10_make_36 ?_
  exact go_iret (pc := 39) rfl dX10_make_39
theorem cm_make_2d {l : Launch} {G : gG} (x2 : Int32) (k0 : x2 ≤ 300) (k1 : 0 ≤ x2) (k4 : ¬ x2 < 0) (k2 : 2 + ((x2 + 3) / 4) ≤ 256) : CM l G mX10_make [.ref (G.2.1 + 32), .int 2, .int x2] 0 := by
  intro n k w hn hw
  exact ⟨3, 71, _, by decide, by decide, cm_make_2d_o x2 k0 k1 k4 k2 hn hw⟩
set_option maxRecDepth 100000 in
set_option maxHeartbeats 4000000 in
theorem cX10_hasMany_12 {l : Launch} {G : gG} {n k : Nat} {w : Nat → va_E} (hn : 42 ≤ n) (hw : ∀ i, 32 ≤ i → i < 42 → w (G.2.1 + i) = wl G.2.1 (LF G) (G.2.1 + i)) : Ct l G mX10_hasMany 0 0 [.int 5] n k w (some (.int 1), n, k, w) := by
  refine Ct.of (by decide) (Nat.le_of_ble_eq_true rfl) ⟨Nat.le_refl _, Nat.le_refl _⟩ ?_
  show Go l G mX10_hasMany _ 0 [(0, .int 5)] [] n k w
  refine go_iload_n (pc := 0) dX10_hasMany_0 rfl rfl ?_
  refine go_iconst (pc := 1) (v := 1) dX10_hasMany_1 (by decide) ?_
  refine go_icmp_eq_f (pc := 2) (tgt := 15) dX10_hasMany_2 (by decide) (by decide) ?_
  refine go_iload_n (pc := 5) dX10_hasMany_5 rfl rfl ?_
  refine go_iconst (pc := 6) (v := 2) dX10_hasMany_6 (by decide) ?_
  refine go_icmp_eq_f (pc := 7) (tgt := 15) dX10_hasMany_7 (by decide) (by decide) ?_
  refine go_iload_n (pc := 10) dX10_hasMany_10 rfl rfl ?_
  refine go_iconst (pc := 11) (v := 5) dX10_hasMany_11 (by decide) ?_
  refine go_icmp_ne_f (pc := 12) (tgt := 19) dX10_hasMany_12 (by decide) (by decide) ?_
  refine go_iconst (pc := 15) (v := 1) dX10_hasMany_15 (by decide) ?_
  refine go_goto (pc := 16) (tgt := 20) dX10_hasMany_16 (by decide) ?_
  exact go_zret (pc := 20) rfl rfl dX10_hasMany_20
set_option maxRecDepth 100000 in
set_option maxHeartbeats 4000000 in
theorem cm_make_5a_o {l : Launch} {G : gG} (x2 : Int32) (k0 : ¬ x2 ≤ 300) {n k : Nat} {w : Nat → va_E} (hn : 42 ≤ n) (hw : ∀ i, 32 ≤ i → i < 42 → w (G.2.1 + i) = wl G.2.1 (LF G) (G.2.1 + i)) : Ct l G mX10_make 1 25 [.ref (G.2.1 + 32), .int 5, .int x2] n k w (some (.int ((-102))), n, k, w) := by
  refine Ct.of (by decide) (Nat.le_of_ble_eq_true rfl) ⟨Nat.le_refl _, Nat.le_refl _⟩ ?_
  show Go l G mX10_make _ 0 [(0, .ref (G.2.1 + 32)), (1, .int 5), (2, .int x2)] [] n k w
  refine go_iload_n (pc := 0) dX10_make_0 rfl rfl ?_
  refine go_i2l (pc := 1) dX10_make_1 ?_
  refine go_topl (y := 5) (by decide) ?_
  refine go_lconst (pc := 2) (v := 0) dX10_make_2 (by decide) ?_
  refine go_ldc2 (pc := 3) rfl qX10_150 dX10_make_3 ?_
  refine go_callS_i (pc := 6) sX10_63 rfl (ct_in 5 0 5) rfl rfl (Nat.le_of_ble_eq_true rfl) ⟨Nat.le_of_ble_eq_true rfl, Nat.le_of_ble_eq_true rfl, (Nat.le_add_right _ _), (Nat.le_add_right _ _)⟩ dX10_make_6 ?_
  refine go_top (y := 1) (by decide) ?_
  refine go_if_eq_f (pc := 9) (tgt := 26) dX10_make_9 (by decide) (by decide) ?_
  refine go_iload_n (pc := 12) dX10_make_12 rfl rfl ?_
  refine go_callS_i (pc := 13) sX10_138 rfl (cX10_hasMany_12 hn hw) rfl rfl (Nat.le_of_ble_eq_true rfl) ⟨Nat.le_of_ble_eq_true rfl, Nat.le_of_ble_eq_true rfl, (Nat.le_add_right _ _), (Nat.le_add_right _ _)⟩ dX10_make_13 ?_
  refine go_if_eq_f (pc := 16) (tgt := 29) dX10_make_16 (by decide) (by decide) ?_
  refine go_iload_n (pc := 19) dX10_make_19 rfl rfl ?_
  refine go_sipush (pc := 20) (v := 300) dX10_make_20 (by decide) ?_
  refine go_icmp_le_f (pc := 23) (tgt := 29) dX10_make_23 (by decide) k0 ?_
  refine go_bipush (pc := 26) (v := (-102)) dX10_make_26 (by decide) ?_
  exact go_iret (pc := 28) rfl dX10_make_28
theorem cm_make_5a {l : Launch} {G : gG} (x2 : Int32) (k0 : ¬ x2 ≤ 300) : CM l G mX10_make [.ref (G.2.1 + 32), .int 5, .int x2] ((-102)) := by
  intro n k w hn hw
  exact ⟨1, 25, _, by decide, by decide, cm_make_5a_o x2 k0 hn hw⟩
set_option maxRecDepth 100000 in
set_option maxHeartbeats 4000000 in
theorem cX10_makes_10 {l : Launch} {G : gG} (x2 : Int32) (k0 : x2 ≤ 300) (k1 : ¬ 0 ≤ x2) (k4 : x2 < 0) {n k : Nat} {w : Nat → va_E} (hn : 42 ≤ n) (hw : ∀ i, 32 ≤ i → i < 42 → w (G.2.1 + i) = wl G.2.1 (LF G) (G.2.1 + i)) : Ct l G mX10_makes 1 20 [.ref (G.2.1 + 32), .int 5, .int x2] n k w (some (.int ((-14))), n, k, w) := by
  refine Ct.of (by decide) (Nat.le_of_ble_eq_true rfl) ⟨Nat.le_refl _, Nat.le_refl _⟩ ?_
  show Go l G mX10_makes _ 0 [(0, .ref (G.2.1 + 32)), (1, .int 5), (2, .int x2)] [] n k w
  refine go_iload_n (pc := 0) dX10_makes_0 rfl rfl ?_
  refine go_callS_i (pc := 1) sX10_138 rfl (cX10_hasMany_12 hn hw) rfl rfl (Nat.le_of_ble_eq_true rfl) ⟨Nat.le_of_ble_eq_true rfl, Nat.le_of_ble_eq_true rfl, (Nat.le_add_right _ _), (Nat.le_add_right _ _)⟩ dX10_makes_1 ?_
  refine go_if_eq_f (pc := 4) (tgt := 11) dX10_makes_4 (by decide) (by decide) ?_
  refine go_iload_n (pc := 7) dX10_makes_7 rfl rfl ?_
  refine go_goto (pc := 8) (tgt := 12) dX10_makes_8 (by decide) ?_
  refine go_istore_n (pc := 12) (lv' := [(3, .int x2), (0, .ref (G.2.1 + 32)), (1, .int 5), (2, .int x2)]) dX10_makes_12 rfl (by decide) rfl ?_
  refine go_iload_n (pc := 13) dX10_makes_13 rfl rfl ?_
  refine go_if_ge_f (pc := 14) (tgt := 22) dX10_makes_14 (by decide) k1 ?_
  refine go_iconst (pc := 17) (v := 4) dX10_makes_17 (by decide) ?_
  refine go_callS_i (pc := 18) sX10_141 rfl (cX10_fails_3 hn hw) rfl rfl (Nat.le_of_ble_eq_true rfl) ⟨Nat.le_of_ble_eq_true rfl, Nat.le_of_ble_eq_true rfl, (Nat.le_add_right _ _), (Nat.le_add_right _ _)⟩ dX10_makes_18 ?_
  exact go_iret (pc := 21) rfl dX10_makes_21
set_option maxRecDepth 100000 in
set_option maxHeartbeats 4000000 in
theorem cm_make_5b_o {l : Launch} {G : gG} (x2 : Int32) (k0 : x2 ≤ 300) (k1 : ¬ 0 ≤ x2) (k4 : x2 < 0) {n k : Nat} {w : Nat → va_E} (hn : 42 ≤ n) (hw : ∀ i, 32 ≤ i → i < 42 → w (G.2.1 + i) = wl G.2.1 (LF G) (G.2.1 + i)) : Ct l G mX10_make 2 47 [.ref (G.2.1 + 32), .int 5, .int x2] n k w (some (.int ((-14))), n, k, (va_up w (G.2.1 + 32) (ob 10 [.ref (G.2.1 + 33), .ref (G.2.1 + 34), .ref (G.2.1 + 35), .int 0, .int 0, .int 4, .int 0, .int 0, .ref (G.2.1 + 36), .ref (G.2.1 + 37), .ref (G.2.1 + 38), .ref (G.2.1 + 39), .int 0, .ref (G.2.1 + 40), .int 0, .ref (G.2.1 + 41)]))) := by
  refine Ct.of (by decide) (Nat.le_of_ble_eq_true rfl) ⟨Nat.le_refl _, Nat.le_refl _⟩ ?_
  show Go l G mX10_make _ 0 [(0, .ref (G.2.1 + 32)), (1, .int 5), (2, .int x2)] [] n k w
  refine go_iload_n (pc := 0) dX10_make_0 rfl rfl ?_
  refine go_i2l (pc := 1) dX10_make_1 ?_
  refine go_topl (y := 5) (by decide) ?_
  refine go_lconst (pc := 2) (v := 0) dX10_make_2 (by decide) ?_
  refine go_ldc2 (pc := 3) rfl qX10_150 dX10_make_3 ?_
  refine go_callS_i (pc := 6) sX10_63 rfl (ct_in 5 0 5) rfl rfl (Nat.le_of_ble_eq_true rfl) ⟨Nat.le_of_ble_eq_true rfl, Nat.le_of_ble_eq_true rfl, (Nat.le_add_right _ _), (Nat.le_add_right _ _)⟩ dX10_make_6 ?_
  refine go_top (y := 1) (by decide) ?_
  refine go_if_eq_f (pc := 9) (tgt := 26) dX10_make_9 (by decide) (by decide) ?_
  refine go_iload_n (pc := 12) dX10_make_12 rfl rfl ?_
  refine go_callS_i (pc := 13) sX10_138 rfl (cX10_hasMany_12 hn hw) rfl rfl (Nat.le_of_ble_eq_true rfl) ⟨Nat.le_of_ble_eq_true rfl, Nat.le_of_ble_eq_true rfl, (Nat.le_add_right _ _), (Nat.le_add_right _ _)⟩ dX10_make_13 ?_
  refine go_if_eq_f (pc := 16) (tgt := 29) dX10_make_16 (by decide) (by decide) ?_
  refine go_iload_n (pc := 19) dX10_make_19 rfl rfl ?_
  refine go_sipush (pc := 20) (v := 300) dX10_make_20 (by decide) ?_
  refine go_icmp_le_t (pc := 23) (tgt := 29) dX10_make_23 (by decide) k0 ?_
  refine go_aload_n (pc := 29) dX10_make_29 rfl rfl ?_
  refine go_aload_n (pc := 30) dX10_make_30 rfl rfl ?_
  refine go_iload_n (pc := 31) dX10_make_31 rfl rfl ?_
  refine go_iload_n (pc := 32) dX10_make_32 rfl rfl ?_
  refine go_callV_i (pc := 33) vX10_152 rfl (cX10_makes_10 x2 k0 k1 k4 hn hw) rfl rfl (gz_b (by omega)) ((hw 32 (by decide) (by decide)).trans (wl_at (i := 32) rfl)) rfl (Nat.le_of_ble_eq_true rfl) ⟨Nat.le_of_ble_eq_true rfl, Nat.le_of_ble_eq_true rfl, (Nat.le_add_right _ _), (Nat.le_add_right _ _)⟩ dX10_make_33 ?_
  refine go_callV_i (pc := 36) vX10_155 rfl (cX10_answers_6 hn hw) rfl rfl (gz_b (by omega)) ((hw 32 (by decide) (by decide)).trans (wl_at (i := 32) rfl)) rfl (Nat.le_of_ble_eq_true rfl) ⟨Nat.le_of_ble_eq_true rfl, Nat.le_of_ble_eq_true rfl, (Nat.le_add_right _ _), (Nat.le_add_right _ _)⟩ dX10_make_36 ?_
  exact go_iret (pc := 39) rfl dX10_make_39
theorem cm_make_5b {l : Launch} {G : gG} (x2 : Int32) (k0 : x2 ≤ 300) (k1 : ¬ 0 ≤ x2) (k4 : x2 < 0) : CM l G mX10_make [.ref (G.2.1 + 32), .int 5, .int x2] ((-14)) := by
  intro n k w hn hw
  exact ⟨2, 47, _, by decide, by decide, cm_make_5b_o x2 k0 k1 k4 hn hw⟩
set_option maxRecDepth 100000 in
set_option maxHeartbeats 4000000 in
theorem cX10_sizeOf_7 {l : Launch} {G : gG} (x2 : Int32) {n k : Nat} {w : Nat → va_E} (hn : 42 ≤ n) (hw : ∀ i, 32 ≤ i → i < 42 → w (G.2.1 + i) = wl G.2.1 (LF G) (G.2.1 + i)) : Ct l G mX10_sizeOf 0 0 [.int 5, .int x2] n k w (some (.int (2 + (2 * x2))), n, k, w) := by
  refine Ct.of (by decide) (Nat.le_of_ble_eq_true rfl) ⟨Nat.le_refl _, Nat.le_refl _⟩ ?_
  show Go l G mX10_sizeOf _ 0 [(0, .int 5), (1, .int x2)] [] n k w
  refine go_iload_n (pc := 0) dX10_sizeOf_0 rfl rfl ?_
  refine go_tableIn (pc := 1) (off := 47) (tgt := 48) dX10_sizeOf_1 (by decide) (by decide) (by decide) (by decide) ?_
  refine go_iconst (pc := 48) (v := 2) dX10_sizeOf_48 (by decide) ?_
  refine go_iconst (pc := 49) (v := 2) dX10_sizeOf_49 (by decide) ?_
  refine go_iload_n (pc := 50) dX10_sizeOf_50 rfl rfl ?_
  refine go_imul (pc := 51) dX10_sizeOf_51 ?_
  refine go_iadd (pc := 52) dX10_sizeOf_52 ?_
  exact go_iret (pc := 53) rfl dX10_sizeOf_53
set_option maxRecDepth 100000 in
set_option maxHeartbeats 4000000 in
theorem cX10_makes_11 {l : Launch} {G : gG} (x2 : Int32) (k0 : x2 ≤ 300) (k1 : 0 ≤ x2) (k4 : ¬ x2 < 0) (k2 : ¬ 2 + (2 * x2) ≤ 256) (k3 : ¬ 0 + (2 + (2 * x2)) ≤ 256) {n k : Nat} {w : Nat → va_E} (hn : 42 ≤ n) (hw : ∀ i, 32 ≤ i → i < 42 → w (G.2.1 + i) = wl G.2.1 (LF G) (G.2.1 + i)) : Ct l G mX10_makes 2 48 [.ref (G.2.1 + 32), .int 5, .int x2] n k w (some (.int ((-16))), n, k, (va_up w (G.2.1 + 39) (az G 500 (fun _ => 0)))) := by
  refine Ct.of (by decide) (Nat.le_of_ble_eq_true rfl) ⟨Nat.le_refl _, Nat.le_refl _⟩ ?_
  show Go l G mX10_makes _ 0 [(0, .ref (G.2.1 + 32)), (1, .int 5), (2, .int x2)] [] n k w
  refine go_iload_n (pc := 0) dX10_makes_0 rfl rfl ?_
  refine go_callS_i (pc := 1) sX10_138 rfl (cX10_hasMany_12 hn hw) rfl rfl (Nat.le_of_ble_eq_true rfl) ⟨Nat.le_of_ble_eq_true rfl, Nat.le_of_ble_eq_true rfl, (Nat.le_add_right _ _), (Nat.le_add_right _ _)⟩ dX10_makes_1 ?_
  refine go_if_eq_f (pc := 4) (tgt := 11) dX10_makes_4 (by decide) (by decide) ?_
  refine go_iload_n (pc := 7) dX10_makes_7 rfl rfl ?_
  refine go_goto (pc := 8) (tgt := 12) dX10_makes_8 (by decide) ?_
  refine go_istore_n (pc := 12) (lv' := [(3, .int x2), (0, .ref (G.2.1 + 32)), (1, .int 5), (2, .int x2)]) dX10_makes_12 rfl (by decide) rfl ?_
  refine go_iload_n (pc := 13) dX10_makes_13 rfl rfl ?_
  refine go_if_ge_t (pc := 14) (tgt := 22) dX10_makes_14 (by decide) k1 ?_
  refine go_aload_n (pc := 22) dX10_makes_22 rfl rfl ?_
  refine go_get (pc := 23) fX10_9 rfl (gz_b (by omega)) ((hw 32 (by decide) (by decide)).trans (wl_at (i := 32) rfl)) rfl dX10_makes_23 ?_
  refine go_iconst (pc := 26) (v := 1) dX10_makes_26 (by decide) ?_
  refine go_iald (pc := 27) (gz_b (by omega)) ((hw 33 (by decide) (by decide)).trans (wl_at (i := 33) rfl)) (gv_in (by decide)) dX10_makes_27 ?_
  refine go_top (y := 0) rfl ?_
  refine go_sipush (pc := 28) (v := 500) dX10_makes_28 (by decide) ?_
  refine go_icmp_ne_t (pc := 31) (tgt := 40) dX10_makes_31 (by decide) (by decide) ?_
  refine go_iload_n (pc := 40) dX10_makes_40 rfl rfl ?_
  refine go_iload_n (pc := 41) dX10_makes_41 rfl rfl ?_
  refine go_callS_i (pc := 42) sX10_75 rfl (cX10_sizeOf_7 x2 hn hw) rfl rfl (Nat.le_of_ble_eq_true rfl) ⟨Nat.le_of_ble_eq_true rfl, Nat.le_of_ble_eq_true rfl, (Nat.le_add_right _ _), (Nat.le_add_right _ _)⟩ dX10_makes_42 ?_
  refine go_istore (pc := 45) (lv' := [(4, .int (2 + (2 * x2))), (3, .int x2), (0, .ref (G.2.1 + 32)), (1, .int 5), (2, .int x2)]) dX10_makes_45 (by decide) rfl ?_
  refine go_iload (pc := 47) dX10_makes_47 rfl ?_
  refine go_aload_n (pc := 49) dX10_makes_49 rfl rfl ?_
  refine go_get (pc := 50) fX10_9 rfl (gz_b (by omega)) ((hw 32 (by decide) (by decide)).trans (wl_at (i := 32) rfl)) rfl dX10_makes_50 ?_
  refine go_iconst (pc := 53) (v := 0) dX10_makes_53 (by decide) ?_
  refine go_iald (pc := 54) (gz_b (by omega)) ((hw 33 (by decide) (by decide)).trans (wl_at (i := 33) rfl)) (gv_in (by decide)) dX10_makes_54 ?_
  refine go_top (y := 256) rfl ?_
  refine go_aload_n (pc := 55) dX10_makes_55 rfl rfl ?_
  refine go_get (pc := 56) fX10_9 rfl (gz_b (by omega)) ((hw 32 (by decide) (by decide)).trans (wl_at (i := 32) rfl)) rfl dX10_makes_56 ?_
  refine go_bipush (pc := 59) (v := 16) dX10_makes_59 (by decide) ?_
  refine go_iald (pc := 61) (gz_b (by omega)) ((hw 33 (by decide) (by decide)).trans (wl_at (i := 33) rfl)) (gv_in (by decide)) dX10_makes_61 ?_
  refine go_top (y := 0) rfl ?_
  refine go_isub (pc := 62) dX10_makes_62 ?_
  refine go_top (y := 256) (by decide) ?_
  refine go_icmp_le_f (pc := 63) (tgt := 127) dX10_makes_63 (by decide) k2 ?_
  refine go_aload_n (pc := 66) dX10_makes_66 rfl rfl ?_
  refine go_callV_i (pc := 67) vX10_144 rfl (cX10_reached_1 hn hw) rfl rfl (gz_b (by omega)) ((hw 32 (by decide) (by decide)).trans (wl_at (i := 32) rfl)) rfl (Nat.le_of_ble_eq_true rfl) ⟨Nat.le_of_ble_eq_true rfl, Nat.le_of_ble_eq_true rfl, (Nat.le_add_right _ _), (Nat.le_add_right _ _)⟩ dX10_makes_67 ?_
  refine go_iload (pc := 70) dX10_makes_70 rfl ?_
  refine go_iadd (pc := 72) dX10_makes_72 ?_
  refine go_aload_n (pc := 73) dX10_makes_73 rfl rfl ?_
  refine go_get (pc := 74) fX10_9 rfl (gz_b (by omega)) ((va_up_ne _ _ (gz_ne (by decide))).trans ((hw 32 (by decide) (by decide)).trans (wl_at (i := 32) rfl))) rfl dX10_makes_74 ?_
  refine go_iconst (pc := 77) (v := 0) dX10_makes_77 (by decide) ?_
  refine go_iald (pc := 78) (gz_b (by omega)) ((va_up_ne _ _ (gz_ne (by decide))).trans ((hw 33 (by decide) (by decide)).trans (wl_at (i := 33) rfl))) (gv_in (by decide)) dX10_makes_78 ?_
  refine go_top (y := 256) rfl ?_
  refine go_icmp_le_f (pc := 79) (tgt := 88) dX10_makes_79 (by decide) k3 ?_
  refine go_bipush (pc := 82) (v := 6) dX10_makes_82 (by decide) ?_
  refine go_callS_i (pc := 84) sX10_141 rfl (cX10_fails_4 hn hw) rfl rfl (Nat.le_of_ble_eq_true rfl) ⟨Nat.le_of_ble_eq_true rfl, Nat.le_of_ble_eq_true rfl, (Nat.le_add_right _ _), (Nat.le_add_right _ _)⟩ dX10_makes_84 ?_
  exact go_iret (pc := 87) rfl dX10_makes_87
set_option maxRecDepth 100000 in
set_option maxHeartbeats 4000000 in
theorem cm_make_5c_o {l : Launch} {G : gG} (x2 : Int32) (k0 : x2 ≤ 300) (k1 : 0 ≤ x2) (k4 : ¬ x2 < 0) (k2 : ¬ 2 + (2 * x2) ≤ 256) (k3 : ¬ 0 + (2 + (2 * x2)) ≤ 256) {n k : Nat} {w : Nat → va_E} (hn : 42 ≤ n) (hw : ∀ i, 32 ≤ i → i < 42 → w (G.2.1 + i) = wl G.2.1 (LF G) (G.2.1 + i)) : Ct l G mX10_make 3 75 [.ref (G.2.1 + 32), .int 5, .int x2] n k w (some (.int ((-16))), n, k, (va_up (va_up w (G.2.1 + 39) (az G 500 (fun _ => 0))) (G.2.1 + 32) (ob 10 [.ref (G.2.1 + 33), .ref (G.2.1 + 34), .ref (G.2.1 + 35), .int 0, .int 0, .int 6, .int 0, .int 0, .ref (G.2.1 + 36), .ref (G.2.1 + 37), .ref (G.2.1 + 38), .ref (G.2.1 + 39), .int 0, .ref (G.2.1 + 40), .int 0, .ref (G.2.1 + 41)]))) := by
  refine Ct.of (by decide) (Nat.le_of_ble_eq_true rfl) ⟨Nat.le_refl _, Nat.le_refl _⟩ ?_
  show Go l G mX10_make _ 0 [(0, .ref (G.2.1 + 32)), (1, .int 5), (2, .int x2)] [] n k w
  refine go_iload_n (pc := 0) dX10_make_0 rfl rfl ?_
  refine go_i2l (pc := 1) dX10_make_1 ?_
  refine go_topl (y := 5) (by decide) ?_
  refine go_lconst (pc := 2) (v := 0) dX10_make_2 (by decide) ?_
  refine go_ldc2 (pc := 3) rfl qX10_150 dX10_make_3 ?_
  refine go_callS_i (pc := 6) sX10_63 rfl (ct_in 5 0 5) rfl rfl (Nat.le_of_ble_eq_true rfl) ⟨Nat.le_of_ble_eq_true rfl, Nat.le_of_ble_eq_true rfl, (Nat.le_add_right _ _), (Nat.le_add_right _ _)⟩ dX10_make_6 ?_
  refine go_top (y := 1) (by decide) ?_
  refine go_if_eq_f (pc := 9) (tgt := 26) dX10_make_9 (by decide) (by decide) ?_
  refine go_iload_n (pc := 12) dX10_make_12 rfl rfl ?_
  refine go_callS_i (pc := 13) sX10_138 rfl (cX10_hasMany_12 hn hw) rfl rfl (Nat.le_of_ble_eq_true rfl) ⟨Nat.le_of_ble_eq_true rfl, Nat.le_of_ble_eq_true rfl, (Nat.le_add_right _ _), (Nat.le_add_right _ _)⟩ dX10_make_13 ?_
  refine go_if_eq_f (pc := 16) (tgt := 29) dX10_make_16 (by decide) (by decide) ?_
  refine go_iload_n (pc := 19) dX10_make_19 rfl rfl ?_
  refine go_sipush (pc := 20) (v := 300) dX10_make_20 (by decide) ?_
  refine go_icmp_le_t (pc := 23) (tgt := 29) dX10_make_23 (by decide) k0 ?_
  refine go_aload_n (pc := 29) dX10_make_29 rfl rfl ?_
  refine go_aload_n (pc := 30) dX10_make_30 rfl rfl ?_
  refine go_iload_n (pc := 31) dX10_make_31 rfl rfl ?_
  refine go_iload_n (pc := 32) dX10_make_32 rfl rfl ?_
  refine go_callV_i (pc := 33) vX10_152 rfl (cX10_makes_11 x2 k0 k1 k4 k2 k3 hn hw) rfl rfl (gz_b (by omega)) ((hw 32 (by decide) (by decide)).trans (wl_at (i := 32) rfl)) rfl (Nat.le_of_ble_eq_true rfl) ⟨Nat.le_of_ble_eq_true rfl, Nat.le_of_ble_eq_true rfl, (Nat.le_add_right _ _), (Nat.le_add_right _ _)⟩ dX10_make_33 ?_
  refine go_callV_i (pc := 36) vX10_155 rfl (cX10_answers_7 hn hw) rfl rfl (gz_b (by omega)) ((va_up_ne _ _ (gz_ne (by decide))).trans ((hw 32 (by decide) (by decide)).trans (wl_at (i := 32) rfl))) rfl (Nat.le_of_ble_eq_true rfl) ⟨Nat.le_of_ble_eq_true rfl, Nat.le_of_ble_eq_true rfl, (Nat.le_add_right _ _), (Nat.le_add_right _ _)⟩ dX10_make_36 ?_
  exact go_iret (pc := 39) rfl dX10_make_39
theorem cm_make_5c {l : Launch} {G : gG} (x2 : Int32) (k0 : x2 ≤ 300) (k1 : 0 ≤ x2) (k4 : ¬ x2 < 0) (k2 : ¬ 2 + (2 * x2) ≤ 256) (k3 : ¬ 0 + (2 + (2 * x2)) ≤ 256) : CM l G mX10_make [.ref (G.2.1 + 32), .int 5, .int x2] ((-16)) := by
  intro n k w hn hw
  exact ⟨3, 75, _, by decide, by decide, cm_make_5c_o x2 k0 k1 k4 k2 k3 hn hw⟩
set_option maxRecDepth 100000 in
set_option maxHeartbeats 4000000 in
theorem cX10_sizeOf_8 {l : Launch} {G : gG} (j : Nat) (hj : j ≤ 254) {n k : Nat} {w : Nat → va_E} (hn : 42 ≤ n) (hw : ∀ i, 32 ≤ i → i < 42 → w (G.2.1 + i) = wl G.2.1 (LF G) (G.2.1 + i)) : Ct l G mX10_sizeOf 0 0 [.int 5, .int (nI j)] n k w (some (.int (2 + (2 * (nI j)))), n, k, w) := by
  refine Ct.of (by decide) (Nat.le_of_ble_eq_true rfl) ⟨Nat.le_refl _, Nat.le_refl _⟩ ?_
  show Go l G mX10_sizeOf _ 0 [(0, .int 5), (1, .int (nI j))] [] n k w
  refine go_iload_n (pc := 0) dX10_sizeOf_0 rfl rfl ?_
  refine go_tableIn (pc := 1) (off := 47) (tgt := 48) dX10_sizeOf_1 (by decide) (by decide) (by decide) (by decide) ?_
  refine go_iconst (pc := 48) (v := 2) dX10_sizeOf_48 (by decide) ?_
  refine go_iconst (pc := 49) (v := 2) dX10_sizeOf_49 (by decide) ?_
  refine go_iload_n (pc := 50) dX10_sizeOf_50 rfl rfl ?_
  refine go_imul (pc := 51) dX10_sizeOf_51 ?_
  refine go_iadd (pc := 52) dX10_sizeOf_52 ?_
  exact go_iret (pc := 53) rfl dX10_sizeOf_53
set_option maxRecDepth 100000 in
set_option maxHeartbeats 4000000 in
theorem cX10_lets_27 {l : Launch} {G : gG} {n k : Nat} {w : Nat → va_E} (hn : 42 ≤ n) (hw : ∀ i, 32 ≤ i → i < 42 → w (G.2.1 + i) = wl G.2.1 (LF G) (G.2.1 + i)) : Ct l G mX10_lets 0 0 [.ref (G.2.1 + 32), .int 0, .int 1, .int 5] n k (va_up w (G.2.1 + 33) (ai G 26100 (upd (upd (upd (sx 256) (1 : Int32).toNatClampNeg 1) (2 : Int32).toNatClampNeg 1) (1100 : Int32).toNatClampNeg 1))) (none, n, k, (va_up w (G.2.1 + 33) (ai G 26100 (upd (upd (upd (upd (sx 256) (1 : Int32).toNatClampNeg 1) (2 : Int32).toNatClampNeg 1) (1100 : Int32).toNatClampNeg 1) (1101 : Int32).toNatClampNeg 5)))) := by
  refine Ct.of (by decide) (Nat.le_of_ble_eq_true rfl) ⟨Nat.le_refl _, Nat.le_refl _⟩ ?_
  show Go l G mX10_lets _ 0 [(0, .ref (G.2.1 + 32)), (1, .int 0), (2, .int 1), (3, .int 5)] [] n k (va_up w (G.2.1 + 33) (ai G 26100 (upd (upd (upd (sx 256) (1 : Int32).toNatClampNeg 1) (2 : Int32).toNatClampNeg 1) (1100 : Int32).toNatClampNeg 1)))
  refine go_aload_n (pc := 0) dX10_lets_0 rfl rfl ?_
  refine go_get (pc := 1) fX10_9 rfl (gz_b (by omega)) ((va_up_ne _ _ (gz_ne (by decide))).trans ((hw 32 (by decide) (by decide)).trans (wl_at (i := 32) rfl))) rfl dX10_lets_1 ?_
  refine go_sipush (pc := 4) (v := 1100) dX10_lets_4 (by decide) ?_
  refine go_bipush (pc := 7) (v := 10) dX10_lets_7 (by decide) ?_
  refine go_iload_n (pc := 9) dX10_lets_9 rfl rfl ?_
  refine go_imul (pc := 10) dX10_lets_10 ?_
  refine go_top (y := 0) (by decide) ?_
  refine go_iadd (pc := 11) dX10_lets_11 ?_
  refine go_top (y := 1100) (by decide) ?_
  refine go_iload_n (pc := 12) dX10_lets_12 rfl rfl ?_
  refine go_iadd (pc := 13) dX10_lets_13 ?_
  refine go_top (y := 1101) (by decide) ?_
  refine go_iload_n (pc := 14) dX10_lets_14 rfl rfl ?_
  refine go_iast (pc := 15) (gz_b (by omega)) (va_up_self _ _ _) (gv_in (by decide)) dX10_lets_15 ?_
  refine go_w (va_up_up _ _ _ _) ?_
  exact go_vret (pc := 16) rfl dX10_lets_16
set_option maxRecDepth 100000 in
set_option maxHeartbeats 4000000 in
theorem cX10_lets_28 {l : Launch} {G : gG} {n k : Nat} {w : Nat → va_E} (hn : 42 ≤ n) (hw : ∀ i, 32 ≤ i → i < 42 → w (G.2.1 + i) = wl G.2.1 (LF G) (G.2.1 + i)) : Ct l G mX10_lets 0 0 [.ref (G.2.1 + 32), .int 0, .int 2, .int 0] n k (va_up w (G.2.1 + 33) (ai G 26100 (upd (upd (upd (upd (sx 256) (1 : Int32).toNatClampNeg 1) (2 : Int32).toNatClampNeg 1) (1100 : Int32).toNatClampNeg 1) (1101 : Int32).toNatClampNeg 5))) (none, n, k, (va_up w (G.2.1 + 33) (ai G 26100 (upd (upd (upd (upd (upd (sx 256) (1 : Int32).toNatClampNeg 1) (2 : Int32).toNatClampNeg 1) (1100 : Int32).toNatClampNeg 1) (1101 : Int32).toNatClampNeg 5) (1102 : Int32).toNatClampNeg 0)))) := by
  refine Ct.of (by decide) (Nat.le_of_ble_eq_true rfl) ⟨Nat.le_refl _, Nat.le_refl _⟩ ?_
  show Go l G mX10_lets _ 0 [(0, .ref (G.2.1 + 32)), (1, .int 0), (2, .int 2), (3, .int 0)] [] n k (va_up w (G.2.1 + 33) (ai G 26100 (upd (upd (upd (upd (sx 256) (1 : Int32).toNatClampNeg 1) (2 : Int32).toNatClampNeg 1) (1100 : Int32).toNatClampNeg 1) (1101 : Int32).toNatClampNeg 5)))
  refine go_aload_n (pc := 0) dX10_lets_0 rfl rfl ?_
  refine go_get (pc := 1) fX10_9 rfl (gz_b (by omega)) ((va_up_ne _ _ (gz_ne (by decide))).trans ((hw 32 (by decide) (by decide)).trans (wl_at (i := 32) rfl))) rfl dX10_lets_1 ?_
  refine go_sipush (pc := 4) (v := 1100) dX10_lets_4 (by decide) ?_
  refine go_bipush (pc := 7) (v := 10) dX10_lets_7 (by decide) ?_
  refine go_iload_n (pc := 9) dX10_lets_9 rfl rfl ?_
  refine go_imul (pc := 10) dX10_lets_10 ?_
  refine go_top (y := 0) (by decide) ?_
  refine go_iadd (pc := 11) dX10_lets_11 ?_
  refine go_top (y := 1100) (by decide) ?_
  refine go_iload_n (pc := 12) dX10_lets_12 rfl rfl ?_
  refine go_iadd (pc := 13) dX10_lets_13 ?_
  refine go_top (y := 1102) (by decide) ?_
  refine go_iload_n (pc := 14) dX10_lets_14 rfl rfl ?_
  refine go_iast (pc := 15) (gz_b (by omega)) (va_up_self _ _ _) (gv_in (by decide)) dX10_lets_15 ?_
  refine go_w (va_up_up _ _ _ _) ?_
  exact go_vret (pc := 16) rfl dX10_lets_16
set_option maxRecDepth 100000 in
set_option maxHeartbeats 4000000 in
theorem cX10_lets_29 {l : Launch} {G : gG} (j : Nat) (hj : j ≤ 254) {n k : Nat} {w : Nat → va_E} (hn : 42 ≤ n) (hw : ∀ i, 32 ≤ i → i < 42 → w (G.2.1 + i) = wl G.2.1 (LF G) (G.2.1 + i)) : Ct l G mX10_lets 0 0 [.ref (G.2.1 + 32), .int 0, .int 3, .int (nI j)] n k (va_up w (G.2.1 + 33) (ai G 26100 (upd (upd (upd (upd (upd (sx 256) (1 : Int32).toNatClampNeg 1) (2 : Int32).toNatClampNeg 1) (1100 : Int32).toNatClampNeg 1) (1101 : Int32).toNatClampNeg 5) (1102 : Int32).toNatClampNeg 0))) (none, n, k, (va_up w (G.2.1 + 33) (ai G 26100 (upd (upd (upd (upd (upd (upd (sx 256) (1 : Int32).toNatClampNeg 1) (2 : Int32).toNatClampNeg 1) (1100 : Int32).toNatClampNeg 1) (1101 : Int32).toNatClampNeg 5) (1102 : Int32).toNatClampNeg 0) (1103 : Int32).toNatClampNeg (nI j))))) := by
  refine Ct.of (by decide) (Nat.le_of_ble_eq_true rfl) ⟨Nat.le_refl _, Nat.le_refl _⟩ ?_
  show Go l G mX10_lets _ 0 [(0, .ref (G.2.1 + 32)), (1, .int 0), (2, .int 3), (3, .int (nI j))] [] n k (va_up w (G.2.1 + 33) (ai G 26100 (upd (upd (upd (upd (upd (sx 256) (1 : Int32).toNatClampNeg 1) (2 : Int32).toNatClampNeg 1) (1100 : Int32).toNatClampNeg 1) (1101 : Int32).toNatClampNeg 5) (1102 : Int32).toNatClampNeg 0)))
  refine go_aload_n (pc := 0) dX10_lets_0 rfl rfl ?_
  refine go_get (pc := 1) fX10_9 rfl (gz_b (by omega)) ((va_up_ne _ _ (gz_ne (by decide))).trans ((hw 32 (by decide) (by decide)).trans (wl_at (i := 32) rfl))) rfl dX10_lets_1 ?_
  refine go_sipush (pc := 4) (v := 1100) dX10_lets_4 (by decide) ?_
  refine go_bipush (pc := 7) (v := 10) dX10_lets_7 (by decide) ?_
  refine go_iload_n (pc := 9) dX10_lets_9 rfl rfl ?_
  refine go_imul (pc := 10) dX10_lets_10 ?_
  refine go_top (y := 0) (by decide) ?_
  refine go_iadd (pc := 11) dX10_lets_11 ?_
  refine go_top (y := 1100) (by decide) ?_
  refine go_iload_n (pc := 12) dX10_lets_12 rfl rfl ?_
  refine go_iadd (pc := 13) dX10_lets_13 ?_
  refine go_top (y := 1103) (by decide) ?_
  refine go_iload_n (pc := 14) dX10_lets_14 rfl rfl ?_
  refine go_iast (pc := 15) (gz_b (by omega)) (va_up_self _ _ _) (gv_in (by decide)) dX10_lets_15 ?_
  refine go_w (va_up_up _ _ _ _) ?_
  exact go_vret (pc := 16) rfl dX10_lets_16
set_option maxRecDepth 100000 in
set_option maxHeartbeats 4000000 in
theorem cX10_lets_30 {l : Launch} {G : gG} (j : Nat) (hj : j ≤ 254) {n k : Nat} {w : Nat → va_E} (hn : 42 ≤ n) (hw : ∀ i, 32 ≤ i → i < 42 → w (G.2.1 + i) = wl G.2.1 (LF G) (G.2.1 + i)) : Ct l G mX10_lets 0 0 [.ref (G.2.1 + 32), .int 0, .int 4, .int 0] n k (va_up w (G.2.1 + 33) (ai G 26100 (upd (upd (upd (upd (upd (upd (sx 256) (1 : Int32).toNatClampNeg 1) (2 : Int32).toNatClampNeg 1) (1100 : Int32).toNatClampNeg 1) (1101 : Int32).toNatClampNeg 5) (1102 : Int32).toNatClampNeg 0) (1103 : Int32).toNatClampNeg (nI j)))) (none, n, k, (va_up w (G.2.1 + 33) (ai G 26100 (upd (upd (upd (upd (upd (upd (upd (sx 256) (1 : Int32).toNatClampNeg 1) (2 : Int32).toNatClampNeg 1) (1100 : Int32).toNatClampNeg 1) (1101 : Int32).toNatClampNeg 5) (1102 : Int32).toNatClampNeg 0) (1103 : Int32).toNatClampNeg (nI j)) (1104 : Int32).toNatClampNeg 0)))) := by
  refine Ct.of (by decide) (Nat.le_of_ble_eq_true rfl) ⟨Nat.le_refl _, Nat.le_refl _⟩ ?_
  show Go l G mX10_lets _ 0 [(0, .ref (G.2.1 + 32)), (1, .int 0), (2, .int 4), (3, .int 0)] [] n k (va_up w (G.2.1 + 33) (ai G 26100 (upd (upd (upd (upd (upd (upd (sx 256) (1 : Int32).toNatClampNeg 1) (2 : Int32).toNatClampNeg 1) (1100 : Int32).toNatClampNeg 1) (1101 : Int32).toNatClampNeg 5) (1102 : Int32).toNatClampNeg 0) (1103 : Int32).toNatClampNeg (nI j))))
  refine go_aload_n (pc := 0) dX10_lets_0 rfl rfl ?_
  refine go_get (pc := 1) fX10_9 rfl (gz_b (by omega)) ((va_up_ne _ _ (gz_ne (by decide))).trans ((hw 32 (by decide) (by decide)).trans (wl_at (i := 32) rfl))) rfl dX10_lets_1 ?_
  refine go_sipush (pc := 4) (v := 1100) dX10_lets_4 (by decide) ?_
  refine go_bipush (pc := 7) (v := 10) dX10_lets_7 (by decide) ?_
  refine go_iload_n (pc := 9) dX10_lets_9 rfl rfl ?_
  refine go_imul (pc := 10) dX10_lets_10 ?_
  refine go_top (y := 0) (by decide) ?_
  refine go_iadd (pc := 11) dX10_lets_11 ?_
  refine go_top (y := 1100) (by decide) ?_
  refine go_iload_n (pc := 12) dX10_lets_12 rfl rfl ?_
  refine go_iadd (pc := 13) dX10_lets_13 ?_
  refine go_top (y := 1104) (by decide) ?_
  refine go_iload_n (pc := 14) dX10_lets_14 rfl rfl ?_
  refine go_iast (pc := 15) (gz_b (by omega)) (va_up_self _ _ _) (gv_in (by decide)) dX10_lets_15 ?_
  refine go_w (va_up_up _ _ _ _) ?_
  exact go_vret (pc := 16) rfl dX10_lets_16
set_option maxRecDepth 100000 in
set_option maxHeartbeats 4000000 in
theorem cX10_lets_31 {l : Launch} {G : gG} (j : Nat) (hj : j ≤ 254) {n k : Nat} {w : Nat → va_E} (hn : 42 ≤ n) (hw : ∀ i, 32 ≤ i → i < 42 → w (G.2.1 + i) = wl G.2.1 (LF G) (G.2.1 + i)) : Ct l G mX10_lets 0 0 [.ref (G.2.1 + 32), .int 0, .int 5, .int 0] n k (va_up w (G.2.1 + 33) (ai G 26100 (upd (upd (upd (upd (upd (upd (upd (sx 256) (1 : Int32).toNatClampNeg 1) (2 : Int32).toNatClampNeg 1) (1100 : Int32).toNatClampNeg 1) (1101 : Int32).toNatClampNeg 5) (1102 : Int32).toNatClampNeg 0) (1103 : Int32).toNatClampNeg (nI j)) (1104 : Int32).toNatClampNeg 0))) (none, n, k, (va_up w (G.2.1 + 33) (ai G 26100 (upd (upd (upd (upd (upd (upd (upd (upd (sx 256) (1 : Int32).toNatClampNeg 1) (2 : Int32).toNatClampNeg 1) (1100 : Int32).toNatClampNeg 1) (1101 : Int32).toNatClampNeg 5) (1102 : Int32).toNatClampNeg 0) (1103 : Int32).toNatClampNeg (nI j)) (1104 : Int32).toNatClampNeg 0) (1105 : Int32).toNatClampNeg 0)))) := by
  refine Ct.of (by decide) (Nat.le_of_ble_eq_true rfl) ⟨Nat.le_refl _, Nat.le_refl _⟩ ?_
  show Go l G mX10_lets _ 0 [(0, .ref (G.2.1 + 32)), (1, .int 0), (2, .int 5), (3, .int 0)] [] n k (va_up w (G.2.1 + 33) (ai G 26100 (upd (upd (upd (upd (upd (upd (upd (sx 256) (1 : Int32).toNatClampNeg 1) (2 : Int32).toNatClampNeg 1) (1100 : Int32).toNatClampNeg 1) (1101 : Int32).toNatClampNeg 5) (1102 : Int32).toNatClampNeg 0) (1103 : Int32).toNatClampNeg (nI j)) (1104 : Int32).toNatClampNeg 0)))
  refine go_aload_n (pc := 0) dX10_lets_0 rfl rfl ?_
  refine go_get (pc := 1) fX10_9 rfl (gz_b (by omega)) ((va_up_ne _ _ (gz_ne (by decide))).trans ((hw 32 (by decide) (by decide)).trans (wl_at (i := 32) rfl))) rfl dX10_lets_1 ?_
  refine go_sipush (pc := 4) (v := 1100) dX10_lets_4 (by decide) ?_
  refine go_bipush (pc := 7) (v := 10) dX10_lets_7 (by decide) ?_
  refine go_iload_n (pc := 9) dX10_lets_9 rfl rfl ?_
  refine go_imul (pc := 10) dX10_lets_10 ?_
  refine go_top (y := 0) (by decide) ?_
  refine go_iadd (pc := 11) dX10_lets_11 ?_
  refine go_top (y := 1100) (by decide) ?_
  refine go_iload_n (pc := 12) dX10_lets_12 rfl rfl ?_
  refine go_iadd (pc := 13) dX10_lets_13 ?_
  refine go_top (y := 1105) (by decide) ?_
  refine go_iload_n (pc := 14) dX10_lets_14 rfl rfl ?_
  refine go_iast (pc := 15) (gz_b (by omega)) (va_up_self _ _ _) (gv_in (by decide)) dX10_lets_15 ?_
  refine go_w (va_up_up _ _ _ _) ?_
  exact go_vret (pc := 16) rfl dX10_lets_16
set_option maxRecDepth 100000 in
set_option maxHeartbeats 4000000 in
theorem cX10_hasMany_13 {l : Launch} {G : gG} (j : Nat) (hj : j ≤ 254) {n k : Nat} {w : Nat → va_E} (hn : 42 ≤ n) (hw : ∀ i, 32 ≤ i → i < 42 → w (G.2.1 + i) = wl G.2.1 (LF G) (G.2.1 + i)) : Ct l G mX10_hasMany 0 0 [.int 5] n k (va_up w (G.2.1 + 33) (ai G 26100 (upd (upd (upd (upd (upd (upd (upd (upd (upd (sx 256) (1 : Int32).toNatClampNeg 1) (2 : Int32).toNatClampNeg 1) (1100 : Int32).toNatClampNeg 1) (1101 : Int32).toNatClampNeg 5) (1102 : Int32).toNatClampNeg 0) (1103 : Int32).toNatClampNeg (nI j)) (1104 : Int32).toNatClampNeg 0) (1105 : Int32).toNatClampNeg 0) (6100 : Int32).toNatClampNeg 5))) (some (.int 1), n, k, (va_up w (G.2.1 + 33) (ai G 26100 (upd (upd (upd (upd (upd (upd (upd (upd (upd (sx 256) (1 : Int32).toNatClampNeg 1) (2 : Int32).toNatClampNeg 1) (1100 : Int32).toNatClampNeg 1) (1101 : Int32).toNatClampNeg 5) (1102 : Int32).toNatClampNeg 0) (1103 : Int32).toNatClampNeg (nI j)) (1104 : Int32).toNatClampNeg 0) (1105 : Int32).toNatClampNeg 0) (6100 : Int32).toNatClampNeg 5)))) := by
  refine Ct.of (by decide) (Nat.le_of_ble_eq_true rfl) ⟨Nat.le_refl _, Nat.le_refl _⟩ ?_
  show Go l G mX10_hasMany _ 0 [(0, .int 5)] [] n k (va_up w (G.2.1 + 33) (ai G 26100 (upd (upd (upd (upd (upd (upd (upd (upd (upd (sx 256) (1 : Int32).toNatClampNeg 1) (2 : Int32).toNatClampNeg 1) (1100 : Int32).toNatClampNeg 1) (1101 : Int32).toNatClampNeg 5) (1102 : Int32).toNatClampNeg 0) (1103 : Int32).toNatClampNeg (nI j)) (1104 : Int32).toNatClampNeg 0) (1105 : Int32).toNatClampNeg 0) (6100 : Int32).toNatClampNeg 5)))
  refine go_iload_n (pc := 0) dX10_hasMany_0 rfl rfl ?_
  refine go_iconst (pc := 1) (v := 1) dX10_hasMany_1 (by decide) ?_
  refine go_icmp_eq_f (pc := 2) (tgt := 15) dX10_hasMany_2 (by decide) (by decide) ?_
  refine go_iload_n (pc := 5) dX10_hasMany_5 rfl rfl ?_
  refine go_iconst (pc := 6) (v := 2) dX10_hasMany_6 (by decide) ?_
  refine go_icmp_eq_f (pc := 7) (tgt := 15) dX10_hasMany_7 (by decide) (by decide) ?_
  refine go_iload_n (pc := 10) dX10_hasMany_10 rfl rfl ?_
  refine go_iconst (pc := 11) (v := 5) dX10_hasMany_11 (by decide) ?_
  refine go_icmp_ne_f (pc := 12) (tgt := 19) dX10_hasMany_12 (by decide) (by decide) ?_
  refine go_iconst (pc := 15) (v := 1) dX10_hasMany_15 (by decide) ?_
  refine go_goto (pc := 16) (tgt := 20) dX10_hasMany_16 (by decide) ?_
  exact go_zret (pc := 20) rfl rfl dX10_hasMany_20
set_option maxRecDepth 100000 in
set_option maxHeartbeats 4000000 in
theorem cX10_of_14 {l : Launch} {G : gG} (j : Nat) (hj : j ≤ 254) {n k : Nat} {w : Nat → va_E} (hn : 42 ≤ n) (hw : ∀ i, 32 ≤ i → i < 42 → w (G.2.1 + i) = wl G.2.1 (LF G) (G.2.1 + i)) : Ct l G mX10_of 0 0 [.ref (G.2.1 + 32), .int 0, .int 1] n k (va_up w (G.2.1 + 33) (ai G 26100 (upd (upd (upd (upd (upd (upd (upd (upd (upd (upd (sx 256) (1 : Int32).toNatClampNeg 1) (2 : Int32).toNatClampNeg 1) (1100 : Int32).toNatClampNeg 1) (1101 : Int32).toNatClampNeg 5) (1102 : Int32).toNatClampNeg 0) (1103 : Int32).toNatClampNeg (nI j)) (1104 : Int32).toNatClampNeg 0) (1105 : Int32).toNatClampNeg 0) (6100 : Int32).toNatClampNeg 5) (6101 : Int32).toNatClampNeg (nI j)))) (some (.int 5), n, k, (va_up w (G.2.1 + 33) (ai G 26100 (upd (upd (upd (upd (upd (upd (upd (upd (upd (upd (sx 256) (1 : Int32).toNatClampNeg 1) (2 : Int32).toNatClampNeg 1) (1100 : Int32).toNatClampNeg 1) (1101 : Int32).toNatClampNeg 5) (1102 : Int32).toNatClampNeg 0) (1103 : Int32).toNatClampNeg (nI j)) (1104 : Int32).toNatClampNeg 0) (1105 : Int32).toNatClampNeg 0) (6100 : Int32).toNatClampNeg 5) (6101 : Int32).toNatClampNeg (nI j))))) := by
  refine Ct.of (by decide) (Nat.le_of_ble_eq_true rfl) ⟨Nat.le_refl _, Nat.le_refl _⟩ ?_
  show Go l G mX10_of _ 0 [(0, .ref (G.2.1 + 32)), (1, .int 0), (2, .int 1)] [] n k (va_up w (G.2.1 + 33) (ai G 26100 (upd (upd (upd (upd (upd (upd (upd (upd (upd (upd (sx 256) (1 : Int32).toNatClampNeg 1) (2 : Int32).toNatClampNeg 1) (1100 : Int32).toNatClampNeg 1) (1101 : Int32).toNatClampNeg 5) (1102 : Int32).toNatClampNeg 0) (1103 : Int32).toNatClampNeg (nI j)) (1104 : Int32).toNatClampNeg 0) (1105 : Int32).toNatClampNeg 0) (6100 : Int32).toNatClampNeg 5) (6101 : Int32).toNatClampNeg (nI j))))
  refine go_aload_n (pc := 0) dX10_of_0 rfl rfl ?_
  refine go_get (pc := 1) fX10_9 rfl (gz_b (by omega)) ((va_up_ne _ _ (gz_ne (by decide))).trans ((hw 32 (by decide) (by decide)).trans (wl_at (i := 32) rfl))) rfl dX10_of_1 ?_
  refine go_sipush (pc := 4) (v := 1100) dX10_of_4 (by decide) ?_
  refine go_bipush (pc := 7) (v := 10) dX10_of_7 (by decide) ?_
  refine go_iload_n (pc := 9) dX10_of_9 rfl rfl ?_
  refine go_imul (pc := 10) dX10_of_10 ?_
  refine go_top (y := 0) (by decide) ?_
  refine go_iadd (pc := 11) dX10_of_11 ?_
  refine go_top (y := 1100) (by decide) ?_
  refine go_iload_n (pc := 12) dX10_of_12 rfl rfl ?_
  refine go_iadd (pc := 13) dX10_of_13 ?_
  refine go_top (y := 1101) (by decide) ?_
  refine go_iald (pc := 14) (gz_b (by omega)) (va_up_self _ _ _) (gv_in (by decide)) dX10_of_14 ?_
  refine go_top (y := 5) rfl ?_
  exact go_iret (pc := 15) rfl dX10_of_15
set_option maxRecDepth 100000 in
set_option maxHeartbeats 4000000 in
theorem cX10_of_15 {l : Launch} {G : gG} (j : Nat) (hj : j ≤ 254) {n k : Nat} {w : Nat → va_E} (hn : 42 ≤ n) (hw : ∀ i, 32 ≤ i → i < 42 → w (G.2.1 + i) = wl G.2.1 (LF G) (G.2.1 + i)) : Ct l G mX10_of 0 0 [.ref (G.2.1 + 32), .int 0, .int 3] n k (va_up w (G.2.1 + 33) (ai G 26100 (upd (upd (upd (upd (upd (upd (upd (upd (upd (upd (sx 256) (1 : Int32).toNatClampNeg 1) (2 : Int32).toNatClampNeg 1) (1100 : Int32).toNatClampNeg 1) (1101 : Int32).toNatClampNeg 5) (1102 : Int32).toNatClampNeg 0) (1103 : Int32).toNatClampNeg (nI j)) (1104 : Int32).toNatClampNeg 0) (1105 : Int32).toNatClampNeg 0) (6100 : Int32).toNatClampNeg 5) (6101 : Int32).toNatClampNeg (nI j)))) (some (.int (nI j)), n, k, (va_up w (G.2.1 + 33) (ai G 26100 (upd (upd (upd (upd (upd (upd (upd (upd (upd (upd (sx 256) (1 : Int32).toNatClampNeg 1) (2 : Int32).toNatClampNeg 1) (1100 : Int32).toNatClampNeg 1) (1101 : Int32).toNatClampNeg 5) (1102 : Int32).toNatClampNeg 0) (1103 : Int32).toNatClampNeg (nI j)) (1104 : Int32).toNatClampNeg 0) (1105 : Int32).toNatClampNeg 0) (6100 : Int32).toNatClampNeg 5) (6101 : Int32).toNatClampNeg (nI j))))) := by
  refine Ct.of (by decide) (Nat.le_of_ble_eq_true rfl) ⟨Nat.le_refl _, Nat.le_refl _⟩ ?_
  show Go l G mX10_of _ 0 [(0, .ref (G.2.1 + 32)), (1, .int 0), (2, .int 3)] [] n k (va_up w (G.2.1 + 33) (ai G 26100 (upd (upd (upd (upd (upd (upd (upd (upd (upd (upd (sx 256) (1 : Int32).toNatClampNeg 1) (2 : Int32).toNatClampNeg 1) (1100 : Int32).toNatClampNeg 1) (1101 : Int32).toNatClampNeg 5) (1102 : Int32).toNatClampNeg 0) (1103 : Int32).toNatClampNeg (nI j)) (1104 : Int32).toNatClampNeg 0) (1105 : Int32).toNatClampNeg 0) (6100 : Int32).toNatClampNeg 5) (6101 : Int32).toNatClampNeg (nI j))))
  refine go_aload_n (pc := 0) dX10_of_0 rfl rfl ?_
  refine go_get (pc := 1) fX10_9 rfl (gz_b (by omega)) ((va_up_ne _ _ (gz_ne (by decide))).trans ((hw 32 (by decide) (by decide)).trans (wl_at (i := 32) rfl))) rfl dX10_of_1 ?_
  refine go_sipush (pc := 4) (v := 1100) dX10_of_4 (by decide) ?_
  refine go_bipush (pc := 7) (v := 10) dX10_of_7 (by decide) ?_
  refine go_iload_n (pc := 9) dX10_of_9 rfl rfl ?_
  refine go_imul (pc := 10) dX10_of_10 ?_
  refine go_top (y := 0) (by decide) ?_
  refine go_iadd (pc := 11) dX10_of_11 ?_
  refine go_top (y := 1100) (by decide) ?_
  refine go_iload_n (pc := 12) dX10_of_12 rfl rfl ?_
  refine go_iadd (pc := 13) dX10_of_13 ?_
  refine go_top (y := 1103) (by decide) ?_
  refine go_iald (pc := 14) (gz_b (by omega)) (va_up_self _ _ _) (gv_in (by decide)) dX10_of_14 ?_
  refine go_top (y := nI j) rfl ?_
  exact go_iret (pc := 15) rfl dX10_of_15
set_option maxRecDepth 100000 in
set_option maxHeartbeats 4000000 in
theorem cX10_linksOf_6 {l : Launch} {G : gG} (j : Nat) (hj : j ≤ 254) {n k : Nat} {w : Nat → va_E} (hn : 42 ≤ n) (hw : ∀ i, 32 ≤ i → i < 42 → w (G.2.1 + i) = wl G.2.1 (LF G) (G.2.1 + i)) : Ct l G mX10_linksOf 1 22 [.ref (G.2.1 + 32), .int 0] n k (va_up w (G.2.1 + 33) (ai G 26100 (upd (upd (upd (upd (upd (upd (upd (upd (upd (upd (sx 256) (1 : Int32).toNatClampNeg 1) (2 : Int32).toNatClampNeg 1) (1100 : Int32).toNatClampNeg 1) (1101 : Int32).toNatClampNeg 5) (1102 : Int32).toNatClampNeg 0) (1103 : Int32).toNatClampNeg (nI j)) (1104 : Int32).toNatClampNeg 0) (1105 : Int32).toNatClampNeg 0) (6100 : Int32).toNatClampNeg 5) (6101 : Int32).toNatClampNeg (nI j)))) (some (.int (nI j)), n, k, (va_up w (G.2.1 + 33) (ai G 26100 (upd (upd (upd (upd (upd (upd (upd (upd (upd (upd (sx 256) (1 : Int32).toNatClampNeg 1) (2 : Int32).toNatClampNeg 1) (1100 : Int32).toNatClampNeg 1) (1101 : Int32).toNatClampNeg 5) (1102 : Int32).toNatClampNeg 0) (1103 : Int32).toNatClampNeg (nI j)) (1104 : Int32).toNatClampNeg 0) (1105 : Int32).toNatClampNeg 0) (6100 : Int32).toNatClampNeg 5) (6101 : Int32).toNatClampNeg (nI j))))) := by
  refine Ct.of (by decide) (Nat.le_of_ble_eq_true rfl) ⟨Nat.le_refl _, Nat.le_refl _⟩ ?_
  show Go l G mX10_linksOf _ 0 [(0, .ref (G.2.1 + 32)), (1, .int 0)] [] n k (va_up w (G.2.1 + 33) (ai G 26100 (upd (upd (upd (upd (upd (upd (upd (upd (upd (upd (sx 256) (1 : Int32).toNatClampNeg 1) (2 : Int32).toNatClampNeg 1) (1100 : Int32).toNatClampNeg 1) (1101 : Int32).toNatClampNeg 5) (1102 : Int32).toNatClampNeg 0) (1103 : Int32).toNatClampNeg (nI j)) (1104 : Int32).toNatClampNeg 0) (1105 : Int32).toNatClampNeg 0) (6100 : Int32).toNatClampNeg 5) (6101 : Int32).toNatClampNeg (nI j))))
  refine go_aload_n (pc := 0) dX10_linksOf_0 rfl rfl ?_
  refine go_iload_n (pc := 1) dX10_linksOf_1 rfl rfl ?_
  refine go_iconst (pc := 2) (v := 1) dX10_linksOf_2 (by decide) ?_
  refine go_callV_i (pc := 3) vX10_71 rfl (cX10_of_14 j hj hn hw) rfl rfl (gz_b (by omega)) ((va_up_ne _ _ (gz_ne (by decide))).trans ((hw 32 (by decide) (by decide)).trans (wl_at (i := 32) rfl))) rfl (Nat.le_of_ble_eq_true rfl) ⟨Nat.le_of_ble_eq_true rfl, Nat.le_of_ble_eq_true rfl, (Nat.le_add_right _ _), (Nat.le_add_right _ _)⟩ dX10_linksOf_3 ?_
  refine go_istore_n (pc := 6) (lv' := [(2, .int 5), (0, .ref (G.2.1 + 32)), (1, .int 0)]) dX10_linksOf_6 rfl (by decide) rfl ?_
  refine go_iload_n (pc := 7) dX10_linksOf_7 rfl rfl ?_
  refine go_if_ne_t (pc := 8) (tgt := 15) dX10_linksOf_8 (by decide) (by decide) ?_
  refine go_iload_n (pc := 15) dX10_linksOf_15 rfl rfl ?_
  refine go_iconst (pc := 16) (v := 3) dX10_linksOf_16 (by decide) ?_
  refine go_icmp_eq_f (pc := 17) (tgt := 25) dX10_linksOf_17 (by decide) (by decide) ?_
  refine go_iload_n (pc := 20) dX10_linksOf_20 rfl rfl ?_
  refine go_iconst (pc := 21) (v := 4) dX10_linksOf_21 (by decide) ?_
  refine go_icmp_ne_t (pc := 22) (tgt := 29) dX10_linksOf_22 (by decide) (by decide) ?_
  refine go_iload_n (pc := 29) dX10_linksOf_29 rfl rfl ?_
  refine go_iconst (pc := 30) (v := 2) dX10_linksOf_30 (by decide) ?_
  refine go_icmp_ne_t (pc := 31) (tgt := 38) dX10_linksOf_31 (by decide) (by decide) ?_
  refine go_aload_n (pc := 38) dX10_linksOf_38 rfl rfl ?_
  refine go_iload_n (pc := 39) dX10_linksOf_39 rfl rfl ?_
  refine go_iconst (pc := 40) (v := 3) dX10_linksOf_40 (by decide) ?_
  refine go_callV_i (pc := 41) vX10_71 rfl (cX10_of_15 j hj hn hw) rfl rfl (gz_b (by omega)) ((va_up_ne _ _ (gz_ne (by decide))).trans ((hw 32 (by decide) (by decide)).trans (wl_at (i := 32) rfl))) rfl (Nat.le_of_ble_eq_true rfl) ⟨Nat.le_of_ble_eq_true rfl, Nat.le_of_ble_eq_true rfl, (Nat.le_add_right _ _), (Nat.le_add_right _ _)⟩ dX10_linksOf_41 ?_
  exact go_iret (pc := 44) rfl dX10_linksOf_44
set_option maxRecDepth 100000 in
set_option maxHeartbeats 4000000 in
theorem cX10_makes_12 {l : Launch} {G : gG} (j : Nat) (hj : j ≤ 254) (k0 : nI j ≤ 300) (k1 : 0 ≤ nI j) (k4 : ¬ nI j < 0) (k2 : 2 + (2 * (nI j)) ≤ 256) {n k : Nat} {w : Nat → va_E} (hn : 42 ≤ n) (hw : ∀ i, 32 ≤ i → i < 42 → w (G.2.1 + i) = wl G.2.1 (LF G) (G.2.1 + i)) : Ct l G mX10_makes 2 45 [.ref (G.2.1 + 32), .int 5, .int (nI j)] n k w (some (.int 0), n, k, (va_up w (G.2.1 + 33) (ai G 26100 (upd (fun q => if 6102 ≤ q ∧ q < 6102 + j then (-1) else (upd (upd (upd (upd (upd (upd (upd (upd (upd (upd (sx 256) (1 : Int32).toNatClampNeg 1) (2 : Int32).toNatClampNeg 1) (1100 : Int32).toNatClampNeg 1) (1101 : Int32).toNatClampNeg 5) (1102 : Int32).toNatClampNeg 0) (1103 : Int32).toNatClampNeg (nI j)) (1104 : Int32).toNatClampNeg 0) (1105 : Int32).toNatClampNeg 0) (6100 : Int32).toNatClampNeg 5) (6101 : Int32).toNatClampNeg (nI j)) q) (16 : Int32).toNatClampNeg (0 + (2 + (2 * (nI j)))))))) := by
  refine Ct.of (by decide) (Nat.le_of_ble_eq_true rfl) ⟨Nat.le_refl _, Nat.le_refl _⟩ ?_
  show Go l G mX10_makes _ 0 [(0, .ref (G.2.1 + 32)), (1, .int 5), (2, .int (nI j))] [] n k w
  refine go_iload_n (pc := 0) dX10_makes_0 rfl rfl ?_
  refine go_callS_i (pc := 1) sX10_138 rfl (cX10_hasMany_12 hn hw) rfl rfl (Nat.le_of_ble_eq_true rfl) ⟨Nat.le_of_ble_eq_true rfl, Nat.le_of_ble_eq_true rfl, (Nat.le_add_right _ _), (Nat.le_add_right _ _)⟩ dX10_makes_1 ?_
  refine go_if_eq_f (pc := 4) (tgt := 11) dX10_makes_4 (by decide) (by decide) ?_
  refine go_iload_n (pc := 7) dX10_makes_7 rfl rfl ?_
  refine go_goto (pc := 8) (tgt := 12) dX10_makes_8 (by decide) ?_
  refine go_istore_n (pc := 12) (lv' := [(3, .int (nI j)), (0, .ref (G.2.1 + 32)), (1, .int 5), (2, .int (nI j))]) dX10_makes_12 rfl (by decide) rfl ?_
  refine go_iload_n (pc := 13) dX10_makes_13 rfl rfl ?_
  refine go_if_ge_t (pc := 14) (tgt := 22) dX10_makes_14 (by decide) k1 ?_
  refine go_aload_n (pc := 22) dX10_makes_22 rfl rfl ?_
  refine go_get (pc := 23) fX10_9 rfl (gz_b (by omega)) ((hw 32 (by decide) (by decide)).trans (wl_at (i := 32) rfl)) rfl dX10_makes_23 ?_
  refine go_iconst (pc := 26) (v := 1) dX10_makes_26 (by decide) ?_
  refine go_iald (pc := 27) (gz_b (by omega)) ((hw 33 (by decide) (by decide)).trans (wl_at (i := 33) rfl)) (gv_in (by decide)) dX10_makes_27 ?_
  refine go_top (y := 0) rfl ?_
  refine go_sipush (pc := 28) (v := 500) dX10_makes_28 (by decide) ?_
  refine go_icmp_ne_t (pc := 31) (tgt := 40) dX10_makes_31 (by decide) (by decide) ?_
  refine go_iload_n (pc := 40) dX10_makes_40 rfl rfl ?_
  refine go_iload_n (pc := 41) dX10_makes_41 rfl rfl ?_
  refine go_callS_i (pc := 42) sX10_75 rfl (cX10_sizeOf_8 j hj hn hw) rfl rfl (Nat.le_of_ble_eq_true rfl) ⟨Nat.le_of_ble_eq_true rfl, Nat.le_of_ble_eq_true rfl, (Nat.le_add_right _ _), (Nat.le_add_right _ _)⟩ dX10_makes_42 ?_
  refine go_istore (pc := 45) (lv' := [(4, .int (2 + (2 * (nI j)))), (3, .int (nI j)), (0, .ref (G.2.1 + 32)), (1, .int 5), (2, .int (nI j))]) dX10_makes_45 (by decide) rfl ?_
  refine go_iload (pc := 47) dX10_makes_47 rfl ?_
  refine go_aload_n (pc := 49) dX10_makes_49 rfl rfl ?_
  refine go_get (pc := 50) fX10_9 rfl (gz_b (by omega)) ((hw 32 (by decide) (by decide)).trans (wl_at (i := 32) rfl)) rfl dX10_makes_50 ?_
  refine go_iconst (pc := 53) (v := 0) dX10_makes_53 (by decide) ?_
  refine go_iald (pc := 54) (gz_b (by omega)) ((hw 33 (by decide) (by decide)).trans (wl_at (i := 33) rfl)) (gv_in (by decide)) dX10_makes_54 ?_
  refine go_top (y := 256) rfl ?_
  refine go_aload_n (pc := 55) dX10_makes_55 rfl rfl ?_
  refine go_get (pc := 56) fX10_9 rfl (gz_b (by omega)) ((hw 32 (by decide) (by decide)).trans (wl_at (i := 32) rfl)) rfl dX10_makes_56 ?_
  refine go_bipush (pc := 59) (v := 16) dX10_makes_59 (by decide) ?_
  refine go_iald (pc := 61) (gz_b (by omega)) ((hw 33 (by decide) (by decide)).trans (wl_at (i := 33) rfl)) (gv_in (by decide)) dX10_makes_61 ?_
  refine go_top (y := 0) rfl ?_
  refine go_isub (pc := 62) dX10_makes_62 ?_
  refine go_top (y := 256) (by decide) ?_
  refine go_icmp_le_t (pc := 63) (tgt := 127) dX10_makes_63 (by decide) k2 ?_
  refine go_aload_n (pc := 127) dX10_makes_127 rfl rfl ?_
  refine go_get (pc := 128) fX10_9 rfl (gz_b (by omega)) ((hw 32 (by decide) (by decide)).trans (wl_at (i := 32) rfl)) rfl dX10_makes_128 ?_
  refine go_iconst (pc := 131) (v := 1) dX10_makes_131 (by decide) ?_
  refine go_iald (pc := 132) (gz_b (by omega)) ((hw 33 (by decide) (by decide)).trans (wl_at (i := 33) rfl)) (gv_in (by decide)) dX10_makes_132 ?_
  refine go_top (y := 0) rfl ?_
  refine go_istore (pc := 133) (lv' := [(5, .int 0), (4, .int (2 + (2 * (nI j)))), (3, .int (nI j)), (0, .ref (G.2.1 + 32)), (1, .int 5), (2, .int (nI j))]) dX10_makes_133 (by decide) rfl ?_
  refine go_aload_n (pc := 135) dX10_makes_135 rfl rfl ?_
  refine go_get (pc := 136) fX10_9 rfl (gz_b (by omega)) ((hw 32 (by decide) (by decide)).trans (wl_at (i := 32) rfl)) rfl dX10_makes_136 ?_
  refine go_iconst (pc := 139) (v := 1) dX10_makes_139 (by decide) ?_
  refine go_dup2 (pc := 140) dX10_makes_140 rfl rfl ?_
  refine go_iald (pc := 141) (gz_b (by omega)) ((hw 33 (by decide) (by decide)).trans (wl_at (i := 33) rfl)) (gv_in (by decide)) dX10_makes_141 ?_
  refine go_top (y := 0) rfl ?_
  refine go_iconst (pc := 142) (v := 1) dX10_makes_142 (by decide) ?_
  refine go_iadd (pc := 143) dX10_makes_143 ?_
  refine go_top (y := 1) (by decide) ?_
  refine go_iast (pc := 144) (gz_b (by omega)) ((hw 33 (by decide) (by decide)).trans (wl_at (i := 33) rfl)) (gv_in (by decide)) dX10_makes_144 ?_
  refine go_aload_n (pc := 145) dX10_makes_145 rfl rfl ?_
  refine go_get (pc := 146) fX10_9 rfl (gz_b (by omega)) ((va_up_ne _ _ (gz_ne (by decide))).trans ((hw 32 (by decide) (by decide)).trans (wl_at (i := 32) rfl))) rfl dX10_makes_146 ?_
  refine go_iconst (pc := 149) (v := 2) dX10_makes_149 (by decide) ?_
  refine go_dup2 (pc := 150) dX10_makes_150 rfl rfl ?_
  refine go_iald (pc := 151) (gz_b (by omega)) (va_up_self _ _ _) (gv_in (by decide)) dX10_makes_151 ?_
  refine go_top (y := 0) rfl ?_
  refine go_iconst (pc := 152) (v := 1) dX10_makes_152 (by decide) ?_
  refine go_iadd (pc := 153) dX10_makes_153 ?_
  refine go_top (y := 1) (by decide) ?_
  refine go_iast (pc := 154) (gz_b (by omega)) (va_up_self _ _ _) (gv_in (by decide)) dX10_makes_154 ?_
  refine go_w (va_up_up _ _ _ _) ?_
  refine go_aload_n (pc := 155) dX10_makes_155 rfl rfl ?_
  refine go_iload (pc := 156) dX10_makes_156 rfl ?_
  refine go_iconst (pc := 158) (v := 0) dX10_makes_158 (by decide) ?_
  refine go_iconst (pc := 159) (v := 1) dX10_makes_159 (by decide) ?_
  refine go_callV_v (pc := 160) vX10_82 rfl (cX10_lets_1 hn hw) rfl rfl (gz_b (by omega)) ((va_up_ne _ _ (gz_ne (by decide))).trans ((hw 32 (by decide) (by decide)).trans (wl_at (i := 32) rfl))) rfl (Nat.le_of_ble_eq_true rfl) ⟨Nat.le_of_ble_eq_true rfl, Nat.le_of_ble_eq_true rfl, (Nat.le_add_right _ _), (Nat.le_add_right _ _)⟩ dX10_makes_160 ?_
  refine go_aload_n (pc := 163) dX10_makes_163 rfl rfl ?_
  refine go_iload (pc := 164) dX10_makes_164 rfl ?_
  refine go_iconst (pc := 166) (v := 1) dX10_makes_166 (by decide) ?_
  refine go_iload_n (pc := 167) dX10_makes_167 rfl rfl ?_
  refine go_callV_v (pc := 168) vX10_82 rfl (cX10_lets_27 hn hw) rfl rfl (gz_b (by omega)) ((va_up_ne _ _ (gz_ne (by decide))).trans ((hw 32 (by decide) (by decide)).trans (wl_at (i := 32) rfl))) rfl (Nat.le_of_ble_eq_true rfl) ⟨Nat.le_of_ble_eq_true rfl, Nat.le_of_ble_eq_true rfl, (Nat.le_add_right _ _), (Nat.le_add_right _ _)⟩ dX10_makes_168 ?_
  refine go_aload_n (pc := 171) dX10_makes_171 rfl rfl ?_
  refine go_iload (pc := 172) dX10_makes_172 rfl ?_
  refine go_iconst (pc := 174) (v := 2) dX10_makes_174 (by decide) ?_
  refine go_aload_n (pc := 175) dX10_makes_175 rfl rfl ?_
  refine go_get (pc := 176) fX10_9 rfl (gz_b (by omega)) ((va_up_ne _ _ (gz_ne (by decide))).trans ((hw 32 (by decide) (by decide)).trans (wl_at (i := 32) rfl))) rfl dX10_makes_176 ?_
  refine go_bipush (pc := 179) (v := 16) dX10_makes_179 (by decide) ?_
  refine go_iald (pc := 181) (gz_b (by omega)) (va_up_self _ _ _) (gv_in (by decide)) dX10_makes_181 ?_
  refine go_top (y := 0) rfl ?_
  refine go_callV_v (pc := 182) vX10_82 rfl (cX10_lets_28 hn hw) rfl rfl (gz_b (by omega)) ((va_up_ne _ _ (gz_ne (by decide))).trans ((hw 32 (by decide) (by decide)).trans (wl_at (i := 32) rfl))) rfl (Nat.le_of_ble_eq_true rfl) ⟨Nat.le_of_ble_eq_true rfl, Nat.le_of_ble_eq_true rfl, (Nat.le_add_right _ _), (Nat.le_add_right _ _)⟩ dX10_makes_182 ?_
  refine go_aload_n (pc := 185) dX10_makes_185 rfl rfl ?_
  refine go_iload (pc := 186) dX10_makes_186 rfl ?_
  refine go_iconst (pc := 188) (v := 3) dX10_makes_188 (by decide) ?_
  refine go_iload_n (pc := 189) dX10_makes_189 rfl rfl ?_
  refine go_callV_v (pc := 190) vX10_82 rfl (cX10_lets_29 j hj hn hw) rfl rfl (gz_b (by omega)) ((va_up_ne _ _ (gz_ne (by decide))).trans ((hw 32 (by decide) (by decide)).trans (wl_at (i := 32) rfl))) rfl (Nat.le_of_ble_eq_true rfl) ⟨Nat.le_of_ble_eq_true rfl, Nat.le_of_ble_eq_true rfl, (Nat.le_add_right _ _), (Nat.le_add_right _ _)⟩ dX10_makes_190 ?_
  refine go_aload_n (pc := 193) dX10_makes_193 rfl rfl ?_
  refine go_iload (pc := 194) dX10_makes_194 rfl ?_
  refine go_iconst (pc := 196) (v := 4) dX10_makes_196 (by decide) ?_
  refine go_iconst (pc := 197) (v := 0) dX10_makes_197 (by decide) ?_
  refine go_callV_v (pc := 198) vX10_82 rfl (cX10_lets_30 j hj hn hw) rfl rfl (gz_b (by omega)) ((va_up_ne _ _ (gz_ne (by decide))).trans ((hw 32 (by decide) (by decide)).trans (wl_at (i := 32) rfl))) rfl (Nat.le_of_ble_eq_true rfl) ⟨Nat.le_of_ble_eq_true rfl, Nat.le_of_ble_eq_true rfl, (Nat.le_add_right _ _), (Nat.le_add_right _ _)⟩ dX10_makes_198 ?_
  refine go_aload_n (pc := 201) dX10_makes_201 rfl rfl ?_
  refine go_iload (pc := 202) dX10_makes_202 rfl ?_
  refine go_iconst (pc := 204) (v := 5) dX10_makes_204 (by decide) ?_
  refine go_iconst (pc := 205) (v := 0) dX10_makes_205 (by decide) ?_
  refine go_callV_v (pc := 206) vX10_82 rfl (cX10_lets_31 j hj hn hw) rfl rfl (gz_b (by omega)) ((va_up_ne _ _ (gz_ne (by decide))).trans ((hw 32 (by decide) (by decide)).trans (wl_at (i := 32) rfl))) rfl (Nat.le_of_ble_eq_true rfl) ⟨Nat.le_of_ble_eq_true rfl, Nat.le_of_ble_eq_true rfl, (Nat.le_add_right _ _), (Nat.le_add_right _ _)⟩ dX10_makes_206 ?_
  refine go_aload_n (pc := 209) dX10_makes_209 rfl rfl ?_
  refine go_get (pc := 210) fX10_9 rfl (gz_b (by omega)) ((va_up_ne _ _ (gz_ne (by decide))).trans ((hw 32 (by decide) (by decide)).trans (wl_at (i := 32) rfl))) rfl dX10_makes_210 ?_
  refine go_sipush (pc := 213) (v := 6100) dX10_makes_213 (by decide) ?_
  refine go_aload_n (pc := 216) dX10_makes_216 rfl rfl ?_
  refine go_get (pc := 217) fX10_9 rfl (gz_b (by omega)) ((va_up_ne _ _ (gz_ne (by decide))).trans ((hw 32 (by decide) (by decide)).trans (wl_at (i := 32) rfl))) rfl dX10_makes_217 ?_
  refine go_bipush (pc := 220) (v := 16) dX10_makes_220 (by decide) ?_
  refine go_iald (pc := 222) (gz_b (by omega)) (va_up_self _ _ _) (gv_in (by decide)) dX10_makes_222 ?_
  refine go_top (y := 0) rfl ?_
  refine go_iadd (pc := 223) dX10_makes_223 ?_
  refine go_top (y := 6100) (by decide) ?_
  refine go_bipush (pc := 224) (v := 8) dX10_makes_224 (by decide) ?_
  refine go_iload (pc := 226) dX10_makes_226 rfl ?_
  refine go_imul (pc := 228) dX10_makes_228 ?_
  refine go_top (y := 0) (by decide) ?_
  refine go_iload_n (pc := 229) dX10_makes_229 rfl rfl ?_
  refine go_iadd (pc := 230) dX10_makes_230 ?_
  refine go_top (y := 5) (by decide) ?_
  refine go_iast (pc := 231) (gz_b (by omega)) (va_up_self _ _ _) (gv_in (by decide)) dX10_makes_231 ?_
  refine go_w (va_up_up _ _ _ _) ?_
  refine go_iload_n (pc := 232) dX10_makes_232 rfl rfl ?_
  refine go_callS_i (pc := 233) sX10_138 rfl (cX10_hasMany_13 j hj hn hw) rfl rfl (Nat.le_of_ble_eq_true rfl) ⟨Nat.le_of_ble_eq_true rfl, Nat.le_of_ble_eq_true rfl, (Nat.le_add_right _ _), (Nat.le_add_right _ _)⟩ dX10_makes_233 ?_
  refine go_if_eq_f (pc := 236) (tgt := 258) dX10_makes_236 (by decide) (by decide) ?_
  refine go_aload_n (pc := 239) dX10_makes_239 rfl rfl ?_
  refine go_get (pc := 240) fX10_9 rfl (gz_b (by omega)) ((va_up_ne _ _ (gz_ne (by decide))).trans ((hw 32 (by decide) (by decide)).trans (wl_at (i := 32) rfl))) rfl dX10_makes_240 ?_
  refine go_sipush (pc := 243) (v := 6100) dX10_makes_243 (by decide) ?_
  refine go_aload_n (pc := 246) dX10_makes_246 rfl rfl ?_
  refine go_get (pc := 247) fX10_9 rfl (gz_b (by omega)) ((va_up_ne _ _ (gz_ne (by decide))).trans ((hw 32 (by decide) (by decide)).trans (wl_at (i := 32) rfl))) rfl dX10_makes_247 ?_
  refine go_bipush (pc := 250) (v := 16) dX10_makes_250 (by decide) ?_
  refine go_iald (pc := 252) (gz_b (by omega)) (va_up_self _ _ _) (gv_in (by decide)) dX10_makes_252 ?_
  refine go_top (y := 0) rfl ?_
  refine go_iadd (pc := 253) dX10_makes_253 ?_
  refine go_top (y := 6100) (by decide) ?_
  refine go_iconst (pc := 254) (v := 1) dX10_makes_254 (by decide) ?_
  refine go_iadd (pc := 255) dX10_makes_255 ?_
  refine go_top (y := 6101) (by decide) ?_
  refine go_iload_n (pc := 256) dX10_makes_256 rfl rfl ?_
  refine go_iast (pc := 257) (gz_b (by omega)) (va_up_self _ _ _) (gv_in (by decide)) dX10_makes_257 ?_
  refine go_w (va_up_up _ _ _ _) ?_
  refine go_aload_n (pc := 258) dX10_makes_258 rfl rfl ?_
  refine go_iload (pc := 259) dX10_makes_259 rfl ?_
  refine go_callV_i (pc := 261) vX10_90 rfl (cX10_linksOf_6 j hj hn hw) rfl rfl (gz_b (by omega)) ((va_up_ne _ _ (gz_ne (by decide))).trans ((hw 32 (by decide) (by decide)).trans (wl_at (i := 32) rfl))) rfl (Nat.le_of_ble_eq_true rfl) ⟨Nat.le_of_ble_eq_true rfl, Nat.le_of_ble_eq_true rfl, (Nat.le_add_right _ _), (Nat.le_add_right _ _)⟩ dX10_makes_261 ?_
  refine go_istore (pc := 264) (lv' := [(6, .int (nI j)), (5, .int 0), (4, .int (2 + (2 * (nI j)))), (3, .int (nI j)), (0, .ref (G.2.1 + 32)), (1, .int 5), (2, .int (nI j))]) dX10_makes_264 (by decide) rfl ?_
  refine go_iconst (pc := 266) (v := 0) dX10_makes_266 (by decide) ?_
  refine go_istore (pc := 267) (lv' := [(7, .int 0), (6, .int (nI j)), (5, .int 0), (4, .int (2 + (2 * (nI j)))), (3, .int (nI j)), (0, .ref (G.2.1 + 32)), (1, .int 5), (2, .int (nI j))]) dX10_makes_267 (by decide) rfl ?_
  refine go_arr (g := fun q => if 6102 ≤ q ∧ q < 6102 + 0 then (-1) else (upd (upd (upd (upd (upd (upd (upd (upd (upd (upd (sx 256) (1 : Int32).toNatClampNeg 1) (2 : Int32).toNatClampNeg 1) (1100 : Int32).toNatClampNeg 1) (1101 : Int32).toNatClampNeg 5) (1102 : Int32).toNatClampNeg 0) (1103 : Int32).toNatClampNeg (nI j)) (1104 : Int32).toNatClampNeg 0) (1105 : Int32).toNatClampNeg 0) (6100 : Int32).toNatClampNeg 5) (6101 : Int32).toNatClampNeg (nI j)) q) (fun q _ => (if_neg (by omega)).symm) ?_
  refine makes_loop_5 (n := n) (k := k) (a := G.2.1 + 32) (b := G.2.1 + 33) (b1 := G.2.1 + 34) (b2 := G.2.1 + 35) (b8 := G.2.1 + 36) (b9 := G.2.1 + 37) (b10 := G.2.1 + 38) (b11 := G.2.1 + 39) (b13 := G.2.1 + 40) (b15 := G.2.1 + 41) (f3 := 0) (f4 := 0) (f5 := 0) (f6 := 0) (f7 := 0) (f12 := 0) (f14 := 0) (f := (upd (upd (upd (upd (upd (upd (upd (upd (upd (upd (sx 256) (1 : Int32).toNatClampNeg 1) (2 : Int32).toNatClampNeg 1) (1100 : Int32).toNatClampNeg 1) (1101 : Int32).toNatClampNeg 5) (1102 : Int32).toNatClampNeg 0) (1103 : Int32).toNatClampNeg (nI j)) (1104 : Int32).toNatClampNeg 0) (1105 : Int32).toNatClampNeg 0) (6100 : Int32).toNatClampNeg 5) (6101 : Int32).toNatClampNeg (nI j))) hj (Nat.le_of_ble_eq_true rfl) (Nat.le_of_ble_eq_true rfl) ⟨Nat.le_add_right _ _, Nat.le_add_right _ _⟩ rfl rfl (gz_b (by omega)) (gz_b (by omega)) (gz_ne (by decide)) ((hw 32 (by decide) (by decide)).trans (wl_at (i := 32) rfl)) ?_ j 0 (Nat.sub_zero j) (Nat.zero_le j)
  refine go_iload_n (pc := 296) dX10_makes_296 rfl rfl ?_
  refine go_iconst (pc := 297) (v := 3) dX10_makes_297 (by decide) ?_
  refine go_icmp_eq_f (pc := 298) (tgt := 306) dX10_makes_298 (by decide) (by decide) ?_
  refine go_iload_n (pc := 301) dX10_makes_301 rfl rfl ?_
  refine go_iconst (pc := 302) (v := 4) dX10_makes_302 (by decide) ?_
  refine go_icmp_ne_t (pc := 303) (tgt := 318) dX10_makes_303 (by decide) (by decide) ?_
  refine go_aload_n (pc := 318) dX10_makes_318 rfl rfl ?_
  refine go_get (pc := 319) fX10_9 rfl (gz_b (by omega)) ((va_up_ne _ _ (gz_ne (by decide))).trans ((hw 32 (by decide) (by decide)).trans (wl_at (i := 32) rfl))) rfl dX10_makes_319 ?_
  refine go_bipush (pc := 322) (v := 16) dX10_makes_322 (by decide) ?_
  refine go_dup2 (pc := 324) dX10_makes_324 rfl rfl ?_
  refine go_iald (pc := 325) (gz_b (by omega)) (va_up_self _ _ _) (gv_in (by decide)) dX10_makes_325 ?_
  refine go_top (y := 0) rfl ?_
  refine go_iload (pc := 326) dX10_makes_326 rfl ?_
  refine go_iadd (pc := 328) dX10_makes_328 ?_
  refine go_iast (pc := 329) (gz_b (by omega)) (va_up_self _ _ _) (gv_in (by decide)) dX10_makes_329 ?_
  refine go_w (va_up_up _ _ _ _) ?_
  refine go_aload_n (pc := 330) dX10_makes_330 rfl rfl ?_
  refine go_get (pc := 331) fX10_9 rfl (gz_b (by omega)) ((va_up_ne _ _ (gz_ne (by decide))).trans ((hw 32 (by decide) (by decide)).trans (wl_at (i := 32) rfl))) rfl dX10_makes_331 ?_
  refine go_iconst (pc := 334) (v := 3) dX10_makes_334 (by decide) ?_
  refine go_iald (pc := 335) (gz_b (by omega)) (va_up_self _ _ _) (gv_in (by decide)) dX10_makes_335 ?_
  refine go_top (y := 0) rfl ?_
  refine go_iconst (pc := 336) (v := 1) dX10_makes_336 (by decide) ?_
  refine go_icmp_ne_t (pc := 337) (tgt := 349) dX10_makes_337 (by decide) (by decide) ?_
  refine go_iload (pc := 349) dX10_makes_349 rfl ?_
  exact go_iret (pc := 351) rfl dX10_makes_351
set_option maxRecDepth 100000 in
set_option maxHeartbeats 4000000 in
theorem cX10_answers_10 {l : Launch} {G : gG} (j : Nat) (hj : j ≤ 254) {n k : Nat} {w : Nat → va_E} (hn : 42 ≤ n) (hw : ∀ i, 32 ≤ i → i < 42 → w (G.2.1 + i) = wl G.2.1 (LF G) (G.2.1 + i)) : Ct l G mX10_answers 1 25 [.ref (G.2.1 + 32), .int 0] n k (va_up w (G.2.1 + 33) (ai G 26100 (upd (fun q => if 6102 ≤ q ∧ q < 6102 + j then (-1) else (upd (upd (upd (upd (upd (upd (upd (upd (upd (upd (sx 256) (1 : Int32).toNatClampNeg 1) (2 : Int32).toNatClampNeg 1) (1100 : Int32).toNatClampNeg 1) (1101 : Int32).toNatClampNeg 5) (1102 : Int32).toNatClampNeg 0) (1103 : Int32).toNatClampNeg (nI j)) (1104 : Int32).toNatClampNeg 0) (1105 : Int32).toNatClampNeg 0) (6100 : Int32).toNatClampNeg 5) (6101 : Int32).toNatClampNeg (nI j)) q) (16 : Int32).toNatClampNeg (0 + (2 + (2 * (nI j))))))) (some (.int 0), n, k, (va_up (va_up w (G.2.1 + 33) (ai G 26100 (upd (fun q => if 6102 ≤ q ∧ q < 6102 + j then (-1) else (upd (upd (upd (upd (upd (upd (upd (upd (upd (upd (sx 256) (1 : Int32).toNatClampNeg 1) (2 : Int32).toNatClampNeg 1) (1100 : Int32).toNatClampNeg 1) (1101 : Int32).toNatClampNeg 5) (1102 : Int32).toNatClampNeg 0) (1103 : Int32).toNatClampNeg (nI j)) (1104 : Int32).toNatClampNeg 0) (1105 : Int32).toNatClampNeg 0) (6100 : Int32).toNatClampNeg 5) (6101 : Int32).toNatClampNeg (nI j)) q) (16 : Int32).toNatClampNeg (0 + (2 + (2 * (nI j))))))) (G.2.1 + 32) (ob 10 [.ref (G.2.1 + 33), .ref (G.2.1 + 34), .ref (G.2.1 + 35), .int 0, .int 0, .int 0, .int 0, .int 0, .ref (G.2.1 + 36), .ref (G.2.1 + 37), .ref (G.2.1 + 38), .ref (G.2.1 + 39), .int 0, .ref (G.2.1 + 40), .int 0, .ref (G.2.1 + 41)]))) := by
  refine Ct.of (by decide) (Nat.le_of_ble_eq_true rfl) ⟨Nat.le_refl _, Nat.le_refl _⟩ ?_
  show Go l G mX10_answers _ 0 [(0, .ref (G.2.1 + 32)), (1, .int 0)] [] n k (va_up w (G.2.1 + 33) (ai G 26100 (upd (fun q => if 6102 ≤ q ∧ q < 6102 + j then (-1) else (upd (upd (upd (upd (upd (upd (upd (upd (upd (upd (sx 256) (1 : Int32).toNatClampNeg 1) (2 : Int32).toNatClampNeg 1) (1100 : Int32).toNatClampNeg 1) (1101 : Int32).toNatClampNeg 5) (1102 : Int32).toNatClampNeg 0) (1103 : Int32).toNatClampNeg (nI j)) (1104 : Int32).toNatClampNeg 0) (1105 : Int32).toNatClampNeg 0) (6100 : Int32).toNatClampNeg 5) (6101 : Int32).toNatClampNeg (nI j)) q) (16 : Int32).toNatClampNeg (0 + (2 + (2 * (nI j)))))))
  refine go_aload_n (pc := 0) dX10_answers_0 rfl rfl ?_
  refine go_iload_n (pc := 1) dX10_answers_1 rfl rfl ?_
  refine go_i2l (pc := 2) dX10_answers_2 ?_
  refine go_topl (y := 0) (by decide) ?_
  refine go_ldc2 (pc := 3) rfl qX10_78 dX10_answers_3 ?_
  refine go_ldc2 (pc := 6) rfl qX10_80 dX10_answers_6 ?_
  refine go_callS_i (pc := 9) sX10_63 rfl (ct_in 0 ((-18)) ((-11))) rfl rfl (Nat.le_of_ble_eq_true rfl) ⟨Nat.le_of_ble_eq_true rfl, Nat.le_of_ble_eq_true rfl, (Nat.le_add_right _ _), (Nat.le_add_right _ _)⟩ dX10_answers_9 ?_
  refine go_top (y := 0) (by decide) ?_
  refine go_if_eq_t (pc := 12) (tgt := 22) dX10_answers_12 (by decide) (by decide) ?_
  refine go_iconst (pc := 22) (v := 0) dX10_answers_22 (by decide) ?_
  refine go_put (pc := 23) fX10_49 rfl (gz_b (by omega)) ((va_up_ne _ _ (gz_ne (by decide))).trans ((hw 32 (by decide) (by decide)).trans (wl_at (i := 32) rfl))) (Nat.le_of_ble_eq_true rfl) rfl rfl dX10_answers_23 ?_
  refine go_iload_n (pc := 26) dX10_answers_26 rfl rfl ?_
  exact go_iret (pc := 27) rfl dX10_answers_27
set_option maxRecDepth 100000 in
set_option maxHeartbeats 4000000 in
theorem cm_make_5d_o {l : Launch} {G : gG} (j : Nat) (hj : j ≤ 254) (k0 : nI j ≤ 300) (k1 : 0 ≤ nI j) (k4 : ¬ nI j < 0) (k2 : 2 + (2 * (nI j)) ≤ 256) {n k : Nat} {w : Nat → va_E} (hn : 42 ≤ n) (hw : ∀ i, 32 ≤ i → i < 42 → w (G.2.1 + i) = wl G.2.1 (LF G) (G.2.1 + i)) : Ct l G mX10_make 3 72 [.ref (G.2.1 + 32), .int 5, .int (nI j)] n k w (some (.int 0), n, k, (va_up (va_up w (G.2.1 + 33) (ai G 26100 (upd (fun q => if 6102 ≤ q ∧ q < 6102 + j then (-1) else (upd (upd (upd (upd (upd (upd (upd (upd (upd (upd (sx 256) (1 : Int32).toNatClampNeg 1) (2 : Int32).toNatClampNeg 1) (1100 : Int32).toNatClampNeg 1) (1101 : Int32).toNatClampNeg 5) (1102 : Int32).toNatClampNeg 0) (1103 : Int32).toNatClampNeg (nI j)) (1104 : Int32).toNatClampNeg 0) (1105 : Int32).toNatClampNeg 0) (6100 : Int32).toNatClampNeg 5) (6101 : Int32).toNatClampNeg (nI j)) q) (16 : Int32).toNatClampNeg (0 + (2 + (2 * (nI j))))))) (G.2.1 + 32) (ob 10 [.ref (G.2.1 + 33), .ref (G.2.1 + 34), .ref (G.2.1 + 35), .int 0, .int 0, .int 0, .int 0, .int 0, .ref (G.2.1 + 36), .ref (G.2.1 + 37), .ref (G.2.1 + 38), .ref (G.2.1 + 39), .int 0, .ref (G.2.1 + 40), .int 0, .ref (G.2.1 + 41)]))) := by
  refine Ct.of (by decide) (Nat.le_of_ble_eq_true rfl) ⟨Nat.le_refl _, Nat.le_refl _⟩ ?_
  show Go l G mX10_make _ 0 [(0, .ref (G.2.1 + 32)), (1, .int 5), (2, .int (nI j))] [] n k w
  refine go_iload_n (pc := 0) dX10_make_0 rfl rfl ?_
  refine go_i2l (pc := 1) dX10_make_1 ?_
  refine go_topl (y := 5) (by decide) ?_
  refine go_lconst (pc := 2) (v := 0) dX10_make_2 (by decide) ?_
  refine go_ldc2 (pc := 3) rfl qX10_150 dX10_make_3 ?_
  refine go_callS_i (pc := 6) sX10_63 rfl (ct_in 5 0 5) rfl rfl (Nat.le_of_ble_eq_true rfl) ⟨Nat.le_of_ble_eq_true rfl, Nat.le_of_ble_eq_true rfl, (Nat.le_add_right _ _), (Nat.le_add_right _ _)⟩ dX10_make_6 ?_
  refine go_top (y := 1) (by decide) ?_
  refine go_if_eq_f (pc := 9) (tgt := 26) dX10_make_9 (by decide) (by decide) ?_
  refine go_iload_n (pc := 12) dX10_make_12 rfl rfl ?_
  refine go_callS_i (pc := 13) sX10_138 rfl (cX10_hasMany_12 hn hw) rfl rfl (Nat.le_of_ble_eq_true rfl) ⟨Nat.le_of_ble_eq_true rfl, Nat.le_of_ble_eq_true rfl, (Nat.le_add_right _ _), (Nat.le_add_right _ _)⟩ dX10_make_13 ?_
  refine go_if_eq_f (pc := 16) (tgt := 29) dX10_make_16 (by decide) (by decide) ?_
  refine go_iload_n (pc := 19) dX10_make_19 rfl rfl ?_
  refine go_sipush (pc := 20) (v := 300) dX10_make_20 (by decide) ?_
  refine go_icmp_le_t (pc := 23) (tgt := 29) dX10_make_23 (by decide) k0 ?_
  refine go_aload_n (pc := 29) dX10_make_29 rfl rfl ?_
  refine go_aload_n (pc := 30) dX10_make_30 rfl rfl ?_
  refine go_iload_n (pc := 31) dX10_make_31 rfl rfl ?_
  refine go_iload_n (pc := 32) dX10_make_32 rfl rfl ?_
  refine go_callV_i (pc := 33) vX10_152 rfl (cX10_makes_12 j hj k0 k1 k4 k2 hn hw) rfl rfl (gz_b (by omega)) ((hw 32 (by decide) (by decide)).trans (wl_at (i := 32) rfl)) rfl (Nat.le_of_ble_eq_true rfl) ⟨Nat.le_of_ble_eq_true rfl, Nat.le_of_ble_eq_true rfl, (Nat.le_add_right _ _), (Nat.le_add_right _ _)⟩ dX10_make_33 ?_
  refine go_callV_i (pc := 36) vX10_155 rfl (cX10_answers_10 j hj hn hw) rfl rfl (gz_b (by omega)) ((va_up_ne _ _ (gz_ne (by decide))).trans ((hw 32 (by decide) (by decide)).trans (wl_at (i := 32) rfl))) rfl (Nat.le_of_ble_eq_true rfl) ⟨Nat.le_of_ble_eq_true rfl, Nat.le_of_ble_eq_true rfl, (Nat.le_add_right _ _), (Nat.le_add_right _ _)⟩ dX10_make_36 ?_
  exact go_iret (pc := 39) rfl dX10_make_39
theorem cm_make_5d {l : Launch} {G : gG} (j : Nat) (hj : j ≤ 254) (k0 : nI j ≤ 300) (k1 : 0 ≤ nI j) (k4 : ¬ nI j < 0) (k2 : 2 + (2 * (nI j)) ≤ 256) : CM l G mX10_make [.ref (G.2.1 + 32), .int 5, .int (nI j)] 0 := by
  intro n k w hn hw
  exact ⟨3, 72, _, by decide, by decide, cm_make_5d_o j hj k0 k1 k4 k2 hn hw⟩

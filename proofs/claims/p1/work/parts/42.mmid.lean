/-! public methods on the fresh world, laid by wip/tools/p1gen.py -/
set_option maxRecDepth 100000 in
set_option maxHeartbeats 4000000 in
theorem cm_root_e_t {l : Launch} {G : gG} (x1 : Int32) (c0 : (if 0 ≤ x1 ∧ x1 ≤ 23 then (1 : Int32) else 0) = 0) {n k : Nat} {w : Nat → va_E} (hn : 42 ≤ n) (hw : ∀ i, 32 ≤ i → i < 42 → w (G.2.1 + i) = wl G.2.1 (LF G) (G.2.1 + i)) : Ct l G mX10_root 2 45 [.ref (G.2.1 + 32), .int x1, .int ((-1))] n k w (some (.int ((-101))), n, k, w) := by
  refine Ct.of (by decide) (Nat.le_of_ble_eq_true rfl) ⟨Nat.le_refl _, Nat.le_refl _⟩ ?_
  show Go l G mX10_root _ 0 [(0, .ref (G.2.1 + 32)), (1, .int x1), (2, .int ((-1)))] [] n k w
  refine go_iload_n (pc := 0) dX10_root_0 rfl rfl ?_
  refine go_callS_i (pc := 1) sX10_200 rfl (cX10_isRoot_1 x1 hn hw) rfl rfl (Nat.le_of_ble_eq_true rfl) ⟨Nat.le_of_ble_eq_true rfl, Nat.le_of_ble_eq_true rfl, (Nat.le_add_right _ _), (Nat.le_add_right _ _)⟩ dX10_root_1 ?_
  refine go_if_eq_t (pc := 4) (tgt := 15) dX10_root_4 (by decide) c0 ?_
  refine go_bipush (pc := 15) (v := (-101)) dX10_root_15 (by decide) ?_
  refine go_goto (pc := 17) (tgt := 30) dX10_root_17 (by decide) ?_
  exact go_iret (pc := 30) rfl dX10_root_30
set_option maxRecDepth 100000 in
set_option maxHeartbeats 4000000 in
theorem cX10_mayBe_1 {l : Launch} {G : gG} {n k : Nat} {w : Nat → va_E} (hn : 42 ≤ n) (hw : ∀ i, 32 ≤ i → i < 42 → w (G.2.1 + i) = wl G.2.1 (LF G) (G.2.1 + i)) : Ct l G mX10_mayBe 0 0 [.ref (G.2.1 + 32), .int ((-1))] n k w (some (.int 1), n, k, w) := by
  refine Ct.of (by decide) (Nat.le_of_ble_eq_true rfl) ⟨Nat.le_refl _, Nat.le_refl _⟩ ?_
  show Go l G mX10_mayBe _ 0 [(0, .ref (G.2.1 + 32)), (1, .int ((-1)))] [] n k w
  refine go_iload_n (pc := 0) dX10_mayBe_0 rfl rfl ?_
  refine go_iconst (pc := 1) (v := (-1)) dX10_mayBe_1 (by decide) ?_
  refine go_icmp_eq_t (pc := 2) (tgt := 13) dX10_mayBe_2 (by decide) (by decide) ?_
  refine go_iconst (pc := 13) (v := 1) dX10_mayBe_13 (by decide) ?_
  refine go_goto (pc := 14) (tgt := 18) dX10_mayBe_14 (by decide) ?_
  exact go_zret (pc := 18) rfl rfl dX10_mayBe_18
set_option maxRecDepth 100000 in
set_option maxHeartbeats 4000000 in
theorem cX10_roots_2 {l : Launch} {G : gG} (x1 : Int32) (c0 : ¬ (if 0 ≤ x1 ∧ x1 ≤ 23 then (1 : Int32) else 0) = 0) {n k : Nat} {w : Nat → va_E} (hn : 42 ≤ n) (hw : ∀ i, 32 ≤ i → i < 42 → w (G.2.1 + i) = wl G.2.1 (LF G) (G.2.1 + i)) : Ct l G mX10_roots 0 0 [.ref (G.2.1 + 32), .int x1, .int ((-1))] n k w (some (.int 0), n, k, (va_up (va_up w (G.2.1 + 32) (ob 10 [.ref (G.2.1 + 33), .ref (G.2.1 + 34), .ref (G.2.1 + 35), .int 0, .int 0, .int 0, .int 0, .int 0, .ref (G.2.1 + 36), .ref (G.2.1 + 37), .ref (G.2.1 + 38), .ref (G.2.1 + 39), .int ((-1)), .ref (G.2.1 + 40), .int 0, .ref (G.2.1 + 41)])) (G.2.1 + 33) (ai G 26100 (sx 256)))) := by
  refine Ct.of (by decide) (Nat.le_of_ble_eq_true rfl) ⟨Nat.le_refl _, Nat.le_refl _⟩ ?_
  show Go l G mX10_roots _ 0 [(0, .ref (G.2.1 + 32)), (1, .int x1), (2, .int ((-1)))] [] n k w
  refine go_iload_n (pc := 0) dX10_roots_0 rfl rfl ?_
  refine go_iconst (pc := 1) (v := (-1)) dX10_roots_1 (by decide) ?_
  refine go_icmp_eq_t (pc := 2) (tgt := 15) dX10_roots_2 (by decide) (by decide) ?_
  refine go_aload_n (pc := 15) dX10_roots_15 rfl rfl ?_
  refine go_aload_n (pc := 16) dX10_roots_16 rfl rfl ?_
  refine go_get (pc := 17) fX10_9 rfl (gz_b (by omega)) ((hw 32 (by decide) (by decide)).trans (wl_at (i := 32) rfl)) rfl dX10_roots_17 ?_
  refine go_bipush (pc := 20) (v := 20) dX10_roots_20 (by decide) ?_
  refine go_iload_n (pc := 22) dX10_roots_22 rfl rfl ?_
  refine go_iadd (pc := 23) dX10_roots_23 ?_
  refine go_iald (pc := 24) (gz_b (by omega)) ((hw 33 (by decide) (by decide)).trans (wl_at (i := 33) rfl)) (gv_s (o := 20) (B := 23) (by decide) (gi_of c0) (by decide) (by decide) (by decide)) dX10_roots_24 ?_
  refine go_top (y := (-1)) (sx_neg (o := 20) (B := 23) (by decide) (gi_of c0) (by decide) (by decide) (by decide)) ?_
  refine go_put (pc := 25) fX10_171 rfl (gz_b (by omega)) ((hw 32 (by decide) (by decide)).trans (wl_at (i := 32) rfl)) (Nat.le_of_ble_eq_true rfl) rfl rfl dX10_roots_25 ?_
  refine go_aload_n (pc := 28) dX10_roots_28 rfl rfl ?_
  refine go_get (pc := 29) fX10_9 rfl (gz_b (by omega)) (va_up_self _ _ _) rfl dX10_roots_29 ?_
  refine go_bipush (pc := 32) (v := 20) dX10_roots_32 (by decide) ?_
  refine go_iload_n (pc := 34) dX10_roots_34 rfl rfl ?_
  refine go_iadd (pc := 35) dX10_roots_35 ?_
  refine go_iload_n (pc := 36) dX10_roots_36 rfl rfl ?_
  refine go_iast (pc := 37) (gz_b (by omega)) ((va_up_ne _ _ (gz_ne (by decide))).trans ((hw 33 (by decide) (by decide)).trans (wl_at (i := 33) rfl))) (gv_s (o := 20) (B := 23) (by decide) (gi_of c0) (by decide) (by decide) (by decide)) dX10_roots_37 ?_
  refine go_arr (g := sx 256) (fun j _ => sx_upd (sx_neg (o := 20) (B := 23) (by decide) (gi_of c0) (by decide) (by decide) (by decide)) j) ?_
  refine go_aload_n (pc := 38) dX10_roots_38 rfl rfl ?_
  refine go_get (pc := 39) fX10_9 rfl (gz_b (by omega)) ((va_up_ne _ _ (gz_ne (by decide))).trans (va_up_self _ _ _)) rfl dX10_roots_39 ?_
  refine go_iconst (pc := 42) (v := 3) dX10_roots_42 (by decide) ?_
  refine go_iald (pc := 43) (gz_b (by omega)) (va_up_self _ _ _) (gv_in (by decide)) dX10_roots_43 ?_
  refine go_top (y := 0) rfl ?_
  refine go_iconst (pc := 44) (v := 1) dX10_roots_44 (by decide) ?_
  refine go_icmp_ne_t (pc := 45) (tgt := 56) dX10_roots_45 (by decide) (by decide) ?_
  refine go_iconst (pc := 56) (v := 0) dX10_roots_56 (by decide) ?_
  exact go_iret (pc := 57) rfl dX10_roots_57
set_option maxRecDepth 100000 in
set_option maxHeartbeats 4000000 in
theorem cX10_by_3 {l : Launch} {G : gG} {n k : Nat} {w : Nat → va_E} (hn : 42 ≤ n) (hw : ∀ i, 32 ≤ i → i < 42 → w (G.2.1 + i) = wl G.2.1 (LF G) (G.2.1 + i)) : Ct l G mX10_by 0 0 [.ref (G.2.1 + 32), .int 0] n k (va_up (va_up w (G.2.1 + 32) (ob 10 [.ref (G.2.1 + 33), .ref (G.2.1 + 34), .ref (G.2.1 + 35), .int 0, .int 0, .int 0, .int 0, .int 0, .ref (G.2.1 + 36), .ref (G.2.1 + 37), .ref (G.2.1 + 38), .ref (G.2.1 + 39), .int ((-1)), .ref (G.2.1 + 40), .int 0, .ref (G.2.1 + 41)])) (G.2.1 + 33) (ai G 26100 (sx 256))) (some (.int ((-1))), n, k, (va_up (va_up (va_up w (G.2.1 + 32) (ob 10 [.ref (G.2.1 + 33), .ref (G.2.1 + 34), .ref (G.2.1 + 35), .int 0, .int 0, .int 0, .int 0, .int 0, .ref (G.2.1 + 36), .ref (G.2.1 + 37), .ref (G.2.1 + 38), .ref (G.2.1 + 39), .int ((-1)), .ref (G.2.1 + 40), .int 0, .ref (G.2.1 + 41)])) (G.2.1 + 33) (ai G 26100 (sx 256))) (G.2.1 + 32) (ob 10 [.ref (G.2.1 + 33), .ref (G.2.1 + 34), .ref (G.2.1 + 35), .int 0, .int 0, .int 0, .int 0, .int 0, .ref (G.2.1 + 36), .ref (G.2.1 + 37), .ref (G.2.1 + 38), .ref (G.2.1 + 39), .int ((-1)), .ref (G.2.1 + 40), .int 0, .ref (G.2.1 + 41)]))) := by
  refine Ct.of (by decide) (Nat.le_of_ble_eq_true rfl) ⟨Nat.le_refl _, Nat.le_refl _⟩ ?_
  show Go l G mX10_by _ 0 [(0, .ref (G.2.1 + 32)), (1, .int 0)] [] n k (va_up (va_up w (G.2.1 + 32) (ob 10 [.ref (G.2.1 + 33), .ref (G.2.1 + 34), .ref (G.2.1 + 35), .int 0, .int 0, .int 0, .int 0, .int 0, .ref (G.2.1 + 36), .ref (G.2.1 + 37), .ref (G.2.1 + 38), .ref (G.2.1 + 39), .int ((-1)), .ref (G.2.1 + 40), .int 0, .ref (G.2.1 + 41)])) (G.2.1 + 33) (ai G 26100 (sx 256)))
  refine go_aload_n (pc := 0) dX10_by_0 rfl rfl ?_
  refine go_iload_n (pc := 1) dX10_by_1 rfl rfl ?_
  refine go_put (pc := 2) fX10_49 rfl (gz_b (by omega)) ((va_up_ne _ _ (gz_ne (by decide))).trans (va_up_self _ _ _)) (Nat.le_of_ble_eq_true rfl) rfl rfl dX10_by_2 ?_
  refine go_iload_n (pc := 5) dX10_by_5 rfl rfl ?_
  refine go_if_le_t (pc := 6) (tgt := 16) dX10_by_6 (by decide) (by decide) ?_
  refine go_aload_n (pc := 16) dX10_by_16 rfl rfl ?_
  refine go_get (pc := 17) fX10_171 rfl (gz_b (by omega)) (va_up_self _ _ _) rfl dX10_by_17 ?_
  exact go_iret (pc := 20) rfl dX10_by_20
set_option maxRecDepth 100000 in
set_option maxHeartbeats 4000000 in
theorem cm_root_e_f {l : Launch} {G : gG} (x1 : Int32) (c0 : ¬ (if 0 ≤ x1 ∧ x1 ≤ 23 then (1 : Int32) else 0) = 0) {n k : Nat} {w : Nat → va_E} (hn : 42 ≤ n) (hw : ∀ i, 32 ≤ i → i < 42 → w (G.2.1 + i) = wl G.2.1 (LF G) (G.2.1 + i)) : Ct l G mX10_root 2 45 [.ref (G.2.1 + 32), .int x1, .int ((-1))] n k w (some (.int ((-1))), n, k, (va_up (va_up (va_up w (G.2.1 + 32) (ob 10 [.ref (G.2.1 + 33), .ref (G.2.1 + 34), .ref (G.2.1 + 35), .int 0, .int 0, .int 0, .int 0, .int 0, .ref (G.2.1 + 36), .ref (G.2.1 + 37), .ref (G.2.1 + 38), .ref (G.2.1 + 39), .int ((-1)), .ref (G.2.1 + 40), .int 0, .ref (G.2.1 + 41)])) (G.2.1 + 33) (ai G 26100 (sx 256))) (G.2.1 + 32) (ob 10 [.ref (G.2.1 + 33), .ref (G.2.1 + 34), .ref (G.2.1 + 35), .int 0, .int 0, .int 0, .int 0, .int 0, .ref (G.2.1 + 36), .ref (G.2.1 + 37), .ref (G.2.1 + 38), .ref (G.2.1 + 39), .int ((-1)), .ref (G.2.1 + 40), .int 0, .ref (G.2.1 + 41)]))) := by
  refine Ct.of (by decide) (Nat.le_of_ble_eq_true rfl) ⟨Nat.le_refl _, Nat.le_refl _⟩ ?_
  show Go l G mX10_root _ 0 [(0, .ref (G.2.1 + 32)), (1, .int x1), (2, .int ((-1)))] [] n k w
  refine go_iload_n (pc := 0) dX10_root_0 rfl rfl ?_
  refine go_callS_i (pc := 1) sX10_200 rfl (cX10_isRoot_1 x1 hn hw) rfl rfl (Nat.le_of_ble_eq_true rfl) ⟨Nat.le_of_ble_eq_true rfl, Nat.le_of_ble_eq_true rfl, (Nat.le_add_right _ _), (Nat.le_add_right _ _)⟩ dX10_root_1 ?_
  refine go_if_eq_f (pc := 4) (tgt := 15) dX10_root_4 (by decide) c0 ?_
  refine go_aload_n (pc := 7) dX10_root_7 rfl rfl ?_
  refine go_iload_n (pc := 8) dX10_root_8 rfl rfl ?_
  refine go_callV_i (pc := 9) vX10_164 rfl (cX10_mayBe_1 hn hw) rfl rfl (gz_b (by omega)) ((hw 32 (by decide) (by decide)).trans (wl_at (i := 32) rfl)) rfl (Nat.le_of_ble_eq_true rfl) ⟨Nat.le_of_ble_eq_true rfl, Nat.le_of_ble_eq_true rfl, (Nat.le_add_right _ _), (Nat.le_add_right _ _)⟩ dX10_root_9 ?_
  refine go_if_ne_t (pc := 12) (tgt := 20) dX10_root_12 (by decide) (by decide) ?_
  refine go_aload_n (pc := 20) dX10_root_20 rfl rfl ?_
  refine go_aload_n (pc := 21) dX10_root_21 rfl rfl ?_
  refine go_iload_n (pc := 22) dX10_root_22 rfl rfl ?_
  refine go_iload_n (pc := 23) dX10_root_23 rfl rfl ?_
  refine go_callV_i (pc := 24) vX10_203 rfl (cX10_roots_2 x1 c0 hn hw) rfl rfl (gz_b (by omega)) ((hw 32 (by decide) (by decide)).trans (wl_at (i := 32) rfl)) rfl (Nat.le_of_ble_eq_true rfl) ⟨Nat.le_of_ble_eq_true rfl, Nat.le_of_ble_eq_true rfl, (Nat.le_add_right _ _), (Nat.le_add_right _ _)⟩ dX10_root_24 ?_
  refine go_callV_i (pc := 27) vX10_177 rfl (cX10_by_3 hn hw) rfl rfl (gz_b (by omega)) ((va_up_ne _ _ (gz_ne (by decide))).trans (va_up_self _ _ _)) rfl (Nat.le_of_ble_eq_true rfl) ⟨Nat.le_of_ble_eq_true rfl, Nat.le_of_ble_eq_true rfl, (Nat.le_add_right _ _), (Nat.le_add_right _ _)⟩ dX10_root_27 ?_
  exact go_iret (pc := 30) rfl dX10_root_30
theorem cm_root_e {l : Launch} {G : gG} (x1 : Int32) : CM l G mX10_root [.ref (G.2.1 + 32), .int x1, .int ((-1))] ((if (if 0 ≤ x1 ∧ x1 ≤ 23 then (1 : Int32) else 0) = 0 then (-101) else (-1))) := by
  intro n k w hn hw
  by_cases c0 : (if 0 ≤ x1 ∧ x1 ≤ 23 then (1 : Int32) else 0) = 0
  · rw [if_pos c0]
    exact ⟨2, 45, _, by decide, by decide, cm_root_e_t x1 c0 hn hw⟩
  · rw [if_neg c0]
    exact ⟨2, 45, _, by decide, by decide, cm_root_e_f x1 c0 hn hw⟩
set_option maxRecDepth 100000 in
set_option maxHeartbeats 4000000 in
theorem cm_root_n_t {l : Launch} {G : gG} (x1 : Int32) (x2 : Int32) (k0 : ¬ x2 = (-1)) (c0 : (if 0 ≤ x1 ∧ x1 ≤ 23 then (1 : Int32) else 0) = 0) {n k : Nat} {w : Nat → va_E} (hn : 42 ≤ n) (hw : ∀ i, 32 ≤ i → i < 42 → w (G.2.1 + i) = wl G.2.1 (LF G) (G.2.1 + i)) : Ct l G mX10_root 2 45 [.ref (G.2.1 + 32), .int x1, .int x2] n k w (some (.int ((-101))), n, k, w) := by
  refine Ct.of (by decide) (Nat.le_of_ble_eq_true rfl) ⟨Nat.le_refl _, Nat.le_refl _⟩ ?_
  show Go l G mX10_root _ 0 [(0, .ref (G.2.1 + 32)), (1, .int x1), (2, .int x2)] [] n k w
  refine go_iload_n (pc := 0) dX10_root_0 rfl rfl ?_
  refine go_callS_i (pc := 1) sX10_200 rfl (cX10_isRoot_1 x1 hn hw) rfl rfl (Nat.le_of_ble_eq_true rfl) ⟨Nat.le_of_ble_eq_true rfl, Nat.le_of_ble_eq_true rfl, (Nat.le_add_right _ _), (Nat.le_add_right _ _)⟩ dX10_root_1 ?_
  refine go_if_eq_t (pc := 4) (tgt := 15) dX10_root_4 (by decide) c0 ?_
  refine go_bipush (pc := 15) (v := (-101)) dX10_root_15 (by decide) ?_
  refine go_goto (pc := 17) (tgt := 30) dX10_root_17 (by decide) ?_
  exact go_iret (pc := 30) rfl dX10_root_30
set_option maxRecDepth 100000 in
set_option maxHeartbeats 4000000 in
theorem cX10_isMade_2 {l : Launch} {G : gG} (x2 : Int32) {n k : Nat} {w : Nat → va_E} (hn : 42 ≤ n) (hw : ∀ i, 32 ≤ i → i < 42 → w (G.2.1 + i) = wl G.2.1 (LF G) (G.2.1 + i)) : Ct l G mX10_isMade 1 25 [.ref (G.2.1 + 32), .int x2] n k w (some (.int 0), n, k, w) := by
  refine Ct.of (by decide) (Nat.le_of_ble_eq_true rfl) ⟨Nat.le_refl _, Nat.le_refl _⟩ ?_
  show Go l G mX10_isMade _ 0 [(0, .ref (G.2.1 + 32)), (1, .int x2)] [] n k w
  refine go_iload_n (pc := 0) dX10_isMade_0 rfl rfl ?_
  refine go_i2l (pc := 1) dX10_isMade_1 ?_
  refine go_lconst (pc := 2) (v := 0) dX10_isMade_2 (by decide) ?_
  refine go_aload_n (pc := 3) dX10_isMade_3 rfl rfl ?_
  refine go_get (pc := 4) fX10_9 rfl (gz_b (by omega)) ((hw 32 (by decide) (by decide)).trans (wl_at (i := 32) rfl)) rfl dX10_isMade_4 ?_
  refine go_iconst (pc := 7) (v := 1) dX10_isMade_7 (by decide) ?_
  refine go_iald (pc := 8) (gz_b (by omega)) ((hw 33 (by decide) (by decide)).trans (wl_at (i := 33) rfl)) (gv_in (by decide)) dX10_isMade_8 ?_
  refine go_top (y := 0) rfl ?_
  refine go_iconst (pc := 9) (v := 1) dX10_isMade_9 (by decide) ?_
  refine go_isub (pc := 10) dX10_isMade_10 ?_
  refine go_top (y := (-1)) (by decide) ?_
  refine go_i2l (pc := 11) dX10_isMade_11 ?_
  refine go_topl (y := (-1)) (by decide) ?_
  refine go_callS_i (pc := 12) sX10_63 rfl (ct_in x2.toInt64 0 ((-1))) rfl rfl (Nat.le_of_ble_eq_true rfl) ⟨Nat.le_of_ble_eq_true rfl, Nat.le_of_ble_eq_true rfl, (Nat.le_add_right _ _), (Nat.le_add_right _ _)⟩ dX10_isMade_12 ?_
  refine go_top (y := 0) (gi_no (by decide)) ?_
  exact go_zret (pc := 15) rfl rfl dX10_isMade_15
set_option maxRecDepth 100000 in
set_option maxHeartbeats 4000000 in
theorem cX10_mayBe_2 {l : Launch} {G : gG} (x2 : Int32) (k0 : ¬ x2 = (-1)) {n k : Nat} {w : Nat → va_E} (hn : 42 ≤ n) (hw : ∀ i, 32 ≤ i → i < 42 → w (G.2.1 + i) = wl G.2.1 (LF G) (G.2.1 + i)) : Ct l G mX10_mayBe 2 46 [.ref (G.2.1 + 32), .int x2] n k w (some (.int 0), n, k, w) := by
  refine Ct.of (by decide) (Nat.le_of_ble_eq_true rfl) ⟨Nat.le_refl _, Nat.le_refl _⟩ ?_
  show Go l G mX10_mayBe _ 0 [(0, .ref (G.2.1 + 32)), (1, .int x2)] [] n k w
  refine go_iload_n (pc := 0) dX10_mayBe_0 rfl rfl ?_
  refine go_iconst (pc := 1) (v := (-1)) dX10_mayBe_1 (by decide) ?_
  refine go_icmp_eq_f (pc := 2) (tgt := 13) dX10_mayBe_2 (by decide) k0 ?_
  refine go_aload_n (pc := 5) dX10_mayBe_5 rfl rfl ?_
  refine go_iload_n (pc := 6) dX10_mayBe_6 rfl rfl ?_
  refine go_callV_i (pc := 7) vX10_67 rfl (cX10_isMade_2 x2 hn hw) rfl rfl (gz_b (by omega)) ((hw 32 (by decide) (by decide)).trans (wl_at (i := 32) rfl)) rfl (Nat.le_of_ble_eq_true rfl) ⟨Nat.le_of_ble_eq_true rfl, Nat.le_of_ble_eq_true rfl, (Nat.le_add_right _ _), (Nat.le_add_right _ _)⟩ dX10_mayBe_7 ?_
  refine go_if_eq_t (pc := 10) (tgt := 17) dX10_mayBe_10 (by decide) (by decide) ?_
  refine go_iconst (pc := 17) (v := 0) dX10_mayBe_17 (by decide) ?_
  exact go_zret (pc := 18) rfl rfl dX10_mayBe_18
set_option maxRecDepth 100000 in
set_option maxHeartbeats 4000000 in
theorem cm_root_n_f {l : Launch} {G : gG} (x1 : Int32) (x2 : Int32) (k0 : ¬ x2 = (-1)) (c0 : ¬ (if 0 ≤ x1 ∧ x1 ≤ 23 then (1 : Int32) else 0) = 0) {n k : Nat} {w : Nat → va_E} (hn : 42 ≤ n) (hw : ∀ i, 32 ≤ i → i < 42 → w (G.2.1 + i) = wl G.2.1 (LF G) (G.2.1 + i)) : Ct l G mX10_root 3 67 [.ref (G.2.1 + 32), .int x1, .int x2] n k w (some (.int ((-101))), n, k, w) := by
  refine Ct.of (by decide) (Nat.le_of_ble_eq_true rfl) ⟨Nat.le_refl _, Nat.le_refl _⟩ ?_
  show Go l G mX10_root _ 0 [(0, .ref (G.2.1 + 32)), (1, .int x1), (2, .int x2)] [] n k w
  refine go_iload_n (pc := 0) dX10_root_0 rfl rfl ?_
  refine go_callS_i (pc := 1) sX10_200 rfl (cX10_isRoot_1 x1 hn hw) rfl rfl (Nat.le_of_ble_eq_true rfl) ⟨Nat.le_of_ble_eq_true rfl, Nat.le_of_ble_eq_true rfl, (Nat.le_add_right _ _), (Nat.le_add_right _ _)⟩ dX10_root_1 ?_
  refine go_if_eq_f (pc := 4) (tgt := 15) dX10_root_4 (by decide) c0 ?_
  refine go_aload_n (pc := 7) dX10_root_7 rfl rfl ?_
  refine go_iload_n (pc := 8) dX10_root_8 rfl rfl ?_
  refine go_callV_i (pc := 9) vX10_164 rfl (cX10_mayBe_2 x2 k0 hn hw) rfl rfl (gz_b (by omega)) ((hw 32 (by decide) (by decide)).trans (wl_at (i := 32) rfl)) rfl (Nat.le_of_ble_eq_true rfl) ⟨Nat.le_of_ble_eq_true rfl, Nat.le_of_ble_eq_true rfl, (Nat.le_add_right _ _), (Nat.le_add_right _ _)⟩ dX10_root_9 ?_
  refine go_if_ne_f (pc := 12) (tgt := 20) dX10_root_12 (by decide) (by decide) ?_
  refine go_bipush (pc := 15) (v := (-101)) dX10_root_15 (by decide) ?_
  refine go_goto (pc := 17) (tgt := 30) dX10_root_17 (by decide) ?_
  exact go_iret (pc := 30) rfl dX10_root_30
theorem cm_root_n {l : Launch} {G : gG} (x1 : Int32) (x2 : Int32) (k0 : ¬ x2 = (-1)) : CM l G mX10_root [.ref (G.2.1 + 32), .int x1, .int x2] ((-101)) := by
  intro n k w hn hw
  by_cases c0 : (if 0 ≤ x1 ∧ x1 ≤ 23 then (1 : Int32) else 0) = 0
  · exact ⟨2, 45, _, by decide, by decide, cm_root_n_t x1 x2 k0 c0 hn hw⟩
  · exact ⟨3, 67, _, by decide, by decide, cm_root_n_f x1 x2 k0 c0 hn hw⟩
theorem cm_root {l : Launch} {G : gG} (x1 : Int32) (x2 : Int32) : CM l G mX10_root [.ref (G.2.1 + 32), .int x1, .int x2] ((if x2 = (-1) then (if (if 0 ≤ x1 ∧ x1 ≤ 23 then (1 : Int32) else 0) = 0 then (-101) else (-1)) else (-101))) := by
  by_cases k0 : x2 = (-1)
  · subst k0
    rw [if_pos rfl]
    exact cm_root_e x1
  · rw [if_neg k0]
    exact cm_root_n x1 x2 k0
set_option maxRecDepth 100000 in
set_option maxHeartbeats 4000000 in
theorem cm_shelve_e_e_t {l : Launch} {G : gG} (x1 : Int32) (x2 : Int32) (k1 : (if 0 ≤ x2 ∧ x2 ≤ 7 then (1 : Int32) else 0) = 0) (c0 : (if 0 ≤ x1 ∧ x1 ≤ 3 then (1 : Int32) else 0) = 0) {n k : Nat} {w : Nat → va_E} (hn : 42 ≤ n) (hw : ∀ i, 32 ≤ i → i < 42 → w (G.2.1 + i) = wl G.2.1 (LF G) (G.2.1 + i)) : Ct l G mX10_shelve 1 25 [.ref (G.2.1 + 32), .int x1, .int x2, .int ((-1))] n k w (some (.int ((-101))), n, k, w) := by
  refine Ct.of (by decide) (Nat.le_of_ble_eq_true rfl) ⟨Nat.le_refl _, Nat.le_refl _⟩ ?_
  show Go l G mX10_shelve _ 0 [(0, .ref (G.2.1 + 32)), (1, .int x1), (2, .int x2), (3, .int ((-1)))] [] n k w
  refine go_iload_n (pc := 0) dX10_shelve_0 rfl rfl ?_
  refine go_i2l (pc := 1) dX10_shelve_1 ?_
  refine go_lconst (pc := 2) (v := 0) dX10_shelve_2 (by decide) ?_
  refine go_ldc2 (pc := 3) rfl qX10_219 dX10_shelve_3 ?_
  refine go_callS_i (pc := 6) sX10_63 rfl (ct_in x1.toInt64 0 3) rfl rfl (Nat.le_of_ble_eq_true rfl) ⟨Nat.le_of_ble_eq_true rfl, Nat.le_of_ble_eq_true rfl, (Nat.le_add_right _ _), (Nat.le_add_right _ _)⟩ dX10_shelve_6 ?_
  refine go_top (y := (if 0 ≤ x1 ∧ x1 ≤ 3 then (1 : Int32) else 0)) (gi_in (by decide) (by decide)) ?_
  refine go_if_eq_t (pc := 9) (tgt := 20) dX10_shelve_9 (by decide) c0 ?_
  refine go_bipush (pc := 20) (v := (-101)) dX10_shelve_20 (by decide) ?_
  refine go_goto (pc := 22) (tgt := 36) dX10_shelve_22 (by decide) ?_
  exact go_iret (pc := 36) rfl dX10_shelve_36
set_option maxRecDepth 100000 in
set_option maxHeartbeats 4000000 in
theorem cX10_fails_2 {l : Launch} {G : gG} {n k : Nat} {w : Nat → va_E} (hn : 42 ≤ n) (hw : ∀ i, 32 ≤ i → i < 42 → w (G.2.1 + i) = wl G.2.1 (LF G) (G.2.1 + i)) : Ct l G mX10_fails 0 0 [.int 2] n k w (some (.int ((-12))), n, k, w) := by
  refine Ct.of (by decide) (Nat.le_of_ble_eq_true rfl) ⟨Nat.le_refl _, Nat.le_refl _⟩ ?_
  show Go l G mX10_fails _ 0 [(0, .int 2)] [] n k w
  refine go_bipush (pc := 0) (v := (-10)) dX10_fails_0 (by decide) ?_
  refine go_iload_n (pc := 2) dX10_fails_2 rfl rfl ?_
  refine go_isub (pc := 3) dX10_fails_3 ?_
  refine go_top (y := (-12)) (by decide) ?_
  exact go_iret (pc := 4) rfl dX10_fails_4
set_option maxRecDepth 100000 in
set_option maxHeartbeats 4000000 in
theorem cX10_shelves_1 {l : Launch} {G : gG} (x1 : Int32) (x2 : Int32) (k1 : (if 0 ≤ x2 ∧ x2 ≤ 7 then (1 : Int32) else 0) = 0) (c0 : ¬ (if 0 ≤ x1 ∧ x1 ≤ 3 then (1 : Int32) else 0) = 0) {n k : Nat} {w : Nat → va_E} (hn : 42 ≤ n) (hw : ∀ i, 32 ≤ i → i < 42 → w (G.2.1 + i) = wl G.2.1 (LF G) (G.2.1 + i)) : Ct l G mX10_shelves 1 25 [.ref (G.2.1 + 32), .int x1, .int x2, .int ((-1))] n k w (some (.int ((-12))), n, k, w) := by
  refine Ct.of (by decide) (Nat.le_of_ble_eq_true rfl) ⟨Nat.le_refl _, Nat.le_refl _⟩ ?_
  show Go l G mX10_shelves _ 0 [(0, .ref (G.2.1 + 32)), (1, .int x1), (2, .int x2), (3, .int ((-1)))] [] n k w
  refine go_iload_n (pc := 0) dX10_shelves_0 rfl rfl ?_
  refine go_iconst (pc := 1) (v := (-1)) dX10_shelves_1 (by decide) ?_
  refine go_icmp_eq_t (pc := 2) (tgt := 18) dX10_shelves_2 (by decide) (by decide) ?_
  refine go_iload_n (pc := 18) dX10_shelves_18 rfl rfl ?_
  refine go_i2l (pc := 19) dX10_shelves_19 ?_
  refine go_lconst (pc := 20) (v := 0) dX10_shelves_20 (by decide) ?_
  refine go_ldc2 (pc := 21) rfl qX10_213 dX10_shelves_21 ?_
  refine go_callS_i (pc := 24) sX10_63 rfl (ct_in x2.toInt64 0 7) rfl rfl (Nat.le_of_ble_eq_true rfl) ⟨Nat.le_of_ble_eq_true rfl, Nat.le_of_ble_eq_true rfl, (Nat.le_add_right _ _), (Nat.le_add_right _ _)⟩ dX10_shelves_24 ?_
  refine go_top (y := (if 0 ≤ x2 ∧ x2 ≤ 7 then (1 : Int32) else 0)) (gi_in (by decide) (by decide)) ?_
  refine go_if_ne_f (pc := 27) (tgt := 35) dX10_shelves_27 (by decide) k1 ?_
  refine go_iconst (pc := 30) (v := 2) dX10_shelves_30 (by decide) ?_
  refine go_callS_i (pc := 31) sX10_141 rfl (cX10_fails_2 hn hw) rfl rfl (Nat.le_of_ble_eq_true rfl) ⟨Nat.le_of_ble_eq_true rfl, Nat.le_of_ble_eq_true rfl, (Nat.le_add_right _ _), (Nat.le_add_right _ _)⟩ dX10_shelves_31 ?_
  exact go_iret (pc := 34) rfl dX10_shelves_34
set_option maxRecDepth 100000 in
set_option maxHeartbeats 4000000 in
theorem cX10_answers_1 {l : Launch} {G : gG} {n k : Nat} {w : Nat → va_E} (hn : 42 ≤ n) (hw : ∀ i, 32 ≤ i → i < 42 → w (G.2.1 + i) = wl G.2.1 (LF G) (G.2.1 + i)) : Ct l G mX10_answers 1 25 [.ref (G.2.1 + 32), .int ((-12))] n k w (some (.int ((-12))), n, k, (va_up w (G.2.1 + 32) (ob 10 [.ref (G.2.1 + 33), .ref (G.2.1 + 34), .ref (G.2.1 + 35), .int 0, .int 0, .int 2, .int 0, .int 0, .ref (G.2.1 + 36), .ref (G.2.1 + 37), .ref (G.2.1 + 38), .ref (G.2.1 + 39), .int 0, .ref (G.2.1 + 40), .int 0, .ref (G.2.1 + 41)]))) := by
  refine Ct.of (by decide) (Nat.le_of_ble_eq_true rfl) ⟨Nat.le_refl _, Nat.le_refl _⟩ ?_
  show Go l G mX10_answers _ 0 [(0, .ref (G.2.1 + 32)), (1, .int ((-12)))] [] n k w
  refine go_aload_n (pc := 0) dX10_answers_0 rfl rfl ?_
  refine go_iload_n (pc := 1) dX10_answers_1 rfl rfl ?_
  refine go_i2l (pc := 2) dX10_answers_2 ?_
  refine go_topl (y := (-12)) (by decide) ?_
  refine go_ldc2 (pc := 3) rfl qX10_78 dX10_answers_3 ?_
  refine go_ldc2 (pc := 6) rfl qX10_80 dX10_answers_6 ?_
  refine go_callS_i (pc := 9) sX10_63 rfl (ct_in ((-12)) ((-18)) ((-11))) rfl rfl (Nat.le_of_ble_eq_true rfl) ⟨Nat.le_of_ble_eq_true rfl, Nat.le_of_ble_eq_true rfl, (Nat.le_add_right _ _), (Nat.le_add_right _ _)⟩ dX10_answers_9 ?_
  refine go_top (y := 1) (by decide) ?_
  refine go_if_eq_f (pc := 12) (tgt := 22) dX10_answers_12 (by decide) (by decide) ?_
  refine go_bipush (pc := 15) (v := (-10)) dX10_answers_15 (by decide) ?_
  refine go_iload_n (pc := 17) dX10_answers_17 rfl rfl ?_
  refine go_isub (pc := 18) dX10_answers_18 ?_
  refine go_top (y := 2) (by decide) ?_
  refine go_goto (pc := 19) (tgt := 23) dX10_answers_19 (by decide) ?_
  refine go_put (pc := 23) fX10_49 rfl (gz_b (by omega)) ((hw 32 (by decide) (by decide)).trans (wl_at (i := 32) rfl)) (Nat.le_of_ble_eq_true rfl) rfl rfl dX10_answers_23 ?_
  refine go_iload_n (pc := 26) dX10_answers_26 rfl rfl ?_
  exact go_iret (pc := 27) rfl dX10_answers_27
set_option maxRecDepth 100000 in
set_option maxHeartbeats 4000000 in
theorem cm_shelve_e_e_f {l : Launch} {G : gG} (x1 : Int32) (x2 : Int32) (k1 : (if 0 ≤ x2 ∧ x2 ≤ 7 then (1 : Int32) else 0) = 0) (c0 : ¬ (if 0 ≤ x1 ∧ x1 ≤ 3 then (1 : Int32) else 0) = 0) {n k : Nat} {w : Nat → va_E} (hn : 42 ≤ n) (hw : ∀ i, 32 ≤ i → i < 42 → w (G.2.1 + i) = wl G.2.1 (LF G) (G.2.1 + i)) : Ct l G mX10_shelve 2 48 [.ref (G.2.1 + 32), .int x1, .int x2, .int ((-1))] n k w (some (.int ((-12))), n, k, (va_up w (G.2.1 + 32) (ob 10 [.ref (G.2.1 + 33), .ref (G.2.1 + 34), .ref (G.2.1 + 35), .int 0, .int 0, .int 2, .int 0, .int 0, .ref (G.2.1 + 36), .ref (G.2.1 + 37), .ref (G.2.1 + 38), .ref (G.2.1 + 39), .int 0, .ref (G.2.1 + 40), .int 0, .ref (G.2.1 + 41)]))) := by
  refine Ct.of (by decide) (Nat.le_of_ble_eq_true rfl) ⟨Nat.le_refl _, Nat.le_refl _⟩ ?_
  show Go l G mX10_shelve _ 0 [(0, .ref (G.2.1 + 32)), (1, .int x1), (2, .int x2), (3, .int ((-1)))] [] n k w
  refine go_iload_n (pc := 0) dX10_shelve_0 rfl rfl ?_
  refine go_i2l (pc := 1) dX10_shelve_1 ?_
  refine go_lconst (pc := 2) (v := 0) dX10_shelve_2 (by decide) ?_
  refine go_ldc2 (pc := 3) rfl qX10_219 dX10_shelve_3 ?_
  refine go_callS_i (pc := 6) sX10_63 rfl (ct_in x1.toInt64 0 3) rfl rfl (Nat.le_of_ble_eq_true rfl) ⟨Nat.le_of_ble_eq_true rfl, Nat.le_of_ble_eq_true rfl, (Nat.le_add_right _ _), (Nat.le_add_right _ _)⟩ dX10_shelve_6 ?_
  refine go_top (y := (if 0 ≤ x1 ∧ x1 ≤ 3 then (1 : Int32) else 0)) (gi_in (by decide) (by decide)) ?_
  refine go_if_eq_f (pc := 9) (tgt := 20) dX10_shelve_9 (by decide) c0 ?_
  refine go_aload_n (pc := 12) dX10_shelve_12 rfl rfl ?_
  refine go_iload_n (pc := 13) dX10_shelve_13 rfl rfl ?_
  refine go_callV_i (pc := 14) vX10_164 rfl (cX10_mayBe_1 hn hw) rfl rfl (gz_b (by omega)) ((hw 32 (by decide) (by decide)).trans (wl_at (i := 32) rfl)) rfl (Nat.le_of_ble_eq_true rfl) ⟨Nat.le_of_ble_eq_true rfl, Nat.le_of_ble_eq_true rfl, (Nat.le_add_right _ _), (Nat.le_add_right _ _)⟩ dX10_shelve_14 ?_
  refine go_if_ne_t (pc := 17) (tgt := 25) dX10_shelve_17 (by decide) (by decide) ?_
  refine go_aload_n (pc := 25) dX10_shelve_25 rfl rfl ?_
  refine go_aload_n (pc := 26) dX10_shelve_26 rfl rfl ?_
  refine go_iload_n (pc := 27) dX10_shelve_27 rfl rfl ?_
  refine go_iload_n (pc := 28) dX10_shelve_28 rfl rfl ?_
  refine go_iload_n (pc := 29) dX10_shelve_29 rfl rfl ?_
  refine go_callV_i (pc := 30) vX10_221 rfl (cX10_shelves_1 x1 x2 k1 c0 hn hw) rfl rfl (gz_b (by omega)) ((hw 32 (by decide) (by decide)).trans (wl_at (i := 32) rfl)) rfl (Nat.le_of_ble_eq_true rfl) ⟨Nat.le_of_ble_eq_true rfl, Nat.le_of_ble_eq_true rfl, (Nat.le_add_right _ _), (Nat.le_add_right _ _)⟩ dX10_shelve_30 ?_
  refine go_callV_i (pc := 33) vX10_155 rfl (cX10_answers_1 hn hw) rfl rfl (gz_b (by omega)) ((hw 32 (by decide) (by decide)).trans (wl_at (i := 32) rfl)) rfl (Nat.le_of_ble_eq_true rfl) ⟨Nat.le_of_ble_eq_true rfl, Nat.le_of_ble_eq_true rfl, (Nat.le_add_right _ _), (Nat.le_add_right _ _)⟩ dX10_shelve_33 ?_
  exact go_iret (pc := 36) rfl dX10_shelve_36
theorem cm_shelve_e_e {l : Launch} {G : gG} (x1 : Int32) (x2 : Int32) (k1 : (if 0 ≤ x2 ∧ x2 ≤ 7 then (1 : Int32) else 0) = 0) : CM l G mX10_shelve [.ref (G.2.1 + 32), .int x1, .int x2, .int ((-1))] ((if (if 0 ≤ x1 ∧ x1 ≤ 3 then (1 : Int32) else 0) = 0 then (-101) else (-12))) := by
  intro n k w hn hw
  by_cases c0 : (if 0 ≤ x1 ∧ x1 ≤ 3 then (1 : Int32) else 0) = 0
  · rw [if_pos c0]
    exact ⟨1, 25, _, by decide, by decide, cm_shelve_e_e_t x1 x2 k1 c0 hn hw⟩
  · rw [if_neg c0]
    exact ⟨2, 48, _, by decide, by decide, cm_shelve_e_e_f x1 x2 k1 c0 hn hw⟩
set_option maxRecDepth 100000 in
set_option maxHeartbeats 4000000 in
theorem cm_shelve_e_n_t {l : Launch} {G : gG} (x1 : Int32) (x2 : Int32) (k1 : ¬ (if 0 ≤ x2 ∧ x2 ≤ 7 then (1 : Int32) else 0) = 0) (c0 : (if 0 ≤ x1 ∧ x1 ≤ 3 then (1 : Int32) else 0) = 0) {n k : Nat} {w : Nat → va_E} (hn : 42 ≤ n) (hw : ∀ i, 32 ≤ i → i < 42 → w (G.2.1 + i) = wl G.2.1 (LF G) (G.2.1 + i)) : Ct l G mX10_shelve 1 25 [.ref (G.2.1 + 32), .int x1, .int x2, .int ((-1))] n k w (some (.int ((-101))), n, k, w) := by
  refine Ct.of (by decide) (Nat.le_of_ble_eq_true rfl) ⟨Nat.le_refl _, Nat.le_refl _⟩ ?_
  show Go l G mX10_shelve _ 0 [(0, .ref (G.2.1 + 32)), (1, .int x1), (2, .int x2), (3, .int ((-1)))] [] n k w
  refine go_iload_n (pc := 0) dX10_shelve_0 rfl rfl ?_
  refine go_i2l (pc := 1) dX10_shelve_1 ?_
  refine go_lconst (pc := 2) (v := 0) dX10_shelve_2 (by decide) ?_
  refine go_ldc2 (pc := 3) rfl qX10_219 dX10_shelve_3 ?_
  refine go_callS_i (pc := 6) sX10_63 rfl (ct_in x1.toInt64 0 3) rfl rfl (Nat.le_of_ble_eq_true rfl) ⟨Nat.le_of_ble_eq_true rfl, Nat.le_of_ble_eq_true rfl, (Nat.le_add_right _ _), (Nat.le_add_right _ _)⟩ dX10_shelve_6 ?_
  refine go_top (y := (if 0 ≤ x1 ∧ x1 ≤ 3 then (1 : Int32) else 0)) (gi_in (by decide) (by decide)) ?_
  refine go_if_eq_t (pc := 9) (tgt := 20) dX10_shelve_9 (by decide) c0 ?_
  refine go_bipush (pc := 20) (v := (-101)) dX10_shelve_20 (by decide) ?_
  refine go_goto (pc := 22) (tgt := 36) dX10_shelve_22 (by decide) ?_
  exact go_iret (pc := 36) rfl dX10_shelve_36
set_option maxRecDepth 100000 in
set_option maxHeartbeats 4000000 in
theorem cX10_shelves_2 {l : Launch} {G : gG} (x1 : Int32) (x2 : Int32) (k1 : ¬ (if 0 ≤ x2 ∧ x2 ≤ 7 then (1 : Int32) else 0) = 0) (c0 : ¬ (if 0 ≤ x1 ∧ x1 ≤ 3 then (1 : Int32) else 0) = 0) {n k : Nat} {w : Nat → va_E} (hn : 42 ≤ n) (hw : ∀ i, 32 ≤ i → i < 42 → w (G.2.1 + i) = wl G.2.1 (LF G) (G.2.1 + i)) : Ct l G mX10_shelves 1 25 [.ref (G.2.1 + 32), .int x1, .int x2, .int ((-1))] n k w (some (.int 1), n, k, (va_up w (G.2.1 + 33) (ai G 26100 (sx 256)))) := by
  refine Ct.of (by decide) (Nat.le_of_ble_eq_true rfl) ⟨Nat.le_refl _, Nat.le_refl _⟩ ?_
  show Go l G mX10_shelves _ 0 [(0, .ref (G.2.1 + 32)), (1, .int x1), (2, .int x2), (3, .int ((-1)))] [] n k w
  refine go_iload_n (pc := 0) dX10_shelves_0 rfl rfl ?_
  refine go_iconst (pc := 1) (v := (-1)) dX10_shelves_1 (by decide) ?_
  refine go_icmp_eq_t (pc := 2) (tgt := 18) dX10_shelves_2 (by decide) (by decide) ?_
  refine go_iload_n (pc := 18) dX10_shelves_18 rfl rfl ?_
  refine go_i2l (pc := 19) dX10_shelves_19 ?_
  refine go_lconst (pc := 20) (v := 0) dX10_shelves_20 (by decide) ?_
  refine go_ldc2 (pc := 21) rfl qX10_213 dX10_shelves_21 ?_
  refine go_callS_i (pc := 24) sX10_63 rfl (ct_in x2.toInt64 0 7) rfl rfl (Nat.le_of_ble_eq_true rfl) ⟨Nat.le_of_ble_eq_true rfl, Nat.le_of_ble_eq_true rfl, (Nat.le_add_right _ _), (Nat.le_add_right _ _)⟩ dX10_shelves_24 ?_
  refine go_top (y := (if 0 ≤ x2 ∧ x2 ≤ 7 then (1 : Int32) else 0)) (gi_in (by decide) (by decide)) ?_
  refine go_if_ne_t (pc := 27) (tgt := 35) dX10_shelves_27 (by decide) k1 ?_
  refine go_iload_n (pc := 35) dX10_shelves_35 rfl rfl ?_
  refine go_iconst (pc := 36) (v := (-1)) dX10_shelves_36 (by decide) ?_
  refine go_icmp_eq_t (pc := 37) (tgt := 58) dX10_shelves_37 (by decide) (by decide) ?_
  refine go_aload_n (pc := 58) dX10_shelves_58 rfl rfl ?_
  refine go_get (pc := 59) fX10_9 rfl (gz_b (by omega)) ((hw 32 (by decide) (by decide)).trans (wl_at (i := 32) rfl)) rfl dX10_shelves_59 ?_
  refine go_bipush (pc := 62) (v := 44) dX10_shelves_62 (by decide) ?_
  refine go_bipush (pc := 64) (v := 8) dX10_shelves_64 (by decide) ?_
  refine go_iload_n (pc := 66) dX10_shelves_66 rfl rfl ?_
  refine go_imul (pc := 67) dX10_shelves_67 ?_
  refine go_iadd (pc := 68) dX10_shelves_68 ?_
  refine go_iload_n (pc := 69) dX10_shelves_69 rfl rfl ?_
  refine go_iadd (pc := 70) dX10_shelves_70 ?_
  refine go_iload_n (pc := 71) dX10_shelves_71 rfl rfl ?_
  refine go_iast (pc := 72) (gz_b (by omega)) ((hw 33 (by decide) (by decide)).trans (wl_at (i := 33) rfl)) (gv_t_in (gi_of c0) (gi_of k1)) dX10_shelves_72 ?_
  refine go_arr (g := sx 256) (fun j _ => sx_upd (sx_t (gi_of c0) (gi_of k1)) j) ?_
  refine go_iconst (pc := 73) (v := 1) dX10_shelves_73 (by decide) ?_
  exact go_iret (pc := 74) rfl dX10_shelves_74
set_option maxRecDepth 100000 in
set_option maxHeartbeats 4000000 in
theorem cX10_answers_2 {l : Launch} {G : gG} {n k : Nat} {w : Nat → va_E} (hn : 42 ≤ n) (hw : ∀ i, 32 ≤ i → i < 42 → w (G.2.1 + i) = wl G.2.1 (LF G) (G.2.1 + i)) : Ct l G mX10_answers 1 25 [.ref (G.2.1 + 32), .int 1] n k (va_up w (G.2.1 + 33) (ai G 26100 (sx 256))) (some (.int 1), n, k, (va_up (va_up w (G.2.1 + 33) (ai G 26100 (sx 256))) (G.2.1 + 32) (ob 10 [.ref (G.2.1 + 33), .ref (G.2.1 + 34), .ref (G.2.1 + 35), .int 0, .int 0, .int 0, .int 0, .int 0, .ref (G.2.1 + 36), .ref (G.2.1 + 37), .ref (G.2.1 + 38), .ref (G.2.1 + 39), .int 0, .ref (G.2.1 + 40), .int 0, .ref (G.2.1 + 41)]))) := by
  refine Ct.of (by decide) (Nat.le_of_ble_eq_true rfl) ⟨Nat.le_refl _, Nat.le_refl _⟩ ?_
  show Go l G mX10_answers _ 0 [(0, .ref (G.2.1 + 32)), (1, .int 1)] [] n k (va_up w (G.2.1 + 33) (ai G 26100 (sx 256)))
  refine go_aload_n (pc := 0) dX10_answers_0 rfl rfl ?_
  refine go_iload_n (pc := 1) dX10_answers_1 rfl rfl ?_
  refine go_i2l (pc := 2) dX10_answers_2 ?_
  refine go_topl (y := 1) (by decide) ?_
  refine go_ldc2 (pc := 3) rfl qX10_78 dX10_answers_3 ?_
  refine go_ldc2 (pc := 6) rfl qX10_80 dX10_answers_6 ?_
  refine go_callS_i (pc := 9) sX10_63 rfl (ct_in 1 ((-18)) ((-11))) rfl rfl (Nat.le_of_ble_eq_true rfl) ⟨Nat.le_of_ble_eq_true rfl, Nat.le_of_ble_eq_true rfl, (Nat.le_add_right _ _), (Nat.le_add_right _ _)⟩ dX10_answers_9 ?_
  refine go_top (y := 0) (by decide) ?_
  refine go_if_eq_t (pc := 12) (tgt := 22) dX10_answers_12 (by decide) (by decide) ?_
  refine go_iconst (pc := 22) (v := 0) dX10_answers_22 (by decide) ?_
  refine go_put (pc := 23) fX10_49 rfl (gz_b (by omega)) ((va_up_ne _ _ (gz_ne (by decide))).trans ((hw 32 (by decide) (by decide)).trans (wl_at (i := 32) rfl))) (Nat.le_of_ble_eq_true rfl) rfl rfl dX10_answers_23 ?_
  refine go_iload_n (pc := 26) dX10_answers_26 rfl rfl ?_
  exact go_iret (pc := 27) rfl dX10_answers_27
set_option maxRecDepth 100000 in
set_option maxHeartbeats 4000000 in
theorem cm_shelve_e_n_f {l : Launch} {G : gG} (x1 : Int32) (x2 : Int32) (k1 : ¬ (if 0 ≤ x2 ∧ x2 ≤ 7 then (1 : Int32) else 0) = 0) (c0 : ¬ (if 0 ≤ x1 ∧ x1 ≤ 3 then (1 : Int32) else 0) = 0) {n k : Nat} {w : Nat → va_E} (hn : 42 ≤ n) (hw : ∀ i, 32 ≤ i → i < 42 → w (G.2.1 + i) = wl G.2.1 (LF G) (G.2.1 + i)) : Ct l G mX10_shelve 2 48 [.ref (G.2.1 + 32), .int x1, .int x2, .int ((-1))] n k w (some (.int 1), n, k, (va_up (va_up w (G.2.1 + 33) (ai G 26100 (sx 256))) (G.2.1 + 32) (ob 10 [.ref (G.2.1 + 33), .ref (G.2.1 + 34), .ref (G.2.1 + 35), .int 0, .int 0, .int 0, .int 0, .int 0, .ref (G.2.1 + 36), .ref (G.2.1 + 37), .ref (G.2.1 + 38), .ref (G.2.1 + 39), .int 0, .ref (G.2.1 + 40), .int 0, .ref (G.2.1 + 41)]))) := by
  refine Ct.of (by decide) (Nat.le_of_ble_eq_true rfl) ⟨Nat.le_refl _, Nat.le_refl _⟩ ?_
  show Go l G mX10_shelve _ 0 [(0, .ref (G.2.1 + 32)), (1, .int x1), (2, .int x2), (3, .int ((-1)))] [] n k w
  refine go_iload_n (pc := 0) dX10_shelve_0 rfl rfl ?_
  refine go_i2l (pc := 1) dX10_shelve_1 ?_
  refine go_lconst (pc := 2) (v := 0) dX10_shelve_2 (by decide) ?_
  refine go_ldc2 (pc := 3) rfl qX10_219 dX10_shelve_3 ?_
  refine go_callS_i (pc := 6) sX10_63 rfl (ct_in x1.toInt64 0 3) rfl rfl (Nat.le_of_ble_eq_true rfl) ⟨Nat.le_of_ble_eq_true rfl, Nat.le_of_ble_eq_true rfl, (Nat.le_add_right _ _), (Nat.le_add_right _ _)⟩ dX10_shelve_6 ?_
  refine go_top (y := (if 0 ≤ x1 ∧ x1 ≤ 3 then (1 : Int32) else 0)) (gi_in (by decide) (by decide)) ?_
  refine go_if_eq_f (pc := 9) (tgt := 20) dX10_shelve_9 (by decide) c0 ?_
  refine go_aload_n (pc := 12) dX10_shelve_12 rfl rfl ?_
  refine go_iload_n (pc := 13) dX10_shelve_13 rfl rfl ?_
  refine go_callV_i (pc := 14) vX10_164 rfl (cX10_mayBe_1 hn hw) rfl rfl (gz_b (by omega)) ((hw 32 (by decide) (by decide)).trans (wl_at (i := 32) rfl)) rfl (Nat.le_of_ble_eq_true rfl) ⟨Nat.le_of_ble_eq_true rfl, Nat.le_of_ble_eq_true rfl, (Nat.le_add_right _ _), (Nat.le_add_right _ _)⟩ dX10_shelve_14 ?_
  refine go_if_ne_t (pc := 17) (tgt := 25) dX10_shelve_17 (by decide) (by decide) ?_
  refine go_aload_n (pc := 25) dX10_shelve_25 rfl rfl ?_
  refine go_aload_n (pc := 26) dX10_shelve_26 rfl rfl ?_
  refine go_iload_n (pc := 27) dX10_shelve_27 rfl rfl ?_
  refine go_iload_n (pc := 28) dX10_shelve_28 rfl rfl ?_
  refine go_iload_n (pc := 29) dX10_shelve_29 rfl rfl ?_
  refine go_callV_i (pc := 30) vX10_221 rfl (cX10_shelves_2 x1 x2 k1 c0 hn hw) rfl rfl (gz_b (by omega)) ((hw 32 (by decide) (by decide)).trans (wl_at (i := 32) rfl)) rfl (Nat.le_of_ble_eq_true rfl) ⟨Nat.le_of_ble_eq_true rfl, Nat.le_of_ble_eq_true rfl, (Nat.le_add_right _ _), (Nat.le_add_right _ _)⟩ dX10_shelve_30 ?_
  refine go_callV_i (pc := 33) vX10_155 rfl (cX10_answers_2 hn hw) rfl rfl (gz_b (by omega)) ((va_up_ne _ _ (gz_ne (by decide))).trans ((hw 32 (by decide) (by decide)).trans (wl_at (i := 32) rfl))) rfl (Nat.le_of_ble_eq_true rfl) ⟨Nat.le_of_ble_eq_true rfl, Nat.le_of_ble_eq_true rfl, (Nat.le_add_right _ _), (Nat.le_add_right _ _)⟩ dX10_shelve_33 ?_
  exact go_iret (pc := 36) rfl dX10_shelve_36
theorem cm_shelve_e_n {l : Launch} {G : gG} (x1 : Int32) (x2 : Int32) (k1 : ¬ (if 0 ≤ x2 ∧ x2 ≤ 7 then (1 : Int32) else 0) = 0) : CM l G mX10_shelve [.ref (G.2.1 + 32), .int x1, .int x2, .int ((-1))] ((if (if 0 ≤ x1 ∧ x1 ≤ 3 then (1 : Int32) else 0) = 0 then (-101) else 1)) := by
  intro n k w hn hw
  by_cases c0 : (if 0 ≤ x1 ∧ x1 ≤ 3 then (1 : Int32) else 0) = 0
  · rw [if_pos c0]
    exact ⟨1, 25, _, by decide, by decide, cm_shelve_e_n_t x1 x2 k1 c0 hn hw⟩
  · rw [if_neg c0]
    exact ⟨2, 48, _, by decide, by decide, cm_shelve_e_n_f x1 x2 k1 c0 hn hw⟩
theorem cm_shelve_e {l : Launch} {G : gG} (x1 : Int32) (x2 : Int32) : CM l G mX10_shelve [.ref (G.2.1 + 32), .int x1, .int x2, .int ((-1))] ((if (if 0 ≤ x2 ∧ x2 ≤ 7 then (1 : Int32) else 0) = 0 then (if (if 0 ≤ x1 ∧ x1 ≤ 3 then (1 : Int32) else 0) = 0 then (-101) else (-12)) else (if (if 0 ≤ x1 ∧ x1 ≤ 3 then (1 : Int32) else 0) = 0 then (-101) else 1))) := by
  by_cases k1 : (if 0 ≤ x2 ∧ x2 ≤ 7 then (1 : Int32) else 0) = 0
  · rw [if_pos k1]
    exact cm_shelve_e_e x1 x2 k1
  · rw [if_neg k1]
    exact cm_shelve_e_n x1 x2 k1
set_option maxRecDepth 100000 in
set_option maxHeartbeats 4000000 in
theorem cm_shelve_n_e_t {l : Launch} {G : gG} (x1 : Int32) (x2 : Int32) (x3 : Int32) (k0 : ¬ x3 = (-1)) (k1 : (if 0 ≤ x2 ∧ x2 ≤ 7 then (1 : Int32) else 0) = 0) (c0 : (if 0 ≤ x1 ∧ x1 ≤ 3 then (1 : Int32) else 0) = 0) {n k : Nat} {w : Nat → va_E} (hn : 42 ≤ n) (hw : ∀ i, 32 ≤ i → i < 42 → w (G.2.1 + i) = wl G.2.1 (LF G) (G.2.1 + i)) : Ct l G mX10_shelve 1 25 [.ref (G.2.1 + 32), .int x1, .int x2, .int x3] n k w (some (.int ((-101))), n, k, w) := by
  refine Ct.of (by decide) (Nat.le_of_ble_eq_true rfl) ⟨Nat.le_refl _, Nat.le_refl _⟩ ?_
  show Go l G mX10_shelve _ 0 [(0, .ref (G.2.1 + 32)), (1, .int x1), (2, .int x2), (3, .int x3)] [] n k w
  refine go_iload_n (pc := 0) dX10_shelve_0 rfl rfl ?_
  refine go_i2l (pc := 1) dX10_shelve_1 ?_
  refine go_lconst (pc := 2) (v := 0) dX10_shelve_2 (by decide) ?_
  refine go_ldc2 (pc := 3) rfl qX10_219 dX10_shelve_3 ?_
  refine go_callS_i (pc := 6) sX10_63 rfl (ct_in x1.toInt64 0 3) rfl rfl (Nat.le_of_ble_eq_true rfl) ⟨Nat.le_of_ble_eq_true rfl, Nat.le_of_ble_eq_true rfl, (Nat.le_add_right _ _), (Nat.le_add_right _ _)⟩ dX10_shelve_6 ?_
  refine go_top (y := (if 0 ≤ x1 ∧ x1 ≤ 3 then (1 : Int32) else 0)) (gi_in (by decide) (by decide)) ?_
  refine go_if_eq_t (pc := 9) (tgt := 20) dX10_shelve_9 (by decide) c0 ?_
  refine go_bipush (pc := 20) (v := (-101)) dX10_shelve_20 (by decide) ?_
  refine go_goto (pc := 22) (tgt := 36) dX10_shelve_22 (by decide) ?_
  exact go_iret (pc := 36) rfl dX10_shelve_36
set_option maxRecDepth 100000 in
set_option maxHeartbeats 4000000 in
theorem cX10_isMade_3 {l : Launch} {G : gG} (x3 : Int32) {n k : Nat} {w : Nat → va_E} (hn : 42 ≤ n) (hw : ∀ i, 32 ≤ i → i < 42 → w (G.2.1 + i) = wl G.2.1 (LF G) (G.2.1 + i)) : Ct l G mX10_isMade 1 25 [.ref (G.2.1 + 32), .int x3] n k w (some (.int 0), n, k, w) := by
  refine Ct.of (by decide) (Nat.le_of_ble_eq_true rfl) ⟨Nat.le_refl _, Nat.le_refl _⟩ ?_
  show Go l G mX10_isMade _ 0 [(0, .ref (G.2.1 + 32)), (1, .int x3)] [] n k w
  refine go_iload_n (pc := 0) dX10_isMade_0 rfl rfl ?_
  refine go_i2l (pc := 1) dX10_isMade_1 ?_
  refine go_lconst (pc := 2) (v := 0) dX10_isMade_2 (by decide) ?_
  refine go_aload_n (pc := 3) dX10_isMade_3 rfl rfl ?_
  refine go_get (pc := 4) fX10_9 rfl (gz_b (by omega)) ((hw 32 (by decide) (by decide)).trans (wl_at (i := 32) rfl)) rfl dX10_isMade_4 ?_
  refine go_iconst (pc := 7) (v := 1) dX10_isMade_7 (by decide) ?_
  refine go_iald (pc := 8) (gz_b (by omega)) ((hw 33 (by decide) (by decide)).trans (wl_at (i := 33) rfl)) (gv_in (by decide)) dX10_isMade_8 ?_
  refine go_top (y := 0) rfl ?_
  refine go_iconst (pc := 9) (v := 1) dX10_isMade_9 (by decide) ?_
  refine go_isub (pc := 10) dX10_isMade_10 ?_
  refine go_top (y := (-1)) (by decide) ?_
  refine go_i2l (pc := 11) dX10_isMade_11 ?_
  refine go_topl (y := (-1)) (by decide) ?_
  refine go_callS_i (pc := 12) sX10_63 rfl (ct_in x3.toInt64 0 ((-1))) rfl rfl (Nat.le_of_ble_eq_true rfl) ⟨Nat.le_of_ble_eq_true rfl, Nat.le_of_ble_eq_true rfl, (Nat.le_add_right _ _), (Nat.le_add_right _ _)⟩ dX10_isMade_12 ?_
  refine go_top (y := 0) (gi_no (by decide)) ?_
  exact go_zret (pc := 15) rfl rfl dX10_isMade_15
set_option maxRecDepth 100000 in
set_option maxHeartbeats 4000000 in
theorem cX10_mayBe_3 {l : Launch} {G : gG} (x3 : Int32) (k0 : ¬ x3 = (-1)) {n k : Nat} {w : Nat → va_E} (hn : 42 ≤ n) (hw : ∀ i, 32 ≤ i → i < 42 → w (G.2.1 + i) = wl G.2.1 (LF G) (G.2.1 + i)) : Ct l G mX10_mayBe 2 46 [.ref (G.2.1 + 32), .int x3] n k w (some (.int 0), n, k, w) := by
  refine Ct.of (by decide) (Nat.le_of_ble_eq_true rfl) ⟨Nat.le_refl _, Nat.le_refl _⟩ ?_
  show Go l G mX10_mayBe _ 0 [(0, .ref (G.2.1 + 32)), (1, .int x3)] [] n k w
  refine go_iload_n (pc := 0) dX10_mayBe_0 rfl rfl ?_
  refine go_iconst (pc := 1) (v := (-1)) dX10_mayBe_1 (by decide) ?_
  refine go_icmp_eq_f (pc := 2) (tgt := 13) dX10_mayBe_2 (by decide) k0 ?_
  refine go_aload_n (pc := 5) dX10_mayBe_5 rfl rfl ?_
  refine go_iload_n (pc := 6) dX10_mayBe_6 rfl rfl ?_
  refine go_callV_i (pc := 7) vX10_67 rfl (cX10_isMade_3 x3 hn hw) rfl rfl (gz_b (by omega)) ((hw 32 (by decide) (by decide)).trans (wl_at (i := 32) rfl)) rfl (Nat.le_of_ble_eq_true rfl) ⟨Nat.le_of_ble_eq_true rfl, Nat.le_of_ble_eq_true rfl, (Nat.le_add_right _ _), (Nat.le_add_right _ _)⟩ dX10_mayBe_7 ?_
  refine go_if_eq_t (pc := 10) (tgt := 17) dX10_mayBe_10 (by decide) (by decide) ?_
  refine go_iconst (pc := 17) (v := 0) dX10_mayBe_17 (by decide) ?_
  exact go_zret (pc := 18) rfl rfl dX10_mayBe_18
set_option maxRecDepth 100000 in
set_option maxHeartbeats 4000000 in
theorem cm_shelve_n_e_f {l : Launch} {G : gG} (x1 : Int32) (x2 : Int32) (x3 : Int32) (k0 : ¬ x3 = (-1)) (k1 : (if 0 ≤ x2 ∧ x2 ≤ 7 then (1 : Int32) else 0) = 0) (c0 : ¬ (if 0 ≤ x1 ∧ x1 ≤ 3 then (1 : Int32) else 0) = 0) {n k : Nat} {w : Nat → va_E} (hn : 42 ≤ n) (hw : ∀ i, 32 ≤ i → i < 42 → w (G.2.1 + i) = wl G.2.1 (LF G) (G.2.1 + i)) : Ct l G mX10_shelve 3 67 [.ref (G.2.1 + 32), .int x1, .int x2, .int x3] n k w (some (.int ((-101))), n, k, w) := by
  refine Ct.of (by decide) (Nat.le_of_ble_eq_true rfl) ⟨Nat.le_refl _, Nat.le_refl _⟩ ?_
  show Go l G mX10_shelve _ 0 [(0, .ref (G.2.1 + 32)), (1, .int x1), (2, .int x2), (3, .int x3)] [] n k w
  refine go_iload_n (pc := 0) dX10_shelve_0 rfl rfl ?_
  refine go_i2l (pc := 1) dX10_shelve_1 ?_
  refine go_lconst (pc := 2) (v := 0) dX10_shelve_2 (by decide) ?_
  refine go_ldc2 (pc := 3) rfl qX10_219 dX10_shelve_3 ?_
  refine go_callS_i (pc := 6) sX10_63 rfl (ct_in x1.toInt64 0 3) rfl rfl (Nat.le_of_ble_eq_true rfl) ⟨Nat.le_of_ble_eq_true rfl, Nat.le_of_ble_eq_true rfl, (Nat.le_add_right _ _), (Nat.le_add_right _ _)⟩ dX10_shelve_6 ?_
  refine go_top (y := (if 0 ≤ x1 ∧ x1 ≤ 3 then (1 : Int32) else 0)) (gi_in (by decide) (by decide)) ?_
  refine go_if_eq_f (pc := 9) (tgt := 20) dX10_shelve_9 (by decide) c0 ?_
  refine go_aload_n (pc := 12) dX10_shelve_12 rfl rfl ?_
  refine go_iload_n (pc := 13) dX10_shelve_13 rfl rfl ?_
  refine go_callV_i (pc := 14) vX10_164 rfl (cX10_mayBe_3 x3 k0 hn hw) rfl rfl (gz_b (by omega)) ((hw 32 (by decide) (by decide)).trans (wl_at (i := 32) rfl)) rfl (Nat.le_of_ble_eq_true rfl) ⟨Nat.le_of_ble_eq_true rfl, Nat.le_of_ble_eq_true rfl, (Nat.le_add_right _ _), (Nat.le_add_right _ _)⟩ dX10_shelve_14 ?_
  refine go_if_ne_f (pc := 17) (tgt := 25) dX10_shelve_17 (by decide) (by decide) ?_
  refine go_bipush (pc := 20) (v := (-101)) dX10_shelve_20 (by decide) ?_
  refine go_goto (pc := 22) (tgt := 36) dX10_shelve_22 (by decide) ?_
  exact go_iret (pc := 36) rfl dX10_shelve_36
theorem cm_shelve_n_e {l : Launch} {G : gG} (x1 : Int32) (x2 : Int32) (x3 : Int32) (k0 : ¬ x3 = (-1)) (k1 : (if 0 ≤ x2 ∧ x2 ≤ 7 then (1 : Int32) else 0) = 0) : CM l G mX10_shelve [.ref (G.2.1 + 32), .int x1, .int x2, .int x3] ((-101)) := by
  intro n k w hn hw
  by_cases c0 : (if 0 ≤ x1 ∧ x1 ≤ 3 then (1 : Int32) else 0) = 0
  · exact ⟨1, 25, _, by decide, by decide, cm_shelve_n_e_t x1 x2 x3 k0 k1 c0 hn hw⟩
  · exact ⟨3, 67, _, by decide, by decide, cm_shelve_n_e_f x1 x2 x3 k0 k1 c0 hn hw⟩
set_option maxRecDepth 100000 in
set_option maxHeartbeats 4000000 in
theorem cm_shelve_n_n_t {l : Launch} {G : gG} (x1 : Int32) (x2 : Int32) (x3 : Int32) (k0 : ¬ x3 = (-1)) (k1 : ¬ (if 0 ≤ x2 ∧ x2 ≤ 7 then (1 : Int32) else 0) = 0) (c0 : (if 0 ≤ x1 ∧ x1 ≤ 3 then (1 : Int32) else 0) = 0) {n k : Nat} {w : Nat → va_E} (hn : 42 ≤ n) (hw : ∀ i, 32 ≤ i → i < 42 → w (G.2.1 + i) = wl G.2.1 (LF G) (G.2.1 + i)) : Ct l G mX10_shelve 1 25 [.ref (G.2.1 + 32), .int x1, .int x2, .int x3] n k w (some (.int ((-101))), n, k, w) := by
  refine Ct.of (by decide) (Nat.le_of_ble_eq_true rfl) ⟨Nat.le_refl _, Nat.le_refl _⟩ ?_
  show Go l G mX10_shelve _ 0 [(0, .ref (G.2.1 + 32)), (1, .int x1), (2, .int x2), (3, .int x3)] [] n k w
  refine go_iload_n (pc := 0) dX10_shelve_0 rfl rfl ?_
  refine go_i2l (pc := 1) dX10_shelve_1 ?_
  refine go_lconst (pc := 2) (v := 0) dX10_shelve_2 (by decide) ?_
  refine go_ldc2 (pc := 3) rfl qX10_219 dX10_shelve_3 ?_
  refine go_callS_i (pc := 6) sX10_63 rfl (ct_in x1.toInt64 0 3) rfl rfl (Nat.le_of_ble_eq_true rfl) ⟨Nat.le_of_ble_eq_true rfl, Nat.le_of_ble_eq_true rfl, (Nat.le_add_right _ _), (Nat.le_add_right _ _)⟩ dX10_shelve_6 ?_
  refine go_top (y := (if 0 ≤ x1 ∧ x1 ≤ 3 then (1 : Int32) else 0)) (gi_in (by decide) (by decide)) ?_
  refine go_if_eq_t (pc := 9) (tgt := 20) dX10_shelve_9 (by decide) c0 ?_
  refine go_bipush (pc := 20) (v := (-101)) dX10_shelve_20 (by decide) ?_
  refine go_goto (pc := 22) (tgt := 36) dX10_shelve_22 (by decide) ?_
  exact go_iret (pc := 36) rfl dX10_shelve_36
set_option maxRecDepth 100000 in
set_option maxHeartbeats 4000000 in
theorem cm_shelve_n_n_f {l : Launch} {G : gG} (x1 : Int32) (x2 : Int32) (x3 : Int32) (k0 : ¬ x3 = (-1)) (k1 : ¬ (if 0 ≤ x2 ∧ x2 ≤ 7 then (1 : Int32) else 0) = 0) (c0 : ¬ (if 0 ≤ x1 ∧ x1 ≤ 3 then (1 : Int32) else 0) = 0) {n k : Nat} {w : Nat → va_E} (hn : 42 ≤ n) (hw : ∀ i, 32 ≤ i → i < 42 → w (G.2.1 + i) = wl G.2.1 (LF G) (G.2.1 + i)) : Ct l G mX10_shelve 3 67 [.ref (G.2.1 + 32), .int x1, .int x2, .int x3] n k w (some (.int ((-101))), n, k, w) := by
  refine Ct.of (by decide) (Nat.le_of_ble_eq_true rfl) ⟨Nat.le_refl _, Nat.le_refl _⟩ ?_
  show Go l G mX10_shelve _ 0 [(0, .ref (G.2.1 + 32)), (1, .int x1), (2, .int x2), (3, .int x3)] [] n k w
  refine go_iload_n (pc := 0) dX10_shelve_0 rfl rfl ?_
  refine go_i2l (pc := 1) dX10_shelve_1 ?_
  refine go_lconst (pc := 2) (v := 0) dX10_shelve_2 (by decide) ?_
  refine go_ldc2 (pc := 3) rfl qX10_219 dX10_shelve_3 ?_
  refine go_callS_i (pc := 6) sX10_63 rfl (ct_in x1.toInt64 0 3) rfl rfl (Nat.le_of_ble_eq_true rfl) ⟨Nat.le_of_ble_eq_true rfl, Nat.le_of_ble_eq_true rfl, (Nat.le_add_right _ _), (Nat.le_add_right _ _)⟩ dX10_shelve_6 ?_
  refine go_top (y := (if 0 ≤ x1 ∧ x1 ≤ 3 then (1 : Int32) else 0)) (gi_in (by decide) (by decide)) ?_
  refine go_if_eq_f (pc := 9) (tgt := 20) dX10_shelve_9 (by decide) c0 ?_
  refine go_aload_n (pc := 12) dX10_shelve_12 rfl rfl ?_
  refine go_iload_n (pc := 13) dX10_shelve_13 rfl rfl ?_
  refine go_callV_i (pc := 14) vX10_164 rfl (cX10_mayBe_3 x3 k0 hn hw) rfl rfl (gz_b (by omega)) ((hw 32 (by decide) (by decide)).trans (wl_at (i := 32) rfl)) rfl (Nat.le_of_ble_eq_true rfl) ⟨Nat.le_of_ble_eq_true rfl, Nat.le_of_ble_eq_true rfl, (Nat.le_add_right _ _), (Nat.le_add_right _ _)⟩ dX10_shelve_14 ?_
  refine go_if_ne_f (pc := 17) (tgt := 25) dX10_shelve_17 (by decide) (by decide) ?_
  refine go_bipush (pc := 20) (v := (-101)) dX10_shelve_20 (by decide) ?_
  refine go_goto (pc := 22) (tgt := 36) dX10_shelve_22 (by decide) ?_
  exact go_iret (pc := 36) rfl dX10_shelve_36
theorem cm_shelve_n_n {l : Launch} {G : gG} (x1 : Int32) (x2 : Int32) (x3 : Int32) (k0 : ¬ x3 = (-1)) (k1 : ¬ (if 0 ≤ x2 ∧ x2 ≤ 7 then (1 : Int32) else 0) = 0) : CM l G mX10_shelve [.ref (G.2.1 + 32), .int x1, .int x2, .int x3] ((-101)) := by
  intro n k w hn hw
  by_cases c0 : (if 0 ≤ x1 ∧ x1 ≤ 3 then (1 : Int32) else 0) = 0
  · exact ⟨1, 25, _, by decide, by decide, cm_shelve_n_n_t x1 x2 x3 k0 k1 c0 hn hw⟩
  · exact ⟨3, 67, _, by decide, by decide, cm_shelve_n_n_f x1 x2 x3 k0 k1 c0 hn hw⟩
theorem cm_shelve_n {l : Launch} {G : gG} (x1 : Int32) (x2 : Int32) (x3 : Int32) (k0 : ¬ x3 = (-1)) : CM l G mX10_shelve [.ref (G.2.1 + 32), .int x1, .int x2, .int x3] ((-101)) := by
  by_cases k1 : (if 0 ≤ x2 ∧ x2 ≤ 7 then (1 : Int32) else 0) = 0
  · exact cm_shelve_n_e x1 x2 x3 k0 k1
  · exact cm_shelve_n_n x1 x2 x3 k0 k1
theorem cm_shelve {l : Launch} {G : gG} (x1 : Int32) (x2 : Int32) (x3 : Int32) : CM l G mX10_shelve [.ref (G.2.1 + 32), .int x1, .int x2, .int x3] ((if x3 = (-1) then (if (if 0 ≤ x2 ∧ x2 ≤ 7 then (1 : Int32) else 0) = 0 then (if (if 0 ≤ x1 ∧ x1 ≤ 3 then (1 : Int32) else 0) = 0 then (-101) else (-12)) else (if (if 0 ≤ x1 ∧ x1 ≤ 3 then (1 : Int32) else 0) = 0 then (-101) else 1)) else (-101))) := by
  by_cases k0 : x3 = (-1)
  · subst k0
    rw [if_pos rfl]
    exact cm_shelve_e x1 x2
  · rw [if_neg k0]
    exact cm_shelve_n x1 x2 x3 k0
set_option maxRecDepth 100000 in
set_option maxHeartbeats 4000000 in
theorem cm_digest_o {l : Launch} {G : gG} {n k : Nat} {w : Nat → va_E} (hn : 42 ≤ n) (hw : ∀ i, 32 ≤ i → i < 42 → w (G.2.1 + i) = wl G.2.1 (LF G) (G.2.1 + i)) : Ct l G mX10_digest 0 0 [.ref (G.2.1 + 32)] n k w (some (.int 359270233), n, k, w) := by
  refine Ct.of (by decide) (Nat.le_of_ble_eq_true rfl) ⟨Nat.le_refl _, Nat.le_refl _⟩ ?_
  show Go l G mX10_digest _ 0 [(0, .ref (G.2.1 + 32))] [] n k w
  refine go_bipush (pc := 0) (v := 7) dX10_digest_0 (by decide) ?_
  refine go_istore_n (pc := 2) (lv' := [(1, .int 7), (0, .ref (G.2.1 + 32))]) dX10_digest_2 rfl (by decide) rfl ?_
  refine go_iconst (pc := 3) (v := 0) dX10_digest_3 (by decide) ?_
  refine go_istore_n (pc := 4) (lv' := [(2, .int 0), (1, .int 7), (0, .ref (G.2.1 + 32))]) dX10_digest_4 rfl (by decide) rfl ?_
  refine go_iload_n (pc := 5) dX10_digest_5 rfl rfl ?_
  refine go_aload_n (pc := 6) dX10_digest_6 rfl rfl ?_
  refine go_get (pc := 7) fX10_9 rfl (gz_b (by omega)) ((hw 32 (by decide) (by decide)).trans (wl_at (i := 32) rfl)) rfl dX10_digest_7 ?_
  refine go_bipush (pc := 10) (v := 16) dX10_digest_10 (by decide) ?_
  refine go_iald (pc := 12) (gz_b (by omega)) ((hw 33 (by decide) (by decide)).trans (wl_at (i := 33) rfl)) (gv_in (by decide)) dX10_digest_12 ?_
  refine go_top (y := 0) rfl ?_
  refine go_icmp_ge_t (pc := 13) (tgt := 38) dX10_digest_13 (by decide) (by decide) ?_
  refine go_iconst (pc := 38) (v := 0) dX10_digest_38 (by decide) ?_
  refine go_istore_n (pc := 39) (lv' := [(2, .int 0), (1, .int 7), (0, .ref (G.2.1 + 32))]) dX10_digest_39 rfl (by decide) rfl ?_
  refine go_iload_n (pc := 40) dX10_digest_40 rfl rfl ?_
  refine go_bipush (pc := 41) (v := 24) dX10_digest_41 (by decide) ?_
  refine go_icmp_ge_f (pc := 43) (tgt := 67) dX10_digest_43 (by decide) (by decide) ?_
  refine go_bipush (pc := 46) (v := 31) dX10_digest_46 (by decide) ?_
  refine go_iload_n (pc := 48) dX10_digest_48 rfl rfl ?_
  refine go_imul (pc := 49) dX10_digest_49 ?_
  refine go_top (y := 217) (by decide) ?_
  refine go_aload_n (pc := 50) dX10_digest_50 rfl rfl ?_
  refine go_get (pc := 51) fX10_9 rfl (gz_b (by omega)) ((hw 32 (by decide) (by decide)).trans (wl_at (i := 32) rfl)) rfl dX10_digest_51 ?_
  refine go_bipush (pc := 54) (v := 20) dX10_digest_54 (by decide) ?_
  refine go_iload_n (pc := 56) dX10_digest_56 rfl rfl ?_
  refine go_iadd (pc := 57) dX10_digest_57 ?_
  refine go_top (y := 20) (by decide) ?_
  refine go_iald (pc := 58) (gz_b (by omega)) ((hw 33 (by decide) (by decide)).trans (wl_at (i := 33) rfl)) (gv_in (by decide)) dX10_digest_58 ?_
  refine go_top (y := (-1)) rfl ?_
  refine go_iadd (pc := 59) dX10_digest_59 ?_
  refine go_top (y := 216) (by decide) ?_
  refine go_istore_n (pc := 60) (lv' := [(1, .int 216), (2, .int 0), (0, .ref (G.2.1 + 32))]) dX10_digest_60 rfl (by decide) rfl ?_
  refine go_iinc (pc := 61) (v := 1) (lv' := [(2, .int 1), (1, .int 216), (0, .ref (G.2.1 + 32))]) dX10_digest_61 1 rfl (by first | rfl | decide) (by decide) rfl ?_
  refine go_goto (pc := 64) (tgt := 40) dX10_digest_64 (by decide) ?_
  refine go_iload_n (pc := 40) dX10_digest_40 rfl rfl ?_
  refine go_bipush (pc := 41) (v := 24) dX10_digest_41 (by decide) ?_
  refine go_icmp_ge_f (pc := 43) (tgt := 67) dX10_digest_43 (by decide) (by decide) ?_
  refine go_bipush (pc := 46) (v := 31) dX10_digest_46 (by decide) ?_
  refine go_iload_n (pc := 48) dX10_digest_48 rfl rfl ?_
  refine go_imul (pc := 49) dX10_digest_49 ?_
  refine go_top (y := 6696) (by decide) ?_
  refine go_aload_n (pc := 50) dX10_digest_50 rfl rfl ?_
  refine go_get (pc := 51) fX10_9 rfl (gz_b (by omega)) ((hw 32 (by decide) (by decide)).trans (wl_at (i := 32) rfl)) rfl dX10_digest_51 ?_
  refine go_bipush (pc := 54) (v := 20) dX10_digest_54 (by decide) ?_
  refine go_iload_n (pc := 56) dX10_digest_56 rfl rfl ?_
  refine go_iadd (pc := 57) dX10_digest_57 ?_
  refine go_top (y := 21) (by decide) ?_
  refine go_iald (pc := 58) (gz_b (by omega)) ((hw 33 (by decide) (by decide)).trans (wl_at (i := 33) rfl)) (gv_in (by decide)) dX10_digest_58 ?_
  refine go_top (y := (-1)) rfl ?_
  refine go_iadd (pc := 59) dX10_digest_59 ?_
  refine go_top (y := 6695) (by decide) ?_
  refine go_istore_n (pc := 60) (lv' := [(1, .int 6695), (2, .int 1), (0, .ref (G.2.1 + 32))]) dX10_digest_60 rfl (by decide) rfl ?_
  refine go_iinc (pc := 61) (v := 2) (lv' := [(2, .int 2), (1, .int 6695), (0, .ref (G.2.1 + 32))]) dX10_digest_61 1 rfl (by first | rfl | decide) (by decide) rfl ?_
  refine go_goto (pc := 64) (tgt := 40) dX10_digest_64 (by decide) ?_
  refine go_iload_n (pc := 40) dX10_digest_40 rfl rfl ?_
  refine go_bipush (pc := 41) (v := 24) dX10_digest_41 (by decide) ?_
  refine go_icmp_ge_f (pc := 43) (tgt := 67) dX10_digest_43 (by decide) (by decide) ?_
  refine go_bipush (pc := 46) (v := 31) dX10_digest_46 (by decide) ?_
  refine go_iload_n (pc := 48) dX10_digest_48 rfl rfl ?_
  refine go_imul (pc := 49) dX10_digest_49 ?_
  refine go_top (y := 207545) (by decide) ?_
  refine go_aload_n (pc := 50) dX10_digest_50 rfl rfl ?_
  refine go_get (pc := 51) fX10_9 rfl (gz_b (by omega)) ((hw 32 (by decide) (by decide)).trans (wl_at (i := 32) rfl)) rfl dX10_digest_51 ?_
  refine go_bipush (pc := 54) (v := 20) dX10_digest_54 (by decide) ?_
  refine go_iload_n (pc := 56) dX10_digest_56 rfl rfl ?_
  refine go_iadd (pc := 57) dX10_digest_57 ?_
  refine go_top (y := 22) (by decide) ?_
  refine go_iald (pc := 58) (gz_b (by omega)) ((hw 33 (by decide) (by decide)).trans (wl_at (i := 33) rfl)) (gv_in (by decide)) dX10_digest_58 ?_
  refine go_top (y := (-1)) rfl ?_
  refine go_iadd (pc := 59) dX10_digest_59 ?_
  refine go_top (y := 207544) (by decide) ?_
  refine go_istore_n (pc := 60) (lv' := [(1, .int 207544), (2, .int 2), (0, .ref (G.2.1 + 32))]) dX10_digest_60 rfl (by decide) rfl ?_
  refine go_iinc (pc := 61) (v := 3) (lv' := [(2, .int 3), (1, .int 207544), (0, .ref (G.2.1 + 32))]) dX10_digest_61 1 rfl (by first | rfl | decide) (by decide) rfl ?_
  refine go_goto (pc := 64) (tgt := 40) dX10_digest_64 (by decide) ?_
  refine go_iload_n (pc := 40) dX10_digest_40 rfl rfl ?_
  refine go_bipush (pc := 41) (v := 24) dX10_digest_41 (by decide) ?_
  refine go_icmp_ge_f (pc := 43) (tgt := 67) dX10_digest_43 (by decide) (by decide) ?_
  refine go_bipush (pc := 46) (v := 31) dX10_digest_46 (by decide) ?_
  refine go_iload_n (pc := 48) dX10_digest_48 rfl rfl ?_
  refine go_imul (pc := 49) dX10_digest_49 ?_
  refine go_top (y := 6433864) (by decide) ?_
  refine go_aload_n (pc := 50) dX10_digest_50 rfl rfl ?_
  refine go_get (pc := 51) fX10_9 rfl (gz_b (by omega)) ((hw 32 (by decide) (by decide)).trans (wl_at (i := 32) rfl)) rfl dX10_digest_51 ?_
  refine go_bipush (pc := 54) (v := 20) dX10_digest_54 (by decide) ?_
  refine go_iload_n (pc := 56) dX10_digest_56 rfl rfl ?_
  refine go_iadd (pc := 57) dX10_digest_57 ?_
  refine go_top (y := 23) (by decide) ?_
  refine go_iald (pc := 58) (gz_b (by omega)) ((hw 33 (by decide) (by decide)).trans (wl_at (i := 33) rfl)) (gv_in (by decide)) dX10_digest_58 ?_
  refine go_top (y := (-1)) rfl ?_
  refine go_iadd (pc := 59) dX10_digest_59 ?_
  refine go_top (y := 6433863) (by decide) ?_
  refine go_istore_n (pc := 60) (lv' := [(1, .int 6433863), (2, .int 3), (0, .ref (G.2.1 + 32))]) dX10_digest_60 rfl (by decide) rfl ?_
  refine go_iinc (pc := 61) (v := 4) (lv' := [(2, .int 4), (1, .int 6433863), (0, .ref (G.2.1 + 32))]) dX10_digest_61 1 rfl (by first | rfl | decide) (by decide) rfl ?_
  refine go_goto (pc := 64) (tgt := 40) dX10_digest_64 (by decide) ?_
  refine go_iload_n (pc := 40) dX10_digest_40 rfl rfl ?_
  refine go_bipush (pc := 41) (v := 24) dX10_digest_41 (by decide) ?_
  refine go_icmp_ge_f (pc := 43) (tgt := 67) dX10_digest_43 (by decide) (by decide) ?_
  refine go_bipush (pc := 46) (v := 31) dX10_digest_46 (by decide) ?_
  refine go_iload_n (pc := 48) dX10_digest_48 rfl rfl ?_
  refine go_imul (pc := 49) dX10_digest_49 ?_
  refine go_top (y := 199449753) (by decide) ?_
  refine go_aload_n (pc := 50) dX10_digest_50 rfl rfl ?_
  refine go_get (pc := 51) fX10_9 rfl (gz_b (by omega)) ((hw 32 (by decide) (by decide)).trans (wl_at (i := 32) rfl)) rfl dX10_digest_51 ?_
  refine go_bipush (pc := 54) (v := 20) dX10_digest_54 (by decide) ?_
  refine go_iload_n (pc := 56) dX10_digest_56 rfl rfl ?_
  refine go_iadd (pc := 57) dX10_digest_57 ?_
  refine go_top (y := 24) (by decide) ?_
  refine go_iald (pc := 58) (gz_b (by omega)) ((hw 33 (by decide) (by decide)).trans (wl_at (i := 33) rfl)) (gv_in (by decide)) dX10_digest_58 ?_
  refine go_top (y := (-1)) rfl ?_
  refine go_iadd (pc := 59) dX10_digest_59 ?_
  refine go_top (y := 199449752) (by decide) ?_
  refine go_istore_n (pc := 60) (lv' := [(1, .int 199449752), (2, .int 4), (0, .ref (G.2.1 + 32))]) dX10_digest_60 rfl (by decide) rfl ?_
  refine go_iinc (pc := 61) (v := 5) (lv' := [(2, .int 5), (1, .int 199449752), (0, .ref (G.2.1 + 32))]) dX10_digest_61 1 rfl (by first | rfl | decide) (by decide) rfl ?_
  refine go_goto (pc := 64) (tgt := 40) dX10_digest_64 (by decide) ?_
  refine go_iload_n (pc := 40) dX10_digest_40 rfl rfl ?_
  refine go_bipush (pc := 41) (v := 24) dX10_digest_41 (by decide) ?_
  refine go_icmp_ge_f (pc := 43) (tgt := 67) dX10_digest_43 (by decide) (by decide) ?_
  refine go_bipush (pc := 46) (v := 31) dX10_digest_46 (by decide) ?_
  refine go_iload_n (pc := 48) dX10_digest_48 rfl rfl ?_
  refine go_imul (pc := 49) dX10_digest_49 ?_
  refine go_top (y := 1887975016) (by decide) ?_
  refine go_aload_n (pc := 50) dX10_digest_50 rfl rfl ?_
  refine go_get (pc := 51) fX10_9 rfl (gz_b (by omega)) ((hw 32 (by decide) (by decide)).trans (wl_at (i := 32) rfl)) rfl dX10_digest_51 ?_
  refine go_bipush (pc := 54) (v := 20) dX10_digest_54 (by decide) ?_
  refine go_iload_n (pc := 56) dX10_digest_56 rfl rfl ?_
  refine go_iadd (pc := 57) dX10_digest_57 ?_
  refine go_top (y := 25) (by decide) ?_
  refine go_iald (pc := 58) (gz_b (by omega)) ((hw 33 (by decide) (by decide)).trans (wl_at (i := 33) rfl)) (gv_in (by decide)) dX10_digest_58 ?_
  refine go_top (y := (-1)) rfl ?_
  refine go_iadd (pc := 59) dX10_digest_59 ?_
  refine go_top (y := 1887975015) (by decide) ?_
  refine go_istore_n (pc := 60) (lv' := [(1, .int 1887975015), (2, .int 5), (0, .ref (G.2.1 + 32))]) dX10_digest_60 rfl (by decide) rfl ?_
  refine go_iinc (pc := 61) (v := 6) (lv' := [(2, .int 6), (1, .int 1887975015), (0, .ref (G.2.1 + 32))]) dX10_digest_61 1 rfl (by first | rfl | decide) (by decide) rfl ?_
  refine go_goto (pc := 64) (tgt := 40) dX10_digest_64 (by decide) ?_
  refine go_iload_n (pc := 40) dX10_digest_40 rfl rfl ?_
  refine go_bipush (pc := 41) (v := 24) dX10_digest_41 (by decide) ?_
  refine go_icmp_ge_f (pc := 43) (tgt := 67) dX10_digest_43 (by decide) (by decide) ?_
  refine go_bipush (pc := 46) (v := 31) dX10_digest_46 (by decide) ?_
  refine go_iload_n (pc := 48) dX10_digest_48 rfl rfl ?_
  refine go_imul (pc := 49) dX10_digest_49 ?_
  refine go_top (y := (-1602316679)) (by decide) ?_
  refine go_aload_n (pc := 50) dX10_digest_50 rfl rfl ?_
  refine go_get (pc := 51) fX10_9 rfl (gz_b (by omega)) ((hw 32 (by decide) (by decide)).trans (wl_at (i := 32) rfl)) rfl dX10_digest_51 ?_
  refine go_bipush (pc := 54) (v := 20) dX10_digest_54 (by decide) ?_
  refine go_iload_n (pc := 56) dX10_digest_56 rfl rfl ?_
  refine go_iadd (pc := 57) dX10_digest_57 ?_
  refine go_top (y := 26) (by decide) ?_
  refine go_iald (pc := 58) (gz_b (by omega)) ((hw 33 (by decide) (by decide)).trans (wl_at (i := 33) rfl)) (gv_in (by decide)) dX10_digest_58 ?_
  refine go_top (y := (-1)) rfl ?_
  refine go_iadd (pc := 59) dX10_digest_59 ?_
  refine go_top (y := (-1602316680)) (by decide) ?_
  refine go_istore_n (pc := 60) (lv' := [(1, .int ((-1602316680))), (2, .int 6), (0, .ref (G.2.1 + 32))]) dX10_digest_60 rfl (by decide) rfl ?_
  refine go_iinc (pc := 61) (v := 7) (lv' := [(2, .int 7), (1, .int ((-1602316680))), (0, .ref (G.2.1 + 32))]) dX10_digest_61 1 rfl (by first | rfl | decide) (by decide) rfl ?_
  refine go_goto (pc := 64) (tgt := 40) dX10_digest_64 (by decide) ?_
  refine go_iload_n (pc := 40) dX10_digest_40 rfl rfl ?_
  refine go_bipush (pc := 41) (v := 24) dX10_digest_41 (by decide) ?_
  refine go_icmp_ge_f (pc := 43) (tgt := 67) dX10_digest_43 (by decide) (by decide) ?_
  refine go_bipush (pc := 46) (v := 31) dX10_digest_46 (by decide) ?_
  refine go_iload_n (pc := 48) dX10_digest_48 rfl rfl ?_
  refine go_imul (pc := 49) dX10_digest_49 ?_
  refine go_top (y := 1867790472) (by decide) ?_
  refine go_aload_n (pc := 50) dX10_digest_50 rfl rfl ?_
  refine go_get (pc := 51) fX10_9 rfl (gz_b (by omega)) ((hw 32 (by decide) (by decide)).trans (wl_at (i := 32) rfl)) rfl dX10_digest_51 ?_
  refine go_bipush (pc := 54) (v := 20) dX10_digest_54 (by decide) ?_
  refine go_iload_n (pc := 56) dX10_digest_56 rfl rfl ?_
  refine go_iadd (pc := 57) dX10_digest_57 ?_
  refine go_top (y := 27) (by decide) ?_
  refine go_iald (pc := 58) (gz_b (by omega)) ((hw 33 (by decide) (by decide)).trans (wl_at (i := 33) rfl)) (gv_in (by decide)) dX10_digest_58 ?_
  refine go_top (y := (-1)) rfl ?_
  refine go_iadd (pc := 59) dX10_digest_59 ?_
  refine go_top (y := 1867790471) (by decide) ?_
  refine go_istore_n (pc := 60) (lv' := [(1, .int 1867790471), (2, .int 7), (0, .ref (G.2.1 + 32))]) dX10_digest_60 rfl (by decide) rfl ?_
  refine go_iinc (pc := 61) (v := 8) (lv' := [(2, .int 8), (1, .int 1867790471), (0, .ref (G.2.1 + 32))]) dX10_digest_61 1 rfl (by first | rfl | decide) (by decide) rfl ?_
  refine go_goto (pc := 64) (tgt := 40) dX10_digest_64 (by decide) ?_
  refine go_iload_n (pc := 40) dX10_digest_40 rfl rfl ?_
  refine go_bipush (pc := 41) (v := 24) dX10_digest_41 (by decide) ?_
  refine go_icmp_ge_f (pc := 43) (tgt := 67) dX10_digest_43 (by decide) (by decide) ?_
  refine go_bipush (pc := 46) (v := 31) dX10_digest_46 (by decide) ?_
  refine go_iload_n (pc := 48) dX10_digest_48 rfl rfl ?_
  refine go_imul (pc := 49) dX10_digest_49 ?_
  refine go_top (y := 2066929753) (by decide) ?_
  refine go_aload_n (pc := 50) dX10_digest_50 rfl rfl ?_
  refine go_get (pc := 51) fX10_9 rfl (gz_b (by omega)) ((hw 32 (by decide) (by decide)).trans (wl_at (i := 32) rfl)) rfl dX10_digest_51 ?_
  refine go_bipush (pc := 54) (v := 20) dX10_digest_54 (by decide) ?_
  refine go_iload_n (pc := 56) dX10_digest_56 rfl rfl ?_
  refine go_iadd (pc := 57) dX10_digest_57 ?_
  refine go_top (y := 28) (by decide) ?_
  refine go_iald (pc := 58) (gz_b (by omega)) ((hw 33 (by decide) (by decide)).trans (wl_at (i := 33) rfl)) (gv_in (by decide)) dX10_digest_58 ?_
  refine go_top (y := (-1)) rfl ?_
  refine go_iadd (pc := 59) dX10_digest_59 ?_
  refine go_top (y := 2066929752) (by decide) ?_
  refine go_istore_n (pc := 60) (lv' := [(1, .int 2066929752), (2, .int 8), (0, .ref (G.2.1 + 32))]) dX10_digest_60 rfl (by decide) rfl ?_
  refine go_iinc (pc := 61) (v := 9) (lv' := [(2, .int 9), (1, .int 2066929752), (0, .ref (G.2.1 + 32))]) dX10_digest_61 1 rfl (by first | rfl | decide) (by decide) rfl ?_
  refine go_goto (pc := 64) (tgt := 40) dX10_digest_64 (by decide) ?_
  refine go_iload_n (pc := 40) dX10_digest_40 rfl rfl ?_
  refine go_bipush (pc := 41) (v := 24) dX10_digest_41 (by decide) ?_
  refine go_icmp_ge_f (pc := 43) (tgt := 67) dX10_digest_43 (by decide) (by decide) ?_
  refine go_bipush (pc := 46) (v := 31) dX10_digest_46 (by decide) ?_
  refine go_iload_n (pc := 48) dX10_digest_48 rfl rfl ?_
  refine go_imul (pc := 49) dX10_digest_49 ?_
  refine go_top (y := (-349687128)) (by decide) ?_
  refine go_aload_n (pc := 50) dX10_digest_50 rfl rfl ?_
  refine go_get (pc := 51) fX10_9 rfl (gz_b (by omega)) ((hw 32 (by decide) (by decide)).trans (wl_at (i := 32) rfl)) rfl dX10_digest_51 ?_
  refine go_bipush (pc := 54) (v := 20) dX10_digest_54 (by decide) ?_
  refine go_iload_n (pc := 56) dX10_digest_56 rfl rfl ?_
  refine go_iadd (pc := 57) dX10_digest_57 ?_
  refine go_top (y := 29) (by decide) ?_
  refine go_iald (pc := 58) (gz_b (by omega)) ((hw 33 (by decide) (by decide)).trans (wl_at (i := 33) rfl)) (gv_in (by decide)) dX10_digest_58 ?_
  refine go_top (y := (-1)) rfl ?_
  refine go_iadd (pc := 59) dX10_digest_59 ?_
  refine go_top (y := (-349687129)) (by decide) ?_
  refine go_istore_n (pc := 60) (lv' := [(1, .int ((-349687129))), (2, .int 9), (0, .ref (G.2.1 + 32))]) dX10_digest_60 rfl (by decide) rfl ?_
  refine go_iinc (pc := 61) (v := 10) (lv' := [(2, .int 10), (1, .int ((-349687129))), (0, .ref (G.2.1 + 32))]) dX10_digest_61 1 rfl (by first | rfl | decide) (by decide) rfl ?_
  refine go_goto (pc := 64) (tgt := 40) dX10_digest_64 (by decide) ?_
  refine go_iload_n (pc := 40) dX10_digest_40 rfl rfl ?_
  refine go_bipush (pc := 41) (v := 24) dX10_digest_41 (by decide) ?_
  refine go_icmp_ge_f (pc := 43) (tgt := 67) dX10_digest_43 (by decide) (by decide) ?_
  refine go_bipush (pc := 46) (v := 31) dX10_digest_46 (by decide) ?_
  refine go_iload_n (pc := 48) dX10_digest_48 rfl rfl ?_
  refine go_imul (pc := 49) dX10_digest_49 ?_
  refine go_top (y := 2044600889) (by decide) ?_
  refine go_aload_n (pc := 50) dX10_digest_50 rfl rfl ?_
  refine go_get (pc := 51) fX10_9 rfl (gz_b (by omega)) ((hw 32 (by decide) (by decide)).trans (wl_at (i := 32) rfl)) rfl dX10_digest_51 ?_
  refine go_bipush (pc := 54) (v := 20) dX10_digest_54 (by decide) ?_
  refine go_iload_n (pc := 56) dX10_digest_56 rfl rfl ?_
  refine go_iadd (pc := 57) dX10_digest_57 ?_
  refine go_top (y := 30) (by decide) ?_
  refine go_iald (pc := 58) (gz_b (by omega)) ((hw 33 (by decide) (by decide)).trans (wl_at (i := 33) rfl)) (gv_in (by decide)) dX10_digest_58 ?_
  refine go_top (y := (-1)) rfl ?_
  refine go_iadd (pc := 59) dX10_digest_59 ?_
  refine go_top (y := 2044600888) (by decide) ?_
  refine go_istore_n (pc := 60) (lv' := [(1, .int 2044600888), (2, .int 10), (0, .ref (G.2.1 + 32))]) dX10_digest_60 rfl (by decide) rfl ?_
  refine go_iinc (pc := 61) (v := 11) (lv' := [(2, .int 11), (1, .int 2044600888), (0, .ref (G.2.1 + 32))]) dX10_digest_61 1 rfl (by first | rfl | decide) (by decide) rfl ?_
  refine go_goto (pc := 64) (tgt := 40) dX10_digest_64 (by decide) ?_
  refine go_iload_n (pc := 40) dX10_digest_40 rfl rfl ?_
  refine go_bipush (pc := 41) (v := 24) dX10_digest_41 (by decide) ?_
  refine go_icmp_ge_f (pc := 43) (tgt := 67) dX10_digest_43 (by decide) (by decide) ?_
  refine go_bipush (pc := 46) (v := 31) dX10_digest_46 (by decide) ?_
  refine go_iload_n (pc := 48) dX10_digest_48 rfl rfl ?_
  refine go_imul (pc := 49) dX10_digest_49 ?_
  refine go_top (y := (-1041881912)) (by decide) ?_
  refine go_aload_n (pc := 50) dX10_digest_50 rfl rfl ?_
  refine go_get (pc := 51) fX10_9 rfl (gz_b (by omega)) ((hw 32 (by decide) (by decide)).trans (wl_at (i := 32) rfl)) rfl dX10_digest_51 ?_
  refine go_bipush (pc := 54) (v := 20) dX10_digest_54 (by decide) ?_
  refine go_iload_n (pc := 56) dX10_digest_56 rfl rfl ?_
  refine go_iadd (pc := 57) dX10_digest_57 ?_
  refine go_top (y := 31) (by decide) ?_
  refine go_iald (pc := 58) (gz_b (by omega)) ((hw 33 (by decide) (by decide)).trans (wl_at (i := 33) rfl)) (gv_in (by decide)) dX10_digest_58 ?_
  refine go_top (y := (-1)) rfl ?_
  refine go_iadd (pc := 59) dX10_digest_59 ?_
  refine go_top (y := (-1041881913)) (by decide) ?_
  refine go_istore_n (pc := 60) (lv' := [(1, .int ((-1041881913))), (2, .int 11), (0, .ref (G.2.1 + 32))]) dX10_digest_60 rfl (by decide) rfl ?_
  refine go_iinc (pc := 61) (v := 12) (lv' := [(2, .int 12), (1, .int ((-1041881913))), (0, .ref (G.2.1 + 32))]) dX10_digest_61 1 rfl (by first | rfl | decide) (by decide) rfl ?_
  refine go_goto (pc := 64) (tgt := 40) dX10_digest_64 (by decide) ?_
  refine go_iload_n (pc := 40) dX10_digest_40 rfl rfl ?_
  refine go_bipush (pc := 41) (v := 24) dX10_digest_41 (by decide) ?_
  refine go_icmp_ge_f (pc := 43) (tgt := 67) dX10_digest_43 (by decide) (by decide) ?_
  refine go_bipush (pc := 46) (v := 31) dX10_digest_46 (by decide) ?_
  refine go_iload_n (pc := 48) dX10_digest_48 rfl rfl ?_
  refine go_imul (pc := 49) dX10_digest_49 ?_
  refine go_top (y := 2061399065) (by decide) ?_
  refine go_aload_n (pc := 50) dX10_digest_50 rfl rfl ?_
  refine go_get (pc := 51) fX10_9 rfl (gz_b (by omega)) ((hw 32 (by decide) (by decide)).trans (wl_at (i := 32) rfl)) rfl dX10_digest_51 ?_
  refine go_bipush (pc := 54) (v := 20) dX10_digest_54 (by decide) ?_
  refine go_iload_n (pc := 56) dX10_digest_56 rfl rfl ?_
  refine go_iadd (pc := 57) dX10_digest_57 ?_
  refine go_top (y := 32) (by decide) ?_
  refine go_iald (pc := 58) (gz_b (by omega)) ((hw 33 (by decide) (by decide)).trans (wl_at (i := 33) rfl)) (gv_in (by decide)) dX10_digest_58 ?_
  refine go_top (y := (-1)) rfl ?_
  refine go_iadd (pc := 59) dX10_digest_59 ?_
  refine go_top (y := 2061399064) (by decide) ?_
  refine go_istore_n (pc := 60) (lv' := [(1, .int 2061399064), (2, .int 12), (0, .ref (G.2.1 + 32))]) dX10_digest_60 rfl (by decide) rfl ?_
  refine go_iinc (pc := 61) (v := 13) (lv' := [(2, .int 13), (1, .int 2061399064), (0, .ref (G.2.1 + 32))]) dX10_digest_61 1 rfl (by first | rfl | decide) (by decide) rfl ?_
  refine go_goto (pc := 64) (tgt := 40) dX10_digest_64 (by decide) ?_
  refine go_iload_n (pc := 40) dX10_digest_40 rfl rfl ?_
  refine go_bipush (pc := 41) (v := 24) dX10_digest_41 (by decide) ?_
  refine go_icmp_ge_f (pc := 43) (tgt := 67) dX10_digest_43 (by decide) (by decide) ?_
  refine go_bipush (pc := 46) (v := 31) dX10_digest_46 (by decide) ?_
  refine go_iload_n (pc := 48) dX10_digest_48 rfl rfl ?_
  refine go_imul (pc := 49) dX10_digest_49 ?_
  refine go_top (y := (-521138456)) (by decide) ?_
  refine go_aload_n (pc := 50) dX10_digest_50 rfl rfl ?_
  refine go_get (pc := 51) fX10_9 rfl (gz_b (by omega)) ((hw 32 (by decide) (by decide)).trans (wl_at (i := 32) rfl)) rfl dX10_digest_51 ?_
  refine go_bipush (pc := 54) (v := 20) dX10_digest_54 (by decide) ?_
  refine go_iload_n (pc := 56) dX10_digest_56 rfl rfl ?_
  refine go_iadd (pc := 57) dX10_digest_57 ?_
  refine go_top (y := 33) (by decide) ?_
  refine go_iald (pc := 58) (gz_b (by omega)) ((hw 33 (by decide) (by decide)).trans (wl_at (i := 33) rfl)) (gv_in (by decide)) dX10_digest_58 ?_
  refine go_top (y := (-1)) rfl ?_
  refine go_iadd (pc := 59) dX10_digest_59 ?_
  refine go_top (y := (-521138457)) (by decide) ?_
  refine go_istore_n (pc := 60) (lv' := [(1, .int ((-521138457))), (2, .int 13), (0, .ref (G.2.1 + 32))]) dX10_digest_60 rfl (by decide) rfl ?_
  refine go_iinc (pc := 61) (v := 14) (lv' := [(2, .int 14), (1, .int ((-521138457))), (0, .ref (G.2.1 + 32))]) dX10_digest_61 1 rfl (by first | rfl | decide) (by decide) rfl ?_
  refine go_goto (pc := 64) (tgt := 40) dX10_digest_64 (by decide) ?_
  refine go_iload_n (pc := 40) dX10_digest_40 rfl rfl ?_
  refine go_bipush (pc := 41) (v := 24) dX10_digest_41 (by decide) ?_
  refine go_icmp_ge_f (pc := 43) (tgt := 67) dX10_digest_43 (by decide) (by decide) ?_
  refine go_bipush (pc := 46) (v := 31) dX10_digest_46 (by decide) ?_
  refine go_iload_n (pc := 48) dX10_digest_48 rfl rfl ?_
  refine go_imul (pc := 49) dX10_digest_49 ?_
  refine go_top (y := 1024577017) (by decide) ?_
  refine go_aload_n (pc := 50) dX10_digest_50 rfl rfl ?_
  refine go_get (pc := 51) fX10_9 rfl (gz_b (by omega)) ((hw 32 (by decide) (by decide)).trans (wl_at (i := 32) rfl)) rfl dX10_digest_51 ?_
  refine go_bipush (pc := 54) (v := 20) dX10_digest_54 (by decide) ?_
  refine go_iload_n (pc := 56) dX10_digest_56 rfl rfl ?_
  refine go_iadd (pc := 57) dX10_digest_57 ?_
  refine go_top (y := 34) (by decide) ?_
  refine go_iald (pc := 58) (gz_b (by omega)) ((hw 33 (by decide) (by decide)).trans (wl_at (i := 33) rfl)) (gv_in (by decide)) dX10_digest_58 ?_
  refine go_top (y := (-1)) rfl ?_
  refine go_iadd (pc := 59) dX10_digest_59 ?_
  refine go_top (y := 1024577016) (by decide) ?_
  refine go_istore_n (pc := 60) (lv' := [(1, .int 1024577016), (2, .int 14), (0, .ref (G.2.1 + 32))]) dX10_digest_60 rfl (by decide) rfl ?_
  refine go_iinc (pc := 61) (v := 15) (lv' := [(2, .int 15), (1, .int 1024577016), (0, .ref (G.2.1 + 32))]) dX10_digest_61 1 rfl (by first | rfl | decide) (by decide) rfl ?_
  refine go_goto (pc := 64) (tgt := 40) dX10_digest_64 (by decide) ?_
  refine go_iload_n (pc := 40) dX10_digest_40 rfl rfl ?_
  refine go_bipush (pc := 41) (v := 24) dX10_digest_41 (by decide) ?_
  refine go_icmp_ge_f (pc := 43) (tgt := 67) dX10_digest_43 (by decide) (by decide) ?_
  refine go_bipush (pc := 46) (v := 31) dX10_digest_46 (by decide) ?_
  refine go_iload_n (pc := 48) dX10_digest_48 rfl rfl ?_
  refine go_imul (pc := 49) dX10_digest_49 ?_
  refine go_top (y := 1697116424) (by decide) ?_
  refine go_aload_n (pc := 50) dX10_digest_50 rfl rfl ?_
  refine go_get (pc := 51) fX10_9 rfl (gz_b (by omega)) ((hw 32 (by decide) (by decide)).trans (wl_at (i := 32) rfl)) rfl dX10_digest_51 ?_
  refine go_bipush (pc := 54) (v := 20) dX10_digest_54 (by decide) ?_
  refine go_iload_n (pc := 56) dX10_digest_56 rfl rfl ?_
  refine go_iadd (pc := 57) dX10_digest_57 ?_
  refine go_top (y := 35) (by decide) ?_
  refine go_iald (pc := 58) (gz_b (by omega)) ((hw 33 (by decide) (by decide)).trans (wl_at (i := 33) rfl)) (gv_in (by decide)) dX10_digest_58 ?_
  refine go_top (y := (-1)) rfl ?_
  refine go_iadd (pc := 59) dX10_digest_59 ?_
  refine go_top (y := 1697116423) (by decide) ?_
  refine go_istore_n (pc := 60) (lv' := [(1, .int 1697116423), (2, .int 15), (0, .ref (G.2.1 + 32))]) dX10_digest_60 rfl (by decide) rfl ?_
  refine go_iinc (pc := 61) (v := 16) (lv' := [(2, .int 16), (1, .int 1697116423), (0, .ref (G.2.1 + 32))]) dX10_digest_61 1 rfl (by first | rfl | decide) (by decide) rfl ?_
  refine go_goto (pc := 64) (tgt := 40) dX10_digest_64 (by decide) ?_
  refine go_iload_n (pc := 40) dX10_digest_40 rfl rfl ?_
  refine go_bipush (pc := 41) (v := 24) dX10_digest_41 (by decide) ?_
  refine go_icmp_ge_f (pc := 43) (tgt := 67) dX10_digest_43 (by decide) (by decide) ?_
  refine go_bipush (pc := 46) (v := 31) dX10_digest_46 (by decide) ?_
  refine go_iload_n (pc := 48) dX10_digest_48 rfl rfl ?_
  refine go_imul (pc := 49) dX10_digest_49 ?_
  refine go_top (y := 1071001561) (by decide) ?_
  refine go_aload_n (pc := 50) dX10_digest_50 rfl rfl ?_
  refine go_get (pc := 51) fX10_9 rfl (gz_b (by omega)) ((hw 32 (by decide) (by decide)).trans (wl_at (i := 32) rfl)) rfl dX10_digest_51 ?_
  refine go_bipush (pc := 54) (v := 20) dX10_digest_54 (by decide) ?_
  refine go_iload_n (pc := 56) dX10_digest_56 rfl rfl ?_
  refine go_iadd (pc := 57) dX10_digest_57 ?_
  refine go_top (y := 36) (by decide) ?_
  refine go_iald (pc := 58) (gz_b (by omega)) ((hw 33 (by decide) (by decide)).trans (wl_at (i := 33) rfl)) (gv_in (by decide)) dX10_digest_58 ?_
  refine go_top (y := (-1)) rfl ?_
  refine go_iadd (pc := 59) dX10_digest_59 ?_
  refine go_top (y := 1071001560) (by decide) ?_
  refine go_istore_n (pc := 60) (lv' := [(1, .int 1071001560), (2, .int 16), (0, .ref (G.2.1 + 32))]) dX10_digest_60 rfl (by decide) rfl ?_
  refine go_iinc (pc := 61) (v := 17) (lv' := [(2, .int 17), (1, .int 1071001560), (0, .ref (G.2.1 + 32))]) dX10_digest_61 1 rfl (by first | rfl | decide) (by decide) rfl ?_
  refine go_goto (pc := 64) (tgt := 40) dX10_digest_64 (by decide) ?_
  refine go_iload_n (pc := 40) dX10_digest_40 rfl rfl ?_
  refine go_bipush (pc := 41) (v := 24) dX10_digest_41 (by decide) ?_
  refine go_icmp_ge_f (pc := 43) (tgt := 67) dX10_digest_43 (by decide) (by decide) ?_
  refine go_bipush (pc := 46) (v := 31) dX10_digest_46 (by decide) ?_
  refine go_iload_n (pc := 48) dX10_digest_48 rfl rfl ?_
  refine go_imul (pc := 49) dX10_digest_49 ?_
  refine go_top (y := (-1158690008)) (by decide) ?_
  refine go_aload_n (pc := 50) dX10_digest_50 rfl rfl ?_
  refine go_get (pc := 51) fX10_9 rfl (gz_b (by omega)) ((hw 32 (by decide) (by decide)).trans (wl_at (i := 32) rfl)) rfl dX10_digest_51 ?_
  refine go_bipush (pc := 54) (v := 20) dX10_digest_54 (by decide) ?_
  refine go_iload_n (pc := 56) dX10_digest_56 rfl rfl ?_
  refine go_iadd (pc := 57) dX10_digest_57 ?_
  refine go_top (y := 37) (by decide) ?_
  refine go_iald (pc := 58) (gz_b (by omega)) ((hw 33 (by decide) (by decide)).trans (wl_at (i := 33) rfl)) (gv_in (by decide)) dX10_digest_58 ?_
  refine go_top (y := (-1)) rfl ?_
  refine go_iadd (pc := 59) dX10_digest_59 ?_
  refine go_top (y := (-1158690009)) (by decide) ?_
  refine go_istore_n (pc := 60) (lv' := [(1, .int ((-1158690009))), (2, .int 17), (0, .ref (G.2.1 + 32))]) dX10_digest_60 rfl (by decide) rfl ?_
  refine go_iinc (pc := 61) (v := 18) (lv' := [(2, .int 18), (1, .int ((-1158690009))), (0, .ref (G.2.1 + 32))]) dX10_digest_61 1 rfl (by first | rfl | decide) (by decide) rfl ?_
  refine go_goto (pc := 64) (tgt := 40) dX10_digest_64 (by decide) ?_
  refine go_iload_n (pc := 40) dX10_digest_40 rfl rfl ?_
  refine go_bipush (pc := 41) (v := 24) dX10_digest_41 (by decide) ?_
  refine go_icmp_ge_f (pc := 43) (tgt := 67) dX10_digest_43 (by decide) (by decide) ?_
  refine go_bipush (pc := 46) (v := 31) dX10_digest_46 (by decide) ?_
  refine go_iload_n (pc := 48) dX10_digest_48 rfl rfl ?_
  refine go_imul (pc := 49) dX10_digest_49 ?_
  refine go_top (y := (-1559651911)) (by decide) ?_
  refine go_aload_n (pc := 50) dX10_digest_50 rfl rfl ?_
  refine go_get (pc := 51) fX10_9 rfl (gz_b (by omega)) ((hw 32 (by decide) (by decide)).trans (wl_at (i := 32) rfl)) rfl dX10_digest_51 ?_
  refine go_bipush (pc := 54) (v := 20) dX10_digest_54 (by decide) ?_
  refine go_iload_n (pc := 56) dX10_digest_56 rfl rfl ?_
  refine go_iadd (pc := 57) dX10_digest_57 ?_
  refine go_top (y := 38) (by decide) ?_
  refine go_iald (pc := 58) (gz_b (by omega)) ((hw 33 (by decide) (by decide)).trans (wl_at (i := 33) rfl)) (gv_in (by decide)) dX10_digest_58 ?_
  refine go_top (y := (-1)) rfl ?_
  refine go_iadd (pc := 59) dX10_digest_59 ?_
  refine go_top (y := (-1559651912)) (by decide) ?_
  refine go_istore_n (pc := 60) (lv' := [(1, .int ((-1559651912))), (2, .int 18), (0, .ref (G.2.1 + 32))]) dX10_digest_60 rfl (by decide) rfl ?_
  refine go_iinc (pc := 61) (v := 19) (lv' := [(2, .int 19), (1, .int ((-1559651912))), (0, .ref (G.2.1 + 32))]) dX10_digest_61 1 rfl (by first | rfl | decide) (by decide) rfl ?_
  refine go_goto (pc := 64) (tgt := 40) dX10_digest_64 (by decide) ?_
  refine go_iload_n (pc := 40) dX10_digest_40 rfl rfl ?_
  refine go_bipush (pc := 41) (v := 24) dX10_digest_41 (by decide) ?_
  refine go_icmp_ge_f (pc := 43) (tgt := 67) dX10_digest_43 (by decide) (by decide) ?_
  refine go_bipush (pc := 46) (v := 31) dX10_digest_46 (by decide) ?_
  refine go_iload_n (pc := 48) dX10_digest_48 rfl rfl ?_
  refine go_imul (pc := 49) dX10_digest_49 ?_
  refine go_top (y := (-1104569016)) (by decide) ?_
  refine go_aload_n (pc := 50) dX10_digest_50 rfl rfl ?_
  refine go_get (pc := 51) fX10_9 rfl (gz_b (by omega)) ((hw 32 (by decide) (by decide)).trans (wl_at (i := 32) rfl)) rfl dX10_digest_51 ?_
  refine go_bipush (pc := 54) (v := 20) dX10_digest_54 (by decide) ?_
  refine go_iload_n (pc := 56) dX10_digest_56 rfl rfl ?_
  refine go_iadd (pc := 57) dX10_digest_57 ?_
  refine go_top (y := 39) (by decide) ?_
  refine go_iald (pc := 58) (gz_b (by omega)) ((hw 33 (by decide) (by decide)).trans (wl_at (i := 33) rfl)) (gv_in (by decide)) dX10_digest_58 ?_
  refine go_top (y := (-1)) rfl ?_
  refine go_iadd (pc := 59) dX10_digest_59 ?_
  refine go_top (y := (-1104569017)) (by decide) ?_
  refine go_istore_n (pc := 60) (lv' := [(1, .int ((-1104569017))), (2, .int 19), (0, .ref (G.2.1 + 32))]) dX10_digest_60 rfl (by decide) rfl ?_
  refine go_iinc (pc := 61) (v := 20) (lv' := [(2, .int 20), (1, .int ((-1104569017))), (0, .ref (G.2.1 + 32))]) dX10_digest_61 1 rfl (by first | rfl | decide) (by decide) rfl ?_
  refine go_goto (pc := 64) (tgt := 40) dX10_digest_64 (by decide) ?_
  refine go_iload_n (pc := 40) dX10_digest_40 rfl rfl ?_
  refine go_bipush (pc := 41) (v := 24) dX10_digest_41 (by decide) ?_
  refine go_icmp_ge_f (pc := 43) (tgt := 67) dX10_digest_43 (by decide) (by decide) ?_
  refine go_bipush (pc := 46) (v := 31) dX10_digest_46 (by decide) ?_
  refine go_iload_n (pc := 48) dX10_digest_48 rfl rfl ?_
  refine go_imul (pc := 49) dX10_digest_49 ?_
  refine go_top (y := 118098841) (by decide) ?_
  refine go_aload_n (pc := 50) dX10_digest_50 rfl rfl ?_
  refine go_get (pc := 51) fX10_9 rfl (gz_b (by omega)) ((hw 32 (by decide) (by decide)).trans (wl_at (i := 32) rfl)) rfl dX10_digest_51 ?_
  refine go_bipush (pc := 54) (v := 20) dX10_digest_54 (by decide) ?_
  refine go_iload_n (pc := 56) dX10_digest_56 rfl rfl ?_
  refine go_iadd (pc := 57) dX10_digest_57 ?_
  refine go_top (y := 40) (by decide) ?_
  refine go_iald (pc := 58) (gz_b (by omega)) ((hw 33 (by decide) (by decide)).trans (wl_at (i := 33) rfl)) (gv_in (by decide)) dX10_digest_58 ?_
  refine go_top (y := (-1)) rfl ?_
  refine go_iadd (pc := 59) dX10_digest_59 ?_
  refine go_top (y := 118098840) (by decide) ?_
  refine go_istore_n (pc := 60) (lv' := [(1, .int 118098840), (2, .int 20), (0, .ref (G.2.1 + 32))]) dX10_digest_60 rfl (by decide) rfl ?_
  refine go_iinc (pc := 61) (v := 21) (lv' := [(2, .int 21), (1, .int 118098840), (0, .ref (G.2.1 + 32))]) dX10_digest_61 1 rfl (by first | rfl | decide) (by decide) rfl ?_
  refine go_goto (pc := 64) (tgt := 40) dX10_digest_64 (by decide) ?_
  refine go_iload_n (pc := 40) dX10_digest_40 rfl rfl ?_
  refine go_bipush (pc := 41) (v := 24) dX10_digest_41 (by decide) ?_
  refine go_icmp_ge_f (pc := 43) (tgt := 67) dX10_digest_43 (by decide) (by decide) ?_
  refine go_bipush (pc := 46) (v := 31) dX10_digest_46 (by decide) ?_
  refine go_iload_n (pc := 48) dX10_digest_48 rfl rfl ?_
  refine go_imul (pc := 49) dX10_digest_49 ?_
  refine go_top (y := (-633903256)) (by decide) ?_
  refine go_aload_n (pc := 50) dX10_digest_50 rfl rfl ?_
  refine go_get (pc := 51) fX10_9 rfl (gz_b (by omega)) ((hw 32 (by decide) (by decide)).trans (wl_at (i := 32) rfl)) rfl dX10_digest_51 ?_
  refine go_bipush (pc := 54) (v := 20) dX10_digest_54 (by decide) ?_
  refine go_iload_n (pc := 56) dX10_digest_56 rfl rfl ?_
  refine go_iadd (pc := 57) dX10_digest_57 ?_
  refine go_top (y := 41) (by decide) ?_
  refine go_iald (pc := 58) (gz_b (by omega)) ((hw 33 (by decide) (by decide)).trans (wl_at (i := 33) rfl)) (gv_in (by decide)) dX10_digest_58 ?_
  refine go_top (y := (-1)) rfl ?_
  refine go_iadd (pc := 59) dX10_digest_59 ?_
  refine go_top (y := (-633903257)) (by decide) ?_
  refine go_istore_n (pc := 60) (lv' := [(1, .int ((-633903257))), (2, .int 21), (0, .ref (G.2.1 + 32))]) dX10_digest_60 rfl (by decide) rfl ?_
  refine go_iinc (pc := 61) (v := 22) (lv' := [(2, .int 22), (1, .int ((-633903257))), (0, .ref (G.2.1 + 32))]) dX10_digest_61 1 rfl (by first | rfl | decide) (by decide) rfl ?_
  refine go_goto (pc := 64) (tgt := 40) dX10_digest_64 (by decide) ?_
  refine go_iload_n (pc := 40) dX10_digest_40 rfl rfl ?_
  refine go_bipush (pc := 41) (v := 24) dX10_digest_41 (by decide) ?_
  refine go_icmp_ge_f (pc := 43) (tgt := 67) dX10_digest_43 (by decide) (by decide) ?_
  refine go_bipush (pc := 46) (v := 31) dX10_digest_46 (by decide) ?_
  refine go_iload_n (pc := 48) dX10_digest_48 rfl rfl ?_
  refine go_imul (pc := 49) dX10_digest_49 ?_
  refine go_top (y := 1823835513) (by decide) ?_
  refine go_aload_n (pc := 50) dX10_digest_50 rfl rfl ?_
  refine go_get (pc := 51) fX10_9 rfl (gz_b (by omega)) ((hw 32 (by decide) (by decide)).trans (wl_at (i := 32) rfl)) rfl dX10_digest_51 ?_
  refine go_bipush (pc := 54) (v := 20) dX10_digest_54 (by decide) ?_
  refine go_iload_n (pc := 56) dX10_digest_56 rfl rfl ?_
  refine go_iadd (pc := 57) dX10_digest_57 ?_
  refine go_top (y := 42) (by decide) ?_
  refine go_iald (pc := 58) (gz_b (by omega)) ((hw 33 (by decide) (by decide)).trans (wl_at (i := 33) rfl)) (gv_in (by decide)) dX10_digest_58 ?_
  refine go_top (y := (-1)) rfl ?_
  refine go_iadd (pc := 59) dX10_digest_59 ?_
  refine go_top (y := 1823835512) (by decide) ?_
  refine go_istore_n (pc := 60) (lv' := [(1, .int 1823835512), (2, .int 22), (0, .ref (G.2.1 + 32))]) dX10_digest_60 rfl (by decide) rfl ?_
  refine go_iinc (pc := 61) (v := 23) (lv' := [(2, .int 23), (1, .int 1823835512), (0, .ref (G.2.1 + 32))]) dX10_digest_61 1 rfl (by first | rfl | decide) (by decide) rfl ?_
  refine go_goto (pc := 64) (tgt := 40) dX10_digest_64 (by decide) ?_
  refine go_iload_n (pc := 40) dX10_digest_40 rfl rfl ?_
  refine go_bipush (pc := 41) (v := 24) dX10_digest_41 (by decide) ?_
  refine go_icmp_ge_f (pc := 43) (tgt := 67) dX10_digest_43 (by decide) (by decide) ?_
  refine go_bipush (pc := 46) (v := 31) dX10_digest_46 (by decide) ?_
  refine go_iload_n (pc := 48) dX10_digest_48 rfl rfl ?_
  refine go_imul (pc := 49) dX10_digest_49 ?_
  refine go_top (y := 704326024) (by decide) ?_
  refine go_aload_n (pc := 50) dX10_digest_50 rfl rfl ?_
  refine go_get (pc := 51) fX10_9 rfl (gz_b (by omega)) ((hw 32 (by decide) (by decide)).trans (wl_at (i := 32) rfl)) rfl dX10_digest_51 ?_
  refine go_bipush (pc := 54) (v := 20) dX10_digest_54 (by decide) ?_
  refine go_iload_n (pc := 56) dX10_digest_56 rfl rfl ?_
  refine go_iadd (pc := 57) dX10_digest_57 ?_
  refine go_top (y := 43) (by decide) ?_
  refine go_iald (pc := 58) (gz_b (by omega)) ((hw 33 (by decide) (by decide)).trans (wl_at (i := 33) rfl)) (gv_in (by decide)) dX10_digest_58 ?_
  refine go_top (y := (-1)) rfl ?_
  refine go_iadd (pc := 59) dX10_digest_59 ?_
  refine go_top (y := 704326023) (by decide) ?_
  refine go_istore_n (pc := 60) (lv' := [(1, .int 704326023), (2, .int 23), (0, .ref (G.2.1 + 32))]) dX10_digest_60 rfl (by decide) rfl ?_
  refine go_iinc (pc := 61) (v := 24) (lv' := [(2, .int 24), (1, .int 704326023), (0, .ref (G.2.1 + 32))]) dX10_digest_61 1 rfl (by first | rfl | decide) (by decide) rfl ?_
  refine go_goto (pc := 64) (tgt := 40) dX10_digest_64 (by decide) ?_
  refine go_iload_n (pc := 40) dX10_digest_40 rfl rfl ?_
  refine go_bipush (pc := 41) (v := 24) dX10_digest_41 (by decide) ?_
  refine go_icmp_ge_t (pc := 43) (tgt := 67) dX10_digest_43 (by decide) (by decide) ?_
  refine go_bipush (pc := 67) (v := 31) dX10_digest_67 (by decide) ?_
  refine go_iload_n (pc := 69) dX10_digest_69 rfl rfl ?_
  refine go_imul (pc := 70) dX10_digest_70 ?_
  refine go_top (y := 359270233) (by decide) ?_
  refine go_aload_n (pc := 71) dX10_digest_71 rfl rfl ?_
  refine go_get (pc := 72) fX10_9 rfl (gz_b (by omega)) ((hw 32 (by decide) (by decide)).trans (wl_at (i := 32) rfl)) rfl dX10_digest_72 ?_
  refine go_iconst (pc := 75) (v := 3) dX10_digest_75 (by decide) ?_
  refine go_iald (pc := 76) (gz_b (by omega)) ((hw 33 (by decide) (by decide)).trans (wl_at (i := 33) rfl)) (gv_in (by decide)) dX10_digest_76 ?_
  refine go_top (y := 0) rfl ?_
  refine go_iadd (pc := 77) dX10_digest_77 ?_
  refine go_top (y := 359270233) (by decide) ?_
  exact go_iret (pc := 78) rfl dX10_digest_78
theorem cm_digest {l : Launch} {G : gG} : CM l G mX10_digest [.ref (G.2.1 + 32)] 359270233 := by
  intro n k w hn hw
  exact ⟨0, 0, _, by decide, by decide, cm_digest_o hn hw⟩
set_option maxRecDepth 100000 in
set_option maxHeartbeats 4000000 in
theorem cm_about_0_o {l : Launch} {G : gG} {n k : Nat} {w : Nat → va_E} (hn : 42 ≤ n) (hw : ∀ i, 32 ≤ i → i < 42 → w (G.2.1 + i) = wl G.2.1 (LF G) (G.2.1 + i)) : Ct l G mX10_about 0 0 [.ref (G.2.1 + 32), .int 0] n k w (some (.int 256), n, k, w) := by
  refine Ct.of (by decide) (Nat.le_of_ble_eq_true rfl) ⟨Nat.le_refl _, Nat.le_refl _⟩ ?_
  show Go l G mX10_about _ 0 [(0, .ref (G.2.1 + 32)), (1, .int 0)] [] n k w
  refine go_iload_n (pc := 0) dX10_about_0 rfl rfl ?_
  refine go_tableIn (pc := 1) (off := 79) (tgt := 80) dX10_about_1 (by decide) (by decide) (by decide) (by decide) ?_
  refine go_aload_n (pc := 80) dX10_about_80 rfl rfl ?_
  refine go_get (pc := 81) fX10_9 rfl (gz_b (by omega)) ((hw 32 (by decide) (by decide)).trans (wl_at (i := 32) rfl)) rfl dX10_about_81 ?_
  refine go_iconst (pc := 84) (v := 0) dX10_about_84 (by decide) ?_
  refine go_iald (pc := 85) (gz_b (by omega)) ((hw 33 (by decide) (by decide)).trans (wl_at (i := 33) rfl)) (gv_in (by decide)) dX10_about_85 ?_
  refine go_top (y := 256) rfl ?_
  exact go_iret (pc := 86) rfl dX10_about_86
theorem cm_about_0 {l : Launch} {G : gG} : CM l G mX10_about [.ref (G.2.1 + 32), .int 0] 256 := by
  intro n k w hn hw
  exact ⟨0, 0, _, by decide, by decide, cm_about_0_o hn hw⟩
set_option maxRecDepth 100000 in
set_option maxHeartbeats 4000000 in
theorem cm_about_1_o {l : Launch} {G : gG} {n k : Nat} {w : Nat → va_E} (hn : 42 ≤ n) (hw : ∀ i, 32 ≤ i → i < 42 → w (G.2.1 + i) = wl G.2.1 (LF G) (G.2.1 + i)) : Ct l G mX10_about 0 0 [.ref (G.2.1 + 32), .int 1] n k w (some (.int 256), n, k, w) := by
  refine Ct.of (by decide) (Nat.le_of_ble_eq_true rfl) ⟨Nat.le_refl _, Nat.le_refl _⟩ ?_
  show Go l G mX10_about _ 0 [(0, .ref (G.2.1 + 32)), (1, .int 1)] [] n k w
  refine go_iload_n (pc := 0) dX10_about_0 rfl rfl ?_
  refine go_tableIn (pc := 1) (off := 86) (tgt := 87) dX10_about_1 (by decide) (by decide) (by decide) (by decide) ?_
  refine go_aload_n (pc := 87) dX10_about_87 rfl rfl ?_
  refine go_get (pc := 88) fX10_9 rfl (gz_b (by omega)) ((hw 32 (by decide) (by decide)).trans (wl_at (i := 32) rfl)) rfl dX10_about_88 ?_
  refine go_iconst (pc := 91) (v := 0) dX10_about_91 (by decide) ?_
  refine go_iald (pc := 92) (gz_b (by omega)) ((hw 33 (by decide) (by decide)).trans (wl_at (i := 33) rfl)) (gv_in (by decide)) dX10_about_92 ?_
  refine go_top (y := 256) rfl ?_
  refine go_aload_n (pc := 93) dX10_about_93 rfl rfl ?_
  refine go_get (pc := 94) fX10_9 rfl (gz_b (by omega)) ((hw 32 (by decide) (by decide)).trans (wl_at (i := 32) rfl)) rfl dX10_about_94 ?_
  refine go_bipush (pc := 97) (v := 16) dX10_about_97 (by decide) ?_
  refine go_iald (pc := 99) (gz_b (by omega)) ((hw 33 (by decide) (by decide)).trans (wl_at (i := 33) rfl)) (gv_in (by decide)) dX10_about_99 ?_
  refine go_top (y := 0) rfl ?_
  refine go_isub (pc := 100) dX10_about_100 ?_
  refine go_top (y := 256) (by decide) ?_
  exact go_iret (pc := 101) rfl dX10_about_101
theorem cm_about_1 {l : Launch} {G : gG} : CM l G mX10_about [.ref (G.2.1 + 32), .int 1] 256 := by
  intro n k w hn hw
  exact ⟨0, 0, _, by decide, by decide, cm_about_1_o hn hw⟩
set_option maxRecDepth 100000 in
set_option maxHeartbeats 4000000 in
theorem cm_about_2_o {l : Launch} {G : gG} {n k : Nat} {w : Nat → va_E} (hn : 42 ≤ n) (hw : ∀ i, 32 ≤ i → i < 42 → w (G.2.1 + i) = wl G.2.1 (LF G) (G.2.1 + i)) : Ct l G mX10_about 0 0 [.ref (G.2.1 + 32), .int 2] n k w (some (.int 0), n, k, w) := by
  refine Ct.of (by decide) (Nat.le_of_ble_eq_true rfl) ⟨Nat.le_refl _, Nat.le_refl _⟩ ?_
  show Go l G mX10_about _ 0 [(0, .ref (G.2.1 + 32)), (1, .int 2)] [] n k w
  refine go_iload_n (pc := 0) dX10_about_0 rfl rfl ?_
  refine go_tableIn (pc := 1) (off := 101) (tgt := 102) dX10_about_1 (by decide) (by decide) (by decide) (by decide) ?_
  refine go_aload_n (pc := 102) dX10_about_102 rfl rfl ?_
  refine go_get (pc := 103) fX10_9 rfl (gz_b (by omega)) ((hw 32 (by decide) (by decide)).trans (wl_at (i := 32) rfl)) rfl dX10_about_103 ?_
  refine go_iconst (pc := 106) (v := 1) dX10_about_106 (by decide) ?_
  refine go_iald (pc := 107) (gz_b (by omega)) ((hw 33 (by decide) (by decide)).trans (wl_at (i := 33) rfl)) (gv_in (by decide)) dX10_about_107 ?_
  refine go_top (y := 0) rfl ?_
  exact go_iret (pc := 108) rfl dX10_about_108
theorem cm_about_2 {l : Launch} {G : gG} : CM l G mX10_about [.ref (G.2.1 + 32), .int 2] 0 := by
  intro n k w hn hw
  exact ⟨0, 0, _, by decide, by decide, cm_about_2_o hn hw⟩
set_option maxRecDepth 100000 in
set_option maxHeartbeats 4000000 in
theorem cm_about_3_o {l : Launch} {G : gG} {n k : Nat} {w : Nat → va_E} (hn : 42 ≤ n) (hw : ∀ i, 32 ≤ i → i < 42 → w (G.2.1 + i) = wl G.2.1 (LF G) (G.2.1 + i)) : Ct l G mX10_about 0 0 [.ref (G.2.1 + 32), .int 3] n k w (some (.int 0), n, k, w) := by
  refine Ct.of (by decide) (Nat.le_of_ble_eq_true rfl) ⟨Nat.le_refl _, Nat.le_refl _⟩ ?_
  show Go l G mX10_about _ 0 [(0, .ref (G.2.1 + 32)), (1, .int 3)] [] n k w
  refine go_iload_n (pc := 0) dX10_about_0 rfl rfl ?_
  refine go_tableIn (pc := 1) (off := 108) (tgt := 109) dX10_about_1 (by decide) (by decide) (by decide) (by decide) ?_
  refine go_aload_n (pc := 109) dX10_about_109 rfl rfl ?_
  refine go_get (pc := 110) fX10_9 rfl (gz_b (by omega)) ((hw 32 (by decide) (by decide)).trans (wl_at (i := 32) rfl)) rfl dX10_about_110 ?_
  refine go_iconst (pc := 113) (v := 2) dX10_about_113 (by decide) ?_
  refine go_iald (pc := 114) (gz_b (by omega)) ((hw 33 (by decide) (by decide)).trans (wl_at (i := 33) rfl)) (gv_in (by decide)) dX10_about_114 ?_
  refine go_top (y := 0) rfl ?_
  exact go_iret (pc := 115) rfl dX10_about_115
theorem cm_about_3 {l : Launch} {G : gG} : CM l G mX10_about [.ref (G.2.1 + 32), .int 3] 0 := by
  intro n k w hn hw
  exact ⟨0, 0, _, by decide, by decide, cm_about_3_o hn hw⟩
set_option maxRecDepth 100000 in
set_option maxHeartbeats 4000000 in
theorem cm_about_4_o {l : Launch} {G : gG} {n k : Nat} {w : Nat → va_E} (hn : 42 ≤ n) (hw : ∀ i, 32 ≤ i → i < 42 → w (G.2.1 + i) = wl G.2.1 (LF G) (G.2.1 + i)) : Ct l G mX10_about 0 0 [.ref (G.2.1 + 32), .int 4] n k w (some (.int 0), n, k, w) := by
  refine Ct.of (by decide) (Nat.le_of_ble_eq_true rfl) ⟨Nat.le_refl _, Nat.le_refl _⟩ ?_
  show Go l G mX10_about _ 0 [(0, .ref (G.2.1 + 32)), (1, .int 4)] [] n k w
  refine go_iload_n (pc := 0) dX10_about_0 rfl rfl ?_
  refine go_tableIn (pc := 1) (off := 115) (tgt := 116) dX10_about_1 (by decide) (by decide) (by decide) (by decide) ?_
  refine go_aload_n (pc := 116) dX10_about_116 rfl rfl ?_
  refine go_get (pc := 117) fX10_9 rfl (gz_b (by omega)) ((hw 32 (by decide) (by decide)).trans (wl_at (i := 32) rfl)) rfl dX10_about_117 ?_
  refine go_iconst (pc := 120) (v := 5) dX10_about_120 (by decide) ?_
  refine go_iald (pc := 121) (gz_b (by omega)) ((hw 33 (by decide) (by decide)).trans (wl_at (i := 33) rfl)) (gv_in (by decide)) dX10_about_121 ?_
  refine go_top (y := 0) rfl ?_
  exact go_iret (pc := 122) rfl dX10_about_122
theorem cm_about_4 {l : Launch} {G : gG} : CM l G mX10_about [.ref (G.2.1 + 32), .int 4] 0 := by
  intro n k w hn hw
  exact ⟨0, 0, _, by decide, by decide, cm_about_4_o hn hw⟩
set_option maxRecDepth 100000 in
set_option maxHeartbeats 4000000 in
theorem cm_about_5_o {l : Launch} {G : gG} {n k : Nat} {w : Nat → va_E} (hn : 42 ≤ n) (hw : ∀ i, 32 ≤ i → i < 42 → w (G.2.1 + i) = wl G.2.1 (LF G) (G.2.1 + i)) : Ct l G mX10_about 0 0 [.ref (G.2.1 + 32), .int 5] n k w (some (.int 0), n, k, w) := by
  refine Ct.of (by decide) (Nat.le_of_ble_eq_true rfl) ⟨Nat.le_refl _, Nat.le_refl _⟩ ?_
  show Go l G mX10_about _ 0 [(0, .ref (G.2.1 + 32)), (1, .int 5)] [] n k w
  refine go_iload_n (pc := 0) dX10_about_0 rfl rfl ?_
  refine go_tableIn (pc := 1) (off := 122) (tgt := 123) dX10_about_1 (by decide) (by decide) (by decide) (by decide) ?_
  refine go_aload_n (pc := 123) dX10_about_123 rfl rfl ?_
  refine go_get (pc := 124) fX10_9 rfl (gz_b (by omega)) ((hw 32 (by decide) (by decide)).trans (wl_at (i := 32) rfl)) rfl dX10_about_124 ?_
  refine go_bipush (pc := 127) (v := 6) dX10_about_127 (by decide) ?_
  refine go_iald (pc := 129) (gz_b (by omega)) ((hw 33 (by decide) (by decide)).trans (wl_at (i := 33) rfl)) (gv_in (by decide)) dX10_about_129 ?_
  refine go_top (y := 0) rfl ?_
  exact go_iret (pc := 130) rfl dX10_about_130
theorem cm_about_5 {l : Launch} {G : gG} : CM l G mX10_about [.ref (G.2.1 + 32), .int 5] 0 := by
  intro n k w hn hw
  exact ⟨0, 0, _, by decide, by decide, cm_about_5_o hn hw⟩
set_option maxRecDepth 100000 in
set_option maxHeartbeats 4000000 in
theorem cm_about_6_o {l : Launch} {G : gG} {n k : Nat} {w : Nat → va_E} (hn : 42 ≤ n) (hw : ∀ i, 32 ≤ i → i < 42 → w (G.2.1 + i) = wl G.2.1 (LF G) (G.2.1 + i)) : Ct l G mX10_about 0 0 [.ref (G.2.1 + 32), .int 6] n k w (some (.int 0), n, k, w) := by
  refine Ct.of (by decide) (Nat.le_of_ble_eq_true rfl) ⟨Nat.le_refl _, Nat.le_refl _⟩ ?_
  show Go l G mX10_about _ 0 [(0, .ref (G.2.1 + 32)), (1, .int 6)] [] n k w
  refine go_iload_n (pc := 0) dX10_about_0 rfl rfl ?_
  refine go_tableIn (pc := 1) (off := 130) (tgt := 131) dX10_about_1 (by decide) (by decide) (by decide) (by decide) ?_
  refine go_aload_n (pc := 131) dX10_about_131 rfl rfl ?_
  refine go_get (pc := 132) fX10_9 rfl (gz_b (by omega)) ((hw 32 (by decide) (by decide)).trans (wl_at (i := 32) rfl)) rfl dX10_about_132 ?_
  refine go_bipush (pc := 135) (v := 7) dX10_about_135 (by decide) ?_
  refine go_iald (pc := 137) (gz_b (by omega)) ((hw 33 (by decide) (by decide)).trans (wl_at (i := 33) rfl)) (gv_in (by decide)) dX10_about_137 ?_
  refine go_top (y := 0) rfl ?_
  exact go_iret (pc := 138) rfl dX10_about_138
theorem cm_about_6 {l : Launch} {G : gG} : CM l G mX10_about [.ref (G.2.1 + 32), .int 6] 0 := by
  intro n k w hn hw
  exact ⟨0, 0, _, by decide, by decide, cm_about_6_o hn hw⟩
set_option maxRecDepth 100000 in
set_option maxHeartbeats 4000000 in
theorem cm_about_7_o {l : Launch} {G : gG} {n k : Nat} {w : Nat → va_E} (hn : 42 ≤ n) (hw : ∀ i, 32 ≤ i → i < 42 → w (G.2.1 + i) = wl G.2.1 (LF G) (G.2.1 + i)) : Ct l G mX10_about 0 0 [.ref (G.2.1 + 32), .int 7] n k w (some (.int 0), n, k, w) := by
  refine Ct.of (by decide) (Nat.le_of_ble_eq_true rfl) ⟨Nat.le_refl _, Nat.le_refl _⟩ ?_
  show Go l G mX10_about _ 0 [(0, .ref (G.2.1 + 32)), (1, .int 7)] [] n k w
  refine go_iload_n (pc := 0) dX10_about_0 rfl rfl ?_
  refine go_tableIn (pc := 1) (off := 138) (tgt := 139) dX10_about_1 (by decide) (by decide) (by decide) (by decide) ?_
  refine go_aload_n (pc := 139) dX10_about_139 rfl rfl ?_
  refine go_get (pc := 140) fX10_9 rfl (gz_b (by omega)) ((hw 32 (by decide) (by decide)).trans (wl_at (i := 32) rfl)) rfl dX10_about_140 ?_
  refine go_bipush (pc := 143) (v := 8) dX10_about_143 (by decide) ?_
  refine go_iald (pc := 145) (gz_b (by omega)) ((hw 33 (by decide) (by decide)).trans (wl_at (i := 33) rfl)) (gv_in (by decide)) dX10_about_145 ?_
  refine go_top (y := 0) rfl ?_
  exact go_iret (pc := 146) rfl dX10_about_146
theorem cm_about_7 {l : Launch} {G : gG} : CM l G mX10_about [.ref (G.2.1 + 32), .int 7] 0 := by
  intro n k w hn hw
  exact ⟨0, 0, _, by decide, by decide, cm_about_7_o hn hw⟩
set_option maxRecDepth 100000 in
set_option maxHeartbeats 4000000 in
theorem cm_about_8_o {l : Launch} {G : gG} {n k : Nat} {w : Nat → va_E} (hn : 42 ≤ n) (hw : ∀ i, 32 ≤ i → i < 42 → w (G.2.1 + i) = wl G.2.1 (LF G) (G.2.1 + i)) : Ct l G mX10_about 0 0 [.ref (G.2.1 + 32), .int 8] n k w (some (.int 0), n, k, w) := by
  refine Ct.of (by decide) (Nat.le_of_ble_eq_true rfl) ⟨Nat.le_refl _, Nat.le_refl _⟩ ?_
  show Go l G mX10_about _ 0 [(0, .ref (G.2.1 + 32)), (1, .int 8)] [] n k w
  refine go_iload_n (pc := 0) dX10_about_0 rfl rfl ?_
  refine go_tableIn (pc := 1) (off := 146) (tgt := 147) dX10_about_1 (by decide) (by decide) (by decide) (by decide) ?_
  refine go_aload_n (pc := 147) dX10_about_147 rfl rfl ?_
  refine go_get (pc := 148) fX10_9 rfl (gz_b (by omega)) ((hw 32 (by decide) (by decide)).trans (wl_at (i := 32) rfl)) rfl dX10_about_148 ?_
  refine go_bipush (pc := 151) (v := 9) dX10_about_151 (by decide) ?_
  refine go_iald (pc := 153) (gz_b (by omega)) ((hw 33 (by decide) (by decide)).trans (wl_at (i := 33) rfl)) (gv_in (by decide)) dX10_about_153 ?_
  refine go_top (y := 0) rfl ?_
  exact go_iret (pc := 154) rfl dX10_about_154
theorem cm_about_8 {l : Launch} {G : gG} : CM l G mX10_about [.ref (G.2.1 + 32), .int 8] 0 := by
  intro n k w hn hw
  exact ⟨0, 0, _, by decide, by decide, cm_about_8_o hn hw⟩
set_option maxRecDepth 100000 in
set_option maxHeartbeats 4000000 in
theorem cm_about_9_o {l : Launch} {G : gG} {n k : Nat} {w : Nat → va_E} (hn : 42 ≤ n) (hw : ∀ i, 32 ≤ i → i < 42 → w (G.2.1 + i) = wl G.2.1 (LF G) (G.2.1 + i)) : Ct l G mX10_about 0 0 [.ref (G.2.1 + 32), .int 9] n k w (some (.int 0), n, k, w) := by
  refine Ct.of (by decide) (Nat.le_of_ble_eq_true rfl) ⟨Nat.le_refl _, Nat.le_refl _⟩ ?_
  show Go l G mX10_about _ 0 [(0, .ref (G.2.1 + 32)), (1, .int 9)] [] n k w
  refine go_iload_n (pc := 0) dX10_about_0 rfl rfl ?_
  refine go_tableIn (pc := 1) (off := 154) (tgt := 155) dX10_about_1 (by decide) (by decide) (by decide) (by decide) ?_
  refine go_aload_n (pc := 155) dX10_about_155 rfl rfl ?_
  refine go_get (pc := 156) fX10_9 rfl (gz_b (by omega)) ((hw 32 (by decide) (by decide)).trans (wl_at (i := 32) rfl)) rfl dX10_about_156 ?_
  refine go_bipush (pc := 159) (v := 10) dX10_about_159 (by decide) ?_
  refine go_iald (pc := 161) (gz_b (by omega)) ((hw 33 (by decide) (by decide)).trans (wl_at (i := 33) rfl)) (gv_in (by decide)) dX10_about_161 ?_
  refine go_top (y := 0) rfl ?_
  exact go_iret (pc := 162) rfl dX10_about_162
theorem cm_about_9 {l : Launch} {G : gG} : CM l G mX10_about [.ref (G.2.1 + 32), .int 9] 0 := by
  intro n k w hn hw
  exact ⟨0, 0, _, by decide, by decide, cm_about_9_o hn hw⟩
set_option maxRecDepth 100000 in
set_option maxHeartbeats 4000000 in
theorem cm_about_10_o {l : Launch} {G : gG} {n k : Nat} {w : Nat → va_E} (hn : 42 ≤ n) (hw : ∀ i, 32 ≤ i → i < 42 → w (G.2.1 + i) = wl G.2.1 (LF G) (G.2.1 + i)) : Ct l G mX10_about 0 0 [.ref (G.2.1 + 32), .int 10] n k w (some (.int 0), n, k, w) := by
  refine Ct.of (by decide) (Nat.le_of_ble_eq_true rfl) ⟨Nat.le_refl _, Nat.le_refl _⟩ ?_
  show Go l G mX10_about _ 0 [(0, .ref (G.2.1 + 32)), (1, .int 10)] [] n k w
  refine go_iload_n (pc := 0) dX10_about_0 rfl rfl ?_
  refine go_tableIn (pc := 1) (off := 162) (tgt := 163) dX10_about_1 (by decide) (by decide) (by decide) (by decide) ?_
  refine go_aload_n (pc := 163) dX10_about_163 rfl rfl ?_
  refine go_get (pc := 164) fX10_9 rfl (gz_b (by omega)) ((hw 32 (by decide) (by decide)).trans (wl_at (i := 32) rfl)) rfl dX10_about_164 ?_
  refine go_iconst (pc := 167) (v := 4) dX10_about_167 (by decide) ?_
  refine go_iald (pc := 168) (gz_b (by omega)) ((hw 33 (by decide) (by decide)).trans (wl_at (i := 33) rfl)) (gv_in (by decide)) dX10_about_168 ?_
  refine go_top (y := 0) rfl ?_
  exact go_iret (pc := 169) rfl dX10_about_169
theorem cm_about_10 {l : Launch} {G : gG} : CM l G mX10_about [.ref (G.2.1 + 32), .int 10] 0 := by
  intro n k w hn hw
  exact ⟨0, 0, _, by decide, by decide, cm_about_10_o hn hw⟩
set_option maxRecDepth 100000 in
set_option maxHeartbeats 4000000 in
theorem cX10_notThrough_1 {l : Launch} {G : gG} {n k : Nat} {w : Nat → va_E} (hn : 42 ≤ n) (hw : ∀ i, 32 ≤ i → i < 42 → w (G.2.1 + i) = wl G.2.1 (LF G) (G.2.1 + i)) : Ct l G mX10_notThrough 0 0 [.ref (G.2.1 + 32)] n k w (some (.int 0), n, k, w) := by
  refine Ct.of (by decide) (Nat.le_of_ble_eq_true rfl) ⟨Nat.le_refl _, Nat.le_refl _⟩ ?_
  show Go l G mX10_notThrough _ 0 [(0, .ref (G.2.1 + 32))] [] n k w
  refine go_iconst (pc := 0) (v := 0) dX10_notThrough_0 (by decide) ?_
  refine go_istore_n (pc := 1) (lv' := [(1, .int 0), (0, .ref (G.2.1 + 32))]) dX10_notThrough_1 rfl (by decide) rfl ?_
  refine go_iconst (pc := 2) (v := 0) dX10_notThrough_2 (by decide) ?_
  refine go_istore_n (pc := 3) (lv' := [(2, .int 0), (1, .int 0), (0, .ref (G.2.1 + 32))]) dX10_notThrough_3 rfl (by decide) rfl ?_
  refine go_iload_n (pc := 4) dX10_notThrough_4 rfl rfl ?_
  refine go_aload_n (pc := 5) dX10_notThrough_5 rfl rfl ?_
  refine go_get (pc := 6) fX10_9 rfl (gz_b (by omega)) ((hw 32 (by decide) (by decide)).trans (wl_at (i := 32) rfl)) rfl dX10_notThrough_6 ?_
  refine go_iconst (pc := 9) (v := 4) dX10_notThrough_9 (by decide) ?_
  refine go_iald (pc := 10) (gz_b (by omega)) ((hw 33 (by decide) (by decide)).trans (wl_at (i := 33) rfl)) (gv_in (by decide)) dX10_notThrough_10 ?_
  refine go_top (y := 0) rfl ?_
  refine go_icmp_ge_t (pc := 11) (tgt := 54) dX10_notThrough_11 (by decide) (by decide) ?_
  refine go_iload_n (pc := 54) dX10_notThrough_54 rfl rfl ?_
  exact go_iret (pc := 55) rfl dX10_notThrough_55
set_option maxRecDepth 100000 in
set_option maxHeartbeats 4000000 in
theorem cm_about_11_o {l : Launch} {G : gG} {n k : Nat} {w : Nat → va_E} (hn : 42 ≤ n) (hw : ∀ i, 32 ≤ i → i < 42 → w (G.2.1 + i) = wl G.2.1 (LF G) (G.2.1 + i)) : Ct l G mX10_about 1 23 [.ref (G.2.1 + 32), .int 11] n k w (some (.int 0), n, k, w) := by
  refine Ct.of (by decide) (Nat.le_of_ble_eq_true rfl) ⟨Nat.le_refl _, Nat.le_refl _⟩ ?_
  show Go l G mX10_about _ 0 [(0, .ref (G.2.1 + 32)), (1, .int 11)] [] n k w
  refine go_iload_n (pc := 0) dX10_about_0 rfl rfl ?_
  refine go_tableIn (pc := 1) (off := 169) (tgt := 170) dX10_about_1 (by decide) (by decide) (by decide) (by decide) ?_
  refine go_aload_n (pc := 170) dX10_about_170 rfl rfl ?_
  refine go_callV_i (pc := 171) vX10_234 rfl (cX10_notThrough_1 hn hw) rfl rfl (gz_b (by omega)) ((hw 32 (by decide) (by decide)).trans (wl_at (i := 32) rfl)) rfl (Nat.le_of_ble_eq_true rfl) ⟨Nat.le_of_ble_eq_true rfl, Nat.le_of_ble_eq_true rfl, (Nat.le_add_right _ _), (Nat.le_add_right _ _)⟩ dX10_about_171 ?_
  exact go_iret (pc := 174) rfl dX10_about_174
theorem cm_about_11 {l : Launch} {G : gG} : CM l G mX10_about [.ref (G.2.1 + 32), .int 11] 0 := by
  intro n k w hn hw
  exact ⟨1, 23, _, by decide, by decide, cm_about_11_o hn hw⟩
set_option maxRecDepth 100000 in
set_option maxHeartbeats 4000000 in
theorem cm_about_12_o {l : Launch} {G : gG} {n k : Nat} {w : Nat → va_E} (hn : 42 ≤ n) (hw : ∀ i, 32 ≤ i → i < 42 → w (G.2.1 + i) = wl G.2.1 (LF G) (G.2.1 + i)) : Ct l G mX10_about 0 0 [.ref (G.2.1 + 32), .int 12] n k w (some (.int 0), n, k, w) := by
  refine Ct.of (by decide) (Nat.le_of_ble_eq_true rfl) ⟨Nat.le_refl _, Nat.le_refl _⟩ ?_
  show Go l G mX10_about _ 0 [(0, .ref (G.2.1 + 32)), (1, .int 12)] [] n k w
  refine go_iload_n (pc := 0) dX10_about_0 rfl rfl ?_
  refine go_tableIn (pc := 1) (off := 174) (tgt := 175) dX10_about_1 (by decide) (by decide) (by decide) (by decide) ?_
  refine go_aload_n (pc := 175) dX10_about_175 rfl rfl ?_
  refine go_get (pc := 176) fX10_9 rfl (gz_b (by omega)) ((hw 32 (by decide) (by decide)).trans (wl_at (i := 32) rfl)) rfl dX10_about_176 ?_
  refine go_bipush (pc := 179) (v := 11) dX10_about_179 (by decide) ?_
  refine go_iald (pc := 181) (gz_b (by omega)) ((hw 33 (by decide) (by decide)).trans (wl_at (i := 33) rfl)) (gv_in (by decide)) dX10_about_181 ?_
  refine go_top (y := 0) rfl ?_
  exact go_iret (pc := 182) rfl dX10_about_182
theorem cm_about_12 {l : Launch} {G : gG} : CM l G mX10_about [.ref (G.2.1 + 32), .int 12] 0 := by
  intro n k w hn hw
  exact ⟨0, 0, _, by decide, by decide, cm_about_12_o hn hw⟩
set_option maxRecDepth 100000 in
set_option maxHeartbeats 4000000 in
theorem cm_about_13_o {l : Launch} {G : gG} {n k : Nat} {w : Nat → va_E} (hn : 42 ≤ n) (hw : ∀ i, 32 ≤ i → i < 42 → w (G.2.1 + i) = wl G.2.1 (LF G) (G.2.1 + i)) : Ct l G mX10_about 0 0 [.ref (G.2.1 + 32), .int 13] n k w (some (.int 0), n, k, w) := by
  refine Ct.of (by decide) (Nat.le_of_ble_eq_true rfl) ⟨Nat.le_refl _, Nat.le_refl _⟩ ?_
  show Go l G mX10_about _ 0 [(0, .ref (G.2.1 + 32)), (1, .int 13)] [] n k w
  refine go_iload_n (pc := 0) dX10_about_0 rfl rfl ?_
  refine go_tableIn (pc := 1) (off := 182) (tgt := 183) dX10_about_1 (by decide) (by decide) (by decide) (by decide) ?_
  refine go_aload_n (pc := 183) dX10_about_183 rfl rfl ?_
  refine go_get (pc := 184) fX10_9 rfl (gz_b (by omega)) ((hw 32 (by decide) (by decide)).trans (wl_at (i := 32) rfl)) rfl dX10_about_184 ?_
  refine go_bipush (pc := 187) (v := 12) dX10_about_187 (by decide) ?_
  refine go_iald (pc := 189) (gz_b (by omega)) ((hw 33 (by decide) (by decide)).trans (wl_at (i := 33) rfl)) (gv_in (by decide)) dX10_about_189 ?_
  refine go_top (y := 0) rfl ?_
  exact go_iret (pc := 190) rfl dX10_about_190
theorem cm_about_13 {l : Launch} {G : gG} : CM l G mX10_about [.ref (G.2.1 + 32), .int 13] 0 := by
  intro n k w hn hw
  exact ⟨0, 0, _, by decide, by decide, cm_about_13_o hn hw⟩
set_option maxRecDepth 100000 in
set_option maxHeartbeats 4000000 in
theorem cm_about_14_o {l : Launch} {G : gG} {n k : Nat} {w : Nat → va_E} (hn : 42 ≤ n) (hw : ∀ i, 32 ≤ i → i < 42 → w (G.2.1 + i) = wl G.2.1 (LF G) (G.2.1 + i)) : Ct l G mX10_about 0 0 [.ref (G.2.1 + 32), .int 14] n k w (some (.int 0), n, k, w) := by
  refine Ct.of (by decide) (Nat.le_of_ble_eq_true rfl) ⟨Nat.le_refl _, Nat.le_refl _⟩ ?_
  show Go l G mX10_about _ 0 [(0, .ref (G.2.1 + 32)), (1, .int 14)] [] n k w
  refine go_iload_n (pc := 0) dX10_about_0 rfl rfl ?_
  refine go_tableIn (pc := 1) (off := 190) (tgt := 191) dX10_about_1 (by decide) (by decide) (by decide) (by decide) ?_
  refine go_aload_n (pc := 191) dX10_about_191 rfl rfl ?_
  refine go_get (pc := 192) fX10_9 rfl (gz_b (by omega)) ((hw 32 (by decide) (by decide)).trans (wl_at (i := 32) rfl)) rfl dX10_about_192 ?_
  refine go_bipush (pc := 195) (v := 13) dX10_about_195 (by decide) ?_
  refine go_iald (pc := 197) (gz_b (by omega)) ((hw 33 (by decide) (by decide)).trans (wl_at (i := 33) rfl)) (gv_in (by decide)) dX10_about_197 ?_
  refine go_top (y := 0) rfl ?_
  exact go_iret (pc := 198) rfl dX10_about_198
theorem cm_about_14 {l : Launch} {G : gG} : CM l G mX10_about [.ref (G.2.1 + 32), .int 14] 0 := by
  intro n k w hn hw
  exact ⟨0, 0, _, by decide, by decide, cm_about_14_o hn hw⟩
set_option maxRecDepth 100000 in
set_option maxHeartbeats 4000000 in
theorem cm_about_15_o {l : Launch} {G : gG} {n k : Nat} {w : Nat → va_E} (hn : 42 ≤ n) (hw : ∀ i, 32 ≤ i → i < 42 → w (G.2.1 + i) = wl G.2.1 (LF G) (G.2.1 + i)) : Ct l G mX10_about 0 0 [.ref (G.2.1 + 32), .int 15] n k w (some (.int 0), n, k, w) := by
  refine Ct.of (by decide) (Nat.le_of_ble_eq_true rfl) ⟨Nat.le_refl _, Nat.le_refl _⟩ ?_
  show Go l G mX10_about _ 0 [(0, .ref (G.2.1 + 32)), (1, .int 15)] [] n k w
  refine go_iload_n (pc := 0) dX10_about_0 rfl rfl ?_
  refine go_tableIn (pc := 1) (off := 198) (tgt := 199) dX10_about_1 (by decide) (by decide) (by decide) (by decide) ?_
  refine go_aload_n (pc := 199) dX10_about_199 rfl rfl ?_
  refine go_get (pc := 200) fX10_9 rfl (gz_b (by omega)) ((hw 32 (by decide) (by decide)).trans (wl_at (i := 32) rfl)) rfl dX10_about_200 ?_
  refine go_bipush (pc := 203) (v := 14) dX10_about_203 (by decide) ?_
  refine go_iald (pc := 205) (gz_b (by omega)) ((hw 33 (by decide) (by decide)).trans (wl_at (i := 33) rfl)) (gv_in (by decide)) dX10_about_205 ?_
  refine go_top (y := 0) rfl ?_
  exact go_iret (pc := 206) rfl dX10_about_206
theorem cm_about_15 {l : Launch} {G : gG} : CM l G mX10_about [.ref (G.2.1 + 32), .int 15] 0 := by
  intro n k w hn hw
  exact ⟨0, 0, _, by decide, by decide, cm_about_15_o hn hw⟩
set_option maxRecDepth 100000 in
set_option maxHeartbeats 4000000 in
theorem cm_about_lo_o {l : Launch} {G : gG} (x1 : Int32) (k0 : x1 < 0) {n k : Nat} {w : Nat → va_E} (hn : 42 ≤ n) (hw : ∀ i, 32 ≤ i → i < 42 → w (G.2.1 + i) = wl G.2.1 (LF G) (G.2.1 + i)) : Ct l G mX10_about 0 0 [.ref (G.2.1 + 32), .int x1] n k w (some (.int ((-102))), n, k, w) := by
  refine Ct.of (by decide) (Nat.le_of_ble_eq_true rfl) ⟨Nat.le_refl _, Nat.le_refl _⟩ ?_
  show Go l G mX10_about _ 0 [(0, .ref (G.2.1 + 32)), (1, .int x1)] [] n k w
  refine go_iload_n (pc := 0) dX10_about_0 rfl rfl ?_
  refine go_tableOut (pc := 1) (tgt := 207) dX10_about_1 (Or.inl (gt_lo k0 (by decide))) (by decide) ?_
  refine go_bipush (pc := 207) (v := (-102)) dX10_about_207 (by decide) ?_
  exact go_iret (pc := 209) rfl dX10_about_209
theorem cm_about_lo {l : Launch} {G : gG} (x1 : Int32) (k0 : x1 < 0) : CM l G mX10_about [.ref (G.2.1 + 32), .int x1] ((-102)) := by
  intro n k w hn hw
  exact ⟨0, 0, _, by decide, by decide, cm_about_lo_o x1 k0 hn hw⟩
set_option maxRecDepth 100000 in
set_option maxHeartbeats 4000000 in
theorem cm_about_hi_o {l : Launch} {G : gG} (x1 : Int32) (k0 : 15 < x1) {n k : Nat} {w : Nat → va_E} (hn : 42 ≤ n) (hw : ∀ i, 32 ≤ i → i < 42 → w (G.2.1 + i) = wl G.2.1 (LF G) (G.2.1 + i)) : Ct l G mX10_about 0 0 [.ref (G.2.1 + 32), .int x1] n k w (some (.int ((-102))), n, k, w) := by
  refine Ct.of (by decide) (Nat.le_of_ble_eq_true rfl) ⟨Nat.le_refl _, Nat.le_refl _⟩ ?_
  show Go l G mX10_about _ 0 [(0, .ref (G.2.1 + 32)), (1, .int x1)] [] n k w
  refine go_iload_n (pc := 0) dX10_about_0 rfl rfl ?_
  refine go_tableOut (pc := 1) (tgt := 207) dX10_about_1 (Or.inr (gt_hi k0 (by decide))) (by decide) ?_
  refine go_bipush (pc := 207) (v := (-102)) dX10_about_207 (by decide) ?_
  exact go_iret (pc := 209) rfl dX10_about_209
theorem cm_about_hi {l : Launch} {G : gG} (x1 : Int32) (k0 : 15 < x1) : CM l G mX10_about [.ref (G.2.1 + 32), .int x1] ((-102)) := by
  intro n k w hn hw
  exact ⟨0, 0, _, by decide, by decide, cm_about_hi_o x1 k0 hn hw⟩

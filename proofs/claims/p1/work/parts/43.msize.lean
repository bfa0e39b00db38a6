/-! public methods on the fresh world, laid by wip/tools/p1gen.py -/
set_option maxRecDepth 100000 in
set_option maxHeartbeats 4000000 in
theorem cm_size_t {l : Launch} {G : gG} (x1 : Int32) (c0 : (if 16 ≤ x1 ∧ x1 ≤ 4000 then (1 : Int32) else 0) = 0) {n k : Nat} {w : Nat → va_E} (hn : 42 ≤ n) (hw : ∀ i, 32 ≤ i → i < 42 → w (G.2.1 + i) = wl G.2.1 (LF G) (G.2.1 + i)) : Ct l G mX10_size 1 25 [.ref (G.2.1 + 32), .int x1] n k w (some (.int ((-102))), n, k, w) := by
  refine Ct.of (by decide) (Nat.le_of_ble_eq_true rfl) ⟨Nat.le_refl _, Nat.le_refl _⟩ ?_
  show Go l G mX10_size _ 0 [(0, .ref (G.2.1 + 32)), (1, .int x1)] [] n k w
  refine go_iload_n (pc := 0) dX10_size_0 rfl rfl ?_
  refine go_i2l (pc := 1) dX10_size_1 ?_
  refine go_ldc2 (pc := 2) rfl qX10_59 dX10_size_2 ?_
  refine go_ldc2 (pc := 5) rfl qX10_61 dX10_size_5 ?_
  refine go_callS_i (pc := 8) sX10_63 rfl (ct_in x1.toInt64 16 4000) rfl rfl (Nat.le_of_ble_eq_true rfl) ⟨Nat.le_of_ble_eq_true rfl, Nat.le_of_ble_eq_true rfl, (Nat.le_add_right _ _), (Nat.le_add_right _ _)⟩ dX10_size_8 ?_
  refine go_top (y := (if 16 ≤ x1 ∧ x1 ≤ 4000 then (1 : Int32) else 0)) (gi_in (by decide) (by decide)) ?_
  refine go_if_ne_f (pc := 11) (tgt := 17) dX10_size_11 (by decide) c0 ?_
  refine go_bipush (pc := 14) (v := (-102)) dX10_size_14 (by decide) ?_
  exact go_iret (pc := 16) rfl dX10_size_16
set_option maxRecDepth 100000 in
set_option maxHeartbeats 4000000 in
theorem cm_size_f {l : Launch} {G : gG} (x1 : Int32) (c0 : ¬ (if 16 ≤ x1 ∧ x1 ≤ 4000 then (1 : Int32) else 0) = 0) {n k : Nat} {w : Nat → va_E} (hn : 42 ≤ n) (hw : ∀ i, 32 ≤ i → i < 42 → w (G.2.1 + i) = wl G.2.1 (LF G) (G.2.1 + i)) : Ct l G mX10_size 1 25 [.ref (G.2.1 + 32), .int x1] n k w (some (.int 1), n, k, (va_up (va_up w (G.2.1 + 33) (ai G 26100 (sx x1))) (G.2.1 + 32) (ob 10 [.ref (G.2.1 + 33), .ref (G.2.1 + 34), .ref (G.2.1 + 35), .int 0, .int 0, .int 0, .int 0, .int 0, .ref (G.2.1 + 36), .ref (G.2.1 + 37), .ref (G.2.1 + 38), .ref (G.2.1 + 39), .int 0, .ref (G.2.1 + 40), .int 0, .ref (G.2.1 + 41)]))) := by
  refine Ct.of (by decide) (Nat.le_of_ble_eq_true rfl) ⟨Nat.le_refl _, Nat.le_refl _⟩ ?_
  show Go l G mX10_size _ 0 [(0, .ref (G.2.1 + 32)), (1, .int x1)] [] n k w
  refine go_iload_n (pc := 0) dX10_size_0 rfl rfl ?_
  refine go_i2l (pc := 1) dX10_size_1 ?_
  refine go_ldc2 (pc := 2) rfl qX10_59 dX10_size_2 ?_
  refine go_ldc2 (pc := 5) rfl qX10_61 dX10_size_5 ?_
  refine go_callS_i (pc := 8) sX10_63 rfl (ct_in x1.toInt64 16 4000) rfl rfl (Nat.le_of_ble_eq_true rfl) ⟨Nat.le_of_ble_eq_true rfl, Nat.le_of_ble_eq_true rfl, (Nat.le_add_right _ _), (Nat.le_add_right _ _)⟩ dX10_size_8 ?_
  refine go_top (y := (if 16 ≤ x1 ∧ x1 ≤ 4000 then (1 : Int32) else 0)) (gi_in (by decide) (by decide)) ?_
  refine go_if_ne_t (pc := 11) (tgt := 17) dX10_size_11 (by decide) c0 ?_
  refine go_aload_n (pc := 17) dX10_size_17 rfl rfl ?_
  refine go_iload_n (pc := 18) dX10_size_18 rfl rfl ?_
  refine go_callV_v (pc := 19) vX10_38 rfl (ct_first (a := G.2.1 + 32) (b := G.2.1 + 33) (b1 := G.2.1 + 34) (b2 := G.2.1 + 35) (b8 := G.2.1 + 36) (b9 := G.2.1 + 37) (b10 := G.2.1 + 38) (b11 := G.2.1 + 39) (b13 := G.2.1 + 40) (b15 := G.2.1 + 41) (f3 := 0) (f4 := 0) (f5 := 0) (f6 := 0) (f7 := 0) (f12 := 0) (f14 := 0) (f := (sx 256)) x1 (gz_b (by omega)) (gz_b (by omega)) (gz_ne (by decide)) ((hw 32 (by decide) (by decide)).trans (wl_at (i := 32) rfl)) ((hw 33 (by decide) (by decide)).trans (wl_at (i := 33) rfl))) rfl rfl (gz_b (by omega)) ((hw 32 (by decide) (by decide)).trans (wl_at (i := 32) rfl)) rfl (Nat.le_of_ble_eq_true rfl) ⟨Nat.le_of_ble_eq_true rfl, Nat.le_of_ble_eq_true rfl, (Nat.le_add_right _ _), (Nat.le_add_right _ _)⟩ dX10_size_19 ?_
  refine go_iconst (pc := 22) (v := 1) dX10_size_22 (by decide) ?_
  exact go_iret (pc := 23) rfl dX10_size_23
theorem cm_size {l : Launch} {G : gG} (x1 : Int32) : CM l G mX10_size [.ref (G.2.1 + 32), .int x1] ((if (if 16 ≤ x1 ∧ x1 ≤ 4000 then (1 : Int32) else 0) = 0 then (-102) else 1)) := by
  intro n k w hn hw
  by_cases c0 : (if 16 ≤ x1 ∧ x1 ≤ 4000 then (1 : Int32) else 0) = 0
  · rw [if_pos c0]
    exact ⟨1, 25, _, by decide, by decide, cm_size_t x1 c0 hn hw⟩
  · rw [if_neg c0]
    exact ⟨1, 25, _, by decide, by decide, cm_size_f x1 c0 hn hw⟩

/-! public methods on the fresh world, laid by wip/tools/p1gen.py -/
set_option maxRecDepth 100000 in
set_option maxHeartbeats 4000000 in
theorem cx_root_e_t {l : Launch} {G : gG} (x1 : Int32) (c0 : x1 < 0) : Ct l G mX9_root 0 0 [.ref (G.2.1 + 0), .int x1, .int ((-1))] 42 90324 (wl G.2.1 (LF G)) (some (.int ((-101))), 42, 90324, (wl G.2.1 (LF G))) := by
  refine Ct.of (by decide) (Nat.le_of_ble_eq_true rfl) ⟨Nat.le_refl _, Nat.le_refl _⟩ ?_
  show Go l G mX9_root _ 0 [(0, .ref (G.2.1 + 0)), (1, .int x1), (2, .int ((-1)))] [] 42 90324 (wl G.2.1 (LF G))
  refine go_iload_n (pc := 0) dX9_root_0 rfl rfl ?_
  refine go_if_lt_t (pc := 1) (tgt := 18) dX9_root_1 (by decide) c0 ?_
  refine go_bipush (pc := 18) (v := (-101)) dX9_root_18 (by decide) ?_
  exact go_iret (pc := 20) rfl dX9_root_20
set_option maxRecDepth 100000 in
set_option maxHeartbeats 4000000 in
theorem cx_root_e_ft {l : Launch} {G : gG} (x1 : Int32) (c0 : ¬ x1 < 0) (c1 : 24 ≤ x1) : Ct l G mX9_root 0 0 [.ref (G.2.1 + 0), .int x1, .int ((-1))] 42 90324 (wl G.2.1 (LF G)) (some (.int ((-101))), 42, 90324, (wl G.2.1 (LF G))) := by
  refine Ct.of (by decide) (Nat.le_of_ble_eq_true rfl) ⟨Nat.le_refl _, Nat.le_refl _⟩ ?_
  show Go l G mX9_root _ 0 [(0, .ref (G.2.1 + 0)), (1, .int x1), (2, .int ((-1)))] [] 42 90324 (wl G.2.1 (LF G))
  refine go_iload_n (pc := 0) dX9_root_0 rfl rfl ?_
  refine go_if_lt_f (pc := 1) (tgt := 18) dX9_root_1 (by decide) c0 ?_
  refine go_iload_n (pc := 4) dX9_root_4 rfl rfl ?_
  refine go_bipush (pc := 5) (v := 24) dX9_root_5 (by decide) ?_
  refine go_icmp_ge_t (pc := 7) (tgt := 18) dX9_root_7 (by decide) c1 ?_
  refine go_bipush (pc := 18) (v := (-101)) dX9_root_18 (by decide) ?_
  exact go_iret (pc := 20) rfl dX9_root_20
set_option maxRecDepth 100000 in
set_option maxHeartbeats 4000000 in
theorem cX9_isUnknownTarget_1 {l : Launch} {G : gG} : Ct l G mX9_isUnknownTarget 0 0 [.ref (G.2.1 + 0), .int ((-1))] 42 90324 (wl G.2.1 (LF G)) (some (.int 0), 42, 90324, (wl G.2.1 (LF G))) := by
  refine Ct.of (by decide) (Nat.le_of_ble_eq_true rfl) ⟨Nat.le_refl _, Nat.le_refl _⟩ ?_
  show Go l G mX9_isUnknownTarget _ 0 [(0, .ref (G.2.1 + 0)), (1, .int ((-1)))] [] 42 90324 (wl G.2.1 (LF G))
  refine go_iload_n (pc := 0) dX9_isUnknownTarget_0 rfl rfl ?_
  refine go_iconst (pc := 1) (v := (-1)) dX9_isUnknownTarget_1 (by decide) ?_
  refine go_icmp_eq_t (pc := 2) (tgt := 23) dX9_isUnknownTarget_2 (by decide) (by decide) ?_
  refine go_iconst (pc := 23) (v := 0) dX9_isUnknownTarget_23 (by decide) ?_
  exact go_zret (pc := 24) rfl rfl dX9_isUnknownTarget_24
set_option maxRecDepth 100000 in
set_option maxHeartbeats 4000000 in
theorem cX0_isGoneTarget_1 {l : Launch} {G : gG} : Ct l G mX0_isGoneTarget 0 0 [.ref (G.2.1 + 27), .int ((-1))] 42 90324 (wl G.2.1 (LF G)) (some (.int 0), 42, 90324, (wl G.2.1 (LF G))) := by
  refine Ct.of (by decide) (Nat.le_of_ble_eq_true rfl) ⟨Nat.le_refl _, Nat.le_refl _⟩ ?_
  show Go l G mX0_isGoneTarget _ 0 [(0, .ref (G.2.1 + 27)), (1, .int ((-1)))] [] 42 90324 (wl G.2.1 (LF G))
  refine go_iload_n (pc := 0) dX0_isGoneTarget_0 rfl rfl ?_
  refine go_iconst (pc := 1) (v := (-1)) dX0_isGoneTarget_1 (by decide) ?_
  refine go_icmp_eq_t (pc := 2) (tgt := 20) dX0_isGoneTarget_2 (by decide) (by decide) ?_
  refine go_iconst (pc := 20) (v := 0) dX0_isGoneTarget_20 (by decide) ?_
  exact go_zret (pc := 21) rfl rfl dX0_isGoneTarget_21
set_option maxRecDepth 100000 in
set_option maxHeartbeats 4000000 in
theorem cX0_setRoot_2 {l : Launch} {G : gG} (x1 : Int32) (c0 : ¬ x1 < 0) (c1 : ¬ 24 ≤ x1) : Ct l G mX0_setRoot 2 45 [.ref (G.2.1 + 27), .int x1, .int ((-1))] 42 90324 (wl G.2.1 (LF G)) (some (.int ((-1))), 42, 90324, (wl G.2.1 [ob 9 [.ref (G.2.1 + 1), .ref (G.2.1 + 23), .ref (G.2.1 + 27), .ref (G.2.1 + 28), .ref (G.2.1 + 22), .int 0, .int 0, .null, .int 0, .null, .int 0], ob 6 [.ref (G.2.1 + 2), .ref (G.2.1 + 6), .ref (G.2.1 + 12), .ref (G.2.1 + 14), .ref (G.2.1 + 17), .ref (G.2.1 + 20), .ref (G.2.1 + 21)], ob 2 [.int 256, .int 0, .int 0, .int 0, .ref (G.2.1 + 3), .ref (G.2.1 + 4), .ref (G.2.1 + 5)], ai G 256 (fun _ => 0), ai G 500 (fun _ => (-1)), ai G 500 (fun _ => 0), ob 3 [.int 0, .int 0, .int 0, .int 0, .ref (G.2.1 + 7), .ref (G.2.1 + 8), .ref (G.2.1 + 9), .ref (G.2.1 + 10), .ref (G.2.1 + 11)], ai G 500 (fun _ => 0), ai G 500 (fun _ => 0), ai G 500 (fun _ => 0), ai G 500 (fun _ => 0), ai G 500 (fun _ => 0), ob 8 [.int 0, .int 0, .int 0, .int 0, .int 0, .int 0, .ref (G.2.1 + 13)], ai G 300 (fun _ => 0), ob 4 [.int 0, .ref (G.2.1 + 15), .ref (G.2.1 + 16)], ai G 1295 (fun _ => 0), ai G 1295 (fun _ => 0), ob 5 [.int 0, .int 0, .int 0, .int 0, .ref (G.2.1 + 18), .ref (G.2.1 + 19)], ai G 200 (fun _ => 0), ai G 8 (fun _ => (-1)), ai G 24 (upd (fun _ => (-1)) x1.toNatClampNeg ((-1))), ai G 32 (fun _ => (-1)), ai G 14 (fun _ => 0), ob 7 [.ref (G.2.1 + 1), .ref (G.2.1 + 2), .ref (G.2.1 + 6), .ref (G.2.1 + 22), .ref (G.2.1 + 24), .int 0, .ref (G.2.1 + 25), .ref (G.2.1 + 26), .int 0], ai G 500 (fun _ => 0), ai G 500 (fun _ => 0), ai G 500 (fun _ => 0), ob 0 [.ref (G.2.1 + 1), .ref (G.2.1 + 2), .ref (G.2.1 + 23), .int 0], ob 1 [.ref (G.2.1 + 29), .int 0, .int 0, .ref (G.2.1 + 30), .ref (G.2.1 + 31)], ai G 0 (fun _ => 0), ai G 500 (fun _ => 0), ai G 501 (fun _ => 0), ob 10 [.ref (G.2.1 + 33), .ref (G.2.1 + 34), .ref (G.2.1 + 35), .int 0, .int 0, .int 0, .int 0, .int 0, .ref (G.2.1 + 36), .ref (G.2.1 + 37), .ref (G.2.1 + 38), .ref (G.2.1 + 39), .int 0, .ref (G.2.1 + 40), .int 0, .ref (G.2.1 + 41)], ai G 26100 (sx 256), ai G 26100 (fun _ => 0), ai G 26100 (fun _ => 0), ai G 14 (fun _ => 0), ai G 500 (fun _ => 0), ai G 500 (fun _ => 0), az G 500 (fun _ => 0), ai G 501 (fun _ => 0), ai G 500 (fun _ => 0)])) := by
  refine Ct.of (by decide) (Nat.le_of_ble_eq_true rfl) ⟨Nat.le_refl _, Nat.le_refl _⟩ ?_
  show Go l G mX0_setRoot _ 0 [(0, .ref (G.2.1 + 27)), (1, .int x1), (2, .int ((-1)))] [] 42 90324 (wl G.2.1 (LF G))
  refine go_aload_n (pc := 0) dX0_setRoot_0 rfl rfl ?_
  refine go_iload_n (pc := 1) dX0_setRoot_1 rfl rfl ?_
  refine go_callV_i (pc := 2) vX0_73 rfl (cX0_isGoneTarget_1) rfl rfl (gz_b (by decide)) (wl_at (i := 27) rfl) rfl (Nat.le_of_ble_eq_true rfl) ⟨Nat.le_of_ble_eq_true rfl, Nat.le_of_ble_eq_true rfl, (Nat.le_add_right _ _), (Nat.le_add_right _ _)⟩ dX0_setRoot_2 ?_
  refine go_if_eq_t (pc := 5) (tgt := 11) dX0_setRoot_5 (by decide) (by decide) ?_
  refine go_aload_n (pc := 11) dX0_setRoot_11 rfl rfl ?_
  refine go_get (pc := 12) fX0_9 rfl (gz_b (by decide)) (wl_at (i := 27) rfl) rfl dX0_setRoot_12 ?_
  refine go_get (pc := 15) fX0_105 rfl (gz_b (by decide)) (wl_at (i := 1) rfl) rfl dX0_setRoot_15 ?_
  refine go_iload_n (pc := 18) dX0_setRoot_18 rfl rfl ?_
  refine go_iald (pc := 19) (gz_b (by decide)) (wl_at (i := 20) rfl) (gv_rng c0 c1 (by decide)) dX0_setRoot_19 ?_
  refine go_top (y := (-1)) rfl ?_
  refine go_istore_n (pc := 20) (lv' := [(3, .int ((-1))), (0, .ref (G.2.1 + 27)), (1, .int x1), (2, .int ((-1)))]) dX0_setRoot_20 rfl (by decide) rfl ?_
  refine go_aload_n (pc := 21) dX0_setRoot_21 rfl rfl ?_
  refine go_get (pc := 22) fX0_9 rfl (gz_b (by decide)) (wl_at (i := 27) rfl) rfl dX0_setRoot_22 ?_
  refine go_get (pc := 25) fX0_105 rfl (gz_b (by decide)) (wl_at (i := 1) rfl) rfl dX0_setRoot_25 ?_
  refine go_iload_n (pc := 28) dX0_setRoot_28 rfl rfl ?_
  refine go_iload_n (pc := 29) dX0_setRoot_29 rfl rfl ?_
  refine go_iast (pc := 30) (gz_b (by decide)) (wl_at (i := 20) rfl) (gv_rng c0 c1 (by decide)) dX0_setRoot_30 ?_
  refine go_ext (wl_up (i := 20) rfl rfl) ?_
  refine go_aload_n (pc := 31) dX0_setRoot_31 rfl rfl ?_
  refine go_get (pc := 32) fX0_22 rfl (gz_b (by decide)) (wl_at (i := 27) rfl) rfl dX0_setRoot_32 ?_
  refine go_iload_n (pc := 35) dX0_setRoot_35 rfl rfl ?_
  refine go_iconst (pc := 36) (v := 3) dX0_setRoot_36 (by decide) ?_
  refine go_iconst (pc := 37) (v := (-1)) dX0_setRoot_37 (by decide) ?_
  refine go_iload_n (pc := 38) dX0_setRoot_38 rfl rfl ?_
  refine go_callV_v (pc := 39) vX0_58 rfl (ct_mark_0 (a := G.2.1 + 23) (a0 := G.2.1 + 1) (a1 := G.2.1 + 2) (a2 := G.2.1 + 6) (a3 := G.2.1 + 22) (a4 := G.2.1 + 24) (a6 := G.2.1 + 25) (a7 := G.2.1 + 26) (g5 := 0) (g8 := 0) (u1 := 0) (u2 := 0) (u3 := 0) (p4 := G.2.1 + 7) (p5 := G.2.1 + 8) (p6 := G.2.1 + 9) (p7 := G.2.1 + 10) (p8 := G.2.1 + 11) (gz_b (by decide)) (gz_b (by decide)) (wl_at (i := 23) rfl) (wl_at (i := 6) rfl)) rfl rfl (gz_b (by decide)) (wl_at (i := 23) rfl) rfl (Nat.le_of_ble_eq_true rfl) ⟨Nat.le_of_ble_eq_true rfl, Nat.le_of_ble_eq_true rfl, (Nat.le_add_right _ _), (Nat.le_add_right _ _)⟩ dX0_setRoot_39 ?_
  refine go_iload_n (pc := 42) dX0_setRoot_42 rfl rfl ?_
  refine go_w (show _ = wl G.2.1 [ob 9 [.ref (G.2.1 + 1), .ref (G.2.1 + 23), .ref (G.2.1 + 27), .ref (G.2.1 + 28), .ref (G.2.1 + 22), .int 0, .int 0, .null, .int 0, .null, .int 0], ob 6 [.ref (G.2.1 + 2), .ref (G.2.1 + 6), .ref (G.2.1 + 12), .ref (G.2.1 + 14), .ref (G.2.1 + 17), .ref (G.2.1 + 20), .ref (G.2.1 + 21)], ob 2 [.int 256, .int 0, .int 0, .int 0, .ref (G.2.1 + 3), .ref (G.2.1 + 4), .ref (G.2.1 + 5)], ai G 256 (fun _ => 0), ai G 500 (fun _ => (-1)), ai G 500 (fun _ => 0), ob 3 [.int 0, .int 0, .int 0, .int 0, .ref (G.2.1 + 7), .ref (G.2.1 + 8), .ref (G.2.1 + 9), .ref (G.2.1 + 10), .ref (G.2.1 + 11)], ai G 500 (fun _ => 0), ai G 500 (fun _ => 0), ai G 500 (fun _ => 0), ai G 500 (fun _ => 0), ai G 500 (fun _ => 0), ob 8 [.int 0, .int 0, .int 0, .int 0, .int 0, .int 0, .ref (G.2.1 + 13)], ai G 300 (fun _ => 0), ob 4 [.int 0, .ref (G.2.1 + 15), .ref (G.2.1 + 16)], ai G 1295 (fun _ => 0), ai G 1295 (fun _ => 0), ob 5 [.int 0, .int 0, .int 0, .int 0, .ref (G.2.1 + 18), .ref (G.2.1 + 19)], ai G 200 (fun _ => 0), ai G 8 (fun _ => (-1)), ai G 24 (upd (fun _ => (-1)) x1.toNatClampNeg ((-1))), ai G 32 (fun _ => (-1)), ai G 14 (fun _ => 0), ob 7 [.ref (G.2.1 + 1), .ref (G.2.1 + 2), .ref (G.2.1 + 6), .ref (G.2.1 + 22), .ref (G.2.1 + 24), .int 0, .ref (G.2.1 + 25), .ref (G.2.1 + 26), .int 0], ai G 500 (fun _ => 0), ai G 500 (fun _ => 0), ai G 500 (fun _ => 0), ob 0 [.ref (G.2.1 + 1), .ref (G.2.1 + 2), .ref (G.2.1 + 23), .int 0], ob 1 [.ref (G.2.1 + 29), .int 0, .int 0, .ref (G.2.1 + 30), .ref (G.2.1 + 31)], ai G 0 (fun _ => 0), ai G 500 (fun _ => 0), ai G 501 (fun _ => 0), ob 10 [.ref (G.2.1 + 33), .ref (G.2.1 + 34), .ref (G.2.1 + 35), .int 0, .int 0, .int 0, .int 0, .int 0, .ref (G.2.1 + 36), .ref (G.2.1 + 37), .ref (G.2.1 + 38), .ref (G.2.1 + 39), .int 0, .ref (G.2.1 + 40), .int 0, .ref (G.2.1 + 41)], ai G 26100 (sx 256), ai G 26100 (fun _ => 0), ai G 26100 (fun _ => 0), ai G 14 (fun _ => 0), ai G 500 (fun _ => 0), ai G 500 (fun _ => 0), az G 500 (fun _ => 0), ai G 501 (fun _ => 0), ai G 500 (fun _ => 0)] from rfl) ?_
  exact go_iret (pc := 43) rfl dX0_setRoot_43
set_option maxRecDepth 100000 in
set_option maxHeartbeats 4000000 in
theorem cX9_findingIn_3 {l : Launch} {G : gG} (x1 : Int32) : Ct l G mX9_findingIn 0 0 [.int ((-1))] 42 90324 (wl G.2.1 [ob 9 [.ref (G.2.1 + 1), .ref (G.2.1 + 23), .ref (G.2.1 + 27), .ref (G.2.1 + 28), .ref (G.2.1 + 22), .int 0, .int 0, .null, .int 0, .null, .int 0], ob 6 [.ref (G.2.1 + 2), .ref (G.2.1 + 6), .ref (G.2.1 + 12), .ref (G.2.1 + 14), .ref (G.2.1 + 17), .ref (G.2.1 + 20), .ref (G.2.1 + 21)], ob 2 [.int 256, .int 0, .int 0, .int 0, .ref (G.2.1 + 3), .ref (G.2.1 + 4), .ref (G.2.1 + 5)], ai G 256 (fun _ => 0), ai G 500 (fun _ => (-1)), ai G 500 (fun _ => 0), ob 3 [.int 0, .int 0, .int 0, .int 0, .ref (G.2.1 + 7), .ref (G.2.1 + 8), .ref (G.2.1 + 9), .ref (G.2.1 + 10), .ref (G.2.1 + 11)], ai G 500 (fun _ => 0), ai G 500 (fun _ => 0), ai G 500 (fun _ => 0), ai G 500 (fun _ => 0), ai G 500 (fun _ => 0), ob 8 [.int 0, .int 0, .int 0, .int 0, .int 0, .int 0, .ref (G.2.1 + 13)], ai G 300 (fun _ => 0), ob 4 [.int 0, .ref (G.2.1 + 15), .ref (G.2.1 + 16)], ai G 1295 (fun _ => 0), ai G 1295 (fun _ => 0), ob 5 [.int 0, .int 0, .int 0, .int 0, .ref (G.2.1 + 18), .ref (G.2.1 + 19)], ai G 200 (fun _ => 0), ai G 8 (fun _ => (-1)), ai G 24 (upd (fun _ => (-1)) x1.toNatClampNeg ((-1))), ai G 32 (fun _ => (-1)), ai G 14 (fun _ => 0), ob 7 [.ref (G.2.1 + 1), .ref (G.2.1 + 2), .ref (G.2.1 + 6), .ref (G.2.1 + 22), .ref (G.2.1 + 24), .int 0, .ref (G.2.1 + 25), .ref (G.2.1 + 26), .int 0], ai G 500 (fun _ => 0), ai G 500 (fun _ => 0), ai G 500 (fun _ => 0), ob 0 [.ref (G.2.1 + 1), .ref (G.2.1 + 2), .ref (G.2.1 + 23), .int 0], ob 1 [.ref (G.2.1 + 29), .int 0, .int 0, .ref (G.2.1 + 30), .ref (G.2.1 + 31)], ai G 0 (fun _ => 0), ai G 500 (fun _ => 0), ai G 501 (fun _ => 0), ob 10 [.ref (G.2.1 + 33), .ref (G.2.1 + 34), .ref (G.2.1 + 35), .int 0, .int 0, .int 0, .int 0, .int 0, .ref (G.2.1 + 36), .ref (G.2.1 + 37), .ref (G.2.1 + 38), .ref (G.2.1 + 39), .int 0, .ref (G.2.1 + 40), .int 0, .ref (G.2.1 + 41)], ai G 26100 (sx 256), ai G 26100 (fun _ => 0), ai G 26100 (fun _ => 0), ai G 14 (fun _ => 0), ai G 500 (fun _ => 0), ai G 500 (fun _ => 0), az G 500 (fun _ => 0), ai G 501 (fun _ => 0), ai G 500 (fun _ => 0)]) (some (.int 0), 42, 90324, (wl G.2.1 [ob 9 [.ref (G.2.1 + 1), .ref (G.2.1 + 23), .ref (G.2.1 + 27), .ref (G.2.1 + 28), .ref (G.2.1 + 22), .int 0, .int 0, .null, .int 0, .null, .int 0], ob 6 [.ref (G.2.1 + 2), .ref (G.2.1 + 6), .ref (G.2.1 + 12), .ref (G.2.1 + 14), .ref (G.2.1 + 17), .ref (G.2.1 + 20), .ref (G.2.1 + 21)], ob 2 [.int 256, .int 0, .int 0, .int 0, .ref (G.2.1 + 3), .ref (G.2.1 + 4), .ref (G.2.1 + 5)], ai G 256 (fun _ => 0), ai G 500 (fun _ => (-1)), ai G 500 (fun _ => 0), ob 3 [.int 0, .int 0, .int 0, .int 0, .ref (G.2.1 + 7), .ref (G.2.1 + 8), .ref (G.2.1 + 9), .ref (G.2.1 + 10), .ref (G.2.1 + 11)], ai G 500 (fun _ => 0), ai G 500 (fun _ => 0), ai G 500 (fun _ => 0), ai G 500 (fun _ => 0), ai G 500 (fun _ => 0), ob 8 [.int 0, .int 0, .int 0, .int 0, .int 0, .int 0, .ref (G.2.1 + 13)], ai G 300 (fun _ => 0), ob 4 [.int 0, .ref (G.2.1 + 15), .ref (G.2.1 + 16)], ai G 1295 (fun _ => 0), ai G 1295 (fun _ => 0), ob 5 [.int 0, .int 0, .int 0, .int 0, .ref (G.2.1 + 18), .ref (G.2.1 + 19)], ai G 200 (fun _ => 0), ai G 8 (fun _ => (-1)), ai G 24 (upd (fun _ => (-1)) x1.toNatClampNeg ((-1))), ai G 32 (fun _ => (-1)), ai G 14 (fun _ => 0), ob 7 [.ref (G.2.1 + 1), .ref (G.2.1 + 2), .ref (G.2.1 + 6), .ref (G.2.1 + 22), .ref (G.2.1 + 24), .int 0, .ref (G.2.1 + 25), .ref (G.2.1 + 26), .int 0], ai G 500 (fun _ => 0), ai G 500 (fun _ => 0), ai G 500 (fun _ => 0), ob 0 [.ref (G.2.1 + 1), .ref (G.2.1 + 2), .ref (G.2.1 + 23), .int 0], ob 1 [.ref (G.2.1 + 29), .int 0, .int 0, .ref (G.2.1 + 30), .ref (G.2.1 + 31)], ai G 0 (fun _ => 0), ai G 500 (fun _ => 0), ai G 501 (fun _ => 0), ob 10 [.ref (G.2.1 + 33), .ref (G.2.1 + 34), .ref (G.2.1 + 35), .int 0, .int 0, .int 0, .int 0, .int 0, .ref (G.2.1 + 36), .ref (G.2.1 + 37), .ref (G.2.1 + 38), .ref (G.2.1 + 39), .int 0, .ref (G.2.1 + 40), .int 0, .ref (G.2.1 + 41)], ai G 26100 (sx 256), ai G 26100 (fun _ => 0), ai G 26100 (fun _ => 0), ai G 14 (fun _ => 0), ai G 500 (fun _ => 0), ai G 500 (fun _ => 0), az G 500 (fun _ => 0), ai G 501 (fun _ => 0), ai G 500 (fun _ => 0)])) := by
  refine Ct.of (by decide) (Nat.le_of_ble_eq_true rfl) ⟨Nat.le_refl _, Nat.le_refl _⟩ ?_
  show Go l G mX9_findingIn _ 0 [(0, .int ((-1)))] [] 42 90324 (wl G.2.1 [ob 9 [.ref (G.2.1 + 1), .ref (G.2.1 + 23), .ref (G.2.1 + 27), .ref (G.2.1 + 28), .ref (G.2.1 + 22), .int 0, .int 0, .null, .int 0, .null, .int 0], ob 6 [.ref (G.2.1 + 2), .ref (G.2.1 + 6), .ref (G.2.1 + 12), .ref (G.2.1 + 14), .ref (G.2.1 + 17), .ref (G.2.1 + 20), .ref (G.2.1 + 21)], ob 2 [.int 256, .int 0, .int 0, .int 0, .ref (G.2.1 + 3), .ref (G.2.1 + 4), .ref (G.2.1 + 5)], ai G 256 (fun _ => 0), ai G 500 (fun _ => (-1)), ai G 500 (fun _ => 0), ob 3 [.int 0, .int 0, .int 0, .int 0, .ref (G.2.1 + 7), .ref (G.2.1 + 8), .ref (G.2.1 + 9), .ref (G.2.1 + 10), .ref (G.2.1 + 11)], ai G 500 (fun _ => 0), ai G 500 (fun _ => 0), ai G 500 (fun _ => 0), ai G 500 (fun _ => 0), ai G 500 (fun _ => 0), ob 8 [.int 0, .int 0, .int 0, .int 0, .int 0, .int 0, .ref (G.2.1 + 13)], ai G 300 (fun _ => 0), ob 4 [.int 0, .ref (G.2.1 + 15), .ref (G.2.1 + 16)], ai G 1295 (fun _ => 0), ai G 1295 (fun _ => 0), ob 5 [.int 0, .int 0, .int 0, .int 0, .ref (G.2.1 + 18), .ref (G.2.1 + 19)], ai G 200 (fun _ => 0), ai G 8 (fun _ => (-1)), ai G 24 (upd (fun _ => (-1)) x1.toNatClampNeg ((-1))), ai G 32 (fun _ => (-1)), ai G 14 (fun _ => 0), ob 7 [.ref (G.2.1 + 1), .ref (G.2.1 + 2), .ref (G.2.1 + 6), .ref (G.2.1 + 22), .ref (G.2.1 + 24), .int 0, .ref (G.2.1 + 25), .ref (G.2.1 + 26), .int 0], ai G 500 (fun _ => 0), ai G 500 (fun _ => 0), ai G 500 (fun _ => 0), ob 0 [.ref (G.2.1 + 1), .ref (G.2.1 + 2), .ref (G.2.1 + 23), .int 0], ob 1 [.ref (G.2.1 + 29), .int 0, .int 0, .ref (G.2.1 + 30), .ref (G.2.1 + 31)], ai G 0 (fun _ => 0), ai G 500 (fun _ => 0), ai G 501 (fun _ => 0), ob 10 [.ref (G.2.1 + 33), .ref (G.2.1 + 34), .ref (G.2.1 + 35), .int 0, .int 0, .int 0, .int 0, .int 0, .ref (G.2.1 + 36), .ref (G.2.1 + 37), .ref (G.2.1 + 38), .ref (G.2.1 + 39), .int 0, .ref (G.2.1 + 40), .int 0, .ref (G.2.1 + 41)], ai G 26100 (sx 256), ai G 26100 (fun _ => 0), ai G 26100 (fun _ => 0), ai G 14 (fun _ => 0), ai G 500 (fun _ => 0), ai G 500 (fun _ => 0), az G 500 (fun _ => 0), ai G 501 (fun _ => 0), ai G 500 (fun _ => 0)])
  refine go_iload_n (pc := 0) dX9_findingIn_0 rfl rfl ?_
  refine go_bipush (pc := 1) (v := (-11)) dX9_findingIn_1 (by decide) ?_
  refine go_icmp_gt_t (pc := 3) (tgt := 19) dX9_findingIn_3 (by decide) (by decide) ?_
  refine go_iconst (pc := 19) (v := 0) dX9_findingIn_19 (by decide) ?_
  exact go_iret (pc := 20) rfl dX9_findingIn_20
set_option maxRecDepth 100000 in
set_option maxHeartbeats 4000000 in
theorem cX9_answer_3 {l : Launch} {G : gG} (x1 : Int32) : Ct l G mX9_answer 1 20 [.ref (G.2.1 + 0), .int ((-1))] 42 90324 (wl G.2.1 [ob 9 [.ref (G.2.1 + 1), .ref (G.2.1 + 23), .ref (G.2.1 + 27), .ref (G.2.1 + 28), .ref (G.2.1 + 22), .int 0, .int 0, .null, .int 0, .null, .int 0], ob 6 [.ref (G.2.1 + 2), .ref (G.2.1 + 6), .ref (G.2.1 + 12), .ref (G.2.1 + 14), .ref (G.2.1 + 17), .ref (G.2.1 + 20), .ref (G.2.1 + 21)], ob 2 [.int 256, .int 0, .int 0, .int 0, .ref (G.2.1 + 3), .ref (G.2.1 + 4), .ref (G.2.1 + 5)], ai G 256 (fun _ => 0), ai G 500 (fun _ => (-1)), ai G 500 (fun _ => 0), ob 3 [.int 0, .int 0, .int 0, .int 0, .ref (G.2.1 + 7), .ref (G.2.1 + 8), .ref (G.2.1 + 9), .ref (G.2.1 + 10), .ref (G.2.1 + 11)], ai G 500 (fun _ => 0), ai G 500 (fun _ => 0), ai G 500 (fun _ => 0), ai G 500 (fun _ => 0), ai G 500 (fun _ => 0), ob 8 [.int 0, .int 0, .int 0, .int 0, .int 0, .int 0, .ref (G.2.1 + 13)], ai G 300 (fun _ => 0), ob 4 [.int 0, .ref (G.2.1 + 15), .ref (G.2.1 + 16)], ai G 1295 (fun _ => 0), ai G 1295 (fun _ => 0), ob 5 [.int 0, .int 0, .int 0, .int 0, .ref (G.2.1 + 18), .ref (G.2.1 + 19)], ai G 200 (fun _ => 0), ai G 8 (fun _ => (-1)), ai G 24 (upd (fun _ => (-1)) x1.toNatClampNeg ((-1))), ai G 32 (fun _ => (-1)), ai G 14 (fun _ => 0), ob 7 [.ref (G.2.1 + 1), .ref (G.2.1 + 2), .ref (G.2.1 + 6), .ref (G.2.1 + 22), .ref (G.2.1 + 24), .int 0, .ref (G.2.1 + 25), .ref (G.2.1 + 26), .int 0], ai G 500 (fun _ => 0), ai G 500 (fun _ => 0), ai G 500 (fun _ => 0), ob 0 [.ref (G.2.1 + 1), .ref (G.2.1 + 2), .ref (G.2.1 + 23), .int 0], ob 1 [.ref (G.2.1 + 29), .int 0, .int 0, .ref (G.2.1 + 30), .ref (G.2.1 + 31)], ai G 0 (fun _ => 0), ai G 500 (fun _ => 0), ai G 501 (fun _ => 0), ob 10 [.ref (G.2.1 + 33), .ref (G.2.1 + 34), .ref (G.2.1 + 35), .int 0, .int 0, .int 0, .int 0, .int 0, .ref (G.2.1 + 36), .ref (G.2.1 + 37), .ref (G.2.1 + 38), .ref (G.2.1 + 39), .int 0, .ref (G.2.1 + 40), .int 0, .ref (G.2.1 + 41)], ai G 26100 (sx 256), ai G 26100 (fun _ => 0), ai G 26100 (fun _ => 0), ai G 14 (fun _ => 0), ai G 500 (fun _ => 0), ai G 500 (fun _ => 0), az G 500 (fun _ => 0), ai G 501 (fun _ => 0), ai G 500 (fun _ => 0)]) (some (.int ((-1))), 42, 90324, (wl G.2.1 [ob 9 [.ref (G.2.1 + 1), .ref (G.2.1 + 23), .ref (G.2.1 + 27), .ref (G.2.1 + 28), .ref (G.2.1 + 22), .int 0, .int 0, .null, .int 0, .null, .int 0], ob 6 [.ref (G.2.1 + 2), .ref (G.2.1 + 6), .ref (G.2.1 + 12), .ref (G.2.1 + 14), .ref (G.2.1 + 17), .ref (G.2.1 + 20), .ref (G.2.1 + 21)], ob 2 [.int 256, .int 0, .int 0, .int 0, .ref (G.2.1 + 3), .ref (G.2.1 + 4), .ref (G.2.1 + 5)], ai G 256 (fun _ => 0), ai G 500 (fun _ => (-1)), ai G 500 (fun _ => 0), ob 3 [.int 0, .int 0, .int 0, .int 0, .ref (G.2.1 + 7), .ref (G.2.1 + 8), .ref (G.2.1 + 9), .ref (G.2.1 + 10), .ref (G.2.1 + 11)], ai G 500 (fun _ => 0), ai G 500 (fun _ => 0), ai G 500 (fun _ => 0), ai G 500 (fun _ => 0), ai G 500 (fun _ => 0), ob 8 [.int 0, .int 0, .int 0, .int 0, .int 0, .int 0, .ref (G.2.1 + 13)], ai G 300 (fun _ => 0), ob 4 [.int 0, .ref (G.2.1 + 15), .ref (G.2.1 + 16)], ai G 1295 (fun _ => 0), ai G 1295 (fun _ => 0), ob 5 [.int 0, .int 0, .int 0, .int 0, .ref (G.2.1 + 18), .ref (G.2.1 + 19)], ai G 200 (fun _ => 0), ai G 8 (fun _ => (-1)), ai G 24 (upd (fun _ => (-1)) x1.toNatClampNeg ((-1))), ai G 32 (fun _ => (-1)), ai G 14 (fun _ => 0), ob 7 [.ref (G.2.1 + 1), .ref (G.2.1 + 2), .ref (G.2.1 + 6), .ref (G.2.1 + 22), .ref (G.2.1 + 24), .int 0, .ref (G.2.1 + 25), .ref (G.2.1 + 26), .int 0], ai G 500 (fun _ => 0), ai G 500 (fun _ => 0), ai G 500 (fun _ => 0), ob 0 [.ref (G.2.1 + 1), .ref (G.2.1 + 2), .ref (G.2.1 + 23), .int 0], ob 1 [.ref (G.2.1 + 29), .int 0, .int 0, .ref (G.2.1 + 30), .ref (G.2.1 + 31)], ai G 0 (fun _ => 0), ai G 500 (fun _ => 0), ai G 501 (fun _ => 0), ob 10 [.ref (G.2.1 + 33), .ref (G.2.1 + 34), .ref (G.2.1 + 35), .int 0, .int 0, .int 0, .int 0, .int 0, .ref (G.2.1 + 36), .ref (G.2.1 + 37), .ref (G.2.1 + 38), .ref (G.2.1 + 39), .int 0, .ref (G.2.1 + 40), .int 0, .ref (G.2.1 + 41)], ai G 26100 (sx 256), ai G 26100 (fun _ => 0), ai G 26100 (fun _ => 0), ai G 14 (fun _ => 0), ai G 500 (fun _ => 0), ai G 500 (fun _ => 0), az G 500 (fun _ => 0), ai G 501 (fun _ => 0), ai G 500 (fun _ => 0)])) := by
  refine Ct.of (by decide) (Nat.le_of_ble_eq_true rfl) ⟨Nat.le_refl _, Nat.le_refl _⟩ ?_
  show Go l G mX9_answer _ 0 [(0, .ref (G.2.1 + 0)), (1, .int ((-1)))] [] 42 90324 (wl G.2.1 [ob 9 [.ref (G.2.1 + 1), .ref (G.2.1 + 23), .ref (G.2.1 + 27), .ref (G.2.1 + 28), .ref (G.2.1 + 22), .int 0, .int 0, .null, .int 0, .null, .int 0], ob 6 [.ref (G.2.1 + 2), .ref (G.2.1 + 6), .ref (G.2.1 + 12), .ref (G.2.1 + 14), .ref (G.2.1 + 17), .ref (G.2.1 + 20), .ref (G.2.1 + 21)], ob 2 [.int 256, .int 0, .int 0, .int 0, .ref (G.2.1 + 3), .ref (G.2.1 + 4), .ref (G.2.1 + 5)], ai G 256 (fun _ => 0), ai G 500 (fun _ => (-1)), ai G 500 (fun _ => 0), ob 3 [.int 0, .int 0, .int 0, .int 0, .ref (G.2.1 + 7), .ref (G.2.1 + 8), .ref (G.2.1 + 9), .ref (G.2.1 + 10), .ref (G.2.1 + 11)], ai G 500 (fun _ => 0), ai G 500 (fun _ => 0), ai G 500 (fun _ => 0), ai G 500 (fun _ => 0), ai G 500 (fun _ => 0), ob 8 [.int 0, .int 0, .int 0, .int 0, .int 0, .int 0, .ref (G.2.1 + 13)], ai G 300 (fun _ => 0), ob 4 [.int 0, .ref (G.2.1 + 15), .ref (G.2.1 + 16)], ai G 1295 (fun _ => 0), ai G 1295 (fun _ => 0), ob 5 [.int 0, .int 0, .int 0, .int 0, .ref (G.2.1 + 18), .ref (G.2.1 + 19)], ai G 200 (fun _ => 0), ai G 8 (fun _ => (-1)), ai G 24 (upd (fun _ => (-1)) x1.toNatClampNeg ((-1))), ai G 32 (fun _ => (-1)), ai G 14 (fun _ => 0), ob 7 [.ref (G.2.1 + 1), .ref (G.2.1 + 2), .ref (G.2.1 + 6), .ref (G.2.1 + 22), .ref (G.2.1 + 24), .int 0, .ref (G.2.1 + 25), .ref (G.2.1 + 26), .int 0], ai G 500 (fun _ => 0), ai G 500 (fun _ => 0), ai G 500 (fun _ => 0), ob 0 [.ref (G.2.1 + 1), .ref (G.2.1 + 2), .ref (G.2.1 + 23), .int 0], ob 1 [.ref (G.2.1 + 29), .int 0, .int 0, .ref (G.2.1 + 30), .ref (G.2.1 + 31)], ai G 0 (fun _ => 0), ai G 500 (fun _ => 0), ai G 501 (fun _ => 0), ob 10 [.ref (G.2.1 + 33), .ref (G.2.1 + 34), .ref (G.2.1 + 35), .int 0, .int 0, .int 0, .int 0, .int 0, .ref (G.2.1 + 36), .ref (G.2.1 + 37), .ref (G.2.1 + 38), .ref (G.2.1 + 39), .int 0, .ref (G.2.1 + 40), .int 0, .ref (G.2.1 + 41)], ai G 26100 (sx 256), ai G 26100 (fun _ => 0), ai G 26100 (fun _ => 0), ai G 14 (fun _ => 0), ai G 500 (fun _ => 0), ai G 500 (fun _ => 0), az G 500 (fun _ => 0), ai G 501 (fun _ => 0), ai G 500 (fun _ => 0)])
  refine go_aload_n (pc := 0) dX9_answer_0 rfl rfl ?_
  refine go_iload_n (pc := 1) dX9_answer_1 rfl rfl ?_
  refine go_callS_i (pc := 2) sX9_302 rfl (cX9_findingIn_3 x1) rfl rfl (Nat.le_of_ble_eq_true rfl) ⟨Nat.le_of_ble_eq_true rfl, Nat.le_of_ble_eq_true rfl, (Nat.le_add_right _ _), (Nat.le_add_right _ _)⟩ dX9_answer_2 ?_
  refine go_put (pc := 5) fX9_53 rfl (gz_b (by decide)) (wl_at (i := 0) rfl) (Nat.le_of_ble_eq_true rfl) rfl rfl dX9_answer_5 ?_
  refine go_ext (wl_up (i := 0) rfl rfl) ?_
  refine go_iload_n (pc := 8) dX9_answer_8 rfl rfl ?_
  refine go_w (show _ = wl G.2.1 [ob 9 [.ref (G.2.1 + 1), .ref (G.2.1 + 23), .ref (G.2.1 + 27), .ref (G.2.1 + 28), .ref (G.2.1 + 22), .int 0, .int 0, .null, .int 0, .null, .int 0], ob 6 [.ref (G.2.1 + 2), .ref (G.2.1 + 6), .ref (G.2.1 + 12), .ref (G.2.1 + 14), .ref (G.2.1 + 17), .ref (G.2.1 + 20), .ref (G.2.1 + 21)], ob 2 [.int 256, .int 0, .int 0, .int 0, .ref (G.2.1 + 3), .ref (G.2.1 + 4), .ref (G.2.1 + 5)], ai G 256 (fun _ => 0), ai G 500 (fun _ => (-1)), ai G 500 (fun _ => 0), ob 3 [.int 0, .int 0, .int 0, .int 0, .ref (G.2.1 + 7), .ref (G.2.1 + 8), .ref (G.2.1 + 9), .ref (G.2.1 + 10), .ref (G.2.1 + 11)], ai G 500 (fun _ => 0), ai G 500 (fun _ => 0), ai G 500 (fun _ => 0), ai G 500 (fun _ => 0), ai G 500 (fun _ => 0), ob 8 [.int 0, .int 0, .int 0, .int 0, .int 0, .int 0, .ref (G.2.1 + 13)], ai G 300 (fun _ => 0), ob 4 [.int 0, .ref (G.2.1 + 15), .ref (G.2.1 + 16)], ai G 1295 (fun _ => 0), ai G 1295 (fun _ => 0), ob 5 [.int 0, .int 0, .int 0, .int 0, .ref (G.2.1 + 18), .ref (G.2.1 + 19)], ai G 200 (fun _ => 0), ai G 8 (fun _ => (-1)), ai G 24 (upd (fun _ => (-1)) x1.toNatClampNeg ((-1))), ai G 32 (fun _ => (-1)), ai G 14 (fun _ => 0), ob 7 [.ref (G.2.1 + 1), .ref (G.2.1 + 2), .ref (G.2.1 + 6), .ref (G.2.1 + 22), .ref (G.2.1 + 24), .int 0, .ref (G.2.1 + 25), .ref (G.2.1 + 26), .int 0], ai G 500 (fun _ => 0), ai G 500 (fun _ => 0), ai G 500 (fun _ => 0), ob 0 [.ref (G.2.1 + 1), .ref (G.2.1 + 2), .ref (G.2.1 + 23), .int 0], ob 1 [.ref (G.2.1 + 29), .int 0, .int 0, .ref (G.2.1 + 30), .ref (G.2.1 + 31)], ai G 0 (fun _ => 0), ai G 500 (fun _ => 0), ai G 501 (fun _ => 0), ob 10 [.ref (G.2.1 + 33), .ref (G.2.1 + 34), .ref (G.2.1 + 35), .int 0, .int 0, .int 0, .int 0, .int 0, .ref (G.2.1 + 36), .ref (G.2.1 + 37), .ref (G.2.1 + 38), .ref (G.2.1 + 39), .int 0, .ref (G.2.1 + 40), .int 0, .ref (G.2.1 + 41)], ai G 26100 (sx 256), ai G 26100 (fun _ => 0), ai G 26100 (fun _ => 0), ai G 14 (fun _ => 0), ai G 500 (fun _ => 0), ai G 500 (fun _ => 0), az G 500 (fun _ => 0), ai G 501 (fun _ => 0), ai G 500 (fun _ => 0)] from rfl) ?_
  exact go_iret (pc := 9) rfl dX9_answer_9
set_option maxRecDepth 100000 in
set_option maxHeartbeats 4000000 in
theorem cx_root_e_ff {l : Launch} {G : gG} (x1 : Int32) (c0 : ¬ x1 < 0) (c1 : ¬ 24 ≤ x1) : Ct l G mX9_root 3 68 [.ref (G.2.1 + 0), .int x1, .int ((-1))] 42 90324 (wl G.2.1 (LF G)) (some (.int ((-1))), 42, 90324, (wl G.2.1 [ob 9 [.ref (G.2.1 + 1), .ref (G.2.1 + 23), .ref (G.2.1 + 27), .ref (G.2.1 + 28), .ref (G.2.1 + 22), .int 0, .int 0, .null, .int 0, .null, .int 0], ob 6 [.ref (G.2.1 + 2), .ref (G.2.1 + 6), .ref (G.2.1 + 12), .ref (G.2.1 + 14), .ref (G.2.1 + 17), .ref (G.2.1 + 20), .ref (G.2.1 + 21)], ob 2 [.int 256, .int 0, .int 0, .int 0, .ref (G.2.1 + 3), .ref (G.2.1 + 4), .ref (G.2.1 + 5)], ai G 256 (fun _ => 0), ai G 500 (fun _ => (-1)), ai G 500 (fun _ => 0), ob 3 [.int 0, .int 0, .int 0, .int 0, .ref (G.2.1 + 7), .ref (G.2.1 + 8), .ref (G.2.1 + 9), .ref (G.2.1 + 10), .ref (G.2.1 + 11)], ai G 500 (fun _ => 0), ai G 500 (fun _ => 0), ai G 500 (fun _ => 0), ai G 500 (fun _ => 0), ai G 500 (fun _ => 0), ob 8 [.int 0, .int 0, .int 0, .int 0, .int 0, .int 0, .ref (G.2.1 + 13)], ai G 300 (fun _ => 0), ob 4 [.int 0, .ref (G.2.1 + 15), .ref (G.2.1 + 16)], ai G 1295 (fun _ => 0), ai G 1295 (fun _ => 0), ob 5 [.int 0, .int 0, .int 0, .int 0, .ref (G.2.1 + 18), .ref (G.2.1 + 19)], ai G 200 (fun _ => 0), ai G 8 (fun _ => (-1)), ai G 24 (upd (fun _ => (-1)) x1.toNatClampNeg ((-1))), ai G 32 (fun _ => (-1)), ai G 14 (fun _ => 0), ob 7 [.ref (G.2.1 + 1), .ref (G.2.1 + 2), .ref (G.2.1 + 6), .ref (G.2.1 + 22), .ref (G.2.1 + 24), .int 0, .ref (G.2.1 + 25), .ref (G.2.1 + 26), .int 0], ai G 500 (fun _ => 0), ai G 500 (fun _ => 0), ai G 500 (fun _ => 0), ob 0 [.ref (G.2.1 + 1), .ref (G.2.1 + 2), .ref (G.2.1 + 23), .int 0], ob 1 [.ref (G.2.1 + 29), .int 0, .int 0, .ref (G.2.1 + 30), .ref (G.2.1 + 31)], ai G 0 (fun _ => 0), ai G 500 (fun _ => 0), ai G 501 (fun _ => 0), ob 10 [.ref (G.2.1 + 33), .ref (G.2.1 + 34), .ref (G.2.1 + 35), .int 0, .int 0, .int 0, .int 0, .int 0, .ref (G.2.1 + 36), .ref (G.2.1 + 37), .ref (G.2.1 + 38), .ref (G.2.1 + 39), .int 0, .ref (G.2.1 + 40), .int 0, .ref (G.2.1 + 41)], ai G 26100 (sx 256), ai G 26100 (fun _ => 0), ai G 26100 (fun _ => 0), ai G 14 (fun _ => 0), ai G 500 (fun _ => 0), ai G 500 (fun _ => 0), az G 500 (fun _ => 0), ai G 501 (fun _ => 0), ai G 500 (fun _ => 0)])) := by
  refine Ct.of (by decide) (Nat.le_of_ble_eq_true rfl) ⟨Nat.le_refl _, Nat.le_refl _⟩ ?_
  show Go l G mX9_root _ 0 [(0, .ref (G.2.1 + 0)), (1, .int x1), (2, .int ((-1)))] [] 42 90324 (wl G.2.1 (LF G))
  refine go_iload_n (pc := 0) dX9_root_0 rfl rfl ?_
  refine go_if_lt_f (pc := 1) (tgt := 18) dX9_root_1 (by decide) c0 ?_
  refine go_iload_n (pc := 4) dX9_root_4 rfl rfl ?_
  refine go_bipush (pc := 5) (v := 24) dX9_root_5 (by decide) ?_
  refine go_icmp_ge_f (pc := 7) (tgt := 18) dX9_root_7 (by decide) c1 ?_
  refine go_aload_n (pc := 10) dX9_root_10 rfl rfl ?_
  refine go_iload_n (pc := 11) dX9_root_11 rfl rfl ?_
  refine go_callV_i (pc := 12) vX9_119 rfl (cX9_isUnknownTarget_1) rfl rfl (gz_b (by decide)) (wl_at (i := 0) rfl) rfl (Nat.le_of_ble_eq_true rfl) ⟨Nat.le_of_ble_eq_true rfl, Nat.le_of_ble_eq_true rfl, (Nat.le_add_right _ _), (Nat.le_add_right _ _)⟩ dX9_root_12 ?_
  refine go_if_eq_t (pc := 15) (tgt := 21) dX9_root_15 (by decide) (by decide) ?_
  refine go_aload_n (pc := 21) dX9_root_21 rfl rfl ?_
  refine go_aload_n (pc := 22) dX9_root_22 rfl rfl ?_
  refine go_get (pc := 23) fX9_34 rfl (gz_b (by decide)) (wl_at (i := 0) rfl) rfl dX9_root_23 ?_
  refine go_iload_n (pc := 26) dX9_root_26 rfl rfl ?_
  refine go_iload_n (pc := 27) dX9_root_27 rfl rfl ?_
  refine go_callV_i (pc := 28) vX9_153 rfl (cX0_setRoot_2 x1 c0 c1) rfl rfl (gz_b (by decide)) (wl_at (i := 27) rfl) rfl (Nat.le_of_ble_eq_true rfl) ⟨Nat.le_of_ble_eq_true rfl, Nat.le_of_ble_eq_true rfl, (Nat.le_add_right _ _), (Nat.le_add_right _ _)⟩ dX9_root_28 ?_
  refine go_callV_i (pc := 31) vX9_74 rfl (cX9_answer_3 x1) rfl rfl (gz_b (by decide)) (wl_at (i := 0) rfl) rfl (Nat.le_of_ble_eq_true rfl) ⟨Nat.le_of_ble_eq_true rfl, Nat.le_of_ble_eq_true rfl, (Nat.le_add_right _ _), (Nat.le_add_right _ _)⟩ dX9_root_31 ?_
  exact go_iret (pc := 34) rfl dX9_root_34
theorem cx_root_e {l : Launch} {G : gG} (x1 : Int32) : CX l G mX9_root [.ref (G.2.1 + 0), .int x1, .int ((-1))] ((if x1 < 0 then (-101) else (if 24 ≤ x1 then (-101) else (-1)))) := by
  by_cases c0 : x1 < 0
  · rw [if_pos c0]
    exact ⟨0, 0, 42, 90324, _, by decide, by decide, by decide, by decide, by decide, (by exact wl_frame rfl), cx_root_e_t x1 c0⟩
  · rw [if_neg c0]
    by_cases c1 : 24 ≤ x1
    · rw [if_pos c1]
      exact ⟨0, 0, 42, 90324, _, by decide, by decide, by decide, by decide, by decide, (by exact wl_frame rfl), cx_root_e_ft x1 c0 c1⟩
    · rw [if_neg c1]
      exact ⟨3, 68, 42, 90324, _, by decide, by decide, by decide, by decide, by decide, (by exact wl_frame rfl), cx_root_e_ff x1 c0 c1⟩
set_option maxRecDepth 100000 in
set_option maxHeartbeats 4000000 in
theorem cx_root_n_t {l : Launch} {G : gG} (x1 : Int32) (x2 : Int32) (k0 : ¬ x2 = (-1)) (c0 : x1 < 0) : Ct l G mX9_root 0 0 [.ref (G.2.1 + 0), .int x1, .int x2] 42 90324 (wl G.2.1 (LF G)) (some (.int ((-101))), 42, 90324, (wl G.2.1 (LF G))) := by
  refine Ct.of (by decide) (Nat.le_of_ble_eq_true rfl) ⟨Nat.le_refl _, Nat.le_refl _⟩ ?_
  show Go l G mX9_root _ 0 [(0, .ref (G.2.1 + 0)), (1, .int x1), (2, .int x2)] [] 42 90324 (wl G.2.1 (LF G))
  refine go_iload_n (pc := 0) dX9_root_0 rfl rfl ?_
  refine go_if_lt_t (pc := 1) (tgt := 18) dX9_root_1 (by decide) c0 ?_
  refine go_bipush (pc := 18) (v := (-101)) dX9_root_18 (by decide) ?_
  exact go_iret (pc := 20) rfl dX9_root_20
set_option maxRecDepth 100000 in
set_option maxHeartbeats 4000000 in
theorem cx_root_n_ft {l : Launch} {G : gG} (x1 : Int32) (x2 : Int32) (k0 : ¬ x2 = (-1)) (c0 : ¬ x1 < 0) (c1 : 24 ≤ x1) : Ct l G mX9_root 0 0 [.ref (G.2.1 + 0), .int x1, .int x2] 42 90324 (wl G.2.1 (LF G)) (some (.int ((-101))), 42, 90324, (wl G.2.1 (LF G))) := by
  refine Ct.of (by decide) (Nat.le_of_ble_eq_true rfl) ⟨Nat.le_refl _, Nat.le_refl _⟩ ?_
  show Go l G mX9_root _ 0 [(0, .ref (G.2.1 + 0)), (1, .int x1), (2, .int x2)] [] 42 90324 (wl G.2.1 (LF G))
  refine go_iload_n (pc := 0) dX9_root_0 rfl rfl ?_
  refine go_if_lt_f (pc := 1) (tgt := 18) dX9_root_1 (by decide) c0 ?_
  refine go_iload_n (pc := 4) dX9_root_4 rfl rfl ?_
  refine go_bipush (pc := 5) (v := 24) dX9_root_5 (by decide) ?_
  refine go_icmp_ge_t (pc := 7) (tgt := 18) dX9_root_7 (by decide) c1 ?_
  refine go_bipush (pc := 18) (v := (-101)) dX9_root_18 (by decide) ?_
  exact go_iret (pc := 20) rfl dX9_root_20
set_option maxRecDepth 100000 in
set_option maxHeartbeats 4000000 in
theorem cX2_wasMade_2 {l : Launch} {G : gG} (x2 : Int32) : Ct l G mX2_wasMade 0 0 [.ref (G.2.1 + 2), .int x2] 42 90324 (wl G.2.1 (LF G)) (some (.int 0), 42, 90324, (wl G.2.1 (LF G))) := by
  refine Ct.of (by decide) (Nat.le_of_ble_eq_true rfl) ⟨Nat.le_refl _, Nat.le_refl _⟩ ?_
  show Go l G mX2_wasMade _ 0 [(0, .ref (G.2.1 + 2)), (1, .int x2)] [] 42 90324 (wl G.2.1 (LF G))
  refine go_iload_n (pc := 0) dX2_wasMade_0 rfl rfl ?_
  refine go_if_lt (pc := 1) (tgt := 16) dX2_wasMade_1 (by decide) (fun c0 => ?_) (fun c0 => ?_)
  · refine go_iconst (pc := 16) (v := 0) dX2_wasMade_16 (by decide) ?_
    exact go_zret (pc := 17) rfl rfl dX2_wasMade_17
  · refine go_iload_n (pc := 4) dX2_wasMade_4 rfl rfl ?_
    refine go_aload_n (pc := 5) dX2_wasMade_5 rfl rfl ?_
    refine go_get (pc := 6) fX2_32 rfl (gz_b (by decide)) (wl_at (i := 2) rfl) rfl dX2_wasMade_6 ?_
    refine go_icmp_ge_t (pc := 9) (tgt := 16) dX2_wasMade_9 (by decide) (Int32.not_lt.mp c0) ?_
    refine go_iconst (pc := 16) (v := 0) dX2_wasMade_16 (by decide) ?_
    exact go_zret (pc := 17) rfl rfl dX2_wasMade_17
set_option maxRecDepth 100000 in
set_option maxHeartbeats 4000000 in
theorem cX9_isUnknownTarget_2 {l : Launch} {G : gG} (x2 : Int32) (k0 : ¬ x2 = (-1)) : Ct l G mX9_isUnknownTarget 1 21 [.ref (G.2.1 + 0), .int x2] 42 90324 (wl G.2.1 (LF G)) (some (.int 1), 42, 90324, (wl G.2.1 (LF G))) := by
  refine Ct.of (by decide) (Nat.le_of_ble_eq_true rfl) ⟨Nat.le_refl _, Nat.le_refl _⟩ ?_
  show Go l G mX9_isUnknownTarget _ 0 [(0, .ref (G.2.1 + 0)), (1, .int x2)] [] 42 90324 (wl G.2.1 (LF G))
  refine go_iload_n (pc := 0) dX9_isUnknownTarget_0 rfl rfl ?_
  refine go_iconst (pc := 1) (v := (-1)) dX9_isUnknownTarget_1 (by decide) ?_
  refine go_icmp_eq_f (pc := 2) (tgt := 23) dX9_isUnknownTarget_2 (by decide) k0 ?_
  refine go_aload_n (pc := 5) dX9_isUnknownTarget_5 rfl rfl ?_
  refine go_get (pc := 6) fX9_12 rfl (gz_b (by decide)) (wl_at (i := 0) rfl) rfl dX9_isUnknownTarget_6 ?_
  refine go_get (pc := 9) fX9_78 rfl (gz_b (by decide)) (wl_at (i := 1) rfl) rfl dX9_isUnknownTarget_9 ?_
  refine go_iload_n (pc := 12) dX9_isUnknownTarget_12 rfl rfl ?_
  refine go_callV_i (pc := 13) vX9_82 rfl (cX2_wasMade_2 x2) rfl rfl (gz_b (by decide)) (wl_at (i := 2) rfl) rfl (Nat.le_of_ble_eq_true rfl) ⟨Nat.le_of_ble_eq_true rfl, Nat.le_of_ble_eq_true rfl, (Nat.le_add_right _ _), (Nat.le_add_right _ _)⟩ dX9_isUnknownTarget_13 ?_
  refine go_if_ne_f (pc := 16) (tgt := 23) dX9_isUnknownTarget_16 (by decide) (by decide) ?_
  refine go_iconst (pc := 19) (v := 1) dX9_isUnknownTarget_19 (by decide) ?_
  refine go_goto (pc := 20) (tgt := 24) dX9_isUnknownTarget_20 (by decide) ?_
  exact go_zret (pc := 24) rfl rfl dX9_isUnknownTarget_24
set_option maxRecDepth 100000 in
set_option maxHeartbeats 4000000 in
theorem cx_root_n_ff {l : Launch} {G : gG} (x1 : Int32) (x2 : Int32) (k0 : ¬ x2 = (-1)) (c0 : ¬ x1 < 0) (c1 : ¬ 24 ≤ x1) : Ct l G mX9_root 2 42 [.ref (G.2.1 + 0), .int x1, .int x2] 42 90324 (wl G.2.1 (LF G)) (some (.int ((-101))), 42, 90324, (wl G.2.1 (LF G))) := by
  refine Ct.of (by decide) (Nat.le_of_ble_eq_true rfl) ⟨Nat.le_refl _, Nat.le_refl _⟩ ?_
  show Go l G mX9_root _ 0 [(0, .ref (G.2.1 + 0)), (1, .int x1), (2, .int x2)] [] 42 90324 (wl G.2.1 (LF G))
  refine go_iload_n (pc := 0) dX9_root_0 rfl rfl ?_
  refine go_if_lt_f (pc := 1) (tgt := 18) dX9_root_1 (by decide) c0 ?_
  refine go_iload_n (pc := 4) dX9_root_4 rfl rfl ?_
  refine go_bipush (pc := 5) (v := 24) dX9_root_5 (by decide) ?_
  refine go_icmp_ge_f (pc := 7) (tgt := 18) dX9_root_7 (by decide) c1 ?_
  refine go_aload_n (pc := 10) dX9_root_10 rfl rfl ?_
  refine go_iload_n (pc := 11) dX9_root_11 rfl rfl ?_
  refine go_callV_i (pc := 12) vX9_119 rfl (cX9_isUnknownTarget_2 x2 k0) rfl rfl (gz_b (by decide)) (wl_at (i := 0) rfl) rfl (Nat.le_of_ble_eq_true rfl) ⟨Nat.le_of_ble_eq_true rfl, Nat.le_of_ble_eq_true rfl, (Nat.le_add_right _ _), (Nat.le_add_right _ _)⟩ dX9_root_12 ?_
  refine go_if_eq_f (pc := 15) (tgt := 21) dX9_root_15 (by decide) (by decide) ?_
  refine go_bipush (pc := 18) (v := (-101)) dX9_root_18 (by decide) ?_
  exact go_iret (pc := 20) rfl dX9_root_20
theorem cx_root_n {l : Launch} {G : gG} (x1 : Int32) (x2 : Int32) (k0 : ¬ x2 = (-1)) : CX l G mX9_root [.ref (G.2.1 + 0), .int x1, .int x2] ((-101)) := by
  by_cases c0 : x1 < 0
  · exact ⟨0, 0, 42, 90324, _, by decide, by decide, by decide, by decide, by decide, (by exact wl_frame rfl), cx_root_n_t x1 x2 k0 c0⟩
  · by_cases c1 : 24 ≤ x1
    · exact ⟨0, 0, 42, 90324, _, by decide, by decide, by decide, by decide, by decide, (by exact wl_frame rfl), cx_root_n_ft x1 x2 k0 c0 c1⟩
    · exact ⟨2, 42, 42, 90324, _, by decide, by decide, by decide, by decide, by decide, (by exact wl_frame rfl), cx_root_n_ff x1 x2 k0 c0 c1⟩
theorem cx_root {l : Launch} {G : gG} (x1 : Int32) (x2 : Int32) : CX l G mX9_root [.ref (G.2.1 + 0), .int x1, .int x2] ((if x2 = (-1) then (if x1 < 0 then (-101) else (if 24 ≤ x1 then (-101) else (-1))) else (-101))) := by
  by_cases k0 : x2 = (-1)
  · subst k0
    rw [if_pos rfl]
    exact cx_root_e x1
  · rw [if_neg k0]
    exact cx_root_n x1 x2 k0
set_option maxRecDepth 100000 in
set_option maxHeartbeats 4000000 in
theorem cx_shelve_e_e_e_t {l : Launch} {G : gG} (x1 : Int32) (x2 : Int32) (k1 : x2 < 0) (k2 : x2 < 8) (c0 : x1 < 0) : Ct l G mX9_shelve 0 0 [.ref (G.2.1 + 0), .int x1, .int x2, .int ((-1))] 42 90324 (wl G.2.1 (LF G)) (some (.int ((-101))), 42, 90324, (wl G.2.1 (LF G))) := by
  refine Ct.of (by decide) (Nat.le_of_ble_eq_true rfl) ⟨Nat.le_refl _, Nat.le_refl _⟩ ?_
  show Go l G mX9_shelve _ 0 [(0, .ref (G.2.1 + 0)), (1, .int x1), (2, .int x2), (3, .int ((-1)))] [] 42 90324 (wl G.2.1 (LF G))
  refine go_iload_n (pc := 0) dX9_shelve_0 rfl rfl ?_
  refine go_if_lt_t (pc := 1) (tgt := 17) dX9_shelve_1 (by decide) c0 ?_
  refine go_bipush (pc := 17) (v := (-101)) dX9_shelve_17 (by decide) ?_
  exact go_iret (pc := 19) rfl dX9_shelve_19
set_option maxRecDepth 100000 in
set_option maxHeartbeats 4000000 in
theorem cx_shelve_e_e_e_ft {l : Launch} {G : gG} (x1 : Int32) (x2 : Int32) (k1 : x2 < 0) (k2 : x2 < 8) (c0 : ¬ x1 < 0) (c1 : 4 ≤ x1) : Ct l G mX9_shelve 0 0 [.ref (G.2.1 + 0), .int x1, .int x2, .int ((-1))] 42 90324 (wl G.2.1 (LF G)) (some (.int ((-101))), 42, 90324, (wl G.2.1 (LF G))) := by
  refine Ct.of (by decide) (Nat.le_of_ble_eq_true rfl) ⟨Nat.le_refl _, Nat.le_refl _⟩ ?_
  show Go l G mX9_shelve _ 0 [(0, .ref (G.2.1 + 0)), (1, .int x1), (2, .int x2), (3, .int ((-1)))] [] 42 90324 (wl G.2.1 (LF G))
  refine go_iload_n (pc := 0) dX9_shelve_0 rfl rfl ?_
  refine go_if_lt_f (pc := 1) (tgt := 17) dX9_shelve_1 (by decide) c0 ?_
  refine go_iload_n (pc := 4) dX9_shelve_4 rfl rfl ?_
  refine go_iconst (pc := 5) (v := 4) dX9_shelve_5 (by decide) ?_
  refine go_icmp_ge_t (pc := 6) (tgt := 17) dX9_shelve_6 (by decide) c1 ?_
  refine go_bipush (pc := 17) (v := (-101)) dX9_shelve_17 (by decide) ?_
  exact go_iret (pc := 19) rfl dX9_shelve_19
set_option maxRecDepth 100000 in
set_option maxHeartbeats 4000000 in
theorem cX0_setShelf_1 {l : Launch} {G : gG} (x1 : Int32) (x2 : Int32) (k1 : x2 < 0) (k2 : x2 < 8) (c0 : ¬ x1 < 0) (c1 : ¬ 4 ≤ x1) : Ct l G mX0_setShelf 1 21 [.ref (G.2.1 + 27), .int x1, .int x2, .int ((-1))] 42 90324 (wl G.2.1 (LF G)) (some (.int ((-12))), 42, 90324, (wl G.2.1 (LF G))) := by
  refine Ct.of (by decide) (Nat.le_of_ble_eq_true rfl) ⟨Nat.le_refl _, Nat.le_refl _⟩ ?_
  show Go l G mX0_setShelf _ 0 [(0, .ref (G.2.1 + 27)), (1, .int x1), (2, .int x2), (3, .int ((-1)))] [] 42 90324 (wl G.2.1 (LF G))
  refine go_aload_n (pc := 0) dX0_setShelf_0 rfl rfl ?_
  refine go_iload_n (pc := 1) dX0_setShelf_1 rfl rfl ?_
  refine go_callV_i (pc := 2) vX0_73 rfl (cX0_isGoneTarget_1) rfl rfl (gz_b (by decide)) (wl_at (i := 27) rfl) rfl (Nat.le_of_ble_eq_true rfl) ⟨Nat.le_of_ble_eq_true rfl, Nat.le_of_ble_eq_true rfl, (Nat.le_add_right _ _), (Nat.le_add_right _ _)⟩ dX0_setShelf_2 ?_
  refine go_if_eq_t (pc := 5) (tgt := 11) dX0_setShelf_5 (by decide) (by decide) ?_
  refine go_iload_n (pc := 11) dX0_setShelf_11 rfl rfl ?_
  refine go_if_lt_t (pc := 12) (tgt := 21) dX0_setShelf_12 (by decide) k1 ?_
  refine go_bipush (pc := 21) (v := (-12)) dX0_setShelf_21 (by decide) ?_
  exact go_iret (pc := 23) rfl dX0_setShelf_23
set_option maxRecDepth 100000 in
set_option maxHeartbeats 4000000 in
theorem cx_shelve_e_e_e_ff {l : Launch} {G : gG} (x1 : Int32) (x2 : Int32) (k1 : x2 < 0) (k2 : x2 < 8) (c0 : ¬ x1 < 0) (c1 : ¬ 4 ≤ x1) : Ct l G mX9_shelve 2 44 [.ref (G.2.1 + 0), .int x1, .int x2, .int ((-1))] 42 90324 (wl G.2.1 (LF G)) (some (.int ((-12))), 42, 90324, (wl G.2.1 [ob 9 [.ref (G.2.1 + 1), .ref (G.2.1 + 23), .ref (G.2.1 + 27), .ref (G.2.1 + 28), .ref (G.2.1 + 22), .int 2, .int 0, .null, .int 0, .null, .int 0], ob 6 [.ref (G.2.1 + 2), .ref (G.2.1 + 6), .ref (G.2.1 + 12), .ref (G.2.1 + 14), .ref (G.2.1 + 17), .ref (G.2.1 + 20), .ref (G.2.1 + 21)], ob 2 [.int 256, .int 0, .int 0, .int 0, .ref (G.2.1 + 3), .ref (G.2.1 + 4), .ref (G.2.1 + 5)], ai G 256 (fun _ => 0), ai G 500 (fun _ => (-1)), ai G 500 (fun _ => 0), ob 3 [.int 0, .int 0, .int 0, .int 0, .ref (G.2.1 + 7), .ref (G.2.1 + 8), .ref (G.2.1 + 9), .ref (G.2.1 + 10), .ref (G.2.1 + 11)], ai G 500 (fun _ => 0), ai G 500 (fun _ => 0), ai G 500 (fun _ => 0), ai G 500 (fun _ => 0), ai G 500 (fun _ => 0), ob 8 [.int 0, .int 0, .int 0, .int 0, .int 0, .int 0, .ref (G.2.1 + 13)], ai G 300 (fun _ => 0), ob 4 [.int 0, .ref (G.2.1 + 15), .ref (G.2.1 + 16)], ai G 1295 (fun _ => 0), ai G 1295 (fun _ => 0), ob 5 [.int 0, .int 0, .int 0, .int 0, .ref (G.2.1 + 18), .ref (G.2.1 + 19)], ai G 200 (fun _ => 0), ai G 8 (fun _ => (-1)), ai G 24 (fun _ => (-1)), ai G 32 (fun _ => (-1)), ai G 14 (fun _ => 0), ob 7 [.ref (G.2.1 + 1), .ref (G.2.1 + 2), .ref (G.2.1 + 6), .ref (G.2.1 + 22), .ref (G.2.1 + 24), .int 0, .ref (G.2.1 + 25), .ref (G.2.1 + 26), .int 0], ai G 500 (fun _ => 0), ai G 500 (fun _ => 0), ai G 500 (fun _ => 0), ob 0 [.ref (G.2.1 + 1), .ref (G.2.1 + 2), .ref (G.2.1 + 23), .int 0], ob 1 [.ref (G.2.1 + 29), .int 0, .int 0, .ref (G.2.1 + 30), .ref (G.2.1 + 31)], ai G 0 (fun _ => 0), ai G 500 (fun _ => 0), ai G 501 (fun _ => 0), ob 10 [.ref (G.2.1 + 33), .ref (G.2.1 + 34), .ref (G.2.1 + 35), .int 0, .int 0, .int 0, .int 0, .int 0, .ref (G.2.1 + 36), .ref (G.2.1 + 37), .ref (G.2.1 + 38), .ref (G.2.1 + 39), .int 0, .ref (G.2.1 + 40), .int 0, .ref (G.2.1 + 41)], ai G 26100 (sx 256), ai G 26100 (fun _ => 0), ai G 26100 (fun _ => 0), ai G 14 (fun _ => 0), ai G 500 (fun _ => 0), ai G 500 (fun _ => 0), az G 500 (fun _ => 0), ai G 501 (fun _ => 0), ai G 500 (fun _ => 0)])) := by
  refine Ct.of (by decide) (Nat.le_of_ble_eq_true rfl) ⟨Nat.le_refl _, Nat.le_refl _⟩ ?_
  show Go l G mX9_shelve _ 0 [(0, .ref (G.2.1 + 0)), (1, .int x1), (2, .int x2), (3, .int ((-1)))] [] 42 90324 (wl G.2.1 (LF G))
  refine go_iload_n (pc := 0) dX9_shelve_0 rfl rfl ?_
  refine go_if_lt_f (pc := 1) (tgt := 17) dX9_shelve_1 (by decide) c0 ?_
  refine go_iload_n (pc := 4) dX9_shelve_4 rfl rfl ?_
  refine go_iconst (pc := 5) (v := 4) dX9_shelve_5 (by decide) ?_
  refine go_icmp_ge_f (pc := 6) (tgt := 17) dX9_shelve_6 (by decide) c1 ?_
  refine go_aload_n (pc := 9) dX9_shelve_9 rfl rfl ?_
  refine go_iload_n (pc := 10) dX9_shelve_10 rfl rfl ?_
  refine go_callV_i (pc := 11) vX9_119 rfl (cX9_isUnknownTarget_1) rfl rfl (gz_b (by decide)) (wl_at (i := 0) rfl) rfl (Nat.le_of_ble_eq_true rfl) ⟨Nat.le_of_ble_eq_true rfl, Nat.le_of_ble_eq_true rfl, (Nat.le_add_right _ _), (Nat.le_add_right _ _)⟩ dX9_shelve_11 ?_
  refine go_if_eq_t (pc := 14) (tgt := 20) dX9_shelve_14 (by decide) (by decide) ?_
  refine go_aload_n (pc := 20) dX9_shelve_20 rfl rfl ?_
  refine go_aload_n (pc := 21) dX9_shelve_21 rfl rfl ?_
  refine go_get (pc := 22) fX9_34 rfl (gz_b (by decide)) (wl_at (i := 0) rfl) rfl dX9_shelve_22 ?_
  refine go_iload_n (pc := 25) dX9_shelve_25 rfl rfl ?_
  refine go_iload_n (pc := 26) dX9_shelve_26 rfl rfl ?_
  refine go_iload_n (pc := 27) dX9_shelve_27 rfl rfl ?_
  refine go_callV_i (pc := 28) vX9_163 rfl (cX0_setShelf_1 x1 x2 k1 k2 c0 c1) rfl rfl (gz_b (by decide)) (wl_at (i := 27) rfl) rfl (Nat.le_of_ble_eq_true rfl) ⟨Nat.le_of_ble_eq_true rfl, Nat.le_of_ble_eq_true rfl, (Nat.le_add_right _ _), (Nat.le_add_right _ _)⟩ dX9_shelve_28 ?_
  refine go_callV_i (pc := 31) vX9_74 rfl (cX9_answer_1) rfl rfl (gz_b (by decide)) (wl_at (i := 0) rfl) rfl (Nat.le_of_ble_eq_true rfl) ⟨Nat.le_of_ble_eq_true rfl, Nat.le_of_ble_eq_true rfl, (Nat.le_add_right _ _), (Nat.le_add_right _ _)⟩ dX9_shelve_31 ?_
  exact go_iret (pc := 34) rfl dX9_shelve_34
theorem cx_shelve_e_e_e {l : Launch} {G : gG} (x1 : Int32) (x2 : Int32) (k1 : x2 < 0) (k2 : x2 < 8) : CX l G mX9_shelve [.ref (G.2.1 + 0), .int x1, .int x2, .int ((-1))] ((if x1 < 0 then (-101) else (if 4 ≤ x1 then (-101) else (-12)))) := by
  by_cases c0 : x1 < 0
  · rw [if_pos c0]
    exact ⟨0, 0, 42, 90324, _, by decide, by decide, by decide, by decide, by decide, (by exact wl_frame rfl), cx_shelve_e_e_e_t x1 x2 k1 k2 c0⟩
  · rw [if_neg c0]
    by_cases c1 : 4 ≤ x1
    · rw [if_pos c1]
      exact ⟨0, 0, 42, 90324, _, by decide, by decide, by decide, by decide, by decide, (by exact wl_frame rfl), cx_shelve_e_e_e_ft x1 x2 k1 k2 c0 c1⟩
    · rw [if_neg c1]
      exact ⟨2, 44, 42, 90324, _, by decide, by decide, by decide, by decide, by decide, (by exact wl_frame rfl), cx_shelve_e_e_e_ff x1 x2 k1 k2 c0 c1⟩
set_option maxRecDepth 100000 in
set_option maxHeartbeats 4000000 in
theorem cx_shelve_e_e_n_t {l : Launch} {G : gG} (x1 : Int32) (x2 : Int32) (k1 : x2 < 0) (k2 : ¬ x2 < 8) (c0 : x1 < 0) : Ct l G mX9_shelve 0 0 [.ref (G.2.1 + 0), .int x1, .int x2, .int ((-1))] 42 90324 (wl G.2.1 (LF G)) (some (.int ((-101))), 42, 90324, (wl G.2.1 (LF G))) := by
  refine Ct.of (by decide) (Nat.le_of_ble_eq_true rfl) ⟨Nat.le_refl _, Nat.le_refl _⟩ ?_
  show Go l G mX9_shelve _ 0 [(0, .ref (G.2.1 + 0)), (1, .int x1), (2, .int x2), (3, .int ((-1)))] [] 42 90324 (wl G.2.1 (LF G))
  refine go_iload_n (pc := 0) dX9_shelve_0 rfl rfl ?_
  refine go_if_lt_t (pc := 1) (tgt := 17) dX9_shelve_1 (by decide) c0 ?_
  refine go_bipush (pc := 17) (v := (-101)) dX9_shelve_17 (by decide) ?_
  exact go_iret (pc := 19) rfl dX9_shelve_19
set_option maxRecDepth 100000 in
set_option maxHeartbeats 4000000 in
theorem cx_shelve_e_e_n_ft {l : Launch} {G : gG} (x1 : Int32) (x2 : Int32) (k1 : x2 < 0) (k2 : ¬ x2 < 8) (c0 : ¬ x1 < 0) (c1 : 4 ≤ x1) : Ct l G mX9_shelve 0 0 [.ref (G.2.1 + 0), .int x1, .int x2, .int ((-1))] 42 90324 (wl G.2.1 (LF G)) (some (.int ((-101))), 42, 90324, (wl G.2.1 (LF G))) := by
  refine Ct.of (by decide) (Nat.le_of_ble_eq_true rfl) ⟨Nat.le_refl _, Nat.le_refl _⟩ ?_
  show Go l G mX9_shelve _ 0 [(0, .ref (G.2.1 + 0)), (1, .int x1), (2, .int x2), (3, .int ((-1)))] [] 42 90324 (wl G.2.1 (LF G))
  refine go_iload_n (pc := 0) dX9_shelve_0 rfl rfl ?_
  refine go_if_lt_f (pc := 1) (tgt := 17) dX9_shelve_1 (by decide) c0 ?_
  refine go_iload_n (pc := 4) dX9_shelve_4 rfl rfl ?_
  refine go_iconst (pc := 5) (v := 4) dX9_shelve_5 (by decide) ?_
  refine go_icmp_ge_t (pc := 6) (tgt := 17) dX9_shelve_6 (by decide) c1 ?_
  refine go_bipush (pc := 17) (v := (-101)) dX9_shelve_17 (by decide) ?_
  exact go_iret (pc := 19) rfl dX9_shelve_19
set_option maxRecDepth 100000 in
set_option maxHeartbeats 4000000 in
theorem cX0_setShelf_2 {l : Launch} {G : gG} (x1 : Int32) (x2 : Int32) (k1 : x2 < 0) (k2 : ¬ x2 < 8) (c0 : ¬ x1 < 0) (c1 : ¬ 4 ≤ x1) : Ct l G mX0_setShelf 1 21 [.ref (G.2.1 + 27), .int x1, .int x2, .int ((-1))] 42 90324 (wl G.2.1 (LF G)) (some (.int ((-12))), 42, 90324, (wl G.2.1 (LF G))) := by
  refine Ct.of (by decide) (Nat.le_of_ble_eq_true rfl) ⟨Nat.le_refl _, Nat.le_refl _⟩ ?_
  show Go l G mX0_setShelf _ 0 [(0, .ref (G.2.1 + 27)), (1, .int x1), (2, .int x2), (3, .int ((-1)))] [] 42 90324 (wl G.2.1 (LF G))
  refine go_aload_n (pc := 0) dX0_setShelf_0 rfl rfl ?_
  refine go_iload_n (pc := 1) dX0_setShelf_1 rfl rfl ?_
  refine go_callV_i (pc := 2) vX0_73 rfl (cX0_isGoneTarget_1) rfl rfl (gz_b (by decide)) (wl_at (i := 27) rfl) rfl (Nat.le_of_ble_eq_true rfl) ⟨Nat.le_of_ble_eq_true rfl, Nat.le_of_ble_eq_true rfl, (Nat.le_add_right _ _), (Nat.le_add_right _ _)⟩ dX0_setShelf_2 ?_
  refine go_if_eq_t (pc := 5) (tgt := 11) dX0_setShelf_5 (by decide) (by decide) ?_
  refine go_iload_n (pc := 11) dX0_setShelf_11 rfl rfl ?_
  refine go_if_lt_t (pc := 12) (tgt := 21) dX0_setShelf_12 (by decide) k1 ?_
  refine go_bipush (pc := 21) (v := (-12)) dX0_setShelf_21 (by decide) ?_
  exact go_iret (pc := 23) rfl dX0_setShelf_23
set_option maxRecDepth 100000 in
set_option maxHeartbeats 4000000 in
theorem cx_shelve_e_e_n_ff {l : Launch} {G : gG} (x1 : Int32) (x2 : Int32) (k1 : x2 < 0) (k2 : ¬ x2 < 8) (c0 : ¬ x1 < 0) (c1 : ¬ 4 ≤ x1) : Ct l G mX9_shelve 2 44 [.ref (G.2.1 + 0), .int x1, .int x2, .int ((-1))] 42 90324 (wl G.2.1 (LF G)) (some (.int ((-12))), 42, 90324, (wl G.2.1 [ob 9 [.ref (G.2.1 + 1), .ref (G.2.1 + 23), .ref (G.2.1 + 27), .ref (G.2.1 + 28), .ref (G.2.1 + 22), .int 2, .int 0, .null, .int 0, .null, .int 0], ob 6 [.ref (G.2.1 + 2), .ref (G.2.1 + 6), .ref (G.2.1 + 12), .ref (G.2.1 + 14), .ref (G.2.1 + 17), .ref (G.2.1 + 20), .ref (G.2.1 + 21)], ob 2 [.int 256, .int 0, .int 0, .int 0, .ref (G.2.1 + 3), .ref (G.2.1 + 4), .ref (G.2.1 + 5)], ai G 256 (fun _ => 0), ai G 500 (fun _ => (-1)), ai G 500 (fun _ => 0), ob 3 [.int 0, .int 0, .int 0, .int 0, .ref (G.2.1 + 7), .ref (G.2.1 + 8), .ref (G.2.1 + 9), .ref (G.2.1 + 10), .ref (G.2.1 + 11)], ai G 500 (fun _ => 0), ai G 500 (fun _ => 0), ai G 500 (fun _ => 0), ai G 500 (fun _ => 0), ai G 500 (fun _ => 0), ob 8 [.int 0, .int 0, .int 0, .int 0, .int 0, .int 0, .ref (G.2.1 + 13)], ai G 300 (fun _ => 0), ob 4 [.int 0, .ref (G.2.1 + 15), .ref (G.2.1 + 16)], ai G 1295 (fun _ => 0), ai G 1295 (fun _ => 0), ob 5 [.int 0, .int 0, .int 0, .int 0, .ref (G.2.1 + 18), .ref (G.2.1 + 19)], ai G 200 (fun _ => 0), ai G 8 (fun _ => (-1)), ai G 24 (fun _ => (-1)), ai G 32 (fun _ => (-1)), ai G 14 (fun _ => 0), ob 7 [.ref (G.2.1 + 1), .ref (G.2.1 + 2), .ref (G.2.1 + 6), .ref (G.2.1 + 22), .ref (G.2.1 + 24), .int 0, .ref (G.2.1 + 25), .ref (G.2.1 + 26), .int 0], ai G 500 (fun _ => 0), ai G 500 (fun _ => 0), ai G 500 (fun _ => 0), ob 0 [.ref (G.2.1 + 1), .ref (G.2.1 + 2), .ref (G.2.1 + 23), .int 0], ob 1 [.ref (G.2.1 + 29), .int 0, .int 0, .ref (G.2.1 + 30), .ref (G.2.1 + 31)], ai G 0 (fun _ => 0), ai G 500 (fun _ => 0), ai G 501 (fun _ => 0), ob 10 [.ref (G.2.1 + 33), .ref (G.2.1 + 34), .ref (G.2.1 + 35), .int 0, .int 0, .int 0, .int 0, .int 0, .ref (G.2.1 + 36), .ref (G.2.1 + 37), .ref (G.2.1 + 38), .ref (G.2.1 + 39), .int 0, .ref (G.2.1 + 40), .int 0, .ref (G.2.1 + 41)], ai G 26100 (sx 256), ai G 26100 (fun _ => 0), ai G 26100 (fun _ => 0), ai G 14 (fun _ => 0), ai G 500 (fun _ => 0), ai G 500 (fun _ => 0), az G 500 (fun _ => 0), ai G 501 (fun _ => 0), ai G 500 (fun _ => 0)])) := by
  refine Ct.of (by decide) (Nat.le_of_ble_eq_true rfl) ⟨Nat.le_refl _, Nat.le_refl _⟩ ?_
  show Go l G mX9_shelve _ 0 [(0, .ref (G.2.1 + 0)), (1, .int x1), (2, .int x2), (3, .int ((-1)))] [] 42 90324 (wl G.2.1 (LF G))
  refine go_iload_n (pc := 0) dX9_shelve_0 rfl rfl ?_
  refine go_if_lt_f (pc := 1) (tgt := 17) dX9_shelve_1 (by decide) c0 ?_
  refine go_iload_n (pc := 4) dX9_shelve_4 rfl rfl ?_
  refine go_iconst (pc := 5) (v := 4) dX9_shelve_5 (by decide) ?_
  refine go_icmp_ge_f (pc := 6) (tgt := 17) dX9_shelve_6 (by decide) c1 ?_
  refine go_aload_n (pc := 9) dX9_shelve_9 rfl rfl ?_
  refine go_iload_n (pc := 10) dX9_shelve_10 rfl rfl ?_
  refine go_callV_i (pc := 11) vX9_119 rfl (cX9_isUnknownTarget_1) rfl rfl (gz_b (by decide)) (wl_at (i := 0) rfl) rfl (Nat.le_of_ble_eq_true rfl) ⟨Nat.le_of_ble_eq_true rfl, Nat.le_of_ble_eq_true rfl, (Nat.le_add_right _ _), (Nat.le_add_right _ _)⟩ dX9_shelve_11 ?_
  refine go_if_eq_t (pc := 14) (tgt := 20) dX9_shelve_14 (by decide) (by decide) ?_
  refine go_aload_n (pc := 20) dX9_shelve_20 rfl rfl ?_
  refine go_aload_n (pc := 21) dX9_shelve_21 rfl rfl ?_
  refine go_get (pc := 22) fX9_34 rfl (gz_b (by decide)) (wl_at (i := 0) rfl) rfl dX9_shelve_22 ?_
  refine go_iload_n (pc := 25) dX9_shelve_25 rfl rfl ?_
  refine go_iload_n (pc := 26) dX9_shelve_26 rfl rfl ?_
  refine go_iload_n (pc := 27) dX9_shelve_27 rfl rfl ?_
  refine go_callV_i (pc := 28) vX9_163 rfl (cX0_setShelf_2 x1 x2 k1 k2 c0 c1) rfl rfl (gz_b (by decide)) (wl_at (i := 27) rfl) rfl (Nat.le_of_ble_eq_true rfl) ⟨Nat.le_of_ble_eq_true rfl, Nat.le_of_ble_eq_true rfl, (Nat.le_add_right _ _), (Nat.le_add_right _ _)⟩ dX9_shelve_28 ?_
  refine go_callV_i (pc := 31) vX9_74 rfl (cX9_answer_1) rfl rfl (gz_b (by decide)) (wl_at (i := 0) rfl) rfl (Nat.le_of_ble_eq_true rfl) ⟨Nat.le_of_ble_eq_true rfl, Nat.le_of_ble_eq_true rfl, (Nat.le_add_right _ _), (Nat.le_add_right _ _)⟩ dX9_shelve_31 ?_
  exact go_iret (pc := 34) rfl dX9_shelve_34
theorem cx_shelve_e_e_n {l : Launch} {G : gG} (x1 : Int32) (x2 : Int32) (k1 : x2 < 0) (k2 : ¬ x2 < 8) : CX l G mX9_shelve [.ref (G.2.1 + 0), .int x1, .int x2, .int ((-1))] ((if x1 < 0 then (-101) else (if 4 ≤ x1 then (-101) else (-12)))) := by
  by_cases c0 : x1 < 0
  · rw [if_pos c0]
    exact ⟨0, 0, 42, 90324, _, by decide, by decide, by decide, by decide, by decide, (by exact wl_frame rfl), cx_shelve_e_e_n_t x1 x2 k1 k2 c0⟩
  · rw [if_neg c0]
    by_cases c1 : 4 ≤ x1
    · rw [if_pos c1]
      exact ⟨0, 0, 42, 90324, _, by decide, by decide, by decide, by decide, by decide, (by exact wl_frame rfl), cx_shelve_e_e_n_ft x1 x2 k1 k2 c0 c1⟩
    · rw [if_neg c1]
      exact ⟨2, 44, 42, 90324, _, by decide, by decide, by decide, by decide, by decide, (by exact wl_frame rfl), cx_shelve_e_e_n_ff x1 x2 k1 k2 c0 c1⟩
theorem cx_shelve_e_e {l : Launch} {G : gG} (x1 : Int32) (x2 : Int32) (k1 : x2 < 0) : CX l G mX9_shelve [.ref (G.2.1 + 0), .int x1, .int x2, .int ((-1))] ((if x1 < 0 then (-101) else (if 4 ≤ x1 then (-101) else (-12)))) := by
  by_cases k2 : x2 < 8
  · exact cx_shelve_e_e_e x1 x2 k1 k2
  · exact cx_shelve_e_e_n x1 x2 k1 k2
set_option maxRecDepth 100000 in
set_option maxHeartbeats 4000000 in
theorem cx_shelve_e_n_e_t {l : Launch} {G : gG} (x1 : Int32) (x2 : Int32) (k1 : ¬ x2 < 0) (k2 : x2 < 8) (c0 : x1 < 0) : Ct l G mX9_shelve 0 0 [.ref (G.2.1 + 0), .int x1, .int x2, .int ((-1))] 42 90324 (wl G.2.1 (LF G)) (some (.int ((-101))), 42, 90324, (wl G.2.1 (LF G))) := by
  refine Ct.of (by decide) (Nat.le_of_ble_eq_true rfl) ⟨Nat.le_refl _, Nat.le_refl _⟩ ?_
  show Go l G mX9_shelve _ 0 [(0, .ref (G.2.1 + 0)), (1, .int x1), (2, .int x2), (3, .int ((-1)))] [] 42 90324 (wl G.2.1 (LF G))
  refine go_iload_n (pc := 0) dX9_shelve_0 rfl rfl ?_
  refine go_if_lt_t (pc := 1) (tgt := 17) dX9_shelve_1 (by decide) c0 ?_
  refine go_bipush (pc := 17) (v := (-101)) dX9_shelve_17 (by decide) ?_
  exact go_iret (pc := 19) rfl dX9_shelve_19
set_option maxRecDepth 100000 in
set_option maxHeartbeats 4000000 in
theorem cx_shelve_e_n_e_ft {l : Launch} {G : gG} (x1 : Int32) (x2 : Int32) (k1 : ¬ x2 < 0) (k2 : x2 < 8) (c0 : ¬ x1 < 0) (c1 : 4 ≤ x1) : Ct l G mX9_shelve 0 0 [.ref (G.2.1 + 0), .int x1, .int x2, .int ((-1))] 42 90324 (wl G.2.1 (LF G)) (some (.int ((-101))), 42, 90324, (wl G.2.1 (LF G))) := by
  refine Ct.of (by decide) (Nat.le_of_ble_eq_true rfl) ⟨Nat.le_refl _, Nat.le_refl _⟩ ?_
  show Go l G mX9_shelve _ 0 [(0, .ref (G.2.1 + 0)), (1, .int x1), (2, .int x2), (3, .int ((-1)))] [] 42 90324 (wl G.2.1 (LF G))
  refine go_iload_n (pc := 0) dX9_shelve_0 rfl rfl ?_
  refine go_if_lt_f (pc := 1) (tgt := 17) dX9_shelve_1 (by decide) c0 ?_
  refine go_iload_n (pc := 4) dX9_shelve_4 rfl rfl ?_
  refine go_iconst (pc := 5) (v := 4) dX9_shelve_5 (by decide) ?_
  refine go_icmp_ge_t (pc := 6) (tgt := 17) dX9_shelve_6 (by decide) c1 ?_
  refine go_bipush (pc := 17) (v := (-101)) dX9_shelve_17 (by decide) ?_
  exact go_iret (pc := 19) rfl dX9_shelve_19
set_option maxRecDepth 100000 in
set_option maxHeartbeats 4000000 in
theorem cX0_setShelf_3 {l : Launch} {G : gG} (x1 : Int32) (x2 : Int32) (k1 : ¬ x2 < 0) (k2 : x2 < 8) (c0 : ¬ x1 < 0) (c1 : ¬ 4 ≤ x1) : Ct l G mX0_setShelf 1 21 [.ref (G.2.1 + 27), .int x1, .int x2, .int ((-1))] 42 90324 (wl G.2.1 (LF G)) (some (.int 1), 42, 90324, (wl G.2.1 [ob 9 [.ref (G.2.1 + 1), .ref (G.2.1 + 23), .ref (G.2.1 + 27), .ref (G.2.1 + 28), .ref (G.2.1 + 22), .int 0, .int 0, .null, .int 0, .null, .int 0], ob 6 [.ref (G.2.1 + 2), .ref (G.2.1 + 6), .ref (G.2.1 + 12), .ref (G.2.1 + 14), .ref (G.2.1 + 17), .ref (G.2.1 + 20), .ref (G.2.1 + 21)], ob 2 [.int 256, .int 0, .int 0, .int 0, .ref (G.2.1 + 3), .ref (G.2.1 + 4), .ref (G.2.1 + 5)], ai G 256 (fun _ => 0), ai G 500 (fun _ => (-1)), ai G 500 (fun _ => 0), ob 3 [.int 0, .int 0, .int 0, .int 0, .ref (G.2.1 + 7), .ref (G.2.1 + 8), .ref (G.2.1 + 9), .ref (G.2.1 + 10), .ref (G.2.1 + 11)], ai G 500 (fun _ => 0), ai G 500 (fun _ => 0), ai G 500 (fun _ => 0), ai G 500 (fun _ => 0), ai G 500 (fun _ => 0), ob 8 [.int 0, .int 0, .int 0, .int 0, .int 0, .int 0, .ref (G.2.1 + 13)], ai G 300 (fun _ => 0), ob 4 [.int 0, .ref (G.2.1 + 15), .ref (G.2.1 + 16)], ai G 1295 (fun _ => 0), ai G 1295 (fun _ => 0), ob 5 [.int 0, .int 0, .int 0, .int 0, .ref (G.2.1 + 18), .ref (G.2.1 + 19)], ai G 200 (fun _ => 0), ai G 8 (fun _ => (-1)), ai G 24 (fun _ => (-1)), ai G 32 (upd (fun _ => (-1)) ((x1 * 8) + x2).toNatClampNeg ((-1))), ai G 14 (fun _ => 0), ob 7 [.ref (G.2.1 + 1), .ref (G.2.1 + 2), .ref (G.2.1 + 6), .ref (G.2.1 + 22), .ref (G.2.1 + 24), .int 0, .ref (G.2.1 + 25), .ref (G.2.1 + 26), .int 0], ai G 500 (fun _ => 0), ai G 500 (fun _ => 0), ai G 500 (fun _ => 0), ob 0 [.ref (G.2.1 + 1), .ref (G.2.1 + 2), .ref (G.2.1 + 23), .int 0], ob 1 [.ref (G.2.1 + 29), .int 0, .int 0, .ref (G.2.1 + 30), .ref (G.2.1 + 31)], ai G 0 (fun _ => 0), ai G 500 (fun _ => 0), ai G 501 (fun _ => 0), ob 10 [.ref (G.2.1 + 33), .ref (G.2.1 + 34), .ref (G.2.1 + 35), .int 0, .int 0, .int 0, .int 0, .int 0, .ref (G.2.1 + 36), .ref (G.2.1 + 37), .ref (G.2.1 + 38), .ref (G.2.1 + 39), .int 0, .ref (G.2.1 + 40), .int 0, .ref (G.2.1 + 41)], ai G 26100 (sx 256), ai G 26100 (fun _ => 0), ai G 26100 (fun _ => 0), ai G 14 (fun _ => 0), ai G 500 (fun _ => 0), ai G 500 (fun _ => 0), az G 500 (fun _ => 0), ai G 501 (fun _ => 0), ai G 500 (fun _ => 0)])) := by
  refine Ct.of (by decide) (Nat.le_of_ble_eq_true rfl) ⟨Nat.le_refl _, Nat.le_refl _⟩ ?_
  show Go l G mX0_setShelf _ 0 [(0, .ref (G.2.1 + 27)), (1, .int x1), (2, .int x2), (3, .int ((-1)))] [] 42 90324 (wl G.2.1 (LF G))
  refine go_aload_n (pc := 0) dX0_setShelf_0 rfl rfl ?_
  refine go_iload_n (pc := 1) dX0_setShelf_1 rfl rfl ?_
  refine go_callV_i (pc := 2) vX0_73 rfl (cX0_isGoneTarget_1) rfl rfl (gz_b (by decide)) (wl_at (i := 27) rfl) rfl (Nat.le_of_ble_eq_true rfl) ⟨Nat.le_of_ble_eq_true rfl, Nat.le_of_ble_eq_true rfl, (Nat.le_add_right _ _), (Nat.le_add_right _ _)⟩ dX0_setShelf_2 ?_
  refine go_if_eq_t (pc := 5) (tgt := 11) dX0_setShelf_5 (by decide) (by decide) ?_
  refine go_iload_n (pc := 11) dX0_setShelf_11 rfl rfl ?_
  refine go_if_lt_f (pc := 12) (tgt := 21) dX0_setShelf_12 (by decide) k1 ?_
  refine go_iload_n (pc := 15) dX0_setShelf_15 rfl rfl ?_
  refine go_bipush (pc := 16) (v := 8) dX0_setShelf_16 (by decide) ?_
  refine go_icmp_lt_t (pc := 18) (tgt := 24) dX0_setShelf_18 (by decide) k2 ?_
  refine go_iload_n (pc := 24) dX0_setShelf_24 rfl rfl ?_
  refine go_iconst (pc := 25) (v := (-1)) dX0_setShelf_25 (by decide) ?_
  refine go_icmp_eq_t (pc := 26) (tgt := 44) dX0_setShelf_26 (by decide) (by decide) ?_
  refine go_aload_n (pc := 44) dX0_setShelf_44 rfl rfl ?_
  refine go_get (pc := 45) fX0_9 rfl (gz_b (by decide)) (wl_at (i := 27) rfl) rfl dX0_setShelf_45 ?_
  refine go_get (pc := 48) fX0_111 rfl (gz_b (by decide)) (wl_at (i := 1) rfl) rfl dX0_setShelf_48 ?_
  refine go_iload_n (pc := 51) dX0_setShelf_51 rfl rfl ?_
  refine go_bipush (pc := 52) (v := 8) dX0_setShelf_52 (by decide) ?_
  refine go_imul (pc := 54) dX0_setShelf_54 ?_
  refine go_iload_n (pc := 55) dX0_setShelf_55 rfl rfl ?_
  refine go_iadd (pc := 56) dX0_setShelf_56 ?_
  refine go_iload_n (pc := 57) dX0_setShelf_57 rfl rfl ?_
  refine go_iast (pc := 58) (gz_b (by decide)) (wl_at (i := 21) rfl) (gv_sh_in c0 (Int32.not_le.mp c1) k1 k2) dX0_setShelf_58 ?_
  refine go_ext (wl_up (i := 21) rfl rfl) ?_
  refine go_iconst (pc := 59) (v := 1) dX0_setShelf_59 (by decide) ?_
  refine go_w (show _ = wl G.2.1 [ob 9 [.ref (G.2.1 + 1), .ref (G.2.1 + 23), .ref (G.2.1 + 27), .ref (G.2.1 + 28), .ref (G.2.1 + 22), .int 0, .int 0, .null, .int 0, .null, .int 0], ob 6 [.ref (G.2.1 + 2), .ref (G.2.1 + 6), .ref (G.2.1 + 12), .ref (G.2.1 + 14), .ref (G.2.1 + 17), .ref (G.2.1 + 20), .ref (G.2.1 + 21)], ob 2 [.int 256, .int 0, .int 0, .int 0, .ref (G.2.1 + 3), .ref (G.2.1 + 4), .ref (G.2.1 + 5)], ai G 256 (fun _ => 0), ai G 500 (fun _ => (-1)), ai G 500 (fun _ => 0), ob 3 [.int 0, .int 0, .int 0, .int 0, .ref (G.2.1 + 7), .ref (G.2.1 + 8), .ref (G.2.1 + 9), .ref (G.2.1 + 10), .ref (G.2.1 + 11)], ai G 500 (fun _ => 0), ai G 500 (fun _ => 0), ai G 500 (fun _ => 0), ai G 500 (fun _ => 0), ai G 500 (fun _ => 0), ob 8 [.int 0, .int 0, .int 0, .int 0, .int 0, .int 0, .ref (G.2.1 + 13)], ai G 300 (fun _ => 0), ob 4 [.int 0, .ref (G.2.1 + 15), .ref (G.2.1 + 16)], ai G 1295 (fun _ => 0), ai G 1295 (fun _ => 0), ob 5 [.int 0, .int 0, .int 0, .int 0, .ref (G.2.1 + 18), .ref (G.2.1 + 19)], ai G 200 (fun _ => 0), ai G 8 (fun _ => (-1)), ai G 24 (fun _ => (-1)), ai G 32 (upd (fun _ => (-1)) ((x1 * 8) + x2).toNatClampNeg ((-1))), ai G 14 (fun _ => 0), ob 7 [.ref (G.2.1 + 1), .ref (G.2.1 + 2), .ref (G.2.1 + 6), .ref (G.2.1 + 22), .ref (G.2.1 + 24), .int 0, .ref (G.2.1 + 25), .ref (G.2.1 + 26), .int 0], ai G 500 (fun _ => 0), ai G 500 (fun _ => 0), ai G 500 (fun _ => 0), ob 0 [.ref (G.2.1 + 1), .ref (G.2.1 + 2), .ref (G.2.1 + 23), .int 0], ob 1 [.ref (G.2.1 + 29), .int 0, .int 0, .ref (G.2.1 + 30), .ref (G.2.1 + 31)], ai G 0 (fun _ => 0), ai G 500 (fun _ => 0), ai G 501 (fun _ => 0), ob 10 [.ref (G.2.1 + 33), .ref (G.2.1 + 34), .ref (G.2.1 + 35), .int 0, .int 0, .int 0, .int 0, .int 0, .ref (G.2.1 + 36), .ref (G.2.1 + 37), .ref (G.2.1 + 38), .ref (G.2.1 + 39), .int 0, .ref (G.2.1 + 40), .int 0, .ref (G.2.1 + 41)], ai G 26100 (sx 256), ai G 26100 (fun _ => 0), ai G 26100 (fun _ => 0), ai G 14 (fun _ => 0), ai G 500 (fun _ => 0), ai G 500 (fun _ => 0), az G 500 (fun _ => 0), ai G 501 (fun _ => 0), ai G 500 (fun _ => 0)] from rfl) ?_
  exact go_iret (pc := 60) rfl dX0_setShelf_60
set_option maxRecDepth 100000 in
set_option maxHeartbeats 4000000 in
theorem cX9_findingIn_4 {l : Launch} {G : gG} (x1 : Int32) (x2 : Int32) : Ct l G mX9_findingIn 0 0 [.int 1] 42 90324 (wl G.2.1 [ob 9 [.ref (G.2.1 + 1), .ref (G.2.1 + 23), .ref (G.2.1 + 27), .ref (G.2.1 + 28), .ref (G.2.1 + 22), .int 0, .int 0, .null, .int 0, .null, .int 0], ob 6 [.ref (G.2.1 + 2), .ref (G.2.1 + 6), .ref (G.2.1 + 12), .ref (G.2.1 + 14), .ref (G.2.1 + 17), .ref (G.2.1 + 20), .ref (G.2.1 + 21)], ob 2 [.int 256, .int 0, .int 0, .int 0, .ref (G.2.1 + 3), .ref (G.2.1 + 4), .ref (G.2.1 + 5)], ai G 256 (fun _ => 0), ai G 500 (fun _ => (-1)), ai G 500 (fun _ => 0), ob 3 [.int 0, .int 0, .int 0, .int 0, .ref (G.2.1 + 7), .ref (G.2.1 + 8), .ref (G.2.1 + 9), .ref (G.2.1 + 10), .ref (G.2.1 + 11)], ai G 500 (fun _ => 0), ai G 500 (fun _ => 0), ai G 500 (fun _ => 0), ai G 500 (fun _ => 0), ai G 500 (fun _ => 0), ob 8 [.int 0, .int 0, .int 0, .int 0, .int 0, .int 0, .ref (G.2.1 + 13)], ai G 300 (fun _ => 0), ob 4 [.int 0, .ref (G.2.1 + 15), .ref (G.2.1 + 16)], ai G 1295 (fun _ => 0), ai G 1295 (fun _ => 0), ob 5 [.int 0, .int 0, .int 0, .int 0, .ref (G.2.1 + 18), .ref (G.2.1 + 19)], ai G 200 (fun _ => 0), ai G 8 (fun _ => (-1)), ai G 24 (fun _ => (-1)), ai G 32 (upd (fun _ => (-1)) ((x1 * 8) + x2).toNatClampNeg ((-1))), ai G 14 (fun _ => 0), ob 7 [.ref (G.2.1 + 1), .ref (G.2.1 + 2), .ref (G.2.1 + 6), .ref (G.2.1 + 22), .ref (G.2.1 + 24), .int 0, .ref (G.2.1 + 25), .ref (G.2.1 + 26), .int 0], ai G 500 (fun _ => 0), ai G 500 (fun _ => 0), ai G 500 (fun _ => 0), ob 0 [.ref (G.2.1 + 1), .ref (G.2.1 + 2), .ref (G.2.1 + 23), .int 0], ob 1 [.ref (G.2.1 + 29), .int 0, .int 0, .ref (G.2.1 + 30), .ref (G.2.1 + 31)], ai G 0 (fun _ => 0), ai G 500 (fun _ => 0), ai G 501 (fun _ => 0), ob 10 [.ref (G.2.1 + 33), .ref (G.2.1 + 34), .ref (G.2.1 + 35), .int 0, .int 0, .int 0, .int 0, .int 0, .ref (G.2.1 + 36), .ref (G.2.1 + 37), .ref (G.2.1 + 38), .ref (G.2.1 + 39), .int 0, .ref (G.2.1 + 40), .int 0, .ref (G.2.1 + 41)], ai G 26100 (sx 256), ai G 26100 (fun _ => 0), ai G 26100 (fun _ => 0), ai G 14 (fun _ => 0), ai G 500 (fun _ => 0), ai G 500 (fun _ => 0), az G 500 (fun _ => 0), ai G 501 (fun _ => 0), ai G 500 (fun _ => 0)]) (some (.int 0), 42, 90324, (wl G.2.1 [ob 9 [.ref (G.2.1 + 1), .ref (G.2.1 + 23), .ref (G.2.1 + 27), .ref (G.2.1 + 28), .ref (G.2.1 + 22), .int 0, .int 0, .null, .int 0, .null, .int 0], ob 6 [.ref (G.2.1 + 2), .ref (G.2.1 + 6), .ref (G.2.1 + 12), .ref (G.2.1 + 14), .ref (G.2.1 + 17), .ref (G.2.1 + 20), .ref (G.2.1 + 21)], ob 2 [.int 256, .int 0, .int 0, .int 0, .ref (G.2.1 + 3), .ref (G.2.1 + 4), .ref (G.2.1 + 5)], ai G 256 (fun _ => 0), ai G 500 (fun _ => (-1)), ai G 500 (fun _ => 0), ob 3 [.int 0, .int 0, .int 0, .int 0, .ref (G.2.1 + 7), .ref (G.2.1 + 8), .ref (G.2.1 + 9), .ref (G.2.1 + 10), .ref (G.2.1 + 11)], ai G 500 (fun _ => 0), ai G 500 (fun _ => 0), ai G 500 (fun _ => 0), ai G 500 (fun _ => 0), ai G 500 (fun _ => 0), ob 8 [.int 0, .int 0, .int 0, .int 0, .int 0, .int 0, .ref (G.2.1 + 13)], ai G 300 (fun _ => 0), ob 4 [.int 0, .ref (G.2.1 + 15), .ref (G.2.1 + 16)], ai G 1295 (fun _ => 0), ai G 1295 (fun _ => 0), ob 5 [.int 0, .int 0, .int 0, .int 0, .ref (G.2.1 + 18), .ref (G.2.1 + 19)], ai G 200 (fun _ => 0), ai G 8 (fun _ => (-1)), ai G 24 (fun _ => (-1)), ai G 32 (upd (fun _ => (-1)) ((x1 * 8) + x2).toNatClampNeg ((-1))), ai G 14 (fun _ => 0), ob 7 [.ref (G.2.1 + 1), .ref (G.2.1 + 2), .ref (G.2.1 + 6), .ref (G.2.1 + 22), .ref (G.2.1 + 24), .int 0, .ref (G.2.1 + 25), .ref (G.2.1 + 26), .int 0], ai G 500 (fun _ => 0), ai G 500 (fun _ => 0), ai G 500 (fun _ => 0), ob 0 [.ref (G.2.1 + 1), .ref (G.2.1 + 2), .ref (G.2.1 + 23), .int 0], ob 1 [.ref (G.2.1 + 29), .int 0, .int 0, .ref (G.2.1 + 30), .ref (G.2.1 + 31)], ai G 0 (fun _ => 0), ai G 500 (fun _ => 0), ai G 501 (fun _ => 0), ob 10 [.ref (G.2.1 + 33), .ref (G.2.1 + 34), .ref (G.2.1 + 35), .int 0, .int 0, .int 0, .int 0, .int 0, .ref (G.2.1 + 36), .ref (G.2.1 + 37), .ref (G.2.1 + 38), .ref (G.2.1 + 39), .int 0, .ref (G.2.1 + 40), .int 0, .ref (G.2.1 + 41)], ai G 26100 (sx 256), ai G 26100 (fun _ => 0), ai G 26100 (fun _ => 0), ai G 14 (fun _ => 0), ai G 500 (fun _ => 0), ai G 500 (fun _ => 0), az G 500 (fun _ => 0), ai G 501 (fun _ => 0), ai G 500 (fun _ => 0)])) := by
  refine Ct.of (by decide) (Nat.le_of_ble_eq_true rfl) ⟨Nat.le_refl _, Nat.le_refl _⟩ ?_
  show Go l G mX9_findingIn _ 0 [(0, .int 1)] [] 42 90324 (wl G.2.1 [ob 9 [.ref (G.2.1 + 1), .ref (G.2.1 + 23), .ref (G.2.1 + 27), .ref (G.2.1 + 28), .ref (G.2.1 + 22), .int 0, .int 0, .null, .int 0, .null, .int 0], ob 6 [.ref (G.2.1 + 2), .ref (G.2.1 + 6), .ref (G.2.1 + 12), .ref (G.2.1 + 14), .ref (G.2.1 + 17), .ref (G.2.1 + 20), .ref (G.2.1 + 21)], ob 2 [.int 256, .int 0, .int 0, .int 0, .ref (G.2.1 + 3), .ref (G.2.1 + 4), .ref (G.2.1 + 5)], ai G 256 (fun _ => 0), ai G 500 (fun _ => (-1)), ai G 500 (fun _ => 0), ob 3 [.int 0, .int 0, .int 0, .int 0, .ref (G.2.1 + 7), .ref (G.2.1 + 8), .ref (G.2.1 + 9), .ref (G.2.1 + 10), .ref (G.2.1 + 11)], ai G 500 (fun _ => 0), ai G 500 (fun _ => 0), ai G 500 (fun _ => 0), ai G 500 (fun _ => 0), ai G 500 (fun _ => 0), ob 8 [.int 0, .int 0, .int 0, .int 0, .int 0, .int 0, .ref (G.2.1 + 13)], ai G 300 (fun _ => 0), ob 4 [.int 0, .ref (G.2.1 + 15), .ref (G.2.1 + 16)], ai G 1295 (fun _ => 0), ai G 1295 (fun _ => 0), ob 5 [.int 0, .int 0, .int 0, .int 0, .ref (G.2.1 + 18), .ref (G.2.1 + 19)], ai G 200 (fun _ => 0), ai G 8 (fun _ => (-1)), ai G 24 (fun _ => (-1)), ai G 32 (upd (fun _ => (-1)) ((x1 * 8) + x2).toNatClampNeg ((-1))), ai G 14 (fun _ => 0), ob 7 [.ref (G.2.1 + 1), .ref (G.2.1 + 2), .ref (G.2.1 + 6), .ref (G.2.1 + 22), .ref (G.2.1 + 24), .int 0, .ref (G.2.1 + 25), .ref (G.2.1 + 26), .int 0], ai G 500 (fun _ => 0), ai G 500 (fun _ => 0), ai G 500 (fun _ => 0), ob 0 [.ref (G.2.1 + 1), .ref (G.2.1 + 2), .ref (G.2.1 + 23), .int 0], ob 1 [.ref (G.2.1 + 29), .int 0, .int 0, .ref (G.2.1 + 30), .ref (G.2.1 + 31)], ai G 0 (fun _ => 0), ai G 500 (fun _ => 0), ai G 501 (fun _ => 0), ob 10 [.ref (G.2.1 + 33), .ref (G.2.1 + 34), .ref (G.2.1 + 35), .int 0, .int 0, .int 0, .int 0, .int 0, .ref (G.2.1 + 36), .ref (G.2.1 + 37), .ref (G.2.1 + 38), .ref (G.2.1 + 39), .int 0, .ref (G.2.1 + 40), .int 0, .ref (G.2.1 + 41)], ai G 26100 (sx 256), ai G 26100 (fun _ => 0), ai G 26100 (fun _ => 0), ai G 14 (fun _ => 0), ai G 500 (fun _ => 0), ai G 500 (fun _ => 0), az G 500 (fun _ => 0), ai G 501 (fun _ => 0), ai G 500 (fun _ => 0)])
  refine go_iload_n (pc := 0) dX9_findingIn_0 rfl rfl ?_
  refine go_bipush (pc := 1) (v := (-11)) dX9_findingIn_1 (by decide) ?_
  refine go_icmp_gt_t (pc := 3) (tgt := 19) dX9_findingIn_3 (by decide) (by decide) ?_
  refine go_iconst (pc := 19) (v := 0) dX9_findingIn_19 (by decide) ?_
  exact go_iret (pc := 20) rfl dX9_findingIn_20
set_option maxRecDepth 100000 in
set_option maxHeartbeats 4000000 in
theorem cX9_answer_4 {l : Launch} {G : gG} (x1 : Int32) (x2 : Int32) : Ct l G mX9_answer 1 20 [.ref (G.2.1 + 0), .int 1] 42 90324 (wl G.2.1 [ob 9 [.ref (G.2.1 + 1), .ref (G.2.1 + 23), .ref (G.2.1 + 27), .ref (G.2.1 + 28), .ref (G.2.1 + 22), .int 0, .int 0, .null, .int 0, .null, .int 0], ob 6 [.ref (G.2.1 + 2), .ref (G.2.1 + 6), .ref (G.2.1 + 12), .ref (G.2.1 + 14), .ref (G.2.1 + 17), .ref (G.2.1 + 20), .ref (G.2.1 + 21)], ob 2 [.int 256, .int 0, .int 0, .int 0, .ref (G.2.1 + 3), .ref (G.2.1 + 4), .ref (G.2.1 + 5)], ai G 256 (fun _ => 0), ai G 500 (fun _ => (-1)), ai G 500 (fun _ => 0), ob 3 [.int 0, .int 0, .int 0, .int 0, .ref (G.2.1 + 7), .ref (G.2.1 + 8), .ref (G.2.1 + 9), .ref (G.2.1 + 10), .ref (G.2.1 + 11)], ai G 500 (fun _ => 0), ai G 500 (fun _ => 0), ai G 500 (fun _ => 0), ai G 500 (fun _ => 0), ai G 500 (fun _ => 0), ob 8 [.int 0, .int 0, .int 0, .int 0, .int 0, .int 0, .ref (G.2.1 + 13)], ai G 300 (fun _ => 0), ob 4 [.int 0, .ref (G.2.1 + 15), .ref (G.2.1 + 16)], ai G 1295 (fun _ => 0), ai G 1295 (fun _ => 0), ob 5 [.int 0, .int 0, .int 0, .int 0, .ref (G.2.1 + 18), .ref (G.2.1 + 19)], ai G 200 (fun _ => 0), ai G 8 (fun _ => (-1)), ai G 24 (fun _ => (-1)), ai G 32 (upd (fun _ => (-1)) ((x1 * 8) + x2).toNatClampNeg ((-1))), ai G 14 (fun _ => 0), ob 7 [.ref (G.2.1 + 1), .ref (G.2.1 + 2), .ref (G.2.1 + 6), .ref (G.2.1 + 22), .ref (G.2.1 + 24), .int 0, .ref (G.2.1 + 25), .ref (G.2.1 + 26), .int 0], ai G 500 (fun _ => 0), ai G 500 (fun _ => 0), ai G 500 (fun _ => 0), ob 0 [.ref (G.2.1 + 1), .ref (G.2.1 + 2), .ref (G.2.1 + 23), .int 0], ob 1 [.ref (G.2.1 + 29), .int 0, .int 0, .ref (G.2.1 + 30), .ref (G.2.1 + 31)], ai G 0 (fun _ => 0), ai G 500 (fun _ => 0), ai G 501 (fun _ => 0), ob 10 [.ref (G.2.1 + 33), .ref (G.2.1 + 34), .ref (G.2.1 + 35), .int 0, .int 0, .int 0, .int 0, .int 0, .ref (G.2.1 + 36), .ref (G.2.1 + 37), .ref (G.2.1 + 38), .ref (G.2.1 + 39), .int 0, .ref (G.2.1 + 40), .int 0, .ref (G.2.1 + 41)], ai G 26100 (sx 256), ai G 26100 (fun _ => 0), ai G 26100 (fun _ => 0), ai G 14 (fun _ => 0), ai G 500 (fun _ => 0), ai G 500 (fun _ => 0), az G 500 (fun _ => 0), ai G 501 (fun _ => 0), ai G 500 (fun _ => 0)]) (some (.int 1), 42, 90324, (wl G.2.1 [ob 9 [.ref (G.2.1 + 1), .ref (G.2.1 + 23), .ref (G.2.1 + 27), .ref (G.2.1 + 28), .ref (G.2.1 + 22), .int 0, .int 0, .null, .int 0, .null, .int 0], ob 6 [.ref (G.2.1 + 2), .ref (G.2.1 + 6), .ref (G.2.1 + 12), .ref (G.2.1 + 14), .ref (G.2.1 + 17), .ref (G.2.1 + 20), .ref (G.2.1 + 21)], ob 2 [.int 256, .int 0, .int 0, .int 0, .ref (G.2.1 + 3), .ref (G.2.1 + 4), .ref (G.2.1 + 5)], ai G 256 (fun _ => 0), ai G 500 (fun _ => (-1)), ai G 500 (fun _ => 0), ob 3 [.int 0, .int 0, .int 0, .int 0, .ref (G.2.1 + 7), .ref (G.2.1 + 8), .ref (G.2.1 + 9), .ref (G.2.1 + 10), .ref (G.2.1 + 11)], ai G 500 (fun _ => 0), ai G 500 (fun _ => 0), ai G 500 (fun _ => 0), ai G 500 (fun _ => 0), ai G 500 (fun _ => 0), ob 8 [.int 0, .int 0, .int 0, .int 0, .int 0, .int 0, .ref (G.2.1 + 13)], ai G 300 (fun _ => 0), ob 4 [.int 0, .ref (G.2.1 + 15), .ref (G.2.1 + 16)], ai G 1295 (fun _ => 0), ai G 1295 (fun _ => 0), ob 5 [.int 0, .int 0, .int 0, .int 0, .ref (G.2.1 + 18), .ref (G.2.1 + 19)], ai G 200 (fun _ => 0), ai G 8 (fun _ => (-1)), ai G 24 (fun _ => (-1)), ai G 32 (upd (fun _ => (-1)) ((x1 * 8) + x2).toNatClampNeg ((-1))), ai G 14 (fun _ => 0), ob 7 [.ref (G.2.1 + 1), .ref (G.2.1 + 2), .ref (G.2.1 + 6), .ref (G.2.1 + 22), .ref (G.2.1 + 24), .int 0, .ref (G.2.1 + 25), .ref (G.2.1 + 26), .int 0], ai G 500 (fun _ => 0), ai G 500 (fun _ => 0), ai G 500 (fun _ => 0), ob 0 [.ref (G.2.1 + 1), .ref (G.2.1 + 2), .ref (G.2.1 + 23), .int 0], ob 1 [.ref (G.2.1 + 29), .int 0, .int 0, .ref (G.2.1 + 30), .ref (G.2.1 + 31)], ai G 0 (fun _ => 0), ai G 500 (fun _ => 0), ai G 501 (fun _ => 0), ob 10 [.ref (G.2.1 + 33), .ref (G.2.1 + 34), .ref (G.2.1 + 35), .int 0, .int 0, .int 0, .int 0, .int 0, .ref (G.2.1 + 36), .ref (G.2.1 + 37), .ref (G.2.1 + 38), .ref (G.2.1 + 39), .int 0, .ref (G.2.1 + 40), .int 0, .ref (G.2.1 + 41)], ai G 26100 (sx 256), ai G 26100 (fun _ => 0), ai G 26100 (fun _ => 0), ai G 14 (fun _ => 0), ai G 500 (fun _ => 0), ai G 500 (fun _ => 0), az G 500 (fun _ => 0), ai G 501 (fun _ => 0), ai G 500 (fun _ => 0)])) := by
  refine Ct.of (by decide) (Nat.le_of_ble_eq_true rfl) ⟨Nat.le_refl _, Nat.le_refl _⟩ ?_
  show Go l G mX9_answer _ 0 [(0, .ref (G.2.1 + 0)), (1, .int 1)] [] 42 90324 (wl G.2.1 [ob 9 [.ref (G.2.1 + 1), .ref (G.2.1 + 23), .ref (G.2.1 + 27), .ref (G.2.1 + 28), .ref (G.2.1 + 22), .int 0, .int 0, .null, .int 0, .null, .int 0], ob 6 [.ref (G.2.1 + 2), .ref (G.2.1 + 6), .ref (G.2.1 + 12), .ref (G.2.1 + 14), .ref (G.2.1 + 17), .ref (G.2.1 + 20), .ref (G.2.1 + 21)], ob 2 [.int 256, .int 0, .int 0, .int 0, .ref (G.2.1 + 3), .ref (G.2.1 + 4), .ref (G.2.1 + 5)], ai G 256 (fun _ => 0), ai G 500 (fun _ => (-1)), ai G 500 (fun _ => 0), ob 3 [.int 0, .int 0, .int 0, .int 0, .ref (G.2.1 + 7), .ref (G.2.1 + 8), .ref (G.2.1 + 9), .ref (G.2.1 + 10), .ref (G.2.1 + 11)], ai G 500 (fun _ => 0), ai G 500 (fun _ => 0), ai G 500 (fun _ => 0), ai G 500 (fun _ => 0), ai G 500 (fun _ => 0), ob 8 [.int 0, .int 0, .int 0, .int 0, .int 0, .int 0, .ref (G.2.1 + 13)], ai G 300 (fun _ => 0), ob 4 [.int 0, .ref (G.2.1 + 15), .ref (G.2.1 + 16)], ai G 1295 (fun _ => 0), ai G 1295 (fun _ => 0), ob 5 [.int 0, .int 0, .int 0, .int 0, .ref (G.2.1 + 18), .ref (G.2.1 + 19)], ai G 200 (fun _ => 0), ai G 8 (fun _ => (-1)), ai G 24 (fun _ => (-1)), ai G 32 (upd (fun _ => (-1)) ((x1 * 8) + x2).toNatClampNeg ((-1))), ai G 14 (fun _ => 0), ob 7 [.ref (G.2.1 + 1), .ref (G.2.1 + 2), .ref (G.2.1 + 6), .ref (G.2.1 + 22), .ref (G.2.1 + 24), .int 0, .ref (G.2.1 + 25), .ref (G.2.1 + 26), .int 0], ai G 500 (fun _ => 0), ai G 500 (fun _ => 0), ai G 500 (fun _ => 0), ob 0 [.ref (G.2.1 + 1), .ref (G.2.1 + 2), .ref (G.2.1 + 23), .int 0], ob 1 [.ref (G.2.1 + 29), .int 0, .int 0, .ref (G.2.1 + 30), .ref (G.2.1 + 31)], ai G 0 (fun _ => 0), ai G 500 (fun _ => 0), ai G 501 (fun _ => 0), ob 10 [.ref (G.2.1 + 33), .ref (G.2.1 + 34), .ref (G.2.1 + 35), .int 0, .int 0, .int 0, .int 0, .int 0, .ref (G.2.1 + 36), .ref (G.2.1 + 37), .ref (G.2.1 + 38), .ref (G.2.1 + 39), .int 0, .ref (G.2.1 + 40), .int 0, .ref (G.2.1 + 41)], ai G 26100 (sx 256), ai G 26100 (fun _ => 0), ai G 26100 (fun _ => 0), ai G 14 (fun _ => 0), ai G 500 (fun _ => 0), ai G 500 (fun _ => 0), az G 500 (fun _ => 0), ai G 501 (fun _ => 0), ai G 500 (fun _ => 0)])
  refine go_aload_n (pc := 0) dX9_answer_0 rfl rfl ?_
  refine go_iload_n (pc := 1) dX9_answer_1 rfl rfl ?_
  refine go_callS_i (pc := 2) sX9_302 rfl (cX9_findingIn_4 x1 x2) rfl rfl (Nat.le_of_ble_eq_true rfl) ⟨Nat.le_of_ble_eq_true rfl, Nat.le_of_ble_eq_true rfl, (Nat.le_add_right _ _), (Nat.le_add_right _ _)⟩ dX9_answer_2 ?_
  refine go_put (pc := 5) fX9_53 rfl (gz_b (by decide)) (wl_at (i := 0) rfl) (Nat.le_of_ble_eq_true rfl) rfl rfl dX9_answer_5 ?_
  refine go_ext (wl_up (i := 0) rfl rfl) ?_
  refine go_iload_n (pc := 8) dX9_answer_8 rfl rfl ?_
  refine go_w (show _ = wl G.2.1 [ob 9 [.ref (G.2.1 + 1), .ref (G.2.1 + 23), .ref (G.2.1 + 27), .ref (G.2.1 + 28), .ref (G.2.1 + 22), .int 0, .int 0, .null, .int 0, .null, .int 0], ob 6 [.ref (G.2.1 + 2), .ref (G.2.1 + 6), .ref (G.2.1 + 12), .ref (G.2.1 + 14), .ref (G.2.1 + 17), .ref (G.2.1 + 20), .ref (G.2.1 + 21)], ob 2 [.int 256, .int 0, .int 0, .int 0, .ref (G.2.1 + 3), .ref (G.2.1 + 4), .ref (G.2.1 + 5)], ai G 256 (fun _ => 0), ai G 500 (fun _ => (-1)), ai G 500 (fun _ => 0), ob 3 [.int 0, .int 0, .int 0, .int 0, .ref (G.2.1 + 7), .ref (G.2.1 + 8), .ref (G.2.1 + 9), .ref (G.2.1 + 10), .ref (G.2.1 + 11)], ai G 500 (fun _ => 0), ai G 500 (fun _ => 0), ai G 500 (fun _ => 0), ai G 500 (fun _ => 0), ai G 500 (fun _ => 0), ob 8 [.int 0, .int 0, .int 0, .int 0, .int 0, .int 0, .ref (G.2.1 + 13)], ai G 300 (fun _ => 0), ob 4 [.int 0, .ref (G.2.1 + 15), .ref (G.2.1 + 16)], ai G 1295 (fun _ => 0), ai G 1295 (fun _ => 0), ob 5 [.int 0, .int 0, .int 0, .int 0, .ref (G.2.1 + 18), .ref (G.2.1 + 19)], ai G 200 (fun _ => 0), ai G 8 (fun _ => (-1)), ai G 24 (fun _ => (-1)), ai G 32 (upd (fun _ => (-1)) ((x1 * 8) + x2).toNatClampNeg ((-1))), ai G 14 (fun _ => 0), ob 7 [.ref (G.2.1 + 1), .ref (G.2.1 + 2), .ref (G.2.1 + 6), .ref (G.2.1 + 22), .ref (G.2.1 + 24), .int 0, .ref (G.2.1 + 25), .ref (G.2.1 + 26), .int 0], ai G 500 (fun _ => 0), ai G 500 (fun _ => 0), ai G 500 (fun _ => 0), ob 0 [.ref (G.2.1 + 1), .ref (G.2.1 + 2), .ref (G.2.1 + 23), .int 0], ob 1 [.ref (G.2.1 + 29), .int 0, .int 0, .ref (G.2.1 + 30), .ref (G.2.1 + 31)], ai G 0 (fun _ => 0), ai G 500 (fun _ => 0), ai G 501 (fun _ => 0), ob 10 [.ref (G.2.1 + 33), .ref (G.2.1 + 34), .ref (G.2.1 + 35), .int 0, .int 0, .int 0, .int 0, .int 0, .ref (G.2.1 + 36), .ref (G.2.1 + 37), .ref (G.2.1 + 38), .ref (G.2.1 + 39), .int 0, .ref (G.2.1 + 40), .int 0, .ref (G.2.1 + 41)], ai G 26100 (sx 256), ai G 26100 (fun _ => 0), ai G 26100 (fun _ => 0), ai G 14 (fun _ => 0), ai G 500 (fun _ => 0), ai G 500 (fun _ => 0), az G 500 (fun _ => 0), ai G 501 (fun _ => 0), ai G 500 (fun _ => 0)] from rfl) ?_
  exact go_iret (pc := 9) rfl dX9_answer_9
set_option maxRecDepth 100000 in
set_option maxHeartbeats 4000000 in
theorem cx_shelve_e_n_e_ff {l : Launch} {G : gG} (x1 : Int32) (x2 : Int32) (k1 : ¬ x2 < 0) (k2 : x2 < 8) (c0 : ¬ x1 < 0) (c1 : ¬ 4 ≤ x1) : Ct l G mX9_shelve 2 44 [.ref (G.2.1 + 0), .int x1, .int x2, .int ((-1))] 42 90324 (wl G.2.1 (LF G)) (some (.int 1), 42, 90324, (wl G.2.1 [ob 9 [.ref (G.2.1 + 1), .ref (G.2.1 + 23), .ref (G.2.1 + 27), .ref (G.2.1 + 28), .ref (G.2.1 + 22), .int 0, .int 0, .null, .int 0, .null, .int 0], ob 6 [.ref (G.2.1 + 2), .ref (G.2.1 + 6), .ref (G.2.1 + 12), .ref (G.2.1 + 14), .ref (G.2.1 + 17), .ref (G.2.1 + 20), .ref (G.2.1 + 21)], ob 2 [.int 256, .int 0, .int 0, .int 0, .ref (G.2.1 + 3), .ref (G.2.1 + 4), .ref (G.2.1 + 5)], ai G 256 (fun _ => 0), ai G 500 (fun _ => (-1)), ai G 500 (fun _ => 0), ob 3 [.int 0, .int 0, .int 0, .int 0, .ref (G.2.1 + 7), .ref (G.2.1 + 8), .ref (G.2.1 + 9), .ref (G.2.1 + 10), .ref (G.2.1 + 11)], ai G 500 (fun _ => 0), ai G 500 (fun _ => 0), ai G 500 (fun _ => 0), ai G 500 (fun _ => 0), ai G 500 (fun _ => 0), ob 8 [.int 0, .int 0, .int 0, .int 0, .int 0, .int 0, .ref (G.2.1 + 13)], ai G 300 (fun _ => 0), ob 4 [.int 0, .ref (G.2.1 + 15), .ref (G.2.1 + 16)], ai G 1295 (fun _ => 0), ai G 1295 (fun _ => 0), ob 5 [.int 0, .int 0, .int 0, .int 0, .ref (G.2.1 + 18), .ref (G.2.1 + 19)], ai G 200 (fun _ => 0), ai G 8 (fun _ => (-1)), ai G 24 (fun _ => (-1)), ai G 32 (upd (fun _ => (-1)) ((x1 * 8) + x2).toNatClampNeg ((-1))), ai G 14 (fun _ => 0), ob 7 [.ref (G.2.1 + 1), .ref (G.2.1 + 2), .ref (G.2.1 + 6), .ref (G.2.1 + 22), .ref (G.2.1 + 24), .int 0, .ref (G.2.1 + 25), .ref (G.2.1 + 26), .int 0], ai G 500 (fun _ => 0), ai G 500 (fun _ => 0), ai G 500 (fun _ => 0), ob 0 [.ref (G.2.1 + 1), .ref (G.2.1 + 2), .ref (G.2.1 + 23), .int 0], ob 1 [.ref (G.2.1 + 29), .int 0, .int 0, .ref (G.2.1 + 30), .ref (G.2.1 + 31)], ai G 0 (fun _ => 0), ai G 500 (fun _ => 0), ai G 501 (fun _ => 0), ob 10 [.ref (G.2.1 + 33), .ref (G.2.1 + 34), .ref (G.2.1 + 35), .int 0, .int 0, .int 0, .int 0, .int 0, .ref (G.2.1 + 36), .ref (G.2.1 + 37), .ref (G.2.1 + 38), .ref (G.2.1 + 39), .int 0, .ref (G.2.1 + 40), .int 0, .ref (G.2.1 + 41)], ai G 26100 (sx 256), ai G 26100 (fun _ => 0), ai G 26100 (fun _ => 0), ai G 14 (fun _ => 0), ai G 500 (fun _ => 0), ai G 500 (fun _ => 0), az G 500 (fun _ => 0), ai G 501 (fun _ => 0), ai G 500 (fun _ => 0)])) := by
  refine Ct.of (by decide) (Nat.le_of_ble_eq_true rfl) ⟨Nat.le_refl _, Nat.le_refl _⟩ ?_
  show Go l G mX9_shelve _ 0 [(0, .ref (G.2.1 + 0)), (1, .int x1), (2, .int x2), (3, .int ((-1)))] [] 42 90324 (wl G.2.1 (LF G))
  refine go_iload_n (pc := 0) dX9_shelve_0 rfl rfl ?_
  refine go_if_lt_f (pc := 1) (tgt := 17) dX9_shelve_1 (by decide) c0 ?_
  refine go_iload_n (pc := 4) dX9_shelve_4 rfl rfl ?_
  refine go_iconst (pc := 5) (v := 4) dX9_shelve_5 (by decide) ?_
  refine go_icmp_ge_f (pc := 6) (tgt := 17) dX9_shelve_6 (by decide) c1 ?_
  refine go_aload_n (pc := 9) dX9_shelve_9 rfl rfl ?_
  refine go_iload_n (pc := 10) dX9_shelve_10 rfl rfl ?_
  refine go_callV_i (pc := 11) vX9_119 rfl (cX9_isUnknownTarget_1) rfl rfl (gz_b (by decide)) (wl_at (i := 0) rfl) rfl (Nat.le_of_ble_eq_true rfl) ⟨Nat.le_of_ble_eq_true rfl, Nat.le_of_ble_eq_true rfl, (Nat.le_add_right _ _), (Nat.le_add_right _ _)⟩ dX9_shelve_11 ?_
  refine go_if_eq_t (pc := 14) (tgt := 20) dX9_shelve_14 (by decide) (by decide) ?_
  refine go_aload_n (pc := 20) dX9_shelve_20 rfl rfl ?_
  refine go_aload_n (pc := 21) dX9_shelve_21 rfl rfl ?_
  refine go_get (pc := 22) fX9_34 rfl (gz_b (by decide)) (wl_at (i := 0) rfl) rfl dX9_shelve_22 ?_
  refine go_iload_n (pc := 25) dX9_shelve_25 rfl rfl ?_
  refine go_iload_n (pc := 26) dX9_shelve_26 rfl rfl ?_
  refine go_iload_n (pc := 27) dX9_shelve_27 rfl rfl ?_
  refine go_callV_i (pc := 28) vX9_163 rfl (cX0_setShelf_3 x1 x2 k1 k2 c0 c1) rfl rfl (gz_b (by decide)) (wl_at (i := 27) rfl) rfl (Nat.le_of_ble_eq_true rfl) ⟨Nat.le_of_ble_eq_true rfl, Nat.le_of_ble_eq_true rfl, (Nat.le_add_right _ _), (Nat.le_add_right _ _)⟩ dX9_shelve_28 ?_
  refine go_callV_i (pc := 31) vX9_74 rfl (cX9_answer_4 x1 x2) rfl rfl (gz_b (by decide)) (wl_at (i := 0) rfl) rfl (Nat.le_of_ble_eq_true rfl) ⟨Nat.le_of_ble_eq_true rfl, Nat.le_of_ble_eq_true rfl, (Nat.le_add_right _ _), (Nat.le_add_right _ _)⟩ dX9_shelve_31 ?_
  exact go_iret (pc := 34) rfl dX9_shelve_34
theorem cx_shelve_e_n_e {l : Launch} {G : gG} (x1 : Int32) (x2 : Int32) (k1 : ¬ x2 < 0) (k2 : x2 < 8) : CX l G mX9_shelve [.ref (G.2.1 + 0), .int x1, .int x2, .int ((-1))] ((if x1 < 0 then (-101) else (if 4 ≤ x1 then (-101) else 1))) := by
  by_cases c0 : x1 < 0
  · rw [if_pos c0]
    exact ⟨0, 0, 42, 90324, _, by decide, by decide, by decide, by decide, by decide, (by exact wl_frame rfl), cx_shelve_e_n_e_t x1 x2 k1 k2 c0⟩
  · rw [if_neg c0]
    by_cases c1 : 4 ≤ x1
    · rw [if_pos c1]
      exact ⟨0, 0, 42, 90324, _, by decide, by decide, by decide, by decide, by decide, (by exact wl_frame rfl), cx_shelve_e_n_e_ft x1 x2 k1 k2 c0 c1⟩
    · rw [if_neg c1]
      exact ⟨2, 44, 42, 90324, _, by decide, by decide, by decide, by decide, by decide, (by exact wl_frame rfl), cx_shelve_e_n_e_ff x1 x2 k1 k2 c0 c1⟩
set_option maxRecDepth 100000 in
set_option maxHeartbeats 4000000 in
theorem cx_shelve_e_n_n_t {l : Launch} {G : gG} (x1 : Int32) (x2 : Int32) (k1 : ¬ x2 < 0) (k2 : ¬ x2 < 8) (c0 : x1 < 0) : Ct l G mX9_shelve 0 0 [.ref (G.2.1 + 0), .int x1, .int x2, .int ((-1))] 42 90324 (wl G.2.1 (LF G)) (some (.int ((-101))), 42, 90324, (wl G.2.1 (LF G))) := by
  refine Ct.of (by decide) (Nat.le_of_ble_eq_true rfl) ⟨Nat.le_refl _, Nat.le_refl _⟩ ?_
  show Go l G mX9_shelve _ 0 [(0, .ref (G.2.1 + 0)), (1, .int x1), (2, .int x2), (3, .int ((-1)))] [] 42 90324 (wl G.2.1 (LF G))
  refine go_iload_n (pc := 0) dX9_shelve_0 rfl rfl ?_
  refine go_if_lt_t (pc := 1) (tgt := 17) dX9_shelve_1 (by decide) c0 ?_
  refine go_bipush (pc := 17) (v := (-101)) dX9_shelve_17 (by decide) ?_
  exact go_iret (pc := 19) rfl dX9_shelve_19
set_option maxRecDepth 100000 in
set_option maxHeartbeats 4000000 in
theorem cx_shelve_e_n_n_ft {l : Launch} {G : gG} (x1 : Int32) (x2 : Int32) (k1 : ¬ x2 < 0) (k2 : ¬ x2 < 8) (c0 : ¬ x1 < 0) (c1 : 4 ≤ x1) : Ct l G mX9_shelve 0 0 [.ref (G.2.1 + 0), .int x1, .int x2, .int ((-1))] 42 90324 (wl G.2.1 (LF G)) (some (.int ((-101))), 42, 90324, (wl G.2.1 (LF G))) := by
  refine Ct.of (by decide) (Nat.le_of_ble_eq_true rfl) ⟨Nat.le_refl _, Nat.le_refl _⟩ ?_
  show Go l G mX9_shelve _ 0 [(0, .ref (G.2.1 + 0)), (1, .int x1), (2, .int x2), (3, .int ((-1)))] [] 42 90324 (wl G.2.1 (LF G))
  refine go_iload_n (pc := 0) dX9_shelve_0 rfl rfl ?_
  refine go_if_lt_f (pc := 1) (tgt := 17) dX9_shelve_1 (by decide) c0 ?_
  refine go_iload_n (pc := 4) dX9_shelve_4 rfl rfl ?_
  refine go_iconst (pc := 5) (v := 4) dX9_shelve_5 (by decide) ?_
  refine go_icmp_ge_t (pc := 6) (tgt := 17) dX9_shelve_6 (by decide) c1 ?_
  refine go_bipush (pc := 17) (v := (-101)) dX9_shelve_17 (by decide) ?_
  exact go_iret (pc := 19) rfl dX9_shelve_19
set_option maxRecDepth 100000 in
set_option maxHeartbeats 4000000 in
theorem cX0_setShelf_4 {l : Launch} {G : gG} (x1 : Int32) (x2 : Int32) (k1 : ¬ x2 < 0) (k2 : ¬ x2 < 8) (c0 : ¬ x1 < 0) (c1 : ¬ 4 ≤ x1) : Ct l G mX0_setShelf 1 21 [.ref (G.2.1 + 27), .int x1, .int x2, .int ((-1))] 42 90324 (wl G.2.1 (LF G)) (some (.int ((-12))), 42, 90324, (wl G.2.1 (LF G))) := by
  refine Ct.of (by decide) (Nat.le_of_ble_eq_true rfl) ⟨Nat.le_refl _, Nat.le_refl _⟩ ?_
  show Go l G mX0_setShelf _ 0 [(0, .ref (G.2.1 + 27)), (1, .int x1), (2, .int x2), (3, .int ((-1)))] [] 42 90324 (wl G.2.1 (LF G))
  refine go_aload_n (pc := 0) dX0_setShelf_0 rfl rfl ?_
  refine go_iload_n (pc := 1) dX0_setShelf_1 rfl rfl ?_
  refine go_callV_i (pc := 2) vX0_73 rfl (cX0_isGoneTarget_1) rfl rfl (gz_b (by decide)) (wl_at (i := 27) rfl) rfl (Nat.le_of_ble_eq_true rfl) ⟨Nat.le_of_ble_eq_true rfl, Nat.le_of_ble_eq_true rfl, (Nat.le_add_right _ _), (Nat.le_add_right _ _)⟩ dX0_setShelf_2 ?_
  refine go_if_eq_t (pc := 5) (tgt := 11) dX0_setShelf_5 (by decide) (by decide) ?_
  refine go_iload_n (pc := 11) dX0_setShelf_11 rfl rfl ?_
  refine go_if_lt_f (pc := 12) (tgt := 21) dX0_setShelf_12 (by decide) k1 ?_
  refine go_iload_n (pc := 15) dX0_setShelf_15 rfl rfl ?_
  refine go_bipush (pc := 16) (v := 8) dX0_setShelf_16 (by decide) ?_
  refine go_icmp_lt_f (pc := 18) (tgt := 24) dX0_setShelf_18 (by decide) k2 ?_
  refine go_bipush (pc := 21) (v := (-12)) dX0_setShelf_21 (by decide) ?_
  exact go_iret (pc := 23) rfl dX0_setShelf_23
set_option maxRecDepth 100000 in
set_option maxHeartbeats 4000000 in
theorem cx_shelve_e_n_n_ff {l : Launch} {G : gG} (x1 : Int32) (x2 : Int32) (k1 : ¬ x2 < 0) (k2 : ¬ x2 < 8) (c0 : ¬ x1 < 0) (c1 : ¬ 4 ≤ x1) : Ct l G mX9_shelve 2 44 [.ref (G.2.1 + 0), .int x1, .int x2, .int ((-1))] 42 90324 (wl G.2.1 (LF G)) (some (.int ((-12))), 42, 90324, (wl G.2.1 [ob 9 [.ref (G.2.1 + 1), .ref (G.2.1 + 23), .ref (G.2.1 + 27), .ref (G.2.1 + 28), .ref (G.2.1 + 22), .int 2, .int 0, .null, .int 0, .null, .int 0], ob 6 [.ref (G.2.1 + 2), .ref (G.2.1 + 6), .ref (G.2.1 + 12), .ref (G.2.1 + 14), .ref (G.2.1 + 17), .ref (G.2.1 + 20), .ref (G.2.1 + 21)], ob 2 [.int 256, .int 0, .int 0, .int 0, .ref (G.2.1 + 3), .ref (G.2.1 + 4), .ref (G.2.1 + 5)], ai G 256 (fun _ => 0), ai G 500 (fun _ => (-1)), ai G 500 (fun _ => 0), ob 3 [.int 0, .int 0, .int 0, .int 0, .ref (G.2.1 + 7), .ref (G.2.1 + 8), .ref (G.2.1 + 9), .ref (G.2.1 + 10), .ref (G.2.1 + 11)], ai G 500 (fun _ => 0), ai G 500 (fun _ => 0), ai G 500 (fun _ => 0), ai G 500 (fun _ => 0), ai G 500 (fun _ => 0), ob 8 [.int 0, .int 0, .int 0, .int 0, .int 0, .int 0, .ref (G.2.1 + 13)], ai G 300 (fun _ => 0), ob 4 [.int 0, .ref (G.2.1 + 15), .ref (G.2.1 + 16)], ai G 1295 (fun _ => 0), ai G 1295 (fun _ => 0), ob 5 [.int 0, .int 0, .int 0, .int 0, .ref (G.2.1 + 18), .ref (G.2.1 + 19)], ai G 200 (fun _ => 0), ai G 8 (fun _ => (-1)), ai G 24 (fun _ => (-1)), ai G 32 (fun _ => (-1)), ai G 14 (fun _ => 0), ob 7 [.ref (G.2.1 + 1), .ref (G.2.1 + 2), .ref (G.2.1 + 6), .ref (G.2.1 + 22), .ref (G.2.1 + 24), .int 0, .ref (G.2.1 + 25), .ref (G.2.1 + 26), .int 0], ai G 500 (fun _ => 0), ai G 500 (fun _ => 0), ai G 500 (fun _ => 0), ob 0 [.ref (G.2.1 + 1), .ref (G.2.1 + 2), .ref (G.2.1 + 23), .int 0], ob 1 [.ref (G.2.1 + 29), .int 0, .int 0, .ref (G.2.1 + 30), .ref (G.2.1 + 31)], ai G 0 (fun _ => 0), ai G 500 (fun _ => 0), ai G 501 (fun _ => 0), ob 10 [.ref (G.2.1 + 33), .ref (G.2.1 + 34), .ref (G.2.1 + 35), .int 0, .int 0, .int 0, .int 0, .int 0, .ref (G.2.1 + 36), .ref (G.2.1 + 37), .ref (G.2.1 + 38), .ref (G.2.1 + 39), .int 0, .ref (G.2.1 + 40), .int 0, .ref (G.2.1 + 41)], ai G 26100 (sx 256), ai G 26100 (fun _ => 0), ai G 26100 (fun _ => 0), ai G 14 (fun _ => 0), ai G 500 (fun _ => 0), ai G 500 (fun _ => 0), az G 500 (fun _ => 0), ai G 501 (fun _ => 0), ai G 500 (fun _ => 0)])) := by
  refine Ct.of (by decide) (Nat.le_of_ble_eq_true rfl) ⟨Nat.le_refl _, Nat.le_refl _⟩ ?_
  show Go l G mX9_shelve _ 0 [(0, .ref (G.2.1 + 0)), (1, .int x1), (2, .int x2), (3, .int ((-1)))] [] 42 90324 (wl G.2.1 (LF G))
  refine go_iload_n (pc := 0) dX9_shelve_0 rfl rfl ?_
  refine go_if_lt_f (pc := 1) (tgt := 17) dX9_shelve_1 (by decide) c0 ?_
  refine go_iload_n (pc := 4) dX9_shelve_4 rfl rfl ?_
  refine go_iconst (pc := 5) (v := 4) dX9_shelve_5 (by decide) ?_
  refine go_icmp_ge_f (pc := 6) (tgt := 17) dX9_shelve_6 (by decide) c1 ?_
  refine go_aload_n (pc := 9) dX9_shelve_9 rfl rfl ?_
  refine go_iload_n (pc := 10) dX9_shelve_10 rfl rfl ?_
  refine go_callV_i (pc := 11) vX9_119 rfl (cX9_isUnknownTarget_1) rfl rfl (gz_b (by decide)) (wl_at (i := 0) rfl) rfl (Nat.le_of_ble_eq_true rfl) ⟨Nat.le_of_ble_eq_true rfl, Nat.le_of_ble_eq_true rfl, (Nat.le_add_right _ _), (Nat.le_add_right _ _)⟩ dX9_shelve_11 ?_
  refine go_if_eq_t (pc := 14) (tgt := 20) dX9_shelve_14 (by decide) (by decide) ?_
  refine go_aload_n (pc := 20) dX9_shelve_20 rfl rfl ?_
  refine go_aload_n (pc := 21) dX9_shelve_21 rfl rfl ?_
  refine go_get (pc := 22) fX9_34 rfl (gz_b (by decide)) (wl_at (i := 0) rfl) rfl dX9_shelve_22 ?_
  refine go_iload_n (pc := 25) dX9_shelve_25 rfl rfl ?_
  refine go_iload_n (pc := 26) dX9_shelve_26 rfl rfl ?_
  refine go_iload_n (pc := 27) dX9_shelve_27 rfl rfl ?_
  refine go_callV_i (pc := 28) vX9_163 rfl (cX0_setShelf_4 x1 x2 k1 k2 c0 c1) rfl rfl (gz_b (by decide)) (wl_at (i := 27) rfl) rfl (Nat.le_of_ble_eq_true rfl) ⟨Nat.le_of_ble_eq_true rfl, Nat.le_of_ble_eq_true rfl, (Nat.le_add_right _ _), (Nat.le_add_right _ _)⟩ dX9_shelve_28 ?_
  refine go_callV_i (pc := 31) vX9_74 rfl (cX9_answer_1) rfl rfl (gz_b (by decide)) (wl_at (i := 0) rfl) rfl (Nat.le_of_ble_eq_true rfl) ⟨Nat.le_of_ble_eq_true rfl, Nat.le_of_ble_eq_true rfl, (Nat.le_add_right _ _), (Nat.le_add_right _ _)⟩ dX9_shelve_31 ?_
  exact go_iret (pc := 34) rfl dX9_shelve_34
theorem cx_shelve_e_n_n {l : Launch} {G : gG} (x1 : Int32) (x2 : Int32) (k1 : ¬ x2 < 0) (k2 : ¬ x2 < 8) : CX l G mX9_shelve [.ref (G.2.1 + 0), .int x1, .int x2, .int ((-1))] ((if x1 < 0 then (-101) else (if 4 ≤ x1 then (-101) else (-12)))) := by
  by_cases c0 : x1 < 0
  · rw [if_pos c0]
    exact ⟨0, 0, 42, 90324, _, by decide, by decide, by decide, by decide, by decide, (by exact wl_frame rfl), cx_shelve_e_n_n_t x1 x2 k1 k2 c0⟩
  · rw [if_neg c0]
    by_cases c1 : 4 ≤ x1
    · rw [if_pos c1]
      exact ⟨0, 0, 42, 90324, _, by decide, by decide, by decide, by decide, by decide, (by exact wl_frame rfl), cx_shelve_e_n_n_ft x1 x2 k1 k2 c0 c1⟩
    · rw [if_neg c1]
      exact ⟨2, 44, 42, 90324, _, by decide, by decide, by decide, by decide, by decide, (by exact wl_frame rfl), cx_shelve_e_n_n_ff x1 x2 k1 k2 c0 c1⟩
theorem cx_shelve_e_n {l : Launch} {G : gG} (x1 : Int32) (x2 : Int32) (k1 : ¬ x2 < 0) : CX l G mX9_shelve [.ref (G.2.1 + 0), .int x1, .int x2, .int ((-1))] ((if x2 < 8 then (if x1 < 0 then (-101) else (if 4 ≤ x1 then (-101) else 1)) else (if x1 < 0 then (-101) else (if 4 ≤ x1 then (-101) else (-12))))) := by
  by_cases k2 : x2 < 8
  · rw [if_pos k2]
    exact cx_shelve_e_n_e x1 x2 k1 k2
  · rw [if_neg k2]
    exact cx_shelve_e_n_n x1 x2 k1 k2
theorem cx_shelve_e {l : Launch} {G : gG} (x1 : Int32) (x2 : Int32) : CX l G mX9_shelve [.ref (G.2.1 + 0), .int x1, .int x2, .int ((-1))] ((if x2 < 0 then (if x1 < 0 then (-101) else (if 4 ≤ x1 then (-101) else (-12))) else (if x2 < 8 then (if x1 < 0 then (-101) else (if 4 ≤ x1 then (-101) else 1)) else (if x1 < 0 then (-101) else (if 4 ≤ x1 then (-101) else (-12)))))) := by
  by_cases k1 : x2 < 0
  · rw [if_pos k1]
    exact cx_shelve_e_e x1 x2 k1
  · rw [if_neg k1]
    exact cx_shelve_e_n x1 x2 k1
set_option maxRecDepth 100000 in
set_option maxHeartbeats 4000000 in
theorem cx_shelve_n_e_e_t {l : Launch} {G : gG} (x1 : Int32) (x2 : Int32) (x3 : Int32) (k0 : ¬ x3 = (-1)) (k1 : x2 < 0) (k2 : x2 < 8) (c0 : x1 < 0) : Ct l G mX9_shelve 0 0 [.ref (G.2.1 + 0), .int x1, .int x2, .int x3] 42 90324 (wl G.2.1 (LF G)) (some (.int ((-101))), 42, 90324, (wl G.2.1 (LF G))) := by
  refine Ct.of (by decide) (Nat.le_of_ble_eq_true rfl) ⟨Nat.le_refl _, Nat.le_refl _⟩ ?_
  show Go l G mX9_shelve _ 0 [(0, .ref (G.2.1 + 0)), (1, .int x1), (2, .int x2), (3, .int x3)] [] 42 90324 (wl G.2.1 (LF G))
  refine go_iload_n (pc := 0) dX9_shelve_0 rfl rfl ?_
  refine go_if_lt_t (pc := 1) (tgt := 17) dX9_shelve_1 (by decide) c0 ?_
  refine go_bipush (pc := 17) (v := (-101)) dX9_shelve_17 (by decide) ?_
  exact go_iret (pc := 19) rfl dX9_shelve_19
set_option maxRecDepth 100000 in
set_option maxHeartbeats 4000000 in
theorem cx_shelve_n_e_e_ft {l : Launch} {G : gG} (x1 : Int32) (x2 : Int32) (x3 : Int32) (k0 : ¬ x3 = (-1)) (k1 : x2 < 0) (k2 : x2 < 8) (c0 : ¬ x1 < 0) (c1 : 4 ≤ x1) : Ct l G mX9_shelve 0 0 [.ref (G.2.1 + 0), .int x1, .int x2, .int x3] 42 90324 (wl G.2.1 (LF G)) (some (.int ((-101))), 42, 90324, (wl G.2.1 (LF G))) := by
  refine Ct.of (by decide) (Nat.le_of_ble_eq_true rfl) ⟨Nat.le_refl _, Nat.le_refl _⟩ ?_
  show Go l G mX9_shelve _ 0 [(0, .ref (G.2.1 + 0)), (1, .int x1), (2, .int x2), (3, .int x3)] [] 42 90324 (wl G.2.1 (LF G))
  refine go_iload_n (pc := 0) dX9_shelve_0 rfl rfl ?_
  refine go_if_lt_f (pc := 1) (tgt := 17) dX9_shelve_1 (by decide) c0 ?_
  refine go_iload_n (pc := 4) dX9_shelve_4 rfl rfl ?_
  refine go_iconst (pc := 5) (v := 4) dX9_shelve_5 (by decide) ?_
  refine go_icmp_ge_t (pc := 6) (tgt := 17) dX9_shelve_6 (by decide) c1 ?_
  refine go_bipush (pc := 17) (v := (-101)) dX9_shelve_17 (by decide) ?_
  exact go_iret (pc := 19) rfl dX9_shelve_19
set_option maxRecDepth 100000 in
set_option maxHeartbeats 4000000 in
theorem cX2_wasMade_3 {l : Launch} {G : gG} (x3 : Int32) : Ct l G mX2_wasMade 0 0 [.ref (G.2.1 + 2), .int x3] 42 90324 (wl G.2.1 (LF G)) (some (.int 0), 42, 90324, (wl G.2.1 (LF G))) := by
  refine Ct.of (by decide) (Nat.le_of_ble_eq_true rfl) ⟨Nat.le_refl _, Nat.le_refl _⟩ ?_
  show Go l G mX2_wasMade _ 0 [(0, .ref (G.2.1 + 2)), (1, .int x3)] [] 42 90324 (wl G.2.1 (LF G))
  refine go_iload_n (pc := 0) dX2_wasMade_0 rfl rfl ?_
  refine go_if_lt (pc := 1) (tgt := 16) dX2_wasMade_1 (by decide) (fun c0 => ?_) (fun c0 => ?_)
  · refine go_iconst (pc := 16) (v := 0) dX2_wasMade_16 (by decide) ?_
    exact go_zret (pc := 17) rfl rfl dX2_wasMade_17
  · refine go_iload_n (pc := 4) dX2_wasMade_4 rfl rfl ?_
    refine go_aload_n (pc := 5) dX2_wasMade_5 rfl rfl ?_
    refine go_get (pc := 6) fX2_32 rfl (gz_b (by decide)) (wl_at (i := 2) rfl) rfl dX2_wasMade_6 ?_
    refine go_icmp_ge_t (pc := 9) (tgt := 16) dX2_wasMade_9 (by decide) (Int32.not_lt.mp c0) ?_
    refine go_iconst (pc := 16) (v := 0) dX2_wasMade_16 (by decide) ?_
    exact go_zret (pc := 17) rfl rfl dX2_wasMade_17
set_option maxRecDepth 100000 in
set_option maxHeartbeats 4000000 in
theorem cX9_isUnknownTarget_3 {l : Launch} {G : gG} (x3 : Int32) (k0 : ¬ x3 = (-1)) : Ct l G mX9_isUnknownTarget 1 21 [.ref (G.2.1 + 0), .int x3] 42 90324 (wl G.2.1 (LF G)) (some (.int 1), 42, 90324, (wl G.2.1 (LF G))) := by
  refine Ct.of (by decide) (Nat.le_of_ble_eq_true rfl) ⟨Nat.le_refl _, Nat.le_refl _⟩ ?_
  show Go l G mX9_isUnknownTarget _ 0 [(0, .ref (G.2.1 + 0)), (1, .int x3)] [] 42 90324 (wl G.2.1 (LF G))
  refine go_iload_n (pc := 0) dX9_isUnknownTarget_0 rfl rfl ?_
  refine go_iconst (pc := 1) (v := (-1)) dX9_isUnknownTarget_1 (by decide) ?_
  refine go_icmp_eq_f (pc := 2) (tgt := 23) dX9_isUnknownTarget_2 (by decide) k0 ?_
  refine go_aload_n (pc := 5) dX9_isUnknownTarget_5 rfl rfl ?_
  refine go_get (pc := 6) fX9_12 rfl (gz_b (by decide)) (wl_at (i := 0) rfl) rfl dX9_isUnknownTarget_6 ?_
  refine go_get (pc := 9) fX9_78 rfl (gz_b (by decide)) (wl_at (i := 1) rfl) rfl dX9_isUnknownTarget_9 ?_
  refine go_iload_n (pc := 12) dX9_isUnknownTarget_12 rfl rfl ?_
  refine go_callV_i (pc := 13) vX9_82 rfl (cX2_wasMade_3 x3) rfl rfl (gz_b (by decide)) (wl_at (i := 2) rfl) rfl (Nat.le_of_ble_eq_true rfl) ⟨Nat.le_of_ble_eq_true rfl, Nat.le_of_ble_eq_true rfl, (Nat.le_add_right _ _), (Nat.le_add_right _ _)⟩ dX9_isUnknownTarget_13 ?_
  refine go_if_ne_f (pc := 16) (tgt := 23) dX9_isUnknownTarget_16 (by decide) (by decide) ?_
  refine go_iconst (pc := 19) (v := 1) dX9_isUnknownTarget_19 (by decide) ?_
  refine go_goto (pc := 20) (tgt := 24) dX9_isUnknownTarget_20 (by decide) ?_
  exact go_zret (pc := 24) rfl rfl dX9_isUnknownTarget_24
set_option maxRecDepth 100000 in
set_option maxHeartbeats 4000000 in
theorem cx_shelve_n_e_e_ff {l : Launch} {G : gG} (x1 : Int32) (x2 : Int32) (x3 : Int32) (k0 : ¬ x3 = (-1)) (k1 : x2 < 0) (k2 : x2 < 8) (c0 : ¬ x1 < 0) (c1 : ¬ 4 ≤ x1) : Ct l G mX9_shelve 2 42 [.ref (G.2.1 + 0), .int x1, .int x2, .int x3] 42 90324 (wl G.2.1 (LF G)) (some (.int ((-101))), 42, 90324, (wl G.2.1 (LF G))) := by
  refine Ct.of (by decide) (Nat.le_of_ble_eq_true rfl) ⟨Nat.le_refl _, Nat.le_refl _⟩ ?_
  show Go l G mX9_shelve _ 0 [(0, .ref (G.2.1 + 0)), (1, .int x1), (2, .int x2), (3, .int x3)] [] 42 90324 (wl G.2.1 (LF G))
  refine go_iload_n (pc := 0) dX9_shelve_0 rfl rfl ?_
  refine go_if_lt_f (pc := 1) (tgt := 17) dX9_shelve_1 (by decide) c0 ?_
  refine go_iload_n (pc := 4) dX9_shelve_4 rfl rfl ?_
  refine go_iconst (pc := 5) (v := 4) dX9_shelve_5 (by decide) ?_
  refine go_icmp_ge_f (pc := 6) (tgt := 17) dX9_shelve_6 (by decide) c1 ?_
  refine go_aload_n (pc := 9) dX9_shelve_9 rfl rfl ?_
  refine go_iload_n (pc := 10) dX9_shelve_10 rfl rfl ?_
  refine go_callV_i (pc := 11) vX9_119 rfl (cX9_isUnknownTarget_3 x3 k0) rfl rfl (gz_b (by decide)) (wl_at (i := 0) rfl) rfl (Nat.le_of_ble_eq_true rfl) ⟨Nat.le_of_ble_eq_true rfl, Nat.le_of_ble_eq_true rfl, (Nat.le_add_right _ _), (Nat.le_add_right _ _)⟩ dX9_shelve_11 ?_
  refine go_if_eq_f (pc := 14) (tgt := 20) dX9_shelve_14 (by decide) (by decide) ?_
  refine go_bipush (pc := 17) (v := (-101)) dX9_shelve_17 (by decide) ?_
  exact go_iret (pc := 19) rfl dX9_shelve_19
theorem cx_shelve_n_e_e {l : Launch} {G : gG} (x1 : Int32) (x2 : Int32) (x3 : Int32) (k0 : ¬ x3 = (-1)) (k1 : x2 < 0) (k2 : x2 < 8) : CX l G mX9_shelve [.ref (G.2.1 + 0), .int x1, .int x2, .int x3] ((-101)) := by
  by_cases c0 : x1 < 0
  · exact ⟨0, 0, 42, 90324, _, by decide, by decide, by decide, by decide, by decide, (by exact wl_frame rfl), cx_shelve_n_e_e_t x1 x2 x3 k0 k1 k2 c0⟩
  · by_cases c1 : 4 ≤ x1
    · exact ⟨0, 0, 42, 90324, _, by decide, by decide, by decide, by decide, by decide, (by exact wl_frame rfl), cx_shelve_n_e_e_ft x1 x2 x3 k0 k1 k2 c0 c1⟩
    · exact ⟨2, 42, 42, 90324, _, by decide, by decide, by decide, by decide, by decide, (by exact wl_frame rfl), cx_shelve_n_e_e_ff x1 x2 x3 k0 k1 k2 c0 c1⟩
set_option maxRecDepth 100000 in
set_option maxHeartbeats 4000000 in
theorem cx_shelve_n_e_n_t {l : Launch} {G : gG} (x1 : Int32) (x2 : Int32) (x3 : Int32) (k0 : ¬ x3 = (-1)) (k1 : x2 < 0) (k2 : ¬ x2 < 8) (c0 : x1 < 0) : Ct l G mX9_shelve 0 0 [.ref (G.2.1 + 0), .int x1, .int x2, .int x3] 42 90324 (wl G.2.1 (LF G)) (some (.int ((-101))), 42, 90324, (wl G.2.1 (LF G))) := by
  refine Ct.of (by decide) (Nat.le_of_ble_eq_true rfl) ⟨Nat.le_refl _, Nat.le_refl _⟩ ?_
  show Go l G mX9_shelve _ 0 [(0, .ref (G.2.1 + 0)), (1, .int x1), (2, .int x2), (3, .int x3)] [] 42 90324 (wl G.2.1 (LF G))
  refine go_iload_n (pc := 0) dX9_shelve_0 rfl rfl ?_
  refine go_if_lt_t (pc := 1) (tgt := 17) dX9_shelve_1 (by decide) c0 ?_
  refine go_bipush (pc := 17) (v := (-101)) dX9_shelve_17 (by decide) ?_
  exact go_iret (pc := 19) rfl dX9_shelve_19
set_option maxRecDepth 100000 in
set_option maxHeartbeats 4000000 in
theorem cx_shelve_n_e_n_ft {l : Launch} {G : gG} (x1 : Int32) (x2 : Int32) (x3 : Int32) (k0 : ¬ x3 = (-1)) (k1 : x2 < 0) (k2 : ¬ x2 < 8) (c0 : ¬ x1 < 0) (c1 : 4 ≤ x1) : Ct l G mX9_shelve 0 0 [.ref (G.2.1 + 0), .int x1, .int x2, .int x3] 42 90324 (wl G.2.1 (LF G)) (some (.int ((-101))), 42, 90324, (wl G.2.1 (LF G))) := by
  refine Ct.of (by decide) (Nat.le_of_ble_eq_true rfl) ⟨Nat.le_refl _, Nat.le_refl _⟩ ?_
  show Go l G mX9_shelve _ 0 [(0, .ref (G.2.1 + 0)), (1, .int x1), (2, .int x2), (3, .int x3)] [] 42 90324 (wl G.2.1 (LF G))
  refine go_iload_n (pc := 0) dX9_shelve_0 rfl rfl ?_
  refine go_if_lt_f (pc := 1) (tgt := 17) dX9_shelve_1 (by decide) c0 ?_
  refine go_iload_n (pc := 4) dX9_shelve_4 rfl rfl ?_
  refine go_iconst (pc := 5) (v := 4) dX9_shelve_5 (by decide) ?_
  refine go_icmp_ge_t (pc := 6) (tgt := 17) dX9_shelve_6 (by decide) c1 ?_
  refine go_bipush (pc := 17) (v := (-101)) dX9_shelve_17 (by decide) ?_
  exact go_iret (pc := 19) rfl dX9_shelve_19
set_option maxRecDepth 100000 in
set_option maxHeartbeats 4000000 in
theorem cx_shelve_n_e_n_ff {l : Launch} {G : gG} (x1 : Int32) (x2 : Int32) (x3 : Int32) (k0 : ¬ x3 = (-1)) (k1 : x2 < 0) (k2 : ¬ x2 < 8) (c0 : ¬ x1 < 0) (c1 : ¬ 4 ≤ x1) : Ct l G mX9_shelve 2 42 [.ref (G.2.1 + 0), .int x1, .int x2, .int x3] 42 90324 (wl G.2.1 (LF G)) (some (.int ((-101))), 42, 90324, (wl G.2.1 (LF G))) := by
  refine Ct.of (by decide) (Nat.le_of_ble_eq_true rfl) ⟨Nat.le_refl _, Nat.le_refl _⟩ ?_
  show Go l G mX9_shelve _ 0 [(0, .ref (G.2.1 + 0)), (1, .int x1), (2, .int x2), (3, .int x3)] [] 42 90324 (wl G.2.1 (LF G))
  refine go_iload_n (pc := 0) dX9_shelve_0 rfl rfl ?_
  refine go_if_lt_f (pc := 1) (tgt := 17) dX9_shelve_1 (by decide) c0 ?_
  refine go_iload_n (pc := 4) dX9_shelve_4 rfl rfl ?_
  refine go_iconst (pc := 5) (v := 4) dX9_shelve_5 (by decide) ?_
  refine go_icmp_ge_f (pc := 6) (tgt := 17) dX9_shelve_6 (by decide) c1 ?_
  refine go_aload_n (pc := 9) dX9_shelve_9 rfl rfl ?_
  refine go_iload_n (pc := 10) dX9_shelve_10 rfl rfl ?_
  refine go_callV_i (pc := 11) vX9_119 rfl (cX9_isUnknownTarget_3 x3 k0) rfl rfl (gz_b (by decide)) (wl_at (i := 0) rfl) rfl (Nat.le_of_ble_eq_true rfl) ⟨Nat.le_of_ble_eq_true rfl, Nat.le_of_ble_eq_true rfl, (Nat.le_add_right _ _), (Nat.le_add_right _ _)⟩ dX9_shelve_11 ?_
  refine go_if_eq_f (pc := 14) (tgt := 20) dX9_shelve_14 (by decide) (by decide) ?_
  refine go_bipush (pc := 17) (v := (-101)) dX9_shelve_17 (by decide) ?_
  exact go_iret (pc := 19) rfl dX9_shelve_19
theorem cx_shelve_n_e_n {l : Launch} {G : gG} (x1 : Int32) (x2 : Int32) (x3 : Int32) (k0 : ¬ x3 = (-1)) (k1 : x2 < 0) (k2 : ¬ x2 < 8) : CX l G mX9_shelve [.ref (G.2.1 + 0), .int x1, .int x2, .int x3] ((-101)) := by
  by_cases c0 : x1 < 0
  · exact ⟨0, 0, 42, 90324, _, by decide, by decide, by decide, by decide, by decide, (by exact wl_frame rfl), cx_shelve_n_e_n_t x1 x2 x3 k0 k1 k2 c0⟩
  · by_cases c1 : 4 ≤ x1
    · exact ⟨0, 0, 42, 90324, _, by decide, by decide, by decide, by decide, by decide, (by exact wl_frame rfl), cx_shelve_n_e_n_ft x1 x2 x3 k0 k1 k2 c0 c1⟩
    · exact ⟨2, 42, 42, 90324, _, by decide, by decide, by decide, by decide, by decide, (by exact wl_frame rfl), cx_shelve_n_e_n_ff x1 x2 x3 k0 k1 k2 c0 c1⟩
theorem cx_shelve_n_e {l : Launch} {G : gG} (x1 : Int32) (x2 : Int32) (x3 : Int32) (k0 : ¬ x3 = (-1)) (k1 : x2 < 0) : CX l G mX9_shelve [.ref (G.2.1 + 0), .int x1, .int x2, .int x3] ((-101)) := by
  by_cases k2 : x2 < 8
  · exact cx_shelve_n_e_e x1 x2 x3 k0 k1 k2
  · exact cx_shelve_n_e_n x1 x2 x3 k0 k1 k2
set_option maxRecDepth 100000 in
set_option maxHeartbeats 4000000 in
theorem cx_shelve_n_n_e_t {l : Launch} {G : gG} (x1 : Int32) (x2 : Int32) (x3 : Int32) (k0 : ¬ x3 = (-1)) (k1 : ¬ x2 < 0) (k2 : x2 < 8) (c0 : x1 < 0) : Ct l G mX9_shelve 0 0 [.ref (G.2.1 + 0), .int x1, .int x2, .int x3] 42 90324 (wl G.2.1 (LF G)) (some (.int ((-101))), 42, 90324, (wl G.2.1 (LF G))) := by
  refine Ct.of (by decide) (Nat.le_of_ble_eq_true rfl) ⟨Nat.le_refl _, Nat.le_refl _⟩ ?_
  show Go l G mX9_shelve _ 0 [(0, .ref (G.2.1 + 0)), (1, .int x1), (2, .int x2), (3, .int x3)] [] 42 90324 (wl G.2.1 (LF G))
  refine go_iload_n (pc := 0) dX9_shelve_0 rfl rfl ?_
  refine go_if_lt_t (pc := 1) (tgt := 17) dX9_shelve_1 (by decide) c0 ?_
  refine go_bipush (pc := 17) (v := (-101)) dX9_shelve_17 (by decide) ?_
  exact go_iret (pc := 19) rfl dX9_shelve_19
set_option maxRecDepth 100000 in
set_option maxHeartbeats 4000000 in
theorem cx_shelve_n_n_e_ft {l : Launch} {G : gG} (x1 : Int32) (x2 : Int32) (x3 : Int32) (k0 : ¬ x3 = (-1)) (k1 : ¬ x2 < 0) (k2 : x2 < 8) (c0 : ¬ x1 < 0) (c1 : 4 ≤ x1) : Ct l G mX9_shelve 0 0 [.ref (G.2.1 + 0), .int x1, .int x2, .int x3] 42 90324 (wl G.2.1 (LF G)) (some (.int ((-101))), 42, 90324, (wl G.2.1 (LF G))) := by
  refine Ct.of (by decide) (Nat.le_of_ble_eq_true rfl) ⟨Nat.le_refl _, Nat.le_refl _⟩ ?_
  show Go l G mX9_shelve _ 0 [(0, .ref (G.2.1 + 0)), (1, .int x1), (2, .int x2), (3, .int x3)] [] 42 90324 (wl G.2.1 (LF G))
  refine go_iload_n (pc := 0) dX9_shelve_0 rfl rfl ?_
  refine go_if_lt_f (pc := 1) (tgt := 17) dX9_shelve_1 (by decide) c0 ?_
  refine go_iload_n (pc := 4) dX9_shelve_4 rfl rfl ?_
  refine go_iconst (pc := 5) (v := 4) dX9_shelve_5 (by decide) ?_
  refine go_icmp_ge_t (pc := 6) (tgt := 17) dX9_shelve_6 (by decide) c1 ?_
  refine go_bipush (pc := 17) (v := (-101)) dX9_shelve_17 (by decide) ?_
  exact go_iret (pc := 19) rfl dX9_shelve_19
set_option maxRecDepth 100000 in
set_option maxHeartbeats 4000000 in
theorem cx_shelve_n_n_e_ff {l : Launch} {G : gG} (x1 : Int32) (x2 : Int32) (x3 : Int32) (k0 : ¬ x3 = (-1)) (k1 : ¬ x2 < 0) (k2 : x2 < 8) (c0 : ¬ x1 < 0) (c1 : ¬ 4 ≤ x1) : Ct l G mX9_shelve 2 42 [.ref (G.2.1 + 0), .int x1, .int x2, .int x3] 42 90324 (wl G.2.1 (LF G)) (some (.int ((-101))), 42, 90324, (wl G.2.1 (LF G))) := by
  refine Ct.of (by decide) (Nat.le_of_ble_eq_true rfl) ⟨Nat.le_refl _, Nat.le_refl _⟩ ?_
  show Go l G mX9_shelve _ 0 [(0, .ref (G.2.1 + 0)), (1, .int x1), (2, .int x2), (3, .int x3)] [] 42 90324 (wl G.2.1 (LF G))
  refine go_iload_n (pc := 0) dX9_shelve_0 rfl rfl ?_
  refine go_if_lt_f (pc := 1) (tgt := 17) dX9_shelve_1 (by decide) c0 ?_
  refine go_iload_n (pc := 4) dX9_shelve_4 rfl rfl ?_
  refine go_iconst (pc := 5) (v := 4) dX9_shelve_5 (by decide) ?_
  refine go_icmp_ge_f (pc := 6) (tgt := 17) dX9_shelve_6 (by decide) c1 ?_
  refine go_aload_n (pc := 9) dX9_shelve_9 rfl rfl ?_
  refine go_iload_n (pc := 10) dX9_shelve_10 rfl rfl ?_
  refine go_callV_i (pc := 11) vX9_119 rfl (cX9_isUnknownTarget_3 x3 k0) rfl rfl (gz_b (by decide)) (wl_at (i := 0) rfl) rfl (Nat.le_of_ble_eq_true rfl) ⟨Nat.le_of_ble_eq_true rfl, Nat.le_of_ble_eq_true rfl, (Nat.le_add_right _ _), (Nat.le_add_right _ _)⟩ dX9_shelve_11 ?_
  refine go_if_eq_f (pc := 14) (tgt := 20) dX9_shelve_14 (by decide) (by decide) ?_
  refine go_bipush (pc := 17) (v := (-101)) dX9_shelve_17 (by decide) ?_
  exact go_iret (pc := 19) rfl dX9_shelve_19
theorem cx_shelve_n_n_e {l : Launch} {G : gG} (x1 : Int32) (x2 : Int32) (x3 : Int32) (k0 : ¬ x3 = (-1)) (k1 : ¬ x2 < 0) (k2 : x2 < 8) : CX l G mX9_shelve [.ref (G.2.1 + 0), .int x1, .int x2, .int x3] ((-101)) := by
  by_cases c0 : x1 < 0
  · exact ⟨0, 0, 42, 90324, _, by decide, by decide, by decide, by decide, by decide, (by exact wl_frame rfl), cx_shelve_n_n_e_t x1 x2 x3 k0 k1 k2 c0⟩
  · by_cases c1 : 4 ≤ x1
    · exact ⟨0, 0, 42, 90324, _, by decide, by decide, by decide, by decide, by decide, (by exact wl_frame rfl), cx_shelve_n_n_e_ft x1 x2 x3 k0 k1 k2 c0 c1⟩
    · exact ⟨2, 42, 42, 90324, _, by decide, by decide, by decide, by decide, by decide, (by exact wl_frame rfl), cx_shelve_n_n_e_ff x1 x2 x3 k0 k1 k2 c0 c1⟩
set_option maxRecDepth 100000 in
set_option maxHeartbeats 4000000 in
theorem cx_shelve_n_n_n_t {l : Launch} {G : gG} (x1 : Int32) (x2 : Int32) (x3 : Int32) (k0 : ¬ x3 = (-1)) (k1 : ¬ x2 < 0) (k2 : ¬ x2 < 8) (c0 : x1 < 0) : Ct l G mX9_shelve 0 0 [.ref (G.2.1 + 0), .int x1, .int x2, .int x3] 42 90324 (wl G.2.1 (LF G)) (some (.int ((-101))), 42, 90324, (wl G.2.1 (LF G))) := by
  refine Ct.of (by decide) (Nat.le_of_ble_eq_true rfl) ⟨Nat.le_refl _, Nat.le_refl _⟩ ?_
  show Go l G mX9_shelve _ 0 [(0, .ref (G.2.1 + 0)), (1, .int x1), (2, .int x2), (3, .int x3)] [] 42 90324 (wl G.2.1 (LF G))
  refine go_iload_n (pc := 0) dX9_shelve_0 rfl rfl ?_
  refine go_if_lt_t (pc := 1) (tgt := 17) dX9_shelve_1 (by decide) c0 ?_
  refine go_bipush (pc := 17) (v := (-101)) dX9_shelve_17 (by decide) ?_
  exact go_iret (pc := 19) rfl dX9_shelve_19
set_option maxRecDepth 100000 in
set_option maxHeartbeats 4000000 in
theorem cx_shelve_n_n_n_ft {l : Launch} {G : gG} (x1 : Int32) (x2 : Int32) (x3 : Int32) (k0 : ¬ x3 = (-1)) (k1 : ¬ x2 < 0) (k2 : ¬ x2 < 8) (c0 : ¬ x1 < 0) (c1 : 4 ≤ x1) : Ct l G mX9_shelve 0 0 [.ref (G.2.1 + 0), .int x1, .int x2, .int x3] 42 90324 (wl G.2.1 (LF G)) (some (.int ((-101))), 42, 90324, (wl G.2.1 (LF G))) := by
  refine Ct.of (by decide) (Nat.le_of_ble_eq_true rfl) ⟨Nat.le_refl _, Nat.le_refl _⟩ ?_
  show Go l G mX9_shelve _ 0 [(0, .ref (G.2.1 + 0)), (1, .int x1), (2, .int x2), (3, .int x3)] [] 42 90324 (wl G.2.1 (LF G))
  refine go_iload_n (pc := 0) dX9_shelve_0 rfl rfl ?_
  refine go_if_lt_f (pc := 1) (tgt := 17) dX9_shelve_1 (by decide) c0 ?_
  refine go_iload_n (pc := 4) dX9_shelve_4 rfl rfl ?_
  refine go_iconst (pc := 5) (v := 4) dX9_shelve_5 (by decide) ?_
  refine go_icmp_ge_t (pc := 6) (tgt := 17) dX9_shelve_6 (by decide) c1 ?_
  refine go_bipush (pc := 17) (v := (-101)) dX9_shelve_17 (by decide) ?_
  exact go_iret (pc := 19) rfl dX9_shelve_19
set_option maxRecDepth 100000 in
set_option maxHeartbeats 4000000 in
theorem cx_shelve_n_n_n_ff {l : Launch} {G : gG} (x1 : Int32) (x2 : Int32) (x3 : Int32) (k0 : ¬ x3 = (-1)) (k1 : ¬ x2 < 0) (k2 : ¬ x2 < 8) (c0 : ¬ x1 < 0) (c1 : ¬ 4 ≤ x1) : Ct l G mX9_shelve 2 42 [.ref (G.2.1 + 0), .int x1, .int x2, .int x3] 42 90324 (wl G.2.1 (LF G)) (some (.int ((-101))), 42, 90324, (wl G.2.1 (LF G))) := by
  refine Ct.of (by decide) (Nat.le_of_ble_eq_true rfl) ⟨Nat.le_refl _, Nat.le_refl _⟩ ?_
  show Go l G mX9_shelve _ 0 [(0, .ref (G.2.1 + 0)), (1, .int x1), (2, .int x2), (3, .int x3)] [] 42 90324 (wl G.2.1 (LF G))
  refine go_iload_n (pc := 0) dX9_shelve_0 rfl rfl ?_
  refine go_if_lt_f (pc := 1) (tgt := 17) dX9_shelve_1 (by decide) c0 ?_
  refine go_iload_n (pc := 4) dX9_shelve_4 rfl rfl ?_
  refine go_iconst (pc := 5) (v := 4) dX9_shelve_5 (by decide) ?_
  refine go_icmp_ge_f (pc := 6) (tgt := 17) dX9_shelve_6 (by decide) c1 ?_
  refine go_aload_n (pc := 9) dX9_shelve_9 rfl rfl ?_
  refine go_iload_n (pc := 10) dX9_shelve_10 rfl rfl ?_
  refine go_callV_i (pc := 11) vX9_119 rfl (cX9_isUnknownTarget_3 x3 k0) rfl rfl (gz_b (by decide)) (wl_at (i := 0) rfl) rfl (Nat.le_of_ble_eq_true rfl) ⟨Nat.le_of_ble_eq_true rfl, Nat.le_of_ble_eq_true rfl, (Nat.le_add_right _ _), (Nat.le_add_right _ _)⟩ dX9_shelve_11 ?_
  refine go_if_eq_f (pc := 14) (tgt := 20) dX9_shelve_14 (by decide) (by decide) ?_
  refine go_bipush (pc := 17) (v := (-101)) dX9_shelve_17 (by decide) ?_
  exact go_iret (pc := 19) rfl dX9_shelve_19
theorem cx_shelve_n_n_n {l : Launch} {G : gG} (x1 : Int32) (x2 : Int32) (x3 : Int32) (k0 : ¬ x3 = (-1)) (k1 : ¬ x2 < 0) (k2 : ¬ x2 < 8) : CX l G mX9_shelve [.ref (G.2.1 + 0), .int x1, .int x2, .int x3] ((-101)) := by
  by_cases c0 : x1 < 0
  · exact ⟨0, 0, 42, 90324, _, by decide, by decide, by decide, by decide, by decide, (by exact wl_frame rfl), cx_shelve_n_n_n_t x1 x2 x3 k0 k1 k2 c0⟩
  · by_cases c1 : 4 ≤ x1
    · exact ⟨0, 0, 42, 90324, _, by decide, by decide, by decide, by decide, by decide, (by exact wl_frame rfl), cx_shelve_n_n_n_ft x1 x2 x3 k0 k1 k2 c0 c1⟩
    · exact ⟨2, 42, 42, 90324, _, by decide, by decide, by decide, by decide, by decide, (by exact wl_frame rfl), cx_shelve_n_n_n_ff x1 x2 x3 k0 k1 k2 c0 c1⟩
theorem cx_shelve_n_n {l : Launch} {G : gG} (x1 : Int32) (x2 : Int32) (x3 : Int32) (k0 : ¬ x3 = (-1)) (k1 : ¬ x2 < 0) : CX l G mX9_shelve [.ref (G.2.1 + 0), .int x1, .int x2, .int x3] ((-101)) := by
  by_cases k2 : x2 < 8
  · exact cx_shelve_n_n_e x1 x2 x3 k0 k1 k2
  · exact cx_shelve_n_n_n x1 x2 x3 k0 k1 k2
theorem cx_shelve_n {l : Launch} {G : gG} (x1 : Int32) (x2 : Int32) (x3 : Int32) (k0 : ¬ x3 = (-1)) : CX l G mX9_shelve [.ref (G.2.1 + 0), .int x1, .int x2, .int x3] ((-101)) := by
  by_cases k1 : x2 < 0
  · exact cx_shelve_n_e x1 x2 x3 k0 k1
  · exact cx_shelve_n_n x1 x2 x3 k0 k1
theorem cx_shelve {l : Launch} {G : gG} (x1 : Int32) (x2 : Int32) (x3 : Int32) : CX l G mX9_shelve [.ref (G.2.1 + 0), .int x1, .int x2, .int x3] ((if x3 = (-1) then (if x2 < 0 then (if x1 < 0 then (-101) else (if 4 ≤ x1 then (-101) else (-12))) else (if x2 < 8 then (if x1 < 0 then (-101) else (if 4 ≤ x1 then (-101) else 1)) else (if x1 < 0 then (-101) else (if 4 ≤ x1 then (-101) else (-12))))) else (-101))) := by
  by_cases k0 : x3 = (-1)
  · subst k0
    rw [if_pos rfl]
    exact cx_shelve_e x1 x2
  · rw [if_neg k0]
    exact cx_shelve_n x1 x2 x3 k0
set_option maxRecDepth 100000 in
set_option maxHeartbeats 4000000 in
theorem cx_digest_o {l : Launch} {G : gG} : Ct l G mX9_digest 1 20 [.ref (G.2.1 + 0)] 42 90324 (wl G.2.1 (LF G)) (some (.int 359270233), 42, 90324, (wl G.2.1 (LF G))) := by
  refine Ct.of (by decide) (Nat.le_of_ble_eq_true rfl) ⟨Nat.le_refl _, Nat.le_refl _⟩ ?_
  show Go l G mX9_digest _ 0 [(0, .ref (G.2.1 + 0))] [] 42 90324 (wl G.2.1 (LF G))
  refine go_bipush (pc := 0) (v := 7) dX9_digest_0 (by decide) ?_
  refine go_istore_n (pc := 2) (lv' := [(1, .int 7), (0, .ref (G.2.1 + 0))]) dX9_digest_2 rfl (by decide) rfl ?_
  refine go_iconst (pc := 3) (v := 0) dX9_digest_3 (by decide) ?_
  refine go_istore_n (pc := 4) (lv' := [(2, .int 0), (1, .int 7), (0, .ref (G.2.1 + 0))]) dX9_digest_4 rfl (by decide) rfl ?_
  refine go_iload_n (pc := 5) dX9_digest_5 rfl rfl ?_
  refine go_aload_n (pc := 6) dX9_digest_6 rfl rfl ?_
  refine go_get (pc := 7) fX9_12 rfl (gz_b (by decide)) (wl_at (i := 0) rfl) rfl dX9_digest_7 ?_
  refine go_get (pc := 10) fX9_78 rfl (gz_b (by decide)) (wl_at (i := 1) rfl) rfl dX9_digest_10 ?_
  refine go_get (pc := 13) fX9_255 rfl (gz_b (by decide)) (wl_at (i := 2) rfl) rfl dX9_digest_13 ?_
  refine go_icmp_ge_t (pc := 16) (tgt := 43) dX9_digest_16 (by decide) (by decide) ?_
  refine go_iconst (pc := 43) (v := 0) dX9_digest_43 (by decide) ?_
  refine go_istore_n (pc := 44) (lv' := [(2, .int 0), (1, .int 7), (0, .ref (G.2.1 + 0))]) dX9_digest_44 rfl (by decide) rfl ?_
  refine go_iload_n (pc := 45) dX9_digest_45 rfl rfl ?_
  refine go_bipush (pc := 46) (v := 24) dX9_digest_46 (by decide) ?_
  refine go_icmp_ge_f (pc := 48) (tgt := 72) dX9_digest_48 (by decide) (by decide) ?_
  refine go_bipush (pc := 51) (v := 31) dX9_digest_51 (by decide) ?_
  refine go_iload_n (pc := 53) dX9_digest_53 rfl rfl ?_
  refine go_imul (pc := 54) dX9_digest_54 ?_
  refine go_top (y := 217) (by decide) ?_
  refine go_aload_n (pc := 55) dX9_digest_55 rfl rfl ?_
  refine go_get (pc := 56) fX9_12 rfl (gz_b (by decide)) (wl_at (i := 0) rfl) rfl dX9_digest_56 ?_
  refine go_get (pc := 59) fX9_156 rfl (gz_b (by decide)) (wl_at (i := 1) rfl) rfl dX9_digest_59 ?_
  refine go_iload_n (pc := 62) dX9_digest_62 rfl rfl ?_
  refine go_iald (pc := 63) (gz_b (by decide)) (wl_at (i := 20) rfl) (gv_in (by decide)) dX9_digest_63 ?_
  refine go_top (y := (-1)) rfl ?_
  refine go_iadd (pc := 64) dX9_digest_64 ?_
  refine go_top (y := 216) (by decide) ?_
  refine go_istore_n (pc := 65) (lv' := [(1, .int 216), (2, .int 0), (0, .ref (G.2.1 + 0))]) dX9_digest_65 rfl (by decide) rfl ?_
  refine go_iinc (pc := 66) (v := 1) (lv' := [(2, .int 1), (1, .int 216), (0, .ref (G.2.1 + 0))]) dX9_digest_66 1 rfl (by first | rfl | decide) (by decide) rfl ?_
  refine go_goto (pc := 69) (tgt := 45) dX9_digest_69 (by decide) ?_
  refine go_iload_n (pc := 45) dX9_digest_45 rfl rfl ?_
  refine go_bipush (pc := 46) (v := 24) dX9_digest_46 (by decide) ?_
  refine go_icmp_ge_f (pc := 48) (tgt := 72) dX9_digest_48 (by decide) (by decide) ?_
  refine go_bipush (pc := 51) (v := 31) dX9_digest_51 (by decide) ?_
  refine go_iload_n (pc := 53) dX9_digest_53 rfl rfl ?_
  refine go_imul (pc := 54) dX9_digest_54 ?_
  refine go_top (y := 6696) (by decide) ?_
  refine go_aload_n (pc := 55) dX9_digest_55 rfl rfl ?_
  refine go_get (pc := 56) fX9_12 rfl (gz_b (by decide)) (wl_at (i := 0) rfl) rfl dX9_digest_56 ?_
  refine go_get (pc := 59) fX9_156 rfl (gz_b (by decide)) (wl_at (i := 1) rfl) rfl dX9_digest_59 ?_
  refine go_iload_n (pc := 62) dX9_digest_62 rfl rfl ?_
  refine go_iald (pc := 63) (gz_b (by decide)) (wl_at (i := 20) rfl) (gv_in (by decide)) dX9_digest_63 ?_
  refine go_top (y := (-1)) rfl ?_
  refine go_iadd (pc := 64) dX9_digest_64 ?_
  refine go_top (y := 6695) (by decide) ?_
  refine go_istore_n (pc := 65) (lv' := [(1, .int 6695), (2, .int 1), (0, .ref (G.2.1 + 0))]) dX9_digest_65 rfl (by decide) rfl ?_
  refine go_iinc (pc := 66) (v := 2) (lv' := [(2, .int 2), (1, .int 6695), (0, .ref (G.2.1 + 0))]) dX9_digest_66 1 rfl (by first | rfl | decide) (by decide) rfl ?_
  refine go_goto (pc := 69) (tgt := 45) dX9_digest_69 (by decide) ?_
  refine go_iload_n (pc := 45) dX9_digest_45 rfl rfl ?_
  refine go_bipush (pc := 46) (v := 24) dX9_digest_46 (by decide) ?_
  refine go_icmp_ge_f (pc := 48) (tgt := 72) dX9_digest_48 (by decide) (by decide) ?_
  refine go_bipush (pc := 51) (v := 31) dX9_digest_51 (by decide) ?_
  refine go_iload_n (pc := 53) dX9_digest_53 rfl rfl ?_
  refine go_imul (pc := 54) dX9_digest_54 ?_
  refine go_top (y := 207545) (by decide) ?_
  refine go_aload_n (pc := 55) dX9_digest_55 rfl rfl ?_
  refine go_get (pc := 56) fX9_12 rfl (gz_b (by decide)) (wl_at (i := 0) rfl) rfl dX9_digest_56 ?_
  refine go_get (pc := 59) fX9_156 rfl (gz_b (by decide)) (wl_at (i := 1) rfl) rfl dX9_digest_59 ?_
  refine go_iload_n (pc := 62) dX9_digest_62 rfl rfl ?_
  refine go_iald (pc := 63) (gz_b (by decide)) (wl_at (i := 20) rfl) (gv_in (by decide)) dX9_digest_63 ?_
  refine go_top (y := (-1)) rfl ?_
  refine go_iadd (pc := 64) dX9_digest_64 ?_
  refine go_top (y := 207544) (by decide) ?_
  refine go_istore_n (pc := 65) (lv' := [(1, .int 207544), (2, .int 2), (0, .ref (G.2.1 + 0))]) dX9_digest_65 rfl (by decide) rfl ?_
  refine go_iinc (pc := 66) (v := 3) (lv' := [(2, .int 3), (1, .int 207544), (0, .ref (G.2.1 + 0))]) dX9_digest_66 1 rfl (by first | rfl | decide) (by decide) rfl ?_
  refine go_goto (pc := 69) (tgt := 45) dX9_digest_69 (by decide) ?_
  refine go_iload_n (pc := 45) dX9_digest_45 rfl rfl ?_
  refine go_bipush (pc := 46) (v := 24) dX9_digest_46 (by decide) ?_
  refine go_icmp_ge_f (pc := 48) (tgt := 72) dX9_digest_48 (by decide) (by decide) ?_
  refine go_bipush (pc := 51) (v := 31) dX9_digest_51 (by decide) ?_
  refine go_iload_n (pc := 53) dX9_digest_53 rfl rfl ?_
  refine go_imul (pc := 54) dX9_digest_54 ?_
  refine go_top (y := 6433864) (by decide) ?_
  refine go_aload_n (pc := 55) dX9_digest_55 rfl rfl ?_
  refine go_get (pc := 56) fX9_12 rfl (gz_b (by decide)) (wl_at (i := 0) rfl) rfl dX9_digest_56 ?_
  refine go_get (pc := 59) fX9_156 rfl (gz_b (by decide)) (wl_at (i := 1) rfl) rfl dX9_digest_59 ?_
  refine go_iload_n (pc := 62) dX9_digest_62 rfl rfl ?_
  refine go_iald (pc := 63) (gz_b (by decide)) (wl_at (i := 20) rfl) (gv_in (by decide)) dX9_digest_63 ?_
  refine go_top (y := (-1)) rfl ?_
  refine go_iadd (pc := 64) dX9_digest_64 ?_
  refine go_top (y := 6433863) (by decide) ?_
  refine go_istore_n (pc := 65) (lv' := [(1, .int 6433863), (2, .int 3), (0, .ref (G.2.1 + 0))]) dX9_digest_65 rfl (by decide) rfl ?_
  refine go_iinc (pc := 66) (v := 4) (lv' := [(2, .int 4), (1, .int 6433863), (0, .ref (G.2.1 + 0))]) dX9_digest_66 1 rfl (by first | rfl | decide) (by decide) rfl ?_
  refine go_goto (pc := 69) (tgt := 45) dX9_digest_69 (by decide) ?_
  refine go_iload_n (pc := 45) dX9_digest_45 rfl rfl ?_
  refine go_bipush (pc := 46) (v := 24) dX9_digest_46 (by decide) ?_
  refine go_icmp_ge_f (pc := 48) (tgt := 72) dX9_digest_48 (by decide) (by decide) ?_
  refine go_bipush (pc := 51) (v := 31) dX9_digest_51 (by decide) ?_
  refine go_iload_n (pc := 53) dX9_digest_53 rfl rfl ?_
  refine go_imul (pc := 54) dX9_digest_54 ?_
  refine go_top (y := 199449753) (by decide) ?_
  refine go_aload_n (pc := 55) dX9_digest_55 rfl rfl ?_
  refine go_get (pc := 56) fX9_12 rfl (gz_b (by decide)) (wl_at (i := 0) rfl) rfl dX9_digest_56 ?_
  refine go_get (pc := 59) fX9_156 rfl (gz_b (by decide)) (wl_at (i := 1) rfl) rfl dX9_digest_59 ?_
  refine go_iload_n (pc := 62) dX9_digest_62 rfl rfl ?_
  refine go_iald (pc := 63) (gz_b (by decide)) (wl_at (i := 20) rfl) (gv_in (by decide)) dX9_digest_63 ?_
  refine go_top (y := (-1)) rfl ?_
  refine go_iadd (pc := 64) dX9_digest_64 ?_
  refine go_top (y := 199449752) (by decide) ?_
  refine go_istore_n (pc := 65) (lv' := [(1, .int 199449752), (2, .int 4), (0, .ref (G.2.1 + 0))]) dX9_digest_65 rfl (by decide) rfl ?_
  refine go_iinc (pc := 66) (v := 5) (lv' := [(2, .int 5), (1, .int 199449752), (0, .ref (G.2.1 + 0))]) dX9_digest_66 1 rfl (by first | rfl | decide) (by decide) rfl ?_
  refine go_goto (pc := 69) (tgt := 45) dX9_digest_69 (by decide) ?_
  refine go_iload_n (pc := 45) dX9_digest_45 rfl rfl ?_
  refine go_bipush (pc := 46) (v := 24) dX9_digest_46 (by decide) ?_
  refine go_icmp_ge_f (pc := 48) (tgt := 72) dX9_digest_48 (by decide) (by decide) ?_
  refine go_bipush (pc := 51) (v := 31) dX9_digest_51 (by decide) ?_
  refine go_iload_n (pc := 53) dX9_digest_53 rfl rfl ?_
  refine go_imul (pc := 54) dX9_digest_54 ?_
  refine go_top (y := 1887975016) (by decide) ?_
  refine go_aload_n (pc := 55) dX9_digest_55 rfl rfl ?_
  refine go_get (pc := 56) fX9_12 rfl (gz_b (by decide)) (wl_at (i := 0) rfl) rfl dX9_digest_56 ?_
  refine go_get (pc := 59) fX9_156 rfl (gz_b (by decide)) (wl_at (i := 1) rfl) rfl dX9_digest_59 ?_
  refine go_iload_n (pc := 62) dX9_digest_62 rfl rfl ?_
  refine go_iald (pc := 63) (gz_b (by decide)) (wl_at (i := 20) rfl) (gv_in (by decide)) dX9_digest_63 ?_
  refine go_top (y := (-1)) rfl ?_
  refine go_iadd (pc := 64) dX9_digest_64 ?_
  refine go_top (y := 1887975015) (by decide) ?_
  refine go_istore_n (pc := 65) (lv' := [(1, .int 1887975015), (2, .int 5), (0, .ref (G.2.1 + 0))]) dX9_digest_65 rfl (by decide) rfl ?_
  refine go_iinc (pc := 66) (v := 6) (lv' := [(2, .int 6), (1, .int 1887975015), (0, .ref (G.2.1 + 0))]) dX9_digest_66 1 rfl (by first | rfl | decide) (by decide) rfl ?_
  refine go_goto (pc := 69) (tgt := 45) dX9_digest_69 (by decide) ?_
  refine go_iload_n (pc := 45) dX9_digest_45 rfl rfl ?_
  refine go_bipush (pc := 46) (v := 24) dX9_digest_46 (by decide) ?_
  refine go_icmp_ge_f (pc := 48) (tgt := 72) dX9_digest_48 (by decide) (by decide) ?_
  refine go_bipush (pc := 51) (v := 31) dX9_digest_51 (by decide) ?_
  refine go_iload_n (pc := 53) dX9_digest_53 rfl rfl ?_
  refine go_imul (pc := 54) dX9_digest_54 ?_
  refine go_top (y := (-1602316679)) (by decide) ?_
  refine go_aload_n (pc := 55) dX9_digest_55 rfl rfl ?_
  refine go_get (pc := 56) fX9_12 rfl (gz_b (by decide)) (wl_at (i := 0) rfl) rfl dX9_digest_56 ?_
  refine go_get (pc := 59) fX9_156 rfl (gz_b (by decide)) (wl_at (i := 1) rfl) rfl dX9_digest_59 ?_
  refine go_iload_n (pc := 62) dX9_digest_62 rfl rfl ?_
  refine go_iald (pc := 63) (gz_b (by decide)) (wl_at (i := 20) rfl) (gv_in (by decide)) dX9_digest_63 ?_
  refine go_top (y := (-1)) rfl ?_
  refine go_iadd (pc := 64) dX9_digest_64 ?_
  refine go_top (y := (-1602316680)) (by decide) ?_
  refine go_istore_n (pc := 65) (lv' := [(1, .int ((-1602316680))), (2, .int 6), (0, .ref (G.2.1 + 0))]) dX9_digest_65 rfl (by decide) rfl ?_
  refine go_iinc (pc := 66) (v := 7) (lv' := [(2, .int 7), (1, .int ((-1602316680))), (0, .ref (G.2.1 + 0))]) dX9_digest_66 1 rfl (by first | rfl | decide) (by decide) rfl ?_
  refine go_goto (pc := 69) (tgt := 45) dX9_digest_69 (by decide) ?_
  refine go_iload_n (pc := 45) dX9_digest_45 rfl rfl ?_
  refine go_bipush (pc := 46) (v := 24) dX9_digest_46 (by decide) ?_
  refine go_icmp_ge_f (pc := 48) (tgt := 72) dX9_digest_48 (by decide) (by decide) ?_
  refine go_bipush (pc := 51) (v := 31) dX9_digest_51 (by decide) ?_
  refine go_iload_n (pc := 53) dX9_digest_53 rfl rfl ?_
  refine go_imul (pc := 54) dX9_digest_54 ?_
  refine go_top (y := 1867790472) (by decide) ?_
  refine go_aload_n (pc := 55) dX9_digest_55 rfl rfl ?_
  refine go_get (pc := 56) fX9_12 rfl (gz_b (by decide)) (wl_at (i := 0) rfl) rfl dX9_digest_56 ?_
  refine go_get (pc := 59) fX9_156 rfl (gz_b (by decide)) (wl_at (i := 1) rfl) rfl dX9_digest_59 ?_
  refine go_iload_n (pc := 62) dX9_digest_62 rfl rfl ?_
  refine go_iald (pc := 63) (gz_b (by decide)) (wl_at (i := 20) rfl) (gv_in (by decide)) dX9_digest_63 ?_
  refine go_top (y := (-1)) rfl ?_
  refine go_iadd (pc := 64) dX9_digest_64 ?_
  refine go_top (y := 1867790471) (by decide) ?_
  refine go_istore_n (pc := 65) (lv' := [(1, .int 1867790471), (2, .int 7), (0, .ref (G.2.1 + 0))]) dX9_digest_65 rfl (by decide) rfl ?_
  refine go_iinc (pc := 66) (v := 8) (lv' := [(2, .int 8), (1, .int 1867790471), (0, .ref (G.2.1 + 0))]) dX9_digest_66 1 rfl (by first | rfl | decide) (by decide) rfl ?_
  refine go_goto (pc := 69) (tgt := 45) dX9_digest_69 (by decide) ?_
  refine go_iload_n (pc := 45) dX9_digest_45 rfl rfl ?_
  refine go_bipush (pc := 46) (v := 24) dX9_digest_46 (by decide) ?_
  refine go_icmp_ge_f (pc := 48) (tgt := 72) dX9_digest_48 (by decide) (by decide) ?_
  refine go_bipush (pc := 51) (v := 31) dX9_digest_51 (by decide) ?_
  refine go_iload_n (pc := 53) dX9_digest_53 rfl rfl ?_
  refine go_imul (pc := 54) dX9_digest_54 ?_
  refine go_top (y := 2066929753) (by decide) ?_
  refine go_aload_n (pc := 55) dX9_digest_55 rfl rfl ?_
  refine go_get (pc := 56) fX9_12 rfl (gz_b (by decide)) (wl_at (i := 0) rfl) rfl dX9_digest_56 ?_
  refine go_get (pc := 59) fX9_156 rfl (gz_b (by decide)) (wl_at (i := 1) rfl) rfl dX9_digest_59 ?_
  refine go_iload_n (pc := 62) dX9_digest_62 rfl rfl ?_
  refine go_iald (pc := 63) (gz_b (by decide)) (wl_at (i := 20) rfl) (gv_in (by decide)) dX9_digest_63 ?_
  refine go_top (y := (-1)) rfl ?_
  refine go_iadd (pc := 64) dX9_digest_64 ?_
  refine go_top (y := 2066929752) (by decide) ?_
  refine go_istore_n (pc := 65) (lv' := [(1, .int 2066929752), (2, .int 8), (0, .ref (G.2.1 + 0))]) dX9_digest_65 rfl (by decide) rfl ?_
  refine go_iinc (pc := 66) (v := 9) (lv' := [(2, .int 9), (1, .int 2066929752), (0, .ref (G.2.1 + 0))]) dX9_digest_66 1 rfl (by first | rfl | decide) (by decide) rfl ?_
  refine go_goto (pc := 69) (tgt := 45) dX9_digest_69 (by decide) ?_
  refine go_iload_n (pc := 45) dX9_digest_45 rfl rfl ?_
  refine go_bipush (pc := 46) (v := 24) dX9_digest_46 (by decide) ?_
  refine go_icmp_ge_f (pc := 48) (tgt := 72) dX9_digest_48 (by decide) (by decide) ?_
  refine go_bipush (pc := 51) (v := 31) dX9_digest_51 (by decide) ?_
  refine go_iload_n (pc := 53) dX9_digest_53 rfl rfl ?_
  refine go_imul (pc := 54) dX9_digest_54 ?_
  refine go_top (y := (-349687128)) (by decide) ?_
  refine go_aload_n (pc := 55) dX9_digest_55 rfl rfl ?_
  refine go_get (pc := 56) fX9_12 rfl (gz_b (by decide)) (wl_at (i := 0) rfl) rfl dX9_digest_56 ?_
  refine go_get (pc := 59) fX9_156 rfl (gz_b (by decide)) (wl_at (i := 1) rfl) rfl dX9_digest_59 ?_
  refine go_iload_n (pc := 62) dX9_digest_62 rfl rfl ?_
  refine go_iald (pc := 63) (gz_b (by decide)) (wl_at (i := 20) rfl) (gv_in (by decide)) dX9_digest_63 ?_
  refine go_top (y := (-1)) rfl ?_
  refine go_iadd (pc := 64) dX9_digest_64 ?_
  refine go_top (y := (-349687129)) (by decide) ?_
  refine go_istore_n (pc := 65) (lv' := [(1, .int ((-349687129))), (2, .int 9), (0, .ref (G.2.1 + 0))]) dX9_digest_65 rfl (by decide) rfl ?_
  refine go_iinc (pc := 66) (v := 10) (lv' := [(2, .int 10), (1, .int ((-349687129))), (0, .ref (G.2.1 + 0))]) dX9_digest_66 1 rfl (by first | rfl | decide) (by decide) rfl ?_
  refine go_goto (pc := 69) (tgt := 45) dX9_digest_69 (by decide) ?_
  refine go_iload_n (pc := 45) dX9_digest_45 rfl rfl ?_
  refine go_bipush (pc := 46) (v := 24) dX9_digest_46 (by decide) ?_
  refine go_icmp_ge_f (pc := 48) (tgt := 72) dX9_digest_48 (by decide) (by decide) ?_
  refine go_bipush (pc := 51) (v := 31) dX9_digest_51 (by decide) ?_
  refine go_iload_n (pc := 53) dX9_digest_53 rfl rfl ?_
  refine go_imul (pc := 54) dX9_digest_54 ?_
  refine go_top (y := 2044600889) (by decide) ?_
  refine go_aload_n (pc := 55) dX9_digest_55 rfl rfl ?_
  refine go_get (pc := 56) fX9_12 rfl (gz_b (by decide)) (wl_at (i := 0) rfl) rfl dX9_digest_56 ?_
  refine go_get (pc := 59) fX9_156 rfl (gz_b (by decide)) (wl_at (i := 1) rfl) rfl dX9_digest_59 ?_
  refine go_iload_n (pc := 62) dX9_digest_62 rfl rfl ?_
  refine go_iald (pc := 63) (gz_b (by decide)) (wl_at (i := 20) rfl) (gv_in (by decide)) dX9_digest_63 ?_
  refine go_top (y := (-1)) rfl ?_
  refine go_iadd (pc := 64) dX9_digest_64 ?_
  refine go_top (y := 2044600888) (by decide) ?_
  refine go_istore_n (pc := 65) (lv' := [(1, .int 2044600888), (2, .int 10), (0, .ref (G.2.1 + 0))]) dX9_digest_65 rfl (by decide) rfl ?_
  refine go_iinc (pc := 66) (v := 11) (lv' := [(2, .int 11), (1, .int 2044600888), (0, .ref (G.2.1 + 0))]) dX9_digest_66 1 rfl (by first | rfl | decide) (by decide) rfl ?_
  refine go_goto (pc := 69) (tgt := 45) dX9_digest_69 (by decide) ?_
  refine go_iload_n (pc := 45) dX9_digest_45 rfl rfl ?_
  refine go_bipush (pc := 46) (v := 24) dX9_digest_46 (by decide) ?_
  refine go_icmp_ge_f (pc := 48) (tgt := 72) dX9_digest_48 (by decide) (by decide) ?_
  refine go_bipush (pc := 51) (v := 31) dX9_digest_51 (by decide) ?_
  refine go_iload_n (pc := 53) dX9_digest_53 rfl rfl ?_
  refine go_imul (pc := 54) dX9_digest_54 ?_
  refine go_top (y := (-1041881912)) (by decide) ?_
  refine go_aload_n (pc := 55) dX9_digest_55 rfl rfl ?_
  refine go_get (pc := 56) fX9_12 rfl (gz_b (by decide)) (wl_at (i := 0) rfl) rfl dX9_digest_56 ?_
  refine go_get (pc := 59) fX9_156 rfl (gz_b (by decide)) (wl_at (i := 1) rfl) rfl dX9_digest_59 ?_
  refine go_iload_n (pc := 62) dX9_digest_62 rfl rfl ?_
  refine go_iald (pc := 63) (gz_b (by decide)) (wl_at (i := 20) rfl) (gv_in (by decide)) dX9_digest_63 ?_
  refine go_top (y := (-1)) rfl ?_
  refine go_iadd (pc := 64) dX9_digest_64 ?_
  refine go_top (y := (-1041881913)) (by decide) ?_
  refine go_istore_n (pc := 65) (lv' := [(1, .int ((-1041881913))), (2, .int 11), (0, .ref (G.2.1 + 0))]) dX9_digest_65 rfl (by decide) rfl ?_
  refine go_iinc (pc := 66) (v := 12) (lv' := [(2, .int 12), (1, .int ((-1041881913))), (0, .ref (G.2.1 + 0))]) dX9_digest_66 1 rfl (by first | rfl | decide) (by decide) rfl ?_
  refine go_goto (pc := 69) (tgt := 45) dX9_digest_69 (by decide) ?_
  refine go_iload_n (pc := 45) dX9_digest_45 rfl rfl ?_
  refine go_bipush (pc := 46) (v := 24) dX9_digest_46 (by decide) ?_
  refine go_icmp_ge_f (pc := 48) (tgt := 72) dX9_digest_48 (by decide) (by decide) ?_
  refine go_bipush (pc := 51) (v := 31) dX9_digest_51 (by decide) ?_
  refine go_iload_n (pc := 53) dX9_digest_53 rfl rfl ?_
  refine go_imul (pc := 54) dX9_digest_54 ?_
  refine go_top (y := 2061399065) (by decide) ?_
  refine go_aload_n (pc := 55) dX9_digest_55 rfl rfl ?_
  refine go_get (pc := 56) fX9_12 rfl (gz_b (by decide)) (wl_at (i := 0) rfl) rfl dX9_digest_56 ?_
  refine go_get (pc := 59) fX9_156 rfl (gz_b (by decide)) (wl_at (i := 1) rfl) rfl dX9_digest_59 ?_
  refine go_iload_n (pc := 62) dX9_digest_62 rfl rfl ?_
  refine go_iald (pc := 63) (gz_b (by decide)) (wl_at (i := 20) rfl) (gv_in (by decide)) dX9_digest_63 ?_
  refine go_top (y := (-1)) rfl ?_
  refine go_iadd (pc := 64) dX9_digest_64 ?_
  refine go_top (y := 2061399064) (by decide) ?_
  refine go_istore_n (pc := 65) (lv' := [(1, .int 2061399064), (2, .int 12), (0, .ref (G.2.1 + 0))]) dX9_digest_65 rfl (by decide) rfl ?_
  refine go_iinc (pc := 66) (v := 13) (lv' := [(2, .int 13), (1, .int 2061399064), (0, .ref (G.2.1 + 0))]) dX9_digest_66 1 rfl (by first | rfl | decide) (by decide) rfl ?_
  refine go_goto (pc := 69) (tgt := 45) dX9_digest_69 (by decide) ?_
  refine go_iload_n (pc := 45) dX9_digest_45 rfl rfl ?_
  refine go_bipush (pc := 46) (v := 24) dX9_digest_46 (by decide) ?_
  refine go_icmp_ge_f (pc := 48) (tgt := 72) dX9_digest_48 (by decide) (by decide) ?_
  refine go_bipush (pc := 51) (v := 31) dX9_digest_51 (by decide) ?_
  refine go_iload_n (pc := 53) dX9_digest_53 rfl rfl ?_
  refine go_imul (pc := 54) dX9_digest_54 ?_
  refine go_top (y := (-521138456)) (by decide) ?_
  refine go_aload_n (pc := 55) dX9_digest_55 rfl rfl ?_
  refine go_get (pc := 56) fX9_12 rfl (gz_b (by decide)) (wl_at (i := 0) rfl) rfl dX9_digest_56 ?_
  refine go_get (pc := 59) fX9_156 rfl (gz_b (by decide)) (wl_at (i := 1) rfl) rfl dX9_digest_59 ?_
  refine go_iload_n (pc := 62) dX9_digest_62 rfl rfl ?_
  refine go_iald (pc := 63) (gz_b (by decide)) (wl_at (i := 20) rfl) (gv_in (by decide)) dX9_digest_63 ?_
  refine go_top (y := (-1)) rfl ?_
  refine go_iadd (pc := 64) dX9_digest_64 ?_
  refine go_top (y := (-521138457)) (by decide) ?_
  refine go_istore_n (pc := 65) (lv' := [(1, .int ((-521138457))), (2, .int 13), (0, .ref (G.2.1 + 0))]) dX9_digest_65 rfl (by decide) rfl ?_
  refine go_iinc (pc := 66) (v := 14) (lv' := [(2, .int 14), (1, .int ((-521138457))), (0, .ref (G.2.1 + 0))]) dX9_digest_66 1 rfl (by first | rfl | decide) (by decide) rfl ?_
  refine go_goto (pc := 69) (tgt := 45) dX9_digest_69 (by decide) ?_
  refine go_iload_n (pc := 45) dX9_digest_45 rfl rfl ?_
  refine go_bipush (pc := 46) (v := 24) dX9_digest_46 (by decide) ?_
  refine go_icmp_ge_f (pc := 48) (tgt := 72) dX9_digest_48 (by decide) (by decide) ?_
  refine go_bipush (pc := 51) (v := 31) dX9_digest_51 (by decide) ?_
  refine go_iload_n (pc := 53) dX9_digest_53 rfl rfl ?_
  refine go_imul (pc := 54) dX9_digest_54 ?_
  refine go_top (y := 1024577017) (by decide) ?_
  refine go_aload_n (pc := 55) dX9_digest_55 rfl rfl ?_
  refine go_get (pc := 56) fX9_12 rfl (gz_b (by decide)) (wl_at (i := 0) rfl) rfl dX9_digest_56 ?_
  refine go_get (pc := 59) fX9_156 rfl (gz_b (by decide)) (wl_at (i := 1) rfl) rfl dX9_digest_59 ?_
  refine go_iload_n (pc := 62) dX9_digest_62 rfl rfl ?_
  refine go_iald (pc := 63) (gz_b (by decide)) (wl_at (i := 20) rfl) (gv_in (by decide)) dX9_digest_63 ?_
  refine go_top (y := (-1)) rfl ?_
  refine go_iadd (pc := 64) dX9_digest_64 ?_
  refine go_top (y := 1024577016) (by decide) ?_
  refine go_istore_n (pc := 65) (lv' := [(1, .int 1024577016), (2, .int 14), (0, .ref (G.2.1 + 0))]) dX9_digest_65 rfl (by decide) rfl ?_
  refine go_iinc (pc := 66) (v := 15) (lv' := [(2, .int 15), (1, .int 1024577016), (0, .ref (G.2.1 + 0))]) dX9_digest_66 1 rfl (by first | rfl | decide) (by decide) rfl ?_
  refine go_goto (pc := 69) (tgt := 45) dX9_digest_69 (by decide) ?_
  refine go_iload_n (pc := 45) dX9_digest_45 rfl rfl ?_
  refine go_bipush (pc := 46) (v := 24) dX9_digest_46 (by decide) ?_
  refine go_icmp_ge_f (pc := 48) (tgt := 72) dX9_digest_48 (by decide) (by decide) ?_
  refine go_bipush (pc := 51) (v := 31) dX9_digest_51 (by decide) ?_
  refine go_iload_n (pc := 53) dX9_digest_53 rfl rfl ?_
  refine go_imul (pc := 54) dX9_digest_54 ?_
  refine go_top (y := 1697116424) (by decide) ?_
  refine go_aload_n (pc := 55) dX9_digest_55 rfl rfl ?_
  refine go_get (pc := 56) fX9_12 rfl (gz_b (by decide)) (wl_at (i := 0) rfl) rfl dX9_digest_56 ?_
  refine go_get (pc := 59) fX9_156 rfl (gz_b (by decide)) (wl_at (i := 1) rfl) rfl dX9_digest_59 ?_
  refine go_iload_n (pc := 62) dX9_digest_62 rfl rfl ?_
  refine go_iald (pc := 63) (gz_b (by decide)) (wl_at (i := 20) rfl) (gv_in (by decide)) dX9_digest_63 ?_
  refine go_top (y := (-1)) rfl ?_
  refine go_iadd (pc := 64) dX9_digest_64 ?_
  refine go_top (y := 1697116423) (by decide) ?_
  refine go_istore_n (pc := 65) (lv' := [(1, .int 1697116423), (2, .int 15), (0, .ref (G.2.1 + 0))]) dX9_digest_65 rfl (by decide) rfl ?_
  refine go_iinc (pc := 66) (v := 16) (lv' := [(2, .int 16), (1, .int 1697116423), (0, .ref (G.2.1 + 0))]) dX9_digest_66 1 rfl (by first | rfl | decide) (by decide) rfl ?_
  refine go_goto (pc := 69) (tgt := 45) dX9_digest_69 (by decide) ?_
  refine go_iload_n (pc := 45) dX9_digest_45 rfl rfl ?_
  refine go_bipush (pc := 46) (v := 24) dX9_digest_46 (by decide) ?_
  refine go_icmp_ge_f (pc := 48) (tgt := 72) dX9_digest_48 (by decide) (by decide) ?_
  refine go_bipush (pc := 51) (v := 31) dX9_digest_51 (by decide) ?_
  refine go_iload_n (pc := 53) dX9_digest_53 rfl rfl ?_
  refine go_imul (pc := 54) dX9_digest_54 ?_
  refine go_top (y := 1071001561) (by decide) ?_
  refine go_aload_n (pc := 55) dX9_digest_55 rfl rfl ?_
  refine go_get (pc := 56) fX9_12 rfl (gz_b (by decide)) (wl_at (i := 0) rfl) rfl dX9_digest_56 ?_
  refine go_get (pc := 59) fX9_156 rfl (gz_b (by decide)) (wl_at (i := 1) rfl) rfl dX9_digest_59 ?_
  refine go_iload_n (pc := 62) dX9_digest_62 rfl rfl ?_
  refine go_iald (pc := 63) (gz_b (by decide)) (wl_at (i := 20) rfl) (gv_in (by decide)) dX9_digest_63 ?_
  refine go_top (y := (-1)) rfl ?_
  refine go_iadd (pc := 64) dX9_digest_64 ?_
  refine go_top (y := 1071001560) (by decide) ?_
  refine go_istore_n (pc := 65) (lv' := [(1, .int 1071001560), (2, .int 16), (0, .ref (G.2.1 + 0))]) dX9_digest_65 rfl (by decide) rfl ?_
  refine go_iinc (pc := 66) (v := 17) (lv' := [(2, .int 17), (1, .int 1071001560), (0, .ref (G.2.1 + 0))]) dX9_digest_66 1 rfl (by first | rfl | decide) (by decide) rfl ?_
  refine go_goto (pc := 69) (tgt := 45) dX9_digest_69 (by decide) ?_
  refine go_iload_n (pc := 45) dX9_digest_45 rfl rfl ?_
  refine go_bipush (pc := 46) (v := 24) dX9_digest_46 (by decide) ?_
  refine go_icmp_ge_f (pc := 48) (tgt := 72) dX9_digest_48 (by decide) (by decide) ?_
  refine go_bipush (pc := 51) (v := 31) dX9_digest_51 (by decide) ?_
  refine go_iload_n (pc := 53) dX9_digest_53 rfl rfl ?_
  refine go_imul (pc := 54) dX9_digest_54 ?_
  refine go_top (y := (-1158690008)) (by decide) ?_
  refine go_aload_n (pc := 55) dX9_digest_55 rfl rfl ?_
  refine go_get (pc := 56) fX9_12 rfl (gz_b (by decide)) (wl_at (i := 0) rfl) rfl dX9_digest_56 ?_
  refine go_get (pc := 59) fX9_156 rfl (gz_b (by decide)) (wl_at (i := 1) rfl) rfl dX9_digest_59 ?_
  refine go_iload_n (pc := 62) dX9_digest_62 rfl rfl ?_
  refine go_iald (pc := 63) (gz_b (by decide)) (wl_at (i := 20) rfl) (gv_in (by decide)) dX9_digest_63 ?_
  refine go_top (y := (-1)) rfl ?_
  refine go_iadd (pc := 64) dX9_digest_64 ?_
  refine go_top (y := (-1158690009)) (by decide) ?_
  refine go_istore_n (pc := 65) (lv' := [(1, .int ((-1158690009))), (2, .int 17), (0, .ref (G.2.1 + 0))]) dX9_digest_65 rfl (by decide) rfl ?_
  refine go_iinc (pc := 66) (v := 18) (lv' := [(2, .int 18), (1, .int ((-1158690009))), (0, .ref (G.2.1 + 0))]) dX9_digest_66 1 rfl (by first | rfl | decide) (by decide) rfl ?_
  refine go_goto (pc := 69) (tgt := 45) dX9_digest_69 (by decide) ?_
  refine go_iload_n (pc := 45) dX9_digest_45 rfl rfl ?_
  refine go_bipush (pc := 46) (v := 24) dX9_digest_46 (by decide) ?_
  refine go_icmp_ge_f (pc := 48) (tgt := 72) dX9_digest_48 (by decide) (by decide) ?_
  refine go_bipush (pc := 51) (v := 31) dX9_digest_51 (by decide) ?_
  refine go_iload_n (pc := 53) dX9_digest_53 rfl rfl ?_
  refine go_imul (pc := 54) dX9_digest_54 ?_
  refine go_top (y := (-1559651911)) (by decide) ?_
  refine go_aload_n (pc := 55) dX9_digest_55 rfl rfl ?_
  refine go_get (pc := 56) fX9_12 rfl (gz_b (by decide)) (wl_at (i := 0) rfl) rfl dX9_digest_56 ?_
  refine go_get (pc := 59) fX9_156 rfl (gz_b (by decide)) (wl_at (i := 1) rfl) rfl dX9_digest_59 ?_
  refine go_iload_n (pc := 62) dX9_digest_62 rfl rfl ?_
  refine go_iald (pc := 63) (gz_b (by decide)) (wl_at (i := 20) rfl) (gv_in (by decide)) dX9_digest_63 ?_
  refine go_top (y := (-1)) rfl ?_
  refine go_iadd (pc := 64) dX9_digest_64 ?_
  refine go_top (y := (-1559651912)) (by decide) ?_
  refine go_istore_n (pc := 65) (lv' := [(1, .int ((-1559651912))), (2, .int 18), (0, .ref (G.2.1 + 0))]) dX9_digest_65 rfl (by decide) rfl ?_
  refine go_iinc (pc := 66) (v := 19) (lv' := [(2, .int 19), (1, .int ((-1559651912))), (0, .ref (G.2.1 + 0))]) dX9_digest_66 1 rfl (by first | rfl | decide) (by decide) rfl ?_
  refine go_goto (pc := 69) (tgt := 45) dX9_digest_69 (by decide) ?_
  refine go_iload_n (pc := 45) dX9_digest_45 rfl rfl ?_
  refine go_bipush (pc := 46) (v := 24) dX9_digest_46 (by decide) ?_
  refine go_icmp_ge_f (pc := 48) (tgt := 72) dX9_digest_48 (by decide) (by decide) ?_
  refine go_bipush (pc := 51) (v := 31) dX9_digest_51 (by decide) ?_
  refine go_iload_n (pc := 53) dX9_digest_53 rfl rfl ?_
  refine go_imul (pc := 54) dX9_digest_54 ?_
  refine go_top (y := (-1104569016)) (by decide) ?_
  refine go_aload_n (pc := 55) dX9_digest_55 rfl rfl ?_
  refine go_get (pc := 56) fX9_12 rfl (gz_b (by decide)) (wl_at (i := 0) rfl) rfl dX9_digest_56 ?_
  refine go_get (pc := 59) fX9_156 rfl (gz_b (by decide)) (wl_at (i := 1) rfl) rfl dX9_digest_59 ?_
  refine go_iload_n (pc := 62) dX9_digest_62 rfl rfl ?_
  refine go_iald (pc := 63) (gz_b (by decide)) (wl_at (i := 20) rfl) (gv_in (by decide)) dX9_digest_63 ?_
  refine go_top (y := (-1)) rfl ?_
  refine go_iadd (pc := 64) dX9_digest_64 ?_
  refine go_top (y := (-1104569017)) (by decide) ?_
  refine go_istore_n (pc := 65) (lv' := [(1, .int ((-1104569017))), (2, .int 19), (0, .ref (G.2.1 + 0))]) dX9_digest_65 rfl (by decide) rfl ?_
  refine go_iinc (pc := 66) (v := 20) (lv' := [(2, .int 20), (1, .int ((-1104569017))), (0, .ref (G.2.1 + 0))]) dX9_digest_66 1 rfl (by first | rfl | decide) (by decide) rfl ?_
  refine go_goto (pc := 69) (tgt := 45) dX9_digest_69 (by decide) ?_
  refine go_iload_n (pc := 45) dX9_digest_45 rfl rfl ?_
  refine go_bipush (pc := 46) (v := 24) dX9_digest_46 (by decide) ?_
  refine go_icmp_ge_f (pc := 48) (tgt := 72) dX9_digest_48 (by decide) (by decide) ?_
  refine go_bipush (pc := 51) (v := 31) dX9_digest_51 (by decide) ?_
  refine go_iload_n (pc := 53) dX9_digest_53 rfl rfl ?_
  refine go_imul (pc := 54) dX9_digest_54 ?_
  refine go_top (y := 118098841) (by decide) ?_
  refine go_aload_n (pc := 55) dX9_digest_55 rfl rfl ?_
  refine go_get (pc := 56) fX9_12 rfl (gz_b (by decide)) (wl_at (i := 0) rfl) rfl dX9_digest_56 ?_
  refine go_get (pc := 59) fX9_156 rfl (gz_b (by decide)) (wl_at (i := 1) rfl) rfl dX9_digest_59 ?_
  refine go_iload_n (pc := 62) dX9_digest_62 rfl rfl ?_
  refine go_iald (pc := 63) (gz_b (by decide)) (wl_at (i := 20) rfl) (gv_in (by decide)) dX9_digest_63 ?_
  refine go_top (y := (-1)) rfl ?_
  refine go_iadd (pc := 64) dX9_digest_64 ?_
  refine go_top (y := 118098840) (by decide) ?_
  refine go_istore_n (pc := 65) (lv' := [(1, .int 118098840), (2, .int 20), (0, .ref (G.2.1 + 0))]) dX9_digest_65 rfl (by decide) rfl ?_
  refine go_iinc (pc := 66) (v := 21) (lv' := [(2, .int 21), (1, .int 118098840), (0, .ref (G.2.1 + 0))]) dX9_digest_66 1 rfl (by first | rfl | decide) (by decide) rfl ?_
  refine go_goto (pc := 69) (tgt := 45) dX9_digest_69 (by decide) ?_
  refine go_iload_n (pc := 45) dX9_digest_45 rfl rfl ?_
  refine go_bipush (pc := 46) (v := 24) dX9_digest_46 (by decide) ?_
  refine go_icmp_ge_f (pc := 48) (tgt := 72) dX9_digest_48 (by decide) (by decide) ?_
  refine go_bipush (pc := 51) (v := 31) dX9_digest_51 (by decide) ?_
  refine go_iload_n (pc := 53) dX9_digest_53 rfl rfl ?_
  refine go_imul (pc := 54) dX9_digest_54 ?_
  refine go_top (y := (-633903256)) (by decide) ?_
  refine go_aload_n (pc := 55) dX9_digest_55 rfl rfl ?_
  refine go_get (pc := 56) fX9_12 rfl (gz_b (by decide)) (wl_at (i := 0) rfl) rfl dX9_digest_56 ?_
  refine go_get (pc := 59) fX9_156 rfl (gz_b (by decide)) (wl_at (i := 1) rfl) rfl dX9_digest_59 ?_
  refine go_iload_n (pc := 62) dX9_digest_62 rfl rfl ?_
  refine go_iald (pc := 63) (gz_b (by decide)) (wl_at (i := 20) rfl) (gv_in (by decide)) dX9_digest_63 ?_
  refine go_top (y := (-1)) rfl ?_
  refine go_iadd (pc := 64) dX9_digest_64 ?_
  refine go_top (y := (-633903257)) (by decide) ?_
  refine go_istore_n (pc := 65) (lv' := [(1, .int ((-633903257))), (2, .int 21), (0, .ref (G.2.1 + 0))]) dX9_digest_65 rfl (by decide) rfl ?_
  refine go_iinc (pc := 66) (v := 22) (lv' := [(2, .int 22), (1, .int ((-633903257))), (0, .ref (G.2.1 + 0))]) dX9_digest_66 1 rfl (by first | rfl | decide) (by decide) rfl ?_
  refine go_goto (pc := 69) (tgt := 45) dX9_digest_69 (by decide) ?_
  refine go_iload_n (pc := 45) dX9_digest_45 rfl rfl ?_
  refine go_bipush (pc := 46) (v := 24) dX9_digest_46 (by decide) ?_
  refine go_icmp_ge_f (pc := 48) (tgt := 72) dX9_digest_48 (by decide) (by decide) ?_
  refine go_bipush (pc := 51) (v := 31) dX9_digest_51 (by decide) ?_
  refine go_iload_n (pc := 53) dX9_digest_53 rfl rfl ?_
  refine go_imul (pc := 54) dX9_digest_54 ?_
  refine go_top (y := 1823835513) (by decide) ?_
  refine go_aload_n (pc := 55) dX9_digest_55 rfl rfl ?_
  refine go_get (pc := 56) fX9_12 rfl (gz_b (by decide)) (wl_at (i := 0) rfl) rfl dX9_digest_56 ?_
  refine go_get (pc := 59) fX9_156 rfl (gz_b (by decide)) (wl_at (i := 1) rfl) rfl dX9_digest_59 ?_
  refine go_iload_n (pc := 62) dX9_digest_62 rfl rfl ?_
  refine go_iald (pc := 63) (gz_b (by decide)) (wl_at (i := 20) rfl) (gv_in (by decide)) dX9_digest_63 ?_
  refine go_top (y := (-1)) rfl ?_
  refine go_iadd (pc := 64) dX9_digest_64 ?_
  refine go_top (y := 1823835512) (by decide) ?_
  refine go_istore_n (pc := 65) (lv' := [(1, .int 1823835512), (2, .int 22), (0, .ref (G.2.1 + 0))]) dX9_digest_65 rfl (by decide) rfl ?_
  refine go_iinc (pc := 66) (v := 23) (lv' := [(2, .int 23), (1, .int 1823835512), (0, .ref (G.2.1 + 0))]) dX9_digest_66 1 rfl (by first | rfl | decide) (by decide) rfl ?_
  refine go_goto (pc := 69) (tgt := 45) dX9_digest_69 (by decide) ?_
  refine go_iload_n (pc := 45) dX9_digest_45 rfl rfl ?_
  refine go_bipush (pc := 46) (v := 24) dX9_digest_46 (by decide) ?_
  refine go_icmp_ge_f (pc := 48) (tgt := 72) dX9_digest_48 (by decide) (by decide) ?_
  refine go_bipush (pc := 51) (v := 31) dX9_digest_51 (by decide) ?_
  refine go_iload_n (pc := 53) dX9_digest_53 rfl rfl ?_
  refine go_imul (pc := 54) dX9_digest_54 ?_
  refine go_top (y := 704326024) (by decide) ?_
  refine go_aload_n (pc := 55) dX9_digest_55 rfl rfl ?_
  refine go_get (pc := 56) fX9_12 rfl (gz_b (by decide)) (wl_at (i := 0) rfl) rfl dX9_digest_56 ?_
  refine go_get (pc := 59) fX9_156 rfl (gz_b (by decide)) (wl_at (i := 1) rfl) rfl dX9_digest_59 ?_
  refine go_iload_n (pc := 62) dX9_digest_62 rfl rfl ?_
  refine go_iald (pc := 63) (gz_b (by decide)) (wl_at (i := 20) rfl) (gv_in (by decide)) dX9_digest_63 ?_
  refine go_top (y := (-1)) rfl ?_
  refine go_iadd (pc := 64) dX9_digest_64 ?_
  refine go_top (y := 704326023) (by decide) ?_
  refine go_istore_n (pc := 65) (lv' := [(1, .int 704326023), (2, .int 23), (0, .ref (G.2.1 + 0))]) dX9_digest_65 rfl (by decide) rfl ?_
  refine go_iinc (pc := 66) (v := 24) (lv' := [(2, .int 24), (1, .int 704326023), (0, .ref (G.2.1 + 0))]) dX9_digest_66 1 rfl (by first | rfl | decide) (by decide) rfl ?_
  refine go_goto (pc := 69) (tgt := 45) dX9_digest_69 (by decide) ?_
  refine go_iload_n (pc := 45) dX9_digest_45 rfl rfl ?_
  refine go_bipush (pc := 46) (v := 24) dX9_digest_46 (by decide) ?_
  refine go_icmp_ge_t (pc := 48) (tgt := 72) dX9_digest_48 (by decide) (by decide) ?_
  refine go_bipush (pc := 72) (v := 31) dX9_digest_72 (by decide) ?_
  refine go_iload_n (pc := 74) dX9_digest_74 rfl rfl ?_
  refine go_imul (pc := 75) dX9_digest_75 ?_
  refine go_top (y := 359270233) (by decide) ?_
  refine go_aload_n (pc := 76) dX9_digest_76 rfl rfl ?_
  refine go_callV_i (pc := 77) vX9_258 rfl (cx_phase_o) rfl rfl (gz_b (by decide)) (wl_at (i := 0) rfl) rfl (Nat.le_of_ble_eq_true rfl) ⟨Nat.le_of_ble_eq_true rfl, Nat.le_of_ble_eq_true rfl, (Nat.le_add_right _ _), (Nat.le_add_right _ _)⟩ dX9_digest_77 ?_
  refine go_iadd (pc := 80) dX9_digest_80 ?_
  refine go_top (y := 359270233) (by decide) ?_
  exact go_iret (pc := 81) rfl dX9_digest_81
theorem cx_digest {l : Launch} {G : gG} : CX l G mX9_digest [.ref (G.2.1 + 0)] 359270233 := by
  exact ⟨1, 20, 42, 90324, _, by decide, by decide, by decide, by decide, by decide, (by exact wl_frame rfl), cx_digest_o⟩
set_option maxRecDepth 100000 in
set_option maxHeartbeats 4000000 in
theorem cx_about_0_o {l : Launch} {G : gG} : Ct l G mX9_about 0 0 [.ref (G.2.1 + 0), .int 0] 42 90324 (wl G.2.1 (LF G)) (some (.int 256), 42, 90324, (wl G.2.1 (LF G))) := by
  refine Ct.of (by decide) (Nat.le_of_ble_eq_true rfl) ⟨Nat.le_refl _, Nat.le_refl _⟩ ?_
  show Go l G mX9_about _ 0 [(0, .ref (G.2.1 + 0)), (1, .int 0)] [] 42 90324 (wl G.2.1 (LF G))
  refine go_iload_n (pc := 0) dX9_about_0 rfl rfl ?_
  refine go_tableIn (pc := 1) (off := 79) (tgt := 80) dX9_about_1 (by decide) (by decide) (by decide) (by decide) ?_
  refine go_aload_n (pc := 80) dX9_about_80 rfl rfl ?_
  refine go_get (pc := 81) fX9_12 rfl (gz_b (by decide)) (wl_at (i := 0) rfl) rfl dX9_about_81 ?_
  refine go_get (pc := 84) fX9_78 rfl (gz_b (by decide)) (wl_at (i := 1) rfl) rfl dX9_about_84 ?_
  refine go_get (pc := 87) fX9_205 rfl (gz_b (by decide)) (wl_at (i := 2) rfl) rfl dX9_about_87 ?_
  exact go_iret (pc := 90) rfl dX9_about_90
theorem cx_about_0 {l : Launch} {G : gG} : CX l G mX9_about [.ref (G.2.1 + 0), .int 0] 256 := by
  exact ⟨0, 0, 42, 90324, _, by decide, by decide, by decide, by decide, by decide, (by exact wl_frame rfl), cx_about_0_o⟩
set_option maxRecDepth 100000 in
set_option maxHeartbeats 4000000 in
theorem cX2_free_1 {l : Launch} {G : gG} : Ct l G mX2_free 0 0 [.ref (G.2.1 + 2)] 42 90324 (wl G.2.1 (LF G)) (some (.int 256), 42, 90324, (wl G.2.1 (LF G))) := by
  refine Ct.of (by decide) (Nat.le_of_ble_eq_true rfl) ⟨Nat.le_refl _, Nat.le_refl _⟩ ?_
  show Go l G mX2_free _ 0 [(0, .ref (G.2.1 + 2))] [] 42 90324 (wl G.2.1 (LF G))
  refine go_aload_n (pc := 0) dX2_free_0 rfl rfl ?_
  refine go_get (pc := 1) fX2_25 rfl (gz_b (by decide)) (wl_at (i := 2) rfl) rfl dX2_free_1 ?_
  refine go_aload_n (pc := 4) dX2_free_4 rfl rfl ?_
  refine go_get (pc := 5) fX2_29 rfl (gz_b (by decide)) (wl_at (i := 2) rfl) rfl dX2_free_5 ?_
  refine go_isub (pc := 8) dX2_free_8 ?_
  refine go_top (y := 256) (by decide) ?_
  exact go_iret (pc := 9) rfl dX2_free_9
set_option maxRecDepth 100000 in
set_option maxHeartbeats 4000000 in
theorem cx_about_1_o {l : Launch} {G : gG} : Ct l G mX9_about 1 20 [.ref (G.2.1 + 0), .int 1] 42 90324 (wl G.2.1 (LF G)) (some (.int 256), 42, 90324, (wl G.2.1 (LF G))) := by
  refine Ct.of (by decide) (Nat.le_of_ble_eq_true rfl) ⟨Nat.le_refl _, Nat.le_refl _⟩ ?_
  show Go l G mX9_about _ 0 [(0, .ref (G.2.1 + 0)), (1, .int 1)] [] 42 90324 (wl G.2.1 (LF G))
  refine go_iload_n (pc := 0) dX9_about_0 rfl rfl ?_
  refine go_tableIn (pc := 1) (off := 90) (tgt := 91) dX9_about_1 (by decide) (by decide) (by decide) (by decide) ?_
  refine go_aload_n (pc := 91) dX9_about_91 rfl rfl ?_
  refine go_get (pc := 92) fX9_12 rfl (gz_b (by decide)) (wl_at (i := 0) rfl) rfl dX9_about_92 ?_
  refine go_get (pc := 95) fX9_78 rfl (gz_b (by decide)) (wl_at (i := 1) rfl) rfl dX9_about_95 ?_
  refine go_callV_i (pc := 98) vX9_208 rfl (cX2_free_1) rfl rfl (gz_b (by decide)) (wl_at (i := 2) rfl) rfl (Nat.le_of_ble_eq_true rfl) ⟨Nat.le_of_ble_eq_true rfl, Nat.le_of_ble_eq_true rfl, (Nat.le_add_right _ _), (Nat.le_add_right _ _)⟩ dX9_about_98 ?_
  exact go_iret (pc := 101) rfl dX9_about_101
theorem cx_about_1 {l : Launch} {G : gG} : CX l G mX9_about [.ref (G.2.1 + 0), .int 1] 256 := by
  exact ⟨1, 20, 42, 90324, _, by decide, by decide, by decide, by decide, by decide, (by exact wl_frame rfl), cx_about_1_o⟩
set_option maxRecDepth 100000 in
set_option maxHeartbeats 4000000 in
theorem cx_about_2_o {l : Launch} {G : gG} : Ct l G mX9_about 0 0 [.ref (G.2.1 + 0), .int 2] 42 90324 (wl G.2.1 (LF G)) (some (.int 0), 42, 90324, (wl G.2.1 (LF G))) := by
  refine Ct.of (by decide) (Nat.le_of_ble_eq_true rfl) ⟨Nat.le_refl _, Nat.le_refl _⟩ ?_
  show Go l G mX9_about _ 0 [(0, .ref (G.2.1 + 0)), (1, .int 2)] [] 42 90324 (wl G.2.1 (LF G))
  refine go_iload_n (pc := 0) dX9_about_0 rfl rfl ?_
  refine go_tableIn (pc := 1) (off := 101) (tgt := 102) dX9_about_1 (by decide) (by decide) (by decide) (by decide) ?_
  refine go_aload_n (pc := 102) dX9_about_102 rfl rfl ?_
  refine go_get (pc := 103) fX9_12 rfl (gz_b (by decide)) (wl_at (i := 0) rfl) rfl dX9_about_103 ?_
  refine go_get (pc := 106) fX9_78 rfl (gz_b (by decide)) (wl_at (i := 1) rfl) rfl dX9_about_106 ?_
  refine go_get (pc := 109) fX9_212 rfl (gz_b (by decide)) (wl_at (i := 2) rfl) rfl dX9_about_109 ?_
  exact go_iret (pc := 112) rfl dX9_about_112
theorem cx_about_2 {l : Launch} {G : gG} : CX l G mX9_about [.ref (G.2.1 + 0), .int 2] 0 := by
  exact ⟨0, 0, 42, 90324, _, by decide, by decide, by decide, by decide, by decide, (by exact wl_frame rfl), cx_about_2_o⟩
set_option maxRecDepth 100000 in
set_option maxHeartbeats 4000000 in
theorem cx_about_3_o {l : Launch} {G : gG} : Ct l G mX9_about 0 0 [.ref (G.2.1 + 0), .int 3] 42 90324 (wl G.2.1 (LF G)) (some (.int 0), 42, 90324, (wl G.2.1 (LF G))) := by
  refine Ct.of (by decide) (Nat.le_of_ble_eq_true rfl) ⟨Nat.le_refl _, Nat.le_refl _⟩ ?_
  show Go l G mX9_about _ 0 [(0, .ref (G.2.1 + 0)), (1, .int 3)] [] 42 90324 (wl G.2.1 (LF G))
  refine go_iload_n (pc := 0) dX9_about_0 rfl rfl ?_
  refine go_tableIn (pc := 1) (off := 112) (tgt := 113) dX9_about_1 (by decide) (by decide) (by decide) (by decide) ?_
  refine go_aload_n (pc := 113) dX9_about_113 rfl rfl ?_
  refine go_get (pc := 114) fX9_12 rfl (gz_b (by decide)) (wl_at (i := 0) rfl) rfl dX9_about_114 ?_
  refine go_get (pc := 117) fX9_78 rfl (gz_b (by decide)) (wl_at (i := 1) rfl) rfl dX9_about_117 ?_
  refine go_get (pc := 120) fX9_215 rfl (gz_b (by decide)) (wl_at (i := 2) rfl) rfl dX9_about_120 ?_
  exact go_iret (pc := 123) rfl dX9_about_123
theorem cx_about_3 {l : Launch} {G : gG} : CX l G mX9_about [.ref (G.2.1 + 0), .int 3] 0 := by
  exact ⟨0, 0, 42, 90324, _, by decide, by decide, by decide, by decide, by decide, (by exact wl_frame rfl), cx_about_3_o⟩
set_option maxRecDepth 100000 in
set_option maxHeartbeats 4000000 in
theorem cx_about_4_o {l : Launch} {G : gG} : Ct l G mX9_about 0 0 [.ref (G.2.1 + 0), .int 4] 42 90324 (wl G.2.1 (LF G)) (some (.int 0), 42, 90324, (wl G.2.1 (LF G))) := by
  refine Ct.of (by decide) (Nat.le_of_ble_eq_true rfl) ⟨Nat.le_refl _, Nat.le_refl _⟩ ?_
  show Go l G mX9_about _ 0 [(0, .ref (G.2.1 + 0)), (1, .int 4)] [] 42 90324 (wl G.2.1 (LF G))
  refine go_iload_n (pc := 0) dX9_about_0 rfl rfl ?_
  refine go_tableIn (pc := 1) (off := 123) (tgt := 124) dX9_about_1 (by decide) (by decide) (by decide) (by decide) ?_
  refine go_aload_n (pc := 124) dX9_about_124 rfl rfl ?_
  refine go_get (pc := 125) fX9_12 rfl (gz_b (by decide)) (wl_at (i := 0) rfl) rfl dX9_about_125 ?_
  refine go_get (pc := 128) fX9_175 rfl (gz_b (by decide)) (wl_at (i := 1) rfl) rfl dX9_about_128 ?_
  refine go_get (pc := 131) fX9_218 rfl (gz_b (by decide)) (wl_at (i := 12) rfl) rfl dX9_about_131 ?_
  exact go_iret (pc := 134) rfl dX9_about_134
theorem cx_about_4 {l : Launch} {G : gG} : CX l G mX9_about [.ref (G.2.1 + 0), .int 4] 0 := by
  exact ⟨0, 0, 42, 90324, _, by decide, by decide, by decide, by decide, by decide, (by exact wl_frame rfl), cx_about_4_o⟩
set_option maxRecDepth 100000 in
set_option maxHeartbeats 4000000 in
theorem cx_about_5_o {l : Launch} {G : gG} : Ct l G mX9_about 0 0 [.ref (G.2.1 + 0), .int 5] 42 90324 (wl G.2.1 (LF G)) (some (.int 0), 42, 90324, (wl G.2.1 (LF G))) := by
  refine Ct.of (by decide) (Nat.le_of_ble_eq_true rfl) ⟨Nat.le_refl _, Nat.le_refl _⟩ ?_
  show Go l G mX9_about _ 0 [(0, .ref (G.2.1 + 0)), (1, .int 5)] [] 42 90324 (wl G.2.1 (LF G))
  refine go_iload_n (pc := 0) dX9_about_0 rfl rfl ?_
  refine go_tableIn (pc := 1) (off := 134) (tgt := 135) dX9_about_1 (by decide) (by decide) (by decide) (by decide) ?_
  refine go_aload_n (pc := 135) dX9_about_135 rfl rfl ?_
  refine go_get (pc := 136) fX9_12 rfl (gz_b (by decide)) (wl_at (i := 0) rfl) rfl dX9_about_136 ?_
  refine go_get (pc := 139) fX9_175 rfl (gz_b (by decide)) (wl_at (i := 1) rfl) rfl dX9_about_139 ?_
  refine go_get (pc := 142) fX9_221 rfl (gz_b (by decide)) (wl_at (i := 12) rfl) rfl dX9_about_142 ?_
  exact go_iret (pc := 145) rfl dX9_about_145
theorem cx_about_5 {l : Launch} {G : gG} : CX l G mX9_about [.ref (G.2.1 + 0), .int 5] 0 := by
  exact ⟨0, 0, 42, 90324, _, by decide, by decide, by decide, by decide, by decide, (by exact wl_frame rfl), cx_about_5_o⟩
set_option maxRecDepth 100000 in
set_option maxHeartbeats 4000000 in
theorem cx_about_6_o {l : Launch} {G : gG} : Ct l G mX9_about 0 0 [.ref (G.2.1 + 0), .int 6] 42 90324 (wl G.2.1 (LF G)) (some (.int 0), 42, 90324, (wl G.2.1 (LF G))) := by
  refine Ct.of (by decide) (Nat.le_of_ble_eq_true rfl) ⟨Nat.le_refl _, Nat.le_refl _⟩ ?_
  show Go l G mX9_about _ 0 [(0, .ref (G.2.1 + 0)), (1, .int 6)] [] 42 90324 (wl G.2.1 (LF G))
  refine go_iload_n (pc := 0) dX9_about_0 rfl rfl ?_
  refine go_tableIn (pc := 1) (off := 145) (tgt := 146) dX9_about_1 (by decide) (by decide) (by decide) (by decide) ?_
  refine go_aload_n (pc := 146) dX9_about_146 rfl rfl ?_
  refine go_get (pc := 147) fX9_12 rfl (gz_b (by decide)) (wl_at (i := 0) rfl) rfl dX9_about_147 ?_
  refine go_get (pc := 150) fX9_175 rfl (gz_b (by decide)) (wl_at (i := 1) rfl) rfl dX9_about_150 ?_
  refine go_get (pc := 153) fX9_179 rfl (gz_b (by decide)) (wl_at (i := 12) rfl) rfl dX9_about_153 ?_
  exact go_iret (pc := 156) rfl dX9_about_156
theorem cx_about_6 {l : Launch} {G : gG} : CX l G mX9_about [.ref (G.2.1 + 0), .int 6] 0 := by
  exact ⟨0, 0, 42, 90324, _, by decide, by decide, by decide, by decide, by decide, (by exact wl_frame rfl), cx_about_6_o⟩
set_option maxRecDepth 100000 in
set_option maxHeartbeats 4000000 in
theorem cx_about_7_o {l : Launch} {G : gG} : Ct l G mX9_about 0 0 [.ref (G.2.1 + 0), .int 7] 42 90324 (wl G.2.1 (LF G)) (some (.int 0), 42, 90324, (wl G.2.1 (LF G))) := by
  refine Ct.of (by decide) (Nat.le_of_ble_eq_true rfl) ⟨Nat.le_refl _, Nat.le_refl _⟩ ?_
  show Go l G mX9_about _ 0 [(0, .ref (G.2.1 + 0)), (1, .int 7)] [] 42 90324 (wl G.2.1 (LF G))
  refine go_iload_n (pc := 0) dX9_about_0 rfl rfl ?_
  refine go_tableIn (pc := 1) (off := 156) (tgt := 157) dX9_about_1 (by decide) (by decide) (by decide) (by decide) ?_
  refine go_aload_n (pc := 157) dX9_about_157 rfl rfl ?_
  refine go_get (pc := 158) fX9_12 rfl (gz_b (by decide)) (wl_at (i := 0) rfl) rfl dX9_about_158 ?_
  refine go_get (pc := 161) fX9_175 rfl (gz_b (by decide)) (wl_at (i := 1) rfl) rfl dX9_about_161 ?_
  refine go_get (pc := 164) fX9_224 rfl (gz_b (by decide)) (wl_at (i := 12) rfl) rfl dX9_about_164 ?_
  exact go_iret (pc := 167) rfl dX9_about_167
theorem cx_about_7 {l : Launch} {G : gG} : CX l G mX9_about [.ref (G.2.1 + 0), .int 7] 0 := by
  exact ⟨0, 0, 42, 90324, _, by decide, by decide, by decide, by decide, by decide, (by exact wl_frame rfl), cx_about_7_o⟩
set_option maxRecDepth 100000 in
set_option maxHeartbeats 4000000 in
theorem cx_about_8_o {l : Launch} {G : gG} : Ct l G mX9_about 0 0 [.ref (G.2.1 + 0), .int 8] 42 90324 (wl G.2.1 (LF G)) (some (.int 0), 42, 90324, (wl G.2.1 (LF G))) := by
  refine Ct.of (by decide) (Nat.le_of_ble_eq_true rfl) ⟨Nat.le_refl _, Nat.le_refl _⟩ ?_
  show Go l G mX9_about _ 0 [(0, .ref (G.2.1 + 0)), (1, .int 8)] [] 42 90324 (wl G.2.1 (LF G))
  refine go_iload_n (pc := 0) dX9_about_0 rfl rfl ?_
  refine go_tableIn (pc := 1) (off := 167) (tgt := 168) dX9_about_1 (by decide) (by decide) (by decide) (by decide) ?_
  refine go_aload_n (pc := 168) dX9_about_168 rfl rfl ?_
  refine go_get (pc := 169) fX9_12 rfl (gz_b (by decide)) (wl_at (i := 0) rfl) rfl dX9_about_169 ?_
  refine go_get (pc := 172) fX9_175 rfl (gz_b (by decide)) (wl_at (i := 1) rfl) rfl dX9_about_172 ?_
  refine go_get (pc := 175) fX9_227 rfl (gz_b (by decide)) (wl_at (i := 12) rfl) rfl dX9_about_175 ?_
  exact go_iret (pc := 178) rfl dX9_about_178
theorem cx_about_8 {l : Launch} {G : gG} : CX l G mX9_about [.ref (G.2.1 + 0), .int 8] 0 := by
  exact ⟨0, 0, 42, 90324, _, by decide, by decide, by decide, by decide, by decide, (by exact wl_frame rfl), cx_about_8_o⟩
set_option maxRecDepth 100000 in
set_option maxHeartbeats 4000000 in
theorem cx_about_9_o {l : Launch} {G : gG} : Ct l G mX9_about 0 0 [.ref (G.2.1 + 0), .int 9] 42 90324 (wl G.2.1 (LF G)) (some (.int 0), 42, 90324, (wl G.2.1 (LF G))) := by
  refine Ct.of (by decide) (Nat.le_of_ble_eq_true rfl) ⟨Nat.le_refl _, Nat.le_refl _⟩ ?_
  show Go l G mX9_about _ 0 [(0, .ref (G.2.1 + 0)), (1, .int 9)] [] 42 90324 (wl G.2.1 (LF G))
  refine go_iload_n (pc := 0) dX9_about_0 rfl rfl ?_
  refine go_tableIn (pc := 1) (off := 178) (tgt := 179) dX9_about_1 (by decide) (by decide) (by decide) (by decide) ?_
  refine go_aload_n (pc := 179) dX9_about_179 rfl rfl ?_
  refine go_get (pc := 180) fX9_12 rfl (gz_b (by decide)) (wl_at (i := 0) rfl) rfl dX9_about_180 ?_
  refine go_get (pc := 183) fX9_175 rfl (gz_b (by decide)) (wl_at (i := 1) rfl) rfl dX9_about_183 ?_
  refine go_get (pc := 186) fX9_199 rfl (gz_b (by decide)) (wl_at (i := 12) rfl) rfl dX9_about_186 ?_
  exact go_iret (pc := 189) rfl dX9_about_189
theorem cx_about_9 {l : Launch} {G : gG} : CX l G mX9_about [.ref (G.2.1 + 0), .int 9] 0 := by
  exact ⟨0, 0, 42, 90324, _, by decide, by decide, by decide, by decide, by decide, (by exact wl_frame rfl), cx_about_9_o⟩
set_option maxRecDepth 100000 in
set_option maxHeartbeats 4000000 in
theorem cx_about_10_o {l : Launch} {G : gG} : Ct l G mX9_about 0 0 [.ref (G.2.1 + 0), .int 10] 42 90324 (wl G.2.1 (LF G)) (some (.int 0), 42, 90324, (wl G.2.1 (LF G))) := by
  refine Ct.of (by decide) (Nat.le_of_ble_eq_true rfl) ⟨Nat.le_refl _, Nat.le_refl _⟩ ?_
  show Go l G mX9_about _ 0 [(0, .ref (G.2.1 + 0)), (1, .int 10)] [] 42 90324 (wl G.2.1 (LF G))
  refine go_iload_n (pc := 0) dX9_about_0 rfl rfl ?_
  refine go_tableIn (pc := 1) (off := 189) (tgt := 190) dX9_about_1 (by decide) (by decide) (by decide) (by decide) ?_
  refine go_aload_n (pc := 190) dX9_about_190 rfl rfl ?_
  refine go_get (pc := 191) fX9_12 rfl (gz_b (by decide)) (wl_at (i := 0) rfl) rfl dX9_about_191 ?_
  refine go_get (pc := 194) fX9_184 rfl (gz_b (by decide)) (wl_at (i := 1) rfl) rfl dX9_about_194 ?_
  refine go_get (pc := 197) fX9_230 rfl (gz_b (by decide)) (wl_at (i := 6) rfl) rfl dX9_about_197 ?_
  exact go_iret (pc := 200) rfl dX9_about_200
theorem cx_about_10 {l : Launch} {G : gG} : CX l G mX9_about [.ref (G.2.1 + 0), .int 10] 0 := by
  exact ⟨0, 0, 42, 90324, _, by decide, by decide, by decide, by decide, by decide, (by exact wl_frame rfl), cx_about_10_o⟩
set_option maxRecDepth 100000 in
set_option maxHeartbeats 4000000 in
theorem cX7_howManyOpen_1 {l : Launch} {G : gG} : Ct l G mX7_howManyOpen 0 0 [.ref (G.2.1 + 23)] 42 90324 (wl G.2.1 (LF G)) (some (.int 0), 42, 90324, (wl G.2.1 (LF G))) := by
  refine Ct.of (by decide) (Nat.le_of_ble_eq_true rfl) ⟨Nat.le_refl _, Nat.le_refl _⟩ ?_
  show Go l G mX7_howManyOpen _ 0 [(0, .ref (G.2.1 + 23))] [] 42 90324 (wl G.2.1 (LF G))
  refine go_iconst (pc := 0) (v := 0) dX7_howManyOpen_0 (by decide) ?_
  refine go_istore_n (pc := 1) (lv' := [(1, .int 0), (0, .ref (G.2.1 + 23))]) dX7_howManyOpen_1 rfl (by decide) rfl ?_
  refine go_aload_n (pc := 2) dX7_howManyOpen_2 rfl rfl ?_
  refine go_get (pc := 3) fX7_36 rfl (gz_b (by decide)) (wl_at (i := 23) rfl) rfl dX7_howManyOpen_3 ?_
  refine go_get (pc := 6) fX7_83 rfl (gz_b (by decide)) (wl_at (i := 6) rfl) rfl dX7_howManyOpen_6 ?_
  refine go_istore_n (pc := 9) (lv' := [(2, .int 0), (1, .int 0), (0, .ref (G.2.1 + 23))]) dX7_howManyOpen_9 rfl (by decide) rfl ?_
  refine go_iload_n (pc := 10) dX7_howManyOpen_10 rfl rfl ?_
  refine go_aload_n (pc := 11) dX7_howManyOpen_11 rfl rfl ?_
  refine go_get (pc := 12) fX7_36 rfl (gz_b (by decide)) (wl_at (i := 23) rfl) rfl dX7_howManyOpen_12 ?_
  refine go_get (pc := 15) fX7_96 rfl (gz_b (by decide)) (wl_at (i := 6) rfl) rfl dX7_howManyOpen_15 ?_
  refine go_icmp_ge_t (pc := 18) (tgt := 73) dX7_howManyOpen_18 (by decide) (by decide) ?_
  refine go_iload_n (pc := 73) dX7_howManyOpen_73 rfl rfl ?_
  exact go_iret (pc := 74) rfl dX7_howManyOpen_74
set_option maxRecDepth 100000 in
set_option maxHeartbeats 4000000 in
theorem cx_about_11_o {l : Launch} {G : gG} : Ct l G mX9_about 1 23 [.ref (G.2.1 + 0), .int 11] 42 90324 (wl G.2.1 (LF G)) (some (.int 0), 42, 90324, (wl G.2.1 (LF G))) := by
  refine Ct.of (by decide) (Nat.le_of_ble_eq_true rfl) ⟨Nat.le_refl _, Nat.le_refl _⟩ ?_
  show Go l G mX9_about _ 0 [(0, .ref (G.2.1 + 0)), (1, .int 11)] [] 42 90324 (wl G.2.1 (LF G))
  refine go_iload_n (pc := 0) dX9_about_0 rfl rfl ?_
  refine go_tableIn (pc := 1) (off := 200) (tgt := 201) dX9_about_1 (by decide) (by decide) (by decide) (by decide) ?_
  refine go_aload_n (pc := 201) dX9_about_201 rfl rfl ?_
  refine go_get (pc := 202) fX9_25 rfl (gz_b (by decide)) (wl_at (i := 0) rfl) rfl dX9_about_202 ?_
  refine go_callV_i (pc := 205) vX9_233 rfl (cX7_howManyOpen_1) rfl rfl (gz_b (by decide)) (wl_at (i := 23) rfl) rfl (Nat.le_of_ble_eq_true rfl) ⟨Nat.le_of_ble_eq_true rfl, Nat.le_of_ble_eq_true rfl, (Nat.le_add_right _ _), (Nat.le_add_right _ _)⟩ dX9_about_205 ?_
  exact go_iret (pc := 208) rfl dX9_about_208
theorem cx_about_11 {l : Launch} {G : gG} : CX l G mX9_about [.ref (G.2.1 + 0), .int 11] 0 := by
  exact ⟨1, 23, 42, 90324, _, by decide, by decide, by decide, by decide, by decide, (by exact wl_frame rfl), cx_about_11_o⟩
set_option maxRecDepth 100000 in
set_option maxHeartbeats 4000000 in
theorem cx_about_12_o {l : Launch} {G : gG} : Ct l G mX9_about 0 0 [.ref (G.2.1 + 0), .int 12] 42 90324 (wl G.2.1 (LF G)) (some (.int 0), 42, 90324, (wl G.2.1 (LF G))) := by
  refine Ct.of (by decide) (Nat.le_of_ble_eq_true rfl) ⟨Nat.le_refl _, Nat.le_refl _⟩ ?_
  show Go l G mX9_about _ 0 [(0, .ref (G.2.1 + 0)), (1, .int 12)] [] 42 90324 (wl G.2.1 (LF G))
  refine go_iload_n (pc := 0) dX9_about_0 rfl rfl ?_
  refine go_tableIn (pc := 1) (off := 208) (tgt := 209) dX9_about_1 (by decide) (by decide) (by decide) (by decide) ?_
  refine go_aload_n (pc := 209) dX9_about_209 rfl rfl ?_
  refine go_get (pc := 210) fX9_12 rfl (gz_b (by decide)) (wl_at (i := 0) rfl) rfl dX9_about_210 ?_
  refine go_get (pc := 213) fX9_236 rfl (gz_b (by decide)) (wl_at (i := 1) rfl) rfl dX9_about_213 ?_
  refine go_get (pc := 216) fX9_240 rfl (gz_b (by decide)) (wl_at (i := 17) rfl) rfl dX9_about_216 ?_
  exact go_iret (pc := 219) rfl dX9_about_219
theorem cx_about_12 {l : Launch} {G : gG} : CX l G mX9_about [.ref (G.2.1 + 0), .int 12] 0 := by
  exact ⟨0, 0, 42, 90324, _, by decide, by decide, by decide, by decide, by decide, (by exact wl_frame rfl), cx_about_12_o⟩
set_option maxRecDepth 100000 in
set_option maxHeartbeats 4000000 in
theorem cx_about_13_o {l : Launch} {G : gG} : Ct l G mX9_about 0 0 [.ref (G.2.1 + 0), .int 13] 42 90324 (wl G.2.1 (LF G)) (some (.int 0), 42, 90324, (wl G.2.1 (LF G))) := by
  refine Ct.of (by decide) (Nat.le_of_ble_eq_true rfl) ⟨Nat.le_refl _, Nat.le_refl _⟩ ?_
  show Go l G mX9_about _ 0 [(0, .ref (G.2.1 + 0)), (1, .int 13)] [] 42 90324 (wl G.2.1 (LF G))
  refine go_iload_n (pc := 0) dX9_about_0 rfl rfl ?_
  refine go_tableIn (pc := 1) (off := 219) (tgt := 220) dX9_about_1 (by decide) (by decide) (by decide) (by decide) ?_
  refine go_aload_n (pc := 220) dX9_about_220 rfl rfl ?_
  refine go_get (pc := 221) fX9_12 rfl (gz_b (by decide)) (wl_at (i := 0) rfl) rfl dX9_about_221 ?_
  refine go_get (pc := 224) fX9_236 rfl (gz_b (by decide)) (wl_at (i := 1) rfl) rfl dX9_about_224 ?_
  refine go_get (pc := 227) fX9_243 rfl (gz_b (by decide)) (wl_at (i := 17) rfl) rfl dX9_about_227 ?_
  exact go_iret (pc := 230) rfl dX9_about_230
theorem cx_about_13 {l : Launch} {G : gG} : CX l G mX9_about [.ref (G.2.1 + 0), .int 13] 0 := by
  exact ⟨0, 0, 42, 90324, _, by decide, by decide, by decide, by decide, by decide, (by exact wl_frame rfl), cx_about_13_o⟩
set_option maxRecDepth 100000 in
set_option maxHeartbeats 4000000 in
theorem cx_about_14_o {l : Launch} {G : gG} : Ct l G mX9_about 0 0 [.ref (G.2.1 + 0), .int 14] 42 90324 (wl G.2.1 (LF G)) (some (.int 0), 42, 90324, (wl G.2.1 (LF G))) := by
  refine Ct.of (by decide) (Nat.le_of_ble_eq_true rfl) ⟨Nat.le_refl _, Nat.le_refl _⟩ ?_
  show Go l G mX9_about _ 0 [(0, .ref (G.2.1 + 0)), (1, .int 14)] [] 42 90324 (wl G.2.1 (LF G))
  refine go_iload_n (pc := 0) dX9_about_0 rfl rfl ?_
  refine go_tableIn (pc := 1) (off := 230) (tgt := 231) dX9_about_1 (by decide) (by decide) (by decide) (by decide) ?_
  refine go_aload_n (pc := 231) dX9_about_231 rfl rfl ?_
  refine go_get (pc := 232) fX9_12 rfl (gz_b (by decide)) (wl_at (i := 0) rfl) rfl dX9_about_232 ?_
  refine go_get (pc := 235) fX9_236 rfl (gz_b (by decide)) (wl_at (i := 1) rfl) rfl dX9_about_235 ?_
  refine go_get (pc := 238) fX9_246 rfl (gz_b (by decide)) (wl_at (i := 17) rfl) rfl dX9_about_238 ?_
  exact go_iret (pc := 241) rfl dX9_about_241
theorem cx_about_14 {l : Launch} {G : gG} : CX l G mX9_about [.ref (G.2.1 + 0), .int 14] 0 := by
  exact ⟨0, 0, 42, 90324, _, by decide, by decide, by decide, by decide, by decide, (by exact wl_frame rfl), cx_about_14_o⟩
set_option maxRecDepth 100000 in
set_option maxHeartbeats 4000000 in
theorem cx_about_15_o {l : Launch} {G : gG} : Ct l G mX9_about 0 0 [.ref (G.2.1 + 0), .int 15] 42 90324 (wl G.2.1 (LF G)) (some (.int 0), 42, 90324, (wl G.2.1 (LF G))) := by
  refine Ct.of (by decide) (Nat.le_of_ble_eq_true rfl) ⟨Nat.le_refl _, Nat.le_refl _⟩ ?_
  show Go l G mX9_about _ 0 [(0, .ref (G.2.1 + 0)), (1, .int 15)] [] 42 90324 (wl G.2.1 (LF G))
  refine go_iload_n (pc := 0) dX9_about_0 rfl rfl ?_
  refine go_tableIn (pc := 1) (off := 241) (tgt := 242) dX9_about_1 (by decide) (by decide) (by decide) (by decide) ?_
  refine go_aload_n (pc := 242) dX9_about_242 rfl rfl ?_
  refine go_get (pc := 243) fX9_12 rfl (gz_b (by decide)) (wl_at (i := 0) rfl) rfl dX9_about_243 ?_
  refine go_get (pc := 246) fX9_236 rfl (gz_b (by decide)) (wl_at (i := 1) rfl) rfl dX9_about_246 ?_
  refine go_get (pc := 249) fX9_249 rfl (gz_b (by decide)) (wl_at (i := 17) rfl) rfl dX9_about_249 ?_
  exact go_iret (pc := 252) rfl dX9_about_252
theorem cx_about_15 {l : Launch} {G : gG} : CX l G mX9_about [.ref (G.2.1 + 0), .int 15] 0 := by
  exact ⟨0, 0, 42, 90324, _, by decide, by decide, by decide, by decide, by decide, (by exact wl_frame rfl), cx_about_15_o⟩
set_option maxRecDepth 100000 in
set_option maxHeartbeats 4000000 in
theorem cx_about_lo_o {l : Launch} {G : gG} (x1 : Int32) (k0 : x1 < 0) : Ct l G mX9_about 0 0 [.ref (G.2.1 + 0), .int x1] 42 90324 (wl G.2.1 (LF G)) (some (.int ((-102))), 42, 90324, (wl G.2.1 (LF G))) := by
  refine Ct.of (by decide) (Nat.le_of_ble_eq_true rfl) ⟨Nat.le_refl _, Nat.le_refl _⟩ ?_
  show Go l G mX9_about _ 0 [(0, .ref (G.2.1 + 0)), (1, .int x1)] [] 42 90324 (wl G.2.1 (LF G))
  refine go_iload_n (pc := 0) dX9_about_0 rfl rfl ?_
  refine go_tableOut (pc := 1) (tgt := 253) dX9_about_1 (Or.inl (gt_lo k0 (by decide))) (by decide) ?_
  refine go_bipush (pc := 253) (v := (-102)) dX9_about_253 (by decide) ?_
  exact go_iret (pc := 255) rfl dX9_about_255
theorem cx_about_lo {l : Launch} {G : gG} (x1 : Int32) (k0 : x1 < 0) : CX l G mX9_about [.ref (G.2.1 + 0), .int x1] ((-102)) := by
  exact ⟨0, 0, 42, 90324, _, by decide, by decide, by decide, by decide, by decide, (by exact wl_frame rfl), cx_about_lo_o x1 k0⟩
set_option maxRecDepth 100000 in
set_option maxHeartbeats 4000000 in
theorem cx_about_hi_o {l : Launch} {G : gG} (x1 : Int32) (k0 : 15 < x1) : Ct l G mX9_about 0 0 [.ref (G.2.1 + 0), .int x1] 42 90324 (wl G.2.1 (LF G)) (some (.int ((-102))), 42, 90324, (wl G.2.1 (LF G))) := by
  refine Ct.of (by decide) (Nat.le_of_ble_eq_true rfl) ⟨Nat.le_refl _, Nat.le_refl _⟩ ?_
  show Go l G mX9_about _ 0 [(0, .ref (G.2.1 + 0)), (1, .int x1)] [] 42 90324 (wl G.2.1 (LF G))
  refine go_iload_n (pc := 0) dX9_about_0 rfl rfl ?_
  refine go_tableOut (pc := 1) (tgt := 253) dX9_about_1 (Or.inr (gt_hi k0 (by decide))) (by decide) ?_
  refine go_bipush (pc := 253) (v := (-102)) dX9_about_253 (by decide) ?_
  exact go_iret (pc := 255) rfl dX9_about_255
theorem cx_about_hi {l : Launch} {G : gG} (x1 : Int32) (k0 : 15 < x1) : CX l G mX9_about [.ref (G.2.1 + 0), .int x1] ((-102)) := by
  exact ⟨0, 0, 42, 90324, _, by decide, by decide, by decide, by decide, by decide, (by exact wl_frame rfl), cx_about_hi_o x1 k0⟩

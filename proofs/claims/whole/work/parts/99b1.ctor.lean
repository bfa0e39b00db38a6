/-! the constructors, laid by wip/tools/p1gen.py -/
set_option maxRecDepth 100000 in
set_option maxHeartbeats 4000000 in
theorem cX2_init_1 {l : Launch} {G : gG} : Ct l G mX2_init 1 20 [.ref (G.2.1 + 2)] 3 25 (wl G.2.1 [ob 9 [.null, .null, .null, .null, .null, .int 0, .int 0, .null, .int 0, .null, .int 0], ob 6 [.null, .null, .null, .null, .null, .null, .null], ob 2 [.int 0, .int 0, .int 0, .int 0, .null, .null, .null]]) (none, 6, 5025, (wl G.2.1 [ob 9 [.null, .null, .null, .null, .null, .int 0, .int 0, .null, .int 0, .null, .int 0], ob 6 [.null, .null, .null, .null, .null, .null, .null], ob 2 [.int 0, .int 0, .int 0, .int 0, .ref (G.2.1 + 3), .ref (G.2.1 + 4), .ref (G.2.1 + 5)], ai G 4000 (fun _ => 0), ai G 500 (fun _ => 0), ai G 500 (fun _ => 0)])) := by
  refine Ct.of (by decide) (Nat.le_of_ble_eq_true rfl) ⟨Nat.le_of_ble_eq_true rfl, Nat.le_of_ble_eq_true rfl⟩ ?_
  show Go l G mX2_init _ 0 [(0, .ref (G.2.1 + 2))] [] 3 25 (wl G.2.1 [ob 9 [.null, .null, .null, .null, .null, .int 0, .int 0, .null, .int 0, .null, .int 0], ob 6 [.null, .null, .null, .null, .null, .null, .null], ob 2 [.int 0, .int 0, .int 0, .int 0, .null, .null, .null]])
  refine go_aload_n (pc := 0) dX2_init_0 rfl rfl ?_
  refine go_objInit (pc := 1) rfl oX2_3 g_oi g_oc (Nat.le_of_ble_eq_true rfl) (Nat.le_of_ble_eq_true rfl) dX2_init_1 ?_
  refine go_aload_n (pc := 4) dX2_init_4 rfl rfl ?_
  refine go_sipush (pc := 5) (v := 4000) dX2_init_5 (by decide) ?_
  refine go_newaE (pc := 8) (N := 4000) (n1 := 4) (k1 := 4025) (by decide) (by decide) g_ai rfl rfl (gz_le rfl rfl) (gz_le rfl rfl) dX2_init_8 ?_
  refine go_ext (wl_push (n := 3) rfl) ?_
  refine go_putF (pc := 10) fX2_9 rfl rfl rfl (gz_b (by decide)) (wl_at (i := 2) rfl) (Nat.le_of_ble_eq_true rfl) rfl rfl dX2_init_10 ?_
  refine go_ext (wl_up (i := 2) rfl rfl) ?_
  refine go_aload_n (pc := 13) dX2_init_13 rfl rfl ?_
  refine go_sipush (pc := 14) (v := 500) dX2_init_14 (by decide) ?_
  refine go_newaE (pc := 17) (N := 500) (n1 := 5) (k1 := 4525) (by decide) (by decide) g_ai rfl rfl (gz_le rfl rfl) (gz_le rfl rfl) dX2_init_17 ?_
  refine go_ext (wl_push (n := 4) rfl) ?_
  refine go_putF (pc := 19) fX2_15 rfl rfl rfl (gz_b (by decide)) (wl_at (i := 2) rfl) (Nat.le_of_ble_eq_true rfl) rfl rfl dX2_init_19 ?_
  refine go_ext (wl_up (i := 2) rfl rfl) ?_
  refine go_aload_n (pc := 22) dX2_init_22 rfl rfl ?_
  refine go_sipush (pc := 23) (v := 500) dX2_init_23 (by decide) ?_
  refine go_newaE (pc := 26) (N := 500) (n1 := 6) (k1 := 5025) (by decide) (by decide) g_ai rfl rfl (gz_le rfl rfl) (gz_le rfl rfl) dX2_init_26 ?_
  refine go_ext (wl_push (n := 5) rfl) ?_
  refine go_putF (pc := 28) fX2_18 rfl rfl rfl (gz_b (by decide)) (wl_at (i := 2) rfl) (Nat.le_of_ble_eq_true rfl) rfl rfl dX2_init_28 ?_
  refine go_ext (wl_up (i := 2) rfl rfl) ?_
  refine go_w (show _ = wl G.2.1 [ob 9 [.null, .null, .null, .null, .null, .int 0, .int 0, .null, .int 0, .null, .int 0], ob 6 [.null, .null, .null, .null, .null, .null, .null], ob 2 [.int 0, .int 0, .int 0, .int 0, .ref (G.2.1 + 3), .ref (G.2.1 + 4), .ref (G.2.1 + 5)], ai G 4000 (fun _ => 0), ai G 500 (fun _ => 0), ai G 500 (fun _ => 0)] from rfl) ?_
  exact go_vret (pc := 31) rfl dX2_init_31
set_option maxRecDepth 100000 in
set_option maxHeartbeats 4000000 in
theorem cX3_init_1 {l : Launch} {G : gG} : Ct l G mX3_init 1 20 [.ref (G.2.1 + 6)] 7 5034 (wl G.2.1 [ob 9 [.null, .null, .null, .null, .null, .int 0, .int 0, .null, .int 0, .null, .int 0], ob 6 [.ref (G.2.1 + 2), .null, .null, .null, .null, .null, .null], ob 2 [.int 0, .int 0, .int 0, .int 0, .ref (G.2.1 + 3), .ref (G.2.1 + 4), .ref (G.2.1 + 5)], ai G 4000 (fun _ => 0), ai G 500 (fun _ => 0), ai G 500 (fun _ => 0), ob 3 [.int 0, .int 0, .int 0, .int 0, .null, .null, .null, .null, .null]]) (none, 12, 7534, (wl G.2.1 [ob 9 [.null, .null, .null, .null, .null, .int 0, .int 0, .null, .int 0, .null, .int 0], ob 6 [.ref (G.2.1 + 2), .null, .null, .null, .null, .null, .null], ob 2 [.int 0, .int 0, .int 0, .int 0, .ref (G.2.1 + 3), .ref (G.2.1 + 4), .ref (G.2.1 + 5)], ai G 4000 (fun _ => 0), ai G 500 (fun _ => 0), ai G 500 (fun _ => 0), ob 3 [.int 0, .int 0, .int 0, .int 0, .ref (G.2.1 + 7), .ref (G.2.1 + 8), .ref (G.2.1 + 9), .ref (G.2.1 + 10), .ref (G.2.1 + 11)], ai G 500 (fun _ => 0), ai G 500 (fun _ => 0), ai G 500 (fun _ => 0), ai G 500 (fun _ => 0), ai G 500 (fun _ => 0)])) := by
  refine Ct.of (by decide) (Nat.le_of_ble_eq_true rfl) ⟨Nat.le_of_ble_eq_true rfl, Nat.le_of_ble_eq_true rfl⟩ ?_
  show Go l G mX3_init _ 0 [(0, .ref (G.2.1 + 6))] [] 7 5034 (wl G.2.1 [ob 9 [.null, .null, .null, .null, .null, .int 0, .int 0, .null, .int 0, .null, .int 0], ob 6 [.ref (G.2.1 + 2), .null, .null, .null, .null, .null, .null], ob 2 [.int 0, .int 0, .int 0, .int 0, .ref (G.2.1 + 3), .ref (G.2.1 + 4), .ref (G.2.1 + 5)], ai G 4000 (fun _ => 0), ai G 500 (fun _ => 0), ai G 500 (fun _ => 0), ob 3 [.int 0, .int 0, .int 0, .int 0, .null, .null, .null, .null, .null]])
  refine go_aload_n (pc := 0) dX3_init_0 rfl rfl ?_
  refine go_objInit (pc := 1) rfl oX3_3 g_oi g_oc (Nat.le_of_ble_eq_true rfl) (Nat.le_of_ble_eq_true rfl) dX3_init_1 ?_
  refine go_aload_n (pc := 4) dX3_init_4 rfl rfl ?_
  refine go_sipush (pc := 5) (v := 500) dX3_init_5 (by decide) ?_
  refine go_newaE (pc := 8) (N := 500) (n1 := 8) (k1 := 5534) (by decide) (by decide) g_ai rfl rfl (gz_le rfl rfl) (gz_le rfl rfl) dX3_init_8 ?_
  refine go_ext (wl_push (n := 7) rfl) ?_
  refine go_putF (pc := 10) fX3_9 rfl rfl rfl (gz_b (by decide)) (wl_at (i := 6) rfl) (Nat.le_of_ble_eq_true rfl) rfl rfl dX3_init_10 ?_
  refine go_ext (wl_up (i := 6) rfl rfl) ?_
  refine go_aload_n (pc := 13) dX3_init_13 rfl rfl ?_
  refine go_sipush (pc := 14) (v := 500) dX3_init_14 (by decide) ?_
  refine go_newaE (pc := 17) (N := 500) (n1 := 9) (k1 := 6034) (by decide) (by decide) g_ai rfl rfl (gz_le rfl rfl) (gz_le rfl rfl) dX3_init_17 ?_
  refine go_ext (wl_push (n := 8) rfl) ?_
  refine go_putF (pc := 19) fX3_15 rfl rfl rfl (gz_b (by decide)) (wl_at (i := 6) rfl) (Nat.le_of_ble_eq_true rfl) rfl rfl dX3_init_19 ?_
  refine go_ext (wl_up (i := 6) rfl rfl) ?_
  refine go_aload_n (pc := 22) dX3_init_22 rfl rfl ?_
  refine go_sipush (pc := 23) (v := 500) dX3_init_23 (by decide) ?_
  refine go_newaE (pc := 26) (N := 500) (n1 := 10) (k1 := 6534) (by decide) (by decide) g_ai rfl rfl (gz_le rfl rfl) (gz_le rfl rfl) dX3_init_26 ?_
  refine go_ext (wl_push (n := 9) rfl) ?_
  refine go_putF (pc := 28) fX3_18 rfl rfl rfl (gz_b (by decide)) (wl_at (i := 6) rfl) (Nat.le_of_ble_eq_true rfl) rfl rfl dX3_init_28 ?_
  refine go_ext (wl_up (i := 6) rfl rfl) ?_
  refine go_w (show _ = wl G.2.1 [ob 9 [.null, .null, .null, .null, .null, .int 0, .int 0, .null, .int 0, .null, .int 0], ob 6 [.ref (G.2.1 + 2), .null, .null, .null, .null, .null, .null], ob 2 [.int 0, .int 0, .int 0, .int 0, .ref (G.2.1 + 3), .ref (G.2.1 + 4), .ref (G.2.1 + 5)], ai G 4000 (fun _ => 0), ai G 500 (fun _ => 0), ai G 500 (fun _ => 0), ob 3 [.int 0, .int 0, .int 0, .int 0, .ref (G.2.1 + 7), .ref (G.2.1 + 8), .ref (G.2.1 + 9), .null, .null], ai G 500 (fun _ => 0), ai G 500 (fun _ => 0), ai G 500 (fun _ => 0)] from rfl) ?_
  refine go_aload_n (pc := 31) dX3_init_31 rfl rfl ?_
  refine go_sipush (pc := 32) (v := 500) dX3_init_32 (by decide) ?_
  refine go_newaE (pc := 35) (N := 500) (n1 := 11) (k1 := 7034) (by decide) (by decide) g_ai rfl rfl (gz_le rfl rfl) (gz_le rfl rfl) dX3_init_35 ?_
  refine go_ext (wl_push (n := 10) rfl) ?_
  refine go_putF (pc := 37) fX3_21 rfl rfl rfl (gz_b (by decide)) (wl_at (i := 6) rfl) (Nat.le_of_ble_eq_true rfl) rfl rfl dX3_init_37 ?_
  refine go_ext (wl_up (i := 6) rfl rfl) ?_
  refine go_aload_n (pc := 40) dX3_init_40 rfl rfl ?_
  refine go_sipush (pc := 41) (v := 500) dX3_init_41 (by decide) ?_
  refine go_newaE (pc := 44) (N := 500) (n1 := 12) (k1 := 7534) (by decide) (by decide) g_ai rfl rfl (gz_le rfl rfl) (gz_le rfl rfl) dX3_init_44 ?_
  refine go_ext (wl_push (n := 11) rfl) ?_
  refine go_putF (pc := 46) fX3_24 rfl rfl rfl (gz_b (by decide)) (wl_at (i := 6) rfl) (Nat.le_of_ble_eq_true rfl) rfl rfl dX3_init_46 ?_
  refine go_ext (wl_up (i := 6) rfl rfl) ?_
  refine go_w (show _ = wl G.2.1 [ob 9 [.null, .null, .null, .null, .null, .int 0, .int 0, .null, .int 0, .null, .int 0], ob 6 [.ref (G.2.1 + 2), .null, .null, .null, .null, .null, .null], ob 2 [.int 0, .int 0, .int 0, .int 0, .ref (G.2.1 + 3), .ref (G.2.1 + 4), .ref (G.2.1 + 5)], ai G 4000 (fun _ => 0), ai G 500 (fun _ => 0), ai G 500 (fun _ => 0), ob 3 [.int 0, .int 0, .int 0, .int 0, .ref (G.2.1 + 7), .ref (G.2.1 + 8), .ref (G.2.1 + 9), .ref (G.2.1 + 10), .ref (G.2.1 + 11)], ai G 500 (fun _ => 0), ai G 500 (fun _ => 0), ai G 500 (fun _ => 0), ai G 500 (fun _ => 0), ai G 500 (fun _ => 0)] from rfl) ?_
  exact go_vret (pc := 49) rfl dX3_init_49
set_option maxRecDepth 100000 in
set_option maxHeartbeats 4000000 in
theorem cX8_init_1 {l : Launch} {G : gG} : Ct l G mX8_init 1 20 [.ref (G.2.1 + 12)] 13 7541 (wl G.2.1 [ob 9 [.null, .null, .null, .null, .null, .int 0, .int 0, .null, .int 0, .null, .int 0], ob 6 [.ref (G.2.1 + 2), .ref (G.2.1 + 6), .null, .null, .null, .null, .null], ob 2 [.int 0, .int 0, .int 0, .int 0, .ref (G.2.1 + 3), .ref (G.2.1 + 4), .ref (G.2.1 + 5)], ai G 4000 (fun _ => 0), ai G 500 (fun _ => 0), ai G 500 (fun _ => 0), ob 3 [.int 0, .int 0, .int 0, .int 0, .ref (G.2.1 + 7), .ref (G.2.1 + 8), .ref (G.2.1 + 9), .ref (G.2.1 + 10), .ref (G.2.1 + 11)], ai G 500 (fun _ => 0), ai G 500 (fun _ => 0), ai G 500 (fun _ => 0), ai G 500 (fun _ => 0), ai G 500 (fun _ => 0), ob 8 [.int 0, .int 0, .int 0, .int 0, .int 0, .int 0, .null]]) (none, 14, 7841, (wl G.2.1 [ob 9 [.null, .null, .null, .null, .null, .int 0, .int 0, .null, .int 0, .null, .int 0], ob 6 [.ref (G.2.1 + 2), .ref (G.2.1 + 6), .null, .null, .null, .null, .null], ob 2 [.int 0, .int 0, .int 0, .int 0, .ref (G.2.1 + 3), .ref (G.2.1 + 4), .ref (G.2.1 + 5)], ai G 4000 (fun _ => 0), ai G 500 (fun _ => 0), ai G 500 (fun _ => 0), ob 3 [.int 0, .int 0, .int 0, .int 0, .ref (G.2.1 + 7), .ref (G.2.1 + 8), .ref (G.2.1 + 9), .ref (G.2.1 + 10), .ref (G.2.1 + 11)], ai G 500 (fun _ => 0), ai G 500 (fun _ => 0), ai G 500 (fun _ => 0), ai G 500 (fun _ => 0), ai G 500 (fun _ => 0), ob 8 [.int 0, .int 0, .int 0, .int 0, .int 0, .int 0, .ref (G.2.1 + 13)], ai G 300 (fun _ => 0)])) := by
  refine Ct.of (by decide) (Nat.le_of_ble_eq_true rfl) ⟨Nat.le_of_ble_eq_true rfl, Nat.le_of_ble_eq_true rfl⟩ ?_
  show Go l G mX8_init _ 0 [(0, .ref (G.2.1 + 12))] [] 13 7541 (wl G.2.1 [ob 9 [.null, .null, .null, .null, .null, .int 0, .int 0, .null, .int 0, .null, .int 0], ob 6 [.ref (G.2.1 + 2), .ref (G.2.1 + 6), .null, .null, .null, .null, .null], ob 2 [.int 0, .int 0, .int 0, .int 0, .ref (G.2.1 + 3), .ref (G.2.1 + 4), .ref (G.2.1 + 5)], ai G 4000 (fun _ => 0), ai G 500 (fun _ => 0), ai G 500 (fun _ => 0), ob 3 [.int 0, .int 0, .int 0, .int 0, .ref (G.2.1 + 7), .ref (G.2.1 + 8), .ref (G.2.1 + 9), .ref (G.2.1 + 10), .ref (G.2.1 + 11)], ai G 500 (fun _ => 0), ai G 500 (fun _ => 0), ai G 500 (fun _ => 0), ai G 500 (fun _ => 0), ai G 500 (fun _ => 0), ob 8 [.int 0, .int 0, .int 0, .int 0, .int 0, .int 0, .null]])
  refine go_aload_n (pc := 0) dX8_init_0 rfl rfl ?_
  refine go_objInit (pc := 1) rfl oX8_3 g_oi g_oc (Nat.le_of_ble_eq_true rfl) (Nat.le_of_ble_eq_true rfl) dX8_init_1 ?_
  refine go_aload_n (pc := 4) dX8_init_4 rfl rfl ?_
  refine go_sipush (pc := 5) (v := 300) dX8_init_5 (by decide) ?_
  refine go_newaE (pc := 8) (N := 300) (n1 := 14) (k1 := 7841) (by decide) (by decide) g_ai rfl rfl (gz_le rfl rfl) (gz_le rfl rfl) dX8_init_8 ?_
  refine go_ext (wl_push (n := 13) rfl) ?_
  refine go_putF (pc := 10) fX8_9 rfl rfl rfl (gz_b (by decide)) (wl_at (i := 12) rfl) (Nat.le_of_ble_eq_true rfl) rfl rfl dX8_init_10 ?_
  refine go_ext (wl_up (i := 12) rfl rfl) ?_
  refine go_w (show _ = wl G.2.1 [ob 9 [.null, .null, .null, .null, .null, .int 0, .int 0, .null, .int 0, .null, .int 0], ob 6 [.ref (G.2.1 + 2), .ref (G.2.1 + 6), .null, .null, .null, .null, .null], ob 2 [.int 0, .int 0, .int 0, .int 0, .ref (G.2.1 + 3), .ref (G.2.1 + 4), .ref (G.2.1 + 5)], ai G 4000 (fun _ => 0), ai G 500 (fun _ => 0), ai G 500 (fun _ => 0), ob 3 [.int 0, .int 0, .int 0, .int 0, .ref (G.2.1 + 7), .ref (G.2.1 + 8), .ref (G.2.1 + 9), .ref (G.2.1 + 10), .ref (G.2.1 + 11)], ai G 500 (fun _ => 0), ai G 500 (fun _ => 0), ai G 500 (fun _ => 0), ai G 500 (fun _ => 0), ai G 500 (fun _ => 0), ob 8 [.int 0, .int 0, .int 0, .int 0, .int 0, .int 0, .ref (G.2.1 + 13)], ai G 300 (fun _ => 0)] from rfl) ?_
  exact go_vret (pc := 13) rfl dX8_init_13
set_option maxRecDepth 100000 in
set_option maxHeartbeats 4000000 in
theorem cX4_init_1 {l : Launch} {G : gG} : Ct l G mX4_init 1 20 [.ref (G.2.1 + 14)] 15 7844 (wl G.2.1 [ob 9 [.null, .null, .null, .null, .null, .int 0, .int 0, .null, .int 0, .null, .int 0], ob 6 [.ref (G.2.1 + 2), .ref (G.2.1 + 6), .ref (G.2.1 + 12), .null, .null, .null, .null], ob 2 [.int 0, .int 0, .int 0, .int 0, .ref (G.2.1 + 3), .ref (G.2.1 + 4), .ref (G.2.1 + 5)], ai G 4000 (fun _ => 0), ai G 500 (fun _ => 0), ai G 500 (fun _ => 0), ob 3 [.int 0, .int 0, .int 0, .int 0, .ref (G.2.1 + 7), .ref (G.2.1 + 8), .ref (G.2.1 + 9), .ref (G.2.1 + 10), .ref (G.2.1 + 11)], ai G 500 (fun _ => 0), ai G 500 (fun _ => 0), ai G 500 (fun _ => 0), ai G 500 (fun _ => 0), ai G 500 (fun _ => 0), ob 8 [.int 0, .int 0, .int 0, .int 0, .int 0, .int 0, .ref (G.2.1 + 13)], ai G 300 (fun _ => 0), ob 4 [.int 0, .null, .null]]) (none, 17, 20898, (wl G.2.1 [ob 9 [.null, .null, .null, .null, .null, .int 0, .int 0, .null, .int 0, .null, .int 0], ob 6 [.ref (G.2.1 + 2), .ref (G.2.1 + 6), .ref (G.2.1 + 12), .null, .null, .null, .null], ob 2 [.int 0, .int 0, .int 0, .int 0, .ref (G.2.1 + 3), .ref (G.2.1 + 4), .ref (G.2.1 + 5)], ai G 4000 (fun _ => 0), ai G 500 (fun _ => 0), ai G 500 (fun _ => 0), ob 3 [.int 0, .int 0, .int 0, .int 0, .ref (G.2.1 + 7), .ref (G.2.1 + 8), .ref (G.2.1 + 9), .ref (G.2.1 + 10), .ref (G.2.1 + 11)], ai G 500 (fun _ => 0), ai G 500 (fun _ => 0), ai G 500 (fun _ => 0), ai G 500 (fun _ => 0), ai G 500 (fun _ => 0), ob 8 [.int 0, .int 0, .int 0, .int 0, .int 0, .int 0, .ref (G.2.1 + 13)], ai G 300 (fun _ => 0), ob 4 [.int 0, .ref (G.2.1 + 15), .ref (G.2.1 + 16)], ai G 6527 (fun _ => 0), ai G 6527 (fun _ => 0)])) := by
  refine Ct.of (by decide) (Nat.le_of_ble_eq_true rfl) ⟨Nat.le_of_ble_eq_true rfl, Nat.le_of_ble_eq_true rfl⟩ ?_
  show Go l G mX4_init _ 0 [(0, .ref (G.2.1 + 14))] [] 15 7844 (wl G.2.1 [ob 9 [.null, .null, .null, .null, .null, .int 0, .int 0, .null, .int 0, .null, .int 0], ob 6 [.ref (G.2.1 + 2), .ref (G.2.1 + 6), .ref (G.2.1 + 12), .null, .null, .null, .null], ob 2 [.int 0, .int 0, .int 0, .int 0, .ref (G.2.1 + 3), .ref (G.2.1 + 4), .ref (G.2.1 + 5)], ai G 4000 (fun _ => 0), ai G 500 (fun _ => 0), ai G 500 (fun _ => 0), ob 3 [.int 0, .int 0, .int 0, .int 0, .ref (G.2.1 + 7), .ref (G.2.1 + 8), .ref (G.2.1 + 9), .ref (G.2.1 + 10), .ref (G.2.1 + 11)], ai G 500 (fun _ => 0), ai G 500 (fun _ => 0), ai G 500 (fun _ => 0), ai G 500 (fun _ => 0), ai G 500 (fun _ => 0), ob 8 [.int 0, .int 0, .int 0, .int 0, .int 0, .int 0, .ref (G.2.1 + 13)], ai G 300 (fun _ => 0), ob 4 [.int 0, .null, .null]])
  refine go_aload_n (pc := 0) dX4_init_0 rfl rfl ?_
  refine go_objInit (pc := 1) rfl oX4_3 g_oi g_oc (Nat.le_of_ble_eq_true rfl) (Nat.le_of_ble_eq_true rfl) dX4_init_1 ?_
  refine go_aload_n (pc := 4) dX4_init_4 rfl rfl ?_
  refine go_sipush (pc := 5) (v := 6527) dX4_init_5 (by decide) ?_
  refine go_newaE (pc := 8) (N := 6527) (n1 := 16) (k1 := 14371) (by decide) (by decide) g_ai rfl rfl (gz_le rfl rfl) (gz_le rfl rfl) dX4_init_8 ?_
  refine go_ext (wl_push (n := 15) rfl) ?_
  refine go_putF (pc := 10) fX4_9 rfl rfl rfl (gz_b (by decide)) (wl_at (i := 14) rfl) (Nat.le_of_ble_eq_true rfl) rfl rfl dX4_init_10 ?_
  refine go_ext (wl_up (i := 14) rfl rfl) ?_
  refine go_aload_n (pc := 13) dX4_init_13 rfl rfl ?_
  refine go_sipush (pc := 14) (v := 6527) dX4_init_14 (by decide) ?_
  refine go_newaE (pc := 17) (N := 6527) (n1 := 17) (k1 := 20898) (by decide) (by decide) g_ai rfl rfl (gz_le rfl rfl) (gz_le rfl rfl) dX4_init_17 ?_
  refine go_ext (wl_push (n := 16) rfl) ?_
  refine go_putF (pc := 19) fX4_15 rfl rfl rfl (gz_b (by decide)) (wl_at (i := 14) rfl) (Nat.le_of_ble_eq_true rfl) rfl rfl dX4_init_19 ?_
  refine go_ext (wl_up (i := 14) rfl rfl) ?_
  refine go_w (show _ = wl G.2.1 [ob 9 [.null, .null, .null, .null, .null, .int 0, .int 0, .null, .int 0, .null, .int 0], ob 6 [.ref (G.2.1 + 2), .ref (G.2.1 + 6), .ref (G.2.1 + 12), .null, .null, .null, .null], ob 2 [.int 0, .int 0, .int 0, .int 0, .ref (G.2.1 + 3), .ref (G.2.1 + 4), .ref (G.2.1 + 5)], ai G 4000 (fun _ => 0), ai G 500 (fun _ => 0), ai G 500 (fun _ => 0), ob 3 [.int 0, .int 0, .int 0, .int 0, .ref (G.2.1 + 7), .ref (G.2.1 + 8), .ref (G.2.1 + 9), .ref (G.2.1 + 10), .ref (G.2.1 + 11)], ai G 500 (fun _ => 0), ai G 500 (fun _ => 0), ai G 500 (fun _ => 0), ai G 500 (fun _ => 0), ai G 500 (fun _ => 0), ob 8 [.int 0, .int 0, .int 0, .int 0, .int 0, .int 0, .ref (G.2.1 + 13)], ai G 300 (fun _ => 0), ob 4 [.int 0, .ref (G.2.1 + 15), .ref (G.2.1 + 16)], ai G 6527 (fun _ => 0), ai G 6527 (fun _ => 0)] from rfl) ?_
  exact go_vret (pc := 22) rfl dX4_init_22
set_option maxRecDepth 100000 in
set_option maxHeartbeats 4000000 in
theorem cX5_init_1 {l : Launch} {G : gG} : Ct l G mX5_init 1 20 [.ref (G.2.1 + 17)] 18 20904 (wl G.2.1 [ob 9 [.null, .null, .null, .null, .null, .int 0, .int 0, .null, .int 0, .null, .int 0], ob 6 [.ref (G.2.1 + 2), .ref (G.2.1 + 6), .ref (G.2.1 + 12), .ref (G.2.1 + 14), .null, .null, .null], ob 2 [.int 0, .int 0, .int 0, .int 0, .ref (G.2.1 + 3), .ref (G.2.1 + 4), .ref (G.2.1 + 5)], ai G 4000 (fun _ => 0), ai G 500 (fun _ => 0), ai G 500 (fun _ => 0), ob 3 [.int 0, .int 0, .int 0, .int 0, .ref (G.2.1 + 7), .ref (G.2.1 + 8), .ref (G.2.1 + 9), .ref (G.2.1 + 10), .ref (G.2.1 + 11)], ai G 500 (fun _ => 0), ai G 500 (fun _ => 0), ai G 500 (fun _ => 0), ai G 500 (fun _ => 0), ai G 500 (fun _ => 0), ob 8 [.int 0, .int 0, .int 0, .int 0, .int 0, .int 0, .ref (G.2.1 + 13)], ai G 300 (fun _ => 0), ob 4 [.int 0, .ref (G.2.1 + 15), .ref (G.2.1 + 16)], ai G 6527 (fun _ => 0), ai G 6527 (fun _ => 0), ob 5 [.int 0, .int 0, .int 0, .int 0, .null, .null]]) (none, 20, 21112, (wl G.2.1 [ob 9 [.null, .null, .null, .null, .null, .int 0, .int 0, .null, .int 0, .null, .int 0], ob 6 [.ref (G.2.1 + 2), .ref (G.2.1 + 6), .ref (G.2.1 + 12), .ref (G.2.1 + 14), .null, .null, .null], ob 2 [.int 0, .int 0, .int 0, .int 0, .ref (G.2.1 + 3), .ref (G.2.1 + 4), .ref (G.2.1 + 5)], ai G 4000 (fun _ => 0), ai G 500 (fun _ => 0), ai G 500 (fun _ => 0), ob 3 [.int 0, .int 0, .int 0, .int 0, .ref (G.2.1 + 7), .ref (G.2.1 + 8), .ref (G.2.1 + 9), .ref (G.2.1 + 10), .ref (G.2.1 + 11)], ai G 500 (fun _ => 0), ai G 500 (fun _ => 0), ai G 500 (fun _ => 0), ai G 500 (fun _ => 0), ai G 500 (fun _ => 0), ob 8 [.int 0, .int 0, .int 0, .int 0, .int 0, .int 0, .ref (G.2.1 + 13)], ai G 300 (fun _ => 0), ob 4 [.int 0, .ref (G.2.1 + 15), .ref (G.2.1 + 16)], ai G 6527 (fun _ => 0), ai G 6527 (fun _ => 0), ob 5 [.int 0, .int 0, .int 0, .int 0, .ref (G.2.1 + 18), .ref (G.2.1 + 19)], ai G 200 (fun _ => 0), ai G 8 (fun _ => 0)])) := by
  refine Ct.of (by decide) (Nat.le_of_ble_eq_true rfl) ⟨Nat.le_of_ble_eq_true rfl, Nat.le_of_ble_eq_true rfl⟩ ?_
  show Go l G mX5_init _ 0 [(0, .ref (G.2.1 + 17))] [] 18 20904 (wl G.2.1 [ob 9 [.null, .null, .null, .null, .null, .int 0, .int 0, .null, .int 0, .null, .int 0], ob 6 [.ref (G.2.1 + 2), .ref (G.2.1 + 6), .ref (G.2.1 + 12), .ref (G.2.1 + 14), .null, .null, .null], ob 2 [.int 0, .int 0, .int 0, .int 0, .ref (G.2.1 + 3), .ref (G.2.1 + 4), .ref (G.2.1 + 5)], ai G 4000 (fun _ => 0), ai G 500 (fun _ => 0), ai G 500 (fun _ => 0), ob 3 [.int 0, .int 0, .int 0, .int 0, .ref (G.2.1 + 7), .ref (G.2.1 + 8), .ref (G.2.1 + 9), .ref (G.2.1 + 10), .ref (G.2.1 + 11)], ai G 500 (fun _ => 0), ai G 500 (fun _ => 0), ai G 500 (fun _ => 0), ai G 500 (fun _ => 0), ai G 500 (fun _ => 0), ob 8 [.int 0, .int 0, .int 0, .int 0, .int 0, .int 0, .ref (G.2.1 + 13)], ai G 300 (fun _ => 0), ob 4 [.int 0, .ref (G.2.1 + 15), .ref (G.2.1 + 16)], ai G 6527 (fun _ => 0), ai G 6527 (fun _ => 0), ob 5 [.int 0, .int 0, .int 0, .int 0, .null, .null]])
  refine go_aload_n (pc := 0) dX5_init_0 rfl rfl ?_
  refine go_objInit (pc := 1) rfl oX5_3 g_oi g_oc (Nat.le_of_ble_eq_true rfl) (Nat.le_of_ble_eq_true rfl) dX5_init_1 ?_
  refine go_aload_n (pc := 4) dX5_init_4 rfl rfl ?_
  refine go_sipush (pc := 5) (v := 200) dX5_init_5 (by decide) ?_
  refine go_newaE (pc := 8) (N := 200) (n1 := 19) (k1 := 21104) (by decide) (by decide) g_ai rfl rfl (gz_le rfl rfl) (gz_le rfl rfl) dX5_init_8 ?_
  refine go_ext (wl_push (n := 18) rfl) ?_
  refine go_putF (pc := 10) fX5_9 rfl rfl rfl (gz_b (by decide)) (wl_at (i := 17) rfl) (Nat.le_of_ble_eq_true rfl) rfl rfl dX5_init_10 ?_
  refine go_ext (wl_up (i := 17) rfl rfl) ?_
  refine go_aload_n (pc := 13) dX5_init_13 rfl rfl ?_
  refine go_bipush (pc := 14) (v := 8) dX5_init_14 (by decide) ?_
  refine go_newaE (pc := 16) (N := 8) (n1 := 20) (k1 := 21112) (by decide) (by decide) g_ai rfl rfl (gz_le rfl rfl) (gz_le rfl rfl) dX5_init_16 ?_
  refine go_ext (wl_push (n := 19) rfl) ?_
  refine go_putF (pc := 18) fX5_15 rfl rfl rfl (gz_b (by decide)) (wl_at (i := 17) rfl) (Nat.le_of_ble_eq_true rfl) rfl rfl dX5_init_18 ?_
  refine go_ext (wl_up (i := 17) rfl rfl) ?_
  refine go_w (show _ = wl G.2.1 [ob 9 [.null, .null, .null, .null, .null, .int 0, .int 0, .null, .int 0, .null, .int 0], ob 6 [.ref (G.2.1 + 2), .ref (G.2.1 + 6), .ref (G.2.1 + 12), .ref (G.2.1 + 14), .null, .null, .null], ob 2 [.int 0, .int 0, .int 0, .int 0, .ref (G.2.1 + 3), .ref (G.2.1 + 4), .ref (G.2.1 + 5)], ai G 4000 (fun _ => 0), ai G 500 (fun _ => 0), ai G 500 (fun _ => 0), ob 3 [.int 0, .int 0, .int 0, .int 0, .ref (G.2.1 + 7), .ref (G.2.1 + 8), .ref (G.2.1 + 9), .ref (G.2.1 + 10), .ref (G.2.1 + 11)], ai G 500 (fun _ => 0), ai G 500 (fun _ => 0), ai G 500 (fun _ => 0), ai G 500 (fun _ => 0), ai G 500 (fun _ => 0), ob 8 [.int 0, .int 0, .int 0, .int 0, .int 0, .int 0, .ref (G.2.1 + 13)], ai G 300 (fun _ => 0), ob 4 [.int 0, .ref (G.2.1 + 15), .ref (G.2.1 + 16)], ai G 6527 (fun _ => 0), ai G 6527 (fun _ => 0), ob 5 [.int 0, .int 0, .int 0, .int 0, .ref (G.2.1 + 18), .ref (G.2.1 + 19)], ai G 200 (fun _ => 0), ai G 8 (fun _ => 0)] from rfl) ?_
  exact go_vret (pc := 21) rfl dX5_init_21
set_option maxRecDepth 100000 in
set_option maxHeartbeats 4000000 in
theorem cX2_freeFrom_1 {l : Launch} {G : gG} : Ct l G mX2_freeFrom 2 46 [.ref (G.2.1 + 2), .int 0] 22 21168 (wl G.2.1 [ob 9 [.null, .null, .null, .null, .null, .int 0, .int 0, .null, .int 0, .null, .int 0], ob 6 [.ref (G.2.1 + 2), .ref (G.2.1 + 6), .ref (G.2.1 + 12), .ref (G.2.1 + 14), .ref (G.2.1 + 17), .ref (G.2.1 + 20), .ref (G.2.1 + 21)], ob 2 [.int 0, .int 0, .int 0, .int 0, .ref (G.2.1 + 3), .ref (G.2.1 + 4), .ref (G.2.1 + 5)], ai G 4000 (fun _ => 0), ai G 500 (fun _ => 0), ai G 500 (fun _ => 0), ob 3 [.int 0, .int 0, .int 0, .int 0, .ref (G.2.1 + 7), .ref (G.2.1 + 8), .ref (G.2.1 + 9), .ref (G.2.1 + 10), .ref (G.2.1 + 11)], ai G 500 (fun _ => 0), ai G 500 (fun _ => 0), ai G 500 (fun _ => 0), ai G 500 (fun _ => 0), ai G 500 (fun _ => 0), ob 8 [.int 0, .int 0, .int 0, .int 0, .int 0, .int 0, .ref (G.2.1 + 13)], ai G 300 (fun _ => 0), ob 4 [.int 0, .ref (G.2.1 + 15), .ref (G.2.1 + 16)], ai G 6527 (fun _ => 0), ai G 6527 (fun _ => 0), ob 5 [.int 0, .int 0, .int 0, .int 0, .ref (G.2.1 + 18), .ref (G.2.1 + 19)], ai G 200 (fun _ => 0), ai G 8 (fun _ => 0), ai G 24 (fun _ => 0), ai G 32 (fun _ => 0)]) (none, 22, 21168, (wl G.2.1 [ob 9 [.null, .null, .null, .null, .null, .int 0, .int 0, .null, .int 0, .null, .int 0], ob 6 [.ref (G.2.1 + 2), .ref (G.2.1 + 6), .ref (G.2.1 + 12), .ref (G.2.1 + 14), .ref (G.2.1 + 17), .ref (G.2.1 + 20), .ref (G.2.1 + 21)], ob 2 [.int 0, .int 0, .int 0, .int 0, .ref (G.2.1 + 3), .ref (G.2.1 + 4), .ref (G.2.1 + 5)], ai G 4000 (fun j => if 0 ≤ j ∧ j < 0 then 0 else (fun _ => 0) j), ai G 500 (fun _ => 0), ai G 500 (fun _ => 0), ob 3 [.int 0, .int 0, .int 0, .int 0, .ref (G.2.1 + 7), .ref (G.2.1 + 8), .ref (G.2.1 + 9), .ref (G.2.1 + 10), .ref (G.2.1 + 11)], ai G 500 (fun _ => 0), ai G 500 (fun _ => 0), ai G 500 (fun _ => 0), ai G 500 (fun _ => 0), ai G 500 (fun _ => 0), ob 8 [.int 0, .int 0, .int 0, .int 0, .int 0, .int 0, .ref (G.2.1 + 13)], ai G 300 (fun _ => 0), ob 4 [.int 0, .ref (G.2.1 + 15), .ref (G.2.1 + 16)], ai G 6527 (fun _ => 0), ai G 6527 (fun _ => 0), ob 5 [.int 0, .int 0, .int 0, .int 0, .ref (G.2.1 + 18), .ref (G.2.1 + 19)], ai G 200 (fun _ => 0), ai G 8 (fun _ => 0), ai G 24 (fun _ => 0), ai G 32 (fun _ => 0)])) := by
  refine Ct.of (by decide) (Nat.le_of_ble_eq_true rfl) ⟨Nat.le_refl _, Nat.le_refl _⟩ ?_
  show Go l G mX2_freeFrom _ 0 [(0, .ref (G.2.1 + 2)), (1, .int 0)] [] 22 21168 (wl G.2.1 [ob 9 [.null, .null, .null, .null, .null, .int 0, .int 0, .null, .int 0, .null, .int 0], ob 6 [.ref (G.2.1 + 2), .ref (G.2.1 + 6), .ref (G.2.1 + 12), .ref (G.2.1 + 14), .ref (G.2.1 + 17), .ref (G.2.1 + 20), .ref (G.2.1 + 21)], ob 2 [.int 0, .int 0, .int 0, .int 0, .ref (G.2.1 + 3), .ref (G.2.1 + 4), .ref (G.2.1 + 5)], ai G 4000 (fun _ => 0), ai G 500 (fun _ => 0), ai G 500 (fun _ => 0), ob 3 [.int 0, .int 0, .int 0, .int 0, .ref (G.2.1 + 7), .ref (G.2.1 + 8), .ref (G.2.1 + 9), .ref (G.2.1 + 10), .ref (G.2.1 + 11)], ai G 500 (fun _ => 0), ai G 500 (fun _ => 0), ai G 500 (fun _ => 0), ai G 500 (fun _ => 0), ai G 500 (fun _ => 0), ob 8 [.int 0, .int 0, .int 0, .int 0, .int 0, .int 0, .ref (G.2.1 + 13)], ai G 300 (fun _ => 0), ob 4 [.int 0, .ref (G.2.1 + 15), .ref (G.2.1 + 16)], ai G 6527 (fun _ => 0), ai G 6527 (fun _ => 0), ob 5 [.int 0, .int 0, .int 0, .int 0, .ref (G.2.1 + 18), .ref (G.2.1 + 19)], ai G 200 (fun _ => 0), ai G 8 (fun _ => 0), ai G 24 (fun _ => 0), ai G 32 (fun _ => 0)])
  refine go_aload_n (pc := 0) dX2_freeFrom_0 rfl rfl ?_
  refine go_get (pc := 1) fX2_9 rfl (gz_b (by decide)) (wl_at (i := 2) rfl) rfl dX2_freeFrom_1 ?_
  refine go_iload_n (pc := 4) dX2_freeFrom_4 rfl rfl ?_
  refine go_aload_n (pc := 5) dX2_freeFrom_5 rfl rfl ?_
  refine go_get (pc := 6) fX2_41 rfl (gz_b (by decide)) (wl_at (i := 2) rfl) rfl dX2_freeFrom_6 ?_
  refine go_iconst (pc := 9) (v := 0) dX2_freeFrom_9 (by decide) ?_
  refine go_callS_v (pc := 10) sX2_44 rfl (ct_fillr (a := G.2.1 + 3) (N := 4000) (f := (fun _ => 0)) 0 (fr := 0) (to := 0) (by decide) (by decide) (by decide) (gz_b (by decide)) (wl_at (i := 3) rfl)) rfl rfl (Nat.le_of_ble_eq_true rfl) ⟨Nat.le_of_ble_eq_true rfl, Nat.le_of_ble_eq_true rfl, (Nat.le_add_right _ _), (Nat.le_add_right _ _)⟩ dX2_freeFrom_10 ?_
  refine go_ext (wl_up (i := 3) rfl rfl) ?_
  refine go_aload_n (pc := 13) dX2_freeFrom_13 rfl rfl ?_
  refine go_iload_n (pc := 14) dX2_freeFrom_14 rfl rfl ?_
  refine go_put (pc := 15) fX2_41 rfl (gz_b (by decide)) (wl_at (i := 2) rfl) (Nat.le_of_ble_eq_true rfl) rfl rfl dX2_freeFrom_15 ?_
  refine go_ext (wl_up (i := 2) rfl rfl) ?_
  refine go_w (show _ = wl G.2.1 [ob 9 [.null, .null, .null, .null, .null, .int 0, .int 0, .null, .int 0, .null, .int 0], ob 6 [.ref (G.2.1 + 2), .ref (G.2.1 + 6), .ref (G.2.1 + 12), .ref (G.2.1 + 14), .ref (G.2.1 + 17), .ref (G.2.1 + 20), .ref (G.2.1 + 21)], ob 2 [.int 0, .int 0, .int 0, .int 0, .ref (G.2.1 + 3), .ref (G.2.1 + 4), .ref (G.2.1 + 5)], ai G 4000 (fun j => if 0 ≤ j ∧ j < 0 then 0 else (fun _ => 0) j), ai G 500 (fun _ => 0), ai G 500 (fun _ => 0), ob 3 [.int 0, .int 0, .int 0, .int 0, .ref (G.2.1 + 7), .ref (G.2.1 + 8), .ref (G.2.1 + 9), .ref (G.2.1 + 10), .ref (G.2.1 + 11)], ai G 500 (fun _ => 0), ai G 500 (fun _ => 0), ai G 500 (fun _ => 0), ai G 500 (fun _ => 0), ai G 500 (fun _ => 0), ob 8 [.int 0, .int 0, .int 0, .int 0, .int 0, .int 0, .ref (G.2.1 + 13)], ai G 300 (fun _ => 0), ob 4 [.int 0, .ref (G.2.1 + 15), .ref (G.2.1 + 16)], ai G 6527 (fun _ => 0), ai G 6527 (fun _ => 0), ob 5 [.int 0, .int 0, .int 0, .int 0, .ref (G.2.1 + 18), .ref (G.2.1 + 19)], ai G 200 (fun _ => 0), ai G 8 (fun _ => 0), ai G 24 (fun _ => 0), ai G 32 (fun _ => 0)] from rfl) ?_
  exact go_vret (pc := 18) rfl dX2_freeFrom_18
set_option maxRecDepth 100000 in
set_option maxHeartbeats 4000000 in
theorem cX2_empty_1 {l : Launch} {G : gG} : Ct l G mX2_empty 3 67 [.ref (G.2.1 + 2), .int 256] 22 21168 (wl G.2.1 [ob 9 [.null, .null, .null, .null, .null, .int 0, .int 0, .null, .int 0, .null, .int 0], ob 6 [.ref (G.2.1 + 2), .ref (G.2.1 + 6), .ref (G.2.1 + 12), .ref (G.2.1 + 14), .ref (G.2.1 + 17), .ref (G.2.1 + 20), .ref (G.2.1 + 21)], ob 2 [.int 0, .int 0, .int 0, .int 0, .ref (G.2.1 + 3), .ref (G.2.1 + 4), .ref (G.2.1 + 5)], ai G 4000 (fun _ => 0), ai G 500 (fun _ => 0), ai G 500 (fun _ => 0), ob 3 [.int 0, .int 0, .int 0, .int 0, .ref (G.2.1 + 7), .ref (G.2.1 + 8), .ref (G.2.1 + 9), .ref (G.2.1 + 10), .ref (G.2.1 + 11)], ai G 500 (fun _ => 0), ai G 500 (fun _ => 0), ai G 500 (fun _ => 0), ai G 500 (fun _ => 0), ai G 500 (fun _ => 0), ob 8 [.int 0, .int 0, .int 0, .int 0, .int 0, .int 0, .ref (G.2.1 + 13)], ai G 300 (fun _ => 0), ob 4 [.int 0, .ref (G.2.1 + 15), .ref (G.2.1 + 16)], ai G 6527 (fun _ => 0), ai G 6527 (fun _ => 0), ob 5 [.int 0, .int 0, .int 0, .int 0, .ref (G.2.1 + 18), .ref (G.2.1 + 19)], ai G 200 (fun _ => 0), ai G 8 (fun _ => 0), ai G 24 (fun _ => 0), ai G 32 (fun _ => 0)]) (none, 22, 21168, (wl G.2.1 [ob 9 [.null, .null, .null, .null, .null, .int 0, .int 0, .null, .int 0, .null, .int 0], ob 6 [.ref (G.2.1 + 2), .ref (G.2.1 + 6), .ref (G.2.1 + 12), .ref (G.2.1 + 14), .ref (G.2.1 + 17), .ref (G.2.1 + 20), .ref (G.2.1 + 21)], ob 2 [.int 256, .int 0, .int 0, .int 0, .ref (G.2.1 + 3), .ref (G.2.1 + 4), .ref (G.2.1 + 5)], ai G 4000 (fun j => if 0 ≤ j ∧ j < 0 then 0 else (fun _ => 0) j), ai G 500 (fun _ => (-1)), ai G 500 (fun _ => 0), ob 3 [.int 0, .int 0, .int 0, .int 0, .ref (G.2.1 + 7), .ref (G.2.1 + 8), .ref (G.2.1 + 9), .ref (G.2.1 + 10), .ref (G.2.1 + 11)], ai G 500 (fun _ => 0), ai G 500 (fun _ => 0), ai G 500 (fun _ => 0), ai G 500 (fun _ => 0), ai G 500 (fun _ => 0), ob 8 [.int 0, .int 0, .int 0, .int 0, .int 0, .int 0, .ref (G.2.1 + 13)], ai G 300 (fun _ => 0), ob 4 [.int 0, .ref (G.2.1 + 15), .ref (G.2.1 + 16)], ai G 6527 (fun _ => 0), ai G 6527 (fun _ => 0), ob 5 [.int 0, .int 0, .int 0, .int 0, .ref (G.2.1 + 18), .ref (G.2.1 + 19)], ai G 200 (fun _ => 0), ai G 8 (fun _ => 0), ai G 24 (fun _ => 0), ai G 32 (fun _ => 0)])) := by
  refine Ct.of (by decide) (Nat.le_of_ble_eq_true rfl) ⟨Nat.le_refl _, Nat.le_refl _⟩ ?_
  show Go l G mX2_empty _ 0 [(0, .ref (G.2.1 + 2)), (1, .int 256)] [] 22 21168 (wl G.2.1 [ob 9 [.null, .null, .null, .null, .null, .int 0, .int 0, .null, .int 0, .null, .int 0], ob 6 [.ref (G.2.1 + 2), .ref (G.2.1 + 6), .ref (G.2.1 + 12), .ref (G.2.1 + 14), .ref (G.2.1 + 17), .ref (G.2.1 + 20), .ref (G.2.1 + 21)], ob 2 [.int 0, .int 0, .int 0, .int 0, .ref (G.2.1 + 3), .ref (G.2.1 + 4), .ref (G.2.1 + 5)], ai G 4000 (fun _ => 0), ai G 500 (fun _ => 0), ai G 500 (fun _ => 0), ob 3 [.int 0, .int 0, .int 0, .int 0, .ref (G.2.1 + 7), .ref (G.2.1 + 8), .ref (G.2.1 + 9), .ref (G.2.1 + 10), .ref (G.2.1 + 11)], ai G 500 (fun _ => 0), ai G 500 (fun _ => 0), ai G 500 (fun _ => 0), ai G 500 (fun _ => 0), ai G 500 (fun _ => 0), ob 8 [.int 0, .int 0, .int 0, .int 0, .int 0, .int 0, .ref (G.2.1 + 13)], ai G 300 (fun _ => 0), ob 4 [.int 0, .ref (G.2.1 + 15), .ref (G.2.1 + 16)], ai G 6527 (fun _ => 0), ai G 6527 (fun _ => 0), ob 5 [.int 0, .int 0, .int 0, .int 0, .ref (G.2.1 + 18), .ref (G.2.1 + 19)], ai G 200 (fun _ => 0), ai G 8 (fun _ => 0), ai G 24 (fun _ => 0), ai G 32 (fun _ => 0)])
  refine go_aload_n (pc := 0) dX2_empty_0 rfl rfl ?_
  refine go_iconst (pc := 1) (v := 0) dX2_empty_1 (by decide) ?_
  refine go_callV_v (pc := 2) vX2_21 rfl (cX2_freeFrom_1) rfl rfl (gz_b (by decide)) (wl_at (i := 2) rfl) rfl (Nat.le_of_ble_eq_true rfl) ⟨Nat.le_of_ble_eq_true rfl, Nat.le_of_ble_eq_true rfl, (Nat.le_add_right _ _), (Nat.le_add_right _ _)⟩ dX2_empty_2 ?_
  refine go_aload_n (pc := 5) dX2_empty_5 rfl rfl ?_
  refine go_iload_n (pc := 6) dX2_empty_6 rfl rfl ?_
  refine go_put (pc := 7) fX2_25 rfl (gz_b (by decide)) (wl_at (i := 2) rfl) (Nat.le_of_ble_eq_true rfl) rfl rfl dX2_empty_7 ?_
  refine go_ext (wl_up (i := 2) rfl rfl) ?_
  refine go_aload_n (pc := 10) dX2_empty_10 rfl rfl ?_
  refine go_iconst (pc := 11) (v := 0) dX2_empty_11 (by decide) ?_
  refine go_put (pc := 12) fX2_29 rfl (gz_b (by decide)) (wl_at (i := 2) rfl) (Nat.le_of_ble_eq_true rfl) rfl rfl dX2_empty_12 ?_
  refine go_ext (wl_up (i := 2) rfl rfl) ?_
  refine go_aload_n (pc := 15) dX2_empty_15 rfl rfl ?_
  refine go_iconst (pc := 16) (v := 0) dX2_empty_16 (by decide) ?_
  refine go_put (pc := 17) fX2_32 rfl (gz_b (by decide)) (wl_at (i := 2) rfl) (Nat.le_of_ble_eq_true rfl) rfl rfl dX2_empty_17 ?_
  refine go_ext (wl_up (i := 2) rfl rfl) ?_
  refine go_aload_n (pc := 20) dX2_empty_20 rfl rfl ?_
  refine go_get (pc := 21) fX2_15 rfl (gz_b (by decide)) (wl_at (i := 2) rfl) rfl dX2_empty_21 ?_
  refine go_iconst (pc := 24) (v := (-1)) dX2_empty_24 (by decide) ?_
  refine go_callS_v (pc := 25) sX2_35 rfl (ct_fill (a := G.2.1 + 4) (N := 500) (f := (fun _ => 0)) ((-1)) (by decide) (gz_b (by decide)) (wl_at (i := 4) rfl)) rfl rfl (Nat.le_of_ble_eq_true rfl) ⟨Nat.le_of_ble_eq_true rfl, Nat.le_of_ble_eq_true rfl, (Nat.le_add_right _ _), (Nat.le_add_right _ _)⟩ dX2_empty_25 ?_
  refine go_ext (wl_up (i := 4) rfl rfl) ?_
  refine go_aload_n (pc := 28) dX2_empty_28 rfl rfl ?_
  refine go_get (pc := 29) fX2_18 rfl (gz_b (by decide)) (wl_at (i := 2) rfl) rfl dX2_empty_29 ?_
  refine go_iconst (pc := 32) (v := 0) dX2_empty_32 (by decide) ?_
  refine go_callS_v (pc := 33) sX2_35 rfl (ct_fill (a := G.2.1 + 5) (N := 500) (f := (fun _ => 0)) 0 (by decide) (gz_b (by decide)) (wl_at (i := 5) rfl)) rfl rfl (Nat.le_of_ble_eq_true rfl) ⟨Nat.le_of_ble_eq_true rfl, Nat.le_of_ble_eq_true rfl, (Nat.le_add_right _ _), (Nat.le_add_right _ _)⟩ dX2_empty_33 ?_
  refine go_ext (wl_up (i := 5) rfl rfl) ?_
  refine go_w (show _ = wl G.2.1 [ob 9 [.null, .null, .null, .null, .null, .int 0, .int 0, .null, .int 0, .null, .int 0], ob 6 [.ref (G.2.1 + 2), .ref (G.2.1 + 6), .ref (G.2.1 + 12), .ref (G.2.1 + 14), .ref (G.2.1 + 17), .ref (G.2.1 + 20), .ref (G.2.1 + 21)], ob 2 [.int 256, .int 0, .int 0, .int 0, .ref (G.2.1 + 3), .ref (G.2.1 + 4), .ref (G.2.1 + 5)], ai G 4000 (fun j => if 0 ≤ j ∧ j < 0 then 0 else (fun _ => 0) j), ai G 500 (fun _ => (-1)), ai G 500 (fun _ => 0), ob 3 [.int 0, .int 0, .int 0, .int 0, .ref (G.2.1 + 7), .ref (G.2.1 + 8), .ref (G.2.1 + 9), .ref (G.2.1 + 10), .ref (G.2.1 + 11)], ai G 500 (fun _ => 0), ai G 500 (fun _ => 0), ai G 500 (fun _ => 0), ai G 500 (fun _ => 0), ai G 500 (fun _ => 0), ob 8 [.int 0, .int 0, .int 0, .int 0, .int 0, .int 0, .ref (G.2.1 + 13)], ai G 300 (fun _ => 0), ob 4 [.int 0, .ref (G.2.1 + 15), .ref (G.2.1 + 16)], ai G 6527 (fun _ => 0), ai G 6527 (fun _ => 0), ob 5 [.int 0, .int 0, .int 0, .int 0, .ref (G.2.1 + 18), .ref (G.2.1 + 19)], ai G 200 (fun _ => 0), ai G 8 (fun _ => 0), ai G 24 (fun _ => 0), ai G 32 (fun _ => 0)] from rfl) ?_
  exact go_vret (pc := 36) rfl dX2_empty_36
set_option maxRecDepth 100000 in
set_option maxHeartbeats 4000000 in
theorem cX3_wipe_1 {l : Launch} {G : gG} : Ct l G mX3_wipe 1 23 [.ref (G.2.1 + 6)] 22 21168 (wl G.2.1 [ob 9 [.null, .null, .null, .null, .null, .int 0, .int 0, .null, .int 0, .null, .int 0], ob 6 [.ref (G.2.1 + 2), .ref (G.2.1 + 6), .ref (G.2.1 + 12), .ref (G.2.1 + 14), .ref (G.2.1 + 17), .ref (G.2.1 + 20), .ref (G.2.1 + 21)], ob 2 [.int 256, .int 0, .int 0, .int 0, .ref (G.2.1 + 3), .ref (G.2.1 + 4), .ref (G.2.1 + 5)], ai G 4000 (fun j => if 0 ≤ j ∧ j < 0 then 0 else (fun _ => 0) j), ai G 500 (fun _ => (-1)), ai G 500 (fun _ => 0), ob 3 [.int 0, .int 0, .int 0, .int 0, .ref (G.2.1 + 7), .ref (G.2.1 + 8), .ref (G.2.1 + 9), .ref (G.2.1 + 10), .ref (G.2.1 + 11)], ai G 500 (fun _ => 0), ai G 500 (fun _ => 0), ai G 500 (fun _ => 0), ai G 500 (fun _ => 0), ai G 500 (fun _ => 0), ob 8 [.int 0, .int 0, .int 0, .int 0, .int 0, .int 0, .ref (G.2.1 + 13)], ai G 300 (fun _ => 0), ob 4 [.int 0, .ref (G.2.1 + 15), .ref (G.2.1 + 16)], ai G 6527 (fun _ => 0), ai G 6527 (fun _ => 0), ob 5 [.int 0, .int 0, .int 0, .int 0, .ref (G.2.1 + 18), .ref (G.2.1 + 19)], ai G 200 (fun _ => 0), ai G 8 (fun _ => 0), ai G 24 (fun _ => 0), ai G 32 (fun _ => 0)]) (none, 22, 21168, (wl G.2.1 [ob 9 [.null, .null, .null, .null, .null, .int 0, .int 0, .null, .int 0, .null, .int 0], ob 6 [.ref (G.2.1 + 2), .ref (G.2.1 + 6), .ref (G.2.1 + 12), .ref (G.2.1 + 14), .ref (G.2.1 + 17), .ref (G.2.1 + 20), .ref (G.2.1 + 21)], ob 2 [.int 256, .int 0, .int 0, .int 0, .ref (G.2.1 + 3), .ref (G.2.1 + 4), .ref (G.2.1 + 5)], ai G 4000 (fun j => if 0 ≤ j ∧ j < 0 then 0 else (fun _ => 0) j), ai G 500 (fun _ => (-1)), ai G 500 (fun _ => 0), ob 3 [.int 0, .int 0, .int 0, .int 0, .ref (G.2.1 + 7), .ref (G.2.1 + 8), .ref (G.2.1 + 9), .ref (G.2.1 + 10), .ref (G.2.1 + 11)], ai G 500 (fun _ => 0), ai G 500 (fun _ => 0), ai G 500 (fun _ => 0), ai G 500 (fun _ => 0), ai G 500 (fun _ => 0), ob 8 [.int 0, .int 0, .int 0, .int 0, .int 0, .int 0, .ref (G.2.1 + 13)], ai G 300 (fun _ => 0), ob 4 [.int 0, .ref (G.2.1 + 15), .ref (G.2.1 + 16)], ai G 6527 (fun _ => 0), ai G 6527 (fun _ => 0), ob 5 [.int 0, .int 0, .int 0, .int 0, .ref (G.2.1 + 18), .ref (G.2.1 + 19)], ai G 200 (fun _ => 0), ai G 8 (fun _ => 0), ai G 24 (fun _ => 0), ai G 32 (fun _ => 0)])) := by
  refine Ct.of (by decide) (Nat.le_of_ble_eq_true rfl) ⟨Nat.le_refl _, Nat.le_refl _⟩ ?_
  show Go l G mX3_wipe _ 0 [(0, .ref (G.2.1 + 6))] [] 22 21168 (wl G.2.1 [ob 9 [.null, .null, .null, .null, .null, .int 0, .int 0, .null, .int 0, .null, .int 0], ob 6 [.ref (G.2.1 + 2), .ref (G.2.1 + 6), .ref (G.2.1 + 12), .ref (G.2.1 + 14), .ref (G.2.1 + 17), .ref (G.2.1 + 20), .ref (G.2.1 + 21)], ob 2 [.int 256, .int 0, .int 0, .int 0, .ref (G.2.1 + 3), .ref (G.2.1 + 4), .ref (G.2.1 + 5)], ai G 4000 (fun j => if 0 ≤ j ∧ j < 0 then 0 else (fun _ => 0) j), ai G 500 (fun _ => (-1)), ai G 500 (fun _ => 0), ob 3 [.int 0, .int 0, .int 0, .int 0, .ref (G.2.1 + 7), .ref (G.2.1 + 8), .ref (G.2.1 + 9), .ref (G.2.1 + 10), .ref (G.2.1 + 11)], ai G 500 (fun _ => 0), ai G 500 (fun _ => 0), ai G 500 (fun _ => 0), ai G 500 (fun _ => 0), ai G 500 (fun _ => 0), ob 8 [.int 0, .int 0, .int 0, .int 0, .int 0, .int 0, .ref (G.2.1 + 13)], ai G 300 (fun _ => 0), ob 4 [.int 0, .ref (G.2.1 + 15), .ref (G.2.1 + 16)], ai G 6527 (fun _ => 0), ai G 6527 (fun _ => 0), ob 5 [.int 0, .int 0, .int 0, .int 0, .ref (G.2.1 + 18), .ref (G.2.1 + 19)], ai G 200 (fun _ => 0), ai G 8 (fun _ => 0), ai G 24 (fun _ => 0), ai G 32 (fun _ => 0)])
  refine go_aload_n (pc := 0) dX3_wipe_0 rfl rfl ?_
  refine go_iconst (pc := 1) (v := 0) dX3_wipe_1 (by decide) ?_
  refine go_put (pc := 2) fX3_27 rfl (gz_b (by decide)) (wl_at (i := 6) rfl) (Nat.le_of_ble_eq_true rfl) rfl rfl dX3_wipe_2 ?_
  refine go_ext (wl_up (i := 6) rfl rfl) ?_
  refine go_aload_n (pc := 5) dX3_wipe_5 rfl rfl ?_
  refine go_iconst (pc := 6) (v := 0) dX3_wipe_6 (by decide) ?_
  refine go_put (pc := 7) fX3_31 rfl (gz_b (by decide)) (wl_at (i := 6) rfl) (Nat.le_of_ble_eq_true rfl) rfl rfl dX3_wipe_7 ?_
  refine go_ext (wl_up (i := 6) rfl rfl) ?_
  refine go_aload_n (pc := 10) dX3_wipe_10 rfl rfl ?_
  refine go_iconst (pc := 11) (v := 0) dX3_wipe_11 (by decide) ?_
  refine go_put (pc := 12) fX3_35 rfl (gz_b (by decide)) (wl_at (i := 6) rfl) (Nat.le_of_ble_eq_true rfl) rfl rfl dX3_wipe_12 ?_
  refine go_ext (wl_up (i := 6) rfl rfl) ?_
  refine go_aload_n (pc := 15) dX3_wipe_15 rfl rfl ?_
  refine go_iconst (pc := 16) (v := 0) dX3_wipe_16 (by decide) ?_
  refine go_put (pc := 17) fX3_38 rfl (gz_b (by decide)) (wl_at (i := 6) rfl) (Nat.le_of_ble_eq_true rfl) rfl rfl dX3_wipe_17 ?_
  refine go_ext (wl_up (i := 6) rfl rfl) ?_
  refine go_aload_n (pc := 20) dX3_wipe_20 rfl rfl ?_
  refine go_get (pc := 21) fX3_15 rfl (gz_b (by decide)) (wl_at (i := 6) rfl) rfl dX3_wipe_21 ?_
  refine go_iconst (pc := 24) (v := 0) dX3_wipe_24 (by decide) ?_
  refine go_callS_v (pc := 25) sX3_41 rfl (ct_fill (a := G.2.1 + 8) (N := 500) (f := (fun _ => 0)) 0 (by decide) (gz_b (by decide)) (wl_at (i := 8) rfl)) rfl rfl (Nat.le_of_ble_eq_true rfl) ⟨Nat.le_of_ble_eq_true rfl, Nat.le_of_ble_eq_true rfl, (Nat.le_add_right _ _), (Nat.le_add_right _ _)⟩ dX3_wipe_25 ?_
  refine go_ext (wl_up (i := 8) rfl rfl) ?_
  refine go_w (show _ = wl G.2.1 [ob 9 [.null, .null, .null, .null, .null, .int 0, .int 0, .null, .int 0, .null, .int 0], ob 6 [.ref (G.2.1 + 2), .ref (G.2.1 + 6), .ref (G.2.1 + 12), .ref (G.2.1 + 14), .ref (G.2.1 + 17), .ref (G.2.1 + 20), .ref (G.2.1 + 21)], ob 2 [.int 256, .int 0, .int 0, .int 0, .ref (G.2.1 + 3), .ref (G.2.1 + 4), .ref (G.2.1 + 5)], ai G 4000 (fun j => if 0 ≤ j ∧ j < 0 then 0 else (fun _ => 0) j), ai G 500 (fun _ => (-1)), ai G 500 (fun _ => 0), ob 3 [.int 0, .int 0, .int 0, .int 0, .ref (G.2.1 + 7), .ref (G.2.1 + 8), .ref (G.2.1 + 9), .ref (G.2.1 + 10), .ref (G.2.1 + 11)], ai G 500 (fun _ => 0), ai G 500 (fun _ => 0), ai G 500 (fun _ => 0), ai G 500 (fun _ => 0), ai G 500 (fun _ => 0), ob 8 [.int 0, .int 0, .int 0, .int 0, .int 0, .int 0, .ref (G.2.1 + 13)], ai G 300 (fun _ => 0), ob 4 [.int 0, .ref (G.2.1 + 15), .ref (G.2.1 + 16)], ai G 6527 (fun _ => 0), ai G 6527 (fun _ => 0), ob 5 [.int 0, .int 0, .int 0, .int 0, .ref (G.2.1 + 18), .ref (G.2.1 + 19)], ai G 200 (fun _ => 0), ai G 8 (fun _ => 0), ai G 24 (fun _ => 0), ai G 32 (fun _ => 0)] from rfl) ?_
  exact go_vret (pc := 28) rfl dX3_wipe_28
set_option maxRecDepth 100000 in
set_option maxHeartbeats 4000000 in
theorem cX8_empty_1 {l : Launch} {G : gG} : Ct l G mX8_empty 0 0 [.ref (G.2.1 + 12)] 22 21168 (wl G.2.1 [ob 9 [.null, .null, .null, .null, .null, .int 0, .int 0, .null, .int 0, .null, .int 0], ob 6 [.ref (G.2.1 + 2), .ref (G.2.1 + 6), .ref (G.2.1 + 12), .ref (G.2.1 + 14), .ref (G.2.1 + 17), .ref (G.2.1 + 20), .ref (G.2.1 + 21)], ob 2 [.int 256, .int 0, .int 0, .int 0, .ref (G.2.1 + 3), .ref (G.2.1 + 4), .ref (G.2.1 + 5)], ai G 4000 (fun j => if 0 ≤ j ∧ j < 0 then 0 else (fun _ => 0) j), ai G 500 (fun _ => (-1)), ai G 500 (fun _ => 0), ob 3 [.int 0, .int 0, .int 0, .int 0, .ref (G.2.1 + 7), .ref (G.2.1 + 8), .ref (G.2.1 + 9), .ref (G.2.1 + 10), .ref (G.2.1 + 11)], ai G 500 (fun _ => 0), ai G 500 (fun _ => 0), ai G 500 (fun _ => 0), ai G 500 (fun _ => 0), ai G 500 (fun _ => 0), ob 8 [.int 0, .int 0, .int 0, .int 0, .int 0, .int 0, .ref (G.2.1 + 13)], ai G 300 (fun _ => 0), ob 4 [.int 0, .ref (G.2.1 + 15), .ref (G.2.1 + 16)], ai G 6527 (fun _ => 0), ai G 6527 (fun _ => 0), ob 5 [.int 0, .int 0, .int 0, .int 0, .ref (G.2.1 + 18), .ref (G.2.1 + 19)], ai G 200 (fun _ => 0), ai G 8 (fun _ => 0), ai G 24 (fun _ => 0), ai G 32 (fun _ => 0)]) (none, 22, 21168, (wl G.2.1 [ob 9 [.null, .null, .null, .null, .null, .int 0, .int 0, .null, .int 0, .null, .int 0], ob 6 [.ref (G.2.1 + 2), .ref (G.2.1 + 6), .ref (G.2.1 + 12), .ref (G.2.1 + 14), .ref (G.2.1 + 17), .ref (G.2.1 + 20), .ref (G.2.1 + 21)], ob 2 [.int 256, .int 0, .int 0, .int 0, .ref (G.2.1 + 3), .ref (G.2.1 + 4), .ref (G.2.1 + 5)], ai G 4000 (fun j => if 0 ≤ j ∧ j < 0 then 0 else (fun _ => 0) j), ai G 500 (fun _ => (-1)), ai G 500 (fun _ => 0), ob 3 [.int 0, .int 0, .int 0, .int 0, .ref (G.2.1 + 7), .ref (G.2.1 + 8), .ref (G.2.1 + 9), .ref (G.2.1 + 10), .ref (G.2.1 + 11)], ai G 500 (fun _ => 0), ai G 500 (fun _ => 0), ai G 500 (fun _ => 0), ai G 500 (fun _ => 0), ai G 500 (fun _ => 0), ob 8 [.int 0, .int 0, .int 0, .int 0, .int 0, .int 0, .ref (G.2.1 + 13)], ai G 300 (fun _ => 0), ob 4 [.int 0, .ref (G.2.1 + 15), .ref (G.2.1 + 16)], ai G 6527 (fun _ => 0), ai G 6527 (fun _ => 0), ob 5 [.int 0, .int 0, .int 0, .int 0, .ref (G.2.1 + 18), .ref (G.2.1 + 19)], ai G 200 (fun _ => 0), ai G 8 (fun _ => 0), ai G 24 (fun _ => 0), ai G 32 (fun _ => 0)])) := by
  refine Ct.of (by decide) (Nat.le_of_ble_eq_true rfl) ⟨Nat.le_refl _, Nat.le_refl _⟩ ?_
  show Go l G mX8_empty _ 0 [(0, .ref (G.2.1 + 12))] [] 22 21168 (wl G.2.1 [ob 9 [.null, .null, .null, .null, .null, .int 0, .int 0, .null, .int 0, .null, .int 0], ob 6 [.ref (G.2.1 + 2), .ref (G.2.1 + 6), .ref (G.2.1 + 12), .ref (G.2.1 + 14), .ref (G.2.1 + 17), .ref (G.2.1 + 20), .ref (G.2.1 + 21)], ob 2 [.int 256, .int 0, .int 0, .int 0, .ref (G.2.1 + 3), .ref (G.2.1 + 4), .ref (G.2.1 + 5)], ai G 4000 (fun j => if 0 ≤ j ∧ j < 0 then 0 else (fun _ => 0) j), ai G 500 (fun _ => (-1)), ai G 500 (fun _ => 0), ob 3 [.int 0, .int 0, .int 0, .int 0, .ref (G.2.1 + 7), .ref (G.2.1 + 8), .ref (G.2.1 + 9), .ref (G.2.1 + 10), .ref (G.2.1 + 11)], ai G 500 (fun _ => 0), ai G 500 (fun _ => 0), ai G 500 (fun _ => 0), ai G 500 (fun _ => 0), ai G 500 (fun _ => 0), ob 8 [.int 0, .int 0, .int 0, .int 0, .int 0, .int 0, .ref (G.2.1 + 13)], ai G 300 (fun _ => 0), ob 4 [.int 0, .ref (G.2.1 + 15), .ref (G.2.1 + 16)], ai G 6527 (fun _ => 0), ai G 6527 (fun _ => 0), ob 5 [.int 0, .int 0, .int 0, .int 0, .ref (G.2.1 + 18), .ref (G.2.1 + 19)], ai G 200 (fun _ => 0), ai G 8 (fun _ => 0), ai G 24 (fun _ => 0), ai G 32 (fun _ => 0)])
  refine go_aload_n (pc := 0) dX8_empty_0 rfl rfl ?_
  refine go_iconst (pc := 1) (v := 0) dX8_empty_1 (by decide) ?_
  refine go_put (pc := 2) fX8_15 rfl (gz_b (by decide)) (wl_at (i := 12) rfl) (Nat.le_of_ble_eq_true rfl) rfl rfl dX8_empty_2 ?_
  refine go_ext (wl_up (i := 12) rfl rfl) ?_
  refine go_aload_n (pc := 5) dX8_empty_5 rfl rfl ?_
  refine go_iconst (pc := 6) (v := 0) dX8_empty_6 (by decide) ?_
  refine go_put (pc := 7) fX8_19 rfl (gz_b (by decide)) (wl_at (i := 12) rfl) (Nat.le_of_ble_eq_true rfl) rfl rfl dX8_empty_7 ?_
  refine go_ext (wl_up (i := 12) rfl rfl) ?_
  refine go_aload_n (pc := 10) dX8_empty_10 rfl rfl ?_
  refine go_iconst (pc := 11) (v := 0) dX8_empty_11 (by decide) ?_
  refine go_put (pc := 12) fX8_22 rfl (gz_b (by decide)) (wl_at (i := 12) rfl) (Nat.le_of_ble_eq_true rfl) rfl rfl dX8_empty_12 ?_
  refine go_ext (wl_up (i := 12) rfl rfl) ?_
  refine go_aload_n (pc := 15) dX8_empty_15 rfl rfl ?_
  refine go_iconst (pc := 16) (v := 0) dX8_empty_16 (by decide) ?_
  refine go_put (pc := 17) fX8_25 rfl (gz_b (by decide)) (wl_at (i := 12) rfl) (Nat.le_of_ble_eq_true rfl) rfl rfl dX8_empty_17 ?_
  refine go_ext (wl_up (i := 12) rfl rfl) ?_
  refine go_aload_n (pc := 20) dX8_empty_20 rfl rfl ?_
  refine go_iconst (pc := 21) (v := 0) dX8_empty_21 (by decide) ?_
  refine go_put (pc := 22) fX8_28 rfl (gz_b (by decide)) (wl_at (i := 12) rfl) (Nat.le_of_ble_eq_true rfl) rfl rfl dX8_empty_22 ?_
  refine go_ext (wl_up (i := 12) rfl rfl) ?_
  refine go_aload_n (pc := 25) dX8_empty_25 rfl rfl ?_
  refine go_iconst (pc := 26) (v := 0) dX8_empty_26 (by decide) ?_
  refine go_put (pc := 27) fX8_31 rfl (gz_b (by decide)) (wl_at (i := 12) rfl) (Nat.le_of_ble_eq_true rfl) rfl rfl dX8_empty_27 ?_
  refine go_ext (wl_up (i := 12) rfl rfl) ?_
  refine go_w (show _ = wl G.2.1 [ob 9 [.null, .null, .null, .null, .null, .int 0, .int 0, .null, .int 0, .null, .int 0], ob 6 [.ref (G.2.1 + 2), .ref (G.2.1 + 6), .ref (G.2.1 + 12), .ref (G.2.1 + 14), .ref (G.2.1 + 17), .ref (G.2.1 + 20), .ref (G.2.1 + 21)], ob 2 [.int 256, .int 0, .int 0, .int 0, .ref (G.2.1 + 3), .ref (G.2.1 + 4), .ref (G.2.1 + 5)], ai G 4000 (fun j => if 0 ≤ j ∧ j < 0 then 0 else (fun _ => 0) j), ai G 500 (fun _ => (-1)), ai G 500 (fun _ => 0), ob 3 [.int 0, .int 0, .int 0, .int 0, .ref (G.2.1 + 7), .ref (G.2.1 + 8), .ref (G.2.1 + 9), .ref (G.2.1 + 10), .ref (G.2.1 + 11)], ai G 500 (fun _ => 0), ai G 500 (fun _ => 0), ai G 500 (fun _ => 0), ai G 500 (fun _ => 0), ai G 500 (fun _ => 0), ob 8 [.int 0, .int 0, .int 0, .int 0, .int 0, .int 0, .ref (G.2.1 + 13)], ai G 300 (fun _ => 0), ob 4 [.int 0, .ref (G.2.1 + 15), .ref (G.2.1 + 16)], ai G 6527 (fun _ => 0), ai G 6527 (fun _ => 0), ob 5 [.int 0, .int 0, .int 0, .int 0, .ref (G.2.1 + 18), .ref (G.2.1 + 19)], ai G 200 (fun _ => 0), ai G 8 (fun _ => 0), ai G 24 (fun _ => 0), ai G 32 (fun _ => 0)] from rfl) ?_
  exact go_vret (pc := 30) rfl dX8_empty_30
set_option maxRecDepth 100000 in
set_option maxHeartbeats 4000000 in
theorem cX5_empty_1 {l : Launch} {G : gG} : Ct l G mX5_empty 1 23 [.ref (G.2.1 + 17)] 22 21168 (wl G.2.1 [ob 9 [.null, .null, .null, .null, .null, .int 0, .int 0, .null, .int 0, .null, .int 0], ob 6 [.ref (G.2.1 + 2), .ref (G.2.1 + 6), .ref (G.2.1 + 12), .ref (G.2.1 + 14), .ref (G.2.1 + 17), .ref (G.2.1 + 20), .ref (G.2.1 + 21)], ob 2 [.int 256, .int 0, .int 0, .int 0, .ref (G.2.1 + 3), .ref (G.2.1 + 4), .ref (G.2.1 + 5)], ai G 4000 (fun j => if 0 ≤ j ∧ j < 0 then 0 else (fun _ => 0) j), ai G 500 (fun _ => (-1)), ai G 500 (fun _ => 0), ob 3 [.int 0, .int 0, .int 0, .int 0, .ref (G.2.1 + 7), .ref (G.2.1 + 8), .ref (G.2.1 + 9), .ref (G.2.1 + 10), .ref (G.2.1 + 11)], ai G 500 (fun _ => 0), ai G 500 (fun _ => 0), ai G 500 (fun _ => 0), ai G 500 (fun _ => 0), ai G 500 (fun _ => 0), ob 8 [.int 0, .int 0, .int 0, .int 0, .int 0, .int 0, .ref (G.2.1 + 13)], ai G 300 (fun _ => 0), ob 4 [.int 0, .ref (G.2.1 + 15), .ref (G.2.1 + 16)], ai G 6527 (fun _ => 0), ai G 6527 (fun _ => 0), ob 5 [.int 0, .int 0, .int 0, .int 0, .ref (G.2.1 + 18), .ref (G.2.1 + 19)], ai G 200 (fun _ => 0), ai G 8 (fun _ => 0), ai G 24 (fun _ => 0), ai G 32 (fun _ => 0)]) (none, 22, 21168, (wl G.2.1 [ob 9 [.null, .null, .null, .null, .null, .int 0, .int 0, .null, .int 0, .null, .int 0], ob 6 [.ref (G.2.1 + 2), .ref (G.2.1 + 6), .ref (G.2.1 + 12), .ref (G.2.1 + 14), .ref (G.2.1 + 17), .ref (G.2.1 + 20), .ref (G.2.1 + 21)], ob 2 [.int 256, .int 0, .int 0, .int 0, .ref (G.2.1 + 3), .ref (G.2.1 + 4), .ref (G.2.1 + 5)], ai G 4000 (fun j => if 0 ≤ j ∧ j < 0 then 0 else (fun _ => 0) j), ai G 500 (fun _ => (-1)), ai G 500 (fun _ => 0), ob 3 [.int 0, .int 0, .int 0, .int 0, .ref (G.2.1 + 7), .ref (G.2.1 + 8), .ref (G.2.1 + 9), .ref (G.2.1 + 10), .ref (G.2.1 + 11)], ai G 500 (fun _ => 0), ai G 500 (fun _ => 0), ai G 500 (fun _ => 0), ai G 500 (fun _ => 0), ai G 500 (fun _ => 0), ob 8 [.int 0, .int 0, .int 0, .int 0, .int 0, .int 0, .ref (G.2.1 + 13)], ai G 300 (fun _ => 0), ob 4 [.int 0, .ref (G.2.1 + 15), .ref (G.2.1 + 16)], ai G 6527 (fun _ => 0), ai G 6527 (fun _ => 0), ob 5 [.int 0, .int 0, .int 0, .int 0, .ref (G.2.1 + 18), .ref (G.2.1 + 19)], ai G 200 (fun _ => 0), ai G 8 (fun _ => (-1)), ai G 24 (fun _ => 0), ai G 32 (fun _ => 0)])) := by
  refine Ct.of (by decide) (Nat.le_of_ble_eq_true rfl) ⟨Nat.le_refl _, Nat.le_refl _⟩ ?_
  show Go l G mX5_empty _ 0 [(0, .ref (G.2.1 + 17))] [] 22 21168 (wl G.2.1 [ob 9 [.null, .null, .null, .null, .null, .int 0, .int 0, .null, .int 0, .null, .int 0], ob 6 [.ref (G.2.1 + 2), .ref (G.2.1 + 6), .ref (G.2.1 + 12), .ref (G.2.1 + 14), .ref (G.2.1 + 17), .ref (G.2.1 + 20), .ref (G.2.1 + 21)], ob 2 [.int 256, .int 0, .int 0, .int 0, .ref (G.2.1 + 3), .ref (G.2.1 + 4), .ref (G.2.1 + 5)], ai G 4000 (fun j => if 0 ≤ j ∧ j < 0 then 0 else (fun _ => 0) j), ai G 500 (fun _ => (-1)), ai G 500 (fun _ => 0), ob 3 [.int 0, .int 0, .int 0, .int 0, .ref (G.2.1 + 7), .ref (G.2.1 + 8), .ref (G.2.1 + 9), .ref (G.2.1 + 10), .ref (G.2.1 + 11)], ai G 500 (fun _ => 0), ai G 500 (fun _ => 0), ai G 500 (fun _ => 0), ai G 500 (fun _ => 0), ai G 500 (fun _ => 0), ob 8 [.int 0, .int 0, .int 0, .int 0, .int 0, .int 0, .ref (G.2.1 + 13)], ai G 300 (fun _ => 0), ob 4 [.int 0, .ref (G.2.1 + 15), .ref (G.2.1 + 16)], ai G 6527 (fun _ => 0), ai G 6527 (fun _ => 0), ob 5 [.int 0, .int 0, .int 0, .int 0, .ref (G.2.1 + 18), .ref (G.2.1 + 19)], ai G 200 (fun _ => 0), ai G 8 (fun _ => 0), ai G 24 (fun _ => 0), ai G 32 (fun _ => 0)])
  refine go_aload_n (pc := 0) dX5_empty_0 rfl rfl ?_
  refine go_iconst (pc := 1) (v := 0) dX5_empty_1 (by decide) ?_
  refine go_put (pc := 2) fX5_18 rfl (gz_b (by decide)) (wl_at (i := 17) rfl) (Nat.le_of_ble_eq_true rfl) rfl rfl dX5_empty_2 ?_
  refine go_ext (wl_up (i := 17) rfl rfl) ?_
  refine go_aload_n (pc := 5) dX5_empty_5 rfl rfl ?_
  refine go_iconst (pc := 6) (v := 0) dX5_empty_6 (by decide) ?_
  refine go_put (pc := 7) fX5_22 rfl (gz_b (by decide)) (wl_at (i := 17) rfl) (Nat.le_of_ble_eq_true rfl) rfl rfl dX5_empty_7 ?_
  refine go_ext (wl_up (i := 17) rfl rfl) ?_
  refine go_aload_n (pc := 10) dX5_empty_10 rfl rfl ?_
  refine go_iconst (pc := 11) (v := 0) dX5_empty_11 (by decide) ?_
  refine go_put (pc := 12) fX5_25 rfl (gz_b (by decide)) (wl_at (i := 17) rfl) (Nat.le_of_ble_eq_true rfl) rfl rfl dX5_empty_12 ?_
  refine go_ext (wl_up (i := 17) rfl rfl) ?_
  refine go_aload_n (pc := 15) dX5_empty_15 rfl rfl ?_
  refine go_iconst (pc := 16) (v := 0) dX5_empty_16 (by decide) ?_
  refine go_put (pc := 17) fX5_28 rfl (gz_b (by decide)) (wl_at (i := 17) rfl) (Nat.le_of_ble_eq_true rfl) rfl rfl dX5_empty_17 ?_
  refine go_ext (wl_up (i := 17) rfl rfl) ?_
  refine go_aload_n (pc := 20) dX5_empty_20 rfl rfl ?_
  refine go_get (pc := 21) fX5_15 rfl (gz_b (by decide)) (wl_at (i := 17) rfl) rfl dX5_empty_21 ?_
  refine go_iconst (pc := 24) (v := (-1)) dX5_empty_24 (by decide) ?_
  refine go_callS_v (pc := 25) sX5_31 rfl (ct_fill (a := G.2.1 + 19) (N := 8) (f := (fun _ => 0)) ((-1)) (by decide) (gz_b (by decide)) (wl_at (i := 19) rfl)) rfl rfl (Nat.le_of_ble_eq_true rfl) ⟨Nat.le_of_ble_eq_true rfl, Nat.le_of_ble_eq_true rfl, (Nat.le_add_right _ _), (Nat.le_add_right _ _)⟩ dX5_empty_25 ?_
  refine go_ext (wl_up (i := 19) rfl rfl) ?_
  refine go_w (show _ = wl G.2.1 [ob 9 [.null, .null, .null, .null, .null, .int 0, .int 0, .null, .int 0, .null, .int 0], ob 6 [.ref (G.2.1 + 2), .ref (G.2.1 + 6), .ref (G.2.1 + 12), .ref (G.2.1 + 14), .ref (G.2.1 + 17), .ref (G.2.1 + 20), .ref (G.2.1 + 21)], ob 2 [.int 256, .int 0, .int 0, .int 0, .ref (G.2.1 + 3), .ref (G.2.1 + 4), .ref (G.2.1 + 5)], ai G 4000 (fun j => if 0 ≤ j ∧ j < 0 then 0 else (fun _ => 0) j), ai G 500 (fun _ => (-1)), ai G 500 (fun _ => 0), ob 3 [.int 0, .int 0, .int 0, .int 0, .ref (G.2.1 + 7), .ref (G.2.1 + 8), .ref (G.2.1 + 9), .ref (G.2.1 + 10), .ref (G.2.1 + 11)], ai G 500 (fun _ => 0), ai G 500 (fun _ => 0), ai G 500 (fun _ => 0), ai G 500 (fun _ => 0), ai G 500 (fun _ => 0), ob 8 [.int 0, .int 0, .int 0, .int 0, .int 0, .int 0, .ref (G.2.1 + 13)], ai G 300 (fun _ => 0), ob 4 [.int 0, .ref (G.2.1 + 15), .ref (G.2.1 + 16)], ai G 6527 (fun _ => 0), ai G 6527 (fun _ => 0), ob 5 [.int 0, .int 0, .int 0, .int 0, .ref (G.2.1 + 18), .ref (G.2.1 + 19)], ai G 200 (fun _ => 0), ai G 8 (fun _ => (-1)), ai G 24 (fun _ => 0), ai G 32 (fun _ => 0)] from rfl) ?_
  exact go_vret (pc := 28) rfl dX5_empty_28
set_option maxRecDepth 100000 in
set_option maxHeartbeats 4000000 in
theorem cX6_startAnew_1 {l : Launch} {G : gG} : Ct l G mX6_startAnew 4 88 [.ref (G.2.1 + 1), .int 256] 22 21168 (wl G.2.1 [ob 9 [.null, .null, .null, .null, .null, .int 0, .int 0, .null, .int 0, .null, .int 0], ob 6 [.ref (G.2.1 + 2), .ref (G.2.1 + 6), .ref (G.2.1 + 12), .ref (G.2.1 + 14), .ref (G.2.1 + 17), .ref (G.2.1 + 20), .ref (G.2.1 + 21)], ob 2 [.int 0, .int 0, .int 0, .int 0, .ref (G.2.1 + 3), .ref (G.2.1 + 4), .ref (G.2.1 + 5)], ai G 4000 (fun _ => 0), ai G 500 (fun _ => 0), ai G 500 (fun _ => 0), ob 3 [.int 0, .int 0, .int 0, .int 0, .ref (G.2.1 + 7), .ref (G.2.1 + 8), .ref (G.2.1 + 9), .ref (G.2.1 + 10), .ref (G.2.1 + 11)], ai G 500 (fun _ => 0), ai G 500 (fun _ => 0), ai G 500 (fun _ => 0), ai G 500 (fun _ => 0), ai G 500 (fun _ => 0), ob 8 [.int 0, .int 0, .int 0, .int 0, .int 0, .int 0, .ref (G.2.1 + 13)], ai G 300 (fun _ => 0), ob 4 [.int 0, .ref (G.2.1 + 15), .ref (G.2.1 + 16)], ai G 6527 (fun _ => 0), ai G 6527 (fun _ => 0), ob 5 [.int 0, .int 0, .int 0, .int 0, .ref (G.2.1 + 18), .ref (G.2.1 + 19)], ai G 200 (fun _ => 0), ai G 8 (fun _ => 0), ai G 24 (fun _ => 0), ai G 32 (fun _ => 0)]) (none, 22, 21168, (wl G.2.1 [ob 9 [.null, .null, .null, .null, .null, .int 0, .int 0, .null, .int 0, .null, .int 0], ob 6 [.ref (G.2.1 + 2), .ref (G.2.1 + 6), .ref (G.2.1 + 12), .ref (G.2.1 + 14), .ref (G.2.1 + 17), .ref (G.2.1 + 20), .ref (G.2.1 + 21)], ob 2 [.int 256, .int 0, .int 0, .int 0, .ref (G.2.1 + 3), .ref (G.2.1 + 4), .ref (G.2.1 + 5)], ai G 4000 (fun j => if 0 ≤ j ∧ j < 0 then 0 else (fun _ => 0) j), ai G 500 (fun _ => (-1)), ai G 500 (fun _ => 0), ob 3 [.int 0, .int 0, .int 0, .int 0, .ref (G.2.1 + 7), .ref (G.2.1 + 8), .ref (G.2.1 + 9), .ref (G.2.1 + 10), .ref (G.2.1 + 11)], ai G 500 (fun _ => 0), ai G 500 (fun _ => 0), ai G 500 (fun _ => 0), ai G 500 (fun _ => 0), ai G 500 (fun _ => 0), ob 8 [.int 0, .int 0, .int 0, .int 0, .int 0, .int 0, .ref (G.2.1 + 13)], ai G 300 (fun _ => 0), ob 4 [.int 0, .ref (G.2.1 + 15), .ref (G.2.1 + 16)], ai G 6527 (fun _ => 0), ai G 6527 (fun _ => 0), ob 5 [.int 0, .int 0, .int 0, .int 0, .ref (G.2.1 + 18), .ref (G.2.1 + 19)], ai G 200 (fun _ => 0), ai G 8 (fun _ => (-1)), ai G 24 (fun _ => (-1)), ai G 32 (fun _ => (-1))])) := by
  refine Ct.of (by decide) (Nat.le_of_ble_eq_true rfl) ⟨Nat.le_refl _, Nat.le_refl _⟩ ?_
  show Go l G mX6_startAnew _ 0 [(0, .ref (G.2.1 + 1)), (1, .int 256)] [] 22 21168 (wl G.2.1 [ob 9 [.null, .null, .null, .null, .null, .int 0, .int 0, .null, .int 0, .null, .int 0], ob 6 [.ref (G.2.1 + 2), .ref (G.2.1 + 6), .ref (G.2.1 + 12), .ref (G.2.1 + 14), .ref (G.2.1 + 17), .ref (G.2.1 + 20), .ref (G.2.1 + 21)], ob 2 [.int 0, .int 0, .int 0, .int 0, .ref (G.2.1 + 3), .ref (G.2.1 + 4), .ref (G.2.1 + 5)], ai G 4000 (fun _ => 0), ai G 500 (fun _ => 0), ai G 500 (fun _ => 0), ob 3 [.int 0, .int 0, .int 0, .int 0, .ref (G.2.1 + 7), .ref (G.2.1 + 8), .ref (G.2.1 + 9), .ref (G.2.1 + 10), .ref (G.2.1 + 11)], ai G 500 (fun _ => 0), ai G 500 (fun _ => 0), ai G 500 (fun _ => 0), ai G 500 (fun _ => 0), ai G 500 (fun _ => 0), ob 8 [.int 0, .int 0, .int 0, .int 0, .int 0, .int 0, .ref (G.2.1 + 13)], ai G 300 (fun _ => 0), ob 4 [.int 0, .ref (G.2.1 + 15), .ref (G.2.1 + 16)], ai G 6527 (fun _ => 0), ai G 6527 (fun _ => 0), ob 5 [.int 0, .int 0, .int 0, .int 0, .ref (G.2.1 + 18), .ref (G.2.1 + 19)], ai G 200 (fun _ => 0), ai G 8 (fun _ => 0), ai G 24 (fun _ => 0), ai G 32 (fun _ => 0)])
  refine go_aload_n (pc := 0) dX6_startAnew_0 rfl rfl ?_
  refine go_get (pc := 1) fX6_12 rfl (gz_b (by decide)) (wl_at (i := 1) rfl) rfl dX6_startAnew_1 ?_
  refine go_iload_n (pc := 4) dX6_startAnew_4 rfl rfl ?_
  refine go_callV_v (pc := 5) vX6_57 rfl (cX2_empty_1) rfl rfl (gz_b (by decide)) (wl_at (i := 2) rfl) rfl (Nat.le_of_ble_eq_true rfl) ⟨Nat.le_of_ble_eq_true rfl, Nat.le_of_ble_eq_true rfl, (Nat.le_add_right _ _), (Nat.le_add_right _ _)⟩ dX6_startAnew_5 ?_
  refine go_aload_n (pc := 8) dX6_startAnew_8 rfl rfl ?_
  refine go_get (pc := 9) fX6_21 rfl (gz_b (by decide)) (wl_at (i := 1) rfl) rfl dX6_startAnew_9 ?_
  refine go_callV_v (pc := 12) vX6_60 rfl (cX3_wipe_1) rfl rfl (gz_b (by decide)) (wl_at (i := 6) rfl) rfl (Nat.le_of_ble_eq_true rfl) ⟨Nat.le_of_ble_eq_true rfl, Nat.le_of_ble_eq_true rfl, (Nat.le_add_right _ _), (Nat.le_add_right _ _)⟩ dX6_startAnew_12 ?_
  refine go_aload_n (pc := 15) dX6_startAnew_15 rfl rfl ?_
  refine go_get (pc := 16) fX6_28 rfl (gz_b (by decide)) (wl_at (i := 1) rfl) rfl dX6_startAnew_16 ?_
  refine go_callV_v (pc := 19) vX6_63 rfl (cX8_empty_1) rfl rfl (gz_b (by decide)) (wl_at (i := 12) rfl) rfl (Nat.le_of_ble_eq_true rfl) ⟨Nat.le_of_ble_eq_true rfl, Nat.le_of_ble_eq_true rfl, (Nat.le_add_right _ _), (Nat.le_add_right _ _)⟩ dX6_startAnew_19 ?_
  refine go_aload_n (pc := 22) dX6_startAnew_22 rfl rfl ?_
  refine go_get (pc := 23) fX6_35 rfl (gz_b (by decide)) (wl_at (i := 1) rfl) rfl dX6_startAnew_23 ?_
  refine go_iconst (pc := 26) (v := 0) dX6_startAnew_26 (by decide) ?_
  refine go_put (pc := 27) fX6_65 rfl (gz_b (by decide)) (wl_at (i := 14) rfl) (Nat.le_of_ble_eq_true rfl) rfl rfl dX6_startAnew_27 ?_
  refine go_ext (wl_up (i := 14) rfl rfl) ?_
  refine go_aload_n (pc := 30) dX6_startAnew_30 rfl rfl ?_
  refine go_get (pc := 31) fX6_42 rfl (gz_b (by decide)) (wl_at (i := 1) rfl) rfl dX6_startAnew_31 ?_
  refine go_callV_v (pc := 34) vX6_69 rfl (cX5_empty_1) rfl rfl (gz_b (by decide)) (wl_at (i := 17) rfl) rfl (Nat.le_of_ble_eq_true rfl) ⟨Nat.le_of_ble_eq_true rfl, Nat.le_of_ble_eq_true rfl, (Nat.le_add_right _ _), (Nat.le_add_right _ _)⟩ dX6_startAnew_34 ?_
  refine go_aload_n (pc := 37) dX6_startAnew_37 rfl rfl ?_
  refine go_get (pc := 38) fX6_46 rfl (gz_b (by decide)) (wl_at (i := 1) rfl) rfl dX6_startAnew_38 ?_
  refine go_iconst (pc := 41) (v := (-1)) dX6_startAnew_41 (by decide) ?_
  refine go_callS_v (pc := 42) sX6_70 rfl (ct_fill (a := G.2.1 + 20) (N := 24) (f := (fun _ => 0)) ((-1)) (by decide) (gz_b (by decide)) (wl_at (i := 20) rfl)) rfl rfl (Nat.le_of_ble_eq_true rfl) ⟨Nat.le_of_ble_eq_true rfl, Nat.le_of_ble_eq_true rfl, (Nat.le_add_right _ _), (Nat.le_add_right _ _)⟩ dX6_startAnew_42 ?_
  refine go_ext (wl_up (i := 20) rfl rfl) ?_
  refine go_aload_n (pc := 45) dX6_startAnew_45 rfl rfl ?_
  refine go_get (pc := 46) fX6_50 rfl (gz_b (by decide)) (wl_at (i := 1) rfl) rfl dX6_startAnew_46 ?_
  refine go_iconst (pc := 49) (v := (-1)) dX6_startAnew_49 (by decide) ?_
  refine go_callS_v (pc := 50) sX6_70 rfl (ct_fill (a := G.2.1 + 21) (N := 32) (f := (fun _ => 0)) ((-1)) (by decide) (gz_b (by decide)) (wl_at (i := 21) rfl)) rfl rfl (Nat.le_of_ble_eq_true rfl) ⟨Nat.le_of_ble_eq_true rfl, Nat.le_of_ble_eq_true rfl, (Nat.le_add_right _ _), (Nat.le_add_right _ _)⟩ dX6_startAnew_50 ?_
  refine go_ext (wl_up (i := 21) rfl rfl) ?_
  refine go_w (show _ = wl G.2.1 [ob 9 [.null, .null, .null, .null, .null, .int 0, .int 0, .null, .int 0, .null, .int 0], ob 6 [.ref (G.2.1 + 2), .ref (G.2.1 + 6), .ref (G.2.1 + 12), .ref (G.2.1 + 14), .ref (G.2.1 + 17), .ref (G.2.1 + 20), .ref (G.2.1 + 21)], ob 2 [.int 256, .int 0, .int 0, .int 0, .ref (G.2.1 + 3), .ref (G.2.1 + 4), .ref (G.2.1 + 5)], ai G 4000 (fun j => if 0 ≤ j ∧ j < 0 then 0 else (fun _ => 0) j), ai G 500 (fun _ => (-1)), ai G 500 (fun _ => 0), ob 3 [.int 0, .int 0, .int 0, .int 0, .ref (G.2.1 + 7), .ref (G.2.1 + 8), .ref (G.2.1 + 9), .ref (G.2.1 + 10), .ref (G.2.1 + 11)], ai G 500 (fun _ => 0), ai G 500 (fun _ => 0), ai G 500 (fun _ => 0), ai G 500 (fun _ => 0), ai G 500 (fun _ => 0), ob 8 [.int 0, .int 0, .int 0, .int 0, .int 0, .int 0, .ref (G.2.1 + 13)], ai G 300 (fun _ => 0), ob 4 [.int 0, .ref (G.2.1 + 15), .ref (G.2.1 + 16)], ai G 6527 (fun _ => 0), ai G 6527 (fun _ => 0), ob 5 [.int 0, .int 0, .int 0, .int 0, .ref (G.2.1 + 18), .ref (G.2.1 + 19)], ai G 200 (fun _ => 0), ai G 8 (fun _ => (-1)), ai G 24 (fun _ => (-1)), ai G 32 (fun _ => (-1))] from rfl) ?_
  exact go_vret (pc := 53) rfl dX6_startAnew_53
set_option maxRecDepth 100000 in
set_option maxHeartbeats 4000000 in
theorem cX6_init_1 {l : Launch} {G : gG} : Ct l G mX6_init 5 109 [.ref (G.2.1 + 1)] 2 18 (wl G.2.1 [ob 9 [.null, .null, .null, .null, .null, .int 0, .int 0, .null, .int 0, .null, .int 0], ob 6 [.null, .null, .null, .null, .null, .null, .null]]) (none, 22, 21168, (wl G.2.1 [ob 9 [.null, .null, .null, .null, .null, .int 0, .int 0, .null, .int 0, .null, .int 0], ob 6 [.ref (G.2.1 + 2), .ref (G.2.1 + 6), .ref (G.2.1 + 12), .ref (G.2.1 + 14), .ref (G.2.1 + 17), .ref (G.2.1 + 20), .ref (G.2.1 + 21)], ob 2 [.int 256, .int 0, .int 0, .int 0, .ref (G.2.1 + 3), .ref (G.2.1 + 4), .ref (G.2.1 + 5)], ai G 4000 (fun j => if 0 ≤ j ∧ j < 0 then 0 else (fun _ => 0) j), ai G 500 (fun _ => (-1)), ai G 500 (fun _ => 0), ob 3 [.int 0, .int 0, .int 0, .int 0, .ref (G.2.1 + 7), .ref (G.2.1 + 8), .ref (G.2.1 + 9), .ref (G.2.1 + 10), .ref (G.2.1 + 11)], ai G 500 (fun _ => 0), ai G 500 (fun _ => 0), ai G 500 (fun _ => 0), ai G 500 (fun _ => 0), ai G 500 (fun _ => 0), ob 8 [.int 0, .int 0, .int 0, .int 0, .int 0, .int 0, .ref (G.2.1 + 13)], ai G 300 (fun _ => 0), ob 4 [.int 0, .ref (G.2.1 + 15), .ref (G.2.1 + 16)], ai G 6527 (fun _ => 0), ai G 6527 (fun _ => 0), ob 5 [.int 0, .int 0, .int 0, .int 0, .ref (G.2.1 + 18), .ref (G.2.1 + 19)], ai G 200 (fun _ => 0), ai G 8 (fun _ => (-1)), ai G 24 (fun _ => (-1)), ai G 32 (fun _ => (-1))])) := by
  refine Ct.of (by decide) (Nat.le_of_ble_eq_true rfl) ⟨Nat.le_of_ble_eq_true rfl, Nat.le_of_ble_eq_true rfl⟩ ?_
  show Go l G mX6_init _ 0 [(0, .ref (G.2.1 + 1))] [] 2 18 (wl G.2.1 [ob 9 [.null, .null, .null, .null, .null, .int 0, .int 0, .null, .int 0, .null, .int 0], ob 6 [.null, .null, .null, .null, .null, .null, .null]])
  refine go_aload_n (pc := 0) dX6_init_0 rfl rfl ?_
  refine go_objInit (pc := 1) rfl oX6_3 g_oi g_oc (Nat.le_of_ble_eq_true rfl) (Nat.le_of_ble_eq_true rfl) dX6_init_1 ?_
  refine go_aload_n (pc := 4) dX6_init_4 rfl rfl ?_
  refine go_newE (pc := 5) (n1 := 3) (k1 := 25) nX6_9 rfl rfl rfl (gz_le rfl rfl) (gz_le rfl rfl) dX6_init_5 ?_
  refine go_ext (wl_push (n := 2) rfl) ?_
  refine go_dup (pc := 8) dX6_init_8 rfl ?_
  refine go_callIN_v (pc := 9) iX6_11 rfl (cX2_init_1) rfl rfl (Nat.le_of_ble_eq_true rfl) ⟨Nat.le_of_ble_eq_true rfl, Nat.le_of_ble_eq_true rfl, (gz_le rfl rfl), (gz_le rfl rfl)⟩ dX6_init_9 ?_
  refine go_putF (pc := 12) fX6_12 rfl rfl rfl (gz_b (by decide)) (wl_at (i := 1) rfl) (Nat.le_of_ble_eq_true rfl) rfl rfl dX6_init_12 ?_
  refine go_ext (wl_up (i := 1) rfl rfl) ?_
  refine go_aload_n (pc := 15) dX6_init_15 rfl rfl ?_
  refine go_newE (pc := 16) (n1 := 7) (k1 := 5034) nX6_18 rfl rfl rfl (gz_le rfl rfl) (gz_le rfl rfl) dX6_init_16 ?_
  refine go_ext (wl_push (n := 6) rfl) ?_
  refine go_dup (pc := 19) dX6_init_19 rfl ?_
  refine go_callIN_v (pc := 20) iX6_20 rfl (cX3_init_1) rfl rfl (Nat.le_of_ble_eq_true rfl) ⟨Nat.le_of_ble_eq_true rfl, Nat.le_of_ble_eq_true rfl, (gz_le rfl rfl), (gz_le rfl rfl)⟩ dX6_init_20 ?_
  refine go_putF (pc := 23) fX6_21 rfl rfl rfl (gz_b (by decide)) (wl_at (i := 1) rfl) (Nat.le_of_ble_eq_true rfl) rfl rfl dX6_init_23 ?_
  refine go_ext (wl_up (i := 1) rfl rfl) ?_
  refine go_aload_n (pc := 26) dX6_init_26 rfl rfl ?_
  refine go_newE (pc := 27) (n1 := 13) (k1 := 7541) nX6_25 rfl rfl rfl (gz_le rfl rfl) (gz_le rfl rfl) dX6_init_27 ?_
  refine go_ext (wl_push (n := 12) rfl) ?_
  refine go_dup (pc := 30) dX6_init_30 rfl ?_
  refine go_callIN_v (pc := 31) iX6_27 rfl (cX8_init_1) rfl rfl (Nat.le_of_ble_eq_true rfl) ⟨Nat.le_of_ble_eq_true rfl, Nat.le_of_ble_eq_true rfl, (gz_le rfl rfl), (gz_le rfl rfl)⟩ dX6_init_31 ?_
  refine go_putF (pc := 34) fX6_28 rfl rfl rfl (gz_b (by decide)) (wl_at (i := 1) rfl) (Nat.le_of_ble_eq_true rfl) rfl rfl dX6_init_34 ?_
  refine go_ext (wl_up (i := 1) rfl rfl) ?_
  refine go_aload_n (pc := 37) dX6_init_37 rfl rfl ?_
  refine go_newE (pc := 38) (n1 := 15) (k1 := 7844) nX6_32 rfl rfl rfl (gz_le rfl rfl) (gz_le rfl rfl) dX6_init_38 ?_
  refine go_ext (wl_push (n := 14) rfl) ?_
  refine go_dup (pc := 41) dX6_init_41 rfl ?_
  refine go_callIN_v (pc := 42) iX6_34 rfl (cX4_init_1) rfl rfl (Nat.le_of_ble_eq_true rfl) ⟨Nat.le_of_ble_eq_true rfl, Nat.le_of_ble_eq_true rfl, (gz_le rfl rfl), (gz_le rfl rfl)⟩ dX6_init_42 ?_
  refine go_putF (pc := 45) fX6_35 rfl rfl rfl (gz_b (by decide)) (wl_at (i := 1) rfl) (Nat.le_of_ble_eq_true rfl) rfl rfl dX6_init_45 ?_
  refine go_ext (wl_up (i := 1) rfl rfl) ?_
  refine go_aload_n (pc := 48) dX6_init_48 rfl rfl ?_
  refine go_newE (pc := 49) (n1 := 18) (k1 := 20904) nX6_39 rfl rfl rfl (gz_le rfl rfl) (gz_le rfl rfl) dX6_init_49 ?_
  refine go_ext (wl_push (n := 17) rfl) ?_
  refine go_dup (pc := 52) dX6_init_52 rfl ?_
  refine go_callIN_v (pc := 53) iX6_41 rfl (cX5_init_1) rfl rfl (Nat.le_of_ble_eq_true rfl) ⟨Nat.le_of_ble_eq_true rfl, Nat.le_of_ble_eq_true rfl, (gz_le rfl rfl), (gz_le rfl rfl)⟩ dX6_init_53 ?_
  refine go_putF (pc := 56) fX6_42 rfl rfl rfl (gz_b (by decide)) (wl_at (i := 1) rfl) (Nat.le_of_ble_eq_true rfl) rfl rfl dX6_init_56 ?_
  refine go_ext (wl_up (i := 1) rfl rfl) ?_
  refine go_aload_n (pc := 59) dX6_init_59 rfl rfl ?_
  refine go_bipush (pc := 60) (v := 24) dX6_init_60 (by decide) ?_
  refine go_newaE (pc := 62) (N := 24) (n1 := 21) (k1 := 21136) (by decide) (by decide) g_ai rfl rfl (gz_le rfl rfl) (gz_le rfl rfl) dX6_init_62 ?_
  refine go_ext (wl_push (n := 20) rfl) ?_
  refine go_putF (pc := 64) fX6_46 rfl rfl rfl (gz_b (by decide)) (wl_at (i := 1) rfl) (Nat.le_of_ble_eq_true rfl) rfl rfl dX6_init_64 ?_
  refine go_ext (wl_up (i := 1) rfl rfl) ?_
  refine go_aload_n (pc := 67) dX6_init_67 rfl rfl ?_
  refine go_bipush (pc := 68) (v := 32) dX6_init_68 (by decide) ?_
  refine go_newaE (pc := 70) (N := 32) (n1 := 22) (k1 := 21168) (by decide) (by decide) g_ai rfl rfl (gz_le rfl rfl) (gz_le rfl rfl) dX6_init_70 ?_
  refine go_ext (wl_push (n := 21) rfl) ?_
  refine go_putF (pc := 72) fX6_50 rfl rfl rfl (gz_b (by decide)) (wl_at (i := 1) rfl) (Nat.le_of_ble_eq_true rfl) rfl rfl dX6_init_72 ?_
  refine go_ext (wl_up (i := 1) rfl rfl) ?_
  refine go_aload_n (pc := 75) dX6_init_75 rfl rfl ?_
  refine go_sipush (pc := 76) (v := 256) dX6_init_76 (by decide) ?_
  refine go_callV_v (pc := 79) vX6_53 rfl (cX6_startAnew_1) rfl rfl (gz_b (by decide)) (wl_at (i := 1) rfl) rfl (Nat.le_of_ble_eq_true rfl) ⟨Nat.le_of_ble_eq_true rfl, Nat.le_of_ble_eq_true rfl, (gz_le rfl rfl), (gz_le rfl rfl)⟩ dX6_init_79 ?_
  exact go_vret (pc := 82) rfl dX6_init_82

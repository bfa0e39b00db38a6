/-! public methods on the fresh world, laid by wip/tools/p1gen.py -/
set_option maxRecDepth 100000 in
set_option maxHeartbeats 4000000 in
theorem cX10_keep_1 {l : Launch} {G : gG} {n k : Nat} {w : Nat → va_E} (hn : 42 ≤ n) (hw : ∀ i, 32 ≤ i → i < 42 → w (G.2.1 + i) = wl G.2.1 (LF G) (G.2.1 + i)) : Ct l G mX10_keep 1 24 [.ref (G.2.1 + 33), .ref (G.2.1 + 34)] n k w (none, n, k, (va_up w (G.2.1 + 34) (ai G 26100 (fun j => if 18100 ≤ j ∧ j < 18100 then (sx 256) j else (fun j => if 10100 ≤ j ∧ j < 10100 then (sx 256) j else (fun j => if 6100 ≤ j ∧ j < 6356 then (sx 256) j else (fun j => if 0 ≤ j ∧ j < 1100 then (sx 256) j else (fun _ => 0) j) j) j) j)))) := by
  refine Ct.of (by decide) (Nat.le_of_ble_eq_true rfl) ⟨Nat.le_refl _, Nat.le_refl _⟩ ?_
  show Go l G mX10_keep _ 0 [(0, .ref (G.2.1 + 33)), (1, .ref (G.2.1 + 34))] [] n k w
  refine go_aload_n (pc := 0) dX10_keep_0 rfl rfl ?_
  refine go_aload_n (pc := 1) dX10_keep_1 rfl rfl ?_
  refine go_iconst (pc := 2) (v := 0) dX10_keep_2 (by decide) ?_
  refine go_sipush (pc := 3) (v := 1100) dX10_keep_3 (by decide) ?_
  refine go_bipush (pc := 6) (v := 10) dX10_keep_6 (by decide) ?_
  refine go_aload_n (pc := 8) dX10_keep_8 rfl rfl ?_
  refine go_iconst (pc := 9) (v := 1) dX10_keep_9 (by decide) ?_
  refine go_iald (pc := 10) (gz_b (by omega)) ((hw 33 (by decide) (by decide)).trans (wl_at (i := 33) rfl)) (gv_in (by decide)) dX10_keep_10 ?_
  refine go_top (y := 0) rfl ?_
  refine go_imul (pc := 11) dX10_keep_11 ?_
  refine go_top (y := 0) (by decide) ?_
  refine go_iadd (pc := 12) dX10_keep_12 ?_
  refine go_top (y := 1100) (by decide) ?_
  refine go_callS_v (pc := 13) sX10_295 rfl (ct_moves (a := G.2.1 + 33) (b := G.2.1 + 34) (N := 26100) (lo := 0) (hi := 1100) (f := (sx 256)) (g := (fun _ => 0)) (by decide) (by decide) (by decide) (gz_b (by omega)) (gz_b (by omega)) (gz_ne (by decide)) ((hw 33 (by decide) (by decide)).trans (wl_at (i := 33) rfl)) ((hw 34 (by decide) (by decide)).trans (wl_at (i := 34) rfl))) rfl rfl (Nat.le_of_ble_eq_true rfl) ⟨Nat.le_of_ble_eq_true rfl, Nat.le_of_ble_eq_true rfl, (Nat.le_add_right _ _), (Nat.le_add_right _ _)⟩ dX10_keep_13 ?_
  refine go_aload_n (pc := 16) dX10_keep_16 rfl rfl ?_
  refine go_aload_n (pc := 17) dX10_keep_17 rfl rfl ?_
  refine go_sipush (pc := 18) (v := 6100) dX10_keep_18 (by decide) ?_
  refine go_sipush (pc := 21) (v := 6100) dX10_keep_21 (by decide) ?_
  refine go_aload_n (pc := 24) dX10_keep_24 rfl rfl ?_
  refine go_iconst (pc := 25) (v := 0) dX10_keep_25 (by decide) ?_
  refine go_iald (pc := 26) (gz_b (by omega)) ((va_up_ne _ _ (gz_ne (by decide))).trans ((hw 33 (by decide) (by decide)).trans (wl_at (i := 33) rfl))) (gv_in (by decide)) dX10_keep_26 ?_
  refine go_top (y := 256) rfl ?_
  refine go_iadd (pc := 27) dX10_keep_27 ?_
  refine go_top (y := 6356) (by decide) ?_
  refine go_callS_v (pc := 28) sX10_295 rfl (ct_moves (a := G.2.1 + 33) (b := G.2.1 + 34) (N := 26100) (lo := 6100) (hi := 6356) (f := (sx 256)) (g := (fun j => if 0 ≤ j ∧ j < 1100 then (sx 256) j else (fun _ => 0) j)) (by decide) (by decide) (by decide) (gz_b (by omega)) (gz_b (by omega)) (gz_ne (by decide)) ((va_up_ne _ _ (gz_ne (by decide))).trans ((hw 33 (by decide) (by decide)).trans (wl_at (i := 33) rfl))) (va_up_self _ _ _)) rfl rfl (Nat.le_of_ble_eq_true rfl) ⟨Nat.le_of_ble_eq_true rfl, Nat.le_of_ble_eq_true rfl, (Nat.le_add_right _ _), (Nat.le_add_right _ _)⟩ dX10_keep_28 ?_
  refine go_w (va_up_up _ _ _ _) ?_
  refine go_aload_n (pc := 31) dX10_keep_31 rfl rfl ?_
  refine go_aload_n (pc := 32) dX10_keep_32 rfl rfl ?_
  refine go_sipush (pc := 33) (v := 10100) dX10_keep_33 (by decide) ?_
  refine go_sipush (pc := 36) (v := 10100) dX10_keep_36 (by decide) ?_
  refine go_aload_n (pc := 39) dX10_keep_39 rfl rfl ?_
  refine go_bipush (pc := 40) (v := 15) dX10_keep_40 (by decide) ?_
  refine go_iald (pc := 42) (gz_b (by omega)) ((va_up_ne _ _ (gz_ne (by decide))).trans ((hw 33 (by decide) (by decide)).trans (wl_at (i := 33) rfl))) (gv_in (by decide)) dX10_keep_42 ?_
  refine go_top (y := 0) rfl ?_
  refine go_iadd (pc := 43) dX10_keep_43 ?_
  refine go_top (y := 10100) (by decide) ?_
  refine go_callS_v (pc := 44) sX10_295 rfl (ct_moves (a := G.2.1 + 33) (b := G.2.1 + 34) (N := 26100) (lo := 10100) (hi := 10100) (f := (sx 256)) (g := (fun j => if 6100 ≤ j ∧ j < 6356 then (sx 256) j else (fun j => if 0 ≤ j ∧ j < 1100 then (sx 256) j else (fun _ => 0) j) j)) (by decide) (by decide) (by decide) (gz_b (by omega)) (gz_b (by omega)) (gz_ne (by decide)) ((va_up_ne _ _ (gz_ne (by decide))).trans ((hw 33 (by decide) (by decide)).trans (wl_at (i := 33) rfl))) (va_up_self _ _ _)) rfl rfl (Nat.le_of_ble_eq_true rfl) ⟨Nat.le_of_ble_eq_true rfl, Nat.le_of_ble_eq_true rfl, (Nat.le_add_right _ _), (Nat.le_add_right _ _)⟩ dX10_keep_44 ?_
  refine go_w (va_up_up _ _ _ _) ?_
  refine go_aload_n (pc := 47) dX10_keep_47 rfl rfl ?_
  refine go_aload_n (pc := 48) dX10_keep_48 rfl rfl ?_
  refine go_sipush (pc := 49) (v := 18100) dX10_keep_49 (by decide) ?_
  refine go_sipush (pc := 52) (v := 18100) dX10_keep_52 (by decide) ?_
  refine go_aload_n (pc := 55) dX10_keep_55 rfl rfl ?_
  refine go_bipush (pc := 56) (v := 15) dX10_keep_56 (by decide) ?_
  refine go_iald (pc := 58) (gz_b (by omega)) ((va_up_ne _ _ (gz_ne (by decide))).trans ((hw 33 (by decide) (by decide)).trans (wl_at (i := 33) rfl))) (gv_in (by decide)) dX10_keep_58 ?_
  refine go_top (y := 0) rfl ?_
  refine go_iadd (pc := 59) dX10_keep_59 ?_
  refine go_top (y := 18100) (by decide) ?_
  refine go_callS_v (pc := 60) sX10_295 rfl (ct_moves (a := G.2.1 + 33) (b := G.2.1 + 34) (N := 26100) (lo := 18100) (hi := 18100) (f := (sx 256)) (g := (fun j => if 10100 ≤ j ∧ j < 10100 then (sx 256) j else (fun j => if 6100 ≤ j ∧ j < 6356 then (sx 256) j else (fun j => if 0 ≤ j ∧ j < 1100 then (sx 256) j else (fun _ => 0) j) j) j)) (by decide) (by decide) (by decide) (gz_b (by omega)) (gz_b (by omega)) (gz_ne (by decide)) ((va_up_ne _ _ (gz_ne (by decide))).trans ((hw 33 (by decide) (by decide)).trans (wl_at (i := 33) rfl))) (va_up_self _ _ _)) rfl rfl (Nat.le_of_ble_eq_true rfl) ⟨Nat.le_of_ble_eq_true rfl, Nat.le_of_ble_eq_true rfl, (Nat.le_add_right _ _), (Nat.le_add_right _ _)⟩ dX10_keep_60 ?_
  refine go_w (va_up_up _ _ _ _) ?_
  exact go_vret (pc := 63) rfl dX10_keep_63
set_option maxRecDepth 100000 in
set_option maxHeartbeats 4000000 in
theorem cm_image_o {l : Launch} {G : gG} {n k : Nat} {w : Nat → va_E} (hn : 42 ≤ n) (hw : ∀ i, 32 ≤ i → i < 42 → w (G.2.1 + i) = wl G.2.1 (LF G) (G.2.1 + i)) : Ct l G mX10_image 2 45 [.ref (G.2.1 + 32)] n k w (some (.int 0), n, k, (va_up (va_up w (G.2.1 + 34) (ai G 26100 (fun j => if 18100 ≤ j ∧ j < 18100 then (sx 256) j else (fun j => if 10100 ≤ j ∧ j < 10100 then (sx 256) j else (fun j => if 6100 ≤ j ∧ j < 6356 then (sx 256) j else (fun j => if 0 ≤ j ∧ j < 1100 then (sx 256) j else (fun _ => 0) j) j) j) j))) (G.2.1 + 32) (ob 10 [.ref (G.2.1 + 33), .ref (G.2.1 + 34), .ref (G.2.1 + 35), .int 1, .int 0, .int 0, .int 0, .int 0, .ref (G.2.1 + 36), .ref (G.2.1 + 37), .ref (G.2.1 + 38), .ref (G.2.1 + 39), .int 0, .ref (G.2.1 + 40), .int 0, .ref (G.2.1 + 41)]))) := by
  refine Ct.of (by decide) (Nat.le_of_ble_eq_true rfl) ⟨Nat.le_refl _, Nat.le_refl _⟩ ?_
  show Go l G mX10_image _ 0 [(0, .ref (G.2.1 + 32))] [] n k w
  refine go_aload_n (pc := 0) dX10_image_0 rfl rfl ?_
  refine go_get (pc := 1) fX10_9 rfl (gz_b (by omega)) ((hw 32 (by decide) (by decide)).trans (wl_at (i := 32) rfl)) rfl dX10_image_1 ?_
  refine go_aload_n (pc := 4) dX10_image_4 rfl rfl ?_
  refine go_get (pc := 5) fX10_13 rfl (gz_b (by omega)) ((hw 32 (by decide) (by decide)).trans (wl_at (i := 32) rfl)) rfl dX10_image_5 ?_
  refine go_callS_v (pc := 8) sX10_299 rfl (cX10_keep_1 hn hw) rfl rfl (Nat.le_of_ble_eq_true rfl) ⟨Nat.le_of_ble_eq_true rfl, Nat.le_of_ble_eq_true rfl, (Nat.le_add_right _ _), (Nat.le_add_right _ _)⟩ dX10_image_8 ?_
  refine go_aload_n (pc := 11) dX10_image_11 rfl rfl ?_
  refine go_iconst (pc := 12) (v := 1) dX10_image_12 (by decide) ?_
  refine go_put (pc := 13) fX10_42 rfl (gz_b (by omega)) ((va_up_ne _ _ (gz_ne (by decide))).trans ((hw 32 (by decide) (by decide)).trans (wl_at (i := 32) rfl))) (Nat.le_of_ble_eq_true rfl) rfl rfl dX10_image_13 ?_
  refine go_aload_n (pc := 16) dX10_image_16 rfl rfl ?_
  refine go_get (pc := 17) fX10_9 rfl (gz_b (by omega)) (va_up_self _ _ _) rfl dX10_image_17 ?_
  refine go_iconst (pc := 20) (v := 2) dX10_image_20 (by decide) ?_
  refine go_iald (pc := 21) (gz_b (by omega)) ((va_up_ne _ _ (gz_ne (by decide))).trans ((va_up_ne _ _ (gz_ne (by decide))).trans ((hw 33 (by decide) (by decide)).trans (wl_at (i := 33) rfl)))) (gv_in (by decide)) dX10_image_21 ?_
  refine go_top (y := 0) rfl ?_
  exact go_iret (pc := 22) rfl dX10_image_22
theorem cm_image {l : Launch} {G : gG} : CM l G mX10_image [.ref (G.2.1 + 32)] 0 := by
  intro n k w hn hw
  exact ⟨2, 45, _, by decide, by decide, cm_image_o hn hw⟩

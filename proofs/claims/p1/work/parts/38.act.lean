/-! public methods on the fresh world, laid by wip/tools/p1gen.py -/
set_option maxRecDepth 100000 in
set_option maxHeartbeats 4000000 in
theorem cX9_isNoName_1 {l : Launch} {G : gG} (x2 : Int32) : Ct l G mX9_isNoName 0 0 [.int 8, .int x2] 42 90324 (wl G.2.1 (LF G)) (some (.int ((if x2 < 0 then (1 : Int32) else (if x2 < 8 then (0 : Int32) else 1)))), 42, 90324, (wl G.2.1 (LF G))) := by
  refine Ct.of (by decide) (Nat.le_of_ble_eq_true rfl) ⟨Nat.le_refl _, Nat.le_refl _⟩ ?_
  show Go l G mX9_isNoName _ 0 [(0, .int 8), (1, .int x2)] [] 42 90324 (wl G.2.1 (LF G))
  refine go_iload_n (pc := 0) dX9_isNoName_0 rfl rfl ?_
  refine go_if_le_f (pc := 1) (tgt := 17) dX9_isNoName_1 (by decide) (by decide) ?_
  refine go_iload_n (pc := 4) dX9_isNoName_4 rfl rfl ?_
  refine go_if_lt (pc := 5) (tgt := 13) dX9_isNoName_5 (by decide) (fun c0 => ?_) (fun c0 => ?_)
  · refine go_iconst (pc := 13) (v := 1) dX9_isNoName_13 (by decide) ?_
    refine go_goto (pc := 14) (tgt := 18) dX9_isNoName_14 (by decide) ?_
    refine go_eq (r' := (some (.int 1), _, _, _)) (by rw [if_pos c0]) ?_
    exact go_zret (pc := 18) rfl rfl dX9_isNoName_18
  · refine go_iload_n (pc := 8) dX9_isNoName_8 rfl rfl ?_
    refine go_iload_n (pc := 9) dX9_isNoName_9 rfl rfl ?_
    refine go_icmp_lt (pc := 10) (tgt := 17) dX9_isNoName_10 (by decide) (fun c1 => ?_) (fun c1 => ?_)
    · refine go_iconst (pc := 17) (v := 0) dX9_isNoName_17 (by decide) ?_
      refine go_eq (r' := (some (.int 0), _, _, _)) (by rw [if_neg c0, if_pos c1]) ?_
      exact go_zret (pc := 18) rfl rfl dX9_isNoName_18
    · refine go_iconst (pc := 13) (v := 1) dX9_isNoName_13 (by decide) ?_
      refine go_goto (pc := 14) (tgt := 18) dX9_isNoName_14 (by decide) ?_
      refine go_eq (r' := (some (.int 1), _, _, _)) (by rw [if_neg c0, if_neg c1]) ?_
      exact go_zret (pc := 18) rfl rfl dX9_isNoName_18
set_option maxRecDepth 100000 in
set_option maxHeartbeats 4000000 in
theorem cX9_isNoName_2 {l : Launch} {G : gG} (x3 : Int32) : Ct l G mX9_isNoName 0 0 [.int 0, .int x3] 42 90324 (wl G.2.1 (LF G)) (some (.int 0), 42, 90324, (wl G.2.1 (LF G))) := by
  refine Ct.of (by decide) (Nat.le_of_ble_eq_true rfl) ⟨Nat.le_refl _, Nat.le_refl _⟩ ?_
  show Go l G mX9_isNoName _ 0 [(0, .int 0), (1, .int x3)] [] 42 90324 (wl G.2.1 (LF G))
  refine go_iload_n (pc := 0) dX9_isNoName_0 rfl rfl ?_
  refine go_if_le_t (pc := 1) (tgt := 17) dX9_isNoName_1 (by decide) (by decide) ?_
  refine go_iconst (pc := 17) (v := 0) dX9_isNoName_17 (by decide) ?_
  exact go_zret (pc := 18) rfl rfl dX9_isNoName_18
set_option maxRecDepth 100000 in
set_option maxHeartbeats 4000000 in
theorem cX9_isNoName_3 {l : Launch} {G : gG} (x4 : Int32) : Ct l G mX9_isNoName 0 0 [.int 0, .int x4] 42 90324 (wl G.2.1 (LF G)) (some (.int 0), 42, 90324, (wl G.2.1 (LF G))) := by
  refine Ct.of (by decide) (Nat.le_of_ble_eq_true rfl) ⟨Nat.le_refl _, Nat.le_refl _⟩ ?_
  show Go l G mX9_isNoName _ 0 [(0, .int 0), (1, .int x4)] [] 42 90324 (wl G.2.1 (LF G))
  refine go_iload_n (pc := 0) dX9_isNoName_0 rfl rfl ?_
  refine go_if_le_t (pc := 1) (tgt := 17) dX9_isNoName_1 (by decide) (by decide) ?_
  refine go_iconst (pc := 17) (v := 0) dX9_isNoName_17 (by decide) ?_
  exact go_zret (pc := 18) rfl rfl dX9_isNoName_18
set_option maxRecDepth 100000 in
set_option maxHeartbeats 4000000 in
theorem cX2_isCounted_1 {l : Launch} {G : gG} (x3 : Int32) : Ct l G mX2_isCounted 0 0 [.int x3] 42 90324 (wl G.2.1 (LF G)) (some (.int ((if x3 = 1 then (1 : Int32) else (if x3 = 2 then (1 : Int32) else (if x3 = 5 then (1 : Int32) else 0))))), 42, 90324, (wl G.2.1 (LF G))) := by
  refine Ct.of (by decide) (Nat.le_of_ble_eq_true rfl) ⟨Nat.le_refl _, Nat.le_refl _⟩ ?_
  show Go l G mX2_isCounted _ 0 [(0, .int x3)] [] 42 90324 (wl G.2.1 (LF G))
  refine go_iload_n (pc := 0) dX2_isCounted_0 rfl rfl ?_
  refine go_iconst (pc := 1) (v := 1) dX2_isCounted_1 (by decide) ?_
  refine go_icmp_eq (pc := 2) (tgt := 15) dX2_isCounted_2 (by decide) (fun c0 => ?_) (fun c0 => ?_)
  · refine go_iconst (pc := 15) (v := 1) dX2_isCounted_15 (by decide) ?_
    refine go_goto (pc := 16) (tgt := 20) dX2_isCounted_16 (by decide) ?_
    refine go_eq (r' := (some (.int 1), _, _, _)) (by rw [if_pos c0]) ?_
    exact go_zret (pc := 20) rfl rfl dX2_isCounted_20
  · refine go_iload_n (pc := 5) dX2_isCounted_5 rfl rfl ?_
    refine go_iconst (pc := 6) (v := 2) dX2_isCounted_6 (by decide) ?_
    refine go_icmp_eq (pc := 7) (tgt := 15) dX2_isCounted_7 (by decide) (fun c1 => ?_) (fun c1 => ?_)
    · refine go_iconst (pc := 15) (v := 1) dX2_isCounted_15 (by decide) ?_
      refine go_goto (pc := 16) (tgt := 20) dX2_isCounted_16 (by decide) ?_
      refine go_eq (r' := (some (.int 1), _, _, _)) (by rw [if_neg c0, if_pos c1]) ?_
      exact go_zret (pc := 20) rfl rfl dX2_isCounted_20
    · refine go_iload_n (pc := 10) dX2_isCounted_10 rfl rfl ?_
      refine go_iconst (pc := 11) (v := 5) dX2_isCounted_11 (by decide) ?_
      refine go_icmp_ne (pc := 12) (tgt := 19) dX2_isCounted_12 (by decide) (fun c2 => ?_) (fun c2 => ?_)
      · refine go_iconst (pc := 19) (v := 0) dX2_isCounted_19 (by decide) ?_
        refine go_eq (r' := (some (.int 0), _, _, _)) (by rw [if_neg c0, if_neg c1, if_neg c2]) ?_
        exact go_zret (pc := 20) rfl rfl dX2_isCounted_20
      · refine go_iconst (pc := 15) (v := 1) dX2_isCounted_15 (by decide) ?_
        refine go_goto (pc := 16) (tgt := 20) dX2_isCounted_16 (by decide) ?_
        refine go_eq (r' := (some (.int 1), _, _, _)) (by rw [if_neg c0, if_neg c1, if_pos c2]) ?_
        exact go_zret (pc := 20) rfl rfl dX2_isCounted_20
set_option maxRecDepth 100000 in
set_option maxHeartbeats 4000000 in
theorem cX9_isOutsideOfMaking_1 {l : Launch} {G : gG} (x3 : Int32) (x4 : Int32) : Ct l G mX9_isOutsideOfMaking 1 20 [.int x3, .int x4] 42 90324 (wl G.2.1 (LF G)) (some (.int ((if x3 < 0 then (1 : Int32) else (if 6 ≤ x3 then (1 : Int32) else (if (if x3 = 1 then (1 : Int32) else (if x3 = 2 then (1 : Int32) else (if x3 = 5 then (1 : Int32) else 0))) = 0 then (0 : Int32) else (if x4 ≤ 300 then (0 : Int32) else 1)))))), 42, 90324, (wl G.2.1 (LF G))) := by
  refine Ct.of (by decide) (Nat.le_of_ble_eq_true rfl) ⟨Nat.le_refl _, Nat.le_refl _⟩ ?_
  show Go l G mX9_isOutsideOfMaking _ 0 [(0, .int x3), (1, .int x4)] [] 42 90324 (wl G.2.1 (LF G))
  refine go_iload_n (pc := 0) dX9_isOutsideOfMaking_0 rfl rfl ?_
  refine go_if_lt (pc := 1) (tgt := 24) dX9_isOutsideOfMaking_1 (by decide) (fun d0 => ?_) (fun d0 => ?_)
  · refine go_iconst (pc := 24) (v := 1) dX9_isOutsideOfMaking_24 (by decide) ?_
    refine go_goto (pc := 25) (tgt := 29) dX9_isOutsideOfMaking_25 (by decide) ?_
    refine go_eq (r' := (some (.int 1), _, _, _)) (by rw [if_pos d0]) ?_
    exact go_zret (pc := 29) rfl rfl dX9_isOutsideOfMaking_29
  · refine go_iload_n (pc := 4) dX9_isOutsideOfMaking_4 rfl rfl ?_
    refine go_bipush (pc := 5) (v := 6) dX9_isOutsideOfMaking_5 (by decide) ?_
    refine go_icmp_ge (pc := 7) (tgt := 24) dX9_isOutsideOfMaking_7 (by decide) (fun d1 => ?_) (fun d1 => ?_)
    · refine go_iconst (pc := 24) (v := 1) dX9_isOutsideOfMaking_24 (by decide) ?_
      refine go_goto (pc := 25) (tgt := 29) dX9_isOutsideOfMaking_25 (by decide) ?_
      refine go_eq (r' := (some (.int 1), _, _, _)) (by rw [if_neg d0, if_pos d1]) ?_
      exact go_zret (pc := 29) rfl rfl dX9_isOutsideOfMaking_29
    · refine go_iload_n (pc := 10) dX9_isOutsideOfMaking_10 rfl rfl ?_
      refine go_callS_i (pc := 11) sX9_326 rfl (cX2_isCounted_1 x3) rfl rfl (Nat.le_of_ble_eq_true rfl) ⟨Nat.le_of_ble_eq_true rfl, Nat.le_of_ble_eq_true rfl, (Nat.le_add_right _ _), (Nat.le_add_right _ _)⟩ dX9_isOutsideOfMaking_11 ?_
      refine go_if_eq (pc := 14) (tgt := 28) dX9_isOutsideOfMaking_14 (by decide) (fun d2 => ?_) (fun d2 => ?_)
      · refine go_iconst (pc := 28) (v := 0) dX9_isOutsideOfMaking_28 (by decide) ?_
        refine go_eq (r' := (some (.int 0), _, _, _)) (by rw [if_neg d0, if_neg d1, if_pos d2]) ?_
        exact go_zret (pc := 29) rfl rfl dX9_isOutsideOfMaking_29
      · refine go_iload_n (pc := 17) dX9_isOutsideOfMaking_17 rfl rfl ?_
        refine go_sipush (pc := 18) (v := 300) dX9_isOutsideOfMaking_18 (by decide) ?_
        refine go_icmp_le (pc := 21) (tgt := 28) dX9_isOutsideOfMaking_21 (by decide) (fun d3 => ?_) (fun d3 => ?_)
        · refine go_iconst (pc := 28) (v := 0) dX9_isOutsideOfMaking_28 (by decide) ?_
          refine go_eq (r' := (some (.int 0), _, _, _)) (by rw [if_neg d0, if_neg d1, if_neg d2, if_pos d3]) ?_
          exact go_zret (pc := 29) rfl rfl dX9_isOutsideOfMaking_29
        · refine go_iconst (pc := 24) (v := 1) dX9_isOutsideOfMaking_24 (by decide) ?_
          refine go_goto (pc := 25) (tgt := 29) dX9_isOutsideOfMaking_25 (by decide) ?_
          refine go_eq (r' := (some (.int 1), _, _, _)) (by rw [if_neg d0, if_neg d1, if_neg d2, if_neg d3]) ?_
          exact go_zret (pc := 29) rfl rfl dX9_isOutsideOfMaking_29
set_option maxRecDepth 100000 in
set_option maxHeartbeats 4000000 in
theorem cX5_add_1 {l : Launch} {G : gG} (x2 : Int32) (x3 : Int32) (x4 : Int32) (x5 : Int32) : Ct l G mX5_add 0 0 [.ref (G.2.1 + 17), .int 0, .int x2, .int x3, .int x4, .int x5] 42 90324 (wl G.2.1 (LF G)) (none, 42, 90324, (wl G.2.1 [ob 9 [.ref (G.2.1 + 1), .ref (G.2.1 + 23), .ref (G.2.1 + 27), .ref (G.2.1 + 28), .ref (G.2.1 + 22), .int 0, .int 0, .null, .int 0, .null, .int 0], ob 6 [.ref (G.2.1 + 2), .ref (G.2.1 + 6), .ref (G.2.1 + 12), .ref (G.2.1 + 14), .ref (G.2.1 + 17), .ref (G.2.1 + 20), .ref (G.2.1 + 21)], ob 2 [.int 256, .int 0, .int 0, .int 0, .ref (G.2.1 + 3), .ref (G.2.1 + 4), .ref (G.2.1 + 5)], ai G 256 (fun _ => 0), ai G 500 (fun _ => (-1)), ai G 500 (fun _ => 0), ob 3 [.int 0, .int 0, .int 0, .int 0, .ref (G.2.1 + 7), .ref (G.2.1 + 8), .ref (G.2.1 + 9), .ref (G.2.1 + 10), .ref (G.2.1 + 11)], ai G 500 (fun _ => 0), ai G 500 (fun _ => 0), ai G 500 (fun _ => 0), ai G 500 (fun _ => 0), ai G 500 (fun _ => 0), ob 8 [.int 0, .int 0, .int 0, .int 0, .int 0, .int 0, .ref (G.2.1 + 13)], ai G 300 (fun _ => 0), ob 4 [.int 0, .ref (G.2.1 + 15), .ref (G.2.1 + 16)], ai G 1295 (fun _ => 0), ai G 1295 (fun _ => 0), ob 5 [.int 1, .int 0, .int 0, .int 0, .ref (G.2.1 + 18), .ref (G.2.1 + 19)], ai G 200 (upd (upd (upd (upd (upd (fun _ => 0) (0 : Int32).toNatClampNeg 0) (1 : Int32).toNatClampNeg x2) (2 : Int32).toNatClampNeg x3) (3 : Int32).toNatClampNeg x4) (4 : Int32).toNatClampNeg x5), ai G 8 (fun _ => (-1)), ai G 24 (fun _ => (-1)), ai G 32 (fun _ => (-1)), ai G 14 (fun _ => 0), ob 7 [.ref (G.2.1 + 1), .ref (G.2.1 + 2), .ref (G.2.1 + 6), .ref (G.2.1 + 22), .ref (G.2.1 + 24), .int 0, .ref (G.2.1 + 25), .ref (G.2.1 + 26), .int 0], ai G 500 (fun _ => 0), ai G 500 (fun _ => 0), ai G 500 (fun _ => 0), ob 0 [.ref (G.2.1 + 1), .ref (G.2.1 + 2), .ref (G.2.1 + 23), .int 0], ob 1 [.ref (G.2.1 + 29), .int 0, .int 0, .ref (G.2.1 + 30), .ref (G.2.1 + 31)], ai G 0 (fun _ => 0), ai G 500 (fun _ => 0), ai G 501 (fun _ => 0), ob 10 [.ref (G.2.1 + 33), .ref (G.2.1 + 34), .ref (G.2.1 + 35), .int 0, .int 0, .int 0, .int 0, .int 0, .ref (G.2.1 + 36), .ref (G.2.1 + 37), .ref (G.2.1 + 38), .ref (G.2.1 + 39), .int 0, .ref (G.2.1 + 40), .int 0, .ref (G.2.1 + 41)], ai G 26100 (sx 256), ai G 26100 (fun _ => 0), ai G 26100 (fun _ => 0), ai G 14 (fun _ => 0), ai G 500 (fun _ => 0), ai G 500 (fun _ => 0), az G 500 (fun _ => 0), ai G 501 (fun _ => 0), ai G 500 (fun _ => 0)])) := by
  refine Ct.of (by decide) (Nat.le_of_ble_eq_true rfl) ⟨Nat.le_refl _, Nat.le_refl _⟩ ?_
  show Go l G mX5_add _ 0 [(0, .ref (G.2.1 + 17)), (1, .int 0), (2, .int x2), (3, .int x3), (4, .int x4), (5, .int x5)] [] 42 90324 (wl G.2.1 (LF G))
  refine go_aload_n (pc := 0) dX5_add_0 rfl rfl ?_
  refine go_get (pc := 1) fX5_18 rfl (gz_b (by decide)) (wl_at (i := 17) rfl) rfl dX5_add_1 ?_
  refine go_iconst (pc := 4) (v := 5) dX5_add_4 (by decide) ?_
  refine go_imul (pc := 5) dX5_add_5 ?_
  refine go_top (y := 0) (by decide) ?_
  refine go_istore (pc := 6) (lv' := [(6, .int 0), (0, .ref (G.2.1 + 17)), (1, .int 0), (2, .int x2), (3, .int x3), (4, .int x4), (5, .int x5)]) dX5_add_6 (by decide) rfl ?_
  refine go_aload_n (pc := 8) dX5_add_8 rfl rfl ?_
  refine go_get (pc := 9) fX5_9 rfl (gz_b (by decide)) (wl_at (i := 17) rfl) rfl dX5_add_9 ?_
  refine go_iload (pc := 12) dX5_add_12 rfl ?_
  refine go_iload_n (pc := 14) dX5_add_14 rfl rfl ?_
  refine go_iast (pc := 15) (gz_b (by decide)) (wl_at (i := 18) rfl) (gv_in (by decide)) dX5_add_15 ?_
  refine go_ext (wl_up (i := 18) rfl rfl) ?_
  refine go_aload_n (pc := 16) dX5_add_16 rfl rfl ?_
  refine go_get (pc := 17) fX5_9 rfl (gz_b (by decide)) (wl_at (i := 17) rfl) rfl dX5_add_17 ?_
  refine go_iload (pc := 20) dX5_add_20 rfl ?_
  refine go_iconst (pc := 22) (v := 1) dX5_add_22 (by decide) ?_
  refine go_iadd (pc := 23) dX5_add_23 ?_
  refine go_top (y := 1) (by decide) ?_
  refine go_iload_n (pc := 24) dX5_add_24 rfl rfl ?_
  refine go_iast (pc := 25) (gz_b (by decide)) (wl_at (i := 18) rfl) (gv_in (by decide)) dX5_add_25 ?_
  refine go_ext (wl_up (i := 18) rfl rfl) ?_
  refine go_aload_n (pc := 26) dX5_add_26 rfl rfl ?_
  refine go_get (pc := 27) fX5_9 rfl (gz_b (by decide)) (wl_at (i := 17) rfl) rfl dX5_add_27 ?_
  refine go_iload (pc := 30) dX5_add_30 rfl ?_
  refine go_iconst (pc := 32) (v := 2) dX5_add_32 (by decide) ?_
  refine go_iadd (pc := 33) dX5_add_33 ?_
  refine go_top (y := 2) (by decide) ?_
  refine go_iload_n (pc := 34) dX5_add_34 rfl rfl ?_
  refine go_iast (pc := 35) (gz_b (by decide)) (wl_at (i := 18) rfl) (gv_in (by decide)) dX5_add_35 ?_
  refine go_ext (wl_up (i := 18) rfl rfl) ?_
  refine go_aload_n (pc := 36) dX5_add_36 rfl rfl ?_
  refine go_get (pc := 37) fX5_9 rfl (gz_b (by decide)) (wl_at (i := 17) rfl) rfl dX5_add_37 ?_
  refine go_iload (pc := 40) dX5_add_40 rfl ?_
  refine go_iconst (pc := 42) (v := 3) dX5_add_42 (by decide) ?_
  refine go_iadd (pc := 43) dX5_add_43 ?_
  refine go_top (y := 3) (by decide) ?_
  refine go_iload (pc := 44) dX5_add_44 rfl ?_
  refine go_iast (pc := 46) (gz_b (by decide)) (wl_at (i := 18) rfl) (gv_in (by decide)) dX5_add_46 ?_
  refine go_ext (wl_up (i := 18) rfl rfl) ?_
  refine go_aload_n (pc := 47) dX5_add_47 rfl rfl ?_
  refine go_get (pc := 48) fX5_9 rfl (gz_b (by decide)) (wl_at (i := 17) rfl) rfl dX5_add_48 ?_
  refine go_iload (pc := 51) dX5_add_51 rfl ?_
  refine go_iconst (pc := 53) (v := 4) dX5_add_53 (by decide) ?_
  refine go_iadd (pc := 54) dX5_add_54 ?_
  refine go_top (y := 4) (by decide) ?_
  refine go_iload (pc := 55) dX5_add_55 rfl ?_
  refine go_iast (pc := 57) (gz_b (by decide)) (wl_at (i := 18) rfl) (gv_in (by decide)) dX5_add_57 ?_
  refine go_ext (wl_up (i := 18) rfl rfl) ?_
  refine go_aload_n (pc := 58) dX5_add_58 rfl rfl ?_
  refine go_dup (pc := 59) dX5_add_59 rfl ?_
  refine go_get (pc := 60) fX5_18 rfl (gz_b (by decide)) (wl_at (i := 17) rfl) rfl dX5_add_60 ?_
  refine go_iconst (pc := 63) (v := 1) dX5_add_63 (by decide) ?_
  refine go_iadd (pc := 64) dX5_add_64 ?_
  refine go_top (y := 1) (by decide) ?_
  refine go_put (pc := 65) fX5_18 rfl (gz_b (by decide)) (wl_at (i := 17) rfl) (Nat.le_of_ble_eq_true rfl) rfl rfl dX5_add_65 ?_
  refine go_ext (wl_up (i := 17) rfl rfl) ?_
  refine go_w (show _ = wl G.2.1 [ob 9 [.ref (G.2.1 + 1), .ref (G.2.1 + 23), .ref (G.2.1 + 27), .ref (G.2.1 + 28), .ref (G.2.1 + 22), .int 0, .int 0, .null, .int 0, .null, .int 0], ob 6 [.ref (G.2.1 + 2), .ref (G.2.1 + 6), .ref (G.2.1 + 12), .ref (G.2.1 + 14), .ref (G.2.1 + 17), .ref (G.2.1 + 20), .ref (G.2.1 + 21)], ob 2 [.int 256, .int 0, .int 0, .int 0, .ref (G.2.1 + 3), .ref (G.2.1 + 4), .ref (G.2.1 + 5)], ai G 256 (fun _ => 0), ai G 500 (fun _ => (-1)), ai G 500 (fun _ => 0), ob 3 [.int 0, .int 0, .int 0, .int 0, .ref (G.2.1 + 7), .ref (G.2.1 + 8), .ref (G.2.1 + 9), .ref (G.2.1 + 10), .ref (G.2.1 + 11)], ai G 500 (fun _ => 0), ai G 500 (fun _ => 0), ai G 500 (fun _ => 0), ai G 500 (fun _ => 0), ai G 500 (fun _ => 0), ob 8 [.int 0, .int 0, .int 0, .int 0, .int 0, .int 0, .ref (G.2.1 + 13)], ai G 300 (fun _ => 0), ob 4 [.int 0, .ref (G.2.1 + 15), .ref (G.2.1 + 16)], ai G 1295 (fun _ => 0), ai G 1295 (fun _ => 0), ob 5 [.int 1, .int 0, .int 0, .int 0, .ref (G.2.1 + 18), .ref (G.2.1 + 19)], ai G 200 (upd (upd (upd (upd (upd (fun _ => 0) (0 : Int32).toNatClampNeg 0) (1 : Int32).toNatClampNeg x2) (2 : Int32).toNatClampNeg x3) (3 : Int32).toNatClampNeg x4) (4 : Int32).toNatClampNeg x5), ai G 8 (fun _ => (-1)), ai G 24 (fun _ => (-1)), ai G 32 (fun _ => (-1)), ai G 14 (fun _ => 0), ob 7 [.ref (G.2.1 + 1), .ref (G.2.1 + 2), .ref (G.2.1 + 6), .ref (G.2.1 + 22), .ref (G.2.1 + 24), .int 0, .ref (G.2.1 + 25), .ref (G.2.1 + 26), .int 0], ai G 500 (fun _ => 0), ai G 500 (fun _ => 0), ai G 500 (fun _ => 0), ob 0 [.ref (G.2.1 + 1), .ref (G.2.1 + 2), .ref (G.2.1 + 23), .int 0], ob 1 [.ref (G.2.1 + 29), .int 0, .int 0, .ref (G.2.1 + 30), .ref (G.2.1 + 31)], ai G 0 (fun _ => 0), ai G 500 (fun _ => 0), ai G 501 (fun _ => 0), ob 10 [.ref (G.2.1 + 33), .ref (G.2.1 + 34), .ref (G.2.1 + 35), .int 0, .int 0, .int 0, .int 0, .int 0, .ref (G.2.1 + 36), .ref (G.2.1 + 37), .ref (G.2.1 + 38), .ref (G.2.1 + 39), .int 0, .ref (G.2.1 + 40), .int 0, .ref (G.2.1 + 41)], ai G 26100 (sx 256), ai G 26100 (fun _ => 0), ai G 26100 (fun _ => 0), ai G 14 (fun _ => 0), ai G 500 (fun _ => 0), ai G 500 (fun _ => 0), az G 500 (fun _ => 0), ai G 501 (fun _ => 0), ai G 500 (fun _ => 0)] from rfl) ?_
  exact go_vret (pc := 68) rfl dX5_add_68
set_option maxRecDepth 100000 in
set_option maxHeartbeats 4000000 in
theorem cx_act_0_tt {l : Launch} {G : gG} (x2 : Int32) (x3 : Int32) (x4 : Int32) (x5 : Int32) (c0 : (if x2 < 0 then (1 : Int32) else (if x2 < 8 then (0 : Int32) else 1)) = 0) (c1 : (if x3 < 0 then (1 : Int32) else (if 6 ≤ x3 then (1 : Int32) else (if (if x3 = 1 then (1 : Int32) else (if x3 = 2 then (1 : Int32) else (if x3 = 5 then (1 : Int32) else 0))) = 0 then (0 : Int32) else (if x4 ≤ 300 then (0 : Int32) else 1)))) = 0) : Ct l G mX9_act 2 41 [.ref (G.2.1 + 0), .int 0, .int x2, .int x3, .int x4, .int x5] 42 90324 (wl G.2.1 (LF G)) (some (.int 1), 42, 90324, (wl G.2.1 [ob 9 [.ref (G.2.1 + 1), .ref (G.2.1 + 23), .ref (G.2.1 + 27), .ref (G.2.1 + 28), .ref (G.2.1 + 22), .int 0, .int 0, .null, .int 0, .null, .int 0], ob 6 [.ref (G.2.1 + 2), .ref (G.2.1 + 6), .ref (G.2.1 + 12), .ref (G.2.1 + 14), .ref (G.2.1 + 17), .ref (G.2.1 + 20), .ref (G.2.1 + 21)], ob 2 [.int 256, .int 0, .int 0, .int 0, .ref (G.2.1 + 3), .ref (G.2.1 + 4), .ref (G.2.1 + 5)], ai G 256 (fun _ => 0), ai G 500 (fun _ => (-1)), ai G 500 (fun _ => 0), ob 3 [.int 0, .int 0, .int 0, .int 0, .ref (G.2.1 + 7), .ref (G.2.1 + 8), .ref (G.2.1 + 9), .ref (G.2.1 + 10), .ref (G.2.1 + 11)], ai G 500 (fun _ => 0), ai G 500 (fun _ => 0), ai G 500 (fun _ => 0), ai G 500 (fun _ => 0), ai G 500 (fun _ => 0), ob 8 [.int 0, .int 0, .int 0, .int 0, .int 0, .int 0, .ref (G.2.1 + 13)], ai G 300 (fun _ => 0), ob 4 [.int 0, .ref (G.2.1 + 15), .ref (G.2.1 + 16)], ai G 1295 (fun _ => 0), ai G 1295 (fun _ => 0), ob 5 [.int 1, .int 0, .int 0, .int 0, .ref (G.2.1 + 18), .ref (G.2.1 + 19)], ai G 200 (upd (upd (upd (upd (upd (fun _ => 0) (0 : Int32).toNatClampNeg 0) (1 : Int32).toNatClampNeg x2) (2 : Int32).toNatClampNeg x3) (3 : Int32).toNatClampNeg x4) (4 : Int32).toNatClampNeg x5), ai G 8 (fun _ => (-1)), ai G 24 (fun _ => (-1)), ai G 32 (fun _ => (-1)), ai G 14 (fun _ => 0), ob 7 [.ref (G.2.1 + 1), .ref (G.2.1 + 2), .ref (G.2.1 + 6), .ref (G.2.1 + 22), .ref (G.2.1 + 24), .int 0, .ref (G.2.1 + 25), .ref (G.2.1 + 26), .int 0], ai G 500 (fun _ => 0), ai G 500 (fun _ => 0), ai G 500 (fun _ => 0), ob 0 [.ref (G.2.1 + 1), .ref (G.2.1 + 2), .ref (G.2.1 + 23), .int 0], ob 1 [.ref (G.2.1 + 29), .int 0, .int 0, .ref (G.2.1 + 30), .ref (G.2.1 + 31)], ai G 0 (fun _ => 0), ai G 500 (fun _ => 0), ai G 501 (fun _ => 0), ob 10 [.ref (G.2.1 + 33), .ref (G.2.1 + 34), .ref (G.2.1 + 35), .int 0, .int 0, .int 0, .int 0, .int 0, .ref (G.2.1 + 36), .ref (G.2.1 + 37), .ref (G.2.1 + 38), .ref (G.2.1 + 39), .int 0, .ref (G.2.1 + 40), .int 0, .ref (G.2.1 + 41)], ai G 26100 (sx 256), ai G 26100 (fun _ => 0), ai G 26100 (fun _ => 0), ai G 14 (fun _ => 0), ai G 500 (fun _ => 0), ai G 500 (fun _ => 0), az G 500 (fun _ => 0), ai G 501 (fun _ => 0), ai G 500 (fun _ => 0)])) := by
  refine Ct.of (by decide) (Nat.le_of_ble_eq_true rfl) ⟨Nat.le_refl _, Nat.le_refl _⟩ ?_
  show Go l G mX9_act _ 0 [(0, .ref (G.2.1 + 0)), (1, .int 0), (2, .int x2), (3, .int x3), (4, .int x4), (5, .int x5)] [] 42 90324 (wl G.2.1 (LF G))
  refine go_iload_n (pc := 0) dX9_act_0 rfl rfl ?_
  refine go_if_lt_f (pc := 1) (tgt := 10) dX9_act_1 (by decide) (by decide) ?_
  refine go_iload_n (pc := 4) dX9_act_4 rfl rfl ?_
  refine go_bipush (pc := 5) (v := 12) dX9_act_5 (by decide) ?_
  refine go_icmp_le_t (pc := 7) (tgt := 13) dX9_act_7 (by decide) (by decide) ?_
  refine go_gets (pc := 13) (i := 5) (by decide) rfl tX9_280 dX9_act_13 ?_
  refine go_iload_n (pc := 16) dX9_act_16 rfl rfl ?_
  refine go_tald (pc := 17) (i := 5) (by decide) (gv_in (by decide)) dX9_act_17 ?_
  refine go_top (y := 8) (by decide) ?_
  refine go_iload_n (pc := 18) dX9_act_18 rfl rfl ?_
  refine go_callS_i (pc := 19) sX9_283 rfl (cX9_isNoName_1 x2) rfl rfl (Nat.le_of_ble_eq_true rfl) ⟨Nat.le_of_ble_eq_true rfl, Nat.le_of_ble_eq_true rfl, (Nat.le_add_right _ _), (Nat.le_add_right _ _)⟩ dX9_act_19 ?_
  refine go_if_ne_f (pc := 22) (tgt := 50) dX9_act_22 (by decide) c0 ?_
  refine go_gets (pc := 25) (i := 6) (by decide) rfl tX9_286 dX9_act_25 ?_
  refine go_iload_n (pc := 28) dX9_act_28 rfl rfl ?_
  refine go_tald (pc := 29) (i := 6) (by decide) (gv_in (by decide)) dX9_act_29 ?_
  refine go_top (y := 0) (by decide) ?_
  refine go_iload_n (pc := 30) dX9_act_30 rfl rfl ?_
  refine go_callS_i (pc := 31) sX9_283 rfl (cX9_isNoName_2 x3) rfl rfl (Nat.le_of_ble_eq_true rfl) ⟨Nat.le_of_ble_eq_true rfl, Nat.le_of_ble_eq_true rfl, (Nat.le_add_right _ _), (Nat.le_add_right _ _)⟩ dX9_act_31 ?_
  refine go_if_ne_f (pc := 34) (tgt := 50) dX9_act_34 (by decide) (by decide) ?_
  refine go_gets (pc := 37) (i := 7) (by decide) rfl tX9_289 dX9_act_37 ?_
  refine go_iload_n (pc := 40) dX9_act_40 rfl rfl ?_
  refine go_tald (pc := 41) (i := 7) (by decide) (gv_in (by decide)) dX9_act_41 ?_
  refine go_top (y := 0) (by decide) ?_
  refine go_iload (pc := 42) dX9_act_42 rfl ?_
  refine go_callS_i (pc := 44) sX9_283 rfl (cX9_isNoName_3 x4) rfl rfl (Nat.le_of_ble_eq_true rfl) ⟨Nat.le_of_ble_eq_true rfl, Nat.le_of_ble_eq_true rfl, (Nat.le_add_right _ _), (Nat.le_add_right _ _)⟩ dX9_act_44 ?_
  refine go_if_eq_t (pc := 47) (tgt := 53) dX9_act_47 (by decide) (by decide) ?_
  refine go_iload_n (pc := 53) dX9_act_53 rfl rfl ?_
  refine go_if_ne_f (pc := 54) (tgt := 66) dX9_act_54 (by decide) (by decide) ?_
  refine go_iload_n (pc := 57) dX9_act_57 rfl rfl ?_
  refine go_iload (pc := 58) dX9_act_58 rfl ?_
  refine go_callS_i (pc := 60) sX9_66 rfl (cX9_isOutsideOfMaking_1 x3 x4) rfl rfl (Nat.le_of_ble_eq_true rfl) ⟨Nat.le_of_ble_eq_true rfl, Nat.le_of_ble_eq_true rfl, (Nat.le_add_right _ _), (Nat.le_add_right _ _)⟩ dX9_act_60 ?_
  refine go_if_ne_f (pc := 63) (tgt := 83) dX9_act_63 (by decide) c1 ?_
  refine go_iload_n (pc := 66) dX9_act_66 rfl rfl ?_
  refine go_bipush (pc := 67) (v := 9) dX9_act_67 (by decide) ?_
  refine go_icmp_ne_t (pc := 69) (tgt := 86) dX9_act_69 (by decide) (by decide) ?_
  refine go_aload_n (pc := 86) dX9_act_86 rfl rfl ?_
  refine go_get (pc := 87) fX9_12 rfl (gz_b (by decide)) (wl_at (i := 0) rfl) rfl dX9_act_87 ?_
  refine go_get (pc := 90) fX9_236 rfl (gz_b (by decide)) (wl_at (i := 1) rfl) rfl dX9_act_90 ?_
  refine go_get (pc := 93) fX9_240 rfl (gz_b (by decide)) (wl_at (i := 17) rfl) rfl dX9_act_93 ?_
  refine go_bipush (pc := 96) (v := 40) dX9_act_96 (by decide) ?_
  refine go_icmp_lt_t (pc := 98) (tgt := 104) dX9_act_98 (by decide) (by decide) ?_
  refine go_aload_n (pc := 104) dX9_act_104 rfl rfl ?_
  refine go_get (pc := 105) fX9_12 rfl (gz_b (by decide)) (wl_at (i := 0) rfl) rfl dX9_act_105 ?_
  refine go_get (pc := 108) fX9_236 rfl (gz_b (by decide)) (wl_at (i := 1) rfl) rfl dX9_act_108 ?_
  refine go_iload_n (pc := 111) dX9_act_111 rfl rfl ?_
  refine go_iload_n (pc := 112) dX9_act_112 rfl rfl ?_
  refine go_iload_n (pc := 113) dX9_act_113 rfl rfl ?_
  refine go_iload (pc := 114) dX9_act_114 rfl ?_
  refine go_iload (pc := 116) dX9_act_116 rfl ?_
  refine go_callV_v (pc := 118) vX9_292 rfl (cX5_add_1 x2 x3 x4 x5) rfl rfl (gz_b (by decide)) (wl_at (i := 17) rfl) rfl (Nat.le_of_ble_eq_true rfl) ⟨Nat.le_of_ble_eq_true rfl, Nat.le_of_ble_eq_true rfl, (Nat.le_add_right _ _), (Nat.le_add_right _ _)⟩ dX9_act_118 ?_
  refine go_aload_n (pc := 121) dX9_act_121 rfl rfl ?_
  refine go_get (pc := 122) fX9_12 rfl (gz_b (by decide)) (wl_at (i := 0) rfl) rfl dX9_act_122 ?_
  refine go_get (pc := 125) fX9_236 rfl (gz_b (by decide)) (wl_at (i := 1) rfl) rfl dX9_act_125 ?_
  refine go_get (pc := 128) fX9_240 rfl (gz_b (by decide)) (wl_at (i := 17) rfl) rfl dX9_act_128 ?_
  exact go_iret (pc := 131) rfl dX9_act_131
set_option maxRecDepth 100000 in
set_option maxHeartbeats 4000000 in
theorem cx_act_0_tf {l : Launch} {G : gG} (x2 : Int32) (x3 : Int32) (x4 : Int32) (x5 : Int32) (c0 : (if x2 < 0 then (1 : Int32) else (if x2 < 8 then (0 : Int32) else 1)) = 0) (c1 : ¬ (if x3 < 0 then (1 : Int32) else (if 6 ≤ x3 then (1 : Int32) else (if (if x3 = 1 then (1 : Int32) else (if x3 = 2 then (1 : Int32) else (if x3 = 5 then (1 : Int32) else 0))) = 0 then (0 : Int32) else (if x4 ≤ 300 then (0 : Int32) else 1)))) = 0) : Ct l G mX9_act 2 41 [.ref (G.2.1 + 0), .int 0, .int x2, .int x3, .int x4, .int x5] 42 90324 (wl G.2.1 (LF G)) (some (.int ((-102))), 42, 90324, (wl G.2.1 (LF G))) := by
  refine Ct.of (by decide) (Nat.le_of_ble_eq_true rfl) ⟨Nat.le_refl _, Nat.le_refl _⟩ ?_
  show Go l G mX9_act _ 0 [(0, .ref (G.2.1 + 0)), (1, .int 0), (2, .int x2), (3, .int x3), (4, .int x4), (5, .int x5)] [] 42 90324 (wl G.2.1 (LF G))
  refine go_iload_n (pc := 0) dX9_act_0 rfl rfl ?_
  refine go_if_lt_f (pc := 1) (tgt := 10) dX9_act_1 (by decide) (by decide) ?_
  refine go_iload_n (pc := 4) dX9_act_4 rfl rfl ?_
  refine go_bipush (pc := 5) (v := 12) dX9_act_5 (by decide) ?_
  refine go_icmp_le_t (pc := 7) (tgt := 13) dX9_act_7 (by decide) (by decide) ?_
  refine go_gets (pc := 13) (i := 5) (by decide) rfl tX9_280 dX9_act_13 ?_
  refine go_iload_n (pc := 16) dX9_act_16 rfl rfl ?_
  refine go_tald (pc := 17) (i := 5) (by decide) (gv_in (by decide)) dX9_act_17 ?_
  refine go_top (y := 8) (by decide) ?_
  refine go_iload_n (pc := 18) dX9_act_18 rfl rfl ?_
  refine go_callS_i (pc := 19) sX9_283 rfl (cX9_isNoName_1 x2) rfl rfl (Nat.le_of_ble_eq_true rfl) ⟨Nat.le_of_ble_eq_true rfl, Nat.le_of_ble_eq_true rfl, (Nat.le_add_right _ _), (Nat.le_add_right _ _)⟩ dX9_act_19 ?_
  refine go_if_ne_f (pc := 22) (tgt := 50) dX9_act_22 (by decide) c0 ?_
  refine go_gets (pc := 25) (i := 6) (by decide) rfl tX9_286 dX9_act_25 ?_
  refine go_iload_n (pc := 28) dX9_act_28 rfl rfl ?_
  refine go_tald (pc := 29) (i := 6) (by decide) (gv_in (by decide)) dX9_act_29 ?_
  refine go_top (y := 0) (by decide) ?_
  refine go_iload_n (pc := 30) dX9_act_30 rfl rfl ?_
  refine go_callS_i (pc := 31) sX9_283 rfl (cX9_isNoName_2 x3) rfl rfl (Nat.le_of_ble_eq_true rfl) ⟨Nat.le_of_ble_eq_true rfl, Nat.le_of_ble_eq_true rfl, (Nat.le_add_right _ _), (Nat.le_add_right _ _)⟩ dX9_act_31 ?_
  refine go_if_ne_f (pc := 34) (tgt := 50) dX9_act_34 (by decide) (by decide) ?_
  refine go_gets (pc := 37) (i := 7) (by decide) rfl tX9_289 dX9_act_37 ?_
  refine go_iload_n (pc := 40) dX9_act_40 rfl rfl ?_
  refine go_tald (pc := 41) (i := 7) (by decide) (gv_in (by decide)) dX9_act_41 ?_
  refine go_top (y := 0) (by decide) ?_
  refine go_iload (pc := 42) dX9_act_42 rfl ?_
  refine go_callS_i (pc := 44) sX9_283 rfl (cX9_isNoName_3 x4) rfl rfl (Nat.le_of_ble_eq_true rfl) ⟨Nat.le_of_ble_eq_true rfl, Nat.le_of_ble_eq_true rfl, (Nat.le_add_right _ _), (Nat.le_add_right _ _)⟩ dX9_act_44 ?_
  refine go_if_eq_t (pc := 47) (tgt := 53) dX9_act_47 (by decide) (by decide) ?_
  refine go_iload_n (pc := 53) dX9_act_53 rfl rfl ?_
  refine go_if_ne_f (pc := 54) (tgt := 66) dX9_act_54 (by decide) (by decide) ?_
  refine go_iload_n (pc := 57) dX9_act_57 rfl rfl ?_
  refine go_iload (pc := 58) dX9_act_58 rfl ?_
  refine go_callS_i (pc := 60) sX9_66 rfl (cX9_isOutsideOfMaking_1 x3 x4) rfl rfl (Nat.le_of_ble_eq_true rfl) ⟨Nat.le_of_ble_eq_true rfl, Nat.le_of_ble_eq_true rfl, (Nat.le_add_right _ _), (Nat.le_add_right _ _)⟩ dX9_act_60 ?_
  refine go_if_ne_t (pc := 63) (tgt := 83) dX9_act_63 (by decide) c1 ?_
  refine go_bipush (pc := 83) (v := (-102)) dX9_act_83 (by decide) ?_
  exact go_iret (pc := 85) rfl dX9_act_85
set_option maxRecDepth 100000 in
set_option maxHeartbeats 4000000 in
theorem cx_act_0_f {l : Launch} {G : gG} (x2 : Int32) (x3 : Int32) (x4 : Int32) (x5 : Int32) (c0 : ¬ (if x2 < 0 then (1 : Int32) else (if x2 < 8 then (0 : Int32) else 1)) = 0) : Ct l G mX9_act 1 21 [.ref (G.2.1 + 0), .int 0, .int x2, .int x3, .int x4, .int x5] 42 90324 (wl G.2.1 (LF G)) (some (.int ((-101))), 42, 90324, (wl G.2.1 (LF G))) := by
  refine Ct.of (by decide) (Nat.le_of_ble_eq_true rfl) ⟨Nat.le_refl _, Nat.le_refl _⟩ ?_
  show Go l G mX9_act _ 0 [(0, .ref (G.2.1 + 0)), (1, .int 0), (2, .int x2), (3, .int x3), (4, .int x4), (5, .int x5)] [] 42 90324 (wl G.2.1 (LF G))
  refine go_iload_n (pc := 0) dX9_act_0 rfl rfl ?_
  refine go_if_lt_f (pc := 1) (tgt := 10) dX9_act_1 (by decide) (by decide) ?_
  refine go_iload_n (pc := 4) dX9_act_4 rfl rfl ?_
  refine go_bipush (pc := 5) (v := 12) dX9_act_5 (by decide) ?_
  refine go_icmp_le_t (pc := 7) (tgt := 13) dX9_act_7 (by decide) (by decide) ?_
  refine go_gets (pc := 13) (i := 5) (by decide) rfl tX9_280 dX9_act_13 ?_
  refine go_iload_n (pc := 16) dX9_act_16 rfl rfl ?_
  refine go_tald (pc := 17) (i := 5) (by decide) (gv_in (by decide)) dX9_act_17 ?_
  refine go_top (y := 8) (by decide) ?_
  refine go_iload_n (pc := 18) dX9_act_18 rfl rfl ?_
  refine go_callS_i (pc := 19) sX9_283 rfl (cX9_isNoName_1 x2) rfl rfl (Nat.le_of_ble_eq_true rfl) ⟨Nat.le_of_ble_eq_true rfl, Nat.le_of_ble_eq_true rfl, (Nat.le_add_right _ _), (Nat.le_add_right _ _)⟩ dX9_act_19 ?_
  refine go_if_ne_t (pc := 22) (tgt := 50) dX9_act_22 (by decide) c0 ?_
  refine go_bipush (pc := 50) (v := (-101)) dX9_act_50 (by decide) ?_
  exact go_iret (pc := 52) rfl dX9_act_52
theorem cx_act_0 {l : Launch} {G : gG} (x2 : Int32) (x3 : Int32) (x4 : Int32) (x5 : Int32) : CX l G mX9_act [.ref (G.2.1 + 0), .int 0, .int x2, .int x3, .int x4, .int x5] ((if (if x2 < 0 then (1 : Int32) else (if x2 < 8 then (0 : Int32) else 1)) = 0 then (if (if x3 < 0 then (1 : Int32) else (if 6 ≤ x3 then (1 : Int32) else (if (if x3 = 1 then (1 : Int32) else (if x3 = 2 then (1 : Int32) else (if x3 = 5 then (1 : Int32) else 0))) = 0 then (0 : Int32) else (if x4 ≤ 300 then (0 : Int32) else 1)))) = 0 then 1 else (-102)) else (-101))) := by
  by_cases c0 : (if x2 < 0 then (1 : Int32) else (if x2 < 8 then (0 : Int32) else 1)) = 0
  · rw [if_pos c0]
    by_cases c1 : (if x3 < 0 then (1 : Int32) else (if 6 ≤ x3 then (1 : Int32) else (if (if x3 = 1 then (1 : Int32) else (if x3 = 2 then (1 : Int32) else (if x3 = 5 then (1 : Int32) else 0))) = 0 then (0 : Int32) else (if x4 ≤ 300 then (0 : Int32) else 1)))) = 0
    · rw [if_pos c1]
      exact ⟨2, 41, 42, 90324, _, by decide, by decide, by decide, by decide, by decide, (by exact wl_frame rfl), cx_act_0_tt x2 x3 x4 x5 c0 c1⟩
    · rw [if_neg c1]
      exact ⟨2, 41, 42, 90324, _, by decide, by decide, by decide, by decide, by decide, (by exact wl_frame rfl), cx_act_0_tf x2 x3 x4 x5 c0 c1⟩
  · rw [if_neg c0]
    exact ⟨1, 21, 42, 90324, _, by decide, by decide, by decide, by decide, by decide, (by exact wl_frame rfl), cx_act_0_f x2 x3 x4 x5 c0⟩
set_option maxRecDepth 100000 in
set_option maxHeartbeats 4000000 in
theorem cX9_isNoName_4 {l : Launch} {G : gG} (x4 : Int32) : Ct l G mX9_isNoName 0 0 [.int 8, .int x4] 42 90324 (wl G.2.1 (LF G)) (some (.int ((if x4 < 0 then (1 : Int32) else (if x4 < 8 then (0 : Int32) else 1)))), 42, 90324, (wl G.2.1 (LF G))) := by
  refine Ct.of (by decide) (Nat.le_of_ble_eq_true rfl) ⟨Nat.le_refl _, Nat.le_refl _⟩ ?_
  show Go l G mX9_isNoName _ 0 [(0, .int 8), (1, .int x4)] [] 42 90324 (wl G.2.1 (LF G))
  refine go_iload_n (pc := 0) dX9_isNoName_0 rfl rfl ?_
  refine go_if_le_f (pc := 1) (tgt := 17) dX9_isNoName_1 (by decide) (by decide) ?_
  refine go_iload_n (pc := 4) dX9_isNoName_4 rfl rfl ?_
  refine go_if_lt (pc := 5) (tgt := 13) dX9_isNoName_5 (by decide) (fun c0 => ?_) (fun c0 => ?_)
  · refine go_iconst (pc := 13) (v := 1) dX9_isNoName_13 (by decide) ?_
    refine go_goto (pc := 14) (tgt := 18) dX9_isNoName_14 (by decide) ?_
    refine go_eq (r' := (some (.int 1), _, _, _)) (by rw [if_pos c0]) ?_
    exact go_zret (pc := 18) rfl rfl dX9_isNoName_18
  · refine go_iload_n (pc := 8) dX9_isNoName_8 rfl rfl ?_
    refine go_iload_n (pc := 9) dX9_isNoName_9 rfl rfl ?_
    refine go_icmp_lt (pc := 10) (tgt := 17) dX9_isNoName_10 (by decide) (fun c1 => ?_) (fun c1 => ?_)
    · refine go_iconst (pc := 17) (v := 0) dX9_isNoName_17 (by decide) ?_
      refine go_eq (r' := (some (.int 0), _, _, _)) (by rw [if_neg c0, if_pos c1]) ?_
      exact go_zret (pc := 18) rfl rfl dX9_isNoName_18
    · refine go_iconst (pc := 13) (v := 1) dX9_isNoName_13 (by decide) ?_
      refine go_goto (pc := 14) (tgt := 18) dX9_isNoName_14 (by decide) ?_
      refine go_eq (r' := (some (.int 1), _, _, _)) (by rw [if_neg c0, if_neg c1]) ?_
      exact go_zret (pc := 18) rfl rfl dX9_isNoName_18
set_option maxRecDepth 100000 in
set_option maxHeartbeats 4000000 in
theorem cX5_add_2 {l : Launch} {G : gG} (x2 : Int32) (x3 : Int32) (x4 : Int32) (x5 : Int32) : Ct l G mX5_add 0 0 [.ref (G.2.1 + 17), .int 1, .int x2, .int x3, .int x4, .int x5] 42 90324 (wl G.2.1 (LF G)) (none, 42, 90324, (wl G.2.1 [ob 9 [.ref (G.2.1 + 1), .ref (G.2.1 + 23), .ref (G.2.1 + 27), .ref (G.2.1 + 28), .ref (G.2.1 + 22), .int 0, .int 0, .null, .int 0, .null, .int 0], ob 6 [.ref (G.2.1 + 2), .ref (G.2.1 + 6), .ref (G.2.1 + 12), .ref (G.2.1 + 14), .ref (G.2.1 + 17), .ref (G.2.1 + 20), .ref (G.2.1 + 21)], ob 2 [.int 256, .int 0, .int 0, .int 0, .ref (G.2.1 + 3), .ref (G.2.1 + 4), .ref (G.2.1 + 5)], ai G 256 (fun _ => 0), ai G 500 (fun _ => (-1)), ai G 500 (fun _ => 0), ob 3 [.int 0, .int 0, .int 0, .int 0, .ref (G.2.1 + 7), .ref (G.2.1 + 8), .ref (G.2.1 + 9), .ref (G.2.1 + 10), .ref (G.2.1 + 11)], ai G 500 (fun _ => 0), ai G 500 (fun _ => 0), ai G 500 (fun _ => 0), ai G 500 (fun _ => 0), ai G 500 (fun _ => 0), ob 8 [.int 0, .int 0, .int 0, .int 0, .int 0, .int 0, .ref (G.2.1 + 13)], ai G 300 (fun _ => 0), ob 4 [.int 0, .ref (G.2.1 + 15), .ref (G.2.1 + 16)], ai G 1295 (fun _ => 0), ai G 1295 (fun _ => 0), ob 5 [.int 1, .int 0, .int 0, .int 0, .ref (G.2.1 + 18), .ref (G.2.1 + 19)], ai G 200 (upd (upd (upd (upd (upd (fun _ => 0) (0 : Int32).toNatClampNeg 1) (1 : Int32).toNatClampNeg x2) (2 : Int32).toNatClampNeg x3) (3 : Int32).toNatClampNeg x4) (4 : Int32).toNatClampNeg x5), ai G 8 (fun _ => (-1)), ai G 24 (fun _ => (-1)), ai G 32 (fun _ => (-1)), ai G 14 (fun _ => 0), ob 7 [.ref (G.2.1 + 1), .ref (G.2.1 + 2), .ref (G.2.1 + 6), .ref (G.2.1 + 22), .ref (G.2.1 + 24), .int 0, .ref (G.2.1 + 25), .ref (G.2.1 + 26), .int 0], ai G 500 (fun _ => 0), ai G 500 (fun _ => 0), ai G 500 (fun _ => 0), ob 0 [.ref (G.2.1 + 1), .ref (G.2.1 + 2), .ref (G.2.1 + 23), .int 0], ob 1 [.ref (G.2.1 + 29), .int 0, .int 0, .ref (G.2.1 + 30), .ref (G.2.1 + 31)], ai G 0 (fun _ => 0), ai G 500 (fun _ => 0), ai G 501 (fun _ => 0), ob 10 [.ref (G.2.1 + 33), .ref (G.2.1 + 34), .ref (G.2.1 + 35), .int 0, .int 0, .int 0, .int 0, .int 0, .ref (G.2.1 + 36), .ref (G.2.1 + 37), .ref (G.2.1 + 38), .ref (G.2.1 + 39), .int 0, .ref (G.2.1 + 40), .int 0, .ref (G.2.1 + 41)], ai G 26100 (sx 256), ai G 26100 (fun _ => 0), ai G 26100 (fun _ => 0), ai G 14 (fun _ => 0), ai G 500 (fun _ => 0), ai G 500 (fun _ => 0), az G 500 (fun _ => 0), ai G 501 (fun _ => 0), ai G 500 (fun _ => 0)])) := by
  refine Ct.of (by decide) (Nat.le_of_ble_eq_true rfl) ⟨Nat.le_refl _, Nat.le_refl _⟩ ?_
  show Go l G mX5_add _ 0 [(0, .ref (G.2.1 + 17)), (1, .int 1), (2, .int x2), (3, .int x3), (4, .int x4), (5, .int x5)] [] 42 90324 (wl G.2.1 (LF G))
  refine go_aload_n (pc := 0) dX5_add_0 rfl rfl ?_
  refine go_get (pc := 1) fX5_18 rfl (gz_b (by decide)) (wl_at (i := 17) rfl) rfl dX5_add_1 ?_
  refine go_iconst (pc := 4) (v := 5) dX5_add_4 (by decide) ?_
  refine go_imul (pc := 5) dX5_add_5 ?_
  refine go_top (y := 0) (by decide) ?_
  refine go_istore (pc := 6) (lv' := [(6, .int 0), (0, .ref (G.2.1 + 17)), (1, .int 1), (2, .int x2), (3, .int x3), (4, .int x4), (5, .int x5)]) dX5_add_6 (by decide) rfl ?_
  refine go_aload_n (pc := 8) dX5_add_8 rfl rfl ?_
  refine go_get (pc := 9) fX5_9 rfl (gz_b (by decide)) (wl_at (i := 17) rfl) rfl dX5_add_9 ?_
  refine go_iload (pc := 12) dX5_add_12 rfl ?_
  refine go_iload_n (pc := 14) dX5_add_14 rfl rfl ?_
  refine go_iast (pc := 15) (gz_b (by decide)) (wl_at (i := 18) rfl) (gv_in (by decide)) dX5_add_15 ?_
  refine go_ext (wl_up (i := 18) rfl rfl) ?_
  refine go_aload_n (pc := 16) dX5_add_16 rfl rfl ?_
  refine go_get (pc := 17) fX5_9 rfl (gz_b (by decide)) (wl_at (i := 17) rfl) rfl dX5_add_17 ?_
  refine go_iload (pc := 20) dX5_add_20 rfl ?_
  refine go_iconst (pc := 22) (v := 1) dX5_add_22 (by decide) ?_
  refine go_iadd (pc := 23) dX5_add_23 ?_
  refine go_top (y := 1) (by decide) ?_
  refine go_iload_n (pc := 24) dX5_add_24 rfl rfl ?_
  refine go_iast (pc := 25) (gz_b (by decide)) (wl_at (i := 18) rfl) (gv_in (by decide)) dX5_add_25 ?_
  refine go_ext (wl_up (i := 18) rfl rfl) ?_
  refine go_aload_n (pc := 26) dX5_add_26 rfl rfl ?_
  refine go_get (pc := 27) fX5_9 rfl (gz_b (by decide)) (wl_at (i := 17) rfl) rfl dX5_add_27 ?_
  refine go_iload (pc := 30) dX5_add_30 rfl ?_
  refine go_iconst (pc := 32) (v := 2) dX5_add_32 (by decide) ?_
  refine go_iadd (pc := 33) dX5_add_33 ?_
  refine go_top (y := 2) (by decide) ?_
  refine go_iload_n (pc := 34) dX5_add_34 rfl rfl ?_
  refine go_iast (pc := 35) (gz_b (by decide)) (wl_at (i := 18) rfl) (gv_in (by decide)) dX5_add_35 ?_
  refine go_ext (wl_up (i := 18) rfl rfl) ?_
  refine go_aload_n (pc := 36) dX5_add_36 rfl rfl ?_
  refine go_get (pc := 37) fX5_9 rfl (gz_b (by decide)) (wl_at (i := 17) rfl) rfl dX5_add_37 ?_
  refine go_iload (pc := 40) dX5_add_40 rfl ?_
  refine go_iconst (pc := 42) (v := 3) dX5_add_42 (by decide) ?_
  refine go_iadd (pc := 43) dX5_add_43 ?_
  refine go_top (y := 3) (by decide) ?_
  refine go_iload (pc := 44) dX5_add_44 rfl ?_
  refine go_iast (pc := 46) (gz_b (by decide)) (wl_at (i := 18) rfl) (gv_in (by decide)) dX5_add_46 ?_
  refine go_ext (wl_up (i := 18) rfl rfl) ?_
  refine go_aload_n (pc := 47) dX5_add_47 rfl rfl ?_
  refine go_get (pc := 48) fX5_9 rfl (gz_b (by decide)) (wl_at (i := 17) rfl) rfl dX5_add_48 ?_
  refine go_iload (pc := 51) dX5_add_51 rfl ?_
  refine go_iconst (pc := 53) (v := 4) dX5_add_53 (by decide) ?_
  refine go_iadd (pc := 54) dX5_add_54 ?_
  refine go_top (y := 4) (by decide) ?_
  refine go_iload (pc := 55) dX5_add_55 rfl ?_
  refine go_iast (pc := 57) (gz_b (by decide)) (wl_at (i := 18) rfl) (gv_in (by decide)) dX5_add_57 ?_
  refine go_ext (wl_up (i := 18) rfl rfl) ?_
  refine go_aload_n (pc := 58) dX5_add_58 rfl rfl ?_
  refine go_dup (pc := 59) dX5_add_59 rfl ?_
  refine go_get (pc := 60) fX5_18 rfl (gz_b (by decide)) (wl_at (i := 17) rfl) rfl dX5_add_60 ?_
  refine go_iconst (pc := 63) (v := 1) dX5_add_63 (by decide) ?_
  refine go_iadd (pc := 64) dX5_add_64 ?_
  refine go_top (y := 1) (by decide) ?_
  refine go_put (pc := 65) fX5_18 rfl (gz_b (by decide)) (wl_at (i := 17) rfl) (Nat.le_of_ble_eq_true rfl) rfl rfl dX5_add_65 ?_
  refine go_ext (wl_up (i := 17) rfl rfl) ?_
  refine go_w (show _ = wl G.2.1 [ob 9 [.ref (G.2.1 + 1), .ref (G.2.1 + 23), .ref (G.2.1 + 27), .ref (G.2.1 + 28), .ref (G.2.1 + 22), .int 0, .int 0, .null, .int 0, .null, .int 0], ob 6 [.ref (G.2.1 + 2), .ref (G.2.1 + 6), .ref (G.2.1 + 12), .ref (G.2.1 + 14), .ref (G.2.1 + 17), .ref (G.2.1 + 20), .ref (G.2.1 + 21)], ob 2 [.int 256, .int 0, .int 0, .int 0, .ref (G.2.1 + 3), .ref (G.2.1 + 4), .ref (G.2.1 + 5)], ai G 256 (fun _ => 0), ai G 500 (fun _ => (-1)), ai G 500 (fun _ => 0), ob 3 [.int 0, .int 0, .int 0, .int 0, .ref (G.2.1 + 7), .ref (G.2.1 + 8), .ref (G.2.1 + 9), .ref (G.2.1 + 10), .ref (G.2.1 + 11)], ai G 500 (fun _ => 0), ai G 500 (fun _ => 0), ai G 500 (fun _ => 0), ai G 500 (fun _ => 0), ai G 500 (fun _ => 0), ob 8 [.int 0, .int 0, .int 0, .int 0, .int 0, .int 0, .ref (G.2.1 + 13)], ai G 300 (fun _ => 0), ob 4 [.int 0, .ref (G.2.1 + 15), .ref (G.2.1 + 16)], ai G 1295 (fun _ => 0), ai G 1295 (fun _ => 0), ob 5 [.int 1, .int 0, .int 0, .int 0, .ref (G.2.1 + 18), .ref (G.2.1 + 19)], ai G 200 (upd (upd (upd (upd (upd (fun _ => 0) (0 : Int32).toNatClampNeg 1) (1 : Int32).toNatClampNeg x2) (2 : Int32).toNatClampNeg x3) (3 : Int32).toNatClampNeg x4) (4 : Int32).toNatClampNeg x5), ai G 8 (fun _ => (-1)), ai G 24 (fun _ => (-1)), ai G 32 (fun _ => (-1)), ai G 14 (fun _ => 0), ob 7 [.ref (G.2.1 + 1), .ref (G.2.1 + 2), .ref (G.2.1 + 6), .ref (G.2.1 + 22), .ref (G.2.1 + 24), .int 0, .ref (G.2.1 + 25), .ref (G.2.1 + 26), .int 0], ai G 500 (fun _ => 0), ai G 500 (fun _ => 0), ai G 500 (fun _ => 0), ob 0 [.ref (G.2.1 + 1), .ref (G.2.1 + 2), .ref (G.2.1 + 23), .int 0], ob 1 [.ref (G.2.1 + 29), .int 0, .int 0, .ref (G.2.1 + 30), .ref (G.2.1 + 31)], ai G 0 (fun _ => 0), ai G 500 (fun _ => 0), ai G 501 (fun _ => 0), ob 10 [.ref (G.2.1 + 33), .ref (G.2.1 + 34), .ref (G.2.1 + 35), .int 0, .int 0, .int 0, .int 0, .int 0, .ref (G.2.1 + 36), .ref (G.2.1 + 37), .ref (G.2.1 + 38), .ref (G.2.1 + 39), .int 0, .ref (G.2.1 + 40), .int 0, .ref (G.2.1 + 41)], ai G 26100 (sx 256), ai G 26100 (fun _ => 0), ai G 26100 (fun _ => 0), ai G 14 (fun _ => 0), ai G 500 (fun _ => 0), ai G 500 (fun _ => 0), az G 500 (fun _ => 0), ai G 501 (fun _ => 0), ai G 500 (fun _ => 0)] from rfl) ?_
  exact go_vret (pc := 68) rfl dX5_add_68
set_option maxRecDepth 100000 in
set_option maxHeartbeats 4000000 in
theorem cx_act_1_tt {l : Launch} {G : gG} (x2 : Int32) (x3 : Int32) (x4 : Int32) (x5 : Int32) (c0 : (if x2 < 0 then (1 : Int32) else (if x2 < 8 then (0 : Int32) else 1)) = 0) (c1 : (if x4 < 0 then (1 : Int32) else (if x4 < 8 then (0 : Int32) else 1)) = 0) : Ct l G mX9_act 1 26 [.ref (G.2.1 + 0), .int 1, .int x2, .int x3, .int x4, .int x5] 42 90324 (wl G.2.1 (LF G)) (some (.int 1), 42, 90324, (wl G.2.1 [ob 9 [.ref (G.2.1 + 1), .ref (G.2.1 + 23), .ref (G.2.1 + 27), .ref (G.2.1 + 28), .ref (G.2.1 + 22), .int 0, .int 0, .null, .int 0, .null, .int 0], ob 6 [.ref (G.2.1 + 2), .ref (G.2.1 + 6), .ref (G.2.1 + 12), .ref (G.2.1 + 14), .ref (G.2.1 + 17), .ref (G.2.1 + 20), .ref (G.2.1 + 21)], ob 2 [.int 256, .int 0, .int 0, .int 0, .ref (G.2.1 + 3), .ref (G.2.1 + 4), .ref (G.2.1 + 5)], ai G 256 (fun _ => 0), ai G 500 (fun _ => (-1)), ai G 500 (fun _ => 0), ob 3 [.int 0, .int 0, .int 0, .int 0, .ref (G.2.1 + 7), .ref (G.2.1 + 8), .ref (G.2.1 + 9), .ref (G.2.1 + 10), .ref (G.2.1 + 11)], ai G 500 (fun _ => 0), ai G 500 (fun _ => 0), ai G 500 (fun _ => 0), ai G 500 (fun _ => 0), ai G 500 (fun _ => 0), ob 8 [.int 0, .int 0, .int 0, .int 0, .int 0, .int 0, .ref (G.2.1 + 13)], ai G 300 (fun _ => 0), ob 4 [.int 0, .ref (G.2.1 + 15), .ref (G.2.1 + 16)], ai G 1295 (fun _ => 0), ai G 1295 (fun _ => 0), ob 5 [.int 1, .int 0, .int 0, .int 0, .ref (G.2.1 + 18), .ref (G.2.1 + 19)], ai G 200 (upd (upd (upd (upd (upd (fun _ => 0) (0 : Int32).toNatClampNeg 1) (1 : Int32).toNatClampNeg x2) (2 : Int32).toNatClampNeg x3) (3 : Int32).toNatClampNeg x4) (4 : Int32).toNatClampNeg x5), ai G 8 (fun _ => (-1)), ai G 24 (fun _ => (-1)), ai G 32 (fun _ => (-1)), ai G 14 (fun _ => 0), ob 7 [.ref (G.2.1 + 1), .ref (G.2.1 + 2), .ref (G.2.1 + 6), .ref (G.2.1 + 22), .ref (G.2.1 + 24), .int 0, .ref (G.2.1 + 25), .ref (G.2.1 + 26), .int 0], ai G 500 (fun _ => 0), ai G 500 (fun _ => 0), ai G 500 (fun _ => 0), ob 0 [.ref (G.2.1 + 1), .ref (G.2.1 + 2), .ref (G.2.1 + 23), .int 0], ob 1 [.ref (G.2.1 + 29), .int 0, .int 0, .ref (G.2.1 + 30), .ref (G.2.1 + 31)], ai G 0 (fun _ => 0), ai G 500 (fun _ => 0), ai G 501 (fun _ => 0), ob 10 [.ref (G.2.1 + 33), .ref (G.2.1 + 34), .ref (G.2.1 + 35), .int 0, .int 0, .int 0, .int 0, .int 0, .ref (G.2.1 + 36), .ref (G.2.1 + 37), .ref (G.2.1 + 38), .ref (G.2.1 + 39), .int 0, .ref (G.2.1 + 40), .int 0, .ref (G.2.1 + 41)], ai G 26100 (sx 256), ai G 26100 (fun _ => 0), ai G 26100 (fun _ => 0), ai G 14 (fun _ => 0), ai G 500 (fun _ => 0), ai G 500 (fun _ => 0), az G 500 (fun _ => 0), ai G 501 (fun _ => 0), ai G 500 (fun _ => 0)])) := by
  refine Ct.of (by decide) (Nat.le_of_ble_eq_true rfl) ⟨Nat.le_refl _, Nat.le_refl _⟩ ?_
  show Go l G mX9_act _ 0 [(0, .ref (G.2.1 + 0)), (1, .int 1), (2, .int x2), (3, .int x3), (4, .int x4), (5, .int x5)] [] 42 90324 (wl G.2.1 (LF G))
  refine go_iload_n (pc := 0) dX9_act_0 rfl rfl ?_
  refine go_if_lt_f (pc := 1) (tgt := 10) dX9_act_1 (by decide) (by decide) ?_
  refine go_iload_n (pc := 4) dX9_act_4 rfl rfl ?_
  refine go_bipush (pc := 5) (v := 12) dX9_act_5 (by decide) ?_
  refine go_icmp_le_t (pc := 7) (tgt := 13) dX9_act_7 (by decide) (by decide) ?_
  refine go_gets (pc := 13) (i := 5) (by decide) rfl tX9_280 dX9_act_13 ?_
  refine go_iload_n (pc := 16) dX9_act_16 rfl rfl ?_
  refine go_tald (pc := 17) (i := 5) (by decide) (gv_in (by decide)) dX9_act_17 ?_
  refine go_top (y := 8) (by decide) ?_
  refine go_iload_n (pc := 18) dX9_act_18 rfl rfl ?_
  refine go_callS_i (pc := 19) sX9_283 rfl (cX9_isNoName_1 x2) rfl rfl (Nat.le_of_ble_eq_true rfl) ⟨Nat.le_of_ble_eq_true rfl, Nat.le_of_ble_eq_true rfl, (Nat.le_add_right _ _), (Nat.le_add_right _ _)⟩ dX9_act_19 ?_
  refine go_if_ne_f (pc := 22) (tgt := 50) dX9_act_22 (by decide) c0 ?_
  refine go_gets (pc := 25) (i := 6) (by decide) rfl tX9_286 dX9_act_25 ?_
  refine go_iload_n (pc := 28) dX9_act_28 rfl rfl ?_
  refine go_tald (pc := 29) (i := 6) (by decide) (gv_in (by decide)) dX9_act_29 ?_
  refine go_top (y := 0) (by decide) ?_
  refine go_iload_n (pc := 30) dX9_act_30 rfl rfl ?_
  refine go_callS_i (pc := 31) sX9_283 rfl (cX9_isNoName_2 x3) rfl rfl (Nat.le_of_ble_eq_true rfl) ⟨Nat.le_of_ble_eq_true rfl, Nat.le_of_ble_eq_true rfl, (Nat.le_add_right _ _), (Nat.le_add_right _ _)⟩ dX9_act_31 ?_
  refine go_if_ne_f (pc := 34) (tgt := 50) dX9_act_34 (by decide) (by decide) ?_
  refine go_gets (pc := 37) (i := 7) (by decide) rfl tX9_289 dX9_act_37 ?_
  refine go_iload_n (pc := 40) dX9_act_40 rfl rfl ?_
  refine go_tald (pc := 41) (i := 7) (by decide) (gv_in (by decide)) dX9_act_41 ?_
  refine go_top (y := 8) (by decide) ?_
  refine go_iload (pc := 42) dX9_act_42 rfl ?_
  refine go_callS_i (pc := 44) sX9_283 rfl (cX9_isNoName_4 x4) rfl rfl (Nat.le_of_ble_eq_true rfl) ⟨Nat.le_of_ble_eq_true rfl, Nat.le_of_ble_eq_true rfl, (Nat.le_add_right _ _), (Nat.le_add_right _ _)⟩ dX9_act_44 ?_
  refine go_if_eq_t (pc := 47) (tgt := 53) dX9_act_47 (by decide) c1 ?_
  refine go_iload_n (pc := 53) dX9_act_53 rfl rfl ?_
  refine go_if_ne_t (pc := 54) (tgt := 66) dX9_act_54 (by decide) (by decide) ?_
  refine go_iload_n (pc := 66) dX9_act_66 rfl rfl ?_
  refine go_bipush (pc := 67) (v := 9) dX9_act_67 (by decide) ?_
  refine go_icmp_ne_t (pc := 69) (tgt := 86) dX9_act_69 (by decide) (by decide) ?_
  refine go_aload_n (pc := 86) dX9_act_86 rfl rfl ?_
  refine go_get (pc := 87) fX9_12 rfl (gz_b (by decide)) (wl_at (i := 0) rfl) rfl dX9_act_87 ?_
  refine go_get (pc := 90) fX9_236 rfl (gz_b (by decide)) (wl_at (i := 1) rfl) rfl dX9_act_90 ?_
  refine go_get (pc := 93) fX9_240 rfl (gz_b (by decide)) (wl_at (i := 17) rfl) rfl dX9_act_93 ?_
  refine go_bipush (pc := 96) (v := 40) dX9_act_96 (by decide) ?_
  refine go_icmp_lt_t (pc := 98) (tgt := 104) dX9_act_98 (by decide) (by decide) ?_
  refine go_aload_n (pc := 104) dX9_act_104 rfl rfl ?_
  refine go_get (pc := 105) fX9_12 rfl (gz_b (by decide)) (wl_at (i := 0) rfl) rfl dX9_act_105 ?_
  refine go_get (pc := 108) fX9_236 rfl (gz_b (by decide)) (wl_at (i := 1) rfl) rfl dX9_act_108 ?_
  refine go_iload_n (pc := 111) dX9_act_111 rfl rfl ?_
  refine go_iload_n (pc := 112) dX9_act_112 rfl rfl ?_
  refine go_iload_n (pc := 113) dX9_act_113 rfl rfl ?_
  refine go_iload (pc := 114) dX9_act_114 rfl ?_
  refine go_iload (pc := 116) dX9_act_116 rfl ?_
  refine go_callV_v (pc := 118) vX9_292 rfl (cX5_add_2 x2 x3 x4 x5) rfl rfl (gz_b (by decide)) (wl_at (i := 17) rfl) rfl (Nat.le_of_ble_eq_true rfl) ⟨Nat.le_of_ble_eq_true rfl, Nat.le_of_ble_eq_true rfl, (Nat.le_add_right _ _), (Nat.le_add_right _ _)⟩ dX9_act_118 ?_
  refine go_aload_n (pc := 121) dX9_act_121 rfl rfl ?_
  refine go_get (pc := 122) fX9_12 rfl (gz_b (by decide)) (wl_at (i := 0) rfl) rfl dX9_act_122 ?_
  refine go_get (pc := 125) fX9_236 rfl (gz_b (by decide)) (wl_at (i := 1) rfl) rfl dX9_act_125 ?_
  refine go_get (pc := 128) fX9_240 rfl (gz_b (by decide)) (wl_at (i := 17) rfl) rfl dX9_act_128 ?_
  exact go_iret (pc := 131) rfl dX9_act_131
set_option maxRecDepth 100000 in
set_option maxHeartbeats 4000000 in
theorem cx_act_1_tf {l : Launch} {G : gG} (x2 : Int32) (x3 : Int32) (x4 : Int32) (x5 : Int32) (c0 : (if x2 < 0 then (1 : Int32) else (if x2 < 8 then (0 : Int32) else 1)) = 0) (c1 : ¬ (if x4 < 0 then (1 : Int32) else (if x4 < 8 then (0 : Int32) else 1)) = 0) : Ct l G mX9_act 1 21 [.ref (G.2.1 + 0), .int 1, .int x2, .int x3, .int x4, .int x5] 42 90324 (wl G.2.1 (LF G)) (some (.int ((-101))), 42, 90324, (wl G.2.1 (LF G))) := by
  refine Ct.of (by decide) (Nat.le_of_ble_eq_true rfl) ⟨Nat.le_refl _, Nat.le_refl _⟩ ?_
  show Go l G mX9_act _ 0 [(0, .ref (G.2.1 + 0)), (1, .int 1), (2, .int x2), (3, .int x3), (4, .int x4), (5, .int x5)] [] 42 90324 (wl G.2.1 (LF G))
  refine go_iload_n (pc := 0) dX9_act_0 rfl rfl ?_
  refine go_if_lt_f (pc := 1) (tgt := 10) dX9_act_1 (by decide) (by decide) ?_
  refine go_iload_n (pc := 4) dX9_act_4 rfl rfl ?_
  refine go_bipush (pc := 5) (v := 12) dX9_act_5 (by decide) ?_
  refine go_icmp_le_t (pc := 7) (tgt := 13) dX9_act_7 (by decide) (by decide) ?_
  refine go_gets (pc := 13) (i := 5) (by decide) rfl tX9_280 dX9_act_13 ?_
  refine go_iload_n (pc := 16) dX9_act_16 rfl rfl ?_
  refine go_tald (pc := 17) (i := 5) (by decide) (gv_in (by decide)) dX9_act_17 ?_
  refine go_top (y := 8) (by decide) ?_
  refine go_iload_n (pc := 18) dX9_act_18 rfl rfl ?_
  refine go_callS_i (pc := 19) sX9_283 rfl (cX9_isNoName_1 x2) rfl rfl (Nat.le_of_ble_eq_true rfl) ⟨Nat.le_of_ble_eq_true rfl, Nat.le_of_ble_eq_true rfl, (Nat.le_add_right _ _), (Nat.le_add_right _ _)⟩ dX9_act_19 ?_
  refine go_if_ne_f (pc := 22) (tgt := 50) dX9_act_22 (by decide) c0 ?_
  refine go_gets (pc := 25) (i := 6) (by decide) rfl tX9_286 dX9_act_25 ?_
  refine go_iload_n (pc := 28) dX9_act_28 rfl rfl ?_
  refine go_tald (pc := 29) (i := 6) (by decide) (gv_in (by decide)) dX9_act_29 ?_
  refine go_top (y := 0) (by decide) ?_
  refine go_iload_n (pc := 30) dX9_act_30 rfl rfl ?_
  refine go_callS_i (pc := 31) sX9_283 rfl (cX9_isNoName_2 x3) rfl rfl (Nat.le_of_ble_eq_true rfl) ⟨Nat.le_of_ble_eq_true rfl, Nat.le_of_ble_eq_true rfl, (Nat.le_add_right _ _), (Nat.le_add_right _ _)⟩ dX9_act_31 ?_
  refine go_if_ne_f (pc := 34) (tgt := 50) dX9_act_34 (by decide) (by decide) ?_
  refine go_gets (pc := 37) (i := 7) (by decide) rfl tX9_289 dX9_act_37 ?_
  refine go_iload_n (pc := 40) dX9_act_40 rfl rfl ?_
  refine go_tald (pc := 41) (i := 7) (by decide) (gv_in (by decide)) dX9_act_41 ?_
  refine go_top (y := 8) (by decide) ?_
  refine go_iload (pc := 42) dX9_act_42 rfl ?_
  refine go_callS_i (pc := 44) sX9_283 rfl (cX9_isNoName_4 x4) rfl rfl (Nat.le_of_ble_eq_true rfl) ⟨Nat.le_of_ble_eq_true rfl, Nat.le_of_ble_eq_true rfl, (Nat.le_add_right _ _), (Nat.le_add_right _ _)⟩ dX9_act_44 ?_
  refine go_if_eq_f (pc := 47) (tgt := 53) dX9_act_47 (by decide) c1 ?_
  refine go_bipush (pc := 50) (v := (-101)) dX9_act_50 (by decide) ?_
  exact go_iret (pc := 52) rfl dX9_act_52
set_option maxRecDepth 100000 in
set_option maxHeartbeats 4000000 in
theorem cx_act_1_f {l : Launch} {G : gG} (x2 : Int32) (x3 : Int32) (x4 : Int32) (x5 : Int32) (c0 : ¬ (if x2 < 0 then (1 : Int32) else (if x2 < 8 then (0 : Int32) else 1)) = 0) : Ct l G mX9_act 1 21 [.ref (G.2.1 + 0), .int 1, .int x2, .int x3, .int x4, .int x5] 42 90324 (wl G.2.1 (LF G)) (some (.int ((-101))), 42, 90324, (wl G.2.1 (LF G))) := by
  refine Ct.of (by decide) (Nat.le_of_ble_eq_true rfl) ⟨Nat.le_refl _, Nat.le_refl _⟩ ?_
  show Go l G mX9_act _ 0 [(0, .ref (G.2.1 + 0)), (1, .int 1), (2, .int x2), (3, .int x3), (4, .int x4), (5, .int x5)] [] 42 90324 (wl G.2.1 (LF G))
  refine go_iload_n (pc := 0) dX9_act_0 rfl rfl ?_
  refine go_if_lt_f (pc := 1) (tgt := 10) dX9_act_1 (by decide) (by decide) ?_
  refine go_iload_n (pc := 4) dX9_act_4 rfl rfl ?_
  refine go_bipush (pc := 5) (v := 12) dX9_act_5 (by decide) ?_
  refine go_icmp_le_t (pc := 7) (tgt := 13) dX9_act_7 (by decide) (by decide) ?_
  refine go_gets (pc := 13) (i := 5) (by decide) rfl tX9_280 dX9_act_13 ?_
  refine go_iload_n (pc := 16) dX9_act_16 rfl rfl ?_
  refine go_tald (pc := 17) (i := 5) (by decide) (gv_in (by decide)) dX9_act_17 ?_
  refine go_top (y := 8) (by decide) ?_
  refine go_iload_n (pc := 18) dX9_act_18 rfl rfl ?_
  refine go_callS_i (pc := 19) sX9_283 rfl (cX9_isNoName_1 x2) rfl rfl (Nat.le_of_ble_eq_true rfl) ⟨Nat.le_of_ble_eq_true rfl, Nat.le_of_ble_eq_true rfl, (Nat.le_add_right _ _), (Nat.le_add_right _ _)⟩ dX9_act_19 ?_
  refine go_if_ne_t (pc := 22) (tgt := 50) dX9_act_22 (by decide) c0 ?_
  refine go_bipush (pc := 50) (v := (-101)) dX9_act_50 (by decide) ?_
  exact go_iret (pc := 52) rfl dX9_act_52
theorem cx_act_1 {l : Launch} {G : gG} (x2 : Int32) (x3 : Int32) (x4 : Int32) (x5 : Int32) : CX l G mX9_act [.ref (G.2.1 + 0), .int 1, .int x2, .int x3, .int x4, .int x5] ((if (if x2 < 0 then (1 : Int32) else (if x2 < 8 then (0 : Int32) else 1)) = 0 then (if (if x4 < 0 then (1 : Int32) else (if x4 < 8 then (0 : Int32) else 1)) = 0 then 1 else (-101)) else (-101))) := by
  by_cases c0 : (if x2 < 0 then (1 : Int32) else (if x2 < 8 then (0 : Int32) else 1)) = 0
  · rw [if_pos c0]
    by_cases c1 : (if x4 < 0 then (1 : Int32) else (if x4 < 8 then (0 : Int32) else 1)) = 0
    · rw [if_pos c1]
      exact ⟨1, 26, 42, 90324, _, by decide, by decide, by decide, by decide, by decide, (by exact wl_frame rfl), cx_act_1_tt x2 x3 x4 x5 c0 c1⟩
    · rw [if_neg c1]
      exact ⟨1, 21, 42, 90324, _, by decide, by decide, by decide, by decide, by decide, (by exact wl_frame rfl), cx_act_1_tf x2 x3 x4 x5 c0 c1⟩
  · rw [if_neg c0]
    exact ⟨1, 21, 42, 90324, _, by decide, by decide, by decide, by decide, by decide, (by exact wl_frame rfl), cx_act_1_f x2 x3 x4 x5 c0⟩
set_option maxRecDepth 100000 in
set_option maxHeartbeats 4000000 in
theorem cX5_add_3 {l : Launch} {G : gG} (x2 : Int32) (x3 : Int32) (x4 : Int32) (x5 : Int32) : Ct l G mX5_add 0 0 [.ref (G.2.1 + 17), .int 2, .int x2, .int x3, .int x4, .int x5] 42 90324 (wl G.2.1 (LF G)) (none, 42, 90324, (wl G.2.1 [ob 9 [.ref (G.2.1 + 1), .ref (G.2.1 + 23), .ref (G.2.1 + 27), .ref (G.2.1 + 28), .ref (G.2.1 + 22), .int 0, .int 0, .null, .int 0, .null, .int 0], ob 6 [.ref (G.2.1 + 2), .ref (G.2.1 + 6), .ref (G.2.1 + 12), .ref (G.2.1 + 14), .ref (G.2.1 + 17), .ref (G.2.1 + 20), .ref (G.2.1 + 21)], ob 2 [.int 256, .int 0, .int 0, .int 0, .ref (G.2.1 + 3), .ref (G.2.1 + 4), .ref (G.2.1 + 5)], ai G 256 (fun _ => 0), ai G 500 (fun _ => (-1)), ai G 500 (fun _ => 0), ob 3 [.int 0, .int 0, .int 0, .int 0, .ref (G.2.1 + 7), .ref (G.2.1 + 8), .ref (G.2.1 + 9), .ref (G.2.1 + 10), .ref (G.2.1 + 11)], ai G 500 (fun _ => 0), ai G 500 (fun _ => 0), ai G 500 (fun _ => 0), ai G 500 (fun _ => 0), ai G 500 (fun _ => 0), ob 8 [.int 0, .int 0, .int 0, .int 0, .int 0, .int 0, .ref (G.2.1 + 13)], ai G 300 (fun _ => 0), ob 4 [.int 0, .ref (G.2.1 + 15), .ref (G.2.1 + 16)], ai G 1295 (fun _ => 0), ai G 1295 (fun _ => 0), ob 5 [.int 1, .int 0, .int 0, .int 0, .ref (G.2.1 + 18), .ref (G.2.1 + 19)], ai G 200 (upd (upd (upd (upd (upd (fun _ => 0) (0 : Int32).toNatClampNeg 2) (1 : Int32).toNatClampNeg x2) (2 : Int32).toNatClampNeg x3) (3 : Int32).toNatClampNeg x4) (4 : Int32).toNatClampNeg x5), ai G 8 (fun _ => (-1)), ai G 24 (fun _ => (-1)), ai G 32 (fun _ => (-1)), ai G 14 (fun _ => 0), ob 7 [.ref (G.2.1 + 1), .ref (G.2.1 + 2), .ref (G.2.1 + 6), .ref (G.2.1 + 22), .ref (G.2.1 + 24), .int 0, .ref (G.2.1 + 25), .ref (G.2.1 + 26), .int 0], ai G 500 (fun _ => 0), ai G 500 (fun _ => 0), ai G 500 (fun _ => 0), ob 0 [.ref (G.2.1 + 1), .ref (G.2.1 + 2), .ref (G.2.1 + 23), .int 0], ob 1 [.ref (G.2.1 + 29), .int 0, .int 0, .ref (G.2.1 + 30), .ref (G.2.1 + 31)], ai G 0 (fun _ => 0), ai G 500 (fun _ => 0), ai G 501 (fun _ => 0), ob 10 [.ref (G.2.1 + 33), .ref (G.2.1 + 34), .ref (G.2.1 + 35), .int 0, .int 0, .int 0, .int 0, .int 0, .ref (G.2.1 + 36), .ref (G.2.1 + 37), .ref (G.2.1 + 38), .ref (G.2.1 + 39), .int 0, .ref (G.2.1 + 40), .int 0, .ref (G.2.1 + 41)], ai G 26100 (sx 256), ai G 26100 (fun _ => 0), ai G 26100 (fun _ => 0), ai G 14 (fun _ => 0), ai G 500 (fun _ => 0), ai G 500 (fun _ => 0), az G 500 (fun _ => 0), ai G 501 (fun _ => 0), ai G 500 (fun _ => 0)])) := by
  refine Ct.of (by decide) (Nat.le_of_ble_eq_true rfl) ⟨Nat.le_refl _, Nat.le_refl _⟩ ?_
  show Go l G mX5_add _ 0 [(0, .ref (G.2.1 + 17)), (1, .int 2), (2, .int x2), (3, .int x3), (4, .int x4), (5, .int x5)] [] 42 90324 (wl G.2.1 (LF G))
  refine go_aload_n (pc := 0) dX5_add_0 rfl rfl ?_
  refine go_get (pc := 1) fX5_18 rfl (gz_b (by decide)) (wl_at (i := 17) rfl) rfl dX5_add_1 ?_
  refine go_iconst (pc := 4) (v := 5) dX5_add_4 (by decide) ?_
  refine go_imul (pc := 5) dX5_add_5 ?_
  refine go_top (y := 0) (by decide) ?_
  refine go_istore (pc := 6) (lv' := [(6, .int 0), (0, .ref (G.2.1 + 17)), (1, .int 2), (2, .int x2), (3, .int x3), (4, .int x4), (5, .int x5)]) dX5_add_6 (by decide) rfl ?_
  refine go_aload_n (pc := 8) dX5_add_8 rfl rfl ?_
  refine go_get (pc := 9) fX5_9 rfl (gz_b (by decide)) (wl_at (i := 17) rfl) rfl dX5_add_9 ?_
  refine go_iload (pc := 12) dX5_add_12 rfl ?_
  refine go_iload_n (pc := 14) dX5_add_14 rfl rfl ?_
  refine go_iast (pc := 15) (gz_b (by decide)) (wl_at (i := 18) rfl) (gv_in (by decide)) dX5_add_15 ?_
  refine go_ext (wl_up (i := 18) rfl rfl) ?_
  refine go_aload_n (pc := 16) dX5_add_16 rfl rfl ?_
  refine go_get (pc := 17) fX5_9 rfl (gz_b (by decide)) (wl_at (i := 17) rfl) rfl dX5_add_17 ?_
  refine go_iload (pc := 20) dX5_add_20 rfl ?_
  refine go_iconst (pc := 22) (v := 1) dX5_add_22 (by decide) ?_
  refine go_iadd (pc := 23) dX5_add_23 ?_
  refine go_top (y := 1) (by decide) ?_
  refine go_iload_n (pc := 24) dX5_add_24 rfl rfl ?_
  refine go_iast (pc := 25) (gz_b (by decide)) (wl_at (i := 18) rfl) (gv_in (by decide)) dX5_add_25 ?_
  refine go_ext (wl_up (i := 18) rfl rfl) ?_
  refine go_aload_n (pc := 26) dX5_add_26 rfl rfl ?_
  refine go_get (pc := 27) fX5_9 rfl (gz_b (by decide)) (wl_at (i := 17) rfl) rfl dX5_add_27 ?_
  refine go_iload (pc := 30) dX5_add_30 rfl ?_
  refine go_iconst (pc := 32) (v := 2) dX5_add_32 (by decide) ?_
  refine go_iadd (pc := 33) dX5_add_33 ?_
  refine go_top (y := 2) (by decide) ?_
  refine go_iload_n (pc := 34) dX5_add_34 rfl rfl ?_
  refine go_iast (pc := 35) (gz_b (by decide)) (wl_at (i := 18) rfl) (gv_in (by decide)) dX5_add_35 ?_
  refine go_ext (wl_up (i := 18) rfl rfl) ?_
  refine go_aload_n (pc := 36) dX5_add_36 rfl rfl ?_
  refine go_get (pc := 37) fX5_9 rfl (gz_b (by decide)) (wl_at (i := 17) rfl) rfl dX5_add_37 ?_
  refine go_iload (pc := 40) dX5_add_40 rfl ?_
  refine go_iconst (pc := 42) (v := 3) dX5_add_42 (by decide) ?_
  refine go_iadd (pc := 43) dX5_add_43 ?_
  refine go_top (y := 3) (by decide) ?_
  refine go_iload (pc := 44) dX5_add_44 rfl ?_
  refine go_iast (pc := 46) (gz_b (by decide)) (wl_at (i := 18) rfl) (gv_in (by decide)) dX5_add_46 ?_
  refine go_ext (wl_up (i := 18) rfl rfl) ?_
  refine go_aload_n (pc := 47) dX5_add_47 rfl rfl ?_
  refine go_get (pc := 48) fX5_9 rfl (gz_b (by decide)) (wl_at (i := 17) rfl) rfl dX5_add_48 ?_
  refine go_iload (pc := 51) dX5_add_51 rfl ?_
  refine go_iconst (pc := 53) (v := 4) dX5_add_53 (by decide) ?_
  refine go_iadd (pc := 54) dX5_add_54 ?_
  refine go_top (y := 4) (by decide) ?_
  refine go_iload (pc := 55) dX5_add_55 rfl ?_
  refine go_iast (pc := 57) (gz_b (by decide)) (wl_at (i := 18) rfl) (gv_in (by decide)) dX5_add_57 ?_
  refine go_ext (wl_up (i := 18) rfl rfl) ?_
  refine go_aload_n (pc := 58) dX5_add_58 rfl rfl ?_
  refine go_dup (pc := 59) dX5_add_59 rfl ?_
  refine go_get (pc := 60) fX5_18 rfl (gz_b (by decide)) (wl_at (i := 17) rfl) rfl dX5_add_60 ?_
  refine go_iconst (pc := 63) (v := 1) dX5_add_63 (by decide) ?_
  refine go_iadd (pc := 64) dX5_add_64 ?_
  refine go_top (y := 1) (by decide) ?_
  refine go_put (pc := 65) fX5_18 rfl (gz_b (by decide)) (wl_at (i := 17) rfl) (Nat.le_of_ble_eq_true rfl) rfl rfl dX5_add_65 ?_
  refine go_ext (wl_up (i := 17) rfl rfl) ?_
  refine go_w (show _ = wl G.2.1 [ob 9 [.ref (G.2.1 + 1), .ref (G.2.1 + 23), .ref (G.2.1 + 27), .ref (G.2.1 + 28), .ref (G.2.1 + 22), .int 0, .int 0, .null, .int 0, .null, .int 0], ob 6 [.ref (G.2.1 + 2), .ref (G.2.1 + 6), .ref (G.2.1 + 12), .ref (G.2.1 + 14), .ref (G.2.1 + 17), .ref (G.2.1 + 20), .ref (G.2.1 + 21)], ob 2 [.int 256, .int 0, .int 0, .int 0, .ref (G.2.1 + 3), .ref (G.2.1 + 4), .ref (G.2.1 + 5)], ai G 256 (fun _ => 0), ai G 500 (fun _ => (-1)), ai G 500 (fun _ => 0), ob 3 [.int 0, .int 0, .int 0, .int 0, .ref (G.2.1 + 7), .ref (G.2.1 + 8), .ref (G.2.1 + 9), .ref (G.2.1 + 10), .ref (G.2.1 + 11)], ai G 500 (fun _ => 0), ai G 500 (fun _ => 0), ai G 500 (fun _ => 0), ai G 500 (fun _ => 0), ai G 500 (fun _ => 0), ob 8 [.int 0, .int 0, .int 0, .int 0, .int 0, .int 0, .ref (G.2.1 + 13)], ai G 300 (fun _ => 0), ob 4 [.int 0, .ref (G.2.1 + 15), .ref (G.2.1 + 16)], ai G 1295 (fun _ => 0), ai G 1295 (fun _ => 0), ob 5 [.int 1, .int 0, .int 0, .int 0, .ref (G.2.1 + 18), .ref (G.2.1 + 19)], ai G 200 (upd (upd (upd (upd (upd (fun _ => 0) (0 : Int32).toNatClampNeg 2) (1 : Int32).toNatClampNeg x2) (2 : Int32).toNatClampNeg x3) (3 : Int32).toNatClampNeg x4) (4 : Int32).toNatClampNeg x5), ai G 8 (fun _ => (-1)), ai G 24 (fun _ => (-1)), ai G 32 (fun _ => (-1)), ai G 14 (fun _ => 0), ob 7 [.ref (G.2.1 + 1), .ref (G.2.1 + 2), .ref (G.2.1 + 6), .ref (G.2.1 + 22), .ref (G.2.1 + 24), .int 0, .ref (G.2.1 + 25), .ref (G.2.1 + 26), .int 0], ai G 500 (fun _ => 0), ai G 500 (fun _ => 0), ai G 500 (fun _ => 0), ob 0 [.ref (G.2.1 + 1), .ref (G.2.1 + 2), .ref (G.2.1 + 23), .int 0], ob 1 [.ref (G.2.1 + 29), .int 0, .int 0, .ref (G.2.1 + 30), .ref (G.2.1 + 31)], ai G 0 (fun _ => 0), ai G 500 (fun _ => 0), ai G 501 (fun _ => 0), ob 10 [.ref (G.2.1 + 33), .ref (G.2.1 + 34), .ref (G.2.1 + 35), .int 0, .int 0, .int 0, .int 0, .int 0, .ref (G.2.1 + 36), .ref (G.2.1 + 37), .ref (G.2.1 + 38), .ref (G.2.1 + 39), .int 0, .ref (G.2.1 + 40), .int 0, .ref (G.2.1 + 41)], ai G 26100 (sx 256), ai G 26100 (fun _ => 0), ai G 26100 (fun _ => 0), ai G 14 (fun _ => 0), ai G 500 (fun _ => 0), ai G 500 (fun _ => 0), az G 500 (fun _ => 0), ai G 501 (fun _ => 0), ai G 500 (fun _ => 0)] from rfl) ?_
  exact go_vret (pc := 68) rfl dX5_add_68
set_option maxRecDepth 100000 in
set_option maxHeartbeats 4000000 in
theorem cx_act_2_tt {l : Launch} {G : gG} (x2 : Int32) (x3 : Int32) (x4 : Int32) (x5 : Int32) (c0 : (if x2 < 0 then (1 : Int32) else (if x2 < 8 then (0 : Int32) else 1)) = 0) (c1 : (if x4 < 0 then (1 : Int32) else (if x4 < 8 then (0 : Int32) else 1)) = 0) : Ct l G mX9_act 1 26 [.ref (G.2.1 + 0), .int 2, .int x2, .int x3, .int x4, .int x5] 42 90324 (wl G.2.1 (LF G)) (some (.int 1), 42, 90324, (wl G.2.1 [ob 9 [.ref (G.2.1 + 1), .ref (G.2.1 + 23), .ref (G.2.1 + 27), .ref (G.2.1 + 28), .ref (G.2.1 + 22), .int 0, .int 0, .null, .int 0, .null, .int 0], ob 6 [.ref (G.2.1 + 2), .ref (G.2.1 + 6), .ref (G.2.1 + 12), .ref (G.2.1 + 14), .ref (G.2.1 + 17), .ref (G.2.1 + 20), .ref (G.2.1 + 21)], ob 2 [.int 256, .int 0, .int 0, .int 0, .ref (G.2.1 + 3), .ref (G.2.1 + 4), .ref (G.2.1 + 5)], ai G 256 (fun _ => 0), ai G 500 (fun _ => (-1)), ai G 500 (fun _ => 0), ob 3 [.int 0, .int 0, .int 0, .int 0, .ref (G.2.1 + 7), .ref (G.2.1 + 8), .ref (G.2.1 + 9), .ref (G.2.1 + 10), .ref (G.2.1 + 11)], ai G 500 (fun _ => 0), ai G 500 (fun _ => 0), ai G 500 (fun _ => 0), ai G 500 (fun _ => 0), ai G 500 (fun _ => 0), ob 8 [.int 0, .int 0, .int 0, .int 0, .int 0, .int 0, .ref (G.2.1 + 13)], ai G 300 (fun _ => 0), ob 4 [.int 0, .ref (G.2.1 + 15), .ref (G.2.1 + 16)], ai G 1295 (fun _ => 0), ai G 1295 (fun _ => 0), ob 5 [.int 1, .int 0, .int 0, .int 0, .ref (G.2.1 + 18), .ref (G.2.1 + 19)], ai G 200 (upd (upd (upd (upd (upd (fun _ => 0) (0 : Int32).toNatClampNeg 2) (1 : Int32).toNatClampNeg x2) (2 : Int32).toNatClampNeg x3) (3 : Int32).toNatClampNeg x4) (4 : Int32).toNatClampNeg x5), ai G 8 (fun _ => (-1)), ai G 24 (fun _ => (-1)), ai G 32 (fun _ => (-1)), ai G 14 (fun _ => 0), ob 7 [.ref (G.2.1 + 1), .ref (G.2.1 + 2), .ref (G.2.1 + 6), .ref (G.2.1 + 22), .ref (G.2.1 + 24), .int 0, .ref (G.2.1 + 25), .ref (G.2.1 + 26), .int 0], ai G 500 (fun _ => 0), ai G 500 (fun _ => 0), ai G 500 (fun _ => 0), ob 0 [.ref (G.2.1 + 1), .ref (G.2.1 + 2), .ref (G.2.1 + 23), .int 0], ob 1 [.ref (G.2.1 + 29), .int 0, .int 0, .ref (G.2.1 + 30), .ref (G.2.1 + 31)], ai G 0 (fun _ => 0), ai G 500 (fun _ => 0), ai G 501 (fun _ => 0), ob 10 [.ref (G.2.1 + 33), .ref (G.2.1 + 34), .ref (G.2.1 + 35), .int 0, .int 0, .int 0, .int 0, .int 0, .ref (G.2.1 + 36), .ref (G.2.1 + 37), .ref (G.2.1 + 38), .ref (G.2.1 + 39), .int 0, .ref (G.2.1 + 40), .int 0, .ref (G.2.1 + 41)], ai G 26100 (sx 256), ai G 26100 (fun _ => 0), ai G 26100 (fun _ => 0), ai G 14 (fun _ => 0), ai G 500 (fun _ => 0), ai G 500 (fun _ => 0), az G 500 (fun _ => 0), ai G 501 (fun _ => 0), ai G 500 (fun _ => 0)])) := by
  refine Ct.of (by decide) (Nat.le_of_ble_eq_true rfl) ⟨Nat.le_refl _, Nat.le_refl _⟩ ?_
  show Go l G mX9_act _ 0 [(0, .ref (G.2.1 + 0)), (1, .int 2), (2, .int x2), (3, .int x3), (4, .int x4), (5, .int x5)] [] 42 90324 (wl G.2.1 (LF G))
  refine go_iload_n (pc := 0) dX9_act_0 rfl rfl ?_
  refine go_if_lt_f (pc := 1) (tgt := 10) dX9_act_1 (by decide) (by decide) ?_
  refine go_iload_n (pc := 4) dX9_act_4 rfl rfl ?_
  refine go_bipush (pc := 5) (v := 12) dX9_act_5 (by decide) ?_
  refine go_icmp_le_t (pc := 7) (tgt := 13) dX9_act_7 (by decide) (by decide) ?_
  refine go_gets (pc := 13) (i := 5) (by decide) rfl tX9_280 dX9_act_13 ?_
  refine go_iload_n (pc := 16) dX9_act_16 rfl rfl ?_
  refine go_tald (pc := 17) (i := 5) (by decide) (gv_in (by decide)) dX9_act_17 ?_
  refine go_top (y := 8) (by decide) ?_
  refine go_iload_n (pc := 18) dX9_act_18 rfl rfl ?_
  refine go_callS_i (pc := 19) sX9_283 rfl (cX9_isNoName_1 x2) rfl rfl (Nat.le_of_ble_eq_true rfl) ⟨Nat.le_of_ble_eq_true rfl, Nat.le_of_ble_eq_true rfl, (Nat.le_add_right _ _), (Nat.le_add_right _ _)⟩ dX9_act_19 ?_
  refine go_if_ne_f (pc := 22) (tgt := 50) dX9_act_22 (by decide) c0 ?_
  refine go_gets (pc := 25) (i := 6) (by decide) rfl tX9_286 dX9_act_25 ?_
  refine go_iload_n (pc := 28) dX9_act_28 rfl rfl ?_
  refine go_tald (pc := 29) (i := 6) (by decide) (gv_in (by decide)) dX9_act_29 ?_
  refine go_top (y := 0) (by decide) ?_
  refine go_iload_n (pc := 30) dX9_act_30 rfl rfl ?_
  refine go_callS_i (pc := 31) sX9_283 rfl (cX9_isNoName_2 x3) rfl rfl (Nat.le_of_ble_eq_true rfl) ⟨Nat.le_of_ble_eq_true rfl, Nat.le_of_ble_eq_true rfl, (Nat.le_add_right _ _), (Nat.le_add_right _ _)⟩ dX9_act_31 ?_
  refine go_if_ne_f (pc := 34) (tgt := 50) dX9_act_34 (by decide) (by decide) ?_
  refine go_gets (pc := 37) (i := 7) (by decide) rfl tX9_289 dX9_act_37 ?_
  refine go_iload_n (pc := 40) dX9_act_40 rfl rfl ?_
  refine go_tald (pc := 41) (i := 7) (by decide) (gv_in (by decide)) dX9_act_41 ?_
  refine go_top (y := 8) (by decide) ?_
  refine go_iload (pc := 42) dX9_act_42 rfl ?_
  refine go_callS_i (pc := 44) sX9_283 rfl (cX9_isNoName_4 x4) rfl rfl (Nat.le_of_ble_eq_true rfl) ⟨Nat.le_of_ble_eq_true rfl, Nat.le_of_ble_eq_true rfl, (Nat.le_add_right _ _), (Nat.le_add_right _ _)⟩ dX9_act_44 ?_
  refine go_if_eq_t (pc := 47) (tgt := 53) dX9_act_47 (by decide) c1 ?_
  refine go_iload_n (pc := 53) dX9_act_53 rfl rfl ?_
  refine go_if_ne_t (pc := 54) (tgt := 66) dX9_act_54 (by decide) (by decide) ?_
  refine go_iload_n (pc := 66) dX9_act_66 rfl rfl ?_
  refine go_bipush (pc := 67) (v := 9) dX9_act_67 (by decide) ?_
  refine go_icmp_ne_t (pc := 69) (tgt := 86) dX9_act_69 (by decide) (by decide) ?_
  refine go_aload_n (pc := 86) dX9_act_86 rfl rfl ?_
  refine go_get (pc := 87) fX9_12 rfl (gz_b (by decide)) (wl_at (i := 0) rfl) rfl dX9_act_87 ?_
  refine go_get (pc := 90) fX9_236 rfl (gz_b (by decide)) (wl_at (i := 1) rfl) rfl dX9_act_90 ?_
  refine go_get (pc := 93) fX9_240 rfl (gz_b (by decide)) (wl_at (i := 17) rfl) rfl dX9_act_93 ?_
  refine go_bipush (pc := 96) (v := 40) dX9_act_96 (by decide) ?_
  refine go_icmp_lt_t (pc := 98) (tgt := 104) dX9_act_98 (by decide) (by decide) ?_
  refine go_aload_n (pc := 104) dX9_act_104 rfl rfl ?_
  refine go_get (pc := 105) fX9_12 rfl (gz_b (by decide)) (wl_at (i := 0) rfl) rfl dX9_act_105 ?_
  refine go_get (pc := 108) fX9_236 rfl (gz_b (by decide)) (wl_at (i := 1) rfl) rfl dX9_act_108 ?_
  refine go_iload_n (pc := 111) dX9_act_111 rfl rfl ?_
  refine go_iload_n (pc := 112) dX9_act_112 rfl rfl ?_
  refine go_iload_n (pc := 113) dX9_act_113 rfl rfl ?_
  refine go_iload (pc := 114) dX9_act_114 rfl ?_
  refine go_iload (pc := 116) dX9_act_116 rfl ?_
  refine go_callV_v (pc := 118) vX9_292 rfl (cX5_add_3 x2 x3 x4 x5) rfl rfl (gz_b (by decide)) (wl_at (i := 17) rfl) rfl (Nat.le_of_ble_eq_true rfl) ⟨Nat.le_of_ble_eq_true rfl, Nat.le_of_ble_eq_true rfl, (Nat.le_add_right _ _), (Nat.le_add_right _ _)⟩ dX9_act_118 ?_
  refine go_aload_n (pc := 121) dX9_act_121 rfl rfl ?_
  refine go_get (pc := 122) fX9_12 rfl (gz_b (by decide)) (wl_at (i := 0) rfl) rfl dX9_act_122 ?_
  refine go_get (pc := 125) fX9_236 rfl (gz_b (by decide)) (wl_at (i := 1) rfl) rfl dX9_act_125 ?_
  refine go_get (pc := 128) fX9_240 rfl (gz_b (by decide)) (wl_at (i := 17) rfl) rfl dX9_act_128 ?_
  exact go_iret (pc := 131) rfl dX9_act_131
set_option maxRecDepth 100000 in
set_option maxHeartbeats 4000000 in
theorem cx_act_2_tf {l : Launch} {G : gG} (x2 : Int32) (x3 : Int32) (x4 : Int32) (x5 : Int32) (c0 : (if x2 < 0 then (1 : Int32) else (if x2 < 8 then (0 : Int32) else 1)) = 0) (c1 : ¬ (if x4 < 0 then (1 : Int32) else (if x4 < 8 then (0 : Int32) else 1)) = 0) : Ct l G mX9_act 1 21 [.ref (G.2.1 + 0), .int 2, .int x2, .int x3, .int x4, .int x5] 42 90324 (wl G.2.1 (LF G)) (some (.int ((-101))), 42, 90324, (wl G.2.1 (LF G))) := by
  refine Ct.of (by decide) (Nat.le_of_ble_eq_true rfl) ⟨Nat.le_refl _, Nat.le_refl _⟩ ?_
  show Go l G mX9_act _ 0 [(0, .ref (G.2.1 + 0)), (1, .int 2), (2, .int x2), (3, .int x3), (4, .int x4), (5, .int x5)] [] 42 90324 (wl G.2.1 (LF G))
  refine go_iload_n (pc := 0) dX9_act_0 rfl rfl ?_
  refine go_if_lt_f (pc := 1) (tgt := 10) dX9_act_1 (by decide) (by decide) ?_
  refine go_iload_n (pc := 4) dX9_act_4 rfl rfl ?_
  refine go_bipush (pc := 5) (v := 12) dX9_act_5 (by decide) ?_
  refine go_icmp_le_t (pc := 7) (tgt := 13) dX9_act_7 (by decide) (by decide) ?_
  refine go_gets (pc := 13) (i := 5) (by decide) rfl tX9_280 dX9_act_13 ?_
  refine go_iload_n (pc := 16) dX9_act_16 rfl rfl ?_
  refine go_tald (pc := 17) (i := 5) (by decide) (gv_in (by decide)) dX9_act_17 ?_
  refine go_top (y := 8) (by decide) ?_
  refine go_iload_n (pc := 18) dX9_act_18 rfl rfl ?_
  refine go_callS_i (pc := 19) sX9_283 rfl (cX9_isNoName_1 x2) rfl rfl (Nat.le_of_ble_eq_true rfl) ⟨Nat.le_of_ble_eq_true rfl, Nat.le_of_ble_eq_true rfl, (Nat.le_add_right _ _), (Nat.le_add_right _ _)⟩ dX9_act_19 ?_
  refine go_if_ne_f (pc := 22) (tgt := 50) dX9_act_22 (by decide) c0 ?_
  refine go_gets (pc := 25) (i := 6) (by decide) rfl tX9_286 dX9_act_25 ?_
  refine go_iload_n (pc := 28) dX9_act_28 rfl rfl ?_
  refine go_tald (pc := 29) (i := 6) (by decide) (gv_in (by decide)) dX9_act_29 ?_
  refine go_top (y := 0) (by decide) ?_
  refine go_iload_n (pc := 30) dX9_act_30 rfl rfl ?_
  refine go_callS_i (pc := 31) sX9_283 rfl (cX9_isNoName_2 x3) rfl rfl (Nat.le_of_ble_eq_true rfl) ⟨Nat.le_of_ble_eq_true rfl, Nat.le_of_ble_eq_true rfl, (Nat.le_add_right _ _), (Nat.le_add_right _ _)⟩ dX9_act_31 ?_
  refine go_if_ne_f (pc := 34) (tgt := 50) dX9_act_34 (by decide) (by decide) ?_
  refine go_gets (pc := 37) (i := 7) (by decide) rfl tX9_289 dX9_act_37 ?_
  refine go_iload_n (pc := 40) dX9_act_40 rfl rfl ?_
  refine go_tald (pc := 41) (i := 7) (by decide) (gv_in (by decide)) dX9_act_41 ?_
  refine go_top (y := 8) (by decide) ?_
  refine go_iload (pc := 42) dX9_act_42 rfl ?_
  refine go_callS_i (pc := 44) sX9_283 rfl (cX9_isNoName_4 x4) rfl rfl (Nat.le_of_ble_eq_true rfl) ⟨Nat.le_of_ble_eq_true rfl, Nat.le_of_ble_eq_true rfl, (Nat.le_add_right _ _), (Nat.le_add_right _ _)⟩ dX9_act_44 ?_
  refine go_if_eq_f (pc := 47) (tgt := 53) dX9_act_47 (by decide) c1 ?_
  refine go_bipush (pc := 50) (v := (-101)) dX9_act_50 (by decide) ?_
  exact go_iret (pc := 52) rfl dX9_act_52
set_option maxRecDepth 100000 in
set_option maxHeartbeats 4000000 in
theorem cx_act_2_f {l : Launch} {G : gG} (x2 : Int32) (x3 : Int32) (x4 : Int32) (x5 : Int32) (c0 : ¬ (if x2 < 0 then (1 : Int32) else (if x2 < 8 then (0 : Int32) else 1)) = 0) : Ct l G mX9_act 1 21 [.ref (G.2.1 + 0), .int 2, .int x2, .int x3, .int x4, .int x5] 42 90324 (wl G.2.1 (LF G)) (some (.int ((-101))), 42, 90324, (wl G.2.1 (LF G))) := by
  refine Ct.of (by decide) (Nat.le_of_ble_eq_true rfl) ⟨Nat.le_refl _, Nat.le_refl _⟩ ?_
  show Go l G mX9_act _ 0 [(0, .ref (G.2.1 + 0)), (1, .int 2), (2, .int x2), (3, .int x3), (4, .int x4), (5, .int x5)] [] 42 90324 (wl G.2.1 (LF G))
  refine go_iload_n (pc := 0) dX9_act_0 rfl rfl ?_
  refine go_if_lt_f (pc := 1) (tgt := 10) dX9_act_1 (by decide) (by decide) ?_
  refine go_iload_n (pc := 4) dX9_act_4 rfl rfl ?_
  refine go_bipush (pc := 5) (v := 12) dX9_act_5 (by decide) ?_
  refine go_icmp_le_t (pc := 7) (tgt := 13) dX9_act_7 (by decide) (by decide) ?_
  refine go_gets (pc := 13) (i := 5) (by decide) rfl tX9_280 dX9_act_13 ?_
  refine go_iload_n (pc := 16) dX9_act_16 rfl rfl ?_
  refine go_tald (pc := 17) (i := 5) (by decide) (gv_in (by decide)) dX9_act_17 ?_
  refine go_top (y := 8) (by decide) ?_
  refine go_iload_n (pc := 18) dX9_act_18 rfl rfl ?_
  refine go_callS_i (pc := 19) sX9_283 rfl (cX9_isNoName_1 x2) rfl rfl (Nat.le_of_ble_eq_true rfl) ⟨Nat.le_of_ble_eq_true rfl, Nat.le_of_ble_eq_true rfl, (Nat.le_add_right _ _), (Nat.le_add_right _ _)⟩ dX9_act_19 ?_
  refine go_if_ne_t (pc := 22) (tgt := 50) dX9_act_22 (by decide) c0 ?_
  refine go_bipush (pc := 50) (v := (-101)) dX9_act_50 (by decide) ?_
  exact go_iret (pc := 52) rfl dX9_act_52
theorem cx_act_2 {l : Launch} {G : gG} (x2 : Int32) (x3 : Int32) (x4 : Int32) (x5 : Int32) : CX l G mX9_act [.ref (G.2.1 + 0), .int 2, .int x2, .int x3, .int x4, .int x5] ((if (if x2 < 0 then (1 : Int32) else (if x2 < 8 then (0 : Int32) else 1)) = 0 then (if (if x4 < 0 then (1 : Int32) else (if x4 < 8 then (0 : Int32) else 1)) = 0 then 1 else (-101)) else (-101))) := by
  by_cases c0 : (if x2 < 0 then (1 : Int32) else (if x2 < 8 then (0 : Int32) else 1)) = 0
  · rw [if_pos c0]
    by_cases c1 : (if x4 < 0 then (1 : Int32) else (if x4 < 8 then (0 : Int32) else 1)) = 0
    · rw [if_pos c1]
      exact ⟨1, 26, 42, 90324, _, by decide, by decide, by decide, by decide, by decide, (by exact wl_frame rfl), cx_act_2_tt x2 x3 x4 x5 c0 c1⟩
    · rw [if_neg c1]
      exact ⟨1, 21, 42, 90324, _, by decide, by decide, by decide, by decide, by decide, (by exact wl_frame rfl), cx_act_2_tf x2 x3 x4 x5 c0 c1⟩
  · rw [if_neg c0]
    exact ⟨1, 21, 42, 90324, _, by decide, by decide, by decide, by decide, by decide, (by exact wl_frame rfl), cx_act_2_f x2 x3 x4 x5 c0⟩
set_option maxRecDepth 100000 in
set_option maxHeartbeats 4000000 in
theorem cX9_isNoName_5 {l : Launch} {G : gG} (x2 : Int32) : Ct l G mX9_isNoName 0 0 [.int 24, .int x2] 42 90324 (wl G.2.1 (LF G)) (some (.int ((if x2 < 0 then (1 : Int32) else (if x2 < 24 then (0 : Int32) else 1)))), 42, 90324, (wl G.2.1 (LF G))) := by
  refine Ct.of (by decide) (Nat.le_of_ble_eq_true rfl) ⟨Nat.le_refl _, Nat.le_refl _⟩ ?_
  show Go l G mX9_isNoName _ 0 [(0, .int 24), (1, .int x2)] [] 42 90324 (wl G.2.1 (LF G))
  refine go_iload_n (pc := 0) dX9_isNoName_0 rfl rfl ?_
  refine go_if_le_f (pc := 1) (tgt := 17) dX9_isNoName_1 (by decide) (by decide) ?_
  refine go_iload_n (pc := 4) dX9_isNoName_4 rfl rfl ?_
  refine go_if_lt (pc := 5) (tgt := 13) dX9_isNoName_5 (by decide) (fun c0 => ?_) (fun c0 => ?_)
  · refine go_iconst (pc := 13) (v := 1) dX9_isNoName_13 (by decide) ?_
    refine go_goto (pc := 14) (tgt := 18) dX9_isNoName_14 (by decide) ?_
    refine go_eq (r' := (some (.int 1), _, _, _)) (by rw [if_pos c0]) ?_
    exact go_zret (pc := 18) rfl rfl dX9_isNoName_18
  · refine go_iload_n (pc := 8) dX9_isNoName_8 rfl rfl ?_
    refine go_iload_n (pc := 9) dX9_isNoName_9 rfl rfl ?_
    refine go_icmp_lt (pc := 10) (tgt := 17) dX9_isNoName_10 (by decide) (fun c1 => ?_) (fun c1 => ?_)
    · refine go_iconst (pc := 17) (v := 0) dX9_isNoName_17 (by decide) ?_
      refine go_eq (r' := (some (.int 0), _, _, _)) (by rw [if_neg c0, if_pos c1]) ?_
      exact go_zret (pc := 18) rfl rfl dX9_isNoName_18
    · refine go_iconst (pc := 13) (v := 1) dX9_isNoName_13 (by decide) ?_
      refine go_goto (pc := 14) (tgt := 18) dX9_isNoName_14 (by decide) ?_
      refine go_eq (r' := (some (.int 1), _, _, _)) (by rw [if_neg c0, if_neg c1]) ?_
      exact go_zret (pc := 18) rfl rfl dX9_isNoName_18
set_option maxRecDepth 100000 in
set_option maxHeartbeats 4000000 in
theorem cX9_isNoName_6 {l : Launch} {G : gG} (x3 : Int32) : Ct l G mX9_isNoName 0 0 [.int 8, .int x3] 42 90324 (wl G.2.1 (LF G)) (some (.int ((if x3 < 0 then (1 : Int32) else (if x3 < 8 then (0 : Int32) else 1)))), 42, 90324, (wl G.2.1 (LF G))) := by
  refine Ct.of (by decide) (Nat.le_of_ble_eq_true rfl) ⟨Nat.le_refl _, Nat.le_refl _⟩ ?_
  show Go l G mX9_isNoName _ 0 [(0, .int 8), (1, .int x3)] [] 42 90324 (wl G.2.1 (LF G))
  refine go_iload_n (pc := 0) dX9_isNoName_0 rfl rfl ?_
  refine go_if_le_f (pc := 1) (tgt := 17) dX9_isNoName_1 (by decide) (by decide) ?_
  refine go_iload_n (pc := 4) dX9_isNoName_4 rfl rfl ?_
  refine go_if_lt (pc := 5) (tgt := 13) dX9_isNoName_5 (by decide) (fun c0 => ?_) (fun c0 => ?_)
  · refine go_iconst (pc := 13) (v := 1) dX9_isNoName_13 (by decide) ?_
    refine go_goto (pc := 14) (tgt := 18) dX9_isNoName_14 (by decide) ?_
    refine go_eq (r' := (some (.int 1), _, _, _)) (by rw [if_pos c0]) ?_
    exact go_zret (pc := 18) rfl rfl dX9_isNoName_18
  · refine go_iload_n (pc := 8) dX9_isNoName_8 rfl rfl ?_
    refine go_iload_n (pc := 9) dX9_isNoName_9 rfl rfl ?_
    refine go_icmp_lt (pc := 10) (tgt := 17) dX9_isNoName_10 (by decide) (fun c1 => ?_) (fun c1 => ?_)
    · refine go_iconst (pc := 17) (v := 0) dX9_isNoName_17 (by decide) ?_
      refine go_eq (r' := (some (.int 0), _, _, _)) (by rw [if_neg c0, if_pos c1]) ?_
      exact go_zret (pc := 18) rfl rfl dX9_isNoName_18
    · refine go_iconst (pc := 13) (v := 1) dX9_isNoName_13 (by decide) ?_
      refine go_goto (pc := 14) (tgt := 18) dX9_isNoName_14 (by decide) ?_
      refine go_eq (r' := (some (.int 1), _, _, _)) (by rw [if_neg c0, if_neg c1]) ?_
      exact go_zret (pc := 18) rfl rfl dX9_isNoName_18
set_option maxRecDepth 100000 in
set_option maxHeartbeats 4000000 in
theorem cX5_add_4 {l : Launch} {G : gG} (x2 : Int32) (x3 : Int32) (x4 : Int32) (x5 : Int32) : Ct l G mX5_add 0 0 [.ref (G.2.1 + 17), .int 3, .int x2, .int x3, .int x4, .int x5] 42 90324 (wl G.2.1 (LF G)) (none, 42, 90324, (wl G.2.1 [ob 9 [.ref (G.2.1 + 1), .ref (G.2.1 + 23), .ref (G.2.1 + 27), .ref (G.2.1 + 28), .ref (G.2.1 + 22), .int 0, .int 0, .null, .int 0, .null, .int 0], ob 6 [.ref (G.2.1 + 2), .ref (G.2.1 + 6), .ref (G.2.1 + 12), .ref (G.2.1 + 14), .ref (G.2.1 + 17), .ref (G.2.1 + 20), .ref (G.2.1 + 21)], ob 2 [.int 256, .int 0, .int 0, .int 0, .ref (G.2.1 + 3), .ref (G.2.1 + 4), .ref (G.2.1 + 5)], ai G 256 (fun _ => 0), ai G 500 (fun _ => (-1)), ai G 500 (fun _ => 0), ob 3 [.int 0, .int 0, .int 0, .int 0, .ref (G.2.1 + 7), .ref (G.2.1 + 8), .ref (G.2.1 + 9), .ref (G.2.1 + 10), .ref (G.2.1 + 11)], ai G 500 (fun _ => 0), ai G 500 (fun _ => 0), ai G 500 (fun _ => 0), ai G 500 (fun _ => 0), ai G 500 (fun _ => 0), ob 8 [.int 0, .int 0, .int 0, .int 0, .int 0, .int 0, .ref (G.2.1 + 13)], ai G 300 (fun _ => 0), ob 4 [.int 0, .ref (G.2.1 + 15), .ref (G.2.1 + 16)], ai G 1295 (fun _ => 0), ai G 1295 (fun _ => 0), ob 5 [.int 1, .int 0, .int 0, .int 0, .ref (G.2.1 + 18), .ref (G.2.1 + 19)], ai G 200 (upd (upd (upd (upd (upd (fun _ => 0) (0 : Int32).toNatClampNeg 3) (1 : Int32).toNatClampNeg x2) (2 : Int32).toNatClampNeg x3) (3 : Int32).toNatClampNeg x4) (4 : Int32).toNatClampNeg x5), ai G 8 (fun _ => (-1)), ai G 24 (fun _ => (-1)), ai G 32 (fun _ => (-1)), ai G 14 (fun _ => 0), ob 7 [.ref (G.2.1 + 1), .ref (G.2.1 + 2), .ref (G.2.1 + 6), .ref (G.2.1 + 22), .ref (G.2.1 + 24), .int 0, .ref (G.2.1 + 25), .ref (G.2.1 + 26), .int 0], ai G 500 (fun _ => 0), ai G 500 (fun _ => 0), ai G 500 (fun _ => 0), ob 0 [.ref (G.2.1 + 1), .ref (G.2.1 + 2), .ref (G.2.1 + 23), .int 0], ob 1 [.ref (G.2.1 + 29), .int 0, .int 0, .ref (G.2.1 + 30), .ref (G.2.1 + 31)], ai G 0 (fun _ => 0), ai G 500 (fun _ => 0), ai G 501 (fun _ => 0), ob 10 [.ref (G.2.1 + 33), .ref (G.2.1 + 34), .ref (G.2.1 + 35), .int 0, .int 0, .int 0, .int 0, .int 0, .ref (G.2.1 + 36), .ref (G.2.1 + 37), .ref (G.2.1 + 38), .ref (G.2.1 + 39), .int 0, .ref (G.2.1 + 40), .int 0, .ref (G.2.1 + 41)], ai G 26100 (sx 256), ai G 26100 (fun _ => 0), ai G 26100 (fun _ => 0), ai G 14 (fun _ => 0), ai G 500 (fun _ => 0), ai G 500 (fun _ => 0), az G 500 (fun _ => 0), ai G 501 (fun _ => 0), ai G 500 (fun _ => 0)])) := by
  refine Ct.of (by decide) (Nat.le_of_ble_eq_true rfl) ⟨Nat.le_refl _, Nat.le_refl _⟩ ?_
  show Go l G mX5_add _ 0 [(0, .ref (G.2.1 + 17)), (1, .int 3), (2, .int x2), (3, .int x3), (4, .int x4), (5, .int x5)] [] 42 90324 (wl G.2.1 (LF G))
  refine go_aload_n (pc := 0) dX5_add_0 rfl rfl ?_
  refine go_get (pc := 1) fX5_18 rfl (gz_b (by decide)) (wl_at (i := 17) rfl) rfl dX5_add_1 ?_
  refine go_iconst (pc := 4) (v := 5) dX5_add_4 (by decide) ?_
  refine go_imul (pc := 5) dX5_add_5 ?_
  refine go_top (y := 0) (by decide) ?_
  refine go_istore (pc := 6) (lv' := [(6, .int 0), (0, .ref (G.2.1 + 17)), (1, .int 3), (2, .int x2), (3, .int x3), (4, .int x4), (5, .int x5)]) dX5_add_6 (by decide) rfl ?_
  refine go_aload_n (pc := 8) dX5_add_8 rfl rfl ?_
  refine go_get (pc := 9) fX5_9 rfl (gz_b (by decide)) (wl_at (i := 17) rfl) rfl dX5_add_9 ?_
  refine go_iload (pc := 12) dX5_add_12 rfl ?_
  refine go_iload_n (pc := 14) dX5_add_14 rfl rfl ?_
  refine go_iast (pc := 15) (gz_b (by decide)) (wl_at (i := 18) rfl) (gv_in (by decide)) dX5_add_15 ?_
  refine go_ext (wl_up (i := 18) rfl rfl) ?_
  refine go_aload_n (pc := 16) dX5_add_16 rfl rfl ?_
  refine go_get (pc := 17) fX5_9 rfl (gz_b (by decide)) (wl_at (i := 17) rfl) rfl dX5_add_17 ?_
  refine go_iload (pc := 20) dX5_add_20 rfl ?_
  refine go_iconst (pc := 22) (v := 1) dX5_add_22 (by decide) ?_
  refine go_iadd (pc := 23) dX5_add_23 ?_
  refine go_top (y := 1) (by decide) ?_
  refine go_iload_n (pc := 24) dX5_add_24 rfl rfl ?_
  refine go_iast (pc := 25) (gz_b (by decide)) (wl_at (i := 18) rfl) (gv_in (by decide)) dX5_add_25 ?_
  refine go_ext (wl_up (i := 18) rfl rfl) ?_
  refine go_aload_n (pc := 26) dX5_add_26 rfl rfl ?_
  refine go_get (pc := 27) fX5_9 rfl (gz_b (by decide)) (wl_at (i := 17) rfl) rfl dX5_add_27 ?_
  refine go_iload (pc := 30) dX5_add_30 rfl ?_
  refine go_iconst (pc := 32) (v := 2) dX5_add_32 (by decide) ?_
  refine go_iadd (pc := 33) dX5_add_33 ?_
  refine go_top (y := 2) (by decide) ?_
  refine go_iload_n (pc := 34) dX5_add_34 rfl rfl ?_
  refine go_iast (pc := 35) (gz_b (by decide)) (wl_at (i := 18) rfl) (gv_in (by decide)) dX5_add_35 ?_
  refine go_ext (wl_up (i := 18) rfl rfl) ?_
  refine go_aload_n (pc := 36) dX5_add_36 rfl rfl ?_
  refine go_get (pc := 37) fX5_9 rfl (gz_b (by decide)) (wl_at (i := 17) rfl) rfl dX5_add_37 ?_
  refine go_iload (pc := 40) dX5_add_40 rfl ?_
  refine go_iconst (pc := 42) (v := 3) dX5_add_42 (by decide) ?_
  refine go_iadd (pc := 43) dX5_add_43 ?_
  refine go_top (y := 3) (by decide) ?_
  refine go_iload (pc := 44) dX5_add_44 rfl ?_
  refine go_iast (pc := 46) (gz_b (by decide)) (wl_at (i := 18) rfl) (gv_in (by decide)) dX5_add_46 ?_
  refine go_ext (wl_up (i := 18) rfl rfl) ?_
  refine go_aload_n (pc := 47) dX5_add_47 rfl rfl ?_
  refine go_get (pc := 48) fX5_9 rfl (gz_b (by decide)) (wl_at (i := 17) rfl) rfl dX5_add_48 ?_
  refine go_iload (pc := 51) dX5_add_51 rfl ?_
  refine go_iconst (pc := 53) (v := 4) dX5_add_53 (by decide) ?_
  refine go_iadd (pc := 54) dX5_add_54 ?_
  refine go_top (y := 4) (by decide) ?_
  refine go_iload (pc := 55) dX5_add_55 rfl ?_
  refine go_iast (pc := 57) (gz_b (by decide)) (wl_at (i := 18) rfl) (gv_in (by decide)) dX5_add_57 ?_
  refine go_ext (wl_up (i := 18) rfl rfl) ?_
  refine go_aload_n (pc := 58) dX5_add_58 rfl rfl ?_
  refine go_dup (pc := 59) dX5_add_59 rfl ?_
  refine go_get (pc := 60) fX5_18 rfl (gz_b (by decide)) (wl_at (i := 17) rfl) rfl dX5_add_60 ?_
  refine go_iconst (pc := 63) (v := 1) dX5_add_63 (by decide) ?_
  refine go_iadd (pc := 64) dX5_add_64 ?_
  refine go_top (y := 1) (by decide) ?_
  refine go_put (pc := 65) fX5_18 rfl (gz_b (by decide)) (wl_at (i := 17) rfl) (Nat.le_of_ble_eq_true rfl) rfl rfl dX5_add_65 ?_
  refine go_ext (wl_up (i := 17) rfl rfl) ?_
  refine go_w (show _ = wl G.2.1 [ob 9 [.ref (G.2.1 + 1), .ref (G.2.1 + 23), .ref (G.2.1 + 27), .ref (G.2.1 + 28), .ref (G.2.1 + 22), .int 0, .int 0, .null, .int 0, .null, .int 0], ob 6 [.ref (G.2.1 + 2), .ref (G.2.1 + 6), .ref (G.2.1 + 12), .ref (G.2.1 + 14), .ref (G.2.1 + 17), .ref (G.2.1 + 20), .ref (G.2.1 + 21)], ob 2 [.int 256, .int 0, .int 0, .int 0, .ref (G.2.1 + 3), .ref (G.2.1 + 4), .ref (G.2.1 + 5)], ai G 256 (fun _ => 0), ai G 500 (fun _ => (-1)), ai G 500 (fun _ => 0), ob 3 [.int 0, .int 0, .int 0, .int 0, .ref (G.2.1 + 7), .ref (G.2.1 + 8), .ref (G.2.1 + 9), .ref (G.2.1 + 10), .ref (G.2.1 + 11)], ai G 500 (fun _ => 0), ai G 500 (fun _ => 0), ai G 500 (fun _ => 0), ai G 500 (fun _ => 0), ai G 500 (fun _ => 0), ob 8 [.int 0, .int 0, .int 0, .int 0, .int 0, .int 0, .ref (G.2.1 + 13)], ai G 300 (fun _ => 0), ob 4 [.int 0, .ref (G.2.1 + 15), .ref (G.2.1 + 16)], ai G 1295 (fun _ => 0), ai G 1295 (fun _ => 0), ob 5 [.int 1, .int 0, .int 0, .int 0, .ref (G.2.1 + 18), .ref (G.2.1 + 19)], ai G 200 (upd (upd (upd (upd (upd (fun _ => 0) (0 : Int32).toNatClampNeg 3) (1 : Int32).toNatClampNeg x2) (2 : Int32).toNatClampNeg x3) (3 : Int32).toNatClampNeg x4) (4 : Int32).toNatClampNeg x5), ai G 8 (fun _ => (-1)), ai G 24 (fun _ => (-1)), ai G 32 (fun _ => (-1)), ai G 14 (fun _ => 0), ob 7 [.ref (G.2.1 + 1), .ref (G.2.1 + 2), .ref (G.2.1 + 6), .ref (G.2.1 + 22), .ref (G.2.1 + 24), .int 0, .ref (G.2.1 + 25), .ref (G.2.1 + 26), .int 0], ai G 500 (fun _ => 0), ai G 500 (fun _ => 0), ai G 500 (fun _ => 0), ob 0 [.ref (G.2.1 + 1), .ref (G.2.1 + 2), .ref (G.2.1 + 23), .int 0], ob 1 [.ref (G.2.1 + 29), .int 0, .int 0, .ref (G.2.1 + 30), .ref (G.2.1 + 31)], ai G 0 (fun _ => 0), ai G 500 (fun _ => 0), ai G 501 (fun _ => 0), ob 10 [.ref (G.2.1 + 33), .ref (G.2.1 + 34), .ref (G.2.1 + 35), .int 0, .int 0, .int 0, .int 0, .int 0, .ref (G.2.1 + 36), .ref (G.2.1 + 37), .ref (G.2.1 + 38), .ref (G.2.1 + 39), .int 0, .ref (G.2.1 + 40), .int 0, .ref (G.2.1 + 41)], ai G 26100 (sx 256), ai G 26100 (fun _ => 0), ai G 26100 (fun _ => 0), ai G 14 (fun _ => 0), ai G 500 (fun _ => 0), ai G 500 (fun _ => 0), az G 500 (fun _ => 0), ai G 501 (fun _ => 0), ai G 500 (fun _ => 0)] from rfl) ?_
  exact go_vret (pc := 68) rfl dX5_add_68
set_option maxRecDepth 100000 in
set_option maxHeartbeats 4000000 in
theorem cx_act_3_tt {l : Launch} {G : gG} (x2 : Int32) (x3 : Int32) (x4 : Int32) (x5 : Int32) (c0 : (if x2 < 0 then (1 : Int32) else (if x2 < 24 then (0 : Int32) else 1)) = 0) (c1 : (if x3 < 0 then (1 : Int32) else (if x3 < 8 then (0 : Int32) else 1)) = 0) : Ct l G mX9_act 1 26 [.ref (G.2.1 + 0), .int 3, .int x2, .int x3, .int x4, .int x5] 42 90324 (wl G.2.1 (LF G)) (some (.int 1), 42, 90324, (wl G.2.1 [ob 9 [.ref (G.2.1 + 1), .ref (G.2.1 + 23), .ref (G.2.1 + 27), .ref (G.2.1 + 28), .ref (G.2.1 + 22), .int 0, .int 0, .null, .int 0, .null, .int 0], ob 6 [.ref (G.2.1 + 2), .ref (G.2.1 + 6), .ref (G.2.1 + 12), .ref (G.2.1 + 14), .ref (G.2.1 + 17), .ref (G.2.1 + 20), .ref (G.2.1 + 21)], ob 2 [.int 256, .int 0, .int 0, .int 0, .ref (G.2.1 + 3), .ref (G.2.1 + 4), .ref (G.2.1 + 5)], ai G 256 (fun _ => 0), ai G 500 (fun _ => (-1)), ai G 500 (fun _ => 0), ob 3 [.int 0, .int 0, .int 0, .int 0, .ref (G.2.1 + 7), .ref (G.2.1 + 8), .ref (G.2.1 + 9), .ref (G.2.1 + 10), .ref (G.2.1 + 11)], ai G 500 (fun _ => 0), ai G 500 (fun _ => 0), ai G 500 (fun _ => 0), ai G 500 (fun _ => 0), ai G 500 (fun _ => 0), ob 8 [.int 0, .int 0, .int 0, .int 0, .int 0, .int 0, .ref (G.2.1 + 13)], ai G 300 (fun _ => 0), ob 4 [.int 0, .ref (G.2.1 + 15), .ref (G.2.1 + 16)], ai G 1295 (fun _ => 0), ai G 1295 (fun _ => 0), ob 5 [.int 1, .int 0, .int 0, .int 0, .ref (G.2.1 + 18), .ref (G.2.1 + 19)], ai G 200 (upd (upd (upd (upd (upd (fun _ => 0) (0 : Int32).toNatClampNeg 3) (1 : Int32).toNatClampNeg x2) (2 : Int32).toNatClampNeg x3) (3 : Int32).toNatClampNeg x4) (4 : Int32).toNatClampNeg x5), ai G 8 (fun _ => (-1)), ai G 24 (fun _ => (-1)), ai G 32 (fun _ => (-1)), ai G 14 (fun _ => 0), ob 7 [.ref (G.2.1 + 1), .ref (G.2.1 + 2), .ref (G.2.1 + 6), .ref (G.2.1 + 22), .ref (G.2.1 + 24), .int 0, .ref (G.2.1 + 25), .ref (G.2.1 + 26), .int 0], ai G 500 (fun _ => 0), ai G 500 (fun _ => 0), ai G 500 (fun _ => 0), ob 0 [.ref (G.2.1 + 1), .ref (G.2.1 + 2), .ref (G.2.1 + 23), .int 0], ob 1 [.ref (G.2.1 + 29), .int 0, .int 0, .ref (G.2.1 + 30), .ref (G.2.1 + 31)], ai G 0 (fun _ => 0), ai G 500 (fun _ => 0), ai G 501 (fun _ => 0), ob 10 [.ref (G.2.1 + 33), .ref (G.2.1 + 34), .ref (G.2.1 + 35), .int 0, .int 0, .int 0, .int 0, .int 0, .ref (G.2.1 + 36), .ref (G.2.1 + 37), .ref (G.2.1 + 38), .ref (G.2.1 + 39), .int 0, .ref (G.2.1 + 40), .int 0, .ref (G.2.1 + 41)], ai G 26100 (sx 256), ai G 26100 (fun _ => 0), ai G 26100 (fun _ => 0), ai G 14 (fun _ => 0), ai G 500 (fun _ => 0), ai G 500 (fun _ => 0), az G 500 (fun _ => 0), ai G 501 (fun _ => 0), ai G 500 (fun _ => 0)])) := by
  refine Ct.of (by decide) (Nat.le_of_ble_eq_true rfl) ⟨Nat.le_refl _, Nat.le_refl _⟩ ?_
  show Go l G mX9_act _ 0 [(0, .ref (G.2.1 + 0)), (1, .int 3), (2, .int x2), (3, .int x3), (4, .int x4), (5, .int x5)] [] 42 90324 (wl G.2.1 (LF G))
  refine go_iload_n (pc := 0) dX9_act_0 rfl rfl ?_
  refine go_if_lt_f (pc := 1) (tgt := 10) dX9_act_1 (by decide) (by decide) ?_
  refine go_iload_n (pc := 4) dX9_act_4 rfl rfl ?_
  refine go_bipush (pc := 5) (v := 12) dX9_act_5 (by decide) ?_
  refine go_icmp_le_t (pc := 7) (tgt := 13) dX9_act_7 (by decide) (by decide) ?_
  refine go_gets (pc := 13) (i := 5) (by decide) rfl tX9_280 dX9_act_13 ?_
  refine go_iload_n (pc := 16) dX9_act_16 rfl rfl ?_
  refine go_tald (pc := 17) (i := 5) (by decide) (gv_in (by decide)) dX9_act_17 ?_
  refine go_top (y := 24) (by decide) ?_
  refine go_iload_n (pc := 18) dX9_act_18 rfl rfl ?_
  refine go_callS_i (pc := 19) sX9_283 rfl (cX9_isNoName_5 x2) rfl rfl (Nat.le_of_ble_eq_true rfl) ⟨Nat.le_of_ble_eq_true rfl, Nat.le_of_ble_eq_true rfl, (Nat.le_add_right _ _), (Nat.le_add_right _ _)⟩ dX9_act_19 ?_
  refine go_if_ne_f (pc := 22) (tgt := 50) dX9_act_22 (by decide) c0 ?_
  refine go_gets (pc := 25) (i := 6) (by decide) rfl tX9_286 dX9_act_25 ?_
  refine go_iload_n (pc := 28) dX9_act_28 rfl rfl ?_
  refine go_tald (pc := 29) (i := 6) (by decide) (gv_in (by decide)) dX9_act_29 ?_
  refine go_top (y := 8) (by decide) ?_
  refine go_iload_n (pc := 30) dX9_act_30 rfl rfl ?_
  refine go_callS_i (pc := 31) sX9_283 rfl (cX9_isNoName_6 x3) rfl rfl (Nat.le_of_ble_eq_true rfl) ⟨Nat.le_of_ble_eq_true rfl, Nat.le_of_ble_eq_true rfl, (Nat.le_add_right _ _), (Nat.le_add_right _ _)⟩ dX9_act_31 ?_
  refine go_if_ne_f (pc := 34) (tgt := 50) dX9_act_34 (by decide) c1 ?_
  refine go_gets (pc := 37) (i := 7) (by decide) rfl tX9_289 dX9_act_37 ?_
  refine go_iload_n (pc := 40) dX9_act_40 rfl rfl ?_
  refine go_tald (pc := 41) (i := 7) (by decide) (gv_in (by decide)) dX9_act_41 ?_
  refine go_top (y := 0) (by decide) ?_
  refine go_iload (pc := 42) dX9_act_42 rfl ?_
  refine go_callS_i (pc := 44) sX9_283 rfl (cX9_isNoName_3 x4) rfl rfl (Nat.le_of_ble_eq_true rfl) ⟨Nat.le_of_ble_eq_true rfl, Nat.le_of_ble_eq_true rfl, (Nat.le_add_right _ _), (Nat.le_add_right _ _)⟩ dX9_act_44 ?_
  refine go_if_eq_t (pc := 47) (tgt := 53) dX9_act_47 (by decide) (by decide) ?_
  refine go_iload_n (pc := 53) dX9_act_53 rfl rfl ?_
  refine go_if_ne_t (pc := 54) (tgt := 66) dX9_act_54 (by decide) (by decide) ?_
  refine go_iload_n (pc := 66) dX9_act_66 rfl rfl ?_
  refine go_bipush (pc := 67) (v := 9) dX9_act_67 (by decide) ?_
  refine go_icmp_ne_t (pc := 69) (tgt := 86) dX9_act_69 (by decide) (by decide) ?_
  refine go_aload_n (pc := 86) dX9_act_86 rfl rfl ?_
  refine go_get (pc := 87) fX9_12 rfl (gz_b (by decide)) (wl_at (i := 0) rfl) rfl dX9_act_87 ?_
  refine go_get (pc := 90) fX9_236 rfl (gz_b (by decide)) (wl_at (i := 1) rfl) rfl dX9_act_90 ?_
  refine go_get (pc := 93) fX9_240 rfl (gz_b (by decide)) (wl_at (i := 17) rfl) rfl dX9_act_93 ?_
  refine go_bipush (pc := 96) (v := 40) dX9_act_96 (by decide) ?_
  refine go_icmp_lt_t (pc := 98) (tgt := 104) dX9_act_98 (by decide) (by decide) ?_
  refine go_aload_n (pc := 104) dX9_act_104 rfl rfl ?_
  refine go_get (pc := 105) fX9_12 rfl (gz_b (by decide)) (wl_at (i := 0) rfl) rfl dX9_act_105 ?_
  refine go_get (pc := 108) fX9_236 rfl (gz_b (by decide)) (wl_at (i := 1) rfl) rfl dX9_act_108 ?_
  refine go_iload_n (pc := 111) dX9_act_111 rfl rfl ?_
  refine go_iload_n (pc := 112) dX9_act_112 rfl rfl ?_
  refine go_iload_n (pc := 113) dX9_act_113 rfl rfl ?_
  refine go_iload (pc := 114) dX9_act_114 rfl ?_
  refine go_iload (pc := 116) dX9_act_116 rfl ?_
  refine go_callV_v (pc := 118) vX9_292 rfl (cX5_add_4 x2 x3 x4 x5) rfl rfl (gz_b (by decide)) (wl_at (i := 17) rfl) rfl (Nat.le_of_ble_eq_true rfl) ⟨Nat.le_of_ble_eq_true rfl, Nat.le_of_ble_eq_true rfl, (Nat.le_add_right _ _), (Nat.le_add_right _ _)⟩ dX9_act_118 ?_
  refine go_aload_n (pc := 121) dX9_act_121 rfl rfl ?_
  refine go_get (pc := 122) fX9_12 rfl (gz_b (by decide)) (wl_at (i := 0) rfl) rfl dX9_act_122 ?_
  refine go_get (pc := 125) fX9_236 rfl (gz_b (by decide)) (wl_at (i := 1) rfl) rfl dX9_act_125 ?_
  refine go_get (pc := 128) fX9_240 rfl (gz_b (by decide)) (wl_at (i := 17) rfl) rfl dX9_act_128 ?_
  exact go_iret (pc := 131) rfl dX9_act_131
set_option maxRecDepth 100000 in
set_option maxHeartbeats 4000000 in
theorem cx_act_3_tf {l : Launch} {G : gG} (x2 : Int32) (x3 : Int32) (x4 : Int32) (x5 : Int32) (c0 : (if x2 < 0 then (1 : Int32) else (if x2 < 24 then (0 : Int32) else 1)) = 0) (c1 : ¬ (if x3 < 0 then (1 : Int32) else (if x3 < 8 then (0 : Int32) else 1)) = 0) : Ct l G mX9_act 1 21 [.ref (G.2.1 + 0), .int 3, .int x2, .int x3, .int x4, .int x5] 42 90324 (wl G.2.1 (LF G)) (some (.int ((-101))), 42, 90324, (wl G.2.1 (LF G))) := by
  refine Ct.of (by decide) (Nat.le_of_ble_eq_true rfl) ⟨Nat.le_refl _, Nat.le_refl _⟩ ?_
  show Go l G mX9_act _ 0 [(0, .ref (G.2.1 + 0)), (1, .int 3), (2, .int x2), (3, .int x3), (4, .int x4), (5, .int x5)] [] 42 90324 (wl G.2.1 (LF G))
  refine go_iload_n (pc := 0) dX9_act_0 rfl rfl ?_
  refine go_if_lt_f (pc := 1) (tgt := 10) dX9_act_1 (by decide) (by decide) ?_
  refine go_iload_n (pc := 4) dX9_act_4 rfl rfl ?_
  refine go_bipush (pc := 5) (v := 12) dX9_act_5 (by decide) ?_
  refine go_icmp_le_t (pc := 7) (tgt := 13) dX9_act_7 (by decide) (by decide) ?_
  refine go_gets (pc := 13) (i := 5) (by decide) rfl tX9_280 dX9_act_13 ?_
  refine go_iload_n (pc := 16) dX9_act_16 rfl rfl ?_
  refine go_tald (pc := 17) (i := 5) (by decide) (gv_in (by decide)) dX9_act_17 ?_
  refine go_top (y := 24) (by decide) ?_
  refine go_iload_n (pc := 18) dX9_act_18 rfl rfl ?_
  refine go_callS_i (pc := 19) sX9_283 rfl (cX9_isNoName_5 x2) rfl rfl (Nat.le_of_ble_eq_true rfl) ⟨Nat.le_of_ble_eq_true rfl, Nat.le_of_ble_eq_true rfl, (Nat.le_add_right _ _), (Nat.le_add_right _ _)⟩ dX9_act_19 ?_
  refine go_if_ne_f (pc := 22) (tgt := 50) dX9_act_22 (by decide) c0 ?_
  refine go_gets (pc := 25) (i := 6) (by decide) rfl tX9_286 dX9_act_25 ?_
  refine go_iload_n (pc := 28) dX9_act_28 rfl rfl ?_
  refine go_tald (pc := 29) (i := 6) (by decide) (gv_in (by decide)) dX9_act_29 ?_
  refine go_top (y := 8) (by decide) ?_
  refine go_iload_n (pc := 30) dX9_act_30 rfl rfl ?_
  refine go_callS_i (pc := 31) sX9_283 rfl (cX9_isNoName_6 x3) rfl rfl (Nat.le_of_ble_eq_true rfl) ⟨Nat.le_of_ble_eq_true rfl, Nat.le_of_ble_eq_true rfl, (Nat.le_add_right _ _), (Nat.le_add_right _ _)⟩ dX9_act_31 ?_
  refine go_if_ne_t (pc := 34) (tgt := 50) dX9_act_34 (by decide) c1 ?_
  refine go_bipush (pc := 50) (v := (-101)) dX9_act_50 (by decide) ?_
  exact go_iret (pc := 52) rfl dX9_act_52
set_option maxRecDepth 100000 in
set_option maxHeartbeats 4000000 in
theorem cx_act_3_f {l : Launch} {G : gG} (x2 : Int32) (x3 : Int32) (x4 : Int32) (x5 : Int32) (c0 : ¬ (if x2 < 0 then (1 : Int32) else (if x2 < 24 then (0 : Int32) else 1)) = 0) : Ct l G mX9_act 1 21 [.ref (G.2.1 + 0), .int 3, .int x2, .int x3, .int x4, .int x5] 42 90324 (wl G.2.1 (LF G)) (some (.int ((-101))), 42, 90324, (wl G.2.1 (LF G))) := by
  refine Ct.of (by decide) (Nat.le_of_ble_eq_true rfl) ⟨Nat.le_refl _, Nat.le_refl _⟩ ?_
  show Go l G mX9_act _ 0 [(0, .ref (G.2.1 + 0)), (1, .int 3), (2, .int x2), (3, .int x3), (4, .int x4), (5, .int x5)] [] 42 90324 (wl G.2.1 (LF G))
  refine go_iload_n (pc := 0) dX9_act_0 rfl rfl ?_
  refine go_if_lt_f (pc := 1) (tgt := 10) dX9_act_1 (by decide) (by decide) ?_
  refine go_iload_n (pc := 4) dX9_act_4 rfl rfl ?_
  refine go_bipush (pc := 5) (v := 12) dX9_act_5 (by decide) ?_
  refine go_icmp_le_t (pc := 7) (tgt := 13) dX9_act_7 (by decide) (by decide) ?_
  refine go_gets (pc := 13) (i := 5) (by decide) rfl tX9_280 dX9_act_13 ?_
  refine go_iload_n (pc := 16) dX9_act_16 rfl rfl ?_
  refine go_tald (pc := 17) (i := 5) (by decide) (gv_in (by decide)) dX9_act_17 ?_
  refine go_top (y := 24) (by decide) ?_
  refine go_iload_n (pc := 18) dX9_act_18 rfl rfl ?_
  refine go_callS_i (pc := 19) sX9_283 rfl (cX9_isNoName_5 x2) rfl rfl (Nat.le_of_ble_eq_true rfl) ⟨Nat.le_of_ble_eq_true rfl, Nat.le_of_ble_eq_true rfl, (Nat.le_add_right _ _), (Nat.le_add_right _ _)⟩ dX9_act_19 ?_
  refine go_if_ne_t (pc := 22) (tgt := 50) dX9_act_22 (by decide) c0 ?_
  refine go_bipush (pc := 50) (v := (-101)) dX9_act_50 (by decide) ?_
  exact go_iret (pc := 52) rfl dX9_act_52
theorem cx_act_3 {l : Launch} {G : gG} (x2 : Int32) (x3 : Int32) (x4 : Int32) (x5 : Int32) : CX l G mX9_act [.ref (G.2.1 + 0), .int 3, .int x2, .int x3, .int x4, .int x5] ((if (if x2 < 0 then (1 : Int32) else (if x2 < 24 then (0 : Int32) else 1)) = 0 then (if (if x3 < 0 then (1 : Int32) else (if x3 < 8 then (0 : Int32) else 1)) = 0 then 1 else (-101)) else (-101))) := by
  by_cases c0 : (if x2 < 0 then (1 : Int32) else (if x2 < 24 then (0 : Int32) else 1)) = 0
  · rw [if_pos c0]
    by_cases c1 : (if x3 < 0 then (1 : Int32) else (if x3 < 8 then (0 : Int32) else 1)) = 0
    · rw [if_pos c1]
      exact ⟨1, 26, 42, 90324, _, by decide, by decide, by decide, by decide, by decide, (by exact wl_frame rfl), cx_act_3_tt x2 x3 x4 x5 c0 c1⟩
    · rw [if_neg c1]
      exact ⟨1, 21, 42, 90324, _, by decide, by decide, by decide, by decide, by decide, (by exact wl_frame rfl), cx_act_3_tf x2 x3 x4 x5 c0 c1⟩
  · rw [if_neg c0]
    exact ⟨1, 21, 42, 90324, _, by decide, by decide, by decide, by decide, by decide, (by exact wl_frame rfl), cx_act_3_f x2 x3 x4 x5 c0⟩
set_option maxRecDepth 100000 in
set_option maxHeartbeats 4000000 in
theorem cX5_add_5 {l : Launch} {G : gG} (x2 : Int32) (x3 : Int32) (x4 : Int32) (x5 : Int32) : Ct l G mX5_add 0 0 [.ref (G.2.1 + 17), .int 4, .int x2, .int x3, .int x4, .int x5] 42 90324 (wl G.2.1 (LF G)) (none, 42, 90324, (wl G.2.1 [ob 9 [.ref (G.2.1 + 1), .ref (G.2.1 + 23), .ref (G.2.1 + 27), .ref (G.2.1 + 28), .ref (G.2.1 + 22), .int 0, .int 0, .null, .int 0, .null, .int 0], ob 6 [.ref (G.2.1 + 2), .ref (G.2.1 + 6), .ref (G.2.1 + 12), .ref (G.2.1 + 14), .ref (G.2.1 + 17), .ref (G.2.1 + 20), .ref (G.2.1 + 21)], ob 2 [.int 256, .int 0, .int 0, .int 0, .ref (G.2.1 + 3), .ref (G.2.1 + 4), .ref (G.2.1 + 5)], ai G 256 (fun _ => 0), ai G 500 (fun _ => (-1)), ai G 500 (fun _ => 0), ob 3 [.int 0, .int 0, .int 0, .int 0, .ref (G.2.1 + 7), .ref (G.2.1 + 8), .ref (G.2.1 + 9), .ref (G.2.1 + 10), .ref (G.2.1 + 11)], ai G 500 (fun _ => 0), ai G 500 (fun _ => 0), ai G 500 (fun _ => 0), ai G 500 (fun _ => 0), ai G 500 (fun _ => 0), ob 8 [.int 0, .int 0, .int 0, .int 0, .int 0, .int 0, .ref (G.2.1 + 13)], ai G 300 (fun _ => 0), ob 4 [.int 0, .ref (G.2.1 + 15), .ref (G.2.1 + 16)], ai G 1295 (fun _ => 0), ai G 1295 (fun _ => 0), ob 5 [.int 1, .int 0, .int 0, .int 0, .ref (G.2.1 + 18), .ref (G.2.1 + 19)], ai G 200 (upd (upd (upd (upd (upd (fun _ => 0) (0 : Int32).toNatClampNeg 4) (1 : Int32).toNatClampNeg x2) (2 : Int32).toNatClampNeg x3) (3 : Int32).toNatClampNeg x4) (4 : Int32).toNatClampNeg x5), ai G 8 (fun _ => (-1)), ai G 24 (fun _ => (-1)), ai G 32 (fun _ => (-1)), ai G 14 (fun _ => 0), ob 7 [.ref (G.2.1 + 1), .ref (G.2.1 + 2), .ref (G.2.1 + 6), .ref (G.2.1 + 22), .ref (G.2.1 + 24), .int 0, .ref (G.2.1 + 25), .ref (G.2.1 + 26), .int 0], ai G 500 (fun _ => 0), ai G 500 (fun _ => 0), ai G 500 (fun _ => 0), ob 0 [.ref (G.2.1 + 1), .ref (G.2.1 + 2), .ref (G.2.1 + 23), .int 0], ob 1 [.ref (G.2.1 + 29), .int 0, .int 0, .ref (G.2.1 + 30), .ref (G.2.1 + 31)], ai G 0 (fun _ => 0), ai G 500 (fun _ => 0), ai G 501 (fun _ => 0), ob 10 [.ref (G.2.1 + 33), .ref (G.2.1 + 34), .ref (G.2.1 + 35), .int 0, .int 0, .int 0, .int 0, .int 0, .ref (G.2.1 + 36), .ref (G.2.1 + 37), .ref (G.2.1 + 38), .ref (G.2.1 + 39), .int 0, .ref (G.2.1 + 40), .int 0, .ref (G.2.1 + 41)], ai G 26100 (sx 256), ai G 26100 (fun _ => 0), ai G 26100 (fun _ => 0), ai G 14 (fun _ => 0), ai G 500 (fun _ => 0), ai G 500 (fun _ => 0), az G 500 (fun _ => 0), ai G 501 (fun _ => 0), ai G 500 (fun _ => 0)])) := by
  refine Ct.of (by decide) (Nat.le_of_ble_eq_true rfl) ⟨Nat.le_refl _, Nat.le_refl _⟩ ?_
  show Go l G mX5_add _ 0 [(0, .ref (G.2.1 + 17)), (1, .int 4), (2, .int x2), (3, .int x3), (4, .int x4), (5, .int x5)] [] 42 90324 (wl G.2.1 (LF G))
  refine go_aload_n (pc := 0) dX5_add_0 rfl rfl ?_
  refine go_get (pc := 1) fX5_18 rfl (gz_b (by decide)) (wl_at (i := 17) rfl) rfl dX5_add_1 ?_
  refine go_iconst (pc := 4) (v := 5) dX5_add_4 (by decide) ?_
  refine go_imul (pc := 5) dX5_add_5 ?_
  refine go_top (y := 0) (by decide) ?_
  refine go_istore (pc := 6) (lv' := [(6, .int 0), (0, .ref (G.2.1 + 17)), (1, .int 4), (2, .int x2), (3, .int x3), (4, .int x4), (5, .int x5)]) dX5_add_6 (by decide) rfl ?_
  refine go_aload_n (pc := 8) dX5_add_8 rfl rfl ?_
  refine go_get (pc := 9) fX5_9 rfl (gz_b (by decide)) (wl_at (i := 17) rfl) rfl dX5_add_9 ?_
  refine go_iload (pc := 12) dX5_add_12 rfl ?_
  refine go_iload_n (pc := 14) dX5_add_14 rfl rfl ?_
  refine go_iast (pc := 15) (gz_b (by decide)) (wl_at (i := 18) rfl) (gv_in (by decide)) dX5_add_15 ?_
  refine go_ext (wl_up (i := 18) rfl rfl) ?_
  refine go_aload_n (pc := 16) dX5_add_16 rfl rfl ?_
  refine go_get (pc := 17) fX5_9 rfl (gz_b (by decide)) (wl_at (i := 17) rfl) rfl dX5_add_17 ?_
  refine go_iload (pc := 20) dX5_add_20 rfl ?_
  refine go_iconst (pc := 22) (v := 1) dX5_add_22 (by decide) ?_
  refine go_iadd (pc := 23) dX5_add_23 ?_
  refine go_top (y := 1) (by decide) ?_
  refine go_iload_n (pc := 24) dX5_add_24 rfl rfl ?_
  refine go_iast (pc := 25) (gz_b (by decide)) (wl_at (i := 18) rfl) (gv_in (by decide)) dX5_add_25 ?_
  refine go_ext (wl_up (i := 18) rfl rfl) ?_
  refine go_aload_n (pc := 26) dX5_add_26 rfl rfl ?_
  refine go_get (pc := 27) fX5_9 rfl (gz_b (by decide)) (wl_at (i := 17) rfl) rfl dX5_add_27 ?_
  refine go_iload (pc := 30) dX5_add_30 rfl ?_
  refine go_iconst (pc := 32) (v := 2) dX5_add_32 (by decide) ?_
  refine go_iadd (pc := 33) dX5_add_33 ?_
  refine go_top (y := 2) (by decide) ?_
  refine go_iload_n (pc := 34) dX5_add_34 rfl rfl ?_
  refine go_iast (pc := 35) (gz_b (by decide)) (wl_at (i := 18) rfl) (gv_in (by decide)) dX5_add_35 ?_
  refine go_ext (wl_up (i := 18) rfl rfl) ?_
  refine go_aload_n (pc := 36) dX5_add_36 rfl rfl ?_
  refine go_get (pc := 37) fX5_9 rfl (gz_b (by decide)) (wl_at (i := 17) rfl) rfl dX5_add_37 ?_
  refine go_iload (pc := 40) dX5_add_40 rfl ?_
  refine go_iconst (pc := 42) (v := 3) dX5_add_42 (by decide) ?_
  refine go_iadd (pc := 43) dX5_add_43 ?_
  refine go_top (y := 3) (by decide) ?_
  refine go_iload (pc := 44) dX5_add_44 rfl ?_
  refine go_iast (pc := 46) (gz_b (by decide)) (wl_at (i := 18) rfl) (gv_in (by decide)) dX5_add_46 ?_
  refine go_ext (wl_up (i := 18) rfl rfl) ?_
  refine go_aload_n (pc := 47) dX5_add_47 rfl rfl ?_
  refine go_get (pc := 48) fX5_9 rfl (gz_b (by decide)) (wl_at (i := 17) rfl) rfl dX5_add_48 ?_
  refine go_iload (pc := 51) dX5_add_51 rfl ?_
  refine go_iconst (pc := 53) (v := 4) dX5_add_53 (by decide) ?_
  refine go_iadd (pc := 54) dX5_add_54 ?_
  refine go_top (y := 4) (by decide) ?_
  refine go_iload (pc := 55) dX5_add_55 rfl ?_
  refine go_iast (pc := 57) (gz_b (by decide)) (wl_at (i := 18) rfl) (gv_in (by decide)) dX5_add_57 ?_
  refine go_ext (wl_up (i := 18) rfl rfl) ?_
  refine go_aload_n (pc := 58) dX5_add_58 rfl rfl ?_
  refine go_dup (pc := 59) dX5_add_59 rfl ?_
  refine go_get (pc := 60) fX5_18 rfl (gz_b (by decide)) (wl_at (i := 17) rfl) rfl dX5_add_60 ?_
  refine go_iconst (pc := 63) (v := 1) dX5_add_63 (by decide) ?_
  refine go_iadd (pc := 64) dX5_add_64 ?_
  refine go_top (y := 1) (by decide) ?_
  refine go_put (pc := 65) fX5_18 rfl (gz_b (by decide)) (wl_at (i := 17) rfl) (Nat.le_of_ble_eq_true rfl) rfl rfl dX5_add_65 ?_
  refine go_ext (wl_up (i := 17) rfl rfl) ?_
  refine go_w (show _ = wl G.2.1 [ob 9 [.ref (G.2.1 + 1), .ref (G.2.1 + 23), .ref (G.2.1 + 27), .ref (G.2.1 + 28), .ref (G.2.1 + 22), .int 0, .int 0, .null, .int 0, .null, .int 0], ob 6 [.ref (G.2.1 + 2), .ref (G.2.1 + 6), .ref (G.2.1 + 12), .ref (G.2.1 + 14), .ref (G.2.1 + 17), .ref (G.2.1 + 20), .ref (G.2.1 + 21)], ob 2 [.int 256, .int 0, .int 0, .int 0, .ref (G.2.1 + 3), .ref (G.2.1 + 4), .ref (G.2.1 + 5)], ai G 256 (fun _ => 0), ai G 500 (fun _ => (-1)), ai G 500 (fun _ => 0), ob 3 [.int 0, .int 0, .int 0, .int 0, .ref (G.2.1 + 7), .ref (G.2.1 + 8), .ref (G.2.1 + 9), .ref (G.2.1 + 10), .ref (G.2.1 + 11)], ai G 500 (fun _ => 0), ai G 500 (fun _ => 0), ai G 500 (fun _ => 0), ai G 500 (fun _ => 0), ai G 500 (fun _ => 0), ob 8 [.int 0, .int 0, .int 0, .int 0, .int 0, .int 0, .ref (G.2.1 + 13)], ai G 300 (fun _ => 0), ob 4 [.int 0, .ref (G.2.1 + 15), .ref (G.2.1 + 16)], ai G 1295 (fun _ => 0), ai G 1295 (fun _ => 0), ob 5 [.int 1, .int 0, .int 0, .int 0, .ref (G.2.1 + 18), .ref (G.2.1 + 19)], ai G 200 (upd (upd (upd (upd (upd (fun _ => 0) (0 : Int32).toNatClampNeg 4) (1 : Int32).toNatClampNeg x2) (2 : Int32).toNatClampNeg x3) (3 : Int32).toNatClampNeg x4) (4 : Int32).toNatClampNeg x5), ai G 8 (fun _ => (-1)), ai G 24 (fun _ => (-1)), ai G 32 (fun _ => (-1)), ai G 14 (fun _ => 0), ob 7 [.ref (G.2.1 + 1), .ref (G.2.1 + 2), .ref (G.2.1 + 6), .ref (G.2.1 + 22), .ref (G.2.1 + 24), .int 0, .ref (G.2.1 + 25), .ref (G.2.1 + 26), .int 0], ai G 500 (fun _ => 0), ai G 500 (fun _ => 0), ai G 500 (fun _ => 0), ob 0 [.ref (G.2.1 + 1), .ref (G.2.1 + 2), .ref (G.2.1 + 23), .int 0], ob 1 [.ref (G.2.1 + 29), .int 0, .int 0, .ref (G.2.1 + 30), .ref (G.2.1 + 31)], ai G 0 (fun _ => 0), ai G 500 (fun _ => 0), ai G 501 (fun _ => 0), ob 10 [.ref (G.2.1 + 33), .ref (G.2.1 + 34), .ref (G.2.1 + 35), .int 0, .int 0, .int 0, .int 0, .int 0, .ref (G.2.1 + 36), .ref (G.2.1 + 37), .ref (G.2.1 + 38), .ref (G.2.1 + 39), .int 0, .ref (G.2.1 + 40), .int 0, .ref (G.2.1 + 41)], ai G 26100 (sx 256), ai G 26100 (fun _ => 0), ai G 26100 (fun _ => 0), ai G 14 (fun _ => 0), ai G 500 (fun _ => 0), ai G 500 (fun _ => 0), az G 500 (fun _ => 0), ai G 501 (fun _ => 0), ai G 500 (fun _ => 0)] from rfl) ?_
  exact go_vret (pc := 68) rfl dX5_add_68
set_option maxRecDepth 100000 in
set_option maxHeartbeats 4000000 in
theorem cx_act_4_tt {l : Launch} {G : gG} (x2 : Int32) (x3 : Int32) (x4 : Int32) (x5 : Int32) (c0 : (if x2 < 0 then (1 : Int32) else (if x2 < 24 then (0 : Int32) else 1)) = 0) (c1 : (if x3 < 0 then (1 : Int32) else (if x3 < 8 then (0 : Int32) else 1)) = 0) : Ct l G mX9_act 1 26 [.ref (G.2.1 + 0), .int 4, .int x2, .int x3, .int x4, .int x5] 42 90324 (wl G.2.1 (LF G)) (some (.int 1), 42, 90324, (wl G.2.1 [ob 9 [.ref (G.2.1 + 1), .ref (G.2.1 + 23), .ref (G.2.1 + 27), .ref (G.2.1 + 28), .ref (G.2.1 + 22), .int 0, .int 0, .null, .int 0, .null, .int 0], ob 6 [.ref (G.2.1 + 2), .ref (G.2.1 + 6), .ref (G.2.1 + 12), .ref (G.2.1 + 14), .ref (G.2.1 + 17), .ref (G.2.1 + 20), .ref (G.2.1 + 21)], ob 2 [.int 256, .int 0, .int 0, .int 0, .ref (G.2.1 + 3), .ref (G.2.1 + 4), .ref (G.2.1 + 5)], ai G 256 (fun _ => 0), ai G 500 (fun _ => (-1)), ai G 500 (fun _ => 0), ob 3 [.int 0, .int 0, .int 0, .int 0, .ref (G.2.1 + 7), .ref (G.2.1 + 8), .ref (G.2.1 + 9), .ref (G.2.1 + 10), .ref (G.2.1 + 11)], ai G 500 (fun _ => 0), ai G 500 (fun _ => 0), ai G 500 (fun _ => 0), ai G 500 (fun _ => 0), ai G 500 (fun _ => 0), ob 8 [.int 0, .int 0, .int 0, .int 0, .int 0, .int 0, .ref (G.2.1 + 13)], ai G 300 (fun _ => 0), ob 4 [.int 0, .ref (G.2.1 + 15), .ref (G.2.1 + 16)], ai G 1295 (fun _ => 0), ai G 1295 (fun _ => 0), ob 5 [.int 1, .int 0, .int 0, .int 0, .ref (G.2.1 + 18), .ref (G.2.1 + 19)], ai G 200 (upd (upd (upd (upd (upd (fun _ => 0) (0 : Int32).toNatClampNeg 4) (1 : Int32).toNatClampNeg x2) (2 : Int32).toNatClampNeg x3) (3 : Int32).toNatClampNeg x4) (4 : Int32).toNatClampNeg x5), ai G 8 (fun _ => (-1)), ai G 24 (fun _ => (-1)), ai G 32 (fun _ => (-1)), ai G 14 (fun _ => 0), ob 7 [.ref (G.2.1 + 1), .ref (G.2.1 + 2), .ref (G.2.1 + 6), .ref (G.2.1 + 22), .ref (G.2.1 + 24), .int 0, .ref (G.2.1 + 25), .ref (G.2.1 + 26), .int 0], ai G 500 (fun _ => 0), ai G 500 (fun _ => 0), ai G 500 (fun _ => 0), ob 0 [.ref (G.2.1 + 1), .ref (G.2.1 + 2), .ref (G.2.1 + 23), .int 0], ob 1 [.ref (G.2.1 + 29), .int 0, .int 0, .ref (G.2.1 + 30), .ref (G.2.1 + 31)], ai G 0 (fun _ => 0), ai G 500 (fun _ => 0), ai G 501 (fun _ => 0), ob 10 [.ref (G.2.1 + 33), .ref (G.2.1 + 34), .ref (G.2.1 + 35), .int 0, .int 0, .int 0, .int 0, .int 0, .ref (G.2.1 + 36), .ref (G.2.1 + 37), .ref (G.2.1 + 38), .ref (G.2.1 + 39), .int 0, .ref (G.2.1 + 40), .int 0, .ref (G.2.1 + 41)], ai G 26100 (sx 256), ai G 26100 (fun _ => 0), ai G 26100 (fun _ => 0), ai G 14 (fun _ => 0), ai G 500 (fun _ => 0), ai G 500 (fun _ => 0), az G 500 (fun _ => 0), ai G 501 (fun _ => 0), ai G 500 (fun _ => 0)])) := by
  refine Ct.of (by decide) (Nat.le_of_ble_eq_true rfl) ⟨Nat.le_refl _, Nat.le_refl _⟩ ?_
  show Go l G mX9_act _ 0 [(0, .ref (G.2.1 + 0)), (1, .int 4), (2, .int x2), (3, .int x3), (4, .int x4), (5, .int x5)] [] 42 90324 (wl G.2.1 (LF G))
  refine go_iload_n (pc := 0) dX9_act_0 rfl rfl ?_
  refine go_if_lt_f (pc := 1) (tgt := 10) dX9_act_1 (by decide) (by decide) ?_
  refine go_iload_n (pc := 4) dX9_act_4 rfl rfl ?_
  refine go_bipush (pc := 5) (v := 12) dX9_act_5 (by decide) ?_
  refine go_icmp_le_t (pc := 7) (tgt := 13) dX9_act_7 (by decide) (by decide) ?_
  refine go_gets (pc := 13) (i := 5) (by decide) rfl tX9_280 dX9_act_13 ?_
  refine go_iload_n (pc := 16) dX9_act_16 rfl rfl ?_
  refine go_tald (pc := 17) (i := 5) (by decide) (gv_in (by decide)) dX9_act_17 ?_
  refine go_top (y := 24) (by decide) ?_
  refine go_iload_n (pc := 18) dX9_act_18 rfl rfl ?_
  refine go_callS_i (pc := 19) sX9_283 rfl (cX9_isNoName_5 x2) rfl rfl (Nat.le_of_ble_eq_true rfl) ⟨Nat.le_of_ble_eq_true rfl, Nat.le_of_ble_eq_true rfl, (Nat.le_add_right _ _), (Nat.le_add_right _ _)⟩ dX9_act_19 ?_
  refine go_if_ne_f (pc := 22) (tgt := 50) dX9_act_22 (by decide) c0 ?_
  refine go_gets (pc := 25) (i := 6) (by decide) rfl tX9_286 dX9_act_25 ?_
  refine go_iload_n (pc := 28) dX9_act_28 rfl rfl ?_
  refine go_tald (pc := 29) (i := 6) (by decide) (gv_in (by decide)) dX9_act_29 ?_
  refine go_top (y := 8) (by decide) ?_
  refine go_iload_n (pc := 30) dX9_act_30 rfl rfl ?_
  refine go_callS_i (pc := 31) sX9_283 rfl (cX9_isNoName_6 x3) rfl rfl (Nat.le_of_ble_eq_true rfl) ⟨Nat.le_of_ble_eq_true rfl, Nat.le_of_ble_eq_true rfl, (Nat.le_add_right _ _), (Nat.le_add_right _ _)⟩ dX9_act_31 ?_
  refine go_if_ne_f (pc := 34) (tgt := 50) dX9_act_34 (by decide) c1 ?_
  refine go_gets (pc := 37) (i := 7) (by decide) rfl tX9_289 dX9_act_37 ?_
  refine go_iload_n (pc := 40) dX9_act_40 rfl rfl ?_
  refine go_tald (pc := 41) (i := 7) (by decide) (gv_in (by decide)) dX9_act_41 ?_
  refine go_top (y := 0) (by decide) ?_
  refine go_iload (pc := 42) dX9_act_42 rfl ?_
  refine go_callS_i (pc := 44) sX9_283 rfl (cX9_isNoName_3 x4) rfl rfl (Nat.le_of_ble_eq_true rfl) ⟨Nat.le_of_ble_eq_true rfl, Nat.le_of_ble_eq_true rfl, (Nat.le_add_right _ _), (Nat.le_add_right _ _)⟩ dX9_act_44 ?_
  refine go_if_eq_t (pc := 47) (tgt := 53) dX9_act_47 (by decide) (by decide) ?_
  refine go_iload_n (pc := 53) dX9_act_53 rfl rfl ?_
  refine go_if_ne_t (pc := 54) (tgt := 66) dX9_act_54 (by decide) (by decide) ?_
  refine go_iload_n (pc := 66) dX9_act_66 rfl rfl ?_
  refine go_bipush (pc := 67) (v := 9) dX9_act_67 (by decide) ?_
  refine go_icmp_ne_t (pc := 69) (tgt := 86) dX9_act_69 (by decide) (by decide) ?_
  refine go_aload_n (pc := 86) dX9_act_86 rfl rfl ?_
  refine go_get (pc := 87) fX9_12 rfl (gz_b (by decide)) (wl_at (i := 0) rfl) rfl dX9_act_87 ?_
  refine go_get (pc := 90) fX9_236 rfl (gz_b (by decide)) (wl_at (i := 1) rfl) rfl dX9_act_90 ?_
  refine go_get (pc := 93) fX9_240 rfl (gz_b (by decide)) (wl_at (i := 17) rfl) rfl dX9_act_93 ?_
  refine go_bipush (pc := 96) (v := 40) dX9_act_96 (by decide) ?_
  refine go_icmp_lt_t (pc := 98) (tgt := 104) dX9_act_98 (by decide) (by decide) ?_
  refine go_aload_n (pc := 104) dX9_act_104 rfl rfl ?_
  refine go_get (pc := 105) fX9_12 rfl (gz_b (by decide)) (wl_at (i := 0) rfl) rfl dX9_act_105 ?_
  refine go_get (pc := 108) fX9_236 rfl (gz_b (by decide)) (wl_at (i := 1) rfl) rfl dX9_act_108 ?_
  refine go_iload_n (pc := 111) dX9_act_111 rfl rfl ?_
  refine go_iload_n (pc := 112) dX9_act_112 rfl rfl ?_
  refine go_iload_n (pc := 113) dX9_act_113 rfl rfl ?_
  refine go_iload (pc := 114) dX9_act_114 rfl ?_
  refine go_iload (pc := 116) dX9_act_116 rfl ?_
  refine go_callV_v (pc := 118) vX9_292 rfl (cX5_add_5 x2 x3 x4 x5) rfl rfl (gz_b (by decide)) (wl_at (i := 17) rfl) rfl (Nat.le_of_ble_eq_true rfl) ⟨Nat.le_of_ble_eq_true rfl, Nat.le_of_ble_eq_true rfl, (Nat.le_add_right _ _), (Nat.le_add_right _ _)⟩ dX9_act_118 ?_
  refine go_aload_n (pc := 121) dX9_act_121 rfl rfl ?_
  refine go_get (pc := 122) fX9_12 rfl (gz_b (by decide)) (wl_at (i := 0) rfl) rfl dX9_act_122 ?_
  refine go_get (pc := 125) fX9_236 rfl (gz_b (by decide)) (wl_at (i := 1) rfl) rfl dX9_act_125 ?_
  refine go_get (pc := 128) fX9_240 rfl (gz_b (by decide)) (wl_at (i := 17) rfl) rfl dX9_act_128 ?_
  exact go_iret (pc := 131) rfl dX9_act_131
set_option maxRecDepth 100000 in
set_option maxHeartbeats 4000000 in
theorem cx_act_4_tf {l : Launch} {G : gG} (x2 : Int32) (x3 : Int32) (x4 : Int32) (x5 : Int32) (c0 : (if x2 < 0 then (1 : Int32) else (if x2 < 24 then (0 : Int32) else 1)) = 0) (c1 : ¬ (if x3 < 0 then (1 : Int32) else (if x3 < 8 then (0 : Int32) else 1)) = 0) : Ct l G mX9_act 1 21 [.ref (G.2.1 + 0), .int 4, .int x2, .int x3, .int x4, .int x5] 42 90324 (wl G.2.1 (LF G)) (some (.int ((-101))), 42, 90324, (wl G.2.1 (LF G))) := by
  refine Ct.of (by decide) (Nat.le_of_ble_eq_true rfl) ⟨Nat.le_refl _, Nat.le_refl _⟩ ?_
  show Go l G mX9_act _ 0 [(0, .ref (G.2.1 + 0)), (1, .int 4), (2, .int x2), (3, .int x3), (4, .int x4), (5, .int x5)] [] 42 90324 (wl G.2.1 (LF G))
  refine go_iload_n (pc := 0) dX9_act_0 rfl rfl ?_
  refine go_if_lt_f (pc := 1) (tgt := 10) dX9_act_1 (by decide) (by decide) ?_
  refine go_iload_n (pc := 4) dX9_act_4 rfl rfl ?_
  refine go_bipush (pc := 5) (v := 12) dX9_act_5 (by decide) ?_
  refine go_icmp_le_t (pc := 7) (tgt := 13) dX9_act_7 (by decide) (by decide) ?_
  refine go_gets (pc := 13) (i := 5) (by decide) rfl tX9_280 dX9_act_13 ?_
  refine go_iload_n (pc := 16) dX9_act_16 rfl rfl ?_
  refine go_tald (pc := 17) (i := 5) (by decide) (gv_in (by decide)) dX9_act_17 ?_
  refine go_top (y := 24) (by decide) ?_
  refine go_iload_n (pc := 18) dX9_act_18 rfl rfl ?_
  refine go_callS_i (pc := 19) sX9_283 rfl (cX9_isNoName_5 x2) rfl rfl (Nat.le_of_ble_eq_true rfl) ⟨Nat.le_of_ble_eq_true rfl, Nat.le_of_ble_eq_true rfl, (Nat.le_add_right _ _), (Nat.le_add_right _ _)⟩ dX9_act_19 ?_
  refine go_if_ne_f (pc := 22) (tgt := 50) dX9_act_22 (by decide) c0 ?_
  refine go_gets (pc := 25) (i := 6) (by decide) rfl tX9_286 dX9_act_25 ?_
  refine go_iload_n (pc := 28) dX9_act_28 rfl rfl ?_
  refine go_tald (pc := 29) (i := 6) (by decide) (gv_in (by decide)) dX9_act_29 ?_
  refine go_top (y := 8) (by decide) ?_
  refine go_iload_n (pc := 30) dX9_act_30 rfl rfl ?_
  refine go_callS_i (pc := 31) sX9_283 rfl (cX9_isNoName_6 x3) rfl rfl (Nat.le_of_ble_eq_true rfl) ⟨Nat.le_of_ble_eq_true rfl, Nat.le_of_ble_eq_true rfl, (Nat.le_add_right _ _), (Nat.le_add_right _ _)⟩ dX9_act_31 ?_
  refine go_if_ne_t (pc := 34) (tgt := 50) dX9_act_34 (by decide) c1 ?_
  refine go_bipush (pc := 50) (v := (-101)) dX9_act_50 (by decide) ?_
  exact go_iret (pc := 52) rfl dX9_act_52
set_option maxRecDepth 100000 in
set_option maxHeartbeats 4000000 in
theorem cx_act_4_f {l : Launch} {G : gG} (x2 : Int32) (x3 : Int32) (x4 : Int32) (x5 : Int32) (c0 : ¬ (if x2 < 0 then (1 : Int32) else (if x2 < 24 then (0 : Int32) else 1)) = 0) : Ct l G mX9_act 1 21 [.ref (G.2.1 + 0), .int 4, .int x2, .int x3, .int x4, .int x5] 42 90324 (wl G.2.1 (LF G)) (some (.int ((-101))), 42, 90324, (wl G.2.1 (LF G))) := by
  refine Ct.of (by decide) (Nat.le_of_ble_eq_true rfl) ⟨Nat.le_refl _, Nat.le_refl _⟩ ?_
  show Go l G mX9_act _ 0 [(0, .ref (G.2.1 + 0)), (1, .int 4), (2, .int x2), (3, .int x3), (4, .int x4), (5, .int x5)] [] 42 90324 (wl G.2.1 (LF G))
  refine go_iload_n (pc := 0) dX9_act_0 rfl rfl ?_
  refine go_if_lt_f (pc := 1) (tgt := 10) dX9_act_1 (by decide) (by decide) ?_
  refine go_iload_n (pc := 4) dX9_act_4 rfl rfl ?_
  refine go_bipush (pc := 5) (v := 12) dX9_act_5 (by decide) ?_
  refine go_icmp_le_t (pc := 7) (tgt := 13) dX9_act_7 (by decide) (by decide) ?_
  refine go_gets (pc := 13) (i := 5) (by decide) rfl tX9_280 dX9_act_13 ?_
  refine go_iload_n (pc := 16) dX9_act_16 rfl rfl ?_
  refine go_tald (pc := 17) (i := 5) (by decide) (gv_in (by decide)) dX9_act_17 ?_
  refine go_top (y := 24) (by decide) ?_
  refine go_iload_n (pc := 18) dX9_act_18 rfl rfl ?_
  refine go_callS_i (pc := 19) sX9_283 rfl (cX9_isNoName_5 x2) rfl rfl (Nat.le_of_ble_eq_true rfl) ⟨Nat.le_of_ble_eq_true rfl, Nat.le_of_ble_eq_true rfl, (Nat.le_add_right _ _), (Nat.le_add_right _ _)⟩ dX9_act_19 ?_
  refine go_if_ne_t (pc := 22) (tgt := 50) dX9_act_22 (by decide) c0 ?_
  refine go_bipush (pc := 50) (v := (-101)) dX9_act_50 (by decide) ?_
  exact go_iret (pc := 52) rfl dX9_act_52
theorem cx_act_4 {l : Launch} {G : gG} (x2 : Int32) (x3 : Int32) (x4 : Int32) (x5 : Int32) : CX l G mX9_act [.ref (G.2.1 + 0), .int 4, .int x2, .int x3, .int x4, .int x5] ((if (if x2 < 0 then (1 : Int32) else (if x2 < 24 then (0 : Int32) else 1)) = 0 then (if (if x3 < 0 then (1 : Int32) else (if x3 < 8 then (0 : Int32) else 1)) = 0 then 1 else (-101)) else (-101))) := by
  by_cases c0 : (if x2 < 0 then (1 : Int32) else (if x2 < 24 then (0 : Int32) else 1)) = 0
  · rw [if_pos c0]
    by_cases c1 : (if x3 < 0 then (1 : Int32) else (if x3 < 8 then (0 : Int32) else 1)) = 0
    · rw [if_pos c1]
      exact ⟨1, 26, 42, 90324, _, by decide, by decide, by decide, by decide, by decide, (by exact wl_frame rfl), cx_act_4_tt x2 x3 x4 x5 c0 c1⟩
    · rw [if_neg c1]
      exact ⟨1, 21, 42, 90324, _, by decide, by decide, by decide, by decide, by decide, (by exact wl_frame rfl), cx_act_4_tf x2 x3 x4 x5 c0 c1⟩
  · rw [if_neg c0]
    exact ⟨1, 21, 42, 90324, _, by decide, by decide, by decide, by decide, by decide, (by exact wl_frame rfl), cx_act_4_f x2 x3 x4 x5 c0⟩
set_option maxRecDepth 100000 in
set_option maxHeartbeats 4000000 in
theorem cX5_add_6 {l : Launch} {G : gG} (x2 : Int32) (x3 : Int32) (x4 : Int32) (x5 : Int32) : Ct l G mX5_add 0 0 [.ref (G.2.1 + 17), .int 5, .int x2, .int x3, .int x4, .int x5] 42 90324 (wl G.2.1 (LF G)) (none, 42, 90324, (wl G.2.1 [ob 9 [.ref (G.2.1 + 1), .ref (G.2.1 + 23), .ref (G.2.1 + 27), .ref (G.2.1 + 28), .ref (G.2.1 + 22), .int 0, .int 0, .null, .int 0, .null, .int 0], ob 6 [.ref (G.2.1 + 2), .ref (G.2.1 + 6), .ref (G.2.1 + 12), .ref (G.2.1 + 14), .ref (G.2.1 + 17), .ref (G.2.1 + 20), .ref (G.2.1 + 21)], ob 2 [.int 256, .int 0, .int 0, .int 0, .ref (G.2.1 + 3), .ref (G.2.1 + 4), .ref (G.2.1 + 5)], ai G 256 (fun _ => 0), ai G 500 (fun _ => (-1)), ai G 500 (fun _ => 0), ob 3 [.int 0, .int 0, .int 0, .int 0, .ref (G.2.1 + 7), .ref (G.2.1 + 8), .ref (G.2.1 + 9), .ref (G.2.1 + 10), .ref (G.2.1 + 11)], ai G 500 (fun _ => 0), ai G 500 (fun _ => 0), ai G 500 (fun _ => 0), ai G 500 (fun _ => 0), ai G 500 (fun _ => 0), ob 8 [.int 0, .int 0, .int 0, .int 0, .int 0, .int 0, .ref (G.2.1 + 13)], ai G 300 (fun _ => 0), ob 4 [.int 0, .ref (G.2.1 + 15), .ref (G.2.1 + 16)], ai G 1295 (fun _ => 0), ai G 1295 (fun _ => 0), ob 5 [.int 1, .int 0, .int 0, .int 0, .ref (G.2.1 + 18), .ref (G.2.1 + 19)], ai G 200 (upd (upd (upd (upd (upd (fun _ => 0) (0 : Int32).toNatClampNeg 5) (1 : Int32).toNatClampNeg x2) (2 : Int32).toNatClampNeg x3) (3 : Int32).toNatClampNeg x4) (4 : Int32).toNatClampNeg x5), ai G 8 (fun _ => (-1)), ai G 24 (fun _ => (-1)), ai G 32 (fun _ => (-1)), ai G 14 (fun _ => 0), ob 7 [.ref (G.2.1 + 1), .ref (G.2.1 + 2), .ref (G.2.1 + 6), .ref (G.2.1 + 22), .ref (G.2.1 + 24), .int 0, .ref (G.2.1 + 25), .ref (G.2.1 + 26), .int 0], ai G 500 (fun _ => 0), ai G 500 (fun _ => 0), ai G 500 (fun _ => 0), ob 0 [.ref (G.2.1 + 1), .ref (G.2.1 + 2), .ref (G.2.1 + 23), .int 0], ob 1 [.ref (G.2.1 + 29), .int 0, .int 0, .ref (G.2.1 + 30), .ref (G.2.1 + 31)], ai G 0 (fun _ => 0), ai G 500 (fun _ => 0), ai G 501 (fun _ => 0), ob 10 [.ref (G.2.1 + 33), .ref (G.2.1 + 34), .ref (G.2.1 + 35), .int 0, .int 0, .int 0, .int 0, .int 0, .ref (G.2.1 + 36), .ref (G.2.1 + 37), .ref (G.2.1 + 38), .ref (G.2.1 + 39), .int 0, .ref (G.2.1 + 40), .int 0, .ref (G.2.1 + 41)], ai G 26100 (sx 256), ai G 26100 (fun _ => 0), ai G 26100 (fun _ => 0), ai G 14 (fun _ => 0), ai G 500 (fun _ => 0), ai G 500 (fun _ => 0), az G 500 (fun _ => 0), ai G 501 (fun _ => 0), ai G 500 (fun _ => 0)])) := by
  refine Ct.of (by decide) (Nat.le_of_ble_eq_true rfl) ⟨Nat.le_refl _, Nat.le_refl _⟩ ?_
  show Go l G mX5_add _ 0 [(0, .ref (G.2.1 + 17)), (1, .int 5), (2, .int x2), (3, .int x3), (4, .int x4), (5, .int x5)] [] 42 90324 (wl G.2.1 (LF G))
  refine go_aload_n (pc := 0) dX5_add_0 rfl rfl ?_
  refine go_get (pc := 1) fX5_18 rfl (gz_b (by decide)) (wl_at (i := 17) rfl) rfl dX5_add_1 ?_
  refine go_iconst (pc := 4) (v := 5) dX5_add_4 (by decide) ?_
  refine go_imul (pc := 5) dX5_add_5 ?_
  refine go_top (y := 0) (by decide) ?_
  refine go_istore (pc := 6) (lv' := [(6, .int 0), (0, .ref (G.2.1 + 17)), (1, .int 5), (2, .int x2), (3, .int x3), (4, .int x4), (5, .int x5)]) dX5_add_6 (by decide) rfl ?_
  refine go_aload_n (pc := 8) dX5_add_8 rfl rfl ?_
  refine go_get (pc := 9) fX5_9 rfl (gz_b (by decide)) (wl_at (i := 17) rfl) rfl dX5_add_9 ?_
  refine go_iload (pc := 12) dX5_add_12 rfl ?_
  refine go_iload_n (pc := 14) dX5_add_14 rfl rfl ?_
  refine go_iast (pc := 15) (gz_b (by decide)) (wl_at (i := 18) rfl) (gv_in (by decide)) dX5_add_15 ?_
  refine go_ext (wl_up (i := 18) rfl rfl) ?_
  refine go_aload_n (pc := 16) dX5_add_16 rfl rfl ?_
  refine go_get (pc := 17) fX5_9 rfl (gz_b (by decide)) (wl_at (i := 17) rfl) rfl dX5_add_17 ?_
  refine go_iload (pc := 20) dX5_add_20 rfl ?_
  refine go_iconst (pc := 22) (v := 1) dX5_add_22 (by decide) ?_
  refine go_iadd (pc := 23) dX5_add_23 ?_
  refine go_top (y := 1) (by decide) ?_
  refine go_iload_n (pc := 24) dX5_add_24 rfl rfl ?_
  refine go_iast (pc := 25) (gz_b (by decide)) (wl_at (i := 18) rfl) (gv_in (by decide)) dX5_add_25 ?_
  refine go_ext (wl_up (i := 18) rfl rfl) ?_
  refine go_aload_n (pc := 26) dX5_add_26 rfl rfl ?_
  refine go_get (pc := 27) fX5_9 rfl (gz_b (by decide)) (wl_at (i := 17) rfl) rfl dX5_add_27 ?_
  refine go_iload (pc := 30) dX5_add_30 rfl ?_
  refine go_iconst (pc := 32) (v := 2) dX5_add_32 (by decide) ?_
  refine go_iadd (pc := 33) dX5_add_33 ?_
  refine go_top (y := 2) (by decide) ?_
  refine go_iload_n (pc := 34) dX5_add_34 rfl rfl ?_
  refine go_iast (pc := 35) (gz_b (by decide)) (wl_at (i := 18) rfl) (gv_in (by decide)) dX5_add_35 ?_
  refine go_ext (wl_up (i := 18) rfl rfl) ?_
  refine go_aload_n (pc := 36) dX5_add_36 rfl rfl ?_
  refine go_get (pc := 37) fX5_9 rfl (gz_b (by decide)) (wl_at (i := 17) rfl) rfl dX5_add_37 ?_
  refine go_iload (pc := 40) dX5_add_40 rfl ?_
  refine go_iconst (pc := 42) (v := 3) dX5_add_42 (by decide) ?_
  refine go_iadd (pc := 43) dX5_add_43 ?_
  refine go_top (y := 3) (by decide) ?_
  refine go_iload (pc := 44) dX5_add_44 rfl ?_
  refine go_iast (pc := 46) (gz_b (by decide)) (wl_at (i := 18) rfl) (gv_in (by decide)) dX5_add_46 ?_
  refine go_ext (wl_up (i := 18) rfl rfl) ?_
  refine go_aload_n (pc := 47) dX5_add_47 rfl rfl ?_
  refine go_get (pc := 48) fX5_9 rfl (gz_b (by decide)) (wl_at (i := 17) rfl) rfl dX5_add_48 ?_
  refine go_iload (pc := 51) dX5_add_51 rfl ?_
  refine go_iconst (pc := 53) (v := 4) dX5_add_53 (by decide) ?_
  refine go_iadd (pc := 54) dX5_add_54 ?_
  refine go_top (y := 4) (by decide) ?_
  refine go_iload (pc := 55) dX5_add_55 rfl ?_
  refine go_iast (pc := 57) (gz_b (by decide)) (wl_at (i := 18) rfl) (gv_in (by decide)) dX5_add_57 ?_
  refine go_ext (wl_up (i := 18) rfl rfl) ?_
  refine go_aload_n (pc := 58) dX5_add_58 rfl rfl ?_
  refine go_dup (pc := 59) dX5_add_59 rfl ?_
  refine go_get (pc := 60) fX5_18 rfl (gz_b (by decide)) (wl_at (i := 17) rfl) rfl dX5_add_60 ?_
  refine go_iconst (pc := 63) (v := 1) dX5_add_63 (by decide) ?_
  refine go_iadd (pc := 64) dX5_add_64 ?_
  refine go_top (y := 1) (by decide) ?_
  refine go_put (pc := 65) fX5_18 rfl (gz_b (by decide)) (wl_at (i := 17) rfl) (Nat.le_of_ble_eq_true rfl) rfl rfl dX5_add_65 ?_
  refine go_ext (wl_up (i := 17) rfl rfl) ?_
  refine go_w (show _ = wl G.2.1 [ob 9 [.ref (G.2.1 + 1), .ref (G.2.1 + 23), .ref (G.2.1 + 27), .ref (G.2.1 + 28), .ref (G.2.1 + 22), .int 0, .int 0, .null, .int 0, .null, .int 0], ob 6 [.ref (G.2.1 + 2), .ref (G.2.1 + 6), .ref (G.2.1 + 12), .ref (G.2.1 + 14), .ref (G.2.1 + 17), .ref (G.2.1 + 20), .ref (G.2.1 + 21)], ob 2 [.int 256, .int 0, .int 0, .int 0, .ref (G.2.1 + 3), .ref (G.2.1 + 4), .ref (G.2.1 + 5)], ai G 256 (fun _ => 0), ai G 500 (fun _ => (-1)), ai G 500 (fun _ => 0), ob 3 [.int 0, .int 0, .int 0, .int 0, .ref (G.2.1 + 7), .ref (G.2.1 + 8), .ref (G.2.1 + 9), .ref (G.2.1 + 10), .ref (G.2.1 + 11)], ai G 500 (fun _ => 0), ai G 500 (fun _ => 0), ai G 500 (fun _ => 0), ai G 500 (fun _ => 0), ai G 500 (fun _ => 0), ob 8 [.int 0, .int 0, .int 0, .int 0, .int 0, .int 0, .ref (G.2.1 + 13)], ai G 300 (fun _ => 0), ob 4 [.int 0, .ref (G.2.1 + 15), .ref (G.2.1 + 16)], ai G 1295 (fun _ => 0), ai G 1295 (fun _ => 0), ob 5 [.int 1, .int 0, .int 0, .int 0, .ref (G.2.1 + 18), .ref (G.2.1 + 19)], ai G 200 (upd (upd (upd (upd (upd (fun _ => 0) (0 : Int32).toNatClampNeg 5) (1 : Int32).toNatClampNeg x2) (2 : Int32).toNatClampNeg x3) (3 : Int32).toNatClampNeg x4) (4 : Int32).toNatClampNeg x5), ai G 8 (fun _ => (-1)), ai G 24 (fun _ => (-1)), ai G 32 (fun _ => (-1)), ai G 14 (fun _ => 0), ob 7 [.ref (G.2.1 + 1), .ref (G.2.1 + 2), .ref (G.2.1 + 6), .ref (G.2.1 + 22), .ref (G.2.1 + 24), .int 0, .ref (G.2.1 + 25), .ref (G.2.1 + 26), .int 0], ai G 500 (fun _ => 0), ai G 500 (fun _ => 0), ai G 500 (fun _ => 0), ob 0 [.ref (G.2.1 + 1), .ref (G.2.1 + 2), .ref (G.2.1 + 23), .int 0], ob 1 [.ref (G.2.1 + 29), .int 0, .int 0, .ref (G.2.1 + 30), .ref (G.2.1 + 31)], ai G 0 (fun _ => 0), ai G 500 (fun _ => 0), ai G 501 (fun _ => 0), ob 10 [.ref (G.2.1 + 33), .ref (G.2.1 + 34), .ref (G.2.1 + 35), .int 0, .int 0, .int 0, .int 0, .int 0, .ref (G.2.1 + 36), .ref (G.2.1 + 37), .ref (G.2.1 + 38), .ref (G.2.1 + 39), .int 0, .ref (G.2.1 + 40), .int 0, .ref (G.2.1 + 41)], ai G 26100 (sx 256), ai G 26100 (fun _ => 0), ai G 26100 (fun _ => 0), ai G 14 (fun _ => 0), ai G 500 (fun _ => 0), ai G 500 (fun _ => 0), az G 500 (fun _ => 0), ai G 501 (fun _ => 0), ai G 500 (fun _ => 0)] from rfl) ?_
  exact go_vret (pc := 68) rfl dX5_add_68
set_option maxRecDepth 100000 in
set_option maxHeartbeats 4000000 in
theorem cx_act_5_tt {l : Launch} {G : gG} (x2 : Int32) (x3 : Int32) (x4 : Int32) (x5 : Int32) (c0 : (if x2 < 0 then (1 : Int32) else (if x2 < 8 then (0 : Int32) else 1)) = 0) (c1 : (if x3 < 0 then (1 : Int32) else (if x3 < 8 then (0 : Int32) else 1)) = 0) : Ct l G mX9_act 1 26 [.ref (G.2.1 + 0), .int 5, .int x2, .int x3, .int x4, .int x5] 42 90324 (wl G.2.1 (LF G)) (some (.int 1), 42, 90324, (wl G.2.1 [ob 9 [.ref (G.2.1 + 1), .ref (G.2.1 + 23), .ref (G.2.1 + 27), .ref (G.2.1 + 28), .ref (G.2.1 + 22), .int 0, .int 0, .null, .int 0, .null, .int 0], ob 6 [.ref (G.2.1 + 2), .ref (G.2.1 + 6), .ref (G.2.1 + 12), .ref (G.2.1 + 14), .ref (G.2.1 + 17), .ref (G.2.1 + 20), .ref (G.2.1 + 21)], ob 2 [.int 256, .int 0, .int 0, .int 0, .ref (G.2.1 + 3), .ref (G.2.1 + 4), .ref (G.2.1 + 5)], ai G 256 (fun _ => 0), ai G 500 (fun _ => (-1)), ai G 500 (fun _ => 0), ob 3 [.int 0, .int 0, .int 0, .int 0, .ref (G.2.1 + 7), .ref (G.2.1 + 8), .ref (G.2.1 + 9), .ref (G.2.1 + 10), .ref (G.2.1 + 11)], ai G 500 (fun _ => 0), ai G 500 (fun _ => 0), ai G 500 (fun _ => 0), ai G 500 (fun _ => 0), ai G 500 (fun _ => 0), ob 8 [.int 0, .int 0, .int 0, .int 0, .int 0, .int 0, .ref (G.2.1 + 13)], ai G 300 (fun _ => 0), ob 4 [.int 0, .ref (G.2.1 + 15), .ref (G.2.1 + 16)], ai G 1295 (fun _ => 0), ai G 1295 (fun _ => 0), ob 5 [.int 1, .int 0, .int 0, .int 0, .ref (G.2.1 + 18), .ref (G.2.1 + 19)], ai G 200 (upd (upd (upd (upd (upd (fun _ => 0) (0 : Int32).toNatClampNeg 5) (1 : Int32).toNatClampNeg x2) (2 : Int32).toNatClampNeg x3) (3 : Int32).toNatClampNeg x4) (4 : Int32).toNatClampNeg x5), ai G 8 (fun _ => (-1)), ai G 24 (fun _ => (-1)), ai G 32 (fun _ => (-1)), ai G 14 (fun _ => 0), ob 7 [.ref (G.2.1 + 1), .ref (G.2.1 + 2), .ref (G.2.1 + 6), .ref (G.2.1 + 22), .ref (G.2.1 + 24), .int 0, .ref (G.2.1 + 25), .ref (G.2.1 + 26), .int 0], ai G 500 (fun _ => 0), ai G 500 (fun _ => 0), ai G 500 (fun _ => 0), ob 0 [.ref (G.2.1 + 1), .ref (G.2.1 + 2), .ref (G.2.1 + 23), .int 0], ob 1 [.ref (G.2.1 + 29), .int 0, .int 0, .ref (G.2.1 + 30), .ref (G.2.1 + 31)], ai G 0 (fun _ => 0), ai G 500 (fun _ => 0), ai G 501 (fun _ => 0), ob 10 [.ref (G.2.1 + 33), .ref (G.2.1 + 34), .ref (G.2.1 + 35), .int 0, .int 0, .int 0, .int 0, .int 0, .ref (G.2.1 + 36), .ref (G.2.1 + 37), .ref (G.2.1 + 38), .ref (G.2.1 + 39), .int 0, .ref (G.2.1 + 40), .int 0, .ref (G.2.1 + 41)], ai G 26100 (sx 256), ai G 26100 (fun _ => 0), ai G 26100 (fun _ => 0), ai G 14 (fun _ => 0), ai G 500 (fun _ => 0), ai G 500 (fun _ => 0), az G 500 (fun _ => 0), ai G 501 (fun _ => 0), ai G 500 (fun _ => 0)])) := by
  refine Ct.of (by decide) (Nat.le_of_ble_eq_true rfl) ⟨Nat.le_refl _, Nat.le_refl _⟩ ?_
  show Go l G mX9_act _ 0 [(0, .ref (G.2.1 + 0)), (1, .int 5), (2, .int x2), (3, .int x3), (4, .int x4), (5, .int x5)] [] 42 90324 (wl G.2.1 (LF G))
  refine go_iload_n (pc := 0) dX9_act_0 rfl rfl ?_
  refine go_if_lt_f (pc := 1) (tgt := 10) dX9_act_1 (by decide) (by decide) ?_
  refine go_iload_n (pc := 4) dX9_act_4 rfl rfl ?_
  refine go_bipush (pc := 5) (v := 12) dX9_act_5 (by decide) ?_
  refine go_icmp_le_t (pc := 7) (tgt := 13) dX9_act_7 (by decide) (by decide) ?_
  refine go_gets (pc := 13) (i := 5) (by decide) rfl tX9_280 dX9_act_13 ?_
  refine go_iload_n (pc := 16) dX9_act_16 rfl rfl ?_
  refine go_tald (pc := 17) (i := 5) (by decide) (gv_in (by decide)) dX9_act_17 ?_
  refine go_top (y := 8) (by decide) ?_
  refine go_iload_n (pc := 18) dX9_act_18 rfl rfl ?_
  refine go_callS_i (pc := 19) sX9_283 rfl (cX9_isNoName_1 x2) rfl rfl (Nat.le_of_ble_eq_true rfl) ⟨Nat.le_of_ble_eq_true rfl, Nat.le_of_ble_eq_true rfl, (Nat.le_add_right _ _), (Nat.le_add_right _ _)⟩ dX9_act_19 ?_
  refine go_if_ne_f (pc := 22) (tgt := 50) dX9_act_22 (by decide) c0 ?_
  refine go_gets (pc := 25) (i := 6) (by decide) rfl tX9_286 dX9_act_25 ?_
  refine go_iload_n (pc := 28) dX9_act_28 rfl rfl ?_
  refine go_tald (pc := 29) (i := 6) (by decide) (gv_in (by decide)) dX9_act_29 ?_
  refine go_top (y := 8) (by decide) ?_
  refine go_iload_n (pc := 30) dX9_act_30 rfl rfl ?_
  refine go_callS_i (pc := 31) sX9_283 rfl (cX9_isNoName_6 x3) rfl rfl (Nat.le_of_ble_eq_true rfl) ⟨Nat.le_of_ble_eq_true rfl, Nat.le_of_ble_eq_true rfl, (Nat.le_add_right _ _), (Nat.le_add_right _ _)⟩ dX9_act_31 ?_
  refine go_if_ne_f (pc := 34) (tgt := 50) dX9_act_34 (by decide) c1 ?_
  refine go_gets (pc := 37) (i := 7) (by decide) rfl tX9_289 dX9_act_37 ?_
  refine go_iload_n (pc := 40) dX9_act_40 rfl rfl ?_
  refine go_tald (pc := 41) (i := 7) (by decide) (gv_in (by decide)) dX9_act_41 ?_
  refine go_top (y := 0) (by decide) ?_
  refine go_iload (pc := 42) dX9_act_42 rfl ?_
  refine go_callS_i (pc := 44) sX9_283 rfl (cX9_isNoName_3 x4) rfl rfl (Nat.le_of_ble_eq_true rfl) ⟨Nat.le_of_ble_eq_true rfl, Nat.le_of_ble_eq_true rfl, (Nat.le_add_right _ _), (Nat.le_add_right _ _)⟩ dX9_act_44 ?_
  refine go_if_eq_t (pc := 47) (tgt := 53) dX9_act_47 (by decide) (by decide) ?_
  refine go_iload_n (pc := 53) dX9_act_53 rfl rfl ?_
  refine go_if_ne_t (pc := 54) (tgt := 66) dX9_act_54 (by decide) (by decide) ?_
  refine go_iload_n (pc := 66) dX9_act_66 rfl rfl ?_
  refine go_bipush (pc := 67) (v := 9) dX9_act_67 (by decide) ?_
  refine go_icmp_ne_t (pc := 69) (tgt := 86) dX9_act_69 (by decide) (by decide) ?_
  refine go_aload_n (pc := 86) dX9_act_86 rfl rfl ?_
  refine go_get (pc := 87) fX9_12 rfl (gz_b (by decide)) (wl_at (i := 0) rfl) rfl dX9_act_87 ?_
  refine go_get (pc := 90) fX9_236 rfl (gz_b (by decide)) (wl_at (i := 1) rfl) rfl dX9_act_90 ?_
  refine go_get (pc := 93) fX9_240 rfl (gz_b (by decide)) (wl_at (i := 17) rfl) rfl dX9_act_93 ?_
  refine go_bipush (pc := 96) (v := 40) dX9_act_96 (by decide) ?_
  refine go_icmp_lt_t (pc := 98) (tgt := 104) dX9_act_98 (by decide) (by decide) ?_
  refine go_aload_n (pc := 104) dX9_act_104 rfl rfl ?_
  refine go_get (pc := 105) fX9_12 rfl (gz_b (by decide)) (wl_at (i := 0) rfl) rfl dX9_act_105 ?_
  refine go_get (pc := 108) fX9_236 rfl (gz_b (by decide)) (wl_at (i := 1) rfl) rfl dX9_act_108 ?_
  refine go_iload_n (pc := 111) dX9_act_111 rfl rfl ?_
  refine go_iload_n (pc := 112) dX9_act_112 rfl rfl ?_
  refine go_iload_n (pc := 113) dX9_act_113 rfl rfl ?_
  refine go_iload (pc := 114) dX9_act_114 rfl ?_
  refine go_iload (pc := 116) dX9_act_116 rfl ?_
  refine go_callV_v (pc := 118) vX9_292 rfl (cX5_add_6 x2 x3 x4 x5) rfl rfl (gz_b (by decide)) (wl_at (i := 17) rfl) rfl (Nat.le_of_ble_eq_true rfl) ⟨Nat.le_of_ble_eq_true rfl, Nat.le_of_ble_eq_true rfl, (Nat.le_add_right _ _), (Nat.le_add_right _ _)⟩ dX9_act_118 ?_
  refine go_aload_n (pc := 121) dX9_act_121 rfl rfl ?_
  refine go_get (pc := 122) fX9_12 rfl (gz_b (by decide)) (wl_at (i := 0) rfl) rfl dX9_act_122 ?_
  refine go_get (pc := 125) fX9_236 rfl (gz_b (by decide)) (wl_at (i := 1) rfl) rfl dX9_act_125 ?_
  refine go_get (pc := 128) fX9_240 rfl (gz_b (by decide)) (wl_at (i := 17) rfl) rfl dX9_act_128 ?_
  exact go_iret (pc := 131) rfl dX9_act_131
set_option maxRecDepth 100000 in
set_option maxHeartbeats 4000000 in
theorem cx_act_5_tf {l : Launch} {G : gG} (x2 : Int32) (x3 : Int32) (x4 : Int32) (x5 : Int32) (c0 : (if x2 < 0 then (1 : Int32) else (if x2 < 8 then (0 : Int32) else 1)) = 0) (c1 : ¬ (if x3 < 0 then (1 : Int32) else (if x3 < 8 then (0 : Int32) else 1)) = 0) : Ct l G mX9_act 1 21 [.ref (G.2.1 + 0), .int 5, .int x2, .int x3, .int x4, .int x5] 42 90324 (wl G.2.1 (LF G)) (some (.int ((-101))), 42, 90324, (wl G.2.1 (LF G))) := by
  refine Ct.of (by decide) (Nat.le_of_ble_eq_true rfl) ⟨Nat.le_refl _, Nat.le_refl _⟩ ?_
  show Go l G mX9_act _ 0 [(0, .ref (G.2.1 + 0)), (1, .int 5), (2, .int x2), (3, .int x3), (4, .int x4), (5, .int x5)] [] 42 90324 (wl G.2.1 (LF G))
  refine go_iload_n (pc := 0) dX9_act_0 rfl rfl ?_
  refine go_if_lt_f (pc := 1) (tgt := 10) dX9_act_1 (by decide) (by decide) ?_
  refine go_iload_n (pc := 4) dX9_act_4 rfl rfl ?_
  refine go_bipush (pc := 5) (v := 12) dX9_act_5 (by decide) ?_
  refine go_icmp_le_t (pc := 7) (tgt := 13) dX9_act_7 (by decide) (by decide) ?_
  refine go_gets (pc := 13) (i := 5) (by decide) rfl tX9_280 dX9_act_13 ?_
  refine go_iload_n (pc := 16) dX9_act_16 rfl rfl ?_
  refine go_tald (pc := 17) (i := 5) (by decide) (gv_in (by decide)) dX9_act_17 ?_
  refine go_top (y := 8) (by decide) ?_
  refine go_iload_n (pc := 18) dX9_act_18 rfl rfl ?_
  refine go_callS_i (pc := 19) sX9_283 rfl (cX9_isNoName_1 x2) rfl rfl (Nat.le_of_ble_eq_true rfl) ⟨Nat.le_of_ble_eq_true rfl, Nat.le_of_ble_eq_true rfl, (Nat.le_add_right _ _), (Nat.le_add_right _ _)⟩ dX9_act_19 ?_
  refine go_if_ne_f (pc := 22) (tgt := 50) dX9_act_22 (by decide) c0 ?_
  refine go_gets (pc := 25) (i := 6) (by decide) rfl tX9_286 dX9_act_25 ?_
  refine go_iload_n (pc := 28) dX9_act_28 rfl rfl ?_
  refine go_tald (pc := 29) (i := 6) (by decide) (gv_in (by decide)) dX9_act_29 ?_
  refine go_top (y := 8) (by decide) ?_
  refine go_iload_n (pc := 30) dX9_act_30 rfl rfl ?_
  refine go_callS_i (pc := 31) sX9_283 rfl (cX9_isNoName_6 x3) rfl rfl (Nat.le_of_ble_eq_true rfl) ⟨Nat.le_of_ble_eq_true rfl, Nat.le_of_ble_eq_true rfl, (Nat.le_add_right _ _), (Nat.le_add_right _ _)⟩ dX9_act_31 ?_
  refine go_if_ne_t (pc := 34) (tgt := 50) dX9_act_34 (by decide) c1 ?_
  refine go_bipush (pc := 50) (v := (-101)) dX9_act_50 (by decide) ?_
  exact go_iret (pc := 52) rfl dX9_act_52
set_option maxRecDepth 100000 in
set_option maxHeartbeats 4000000 in
theorem cx_act_5_f {l : Launch} {G : gG} (x2 : Int32) (x3 : Int32) (x4 : Int32) (x5 : Int32) (c0 : ¬ (if x2 < 0 then (1 : Int32) else (if x2 < 8 then (0 : Int32) else 1)) = 0) : Ct l G mX9_act 1 21 [.ref (G.2.1 + 0), .int 5, .int x2, .int x3, .int x4, .int x5] 42 90324 (wl G.2.1 (LF G)) (some (.int ((-101))), 42, 90324, (wl G.2.1 (LF G))) := by
  refine Ct.of (by decide) (Nat.le_of_ble_eq_true rfl) ⟨Nat.le_refl _, Nat.le_refl _⟩ ?_
  show Go l G mX9_act _ 0 [(0, .ref (G.2.1 + 0)), (1, .int 5), (2, .int x2), (3, .int x3), (4, .int x4), (5, .int x5)] [] 42 90324 (wl G.2.1 (LF G))
  refine go_iload_n (pc := 0) dX9_act_0 rfl rfl ?_
  refine go_if_lt_f (pc := 1) (tgt := 10) dX9_act_1 (by decide) (by decide) ?_
  refine go_iload_n (pc := 4) dX9_act_4 rfl rfl ?_
  refine go_bipush (pc := 5) (v := 12) dX9_act_5 (by decide) ?_
  refine go_icmp_le_t (pc := 7) (tgt := 13) dX9_act_7 (by decide) (by decide) ?_
  refine go_gets (pc := 13) (i := 5) (by decide) rfl tX9_280 dX9_act_13 ?_
  refine go_iload_n (pc := 16) dX9_act_16 rfl rfl ?_
  refine go_tald (pc := 17) (i := 5) (by decide) (gv_in (by decide)) dX9_act_17 ?_
  refine go_top (y := 8) (by decide) ?_
  refine go_iload_n (pc := 18) dX9_act_18 rfl rfl ?_
  refine go_callS_i (pc := 19) sX9_283 rfl (cX9_isNoName_1 x2) rfl rfl (Nat.le_of_ble_eq_true rfl) ⟨Nat.le_of_ble_eq_true rfl, Nat.le_of_ble_eq_true rfl, (Nat.le_add_right _ _), (Nat.le_add_right _ _)⟩ dX9_act_19 ?_
  refine go_if_ne_t (pc := 22) (tgt := 50) dX9_act_22 (by decide) c0 ?_
  refine go_bipush (pc := 50) (v := (-101)) dX9_act_50 (by decide) ?_
  exact go_iret (pc := 52) rfl dX9_act_52
theorem cx_act_5 {l : Launch} {G : gG} (x2 : Int32) (x3 : Int32) (x4 : Int32) (x5 : Int32) : CX l G mX9_act [.ref (G.2.1 + 0), .int 5, .int x2, .int x3, .int x4, .int x5] ((if (if x2 < 0 then (1 : Int32) else (if x2 < 8 then (0 : Int32) else 1)) = 0 then (if (if x3 < 0 then (1 : Int32) else (if x3 < 8 then (0 : Int32) else 1)) = 0 then 1 else (-101)) else (-101))) := by
  by_cases c0 : (if x2 < 0 then (1 : Int32) else (if x2 < 8 then (0 : Int32) else 1)) = 0
  · rw [if_pos c0]
    by_cases c1 : (if x3 < 0 then (1 : Int32) else (if x3 < 8 then (0 : Int32) else 1)) = 0
    · rw [if_pos c1]
      exact ⟨1, 26, 42, 90324, _, by decide, by decide, by decide, by decide, by decide, (by exact wl_frame rfl), cx_act_5_tt x2 x3 x4 x5 c0 c1⟩
    · rw [if_neg c1]
      exact ⟨1, 21, 42, 90324, _, by decide, by decide, by decide, by decide, by decide, (by exact wl_frame rfl), cx_act_5_tf x2 x3 x4 x5 c0 c1⟩
  · rw [if_neg c0]
    exact ⟨1, 21, 42, 90324, _, by decide, by decide, by decide, by decide, by decide, (by exact wl_frame rfl), cx_act_5_f x2 x3 x4 x5 c0⟩
set_option maxRecDepth 100000 in
set_option maxHeartbeats 4000000 in
theorem cX5_add_7 {l : Launch} {G : gG} (x2 : Int32) (x3 : Int32) (x4 : Int32) (x5 : Int32) : Ct l G mX5_add 0 0 [.ref (G.2.1 + 17), .int 6, .int x2, .int x3, .int x4, .int x5] 42 90324 (wl G.2.1 (LF G)) (none, 42, 90324, (wl G.2.1 [ob 9 [.ref (G.2.1 + 1), .ref (G.2.1 + 23), .ref (G.2.1 + 27), .ref (G.2.1 + 28), .ref (G.2.1 + 22), .int 0, .int 0, .null, .int 0, .null, .int 0], ob 6 [.ref (G.2.1 + 2), .ref (G.2.1 + 6), .ref (G.2.1 + 12), .ref (G.2.1 + 14), .ref (G.2.1 + 17), .ref (G.2.1 + 20), .ref (G.2.1 + 21)], ob 2 [.int 256, .int 0, .int 0, .int 0, .ref (G.2.1 + 3), .ref (G.2.1 + 4), .ref (G.2.1 + 5)], ai G 256 (fun _ => 0), ai G 500 (fun _ => (-1)), ai G 500 (fun _ => 0), ob 3 [.int 0, .int 0, .int 0, .int 0, .ref (G.2.1 + 7), .ref (G.2.1 + 8), .ref (G.2.1 + 9), .ref (G.2.1 + 10), .ref (G.2.1 + 11)], ai G 500 (fun _ => 0), ai G 500 (fun _ => 0), ai G 500 (fun _ => 0), ai G 500 (fun _ => 0), ai G 500 (fun _ => 0), ob 8 [.int 0, .int 0, .int 0, .int 0, .int 0, .int 0, .ref (G.2.1 + 13)], ai G 300 (fun _ => 0), ob 4 [.int 0, .ref (G.2.1 + 15), .ref (G.2.1 + 16)], ai G 1295 (fun _ => 0), ai G 1295 (fun _ => 0), ob 5 [.int 1, .int 0, .int 0, .int 0, .ref (G.2.1 + 18), .ref (G.2.1 + 19)], ai G 200 (upd (upd (upd (upd (upd (fun _ => 0) (0 : Int32).toNatClampNeg 6) (1 : Int32).toNatClampNeg x2) (2 : Int32).toNatClampNeg x3) (3 : Int32).toNatClampNeg x4) (4 : Int32).toNatClampNeg x5), ai G 8 (fun _ => (-1)), ai G 24 (fun _ => (-1)), ai G 32 (fun _ => (-1)), ai G 14 (fun _ => 0), ob 7 [.ref (G.2.1 + 1), .ref (G.2.1 + 2), .ref (G.2.1 + 6), .ref (G.2.1 + 22), .ref (G.2.1 + 24), .int 0, .ref (G.2.1 + 25), .ref (G.2.1 + 26), .int 0], ai G 500 (fun _ => 0), ai G 500 (fun _ => 0), ai G 500 (fun _ => 0), ob 0 [.ref (G.2.1 + 1), .ref (G.2.1 + 2), .ref (G.2.1 + 23), .int 0], ob 1 [.ref (G.2.1 + 29), .int 0, .int 0, .ref (G.2.1 + 30), .ref (G.2.1 + 31)], ai G 0 (fun _ => 0), ai G 500 (fun _ => 0), ai G 501 (fun _ => 0), ob 10 [.ref (G.2.1 + 33), .ref (G.2.1 + 34), .ref (G.2.1 + 35), .int 0, .int 0, .int 0, .int 0, .int 0, .ref (G.2.1 + 36), .ref (G.2.1 + 37), .ref (G.2.1 + 38), .ref (G.2.1 + 39), .int 0, .ref (G.2.1 + 40), .int 0, .ref (G.2.1 + 41)], ai G 26100 (sx 256), ai G 26100 (fun _ => 0), ai G 26100 (fun _ => 0), ai G 14 (fun _ => 0), ai G 500 (fun _ => 0), ai G 500 (fun _ => 0), az G 500 (fun _ => 0), ai G 501 (fun _ => 0), ai G 500 (fun _ => 0)])) := by
  refine Ct.of (by decide) (Nat.le_of_ble_eq_true rfl) ⟨Nat.le_refl _, Nat.le_refl _⟩ ?_
  show Go l G mX5_add _ 0 [(0, .ref (G.2.1 + 17)), (1, .int 6), (2, .int x2), (3, .int x3), (4, .int x4), (5, .int x5)] [] 42 90324 (wl G.2.1 (LF G))
  refine go_aload_n (pc := 0) dX5_add_0 rfl rfl ?_
  refine go_get (pc := 1) fX5_18 rfl (gz_b (by decide)) (wl_at (i := 17) rfl) rfl dX5_add_1 ?_
  refine go_iconst (pc := 4) (v := 5) dX5_add_4 (by decide) ?_
  refine go_imul (pc := 5) dX5_add_5 ?_
  refine go_top (y := 0) (by decide) ?_
  refine go_istore (pc := 6) (lv' := [(6, .int 0), (0, .ref (G.2.1 + 17)), (1, .int 6), (2, .int x2), (3, .int x3), (4, .int x4), (5, .int x5)]) dX5_add_6 (by decide) rfl ?_
  refine go_aload_n (pc := 8) dX5_add_8 rfl rfl ?_
  refine go_get (pc := 9) fX5_9 rfl (gz_b (by decide)) (wl_at (i := 17) rfl) rfl dX5_add_9 ?_
  refine go_iload (pc := 12) dX5_add_12 rfl ?_
  refine go_iload_n (pc := 14) dX5_add_14 rfl rfl ?_
  refine go_iast (pc := 15) (gz_b (by decide)) (wl_at (i := 18) rfl) (gv_in (by decide)) dX5_add_15 ?_
  refine go_ext (wl_up (i := 18) rfl rfl) ?_
  refine go_aload_n (pc := 16) dX5_add_16 rfl rfl ?_
  refine go_get (pc := 17) fX5_9 rfl (gz_b (by decide)) (wl_at (i := 17) rfl) rfl dX5_add_17 ?_
  refine go_iload (pc := 20) dX5_add_20 rfl ?_
  refine go_iconst (pc := 22) (v := 1) dX5_add_22 (by decide) ?_
  refine go_iadd (pc := 23) dX5_add_23 ?_
  refine go_top (y := 1) (by decide) ?_
  refine go_iload_n (pc := 24) dX5_add_24 rfl rfl ?_
  refine go_iast (pc := 25) (gz_b (by decide)) (wl_at (i := 18) rfl) (gv_in (by decide)) dX5_add_25 ?_
  refine go_ext (wl_up (i := 18) rfl rfl) ?_
  refine go_aload_n (pc := 26) dX5_add_26 rfl rfl ?_
  refine go_get (pc := 27) fX5_9 rfl (gz_b (by decide)) (wl_at (i := 17) rfl) rfl dX5_add_27 ?_
  refine go_iload (pc := 30) dX5_add_30 rfl ?_
  refine go_iconst (pc := 32) (v := 2) dX5_add_32 (by decide) ?_
  refine go_iadd (pc := 33) dX5_add_33 ?_
  refine go_top (y := 2) (by decide) ?_
  refine go_iload_n (pc := 34) dX5_add_34 rfl rfl ?_
  refine go_iast (pc := 35) (gz_b (by decide)) (wl_at (i := 18) rfl) (gv_in (by decide)) dX5_add_35 ?_
  refine go_ext (wl_up (i := 18) rfl rfl) ?_
  refine go_aload_n (pc := 36) dX5_add_36 rfl rfl ?_
  refine go_get (pc := 37) fX5_9 rfl (gz_b (by decide)) (wl_at (i := 17) rfl) rfl dX5_add_37 ?_
  refine go_iload (pc := 40) dX5_add_40 rfl ?_
  refine go_iconst (pc := 42) (v := 3) dX5_add_42 (by decide) ?_
  refine go_iadd (pc := 43) dX5_add_43 ?_
  refine go_top (y := 3) (by decide) ?_
  refine go_iload (pc := 44) dX5_add_44 rfl ?_
  refine go_iast (pc := 46) (gz_b (by decide)) (wl_at (i := 18) rfl) (gv_in (by decide)) dX5_add_46 ?_
  refine go_ext (wl_up (i := 18) rfl rfl) ?_
  refine go_aload_n (pc := 47) dX5_add_47 rfl rfl ?_
  refine go_get (pc := 48) fX5_9 rfl (gz_b (by decide)) (wl_at (i := 17) rfl) rfl dX5_add_48 ?_
  refine go_iload (pc := 51) dX5_add_51 rfl ?_
  refine go_iconst (pc := 53) (v := 4) dX5_add_53 (by decide) ?_
  refine go_iadd (pc := 54) dX5_add_54 ?_
  refine go_top (y := 4) (by decide) ?_
  refine go_iload (pc := 55) dX5_add_55 rfl ?_
  refine go_iast (pc := 57) (gz_b (by decide)) (wl_at (i := 18) rfl) (gv_in (by decide)) dX5_add_57 ?_
  refine go_ext (wl_up (i := 18) rfl rfl) ?_
  refine go_aload_n (pc := 58) dX5_add_58 rfl rfl ?_
  refine go_dup (pc := 59) dX5_add_59 rfl ?_
  refine go_get (pc := 60) fX5_18 rfl (gz_b (by decide)) (wl_at (i := 17) rfl) rfl dX5_add_60 ?_
  refine go_iconst (pc := 63) (v := 1) dX5_add_63 (by decide) ?_
  refine go_iadd (pc := 64) dX5_add_64 ?_
  refine go_top (y := 1) (by decide) ?_
  refine go_put (pc := 65) fX5_18 rfl (gz_b (by decide)) (wl_at (i := 17) rfl) (Nat.le_of_ble_eq_true rfl) rfl rfl dX5_add_65 ?_
  refine go_ext (wl_up (i := 17) rfl rfl) ?_
  refine go_w (show _ = wl G.2.1 [ob 9 [.ref (G.2.1 + 1), .ref (G.2.1 + 23), .ref (G.2.1 + 27), .ref (G.2.1 + 28), .ref (G.2.1 + 22), .int 0, .int 0, .null, .int 0, .null, .int 0], ob 6 [.ref (G.2.1 + 2), .ref (G.2.1 + 6), .ref (G.2.1 + 12), .ref (G.2.1 + 14), .ref (G.2.1 + 17), .ref (G.2.1 + 20), .ref (G.2.1 + 21)], ob 2 [.int 256, .int 0, .int 0, .int 0, .ref (G.2.1 + 3), .ref (G.2.1 + 4), .ref (G.2.1 + 5)], ai G 256 (fun _ => 0), ai G 500 (fun _ => (-1)), ai G 500 (fun _ => 0), ob 3 [.int 0, .int 0, .int 0, .int 0, .ref (G.2.1 + 7), .ref (G.2.1 + 8), .ref (G.2.1 + 9), .ref (G.2.1 + 10), .ref (G.2.1 + 11)], ai G 500 (fun _ => 0), ai G 500 (fun _ => 0), ai G 500 (fun _ => 0), ai G 500 (fun _ => 0), ai G 500 (fun _ => 0), ob 8 [.int 0, .int 0, .int 0, .int 0, .int 0, .int 0, .ref (G.2.1 + 13)], ai G 300 (fun _ => 0), ob 4 [.int 0, .ref (G.2.1 + 15), .ref (G.2.1 + 16)], ai G 1295 (fun _ => 0), ai G 1295 (fun _ => 0), ob 5 [.int 1, .int 0, .int 0, .int 0, .ref (G.2.1 + 18), .ref (G.2.1 + 19)], ai G 200 (upd (upd (upd (upd (upd (fun _ => 0) (0 : Int32).toNatClampNeg 6) (1 : Int32).toNatClampNeg x2) (2 : Int32).toNatClampNeg x3) (3 : Int32).toNatClampNeg x4) (4 : Int32).toNatClampNeg x5), ai G 8 (fun _ => (-1)), ai G 24 (fun _ => (-1)), ai G 32 (fun _ => (-1)), ai G 14 (fun _ => 0), ob 7 [.ref (G.2.1 + 1), .ref (G.2.1 + 2), .ref (G.2.1 + 6), .ref (G.2.1 + 22), .ref (G.2.1 + 24), .int 0, .ref (G.2.1 + 25), .ref (G.2.1 + 26), .int 0], ai G 500 (fun _ => 0), ai G 500 (fun _ => 0), ai G 500 (fun _ => 0), ob 0 [.ref (G.2.1 + 1), .ref (G.2.1 + 2), .ref (G.2.1 + 23), .int 0], ob 1 [.ref (G.2.1 + 29), .int 0, .int 0, .ref (G.2.1 + 30), .ref (G.2.1 + 31)], ai G 0 (fun _ => 0), ai G 500 (fun _ => 0), ai G 501 (fun _ => 0), ob 10 [.ref (G.2.1 + 33), .ref (G.2.1 + 34), .ref (G.2.1 + 35), .int 0, .int 0, .int 0, .int 0, .int 0, .ref (G.2.1 + 36), .ref (G.2.1 + 37), .ref (G.2.1 + 38), .ref (G.2.1 + 39), .int 0, .ref (G.2.1 + 40), .int 0, .ref (G.2.1 + 41)], ai G 26100 (sx 256), ai G 26100 (fun _ => 0), ai G 26100 (fun _ => 0), ai G 14 (fun _ => 0), ai G 500 (fun _ => 0), ai G 500 (fun _ => 0), az G 500 (fun _ => 0), ai G 501 (fun _ => 0), ai G 500 (fun _ => 0)] from rfl) ?_
  exact go_vret (pc := 68) rfl dX5_add_68
set_option maxRecDepth 100000 in
set_option maxHeartbeats 4000000 in
theorem cx_act_6_tt {l : Launch} {G : gG} (x2 : Int32) (x3 : Int32) (x4 : Int32) (x5 : Int32) (c0 : (if x2 < 0 then (1 : Int32) else (if x2 < 8 then (0 : Int32) else 1)) = 0) (c1 : (if x3 < 0 then (1 : Int32) else (if x3 < 8 then (0 : Int32) else 1)) = 0) : Ct l G mX9_act 1 26 [.ref (G.2.1 + 0), .int 6, .int x2, .int x3, .int x4, .int x5] 42 90324 (wl G.2.1 (LF G)) (some (.int 1), 42, 90324, (wl G.2.1 [ob 9 [.ref (G.2.1 + 1), .ref (G.2.1 + 23), .ref (G.2.1 + 27), .ref (G.2.1 + 28), .ref (G.2.1 + 22), .int 0, .int 0, .null, .int 0, .null, .int 0], ob 6 [.ref (G.2.1 + 2), .ref (G.2.1 + 6), .ref (G.2.1 + 12), .ref (G.2.1 + 14), .ref (G.2.1 + 17), .ref (G.2.1 + 20), .ref (G.2.1 + 21)], ob 2 [.int 256, .int 0, .int 0, .int 0, .ref (G.2.1 + 3), .ref (G.2.1 + 4), .ref (G.2.1 + 5)], ai G 256 (fun _ => 0), ai G 500 (fun _ => (-1)), ai G 500 (fun _ => 0), ob 3 [.int 0, .int 0, .int 0, .int 0, .ref (G.2.1 + 7), .ref (G.2.1 + 8), .ref (G.2.1 + 9), .ref (G.2.1 + 10), .ref (G.2.1 + 11)], ai G 500 (fun _ => 0), ai G 500 (fun _ => 0), ai G 500 (fun _ => 0), ai G 500 (fun _ => 0), ai G 500 (fun _ => 0), ob 8 [.int 0, .int 0, .int 0, .int 0, .int 0, .int 0, .ref (G.2.1 + 13)], ai G 300 (fun _ => 0), ob 4 [.int 0, .ref (G.2.1 + 15), .ref (G.2.1 + 16)], ai G 1295 (fun _ => 0), ai G 1295 (fun _ => 0), ob 5 [.int 1, .int 0, .int 0, .int 0, .ref (G.2.1 + 18), .ref (G.2.1 + 19)], ai G 200 (upd (upd (upd (upd (upd (fun _ => 0) (0 : Int32).toNatClampNeg 6) (1 : Int32).toNatClampNeg x2) (2 : Int32).toNatClampNeg x3) (3 : Int32).toNatClampNeg x4) (4 : Int32).toNatClampNeg x5), ai G 8 (fun _ => (-1)), ai G 24 (fun _ => (-1)), ai G 32 (fun _ => (-1)), ai G 14 (fun _ => 0), ob 7 [.ref (G.2.1 + 1), .ref (G.2.1 + 2), .ref (G.2.1 + 6), .ref (G.2.1 + 22), .ref (G.2.1 + 24), .int 0, .ref (G.2.1 + 25), .ref (G.2.1 + 26), .int 0], ai G 500 (fun _ => 0), ai G 500 (fun _ => 0), ai G 500 (fun _ => 0), ob 0 [.ref (G.2.1 + 1), .ref (G.2.1 + 2), .ref (G.2.1 + 23), .int 0], ob 1 [.ref (G.2.1 + 29), .int 0, .int 0, .ref (G.2.1 + 30), .ref (G.2.1 + 31)], ai G 0 (fun _ => 0), ai G 500 (fun _ => 0), ai G 501 (fun _ => 0), ob 10 [.ref (G.2.1 + 33), .ref (G.2.1 + 34), .ref (G.2.1 + 35), .int 0, .int 0, .int 0, .int 0, .int 0, .ref (G.2.1 + 36), .ref (G.2.1 + 37), .ref (G.2.1 + 38), .ref (G.2.1 + 39), .int 0, .ref (G.2.1 + 40), .int 0, .ref (G.2.1 + 41)], ai G 26100 (sx 256), ai G 26100 (fun _ => 0), ai G 26100 (fun _ => 0), ai G 14 (fun _ => 0), ai G 500 (fun _ => 0), ai G 500 (fun _ => 0), az G 500 (fun _ => 0), ai G 501 (fun _ => 0), ai G 500 (fun _ => 0)])) := by
  refine Ct.of (by decide) (Nat.le_of_ble_eq_true rfl) ⟨Nat.le_refl _, Nat.le_refl _⟩ ?_
  show Go l G mX9_act _ 0 [(0, .ref (G.2.1 + 0)), (1, .int 6), (2, .int x2), (3, .int x3), (4, .int x4), (5, .int x5)] [] 42 90324 (wl G.2.1 (LF G))
  refine go_iload_n (pc := 0) dX9_act_0 rfl rfl ?_
  refine go_if_lt_f (pc := 1) (tgt := 10) dX9_act_1 (by decide) (by decide) ?_
  refine go_iload_n (pc := 4) dX9_act_4 rfl rfl ?_
  refine go_bipush (pc := 5) (v := 12) dX9_act_5 (by decide) ?_
  refine go_icmp_le_t (pc := 7) (tgt := 13) dX9_act_7 (by decide) (by decide) ?_
  refine go_gets (pc := 13) (i := 5) (by decide) rfl tX9_280 dX9_act_13 ?_
  refine go_iload_n (pc := 16) dX9_act_16 rfl rfl ?_
  refine go_tald (pc := 17) (i := 5) (by decide) (gv_in (by decide)) dX9_act_17 ?_
  refine go_top (y := 8) (by decide) ?_
  refine go_iload_n (pc := 18) dX9_act_18 rfl rfl ?_
  refine go_callS_i (pc := 19) sX9_283 rfl (cX9_isNoName_1 x2) rfl rfl (Nat.le_of_ble_eq_true rfl) ⟨Nat.le_of_ble_eq_true rfl, Nat.le_of_ble_eq_true rfl, (Nat.le_add_right _ _), (Nat.le_add_right _ _)⟩ dX9_act_19 ?_
  refine go_if_ne_f (pc := 22) (tgt := 50) dX9_act_22 (by decide) c0 ?_
  refine go_gets (pc := 25) (i := 6) (by decide) rfl tX9_286 dX9_act_25 ?_
  refine go_iload_n (pc := 28) dX9_act_28 rfl rfl ?_
  refine go_tald (pc := 29) (i := 6) (by decide) (gv_in (by decide)) dX9_act_29 ?_
  refine go_top (y := 8) (by decide) ?_
  refine go_iload_n (pc := 30) dX9_act_30 rfl rfl ?_
  refine go_callS_i (pc := 31) sX9_283 rfl (cX9_isNoName_6 x3) rfl rfl (Nat.le_of_ble_eq_true rfl) ⟨Nat.le_of_ble_eq_true rfl, Nat.le_of_ble_eq_true rfl, (Nat.le_add_right _ _), (Nat.le_add_right _ _)⟩ dX9_act_31 ?_
  refine go_if_ne_f (pc := 34) (tgt := 50) dX9_act_34 (by decide) c1 ?_
  refine go_gets (pc := 37) (i := 7) (by decide) rfl tX9_289 dX9_act_37 ?_
  refine go_iload_n (pc := 40) dX9_act_40 rfl rfl ?_
  refine go_tald (pc := 41) (i := 7) (by decide) (gv_in (by decide)) dX9_act_41 ?_
  refine go_top (y := 0) (by decide) ?_
  refine go_iload (pc := 42) dX9_act_42 rfl ?_
  refine go_callS_i (pc := 44) sX9_283 rfl (cX9_isNoName_3 x4) rfl rfl (Nat.le_of_ble_eq_true rfl) ⟨Nat.le_of_ble_eq_true rfl, Nat.le_of_ble_eq_true rfl, (Nat.le_add_right _ _), (Nat.le_add_right _ _)⟩ dX9_act_44 ?_
  refine go_if_eq_t (pc := 47) (tgt := 53) dX9_act_47 (by decide) (by decide) ?_
  refine go_iload_n (pc := 53) dX9_act_53 rfl rfl ?_
  refine go_if_ne_t (pc := 54) (tgt := 66) dX9_act_54 (by decide) (by decide) ?_
  refine go_iload_n (pc := 66) dX9_act_66 rfl rfl ?_
  refine go_bipush (pc := 67) (v := 9) dX9_act_67 (by decide) ?_
  refine go_icmp_ne_t (pc := 69) (tgt := 86) dX9_act_69 (by decide) (by decide) ?_
  refine go_aload_n (pc := 86) dX9_act_86 rfl rfl ?_
  refine go_get (pc := 87) fX9_12 rfl (gz_b (by decide)) (wl_at (i := 0) rfl) rfl dX9_act_87 ?_
  refine go_get (pc := 90) fX9_236 rfl (gz_b (by decide)) (wl_at (i := 1) rfl) rfl dX9_act_90 ?_
  refine go_get (pc := 93) fX9_240 rfl (gz_b (by decide)) (wl_at (i := 17) rfl) rfl dX9_act_93 ?_
  refine go_bipush (pc := 96) (v := 40) dX9_act_96 (by decide) ?_
  refine go_icmp_lt_t (pc := 98) (tgt := 104) dX9_act_98 (by decide) (by decide) ?_
  refine go_aload_n (pc := 104) dX9_act_104 rfl rfl ?_
  refine go_get (pc := 105) fX9_12 rfl (gz_b (by decide)) (wl_at (i := 0) rfl) rfl dX9_act_105 ?_
  refine go_get (pc := 108) fX9_236 rfl (gz_b (by decide)) (wl_at (i := 1) rfl) rfl dX9_act_108 ?_
  refine go_iload_n (pc := 111) dX9_act_111 rfl rfl ?_
  refine go_iload_n (pc := 112) dX9_act_112 rfl rfl ?_
  refine go_iload_n (pc := 113) dX9_act_113 rfl rfl ?_
  refine go_iload (pc := 114) dX9_act_114 rfl ?_
  refine go_iload (pc := 116) dX9_act_116 rfl ?_
  refine go_callV_v (pc := 118) vX9_292 rfl (cX5_add_7 x2 x3 x4 x5) rfl rfl (gz_b (by decide)) (wl_at (i := 17) rfl) rfl (Nat.le_of_ble_eq_true rfl) ⟨Nat.le_of_ble_eq_true rfl, Nat.le_of_ble_eq_true rfl, (Nat.le_add_right _ _), (Nat.le_add_right _ _)⟩ dX9_act_118 ?_
  refine go_aload_n (pc := 121) dX9_act_121 rfl rfl ?_
  refine go_get (pc := 122) fX9_12 rfl (gz_b (by decide)) (wl_at (i := 0) rfl) rfl dX9_act_122 ?_
  refine go_get (pc := 125) fX9_236 rfl (gz_b (by decide)) (wl_at (i := 1) rfl) rfl dX9_act_125 ?_
  refine go_get (pc := 128) fX9_240 rfl (gz_b (by decide)) (wl_at (i := 17) rfl) rfl dX9_act_128 ?_
  exact go_iret (pc := 131) rfl dX9_act_131
set_option maxRecDepth 100000 in
set_option maxHeartbeats 4000000 in
theorem cx_act_6_tf {l : Launch} {G : gG} (x2 : Int32) (x3 : Int32) (x4 : Int32) (x5 : Int32) (c0 : (if x2 < 0 then (1 : Int32) else (if x2 < 8 then (0 : Int32) else 1)) = 0) (c1 : ¬ (if x3 < 0 then (1 : Int32) else (if x3 < 8 then (0 : Int32) else 1)) = 0) : Ct l G mX9_act 1 21 [.ref (G.2.1 + 0), .int 6, .int x2, .int x3, .int x4, .int x5] 42 90324 (wl G.2.1 (LF G)) (some (.int ((-101))), 42, 90324, (wl G.2.1 (LF G))) := by
  refine Ct.of (by decide) (Nat.le_of_ble_eq_true rfl) ⟨Nat.le_refl _, Nat.le_refl _⟩ ?_
  show Go l G mX9_act _ 0 [(0, .ref (G.2.1 + 0)), (1, .int 6), (2, .int x2), (3, .int x3), (4, .int x4), (5, .int x5)] [] 42 90324 (wl G.2.1 (LF G))
  refine go_iload_n (pc := 0) dX9_act_0 rfl rfl ?_
  refine go_if_lt_f (pc := 1) (tgt := 10) dX9_act_1 (by decide) (by decide) ?_
  refine go_iload_n (pc := 4) dX9_act_4 rfl rfl ?_
  refine go_bipush (pc := 5) (v := 12) dX9_act_5 (by decide) ?_
  refine go_icmp_le_t (pc := 7) (tgt := 13) dX9_act_7 (by decide) (by decide) ?_
  refine go_gets (pc := 13) (i := 5) (by decide) rfl tX9_280 dX9_act_13 ?_
  refine go_iload_n (pc := 16) dX9_act_16 rfl rfl ?_
  refine go_tald (pc := 17) (i := 5) (by decide) (gv_in (by decide)) dX9_act_17 ?_
  refine go_top (y := 8) (by decide) ?_
  refine go_iload_n (pc := 18) dX9_act_18 rfl rfl ?_
  refine go_callS_i (pc := 19) sX9_283 rfl (cX9_isNoName_1 x2) rfl rfl (Nat.le_of_ble_eq_true rfl) ⟨Nat.le_of_ble_eq_true rfl, Nat.le_of_ble_eq_true rfl, (Nat.le_add_right _ _), (Nat.le_add_right _ _)⟩ dX9_act_19 ?_
  refine go_if_ne_f (pc := 22) (tgt := 50) dX9_act_22 (by decide) c0 ?_
  refine go_gets (pc := 25) (i := 6) (by decide) rfl tX9_286 dX9_act_25 ?_
  refine go_iload_n (pc := 28) dX9_act_28 rfl rfl ?_
  refine go_tald (pc := 29) (i := 6) (by decide) (gv_in (by decide)) dX9_act_29 ?_
  refine go_top (y := 8) (by decide) ?_
  refine go_iload_n (pc := 30) dX9_act_30 rfl rfl ?_
  refine go_callS_i (pc := 31) sX9_283 rfl (cX9_isNoName_6 x3) rfl rfl (Nat.le_of_ble_eq_true rfl) ⟨Nat.le_of_ble_eq_true rfl, Nat.le_of_ble_eq_true rfl, (Nat.le_add_right _ _), (Nat.le_add_right _ _)⟩ dX9_act_31 ?_
  refine go_if_ne_t (pc := 34) (tgt := 50) dX9_act_34 (by decide) c1 ?_
  refine go_bipush (pc := 50) (v := (-101)) dX9_act_50 (by decide) ?_
  exact go_iret (pc := 52) rfl dX9_act_52
set_option maxRecDepth 100000 in
set_option maxHeartbeats 4000000 in
theorem cx_act_6_f {l : Launch} {G : gG} (x2 : Int32) (x3 : Int32) (x4 : Int32) (x5 : Int32) (c0 : ¬ (if x2 < 0 then (1 : Int32) else (if x2 < 8 then (0 : Int32) else 1)) = 0) : Ct l G mX9_act 1 21 [.ref (G.2.1 + 0), .int 6, .int x2, .int x3, .int x4, .int x5] 42 90324 (wl G.2.1 (LF G)) (some (.int ((-101))), 42, 90324, (wl G.2.1 (LF G))) := by
  refine Ct.of (by decide) (Nat.le_of_ble_eq_true rfl) ⟨Nat.le_refl _, Nat.le_refl _⟩ ?_
  show Go l G mX9_act _ 0 [(0, .ref (G.2.1 + 0)), (1, .int 6), (2, .int x2), (3, .int x3), (4, .int x4), (5, .int x5)] [] 42 90324 (wl G.2.1 (LF G))
  refine go_iload_n (pc := 0) dX9_act_0 rfl rfl ?_
  refine go_if_lt_f (pc := 1) (tgt := 10) dX9_act_1 (by decide) (by decide) ?_
  refine go_iload_n (pc := 4) dX9_act_4 rfl rfl ?_
  refine go_bipush (pc := 5) (v := 12) dX9_act_5 (by decide) ?_
  refine go_icmp_le_t (pc := 7) (tgt := 13) dX9_act_7 (by decide) (by decide) ?_
  refine go_gets (pc := 13) (i := 5) (by decide) rfl tX9_280 dX9_act_13 ?_
  refine go_iload_n (pc := 16) dX9_act_16 rfl rfl ?_
  refine go_tald (pc := 17) (i := 5) (by decide) (gv_in (by decide)) dX9_act_17 ?_
  refine go_top (y := 8) (by decide) ?_
  refine go_iload_n (pc := 18) dX9_act_18 rfl rfl ?_
  refine go_callS_i (pc := 19) sX9_283 rfl (cX9_isNoName_1 x2) rfl rfl (Nat.le_of_ble_eq_true rfl) ⟨Nat.le_of_ble_eq_true rfl, Nat.le_of_ble_eq_true rfl, (Nat.le_add_right _ _), (Nat.le_add_right _ _)⟩ dX9_act_19 ?_
  refine go_if_ne_t (pc := 22) (tgt := 50) dX9_act_22 (by decide) c0 ?_
  refine go_bipush (pc := 50) (v := (-101)) dX9_act_50 (by decide) ?_
  exact go_iret (pc := 52) rfl dX9_act_52
theorem cx_act_6 {l : Launch} {G : gG} (x2 : Int32) (x3 : Int32) (x4 : Int32) (x5 : Int32) : CX l G mX9_act [.ref (G.2.1 + 0), .int 6, .int x2, .int x3, .int x4, .int x5] ((if (if x2 < 0 then (1 : Int32) else (if x2 < 8 then (0 : Int32) else 1)) = 0 then (if (if x3 < 0 then (1 : Int32) else (if x3 < 8 then (0 : Int32) else 1)) = 0 then 1 else (-101)) else (-101))) := by
  by_cases c0 : (if x2 < 0 then (1 : Int32) else (if x2 < 8 then (0 : Int32) else 1)) = 0
  · rw [if_pos c0]
    by_cases c1 : (if x3 < 0 then (1 : Int32) else (if x3 < 8 then (0 : Int32) else 1)) = 0
    · rw [if_pos c1]
      exact ⟨1, 26, 42, 90324, _, by decide, by decide, by decide, by decide, by decide, (by exact wl_frame rfl), cx_act_6_tt x2 x3 x4 x5 c0 c1⟩
    · rw [if_neg c1]
      exact ⟨1, 21, 42, 90324, _, by decide, by decide, by decide, by decide, by decide, (by exact wl_frame rfl), cx_act_6_tf x2 x3 x4 x5 c0 c1⟩
  · rw [if_neg c0]
    exact ⟨1, 21, 42, 90324, _, by decide, by decide, by decide, by decide, by decide, (by exact wl_frame rfl), cx_act_6_f x2 x3 x4 x5 c0⟩
set_option maxRecDepth 100000 in
set_option maxHeartbeats 4000000 in
theorem cX5_add_8 {l : Launch} {G : gG} (x2 : Int32) (x3 : Int32) (x4 : Int32) (x5 : Int32) : Ct l G mX5_add 0 0 [.ref (G.2.1 + 17), .int 7, .int x2, .int x3, .int x4, .int x5] 42 90324 (wl G.2.1 (LF G)) (none, 42, 90324, (wl G.2.1 [ob 9 [.ref (G.2.1 + 1), .ref (G.2.1 + 23), .ref (G.2.1 + 27), .ref (G.2.1 + 28), .ref (G.2.1 + 22), .int 0, .int 0, .null, .int 0, .null, .int 0], ob 6 [.ref (G.2.1 + 2), .ref (G.2.1 + 6), .ref (G.2.1 + 12), .ref (G.2.1 + 14), .ref (G.2.1 + 17), .ref (G.2.1 + 20), .ref (G.2.1 + 21)], ob 2 [.int 256, .int 0, .int 0, .int 0, .ref (G.2.1 + 3), .ref (G.2.1 + 4), .ref (G.2.1 + 5)], ai G 256 (fun _ => 0), ai G 500 (fun _ => (-1)), ai G 500 (fun _ => 0), ob 3 [.int 0, .int 0, .int 0, .int 0, .ref (G.2.1 + 7), .ref (G.2.1 + 8), .ref (G.2.1 + 9), .ref (G.2.1 + 10), .ref (G.2.1 + 11)], ai G 500 (fun _ => 0), ai G 500 (fun _ => 0), ai G 500 (fun _ => 0), ai G 500 (fun _ => 0), ai G 500 (fun _ => 0), ob 8 [.int 0, .int 0, .int 0, .int 0, .int 0, .int 0, .ref (G.2.1 + 13)], ai G 300 (fun _ => 0), ob 4 [.int 0, .ref (G.2.1 + 15), .ref (G.2.1 + 16)], ai G 1295 (fun _ => 0), ai G 1295 (fun _ => 0), ob 5 [.int 1, .int 0, .int 0, .int 0, .ref (G.2.1 + 18), .ref (G.2.1 + 19)], ai G 200 (upd (upd (upd (upd (upd (fun _ => 0) (0 : Int32).toNatClampNeg 7) (1 : Int32).toNatClampNeg x2) (2 : Int32).toNatClampNeg x3) (3 : Int32).toNatClampNeg x4) (4 : Int32).toNatClampNeg x5), ai G 8 (fun _ => (-1)), ai G 24 (fun _ => (-1)), ai G 32 (fun _ => (-1)), ai G 14 (fun _ => 0), ob 7 [.ref (G.2.1 + 1), .ref (G.2.1 + 2), .ref (G.2.1 + 6), .ref (G.2.1 + 22), .ref (G.2.1 + 24), .int 0, .ref (G.2.1 + 25), .ref (G.2.1 + 26), .int 0], ai G 500 (fun _ => 0), ai G 500 (fun _ => 0), ai G 500 (fun _ => 0), ob 0 [.ref (G.2.1 + 1), .ref (G.2.1 + 2), .ref (G.2.1 + 23), .int 0], ob 1 [.ref (G.2.1 + 29), .int 0, .int 0, .ref (G.2.1 + 30), .ref (G.2.1 + 31)], ai G 0 (fun _ => 0), ai G 500 (fun _ => 0), ai G 501 (fun _ => 0), ob 10 [.ref (G.2.1 + 33), .ref (G.2.1 + 34), .ref (G.2.1 + 35), .int 0, .int 0, .int 0, .int 0, .int 0, .ref (G.2.1 + 36), .ref (G.2.1 + 37), .ref (G.2.1 + 38), .ref (G.2.1 + 39), .int 0, .ref (G.2.1 + 40), .int 0, .ref (G.2.1 + 41)], ai G 26100 (sx 256), ai G 26100 (fun _ => 0), ai G 26100 (fun _ => 0), ai G 14 (fun _ => 0), ai G 500 (fun _ => 0), ai G 500 (fun _ => 0), az G 500 (fun _ => 0), ai G 501 (fun _ => 0), ai G 500 (fun _ => 0)])) := by
  refine Ct.of (by decide) (Nat.le_of_ble_eq_true rfl) ⟨Nat.le_refl _, Nat.le_refl _⟩ ?_
  show Go l G mX5_add _ 0 [(0, .ref (G.2.1 + 17)), (1, .int 7), (2, .int x2), (3, .int x3), (4, .int x4), (5, .int x5)] [] 42 90324 (wl G.2.1 (LF G))
  refine go_aload_n (pc := 0) dX5_add_0 rfl rfl ?_
  refine go_get (pc := 1) fX5_18 rfl (gz_b (by decide)) (wl_at (i := 17) rfl) rfl dX5_add_1 ?_
  refine go_iconst (pc := 4) (v := 5) dX5_add_4 (by decide) ?_
  refine go_imul (pc := 5) dX5_add_5 ?_
  refine go_top (y := 0) (by decide) ?_
  refine go_istore (pc := 6) (lv' := [(6, .int 0), (0, .ref (G.2.1 + 17)), (1, .int 7), (2, .int x2), (3, .int x3), (4, .int x4), (5, .int x5)]) dX5_add_6 (by decide) rfl ?_
  refine go_aload_n (pc := 8) dX5_add_8 rfl rfl ?_
  refine go_get (pc := 9) fX5_9 rfl (gz_b (by decide)) (wl_at (i := 17) rfl) rfl dX5_add_9 ?_
  refine go_iload (pc := 12) dX5_add_12 rfl ?_
  refine go_iload_n (pc := 14) dX5_add_14 rfl rfl ?_
  refine go_iast (pc := 15) (gz_b (by decide)) (wl_at (i := 18) rfl) (gv_in (by decide)) dX5_add_15 ?_
  refine go_ext (wl_up (i := 18) rfl rfl) ?_
  refine go_aload_n (pc := 16) dX5_add_16 rfl rfl ?_
  refine go_get (pc := 17) fX5_9 rfl (gz_b (by decide)) (wl_at (i := 17) rfl) rfl dX5_add_17 ?_
  refine go_iload (pc := 20) dX5_add_20 rfl ?_
  refine go_iconst (pc := 22) (v := 1) dX5_add_22 (by decide) ?_
  refine go_iadd (pc := 23) dX5_add_23 ?_
  refine go_top (y := 1) (by decide) ?_
  refine go_iload_n (pc := 24) dX5_add_24 rfl rfl ?_
  refine go_iast (pc := 25) (gz_b (by decide)) (wl_at (i := 18) rfl) (gv_in (by decide)) dX5_add_25 ?_
  refine go_ext (wl_up (i := 18) rfl rfl) ?_
  refine go_aload_n (pc := 26) dX5_add_26 rfl rfl ?_
  refine go_get (pc := 27) fX5_9 rfl (gz_b (by decide)) (wl_at (i := 17) rfl) rfl dX5_add_27 ?_
  refine go_iload (pc := 30) dX5_add_30 rfl ?_
  refine go_iconst (pc := 32) (v := 2) dX5_add_32 (by decide) ?_
  refine go_iadd (pc := 33) dX5_add_33 ?_
  refine go_top (y := 2) (by decide) ?_
  refine go_iload_n (pc := 34) dX5_add_34 rfl rfl ?_
  refine go_iast (pc := 35) (gz_b (by decide)) (wl_at (i := 18) rfl) (gv_in (by decide)) dX5_add_35 ?_
  refine go_ext (wl_up (i := 18) rfl rfl) ?_
  refine go_aload_n (pc := 36) dX5_add_36 rfl rfl ?_
  refine go_get (pc := 37) fX5_9 rfl (gz_b (by decide)) (wl_at (i := 17) rfl) rfl dX5_add_37 ?_
  refine go_iload (pc := 40) dX5_add_40 rfl ?_
  refine go_iconst (pc := 42) (v := 3) dX5_add_42 (by decide) ?_
  refine go_iadd (pc := 43) dX5_add_43 ?_
  refine go_top (y := 3) (by decide) ?_
  refine go_iload (pc := 44) dX5_add_44 rfl ?_
  refine go_iast (pc := 46) (gz_b (by decide)) (wl_at (i := 18) rfl) (gv_in (by decide)) dX5_add_46 ?_
  refine go_ext (wl_up (i := 18) rfl rfl) ?_
  refine go_aload_n (pc := 47) dX5_add_47 rfl rfl ?_
  refine go_get (pc := 48) fX5_9 rfl (gz_b (by decide)) (wl_at (i := 17) rfl) rfl dX5_add_48 ?_
  refine go_iload (pc := 51) dX5_add_51 rfl ?_
  refine go_iconst (pc := 53) (v := 4) dX5_add_53 (by decide) ?_
  refine go_iadd (pc := 54) dX5_add_54 ?_
  refine go_top (y := 4) (by decide) ?_
  refine go_iload (pc := 55) dX5_add_55 rfl ?_
  refine go_iast (pc := 57) (gz_b (by decide)) (wl_at (i := 18) rfl) (gv_in (by decide)) dX5_add_57 ?_
  refine go_ext (wl_up (i := 18) rfl rfl) ?_
  refine go_aload_n (pc := 58) dX5_add_58 rfl rfl ?_
  refine go_dup (pc := 59) dX5_add_59 rfl ?_
  refine go_get (pc := 60) fX5_18 rfl (gz_b (by decide)) (wl_at (i := 17) rfl) rfl dX5_add_60 ?_
  refine go_iconst (pc := 63) (v := 1) dX5_add_63 (by decide) ?_
  refine go_iadd (pc := 64) dX5_add_64 ?_
  refine go_top (y := 1) (by decide) ?_
  refine go_put (pc := 65) fX5_18 rfl (gz_b (by decide)) (wl_at (i := 17) rfl) (Nat.le_of_ble_eq_true rfl) rfl rfl dX5_add_65 ?_
  refine go_ext (wl_up (i := 17) rfl rfl) ?_
  refine go_w (show _ = wl G.2.1 [ob 9 [.ref (G.2.1 + 1), .ref (G.2.1 + 23), .ref (G.2.1 + 27), .ref (G.2.1 + 28), .ref (G.2.1 + 22), .int 0, .int 0, .null, .int 0, .null, .int 0], ob 6 [.ref (G.2.1 + 2), .ref (G.2.1 + 6), .ref (G.2.1 + 12), .ref (G.2.1 + 14), .ref (G.2.1 + 17), .ref (G.2.1 + 20), .ref (G.2.1 + 21)], ob 2 [.int 256, .int 0, .int 0, .int 0, .ref (G.2.1 + 3), .ref (G.2.1 + 4), .ref (G.2.1 + 5)], ai G 256 (fun _ => 0), ai G 500 (fun _ => (-1)), ai G 500 (fun _ => 0), ob 3 [.int 0, .int 0, .int 0, .int 0, .ref (G.2.1 + 7), .ref (G.2.1 + 8), .ref (G.2.1 + 9), .ref (G.2.1 + 10), .ref (G.2.1 + 11)], ai G 500 (fun _ => 0), ai G 500 (fun _ => 0), ai G 500 (fun _ => 0), ai G 500 (fun _ => 0), ai G 500 (fun _ => 0), ob 8 [.int 0, .int 0, .int 0, .int 0, .int 0, .int 0, .ref (G.2.1 + 13)], ai G 300 (fun _ => 0), ob 4 [.int 0, .ref (G.2.1 + 15), .ref (G.2.1 + 16)], ai G 1295 (fun _ => 0), ai G 1295 (fun _ => 0), ob 5 [.int 1, .int 0, .int 0, .int 0, .ref (G.2.1 + 18), .ref (G.2.1 + 19)], ai G 200 (upd (upd (upd (upd (upd (fun _ => 0) (0 : Int32).toNatClampNeg 7) (1 : Int32).toNatClampNeg x2) (2 : Int32).toNatClampNeg x3) (3 : Int32).toNatClampNeg x4) (4 : Int32).toNatClampNeg x5), ai G 8 (fun _ => (-1)), ai G 24 (fun _ => (-1)), ai G 32 (fun _ => (-1)), ai G 14 (fun _ => 0), ob 7 [.ref (G.2.1 + 1), .ref (G.2.1 + 2), .ref (G.2.1 + 6), .ref (G.2.1 + 22), .ref (G.2.1 + 24), .int 0, .ref (G.2.1 + 25), .ref (G.2.1 + 26), .int 0], ai G 500 (fun _ => 0), ai G 500 (fun _ => 0), ai G 500 (fun _ => 0), ob 0 [.ref (G.2.1 + 1), .ref (G.2.1 + 2), .ref (G.2.1 + 23), .int 0], ob 1 [.ref (G.2.1 + 29), .int 0, .int 0, .ref (G.2.1 + 30), .ref (G.2.1 + 31)], ai G 0 (fun _ => 0), ai G 500 (fun _ => 0), ai G 501 (fun _ => 0), ob 10 [.ref (G.2.1 + 33), .ref (G.2.1 + 34), .ref (G.2.1 + 35), .int 0, .int 0, .int 0, .int 0, .int 0, .ref (G.2.1 + 36), .ref (G.2.1 + 37), .ref (G.2.1 + 38), .ref (G.2.1 + 39), .int 0, .ref (G.2.1 + 40), .int 0, .ref (G.2.1 + 41)], ai G 26100 (sx 256), ai G 26100 (fun _ => 0), ai G 26100 (fun _ => 0), ai G 14 (fun _ => 0), ai G 500 (fun _ => 0), ai G 500 (fun _ => 0), az G 500 (fun _ => 0), ai G 501 (fun _ => 0), ai G 500 (fun _ => 0)] from rfl) ?_
  exact go_vret (pc := 68) rfl dX5_add_68
set_option maxRecDepth 100000 in
set_option maxHeartbeats 4000000 in
theorem cx_act_7_tt {l : Launch} {G : gG} (x2 : Int32) (x3 : Int32) (x4 : Int32) (x5 : Int32) (c0 : (if x2 < 0 then (1 : Int32) else (if x2 < 8 then (0 : Int32) else 1)) = 0) (c1 : (if x4 < 0 then (1 : Int32) else (if x4 < 8 then (0 : Int32) else 1)) = 0) : Ct l G mX9_act 1 26 [.ref (G.2.1 + 0), .int 7, .int x2, .int x3, .int x4, .int x5] 42 90324 (wl G.2.1 (LF G)) (some (.int 1), 42, 90324, (wl G.2.1 [ob 9 [.ref (G.2.1 + 1), .ref (G.2.1 + 23), .ref (G.2.1 + 27), .ref (G.2.1 + 28), .ref (G.2.1 + 22), .int 0, .int 0, .null, .int 0, .null, .int 0], ob 6 [.ref (G.2.1 + 2), .ref (G.2.1 + 6), .ref (G.2.1 + 12), .ref (G.2.1 + 14), .ref (G.2.1 + 17), .ref (G.2.1 + 20), .ref (G.2.1 + 21)], ob 2 [.int 256, .int 0, .int 0, .int 0, .ref (G.2.1 + 3), .ref (G.2.1 + 4), .ref (G.2.1 + 5)], ai G 256 (fun _ => 0), ai G 500 (fun _ => (-1)), ai G 500 (fun _ => 0), ob 3 [.int 0, .int 0, .int 0, .int 0, .ref (G.2.1 + 7), .ref (G.2.1 + 8), .ref (G.2.1 + 9), .ref (G.2.1 + 10), .ref (G.2.1 + 11)], ai G 500 (fun _ => 0), ai G 500 (fun _ => 0), ai G 500 (fun _ => 0), ai G 500 (fun _ => 0), ai G 500 (fun _ => 0), ob 8 [.int 0, .int 0, .int 0, .int 0, .int 0, .int 0, .ref (G.2.1 + 13)], ai G 300 (fun _ => 0), ob 4 [.int 0, .ref (G.2.1 + 15), .ref (G.2.1 + 16)], ai G 1295 (fun _ => 0), ai G 1295 (fun _ => 0), ob 5 [.int 1, .int 0, .int 0, .int 0, .ref (G.2.1 + 18), .ref (G.2.1 + 19)], ai G 200 (upd (upd (upd (upd (upd (fun _ => 0) (0 : Int32).toNatClampNeg 7) (1 : Int32).toNatClampNeg x2) (2 : Int32).toNatClampNeg x3) (3 : Int32).toNatClampNeg x4) (4 : Int32).toNatClampNeg x5), ai G 8 (fun _ => (-1)), ai G 24 (fun _ => (-1)), ai G 32 (fun _ => (-1)), ai G 14 (fun _ => 0), ob 7 [.ref (G.2.1 + 1), .ref (G.2.1 + 2), .ref (G.2.1 + 6), .ref (G.2.1 + 22), .ref (G.2.1 + 24), .int 0, .ref (G.2.1 + 25), .ref (G.2.1 + 26), .int 0], ai G 500 (fun _ => 0), ai G 500 (fun _ => 0), ai G 500 (fun _ => 0), ob 0 [.ref (G.2.1 + 1), .ref (G.2.1 + 2), .ref (G.2.1 + 23), .int 0], ob 1 [.ref (G.2.1 + 29), .int 0, .int 0, .ref (G.2.1 + 30), .ref (G.2.1 + 31)], ai G 0 (fun _ => 0), ai G 500 (fun _ => 0), ai G 501 (fun _ => 0), ob 10 [.ref (G.2.1 + 33), .ref (G.2.1 + 34), .ref (G.2.1 + 35), .int 0, .int 0, .int 0, .int 0, .int 0, .ref (G.2.1 + 36), .ref (G.2.1 + 37), .ref (G.2.1 + 38), .ref (G.2.1 + 39), .int 0, .ref (G.2.1 + 40), .int 0, .ref (G.2.1 + 41)], ai G 26100 (sx 256), ai G 26100 (fun _ => 0), ai G 26100 (fun _ => 0), ai G 14 (fun _ => 0), ai G 500 (fun _ => 0), ai G 500 (fun _ => 0), az G 500 (fun _ => 0), ai G 501 (fun _ => 0), ai G 500 (fun _ => 0)])) := by
  refine Ct.of (by decide) (Nat.le_of_ble_eq_true rfl) ⟨Nat.le_refl _, Nat.le_refl _⟩ ?_
  show Go l G mX9_act _ 0 [(0, .ref (G.2.1 + 0)), (1, .int 7), (2, .int x2), (3, .int x3), (4, .int x4), (5, .int x5)] [] 42 90324 (wl G.2.1 (LF G))
  refine go_iload_n (pc := 0) dX9_act_0 rfl rfl ?_
  refine go_if_lt_f (pc := 1) (tgt := 10) dX9_act_1 (by decide) (by decide) ?_
  refine go_iload_n (pc := 4) dX9_act_4 rfl rfl ?_
  refine go_bipush (pc := 5) (v := 12) dX9_act_5 (by decide) ?_
  refine go_icmp_le_t (pc := 7) (tgt := 13) dX9_act_7 (by decide) (by decide) ?_
  refine go_gets (pc := 13) (i := 5) (by decide) rfl tX9_280 dX9_act_13 ?_
  refine go_iload_n (pc := 16) dX9_act_16 rfl rfl ?_
  refine go_tald (pc := 17) (i := 5) (by decide) (gv_in (by decide)) dX9_act_17 ?_
  refine go_top (y := 8) (by decide) ?_
  refine go_iload_n (pc := 18) dX9_act_18 rfl rfl ?_
  refine go_callS_i (pc := 19) sX9_283 rfl (cX9_isNoName_1 x2) rfl rfl (Nat.le_of_ble_eq_true rfl) ⟨Nat.le_of_ble_eq_true rfl, Nat.le_of_ble_eq_true rfl, (Nat.le_add_right _ _), (Nat.le_add_right _ _)⟩ dX9_act_19 ?_
  refine go_if_ne_f (pc := 22) (tgt := 50) dX9_act_22 (by decide) c0 ?_
  refine go_gets (pc := 25) (i := 6) (by decide) rfl tX9_286 dX9_act_25 ?_
  refine go_iload_n (pc := 28) dX9_act_28 rfl rfl ?_
  refine go_tald (pc := 29) (i := 6) (by decide) (gv_in (by decide)) dX9_act_29 ?_
  refine go_top (y := 0) (by decide) ?_
  refine go_iload_n (pc := 30) dX9_act_30 rfl rfl ?_
  refine go_callS_i (pc := 31) sX9_283 rfl (cX9_isNoName_2 x3) rfl rfl (Nat.le_of_ble_eq_true rfl) ⟨Nat.le_of_ble_eq_true rfl, Nat.le_of_ble_eq_true rfl, (Nat.le_add_right _ _), (Nat.le_add_right _ _)⟩ dX9_act_31 ?_
  refine go_if_ne_f (pc := 34) (tgt := 50) dX9_act_34 (by decide) (by decide) ?_
  refine go_gets (pc := 37) (i := 7) (by decide) rfl tX9_289 dX9_act_37 ?_
  refine go_iload_n (pc := 40) dX9_act_40 rfl rfl ?_
  refine go_tald (pc := 41) (i := 7) (by decide) (gv_in (by decide)) dX9_act_41 ?_
  refine go_top (y := 8) (by decide) ?_
  refine go_iload (pc := 42) dX9_act_42 rfl ?_
  refine go_callS_i (pc := 44) sX9_283 rfl (cX9_isNoName_4 x4) rfl rfl (Nat.le_of_ble_eq_true rfl) ⟨Nat.le_of_ble_eq_true rfl, Nat.le_of_ble_eq_true rfl, (Nat.le_add_right _ _), (Nat.le_add_right _ _)⟩ dX9_act_44 ?_
  refine go_if_eq_t (pc := 47) (tgt := 53) dX9_act_47 (by decide) c1 ?_
  refine go_iload_n (pc := 53) dX9_act_53 rfl rfl ?_
  refine go_if_ne_t (pc := 54) (tgt := 66) dX9_act_54 (by decide) (by decide) ?_
  refine go_iload_n (pc := 66) dX9_act_66 rfl rfl ?_
  refine go_bipush (pc := 67) (v := 9) dX9_act_67 (by decide) ?_
  refine go_icmp_ne_t (pc := 69) (tgt := 86) dX9_act_69 (by decide) (by decide) ?_
  refine go_aload_n (pc := 86) dX9_act_86 rfl rfl ?_
  refine go_get (pc := 87) fX9_12 rfl (gz_b (by decide)) (wl_at (i := 0) rfl) rfl dX9_act_87 ?_
  refine go_get (pc := 90) fX9_236 rfl (gz_b (by decide)) (wl_at (i := 1) rfl) rfl dX9_act_90 ?_
  refine go_get (pc := 93) fX9_240 rfl (gz_b (by decide)) (wl_at (i := 17) rfl) rfl dX9_act_93 ?_
  refine go_bipush (pc := 96) (v := 40) dX9_act_96 (by decide) ?_
  refine go_icmp_lt_t (pc := 98) (tgt := 104) dX9_act_98 (by decide) (by decide) ?_
  refine go_aload_n (pc := 104) dX9_act_104 rfl rfl ?_
  refine go_get (pc := 105) fX9_12 rfl (gz_b (by decide)) (wl_at (i := 0) rfl) rfl dX9_act_105 ?_
  refine go_get (pc := 108) fX9_236 rfl (gz_b (by decide)) (wl_at (i := 1) rfl) rfl dX9_act_108 ?_
  refine go_iload_n (pc := 111) dX9_act_111 rfl rfl ?_
  refine go_iload_n (pc := 112) dX9_act_112 rfl rfl ?_
  refine go_iload_n (pc := 113) dX9_act_113 rfl rfl ?_
  refine go_iload (pc := 114) dX9_act_114 rfl ?_
  refine go_iload (pc := 116) dX9_act_116 rfl ?_
  refine go_callV_v (pc := 118) vX9_292 rfl (cX5_add_8 x2 x3 x4 x5) rfl rfl (gz_b (by decide)) (wl_at (i := 17) rfl) rfl (Nat.le_of_ble_eq_true rfl) ⟨Nat.le_of_ble_eq_true rfl, Nat.le_of_ble_eq_true rfl, (Nat.le_add_right _ _), (Nat.le_add_right _ _)⟩ dX9_act_118 ?_
  refine go_aload_n (pc := 121) dX9_act_121 rfl rfl ?_
  refine go_get (pc := 122) fX9_12 rfl (gz_b (by decide)) (wl_at (i := 0) rfl) rfl dX9_act_122 ?_
  refine go_get (pc := 125) fX9_236 rfl (gz_b (by decide)) (wl_at (i := 1) rfl) rfl dX9_act_125 ?_
  refine go_get (pc := 128) fX9_240 rfl (gz_b (by decide)) (wl_at (i := 17) rfl) rfl dX9_act_128 ?_
  exact go_iret (pc := 131) rfl dX9_act_131
set_option maxRecDepth 100000 in
set_option maxHeartbeats 4000000 in
theorem cx_act_7_tf {l : Launch} {G : gG} (x2 : Int32) (x3 : Int32) (x4 : Int32) (x5 : Int32) (c0 : (if x2 < 0 then (1 : Int32) else (if x2 < 8 then (0 : Int32) else 1)) = 0) (c1 : ¬ (if x4 < 0 then (1 : Int32) else (if x4 < 8 then (0 : Int32) else 1)) = 0) : Ct l G mX9_act 1 21 [.ref (G.2.1 + 0), .int 7, .int x2, .int x3, .int x4, .int x5] 42 90324 (wl G.2.1 (LF G)) (some (.int ((-101))), 42, 90324, (wl G.2.1 (LF G))) := by
  refine Ct.of (by decide) (Nat.le_of_ble_eq_true rfl) ⟨Nat.le_refl _, Nat.le_refl _⟩ ?_
  show Go l G mX9_act _ 0 [(0, .ref (G.2.1 + 0)), (1, .int 7), (2, .int x2), (3, .int x3), (4, .int x4), (5, .int x5)] [] 42 90324 (wl G.2.1 (LF G))
  refine go_iload_n (pc := 0) dX9_act_0 rfl rfl ?_
  refine go_if_lt_f (pc := 1) (tgt := 10) dX9_act_1 (by decide) (by decide) ?_
  refine go_iload_n (pc := 4) dX9_act_4 rfl rfl ?_
  refine go_bipush (pc := 5) (v := 12) dX9_act_5 (by decide) ?_
  refine go_icmp_le_t (pc := 7) (tgt := 13) dX9_act_7 (by decide) (by decide) ?_
  refine go_gets (pc := 13) (i := 5) (by decide) rfl tX9_280 dX9_act_13 ?_
  refine go_iload_n (pc := 16) dX9_act_16 rfl rfl ?_
  refine go_tald (pc := 17) (i := 5) (by decide) (gv_in (by decide)) dX9_act_17 ?_
  refine go_top (y := 8) (by decide) ?_
  refine go_iload_n (pc := 18) dX9_act_18 rfl rfl ?_
  refine go_callS_i (pc := 19) sX9_283 rfl (cX9_isNoName_1 x2) rfl rfl (Nat.le_of_ble_eq_true rfl) ⟨Nat.le_of_ble_eq_true rfl, Nat.le_of_ble_eq_true rfl, (Nat.le_add_right _ _), (Nat.le_add_right _ _)⟩ dX9_act_19 ?_
  refine go_if_ne_f (pc := 22) (tgt := 50) dX9_act_22 (by decide) c0 ?_
  refine go_gets (pc := 25) (i := 6) (by decide) rfl tX9_286 dX9_act_25 ?_
  refine go_iload_n (pc := 28) dX9_act_28 rfl rfl ?_
  refine go_tald (pc := 29) (i := 6) (by decide) (gv_in (by decide)) dX9_act_29 ?_
  refine go_top (y := 0) (by decide) ?_
  refine go_iload_n (pc := 30) dX9_act_30 rfl rfl ?_
  refine go_callS_i (pc := 31) sX9_283 rfl (cX9_isNoName_2 x3) rfl rfl (Nat.le_of_ble_eq_true rfl) ⟨Nat.le_of_ble_eq_true rfl, Nat.le_of_ble_eq_true rfl, (Nat.le_add_right _ _), (Nat.le_add_right _ _)⟩ dX9_act_31 ?_
  refine go_if_ne_f (pc := 34) (tgt := 50) dX9_act_34 (by decide) (by decide) ?_
  refine go_gets (pc := 37) (i := 7) (by decide) rfl tX9_289 dX9_act_37 ?_
  refine go_iload_n (pc := 40) dX9_act_40 rfl rfl ?_
  refine go_tald (pc := 41) (i := 7) (by decide) (gv_in (by decide)) dX9_act_41 ?_
  refine go_top (y := 8) (by decide) ?_
  refine go_iload (pc := 42) dX9_act_42 rfl ?_
  refine go_callS_i (pc := 44) sX9_283 rfl (cX9_isNoName_4 x4) rfl rfl (Nat.le_of_ble_eq_true rfl) ⟨Nat.le_of_ble_eq_true rfl, Nat.le_of_ble_eq_true rfl, (Nat.le_add_right _ _), (Nat.le_add_right _ _)⟩ dX9_act_44 ?_
  refine go_if_eq_f (pc := 47) (tgt := 53) dX9_act_47 (by decide) c1 ?_
  refine go_bipush (pc := 50) (v := (-101)) dX9_act_50 (by decide) ?_
  exact go_iret (pc := 52) rfl dX9_act_52
set_option maxRecDepth 100000 in
set_option maxHeartbeats 4000000 in
theorem cx_act_7_f {l : Launch} {G : gG} (x2 : Int32) (x3 : Int32) (x4 : Int32) (x5 : Int32) (c0 : ¬ (if x2 < 0 then (1 : Int32) else (if x2 < 8 then (0 : Int32) else 1)) = 0) : Ct l G mX9_act 1 21 [.ref (G.2.1 + 0), .int 7, .int x2, .int x3, .int x4, .int x5] 42 90324 (wl G.2.1 (LF G)) (some (.int ((-101))), 42, 90324, (wl G.2.1 (LF G))) := by
  refine Ct.of (by decide) (Nat.le_of_ble_eq_true rfl) ⟨Nat.le_refl _, Nat.le_refl _⟩ ?_
  show Go l G mX9_act _ 0 [(0, .ref (G.2.1 + 0)), (1, .int 7), (2, .int x2), (3, .int x3), (4, .int x4), (5, .int x5)] [] 42 90324 (wl G.2.1 (LF G))
  refine go_iload_n (pc := 0) dX9_act_0 rfl rfl ?_
  refine go_if_lt_f (pc := 1) (tgt := 10) dX9_act_1 (by decide) (by decide) ?_
  refine go_iload_n (pc := 4) dX9_act_4 rfl rfl ?_
  refine go_bipush (pc := 5) (v := 12) dX9_act_5 (by decide) ?_
  refine go_icmp_le_t (pc := 7) (tgt := 13) dX9_act_7 (by decide) (by decide) ?_
  refine go_gets (pc := 13) (i := 5) (by decide) rfl tX9_280 dX9_act_13 ?_
  refine go_iload_n (pc := 16) dX9_act_16 rfl rfl ?_
  refine go_tald (pc := 17) (i := 5) (by decide) (gv_in (by decide)) dX9_act_17 ?_
  refine go_top (y := 8) (by decide) ?_
  refine go_iload_n (pc := 18) dX9_act_18 rfl rfl ?_
  refine go_callS_i (pc := 19) sX9_283 rfl (cX9_isNoName_1 x2) rfl rfl (Nat.le_of_ble_eq_true rfl) ⟨Nat.le_of_ble_eq_true rfl, Nat.le_of_ble_eq_true rfl, (Nat.le_add_right _ _), (Nat.le_add_right _ _)⟩ dX9_act_19 ?_
  refine go_if_ne_t (pc := 22) (tgt := 50) dX9_act_22 (by decide) c0 ?_
  refine go_bipush (pc := 50) (v := (-101)) dX9_act_50 (by decide) ?_
  exact go_iret (pc := 52) rfl dX9_act_52
theorem cx_act_7 {l : Launch} {G : gG} (x2 : Int32) (x3 : Int32) (x4 : Int32) (x5 : Int32) : CX l G mX9_act [.ref (G.2.1 + 0), .int 7, .int x2, .int x3, .int x4, .int x5] ((if (if x2 < 0 then (1 : Int32) else (if x2 < 8 then (0 : Int32) else 1)) = 0 then (if (if x4 < 0 then (1 : Int32) else (if x4 < 8 then (0 : Int32) else 1)) = 0 then 1 else (-101)) else (-101))) := by
  by_cases c0 : (if x2 < 0 then (1 : Int32) else (if x2 < 8 then (0 : Int32) else 1)) = 0
  · rw [if_pos c0]
    by_cases c1 : (if x4 < 0 then (1 : Int32) else (if x4 < 8 then (0 : Int32) else 1)) = 0
    · rw [if_pos c1]
      exact ⟨1, 26, 42, 90324, _, by decide, by decide, by decide, by decide, by decide, (by exact wl_frame rfl), cx_act_7_tt x2 x3 x4 x5 c0 c1⟩
    · rw [if_neg c1]
      exact ⟨1, 21, 42, 90324, _, by decide, by decide, by decide, by decide, by decide, (by exact wl_frame rfl), cx_act_7_tf x2 x3 x4 x5 c0 c1⟩
  · rw [if_neg c0]
    exact ⟨1, 21, 42, 90324, _, by decide, by decide, by decide, by decide, by decide, (by exact wl_frame rfl), cx_act_7_f x2 x3 x4 x5 c0⟩
set_option maxRecDepth 100000 in
set_option maxHeartbeats 4000000 in
theorem cX5_add_9 {l : Launch} {G : gG} (x2 : Int32) (x3 : Int32) (x4 : Int32) (x5 : Int32) : Ct l G mX5_add 0 0 [.ref (G.2.1 + 17), .int 8, .int x2, .int x3, .int x4, .int x5] 42 90324 (wl G.2.1 (LF G)) (none, 42, 90324, (wl G.2.1 [ob 9 [.ref (G.2.1 + 1), .ref (G.2.1 + 23), .ref (G.2.1 + 27), .ref (G.2.1 + 28), .ref (G.2.1 + 22), .int 0, .int 0, .null, .int 0, .null, .int 0], ob 6 [.ref (G.2.1 + 2), .ref (G.2.1 + 6), .ref (G.2.1 + 12), .ref (G.2.1 + 14), .ref (G.2.1 + 17), .ref (G.2.1 + 20), .ref (G.2.1 + 21)], ob 2 [.int 256, .int 0, .int 0, .int 0, .ref (G.2.1 + 3), .ref (G.2.1 + 4), .ref (G.2.1 + 5)], ai G 256 (fun _ => 0), ai G 500 (fun _ => (-1)), ai G 500 (fun _ => 0), ob 3 [.int 0, .int 0, .int 0, .int 0, .ref (G.2.1 + 7), .ref (G.2.1 + 8), .ref (G.2.1 + 9), .ref (G.2.1 + 10), .ref (G.2.1 + 11)], ai G 500 (fun _ => 0), ai G 500 (fun _ => 0), ai G 500 (fun _ => 0), ai G 500 (fun _ => 0), ai G 500 (fun _ => 0), ob 8 [.int 0, .int 0, .int 0, .int 0, .int 0, .int 0, .ref (G.2.1 + 13)], ai G 300 (fun _ => 0), ob 4 [.int 0, .ref (G.2.1 + 15), .ref (G.2.1 + 16)], ai G 1295 (fun _ => 0), ai G 1295 (fun _ => 0), ob 5 [.int 1, .int 0, .int 0, .int 0, .ref (G.2.1 + 18), .ref (G.2.1 + 19)], ai G 200 (upd (upd (upd (upd (upd (fun _ => 0) (0 : Int32).toNatClampNeg 8) (1 : Int32).toNatClampNeg x2) (2 : Int32).toNatClampNeg x3) (3 : Int32).toNatClampNeg x4) (4 : Int32).toNatClampNeg x5), ai G 8 (fun _ => (-1)), ai G 24 (fun _ => (-1)), ai G 32 (fun _ => (-1)), ai G 14 (fun _ => 0), ob 7 [.ref (G.2.1 + 1), .ref (G.2.1 + 2), .ref (G.2.1 + 6), .ref (G.2.1 + 22), .ref (G.2.1 + 24), .int 0, .ref (G.2.1 + 25), .ref (G.2.1 + 26), .int 0], ai G 500 (fun _ => 0), ai G 500 (fun _ => 0), ai G 500 (fun _ => 0), ob 0 [.ref (G.2.1 + 1), .ref (G.2.1 + 2), .ref (G.2.1 + 23), .int 0], ob 1 [.ref (G.2.1 + 29), .int 0, .int 0, .ref (G.2.1 + 30), .ref (G.2.1 + 31)], ai G 0 (fun _ => 0), ai G 500 (fun _ => 0), ai G 501 (fun _ => 0), ob 10 [.ref (G.2.1 + 33), .ref (G.2.1 + 34), .ref (G.2.1 + 35), .int 0, .int 0, .int 0, .int 0, .int 0, .ref (G.2.1 + 36), .ref (G.2.1 + 37), .ref (G.2.1 + 38), .ref (G.2.1 + 39), .int 0, .ref (G.2.1 + 40), .int 0, .ref (G.2.1 + 41)], ai G 26100 (sx 256), ai G 26100 (fun _ => 0), ai G 26100 (fun _ => 0), ai G 14 (fun _ => 0), ai G 500 (fun _ => 0), ai G 500 (fun _ => 0), az G 500 (fun _ => 0), ai G 501 (fun _ => 0), ai G 500 (fun _ => 0)])) := by
  refine Ct.of (by decide) (Nat.le_of_ble_eq_true rfl) ⟨Nat.le_refl _, Nat.le_refl _⟩ ?_
  show Go l G mX5_add _ 0 [(0, .ref (G.2.1 + 17)), (1, .int 8), (2, .int x2), (3, .int x3), (4, .int x4), (5, .int x5)] [] 42 90324 (wl G.2.1 (LF G))
  refine go_aload_n (pc := 0) dX5_add_0 rfl rfl ?_
  refine go_get (pc := 1) fX5_18 rfl (gz_b (by decide)) (wl_at (i := 17) rfl) rfl dX5_add_1 ?_
  refine go_iconst (pc := 4) (v := 5) dX5_add_4 (by decide) ?_
  refine go_imul (pc := 5) dX5_add_5 ?_
  refine go_top (y := 0) (by decide) ?_
  refine go_istore (pc := 6) (lv' := [(6, .int 0), (0, .ref (G.2.1 + 17)), (1, .int 8), (2, .int x2), (3, .int x3), (4, .int x4), (5, .int x5)]) dX5_add_6 (by decide) rfl ?_
  refine go_aload_n (pc := 8) dX5_add_8 rfl rfl ?_
  refine go_get (pc := 9) fX5_9 rfl (gz_b (by decide)) (wl_at (i := 17) rfl) rfl dX5_add_9 ?_
  refine go_iload (pc := 12) dX5_add_12 rfl ?_
  refine go_iload_n (pc := 14) dX5_add_14 rfl rfl ?_
  refine go_iast (pc := 15) (gz_b (by decide)) (wl_at (i := 18) rfl) (gv_in (by decide)) dX5_add_15 ?_
  refine go_ext (wl_up (i := 18) rfl rfl) ?_
  refine go_aload_n (pc := 16) dX5_add_16 rfl rfl ?_
  refine go_get (pc := 17) fX5_9 rfl (gz_b (by decide)) (wl_at (i := 17) rfl) rfl dX5_add_17 ?_
  refine go_iload (pc := 20) dX5_add_20 rfl ?_
  refine go_iconst (pc := 22) (v := 1) dX5_add_22 (by decide) ?_
  refine go_iadd (pc := 23) dX5_add_23 ?_
  refine go_top (y := 1) (by decide) ?_
  refine go_iload_n (pc := 24) dX5_add_24 rfl rfl ?_
  refine go_iast (pc := 25) (gz_b (by decide)) (wl_at (i := 18) rfl) (gv_in (by decide)) dX5_add_25 ?_
  refine go_ext (wl_up (i := 18) rfl rfl) ?_
  refine go_aload_n (pc := 26) dX5_add_26 rfl rfl ?_
  refine go_get (pc := 27) fX5_9 rfl (gz_b (by decide)) (wl_at (i := 17) rfl) rfl dX5_add_27 ?_
  refine go_iload (pc := 30) dX5_add_30 rfl ?_
  refine go_iconst (pc := 32) (v := 2) dX5_add_32 (by decide) ?_
  refine go_iadd (pc := 33) dX5_add_33 ?_
  refine go_top (y := 2) (by decide) ?_
  refine go_iload_n (pc := 34) dX5_add_34 rfl rfl ?_
  refine go_iast (pc := 35) (gz_b (by decide)) (wl_at (i := 18) rfl) (gv_in (by decide)) dX5_add_35 ?_
  refine go_ext (wl_up (i := 18) rfl rfl) ?_
  refine go_aload_n (pc := 36) dX5_add_36 rfl rfl ?_
  refine go_get (pc := 37) fX5_9 rfl (gz_b (by decide)) (wl_at (i := 17) rfl) rfl dX5_add_37 ?_
  refine go_iload (pc := 40) dX5_add_40 rfl ?_
  refine go_iconst (pc := 42) (v := 3) dX5_add_42 (by decide) ?_
  refine go_iadd (pc := 43) dX5_add_43 ?_
  refine go_top (y := 3) (by decide) ?_
  refine go_iload (pc := 44) dX5_add_44 rfl ?_
  refine go_iast (pc := 46) (gz_b (by decide)) (wl_at (i := 18) rfl) (gv_in (by decide)) dX5_add_46 ?_
  refine go_ext (wl_up (i := 18) rfl rfl) ?_
  refine go_aload_n (pc := 47) dX5_add_47 rfl rfl ?_
  refine go_get (pc := 48) fX5_9 rfl (gz_b (by decide)) (wl_at (i := 17) rfl) rfl dX5_add_48 ?_
  refine go_iload (pc := 51) dX5_add_51 rfl ?_
  refine go_iconst (pc := 53) (v := 4) dX5_add_53 (by decide) ?_
  refine go_iadd (pc := 54) dX5_add_54 ?_
  refine go_top (y := 4) (by decide) ?_
  refine go_iload (pc := 55) dX5_add_55 rfl ?_
  refine go_iast (pc := 57) (gz_b (by decide)) (wl_at (i := 18) rfl) (gv_in (by decide)) dX5_add_57 ?_
  refine go_ext (wl_up (i := 18) rfl rfl) ?_
  refine go_aload_n (pc := 58) dX5_add_58 rfl rfl ?_
  refine go_dup (pc := 59) dX5_add_59 rfl ?_
  refine go_get (pc := 60) fX5_18 rfl (gz_b (by decide)) (wl_at (i := 17) rfl) rfl dX5_add_60 ?_
  refine go_iconst (pc := 63) (v := 1) dX5_add_63 (by decide) ?_
  refine go_iadd (pc := 64) dX5_add_64 ?_
  refine go_top (y := 1) (by decide) ?_
  refine go_put (pc := 65) fX5_18 rfl (gz_b (by decide)) (wl_at (i := 17) rfl) (Nat.le_of_ble_eq_true rfl) rfl rfl dX5_add_65 ?_
  refine go_ext (wl_up (i := 17) rfl rfl) ?_
  refine go_w (show _ = wl G.2.1 [ob 9 [.ref (G.2.1 + 1), .ref (G.2.1 + 23), .ref (G.2.1 + 27), .ref (G.2.1 + 28), .ref (G.2.1 + 22), .int 0, .int 0, .null, .int 0, .null, .int 0], ob 6 [.ref (G.2.1 + 2), .ref (G.2.1 + 6), .ref (G.2.1 + 12), .ref (G.2.1 + 14), .ref (G.2.1 + 17), .ref (G.2.1 + 20), .ref (G.2.1 + 21)], ob 2 [.int 256, .int 0, .int 0, .int 0, .ref (G.2.1 + 3), .ref (G.2.1 + 4), .ref (G.2.1 + 5)], ai G 256 (fun _ => 0), ai G 500 (fun _ => (-1)), ai G 500 (fun _ => 0), ob 3 [.int 0, .int 0, .int 0, .int 0, .ref (G.2.1 + 7), .ref (G.2.1 + 8), .ref (G.2.1 + 9), .ref (G.2.1 + 10), .ref (G.2.1 + 11)], ai G 500 (fun _ => 0), ai G 500 (fun _ => 0), ai G 500 (fun _ => 0), ai G 500 (fun _ => 0), ai G 500 (fun _ => 0), ob 8 [.int 0, .int 0, .int 0, .int 0, .int 0, .int 0, .ref (G.2.1 + 13)], ai G 300 (fun _ => 0), ob 4 [.int 0, .ref (G.2.1 + 15), .ref (G.2.1 + 16)], ai G 1295 (fun _ => 0), ai G 1295 (fun _ => 0), ob 5 [.int 1, .int 0, .int 0, .int 0, .ref (G.2.1 + 18), .ref (G.2.1 + 19)], ai G 200 (upd (upd (upd (upd (upd (fun _ => 0) (0 : Int32).toNatClampNeg 8) (1 : Int32).toNatClampNeg x2) (2 : Int32).toNatClampNeg x3) (3 : Int32).toNatClampNeg x4) (4 : Int32).toNatClampNeg x5), ai G 8 (fun _ => (-1)), ai G 24 (fun _ => (-1)), ai G 32 (fun _ => (-1)), ai G 14 (fun _ => 0), ob 7 [.ref (G.2.1 + 1), .ref (G.2.1 + 2), .ref (G.2.1 + 6), .ref (G.2.1 + 22), .ref (G.2.1 + 24), .int 0, .ref (G.2.1 + 25), .ref (G.2.1 + 26), .int 0], ai G 500 (fun _ => 0), ai G 500 (fun _ => 0), ai G 500 (fun _ => 0), ob 0 [.ref (G.2.1 + 1), .ref (G.2.1 + 2), .ref (G.2.1 + 23), .int 0], ob 1 [.ref (G.2.1 + 29), .int 0, .int 0, .ref (G.2.1 + 30), .ref (G.2.1 + 31)], ai G 0 (fun _ => 0), ai G 500 (fun _ => 0), ai G 501 (fun _ => 0), ob 10 [.ref (G.2.1 + 33), .ref (G.2.1 + 34), .ref (G.2.1 + 35), .int 0, .int 0, .int 0, .int 0, .int 0, .ref (G.2.1 + 36), .ref (G.2.1 + 37), .ref (G.2.1 + 38), .ref (G.2.1 + 39), .int 0, .ref (G.2.1 + 40), .int 0, .ref (G.2.1 + 41)], ai G 26100 (sx 256), ai G 26100 (fun _ => 0), ai G 26100 (fun _ => 0), ai G 14 (fun _ => 0), ai G 500 (fun _ => 0), ai G 500 (fun _ => 0), az G 500 (fun _ => 0), ai G 501 (fun _ => 0), ai G 500 (fun _ => 0)] from rfl) ?_
  exact go_vret (pc := 68) rfl dX5_add_68
set_option maxRecDepth 100000 in
set_option maxHeartbeats 4000000 in
theorem cx_act_8_t {l : Launch} {G : gG} (x2 : Int32) (x3 : Int32) (x4 : Int32) (x5 : Int32) (c0 : (if x2 < 0 then (1 : Int32) else (if x2 < 8 then (0 : Int32) else 1)) = 0) : Ct l G mX9_act 1 26 [.ref (G.2.1 + 0), .int 8, .int x2, .int x3, .int x4, .int x5] 42 90324 (wl G.2.1 (LF G)) (some (.int 1), 42, 90324, (wl G.2.1 [ob 9 [.ref (G.2.1 + 1), .ref (G.2.1 + 23), .ref (G.2.1 + 27), .ref (G.2.1 + 28), .ref (G.2.1 + 22), .int 0, .int 0, .null, .int 0, .null, .int 0], ob 6 [.ref (G.2.1 + 2), .ref (G.2.1 + 6), .ref (G.2.1 + 12), .ref (G.2.1 + 14), .ref (G.2.1 + 17), .ref (G.2.1 + 20), .ref (G.2.1 + 21)], ob 2 [.int 256, .int 0, .int 0, .int 0, .ref (G.2.1 + 3), .ref (G.2.1 + 4), .ref (G.2.1 + 5)], ai G 256 (fun _ => 0), ai G 500 (fun _ => (-1)), ai G 500 (fun _ => 0), ob 3 [.int 0, .int 0, .int 0, .int 0, .ref (G.2.1 + 7), .ref (G.2.1 + 8), .ref (G.2.1 + 9), .ref (G.2.1 + 10), .ref (G.2.1 + 11)], ai G 500 (fun _ => 0), ai G 500 (fun _ => 0), ai G 500 (fun _ => 0), ai G 500 (fun _ => 0), ai G 500 (fun _ => 0), ob 8 [.int 0, .int 0, .int 0, .int 0, .int 0, .int 0, .ref (G.2.1 + 13)], ai G 300 (fun _ => 0), ob 4 [.int 0, .ref (G.2.1 + 15), .ref (G.2.1 + 16)], ai G 1295 (fun _ => 0), ai G 1295 (fun _ => 0), ob 5 [.int 1, .int 0, .int 0, .int 0, .ref (G.2.1 + 18), .ref (G.2.1 + 19)], ai G 200 (upd (upd (upd (upd (upd (fun _ => 0) (0 : Int32).toNatClampNeg 8) (1 : Int32).toNatClampNeg x2) (2 : Int32).toNatClampNeg x3) (3 : Int32).toNatClampNeg x4) (4 : Int32).toNatClampNeg x5), ai G 8 (fun _ => (-1)), ai G 24 (fun _ => (-1)), ai G 32 (fun _ => (-1)), ai G 14 (fun _ => 0), ob 7 [.ref (G.2.1 + 1), .ref (G.2.1 + 2), .ref (G.2.1 + 6), .ref (G.2.1 + 22), .ref (G.2.1 + 24), .int 0, .ref (G.2.1 + 25), .ref (G.2.1 + 26), .int 0], ai G 500 (fun _ => 0), ai G 500 (fun _ => 0), ai G 500 (fun _ => 0), ob 0 [.ref (G.2.1 + 1), .ref (G.2.1 + 2), .ref (G.2.1 + 23), .int 0], ob 1 [.ref (G.2.1 + 29), .int 0, .int 0, .ref (G.2.1 + 30), .ref (G.2.1 + 31)], ai G 0 (fun _ => 0), ai G 500 (fun _ => 0), ai G 501 (fun _ => 0), ob 10 [.ref (G.2.1 + 33), .ref (G.2.1 + 34), .ref (G.2.1 + 35), .int 0, .int 0, .int 0, .int 0, .int 0, .ref (G.2.1 + 36), .ref (G.2.1 + 37), .ref (G.2.1 + 38), .ref (G.2.1 + 39), .int 0, .ref (G.2.1 + 40), .int 0, .ref (G.2.1 + 41)], ai G 26100 (sx 256), ai G 26100 (fun _ => 0), ai G 26100 (fun _ => 0), ai G 14 (fun _ => 0), ai G 500 (fun _ => 0), ai G 500 (fun _ => 0), az G 500 (fun _ => 0), ai G 501 (fun _ => 0), ai G 500 (fun _ => 0)])) := by
  refine Ct.of (by decide) (Nat.le_of_ble_eq_true rfl) ⟨Nat.le_refl _, Nat.le_refl _⟩ ?_
  show Go l G mX9_act _ 0 [(0, .ref (G.2.1 + 0)), (1, .int 8), (2, .int x2), (3, .int x3), (4, .int x4), (5, .int x5)] [] 42 90324 (wl G.2.1 (LF G))
  refine go_iload_n (pc := 0) dX9_act_0 rfl rfl ?_
  refine go_if_lt_f (pc := 1) (tgt := 10) dX9_act_1 (by decide) (by decide) ?_
  refine go_iload_n (pc := 4) dX9_act_4 rfl rfl ?_
  refine go_bipush (pc := 5) (v := 12) dX9_act_5 (by decide) ?_
  refine go_icmp_le_t (pc := 7) (tgt := 13) dX9_act_7 (by decide) (by decide) ?_
  refine go_gets (pc := 13) (i := 5) (by decide) rfl tX9_280 dX9_act_13 ?_
  refine go_iload_n (pc := 16) dX9_act_16 rfl rfl ?_
  refine go_tald (pc := 17) (i := 5) (by decide) (gv_in (by decide)) dX9_act_17 ?_
  refine go_top (y := 8) (by decide) ?_
  refine go_iload_n (pc := 18) dX9_act_18 rfl rfl ?_
  refine go_callS_i (pc := 19) sX9_283 rfl (cX9_isNoName_1 x2) rfl rfl (Nat.le_of_ble_eq_true rfl) ⟨Nat.le_of_ble_eq_true rfl, Nat.le_of_ble_eq_true rfl, (Nat.le_add_right _ _), (Nat.le_add_right _ _)⟩ dX9_act_19 ?_
  refine go_if_ne_f (pc := 22) (tgt := 50) dX9_act_22 (by decide) c0 ?_
  refine go_gets (pc := 25) (i := 6) (by decide) rfl tX9_286 dX9_act_25 ?_
  refine go_iload_n (pc := 28) dX9_act_28 rfl rfl ?_
  refine go_tald (pc := 29) (i := 6) (by decide) (gv_in (by decide)) dX9_act_29 ?_
  refine go_top (y := 0) (by decide) ?_
  refine go_iload_n (pc := 30) dX9_act_30 rfl rfl ?_
  refine go_callS_i (pc := 31) sX9_283 rfl (cX9_isNoName_2 x3) rfl rfl (Nat.le_of_ble_eq_true rfl) ⟨Nat.le_of_ble_eq_true rfl, Nat.le_of_ble_eq_true rfl, (Nat.le_add_right _ _), (Nat.le_add_right _ _)⟩ dX9_act_31 ?_
  refine go_if_ne_f (pc := 34) (tgt := 50) dX9_act_34 (by decide) (by decide) ?_
  refine go_gets (pc := 37) (i := 7) (by decide) rfl tX9_289 dX9_act_37 ?_
  refine go_iload_n (pc := 40) dX9_act_40 rfl rfl ?_
  refine go_tald (pc := 41) (i := 7) (by decide) (gv_in (by decide)) dX9_act_41 ?_
  refine go_top (y := 0) (by decide) ?_
  refine go_iload (pc := 42) dX9_act_42 rfl ?_
  refine go_callS_i (pc := 44) sX9_283 rfl (cX9_isNoName_3 x4) rfl rfl (Nat.le_of_ble_eq_true rfl) ⟨Nat.le_of_ble_eq_true rfl, Nat.le_of_ble_eq_true rfl, (Nat.le_add_right _ _), (Nat.le_add_right _ _)⟩ dX9_act_44 ?_
  refine go_if_eq_t (pc := 47) (tgt := 53) dX9_act_47 (by decide) (by decide) ?_
  refine go_iload_n (pc := 53) dX9_act_53 rfl rfl ?_
  refine go_if_ne_t (pc := 54) (tgt := 66) dX9_act_54 (by decide) (by decide) ?_
  refine go_iload_n (pc := 66) dX9_act_66 rfl rfl ?_
  refine go_bipush (pc := 67) (v := 9) dX9_act_67 (by decide) ?_
  refine go_icmp_ne_t (pc := 69) (tgt := 86) dX9_act_69 (by decide) (by decide) ?_
  refine go_aload_n (pc := 86) dX9_act_86 rfl rfl ?_
  refine go_get (pc := 87) fX9_12 rfl (gz_b (by decide)) (wl_at (i := 0) rfl) rfl dX9_act_87 ?_
  refine go_get (pc := 90) fX9_236 rfl (gz_b (by decide)) (wl_at (i := 1) rfl) rfl dX9_act_90 ?_
  refine go_get (pc := 93) fX9_240 rfl (gz_b (by decide)) (wl_at (i := 17) rfl) rfl dX9_act_93 ?_
  refine go_bipush (pc := 96) (v := 40) dX9_act_96 (by decide) ?_
  refine go_icmp_lt_t (pc := 98) (tgt := 104) dX9_act_98 (by decide) (by decide) ?_
  refine go_aload_n (pc := 104) dX9_act_104 rfl rfl ?_
  refine go_get (pc := 105) fX9_12 rfl (gz_b (by decide)) (wl_at (i := 0) rfl) rfl dX9_act_105 ?_
  refine go_get (pc := 108) fX9_236 rfl (gz_b (by decide)) (wl_at (i := 1) rfl) rfl dX9_act_108 ?_
  refine go_iload_n (pc := 111) dX9_act_111 rfl rfl ?_
  refine go_iload_n (pc := 112) dX9_act_112 rfl rfl ?_
  refine go_iload_n (pc := 113) dX9_act_113 rfl rfl ?_
  refine go_iload (pc := 114) dX9_act_114 rfl ?_
  refine go_iload (pc := 116) dX9_act_116 rfl ?_
  refine go_callV_v (pc := 118) vX9_292 rfl (cX5_add_9 x2 x3 x4 x5) rfl rfl (gz_b (by decide)) (wl_at (i := 17) rfl) rfl (Nat.le_of_ble_eq_true rfl) ⟨Nat.le_of_ble_eq_true rfl, Nat.le_of_ble_eq_true rfl, (Nat.le_add_right _ _), (Nat.le_add_right _ _)⟩ dX9_act_118 ?_
  refine go_aload_n (pc := 121) dX9_act_121 rfl rfl ?_
  refine go_get (pc := 122) fX9_12 rfl (gz_b (by decide)) (wl_at (i := 0) rfl) rfl dX9_act_122 ?_
  refine go_get (pc := 125) fX9_236 rfl (gz_b (by decide)) (wl_at (i := 1) rfl) rfl dX9_act_125 ?_
  refine go_get (pc := 128) fX9_240 rfl (gz_b (by decide)) (wl_at (i := 17) rfl) rfl dX9_act_128 ?_
  exact go_iret (pc := 131) rfl dX9_act_131
set_option maxRecDepth 100000 in
set_option maxHeartbeats 4000000 in
theorem cx_act_8_f {l : Launch} {G : gG} (x2 : Int32) (x3 : Int32) (x4 : Int32) (x5 : Int32) (c0 : ¬ (if x2 < 0 then (1 : Int32) else (if x2 < 8 then (0 : Int32) else 1)) = 0) : Ct l G mX9_act 1 21 [.ref (G.2.1 + 0), .int 8, .int x2, .int x3, .int x4, .int x5] 42 90324 (wl G.2.1 (LF G)) (some (.int ((-101))), 42, 90324, (wl G.2.1 (LF G))) := by
  refine Ct.of (by decide) (Nat.le_of_ble_eq_true rfl) ⟨Nat.le_refl _, Nat.le_refl _⟩ ?_
  show Go l G mX9_act _ 0 [(0, .ref (G.2.1 + 0)), (1, .int 8), (2, .int x2), (3, .int x3), (4, .int x4), (5, .int x5)] [] 42 90324 (wl G.2.1 (LF G))
  refine go_iload_n (pc := 0) dX9_act_0 rfl rfl ?_
  refine go_if_lt_f (pc := 1) (tgt := 10) dX9_act_1 (by decide) (by decide) ?_
  refine go_iload_n (pc := 4) dX9_act_4 rfl rfl ?_
  refine go_bipush (pc := 5) (v := 12) dX9_act_5 (by decide) ?_
  refine go_icmp_le_t (pc := 7) (tgt := 13) dX9_act_7 (by decide) (by decide) ?_
  refine go_gets (pc := 13) (i := 5) (by decide) rfl tX9_280 dX9_act_13 ?_
  refine go_iload_n (pc := 16) dX9_act_16 rfl rfl ?_
  refine go_tald (pc := 17) (i := 5) (by decide) (gv_in (by decide)) dX9_act_17 ?_
  refine go_top (y := 8) (by decide) ?_
  refine go_iload_n (pc := 18) dX9_act_18 rfl rfl ?_
  refine go_callS_i (pc := 19) sX9_283 rfl (cX9_isNoName_1 x2) rfl rfl (Nat.le_of_ble_eq_true rfl) ⟨Nat.le_of_ble_eq_true rfl, Nat.le_of_ble_eq_true rfl, (Nat.le_add_right _ _), (Nat.le_add_right _ _)⟩ dX9_act_19 ?_
  refine go_if_ne_t (pc := 22) (tgt := 50) dX9_act_22 (by decide) c0 ?_
  refine go_bipush (pc := 50) (v := (-101)) dX9_act_50 (by decide) ?_
  exact go_iret (pc := 52) rfl dX9_act_52
theorem cx_act_8 {l : Launch} {G : gG} (x2 : Int32) (x3 : Int32) (x4 : Int32) (x5 : Int32) : CX l G mX9_act [.ref (G.2.1 + 0), .int 8, .int x2, .int x3, .int x4, .int x5] ((if (if x2 < 0 then (1 : Int32) else (if x2 < 8 then (0 : Int32) else 1)) = 0 then 1 else (-101))) := by
  by_cases c0 : (if x2 < 0 then (1 : Int32) else (if x2 < 8 then (0 : Int32) else 1)) = 0
  · rw [if_pos c0]
    exact ⟨1, 26, 42, 90324, _, by decide, by decide, by decide, by decide, by decide, (by exact wl_frame rfl), cx_act_8_t x2 x3 x4 x5 c0⟩
  · rw [if_neg c0]
    exact ⟨1, 21, 42, 90324, _, by decide, by decide, by decide, by decide, by decide, (by exact wl_frame rfl), cx_act_8_f x2 x3 x4 x5 c0⟩
set_option maxRecDepth 100000 in
set_option maxHeartbeats 4000000 in
theorem cX9_isNoName_7 {l : Launch} {G : gG} (x2 : Int32) : Ct l G mX9_isNoName 0 0 [.int 0, .int x2] 42 90324 (wl G.2.1 (LF G)) (some (.int 0), 42, 90324, (wl G.2.1 (LF G))) := by
  refine Ct.of (by decide) (Nat.le_of_ble_eq_true rfl) ⟨Nat.le_refl _, Nat.le_refl _⟩ ?_
  show Go l G mX9_isNoName _ 0 [(0, .int 0), (1, .int x2)] [] 42 90324 (wl G.2.1 (LF G))
  refine go_iload_n (pc := 0) dX9_isNoName_0 rfl rfl ?_
  refine go_if_le_t (pc := 1) (tgt := 17) dX9_isNoName_1 (by decide) (by decide) ?_
  refine go_iconst (pc := 17) (v := 0) dX9_isNoName_17 (by decide) ?_
  exact go_zret (pc := 18) rfl rfl dX9_isNoName_18
set_option maxRecDepth 100000 in
set_option maxHeartbeats 4000000 in
theorem cx_act_9_t {l : Launch} {G : gG} (x2 : Int32) (x3 : Int32) (x4 : Int32) (x5 : Int32) (c0 : x2 < 0) : Ct l G mX9_act 1 21 [.ref (G.2.1 + 0), .int 9, .int x2, .int x3, .int x4, .int x5] 42 90324 (wl G.2.1 (LF G)) (some (.int ((-102))), 42, 90324, (wl G.2.1 (LF G))) := by
  refine Ct.of (by decide) (Nat.le_of_ble_eq_true rfl) ⟨Nat.le_refl _, Nat.le_refl _⟩ ?_
  show Go l G mX9_act _ 0 [(0, .ref (G.2.1 + 0)), (1, .int 9), (2, .int x2), (3, .int x3), (4, .int x4), (5, .int x5)] [] 42 90324 (wl G.2.1 (LF G))
  refine go_iload_n (pc := 0) dX9_act_0 rfl rfl ?_
  refine go_if_lt_f (pc := 1) (tgt := 10) dX9_act_1 (by decide) (by decide) ?_
  refine go_iload_n (pc := 4) dX9_act_4 rfl rfl ?_
  refine go_bipush (pc := 5) (v := 12) dX9_act_5 (by decide) ?_
  refine go_icmp_le_t (pc := 7) (tgt := 13) dX9_act_7 (by decide) (by decide) ?_
  refine go_gets (pc := 13) (i := 5) (by decide) rfl tX9_280 dX9_act_13 ?_
  refine go_iload_n (pc := 16) dX9_act_16 rfl rfl ?_
  refine go_tald (pc := 17) (i := 5) (by decide) (gv_in (by decide)) dX9_act_17 ?_
  refine go_top (y := 0) (by decide) ?_
  refine go_iload_n (pc := 18) dX9_act_18 rfl rfl ?_
  refine go_callS_i (pc := 19) sX9_283 rfl (cX9_isNoName_7 x2) rfl rfl (Nat.le_of_ble_eq_true rfl) ⟨Nat.le_of_ble_eq_true rfl, Nat.le_of_ble_eq_true rfl, (Nat.le_add_right _ _), (Nat.le_add_right _ _)⟩ dX9_act_19 ?_
  refine go_if_ne_f (pc := 22) (tgt := 50) dX9_act_22 (by decide) (by decide) ?_
  refine go_gets (pc := 25) (i := 6) (by decide) rfl tX9_286 dX9_act_25 ?_
  refine go_iload_n (pc := 28) dX9_act_28 rfl rfl ?_
  refine go_tald (pc := 29) (i := 6) (by decide) (gv_in (by decide)) dX9_act_29 ?_
  refine go_top (y := 0) (by decide) ?_
  refine go_iload_n (pc := 30) dX9_act_30 rfl rfl ?_
  refine go_callS_i (pc := 31) sX9_283 rfl (cX9_isNoName_2 x3) rfl rfl (Nat.le_of_ble_eq_true rfl) ⟨Nat.le_of_ble_eq_true rfl, Nat.le_of_ble_eq_true rfl, (Nat.le_add_right _ _), (Nat.le_add_right _ _)⟩ dX9_act_31 ?_
  refine go_if_ne_f (pc := 34) (tgt := 50) dX9_act_34 (by decide) (by decide) ?_
  refine go_gets (pc := 37) (i := 7) (by decide) rfl tX9_289 dX9_act_37 ?_
  refine go_iload_n (pc := 40) dX9_act_40 rfl rfl ?_
  refine go_tald (pc := 41) (i := 7) (by decide) (gv_in (by decide)) dX9_act_41 ?_
  refine go_top (y := 0) (by decide) ?_
  refine go_iload (pc := 42) dX9_act_42 rfl ?_
  refine go_callS_i (pc := 44) sX9_283 rfl (cX9_isNoName_3 x4) rfl rfl (Nat.le_of_ble_eq_true rfl) ⟨Nat.le_of_ble_eq_true rfl, Nat.le_of_ble_eq_true rfl, (Nat.le_add_right _ _), (Nat.le_add_right _ _)⟩ dX9_act_44 ?_
  refine go_if_eq_t (pc := 47) (tgt := 53) dX9_act_47 (by decide) (by decide) ?_
  refine go_iload_n (pc := 53) dX9_act_53 rfl rfl ?_
  refine go_if_ne_t (pc := 54) (tgt := 66) dX9_act_54 (by decide) (by decide) ?_
  refine go_iload_n (pc := 66) dX9_act_66 rfl rfl ?_
  refine go_bipush (pc := 67) (v := 9) dX9_act_67 (by decide) ?_
  refine go_icmp_ne_f (pc := 69) (tgt := 86) dX9_act_69 (by decide) (by decide) ?_
  refine go_iload_n (pc := 72) dX9_act_72 rfl rfl ?_
  refine go_if_lt_t (pc := 73) (tgt := 83) dX9_act_73 (by decide) c0 ?_
  refine go_bipush (pc := 83) (v := (-102)) dX9_act_83 (by decide) ?_
  exact go_iret (pc := 85) rfl dX9_act_85
set_option maxRecDepth 100000 in
set_option maxHeartbeats 4000000 in
theorem cX5_add_10 {l : Launch} {G : gG} (x2 : Int32) (x3 : Int32) (x4 : Int32) (x5 : Int32) : Ct l G mX5_add 0 0 [.ref (G.2.1 + 17), .int 9, .int x2, .int x3, .int x4, .int x5] 42 90324 (wl G.2.1 (LF G)) (none, 42, 90324, (wl G.2.1 [ob 9 [.ref (G.2.1 + 1), .ref (G.2.1 + 23), .ref (G.2.1 + 27), .ref (G.2.1 + 28), .ref (G.2.1 + 22), .int 0, .int 0, .null, .int 0, .null, .int 0], ob 6 [.ref (G.2.1 + 2), .ref (G.2.1 + 6), .ref (G.2.1 + 12), .ref (G.2.1 + 14), .ref (G.2.1 + 17), .ref (G.2.1 + 20), .ref (G.2.1 + 21)], ob 2 [.int 256, .int 0, .int 0, .int 0, .ref (G.2.1 + 3), .ref (G.2.1 + 4), .ref (G.2.1 + 5)], ai G 256 (fun _ => 0), ai G 500 (fun _ => (-1)), ai G 500 (fun _ => 0), ob 3 [.int 0, .int 0, .int 0, .int 0, .ref (G.2.1 + 7), .ref (G.2.1 + 8), .ref (G.2.1 + 9), .ref (G.2.1 + 10), .ref (G.2.1 + 11)], ai G 500 (fun _ => 0), ai G 500 (fun _ => 0), ai G 500 (fun _ => 0), ai G 500 (fun _ => 0), ai G 500 (fun _ => 0), ob 8 [.int 0, .int 0, .int 0, .int 0, .int 0, .int 0, .ref (G.2.1 + 13)], ai G 300 (fun _ => 0), ob 4 [.int 0, .ref (G.2.1 + 15), .ref (G.2.1 + 16)], ai G 1295 (fun _ => 0), ai G 1295 (fun _ => 0), ob 5 [.int 1, .int 0, .int 0, .int 0, .ref (G.2.1 + 18), .ref (G.2.1 + 19)], ai G 200 (upd (upd (upd (upd (upd (fun _ => 0) (0 : Int32).toNatClampNeg 9) (1 : Int32).toNatClampNeg x2) (2 : Int32).toNatClampNeg x3) (3 : Int32).toNatClampNeg x4) (4 : Int32).toNatClampNeg x5), ai G 8 (fun _ => (-1)), ai G 24 (fun _ => (-1)), ai G 32 (fun _ => (-1)), ai G 14 (fun _ => 0), ob 7 [.ref (G.2.1 + 1), .ref (G.2.1 + 2), .ref (G.2.1 + 6), .ref (G.2.1 + 22), .ref (G.2.1 + 24), .int 0, .ref (G.2.1 + 25), .ref (G.2.1 + 26), .int 0], ai G 500 (fun _ => 0), ai G 500 (fun _ => 0), ai G 500 (fun _ => 0), ob 0 [.ref (G.2.1 + 1), .ref (G.2.1 + 2), .ref (G.2.1 + 23), .int 0], ob 1 [.ref (G.2.1 + 29), .int 0, .int 0, .ref (G.2.1 + 30), .ref (G.2.1 + 31)], ai G 0 (fun _ => 0), ai G 500 (fun _ => 0), ai G 501 (fun _ => 0), ob 10 [.ref (G.2.1 + 33), .ref (G.2.1 + 34), .ref (G.2.1 + 35), .int 0, .int 0, .int 0, .int 0, .int 0, .ref (G.2.1 + 36), .ref (G.2.1 + 37), .ref (G.2.1 + 38), .ref (G.2.1 + 39), .int 0, .ref (G.2.1 + 40), .int 0, .ref (G.2.1 + 41)], ai G 26100 (sx 256), ai G 26100 (fun _ => 0), ai G 26100 (fun _ => 0), ai G 14 (fun _ => 0), ai G 500 (fun _ => 0), ai G 500 (fun _ => 0), az G 500 (fun _ => 0), ai G 501 (fun _ => 0), ai G 500 (fun _ => 0)])) := by
  refine Ct.of (by decide) (Nat.le_of_ble_eq_true rfl) ⟨Nat.le_refl _, Nat.le_refl _⟩ ?_
  show Go l G mX5_add _ 0 [(0, .ref (G.2.1 + 17)), (1, .int 9), (2, .int x2), (3, .int x3), (4, .int x4), (5, .int x5)] [] 42 90324 (wl G.2.1 (LF G))
  refine go_aload_n (pc := 0) dX5_add_0 rfl rfl ?_
  refine go_get (pc := 1) fX5_18 rfl (gz_b (by decide)) (wl_at (i := 17) rfl) rfl dX5_add_1 ?_
  refine go_iconst (pc := 4) (v := 5) dX5_add_4 (by decide) ?_
  refine go_imul (pc := 5) dX5_add_5 ?_
  refine go_top (y := 0) (by decide) ?_
  refine go_istore (pc := 6) (lv' := [(6, .int 0), (0, .ref (G.2.1 + 17)), (1, .int 9), (2, .int x2), (3, .int x3), (4, .int x4), (5, .int x5)]) dX5_add_6 (by decide) rfl ?_
  refine go_aload_n (pc := 8) dX5_add_8 rfl rfl ?_
  refine go_get (pc := 9) fX5_9 rfl (gz_b (by decide)) (wl_at (i := 17) rfl) rfl dX5_add_9 ?_
  refine go_iload (pc := 12) dX5_add_12 rfl ?_
  refine go_iload_n (pc := 14) dX5_add_14 rfl rfl ?_
  refine go_iast (pc := 15) (gz_b (by decide)) (wl_at (i := 18) rfl) (gv_in (by decide)) dX5_add_15 ?_
  refine go_ext (wl_up (i := 18) rfl rfl) ?_
  refine go_aload_n (pc := 16) dX5_add_16 rfl rfl ?_
  refine go_get (pc := 17) fX5_9 rfl (gz_b (by decide)) (wl_at (i := 17) rfl) rfl dX5_add_17 ?_
  refine go_iload (pc := 20) dX5_add_20 rfl ?_
  refine go_iconst (pc := 22) (v := 1) dX5_add_22 (by decide) ?_
  refine go_iadd (pc := 23) dX5_add_23 ?_
  refine go_top (y := 1) (by decide) ?_
  refine go_iload_n (pc := 24) dX5_add_24 rfl rfl ?_
  refine go_iast (pc := 25) (gz_b (by decide)) (wl_at (i := 18) rfl) (gv_in (by decide)) dX5_add_25 ?_
  refine go_ext (wl_up (i := 18) rfl rfl) ?_
  refine go_aload_n (pc := 26) dX5_add_26 rfl rfl ?_
  refine go_get (pc := 27) fX5_9 rfl (gz_b (by decide)) (wl_at (i := 17) rfl) rfl dX5_add_27 ?_
  refine go_iload (pc := 30) dX5_add_30 rfl ?_
  refine go_iconst (pc := 32) (v := 2) dX5_add_32 (by decide) ?_
  refine go_iadd (pc := 33) dX5_add_33 ?_
  refine go_top (y := 2) (by decide) ?_
  refine go_iload_n (pc := 34) dX5_add_34 rfl rfl ?_
  refine go_iast (pc := 35) (gz_b (by decide)) (wl_at (i := 18) rfl) (gv_in (by decide)) dX5_add_35 ?_
  refine go_ext (wl_up (i := 18) rfl rfl) ?_
  refine go_aload_n (pc := 36) dX5_add_36 rfl rfl ?_
  refine go_get (pc := 37) fX5_9 rfl (gz_b (by decide)) (wl_at (i := 17) rfl) rfl dX5_add_37 ?_
  refine go_iload (pc := 40) dX5_add_40 rfl ?_
  refine go_iconst (pc := 42) (v := 3) dX5_add_42 (by decide) ?_
  refine go_iadd (pc := 43) dX5_add_43 ?_
  refine go_top (y := 3) (by decide) ?_
  refine go_iload (pc := 44) dX5_add_44 rfl ?_
  refine go_iast (pc := 46) (gz_b (by decide)) (wl_at (i := 18) rfl) (gv_in (by decide)) dX5_add_46 ?_
  refine go_ext (wl_up (i := 18) rfl rfl) ?_
  refine go_aload_n (pc := 47) dX5_add_47 rfl rfl ?_
  refine go_get (pc := 48) fX5_9 rfl (gz_b (by decide)) (wl_at (i := 17) rfl) rfl dX5_add_48 ?_
  refine go_iload (pc := 51) dX5_add_51 rfl ?_
  refine go_iconst (pc := 53) (v := 4) dX5_add_53 (by decide) ?_
  refine go_iadd (pc := 54) dX5_add_54 ?_
  refine go_top (y := 4) (by decide) ?_
  refine go_iload (pc := 55) dX5_add_55 rfl ?_
  refine go_iast (pc := 57) (gz_b (by decide)) (wl_at (i := 18) rfl) (gv_in (by decide)) dX5_add_57 ?_
  refine go_ext (wl_up (i := 18) rfl rfl) ?_
  refine go_aload_n (pc := 58) dX5_add_58 rfl rfl ?_
  refine go_dup (pc := 59) dX5_add_59 rfl ?_
  refine go_get (pc := 60) fX5_18 rfl (gz_b (by decide)) (wl_at (i := 17) rfl) rfl dX5_add_60 ?_
  refine go_iconst (pc := 63) (v := 1) dX5_add_63 (by decide) ?_
  refine go_iadd (pc := 64) dX5_add_64 ?_
  refine go_top (y := 1) (by decide) ?_
  refine go_put (pc := 65) fX5_18 rfl (gz_b (by decide)) (wl_at (i := 17) rfl) (Nat.le_of_ble_eq_true rfl) rfl rfl dX5_add_65 ?_
  refine go_ext (wl_up (i := 17) rfl rfl) ?_
  refine go_w (show _ = wl G.2.1 [ob 9 [.ref (G.2.1 + 1), .ref (G.2.1 + 23), .ref (G.2.1 + 27), .ref (G.2.1 + 28), .ref (G.2.1 + 22), .int 0, .int 0, .null, .int 0, .null, .int 0], ob 6 [.ref (G.2.1 + 2), .ref (G.2.1 + 6), .ref (G.2.1 + 12), .ref (G.2.1 + 14), .ref (G.2.1 + 17), .ref (G.2.1 + 20), .ref (G.2.1 + 21)], ob 2 [.int 256, .int 0, .int 0, .int 0, .ref (G.2.1 + 3), .ref (G.2.1 + 4), .ref (G.2.1 + 5)], ai G 256 (fun _ => 0), ai G 500 (fun _ => (-1)), ai G 500 (fun _ => 0), ob 3 [.int 0, .int 0, .int 0, .int 0, .ref (G.2.1 + 7), .ref (G.2.1 + 8), .ref (G.2.1 + 9), .ref (G.2.1 + 10), .ref (G.2.1 + 11)], ai G 500 (fun _ => 0), ai G 500 (fun _ => 0), ai G 500 (fun _ => 0), ai G 500 (fun _ => 0), ai G 500 (fun _ => 0), ob 8 [.int 0, .int 0, .int 0, .int 0, .int 0, .int 0, .ref (G.2.1 + 13)], ai G 300 (fun _ => 0), ob 4 [.int 0, .ref (G.2.1 + 15), .ref (G.2.1 + 16)], ai G 1295 (fun _ => 0), ai G 1295 (fun _ => 0), ob 5 [.int 1, .int 0, .int 0, .int 0, .ref (G.2.1 + 18), .ref (G.2.1 + 19)], ai G 200 (upd (upd (upd (upd (upd (fun _ => 0) (0 : Int32).toNatClampNeg 9) (1 : Int32).toNatClampNeg x2) (2 : Int32).toNatClampNeg x3) (3 : Int32).toNatClampNeg x4) (4 : Int32).toNatClampNeg x5), ai G 8 (fun _ => (-1)), ai G 24 (fun _ => (-1)), ai G 32 (fun _ => (-1)), ai G 14 (fun _ => 0), ob 7 [.ref (G.2.1 + 1), .ref (G.2.1 + 2), .ref (G.2.1 + 6), .ref (G.2.1 + 22), .ref (G.2.1 + 24), .int 0, .ref (G.2.1 + 25), .ref (G.2.1 + 26), .int 0], ai G 500 (fun _ => 0), ai G 500 (fun _ => 0), ai G 500 (fun _ => 0), ob 0 [.ref (G.2.1 + 1), .ref (G.2.1 + 2), .ref (G.2.1 + 23), .int 0], ob 1 [.ref (G.2.1 + 29), .int 0, .int 0, .ref (G.2.1 + 30), .ref (G.2.1 + 31)], ai G 0 (fun _ => 0), ai G 500 (fun _ => 0), ai G 501 (fun _ => 0), ob 10 [.ref (G.2.1 + 33), .ref (G.2.1 + 34), .ref (G.2.1 + 35), .int 0, .int 0, .int 0, .int 0, .int 0, .ref (G.2.1 + 36), .ref (G.2.1 + 37), .ref (G.2.1 + 38), .ref (G.2.1 + 39), .int 0, .ref (G.2.1 + 40), .int 0, .ref (G.2.1 + 41)], ai G 26100 (sx 256), ai G 26100 (fun _ => 0), ai G 26100 (fun _ => 0), ai G 14 (fun _ => 0), ai G 500 (fun _ => 0), ai G 500 (fun _ => 0), az G 500 (fun _ => 0), ai G 501 (fun _ => 0), ai G 500 (fun _ => 0)] from rfl) ?_
  exact go_vret (pc := 68) rfl dX5_add_68
set_option maxRecDepth 100000 in
set_option maxHeartbeats 4000000 in
theorem cx_act_9_ft {l : Launch} {G : gG} (x2 : Int32) (x3 : Int32) (x4 : Int32) (x5 : Int32) (c0 : ¬ x2 < 0) (c1 : x2 ≤ 1000) : Ct l G mX9_act 1 26 [.ref (G.2.1 + 0), .int 9, .int x2, .int x3, .int x4, .int x5] 42 90324 (wl G.2.1 (LF G)) (some (.int 1), 42, 90324, (wl G.2.1 [ob 9 [.ref (G.2.1 + 1), .ref (G.2.1 + 23), .ref (G.2.1 + 27), .ref (G.2.1 + 28), .ref (G.2.1 + 22), .int 0, .int 0, .null, .int 0, .null, .int 0], ob 6 [.ref (G.2.1 + 2), .ref (G.2.1 + 6), .ref (G.2.1 + 12), .ref (G.2.1 + 14), .ref (G.2.1 + 17), .ref (G.2.1 + 20), .ref (G.2.1 + 21)], ob 2 [.int 256, .int 0, .int 0, .int 0, .ref (G.2.1 + 3), .ref (G.2.1 + 4), .ref (G.2.1 + 5)], ai G 256 (fun _ => 0), ai G 500 (fun _ => (-1)), ai G 500 (fun _ => 0), ob 3 [.int 0, .int 0, .int 0, .int 0, .ref (G.2.1 + 7), .ref (G.2.1 + 8), .ref (G.2.1 + 9), .ref (G.2.1 + 10), .ref (G.2.1 + 11)], ai G 500 (fun _ => 0), ai G 500 (fun _ => 0), ai G 500 (fun _ => 0), ai G 500 (fun _ => 0), ai G 500 (fun _ => 0), ob 8 [.int 0, .int 0, .int 0, .int 0, .int 0, .int 0, .ref (G.2.1 + 13)], ai G 300 (fun _ => 0), ob 4 [.int 0, .ref (G.2.1 + 15), .ref (G.2.1 + 16)], ai G 1295 (fun _ => 0), ai G 1295 (fun _ => 0), ob 5 [.int 1, .int 0, .int 0, .int 0, .ref (G.2.1 + 18), .ref (G.2.1 + 19)], ai G 200 (upd (upd (upd (upd (upd (fun _ => 0) (0 : Int32).toNatClampNeg 9) (1 : Int32).toNatClampNeg x2) (2 : Int32).toNatClampNeg x3) (3 : Int32).toNatClampNeg x4) (4 : Int32).toNatClampNeg x5), ai G 8 (fun _ => (-1)), ai G 24 (fun _ => (-1)), ai G 32 (fun _ => (-1)), ai G 14 (fun _ => 0), ob 7 [.ref (G.2.1 + 1), .ref (G.2.1 + 2), .ref (G.2.1 + 6), .ref (G.2.1 + 22), .ref (G.2.1 + 24), .int 0, .ref (G.2.1 + 25), .ref (G.2.1 + 26), .int 0], ai G 500 (fun _ => 0), ai G 500 (fun _ => 0), ai G 500 (fun _ => 0), ob 0 [.ref (G.2.1 + 1), .ref (G.2.1 + 2), .ref (G.2.1 + 23), .int 0], ob 1 [.ref (G.2.1 + 29), .int 0, .int 0, .ref (G.2.1 + 30), .ref (G.2.1 + 31)], ai G 0 (fun _ => 0), ai G 500 (fun _ => 0), ai G 501 (fun _ => 0), ob 10 [.ref (G.2.1 + 33), .ref (G.2.1 + 34), .ref (G.2.1 + 35), .int 0, .int 0, .int 0, .int 0, .int 0, .ref (G.2.1 + 36), .ref (G.2.1 + 37), .ref (G.2.1 + 38), .ref (G.2.1 + 39), .int 0, .ref (G.2.1 + 40), .int 0, .ref (G.2.1 + 41)], ai G 26100 (sx 256), ai G 26100 (fun _ => 0), ai G 26100 (fun _ => 0), ai G 14 (fun _ => 0), ai G 500 (fun _ => 0), ai G 500 (fun _ => 0), az G 500 (fun _ => 0), ai G 501 (fun _ => 0), ai G 500 (fun _ => 0)])) := by
  refine Ct.of (by decide) (Nat.le_of_ble_eq_true rfl) ⟨Nat.le_refl _, Nat.le_refl _⟩ ?_
  show Go l G mX9_act _ 0 [(0, .ref (G.2.1 + 0)), (1, .int 9), (2, .int x2), (3, .int x3), (4, .int x4), (5, .int x5)] [] 42 90324 (wl G.2.1 (LF G))
  refine go_iload_n (pc := 0) dX9_act_0 rfl rfl ?_
  refine go_if_lt_f (pc := 1) (tgt := 10) dX9_act_1 (by decide) (by decide) ?_
  refine go_iload_n (pc := 4) dX9_act_4 rfl rfl ?_
  refine go_bipush (pc := 5) (v := 12) dX9_act_5 (by decide) ?_
  refine go_icmp_le_t (pc := 7) (tgt := 13) dX9_act_7 (by decide) (by decide) ?_
  refine go_gets (pc := 13) (i := 5) (by decide) rfl tX9_280 dX9_act_13 ?_
  refine go_iload_n (pc := 16) dX9_act_16 rfl rfl ?_
  refine go_tald (pc := 17) (i := 5) (by decide) (gv_in (by decide)) dX9_act_17 ?_
  refine go_top (y := 0) (by decide) ?_
  refine go_iload_n (pc := 18) dX9_act_18 rfl rfl ?_
  refine go_callS_i (pc := 19) sX9_283 rfl (cX9_isNoName_7 x2) rfl rfl (Nat.le_of_ble_eq_true rfl) ⟨Nat.le_of_ble_eq_true rfl, Nat.le_of_ble_eq_true rfl, (Nat.le_add_right _ _), (Nat.le_add_right _ _)⟩ dX9_act_19 ?_
  refine go_if_ne_f (pc := 22) (tgt := 50) dX9_act_22 (by decide) (by decide) ?_
  refine go_gets (pc := 25) (i := 6) (by decide) rfl tX9_286 dX9_act_25 ?_
  refine go_iload_n (pc := 28) dX9_act_28 rfl rfl ?_
  refine go_tald (pc := 29) (i := 6) (by decide) (gv_in (by decide)) dX9_act_29 ?_
  refine go_top (y := 0) (by decide) ?_
  refine go_iload_n (pc := 30) dX9_act_30 rfl rfl ?_
  refine go_callS_i (pc := 31) sX9_283 rfl (cX9_isNoName_2 x3) rfl rfl (Nat.le_of_ble_eq_true rfl) ⟨Nat.le_of_ble_eq_true rfl, Nat.le_of_ble_eq_true rfl, (Nat.le_add_right _ _), (Nat.le_add_right _ _)⟩ dX9_act_31 ?_
  refine go_if_ne_f (pc := 34) (tgt := 50) dX9_act_34 (by decide) (by decide) ?_
  refine go_gets (pc := 37) (i := 7) (by decide) rfl tX9_289 dX9_act_37 ?_
  refine go_iload_n (pc := 40) dX9_act_40 rfl rfl ?_
  refine go_tald (pc := 41) (i := 7) (by decide) (gv_in (by decide)) dX9_act_41 ?_
  refine go_top (y := 0) (by decide) ?_
  refine go_iload (pc := 42) dX9_act_42 rfl ?_
  refine go_callS_i (pc := 44) sX9_283 rfl (cX9_isNoName_3 x4) rfl rfl (Nat.le_of_ble_eq_true rfl) ⟨Nat.le_of_ble_eq_true rfl, Nat.le_of_ble_eq_true rfl, (Nat.le_add_right _ _), (Nat.le_add_right _ _)⟩ dX9_act_44 ?_
  refine go_if_eq_t (pc := 47) (tgt := 53) dX9_act_47 (by decide) (by decide) ?_
  refine go_iload_n (pc := 53) dX9_act_53 rfl rfl ?_
  refine go_if_ne_t (pc := 54) (tgt := 66) dX9_act_54 (by decide) (by decide) ?_
  refine go_iload_n (pc := 66) dX9_act_66 rfl rfl ?_
  refine go_bipush (pc := 67) (v := 9) dX9_act_67 (by decide) ?_
  refine go_icmp_ne_f (pc := 69) (tgt := 86) dX9_act_69 (by decide) (by decide) ?_
  refine go_iload_n (pc := 72) dX9_act_72 rfl rfl ?_
  refine go_if_lt_f (pc := 73) (tgt := 83) dX9_act_73 (by decide) c0 ?_
  refine go_iload_n (pc := 76) dX9_act_76 rfl rfl ?_
  refine go_sipush (pc := 77) (v := 1000) dX9_act_77 (by decide) ?_
  refine go_icmp_le_t (pc := 80) (tgt := 86) dX9_act_80 (by decide) c1 ?_
  refine go_aload_n (pc := 86) dX9_act_86 rfl rfl ?_
  refine go_get (pc := 87) fX9_12 rfl (gz_b (by decide)) (wl_at (i := 0) rfl) rfl dX9_act_87 ?_
  refine go_get (pc := 90) fX9_236 rfl (gz_b (by decide)) (wl_at (i := 1) rfl) rfl dX9_act_90 ?_
  refine go_get (pc := 93) fX9_240 rfl (gz_b (by decide)) (wl_at (i := 17) rfl) rfl dX9_act_93 ?_
  refine go_bipush (pc := 96) (v := 40) dX9_act_96 (by decide) ?_
  refine go_icmp_lt_t (pc := 98) (tgt := 104) dX9_act_98 (by decide) (by decide) ?_
  refine go_aload_n (pc := 104) dX9_act_104 rfl rfl ?_
  refine go_get (pc := 105) fX9_12 rfl (gz_b (by decide)) (wl_at (i := 0) rfl) rfl dX9_act_105 ?_
  refine go_get (pc := 108) fX9_236 rfl (gz_b (by decide)) (wl_at (i := 1) rfl) rfl dX9_act_108 ?_
  refine go_iload_n (pc := 111) dX9_act_111 rfl rfl ?_
  refine go_iload_n (pc := 112) dX9_act_112 rfl rfl ?_
  refine go_iload_n (pc := 113) dX9_act_113 rfl rfl ?_
  refine go_iload (pc := 114) dX9_act_114 rfl ?_
  refine go_iload (pc := 116) dX9_act_116 rfl ?_
  refine go_callV_v (pc := 118) vX9_292 rfl (cX5_add_10 x2 x3 x4 x5) rfl rfl (gz_b (by decide)) (wl_at (i := 17) rfl) rfl (Nat.le_of_ble_eq_true rfl) ⟨Nat.le_of_ble_eq_true rfl, Nat.le_of_ble_eq_true rfl, (Nat.le_add_right _ _), (Nat.le_add_right _ _)⟩ dX9_act_118 ?_
  refine go_aload_n (pc := 121) dX9_act_121 rfl rfl ?_
  refine go_get (pc := 122) fX9_12 rfl (gz_b (by decide)) (wl_at (i := 0) rfl) rfl dX9_act_122 ?_
  refine go_get (pc := 125) fX9_236 rfl (gz_b (by decide)) (wl_at (i := 1) rfl) rfl dX9_act_125 ?_
  refine go_get (pc := 128) fX9_240 rfl (gz_b (by decide)) (wl_at (i := 17) rfl) rfl dX9_act_128 ?_
  exact go_iret (pc := 131) rfl dX9_act_131
set_option maxRecDepth 100000 in
set_option maxHeartbeats 4000000 in
theorem cx_act_9_ff {l : Launch} {G : gG} (x2 : Int32) (x3 : Int32) (x4 : Int32) (x5 : Int32) (c0 : ¬ x2 < 0) (c1 : ¬ x2 ≤ 1000) : Ct l G mX9_act 1 21 [.ref (G.2.1 + 0), .int 9, .int x2, .int x3, .int x4, .int x5] 42 90324 (wl G.2.1 (LF G)) (some (.int ((-102))), 42, 90324, (wl G.2.1 (LF G))) := by
  refine Ct.of (by decide) (Nat.le_of_ble_eq_true rfl) ⟨Nat.le_refl _, Nat.le_refl _⟩ ?_
  show Go l G mX9_act _ 0 [(0, .ref (G.2.1 + 0)), (1, .int 9), (2, .int x2), (3, .int x3), (4, .int x4), (5, .int x5)] [] 42 90324 (wl G.2.1 (LF G))
  refine go_iload_n (pc := 0) dX9_act_0 rfl rfl ?_
  refine go_if_lt_f (pc := 1) (tgt := 10) dX9_act_1 (by decide) (by decide) ?_
  refine go_iload_n (pc := 4) dX9_act_4 rfl rfl ?_
  refine go_bipush (pc := 5) (v := 12) dX9_act_5 (by decide) ?_
  refine go_icmp_le_t (pc := 7) (tgt := 13) dX9_act_7 (by decide) (by decide) ?_
  refine go_gets (pc := 13) (i := 5) (by decide) rfl tX9_280 dX9_act_13 ?_
  refine go_iload_n (pc := 16) dX9_act_16 rfl rfl ?_
  refine go_tald (pc := 17) (i := 5) (by decide) (gv_in (by decide)) dX9_act_17 ?_
  refine go_top (y := 0) (by decide) ?_
  refine go_iload_n (pc := 18) dX9_act_18 rfl rfl ?_
  refine go_callS_i (pc := 19) sX9_283 rfl (cX9_isNoName_7 x2) rfl rfl (Nat.le_of_ble_eq_true rfl) ⟨Nat.le_of_ble_eq_true rfl, Nat.le_of_ble_eq_true rfl, (Nat.le_add_right _ _), (Nat.le_add_right _ _)⟩ dX9_act_19 ?_
  refine go_if_ne_f (pc := 22) (tgt := 50) dX9_act_22 (by decide) (by decide) ?_
  refine go_gets (pc := 25) (i := 6) (by decide) rfl tX9_286 dX9_act_25 ?_
  refine go_iload_n (pc := 28) dX9_act_28 rfl rfl ?_
  refine go_tald (pc := 29) (i := 6) (by decide) (gv_in (by decide)) dX9_act_29 ?_
  refine go_top (y := 0) (by decide) ?_
  refine go_iload_n (pc := 30) dX9_act_30 rfl rfl ?_
  refine go_callS_i (pc := 31) sX9_283 rfl (cX9_isNoName_2 x3) rfl rfl (Nat.le_of_ble_eq_true rfl) ⟨Nat.le_of_ble_eq_true rfl, Nat.le_of_ble_eq_true rfl, (Nat.le_add_right _ _), (Nat.le_add_right _ _)⟩ dX9_act_31 ?_
  refine go_if_ne_f (pc := 34) (tgt := 50) dX9_act_34 (by decide) (by decide) ?_
  refine go_gets (pc := 37) (i := 7) (by decide) rfl tX9_289 dX9_act_37 ?_
  refine go_iload_n (pc := 40) dX9_act_40 rfl rfl ?_
  refine go_tald (pc := 41) (i := 7) (by decide) (gv_in (by decide)) dX9_act_41 ?_
  refine go_top (y := 0) (by decide) ?_
  refine go_iload (pc := 42) dX9_act_42 rfl ?_
  refine go_callS_i (pc := 44) sX9_283 rfl (cX9_isNoName_3 x4) rfl rfl (Nat.le_of_ble_eq_true rfl) ⟨Nat.le_of_ble_eq_true rfl, Nat.le_of_ble_eq_true rfl, (Nat.le_add_right _ _), (Nat.le_add_right _ _)⟩ dX9_act_44 ?_
  refine go_if_eq_t (pc := 47) (tgt := 53) dX9_act_47 (by decide) (by decide) ?_
  refine go_iload_n (pc := 53) dX9_act_53 rfl rfl ?_
  refine go_if_ne_t (pc := 54) (tgt := 66) dX9_act_54 (by decide) (by decide) ?_
  refine go_iload_n (pc := 66) dX9_act_66 rfl rfl ?_
  refine go_bipush (pc := 67) (v := 9) dX9_act_67 (by decide) ?_
  refine go_icmp_ne_f (pc := 69) (tgt := 86) dX9_act_69 (by decide) (by decide) ?_
  refine go_iload_n (pc := 72) dX9_act_72 rfl rfl ?_
  refine go_if_lt_f (pc := 73) (tgt := 83) dX9_act_73 (by decide) c0 ?_
  refine go_iload_n (pc := 76) dX9_act_76 rfl rfl ?_
  refine go_sipush (pc := 77) (v := 1000) dX9_act_77 (by decide) ?_
  refine go_icmp_le_f (pc := 80) (tgt := 86) dX9_act_80 (by decide) c1 ?_
  refine go_bipush (pc := 83) (v := (-102)) dX9_act_83 (by decide) ?_
  exact go_iret (pc := 85) rfl dX9_act_85
theorem cx_act_9 {l : Launch} {G : gG} (x2 : Int32) (x3 : Int32) (x4 : Int32) (x5 : Int32) : CX l G mX9_act [.ref (G.2.1 + 0), .int 9, .int x2, .int x3, .int x4, .int x5] ((if x2 < 0 then (-102) else (if x2 ≤ 1000 then 1 else (-102)))) := by
  by_cases c0 : x2 < 0
  · rw [if_pos c0]
    exact ⟨1, 21, 42, 90324, _, by decide, by decide, by decide, by decide, by decide, (by exact wl_frame rfl), cx_act_9_t x2 x3 x4 x5 c0⟩
  · rw [if_neg c0]
    by_cases c1 : x2 ≤ 1000
    · rw [if_pos c1]
      exact ⟨1, 26, 42, 90324, _, by decide, by decide, by decide, by decide, by decide, (by exact wl_frame rfl), cx_act_9_ft x2 x3 x4 x5 c0 c1⟩
    · rw [if_neg c1]
      exact ⟨1, 21, 42, 90324, _, by decide, by decide, by decide, by decide, by decide, (by exact wl_frame rfl), cx_act_9_ff x2 x3 x4 x5 c0 c1⟩
set_option maxRecDepth 100000 in
set_option maxHeartbeats 4000000 in
theorem cX5_add_11 {l : Launch} {G : gG} (x2 : Int32) (x3 : Int32) (x4 : Int32) (x5 : Int32) : Ct l G mX5_add 0 0 [.ref (G.2.1 + 17), .int 10, .int x2, .int x3, .int x4, .int x5] 42 90324 (wl G.2.1 (LF G)) (none, 42, 90324, (wl G.2.1 [ob 9 [.ref (G.2.1 + 1), .ref (G.2.1 + 23), .ref (G.2.1 + 27), .ref (G.2.1 + 28), .ref (G.2.1 + 22), .int 0, .int 0, .null, .int 0, .null, .int 0], ob 6 [.ref (G.2.1 + 2), .ref (G.2.1 + 6), .ref (G.2.1 + 12), .ref (G.2.1 + 14), .ref (G.2.1 + 17), .ref (G.2.1 + 20), .ref (G.2.1 + 21)], ob 2 [.int 256, .int 0, .int 0, .int 0, .ref (G.2.1 + 3), .ref (G.2.1 + 4), .ref (G.2.1 + 5)], ai G 256 (fun _ => 0), ai G 500 (fun _ => (-1)), ai G 500 (fun _ => 0), ob 3 [.int 0, .int 0, .int 0, .int 0, .ref (G.2.1 + 7), .ref (G.2.1 + 8), .ref (G.2.1 + 9), .ref (G.2.1 + 10), .ref (G.2.1 + 11)], ai G 500 (fun _ => 0), ai G 500 (fun _ => 0), ai G 500 (fun _ => 0), ai G 500 (fun _ => 0), ai G 500 (fun _ => 0), ob 8 [.int 0, .int 0, .int 0, .int 0, .int 0, .int 0, .ref (G.2.1 + 13)], ai G 300 (fun _ => 0), ob 4 [.int 0, .ref (G.2.1 + 15), .ref (G.2.1 + 16)], ai G 1295 (fun _ => 0), ai G 1295 (fun _ => 0), ob 5 [.int 1, .int 0, .int 0, .int 0, .ref (G.2.1 + 18), .ref (G.2.1 + 19)], ai G 200 (upd (upd (upd (upd (upd (fun _ => 0) (0 : Int32).toNatClampNeg 10) (1 : Int32).toNatClampNeg x2) (2 : Int32).toNatClampNeg x3) (3 : Int32).toNatClampNeg x4) (4 : Int32).toNatClampNeg x5), ai G 8 (fun _ => (-1)), ai G 24 (fun _ => (-1)), ai G 32 (fun _ => (-1)), ai G 14 (fun _ => 0), ob 7 [.ref (G.2.1 + 1), .ref (G.2.1 + 2), .ref (G.2.1 + 6), .ref (G.2.1 + 22), .ref (G.2.1 + 24), .int 0, .ref (G.2.1 + 25), .ref (G.2.1 + 26), .int 0], ai G 500 (fun _ => 0), ai G 500 (fun _ => 0), ai G 500 (fun _ => 0), ob 0 [.ref (G.2.1 + 1), .ref (G.2.1 + 2), .ref (G.2.1 + 23), .int 0], ob 1 [.ref (G.2.1 + 29), .int 0, .int 0, .ref (G.2.1 + 30), .ref (G.2.1 + 31)], ai G 0 (fun _ => 0), ai G 500 (fun _ => 0), ai G 501 (fun _ => 0), ob 10 [.ref (G.2.1 + 33), .ref (G.2.1 + 34), .ref (G.2.1 + 35), .int 0, .int 0, .int 0, .int 0, .int 0, .ref (G.2.1 + 36), .ref (G.2.1 + 37), .ref (G.2.1 + 38), .ref (G.2.1 + 39), .int 0, .ref (G.2.1 + 40), .int 0, .ref (G.2.1 + 41)], ai G 26100 (sx 256), ai G 26100 (fun _ => 0), ai G 26100 (fun _ => 0), ai G 14 (fun _ => 0), ai G 500 (fun _ => 0), ai G 500 (fun _ => 0), az G 500 (fun _ => 0), ai G 501 (fun _ => 0), ai G 500 (fun _ => 0)])) := by
  refine Ct.of (by decide) (Nat.le_of_ble_eq_true rfl) ⟨Nat.le_refl _, Nat.le_refl _⟩ ?_
  show Go l G mX5_add _ 0 [(0, .ref (G.2.1 + 17)), (1, .int 10), (2, .int x2), (3, .int x3), (4, .int x4), (5, .int x5)] [] 42 90324 (wl G.2.1 (LF G))
  refine go_aload_n (pc := 0) dX5_add_0 rfl rfl ?_
  refine go_get (pc := 1) fX5_18 rfl (gz_b (by decide)) (wl_at (i := 17) rfl) rfl dX5_add_1 ?_
  refine go_iconst (pc := 4) (v := 5) dX5_add_4 (by decide) ?_
  refine go_imul (pc := 5) dX5_add_5 ?_
  refine go_top (y := 0) (by decide) ?_
  refine go_istore (pc := 6) (lv' := [(6, .int 0), (0, .ref (G.2.1 + 17)), (1, .int 10), (2, .int x2), (3, .int x3), (4, .int x4), (5, .int x5)]) dX5_add_6 (by decide) rfl ?_
  refine go_aload_n (pc := 8) dX5_add_8 rfl rfl ?_
  refine go_get (pc := 9) fX5_9 rfl (gz_b (by decide)) (wl_at (i := 17) rfl) rfl dX5_add_9 ?_
  refine go_iload (pc := 12) dX5_add_12 rfl ?_
  refine go_iload_n (pc := 14) dX5_add_14 rfl rfl ?_
  refine go_iast (pc := 15) (gz_b (by decide)) (wl_at (i := 18) rfl) (gv_in (by decide)) dX5_add_15 ?_
  refine go_ext (wl_up (i := 18) rfl rfl) ?_
  refine go_aload_n (pc := 16) dX5_add_16 rfl rfl ?_
  refine go_get (pc := 17) fX5_9 rfl (gz_b (by decide)) (wl_at (i := 17) rfl) rfl dX5_add_17 ?_
  refine go_iload (pc := 20) dX5_add_20 rfl ?_
  refine go_iconst (pc := 22) (v := 1) dX5_add_22 (by decide) ?_
  refine go_iadd (pc := 23) dX5_add_23 ?_
  refine go_top (y := 1) (by decide) ?_
  refine go_iload_n (pc := 24) dX5_add_24 rfl rfl ?_
  refine go_iast (pc := 25) (gz_b (by decide)) (wl_at (i := 18) rfl) (gv_in (by decide)) dX5_add_25 ?_
  refine go_ext (wl_up (i := 18) rfl rfl) ?_
  refine go_aload_n (pc := 26) dX5_add_26 rfl rfl ?_
  refine go_get (pc := 27) fX5_9 rfl (gz_b (by decide)) (wl_at (i := 17) rfl) rfl dX5_add_27 ?_
  refine go_iload (pc := 30) dX5_add_30 rfl ?_
  refine go_iconst (pc := 32) (v := 2) dX5_add_32 (by decide) ?_
  refine go_iadd (pc := 33) dX5_add_33 ?_
  refine go_top (y := 2) (by decide) ?_
  refine go_iload_n (pc := 34) dX5_add_34 rfl rfl ?_
  refine go_iast (pc := 35) (gz_b (by decide)) (wl_at (i := 18) rfl) (gv_in (by decide)) dX5_add_35 ?_
  refine go_ext (wl_up (i := 18) rfl rfl) ?_
  refine go_aload_n (pc := 36) dX5_add_36 rfl rfl ?_
  refine go_get (pc := 37) fX5_9 rfl (gz_b (by decide)) (wl_at (i := 17) rfl) rfl dX5_add_37 ?_
  refine go_iload (pc := 40) dX5_add_40 rfl ?_
  refine go_iconst (pc := 42) (v := 3) dX5_add_42 (by decide) ?_
  refine go_iadd (pc := 43) dX5_add_43 ?_
  refine go_top (y := 3) (by decide) ?_
  refine go_iload (pc := 44) dX5_add_44 rfl ?_
  refine go_iast (pc := 46) (gz_b (by decide)) (wl_at (i := 18) rfl) (gv_in (by decide)) dX5_add_46 ?_
  refine go_ext (wl_up (i := 18) rfl rfl) ?_
  refine go_aload_n (pc := 47) dX5_add_47 rfl rfl ?_
  refine go_get (pc := 48) fX5_9 rfl (gz_b (by decide)) (wl_at (i := 17) rfl) rfl dX5_add_48 ?_
  refine go_iload (pc := 51) dX5_add_51 rfl ?_
  refine go_iconst (pc := 53) (v := 4) dX5_add_53 (by decide) ?_
  refine go_iadd (pc := 54) dX5_add_54 ?_
  refine go_top (y := 4) (by decide) ?_
  refine go_iload (pc := 55) dX5_add_55 rfl ?_
  refine go_iast (pc := 57) (gz_b (by decide)) (wl_at (i := 18) rfl) (gv_in (by decide)) dX5_add_57 ?_
  refine go_ext (wl_up (i := 18) rfl rfl) ?_
  refine go_aload_n (pc := 58) dX5_add_58 rfl rfl ?_
  refine go_dup (pc := 59) dX5_add_59 rfl ?_
  refine go_get (pc := 60) fX5_18 rfl (gz_b (by decide)) (wl_at (i := 17) rfl) rfl dX5_add_60 ?_
  refine go_iconst (pc := 63) (v := 1) dX5_add_63 (by decide) ?_
  refine go_iadd (pc := 64) dX5_add_64 ?_
  refine go_top (y := 1) (by decide) ?_
  refine go_put (pc := 65) fX5_18 rfl (gz_b (by decide)) (wl_at (i := 17) rfl) (Nat.le_of_ble_eq_true rfl) rfl rfl dX5_add_65 ?_
  refine go_ext (wl_up (i := 17) rfl rfl) ?_
  refine go_w (show _ = wl G.2.1 [ob 9 [.ref (G.2.1 + 1), .ref (G.2.1 + 23), .ref (G.2.1 + 27), .ref (G.2.1 + 28), .ref (G.2.1 + 22), .int 0, .int 0, .null, .int 0, .null, .int 0], ob 6 [.ref (G.2.1 + 2), .ref (G.2.1 + 6), .ref (G.2.1 + 12), .ref (G.2.1 + 14), .ref (G.2.1 + 17), .ref (G.2.1 + 20), .ref (G.2.1 + 21)], ob 2 [.int 256, .int 0, .int 0, .int 0, .ref (G.2.1 + 3), .ref (G.2.1 + 4), .ref (G.2.1 + 5)], ai G 256 (fun _ => 0), ai G 500 (fun _ => (-1)), ai G 500 (fun _ => 0), ob 3 [.int 0, .int 0, .int 0, .int 0, .ref (G.2.1 + 7), .ref (G.2.1 + 8), .ref (G.2.1 + 9), .ref (G.2.1 + 10), .ref (G.2.1 + 11)], ai G 500 (fun _ => 0), ai G 500 (fun _ => 0), ai G 500 (fun _ => 0), ai G 500 (fun _ => 0), ai G 500 (fun _ => 0), ob 8 [.int 0, .int 0, .int 0, .int 0, .int 0, .int 0, .ref (G.2.1 + 13)], ai G 300 (fun _ => 0), ob 4 [.int 0, .ref (G.2.1 + 15), .ref (G.2.1 + 16)], ai G 1295 (fun _ => 0), ai G 1295 (fun _ => 0), ob 5 [.int 1, .int 0, .int 0, .int 0, .ref (G.2.1 + 18), .ref (G.2.1 + 19)], ai G 200 (upd (upd (upd (upd (upd (fun _ => 0) (0 : Int32).toNatClampNeg 10) (1 : Int32).toNatClampNeg x2) (2 : Int32).toNatClampNeg x3) (3 : Int32).toNatClampNeg x4) (4 : Int32).toNatClampNeg x5), ai G 8 (fun _ => (-1)), ai G 24 (fun _ => (-1)), ai G 32 (fun _ => (-1)), ai G 14 (fun _ => 0), ob 7 [.ref (G.2.1 + 1), .ref (G.2.1 + 2), .ref (G.2.1 + 6), .ref (G.2.1 + 22), .ref (G.2.1 + 24), .int 0, .ref (G.2.1 + 25), .ref (G.2.1 + 26), .int 0], ai G 500 (fun _ => 0), ai G 500 (fun _ => 0), ai G 500 (fun _ => 0), ob 0 [.ref (G.2.1 + 1), .ref (G.2.1 + 2), .ref (G.2.1 + 23), .int 0], ob 1 [.ref (G.2.1 + 29), .int 0, .int 0, .ref (G.2.1 + 30), .ref (G.2.1 + 31)], ai G 0 (fun _ => 0), ai G 500 (fun _ => 0), ai G 501 (fun _ => 0), ob 10 [.ref (G.2.1 + 33), .ref (G.2.1 + 34), .ref (G.2.1 + 35), .int 0, .int 0, .int 0, .int 0, .int 0, .ref (G.2.1 + 36), .ref (G.2.1 + 37), .ref (G.2.1 + 38), .ref (G.2.1 + 39), .int 0, .ref (G.2.1 + 40), .int 0, .ref (G.2.1 + 41)], ai G 26100 (sx 256), ai G 26100 (fun _ => 0), ai G 26100 (fun _ => 0), ai G 14 (fun _ => 0), ai G 500 (fun _ => 0), ai G 500 (fun _ => 0), az G 500 (fun _ => 0), ai G 501 (fun _ => 0), ai G 500 (fun _ => 0)] from rfl) ?_
  exact go_vret (pc := 68) rfl dX5_add_68
set_option maxRecDepth 100000 in
set_option maxHeartbeats 4000000 in
theorem cx_act_10_o {l : Launch} {G : gG} (x2 : Int32) (x3 : Int32) (x4 : Int32) (x5 : Int32) : Ct l G mX9_act 1 26 [.ref (G.2.1 + 0), .int 10, .int x2, .int x3, .int x4, .int x5] 42 90324 (wl G.2.1 (LF G)) (some (.int 1), 42, 90324, (wl G.2.1 [ob 9 [.ref (G.2.1 + 1), .ref (G.2.1 + 23), .ref (G.2.1 + 27), .ref (G.2.1 + 28), .ref (G.2.1 + 22), .int 0, .int 0, .null, .int 0, .null, .int 0], ob 6 [.ref (G.2.1 + 2), .ref (G.2.1 + 6), .ref (G.2.1 + 12), .ref (G.2.1 + 14), .ref (G.2.1 + 17), .ref (G.2.1 + 20), .ref (G.2.1 + 21)], ob 2 [.int 256, .int 0, .int 0, .int 0, .ref (G.2.1 + 3), .ref (G.2.1 + 4), .ref (G.2.1 + 5)], ai G 256 (fun _ => 0), ai G 500 (fun _ => (-1)), ai G 500 (fun _ => 0), ob 3 [.int 0, .int 0, .int 0, .int 0, .ref (G.2.1 + 7), .ref (G.2.1 + 8), .ref (G.2.1 + 9), .ref (G.2.1 + 10), .ref (G.2.1 + 11)], ai G 500 (fun _ => 0), ai G 500 (fun _ => 0), ai G 500 (fun _ => 0), ai G 500 (fun _ => 0), ai G 500 (fun _ => 0), ob 8 [.int 0, .int 0, .int 0, .int 0, .int 0, .int 0, .ref (G.2.1 + 13)], ai G 300 (fun _ => 0), ob 4 [.int 0, .ref (G.2.1 + 15), .ref (G.2.1 + 16)], ai G 1295 (fun _ => 0), ai G 1295 (fun _ => 0), ob 5 [.int 1, .int 0, .int 0, .int 0, .ref (G.2.1 + 18), .ref (G.2.1 + 19)], ai G 200 (upd (upd (upd (upd (upd (fun _ => 0) (0 : Int32).toNatClampNeg 10) (1 : Int32).toNatClampNeg x2) (2 : Int32).toNatClampNeg x3) (3 : Int32).toNatClampNeg x4) (4 : Int32).toNatClampNeg x5), ai G 8 (fun _ => (-1)), ai G 24 (fun _ => (-1)), ai G 32 (fun _ => (-1)), ai G 14 (fun _ => 0), ob 7 [.ref (G.2.1 + 1), .ref (G.2.1 + 2), .ref (G.2.1 + 6), .ref (G.2.1 + 22), .ref (G.2.1 + 24), .int 0, .ref (G.2.1 + 25), .ref (G.2.1 + 26), .int 0], ai G 500 (fun _ => 0), ai G 500 (fun _ => 0), ai G 500 (fun _ => 0), ob 0 [.ref (G.2.1 + 1), .ref (G.2.1 + 2), .ref (G.2.1 + 23), .int 0], ob 1 [.ref (G.2.1 + 29), .int 0, .int 0, .ref (G.2.1 + 30), .ref (G.2.1 + 31)], ai G 0 (fun _ => 0), ai G 500 (fun _ => 0), ai G 501 (fun _ => 0), ob 10 [.ref (G.2.1 + 33), .ref (G.2.1 + 34), .ref (G.2.1 + 35), .int 0, .int 0, .int 0, .int 0, .int 0, .ref (G.2.1 + 36), .ref (G.2.1 + 37), .ref (G.2.1 + 38), .ref (G.2.1 + 39), .int 0, .ref (G.2.1 + 40), .int 0, .ref (G.2.1 + 41)], ai G 26100 (sx 256), ai G 26100 (fun _ => 0), ai G 26100 (fun _ => 0), ai G 14 (fun _ => 0), ai G 500 (fun _ => 0), ai G 500 (fun _ => 0), az G 500 (fun _ => 0), ai G 501 (fun _ => 0), ai G 500 (fun _ => 0)])) := by
  refine Ct.of (by decide) (Nat.le_of_ble_eq_true rfl) ⟨Nat.le_refl _, Nat.le_refl _⟩ ?_
  show Go l G mX9_act _ 0 [(0, .ref (G.2.1 + 0)), (1, .int 10), (2, .int x2), (3, .int x3), (4, .int x4), (5, .int x5)] [] 42 90324 (wl G.2.1 (LF G))
  refine go_iload_n (pc := 0) dX9_act_0 rfl rfl ?_
  refine go_if_lt_f (pc := 1) (tgt := 10) dX9_act_1 (by decide) (by decide) ?_
  refine go_iload_n (pc := 4) dX9_act_4 rfl rfl ?_
  refine go_bipush (pc := 5) (v := 12) dX9_act_5 (by decide) ?_
  refine go_icmp_le_t (pc := 7) (tgt := 13) dX9_act_7 (by decide) (by decide) ?_
  refine go_gets (pc := 13) (i := 5) (by decide) rfl tX9_280 dX9_act_13 ?_
  refine go_iload_n (pc := 16) dX9_act_16 rfl rfl ?_
  refine go_tald (pc := 17) (i := 5) (by decide) (gv_in (by decide)) dX9_act_17 ?_
  refine go_top (y := 0) (by decide) ?_
  refine go_iload_n (pc := 18) dX9_act_18 rfl rfl ?_
  refine go_callS_i (pc := 19) sX9_283 rfl (cX9_isNoName_7 x2) rfl rfl (Nat.le_of_ble_eq_true rfl) ⟨Nat.le_of_ble_eq_true rfl, Nat.le_of_ble_eq_true rfl, (Nat.le_add_right _ _), (Nat.le_add_right _ _)⟩ dX9_act_19 ?_
  refine go_if_ne_f (pc := 22) (tgt := 50) dX9_act_22 (by decide) (by decide) ?_
  refine go_gets (pc := 25) (i := 6) (by decide) rfl tX9_286 dX9_act_25 ?_
  refine go_iload_n (pc := 28) dX9_act_28 rfl rfl ?_
  refine go_tald (pc := 29) (i := 6) (by decide) (gv_in (by decide)) dX9_act_29 ?_
  refine go_top (y := 0) (by decide) ?_
  refine go_iload_n (pc := 30) dX9_act_30 rfl rfl ?_
  refine go_callS_i (pc := 31) sX9_283 rfl (cX9_isNoName_2 x3) rfl rfl (Nat.le_of_ble_eq_true rfl) ⟨Nat.le_of_ble_eq_true rfl, Nat.le_of_ble_eq_true rfl, (Nat.le_add_right _ _), (Nat.le_add_right _ _)⟩ dX9_act_31 ?_
  refine go_if_ne_f (pc := 34) (tgt := 50) dX9_act_34 (by decide) (by decide) ?_
  refine go_gets (pc := 37) (i := 7) (by decide) rfl tX9_289 dX9_act_37 ?_
  refine go_iload_n (pc := 40) dX9_act_40 rfl rfl ?_
  refine go_tald (pc := 41) (i := 7) (by decide) (gv_in (by decide)) dX9_act_41 ?_
  refine go_top (y := 0) (by decide) ?_
  refine go_iload (pc := 42) dX9_act_42 rfl ?_
  refine go_callS_i (pc := 44) sX9_283 rfl (cX9_isNoName_3 x4) rfl rfl (Nat.le_of_ble_eq_true rfl) ⟨Nat.le_of_ble_eq_true rfl, Nat.le_of_ble_eq_true rfl, (Nat.le_add_right _ _), (Nat.le_add_right _ _)⟩ dX9_act_44 ?_
  refine go_if_eq_t (pc := 47) (tgt := 53) dX9_act_47 (by decide) (by decide) ?_
  refine go_iload_n (pc := 53) dX9_act_53 rfl rfl ?_
  refine go_if_ne_t (pc := 54) (tgt := 66) dX9_act_54 (by decide) (by decide) ?_
  refine go_iload_n (pc := 66) dX9_act_66 rfl rfl ?_
  refine go_bipush (pc := 67) (v := 9) dX9_act_67 (by decide) ?_
  refine go_icmp_ne_t (pc := 69) (tgt := 86) dX9_act_69 (by decide) (by decide) ?_
  refine go_aload_n (pc := 86) dX9_act_86 rfl rfl ?_
  refine go_get (pc := 87) fX9_12 rfl (gz_b (by decide)) (wl_at (i := 0) rfl) rfl dX9_act_87 ?_
  refine go_get (pc := 90) fX9_236 rfl (gz_b (by decide)) (wl_at (i := 1) rfl) rfl dX9_act_90 ?_
  refine go_get (pc := 93) fX9_240 rfl (gz_b (by decide)) (wl_at (i := 17) rfl) rfl dX9_act_93 ?_
  refine go_bipush (pc := 96) (v := 40) dX9_act_96 (by decide) ?_
  refine go_icmp_lt_t (pc := 98) (tgt := 104) dX9_act_98 (by decide) (by decide) ?_
  refine go_aload_n (pc := 104) dX9_act_104 rfl rfl ?_
  refine go_get (pc := 105) fX9_12 rfl (gz_b (by decide)) (wl_at (i := 0) rfl) rfl dX9_act_105 ?_
  refine go_get (pc := 108) fX9_236 rfl (gz_b (by decide)) (wl_at (i := 1) rfl) rfl dX9_act_108 ?_
  refine go_iload_n (pc := 111) dX9_act_111 rfl rfl ?_
  refine go_iload_n (pc := 112) dX9_act_112 rfl rfl ?_
  refine go_iload_n (pc := 113) dX9_act_113 rfl rfl ?_
  refine go_iload (pc := 114) dX9_act_114 rfl ?_
  refine go_iload (pc := 116) dX9_act_116 rfl ?_
  refine go_callV_v (pc := 118) vX9_292 rfl (cX5_add_11 x2 x3 x4 x5) rfl rfl (gz_b (by decide)) (wl_at (i := 17) rfl) rfl (Nat.le_of_ble_eq_true rfl) ⟨Nat.le_of_ble_eq_true rfl, Nat.le_of_ble_eq_true rfl, (Nat.le_add_right _ _), (Nat.le_add_right _ _)⟩ dX9_act_118 ?_
  refine go_aload_n (pc := 121) dX9_act_121 rfl rfl ?_
  refine go_get (pc := 122) fX9_12 rfl (gz_b (by decide)) (wl_at (i := 0) rfl) rfl dX9_act_122 ?_
  refine go_get (pc := 125) fX9_236 rfl (gz_b (by decide)) (wl_at (i := 1) rfl) rfl dX9_act_125 ?_
  refine go_get (pc := 128) fX9_240 rfl (gz_b (by decide)) (wl_at (i := 17) rfl) rfl dX9_act_128 ?_
  exact go_iret (pc := 131) rfl dX9_act_131
theorem cx_act_10 {l : Launch} {G : gG} (x2 : Int32) (x3 : Int32) (x4 : Int32) (x5 : Int32) : CX l G mX9_act [.ref (G.2.1 + 0), .int 10, .int x2, .int x3, .int x4, .int x5] 1 := by
  exact ⟨1, 26, 42, 90324, _, by decide, by decide, by decide, by decide, by decide, (by exact wl_frame rfl), cx_act_10_o x2 x3 x4 x5⟩
set_option maxRecDepth 100000 in
set_option maxHeartbeats 4000000 in
theorem cX5_add_12 {l : Launch} {G : gG} (x2 : Int32) (x3 : Int32) (x4 : Int32) (x5 : Int32) : Ct l G mX5_add 0 0 [.ref (G.2.1 + 17), .int 11, .int x2, .int x3, .int x4, .int x5] 42 90324 (wl G.2.1 (LF G)) (none, 42, 90324, (wl G.2.1 [ob 9 [.ref (G.2.1 + 1), .ref (G.2.1 + 23), .ref (G.2.1 + 27), .ref (G.2.1 + 28), .ref (G.2.1 + 22), .int 0, .int 0, .null, .int 0, .null, .int 0], ob 6 [.ref (G.2.1 + 2), .ref (G.2.1 + 6), .ref (G.2.1 + 12), .ref (G.2.1 + 14), .ref (G.2.1 + 17), .ref (G.2.1 + 20), .ref (G.2.1 + 21)], ob 2 [.int 256, .int 0, .int 0, .int 0, .ref (G.2.1 + 3), .ref (G.2.1 + 4), .ref (G.2.1 + 5)], ai G 256 (fun _ => 0), ai G 500 (fun _ => (-1)), ai G 500 (fun _ => 0), ob 3 [.int 0, .int 0, .int 0, .int 0, .ref (G.2.1 + 7), .ref (G.2.1 + 8), .ref (G.2.1 + 9), .ref (G.2.1 + 10), .ref (G.2.1 + 11)], ai G 500 (fun _ => 0), ai G 500 (fun _ => 0), ai G 500 (fun _ => 0), ai G 500 (fun _ => 0), ai G 500 (fun _ => 0), ob 8 [.int 0, .int 0, .int 0, .int 0, .int 0, .int 0, .ref (G.2.1 + 13)], ai G 300 (fun _ => 0), ob 4 [.int 0, .ref (G.2.1 + 15), .ref (G.2.1 + 16)], ai G 1295 (fun _ => 0), ai G 1295 (fun _ => 0), ob 5 [.int 1, .int 0, .int 0, .int 0, .ref (G.2.1 + 18), .ref (G.2.1 + 19)], ai G 200 (upd (upd (upd (upd (upd (fun _ => 0) (0 : Int32).toNatClampNeg 11) (1 : Int32).toNatClampNeg x2) (2 : Int32).toNatClampNeg x3) (3 : Int32).toNatClampNeg x4) (4 : Int32).toNatClampNeg x5), ai G 8 (fun _ => (-1)), ai G 24 (fun _ => (-1)), ai G 32 (fun _ => (-1)), ai G 14 (fun _ => 0), ob 7 [.ref (G.2.1 + 1), .ref (G.2.1 + 2), .ref (G.2.1 + 6), .ref (G.2.1 + 22), .ref (G.2.1 + 24), .int 0, .ref (G.2.1 + 25), .ref (G.2.1 + 26), .int 0], ai G 500 (fun _ => 0), ai G 500 (fun _ => 0), ai G 500 (fun _ => 0), ob 0 [.ref (G.2.1 + 1), .ref (G.2.1 + 2), .ref (G.2.1 + 23), .int 0], ob 1 [.ref (G.2.1 + 29), .int 0, .int 0, .ref (G.2.1 + 30), .ref (G.2.1 + 31)], ai G 0 (fun _ => 0), ai G 500 (fun _ => 0), ai G 501 (fun _ => 0), ob 10 [.ref (G.2.1 + 33), .ref (G.2.1 + 34), .ref (G.2.1 + 35), .int 0, .int 0, .int 0, .int 0, .int 0, .ref (G.2.1 + 36), .ref (G.2.1 + 37), .ref (G.2.1 + 38), .ref (G.2.1 + 39), .int 0, .ref (G.2.1 + 40), .int 0, .ref (G.2.1 + 41)], ai G 26100 (sx 256), ai G 26100 (fun _ => 0), ai G 26100 (fun _ => 0), ai G 14 (fun _ => 0), ai G 500 (fun _ => 0), ai G 500 (fun _ => 0), az G 500 (fun _ => 0), ai G 501 (fun _ => 0), ai G 500 (fun _ => 0)])) := by
  refine Ct.of (by decide) (Nat.le_of_ble_eq_true rfl) ⟨Nat.le_refl _, Nat.le_refl _⟩ ?_
  show Go l G mX5_add _ 0 [(0, .ref (G.2.1 + 17)), (1, .int 11), (2, .int x2), (3, .int x3), (4, .int x4), (5, .int x5)] [] 42 90324 (wl G.2.1 (LF G))
  refine go_aload_n (pc := 0) dX5_add_0 rfl rfl ?_
  refine go_get (pc := 1) fX5_18 rfl (gz_b (by decide)) (wl_at (i := 17) rfl) rfl dX5_add_1 ?_
  refine go_iconst (pc := 4) (v := 5) dX5_add_4 (by decide) ?_
  refine go_imul (pc := 5) dX5_add_5 ?_
  refine go_top (y := 0) (by decide) ?_
  refine go_istore (pc := 6) (lv' := [(6, .int 0), (0, .ref (G.2.1 + 17)), (1, .int 11), (2, .int x2), (3, .int x3), (4, .int x4), (5, .int x5)]) dX5_add_6 (by decide) rfl ?_
  refine go_aload_n (pc := 8) dX5_add_8 rfl rfl ?_
  refine go_get (pc := 9) fX5_9 rfl (gz_b (by decide)) (wl_at (i := 17) rfl) rfl dX5_add_9 ?_
  refine go_iload (pc := 12) dX5_add_12 rfl ?_
  refine go_iload_n (pc := 14) dX5_add_14 rfl rfl ?_
  refine go_iast (pc := 15) (gz_b (by decide)) (wl_at (i := 18) rfl) (gv_in (by decide)) dX5_add_15 ?_
  refine go_ext (wl_up (i := 18) rfl rfl) ?_
  refine go_aload_n (pc := 16) dX5_add_16 rfl rfl ?_
  refine go_get (pc := 17) fX5_9 rfl (gz_b (by decide)) (wl_at (i := 17) rfl) rfl dX5_add_17 ?_
  refine go_iload (pc := 20) dX5_add_20 rfl ?_
  refine go_iconst (pc := 22) (v := 1) dX5_add_22 (by decide) ?_
  refine go_iadd (pc := 23) dX5_add_23 ?_
  refine go_top (y := 1) (by decide) ?_
  refine go_iload_n (pc := 24) dX5_add_24 rfl rfl ?_
  refine go_iast (pc := 25) (gz_b (by decide)) (wl_at (i := 18) rfl) (gv_in (by decide)) dX5_add_25 ?_
  refine go_ext (wl_up (i := 18) rfl rfl) ?_
  refine go_aload_n (pc := 26) dX5_add_26 rfl rfl ?_
  refine go_get (pc := 27) fX5_9 rfl (gz_b (by decide)) (wl_at (i := 17) rfl) rfl dX5_add_27 ?_
  refine go_iload (pc := 30) dX5_add_30 rfl ?_
  refine go_iconst (pc := 32) (v := 2) dX5_add_32 (by decide) ?_
  refine go_iadd (pc := 33) dX5_add_33 ?_
  refine go_top (y := 2) (by decide) ?_
  refine go_iload_n (pc := 34) dX5_add_34 rfl rfl ?_
  refine go_iast (pc := 35) (gz_b (by decide)) (wl_at (i := 18) rfl) (gv_in (by decide)) dX5_add_35 ?_
  refine go_ext (wl_up (i := 18) rfl rfl) ?_
  refine go_aload_n (pc := 36) dX5_add_36 rfl rfl ?_
  refine go_get (pc := 37) fX5_9 rfl (gz_b (by decide)) (wl_at (i := 17) rfl) rfl dX5_add_37 ?_
  refine go_iload (pc := 40) dX5_add_40 rfl ?_
  refine go_iconst (pc := 42) (v := 3) dX5_add_42 (by decide) ?_
  refine go_iadd (pc := 43) dX5_add_43 ?_
  refine go_top (y := 3) (by decide) ?_
  refine go_iload (pc := 44) dX5_add_44 rfl ?_
  refine go_iast (pc := 46) (gz_b (by decide)) (wl_at (i := 18) rfl) (gv_in (by decide)) dX5_add_46 ?_
  refine go_ext (wl_up (i := 18) rfl rfl) ?_
  refine go_aload_n (pc := 47) dX5_add_47 rfl rfl ?_
  refine go_get (pc := 48) fX5_9 rfl (gz_b (by decide)) (wl_at (i := 17) rfl) rfl dX5_add_48 ?_
  refine go_iload (pc := 51) dX5_add_51 rfl ?_
  refine go_iconst (pc := 53) (v := 4) dX5_add_53 (by decide) ?_
  refine go_iadd (pc := 54) dX5_add_54 ?_
  refine go_top (y := 4) (by decide) ?_
  refine go_iload (pc := 55) dX5_add_55 rfl ?_
  refine go_iast (pc := 57) (gz_b (by decide)) (wl_at (i := 18) rfl) (gv_in (by decide)) dX5_add_57 ?_
  refine go_ext (wl_up (i := 18) rfl rfl) ?_
  refine go_aload_n (pc := 58) dX5_add_58 rfl rfl ?_
  refine go_dup (pc := 59) dX5_add_59 rfl ?_
  refine go_get (pc := 60) fX5_18 rfl (gz_b (by decide)) (wl_at (i := 17) rfl) rfl dX5_add_60 ?_
  refine go_iconst (pc := 63) (v := 1) dX5_add_63 (by decide) ?_
  refine go_iadd (pc := 64) dX5_add_64 ?_
  refine go_top (y := 1) (by decide) ?_
  refine go_put (pc := 65) fX5_18 rfl (gz_b (by decide)) (wl_at (i := 17) rfl) (Nat.le_of_ble_eq_true rfl) rfl rfl dX5_add_65 ?_
  refine go_ext (wl_up (i := 17) rfl rfl) ?_
  refine go_w (show _ = wl G.2.1 [ob 9 [.ref (G.2.1 + 1), .ref (G.2.1 + 23), .ref (G.2.1 + 27), .ref (G.2.1 + 28), .ref (G.2.1 + 22), .int 0, .int 0, .null, .int 0, .null, .int 0], ob 6 [.ref (G.2.1 + 2), .ref (G.2.1 + 6), .ref (G.2.1 + 12), .ref (G.2.1 + 14), .ref (G.2.1 + 17), .ref (G.2.1 + 20), .ref (G.2.1 + 21)], ob 2 [.int 256, .int 0, .int 0, .int 0, .ref (G.2.1 + 3), .ref (G.2.1 + 4), .ref (G.2.1 + 5)], ai G 256 (fun _ => 0), ai G 500 (fun _ => (-1)), ai G 500 (fun _ => 0), ob 3 [.int 0, .int 0, .int 0, .int 0, .ref (G.2.1 + 7), .ref (G.2.1 + 8), .ref (G.2.1 + 9), .ref (G.2.1 + 10), .ref (G.2.1 + 11)], ai G 500 (fun _ => 0), ai G 500 (fun _ => 0), ai G 500 (fun _ => 0), ai G 500 (fun _ => 0), ai G 500 (fun _ => 0), ob 8 [.int 0, .int 0, .int 0, .int 0, .int 0, .int 0, .ref (G.2.1 + 13)], ai G 300 (fun _ => 0), ob 4 [.int 0, .ref (G.2.1 + 15), .ref (G.2.1 + 16)], ai G 1295 (fun _ => 0), ai G 1295 (fun _ => 0), ob 5 [.int 1, .int 0, .int 0, .int 0, .ref (G.2.1 + 18), .ref (G.2.1 + 19)], ai G 200 (upd (upd (upd (upd (upd (fun _ => 0) (0 : Int32).toNatClampNeg 11) (1 : Int32).toNatClampNeg x2) (2 : Int32).toNatClampNeg x3) (3 : Int32).toNatClampNeg x4) (4 : Int32).toNatClampNeg x5), ai G 8 (fun _ => (-1)), ai G 24 (fun _ => (-1)), ai G 32 (fun _ => (-1)), ai G 14 (fun _ => 0), ob 7 [.ref (G.2.1 + 1), .ref (G.2.1 + 2), .ref (G.2.1 + 6), .ref (G.2.1 + 22), .ref (G.2.1 + 24), .int 0, .ref (G.2.1 + 25), .ref (G.2.1 + 26), .int 0], ai G 500 (fun _ => 0), ai G 500 (fun _ => 0), ai G 500 (fun _ => 0), ob 0 [.ref (G.2.1 + 1), .ref (G.2.1 + 2), .ref (G.2.1 + 23), .int 0], ob 1 [.ref (G.2.1 + 29), .int 0, .int 0, .ref (G.2.1 + 30), .ref (G.2.1 + 31)], ai G 0 (fun _ => 0), ai G 500 (fun _ => 0), ai G 501 (fun _ => 0), ob 10 [.ref (G.2.1 + 33), .ref (G.2.1 + 34), .ref (G.2.1 + 35), .int 0, .int 0, .int 0, .int 0, .int 0, .ref (G.2.1 + 36), .ref (G.2.1 + 37), .ref (G.2.1 + 38), .ref (G.2.1 + 39), .int 0, .ref (G.2.1 + 40), .int 0, .ref (G.2.1 + 41)], ai G 26100 (sx 256), ai G 26100 (fun _ => 0), ai G 26100 (fun _ => 0), ai G 14 (fun _ => 0), ai G 500 (fun _ => 0), ai G 500 (fun _ => 0), az G 500 (fun _ => 0), ai G 501 (fun _ => 0), ai G 500 (fun _ => 0)] from rfl) ?_
  exact go_vret (pc := 68) rfl dX5_add_68
set_option maxRecDepth 100000 in
set_option maxHeartbeats 4000000 in
theorem cx_act_11_t {l : Launch} {G : gG} (x2 : Int32) (x3 : Int32) (x4 : Int32) (x5 : Int32) (c0 : (if x2 < 0 then (1 : Int32) else (if x2 < 8 then (0 : Int32) else 1)) = 0) : Ct l G mX9_act 1 26 [.ref (G.2.1 + 0), .int 11, .int x2, .int x3, .int x4, .int x5] 42 90324 (wl G.2.1 (LF G)) (some (.int 1), 42, 90324, (wl G.2.1 [ob 9 [.ref (G.2.1 + 1), .ref (G.2.1 + 23), .ref (G.2.1 + 27), .ref (G.2.1 + 28), .ref (G.2.1 + 22), .int 0, .int 0, .null, .int 0, .null, .int 0], ob 6 [.ref (G.2.1 + 2), .ref (G.2.1 + 6), .ref (G.2.1 + 12), .ref (G.2.1 + 14), .ref (G.2.1 + 17), .ref (G.2.1 + 20), .ref (G.2.1 + 21)], ob 2 [.int 256, .int 0, .int 0, .int 0, .ref (G.2.1 + 3), .ref (G.2.1 + 4), .ref (G.2.1 + 5)], ai G 256 (fun _ => 0), ai G 500 (fun _ => (-1)), ai G 500 (fun _ => 0), ob 3 [.int 0, .int 0, .int 0, .int 0, .ref (G.2.1 + 7), .ref (G.2.1 + 8), .ref (G.2.1 + 9), .ref (G.2.1 + 10), .ref (G.2.1 + 11)], ai G 500 (fun _ => 0), ai G 500 (fun _ => 0), ai G 500 (fun _ => 0), ai G 500 (fun _ => 0), ai G 500 (fun _ => 0), ob 8 [.int 0, .int 0, .int 0, .int 0, .int 0, .int 0, .ref (G.2.1 + 13)], ai G 300 (fun _ => 0), ob 4 [.int 0, .ref (G.2.1 + 15), .ref (G.2.1 + 16)], ai G 1295 (fun _ => 0), ai G 1295 (fun _ => 0), ob 5 [.int 1, .int 0, .int 0, .int 0, .ref (G.2.1 + 18), .ref (G.2.1 + 19)], ai G 200 (upd (upd (upd (upd (upd (fun _ => 0) (0 : Int32).toNatClampNeg 11) (1 : Int32).toNatClampNeg x2) (2 : Int32).toNatClampNeg x3) (3 : Int32).toNatClampNeg x4) (4 : Int32).toNatClampNeg x5), ai G 8 (fun _ => (-1)), ai G 24 (fun _ => (-1)), ai G 32 (fun _ => (-1)), ai G 14 (fun _ => 0), ob 7 [.ref (G.2.1 + 1), .ref (G.2.1 + 2), .ref (G.2.1 + 6), .ref (G.2.1 + 22), .ref (G.2.1 + 24), .int 0, .ref (G.2.1 + 25), .ref (G.2.1 + 26), .int 0], ai G 500 (fun _ => 0), ai G 500 (fun _ => 0), ai G 500 (fun _ => 0), ob 0 [.ref (G.2.1 + 1), .ref (G.2.1 + 2), .ref (G.2.1 + 23), .int 0], ob 1 [.ref (G.2.1 + 29), .int 0, .int 0, .ref (G.2.1 + 30), .ref (G.2.1 + 31)], ai G 0 (fun _ => 0), ai G 500 (fun _ => 0), ai G 501 (fun _ => 0), ob 10 [.ref (G.2.1 + 33), .ref (G.2.1 + 34), .ref (G.2.1 + 35), .int 0, .int 0, .int 0, .int 0, .int 0, .ref (G.2.1 + 36), .ref (G.2.1 + 37), .ref (G.2.1 + 38), .ref (G.2.1 + 39), .int 0, .ref (G.2.1 + 40), .int 0, .ref (G.2.1 + 41)], ai G 26100 (sx 256), ai G 26100 (fun _ => 0), ai G 26100 (fun _ => 0), ai G 14 (fun _ => 0), ai G 500 (fun _ => 0), ai G 500 (fun _ => 0), az G 500 (fun _ => 0), ai G 501 (fun _ => 0), ai G 500 (fun _ => 0)])) := by
  refine Ct.of (by decide) (Nat.le_of_ble_eq_true rfl) ⟨Nat.le_refl _, Nat.le_refl _⟩ ?_
  show Go l G mX9_act _ 0 [(0, .ref (G.2.1 + 0)), (1, .int 11), (2, .int x2), (3, .int x3), (4, .int x4), (5, .int x5)] [] 42 90324 (wl G.2.1 (LF G))
  refine go_iload_n (pc := 0) dX9_act_0 rfl rfl ?_
  refine go_if_lt_f (pc := 1) (tgt := 10) dX9_act_1 (by decide) (by decide) ?_
  refine go_iload_n (pc := 4) dX9_act_4 rfl rfl ?_
  refine go_bipush (pc := 5) (v := 12) dX9_act_5 (by decide) ?_
  refine go_icmp_le_t (pc := 7) (tgt := 13) dX9_act_7 (by decide) (by decide) ?_
  refine go_gets (pc := 13) (i := 5) (by decide) rfl tX9_280 dX9_act_13 ?_
  refine go_iload_n (pc := 16) dX9_act_16 rfl rfl ?_
  refine go_tald (pc := 17) (i := 5) (by decide) (gv_in (by decide)) dX9_act_17 ?_
  refine go_top (y := 8) (by decide) ?_
  refine go_iload_n (pc := 18) dX9_act_18 rfl rfl ?_
  refine go_callS_i (pc := 19) sX9_283 rfl (cX9_isNoName_1 x2) rfl rfl (Nat.le_of_ble_eq_true rfl) ⟨Nat.le_of_ble_eq_true rfl, Nat.le_of_ble_eq_true rfl, (Nat.le_add_right _ _), (Nat.le_add_right _ _)⟩ dX9_act_19 ?_
  refine go_if_ne_f (pc := 22) (tgt := 50) dX9_act_22 (by decide) c0 ?_
  refine go_gets (pc := 25) (i := 6) (by decide) rfl tX9_286 dX9_act_25 ?_
  refine go_iload_n (pc := 28) dX9_act_28 rfl rfl ?_
  refine go_tald (pc := 29) (i := 6) (by decide) (gv_in (by decide)) dX9_act_29 ?_
  refine go_top (y := 0) (by decide) ?_
  refine go_iload_n (pc := 30) dX9_act_30 rfl rfl ?_
  refine go_callS_i (pc := 31) sX9_283 rfl (cX9_isNoName_2 x3) rfl rfl (Nat.le_of_ble_eq_true rfl) ⟨Nat.le_of_ble_eq_true rfl, Nat.le_of_ble_eq_true rfl, (Nat.le_add_right _ _), (Nat.le_add_right _ _)⟩ dX9_act_31 ?_
  refine go_if_ne_f (pc := 34) (tgt := 50) dX9_act_34 (by decide) (by decide) ?_
  refine go_gets (pc := 37) (i := 7) (by decide) rfl tX9_289 dX9_act_37 ?_
  refine go_iload_n (pc := 40) dX9_act_40 rfl rfl ?_
  refine go_tald (pc := 41) (i := 7) (by decide) (gv_in (by decide)) dX9_act_41 ?_
  refine go_top (y := 0) (by decide) ?_
  refine go_iload (pc := 42) dX9_act_42 rfl ?_
  refine go_callS_i (pc := 44) sX9_283 rfl (cX9_isNoName_3 x4) rfl rfl (Nat.le_of_ble_eq_true rfl) ⟨Nat.le_of_ble_eq_true rfl, Nat.le_of_ble_eq_true rfl, (Nat.le_add_right _ _), (Nat.le_add_right _ _)⟩ dX9_act_44 ?_
  refine go_if_eq_t (pc := 47) (tgt := 53) dX9_act_47 (by decide) (by decide) ?_
  refine go_iload_n (pc := 53) dX9_act_53 rfl rfl ?_
  refine go_if_ne_t (pc := 54) (tgt := 66) dX9_act_54 (by decide) (by decide) ?_
  refine go_iload_n (pc := 66) dX9_act_66 rfl rfl ?_
  refine go_bipush (pc := 67) (v := 9) dX9_act_67 (by decide) ?_
  refine go_icmp_ne_t (pc := 69) (tgt := 86) dX9_act_69 (by decide) (by decide) ?_
  refine go_aload_n (pc := 86) dX9_act_86 rfl rfl ?_
  refine go_get (pc := 87) fX9_12 rfl (gz_b (by decide)) (wl_at (i := 0) rfl) rfl dX9_act_87 ?_
  refine go_get (pc := 90) fX9_236 rfl (gz_b (by decide)) (wl_at (i := 1) rfl) rfl dX9_act_90 ?_
  refine go_get (pc := 93) fX9_240 rfl (gz_b (by decide)) (wl_at (i := 17) rfl) rfl dX9_act_93 ?_
  refine go_bipush (pc := 96) (v := 40) dX9_act_96 (by decide) ?_
  refine go_icmp_lt_t (pc := 98) (tgt := 104) dX9_act_98 (by decide) (by decide) ?_
  refine go_aload_n (pc := 104) dX9_act_104 rfl rfl ?_
  refine go_get (pc := 105) fX9_12 rfl (gz_b (by decide)) (wl_at (i := 0) rfl) rfl dX9_act_105 ?_
  refine go_get (pc := 108) fX9_236 rfl (gz_b (by decide)) (wl_at (i := 1) rfl) rfl dX9_act_108 ?_
  refine go_iload_n (pc := 111) dX9_act_111 rfl rfl ?_
  refine go_iload_n (pc := 112) dX9_act_112 rfl rfl ?_
  refine go_iload_n (pc := 113) dX9_act_113 rfl rfl ?_
  refine go_iload (pc := 114) dX9_act_114 rfl ?_
  refine go_iload (pc := 116) dX9_act_116 rfl ?_
  refine go_callV_v (pc := 118) vX9_292 rfl (cX5_add_12 x2 x3 x4 x5) rfl rfl (gz_b (by decide)) (wl_at (i := 17) rfl) rfl (Nat.le_of_ble_eq_true rfl) ⟨Nat.le_of_ble_eq_true rfl, Nat.le_of_ble_eq_true rfl, (Nat.le_add_right _ _), (Nat.le_add_right _ _)⟩ dX9_act_118 ?_
  refine go_aload_n (pc := 121) dX9_act_121 rfl rfl ?_
  refine go_get (pc := 122) fX9_12 rfl (gz_b (by decide)) (wl_at (i := 0) rfl) rfl dX9_act_122 ?_
  refine go_get (pc := 125) fX9_236 rfl (gz_b (by decide)) (wl_at (i := 1) rfl) rfl dX9_act_125 ?_
  refine go_get (pc := 128) fX9_240 rfl (gz_b (by decide)) (wl_at (i := 17) rfl) rfl dX9_act_128 ?_
  exact go_iret (pc := 131) rfl dX9_act_131
set_option maxRecDepth 100000 in
set_option maxHeartbeats 4000000 in
theorem cx_act_11_f {l : Launch} {G : gG} (x2 : Int32) (x3 : Int32) (x4 : Int32) (x5 : Int32) (c0 : ¬ (if x2 < 0 then (1 : Int32) else (if x2 < 8 then (0 : Int32) else 1)) = 0) : Ct l G mX9_act 1 21 [.ref (G.2.1 + 0), .int 11, .int x2, .int x3, .int x4, .int x5] 42 90324 (wl G.2.1 (LF G)) (some (.int ((-101))), 42, 90324, (wl G.2.1 (LF G))) := by
  refine Ct.of (by decide) (Nat.le_of_ble_eq_true rfl) ⟨Nat.le_refl _, Nat.le_refl _⟩ ?_
  show Go l G mX9_act _ 0 [(0, .ref (G.2.1 + 0)), (1, .int 11), (2, .int x2), (3, .int x3), (4, .int x4), (5, .int x5)] [] 42 90324 (wl G.2.1 (LF G))
  refine go_iload_n (pc := 0) dX9_act_0 rfl rfl ?_
  refine go_if_lt_f (pc := 1) (tgt := 10) dX9_act_1 (by decide) (by decide) ?_
  refine go_iload_n (pc := 4) dX9_act_4 rfl rfl ?_
  refine go_bipush (pc := 5) (v := 12) dX9_act_5 (by decide) ?_
  refine go_icmp_le_t (pc := 7) (tgt := 13) dX9_act_7 (by decide) (by decide) ?_
  refine go_gets (pc := 13) (i := 5) (by decide) rfl tX9_280 dX9_act_13 ?_
  refine go_iload_n (pc := 16) dX9_act_16 rfl rfl ?_
  refine go_tald (pc := 17) (i := 5) (by decide) (gv_in (by decide)) dX9_act_17 ?_
  refine go_top (y := 8) (by decide) ?_
  refine go_iload_n (pc := 18) dX9_act_18 rfl rfl ?_
  refine go_callS_i (pc := 19) sX9_283 rfl (cX9_isNoName_1 x2) rfl rfl (Nat.le_of_ble_eq_true rfl) ⟨Nat.le_of_ble_eq_true rfl, Nat.le_of_ble_eq_true rfl, (Nat.le_add_right _ _), (Nat.le_add_right _ _)⟩ dX9_act_19 ?_
  refine go_if_ne_t (pc := 22) (tgt := 50) dX9_act_22 (by decide) c0 ?_
  refine go_bipush (pc := 50) (v := (-101)) dX9_act_50 (by decide) ?_
  exact go_iret (pc := 52) rfl dX9_act_52
theorem cx_act_11 {l : Launch} {G : gG} (x2 : Int32) (x3 : Int32) (x4 : Int32) (x5 : Int32) : CX l G mX9_act [.ref (G.2.1 + 0), .int 11, .int x2, .int x3, .int x4, .int x5] ((if (if x2 < 0 then (1 : Int32) else (if x2 < 8 then (0 : Int32) else 1)) = 0 then 1 else (-101))) := by
  by_cases c0 : (if x2 < 0 then (1 : Int32) else (if x2 < 8 then (0 : Int32) else 1)) = 0
  · rw [if_pos c0]
    exact ⟨1, 26, 42, 90324, _, by decide, by decide, by decide, by decide, by decide, (by exact wl_frame rfl), cx_act_11_t x2 x3 x4 x5 c0⟩
  · rw [if_neg c0]
    exact ⟨1, 21, 42, 90324, _, by decide, by decide, by decide, by decide, by decide, (by exact wl_frame rfl), cx_act_11_f x2 x3 x4 x5 c0⟩
set_option maxRecDepth 100000 in
set_option maxHeartbeats 4000000 in
theorem cX9_isNoName_8 {l : Launch} {G : gG} (x2 : Int32) : Ct l G mX9_isNoName 0 0 [.int 4, .int x2] 42 90324 (wl G.2.1 (LF G)) (some (.int ((if x2 < 0 then (1 : Int32) else (if x2 < 4 then (0 : Int32) else 1)))), 42, 90324, (wl G.2.1 (LF G))) := by
  refine Ct.of (by decide) (Nat.le_of_ble_eq_true rfl) ⟨Nat.le_refl _, Nat.le_refl _⟩ ?_
  show Go l G mX9_isNoName _ 0 [(0, .int 4), (1, .int x2)] [] 42 90324 (wl G.2.1 (LF G))
  refine go_iload_n (pc := 0) dX9_isNoName_0 rfl rfl ?_
  refine go_if_le_f (pc := 1) (tgt := 17) dX9_isNoName_1 (by decide) (by decide) ?_
  refine go_iload_n (pc := 4) dX9_isNoName_4 rfl rfl ?_
  refine go_if_lt (pc := 5) (tgt := 13) dX9_isNoName_5 (by decide) (fun c0 => ?_) (fun c0 => ?_)
  · refine go_iconst (pc := 13) (v := 1) dX9_isNoName_13 (by decide) ?_
    refine go_goto (pc := 14) (tgt := 18) dX9_isNoName_14 (by decide) ?_
    refine go_eq (r' := (some (.int 1), _, _, _)) (by rw [if_pos c0]) ?_
    exact go_zret (pc := 18) rfl rfl dX9_isNoName_18
  · refine go_iload_n (pc := 8) dX9_isNoName_8 rfl rfl ?_
    refine go_iload_n (pc := 9) dX9_isNoName_9 rfl rfl ?_
    refine go_icmp_lt (pc := 10) (tgt := 17) dX9_isNoName_10 (by decide) (fun c1 => ?_) (fun c1 => ?_)
    · refine go_iconst (pc := 17) (v := 0) dX9_isNoName_17 (by decide) ?_
      refine go_eq (r' := (some (.int 0), _, _, _)) (by rw [if_neg c0, if_pos c1]) ?_
      exact go_zret (pc := 18) rfl rfl dX9_isNoName_18
    · refine go_iconst (pc := 13) (v := 1) dX9_isNoName_13 (by decide) ?_
      refine go_goto (pc := 14) (tgt := 18) dX9_isNoName_14 (by decide) ?_
      refine go_eq (r' := (some (.int 1), _, _, _)) (by rw [if_neg c0, if_neg c1]) ?_
      exact go_zret (pc := 18) rfl rfl dX9_isNoName_18
set_option maxRecDepth 100000 in
set_option maxHeartbeats 4000000 in
theorem cX5_add_13 {l : Launch} {G : gG} (x2 : Int32) (x3 : Int32) (x4 : Int32) (x5 : Int32) : Ct l G mX5_add 0 0 [.ref (G.2.1 + 17), .int 12, .int x2, .int x3, .int x4, .int x5] 42 90324 (wl G.2.1 (LF G)) (none, 42, 90324, (wl G.2.1 [ob 9 [.ref (G.2.1 + 1), .ref (G.2.1 + 23), .ref (G.2.1 + 27), .ref (G.2.1 + 28), .ref (G.2.1 + 22), .int 0, .int 0, .null, .int 0, .null, .int 0], ob 6 [.ref (G.2.1 + 2), .ref (G.2.1 + 6), .ref (G.2.1 + 12), .ref (G.2.1 + 14), .ref (G.2.1 + 17), .ref (G.2.1 + 20), .ref (G.2.1 + 21)], ob 2 [.int 256, .int 0, .int 0, .int 0, .ref (G.2.1 + 3), .ref (G.2.1 + 4), .ref (G.2.1 + 5)], ai G 256 (fun _ => 0), ai G 500 (fun _ => (-1)), ai G 500 (fun _ => 0), ob 3 [.int 0, .int 0, .int 0, .int 0, .ref (G.2.1 + 7), .ref (G.2.1 + 8), .ref (G.2.1 + 9), .ref (G.2.1 + 10), .ref (G.2.1 + 11)], ai G 500 (fun _ => 0), ai G 500 (fun _ => 0), ai G 500 (fun _ => 0), ai G 500 (fun _ => 0), ai G 500 (fun _ => 0), ob 8 [.int 0, .int 0, .int 0, .int 0, .int 0, .int 0, .ref (G.2.1 + 13)], ai G 300 (fun _ => 0), ob 4 [.int 0, .ref (G.2.1 + 15), .ref (G.2.1 + 16)], ai G 1295 (fun _ => 0), ai G 1295 (fun _ => 0), ob 5 [.int 1, .int 0, .int 0, .int 0, .ref (G.2.1 + 18), .ref (G.2.1 + 19)], ai G 200 (upd (upd (upd (upd (upd (fun _ => 0) (0 : Int32).toNatClampNeg 12) (1 : Int32).toNatClampNeg x2) (2 : Int32).toNatClampNeg x3) (3 : Int32).toNatClampNeg x4) (4 : Int32).toNatClampNeg x5), ai G 8 (fun _ => (-1)), ai G 24 (fun _ => (-1)), ai G 32 (fun _ => (-1)), ai G 14 (fun _ => 0), ob 7 [.ref (G.2.1 + 1), .ref (G.2.1 + 2), .ref (G.2.1 + 6), .ref (G.2.1 + 22), .ref (G.2.1 + 24), .int 0, .ref (G.2.1 + 25), .ref (G.2.1 + 26), .int 0], ai G 500 (fun _ => 0), ai G 500 (fun _ => 0), ai G 500 (fun _ => 0), ob 0 [.ref (G.2.1 + 1), .ref (G.2.1 + 2), .ref (G.2.1 + 23), .int 0], ob 1 [.ref (G.2.1 + 29), .int 0, .int 0, .ref (G.2.1 + 30), .ref (G.2.1 + 31)], ai G 0 (fun _ => 0), ai G 500 (fun _ => 0), ai G 501 (fun _ => 0), ob 10 [.ref (G.2.1 + 33), .ref (G.2.1 + 34), .ref (G.2.1 + 35), .int 0, .int 0, .int 0, .int 0, .int 0, .ref (G.2.1 + 36), .ref (G.2.1 + 37), .ref (G.2.1 + 38), .ref (G.2.1 + 39), .int 0, .ref (G.2.1 + 40), .int 0, .ref (G.2.1 + 41)], ai G 26100 (sx 256), ai G 26100 (fun _ => 0), ai G 26100 (fun _ => 0), ai G 14 (fun _ => 0), ai G 500 (fun _ => 0), ai G 500 (fun _ => 0), az G 500 (fun _ => 0), ai G 501 (fun _ => 0), ai G 500 (fun _ => 0)])) := by
  refine Ct.of (by decide) (Nat.le_of_ble_eq_true rfl) ⟨Nat.le_refl _, Nat.le_refl _⟩ ?_
  show Go l G mX5_add _ 0 [(0, .ref (G.2.1 + 17)), (1, .int 12), (2, .int x2), (3, .int x3), (4, .int x4), (5, .int x5)] [] 42 90324 (wl G.2.1 (LF G))
  refine go_aload_n (pc := 0) dX5_add_0 rfl rfl ?_
  refine go_get (pc := 1) fX5_18 rfl (gz_b (by decide)) (wl_at (i := 17) rfl) rfl dX5_add_1 ?_
  refine go_iconst (pc := 4) (v := 5) dX5_add_4 (by decide) ?_
  refine go_imul (pc := 5) dX5_add_5 ?_
  refine go_top (y := 0) (by decide) ?_
  refine go_istore (pc := 6) (lv' := [(6, .int 0), (0, .ref (G.2.1 + 17)), (1, .int 12), (2, .int x2), (3, .int x3), (4, .int x4), (5, .int x5)]) dX5_add_6 (by decide) rfl ?_
  refine go_aload_n (pc := 8) dX5_add_8 rfl rfl ?_
  refine go_get (pc := 9) fX5_9 rfl (gz_b (by decide)) (wl_at (i := 17) rfl) rfl dX5_add_9 ?_
  refine go_iload (pc := 12) dX5_add_12 rfl ?_
  refine go_iload_n (pc := 14) dX5_add_14 rfl rfl ?_
  refine go_iast (pc := 15) (gz_b (by decide)) (wl_at (i := 18) rfl) (gv_in (by decide)) dX5_add_15 ?_
  refine go_ext (wl_up (i := 18) rfl rfl) ?_
  refine go_aload_n (pc := 16) dX5_add_16 rfl rfl ?_
  refine go_get (pc := 17) fX5_9 rfl (gz_b (by decide)) (wl_at (i := 17) rfl) rfl dX5_add_17 ?_
  refine go_iload (pc := 20) dX5_add_20 rfl ?_
  refine go_iconst (pc := 22) (v := 1) dX5_add_22 (by decide) ?_
  refine go_iadd (pc := 23) dX5_add_23 ?_
  refine go_top (y := 1) (by decide) ?_
  refine go_iload_n (pc := 24) dX5_add_24 rfl rfl ?_
  refine go_iast (pc := 25) (gz_b (by decide)) (wl_at (i := 18) rfl) (gv_in (by decide)) dX5_add_25 ?_
  refine go_ext (wl_up (i := 18) rfl rfl) ?_
  refine go_aload_n (pc := 26) dX5_add_26 rfl rfl ?_
  refine go_get (pc := 27) fX5_9 rfl (gz_b (by decide)) (wl_at (i := 17) rfl) rfl dX5_add_27 ?_
  refine go_iload (pc := 30) dX5_add_30 rfl ?_
  refine go_iconst (pc := 32) (v := 2) dX5_add_32 (by decide) ?_
  refine go_iadd (pc := 33) dX5_add_33 ?_
  refine go_top (y := 2) (by decide) ?_
  refine go_iload_n (pc := 34) dX5_add_34 rfl rfl ?_
  refine go_iast (pc := 35) (gz_b (by decide)) (wl_at (i := 18) rfl) (gv_in (by decide)) dX5_add_35 ?_
  refine go_ext (wl_up (i := 18) rfl rfl) ?_
  refine go_aload_n (pc := 36) dX5_add_36 rfl rfl ?_
  refine go_get (pc := 37) fX5_9 rfl (gz_b (by decide)) (wl_at (i := 17) rfl) rfl dX5_add_37 ?_
  refine go_iload (pc := 40) dX5_add_40 rfl ?_
  refine go_iconst (pc := 42) (v := 3) dX5_add_42 (by decide) ?_
  refine go_iadd (pc := 43) dX5_add_43 ?_
  refine go_top (y := 3) (by decide) ?_
  refine go_iload (pc := 44) dX5_add_44 rfl ?_
  refine go_iast (pc := 46) (gz_b (by decide)) (wl_at (i := 18) rfl) (gv_in (by decide)) dX5_add_46 ?_
  refine go_ext (wl_up (i := 18) rfl rfl) ?_
  refine go_aload_n (pc := 47) dX5_add_47 rfl rfl ?_
  refine go_get (pc := 48) fX5_9 rfl (gz_b (by decide)) (wl_at (i := 17) rfl) rfl dX5_add_48 ?_
  refine go_iload (pc := 51) dX5_add_51 rfl ?_
  refine go_iconst (pc := 53) (v := 4) dX5_add_53 (by decide) ?_
  refine go_iadd (pc := 54) dX5_add_54 ?_
  refine go_top (y := 4) (by decide) ?_
  refine go_iload (pc := 55) dX5_add_55 rfl ?_
  refine go_iast (pc := 57) (gz_b (by decide)) (wl_at (i := 18) rfl) (gv_in (by decide)) dX5_add_57 ?_
  refine go_ext (wl_up (i := 18) rfl rfl) ?_
  refine go_aload_n (pc := 58) dX5_add_58 rfl rfl ?_
  refine go_dup (pc := 59) dX5_add_59 rfl ?_
  refine go_get (pc := 60) fX5_18 rfl (gz_b (by decide)) (wl_at (i := 17) rfl) rfl dX5_add_60 ?_
  refine go_iconst (pc := 63) (v := 1) dX5_add_63 (by decide) ?_
  refine go_iadd (pc := 64) dX5_add_64 ?_
  refine go_top (y := 1) (by decide) ?_
  refine go_put (pc := 65) fX5_18 rfl (gz_b (by decide)) (wl_at (i := 17) rfl) (Nat.le_of_ble_eq_true rfl) rfl rfl dX5_add_65 ?_
  refine go_ext (wl_up (i := 17) rfl rfl) ?_
  refine go_w (show _ = wl G.2.1 [ob 9 [.ref (G.2.1 + 1), .ref (G.2.1 + 23), .ref (G.2.1 + 27), .ref (G.2.1 + 28), .ref (G.2.1 + 22), .int 0, .int 0, .null, .int 0, .null, .int 0], ob 6 [.ref (G.2.1 + 2), .ref (G.2.1 + 6), .ref (G.2.1 + 12), .ref (G.2.1 + 14), .ref (G.2.1 + 17), .ref (G.2.1 + 20), .ref (G.2.1 + 21)], ob 2 [.int 256, .int 0, .int 0, .int 0, .ref (G.2.1 + 3), .ref (G.2.1 + 4), .ref (G.2.1 + 5)], ai G 256 (fun _ => 0), ai G 500 (fun _ => (-1)), ai G 500 (fun _ => 0), ob 3 [.int 0, .int 0, .int 0, .int 0, .ref (G.2.1 + 7), .ref (G.2.1 + 8), .ref (G.2.1 + 9), .ref (G.2.1 + 10), .ref (G.2.1 + 11)], ai G 500 (fun _ => 0), ai G 500 (fun _ => 0), ai G 500 (fun _ => 0), ai G 500 (fun _ => 0), ai G 500 (fun _ => 0), ob 8 [.int 0, .int 0, .int 0, .int 0, .int 0, .int 0, .ref (G.2.1 + 13)], ai G 300 (fun _ => 0), ob 4 [.int 0, .ref (G.2.1 + 15), .ref (G.2.1 + 16)], ai G 1295 (fun _ => 0), ai G 1295 (fun _ => 0), ob 5 [.int 1, .int 0, .int 0, .int 0, .ref (G.2.1 + 18), .ref (G.2.1 + 19)], ai G 200 (upd (upd (upd (upd (upd (fun _ => 0) (0 : Int32).toNatClampNeg 12) (1 : Int32).toNatClampNeg x2) (2 : Int32).toNatClampNeg x3) (3 : Int32).toNatClampNeg x4) (4 : Int32).toNatClampNeg x5), ai G 8 (fun _ => (-1)), ai G 24 (fun _ => (-1)), ai G 32 (fun _ => (-1)), ai G 14 (fun _ => 0), ob 7 [.ref (G.2.1 + 1), .ref (G.2.1 + 2), .ref (G.2.1 + 6), .ref (G.2.1 + 22), .ref (G.2.1 + 24), .int 0, .ref (G.2.1 + 25), .ref (G.2.1 + 26), .int 0], ai G 500 (fun _ => 0), ai G 500 (fun _ => 0), ai G 500 (fun _ => 0), ob 0 [.ref (G.2.1 + 1), .ref (G.2.1 + 2), .ref (G.2.1 + 23), .int 0], ob 1 [.ref (G.2.1 + 29), .int 0, .int 0, .ref (G.2.1 + 30), .ref (G.2.1 + 31)], ai G 0 (fun _ => 0), ai G 500 (fun _ => 0), ai G 501 (fun _ => 0), ob 10 [.ref (G.2.1 + 33), .ref (G.2.1 + 34), .ref (G.2.1 + 35), .int 0, .int 0, .int 0, .int 0, .int 0, .ref (G.2.1 + 36), .ref (G.2.1 + 37), .ref (G.2.1 + 38), .ref (G.2.1 + 39), .int 0, .ref (G.2.1 + 40), .int 0, .ref (G.2.1 + 41)], ai G 26100 (sx 256), ai G 26100 (fun _ => 0), ai G 26100 (fun _ => 0), ai G 14 (fun _ => 0), ai G 500 (fun _ => 0), ai G 500 (fun _ => 0), az G 500 (fun _ => 0), ai G 501 (fun _ => 0), ai G 500 (fun _ => 0)] from rfl) ?_
  exact go_vret (pc := 68) rfl dX5_add_68
set_option maxRecDepth 100000 in
set_option maxHeartbeats 4000000 in
theorem cx_act_12_tt {l : Launch} {G : gG} (x2 : Int32) (x3 : Int32) (x4 : Int32) (x5 : Int32) (c0 : (if x2 < 0 then (1 : Int32) else (if x2 < 4 then (0 : Int32) else 1)) = 0) (c1 : (if x4 < 0 then (1 : Int32) else (if x4 < 8 then (0 : Int32) else 1)) = 0) : Ct l G mX9_act 1 26 [.ref (G.2.1 + 0), .int 12, .int x2, .int x3, .int x4, .int x5] 42 90324 (wl G.2.1 (LF G)) (some (.int 1), 42, 90324, (wl G.2.1 [ob 9 [.ref (G.2.1 + 1), .ref (G.2.1 + 23), .ref (G.2.1 + 27), .ref (G.2.1 + 28), .ref (G.2.1 + 22), .int 0, .int 0, .null, .int 0, .null, .int 0], ob 6 [.ref (G.2.1 + 2), .ref (G.2.1 + 6), .ref (G.2.1 + 12), .ref (G.2.1 + 14), .ref (G.2.1 + 17), .ref (G.2.1 + 20), .ref (G.2.1 + 21)], ob 2 [.int 256, .int 0, .int 0, .int 0, .ref (G.2.1 + 3), .ref (G.2.1 + 4), .ref (G.2.1 + 5)], ai G 256 (fun _ => 0), ai G 500 (fun _ => (-1)), ai G 500 (fun _ => 0), ob 3 [.int 0, .int 0, .int 0, .int 0, .ref (G.2.1 + 7), .ref (G.2.1 + 8), .ref (G.2.1 + 9), .ref (G.2.1 + 10), .ref (G.2.1 + 11)], ai G 500 (fun _ => 0), ai G 500 (fun _ => 0), ai G 500 (fun _ => 0), ai G 500 (fun _ => 0), ai G 500 (fun _ => 0), ob 8 [.int 0, .int 0, .int 0, .int 0, .int 0, .int 0, .ref (G.2.1 + 13)], ai G 300 (fun _ => 0), ob 4 [.int 0, .ref (G.2.1 + 15), .ref (G.2.1 + 16)], ai G 1295 (fun _ => 0), ai G 1295 (fun _ => 0), ob 5 [.int 1, .int 0, .int 0, .int 0, .ref (G.2.1 + 18), .ref (G.2.1 + 19)], ai G 200 (upd (upd (upd (upd (upd (fun _ => 0) (0 : Int32).toNatClampNeg 12) (1 : Int32).toNatClampNeg x2) (2 : Int32).toNatClampNeg x3) (3 : Int32).toNatClampNeg x4) (4 : Int32).toNatClampNeg x5), ai G 8 (fun _ => (-1)), ai G 24 (fun _ => (-1)), ai G 32 (fun _ => (-1)), ai G 14 (fun _ => 0), ob 7 [.ref (G.2.1 + 1), .ref (G.2.1 + 2), .ref (G.2.1 + 6), .ref (G.2.1 + 22), .ref (G.2.1 + 24), .int 0, .ref (G.2.1 + 25), .ref (G.2.1 + 26), .int 0], ai G 500 (fun _ => 0), ai G 500 (fun _ => 0), ai G 500 (fun _ => 0), ob 0 [.ref (G.2.1 + 1), .ref (G.2.1 + 2), .ref (G.2.1 + 23), .int 0], ob 1 [.ref (G.2.1 + 29), .int 0, .int 0, .ref (G.2.1 + 30), .ref (G.2.1 + 31)], ai G 0 (fun _ => 0), ai G 500 (fun _ => 0), ai G 501 (fun _ => 0), ob 10 [.ref (G.2.1 + 33), .ref (G.2.1 + 34), .ref (G.2.1 + 35), .int 0, .int 0, .int 0, .int 0, .int 0, .ref (G.2.1 + 36), .ref (G.2.1 + 37), .ref (G.2.1 + 38), .ref (G.2.1 + 39), .int 0, .ref (G.2.1 + 40), .int 0, .ref (G.2.1 + 41)], ai G 26100 (sx 256), ai G 26100 (fun _ => 0), ai G 26100 (fun _ => 0), ai G 14 (fun _ => 0), ai G 500 (fun _ => 0), ai G 500 (fun _ => 0), az G 500 (fun _ => 0), ai G 501 (fun _ => 0), ai G 500 (fun _ => 0)])) := by
  refine Ct.of (by decide) (Nat.le_of_ble_eq_true rfl) ⟨Nat.le_refl _, Nat.le_refl _⟩ ?_
  show Go l G mX9_act _ 0 [(0, .ref (G.2.1 + 0)), (1, .int 12), (2, .int x2), (3, .int x3), (4, .int x4), (5, .int x5)] [] 42 90324 (wl G.2.1 (LF G))
  refine go_iload_n (pc := 0) dX9_act_0 rfl rfl ?_
  refine go_if_lt_f (pc := 1) (tgt := 10) dX9_act_1 (by decide) (by decide) ?_
  refine go_iload_n (pc := 4) dX9_act_4 rfl rfl ?_
  refine go_bipush (pc := 5) (v := 12) dX9_act_5 (by decide) ?_
  refine go_icmp_le_t (pc := 7) (tgt := 13) dX9_act_7 (by decide) (by decide) ?_
  refine go_gets (pc := 13) (i := 5) (by decide) rfl tX9_280 dX9_act_13 ?_
  refine go_iload_n (pc := 16) dX9_act_16 rfl rfl ?_
  refine go_tald (pc := 17) (i := 5) (by decide) (gv_in (by decide)) dX9_act_17 ?_
  refine go_top (y := 4) (by decide) ?_
  refine go_iload_n (pc := 18) dX9_act_18 rfl rfl ?_
  refine go_callS_i (pc := 19) sX9_283 rfl (cX9_isNoName_8 x2) rfl rfl (Nat.le_of_ble_eq_true rfl) ⟨Nat.le_of_ble_eq_true rfl, Nat.le_of_ble_eq_true rfl, (Nat.le_add_right _ _), (Nat.le_add_right _ _)⟩ dX9_act_19 ?_
  refine go_if_ne_f (pc := 22) (tgt := 50) dX9_act_22 (by decide) c0 ?_
  refine go_gets (pc := 25) (i := 6) (by decide) rfl tX9_286 dX9_act_25 ?_
  refine go_iload_n (pc := 28) dX9_act_28 rfl rfl ?_
  refine go_tald (pc := 29) (i := 6) (by decide) (gv_in (by decide)) dX9_act_29 ?_
  refine go_top (y := 0) (by decide) ?_
  refine go_iload_n (pc := 30) dX9_act_30 rfl rfl ?_
  refine go_callS_i (pc := 31) sX9_283 rfl (cX9_isNoName_2 x3) rfl rfl (Nat.le_of_ble_eq_true rfl) ⟨Nat.le_of_ble_eq_true rfl, Nat.le_of_ble_eq_true rfl, (Nat.le_add_right _ _), (Nat.le_add_right _ _)⟩ dX9_act_31 ?_
  refine go_if_ne_f (pc := 34) (tgt := 50) dX9_act_34 (by decide) (by decide) ?_
  refine go_gets (pc := 37) (i := 7) (by decide) rfl tX9_289 dX9_act_37 ?_
  refine go_iload_n (pc := 40) dX9_act_40 rfl rfl ?_
  refine go_tald (pc := 41) (i := 7) (by decide) (gv_in (by decide)) dX9_act_41 ?_
  refine go_top (y := 8) (by decide) ?_
  refine go_iload (pc := 42) dX9_act_42 rfl ?_
  refine go_callS_i (pc := 44) sX9_283 rfl (cX9_isNoName_4 x4) rfl rfl (Nat.le_of_ble_eq_true rfl) ⟨Nat.le_of_ble_eq_true rfl, Nat.le_of_ble_eq_true rfl, (Nat.le_add_right _ _), (Nat.le_add_right _ _)⟩ dX9_act_44 ?_
  refine go_if_eq_t (pc := 47) (tgt := 53) dX9_act_47 (by decide) c1 ?_
  refine go_iload_n (pc := 53) dX9_act_53 rfl rfl ?_
  refine go_if_ne_t (pc := 54) (tgt := 66) dX9_act_54 (by decide) (by decide) ?_
  refine go_iload_n (pc := 66) dX9_act_66 rfl rfl ?_
  refine go_bipush (pc := 67) (v := 9) dX9_act_67 (by decide) ?_
  refine go_icmp_ne_t (pc := 69) (tgt := 86) dX9_act_69 (by decide) (by decide) ?_
  refine go_aload_n (pc := 86) dX9_act_86 rfl rfl ?_
  refine go_get (pc := 87) fX9_12 rfl (gz_b (by decide)) (wl_at (i := 0) rfl) rfl dX9_act_87 ?_
  refine go_get (pc := 90) fX9_236 rfl (gz_b (by decide)) (wl_at (i := 1) rfl) rfl dX9_act_90 ?_
  refine go_get (pc := 93) fX9_240 rfl (gz_b (by decide)) (wl_at (i := 17) rfl) rfl dX9_act_93 ?_
  refine go_bipush (pc := 96) (v := 40) dX9_act_96 (by decide) ?_
  refine go_icmp_lt_t (pc := 98) (tgt := 104) dX9_act_98 (by decide) (by decide) ?_
  refine go_aload_n (pc := 104) dX9_act_104 rfl rfl ?_
  refine go_get (pc := 105) fX9_12 rfl (gz_b (by decide)) (wl_at (i := 0) rfl) rfl dX9_act_105 ?_
  refine go_get (pc := 108) fX9_236 rfl (gz_b (by decide)) (wl_at (i := 1) rfl) rfl dX9_act_108 ?_
  refine go_iload_n (pc := 111) dX9_act_111 rfl rfl ?_
  refine go_iload_n (pc := 112) dX9_act_112 rfl rfl ?_
  refine go_iload_n (pc := 113) dX9_act_113 rfl rfl ?_
  refine go_iload (pc := 114) dX9_act_114 rfl ?_
  refine go_iload (pc := 116) dX9_act_116 rfl ?_
  refine go_callV_v (pc := 118) vX9_292 rfl (cX5_add_13 x2 x3 x4 x5) rfl rfl (gz_b (by decide)) (wl_at (i := 17) rfl) rfl (Nat.le_of_ble_eq_true rfl) ⟨Nat.le_of_ble_eq_true rfl, Nat.le_of_ble_eq_true rfl, (Nat.le_add_right _ _), (Nat.le_add_right _ _)⟩ dX9_act_118 ?_
  refine go_aload_n (pc := 121) dX9_act_121 rfl rfl ?_
  refine go_get (pc := 122) fX9_12 rfl (gz_b (by decide)) (wl_at (i := 0) rfl) rfl dX9_act_122 ?_
  refine go_get (pc := 125) fX9_236 rfl (gz_b (by decide)) (wl_at (i := 1) rfl) rfl dX9_act_125 ?_
  refine go_get (pc := 128) fX9_240 rfl (gz_b (by decide)) (wl_at (i := 17) rfl) rfl dX9_act_128 ?_
  exact go_iret (pc := 131) rfl dX9_act_131
set_option maxRecDepth 100000 in
set_option maxHeartbeats 4000000 in
theorem cx_act_12_tf {l : Launch} {G : gG} (x2 : Int32) (x3 : Int32) (x4 : Int32) (x5 : Int32) (c0 : (if x2 < 0 then (1 : Int32) else (if x2 < 4 then (0 : Int32) else 1)) = 0) (c1 : ¬ (if x4 < 0 then (1 : Int32) else (if x4 < 8 then (0 : Int32) else 1)) = 0) : Ct l G mX9_act 1 21 [.ref (G.2.1 + 0), .int 12, .int x2, .int x3, .int x4, .int x5] 42 90324 (wl G.2.1 (LF G)) (some (.int ((-101))), 42, 90324, (wl G.2.1 (LF G))) := by
  refine Ct.of (by decide) (Nat.le_of_ble_eq_true rfl) ⟨Nat.le_refl _, Nat.le_refl _⟩ ?_
  show Go l G mX9_act _ 0 [(0, .ref (G.2.1 + 0)), (1, .int 12), (2, .int x2), (3, .int x3), (4, .int x4), (5, .int x5)] [] 42 90324 (wl G.2.1 (LF G))
  refine go_iload_n (pc := 0) dX9_act_0 rfl rfl ?_
  refine go_if_lt_f (pc := 1) (tgt := 10) dX9_act_1 (by decide) (by decide) ?_
  refine go_iload_n (pc := 4) dX9_act_4 rfl rfl ?_
  refine go_bipush (pc := 5) (v := 12) dX9_act_5 (by decide) ?_
  refine go_icmp_le_t (pc := 7) (tgt := 13) dX9_act_7 (by decide) (by decide) ?_
  refine go_gets (pc := 13) (i := 5) (by decide) rfl tX9_280 dX9_act_13 ?_
  refine go_iload_n (pc := 16) dX9_act_16 rfl rfl ?_
  refine go_tald (pc := 17) (i := 5) (by decide) (gv_in (by decide)) dX9_act_17 ?_
  refine go_top (y := 4) (by decide) ?_
  refine go_iload_n (pc := 18) dX9_act_18 rfl rfl ?_
  refine go_callS_i (pc := 19) sX9_283 rfl (cX9_isNoName_8 x2) rfl rfl (Nat.le_of_ble_eq_true rfl) ⟨Nat.le_of_ble_eq_true rfl, Nat.le_of_ble_eq_true rfl, (Nat.le_add_right _ _), (Nat.le_add_right _ _)⟩ dX9_act_19 ?_
  refine go_if_ne_f (pc := 22) (tgt := 50) dX9_act_22 (by decide) c0 ?_
  refine go_gets (pc := 25) (i := 6) (by decide) rfl tX9_286 dX9_act_25 ?_
  refine go_iload_n (pc := 28) dX9_act_28 rfl rfl ?_
  refine go_tald (pc := 29) (i := 6) (by decide) (gv_in (by decide)) dX9_act_29 ?_
  refine go_top (y := 0) (by decide) ?_
  refine go_iload_n (pc := 30) dX9_act_30 rfl rfl ?_
  refine go_callS_i (pc := 31) sX9_283 rfl (cX9_isNoName_2 x3) rfl rfl (Nat.le_of_ble_eq_true rfl) ⟨Nat.le_of_ble_eq_true rfl, Nat.le_of_ble_eq_true rfl, (Nat.le_add_right _ _), (Nat.le_add_right _ _)⟩ dX9_act_31 ?_
  refine go_if_ne_f (pc := 34) (tgt := 50) dX9_act_34 (by decide) (by decide) ?_
  refine go_gets (pc := 37) (i := 7) (by decide) rfl tX9_289 dX9_act_37 ?_
  refine go_iload_n (pc := 40) dX9_act_40 rfl rfl ?_
  refine go_tald (pc := 41) (i := 7) (by decide) (gv_in (by decide)) dX9_act_41 ?_
  refine go_top (y := 8) (by decide) ?_
  refine go_iload (pc := 42) dX9_act_42 rfl ?_
  refine go_callS_i (pc := 44) sX9_283 rfl (cX9_isNoName_4 x4) rfl rfl (Nat.le_of_ble_eq_true rfl) ⟨Nat.le_of_ble_eq_true rfl, Nat.le_of_ble_eq_true rfl, (Nat.le_add_right _ _), (Nat.le_add_right _ _)⟩ dX9_act_44 ?_
  refine go_if_eq_f (pc := 47) (tgt := 53) dX9_act_47 (by decide) c1 ?_
  refine go_bipush (pc := 50) (v := (-101)) dX9_act_50 (by decide) ?_
  exact go_iret (pc := 52) rfl dX9_act_52
set_option maxRecDepth 100000 in
set_option maxHeartbeats 4000000 in
theorem cx_act_12_f {l : Launch} {G : gG} (x2 : Int32) (x3 : Int32) (x4 : Int32) (x5 : Int32) (c0 : ¬ (if x2 < 0 then (1 : Int32) else (if x2 < 4 then (0 : Int32) else 1)) = 0) : Ct l G mX9_act 1 21 [.ref (G.2.1 + 0), .int 12, .int x2, .int x3, .int x4, .int x5] 42 90324 (wl G.2.1 (LF G)) (some (.int ((-101))), 42, 90324, (wl G.2.1 (LF G))) := by
  refine Ct.of (by decide) (Nat.le_of_ble_eq_true rfl) ⟨Nat.le_refl _, Nat.le_refl _⟩ ?_
  show Go l G mX9_act _ 0 [(0, .ref (G.2.1 + 0)), (1, .int 12), (2, .int x2), (3, .int x3), (4, .int x4), (5, .int x5)] [] 42 90324 (wl G.2.1 (LF G))
  refine go_iload_n (pc := 0) dX9_act_0 rfl rfl ?_
  refine go_if_lt_f (pc := 1) (tgt := 10) dX9_act_1 (by decide) (by decide) ?_
  refine go_iload_n (pc := 4) dX9_act_4 rfl rfl ?_
  refine go_bipush (pc := 5) (v := 12) dX9_act_5 (by decide) ?_
  refine go_icmp_le_t (pc := 7) (tgt := 13) dX9_act_7 (by decide) (by decide) ?_
  refine go_gets (pc := 13) (i := 5) (by decide) rfl tX9_280 dX9_act_13 ?_
  refine go_iload_n (pc := 16) dX9_act_16 rfl rfl ?_
  refine go_tald (pc := 17) (i := 5) (by decide) (gv_in (by decide)) dX9_act_17 ?_
  refine go_top (y := 4) (by decide) ?_
  refine go_iload_n (pc := 18) dX9_act_18 rfl rfl ?_
  refine go_callS_i (pc := 19) sX9_283 rfl (cX9_isNoName_8 x2) rfl rfl (Nat.le_of_ble_eq_true rfl) ⟨Nat.le_of_ble_eq_true rfl, Nat.le_of_ble_eq_true rfl, (Nat.le_add_right _ _), (Nat.le_add_right _ _)⟩ dX9_act_19 ?_
  refine go_if_ne_t (pc := 22) (tgt := 50) dX9_act_22 (by decide) c0 ?_
  refine go_bipush (pc := 50) (v := (-101)) dX9_act_50 (by decide) ?_
  exact go_iret (pc := 52) rfl dX9_act_52
theorem cx_act_12 {l : Launch} {G : gG} (x2 : Int32) (x3 : Int32) (x4 : Int32) (x5 : Int32) : CX l G mX9_act [.ref (G.2.1 + 0), .int 12, .int x2, .int x3, .int x4, .int x5] ((if (if x2 < 0 then (1 : Int32) else (if x2 < 4 then (0 : Int32) else 1)) = 0 then (if (if x4 < 0 then (1 : Int32) else (if x4 < 8 then (0 : Int32) else 1)) = 0 then 1 else (-101)) else (-101))) := by
  by_cases c0 : (if x2 < 0 then (1 : Int32) else (if x2 < 4 then (0 : Int32) else 1)) = 0
  · rw [if_pos c0]
    by_cases c1 : (if x4 < 0 then (1 : Int32) else (if x4 < 8 then (0 : Int32) else 1)) = 0
    · rw [if_pos c1]
      exact ⟨1, 26, 42, 90324, _, by decide, by decide, by decide, by decide, by decide, (by exact wl_frame rfl), cx_act_12_tt x2 x3 x4 x5 c0 c1⟩
    · rw [if_neg c1]
      exact ⟨1, 21, 42, 90324, _, by decide, by decide, by decide, by decide, by decide, (by exact wl_frame rfl), cx_act_12_tf x2 x3 x4 x5 c0 c1⟩
  · rw [if_neg c0]
    exact ⟨1, 21, 42, 90324, _, by decide, by decide, by decide, by decide, by decide, (by exact wl_frame rfl), cx_act_12_f x2 x3 x4 x5 c0⟩
set_option maxRecDepth 100000 in
set_option maxHeartbeats 4000000 in
theorem cx_act_lo_o {l : Launch} {G : gG} (x1 : Int32) (x2 : Int32) (x3 : Int32) (x4 : Int32) (x5 : Int32) (k0 : x1 < 0) (k2 : (if 0 ≤ x1 ∧ x1 ≤ 12 then (1 : Int32) else 0) = 0) : Ct l G mX9_act 0 0 [.ref (G.2.1 + 0), .int x1, .int x2, .int x3, .int x4, .int x5] 42 90324 (wl G.2.1 (LF G)) (some (.int ((-102))), 42, 90324, (wl G.2.1 (LF G))) := by
  refine Ct.of (by decide) (Nat.le_of_ble_eq_true rfl) ⟨Nat.le_refl _, Nat.le_refl _⟩ ?_
  show Go l G mX9_act _ 0 [(0, .ref (G.2.1 + 0)), (1, .int x1), (2, .int x2), (3, .int x3), (4, .int x4), (5, .int x5)] [] 42 90324 (wl G.2.1 (LF G))
  refine go_iload_n (pc := 0) dX9_act_0 rfl rfl ?_
  refine go_if_lt_t (pc := 1) (tgt := 10) dX9_act_1 (by decide) k0 ?_
  refine go_bipush (pc := 10) (v := (-102)) dX9_act_10 (by decide) ?_
  exact go_iret (pc := 12) rfl dX9_act_12
theorem cx_act_lo {l : Launch} {G : gG} (x1 : Int32) (x2 : Int32) (x3 : Int32) (x4 : Int32) (x5 : Int32) (k0 : x1 < 0) (k2 : (if 0 ≤ x1 ∧ x1 ≤ 12 then (1 : Int32) else 0) = 0) : CX l G mX9_act [.ref (G.2.1 + 0), .int x1, .int x2, .int x3, .int x4, .int x5] ((-102)) := by
  exact ⟨0, 0, 42, 90324, _, by decide, by decide, by decide, by decide, by decide, (by exact wl_frame rfl), cx_act_lo_o x1 x2 x3 x4 x5 k0 k2⟩
set_option maxRecDepth 100000 in
set_option maxHeartbeats 4000000 in
theorem cx_act_hi_o {l : Launch} {G : gG} (x1 : Int32) (x2 : Int32) (x3 : Int32) (x4 : Int32) (x5 : Int32) (k0 : ¬ x1 < 0) (k1 : ¬ x1 ≤ 12) (k2 : (if 0 ≤ x1 ∧ x1 ≤ 12 then (1 : Int32) else 0) = 0) : Ct l G mX9_act 0 0 [.ref (G.2.1 + 0), .int x1, .int x2, .int x3, .int x4, .int x5] 42 90324 (wl G.2.1 (LF G)) (some (.int ((-102))), 42, 90324, (wl G.2.1 (LF G))) := by
  refine Ct.of (by decide) (Nat.le_of_ble_eq_true rfl) ⟨Nat.le_refl _, Nat.le_refl _⟩ ?_
  show Go l G mX9_act _ 0 [(0, .ref (G.2.1 + 0)), (1, .int x1), (2, .int x2), (3, .int x3), (4, .int x4), (5, .int x5)] [] 42 90324 (wl G.2.1 (LF G))
  refine go_iload_n (pc := 0) dX9_act_0 rfl rfl ?_
  refine go_if_lt_f (pc := 1) (tgt := 10) dX9_act_1 (by decide) k0 ?_
  refine go_iload_n (pc := 4) dX9_act_4 rfl rfl ?_
  refine go_bipush (pc := 5) (v := 12) dX9_act_5 (by decide) ?_
  refine go_icmp_le_f (pc := 7) (tgt := 13) dX9_act_7 (by decide) k1 ?_
  refine go_bipush (pc := 10) (v := (-102)) dX9_act_10 (by decide) ?_
  exact go_iret (pc := 12) rfl dX9_act_12
theorem cx_act_hi {l : Launch} {G : gG} (x1 : Int32) (x2 : Int32) (x3 : Int32) (x4 : Int32) (x5 : Int32) (k0 : ¬ x1 < 0) (k1 : ¬ x1 ≤ 12) (k2 : (if 0 ≤ x1 ∧ x1 ≤ 12 then (1 : Int32) else 0) = 0) : CX l G mX9_act [.ref (G.2.1 + 0), .int x1, .int x2, .int x3, .int x4, .int x5] ((-102)) := by
  exact ⟨0, 0, 42, 90324, _, by decide, by decide, by decide, by decide, by decide, (by exact wl_frame rfl), cx_act_hi_o x1 x2 x3 x4 x5 k0 k1 k2⟩

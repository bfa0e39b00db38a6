/-! public methods on the fresh world, laid by wip/tools/p1gen.py -/
set_option maxRecDepth 100000 in
set_option maxHeartbeats 4000000 in
theorem cX2_wasMade_1 {l : Launch} {G : gG} (x1 : Int32) : Ct l G mX2_wasMade 0 0 [.ref (G.2.1 + 2), .int x1] 42 90324 (wl G.2.1 (LF G)) (some (.int 0), 42, 90324, (wl G.2.1 (LF G))) := by
  refine Ct.of (by decide) (Nat.le_of_ble_eq_true rfl) ⟨Nat.le_refl _, Nat.le_refl _⟩ ?_
  show Go l G mX2_wasMade _ 0 [(0, .ref (G.2.1 + 2)), (1, .int x1)] [] 42 90324 (wl G.2.1 (LF G))
  refine go_iload_n (pc := 0) dX2_wasMade_0 rfl rfl ?_
  refine go_if_lt (pc := 1) (tgt := 16) dX2_wasMade_1 (by decide) (fun c0 => ?_) (fun c0 => ?_)
  · refine go_iconst (pc := 16) (v := 0) dX2_wasMade_16 (by decide) ?_
    exact go_zret (pc := 17) rfl rfl dX2_wasMade_17
  · refine go_iload_n (pc := 4) dX2_wasMade_4 rfl rfl ?_
    refine go_aload_n (pc := 5) dX2_wasMade_5 rfl rfl ?_
    refine go_get (pc := 6) fX2_32 rfl (gz_b (by decide)) (wl_at (i := 2) rfl) rfl dX2_wasMade_6 ?_
    refine go_icmp_ge_t (pc := 9) (tgt := 16) dX2_wasMade_9 (by decide) (Int32.not_lt.mp c0) ?_
    refine go_iconst (pc := 16) (v := 0) dX2_wasMade_16 (by decide) ?_
    exact go_zret (pc := 17) rfl rfl dX2_wasMade_17
set_option maxRecDepth 100000 in
set_option maxHeartbeats 4000000 in
theorem cx_kind_o {l : Launch} {G : gG} (x1 : Int32) : Ct l G mX9_kind 1 21 [.ref (G.2.1 + 0), .int x1] 42 90324 (wl G.2.1 (LF G)) (some (.int ((-101))), 42, 90324, (wl G.2.1 (LF G))) := by
  refine Ct.of (by decide) (Nat.le_of_ble_eq_true rfl) ⟨Nat.le_refl _, Nat.le_refl _⟩ ?_
  show Go l G mX9_kind _ 0 [(0, .ref (G.2.1 + 0)), (1, .int x1)] [] 42 90324 (wl G.2.1 (LF G))
  refine go_aload_n (pc := 0) dX9_kind_0 rfl rfl ?_
  refine go_get (pc := 1) fX9_12 rfl (gz_b (by decide)) (wl_at (i := 0) rfl) rfl dX9_kind_1 ?_
  refine go_get (pc := 4) fX9_78 rfl (gz_b (by decide)) (wl_at (i := 1) rfl) rfl dX9_kind_4 ?_
  refine go_iload_n (pc := 7) dX9_kind_7 rfl rfl ?_
  refine go_callV_i (pc := 8) vX9_82 rfl (cX2_wasMade_1 x1) rfl rfl (gz_b (by decide)) (wl_at (i := 2) rfl) rfl (Nat.le_of_ble_eq_true rfl) ⟨Nat.le_of_ble_eq_true rfl, Nat.le_of_ble_eq_true rfl, (Nat.le_add_right _ _), (Nat.le_add_right _ _)⟩ dX9_kind_8 ?_
  refine go_if_ne_f (pc := 11) (tgt := 17) dX9_kind_11 (by decide) (by decide) ?_
  refine go_bipush (pc := 14) (v := (-101)) dX9_kind_14 (by decide) ?_
  exact go_iret (pc := 16) rfl dX9_kind_16
theorem cx_kind {l : Launch} {G : gG} (x1 : Int32) : CX l G mX9_kind [.ref (G.2.1 + 0), .int x1] ((-101)) := by
  exact ⟨1, 21, 42, 90324, _, by decide, by decide, by decide, by decide, by decide, (by exact wl_frame rfl), cx_kind_o x1⟩
set_option maxRecDepth 100000 in
set_option maxHeartbeats 4000000 in
theorem cx_place_o {l : Launch} {G : gG} (x1 : Int32) : Ct l G mX9_place 1 21 [.ref (G.2.1 + 0), .int x1] 42 90324 (wl G.2.1 (LF G)) (some (.int ((-101))), 42, 90324, (wl G.2.1 (LF G))) := by
  refine Ct.of (by decide) (Nat.le_of_ble_eq_true rfl) ⟨Nat.le_refl _, Nat.le_refl _⟩ ?_
  show Go l G mX9_place _ 0 [(0, .ref (G.2.1 + 0)), (1, .int x1)] [] 42 90324 (wl G.2.1 (LF G))
  refine go_aload_n (pc := 0) dX9_place_0 rfl rfl ?_
  refine go_get (pc := 1) fX9_12 rfl (gz_b (by decide)) (wl_at (i := 0) rfl) rfl dX9_place_1 ?_
  refine go_get (pc := 4) fX9_78 rfl (gz_b (by decide)) (wl_at (i := 1) rfl) rfl dX9_place_4 ?_
  refine go_iload_n (pc := 7) dX9_place_7 rfl rfl ?_
  refine go_callV_i (pc := 8) vX9_82 rfl (cX2_wasMade_1 x1) rfl rfl (gz_b (by decide)) (wl_at (i := 2) rfl) rfl (Nat.le_of_ble_eq_true rfl) ⟨Nat.le_of_ble_eq_true rfl, Nat.le_of_ble_eq_true rfl, (Nat.le_add_right _ _), (Nat.le_add_right _ _)⟩ dX9_place_8 ?_
  refine go_if_ne_f (pc := 11) (tgt := 17) dX9_place_11 (by decide) (by decide) ?_
  refine go_bipush (pc := 14) (v := (-101)) dX9_place_14 (by decide) ?_
  exact go_iret (pc := 16) rfl dX9_place_16
theorem cx_place {l : Launch} {G : gG} (x1 : Int32) : CX l G mX9_place [.ref (G.2.1 + 0), .int x1] ((-101)) := by
  exact ⟨1, 21, 42, 90324, _, by decide, by decide, by decide, by decide, by decide, (by exact wl_frame rfl), cx_place_o x1⟩
set_option maxRecDepth 100000 in
set_option maxHeartbeats 4000000 in
theorem cx_measure_o {l : Launch} {G : gG} (x1 : Int32) : Ct l G mX9_measure 1 21 [.ref (G.2.1 + 0), .int x1] 42 90324 (wl G.2.1 (LF G)) (some (.int ((-101))), 42, 90324, (wl G.2.1 (LF G))) := by
  refine Ct.of (by decide) (Nat.le_of_ble_eq_true rfl) ⟨Nat.le_refl _, Nat.le_refl _⟩ ?_
  show Go l G mX9_measure _ 0 [(0, .ref (G.2.1 + 0)), (1, .int x1)] [] 42 90324 (wl G.2.1 (LF G))
  refine go_aload_n (pc := 0) dX9_measure_0 rfl rfl ?_
  refine go_get (pc := 1) fX9_12 rfl (gz_b (by decide)) (wl_at (i := 0) rfl) rfl dX9_measure_1 ?_
  refine go_get (pc := 4) fX9_78 rfl (gz_b (by decide)) (wl_at (i := 1) rfl) rfl dX9_measure_4 ?_
  refine go_iload_n (pc := 7) dX9_measure_7 rfl rfl ?_
  refine go_callV_i (pc := 8) vX9_82 rfl (cX2_wasMade_1 x1) rfl rfl (gz_b (by decide)) (wl_at (i := 2) rfl) rfl (Nat.le_of_ble_eq_true rfl) ⟨Nat.le_of_ble_eq_true rfl, Nat.le_of_ble_eq_true rfl, (Nat.le_add_right _ _), (Nat.le_add_right _ _)⟩ dX9_measure_8 ?_
  refine go_if_ne_f (pc := 11) (tgt := 17) dX9_measure_11 (by decide) (by decide) ?_
  refine go_bipush (pc := 14) (v := (-101)) dX9_measure_14 (by decide) ?_
  exact go_iret (pc := 16) rfl dX9_measure_16
theorem cx_measure {l : Launch} {G : gG} (x1 : Int32) : CX l G mX9_measure [.ref (G.2.1 + 0), .int x1] ((-101)) := by
  exact ⟨1, 21, 42, 90324, _, by decide, by decide, by decide, by decide, by decide, (by exact wl_frame rfl), cx_measure_o x1⟩
set_option maxRecDepth 100000 in
set_option maxHeartbeats 4000000 in
theorem cx_links_o {l : Launch} {G : gG} (x1 : Int32) : Ct l G mX9_links 1 21 [.ref (G.2.1 + 0), .int x1] 42 90324 (wl G.2.1 (LF G)) (some (.int ((-101))), 42, 90324, (wl G.2.1 (LF G))) := by
  refine Ct.of (by decide) (Nat.le_of_ble_eq_true rfl) ⟨Nat.le_refl _, Nat.le_refl _⟩ ?_
  show Go l G mX9_links _ 0 [(0, .ref (G.2.1 + 0)), (1, .int x1)] [] 42 90324 (wl G.2.1 (LF G))
  refine go_aload_n (pc := 0) dX9_links_0 rfl rfl ?_
  refine go_get (pc := 1) fX9_12 rfl (gz_b (by decide)) (wl_at (i := 0) rfl) rfl dX9_links_1 ?_
  refine go_get (pc := 4) fX9_78 rfl (gz_b (by decide)) (wl_at (i := 1) rfl) rfl dX9_links_4 ?_
  refine go_iload_n (pc := 7) dX9_links_7 rfl rfl ?_
  refine go_callV_i (pc := 8) vX9_82 rfl (cX2_wasMade_1 x1) rfl rfl (gz_b (by decide)) (wl_at (i := 2) rfl) rfl (Nat.le_of_ble_eq_true rfl) ⟨Nat.le_of_ble_eq_true rfl, Nat.le_of_ble_eq_true rfl, (Nat.le_add_right _ _), (Nat.le_add_right _ _)⟩ dX9_links_8 ?_
  refine go_if_ne_f (pc := 11) (tgt := 17) dX9_links_11 (by decide) (by decide) ?_
  refine go_bipush (pc := 14) (v := (-101)) dX9_links_14 (by decide) ?_
  exact go_iret (pc := 16) rfl dX9_links_16
theorem cx_links {l : Launch} {G : gG} (x1 : Int32) : CX l G mX9_links [.ref (G.2.1 + 0), .int x1] ((-101)) := by
  exact ⟨1, 21, 42, 90324, _, by decide, by decide, by decide, by decide, by decide, (by exact wl_frame rfl), cx_links_o x1⟩
set_option maxRecDepth 100000 in
set_option maxHeartbeats 4000000 in
theorem cx_link_o {l : Launch} {G : gG} (x1 : Int32) (x2 : Int32) (x3 : Int32) : Ct l G mX9_link 1 21 [.ref (G.2.1 + 0), .int x1, .int x2, .int x3] 42 90324 (wl G.2.1 (LF G)) (some (.int ((-101))), 42, 90324, (wl G.2.1 (LF G))) := by
  refine Ct.of (by decide) (Nat.le_of_ble_eq_true rfl) ⟨Nat.le_refl _, Nat.le_refl _⟩ ?_
  show Go l G mX9_link _ 0 [(0, .ref (G.2.1 + 0)), (1, .int x1), (2, .int x2), (3, .int x3)] [] 42 90324 (wl G.2.1 (LF G))
  refine go_aload_n (pc := 0) dX9_link_0 rfl rfl ?_
  refine go_get (pc := 1) fX9_12 rfl (gz_b (by decide)) (wl_at (i := 0) rfl) rfl dX9_link_1 ?_
  refine go_get (pc := 4) fX9_78 rfl (gz_b (by decide)) (wl_at (i := 1) rfl) rfl dX9_link_4 ?_
  refine go_iload_n (pc := 7) dX9_link_7 rfl rfl ?_
  refine go_callV_i (pc := 8) vX9_82 rfl (cX2_wasMade_1 x1) rfl rfl (gz_b (by decide)) (wl_at (i := 2) rfl) rfl (Nat.le_of_ble_eq_true rfl) ⟨Nat.le_of_ble_eq_true rfl, Nat.le_of_ble_eq_true rfl, (Nat.le_add_right _ _), (Nat.le_add_right _ _)⟩ dX9_link_8 ?_
  refine go_if_eq_t (pc := 11) (tgt := 22) dX9_link_11 (by decide) (by decide) ?_
  refine go_bipush (pc := 22) (v := (-101)) dX9_link_22 (by decide) ?_
  exact go_iret (pc := 24) rfl dX9_link_24
theorem cx_link {l : Launch} {G : gG} (x1 : Int32) (x2 : Int32) (x3 : Int32) : CX l G mX9_link [.ref (G.2.1 + 0), .int x1, .int x2, .int x3] ((-101)) := by
  exact ⟨1, 21, 42, 90324, _, by decide, by decide, by decide, by decide, by decide, (by exact wl_frame rfl), cx_link_o x1 x2 x3⟩
set_option maxRecDepth 100000 in
set_option maxHeartbeats 4000000 in
theorem cx_get_o {l : Launch} {G : gG} (x1 : Int32) (x2 : Int32) : Ct l G mX9_get 1 21 [.ref (G.2.1 + 0), .int x1, .int x2] 42 90324 (wl G.2.1 (LF G)) (some (.int ((-101))), 42, 90324, (wl G.2.1 (LF G))) := by
  refine Ct.of (by decide) (Nat.le_of_ble_eq_true rfl) ⟨Nat.le_refl _, Nat.le_refl _⟩ ?_
  show Go l G mX9_get _ 0 [(0, .ref (G.2.1 + 0)), (1, .int x1), (2, .int x2)] [] 42 90324 (wl G.2.1 (LF G))
  refine go_aload_n (pc := 0) dX9_get_0 rfl rfl ?_
  refine go_get (pc := 1) fX9_12 rfl (gz_b (by decide)) (wl_at (i := 0) rfl) rfl dX9_get_1 ?_
  refine go_get (pc := 4) fX9_78 rfl (gz_b (by decide)) (wl_at (i := 1) rfl) rfl dX9_get_4 ?_
  refine go_iload_n (pc := 7) dX9_get_7 rfl rfl ?_
  refine go_callV_i (pc := 8) vX9_82 rfl (cX2_wasMade_1 x1) rfl rfl (gz_b (by decide)) (wl_at (i := 2) rfl) rfl (Nat.le_of_ble_eq_true rfl) ⟨Nat.le_of_ble_eq_true rfl, Nat.le_of_ble_eq_true rfl, (Nat.le_add_right _ _), (Nat.le_add_right _ _)⟩ dX9_get_8 ?_
  refine go_if_ne_f (pc := 11) (tgt := 17) dX9_get_11 (by decide) (by decide) ?_
  refine go_bipush (pc := 14) (v := (-101)) dX9_get_14 (by decide) ?_
  exact go_iret (pc := 16) rfl dX9_get_16
theorem cx_get {l : Launch} {G : gG} (x1 : Int32) (x2 : Int32) : CX l G mX9_get [.ref (G.2.1 + 0), .int x1, .int x2] ((-101)) := by
  exact ⟨1, 21, 42, 90324, _, by decide, by decide, by decide, by decide, by decide, (by exact wl_frame rfl), cx_get_o x1 x2⟩
set_option maxRecDepth 100000 in
set_option maxHeartbeats 4000000 in
theorem cx_weaken_o {l : Launch} {G : gG} (x1 : Int32) (x2 : Int32) : Ct l G mX9_weaken 1 21 [.ref (G.2.1 + 0), .int x1, .int x2] 42 90324 (wl G.2.1 (LF G)) (some (.int ((-101))), 42, 90324, (wl G.2.1 (LF G))) := by
  refine Ct.of (by decide) (Nat.le_of_ble_eq_true rfl) ⟨Nat.le_refl _, Nat.le_refl _⟩ ?_
  show Go l G mX9_weaken _ 0 [(0, .ref (G.2.1 + 0)), (1, .int x1), (2, .int x2)] [] 42 90324 (wl G.2.1 (LF G))
  refine go_aload_n (pc := 0) dX9_weaken_0 rfl rfl ?_
  refine go_get (pc := 1) fX9_12 rfl (gz_b (by decide)) (wl_at (i := 0) rfl) rfl dX9_weaken_1 ?_
  refine go_get (pc := 4) fX9_78 rfl (gz_b (by decide)) (wl_at (i := 1) rfl) rfl dX9_weaken_4 ?_
  refine go_iload_n (pc := 7) dX9_weaken_7 rfl rfl ?_
  refine go_callV_i (pc := 8) vX9_82 rfl (cX2_wasMade_1 x1) rfl rfl (gz_b (by decide)) (wl_at (i := 2) rfl) rfl (Nat.le_of_ble_eq_true rfl) ⟨Nat.le_of_ble_eq_true rfl, Nat.le_of_ble_eq_true rfl, (Nat.le_add_right _ _), (Nat.le_add_right _ _)⟩ dX9_weaken_8 ?_
  refine go_if_eq_t (pc := 11) (tgt := 22) dX9_weaken_11 (by decide) (by decide) ?_
  refine go_bipush (pc := 22) (v := (-101)) dX9_weaken_22 (by decide) ?_
  exact go_iret (pc := 24) rfl dX9_weaken_24
theorem cx_weaken {l : Launch} {G : gG} (x1 : Int32) (x2 : Int32) : CX l G mX9_weaken [.ref (G.2.1 + 0), .int x1, .int x2] ((-101)) := by
  exact ⟨1, 21, 42, 90324, _, by decide, by decide, by decide, by decide, by decide, (by exact wl_frame rfl), cx_weaken_o x1 x2⟩
set_option maxRecDepth 100000 in
set_option maxHeartbeats 4000000 in
theorem cx_look_o {l : Launch} {G : gG} (x1 : Int32) : Ct l G mX9_look 1 21 [.ref (G.2.1 + 0), .int x1] 42 90324 (wl G.2.1 (LF G)) (some (.int ((-101))), 42, 90324, (wl G.2.1 (LF G))) := by
  refine Ct.of (by decide) (Nat.le_of_ble_eq_true rfl) ⟨Nat.le_refl _, Nat.le_refl _⟩ ?_
  show Go l G mX9_look _ 0 [(0, .ref (G.2.1 + 0)), (1, .int x1)] [] 42 90324 (wl G.2.1 (LF G))
  refine go_aload_n (pc := 0) dX9_look_0 rfl rfl ?_
  refine go_get (pc := 1) fX9_12 rfl (gz_b (by decide)) (wl_at (i := 0) rfl) rfl dX9_look_1 ?_
  refine go_get (pc := 4) fX9_78 rfl (gz_b (by decide)) (wl_at (i := 1) rfl) rfl dX9_look_4 ?_
  refine go_iload_n (pc := 7) dX9_look_7 rfl rfl ?_
  refine go_callV_i (pc := 8) vX9_82 rfl (cX2_wasMade_1 x1) rfl rfl (gz_b (by decide)) (wl_at (i := 2) rfl) rfl (Nat.le_of_ble_eq_true rfl) ⟨Nat.le_of_ble_eq_true rfl, Nat.le_of_ble_eq_true rfl, (Nat.le_add_right _ _), (Nat.le_add_right _ _)⟩ dX9_look_8 ?_
  refine go_if_ne_f (pc := 11) (tgt := 17) dX9_look_11 (by decide) (by decide) ?_
  refine go_bipush (pc := 14) (v := (-101)) dX9_look_14 (by decide) ?_
  exact go_iret (pc := 16) rfl dX9_look_16
theorem cx_look {l : Launch} {G : gG} (x1 : Int32) : CX l G mX9_look [.ref (G.2.1 + 0), .int x1] ((-101)) := by
  exact ⟨1, 21, 42, 90324, _, by decide, by decide, by decide, by decide, by decide, (by exact wl_frame rfl), cx_look_o x1⟩
set_option maxRecDepth 100000 in
set_option maxHeartbeats 4000000 in
theorem cx_number_o {l : Launch} {G : gG} (x1 : Int32) (x2 : Int32) : Ct l G mX9_number 1 21 [.ref (G.2.1 + 0), .int x1, .int x2] 42 90324 (wl G.2.1 (LF G)) (some (.int ((-101))), 42, 90324, (wl G.2.1 (LF G))) := by
  refine Ct.of (by decide) (Nat.le_of_ble_eq_true rfl) ⟨Nat.le_refl _, Nat.le_refl _⟩ ?_
  show Go l G mX9_number _ 0 [(0, .ref (G.2.1 + 0)), (1, .int x1), (2, .int x2)] [] 42 90324 (wl G.2.1 (LF G))
  refine go_aload_n (pc := 0) dX9_number_0 rfl rfl ?_
  refine go_get (pc := 1) fX9_12 rfl (gz_b (by decide)) (wl_at (i := 0) rfl) rfl dX9_number_1 ?_
  refine go_get (pc := 4) fX9_78 rfl (gz_b (by decide)) (wl_at (i := 1) rfl) rfl dX9_number_4 ?_
  refine go_iload_n (pc := 7) dX9_number_7 rfl rfl ?_
  refine go_callV_i (pc := 8) vX9_82 rfl (cX2_wasMade_1 x1) rfl rfl (gz_b (by decide)) (wl_at (i := 2) rfl) rfl (Nat.le_of_ble_eq_true rfl) ⟨Nat.le_of_ble_eq_true rfl, Nat.le_of_ble_eq_true rfl, (Nat.le_add_right _ _), (Nat.le_add_right _ _)⟩ dX9_number_8 ?_
  refine go_if_ne_f (pc := 11) (tgt := 17) dX9_number_11 (by decide) (by decide) ?_
  refine go_bipush (pc := 14) (v := (-101)) dX9_number_14 (by decide) ?_
  exact go_iret (pc := 16) rfl dX9_number_16
theorem cx_number {l : Launch} {G : gG} (x1 : Int32) (x2 : Int32) : CX l G mX9_number [.ref (G.2.1 + 0), .int x1, .int x2] ((-101)) := by
  exact ⟨1, 21, 42, 90324, _, by decide, by decide, by decide, by decide, by decide, (by exact wl_frame rfl), cx_number_o x1 x2⟩
set_option maxRecDepth 100000 in
set_option maxHeartbeats 4000000 in
theorem cx_put_o {l : Launch} {G : gG} (x1 : Int32) (x2 : Int32) (x3 : Int32) : Ct l G mX9_put 1 21 [.ref (G.2.1 + 0), .int x1, .int x2, .int x3] 42 90324 (wl G.2.1 (LF G)) (some (.int ((-101))), 42, 90324, (wl G.2.1 (LF G))) := by
  refine Ct.of (by decide) (Nat.le_of_ble_eq_true rfl) ⟨Nat.le_refl _, Nat.le_refl _⟩ ?_
  show Go l G mX9_put _ 0 [(0, .ref (G.2.1 + 0)), (1, .int x1), (2, .int x2), (3, .int x3)] [] 42 90324 (wl G.2.1 (LF G))
  refine go_aload_n (pc := 0) dX9_put_0 rfl rfl ?_
  refine go_get (pc := 1) fX9_12 rfl (gz_b (by decide)) (wl_at (i := 0) rfl) rfl dX9_put_1 ?_
  refine go_get (pc := 4) fX9_78 rfl (gz_b (by decide)) (wl_at (i := 1) rfl) rfl dX9_put_4 ?_
  refine go_iload_n (pc := 7) dX9_put_7 rfl rfl ?_
  refine go_callV_i (pc := 8) vX9_82 rfl (cX2_wasMade_1 x1) rfl rfl (gz_b (by decide)) (wl_at (i := 2) rfl) rfl (Nat.le_of_ble_eq_true rfl) ⟨Nat.le_of_ble_eq_true rfl, Nat.le_of_ble_eq_true rfl, (Nat.le_add_right _ _), (Nat.le_add_right _ _)⟩ dX9_put_8 ?_
  refine go_if_ne_f (pc := 11) (tgt := 17) dX9_put_11 (by decide) (by decide) ?_
  refine go_bipush (pc := 14) (v := (-101)) dX9_put_14 (by decide) ?_
  exact go_iret (pc := 16) rfl dX9_put_16
theorem cx_put {l : Launch} {G : gG} (x1 : Int32) (x2 : Int32) (x3 : Int32) : CX l G mX9_put [.ref (G.2.1 + 0), .int x1, .int x2, .int x3] ((-101)) := by
  exact ⟨1, 21, 42, 90324, _, by decide, by decide, by decide, by decide, by decide, (by exact wl_frame rfl), cx_put_o x1 x2 x3⟩
set_option maxRecDepth 100000 in
set_option maxHeartbeats 4000000 in
theorem cx_byteAt_o {l : Launch} {G : gG} (x1 : Int32) (x2 : Int32) : Ct l G mX9_byteAt 1 21 [.ref (G.2.1 + 0), .int x1, .int x2] 42 90324 (wl G.2.1 (LF G)) (some (.int ((-101))), 42, 90324, (wl G.2.1 (LF G))) := by
  refine Ct.of (by decide) (Nat.le_of_ble_eq_true rfl) ⟨Nat.le_refl _, Nat.le_refl _⟩ ?_
  show Go l G mX9_byteAt _ 0 [(0, .ref (G.2.1 + 0)), (1, .int x1), (2, .int x2)] [] 42 90324 (wl G.2.1 (LF G))
  refine go_aload_n (pc := 0) dX9_byteAt_0 rfl rfl ?_
  refine go_get (pc := 1) fX9_12 rfl (gz_b (by decide)) (wl_at (i := 0) rfl) rfl dX9_byteAt_1 ?_
  refine go_get (pc := 4) fX9_78 rfl (gz_b (by decide)) (wl_at (i := 1) rfl) rfl dX9_byteAt_4 ?_
  refine go_iload_n (pc := 7) dX9_byteAt_7 rfl rfl ?_
  refine go_callV_i (pc := 8) vX9_82 rfl (cX2_wasMade_1 x1) rfl rfl (gz_b (by decide)) (wl_at (i := 2) rfl) rfl (Nat.le_of_ble_eq_true rfl) ⟨Nat.le_of_ble_eq_true rfl, Nat.le_of_ble_eq_true rfl, (Nat.le_add_right _ _), (Nat.le_add_right _ _)⟩ dX9_byteAt_8 ?_
  refine go_if_ne_f (pc := 11) (tgt := 17) dX9_byteAt_11 (by decide) (by decide) ?_
  refine go_bipush (pc := 14) (v := (-101)) dX9_byteAt_14 (by decide) ?_
  exact go_iret (pc := 16) rfl dX9_byteAt_16
theorem cx_byteAt {l : Launch} {G : gG} (x1 : Int32) (x2 : Int32) : CX l G mX9_byteAt [.ref (G.2.1 + 0), .int x1, .int x2] ((-101)) := by
  exact ⟨1, 21, 42, 90324, _, by decide, by decide, by decide, by decide, by decide, (by exact wl_frame rfl), cx_byteAt_o x1 x2⟩
set_option maxRecDepth 100000 in
set_option maxHeartbeats 4000000 in
theorem cx_key_o {l : Launch} {G : gG} (x1 : Int32) (x2 : Int32) (x3 : Int32) : Ct l G mX9_key 1 21 [.ref (G.2.1 + 0), .int x1, .int x2, .int x3] 42 90324 (wl G.2.1 (LF G)) (some (.int ((-101))), 42, 90324, (wl G.2.1 (LF G))) := by
  refine Ct.of (by decide) (Nat.le_of_ble_eq_true rfl) ⟨Nat.le_refl _, Nat.le_refl _⟩ ?_
  show Go l G mX9_key _ 0 [(0, .ref (G.2.1 + 0)), (1, .int x1), (2, .int x2), (3, .int x3)] [] 42 90324 (wl G.2.1 (LF G))
  refine go_aload_n (pc := 0) dX9_key_0 rfl rfl ?_
  refine go_get (pc := 1) fX9_12 rfl (gz_b (by decide)) (wl_at (i := 0) rfl) rfl dX9_key_1 ?_
  refine go_get (pc := 4) fX9_78 rfl (gz_b (by decide)) (wl_at (i := 1) rfl) rfl dX9_key_4 ?_
  refine go_iload_n (pc := 7) dX9_key_7 rfl rfl ?_
  refine go_callV_i (pc := 8) vX9_82 rfl (cX2_wasMade_1 x1) rfl rfl (gz_b (by decide)) (wl_at (i := 2) rfl) rfl (Nat.le_of_ble_eq_true rfl) ⟨Nat.le_of_ble_eq_true rfl, Nat.le_of_ble_eq_true rfl, (Nat.le_add_right _ _), (Nat.le_add_right _ _)⟩ dX9_key_8 ?_
  refine go_if_ne_f (pc := 11) (tgt := 17) dX9_key_11 (by decide) (by decide) ?_
  refine go_bipush (pc := 14) (v := (-101)) dX9_key_14 (by decide) ?_
  exact go_iret (pc := 16) rfl dX9_key_16
theorem cx_key {l : Launch} {G : gG} (x1 : Int32) (x2 : Int32) (x3 : Int32) : CX l G mX9_key [.ref (G.2.1 + 0), .int x1, .int x2, .int x3] ((-101)) := by
  exact ⟨1, 21, 42, 90324, _, by decide, by decide, by decide, by decide, by decide, (by exact wl_frame rfl), cx_key_o x1 x2 x3⟩
set_option maxRecDepth 100000 in
set_option maxHeartbeats 4000000 in
theorem cx_find_o {l : Launch} {G : gG} (x1 : Int32) (x2 : Int32) : Ct l G mX9_find 1 21 [.ref (G.2.1 + 0), .int x1, .int x2] 42 90324 (wl G.2.1 (LF G)) (some (.int ((-101))), 42, 90324, (wl G.2.1 (LF G))) := by
  refine Ct.of (by decide) (Nat.le_of_ble_eq_true rfl) ⟨Nat.le_refl _, Nat.le_refl _⟩ ?_
  show Go l G mX9_find _ 0 [(0, .ref (G.2.1 + 0)), (1, .int x1), (2, .int x2)] [] 42 90324 (wl G.2.1 (LF G))
  refine go_aload_n (pc := 0) dX9_find_0 rfl rfl ?_
  refine go_get (pc := 1) fX9_12 rfl (gz_b (by decide)) (wl_at (i := 0) rfl) rfl dX9_find_1 ?_
  refine go_get (pc := 4) fX9_78 rfl (gz_b (by decide)) (wl_at (i := 1) rfl) rfl dX9_find_4 ?_
  refine go_iload_n (pc := 7) dX9_find_7 rfl rfl ?_
  refine go_callV_i (pc := 8) vX9_82 rfl (cX2_wasMade_1 x1) rfl rfl (gz_b (by decide)) (wl_at (i := 2) rfl) rfl (Nat.le_of_ble_eq_true rfl) ⟨Nat.le_of_ble_eq_true rfl, Nat.le_of_ble_eq_true rfl, (Nat.le_add_right _ _), (Nat.le_add_right _ _)⟩ dX9_find_8 ?_
  refine go_if_ne_f (pc := 11) (tgt := 17) dX9_find_11 (by decide) (by decide) ?_
  refine go_bipush (pc := 14) (v := (-101)) dX9_find_14 (by decide) ?_
  exact go_iret (pc := 16) rfl dX9_find_16
theorem cx_find {l : Launch} {G : gG} (x1 : Int32) (x2 : Int32) : CX l G mX9_find [.ref (G.2.1 + 0), .int x1, .int x2] ((-101)) := by
  exact ⟨1, 21, 42, 90324, _, by decide, by decide, by decide, by decide, by decide, (by exact wl_frame rfl), cx_find_o x1 x2⟩
set_option maxRecDepth 100000 in
set_option maxHeartbeats 4000000 in
theorem cx_rootOf_t {l : Launch} {G : gG} (x1 : Int32) (c0 : x1 < 0) : Ct l G mX9_rootOf 0 0 [.ref (G.2.1 + 0), .int x1] 42 90324 (wl G.2.1 (LF G)) (some (.int ((-101))), 42, 90324, (wl G.2.1 (LF G))) := by
  refine Ct.of (by decide) (Nat.le_of_ble_eq_true rfl) ⟨Nat.le_refl _, Nat.le_refl _⟩ ?_
  show Go l G mX9_rootOf _ 0 [(0, .ref (G.2.1 + 0)), (1, .int x1)] [] 42 90324 (wl G.2.1 (LF G))
  refine go_iload_n (pc := 0) dX9_rootOf_0 rfl rfl ?_
  refine go_if_lt_t (pc := 1) (tgt := 10) dX9_rootOf_1 (by decide) c0 ?_
  refine go_bipush (pc := 10) (v := (-101)) dX9_rootOf_10 (by decide) ?_
  refine go_goto (pc := 12) (tgt := 24) dX9_rootOf_12 (by decide) ?_
  exact go_iret (pc := 24) rfl dX9_rootOf_24
set_option maxRecDepth 100000 in
set_option maxHeartbeats 4000000 in
theorem cx_rootOf_ft {l : Launch} {G : gG} (x1 : Int32) (c0 : ¬ x1 < 0) (c1 : x1 < 24) : Ct l G mX9_rootOf 0 0 [.ref (G.2.1 + 0), .int x1] 42 90324 (wl G.2.1 (LF G)) (some (.int ((-1))), 42, 90324, (wl G.2.1 (LF G))) := by
  refine Ct.of (by decide) (Nat.le_of_ble_eq_true rfl) ⟨Nat.le_refl _, Nat.le_refl _⟩ ?_
  show Go l G mX9_rootOf _ 0 [(0, .ref (G.2.1 + 0)), (1, .int x1)] [] 42 90324 (wl G.2.1 (LF G))
  refine go_iload_n (pc := 0) dX9_rootOf_0 rfl rfl ?_
  refine go_if_lt_f (pc := 1) (tgt := 10) dX9_rootOf_1 (by decide) c0 ?_
  refine go_iload_n (pc := 4) dX9_rootOf_4 rfl rfl ?_
  refine go_bipush (pc := 5) (v := 24) dX9_rootOf_5 (by decide) ?_
  refine go_icmp_lt_t (pc := 7) (tgt := 15) dX9_rootOf_7 (by decide) c1 ?_
  refine go_aload_n (pc := 15) dX9_rootOf_15 rfl rfl ?_
  refine go_get (pc := 16) fX9_12 rfl (gz_b (by decide)) (wl_at (i := 0) rfl) rfl dX9_rootOf_16 ?_
  refine go_get (pc := 19) fX9_156 rfl (gz_b (by decide)) (wl_at (i := 1) rfl) rfl dX9_rootOf_19 ?_
  refine go_iload_n (pc := 22) dX9_rootOf_22 rfl rfl ?_
  refine go_iald (pc := 23) (gz_b (by decide)) (wl_at (i := 20) rfl) (gv_rng2 c0 c1 (by decide)) dX9_rootOf_23 ?_
  refine go_top (y := (-1)) rfl ?_
  exact go_iret (pc := 24) rfl dX9_rootOf_24
set_option maxRecDepth 100000 in
set_option maxHeartbeats 4000000 in
theorem cx_rootOf_ff {l : Launch} {G : gG} (x1 : Int32) (c0 : ¬ x1 < 0) (c1 : ¬ x1 < 24) : Ct l G mX9_rootOf 0 0 [.ref (G.2.1 + 0), .int x1] 42 90324 (wl G.2.1 (LF G)) (some (.int ((-101))), 42, 90324, (wl G.2.1 (LF G))) := by
  refine Ct.of (by decide) (Nat.le_of_ble_eq_true rfl) ⟨Nat.le_refl _, Nat.le_refl _⟩ ?_
  show Go l G mX9_rootOf _ 0 [(0, .ref (G.2.1 + 0)), (1, .int x1)] [] 42 90324 (wl G.2.1 (LF G))
  refine go_iload_n (pc := 0) dX9_rootOf_0 rfl rfl ?_
  refine go_if_lt_f (pc := 1) (tgt := 10) dX9_rootOf_1 (by decide) c0 ?_
  refine go_iload_n (pc := 4) dX9_rootOf_4 rfl rfl ?_
  refine go_bipush (pc := 5) (v := 24) dX9_rootOf_5 (by decide) ?_
  refine go_icmp_lt_f (pc := 7) (tgt := 15) dX9_rootOf_7 (by decide) c1 ?_
  refine go_bipush (pc := 10) (v := (-101)) dX9_rootOf_10 (by decide) ?_
  refine go_goto (pc := 12) (tgt := 24) dX9_rootOf_12 (by decide) ?_
  exact go_iret (pc := 24) rfl dX9_rootOf_24
theorem cx_rootOf {l : Launch} {G : gG} (x1 : Int32) : CX l G mX9_rootOf [.ref (G.2.1 + 0), .int x1] ((if x1 < 0 then (-101) else (if x1 < 24 then (-1) else (-101)))) := by
  by_cases c0 : x1 < 0
  · rw [if_pos c0]
    exact ⟨0, 0, 42, 90324, _, by decide, by decide, by decide, by decide, by decide, (by exact wl_frame rfl), cx_rootOf_t x1 c0⟩
  · rw [if_neg c0]
    by_cases c1 : x1 < 24
    · rw [if_pos c1]
      exact ⟨0, 0, 42, 90324, _, by decide, by decide, by decide, by decide, by decide, (by exact wl_frame rfl), cx_rootOf_ft x1 c0 c1⟩
    · rw [if_neg c1]
      exact ⟨0, 0, 42, 90324, _, by decide, by decide, by decide, by decide, by decide, (by exact wl_frame rfl), cx_rootOf_ff x1 c0 c1⟩
set_option maxRecDepth 100000 in
set_option maxHeartbeats 4000000 in
theorem cx_copy_o {l : Launch} {G : gG} (x1 : Int32) (x2 : Int32) (x3 : Int32) (x4 : Int32) (x5 : Int32) : Ct l G mX9_copy 1 21 [.ref (G.2.1 + 0), .int x1, .int x2, .int x3, .int x4, .int x5] 42 90324 (wl G.2.1 (LF G)) (some (.int ((-101))), 42, 90324, (wl G.2.1 (LF G))) := by
  refine Ct.of (by decide) (Nat.le_of_ble_eq_true rfl) ⟨Nat.le_refl _, Nat.le_refl _⟩ ?_
  show Go l G mX9_copy _ 0 [(0, .ref (G.2.1 + 0)), (1, .int x1), (2, .int x2), (3, .int x3), (4, .int x4), (5, .int x5)] [] 42 90324 (wl G.2.1 (LF G))
  refine go_aload_n (pc := 0) dX9_copy_0 rfl rfl ?_
  refine go_get (pc := 1) fX9_12 rfl (gz_b (by decide)) (wl_at (i := 0) rfl) rfl dX9_copy_1 ?_
  refine go_get (pc := 4) fX9_78 rfl (gz_b (by decide)) (wl_at (i := 1) rfl) rfl dX9_copy_4 ?_
  refine go_iload_n (pc := 7) dX9_copy_7 rfl rfl ?_
  refine go_callV_i (pc := 8) vX9_82 rfl (cX2_wasMade_1 x1) rfl rfl (gz_b (by decide)) (wl_at (i := 2) rfl) rfl (Nat.le_of_ble_eq_true rfl) ⟨Nat.le_of_ble_eq_true rfl, Nat.le_of_ble_eq_true rfl, (Nat.le_add_right _ _), (Nat.le_add_right _ _)⟩ dX9_copy_8 ?_
  refine go_if_eq_t (pc := 11) (tgt := 28) dX9_copy_11 (by decide) (by decide) ?_
  refine go_bipush (pc := 28) (v := (-101)) dX9_copy_28 (by decide) ?_
  exact go_iret (pc := 30) rfl dX9_copy_30
theorem cx_copy {l : Launch} {G : gG} (x1 : Int32) (x2 : Int32) (x3 : Int32) (x4 : Int32) (x5 : Int32) : CX l G mX9_copy [.ref (G.2.1 + 0), .int x1, .int x2, .int x3, .int x4, .int x5] ((-101)) := by
  exact ⟨1, 21, 42, 90324, _, by decide, by decide, by decide, by decide, by decide, (by exact wl_frame rfl), cx_copy_o x1 x2 x3 x4 x5⟩
set_option maxRecDepth 100000 in
set_option maxHeartbeats 4000000 in
theorem cx_copied_o {l : Launch} {G : gG} : Ct l G mX9_copied 0 0 [.ref (G.2.1 + 0)] 42 90324 (wl G.2.1 (LF G)) (some (.int 0), 42, 90324, (wl G.2.1 (LF G))) := by
  refine Ct.of (by decide) (Nat.le_of_ble_eq_true rfl) ⟨Nat.le_refl _, Nat.le_refl _⟩ ?_
  show Go l G mX9_copied _ 0 [(0, .ref (G.2.1 + 0))] [] 42 90324 (wl G.2.1 (LF G))
  refine go_aload_n (pc := 0) dX9_copied_0 rfl rfl ?_
  refine go_get (pc := 1) fX9_34 rfl (gz_b (by decide)) (wl_at (i := 0) rfl) rfl dX9_copied_1 ?_
  refine go_get (pc := 4) fX9_49 rfl (gz_b (by decide)) (wl_at (i := 27) rfl) rfl dX9_copied_4 ?_
  exact go_iret (pc := 7) rfl dX9_copied_7
theorem cx_copied {l : Launch} {G : gG} : CX l G mX9_copied [.ref (G.2.1 + 0)] 0 := by
  exact ⟨0, 0, 42, 90324, _, by decide, by decide, by decide, by decide, by decide, (by exact wl_frame rfl), cx_copied_o⟩
set_option maxRecDepth 100000 in
set_option maxHeartbeats 4000000 in
theorem cx_shelf_t {l : Launch} {G : gG} (x1 : Int32) (x2 : Int32) (c0 : x1 < 0) : Ct l G mX9_shelf 0 0 [.ref (G.2.1 + 0), .int x1, .int x2] 42 90324 (wl G.2.1 (LF G)) (some (.int ((-101))), 42, 90324, (wl G.2.1 (LF G))) := by
  refine Ct.of (by decide) (Nat.le_of_ble_eq_true rfl) ⟨Nat.le_refl _, Nat.le_refl _⟩ ?_
  show Go l G mX9_shelf _ 0 [(0, .ref (G.2.1 + 0)), (1, .int x1), (2, .int x2)] [] 42 90324 (wl G.2.1 (LF G))
  refine go_iload_n (pc := 0) dX9_shelf_0 rfl rfl ?_
  refine go_if_lt_t (pc := 1) (tgt := 9) dX9_shelf_1 (by decide) c0 ?_
  refine go_bipush (pc := 9) (v := (-101)) dX9_shelf_9 (by decide) ?_
  exact go_iret (pc := 11) rfl dX9_shelf_11
set_option maxRecDepth 100000 in
set_option maxHeartbeats 4000000 in
theorem cX9_findingIn_1 {l : Launch} {G : gG} : Ct l G mX9_findingIn 0 0 [.int ((-12))] 42 90324 (wl G.2.1 (LF G)) (some (.int 2), 42, 90324, (wl G.2.1 (LF G))) := by
  refine Ct.of (by decide) (Nat.le_of_ble_eq_true rfl) ⟨Nat.le_refl _, Nat.le_refl _⟩ ?_
  show Go l G mX9_findingIn _ 0 [(0, .int ((-12)))] [] 42 90324 (wl G.2.1 (LF G))
  refine go_iload_n (pc := 0) dX9_findingIn_0 rfl rfl ?_
  refine go_bipush (pc := 1) (v := (-11)) dX9_findingIn_1 (by decide) ?_
  refine go_icmp_gt_f (pc := 3) (tgt := 19) dX9_findingIn_3 (by decide) (by decide) ?_
  refine go_iload_n (pc := 6) dX9_findingIn_6 rfl rfl ?_
  refine go_bipush (pc := 7) (v := (-18)) dX9_findingIn_7 (by decide) ?_
  refine go_icmp_lt_f (pc := 9) (tgt := 19) dX9_findingIn_9 (by decide) (by decide) ?_
  refine go_bipush (pc := 12) (v := (-10)) dX9_findingIn_12 (by decide) ?_
  refine go_iload_n (pc := 14) dX9_findingIn_14 rfl rfl ?_
  refine go_isub (pc := 15) dX9_findingIn_15 ?_
  refine go_top (y := 2) (by decide) ?_
  refine go_goto (pc := 16) (tgt := 20) dX9_findingIn_16 (by decide) ?_
  exact go_iret (pc := 20) rfl dX9_findingIn_20
set_option maxRecDepth 100000 in
set_option maxHeartbeats 4000000 in
theorem cX9_answer_1 {l : Launch} {G : gG} : Ct l G mX9_answer 1 20 [.ref (G.2.1 + 0), .int ((-12))] 42 90324 (wl G.2.1 (LF G)) (some (.int ((-12))), 42, 90324, (wl G.2.1 [ob 9 [.ref (G.2.1 + 1), .ref (G.2.1 + 23), .ref (G.2.1 + 27), .ref (G.2.1 + 28), .ref (G.2.1 + 22), .int 2, .int 0, .null, .int 0, .null, .int 0], ob 6 [.ref (G.2.1 + 2), .ref (G.2.1 + 6), .ref (G.2.1 + 12), .ref (G.2.1 + 14), .ref (G.2.1 + 17), .ref (G.2.1 + 20), .ref (G.2.1 + 21)], ob 2 [.int 256, .int 0, .int 0, .int 0, .ref (G.2.1 + 3), .ref (G.2.1 + 4), .ref (G.2.1 + 5)], ai G 256 (fun _ => 0), ai G 500 (fun _ => (-1)), ai G 500 (fun _ => 0), ob 3 [.int 0, .int 0, .int 0, .int 0, .ref (G.2.1 + 7), .ref (G.2.1 + 8), .ref (G.2.1 + 9), .ref (G.2.1 + 10), .ref (G.2.1 + 11)], ai G 500 (fun _ => 0), ai G 500 (fun _ => 0), ai G 500 (fun _ => 0), ai G 500 (fun _ => 0), ai G 500 (fun _ => 0), ob 8 [.int 0, .int 0, .int 0, .int 0, .int 0, .int 0, .ref (G.2.1 + 13)], ai G 300 (fun _ => 0), ob 4 [.int 0, .ref (G.2.1 + 15), .ref (G.2.1 + 16)], ai G 1295 (fun _ => 0), ai G 1295 (fun _ => 0), ob 5 [.int 0, .int 0, .int 0, .int 0, .ref (G.2.1 + 18), .ref (G.2.1 + 19)], ai G 200 (fun _ => 0), ai G 8 (fun _ => (-1)), ai G 24 (fun _ => (-1)), ai G 32 (fun _ => (-1)), ai G 14 (fun _ => 0), ob 7 [.ref (G.2.1 + 1), .ref (G.2.1 + 2), .ref (G.2.1 + 6), .ref (G.2.1 + 22), .ref (G.2.1 + 24), .int 0, .ref (G.2.1 + 25), .ref (G.2.1 + 26), .int 0], ai G 500 (fun _ => 0), ai G 500 (fun _ => 0), ai G 500 (fun _ => 0), ob 0 [.ref (G.2.1 + 1), .ref (G.2.1 + 2), .ref (G.2.1 + 23), .int 0], ob 1 [.ref (G.2.1 + 29), .int 0, .int 0, .ref (G.2.1 + 30), .ref (G.2.1 + 31)], ai G 0 (fun _ => 0), ai G 500 (fun _ => 0), ai G 501 (fun _ => 0), ob 10 [.ref (G.2.1 + 33), .ref (G.2.1 + 34), .ref (G.2.1 + 35), .int 0, .int 0, .int 0, .int 0, .int 0, .ref (G.2.1 + 36), .ref (G.2.1 + 37), .ref (G.2.1 + 38), .ref (G.2.1 + 39), .int 0, .ref (G.2.1 + 40), .int 0, .ref (G.2.1 + 41)], ai G 26100 (sx 256), ai G 26100 (fun _ => 0), ai G 26100 (fun _ => 0), ai G 14 (fun _ => 0), ai G 500 (fun _ => 0), ai G 500 (fun _ => 0), az G 500 (fun _ => 0), ai G 501 (fun _ => 0), ai G 500 (fun _ => 0)])) := by
  refine Ct.of (by decide) (Nat.le_of_ble_eq_true rfl) ⟨Nat.le_refl _, Nat.le_refl _⟩ ?_
  show Go l G mX9_answer _ 0 [(0, .ref (G.2.1 + 0)), (1, .int ((-12)))] [] 42 90324 (wl G.2.1 (LF G))
  refine go_aload_n (pc := 0) dX9_answer_0 rfl rfl ?_
  refine go_iload_n (pc := 1) dX9_answer_1 rfl rfl ?_
  refine go_callS_i (pc := 2) sX9_302 rfl (cX9_findingIn_1) rfl rfl (Nat.le_of_ble_eq_true rfl) ⟨Nat.le_of_ble_eq_true rfl, Nat.le_of_ble_eq_true rfl, (Nat.le_add_right _ _), (Nat.le_add_right _ _)⟩ dX9_answer_2 ?_
  refine go_put (pc := 5) fX9_53 rfl (gz_b (by decide)) (wl_at (i := 0) rfl) (Nat.le_of_ble_eq_true rfl) rfl rfl dX9_answer_5 ?_
  refine go_ext (wl_up (i := 0) rfl rfl) ?_
  refine go_iload_n (pc := 8) dX9_answer_8 rfl rfl ?_
  refine go_w (show _ = wl G.2.1 [ob 9 [.ref (G.2.1 + 1), .ref (G.2.1 + 23), .ref (G.2.1 + 27), .ref (G.2.1 + 28), .ref (G.2.1 + 22), .int 2, .int 0, .null, .int 0, .null, .int 0], ob 6 [.ref (G.2.1 + 2), .ref (G.2.1 + 6), .ref (G.2.1 + 12), .ref (G.2.1 + 14), .ref (G.2.1 + 17), .ref (G.2.1 + 20), .ref (G.2.1 + 21)], ob 2 [.int 256, .int 0, .int 0, .int 0, .ref (G.2.1 + 3), .ref (G.2.1 + 4), .ref (G.2.1 + 5)], ai G 256 (fun _ => 0), ai G 500 (fun _ => (-1)), ai G 500 (fun _ => 0), ob 3 [.int 0, .int 0, .int 0, .int 0, .ref (G.2.1 + 7), .ref (G.2.1 + 8), .ref (G.2.1 + 9), .ref (G.2.1 + 10), .ref (G.2.1 + 11)], ai G 500 (fun _ => 0), ai G 500 (fun _ => 0), ai G 500 (fun _ => 0), ai G 500 (fun _ => 0), ai G 500 (fun _ => 0), ob 8 [.int 0, .int 0, .int 0, .int 0, .int 0, .int 0, .ref (G.2.1 + 13)], ai G 300 (fun _ => 0), ob 4 [.int 0, .ref (G.2.1 + 15), .ref (G.2.1 + 16)], ai G 1295 (fun _ => 0), ai G 1295 (fun _ => 0), ob 5 [.int 0, .int 0, .int 0, .int 0, .ref (G.2.1 + 18), .ref (G.2.1 + 19)], ai G 200 (fun _ => 0), ai G 8 (fun _ => (-1)), ai G 24 (fun _ => (-1)), ai G 32 (fun _ => (-1)), ai G 14 (fun _ => 0), ob 7 [.ref (G.2.1 + 1), .ref (G.2.1 + 2), .ref (G.2.1 + 6), .ref (G.2.1 + 22), .ref (G.2.1 + 24), .int 0, .ref (G.2.1 + 25), .ref (G.2.1 + 26), .int 0], ai G 500 (fun _ => 0), ai G 500 (fun _ => 0), ai G 500 (fun _ => 0), ob 0 [.ref (G.2.1 + 1), .ref (G.2.1 + 2), .ref (G.2.1 + 23), .int 0], ob 1 [.ref (G.2.1 + 29), .int 0, .int 0, .ref (G.2.1 + 30), .ref (G.2.1 + 31)], ai G 0 (fun _ => 0), ai G 500 (fun _ => 0), ai G 501 (fun _ => 0), ob 10 [.ref (G.2.1 + 33), .ref (G.2.1 + 34), .ref (G.2.1 + 35), .int 0, .int 0, .int 0, .int 0, .int 0, .ref (G.2.1 + 36), .ref (G.2.1 + 37), .ref (G.2.1 + 38), .ref (G.2.1 + 39), .int 0, .ref (G.2.1 + 40), .int 0, .ref (G.2.1 + 41)], ai G 26100 (sx 256), ai G 26100 (fun _ => 0), ai G 26100 (fun _ => 0), ai G 14 (fun _ => 0), ai G 500 (fun _ => 0), ai G 500 (fun _ => 0), az G 500 (fun _ => 0), ai G 501 (fun _ => 0), ai G 500 (fun _ => 0)] from rfl) ?_
  exact go_iret (pc := 9) rfl dX9_answer_9
set_option maxRecDepth 100000 in
set_option maxHeartbeats 4000000 in
theorem cx_shelf_ftt {l : Launch} {G : gG} (x1 : Int32) (x2 : Int32) (c0 : ¬ x1 < 0) (c1 : x1 < 4) (c2 : x2 < 0) : Ct l G mX9_shelf 2 41 [.ref (G.2.1 + 0), .int x1, .int x2] 42 90324 (wl G.2.1 (LF G)) (some (.int ((-12))), 42, 90324, (wl G.2.1 [ob 9 [.ref (G.2.1 + 1), .ref (G.2.1 + 23), .ref (G.2.1 + 27), .ref (G.2.1 + 28), .ref (G.2.1 + 22), .int 2, .int 0, .null, .int 0, .null, .int 0], ob 6 [.ref (G.2.1 + 2), .ref (G.2.1 + 6), .ref (G.2.1 + 12), .ref (G.2.1 + 14), .ref (G.2.1 + 17), .ref (G.2.1 + 20), .ref (G.2.1 + 21)], ob 2 [.int 256, .int 0, .int 0, .int 0, .ref (G.2.1 + 3), .ref (G.2.1 + 4), .ref (G.2.1 + 5)], ai G 256 (fun _ => 0), ai G 500 (fun _ => (-1)), ai G 500 (fun _ => 0), ob 3 [.int 0, .int 0, .int 0, .int 0, .ref (G.2.1 + 7), .ref (G.2.1 + 8), .ref (G.2.1 + 9), .ref (G.2.1 + 10), .ref (G.2.1 + 11)], ai G 500 (fun _ => 0), ai G 500 (fun _ => 0), ai G 500 (fun _ => 0), ai G 500 (fun _ => 0), ai G 500 (fun _ => 0), ob 8 [.int 0, .int 0, .int 0, .int 0, .int 0, .int 0, .ref (G.2.1 + 13)], ai G 300 (fun _ => 0), ob 4 [.int 0, .ref (G.2.1 + 15), .ref (G.2.1 + 16)], ai G 1295 (fun _ => 0), ai G 1295 (fun _ => 0), ob 5 [.int 0, .int 0, .int 0, .int 0, .ref (G.2.1 + 18), .ref (G.2.1 + 19)], ai G 200 (fun _ => 0), ai G 8 (fun _ => (-1)), ai G 24 (fun _ => (-1)), ai G 32 (fun _ => (-1)), ai G 14 (fun _ => 0), ob 7 [.ref (G.2.1 + 1), .ref (G.2.1 + 2), .ref (G.2.1 + 6), .ref (G.2.1 + 22), .ref (G.2.1 + 24), .int 0, .ref (G.2.1 + 25), .ref (G.2.1 + 26), .int 0], ai G 500 (fun _ => 0), ai G 500 (fun _ => 0), ai G 500 (fun _ => 0), ob 0 [.ref (G.2.1 + 1), .ref (G.2.1 + 2), .ref (G.2.1 + 23), .int 0], ob 1 [.ref (G.2.1 + 29), .int 0, .int 0, .ref (G.2.1 + 30), .ref (G.2.1 + 31)], ai G 0 (fun _ => 0), ai G 500 (fun _ => 0), ai G 501 (fun _ => 0), ob 10 [.ref (G.2.1 + 33), .ref (G.2.1 + 34), .ref (G.2.1 + 35), .int 0, .int 0, .int 0, .int 0, .int 0, .ref (G.2.1 + 36), .ref (G.2.1 + 37), .ref (G.2.1 + 38), .ref (G.2.1 + 39), .int 0, .ref (G.2.1 + 40), .int 0, .ref (G.2.1 + 41)], ai G 26100 (sx 256), ai G 26100 (fun _ => 0), ai G 26100 (fun _ => 0), ai G 14 (fun _ => 0), ai G 500 (fun _ => 0), ai G 500 (fun _ => 0), az G 500 (fun _ => 0), ai G 501 (fun _ => 0), ai G 500 (fun _ => 0)])) := by
  refine Ct.of (by decide) (Nat.le_of_ble_eq_true rfl) ⟨Nat.le_refl _, Nat.le_refl _⟩ ?_
  show Go l G mX9_shelf _ 0 [(0, .ref (G.2.1 + 0)), (1, .int x1), (2, .int x2)] [] 42 90324 (wl G.2.1 (LF G))
  refine go_iload_n (pc := 0) dX9_shelf_0 rfl rfl ?_
  refine go_if_lt_f (pc := 1) (tgt := 9) dX9_shelf_1 (by decide) c0 ?_
  refine go_iload_n (pc := 4) dX9_shelf_4 rfl rfl ?_
  refine go_iconst (pc := 5) (v := 4) dX9_shelf_5 (by decide) ?_
  refine go_icmp_lt_t (pc := 6) (tgt := 12) dX9_shelf_6 (by decide) c1 ?_
  refine go_aload_n (pc := 12) dX9_shelf_12 rfl rfl ?_
  refine go_iload_n (pc := 13) dX9_shelf_13 rfl rfl ?_
  refine go_if_lt_t (pc := 14) (tgt := 23) dX9_shelf_14 (by decide) c2 ?_
  refine go_bipush (pc := 23) (v := (-12)) dX9_shelf_23 (by decide) ?_
  refine go_goto (pc := 25) (tgt := 42) dX9_shelf_25 (by decide) ?_
  refine go_callV_i (pc := 42) vX9_74 rfl (cX9_answer_1) rfl rfl (gz_b (by decide)) (wl_at (i := 0) rfl) rfl (Nat.le_of_ble_eq_true rfl) ⟨Nat.le_of_ble_eq_true rfl, Nat.le_of_ble_eq_true rfl, (Nat.le_add_right _ _), (Nat.le_add_right _ _)⟩ dX9_shelf_42 ?_
  exact go_iret (pc := 45) rfl dX9_shelf_45
set_option maxRecDepth 100000 in
set_option maxHeartbeats 4000000 in
theorem cX9_findingIn_2 {l : Launch} {G : gG} : Ct l G mX9_findingIn 0 0 [.int ((-1))] 42 90324 (wl G.2.1 (LF G)) (some (.int 0), 42, 90324, (wl G.2.1 (LF G))) := by
  refine Ct.of (by decide) (Nat.le_of_ble_eq_true rfl) ⟨Nat.le_refl _, Nat.le_refl _⟩ ?_
  show Go l G mX9_findingIn _ 0 [(0, .int ((-1)))] [] 42 90324 (wl G.2.1 (LF G))
  refine go_iload_n (pc := 0) dX9_findingIn_0 rfl rfl ?_
  refine go_bipush (pc := 1) (v := (-11)) dX9_findingIn_1 (by decide) ?_
  refine go_icmp_gt_t (pc := 3) (tgt := 19) dX9_findingIn_3 (by decide) (by decide) ?_
  refine go_iconst (pc := 19) (v := 0) dX9_findingIn_19 (by decide) ?_
  exact go_iret (pc := 20) rfl dX9_findingIn_20
set_option maxRecDepth 100000 in
set_option maxHeartbeats 4000000 in
theorem cX9_answer_2 {l : Launch} {G : gG} : Ct l G mX9_answer 1 20 [.ref (G.2.1 + 0), .int ((-1))] 42 90324 (wl G.2.1 (LF G)) (some (.int ((-1))), 42, 90324, (wl G.2.1 (LF G))) := by
  refine Ct.of (by decide) (Nat.le_of_ble_eq_true rfl) ⟨Nat.le_refl _, Nat.le_refl _⟩ ?_
  show Go l G mX9_answer _ 0 [(0, .ref (G.2.1 + 0)), (1, .int ((-1)))] [] 42 90324 (wl G.2.1 (LF G))
  refine go_aload_n (pc := 0) dX9_answer_0 rfl rfl ?_
  refine go_iload_n (pc := 1) dX9_answer_1 rfl rfl ?_
  refine go_callS_i (pc := 2) sX9_302 rfl (cX9_findingIn_2) rfl rfl (Nat.le_of_ble_eq_true rfl) ⟨Nat.le_of_ble_eq_true rfl, Nat.le_of_ble_eq_true rfl, (Nat.le_add_right _ _), (Nat.le_add_right _ _)⟩ dX9_answer_2 ?_
  refine go_put (pc := 5) fX9_53 rfl (gz_b (by decide)) (wl_at (i := 0) rfl) (Nat.le_of_ble_eq_true rfl) rfl rfl dX9_answer_5 ?_
  refine go_ext (wl_up (i := 0) rfl rfl) ?_
  refine go_iload_n (pc := 8) dX9_answer_8 rfl rfl ?_
  refine go_w (show _ = wl G.2.1 [ob 9 [.ref (G.2.1 + 1), .ref (G.2.1 + 23), .ref (G.2.1 + 27), .ref (G.2.1 + 28), .ref (G.2.1 + 22), .int 0, .int 0, .null, .int 0, .null, .int 0], ob 6 [.ref (G.2.1 + 2), .ref (G.2.1 + 6), .ref (G.2.1 + 12), .ref (G.2.1 + 14), .ref (G.2.1 + 17), .ref (G.2.1 + 20), .ref (G.2.1 + 21)], ob 2 [.int 256, .int 0, .int 0, .int 0, .ref (G.2.1 + 3), .ref (G.2.1 + 4), .ref (G.2.1 + 5)], ai G 256 (fun _ => 0), ai G 500 (fun _ => (-1)), ai G 500 (fun _ => 0), ob 3 [.int 0, .int 0, .int 0, .int 0, .ref (G.2.1 + 7), .ref (G.2.1 + 8), .ref (G.2.1 + 9), .ref (G.2.1 + 10), .ref (G.2.1 + 11)], ai G 500 (fun _ => 0), ai G 500 (fun _ => 0), ai G 500 (fun _ => 0), ai G 500 (fun _ => 0), ai G 500 (fun _ => 0), ob 8 [.int 0, .int 0, .int 0, .int 0, .int 0, .int 0, .ref (G.2.1 + 13)], ai G 300 (fun _ => 0), ob 4 [.int 0, .ref (G.2.1 + 15), .ref (G.2.1 + 16)], ai G 1295 (fun _ => 0), ai G 1295 (fun _ => 0), ob 5 [.int 0, .int 0, .int 0, .int 0, .ref (G.2.1 + 18), .ref (G.2.1 + 19)], ai G 200 (fun _ => 0), ai G 8 (fun _ => (-1)), ai G 24 (fun _ => (-1)), ai G 32 (fun _ => (-1)), ai G 14 (fun _ => 0), ob 7 [.ref (G.2.1 + 1), .ref (G.2.1 + 2), .ref (G.2.1 + 6), .ref (G.2.1 + 22), .ref (G.2.1 + 24), .int 0, .ref (G.2.1 + 25), .ref (G.2.1 + 26), .int 0], ai G 500 (fun _ => 0), ai G 500 (fun _ => 0), ai G 500 (fun _ => 0), ob 0 [.ref (G.2.1 + 1), .ref (G.2.1 + 2), .ref (G.2.1 + 23), .int 0], ob 1 [.ref (G.2.1 + 29), .int 0, .int 0, .ref (G.2.1 + 30), .ref (G.2.1 + 31)], ai G 0 (fun _ => 0), ai G 500 (fun _ => 0), ai G 501 (fun _ => 0), ob 10 [.ref (G.2.1 + 33), .ref (G.2.1 + 34), .ref (G.2.1 + 35), .int 0, .int 0, .int 0, .int 0, .int 0, .ref (G.2.1 + 36), .ref (G.2.1 + 37), .ref (G.2.1 + 38), .ref (G.2.1 + 39), .int 0, .ref (G.2.1 + 40), .int 0, .ref (G.2.1 + 41)], ai G 26100 (sx 256), ai G 26100 (fun _ => 0), ai G 26100 (fun _ => 0), ai G 14 (fun _ => 0), ai G 500 (fun _ => 0), ai G 500 (fun _ => 0), az G 500 (fun _ => 0), ai G 501 (fun _ => 0), ai G 500 (fun _ => 0)] from rfl) ?_
  exact go_iret (pc := 9) rfl dX9_answer_9
set_option maxRecDepth 100000 in
set_option maxHeartbeats 4000000 in
theorem cx_shelf_ftft {l : Launch} {G : gG} (x1 : Int32) (x2 : Int32) (c0 : ¬ x1 < 0) (c1 : x1 < 4) (c2 : ¬ x2 < 0) (c3 : x2 < 8) : Ct l G mX9_shelf 2 41 [.ref (G.2.1 + 0), .int x1, .int x2] 42 90324 (wl G.2.1 (LF G)) (some (.int ((-1))), 42, 90324, (wl G.2.1 (LF G))) := by
  refine Ct.of (by decide) (Nat.le_of_ble_eq_true rfl) ⟨Nat.le_refl _, Nat.le_refl _⟩ ?_
  show Go l G mX9_shelf _ 0 [(0, .ref (G.2.1 + 0)), (1, .int x1), (2, .int x2)] [] 42 90324 (wl G.2.1 (LF G))
  refine go_iload_n (pc := 0) dX9_shelf_0 rfl rfl ?_
  refine go_if_lt_f (pc := 1) (tgt := 9) dX9_shelf_1 (by decide) c0 ?_
  refine go_iload_n (pc := 4) dX9_shelf_4 rfl rfl ?_
  refine go_iconst (pc := 5) (v := 4) dX9_shelf_5 (by decide) ?_
  refine go_icmp_lt_t (pc := 6) (tgt := 12) dX9_shelf_6 (by decide) c1 ?_
  refine go_aload_n (pc := 12) dX9_shelf_12 rfl rfl ?_
  refine go_iload_n (pc := 13) dX9_shelf_13 rfl rfl ?_
  refine go_if_lt_f (pc := 14) (tgt := 23) dX9_shelf_14 (by decide) c2 ?_
  refine go_iload_n (pc := 17) dX9_shelf_17 rfl rfl ?_
  refine go_bipush (pc := 18) (v := 8) dX9_shelf_18 (by decide) ?_
  refine go_icmp_lt_t (pc := 20) (tgt := 28) dX9_shelf_20 (by decide) c3 ?_
  refine go_aload_n (pc := 28) dX9_shelf_28 rfl rfl ?_
  refine go_get (pc := 29) fX9_12 rfl (gz_b (by decide)) (wl_at (i := 0) rfl) rfl dX9_shelf_29 ?_
  refine go_get (pc := 32) fX9_166 rfl (gz_b (by decide)) (wl_at (i := 1) rfl) rfl dX9_shelf_32 ?_
  refine go_iload_n (pc := 35) dX9_shelf_35 rfl rfl ?_
  refine go_bipush (pc := 36) (v := 8) dX9_shelf_36 (by decide) ?_
  refine go_imul (pc := 38) dX9_shelf_38 ?_
  refine go_iload_n (pc := 39) dX9_shelf_39 rfl rfl ?_
  refine go_iadd (pc := 40) dX9_shelf_40 ?_
  refine go_iald (pc := 41) (gz_b (by decide)) (wl_at (i := 21) rfl) (gv_sh_in c0 c1 c2 c3) dX9_shelf_41 ?_
  refine go_top (y := (-1)) rfl ?_
  refine go_callV_i (pc := 42) vX9_74 rfl (cX9_answer_2) rfl rfl (gz_b (by decide)) (wl_at (i := 0) rfl) rfl (Nat.le_of_ble_eq_true rfl) ⟨Nat.le_of_ble_eq_true rfl, Nat.le_of_ble_eq_true rfl, (Nat.le_add_right _ _), (Nat.le_add_right _ _)⟩ dX9_shelf_42 ?_
  exact go_iret (pc := 45) rfl dX9_shelf_45
set_option maxRecDepth 100000 in
set_option maxHeartbeats 4000000 in
theorem cx_shelf_ftff {l : Launch} {G : gG} (x1 : Int32) (x2 : Int32) (c0 : ¬ x1 < 0) (c1 : x1 < 4) (c2 : ¬ x2 < 0) (c3 : ¬ x2 < 8) : Ct l G mX9_shelf 2 41 [.ref (G.2.1 + 0), .int x1, .int x2] 42 90324 (wl G.2.1 (LF G)) (some (.int ((-12))), 42, 90324, (wl G.2.1 [ob 9 [.ref (G.2.1 + 1), .ref (G.2.1 + 23), .ref (G.2.1 + 27), .ref (G.2.1 + 28), .ref (G.2.1 + 22), .int 2, .int 0, .null, .int 0, .null, .int 0], ob 6 [.ref (G.2.1 + 2), .ref (G.2.1 + 6), .ref (G.2.1 + 12), .ref (G.2.1 + 14), .ref (G.2.1 + 17), .ref (G.2.1 + 20), .ref (G.2.1 + 21)], ob 2 [.int 256, .int 0, .int 0, .int 0, .ref (G.2.1 + 3), .ref (G.2.1 + 4), .ref (G.2.1 + 5)], ai G 256 (fun _ => 0), ai G 500 (fun _ => (-1)), ai G 500 (fun _ => 0), ob 3 [.int 0, .int 0, .int 0, .int 0, .ref (G.2.1 + 7), .ref (G.2.1 + 8), .ref (G.2.1 + 9), .ref (G.2.1 + 10), .ref (G.2.1 + 11)], ai G 500 (fun _ => 0), ai G 500 (fun _ => 0), ai G 500 (fun _ => 0), ai G 500 (fun _ => 0), ai G 500 (fun _ => 0), ob 8 [.int 0, .int 0, .int 0, .int 0, .int 0, .int 0, .ref (G.2.1 + 13)], ai G 300 (fun _ => 0), ob 4 [.int 0, .ref (G.2.1 + 15), .ref (G.2.1 + 16)], ai G 1295 (fun _ => 0), ai G 1295 (fun _ => 0), ob 5 [.int 0, .int 0, .int 0, .int 0, .ref (G.2.1 + 18), .ref (G.2.1 + 19)], ai G 200 (fun _ => 0), ai G 8 (fun _ => (-1)), ai G 24 (fun _ => (-1)), ai G 32 (fun _ => (-1)), ai G 14 (fun _ => 0), ob 7 [.ref (G.2.1 + 1), .ref (G.2.1 + 2), .ref (G.2.1 + 6), .ref (G.2.1 + 22), .ref (G.2.1 + 24), .int 0, .ref (G.2.1 + 25), .ref (G.2.1 + 26), .int 0], ai G 500 (fun _ => 0), ai G 500 (fun _ => 0), ai G 500 (fun _ => 0), ob 0 [.ref (G.2.1 + 1), .ref (G.2.1 + 2), .ref (G.2.1 + 23), .int 0], ob 1 [.ref (G.2.1 + 29), .int 0, .int 0, .ref (G.2.1 + 30), .ref (G.2.1 + 31)], ai G 0 (fun _ => 0), ai G 500 (fun _ => 0), ai G 501 (fun _ => 0), ob 10 [.ref (G.2.1 + 33), .ref (G.2.1 + 34), .ref (G.2.1 + 35), .int 0, .int 0, .int 0, .int 0, .int 0, .ref (G.2.1 + 36), .ref (G.2.1 + 37), .ref (G.2.1 + 38), .ref (G.2.1 + 39), .int 0, .ref (G.2.1 + 40), .int 0, .ref (G.2.1 + 41)], ai G 26100 (sx 256), ai G 26100 (fun _ => 0), ai G 26100 (fun _ => 0), ai G 14 (fun _ => 0), ai G 500 (fun _ => 0), ai G 500 (fun _ => 0), az G 500 (fun _ => 0), ai G 501 (fun _ => 0), ai G 500 (fun _ => 0)])) := by
  refine Ct.of (by decide) (Nat.le_of_ble_eq_true rfl) ⟨Nat.le_refl _, Nat.le_refl _⟩ ?_
  show Go l G mX9_shelf _ 0 [(0, .ref (G.2.1 + 0)), (1, .int x1), (2, .int x2)] [] 42 90324 (wl G.2.1 (LF G))
  refine go_iload_n (pc := 0) dX9_shelf_0 rfl rfl ?_
  refine go_if_lt_f (pc := 1) (tgt := 9) dX9_shelf_1 (by decide) c0 ?_
  refine go_iload_n (pc := 4) dX9_shelf_4 rfl rfl ?_
  refine go_iconst (pc := 5) (v := 4) dX9_shelf_5 (by decide) ?_
  refine go_icmp_lt_t (pc := 6) (tgt := 12) dX9_shelf_6 (by decide) c1 ?_
  refine go_aload_n (pc := 12) dX9_shelf_12 rfl rfl ?_
  refine go_iload_n (pc := 13) dX9_shelf_13 rfl rfl ?_
  refine go_if_lt_f (pc := 14) (tgt := 23) dX9_shelf_14 (by decide) c2 ?_
  refine go_iload_n (pc := 17) dX9_shelf_17 rfl rfl ?_
  refine go_bipush (pc := 18) (v := 8) dX9_shelf_18 (by decide) ?_
  refine go_icmp_lt_f (pc := 20) (tgt := 28) dX9_shelf_20 (by decide) c3 ?_
  refine go_bipush (pc := 23) (v := (-12)) dX9_shelf_23 (by decide) ?_
  refine go_goto (pc := 25) (tgt := 42) dX9_shelf_25 (by decide) ?_
  refine go_callV_i (pc := 42) vX9_74 rfl (cX9_answer_1) rfl rfl (gz_b (by decide)) (wl_at (i := 0) rfl) rfl (Nat.le_of_ble_eq_true rfl) ⟨Nat.le_of_ble_eq_true rfl, Nat.le_of_ble_eq_true rfl, (Nat.le_add_right _ _), (Nat.le_add_right _ _)⟩ dX9_shelf_42 ?_
  exact go_iret (pc := 45) rfl dX9_shelf_45
set_option maxRecDepth 100000 in
set_option maxHeartbeats 4000000 in
theorem cx_shelf_ff {l : Launch} {G : gG} (x1 : Int32) (x2 : Int32) (c0 : ¬ x1 < 0) (c1 : ¬ x1 < 4) : Ct l G mX9_shelf 0 0 [.ref (G.2.1 + 0), .int x1, .int x2] 42 90324 (wl G.2.1 (LF G)) (some (.int ((-101))), 42, 90324, (wl G.2.1 (LF G))) := by
  refine Ct.of (by decide) (Nat.le_of_ble_eq_true rfl) ⟨Nat.le_refl _, Nat.le_refl _⟩ ?_
  show Go l G mX9_shelf _ 0 [(0, .ref (G.2.1 + 0)), (1, .int x1), (2, .int x2)] [] 42 90324 (wl G.2.1 (LF G))
  refine go_iload_n (pc := 0) dX9_shelf_0 rfl rfl ?_
  refine go_if_lt_f (pc := 1) (tgt := 9) dX9_shelf_1 (by decide) c0 ?_
  refine go_iload_n (pc := 4) dX9_shelf_4 rfl rfl ?_
  refine go_iconst (pc := 5) (v := 4) dX9_shelf_5 (by decide) ?_
  refine go_icmp_lt_f (pc := 6) (tgt := 12) dX9_shelf_6 (by decide) c1 ?_
  refine go_bipush (pc := 9) (v := (-101)) dX9_shelf_9 (by decide) ?_
  exact go_iret (pc := 11) rfl dX9_shelf_11
theorem cx_shelf {l : Launch} {G : gG} (x1 : Int32) (x2 : Int32) : CX l G mX9_shelf [.ref (G.2.1 + 0), .int x1, .int x2] ((if x1 < 0 then (-101) else (if x1 < 4 then (if x2 < 0 then (-12) else (if x2 < 8 then (-1) else (-12))) else (-101)))) := by
  by_cases c0 : x1 < 0
  · rw [if_pos c0]
    exact ⟨0, 0, 42, 90324, _, by decide, by decide, by decide, by decide, by decide, (by exact wl_frame rfl), cx_shelf_t x1 x2 c0⟩
  · rw [if_neg c0]
    by_cases c1 : x1 < 4
    · rw [if_pos c1]
      by_cases c2 : x2 < 0
      · rw [if_pos c2]
        exact ⟨2, 41, 42, 90324, _, by decide, by decide, by decide, by decide, by decide, (by exact wl_frame rfl), cx_shelf_ftt x1 x2 c0 c1 c2⟩
      · rw [if_neg c2]
        by_cases c3 : x2 < 8
        · rw [if_pos c3]
          exact ⟨2, 41, 42, 90324, _, by decide, by decide, by decide, by decide, by decide, (by exact wl_frame rfl), cx_shelf_ftft x1 x2 c0 c1 c2 c3⟩
        · rw [if_neg c3]
          exact ⟨2, 41, 42, 90324, _, by decide, by decide, by decide, by decide, by decide, (by exact wl_frame rfl), cx_shelf_ftff x1 x2 c0 c1 c2 c3⟩
    · rw [if_neg c1]
      exact ⟨0, 0, 42, 90324, _, by decide, by decide, by decide, by decide, by decide, (by exact wl_frame rfl), cx_shelf_ff x1 x2 c0 c1⟩
set_option maxRecDepth 100000 in
set_option maxHeartbeats 4000000 in
theorem cx_phase_o {l : Launch} {G : gG} : Ct l G mX9_phase 0 0 [.ref (G.2.1 + 0)] 42 90324 (wl G.2.1 (LF G)) (some (.int 0), 42, 90324, (wl G.2.1 (LF G))) := by
  refine Ct.of (by decide) (Nat.le_of_ble_eq_true rfl) ⟨Nat.le_refl _, Nat.le_refl _⟩ ?_
  show Go l G mX9_phase _ 0 [(0, .ref (G.2.1 + 0))] [] 42 90324 (wl G.2.1 (LF G))
  refine go_aload_n (pc := 0) dX9_phase_0 rfl rfl ?_
  refine go_get (pc := 1) fX9_12 rfl (gz_b (by decide)) (wl_at (i := 0) rfl) rfl dX9_phase_1 ?_
  refine go_get (pc := 4) fX9_184 rfl (gz_b (by decide)) (wl_at (i := 1) rfl) rfl dX9_phase_4 ?_
  refine go_get (pc := 7) fX9_188 rfl (gz_b (by decide)) (wl_at (i := 6) rfl) rfl dX9_phase_7 ?_
  refine go_if_eq_t (pc := 10) (tgt := 17) dX9_phase_10 (by decide) (by decide) ?_
  refine go_iconst (pc := 17) (v := 0) dX9_phase_17 (by decide) ?_
  exact go_iret (pc := 18) rfl dX9_phase_18
theorem cx_phase {l : Launch} {G : gG} : CX l G mX9_phase [.ref (G.2.1 + 0)] 0 := by
  exact ⟨0, 0, 42, 90324, _, by decide, by decide, by decide, by decide, by decide, (by exact wl_frame rfl), cx_phase_o⟩
set_option maxRecDepth 100000 in
set_option maxHeartbeats 4000000 in
theorem cx_marked_o {l : Launch} {G : gG} (x1 : Int32) : Ct l G mX9_marked 1 21 [.ref (G.2.1 + 0), .int x1] 42 90324 (wl G.2.1 (LF G)) (some (.int ((-101))), 42, 90324, (wl G.2.1 (LF G))) := by
  refine Ct.of (by decide) (Nat.le_of_ble_eq_true rfl) ⟨Nat.le_refl _, Nat.le_refl _⟩ ?_
  show Go l G mX9_marked _ 0 [(0, .ref (G.2.1 + 0)), (1, .int x1)] [] 42 90324 (wl G.2.1 (LF G))
  refine go_aload_n (pc := 0) dX9_marked_0 rfl rfl ?_
  refine go_get (pc := 1) fX9_12 rfl (gz_b (by decide)) (wl_at (i := 0) rfl) rfl dX9_marked_1 ?_
  refine go_get (pc := 4) fX9_78 rfl (gz_b (by decide)) (wl_at (i := 1) rfl) rfl dX9_marked_4 ?_
  refine go_iload_n (pc := 7) dX9_marked_7 rfl rfl ?_
  refine go_callV_i (pc := 8) vX9_82 rfl (cX2_wasMade_1 x1) rfl rfl (gz_b (by decide)) (wl_at (i := 2) rfl) rfl (Nat.le_of_ble_eq_true rfl) ⟨Nat.le_of_ble_eq_true rfl, Nat.le_of_ble_eq_true rfl, (Nat.le_add_right _ _), (Nat.le_add_right _ _)⟩ dX9_marked_8 ?_
  refine go_if_ne_f (pc := 11) (tgt := 17) dX9_marked_11 (by decide) (by decide) ?_
  refine go_bipush (pc := 14) (v := (-101)) dX9_marked_14 (by decide) ?_
  exact go_iret (pc := 16) rfl dX9_marked_16
theorem cx_marked {l : Launch} {G : gG} (x1 : Int32) : CX l G mX9_marked [.ref (G.2.1 + 0), .int x1] ((-101)) := by
  exact ⟨1, 21, 42, 90324, _, by decide, by decide, by decide, by decide, by decide, (by exact wl_frame rfl), cx_marked_o x1⟩
set_option maxRecDepth 100000 in
set_option maxHeartbeats 4000000 in
theorem cx_moved_o {l : Launch} {G : gG} (x1 : Int32) : Ct l G mX9_moved 1 21 [.ref (G.2.1 + 0), .int x1] 42 90324 (wl G.2.1 (LF G)) (some (.int ((-101))), 42, 90324, (wl G.2.1 (LF G))) := by
  refine Ct.of (by decide) (Nat.le_of_ble_eq_true rfl) ⟨Nat.le_refl _, Nat.le_refl _⟩ ?_
  show Go l G mX9_moved _ 0 [(0, .ref (G.2.1 + 0)), (1, .int x1)] [] 42 90324 (wl G.2.1 (LF G))
  refine go_aload_n (pc := 0) dX9_moved_0 rfl rfl ?_
  refine go_get (pc := 1) fX9_12 rfl (gz_b (by decide)) (wl_at (i := 0) rfl) rfl dX9_moved_1 ?_
  refine go_get (pc := 4) fX9_78 rfl (gz_b (by decide)) (wl_at (i := 1) rfl) rfl dX9_moved_4 ?_
  refine go_iload_n (pc := 7) dX9_moved_7 rfl rfl ?_
  refine go_callV_i (pc := 8) vX9_82 rfl (cX2_wasMade_1 x1) rfl rfl (gz_b (by decide)) (wl_at (i := 2) rfl) rfl (Nat.le_of_ble_eq_true rfl) ⟨Nat.le_of_ble_eq_true rfl, Nat.le_of_ble_eq_true rfl, (Nat.le_add_right _ _), (Nat.le_add_right _ _)⟩ dX9_moved_8 ?_
  refine go_if_ne_f (pc := 11) (tgt := 17) dX9_moved_11 (by decide) (by decide) ?_
  refine go_bipush (pc := 14) (v := (-101)) dX9_moved_14 (by decide) ?_
  exact go_iret (pc := 16) rfl dX9_moved_16
theorem cx_moved {l : Launch} {G : gG} (x1 : Int32) : CX l G mX9_moved [.ref (G.2.1 + 0), .int x1] ((-101)) := by
  exact ⟨1, 21, 42, 90324, _, by decide, by decide, by decide, by decide, by decide, (by exact wl_frame rfl), cx_moved_o x1⟩
set_option maxRecDepth 100000 in
set_option maxHeartbeats 4000000 in
theorem cx_told_t {l : Launch} {G : gG} (x1 : Int32) (x2 : Int32) (c0 : x2 < 0) : Ct l G mX9_told 0 0 [.ref (G.2.1 + 0), .int x1, .int x2] 42 90324 (wl G.2.1 (LF G)) (some (.int ((-102))), 42, 90324, (wl G.2.1 (LF G))) := by
  refine Ct.of (by decide) (Nat.le_of_ble_eq_true rfl) ⟨Nat.le_refl _, Nat.le_refl _⟩ ?_
  show Go l G mX9_told _ 0 [(0, .ref (G.2.1 + 0)), (1, .int x1), (2, .int x2)] [] 42 90324 (wl G.2.1 (LF G))
  refine go_iload_n (pc := 0) dX9_told_0 rfl rfl ?_
  refine go_if_lt_t (pc := 1) (tgt := 9) dX9_told_1 (by decide) c0 ?_
  refine go_bipush (pc := 9) (v := (-102)) dX9_told_9 (by decide) ?_
  exact go_iret (pc := 11) rfl dX9_told_11
set_option maxRecDepth 100000 in
set_option maxHeartbeats 4000000 in
theorem cx_told_ftt {l : Launch} {G : gG} (x1 : Int32) (x2 : Int32) (c0 : ¬ x2 < 0) (c1 : x2 < 3) (c2 : x1 < 0) : Ct l G mX9_told 0 0 [.ref (G.2.1 + 0), .int x1, .int x2] 42 90324 (wl G.2.1 (LF G)) (some (.int ((-1))), 42, 90324, (wl G.2.1 (LF G))) := by
  refine Ct.of (by decide) (Nat.le_of_ble_eq_true rfl) ⟨Nat.le_refl _, Nat.le_refl _⟩ ?_
  show Go l G mX9_told _ 0 [(0, .ref (G.2.1 + 0)), (1, .int x1), (2, .int x2)] [] 42 90324 (wl G.2.1 (LF G))
  refine go_iload_n (pc := 0) dX9_told_0 rfl rfl ?_
  refine go_if_lt_f (pc := 1) (tgt := 9) dX9_told_1 (by decide) c0 ?_
  refine go_iload_n (pc := 4) dX9_told_4 rfl rfl ?_
  refine go_iconst (pc := 5) (v := 3) dX9_told_5 (by decide) ?_
  refine go_icmp_lt_t (pc := 6) (tgt := 12) dX9_told_6 (by decide) c1 ?_
  refine go_iload_n (pc := 12) dX9_told_12 rfl rfl ?_
  refine go_if_lt_t (pc := 13) (tgt := 36) dX9_told_13 (by decide) c2 ?_
  refine go_iconst (pc := 36) (v := (-1)) dX9_told_36 (by decide) ?_
  refine go_goto (pc := 37) (tgt := 56) dX9_told_37 (by decide) ?_
  exact go_iret (pc := 56) rfl dX9_told_56
set_option maxRecDepth 100000 in
set_option maxHeartbeats 4000000 in
theorem cx_told_ftft {l : Launch} {G : gG} (x1 : Int32) (x2 : Int32) (c0 : ¬ x2 < 0) (c1 : x2 < 3) (c2 : ¬ x1 < 0) (c3 : 100 ≤ x1) : Ct l G mX9_told 0 0 [.ref (G.2.1 + 0), .int x1, .int x2] 42 90324 (wl G.2.1 (LF G)) (some (.int ((-1))), 42, 90324, (wl G.2.1 (LF G))) := by
  refine Ct.of (by decide) (Nat.le_of_ble_eq_true rfl) ⟨Nat.le_refl _, Nat.le_refl _⟩ ?_
  show Go l G mX9_told _ 0 [(0, .ref (G.2.1 + 0)), (1, .int x1), (2, .int x2)] [] 42 90324 (wl G.2.1 (LF G))
  refine go_iload_n (pc := 0) dX9_told_0 rfl rfl ?_
  refine go_if_lt_f (pc := 1) (tgt := 9) dX9_told_1 (by decide) c0 ?_
  refine go_iload_n (pc := 4) dX9_told_4 rfl rfl ?_
  refine go_iconst (pc := 5) (v := 3) dX9_told_5 (by decide) ?_
  refine go_icmp_lt_t (pc := 6) (tgt := 12) dX9_told_6 (by decide) c1 ?_
  refine go_iload_n (pc := 12) dX9_told_12 rfl rfl ?_
  refine go_if_lt_f (pc := 13) (tgt := 36) dX9_told_13 (by decide) c2 ?_
  refine go_iload_n (pc := 16) dX9_told_16 rfl rfl ?_
  refine go_bipush (pc := 17) (v := 100) dX9_told_17 (by decide) ?_
  refine go_icmp_ge_t (pc := 19) (tgt := 36) dX9_told_19 (by decide) c3 ?_
  refine go_iconst (pc := 36) (v := (-1)) dX9_told_36 (by decide) ?_
  refine go_goto (pc := 37) (tgt := 56) dX9_told_37 (by decide) ?_
  exact go_iret (pc := 56) rfl dX9_told_56
set_option maxRecDepth 100000 in
set_option maxHeartbeats 4000000 in
theorem cx_told_ftff {l : Launch} {G : gG} (x1 : Int32) (x2 : Int32) (c0 : ¬ x2 < 0) (c1 : x2 < 3) (c2 : ¬ x1 < 0) (c3 : ¬ 100 ≤ x1) : Ct l G mX9_told 0 0 [.ref (G.2.1 + 0), .int x1, .int x2] 42 90324 (wl G.2.1 (LF G)) (some (.int ((-1))), 42, 90324, (wl G.2.1 (LF G))) := by
  refine Ct.of (by decide) (Nat.le_of_ble_eq_true rfl) ⟨Nat.le_refl _, Nat.le_refl _⟩ ?_
  show Go l G mX9_told _ 0 [(0, .ref (G.2.1 + 0)), (1, .int x1), (2, .int x2)] [] 42 90324 (wl G.2.1 (LF G))
  refine go_iload_n (pc := 0) dX9_told_0 rfl rfl ?_
  refine go_if_lt_f (pc := 1) (tgt := 9) dX9_told_1 (by decide) c0 ?_
  refine go_iload_n (pc := 4) dX9_told_4 rfl rfl ?_
  refine go_iconst (pc := 5) (v := 3) dX9_told_5 (by decide) ?_
  refine go_icmp_lt_t (pc := 6) (tgt := 12) dX9_told_6 (by decide) c1 ?_
  refine go_iload_n (pc := 12) dX9_told_12 rfl rfl ?_
  refine go_if_lt_f (pc := 13) (tgt := 36) dX9_told_13 (by decide) c2 ?_
  refine go_iload_n (pc := 16) dX9_told_16 rfl rfl ?_
  refine go_bipush (pc := 17) (v := 100) dX9_told_17 (by decide) ?_
  refine go_icmp_ge_f (pc := 19) (tgt := 36) dX9_told_19 (by decide) c3 ?_
  refine go_iload_n (pc := 22) dX9_told_22 rfl rfl ?_
  refine go_aload_n (pc := 23) dX9_told_23 rfl rfl ?_
  refine go_get (pc := 24) fX9_12 rfl (gz_b (by decide)) (wl_at (i := 0) rfl) rfl dX9_told_24 ?_
  refine go_get (pc := 27) fX9_175 rfl (gz_b (by decide)) (wl_at (i := 1) rfl) rfl dX9_told_27 ?_
  refine go_get (pc := 30) fX9_199 rfl (gz_b (by decide)) (wl_at (i := 12) rfl) rfl dX9_told_30 ?_
  refine go_icmp_lt_f (pc := 33) (tgt := 40) dX9_told_33 (by decide) c2 ?_
  refine go_iconst (pc := 36) (v := (-1)) dX9_told_36 (by decide) ?_
  refine go_goto (pc := 37) (tgt := 56) dX9_told_37 (by decide) ?_
  exact go_iret (pc := 56) rfl dX9_told_56
set_option maxRecDepth 100000 in
set_option maxHeartbeats 4000000 in
theorem cx_told_ff {l : Launch} {G : gG} (x1 : Int32) (x2 : Int32) (c0 : ¬ x2 < 0) (c1 : ¬ x2 < 3) : Ct l G mX9_told 0 0 [.ref (G.2.1 + 0), .int x1, .int x2] 42 90324 (wl G.2.1 (LF G)) (some (.int ((-102))), 42, 90324, (wl G.2.1 (LF G))) := by
  refine Ct.of (by decide) (Nat.le_of_ble_eq_true rfl) ⟨Nat.le_refl _, Nat.le_refl _⟩ ?_
  show Go l G mX9_told _ 0 [(0, .ref (G.2.1 + 0)), (1, .int x1), (2, .int x2)] [] 42 90324 (wl G.2.1 (LF G))
  refine go_iload_n (pc := 0) dX9_told_0 rfl rfl ?_
  refine go_if_lt_f (pc := 1) (tgt := 9) dX9_told_1 (by decide) c0 ?_
  refine go_iload_n (pc := 4) dX9_told_4 rfl rfl ?_
  refine go_iconst (pc := 5) (v := 3) dX9_told_5 (by decide) ?_
  refine go_icmp_lt_f (pc := 6) (tgt := 12) dX9_told_6 (by decide) c1 ?_
  refine go_bipush (pc := 9) (v := (-102)) dX9_told_9 (by decide) ?_
  exact go_iret (pc := 11) rfl dX9_told_11
theorem cx_told {l : Launch} {G : gG} (x1 : Int32) (x2 : Int32) : CX l G mX9_told [.ref (G.2.1 + 0), .int x1, .int x2] ((if x2 < 0 then (-102) else (if x2 < 3 then (-1) else (-102)))) := by
  by_cases c0 : x2 < 0
  · rw [if_pos c0]
    exact ⟨0, 0, 42, 90324, _, by decide, by decide, by decide, by decide, by decide, (by exact wl_frame rfl), cx_told_t x1 x2 c0⟩
  · rw [if_neg c0]
    by_cases c1 : x2 < 3
    · rw [if_pos c1]
      by_cases c2 : x1 < 0
      · exact ⟨0, 0, 42, 90324, _, by decide, by decide, by decide, by decide, by decide, (by exact wl_frame rfl), cx_told_ftt x1 x2 c0 c1 c2⟩
      · by_cases c3 : 100 ≤ x1
        · exact ⟨0, 0, 42, 90324, _, by decide, by decide, by decide, by decide, by decide, (by exact wl_frame rfl), cx_told_ftft x1 x2 c0 c1 c2 c3⟩
        · exact ⟨0, 0, 42, 90324, _, by decide, by decide, by decide, by decide, by decide, (by exact wl_frame rfl), cx_told_ftff x1 x2 c0 c1 c2 c3⟩
    · rw [if_neg c1]
      exact ⟨0, 0, 42, 90324, _, by decide, by decide, by decide, by decide, by decide, (by exact wl_frame rfl), cx_told_ff x1 x2 c0 c1⟩
set_option maxRecDepth 100000 in
set_option maxHeartbeats 4000000 in
theorem cx_word_t {l : Launch} {G : gG} (x1 : Int32) (c0 : x1 < 0) : Ct l G mX9_word 0 0 [.ref (G.2.1 + 0), .int x1] 42 90324 (wl G.2.1 (LF G)) (some (.int ((-102))), 42, 90324, (wl G.2.1 (LF G))) := by
  refine Ct.of (by decide) (Nat.le_of_ble_eq_true rfl) ⟨Nat.le_refl _, Nat.le_refl _⟩ ?_
  show Go l G mX9_word _ 0 [(0, .ref (G.2.1 + 0)), (1, .int x1)] [] 42 90324 (wl G.2.1 (LF G))
  refine go_iload_n (pc := 0) dX9_word_0 rfl rfl ?_
  refine go_if_lt_t (pc := 1) (tgt := 18) dX9_word_1 (by decide) c0 ?_
  refine go_bipush (pc := 18) (v := (-102)) dX9_word_18 (by decide) ?_
  refine go_goto (pc := 20) (tgt := 35) dX9_word_20 (by decide) ?_
  exact go_iret (pc := 35) rfl dX9_word_35
set_option maxRecDepth 100000 in
set_option maxHeartbeats 4000000 in
theorem cx_word_ft {l : Launch} {G : gG} (x1 : Int32) (c0 : ¬ x1 < 0) (c1 : x1 < 256) : Ct l G mX9_word 0 0 [.ref (G.2.1 + 0), .int x1] 42 90324 (wl G.2.1 (LF G)) (some (.int 0), 42, 90324, (wl G.2.1 (LF G))) := by
  refine Ct.of (by decide) (Nat.le_of_ble_eq_true rfl) ⟨Nat.le_refl _, Nat.le_refl _⟩ ?_
  show Go l G mX9_word _ 0 [(0, .ref (G.2.1 + 0)), (1, .int x1)] [] 42 90324 (wl G.2.1 (LF G))
  refine go_iload_n (pc := 0) dX9_word_0 rfl rfl ?_
  refine go_if_lt_f (pc := 1) (tgt := 18) dX9_word_1 (by decide) c0 ?_
  refine go_iload_n (pc := 4) dX9_word_4 rfl rfl ?_
  refine go_aload_n (pc := 5) dX9_word_5 rfl rfl ?_
  refine go_get (pc := 6) fX9_12 rfl (gz_b (by decide)) (wl_at (i := 0) rfl) rfl dX9_word_6 ?_
  refine go_get (pc := 9) fX9_78 rfl (gz_b (by decide)) (wl_at (i := 1) rfl) rfl dX9_word_9 ?_
  refine go_get (pc := 12) fX9_205 rfl (gz_b (by decide)) (wl_at (i := 2) rfl) rfl dX9_word_12 ?_
  refine go_icmp_lt_t (pc := 15) (tgt := 23) dX9_word_15 (by decide) c1 ?_
  refine go_aload_n (pc := 23) dX9_word_23 rfl rfl ?_
  refine go_get (pc := 24) fX9_12 rfl (gz_b (by decide)) (wl_at (i := 0) rfl) rfl dX9_word_24 ?_
  refine go_get (pc := 27) fX9_78 rfl (gz_b (by decide)) (wl_at (i := 1) rfl) rfl dX9_word_27 ?_
  refine go_get (pc := 30) fX9_252 rfl (gz_b (by decide)) (wl_at (i := 2) rfl) rfl dX9_word_30 ?_
  refine go_iload_n (pc := 33) dX9_word_33 rfl rfl ?_
  refine go_iald (pc := 34) (gz_b (by decide)) (wl_at (i := 3) rfl) (gv_rng2 c0 c1 (by decide)) dX9_word_34 ?_
  refine go_top (y := 0) rfl ?_
  exact go_iret (pc := 35) rfl dX9_word_35
set_option maxRecDepth 100000 in
set_option maxHeartbeats 4000000 in
theorem cx_word_ff {l : Launch} {G : gG} (x1 : Int32) (c0 : ¬ x1 < 0) (c1 : ¬ x1 < 256) : Ct l G mX9_word 0 0 [.ref (G.2.1 + 0), .int x1] 42 90324 (wl G.2.1 (LF G)) (some (.int ((-102))), 42, 90324, (wl G.2.1 (LF G))) := by
  refine Ct.of (by decide) (Nat.le_of_ble_eq_true rfl) ⟨Nat.le_refl _, Nat.le_refl _⟩ ?_
  show Go l G mX9_word _ 0 [(0, .ref (G.2.1 + 0)), (1, .int x1)] [] 42 90324 (wl G.2.1 (LF G))
  refine go_iload_n (pc := 0) dX9_word_0 rfl rfl ?_
  refine go_if_lt_f (pc := 1) (tgt := 18) dX9_word_1 (by decide) c0 ?_
  refine go_iload_n (pc := 4) dX9_word_4 rfl rfl ?_
  refine go_aload_n (pc := 5) dX9_word_5 rfl rfl ?_
  refine go_get (pc := 6) fX9_12 rfl (gz_b (by decide)) (wl_at (i := 0) rfl) rfl dX9_word_6 ?_
  refine go_get (pc := 9) fX9_78 rfl (gz_b (by decide)) (wl_at (i := 1) rfl) rfl dX9_word_9 ?_
  refine go_get (pc := 12) fX9_205 rfl (gz_b (by decide)) (wl_at (i := 2) rfl) rfl dX9_word_12 ?_
  refine go_icmp_lt_f (pc := 15) (tgt := 23) dX9_word_15 (by decide) c1 ?_
  refine go_bipush (pc := 18) (v := (-102)) dX9_word_18 (by decide) ?_
  refine go_goto (pc := 20) (tgt := 35) dX9_word_20 (by decide) ?_
  exact go_iret (pc := 35) rfl dX9_word_35
theorem cx_word {l : Launch} {G : gG} (x1 : Int32) : CX l G mX9_word [.ref (G.2.1 + 0), .int x1] ((if x1 < 0 then (-102) else (if x1 < 256 then 0 else (-102)))) := by
  by_cases c0 : x1 < 0
  · rw [if_pos c0]
    exact ⟨0, 0, 42, 90324, _, by decide, by decide, by decide, by decide, by decide, (by exact wl_frame rfl), cx_word_t x1 c0⟩
  · rw [if_neg c0]
    by_cases c1 : x1 < 256
    · rw [if_pos c1]
      exact ⟨0, 0, 42, 90324, _, by decide, by decide, by decide, by decide, by decide, (by exact wl_frame rfl), cx_word_ft x1 c0 c1⟩
    · rw [if_neg c1]
      exact ⟨0, 0, 42, 90324, _, by decide, by decide, by decide, by decide, by decide, (by exact wl_frame rfl), cx_word_ff x1 c0 c1⟩
set_option maxRecDepth 100000 in
set_option maxHeartbeats 4000000 in
theorem cx_rows_o {l : Launch} {G : gG} : Ct l G mX9_rows 0 0 [.ref (G.2.1 + 0)] 42 90324 (wl G.2.1 (LF G)) (some (.int 0), 42, 90324, (wl G.2.1 (LF G))) := by
  refine Ct.of (by decide) (Nat.le_of_ble_eq_true rfl) ⟨Nat.le_refl _, Nat.le_refl _⟩ ?_
  show Go l G mX9_rows _ 0 [(0, .ref (G.2.1 + 0))] [] 42 90324 (wl G.2.1 (LF G))
  refine go_aload_n (pc := 0) dX9_rows_0 rfl rfl ?_
  refine go_get (pc := 1) fX9_12 rfl (gz_b (by decide)) (wl_at (i := 0) rfl) rfl dX9_rows_1 ?_
  refine go_get (pc := 4) fX9_261 rfl (gz_b (by decide)) (wl_at (i := 1) rfl) rfl dX9_rows_4 ?_
  refine go_get (pc := 7) fX9_265 rfl (gz_b (by decide)) (wl_at (i := 14) rfl) rfl dX9_rows_7 ?_
  exact go_iret (pc := 10) rfl dX9_rows_10
theorem cx_rows {l : Launch} {G : gG} : CX l G mX9_rows [.ref (G.2.1 + 0)] 0 := by
  exact ⟨0, 0, 42, 90324, _, by decide, by decide, by decide, by decide, by decide, (by exact wl_frame rfl), cx_rows_o⟩
set_option maxRecDepth 100000 in
set_option maxHeartbeats 4000000 in
theorem cx_row_t {l : Launch} {G : gG} (x1 : Int32) (c0 : x1 < 0) : Ct l G mX9_row 0 0 [.ref (G.2.1 + 0), .int x1] 42 90324 (wl G.2.1 (LF G)) (some (.int ((-101))), 42, 90324, (wl G.2.1 (LF G))) := by
  refine Ct.of (by decide) (Nat.le_of_ble_eq_true rfl) ⟨Nat.le_refl _, Nat.le_refl _⟩ ?_
  show Go l G mX9_row _ 0 [(0, .ref (G.2.1 + 0)), (1, .int x1)] [] 42 90324 (wl G.2.1 (LF G))
  refine go_iload_n (pc := 0) dX9_row_0 rfl rfl ?_
  refine go_if_lt_t (pc := 1) (tgt := 18) dX9_row_1 (by decide) c0 ?_
  refine go_bipush (pc := 18) (v := (-101)) dX9_row_18 (by decide) ?_
  refine go_goto (pc := 20) (tgt := 35) dX9_row_20 (by decide) ?_
  exact go_iret (pc := 35) rfl dX9_row_35
set_option maxRecDepth 100000 in
set_option maxHeartbeats 4000000 in
theorem cx_row_f {l : Launch} {G : gG} (x1 : Int32) (c0 : ¬ x1 < 0) : Ct l G mX9_row 0 0 [.ref (G.2.1 + 0), .int x1] 42 90324 (wl G.2.1 (LF G)) (some (.int ((-101))), 42, 90324, (wl G.2.1 (LF G))) := by
  refine Ct.of (by decide) (Nat.le_of_ble_eq_true rfl) ⟨Nat.le_refl _, Nat.le_refl _⟩ ?_
  show Go l G mX9_row _ 0 [(0, .ref (G.2.1 + 0)), (1, .int x1)] [] 42 90324 (wl G.2.1 (LF G))
  refine go_iload_n (pc := 0) dX9_row_0 rfl rfl ?_
  refine go_if_lt_f (pc := 1) (tgt := 18) dX9_row_1 (by decide) c0 ?_
  refine go_iload_n (pc := 4) dX9_row_4 rfl rfl ?_
  refine go_aload_n (pc := 5) dX9_row_5 rfl rfl ?_
  refine go_get (pc := 6) fX9_12 rfl (gz_b (by decide)) (wl_at (i := 0) rfl) rfl dX9_row_6 ?_
  refine go_get (pc := 9) fX9_261 rfl (gz_b (by decide)) (wl_at (i := 1) rfl) rfl dX9_row_9 ?_
  refine go_get (pc := 12) fX9_265 rfl (gz_b (by decide)) (wl_at (i := 14) rfl) rfl dX9_row_12 ?_
  refine go_icmp_lt_f (pc := 15) (tgt := 23) dX9_row_15 (by decide) c0 ?_
  refine go_bipush (pc := 18) (v := (-101)) dX9_row_18 (by decide) ?_
  refine go_goto (pc := 20) (tgt := 35) dX9_row_20 (by decide) ?_
  exact go_iret (pc := 35) rfl dX9_row_35
theorem cx_row {l : Launch} {G : gG} (x1 : Int32) : CX l G mX9_row [.ref (G.2.1 + 0), .int x1] ((-101)) := by
  by_cases c0 : x1 < 0
  · exact ⟨0, 0, 42, 90324, _, by decide, by decide, by decide, by decide, by decide, (by exact wl_frame rfl), cx_row_t x1 c0⟩
  · exact ⟨0, 0, 42, 90324, _, by decide, by decide, by decide, by decide, by decide, (by exact wl_frame rfl), cx_row_f x1 c0⟩
set_option maxRecDepth 100000 in
set_option maxHeartbeats 4000000 in
theorem cx_forge_t {l : Launch} {G : gG} (x1 : Int32) (x2 : Int32) (c0 : x1 < 0) : Ct l G mX9_forge 0 0 [.ref (G.2.1 + 0), .int x1, .int x2] 42 90324 (wl G.2.1 (LF G)) (some (.int ((-101))), 42, 90324, (wl G.2.1 (LF G))) := by
  refine Ct.of (by decide) (Nat.le_of_ble_eq_true rfl) ⟨Nat.le_refl _, Nat.le_refl _⟩ ?_
  show Go l G mX9_forge _ 0 [(0, .ref (G.2.1 + 0)), (1, .int x1), (2, .int x2)] [] 42 90324 (wl G.2.1 (LF G))
  refine go_iload_n (pc := 0) dX9_forge_0 rfl rfl ?_
  refine go_if_lt_t (pc := 1) (tgt := 18) dX9_forge_1 (by decide) c0 ?_
  refine go_bipush (pc := 18) (v := (-101)) dX9_forge_18 (by decide) ?_
  exact go_iret (pc := 20) rfl dX9_forge_20
set_option maxRecDepth 100000 in
set_option maxHeartbeats 4000000 in
theorem cx_forge_f {l : Launch} {G : gG} (x1 : Int32) (x2 : Int32) (c0 : ¬ x1 < 0) : Ct l G mX9_forge 0 0 [.ref (G.2.1 + 0), .int x1, .int x2] 42 90324 (wl G.2.1 (LF G)) (some (.int ((-101))), 42, 90324, (wl G.2.1 (LF G))) := by
  refine Ct.of (by decide) (Nat.le_of_ble_eq_true rfl) ⟨Nat.le_refl _, Nat.le_refl _⟩ ?_
  show Go l G mX9_forge _ 0 [(0, .ref (G.2.1 + 0)), (1, .int x1), (2, .int x2)] [] 42 90324 (wl G.2.1 (LF G))
  refine go_iload_n (pc := 0) dX9_forge_0 rfl rfl ?_
  refine go_if_lt_f (pc := 1) (tgt := 18) dX9_forge_1 (by decide) c0 ?_
  refine go_iload_n (pc := 4) dX9_forge_4 rfl rfl ?_
  refine go_aload_n (pc := 5) dX9_forge_5 rfl rfl ?_
  refine go_get (pc := 6) fX9_12 rfl (gz_b (by decide)) (wl_at (i := 0) rfl) rfl dX9_forge_6 ?_
  refine go_get (pc := 9) fX9_261 rfl (gz_b (by decide)) (wl_at (i := 1) rfl) rfl dX9_forge_9 ?_
  refine go_get (pc := 12) fX9_265 rfl (gz_b (by decide)) (wl_at (i := 14) rfl) rfl dX9_forge_12 ?_
  refine go_icmp_lt_f (pc := 15) (tgt := 21) dX9_forge_15 (by decide) c0 ?_
  refine go_bipush (pc := 18) (v := (-101)) dX9_forge_18 (by decide) ?_
  exact go_iret (pc := 20) rfl dX9_forge_20
theorem cx_forge {l : Launch} {G : gG} (x1 : Int32) (x2 : Int32) : CX l G mX9_forge [.ref (G.2.1 + 0), .int x1, .int x2] ((-101)) := by
  by_cases c0 : x1 < 0
  · exact ⟨0, 0, 42, 90324, _, by decide, by decide, by decide, by decide, by decide, (by exact wl_frame rfl), cx_forge_t x1 x2 c0⟩
  · exact ⟨0, 0, 42, 90324, _, by decide, by decide, by decide, by decide, by decide, (by exact wl_frame rfl), cx_forge_f x1 x2 c0⟩
set_option maxRecDepth 100000 in
set_option maxHeartbeats 4000000 in
theorem cx_check_o {l : Launch} {G : gG} : Ct l G mX9_check 0 0 [.ref (G.2.1 + 0)] 42 90324 (wl G.2.1 (LF G)) (some (.int ((-104))), 42, 90324, (wl G.2.1 (LF G))) := by
  refine Ct.of (by decide) (Nat.le_of_ble_eq_true rfl) ⟨Nat.le_refl _, Nat.le_refl _⟩ ?_
  show Go l G mX9_check _ 0 [(0, .ref (G.2.1 + 0))] [] 42 90324 (wl G.2.1 (LF G))
  refine go_aload_n (pc := 0) dX9_check_0 rfl rfl ?_
  refine go_get (pc := 1) fX9_12 rfl (gz_b (by decide)) (wl_at (i := 0) rfl) rfl dX9_check_1 ?_
  refine go_get (pc := 4) fX9_261 rfl (gz_b (by decide)) (wl_at (i := 1) rfl) rfl dX9_check_4 ?_
  refine go_get (pc := 7) fX9_265 rfl (gz_b (by decide)) (wl_at (i := 14) rfl) rfl dX9_check_7 ?_
  refine go_if_ne_f (pc := 10) (tgt := 18) dX9_check_10 (by decide) (by decide) ?_
  refine go_bipush (pc := 13) (v := (-104)) dX9_check_13 (by decide) ?_
  refine go_goto (pc := 15) (tgt := 45) dX9_check_15 (by decide) ?_
  exact go_iret (pc := 45) rfl dX9_check_45
theorem cx_check {l : Launch} {G : gG} : CX l G mX9_check [.ref (G.2.1 + 0)] ((-104)) := by
  exact ⟨0, 0, 42, 90324, _, by decide, by decide, by decide, by decide, by decide, (by exact wl_frame rfl), cx_check_o⟩
set_option maxRecDepth 100000 in
set_option maxHeartbeats 4000000 in
theorem cx_clear_o {l : Launch} {G : gG} : Ct l G mX9_clear 0 0 [.ref (G.2.1 + 0)] 42 90324 (wl G.2.1 (LF G)) (some (.int 0), 42, 90324, (wl G.2.1 (LF G))) := by
  refine Ct.of (by decide) (Nat.le_of_ble_eq_true rfl) ⟨Nat.le_refl _, Nat.le_refl _⟩ ?_
  show Go l G mX9_clear _ 0 [(0, .ref (G.2.1 + 0))] [] 42 90324 (wl G.2.1 (LF G))
  refine go_aload_n (pc := 0) dX9_clear_0 rfl rfl ?_
  refine go_get (pc := 1) fX9_12 rfl (gz_b (by decide)) (wl_at (i := 0) rfl) rfl dX9_clear_1 ?_
  refine go_get (pc := 4) fX9_236 rfl (gz_b (by decide)) (wl_at (i := 1) rfl) rfl dX9_clear_4 ?_
  refine go_get (pc := 7) fX9_240 rfl (gz_b (by decide)) (wl_at (i := 17) rfl) rfl dX9_clear_7 ?_
  refine go_istore_n (pc := 10) (lv' := [(1, .int 0), (0, .ref (G.2.1 + 0))]) dX9_clear_10 rfl (by decide) rfl ?_
  refine go_aload_n (pc := 11) dX9_clear_11 rfl rfl ?_
  refine go_get (pc := 12) fX9_12 rfl (gz_b (by decide)) (wl_at (i := 0) rfl) rfl dX9_clear_12 ?_
  refine go_get (pc := 15) fX9_236 rfl (gz_b (by decide)) (wl_at (i := 1) rfl) rfl dX9_clear_15 ?_
  refine go_iconst (pc := 18) (v := 0) dX9_clear_18 (by decide) ?_
  refine go_put (pc := 19) fX9_240 rfl (gz_b (by decide)) (wl_at (i := 17) rfl) (Nat.le_of_ble_eq_true rfl) rfl rfl dX9_clear_19 ?_
  refine go_ext (wl_up (i := 17) rfl rfl) ?_
  refine go_aload_n (pc := 22) dX9_clear_22 rfl rfl ?_
  refine go_get (pc := 23) fX9_12 rfl (gz_b (by decide)) (wl_at (i := 0) rfl) rfl dX9_clear_23 ?_
  refine go_get (pc := 26) fX9_236 rfl (gz_b (by decide)) (wl_at (i := 1) rfl) rfl dX9_clear_26 ?_
  refine go_iconst (pc := 29) (v := 0) dX9_clear_29 (by decide) ?_
  refine go_put (pc := 30) fX9_243 rfl (gz_b (by decide)) (wl_at (i := 17) rfl) (Nat.le_of_ble_eq_true rfl) rfl rfl dX9_clear_30 ?_
  refine go_ext (wl_up (i := 17) rfl rfl) ?_
  refine go_iload_n (pc := 33) dX9_clear_33 rfl rfl ?_
  refine go_w (show _ = wl G.2.1 [ob 9 [.ref (G.2.1 + 1), .ref (G.2.1 + 23), .ref (G.2.1 + 27), .ref (G.2.1 + 28), .ref (G.2.1 + 22), .int 0, .int 0, .null, .int 0, .null, .int 0], ob 6 [.ref (G.2.1 + 2), .ref (G.2.1 + 6), .ref (G.2.1 + 12), .ref (G.2.1 + 14), .ref (G.2.1 + 17), .ref (G.2.1 + 20), .ref (G.2.1 + 21)], ob 2 [.int 256, .int 0, .int 0, .int 0, .ref (G.2.1 + 3), .ref (G.2.1 + 4), .ref (G.2.1 + 5)], ai G 256 (fun _ => 0), ai G 500 (fun _ => (-1)), ai G 500 (fun _ => 0), ob 3 [.int 0, .int 0, .int 0, .int 0, .ref (G.2.1 + 7), .ref (G.2.1 + 8), .ref (G.2.1 + 9), .ref (G.2.1 + 10), .ref (G.2.1 + 11)], ai G 500 (fun _ => 0), ai G 500 (fun _ => 0), ai G 500 (fun _ => 0), ai G 500 (fun _ => 0), ai G 500 (fun _ => 0), ob 8 [.int 0, .int 0, .int 0, .int 0, .int 0, .int 0, .ref (G.2.1 + 13)], ai G 300 (fun _ => 0), ob 4 [.int 0, .ref (G.2.1 + 15), .ref (G.2.1 + 16)], ai G 1295 (fun _ => 0), ai G 1295 (fun _ => 0), ob 5 [.int 0, .int 0, .int 0, .int 0, .ref (G.2.1 + 18), .ref (G.2.1 + 19)], ai G 200 (fun _ => 0), ai G 8 (fun _ => (-1)), ai G 24 (fun _ => (-1)), ai G 32 (fun _ => (-1)), ai G 14 (fun _ => 0), ob 7 [.ref (G.2.1 + 1), .ref (G.2.1 + 2), .ref (G.2.1 + 6), .ref (G.2.1 + 22), .ref (G.2.1 + 24), .int 0, .ref (G.2.1 + 25), .ref (G.2.1 + 26), .int 0], ai G 500 (fun _ => 0), ai G 500 (fun _ => 0), ai G 500 (fun _ => 0), ob 0 [.ref (G.2.1 + 1), .ref (G.2.1 + 2), .ref (G.2.1 + 23), .int 0], ob 1 [.ref (G.2.1 + 29), .int 0, .int 0, .ref (G.2.1 + 30), .ref (G.2.1 + 31)], ai G 0 (fun _ => 0), ai G 500 (fun _ => 0), ai G 501 (fun _ => 0), ob 10 [.ref (G.2.1 + 33), .ref (G.2.1 + 34), .ref (G.2.1 + 35), .int 0, .int 0, .int 0, .int 0, .int 0, .ref (G.2.1 + 36), .ref (G.2.1 + 37), .ref (G.2.1 + 38), .ref (G.2.1 + 39), .int 0, .ref (G.2.1 + 40), .int 0, .ref (G.2.1 + 41)], ai G 26100 (sx 256), ai G 26100 (fun _ => 0), ai G 26100 (fun _ => 0), ai G 14 (fun _ => 0), ai G 500 (fun _ => 0), ai G 500 (fun _ => 0), az G 500 (fun _ => 0), ai G 501 (fun _ => 0), ai G 500 (fun _ => 0)] from rfl) ?_
  exact go_iret (pc := 34) rfl dX9_clear_34
theorem cx_clear {l : Launch} {G : gG} : CX l G mX9_clear [.ref (G.2.1 + 0)] 0 := by
  exact ⟨0, 0, 42, 90324, _, by decide, by decide, by decide, by decide, by decide, (by exact wl_frame rfl), cx_clear_o⟩
set_option maxRecDepth 100000 in
set_option maxHeartbeats 4000000 in
theorem cx_run_t {l : Launch} {G : gG} (x1 : Int32) (c0 : x1 < 0) : Ct l G mX9_run 0 0 [.ref (G.2.1 + 0), .int x1] 42 90324 (wl G.2.1 (LF G)) (some (.int ((-102))), 42, 90324, (wl G.2.1 (LF G))) := by
  refine Ct.of (by decide) (Nat.le_of_ble_eq_true rfl) ⟨Nat.le_refl _, Nat.le_refl _⟩ ?_
  show Go l G mX9_run _ 0 [(0, .ref (G.2.1 + 0)), (1, .int x1)] [] 42 90324 (wl G.2.1 (LF G))
  refine go_iload_n (pc := 0) dX9_run_0 rfl rfl ?_
  refine go_if_lt_t (pc := 1) (tgt := 11) dX9_run_1 (by decide) c0 ?_
  refine go_bipush (pc := 11) (v := (-102)) dX9_run_11 (by decide) ?_
  exact go_iret (pc := 13) rfl dX9_run_13
set_option maxRecDepth 100000 in
set_option maxHeartbeats 4000000 in
theorem cx_run_ft {l : Launch} {G : gG} (x1 : Int32) (c0 : ¬ x1 < 0) (c1 : x1 ≤ 200) : Ct l G mX9_run 0 0 [.ref (G.2.1 + 0), .int x1] 42 90324 (wl G.2.1 (LF G)) (some (.int ((-104))), 42, 90324, (wl G.2.1 (LF G))) := by
  refine Ct.of (by decide) (Nat.le_of_ble_eq_true rfl) ⟨Nat.le_refl _, Nat.le_refl _⟩ ?_
  show Go l G mX9_run _ 0 [(0, .ref (G.2.1 + 0)), (1, .int x1)] [] 42 90324 (wl G.2.1 (LF G))
  refine go_iload_n (pc := 0) dX9_run_0 rfl rfl ?_
  refine go_if_lt_f (pc := 1) (tgt := 11) dX9_run_1 (by decide) c0 ?_
  refine go_iload_n (pc := 4) dX9_run_4 rfl rfl ?_
  refine go_sipush (pc := 5) (v := 200) dX9_run_5 (by decide) ?_
  refine go_icmp_le_t (pc := 8) (tgt := 14) dX9_run_8 (by decide) c1 ?_
  refine go_aload_n (pc := 14) dX9_run_14 rfl rfl ?_
  refine go_get (pc := 15) fX9_12 rfl (gz_b (by decide)) (wl_at (i := 0) rfl) rfl dX9_run_15 ?_
  refine go_get (pc := 18) fX9_236 rfl (gz_b (by decide)) (wl_at (i := 1) rfl) rfl dX9_run_18 ?_
  refine go_astore_n (pc := 21) (lv' := [(2, .ref (G.2.1 + 17)), (0, .ref (G.2.1 + 0)), (1, .int x1)]) dX9_run_21 rfl (by decide) rfl ?_
  refine go_aload_n (pc := 22) dX9_run_22 rfl rfl ?_
  refine go_get (pc := 23) fX9_240 rfl (gz_b (by decide)) (wl_at (i := 17) rfl) rfl dX9_run_23 ?_
  refine go_if_ne_f (pc := 26) (tgt := 32) dX9_run_26 (by decide) (by decide) ?_
  refine go_bipush (pc := 29) (v := (-104)) dX9_run_29 (by decide) ?_
  exact go_iret (pc := 31) rfl dX9_run_31
set_option maxRecDepth 100000 in
set_option maxHeartbeats 4000000 in
theorem cx_run_ff {l : Launch} {G : gG} (x1 : Int32) (c0 : ¬ x1 < 0) (c1 : ¬ x1 ≤ 200) : Ct l G mX9_run 0 0 [.ref (G.2.1 + 0), .int x1] 42 90324 (wl G.2.1 (LF G)) (some (.int ((-102))), 42, 90324, (wl G.2.1 (LF G))) := by
  refine Ct.of (by decide) (Nat.le_of_ble_eq_true rfl) ⟨Nat.le_refl _, Nat.le_refl _⟩ ?_
  show Go l G mX9_run _ 0 [(0, .ref (G.2.1 + 0)), (1, .int x1)] [] 42 90324 (wl G.2.1 (LF G))
  refine go_iload_n (pc := 0) dX9_run_0 rfl rfl ?_
  refine go_if_lt_f (pc := 1) (tgt := 11) dX9_run_1 (by decide) c0 ?_
  refine go_iload_n (pc := 4) dX9_run_4 rfl rfl ?_
  refine go_sipush (pc := 5) (v := 200) dX9_run_5 (by decide) ?_
  refine go_icmp_le_f (pc := 8) (tgt := 14) dX9_run_8 (by decide) c1 ?_
  refine go_bipush (pc := 11) (v := (-102)) dX9_run_11 (by decide) ?_
  exact go_iret (pc := 13) rfl dX9_run_13
theorem cx_run {l : Launch} {G : gG} (x1 : Int32) : CX l G mX9_run [.ref (G.2.1 + 0), .int x1] ((if x1 < 0 then (-102) else (if x1 ≤ 200 then (-104) else (-102)))) := by
  by_cases c0 : x1 < 0
  · rw [if_pos c0]
    exact ⟨0, 0, 42, 90324, _, by decide, by decide, by decide, by decide, by decide, (by exact wl_frame rfl), cx_run_t x1 c0⟩
  · rw [if_neg c0]
    by_cases c1 : x1 ≤ 200
    · rw [if_pos c1]
      exact ⟨0, 0, 42, 90324, _, by decide, by decide, by decide, by decide, by decide, (by exact wl_frame rfl), cx_run_ft x1 c0 c1⟩
    · rw [if_neg c1]
      exact ⟨0, 0, 42, 90324, _, by decide, by decide, by decide, by decide, by decide, (by exact wl_frame rfl), cx_run_ff x1 c0 c1⟩
set_option maxRecDepth 100000 in
set_option maxHeartbeats 4000000 in
theorem cx_found_o {l : Launch} {G : gG} : Ct l G mX9_found 0 0 [.ref (G.2.1 + 0)] 42 90324 (wl G.2.1 (LF G)) (some (.int 0), 42, 90324, (wl G.2.1 (LF G))) := by
  refine Ct.of (by decide) (Nat.le_of_ble_eq_true rfl) ⟨Nat.le_refl _, Nat.le_refl _⟩ ?_
  show Go l G mX9_found _ 0 [(0, .ref (G.2.1 + 0))] [] 42 90324 (wl G.2.1 (LF G))
  refine go_aload_n (pc := 0) dX9_found_0 rfl rfl ?_
  refine go_get (pc := 1) fX9_56 rfl (gz_b (by decide)) (wl_at (i := 0) rfl) rfl dX9_found_1 ?_
  exact go_iret (pc := 4) rfl dX9_found_4
theorem cx_found {l : Launch} {G : gG} : CX l G mX9_found [.ref (G.2.1 + 0)] 0 := by
  exact ⟨0, 0, 42, 90324, _, by decide, by decide, by decide, by decide, by decide, (by exact wl_frame rfl), cx_found_o⟩
set_option maxRecDepth 100000 in
set_option maxHeartbeats 4000000 in
theorem cx_register_t {l : Launch} {G : gG} (x1 : Int32) (c0 : x1 < 0) : Ct l G mX9_register 0 0 [.ref (G.2.1 + 0), .int x1] 42 90324 (wl G.2.1 (LF G)) (some (.int ((-101))), 42, 90324, (wl G.2.1 (LF G))) := by
  refine Ct.of (by decide) (Nat.le_of_ble_eq_true rfl) ⟨Nat.le_refl _, Nat.le_refl _⟩ ?_
  show Go l G mX9_register _ 0 [(0, .ref (G.2.1 + 0)), (1, .int x1)] [] 42 90324 (wl G.2.1 (LF G))
  refine go_iload_n (pc := 0) dX9_register_0 rfl rfl ?_
  refine go_if_lt_t (pc := 1) (tgt := 10) dX9_register_1 (by decide) c0 ?_
  refine go_bipush (pc := 10) (v := (-101)) dX9_register_10 (by decide) ?_
  refine go_goto (pc := 12) (tgt := 27) dX9_register_12 (by decide) ?_
  exact go_iret (pc := 27) rfl dX9_register_27
set_option maxRecDepth 100000 in
set_option maxHeartbeats 4000000 in
theorem cx_register_ft {l : Launch} {G : gG} (x1 : Int32) (c0 : ¬ x1 < 0) (c1 : x1 < 8) : Ct l G mX9_register 0 0 [.ref (G.2.1 + 0), .int x1] 42 90324 (wl G.2.1 (LF G)) (some (.int ((-1))), 42, 90324, (wl G.2.1 (LF G))) := by
  refine Ct.of (by decide) (Nat.le_of_ble_eq_true rfl) ⟨Nat.le_refl _, Nat.le_refl _⟩ ?_
  show Go l G mX9_register _ 0 [(0, .ref (G.2.1 + 0)), (1, .int x1)] [] 42 90324 (wl G.2.1 (LF G))
  refine go_iload_n (pc := 0) dX9_register_0 rfl rfl ?_
  refine go_if_lt_f (pc := 1) (tgt := 10) dX9_register_1 (by decide) c0 ?_
  refine go_iload_n (pc := 4) dX9_register_4 rfl rfl ?_
  refine go_bipush (pc := 5) (v := 8) dX9_register_5 (by decide) ?_
  refine go_icmp_lt_t (pc := 7) (tgt := 15) dX9_register_7 (by decide) c1 ?_
  refine go_aload_n (pc := 15) dX9_register_15 rfl rfl ?_
  refine go_get (pc := 16) fX9_12 rfl (gz_b (by decide)) (wl_at (i := 0) rfl) rfl dX9_register_16 ?_
  refine go_get (pc := 19) fX9_236 rfl (gz_b (by decide)) (wl_at (i := 1) rfl) rfl dX9_register_19 ?_
  refine go_get (pc := 22) fX9_309 rfl (gz_b (by decide)) (wl_at (i := 17) rfl) rfl dX9_register_22 ?_
  refine go_iload_n (pc := 25) dX9_register_25 rfl rfl ?_
  refine go_iald (pc := 26) (gz_b (by decide)) (wl_at (i := 19) rfl) (gv_rng2 c0 c1 (by decide)) dX9_register_26 ?_
  refine go_top (y := (-1)) rfl ?_
  exact go_iret (pc := 27) rfl dX9_register_27
set_option maxRecDepth 100000 in
set_option maxHeartbeats 4000000 in
theorem cx_register_ff {l : Launch} {G : gG} (x1 : Int32) (c0 : ¬ x1 < 0) (c1 : ¬ x1 < 8) : Ct l G mX9_register 0 0 [.ref (G.2.1 + 0), .int x1] 42 90324 (wl G.2.1 (LF G)) (some (.int ((-101))), 42, 90324, (wl G.2.1 (LF G))) := by
  refine Ct.of (by decide) (Nat.le_of_ble_eq_true rfl) ⟨Nat.le_refl _, Nat.le_refl _⟩ ?_
  show Go l G mX9_register _ 0 [(0, .ref (G.2.1 + 0)), (1, .int x1)] [] 42 90324 (wl G.2.1 (LF G))
  refine go_iload_n (pc := 0) dX9_register_0 rfl rfl ?_
  refine go_if_lt_f (pc := 1) (tgt := 10) dX9_register_1 (by decide) c0 ?_
  refine go_iload_n (pc := 4) dX9_register_4 rfl rfl ?_
  refine go_bipush (pc := 5) (v := 8) dX9_register_5 (by decide) ?_
  refine go_icmp_lt_f (pc := 7) (tgt := 15) dX9_register_7 (by decide) c1 ?_
  refine go_bipush (pc := 10) (v := (-101)) dX9_register_10 (by decide) ?_
  refine go_goto (pc := 12) (tgt := 27) dX9_register_12 (by decide) ?_
  exact go_iret (pc := 27) rfl dX9_register_27
theorem cx_register {l : Launch} {G : gG} (x1 : Int32) : CX l G mX9_register [.ref (G.2.1 + 0), .int x1] ((if x1 < 0 then (-101) else (if x1 < 8 then (-1) else (-101)))) := by
  by_cases c0 : x1 < 0
  · rw [if_pos c0]
    exact ⟨0, 0, 42, 90324, _, by decide, by decide, by decide, by decide, by decide, (by exact wl_frame rfl), cx_register_t x1 c0⟩
  · rw [if_neg c0]
    by_cases c1 : x1 < 8
    · rw [if_pos c1]
      exact ⟨0, 0, 42, 90324, _, by decide, by decide, by decide, by decide, by decide, (by exact wl_frame rfl), cx_register_ft x1 c0 c1⟩
    · rw [if_neg c1]
      exact ⟨0, 0, 42, 90324, _, by decide, by decide, by decide, by decide, by decide, (by exact wl_frame rfl), cx_register_ff x1 c0 c1⟩
set_option maxRecDepth 100000 in
set_option maxHeartbeats 4000000 in
theorem cx_load_o {l : Launch} {G : gG} : Ct l G mX9_load 0 0 [.ref (G.2.1 + 0)] 42 90324 (wl G.2.1 (LF G)) (some (.int ((-104))), 42, 90324, (wl G.2.1 (LF G))) := by
  refine Ct.of (by decide) (Nat.le_of_ble_eq_true rfl) ⟨Nat.le_refl _, Nat.le_refl _⟩ ?_
  show Go l G mX9_load _ 0 [(0, .ref (G.2.1 + 0))] [] 42 90324 (wl G.2.1 (LF G))
  refine go_aload_n (pc := 0) dX9_load_0 rfl rfl ?_
  refine go_get (pc := 1) fX9_59 rfl (gz_b (by decide)) (wl_at (i := 0) rfl) rfl dX9_load_1 ?_
  refine go_if_eq_t (pc := 4) (tgt := 14) dX9_load_4 (by decide) (by decide) ?_
  refine go_bipush (pc := 14) (v := (-104)) dX9_load_14 (by decide) ?_
  exact go_iret (pc := 16) rfl dX9_load_16
theorem cx_load {l : Launch} {G : gG} : CX l G mX9_load [.ref (G.2.1 + 0)] ((-104)) := by
  exact ⟨0, 0, 42, 90324, _, by decide, by decide, by decide, by decide, by decide, (by exact wl_frame rfl), cx_load_o⟩
set_option maxRecDepth 100000 in
set_option maxHeartbeats 4000000 in
theorem cx_undoStep_o {l : Launch} {G : gG} : Ct l G mX9_undoStep 0 0 [.ref (G.2.1 + 0)] 42 90324 (wl G.2.1 (LF G)) (some (.int ((-104))), 42, 90324, (wl G.2.1 (LF G))) := by
  refine Ct.of (by decide) (Nat.le_of_ble_eq_true rfl) ⟨Nat.le_refl _, Nat.le_refl _⟩ ?_
  show Go l G mX9_undoStep _ 0 [(0, .ref (G.2.1 + 0))] [] 42 90324 (wl G.2.1 (LF G))
  refine go_aload_n (pc := 0) dX9_undoStep_0 rfl rfl ?_
  refine go_get (pc := 1) fX9_63 rfl (gz_b (by decide)) (wl_at (i := 0) rfl) rfl dX9_undoStep_1 ?_
  refine go_if_eq_t (pc := 4) (tgt := 14) dX9_undoStep_4 (by decide) (by decide) ?_
  refine go_bipush (pc := 14) (v := (-104)) dX9_undoStep_14 (by decide) ?_
  exact go_iret (pc := 16) rfl dX9_undoStep_16
theorem cx_undoStep {l : Launch} {G : gG} : CX l G mX9_undoStep [.ref (G.2.1 + 0)] ((-104)) := by
  exact ⟨0, 0, 42, 90324, _, by decide, by decide, by decide, by decide, by decide, (by exact wl_frame rfl), cx_undoStep_o⟩
set_option maxRecDepth 100000 in
set_option maxHeartbeats 4000000 in
theorem cx_finding_o {l : Launch} {G : gG} : Ct l G mX9_finding 0 0 [.ref (G.2.1 + 0)] 42 90324 (wl G.2.1 (LF G)) (some (.int 0), 42, 90324, (wl G.2.1 (LF G))) := by
  refine Ct.of (by decide) (Nat.le_of_ble_eq_true rfl) ⟨Nat.le_refl _, Nat.le_refl _⟩ ?_
  show Go l G mX9_finding _ 0 [(0, .ref (G.2.1 + 0))] [] 42 90324 (wl G.2.1 (LF G))
  refine go_aload_n (pc := 0) dX9_finding_0 rfl rfl ?_
  refine go_get (pc := 1) fX9_53 rfl (gz_b (by decide)) (wl_at (i := 0) rfl) rfl dX9_finding_1 ?_
  exact go_iret (pc := 4) rfl dX9_finding_4
theorem cx_finding {l : Launch} {G : gG} : CX l G mX9_finding [.ref (G.2.1 + 0)] 0 := by
  exact ⟨0, 0, 42, 90324, _, by decide, by decide, by decide, by decide, by decide, (by exact wl_frame rfl), cx_finding_o⟩
set_option maxRecDepth 100000 in
set_option maxHeartbeats 4000000 in
theorem cx_trace_t {l : Launch} {G : gG} (x1 : Int32) (c0 : x1 < 0) : Ct l G mX9_trace 0 0 [.ref (G.2.1 + 0), .int x1] 42 90324 (wl G.2.1 (LF G)) (some (.int ((-101))), 42, 90324, (wl G.2.1 (LF G))) := by
  refine Ct.of (by decide) (Nat.le_of_ble_eq_true rfl) ⟨Nat.le_refl _, Nat.le_refl _⟩ ?_
  show Go l G mX9_trace _ 0 [(0, .ref (G.2.1 + 0)), (1, .int x1)] [] 42 90324 (wl G.2.1 (LF G))
  refine go_iload_n (pc := 0) dX9_trace_0 rfl rfl ?_
  refine go_if_lt_t (pc := 1) (tgt := 10) dX9_trace_1 (by decide) c0 ?_
  refine go_bipush (pc := 10) (v := (-101)) dX9_trace_10 (by decide) ?_
  refine go_goto (pc := 12) (tgt := 21) dX9_trace_12 (by decide) ?_
  exact go_iret (pc := 21) rfl dX9_trace_21
set_option maxRecDepth 100000 in
set_option maxHeartbeats 4000000 in
theorem cx_trace_ft {l : Launch} {G : gG} (x1 : Int32) (c0 : ¬ x1 < 0) (c1 : x1 < 14) : Ct l G mX9_trace 0 0 [.ref (G.2.1 + 0), .int x1] 42 90324 (wl G.2.1 (LF G)) (some (.int 0), 42, 90324, (wl G.2.1 (LF G))) := by
  refine Ct.of (by decide) (Nat.le_of_ble_eq_true rfl) ⟨Nat.le_refl _, Nat.le_refl _⟩ ?_
  show Go l G mX9_trace _ 0 [(0, .ref (G.2.1 + 0)), (1, .int x1)] [] 42 90324 (wl G.2.1 (LF G))
  refine go_iload_n (pc := 0) dX9_trace_0 rfl rfl ?_
  refine go_if_lt_f (pc := 1) (tgt := 10) dX9_trace_1 (by decide) c0 ?_
  refine go_iload_n (pc := 4) dX9_trace_4 rfl rfl ?_
  refine go_bipush (pc := 5) (v := 14) dX9_trace_5 (by decide) ?_
  refine go_icmp_lt_t (pc := 7) (tgt := 15) dX9_trace_7 (by decide) c1 ?_
  refine go_aload_n (pc := 15) dX9_trace_15 rfl rfl ?_
  refine go_get (pc := 16) fX9_16 rfl (gz_b (by decide)) (wl_at (i := 0) rfl) rfl dX9_trace_16 ?_
  refine go_iload_n (pc := 19) dX9_trace_19 rfl rfl ?_
  refine go_iald (pc := 20) (gz_b (by decide)) (wl_at (i := 22) rfl) (gv_rng2 c0 c1 (by decide)) dX9_trace_20 ?_
  refine go_top (y := 0) rfl ?_
  exact go_iret (pc := 21) rfl dX9_trace_21
set_option maxRecDepth 100000 in
set_option maxHeartbeats 4000000 in
theorem cx_trace_ff {l : Launch} {G : gG} (x1 : Int32) (c0 : ¬ x1 < 0) (c1 : ¬ x1 < 14) : Ct l G mX9_trace 0 0 [.ref (G.2.1 + 0), .int x1] 42 90324 (wl G.2.1 (LF G)) (some (.int ((-101))), 42, 90324, (wl G.2.1 (LF G))) := by
  refine Ct.of (by decide) (Nat.le_of_ble_eq_true rfl) ⟨Nat.le_refl _, Nat.le_refl _⟩ ?_
  show Go l G mX9_trace _ 0 [(0, .ref (G.2.1 + 0)), (1, .int x1)] [] 42 90324 (wl G.2.1 (LF G))
  refine go_iload_n (pc := 0) dX9_trace_0 rfl rfl ?_
  refine go_if_lt_f (pc := 1) (tgt := 10) dX9_trace_1 (by decide) c0 ?_
  refine go_iload_n (pc := 4) dX9_trace_4 rfl rfl ?_
  refine go_bipush (pc := 5) (v := 14) dX9_trace_5 (by decide) ?_
  refine go_icmp_lt_f (pc := 7) (tgt := 15) dX9_trace_7 (by decide) c1 ?_
  refine go_bipush (pc := 10) (v := (-101)) dX9_trace_10 (by decide) ?_
  refine go_goto (pc := 12) (tgt := 21) dX9_trace_12 (by decide) ?_
  exact go_iret (pc := 21) rfl dX9_trace_21
theorem cx_trace {l : Launch} {G : gG} (x1 : Int32) : CX l G mX9_trace [.ref (G.2.1 + 0), .int x1] ((if x1 < 0 then (-101) else (if x1 < 14 then 0 else (-101)))) := by
  by_cases c0 : x1 < 0
  · rw [if_pos c0]
    exact ⟨0, 0, 42, 90324, _, by decide, by decide, by decide, by decide, by decide, (by exact wl_frame rfl), cx_trace_t x1 c0⟩
  · rw [if_neg c0]
    by_cases c1 : x1 < 14
    · rw [if_pos c1]
      exact ⟨0, 0, 42, 90324, _, by decide, by decide, by decide, by decide, by decide, (by exact wl_frame rfl), cx_trace_ft x1 c0 c1⟩
    · rw [if_neg c1]
      exact ⟨0, 0, 42, 90324, _, by decide, by decide, by decide, by decide, by decide, (by exact wl_frame rfl), cx_trace_ff x1 c0 c1⟩
set_option maxRecDepth 100000 in
set_option maxHeartbeats 4000000 in
theorem cX4_restore_1 {l : Launch} {G : gG} : Ct l G mX4_restore 0 0 [.ref (G.2.1 + 14)] 42 90324 (wl G.2.1 (LF G)) (some (.int 0), 42, 90324, (wl G.2.1 (LF G))) := by
  refine Ct.of (by decide) (Nat.le_of_ble_eq_true rfl) ⟨Nat.le_refl _, Nat.le_refl _⟩ ?_
  show Go l G mX4_restore _ 0 [(0, .ref (G.2.1 + 14))] [] 42 90324 (wl G.2.1 (LF G))
  refine go_iconst (pc := 0) (v := 0) dX4_restore_0 (by decide) ?_
  refine go_istore_n (pc := 1) (lv' := [(1, .int 0), (0, .ref (G.2.1 + 14))]) dX4_restore_1 rfl (by decide) rfl ?_
  refine go_iconst (pc := 2) (v := 0) dX4_restore_2 (by decide) ?_
  refine go_istore_n (pc := 3) (lv' := [(2, .int 0), (1, .int 0), (0, .ref (G.2.1 + 14))]) dX4_restore_3 rfl (by decide) rfl ?_
  refine go_iload_n (pc := 4) dX4_restore_4 rfl rfl ?_
  refine go_aload_n (pc := 5) dX4_restore_5 rfl rfl ?_
  refine go_get (pc := 6) fX4_22 rfl (gz_b (by decide)) (wl_at (i := 14) rfl) rfl dX4_restore_6 ?_
  refine go_icmp_ge_t (pc := 9) (tgt := 48) dX4_restore_9 (by decide) (by decide) ?_
  refine go_iload_n (pc := 48) dX4_restore_48 rfl rfl ?_
  exact go_iret (pc := 49) rfl dX4_restore_49
set_option maxRecDepth 100000 in
set_option maxHeartbeats 4000000 in
theorem cx_plain_o {l : Launch} {G : gG} : Ct l G mX9_plain 1 22 [.ref (G.2.1 + 0)] 42 90324 (wl G.2.1 (LF G)) (some (.int 0), 42, 90324, (wl G.2.1 (LF G))) := by
  refine Ct.of (by decide) (Nat.le_of_ble_eq_true rfl) ⟨Nat.le_refl _, Nat.le_refl _⟩ ?_
  show Go l G mX9_plain _ 0 [(0, .ref (G.2.1 + 0))] [] 42 90324 (wl G.2.1 (LF G))
  refine go_aload_n (pc := 0) dX9_plain_0 rfl rfl ?_
  refine go_get (pc := 1) fX9_12 rfl (gz_b (by decide)) (wl_at (i := 0) rfl) rfl dX9_plain_1 ?_
  refine go_get (pc := 4) fX9_261 rfl (gz_b (by decide)) (wl_at (i := 1) rfl) rfl dX9_plain_4 ?_
  refine go_callV_i (pc := 7) vX9_273 rfl (cX4_restore_1) rfl rfl (gz_b (by decide)) (wl_at (i := 14) rfl) rfl (Nat.le_of_ble_eq_true rfl) ⟨Nat.le_of_ble_eq_true rfl, Nat.le_of_ble_eq_true rfl, (Nat.le_add_right _ _), (Nat.le_add_right _ _)⟩ dX9_plain_7 ?_
  exact go_iret (pc := 10) rfl dX9_plain_10
theorem cx_plain {l : Launch} {G : gG} : CX l G mX9_plain [.ref (G.2.1 + 0)] 0 := by
  exact ⟨1, 22, 42, 90324, _, by decide, by decide, by decide, by decide, by decide, (by exact wl_frame rfl), cx_plain_o⟩

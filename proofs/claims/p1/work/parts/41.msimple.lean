/-! public methods on the fresh world, laid by wip/tools/p1gen.py -/
set_option maxRecDepth 100000 in
set_option maxHeartbeats 4000000 in
theorem cX10_isMade_1 {l : Launch} {G : gG} (x1 : Int32) {n k : Nat} {w : Nat → va_E} (hn : 42 ≤ n) (hw : ∀ i, 32 ≤ i → i < 42 → w (G.2.1 + i) = wl G.2.1 (LF G) (G.2.1 + i)) : Ct l G mX10_isMade 1 25 [.ref (G.2.1 + 32), .int x1] n k w (some (.int 0), n, k, w) := by
  refine Ct.of (by decide) (Nat.le_of_ble_eq_true rfl) ⟨Nat.le_refl _, Nat.le_refl _⟩ ?_
  show Go l G mX10_isMade _ 0 [(0, .ref (G.2.1 + 32)), (1, .int x1)] [] n k w
  refine go_iload_n (pc := 0) dX10_isMade_0 rfl rfl ?_
  refine go_i2l (pc := 1) dX10_isMade_1 ?_
  refine go_lconst (pc := 2) (v := 0) dX10_isMade_2 (by decide) ?_
  refine go_aload_n (pc := 3) dX10_isMade_3 rfl rfl ?_
  refine go_get (pc := 4) fX10_9 rfl (gz_b (by omega)) ((hw 32 (by decide) (by decide)).trans (wl_at (i := 32) rfl)) rfl dX10_isMade_4 ?_
  refine go_iconst (pc := 7) (v := 1) dX10_isMade_7 (by decide) ?_
  refine go_iald (pc := 8) (gz_b (by omega)) ((hw 33 (by decide) (by decide)).trans (wl_at (i := 33) rfl)) (gv_in (by decide)) dX10_isMade_8 ?_
  refine go_top (y := 0) rfl ?_
  refine go_iconst (pc := 9) (v := 1) dX10_isMade_9 (by decide) ?_
  refine go_isub (pc := 10) dX10_isMade_10 ?_
  refine go_top (y := (-1)) (by decide) ?_
  refine go_i2l (pc := 11) dX10_isMade_11 ?_
  refine go_topl (y := (-1)) (by decide) ?_
  refine go_callS_i (pc := 12) sX10_63 rfl (ct_in x1.toInt64 0 ((-1))) rfl rfl (Nat.le_of_ble_eq_true rfl) ⟨Nat.le_of_ble_eq_true rfl, Nat.le_of_ble_eq_true rfl, (Nat.le_add_right _ _), (Nat.le_add_right _ _)⟩ dX10_isMade_12 ?_
  refine go_top (y := 0) (gi_no (by decide)) ?_
  exact go_zret (pc := 15) rfl rfl dX10_isMade_15
set_option maxRecDepth 100000 in
set_option maxHeartbeats 4000000 in
theorem cm_kind_o {l : Launch} {G : gG} (x1 : Int32) {n k : Nat} {w : Nat → va_E} (hn : 42 ≤ n) (hw : ∀ i, 32 ≤ i → i < 42 → w (G.2.1 + i) = wl G.2.1 (LF G) (G.2.1 + i)) : Ct l G mX10_kind 2 46 [.ref (G.2.1 + 32), .int x1] n k w (some (.int ((-101))), n, k, w) := by
  refine Ct.of (by decide) (Nat.le_of_ble_eq_true rfl) ⟨Nat.le_refl _, Nat.le_refl _⟩ ?_
  show Go l G mX10_kind _ 0 [(0, .ref (G.2.1 + 32)), (1, .int x1)] [] n k w
  refine go_aload_n (pc := 0) dX10_kind_0 rfl rfl ?_
  refine go_iload_n (pc := 1) dX10_kind_1 rfl rfl ?_
  refine go_callV_i (pc := 2) vX10_67 rfl (cX10_isMade_1 x1 hn hw) rfl rfl (gz_b (by omega)) ((hw 32 (by decide) (by decide)).trans (wl_at (i := 32) rfl)) rfl (Nat.le_of_ble_eq_true rfl) ⟨Nat.le_of_ble_eq_true rfl, Nat.le_of_ble_eq_true rfl, (Nat.le_add_right _ _), (Nat.le_add_right _ _)⟩ dX10_kind_2 ?_
  refine go_if_ne_f (pc := 5) (tgt := 13) dX10_kind_5 (by decide) (by decide) ?_
  refine go_bipush (pc := 8) (v := (-101)) dX10_kind_8 (by decide) ?_
  refine go_goto (pc := 10) (tgt := 38) dX10_kind_10 (by decide) ?_
  exact go_iret (pc := 38) rfl dX10_kind_38
theorem cm_kind {l : Launch} {G : gG} (x1 : Int32) : CM l G mX10_kind [.ref (G.2.1 + 32), .int x1] ((-101)) := by
  intro n k w hn hw
  exact ⟨2, 46, _, by decide, by decide, cm_kind_o x1 hn hw⟩
set_option maxRecDepth 100000 in
set_option maxHeartbeats 4000000 in
theorem cm_place_o {l : Launch} {G : gG} (x1 : Int32) {n k : Nat} {w : Nat → va_E} (hn : 42 ≤ n) (hw : ∀ i, 32 ≤ i → i < 42 → w (G.2.1 + i) = wl G.2.1 (LF G) (G.2.1 + i)) : Ct l G mX10_place 2 46 [.ref (G.2.1 + 32), .int x1] n k w (some (.int ((-101))), n, k, w) := by
  refine Ct.of (by decide) (Nat.le_of_ble_eq_true rfl) ⟨Nat.le_refl _, Nat.le_refl _⟩ ?_
  show Go l G mX10_place _ 0 [(0, .ref (G.2.1 + 32)), (1, .int x1)] [] n k w
  refine go_aload_n (pc := 0) dX10_place_0 rfl rfl ?_
  refine go_iload_n (pc := 1) dX10_place_1 rfl rfl ?_
  refine go_callV_i (pc := 2) vX10_67 rfl (cX10_isMade_1 x1 hn hw) rfl rfl (gz_b (by omega)) ((hw 32 (by decide) (by decide)).trans (wl_at (i := 32) rfl)) rfl (Nat.le_of_ble_eq_true rfl) ⟨Nat.le_of_ble_eq_true rfl, Nat.le_of_ble_eq_true rfl, (Nat.le_add_right _ _), (Nat.le_add_right _ _)⟩ dX10_place_2 ?_
  refine go_if_ne_f (pc := 5) (tgt := 13) dX10_place_5 (by decide) (by decide) ?_
  refine go_bipush (pc := 8) (v := (-101)) dX10_place_8 (by decide) ?_
  refine go_goto (pc := 10) (tgt := 38) dX10_place_10 (by decide) ?_
  exact go_iret (pc := 38) rfl dX10_place_38
theorem cm_place {l : Launch} {G : gG} (x1 : Int32) : CM l G mX10_place [.ref (G.2.1 + 32), .int x1] ((-101)) := by
  intro n k w hn hw
  exact ⟨2, 46, _, by decide, by decide, cm_place_o x1 hn hw⟩
set_option maxRecDepth 100000 in
set_option maxHeartbeats 4000000 in
theorem cm_measure_o {l : Launch} {G : gG} (x1 : Int32) {n k : Nat} {w : Nat → va_E} (hn : 42 ≤ n) (hw : ∀ i, 32 ≤ i → i < 42 → w (G.2.1 + i) = wl G.2.1 (LF G) (G.2.1 + i)) : Ct l G mX10_measure 2 46 [.ref (G.2.1 + 32), .int x1] n k w (some (.int ((-101))), n, k, w) := by
  refine Ct.of (by decide) (Nat.le_of_ble_eq_true rfl) ⟨Nat.le_refl _, Nat.le_refl _⟩ ?_
  show Go l G mX10_measure _ 0 [(0, .ref (G.2.1 + 32)), (1, .int x1)] [] n k w
  refine go_aload_n (pc := 0) dX10_measure_0 rfl rfl ?_
  refine go_iload_n (pc := 1) dX10_measure_1 rfl rfl ?_
  refine go_callV_i (pc := 2) vX10_67 rfl (cX10_isMade_1 x1 hn hw) rfl rfl (gz_b (by omega)) ((hw 32 (by decide) (by decide)).trans (wl_at (i := 32) rfl)) rfl (Nat.le_of_ble_eq_true rfl) ⟨Nat.le_of_ble_eq_true rfl, Nat.le_of_ble_eq_true rfl, (Nat.le_add_right _ _), (Nat.le_add_right _ _)⟩ dX10_measure_2 ?_
  refine go_if_ne_f (pc := 5) (tgt := 11) dX10_measure_5 (by decide) (by decide) ?_
  refine go_bipush (pc := 8) (v := (-101)) dX10_measure_8 (by decide) ?_
  exact go_iret (pc := 10) rfl dX10_measure_10
theorem cm_measure {l : Launch} {G : gG} (x1 : Int32) : CM l G mX10_measure [.ref (G.2.1 + 32), .int x1] ((-101)) := by
  intro n k w hn hw
  exact ⟨2, 46, _, by decide, by decide, cm_measure_o x1 hn hw⟩
set_option maxRecDepth 100000 in
set_option maxHeartbeats 4000000 in
theorem cm_links_o {l : Launch} {G : gG} (x1 : Int32) {n k : Nat} {w : Nat → va_E} (hn : 42 ≤ n) (hw : ∀ i, 32 ≤ i → i < 42 → w (G.2.1 + i) = wl G.2.1 (LF G) (G.2.1 + i)) : Ct l G mX10_links 2 46 [.ref (G.2.1 + 32), .int x1] n k w (some (.int ((-101))), n, k, w) := by
  refine Ct.of (by decide) (Nat.le_of_ble_eq_true rfl) ⟨Nat.le_refl _, Nat.le_refl _⟩ ?_
  show Go l G mX10_links _ 0 [(0, .ref (G.2.1 + 32)), (1, .int x1)] [] n k w
  refine go_aload_n (pc := 0) dX10_links_0 rfl rfl ?_
  refine go_iload_n (pc := 1) dX10_links_1 rfl rfl ?_
  refine go_callV_i (pc := 2) vX10_67 rfl (cX10_isMade_1 x1 hn hw) rfl rfl (gz_b (by omega)) ((hw 32 (by decide) (by decide)).trans (wl_at (i := 32) rfl)) rfl (Nat.le_of_ble_eq_true rfl) ⟨Nat.le_of_ble_eq_true rfl, Nat.le_of_ble_eq_true rfl, (Nat.le_add_right _ _), (Nat.le_add_right _ _)⟩ dX10_links_2 ?_
  refine go_if_ne_f (pc := 5) (tgt := 11) dX10_links_5 (by decide) (by decide) ?_
  refine go_bipush (pc := 8) (v := (-101)) dX10_links_8 (by decide) ?_
  exact go_iret (pc := 10) rfl dX10_links_10
theorem cm_links {l : Launch} {G : gG} (x1 : Int32) : CM l G mX10_links [.ref (G.2.1 + 32), .int x1] ((-101)) := by
  intro n k w hn hw
  exact ⟨2, 46, _, by decide, by decide, cm_links_o x1 hn hw⟩
set_option maxRecDepth 100000 in
set_option maxHeartbeats 4000000 in
theorem cm_link_o {l : Launch} {G : gG} (x1 : Int32) (x2 : Int32) (x3 : Int32) {n k : Nat} {w : Nat → va_E} (hn : 42 ≤ n) (hw : ∀ i, 32 ≤ i → i < 42 → w (G.2.1 + i) = wl G.2.1 (LF G) (G.2.1 + i)) : Ct l G mX10_link 2 46 [.ref (G.2.1 + 32), .int x1, .int x2, .int x3] n k w (some (.int ((-101))), n, k, w) := by
  refine Ct.of (by decide) (Nat.le_of_ble_eq_true rfl) ⟨Nat.le_refl _, Nat.le_refl _⟩ ?_
  show Go l G mX10_link _ 0 [(0, .ref (G.2.1 + 32)), (1, .int x1), (2, .int x2), (3, .int x3)] [] n k w
  refine go_aload_n (pc := 0) dX10_link_0 rfl rfl ?_
  refine go_iload_n (pc := 1) dX10_link_1 rfl rfl ?_
  refine go_callV_i (pc := 2) vX10_67 rfl (cX10_isMade_1 x1 hn hw) rfl rfl (gz_b (by omega)) ((hw 32 (by decide) (by decide)).trans (wl_at (i := 32) rfl)) rfl (Nat.le_of_ble_eq_true rfl) ⟨Nat.le_of_ble_eq_true rfl, Nat.le_of_ble_eq_true rfl, (Nat.le_add_right _ _), (Nat.le_add_right _ _)⟩ dX10_link_2 ?_
  refine go_if_eq_t (pc := 5) (tgt := 16) dX10_link_5 (by decide) (by decide) ?_
  refine go_bipush (pc := 16) (v := (-101)) dX10_link_16 (by decide) ?_
  refine go_goto (pc := 18) (tgt := 32) dX10_link_18 (by decide) ?_
  exact go_iret (pc := 32) rfl dX10_link_32
theorem cm_link {l : Launch} {G : gG} (x1 : Int32) (x2 : Int32) (x3 : Int32) : CM l G mX10_link [.ref (G.2.1 + 32), .int x1, .int x2, .int x3] ((-101)) := by
  intro n k w hn hw
  exact ⟨2, 46, _, by decide, by decide, cm_link_o x1 x2 x3 hn hw⟩
set_option maxRecDepth 100000 in
set_option maxHeartbeats 4000000 in
theorem cm_get_o {l : Launch} {G : gG} (x1 : Int32) (x2 : Int32) {n k : Nat} {w : Nat → va_E} (hn : 42 ≤ n) (hw : ∀ i, 32 ≤ i → i < 42 → w (G.2.1 + i) = wl G.2.1 (LF G) (G.2.1 + i)) : Ct l G mX10_get 2 46 [.ref (G.2.1 + 32), .int x1, .int x2] n k w (some (.int ((-101))), n, k, w) := by
  refine Ct.of (by decide) (Nat.le_of_ble_eq_true rfl) ⟨Nat.le_refl _, Nat.le_refl _⟩ ?_
  show Go l G mX10_get _ 0 [(0, .ref (G.2.1 + 32)), (1, .int x1), (2, .int x2)] [] n k w
  refine go_aload_n (pc := 0) dX10_get_0 rfl rfl ?_
  refine go_iload_n (pc := 1) dX10_get_1 rfl rfl ?_
  refine go_callV_i (pc := 2) vX10_67 rfl (cX10_isMade_1 x1 hn hw) rfl rfl (gz_b (by omega)) ((hw 32 (by decide) (by decide)).trans (wl_at (i := 32) rfl)) rfl (Nat.le_of_ble_eq_true rfl) ⟨Nat.le_of_ble_eq_true rfl, Nat.le_of_ble_eq_true rfl, (Nat.le_add_right _ _), (Nat.le_add_right _ _)⟩ dX10_get_2 ?_
  refine go_if_ne_f (pc := 5) (tgt := 13) dX10_get_5 (by decide) (by decide) ?_
  refine go_bipush (pc := 8) (v := (-101)) dX10_get_8 (by decide) ?_
  refine go_goto (pc := 10) (tgt := 23) dX10_get_10 (by decide) ?_
  exact go_iret (pc := 23) rfl dX10_get_23
theorem cm_get {l : Launch} {G : gG} (x1 : Int32) (x2 : Int32) : CM l G mX10_get [.ref (G.2.1 + 32), .int x1, .int x2] ((-101)) := by
  intro n k w hn hw
  exact ⟨2, 46, _, by decide, by decide, cm_get_o x1 x2 hn hw⟩
set_option maxRecDepth 100000 in
set_option maxHeartbeats 4000000 in
theorem cm_weaken_o {l : Launch} {G : gG} (x1 : Int32) (x2 : Int32) {n k : Nat} {w : Nat → va_E} (hn : 42 ≤ n) (hw : ∀ i, 32 ≤ i → i < 42 → w (G.2.1 + i) = wl G.2.1 (LF G) (G.2.1 + i)) : Ct l G mX10_weaken 2 46 [.ref (G.2.1 + 32), .int x1, .int x2] n k w (some (.int ((-101))), n, k, w) := by
  refine Ct.of (by decide) (Nat.le_of_ble_eq_true rfl) ⟨Nat.le_refl _, Nat.le_refl _⟩ ?_
  show Go l G mX10_weaken _ 0 [(0, .ref (G.2.1 + 32)), (1, .int x1), (2, .int x2)] [] n k w
  refine go_aload_n (pc := 0) dX10_weaken_0 rfl rfl ?_
  refine go_iload_n (pc := 1) dX10_weaken_1 rfl rfl ?_
  refine go_callV_i (pc := 2) vX10_67 rfl (cX10_isMade_1 x1 hn hw) rfl rfl (gz_b (by omega)) ((hw 32 (by decide) (by decide)).trans (wl_at (i := 32) rfl)) rfl (Nat.le_of_ble_eq_true rfl) ⟨Nat.le_of_ble_eq_true rfl, Nat.le_of_ble_eq_true rfl, (Nat.le_add_right _ _), (Nat.le_add_right _ _)⟩ dX10_weaken_2 ?_
  refine go_if_eq_t (pc := 5) (tgt := 16) dX10_weaken_5 (by decide) (by decide) ?_
  refine go_bipush (pc := 16) (v := (-101)) dX10_weaken_16 (by decide) ?_
  refine go_goto (pc := 18) (tgt := 31) dX10_weaken_18 (by decide) ?_
  exact go_iret (pc := 31) rfl dX10_weaken_31
theorem cm_weaken {l : Launch} {G : gG} (x1 : Int32) (x2 : Int32) : CM l G mX10_weaken [.ref (G.2.1 + 32), .int x1, .int x2] ((-101)) := by
  intro n k w hn hw
  exact ⟨2, 46, _, by decide, by decide, cm_weaken_o x1 x2 hn hw⟩
set_option maxRecDepth 100000 in
set_option maxHeartbeats 4000000 in
theorem cm_look_o {l : Launch} {G : gG} (x1 : Int32) {n k : Nat} {w : Nat → va_E} (hn : 42 ≤ n) (hw : ∀ i, 32 ≤ i → i < 42 → w (G.2.1 + i) = wl G.2.1 (LF G) (G.2.1 + i)) : Ct l G mX10_look 2 46 [.ref (G.2.1 + 32), .int x1] n k w (some (.int ((-101))), n, k, w) := by
  refine Ct.of (by decide) (Nat.le_of_ble_eq_true rfl) ⟨Nat.le_refl _, Nat.le_refl _⟩ ?_
  show Go l G mX10_look _ 0 [(0, .ref (G.2.1 + 32)), (1, .int x1)] [] n k w
  refine go_aload_n (pc := 0) dX10_look_0 rfl rfl ?_
  refine go_iload_n (pc := 1) dX10_look_1 rfl rfl ?_
  refine go_callV_i (pc := 2) vX10_67 rfl (cX10_isMade_1 x1 hn hw) rfl rfl (gz_b (by omega)) ((hw 32 (by decide) (by decide)).trans (wl_at (i := 32) rfl)) rfl (Nat.le_of_ble_eq_true rfl) ⟨Nat.le_of_ble_eq_true rfl, Nat.le_of_ble_eq_true rfl, (Nat.le_add_right _ _), (Nat.le_add_right _ _)⟩ dX10_look_2 ?_
  refine go_if_ne_f (pc := 5) (tgt := 13) dX10_look_5 (by decide) (by decide) ?_
  refine go_bipush (pc := 8) (v := (-101)) dX10_look_8 (by decide) ?_
  refine go_goto (pc := 10) (tgt := 22) dX10_look_10 (by decide) ?_
  exact go_iret (pc := 22) rfl dX10_look_22
theorem cm_look {l : Launch} {G : gG} (x1 : Int32) : CM l G mX10_look [.ref (G.2.1 + 32), .int x1] ((-101)) := by
  intro n k w hn hw
  exact ⟨2, 46, _, by decide, by decide, cm_look_o x1 hn hw⟩
set_option maxRecDepth 100000 in
set_option maxHeartbeats 4000000 in
theorem cm_number_o {l : Launch} {G : gG} (x1 : Int32) (x2 : Int32) {n k : Nat} {w : Nat → va_E} (hn : 42 ≤ n) (hw : ∀ i, 32 ≤ i → i < 42 → w (G.2.1 + i) = wl G.2.1 (LF G) (G.2.1 + i)) : Ct l G mX10_number 2 46 [.ref (G.2.1 + 32), .int x1, .int x2] n k w (some (.int ((-101))), n, k, w) := by
  refine Ct.of (by decide) (Nat.le_of_ble_eq_true rfl) ⟨Nat.le_refl _, Nat.le_refl _⟩ ?_
  show Go l G mX10_number _ 0 [(0, .ref (G.2.1 + 32)), (1, .int x1), (2, .int x2)] [] n k w
  refine go_aload_n (pc := 0) dX10_number_0 rfl rfl ?_
  refine go_iload_n (pc := 1) dX10_number_1 rfl rfl ?_
  refine go_callV_i (pc := 2) vX10_67 rfl (cX10_isMade_1 x1 hn hw) rfl rfl (gz_b (by omega)) ((hw 32 (by decide) (by decide)).trans (wl_at (i := 32) rfl)) rfl (Nat.le_of_ble_eq_true rfl) ⟨Nat.le_of_ble_eq_true rfl, Nat.le_of_ble_eq_true rfl, (Nat.le_add_right _ _), (Nat.le_add_right _ _)⟩ dX10_number_2 ?_
  refine go_if_ne_f (pc := 5) (tgt := 11) dX10_number_5 (by decide) (by decide) ?_
  refine go_bipush (pc := 8) (v := (-101)) dX10_number_8 (by decide) ?_
  exact go_iret (pc := 10) rfl dX10_number_10
theorem cm_number {l : Launch} {G : gG} (x1 : Int32) (x2 : Int32) : CM l G mX10_number [.ref (G.2.1 + 32), .int x1, .int x2] ((-101)) := by
  intro n k w hn hw
  exact ⟨2, 46, _, by decide, by decide, cm_number_o x1 x2 hn hw⟩
set_option maxRecDepth 100000 in
set_option maxHeartbeats 4000000 in
theorem cm_put_o {l : Launch} {G : gG} (x1 : Int32) (x2 : Int32) (x3 : Int32) {n k : Nat} {w : Nat → va_E} (hn : 42 ≤ n) (hw : ∀ i, 32 ≤ i → i < 42 → w (G.2.1 + i) = wl G.2.1 (LF G) (G.2.1 + i)) : Ct l G mX10_put 2 46 [.ref (G.2.1 + 32), .int x1, .int x2, .int x3] n k w (some (.int ((-101))), n, k, w) := by
  refine Ct.of (by decide) (Nat.le_of_ble_eq_true rfl) ⟨Nat.le_refl _, Nat.le_refl _⟩ ?_
  show Go l G mX10_put _ 0 [(0, .ref (G.2.1 + 32)), (1, .int x1), (2, .int x2), (3, .int x3)] [] n k w
  refine go_aload_n (pc := 0) dX10_put_0 rfl rfl ?_
  refine go_iload_n (pc := 1) dX10_put_1 rfl rfl ?_
  refine go_callV_i (pc := 2) vX10_67 rfl (cX10_isMade_1 x1 hn hw) rfl rfl (gz_b (by omega)) ((hw 32 (by decide) (by decide)).trans (wl_at (i := 32) rfl)) rfl (Nat.le_of_ble_eq_true rfl) ⟨Nat.le_of_ble_eq_true rfl, Nat.le_of_ble_eq_true rfl, (Nat.le_add_right _ _), (Nat.le_add_right _ _)⟩ dX10_put_2 ?_
  refine go_if_ne_f (pc := 5) (tgt := 13) dX10_put_5 (by decide) (by decide) ?_
  refine go_bipush (pc := 8) (v := (-101)) dX10_put_8 (by decide) ?_
  refine go_goto (pc := 10) (tgt := 24) dX10_put_10 (by decide) ?_
  exact go_iret (pc := 24) rfl dX10_put_24
theorem cm_put {l : Launch} {G : gG} (x1 : Int32) (x2 : Int32) (x3 : Int32) : CM l G mX10_put [.ref (G.2.1 + 32), .int x1, .int x2, .int x3] ((-101)) := by
  intro n k w hn hw
  exact ⟨2, 46, _, by decide, by decide, cm_put_o x1 x2 x3 hn hw⟩
set_option maxRecDepth 100000 in
set_option maxHeartbeats 4000000 in
theorem cm_byteAt_o {l : Launch} {G : gG} (x1 : Int32) (x2 : Int32) {n k : Nat} {w : Nat → va_E} (hn : 42 ≤ n) (hw : ∀ i, 32 ≤ i → i < 42 → w (G.2.1 + i) = wl G.2.1 (LF G) (G.2.1 + i)) : Ct l G mX10_byteAt 2 46 [.ref (G.2.1 + 32), .int x1, .int x2] n k w (some (.int ((-101))), n, k, w) := by
  refine Ct.of (by decide) (Nat.le_of_ble_eq_true rfl) ⟨Nat.le_refl _, Nat.le_refl _⟩ ?_
  show Go l G mX10_byteAt _ 0 [(0, .ref (G.2.1 + 32)), (1, .int x1), (2, .int x2)] [] n k w
  refine go_aload_n (pc := 0) dX10_byteAt_0 rfl rfl ?_
  refine go_iload_n (pc := 1) dX10_byteAt_1 rfl rfl ?_
  refine go_callV_i (pc := 2) vX10_67 rfl (cX10_isMade_1 x1 hn hw) rfl rfl (gz_b (by omega)) ((hw 32 (by decide) (by decide)).trans (wl_at (i := 32) rfl)) rfl (Nat.le_of_ble_eq_true rfl) ⟨Nat.le_of_ble_eq_true rfl, Nat.le_of_ble_eq_true rfl, (Nat.le_add_right _ _), (Nat.le_add_right _ _)⟩ dX10_byteAt_2 ?_
  refine go_if_ne_f (pc := 5) (tgt := 11) dX10_byteAt_5 (by decide) (by decide) ?_
  refine go_bipush (pc := 8) (v := (-101)) dX10_byteAt_8 (by decide) ?_
  exact go_iret (pc := 10) rfl dX10_byteAt_10
theorem cm_byteAt {l : Launch} {G : gG} (x1 : Int32) (x2 : Int32) : CM l G mX10_byteAt [.ref (G.2.1 + 32), .int x1, .int x2] ((-101)) := by
  intro n k w hn hw
  exact ⟨2, 46, _, by decide, by decide, cm_byteAt_o x1 x2 hn hw⟩
set_option maxRecDepth 100000 in
set_option maxHeartbeats 4000000 in
theorem cm_key_o {l : Launch} {G : gG} (x1 : Int32) (x2 : Int32) (x3 : Int32) {n k : Nat} {w : Nat → va_E} (hn : 42 ≤ n) (hw : ∀ i, 32 ≤ i → i < 42 → w (G.2.1 + i) = wl G.2.1 (LF G) (G.2.1 + i)) : Ct l G mX10_key 2 46 [.ref (G.2.1 + 32), .int x1, .int x2, .int x3] n k w (some (.int ((-101))), n, k, w) := by
  refine Ct.of (by decide) (Nat.le_of_ble_eq_true rfl) ⟨Nat.le_refl _, Nat.le_refl _⟩ ?_
  show Go l G mX10_key _ 0 [(0, .ref (G.2.1 + 32)), (1, .int x1), (2, .int x2), (3, .int x3)] [] n k w
  refine go_aload_n (pc := 0) dX10_key_0 rfl rfl ?_
  refine go_iload_n (pc := 1) dX10_key_1 rfl rfl ?_
  refine go_callV_i (pc := 2) vX10_67 rfl (cX10_isMade_1 x1 hn hw) rfl rfl (gz_b (by omega)) ((hw 32 (by decide) (by decide)).trans (wl_at (i := 32) rfl)) rfl (Nat.le_of_ble_eq_true rfl) ⟨Nat.le_of_ble_eq_true rfl, Nat.le_of_ble_eq_true rfl, (Nat.le_add_right _ _), (Nat.le_add_right _ _)⟩ dX10_key_2 ?_
  refine go_if_ne_f (pc := 5) (tgt := 11) dX10_key_5 (by decide) (by decide) ?_
  refine go_bipush (pc := 8) (v := (-101)) dX10_key_8 (by decide) ?_
  exact go_iret (pc := 10) rfl dX10_key_10
theorem cm_key {l : Launch} {G : gG} (x1 : Int32) (x2 : Int32) (x3 : Int32) : CM l G mX10_key [.ref (G.2.1 + 32), .int x1, .int x2, .int x3] ((-101)) := by
  intro n k w hn hw
  exact ⟨2, 46, _, by decide, by decide, cm_key_o x1 x2 x3 hn hw⟩
set_option maxRecDepth 100000 in
set_option maxHeartbeats 4000000 in
theorem cm_find_o {l : Launch} {G : gG} (x1 : Int32) (x2 : Int32) {n k : Nat} {w : Nat → va_E} (hn : 42 ≤ n) (hw : ∀ i, 32 ≤ i → i < 42 → w (G.2.1 + i) = wl G.2.1 (LF G) (G.2.1 + i)) : Ct l G mX10_find 2 46 [.ref (G.2.1 + 32), .int x1, .int x2] n k w (some (.int ((-101))), n, k, w) := by
  refine Ct.of (by decide) (Nat.le_of_ble_eq_true rfl) ⟨Nat.le_refl _, Nat.le_refl _⟩ ?_
  show Go l G mX10_find _ 0 [(0, .ref (G.2.1 + 32)), (1, .int x1), (2, .int x2)] [] n k w
  refine go_aload_n (pc := 0) dX10_find_0 rfl rfl ?_
  refine go_iload_n (pc := 1) dX10_find_1 rfl rfl ?_
  refine go_callV_i (pc := 2) vX10_67 rfl (cX10_isMade_1 x1 hn hw) rfl rfl (gz_b (by omega)) ((hw 32 (by decide) (by decide)).trans (wl_at (i := 32) rfl)) rfl (Nat.le_of_ble_eq_true rfl) ⟨Nat.le_of_ble_eq_true rfl, Nat.le_of_ble_eq_true rfl, (Nat.le_add_right _ _), (Nat.le_add_right _ _)⟩ dX10_find_2 ?_
  refine go_if_ne_f (pc := 5) (tgt := 11) dX10_find_5 (by decide) (by decide) ?_
  refine go_bipush (pc := 8) (v := (-101)) dX10_find_8 (by decide) ?_
  exact go_iret (pc := 10) rfl dX10_find_10
theorem cm_find {l : Launch} {G : gG} (x1 : Int32) (x2 : Int32) : CM l G mX10_find [.ref (G.2.1 + 32), .int x1, .int x2] ((-101)) := by
  intro n k w hn hw
  exact ⟨2, 46, _, by decide, by decide, cm_find_o x1 x2 hn hw⟩
set_option maxRecDepth 100000 in
set_option maxHeartbeats 4000000 in
theorem cX10_isRoot_1 {l : Launch} {G : gG} (x1 : Int32) {n k : Nat} {w : Nat → va_E} (hn : 42 ≤ n) (hw : ∀ i, 32 ≤ i → i < 42 → w (G.2.1 + i) = wl G.2.1 (LF G) (G.2.1 + i)) : Ct l G mX10_isRoot 1 25 [.int x1] n k w (some (.int ((if 0 ≤ x1 ∧ x1 ≤ 23 then (1 : Int32) else 0))), n, k, w) := by
  refine Ct.of (by decide) (Nat.le_of_ble_eq_true rfl) ⟨Nat.le_refl _, Nat.le_refl _⟩ ?_
  show Go l G mX10_isRoot _ 0 [(0, .int x1)] [] n k w
  refine go_iload_n (pc := 0) dX10_isRoot_0 rfl rfl ?_
  refine go_i2l (pc := 1) dX10_isRoot_1 ?_
  refine go_lconst (pc := 2) (v := 0) dX10_isRoot_2 (by decide) ?_
  refine go_ldc2 (pc := 3) rfl qX10_198 dX10_isRoot_3 ?_
  refine go_callS_i (pc := 6) sX10_63 rfl (ct_in x1.toInt64 0 23) rfl rfl (Nat.le_of_ble_eq_true rfl) ⟨Nat.le_of_ble_eq_true rfl, Nat.le_of_ble_eq_true rfl, (Nat.le_add_right _ _), (Nat.le_add_right _ _)⟩ dX10_isRoot_6 ?_
  refine go_top (y := (if 0 ≤ x1 ∧ x1 ≤ 23 then (1 : Int32) else 0)) (gi_in (by decide) (by decide)) ?_
  exact go_zret (pc := 9) rfl (gz_nb _) dX10_isRoot_9
set_option maxRecDepth 100000 in
set_option maxHeartbeats 4000000 in
theorem cm_rootOf_t {l : Launch} {G : gG} (x1 : Int32) (c0 : (if 0 ≤ x1 ∧ x1 ≤ 23 then (1 : Int32) else 0) = 0) {n k : Nat} {w : Nat → va_E} (hn : 42 ≤ n) (hw : ∀ i, 32 ≤ i → i < 42 → w (G.2.1 + i) = wl G.2.1 (LF G) (G.2.1 + i)) : Ct l G mX10_rootOf 2 45 [.ref (G.2.1 + 32), .int x1] n k w (some (.int ((-101))), n, k, w) := by
  refine Ct.of (by decide) (Nat.le_of_ble_eq_true rfl) ⟨Nat.le_refl _, Nat.le_refl _⟩ ?_
  show Go l G mX10_rootOf _ 0 [(0, .ref (G.2.1 + 32)), (1, .int x1)] [] n k w
  refine go_iload_n (pc := 0) dX10_rootOf_0 rfl rfl ?_
  refine go_callS_i (pc := 1) sX10_200 rfl (cX10_isRoot_1 x1 hn hw) rfl rfl (Nat.le_of_ble_eq_true rfl) ⟨Nat.le_of_ble_eq_true rfl, Nat.le_of_ble_eq_true rfl, (Nat.le_add_right _ _), (Nat.le_add_right _ _)⟩ dX10_rootOf_1 ?_
  refine go_if_eq_t (pc := 4) (tgt := 19) dX10_rootOf_4 (by decide) c0 ?_
  refine go_bipush (pc := 19) (v := (-101)) dX10_rootOf_19 (by decide) ?_
  exact go_iret (pc := 21) rfl dX10_rootOf_21
set_option maxRecDepth 100000 in
set_option maxHeartbeats 4000000 in
theorem cm_rootOf_f {l : Launch} {G : gG} (x1 : Int32) (c0 : ¬ (if 0 ≤ x1 ∧ x1 ≤ 23 then (1 : Int32) else 0) = 0) {n k : Nat} {w : Nat → va_E} (hn : 42 ≤ n) (hw : ∀ i, 32 ≤ i → i < 42 → w (G.2.1 + i) = wl G.2.1 (LF G) (G.2.1 + i)) : Ct l G mX10_rootOf 2 45 [.ref (G.2.1 + 32), .int x1] n k w (some (.int ((-1))), n, k, w) := by
  refine Ct.of (by decide) (Nat.le_of_ble_eq_true rfl) ⟨Nat.le_refl _, Nat.le_refl _⟩ ?_
  show Go l G mX10_rootOf _ 0 [(0, .ref (G.2.1 + 32)), (1, .int x1)] [] n k w
  refine go_iload_n (pc := 0) dX10_rootOf_0 rfl rfl ?_
  refine go_callS_i (pc := 1) sX10_200 rfl (cX10_isRoot_1 x1 hn hw) rfl rfl (Nat.le_of_ble_eq_true rfl) ⟨Nat.le_of_ble_eq_true rfl, Nat.le_of_ble_eq_true rfl, (Nat.le_add_right _ _), (Nat.le_add_right _ _)⟩ dX10_rootOf_1 ?_
  refine go_if_eq_f (pc := 4) (tgt := 19) dX10_rootOf_4 (by decide) c0 ?_
  refine go_aload_n (pc := 7) dX10_rootOf_7 rfl rfl ?_
  refine go_get (pc := 8) fX10_9 rfl (gz_b (by omega)) ((hw 32 (by decide) (by decide)).trans (wl_at (i := 32) rfl)) rfl dX10_rootOf_8 ?_
  refine go_bipush (pc := 11) (v := 20) dX10_rootOf_11 (by decide) ?_
  refine go_iload_n (pc := 13) dX10_rootOf_13 rfl rfl ?_
  refine go_iadd (pc := 14) dX10_rootOf_14 ?_
  refine go_iald (pc := 15) (gz_b (by omega)) ((hw 33 (by decide) (by decide)).trans (wl_at (i := 33) rfl)) (gv_s (o := 20) (B := 23) (by decide) (gi_of c0) (by decide) (by decide) (by decide)) dX10_rootOf_15 ?_
  refine go_top (y := (-1)) (sx_neg (o := 20) (B := 23) (by decide) (gi_of c0) (by decide) (by decide) (by decide)) ?_
  refine go_goto (pc := 16) (tgt := 21) dX10_rootOf_16 (by decide) ?_
  exact go_iret (pc := 21) rfl dX10_rootOf_21
theorem cm_rootOf {l : Launch} {G : gG} (x1 : Int32) : CM l G mX10_rootOf [.ref (G.2.1 + 32), .int x1] ((if (if 0 ≤ x1 ∧ x1 ≤ 23 then (1 : Int32) else 0) = 0 then (-101) else (-1))) := by
  intro n k w hn hw
  by_cases c0 : (if 0 ≤ x1 ∧ x1 ≤ 23 then (1 : Int32) else 0) = 0
  · rw [if_pos c0]
    exact ⟨2, 45, _, by decide, by decide, cm_rootOf_t x1 c0 hn hw⟩
  · rw [if_neg c0]
    exact ⟨2, 45, _, by decide, by decide, cm_rootOf_f x1 c0 hn hw⟩
set_option maxRecDepth 100000 in
set_option maxHeartbeats 4000000 in
theorem cm_copy_o {l : Launch} {G : gG} (x1 : Int32) (x2 : Int32) (x3 : Int32) (x4 : Int32) (x5 : Int32) {n k : Nat} {w : Nat → va_E} (hn : 42 ≤ n) (hw : ∀ i, 32 ≤ i → i < 42 → w (G.2.1 + i) = wl G.2.1 (LF G) (G.2.1 + i)) : Ct l G mX10_copy 2 46 [.ref (G.2.1 + 32), .int x1, .int x2, .int x3, .int x4, .int x5] n k w (some (.int ((-101))), n, k, w) := by
  refine Ct.of (by decide) (Nat.le_of_ble_eq_true rfl) ⟨Nat.le_refl _, Nat.le_refl _⟩ ?_
  show Go l G mX10_copy _ 0 [(0, .ref (G.2.1 + 32)), (1, .int x1), (2, .int x2), (3, .int x3), (4, .int x4), (5, .int x5)] [] n k w
  refine go_aload_n (pc := 0) dX10_copy_0 rfl rfl ?_
  refine go_iload_n (pc := 1) dX10_copy_1 rfl rfl ?_
  refine go_callV_i (pc := 2) vX10_67 rfl (cX10_isMade_1 x1 hn hw) rfl rfl (gz_b (by omega)) ((hw 32 (by decide) (by decide)).trans (wl_at (i := 32) rfl)) rfl (Nat.le_of_ble_eq_true rfl) ⟨Nat.le_of_ble_eq_true rfl, Nat.le_of_ble_eq_true rfl, (Nat.le_add_right _ _), (Nat.le_add_right _ _)⟩ dX10_copy_2 ?_
  refine go_if_eq_t (pc := 5) (tgt := 16) dX10_copy_5 (by decide) (by decide) ?_
  refine go_bipush (pc := 16) (v := (-101)) dX10_copy_16 (by decide) ?_
  exact go_iret (pc := 18) rfl dX10_copy_18
theorem cm_copy {l : Launch} {G : gG} (x1 : Int32) (x2 : Int32) (x3 : Int32) (x4 : Int32) (x5 : Int32) : CM l G mX10_copy [.ref (G.2.1 + 32), .int x1, .int x2, .int x3, .int x4, .int x5] ((-101)) := by
  intro n k w hn hw
  exact ⟨2, 46, _, by decide, by decide, cm_copy_o x1 x2 x3 x4 x5 hn hw⟩
set_option maxRecDepth 100000 in
set_option maxHeartbeats 4000000 in
theorem cm_copied_o {l : Launch} {G : gG} {n k : Nat} {w : Nat → va_E} (hn : 42 ≤ n) (hw : ∀ i, 32 ≤ i → i < 42 → w (G.2.1 + i) = wl G.2.1 (LF G) (G.2.1 + i)) : Ct l G mX10_copied 0 0 [.ref (G.2.1 + 32)] n k w (some (.int 0), n, k, w) := by
  refine Ct.of (by decide) (Nat.le_of_ble_eq_true rfl) ⟨Nat.le_refl _, Nat.le_refl _⟩ ?_
  show Go l G mX10_copied _ 0 [(0, .ref (G.2.1 + 32))] [] n k w
  refine go_aload_n (pc := 0) dX10_copied_0 rfl rfl ?_
  refine go_get (pc := 1) fX10_53 rfl (gz_b (by omega)) ((hw 32 (by decide) (by decide)).trans (wl_at (i := 32) rfl)) rfl dX10_copied_1 ?_
  exact go_iret (pc := 4) rfl dX10_copied_4
theorem cm_copied {l : Launch} {G : gG} : CM l G mX10_copied [.ref (G.2.1 + 32)] 0 := by
  intro n k w hn hw
  exact ⟨0, 0, _, by decide, by decide, cm_copied_o hn hw⟩
set_option maxRecDepth 100000 in
set_option maxHeartbeats 4000000 in
theorem cm_shelf_t {l : Launch} {G : gG} (x1 : Int32) (x2 : Int32) (c0 : (if 0 ≤ x1 ∧ x1 ≤ 3 then (1 : Int32) else 0) = 0) {n k : Nat} {w : Nat → va_E} (hn : 42 ≤ n) (hw : ∀ i, 32 ≤ i → i < 42 → w (G.2.1 + i) = wl G.2.1 (LF G) (G.2.1 + i)) : Ct l G mX10_shelf 1 25 [.ref (G.2.1 + 32), .int x1, .int x2] n k w (some (.int ((-101))), n, k, w) := by
  refine Ct.of (by decide) (Nat.le_of_ble_eq_true rfl) ⟨Nat.le_refl _, Nat.le_refl _⟩ ?_
  show Go l G mX10_shelf _ 0 [(0, .ref (G.2.1 + 32)), (1, .int x1), (2, .int x2)] [] n k w
  refine go_iload_n (pc := 0) dX10_shelf_0 rfl rfl ?_
  refine go_i2l (pc := 1) dX10_shelf_1 ?_
  refine go_lconst (pc := 2) (v := 0) dX10_shelf_2 (by decide) ?_
  refine go_ldc2 (pc := 3) rfl qX10_219 dX10_shelf_3 ?_
  refine go_callS_i (pc := 6) sX10_63 rfl (ct_in x1.toInt64 0 3) rfl rfl (Nat.le_of_ble_eq_true rfl) ⟨Nat.le_of_ble_eq_true rfl, Nat.le_of_ble_eq_true rfl, (Nat.le_add_right _ _), (Nat.le_add_right _ _)⟩ dX10_shelf_6 ?_
  refine go_top (y := (if 0 ≤ x1 ∧ x1 ≤ 3 then (1 : Int32) else 0)) (gi_in (by decide) (by decide)) ?_
  refine go_if_ne_f (pc := 9) (tgt := 15) dX10_shelf_9 (by decide) c0 ?_
  refine go_bipush (pc := 12) (v := (-101)) dX10_shelf_12 (by decide) ?_
  exact go_iret (pc := 14) rfl dX10_shelf_14
set_option maxRecDepth 100000 in
set_option maxHeartbeats 4000000 in
theorem cX10_fails_1 {l : Launch} {G : gG} {n k : Nat} {w : Nat → va_E} (hn : 42 ≤ n) (hw : ∀ i, 32 ≤ i → i < 42 → w (G.2.1 + i) = wl G.2.1 (LF G) (G.2.1 + i)) : Ct l G mX10_fails 0 0 [.int 2] n k (va_up w (G.2.1 + 32) (ob 10 [.ref (G.2.1 + 33), .ref (G.2.1 + 34), .ref (G.2.1 + 35), .int 0, .int 0, .int 2, .int 0, .int 0, .ref (G.2.1 + 36), .ref (G.2.1 + 37), .ref (G.2.1 + 38), .ref (G.2.1 + 39), .int ((-1)), .ref (G.2.1 + 40), .int 0, .ref (G.2.1 + 41)])) (some (.int ((-12))), n, k, (va_up w (G.2.1 + 32) (ob 10 [.ref (G.2.1 + 33), .ref (G.2.1 + 34), .ref (G.2.1 + 35), .int 0, .int 0, .int 2, .int 0, .int 0, .ref (G.2.1 + 36), .ref (G.2.1 + 37), .ref (G.2.1 + 38), .ref (G.2.1 + 39), .int ((-1)), .ref (G.2.1 + 40), .int 0, .ref (G.2.1 + 41)]))) := by
  refine Ct.of (by decide) (Nat.le_of_ble_eq_true rfl) ⟨Nat.le_refl _, Nat.le_refl _⟩ ?_
  show Go l G mX10_fails _ 0 [(0, .int 2)] [] n k (va_up w (G.2.1 + 32) (ob 10 [.ref (G.2.1 + 33), .ref (G.2.1 + 34), .ref (G.2.1 + 35), .int 0, .int 0, .int 2, .int 0, .int 0, .ref (G.2.1 + 36), .ref (G.2.1 + 37), .ref (G.2.1 + 38), .ref (G.2.1 + 39), .int ((-1)), .ref (G.2.1 + 40), .int 0, .ref (G.2.1 + 41)]))
  refine go_bipush (pc := 0) (v := (-10)) dX10_fails_0 (by decide) ?_
  refine go_iload_n (pc := 2) dX10_fails_2 rfl rfl ?_
  refine go_isub (pc := 3) dX10_fails_3 ?_
  refine go_top (y := (-12)) (by decide) ?_
  exact go_iret (pc := 4) rfl dX10_fails_4
set_option maxRecDepth 100000 in
set_option maxHeartbeats 4000000 in
theorem cX10_by_1 {l : Launch} {G : gG} {n k : Nat} {w : Nat → va_E} (hn : 42 ≤ n) (hw : ∀ i, 32 ≤ i → i < 42 → w (G.2.1 + i) = wl G.2.1 (LF G) (G.2.1 + i)) : Ct l G mX10_by 1 20 [.ref (G.2.1 + 32), .int 2] n k (va_up w (G.2.1 + 32) (ob 10 [.ref (G.2.1 + 33), .ref (G.2.1 + 34), .ref (G.2.1 + 35), .int 0, .int 0, .int 0, .int 0, .int 0, .ref (G.2.1 + 36), .ref (G.2.1 + 37), .ref (G.2.1 + 38), .ref (G.2.1 + 39), .int ((-1)), .ref (G.2.1 + 40), .int 0, .ref (G.2.1 + 41)])) (some (.int ((-12))), n, k, (va_up w (G.2.1 + 32) (ob 10 [.ref (G.2.1 + 33), .ref (G.2.1 + 34), .ref (G.2.1 + 35), .int 0, .int 0, .int 2, .int 0, .int 0, .ref (G.2.1 + 36), .ref (G.2.1 + 37), .ref (G.2.1 + 38), .ref (G.2.1 + 39), .int ((-1)), .ref (G.2.1 + 40), .int 0, .ref (G.2.1 + 41)]))) := by
  refine Ct.of (by decide) (Nat.le_of_ble_eq_true rfl) ⟨Nat.le_refl _, Nat.le_refl _⟩ ?_
  show Go l G mX10_by _ 0 [(0, .ref (G.2.1 + 32)), (1, .int 2)] [] n k (va_up w (G.2.1 + 32) (ob 10 [.ref (G.2.1 + 33), .ref (G.2.1 + 34), .ref (G.2.1 + 35), .int 0, .int 0, .int 0, .int 0, .int 0, .ref (G.2.1 + 36), .ref (G.2.1 + 37), .ref (G.2.1 + 38), .ref (G.2.1 + 39), .int ((-1)), .ref (G.2.1 + 40), .int 0, .ref (G.2.1 + 41)]))
  refine go_aload_n (pc := 0) dX10_by_0 rfl rfl ?_
  refine go_iload_n (pc := 1) dX10_by_1 rfl rfl ?_
  refine go_put (pc := 2) fX10_49 rfl (gz_b (by omega)) (va_up_self _ _ _) (Nat.le_of_ble_eq_true rfl) rfl rfl dX10_by_2 ?_
  refine go_w (va_up_up _ _ _ _) ?_
  refine go_iload_n (pc := 5) dX10_by_5 rfl rfl ?_
  refine go_if_le_f (pc := 6) (tgt := 16) dX10_by_6 (by decide) (by decide) ?_
  refine go_iload_n (pc := 9) dX10_by_9 rfl rfl ?_
  refine go_callS_i (pc := 10) sX10_141 rfl (cX10_fails_1 hn hw) rfl rfl (Nat.le_of_ble_eq_true rfl) ⟨Nat.le_of_ble_eq_true rfl, Nat.le_of_ble_eq_true rfl, (Nat.le_add_right _ _), (Nat.le_add_right _ _)⟩ dX10_by_10 ?_
  refine go_goto (pc := 13) (tgt := 20) dX10_by_13 (by decide) ?_
  exact go_iret (pc := 20) rfl dX10_by_20
set_option maxRecDepth 100000 in
set_option maxHeartbeats 4000000 in
theorem cm_shelf_ft {l : Launch} {G : gG} (x1 : Int32) (x2 : Int32) (c0 : ¬ (if 0 ≤ x1 ∧ x1 ≤ 3 then (1 : Int32) else 0) = 0) (c1 : (if 0 ≤ x2 ∧ x2 ≤ 7 then (1 : Int32) else 0) = 0) {n k : Nat} {w : Nat → va_E} (hn : 42 ≤ n) (hw : ∀ i, 32 ≤ i → i < 42 → w (G.2.1 + i) = wl G.2.1 (LF G) (G.2.1 + i)) : Ct l G mX10_shelf 2 41 [.ref (G.2.1 + 32), .int x1, .int x2] n k w (some (.int ((-12))), n, k, (va_up w (G.2.1 + 32) (ob 10 [.ref (G.2.1 + 33), .ref (G.2.1 + 34), .ref (G.2.1 + 35), .int 0, .int 0, .int 2, .int 0, .int 0, .ref (G.2.1 + 36), .ref (G.2.1 + 37), .ref (G.2.1 + 38), .ref (G.2.1 + 39), .int ((-1)), .ref (G.2.1 + 40), .int 0, .ref (G.2.1 + 41)]))) := by
  refine Ct.of (by decide) (Nat.le_of_ble_eq_true rfl) ⟨Nat.le_refl _, Nat.le_refl _⟩ ?_
  show Go l G mX10_shelf _ 0 [(0, .ref (G.2.1 + 32)), (1, .int x1), (2, .int x2)] [] n k w
  refine go_iload_n (pc := 0) dX10_shelf_0 rfl rfl ?_
  refine go_i2l (pc := 1) dX10_shelf_1 ?_
  refine go_lconst (pc := 2) (v := 0) dX10_shelf_2 (by decide) ?_
  refine go_ldc2 (pc := 3) rfl qX10_219 dX10_shelf_3 ?_
  refine go_callS_i (pc := 6) sX10_63 rfl (ct_in x1.toInt64 0 3) rfl rfl (Nat.le_of_ble_eq_true rfl) ⟨Nat.le_of_ble_eq_true rfl, Nat.le_of_ble_eq_true rfl, (Nat.le_add_right _ _), (Nat.le_add_right _ _)⟩ dX10_shelf_6 ?_
  refine go_top (y := (if 0 ≤ x1 ∧ x1 ≤ 3 then (1 : Int32) else 0)) (gi_in (by decide) (by decide)) ?_
  refine go_if_ne_t (pc := 9) (tgt := 15) dX10_shelf_9 (by decide) c0 ?_
  refine go_iload_n (pc := 15) dX10_shelf_15 rfl rfl ?_
  refine go_i2l (pc := 16) dX10_shelf_16 ?_
  refine go_lconst (pc := 17) (v := 0) dX10_shelf_17 (by decide) ?_
  refine go_ldc2 (pc := 18) rfl qX10_213 dX10_shelf_18 ?_
  refine go_callS_i (pc := 21) sX10_63 rfl (ct_in x2.toInt64 0 7) rfl rfl (Nat.le_of_ble_eq_true rfl) ⟨Nat.le_of_ble_eq_true rfl, Nat.le_of_ble_eq_true rfl, (Nat.le_add_right _ _), (Nat.le_add_right _ _)⟩ dX10_shelf_21 ?_
  refine go_top (y := (if 0 ≤ x2 ∧ x2 ≤ 7 then (1 : Int32) else 0)) (gi_in (by decide) (by decide)) ?_
  refine go_istore_n (pc := 24) (lv' := [(3, .int ((if 0 ≤ x2 ∧ x2 ≤ 7 then (1 : Int32) else 0))), (0, .ref (G.2.1 + 32)), (1, .int x1), (2, .int x2)]) dX10_shelf_24 rfl (by decide) rfl ?_
  refine go_aload_n (pc := 25) dX10_shelf_25 rfl rfl ?_
  refine go_iload_n (pc := 26) dX10_shelf_26 rfl rfl ?_
  refine go_if_eq_t (pc := 27) (tgt := 47) dX10_shelf_27 (by decide) c1 ?_
  refine go_iconst (pc := 47) (v := (-1)) dX10_shelf_47 (by decide) ?_
  refine go_put (pc := 48) fX10_171 rfl (gz_b (by omega)) ((hw 32 (by decide) (by decide)).trans (wl_at (i := 32) rfl)) (Nat.le_of_ble_eq_true rfl) rfl rfl dX10_shelf_48 ?_
  refine go_aload_n (pc := 51) dX10_shelf_51 rfl rfl ?_
  refine go_iload_n (pc := 52) dX10_shelf_52 rfl rfl ?_
  refine go_if_eq_t (pc := 53) (tgt := 60) dX10_shelf_53 (by decide) c1 ?_
  refine go_iconst (pc := 60) (v := 2) dX10_shelf_60 (by decide) ?_
  refine go_callV_i (pc := 61) vX10_177 rfl (cX10_by_1 hn hw) rfl rfl (gz_b (by omega)) (va_up_self _ _ _) rfl (Nat.le_of_ble_eq_true rfl) ⟨Nat.le_of_ble_eq_true rfl, Nat.le_of_ble_eq_true rfl, (Nat.le_add_right _ _), (Nat.le_add_right _ _)⟩ dX10_shelf_61 ?_
  exact go_iret (pc := 64) rfl dX10_shelf_64
set_option maxRecDepth 100000 in
set_option maxHeartbeats 4000000 in
theorem cX10_by_2 {l : Launch} {G : gG} {n k : Nat} {w : Nat → va_E} (hn : 42 ≤ n) (hw : ∀ i, 32 ≤ i → i < 42 → w (G.2.1 + i) = wl G.2.1 (LF G) (G.2.1 + i)) : Ct l G mX10_by 0 0 [.ref (G.2.1 + 32), .int 0] n k (va_up w (G.2.1 + 32) (ob 10 [.ref (G.2.1 + 33), .ref (G.2.1 + 34), .ref (G.2.1 + 35), .int 0, .int 0, .int 0, .int 0, .int 0, .ref (G.2.1 + 36), .ref (G.2.1 + 37), .ref (G.2.1 + 38), .ref (G.2.1 + 39), .int ((-1)), .ref (G.2.1 + 40), .int 0, .ref (G.2.1 + 41)])) (some (.int ((-1))), n, k, (va_up w (G.2.1 + 32) (ob 10 [.ref (G.2.1 + 33), .ref (G.2.1 + 34), .ref (G.2.1 + 35), .int 0, .int 0, .int 0, .int 0, .int 0, .ref (G.2.1 + 36), .ref (G.2.1 + 37), .ref (G.2.1 + 38), .ref (G.2.1 + 39), .int ((-1)), .ref (G.2.1 + 40), .int 0, .ref (G.2.1 + 41)]))) := by
  refine Ct.of (by decide) (Nat.le_of_ble_eq_true rfl) ⟨Nat.le_refl _, Nat.le_refl _⟩ ?_
  show Go l G mX10_by _ 0 [(0, .ref (G.2.1 + 32)), (1, .int 0)] [] n k (va_up w (G.2.1 + 32) (ob 10 [.ref (G.2.1 + 33), .ref (G.2.1 + 34), .ref (G.2.1 + 35), .int 0, .int 0, .int 0, .int 0, .int 0, .ref (G.2.1 + 36), .ref (G.2.1 + 37), .ref (G.2.1 + 38), .ref (G.2.1 + 39), .int ((-1)), .ref (G.2.1 + 40), .int 0, .ref (G.2.1 + 41)]))
  refine go_aload_n (pc := 0) dX10_by_0 rfl rfl ?_
  refine go_iload_n (pc := 1) dX10_by_1 rfl rfl ?_
  refine go_put (pc := 2) fX10_49 rfl (gz_b (by omega)) (va_up_self _ _ _) (Nat.le_of_ble_eq_true rfl) rfl rfl dX10_by_2 ?_
  refine go_w (va_up_up _ _ _ _) ?_
  refine go_iload_n (pc := 5) dX10_by_5 rfl rfl ?_
  refine go_if_le_t (pc := 6) (tgt := 16) dX10_by_6 (by decide) (by decide) ?_
  refine go_aload_n (pc := 16) dX10_by_16 rfl rfl ?_
  refine go_get (pc := 17) fX10_171 rfl (gz_b (by omega)) (va_up_self _ _ _) rfl dX10_by_17 ?_
  exact go_iret (pc := 20) rfl dX10_by_20
set_option maxRecDepth 100000 in
set_option maxHeartbeats 4000000 in
theorem cm_shelf_ff {l : Launch} {G : gG} (x1 : Int32) (x2 : Int32) (c0 : ¬ (if 0 ≤ x1 ∧ x1 ≤ 3 then (1 : Int32) else 0) = 0) (c1 : ¬ (if 0 ≤ x2 ∧ x2 ≤ 7 then (1 : Int32) else 0) = 0) {n k : Nat} {w : Nat → va_E} (hn : 42 ≤ n) (hw : ∀ i, 32 ≤ i → i < 42 → w (G.2.1 + i) = wl G.2.1 (LF G) (G.2.1 + i)) : Ct l G mX10_shelf 1 25 [.ref (G.2.1 + 32), .int x1, .int x2] n k w (some (.int ((-1))), n, k, (va_up w (G.2.1 + 32) (ob 10 [.ref (G.2.1 + 33), .ref (G.2.1 + 34), .ref (G.2.1 + 35), .int 0, .int 0, .int 0, .int 0, .int 0, .ref (G.2.1 + 36), .ref (G.2.1 + 37), .ref (G.2.1 + 38), .ref (G.2.1 + 39), .int ((-1)), .ref (G.2.1 + 40), .int 0, .ref (G.2.1 + 41)]))) := by
  refine Ct.of (by decide) (Nat.le_of_ble_eq_true rfl) ⟨Nat.le_refl _, Nat.le_refl _⟩ ?_
  show Go l G mX10_shelf _ 0 [(0, .ref (G.2.1 + 32)), (1, .int x1), (2, .int x2)] [] n k w
  refine go_iload_n (pc := 0) dX10_shelf_0 rfl rfl ?_
  refine go_i2l (pc := 1) dX10_shelf_1 ?_
  refine go_lconst (pc := 2) (v := 0) dX10_shelf_2 (by decide) ?_
  refine go_ldc2 (pc := 3) rfl qX10_219 dX10_shelf_3 ?_
  refine go_callS_i (pc := 6) sX10_63 rfl (ct_in x1.toInt64 0 3) rfl rfl (Nat.le_of_ble_eq_true rfl) ⟨Nat.le_of_ble_eq_true rfl, Nat.le_of_ble_eq_true rfl, (Nat.le_add_right _ _), (Nat.le_add_right _ _)⟩ dX10_shelf_6 ?_
  refine go_top (y := (if 0 ≤ x1 ∧ x1 ≤ 3 then (1 : Int32) else 0)) (gi_in (by decide) (by decide)) ?_
  refine go_if_ne_t (pc := 9) (tgt := 15) dX10_shelf_9 (by decide) c0 ?_
  refine go_iload_n (pc := 15) dX10_shelf_15 rfl rfl ?_
  refine go_i2l (pc := 16) dX10_shelf_16 ?_
  refine go_lconst (pc := 17) (v := 0) dX10_shelf_17 (by decide) ?_
  refine go_ldc2 (pc := 18) rfl qX10_213 dX10_shelf_18 ?_
  refine go_callS_i (pc := 21) sX10_63 rfl (ct_in x2.toInt64 0 7) rfl rfl (Nat.le_of_ble_eq_true rfl) ⟨Nat.le_of_ble_eq_true rfl, Nat.le_of_ble_eq_true rfl, (Nat.le_add_right _ _), (Nat.le_add_right _ _)⟩ dX10_shelf_21 ?_
  refine go_top (y := (if 0 ≤ x2 ∧ x2 ≤ 7 then (1 : Int32) else 0)) (gi_in (by decide) (by decide)) ?_
  refine go_istore_n (pc := 24) (lv' := [(3, .int ((if 0 ≤ x2 ∧ x2 ≤ 7 then (1 : Int32) else 0))), (0, .ref (G.2.1 + 32)), (1, .int x1), (2, .int x2)]) dX10_shelf_24 rfl (by decide) rfl ?_
  refine go_aload_n (pc := 25) dX10_shelf_25 rfl rfl ?_
  refine go_iload_n (pc := 26) dX10_shelf_26 rfl rfl ?_
  refine go_if_eq_f (pc := 27) (tgt := 47) dX10_shelf_27 (by decide) c1 ?_
  refine go_aload_n (pc := 30) dX10_shelf_30 rfl rfl ?_
  refine go_get (pc := 31) fX10_9 rfl (gz_b (by omega)) ((hw 32 (by decide) (by decide)).trans (wl_at (i := 32) rfl)) rfl dX10_shelf_31 ?_
  refine go_bipush (pc := 34) (v := 44) dX10_shelf_34 (by decide) ?_
  refine go_bipush (pc := 36) (v := 8) dX10_shelf_36 (by decide) ?_
  refine go_iload_n (pc := 38) dX10_shelf_38 rfl rfl ?_
  refine go_imul (pc := 39) dX10_shelf_39 ?_
  refine go_iadd (pc := 40) dX10_shelf_40 ?_
  refine go_iload_n (pc := 41) dX10_shelf_41 rfl rfl ?_
  refine go_iadd (pc := 42) dX10_shelf_42 ?_
  refine go_iald (pc := 43) (gz_b (by omega)) ((hw 33 (by decide) (by decide)).trans (wl_at (i := 33) rfl)) (gv_t_in (gi_of c0) (gi_of c1)) dX10_shelf_43 ?_
  refine go_top (y := (-1)) (sx_t (gi_of c0) (gi_of c1)) ?_
  refine go_goto (pc := 44) (tgt := 48) dX10_shelf_44 (by decide) ?_
  refine go_put (pc := 48) fX10_171 rfl (gz_b (by omega)) ((hw 32 (by decide) (by decide)).trans (wl_at (i := 32) rfl)) (Nat.le_of_ble_eq_true rfl) rfl rfl dX10_shelf_48 ?_
  refine go_aload_n (pc := 51) dX10_shelf_51 rfl rfl ?_
  refine go_iload_n (pc := 52) dX10_shelf_52 rfl rfl ?_
  refine go_if_eq_f (pc := 53) (tgt := 60) dX10_shelf_53 (by decide) c1 ?_
  refine go_iconst (pc := 56) (v := 0) dX10_shelf_56 (by decide) ?_
  refine go_goto (pc := 57) (tgt := 61) dX10_shelf_57 (by decide) ?_
  refine go_callV_i (pc := 61) vX10_177 rfl (cX10_by_2 hn hw) rfl rfl (gz_b (by omega)) (va_up_self _ _ _) rfl (Nat.le_of_ble_eq_true rfl) ⟨Nat.le_of_ble_eq_true rfl, Nat.le_of_ble_eq_true rfl, (Nat.le_add_right _ _), (Nat.le_add_right _ _)⟩ dX10_shelf_61 ?_
  exact go_iret (pc := 64) rfl dX10_shelf_64
theorem cm_shelf {l : Launch} {G : gG} (x1 : Int32) (x2 : Int32) : CM l G mX10_shelf [.ref (G.2.1 + 32), .int x1, .int x2] ((if (if 0 ≤ x1 ∧ x1 ≤ 3 then (1 : Int32) else 0) = 0 then (-101) else (if (if 0 ≤ x2 ∧ x2 ≤ 7 then (1 : Int32) else 0) = 0 then (-12) else (-1)))) := by
  intro n k w hn hw
  by_cases c0 : (if 0 ≤ x1 ∧ x1 ≤ 3 then (1 : Int32) else 0) = 0
  · rw [if_pos c0]
    exact ⟨1, 25, _, by decide, by decide, cm_shelf_t x1 x2 c0 hn hw⟩
  · rw [if_neg c0]
    by_cases c1 : (if 0 ≤ x2 ∧ x2 ≤ 7 then (1 : Int32) else 0) = 0
    · rw [if_pos c1]
      exact ⟨2, 41, _, by decide, by decide, cm_shelf_ft x1 x2 c0 c1 hn hw⟩
    · rw [if_neg c1]
      exact ⟨1, 25, _, by decide, by decide, cm_shelf_ff x1 x2 c0 c1 hn hw⟩
set_option maxRecDepth 100000 in
set_option maxHeartbeats 4000000 in
theorem cm_phase_o {l : Launch} {G : gG} {n k : Nat} {w : Nat → va_E} (hn : 42 ≤ n) (hw : ∀ i, 32 ≤ i → i < 42 → w (G.2.1 + i) = wl G.2.1 (LF G) (G.2.1 + i)) : Ct l G mX10_phase 0 0 [.ref (G.2.1 + 32)] n k w (some (.int 0), n, k, w) := by
  refine Ct.of (by decide) (Nat.le_of_ble_eq_true rfl) ⟨Nat.le_refl _, Nat.le_refl _⟩ ?_
  show Go l G mX10_phase _ 0 [(0, .ref (G.2.1 + 32))] [] n k w
  refine go_aload_n (pc := 0) dX10_phase_0 rfl rfl ?_
  refine go_get (pc := 1) fX10_9 rfl (gz_b (by omega)) ((hw 32 (by decide) (by decide)).trans (wl_at (i := 32) rfl)) rfl dX10_phase_1 ?_
  refine go_iconst (pc := 4) (v := 3) dX10_phase_4 (by decide) ?_
  refine go_iald (pc := 5) (gz_b (by omega)) ((hw 33 (by decide) (by decide)).trans (wl_at (i := 33) rfl)) (gv_in (by decide)) dX10_phase_5 ?_
  refine go_top (y := 0) rfl ?_
  exact go_iret (pc := 6) rfl dX10_phase_6
theorem cm_phase {l : Launch} {G : gG} : CM l G mX10_phase [.ref (G.2.1 + 32)] 0 := by
  intro n k w hn hw
  exact ⟨0, 0, _, by decide, by decide, cm_phase_o hn hw⟩
set_option maxRecDepth 100000 in
set_option maxHeartbeats 4000000 in
theorem cm_marked_o {l : Launch} {G : gG} (x1 : Int32) {n k : Nat} {w : Nat → va_E} (hn : 42 ≤ n) (hw : ∀ i, 32 ≤ i → i < 42 → w (G.2.1 + i) = wl G.2.1 (LF G) (G.2.1 + i)) : Ct l G mX10_marked 2 46 [.ref (G.2.1 + 32), .int x1] n k w (some (.int ((-101))), n, k, w) := by
  refine Ct.of (by decide) (Nat.le_of_ble_eq_true rfl) ⟨Nat.le_refl _, Nat.le_refl _⟩ ?_
  show Go l G mX10_marked _ 0 [(0, .ref (G.2.1 + 32)), (1, .int x1)] [] n k w
  refine go_aload_n (pc := 0) dX10_marked_0 rfl rfl ?_
  refine go_iload_n (pc := 1) dX10_marked_1 rfl rfl ?_
  refine go_callV_i (pc := 2) vX10_67 rfl (cX10_isMade_1 x1 hn hw) rfl rfl (gz_b (by omega)) ((hw 32 (by decide) (by decide)).trans (wl_at (i := 32) rfl)) rfl (Nat.le_of_ble_eq_true rfl) ⟨Nat.le_of_ble_eq_true rfl, Nat.le_of_ble_eq_true rfl, (Nat.le_add_right _ _), (Nat.le_add_right _ _)⟩ dX10_marked_2 ?_
  refine go_if_ne_f (pc := 5) (tgt := 13) dX10_marked_5 (by decide) (by decide) ?_
  refine go_bipush (pc := 8) (v := (-101)) dX10_marked_8 (by decide) ?_
  refine go_goto (pc := 10) (tgt := 38) dX10_marked_10 (by decide) ?_
  exact go_iret (pc := 38) rfl dX10_marked_38
theorem cm_marked {l : Launch} {G : gG} (x1 : Int32) : CM l G mX10_marked [.ref (G.2.1 + 32), .int x1] ((-101)) := by
  intro n k w hn hw
  exact ⟨2, 46, _, by decide, by decide, cm_marked_o x1 hn hw⟩
set_option maxRecDepth 100000 in
set_option maxHeartbeats 4000000 in
theorem cm_moved_o {l : Launch} {G : gG} (x1 : Int32) {n k : Nat} {w : Nat → va_E} (hn : 42 ≤ n) (hw : ∀ i, 32 ≤ i → i < 42 → w (G.2.1 + i) = wl G.2.1 (LF G) (G.2.1 + i)) : Ct l G mX10_moved 2 46 [.ref (G.2.1 + 32), .int x1] n k w (some (.int ((-101))), n, k, w) := by
  refine Ct.of (by decide) (Nat.le_of_ble_eq_true rfl) ⟨Nat.le_refl _, Nat.le_refl _⟩ ?_
  show Go l G mX10_moved _ 0 [(0, .ref (G.2.1 + 32)), (1, .int x1)] [] n k w
  refine go_aload_n (pc := 0) dX10_moved_0 rfl rfl ?_
  refine go_iload_n (pc := 1) dX10_moved_1 rfl rfl ?_
  refine go_callV_i (pc := 2) vX10_67 rfl (cX10_isMade_1 x1 hn hw) rfl rfl (gz_b (by omega)) ((hw 32 (by decide) (by decide)).trans (wl_at (i := 32) rfl)) rfl (Nat.le_of_ble_eq_true rfl) ⟨Nat.le_of_ble_eq_true rfl, Nat.le_of_ble_eq_true rfl, (Nat.le_add_right _ _), (Nat.le_add_right _ _)⟩ dX10_moved_2 ?_
  refine go_if_ne_f (pc := 5) (tgt := 13) dX10_moved_5 (by decide) (by decide) ?_
  refine go_bipush (pc := 8) (v := (-101)) dX10_moved_8 (by decide) ?_
  refine go_goto (pc := 10) (tgt := 38) dX10_moved_10 (by decide) ?_
  exact go_iret (pc := 38) rfl dX10_moved_38
theorem cm_moved {l : Launch} {G : gG} (x1 : Int32) : CM l G mX10_moved [.ref (G.2.1 + 32), .int x1] ((-101)) := by
  intro n k w hn hw
  exact ⟨2, 46, _, by decide, by decide, cm_moved_o x1 hn hw⟩
set_option maxRecDepth 100000 in
set_option maxHeartbeats 4000000 in
theorem cm_told_t {l : Launch} {G : gG} (x1 : Int32) (x2 : Int32) (c0 : (if 0 ≤ x2 ∧ x2 ≤ 2 then (1 : Int32) else 0) = 0) {n k : Nat} {w : Nat → va_E} (hn : 42 ≤ n) (hw : ∀ i, 32 ≤ i → i < 42 → w (G.2.1 + i) = wl G.2.1 (LF G) (G.2.1 + i)) : Ct l G mX10_told 1 25 [.ref (G.2.1 + 32), .int x1, .int x2] n k w (some (.int ((-102))), n, k, w) := by
  refine Ct.of (by decide) (Nat.le_of_ble_eq_true rfl) ⟨Nat.le_refl _, Nat.le_refl _⟩ ?_
  show Go l G mX10_told _ 0 [(0, .ref (G.2.1 + 32)), (1, .int x1), (2, .int x2)] [] n k w
  refine go_iload_n (pc := 0) dX10_told_0 rfl rfl ?_
  refine go_i2l (pc := 1) dX10_told_1 ?_
  refine go_lconst (pc := 2) (v := 0) dX10_told_2 (by decide) ?_
  refine go_ldc2 (pc := 3) rfl qX10_232 dX10_told_3 ?_
  refine go_callS_i (pc := 6) sX10_63 rfl (ct_in x2.toInt64 0 2) rfl rfl (Nat.le_of_ble_eq_true rfl) ⟨Nat.le_of_ble_eq_true rfl, Nat.le_of_ble_eq_true rfl, (Nat.le_add_right _ _), (Nat.le_add_right _ _)⟩ dX10_told_6 ?_
  refine go_top (y := (if 0 ≤ x2 ∧ x2 ≤ 2 then (1 : Int32) else 0)) (gi_in (by decide) (by decide)) ?_
  refine go_if_ne_f (pc := 9) (tgt := 15) dX10_told_9 (by decide) c0 ?_
  refine go_bipush (pc := 12) (v := (-102)) dX10_told_12 (by decide) ?_
  exact go_iret (pc := 14) rfl dX10_told_14
set_option maxRecDepth 100000 in
set_option maxHeartbeats 4000000 in
theorem cm_told_f {l : Launch} {G : gG} (x1 : Int32) (x2 : Int32) (c0 : ¬ (if 0 ≤ x2 ∧ x2 ≤ 2 then (1 : Int32) else 0) = 0) {n k : Nat} {w : Nat → va_E} (hn : 42 ≤ n) (hw : ∀ i, 32 ≤ i → i < 42 → w (G.2.1 + i) = wl G.2.1 (LF G) (G.2.1 + i)) : Ct l G mX10_told 1 25 [.ref (G.2.1 + 32), .int x1, .int x2] n k w (some (.int ((-1))), n, k, w) := by
  refine Ct.of (by decide) (Nat.le_of_ble_eq_true rfl) ⟨Nat.le_refl _, Nat.le_refl _⟩ ?_
  show Go l G mX10_told _ 0 [(0, .ref (G.2.1 + 32)), (1, .int x1), (2, .int x2)] [] n k w
  refine go_iload_n (pc := 0) dX10_told_0 rfl rfl ?_
  refine go_i2l (pc := 1) dX10_told_1 ?_
  refine go_lconst (pc := 2) (v := 0) dX10_told_2 (by decide) ?_
  refine go_ldc2 (pc := 3) rfl qX10_232 dX10_told_3 ?_
  refine go_callS_i (pc := 6) sX10_63 rfl (ct_in x2.toInt64 0 2) rfl rfl (Nat.le_of_ble_eq_true rfl) ⟨Nat.le_of_ble_eq_true rfl, Nat.le_of_ble_eq_true rfl, (Nat.le_add_right _ _), (Nat.le_add_right _ _)⟩ dX10_told_6 ?_
  refine go_top (y := (if 0 ≤ x2 ∧ x2 ≤ 2 then (1 : Int32) else 0)) (gi_in (by decide) (by decide)) ?_
  refine go_if_ne_t (pc := 9) (tgt := 15) dX10_told_9 (by decide) c0 ?_
  refine go_aload_n (pc := 15) dX10_told_15 rfl rfl ?_
  refine go_get (pc := 16) fX10_9 rfl (gz_b (by omega)) ((hw 32 (by decide) (by decide)).trans (wl_at (i := 32) rfl)) rfl dX10_told_16 ?_
  refine go_bipush (pc := 19) (v := 10) dX10_told_19 (by decide) ?_
  refine go_iald (pc := 21) (gz_b (by omega)) ((hw 33 (by decide) (by decide)).trans (wl_at (i := 33) rfl)) (gv_in (by decide)) dX10_told_21 ?_
  refine go_top (y := 0) rfl ?_
  refine go_bipush (pc := 22) (v := 100) dX10_told_22 (by decide) ?_
  refine go_icmp_ge_f (pc := 24) (tgt := 37) dX10_told_24 (by decide) (by decide) ?_
  refine go_aload_n (pc := 27) dX10_told_27 rfl rfl ?_
  refine go_get (pc := 28) fX10_9 rfl (gz_b (by omega)) ((hw 32 (by decide) (by decide)).trans (wl_at (i := 32) rfl)) rfl dX10_told_28 ?_
  refine go_bipush (pc := 31) (v := 10) dX10_told_31 (by decide) ?_
  refine go_iald (pc := 33) (gz_b (by omega)) ((hw 33 (by decide) (by decide)).trans (wl_at (i := 33) rfl)) (gv_in (by decide)) dX10_told_33 ?_
  refine go_top (y := 0) rfl ?_
  refine go_goto (pc := 34) (tgt := 39) dX10_told_34 (by decide) ?_
  refine go_istore_n (pc := 39) (lv' := [(3, .int 0), (0, .ref (G.2.1 + 32)), (1, .int x1), (2, .int x2)]) dX10_told_39 rfl (by decide) rfl ?_
  refine go_iload_n (pc := 40) dX10_told_40 rfl rfl ?_
  refine go_i2l (pc := 41) dX10_told_41 ?_
  refine go_lconst (pc := 42) (v := 0) dX10_told_42 (by decide) ?_
  refine go_iload_n (pc := 43) dX10_told_43 rfl rfl ?_
  refine go_iconst (pc := 44) (v := 1) dX10_told_44 (by decide) ?_
  refine go_isub (pc := 45) dX10_told_45 ?_
  refine go_top (y := (-1)) (by decide) ?_
  refine go_i2l (pc := 46) dX10_told_46 ?_
  refine go_topl (y := (-1)) (by decide) ?_
  refine go_callS_i (pc := 47) sX10_63 rfl (ct_in x1.toInt64 0 ((-1))) rfl rfl (Nat.le_of_ble_eq_true rfl) ⟨Nat.le_of_ble_eq_true rfl, Nat.le_of_ble_eq_true rfl, (Nat.le_add_right _ _), (Nat.le_add_right _ _)⟩ dX10_told_47 ?_
  refine go_top (y := 0) (gi_no (by decide)) ?_
  refine go_if_eq_t (pc := 50) (tgt := 69) dX10_told_50 (by decide) (by decide) ?_
  refine go_iconst (pc := 69) (v := (-1)) dX10_told_69 (by decide) ?_
  exact go_iret (pc := 70) rfl dX10_told_70
theorem cm_told {l : Launch} {G : gG} (x1 : Int32) (x2 : Int32) : CM l G mX10_told [.ref (G.2.1 + 32), .int x1, .int x2] ((if (if 0 ≤ x2 ∧ x2 ≤ 2 then (1 : Int32) else 0) = 0 then (-102) else (-1))) := by
  intro n k w hn hw
  by_cases c0 : (if 0 ≤ x2 ∧ x2 ≤ 2 then (1 : Int32) else 0) = 0
  · rw [if_pos c0]
    exact ⟨1, 25, _, by decide, by decide, cm_told_t x1 x2 c0 hn hw⟩
  · rw [if_neg c0]
    exact ⟨1, 25, _, by decide, by decide, cm_told_f x1 x2 c0 hn hw⟩
set_option maxRecDepth 100000 in
set_option maxHeartbeats 4000000 in
theorem cm_word_t {l : Launch} {G : gG} (x1 : Int32) (c0 : (if 0 ≤ x1 ∧ x1 ≤ 255 then (1 : Int32) else 0) = 0) {n k : Nat} {w : Nat → va_E} (hn : 42 ≤ n) (hw : ∀ i, 32 ≤ i → i < 42 → w (G.2.1 + i) = wl G.2.1 (LF G) (G.2.1 + i)) : Ct l G mX10_word 1 25 [.ref (G.2.1 + 32), .int x1] n k w (some (.int ((-102))), n, k, w) := by
  refine Ct.of (by decide) (Nat.le_of_ble_eq_true rfl) ⟨Nat.le_refl _, Nat.le_refl _⟩ ?_
  show Go l G mX10_word _ 0 [(0, .ref (G.2.1 + 32)), (1, .int x1)] [] n k w
  refine go_iload_n (pc := 0) dX10_word_0 rfl rfl ?_
  refine go_i2l (pc := 1) dX10_word_1 ?_
  refine go_lconst (pc := 2) (v := 0) dX10_word_2 (by decide) ?_
  refine go_aload_n (pc := 3) dX10_word_3 rfl rfl ?_
  refine go_get (pc := 4) fX10_9 rfl (gz_b (by omega)) ((hw 32 (by decide) (by decide)).trans (wl_at (i := 32) rfl)) rfl dX10_word_4 ?_
  refine go_iconst (pc := 7) (v := 0) dX10_word_7 (by decide) ?_
  refine go_iald (pc := 8) (gz_b (by omega)) ((hw 33 (by decide) (by decide)).trans (wl_at (i := 33) rfl)) (gv_in (by decide)) dX10_word_8 ?_
  refine go_top (y := 256) rfl ?_
  refine go_iconst (pc := 9) (v := 1) dX10_word_9 (by decide) ?_
  refine go_isub (pc := 10) dX10_word_10 ?_
  refine go_top (y := 255) (by decide) ?_
  refine go_i2l (pc := 11) dX10_word_11 ?_
  refine go_topl (y := 255) (by decide) ?_
  refine go_callS_i (pc := 12) sX10_63 rfl (ct_in x1.toInt64 0 255) rfl rfl (Nat.le_of_ble_eq_true rfl) ⟨Nat.le_of_ble_eq_true rfl, Nat.le_of_ble_eq_true rfl, (Nat.le_add_right _ _), (Nat.le_add_right _ _)⟩ dX10_word_12 ?_
  refine go_top (y := (if 0 ≤ x1 ∧ x1 ≤ 255 then (1 : Int32) else 0)) (gi_in (by decide) (by decide)) ?_
  refine go_if_eq_t (pc := 15) (tgt := 31) dX10_word_15 (by decide) c0 ?_
  refine go_bipush (pc := 31) (v := (-102)) dX10_word_31 (by decide) ?_
  exact go_iret (pc := 33) rfl dX10_word_33
set_option maxRecDepth 100000 in
set_option maxHeartbeats 4000000 in
theorem cm_word_f {l : Launch} {G : gG} (x1 : Int32) (c0 : ¬ (if 0 ≤ x1 ∧ x1 ≤ 255 then (1 : Int32) else 0) = 0) {n k : Nat} {w : Nat → va_E} (hn : 42 ≤ n) (hw : ∀ i, 32 ≤ i → i < 42 → w (G.2.1 + i) = wl G.2.1 (LF G) (G.2.1 + i)) : Ct l G mX10_word 1 25 [.ref (G.2.1 + 32), .int x1] n k w (some (.int 0), n, k, w) := by
  refine Ct.of (by decide) (Nat.le_of_ble_eq_true rfl) ⟨Nat.le_refl _, Nat.le_refl _⟩ ?_
  show Go l G mX10_word _ 0 [(0, .ref (G.2.1 + 32)), (1, .int x1)] [] n k w
  refine go_iload_n (pc := 0) dX10_word_0 rfl rfl ?_
  refine go_i2l (pc := 1) dX10_word_1 ?_
  refine go_lconst (pc := 2) (v := 0) dX10_word_2 (by decide) ?_
  refine go_aload_n (pc := 3) dX10_word_3 rfl rfl ?_
  refine go_get (pc := 4) fX10_9 rfl (gz_b (by omega)) ((hw 32 (by decide) (by decide)).trans (wl_at (i := 32) rfl)) rfl dX10_word_4 ?_
  refine go_iconst (pc := 7) (v := 0) dX10_word_7 (by decide) ?_
  refine go_iald (pc := 8) (gz_b (by omega)) ((hw 33 (by decide) (by decide)).trans (wl_at (i := 33) rfl)) (gv_in (by decide)) dX10_word_8 ?_
  refine go_top (y := 256) rfl ?_
  refine go_iconst (pc := 9) (v := 1) dX10_word_9 (by decide) ?_
  refine go_isub (pc := 10) dX10_word_10 ?_
  refine go_top (y := 255) (by decide) ?_
  refine go_i2l (pc := 11) dX10_word_11 ?_
  refine go_topl (y := 255) (by decide) ?_
  refine go_callS_i (pc := 12) sX10_63 rfl (ct_in x1.toInt64 0 255) rfl rfl (Nat.le_of_ble_eq_true rfl) ⟨Nat.le_of_ble_eq_true rfl, Nat.le_of_ble_eq_true rfl, (Nat.le_add_right _ _), (Nat.le_add_right _ _)⟩ dX10_word_12 ?_
  refine go_top (y := (if 0 ≤ x1 ∧ x1 ≤ 255 then (1 : Int32) else 0)) (gi_in (by decide) (by decide)) ?_
  refine go_if_eq_f (pc := 15) (tgt := 31) dX10_word_15 (by decide) c0 ?_
  refine go_aload_n (pc := 18) dX10_word_18 rfl rfl ?_
  refine go_get (pc := 19) fX10_9 rfl (gz_b (by omega)) ((hw 32 (by decide) (by decide)).trans (wl_at (i := 32) rfl)) rfl dX10_word_19 ?_
  refine go_sipush (pc := 22) (v := 6100) dX10_word_22 (by decide) ?_
  refine go_iload_n (pc := 25) dX10_word_25 rfl rfl ?_
  refine go_iadd (pc := 26) dX10_word_26 ?_
  refine go_iald (pc := 27) (gz_b (by omega)) ((hw 33 (by decide) (by decide)).trans (wl_at (i := 33) rfl)) (gv_s (o := 6100) (B := 255) (by decide) (gi_of c0) (by decide) (by decide) (by decide)) dX10_word_27 ?_
  refine go_top (y := 0) (sx_zero (o := 6100) (B := 255) (by decide) (gi_of c0) (by decide) (by decide) (by decide)) ?_
  refine go_goto (pc := 28) (tgt := 33) dX10_word_28 (by decide) ?_
  exact go_iret (pc := 33) rfl dX10_word_33
theorem cm_word {l : Launch} {G : gG} (x1 : Int32) : CM l G mX10_word [.ref (G.2.1 + 32), .int x1] ((if (if 0 ≤ x1 ∧ x1 ≤ 255 then (1 : Int32) else 0) = 0 then (-102) else 0)) := by
  intro n k w hn hw
  by_cases c0 : (if 0 ≤ x1 ∧ x1 ≤ 255 then (1 : Int32) else 0) = 0
  · rw [if_pos c0]
    exact ⟨1, 25, _, by decide, by decide, cm_word_t x1 c0 hn hw⟩
  · rw [if_neg c0]
    exact ⟨1, 25, _, by decide, by decide, cm_word_f x1 c0 hn hw⟩
set_option maxRecDepth 100000 in
set_option maxHeartbeats 4000000 in
theorem cm_rows_o {l : Launch} {G : gG} {n k : Nat} {w : Nat → va_E} (hn : 42 ≤ n) (hw : ∀ i, 32 ≤ i → i < 42 → w (G.2.1 + i) = wl G.2.1 (LF G) (G.2.1 + i)) : Ct l G mX10_rows 0 0 [.ref (G.2.1 + 32)] n k w (some (.int 0), n, k, w) := by
  refine Ct.of (by decide) (Nat.le_of_ble_eq_true rfl) ⟨Nat.le_refl _, Nat.le_refl _⟩ ?_
  show Go l G mX10_rows _ 0 [(0, .ref (G.2.1 + 32))] [] n k w
  refine go_aload_n (pc := 0) dX10_rows_0 rfl rfl ?_
  refine go_get (pc := 1) fX10_9 rfl (gz_b (by omega)) ((hw 32 (by decide) (by decide)).trans (wl_at (i := 32) rfl)) rfl dX10_rows_1 ?_
  refine go_bipush (pc := 4) (v := 15) dX10_rows_4 (by decide) ?_
  refine go_iald (pc := 6) (gz_b (by omega)) ((hw 33 (by decide) (by decide)).trans (wl_at (i := 33) rfl)) (gv_in (by decide)) dX10_rows_6 ?_
  refine go_top (y := 0) rfl ?_
  exact go_iret (pc := 7) rfl dX10_rows_7
theorem cm_rows {l : Launch} {G : gG} : CM l G mX10_rows [.ref (G.2.1 + 32)] 0 := by
  intro n k w hn hw
  exact ⟨0, 0, _, by decide, by decide, cm_rows_o hn hw⟩
set_option maxRecDepth 100000 in
set_option maxHeartbeats 4000000 in
theorem cm_row_o {l : Launch} {G : gG} (x1 : Int32) {n k : Nat} {w : Nat → va_E} (hn : 42 ≤ n) (hw : ∀ i, 32 ≤ i → i < 42 → w (G.2.1 + i) = wl G.2.1 (LF G) (G.2.1 + i)) : Ct l G mX10_row 1 25 [.ref (G.2.1 + 32), .int x1] n k w (some (.int ((-101))), n, k, w) := by
  refine Ct.of (by decide) (Nat.le_of_ble_eq_true rfl) ⟨Nat.le_refl _, Nat.le_refl _⟩ ?_
  show Go l G mX10_row _ 0 [(0, .ref (G.2.1 + 32)), (1, .int x1)] [] n k w
  refine go_iload_n (pc := 0) dX10_row_0 rfl rfl ?_
  refine go_i2l (pc := 1) dX10_row_1 ?_
  refine go_lconst (pc := 2) (v := 0) dX10_row_2 (by decide) ?_
  refine go_aload_n (pc := 3) dX10_row_3 rfl rfl ?_
  refine go_get (pc := 4) fX10_9 rfl (gz_b (by omega)) ((hw 32 (by decide) (by decide)).trans (wl_at (i := 32) rfl)) rfl dX10_row_4 ?_
  refine go_bipush (pc := 7) (v := 15) dX10_row_7 (by decide) ?_
  refine go_iald (pc := 9) (gz_b (by omega)) ((hw 33 (by decide) (by decide)).trans (wl_at (i := 33) rfl)) (gv_in (by decide)) dX10_row_9 ?_
  refine go_top (y := 0) rfl ?_
  refine go_iconst (pc := 10) (v := 1) dX10_row_10 (by decide) ?_
  refine go_isub (pc := 11) dX10_row_11 ?_
  refine go_top (y := (-1)) (by decide) ?_
  refine go_i2l (pc := 12) dX10_row_12 ?_
  refine go_topl (y := (-1)) (by decide) ?_
  refine go_callS_i (pc := 13) sX10_63 rfl (ct_in x1.toInt64 0 ((-1))) rfl rfl (Nat.le_of_ble_eq_true rfl) ⟨Nat.le_of_ble_eq_true rfl, Nat.le_of_ble_eq_true rfl, (Nat.le_add_right _ _), (Nat.le_add_right _ _)⟩ dX10_row_13 ?_
  refine go_top (y := 0) (gi_no (by decide)) ?_
  refine go_if_eq_t (pc := 16) (tgt := 32) dX10_row_16 (by decide) (by decide) ?_
  refine go_bipush (pc := 32) (v := (-101)) dX10_row_32 (by decide) ?_
  exact go_iret (pc := 34) rfl dX10_row_34
theorem cm_row {l : Launch} {G : gG} (x1 : Int32) : CM l G mX10_row [.ref (G.2.1 + 32), .int x1] ((-101)) := by
  intro n k w hn hw
  exact ⟨1, 25, _, by decide, by decide, cm_row_o x1 hn hw⟩
set_option maxRecDepth 100000 in
set_option maxHeartbeats 4000000 in
theorem cm_forge_o {l : Launch} {G : gG} (x1 : Int32) (x2 : Int32) {n k : Nat} {w : Nat → va_E} (hn : 42 ≤ n) (hw : ∀ i, 32 ≤ i → i < 42 → w (G.2.1 + i) = wl G.2.1 (LF G) (G.2.1 + i)) : Ct l G mX10_forge 1 25 [.ref (G.2.1 + 32), .int x1, .int x2] n k w (some (.int ((-101))), n, k, w) := by
  refine Ct.of (by decide) (Nat.le_of_ble_eq_true rfl) ⟨Nat.le_refl _, Nat.le_refl _⟩ ?_
  show Go l G mX10_forge _ 0 [(0, .ref (G.2.1 + 32)), (1, .int x1), (2, .int x2)] [] n k w
  refine go_iload_n (pc := 0) dX10_forge_0 rfl rfl ?_
  refine go_i2l (pc := 1) dX10_forge_1 ?_
  refine go_lconst (pc := 2) (v := 0) dX10_forge_2 (by decide) ?_
  refine go_aload_n (pc := 3) dX10_forge_3 rfl rfl ?_
  refine go_get (pc := 4) fX10_9 rfl (gz_b (by omega)) ((hw 32 (by decide) (by decide)).trans (wl_at (i := 32) rfl)) rfl dX10_forge_4 ?_
  refine go_bipush (pc := 7) (v := 15) dX10_forge_7 (by decide) ?_
  refine go_iald (pc := 9) (gz_b (by omega)) ((hw 33 (by decide) (by decide)).trans (wl_at (i := 33) rfl)) (gv_in (by decide)) dX10_forge_9 ?_
  refine go_top (y := 0) rfl ?_
  refine go_iconst (pc := 10) (v := 1) dX10_forge_10 (by decide) ?_
  refine go_isub (pc := 11) dX10_forge_11 ?_
  refine go_top (y := (-1)) (by decide) ?_
  refine go_i2l (pc := 12) dX10_forge_12 ?_
  refine go_topl (y := (-1)) (by decide) ?_
  refine go_callS_i (pc := 13) sX10_63 rfl (ct_in x1.toInt64 0 ((-1))) rfl rfl (Nat.le_of_ble_eq_true rfl) ⟨Nat.le_of_ble_eq_true rfl, Nat.le_of_ble_eq_true rfl, (Nat.le_add_right _ _), (Nat.le_add_right _ _)⟩ dX10_forge_13 ?_
  refine go_top (y := 0) (gi_no (by decide)) ?_
  refine go_if_ne_f (pc := 16) (tgt := 22) dX10_forge_16 (by decide) (by decide) ?_
  refine go_bipush (pc := 19) (v := (-101)) dX10_forge_19 (by decide) ?_
  exact go_iret (pc := 21) rfl dX10_forge_21
theorem cm_forge {l : Launch} {G : gG} (x1 : Int32) (x2 : Int32) : CM l G mX10_forge [.ref (G.2.1 + 32), .int x1, .int x2] ((-101)) := by
  intro n k w hn hw
  exact ⟨1, 25, _, by decide, by decide, cm_forge_o x1 x2 hn hw⟩
set_option maxRecDepth 100000 in
set_option maxHeartbeats 4000000 in
theorem cm_check_o {l : Launch} {G : gG} {n k : Nat} {w : Nat → va_E} (hn : 42 ≤ n) (hw : ∀ i, 32 ≤ i → i < 42 → w (G.2.1 + i) = wl G.2.1 (LF G) (G.2.1 + i)) : Ct l G mX10_check 0 0 [.ref (G.2.1 + 32)] n k w (some (.int ((-104))), n, k, w) := by
  refine Ct.of (by decide) (Nat.le_of_ble_eq_true rfl) ⟨Nat.le_refl _, Nat.le_refl _⟩ ?_
  show Go l G mX10_check _ 0 [(0, .ref (G.2.1 + 32))] [] n k w
  refine go_aload_n (pc := 0) dX10_check_0 rfl rfl ?_
  refine go_get (pc := 1) fX10_9 rfl (gz_b (by omega)) ((hw 32 (by decide) (by decide)).trans (wl_at (i := 32) rfl)) rfl dX10_check_1 ?_
  refine go_bipush (pc := 4) (v := 15) dX10_check_4 (by decide) ?_
  refine go_iald (pc := 6) (gz_b (by omega)) ((hw 33 (by decide) (by decide)).trans (wl_at (i := 33) rfl)) (gv_in (by decide)) dX10_check_6 ?_
  refine go_top (y := 0) rfl ?_
  refine go_if_ne_f (pc := 7) (tgt := 13) dX10_check_7 (by decide) (by decide) ?_
  refine go_bipush (pc := 10) (v := (-104)) dX10_check_10 (by decide) ?_
  exact go_iret (pc := 12) rfl dX10_check_12
theorem cm_check {l : Launch} {G : gG} : CM l G mX10_check [.ref (G.2.1 + 32)] ((-104)) := by
  intro n k w hn hw
  exact ⟨0, 0, _, by decide, by decide, cm_check_o hn hw⟩
set_option maxRecDepth 100000 in
set_option maxHeartbeats 4000000 in
theorem cm_clear_o {l : Launch} {G : gG} {n k : Nat} {w : Nat → va_E} (hn : 42 ≤ n) (hw : ∀ i, 32 ≤ i → i < 42 → w (G.2.1 + i) = wl G.2.1 (LF G) (G.2.1 + i)) : Ct l G mX10_clear 0 0 [.ref (G.2.1 + 32)] n k w (some (.int 0), n, k, (va_up w (G.2.1 + 33) (ai G 26100 (upd (upd (sx 256) (11 : Int32).toNatClampNeg 0) (12 : Int32).toNatClampNeg 0)))) := by
  refine Ct.of (by decide) (Nat.le_of_ble_eq_true rfl) ⟨Nat.le_refl _, Nat.le_refl _⟩ ?_
  show Go l G mX10_clear _ 0 [(0, .ref (G.2.1 + 32))] [] n k w
  refine go_aload_n (pc := 0) dX10_clear_0 rfl rfl ?_
  refine go_get (pc := 1) fX10_9 rfl (gz_b (by omega)) ((hw 32 (by decide) (by decide)).trans (wl_at (i := 32) rfl)) rfl dX10_clear_1 ?_
  refine go_bipush (pc := 4) (v := 11) dX10_clear_4 (by decide) ?_
  refine go_iald (pc := 6) (gz_b (by omega)) ((hw 33 (by decide) (by decide)).trans (wl_at (i := 33) rfl)) (gv_in (by decide)) dX10_clear_6 ?_
  refine go_top (y := 0) rfl ?_
  refine go_istore_n (pc := 7) (lv' := [(1, .int 0), (0, .ref (G.2.1 + 32))]) dX10_clear_7 rfl (by decide) rfl ?_
  refine go_aload_n (pc := 8) dX10_clear_8 rfl rfl ?_
  refine go_get (pc := 9) fX10_9 rfl (gz_b (by omega)) ((hw 32 (by decide) (by decide)).trans (wl_at (i := 32) rfl)) rfl dX10_clear_9 ?_
  refine go_bipush (pc := 12) (v := 11) dX10_clear_12 (by decide) ?_
  refine go_iconst (pc := 14) (v := 0) dX10_clear_14 (by decide) ?_
  refine go_iast (pc := 15) (gz_b (by omega)) ((hw 33 (by decide) (by decide)).trans (wl_at (i := 33) rfl)) (gv_in (by decide)) dX10_clear_15 ?_
  refine go_aload_n (pc := 16) dX10_clear_16 rfl rfl ?_
  refine go_get (pc := 17) fX10_9 rfl (gz_b (by omega)) ((va_up_ne _ _ (gz_ne (by decide))).trans ((hw 32 (by decide) (by decide)).trans (wl_at (i := 32) rfl))) rfl dX10_clear_17 ?_
  refine go_bipush (pc := 20) (v := 12) dX10_clear_20 (by decide) ?_
  refine go_iconst (pc := 22) (v := 0) dX10_clear_22 (by decide) ?_
  refine go_iast (pc := 23) (gz_b (by omega)) (va_up_self _ _ _) (gv_in (by decide)) dX10_clear_23 ?_
  refine go_w (va_up_up _ _ _ _) ?_
  refine go_iload_n (pc := 24) dX10_clear_24 rfl rfl ?_
  exact go_iret (pc := 25) rfl dX10_clear_25
theorem cm_clear {l : Launch} {G : gG} : CM l G mX10_clear [.ref (G.2.1 + 32)] 0 := by
  intro n k w hn hw
  exact ⟨0, 0, _, by decide, by decide, cm_clear_o hn hw⟩
set_option maxRecDepth 100000 in
set_option maxHeartbeats 4000000 in
theorem cm_run_t {l : Launch} {G : gG} (x1 : Int32) (c0 : (if 0 ≤ x1 ∧ x1 ≤ 200 then (1 : Int32) else 0) = 0) {n k : Nat} {w : Nat → va_E} (hn : 42 ≤ n) (hw : ∀ i, 32 ≤ i → i < 42 → w (G.2.1 + i) = wl G.2.1 (LF G) (G.2.1 + i)) : Ct l G mX10_run 1 25 [.ref (G.2.1 + 32), .int x1] n k w (some (.int ((-102))), n, k, w) := by
  refine Ct.of (by decide) (Nat.le_of_ble_eq_true rfl) ⟨Nat.le_refl _, Nat.le_refl _⟩ ?_
  show Go l G mX10_run _ 0 [(0, .ref (G.2.1 + 32)), (1, .int x1)] [] n k w
  refine go_iload_n (pc := 0) dX10_run_0 rfl rfl ?_
  refine go_i2l (pc := 1) dX10_run_1 ?_
  refine go_lconst (pc := 2) (v := 0) dX10_run_2 (by decide) ?_
  refine go_ldc2 (pc := 3) rfl qX10_290 dX10_run_3 ?_
  refine go_callS_i (pc := 6) sX10_63 rfl (ct_in x1.toInt64 0 200) rfl rfl (Nat.le_of_ble_eq_true rfl) ⟨Nat.le_of_ble_eq_true rfl, Nat.le_of_ble_eq_true rfl, (Nat.le_add_right _ _), (Nat.le_add_right _ _)⟩ dX10_run_6 ?_
  refine go_top (y := (if 0 ≤ x1 ∧ x1 ≤ 200 then (1 : Int32) else 0)) (gi_in (by decide) (by decide)) ?_
  refine go_if_ne_f (pc := 9) (tgt := 15) dX10_run_9 (by decide) c0 ?_
  refine go_bipush (pc := 12) (v := (-102)) dX10_run_12 (by decide) ?_
  exact go_iret (pc := 14) rfl dX10_run_14
set_option maxRecDepth 100000 in
set_option maxHeartbeats 4000000 in
theorem cm_run_f {l : Launch} {G : gG} (x1 : Int32) (c0 : ¬ (if 0 ≤ x1 ∧ x1 ≤ 200 then (1 : Int32) else 0) = 0) {n k : Nat} {w : Nat → va_E} (hn : 42 ≤ n) (hw : ∀ i, 32 ≤ i → i < 42 → w (G.2.1 + i) = wl G.2.1 (LF G) (G.2.1 + i)) : Ct l G mX10_run 1 25 [.ref (G.2.1 + 32), .int x1] n k w (some (.int ((-104))), n, k, w) := by
  refine Ct.of (by decide) (Nat.le_of_ble_eq_true rfl) ⟨Nat.le_refl _, Nat.le_refl _⟩ ?_
  show Go l G mX10_run _ 0 [(0, .ref (G.2.1 + 32)), (1, .int x1)] [] n k w
  refine go_iload_n (pc := 0) dX10_run_0 rfl rfl ?_
  refine go_i2l (pc := 1) dX10_run_1 ?_
  refine go_lconst (pc := 2) (v := 0) dX10_run_2 (by decide) ?_
  refine go_ldc2 (pc := 3) rfl qX10_290 dX10_run_3 ?_
  refine go_callS_i (pc := 6) sX10_63 rfl (ct_in x1.toInt64 0 200) rfl rfl (Nat.le_of_ble_eq_true rfl) ⟨Nat.le_of_ble_eq_true rfl, Nat.le_of_ble_eq_true rfl, (Nat.le_add_right _ _), (Nat.le_add_right _ _)⟩ dX10_run_6 ?_
  refine go_top (y := (if 0 ≤ x1 ∧ x1 ≤ 200 then (1 : Int32) else 0)) (gi_in (by decide) (by decide)) ?_
  refine go_if_ne_t (pc := 9) (tgt := 15) dX10_run_9 (by decide) c0 ?_
  refine go_aload_n (pc := 15) dX10_run_15 rfl rfl ?_
  refine go_get (pc := 16) fX10_9 rfl (gz_b (by omega)) ((hw 32 (by decide) (by decide)).trans (wl_at (i := 32) rfl)) rfl dX10_run_16 ?_
  refine go_bipush (pc := 19) (v := 11) dX10_run_19 (by decide) ?_
  refine go_iald (pc := 21) (gz_b (by omega)) ((hw 33 (by decide) (by decide)).trans (wl_at (i := 33) rfl)) (gv_in (by decide)) dX10_run_21 ?_
  refine go_top (y := 0) rfl ?_
  refine go_if_ne_f (pc := 22) (tgt := 28) dX10_run_22 (by decide) (by decide) ?_
  refine go_bipush (pc := 25) (v := (-104)) dX10_run_25 (by decide) ?_
  exact go_iret (pc := 27) rfl dX10_run_27
theorem cm_run {l : Launch} {G : gG} (x1 : Int32) : CM l G mX10_run [.ref (G.2.1 + 32), .int x1] ((if (if 0 ≤ x1 ∧ x1 ≤ 200 then (1 : Int32) else 0) = 0 then (-102) else (-104))) := by
  intro n k w hn hw
  by_cases c0 : (if 0 ≤ x1 ∧ x1 ≤ 200 then (1 : Int32) else 0) = 0
  · rw [if_pos c0]
    exact ⟨1, 25, _, by decide, by decide, cm_run_t x1 c0 hn hw⟩
  · rw [if_neg c0]
    exact ⟨1, 25, _, by decide, by decide, cm_run_f x1 c0 hn hw⟩
set_option maxRecDepth 100000 in
set_option maxHeartbeats 4000000 in
theorem cm_found_o {l : Launch} {G : gG} {n k : Nat} {w : Nat → va_E} (hn : 42 ≤ n) (hw : ∀ i, 32 ≤ i → i < 42 → w (G.2.1 + i) = wl G.2.1 (LF G) (G.2.1 + i)) : Ct l G mX10_found 0 0 [.ref (G.2.1 + 32)] n k w (some (.int 0), n, k, w) := by
  refine Ct.of (by decide) (Nat.le_of_ble_eq_true rfl) ⟨Nat.le_refl _, Nat.le_refl _⟩ ?_
  show Go l G mX10_found _ 0 [(0, .ref (G.2.1 + 32))] [] n k w
  refine go_aload_n (pc := 0) dX10_found_0 rfl rfl ?_
  refine go_get (pc := 1) fX10_56 rfl (gz_b (by omega)) ((hw 32 (by decide) (by decide)).trans (wl_at (i := 32) rfl)) rfl dX10_found_1 ?_
  exact go_iret (pc := 4) rfl dX10_found_4
theorem cm_found {l : Launch} {G : gG} : CM l G mX10_found [.ref (G.2.1 + 32)] 0 := by
  intro n k w hn hw
  exact ⟨0, 0, _, by decide, by decide, cm_found_o hn hw⟩
set_option maxRecDepth 100000 in
set_option maxHeartbeats 4000000 in
theorem cX10_isRegister_1 {l : Launch} {G : gG} (x1 : Int32) {n k : Nat} {w : Nat → va_E} (hn : 42 ≤ n) (hw : ∀ i, 32 ≤ i → i < 42 → w (G.2.1 + i) = wl G.2.1 (LF G) (G.2.1 + i)) : Ct l G mX10_isRegister 1 25 [.int x1] n k w (some (.int ((if 0 ≤ x1 ∧ x1 ≤ 7 then (1 : Int32) else 0))), n, k, w) := by
  refine Ct.of (by decide) (Nat.le_of_ble_eq_true rfl) ⟨Nat.le_refl _, Nat.le_refl _⟩ ?_
  show Go l G mX10_isRegister _ 0 [(0, .int x1)] [] n k w
  refine go_iload_n (pc := 0) dX10_isRegister_0 rfl rfl ?_
  refine go_i2l (pc := 1) dX10_isRegister_1 ?_
  refine go_lconst (pc := 2) (v := 0) dX10_isRegister_2 (by decide) ?_
  refine go_ldc2 (pc := 3) rfl qX10_213 dX10_isRegister_3 ?_
  refine go_callS_i (pc := 6) sX10_63 rfl (ct_in x1.toInt64 0 7) rfl rfl (Nat.le_of_ble_eq_true rfl) ⟨Nat.le_of_ble_eq_true rfl, Nat.le_of_ble_eq_true rfl, (Nat.le_add_right _ _), (Nat.le_add_right _ _)⟩ dX10_isRegister_6 ?_
  refine go_top (y := (if 0 ≤ x1 ∧ x1 ≤ 7 then (1 : Int32) else 0)) (gi_in (by decide) (by decide)) ?_
  exact go_zret (pc := 9) rfl (gz_nb _) dX10_isRegister_9
set_option maxRecDepth 100000 in
set_option maxHeartbeats 4000000 in
theorem cm_register_t {l : Launch} {G : gG} (x1 : Int32) (c0 : (if 0 ≤ x1 ∧ x1 ≤ 7 then (1 : Int32) else 0) = 0) {n k : Nat} {w : Nat → va_E} (hn : 42 ≤ n) (hw : ∀ i, 32 ≤ i → i < 42 → w (G.2.1 + i) = wl G.2.1 (LF G) (G.2.1 + i)) : Ct l G mX10_register 2 45 [.ref (G.2.1 + 32), .int x1] n k w (some (.int ((-101))), n, k, w) := by
  refine Ct.of (by decide) (Nat.le_of_ble_eq_true rfl) ⟨Nat.le_refl _, Nat.le_refl _⟩ ?_
  show Go l G mX10_register _ 0 [(0, .ref (G.2.1 + 32)), (1, .int x1)] [] n k w
  refine go_iload_n (pc := 0) dX10_register_0 rfl rfl ?_
  refine go_callS_i (pc := 1) sX10_272 rfl (cX10_isRegister_1 x1 hn hw) rfl rfl (Nat.le_of_ble_eq_true rfl) ⟨Nat.le_of_ble_eq_true rfl, Nat.le_of_ble_eq_true rfl, (Nat.le_add_right _ _), (Nat.le_add_right _ _)⟩ dX10_register_1 ?_
  refine go_if_eq_t (pc := 4) (tgt := 15) dX10_register_4 (by decide) c0 ?_
  refine go_bipush (pc := 15) (v := (-101)) dX10_register_15 (by decide) ?_
  exact go_iret (pc := 17) rfl dX10_register_17
set_option maxRecDepth 100000 in
set_option maxHeartbeats 4000000 in
theorem cX10_reg_2 {l : Launch} {G : gG} (x1 : Int32) (c0 : ¬ (if 0 ≤ x1 ∧ x1 ≤ 7 then (1 : Int32) else 0) = 0) {n k : Nat} {w : Nat → va_E} (hn : 42 ≤ n) (hw : ∀ i, 32 ≤ i → i < 42 → w (G.2.1 + i) = wl G.2.1 (LF G) (G.2.1 + i)) : Ct l G mX10_reg 0 0 [.ref (G.2.1 + 32), .int x1] n k w (some (.int ((-1))), n, k, w) := by
  refine Ct.of (by decide) (Nat.le_of_ble_eq_true rfl) ⟨Nat.le_refl _, Nat.le_refl _⟩ ?_
  show Go l G mX10_reg _ 0 [(0, .ref (G.2.1 + 32)), (1, .int x1)] [] n k w
  refine go_aload_n (pc := 0) dX10_reg_0 rfl rfl ?_
  refine go_get (pc := 1) fX10_9 rfl (gz_b (by omega)) ((hw 32 (by decide) (by decide)).trans (wl_at (i := 32) rfl)) rfl dX10_reg_1 ?_
  refine go_bipush (pc := 4) (v := 76) dX10_reg_4 (by decide) ?_
  refine go_iload_n (pc := 6) dX10_reg_6 rfl rfl ?_
  refine go_iadd (pc := 7) dX10_reg_7 ?_
  refine go_iald (pc := 8) (gz_b (by omega)) ((hw 33 (by decide) (by decide)).trans (wl_at (i := 33) rfl)) (gv_s (o := 76) (B := 7) (by decide) (gi_of c0) (by decide) (by decide) (by decide)) dX10_reg_8 ?_
  refine go_top (y := (-1)) (sx_neg (o := 76) (B := 7) (by decide) (gi_of c0) (by decide) (by decide) (by decide)) ?_
  exact go_iret (pc := 9) rfl dX10_reg_9
set_option maxRecDepth 100000 in
set_option maxHeartbeats 4000000 in
theorem cm_register_f {l : Launch} {G : gG} (x1 : Int32) (c0 : ¬ (if 0 ≤ x1 ∧ x1 ≤ 7 then (1 : Int32) else 0) = 0) {n k : Nat} {w : Nat → va_E} (hn : 42 ≤ n) (hw : ∀ i, 32 ≤ i → i < 42 → w (G.2.1 + i) = wl G.2.1 (LF G) (G.2.1 + i)) : Ct l G mX10_register 2 45 [.ref (G.2.1 + 32), .int x1] n k w (some (.int ((-1))), n, k, w) := by
  refine Ct.of (by decide) (Nat.le_of_ble_eq_true rfl) ⟨Nat.le_refl _, Nat.le_refl _⟩ ?_
  show Go l G mX10_register _ 0 [(0, .ref (G.2.1 + 32)), (1, .int x1)] [] n k w
  refine go_iload_n (pc := 0) dX10_register_0 rfl rfl ?_
  refine go_callS_i (pc := 1) sX10_272 rfl (cX10_isRegister_1 x1 hn hw) rfl rfl (Nat.le_of_ble_eq_true rfl) ⟨Nat.le_of_ble_eq_true rfl, Nat.le_of_ble_eq_true rfl, (Nat.le_add_right _ _), (Nat.le_add_right _ _)⟩ dX10_register_1 ?_
  refine go_if_eq_f (pc := 4) (tgt := 15) dX10_register_4 (by decide) c0 ?_
  refine go_aload_n (pc := 7) dX10_register_7 rfl rfl ?_
  refine go_iload_n (pc := 8) dX10_register_8 rfl rfl ?_
  refine go_callV_i (pc := 9) vX10_287 rfl (cX10_reg_2 x1 c0 hn hw) rfl rfl (gz_b (by omega)) ((hw 32 (by decide) (by decide)).trans (wl_at (i := 32) rfl)) rfl (Nat.le_of_ble_eq_true rfl) ⟨Nat.le_of_ble_eq_true rfl, Nat.le_of_ble_eq_true rfl, (Nat.le_add_right _ _), (Nat.le_add_right _ _)⟩ dX10_register_9 ?_
  refine go_goto (pc := 12) (tgt := 17) dX10_register_12 (by decide) ?_
  exact go_iret (pc := 17) rfl dX10_register_17
theorem cm_register {l : Launch} {G : gG} (x1 : Int32) : CM l G mX10_register [.ref (G.2.1 + 32), .int x1] ((if (if 0 ≤ x1 ∧ x1 ≤ 7 then (1 : Int32) else 0) = 0 then (-101) else (-1))) := by
  intro n k w hn hw
  by_cases c0 : (if 0 ≤ x1 ∧ x1 ≤ 7 then (1 : Int32) else 0) = 0
  · rw [if_pos c0]
    exact ⟨2, 45, _, by decide, by decide, cm_register_t x1 c0 hn hw⟩
  · rw [if_neg c0]
    exact ⟨2, 45, _, by decide, by decide, cm_register_f x1 c0 hn hw⟩
set_option maxRecDepth 100000 in
set_option maxHeartbeats 4000000 in
theorem cm_load_o {l : Launch} {G : gG} {n k : Nat} {w : Nat → va_E} (hn : 42 ≤ n) (hw : ∀ i, 32 ≤ i → i < 42 → w (G.2.1 + i) = wl G.2.1 (LF G) (G.2.1 + i)) : Ct l G mX10_load 0 0 [.ref (G.2.1 + 32)] n k w (some (.int ((-104))), n, k, w) := by
  refine Ct.of (by decide) (Nat.le_of_ble_eq_true rfl) ⟨Nat.le_refl _, Nat.le_refl _⟩ ?_
  show Go l G mX10_load _ 0 [(0, .ref (G.2.1 + 32))] [] n k w
  refine go_aload_n (pc := 0) dX10_load_0 rfl rfl ?_
  refine go_get (pc := 1) fX10_42 rfl (gz_b (by omega)) ((hw 32 (by decide) (by decide)).trans (wl_at (i := 32) rfl)) rfl dX10_load_1 ?_
  refine go_if_ne_f (pc := 4) (tgt := 10) dX10_load_4 (by decide) (by decide) ?_
  refine go_bipush (pc := 7) (v := (-104)) dX10_load_7 (by decide) ?_
  exact go_iret (pc := 9) rfl dX10_load_9
theorem cm_load {l : Launch} {G : gG} : CM l G mX10_load [.ref (G.2.1 + 32)] ((-104)) := by
  intro n k w hn hw
  exact ⟨0, 0, _, by decide, by decide, cm_load_o hn hw⟩
set_option maxRecDepth 100000 in
set_option maxHeartbeats 4000000 in
theorem cm_undoStep_o {l : Launch} {G : gG} {n k : Nat} {w : Nat → va_E} (hn : 42 ≤ n) (hw : ∀ i, 32 ≤ i → i < 42 → w (G.2.1 + i) = wl G.2.1 (LF G) (G.2.1 + i)) : Ct l G mX10_undoStep 0 0 [.ref (G.2.1 + 32)] n k w (some (.int ((-104))), n, k, w) := by
  refine Ct.of (by decide) (Nat.le_of_ble_eq_true rfl) ⟨Nat.le_refl _, Nat.le_refl _⟩ ?_
  show Go l G mX10_undoStep _ 0 [(0, .ref (G.2.1 + 32))] [] n k w
  refine go_aload_n (pc := 0) dX10_undoStep_0 rfl rfl ?_
  refine go_get (pc := 1) fX10_46 rfl (gz_b (by omega)) ((hw 32 (by decide) (by decide)).trans (wl_at (i := 32) rfl)) rfl dX10_undoStep_1 ?_
  refine go_if_ne_f (pc := 4) (tgt := 10) dX10_undoStep_4 (by decide) (by decide) ?_
  refine go_bipush (pc := 7) (v := (-104)) dX10_undoStep_7 (by decide) ?_
  exact go_iret (pc := 9) rfl dX10_undoStep_9
theorem cm_undoStep {l : Launch} {G : gG} : CM l G mX10_undoStep [.ref (G.2.1 + 32)] ((-104)) := by
  intro n k w hn hw
  exact ⟨0, 0, _, by decide, by decide, cm_undoStep_o hn hw⟩
set_option maxRecDepth 100000 in
set_option maxHeartbeats 4000000 in
theorem cm_finding_o {l : Launch} {G : gG} {n k : Nat} {w : Nat → va_E} (hn : 42 ≤ n) (hw : ∀ i, 32 ≤ i → i < 42 → w (G.2.1 + i) = wl G.2.1 (LF G) (G.2.1 + i)) : Ct l G mX10_finding 0 0 [.ref (G.2.1 + 32)] n k w (some (.int 0), n, k, w) := by
  refine Ct.of (by decide) (Nat.le_of_ble_eq_true rfl) ⟨Nat.le_refl _, Nat.le_refl _⟩ ?_
  show Go l G mX10_finding _ 0 [(0, .ref (G.2.1 + 32))] [] n k w
  refine go_aload_n (pc := 0) dX10_finding_0 rfl rfl ?_
  refine go_get (pc := 1) fX10_49 rfl (gz_b (by omega)) ((hw 32 (by decide) (by decide)).trans (wl_at (i := 32) rfl)) rfl dX10_finding_1 ?_
  exact go_iret (pc := 4) rfl dX10_finding_4
theorem cm_finding {l : Launch} {G : gG} : CM l G mX10_finding [.ref (G.2.1 + 32)] 0 := by
  intro n k w hn hw
  exact ⟨0, 0, _, by decide, by decide, cm_finding_o hn hw⟩
set_option maxRecDepth 100000 in
set_option maxHeartbeats 4000000 in
theorem cm_trace_t {l : Launch} {G : gG} (x1 : Int32) (c0 : (if 0 ≤ x1 ∧ x1 ≤ 13 then (1 : Int32) else 0) = 0) {n k : Nat} {w : Nat → va_E} (hn : 42 ≤ n) (hw : ∀ i, 32 ≤ i → i < 42 → w (G.2.1 + i) = wl G.2.1 (LF G) (G.2.1 + i)) : Ct l G mX10_trace 1 25 [.ref (G.2.1 + 32), .int x1] n k w (some (.int ((-101))), n, k, w) := by
  refine Ct.of (by decide) (Nat.le_of_ble_eq_true rfl) ⟨Nat.le_refl _, Nat.le_refl _⟩ ?_
  show Go l G mX10_trace _ 0 [(0, .ref (G.2.1 + 32)), (1, .int x1)] [] n k w
  refine go_iload_n (pc := 0) dX10_trace_0 rfl rfl ?_
  refine go_i2l (pc := 1) dX10_trace_1 ?_
  refine go_lconst (pc := 2) (v := 0) dX10_trace_2 (by decide) ?_
  refine go_ldc2 (pc := 3) rfl qX10_303 dX10_trace_3 ?_
  refine go_callS_i (pc := 6) sX10_63 rfl (ct_in x1.toInt64 0 13) rfl rfl (Nat.le_of_ble_eq_true rfl) ⟨Nat.le_of_ble_eq_true rfl, Nat.le_of_ble_eq_true rfl, (Nat.le_add_right _ _), (Nat.le_add_right _ _)⟩ dX10_trace_6 ?_
  refine go_top (y := (if 0 ≤ x1 ∧ x1 ≤ 13 then (1 : Int32) else 0)) (gi_in (by decide) (by decide)) ?_
  refine go_if_eq_t (pc := 9) (tgt := 21) dX10_trace_9 (by decide) c0 ?_
  refine go_bipush (pc := 21) (v := (-101)) dX10_trace_21 (by decide) ?_
  exact go_iret (pc := 23) rfl dX10_trace_23
set_option maxRecDepth 100000 in
set_option maxHeartbeats 4000000 in
theorem cm_trace_f {l : Launch} {G : gG} (x1 : Int32) (c0 : ¬ (if 0 ≤ x1 ∧ x1 ≤ 13 then (1 : Int32) else 0) = 0) {n k : Nat} {w : Nat → va_E} (hn : 42 ≤ n) (hw : ∀ i, 32 ≤ i → i < 42 → w (G.2.1 + i) = wl G.2.1 (LF G) (G.2.1 + i)) : Ct l G mX10_trace 1 25 [.ref (G.2.1 + 32), .int x1] n k w (some (.int 0), n, k, w) := by
  refine Ct.of (by decide) (Nat.le_of_ble_eq_true rfl) ⟨Nat.le_refl _, Nat.le_refl _⟩ ?_
  show Go l G mX10_trace _ 0 [(0, .ref (G.2.1 + 32)), (1, .int x1)] [] n k w
  refine go_iload_n (pc := 0) dX10_trace_0 rfl rfl ?_
  refine go_i2l (pc := 1) dX10_trace_1 ?_
  refine go_lconst (pc := 2) (v := 0) dX10_trace_2 (by decide) ?_
  refine go_ldc2 (pc := 3) rfl qX10_303 dX10_trace_3 ?_
  refine go_callS_i (pc := 6) sX10_63 rfl (ct_in x1.toInt64 0 13) rfl rfl (Nat.le_of_ble_eq_true rfl) ⟨Nat.le_of_ble_eq_true rfl, Nat.le_of_ble_eq_true rfl, (Nat.le_add_right _ _), (Nat.le_add_right _ _)⟩ dX10_trace_6 ?_
  refine go_top (y := (if 0 ≤ x1 ∧ x1 ≤ 13 then (1 : Int32) else 0)) (gi_in (by decide) (by decide)) ?_
  refine go_if_eq_f (pc := 9) (tgt := 21) dX10_trace_9 (by decide) c0 ?_
  refine go_aload_n (pc := 12) dX10_trace_12 rfl rfl ?_
  refine go_get (pc := 13) fX10_19 rfl (gz_b (by omega)) ((hw 32 (by decide) (by decide)).trans (wl_at (i := 32) rfl)) rfl dX10_trace_13 ?_
  refine go_iload_n (pc := 16) dX10_trace_16 rfl rfl ?_
  refine go_iald (pc := 17) (gz_b (by omega)) ((hw 36 (by decide) (by decide)).trans (wl_at (i := 36) rfl)) (gv_s0 (B := 13) (gi_of c0) (by decide) (by decide) (by decide)) dX10_trace_17 ?_
  refine go_top (y := 0) rfl ?_
  refine go_goto (pc := 18) (tgt := 23) dX10_trace_18 (by decide) ?_
  exact go_iret (pc := 23) rfl dX10_trace_23
theorem cm_trace {l : Launch} {G : gG} (x1 : Int32) : CM l G mX10_trace [.ref (G.2.1 + 32), .int x1] ((if (if 0 ≤ x1 ∧ x1 ≤ 13 then (1 : Int32) else 0) = 0 then (-101) else 0)) := by
  intro n k w hn hw
  by_cases c0 : (if 0 ≤ x1 ∧ x1 ≤ 13 then (1 : Int32) else 0) = 0
  · rw [if_pos c0]
    exact ⟨1, 25, _, by decide, by decide, cm_trace_t x1 c0 hn hw⟩
  · rw [if_neg c0]
    exact ⟨1, 25, _, by decide, by decide, cm_trace_f x1 c0 hn hw⟩
set_option maxRecDepth 100000 in
set_option maxHeartbeats 4000000 in
theorem cm_plain_o {l : Launch} {G : gG} {n k : Nat} {w : Nat → va_E} (hn : 42 ≤ n) (hw : ∀ i, 32 ≤ i → i < 42 → w (G.2.1 + i) = wl G.2.1 (LF G) (G.2.1 + i)) : Ct l G mX10_plain 0 0 [.ref (G.2.1 + 32)] n k w (some (.int 0), n, k, w) := by
  refine Ct.of (by decide) (Nat.le_of_ble_eq_true rfl) ⟨Nat.le_refl _, Nat.le_refl _⟩ ?_
  show Go l G mX10_plain _ 0 [(0, .ref (G.2.1 + 32))] [] n k w
  refine go_iconst (pc := 0) (v := 0) dX10_plain_0 (by decide) ?_
  refine go_istore_n (pc := 1) (lv' := [(1, .int 0), (0, .ref (G.2.1 + 32))]) dX10_plain_1 rfl (by decide) rfl ?_
  refine go_iconst (pc := 2) (v := 0) dX10_plain_2 (by decide) ?_
  refine go_istore_n (pc := 3) (lv' := [(2, .int 0), (1, .int 0), (0, .ref (G.2.1 + 32))]) dX10_plain_3 rfl (by decide) rfl ?_
  refine go_iload_n (pc := 4) dX10_plain_4 rfl rfl ?_
  refine go_aload_n (pc := 5) dX10_plain_5 rfl rfl ?_
  refine go_get (pc := 6) fX10_9 rfl (gz_b (by omega)) ((hw 32 (by decide) (by decide)).trans (wl_at (i := 32) rfl)) rfl dX10_plain_6 ?_
  refine go_bipush (pc := 9) (v := 15) dX10_plain_9 (by decide) ?_
  refine go_iald (pc := 11) (gz_b (by omega)) ((hw 33 (by decide) (by decide)).trans (wl_at (i := 33) rfl)) (gv_in (by decide)) dX10_plain_11 ?_
  refine go_top (y := 0) rfl ?_
  refine go_icmp_ge_t (pc := 12) (tgt := 72) dX10_plain_12 (by decide) (by decide) ?_
  refine go_iload_n (pc := 72) dX10_plain_72 rfl rfl ?_
  exact go_iret (pc := 73) rfl dX10_plain_73
theorem cm_plain {l : Launch} {G : gG} : CM l G mX10_plain [.ref (G.2.1 + 32)] 0 := by
  intro n k w hn hw
  exact ⟨0, 0, _, by decide, by decide, cm_plain_o hn hw⟩

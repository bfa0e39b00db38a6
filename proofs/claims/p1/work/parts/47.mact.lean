/-! public methods on the fresh world, laid by wip/tools/p1gen.py -/
set_option maxRecDepth 100000 in
set_option maxHeartbeats 4000000 in
theorem cX10_isRegister_2 {l : Launch} {G : gG} (x2 : Int32) {n k : Nat} {w : Nat → va_E} (hn : 42 ≤ n) (hw : ∀ i, 32 ≤ i → i < 42 → w (G.2.1 + i) = wl G.2.1 (LF G) (G.2.1 + i)) : Ct l G mX10_isRegister 1 25 [.int x2] n k w (some (.int ((if 0 ≤ x2 ∧ x2 ≤ 7 then (1 : Int32) else 0))), n, k, w) := by
  refine Ct.of (by decide) (Nat.le_of_ble_eq_true rfl) ⟨Nat.le_refl _, Nat.le_refl _⟩ ?_
  show Go l G mX10_isRegister _ 0 [(0, .int x2)] [] n k w
  refine go_iload_n (pc := 0) dX10_isRegister_0 rfl rfl ?_
  refine go_i2l (pc := 1) dX10_isRegister_1 ?_
  refine go_lconst (pc := 2) (v := 0) dX10_isRegister_2 (by decide) ?_
  refine go_ldc2 (pc := 3) rfl qX10_213 dX10_isRegister_3 ?_
  refine go_callS_i (pc := 6) sX10_63 rfl (ct_in x2.toInt64 0 7) rfl rfl (Nat.le_of_ble_eq_true rfl) ⟨Nat.le_of_ble_eq_true rfl, Nat.le_of_ble_eq_true rfl, (Nat.le_add_right _ _), (Nat.le_add_right _ _)⟩ dX10_isRegister_6 ?_
  refine go_top (y := (if 0 ≤ x2 ∧ x2 ≤ 7 then (1 : Int32) else 0)) (gi_in (by decide) (by decide)) ?_
  exact go_zret (pc := 9) rfl (gz_nb _) dX10_isRegister_9
set_option maxRecDepth 100000 in
set_option maxHeartbeats 4000000 in
theorem cX10_areKnown_1 {l : Launch} {G : gG} (x2 : Int32) (x3 : Int32) (x4 : Int32) {n k : Nat} {w : Nat → va_E} (hn : 42 ≤ n) (hw : ∀ i, 32 ≤ i → i < 42 → w (G.2.1 + i) = wl G.2.1 (LF G) (G.2.1 + i)) : Ct l G mX10_areKnown 2 45 [.int 0, .int x2, .int x3, .int x4] n k w (some (.int ((if 0 ≤ x2 ∧ x2 ≤ 7 then (1 : Int32) else 0))), n, k, w) := by
  refine Ct.of (by decide) (Nat.le_of_ble_eq_true rfl) ⟨Nat.le_refl _, Nat.le_refl _⟩ ?_
  show Go l G mX10_areKnown _ 0 [(0, .int 0), (1, .int x2), (2, .int x3), (3, .int x4)] [] n k w
  refine go_iload_n (pc := 0) dX10_areKnown_0 rfl rfl ?_
  refine go_tableIn (pc := 1) (off := 67) (tgt := 68) dX10_areKnown_1 (by decide) (by decide) (by decide) (by decide) ?_
  refine go_iload_n (pc := 68) dX10_areKnown_68 rfl rfl ?_
  refine go_callS_i (pc := 69) sX10_272 rfl (cX10_isRegister_2 x2 hn hw) rfl rfl (Nat.le_of_ble_eq_true rfl) ⟨Nat.le_of_ble_eq_true rfl, Nat.le_of_ble_eq_true rfl, (Nat.le_add_right _ _), (Nat.le_add_right _ _)⟩ dX10_areKnown_69 ?_
  exact go_zret (pc := 72) rfl (gz_nb _) dX10_areKnown_72
set_option maxRecDepth 100000 in
set_option maxHeartbeats 4000000 in
theorem cm_act_0_t {l : Launch} {G : gG} (x2 : Int32) (x3 : Int32) (x4 : Int32) (x5 : Int32) (c0 : (if 0 ≤ x2 ∧ x2 ≤ 7 then (1 : Int32) else 0) = 0) {n k : Nat} {w : Nat → va_E} (hn : 42 ≤ n) (hw : ∀ i, 32 ≤ i → i < 42 → w (G.2.1 + i) = wl G.2.1 (LF G) (G.2.1 + i)) : Ct l G mX10_act 3 68 [.ref (G.2.1 + 32), .int 0, .int x2, .int x3, .int x4, .int x5] n k w (some (.int ((-101))), n, k, w) := by
  refine Ct.of (by decide) (Nat.le_of_ble_eq_true rfl) ⟨Nat.le_refl _, Nat.le_refl _⟩ ?_
  show Go l G mX10_act _ 0 [(0, .ref (G.2.1 + 32)), (1, .int 0), (2, .int x2), (3, .int x3), (4, .int x4), (5, .int x5)] [] n k w
  refine go_iload_n (pc := 0) dX10_act_0 rfl rfl ?_
  refine go_iload_n (pc := 1) dX10_act_1 rfl rfl ?_
  refine go_iload_n (pc := 2) dX10_act_2 rfl rfl ?_
  refine go_iload (pc := 3) dX10_act_3 rfl ?_
  refine go_callS_i (pc := 5) sX10_275 rfl (cX10_areKnown_1 x2 x3 x4 hn hw) rfl rfl (Nat.le_of_ble_eq_true rfl) ⟨Nat.le_of_ble_eq_true rfl, Nat.le_of_ble_eq_true rfl, (Nat.le_add_right _ _), (Nat.le_add_right _ _)⟩ dX10_act_5 ?_
  refine go_if_ne_f (pc := 8) (tgt := 14) dX10_act_8 (by decide) c0 ?_
  refine go_bipush (pc := 11) (v := (-101)) dX10_act_11 (by decide) ?_
  exact go_iret (pc := 13) rfl dX10_act_13
set_option maxRecDepth 100000 in
set_option maxHeartbeats 4000000 in
theorem cm_act_0_ft {l : Launch} {G : gG} (x2 : Int32) (x3 : Int32) (x4 : Int32) (x5 : Int32) (c0 : ¬ (if 0 ≤ x2 ∧ x2 ≤ 7 then (1 : Int32) else 0) = 0) (c1 : (if 0 ≤ x3 ∧ x3 ≤ 5 then (1 : Int32) else 0) = 0) {n k : Nat} {w : Nat → va_E} (hn : 42 ≤ n) (hw : ∀ i, 32 ≤ i → i < 42 → w (G.2.1 + i) = wl G.2.1 (LF G) (G.2.1 + i)) : Ct l G mX10_act 3 68 [.ref (G.2.1 + 32), .int 0, .int x2, .int x3, .int x4, .int x5] n k w (some (.int ((-102))), n, k, w) := by
  refine Ct.of (by decide) (Nat.le_of_ble_eq_true rfl) ⟨Nat.le_refl _, Nat.le_refl _⟩ ?_
  show Go l G mX10_act _ 0 [(0, .ref (G.2.1 + 32)), (1, .int 0), (2, .int x2), (3, .int x3), (4, .int x4), (5, .int x5)] [] n k w
  refine go_iload_n (pc := 0) dX10_act_0 rfl rfl ?_
  refine go_iload_n (pc := 1) dX10_act_1 rfl rfl ?_
  refine go_iload_n (pc := 2) dX10_act_2 rfl rfl ?_
  refine go_iload (pc := 3) dX10_act_3 rfl ?_
  refine go_callS_i (pc := 5) sX10_275 rfl (cX10_areKnown_1 x2 x3 x4 hn hw) rfl rfl (Nat.le_of_ble_eq_true rfl) ⟨Nat.le_of_ble_eq_true rfl, Nat.le_of_ble_eq_true rfl, (Nat.le_add_right _ _), (Nat.le_add_right _ _)⟩ dX10_act_5 ?_
  refine go_if_ne_t (pc := 8) (tgt := 14) dX10_act_8 (by decide) c0 ?_
  refine go_iload_n (pc := 14) dX10_act_14 rfl rfl ?_
  refine go_i2l (pc := 15) dX10_act_15 ?_
  refine go_topl (y := 0) (by decide) ?_
  refine go_lconst (pc := 16) (v := 0) dX10_act_16 (by decide) ?_
  refine go_ldc2 (pc := 17) rfl qX10_279 dX10_act_17 ?_
  refine go_callS_i (pc := 20) sX10_63 rfl (ct_in 0 0 12) rfl rfl (Nat.le_of_ble_eq_true rfl) ⟨Nat.le_of_ble_eq_true rfl, Nat.le_of_ble_eq_true rfl, (Nat.le_add_right _ _), (Nat.le_add_right _ _)⟩ dX10_act_20 ?_
  refine go_top (y := 1) (by decide) ?_
  refine go_if_eq_f (pc := 23) (tgt := 75) dX10_act_23 (by decide) (by decide) ?_
  refine go_iload_n (pc := 26) dX10_act_26 rfl rfl ?_
  refine go_if_ne_f (pc := 27) (tgt := 57) dX10_act_27 (by decide) (by decide) ?_
  refine go_iload_n (pc := 30) dX10_act_30 rfl rfl ?_
  refine go_i2l (pc := 31) dX10_act_31 ?_
  refine go_lconst (pc := 32) (v := 0) dX10_act_32 (by decide) ?_
  refine go_ldc2 (pc := 33) rfl qX10_150 dX10_act_33 ?_
  refine go_callS_i (pc := 36) sX10_63 rfl (ct_in x3.toInt64 0 5) rfl rfl (Nat.le_of_ble_eq_true rfl) ⟨Nat.le_of_ble_eq_true rfl, Nat.le_of_ble_eq_true rfl, (Nat.le_add_right _ _), (Nat.le_add_right _ _)⟩ dX10_act_36 ?_
  refine go_top (y := (if 0 ≤ x3 ∧ x3 ≤ 5 then (1 : Int32) else 0)) (gi_in (by decide) (by decide)) ?_
  refine go_if_eq_t (pc := 39) (tgt := 75) dX10_act_39 (by decide) c1 ?_
  refine go_bipush (pc := 75) (v := (-102)) dX10_act_75 (by decide) ?_
  exact go_iret (pc := 77) rfl dX10_act_77
set_option maxRecDepth 100000 in
set_option maxHeartbeats 4000000 in
theorem cX10_hasMany_1 {l : Launch} {G : gG} (x3 : Int32) {n k : Nat} {w : Nat → va_E} (hn : 42 ≤ n) (hw : ∀ i, 32 ≤ i → i < 42 → w (G.2.1 + i) = wl G.2.1 (LF G) (G.2.1 + i)) : Ct l G mX10_hasMany 0 0 [.int x3] n k w (some (.int ((if x3 = 1 then (1 : Int32) else (if x3 = 2 then (1 : Int32) else (if x3 = 5 then (1 : Int32) else 0))))), n, k, w) := by
  refine Ct.of (by decide) (Nat.le_of_ble_eq_true rfl) ⟨Nat.le_refl _, Nat.le_refl _⟩ ?_
  show Go l G mX10_hasMany _ 0 [(0, .int x3)] [] n k w
  refine go_iload_n (pc := 0) dX10_hasMany_0 rfl rfl ?_
  refine go_iconst (pc := 1) (v := 1) dX10_hasMany_1 (by decide) ?_
  refine go_icmp_eq (pc := 2) (tgt := 15) dX10_hasMany_2 (by decide) (fun c0 => ?_) (fun c0 => ?_)
  · refine go_iconst (pc := 15) (v := 1) dX10_hasMany_15 (by decide) ?_
    refine go_goto (pc := 16) (tgt := 20) dX10_hasMany_16 (by decide) ?_
    refine go_eq (r' := (some (.int 1), _, _, _)) (by rw [if_pos c0]) ?_
    exact go_zret (pc := 20) rfl rfl dX10_hasMany_20
  · refine go_iload_n (pc := 5) dX10_hasMany_5 rfl rfl ?_
    refine go_iconst (pc := 6) (v := 2) dX10_hasMany_6 (by decide) ?_
    refine go_icmp_eq (pc := 7) (tgt := 15) dX10_hasMany_7 (by decide) (fun c1 => ?_) (fun c1 => ?_)
    · refine go_iconst (pc := 15) (v := 1) dX10_hasMany_15 (by decide) ?_
      refine go_goto (pc := 16) (tgt := 20) dX10_hasMany_16 (by decide) ?_
      refine go_eq (r' := (some (.int 1), _, _, _)) (by rw [if_neg c0, if_pos c1]) ?_
      exact go_zret (pc := 20) rfl rfl dX10_hasMany_20
    · refine go_iload_n (pc := 10) dX10_hasMany_10 rfl rfl ?_
      refine go_iconst (pc := 11) (v := 5) dX10_hasMany_11 (by decide) ?_
      refine go_icmp_ne (pc := 12) (tgt := 19) dX10_hasMany_12 (by decide) (fun c2 => ?_) (fun c2 => ?_)
      · refine go_iconst (pc := 19) (v := 0) dX10_hasMany_19 (by decide) ?_
        refine go_eq (r' := (some (.int 0), _, _, _)) (by rw [if_neg c0, if_neg c1, if_neg c2]) ?_
        exact go_zret (pc := 20) rfl rfl dX10_hasMany_20
      · refine go_iconst (pc := 15) (v := 1) dX10_hasMany_15 (by decide) ?_
        refine go_goto (pc := 16) (tgt := 20) dX10_hasMany_16 (by decide) ?_
        refine go_eq (r' := (some (.int 1), _, _, _)) (by rw [if_neg c0, if_neg c1, if_pos c2]) ?_
        exact go_zret (pc := 20) rfl rfl dX10_hasMany_20
set_option maxRecDepth 100000 in
set_option maxHeartbeats 4000000 in
theorem cm_act_0_fft {l : Launch} {G : gG} (x2 : Int32) (x3 : Int32) (x4 : Int32) (x5 : Int32) (c0 : ¬ (if 0 ≤ x2 ∧ x2 ≤ 7 then (1 : Int32) else 0) = 0) (c1 : ¬ (if 0 ≤ x3 ∧ x3 ≤ 5 then (1 : Int32) else 0) = 0) (c2 : (if x3 = 1 then (1 : Int32) else (if x3 = 2 then (1 : Int32) else (if x3 = 5 then (1 : Int32) else 0))) = 0) {n k : Nat} {w : Nat → va_E} (hn : 42 ≤ n) (hw : ∀ i, 32 ≤ i → i < 42 → w (G.2.1 + i) = wl G.2.1 (LF G) (G.2.1 + i)) : Ct l G mX10_act 3 68 [.ref (G.2.1 + 32), .int 0, .int x2, .int x3, .int x4, .int x5] n k w (some (.int 1), n, k, (va_up w (G.2.1 + 33) (ai G 26100 (upd (upd (upd (upd (upd (upd (sx 256) (400 : Int32).toNatClampNeg 0) (401 : Int32).toNatClampNeg x2) (402 : Int32).toNatClampNeg x3) (403 : Int32).toNatClampNeg x4) (404 : Int32).toNatClampNeg x5) (11 : Int32).toNatClampNeg 1)))) := by
  refine Ct.of (by decide) (Nat.le_of_ble_eq_true rfl) ⟨Nat.le_refl _, Nat.le_refl _⟩ ?_
  show Go l G mX10_act _ 0 [(0, .ref (G.2.1 + 32)), (1, .int 0), (2, .int x2), (3, .int x3), (4, .int x4), (5, .int x5)] [] n k w
  refine go_iload_n (pc := 0) dX10_act_0 rfl rfl ?_
  refine go_iload_n (pc := 1) dX10_act_1 rfl rfl ?_
  refine go_iload_n (pc := 2) dX10_act_2 rfl rfl ?_
  refine go_iload (pc := 3) dX10_act_3 rfl ?_
  refine go_callS_i (pc := 5) sX10_275 rfl (cX10_areKnown_1 x2 x3 x4 hn hw) rfl rfl (Nat.le_of_ble_eq_true rfl) ⟨Nat.le_of_ble_eq_true rfl, Nat.le_of_ble_eq_true rfl, (Nat.le_add_right _ _), (Nat.le_add_right _ _)⟩ dX10_act_5 ?_
  refine go_if_ne_t (pc := 8) (tgt := 14) dX10_act_8 (by decide) c0 ?_
  refine go_iload_n (pc := 14) dX10_act_14 rfl rfl ?_
  refine go_i2l (pc := 15) dX10_act_15 ?_
  refine go_topl (y := 0) (by decide) ?_
  refine go_lconst (pc := 16) (v := 0) dX10_act_16 (by decide) ?_
  refine go_ldc2 (pc := 17) rfl qX10_279 dX10_act_17 ?_
  refine go_callS_i (pc := 20) sX10_63 rfl (ct_in 0 0 12) rfl rfl (Nat.le_of_ble_eq_true rfl) ⟨Nat.le_of_ble_eq_true rfl, Nat.le_of_ble_eq_true rfl, (Nat.le_add_right _ _), (Nat.le_add_right _ _)⟩ dX10_act_20 ?_
  refine go_top (y := 1) (by decide) ?_
  refine go_if_eq_f (pc := 23) (tgt := 75) dX10_act_23 (by decide) (by decide) ?_
  refine go_iload_n (pc := 26) dX10_act_26 rfl rfl ?_
  refine go_if_ne_f (pc := 27) (tgt := 57) dX10_act_27 (by decide) (by decide) ?_
  refine go_iload_n (pc := 30) dX10_act_30 rfl rfl ?_
  refine go_i2l (pc := 31) dX10_act_31 ?_
  refine go_lconst (pc := 32) (v := 0) dX10_act_32 (by decide) ?_
  refine go_ldc2 (pc := 33) rfl qX10_150 dX10_act_33 ?_
  refine go_callS_i (pc := 36) sX10_63 rfl (ct_in x3.toInt64 0 5) rfl rfl (Nat.le_of_ble_eq_true rfl) ⟨Nat.le_of_ble_eq_true rfl, Nat.le_of_ble_eq_true rfl, (Nat.le_add_right _ _), (Nat.le_add_right _ _)⟩ dX10_act_36 ?_
  refine go_top (y := (if 0 ≤ x3 ∧ x3 ≤ 5 then (1 : Int32) else 0)) (gi_in (by decide) (by decide)) ?_
  refine go_if_eq_f (pc := 39) (tgt := 75) dX10_act_39 (by decide) c1 ?_
  refine go_iload_n (pc := 42) dX10_act_42 rfl rfl ?_
  refine go_callS_i (pc := 43) sX10_138 rfl (cX10_hasMany_1 x3 hn hw) rfl rfl (Nat.le_of_ble_eq_true rfl) ⟨Nat.le_of_ble_eq_true rfl, Nat.le_of_ble_eq_true rfl, (Nat.le_add_right _ _), (Nat.le_add_right _ _)⟩ dX10_act_43 ?_
  refine go_if_eq_t (pc := 46) (tgt := 57) dX10_act_46 (by decide) c2 ?_
  refine go_iload_n (pc := 57) dX10_act_57 rfl rfl ?_
  refine go_bipush (pc := 58) (v := 9) dX10_act_58 (by decide) ?_
  refine go_icmp_ne_t (pc := 60) (tgt := 78) dX10_act_60 (by decide) (by decide) ?_
  refine go_aload_n (pc := 78) dX10_act_78 rfl rfl ?_
  refine go_get (pc := 79) fX10_9 rfl (gz_b (by omega)) ((hw 32 (by decide) (by decide)).trans (wl_at (i := 32) rfl)) rfl dX10_act_79 ?_
  refine go_bipush (pc := 82) (v := 11) dX10_act_82 (by decide) ?_
  refine go_iald (pc := 84) (gz_b (by omega)) ((hw 33 (by decide) (by decide)).trans (wl_at (i := 33) rfl)) (gv_in (by decide)) dX10_act_84 ?_
  refine go_top (y := 0) rfl ?_
  refine go_bipush (pc := 85) (v := 40) dX10_act_85 (by decide) ?_
  refine go_icmp_ne_t (pc := 87) (tgt := 93) dX10_act_87 (by decide) (by decide) ?_
  refine go_sipush (pc := 93) (v := 400) dX10_act_93 (by decide) ?_
  refine go_iconst (pc := 96) (v := 5) dX10_act_96 (by decide) ?_
  refine go_aload_n (pc := 97) dX10_act_97 rfl rfl ?_
  refine go_get (pc := 98) fX10_9 rfl (gz_b (by omega)) ((hw 32 (by decide) (by decide)).trans (wl_at (i := 32) rfl)) rfl dX10_act_98 ?_
  refine go_bipush (pc := 101) (v := 11) dX10_act_101 (by decide) ?_
  refine go_iald (pc := 103) (gz_b (by omega)) ((hw 33 (by decide) (by decide)).trans (wl_at (i := 33) rfl)) (gv_in (by decide)) dX10_act_103 ?_
  refine go_top (y := 0) rfl ?_
  refine go_imul (pc := 104) dX10_act_104 ?_
  refine go_top (y := 0) (by decide) ?_
  refine go_iadd (pc := 105) dX10_act_105 ?_
  refine go_top (y := 400) (by decide) ?_
  refine go_istore (pc := 106) (lv' := [(6, .int 400), (0, .ref (G.2.1 + 32)), (1, .int 0), (2, .int x2), (3, .int x3), (4, .int x4), (5, .int x5)]) dX10_act_106 (by decide) rfl ?_
  refine go_aload_n (pc := 108) dX10_act_108 rfl rfl ?_
  refine go_get (pc := 109) fX10_9 rfl (gz_b (by omega)) ((hw 32 (by decide) (by decide)).trans (wl_at (i := 32) rfl)) rfl dX10_act_109 ?_
  refine go_iload (pc := 112) dX10_act_112 rfl ?_
  refine go_iload_n (pc := 114) dX10_act_114 rfl rfl ?_
  refine go_iast (pc := 115) (gz_b (by omega)) ((hw 33 (by decide) (by decide)).trans (wl_at (i := 33) rfl)) (gv_in (by decide)) dX10_act_115 ?_
  refine go_aload_n (pc := 116) dX10_act_116 rfl rfl ?_
  refine go_get (pc := 117) fX10_9 rfl (gz_b (by omega)) ((va_up_ne _ _ (gz_ne (by decide))).trans ((hw 32 (by decide) (by decide)).trans (wl_at (i := 32) rfl))) rfl dX10_act_117 ?_
  refine go_iload (pc := 120) dX10_act_120 rfl ?_
  refine go_iconst (pc := 122) (v := 1) dX10_act_122 (by decide) ?_
  refine go_iadd (pc := 123) dX10_act_123 ?_
  refine go_top (y := 401) (by decide) ?_
  refine go_iload_n (pc := 124) dX10_act_124 rfl rfl ?_
  refine go_iast (pc := 125) (gz_b (by omega)) (va_up_self _ _ _) (gv_in (by decide)) dX10_act_125 ?_
  refine go_w (va_up_up _ _ _ _) ?_
  refine go_aload_n (pc := 126) dX10_act_126 rfl rfl ?_
  refine go_get (pc := 127) fX10_9 rfl (gz_b (by omega)) ((va_up_ne _ _ (gz_ne (by decide))).trans ((hw 32 (by decide) (by decide)).trans (wl_at (i := 32) rfl))) rfl dX10_act_127 ?_
  refine go_iload (pc := 130) dX10_act_130 rfl ?_
  refine go_iconst (pc := 132) (v := 2) dX10_act_132 (by decide) ?_
  refine go_iadd (pc := 133) dX10_act_133 ?_
  refine go_top (y := 402) (by decide) ?_
  refine go_iload_n (pc := 134) dX10_act_134 rfl rfl ?_
  refine go_iast (pc := 135) (gz_b (by omega)) (va_up_self _ _ _) (gv_in (by decide)) dX10_act_135 ?_
  refine go_w (va_up_up _ _ _ _) ?_
  refine go_aload_n (pc := 136) dX10_act_136 rfl rfl ?_
  refine go_get (pc := 137) fX10_9 rfl (gz_b (by omega)) ((va_up_ne _ _ (gz_ne (by decide))).trans ((hw 32 (by decide) (by decide)).trans (wl_at (i := 32) rfl))) rfl dX10_act_137 ?_
  refine go_iload (pc := 140) dX10_act_140 rfl ?_
  refine go_iconst (pc := 142) (v := 3) dX10_act_142 (by decide) ?_
  refine go_iadd (pc := 143) dX10_act_143 ?_
  refine go_top (y := 403) (by decide) ?_
  refine go_iload (pc := 144) dX10_act_144 rfl ?_
  refine go_iast (pc := 146) (gz_b (by omega)) (va_up_self _ _ _) (gv_in (by decide)) dX10_act_146 ?_
  refine go_w (va_up_up _ _ _ _) ?_
  refine go_aload_n (pc := 147) dX10_act_147 rfl rfl ?_
  refine go_get (pc := 148) fX10_9 rfl (gz_b (by omega)) ((va_up_ne _ _ (gz_ne (by decide))).trans ((hw 32 (by decide) (by decide)).trans (wl_at (i := 32) rfl))) rfl dX10_act_148 ?_
  refine go_iload (pc := 151) dX10_act_151 rfl ?_
  refine go_iconst (pc := 153) (v := 4) dX10_act_153 (by decide) ?_
  refine go_iadd (pc := 154) dX10_act_154 ?_
  refine go_top (y := 404) (by decide) ?_
  refine go_iload (pc := 155) dX10_act_155 rfl ?_
  refine go_iast (pc := 157) (gz_b (by omega)) (va_up_self _ _ _) (gv_in (by decide)) dX10_act_157 ?_
  refine go_w (va_up_up _ _ _ _) ?_
  refine go_aload_n (pc := 158) dX10_act_158 rfl rfl ?_
  refine go_get (pc := 159) fX10_9 rfl (gz_b (by omega)) ((va_up_ne _ _ (gz_ne (by decide))).trans ((hw 32 (by decide) (by decide)).trans (wl_at (i := 32) rfl))) rfl dX10_act_159 ?_
  refine go_bipush (pc := 162) (v := 11) dX10_act_162 (by decide) ?_
  refine go_dup2 (pc := 164) dX10_act_164 rfl rfl ?_
  refine go_iald (pc := 165) (gz_b (by omega)) (va_up_self _ _ _) (gv_in (by decide)) dX10_act_165 ?_
  refine go_top (y := 0) rfl ?_
  refine go_iconst (pc := 166) (v := 1) dX10_act_166 (by decide) ?_
  refine go_iadd (pc := 167) dX10_act_167 ?_
  refine go_top (y := 1) (by decide) ?_
  refine go_iast (pc := 168) (gz_b (by omega)) (va_up_self _ _ _) (gv_in (by decide)) dX10_act_168 ?_
  refine go_w (va_up_up _ _ _ _) ?_
  refine go_aload_n (pc := 169) dX10_act_169 rfl rfl ?_
  refine go_get (pc := 170) fX10_9 rfl (gz_b (by omega)) ((va_up_ne _ _ (gz_ne (by decide))).trans ((hw 32 (by decide) (by decide)).trans (wl_at (i := 32) rfl))) rfl dX10_act_170 ?_
  refine go_bipush (pc := 173) (v := 11) dX10_act_173 (by decide) ?_
  refine go_iald (pc := 175) (gz_b (by omega)) (va_up_self _ _ _) (gv_in (by decide)) dX10_act_175 ?_
  refine go_top (y := 1) rfl ?_
  exact go_iret (pc := 176) rfl dX10_act_176
set_option maxRecDepth 100000 in
set_option maxHeartbeats 4000000 in
theorem cm_act_0_ffft {l : Launch} {G : gG} (x2 : Int32) (x3 : Int32) (x4 : Int32) (x5 : Int32) (c0 : ¬ (if 0 ≤ x2 ∧ x2 ≤ 7 then (1 : Int32) else 0) = 0) (c1 : ¬ (if 0 ≤ x3 ∧ x3 ≤ 5 then (1 : Int32) else 0) = 0) (c2 : ¬ (if x3 = 1 then (1 : Int32) else (if x3 = 2 then (1 : Int32) else (if x3 = 5 then (1 : Int32) else 0))) = 0) (c3 : 300 < x4) {n k : Nat} {w : Nat → va_E} (hn : 42 ≤ n) (hw : ∀ i, 32 ≤ i → i < 42 → w (G.2.1 + i) = wl G.2.1 (LF G) (G.2.1 + i)) : Ct l G mX10_act 3 68 [.ref (G.2.1 + 32), .int 0, .int x2, .int x3, .int x4, .int x5] n k w (some (.int ((-102))), n, k, w) := by
  refine Ct.of (by decide) (Nat.le_of_ble_eq_true rfl) ⟨Nat.le_refl _, Nat.le_refl _⟩ ?_
  show Go l G mX10_act _ 0 [(0, .ref (G.2.1 + 32)), (1, .int 0), (2, .int x2), (3, .int x3), (4, .int x4), (5, .int x5)] [] n k w
  refine go_iload_n (pc := 0) dX10_act_0 rfl rfl ?_
  refine go_iload_n (pc := 1) dX10_act_1 rfl rfl ?_
  refine go_iload_n (pc := 2) dX10_act_2 rfl rfl ?_
  refine go_iload (pc := 3) dX10_act_3 rfl ?_
  refine go_callS_i (pc := 5) sX10_275 rfl (cX10_areKnown_1 x2 x3 x4 hn hw) rfl rfl (Nat.le_of_ble_eq_true rfl) ⟨Nat.le_of_ble_eq_true rfl, Nat.le_of_ble_eq_true rfl, (Nat.le_add_right _ _), (Nat.le_add_right _ _)⟩ dX10_act_5 ?_
  refine go_if_ne_t (pc := 8) (tgt := 14) dX10_act_8 (by decide) c0 ?_
  refine go_iload_n (pc := 14) dX10_act_14 rfl rfl ?_
  refine go_i2l (pc := 15) dX10_act_15 ?_
  refine go_topl (y := 0) (by decide) ?_
  refine go_lconst (pc := 16) (v := 0) dX10_act_16 (by decide) ?_
  refine go_ldc2 (pc := 17) rfl qX10_279 dX10_act_17 ?_
  refine go_callS_i (pc := 20) sX10_63 rfl (ct_in 0 0 12) rfl rfl (Nat.le_of_ble_eq_true rfl) ⟨Nat.le_of_ble_eq_true rfl, Nat.le_of_ble_eq_true rfl, (Nat.le_add_right _ _), (Nat.le_add_right _ _)⟩ dX10_act_20 ?_
  refine go_top (y := 1) (by decide) ?_
  refine go_if_eq_f (pc := 23) (tgt := 75) dX10_act_23 (by decide) (by decide) ?_
  refine go_iload_n (pc := 26) dX10_act_26 rfl rfl ?_
  refine go_if_ne_f (pc := 27) (tgt := 57) dX10_act_27 (by decide) (by decide) ?_
  refine go_iload_n (pc := 30) dX10_act_30 rfl rfl ?_
  refine go_i2l (pc := 31) dX10_act_31 ?_
  refine go_lconst (pc := 32) (v := 0) dX10_act_32 (by decide) ?_
  refine go_ldc2 (pc := 33) rfl qX10_150 dX10_act_33 ?_
  refine go_callS_i (pc := 36) sX10_63 rfl (ct_in x3.toInt64 0 5) rfl rfl (Nat.le_of_ble_eq_true rfl) ⟨Nat.le_of_ble_eq_true rfl, Nat.le_of_ble_eq_true rfl, (Nat.le_add_right _ _), (Nat.le_add_right _ _)⟩ dX10_act_36 ?_
  refine go_top (y := (if 0 ≤ x3 ∧ x3 ≤ 5 then (1 : Int32) else 0)) (gi_in (by decide) (by decide)) ?_
  refine go_if_eq_f (pc := 39) (tgt := 75) dX10_act_39 (by decide) c1 ?_
  refine go_iload_n (pc := 42) dX10_act_42 rfl rfl ?_
  refine go_callS_i (pc := 43) sX10_138 rfl (cX10_hasMany_1 x3 hn hw) rfl rfl (Nat.le_of_ble_eq_true rfl) ⟨Nat.le_of_ble_eq_true rfl, Nat.le_of_ble_eq_true rfl, (Nat.le_add_right _ _), (Nat.le_add_right _ _)⟩ dX10_act_43 ?_
  refine go_if_eq_f (pc := 46) (tgt := 57) dX10_act_46 (by decide) c2 ?_
  refine go_iload (pc := 49) dX10_act_49 rfl ?_
  refine go_sipush (pc := 51) (v := 300) dX10_act_51 (by decide) ?_
  refine go_icmp_gt_t (pc := 54) (tgt := 75) dX10_act_54 (by decide) c3 ?_
  refine go_bipush (pc := 75) (v := (-102)) dX10_act_75 (by decide) ?_
  exact go_iret (pc := 77) rfl dX10_act_77
set_option maxRecDepth 100000 in
set_option maxHeartbeats 4000000 in
theorem cm_act_0_ffff {l : Launch} {G : gG} (x2 : Int32) (x3 : Int32) (x4 : Int32) (x5 : Int32) (c0 : ¬ (if 0 ≤ x2 ∧ x2 ≤ 7 then (1 : Int32) else 0) = 0) (c1 : ¬ (if 0 ≤ x3 ∧ x3 ≤ 5 then (1 : Int32) else 0) = 0) (c2 : ¬ (if x3 = 1 then (1 : Int32) else (if x3 = 2 then (1 : Int32) else (if x3 = 5 then (1 : Int32) else 0))) = 0) (c3 : ¬ 300 < x4) {n k : Nat} {w : Nat → va_E} (hn : 42 ≤ n) (hw : ∀ i, 32 ≤ i → i < 42 → w (G.2.1 + i) = wl G.2.1 (LF G) (G.2.1 + i)) : Ct l G mX10_act 3 68 [.ref (G.2.1 + 32), .int 0, .int x2, .int x3, .int x4, .int x5] n k w (some (.int 1), n, k, (va_up w (G.2.1 + 33) (ai G 26100 (upd (upd (upd (upd (upd (upd (sx 256) (400 : Int32).toNatClampNeg 0) (401 : Int32).toNatClampNeg x2) (402 : Int32).toNatClampNeg x3) (403 : Int32).toNatClampNeg x4) (404 : Int32).toNatClampNeg x5) (11 : Int32).toNatClampNeg 1)))) := by
  refine Ct.of (by decide) (Nat.le_of_ble_eq_true rfl) ⟨Nat.le_refl _, Nat.le_refl _⟩ ?_
  show Go l G mX10_act _ 0 [(0, .ref (G.2.1 + 32)), (1, .int 0), (2, .int x2), (3, .int x3), (4, .int x4), (5, .int x5)] [] n k w
  refine go_iload_n (pc := 0) dX10_act_0 rfl rfl ?_
  refine go_iload_n (pc := 1) dX10_act_1 rfl rfl ?_
  refine go_iload_n (pc := 2) dX10_act_2 rfl rfl ?_
  refine go_iload (pc := 3) dX10_act_3 rfl ?_
  refine go_callS_i (pc := 5) sX10_275 rfl (cX10_areKnown_1 x2 x3 x4 hn hw) rfl rfl (Nat.le_of_ble_eq_true rfl) ⟨Nat.le_of_ble_eq_true rfl, Nat.le_of_ble_eq_true rfl, (Nat.le_add_right _ _), (Nat.le_add_right _ _)⟩ dX10_act_5 ?_
  refine go_if_ne_t (pc := 8) (tgt := 14) dX10_act_8 (by decide) c0 ?_
  refine go_iload_n (pc := 14) dX10_act_14 rfl rfl ?_
  refine go_i2l (pc := 15) dX10_act_15 ?_
  refine go_topl (y := 0) (by decide) ?_
  refine go_lconst (pc := 16) (v := 0) dX10_act_16 (by decide) ?_
  refine go_ldc2 (pc := 17) rfl qX10_279 dX10_act_17 ?_
  refine go_callS_i (pc := 20) sX10_63 rfl (ct_in 0 0 12) rfl rfl (Nat.le_of_ble_eq_true rfl) ⟨Nat.le_of_ble_eq_true rfl, Nat.le_of_ble_eq_true rfl, (Nat.le_add_right _ _), (Nat.le_add_right _ _)⟩ dX10_act_20 ?_
  refine go_top (y := 1) (by decide) ?_
  refine go_if_eq_f (pc := 23) (tgt := 75) dX10_act_23 (by decide) (by decide) ?_
  refine go_iload_n (pc := 26) dX10_act_26 rfl rfl ?_
  refine go_if_ne_f (pc := 27) (tgt := 57) dX10_act_27 (by decide) (by decide) ?_
  refine go_iload_n (pc := 30) dX10_act_30 rfl rfl ?_
  refine go_i2l (pc := 31) dX10_act_31 ?_
  refine go_lconst (pc := 32) (v := 0) dX10_act_32 (by decide) ?_
  refine go_ldc2 (pc := 33) rfl qX10_150 dX10_act_33 ?_
  refine go_callS_i (pc := 36) sX10_63 rfl (ct_in x3.toInt64 0 5) rfl rfl (Nat.le_of_ble_eq_true rfl) ⟨Nat.le_of_ble_eq_true rfl, Nat.le_of_ble_eq_true rfl, (Nat.le_add_right _ _), (Nat.le_add_right _ _)⟩ dX10_act_36 ?_
  refine go_top (y := (if 0 ≤ x3 ∧ x3 ≤ 5 then (1 : Int32) else 0)) (gi_in (by decide) (by decide)) ?_
  refine go_if_eq_f (pc := 39) (tgt := 75) dX10_act_39 (by decide) c1 ?_
  refine go_iload_n (pc := 42) dX10_act_42 rfl rfl ?_
  refine go_callS_i (pc := 43) sX10_138 rfl (cX10_hasMany_1 x3 hn hw) rfl rfl (Nat.le_of_ble_eq_true rfl) ⟨Nat.le_of_ble_eq_true rfl, Nat.le_of_ble_eq_true rfl, (Nat.le_add_right _ _), (Nat.le_add_right _ _)⟩ dX10_act_43 ?_
  refine go_if_eq_f (pc := 46) (tgt := 57) dX10_act_46 (by decide) c2 ?_
  refine go_iload (pc := 49) dX10_act_49 rfl ?_
  refine go_sipush (pc := 51) (v := 300) dX10_act_51 (by decide) ?_
  refine go_icmp_gt_f (pc := 54) (tgt := 75) dX10_act_54 (by decide) c3 ?_
  refine go_iload_n (pc := 57) dX10_act_57 rfl rfl ?_
  refine go_bipush (pc := 58) (v := 9) dX10_act_58 (by decide) ?_
  refine go_icmp_ne_t (pc := 60) (tgt := 78) dX10_act_60 (by decide) (by decide) ?_
  refine go_aload_n (pc := 78) dX10_act_78 rfl rfl ?_
  refine go_get (pc := 79) fX10_9 rfl (gz_b (by omega)) ((hw 32 (by decide) (by decide)).trans (wl_at (i := 32) rfl)) rfl dX10_act_79 ?_
  refine go_bipush (pc := 82) (v := 11) dX10_act_82 (by decide) ?_
  refine go_iald (pc := 84) (gz_b (by omega)) ((hw 33 (by decide) (by decide)).trans (wl_at (i := 33) rfl)) (gv_in (by decide)) dX10_act_84 ?_
  refine go_top (y := 0) rfl ?_
  refine go_bipush (pc := 85) (v := 40) dX10_act_85 (by decide) ?_
  refine go_icmp_ne_t (pc := 87) (tgt := 93) dX10_act_87 (by decide) (by decide) ?_
  refine go_sipush (pc := 93) (v := 400) dX10_act_93 (by decide) ?_
  refine go_iconst (pc := 96) (v := 5) dX10_act_96 (by decide) ?_
  refine go_aload_n (pc := 97) dX10_act_97 rfl rfl ?_
  refine go_get (pc := 98) fX10_9 rfl (gz_b (by omega)) ((hw 32 (by decide) (by decide)).trans (wl_at (i := 32) rfl)) rfl dX10_act_98 ?_
  refine go_bipush (pc := 101) (v := 11) dX10_act_101 (by decide) ?_
  refine go_iald (pc := 103) (gz_b (by omega)) ((hw 33 (by decide) (by decide)).trans (wl_at (i := 33) rfl)) (gv_in (by decide)) dX10_act_103 ?_
  refine go_top (y := 0) rfl ?_
  refine go_imul (pc := 104) dX10_act_104 ?_
  refine go_top (y := 0) (by decide) ?_
  refine go_iadd (pc := 105) dX10_act_105 ?_
  refine go_top (y := 400) (by decide) ?_
  refine go_istore (pc := 106) (lv' := [(6, .int 400), (0, .ref (G.2.1 + 32)), (1, .int 0), (2, .int x2), (3, .int x3), (4, .int x4), (5, .int x5)]) dX10_act_106 (by decide) rfl ?_
  refine go_aload_n (pc := 108) dX10_act_108 rfl rfl ?_
  refine go_get (pc := 109) fX10_9 rfl (gz_b (by omega)) ((hw 32 (by decide) (by decide)).trans (wl_at (i := 32) rfl)) rfl dX10_act_109 ?_
  refine go_iload (pc := 112) dX10_act_112 rfl ?_
  refine go_iload_n (pc := 114) dX10_act_114 rfl rfl ?_
  refine go_iast (pc := 115) (gz_b (by omega)) ((hw 33 (by decide) (by decide)).trans (wl_at (i := 33) rfl)) (gv_in (by decide)) dX10_act_115 ?_
  refine go_aload_n (pc := 116) dX10_act_116 rfl rfl ?_
  refine go_get (pc := 117) fX10_9 rfl (gz_b (by omega)) ((va_up_ne _ _ (gz_ne (by decide))).trans ((hw 32 (by decide) (by decide)).trans (wl_at (i := 32) rfl))) rfl dX10_act_117 ?_
  refine go_iload (pc := 120) dX10_act_120 rfl ?_
  refine go_iconst (pc := 122) (v := 1) dX10_act_122 (by decide) ?_
  refine go_iadd (pc := 123) dX10_act_123 ?_
  refine go_top (y := 401) (by decide) ?_
  refine go_iload_n (pc := 124) dX10_act_124 rfl rfl ?_
  refine go_iast (pc := 125) (gz_b (by omega)) (va_up_self _ _ _) (gv_in (by decide)) dX10_act_125 ?_
  refine go_w (va_up_up _ _ _ _) ?_
  refine go_aload_n (pc := 126) dX10_act_126 rfl rfl ?_
  refine go_get (pc := 127) fX10_9 rfl (gz_b (by omega)) ((va_up_ne _ _ (gz_ne (by decide))).trans ((hw 32 (by decide) (by decide)).trans (wl_at (i := 32) rfl))) rfl dX10_act_127 ?_
  refine go_iload (pc := 130) dX10_act_130 rfl ?_
  refine go_iconst (pc := 132) (v := 2) dX10_act_132 (by decide) ?_
  refine go_iadd (pc := 133) dX10_act_133 ?_
  refine go_top (y := 402) (by decide) ?_
  refine go_iload_n (pc := 134) dX10_act_134 rfl rfl ?_
  refine go_iast (pc := 135) (gz_b (by omega)) (va_up_self _ _ _) (gv_in (by decide)) dX10_act_135 ?_
  refine go_w (va_up_up _ _ _ _) ?_
  refine go_aload_n (pc := 136) dX10_act_136 rfl rfl ?_
  refine go_get (pc := 137) fX10_9 rfl (gz_b (by omega)) ((va_up_ne _ _ (gz_ne (by decide))).trans ((hw 32 (by decide) (by decide)).trans (wl_at (i := 32) rfl))) rfl dX10_act_137 ?_
  refine go_iload (pc := 140) dX10_act_140 rfl ?_
  refine go_iconst (pc := 142) (v := 3) dX10_act_142 (by decide) ?_
  refine go_iadd (pc := 143) dX10_act_143 ?_
  refine go_top (y := 403) (by decide) ?_
  refine go_iload (pc := 144) dX10_act_144 rfl ?_
  refine go_iast (pc := 146) (gz_b (by omega)) (va_up_self _ _ _) (gv_in (by decide)) dX10_act_146 ?_
  refine go_w (va_up_up _ _ _ _) ?_
  refine go_aload_n (pc := 147) dX10_act_147 rfl rfl ?_
  refine go_get (pc := 148) fX10_9 rfl (gz_b (by omega)) ((va_up_ne _ _ (gz_ne (by decide))).trans ((hw 32 (by decide) (by decide)).trans (wl_at (i := 32) rfl))) rfl dX10_act_148 ?_
  refine go_iload (pc := 151) dX10_act_151 rfl ?_
  refine go_iconst (pc := 153) (v := 4) dX10_act_153 (by decide) ?_
  refine go_iadd (pc := 154) dX10_act_154 ?_
  refine go_top (y := 404) (by decide) ?_
  refine go_iload (pc := 155) dX10_act_155 rfl ?_
  refine go_iast (pc := 157) (gz_b (by omega)) (va_up_self _ _ _) (gv_in (by decide)) dX10_act_157 ?_
  refine go_w (va_up_up _ _ _ _) ?_
  refine go_aload_n (pc := 158) dX10_act_158 rfl rfl ?_
  refine go_get (pc := 159) fX10_9 rfl (gz_b (by omega)) ((va_up_ne _ _ (gz_ne (by decide))).trans ((hw 32 (by decide) (by decide)).trans (wl_at (i := 32) rfl))) rfl dX10_act_159 ?_
  refine go_bipush (pc := 162) (v := 11) dX10_act_162 (by decide) ?_
  refine go_dup2 (pc := 164) dX10_act_164 rfl rfl ?_
  refine go_iald (pc := 165) (gz_b (by omega)) (va_up_self _ _ _) (gv_in (by decide)) dX10_act_165 ?_
  refine go_top (y := 0) rfl ?_
  refine go_iconst (pc := 166) (v := 1) dX10_act_166 (by decide) ?_
  refine go_iadd (pc := 167) dX10_act_167 ?_
  refine go_top (y := 1) (by decide) ?_
  refine go_iast (pc := 168) (gz_b (by omega)) (va_up_self _ _ _) (gv_in (by decide)) dX10_act_168 ?_
  refine go_w (va_up_up _ _ _ _) ?_
  refine go_aload_n (pc := 169) dX10_act_169 rfl rfl ?_
  refine go_get (pc := 170) fX10_9 rfl (gz_b (by omega)) ((va_up_ne _ _ (gz_ne (by decide))).trans ((hw 32 (by decide) (by decide)).trans (wl_at (i := 32) rfl))) rfl dX10_act_170 ?_
  refine go_bipush (pc := 173) (v := 11) dX10_act_173 (by decide) ?_
  refine go_iald (pc := 175) (gz_b (by omega)) (va_up_self _ _ _) (gv_in (by decide)) dX10_act_175 ?_
  refine go_top (y := 1) rfl ?_
  exact go_iret (pc := 176) rfl dX10_act_176
theorem cm_act_0 {l : Launch} {G : gG} (x2 : Int32) (x3 : Int32) (x4 : Int32) (x5 : Int32) : CM l G mX10_act [.ref (G.2.1 + 32), .int 0, .int x2, .int x3, .int x4, .int x5] ((if (if 0 ≤ x2 ∧ x2 ≤ 7 then (1 : Int32) else 0) = 0 then (-101) else (if (if 0 ≤ x3 ∧ x3 ≤ 5 then (1 : Int32) else 0) = 0 then (-102) else (if (if x3 = 1 then (1 : Int32) else (if x3 = 2 then (1 : Int32) else (if x3 = 5 then (1 : Int32) else 0))) = 0 then 1 else (if 300 < x4 then (-102) else 1))))) := by
  intro n k w hn hw
  by_cases c0 : (if 0 ≤ x2 ∧ x2 ≤ 7 then (1 : Int32) else 0) = 0
  · rw [if_pos c0]
    exact ⟨3, 68, _, by decide, by decide, cm_act_0_t x2 x3 x4 x5 c0 hn hw⟩
  · rw [if_neg c0]
    by_cases c1 : (if 0 ≤ x3 ∧ x3 ≤ 5 then (1 : Int32) else 0) = 0
    · rw [if_pos c1]
      exact ⟨3, 68, _, by decide, by decide, cm_act_0_ft x2 x3 x4 x5 c0 c1 hn hw⟩
    · rw [if_neg c1]
      by_cases c2 : (if x3 = 1 then (1 : Int32) else (if x3 = 2 then (1 : Int32) else (if x3 = 5 then (1 : Int32) else 0))) = 0
      · rw [if_pos c2]
        exact ⟨3, 68, _, by decide, by decide, cm_act_0_fft x2 x3 x4 x5 c0 c1 c2 hn hw⟩
      · rw [if_neg c2]
        by_cases c3 : 300 < x4
        · rw [if_pos c3]
          exact ⟨3, 68, _, by decide, by decide, cm_act_0_ffft x2 x3 x4 x5 c0 c1 c2 c3 hn hw⟩
        · rw [if_neg c3]
          exact ⟨3, 68, _, by decide, by decide, cm_act_0_ffff x2 x3 x4 x5 c0 c1 c2 c3 hn hw⟩
set_option maxRecDepth 100000 in
set_option maxHeartbeats 4000000 in
theorem cX10_isRegister_3 {l : Launch} {G : gG} (x4 : Int32) {n k : Nat} {w : Nat → va_E} (hn : 42 ≤ n) (hw : ∀ i, 32 ≤ i → i < 42 → w (G.2.1 + i) = wl G.2.1 (LF G) (G.2.1 + i)) : Ct l G mX10_isRegister 1 25 [.int x4] n k w (some (.int ((if 0 ≤ x4 ∧ x4 ≤ 7 then (1 : Int32) else 0))), n, k, w) := by
  refine Ct.of (by decide) (Nat.le_of_ble_eq_true rfl) ⟨Nat.le_refl _, Nat.le_refl _⟩ ?_
  show Go l G mX10_isRegister _ 0 [(0, .int x4)] [] n k w
  refine go_iload_n (pc := 0) dX10_isRegister_0 rfl rfl ?_
  refine go_i2l (pc := 1) dX10_isRegister_1 ?_
  refine go_lconst (pc := 2) (v := 0) dX10_isRegister_2 (by decide) ?_
  refine go_ldc2 (pc := 3) rfl qX10_213 dX10_isRegister_3 ?_
  refine go_callS_i (pc := 6) sX10_63 rfl (ct_in x4.toInt64 0 7) rfl rfl (Nat.le_of_ble_eq_true rfl) ⟨Nat.le_of_ble_eq_true rfl, Nat.le_of_ble_eq_true rfl, (Nat.le_add_right _ _), (Nat.le_add_right _ _)⟩ dX10_isRegister_6 ?_
  refine go_top (y := (if 0 ≤ x4 ∧ x4 ≤ 7 then (1 : Int32) else 0)) (gi_in (by decide) (by decide)) ?_
  exact go_zret (pc := 9) rfl (gz_nb _) dX10_isRegister_9
set_option maxRecDepth 100000 in
set_option maxHeartbeats 4000000 in
theorem cX10_areKnown_2 {l : Launch} {G : gG} (x2 : Int32) (x3 : Int32) (x4 : Int32) {n k : Nat} {w : Nat → va_E} (hn : 42 ≤ n) (hw : ∀ i, 32 ≤ i → i < 42 → w (G.2.1 + i) = wl G.2.1 (LF G) (G.2.1 + i)) : Ct l G mX10_areKnown 2 45 [.int 1, .int x2, .int x3, .int x4] n k w (some (.int ((if (if 0 ≤ x2 ∧ x2 ≤ 7 then (1 : Int32) else 0) = 0 then (0 : Int32) else (if (if 0 ≤ x4 ∧ x4 ≤ 7 then (1 : Int32) else 0) = 0 then (0 : Int32) else 1)))), n, k, w) := by
  refine Ct.of (by decide) (Nat.le_of_ble_eq_true rfl) ⟨Nat.le_refl _, Nat.le_refl _⟩ ?_
  show Go l G mX10_areKnown _ 0 [(0, .int 1), (1, .int x2), (2, .int x3), (3, .int x4)] [] n k w
  refine go_iload_n (pc := 0) dX10_areKnown_0 rfl rfl ?_
  refine go_tableIn (pc := 1) (off := 72) (tgt := 73) dX10_areKnown_1 (by decide) (by decide) (by decide) (by decide) ?_
  refine go_iload_n (pc := 73) dX10_areKnown_73 rfl rfl ?_
  refine go_callS_i (pc := 74) sX10_272 rfl (cX10_isRegister_2 x2 hn hw) rfl rfl (Nat.le_of_ble_eq_true rfl) ⟨Nat.le_of_ble_eq_true rfl, Nat.le_of_ble_eq_true rfl, (Nat.le_add_right _ _), (Nat.le_add_right _ _)⟩ dX10_areKnown_74 ?_
  refine go_if_eq (pc := 77) (tgt := 91) dX10_areKnown_77 (by decide) (fun c0 => ?_) (fun c0 => ?_)
  · refine go_iconst (pc := 91) (v := 0) dX10_areKnown_91 (by decide) ?_
    refine go_eq (r' := (some (.int 0), _, _, _)) (by rw [if_pos c0]) ?_
    exact go_zret (pc := 92) rfl rfl dX10_areKnown_92
  · refine go_iload_n (pc := 80) dX10_areKnown_80 rfl rfl ?_
    refine go_callS_i (pc := 81) sX10_272 rfl (cX10_isRegister_3 x4 hn hw) rfl rfl (Nat.le_of_ble_eq_true rfl) ⟨Nat.le_of_ble_eq_true rfl, Nat.le_of_ble_eq_true rfl, (Nat.le_add_right _ _), (Nat.le_add_right _ _)⟩ dX10_areKnown_81 ?_
    refine go_if_eq (pc := 84) (tgt := 91) dX10_areKnown_84 (by decide) (fun c1 => ?_) (fun c1 => ?_)
    · refine go_iconst (pc := 91) (v := 0) dX10_areKnown_91 (by decide) ?_
      refine go_eq (r' := (some (.int 0), _, _, _)) (by rw [if_neg c0, if_pos c1]) ?_
      exact go_zret (pc := 92) rfl rfl dX10_areKnown_92
    · refine go_iconst (pc := 87) (v := 1) dX10_areKnown_87 (by decide) ?_
      refine go_goto (pc := 88) (tgt := 92) dX10_areKnown_88 (by decide) ?_
      refine go_eq (r' := (some (.int 1), _, _, _)) (by rw [if_neg c0, if_neg c1]) ?_
      exact go_zret (pc := 92) rfl rfl dX10_areKnown_92
set_option maxRecDepth 100000 in
set_option maxHeartbeats 4000000 in
theorem cm_act_1_t {l : Launch} {G : gG} (x2 : Int32) (x3 : Int32) (x4 : Int32) (x5 : Int32) (c0 : (if (if 0 ≤ x2 ∧ x2 ≤ 7 then (1 : Int32) else 0) = 0 then (0 : Int32) else (if (if 0 ≤ x4 ∧ x4 ≤ 7 then (1 : Int32) else 0) = 0 then (0 : Int32) else 1)) = 0) {n k : Nat} {w : Nat → va_E} (hn : 42 ≤ n) (hw : ∀ i, 32 ≤ i → i < 42 → w (G.2.1 + i) = wl G.2.1 (LF G) (G.2.1 + i)) : Ct l G mX10_act 3 68 [.ref (G.2.1 + 32), .int 1, .int x2, .int x3, .int x4, .int x5] n k w (some (.int ((-101))), n, k, w) := by
  refine Ct.of (by decide) (Nat.le_of_ble_eq_true rfl) ⟨Nat.le_refl _, Nat.le_refl _⟩ ?_
  show Go l G mX10_act _ 0 [(0, .ref (G.2.1 + 32)), (1, .int 1), (2, .int x2), (3, .int x3), (4, .int x4), (5, .int x5)] [] n k w
  refine go_iload_n (pc := 0) dX10_act_0 rfl rfl ?_
  refine go_iload_n (pc := 1) dX10_act_1 rfl rfl ?_
  refine go_iload_n (pc := 2) dX10_act_2 rfl rfl ?_
  refine go_iload (pc := 3) dX10_act_3 rfl ?_
  refine go_callS_i (pc := 5) sX10_275 rfl (cX10_areKnown_2 x2 x3 x4 hn hw) rfl rfl (Nat.le_of_ble_eq_true rfl) ⟨Nat.le_of_ble_eq_true rfl, Nat.le_of_ble_eq_true rfl, (Nat.le_add_right _ _), (Nat.le_add_right _ _)⟩ dX10_act_5 ?_
  refine go_if_ne_f (pc := 8) (tgt := 14) dX10_act_8 (by decide) c0 ?_
  refine go_bipush (pc := 11) (v := (-101)) dX10_act_11 (by decide) ?_
  exact go_iret (pc := 13) rfl dX10_act_13
set_option maxRecDepth 100000 in
set_option maxHeartbeats 4000000 in
theorem cm_act_1_f {l : Launch} {G : gG} (x2 : Int32) (x3 : Int32) (x4 : Int32) (x5 : Int32) (c0 : ¬ (if (if 0 ≤ x2 ∧ x2 ≤ 7 then (1 : Int32) else 0) = 0 then (0 : Int32) else (if (if 0 ≤ x4 ∧ x4 ≤ 7 then (1 : Int32) else 0) = 0 then (0 : Int32) else 1)) = 0) {n k : Nat} {w : Nat → va_E} (hn : 42 ≤ n) (hw : ∀ i, 32 ≤ i → i < 42 → w (G.2.1 + i) = wl G.2.1 (LF G) (G.2.1 + i)) : Ct l G mX10_act 3 68 [.ref (G.2.1 + 32), .int 1, .int x2, .int x3, .int x4, .int x5] n k w (some (.int 1), n, k, (va_up w (G.2.1 + 33) (ai G 26100 (upd (upd (upd (upd (upd (upd (sx 256) (400 : Int32).toNatClampNeg 1) (401 : Int32).toNatClampNeg x2) (402 : Int32).toNatClampNeg x3) (403 : Int32).toNatClampNeg x4) (404 : Int32).toNatClampNeg x5) (11 : Int32).toNatClampNeg 1)))) := by
  refine Ct.of (by decide) (Nat.le_of_ble_eq_true rfl) ⟨Nat.le_refl _, Nat.le_refl _⟩ ?_
  show Go l G mX10_act _ 0 [(0, .ref (G.2.1 + 32)), (1, .int 1), (2, .int x2), (3, .int x3), (4, .int x4), (5, .int x5)] [] n k w
  refine go_iload_n (pc := 0) dX10_act_0 rfl rfl ?_
  refine go_iload_n (pc := 1) dX10_act_1 rfl rfl ?_
  refine go_iload_n (pc := 2) dX10_act_2 rfl rfl ?_
  refine go_iload (pc := 3) dX10_act_3 rfl ?_
  refine go_callS_i (pc := 5) sX10_275 rfl (cX10_areKnown_2 x2 x3 x4 hn hw) rfl rfl (Nat.le_of_ble_eq_true rfl) ⟨Nat.le_of_ble_eq_true rfl, Nat.le_of_ble_eq_true rfl, (Nat.le_add_right _ _), (Nat.le_add_right _ _)⟩ dX10_act_5 ?_
  refine go_if_ne_t (pc := 8) (tgt := 14) dX10_act_8 (by decide) c0 ?_
  refine go_iload_n (pc := 14) dX10_act_14 rfl rfl ?_
  refine go_i2l (pc := 15) dX10_act_15 ?_
  refine go_topl (y := 1) (by decide) ?_
  refine go_lconst (pc := 16) (v := 0) dX10_act_16 (by decide) ?_
  refine go_ldc2 (pc := 17) rfl qX10_279 dX10_act_17 ?_
  refine go_callS_i (pc := 20) sX10_63 rfl (ct_in 1 0 12) rfl rfl (Nat.le_of_ble_eq_true rfl) ⟨Nat.le_of_ble_eq_true rfl, Nat.le_of_ble_eq_true rfl, (Nat.le_add_right _ _), (Nat.le_add_right _ _)⟩ dX10_act_20 ?_
  refine go_top (y := 1) (by decide) ?_
  refine go_if_eq_f (pc := 23) (tgt := 75) dX10_act_23 (by decide) (by decide) ?_
  refine go_iload_n (pc := 26) dX10_act_26 rfl rfl ?_
  refine go_if_ne_t (pc := 27) (tgt := 57) dX10_act_27 (by decide) (by decide) ?_
  refine go_iload_n (pc := 57) dX10_act_57 rfl rfl ?_
  refine go_bipush (pc := 58) (v := 9) dX10_act_58 (by decide) ?_
  refine go_icmp_ne_t (pc := 60) (tgt := 78) dX10_act_60 (by decide) (by decide) ?_
  refine go_aload_n (pc := 78) dX10_act_78 rfl rfl ?_
  refine go_get (pc := 79) fX10_9 rfl (gz_b (by omega)) ((hw 32 (by decide) (by decide)).trans (wl_at (i := 32) rfl)) rfl dX10_act_79 ?_
  refine go_bipush (pc := 82) (v := 11) dX10_act_82 (by decide) ?_
  refine go_iald (pc := 84) (gz_b (by omega)) ((hw 33 (by decide) (by decide)).trans (wl_at (i := 33) rfl)) (gv_in (by decide)) dX10_act_84 ?_
  refine go_top (y := 0) rfl ?_
  refine go_bipush (pc := 85) (v := 40) dX10_act_85 (by decide) ?_
  refine go_icmp_ne_t (pc := 87) (tgt := 93) dX10_act_87 (by decide) (by decide) ?_
  refine go_sipush (pc := 93) (v := 400) dX10_act_93 (by decide) ?_
  refine go_iconst (pc := 96) (v := 5) dX10_act_96 (by decide) ?_
  refine go_aload_n (pc := 97) dX10_act_97 rfl rfl ?_
  refine go_get (pc := 98) fX10_9 rfl (gz_b (by omega)) ((hw 32 (by decide) (by decide)).trans (wl_at (i := 32) rfl)) rfl dX10_act_98 ?_
  refine go_bipush (pc := 101) (v := 11) dX10_act_101 (by decide) ?_
  refine go_iald (pc := 103) (gz_b (by omega)) ((hw 33 (by decide) (by decide)).trans (wl_at (i := 33) rfl)) (gv_in (by decide)) dX10_act_103 ?_
  refine go_top (y := 0) rfl ?_
  refine go_imul (pc := 104) dX10_act_104 ?_
  refine go_top (y := 0) (by decide) ?_
  refine go_iadd (pc := 105) dX10_act_105 ?_
  refine go_top (y := 400) (by decide) ?_
  refine go_istore (pc := 106) (lv' := [(6, .int 400), (0, .ref (G.2.1 + 32)), (1, .int 1), (2, .int x2), (3, .int x3), (4, .int x4), (5, .int x5)]) dX10_act_106 (by decide) rfl ?_
  refine go_aload_n (pc := 108) dX10_act_108 rfl rfl ?_
  refine go_get (pc := 109) fX10_9 rfl (gz_b (by omega)) ((hw 32 (by decide) (by decide)).trans (wl_at (i := 32) rfl)) rfl dX10_act_109 ?_
  refine go_iload (pc := 112) dX10_act_112 rfl ?_
  refine go_iload_n (pc := 114) dX10_act_114 rfl rfl ?_
  refine go_iast (pc := 115) (gz_b (by omega)) ((hw 33 (by decide) (by decide)).trans (wl_at (i := 33) rfl)) (gv_in (by decide)) dX10_act_115 ?_
  refine go_aload_n (pc := 116) dX10_act_116 rfl rfl ?_
  refine go_get (pc := 117) fX10_9 rfl (gz_b (by omega)) ((va_up_ne _ _ (gz_ne (by decide))).trans ((hw 32 (by decide) (by decide)).trans (wl_at (i := 32) rfl))) rfl dX10_act_117 ?_
  refine go_iload (pc := 120) dX10_act_120 rfl ?_
  refine go_iconst (pc := 122) (v := 1) dX10_act_122 (by decide) ?_
  refine go_iadd (pc := 123) dX10_act_123 ?_
  refine go_top (y := 401) (by decide) ?_
  refine go_iload_n (pc := 124) dX10_act_124 rfl rfl ?_
  refine go_iast (pc := 125) (gz_b (by omega)) (va_up_self _ _ _) (gv_in (by decide)) dX10_act_125 ?_
  refine go_w (va_up_up _ _ _ _) ?_
  refine go_aload_n (pc := 126) dX10_act_126 rfl rfl ?_
  refine go_get (pc := 127) fX10_9 rfl (gz_b (by omega)) ((va_up_ne _ _ (gz_ne (by decide))).trans ((hw 32 (by decide) (by decide)).trans (wl_at (i := 32) rfl))) rfl dX10_act_127 ?_
  refine go_iload (pc := 130) dX10_act_130 rfl ?_
  refine go_iconst (pc := 132) (v := 2) dX10_act_132 (by decide) ?_
  refine go_iadd (pc := 133) dX10_act_133 ?_
  refine go_top (y := 402) (by decide) ?_
  refine go_iload_n (pc := 134) dX10_act_134 rfl rfl ?_
  refine go_iast (pc := 135) (gz_b (by omega)) (va_up_self _ _ _) (gv_in (by decide)) dX10_act_135 ?_
  refine go_w (va_up_up _ _ _ _) ?_
  refine go_aload_n (pc := 136) dX10_act_136 rfl rfl ?_
  refine go_get (pc := 137) fX10_9 rfl (gz_b (by omega)) ((va_up_ne _ _ (gz_ne (by decide))).trans ((hw 32 (by decide) (by decide)).trans (wl_at (i := 32) rfl))) rfl dX10_act_137 ?_
  refine go_iload (pc := 140) dX10_act_140 rfl ?_
  refine go_iconst (pc := 142) (v := 3) dX10_act_142 (by decide) ?_
  refine go_iadd (pc := 143) dX10_act_143 ?_
  refine go_top (y := 403) (by decide) ?_
  refine go_iload (pc := 144) dX10_act_144 rfl ?_
  refine go_iast (pc := 146) (gz_b (by omega)) (va_up_self _ _ _) (gv_in (by decide)) dX10_act_146 ?_
  refine go_w (va_up_up _ _ _ _) ?_
  refine go_aload_n (pc := 147) dX10_act_147 rfl rfl ?_
  refine go_get (pc := 148) fX10_9 rfl (gz_b (by omega)) ((va_up_ne _ _ (gz_ne (by decide))).trans ((hw 32 (by decide) (by decide)).trans (wl_at (i := 32) rfl))) rfl dX10_act_148 ?_
  refine go_iload (pc := 151) dX10_act_151 rfl ?_
  refine go_iconst (pc := 153) (v := 4) dX10_act_153 (by decide) ?_
  refine go_iadd (pc := 154) dX10_act_154 ?_
  refine go_top (y := 404) (by decide) ?_
  refine go_iload (pc := 155) dX10_act_155 rfl ?_
  refine go_iast (pc := 157) (gz_b (by omega)) (va_up_self _ _ _) (gv_in (by decide)) dX10_act_157 ?_
  refine go_w (va_up_up _ _ _ _) ?_
  refine go_aload_n (pc := 158) dX10_act_158 rfl rfl ?_
  refine go_get (pc := 159) fX10_9 rfl (gz_b (by omega)) ((va_up_ne _ _ (gz_ne (by decide))).trans ((hw 32 (by decide) (by decide)).trans (wl_at (i := 32) rfl))) rfl dX10_act_159 ?_
  refine go_bipush (pc := 162) (v := 11) dX10_act_162 (by decide) ?_
  refine go_dup2 (pc := 164) dX10_act_164 rfl rfl ?_
  refine go_iald (pc := 165) (gz_b (by omega)) (va_up_self _ _ _) (gv_in (by decide)) dX10_act_165 ?_
  refine go_top (y := 0) rfl ?_
  refine go_iconst (pc := 166) (v := 1) dX10_act_166 (by decide) ?_
  refine go_iadd (pc := 167) dX10_act_167 ?_
  refine go_top (y := 1) (by decide) ?_
  refine go_iast (pc := 168) (gz_b (by omega)) (va_up_self _ _ _) (gv_in (by decide)) dX10_act_168 ?_
  refine go_w (va_up_up _ _ _ _) ?_
  refine go_aload_n (pc := 169) dX10_act_169 rfl rfl ?_
  refine go_get (pc := 170) fX10_9 rfl (gz_b (by omega)) ((va_up_ne _ _ (gz_ne (by decide))).trans ((hw 32 (by decide) (by decide)).trans (wl_at (i := 32) rfl))) rfl dX10_act_170 ?_
  refine go_bipush (pc := 173) (v := 11) dX10_act_173 (by decide) ?_
  refine go_iald (pc := 175) (gz_b (by omega)) (va_up_self _ _ _) (gv_in (by decide)) dX10_act_175 ?_
  refine go_top (y := 1) rfl ?_
  exact go_iret (pc := 176) rfl dX10_act_176
theorem cm_act_1 {l : Launch} {G : gG} (x2 : Int32) (x3 : Int32) (x4 : Int32) (x5 : Int32) : CM l G mX10_act [.ref (G.2.1 + 32), .int 1, .int x2, .int x3, .int x4, .int x5] ((if (if (if 0 ≤ x2 ∧ x2 ≤ 7 then (1 : Int32) else 0) = 0 then (0 : Int32) else (if (if 0 ≤ x4 ∧ x4 ≤ 7 then (1 : Int32) else 0) = 0 then (0 : Int32) else 1)) = 0 then (-101) else 1)) := by
  intro n k w hn hw
  by_cases c0 : (if (if 0 ≤ x2 ∧ x2 ≤ 7 then (1 : Int32) else 0) = 0 then (0 : Int32) else (if (if 0 ≤ x4 ∧ x4 ≤ 7 then (1 : Int32) else 0) = 0 then (0 : Int32) else 1)) = 0
  · rw [if_pos c0]
    exact ⟨3, 68, _, by decide, by decide, cm_act_1_t x2 x3 x4 x5 c0 hn hw⟩
  · rw [if_neg c0]
    exact ⟨3, 68, _, by decide, by decide, cm_act_1_f x2 x3 x4 x5 c0 hn hw⟩
set_option maxRecDepth 100000 in
set_option maxHeartbeats 4000000 in
theorem cX10_areKnown_3 {l : Launch} {G : gG} (x2 : Int32) (x3 : Int32) (x4 : Int32) {n k : Nat} {w : Nat → va_E} (hn : 42 ≤ n) (hw : ∀ i, 32 ≤ i → i < 42 → w (G.2.1 + i) = wl G.2.1 (LF G) (G.2.1 + i)) : Ct l G mX10_areKnown 2 45 [.int 2, .int x2, .int x3, .int x4] n k w (some (.int ((if (if 0 ≤ x2 ∧ x2 ≤ 7 then (1 : Int32) else 0) = 0 then (0 : Int32) else (if (if 0 ≤ x4 ∧ x4 ≤ 7 then (1 : Int32) else 0) = 0 then (0 : Int32) else 1)))), n, k, w) := by
  refine Ct.of (by decide) (Nat.le_of_ble_eq_true rfl) ⟨Nat.le_refl _, Nat.le_refl _⟩ ?_
  show Go l G mX10_areKnown _ 0 [(0, .int 2), (1, .int x2), (2, .int x3), (3, .int x4)] [] n k w
  refine go_iload_n (pc := 0) dX10_areKnown_0 rfl rfl ?_
  refine go_tableIn (pc := 1) (off := 72) (tgt := 73) dX10_areKnown_1 (by decide) (by decide) (by decide) (by decide) ?_
  refine go_iload_n (pc := 73) dX10_areKnown_73 rfl rfl ?_
  refine go_callS_i (pc := 74) sX10_272 rfl (cX10_isRegister_2 x2 hn hw) rfl rfl (Nat.le_of_ble_eq_true rfl) ⟨Nat.le_of_ble_eq_true rfl, Nat.le_of_ble_eq_true rfl, (Nat.le_add_right _ _), (Nat.le_add_right _ _)⟩ dX10_areKnown_74 ?_
  refine go_if_eq (pc := 77) (tgt := 91) dX10_areKnown_77 (by decide) (fun c0 => ?_) (fun c0 => ?_)
  · refine go_iconst (pc := 91) (v := 0) dX10_areKnown_91 (by decide) ?_
    refine go_eq (r' := (some (.int 0), _, _, _)) (by rw [if_pos c0]) ?_
    exact go_zret (pc := 92) rfl rfl dX10_areKnown_92
  · refine go_iload_n (pc := 80) dX10_areKnown_80 rfl rfl ?_
    refine go_callS_i (pc := 81) sX10_272 rfl (cX10_isRegister_3 x4 hn hw) rfl rfl (Nat.le_of_ble_eq_true rfl) ⟨Nat.le_of_ble_eq_true rfl, Nat.le_of_ble_eq_true rfl, (Nat.le_add_right _ _), (Nat.le_add_right _ _)⟩ dX10_areKnown_81 ?_
    refine go_if_eq (pc := 84) (tgt := 91) dX10_areKnown_84 (by decide) (fun c1 => ?_) (fun c1 => ?_)
    · refine go_iconst (pc := 91) (v := 0) dX10_areKnown_91 (by decide) ?_
      refine go_eq (r' := (some (.int 0), _, _, _)) (by rw [if_neg c0, if_pos c1]) ?_
      exact go_zret (pc := 92) rfl rfl dX10_areKnown_92
    · refine go_iconst (pc := 87) (v := 1) dX10_areKnown_87 (by decide) ?_
      refine go_goto (pc := 88) (tgt := 92) dX10_areKnown_88 (by decide) ?_
      refine go_eq (r' := (some (.int 1), _, _, _)) (by rw [if_neg c0, if_neg c1]) ?_
      exact go_zret (pc := 92) rfl rfl dX10_areKnown_92
set_option maxRecDepth 100000 in
set_option maxHeartbeats 4000000 in
theorem cm_act_2_t {l : Launch} {G : gG} (x2 : Int32) (x3 : Int32) (x4 : Int32) (x5 : Int32) (c0 : (if (if 0 ≤ x2 ∧ x2 ≤ 7 then (1 : Int32) else 0) = 0 then (0 : Int32) else (if (if 0 ≤ x4 ∧ x4 ≤ 7 then (1 : Int32) else 0) = 0 then (0 : Int32) else 1)) = 0) {n k : Nat} {w : Nat → va_E} (hn : 42 ≤ n) (hw : ∀ i, 32 ≤ i → i < 42 → w (G.2.1 + i) = wl G.2.1 (LF G) (G.2.1 + i)) : Ct l G mX10_act 3 68 [.ref (G.2.1 + 32), .int 2, .int x2, .int x3, .int x4, .int x5] n k w (some (.int ((-101))), n, k, w) := by
  refine Ct.of (by decide) (Nat.le_of_ble_eq_true rfl) ⟨Nat.le_refl _, Nat.le_refl _⟩ ?_
  show Go l G mX10_act _ 0 [(0, .ref (G.2.1 + 32)), (1, .int 2), (2, .int x2), (3, .int x3), (4, .int x4), (5, .int x5)] [] n k w
  refine go_iload_n (pc := 0) dX10_act_0 rfl rfl ?_
  refine go_iload_n (pc := 1) dX10_act_1 rfl rfl ?_
  refine go_iload_n (pc := 2) dX10_act_2 rfl rfl ?_
  refine go_iload (pc := 3) dX10_act_3 rfl ?_
  refine go_callS_i (pc := 5) sX10_275 rfl (cX10_areKnown_3 x2 x3 x4 hn hw) rfl rfl (Nat.le_of_ble_eq_true rfl) ⟨Nat.le_of_ble_eq_true rfl, Nat.le_of_ble_eq_true rfl, (Nat.le_add_right _ _), (Nat.le_add_right _ _)⟩ dX10_act_5 ?_
  refine go_if_ne_f (pc := 8) (tgt := 14) dX10_act_8 (by decide) c0 ?_
  refine go_bipush (pc := 11) (v := (-101)) dX10_act_11 (by decide) ?_
  exact go_iret (pc := 13) rfl dX10_act_13
set_option maxRecDepth 100000 in
set_option maxHeartbeats 4000000 in
theorem cm_act_2_f {l : Launch} {G : gG} (x2 : Int32) (x3 : Int32) (x4 : Int32) (x5 : Int32) (c0 : ¬ (if (if 0 ≤ x2 ∧ x2 ≤ 7 then (1 : Int32) else 0) = 0 then (0 : Int32) else (if (if 0 ≤ x4 ∧ x4 ≤ 7 then (1 : Int32) else 0) = 0 then (0 : Int32) else 1)) = 0) {n k : Nat} {w : Nat → va_E} (hn : 42 ≤ n) (hw : ∀ i, 32 ≤ i → i < 42 → w (G.2.1 + i) = wl G.2.1 (LF G) (G.2.1 + i)) : Ct l G mX10_act 3 68 [.ref (G.2.1 + 32), .int 2, .int x2, .int x3, .int x4, .int x5] n k w (some (.int 1), n, k, (va_up w (G.2.1 + 33) (ai G 26100 (upd (upd (upd (upd (upd (upd (sx 256) (400 : Int32).toNatClampNeg 2) (401 : Int32).toNatClampNeg x2) (402 : Int32).toNatClampNeg x3) (403 : Int32).toNatClampNeg x4) (404 : Int32).toNatClampNeg x5) (11 : Int32).toNatClampNeg 1)))) := by
  refine Ct.of (by decide) (Nat.le_of_ble_eq_true rfl) ⟨Nat.le_refl _, Nat.le_refl _⟩ ?_
  show Go l G mX10_act _ 0 [(0, .ref (G.2.1 + 32)), (1, .int 2), (2, .int x2), (3, .int x3), (4, .int x4), (5, .int x5)] [] n k w
  refine go_iload_n (pc := 0) dX10_act_0 rfl rfl ?_
  refine go_iload_n (pc := 1) dX10_act_1 rfl rfl ?_
  refine go_iload_n (pc := 2) dX10_act_2 rfl rfl ?_
  refine go_iload (pc := 3) dX10_act_3 rfl ?_
  refine go_callS_i (pc := 5) sX10_275 rfl (cX10_areKnown_3 x2 x3 x4 hn hw) rfl rfl (Nat.le_of_ble_eq_true rfl) ⟨Nat.le_of_ble_eq_true rfl, Nat.le_of_ble_eq_true rfl, (Nat.le_add_right _ _), (Nat.le_add_right _ _)⟩ dX10_act_5 ?_
  refine go_if_ne_t (pc := 8) (tgt := 14) dX10_act_8 (by decide) c0 ?_
  refine go_iload_n (pc := 14) dX10_act_14 rfl rfl ?_
  refine go_i2l (pc := 15) dX10_act_15 ?_
  refine go_topl (y := 2) (by decide) ?_
  refine go_lconst (pc := 16) (v := 0) dX10_act_16 (by decide) ?_
  refine go_ldc2 (pc := 17) rfl qX10_279 dX10_act_17 ?_
  refine go_callS_i (pc := 20) sX10_63 rfl (ct_in 2 0 12) rfl rfl (Nat.le_of_ble_eq_true rfl) ⟨Nat.le_of_ble_eq_true rfl, Nat.le_of_ble_eq_true rfl, (Nat.le_add_right _ _), (Nat.le_add_right _ _)⟩ dX10_act_20 ?_
  refine go_top (y := 1) (by decide) ?_
  refine go_if_eq_f (pc := 23) (tgt := 75) dX10_act_23 (by decide) (by decide) ?_
  refine go_iload_n (pc := 26) dX10_act_26 rfl rfl ?_
  refine go_if_ne_t (pc := 27) (tgt := 57) dX10_act_27 (by decide) (by decide) ?_
  refine go_iload_n (pc := 57) dX10_act_57 rfl rfl ?_
  refine go_bipush (pc := 58) (v := 9) dX10_act_58 (by decide) ?_
  refine go_icmp_ne_t (pc := 60) (tgt := 78) dX10_act_60 (by decide) (by decide) ?_
  refine go_aload_n (pc := 78) dX10_act_78 rfl rfl ?_
  refine go_get (pc := 79) fX10_9 rfl (gz_b (by omega)) ((hw 32 (by decide) (by decide)).trans (wl_at (i := 32) rfl)) rfl dX10_act_79 ?_
  refine go_bipush (pc := 82) (v := 11) dX10_act_82 (by decide) ?_
  refine go_iald (pc := 84) (gz_b (by omega)) ((hw 33 (by decide) (by decide)).trans (wl_at (i := 33) rfl)) (gv_in (by decide)) dX10_act_84 ?_
  refine go_top (y := 0) rfl ?_
  refine go_bipush (pc := 85) (v := 40) dX10_act_85 (by decide) ?_
  refine go_icmp_ne_t (pc := 87) (tgt := 93) dX10_act_87 (by decide) (by decide) ?_
  refine go_sipush (pc := 93) (v := 400) dX10_act_93 (by decide) ?_
  refine go_iconst (pc := 96) (v := 5) dX10_act_96 (by decide) ?_
  refine go_aload_n (pc := 97) dX10_act_97 rfl rfl ?_
  refine go_get (pc := 98) fX10_9 rfl (gz_b (by omega)) ((hw 32 (by decide) (by decide)).trans (wl_at (i := 32) rfl)) rfl dX10_act_98 ?_
  refine go_bipush (pc := 101) (v := 11) dX10_act_101 (by decide) ?_
  refine go_iald (pc := 103) (gz_b (by omega)) ((hw 33 (by decide) (by decide)).trans (wl_at (i := 33) rfl)) (gv_in (by decide)) dX10_act_103 ?_
  refine go_top (y := 0) rfl ?_
  refine go_imul (pc := 104) dX10_act_104 ?_
  refine go_top (y := 0) (by decide) ?_
  refine go_iadd (pc := 105) dX10_act_105 ?_
  refine go_top (y := 400) (by decide) ?_
  refine go_istore (pc := 106) (lv' := [(6, .int 400), (0, .ref (G.2.1 + 32)), (1, .int 2), (2, .int x2), (3, .int x3), (4, .int x4), (5, .int x5)]) dX10_act_106 (by decide) rfl ?_
  refine go_aload_n (pc := 108) dX10_act_108 rfl rfl ?_
  refine go_get (pc := 109) fX10_9 rfl (gz_b (by omega)) ((hw 32 (by decide) (by decide)).trans (wl_at (i := 32) rfl)) rfl dX10_act_109 ?_
  refine go_iload (pc := 112) dX10_act_112 rfl ?_
  refine go_iload_n (pc := 114) dX10_act_114 rfl rfl ?_
  refine go_iast (pc := 115) (gz_b (by omega)) ((hw 33 (by decide) (by decide)).trans (wl_at (i := 33) rfl)) (gv_in (by decide)) dX10_act_115 ?_
  refine go_aload_n (pc := 116) dX10_act_116 rfl rfl ?_
  refine go_get (pc := 117) fX10_9 rfl (gz_b (by omega)) ((va_up_ne _ _ (gz_ne (by decide))).trans ((hw 32 (by decide) (by decide)).trans (wl_at (i := 32) rfl))) rfl dX10_act_117 ?_
  refine go_iload (pc := 120) dX10_act_120 rfl ?_
  refine go_iconst (pc := 122) (v := 1) dX10_act_122 (by decide) ?_
  refine go_iadd (pc := 123) dX10_act_123 ?_
  refine go_top (y := 401) (by decide) ?_
  refine go_iload_n (pc := 124) dX10_act_124 rfl rfl ?_
  refine go_iast (pc := 125) (gz_b (by omega)) (va_up_self _ _ _) (gv_in (by decide)) dX10_act_125 ?_
  refine go_w (va_up_up _ _ _ _) ?_
  refine go_aload_n (pc := 126) dX10_act_126 rfl rfl ?_
  refine go_get (pc := 127) fX10_9 rfl (gz_b (by omega)) ((va_up_ne _ _ (gz_ne (by decide))).trans ((hw 32 (by decide) (by decide)).trans (wl_at (i := 32) rfl))) rfl dX10_act_127 ?_
  refine go_iload (pc := 130) dX10_act_130 rfl ?_
  refine go_iconst (pc := 132) (v := 2) dX10_act_132 (by decide) ?_
  refine go_iadd (pc := 133) dX10_act_133 ?_
  refine go_top (y := 402) (by decide) ?_
  refine go_iload_n (pc := 134) dX10_act_134 rfl rfl ?_
  refine go_iast (pc := 135) (gz_b (by omega)) (va_up_self _ _ _) (gv_in (by decide)) dX10_act_135 ?_
  refine go_w (va_up_up _ _ _ _) ?_
  refine go_aload_n (pc := 136) dX10_act_136 rfl rfl ?_
  refine go_get (pc := 137) fX10_9 rfl (gz_b (by omega)) ((va_up_ne _ _ (gz_ne (by decide))).trans ((hw 32 (by decide) (by decide)).trans (wl_at (i := 32) rfl))) rfl dX10_act_137 ?_
  refine go_iload (pc := 140) dX10_act_140 rfl ?_
  refine go_iconst (pc := 142) (v := 3) dX10_act_142 (by decide) ?_
  refine go_iadd (pc := 143) dX10_act_143 ?_
  refine go_top (y := 403) (by decide) ?_
  refine go_iload (pc := 144) dX10_act_144 rfl ?_
  refine go_iast (pc := 146) (gz_b (by omega)) (va_up_self _ _ _) (gv_in (by decide)) dX10_act_146 ?_
  refine go_w (va_up_up _ _ _ _) ?_
  refine go_aload_n (pc := 147) dX10_act_147 rfl rfl ?_
  refine go_get (pc := 148) fX10_9 rfl (gz_b (by omega)) ((va_up_ne _ _ (gz_ne (by decide))).trans ((hw 32 (by decide) (by decide)).trans (wl_at (i := 32) rfl))) rfl dX10_act_148 ?_
  refine go_iload (pc := 151) dX10_act_151 rfl ?_
  refine go_iconst (pc := 153) (v := 4) dX10_act_153 (by decide) ?_
  refine go_iadd (pc := 154) dX10_act_154 ?_
  refine go_top (y := 404) (by decide) ?_
  refine go_iload (pc := 155) dX10_act_155 rfl ?_
  refine go_iast (pc := 157) (gz_b (by omega)) (va_up_self _ _ _) (gv_in (by decide)) dX10_act_157 ?_
  refine go_w (va_up_up _ _ _ _) ?_
  refine go_aload_n (pc := 158) dX10_act_158 rfl rfl ?_
  refine go_get (pc := 159) fX10_9 rfl (gz_b (by omega)) ((va_up_ne _ _ (gz_ne (by decide))).trans ((hw 32 (by decide) (by decide)).trans (wl_at (i := 32) rfl))) rfl dX10_act_159 ?_
  refine go_bipush (pc := 162) (v := 11) dX10_act_162 (by decide) ?_
  refine go_dup2 (pc := 164) dX10_act_164 rfl rfl ?_
  refine go_iald (pc := 165) (gz_b (by omega)) (va_up_self _ _ _) (gv_in (by decide)) dX10_act_165 ?_
  refine go_top (y := 0) rfl ?_
  refine go_iconst (pc := 166) (v := 1) dX10_act_166 (by decide) ?_
  refine go_iadd (pc := 167) dX10_act_167 ?_
  refine go_top (y := 1) (by decide) ?_
  refine go_iast (pc := 168) (gz_b (by omega)) (va_up_self _ _ _) (gv_in (by decide)) dX10_act_168 ?_
  refine go_w (va_up_up _ _ _ _) ?_
  refine go_aload_n (pc := 169) dX10_act_169 rfl rfl ?_
  refine go_get (pc := 170) fX10_9 rfl (gz_b (by omega)) ((va_up_ne _ _ (gz_ne (by decide))).trans ((hw 32 (by decide) (by decide)).trans (wl_at (i := 32) rfl))) rfl dX10_act_170 ?_
  refine go_bipush (pc := 173) (v := 11) dX10_act_173 (by decide) ?_
  refine go_iald (pc := 175) (gz_b (by omega)) (va_up_self _ _ _) (gv_in (by decide)) dX10_act_175 ?_
  refine go_top (y := 1) rfl ?_
  exact go_iret (pc := 176) rfl dX10_act_176
theorem cm_act_2 {l : Launch} {G : gG} (x2 : Int32) (x3 : Int32) (x4 : Int32) (x5 : Int32) : CM l G mX10_act [.ref (G.2.1 + 32), .int 2, .int x2, .int x3, .int x4, .int x5] ((if (if (if 0 ≤ x2 ∧ x2 ≤ 7 then (1 : Int32) else 0) = 0 then (0 : Int32) else (if (if 0 ≤ x4 ∧ x4 ≤ 7 then (1 : Int32) else 0) = 0 then (0 : Int32) else 1)) = 0 then (-101) else 1)) := by
  intro n k w hn hw
  by_cases c0 : (if (if 0 ≤ x2 ∧ x2 ≤ 7 then (1 : Int32) else 0) = 0 then (0 : Int32) else (if (if 0 ≤ x4 ∧ x4 ≤ 7 then (1 : Int32) else 0) = 0 then (0 : Int32) else 1)) = 0
  · rw [if_pos c0]
    exact ⟨3, 68, _, by decide, by decide, cm_act_2_t x2 x3 x4 x5 c0 hn hw⟩
  · rw [if_neg c0]
    exact ⟨3, 68, _, by decide, by decide, cm_act_2_f x2 x3 x4 x5 c0 hn hw⟩
set_option maxRecDepth 100000 in
set_option maxHeartbeats 4000000 in
theorem cX10_isRoot_2 {l : Launch} {G : gG} (x2 : Int32) {n k : Nat} {w : Nat → va_E} (hn : 42 ≤ n) (hw : ∀ i, 32 ≤ i → i < 42 → w (G.2.1 + i) = wl G.2.1 (LF G) (G.2.1 + i)) : Ct l G mX10_isRoot 1 25 [.int x2] n k w (some (.int ((if 0 ≤ x2 ∧ x2 ≤ 23 then (1 : Int32) else 0))), n, k, w) := by
  refine Ct.of (by decide) (Nat.le_of_ble_eq_true rfl) ⟨Nat.le_refl _, Nat.le_refl _⟩ ?_
  show Go l G mX10_isRoot _ 0 [(0, .int x2)] [] n k w
  refine go_iload_n (pc := 0) dX10_isRoot_0 rfl rfl ?_
  refine go_i2l (pc := 1) dX10_isRoot_1 ?_
  refine go_lconst (pc := 2) (v := 0) dX10_isRoot_2 (by decide) ?_
  refine go_ldc2 (pc := 3) rfl qX10_198 dX10_isRoot_3 ?_
  refine go_callS_i (pc := 6) sX10_63 rfl (ct_in x2.toInt64 0 23) rfl rfl (Nat.le_of_ble_eq_true rfl) ⟨Nat.le_of_ble_eq_true rfl, Nat.le_of_ble_eq_true rfl, (Nat.le_add_right _ _), (Nat.le_add_right _ _)⟩ dX10_isRoot_6 ?_
  refine go_top (y := (if 0 ≤ x2 ∧ x2 ≤ 23 then (1 : Int32) else 0)) (gi_in (by decide) (by decide)) ?_
  exact go_zret (pc := 9) rfl (gz_nb _) dX10_isRoot_9
set_option maxRecDepth 100000 in
set_option maxHeartbeats 4000000 in
theorem cX10_isRegister_4 {l : Launch} {G : gG} (x3 : Int32) {n k : Nat} {w : Nat → va_E} (hn : 42 ≤ n) (hw : ∀ i, 32 ≤ i → i < 42 → w (G.2.1 + i) = wl G.2.1 (LF G) (G.2.1 + i)) : Ct l G mX10_isRegister 1 25 [.int x3] n k w (some (.int ((if 0 ≤ x3 ∧ x3 ≤ 7 then (1 : Int32) else 0))), n, k, w) := by
  refine Ct.of (by decide) (Nat.le_of_ble_eq_true rfl) ⟨Nat.le_refl _, Nat.le_refl _⟩ ?_
  show Go l G mX10_isRegister _ 0 [(0, .int x3)] [] n k w
  refine go_iload_n (pc := 0) dX10_isRegister_0 rfl rfl ?_
  refine go_i2l (pc := 1) dX10_isRegister_1 ?_
  refine go_lconst (pc := 2) (v := 0) dX10_isRegister_2 (by decide) ?_
  refine go_ldc2 (pc := 3) rfl qX10_213 dX10_isRegister_3 ?_
  refine go_callS_i (pc := 6) sX10_63 rfl (ct_in x3.toInt64 0 7) rfl rfl (Nat.le_of_ble_eq_true rfl) ⟨Nat.le_of_ble_eq_true rfl, Nat.le_of_ble_eq_true rfl, (Nat.le_add_right _ _), (Nat.le_add_right _ _)⟩ dX10_isRegister_6 ?_
  refine go_top (y := (if 0 ≤ x3 ∧ x3 ≤ 7 then (1 : Int32) else 0)) (gi_in (by decide) (by decide)) ?_
  exact go_zret (pc := 9) rfl (gz_nb _) dX10_isRegister_9
set_option maxRecDepth 100000 in
set_option maxHeartbeats 4000000 in
theorem cX10_areKnown_4 {l : Launch} {G : gG} (x2 : Int32) (x3 : Int32) (x4 : Int32) {n k : Nat} {w : Nat → va_E} (hn : 42 ≤ n) (hw : ∀ i, 32 ≤ i → i < 42 → w (G.2.1 + i) = wl G.2.1 (LF G) (G.2.1 + i)) : Ct l G mX10_areKnown 2 45 [.int 3, .int x2, .int x3, .int x4] n k w (some (.int ((if (if 0 ≤ x2 ∧ x2 ≤ 23 then (1 : Int32) else 0) = 0 then (0 : Int32) else (if (if 0 ≤ x3 ∧ x3 ≤ 7 then (1 : Int32) else 0) = 0 then (0 : Int32) else 1)))), n, k, w) := by
  refine Ct.of (by decide) (Nat.le_of_ble_eq_true rfl) ⟨Nat.le_refl _, Nat.le_refl _⟩ ?_
  show Go l G mX10_areKnown _ 0 [(0, .int 3), (1, .int x2), (2, .int x3), (3, .int x4)] [] n k w
  refine go_iload_n (pc := 0) dX10_areKnown_0 rfl rfl ?_
  refine go_tableIn (pc := 1) (off := 92) (tgt := 93) dX10_areKnown_1 (by decide) (by decide) (by decide) (by decide) ?_
  refine go_iload_n (pc := 93) dX10_areKnown_93 rfl rfl ?_
  refine go_callS_i (pc := 94) sX10_200 rfl (cX10_isRoot_2 x2 hn hw) rfl rfl (Nat.le_of_ble_eq_true rfl) ⟨Nat.le_of_ble_eq_true rfl, Nat.le_of_ble_eq_true rfl, (Nat.le_add_right _ _), (Nat.le_add_right _ _)⟩ dX10_areKnown_94 ?_
  refine go_if_eq (pc := 97) (tgt := 111) dX10_areKnown_97 (by decide) (fun c0 => ?_) (fun c0 => ?_)
  · refine go_iconst (pc := 111) (v := 0) dX10_areKnown_111 (by decide) ?_
    refine go_eq (r' := (some (.int 0), _, _, _)) (by rw [if_pos c0]) ?_
    exact go_zret (pc := 112) rfl rfl dX10_areKnown_112
  · refine go_iload_n (pc := 100) dX10_areKnown_100 rfl rfl ?_
    refine go_callS_i (pc := 101) sX10_272 rfl (cX10_isRegister_4 x3 hn hw) rfl rfl (Nat.le_of_ble_eq_true rfl) ⟨Nat.le_of_ble_eq_true rfl, Nat.le_of_ble_eq_true rfl, (Nat.le_add_right _ _), (Nat.le_add_right _ _)⟩ dX10_areKnown_101 ?_
    refine go_if_eq (pc := 104) (tgt := 111) dX10_areKnown_104 (by decide) (fun c1 => ?_) (fun c1 => ?_)
    · refine go_iconst (pc := 111) (v := 0) dX10_areKnown_111 (by decide) ?_
      refine go_eq (r' := (some (.int 0), _, _, _)) (by rw [if_neg c0, if_pos c1]) ?_
      exact go_zret (pc := 112) rfl rfl dX10_areKnown_112
    · refine go_iconst (pc := 107) (v := 1) dX10_areKnown_107 (by decide) ?_
      refine go_goto (pc := 108) (tgt := 112) dX10_areKnown_108 (by decide) ?_
      refine go_eq (r' := (some (.int 1), _, _, _)) (by rw [if_neg c0, if_neg c1]) ?_
      exact go_zret (pc := 112) rfl rfl dX10_areKnown_112
set_option maxRecDepth 100000 in
set_option maxHeartbeats 4000000 in
theorem cm_act_3_t {l : Launch} {G : gG} (x2 : Int32) (x3 : Int32) (x4 : Int32) (x5 : Int32) (c0 : (if (if 0 ≤ x2 ∧ x2 ≤ 23 then (1 : Int32) else 0) = 0 then (0 : Int32) else (if (if 0 ≤ x3 ∧ x3 ≤ 7 then (1 : Int32) else 0) = 0 then (0 : Int32) else 1)) = 0) {n k : Nat} {w : Nat → va_E} (hn : 42 ≤ n) (hw : ∀ i, 32 ≤ i → i < 42 → w (G.2.1 + i) = wl G.2.1 (LF G) (G.2.1 + i)) : Ct l G mX10_act 3 68 [.ref (G.2.1 + 32), .int 3, .int x2, .int x3, .int x4, .int x5] n k w (some (.int ((-101))), n, k, w) := by
  refine Ct.of (by decide) (Nat.le_of_ble_eq_true rfl) ⟨Nat.le_refl _, Nat.le_refl _⟩ ?_
  show Go l G mX10_act _ 0 [(0, .ref (G.2.1 + 32)), (1, .int 3), (2, .int x2), (3, .int x3), (4, .int x4), (5, .int x5)] [] n k w
  refine go_iload_n (pc := 0) dX10_act_0 rfl rfl ?_
  refine go_iload_n (pc := 1) dX10_act_1 rfl rfl ?_
  refine go_iload_n (pc := 2) dX10_act_2 rfl rfl ?_
  refine go_iload (pc := 3) dX10_act_3 rfl ?_
  refine go_callS_i (pc := 5) sX10_275 rfl (cX10_areKnown_4 x2 x3 x4 hn hw) rfl rfl (Nat.le_of_ble_eq_true rfl) ⟨Nat.le_of_ble_eq_true rfl, Nat.le_of_ble_eq_true rfl, (Nat.le_add_right _ _), (Nat.le_add_right _ _)⟩ dX10_act_5 ?_
  refine go_if_ne_f (pc := 8) (tgt := 14) dX10_act_8 (by decide) c0 ?_
  refine go_bipush (pc := 11) (v := (-101)) dX10_act_11 (by decide) ?_
  exact go_iret (pc := 13) rfl dX10_act_13
set_option maxRecDepth 100000 in
set_option maxHeartbeats 4000000 in
theorem cm_act_3_f {l : Launch} {G : gG} (x2 : Int32) (x3 : Int32) (x4 : Int32) (x5 : Int32) (c0 : ¬ (if (if 0 ≤ x2 ∧ x2 ≤ 23 then (1 : Int32) else 0) = 0 then (0 : Int32) else (if (if 0 ≤ x3 ∧ x3 ≤ 7 then (1 : Int32) else 0) = 0 then (0 : Int32) else 1)) = 0) {n k : Nat} {w : Nat → va_E} (hn : 42 ≤ n) (hw : ∀ i, 32 ≤ i → i < 42 → w (G.2.1 + i) = wl G.2.1 (LF G) (G.2.1 + i)) : Ct l G mX10_act 3 68 [.ref (G.2.1 + 32), .int 3, .int x2, .int x3, .int x4, .int x5] n k w (some (.int 1), n, k, (va_up w (G.2.1 + 33) (ai G 26100 (upd (upd (upd (upd (upd (upd (sx 256) (400 : Int32).toNatClampNeg 3) (401 : Int32).toNatClampNeg x2) (402 : Int32).toNatClampNeg x3) (403 : Int32).toNatClampNeg x4) (404 : Int32).toNatClampNeg x5) (11 : Int32).toNatClampNeg 1)))) := by
  refine Ct.of (by decide) (Nat.le_of_ble_eq_true rfl) ⟨Nat.le_refl _, Nat.le_refl _⟩ ?_
  show Go l G mX10_act _ 0 [(0, .ref (G.2.1 + 32)), (1, .int 3), (2, .int x2), (3, .int x3), (4, .int x4), (5, .int x5)] [] n k w
  refine go_iload_n (pc := 0) dX10_act_0 rfl rfl ?_
  refine go_iload_n (pc := 1) dX10_act_1 rfl rfl ?_
  refine go_iload_n (pc := 2) dX10_act_2 rfl rfl ?_
  refine go_iload (pc := 3) dX10_act_3 rfl ?_
  refine go_callS_i (pc := 5) sX10_275 rfl (cX10_areKnown_4 x2 x3 x4 hn hw) rfl rfl (Nat.le_of_ble_eq_true rfl) ⟨Nat.le_of_ble_eq_true rfl, Nat.le_of_ble_eq_true rfl, (Nat.le_add_right _ _), (Nat.le_add_right _ _)⟩ dX10_act_5 ?_
  refine go_if_ne_t (pc := 8) (tgt := 14) dX10_act_8 (by decide) c0 ?_
  refine go_iload_n (pc := 14) dX10_act_14 rfl rfl ?_
  refine go_i2l (pc := 15) dX10_act_15 ?_
  refine go_topl (y := 3) (by decide) ?_
  refine go_lconst (pc := 16) (v := 0) dX10_act_16 (by decide) ?_
  refine go_ldc2 (pc := 17) rfl qX10_279 dX10_act_17 ?_
  refine go_callS_i (pc := 20) sX10_63 rfl (ct_in 3 0 12) rfl rfl (Nat.le_of_ble_eq_true rfl) ⟨Nat.le_of_ble_eq_true rfl, Nat.le_of_ble_eq_true rfl, (Nat.le_add_right _ _), (Nat.le_add_right _ _)⟩ dX10_act_20 ?_
  refine go_top (y := 1) (by decide) ?_
  refine go_if_eq_f (pc := 23) (tgt := 75) dX10_act_23 (by decide) (by decide) ?_
  refine go_iload_n (pc := 26) dX10_act_26 rfl rfl ?_
  refine go_if_ne_t (pc := 27) (tgt := 57) dX10_act_27 (by decide) (by decide) ?_
  refine go_iload_n (pc := 57) dX10_act_57 rfl rfl ?_
  refine go_bipush (pc := 58) (v := 9) dX10_act_58 (by decide) ?_
  refine go_icmp_ne_t (pc := 60) (tgt := 78) dX10_act_60 (by decide) (by decide) ?_
  refine go_aload_n (pc := 78) dX10_act_78 rfl rfl ?_
  refine go_get (pc := 79) fX10_9 rfl (gz_b (by omega)) ((hw 32 (by decide) (by decide)).trans (wl_at (i := 32) rfl)) rfl dX10_act_79 ?_
  refine go_bipush (pc := 82) (v := 11) dX10_act_82 (by decide) ?_
  refine go_iald (pc := 84) (gz_b (by omega)) ((hw 33 (by decide) (by decide)).trans (wl_at (i := 33) rfl)) (gv_in (by decide)) dX10_act_84 ?_
  refine go_top (y := 0) rfl ?_
  refine go_bipush (pc := 85) (v := 40) dX10_act_85 (by decide) ?_
  refine go_icmp_ne_t (pc := 87) (tgt := 93) dX10_act_87 (by decide) (by decide) ?_
  refine go_sipush (pc := 93) (v := 400) dX10_act_93 (by decide) ?_
  refine go_iconst (pc := 96) (v := 5) dX10_act_96 (by decide) ?_
  refine go_aload_n (pc := 97) dX10_act_97 rfl rfl ?_
  refine go_get (pc := 98) fX10_9 rfl (gz_b (by omega)) ((hw 32 (by decide) (by decide)).trans (wl_at (i := 32) rfl)) rfl dX10_act_98 ?_
  refine go_bipush (pc := 101) (v := 11) dX10_act_101 (by decide) ?_
  refine go_iald (pc := 103) (gz_b (by omega)) ((hw 33 (by decide) (by decide)).trans (wl_at (i := 33) rfl)) (gv_in (by decide)) dX10_act_103 ?_
  refine go_top (y := 0) rfl ?_
  refine go_imul (pc := 104) dX10_act_104 ?_
  refine go_top (y := 0) (by decide) ?_
  refine go_iadd (pc := 105) dX10_act_105 ?_
  refine go_top (y := 400) (by decide) ?_
  refine go_istore (pc := 106) (lv' := [(6, .int 400), (0, .ref (G.2.1 + 32)), (1, .int 3), (2, .int x2), (3, .int x3), (4, .int x4), (5, .int x5)]) dX10_act_106 (by decide) rfl ?_
  refine go_aload_n (pc := 108) dX10_act_108 rfl rfl ?_
  refine go_get (pc := 109) fX10_9 rfl (gz_b (by omega)) ((hw 32 (by decide) (by decide)).trans (wl_at (i := 32) rfl)) rfl dX10_act_109 ?_
  refine go_iload (pc := 112) dX10_act_112 rfl ?_
  refine go_iload_n (pc := 114) dX10_act_114 rfl rfl ?_
  refine go_iast (pc := 115) (gz_b (by omega)) ((hw 33 (by decide) (by decide)).trans (wl_at (i := 33) rfl)) (gv_in (by decide)) dX10_act_115 ?_
  refine go_aload_n (pc := 116) dX10_act_116 rfl rfl ?_
  refine go_get (pc := 117) fX10_9 rfl (gz_b (by omega)) ((va_up_ne _ _ (gz_ne (by decide))).trans ((hw 32 (by decide) (by decide)).trans (wl_at (i := 32) rfl))) rfl dX10_act_117 ?_
  refine go_iload (pc := 120) dX10_act_120 rfl ?_
  refine go_iconst (pc := 122) (v := 1) dX10_act_122 (by decide) ?_
  refine go_iadd (pc := 123) dX10_act_123 ?_
  refine go_top (y := 401) (by decide) ?_
  refine go_iload_n (pc := 124) dX10_act_124 rfl rfl ?_
  refine go_iast (pc := 125) (gz_b (by omega)) (va_up_self _ _ _) (gv_in (by decide)) dX10_act_125 ?_
  refine go_w (va_up_up _ _ _ _) ?_
  refine go_aload_n (pc := 126) dX10_act_126 rfl rfl ?_
  refine go_get (pc := 127) fX10_9 rfl (gz_b (by omega)) ((va_up_ne _ _ (gz_ne (by decide))).trans ((hw 32 (by decide) (by decide)).trans (wl_at (i := 32) rfl))) rfl dX10_act_127 ?_
  refine go_iload (pc := 130) dX10_act_130 rfl ?_
  refine go_iconst (pc := 132) (v := 2) dX10_act_132 (by decide) ?_
  refine go_iadd (pc := 133) dX10_act_133 ?_
  refine go_top (y := 402) (by decide) ?_
  refine go_iload_n (pc := 134) dX10_act_134 rfl rfl ?_
  refine go_iast (pc := 135) (gz_b (by omega)) (va_up_self _ _ _) (gv_in (by decide)) dX10_act_135 ?_
  refine go_w (va_up_up _ _ _ _) ?_
  refine go_aload_n (pc := 136) dX10_act_136 rfl rfl ?_
  refine go_get (pc := 137) fX10_9 rfl (gz_b (by omega)) ((va_up_ne _ _ (gz_ne (by decide))).trans ((hw 32 (by decide) (by decide)).trans (wl_at (i := 32) rfl))) rfl dX10_act_137 ?_
  refine go_iload (pc := 140) dX10_act_140 rfl ?_
  refine go_iconst (pc := 142) (v := 3) dX10_act_142 (by decide) ?_
  refine go_iadd (pc := 143) dX10_act_143 ?_
  refine go_top (y := 403) (by decide) ?_
  refine go_iload (pc := 144) dX10_act_144 rfl ?_
  refine go_iast (pc := 146) (gz_b (by omega)) (va_up_self _ _ _) (gv_in (by decide)) dX10_act_146 ?_
  refine go_w (va_up_up _ _ _ _) ?_
  refine go_aload_n (pc := 147) dX10_act_147 rfl rfl ?_
  refine go_get (pc := 148) fX10_9 rfl (gz_b (by omega)) ((va_up_ne _ _ (gz_ne (by decide))).trans ((hw 32 (by decide) (by decide)).trans (wl_at (i := 32) rfl))) rfl dX10_act_148 ?_
  refine go_iload (pc := 151) dX10_act_151 rfl ?_
  refine go_iconst (pc := 153) (v := 4) dX10_act_153 (by decide) ?_
  refine go_iadd (pc := 154) dX10_act_154 ?_
  refine go_top (y := 404) (by decide) ?_
  refine go_iload (pc := 155) dX10_act_155 rfl ?_
  refine go_iast (pc := 157) (gz_b (by omega)) (va_up_self _ _ _) (gv_in (by decide)) dX10_act_157 ?_
  refine go_w (va_up_up _ _ _ _) ?_
  refine go_aload_n (pc := 158) dX10_act_158 rfl rfl ?_
  refine go_get (pc := 159) fX10_9 rfl (gz_b (by omega)) ((va_up_ne _ _ (gz_ne (by decide))).trans ((hw 32 (by decide) (by decide)).trans (wl_at (i := 32) rfl))) rfl dX10_act_159 ?_
  refine go_bipush (pc := 162) (v := 11) dX10_act_162 (by decide) ?_
  refine go_dup2 (pc := 164) dX10_act_164 rfl rfl ?_
  refine go_iald (pc := 165) (gz_b (by omega)) (va_up_self _ _ _) (gv_in (by decide)) dX10_act_165 ?_
  refine go_top (y := 0) rfl ?_
  refine go_iconst (pc := 166) (v := 1) dX10_act_166 (by decide) ?_
  refine go_iadd (pc := 167) dX10_act_167 ?_
  refine go_top (y := 1) (by decide) ?_
  refine go_iast (pc := 168) (gz_b (by omega)) (va_up_self _ _ _) (gv_in (by decide)) dX10_act_168 ?_
  refine go_w (va_up_up _ _ _ _) ?_
  refine go_aload_n (pc := 169) dX10_act_169 rfl rfl ?_
  refine go_get (pc := 170) fX10_9 rfl (gz_b (by omega)) ((va_up_ne _ _ (gz_ne (by decide))).trans ((hw 32 (by decide) (by decide)).trans (wl_at (i := 32) rfl))) rfl dX10_act_170 ?_
  refine go_bipush (pc := 173) (v := 11) dX10_act_173 (by decide) ?_
  refine go_iald (pc := 175) (gz_b (by omega)) (va_up_self _ _ _) (gv_in (by decide)) dX10_act_175 ?_
  refine go_top (y := 1) rfl ?_
  exact go_iret (pc := 176) rfl dX10_act_176
theorem cm_act_3 {l : Launch} {G : gG} (x2 : Int32) (x3 : Int32) (x4 : Int32) (x5 : Int32) : CM l G mX10_act [.ref (G.2.1 + 32), .int 3, .int x2, .int x3, .int x4, .int x5] ((if (if (if 0 ≤ x2 ∧ x2 ≤ 23 then (1 : Int32) else 0) = 0 then (0 : Int32) else (if (if 0 ≤ x3 ∧ x3 ≤ 7 then (1 : Int32) else 0) = 0 then (0 : Int32) else 1)) = 0 then (-101) else 1)) := by
  intro n k w hn hw
  by_cases c0 : (if (if 0 ≤ x2 ∧ x2 ≤ 23 then (1 : Int32) else 0) = 0 then (0 : Int32) else (if (if 0 ≤ x3 ∧ x3 ≤ 7 then (1 : Int32) else 0) = 0 then (0 : Int32) else 1)) = 0
  · rw [if_pos c0]
    exact ⟨3, 68, _, by decide, by decide, cm_act_3_t x2 x3 x4 x5 c0 hn hw⟩
  · rw [if_neg c0]
    exact ⟨3, 68, _, by decide, by decide, cm_act_3_f x2 x3 x4 x5 c0 hn hw⟩
set_option maxRecDepth 100000 in
set_option maxHeartbeats 4000000 in
theorem cX10_areKnown_5 {l : Launch} {G : gG} (x2 : Int32) (x3 : Int32) (x4 : Int32) {n k : Nat} {w : Nat → va_E} (hn : 42 ≤ n) (hw : ∀ i, 32 ≤ i → i < 42 → w (G.2.1 + i) = wl G.2.1 (LF G) (G.2.1 + i)) : Ct l G mX10_areKnown 2 45 [.int 4, .int x2, .int x3, .int x4] n k w (some (.int ((if (if 0 ≤ x2 ∧ x2 ≤ 23 then (1 : Int32) else 0) = 0 then (0 : Int32) else (if (if 0 ≤ x3 ∧ x3 ≤ 7 then (1 : Int32) else 0) = 0 then (0 : Int32) else 1)))), n, k, w) := by
  refine Ct.of (by decide) (Nat.le_of_ble_eq_true rfl) ⟨Nat.le_refl _, Nat.le_refl _⟩ ?_
  show Go l G mX10_areKnown _ 0 [(0, .int 4), (1, .int x2), (2, .int x3), (3, .int x4)] [] n k w
  refine go_iload_n (pc := 0) dX10_areKnown_0 rfl rfl ?_
  refine go_tableIn (pc := 1) (off := 92) (tgt := 93) dX10_areKnown_1 (by decide) (by decide) (by decide) (by decide) ?_
  refine go_iload_n (pc := 93) dX10_areKnown_93 rfl rfl ?_
  refine go_callS_i (pc := 94) sX10_200 rfl (cX10_isRoot_2 x2 hn hw) rfl rfl (Nat.le_of_ble_eq_true rfl) ⟨Nat.le_of_ble_eq_true rfl, Nat.le_of_ble_eq_true rfl, (Nat.le_add_right _ _), (Nat.le_add_right _ _)⟩ dX10_areKnown_94 ?_
  refine go_if_eq (pc := 97) (tgt := 111) dX10_areKnown_97 (by decide) (fun c0 => ?_) (fun c0 => ?_)
  · refine go_iconst (pc := 111) (v := 0) dX10_areKnown_111 (by decide) ?_
    refine go_eq (r' := (some (.int 0), _, _, _)) (by rw [if_pos c0]) ?_
    exact go_zret (pc := 112) rfl rfl dX10_areKnown_112
  · refine go_iload_n (pc := 100) dX10_areKnown_100 rfl rfl ?_
    refine go_callS_i (pc := 101) sX10_272 rfl (cX10_isRegister_4 x3 hn hw) rfl rfl (Nat.le_of_ble_eq_true rfl) ⟨Nat.le_of_ble_eq_true rfl, Nat.le_of_ble_eq_true rfl, (Nat.le_add_right _ _), (Nat.le_add_right _ _)⟩ dX10_areKnown_101 ?_
    refine go_if_eq (pc := 104) (tgt := 111) dX10_areKnown_104 (by decide) (fun c1 => ?_) (fun c1 => ?_)
    · refine go_iconst (pc := 111) (v := 0) dX10_areKnown_111 (by decide) ?_
      refine go_eq (r' := (some (.int 0), _, _, _)) (by rw [if_neg c0, if_pos c1]) ?_
      exact go_zret (pc := 112) rfl rfl dX10_areKnown_112
    · refine go_iconst (pc := 107) (v := 1) dX10_areKnown_107 (by decide) ?_
      refine go_goto (pc := 108) (tgt := 112) dX10_areKnown_108 (by decide) ?_
      refine go_eq (r' := (some (.int 1), _, _, _)) (by rw [if_neg c0, if_neg c1]) ?_
      exact go_zret (pc := 112) rfl rfl dX10_areKnown_112
set_option maxRecDepth 100000 in
set_option maxHeartbeats 4000000 in
theorem cm_act_4_t {l : Launch} {G : gG} (x2 : Int32) (x3 : Int32) (x4 : Int32) (x5 : Int32) (c0 : (if (if 0 ≤ x2 ∧ x2 ≤ 23 then (1 : Int32) else 0) = 0 then (0 : Int32) else (if (if 0 ≤ x3 ∧ x3 ≤ 7 then (1 : Int32) else 0) = 0 then (0 : Int32) else 1)) = 0) {n k : Nat} {w : Nat → va_E} (hn : 42 ≤ n) (hw : ∀ i, 32 ≤ i → i < 42 → w (G.2.1 + i) = wl G.2.1 (LF G) (G.2.1 + i)) : Ct l G mX10_act 3 68 [.ref (G.2.1 + 32), .int 4, .int x2, .int x3, .int x4, .int x5] n k w (some (.int ((-101))), n, k, w) := by
  refine Ct.of (by decide) (Nat.le_of_ble_eq_true rfl) ⟨Nat.le_refl _, Nat.le_refl _⟩ ?_
  show Go l G mX10_act _ 0 [(0, .ref (G.2.1 + 32)), (1, .int 4), (2, .int x2), (3, .int x3), (4, .int x4), (5, .int x5)] [] n k w
  refine go_iload_n (pc := 0) dX10_act_0 rfl rfl ?_
  refine go_iload_n (pc := 1) dX10_act_1 rfl rfl ?_
  refine go_iload_n (pc := 2) dX10_act_2 rfl rfl ?_
  refine go_iload (pc := 3) dX10_act_3 rfl ?_
  refine go_callS_i (pc := 5) sX10_275 rfl (cX10_areKnown_5 x2 x3 x4 hn hw) rfl rfl (Nat.le_of_ble_eq_true rfl) ⟨Nat.le_of_ble_eq_true rfl, Nat.le_of_ble_eq_true rfl, (Nat.le_add_right _ _), (Nat.le_add_right _ _)⟩ dX10_act_5 ?_
  refine go_if_ne_f (pc := 8) (tgt := 14) dX10_act_8 (by decide) c0 ?_
  refine go_bipush (pc := 11) (v := (-101)) dX10_act_11 (by decide) ?_
  exact go_iret (pc := 13) rfl dX10_act_13
set_option maxRecDepth 100000 in
set_option maxHeartbeats 4000000 in
theorem cm_act_4_f {l : Launch} {G : gG} (x2 : Int32) (x3 : Int32) (x4 : Int32) (x5 : Int32) (c0 : ¬ (if (if 0 ≤ x2 ∧ x2 ≤ 23 then (1 : Int32) else 0) = 0 then (0 : Int32) else (if (if 0 ≤ x3 ∧ x3 ≤ 7 then (1 : Int32) else 0) = 0 then (0 : Int32) else 1)) = 0) {n k : Nat} {w : Nat → va_E} (hn : 42 ≤ n) (hw : ∀ i, 32 ≤ i → i < 42 → w (G.2.1 + i) = wl G.2.1 (LF G) (G.2.1 + i)) : Ct l G mX10_act 3 68 [.ref (G.2.1 + 32), .int 4, .int x2, .int x3, .int x4, .int x5] n k w (some (.int 1), n, k, (va_up w (G.2.1 + 33) (ai G 26100 (upd (upd (upd (upd (upd (upd (sx 256) (400 : Int32).toNatClampNeg 4) (401 : Int32).toNatClampNeg x2) (402 : Int32).toNatClampNeg x3) (403 : Int32).toNatClampNeg x4) (404 : Int32).toNatClampNeg x5) (11 : Int32).toNatClampNeg 1)))) := by
  refine Ct.of (by decide) (Nat.le_of_ble_eq_true rfl) ⟨Nat.le_refl _, Nat.le_refl _⟩ ?_
  show Go l G mX10_act _ 0 [(0, .ref (G.2.1 + 32)), (1, .int 4), (2, .int x2), (3, .int x3), (4, .int x4), (5, .int x5)] [] n k w
  refine go_iload_n (pc := 0) dX10_act_0 rfl rfl ?_
  refine go_iload_n (pc := 1) dX10_act_1 rfl rfl ?_
  refine go_iload_n (pc := 2) dX10_act_2 rfl rfl ?_
  refine go_iload (pc := 3) dX10_act_3 rfl ?_
  refine go_callS_i (pc := 5) sX10_275 rfl (cX10_areKnown_5 x2 x3 x4 hn hw) rfl rfl (Nat.le_of_ble_eq_true rfl) ⟨Nat.le_of_ble_eq_true rfl, Nat.le_of_ble_eq_true rfl, (Nat.le_add_right _ _), (Nat.le_add_right _ _)⟩ dX10_act_5 ?_
  refine go_if_ne_t (pc := 8) (tgt := 14) dX10_act_8 (by decide) c0 ?_
  refine go_iload_n (pc := 14) dX10_act_14 rfl rfl ?_
  refine go_i2l (pc := 15) dX10_act_15 ?_
  refine go_topl (y := 4) (by decide) ?_
  refine go_lconst (pc := 16) (v := 0) dX10_act_16 (by decide) ?_
  refine go_ldc2 (pc := 17) rfl qX10_279 dX10_act_17 ?_
  refine go_callS_i (pc := 20) sX10_63 rfl (ct_in 4 0 12) rfl rfl (Nat.le_of_ble_eq_true rfl) ⟨Nat.le_of_ble_eq_true rfl, Nat.le_of_ble_eq_true rfl, (Nat.le_add_right _ _), (Nat.le_add_right _ _)⟩ dX10_act_20 ?_
  refine go_top (y := 1) (by decide) ?_
  refine go_if_eq_f (pc := 23) (tgt := 75) dX10_act_23 (by decide) (by decide) ?_
  refine go_iload_n (pc := 26) dX10_act_26 rfl rfl ?_
  refine go_if_ne_t (pc := 27) (tgt := 57) dX10_act_27 (by decide) (by decide) ?_
  refine go_iload_n (pc := 57) dX10_act_57 rfl rfl ?_
  refine go_bipush (pc := 58) (v := 9) dX10_act_58 (by decide) ?_
  refine go_icmp_ne_t (pc := 60) (tgt := 78) dX10_act_60 (by decide) (by decide) ?_
  refine go_aload_n (pc := 78) dX10_act_78 rfl rfl ?_
  refine go_get (pc := 79) fX10_9 rfl (gz_b (by omega)) ((hw 32 (by decide) (by decide)).trans (wl_at (i := 32) rfl)) rfl dX10_act_79 ?_
  refine go_bipush (pc := 82) (v := 11) dX10_act_82 (by decide) ?_
  refine go_iald (pc := 84) (gz_b (by omega)) ((hw 33 (by decide) (by decide)).trans (wl_at (i := 33) rfl)) (gv_in (by decide)) dX10_act_84 ?_
  refine go_top (y := 0) rfl ?_
  refine go_bipush (pc := 85) (v := 40) dX10_act_85 (by decide) ?_
  refine go_icmp_ne_t (pc := 87) (tgt := 93) dX10_act_87 (by decide) (by decide) ?_
  refine go_sipush (pc := 93) (v := 400) dX10_act_93 (by decide) ?_
  refine go_iconst (pc := 96) (v := 5) dX10_act_96 (by decide) ?_
  refine go_aload_n (pc := 97) dX10_act_97 rfl rfl ?_
  refine go_get (pc := 98) fX10_9 rfl (gz_b (by omega)) ((hw 32 (by decide) (by decide)).trans (wl_at (i := 32) rfl)) rfl dX10_act_98 ?_
  refine go_bipush (pc := 101) (v := 11) dX10_act_101 (by decide) ?_
  refine go_iald (pc := 103) (gz_b (by omega)) ((hw 33 (by decide) (by decide)).trans (wl_at (i := 33) rfl)) (gv_in (by decide)) dX10_act_103 ?_
  refine go_top (y := 0) rfl ?_
  refine go_imul (pc := 104) dX10_act_104 ?_
  refine go_top (y := 0) (by decide) ?_
  refine go_iadd (pc := 105) dX10_act_105 ?_
  refine go_top (y := 400) (by decide) ?_
  refine go_istore (pc := 106) (lv' := [(6, .int 400), (0, .ref (G.2.1 + 32)), (1, .int 4), (2, .int x2), (3, .int x3), (4, .int x4), (5, .int x5)]) dX10_act_106 (by decide) rfl ?_
  refine go_aload_n (pc := 108) dX10_act_108 rfl rfl ?_
  refine go_get (pc := 109) fX10_9 rfl (gz_b (by omega)) ((hw 32 (by decide) (by decide)).trans (wl_at (i := 32) rfl)) rfl dX10_act_109 ?_
  refine go_iload (pc := 112) dX10_act_112 rfl ?_
  refine go_iload_n (pc := 114) dX10_act_114 rfl rfl ?_
  refine go_iast (pc := 115) (gz_b (by omega)) ((hw 33 (by decide) (by decide)).trans (wl_at (i := 33) rfl)) (gv_in (by decide)) dX10_act_115 ?_
  refine go_aload_n (pc := 116) dX10_act_116 rfl rfl ?_
  refine go_get (pc := 117) fX10_9 rfl (gz_b (by omega)) ((va_up_ne _ _ (gz_ne (by decide))).trans ((hw 32 (by decide) (by decide)).trans (wl_at (i := 32) rfl))) rfl dX10_act_117 ?_
  refine go_iload (pc := 120) dX10_act_120 rfl ?_
  refine go_iconst (pc := 122) (v := 1) dX10_act_122 (by decide) ?_
  refine go_iadd (pc := 123) dX10_act_123 ?_
  refine go_top (y := 401) (by decide) ?_
  refine go_iload_n (pc := 124) dX10_act_124 rfl rfl ?_
  refine go_iast (pc := 125) (gz_b (by omega)) (va_up_self _ _ _) (gv_in (by decide)) dX10_act_125 ?_
  refine go_w (va_up_up _ _ _ _) ?_
  refine go_aload_n (pc := 126) dX10_act_126 rfl rfl ?_
  refine go_get (pc := 127) fX10_9 rfl (gz_b (by omega)) ((va_up_ne _ _ (gz_ne (by decide))).trans ((hw 32 (by decide) (by decide)).trans (wl_at (i := 32) rfl))) rfl dX10_act_127 ?_
  refine go_iload (pc := 130) dX10_act_130 rfl ?_
  refine go_iconst (pc := 132) (v := 2) dX10_act_132 (by decide) ?_
  refine go_iadd (pc := 133) dX10_act_133 ?_
  refine go_top (y := 402) (by decide) ?_
  refine go_iload_n (pc := 134) dX10_act_134 rfl rfl ?_
  refine go_iast (pc := 135) (gz_b (by omega)) (va_up_self _ _ _) (gv_in (by decide)) dX10_act_135 ?_
  refine go_w (va_up_up _ _ _ _) ?_
  refine go_aload_n (pc := 136) dX10_act_136 rfl rfl ?_
  refine go_get (pc := 137) fX10_9 rfl (gz_b (by omega)) ((va_up_ne _ _ (gz_ne (by decide))).trans ((hw 32 (by decide) (by decide)).trans (wl_at (i := 32) rfl))) rfl dX10_act_137 ?_
  refine go_iload (pc := 140) dX10_act_140 rfl ?_
  refine go_iconst (pc := 142) (v := 3) dX10_act_142 (by decide) ?_
  refine go_iadd (pc := 143) dX10_act_143 ?_
  refine go_top (y := 403) (by decide) ?_
  refine go_iload (pc := 144) dX10_act_144 rfl ?_
  refine go_iast (pc := 146) (gz_b (by omega)) (va_up_self _ _ _) (gv_in (by decide)) dX10_act_146 ?_
  refine go_w (va_up_up _ _ _ _) ?_
  refine go_aload_n (pc := 147) dX10_act_147 rfl rfl ?_
  refine go_get (pc := 148) fX10_9 rfl (gz_b (by omega)) ((va_up_ne _ _ (gz_ne (by decide))).trans ((hw 32 (by decide) (by decide)).trans (wl_at (i := 32) rfl))) rfl dX10_act_148 ?_
  refine go_iload (pc := 151) dX10_act_151 rfl ?_
  refine go_iconst (pc := 153) (v := 4) dX10_act_153 (by decide) ?_
  refine go_iadd (pc := 154) dX10_act_154 ?_
  refine go_top (y := 404) (by decide) ?_
  refine go_iload (pc := 155) dX10_act_155 rfl ?_
  refine go_iast (pc := 157) (gz_b (by omega)) (va_up_self _ _ _) (gv_in (by decide)) dX10_act_157 ?_
  refine go_w (va_up_up _ _ _ _) ?_
  refine go_aload_n (pc := 158) dX10_act_158 rfl rfl ?_
  refine go_get (pc := 159) fX10_9 rfl (gz_b (by omega)) ((va_up_ne _ _ (gz_ne (by decide))).trans ((hw 32 (by decide) (by decide)).trans (wl_at (i := 32) rfl))) rfl dX10_act_159 ?_
  refine go_bipush (pc := 162) (v := 11) dX10_act_162 (by decide) ?_
  refine go_dup2 (pc := 164) dX10_act_164 rfl rfl ?_
  refine go_iald (pc := 165) (gz_b (by omega)) (va_up_self _ _ _) (gv_in (by decide)) dX10_act_165 ?_
  refine go_top (y := 0) rfl ?_
  refine go_iconst (pc := 166) (v := 1) dX10_act_166 (by decide) ?_
  refine go_iadd (pc := 167) dX10_act_167 ?_
  refine go_top (y := 1) (by decide) ?_
  refine go_iast (pc := 168) (gz_b (by omega)) (va_up_self _ _ _) (gv_in (by decide)) dX10_act_168 ?_
  refine go_w (va_up_up _ _ _ _) ?_
  refine go_aload_n (pc := 169) dX10_act_169 rfl rfl ?_
  refine go_get (pc := 170) fX10_9 rfl (gz_b (by omega)) ((va_up_ne _ _ (gz_ne (by decide))).trans ((hw 32 (by decide) (by decide)).trans (wl_at (i := 32) rfl))) rfl dX10_act_170 ?_
  refine go_bipush (pc := 173) (v := 11) dX10_act_173 (by decide) ?_
  refine go_iald (pc := 175) (gz_b (by omega)) (va_up_self _ _ _) (gv_in (by decide)) dX10_act_175 ?_
  refine go_top (y := 1) rfl ?_
  exact go_iret (pc := 176) rfl dX10_act_176
theorem cm_act_4 {l : Launch} {G : gG} (x2 : Int32) (x3 : Int32) (x4 : Int32) (x5 : Int32) : CM l G mX10_act [.ref (G.2.1 + 32), .int 4, .int x2, .int x3, .int x4, .int x5] ((if (if (if 0 ≤ x2 ∧ x2 ≤ 23 then (1 : Int32) else 0) = 0 then (0 : Int32) else (if (if 0 ≤ x3 ∧ x3 ≤ 7 then (1 : Int32) else 0) = 0 then (0 : Int32) else 1)) = 0 then (-101) else 1)) := by
  intro n k w hn hw
  by_cases c0 : (if (if 0 ≤ x2 ∧ x2 ≤ 23 then (1 : Int32) else 0) = 0 then (0 : Int32) else (if (if 0 ≤ x3 ∧ x3 ≤ 7 then (1 : Int32) else 0) = 0 then (0 : Int32) else 1)) = 0
  · rw [if_pos c0]
    exact ⟨3, 68, _, by decide, by decide, cm_act_4_t x2 x3 x4 x5 c0 hn hw⟩
  · rw [if_neg c0]
    exact ⟨3, 68, _, by decide, by decide, cm_act_4_f x2 x3 x4 x5 c0 hn hw⟩
set_option maxRecDepth 100000 in
set_option maxHeartbeats 4000000 in
theorem cX10_areKnown_6 {l : Launch} {G : gG} (x2 : Int32) (x3 : Int32) (x4 : Int32) {n k : Nat} {w : Nat → va_E} (hn : 42 ≤ n) (hw : ∀ i, 32 ≤ i → i < 42 → w (G.2.1 + i) = wl G.2.1 (LF G) (G.2.1 + i)) : Ct l G mX10_areKnown 2 45 [.int 5, .int x2, .int x3, .int x4] n k w (some (.int ((if (if 0 ≤ x2 ∧ x2 ≤ 7 then (1 : Int32) else 0) = 0 then (0 : Int32) else (if (if 0 ≤ x3 ∧ x3 ≤ 7 then (1 : Int32) else 0) = 0 then (0 : Int32) else 1)))), n, k, w) := by
  refine Ct.of (by decide) (Nat.le_of_ble_eq_true rfl) ⟨Nat.le_refl _, Nat.le_refl _⟩ ?_
  show Go l G mX10_areKnown _ 0 [(0, .int 5), (1, .int x2), (2, .int x3), (3, .int x4)] [] n k w
  refine go_iload_n (pc := 0) dX10_areKnown_0 rfl rfl ?_
  refine go_tableIn (pc := 1) (off := 112) (tgt := 113) dX10_areKnown_1 (by decide) (by decide) (by decide) (by decide) ?_
  refine go_iload_n (pc := 113) dX10_areKnown_113 rfl rfl ?_
  refine go_callS_i (pc := 114) sX10_272 rfl (cX10_isRegister_2 x2 hn hw) rfl rfl (Nat.le_of_ble_eq_true rfl) ⟨Nat.le_of_ble_eq_true rfl, Nat.le_of_ble_eq_true rfl, (Nat.le_add_right _ _), (Nat.le_add_right _ _)⟩ dX10_areKnown_114 ?_
  refine go_if_eq (pc := 117) (tgt := 131) dX10_areKnown_117 (by decide) (fun c0 => ?_) (fun c0 => ?_)
  · refine go_iconst (pc := 131) (v := 0) dX10_areKnown_131 (by decide) ?_
    refine go_eq (r' := (some (.int 0), _, _, _)) (by rw [if_pos c0]) ?_
    exact go_zret (pc := 132) rfl rfl dX10_areKnown_132
  · refine go_iload_n (pc := 120) dX10_areKnown_120 rfl rfl ?_
    refine go_callS_i (pc := 121) sX10_272 rfl (cX10_isRegister_4 x3 hn hw) rfl rfl (Nat.le_of_ble_eq_true rfl) ⟨Nat.le_of_ble_eq_true rfl, Nat.le_of_ble_eq_true rfl, (Nat.le_add_right _ _), (Nat.le_add_right _ _)⟩ dX10_areKnown_121 ?_
    refine go_if_eq (pc := 124) (tgt := 131) dX10_areKnown_124 (by decide) (fun c1 => ?_) (fun c1 => ?_)
    · refine go_iconst (pc := 131) (v := 0) dX10_areKnown_131 (by decide) ?_
      refine go_eq (r' := (some (.int 0), _, _, _)) (by rw [if_neg c0, if_pos c1]) ?_
      exact go_zret (pc := 132) rfl rfl dX10_areKnown_132
    · refine go_iconst (pc := 127) (v := 1) dX10_areKnown_127 (by decide) ?_
      refine go_goto (pc := 128) (tgt := 132) dX10_areKnown_128 (by decide) ?_
      refine go_eq (r' := (some (.int 1), _, _, _)) (by rw [if_neg c0, if_neg c1]) ?_
      exact go_zret (pc := 132) rfl rfl dX10_areKnown_132
set_option maxRecDepth 100000 in
set_option maxHeartbeats 4000000 in
theorem cm_act_5_t {l : Launch} {G : gG} (x2 : Int32) (x3 : Int32) (x4 : Int32) (x5 : Int32) (c0 : (if (if 0 ≤ x2 ∧ x2 ≤ 7 then (1 : Int32) else 0) = 0 then (0 : Int32) else (if (if 0 ≤ x3 ∧ x3 ≤ 7 then (1 : Int32) else 0) = 0 then (0 : Int32) else 1)) = 0) {n k : Nat} {w : Nat → va_E} (hn : 42 ≤ n) (hw : ∀ i, 32 ≤ i → i < 42 → w (G.2.1 + i) = wl G.2.1 (LF G) (G.2.1 + i)) : Ct l G mX10_act 3 68 [.ref (G.2.1 + 32), .int 5, .int x2, .int x3, .int x4, .int x5] n k w (some (.int ((-101))), n, k, w) := by
  refine Ct.of (by decide) (Nat.le_of_ble_eq_true rfl) ⟨Nat.le_refl _, Nat.le_refl _⟩ ?_
  show Go l G mX10_act _ 0 [(0, .ref (G.2.1 + 32)), (1, .int 5), (2, .int x2), (3, .int x3), (4, .int x4), (5, .int x5)] [] n k w
  refine go_iload_n (pc := 0) dX10_act_0 rfl rfl ?_
  refine go_iload_n (pc := 1) dX10_act_1 rfl rfl ?_
  refine go_iload_n (pc := 2) dX10_act_2 rfl rfl ?_
  refine go_iload (pc := 3) dX10_act_3 rfl ?_
  refine go_callS_i (pc := 5) sX10_275 rfl (cX10_areKnown_6 x2 x3 x4 hn hw) rfl rfl (Nat.le_of_ble_eq_true rfl) ⟨Nat.le_of_ble_eq_true rfl, Nat.le_of_ble_eq_true rfl, (Nat.le_add_right _ _), (Nat.le_add_right _ _)⟩ dX10_act_5 ?_
  refine go_if_ne_f (pc := 8) (tgt := 14) dX10_act_8 (by decide) c0 ?_
  refine go_bipush (pc := 11) (v := (-101)) dX10_act_11 (by decide) ?_
  exact go_iret (pc := 13) rfl dX10_act_13
set_option maxRecDepth 100000 in
set_option maxHeartbeats 4000000 in
theorem cm_act_5_f {l : Launch} {G : gG} (x2 : Int32) (x3 : Int32) (x4 : Int32) (x5 : Int32) (c0 : ¬ (if (if 0 ≤ x2 ∧ x2 ≤ 7 then (1 : Int32) else 0) = 0 then (0 : Int32) else (if (if 0 ≤ x3 ∧ x3 ≤ 7 then (1 : Int32) else 0) = 0 then (0 : Int32) else 1)) = 0) {n k : Nat} {w : Nat → va_E} (hn : 42 ≤ n) (hw : ∀ i, 32 ≤ i → i < 42 → w (G.2.1 + i) = wl G.2.1 (LF G) (G.2.1 + i)) : Ct l G mX10_act 3 68 [.ref (G.2.1 + 32), .int 5, .int x2, .int x3, .int x4, .int x5] n k w (some (.int 1), n, k, (va_up w (G.2.1 + 33) (ai G 26100 (upd (upd (upd (upd (upd (upd (sx 256) (400 : Int32).toNatClampNeg 5) (401 : Int32).toNatClampNeg x2) (402 : Int32).toNatClampNeg x3) (403 : Int32).toNatClampNeg x4) (404 : Int32).toNatClampNeg x5) (11 : Int32).toNatClampNeg 1)))) := by
  refine Ct.of (by decide) (Nat.le_of_ble_eq_true rfl) ⟨Nat.le_refl _, Nat.le_refl _⟩ ?_
  show Go l G mX10_act _ 0 [(0, .ref (G.2.1 + 32)), (1, .int 5), (2, .int x2), (3, .int x3), (4, .int x4), (5, .int x5)] [] n k w
  refine go_iload_n (pc := 0) dX10_act_0 rfl rfl ?_
  refine go_iload_n (pc := 1) dX10_act_1 rfl rfl ?_
  refine go_iload_n (pc := 2) dX10_act_2 rfl rfl ?_
  refine go_iload (pc := 3) dX10_act_3 rfl ?_
  refine go_callS_i (pc := 5) sX10_275 rfl (cX10_areKnown_6 x2 x3 x4 hn hw) rfl rfl (Nat.le_of_ble_eq_true rfl) ⟨Nat.le_of_ble_eq_true rfl, Nat.le_of_ble_eq_true rfl, (Nat.le_add_right _ _), (Nat.le_add_right _ _)⟩ dX10_act_5 ?_
  refine go_if_ne_t (pc := 8) (tgt := 14) dX10_act_8 (by decide) c0 ?_
  refine go_iload_n (pc := 14) dX10_act_14 rfl rfl ?_
  refine go_i2l (pc := 15) dX10_act_15 ?_
  refine go_topl (y := 5) (by decide) ?_
  refine go_lconst (pc := 16) (v := 0) dX10_act_16 (by decide) ?_
  refine go_ldc2 (pc := 17) rfl qX10_279 dX10_act_17 ?_
  refine go_callS_i (pc := 20) sX10_63 rfl (ct_in 5 0 12) rfl rfl (Nat.le_of_ble_eq_true rfl) ⟨Nat.le_of_ble_eq_true rfl, Nat.le_of_ble_eq_true rfl, (Nat.le_add_right _ _), (Nat.le_add_right _ _)⟩ dX10_act_20 ?_
  refine go_top (y := 1) (by decide) ?_
  refine go_if_eq_f (pc := 23) (tgt := 75) dX10_act_23 (by decide) (by decide) ?_
  refine go_iload_n (pc := 26) dX10_act_26 rfl rfl ?_
  refine go_if_ne_t (pc := 27) (tgt := 57) dX10_act_27 (by decide) (by decide) ?_
  refine go_iload_n (pc := 57) dX10_act_57 rfl rfl ?_
  refine go_bipush (pc := 58) (v := 9) dX10_act_58 (by decide) ?_
  refine go_icmp_ne_t (pc := 60) (tgt := 78) dX10_act_60 (by decide) (by decide) ?_
  refine go_aload_n (pc := 78) dX10_act_78 rfl rfl ?_
  refine go_get (pc := 79) fX10_9 rfl (gz_b (by omega)) ((hw 32 (by decide) (by decide)).trans (wl_at (i := 32) rfl)) rfl dX10_act_79 ?_
  refine go_bipush (pc := 82) (v := 11) dX10_act_82 (by decide) ?_
  refine go_iald (pc := 84) (gz_b (by omega)) ((hw 33 (by decide) (by decide)).trans (wl_at (i := 33) rfl)) (gv_in (by decide)) dX10_act_84 ?_
  refine go_top (y := 0) rfl ?_
  refine go_bipush (pc := 85) (v := 40) dX10_act_85 (by decide) ?_
  refine go_icmp_ne_t (pc := 87) (tgt := 93) dX10_act_87 (by decide) (by decide) ?_
  refine go_sipush (pc := 93) (v := 400) dX10_act_93 (by decide) ?_
  refine go_iconst (pc := 96) (v := 5) dX10_act_96 (by decide) ?_
  refine go_aload_n (pc := 97) dX10_act_97 rfl rfl ?_
  refine go_get (pc := 98) fX10_9 rfl (gz_b (by omega)) ((hw 32 (by decide) (by decide)).trans (wl_at (i := 32) rfl)) rfl dX10_act_98 ?_
  refine go_bipush (pc := 101) (v := 11) dX10_act_101 (by decide) ?_
  refine go_iald (pc := 103) (gz_b (by omega)) ((hw 33 (by decide) (by decide)).trans (wl_at (i := 33) rfl)) (gv_in (by decide)) dX10_act_103 ?_
  refine go_top (y := 0) rfl ?_
  refine go_imul (pc := 104) dX10_act_104 ?_
  refine go_top (y := 0) (by decide) ?_
  refine go_iadd (pc := 105) dX10_act_105 ?_
  refine go_top (y := 400) (by decide) ?_
  refine go_istore (pc := 106) (lv' := [(6, .int 400), (0, .ref (G.2.1 + 32)), (1, .int 5), (2, .int x2), (3, .int x3), (4, .int x4), (5, .int x5)]) dX10_act_106 (by decide) rfl ?_
  refine go_aload_n (pc := 108) dX10_act_108 rfl rfl ?_
  refine go_get (pc := 109) fX10_9 rfl (gz_b (by omega)) ((hw 32 (by decide) (by decide)).trans (wl_at (i := 32) rfl)) rfl dX10_act_109 ?_
  refine go_iload (pc := 112) dX10_act_112 rfl ?_
  refine go_iload_n (pc := 114) dX10_act_114 rfl rfl ?_
  refine go_iast (pc := 115) (gz_b (by omega)) ((hw 33 (by decide) (by decide)).trans (wl_at (i := 33) rfl)) (gv_in (by decide)) dX10_act_115 ?_
  refine go_aload_n (pc := 116) dX10_act_116 rfl rfl ?_
  refine go_get (pc := 117) fX10_9 rfl (gz_b (by omega)) ((va_up_ne _ _ (gz_ne (by decide))).trans ((hw 32 (by decide) (by decide)).trans (wl_at (i := 32) rfl))) rfl dX10_act_117 ?_
  refine go_iload (pc := 120) dX10_act_120 rfl ?_
  refine go_iconst (pc := 122) (v := 1) dX10_act_122 (by decide) ?_
  refine go_iadd (pc := 123) dX10_act_123 ?_
  refine go_top (y := 401) (by decide) ?_
  refine go_iload_n (pc := 124) dX10_act_124 rfl rfl ?_
  refine go_iast (pc := 125) (gz_b (by omega)) (va_up_self _ _ _) (gv_in (by decide)) dX10_act_125 ?_
  refine go_w (va_up_up _ _ _ _) ?_
  refine go_aload_n (pc := 126) dX10_act_126 rfl rfl ?_
  refine go_get (pc := 127) fX10_9 rfl (gz_b (by omega)) ((va_up_ne _ _ (gz_ne (by decide))).trans ((hw 32 (by decide) (by decide)).trans (wl_at (i := 32) rfl))) rfl dX10_act_127 ?_
  refine go_iload (pc := 130) dX10_act_130 rfl ?_
  refine go_iconst (pc := 132) (v := 2) dX10_act_132 (by decide) ?_
  refine go_iadd (pc := 133) dX10_act_133 ?_
  refine go_top (y := 402) (by decide) ?_
  refine go_iload_n (pc := 134) dX10_act_134 rfl rfl ?_
  refine go_iast (pc := 135) (gz_b (by omega)) (va_up_self _ _ _) (gv_in (by decide)) dX10_act_135 ?_
  refine go_w (va_up_up _ _ _ _) ?_
  refine go_aload_n (pc := 136) dX10_act_136 rfl rfl ?_
  refine go_get (pc := 137) fX10_9 rfl (gz_b (by omega)) ((va_up_ne _ _ (gz_ne (by decide))).trans ((hw 32 (by decide) (by decide)).trans (wl_at (i := 32) rfl))) rfl dX10_act_137 ?_
  refine go_iload (pc := 140) dX10_act_140 rfl ?_
  refine go_iconst (pc := 142) (v := 3) dX10_act_142 (by decide) ?_
  refine go_iadd (pc := 143) dX10_act_143 ?_
  refine go_top (y := 403) (by decide) ?_
  refine go_iload (pc := 144) dX10_act_144 rfl ?_
  refine go_iast (pc := 146) (gz_b (by omega)) (va_up_self _ _ _) (gv_in (by decide)) dX10_act_146 ?_
  refine go_w (va_up_up _ _ _ _) ?_
  refine go_aload_n (pc := 147) dX10_act_147 rfl rfl ?_
  refine go_get (pc := 148) fX10_9 rfl (gz_b (by omega)) ((va_up_ne _ _ (gz_ne (by decide))).trans ((hw 32 (by decide) (by decide)).trans (wl_at (i := 32) rfl))) rfl dX10_act_148 ?_
  refine go_iload (pc := 151) dX10_act_151 rfl ?_
  refine go_iconst (pc := 153) (v := 4) dX10_act_153 (by decide) ?_
  refine go_iadd (pc := 154) dX10_act_154 ?_
  refine go_top (y := 404) (by decide) ?_
  refine go_iload (pc := 155) dX10_act_155 rfl ?_
  refine go_iast (pc := 157) (gz_b (by omega)) (va_up_self _ _ _) (gv_in (by decide)) dX10_act_157 ?_
  refine go_w (va_up_up _ _ _ _) ?_
  refine go_aload_n (pc := 158) dX10_act_158 rfl rfl ?_
  refine go_get (pc := 159) fX10_9 rfl (gz_b (by omega)) ((va_up_ne _ _ (gz_ne (by decide))).trans ((hw 32 (by decide) (by decide)).trans (wl_at (i := 32) rfl))) rfl dX10_act_159 ?_
  refine go_bipush (pc := 162) (v := 11) dX10_act_162 (by decide) ?_
  refine go_dup2 (pc := 164) dX10_act_164 rfl rfl ?_
  refine go_iald (pc := 165) (gz_b (by omega)) (va_up_self _ _ _) (gv_in (by decide)) dX10_act_165 ?_
  refine go_top (y := 0) rfl ?_
  refine go_iconst (pc := 166) (v := 1) dX10_act_166 (by decide) ?_
  refine go_iadd (pc := 167) dX10_act_167 ?_
  refine go_top (y := 1) (by decide) ?_
  refine go_iast (pc := 168) (gz_b (by omega)) (va_up_self _ _ _) (gv_in (by decide)) dX10_act_168 ?_
  refine go_w (va_up_up _ _ _ _) ?_
  refine go_aload_n (pc := 169) dX10_act_169 rfl rfl ?_
  refine go_get (pc := 170) fX10_9 rfl (gz_b (by omega)) ((va_up_ne _ _ (gz_ne (by decide))).trans ((hw 32 (by decide) (by decide)).trans (wl_at (i := 32) rfl))) rfl dX10_act_170 ?_
  refine go_bipush (pc := 173) (v := 11) dX10_act_173 (by decide) ?_
  refine go_iald (pc := 175) (gz_b (by omega)) (va_up_self _ _ _) (gv_in (by decide)) dX10_act_175 ?_
  refine go_top (y := 1) rfl ?_
  exact go_iret (pc := 176) rfl dX10_act_176
theorem cm_act_5 {l : Launch} {G : gG} (x2 : Int32) (x3 : Int32) (x4 : Int32) (x5 : Int32) : CM l G mX10_act [.ref (G.2.1 + 32), .int 5, .int x2, .int x3, .int x4, .int x5] ((if (if (if 0 ≤ x2 ∧ x2 ≤ 7 then (1 : Int32) else 0) = 0 then (0 : Int32) else (if (if 0 ≤ x3 ∧ x3 ≤ 7 then (1 : Int32) else 0) = 0 then (0 : Int32) else 1)) = 0 then (-101) else 1)) := by
  intro n k w hn hw
  by_cases c0 : (if (if 0 ≤ x2 ∧ x2 ≤ 7 then (1 : Int32) else 0) = 0 then (0 : Int32) else (if (if 0 ≤ x3 ∧ x3 ≤ 7 then (1 : Int32) else 0) = 0 then (0 : Int32) else 1)) = 0
  · rw [if_pos c0]
    exact ⟨3, 68, _, by decide, by decide, cm_act_5_t x2 x3 x4 x5 c0 hn hw⟩
  · rw [if_neg c0]
    exact ⟨3, 68, _, by decide, by decide, cm_act_5_f x2 x3 x4 x5 c0 hn hw⟩
set_option maxRecDepth 100000 in
set_option maxHeartbeats 4000000 in
theorem cX10_areKnown_7 {l : Launch} {G : gG} (x2 : Int32) (x3 : Int32) (x4 : Int32) {n k : Nat} {w : Nat → va_E} (hn : 42 ≤ n) (hw : ∀ i, 32 ≤ i → i < 42 → w (G.2.1 + i) = wl G.2.1 (LF G) (G.2.1 + i)) : Ct l G mX10_areKnown 2 45 [.int 6, .int x2, .int x3, .int x4] n k w (some (.int ((if (if 0 ≤ x2 ∧ x2 ≤ 7 then (1 : Int32) else 0) = 0 then (0 : Int32) else (if (if 0 ≤ x3 ∧ x3 ≤ 7 then (1 : Int32) else 0) = 0 then (0 : Int32) else 1)))), n, k, w) := by
  refine Ct.of (by decide) (Nat.le_of_ble_eq_true rfl) ⟨Nat.le_refl _, Nat.le_refl _⟩ ?_
  show Go l G mX10_areKnown _ 0 [(0, .int 6), (1, .int x2), (2, .int x3), (3, .int x4)] [] n k w
  refine go_iload_n (pc := 0) dX10_areKnown_0 rfl rfl ?_
  refine go_tableIn (pc := 1) (off := 112) (tgt := 113) dX10_areKnown_1 (by decide) (by decide) (by decide) (by decide) ?_
  refine go_iload_n (pc := 113) dX10_areKnown_113 rfl rfl ?_
  refine go_callS_i (pc := 114) sX10_272 rfl (cX10_isRegister_2 x2 hn hw) rfl rfl (Nat.le_of_ble_eq_true rfl) ⟨Nat.le_of_ble_eq_true rfl, Nat.le_of_ble_eq_true rfl, (Nat.le_add_right _ _), (Nat.le_add_right _ _)⟩ dX10_areKnown_114 ?_
  refine go_if_eq (pc := 117) (tgt := 131) dX10_areKnown_117 (by decide) (fun c0 => ?_) (fun c0 => ?_)
  · refine go_iconst (pc := 131) (v := 0) dX10_areKnown_131 (by decide) ?_
    refine go_eq (r' := (some (.int 0), _, _, _)) (by rw [if_pos c0]) ?_
    exact go_zret (pc := 132) rfl rfl dX10_areKnown_132
  · refine go_iload_n (pc := 120) dX10_areKnown_120 rfl rfl ?_
    refine go_callS_i (pc := 121) sX10_272 rfl (cX10_isRegister_4 x3 hn hw) rfl rfl (Nat.le_of_ble_eq_true rfl) ⟨Nat.le_of_ble_eq_true rfl, Nat.le_of_ble_eq_true rfl, (Nat.le_add_right _ _), (Nat.le_add_right _ _)⟩ dX10_areKnown_121 ?_
    refine go_if_eq (pc := 124) (tgt := 131) dX10_areKnown_124 (by decide) (fun c1 => ?_) (fun c1 => ?_)
    · refine go_iconst (pc := 131) (v := 0) dX10_areKnown_131 (by decide) ?_
      refine go_eq (r' := (some (.int 0), _, _, _)) (by rw [if_neg c0, if_pos c1]) ?_
      exact go_zret (pc := 132) rfl rfl dX10_areKnown_132
    · refine go_iconst (pc := 127) (v := 1) dX10_areKnown_127 (by decide) ?_
      refine go_goto (pc := 128) (tgt := 132) dX10_areKnown_128 (by decide) ?_
      refine go_eq (r' := (some (.int 1), _, _, _)) (by rw [if_neg c0, if_neg c1]) ?_
      exact go_zret (pc := 132) rfl rfl dX10_areKnown_132
set_option maxRecDepth 100000 in
set_option maxHeartbeats 4000000 in
theorem cm_act_6_t {l : Launch} {G : gG} (x2 : Int32) (x3 : Int32) (x4 : Int32) (x5 : Int32) (c0 : (if (if 0 ≤ x2 ∧ x2 ≤ 7 then (1 : Int32) else 0) = 0 then (0 : Int32) else (if (if 0 ≤ x3 ∧ x3 ≤ 7 then (1 : Int32) else 0) = 0 then (0 : Int32) else 1)) = 0) {n k : Nat} {w : Nat → va_E} (hn : 42 ≤ n) (hw : ∀ i, 32 ≤ i → i < 42 → w (G.2.1 + i) = wl G.2.1 (LF G) (G.2.1 + i)) : Ct l G mX10_act 3 68 [.ref (G.2.1 + 32), .int 6, .int x2, .int x3, .int x4, .int x5] n k w (some (.int ((-101))), n, k, w) := by
  refine Ct.of (by decide) (Nat.le_of_ble_eq_true rfl) ⟨Nat.le_refl _, Nat.le_refl _⟩ ?_
  show Go l G mX10_act _ 0 [(0, .ref (G.2.1 + 32)), (1, .int 6), (2, .int x2), (3, .int x3), (4, .int x4), (5, .int x5)] [] n k w
  refine go_iload_n (pc := 0) dX10_act_0 rfl rfl ?_
  refine go_iload_n (pc := 1) dX10_act_1 rfl rfl ?_
  refine go_iload_n (pc := 2) dX10_act_2 rfl rfl ?_
  refine go_iload (pc := 3) dX10_act_3 rfl ?_
  refine go_callS_i (pc := 5) sX10_275 rfl (cX10_areKnown_7 x2 x3 x4 hn hw) rfl rfl (Nat.le_of_ble_eq_true rfl) ⟨Nat.le_of_ble_eq_true rfl, Nat.le_of_ble_eq_true rfl, (Nat.le_add_right _ _), (Nat.le_add_right _ _)⟩ dX10_act_5 ?_
  refine go_if_ne_f (pc := 8) (tgt := 14) dX10_act_8 (by decide) c0 ?_
  refine go_bipush (pc := 11) (v := (-101)) dX10_act_11 (by decide) ?_
  exact go_iret (pc := 13) rfl dX10_act_13
set_option maxRecDepth 100000 in
set_option maxHeartbeats 4000000 in
theorem cm_act_6_f {l : Launch} {G : gG} (x2 : Int32) (x3 : Int32) (x4 : Int32) (x5 : Int32) (c0 : ¬ (if (if 0 ≤ x2 ∧ x2 ≤ 7 then (1 : Int32) else 0) = 0 then (0 : Int32) else (if (if 0 ≤ x3 ∧ x3 ≤ 7 then (1 : Int32) else 0) = 0 then (0 : Int32) else 1)) = 0) {n k : Nat} {w : Nat → va_E} (hn : 42 ≤ n) (hw : ∀ i, 32 ≤ i → i < 42 → w (G.2.1 + i) = wl G.2.1 (LF G) (G.2.1 + i)) : Ct l G mX10_act 3 68 [.ref (G.2.1 + 32), .int 6, .int x2, .int x3, .int x4, .int x5] n k w (some (.int 1), n, k, (va_up w (G.2.1 + 33) (ai G 26100 (upd (upd (upd (upd (upd (upd (sx 256) (400 : Int32).toNatClampNeg 6) (401 : Int32).toNatClampNeg x2) (402 : Int32).toNatClampNeg x3) (403 : Int32).toNatClampNeg x4) (404 : Int32).toNatClampNeg x5) (11 : Int32).toNatClampNeg 1)))) := by
  refine Ct.of (by decide) (Nat.le_of_ble_eq_true rfl) ⟨Nat.le_refl _, Nat.le_refl _⟩ ?_
  show Go l G mX10_act _ 0 [(0, .ref (G.2.1 + 32)), (1, .int 6), (2, .int x2), (3, .int x3), (4, .int x4), (5, .int x5)] [] n k w
  refine go_iload_n (pc := 0) dX10_act_0 rfl rfl ?_
  refine go_iload_n (pc := 1) dX10_act_1 rfl rfl ?_
  refine go_iload_n (pc := 2) dX10_act_2 rfl rfl ?_
  refine go_iload (pc := 3) dX10_act_3 rfl ?_
  refine go_callS_i (pc := 5) sX10_275 rfl (cX10_areKnown_7 x2 x3 x4 hn hw) rfl rfl (Nat.le_of_ble_eq_true rfl) ⟨Nat.le_of_ble_eq_true rfl, Nat.le_of_ble_eq_true rfl, (Nat.le_add_right _ _), (Nat.le_add_right _ _)⟩ dX10_act_5 ?_
  refine go_if_ne_t (pc := 8) (tgt := 14) dX10_act_8 (by decide) c0 ?_
  refine go_iload_n (pc := 14) dX10_act_14 rfl rfl ?_
  refine go_i2l (pc := 15) dX10_act_15 ?_
  refine go_topl (y := 6) (by decide) ?_
  refine go_lconst (pc := 16) (v := 0) dX10_act_16 (by decide) ?_
  refine go_ldc2 (pc := 17) rfl qX10_279 dX10_act_17 ?_
  refine go_callS_i (pc := 20) sX10_63 rfl (ct_in 6 0 12) rfl rfl (Nat.le_of_ble_eq_true rfl) ⟨Nat.le_of_ble_eq_true rfl, Nat.le_of_ble_eq_true rfl, (Nat.le_add_right _ _), (Nat.le_add_right _ _)⟩ dX10_act_20 ?_
  refine go_top (y := 1) (by decide) ?_
  refine go_if_eq_f (pc := 23) (tgt := 75) dX10_act_23 (by decide) (by decide) ?_
  refine go_iload_n (pc := 26) dX10_act_26 rfl rfl ?_
  refine go_if_ne_t (pc := 27) (tgt := 57) dX10_act_27 (by decide) (by decide) ?_
  refine go_iload_n (pc := 57) dX10_act_57 rfl rfl ?_
  refine go_bipush (pc := 58) (v := 9) dX10_act_58 (by decide) ?_
  refine go_icmp_ne_t (pc := 60) (tgt := 78) dX10_act_60 (by decide) (by decide) ?_
  refine go_aload_n (pc := 78) dX10_act_78 rfl rfl ?_
  refine go_get (pc := 79) fX10_9 rfl (gz_b (by omega)) ((hw 32 (by decide) (by decide)).trans (wl_at (i := 32) rfl)) rfl dX10_act_79 ?_
  refine go_bipush (pc := 82) (v := 11) dX10_act_82 (by decide) ?_
  refine go_iald (pc := 84) (gz_b (by omega)) ((hw 33 (by decide) (by decide)).trans (wl_at (i := 33) rfl)) (gv_in (by decide)) dX10_act_84 ?_
  refine go_top (y := 0) rfl ?_
  refine go_bipush (pc := 85) (v := 40) dX10_act_85 (by decide) ?_
  refine go_icmp_ne_t (pc := 87) (tgt := 93) dX10_act_87 (by decide) (by decide) ?_
  refine go_sipush (pc := 93) (v := 400) dX10_act_93 (by decide) ?_
  refine go_iconst (pc := 96) (v := 5) dX10_act_96 (by decide) ?_
  refine go_aload_n (pc := 97) dX10_act_97 rfl rfl ?_
  refine go_get (pc := 98) fX10_9 rfl (gz_b (by omega)) ((hw 32 (by decide) (by decide)).trans (wl_at (i := 32) rfl)) rfl dX10_act_98 ?_
  refine go_bipush (pc := 101) (v := 11) dX10_act_101 (by decide) ?_
  refine go_iald (pc := 103) (gz_b (by omega)) ((hw 33 (by decide) (by decide)).trans (wl_at (i := 33) rfl)) (gv_in (by decide)) dX10_act_103 ?_
  refine go_top (y := 0) rfl ?_
  refine go_imul (pc := 104) dX10_act_104 ?_
  refine go_top (y := 0) (by decide) ?_
  refine go_iadd (pc := 105) dX10_act_105 ?_
  refine go_top (y := 400) (by decide) ?_
  refine go_istore (pc := 106) (lv' := [(6, .int 400), (0, .ref (G.2.1 + 32)), (1, .int 6), (2, .int x2), (3, .int x3), (4, .int x4), (5, .int x5)]) dX10_act_106 (by decide) rfl ?_
  refine go_aload_n (pc := 108) dX10_act_108 rfl rfl ?_
  refine go_get (pc := 109) fX10_9 rfl (gz_b (by omega)) ((hw 32 (by decide) (by decide)).trans (wl_at (i := 32) rfl)) rfl dX10_act_109 ?_
  refine go_iload (pc := 112) dX10_act_112 rfl ?_
  refine go_iload_n (pc := 114) dX10_act_114 rfl rfl ?_
  refine go_iast (pc := 115) (gz_b (by omega)) ((hw 33 (by decide) (by decide)).trans (wl_at (i := 33) rfl)) (gv_in (by decide)) dX10_act_115 ?_
  refine go_aload_n (pc := 116) dX10_act_116 rfl rfl ?_
  refine go_get (pc := 117) fX10_9 rfl (gz_b (by omega)) ((va_up_ne _ _ (gz_ne (by decide))).trans ((hw 32 (by decide) (by decide)).trans (wl_at (i := 32) rfl))) rfl dX10_act_117 ?_
  refine go_iload (pc := 120) dX10_act_120 rfl ?_
  refine go_iconst (pc := 122) (v := 1) dX10_act_122 (by decide) ?_
  refine go_iadd (pc := 123) dX10_act_123 ?_
  refine go_top (y := 401) (by decide) ?_
  refine go_iload_n (pc := 124) dX10_act_124 rfl rfl ?_
  refine go_iast (pc := 125) (gz_b (by omega)) (va_up_self _ _ _) (gv_in (by decide)) dX10_act_125 ?_
  refine go_w (va_up_up _ _ _ _) ?_
  refine go_aload_n (pc := 126) dX10_act_126 rfl rfl ?_
  refine go_get (pc := 127) fX10_9 rfl (gz_b (by omega)) ((va_up_ne _ _ (gz_ne (by decide))).trans ((hw 32 (by decide) (by decide)).trans (wl_at (i := 32) rfl))) rfl dX10_act_127 ?_
  refine go_iload (pc := 130) dX10_act_130 rfl ?_
  refine go_iconst (pc := 132) (v := 2) dX10_act_132 (by decide) ?_
  refine go_iadd (pc := 133) dX10_act_133 ?_
  refine go_top (y := 402) (by decide) ?_
  refine go_iload_n (pc := 134) dX10_act_134 rfl rfl ?_
  refine go_iast (pc := 135) (gz_b (by omega)) (va_up_self _ _ _) (gv_in (by decide)) dX10_act_135 ?_
  refine go_w (va_up_up _ _ _ _) ?_
  refine go_aload_n (pc := 136) dX10_act_136 rfl rfl ?_
  refine go_get (pc := 137) fX10_9 rfl (gz_b (by omega)) ((va_up_ne _ _ (gz_ne (by decide))).trans ((hw 32 (by decide) (by decide)).trans (wl_at (i := 32) rfl))) rfl dX10_act_137 ?_
  refine go_iload (pc := 140) dX10_act_140 rfl ?_
  refine go_iconst (pc := 142) (v := 3) dX10_act_142 (by decide) ?_
  refine go_iadd (pc := 143) dX10_act_143 ?_
  refine go_top (y := 403) (by decide) ?_
  refine go_iload (pc := 144) dX10_act_144 rfl ?_
  refine go_iast (pc := 146) (gz_b (by omega)) (va_up_self _ _ _) (gv_in (by decide)) dX10_act_146 ?_
  refine go_w (va_up_up _ _ _ _) ?_
  refine go_aload_n (pc := 147) dX10_act_147 rfl rfl ?_
  refine go_get (pc := 148) fX10_9 rfl (gz_b (by omega)) ((va_up_ne _ _ (gz_ne (by decide))).trans ((hw 32 (by decide) (by decide)).trans (wl_at (i := 32) rfl))) rfl dX10_act_148 ?_
  refine go_iload (pc := 151) dX10_act_151 rfl ?_
  refine go_iconst (pc := 153) (v := 4) dX10_act_153 (by decide) ?_
  refine go_iadd (pc := 154) dX10_act_154 ?_
  refine go_top (y := 404) (by decide) ?_
  refine go_iload (pc := 155) dX10_act_155 rfl ?_
  refine go_iast (pc := 157) (gz_b (by omega)) (va_up_self _ _ _) (gv_in (by decide)) dX10_act_157 ?_
  refine go_w (va_up_up _ _ _ _) ?_
  refine go_aload_n (pc := 158) dX10_act_158 rfl rfl ?_
  refine go_get (pc := 159) fX10_9 rfl (gz_b (by omega)) ((va_up_ne _ _ (gz_ne (by decide))).trans ((hw 32 (by decide) (by decide)).trans (wl_at (i := 32) rfl))) rfl dX10_act_159 ?_
  refine go_bipush (pc := 162) (v := 11) dX10_act_162 (by decide) ?_
  refine go_dup2 (pc := 164) dX10_act_164 rfl rfl ?_
  refine go_iald (pc := 165) (gz_b (by omega)) (va_up_self _ _ _) (gv_in (by decide)) dX10_act_165 ?_
  refine go_top (y := 0) rfl ?_
  refine go_iconst (pc := 166) (v := 1) dX10_act_166 (by decide) ?_
  refine go_iadd (pc := 167) dX10_act_167 ?_
  refine go_top (y := 1) (by decide) ?_
  refine go_iast (pc := 168) (gz_b (by omega)) (va_up_self _ _ _) (gv_in (by decide)) dX10_act_168 ?_
  refine go_w (va_up_up _ _ _ _) ?_
  refine go_aload_n (pc := 169) dX10_act_169 rfl rfl ?_
  refine go_get (pc := 170) fX10_9 rfl (gz_b (by omega)) ((va_up_ne _ _ (gz_ne (by decide))).trans ((hw 32 (by decide) (by decide)).trans (wl_at (i := 32) rfl))) rfl dX10_act_170 ?_
  refine go_bipush (pc := 173) (v := 11) dX10_act_173 (by decide) ?_
  refine go_iald (pc := 175) (gz_b (by omega)) (va_up_self _ _ _) (gv_in (by decide)) dX10_act_175 ?_
  refine go_top (y := 1) rfl ?_
  exact go_iret (pc := 176) rfl dX10_act_176
theorem cm_act_6 {l : Launch} {G : gG} (x2 : Int32) (x3 : Int32) (x4 : Int32) (x5 : Int32) : CM l G mX10_act [.ref (G.2.1 + 32), .int 6, .int x2, .int x3, .int x4, .int x5] ((if (if (if 0 ≤ x2 ∧ x2 ≤ 7 then (1 : Int32) else 0) = 0 then (0 : Int32) else (if (if 0 ≤ x3 ∧ x3 ≤ 7 then (1 : Int32) else 0) = 0 then (0 : Int32) else 1)) = 0 then (-101) else 1)) := by
  intro n k w hn hw
  by_cases c0 : (if (if 0 ≤ x2 ∧ x2 ≤ 7 then (1 : Int32) else 0) = 0 then (0 : Int32) else (if (if 0 ≤ x3 ∧ x3 ≤ 7 then (1 : Int32) else 0) = 0 then (0 : Int32) else 1)) = 0
  · rw [if_pos c0]
    exact ⟨3, 68, _, by decide, by decide, cm_act_6_t x2 x3 x4 x5 c0 hn hw⟩
  · rw [if_neg c0]
    exact ⟨3, 68, _, by decide, by decide, cm_act_6_f x2 x3 x4 x5 c0 hn hw⟩
set_option maxRecDepth 100000 in
set_option maxHeartbeats 4000000 in
theorem cX10_areKnown_8 {l : Launch} {G : gG} (x2 : Int32) (x3 : Int32) (x4 : Int32) {n k : Nat} {w : Nat → va_E} (hn : 42 ≤ n) (hw : ∀ i, 32 ≤ i → i < 42 → w (G.2.1 + i) = wl G.2.1 (LF G) (G.2.1 + i)) : Ct l G mX10_areKnown 2 45 [.int 7, .int x2, .int x3, .int x4] n k w (some (.int ((if (if 0 ≤ x2 ∧ x2 ≤ 7 then (1 : Int32) else 0) = 0 then (0 : Int32) else (if (if 0 ≤ x4 ∧ x4 ≤ 7 then (1 : Int32) else 0) = 0 then (0 : Int32) else 1)))), n, k, w) := by
  refine Ct.of (by decide) (Nat.le_of_ble_eq_true rfl) ⟨Nat.le_refl _, Nat.le_refl _⟩ ?_
  show Go l G mX10_areKnown _ 0 [(0, .int 7), (1, .int x2), (2, .int x3), (3, .int x4)] [] n k w
  refine go_iload_n (pc := 0) dX10_areKnown_0 rfl rfl ?_
  refine go_tableIn (pc := 1) (off := 72) (tgt := 73) dX10_areKnown_1 (by decide) (by decide) (by decide) (by decide) ?_
  refine go_iload_n (pc := 73) dX10_areKnown_73 rfl rfl ?_
  refine go_callS_i (pc := 74) sX10_272 rfl (cX10_isRegister_2 x2 hn hw) rfl rfl (Nat.le_of_ble_eq_true rfl) ⟨Nat.le_of_ble_eq_true rfl, Nat.le_of_ble_eq_true rfl, (Nat.le_add_right _ _), (Nat.le_add_right _ _)⟩ dX10_areKnown_74 ?_
  refine go_if_eq (pc := 77) (tgt := 91) dX10_areKnown_77 (by decide) (fun c0 => ?_) (fun c0 => ?_)
  · refine go_iconst (pc := 91) (v := 0) dX10_areKnown_91 (by decide) ?_
    refine go_eq (r' := (some (.int 0), _, _, _)) (by rw [if_pos c0]) ?_
    exact go_zret (pc := 92) rfl rfl dX10_areKnown_92
  · refine go_iload_n (pc := 80) dX10_areKnown_80 rfl rfl ?_
    refine go_callS_i (pc := 81) sX10_272 rfl (cX10_isRegister_3 x4 hn hw) rfl rfl (Nat.le_of_ble_eq_true rfl) ⟨Nat.le_of_ble_eq_true rfl, Nat.le_of_ble_eq_true rfl, (Nat.le_add_right _ _), (Nat.le_add_right _ _)⟩ dX10_areKnown_81 ?_
    refine go_if_eq (pc := 84) (tgt := 91) dX10_areKnown_84 (by decide) (fun c1 => ?_) (fun c1 => ?_)
    · refine go_iconst (pc := 91) (v := 0) dX10_areKnown_91 (by decide) ?_
      refine go_eq (r' := (some (.int 0), _, _, _)) (by rw [if_neg c0, if_pos c1]) ?_
      exact go_zret (pc := 92) rfl rfl dX10_areKnown_92
    · refine go_iconst (pc := 87) (v := 1) dX10_areKnown_87 (by decide) ?_
      refine go_goto (pc := 88) (tgt := 92) dX10_areKnown_88 (by decide) ?_
      refine go_eq (r' := (some (.int 1), _, _, _)) (by rw [if_neg c0, if_neg c1]) ?_
      exact go_zret (pc := 92) rfl rfl dX10_areKnown_92
set_option maxRecDepth 100000 in
set_option maxHeartbeats 4000000 in
theorem cm_act_7_t {l : Launch} {G : gG} (x2 : Int32) (x3 : Int32) (x4 : Int32) (x5 : Int32) (c0 : (if (if 0 ≤ x2 ∧ x2 ≤ 7 then (1 : Int32) else 0) = 0 then (0 : Int32) else (if (if 0 ≤ x4 ∧ x4 ≤ 7 then (1 : Int32) else 0) = 0 then (0 : Int32) else 1)) = 0) {n k : Nat} {w : Nat → va_E} (hn : 42 ≤ n) (hw : ∀ i, 32 ≤ i → i < 42 → w (G.2.1 + i) = wl G.2.1 (LF G) (G.2.1 + i)) : Ct l G mX10_act 3 68 [.ref (G.2.1 + 32), .int 7, .int x2, .int x3, .int x4, .int x5] n k w (some (.int ((-101))), n, k, w) := by
  refine Ct.of (by decide) (Nat.le_of_ble_eq_true rfl) ⟨Nat.le_refl _, Nat.le_refl _⟩ ?_
  show Go l G mX10_act _ 0 [(0, .ref (G.2.1 + 32)), (1, .int 7), (2, .int x2), (3, .int x3), (4, .int x4), (5, .int x5)] [] n k w
  refine go_iload_n (pc := 0) dX10_act_0 rfl rfl ?_
  refine go_iload_n (pc := 1) dX10_act_1 rfl rfl ?_
  refine go_iload_n (pc := 2) dX10_act_2 rfl rfl ?_
  refine go_iload (pc := 3) dX10_act_3 rfl ?_
  refine go_callS_i (pc := 5) sX10_275 rfl (cX10_areKnown_8 x2 x3 x4 hn hw) rfl rfl (Nat.le_of_ble_eq_true rfl) ⟨Nat.le_of_ble_eq_true rfl, Nat.le_of_ble_eq_true rfl, (Nat.le_add_right _ _), (Nat.le_add_right _ _)⟩ dX10_act_5 ?_
  refine go_if_ne_f (pc := 8) (tgt := 14) dX10_act_8 (by decide) c0 ?_
  refine go_bipush (pc := 11) (v := (-101)) dX10_act_11 (by decide) ?_
  exact go_iret (pc := 13) rfl dX10_act_13
set_option maxRecDepth 100000 in
set_option maxHeartbeats 4000000 in
theorem cm_act_7_f {l : Launch} {G : gG} (x2 : Int32) (x3 : Int32) (x4 : Int32) (x5 : Int32) (c0 : ¬ (if (if 0 ≤ x2 ∧ x2 ≤ 7 then (1 : Int32) else 0) = 0 then (0 : Int32) else (if (if 0 ≤ x4 ∧ x4 ≤ 7 then (1 : Int32) else 0) = 0 then (0 : Int32) else 1)) = 0) {n k : Nat} {w : Nat → va_E} (hn : 42 ≤ n) (hw : ∀ i, 32 ≤ i → i < 42 → w (G.2.1 + i) = wl G.2.1 (LF G) (G.2.1 + i)) : Ct l G mX10_act 3 68 [.ref (G.2.1 + 32), .int 7, .int x2, .int x3, .int x4, .int x5] n k w (some (.int 1), n, k, (va_up w (G.2.1 + 33) (ai G 26100 (upd (upd (upd (upd (upd (upd (sx 256) (400 : Int32).toNatClampNeg 7) (401 : Int32).toNatClampNeg x2) (402 : Int32).toNatClampNeg x3) (403 : Int32).toNatClampNeg x4) (404 : Int32).toNatClampNeg x5) (11 : Int32).toNatClampNeg 1)))) := by
  refine Ct.of (by decide) (Nat.le_of_ble_eq_true rfl) ⟨Nat.le_refl _, Nat.le_refl _⟩ ?_
  show Go l G mX10_act _ 0 [(0, .ref (G.2.1 + 32)), (1, .int 7), (2, .int x2), (3, .int x3), (4, .int x4), (5, .int x5)] [] n k w
  refine go_iload_n (pc := 0) dX10_act_0 rfl rfl ?_
  refine go_iload_n (pc := 1) dX10_act_1 rfl rfl ?_
  refine go_iload_n (pc := 2) dX10_act_2 rfl rfl ?_
  refine go_iload (pc := 3) dX10_act_3 rfl ?_
  refine go_callS_i (pc := 5) sX10_275 rfl (cX10_areKnown_8 x2 x3 x4 hn hw) rfl rfl (Nat.le_of_ble_eq_true rfl) ⟨Nat.le_of_ble_eq_true rfl, Nat.le_of_ble_eq_true rfl, (Nat.le_add_right _ _), (Nat.le_add_right _ _)⟩ dX10_act_5 ?_
  refine go_if_ne_t (pc := 8) (tgt := 14) dX10_act_8 (by decide) c0 ?_
  refine go_iload_n (pc := 14) dX10_act_14 rfl rfl ?_
  refine go_i2l (pc := 15) dX10_act_15 ?_
  refine go_topl (y := 7) (by decide) ?_
  refine go_lconst (pc := 16) (v := 0) dX10_act_16 (by decide) ?_
  refine go_ldc2 (pc := 17) rfl qX10_279 dX10_act_17 ?_
  refine go_callS_i (pc := 20) sX10_63 rfl (ct_in 7 0 12) rfl rfl (Nat.le_of_ble_eq_true rfl) ⟨Nat.le_of_ble_eq_true rfl, Nat.le_of_ble_eq_true rfl, (Nat.le_add_right _ _), (Nat.le_add_right _ _)⟩ dX10_act_20 ?_
  refine go_top (y := 1) (by decide) ?_
  refine go_if_eq_f (pc := 23) (tgt := 75) dX10_act_23 (by decide) (by decide) ?_
  refine go_iload_n (pc := 26) dX10_act_26 rfl rfl ?_
  refine go_if_ne_t (pc := 27) (tgt := 57) dX10_act_27 (by decide) (by decide) ?_
  refine go_iload_n (pc := 57) dX10_act_57 rfl rfl ?_
  refine go_bipush (pc := 58) (v := 9) dX10_act_58 (by decide) ?_
  refine go_icmp_ne_t (pc := 60) (tgt := 78) dX10_act_60 (by decide) (by decide) ?_
  refine go_aload_n (pc := 78) dX10_act_78 rfl rfl ?_
  refine go_get (pc := 79) fX10_9 rfl (gz_b (by omega)) ((hw 32 (by decide) (by decide)).trans (wl_at (i := 32) rfl)) rfl dX10_act_79 ?_
  refine go_bipush (pc := 82) (v := 11) dX10_act_82 (by decide) ?_
  refine go_iald (pc := 84) (gz_b (by omega)) ((hw 33 (by decide) (by decide)).trans (wl_at (i := 33) rfl)) (gv_in (by decide)) dX10_act_84 ?_
  refine go_top (y := 0) rfl ?_
  refine go_bipush (pc := 85) (v := 40) dX10_act_85 (by decide) ?_
  refine go_icmp_ne_t (pc := 87) (tgt := 93) dX10_act_87 (by decide) (by decide) ?_
  refine go_sipush (pc := 93) (v := 400) dX10_act_93 (by decide) ?_
  refine go_iconst (pc := 96) (v := 5) dX10_act_96 (by decide) ?_
  refine go_aload_n (pc := 97) dX10_act_97 rfl rfl ?_
  refine go_get (pc := 98) fX10_9 rfl (gz_b (by omega)) ((hw 32 (by decide) (by decide)).trans (wl_at (i := 32) rfl)) rfl dX10_act_98 ?_
  refine go_bipush (pc := 101) (v := 11) dX10_act_101 (by decide) ?_
  refine go_iald (pc := 103) (gz_b (by omega)) ((hw 33 (by decide) (by decide)).trans (wl_at (i := 33) rfl)) (gv_in (by decide)) dX10_act_103 ?_
  refine go_top (y := 0) rfl ?_
  refine go_imul (pc := 104) dX10_act_104 ?_
  refine go_top (y := 0) (by decide) ?_
  refine go_iadd (pc := 105) dX10_act_105 ?_
  refine go_top (y := 400) (by decide) ?_
  refine go_istore (pc := 106) (lv' := [(6, .int 400), (0, .ref (G.2.1 + 32)), (1, .int 7), (2, .int x2), (3, .int x3), (4, .int x4), (5, .int x5)]) dX10_act_106 (by decide) rfl ?_
  refine go_aload_n (pc := 108) dX10_act_108 rfl rfl ?_
  refine go_get (pc := 109) fX10_9 rfl (gz_b (by omega)) ((hw 32 (by decide) (by decide)).trans (wl_at (i := 32) rfl)) rfl dX10_act_109 ?_
  refine go_iload (pc := 112) dX10_act_112 rfl ?_
  refine go_iload_n (pc := 114) dX10_act_114 rfl rfl ?_
  refine go_iast (pc := 115) (gz_b (by omega)) ((hw 33 (by decide) (by decide)).trans (wl_at (i := 33) rfl)) (gv_in (by decide)) dX10_act_115 ?_
  refine go_aload_n (pc := 116) dX10_act_116 rfl rfl ?_
  refine go_get (pc := 117) fX10_9 rfl (gz_b (by omega)) ((va_up_ne _ _ (gz_ne (by decide))).trans ((hw 32 (by decide) (by decide)).trans (wl_at (i := 32) rfl))) rfl dX10_act_117 ?_
  refine go_iload (pc := 120) dX10_act_120 rfl ?_
  refine go_iconst (pc := 122) (v := 1) dX10_act_122 (by decide) ?_
  refine go_iadd (pc := 123) dX10_act_123 ?_
  refine go_top (y := 401) (by decide) ?_
  refine go_iload_n (pc := 124) dX10_act_124 rfl rfl ?_
  refine go_iast (pc := 125) (gz_b (by omega)) (va_up_self _ _ _) (gv_in (by decide)) dX10_act_125 ?_
  refine go_w (va_up_up _ _ _ _) ?_
  refine go_aload_n (pc := 126) dX10_act_126 rfl rfl ?_
  refine go_get (pc := 127) fX10_9 rfl (gz_b (by omega)) ((va_up_ne _ _ (gz_ne (by decide))).trans ((hw 32 (by decide) (by decide)).trans (wl_at (i := 32) rfl))) rfl dX10_act_127 ?_
  refine go_iload (pc := 130) dX10_act_130 rfl ?_
  refine go_iconst (pc := 132) (v := 2) dX10_act_132 (by decide) ?_
  refine go_iadd (pc := 133) dX10_act_133 ?_
  refine go_top (y := 402) (by decide) ?_
  refine go_iload_n (pc := 134) dX10_act_134 rfl rfl ?_
  refine go_iast (pc := 135) (gz_b (by omega)) (va_up_self _ _ _) (gv_in (by decide)) dX10_act_135 ?_
  refine go_w (va_up_up _ _ _ _) ?_
  refine go_aload_n (pc := 136) dX10_act_136 rfl rfl ?_
  refine go_get (pc := 137) fX10_9 rfl (gz_b (by omega)) ((va_up_ne _ _ (gz_ne (by decide))).trans ((hw 32 (by decide) (by decide)).trans (wl_at (i := 32) rfl))) rfl dX10_act_137 ?_
  refine go_iload (pc := 140) dX10_act_140 rfl ?_
  refine go_iconst (pc := 142) (v := 3) dX10_act_142 (by decide) ?_
  refine go_iadd (pc := 143) dX10_act_143 ?_
  refine go_top (y := 403) (by decide) ?_
  refine go_iload (pc := 144) dX10_act_144 rfl ?_
  refine go_iast (pc := 146) (gz_b (by omega)) (va_up_self _ _ _) (gv_in (by decide)) dX10_act_146 ?_
  refine go_w (va_up_up _ _ _ _) ?_
  refine go_aload_n (pc := 147) dX10_act_147 rfl rfl ?_
  refine go_get (pc := 148) fX10_9 rfl (gz_b (by omega)) ((va_up_ne _ _ (gz_ne (by decide))).trans ((hw 32 (by decide) (by decide)).trans (wl_at (i := 32) rfl))) rfl dX10_act_148 ?_
  refine go_iload (pc := 151) dX10_act_151 rfl ?_
  refine go_iconst (pc := 153) (v := 4) dX10_act_153 (by decide) ?_
  refine go_iadd (pc := 154) dX10_act_154 ?_
  refine go_top (y := 404) (by decide) ?_
  refine go_iload (pc := 155) dX10_act_155 rfl ?_
  refine go_iast (pc := 157) (gz_b (by omega)) (va_up_self _ _ _) (gv_in (by decide)) dX10_act_157 ?_
  refine go_w (va_up_up _ _ _ _) ?_
  refine go_aload_n (pc := 158) dX10_act_158 rfl rfl ?_
  refine go_get (pc := 159) fX10_9 rfl (gz_b (by omega)) ((va_up_ne _ _ (gz_ne (by decide))).trans ((hw 32 (by decide) (by decide)).trans (wl_at (i := 32) rfl))) rfl dX10_act_159 ?_
  refine go_bipush (pc := 162) (v := 11) dX10_act_162 (by decide) ?_
  refine go_dup2 (pc := 164) dX10_act_164 rfl rfl ?_
  refine go_iald (pc := 165) (gz_b (by omega)) (va_up_self _ _ _) (gv_in (by decide)) dX10_act_165 ?_
  refine go_top (y := 0) rfl ?_
  refine go_iconst (pc := 166) (v := 1) dX10_act_166 (by decide) ?_
  refine go_iadd (pc := 167) dX10_act_167 ?_
  refine go_top (y := 1) (by decide) ?_
  refine go_iast (pc := 168) (gz_b (by omega)) (va_up_self _ _ _) (gv_in (by decide)) dX10_act_168 ?_
  refine go_w (va_up_up _ _ _ _) ?_
  refine go_aload_n (pc := 169) dX10_act_169 rfl rfl ?_
  refine go_get (pc := 170) fX10_9 rfl (gz_b (by omega)) ((va_up_ne _ _ (gz_ne (by decide))).trans ((hw 32 (by decide) (by decide)).trans (wl_at (i := 32) rfl))) rfl dX10_act_170 ?_
  refine go_bipush (pc := 173) (v := 11) dX10_act_173 (by decide) ?_
  refine go_iald (pc := 175) (gz_b (by omega)) (va_up_self _ _ _) (gv_in (by decide)) dX10_act_175 ?_
  refine go_top (y := 1) rfl ?_
  exact go_iret (pc := 176) rfl dX10_act_176
theorem cm_act_7 {l : Launch} {G : gG} (x2 : Int32) (x3 : Int32) (x4 : Int32) (x5 : Int32) : CM l G mX10_act [.ref (G.2.1 + 32), .int 7, .int x2, .int x3, .int x4, .int x5] ((if (if (if 0 ≤ x2 ∧ x2 ≤ 7 then (1 : Int32) else 0) = 0 then (0 : Int32) else (if (if 0 ≤ x4 ∧ x4 ≤ 7 then (1 : Int32) else 0) = 0 then (0 : Int32) else 1)) = 0 then (-101) else 1)) := by
  intro n k w hn hw
  by_cases c0 : (if (if 0 ≤ x2 ∧ x2 ≤ 7 then (1 : Int32) else 0) = 0 then (0 : Int32) else (if (if 0 ≤ x4 ∧ x4 ≤ 7 then (1 : Int32) else 0) = 0 then (0 : Int32) else 1)) = 0
  · rw [if_pos c0]
    exact ⟨3, 68, _, by decide, by decide, cm_act_7_t x2 x3 x4 x5 c0 hn hw⟩
  · rw [if_neg c0]
    exact ⟨3, 68, _, by decide, by decide, cm_act_7_f x2 x3 x4 x5 c0 hn hw⟩
set_option maxRecDepth 100000 in
set_option maxHeartbeats 4000000 in
theorem cX10_areKnown_9 {l : Launch} {G : gG} (x2 : Int32) (x3 : Int32) (x4 : Int32) {n k : Nat} {w : Nat → va_E} (hn : 42 ≤ n) (hw : ∀ i, 32 ≤ i → i < 42 → w (G.2.1 + i) = wl G.2.1 (LF G) (G.2.1 + i)) : Ct l G mX10_areKnown 2 45 [.int 8, .int x2, .int x3, .int x4] n k w (some (.int ((if 0 ≤ x2 ∧ x2 ≤ 7 then (1 : Int32) else 0))), n, k, w) := by
  refine Ct.of (by decide) (Nat.le_of_ble_eq_true rfl) ⟨Nat.le_refl _, Nat.le_refl _⟩ ?_
  show Go l G mX10_areKnown _ 0 [(0, .int 8), (1, .int x2), (2, .int x3), (3, .int x4)] [] n k w
  refine go_iload_n (pc := 0) dX10_areKnown_0 rfl rfl ?_
  refine go_tableIn (pc := 1) (off := 67) (tgt := 68) dX10_areKnown_1 (by decide) (by decide) (by decide) (by decide) ?_
  refine go_iload_n (pc := 68) dX10_areKnown_68 rfl rfl ?_
  refine go_callS_i (pc := 69) sX10_272 rfl (cX10_isRegister_2 x2 hn hw) rfl rfl (Nat.le_of_ble_eq_true rfl) ⟨Nat.le_of_ble_eq_true rfl, Nat.le_of_ble_eq_true rfl, (Nat.le_add_right _ _), (Nat.le_add_right _ _)⟩ dX10_areKnown_69 ?_
  exact go_zret (pc := 72) rfl (gz_nb _) dX10_areKnown_72
set_option maxRecDepth 100000 in
set_option maxHeartbeats 4000000 in
theorem cm_act_8_t {l : Launch} {G : gG} (x2 : Int32) (x3 : Int32) (x4 : Int32) (x5 : Int32) (c0 : (if 0 ≤ x2 ∧ x2 ≤ 7 then (1 : Int32) else 0) = 0) {n k : Nat} {w : Nat → va_E} (hn : 42 ≤ n) (hw : ∀ i, 32 ≤ i → i < 42 → w (G.2.1 + i) = wl G.2.1 (LF G) (G.2.1 + i)) : Ct l G mX10_act 3 68 [.ref (G.2.1 + 32), .int 8, .int x2, .int x3, .int x4, .int x5] n k w (some (.int ((-101))), n, k, w) := by
  refine Ct.of (by decide) (Nat.le_of_ble_eq_true rfl) ⟨Nat.le_refl _, Nat.le_refl _⟩ ?_
  show Go l G mX10_act _ 0 [(0, .ref (G.2.1 + 32)), (1, .int 8), (2, .int x2), (3, .int x3), (4, .int x4), (5, .int x5)] [] n k w
  refine go_iload_n (pc := 0) dX10_act_0 rfl rfl ?_
  refine go_iload_n (pc := 1) dX10_act_1 rfl rfl ?_
  refine go_iload_n (pc := 2) dX10_act_2 rfl rfl ?_
  refine go_iload (pc := 3) dX10_act_3 rfl ?_
  refine go_callS_i (pc := 5) sX10_275 rfl (cX10_areKnown_9 x2 x3 x4 hn hw) rfl rfl (Nat.le_of_ble_eq_true rfl) ⟨Nat.le_of_ble_eq_true rfl, Nat.le_of_ble_eq_true rfl, (Nat.le_add_right _ _), (Nat.le_add_right _ _)⟩ dX10_act_5 ?_
  refine go_if_ne_f (pc := 8) (tgt := 14) dX10_act_8 (by decide) c0 ?_
  refine go_bipush (pc := 11) (v := (-101)) dX10_act_11 (by decide) ?_
  exact go_iret (pc := 13) rfl dX10_act_13
set_option maxRecDepth 100000 in
set_option maxHeartbeats 4000000 in
theorem cm_act_8_f {l : Launch} {G : gG} (x2 : Int32) (x3 : Int32) (x4 : Int32) (x5 : Int32) (c0 : ¬ (if 0 ≤ x2 ∧ x2 ≤ 7 then (1 : Int32) else 0) = 0) {n k : Nat} {w : Nat → va_E} (hn : 42 ≤ n) (hw : ∀ i, 32 ≤ i → i < 42 → w (G.2.1 + i) = wl G.2.1 (LF G) (G.2.1 + i)) : Ct l G mX10_act 3 68 [.ref (G.2.1 + 32), .int 8, .int x2, .int x3, .int x4, .int x5] n k w (some (.int 1), n, k, (va_up w (G.2.1 + 33) (ai G 26100 (upd (upd (upd (upd (upd (upd (sx 256) (400 : Int32).toNatClampNeg 8) (401 : Int32).toNatClampNeg x2) (402 : Int32).toNatClampNeg x3) (403 : Int32).toNatClampNeg x4) (404 : Int32).toNatClampNeg x5) (11 : Int32).toNatClampNeg 1)))) := by
  refine Ct.of (by decide) (Nat.le_of_ble_eq_true rfl) ⟨Nat.le_refl _, Nat.le_refl _⟩ ?_
  show Go l G mX10_act _ 0 [(0, .ref (G.2.1 + 32)), (1, .int 8), (2, .int x2), (3, .int x3), (4, .int x4), (5, .int x5)] [] n k w
  refine go_iload_n (pc := 0) dX10_act_0 rfl rfl ?_
  refine go_iload_n (pc := 1) dX10_act_1 rfl rfl ?_
  refine go_iload_n (pc := 2) dX10_act_2 rfl rfl ?_
  refine go_iload (pc := 3) dX10_act_3 rfl ?_
  refine go_callS_i (pc := 5) sX10_275 rfl (cX10_areKnown_9 x2 x3 x4 hn hw) rfl rfl (Nat.le_of_ble_eq_true rfl) ⟨Nat.le_of_ble_eq_true rfl, Nat.le_of_ble_eq_true rfl, (Nat.le_add_right _ _), (Nat.le_add_right _ _)⟩ dX10_act_5 ?_
  refine go_if_ne_t (pc := 8) (tgt := 14) dX10_act_8 (by decide) c0 ?_
  refine go_iload_n (pc := 14) dX10_act_14 rfl rfl ?_
  refine go_i2l (pc := 15) dX10_act_15 ?_
  refine go_topl (y := 8) (by decide) ?_
  refine go_lconst (pc := 16) (v := 0) dX10_act_16 (by decide) ?_
  refine go_ldc2 (pc := 17) rfl qX10_279 dX10_act_17 ?_
  refine go_callS_i (pc := 20) sX10_63 rfl (ct_in 8 0 12) rfl rfl (Nat.le_of_ble_eq_true rfl) ⟨Nat.le_of_ble_eq_true rfl, Nat.le_of_ble_eq_true rfl, (Nat.le_add_right _ _), (Nat.le_add_right _ _)⟩ dX10_act_20 ?_
  refine go_top (y := 1) (by decide) ?_
  refine go_if_eq_f (pc := 23) (tgt := 75) dX10_act_23 (by decide) (by decide) ?_
  refine go_iload_n (pc := 26) dX10_act_26 rfl rfl ?_
  refine go_if_ne_t (pc := 27) (tgt := 57) dX10_act_27 (by decide) (by decide) ?_
  refine go_iload_n (pc := 57) dX10_act_57 rfl rfl ?_
  refine go_bipush (pc := 58) (v := 9) dX10_act_58 (by decide) ?_
  refine go_icmp_ne_t (pc := 60) (tgt := 78) dX10_act_60 (by decide) (by decide) ?_
  refine go_aload_n (pc := 78) dX10_act_78 rfl rfl ?_
  refine go_get (pc := 79) fX10_9 rfl (gz_b (by omega)) ((hw 32 (by decide) (by decide)).trans (wl_at (i := 32) rfl)) rfl dX10_act_79 ?_
  refine go_bipush (pc := 82) (v := 11) dX10_act_82 (by decide) ?_
  refine go_iald (pc := 84) (gz_b (by omega)) ((hw 33 (by decide) (by decide)).trans (wl_at (i := 33) rfl)) (gv_in (by decide)) dX10_act_84 ?_
  refine go_top (y := 0) rfl ?_
  refine go_bipush (pc := 85) (v := 40) dX10_act_85 (by decide) ?_
  refine go_icmp_ne_t (pc := 87) (tgt := 93) dX10_act_87 (by decide) (by decide) ?_
  refine go_sipush (pc := 93) (v := 400) dX10_act_93 (by decide) ?_
  refine go_iconst (pc := 96) (v := 5) dX10_act_96 (by decide) ?_
  refine go_aload_n (pc := 97) dX10_act_97 rfl rfl ?_
  refine go_get (pc := 98) fX10_9 rfl (gz_b (by omega)) ((hw 32 (by decide) (by decide)).trans (wl_at (i := 32) rfl)) rfl dX10_act_98 ?_
  refine go_bipush (pc := 101) (v := 11) dX10_act_101 (by decide) ?_
  refine go_iald (pc := 103) (gz_b (by omega)) ((hw 33 (by decide) (by decide)).trans (wl_at (i := 33) rfl)) (gv_in (by decide)) dX10_act_103 ?_
  refine go_top (y := 0) rfl ?_
  refine go_imul (pc := 104) dX10_act_104 ?_
  refine go_top (y := 0) (by decide) ?_
  refine go_iadd (pc := 105) dX10_act_105 ?_
  refine go_top (y := 400) (by decide) ?_
  refine go_istore (pc := 106) (lv' := [(6, .int 400), (0, .ref (G.2.1 + 32)), (1, .int 8), (2, .int x2), (3, .int x3), (4, .int x4), (5, .int x5)]) dX10_act_106 (by decide) rfl ?_
  refine go_aload_n (pc := 108) dX10_act_108 rfl rfl ?_
  refine go_get (pc := 109) fX10_9 rfl (gz_b (by omega)) ((hw 32 (by decide) (by decide)).trans (wl_at (i := 32) rfl)) rfl dX10_act_109 ?_
  refine go_iload (pc := 112) dX10_act_112 rfl ?_
  refine go_iload_n (pc := 114) dX10_act_114 rfl rfl ?_
  refine go_iast (pc := 115) (gz_b (by omega)) ((hw 33 (by decide) (by decide)).trans (wl_at (i := 33) rfl)) (gv_in (by decide)) dX10_act_115 ?_
  refine go_aload_n (pc := 116) dX10_act_116 rfl rfl ?_
  refine go_get (pc := 117) fX10_9 rfl (gz_b (by omega)) ((va_up_ne _ _ (gz_ne (by decide))).trans ((hw 32 (by decide) (by decide)).trans (wl_at (i := 32) rfl))) rfl dX10_act_117 ?_
  refine go_iload (pc := 120) dX10_act_120 rfl ?_
  refine go_iconst (pc := 122) (v := 1) dX10_act_122 (by decide) ?_
  refine go_iadd (pc := 123) dX10_act_123 ?_
  refine go_top (y := 401) (by decide) ?_
  refine go_iload_n (pc := 124) dX10_act_124 rfl rfl ?_
  refine go_iast (pc := 125) (gz_b (by omega)) (va_up_self _ _ _) (gv_in (by decide)) dX10_act_125 ?_
  refine go_w (va_up_up _ _ _ _) ?_
  refine go_aload_n (pc := 126) dX10_act_126 rfl rfl ?_
  refine go_get (pc := 127) fX10_9 rfl (gz_b (by omega)) ((va_up_ne _ _ (gz_ne (by decide))).trans ((hw 32 (by decide) (by decide)).trans (wl_at (i := 32) rfl))) rfl dX10_act_127 ?_
  refine go_iload (pc := 130) dX10_act_130 rfl ?_
  refine go_iconst (pc := 132) (v := 2) dX10_act_132 (by decide) ?_
  refine go_iadd (pc := 133) dX10_act_133 ?_
  refine go_top (y := 402) (by decide) ?_
  refine go_iload_n (pc := 134) dX10_act_134 rfl rfl ?_
  refine go_iast (pc := 135) (gz_b (by omega)) (va_up_self _ _ _) (gv_in (by decide)) dX10_act_135 ?_
  refine go_w (va_up_up _ _ _ _) ?_
  refine go_aload_n (pc := 136) dX10_act_136 rfl rfl ?_
  refine go_get (pc := 137) fX10_9 rfl (gz_b (by omega)) ((va_up_ne _ _ (gz_ne (by decide))).trans ((hw 32 (by decide) (by decide)).trans (wl_at (i := 32) rfl))) rfl dX10_act_137 ?_
  refine go_iload (pc := 140) dX10_act_140 rfl ?_
  refine go_iconst (pc := 142) (v := 3) dX10_act_142 (by decide) ?_
  refine go_iadd (pc := 143) dX10_act_143 ?_
  refine go_top (y := 403) (by decide) ?_
  refine go_iload (pc := 144) dX10_act_144 rfl ?_
  refine go_iast (pc := 146) (gz_b (by omega)) (va_up_self _ _ _) (gv_in (by decide)) dX10_act_146 ?_
  refine go_w (va_up_up _ _ _ _) ?_
  refine go_aload_n (pc := 147) dX10_act_147 rfl rfl ?_
  refine go_get (pc := 148) fX10_9 rfl (gz_b (by omega)) ((va_up_ne _ _ (gz_ne (by decide))).trans ((hw 32 (by decide) (by decide)).trans (wl_at (i := 32) rfl))) rfl dX10_act_148 ?_
  refine go_iload (pc := 151) dX10_act_151 rfl ?_
  refine go_iconst (pc := 153) (v := 4) dX10_act_153 (by decide) ?_
  refine go_iadd (pc := 154) dX10_act_154 ?_
  refine go_top (y := 404) (by decide) ?_
  refine go_iload (pc := 155) dX10_act_155 rfl ?_
  refine go_iast (pc := 157) (gz_b (by omega)) (va_up_self _ _ _) (gv_in (by decide)) dX10_act_157 ?_
  refine go_w (va_up_up _ _ _ _) ?_
  refine go_aload_n (pc := 158) dX10_act_158 rfl rfl ?_
  refine go_get (pc := 159) fX10_9 rfl (gz_b (by omega)) ((va_up_ne _ _ (gz_ne (by decide))).trans ((hw 32 (by decide) (by decide)).trans (wl_at (i := 32) rfl))) rfl dX10_act_159 ?_
  refine go_bipush (pc := 162) (v := 11) dX10_act_162 (by decide) ?_
  refine go_dup2 (pc := 164) dX10_act_164 rfl rfl ?_
  refine go_iald (pc := 165) (gz_b (by omega)) (va_up_self _ _ _) (gv_in (by decide)) dX10_act_165 ?_
  refine go_top (y := 0) rfl ?_
  refine go_iconst (pc := 166) (v := 1) dX10_act_166 (by decide) ?_
  refine go_iadd (pc := 167) dX10_act_167 ?_
  refine go_top (y := 1) (by decide) ?_
  refine go_iast (pc := 168) (gz_b (by omega)) (va_up_self _ _ _) (gv_in (by decide)) dX10_act_168 ?_
  refine go_w (va_up_up _ _ _ _) ?_
  refine go_aload_n (pc := 169) dX10_act_169 rfl rfl ?_
  refine go_get (pc := 170) fX10_9 rfl (gz_b (by omega)) ((va_up_ne _ _ (gz_ne (by decide))).trans ((hw 32 (by decide) (by decide)).trans (wl_at (i := 32) rfl))) rfl dX10_act_170 ?_
  refine go_bipush (pc := 173) (v := 11) dX10_act_173 (by decide) ?_
  refine go_iald (pc := 175) (gz_b (by omega)) (va_up_self _ _ _) (gv_in (by decide)) dX10_act_175 ?_
  refine go_top (y := 1) rfl ?_
  exact go_iret (pc := 176) rfl dX10_act_176
theorem cm_act_8 {l : Launch} {G : gG} (x2 : Int32) (x3 : Int32) (x4 : Int32) (x5 : Int32) : CM l G mX10_act [.ref (G.2.1 + 32), .int 8, .int x2, .int x3, .int x4, .int x5] ((if (if 0 ≤ x2 ∧ x2 ≤ 7 then (1 : Int32) else 0) = 0 then (-101) else 1)) := by
  intro n k w hn hw
  by_cases c0 : (if 0 ≤ x2 ∧ x2 ≤ 7 then (1 : Int32) else 0) = 0
  · rw [if_pos c0]
    exact ⟨3, 68, _, by decide, by decide, cm_act_8_t x2 x3 x4 x5 c0 hn hw⟩
  · rw [if_neg c0]
    exact ⟨3, 68, _, by decide, by decide, cm_act_8_f x2 x3 x4 x5 c0 hn hw⟩
set_option maxRecDepth 100000 in
set_option maxHeartbeats 4000000 in
theorem cX10_areKnown_10 {l : Launch} {G : gG} (x2 : Int32) (x3 : Int32) (x4 : Int32) {n k : Nat} {w : Nat → va_E} (hn : 42 ≤ n) (hw : ∀ i, 32 ≤ i → i < 42 → w (G.2.1 + i) = wl G.2.1 (LF G) (G.2.1 + i)) : Ct l G mX10_areKnown 0 0 [.int 9, .int x2, .int x3, .int x4] n k w (some (.int 1), n, k, w) := by
  refine Ct.of (by decide) (Nat.le_of_ble_eq_true rfl) ⟨Nat.le_refl _, Nat.le_refl _⟩ ?_
  show Go l G mX10_areKnown _ 0 [(0, .int 9), (1, .int x2), (2, .int x3), (3, .int x4)] [] n k w
  refine go_iload_n (pc := 0) dX10_areKnown_0 rfl rfl ?_
  refine go_tableIn (pc := 1) (off := 157) (tgt := 158) dX10_areKnown_1 (by decide) (by decide) (by decide) (by decide) ?_
  refine go_iconst (pc := 158) (v := 1) dX10_areKnown_158 (by decide) ?_
  exact go_zret (pc := 159) rfl rfl dX10_areKnown_159
set_option maxRecDepth 100000 in
set_option maxHeartbeats 4000000 in
theorem cm_act_9_t {l : Launch} {G : gG} (x2 : Int32) (x3 : Int32) (x4 : Int32) (x5 : Int32) (c0 : (if 0 ≤ x2 ∧ x2 ≤ 1000 then (1 : Int32) else 0) = 0) {n k : Nat} {w : Nat → va_E} (hn : 42 ≤ n) (hw : ∀ i, 32 ≤ i → i < 42 → w (G.2.1 + i) = wl G.2.1 (LF G) (G.2.1 + i)) : Ct l G mX10_act 1 25 [.ref (G.2.1 + 32), .int 9, .int x2, .int x3, .int x4, .int x5] n k w (some (.int ((-102))), n, k, w) := by
  refine Ct.of (by decide) (Nat.le_of_ble_eq_true rfl) ⟨Nat.le_refl _, Nat.le_refl _⟩ ?_
  show Go l G mX10_act _ 0 [(0, .ref (G.2.1 + 32)), (1, .int 9), (2, .int x2), (3, .int x3), (4, .int x4), (5, .int x5)] [] n k w
  refine go_iload_n (pc := 0) dX10_act_0 rfl rfl ?_
  refine go_iload_n (pc := 1) dX10_act_1 rfl rfl ?_
  refine go_iload_n (pc := 2) dX10_act_2 rfl rfl ?_
  refine go_iload (pc := 3) dX10_act_3 rfl ?_
  refine go_callS_i (pc := 5) sX10_275 rfl (cX10_areKnown_10 x2 x3 x4 hn hw) rfl rfl (Nat.le_of_ble_eq_true rfl) ⟨Nat.le_of_ble_eq_true rfl, Nat.le_of_ble_eq_true rfl, (Nat.le_add_right _ _), (Nat.le_add_right _ _)⟩ dX10_act_5 ?_
  refine go_if_ne_t (pc := 8) (tgt := 14) dX10_act_8 (by decide) (by decide) ?_
  refine go_iload_n (pc := 14) dX10_act_14 rfl rfl ?_
  refine go_i2l (pc := 15) dX10_act_15 ?_
  refine go_topl (y := 9) (by decide) ?_
  refine go_lconst (pc := 16) (v := 0) dX10_act_16 (by decide) ?_
  refine go_ldc2 (pc := 17) rfl qX10_279 dX10_act_17 ?_
  refine go_callS_i (pc := 20) sX10_63 rfl (ct_in 9 0 12) rfl rfl (Nat.le_of_ble_eq_true rfl) ⟨Nat.le_of_ble_eq_true rfl, Nat.le_of_ble_eq_true rfl, (Nat.le_add_right _ _), (Nat.le_add_right _ _)⟩ dX10_act_20 ?_
  refine go_top (y := 1) (by decide) ?_
  refine go_if_eq_f (pc := 23) (tgt := 75) dX10_act_23 (by decide) (by decide) ?_
  refine go_iload_n (pc := 26) dX10_act_26 rfl rfl ?_
  refine go_if_ne_t (pc := 27) (tgt := 57) dX10_act_27 (by decide) (by decide) ?_
  refine go_iload_n (pc := 57) dX10_act_57 rfl rfl ?_
  refine go_bipush (pc := 58) (v := 9) dX10_act_58 (by decide) ?_
  refine go_icmp_ne_f (pc := 60) (tgt := 78) dX10_act_60 (by decide) (by decide) ?_
  refine go_iload_n (pc := 63) dX10_act_63 rfl rfl ?_
  refine go_i2l (pc := 64) dX10_act_64 ?_
  refine go_lconst (pc := 65) (v := 0) dX10_act_65 (by decide) ?_
  refine go_ldc2 (pc := 66) rfl qX10_224 dX10_act_66 ?_
  refine go_callS_i (pc := 69) sX10_63 rfl (ct_in x2.toInt64 0 1000) rfl rfl (Nat.le_of_ble_eq_true rfl) ⟨Nat.le_of_ble_eq_true rfl, Nat.le_of_ble_eq_true rfl, (Nat.le_add_right _ _), (Nat.le_add_right _ _)⟩ dX10_act_69 ?_
  refine go_top (y := (if 0 ≤ x2 ∧ x2 ≤ 1000 then (1 : Int32) else 0)) (gi_in (by decide) (by decide)) ?_
  refine go_if_ne_f (pc := 72) (tgt := 78) dX10_act_72 (by decide) c0 ?_
  refine go_bipush (pc := 75) (v := (-102)) dX10_act_75 (by decide) ?_
  exact go_iret (pc := 77) rfl dX10_act_77
set_option maxRecDepth 100000 in
set_option maxHeartbeats 4000000 in
theorem cm_act_9_f {l : Launch} {G : gG} (x2 : Int32) (x3 : Int32) (x4 : Int32) (x5 : Int32) (c0 : ¬ (if 0 ≤ x2 ∧ x2 ≤ 1000 then (1 : Int32) else 0) = 0) {n k : Nat} {w : Nat → va_E} (hn : 42 ≤ n) (hw : ∀ i, 32 ≤ i → i < 42 → w (G.2.1 + i) = wl G.2.1 (LF G) (G.2.1 + i)) : Ct l G mX10_act 1 25 [.ref (G.2.1 + 32), .int 9, .int x2, .int x3, .int x4, .int x5] n k w (some (.int 1), n, k, (va_up w (G.2.1 + 33) (ai G 26100 (upd (upd (upd (upd (upd (upd (sx 256) (400 : Int32).toNatClampNeg 9) (401 : Int32).toNatClampNeg x2) (402 : Int32).toNatClampNeg x3) (403 : Int32).toNatClampNeg x4) (404 : Int32).toNatClampNeg x5) (11 : Int32).toNatClampNeg 1)))) := by
  refine Ct.of (by decide) (Nat.le_of_ble_eq_true rfl) ⟨Nat.le_refl _, Nat.le_refl _⟩ ?_
  show Go l G mX10_act _ 0 [(0, .ref (G.2.1 + 32)), (1, .int 9), (2, .int x2), (3, .int x3), (4, .int x4), (5, .int x5)] [] n k w
  refine go_iload_n (pc := 0) dX10_act_0 rfl rfl ?_
  refine go_iload_n (pc := 1) dX10_act_1 rfl rfl ?_
  refine go_iload_n (pc := 2) dX10_act_2 rfl rfl ?_
  refine go_iload (pc := 3) dX10_act_3 rfl ?_
  refine go_callS_i (pc := 5) sX10_275 rfl (cX10_areKnown_10 x2 x3 x4 hn hw) rfl rfl (Nat.le_of_ble_eq_true rfl) ⟨Nat.le_of_ble_eq_true rfl, Nat.le_of_ble_eq_true rfl, (Nat.le_add_right _ _), (Nat.le_add_right _ _)⟩ dX10_act_5 ?_
  refine go_if_ne_t (pc := 8) (tgt := 14) dX10_act_8 (by decide) (by decide) ?_
  refine go_iload_n (pc := 14) dX10_act_14 rfl rfl ?_
  refine go_i2l (pc := 15) dX10_act_15 ?_
  refine go_topl (y := 9) (by decide) ?_
  refine go_lconst (pc := 16) (v := 0) dX10_act_16 (by decide) ?_
  refine go_ldc2 (pc := 17) rfl qX10_279 dX10_act_17 ?_
  refine go_callS_i (pc := 20) sX10_63 rfl (ct_in 9 0 12) rfl rfl (Nat.le_of_ble_eq_true rfl) ⟨Nat.le_of_ble_eq_true rfl, Nat.le_of_ble_eq_true rfl, (Nat.le_add_right _ _), (Nat.le_add_right _ _)⟩ dX10_act_20 ?_
  refine go_top (y := 1) (by decide) ?_
  refine go_if_eq_f (pc := 23) (tgt := 75) dX10_act_23 (by decide) (by decide) ?_
  refine go_iload_n (pc := 26) dX10_act_26 rfl rfl ?_
  refine go_if_ne_t (pc := 27) (tgt := 57) dX10_act_27 (by decide) (by decide) ?_
  refine go_iload_n (pc := 57) dX10_act_57 rfl rfl ?_
  refine go_bipush (pc := 58) (v := 9) dX10_act_58 (by decide) ?_
  refine go_icmp_ne_f (pc := 60) (tgt := 78) dX10_act_60 (by decide) (by decide) ?_
  refine go_iload_n (pc := 63) dX10_act_63 rfl rfl ?_
  refine go_i2l (pc := 64) dX10_act_64 ?_
  refine go_lconst (pc := 65) (v := 0) dX10_act_65 (by decide) ?_
  refine go_ldc2 (pc := 66) rfl qX10_224 dX10_act_66 ?_
  refine go_callS_i (pc := 69) sX10_63 rfl (ct_in x2.toInt64 0 1000) rfl rfl (Nat.le_of_ble_eq_true rfl) ⟨Nat.le_of_ble_eq_true rfl, Nat.le_of_ble_eq_true rfl, (Nat.le_add_right _ _), (Nat.le_add_right _ _)⟩ dX10_act_69 ?_
  refine go_top (y := (if 0 ≤ x2 ∧ x2 ≤ 1000 then (1 : Int32) else 0)) (gi_in (by decide) (by decide)) ?_
  refine go_if_ne_t (pc := 72) (tgt := 78) dX10_act_72 (by decide) c0 ?_
  refine go_aload_n (pc := 78) dX10_act_78 rfl rfl ?_
  refine go_get (pc := 79) fX10_9 rfl (gz_b (by omega)) ((hw 32 (by decide) (by decide)).trans (wl_at (i := 32) rfl)) rfl dX10_act_79 ?_
  refine go_bipush (pc := 82) (v := 11) dX10_act_82 (by decide) ?_
  refine go_iald (pc := 84) (gz_b (by omega)) ((hw 33 (by decide) (by decide)).trans (wl_at (i := 33) rfl)) (gv_in (by decide)) dX10_act_84 ?_
  refine go_top (y := 0) rfl ?_
  refine go_bipush (pc := 85) (v := 40) dX10_act_85 (by decide) ?_
  refine go_icmp_ne_t (pc := 87) (tgt := 93) dX10_act_87 (by decide) (by decide) ?_
  refine go_sipush (pc := 93) (v := 400) dX10_act_93 (by decide) ?_
  refine go_iconst (pc := 96) (v := 5) dX10_act_96 (by decide) ?_
  refine go_aload_n (pc := 97) dX10_act_97 rfl rfl ?_
  refine go_get (pc := 98) fX10_9 rfl (gz_b (by omega)) ((hw 32 (by decide) (by decide)).trans (wl_at (i := 32) rfl)) rfl dX10_act_98 ?_
  refine go_bipush (pc := 101) (v := 11) dX10_act_101 (by decide) ?_
  refine go_iald (pc := 103) (gz_b (by omega)) ((hw 33 (by decide) (by decide)).trans (wl_at (i := 33) rfl)) (gv_in (by decide)) dX10_act_103 ?_
  refine go_top (y := 0) rfl ?_
  refine go_imul (pc := 104) dX10_act_104 ?_
  refine go_top (y := 0) (by decide) ?_
  refine go_iadd (pc := 105) dX10_act_105 ?_
  refine go_top (y := 400) (by decide) ?_
  refine go_istore (pc := 106) (lv' := [(6, .int 400), (0, .ref (G.2.1 + 32)), (1, .int 9), (2, .int x2), (3, .int x3), (4, .int x4), (5, .int x5)]) dX10_act_106 (by decide) rfl ?_
  refine go_aload_n (pc := 108) dX10_act_108 rfl rfl ?_
  refine go_get (pc := 109) fX10_9 rfl (gz_b (by omega)) ((hw 32 (by decide) (by decide)).trans (wl_at (i := 32) rfl)) rfl dX10_act_109 ?_
  refine go_iload (pc := 112) dX10_act_112 rfl ?_
  refine go_iload_n (pc := 114) dX10_act_114 rfl rfl ?_
  refine go_iast (pc := 115) (gz_b (by omega)) ((hw 33 (by decide) (by decide)).trans (wl_at (i := 33) rfl)) (gv_in (by decide)) dX10_act_115 ?_
  refine go_aload_n (pc := 116) dX10_act_116 rfl rfl ?_
  refine go_get (pc := 117) fX10_9 rfl (gz_b (by omega)) ((va_up_ne _ _ (gz_ne (by decide))).trans ((hw 32 (by decide) (by decide)).trans (wl_at (i := 32) rfl))) rfl dX10_act_117 ?_
  refine go_iload (pc := 120) dX10_act_120 rfl ?_
  refine go_iconst (pc := 122) (v := 1) dX10_act_122 (by decide) ?_
  refine go_iadd (pc := 123) dX10_act_123 ?_
  refine go_top (y := 401) (by decide) ?_
  refine go_iload_n (pc := 124) dX10_act_124 rfl rfl ?_
  refine go_iast (pc := 125) (gz_b (by omega)) (va_up_self _ _ _) (gv_in (by decide)) dX10_act_125 ?_
  refine go_w (va_up_up _ _ _ _) ?_
  refine go_aload_n (pc := 126) dX10_act_126 rfl rfl ?_
  refine go_get (pc := 127) fX10_9 rfl (gz_b (by omega)) ((va_up_ne _ _ (gz_ne (by decide))).trans ((hw 32 (by decide) (by decide)).trans (wl_at (i := 32) rfl))) rfl dX10_act_127 ?_
  refine go_iload (pc := 130) dX10_act_130 rfl ?_
  refine go_iconst (pc := 132) (v := 2) dX10_act_132 (by decide) ?_
  refine go_iadd (pc := 133) dX10_act_133 ?_
  refine go_top (y := 402) (by decide) ?_
  refine go_iload_n (pc := 134) dX10_act_134 rfl rfl ?_
  refine go_iast (pc := 135) (gz_b (by omega)) (va_up_self _ _ _) (gv_in (by decide)) dX10_act_135 ?_
  refine go_w (va_up_up _ _ _ _) ?_
  refine go_aload_n (pc := 136) dX10_act_136 rfl rfl ?_
  refine go_get (pc := 137) fX10_9 rfl (gz_b (by omega)) ((va_up_ne _ _ (gz_ne (by decide))).trans ((hw 32 (by decide) (by decide)).trans (wl_at (i := 32) rfl))) rfl dX10_act_137 ?_
  refine go_iload (pc := 140) dX10_act_140 rfl ?_
  refine go_iconst (pc := 142) (v := 3) dX10_act_142 (by decide) ?_
  refine go_iadd (pc := 143) dX10_act_143 ?_
  refine go_top (y := 403) (by decide) ?_
  refine go_iload (pc := 144) dX10_act_144 rfl ?_
  refine go_iast (pc := 146) (gz_b (by omega)) (va_up_self _ _ _) (gv_in (by decide)) dX10_act_146 ?_
  refine go_w (va_up_up _ _ _ _) ?_
  refine go_aload_n (pc := 147) dX10_act_147 rfl rfl ?_
  refine go_get (pc := 148) fX10_9 rfl (gz_b (by omega)) ((va_up_ne _ _ (gz_ne (by decide))).trans ((hw 32 (by decide) (by decide)).trans (wl_at (i := 32) rfl))) rfl dX10_act_148 ?_
  refine go_iload (pc := 151) dX10_act_151 rfl ?_
  refine go_iconst (pc := 153) (v := 4) dX10_act_153 (by decide) ?_
  refine go_iadd (pc := 154) dX10_act_154 ?_
  refine go_top (y := 404) (by decide) ?_
  refine go_iload (pc := 155) dX10_act_155 rfl ?_
  refine go_iast (pc := 157) (gz_b (by omega)) (va_up_self _ _ _) (gv_in (by decide)) dX10_act_157 ?_
  refine go_w (va_up_up _ _ _ _) ?_
  refine go_aload_n (pc := 158) dX10_act_158 rfl rfl ?_
  refine go_get (pc := 159) fX10_9 rfl (gz_b (by omega)) ((va_up_ne _ _ (gz_ne (by decide))).trans ((hw 32 (by decide) (by decide)).trans (wl_at (i := 32) rfl))) rfl dX10_act_159 ?_
  refine go_bipush (pc := 162) (v := 11) dX10_act_162 (by decide) ?_
  refine go_dup2 (pc := 164) dX10_act_164 rfl rfl ?_
  refine go_iald (pc := 165) (gz_b (by omega)) (va_up_self _ _ _) (gv_in (by decide)) dX10_act_165 ?_
  refine go_top (y := 0) rfl ?_
  refine go_iconst (pc := 166) (v := 1) dX10_act_166 (by decide) ?_
  refine go_iadd (pc := 167) dX10_act_167 ?_
  refine go_top (y := 1) (by decide) ?_
  refine go_iast (pc := 168) (gz_b (by omega)) (va_up_self _ _ _) (gv_in (by decide)) dX10_act_168 ?_
  refine go_w (va_up_up _ _ _ _) ?_
  refine go_aload_n (pc := 169) dX10_act_169 rfl rfl ?_
  refine go_get (pc := 170) fX10_9 rfl (gz_b (by omega)) ((va_up_ne _ _ (gz_ne (by decide))).trans ((hw 32 (by decide) (by decide)).trans (wl_at (i := 32) rfl))) rfl dX10_act_170 ?_
  refine go_bipush (pc := 173) (v := 11) dX10_act_173 (by decide) ?_
  refine go_iald (pc := 175) (gz_b (by omega)) (va_up_self _ _ _) (gv_in (by decide)) dX10_act_175 ?_
  refine go_top (y := 1) rfl ?_
  exact go_iret (pc := 176) rfl dX10_act_176
theorem cm_act_9 {l : Launch} {G : gG} (x2 : Int32) (x3 : Int32) (x4 : Int32) (x5 : Int32) : CM l G mX10_act [.ref (G.2.1 + 32), .int 9, .int x2, .int x3, .int x4, .int x5] ((if (if 0 ≤ x2 ∧ x2 ≤ 1000 then (1 : Int32) else 0) = 0 then (-102) else 1)) := by
  intro n k w hn hw
  by_cases c0 : (if 0 ≤ x2 ∧ x2 ≤ 1000 then (1 : Int32) else 0) = 0
  · rw [if_pos c0]
    exact ⟨1, 25, _, by decide, by decide, cm_act_9_t x2 x3 x4 x5 c0 hn hw⟩
  · rw [if_neg c0]
    exact ⟨1, 25, _, by decide, by decide, cm_act_9_f x2 x3 x4 x5 c0 hn hw⟩
set_option maxRecDepth 100000 in
set_option maxHeartbeats 4000000 in
theorem cX10_areKnown_11 {l : Launch} {G : gG} (x2 : Int32) (x3 : Int32) (x4 : Int32) {n k : Nat} {w : Nat → va_E} (hn : 42 ≤ n) (hw : ∀ i, 32 ≤ i → i < 42 → w (G.2.1 + i) = wl G.2.1 (LF G) (G.2.1 + i)) : Ct l G mX10_areKnown 0 0 [.int 10, .int x2, .int x3, .int x4] n k w (some (.int 1), n, k, w) := by
  refine Ct.of (by decide) (Nat.le_of_ble_eq_true rfl) ⟨Nat.le_refl _, Nat.le_refl _⟩ ?_
  show Go l G mX10_areKnown _ 0 [(0, .int 10), (1, .int x2), (2, .int x3), (3, .int x4)] [] n k w
  refine go_iload_n (pc := 0) dX10_areKnown_0 rfl rfl ?_
  refine go_tableIn (pc := 1) (off := 157) (tgt := 158) dX10_areKnown_1 (by decide) (by decide) (by decide) (by decide) ?_
  refine go_iconst (pc := 158) (v := 1) dX10_areKnown_158 (by decide) ?_
  exact go_zret (pc := 159) rfl rfl dX10_areKnown_159
set_option maxRecDepth 100000 in
set_option maxHeartbeats 4000000 in
theorem cm_act_10_o {l : Launch} {G : gG} (x2 : Int32) (x3 : Int32) (x4 : Int32) (x5 : Int32) {n k : Nat} {w : Nat → va_E} (hn : 42 ≤ n) (hw : ∀ i, 32 ≤ i → i < 42 → w (G.2.1 + i) = wl G.2.1 (LF G) (G.2.1 + i)) : Ct l G mX10_act 1 25 [.ref (G.2.1 + 32), .int 10, .int x2, .int x3, .int x4, .int x5] n k w (some (.int 1), n, k, (va_up w (G.2.1 + 33) (ai G 26100 (upd (upd (upd (upd (upd (upd (sx 256) (400 : Int32).toNatClampNeg 10) (401 : Int32).toNatClampNeg x2) (402 : Int32).toNatClampNeg x3) (403 : Int32).toNatClampNeg x4) (404 : Int32).toNatClampNeg x5) (11 : Int32).toNatClampNeg 1)))) := by
  refine Ct.of (by decide) (Nat.le_of_ble_eq_true rfl) ⟨Nat.le_refl _, Nat.le_refl _⟩ ?_
  show Go l G mX10_act _ 0 [(0, .ref (G.2.1 + 32)), (1, .int 10), (2, .int x2), (3, .int x3), (4, .int x4), (5, .int x5)] [] n k w
  refine go_iload_n (pc := 0) dX10_act_0 rfl rfl ?_
  refine go_iload_n (pc := 1) dX10_act_1 rfl rfl ?_
  refine go_iload_n (pc := 2) dX10_act_2 rfl rfl ?_
  refine go_iload (pc := 3) dX10_act_3 rfl ?_
  refine go_callS_i (pc := 5) sX10_275 rfl (cX10_areKnown_11 x2 x3 x4 hn hw) rfl rfl (Nat.le_of_ble_eq_true rfl) ⟨Nat.le_of_ble_eq_true rfl, Nat.le_of_ble_eq_true rfl, (Nat.le_add_right _ _), (Nat.le_add_right _ _)⟩ dX10_act_5 ?_
  refine go_if_ne_t (pc := 8) (tgt := 14) dX10_act_8 (by decide) (by decide) ?_
  refine go_iload_n (pc := 14) dX10_act_14 rfl rfl ?_
  refine go_i2l (pc := 15) dX10_act_15 ?_
  refine go_topl (y := 10) (by decide) ?_
  refine go_lconst (pc := 16) (v := 0) dX10_act_16 (by decide) ?_
  refine go_ldc2 (pc := 17) rfl qX10_279 dX10_act_17 ?_
  refine go_callS_i (pc := 20) sX10_63 rfl (ct_in 10 0 12) rfl rfl (Nat.le_of_ble_eq_true rfl) ⟨Nat.le_of_ble_eq_true rfl, Nat.le_of_ble_eq_true rfl, (Nat.le_add_right _ _), (Nat.le_add_right _ _)⟩ dX10_act_20 ?_
  refine go_top (y := 1) (by decide) ?_
  refine go_if_eq_f (pc := 23) (tgt := 75) dX10_act_23 (by decide) (by decide) ?_
  refine go_iload_n (pc := 26) dX10_act_26 rfl rfl ?_
  refine go_if_ne_t (pc := 27) (tgt := 57) dX10_act_27 (by decide) (by decide) ?_
  refine go_iload_n (pc := 57) dX10_act_57 rfl rfl ?_
  refine go_bipush (pc := 58) (v := 9) dX10_act_58 (by decide) ?_
  refine go_icmp_ne_t (pc := 60) (tgt := 78) dX10_act_60 (by decide) (by decide) ?_
  refine go_aload_n (pc := 78) dX10_act_78 rfl rfl ?_
  refine go_get (pc := 79) fX10_9 rfl (gz_b (by omega)) ((hw 32 (by decide) (by decide)).trans (wl_at (i := 32) rfl)) rfl dX10_act_79 ?_
  refine go_bipush (pc := 82) (v := 11) dX10_act_82 (by decide) ?_
  refine go_iald (pc := 84) (gz_b (by omega)) ((hw 33 (by decide) (by decide)).trans (wl_at (i := 33) rfl)) (gv_in (by decide)) dX10_act_84 ?_
  refine go_top (y := 0) rfl ?_
  refine go_bipush (pc := 85) (v := 40) dX10_act_85 (by decide) ?_
  refine go_icmp_ne_t (pc := 87) (tgt := 93) dX10_act_87 (by decide) (by decide) ?_
  refine go_sipush (pc := 93) (v := 400) dX10_act_93 (by decide) ?_
  refine go_iconst (pc := 96) (v := 5) dX10_act_96 (by decide) ?_
  refine go_aload_n (pc := 97) dX10_act_97 rfl rfl ?_
  refine go_get (pc := 98) fX10_9 rfl (gz_b (by omega)) ((hw 32 (by decide) (by decide)).trans (wl_at (i := 32) rfl)) rfl dX10_act_98 ?_
  refine go_bipush (pc := 101) (v := 11) dX10_act_101 (by decide) ?_
  refine go_iald (pc := 103) (gz_b (by omega)) ((hw 33 (by decide) (by decide)).trans (wl_at (i := 33) rfl)) (gv_in (by decide)) dX10_act_103 ?_
  refine go_top (y := 0) rfl ?_
  refine go_imul (pc := 104) dX10_act_104 ?_
  refine go_top (y := 0) (by decide) ?_
  refine go_iadd (pc := 105) dX10_act_105 ?_
  refine go_top (y := 400) (by decide) ?_
  refine go_istore (pc := 106) (lv' := [(6, .int 400), (0, .ref (G.2.1 + 32)), (1, .int 10), (2, .int x2), (3, .int x3), (4, .int x4), (5, .int x5)]) dX10_act_106 (by decide) rfl ?_
  refine go_aload_n (pc := 108) dX10_act_108 rfl rfl ?_
  refine go_get (pc := 109) fX10_9 rfl (gz_b (by omega)) ((hw 32 (by decide) (by decide)).trans (wl_at (i := 32) rfl)) rfl dX10_act_109 ?_
  refine go_iload (pc := 112) dX10_act_112 rfl ?_
  refine go_iload_n (pc := 114) dX10_act_114 rfl rfl ?_
  refine go_iast (pc := 115) (gz_b (by omega)) ((hw 33 (by decide) (by decide)).trans (wl_at (i := 33) rfl)) (gv_in (by decide)) dX10_act_115 ?_
  refine go_aload_n (pc := 116) dX10_act_116 rfl rfl ?_
  refine go_get (pc := 117) fX10_9 rfl (gz_b (by omega)) ((va_up_ne _ _ (gz_ne (by decide))).trans ((hw 32 (by decide) (by decide)).trans (wl_at (i := 32) rfl))) rfl dX10_act_117 ?_
  refine go_iload (pc := 120) dX10_act_120 rfl ?_
  refine go_iconst (pc := 122) (v := 1) dX10_act_122 (by decide) ?_
  refine go_iadd (pc := 123) dX10_act_123 ?_
  refine go_top (y := 401) (by decide) ?_
  refine go_iload_n (pc := 124) dX10_act_124 rfl rfl ?_
  refine go_iast (pc := 125) (gz_b (by omega)) (va_up_self _ _ _) (gv_in (by decide)) dX10_act_125 ?_
  refine go_w (va_up_up _ _ _ _) ?_
  refine go_aload_n (pc := 126) dX10_act_126 rfl rfl ?_
  refine go_get (pc := 127) fX10_9 rfl (gz_b (by omega)) ((va_up_ne _ _ (gz_ne (by decide))).trans ((hw 32 (by decide) (by decide)).trans (wl_at (i := 32) rfl))) rfl dX10_act_127 ?_
  refine go_iload (pc := 130) dX10_act_130 rfl ?_
  refine go_iconst (pc := 132) (v := 2) dX10_act_132 (by decide) ?_
  refine go_iadd (pc := 133) dX10_act_133 ?_
  refine go_top (y := 402) (by decide) ?_
  refine go_iload_n (pc := 134) dX10_act_134 rfl rfl ?_
  refine go_iast (pc := 135) (gz_b (by omega)) (va_up_self _ _ _) (gv_in (by decide)) dX10_act_135 ?_
  refine go_w (va_up_up _ _ _ _) ?_
  refine go_aload_n (pc := 136) dX10_act_136 rfl rfl ?_
  refine go_get (pc := 137) fX10_9 rfl (gz_b (by omega)) ((va_up_ne _ _ (gz_ne (by decide))).trans ((hw 32 (by decide) (by decide)).trans (wl_at (i := 32) rfl))) rfl dX10_act_137 ?_
  refine go_iload (pc := 140) dX10_act_140 rfl ?_
  refine go_iconst (pc := 142) (v := 3) dX10_act_142 (by decide) ?_
  refine go_iadd (pc := 143) dX10_act_143 ?_
  refine go_top (y := 403) (by decide) ?_
  refine go_iload (pc := 144) dX10_act_144 rfl ?_
  refine go_iast (pc := 146) (gz_b (by omega)) (va_up_self _ _ _) (gv_in (by decide)) dX10_act_146 ?_
  refine go_w (va_up_up _ _ _ _) ?_
  refine go_aload_n (pc := 147) dX10_act_147 rfl rfl ?_
  refine go_get (pc := 148) fX10_9 rfl (gz_b (by omega)) ((va_up_ne _ _ (gz_ne (by decide))).trans ((hw 32 (by decide) (by decide)).trans (wl_at (i := 32) rfl))) rfl dX10_act_148 ?_
  refine go_iload (pc := 151) dX10_act_151 rfl ?_
  refine go_iconst (pc := 153) (v := 4) dX10_act_153 (by decide) ?_
  refine go_iadd (pc := 154) dX10_act_154 ?_
  refine go_top (y := 404) (by decide) ?_
  refine go_iload (pc := 155) dX10_act_155 rfl ?_
  refine go_iast (pc := 157) (gz_b (by omega)) (va_up_self _ _ _) (gv_in (by decide)) dX10_act_157 ?_
  refine go_w (va_up_up _ _ _ _) ?_
  refine go_aload_n (pc := 158) dX10_act_158 rfl rfl ?_
  refine go_get (pc := 159) fX10_9 rfl (gz_b (by omega)) ((va_up_ne _ _ (gz_ne (by decide))).trans ((hw 32 (by decide) (by decide)).trans (wl_at (i := 32) rfl))) rfl dX10_act_159 ?_
  refine go_bipush (pc := 162) (v := 11) dX10_act_162 (by decide) ?_
  refine go_dup2 (pc := 164) dX10_act_164 rfl rfl ?_
  refine go_iald (pc := 165) (gz_b (by omega)) (va_up_self _ _ _) (gv_in (by decide)) dX10_act_165 ?_
  refine go_top (y := 0) rfl ?_
  refine go_iconst (pc := 166) (v := 1) dX10_act_166 (by decide) ?_
  refine go_iadd (pc := 167) dX10_act_167 ?_
  refine go_top (y := 1) (by decide) ?_
  refine go_iast (pc := 168) (gz_b (by omega)) (va_up_self _ _ _) (gv_in (by decide)) dX10_act_168 ?_
  refine go_w (va_up_up _ _ _ _) ?_
  refine go_aload_n (pc := 169) dX10_act_169 rfl rfl ?_
  refine go_get (pc := 170) fX10_9 rfl (gz_b (by omega)) ((va_up_ne _ _ (gz_ne (by decide))).trans ((hw 32 (by decide) (by decide)).trans (wl_at (i := 32) rfl))) rfl dX10_act_170 ?_
  refine go_bipush (pc := 173) (v := 11) dX10_act_173 (by decide) ?_
  refine go_iald (pc := 175) (gz_b (by omega)) (va_up_self _ _ _) (gv_in (by decide)) dX10_act_175 ?_
  refine go_top (y := 1) rfl ?_
  exact go_iret (pc := 176) rfl dX10_act_176
theorem cm_act_10 {l : Launch} {G : gG} (x2 : Int32) (x3 : Int32) (x4 : Int32) (x5 : Int32) : CM l G mX10_act [.ref (G.2.1 + 32), .int 10, .int x2, .int x3, .int x4, .int x5] 1 := by
  intro n k w hn hw
  exact ⟨1, 25, _, by decide, by decide, cm_act_10_o x2 x3 x4 x5 hn hw⟩
set_option maxRecDepth 100000 in
set_option maxHeartbeats 4000000 in
theorem cX10_areKnown_12 {l : Launch} {G : gG} (x2 : Int32) (x3 : Int32) (x4 : Int32) {n k : Nat} {w : Nat → va_E} (hn : 42 ≤ n) (hw : ∀ i, 32 ≤ i → i < 42 → w (G.2.1 + i) = wl G.2.1 (LF G) (G.2.1 + i)) : Ct l G mX10_areKnown 2 45 [.int 11, .int x2, .int x3, .int x4] n k w (some (.int ((if 0 ≤ x2 ∧ x2 ≤ 7 then (1 : Int32) else 0))), n, k, w) := by
  refine Ct.of (by decide) (Nat.le_of_ble_eq_true rfl) ⟨Nat.le_refl _, Nat.le_refl _⟩ ?_
  show Go l G mX10_areKnown _ 0 [(0, .int 11), (1, .int x2), (2, .int x3), (3, .int x4)] [] n k w
  refine go_iload_n (pc := 0) dX10_areKnown_0 rfl rfl ?_
  refine go_tableIn (pc := 1) (off := 67) (tgt := 68) dX10_areKnown_1 (by decide) (by decide) (by decide) (by decide) ?_
  refine go_iload_n (pc := 68) dX10_areKnown_68 rfl rfl ?_
  refine go_callS_i (pc := 69) sX10_272 rfl (cX10_isRegister_2 x2 hn hw) rfl rfl (Nat.le_of_ble_eq_true rfl) ⟨Nat.le_of_ble_eq_true rfl, Nat.le_of_ble_eq_true rfl, (Nat.le_add_right _ _), (Nat.le_add_right _ _)⟩ dX10_areKnown_69 ?_
  exact go_zret (pc := 72) rfl (gz_nb _) dX10_areKnown_72
set_option maxRecDepth 100000 in
set_option maxHeartbeats 4000000 in
theorem cm_act_11_t {l : Launch} {G : gG} (x2 : Int32) (x3 : Int32) (x4 : Int32) (x5 : Int32) (c0 : (if 0 ≤ x2 ∧ x2 ≤ 7 then (1 : Int32) else 0) = 0) {n k : Nat} {w : Nat → va_E} (hn : 42 ≤ n) (hw : ∀ i, 32 ≤ i → i < 42 → w (G.2.1 + i) = wl G.2.1 (LF G) (G.2.1 + i)) : Ct l G mX10_act 3 68 [.ref (G.2.1 + 32), .int 11, .int x2, .int x3, .int x4, .int x5] n k w (some (.int ((-101))), n, k, w) := by
  refine Ct.of (by decide) (Nat.le_of_ble_eq_true rfl) ⟨Nat.le_refl _, Nat.le_refl _⟩ ?_
  show Go l G mX10_act _ 0 [(0, .ref (G.2.1 + 32)), (1, .int 11), (2, .int x2), (3, .int x3), (4, .int x4), (5, .int x5)] [] n k w
  refine go_iload_n (pc := 0) dX10_act_0 rfl rfl ?_
  refine go_iload_n (pc := 1) dX10_act_1 rfl rfl ?_
  refine go_iload_n (pc := 2) dX10_act_2 rfl rfl ?_
  refine go_iload (pc := 3) dX10_act_3 rfl ?_
  refine go_callS_i (pc := 5) sX10_275 rfl (cX10_areKnown_12 x2 x3 x4 hn hw) rfl rfl (Nat.le_of_ble_eq_true rfl) ⟨Nat.le_of_ble_eq_true rfl, Nat.le_of_ble_eq_true rfl, (Nat.le_add_right _ _), (Nat.le_add_right _ _)⟩ dX10_act_5 ?_
  refine go_if_ne_f (pc := 8) (tgt := 14) dX10_act_8 (by decide) c0 ?_
  refine go_bipush (pc := 11) (v := (-101)) dX10_act_11 (by decide) ?_
  exact go_iret (pc := 13) rfl dX10_act_13
set_option maxRecDepth 100000 in
set_option maxHeartbeats 4000000 in
theorem cm_act_11_f {l : Launch} {G : gG} (x2 : Int32) (x3 : Int32) (x4 : Int32) (x5 : Int32) (c0 : ¬ (if 0 ≤ x2 ∧ x2 ≤ 7 then (1 : Int32) else 0) = 0) {n k : Nat} {w : Nat → va_E} (hn : 42 ≤ n) (hw : ∀ i, 32 ≤ i → i < 42 → w (G.2.1 + i) = wl G.2.1 (LF G) (G.2.1 + i)) : Ct l G mX10_act 3 68 [.ref (G.2.1 + 32), .int 11, .int x2, .int x3, .int x4, .int x5] n k w (some (.int 1), n, k, (va_up w (G.2.1 + 33) (ai G 26100 (upd (upd (upd (upd (upd (upd (sx 256) (400 : Int32).toNatClampNeg 11) (401 : Int32).toNatClampNeg x2) (402 : Int32).toNatClampNeg x3) (403 : Int32).toNatClampNeg x4) (404 : Int32).toNatClampNeg x5) (11 : Int32).toNatClampNeg 1)))) := by
  refine Ct.of (by decide) (Nat.le_of_ble_eq_true rfl) ⟨Nat.le_refl _, Nat.le_refl _⟩ ?_
  show Go l G mX10_act _ 0 [(0, .ref (G.2.1 + 32)), (1, .int 11), (2, .int x2), (3, .int x3), (4, .int x4), (5, .int x5)] [] n k w
  refine go_iload_n (pc := 0) dX10_act_0 rfl rfl ?_
  refine go_iload_n (pc := 1) dX10_act_1 rfl rfl ?_
  refine go_iload_n (pc := 2) dX10_act_2 rfl rfl ?_
  refine go_iload (pc := 3) dX10_act_3 rfl ?_
  refine go_callS_i (pc := 5) sX10_275 rfl (cX10_areKnown_12 x2 x3 x4 hn hw) rfl rfl (Nat.le_of_ble_eq_true rfl) ⟨Nat.le_of_ble_eq_true rfl, Nat.le_of_ble_eq_true rfl, (Nat.le_add_right _ _), (Nat.le_add_right _ _)⟩ dX10_act_5 ?_
  refine go_if_ne_t (pc := 8) (tgt := 14) dX10_act_8 (by decide) c0 ?_
  refine go_iload_n (pc := 14) dX10_act_14 rfl rfl ?_
  refine go_i2l (pc := 15) dX10_act_15 ?_
  refine go_topl (y := 11) (by decide) ?_
  refine go_lconst (pc := 16) (v := 0) dX10_act_16 (by decide) ?_
  refine go_ldc2 (pc := 17) rfl qX10_279 dX10_act_17 ?_
  refine go_callS_i (pc := 20) sX10_63 rfl (ct_in 11 0 12) rfl rfl (Nat.le_of_ble_eq_true rfl) ⟨Nat.le_of_ble_eq_true rfl, Nat.le_of_ble_eq_true rfl, (Nat.le_add_right _ _), (Nat.le_add_right _ _)⟩ dX10_act_20 ?_
  refine go_top (y := 1) (by decide) ?_
  refine go_if_eq_f (pc := 23) (tgt := 75) dX10_act_23 (by decide) (by decide) ?_
  refine go_iload_n (pc := 26) dX10_act_26 rfl rfl ?_
  refine go_if_ne_t (pc := 27) (tgt := 57) dX10_act_27 (by decide) (by decide) ?_
  refine go_iload_n (pc := 57) dX10_act_57 rfl rfl ?_
  refine go_bipush (pc := 58) (v := 9) dX10_act_58 (by decide) ?_
  refine go_icmp_ne_t (pc := 60) (tgt := 78) dX10_act_60 (by decide) (by decide) ?_
  refine go_aload_n (pc := 78) dX10_act_78 rfl rfl ?_
  refine go_get (pc := 79) fX10_9 rfl (gz_b (by omega)) ((hw 32 (by decide) (by decide)).trans (wl_at (i := 32) rfl)) rfl dX10_act_79 ?_
  refine go_bipush (pc := 82) (v := 11) dX10_act_82 (by decide) ?_
  refine go_iald (pc := 84) (gz_b (by omega)) ((hw 33 (by decide) (by decide)).trans (wl_at (i := 33) rfl)) (gv_in (by decide)) dX10_act_84 ?_
  refine go_top (y := 0) rfl ?_
  refine go_bipush (pc := 85) (v := 40) dX10_act_85 (by decide) ?_
  refine go_icmp_ne_t (pc := 87) (tgt := 93) dX10_act_87 (by decide) (by decide) ?_
  refine go_sipush (pc := 93) (v := 400) dX10_act_93 (by decide) ?_
  refine go_iconst (pc := 96) (v := 5) dX10_act_96 (by decide) ?_
  refine go_aload_n (pc := 97) dX10_act_97 rfl rfl ?_
  refine go_get (pc := 98) fX10_9 rfl (gz_b (by omega)) ((hw 32 (by decide) (by decide)).trans (wl_at (i := 32) rfl)) rfl dX10_act_98 ?_
  refine go_bipush (pc := 101) (v := 11) dX10_act_101 (by decide) ?_
  refine go_iald (pc := 103) (gz_b (by omega)) ((hw 33 (by decide) (by decide)).trans (wl_at (i := 33) rfl)) (gv_in (by decide)) dX10_act_103 ?_
  refine go_top (y := 0) rfl ?_
  refine go_imul (pc := 104) dX10_act_104 ?_
  refine go_top (y := 0) (by decide) ?_
  refine go_iadd (pc := 105) dX10_act_105 ?_
  refine go_top (y := 400) (by decide) ?_
  refine go_istore (pc := 106) (lv' := [(6, .int 400), (0, .ref (G.2.1 + 32)), (1, .int 11), (2, .int x2), (3, .int x3), (4, .int x4), (5, .int x5)]) dX10_act_106 (by decide) rfl ?_
  refine go_aload_n (pc := 108) dX10_act_108 rfl rfl ?_
  refine go_get (pc := 109) fX10_9 rfl (gz_b (by omega)) ((hw 32 (by decide) (by decide)).trans (wl_at (i := 32) rfl)) rfl dX10_act_109 ?_
  refine go_iload (pc := 112) dX10_act_112 rfl ?_
  refine go_iload_n (pc := 114) dX10_act_114 rfl rfl ?_
  refine go_iast (pc := 115) (gz_b (by omega)) ((hw 33 (by decide) (by decide)).trans (wl_at (i := 33) rfl)) (gv_in (by decide)) dX10_act_115 ?_
  refine go_aload_n (pc := 116) dX10_act_116 rfl rfl ?_
  refine go_get (pc := 117) fX10_9 rfl (gz_b (by omega)) ((va_up_ne _ _ (gz_ne (by decide))).trans ((hw 32 (by decide) (by decide)).trans (wl_at (i := 32) rfl))) rfl dX10_act_117 ?_
  refine go_iload (pc := 120) dX10_act_120 rfl ?_
  refine go_iconst (pc := 122) (v := 1) dX10_act_122 (by decide) ?_
  refine go_iadd (pc := 123) dX10_act_123 ?_
  refine go_top (y := 401) (by decide) ?_
  refine go_iload_n (pc := 124) dX10_act_124 rfl rfl ?_
  refine go_iast (pc := 125) (gz_b (by omega)) (va_up_self _ _ _) (gv_in (by decide)) dX10_act_125 ?_
  refine go_w (va_up_up _ _ _ _) ?_
  refine go_aload_n (pc := 126) dX10_act_126 rfl rfl ?_
  refine go_get (pc := 127) fX10_9 rfl (gz_b (by omega)) ((va_up_ne _ _ (gz_ne (by decide))).trans ((hw 32 (by decide) (by decide)).trans (wl_at (i := 32) rfl))) rfl dX10_act_127 ?_
  refine go_iload (pc := 130) dX10_act_130 rfl ?_
  refine go_iconst (pc := 132) (v := 2) dX10_act_132 (by decide) ?_
  refine go_iadd (pc := 133) dX10_act_133 ?_
  refine go_top (y := 402) (by decide) ?_
  refine go_iload_n (pc := 134) dX10_act_134 rfl rfl ?_
  refine go_iast (pc := 135) (gz_b (by omega)) (va_up_self _ _ _) (gv_in (by decide)) dX10_act_135 ?_
  refine go_w (va_up_up _ _ _ _) ?_
  refine go_aload_n (pc := 136) dX10_act_136 rfl rfl ?_
  refine go_get (pc := 137) fX10_9 rfl (gz_b (by omega)) ((va_up_ne _ _ (gz_ne (by decide))).trans ((hw 32 (by decide) (by decide)).trans (wl_at (i := 32) rfl))) rfl dX10_act_137 ?_
  refine go_iload (pc := 140) dX10_act_140 rfl ?_
  refine go_iconst (pc := 142) (v := 3) dX10_act_142 (by decide) ?_
  refine go_iadd (pc := 143) dX10_act_143 ?_
  refine go_top (y := 403) (by decide) ?_
  refine go_iload (pc := 144) dX10_act_144 rfl ?_
  refine go_iast (pc := 146) (gz_b (by omega)) (va_up_self _ _ _) (gv_in (by decide)) dX10_act_146 ?_
  refine go_w (va_up_up _ _ _ _) ?_
  refine go_aload_n (pc := 147) dX10_act_147 rfl rfl ?_
  refine go_get (pc := 148) fX10_9 rfl (gz_b (by omega)) ((va_up_ne _ _ (gz_ne (by decide))).trans ((hw 32 (by decide) (by decide)).trans (wl_at (i := 32) rfl))) rfl dX10_act_148 ?_
  refine go_iload (pc := 151) dX10_act_151 rfl ?_
  refine go_iconst (pc := 153) (v := 4) dX10_act_153 (by decide) ?_
  refine go_iadd (pc := 154) dX10_act_154 ?_
  refine go_top (y := 404) (by decide) ?_
  refine go_iload (pc := 155) dX10_act_155 rfl ?_
  refine go_iast (pc := 157) (gz_b (by omega)) (va_up_self _ _ _) (gv_in (by decide)) dX10_act_157 ?_
  refine go_w (va_up_up _ _ _ _) ?_
  refine go_aload_n (pc := 158) dX10_act_158 rfl rfl ?_
  refine go_get (pc := 159) fX10_9 rfl (gz_b (by omega)) ((va_up_ne _ _ (gz_ne (by decide))).trans ((hw 32 (by decide) (by decide)).trans (wl_at (i := 32) rfl))) rfl dX10_act_159 ?_
  refine go_bipush (pc := 162) (v := 11) dX10_act_162 (by decide) ?_
  refine go_dup2 (pc := 164) dX10_act_164 rfl rfl ?_
  refine go_iald (pc := 165) (gz_b (by omega)) (va_up_self _ _ _) (gv_in (by decide)) dX10_act_165 ?_
  refine go_top (y := 0) rfl ?_
  refine go_iconst (pc := 166) (v := 1) dX10_act_166 (by decide) ?_
  refine go_iadd (pc := 167) dX10_act_167 ?_
  refine go_top (y := 1) (by decide) ?_
  refine go_iast (pc := 168) (gz_b (by omega)) (va_up_self _ _ _) (gv_in (by decide)) dX10_act_168 ?_
  refine go_w (va_up_up _ _ _ _) ?_
  refine go_aload_n (pc := 169) dX10_act_169 rfl rfl ?_
  refine go_get (pc := 170) fX10_9 rfl (gz_b (by omega)) ((va_up_ne _ _ (gz_ne (by decide))).trans ((hw 32 (by decide) (by decide)).trans (wl_at (i := 32) rfl))) rfl dX10_act_170 ?_
  refine go_bipush (pc := 173) (v := 11) dX10_act_173 (by decide) ?_
  refine go_iald (pc := 175) (gz_b (by omega)) (va_up_self _ _ _) (gv_in (by decide)) dX10_act_175 ?_
  refine go_top (y := 1) rfl ?_
  exact go_iret (pc := 176) rfl dX10_act_176
theorem cm_act_11 {l : Launch} {G : gG} (x2 : Int32) (x3 : Int32) (x4 : Int32) (x5 : Int32) : CM l G mX10_act [.ref (G.2.1 + 32), .int 11, .int x2, .int x3, .int x4, .int x5] ((if (if 0 ≤ x2 ∧ x2 ≤ 7 then (1 : Int32) else 0) = 0 then (-101) else 1)) := by
  intro n k w hn hw
  by_cases c0 : (if 0 ≤ x2 ∧ x2 ≤ 7 then (1 : Int32) else 0) = 0
  · rw [if_pos c0]
    exact ⟨3, 68, _, by decide, by decide, cm_act_11_t x2 x3 x4 x5 c0 hn hw⟩
  · rw [if_neg c0]
    exact ⟨3, 68, _, by decide, by decide, cm_act_11_f x2 x3 x4 x5 c0 hn hw⟩
set_option maxRecDepth 100000 in
set_option maxHeartbeats 4000000 in
theorem cX10_areKnown_13 {l : Launch} {G : gG} (x2 : Int32) (x3 : Int32) (x4 : Int32) {n k : Nat} {w : Nat → va_E} (hn : 42 ≤ n) (hw : ∀ i, 32 ≤ i → i < 42 → w (G.2.1 + i) = wl G.2.1 (LF G) (G.2.1 + i)) : Ct l G mX10_areKnown 2 45 [.int 12, .int x2, .int x3, .int x4] n k w (some (.int ((if (if 0 ≤ x2 ∧ x2 ≤ 3 then (1 : Int32) else 0) = 0 then (0 : Int32) else (if (if 0 ≤ x4 ∧ x4 ≤ 7 then (1 : Int32) else 0) = 0 then (0 : Int32) else 1)))), n, k, w) := by
  refine Ct.of (by decide) (Nat.le_of_ble_eq_true rfl) ⟨Nat.le_refl _, Nat.le_refl _⟩ ?_
  show Go l G mX10_areKnown _ 0 [(0, .int 12), (1, .int x2), (2, .int x3), (3, .int x4)] [] n k w
  refine go_iload_n (pc := 0) dX10_areKnown_0 rfl rfl ?_
  refine go_tableIn (pc := 1) (off := 132) (tgt := 133) dX10_areKnown_1 (by decide) (by decide) (by decide) (by decide) ?_
  refine go_iload_n (pc := 133) dX10_areKnown_133 rfl rfl ?_
  refine go_i2l (pc := 134) dX10_areKnown_134 ?_
  refine go_lconst (pc := 135) (v := 0) dX10_areKnown_135 (by decide) ?_
  refine go_ldc2 (pc := 136) rfl qX10_219 dX10_areKnown_136 ?_
  refine go_callS_i (pc := 139) sX10_63 rfl (ct_in x2.toInt64 0 3) rfl rfl (Nat.le_of_ble_eq_true rfl) ⟨Nat.le_of_ble_eq_true rfl, Nat.le_of_ble_eq_true rfl, (Nat.le_add_right _ _), (Nat.le_add_right _ _)⟩ dX10_areKnown_139 ?_
  refine go_top (y := (if 0 ≤ x2 ∧ x2 ≤ 3 then (1 : Int32) else 0)) (gi_in (by decide) (by decide)) ?_
  refine go_if_eq (pc := 142) (tgt := 156) dX10_areKnown_142 (by decide) (fun c0 => ?_) (fun c0 => ?_)
  · refine go_iconst (pc := 156) (v := 0) dX10_areKnown_156 (by decide) ?_
    refine go_eq (r' := (some (.int 0), _, _, _)) (by rw [if_pos c0]) ?_
    exact go_zret (pc := 157) rfl rfl dX10_areKnown_157
  · refine go_iload_n (pc := 145) dX10_areKnown_145 rfl rfl ?_
    refine go_callS_i (pc := 146) sX10_272 rfl (cX10_isRegister_3 x4 hn hw) rfl rfl (Nat.le_of_ble_eq_true rfl) ⟨Nat.le_of_ble_eq_true rfl, Nat.le_of_ble_eq_true rfl, (Nat.le_add_right _ _), (Nat.le_add_right _ _)⟩ dX10_areKnown_146 ?_
    refine go_if_eq (pc := 149) (tgt := 156) dX10_areKnown_149 (by decide) (fun c1 => ?_) (fun c1 => ?_)
    · refine go_iconst (pc := 156) (v := 0) dX10_areKnown_156 (by decide) ?_
      refine go_eq (r' := (some (.int 0), _, _, _)) (by rw [if_neg c0, if_pos c1]) ?_
      exact go_zret (pc := 157) rfl rfl dX10_areKnown_157
    · refine go_iconst (pc := 152) (v := 1) dX10_areKnown_152 (by decide) ?_
      refine go_goto (pc := 153) (tgt := 157) dX10_areKnown_153 (by decide) ?_
      refine go_eq (r' := (some (.int 1), _, _, _)) (by rw [if_neg c0, if_neg c1]) ?_
      exact go_zret (pc := 157) rfl rfl dX10_areKnown_157
set_option maxRecDepth 100000 in
set_option maxHeartbeats 4000000 in
theorem cm_act_12_t {l : Launch} {G : gG} (x2 : Int32) (x3 : Int32) (x4 : Int32) (x5 : Int32) (c0 : (if (if 0 ≤ x2 ∧ x2 ≤ 3 then (1 : Int32) else 0) = 0 then (0 : Int32) else (if (if 0 ≤ x4 ∧ x4 ≤ 7 then (1 : Int32) else 0) = 0 then (0 : Int32) else 1)) = 0) {n k : Nat} {w : Nat → va_E} (hn : 42 ≤ n) (hw : ∀ i, 32 ≤ i → i < 42 → w (G.2.1 + i) = wl G.2.1 (LF G) (G.2.1 + i)) : Ct l G mX10_act 3 68 [.ref (G.2.1 + 32), .int 12, .int x2, .int x3, .int x4, .int x5] n k w (some (.int ((-101))), n, k, w) := by
  refine Ct.of (by decide) (Nat.le_of_ble_eq_true rfl) ⟨Nat.le_refl _, Nat.le_refl _⟩ ?_
  show Go l G mX10_act _ 0 [(0, .ref (G.2.1 + 32)), (1, .int 12), (2, .int x2), (3, .int x3), (4, .int x4), (5, .int x5)] [] n k w
  refine go_iload_n (pc := 0) dX10_act_0 rfl rfl ?_
  refine go_iload_n (pc := 1) dX10_act_1 rfl rfl ?_
  refine go_iload_n (pc := 2) dX10_act_2 rfl rfl ?_
  refine go_iload (pc := 3) dX10_act_3 rfl ?_
  refine go_callS_i (pc := 5) sX10_275 rfl (cX10_areKnown_13 x2 x3 x4 hn hw) rfl rfl (Nat.le_of_ble_eq_true rfl) ⟨Nat.le_of_ble_eq_true rfl, Nat.le_of_ble_eq_true rfl, (Nat.le_add_right _ _), (Nat.le_add_right _ _)⟩ dX10_act_5 ?_
  refine go_if_ne_f (pc := 8) (tgt := 14) dX10_act_8 (by decide) c0 ?_
  refine go_bipush (pc := 11) (v := (-101)) dX10_act_11 (by decide) ?_
  exact go_iret (pc := 13) rfl dX10_act_13
set_option maxRecDepth 100000 in
set_option maxHeartbeats 4000000 in
theorem cm_act_12_f {l : Launch} {G : gG} (x2 : Int32) (x3 : Int32) (x4 : Int32) (x5 : Int32) (c0 : ¬ (if (if 0 ≤ x2 ∧ x2 ≤ 3 then (1 : Int32) else 0) = 0 then (0 : Int32) else (if (if 0 ≤ x4 ∧ x4 ≤ 7 then (1 : Int32) else 0) = 0 then (0 : Int32) else 1)) = 0) {n k : Nat} {w : Nat → va_E} (hn : 42 ≤ n) (hw : ∀ i, 32 ≤ i → i < 42 → w (G.2.1 + i) = wl G.2.1 (LF G) (G.2.1 + i)) : Ct l G mX10_act 3 68 [.ref (G.2.1 + 32), .int 12, .int x2, .int x3, .int x4, .int x5] n k w (some (.int 1), n, k, (va_up w (G.2.1 + 33) (ai G 26100 (upd (upd (upd (upd (upd (upd (sx 256) (400 : Int32).toNatClampNeg 12) (401 : Int32).toNatClampNeg x2) (402 : Int32).toNatClampNeg x3) (403 : Int32).toNatClampNeg x4) (404 : Int32).toNatClampNeg x5) (11 : Int32).toNatClampNeg 1)))) := by
  refine Ct.of (by decide) (Nat.le_of_ble_eq_true rfl) ⟨Nat.le_refl _, Nat.le_refl _⟩ ?_
  show Go l G mX10_act _ 0 [(0, .ref (G.2.1 + 32)), (1, .int 12), (2, .int x2), (3, .int x3), (4, .int x4), (5, .int x5)] [] n k w
  refine go_iload_n (pc := 0) dX10_act_0 rfl rfl ?_
  refine go_iload_n (pc := 1) dX10_act_1 rfl rfl ?_
  refine go_iload_n (pc := 2) dX10_act_2 rfl rfl ?_
  refine go_iload (pc := 3) dX10_act_3 rfl ?_
  refine go_callS_i (pc := 5) sX10_275 rfl (cX10_areKnown_13 x2 x3 x4 hn hw) rfl rfl (Nat.le_of_ble_eq_true rfl) ⟨Nat.le_of_ble_eq_true rfl, Nat.le_of_ble_eq_true rfl, (Nat.le_add_right _ _), (Nat.le_add_right _ _)⟩ dX10_act_5 ?_
  refine go_if_ne_t (pc := 8) (tgt := 14) dX10_act_8 (by decide) c0 ?_
  refine go_iload_n (pc := 14) dX10_act_14 rfl rfl ?_
  refine go_i2l (pc := 15) dX10_act_15 ?_
  refine go_topl (y := 12) (by decide) ?_
  refine go_lconst (pc := 16) (v := 0) dX10_act_16 (by decide) ?_
  refine go_ldc2 (pc := 17) rfl qX10_279 dX10_act_17 ?_
  refine go_callS_i (pc := 20) sX10_63 rfl (ct_in 12 0 12) rfl rfl (Nat.le_of_ble_eq_true rfl) ⟨Nat.le_of_ble_eq_true rfl, Nat.le_of_ble_eq_true rfl, (Nat.le_add_right _ _), (Nat.le_add_right _ _)⟩ dX10_act_20 ?_
  refine go_top (y := 1) (by decide) ?_
  refine go_if_eq_f (pc := 23) (tgt := 75) dX10_act_23 (by decide) (by decide) ?_
  refine go_iload_n (pc := 26) dX10_act_26 rfl rfl ?_
  refine go_if_ne_t (pc := 27) (tgt := 57) dX10_act_27 (by decide) (by decide) ?_
  refine go_iload_n (pc := 57) dX10_act_57 rfl rfl ?_
  refine go_bipush (pc := 58) (v := 9) dX10_act_58 (by decide) ?_
  refine go_icmp_ne_t (pc := 60) (tgt := 78) dX10_act_60 (by decide) (by decide) ?_
  refine go_aload_n (pc := 78) dX10_act_78 rfl rfl ?_
  refine go_get (pc := 79) fX10_9 rfl (gz_b (by omega)) ((hw 32 (by decide) (by decide)).trans (wl_at (i := 32) rfl)) rfl dX10_act_79 ?_
  refine go_bipush (pc := 82) (v := 11) dX10_act_82 (by decide) ?_
  refine go_iald (pc := 84) (gz_b (by omega)) ((hw 33 (by decide) (by decide)).trans (wl_at (i := 33) rfl)) (gv_in (by decide)) dX10_act_84 ?_
  refine go_top (y := 0) rfl ?_
  refine go_bipush (pc := 85) (v := 40) dX10_act_85 (by decide) ?_
  refine go_icmp_ne_t (pc := 87) (tgt := 93) dX10_act_87 (by decide) (by decide) ?_
  refine go_sipush (pc := 93) (v := 400) dX10_act_93 (by decide) ?_
  refine go_iconst (pc := 96) (v := 5) dX10_act_96 (by decide) ?_
  refine go_aload_n (pc := 97) dX10_act_97 rfl rfl ?_
  refine go_get (pc := 98) fX10_9 rfl (gz_b (by omega)) ((hw 32 (by decide) (by decide)).trans (wl_at (i := 32) rfl)) rfl dX10_act_98 ?_
  refine go_bipush (pc := 101) (v := 11) dX10_act_101 (by decide) ?_
  refine go_iald (pc := 103) (gz_b (by omega)) ((hw 33 (by decide) (by decide)).trans (wl_at (i := 33) rfl)) (gv_in (by decide)) dX10_act_103 ?_
  refine go_top (y := 0) rfl ?_
  refine go_imul (pc := 104) dX10_act_104 ?_
  refine go_top (y := 0) (by decide) ?_
  refine go_iadd (pc := 105) dX10_act_105 ?_
  refine go_top (y := 400) (by decide) ?_
  refine go_istore (pc := 106) (lv' := [(6, .int 400), (0, .ref (G.2.1 + 32)), (1, .int 12), (2, .int x2), (3, .int x3), (4, .int x4), (5, .int x5)]) dX10_act_106 (by decide) rfl ?_
  refine go_aload_n (pc := 108) dX10_act_108 rfl rfl ?_
  refine go_get (pc := 109) fX10_9 rfl (gz_b (by omega)) ((hw 32 (by decide) (by decide)).trans (wl_at (i := 32) rfl)) rfl dX10_act_109 ?_
  refine go_iload (pc := 112) dX10_act_112 rfl ?_
  refine go_iload_n (pc := 114) dX10_act_114 rfl rfl ?_
  refine go_iast (pc := 115) (gz_b (by omega)) ((hw 33 (by decide) (by decide)).trans (wl_at (i := 33) rfl)) (gv_in (by decide)) dX10_act_115 ?_
  refine go_aload_n (pc := 116) dX10_act_116 rfl rfl ?_
  refine go_get (pc := 117) fX10_9 rfl (gz_b (by omega)) ((va_up_ne _ _ (gz_ne (by decide))).trans ((hw 32 (by decide) (by decide)).trans (wl_at (i := 32) rfl))) rfl dX10_act_117 ?_
  refine go_iload (pc := 120) dX10_act_120 rfl ?_
  refine go_iconst (pc := 122) (v := 1) dX10_act_122 (by decide) ?_
  refine go_iadd (pc := 123) dX10_act_123 ?_
  refine go_top (y := 401) (by decide) ?_
  refine go_iload_n (pc := 124) dX10_act_124 rfl rfl ?_
  refine go_iast (pc := 125) (gz_b (by omega)) (va_up_self _ _ _) (gv_in (by decide)) dX10_act_125 ?_
  refine go_w (va_up_up _ _ _ _) ?_
  refine go_aload_n (pc := 126) dX10_act_126 rfl rfl ?_
  refine go_get (pc := 127) fX10_9 rfl (gz_b (by omega)) ((va_up_ne _ _ (gz_ne (by decide))).trans ((hw 32 (by decide) (by decide)).trans (wl_at (i := 32) rfl))) rfl dX10_act_127 ?_
  refine go_iload (pc := 130) dX10_act_130 rfl ?_
  refine go_iconst (pc := 132) (v := 2) dX10_act_132 (by decide) ?_
  refine go_iadd (pc := 133) dX10_act_133 ?_
  refine go_top (y := 402) (by decide) ?_
  refine go_iload_n (pc := 134) dX10_act_134 rfl rfl ?_
  refine go_iast (pc := 135) (gz_b (by omega)) (va_up_self _ _ _) (gv_in (by decide)) dX10_act_135 ?_
  refine go_w (va_up_up _ _ _ _) ?_
  refine go_aload_n (pc := 136) dX10_act_136 rfl rfl ?_
  refine go_get (pc := 137) fX10_9 rfl (gz_b (by omega)) ((va_up_ne _ _ (gz_ne (by decide))).trans ((hw 32 (by decide) (by decide)).trans (wl_at (i := 32) rfl))) rfl dX10_act_137 ?_
  refine go_iload (pc := 140) dX10_act_140 rfl ?_
  refine go_iconst (pc := 142) (v := 3) dX10_act_142 (by decide) ?_
  refine go_iadd (pc := 143) dX10_act_143 ?_
  refine go_top (y := 403) (by decide) ?_
  refine go_iload (pc := 144) dX10_act_144 rfl ?_
  refine go_iast (pc := 146) (gz_b (by omega)) (va_up_self _ _ _) (gv_in (by decide)) dX10_act_146 ?_
  refine go_w (va_up_up _ _ _ _) ?_
  refine go_aload_n (pc := 147) dX10_act_147 rfl rfl ?_
  refine go_get (pc := 148) fX10_9 rfl (gz_b (by omega)) ((va_up_ne _ _ (gz_ne (by decide))).trans ((hw 32 (by decide) (by decide)).trans (wl_at (i := 32) rfl))) rfl dX10_act_148 ?_
  refine go_iload (pc := 151) dX10_act_151 rfl ?_
  refine go_iconst (pc := 153) (v := 4) dX10_act_153 (by decide) ?_
  refine go_iadd (pc := 154) dX10_act_154 ?_
  refine go_top (y := 404) (by decide) ?_
  refine go_iload (pc := 155) dX10_act_155 rfl ?_
  refine go_iast (pc := 157) (gz_b (by omega)) (va_up_self _ _ _) (gv_in (by decide)) dX10_act_157 ?_
  refine go_w (va_up_up _ _ _ _) ?_
  refine go_aload_n (pc := 158) dX10_act_158 rfl rfl ?_
  refine go_get (pc := 159) fX10_9 rfl (gz_b (by omega)) ((va_up_ne _ _ (gz_ne (by decide))).trans ((hw 32 (by decide) (by decide)).trans (wl_at (i := 32) rfl))) rfl dX10_act_159 ?_
  refine go_bipush (pc := 162) (v := 11) dX10_act_162 (by decide) ?_
  refine go_dup2 (pc := 164) dX10_act_164 rfl rfl ?_
  refine go_iald (pc := 165) (gz_b (by omega)) (va_up_self _ _ _) (gv_in (by decide)) dX10_act_165 ?_
  refine go_top (y := 0) rfl ?_
  refine go_iconst (pc := 166) (v := 1) dX10_act_166 (by decide) ?_
  refine go_iadd (pc := 167) dX10_act_167 ?_
  refine go_top (y := 1) (by decide) ?_
  refine go_iast (pc := 168) (gz_b (by omega)) (va_up_self _ _ _) (gv_in (by decide)) dX10_act_168 ?_
  refine go_w (va_up_up _ _ _ _) ?_
  refine go_aload_n (pc := 169) dX10_act_169 rfl rfl ?_
  refine go_get (pc := 170) fX10_9 rfl (gz_b (by omega)) ((va_up_ne _ _ (gz_ne (by decide))).trans ((hw 32 (by decide) (by decide)).trans (wl_at (i := 32) rfl))) rfl dX10_act_170 ?_
  refine go_bipush (pc := 173) (v := 11) dX10_act_173 (by decide) ?_
  refine go_iald (pc := 175) (gz_b (by omega)) (va_up_self _ _ _) (gv_in (by decide)) dX10_act_175 ?_
  refine go_top (y := 1) rfl ?_
  exact go_iret (pc := 176) rfl dX10_act_176
theorem cm_act_12 {l : Launch} {G : gG} (x2 : Int32) (x3 : Int32) (x4 : Int32) (x5 : Int32) : CM l G mX10_act [.ref (G.2.1 + 32), .int 12, .int x2, .int x3, .int x4, .int x5] ((if (if (if 0 ≤ x2 ∧ x2 ≤ 3 then (1 : Int32) else 0) = 0 then (0 : Int32) else (if (if 0 ≤ x4 ∧ x4 ≤ 7 then (1 : Int32) else 0) = 0 then (0 : Int32) else 1)) = 0 then (-101) else 1)) := by
  intro n k w hn hw
  by_cases c0 : (if (if 0 ≤ x2 ∧ x2 ≤ 3 then (1 : Int32) else 0) = 0 then (0 : Int32) else (if (if 0 ≤ x4 ∧ x4 ≤ 7 then (1 : Int32) else 0) = 0 then (0 : Int32) else 1)) = 0
  · rw [if_pos c0]
    exact ⟨3, 68, _, by decide, by decide, cm_act_12_t x2 x3 x4 x5 c0 hn hw⟩
  · rw [if_neg c0]
    exact ⟨3, 68, _, by decide, by decide, cm_act_12_f x2 x3 x4 x5 c0 hn hw⟩
set_option maxRecDepth 100000 in
set_option maxHeartbeats 4000000 in
theorem cX10_areKnown_14 {l : Launch} {G : gG} (x1 : Int32) (x2 : Int32) (x3 : Int32) (x4 : Int32) (k0 : x1 < 0) (k2 : (if 0 ≤ x1 ∧ x1 ≤ 12 then (1 : Int32) else 0) = 0) {n k : Nat} {w : Nat → va_E} (hn : 42 ≤ n) (hw : ∀ i, 32 ≤ i → i < 42 → w (G.2.1 + i) = wl G.2.1 (LF G) (G.2.1 + i)) : Ct l G mX10_areKnown 0 0 [.int x1, .int x2, .int x3, .int x4] n k w (some (.int 1), n, k, w) := by
  refine Ct.of (by decide) (Nat.le_of_ble_eq_true rfl) ⟨Nat.le_refl _, Nat.le_refl _⟩ ?_
  show Go l G mX10_areKnown _ 0 [(0, .int x1), (1, .int x2), (2, .int x3), (3, .int x4)] [] n k w
  refine go_iload_n (pc := 0) dX10_areKnown_0 rfl rfl ?_
  refine go_tableOut (pc := 1) (tgt := 158) dX10_areKnown_1 (Or.inl (gt_lo k0 (by decide))) (by decide) ?_
  refine go_iconst (pc := 158) (v := 1) dX10_areKnown_158 (by decide) ?_
  exact go_zret (pc := 159) rfl rfl dX10_areKnown_159
set_option maxRecDepth 100000 in
set_option maxHeartbeats 4000000 in
theorem cm_act_lo_o {l : Launch} {G : gG} (x1 : Int32) (x2 : Int32) (x3 : Int32) (x4 : Int32) (x5 : Int32) (k0 : x1 < 0) (k2 : (if 0 ≤ x1 ∧ x1 ≤ 12 then (1 : Int32) else 0) = 0) {n k : Nat} {w : Nat → va_E} (hn : 42 ≤ n) (hw : ∀ i, 32 ≤ i → i < 42 → w (G.2.1 + i) = wl G.2.1 (LF G) (G.2.1 + i)) : Ct l G mX10_act 1 25 [.ref (G.2.1 + 32), .int x1, .int x2, .int x3, .int x4, .int x5] n k w (some (.int ((-102))), n, k, w) := by
  refine Ct.of (by decide) (Nat.le_of_ble_eq_true rfl) ⟨Nat.le_refl _, Nat.le_refl _⟩ ?_
  show Go l G mX10_act _ 0 [(0, .ref (G.2.1 + 32)), (1, .int x1), (2, .int x2), (3, .int x3), (4, .int x4), (5, .int x5)] [] n k w
  refine go_iload_n (pc := 0) dX10_act_0 rfl rfl ?_
  refine go_iload_n (pc := 1) dX10_act_1 rfl rfl ?_
  refine go_iload_n (pc := 2) dX10_act_2 rfl rfl ?_
  refine go_iload (pc := 3) dX10_act_3 rfl ?_
  refine go_callS_i (pc := 5) sX10_275 rfl (cX10_areKnown_14 x1 x2 x3 x4 k0 k2 hn hw) rfl rfl (Nat.le_of_ble_eq_true rfl) ⟨Nat.le_of_ble_eq_true rfl, Nat.le_of_ble_eq_true rfl, (Nat.le_add_right _ _), (Nat.le_add_right _ _)⟩ dX10_act_5 ?_
  refine go_if_ne_t (pc := 8) (tgt := 14) dX10_act_8 (by decide) (by decide) ?_
  refine go_iload_n (pc := 14) dX10_act_14 rfl rfl ?_
  refine go_i2l (pc := 15) dX10_act_15 ?_
  refine go_lconst (pc := 16) (v := 0) dX10_act_16 (by decide) ?_
  refine go_ldc2 (pc := 17) rfl qX10_279 dX10_act_17 ?_
  refine go_callS_i (pc := 20) sX10_63 rfl (ct_in x1.toInt64 0 12) rfl rfl (Nat.le_of_ble_eq_true rfl) ⟨Nat.le_of_ble_eq_true rfl, Nat.le_of_ble_eq_true rfl, (Nat.le_add_right _ _), (Nat.le_add_right _ _)⟩ dX10_act_20 ?_
  refine go_top (y := (if 0 ≤ x1 ∧ x1 ≤ 12 then (1 : Int32) else 0)) (gi_in (by decide) (by decide)) ?_
  refine go_if_eq_t (pc := 23) (tgt := 75) dX10_act_23 (by decide) k2 ?_
  refine go_bipush (pc := 75) (v := (-102)) dX10_act_75 (by decide) ?_
  exact go_iret (pc := 77) rfl dX10_act_77
theorem cm_act_lo {l : Launch} {G : gG} (x1 : Int32) (x2 : Int32) (x3 : Int32) (x4 : Int32) (x5 : Int32) (k0 : x1 < 0) (k2 : (if 0 ≤ x1 ∧ x1 ≤ 12 then (1 : Int32) else 0) = 0) : CM l G mX10_act [.ref (G.2.1 + 32), .int x1, .int x2, .int x3, .int x4, .int x5] ((-102)) := by
  intro n k w hn hw
  exact ⟨1, 25, _, by decide, by decide, cm_act_lo_o x1 x2 x3 x4 x5 k0 k2 hn hw⟩
set_option maxRecDepth 100000 in
set_option maxHeartbeats 4000000 in
theorem cX10_areKnown_15 {l : Launch} {G : gG} (x1 : Int32) (x2 : Int32) (x3 : Int32) (x4 : Int32) (k0 : ¬ x1 < 0) (k1 : ¬ x1 ≤ 12) (k2 : (if 0 ≤ x1 ∧ x1 ≤ 12 then (1 : Int32) else 0) = 0) {n k : Nat} {w : Nat → va_E} (hn : 42 ≤ n) (hw : ∀ i, 32 ≤ i → i < 42 → w (G.2.1 + i) = wl G.2.1 (LF G) (G.2.1 + i)) : Ct l G mX10_areKnown 0 0 [.int x1, .int x2, .int x3, .int x4] n k w (some (.int 1), n, k, w) := by
  refine Ct.of (by decide) (Nat.le_of_ble_eq_true rfl) ⟨Nat.le_refl _, Nat.le_refl _⟩ ?_
  show Go l G mX10_areKnown _ 0 [(0, .int x1), (1, .int x2), (2, .int x3), (3, .int x4)] [] n k w
  refine go_iload_n (pc := 0) dX10_areKnown_0 rfl rfl ?_
  refine go_tableOut (pc := 1) (tgt := 158) dX10_areKnown_1 (Or.inr (gt_hi (Int32.not_le.mp k1) (by decide))) (by decide) ?_
  refine go_iconst (pc := 158) (v := 1) dX10_areKnown_158 (by decide) ?_
  exact go_zret (pc := 159) rfl rfl dX10_areKnown_159
set_option maxRecDepth 100000 in
set_option maxHeartbeats 4000000 in
theorem cm_act_hi_o {l : Launch} {G : gG} (x1 : Int32) (x2 : Int32) (x3 : Int32) (x4 : Int32) (x5 : Int32) (k0 : ¬ x1 < 0) (k1 : ¬ x1 ≤ 12) (k2 : (if 0 ≤ x1 ∧ x1 ≤ 12 then (1 : Int32) else 0) = 0) {n k : Nat} {w : Nat → va_E} (hn : 42 ≤ n) (hw : ∀ i, 32 ≤ i → i < 42 → w (G.2.1 + i) = wl G.2.1 (LF G) (G.2.1 + i)) : Ct l G mX10_act 1 25 [.ref (G.2.1 + 32), .int x1, .int x2, .int x3, .int x4, .int x5] n k w (some (.int ((-102))), n, k, w) := by
  refine Ct.of (by decide) (Nat.le_of_ble_eq_true rfl) ⟨Nat.le_refl _, Nat.le_refl _⟩ ?_
  show Go l G mX10_act _ 0 [(0, .ref (G.2.1 + 32)), (1, .int x1), (2, .int x2), (3, .int x3), (4, .int x4), (5, .int x5)] [] n k w
  refine go_iload_n (pc := 0) dX10_act_0 rfl rfl ?_
  refine go_iload_n (pc := 1) dX10_act_1 rfl rfl ?_
  refine go_iload_n (pc := 2) dX10_act_2 rfl rfl ?_
  refine go_iload (pc := 3) dX10_act_3 rfl ?_
  refine go_callS_i (pc := 5) sX10_275 rfl (cX10_areKnown_15 x1 x2 x3 x4 k0 k1 k2 hn hw) rfl rfl (Nat.le_of_ble_eq_true rfl) ⟨Nat.le_of_ble_eq_true rfl, Nat.le_of_ble_eq_true rfl, (Nat.le_add_right _ _), (Nat.le_add_right _ _)⟩ dX10_act_5 ?_
  refine go_if_ne_t (pc := 8) (tgt := 14) dX10_act_8 (by decide) (by decide) ?_
  refine go_iload_n (pc := 14) dX10_act_14 rfl rfl ?_
  refine go_i2l (pc := 15) dX10_act_15 ?_
  refine go_lconst (pc := 16) (v := 0) dX10_act_16 (by decide) ?_
  refine go_ldc2 (pc := 17) rfl qX10_279 dX10_act_17 ?_
  refine go_callS_i (pc := 20) sX10_63 rfl (ct_in x1.toInt64 0 12) rfl rfl (Nat.le_of_ble_eq_true rfl) ⟨Nat.le_of_ble_eq_true rfl, Nat.le_of_ble_eq_true rfl, (Nat.le_add_right _ _), (Nat.le_add_right _ _)⟩ dX10_act_20 ?_
  refine go_top (y := (if 0 ≤ x1 ∧ x1 ≤ 12 then (1 : Int32) else 0)) (gi_in (by decide) (by decide)) ?_
  refine go_if_eq_t (pc := 23) (tgt := 75) dX10_act_23 (by decide) k2 ?_
  refine go_bipush (pc := 75) (v := (-102)) dX10_act_75 (by decide) ?_
  exact go_iret (pc := 77) rfl dX10_act_77
theorem cm_act_hi {l : Launch} {G : gG} (x1 : Int32) (x2 : Int32) (x3 : Int32) (x4 : Int32) (x5 : Int32) (k0 : ¬ x1 < 0) (k1 : ¬ x1 ≤ 12) (k2 : (if 0 ≤ x1 ∧ x1 ≤ 12 then (1 : Int32) else 0) = 0) : CM l G mX10_act [.ref (G.2.1 + 32), .int x1, .int x2, .int x3, .int x4, .int x5] ((-102)) := by
  intro n k w hn hw
  exact ⟨1, 25, _, by decide, by decide, cm_act_hi_o x1 x2 x3 x4 x5 k0 k1 k2 hn hw⟩

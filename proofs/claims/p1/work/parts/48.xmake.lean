/-! public methods on the fresh world, laid by wip/tools/p1gen.py -/
set_option maxRecDepth 100000 in
set_option maxHeartbeats 4000000 in
theorem cX2_isCounted_2 {l : Launch} {G : gG} : Ct l G mX2_isCounted 0 0 [.int 0] 42 90324 (wl G.2.1 (LF G)) (some (.int 0), 42, 90324, (wl G.2.1 (LF G))) := by
  refine Ct.of (by decide) (Nat.le_of_ble_eq_true rfl) ⟨Nat.le_refl _, Nat.le_refl _⟩ ?_
  show Go l G mX2_isCounted _ 0 [(0, .int 0)] [] 42 90324 (wl G.2.1 (LF G))
  refine go_iload_n (pc := 0) dX2_isCounted_0 rfl rfl ?_
  refine go_iconst (pc := 1) (v := 1) dX2_isCounted_1 (by decide) ?_
  refine go_icmp_eq_f (pc := 2) (tgt := 15) dX2_isCounted_2 (by decide) (by decide) ?_
  refine go_iload_n (pc := 5) dX2_isCounted_5 rfl rfl ?_
  refine go_iconst (pc := 6) (v := 2) dX2_isCounted_6 (by decide) ?_
  refine go_icmp_eq_f (pc := 7) (tgt := 15) dX2_isCounted_7 (by decide) (by decide) ?_
  refine go_iload_n (pc := 10) dX2_isCounted_10 rfl rfl ?_
  refine go_iconst (pc := 11) (v := 5) dX2_isCounted_11 (by decide) ?_
  refine go_icmp_ne_t (pc := 12) (tgt := 19) dX2_isCounted_12 (by decide) (by decide) ?_
  refine go_iconst (pc := 19) (v := 0) dX2_isCounted_19 (by decide) ?_
  exact go_zret (pc := 20) rfl rfl dX2_isCounted_20
set_option maxRecDepth 100000 in
set_option maxHeartbeats 4000000 in
theorem cX9_isOutsideOfMaking_2 {l : Launch} {G : gG} (x2 : Int32) : Ct l G mX9_isOutsideOfMaking 1 20 [.int 0, .int x2] 42 90324 (wl G.2.1 (LF G)) (some (.int 0), 42, 90324, (wl G.2.1 (LF G))) := by
  refine Ct.of (by decide) (Nat.le_of_ble_eq_true rfl) ⟨Nat.le_refl _, Nat.le_refl _⟩ ?_
  show Go l G mX9_isOutsideOfMaking _ 0 [(0, .int 0), (1, .int x2)] [] 42 90324 (wl G.2.1 (LF G))
  refine go_iload_n (pc := 0) dX9_isOutsideOfMaking_0 rfl rfl ?_
  refine go_if_lt_f (pc := 1) (tgt := 24) dX9_isOutsideOfMaking_1 (by decide) (by decide) ?_
  refine go_iload_n (pc := 4) dX9_isOutsideOfMaking_4 rfl rfl ?_
  refine go_bipush (pc := 5) (v := 6) dX9_isOutsideOfMaking_5 (by decide) ?_
  refine go_icmp_ge_f (pc := 7) (tgt := 24) dX9_isOutsideOfMaking_7 (by decide) (by decide) ?_
  refine go_iload_n (pc := 10) dX9_isOutsideOfMaking_10 rfl rfl ?_
  refine go_callS_i (pc := 11) sX9_326 rfl (cX2_isCounted_2) rfl rfl (Nat.le_of_ble_eq_true rfl) ⟨Nat.le_of_ble_eq_true rfl, Nat.le_of_ble_eq_true rfl, (Nat.le_add_right _ _), (Nat.le_add_right _ _)⟩ dX9_isOutsideOfMaking_11 ?_
  refine go_if_eq_t (pc := 14) (tgt := 28) dX9_isOutsideOfMaking_14 (by decide) (by decide) ?_
  refine go_iconst (pc := 28) (v := 0) dX9_isOutsideOfMaking_28 (by decide) ?_
  exact go_zret (pc := 29) rfl rfl dX9_isOutsideOfMaking_29
set_option maxRecDepth 100000 in
set_option maxHeartbeats 4000000 in
theorem cX2_intsFor_1 {l : Launch} {G : gG} : Ct l G mX2_intsFor 0 0 [.int 0, .int 0] 42 90324 (wl G.2.1 (LF G)) (some (.int 3), 42, 90324, (wl G.2.1 (LF G))) := by
  refine Ct.of (by decide) (Nat.le_of_ble_eq_true rfl) ⟨Nat.le_refl _, Nat.le_refl _⟩ ?_
  show Go l G mX2_intsFor _ 0 [(0, .int 0), (1, .int 0)] [] 42 90324 (wl G.2.1 (LF G))
  refine go_iload_n (pc := 0) dX2_intsFor_0 rfl rfl ?_
  refine go_tableOut (pc := 1) (tgt := 56) dX2_intsFor_1 (by decide) (by decide) ?_
  refine go_iconst (pc := 56) (v := 3) dX2_intsFor_56 (by decide) ?_
  exact go_iret (pc := 57) rfl dX2_intsFor_57
set_option maxRecDepth 100000 in
set_option maxHeartbeats 4000000 in
theorem cX2_isCounted_3 {l : Launch} {G : gG} : Ct l G mX2_isCounted 0 0 [.int 0] 42 90324 (wl G.2.1 [ob 9 [.ref (G.2.1 + 1), .ref (G.2.1 + 23), .ref (G.2.1 + 27), .ref (G.2.1 + 28), .ref (G.2.1 + 22), .int 0, .int 0, .null, .int 0, .null, .int 0], ob 6 [.ref (G.2.1 + 2), .ref (G.2.1 + 6), .ref (G.2.1 + 12), .ref (G.2.1 + 14), .ref (G.2.1 + 17), .ref (G.2.1 + 20), .ref (G.2.1 + 21)], ob 2 [.int 256, .int 0, .int 0, .int 0, .ref (G.2.1 + 3), .ref (G.2.1 + 4), .ref (G.2.1 + 5)], ai G 256 (upd (fun _ => 0) (0 : Int32).toNatClampNeg 0), ai G 500 (fun _ => (-1)), ai G 500 (fun _ => 0), ob 3 [.int 0, .int 0, .int 0, .int 0, .ref (G.2.1 + 7), .ref (G.2.1 + 8), .ref (G.2.1 + 9), .ref (G.2.1 + 10), .ref (G.2.1 + 11)], ai G 500 (fun _ => 0), ai G 500 (fun _ => 0), ai G 500 (fun _ => 0), ai G 500 (fun _ => 0), ai G 500 (fun _ => 0), ob 8 [.int 0, .int 0, .int 0, .int 0, .int 0, .int 0, .ref (G.2.1 + 13)], ai G 300 (fun _ => 0), ob 4 [.int 0, .ref (G.2.1 + 15), .ref (G.2.1 + 16)], ai G 1295 (fun _ => 0), ai G 1295 (fun _ => 0), ob 5 [.int 0, .int 0, .int 0, .int 0, .ref (G.2.1 + 18), .ref (G.2.1 + 19)], ai G 200 (fun _ => 0), ai G 8 (fun _ => (-1)), ai G 24 (fun _ => (-1)), ai G 32 (fun _ => (-1)), ai G 14 (fun _ => 0), ob 7 [.ref (G.2.1 + 1), .ref (G.2.1 + 2), .ref (G.2.1 + 6), .ref (G.2.1 + 22), .ref (G.2.1 + 24), .int 0, .ref (G.2.1 + 25), .ref (G.2.1 + 26), .int 0], ai G 500 (fun _ => 0), ai G 500 (fun _ => 0), ai G 500 (fun _ => 0), ob 0 [.ref (G.2.1 + 1), .ref (G.2.1 + 2), .ref (G.2.1 + 23), .int 0], ob 1 [.ref (G.2.1 + 29), .int 0, .int 0, .ref (G.2.1 + 30), .ref (G.2.1 + 31)], ai G 0 (fun _ => 0), ai G 500 (fun _ => 0), ai G 501 (fun _ => 0), ob 10 [.ref (G.2.1 + 33), .ref (G.2.1 + 34), .ref (G.2.1 + 35), .int 0, .int 0, .int 0, .int 0, .int 0, .ref (G.2.1 + 36), .ref (G.2.1 + 37), .ref (G.2.1 + 38), .ref (G.2.1 + 39), .int 0, .ref (G.2.1 + 40), .int 0, .ref (G.2.1 + 41)], ai G 26100 (sx 256), ai G 26100 (fun _ => 0), ai G 26100 (fun _ => 0), ai G 14 (fun _ => 0), ai G 500 (fun _ => 0), ai G 500 (fun _ => 0), az G 500 (fun _ => 0), ai G 501 (fun _ => 0), ai G 500 (fun _ => 0)]) (some (.int 0), 42, 90324, (wl G.2.1 [ob 9 [.ref (G.2.1 + 1), .ref (G.2.1 + 23), .ref (G.2.1 + 27), .ref (G.2.1 + 28), .ref (G.2.1 + 22), .int 0, .int 0, .null, .int 0, .null, .int 0], ob 6 [.ref (G.2.1 + 2), .ref (G.2.1 + 6), .ref (G.2.1 + 12), .ref (G.2.1 + 14), .ref (G.2.1 + 17), .ref (G.2.1 + 20), .ref (G.2.1 + 21)], ob 2 [.int 256, .int 0, .int 0, .int 0, .ref (G.2.1 + 3), .ref (G.2.1 + 4), .ref (G.2.1 + 5)], ai G 256 (upd (fun _ => 0) (0 : Int32).toNatClampNeg 0), ai G 500 (fun _ => (-1)), ai G 500 (fun _ => 0), ob 3 [.int 0, .int 0, .int 0, .int 0, .ref (G.2.1 + 7), .ref (G.2.1 + 8), .ref (G.2.1 + 9), .ref (G.2.1 + 10), .ref (G.2.1 + 11)], ai G 500 (fun _ => 0), ai G 500 (fun _ => 0), ai G 500 (fun _ => 0), ai G 500 (fun _ => 0), ai G 500 (fun _ => 0), ob 8 [.int 0, .int 0, .int 0, .int 0, .int 0, .int 0, .ref (G.2.1 + 13)], ai G 300 (fun _ => 0), ob 4 [.int 0, .ref (G.2.1 + 15), .ref (G.2.1 + 16)], ai G 1295 (fun _ => 0), ai G 1295 (fun _ => 0), ob 5 [.int 0, .int 0, .int 0, .int 0, .ref (G.2.1 + 18), .ref (G.2.1 + 19)], ai G 200 (fun _ => 0), ai G 8 (fun _ => (-1)), ai G 24 (fun _ => (-1)), ai G 32 (fun _ => (-1)), ai G 14 (fun _ => 0), ob 7 [.ref (G.2.1 + 1), .ref (G.2.1 + 2), .ref (G.2.1 + 6), .ref (G.2.1 + 22), .ref (G.2.1 + 24), .int 0, .ref (G.2.1 + 25), .ref (G.2.1 + 26), .int 0], ai G 500 (fun _ => 0), ai G 500 (fun _ => 0), ai G 500 (fun _ => 0), ob 0 [.ref (G.2.1 + 1), .ref (G.2.1 + 2), .ref (G.2.1 + 23), .int 0], ob 1 [.ref (G.2.1 + 29), .int 0, .int 0, .ref (G.2.1 + 30), .ref (G.2.1 + 31)], ai G 0 (fun _ => 0), ai G 500 (fun _ => 0), ai G 501 (fun _ => 0), ob 10 [.ref (G.2.1 + 33), .ref (G.2.1 + 34), .ref (G.2.1 + 35), .int 0, .int 0, .int 0, .int 0, .int 0, .ref (G.2.1 + 36), .ref (G.2.1 + 37), .ref (G.2.1 + 38), .ref (G.2.1 + 39), .int 0, .ref (G.2.1 + 40), .int 0, .ref (G.2.1 + 41)], ai G 26100 (sx 256), ai G 26100 (fun _ => 0), ai G 26100 (fun _ => 0), ai G 14 (fun _ => 0), ai G 500 (fun _ => 0), ai G 500 (fun _ => 0), az G 500 (fun _ => 0), ai G 501 (fun _ => 0), ai G 500 (fun _ => 0)])) := by
  refine Ct.of (by decide) (Nat.le_of_ble_eq_true rfl) ⟨Nat.le_refl _, Nat.le_refl _⟩ ?_
  show Go l G mX2_isCounted _ 0 [(0, .int 0)] [] 42 90324 (wl G.2.1 [ob 9 [.ref (G.2.1 + 1), .ref (G.2.1 + 23), .ref (G.2.1 + 27), .ref (G.2.1 + 28), .ref (G.2.1 + 22), .int 0, .int 0, .null, .int 0, .null, .int 0], ob 6 [.ref (G.2.1 + 2), .ref (G.2.1 + 6), .ref (G.2.1 + 12), .ref (G.2.1 + 14), .ref (G.2.1 + 17), .ref (G.2.1 + 20), .ref (G.2.1 + 21)], ob 2 [.int 256, .int 0, .int 0, .int 0, .ref (G.2.1 + 3), .ref (G.2.1 + 4), .ref (G.2.1 + 5)], ai G 256 (upd (fun _ => 0) (0 : Int32).toNatClampNeg 0), ai G 500 (fun _ => (-1)), ai G 500 (fun _ => 0), ob 3 [.int 0, .int 0, .int 0, .int 0, .ref (G.2.1 + 7), .ref (G.2.1 + 8), .ref (G.2.1 + 9), .ref (G.2.1 + 10), .ref (G.2.1 + 11)], ai G 500 (fun _ => 0), ai G 500 (fun _ => 0), ai G 500 (fun _ => 0), ai G 500 (fun _ => 0), ai G 500 (fun _ => 0), ob 8 [.int 0, .int 0, .int 0, .int 0, .int 0, .int 0, .ref (G.2.1 + 13)], ai G 300 (fun _ => 0), ob 4 [.int 0, .ref (G.2.1 + 15), .ref (G.2.1 + 16)], ai G 1295 (fun _ => 0), ai G 1295 (fun _ => 0), ob 5 [.int 0, .int 0, .int 0, .int 0, .ref (G.2.1 + 18), .ref (G.2.1 + 19)], ai G 200 (fun _ => 0), ai G 8 (fun _ => (-1)), ai G 24 (fun _ => (-1)), ai G 32 (fun _ => (-1)), ai G 14 (fun _ => 0), ob 7 [.ref (G.2.1 + 1), .ref (G.2.1 + 2), .ref (G.2.1 + 6), .ref (G.2.1 + 22), .ref (G.2.1 + 24), .int 0, .ref (G.2.1 + 25), .ref (G.2.1 + 26), .int 0], ai G 500 (fun _ => 0), ai G 500 (fun _ => 0), ai G 500 (fun _ => 0), ob 0 [.ref (G.2.1 + 1), .ref (G.2.1 + 2), .ref (G.2.1 + 23), .int 0], ob 1 [.ref (G.2.1 + 29), .int 0, .int 0, .ref (G.2.1 + 30), .ref (G.2.1 + 31)], ai G 0 (fun _ => 0), ai G 500 (fun _ => 0), ai G 501 (fun _ => 0), ob 10 [.ref (G.2.1 + 33), .ref (G.2.1 + 34), .ref (G.2.1 + 35), .int 0, .int 0, .int 0, .int 0, .int 0, .ref (G.2.1 + 36), .ref (G.2.1 + 37), .ref (G.2.1 + 38), .ref (G.2.1 + 39), .int 0, .ref (G.2.1 + 40), .int 0, .ref (G.2.1 + 41)], ai G 26100 (sx 256), ai G 26100 (fun _ => 0), ai G 26100 (fun _ => 0), ai G 14 (fun _ => 0), ai G 500 (fun _ => 0), ai G 500 (fun _ => 0), az G 500 (fun _ => 0), ai G 501 (fun _ => 0), ai G 500 (fun _ => 0)])
  refine go_iload_n (pc := 0) dX2_isCounted_0 rfl rfl ?_
  refine go_iconst (pc := 1) (v := 1) dX2_isCounted_1 (by decide) ?_
  refine go_icmp_eq_f (pc := 2) (tgt := 15) dX2_isCounted_2 (by decide) (by decide) ?_
  refine go_iload_n (pc := 5) dX2_isCounted_5 rfl rfl ?_
  refine go_iconst (pc := 6) (v := 2) dX2_isCounted_6 (by decide) ?_
  refine go_icmp_eq_f (pc := 7) (tgt := 15) dX2_isCounted_7 (by decide) (by decide) ?_
  refine go_iload_n (pc := 10) dX2_isCounted_10 rfl rfl ?_
  refine go_iconst (pc := 11) (v := 5) dX2_isCounted_11 (by decide) ?_
  refine go_icmp_ne_t (pc := 12) (tgt := 19) dX2_isCounted_12 (by decide) (by decide) ?_
  refine go_iconst (pc := 19) (v := 0) dX2_isCounted_19 (by decide) ?_
  exact go_zret (pc := 20) rfl rfl dX2_isCounted_20
set_option maxRecDepth 100000 in
set_option maxHeartbeats 4000000 in
theorem cX2_intsFor_2 {l : Launch} {G : gG} : Ct l G mX2_intsFor 0 0 [.int 0, .int 0] 42 90324 (wl G.2.1 [ob 9 [.ref (G.2.1 + 1), .ref (G.2.1 + 23), .ref (G.2.1 + 27), .ref (G.2.1 + 28), .ref (G.2.1 + 22), .int 0, .int 0, .null, .int 0, .null, .int 0], ob 6 [.ref (G.2.1 + 2), .ref (G.2.1 + 6), .ref (G.2.1 + 12), .ref (G.2.1 + 14), .ref (G.2.1 + 17), .ref (G.2.1 + 20), .ref (G.2.1 + 21)], ob 2 [.int 256, .int 0, .int 0, .int 0, .ref (G.2.1 + 3), .ref (G.2.1 + 4), .ref (G.2.1 + 5)], ai G 256 (fun j => if 1 ≤ j ∧ j < 3 then (-1) else (upd (fun _ => 0) (0 : Int32).toNatClampNeg 0) j), ai G 500 (upd (fun _ => (-1)) (0 : Int32).toNatClampNeg 0), ai G 500 (upd (fun _ => 0) (0 : Int32).toNatClampNeg 0), ob 3 [.int 0, .int 0, .int 0, .int 0, .ref (G.2.1 + 7), .ref (G.2.1 + 8), .ref (G.2.1 + 9), .ref (G.2.1 + 10), .ref (G.2.1 + 11)], ai G 500 (fun _ => 0), ai G 500 (fun _ => 0), ai G 500 (fun _ => 0), ai G 500 (fun _ => 0), ai G 500 (fun _ => 0), ob 8 [.int 0, .int 0, .int 0, .int 0, .int 0, .int 0, .ref (G.2.1 + 13)], ai G 300 (fun _ => 0), ob 4 [.int 0, .ref (G.2.1 + 15), .ref (G.2.1 + 16)], ai G 1295 (fun _ => 0), ai G 1295 (fun _ => 0), ob 5 [.int 0, .int 0, .int 0, .int 0, .ref (G.2.1 + 18), .ref (G.2.1 + 19)], ai G 200 (fun _ => 0), ai G 8 (fun _ => (-1)), ai G 24 (fun _ => (-1)), ai G 32 (fun _ => (-1)), ai G 14 (fun _ => 0), ob 7 [.ref (G.2.1 + 1), .ref (G.2.1 + 2), .ref (G.2.1 + 6), .ref (G.2.1 + 22), .ref (G.2.1 + 24), .int 0, .ref (G.2.1 + 25), .ref (G.2.1 + 26), .int 0], ai G 500 (fun _ => 0), ai G 500 (fun _ => 0), ai G 500 (fun _ => 0), ob 0 [.ref (G.2.1 + 1), .ref (G.2.1 + 2), .ref (G.2.1 + 23), .int 0], ob 1 [.ref (G.2.1 + 29), .int 0, .int 0, .ref (G.2.1 + 30), .ref (G.2.1 + 31)], ai G 0 (fun _ => 0), ai G 500 (fun _ => 0), ai G 501 (fun _ => 0), ob 10 [.ref (G.2.1 + 33), .ref (G.2.1 + 34), .ref (G.2.1 + 35), .int 0, .int 0, .int 0, .int 0, .int 0, .ref (G.2.1 + 36), .ref (G.2.1 + 37), .ref (G.2.1 + 38), .ref (G.2.1 + 39), .int 0, .ref (G.2.1 + 40), .int 0, .ref (G.2.1 + 41)], ai G 26100 (sx 256), ai G 26100 (fun _ => 0), ai G 26100 (fun _ => 0), ai G 14 (fun _ => 0), ai G 500 (fun _ => 0), ai G 500 (fun _ => 0), az G 500 (fun _ => 0), ai G 501 (fun _ => 0), ai G 500 (fun _ => 0)]) (some (.int 3), 42, 90324, (wl G.2.1 [ob 9 [.ref (G.2.1 + 1), .ref (G.2.1 + 23), .ref (G.2.1 + 27), .ref (G.2.1 + 28), .ref (G.2.1 + 22), .int 0, .int 0, .null, .int 0, .null, .int 0], ob 6 [.ref (G.2.1 + 2), .ref (G.2.1 + 6), .ref (G.2.1 + 12), .ref (G.2.1 + 14), .ref (G.2.1 + 17), .ref (G.2.1 + 20), .ref (G.2.1 + 21)], ob 2 [.int 256, .int 0, .int 0, .int 0, .ref (G.2.1 + 3), .ref (G.2.1 + 4), .ref (G.2.1 + 5)], ai G 256 (fun j => if 1 ≤ j ∧ j < 3 then (-1) else (upd (fun _ => 0) (0 : Int32).toNatClampNeg 0) j), ai G 500 (upd (fun _ => (-1)) (0 : Int32).toNatClampNeg 0), ai G 500 (upd (fun _ => 0) (0 : Int32).toNatClampNeg 0), ob 3 [.int 0, .int 0, .int 0, .int 0, .ref (G.2.1 + 7), .ref (G.2.1 + 8), .ref (G.2.1 + 9), .ref (G.2.1 + 10), .ref (G.2.1 + 11)], ai G 500 (fun _ => 0), ai G 500 (fun _ => 0), ai G 500 (fun _ => 0), ai G 500 (fun _ => 0), ai G 500 (fun _ => 0), ob 8 [.int 0, .int 0, .int 0, .int 0, .int 0, .int 0, .ref (G.2.1 + 13)], ai G 300 (fun _ => 0), ob 4 [.int 0, .ref (G.2.1 + 15), .ref (G.2.1 + 16)], ai G 1295 (fun _ => 0), ai G 1295 (fun _ => 0), ob 5 [.int 0, .int 0, .int 0, .int 0, .ref (G.2.1 + 18), .ref (G.2.1 + 19)], ai G 200 (fun _ => 0), ai G 8 (fun _ => (-1)), ai G 24 (fun _ => (-1)), ai G 32 (fun _ => (-1)), ai G 14 (fun _ => 0), ob 7 [.ref (G.2.1 + 1), .ref (G.2.1 + 2), .ref (G.2.1 + 6), .ref (G.2.1 + 22), .ref (G.2.1 + 24), .int 0, .ref (G.2.1 + 25), .ref (G.2.1 + 26), .int 0], ai G 500 (fun _ => 0), ai G 500 (fun _ => 0), ai G 500 (fun _ => 0), ob 0 [.ref (G.2.1 + 1), .ref (G.2.1 + 2), .ref (G.2.1 + 23), .int 0], ob 1 [.ref (G.2.1 + 29), .int 0, .int 0, .ref (G.2.1 + 30), .ref (G.2.1 + 31)], ai G 0 (fun _ => 0), ai G 500 (fun _ => 0), ai G 501 (fun _ => 0), ob 10 [.ref (G.2.1 + 33), .ref (G.2.1 + 34), .ref (G.2.1 + 35), .int 0, .int 0, .int 0, .int 0, .int 0, .ref (G.2.1 + 36), .ref (G.2.1 + 37), .ref (G.2.1 + 38), .ref (G.2.1 + 39), .int 0, .ref (G.2.1 + 40), .int 0, .ref (G.2.1 + 41)], ai G 26100 (sx 256), ai G 26100 (fun _ => 0), ai G 26100 (fun _ => 0), ai G 14 (fun _ => 0), ai G 500 (fun _ => 0), ai G 500 (fun _ => 0), az G 500 (fun _ => 0), ai G 501 (fun _ => 0), ai G 500 (fun _ => 0)])) := by
  refine Ct.of (by decide) (Nat.le_of_ble_eq_true rfl) ⟨Nat.le_refl _, Nat.le_refl _⟩ ?_
  show Go l G mX2_intsFor _ 0 [(0, .int 0), (1, .int 0)] [] 42 90324 (wl G.2.1 [ob 9 [.ref (G.2.1 + 1), .ref (G.2.1 + 23), .ref (G.2.1 + 27), .ref (G.2.1 + 28), .ref (G.2.1 + 22), .int 0, .int 0, .null, .int 0, .null, .int 0], ob 6 [.ref (G.2.1 + 2), .ref (G.2.1 + 6), .ref (G.2.1 + 12), .ref (G.2.1 + 14), .ref (G.2.1 + 17), .ref (G.2.1 + 20), .ref (G.2.1 + 21)], ob 2 [.int 256, .int 0, .int 0, .int 0, .ref (G.2.1 + 3), .ref (G.2.1 + 4), .ref (G.2.1 + 5)], ai G 256 (fun j => if 1 ≤ j ∧ j < 3 then (-1) else (upd (fun _ => 0) (0 : Int32).toNatClampNeg 0) j), ai G 500 (upd (fun _ => (-1)) (0 : Int32).toNatClampNeg 0), ai G 500 (upd (fun _ => 0) (0 : Int32).toNatClampNeg 0), ob 3 [.int 0, .int 0, .int 0, .int 0, .ref (G.2.1 + 7), .ref (G.2.1 + 8), .ref (G.2.1 + 9), .ref (G.2.1 + 10), .ref (G.2.1 + 11)], ai G 500 (fun _ => 0), ai G 500 (fun _ => 0), ai G 500 (fun _ => 0), ai G 500 (fun _ => 0), ai G 500 (fun _ => 0), ob 8 [.int 0, .int 0, .int 0, .int 0, .int 0, .int 0, .ref (G.2.1 + 13)], ai G 300 (fun _ => 0), ob 4 [.int 0, .ref (G.2.1 + 15), .ref (G.2.1 + 16)], ai G 1295 (fun _ => 0), ai G 1295 (fun _ => 0), ob 5 [.int 0, .int 0, .int 0, .int 0, .ref (G.2.1 + 18), .ref (G.2.1 + 19)], ai G 200 (fun _ => 0), ai G 8 (fun _ => (-1)), ai G 24 (fun _ => (-1)), ai G 32 (fun _ => (-1)), ai G 14 (fun _ => 0), ob 7 [.ref (G.2.1 + 1), .ref (G.2.1 + 2), .ref (G.2.1 + 6), .ref (G.2.1 + 22), .ref (G.2.1 + 24), .int 0, .ref (G.2.1 + 25), .ref (G.2.1 + 26), .int 0], ai G 500 (fun _ => 0), ai G 500 (fun _ => 0), ai G 500 (fun _ => 0), ob 0 [.ref (G.2.1 + 1), .ref (G.2.1 + 2), .ref (G.2.1 + 23), .int 0], ob 1 [.ref (G.2.1 + 29), .int 0, .int 0, .ref (G.2.1 + 30), .ref (G.2.1 + 31)], ai G 0 (fun _ => 0), ai G 500 (fun _ => 0), ai G 501 (fun _ => 0), ob 10 [.ref (G.2.1 + 33), .ref (G.2.1 + 34), .ref (G.2.1 + 35), .int 0, .int 0, .int 0, .int 0, .int 0, .ref (G.2.1 + 36), .ref (G.2.1 + 37), .ref (G.2.1 + 38), .ref (G.2.1 + 39), .int 0, .ref (G.2.1 + 40), .int 0, .ref (G.2.1 + 41)], ai G 26100 (sx 256), ai G 26100 (fun _ => 0), ai G 26100 (fun _ => 0), ai G 14 (fun _ => 0), ai G 500 (fun _ => 0), ai G 500 (fun _ => 0), az G 500 (fun _ => 0), ai G 501 (fun _ => 0), ai G 500 (fun _ => 0)])
  refine go_iload_n (pc := 0) dX2_intsFor_0 rfl rfl ?_
  refine go_tableOut (pc := 1) (tgt := 56) dX2_intsFor_1 (by decide) (by decide) ?_
  refine go_iconst (pc := 56) (v := 3) dX2_intsFor_56 (by decide) ?_
  exact go_iret (pc := 57) rfl dX2_intsFor_57
set_option maxRecDepth 100000 in
set_option maxHeartbeats 4000000 in
theorem cX2_addCell_1 {l : Launch} {G : gG} : Ct l G mX2_addCell 2 46 [.ref (G.2.1 + 2), .int 0, .int 0] 42 90324 (wl G.2.1 (LF G)) (some (.int 0), 42, 90324, (wl G.2.1 [ob 9 [.ref (G.2.1 + 1), .ref (G.2.1 + 23), .ref (G.2.1 + 27), .ref (G.2.1 + 28), .ref (G.2.1 + 22), .int 0, .int 0, .null, .int 0, .null, .int 0], ob 6 [.ref (G.2.1 + 2), .ref (G.2.1 + 6), .ref (G.2.1 + 12), .ref (G.2.1 + 14), .ref (G.2.1 + 17), .ref (G.2.1 + 20), .ref (G.2.1 + 21)], ob 2 [.int 256, .int 3, .int 1, .int 1, .ref (G.2.1 + 3), .ref (G.2.1 + 4), .ref (G.2.1 + 5)], ai G 256 (fun j => if 1 ≤ j ∧ j < 3 then (-1) else (upd (fun _ => 0) (0 : Int32).toNatClampNeg 0) j), ai G 500 (upd (fun _ => (-1)) (0 : Int32).toNatClampNeg 0), ai G 500 (upd (fun _ => 0) (0 : Int32).toNatClampNeg 0), ob 3 [.int 0, .int 0, .int 0, .int 0, .ref (G.2.1 + 7), .ref (G.2.1 + 8), .ref (G.2.1 + 9), .ref (G.2.1 + 10), .ref (G.2.1 + 11)], ai G 500 (fun _ => 0), ai G 500 (fun _ => 0), ai G 500 (fun _ => 0), ai G 500 (fun _ => 0), ai G 500 (fun _ => 0), ob 8 [.int 0, .int 0, .int 0, .int 0, .int 0, .int 0, .ref (G.2.1 + 13)], ai G 300 (fun _ => 0), ob 4 [.int 0, .ref (G.2.1 + 15), .ref (G.2.1 + 16)], ai G 1295 (fun _ => 0), ai G 1295 (fun _ => 0), ob 5 [.int 0, .int 0, .int 0, .int 0, .ref (G.2.1 + 18), .ref (G.2.1 + 19)], ai G 200 (fun _ => 0), ai G 8 (fun _ => (-1)), ai G 24 (fun _ => (-1)), ai G 32 (fun _ => (-1)), ai G 14 (fun _ => 0), ob 7 [.ref (G.2.1 + 1), .ref (G.2.1 + 2), .ref (G.2.1 + 6), .ref (G.2.1 + 22), .ref (G.2.1 + 24), .int 0, .ref (G.2.1 + 25), .ref (G.2.1 + 26), .int 0], ai G 500 (fun _ => 0), ai G 500 (fun _ => 0), ai G 500 (fun _ => 0), ob 0 [.ref (G.2.1 + 1), .ref (G.2.1 + 2), .ref (G.2.1 + 23), .int 0], ob 1 [.ref (G.2.1 + 29), .int 0, .int 0, .ref (G.2.1 + 30), .ref (G.2.1 + 31)], ai G 0 (fun _ => 0), ai G 500 (fun _ => 0), ai G 501 (fun _ => 0), ob 10 [.ref (G.2.1 + 33), .ref (G.2.1 + 34), .ref (G.2.1 + 35), .int 0, .int 0, .int 0, .int 0, .int 0, .ref (G.2.1 + 36), .ref (G.2.1 + 37), .ref (G.2.1 + 38), .ref (G.2.1 + 39), .int 0, .ref (G.2.1 + 40), .int 0, .ref (G.2.1 + 41)], ai G 26100 (sx 256), ai G 26100 (fun _ => 0), ai G 26100 (fun _ => 0), ai G 14 (fun _ => 0), ai G 500 (fun _ => 0), ai G 500 (fun _ => 0), az G 500 (fun _ => 0), ai G 501 (fun _ => 0), ai G 500 (fun _ => 0)])) := by
  refine Ct.of (by decide) (Nat.le_of_ble_eq_true rfl) ⟨Nat.le_refl _, Nat.le_refl _⟩ ?_
  show Go l G mX2_addCell _ 0 [(0, .ref (G.2.1 + 2)), (1, .int 0), (2, .int 0)] [] 42 90324 (wl G.2.1 (LF G))
  refine go_aload_n (pc := 0) dX2_addCell_0 rfl rfl ?_
  refine go_get (pc := 1) fX2_32 rfl (gz_b (by decide)) (wl_at (i := 2) rfl) rfl dX2_addCell_1 ?_
  refine go_istore_n (pc := 4) (lv' := [(3, .int 0), (0, .ref (G.2.1 + 2)), (1, .int 0), (2, .int 0)]) dX2_addCell_4 rfl (by decide) rfl ?_
  refine go_aload_n (pc := 5) dX2_addCell_5 rfl rfl ?_
  refine go_get (pc := 6) fX2_9 rfl (gz_b (by decide)) (wl_at (i := 2) rfl) rfl dX2_addCell_6 ?_
  refine go_aload_n (pc := 9) dX2_addCell_9 rfl rfl ?_
  refine go_get (pc := 10) fX2_29 rfl (gz_b (by decide)) (wl_at (i := 2) rfl) rfl dX2_addCell_10 ?_
  refine go_iload_n (pc := 13) dX2_addCell_13 rfl rfl ?_
  refine go_bipush (pc := 14) (v := 8) dX2_addCell_14 (by decide) ?_
  refine go_imul (pc := 16) dX2_addCell_16 ?_
  refine go_top (y := 0) (by decide) ?_
  refine go_iload_n (pc := 17) dX2_addCell_17 rfl rfl ?_
  refine go_iadd (pc := 18) dX2_addCell_18 ?_
  refine go_top (y := 0) (by decide) ?_
  refine go_iast (pc := 19) (gz_b (by decide)) (wl_at (i := 3) rfl) (gv_in (by decide)) dX2_addCell_19 ?_
  refine go_ext (wl_up (i := 3) rfl rfl) ?_
  refine go_iload_n (pc := 20) dX2_addCell_20 rfl rfl ?_
  refine go_callS_i (pc := 21) sX2_60 rfl (cX2_isCounted_3) rfl rfl (Nat.le_of_ble_eq_true rfl) ⟨Nat.le_of_ble_eq_true rfl, Nat.le_of_ble_eq_true rfl, (Nat.le_add_right _ _), (Nat.le_add_right _ _)⟩ dX2_addCell_21 ?_
  refine go_if_ne_f (pc := 24) (tgt := 50) dX2_addCell_24 (by decide) (by decide) ?_
  refine go_aload_n (pc := 27) dX2_addCell_27 rfl rfl ?_
  refine go_get (pc := 28) fX2_9 rfl (gz_b (by decide)) (wl_at (i := 2) rfl) rfl dX2_addCell_28 ?_
  refine go_aload_n (pc := 31) dX2_addCell_31 rfl rfl ?_
  refine go_get (pc := 32) fX2_29 rfl (gz_b (by decide)) (wl_at (i := 2) rfl) rfl dX2_addCell_32 ?_
  refine go_iconst (pc := 35) (v := 1) dX2_addCell_35 (by decide) ?_
  refine go_iadd (pc := 36) dX2_addCell_36 ?_
  refine go_top (y := 1) (by decide) ?_
  refine go_aload_n (pc := 37) dX2_addCell_37 rfl rfl ?_
  refine go_get (pc := 38) fX2_29 rfl (gz_b (by decide)) (wl_at (i := 2) rfl) rfl dX2_addCell_38 ?_
  refine go_iconst (pc := 41) (v := 3) dX2_addCell_41 (by decide) ?_
  refine go_iadd (pc := 42) dX2_addCell_42 ?_
  refine go_top (y := 3) (by decide) ?_
  refine go_iconst (pc := 43) (v := (-1)) dX2_addCell_43 (by decide) ?_
  refine go_callS_v (pc := 44) sX2_44 rfl (ct_fillr (a := G.2.1 + 3) (N := 256) (f := (upd (fun _ => 0) (0 : Int32).toNatClampNeg 0)) ((-1)) (fr := 1) (to := 3) (by decide) (by decide) (by decide) (gz_b (by decide)) (wl_at (i := 3) rfl)) rfl rfl (Nat.le_of_ble_eq_true rfl) ⟨Nat.le_of_ble_eq_true rfl, Nat.le_of_ble_eq_true rfl, (Nat.le_add_right _ _), (Nat.le_add_right _ _)⟩ dX2_addCell_44 ?_
  refine go_ext (wl_up (i := 3) rfl rfl) ?_
  refine go_goto (pc := 47) (tgt := 89) dX2_addCell_47 (by decide) ?_
  refine go_aload_n (pc := 89) dX2_addCell_89 rfl rfl ?_
  refine go_get (pc := 90) fX2_15 rfl (gz_b (by decide)) (wl_at (i := 2) rfl) rfl dX2_addCell_90 ?_
  refine go_iload_n (pc := 93) dX2_addCell_93 rfl rfl ?_
  refine go_aload_n (pc := 94) dX2_addCell_94 rfl rfl ?_
  refine go_get (pc := 95) fX2_29 rfl (gz_b (by decide)) (wl_at (i := 2) rfl) rfl dX2_addCell_95 ?_
  refine go_iast (pc := 98) (gz_b (by decide)) (wl_at (i := 4) rfl) (gv_in (by decide)) dX2_addCell_98 ?_
  refine go_ext (wl_up (i := 4) rfl rfl) ?_
  refine go_aload_n (pc := 99) dX2_addCell_99 rfl rfl ?_
  refine go_get (pc := 100) fX2_18 rfl (gz_b (by decide)) (wl_at (i := 2) rfl) rfl dX2_addCell_100 ?_
  refine go_iload_n (pc := 103) dX2_addCell_103 rfl rfl ?_
  refine go_iconst (pc := 104) (v := 0) dX2_addCell_104 (by decide) ?_
  refine go_iast (pc := 105) (gz_b (by decide)) (wl_at (i := 5) rfl) (gv_in (by decide)) dX2_addCell_105 ?_
  refine go_ext (wl_up (i := 5) rfl rfl) ?_
  refine go_aload_n (pc := 106) dX2_addCell_106 rfl rfl ?_
  refine go_dup (pc := 107) dX2_addCell_107 rfl ?_
  refine go_get (pc := 108) fX2_29 rfl (gz_b (by decide)) (wl_at (i := 2) rfl) rfl dX2_addCell_108 ?_
  refine go_iload_n (pc := 111) dX2_addCell_111 rfl rfl ?_
  refine go_iload_n (pc := 112) dX2_addCell_112 rfl rfl ?_
  refine go_callS_i (pc := 113) sX2_67 rfl (cX2_intsFor_2) rfl rfl (Nat.le_of_ble_eq_true rfl) ⟨Nat.le_of_ble_eq_true rfl, Nat.le_of_ble_eq_true rfl, (Nat.le_add_right _ _), (Nat.le_add_right _ _)⟩ dX2_addCell_113 ?_
  refine go_iadd (pc := 116) dX2_addCell_116 ?_
  refine go_top (y := 3) (by decide) ?_
  refine go_put (pc := 117) fX2_29 rfl (gz_b (by decide)) (wl_at (i := 2) rfl) (Nat.le_of_ble_eq_true rfl) rfl rfl dX2_addCell_117 ?_
  refine go_ext (wl_up (i := 2) rfl rfl) ?_
  refine go_aload_n (pc := 120) dX2_addCell_120 rfl rfl ?_
  refine go_dup (pc := 121) dX2_addCell_121 rfl ?_
  refine go_get (pc := 122) fX2_32 rfl (gz_b (by decide)) (wl_at (i := 2) rfl) rfl dX2_addCell_122 ?_
  refine go_iconst (pc := 125) (v := 1) dX2_addCell_125 (by decide) ?_
  refine go_iadd (pc := 126) dX2_addCell_126 ?_
  refine go_top (y := 1) (by decide) ?_
  refine go_put (pc := 127) fX2_32 rfl (gz_b (by decide)) (wl_at (i := 2) rfl) (Nat.le_of_ble_eq_true rfl) rfl rfl dX2_addCell_127 ?_
  refine go_ext (wl_up (i := 2) rfl rfl) ?_
  refine go_aload_n (pc := 130) dX2_addCell_130 rfl rfl ?_
  refine go_dup (pc := 131) dX2_addCell_131 rfl ?_
  refine go_get (pc := 132) fX2_35 rfl (gz_b (by decide)) (wl_at (i := 2) rfl) rfl dX2_addCell_132 ?_
  refine go_iconst (pc := 135) (v := 1) dX2_addCell_135 (by decide) ?_
  refine go_iadd (pc := 136) dX2_addCell_136 ?_
  refine go_top (y := 1) (by decide) ?_
  refine go_put (pc := 137) fX2_35 rfl (gz_b (by decide)) (wl_at (i := 2) rfl) (Nat.le_of_ble_eq_true rfl) rfl rfl dX2_addCell_137 ?_
  refine go_ext (wl_up (i := 2) rfl rfl) ?_
  refine go_iload_n (pc := 140) dX2_addCell_140 rfl rfl ?_
  refine go_w (show _ = wl G.2.1 [ob 9 [.ref (G.2.1 + 1), .ref (G.2.1 + 23), .ref (G.2.1 + 27), .ref (G.2.1 + 28), .ref (G.2.1 + 22), .int 0, .int 0, .null, .int 0, .null, .int 0], ob 6 [.ref (G.2.1 + 2), .ref (G.2.1 + 6), .ref (G.2.1 + 12), .ref (G.2.1 + 14), .ref (G.2.1 + 17), .ref (G.2.1 + 20), .ref (G.2.1 + 21)], ob 2 [.int 256, .int 3, .int 1, .int 1, .ref (G.2.1 + 3), .ref (G.2.1 + 4), .ref (G.2.1 + 5)], ai G 256 (fun j => if 1 ≤ j ∧ j < 3 then (-1) else (upd (fun _ => 0) (0 : Int32).toNatClampNeg 0) j), ai G 500 (upd (fun _ => (-1)) (0 : Int32).toNatClampNeg 0), ai G 500 (upd (fun _ => 0) (0 : Int32).toNatClampNeg 0), ob 3 [.int 0, .int 0, .int 0, .int 0, .ref (G.2.1 + 7), .ref (G.2.1 + 8), .ref (G.2.1 + 9), .ref (G.2.1 + 10), .ref (G.2.1 + 11)], ai G 500 (fun _ => 0), ai G 500 (fun _ => 0), ai G 500 (fun _ => 0), ai G 500 (fun _ => 0), ai G 500 (fun _ => 0), ob 8 [.int 0, .int 0, .int 0, .int 0, .int 0, .int 0, .ref (G.2.1 + 13)], ai G 300 (fun _ => 0), ob 4 [.int 0, .ref (G.2.1 + 15), .ref (G.2.1 + 16)], ai G 1295 (fun _ => 0), ai G 1295 (fun _ => 0), ob 5 [.int 0, .int 0, .int 0, .int 0, .ref (G.2.1 + 18), .ref (G.2.1 + 19)], ai G 200 (fun _ => 0), ai G 8 (fun _ => (-1)), ai G 24 (fun _ => (-1)), ai G 32 (fun _ => (-1)), ai G 14 (fun _ => 0), ob 7 [.ref (G.2.1 + 1), .ref (G.2.1 + 2), .ref (G.2.1 + 6), .ref (G.2.1 + 22), .ref (G.2.1 + 24), .int 0, .ref (G.2.1 + 25), .ref (G.2.1 + 26), .int 0], ai G 500 (fun _ => 0), ai G 500 (fun _ => 0), ai G 500 (fun _ => 0), ob 0 [.ref (G.2.1 + 1), .ref (G.2.1 + 2), .ref (G.2.1 + 23), .int 0], ob 1 [.ref (G.2.1 + 29), .int 0, .int 0, .ref (G.2.1 + 30), .ref (G.2.1 + 31)], ai G 0 (fun _ => 0), ai G 500 (fun _ => 0), ai G 501 (fun _ => 0), ob 10 [.ref (G.2.1 + 33), .ref (G.2.1 + 34), .ref (G.2.1 + 35), .int 0, .int 0, .int 0, .int 0, .int 0, .ref (G.2.1 + 36), .ref (G.2.1 + 37), .ref (G.2.1 + 38), .ref (G.2.1 + 39), .int 0, .ref (G.2.1 + 40), .int 0, .ref (G.2.1 + 41)], ai G 26100 (sx 256), ai G 26100 (fun _ => 0), ai G 26100 (fun _ => 0), ai G 14 (fun _ => 0), ai G 500 (fun _ => 0), ai G 500 (fun _ => 0), az G 500 (fun _ => 0), ai G 501 (fun _ => 0), ai G 500 (fun _ => 0)] from rfl) ?_
  exact go_iret (pc := 141) rfl dX2_addCell_141
set_option maxRecDepth 100000 in
set_option maxHeartbeats 4000000 in
theorem cX0_makeCell_1 {l : Launch} {G : gG} (x2 : Int32) : Ct l G mX0_makeCell 3 69 [.ref (G.2.1 + 27), .int 0, .int x2] 42 90324 (wl G.2.1 (LF G)) (some (.int 0), 42, 90324, (wl G.2.1 [ob 9 [.ref (G.2.1 + 1), .ref (G.2.1 + 23), .ref (G.2.1 + 27), .ref (G.2.1 + 28), .ref (G.2.1 + 22), .int 0, .int 0, .null, .int 0, .null, .int 0], ob 6 [.ref (G.2.1 + 2), .ref (G.2.1 + 6), .ref (G.2.1 + 12), .ref (G.2.1 + 14), .ref (G.2.1 + 17), .ref (G.2.1 + 20), .ref (G.2.1 + 21)], ob 2 [.int 256, .int 3, .int 1, .int 1, .ref (G.2.1 + 3), .ref (G.2.1 + 4), .ref (G.2.1 + 5)], ai G 256 (fun j => if 1 ≤ j ∧ j < 3 then (-1) else (upd (fun _ => 0) (0 : Int32).toNatClampNeg 0) j), ai G 500 (upd (fun _ => (-1)) (0 : Int32).toNatClampNeg 0), ai G 500 (upd (fun _ => 0) (0 : Int32).toNatClampNeg 0), ob 3 [.int 0, .int 0, .int 0, .int 0, .ref (G.2.1 + 7), .ref (G.2.1 + 8), .ref (G.2.1 + 9), .ref (G.2.1 + 10), .ref (G.2.1 + 11)], ai G 500 (fun _ => 0), ai G 500 (fun _ => 0), ai G 500 (fun _ => 0), ai G 500 (fun _ => 0), ai G 500 (fun _ => 0), ob 8 [.int 0, .int 0, .int 0, .int 0, .int 0, .int 0, .ref (G.2.1 + 13)], ai G 300 (fun _ => 0), ob 4 [.int 0, .ref (G.2.1 + 15), .ref (G.2.1 + 16)], ai G 1295 (fun _ => 0), ai G 1295 (fun _ => 0), ob 5 [.int 0, .int 0, .int 0, .int 0, .ref (G.2.1 + 18), .ref (G.2.1 + 19)], ai G 200 (fun _ => 0), ai G 8 (fun _ => (-1)), ai G 24 (fun _ => (-1)), ai G 32 (fun _ => (-1)), ai G 14 (fun _ => 0), ob 7 [.ref (G.2.1 + 1), .ref (G.2.1 + 2), .ref (G.2.1 + 6), .ref (G.2.1 + 22), .ref (G.2.1 + 24), .int 0, .ref (G.2.1 + 25), .ref (G.2.1 + 26), .int 0], ai G 500 (fun _ => 0), ai G 500 (fun _ => 0), ai G 500 (fun _ => 0), ob 0 [.ref (G.2.1 + 1), .ref (G.2.1 + 2), .ref (G.2.1 + 23), .int 0], ob 1 [.ref (G.2.1 + 29), .int 0, .int 0, .ref (G.2.1 + 30), .ref (G.2.1 + 31)], ai G 0 (fun _ => 0), ai G 500 (fun _ => 0), ai G 501 (fun _ => 0), ob 10 [.ref (G.2.1 + 33), .ref (G.2.1 + 34), .ref (G.2.1 + 35), .int 0, .int 0, .int 0, .int 0, .int 0, .ref (G.2.1 + 36), .ref (G.2.1 + 37), .ref (G.2.1 + 38), .ref (G.2.1 + 39), .int 0, .ref (G.2.1 + 40), .int 0, .ref (G.2.1 + 41)], ai G 26100 (sx 256), ai G 26100 (fun _ => 0), ai G 26100 (fun _ => 0), ai G 14 (fun _ => 0), ai G 500 (fun _ => 0), ai G 500 (fun _ => 0), az G 500 (fun _ => 0), ai G 501 (fun _ => 0), ai G 500 (fun _ => 0)])) := by
  refine Ct.of (by decide) (Nat.le_of_ble_eq_true rfl) ⟨Nat.le_refl _, Nat.le_refl _⟩ ?_
  show Go l G mX0_makeCell _ 0 [(0, .ref (G.2.1 + 27)), (1, .int 0), (2, .int x2)] [] 42 90324 (wl G.2.1 (LF G))
  refine go_iload_n (pc := 0) dX0_makeCell_0 rfl rfl ?_
  refine go_callS_i (pc := 1) sX0_26 rfl (cX2_isCounted_2) rfl rfl (Nat.le_of_ble_eq_true rfl) ⟨Nat.le_of_ble_eq_true rfl, Nat.le_of_ble_eq_true rfl, (Nat.le_add_right _ _), (Nat.le_add_right _ _)⟩ dX0_makeCell_1 ?_
  refine go_if_eq_t (pc := 4) (tgt := 11) dX0_makeCell_4 (by decide) (by decide) ?_
  refine go_iconst (pc := 11) (v := 0) dX0_makeCell_11 (by decide) ?_
  refine go_istore_n (pc := 12) (lv' := [(3, .int 0), (0, .ref (G.2.1 + 27)), (1, .int 0), (2, .int x2)]) dX0_makeCell_12 rfl (by decide) rfl ?_
  refine go_iload_n (pc := 13) dX0_makeCell_13 rfl rfl ?_
  refine go_if_ge_t (pc := 14) (tgt := 20) dX0_makeCell_14 (by decide) (by decide) ?_
  refine go_iload_n (pc := 20) dX0_makeCell_20 rfl rfl ?_
  refine go_iload_n (pc := 21) dX0_makeCell_21 rfl rfl ?_
  refine go_callS_i (pc := 22) sX0_32 rfl (cX2_intsFor_1) rfl rfl (Nat.le_of_ble_eq_true rfl) ⟨Nat.le_of_ble_eq_true rfl, Nat.le_of_ble_eq_true rfl, (Nat.le_add_right _ _), (Nat.le_add_right _ _)⟩ dX0_makeCell_22 ?_
  refine go_istore (pc := 25) (lv' := [(4, .int 3), (3, .int 0), (0, .ref (G.2.1 + 27)), (1, .int 0), (2, .int x2)]) dX0_makeCell_25 (by decide) rfl ?_
  refine go_aload_n (pc := 27) dX0_makeCell_27 rfl rfl ?_
  refine go_get (pc := 28) fX0_21 rfl (gz_b (by decide)) (wl_at (i := 27) rfl) rfl dX0_makeCell_28 ?_
  refine go_get (pc := 31) fX0_36 rfl (gz_b (by decide)) (wl_at (i := 2) rfl) rfl dX0_makeCell_31 ?_
  refine go_sipush (pc := 34) (v := 500) dX0_makeCell_34 (by decide) ?_
  refine go_icmp_ge_f (pc := 37) (tgt := 72) dX0_makeCell_37 (by decide) (by decide) ?_
  refine go_iload (pc := 40) dX0_makeCell_40 rfl ?_
  refine go_aload_n (pc := 42) dX0_makeCell_42 rfl rfl ?_
  refine go_get (pc := 43) fX0_21 rfl (gz_b (by decide)) (wl_at (i := 27) rfl) rfl dX0_makeCell_43 ?_
  refine go_callV_i (pc := 46) vX0_40 rfl (cX2_free_1) rfl rfl (gz_b (by decide)) (wl_at (i := 2) rfl) rfl (Nat.le_of_ble_eq_true rfl) ⟨Nat.le_of_ble_eq_true rfl, Nat.le_of_ble_eq_true rfl, (Nat.le_add_right _ _), (Nat.le_add_right _ _)⟩ dX0_makeCell_46 ?_
  refine go_icmp_le_t (pc := 49) (tgt := 75) dX0_makeCell_49 (by decide) (by decide) ?_
  refine go_iconst (pc := 75) (v := 0) dX0_makeCell_75 (by decide) ?_
  refine go_istore (pc := 76) (lv' := [(5, .int 0), (4, .int 3), (3, .int 0), (0, .ref (G.2.1 + 27)), (1, .int 0), (2, .int x2)]) dX0_makeCell_76 (by decide) rfl ?_
  refine go_iload (pc := 78) dX0_makeCell_78 rfl ?_
  refine go_iconst (pc := 80) (v := 2) dX0_makeCell_80 (by decide) ?_
  refine go_icmp_ge_f (pc := 81) (tgt := 109) dX0_makeCell_81 (by decide) (by decide) ?_
  refine go_iload (pc := 84) dX0_makeCell_84 rfl ?_
  refine go_aload_n (pc := 86) dX0_makeCell_86 rfl rfl ?_
  refine go_get (pc := 87) fX0_21 rfl (gz_b (by decide)) (wl_at (i := 27) rfl) rfl dX0_makeCell_87 ?_
  refine go_callV_i (pc := 90) vX0_40 rfl (cX2_free_1) rfl rfl (gz_b (by decide)) (wl_at (i := 2) rfl) rfl (Nat.le_of_ble_eq_true rfl) ⟨Nat.le_of_ble_eq_true rfl, Nat.le_of_ble_eq_true rfl, (Nat.le_add_right _ _), (Nat.le_add_right _ _)⟩ dX0_makeCell_90 ?_
  refine go_icmp_le_t (pc := 93) (tgt := 109) dX0_makeCell_93 (by decide) (by decide) ?_
  refine go_iload (pc := 109) dX0_makeCell_109 rfl ?_
  refine go_aload_n (pc := 111) dX0_makeCell_111 rfl rfl ?_
  refine go_get (pc := 112) fX0_21 rfl (gz_b (by decide)) (wl_at (i := 27) rfl) rfl dX0_makeCell_112 ?_
  refine go_callV_i (pc := 115) vX0_40 rfl (cX2_free_1) rfl rfl (gz_b (by decide)) (wl_at (i := 2) rfl) rfl (Nat.le_of_ble_eq_true rfl) ⟨Nat.le_of_ble_eq_true rfl, Nat.le_of_ble_eq_true rfl, (Nat.le_add_right _ _), (Nat.le_add_right _ _)⟩ dX0_makeCell_115 ?_
  refine go_icmp_le_t (pc := 118) (tgt := 124) dX0_makeCell_118 (by decide) (by decide) ?_
  refine go_aload_n (pc := 124) dX0_makeCell_124 rfl rfl ?_
  refine go_get (pc := 125) fX0_21 rfl (gz_b (by decide)) (wl_at (i := 27) rfl) rfl dX0_makeCell_125 ?_
  refine go_iload_n (pc := 128) dX0_makeCell_128 rfl rfl ?_
  refine go_iload_n (pc := 129) dX0_makeCell_129 rfl rfl ?_
  refine go_callV_i (pc := 130) vX0_55 rfl (cX2_addCell_1) rfl rfl (gz_b (by decide)) (wl_at (i := 2) rfl) rfl (Nat.le_of_ble_eq_true rfl) ⟨Nat.le_of_ble_eq_true rfl, Nat.le_of_ble_eq_true rfl, (Nat.le_add_right _ _), (Nat.le_add_right _ _)⟩ dX0_makeCell_130 ?_
  refine go_istore (pc := 133) (lv' := [(5, .int 0), (4, .int 3), (3, .int 0), (0, .ref (G.2.1 + 27)), (1, .int 0), (2, .int x2)]) dX0_makeCell_133 (by decide) rfl ?_
  refine go_aload_n (pc := 135) dX0_makeCell_135 rfl rfl ?_
  refine go_get (pc := 136) fX0_22 rfl (gz_b (by decide)) (wl_at (i := 27) rfl) rfl dX0_makeCell_136 ?_
  refine go_iload (pc := 139) dX0_makeCell_139 rfl ?_
  refine go_iconst (pc := 141) (v := 5) dX0_makeCell_141 (by decide) ?_
  refine go_iconst (pc := 142) (v := (-1)) dX0_makeCell_142 (by decide) ?_
  refine go_iconst (pc := 143) (v := (-1)) dX0_makeCell_143 (by decide) ?_
  refine go_callV_v (pc := 144) vX0_58 rfl (ct_mark_0 (a := G.2.1 + 23) (a0 := G.2.1 + 1) (a1 := G.2.1 + 2) (a2 := G.2.1 + 6) (a3 := G.2.1 + 22) (a4 := G.2.1 + 24) (a6 := G.2.1 + 25) (a7 := G.2.1 + 26) (g5 := 0) (g8 := 0) (u1 := 0) (u2 := 0) (u3 := 0) (p4 := G.2.1 + 7) (p5 := G.2.1 + 8) (p6 := G.2.1 + 9) (p7 := G.2.1 + 10) (p8 := G.2.1 + 11) (gz_b (by decide)) (gz_b (by decide)) (wl_at (i := 23) rfl) (wl_at (i := 6) rfl)) rfl rfl (gz_b (by decide)) (wl_at (i := 23) rfl) rfl (Nat.le_of_ble_eq_true rfl) ⟨Nat.le_of_ble_eq_true rfl, Nat.le_of_ble_eq_true rfl, (Nat.le_add_right _ _), (Nat.le_add_right _ _)⟩ dX0_makeCell_144 ?_
  refine go_iload (pc := 147) dX0_makeCell_147 rfl ?_
  exact go_iret (pc := 149) rfl dX0_makeCell_149
set_option maxRecDepth 100000 in
set_option maxHeartbeats 4000000 in
theorem cX9_findingIn_5 {l : Launch} {G : gG} : Ct l G mX9_findingIn 0 0 [.int 0] 42 90324 (wl G.2.1 [ob 9 [.ref (G.2.1 + 1), .ref (G.2.1 + 23), .ref (G.2.1 + 27), .ref (G.2.1 + 28), .ref (G.2.1 + 22), .int 0, .int 0, .null, .int 0, .null, .int 0], ob 6 [.ref (G.2.1 + 2), .ref (G.2.1 + 6), .ref (G.2.1 + 12), .ref (G.2.1 + 14), .ref (G.2.1 + 17), .ref (G.2.1 + 20), .ref (G.2.1 + 21)], ob 2 [.int 256, .int 3, .int 1, .int 1, .ref (G.2.1 + 3), .ref (G.2.1 + 4), .ref (G.2.1 + 5)], ai G 256 (fun j => if 1 ≤ j ∧ j < 3 then (-1) else (upd (fun _ => 0) (0 : Int32).toNatClampNeg 0) j), ai G 500 (upd (fun _ => (-1)) (0 : Int32).toNatClampNeg 0), ai G 500 (upd (fun _ => 0) (0 : Int32).toNatClampNeg 0), ob 3 [.int 0, .int 0, .int 0, .int 0, .ref (G.2.1 + 7), .ref (G.2.1 + 8), .ref (G.2.1 + 9), .ref (G.2.1 + 10), .ref (G.2.1 + 11)], ai G 500 (fun _ => 0), ai G 500 (fun _ => 0), ai G 500 (fun _ => 0), ai G 500 (fun _ => 0), ai G 500 (fun _ => 0), ob 8 [.int 0, .int 0, .int 0, .int 0, .int 0, .int 0, .ref (G.2.1 + 13)], ai G 300 (fun _ => 0), ob 4 [.int 0, .ref (G.2.1 + 15), .ref (G.2.1 + 16)], ai G 1295 (fun _ => 0), ai G 1295 (fun _ => 0), ob 5 [.int 0, .int 0, .int 0, .int 0, .ref (G.2.1 + 18), .ref (G.2.1 + 19)], ai G 200 (fun _ => 0), ai G 8 (fun _ => (-1)), ai G 24 (fun _ => (-1)), ai G 32 (fun _ => (-1)), ai G 14 (fun _ => 0), ob 7 [.ref (G.2.1 + 1), .ref (G.2.1 + 2), .ref (G.2.1 + 6), .ref (G.2.1 + 22), .ref (G.2.1 + 24), .int 0, .ref (G.2.1 + 25), .ref (G.2.1 + 26), .int 0], ai G 500 (fun _ => 0), ai G 500 (fun _ => 0), ai G 500 (fun _ => 0), ob 0 [.ref (G.2.1 + 1), .ref (G.2.1 + 2), .ref (G.2.1 + 23), .int 0], ob 1 [.ref (G.2.1 + 29), .int 0, .int 0, .ref (G.2.1 + 30), .ref (G.2.1 + 31)], ai G 0 (fun _ => 0), ai G 500 (fun _ => 0), ai G 501 (fun _ => 0), ob 10 [.ref (G.2.1 + 33), .ref (G.2.1 + 34), .ref (G.2.1 + 35), .int 0, .int 0, .int 0, .int 0, .int 0, .ref (G.2.1 + 36), .ref (G.2.1 + 37), .ref (G.2.1 + 38), .ref (G.2.1 + 39), .int 0, .ref (G.2.1 + 40), .int 0, .ref (G.2.1 + 41)], ai G 26100 (sx 256), ai G 26100 (fun _ => 0), ai G 26100 (fun _ => 0), ai G 14 (fun _ => 0), ai G 500 (fun _ => 0), ai G 500 (fun _ => 0), az G 500 (fun _ => 0), ai G 501 (fun _ => 0), ai G 500 (fun _ => 0)]) (some (.int 0), 42, 90324, (wl G.2.1 [ob 9 [.ref (G.2.1 + 1), .ref (G.2.1 + 23), .ref (G.2.1 + 27), .ref (G.2.1 + 28), .ref (G.2.1 + 22), .int 0, .int 0, .null, .int 0, .null, .int 0], ob 6 [.ref (G.2.1 + 2), .ref (G.2.1 + 6), .ref (G.2.1 + 12), .ref (G.2.1 + 14), .ref (G.2.1 + 17), .ref (G.2.1 + 20), .ref (G.2.1 + 21)], ob 2 [.int 256, .int 3, .int 1, .int 1, .ref (G.2.1 + 3), .ref (G.2.1 + 4), .ref (G.2.1 + 5)], ai G 256 (fun j => if 1 ≤ j ∧ j < 3 then (-1) else (upd (fun _ => 0) (0 : Int32).toNatClampNeg 0) j), ai G 500 (upd (fun _ => (-1)) (0 : Int32).toNatClampNeg 0), ai G 500 (upd (fun _ => 0) (0 : Int32).toNatClampNeg 0), ob 3 [.int 0, .int 0, .int 0, .int 0, .ref (G.2.1 + 7), .ref (G.2.1 + 8), .ref (G.2.1 + 9), .ref (G.2.1 + 10), .ref (G.2.1 + 11)], ai G 500 (fun _ => 0), ai G 500 (fun _ => 0), ai G 500 (fun _ => 0), ai G 500 (fun _ => 0), ai G 500 (fun _ => 0), ob 8 [.int 0, .int 0, .int 0, .int 0, .int 0, .int 0, .ref (G.2.1 + 13)], ai G 300 (fun _ => 0), ob 4 [.int 0, .ref (G.2.1 + 15), .ref (G.2.1 + 16)], ai G 1295 (fun _ => 0), ai G 1295 (fun _ => 0), ob 5 [.int 0, .int 0, .int 0, .int 0, .ref (G.2.1 + 18), .ref (G.2.1 + 19)], ai G 200 (fun _ => 0), ai G 8 (fun _ => (-1)), ai G 24 (fun _ => (-1)), ai G 32 (fun _ => (-1)), ai G 14 (fun _ => 0), ob 7 [.ref (G.2.1 + 1), .ref (G.2.1 + 2), .ref (G.2.1 + 6), .ref (G.2.1 + 22), .ref (G.2.1 + 24), .int 0, .ref (G.2.1 + 25), .ref (G.2.1 + 26), .int 0], ai G 500 (fun _ => 0), ai G 500 (fun _ => 0), ai G 500 (fun _ => 0), ob 0 [.ref (G.2.1 + 1), .ref (G.2.1 + 2), .ref (G.2.1 + 23), .int 0], ob 1 [.ref (G.2.1 + 29), .int 0, .int 0, .ref (G.2.1 + 30), .ref (G.2.1 + 31)], ai G 0 (fun _ => 0), ai G 500 (fun _ => 0), ai G 501 (fun _ => 0), ob 10 [.ref (G.2.1 + 33), .ref (G.2.1 + 34), .ref (G.2.1 + 35), .int 0, .int 0, .int 0, .int 0, .int 0, .ref (G.2.1 + 36), .ref (G.2.1 + 37), .ref (G.2.1 + 38), .ref (G.2.1 + 39), .int 0, .ref (G.2.1 + 40), .int 0, .ref (G.2.1 + 41)], ai G 26100 (sx 256), ai G 26100 (fun _ => 0), ai G 26100 (fun _ => 0), ai G 14 (fun _ => 0), ai G 500 (fun _ => 0), ai G 500 (fun _ => 0), az G 500 (fun _ => 0), ai G 501 (fun _ => 0), ai G 500 (fun _ => 0)])) := by
  refine Ct.of (by decide) (Nat.le_of_ble_eq_true rfl) ⟨Nat.le_refl _, Nat.le_refl _⟩ ?_
  show Go l G mX9_findingIn _ 0 [(0, .int 0)] [] 42 90324 (wl G.2.1 [ob 9 [.ref (G.2.1 + 1), .ref (G.2.1 + 23), .ref (G.2.1 + 27), .ref (G.2.1 + 28), .ref (G.2.1 + 22), .int 0, .int 0, .null, .int 0, .null, .int 0], ob 6 [.ref (G.2.1 + 2), .ref (G.2.1 + 6), .ref (G.2.1 + 12), .ref (G.2.1 + 14), .ref (G.2.1 + 17), .ref (G.2.1 + 20), .ref (G.2.1 + 21)], ob 2 [.int 256, .int 3, .int 1, .int 1, .ref (G.2.1 + 3), .ref (G.2.1 + 4), .ref (G.2.1 + 5)], ai G 256 (fun j => if 1 ≤ j ∧ j < 3 then (-1) else (upd (fun _ => 0) (0 : Int32).toNatClampNeg 0) j), ai G 500 (upd (fun _ => (-1)) (0 : Int32).toNatClampNeg 0), ai G 500 (upd (fun _ => 0) (0 : Int32).toNatClampNeg 0), ob 3 [.int 0, .int 0, .int 0, .int 0, .ref (G.2.1 + 7), .ref (G.2.1 + 8), .ref (G.2.1 + 9), .ref (G.2.1 + 10), .ref (G.2.1 + 11)], ai G 500 (fun _ => 0), ai G 500 (fun _ => 0), ai G 500 (fun _ => 0), ai G 500 (fun _ => 0), ai G 500 (fun _ => 0), ob 8 [.int 0, .int 0, .int 0, .int 0, .int 0, .int 0, .ref (G.2.1 + 13)], ai G 300 (fun _ => 0), ob 4 [.int 0, .ref (G.2.1 + 15), .ref (G.2.1 + 16)], ai G 1295 (fun _ => 0), ai G 1295 (fun _ => 0), ob 5 [.int 0, .int 0, .int 0, .int 0, .ref (G.2.1 + 18), .ref (G.2.1 + 19)], ai G 200 (fun _ => 0), ai G 8 (fun _ => (-1)), ai G 24 (fun _ => (-1)), ai G 32 (fun _ => (-1)), ai G 14 (fun _ => 0), ob 7 [.ref (G.2.1 + 1), .ref (G.2.1 + 2), .ref (G.2.1 + 6), .ref (G.2.1 + 22), .ref (G.2.1 + 24), .int 0, .ref (G.2.1 + 25), .ref (G.2.1 + 26), .int 0], ai G 500 (fun _ => 0), ai G 500 (fun _ => 0), ai G 500 (fun _ => 0), ob 0 [.ref (G.2.1 + 1), .ref (G.2.1 + 2), .ref (G.2.1 + 23), .int 0], ob 1 [.ref (G.2.1 + 29), .int 0, .int 0, .ref (G.2.1 + 30), .ref (G.2.1 + 31)], ai G 0 (fun _ => 0), ai G 500 (fun _ => 0), ai G 501 (fun _ => 0), ob 10 [.ref (G.2.1 + 33), .ref (G.2.1 + 34), .ref (G.2.1 + 35), .int 0, .int 0, .int 0, .int 0, .int 0, .ref (G.2.1 + 36), .ref (G.2.1 + 37), .ref (G.2.1 + 38), .ref (G.2.1 + 39), .int 0, .ref (G.2.1 + 40), .int 0, .ref (G.2.1 + 41)], ai G 26100 (sx 256), ai G 26100 (fun _ => 0), ai G 26100 (fun _ => 0), ai G 14 (fun _ => 0), ai G 500 (fun _ => 0), ai G 500 (fun _ => 0), az G 500 (fun _ => 0), ai G 501 (fun _ => 0), ai G 500 (fun _ => 0)])
  refine go_iload_n (pc := 0) dX9_findingIn_0 rfl rfl ?_
  refine go_bipush (pc := 1) (v := (-11)) dX9_findingIn_1 (by decide) ?_
  refine go_icmp_gt_t (pc := 3) (tgt := 19) dX9_findingIn_3 (by decide) (by decide) ?_
  refine go_iconst (pc := 19) (v := 0) dX9_findingIn_19 (by decide) ?_
  exact go_iret (pc := 20) rfl dX9_findingIn_20
set_option maxRecDepth 100000 in
set_option maxHeartbeats 4000000 in
theorem cX9_answer_5 {l : Launch} {G : gG} : Ct l G mX9_answer 1 20 [.ref (G.2.1 + 0), .int 0] 42 90324 (wl G.2.1 [ob 9 [.ref (G.2.1 + 1), .ref (G.2.1 + 23), .ref (G.2.1 + 27), .ref (G.2.1 + 28), .ref (G.2.1 + 22), .int 0, .int 0, .null, .int 0, .null, .int 0], ob 6 [.ref (G.2.1 + 2), .ref (G.2.1 + 6), .ref (G.2.1 + 12), .ref (G.2.1 + 14), .ref (G.2.1 + 17), .ref (G.2.1 + 20), .ref (G.2.1 + 21)], ob 2 [.int 256, .int 3, .int 1, .int 1, .ref (G.2.1 + 3), .ref (G.2.1 + 4), .ref (G.2.1 + 5)], ai G 256 (fun j => if 1 ≤ j ∧ j < 3 then (-1) else (upd (fun _ => 0) (0 : Int32).toNatClampNeg 0) j), ai G 500 (upd (fun _ => (-1)) (0 : Int32).toNatClampNeg 0), ai G 500 (upd (fun _ => 0) (0 : Int32).toNatClampNeg 0), ob 3 [.int 0, .int 0, .int 0, .int 0, .ref (G.2.1 + 7), .ref (G.2.1 + 8), .ref (G.2.1 + 9), .ref (G.2.1 + 10), .ref (G.2.1 + 11)], ai G 500 (fun _ => 0), ai G 500 (fun _ => 0), ai G 500 (fun _ => 0), ai G 500 (fun _ => 0), ai G 500 (fun _ => 0), ob 8 [.int 0, .int 0, .int 0, .int 0, .int 0, .int 0, .ref (G.2.1 + 13)], ai G 300 (fun _ => 0), ob 4 [.int 0, .ref (G.2.1 + 15), .ref (G.2.1 + 16)], ai G 1295 (fun _ => 0), ai G 1295 (fun _ => 0), ob 5 [.int 0, .int 0, .int 0, .int 0, .ref (G.2.1 + 18), .ref (G.2.1 + 19)], ai G 200 (fun _ => 0), ai G 8 (fun _ => (-1)), ai G 24 (fun _ => (-1)), ai G 32 (fun _ => (-1)), ai G 14 (fun _ => 0), ob 7 [.ref (G.2.1 + 1), .ref (G.2.1 + 2), .ref (G.2.1 + 6), .ref (G.2.1 + 22), .ref (G.2.1 + 24), .int 0, .ref (G.2.1 + 25), .ref (G.2.1 + 26), .int 0], ai G 500 (fun _ => 0), ai G 500 (fun _ => 0), ai G 500 (fun _ => 0), ob 0 [.ref (G.2.1 + 1), .ref (G.2.1 + 2), .ref (G.2.1 + 23), .int 0], ob 1 [.ref (G.2.1 + 29), .int 0, .int 0, .ref (G.2.1 + 30), .ref (G.2.1 + 31)], ai G 0 (fun _ => 0), ai G 500 (fun _ => 0), ai G 501 (fun _ => 0), ob 10 [.ref (G.2.1 + 33), .ref (G.2.1 + 34), .ref (G.2.1 + 35), .int 0, .int 0, .int 0, .int 0, .int 0, .ref (G.2.1 + 36), .ref (G.2.1 + 37), .ref (G.2.1 + 38), .ref (G.2.1 + 39), .int 0, .ref (G.2.1 + 40), .int 0, .ref (G.2.1 + 41)], ai G 26100 (sx 256), ai G 26100 (fun _ => 0), ai G 26100 (fun _ => 0), ai G 14 (fun _ => 0), ai G 500 (fun _ => 0), ai G 500 (fun _ => 0), az G 500 (fun _ => 0), ai G 501 (fun _ => 0), ai G 500 (fun _ => 0)]) (some (.int 0), 42, 90324, (wl G.2.1 [ob 9 [.ref (G.2.1 + 1), .ref (G.2.1 + 23), .ref (G.2.1 + 27), .ref (G.2.1 + 28), .ref (G.2.1 + 22), .int 0, .int 0, .null, .int 0, .null, .int 0], ob 6 [.ref (G.2.1 + 2), .ref (G.2.1 + 6), .ref (G.2.1 + 12), .ref (G.2.1 + 14), .ref (G.2.1 + 17), .ref (G.2.1 + 20), .ref (G.2.1 + 21)], ob 2 [.int 256, .int 3, .int 1, .int 1, .ref (G.2.1 + 3), .ref (G.2.1 + 4), .ref (G.2.1 + 5)], ai G 256 (fun j => if 1 ≤ j ∧ j < 3 then (-1) else (upd (fun _ => 0) (0 : Int32).toNatClampNeg 0) j), ai G 500 (upd (fun _ => (-1)) (0 : Int32).toNatClampNeg 0), ai G 500 (upd (fun _ => 0) (0 : Int32).toNatClampNeg 0), ob 3 [.int 0, .int 0, .int 0, .int 0, .ref (G.2.1 + 7), .ref (G.2.1 + 8), .ref (G.2.1 + 9), .ref (G.2.1 + 10), .ref (G.2.1 + 11)], ai G 500 (fun _ => 0), ai G 500 (fun _ => 0), ai G 500 (fun _ => 0), ai G 500 (fun _ => 0), ai G 500 (fun _ => 0), ob 8 [.int 0, .int 0, .int 0, .int 0, .int 0, .int 0, .ref (G.2.1 + 13)], ai G 300 (fun _ => 0), ob 4 [.int 0, .ref (G.2.1 + 15), .ref (G.2.1 + 16)], ai G 1295 (fun _ => 0), ai G 1295 (fun _ => 0), ob 5 [.int 0, .int 0, .int 0, .int 0, .ref (G.2.1 + 18), .ref (G.2.1 + 19)], ai G 200 (fun _ => 0), ai G 8 (fun _ => (-1)), ai G 24 (fun _ => (-1)), ai G 32 (fun _ => (-1)), ai G 14 (fun _ => 0), ob 7 [.ref (G.2.1 + 1), .ref (G.2.1 + 2), .ref (G.2.1 + 6), .ref (G.2.1 + 22), .ref (G.2.1 + 24), .int 0, .ref (G.2.1 + 25), .ref (G.2.1 + 26), .int 0], ai G 500 (fun _ => 0), ai G 500 (fun _ => 0), ai G 500 (fun _ => 0), ob 0 [.ref (G.2.1 + 1), .ref (G.2.1 + 2), .ref (G.2.1 + 23), .int 0], ob 1 [.ref (G.2.1 + 29), .int 0, .int 0, .ref (G.2.1 + 30), .ref (G.2.1 + 31)], ai G 0 (fun _ => 0), ai G 500 (fun _ => 0), ai G 501 (fun _ => 0), ob 10 [.ref (G.2.1 + 33), .ref (G.2.1 + 34), .ref (G.2.1 + 35), .int 0, .int 0, .int 0, .int 0, .int 0, .ref (G.2.1 + 36), .ref (G.2.1 + 37), .ref (G.2.1 + 38), .ref (G.2.1 + 39), .int 0, .ref (G.2.1 + 40), .int 0, .ref (G.2.1 + 41)], ai G 26100 (sx 256), ai G 26100 (fun _ => 0), ai G 26100 (fun _ => 0), ai G 14 (fun _ => 0), ai G 500 (fun _ => 0), ai G 500 (fun _ => 0), az G 500 (fun _ => 0), ai G 501 (fun _ => 0), ai G 500 (fun _ => 0)])) := by
  refine Ct.of (by decide) (Nat.le_of_ble_eq_true rfl) ⟨Nat.le_refl _, Nat.le_refl _⟩ ?_
  show Go l G mX9_answer _ 0 [(0, .ref (G.2.1 + 0)), (1, .int 0)] [] 42 90324 (wl G.2.1 [ob 9 [.ref (G.2.1 + 1), .ref (G.2.1 + 23), .ref (G.2.1 + 27), .ref (G.2.1 + 28), .ref (G.2.1 + 22), .int 0, .int 0, .null, .int 0, .null, .int 0], ob 6 [.ref (G.2.1 + 2), .ref (G.2.1 + 6), .ref (G.2.1 + 12), .ref (G.2.1 + 14), .ref (G.2.1 + 17), .ref (G.2.1 + 20), .ref (G.2.1 + 21)], ob 2 [.int 256, .int 3, .int 1, .int 1, .ref (G.2.1 + 3), .ref (G.2.1 + 4), .ref (G.2.1 + 5)], ai G 256 (fun j => if 1 ≤ j ∧ j < 3 then (-1) else (upd (fun _ => 0) (0 : Int32).toNatClampNeg 0) j), ai G 500 (upd (fun _ => (-1)) (0 : Int32).toNatClampNeg 0), ai G 500 (upd (fun _ => 0) (0 : Int32).toNatClampNeg 0), ob 3 [.int 0, .int 0, .int 0, .int 0, .ref (G.2.1 + 7), .ref (G.2.1 + 8), .ref (G.2.1 + 9), .ref (G.2.1 + 10), .ref (G.2.1 + 11)], ai G 500 (fun _ => 0), ai G 500 (fun _ => 0), ai G 500 (fun _ => 0), ai G 500 (fun _ => 0), ai G 500 (fun _ => 0), ob 8 [.int 0, .int 0, .int 0, .int 0, .int 0, .int 0, .ref (G.2.1 + 13)], ai G 300 (fun _ => 0), ob 4 [.int 0, .ref (G.2.1 + 15), .ref (G.2.1 + 16)], ai G 1295 (fun _ => 0), ai G 1295 (fun _ => 0), ob 5 [.int 0, .int 0, .int 0, .int 0, .ref (G.2.1 + 18), .ref (G.2.1 + 19)], ai G 200 (fun _ => 0), ai G 8 (fun _ => (-1)), ai G 24 (fun _ => (-1)), ai G 32 (fun _ => (-1)), ai G 14 (fun _ => 0), ob 7 [.ref (G.2.1 + 1), .ref (G.2.1 + 2), .ref (G.2.1 + 6), .ref (G.2.1 + 22), .ref (G.2.1 + 24), .int 0, .ref (G.2.1 + 25), .ref (G.2.1 + 26), .int 0], ai G 500 (fun _ => 0), ai G 500 (fun _ => 0), ai G 500 (fun _ => 0), ob 0 [.ref (G.2.1 + 1), .ref (G.2.1 + 2), .ref (G.2.1 + 23), .int 0], ob 1 [.ref (G.2.1 + 29), .int 0, .int 0, .ref (G.2.1 + 30), .ref (G.2.1 + 31)], ai G 0 (fun _ => 0), ai G 500 (fun _ => 0), ai G 501 (fun _ => 0), ob 10 [.ref (G.2.1 + 33), .ref (G.2.1 + 34), .ref (G.2.1 + 35), .int 0, .int 0, .int 0, .int 0, .int 0, .ref (G.2.1 + 36), .ref (G.2.1 + 37), .ref (G.2.1 + 38), .ref (G.2.1 + 39), .int 0, .ref (G.2.1 + 40), .int 0, .ref (G.2.1 + 41)], ai G 26100 (sx 256), ai G 26100 (fun _ => 0), ai G 26100 (fun _ => 0), ai G 14 (fun _ => 0), ai G 500 (fun _ => 0), ai G 500 (fun _ => 0), az G 500 (fun _ => 0), ai G 501 (fun _ => 0), ai G 500 (fun _ => 0)])
  refine go_aload_n (pc := 0) dX9_answer_0 rfl rfl ?_
  refine go_iload_n (pc := 1) dX9_answer_1 rfl rfl ?_
  refine go_callS_i (pc := 2) sX9_302 rfl (cX9_findingIn_5) rfl rfl (Nat.le_of_ble_eq_true rfl) ⟨Nat.le_of_ble_eq_true rfl, Nat.le_of_ble_eq_true rfl, (Nat.le_add_right _ _), (Nat.le_add_right _ _)⟩ dX9_answer_2 ?_
  refine go_put (pc := 5) fX9_53 rfl (gz_b (by decide)) (wl_at (i := 0) rfl) (Nat.le_of_ble_eq_true rfl) rfl rfl dX9_answer_5 ?_
  refine go_ext (wl_up (i := 0) rfl rfl) ?_
  refine go_iload_n (pc := 8) dX9_answer_8 rfl rfl ?_
  refine go_w (show _ = wl G.2.1 [ob 9 [.ref (G.2.1 + 1), .ref (G.2.1 + 23), .ref (G.2.1 + 27), .ref (G.2.1 + 28), .ref (G.2.1 + 22), .int 0, .int 0, .null, .int 0, .null, .int 0], ob 6 [.ref (G.2.1 + 2), .ref (G.2.1 + 6), .ref (G.2.1 + 12), .ref (G.2.1 + 14), .ref (G.2.1 + 17), .ref (G.2.1 + 20), .ref (G.2.1 + 21)], ob 2 [.int 256, .int 3, .int 1, .int 1, .ref (G.2.1 + 3), .ref (G.2.1 + 4), .ref (G.2.1 + 5)], ai G 256 (fun j => if 1 ≤ j ∧ j < 3 then (-1) else (upd (fun _ => 0) (0 : Int32).toNatClampNeg 0) j), ai G 500 (upd (fun _ => (-1)) (0 : Int32).toNatClampNeg 0), ai G 500 (upd (fun _ => 0) (0 : Int32).toNatClampNeg 0), ob 3 [.int 0, .int 0, .int 0, .int 0, .ref (G.2.1 + 7), .ref (G.2.1 + 8), .ref (G.2.1 + 9), .ref (G.2.1 + 10), .ref (G.2.1 + 11)], ai G 500 (fun _ => 0), ai G 500 (fun _ => 0), ai G 500 (fun _ => 0), ai G 500 (fun _ => 0), ai G 500 (fun _ => 0), ob 8 [.int 0, .int 0, .int 0, .int 0, .int 0, .int 0, .ref (G.2.1 + 13)], ai G 300 (fun _ => 0), ob 4 [.int 0, .ref (G.2.1 + 15), .ref (G.2.1 + 16)], ai G 1295 (fun _ => 0), ai G 1295 (fun _ => 0), ob 5 [.int 0, .int 0, .int 0, .int 0, .ref (G.2.1 + 18), .ref (G.2.1 + 19)], ai G 200 (fun _ => 0), ai G 8 (fun _ => (-1)), ai G 24 (fun _ => (-1)), ai G 32 (fun _ => (-1)), ai G 14 (fun _ => 0), ob 7 [.ref (G.2.1 + 1), .ref (G.2.1 + 2), .ref (G.2.1 + 6), .ref (G.2.1 + 22), .ref (G.2.1 + 24), .int 0, .ref (G.2.1 + 25), .ref (G.2.1 + 26), .int 0], ai G 500 (fun _ => 0), ai G 500 (fun _ => 0), ai G 500 (fun _ => 0), ob 0 [.ref (G.2.1 + 1), .ref (G.2.1 + 2), .ref (G.2.1 + 23), .int 0], ob 1 [.ref (G.2.1 + 29), .int 0, .int 0, .ref (G.2.1 + 30), .ref (G.2.1 + 31)], ai G 0 (fun _ => 0), ai G 500 (fun _ => 0), ai G 501 (fun _ => 0), ob 10 [.ref (G.2.1 + 33), .ref (G.2.1 + 34), .ref (G.2.1 + 35), .int 0, .int 0, .int 0, .int 0, .int 0, .ref (G.2.1 + 36), .ref (G.2.1 + 37), .ref (G.2.1 + 38), .ref (G.2.1 + 39), .int 0, .ref (G.2.1 + 40), .int 0, .ref (G.2.1 + 41)], ai G 26100 (sx 256), ai G 26100 (fun _ => 0), ai G 26100 (fun _ => 0), ai G 14 (fun _ => 0), ai G 500 (fun _ => 0), ai G 500 (fun _ => 0), az G 500 (fun _ => 0), ai G 501 (fun _ => 0), ai G 500 (fun _ => 0)] from rfl) ?_
  exact go_iret (pc := 9) rfl dX9_answer_9
set_option maxRecDepth 100000 in
set_option maxHeartbeats 4000000 in
theorem cx_make_0_o {l : Launch} {G : gG} (x2 : Int32) : Ct l G mX9_make 4 94 [.ref (G.2.1 + 0), .int 0, .int x2] 42 90324 (wl G.2.1 (LF G)) (some (.int 0), 42, 90324, (wl G.2.1 [ob 9 [.ref (G.2.1 + 1), .ref (G.2.1 + 23), .ref (G.2.1 + 27), .ref (G.2.1 + 28), .ref (G.2.1 + 22), .int 0, .int 0, .null, .int 0, .null, .int 0], ob 6 [.ref (G.2.1 + 2), .ref (G.2.1 + 6), .ref (G.2.1 + 12), .ref (G.2.1 + 14), .ref (G.2.1 + 17), .ref (G.2.1 + 20), .ref (G.2.1 + 21)], ob 2 [.int 256, .int 3, .int 1, .int 1, .ref (G.2.1 + 3), .ref (G.2.1 + 4), .ref (G.2.1 + 5)], ai G 256 (fun j => if 1 ≤ j ∧ j < 3 then (-1) else (upd (fun _ => 0) (0 : Int32).toNatClampNeg 0) j), ai G 500 (upd (fun _ => (-1)) (0 : Int32).toNatClampNeg 0), ai G 500 (upd (fun _ => 0) (0 : Int32).toNatClampNeg 0), ob 3 [.int 0, .int 0, .int 0, .int 0, .ref (G.2.1 + 7), .ref (G.2.1 + 8), .ref (G.2.1 + 9), .ref (G.2.1 + 10), .ref (G.2.1 + 11)], ai G 500 (fun _ => 0), ai G 500 (fun _ => 0), ai G 500 (fun _ => 0), ai G 500 (fun _ => 0), ai G 500 (fun _ => 0), ob 8 [.int 0, .int 0, .int 0, .int 0, .int 0, .int 0, .ref (G.2.1 + 13)], ai G 300 (fun _ => 0), ob 4 [.int 0, .ref (G.2.1 + 15), .ref (G.2.1 + 16)], ai G 1295 (fun _ => 0), ai G 1295 (fun _ => 0), ob 5 [.int 0, .int 0, .int 0, .int 0, .ref (G.2.1 + 18), .ref (G.2.1 + 19)], ai G 200 (fun _ => 0), ai G 8 (fun _ => (-1)), ai G 24 (fun _ => (-1)), ai G 32 (fun _ => (-1)), ai G 14 (fun _ => 0), ob 7 [.ref (G.2.1 + 1), .ref (G.2.1 + 2), .ref (G.2.1 + 6), .ref (G.2.1 + 22), .ref (G.2.1 + 24), .int 0, .ref (G.2.1 + 25), .ref (G.2.1 + 26), .int 0], ai G 500 (fun _ => 0), ai G 500 (fun _ => 0), ai G 500 (fun _ => 0), ob 0 [.ref (G.2.1 + 1), .ref (G.2.1 + 2), .ref (G.2.1 + 23), .int 0], ob 1 [.ref (G.2.1 + 29), .int 0, .int 0, .ref (G.2.1 + 30), .ref (G.2.1 + 31)], ai G 0 (fun _ => 0), ai G 500 (fun _ => 0), ai G 501 (fun _ => 0), ob 10 [.ref (G.2.1 + 33), .ref (G.2.1 + 34), .ref (G.2.1 + 35), .int 0, .int 0, .int 0, .int 0, .int 0, .ref (G.2.1 + 36), .ref (G.2.1 + 37), .ref (G.2.1 + 38), .ref (G.2.1 + 39), .int 0, .ref (G.2.1 + 40), .int 0, .ref (G.2.1 + 41)], ai G 26100 (sx 256), ai G 26100 (fun _ => 0), ai G 26100 (fun _ => 0), ai G 14 (fun _ => 0), ai G 500 (fun _ => 0), ai G 500 (fun _ => 0), az G 500 (fun _ => 0), ai G 501 (fun _ => 0), ai G 500 (fun _ => 0)])) := by
  refine Ct.of (by decide) (Nat.le_of_ble_eq_true rfl) ⟨Nat.le_refl _, Nat.le_refl _⟩ ?_
  show Go l G mX9_make _ 0 [(0, .ref (G.2.1 + 0)), (1, .int 0), (2, .int x2)] [] 42 90324 (wl G.2.1 (LF G))
  refine go_iload_n (pc := 0) dX9_make_0 rfl rfl ?_
  refine go_iload_n (pc := 1) dX9_make_1 rfl rfl ?_
  refine go_callS_i (pc := 2) sX9_66 rfl (cX9_isOutsideOfMaking_2 x2) rfl rfl (Nat.le_of_ble_eq_true rfl) ⟨Nat.le_of_ble_eq_true rfl, Nat.le_of_ble_eq_true rfl, (Nat.le_add_right _ _), (Nat.le_add_right _ _)⟩ dX9_make_2 ?_
  refine go_if_eq_t (pc := 5) (tgt := 11) dX9_make_5 (by decide) (by decide) ?_
  refine go_aload_n (pc := 11) dX9_make_11 rfl rfl ?_
  refine go_aload_n (pc := 12) dX9_make_12 rfl rfl ?_
  refine go_get (pc := 13) fX9_34 rfl (gz_b (by decide)) (wl_at (i := 0) rfl) rfl dX9_make_13 ?_
  refine go_iload_n (pc := 16) dX9_make_16 rfl rfl ?_
  refine go_iload_n (pc := 17) dX9_make_17 rfl rfl ?_
  refine go_callV_i (pc := 18) vX9_70 rfl (cX0_makeCell_1 x2) rfl rfl (gz_b (by decide)) (wl_at (i := 27) rfl) rfl (Nat.le_of_ble_eq_true rfl) ⟨Nat.le_of_ble_eq_true rfl, Nat.le_of_ble_eq_true rfl, (Nat.le_add_right _ _), (Nat.le_add_right _ _)⟩ dX9_make_18 ?_
  refine go_callV_i (pc := 21) vX9_74 rfl (cX9_answer_5) rfl rfl (gz_b (by decide)) (wl_at (i := 0) rfl) rfl (Nat.le_of_ble_eq_true rfl) ⟨Nat.le_of_ble_eq_true rfl, Nat.le_of_ble_eq_true rfl, (Nat.le_add_right _ _), (Nat.le_add_right _ _)⟩ dX9_make_21 ?_
  exact go_iret (pc := 24) rfl dX9_make_24
theorem cx_make_0 {l : Launch} {G : gG} (x2 : Int32) : CX l G mX9_make [.ref (G.2.1 + 0), .int 0, .int x2] 0 := by
  exact ⟨4, 94, 42, 90324, _, by decide, by decide, by decide, by decide, by decide, (by exact wl_frame rfl), cx_make_0_o x2⟩
set_option maxRecDepth 100000 in
set_option maxHeartbeats 4000000 in
theorem cX2_isCounted_4 {l : Launch} {G : gG} : Ct l G mX2_isCounted 0 0 [.int 3] 42 90324 (wl G.2.1 (LF G)) (some (.int 0), 42, 90324, (wl G.2.1 (LF G))) := by
  refine Ct.of (by decide) (Nat.le_of_ble_eq_true rfl) ⟨Nat.le_refl _, Nat.le_refl _⟩ ?_
  show Go l G mX2_isCounted _ 0 [(0, .int 3)] [] 42 90324 (wl G.2.1 (LF G))
  refine go_iload_n (pc := 0) dX2_isCounted_0 rfl rfl ?_
  refine go_iconst (pc := 1) (v := 1) dX2_isCounted_1 (by decide) ?_
  refine go_icmp_eq_f (pc := 2) (tgt := 15) dX2_isCounted_2 (by decide) (by decide) ?_
  refine go_iload_n (pc := 5) dX2_isCounted_5 rfl rfl ?_
  refine go_iconst (pc := 6) (v := 2) dX2_isCounted_6 (by decide) ?_
  refine go_icmp_eq_f (pc := 7) (tgt := 15) dX2_isCounted_7 (by decide) (by decide) ?_
  refine go_iload_n (pc := 10) dX2_isCounted_10 rfl rfl ?_
  refine go_iconst (pc := 11) (v := 5) dX2_isCounted_11 (by decide) ?_
  refine go_icmp_ne_t (pc := 12) (tgt := 19) dX2_isCounted_12 (by decide) (by decide) ?_
  refine go_iconst (pc := 19) (v := 0) dX2_isCounted_19 (by decide) ?_
  exact go_zret (pc := 20) rfl rfl dX2_isCounted_20
set_option maxRecDepth 100000 in
set_option maxHeartbeats 4000000 in
theorem cX9_isOutsideOfMaking_3 {l : Launch} {G : gG} (x2 : Int32) : Ct l G mX9_isOutsideOfMaking 1 20 [.int 3, .int x2] 42 90324 (wl G.2.1 (LF G)) (some (.int 0), 42, 90324, (wl G.2.1 (LF G))) := by
  refine Ct.of (by decide) (Nat.le_of_ble_eq_true rfl) ⟨Nat.le_refl _, Nat.le_refl _⟩ ?_
  show Go l G mX9_isOutsideOfMaking _ 0 [(0, .int 3), (1, .int x2)] [] 42 90324 (wl G.2.1 (LF G))
  refine go_iload_n (pc := 0) dX9_isOutsideOfMaking_0 rfl rfl ?_
  refine go_if_lt_f (pc := 1) (tgt := 24) dX9_isOutsideOfMaking_1 (by decide) (by decide) ?_
  refine go_iload_n (pc := 4) dX9_isOutsideOfMaking_4 rfl rfl ?_
  refine go_bipush (pc := 5) (v := 6) dX9_isOutsideOfMaking_5 (by decide) ?_
  refine go_icmp_ge_f (pc := 7) (tgt := 24) dX9_isOutsideOfMaking_7 (by decide) (by decide) ?_
  refine go_iload_n (pc := 10) dX9_isOutsideOfMaking_10 rfl rfl ?_
  refine go_callS_i (pc := 11) sX9_326 rfl (cX2_isCounted_4) rfl rfl (Nat.le_of_ble_eq_true rfl) ⟨Nat.le_of_ble_eq_true rfl, Nat.le_of_ble_eq_true rfl, (Nat.le_add_right _ _), (Nat.le_add_right _ _)⟩ dX9_isOutsideOfMaking_11 ?_
  refine go_if_eq_t (pc := 14) (tgt := 28) dX9_isOutsideOfMaking_14 (by decide) (by decide) ?_
  refine go_iconst (pc := 28) (v := 0) dX9_isOutsideOfMaking_28 (by decide) ?_
  exact go_zret (pc := 29) rfl rfl dX9_isOutsideOfMaking_29
set_option maxRecDepth 100000 in
set_option maxHeartbeats 4000000 in
theorem cX2_intsFor_3 {l : Launch} {G : gG} : Ct l G mX2_intsFor 0 0 [.int 3, .int 0] 42 90324 (wl G.2.1 (LF G)) (some (.int 3), 42, 90324, (wl G.2.1 (LF G))) := by
  refine Ct.of (by decide) (Nat.le_of_ble_eq_true rfl) ⟨Nat.le_refl _, Nat.le_refl _⟩ ?_
  show Go l G mX2_intsFor _ 0 [(0, .int 3), (1, .int 0)] [] 42 90324 (wl G.2.1 (LF G))
  refine go_iload_n (pc := 0) dX2_intsFor_0 rfl rfl ?_
  refine go_tableIn (pc := 1) (off := 55) (tgt := 56) dX2_intsFor_1 (by decide) (by decide) (by decide) (by decide) ?_
  refine go_iconst (pc := 56) (v := 3) dX2_intsFor_56 (by decide) ?_
  exact go_iret (pc := 57) rfl dX2_intsFor_57
set_option maxRecDepth 100000 in
set_option maxHeartbeats 4000000 in
theorem cX2_isCounted_5 {l : Launch} {G : gG} : Ct l G mX2_isCounted 0 0 [.int 3] 42 90324 (wl G.2.1 [ob 9 [.ref (G.2.1 + 1), .ref (G.2.1 + 23), .ref (G.2.1 + 27), .ref (G.2.1 + 28), .ref (G.2.1 + 22), .int 0, .int 0, .null, .int 0, .null, .int 0], ob 6 [.ref (G.2.1 + 2), .ref (G.2.1 + 6), .ref (G.2.1 + 12), .ref (G.2.1 + 14), .ref (G.2.1 + 17), .ref (G.2.1 + 20), .ref (G.2.1 + 21)], ob 2 [.int 256, .int 0, .int 0, .int 0, .ref (G.2.1 + 3), .ref (G.2.1 + 4), .ref (G.2.1 + 5)], ai G 256 (upd (fun _ => 0) (0 : Int32).toNatClampNeg 3), ai G 500 (fun _ => (-1)), ai G 500 (fun _ => 0), ob 3 [.int 0, .int 0, .int 0, .int 0, .ref (G.2.1 + 7), .ref (G.2.1 + 8), .ref (G.2.1 + 9), .ref (G.2.1 + 10), .ref (G.2.1 + 11)], ai G 500 (fun _ => 0), ai G 500 (fun _ => 0), ai G 500 (fun _ => 0), ai G 500 (fun _ => 0), ai G 500 (fun _ => 0), ob 8 [.int 0, .int 0, .int 0, .int 0, .int 0, .int 0, .ref (G.2.1 + 13)], ai G 300 (fun _ => 0), ob 4 [.int 0, .ref (G.2.1 + 15), .ref (G.2.1 + 16)], ai G 1295 (fun _ => 0), ai G 1295 (fun _ => 0), ob 5 [.int 0, .int 0, .int 0, .int 0, .ref (G.2.1 + 18), .ref (G.2.1 + 19)], ai G 200 (fun _ => 0), ai G 8 (fun _ => (-1)), ai G 24 (fun _ => (-1)), ai G 32 (fun _ => (-1)), ai G 14 (fun _ => 0), ob 7 [.ref (G.2.1 + 1), .ref (G.2.1 + 2), .ref (G.2.1 + 6), .ref (G.2.1 + 22), .ref (G.2.1 + 24), .int 0, .ref (G.2.1 + 25), .ref (G.2.1 + 26), .int 0], ai G 500 (fun _ => 0), ai G 500 (fun _ => 0), ai G 500 (fun _ => 0), ob 0 [.ref (G.2.1 + 1), .ref (G.2.1 + 2), .ref (G.2.1 + 23), .int 0], ob 1 [.ref (G.2.1 + 29), .int 0, .int 0, .ref (G.2.1 + 30), .ref (G.2.1 + 31)], ai G 0 (fun _ => 0), ai G 500 (fun _ => 0), ai G 501 (fun _ => 0), ob 10 [.ref (G.2.1 + 33), .ref (G.2.1 + 34), .ref (G.2.1 + 35), .int 0, .int 0, .int 0, .int 0, .int 0, .ref (G.2.1 + 36), .ref (G.2.1 + 37), .ref (G.2.1 + 38), .ref (G.2.1 + 39), .int 0, .ref (G.2.1 + 40), .int 0, .ref (G.2.1 + 41)], ai G 26100 (sx 256), ai G 26100 (fun _ => 0), ai G 26100 (fun _ => 0), ai G 14 (fun _ => 0), ai G 500 (fun _ => 0), ai G 500 (fun _ => 0), az G 500 (fun _ => 0), ai G 501 (fun _ => 0), ai G 500 (fun _ => 0)]) (some (.int 0), 42, 90324, (wl G.2.1 [ob 9 [.ref (G.2.1 + 1), .ref (G.2.1 + 23), .ref (G.2.1 + 27), .ref (G.2.1 + 28), .ref (G.2.1 + 22), .int 0, .int 0, .null, .int 0, .null, .int 0], ob 6 [.ref (G.2.1 + 2), .ref (G.2.1 + 6), .ref (G.2.1 + 12), .ref (G.2.1 + 14), .ref (G.2.1 + 17), .ref (G.2.1 + 20), .ref (G.2.1 + 21)], ob 2 [.int 256, .int 0, .int 0, .int 0, .ref (G.2.1 + 3), .ref (G.2.1 + 4), .ref (G.2.1 + 5)], ai G 256 (upd (fun _ => 0) (0 : Int32).toNatClampNeg 3), ai G 500 (fun _ => (-1)), ai G 500 (fun _ => 0), ob 3 [.int 0, .int 0, .int 0, .int 0, .ref (G.2.1 + 7), .ref (G.2.1 + 8), .ref (G.2.1 + 9), .ref (G.2.1 + 10), .ref (G.2.1 + 11)], ai G 500 (fun _ => 0), ai G 500 (fun _ => 0), ai G 500 (fun _ => 0), ai G 500 (fun _ => 0), ai G 500 (fun _ => 0), ob 8 [.int 0, .int 0, .int 0, .int 0, .int 0, .int 0, .ref (G.2.1 + 13)], ai G 300 (fun _ => 0), ob 4 [.int 0, .ref (G.2.1 + 15), .ref (G.2.1 + 16)], ai G 1295 (fun _ => 0), ai G 1295 (fun _ => 0), ob 5 [.int 0, .int 0, .int 0, .int 0, .ref (G.2.1 + 18), .ref (G.2.1 + 19)], ai G 200 (fun _ => 0), ai G 8 (fun _ => (-1)), ai G 24 (fun _ => (-1)), ai G 32 (fun _ => (-1)), ai G 14 (fun _ => 0), ob 7 [.ref (G.2.1 + 1), .ref (G.2.1 + 2), .ref (G.2.1 + 6), .ref (G.2.1 + 22), .ref (G.2.1 + 24), .int 0, .ref (G.2.1 + 25), .ref (G.2.1 + 26), .int 0], ai G 500 (fun _ => 0), ai G 500 (fun _ => 0), ai G 500 (fun _ => 0), ob 0 [.ref (G.2.1 + 1), .ref (G.2.1 + 2), .ref (G.2.1 + 23), .int 0], ob 1 [.ref (G.2.1 + 29), .int 0, .int 0, .ref (G.2.1 + 30), .ref (G.2.1 + 31)], ai G 0 (fun _ => 0), ai G 500 (fun _ => 0), ai G 501 (fun _ => 0), ob 10 [.ref (G.2.1 + 33), .ref (G.2.1 + 34), .ref (G.2.1 + 35), .int 0, .int 0, .int 0, .int 0, .int 0, .ref (G.2.1 + 36), .ref (G.2.1 + 37), .ref (G.2.1 + 38), .ref (G.2.1 + 39), .int 0, .ref (G.2.1 + 40), .int 0, .ref (G.2.1 + 41)], ai G 26100 (sx 256), ai G 26100 (fun _ => 0), ai G 26100 (fun _ => 0), ai G 14 (fun _ => 0), ai G 500 (fun _ => 0), ai G 500 (fun _ => 0), az G 500 (fun _ => 0), ai G 501 (fun _ => 0), ai G 500 (fun _ => 0)])) := by
  refine Ct.of (by decide) (Nat.le_of_ble_eq_true rfl) ⟨Nat.le_refl _, Nat.le_refl _⟩ ?_
  show Go l G mX2_isCounted _ 0 [(0, .int 3)] [] 42 90324 (wl G.2.1 [ob 9 [.ref (G.2.1 + 1), .ref (G.2.1 + 23), .ref (G.2.1 + 27), .ref (G.2.1 + 28), .ref (G.2.1 + 22), .int 0, .int 0, .null, .int 0, .null, .int 0], ob 6 [.ref (G.2.1 + 2), .ref (G.2.1 + 6), .ref (G.2.1 + 12), .ref (G.2.1 + 14), .ref (G.2.1 + 17), .ref (G.2.1 + 20), .ref (G.2.1 + 21)], ob 2 [.int 256, .int 0, .int 0, .int 0, .ref (G.2.1 + 3), .ref (G.2.1 + 4), .ref (G.2.1 + 5)], ai G 256 (upd (fun _ => 0) (0 : Int32).toNatClampNeg 3), ai G 500 (fun _ => (-1)), ai G 500 (fun _ => 0), ob 3 [.int 0, .int 0, .int 0, .int 0, .ref (G.2.1 + 7), .ref (G.2.1 + 8), .ref (G.2.1 + 9), .ref (G.2.1 + 10), .ref (G.2.1 + 11)], ai G 500 (fun _ => 0), ai G 500 (fun _ => 0), ai G 500 (fun _ => 0), ai G 500 (fun _ => 0), ai G 500 (fun _ => 0), ob 8 [.int 0, .int 0, .int 0, .int 0, .int 0, .int 0, .ref (G.2.1 + 13)], ai G 300 (fun _ => 0), ob 4 [.int 0, .ref (G.2.1 + 15), .ref (G.2.1 + 16)], ai G 1295 (fun _ => 0), ai G 1295 (fun _ => 0), ob 5 [.int 0, .int 0, .int 0, .int 0, .ref (G.2.1 + 18), .ref (G.2.1 + 19)], ai G 200 (fun _ => 0), ai G 8 (fun _ => (-1)), ai G 24 (fun _ => (-1)), ai G 32 (fun _ => (-1)), ai G 14 (fun _ => 0), ob 7 [.ref (G.2.1 + 1), .ref (G.2.1 + 2), .ref (G.2.1 + 6), .ref (G.2.1 + 22), .ref (G.2.1 + 24), .int 0, .ref (G.2.1 + 25), .ref (G.2.1 + 26), .int 0], ai G 500 (fun _ => 0), ai G 500 (fun _ => 0), ai G 500 (fun _ => 0), ob 0 [.ref (G.2.1 + 1), .ref (G.2.1 + 2), .ref (G.2.1 + 23), .int 0], ob 1 [.ref (G.2.1 + 29), .int 0, .int 0, .ref (G.2.1 + 30), .ref (G.2.1 + 31)], ai G 0 (fun _ => 0), ai G 500 (fun _ => 0), ai G 501 (fun _ => 0), ob 10 [.ref (G.2.1 + 33), .ref (G.2.1 + 34), .ref (G.2.1 + 35), .int 0, .int 0, .int 0, .int 0, .int 0, .ref (G.2.1 + 36), .ref (G.2.1 + 37), .ref (G.2.1 + 38), .ref (G.2.1 + 39), .int 0, .ref (G.2.1 + 40), .int 0, .ref (G.2.1 + 41)], ai G 26100 (sx 256), ai G 26100 (fun _ => 0), ai G 26100 (fun _ => 0), ai G 14 (fun _ => 0), ai G 500 (fun _ => 0), ai G 500 (fun _ => 0), az G 500 (fun _ => 0), ai G 501 (fun _ => 0), ai G 500 (fun _ => 0)])
  refine go_iload_n (pc := 0) dX2_isCounted_0 rfl rfl ?_
  refine go_iconst (pc := 1) (v := 1) dX2_isCounted_1 (by decide) ?_
  refine go_icmp_eq_f (pc := 2) (tgt := 15) dX2_isCounted_2 (by decide) (by decide) ?_
  refine go_iload_n (pc := 5) dX2_isCounted_5 rfl rfl ?_
  refine go_iconst (pc := 6) (v := 2) dX2_isCounted_6 (by decide) ?_
  refine go_icmp_eq_f (pc := 7) (tgt := 15) dX2_isCounted_7 (by decide) (by decide) ?_
  refine go_iload_n (pc := 10) dX2_isCounted_10 rfl rfl ?_
  refine go_iconst (pc := 11) (v := 5) dX2_isCounted_11 (by decide) ?_
  refine go_icmp_ne_t (pc := 12) (tgt := 19) dX2_isCounted_12 (by decide) (by decide) ?_
  refine go_iconst (pc := 19) (v := 0) dX2_isCounted_19 (by decide) ?_
  exact go_zret (pc := 20) rfl rfl dX2_isCounted_20
set_option maxRecDepth 100000 in
set_option maxHeartbeats 4000000 in
theorem cX2_intsFor_4 {l : Launch} {G : gG} : Ct l G mX2_intsFor 0 0 [.int 3, .int 0] 42 90324 (wl G.2.1 [ob 9 [.ref (G.2.1 + 1), .ref (G.2.1 + 23), .ref (G.2.1 + 27), .ref (G.2.1 + 28), .ref (G.2.1 + 22), .int 0, .int 0, .null, .int 0, .null, .int 0], ob 6 [.ref (G.2.1 + 2), .ref (G.2.1 + 6), .ref (G.2.1 + 12), .ref (G.2.1 + 14), .ref (G.2.1 + 17), .ref (G.2.1 + 20), .ref (G.2.1 + 21)], ob 2 [.int 256, .int 0, .int 0, .int 0, .ref (G.2.1 + 3), .ref (G.2.1 + 4), .ref (G.2.1 + 5)], ai G 256 (fun j => if 1 ≤ j ∧ j < 3 then (-1) else (upd (fun _ => 0) (0 : Int32).toNatClampNeg 3) j), ai G 500 (upd (fun _ => (-1)) (0 : Int32).toNatClampNeg 0), ai G 500 (upd (fun _ => 0) (0 : Int32).toNatClampNeg 0), ob 3 [.int 0, .int 0, .int 0, .int 0, .ref (G.2.1 + 7), .ref (G.2.1 + 8), .ref (G.2.1 + 9), .ref (G.2.1 + 10), .ref (G.2.1 + 11)], ai G 500 (fun _ => 0), ai G 500 (fun _ => 0), ai G 500 (fun _ => 0), ai G 500 (fun _ => 0), ai G 500 (fun _ => 0), ob 8 [.int 0, .int 0, .int 0, .int 0, .int 0, .int 0, .ref (G.2.1 + 13)], ai G 300 (fun _ => 0), ob 4 [.int 0, .ref (G.2.1 + 15), .ref (G.2.1 + 16)], ai G 1295 (fun _ => 0), ai G 1295 (fun _ => 0), ob 5 [.int 0, .int 0, .int 0, .int 0, .ref (G.2.1 + 18), .ref (G.2.1 + 19)], ai G 200 (fun _ => 0), ai G 8 (fun _ => (-1)), ai G 24 (fun _ => (-1)), ai G 32 (fun _ => (-1)), ai G 14 (fun _ => 0), ob 7 [.ref (G.2.1 + 1), .ref (G.2.1 + 2), .ref (G.2.1 + 6), .ref (G.2.1 + 22), .ref (G.2.1 + 24), .int 0, .ref (G.2.1 + 25), .ref (G.2.1 + 26), .int 0], ai G 500 (fun _ => 0), ai G 500 (fun _ => 0), ai G 500 (fun _ => 0), ob 0 [.ref (G.2.1 + 1), .ref (G.2.1 + 2), .ref (G.2.1 + 23), .int 0], ob 1 [.ref (G.2.1 + 29), .int 0, .int 0, .ref (G.2.1 + 30), .ref (G.2.1 + 31)], ai G 0 (fun _ => 0), ai G 500 (fun _ => 0), ai G 501 (fun _ => 0), ob 10 [.ref (G.2.1 + 33), .ref (G.2.1 + 34), .ref (G.2.1 + 35), .int 0, .int 0, .int 0, .int 0, .int 0, .ref (G.2.1 + 36), .ref (G.2.1 + 37), .ref (G.2.1 + 38), .ref (G.2.1 + 39), .int 0, .ref (G.2.1 + 40), .int 0, .ref (G.2.1 + 41)], ai G 26100 (sx 256), ai G 26100 (fun _ => 0), ai G 26100 (fun _ => 0), ai G 14 (fun _ => 0), ai G 500 (fun _ => 0), ai G 500 (fun _ => 0), az G 500 (fun _ => 0), ai G 501 (fun _ => 0), ai G 500 (fun _ => 0)]) (some (.int 3), 42, 90324, (wl G.2.1 [ob 9 [.ref (G.2.1 + 1), .ref (G.2.1 + 23), .ref (G.2.1 + 27), .ref (G.2.1 + 28), .ref (G.2.1 + 22), .int 0, .int 0, .null, .int 0, .null, .int 0], ob 6 [.ref (G.2.1 + 2), .ref (G.2.1 + 6), .ref (G.2.1 + 12), .ref (G.2.1 + 14), .ref (G.2.1 + 17), .ref (G.2.1 + 20), .ref (G.2.1 + 21)], ob 2 [.int 256, .int 0, .int 0, .int 0, .ref (G.2.1 + 3), .ref (G.2.1 + 4), .ref (G.2.1 + 5)], ai G 256 (fun j => if 1 ≤ j ∧ j < 3 then (-1) else (upd (fun _ => 0) (0 : Int32).toNatClampNeg 3) j), ai G 500 (upd (fun _ => (-1)) (0 : Int32).toNatClampNeg 0), ai G 500 (upd (fun _ => 0) (0 : Int32).toNatClampNeg 0), ob 3 [.int 0, .int 0, .int 0, .int 0, .ref (G.2.1 + 7), .ref (G.2.1 + 8), .ref (G.2.1 + 9), .ref (G.2.1 + 10), .ref (G.2.1 + 11)], ai G 500 (fun _ => 0), ai G 500 (fun _ => 0), ai G 500 (fun _ => 0), ai G 500 (fun _ => 0), ai G 500 (fun _ => 0), ob 8 [.int 0, .int 0, .int 0, .int 0, .int 0, .int 0, .ref (G.2.1 + 13)], ai G 300 (fun _ => 0), ob 4 [.int 0, .ref (G.2.1 + 15), .ref (G.2.1 + 16)], ai G 1295 (fun _ => 0), ai G 1295 (fun _ => 0), ob 5 [.int 0, .int 0, .int 0, .int 0, .ref (G.2.1 + 18), .ref (G.2.1 + 19)], ai G 200 (fun _ => 0), ai G 8 (fun _ => (-1)), ai G 24 (fun _ => (-1)), ai G 32 (fun _ => (-1)), ai G 14 (fun _ => 0), ob 7 [.ref (G.2.1 + 1), .ref (G.2.1 + 2), .ref (G.2.1 + 6), .ref (G.2.1 + 22), .ref (G.2.1 + 24), .int 0, .ref (G.2.1 + 25), .ref (G.2.1 + 26), .int 0], ai G 500 (fun _ => 0), ai G 500 (fun _ => 0), ai G 500 (fun _ => 0), ob 0 [.ref (G.2.1 + 1), .ref (G.2.1 + 2), .ref (G.2.1 + 23), .int 0], ob 1 [.ref (G.2.1 + 29), .int 0, .int 0, .ref (G.2.1 + 30), .ref (G.2.1 + 31)], ai G 0 (fun _ => 0), ai G 500 (fun _ => 0), ai G 501 (fun _ => 0), ob 10 [.ref (G.2.1 + 33), .ref (G.2.1 + 34), .ref (G.2.1 + 35), .int 0, .int 0, .int 0, .int 0, .int 0, .ref (G.2.1 + 36), .ref (G.2.1 + 37), .ref (G.2.1 + 38), .ref (G.2.1 + 39), .int 0, .ref (G.2.1 + 40), .int 0, .ref (G.2.1 + 41)], ai G 26100 (sx 256), ai G 26100 (fun _ => 0), ai G 26100 (fun _ => 0), ai G 14 (fun _ => 0), ai G 500 (fun _ => 0), ai G 500 (fun _ => 0), az G 500 (fun _ => 0), ai G 501 (fun _ => 0), ai G 500 (fun _ => 0)])) := by
  refine Ct.of (by decide) (Nat.le_of_ble_eq_true rfl) ⟨Nat.le_refl _, Nat.le_refl _⟩ ?_
  show Go l G mX2_intsFor _ 0 [(0, .int 3), (1, .int 0)] [] 42 90324 (wl G.2.1 [ob 9 [.ref (G.2.1 + 1), .ref (G.2.1 + 23), .ref (G.2.1 + 27), .ref (G.2.1 + 28), .ref (G.2.1 + 22), .int 0, .int 0, .null, .int 0, .null, .int 0], ob 6 [.ref (G.2.1 + 2), .ref (G.2.1 + 6), .ref (G.2.1 + 12), .ref (G.2.1 + 14), .ref (G.2.1 + 17), .ref (G.2.1 + 20), .ref (G.2.1 + 21)], ob 2 [.int 256, .int 0, .int 0, .int 0, .ref (G.2.1 + 3), .ref (G.2.1 + 4), .ref (G.2.1 + 5)], ai G 256 (fun j => if 1 ≤ j ∧ j < 3 then (-1) else (upd (fun _ => 0) (0 : Int32).toNatClampNeg 3) j), ai G 500 (upd (fun _ => (-1)) (0 : Int32).toNatClampNeg 0), ai G 500 (upd (fun _ => 0) (0 : Int32).toNatClampNeg 0), ob 3 [.int 0, .int 0, .int 0, .int 0, .ref (G.2.1 + 7), .ref (G.2.1 + 8), .ref (G.2.1 + 9), .ref (G.2.1 + 10), .ref (G.2.1 + 11)], ai G 500 (fun _ => 0), ai G 500 (fun _ => 0), ai G 500 (fun _ => 0), ai G 500 (fun _ => 0), ai G 500 (fun _ => 0), ob 8 [.int 0, .int 0, .int 0, .int 0, .int 0, .int 0, .ref (G.2.1 + 13)], ai G 300 (fun _ => 0), ob 4 [.int 0, .ref (G.2.1 + 15), .ref (G.2.1 + 16)], ai G 1295 (fun _ => 0), ai G 1295 (fun _ => 0), ob 5 [.int 0, .int 0, .int 0, .int 0, .ref (G.2.1 + 18), .ref (G.2.1 + 19)], ai G 200 (fun _ => 0), ai G 8 (fun _ => (-1)), ai G 24 (fun _ => (-1)), ai G 32 (fun _ => (-1)), ai G 14 (fun _ => 0), ob 7 [.ref (G.2.1 + 1), .ref (G.2.1 + 2), .ref (G.2.1 + 6), .ref (G.2.1 + 22), .ref (G.2.1 + 24), .int 0, .ref (G.2.1 + 25), .ref (G.2.1 + 26), .int 0], ai G 500 (fun _ => 0), ai G 500 (fun _ => 0), ai G 500 (fun _ => 0), ob 0 [.ref (G.2.1 + 1), .ref (G.2.1 + 2), .ref (G.2.1 + 23), .int 0], ob 1 [.ref (G.2.1 + 29), .int 0, .int 0, .ref (G.2.1 + 30), .ref (G.2.1 + 31)], ai G 0 (fun _ => 0), ai G 500 (fun _ => 0), ai G 501 (fun _ => 0), ob 10 [.ref (G.2.1 + 33), .ref (G.2.1 + 34), .ref (G.2.1 + 35), .int 0, .int 0, .int 0, .int 0, .int 0, .ref (G.2.1 + 36), .ref (G.2.1 + 37), .ref (G.2.1 + 38), .ref (G.2.1 + 39), .int 0, .ref (G.2.1 + 40), .int 0, .ref (G.2.1 + 41)], ai G 26100 (sx 256), ai G 26100 (fun _ => 0), ai G 26100 (fun _ => 0), ai G 14 (fun _ => 0), ai G 500 (fun _ => 0), ai G 500 (fun _ => 0), az G 500 (fun _ => 0), ai G 501 (fun _ => 0), ai G 500 (fun _ => 0)])
  refine go_iload_n (pc := 0) dX2_intsFor_0 rfl rfl ?_
  refine go_tableIn (pc := 1) (off := 55) (tgt := 56) dX2_intsFor_1 (by decide) (by decide) (by decide) (by decide) ?_
  refine go_iconst (pc := 56) (v := 3) dX2_intsFor_56 (by decide) ?_
  exact go_iret (pc := 57) rfl dX2_intsFor_57
set_option maxRecDepth 100000 in
set_option maxHeartbeats 4000000 in
theorem cX2_addCell_2 {l : Launch} {G : gG} : Ct l G mX2_addCell 2 46 [.ref (G.2.1 + 2), .int 3, .int 0] 42 90324 (wl G.2.1 (LF G)) (some (.int 0), 42, 90324, (wl G.2.1 [ob 9 [.ref (G.2.1 + 1), .ref (G.2.1 + 23), .ref (G.2.1 + 27), .ref (G.2.1 + 28), .ref (G.2.1 + 22), .int 0, .int 0, .null, .int 0, .null, .int 0], ob 6 [.ref (G.2.1 + 2), .ref (G.2.1 + 6), .ref (G.2.1 + 12), .ref (G.2.1 + 14), .ref (G.2.1 + 17), .ref (G.2.1 + 20), .ref (G.2.1 + 21)], ob 2 [.int 256, .int 3, .int 1, .int 1, .ref (G.2.1 + 3), .ref (G.2.1 + 4), .ref (G.2.1 + 5)], ai G 256 (fun j => if 1 ≤ j ∧ j < 3 then (-1) else (upd (fun _ => 0) (0 : Int32).toNatClampNeg 3) j), ai G 500 (upd (fun _ => (-1)) (0 : Int32).toNatClampNeg 0), ai G 500 (upd (fun _ => 0) (0 : Int32).toNatClampNeg 0), ob 3 [.int 0, .int 0, .int 0, .int 0, .ref (G.2.1 + 7), .ref (G.2.1 + 8), .ref (G.2.1 + 9), .ref (G.2.1 + 10), .ref (G.2.1 + 11)], ai G 500 (fun _ => 0), ai G 500 (fun _ => 0), ai G 500 (fun _ => 0), ai G 500 (fun _ => 0), ai G 500 (fun _ => 0), ob 8 [.int 0, .int 0, .int 0, .int 0, .int 0, .int 0, .ref (G.2.1 + 13)], ai G 300 (fun _ => 0), ob 4 [.int 0, .ref (G.2.1 + 15), .ref (G.2.1 + 16)], ai G 1295 (fun _ => 0), ai G 1295 (fun _ => 0), ob 5 [.int 0, .int 0, .int 0, .int 0, .ref (G.2.1 + 18), .ref (G.2.1 + 19)], ai G 200 (fun _ => 0), ai G 8 (fun _ => (-1)), ai G 24 (fun _ => (-1)), ai G 32 (fun _ => (-1)), ai G 14 (fun _ => 0), ob 7 [.ref (G.2.1 + 1), .ref (G.2.1 + 2), .ref (G.2.1 + 6), .ref (G.2.1 + 22), .ref (G.2.1 + 24), .int 0, .ref (G.2.1 + 25), .ref (G.2.1 + 26), .int 0], ai G 500 (fun _ => 0), ai G 500 (fun _ => 0), ai G 500 (fun _ => 0), ob 0 [.ref (G.2.1 + 1), .ref (G.2.1 + 2), .ref (G.2.1 + 23), .int 0], ob 1 [.ref (G.2.1 + 29), .int 0, .int 0, .ref (G.2.1 + 30), .ref (G.2.1 + 31)], ai G 0 (fun _ => 0), ai G 500 (fun _ => 0), ai G 501 (fun _ => 0), ob 10 [.ref (G.2.1 + 33), .ref (G.2.1 + 34), .ref (G.2.1 + 35), .int 0, .int 0, .int 0, .int 0, .int 0, .ref (G.2.1 + 36), .ref (G.2.1 + 37), .ref (G.2.1 + 38), .ref (G.2.1 + 39), .int 0, .ref (G.2.1 + 40), .int 0, .ref (G.2.1 + 41)], ai G 26100 (sx 256), ai G 26100 (fun _ => 0), ai G 26100 (fun _ => 0), ai G 14 (fun _ => 0), ai G 500 (fun _ => 0), ai G 500 (fun _ => 0), az G 500 (fun _ => 0), ai G 501 (fun _ => 0), ai G 500 (fun _ => 0)])) := by
  refine Ct.of (by decide) (Nat.le_of_ble_eq_true rfl) ⟨Nat.le_refl _, Nat.le_refl _⟩ ?_
  show Go l G mX2_addCell _ 0 [(0, .ref (G.2.1 + 2)), (1, .int 3), (2, .int 0)] [] 42 90324 (wl G.2.1 (LF G))
  refine go_aload_n (pc := 0) dX2_addCell_0 rfl rfl ?_
  refine go_get (pc := 1) fX2_32 rfl (gz_b (by decide)) (wl_at (i := 2) rfl) rfl dX2_addCell_1 ?_
  refine go_istore_n (pc := 4) (lv' := [(3, .int 0), (0, .ref (G.2.1 + 2)), (1, .int 3), (2, .int 0)]) dX2_addCell_4 rfl (by decide) rfl ?_
  refine go_aload_n (pc := 5) dX2_addCell_5 rfl rfl ?_
  refine go_get (pc := 6) fX2_9 rfl (gz_b (by decide)) (wl_at (i := 2) rfl) rfl dX2_addCell_6 ?_
  refine go_aload_n (pc := 9) dX2_addCell_9 rfl rfl ?_
  refine go_get (pc := 10) fX2_29 rfl (gz_b (by decide)) (wl_at (i := 2) rfl) rfl dX2_addCell_10 ?_
  refine go_iload_n (pc := 13) dX2_addCell_13 rfl rfl ?_
  refine go_bipush (pc := 14) (v := 8) dX2_addCell_14 (by decide) ?_
  refine go_imul (pc := 16) dX2_addCell_16 ?_
  refine go_top (y := 0) (by decide) ?_
  refine go_iload_n (pc := 17) dX2_addCell_17 rfl rfl ?_
  refine go_iadd (pc := 18) dX2_addCell_18 ?_
  refine go_top (y := 3) (by decide) ?_
  refine go_iast (pc := 19) (gz_b (by decide)) (wl_at (i := 3) rfl) (gv_in (by decide)) dX2_addCell_19 ?_
  refine go_ext (wl_up (i := 3) rfl rfl) ?_
  refine go_iload_n (pc := 20) dX2_addCell_20 rfl rfl ?_
  refine go_callS_i (pc := 21) sX2_60 rfl (cX2_isCounted_5) rfl rfl (Nat.le_of_ble_eq_true rfl) ⟨Nat.le_of_ble_eq_true rfl, Nat.le_of_ble_eq_true rfl, (Nat.le_add_right _ _), (Nat.le_add_right _ _)⟩ dX2_addCell_21 ?_
  refine go_if_ne_f (pc := 24) (tgt := 50) dX2_addCell_24 (by decide) (by decide) ?_
  refine go_aload_n (pc := 27) dX2_addCell_27 rfl rfl ?_
  refine go_get (pc := 28) fX2_9 rfl (gz_b (by decide)) (wl_at (i := 2) rfl) rfl dX2_addCell_28 ?_
  refine go_aload_n (pc := 31) dX2_addCell_31 rfl rfl ?_
  refine go_get (pc := 32) fX2_29 rfl (gz_b (by decide)) (wl_at (i := 2) rfl) rfl dX2_addCell_32 ?_
  refine go_iconst (pc := 35) (v := 1) dX2_addCell_35 (by decide) ?_
  refine go_iadd (pc := 36) dX2_addCell_36 ?_
  refine go_top (y := 1) (by decide) ?_
  refine go_aload_n (pc := 37) dX2_addCell_37 rfl rfl ?_
  refine go_get (pc := 38) fX2_29 rfl (gz_b (by decide)) (wl_at (i := 2) rfl) rfl dX2_addCell_38 ?_
  refine go_iconst (pc := 41) (v := 3) dX2_addCell_41 (by decide) ?_
  refine go_iadd (pc := 42) dX2_addCell_42 ?_
  refine go_top (y := 3) (by decide) ?_
  refine go_iconst (pc := 43) (v := (-1)) dX2_addCell_43 (by decide) ?_
  refine go_callS_v (pc := 44) sX2_44 rfl (ct_fillr (a := G.2.1 + 3) (N := 256) (f := (upd (fun _ => 0) (0 : Int32).toNatClampNeg 3)) ((-1)) (fr := 1) (to := 3) (by decide) (by decide) (by decide) (gz_b (by decide)) (wl_at (i := 3) rfl)) rfl rfl (Nat.le_of_ble_eq_true rfl) ⟨Nat.le_of_ble_eq_true rfl, Nat.le_of_ble_eq_true rfl, (Nat.le_add_right _ _), (Nat.le_add_right _ _)⟩ dX2_addCell_44 ?_
  refine go_ext (wl_up (i := 3) rfl rfl) ?_
  refine go_goto (pc := 47) (tgt := 89) dX2_addCell_47 (by decide) ?_
  refine go_aload_n (pc := 89) dX2_addCell_89 rfl rfl ?_
  refine go_get (pc := 90) fX2_15 rfl (gz_b (by decide)) (wl_at (i := 2) rfl) rfl dX2_addCell_90 ?_
  refine go_iload_n (pc := 93) dX2_addCell_93 rfl rfl ?_
  refine go_aload_n (pc := 94) dX2_addCell_94 rfl rfl ?_
  refine go_get (pc := 95) fX2_29 rfl (gz_b (by decide)) (wl_at (i := 2) rfl) rfl dX2_addCell_95 ?_
  refine go_iast (pc := 98) (gz_b (by decide)) (wl_at (i := 4) rfl) (gv_in (by decide)) dX2_addCell_98 ?_
  refine go_ext (wl_up (i := 4) rfl rfl) ?_
  refine go_aload_n (pc := 99) dX2_addCell_99 rfl rfl ?_
  refine go_get (pc := 100) fX2_18 rfl (gz_b (by decide)) (wl_at (i := 2) rfl) rfl dX2_addCell_100 ?_
  refine go_iload_n (pc := 103) dX2_addCell_103 rfl rfl ?_
  refine go_iconst (pc := 104) (v := 0) dX2_addCell_104 (by decide) ?_
  refine go_iast (pc := 105) (gz_b (by decide)) (wl_at (i := 5) rfl) (gv_in (by decide)) dX2_addCell_105 ?_
  refine go_ext (wl_up (i := 5) rfl rfl) ?_
  refine go_aload_n (pc := 106) dX2_addCell_106 rfl rfl ?_
  refine go_dup (pc := 107) dX2_addCell_107 rfl ?_
  refine go_get (pc := 108) fX2_29 rfl (gz_b (by decide)) (wl_at (i := 2) rfl) rfl dX2_addCell_108 ?_
  refine go_iload_n (pc := 111) dX2_addCell_111 rfl rfl ?_
  refine go_iload_n (pc := 112) dX2_addCell_112 rfl rfl ?_
  refine go_callS_i (pc := 113) sX2_67 rfl (cX2_intsFor_4) rfl rfl (Nat.le_of_ble_eq_true rfl) ⟨Nat.le_of_ble_eq_true rfl, Nat.le_of_ble_eq_true rfl, (Nat.le_add_right _ _), (Nat.le_add_right _ _)⟩ dX2_addCell_113 ?_
  refine go_iadd (pc := 116) dX2_addCell_116 ?_
  refine go_top (y := 3) (by decide) ?_
  refine go_put (pc := 117) fX2_29 rfl (gz_b (by decide)) (wl_at (i := 2) rfl) (Nat.le_of_ble_eq_true rfl) rfl rfl dX2_addCell_117 ?_
  refine go_ext (wl_up (i := 2) rfl rfl) ?_
  refine go_aload_n (pc := 120) dX2_addCell_120 rfl rfl ?_
  refine go_dup (pc := 121) dX2_addCell_121 rfl ?_
  refine go_get (pc := 122) fX2_32 rfl (gz_b (by decide)) (wl_at (i := 2) rfl) rfl dX2_addCell_122 ?_
  refine go_iconst (pc := 125) (v := 1) dX2_addCell_125 (by decide) ?_
  refine go_iadd (pc := 126) dX2_addCell_126 ?_
  refine go_top (y := 1) (by decide) ?_
  refine go_put (pc := 127) fX2_32 rfl (gz_b (by decide)) (wl_at (i := 2) rfl) (Nat.le_of_ble_eq_true rfl) rfl rfl dX2_addCell_127 ?_
  refine go_ext (wl_up (i := 2) rfl rfl) ?_
  refine go_aload_n (pc := 130) dX2_addCell_130 rfl rfl ?_
  refine go_dup (pc := 131) dX2_addCell_131 rfl ?_
  refine go_get (pc := 132) fX2_35 rfl (gz_b (by decide)) (wl_at (i := 2) rfl) rfl dX2_addCell_132 ?_
  refine go_iconst (pc := 135) (v := 1) dX2_addCell_135 (by decide) ?_
  refine go_iadd (pc := 136) dX2_addCell_136 ?_
  refine go_top (y := 1) (by decide) ?_
  refine go_put (pc := 137) fX2_35 rfl (gz_b (by decide)) (wl_at (i := 2) rfl) (Nat.le_of_ble_eq_true rfl) rfl rfl dX2_addCell_137 ?_
  refine go_ext (wl_up (i := 2) rfl rfl) ?_
  refine go_iload_n (pc := 140) dX2_addCell_140 rfl rfl ?_
  refine go_w (show _ = wl G.2.1 [ob 9 [.ref (G.2.1 + 1), .ref (G.2.1 + 23), .ref (G.2.1 + 27), .ref (G.2.1 + 28), .ref (G.2.1 + 22), .int 0, .int 0, .null, .int 0, .null, .int 0], ob 6 [.ref (G.2.1 + 2), .ref (G.2.1 + 6), .ref (G.2.1 + 12), .ref (G.2.1 + 14), .ref (G.2.1 + 17), .ref (G.2.1 + 20), .ref (G.2.1 + 21)], ob 2 [.int 256, .int 3, .int 1, .int 1, .ref (G.2.1 + 3), .ref (G.2.1 + 4), .ref (G.2.1 + 5)], ai G 256 (fun j => if 1 ≤ j ∧ j < 3 then (-1) else (upd (fun _ => 0) (0 : Int32).toNatClampNeg 3) j), ai G 500 (upd (fun _ => (-1)) (0 : Int32).toNatClampNeg 0), ai G 500 (upd (fun _ => 0) (0 : Int32).toNatClampNeg 0), ob 3 [.int 0, .int 0, .int 0, .int 0, .ref (G.2.1 + 7), .ref (G.2.1 + 8), .ref (G.2.1 + 9), .ref (G.2.1 + 10), .ref (G.2.1 + 11)], ai G 500 (fun _ => 0), ai G 500 (fun _ => 0), ai G 500 (fun _ => 0), ai G 500 (fun _ => 0), ai G 500 (fun _ => 0), ob 8 [.int 0, .int 0, .int 0, .int 0, .int 0, .int 0, .ref (G.2.1 + 13)], ai G 300 (fun _ => 0), ob 4 [.int 0, .ref (G.2.1 + 15), .ref (G.2.1 + 16)], ai G 1295 (fun _ => 0), ai G 1295 (fun _ => 0), ob 5 [.int 0, .int 0, .int 0, .int 0, .ref (G.2.1 + 18), .ref (G.2.1 + 19)], ai G 200 (fun _ => 0), ai G 8 (fun _ => (-1)), ai G 24 (fun _ => (-1)), ai G 32 (fun _ => (-1)), ai G 14 (fun _ => 0), ob 7 [.ref (G.2.1 + 1), .ref (G.2.1 + 2), .ref (G.2.1 + 6), .ref (G.2.1 + 22), .ref (G.2.1 + 24), .int 0, .ref (G.2.1 + 25), .ref (G.2.1 + 26), .int 0], ai G 500 (fun _ => 0), ai G 500 (fun _ => 0), ai G 500 (fun _ => 0), ob 0 [.ref (G.2.1 + 1), .ref (G.2.1 + 2), .ref (G.2.1 + 23), .int 0], ob 1 [.ref (G.2.1 + 29), .int 0, .int 0, .ref (G.2.1 + 30), .ref (G.2.1 + 31)], ai G 0 (fun _ => 0), ai G 500 (fun _ => 0), ai G 501 (fun _ => 0), ob 10 [.ref (G.2.1 + 33), .ref (G.2.1 + 34), .ref (G.2.1 + 35), .int 0, .int 0, .int 0, .int 0, .int 0, .ref (G.2.1 + 36), .ref (G.2.1 + 37), .ref (G.2.1 + 38), .ref (G.2.1 + 39), .int 0, .ref (G.2.1 + 40), .int 0, .ref (G.2.1 + 41)], ai G 26100 (sx 256), ai G 26100 (fun _ => 0), ai G 26100 (fun _ => 0), ai G 14 (fun _ => 0), ai G 500 (fun _ => 0), ai G 500 (fun _ => 0), az G 500 (fun _ => 0), ai G 501 (fun _ => 0), ai G 500 (fun _ => 0)] from rfl) ?_
  exact go_iret (pc := 141) rfl dX2_addCell_141
set_option maxRecDepth 100000 in
set_option maxHeartbeats 4000000 in
theorem cX0_makeCell_2 {l : Launch} {G : gG} (x2 : Int32) : Ct l G mX0_makeCell 3 69 [.ref (G.2.1 + 27), .int 3, .int x2] 42 90324 (wl G.2.1 (LF G)) (some (.int 0), 42, 90324, (wl G.2.1 [ob 9 [.ref (G.2.1 + 1), .ref (G.2.1 + 23), .ref (G.2.1 + 27), .ref (G.2.1 + 28), .ref (G.2.1 + 22), .int 0, .int 0, .null, .int 0, .null, .int 0], ob 6 [.ref (G.2.1 + 2), .ref (G.2.1 + 6), .ref (G.2.1 + 12), .ref (G.2.1 + 14), .ref (G.2.1 + 17), .ref (G.2.1 + 20), .ref (G.2.1 + 21)], ob 2 [.int 256, .int 3, .int 1, .int 1, .ref (G.2.1 + 3), .ref (G.2.1 + 4), .ref (G.2.1 + 5)], ai G 256 (fun j => if 1 ≤ j ∧ j < 3 then (-1) else (upd (fun _ => 0) (0 : Int32).toNatClampNeg 3) j), ai G 500 (upd (fun _ => (-1)) (0 : Int32).toNatClampNeg 0), ai G 500 (upd (fun _ => 0) (0 : Int32).toNatClampNeg 0), ob 3 [.int 0, .int 0, .int 0, .int 0, .ref (G.2.1 + 7), .ref (G.2.1 + 8), .ref (G.2.1 + 9), .ref (G.2.1 + 10), .ref (G.2.1 + 11)], ai G 500 (fun _ => 0), ai G 500 (fun _ => 0), ai G 500 (fun _ => 0), ai G 500 (fun _ => 0), ai G 500 (fun _ => 0), ob 8 [.int 0, .int 0, .int 0, .int 0, .int 0, .int 0, .ref (G.2.1 + 13)], ai G 300 (fun _ => 0), ob 4 [.int 0, .ref (G.2.1 + 15), .ref (G.2.1 + 16)], ai G 1295 (fun _ => 0), ai G 1295 (fun _ => 0), ob 5 [.int 0, .int 0, .int 0, .int 0, .ref (G.2.1 + 18), .ref (G.2.1 + 19)], ai G 200 (fun _ => 0), ai G 8 (fun _ => (-1)), ai G 24 (fun _ => (-1)), ai G 32 (fun _ => (-1)), ai G 14 (fun _ => 0), ob 7 [.ref (G.2.1 + 1), .ref (G.2.1 + 2), .ref (G.2.1 + 6), .ref (G.2.1 + 22), .ref (G.2.1 + 24), .int 0, .ref (G.2.1 + 25), .ref (G.2.1 + 26), .int 0], ai G 500 (fun _ => 0), ai G 500 (fun _ => 0), ai G 500 (fun _ => 0), ob 0 [.ref (G.2.1 + 1), .ref (G.2.1 + 2), .ref (G.2.1 + 23), .int 0], ob 1 [.ref (G.2.1 + 29), .int 0, .int 0, .ref (G.2.1 + 30), .ref (G.2.1 + 31)], ai G 0 (fun _ => 0), ai G 500 (fun _ => 0), ai G 501 (fun _ => 0), ob 10 [.ref (G.2.1 + 33), .ref (G.2.1 + 34), .ref (G.2.1 + 35), .int 0, .int 0, .int 0, .int 0, .int 0, .ref (G.2.1 + 36), .ref (G.2.1 + 37), .ref (G.2.1 + 38), .ref (G.2.1 + 39), .int 0, .ref (G.2.1 + 40), .int 0, .ref (G.2.1 + 41)], ai G 26100 (sx 256), ai G 26100 (fun _ => 0), ai G 26100 (fun _ => 0), ai G 14 (fun _ => 0), ai G 500 (fun _ => 0), ai G 500 (fun _ => 0), az G 500 (fun _ => 0), ai G 501 (fun _ => 0), ai G 500 (fun _ => 0)])) := by
  refine Ct.of (by decide) (Nat.le_of_ble_eq_true rfl) ⟨Nat.le_refl _, Nat.le_refl _⟩ ?_
  show Go l G mX0_makeCell _ 0 [(0, .ref (G.2.1 + 27)), (1, .int 3), (2, .int x2)] [] 42 90324 (wl G.2.1 (LF G))
  refine go_iload_n (pc := 0) dX0_makeCell_0 rfl rfl ?_
  refine go_callS_i (pc := 1) sX0_26 rfl (cX2_isCounted_4) rfl rfl (Nat.le_of_ble_eq_true rfl) ⟨Nat.le_of_ble_eq_true rfl, Nat.le_of_ble_eq_true rfl, (Nat.le_add_right _ _), (Nat.le_add_right _ _)⟩ dX0_makeCell_1 ?_
  refine go_if_eq_t (pc := 4) (tgt := 11) dX0_makeCell_4 (by decide) (by decide) ?_
  refine go_iconst (pc := 11) (v := 0) dX0_makeCell_11 (by decide) ?_
  refine go_istore_n (pc := 12) (lv' := [(3, .int 0), (0, .ref (G.2.1 + 27)), (1, .int 3), (2, .int x2)]) dX0_makeCell_12 rfl (by decide) rfl ?_
  refine go_iload_n (pc := 13) dX0_makeCell_13 rfl rfl ?_
  refine go_if_ge_t (pc := 14) (tgt := 20) dX0_makeCell_14 (by decide) (by decide) ?_
  refine go_iload_n (pc := 20) dX0_makeCell_20 rfl rfl ?_
  refine go_iload_n (pc := 21) dX0_makeCell_21 rfl rfl ?_
  refine go_callS_i (pc := 22) sX0_32 rfl (cX2_intsFor_3) rfl rfl (Nat.le_of_ble_eq_true rfl) ⟨Nat.le_of_ble_eq_true rfl, Nat.le_of_ble_eq_true rfl, (Nat.le_add_right _ _), (Nat.le_add_right _ _)⟩ dX0_makeCell_22 ?_
  refine go_istore (pc := 25) (lv' := [(4, .int 3), (3, .int 0), (0, .ref (G.2.1 + 27)), (1, .int 3), (2, .int x2)]) dX0_makeCell_25 (by decide) rfl ?_
  refine go_aload_n (pc := 27) dX0_makeCell_27 rfl rfl ?_
  refine go_get (pc := 28) fX0_21 rfl (gz_b (by decide)) (wl_at (i := 27) rfl) rfl dX0_makeCell_28 ?_
  refine go_get (pc := 31) fX0_36 rfl (gz_b (by decide)) (wl_at (i := 2) rfl) rfl dX0_makeCell_31 ?_
  refine go_sipush (pc := 34) (v := 500) dX0_makeCell_34 (by decide) ?_
  refine go_icmp_ge_f (pc := 37) (tgt := 72) dX0_makeCell_37 (by decide) (by decide) ?_
  refine go_iload (pc := 40) dX0_makeCell_40 rfl ?_
  refine go_aload_n (pc := 42) dX0_makeCell_42 rfl rfl ?_
  refine go_get (pc := 43) fX0_21 rfl (gz_b (by decide)) (wl_at (i := 27) rfl) rfl dX0_makeCell_43 ?_
  refine go_callV_i (pc := 46) vX0_40 rfl (cX2_free_1) rfl rfl (gz_b (by decide)) (wl_at (i := 2) rfl) rfl (Nat.le_of_ble_eq_true rfl) ⟨Nat.le_of_ble_eq_true rfl, Nat.le_of_ble_eq_true rfl, (Nat.le_add_right _ _), (Nat.le_add_right _ _)⟩ dX0_makeCell_46 ?_
  refine go_icmp_le_t (pc := 49) (tgt := 75) dX0_makeCell_49 (by decide) (by decide) ?_
  refine go_iconst (pc := 75) (v := 0) dX0_makeCell_75 (by decide) ?_
  refine go_istore (pc := 76) (lv' := [(5, .int 0), (4, .int 3), (3, .int 0), (0, .ref (G.2.1 + 27)), (1, .int 3), (2, .int x2)]) dX0_makeCell_76 (by decide) rfl ?_
  refine go_iload (pc := 78) dX0_makeCell_78 rfl ?_
  refine go_iconst (pc := 80) (v := 2) dX0_makeCell_80 (by decide) ?_
  refine go_icmp_ge_f (pc := 81) (tgt := 109) dX0_makeCell_81 (by decide) (by decide) ?_
  refine go_iload (pc := 84) dX0_makeCell_84 rfl ?_
  refine go_aload_n (pc := 86) dX0_makeCell_86 rfl rfl ?_
  refine go_get (pc := 87) fX0_21 rfl (gz_b (by decide)) (wl_at (i := 27) rfl) rfl dX0_makeCell_87 ?_
  refine go_callV_i (pc := 90) vX0_40 rfl (cX2_free_1) rfl rfl (gz_b (by decide)) (wl_at (i := 2) rfl) rfl (Nat.le_of_ble_eq_true rfl) ⟨Nat.le_of_ble_eq_true rfl, Nat.le_of_ble_eq_true rfl, (Nat.le_add_right _ _), (Nat.le_add_right _ _)⟩ dX0_makeCell_90 ?_
  refine go_icmp_le_t (pc := 93) (tgt := 109) dX0_makeCell_93 (by decide) (by decide) ?_
  refine go_iload (pc := 109) dX0_makeCell_109 rfl ?_
  refine go_aload_n (pc := 111) dX0_makeCell_111 rfl rfl ?_
  refine go_get (pc := 112) fX0_21 rfl (gz_b (by decide)) (wl_at (i := 27) rfl) rfl dX0_makeCell_112 ?_
  refine go_callV_i (pc := 115) vX0_40 rfl (cX2_free_1) rfl rfl (gz_b (by decide)) (wl_at (i := 2) rfl) rfl (Nat.le_of_ble_eq_true rfl) ⟨Nat.le_of_ble_eq_true rfl, Nat.le_of_ble_eq_true rfl, (Nat.le_add_right _ _), (Nat.le_add_right _ _)⟩ dX0_makeCell_115 ?_
  refine go_icmp_le_t (pc := 118) (tgt := 124) dX0_makeCell_118 (by decide) (by decide) ?_
  refine go_aload_n (pc := 124) dX0_makeCell_124 rfl rfl ?_
  refine go_get (pc := 125) fX0_21 rfl (gz_b (by decide)) (wl_at (i := 27) rfl) rfl dX0_makeCell_125 ?_
  refine go_iload_n (pc := 128) dX0_makeCell_128 rfl rfl ?_
  refine go_iload_n (pc := 129) dX0_makeCell_129 rfl rfl ?_
  refine go_callV_i (pc := 130) vX0_55 rfl (cX2_addCell_2) rfl rfl (gz_b (by decide)) (wl_at (i := 2) rfl) rfl (Nat.le_of_ble_eq_true rfl) ⟨Nat.le_of_ble_eq_true rfl, Nat.le_of_ble_eq_true rfl, (Nat.le_add_right _ _), (Nat.le_add_right _ _)⟩ dX0_makeCell_130 ?_
  refine go_istore (pc := 133) (lv' := [(5, .int 0), (4, .int 3), (3, .int 0), (0, .ref (G.2.1 + 27)), (1, .int 3), (2, .int x2)]) dX0_makeCell_133 (by decide) rfl ?_
  refine go_aload_n (pc := 135) dX0_makeCell_135 rfl rfl ?_
  refine go_get (pc := 136) fX0_22 rfl (gz_b (by decide)) (wl_at (i := 27) rfl) rfl dX0_makeCell_136 ?_
  refine go_iload (pc := 139) dX0_makeCell_139 rfl ?_
  refine go_iconst (pc := 141) (v := 5) dX0_makeCell_141 (by decide) ?_
  refine go_iconst (pc := 142) (v := (-1)) dX0_makeCell_142 (by decide) ?_
  refine go_iconst (pc := 143) (v := (-1)) dX0_makeCell_143 (by decide) ?_
  refine go_callV_v (pc := 144) vX0_58 rfl (ct_mark_0 (a := G.2.1 + 23) (a0 := G.2.1 + 1) (a1 := G.2.1 + 2) (a2 := G.2.1 + 6) (a3 := G.2.1 + 22) (a4 := G.2.1 + 24) (a6 := G.2.1 + 25) (a7 := G.2.1 + 26) (g5 := 0) (g8 := 0) (u1 := 0) (u2 := 0) (u3 := 0) (p4 := G.2.1 + 7) (p5 := G.2.1 + 8) (p6 := G.2.1 + 9) (p7 := G.2.1 + 10) (p8 := G.2.1 + 11) (gz_b (by decide)) (gz_b (by decide)) (wl_at (i := 23) rfl) (wl_at (i := 6) rfl)) rfl rfl (gz_b (by decide)) (wl_at (i := 23) rfl) rfl (Nat.le_of_ble_eq_true rfl) ⟨Nat.le_of_ble_eq_true rfl, Nat.le_of_ble_eq_true rfl, (Nat.le_add_right _ _), (Nat.le_add_right _ _)⟩ dX0_makeCell_144 ?_
  refine go_iload (pc := 147) dX0_makeCell_147 rfl ?_
  exact go_iret (pc := 149) rfl dX0_makeCell_149
set_option maxRecDepth 100000 in
set_option maxHeartbeats 4000000 in
theorem cX9_findingIn_6 {l : Launch} {G : gG} : Ct l G mX9_findingIn 0 0 [.int 0] 42 90324 (wl G.2.1 [ob 9 [.ref (G.2.1 + 1), .ref (G.2.1 + 23), .ref (G.2.1 + 27), .ref (G.2.1 + 28), .ref (G.2.1 + 22), .int 0, .int 0, .null, .int 0, .null, .int 0], ob 6 [.ref (G.2.1 + 2), .ref (G.2.1 + 6), .ref (G.2.1 + 12), .ref (G.2.1 + 14), .ref (G.2.1 + 17), .ref (G.2.1 + 20), .ref (G.2.1 + 21)], ob 2 [.int 256, .int 3, .int 1, .int 1, .ref (G.2.1 + 3), .ref (G.2.1 + 4), .ref (G.2.1 + 5)], ai G 256 (fun j => if 1 ≤ j ∧ j < 3 then (-1) else (upd (fun _ => 0) (0 : Int32).toNatClampNeg 3) j), ai G 500 (upd (fun _ => (-1)) (0 : Int32).toNatClampNeg 0), ai G 500 (upd (fun _ => 0) (0 : Int32).toNatClampNeg 0), ob 3 [.int 0, .int 0, .int 0, .int 0, .ref (G.2.1 + 7), .ref (G.2.1 + 8), .ref (G.2.1 + 9), .ref (G.2.1 + 10), .ref (G.2.1 + 11)], ai G 500 (fun _ => 0), ai G 500 (fun _ => 0), ai G 500 (fun _ => 0), ai G 500 (fun _ => 0), ai G 500 (fun _ => 0), ob 8 [.int 0, .int 0, .int 0, .int 0, .int 0, .int 0, .ref (G.2.1 + 13)], ai G 300 (fun _ => 0), ob 4 [.int 0, .ref (G.2.1 + 15), .ref (G.2.1 + 16)], ai G 1295 (fun _ => 0), ai G 1295 (fun _ => 0), ob 5 [.int 0, .int 0, .int 0, .int 0, .ref (G.2.1 + 18), .ref (G.2.1 + 19)], ai G 200 (fun _ => 0), ai G 8 (fun _ => (-1)), ai G 24 (fun _ => (-1)), ai G 32 (fun _ => (-1)), ai G 14 (fun _ => 0), ob 7 [.ref (G.2.1 + 1), .ref (G.2.1 + 2), .ref (G.2.1 + 6), .ref (G.2.1 + 22), .ref (G.2.1 + 24), .int 0, .ref (G.2.1 + 25), .ref (G.2.1 + 26), .int 0], ai G 500 (fun _ => 0), ai G 500 (fun _ => 0), ai G 500 (fun _ => 0), ob 0 [.ref (G.2.1 + 1), .ref (G.2.1 + 2), .ref (G.2.1 + 23), .int 0], ob 1 [.ref (G.2.1 + 29), .int 0, .int 0, .ref (G.2.1 + 30), .ref (G.2.1 + 31)], ai G 0 (fun _ => 0), ai G 500 (fun _ => 0), ai G 501 (fun _ => 0), ob 10 [.ref (G.2.1 + 33), .ref (G.2.1 + 34), .ref (G.2.1 + 35), .int 0, .int 0, .int 0, .int 0, .int 0, .ref (G.2.1 + 36), .ref (G.2.1 + 37), .ref (G.2.1 + 38), .ref (G.2.1 + 39), .int 0, .ref (G.2.1 + 40), .int 0, .ref (G.2.1 + 41)], ai G 26100 (sx 256), ai G 26100 (fun _ => 0), ai G 26100 (fun _ => 0), ai G 14 (fun _ => 0), ai G 500 (fun _ => 0), ai G 500 (fun _ => 0), az G 500 (fun _ => 0), ai G 501 (fun _ => 0), ai G 500 (fun _ => 0)]) (some (.int 0), 42, 90324, (wl G.2.1 [ob 9 [.ref (G.2.1 + 1), .ref (G.2.1 + 23), .ref (G.2.1 + 27), .ref (G.2.1 + 28), .ref (G.2.1 + 22), .int 0, .int 0, .null, .int 0, .null, .int 0], ob 6 [.ref (G.2.1 + 2), .ref (G.2.1 + 6), .ref (G.2.1 + 12), .ref (G.2.1 + 14), .ref (G.2.1 + 17), .ref (G.2.1 + 20), .ref (G.2.1 + 21)], ob 2 [.int 256, .int 3, .int 1, .int 1, .ref (G.2.1 + 3), .ref (G.2.1 + 4), .ref (G.2.1 + 5)], ai G 256 (fun j => if 1 ≤ j ∧ j < 3 then (-1) else (upd (fun _ => 0) (0 : Int32).toNatClampNeg 3) j), ai G 500 (upd (fun _ => (-1)) (0 : Int32).toNatClampNeg 0), ai G 500 (upd (fun _ => 0) (0 : Int32).toNatClampNeg 0), ob 3 [.int 0, .int 0, .int 0, .int 0, .ref (G.2.1 + 7), .ref (G.2.1 + 8), .ref (G.2.1 + 9), .ref (G.2.1 + 10), .ref (G.2.1 + 11)], ai G 500 (fun _ => 0), ai G 500 (fun _ => 0), ai G 500 (fun _ => 0), ai G 500 (fun _ => 0), ai G 500 (fun _ => 0), ob 8 [.int 0, .int 0, .int 0, .int 0, .int 0, .int 0, .ref (G.2.1 + 13)], ai G 300 (fun _ => 0), ob 4 [.int 0, .ref (G.2.1 + 15), .ref (G.2.1 + 16)], ai G 1295 (fun _ => 0), ai G 1295 (fun _ => 0), ob 5 [.int 0, .int 0, .int 0, .int 0, .ref (G.2.1 + 18), .ref (G.2.1 + 19)], ai G 200 (fun _ => 0), ai G 8 (fun _ => (-1)), ai G 24 (fun _ => (-1)), ai G 32 (fun _ => (-1)), ai G 14 (fun _ => 0), ob 7 [.ref (G.2.1 + 1), .ref (G.2.1 + 2), .ref (G.2.1 + 6), .ref (G.2.1 + 22), .ref (G.2.1 + 24), .int 0, .ref (G.2.1 + 25), .ref (G.2.1 + 26), .int 0], ai G 500 (fun _ => 0), ai G 500 (fun _ => 0), ai G 500 (fun _ => 0), ob 0 [.ref (G.2.1 + 1), .ref (G.2.1 + 2), .ref (G.2.1 + 23), .int 0], ob 1 [.ref (G.2.1 + 29), .int 0, .int 0, .ref (G.2.1 + 30), .ref (G.2.1 + 31)], ai G 0 (fun _ => 0), ai G 500 (fun _ => 0), ai G 501 (fun _ => 0), ob 10 [.ref (G.2.1 + 33), .ref (G.2.1 + 34), .ref (G.2.1 + 35), .int 0, .int 0, .int 0, .int 0, .int 0, .ref (G.2.1 + 36), .ref (G.2.1 + 37), .ref (G.2.1 + 38), .ref (G.2.1 + 39), .int 0, .ref (G.2.1 + 40), .int 0, .ref (G.2.1 + 41)], ai G 26100 (sx 256), ai G 26100 (fun _ => 0), ai G 26100 (fun _ => 0), ai G 14 (fun _ => 0), ai G 500 (fun _ => 0), ai G 500 (fun _ => 0), az G 500 (fun _ => 0), ai G 501 (fun _ => 0), ai G 500 (fun _ => 0)])) := by
  refine Ct.of (by decide) (Nat.le_of_ble_eq_true rfl) ⟨Nat.le_refl _, Nat.le_refl _⟩ ?_
  show Go l G mX9_findingIn _ 0 [(0, .int 0)] [] 42 90324 (wl G.2.1 [ob 9 [.ref (G.2.1 + 1), .ref (G.2.1 + 23), .ref (G.2.1 + 27), .ref (G.2.1 + 28), .ref (G.2.1 + 22), .int 0, .int 0, .null, .int 0, .null, .int 0], ob 6 [.ref (G.2.1 + 2), .ref (G.2.1 + 6), .ref (G.2.1 + 12), .ref (G.2.1 + 14), .ref (G.2.1 + 17), .ref (G.2.1 + 20), .ref (G.2.1 + 21)], ob 2 [.int 256, .int 3, .int 1, .int 1, .ref (G.2.1 + 3), .ref (G.2.1 + 4), .ref (G.2.1 + 5)], ai G 256 (fun j => if 1 ≤ j ∧ j < 3 then (-1) else (upd (fun _ => 0) (0 : Int32).toNatClampNeg 3) j), ai G 500 (upd (fun _ => (-1)) (0 : Int32).toNatClampNeg 0), ai G 500 (upd (fun _ => 0) (0 : Int32).toNatClampNeg 0), ob 3 [.int 0, .int 0, .int 0, .int 0, .ref (G.2.1 + 7), .ref (G.2.1 + 8), .ref (G.2.1 + 9), .ref (G.2.1 + 10), .ref (G.2.1 + 11)], ai G 500 (fun _ => 0), ai G 500 (fun _ => 0), ai G 500 (fun _ => 0), ai G 500 (fun _ => 0), ai G 500 (fun _ => 0), ob 8 [.int 0, .int 0, .int 0, .int 0, .int 0, .int 0, .ref (G.2.1 + 13)], ai G 300 (fun _ => 0), ob 4 [.int 0, .ref (G.2.1 + 15), .ref (G.2.1 + 16)], ai G 1295 (fun _ => 0), ai G 1295 (fun _ => 0), ob 5 [.int 0, .int 0, .int 0, .int 0, .ref (G.2.1 + 18), .ref (G.2.1 + 19)], ai G 200 (fun _ => 0), ai G 8 (fun _ => (-1)), ai G 24 (fun _ => (-1)), ai G 32 (fun _ => (-1)), ai G 14 (fun _ => 0), ob 7 [.ref (G.2.1 + 1), .ref (G.2.1 + 2), .ref (G.2.1 + 6), .ref (G.2.1 + 22), .ref (G.2.1 + 24), .int 0, .ref (G.2.1 + 25), .ref (G.2.1 + 26), .int 0], ai G 500 (fun _ => 0), ai G 500 (fun _ => 0), ai G 500 (fun _ => 0), ob 0 [.ref (G.2.1 + 1), .ref (G.2.1 + 2), .ref (G.2.1 + 23), .int 0], ob 1 [.ref (G.2.1 + 29), .int 0, .int 0, .ref (G.2.1 + 30), .ref (G.2.1 + 31)], ai G 0 (fun _ => 0), ai G 500 (fun _ => 0), ai G 501 (fun _ => 0), ob 10 [.ref (G.2.1 + 33), .ref (G.2.1 + 34), .ref (G.2.1 + 35), .int 0, .int 0, .int 0, .int 0, .int 0, .ref (G.2.1 + 36), .ref (G.2.1 + 37), .ref (G.2.1 + 38), .ref (G.2.1 + 39), .int 0, .ref (G.2.1 + 40), .int 0, .ref (G.2.1 + 41)], ai G 26100 (sx 256), ai G 26100 (fun _ => 0), ai G 26100 (fun _ => 0), ai G 14 (fun _ => 0), ai G 500 (fun _ => 0), ai G 500 (fun _ => 0), az G 500 (fun _ => 0), ai G 501 (fun _ => 0), ai G 500 (fun _ => 0)])
  refine go_iload_n (pc := 0) dX9_findingIn_0 rfl rfl ?_
  refine go_bipush (pc := 1) (v := (-11)) dX9_findingIn_1 (by decide) ?_
  refine go_icmp_gt_t (pc := 3) (tgt := 19) dX9_findingIn_3 (by decide) (by decide) ?_
  refine go_iconst (pc := 19) (v := 0) dX9_findingIn_19 (by decide) ?_
  exact go_iret (pc := 20) rfl dX9_findingIn_20
set_option maxRecDepth 100000 in
set_option maxHeartbeats 4000000 in
theorem cX9_answer_6 {l : Launch} {G : gG} : Ct l G mX9_answer 1 20 [.ref (G.2.1 + 0), .int 0] 42 90324 (wl G.2.1 [ob 9 [.ref (G.2.1 + 1), .ref (G.2.1 + 23), .ref (G.2.1 + 27), .ref (G.2.1 + 28), .ref (G.2.1 + 22), .int 0, .int 0, .null, .int 0, .null, .int 0], ob 6 [.ref (G.2.1 + 2), .ref (G.2.1 + 6), .ref (G.2.1 + 12), .ref (G.2.1 + 14), .ref (G.2.1 + 17), .ref (G.2.1 + 20), .ref (G.2.1 + 21)], ob 2 [.int 256, .int 3, .int 1, .int 1, .ref (G.2.1 + 3), .ref (G.2.1 + 4), .ref (G.2.1 + 5)], ai G 256 (fun j => if 1 ≤ j ∧ j < 3 then (-1) else (upd (fun _ => 0) (0 : Int32).toNatClampNeg 3) j), ai G 500 (upd (fun _ => (-1)) (0 : Int32).toNatClampNeg 0), ai G 500 (upd (fun _ => 0) (0 : Int32).toNatClampNeg 0), ob 3 [.int 0, .int 0, .int 0, .int 0, .ref (G.2.1 + 7), .ref (G.2.1 + 8), .ref (G.2.1 + 9), .ref (G.2.1 + 10), .ref (G.2.1 + 11)], ai G 500 (fun _ => 0), ai G 500 (fun _ => 0), ai G 500 (fun _ => 0), ai G 500 (fun _ => 0), ai G 500 (fun _ => 0), ob 8 [.int 0, .int 0, .int 0, .int 0, .int 0, .int 0, .ref (G.2.1 + 13)], ai G 300 (fun _ => 0), ob 4 [.int 0, .ref (G.2.1 + 15), .ref (G.2.1 + 16)], ai G 1295 (fun _ => 0), ai G 1295 (fun _ => 0), ob 5 [.int 0, .int 0, .int 0, .int 0, .ref (G.2.1 + 18), .ref (G.2.1 + 19)], ai G 200 (fun _ => 0), ai G 8 (fun _ => (-1)), ai G 24 (fun _ => (-1)), ai G 32 (fun _ => (-1)), ai G 14 (fun _ => 0), ob 7 [.ref (G.2.1 + 1), .ref (G.2.1 + 2), .ref (G.2.1 + 6), .ref (G.2.1 + 22), .ref (G.2.1 + 24), .int 0, .ref (G.2.1 + 25), .ref (G.2.1 + 26), .int 0], ai G 500 (fun _ => 0), ai G 500 (fun _ => 0), ai G 500 (fun _ => 0), ob 0 [.ref (G.2.1 + 1), .ref (G.2.1 + 2), .ref (G.2.1 + 23), .int 0], ob 1 [.ref (G.2.1 + 29), .int 0, .int 0, .ref (G.2.1 + 30), .ref (G.2.1 + 31)], ai G 0 (fun _ => 0), ai G 500 (fun _ => 0), ai G 501 (fun _ => 0), ob 10 [.ref (G.2.1 + 33), .ref (G.2.1 + 34), .ref (G.2.1 + 35), .int 0, .int 0, .int 0, .int 0, .int 0, .ref (G.2.1 + 36), .ref (G.2.1 + 37), .ref (G.2.1 + 38), .ref (G.2.1 + 39), .int 0, .ref (G.2.1 + 40), .int 0, .ref (G.2.1 + 41)], ai G 26100 (sx 256), ai G 26100 (fun _ => 0), ai G 26100 (fun _ => 0), ai G 14 (fun _ => 0), ai G 500 (fun _ => 0), ai G 500 (fun _ => 0), az G 500 (fun _ => 0), ai G 501 (fun _ => 0), ai G 500 (fun _ => 0)]) (some (.int 0), 42, 90324, (wl G.2.1 [ob 9 [.ref (G.2.1 + 1), .ref (G.2.1 + 23), .ref (G.2.1 + 27), .ref (G.2.1 + 28), .ref (G.2.1 + 22), .int 0, .int 0, .null, .int 0, .null, .int 0], ob 6 [.ref (G.2.1 + 2), .ref (G.2.1 + 6), .ref (G.2.1 + 12), .ref (G.2.1 + 14), .ref (G.2.1 + 17), .ref (G.2.1 + 20), .ref (G.2.1 + 21)], ob 2 [.int 256, .int 3, .int 1, .int 1, .ref (G.2.1 + 3), .ref (G.2.1 + 4), .ref (G.2.1 + 5)], ai G 256 (fun j => if 1 ≤ j ∧ j < 3 then (-1) else (upd (fun _ => 0) (0 : Int32).toNatClampNeg 3) j), ai G 500 (upd (fun _ => (-1)) (0 : Int32).toNatClampNeg 0), ai G 500 (upd (fun _ => 0) (0 : Int32).toNatClampNeg 0), ob 3 [.int 0, .int 0, .int 0, .int 0, .ref (G.2.1 + 7), .ref (G.2.1 + 8), .ref (G.2.1 + 9), .ref (G.2.1 + 10), .ref (G.2.1 + 11)], ai G 500 (fun _ => 0), ai G 500 (fun _ => 0), ai G 500 (fun _ => 0), ai G 500 (fun _ => 0), ai G 500 (fun _ => 0), ob 8 [.int 0, .int 0, .int 0, .int 0, .int 0, .int 0, .ref (G.2.1 + 13)], ai G 300 (fun _ => 0), ob 4 [.int 0, .ref (G.2.1 + 15), .ref (G.2.1 + 16)], ai G 1295 (fun _ => 0), ai G 1295 (fun _ => 0), ob 5 [.int 0, .int 0, .int 0, .int 0, .ref (G.2.1 + 18), .ref (G.2.1 + 19)], ai G 200 (fun _ => 0), ai G 8 (fun _ => (-1)), ai G 24 (fun _ => (-1)), ai G 32 (fun _ => (-1)), ai G 14 (fun _ => 0), ob 7 [.ref (G.2.1 + 1), .ref (G.2.1 + 2), .ref (G.2.1 + 6), .ref (G.2.1 + 22), .ref (G.2.1 + 24), .int 0, .ref (G.2.1 + 25), .ref (G.2.1 + 26), .int 0], ai G 500 (fun _ => 0), ai G 500 (fun _ => 0), ai G 500 (fun _ => 0), ob 0 [.ref (G.2.1 + 1), .ref (G.2.1 + 2), .ref (G.2.1 + 23), .int 0], ob 1 [.ref (G.2.1 + 29), .int 0, .int 0, .ref (G.2.1 + 30), .ref (G.2.1 + 31)], ai G 0 (fun _ => 0), ai G 500 (fun _ => 0), ai G 501 (fun _ => 0), ob 10 [.ref (G.2.1 + 33), .ref (G.2.1 + 34), .ref (G.2.1 + 35), .int 0, .int 0, .int 0, .int 0, .int 0, .ref (G.2.1 + 36), .ref (G.2.1 + 37), .ref (G.2.1 + 38), .ref (G.2.1 + 39), .int 0, .ref (G.2.1 + 40), .int 0, .ref (G.2.1 + 41)], ai G 26100 (sx 256), ai G 26100 (fun _ => 0), ai G 26100 (fun _ => 0), ai G 14 (fun _ => 0), ai G 500 (fun _ => 0), ai G 500 (fun _ => 0), az G 500 (fun _ => 0), ai G 501 (fun _ => 0), ai G 500 (fun _ => 0)])) := by
  refine Ct.of (by decide) (Nat.le_of_ble_eq_true rfl) ⟨Nat.le_refl _, Nat.le_refl _⟩ ?_
  show Go l G mX9_answer _ 0 [(0, .ref (G.2.1 + 0)), (1, .int 0)] [] 42 90324 (wl G.2.1 [ob 9 [.ref (G.2.1 + 1), .ref (G.2.1 + 23), .ref (G.2.1 + 27), .ref (G.2.1 + 28), .ref (G.2.1 + 22), .int 0, .int 0, .null, .int 0, .null, .int 0], ob 6 [.ref (G.2.1 + 2), .ref (G.2.1 + 6), .ref (G.2.1 + 12), .ref (G.2.1 + 14), .ref (G.2.1 + 17), .ref (G.2.1 + 20), .ref (G.2.1 + 21)], ob 2 [.int 256, .int 3, .int 1, .int 1, .ref (G.2.1 + 3), .ref (G.2.1 + 4), .ref (G.2.1 + 5)], ai G 256 (fun j => if 1 ≤ j ∧ j < 3 then (-1) else (upd (fun _ => 0) (0 : Int32).toNatClampNeg 3) j), ai G 500 (upd (fun _ => (-1)) (0 : Int32).toNatClampNeg 0), ai G 500 (upd (fun _ => 0) (0 : Int32).toNatClampNeg 0), ob 3 [.int 0, .int 0, .int 0, .int 0, .ref (G.2.1 + 7), .ref (G.2.1 + 8), .ref (G.2.1 + 9), .ref (G.2.1 + 10), .ref (G.2.1 + 11)], ai G 500 (fun _ => 0), ai G 500 (fun _ => 0), ai G 500 (fun _ => 0), ai G 500 (fun _ => 0), ai G 500 (fun _ => 0), ob 8 [.int 0, .int 0, .int 0, .int 0, .int 0, .int 0, .ref (G.2.1 + 13)], ai G 300 (fun _ => 0), ob 4 [.int 0, .ref (G.2.1 + 15), .ref (G.2.1 + 16)], ai G 1295 (fun _ => 0), ai G 1295 (fun _ => 0), ob 5 [.int 0, .int 0, .int 0, .int 0, .ref (G.2.1 + 18), .ref (G.2.1 + 19)], ai G 200 (fun _ => 0), ai G 8 (fun _ => (-1)), ai G 24 (fun _ => (-1)), ai G 32 (fun _ => (-1)), ai G 14 (fun _ => 0), ob 7 [.ref (G.2.1 + 1), .ref (G.2.1 + 2), .ref (G.2.1 + 6), .ref (G.2.1 + 22), .ref (G.2.1 + 24), .int 0, .ref (G.2.1 + 25), .ref (G.2.1 + 26), .int 0], ai G 500 (fun _ => 0), ai G 500 (fun _ => 0), ai G 500 (fun _ => 0), ob 0 [.ref (G.2.1 + 1), .ref (G.2.1 + 2), .ref (G.2.1 + 23), .int 0], ob 1 [.ref (G.2.1 + 29), .int 0, .int 0, .ref (G.2.1 + 30), .ref (G.2.1 + 31)], ai G 0 (fun _ => 0), ai G 500 (fun _ => 0), ai G 501 (fun _ => 0), ob 10 [.ref (G.2.1 + 33), .ref (G.2.1 + 34), .ref (G.2.1 + 35), .int 0, .int 0, .int 0, .int 0, .int 0, .ref (G.2.1 + 36), .ref (G.2.1 + 37), .ref (G.2.1 + 38), .ref (G.2.1 + 39), .int 0, .ref (G.2.1 + 40), .int 0, .ref (G.2.1 + 41)], ai G 26100 (sx 256), ai G 26100 (fun _ => 0), ai G 26100 (fun _ => 0), ai G 14 (fun _ => 0), ai G 500 (fun _ => 0), ai G 500 (fun _ => 0), az G 500 (fun _ => 0), ai G 501 (fun _ => 0), ai G 500 (fun _ => 0)])
  refine go_aload_n (pc := 0) dX9_answer_0 rfl rfl ?_
  refine go_iload_n (pc := 1) dX9_answer_1 rfl rfl ?_
  refine go_callS_i (pc := 2) sX9_302 rfl (cX9_findingIn_6) rfl rfl (Nat.le_of_ble_eq_true rfl) ⟨Nat.le_of_ble_eq_true rfl, Nat.le_of_ble_eq_true rfl, (Nat.le_add_right _ _), (Nat.le_add_right _ _)⟩ dX9_answer_2 ?_
  refine go_put (pc := 5) fX9_53 rfl (gz_b (by decide)) (wl_at (i := 0) rfl) (Nat.le_of_ble_eq_true rfl) rfl rfl dX9_answer_5 ?_
  refine go_ext (wl_up (i := 0) rfl rfl) ?_
  refine go_iload_n (pc := 8) dX9_answer_8 rfl rfl ?_
  refine go_w (show _ = wl G.2.1 [ob 9 [.ref (G.2.1 + 1), .ref (G.2.1 + 23), .ref (G.2.1 + 27), .ref (G.2.1 + 28), .ref (G.2.1 + 22), .int 0, .int 0, .null, .int 0, .null, .int 0], ob 6 [.ref (G.2.1 + 2), .ref (G.2.1 + 6), .ref (G.2.1 + 12), .ref (G.2.1 + 14), .ref (G.2.1 + 17), .ref (G.2.1 + 20), .ref (G.2.1 + 21)], ob 2 [.int 256, .int 3, .int 1, .int 1, .ref (G.2.1 + 3), .ref (G.2.1 + 4), .ref (G.2.1 + 5)], ai G 256 (fun j => if 1 ≤ j ∧ j < 3 then (-1) else (upd (fun _ => 0) (0 : Int32).toNatClampNeg 3) j), ai G 500 (upd (fun _ => (-1)) (0 : Int32).toNatClampNeg 0), ai G 500 (upd (fun _ => 0) (0 : Int32).toNatClampNeg 0), ob 3 [.int 0, .int 0, .int 0, .int 0, .ref (G.2.1 + 7), .ref (G.2.1 + 8), .ref (G.2.1 + 9), .ref (G.2.1 + 10), .ref (G.2.1 + 11)], ai G 500 (fun _ => 0), ai G 500 (fun _ => 0), ai G 500 (fun _ => 0), ai G 500 (fun _ => 0), ai G 500 (fun _ => 0), ob 8 [.int 0, .int 0, .int 0, .int 0, .int 0, .int 0, .ref (G.2.1 + 13)], ai G 300 (fun _ => 0), ob 4 [.int 0, .ref (G.2.1 + 15), .ref (G.2.1 + 16)], ai G 1295 (fun _ => 0), ai G 1295 (fun _ => 0), ob 5 [.int 0, .int 0, .int 0, .int 0, .ref (G.2.1 + 18), .ref (G.2.1 + 19)], ai G 200 (fun _ => 0), ai G 8 (fun _ => (-1)), ai G 24 (fun _ => (-1)), ai G 32 (fun _ => (-1)), ai G 14 (fun _ => 0), ob 7 [.ref (G.2.1 + 1), .ref (G.2.1 + 2), .ref (G.2.1 + 6), .ref (G.2.1 + 22), .ref (G.2.1 + 24), .int 0, .ref (G.2.1 + 25), .ref (G.2.1 + 26), .int 0], ai G 500 (fun _ => 0), ai G 500 (fun _ => 0), ai G 500 (fun _ => 0), ob 0 [.ref (G.2.1 + 1), .ref (G.2.1 + 2), .ref (G.2.1 + 23), .int 0], ob 1 [.ref (G.2.1 + 29), .int 0, .int 0, .ref (G.2.1 + 30), .ref (G.2.1 + 31)], ai G 0 (fun _ => 0), ai G 500 (fun _ => 0), ai G 501 (fun _ => 0), ob 10 [.ref (G.2.1 + 33), .ref (G.2.1 + 34), .ref (G.2.1 + 35), .int 0, .int 0, .int 0, .int 0, .int 0, .ref (G.2.1 + 36), .ref (G.2.1 + 37), .ref (G.2.1 + 38), .ref (G.2.1 + 39), .int 0, .ref (G.2.1 + 40), .int 0, .ref (G.2.1 + 41)], ai G 26100 (sx 256), ai G 26100 (fun _ => 0), ai G 26100 (fun _ => 0), ai G 14 (fun _ => 0), ai G 500 (fun _ => 0), ai G 500 (fun _ => 0), az G 500 (fun _ => 0), ai G 501 (fun _ => 0), ai G 500 (fun _ => 0)] from rfl) ?_
  exact go_iret (pc := 9) rfl dX9_answer_9
set_option maxRecDepth 100000 in
set_option maxHeartbeats 4000000 in
theorem cx_make_3_o {l : Launch} {G : gG} (x2 : Int32) : Ct l G mX9_make 4 94 [.ref (G.2.1 + 0), .int 3, .int x2] 42 90324 (wl G.2.1 (LF G)) (some (.int 0), 42, 90324, (wl G.2.1 [ob 9 [.ref (G.2.1 + 1), .ref (G.2.1 + 23), .ref (G.2.1 + 27), .ref (G.2.1 + 28), .ref (G.2.1 + 22), .int 0, .int 0, .null, .int 0, .null, .int 0], ob 6 [.ref (G.2.1 + 2), .ref (G.2.1 + 6), .ref (G.2.1 + 12), .ref (G.2.1 + 14), .ref (G.2.1 + 17), .ref (G.2.1 + 20), .ref (G.2.1 + 21)], ob 2 [.int 256, .int 3, .int 1, .int 1, .ref (G.2.1 + 3), .ref (G.2.1 + 4), .ref (G.2.1 + 5)], ai G 256 (fun j => if 1 ≤ j ∧ j < 3 then (-1) else (upd (fun _ => 0) (0 : Int32).toNatClampNeg 3) j), ai G 500 (upd (fun _ => (-1)) (0 : Int32).toNatClampNeg 0), ai G 500 (upd (fun _ => 0) (0 : Int32).toNatClampNeg 0), ob 3 [.int 0, .int 0, .int 0, .int 0, .ref (G.2.1 + 7), .ref (G.2.1 + 8), .ref (G.2.1 + 9), .ref (G.2.1 + 10), .ref (G.2.1 + 11)], ai G 500 (fun _ => 0), ai G 500 (fun _ => 0), ai G 500 (fun _ => 0), ai G 500 (fun _ => 0), ai G 500 (fun _ => 0), ob 8 [.int 0, .int 0, .int 0, .int 0, .int 0, .int 0, .ref (G.2.1 + 13)], ai G 300 (fun _ => 0), ob 4 [.int 0, .ref (G.2.1 + 15), .ref (G.2.1 + 16)], ai G 1295 (fun _ => 0), ai G 1295 (fun _ => 0), ob 5 [.int 0, .int 0, .int 0, .int 0, .ref (G.2.1 + 18), .ref (G.2.1 + 19)], ai G 200 (fun _ => 0), ai G 8 (fun _ => (-1)), ai G 24 (fun _ => (-1)), ai G 32 (fun _ => (-1)), ai G 14 (fun _ => 0), ob 7 [.ref (G.2.1 + 1), .ref (G.2.1 + 2), .ref (G.2.1 + 6), .ref (G.2.1 + 22), .ref (G.2.1 + 24), .int 0, .ref (G.2.1 + 25), .ref (G.2.1 + 26), .int 0], ai G 500 (fun _ => 0), ai G 500 (fun _ => 0), ai G 500 (fun _ => 0), ob 0 [.ref (G.2.1 + 1), .ref (G.2.1 + 2), .ref (G.2.1 + 23), .int 0], ob 1 [.ref (G.2.1 + 29), .int 0, .int 0, .ref (G.2.1 + 30), .ref (G.2.1 + 31)], ai G 0 (fun _ => 0), ai G 500 (fun _ => 0), ai G 501 (fun _ => 0), ob 10 [.ref (G.2.1 + 33), .ref (G.2.1 + 34), .ref (G.2.1 + 35), .int 0, .int 0, .int 0, .int 0, .int 0, .ref (G.2.1 + 36), .ref (G.2.1 + 37), .ref (G.2.1 + 38), .ref (G.2.1 + 39), .int 0, .ref (G.2.1 + 40), .int 0, .ref (G.2.1 + 41)], ai G 26100 (sx 256), ai G 26100 (fun _ => 0), ai G 26100 (fun _ => 0), ai G 14 (fun _ => 0), ai G 500 (fun _ => 0), ai G 500 (fun _ => 0), az G 500 (fun _ => 0), ai G 501 (fun _ => 0), ai G 500 (fun _ => 0)])) := by
  refine Ct.of (by decide) (Nat.le_of_ble_eq_true rfl) ⟨Nat.le_refl _, Nat.le_refl _⟩ ?_
  show Go l G mX9_make _ 0 [(0, .ref (G.2.1 + 0)), (1, .int 3), (2, .int x2)] [] 42 90324 (wl G.2.1 (LF G))
  refine go_iload_n (pc := 0) dX9_make_0 rfl rfl ?_
  refine go_iload_n (pc := 1) dX9_make_1 rfl rfl ?_
  refine go_callS_i (pc := 2) sX9_66 rfl (cX9_isOutsideOfMaking_3 x2) rfl rfl (Nat.le_of_ble_eq_true rfl) ⟨Nat.le_of_ble_eq_true rfl, Nat.le_of_ble_eq_true rfl, (Nat.le_add_right _ _), (Nat.le_add_right _ _)⟩ dX9_make_2 ?_
  refine go_if_eq_t (pc := 5) (tgt := 11) dX9_make_5 (by decide) (by decide) ?_
  refine go_aload_n (pc := 11) dX9_make_11 rfl rfl ?_
  refine go_aload_n (pc := 12) dX9_make_12 rfl rfl ?_
  refine go_get (pc := 13) fX9_34 rfl (gz_b (by decide)) (wl_at (i := 0) rfl) rfl dX9_make_13 ?_
  refine go_iload_n (pc := 16) dX9_make_16 rfl rfl ?_
  refine go_iload_n (pc := 17) dX9_make_17 rfl rfl ?_
  refine go_callV_i (pc := 18) vX9_70 rfl (cX0_makeCell_2 x2) rfl rfl (gz_b (by decide)) (wl_at (i := 27) rfl) rfl (Nat.le_of_ble_eq_true rfl) ⟨Nat.le_of_ble_eq_true rfl, Nat.le_of_ble_eq_true rfl, (Nat.le_add_right _ _), (Nat.le_add_right _ _)⟩ dX9_make_18 ?_
  refine go_callV_i (pc := 21) vX9_74 rfl (cX9_answer_6) rfl rfl (gz_b (by decide)) (wl_at (i := 0) rfl) rfl (Nat.le_of_ble_eq_true rfl) ⟨Nat.le_of_ble_eq_true rfl, Nat.le_of_ble_eq_true rfl, (Nat.le_add_right _ _), (Nat.le_add_right _ _)⟩ dX9_make_21 ?_
  exact go_iret (pc := 24) rfl dX9_make_24
theorem cx_make_3 {l : Launch} {G : gG} (x2 : Int32) : CX l G mX9_make [.ref (G.2.1 + 0), .int 3, .int x2] 0 := by
  exact ⟨4, 94, 42, 90324, _, by decide, by decide, by decide, by decide, by decide, (by exact wl_frame rfl), cx_make_3_o x2⟩
set_option maxRecDepth 100000 in
set_option maxHeartbeats 4000000 in
theorem cX2_isCounted_6 {l : Launch} {G : gG} : Ct l G mX2_isCounted 0 0 [.int 4] 42 90324 (wl G.2.1 (LF G)) (some (.int 0), 42, 90324, (wl G.2.1 (LF G))) := by
  refine Ct.of (by decide) (Nat.le_of_ble_eq_true rfl) ⟨Nat.le_refl _, Nat.le_refl _⟩ ?_
  show Go l G mX2_isCounted _ 0 [(0, .int 4)] [] 42 90324 (wl G.2.1 (LF G))
  refine go_iload_n (pc := 0) dX2_isCounted_0 rfl rfl ?_
  refine go_iconst (pc := 1) (v := 1) dX2_isCounted_1 (by decide) ?_
  refine go_icmp_eq_f (pc := 2) (tgt := 15) dX2_isCounted_2 (by decide) (by decide) ?_
  refine go_iload_n (pc := 5) dX2_isCounted_5 rfl rfl ?_
  refine go_iconst (pc := 6) (v := 2) dX2_isCounted_6 (by decide) ?_
  refine go_icmp_eq_f (pc := 7) (tgt := 15) dX2_isCounted_7 (by decide) (by decide) ?_
  refine go_iload_n (pc := 10) dX2_isCounted_10 rfl rfl ?_
  refine go_iconst (pc := 11) (v := 5) dX2_isCounted_11 (by decide) ?_
  refine go_icmp_ne_t (pc := 12) (tgt := 19) dX2_isCounted_12 (by decide) (by decide) ?_
  refine go_iconst (pc := 19) (v := 0) dX2_isCounted_19 (by decide) ?_
  exact go_zret (pc := 20) rfl rfl dX2_isCounted_20
set_option maxRecDepth 100000 in
set_option maxHeartbeats 4000000 in
theorem cX9_isOutsideOfMaking_4 {l : Launch} {G : gG} (x2 : Int32) : Ct l G mX9_isOutsideOfMaking 1 20 [.int 4, .int x2] 42 90324 (wl G.2.1 (LF G)) (some (.int 0), 42, 90324, (wl G.2.1 (LF G))) := by
  refine Ct.of (by decide) (Nat.le_of_ble_eq_true rfl) ⟨Nat.le_refl _, Nat.le_refl _⟩ ?_
  show Go l G mX9_isOutsideOfMaking _ 0 [(0, .int 4), (1, .int x2)] [] 42 90324 (wl G.2.1 (LF G))
  refine go_iload_n (pc := 0) dX9_isOutsideOfMaking_0 rfl rfl ?_
  refine go_if_lt_f (pc := 1) (tgt := 24) dX9_isOutsideOfMaking_1 (by decide) (by decide) ?_
  refine go_iload_n (pc := 4) dX9_isOutsideOfMaking_4 rfl rfl ?_
  refine go_bipush (pc := 5) (v := 6) dX9_isOutsideOfMaking_5 (by decide) ?_
  refine go_icmp_ge_f (pc := 7) (tgt := 24) dX9_isOutsideOfMaking_7 (by decide) (by decide) ?_
  refine go_iload_n (pc := 10) dX9_isOutsideOfMaking_10 rfl rfl ?_
  refine go_callS_i (pc := 11) sX9_326 rfl (cX2_isCounted_6) rfl rfl (Nat.le_of_ble_eq_true rfl) ⟨Nat.le_of_ble_eq_true rfl, Nat.le_of_ble_eq_true rfl, (Nat.le_add_right _ _), (Nat.le_add_right _ _)⟩ dX9_isOutsideOfMaking_11 ?_
  refine go_if_eq_t (pc := 14) (tgt := 28) dX9_isOutsideOfMaking_14 (by decide) (by decide) ?_
  refine go_iconst (pc := 28) (v := 0) dX9_isOutsideOfMaking_28 (by decide) ?_
  exact go_zret (pc := 29) rfl rfl dX9_isOutsideOfMaking_29
set_option maxRecDepth 100000 in
set_option maxHeartbeats 4000000 in
theorem cX2_intsFor_5 {l : Launch} {G : gG} : Ct l G mX2_intsFor 0 0 [.int 4, .int 0] 42 90324 (wl G.2.1 (LF G)) (some (.int 4), 42, 90324, (wl G.2.1 (LF G))) := by
  refine Ct.of (by decide) (Nat.le_of_ble_eq_true rfl) ⟨Nat.le_refl _, Nat.le_refl _⟩ ?_
  show Go l G mX2_intsFor _ 0 [(0, .int 4), (1, .int 0)] [] 42 90324 (wl G.2.1 (LF G))
  refine go_iload_n (pc := 0) dX2_intsFor_0 rfl rfl ?_
  refine go_tableIn (pc := 1) (off := 53) (tgt := 54) dX2_intsFor_1 (by decide) (by decide) (by decide) (by decide) ?_
  refine go_iconst (pc := 54) (v := 4) dX2_intsFor_54 (by decide) ?_
  exact go_iret (pc := 55) rfl dX2_intsFor_55
set_option maxRecDepth 100000 in
set_option maxHeartbeats 4000000 in
theorem cX2_isCounted_7 {l : Launch} {G : gG} : Ct l G mX2_isCounted 0 0 [.int 4] 42 90324 (wl G.2.1 [ob 9 [.ref (G.2.1 + 1), .ref (G.2.1 + 23), .ref (G.2.1 + 27), .ref (G.2.1 + 28), .ref (G.2.1 + 22), .int 0, .int 0, .null, .int 0, .null, .int 0], ob 6 [.ref (G.2.1 + 2), .ref (G.2.1 + 6), .ref (G.2.1 + 12), .ref (G.2.1 + 14), .ref (G.2.1 + 17), .ref (G.2.1 + 20), .ref (G.2.1 + 21)], ob 2 [.int 256, .int 0, .int 0, .int 0, .ref (G.2.1 + 3), .ref (G.2.1 + 4), .ref (G.2.1 + 5)], ai G 256 (upd (fun _ => 0) (0 : Int32).toNatClampNeg 4), ai G 500 (fun _ => (-1)), ai G 500 (fun _ => 0), ob 3 [.int 0, .int 0, .int 0, .int 0, .ref (G.2.1 + 7), .ref (G.2.1 + 8), .ref (G.2.1 + 9), .ref (G.2.1 + 10), .ref (G.2.1 + 11)], ai G 500 (fun _ => 0), ai G 500 (fun _ => 0), ai G 500 (fun _ => 0), ai G 500 (fun _ => 0), ai G 500 (fun _ => 0), ob 8 [.int 0, .int 0, .int 0, .int 0, .int 0, .int 0, .ref (G.2.1 + 13)], ai G 300 (fun _ => 0), ob 4 [.int 0, .ref (G.2.1 + 15), .ref (G.2.1 + 16)], ai G 1295 (fun _ => 0), ai G 1295 (fun _ => 0), ob 5 [.int 0, .int 0, .int 0, .int 0, .ref (G.2.1 + 18), .ref (G.2.1 + 19)], ai G 200 (fun _ => 0), ai G 8 (fun _ => (-1)), ai G 24 (fun _ => (-1)), ai G 32 (fun _ => (-1)), ai G 14 (fun _ => 0), ob 7 [.ref (G.2.1 + 1), .ref (G.2.1 + 2), .ref (G.2.1 + 6), .ref (G.2.1 + 22), .ref (G.2.1 + 24), .int 0, .ref (G.2.1 + 25), .ref (G.2.1 + 26), .int 0], ai G 500 (fun _ => 0), ai G 500 (fun _ => 0), ai G 500 (fun _ => 0), ob 0 [.ref (G.2.1 + 1), .ref (G.2.1 + 2), .ref (G.2.1 + 23), .int 0], ob 1 [.ref (G.2.1 + 29), .int 0, .int 0, .ref (G.2.1 + 30), .ref (G.2.1 + 31)], ai G 0 (fun _ => 0), ai G 500 (fun _ => 0), ai G 501 (fun _ => 0), ob 10 [.ref (G.2.1 + 33), .ref (G.2.1 + 34), .ref (G.2.1 + 35), .int 0, .int 0, .int 0, .int 0, .int 0, .ref (G.2.1 + 36), .ref (G.2.1 + 37), .ref (G.2.1 + 38), .ref (G.2.1 + 39), .int 0, .ref (G.2.1 + 40), .int 0, .ref (G.2.1 + 41)], ai G 26100 (sx 256), ai G 26100 (fun _ => 0), ai G 26100 (fun _ => 0), ai G 14 (fun _ => 0), ai G 500 (fun _ => 0), ai G 500 (fun _ => 0), az G 500 (fun _ => 0), ai G 501 (fun _ => 0), ai G 500 (fun _ => 0)]) (some (.int 0), 42, 90324, (wl G.2.1 [ob 9 [.ref (G.2.1 + 1), .ref (G.2.1 + 23), .ref (G.2.1 + 27), .ref (G.2.1 + 28), .ref (G.2.1 + 22), .int 0, .int 0, .null, .int 0, .null, .int 0], ob 6 [.ref (G.2.1 + 2), .ref (G.2.1 + 6), .ref (G.2.1 + 12), .ref (G.2.1 + 14), .ref (G.2.1 + 17), .ref (G.2.1 + 20), .ref (G.2.1 + 21)], ob 2 [.int 256, .int 0, .int 0, .int 0, .ref (G.2.1 + 3), .ref (G.2.1 + 4), .ref (G.2.1 + 5)], ai G 256 (upd (fun _ => 0) (0 : Int32).toNatClampNeg 4), ai G 500 (fun _ => (-1)), ai G 500 (fun _ => 0), ob 3 [.int 0, .int 0, .int 0, .int 0, .ref (G.2.1 + 7), .ref (G.2.1 + 8), .ref (G.2.1 + 9), .ref (G.2.1 + 10), .ref (G.2.1 + 11)], ai G 500 (fun _ => 0), ai G 500 (fun _ => 0), ai G 500 (fun _ => 0), ai G 500 (fun _ => 0), ai G 500 (fun _ => 0), ob 8 [.int 0, .int 0, .int 0, .int 0, .int 0, .int 0, .ref (G.2.1 + 13)], ai G 300 (fun _ => 0), ob 4 [.int 0, .ref (G.2.1 + 15), .ref (G.2.1 + 16)], ai G 1295 (fun _ => 0), ai G 1295 (fun _ => 0), ob 5 [.int 0, .int 0, .int 0, .int 0, .ref (G.2.1 + 18), .ref (G.2.1 + 19)], ai G 200 (fun _ => 0), ai G 8 (fun _ => (-1)), ai G 24 (fun _ => (-1)), ai G 32 (fun _ => (-1)), ai G 14 (fun _ => 0), ob 7 [.ref (G.2.1 + 1), .ref (G.2.1 + 2), .ref (G.2.1 + 6), .ref (G.2.1 + 22), .ref (G.2.1 + 24), .int 0, .ref (G.2.1 + 25), .ref (G.2.1 + 26), .int 0], ai G 500 (fun _ => 0), ai G 500 (fun _ => 0), ai G 500 (fun _ => 0), ob 0 [.ref (G.2.1 + 1), .ref (G.2.1 + 2), .ref (G.2.1 + 23), .int 0], ob 1 [.ref (G.2.1 + 29), .int 0, .int 0, .ref (G.2.1 + 30), .ref (G.2.1 + 31)], ai G 0 (fun _ => 0), ai G 500 (fun _ => 0), ai G 501 (fun _ => 0), ob 10 [.ref (G.2.1 + 33), .ref (G.2.1 + 34), .ref (G.2.1 + 35), .int 0, .int 0, .int 0, .int 0, .int 0, .ref (G.2.1 + 36), .ref (G.2.1 + 37), .ref (G.2.1 + 38), .ref (G.2.1 + 39), .int 0, .ref (G.2.1 + 40), .int 0, .ref (G.2.1 + 41)], ai G 26100 (sx 256), ai G 26100 (fun _ => 0), ai G 26100 (fun _ => 0), ai G 14 (fun _ => 0), ai G 500 (fun _ => 0), ai G 500 (fun _ => 0), az G 500 (fun _ => 0), ai G 501 (fun _ => 0), ai G 500 (fun _ => 0)])) := by
  refine Ct.of (by decide) (Nat.le_of_ble_eq_true rfl) ⟨Nat.le_refl _, Nat.le_refl _⟩ ?_
  show Go l G mX2_isCounted _ 0 [(0, .int 4)] [] 42 90324 (wl G.2.1 [ob 9 [.ref (G.2.1 + 1), .ref (G.2.1 + 23), .ref (G.2.1 + 27), .ref (G.2.1 + 28), .ref (G.2.1 + 22), .int 0, .int 0, .null, .int 0, .null, .int 0], ob 6 [.ref (G.2.1 + 2), .ref (G.2.1 + 6), .ref (G.2.1 + 12), .ref (G.2.1 + 14), .ref (G.2.1 + 17), .ref (G.2.1 + 20), .ref (G.2.1 + 21)], ob 2 [.int 256, .int 0, .int 0, .int 0, .ref (G.2.1 + 3), .ref (G.2.1 + 4), .ref (G.2.1 + 5)], ai G 256 (upd (fun _ => 0) (0 : Int32).toNatClampNeg 4), ai G 500 (fun _ => (-1)), ai G 500 (fun _ => 0), ob 3 [.int 0, .int 0, .int 0, .int 0, .ref (G.2.1 + 7), .ref (G.2.1 + 8), .ref (G.2.1 + 9), .ref (G.2.1 + 10), .ref (G.2.1 + 11)], ai G 500 (fun _ => 0), ai G 500 (fun _ => 0), ai G 500 (fun _ => 0), ai G 500 (fun _ => 0), ai G 500 (fun _ => 0), ob 8 [.int 0, .int 0, .int 0, .int 0, .int 0, .int 0, .ref (G.2.1 + 13)], ai G 300 (fun _ => 0), ob 4 [.int 0, .ref (G.2.1 + 15), .ref (G.2.1 + 16)], ai G 1295 (fun _ => 0), ai G 1295 (fun _ => 0), ob 5 [.int 0, .int 0, .int 0, .int 0, .ref (G.2.1 + 18), .ref (G.2.1 + 19)], ai G 200 (fun _ => 0), ai G 8 (fun _ => (-1)), ai G 24 (fun _ => (-1)), ai G 32 (fun _ => (-1)), ai G 14 (fun _ => 0), ob 7 [.ref (G.2.1 + 1), .ref (G.2.1 + 2), .ref (G.2.1 + 6), .ref (G.2.1 + 22), .ref (G.2.1 + 24), .int 0, .ref (G.2.1 + 25), .ref (G.2.1 + 26), .int 0], ai G 500 (fun _ => 0), ai G 500 (fun _ => 0), ai G 500 (fun _ => 0), ob 0 [.ref (G.2.1 + 1), .ref (G.2.1 + 2), .ref (G.2.1 + 23), .int 0], ob 1 [.ref (G.2.1 + 29), .int 0, .int 0, .ref (G.2.1 + 30), .ref (G.2.1 + 31)], ai G 0 (fun _ => 0), ai G 500 (fun _ => 0), ai G 501 (fun _ => 0), ob 10 [.ref (G.2.1 + 33), .ref (G.2.1 + 34), .ref (G.2.1 + 35), .int 0, .int 0, .int 0, .int 0, .int 0, .ref (G.2.1 + 36), .ref (G.2.1 + 37), .ref (G.2.1 + 38), .ref (G.2.1 + 39), .int 0, .ref (G.2.1 + 40), .int 0, .ref (G.2.1 + 41)], ai G 26100 (sx 256), ai G 26100 (fun _ => 0), ai G 26100 (fun _ => 0), ai G 14 (fun _ => 0), ai G 500 (fun _ => 0), ai G 500 (fun _ => 0), az G 500 (fun _ => 0), ai G 501 (fun _ => 0), ai G 500 (fun _ => 0)])
  refine go_iload_n (pc := 0) dX2_isCounted_0 rfl rfl ?_
  refine go_iconst (pc := 1) (v := 1) dX2_isCounted_1 (by decide) ?_
  refine go_icmp_eq_f (pc := 2) (tgt := 15) dX2_isCounted_2 (by decide) (by decide) ?_
  refine go_iload_n (pc := 5) dX2_isCounted_5 rfl rfl ?_
  refine go_iconst (pc := 6) (v := 2) dX2_isCounted_6 (by decide) ?_
  refine go_icmp_eq_f (pc := 7) (tgt := 15) dX2_isCounted_7 (by decide) (by decide) ?_
  refine go_iload_n (pc := 10) dX2_isCounted_10 rfl rfl ?_
  refine go_iconst (pc := 11) (v := 5) dX2_isCounted_11 (by decide) ?_
  refine go_icmp_ne_t (pc := 12) (tgt := 19) dX2_isCounted_12 (by decide) (by decide) ?_
  refine go_iconst (pc := 19) (v := 0) dX2_isCounted_19 (by decide) ?_
  exact go_zret (pc := 20) rfl rfl dX2_isCounted_20
set_option maxRecDepth 100000 in
set_option maxHeartbeats 4000000 in
theorem cX2_intsFor_6 {l : Launch} {G : gG} : Ct l G mX2_intsFor 0 0 [.int 4, .int 0] 42 90324 (wl G.2.1 [ob 9 [.ref (G.2.1 + 1), .ref (G.2.1 + 23), .ref (G.2.1 + 27), .ref (G.2.1 + 28), .ref (G.2.1 + 22), .int 0, .int 0, .null, .int 0, .null, .int 0], ob 6 [.ref (G.2.1 + 2), .ref (G.2.1 + 6), .ref (G.2.1 + 12), .ref (G.2.1 + 14), .ref (G.2.1 + 17), .ref (G.2.1 + 20), .ref (G.2.1 + 21)], ob 2 [.int 256, .int 0, .int 0, .int 0, .ref (G.2.1 + 3), .ref (G.2.1 + 4), .ref (G.2.1 + 5)], ai G 256 (fun j => if 1 ≤ j ∧ j < 3 then (-1) else (upd (fun _ => 0) (0 : Int32).toNatClampNeg 4) j), ai G 500 (upd (fun _ => (-1)) (0 : Int32).toNatClampNeg 0), ai G 500 (upd (fun _ => 0) (0 : Int32).toNatClampNeg 0), ob 3 [.int 0, .int 0, .int 0, .int 0, .ref (G.2.1 + 7), .ref (G.2.1 + 8), .ref (G.2.1 + 9), .ref (G.2.1 + 10), .ref (G.2.1 + 11)], ai G 500 (fun _ => 0), ai G 500 (fun _ => 0), ai G 500 (fun _ => 0), ai G 500 (fun _ => 0), ai G 500 (fun _ => 0), ob 8 [.int 0, .int 0, .int 0, .int 0, .int 0, .int 0, .ref (G.2.1 + 13)], ai G 300 (fun _ => 0), ob 4 [.int 0, .ref (G.2.1 + 15), .ref (G.2.1 + 16)], ai G 1295 (fun _ => 0), ai G 1295 (fun _ => 0), ob 5 [.int 0, .int 0, .int 0, .int 0, .ref (G.2.1 + 18), .ref (G.2.1 + 19)], ai G 200 (fun _ => 0), ai G 8 (fun _ => (-1)), ai G 24 (fun _ => (-1)), ai G 32 (fun _ => (-1)), ai G 14 (fun _ => 0), ob 7 [.ref (G.2.1 + 1), .ref (G.2.1 + 2), .ref (G.2.1 + 6), .ref (G.2.1 + 22), .ref (G.2.1 + 24), .int 0, .ref (G.2.1 + 25), .ref (G.2.1 + 26), .int 0], ai G 500 (fun _ => 0), ai G 500 (fun _ => 0), ai G 500 (fun _ => 0), ob 0 [.ref (G.2.1 + 1), .ref (G.2.1 + 2), .ref (G.2.1 + 23), .int 0], ob 1 [.ref (G.2.1 + 29), .int 0, .int 0, .ref (G.2.1 + 30), .ref (G.2.1 + 31)], ai G 0 (fun _ => 0), ai G 500 (fun _ => 0), ai G 501 (fun _ => 0), ob 10 [.ref (G.2.1 + 33), .ref (G.2.1 + 34), .ref (G.2.1 + 35), .int 0, .int 0, .int 0, .int 0, .int 0, .ref (G.2.1 + 36), .ref (G.2.1 + 37), .ref (G.2.1 + 38), .ref (G.2.1 + 39), .int 0, .ref (G.2.1 + 40), .int 0, .ref (G.2.1 + 41)], ai G 26100 (sx 256), ai G 26100 (fun _ => 0), ai G 26100 (fun _ => 0), ai G 14 (fun _ => 0), ai G 500 (fun _ => 0), ai G 500 (fun _ => 0), az G 500 (fun _ => 0), ai G 501 (fun _ => 0), ai G 500 (fun _ => 0)]) (some (.int 4), 42, 90324, (wl G.2.1 [ob 9 [.ref (G.2.1 + 1), .ref (G.2.1 + 23), .ref (G.2.1 + 27), .ref (G.2.1 + 28), .ref (G.2.1 + 22), .int 0, .int 0, .null, .int 0, .null, .int 0], ob 6 [.ref (G.2.1 + 2), .ref (G.2.1 + 6), .ref (G.2.1 + 12), .ref (G.2.1 + 14), .ref (G.2.1 + 17), .ref (G.2.1 + 20), .ref (G.2.1 + 21)], ob 2 [.int 256, .int 0, .int 0, .int 0, .ref (G.2.1 + 3), .ref (G.2.1 + 4), .ref (G.2.1 + 5)], ai G 256 (fun j => if 1 ≤ j ∧ j < 3 then (-1) else (upd (fun _ => 0) (0 : Int32).toNatClampNeg 4) j), ai G 500 (upd (fun _ => (-1)) (0 : Int32).toNatClampNeg 0), ai G 500 (upd (fun _ => 0) (0 : Int32).toNatClampNeg 0), ob 3 [.int 0, .int 0, .int 0, .int 0, .ref (G.2.1 + 7), .ref (G.2.1 + 8), .ref (G.2.1 + 9), .ref (G.2.1 + 10), .ref (G.2.1 + 11)], ai G 500 (fun _ => 0), ai G 500 (fun _ => 0), ai G 500 (fun _ => 0), ai G 500 (fun _ => 0), ai G 500 (fun _ => 0), ob 8 [.int 0, .int 0, .int 0, .int 0, .int 0, .int 0, .ref (G.2.1 + 13)], ai G 300 (fun _ => 0), ob 4 [.int 0, .ref (G.2.1 + 15), .ref (G.2.1 + 16)], ai G 1295 (fun _ => 0), ai G 1295 (fun _ => 0), ob 5 [.int 0, .int 0, .int 0, .int 0, .ref (G.2.1 + 18), .ref (G.2.1 + 19)], ai G 200 (fun _ => 0), ai G 8 (fun _ => (-1)), ai G 24 (fun _ => (-1)), ai G 32 (fun _ => (-1)), ai G 14 (fun _ => 0), ob 7 [.ref (G.2.1 + 1), .ref (G.2.1 + 2), .ref (G.2.1 + 6), .ref (G.2.1 + 22), .ref (G.2.1 + 24), .int 0, .ref (G.2.1 + 25), .ref (G.2.1 + 26), .int 0], ai G 500 (fun _ => 0), ai G 500 (fun _ => 0), ai G 500 (fun _ => 0), ob 0 [.ref (G.2.1 + 1), .ref (G.2.1 + 2), .ref (G.2.1 + 23), .int 0], ob 1 [.ref (G.2.1 + 29), .int 0, .int 0, .ref (G.2.1 + 30), .ref (G.2.1 + 31)], ai G 0 (fun _ => 0), ai G 500 (fun _ => 0), ai G 501 (fun _ => 0), ob 10 [.ref (G.2.1 + 33), .ref (G.2.1 + 34), .ref (G.2.1 + 35), .int 0, .int 0, .int 0, .int 0, .int 0, .ref (G.2.1 + 36), .ref (G.2.1 + 37), .ref (G.2.1 + 38), .ref (G.2.1 + 39), .int 0, .ref (G.2.1 + 40), .int 0, .ref (G.2.1 + 41)], ai G 26100 (sx 256), ai G 26100 (fun _ => 0), ai G 26100 (fun _ => 0), ai G 14 (fun _ => 0), ai G 500 (fun _ => 0), ai G 500 (fun _ => 0), az G 500 (fun _ => 0), ai G 501 (fun _ => 0), ai G 500 (fun _ => 0)])) := by
  refine Ct.of (by decide) (Nat.le_of_ble_eq_true rfl) ⟨Nat.le_refl _, Nat.le_refl _⟩ ?_
  show Go l G mX2_intsFor _ 0 [(0, .int 4), (1, .int 0)] [] 42 90324 (wl G.2.1 [ob 9 [.ref (G.2.1 + 1), .ref (G.2.1 + 23), .ref (G.2.1 + 27), .ref (G.2.1 + 28), .ref (G.2.1 + 22), .int 0, .int 0, .null, .int 0, .null, .int 0], ob 6 [.ref (G.2.1 + 2), .ref (G.2.1 + 6), .ref (G.2.1 + 12), .ref (G.2.1 + 14), .ref (G.2.1 + 17), .ref (G.2.1 + 20), .ref (G.2.1 + 21)], ob 2 [.int 256, .int 0, .int 0, .int 0, .ref (G.2.1 + 3), .ref (G.2.1 + 4), .ref (G.2.1 + 5)], ai G 256 (fun j => if 1 ≤ j ∧ j < 3 then (-1) else (upd (fun _ => 0) (0 : Int32).toNatClampNeg 4) j), ai G 500 (upd (fun _ => (-1)) (0 : Int32).toNatClampNeg 0), ai G 500 (upd (fun _ => 0) (0 : Int32).toNatClampNeg 0), ob 3 [.int 0, .int 0, .int 0, .int 0, .ref (G.2.1 + 7), .ref (G.2.1 + 8), .ref (G.2.1 + 9), .ref (G.2.1 + 10), .ref (G.2.1 + 11)], ai G 500 (fun _ => 0), ai G 500 (fun _ => 0), ai G 500 (fun _ => 0), ai G 500 (fun _ => 0), ai G 500 (fun _ => 0), ob 8 [.int 0, .int 0, .int 0, .int 0, .int 0, .int 0, .ref (G.2.1 + 13)], ai G 300 (fun _ => 0), ob 4 [.int 0, .ref (G.2.1 + 15), .ref (G.2.1 + 16)], ai G 1295 (fun _ => 0), ai G 1295 (fun _ => 0), ob 5 [.int 0, .int 0, .int 0, .int 0, .ref (G.2.1 + 18), .ref (G.2.1 + 19)], ai G 200 (fun _ => 0), ai G 8 (fun _ => (-1)), ai G 24 (fun _ => (-1)), ai G 32 (fun _ => (-1)), ai G 14 (fun _ => 0), ob 7 [.ref (G.2.1 + 1), .ref (G.2.1 + 2), .ref (G.2.1 + 6), .ref (G.2.1 + 22), .ref (G.2.1 + 24), .int 0, .ref (G.2.1 + 25), .ref (G.2.1 + 26), .int 0], ai G 500 (fun _ => 0), ai G 500 (fun _ => 0), ai G 500 (fun _ => 0), ob 0 [.ref (G.2.1 + 1), .ref (G.2.1 + 2), .ref (G.2.1 + 23), .int 0], ob 1 [.ref (G.2.1 + 29), .int 0, .int 0, .ref (G.2.1 + 30), .ref (G.2.1 + 31)], ai G 0 (fun _ => 0), ai G 500 (fun _ => 0), ai G 501 (fun _ => 0), ob 10 [.ref (G.2.1 + 33), .ref (G.2.1 + 34), .ref (G.2.1 + 35), .int 0, .int 0, .int 0, .int 0, .int 0, .ref (G.2.1 + 36), .ref (G.2.1 + 37), .ref (G.2.1 + 38), .ref (G.2.1 + 39), .int 0, .ref (G.2.1 + 40), .int 0, .ref (G.2.1 + 41)], ai G 26100 (sx 256), ai G 26100 (fun _ => 0), ai G 26100 (fun _ => 0), ai G 14 (fun _ => 0), ai G 500 (fun _ => 0), ai G 500 (fun _ => 0), az G 500 (fun _ => 0), ai G 501 (fun _ => 0), ai G 500 (fun _ => 0)])
  refine go_iload_n (pc := 0) dX2_intsFor_0 rfl rfl ?_
  refine go_tableIn (pc := 1) (off := 53) (tgt := 54) dX2_intsFor_1 (by decide) (by decide) (by decide) (by decide) ?_
  refine go_iconst (pc := 54) (v := 4) dX2_intsFor_54 (by decide) ?_
  exact go_iret (pc := 55) rfl dX2_intsFor_55
set_option maxRecDepth 100000 in
set_option maxHeartbeats 4000000 in
theorem cX2_addCell_3 {l : Launch} {G : gG} : Ct l G mX2_addCell 2 46 [.ref (G.2.1 + 2), .int 4, .int 0] 42 90324 (wl G.2.1 (LF G)) (some (.int 0), 42, 90324, (wl G.2.1 [ob 9 [.ref (G.2.1 + 1), .ref (G.2.1 + 23), .ref (G.2.1 + 27), .ref (G.2.1 + 28), .ref (G.2.1 + 22), .int 0, .int 0, .null, .int 0, .null, .int 0], ob 6 [.ref (G.2.1 + 2), .ref (G.2.1 + 6), .ref (G.2.1 + 12), .ref (G.2.1 + 14), .ref (G.2.1 + 17), .ref (G.2.1 + 20), .ref (G.2.1 + 21)], ob 2 [.int 256, .int 4, .int 1, .int 1, .ref (G.2.1 + 3), .ref (G.2.1 + 4), .ref (G.2.1 + 5)], ai G 256 (fun j => if 1 ≤ j ∧ j < 3 then (-1) else (upd (fun _ => 0) (0 : Int32).toNatClampNeg 4) j), ai G 500 (upd (fun _ => (-1)) (0 : Int32).toNatClampNeg 0), ai G 500 (upd (fun _ => 0) (0 : Int32).toNatClampNeg 0), ob 3 [.int 0, .int 0, .int 0, .int 0, .ref (G.2.1 + 7), .ref (G.2.1 + 8), .ref (G.2.1 + 9), .ref (G.2.1 + 10), .ref (G.2.1 + 11)], ai G 500 (fun _ => 0), ai G 500 (fun _ => 0), ai G 500 (fun _ => 0), ai G 500 (fun _ => 0), ai G 500 (fun _ => 0), ob 8 [.int 0, .int 0, .int 0, .int 0, .int 0, .int 0, .ref (G.2.1 + 13)], ai G 300 (fun _ => 0), ob 4 [.int 0, .ref (G.2.1 + 15), .ref (G.2.1 + 16)], ai G 1295 (fun _ => 0), ai G 1295 (fun _ => 0), ob 5 [.int 0, .int 0, .int 0, .int 0, .ref (G.2.1 + 18), .ref (G.2.1 + 19)], ai G 200 (fun _ => 0), ai G 8 (fun _ => (-1)), ai G 24 (fun _ => (-1)), ai G 32 (fun _ => (-1)), ai G 14 (fun _ => 0), ob 7 [.ref (G.2.1 + 1), .ref (G.2.1 + 2), .ref (G.2.1 + 6), .ref (G.2.1 + 22), .ref (G.2.1 + 24), .int 0, .ref (G.2.1 + 25), .ref (G.2.1 + 26), .int 0], ai G 500 (fun _ => 0), ai G 500 (fun _ => 0), ai G 500 (fun _ => 0), ob 0 [.ref (G.2.1 + 1), .ref (G.2.1 + 2), .ref (G.2.1 + 23), .int 0], ob 1 [.ref (G.2.1 + 29), .int 0, .int 0, .ref (G.2.1 + 30), .ref (G.2.1 + 31)], ai G 0 (fun _ => 0), ai G 500 (fun _ => 0), ai G 501 (fun _ => 0), ob 10 [.ref (G.2.1 + 33), .ref (G.2.1 + 34), .ref (G.2.1 + 35), .int 0, .int 0, .int 0, .int 0, .int 0, .ref (G.2.1 + 36), .ref (G.2.1 + 37), .ref (G.2.1 + 38), .ref (G.2.1 + 39), .int 0, .ref (G.2.1 + 40), .int 0, .ref (G.2.1 + 41)], ai G 26100 (sx 256), ai G 26100 (fun _ => 0), ai G 26100 (fun _ => 0), ai G 14 (fun _ => 0), ai G 500 (fun _ => 0), ai G 500 (fun _ => 0), az G 500 (fun _ => 0), ai G 501 (fun _ => 0), ai G 500 (fun _ => 0)])) := by
  refine Ct.of (by decide) (Nat.le_of_ble_eq_true rfl) ⟨Nat.le_refl _, Nat.le_refl _⟩ ?_
  show Go l G mX2_addCell _ 0 [(0, .ref (G.2.1 + 2)), (1, .int 4), (2, .int 0)] [] 42 90324 (wl G.2.1 (LF G))
  refine go_aload_n (pc := 0) dX2_addCell_0 rfl rfl ?_
  refine go_get (pc := 1) fX2_32 rfl (gz_b (by decide)) (wl_at (i := 2) rfl) rfl dX2_addCell_1 ?_
  refine go_istore_n (pc := 4) (lv' := [(3, .int 0), (0, .ref (G.2.1 + 2)), (1, .int 4), (2, .int 0)]) dX2_addCell_4 rfl (by decide) rfl ?_
  refine go_aload_n (pc := 5) dX2_addCell_5 rfl rfl ?_
  refine go_get (pc := 6) fX2_9 rfl (gz_b (by decide)) (wl_at (i := 2) rfl) rfl dX2_addCell_6 ?_
  refine go_aload_n (pc := 9) dX2_addCell_9 rfl rfl ?_
  refine go_get (pc := 10) fX2_29 rfl (gz_b (by decide)) (wl_at (i := 2) rfl) rfl dX2_addCell_10 ?_
  refine go_iload_n (pc := 13) dX2_addCell_13 rfl rfl ?_
  refine go_bipush (pc := 14) (v := 8) dX2_addCell_14 (by decide) ?_
  refine go_imul (pc := 16) dX2_addCell_16 ?_
  refine go_top (y := 0) (by decide) ?_
  refine go_iload_n (pc := 17) dX2_addCell_17 rfl rfl ?_
  refine go_iadd (pc := 18) dX2_addCell_18 ?_
  refine go_top (y := 4) (by decide) ?_
  refine go_iast (pc := 19) (gz_b (by decide)) (wl_at (i := 3) rfl) (gv_in (by decide)) dX2_addCell_19 ?_
  refine go_ext (wl_up (i := 3) rfl rfl) ?_
  refine go_iload_n (pc := 20) dX2_addCell_20 rfl rfl ?_
  refine go_callS_i (pc := 21) sX2_60 rfl (cX2_isCounted_7) rfl rfl (Nat.le_of_ble_eq_true rfl) ⟨Nat.le_of_ble_eq_true rfl, Nat.le_of_ble_eq_true rfl, (Nat.le_add_right _ _), (Nat.le_add_right _ _)⟩ dX2_addCell_21 ?_
  refine go_if_ne_f (pc := 24) (tgt := 50) dX2_addCell_24 (by decide) (by decide) ?_
  refine go_aload_n (pc := 27) dX2_addCell_27 rfl rfl ?_
  refine go_get (pc := 28) fX2_9 rfl (gz_b (by decide)) (wl_at (i := 2) rfl) rfl dX2_addCell_28 ?_
  refine go_aload_n (pc := 31) dX2_addCell_31 rfl rfl ?_
  refine go_get (pc := 32) fX2_29 rfl (gz_b (by decide)) (wl_at (i := 2) rfl) rfl dX2_addCell_32 ?_
  refine go_iconst (pc := 35) (v := 1) dX2_addCell_35 (by decide) ?_
  refine go_iadd (pc := 36) dX2_addCell_36 ?_
  refine go_top (y := 1) (by decide) ?_
  refine go_aload_n (pc := 37) dX2_addCell_37 rfl rfl ?_
  refine go_get (pc := 38) fX2_29 rfl (gz_b (by decide)) (wl_at (i := 2) rfl) rfl dX2_addCell_38 ?_
  refine go_iconst (pc := 41) (v := 3) dX2_addCell_41 (by decide) ?_
  refine go_iadd (pc := 42) dX2_addCell_42 ?_
  refine go_top (y := 3) (by decide) ?_
  refine go_iconst (pc := 43) (v := (-1)) dX2_addCell_43 (by decide) ?_
  refine go_callS_v (pc := 44) sX2_44 rfl (ct_fillr (a := G.2.1 + 3) (N := 256) (f := (upd (fun _ => 0) (0 : Int32).toNatClampNeg 4)) ((-1)) (fr := 1) (to := 3) (by decide) (by decide) (by decide) (gz_b (by decide)) (wl_at (i := 3) rfl)) rfl rfl (Nat.le_of_ble_eq_true rfl) ⟨Nat.le_of_ble_eq_true rfl, Nat.le_of_ble_eq_true rfl, (Nat.le_add_right _ _), (Nat.le_add_right _ _)⟩ dX2_addCell_44 ?_
  refine go_ext (wl_up (i := 3) rfl rfl) ?_
  refine go_goto (pc := 47) (tgt := 89) dX2_addCell_47 (by decide) ?_
  refine go_aload_n (pc := 89) dX2_addCell_89 rfl rfl ?_
  refine go_get (pc := 90) fX2_15 rfl (gz_b (by decide)) (wl_at (i := 2) rfl) rfl dX2_addCell_90 ?_
  refine go_iload_n (pc := 93) dX2_addCell_93 rfl rfl ?_
  refine go_aload_n (pc := 94) dX2_addCell_94 rfl rfl ?_
  refine go_get (pc := 95) fX2_29 rfl (gz_b (by decide)) (wl_at (i := 2) rfl) rfl dX2_addCell_95 ?_
  refine go_iast (pc := 98) (gz_b (by decide)) (wl_at (i := 4) rfl) (gv_in (by decide)) dX2_addCell_98 ?_
  refine go_ext (wl_up (i := 4) rfl rfl) ?_
  refine go_aload_n (pc := 99) dX2_addCell_99 rfl rfl ?_
  refine go_get (pc := 100) fX2_18 rfl (gz_b (by decide)) (wl_at (i := 2) rfl) rfl dX2_addCell_100 ?_
  refine go_iload_n (pc := 103) dX2_addCell_103 rfl rfl ?_
  refine go_iconst (pc := 104) (v := 0) dX2_addCell_104 (by decide) ?_
  refine go_iast (pc := 105) (gz_b (by decide)) (wl_at (i := 5) rfl) (gv_in (by decide)) dX2_addCell_105 ?_
  refine go_ext (wl_up (i := 5) rfl rfl) ?_
  refine go_aload_n (pc := 106) dX2_addCell_106 rfl rfl ?_
  refine go_dup (pc := 107) dX2_addCell_107 rfl ?_
  refine go_get (pc := 108) fX2_29 rfl (gz_b (by decide)) (wl_at (i := 2) rfl) rfl dX2_addCell_108 ?_
  refine go_iload_n (pc := 111) dX2_addCell_111 rfl rfl ?_
  refine go_iload_n (pc := 112) dX2_addCell_112 rfl rfl ?_
  refine go_callS_i (pc := 113) sX2_67 rfl (cX2_intsFor_6) rfl rfl (Nat.le_of_ble_eq_true rfl) ⟨Nat.le_of_ble_eq_true rfl, Nat.le_of_ble_eq_true rfl, (Nat.le_add_right _ _), (Nat.le_add_right _ _)⟩ dX2_addCell_113 ?_
  refine go_iadd (pc := 116) dX2_addCell_116 ?_
  refine go_top (y := 4) (by decide) ?_
  refine go_put (pc := 117) fX2_29 rfl (gz_b (by decide)) (wl_at (i := 2) rfl) (Nat.le_of_ble_eq_true rfl) rfl rfl dX2_addCell_117 ?_
  refine go_ext (wl_up (i := 2) rfl rfl) ?_
  refine go_aload_n (pc := 120) dX2_addCell_120 rfl rfl ?_
  refine go_dup (pc := 121) dX2_addCell_121 rfl ?_
  refine go_get (pc := 122) fX2_32 rfl (gz_b (by decide)) (wl_at (i := 2) rfl) rfl dX2_addCell_122 ?_
  refine go_iconst (pc := 125) (v := 1) dX2_addCell_125 (by decide) ?_
  refine go_iadd (pc := 126) dX2_addCell_126 ?_
  refine go_top (y := 1) (by decide) ?_
  refine go_put (pc := 127) fX2_32 rfl (gz_b (by decide)) (wl_at (i := 2) rfl) (Nat.le_of_ble_eq_true rfl) rfl rfl dX2_addCell_127 ?_
  refine go_ext (wl_up (i := 2) rfl rfl) ?_
  refine go_aload_n (pc := 130) dX2_addCell_130 rfl rfl ?_
  refine go_dup (pc := 131) dX2_addCell_131 rfl ?_
  refine go_get (pc := 132) fX2_35 rfl (gz_b (by decide)) (wl_at (i := 2) rfl) rfl dX2_addCell_132 ?_
  refine go_iconst (pc := 135) (v := 1) dX2_addCell_135 (by decide) ?_
  refine go_iadd (pc := 136) dX2_addCell_136 ?_
  refine go_top (y := 1) (by decide) ?_
  refine go_put (pc := 137) fX2_35 rfl (gz_b (by decide)) (wl_at (i := 2) rfl) (Nat.le_of_ble_eq_true rfl) rfl rfl dX2_addCell_137 ?_
  refine go_ext (wl_up (i := 2) rfl rfl) ?_
  refine go_iload_n (pc := 140) dX2_addCell_140 rfl rfl ?_
  refine go_w (show _ = wl G.2.1 [ob 9 [.ref (G.2.1 + 1), .ref (G.2.1 + 23), .ref (G.2.1 + 27), .ref (G.2.1 + 28), .ref (G.2.1 + 22), .int 0, .int 0, .null, .int 0, .null, .int 0], ob 6 [.ref (G.2.1 + 2), .ref (G.2.1 + 6), .ref (G.2.1 + 12), .ref (G.2.1 + 14), .ref (G.2.1 + 17), .ref (G.2.1 + 20), .ref (G.2.1 + 21)], ob 2 [.int 256, .int 4, .int 1, .int 1, .ref (G.2.1 + 3), .ref (G.2.1 + 4), .ref (G.2.1 + 5)], ai G 256 (fun j => if 1 ≤ j ∧ j < 3 then (-1) else (upd (fun _ => 0) (0 : Int32).toNatClampNeg 4) j), ai G 500 (upd (fun _ => (-1)) (0 : Int32).toNatClampNeg 0), ai G 500 (upd (fun _ => 0) (0 : Int32).toNatClampNeg 0), ob 3 [.int 0, .int 0, .int 0, .int 0, .ref (G.2.1 + 7), .ref (G.2.1 + 8), .ref (G.2.1 + 9), .ref (G.2.1 + 10), .ref (G.2.1 + 11)], ai G 500 (fun _ => 0), ai G 500 (fun _ => 0), ai G 500 (fun _ => 0), ai G 500 (fun _ => 0), ai G 500 (fun _ => 0), ob 8 [.int 0, .int 0, .int 0, .int 0, .int 0, .int 0, .ref (G.2.1 + 13)], ai G 300 (fun _ => 0), ob 4 [.int 0, .ref (G.2.1 + 15), .ref (G.2.1 + 16)], ai G 1295 (fun _ => 0), ai G 1295 (fun _ => 0), ob 5 [.int 0, .int 0, .int 0, .int 0, .ref (G.2.1 + 18), .ref (G.2.1 + 19)], ai G 200 (fun _ => 0), ai G 8 (fun _ => (-1)), ai G 24 (fun _ => (-1)), ai G 32 (fun _ => (-1)), ai G 14 (fun _ => 0), ob 7 [.ref (G.2.1 + 1), .ref (G.2.1 + 2), .ref (G.2.1 + 6), .ref (G.2.1 + 22), .ref (G.2.1 + 24), .int 0, .ref (G.2.1 + 25), .ref (G.2.1 + 26), .int 0], ai G 500 (fun _ => 0), ai G 500 (fun _ => 0), ai G 500 (fun _ => 0), ob 0 [.ref (G.2.1 + 1), .ref (G.2.1 + 2), .ref (G.2.1 + 23), .int 0], ob 1 [.ref (G.2.1 + 29), .int 0, .int 0, .ref (G.2.1 + 30), .ref (G.2.1 + 31)], ai G 0 (fun _ => 0), ai G 500 (fun _ => 0), ai G 501 (fun _ => 0), ob 10 [.ref (G.2.1 + 33), .ref (G.2.1 + 34), .ref (G.2.1 + 35), .int 0, .int 0, .int 0, .int 0, .int 0, .ref (G.2.1 + 36), .ref (G.2.1 + 37), .ref (G.2.1 + 38), .ref (G.2.1 + 39), .int 0, .ref (G.2.1 + 40), .int 0, .ref (G.2.1 + 41)], ai G 26100 (sx 256), ai G 26100 (fun _ => 0), ai G 26100 (fun _ => 0), ai G 14 (fun _ => 0), ai G 500 (fun _ => 0), ai G 500 (fun _ => 0), az G 500 (fun _ => 0), ai G 501 (fun _ => 0), ai G 500 (fun _ => 0)] from rfl) ?_
  exact go_iret (pc := 141) rfl dX2_addCell_141
set_option maxRecDepth 100000 in
set_option maxHeartbeats 4000000 in
theorem cX0_makeCell_3 {l : Launch} {G : gG} (x2 : Int32) : Ct l G mX0_makeCell 3 69 [.ref (G.2.1 + 27), .int 4, .int x2] 42 90324 (wl G.2.1 (LF G)) (some (.int 0), 42, 90324, (wl G.2.1 [ob 9 [.ref (G.2.1 + 1), .ref (G.2.1 + 23), .ref (G.2.1 + 27), .ref (G.2.1 + 28), .ref (G.2.1 + 22), .int 0, .int 0, .null, .int 0, .null, .int 0], ob 6 [.ref (G.2.1 + 2), .ref (G.2.1 + 6), .ref (G.2.1 + 12), .ref (G.2.1 + 14), .ref (G.2.1 + 17), .ref (G.2.1 + 20), .ref (G.2.1 + 21)], ob 2 [.int 256, .int 4, .int 1, .int 1, .ref (G.2.1 + 3), .ref (G.2.1 + 4), .ref (G.2.1 + 5)], ai G 256 (fun j => if 1 ≤ j ∧ j < 3 then (-1) else (upd (fun _ => 0) (0 : Int32).toNatClampNeg 4) j), ai G 500 (upd (fun _ => (-1)) (0 : Int32).toNatClampNeg 0), ai G 500 (upd (fun _ => 0) (0 : Int32).toNatClampNeg 0), ob 3 [.int 0, .int 0, .int 0, .int 0, .ref (G.2.1 + 7), .ref (G.2.1 + 8), .ref (G.2.1 + 9), .ref (G.2.1 + 10), .ref (G.2.1 + 11)], ai G 500 (fun _ => 0), ai G 500 (fun _ => 0), ai G 500 (fun _ => 0), ai G 500 (fun _ => 0), ai G 500 (fun _ => 0), ob 8 [.int 0, .int 0, .int 0, .int 0, .int 0, .int 0, .ref (G.2.1 + 13)], ai G 300 (fun _ => 0), ob 4 [.int 0, .ref (G.2.1 + 15), .ref (G.2.1 + 16)], ai G 1295 (fun _ => 0), ai G 1295 (fun _ => 0), ob 5 [.int 0, .int 0, .int 0, .int 0, .ref (G.2.1 + 18), .ref (G.2.1 + 19)], ai G 200 (fun _ => 0), ai G 8 (fun _ => (-1)), ai G 24 (fun _ => (-1)), ai G 32 (fun _ => (-1)), ai G 14 (fun _ => 0), ob 7 [.ref (G.2.1 + 1), .ref (G.2.1 + 2), .ref (G.2.1 + 6), .ref (G.2.1 + 22), .ref (G.2.1 + 24), .int 0, .ref (G.2.1 + 25), .ref (G.2.1 + 26), .int 0], ai G 500 (fun _ => 0), ai G 500 (fun _ => 0), ai G 500 (fun _ => 0), ob 0 [.ref (G.2.1 + 1), .ref (G.2.1 + 2), .ref (G.2.1 + 23), .int 0], ob 1 [.ref (G.2.1 + 29), .int 0, .int 0, .ref (G.2.1 + 30), .ref (G.2.1 + 31)], ai G 0 (fun _ => 0), ai G 500 (fun _ => 0), ai G 501 (fun _ => 0), ob 10 [.ref (G.2.1 + 33), .ref (G.2.1 + 34), .ref (G.2.1 + 35), .int 0, .int 0, .int 0, .int 0, .int 0, .ref (G.2.1 + 36), .ref (G.2.1 + 37), .ref (G.2.1 + 38), .ref (G.2.1 + 39), .int 0, .ref (G.2.1 + 40), .int 0, .ref (G.2.1 + 41)], ai G 26100 (sx 256), ai G 26100 (fun _ => 0), ai G 26100 (fun _ => 0), ai G 14 (fun _ => 0), ai G 500 (fun _ => 0), ai G 500 (fun _ => 0), az G 500 (fun _ => 0), ai G 501 (fun _ => 0), ai G 500 (fun _ => 0)])) := by
  refine Ct.of (by decide) (Nat.le_of_ble_eq_true rfl) ⟨Nat.le_refl _, Nat.le_refl _⟩ ?_
  show Go l G mX0_makeCell _ 0 [(0, .ref (G.2.1 + 27)), (1, .int 4), (2, .int x2)] [] 42 90324 (wl G.2.1 (LF G))
  refine go_iload_n (pc := 0) dX0_makeCell_0 rfl rfl ?_
  refine go_callS_i (pc := 1) sX0_26 rfl (cX2_isCounted_6) rfl rfl (Nat.le_of_ble_eq_true rfl) ⟨Nat.le_of_ble_eq_true rfl, Nat.le_of_ble_eq_true rfl, (Nat.le_add_right _ _), (Nat.le_add_right _ _)⟩ dX0_makeCell_1 ?_
  refine go_if_eq_t (pc := 4) (tgt := 11) dX0_makeCell_4 (by decide) (by decide) ?_
  refine go_iconst (pc := 11) (v := 0) dX0_makeCell_11 (by decide) ?_
  refine go_istore_n (pc := 12) (lv' := [(3, .int 0), (0, .ref (G.2.1 + 27)), (1, .int 4), (2, .int x2)]) dX0_makeCell_12 rfl (by decide) rfl ?_
  refine go_iload_n (pc := 13) dX0_makeCell_13 rfl rfl ?_
  refine go_if_ge_t (pc := 14) (tgt := 20) dX0_makeCell_14 (by decide) (by decide) ?_
  refine go_iload_n (pc := 20) dX0_makeCell_20 rfl rfl ?_
  refine go_iload_n (pc := 21) dX0_makeCell_21 rfl rfl ?_
  refine go_callS_i (pc := 22) sX0_32 rfl (cX2_intsFor_5) rfl rfl (Nat.le_of_ble_eq_true rfl) ⟨Nat.le_of_ble_eq_true rfl, Nat.le_of_ble_eq_true rfl, (Nat.le_add_right _ _), (Nat.le_add_right _ _)⟩ dX0_makeCell_22 ?_
  refine go_istore (pc := 25) (lv' := [(4, .int 4), (3, .int 0), (0, .ref (G.2.1 + 27)), (1, .int 4), (2, .int x2)]) dX0_makeCell_25 (by decide) rfl ?_
  refine go_aload_n (pc := 27) dX0_makeCell_27 rfl rfl ?_
  refine go_get (pc := 28) fX0_21 rfl (gz_b (by decide)) (wl_at (i := 27) rfl) rfl dX0_makeCell_28 ?_
  refine go_get (pc := 31) fX0_36 rfl (gz_b (by decide)) (wl_at (i := 2) rfl) rfl dX0_makeCell_31 ?_
  refine go_sipush (pc := 34) (v := 500) dX0_makeCell_34 (by decide) ?_
  refine go_icmp_ge_f (pc := 37) (tgt := 72) dX0_makeCell_37 (by decide) (by decide) ?_
  refine go_iload (pc := 40) dX0_makeCell_40 rfl ?_
  refine go_aload_n (pc := 42) dX0_makeCell_42 rfl rfl ?_
  refine go_get (pc := 43) fX0_21 rfl (gz_b (by decide)) (wl_at (i := 27) rfl) rfl dX0_makeCell_43 ?_
  refine go_callV_i (pc := 46) vX0_40 rfl (cX2_free_1) rfl rfl (gz_b (by decide)) (wl_at (i := 2) rfl) rfl (Nat.le_of_ble_eq_true rfl) ⟨Nat.le_of_ble_eq_true rfl, Nat.le_of_ble_eq_true rfl, (Nat.le_add_right _ _), (Nat.le_add_right _ _)⟩ dX0_makeCell_46 ?_
  refine go_icmp_le_t (pc := 49) (tgt := 75) dX0_makeCell_49 (by decide) (by decide) ?_
  refine go_iconst (pc := 75) (v := 0) dX0_makeCell_75 (by decide) ?_
  refine go_istore (pc := 76) (lv' := [(5, .int 0), (4, .int 4), (3, .int 0), (0, .ref (G.2.1 + 27)), (1, .int 4), (2, .int x2)]) dX0_makeCell_76 (by decide) rfl ?_
  refine go_iload (pc := 78) dX0_makeCell_78 rfl ?_
  refine go_iconst (pc := 80) (v := 2) dX0_makeCell_80 (by decide) ?_
  refine go_icmp_ge_f (pc := 81) (tgt := 109) dX0_makeCell_81 (by decide) (by decide) ?_
  refine go_iload (pc := 84) dX0_makeCell_84 rfl ?_
  refine go_aload_n (pc := 86) dX0_makeCell_86 rfl rfl ?_
  refine go_get (pc := 87) fX0_21 rfl (gz_b (by decide)) (wl_at (i := 27) rfl) rfl dX0_makeCell_87 ?_
  refine go_callV_i (pc := 90) vX0_40 rfl (cX2_free_1) rfl rfl (gz_b (by decide)) (wl_at (i := 2) rfl) rfl (Nat.le_of_ble_eq_true rfl) ⟨Nat.le_of_ble_eq_true rfl, Nat.le_of_ble_eq_true rfl, (Nat.le_add_right _ _), (Nat.le_add_right _ _)⟩ dX0_makeCell_90 ?_
  refine go_icmp_le_t (pc := 93) (tgt := 109) dX0_makeCell_93 (by decide) (by decide) ?_
  refine go_iload (pc := 109) dX0_makeCell_109 rfl ?_
  refine go_aload_n (pc := 111) dX0_makeCell_111 rfl rfl ?_
  refine go_get (pc := 112) fX0_21 rfl (gz_b (by decide)) (wl_at (i := 27) rfl) rfl dX0_makeCell_112 ?_
  refine go_callV_i (pc := 115) vX0_40 rfl (cX2_free_1) rfl rfl (gz_b (by decide)) (wl_at (i := 2) rfl) rfl (Nat.le_of_ble_eq_true rfl) ⟨Nat.le_of_ble_eq_true rfl, Nat.le_of_ble_eq_true rfl, (Nat.le_add_right _ _), (Nat.le_add_right _ _)⟩ dX0_makeCell_115 ?_
  refine go_icmp_le_t (pc := 118) (tgt := 124) dX0_makeCell_118 (by decide) (by decide) ?_
  refine go_aload_n (pc := 124) dX0_makeCell_124 rfl rfl ?_
  refine go_get (pc := 125) fX0_21 rfl (gz_b (by decide)) (wl_at (i := 27) rfl) rfl dX0_makeCell_125 ?_
  refine go_iload_n (pc := 128) dX0_makeCell_128 rfl rfl ?_
  refine go_iload_n (pc := 129) dX0_makeCell_129 rfl rfl ?_
  refine go_callV_i (pc := 130) vX0_55 rfl (cX2_addCell_3) rfl rfl (gz_b (by decide)) (wl_at (i := 2) rfl) rfl (Nat.le_of_ble_eq_true rfl) ⟨Nat.le_of_ble_eq_true rfl, Nat.le_of_ble_eq_true rfl, (Nat.le_add_right _ _), (Nat.le_add_right _ _)⟩ dX0_makeCell_130 ?_
  refine go_istore (pc := 133) (lv' := [(5, .int 0), (4, .int 4), (3, .int 0), (0, .ref (G.2.1 + 27)), (1, .int 4), (2, .int x2)]) dX0_makeCell_133 (by decide) rfl ?_
  refine go_aload_n (pc := 135) dX0_makeCell_135 rfl rfl ?_
  refine go_get (pc := 136) fX0_22 rfl (gz_b (by decide)) (wl_at (i := 27) rfl) rfl dX0_makeCell_136 ?_
  refine go_iload (pc := 139) dX0_makeCell_139 rfl ?_
  refine go_iconst (pc := 141) (v := 5) dX0_makeCell_141 (by decide) ?_
  refine go_iconst (pc := 142) (v := (-1)) dX0_makeCell_142 (by decide) ?_
  refine go_iconst (pc := 143) (v := (-1)) dX0_makeCell_143 (by decide) ?_
  refine go_callV_v (pc := 144) vX0_58 rfl (ct_mark_0 (a := G.2.1 + 23) (a0 := G.2.1 + 1) (a1 := G.2.1 + 2) (a2 := G.2.1 + 6) (a3 := G.2.1 + 22) (a4 := G.2.1 + 24) (a6 := G.2.1 + 25) (a7 := G.2.1 + 26) (g5 := 0) (g8 := 0) (u1 := 0) (u2 := 0) (u3 := 0) (p4 := G.2.1 + 7) (p5 := G.2.1 + 8) (p6 := G.2.1 + 9) (p7 := G.2.1 + 10) (p8 := G.2.1 + 11) (gz_b (by decide)) (gz_b (by decide)) (wl_at (i := 23) rfl) (wl_at (i := 6) rfl)) rfl rfl (gz_b (by decide)) (wl_at (i := 23) rfl) rfl (Nat.le_of_ble_eq_true rfl) ⟨Nat.le_of_ble_eq_true rfl, Nat.le_of_ble_eq_true rfl, (Nat.le_add_right _ _), (Nat.le_add_right _ _)⟩ dX0_makeCell_144 ?_
  refine go_iload (pc := 147) dX0_makeCell_147 rfl ?_
  exact go_iret (pc := 149) rfl dX0_makeCell_149
set_option maxRecDepth 100000 in
set_option maxHeartbeats 4000000 in
theorem cX9_findingIn_7 {l : Launch} {G : gG} : Ct l G mX9_findingIn 0 0 [.int 0] 42 90324 (wl G.2.1 [ob 9 [.ref (G.2.1 + 1), .ref (G.2.1 + 23), .ref (G.2.1 + 27), .ref (G.2.1 + 28), .ref (G.2.1 + 22), .int 0, .int 0, .null, .int 0, .null, .int 0], ob 6 [.ref (G.2.1 + 2), .ref (G.2.1 + 6), .ref (G.2.1 + 12), .ref (G.2.1 + 14), .ref (G.2.1 + 17), .ref (G.2.1 + 20), .ref (G.2.1 + 21)], ob 2 [.int 256, .int 4, .int 1, .int 1, .ref (G.2.1 + 3), .ref (G.2.1 + 4), .ref (G.2.1 + 5)], ai G 256 (fun j => if 1 ≤ j ∧ j < 3 then (-1) else (upd (fun _ => 0) (0 : Int32).toNatClampNeg 4) j), ai G 500 (upd (fun _ => (-1)) (0 : Int32).toNatClampNeg 0), ai G 500 (upd (fun _ => 0) (0 : Int32).toNatClampNeg 0), ob 3 [.int 0, .int 0, .int 0, .int 0, .ref (G.2.1 + 7), .ref (G.2.1 + 8), .ref (G.2.1 + 9), .ref (G.2.1 + 10), .ref (G.2.1 + 11)], ai G 500 (fun _ => 0), ai G 500 (fun _ => 0), ai G 500 (fun _ => 0), ai G 500 (fun _ => 0), ai G 500 (fun _ => 0), ob 8 [.int 0, .int 0, .int 0, .int 0, .int 0, .int 0, .ref (G.2.1 + 13)], ai G 300 (fun _ => 0), ob 4 [.int 0, .ref (G.2.1 + 15), .ref (G.2.1 + 16)], ai G 1295 (fun _ => 0), ai G 1295 (fun _ => 0), ob 5 [.int 0, .int 0, .int 0, .int 0, .ref (G.2.1 + 18), .ref (G.2.1 + 19)], ai G 200 (fun _ => 0), ai G 8 (fun _ => (-1)), ai G 24 (fun _ => (-1)), ai G 32 (fun _ => (-1)), ai G 14 (fun _ => 0), ob 7 [.ref (G.2.1 + 1), .ref (G.2.1 + 2), .ref (G.2.1 + 6), .ref (G.2.1 + 22), .ref (G.2.1 + 24), .int 0, .ref (G.2.1 + 25), .ref (G.2.1 + 26), .int 0], ai G 500 (fun _ => 0), ai G 500 (fun _ => 0), ai G 500 (fun _ => 0), ob 0 [.ref (G.2.1 + 1), .ref (G.2.1 + 2), .ref (G.2.1 + 23), .int 0], ob 1 [.ref (G.2.1 + 29), .int 0, .int 0, .ref (G.2.1 + 30), .ref (G.2.1 + 31)], ai G 0 (fun _ => 0), ai G 500 (fun _ => 0), ai G 501 (fun _ => 0), ob 10 [.ref (G.2.1 + 33), .ref (G.2.1 + 34), .ref (G.2.1 + 35), .int 0, .int 0, .int 0, .int 0, .int 0, .ref (G.2.1 + 36), .ref (G.2.1 + 37), .ref (G.2.1 + 38), .ref (G.2.1 + 39), .int 0, .ref (G.2.1 + 40), .int 0, .ref (G.2.1 + 41)], ai G 26100 (sx 256), ai G 26100 (fun _ => 0), ai G 26100 (fun _ => 0), ai G 14 (fun _ => 0), ai G 500 (fun _ => 0), ai G 500 (fun _ => 0), az G 500 (fun _ => 0), ai G 501 (fun _ => 0), ai G 500 (fun _ => 0)]) (some (.int 0), 42, 90324, (wl G.2.1 [ob 9 [.ref (G.2.1 + 1), .ref (G.2.1 + 23), .ref (G.2.1 + 27), .ref (G.2.1 + 28), .ref (G.2.1 + 22), .int 0, .int 0, .null, .int 0, .null, .int 0], ob 6 [.ref (G.2.1 + 2), .ref (G.2.1 + 6), .ref (G.2.1 + 12), .ref (G.2.1 + 14), .ref (G.2.1 + 17), .ref (G.2.1 + 20), .ref (G.2.1 + 21)], ob 2 [.int 256, .int 4, .int 1, .int 1, .ref (G.2.1 + 3), .ref (G.2.1 + 4), .ref (G.2.1 + 5)], ai G 256 (fun j => if 1 ≤ j ∧ j < 3 then (-1) else (upd (fun _ => 0) (0 : Int32).toNatClampNeg 4) j), ai G 500 (upd (fun _ => (-1)) (0 : Int32).toNatClampNeg 0), ai G 500 (upd (fun _ => 0) (0 : Int32).toNatClampNeg 0), ob 3 [.int 0, .int 0, .int 0, .int 0, .ref (G.2.1 + 7), .ref (G.2.1 + 8), .ref (G.2.1 + 9), .ref (G.2.1 + 10), .ref (G.2.1 + 11)], ai G 500 (fun _ => 0), ai G 500 (fun _ => 0), ai G 500 (fun _ => 0), ai G 500 (fun _ => 0), ai G 500 (fun _ => 0), ob 8 [.int 0, .int 0, .int 0, .int 0, .int 0, .int 0, .ref (G.2.1 + 13)], ai G 300 (fun _ => 0), ob 4 [.int 0, .ref (G.2.1 + 15), .ref (G.2.1 + 16)], ai G 1295 (fun _ => 0), ai G 1295 (fun _ => 0), ob 5 [.int 0, .int 0, .int 0, .int 0, .ref (G.2.1 + 18), .ref (G.2.1 + 19)], ai G 200 (fun _ => 0), ai G 8 (fun _ => (-1)), ai G 24 (fun _ => (-1)), ai G 32 (fun _ => (-1)), ai G 14 (fun _ => 0), ob 7 [.ref (G.2.1 + 1), .ref (G.2.1 + 2), .ref (G.2.1 + 6), .ref (G.2.1 + 22), .ref (G.2.1 + 24), .int 0, .ref (G.2.1 + 25), .ref (G.2.1 + 26), .int 0], ai G 500 (fun _ => 0), ai G 500 (fun _ => 0), ai G 500 (fun _ => 0), ob 0 [.ref (G.2.1 + 1), .ref (G.2.1 + 2), .ref (G.2.1 + 23), .int 0], ob 1 [.ref (G.2.1 + 29), .int 0, .int 0, .ref (G.2.1 + 30), .ref (G.2.1 + 31)], ai G 0 (fun _ => 0), ai G 500 (fun _ => 0), ai G 501 (fun _ => 0), ob 10 [.ref (G.2.1 + 33), .ref (G.2.1 + 34), .ref (G.2.1 + 35), .int 0, .int 0, .int 0, .int 0, .int 0, .ref (G.2.1 + 36), .ref (G.2.1 + 37), .ref (G.2.1 + 38), .ref (G.2.1 + 39), .int 0, .ref (G.2.1 + 40), .int 0, .ref (G.2.1 + 41)], ai G 26100 (sx 256), ai G 26100 (fun _ => 0), ai G 26100 (fun _ => 0), ai G 14 (fun _ => 0), ai G 500 (fun _ => 0), ai G 500 (fun _ => 0), az G 500 (fun _ => 0), ai G 501 (fun _ => 0), ai G 500 (fun _ => 0)])) := by
  refine Ct.of (by decide) (Nat.le_of_ble_eq_true rfl) ⟨Nat.le_refl _, Nat.le_refl _⟩ ?_
  show Go l G mX9_findingIn _ 0 [(0, .int 0)] [] 42 90324 (wl G.2.1 [ob 9 [.ref (G.2.1 + 1), .ref (G.2.1 + 23), .ref (G.2.1 + 27), .ref (G.2.1 + 28), .ref (G.2.1 + 22), .int 0, .int 0, .null, .int 0, .null, .int 0], ob 6 [.ref (G.2.1 + 2), .ref (G.2.1 + 6), .ref (G.2.1 + 12), .ref (G.2.1 + 14), .ref (G.2.1 + 17), .ref (G.2.1 + 20), .ref (G.2.1 + 21)], ob 2 [.int 256, .int 4, .int 1, .int 1, .ref (G.2.1 + 3), .ref (G.2.1 + 4), .ref (G.2.1 + 5)], ai G 256 (fun j => if 1 ≤ j ∧ j < 3 then (-1) else (upd (fun _ => 0) (0 : Int32).toNatClampNeg 4) j), ai G 500 (upd (fun _ => (-1)) (0 : Int32).toNatClampNeg 0), ai G 500 (upd (fun _ => 0) (0 : Int32).toNatClampNeg 0), ob 3 [.int 0, .int 0, .int 0, .int 0, .ref (G.2.1 + 7), .ref (G.2.1 + 8), .ref (G.2.1 + 9), .ref (G.2.1 + 10), .ref (G.2.1 + 11)], ai G 500 (fun _ => 0), ai G 500 (fun _ => 0), ai G 500 (fun _ => 0), ai G 500 (fun _ => 0), ai G 500 (fun _ => 0), ob 8 [.int 0, .int 0, .int 0, .int 0, .int 0, .int 0, .ref (G.2.1 + 13)], ai G 300 (fun _ => 0), ob 4 [.int 0, .ref (G.2.1 + 15), .ref (G.2.1 + 16)], ai G 1295 (fun _ => 0), ai G 1295 (fun _ => 0), ob 5 [.int 0, .int 0, .int 0, .int 0, .ref (G.2.1 + 18), .ref (G.2.1 + 19)], ai G 200 (fun _ => 0), ai G 8 (fun _ => (-1)), ai G 24 (fun _ => (-1)), ai G 32 (fun _ => (-1)), ai G 14 (fun _ => 0), ob 7 [.ref (G.2.1 + 1), .ref (G.2.1 + 2), .ref (G.2.1 + 6), .ref (G.2.1 + 22), .ref (G.2.1 + 24), .int 0, .ref (G.2.1 + 25), .ref (G.2.1 + 26), .int 0], ai G 500 (fun _ => 0), ai G 500 (fun _ => 0), ai G 500 (fun _ => 0), ob 0 [.ref (G.2.1 + 1), .ref (G.2.1 + 2), .ref (G.2.1 + 23), .int 0], ob 1 [.ref (G.2.1 + 29), .int 0, .int 0, .ref (G.2.1 + 30), .ref (G.2.1 + 31)], ai G 0 (fun _ => 0), ai G 500 (fun _ => 0), ai G 501 (fun _ => 0), ob 10 [.ref (G.2.1 + 33), .ref (G.2.1 + 34), .ref (G.2.1 + 35), .int 0, .int 0, .int 0, .int 0, .int 0, .ref (G.2.1 + 36), .ref (G.2.1 + 37), .ref (G.2.1 + 38), .ref (G.2.1 + 39), .int 0, .ref (G.2.1 + 40), .int 0, .ref (G.2.1 + 41)], ai G 26100 (sx 256), ai G 26100 (fun _ => 0), ai G 26100 (fun _ => 0), ai G 14 (fun _ => 0), ai G 500 (fun _ => 0), ai G 500 (fun _ => 0), az G 500 (fun _ => 0), ai G 501 (fun _ => 0), ai G 500 (fun _ => 0)])
  refine go_iload_n (pc := 0) dX9_findingIn_0 rfl rfl ?_
  refine go_bipush (pc := 1) (v := (-11)) dX9_findingIn_1 (by decide) ?_
  refine go_icmp_gt_t (pc := 3) (tgt := 19) dX9_findingIn_3 (by decide) (by decide) ?_
  refine go_iconst (pc := 19) (v := 0) dX9_findingIn_19 (by decide) ?_
  exact go_iret (pc := 20) rfl dX9_findingIn_20
set_option maxRecDepth 100000 in
set_option maxHeartbeats 4000000 in
theorem cX9_answer_7 {l : Launch} {G : gG} : Ct l G mX9_answer 1 20 [.ref (G.2.1 + 0), .int 0] 42 90324 (wl G.2.1 [ob 9 [.ref (G.2.1 + 1), .ref (G.2.1 + 23), .ref (G.2.1 + 27), .ref (G.2.1 + 28), .ref (G.2.1 + 22), .int 0, .int 0, .null, .int 0, .null, .int 0], ob 6 [.ref (G.2.1 + 2), .ref (G.2.1 + 6), .ref (G.2.1 + 12), .ref (G.2.1 + 14), .ref (G.2.1 + 17), .ref (G.2.1 + 20), .ref (G.2.1 + 21)], ob 2 [.int 256, .int 4, .int 1, .int 1, .ref (G.2.1 + 3), .ref (G.2.1 + 4), .ref (G.2.1 + 5)], ai G 256 (fun j => if 1 ≤ j ∧ j < 3 then (-1) else (upd (fun _ => 0) (0 : Int32).toNatClampNeg 4) j), ai G 500 (upd (fun _ => (-1)) (0 : Int32).toNatClampNeg 0), ai G 500 (upd (fun _ => 0) (0 : Int32).toNatClampNeg 0), ob 3 [.int 0, .int 0, .int 0, .int 0, .ref (G.2.1 + 7), .ref (G.2.1 + 8), .ref (G.2.1 + 9), .ref (G.2.1 + 10), .ref (G.2.1 + 11)], ai G 500 (fun _ => 0), ai G 500 (fun _ => 0), ai G 500 (fun _ => 0), ai G 500 (fun _ => 0), ai G 500 (fun _ => 0), ob 8 [.int 0, .int 0, .int 0, .int 0, .int 0, .int 0, .ref (G.2.1 + 13)], ai G 300 (fun _ => 0), ob 4 [.int 0, .ref (G.2.1 + 15), .ref (G.2.1 + 16)], ai G 1295 (fun _ => 0), ai G 1295 (fun _ => 0), ob 5 [.int 0, .int 0, .int 0, .int 0, .ref (G.2.1 + 18), .ref (G.2.1 + 19)], ai G 200 (fun _ => 0), ai G 8 (fun _ => (-1)), ai G 24 (fun _ => (-1)), ai G 32 (fun _ => (-1)), ai G 14 (fun _ => 0), ob 7 [.ref (G.2.1 + 1), .ref (G.2.1 + 2), .ref (G.2.1 + 6), .ref (G.2.1 + 22), .ref (G.2.1 + 24), .int 0, .ref (G.2.1 + 25), .ref (G.2.1 + 26), .int 0], ai G 500 (fun _ => 0), ai G 500 (fun _ => 0), ai G 500 (fun _ => 0), ob 0 [.ref (G.2.1 + 1), .ref (G.2.1 + 2), .ref (G.2.1 + 23), .int 0], ob 1 [.ref (G.2.1 + 29), .int 0, .int 0, .ref (G.2.1 + 30), .ref (G.2.1 + 31)], ai G 0 (fun _ => 0), ai G 500 (fun _ => 0), ai G 501 (fun _ => 0), ob 10 [.ref (G.2.1 + 33), .ref (G.2.1 + 34), .ref (G.2.1 + 35), .int 0, .int 0, .int 0, .int 0, .int 0, .ref (G.2.1 + 36), .ref (G.2.1 + 37), .ref (G.2.1 + 38), .ref (G.2.1 + 39), .int 0, .ref (G.2.1 + 40), .int 0, .ref (G.2.1 + 41)], ai G 26100 (sx 256), ai G 26100 (fun _ => 0), ai G 26100 (fun _ => 0), ai G 14 (fun _ => 0), ai G 500 (fun _ => 0), ai G 500 (fun _ => 0), az G 500 (fun _ => 0), ai G 501 (fun _ => 0), ai G 500 (fun _ => 0)]) (some (.int 0), 42, 90324, (wl G.2.1 [ob 9 [.ref (G.2.1 + 1), .ref (G.2.1 + 23), .ref (G.2.1 + 27), .ref (G.2.1 + 28), .ref (G.2.1 + 22), .int 0, .int 0, .null, .int 0, .null, .int 0], ob 6 [.ref (G.2.1 + 2), .ref (G.2.1 + 6), .ref (G.2.1 + 12), .ref (G.2.1 + 14), .ref (G.2.1 + 17), .ref (G.2.1 + 20), .ref (G.2.1 + 21)], ob 2 [.int 256, .int 4, .int 1, .int 1, .ref (G.2.1 + 3), .ref (G.2.1 + 4), .ref (G.2.1 + 5)], ai G 256 (fun j => if 1 ≤ j ∧ j < 3 then (-1) else (upd (fun _ => 0) (0 : Int32).toNatClampNeg 4) j), ai G 500 (upd (fun _ => (-1)) (0 : Int32).toNatClampNeg 0), ai G 500 (upd (fun _ => 0) (0 : Int32).toNatClampNeg 0), ob 3 [.int 0, .int 0, .int 0, .int 0, .ref (G.2.1 + 7), .ref (G.2.1 + 8), .ref (G.2.1 + 9), .ref (G.2.1 + 10), .ref (G.2.1 + 11)], ai G 500 (fun _ => 0), ai G 500 (fun _ => 0), ai G 500 (fun _ => 0), ai G 500 (fun _ => 0), ai G 500 (fun _ => 0), ob 8 [.int 0, .int 0, .int 0, .int 0, .int 0, .int 0, .ref (G.2.1 + 13)], ai G 300 (fun _ => 0), ob 4 [.int 0, .ref (G.2.1 + 15), .ref (G.2.1 + 16)], ai G 1295 (fun _ => 0), ai G 1295 (fun _ => 0), ob 5 [.int 0, .int 0, .int 0, .int 0, .ref (G.2.1 + 18), .ref (G.2.1 + 19)], ai G 200 (fun _ => 0), ai G 8 (fun _ => (-1)), ai G 24 (fun _ => (-1)), ai G 32 (fun _ => (-1)), ai G 14 (fun _ => 0), ob 7 [.ref (G.2.1 + 1), .ref (G.2.1 + 2), .ref (G.2.1 + 6), .ref (G.2.1 + 22), .ref (G.2.1 + 24), .int 0, .ref (G.2.1 + 25), .ref (G.2.1 + 26), .int 0], ai G 500 (fun _ => 0), ai G 500 (fun _ => 0), ai G 500 (fun _ => 0), ob 0 [.ref (G.2.1 + 1), .ref (G.2.1 + 2), .ref (G.2.1 + 23), .int 0], ob 1 [.ref (G.2.1 + 29), .int 0, .int 0, .ref (G.2.1 + 30), .ref (G.2.1 + 31)], ai G 0 (fun _ => 0), ai G 500 (fun _ => 0), ai G 501 (fun _ => 0), ob 10 [.ref (G.2.1 + 33), .ref (G.2.1 + 34), .ref (G.2.1 + 35), .int 0, .int 0, .int 0, .int 0, .int 0, .ref (G.2.1 + 36), .ref (G.2.1 + 37), .ref (G.2.1 + 38), .ref (G.2.1 + 39), .int 0, .ref (G.2.1 + 40), .int 0, .ref (G.2.1 + 41)], ai G 26100 (sx 256), ai G 26100 (fun _ => 0), ai G 26100 (fun _ => 0), ai G 14 (fun _ => 0), ai G 500 (fun _ => 0), ai G 500 (fun _ => 0), az G 500 (fun _ => 0), ai G 501 (fun _ => 0), ai G 500 (fun _ => 0)])) := by
  refine Ct.of (by decide) (Nat.le_of_ble_eq_true rfl) ⟨Nat.le_refl _, Nat.le_refl _⟩ ?_
  show Go l G mX9_answer _ 0 [(0, .ref (G.2.1 + 0)), (1, .int 0)] [] 42 90324 (wl G.2.1 [ob 9 [.ref (G.2.1 + 1), .ref (G.2.1 + 23), .ref (G.2.1 + 27), .ref (G.2.1 + 28), .ref (G.2.1 + 22), .int 0, .int 0, .null, .int 0, .null, .int 0], ob 6 [.ref (G.2.1 + 2), .ref (G.2.1 + 6), .ref (G.2.1 + 12), .ref (G.2.1 + 14), .ref (G.2.1 + 17), .ref (G.2.1 + 20), .ref (G.2.1 + 21)], ob 2 [.int 256, .int 4, .int 1, .int 1, .ref (G.2.1 + 3), .ref (G.2.1 + 4), .ref (G.2.1 + 5)], ai G 256 (fun j => if 1 ≤ j ∧ j < 3 then (-1) else (upd (fun _ => 0) (0 : Int32).toNatClampNeg 4) j), ai G 500 (upd (fun _ => (-1)) (0 : Int32).toNatClampNeg 0), ai G 500 (upd (fun _ => 0) (0 : Int32).toNatClampNeg 0), ob 3 [.int 0, .int 0, .int 0, .int 0, .ref (G.2.1 + 7), .ref (G.2.1 + 8), .ref (G.2.1 + 9), .ref (G.2.1 + 10), .ref (G.2.1 + 11)], ai G 500 (fun _ => 0), ai G 500 (fun _ => 0), ai G 500 (fun _ => 0), ai G 500 (fun _ => 0), ai G 500 (fun _ => 0), ob 8 [.int 0, .int 0, .int 0, .int 0, .int 0, .int 0, .ref (G.2.1 + 13)], ai G 300 (fun _ => 0), ob 4 [.int 0, .ref (G.2.1 + 15), .ref (G.2.1 + 16)], ai G 1295 (fun _ => 0), ai G 1295 (fun _ => 0), ob 5 [.int 0, .int 0, .int 0, .int 0, .ref (G.2.1 + 18), .ref (G.2.1 + 19)], ai G 200 (fun _ => 0), ai G 8 (fun _ => (-1)), ai G 24 (fun _ => (-1)), ai G 32 (fun _ => (-1)), ai G 14 (fun _ => 0), ob 7 [.ref (G.2.1 + 1), .ref (G.2.1 + 2), .ref (G.2.1 + 6), .ref (G.2.1 + 22), .ref (G.2.1 + 24), .int 0, .ref (G.2.1 + 25), .ref (G.2.1 + 26), .int 0], ai G 500 (fun _ => 0), ai G 500 (fun _ => 0), ai G 500 (fun _ => 0), ob 0 [.ref (G.2.1 + 1), .ref (G.2.1 + 2), .ref (G.2.1 + 23), .int 0], ob 1 [.ref (G.2.1 + 29), .int 0, .int 0, .ref (G.2.1 + 30), .ref (G.2.1 + 31)], ai G 0 (fun _ => 0), ai G 500 (fun _ => 0), ai G 501 (fun _ => 0), ob 10 [.ref (G.2.1 + 33), .ref (G.2.1 + 34), .ref (G.2.1 + 35), .int 0, .int 0, .int 0, .int 0, .int 0, .ref (G.2.1 + 36), .ref (G.2.1 + 37), .ref (G.2.1 + 38), .ref (G.2.1 + 39), .int 0, .ref (G.2.1 + 40), .int 0, .ref (G.2.1 + 41)], ai G 26100 (sx 256), ai G 26100 (fun _ => 0), ai G 26100 (fun _ => 0), ai G 14 (fun _ => 0), ai G 500 (fun _ => 0), ai G 500 (fun _ => 0), az G 500 (fun _ => 0), ai G 501 (fun _ => 0), ai G 500 (fun _ => 0)])
  refine go_aload_n (pc := 0) dX9_answer_0 rfl rfl ?_
  refine go_iload_n (pc := 1) dX9_answer_1 rfl rfl ?_
  refine go_callS_i (pc := 2) sX9_302 rfl (cX9_findingIn_7) rfl rfl (Nat.le_of_ble_eq_true rfl) ⟨Nat.le_of_ble_eq_true rfl, Nat.le_of_ble_eq_true rfl, (Nat.le_add_right _ _), (Nat.le_add_right _ _)⟩ dX9_answer_2 ?_
  refine go_put (pc := 5) fX9_53 rfl (gz_b (by decide)) (wl_at (i := 0) rfl) (Nat.le_of_ble_eq_true rfl) rfl rfl dX9_answer_5 ?_
  refine go_ext (wl_up (i := 0) rfl rfl) ?_
  refine go_iload_n (pc := 8) dX9_answer_8 rfl rfl ?_
  refine go_w (show _ = wl G.2.1 [ob 9 [.ref (G.2.1 + 1), .ref (G.2.1 + 23), .ref (G.2.1 + 27), .ref (G.2.1 + 28), .ref (G.2.1 + 22), .int 0, .int 0, .null, .int 0, .null, .int 0], ob 6 [.ref (G.2.1 + 2), .ref (G.2.1 + 6), .ref (G.2.1 + 12), .ref (G.2.1 + 14), .ref (G.2.1 + 17), .ref (G.2.1 + 20), .ref (G.2.1 + 21)], ob 2 [.int 256, .int 4, .int 1, .int 1, .ref (G.2.1 + 3), .ref (G.2.1 + 4), .ref (G.2.1 + 5)], ai G 256 (fun j => if 1 ≤ j ∧ j < 3 then (-1) else (upd (fun _ => 0) (0 : Int32).toNatClampNeg 4) j), ai G 500 (upd (fun _ => (-1)) (0 : Int32).toNatClampNeg 0), ai G 500 (upd (fun _ => 0) (0 : Int32).toNatClampNeg 0), ob 3 [.int 0, .int 0, .int 0, .int 0, .ref (G.2.1 + 7), .ref (G.2.1 + 8), .ref (G.2.1 + 9), .ref (G.2.1 + 10), .ref (G.2.1 + 11)], ai G 500 (fun _ => 0), ai G 500 (fun _ => 0), ai G 500 (fun _ => 0), ai G 500 (fun _ => 0), ai G 500 (fun _ => 0), ob 8 [.int 0, .int 0, .int 0, .int 0, .int 0, .int 0, .ref (G.2.1 + 13)], ai G 300 (fun _ => 0), ob 4 [.int 0, .ref (G.2.1 + 15), .ref (G.2.1 + 16)], ai G 1295 (fun _ => 0), ai G 1295 (fun _ => 0), ob 5 [.int 0, .int 0, .int 0, .int 0, .ref (G.2.1 + 18), .ref (G.2.1 + 19)], ai G 200 (fun _ => 0), ai G 8 (fun _ => (-1)), ai G 24 (fun _ => (-1)), ai G 32 (fun _ => (-1)), ai G 14 (fun _ => 0), ob 7 [.ref (G.2.1 + 1), .ref (G.2.1 + 2), .ref (G.2.1 + 6), .ref (G.2.1 + 22), .ref (G.2.1 + 24), .int 0, .ref (G.2.1 + 25), .ref (G.2.1 + 26), .int 0], ai G 500 (fun _ => 0), ai G 500 (fun _ => 0), ai G 500 (fun _ => 0), ob 0 [.ref (G.2.1 + 1), .ref (G.2.1 + 2), .ref (G.2.1 + 23), .int 0], ob 1 [.ref (G.2.1 + 29), .int 0, .int 0, .ref (G.2.1 + 30), .ref (G.2.1 + 31)], ai G 0 (fun _ => 0), ai G 500 (fun _ => 0), ai G 501 (fun _ => 0), ob 10 [.ref (G.2.1 + 33), .ref (G.2.1 + 34), .ref (G.2.1 + 35), .int 0, .int 0, .int 0, .int 0, .int 0, .ref (G.2.1 + 36), .ref (G.2.1 + 37), .ref (G.2.1 + 38), .ref (G.2.1 + 39), .int 0, .ref (G.2.1 + 40), .int 0, .ref (G.2.1 + 41)], ai G 26100 (sx 256), ai G 26100 (fun _ => 0), ai G 26100 (fun _ => 0), ai G 14 (fun _ => 0), ai G 500 (fun _ => 0), ai G 500 (fun _ => 0), az G 500 (fun _ => 0), ai G 501 (fun _ => 0), ai G 500 (fun _ => 0)] from rfl) ?_
  exact go_iret (pc := 9) rfl dX9_answer_9
set_option maxRecDepth 100000 in
set_option maxHeartbeats 4000000 in
theorem cx_make_4_o {l : Launch} {G : gG} (x2 : Int32) : Ct l G mX9_make 4 94 [.ref (G.2.1 + 0), .int 4, .int x2] 42 90324 (wl G.2.1 (LF G)) (some (.int 0), 42, 90324, (wl G.2.1 [ob 9 [.ref (G.2.1 + 1), .ref (G.2.1 + 23), .ref (G.2.1 + 27), .ref (G.2.1 + 28), .ref (G.2.1 + 22), .int 0, .int 0, .null, .int 0, .null, .int 0], ob 6 [.ref (G.2.1 + 2), .ref (G.2.1 + 6), .ref (G.2.1 + 12), .ref (G.2.1 + 14), .ref (G.2.1 + 17), .ref (G.2.1 + 20), .ref (G.2.1 + 21)], ob 2 [.int 256, .int 4, .int 1, .int 1, .ref (G.2.1 + 3), .ref (G.2.1 + 4), .ref (G.2.1 + 5)], ai G 256 (fun j => if 1 ≤ j ∧ j < 3 then (-1) else (upd (fun _ => 0) (0 : Int32).toNatClampNeg 4) j), ai G 500 (upd (fun _ => (-1)) (0 : Int32).toNatClampNeg 0), ai G 500 (upd (fun _ => 0) (0 : Int32).toNatClampNeg 0), ob 3 [.int 0, .int 0, .int 0, .int 0, .ref (G.2.1 + 7), .ref (G.2.1 + 8), .ref (G.2.1 + 9), .ref (G.2.1 + 10), .ref (G.2.1 + 11)], ai G 500 (fun _ => 0), ai G 500 (fun _ => 0), ai G 500 (fun _ => 0), ai G 500 (fun _ => 0), ai G 500 (fun _ => 0), ob 8 [.int 0, .int 0, .int 0, .int 0, .int 0, .int 0, .ref (G.2.1 + 13)], ai G 300 (fun _ => 0), ob 4 [.int 0, .ref (G.2.1 + 15), .ref (G.2.1 + 16)], ai G 1295 (fun _ => 0), ai G 1295 (fun _ => 0), ob 5 [.int 0, .int 0, .int 0, .int 0, .ref (G.2.1 + 18), .ref (G.2.1 + 19)], ai G 200 (fun _ => 0), ai G 8 (fun _ => (-1)), ai G 24 (fun _ => (-1)), ai G 32 (fun _ => (-1)), ai G 14 (fun _ => 0), ob 7 [.ref (G.2.1 + 1), .ref (G.2.1 + 2), .ref (G.2.1 + 6), .ref (G.2.1 + 22), .ref (G.2.1 + 24), .int 0, .ref (G.2.1 + 25), .ref (G.2.1 + 26), .int 0], ai G 500 (fun _ => 0), ai G 500 (fun _ => 0), ai G 500 (fun _ => 0), ob 0 [.ref (G.2.1 + 1), .ref (G.2.1 + 2), .ref (G.2.1 + 23), .int 0], ob 1 [.ref (G.2.1 + 29), .int 0, .int 0, .ref (G.2.1 + 30), .ref (G.2.1 + 31)], ai G 0 (fun _ => 0), ai G 500 (fun _ => 0), ai G 501 (fun _ => 0), ob 10 [.ref (G.2.1 + 33), .ref (G.2.1 + 34), .ref (G.2.1 + 35), .int 0, .int 0, .int 0, .int 0, .int 0, .ref (G.2.1 + 36), .ref (G.2.1 + 37), .ref (G.2.1 + 38), .ref (G.2.1 + 39), .int 0, .ref (G.2.1 + 40), .int 0, .ref (G.2.1 + 41)], ai G 26100 (sx 256), ai G 26100 (fun _ => 0), ai G 26100 (fun _ => 0), ai G 14 (fun _ => 0), ai G 500 (fun _ => 0), ai G 500 (fun _ => 0), az G 500 (fun _ => 0), ai G 501 (fun _ => 0), ai G 500 (fun _ => 0)])) := by
  refine Ct.of (by decide) (Nat.le_of_ble_eq_true rfl) ⟨Nat.le_refl _, Nat.le_refl _⟩ ?_
  show Go l G mX9_make _ 0 [(0, .ref (G.2.1 + 0)), (1, .int 4), (2, .int x2)] [] 42 90324 (wl G.2.1 (LF G))
  refine go_iload_n (pc := 0) dX9_make_0 rfl rfl ?_
  refine go_iload_n (pc := 1) dX9_make_1 rfl rfl ?_
  refine go_callS_i (pc := 2) sX9_66 rfl (cX9_isOutsideOfMaking_4 x2) rfl rfl (Nat.le_of_ble_eq_true rfl) ⟨Nat.le_of_ble_eq_true rfl, Nat.le_of_ble_eq_true rfl, (Nat.le_add_right _ _), (Nat.le_add_right _ _)⟩ dX9_make_2 ?_
  refine go_if_eq_t (pc := 5) (tgt := 11) dX9_make_5 (by decide) (by decide) ?_
  refine go_aload_n (pc := 11) dX9_make_11 rfl rfl ?_
  refine go_aload_n (pc := 12) dX9_make_12 rfl rfl ?_
  refine go_get (pc := 13) fX9_34 rfl (gz_b (by decide)) (wl_at (i := 0) rfl) rfl dX9_make_13 ?_
  refine go_iload_n (pc := 16) dX9_make_16 rfl rfl ?_
  refine go_iload_n (pc := 17) dX9_make_17 rfl rfl ?_
  refine go_callV_i (pc := 18) vX9_70 rfl (cX0_makeCell_3 x2) rfl rfl (gz_b (by decide)) (wl_at (i := 27) rfl) rfl (Nat.le_of_ble_eq_true rfl) ⟨Nat.le_of_ble_eq_true rfl, Nat.le_of_ble_eq_true rfl, (Nat.le_add_right _ _), (Nat.le_add_right _ _)⟩ dX9_make_18 ?_
  refine go_callV_i (pc := 21) vX9_74 rfl (cX9_answer_7) rfl rfl (gz_b (by decide)) (wl_at (i := 0) rfl) rfl (Nat.le_of_ble_eq_true rfl) ⟨Nat.le_of_ble_eq_true rfl, Nat.le_of_ble_eq_true rfl, (Nat.le_add_right _ _), (Nat.le_add_right _ _)⟩ dX9_make_21 ?_
  exact go_iret (pc := 24) rfl dX9_make_24
theorem cx_make_4 {l : Launch} {G : gG} (x2 : Int32) : CX l G mX9_make [.ref (G.2.1 + 0), .int 4, .int x2] 0 := by
  exact ⟨4, 94, 42, 90324, _, by decide, by decide, by decide, by decide, by decide, (by exact wl_frame rfl), cx_make_4_o x2⟩
set_option maxRecDepth 100000 in
set_option maxHeartbeats 4000000 in
theorem cX9_isOutsideOfMaking_5 {l : Launch} {G : gG} (x1 : Int32) (x2 : Int32) (k0 : x1 < 0) (k2 : (if 0 ≤ x1 ∧ x1 ≤ 5 then (1 : Int32) else 0) = 0) : Ct l G mX9_isOutsideOfMaking 0 0 [.int x1, .int x2] 42 90324 (wl G.2.1 (LF G)) (some (.int 1), 42, 90324, (wl G.2.1 (LF G))) := by
  refine Ct.of (by decide) (Nat.le_of_ble_eq_true rfl) ⟨Nat.le_refl _, Nat.le_refl _⟩ ?_
  show Go l G mX9_isOutsideOfMaking _ 0 [(0, .int x1), (1, .int x2)] [] 42 90324 (wl G.2.1 (LF G))
  refine go_iload_n (pc := 0) dX9_isOutsideOfMaking_0 rfl rfl ?_
  refine go_if_lt_t (pc := 1) (tgt := 24) dX9_isOutsideOfMaking_1 (by decide) k0 ?_
  refine go_iconst (pc := 24) (v := 1) dX9_isOutsideOfMaking_24 (by decide) ?_
  refine go_goto (pc := 25) (tgt := 29) dX9_isOutsideOfMaking_25 (by decide) ?_
  exact go_zret (pc := 29) rfl rfl dX9_isOutsideOfMaking_29
set_option maxRecDepth 100000 in
set_option maxHeartbeats 4000000 in
theorem cx_make_lo_o {l : Launch} {G : gG} (x1 : Int32) (x2 : Int32) (k0 : x1 < 0) (k2 : (if 0 ≤ x1 ∧ x1 ≤ 5 then (1 : Int32) else 0) = 0) : Ct l G mX9_make 1 21 [.ref (G.2.1 + 0), .int x1, .int x2] 42 90324 (wl G.2.1 (LF G)) (some (.int ((-102))), 42, 90324, (wl G.2.1 (LF G))) := by
  refine Ct.of (by decide) (Nat.le_of_ble_eq_true rfl) ⟨Nat.le_refl _, Nat.le_refl _⟩ ?_
  show Go l G mX9_make _ 0 [(0, .ref (G.2.1 + 0)), (1, .int x1), (2, .int x2)] [] 42 90324 (wl G.2.1 (LF G))
  refine go_iload_n (pc := 0) dX9_make_0 rfl rfl ?_
  refine go_iload_n (pc := 1) dX9_make_1 rfl rfl ?_
  refine go_callS_i (pc := 2) sX9_66 rfl (cX9_isOutsideOfMaking_5 x1 x2 k0 k2) rfl rfl (Nat.le_of_ble_eq_true rfl) ⟨Nat.le_of_ble_eq_true rfl, Nat.le_of_ble_eq_true rfl, (Nat.le_add_right _ _), (Nat.le_add_right _ _)⟩ dX9_make_2 ?_
  refine go_if_eq_f (pc := 5) (tgt := 11) dX9_make_5 (by decide) (by decide) ?_
  refine go_bipush (pc := 8) (v := (-102)) dX9_make_8 (by decide) ?_
  exact go_iret (pc := 10) rfl dX9_make_10
theorem cx_make_lo {l : Launch} {G : gG} (x1 : Int32) (x2 : Int32) (k0 : x1 < 0) (k2 : (if 0 ≤ x1 ∧ x1 ≤ 5 then (1 : Int32) else 0) = 0) : CX l G mX9_make [.ref (G.2.1 + 0), .int x1, .int x2] ((-102)) := by
  exact ⟨1, 21, 42, 90324, _, by decide, by decide, by decide, by decide, by decide, (by exact wl_frame rfl), cx_make_lo_o x1 x2 k0 k2⟩
set_option maxRecDepth 100000 in
set_option maxHeartbeats 4000000 in
theorem cX9_isOutsideOfMaking_6 {l : Launch} {G : gG} (x1 : Int32) (x2 : Int32) (k0 : ¬ x1 < 0) (k1 : 6 ≤ x1) (k2 : (if 0 ≤ x1 ∧ x1 ≤ 5 then (1 : Int32) else 0) = 0) : Ct l G mX9_isOutsideOfMaking 0 0 [.int x1, .int x2] 42 90324 (wl G.2.1 (LF G)) (some (.int 1), 42, 90324, (wl G.2.1 (LF G))) := by
  refine Ct.of (by decide) (Nat.le_of_ble_eq_true rfl) ⟨Nat.le_refl _, Nat.le_refl _⟩ ?_
  show Go l G mX9_isOutsideOfMaking _ 0 [(0, .int x1), (1, .int x2)] [] 42 90324 (wl G.2.1 (LF G))
  refine go_iload_n (pc := 0) dX9_isOutsideOfMaking_0 rfl rfl ?_
  refine go_if_lt_f (pc := 1) (tgt := 24) dX9_isOutsideOfMaking_1 (by decide) k0 ?_
  refine go_iload_n (pc := 4) dX9_isOutsideOfMaking_4 rfl rfl ?_
  refine go_bipush (pc := 5) (v := 6) dX9_isOutsideOfMaking_5 (by decide) ?_
  refine go_icmp_ge_t (pc := 7) (tgt := 24) dX9_isOutsideOfMaking_7 (by decide) k1 ?_
  refine go_iconst (pc := 24) (v := 1) dX9_isOutsideOfMaking_24 (by decide) ?_
  refine go_goto (pc := 25) (tgt := 29) dX9_isOutsideOfMaking_25 (by decide) ?_
  exact go_zret (pc := 29) rfl rfl dX9_isOutsideOfMaking_29
set_option maxRecDepth 100000 in
set_option maxHeartbeats 4000000 in
theorem cx_make_hi_o {l : Launch} {G : gG} (x1 : Int32) (x2 : Int32) (k0 : ¬ x1 < 0) (k1 : 6 ≤ x1) (k2 : (if 0 ≤ x1 ∧ x1 ≤ 5 then (1 : Int32) else 0) = 0) : Ct l G mX9_make 1 21 [.ref (G.2.1 + 0), .int x1, .int x2] 42 90324 (wl G.2.1 (LF G)) (some (.int ((-102))), 42, 90324, (wl G.2.1 (LF G))) := by
  refine Ct.of (by decide) (Nat.le_of_ble_eq_true rfl) ⟨Nat.le_refl _, Nat.le_refl _⟩ ?_
  show Go l G mX9_make _ 0 [(0, .ref (G.2.1 + 0)), (1, .int x1), (2, .int x2)] [] 42 90324 (wl G.2.1 (LF G))
  refine go_iload_n (pc := 0) dX9_make_0 rfl rfl ?_
  refine go_iload_n (pc := 1) dX9_make_1 rfl rfl ?_
  refine go_callS_i (pc := 2) sX9_66 rfl (cX9_isOutsideOfMaking_6 x1 x2 k0 k1 k2) rfl rfl (Nat.le_of_ble_eq_true rfl) ⟨Nat.le_of_ble_eq_true rfl, Nat.le_of_ble_eq_true rfl, (Nat.le_add_right _ _), (Nat.le_add_right _ _)⟩ dX9_make_2 ?_
  refine go_if_eq_f (pc := 5) (tgt := 11) dX9_make_5 (by decide) (by decide) ?_
  refine go_bipush (pc := 8) (v := (-102)) dX9_make_8 (by decide) ?_
  exact go_iret (pc := 10) rfl dX9_make_10
theorem cx_make_hi {l : Launch} {G : gG} (x1 : Int32) (x2 : Int32) (k0 : ¬ x1 < 0) (k1 : 6 ≤ x1) (k2 : (if 0 ≤ x1 ∧ x1 ≤ 5 then (1 : Int32) else 0) = 0) : CX l G mX9_make [.ref (G.2.1 + 0), .int x1, .int x2] ((-102)) := by
  exact ⟨1, 21, 42, 90324, _, by decide, by decide, by decide, by decide, by decide, (by exact wl_frame rfl), cx_make_hi_o x1 x2 k0 k1 k2⟩
set_option maxRecDepth 100000 in
set_option maxHeartbeats 4000000 in
theorem cX2_isCounted_8 {l : Launch} {G : gG} : Ct l G mX2_isCounted 0 0 [.int 1] 42 90324 (wl G.2.1 (LF G)) (some (.int 1), 42, 90324, (wl G.2.1 (LF G))) := by
  refine Ct.of (by decide) (Nat.le_of_ble_eq_true rfl) ⟨Nat.le_refl _, Nat.le_refl _⟩ ?_
  show Go l G mX2_isCounted _ 0 [(0, .int 1)] [] 42 90324 (wl G.2.1 (LF G))
  refine go_iload_n (pc := 0) dX2_isCounted_0 rfl rfl ?_
  refine go_iconst (pc := 1) (v := 1) dX2_isCounted_1 (by decide) ?_
  refine go_icmp_eq_t (pc := 2) (tgt := 15) dX2_isCounted_2 (by decide) (by decide) ?_
  refine go_iconst (pc := 15) (v := 1) dX2_isCounted_15 (by decide) ?_
  refine go_goto (pc := 16) (tgt := 20) dX2_isCounted_16 (by decide) ?_
  exact go_zret (pc := 20) rfl rfl dX2_isCounted_20
set_option maxRecDepth 100000 in
set_option maxHeartbeats 4000000 in
theorem cX9_isOutsideOfMaking_7 {l : Launch} {G : gG} (x2 : Int32) (k0 : ¬ x2 ≤ 300) : Ct l G mX9_isOutsideOfMaking 1 20 [.int 1, .int x2] 42 90324 (wl G.2.1 (LF G)) (some (.int 1), 42, 90324, (wl G.2.1 (LF G))) := by
  refine Ct.of (by decide) (Nat.le_of_ble_eq_true rfl) ⟨Nat.le_refl _, Nat.le_refl _⟩ ?_
  show Go l G mX9_isOutsideOfMaking _ 0 [(0, .int 1), (1, .int x2)] [] 42 90324 (wl G.2.1 (LF G))
  refine go_iload_n (pc := 0) dX9_isOutsideOfMaking_0 rfl rfl ?_
  refine go_if_lt_f (pc := 1) (tgt := 24) dX9_isOutsideOfMaking_1 (by decide) (by decide) ?_
  refine go_iload_n (pc := 4) dX9_isOutsideOfMaking_4 rfl rfl ?_
  refine go_bipush (pc := 5) (v := 6) dX9_isOutsideOfMaking_5 (by decide) ?_
  refine go_icmp_ge_f (pc := 7) (tgt := 24) dX9_isOutsideOfMaking_7 (by decide) (by decide) ?_
  refine go_iload_n (pc := 10) dX9_isOutsideOfMaking_10 rfl rfl ?_
  refine go_callS_i (pc := 11) sX9_326 rfl (cX2_isCounted_8) rfl rfl (Nat.le_of_ble_eq_true rfl) ⟨Nat.le_of_ble_eq_true rfl, Nat.le_of_ble_eq_true rfl, (Nat.le_add_right _ _), (Nat.le_add_right _ _)⟩ dX9_isOutsideOfMaking_11 ?_
  refine go_if_eq_f (pc := 14) (tgt := 28) dX9_isOutsideOfMaking_14 (by decide) (by decide) ?_
  refine go_iload_n (pc := 17) dX9_isOutsideOfMaking_17 rfl rfl ?_
  refine go_sipush (pc := 18) (v := 300) dX9_isOutsideOfMaking_18 (by decide) ?_
  refine go_icmp_le_f (pc := 21) (tgt := 28) dX9_isOutsideOfMaking_21 (by decide) k0 ?_
  refine go_iconst (pc := 24) (v := 1) dX9_isOutsideOfMaking_24 (by decide) ?_
  refine go_goto (pc := 25) (tgt := 29) dX9_isOutsideOfMaking_25 (by decide) ?_
  exact go_zret (pc := 29) rfl rfl dX9_isOutsideOfMaking_29
set_option maxRecDepth 100000 in
set_option maxHeartbeats 4000000 in
theorem cx_make_1a_o {l : Launch} {G : gG} (x2 : Int32) (k0 : ¬ x2 ≤ 300) : Ct l G mX9_make 2 41 [.ref (G.2.1 + 0), .int 1, .int x2] 42 90324 (wl G.2.1 (LF G)) (some (.int ((-102))), 42, 90324, (wl G.2.1 (LF G))) := by
  refine Ct.of (by decide) (Nat.le_of_ble_eq_true rfl) ⟨Nat.le_refl _, Nat.le_refl _⟩ ?_
  show Go l G mX9_make _ 0 [(0, .ref (G.2.1 + 0)), (1, .int 1), (2, .int x2)] [] 42 90324 (wl G.2.1 (LF G))
  refine go_iload_n (pc := 0) dX9_make_0 rfl rfl ?_
  refine go_iload_n (pc := 1) dX9_make_1 rfl rfl ?_
  refine go_callS_i (pc := 2) sX9_66 rfl (cX9_isOutsideOfMaking_7 x2 k0) rfl rfl (Nat.le_of_ble_eq_true rfl) ⟨Nat.le_of_ble_eq_true rfl, Nat.le_of_ble_eq_true rfl, (Nat.le_add_right _ _), (Nat.le_add_right _ _)⟩ dX9_make_2 ?_
  refine go_if_eq_f (pc := 5) (tgt := 11) dX9_make_5 (by decide) (by decide) ?_
  refine go_bipush (pc := 8) (v := (-102)) dX9_make_8 (by decide) ?_
  exact go_iret (pc := 10) rfl dX9_make_10
theorem cx_make_1a {l : Launch} {G : gG} (x2 : Int32) (k0 : ¬ x2 ≤ 300) : CX l G mX9_make [.ref (G.2.1 + 0), .int 1, .int x2] ((-102)) := by
  exact ⟨2, 41, 42, 90324, _, by decide, by decide, by decide, by decide, by decide, (by exact wl_frame rfl), cx_make_1a_o x2 k0⟩
set_option maxRecDepth 100000 in
set_option maxHeartbeats 4000000 in
theorem cX9_isOutsideOfMaking_8 {l : Launch} {G : gG} (x2 : Int32) (k0 : x2 ≤ 300) (k1 : ¬ 0 ≤ x2) (k4 : x2 < 0) : Ct l G mX9_isOutsideOfMaking 1 20 [.int 1, .int x2] 42 90324 (wl G.2.1 (LF G)) (some (.int 0), 42, 90324, (wl G.2.1 (LF G))) := by
  refine Ct.of (by decide) (Nat.le_of_ble_eq_true rfl) ⟨Nat.le_refl _, Nat.le_refl _⟩ ?_
  show Go l G mX9_isOutsideOfMaking _ 0 [(0, .int 1), (1, .int x2)] [] 42 90324 (wl G.2.1 (LF G))
  refine go_iload_n (pc := 0) dX9_isOutsideOfMaking_0 rfl rfl ?_
  refine go_if_lt_f (pc := 1) (tgt := 24) dX9_isOutsideOfMaking_1 (by decide) (by decide) ?_
  refine go_iload_n (pc := 4) dX9_isOutsideOfMaking_4 rfl rfl ?_
  refine go_bipush (pc := 5) (v := 6) dX9_isOutsideOfMaking_5 (by decide) ?_
  refine go_icmp_ge_f (pc := 7) (tgt := 24) dX9_isOutsideOfMaking_7 (by decide) (by decide) ?_
  refine go_iload_n (pc := 10) dX9_isOutsideOfMaking_10 rfl rfl ?_
  refine go_callS_i (pc := 11) sX9_326 rfl (cX2_isCounted_8) rfl rfl (Nat.le_of_ble_eq_true rfl) ⟨Nat.le_of_ble_eq_true rfl, Nat.le_of_ble_eq_true rfl, (Nat.le_add_right _ _), (Nat.le_add_right _ _)⟩ dX9_isOutsideOfMaking_11 ?_
  refine go_if_eq_f (pc := 14) (tgt := 28) dX9_isOutsideOfMaking_14 (by decide) (by decide) ?_
  refine go_iload_n (pc := 17) dX9_isOutsideOfMaking_17 rfl rfl ?_
  refine go_sipush (pc := 18) (v := 300) dX9_isOutsideOfMaking_18 (by decide) ?_
  refine go_icmp_le_t (pc := 21) (tgt := 28) dX9_isOutsideOfMaking_21 (by decide) k0 ?_
  refine go_iconst (pc := 28) (v := 0) dX9_isOutsideOfMaking_28 (by decide) ?_
  exact go_zret (pc := 29) rfl rfl dX9_isOutsideOfMaking_29
set_option maxRecDepth 100000 in
set_option maxHeartbeats 4000000 in
theorem cX0_makeCell_4 {l : Launch} {G : gG} (x2 : Int32) (k0 : x2 ≤ 300) (k1 : ¬ 0 ≤ x2) (k4 : x2 < 0) : Ct l G mX0_makeCell 1 20 [.ref (G.2.1 + 27), .int 1, .int x2] 42 90324 (wl G.2.1 (LF G)) (some (.int ((-14))), 42, 90324, (wl G.2.1 (LF G))) := by
  refine Ct.of (by decide) (Nat.le_of_ble_eq_true rfl) ⟨Nat.le_refl _, Nat.le_refl _⟩ ?_
  show Go l G mX0_makeCell _ 0 [(0, .ref (G.2.1 + 27)), (1, .int 1), (2, .int x2)] [] 42 90324 (wl G.2.1 (LF G))
  refine go_iload_n (pc := 0) dX0_makeCell_0 rfl rfl ?_
  refine go_callS_i (pc := 1) sX0_26 rfl (cX2_isCounted_8) rfl rfl (Nat.le_of_ble_eq_true rfl) ⟨Nat.le_of_ble_eq_true rfl, Nat.le_of_ble_eq_true rfl, (Nat.le_add_right _ _), (Nat.le_add_right _ _)⟩ dX0_makeCell_1 ?_
  refine go_if_eq_f (pc := 4) (tgt := 11) dX0_makeCell_4 (by decide) (by decide) ?_
  refine go_iload_n (pc := 7) dX0_makeCell_7 rfl rfl ?_
  refine go_goto (pc := 8) (tgt := 12) dX0_makeCell_8 (by decide) ?_
  refine go_istore_n (pc := 12) (lv' := [(3, .int x2), (0, .ref (G.2.1 + 27)), (1, .int 1), (2, .int x2)]) dX0_makeCell_12 rfl (by decide) rfl ?_
  refine go_iload_n (pc := 13) dX0_makeCell_13 rfl rfl ?_
  refine go_if_ge_f (pc := 14) (tgt := 20) dX0_makeCell_14 (by decide) k1 ?_
  refine go_bipush (pc := 17) (v := (-14)) dX0_makeCell_17 (by decide) ?_
  exact go_iret (pc := 19) rfl dX0_makeCell_19
set_option maxRecDepth 100000 in
set_option maxHeartbeats 4000000 in
theorem cX9_findingIn_8 {l : Launch} {G : gG} : Ct l G mX9_findingIn 0 0 [.int ((-14))] 42 90324 (wl G.2.1 (LF G)) (some (.int 4), 42, 90324, (wl G.2.1 (LF G))) := by
  refine Ct.of (by decide) (Nat.le_of_ble_eq_true rfl) ⟨Nat.le_refl _, Nat.le_refl _⟩ ?_
  show Go l G mX9_findingIn _ 0 [(0, .int ((-14)))] [] 42 90324 (wl G.2.1 (LF G))
  refine go_iload_n (pc := 0) dX9_findingIn_0 rfl rfl ?_
  refine go_bipush (pc := 1) (v := (-11)) dX9_findingIn_1 (by decide) ?_
  refine go_icmp_gt_f (pc := 3) (tgt := 19) dX9_findingIn_3 (by decide) (by decide) ?_
  refine go_iload_n (pc := 6) dX9_findingIn_6 rfl rfl ?_
  refine go_bipush (pc := 7) (v := (-18)) dX9_findingIn_7 (by decide) ?_
  refine go_icmp_lt_f (pc := 9) (tgt := 19) dX9_findingIn_9 (by decide) (by decide) ?_
  refine go_bipush (pc := 12) (v := (-10)) dX9_findingIn_12 (by decide) ?_
  refine go_iload_n (pc := 14) dX9_findingIn_14 rfl rfl ?_
  refine go_isub (pc := 15) dX9_findingIn_15 ?_
  refine go_top (y := 4) (by decide) ?_
  refine go_goto (pc := 16) (tgt := 20) dX9_findingIn_16 (by decide) ?_
  exact go_iret (pc := 20) rfl dX9_findingIn_20
set_option maxRecDepth 100000 in
set_option maxHeartbeats 4000000 in
theorem cX9_answer_8 {l : Launch} {G : gG} : Ct l G mX9_answer 1 20 [.ref (G.2.1 + 0), .int ((-14))] 42 90324 (wl G.2.1 (LF G)) (some (.int ((-14))), 42, 90324, (wl G.2.1 [ob 9 [.ref (G.2.1 + 1), .ref (G.2.1 + 23), .ref (G.2.1 + 27), .ref (G.2.1 + 28), .ref (G.2.1 + 22), .int 4, .int 0, .null, .int 0, .null, .int 0], ob 6 [.ref (G.2.1 + 2), .ref (G.2.1 + 6), .ref (G.2.1 + 12), .ref (G.2.1 + 14), .ref (G.2.1 + 17), .ref (G.2.1 + 20), .ref (G.2.1 + 21)], ob 2 [.int 256, .int 0, .int 0, .int 0, .ref (G.2.1 + 3), .ref (G.2.1 + 4), .ref (G.2.1 + 5)], ai G 256 (fun _ => 0), ai G 500 (fun _ => (-1)), ai G 500 (fun _ => 0), ob 3 [.int 0, .int 0, .int 0, .int 0, .ref (G.2.1 + 7), .ref (G.2.1 + 8), .ref (G.2.1 + 9), .ref (G.2.1 + 10), .ref (G.2.1 + 11)], ai G 500 (fun _ => 0), ai G 500 (fun _ => 0), ai G 500 (fun _ => 0), ai G 500 (fun _ => 0), ai G 500 (fun _ => 0), ob 8 [.int 0, .int 0, .int 0, .int 0, .int 0, .int 0, .ref (G.2.1 + 13)], ai G 300 (fun _ => 0), ob 4 [.int 0, .ref (G.2.1 + 15), .ref (G.2.1 + 16)], ai G 1295 (fun _ => 0), ai G 1295 (fun _ => 0), ob 5 [.int 0, .int 0, .int 0, .int 0, .ref (G.2.1 + 18), .ref (G.2.1 + 19)], ai G 200 (fun _ => 0), ai G 8 (fun _ => (-1)), ai G 24 (fun _ => (-1)), ai G 32 (fun _ => (-1)), ai G 14 (fun _ => 0), ob 7 [.ref (G.2.1 + 1), .ref (G.2.1 + 2), .ref (G.2.1 + 6), .ref (G.2.1 + 22), .ref (G.2.1 + 24), .int 0, .ref (G.2.1 + 25), .ref (G.2.1 + 26), .int 0], ai G 500 (fun _ => 0), ai G 500 (fun _ => 0), ai G 500 (fun _ => 0), ob 0 [.ref (G.2.1 + 1), .ref (G.2.1 + 2), .ref (G.2.1 + 23), .int 0], ob 1 [.ref (G.2.1 + 29), .int 0, .int 0, .ref (G.2.1 + 30), .ref (G.2.1 + 31)], ai G 0 (fun _ => 0), ai G 500 (fun _ => 0), ai G 501 (fun _ => 0), ob 10 [.ref (G.2.1 + 33), .ref (G.2.1 + 34), .ref (G.2.1 + 35), .int 0, .int 0, .int 0, .int 0, .int 0, .ref (G.2.1 + 36), .ref (G.2.1 + 37), .ref (G.2.1 + 38), .ref (G.2.1 + 39), .int 0, .ref (G.2.1 + 40), .int 0, .ref (G.2.1 + 41)], ai G 26100 (sx 256), ai G 26100 (fun _ => 0), ai G 26100 (fun _ => 0), ai G 14 (fun _ => 0), ai G 500 (fun _ => 0), ai G 500 (fun _ => 0), az G 500 (fun _ => 0), ai G 501 (fun _ => 0), ai G 500 (fun _ => 0)])) := by
  refine Ct.of (by decide) (Nat.le_of_ble_eq_true rfl) ⟨Nat.le_refl _, Nat.le_refl _⟩ ?_
  show Go l G mX9_answer _ 0 [(0, .ref (G.2.1 + 0)), (1, .int ((-14)))] [] 42 90324 (wl G.2.1 (LF G))
  refine go_aload_n (pc := 0) dX9_answer_0 rfl rfl ?_
  refine go_iload_n (pc := 1) dX9_answer_1 rfl rfl ?_
  refine go_callS_i (pc := 2) sX9_302 rfl (cX9_findingIn_8) rfl rfl (Nat.le_of_ble_eq_true rfl) ⟨Nat.le_of_ble_eq_true rfl, Nat.le_of_ble_eq_true rfl, (Nat.le_add_right _ _), (Nat.le_add_right _ _)⟩ dX9_answer_2 ?_
  refine go_put (pc := 5) fX9_53 rfl (gz_b (by decide)) (wl_at (i := 0) rfl) (Nat.le_of_ble_eq_true rfl) rfl rfl dX9_answer_5 ?_
  refine go_ext (wl_up (i := 0) rfl rfl) ?_
  refine go_iload_n (pc := 8) dX9_answer_8 rfl rfl ?_
  refine go_w (show _ = wl G.2.1 [ob 9 [.ref (G.2.1 + 1), .ref (G.2.1 + 23), .ref (G.2.1 + 27), .ref (G.2.1 + 28), .ref (G.2.1 + 22), .int 4, .int 0, .null, .int 0, .null, .int 0], ob 6 [.ref (G.2.1 + 2), .ref (G.2.1 + 6), .ref (G.2.1 + 12), .ref (G.2.1 + 14), .ref (G.2.1 + 17), .ref (G.2.1 + 20), .ref (G.2.1 + 21)], ob 2 [.int 256, .int 0, .int 0, .int 0, .ref (G.2.1 + 3), .ref (G.2.1 + 4), .ref (G.2.1 + 5)], ai G 256 (fun _ => 0), ai G 500 (fun _ => (-1)), ai G 500 (fun _ => 0), ob 3 [.int 0, .int 0, .int 0, .int 0, .ref (G.2.1 + 7), .ref (G.2.1 + 8), .ref (G.2.1 + 9), .ref (G.2.1 + 10), .ref (G.2.1 + 11)], ai G 500 (fun _ => 0), ai G 500 (fun _ => 0), ai G 500 (fun _ => 0), ai G 500 (fun _ => 0), ai G 500 (fun _ => 0), ob 8 [.int 0, .int 0, .int 0, .int 0, .int 0, .int 0, .ref (G.2.1 + 13)], ai G 300 (fun _ => 0), ob 4 [.int 0, .ref (G.2.1 + 15), .ref (G.2.1 + 16)], ai G 1295 (fun _ => 0), ai G 1295 (fun _ => 0), ob 5 [.int 0, .int 0, .int 0, .int 0, .ref (G.2.1 + 18), .ref (G.2.1 + 19)], ai G 200 (fun _ => 0), ai G 8 (fun _ => (-1)), ai G 24 (fun _ => (-1)), ai G 32 (fun _ => (-1)), ai G 14 (fun _ => 0), ob 7 [.ref (G.2.1 + 1), .ref (G.2.1 + 2), .ref (G.2.1 + 6), .ref (G.2.1 + 22), .ref (G.2.1 + 24), .int 0, .ref (G.2.1 + 25), .ref (G.2.1 + 26), .int 0], ai G 500 (fun _ => 0), ai G 500 (fun _ => 0), ai G 500 (fun _ => 0), ob 0 [.ref (G.2.1 + 1), .ref (G.2.1 + 2), .ref (G.2.1 + 23), .int 0], ob 1 [.ref (G.2.1 + 29), .int 0, .int 0, .ref (G.2.1 + 30), .ref (G.2.1 + 31)], ai G 0 (fun _ => 0), ai G 500 (fun _ => 0), ai G 501 (fun _ => 0), ob 10 [.ref (G.2.1 + 33), .ref (G.2.1 + 34), .ref (G.2.1 + 35), .int 0, .int 0, .int 0, .int 0, .int 0, .ref (G.2.1 + 36), .ref (G.2.1 + 37), .ref (G.2.1 + 38), .ref (G.2.1 + 39), .int 0, .ref (G.2.1 + 40), .int 0, .ref (G.2.1 + 41)], ai G 26100 (sx 256), ai G 26100 (fun _ => 0), ai G 26100 (fun _ => 0), ai G 14 (fun _ => 0), ai G 500 (fun _ => 0), ai G 500 (fun _ => 0), az G 500 (fun _ => 0), ai G 501 (fun _ => 0), ai G 500 (fun _ => 0)] from rfl) ?_
  exact go_iret (pc := 9) rfl dX9_answer_9
set_option maxRecDepth 100000 in
set_option maxHeartbeats 4000000 in
theorem cx_make_1b_o {l : Launch} {G : gG} (x2 : Int32) (k0 : x2 ≤ 300) (k1 : ¬ 0 ≤ x2) (k4 : x2 < 0) : Ct l G mX9_make 2 45 [.ref (G.2.1 + 0), .int 1, .int x2] 42 90324 (wl G.2.1 (LF G)) (some (.int ((-14))), 42, 90324, (wl G.2.1 [ob 9 [.ref (G.2.1 + 1), .ref (G.2.1 + 23), .ref (G.2.1 + 27), .ref (G.2.1 + 28), .ref (G.2.1 + 22), .int 4, .int 0, .null, .int 0, .null, .int 0], ob 6 [.ref (G.2.1 + 2), .ref (G.2.1 + 6), .ref (G.2.1 + 12), .ref (G.2.1 + 14), .ref (G.2.1 + 17), .ref (G.2.1 + 20), .ref (G.2.1 + 21)], ob 2 [.int 256, .int 0, .int 0, .int 0, .ref (G.2.1 + 3), .ref (G.2.1 + 4), .ref (G.2.1 + 5)], ai G 256 (fun _ => 0), ai G 500 (fun _ => (-1)), ai G 500 (fun _ => 0), ob 3 [.int 0, .int 0, .int 0, .int 0, .ref (G.2.1 + 7), .ref (G.2.1 + 8), .ref (G.2.1 + 9), .ref (G.2.1 + 10), .ref (G.2.1 + 11)], ai G 500 (fun _ => 0), ai G 500 (fun _ => 0), ai G 500 (fun _ => 0), ai G 500 (fun _ => 0), ai G 500 (fun _ => 0), ob 8 [.int 0, .int 0, .int 0, .int 0, .int 0, .int 0, .ref (G.2.1 + 13)], ai G 300 (fun _ => 0), ob 4 [.int 0, .ref (G.2.1 + 15), .ref (G.2.1 + 16)], ai G 1295 (fun _ => 0), ai G 1295 (fun _ => 0), ob 5 [.int 0, .int 0, .int 0, .int 0, .ref (G.2.1 + 18), .ref (G.2.1 + 19)], ai G 200 (fun _ => 0), ai G 8 (fun _ => (-1)), ai G 24 (fun _ => (-1)), ai G 32 (fun _ => (-1)), ai G 14 (fun _ => 0), ob 7 [.ref (G.2.1 + 1), .ref (G.2.1 + 2), .ref (G.2.1 + 6), .ref (G.2.1 + 22), .ref (G.2.1 + 24), .int 0, .ref (G.2.1 + 25), .ref (G.2.1 + 26), .int 0], ai G 500 (fun _ => 0), ai G 500 (fun _ => 0), ai G 500 (fun _ => 0), ob 0 [.ref (G.2.1 + 1), .ref (G.2.1 + 2), .ref (G.2.1 + 23), .int 0], ob 1 [.ref (G.2.1 + 29), .int 0, .int 0, .ref (G.2.1 + 30), .ref (G.2.1 + 31)], ai G 0 (fun _ => 0), ai G 500 (fun _ => 0), ai G 501 (fun _ => 0), ob 10 [.ref (G.2.1 + 33), .ref (G.2.1 + 34), .ref (G.2.1 + 35), .int 0, .int 0, .int 0, .int 0, .int 0, .ref (G.2.1 + 36), .ref (G.2.1 + 37), .ref (G.2.1 + 38), .ref (G.2.1 + 39), .int 0, .ref (G.2.1 + 40), .int 0, .ref (G.2.1 + 41)], ai G 26100 (sx 256), ai G 26100 (fun _ => 0), ai G 26100 (fun _ => 0), ai G 14 (fun _ => 0), ai G 500 (fun _ => 0), ai G 500 (fun _ => 0), az G 500 (fun _ => 0), ai G 501 (fun _ => 0), ai G 500 (fun _ => 0)])) := by
  refine Ct.of (by decide) (Nat.le_of_ble_eq_true rfl) ⟨Nat.le_refl _, Nat.le_refl _⟩ ?_
  show Go l G mX9_make _ 0 [(0, .ref (G.2.1 + 0)), (1, .int 1), (2, .int x2)] [] 42 90324 (wl G.2.1 (LF G))
  refine go_iload_n (pc := 0) dX9_make_0 rfl rfl ?_
  refine go_iload_n (pc := 1) dX9_make_1 rfl rfl ?_
  refine go_callS_i (pc := 2) sX9_66 rfl (cX9_isOutsideOfMaking_8 x2 k0 k1 k4) rfl rfl (Nat.le_of_ble_eq_true rfl) ⟨Nat.le_of_ble_eq_true rfl, Nat.le_of_ble_eq_true rfl, (Nat.le_add_right _ _), (Nat.le_add_right _ _)⟩ dX9_make_2 ?_
  refine go_if_eq_t (pc := 5) (tgt := 11) dX9_make_5 (by decide) (by decide) ?_
  refine go_aload_n (pc := 11) dX9_make_11 rfl rfl ?_
  refine go_aload_n (pc := 12) dX9_make_12 rfl rfl ?_
  refine go_get (pc := 13) fX9_34 rfl (gz_b (by decide)) (wl_at (i := 0) rfl) rfl dX9_make_13 ?_
  refine go_iload_n (pc := 16) dX9_make_16 rfl rfl ?_
  refine go_iload_n (pc := 17) dX9_make_17 rfl rfl ?_
  refine go_callV_i (pc := 18) vX9_70 rfl (cX0_makeCell_4 x2 k0 k1 k4) rfl rfl (gz_b (by decide)) (wl_at (i := 27) rfl) rfl (Nat.le_of_ble_eq_true rfl) ⟨Nat.le_of_ble_eq_true rfl, Nat.le_of_ble_eq_true rfl, (Nat.le_add_right _ _), (Nat.le_add_right _ _)⟩ dX9_make_18 ?_
  refine go_callV_i (pc := 21) vX9_74 rfl (cX9_answer_8) rfl rfl (gz_b (by decide)) (wl_at (i := 0) rfl) rfl (Nat.le_of_ble_eq_true rfl) ⟨Nat.le_of_ble_eq_true rfl, Nat.le_of_ble_eq_true rfl, (Nat.le_add_right _ _), (Nat.le_add_right _ _)⟩ dX9_make_21 ?_
  exact go_iret (pc := 24) rfl dX9_make_24
theorem cx_make_1b {l : Launch} {G : gG} (x2 : Int32) (k0 : x2 ≤ 300) (k1 : ¬ 0 ≤ x2) (k4 : x2 < 0) : CX l G mX9_make [.ref (G.2.1 + 0), .int 1, .int x2] ((-14)) := by
  exact ⟨2, 45, 42, 90324, _, by decide, by decide, by decide, by decide, by decide, (by exact wl_frame rfl), cx_make_1b_o x2 k0 k1 k4⟩
set_option maxRecDepth 100000 in
set_option maxHeartbeats 4000000 in
theorem cX9_isOutsideOfMaking_9 {l : Launch} {G : gG} (x2 : Int32) (k0 : x2 ≤ 300) (k1 : 0 ≤ x2) (k4 : ¬ x2 < 0) (k2 : ¬ 2 + x2 ≤ 256) (k3 : ¬ 0 + (2 + x2) ≤ 256) : Ct l G mX9_isOutsideOfMaking 1 20 [.int 1, .int x2] 42 90324 (wl G.2.1 (LF G)) (some (.int 0), 42, 90324, (wl G.2.1 (LF G))) := by
  refine Ct.of (by decide) (Nat.le_of_ble_eq_true rfl) ⟨Nat.le_refl _, Nat.le_refl _⟩ ?_
  show Go l G mX9_isOutsideOfMaking _ 0 [(0, .int 1), (1, .int x2)] [] 42 90324 (wl G.2.1 (LF G))
  refine go_iload_n (pc := 0) dX9_isOutsideOfMaking_0 rfl rfl ?_
  refine go_if_lt_f (pc := 1) (tgt := 24) dX9_isOutsideOfMaking_1 (by decide) (by decide) ?_
  refine go_iload_n (pc := 4) dX9_isOutsideOfMaking_4 rfl rfl ?_
  refine go_bipush (pc := 5) (v := 6) dX9_isOutsideOfMaking_5 (by decide) ?_
  refine go_icmp_ge_f (pc := 7) (tgt := 24) dX9_isOutsideOfMaking_7 (by decide) (by decide) ?_
  refine go_iload_n (pc := 10) dX9_isOutsideOfMaking_10 rfl rfl ?_
  refine go_callS_i (pc := 11) sX9_326 rfl (cX2_isCounted_8) rfl rfl (Nat.le_of_ble_eq_true rfl) ⟨Nat.le_of_ble_eq_true rfl, Nat.le_of_ble_eq_true rfl, (Nat.le_add_right _ _), (Nat.le_add_right _ _)⟩ dX9_isOutsideOfMaking_11 ?_
  refine go_if_eq_f (pc := 14) (tgt := 28) dX9_isOutsideOfMaking_14 (by decide) (by decide) ?_
  refine go_iload_n (pc := 17) dX9_isOutsideOfMaking_17 rfl rfl ?_
  refine go_sipush (pc := 18) (v := 300) dX9_isOutsideOfMaking_18 (by decide) ?_
  refine go_icmp_le_t (pc := 21) (tgt := 28) dX9_isOutsideOfMaking_21 (by decide) k0 ?_
  refine go_iconst (pc := 28) (v := 0) dX9_isOutsideOfMaking_28 (by decide) ?_
  exact go_zret (pc := 29) rfl rfl dX9_isOutsideOfMaking_29
set_option maxRecDepth 100000 in
set_option maxHeartbeats 4000000 in
theorem cX2_intsFor_7 {l : Launch} {G : gG} (x2 : Int32) : Ct l G mX2_intsFor 0 0 [.int 1, .int x2] 42 90324 (wl G.2.1 (LF G)) (some (.int (2 + x2)), 42, 90324, (wl G.2.1 (LF G))) := by
  refine Ct.of (by decide) (Nat.le_of_ble_eq_true rfl) ⟨Nat.le_refl _, Nat.le_refl _⟩ ?_
  show Go l G mX2_intsFor _ 0 [(0, .int 1), (1, .int x2)] [] 42 90324 (wl G.2.1 (LF G))
  refine go_iload_n (pc := 0) dX2_intsFor_0 rfl rfl ?_
  refine go_tableIn (pc := 1) (off := 35) (tgt := 36) dX2_intsFor_1 (by decide) (by decide) (by decide) (by decide) ?_
  refine go_iconst (pc := 36) (v := 2) dX2_intsFor_36 (by decide) ?_
  refine go_iload_n (pc := 37) dX2_intsFor_37 rfl rfl ?_
  refine go_iadd (pc := 38) dX2_intsFor_38 ?_
  exact go_iret (pc := 39) rfl dX2_intsFor_39
set_option maxRecDepth 100000 in
set_option maxHeartbeats 4000000 in
theorem cX7_reachedInts_1 {l : Launch} {G : gG} : Ct l G mX7_reachedInts 2 42 [.ref (G.2.1 + 23)] 42 90324 (wl G.2.1 (LF G)) (some (.int 0), 42, 90324, (wl G.2.1 (LF G))) := by
  refine Ct.of (by decide) (Nat.le_of_ble_eq_true rfl) ⟨Nat.le_refl _, Nat.le_refl _⟩ ?_
  show Go l G mX7_reachedInts _ 0 [(0, .ref (G.2.1 + 23))] [] 42 90324 (wl G.2.1 (LF G))
  refine go_aload_n (pc := 0) dX7_reachedInts_0 rfl rfl ?_
  refine go_get (pc := 1) fX7_15 rfl (gz_b (by decide)) (wl_at (i := 23) rfl) rfl dX7_reachedInts_1 ?_
  refine go_iconst (pc := 4) (v := 0) dX7_reachedInts_4 (by decide) ?_
  refine go_callS_v (pc := 5) sX7_220 rfl (ct_fill (a := G.2.1 + 25) (N := 500) (f := (fun _ => 0)) 0 (by decide) (gz_b (by decide)) (wl_at (i := 25) rfl)) rfl rfl (Nat.le_of_ble_eq_true rfl) ⟨Nat.le_of_ble_eq_true rfl, Nat.le_of_ble_eq_true rfl, (Nat.le_add_right _ _), (Nat.le_add_right _ _)⟩ dX7_reachedInts_5 ?_
  refine go_ext (wl_up (i := 25) rfl rfl) ?_
  refine go_aload_n (pc := 8) dX7_reachedInts_8 rfl rfl ?_
  refine go_iconst (pc := 9) (v := 0) dX7_reachedInts_9 (by decide) ?_
  refine go_put (pc := 10) fX7_226 rfl (gz_b (by decide)) (wl_at (i := 23) rfl) (Nat.le_of_ble_eq_true rfl) rfl rfl dX7_reachedInts_10 ?_
  refine go_ext (wl_up (i := 23) rfl rfl) ?_
  refine go_iconst (pc := 13) (v := 0) dX7_reachedInts_13 (by decide) ?_
  refine go_istore_n (pc := 14) (lv' := [(1, .int 0), (0, .ref (G.2.1 + 23))]) dX7_reachedInts_14 rfl (by decide) rfl ?_
  refine go_iload_n (pc := 15) dX7_reachedInts_15 rfl rfl ?_
  refine go_bipush (pc := 16) (v := 24) dX7_reachedInts_16 (by decide) ?_
  refine go_icmp_ge_f (pc := 18) (tgt := 40) dX7_reachedInts_18 (by decide) (by decide) ?_
  refine go_aload_n (pc := 21) dX7_reachedInts_21 rfl rfl ?_
  refine go_aload_n (pc := 22) dX7_reachedInts_22 rfl rfl ?_
  refine go_get (pc := 23) fX7_21 rfl (gz_b (by decide)) (wl_at (i := 23) rfl) rfl dX7_reachedInts_23 ?_
  refine go_get (pc := 26) fX7_74 rfl (gz_b (by decide)) (wl_at (i := 1) rfl) rfl dX7_reachedInts_26 ?_
  refine go_iload_n (pc := 29) dX7_reachedInts_29 rfl rfl ?_
  refine go_iald (pc := 30) (gz_b (by decide)) (wl_at (i := 20) rfl) (gv_in (by decide)) dX7_reachedInts_30 ?_
  refine go_top (y := (-1)) rfl ?_
  refine go_callV_v (pc := 31) vX7_229 rfl (ct_reach_n (a := G.2.1 + 23) (a0 := G.2.1 + 1) (a1 := G.2.1 + 2) (a2 := G.2.1 + 6) (a3 := G.2.1 + 22) (a4 := G.2.1 + 24) (a6 := G.2.1 + 25) (a7 := G.2.1 + 26) (g5 := 0) (g8 := 0) (fs := [.int 256, .int 0, .int 0, .int 0, .ref (G.2.1 + 3), .ref (G.2.1 + 4), .ref (G.2.1 + 5)]) (gz_b (by decide)) (gz_b (by decide)) (wl_at (i := 23) rfl) (wl_at (i := 2) rfl)) rfl rfl (gz_b (by decide)) (wl_at (i := 23) rfl) rfl (Nat.le_of_ble_eq_true rfl) ⟨Nat.le_of_ble_eq_true rfl, Nat.le_of_ble_eq_true rfl, (Nat.le_add_right _ _), (Nat.le_add_right _ _)⟩ dX7_reachedInts_31 ?_
  refine go_iinc (pc := 34) (v := 1) (lv' := [(1, .int 1), (0, .ref (G.2.1 + 23))]) dX7_reachedInts_34 0 rfl (by first | rfl | decide) (by decide) rfl ?_
  refine go_goto (pc := 37) (tgt := 15) dX7_reachedInts_37 (by decide) ?_
  refine go_iload_n (pc := 15) dX7_reachedInts_15 rfl rfl ?_
  refine go_bipush (pc := 16) (v := 24) dX7_reachedInts_16 (by decide) ?_
  refine go_icmp_ge_f (pc := 18) (tgt := 40) dX7_reachedInts_18 (by decide) (by decide) ?_
  refine go_aload_n (pc := 21) dX7_reachedInts_21 rfl rfl ?_
  refine go_aload_n (pc := 22) dX7_reachedInts_22 rfl rfl ?_
  refine go_get (pc := 23) fX7_21 rfl (gz_b (by decide)) (wl_at (i := 23) rfl) rfl dX7_reachedInts_23 ?_
  refine go_get (pc := 26) fX7_74 rfl (gz_b (by decide)) (wl_at (i := 1) rfl) rfl dX7_reachedInts_26 ?_
  refine go_iload_n (pc := 29) dX7_reachedInts_29 rfl rfl ?_
  refine go_iald (pc := 30) (gz_b (by decide)) (wl_at (i := 20) rfl) (gv_in (by decide)) dX7_reachedInts_30 ?_
  refine go_top (y := (-1)) rfl ?_
  refine go_callV_v (pc := 31) vX7_229 rfl (ct_reach_n (a := G.2.1 + 23) (a0 := G.2.1 + 1) (a1 := G.2.1 + 2) (a2 := G.2.1 + 6) (a3 := G.2.1 + 22) (a4 := G.2.1 + 24) (a6 := G.2.1 + 25) (a7 := G.2.1 + 26) (g5 := 0) (g8 := 0) (fs := [.int 256, .int 0, .int 0, .int 0, .ref (G.2.1 + 3), .ref (G.2.1 + 4), .ref (G.2.1 + 5)]) (gz_b (by decide)) (gz_b (by decide)) (wl_at (i := 23) rfl) (wl_at (i := 2) rfl)) rfl rfl (gz_b (by decide)) (wl_at (i := 23) rfl) rfl (Nat.le_of_ble_eq_true rfl) ⟨Nat.le_of_ble_eq_true rfl, Nat.le_of_ble_eq_true rfl, (Nat.le_add_right _ _), (Nat.le_add_right _ _)⟩ dX7_reachedInts_31 ?_
  refine go_iinc (pc := 34) (v := 2) (lv' := [(1, .int 2), (0, .ref (G.2.1 + 23))]) dX7_reachedInts_34 0 rfl (by first | rfl | decide) (by decide) rfl ?_
  refine go_goto (pc := 37) (tgt := 15) dX7_reachedInts_37 (by decide) ?_
  refine go_iload_n (pc := 15) dX7_reachedInts_15 rfl rfl ?_
  refine go_bipush (pc := 16) (v := 24) dX7_reachedInts_16 (by decide) ?_
  refine go_icmp_ge_f (pc := 18) (tgt := 40) dX7_reachedInts_18 (by decide) (by decide) ?_
  refine go_aload_n (pc := 21) dX7_reachedInts_21 rfl rfl ?_
  refine go_aload_n (pc := 22) dX7_reachedInts_22 rfl rfl ?_
  refine go_get (pc := 23) fX7_21 rfl (gz_b (by decide)) (wl_at (i := 23) rfl) rfl dX7_reachedInts_23 ?_
  refine go_get (pc := 26) fX7_74 rfl (gz_b (by decide)) (wl_at (i := 1) rfl) rfl dX7_reachedInts_26 ?_
  refine go_iload_n (pc := 29) dX7_reachedInts_29 rfl rfl ?_
  refine go_iald (pc := 30) (gz_b (by decide)) (wl_at (i := 20) rfl) (gv_in (by decide)) dX7_reachedInts_30 ?_
  refine go_top (y := (-1)) rfl ?_
  refine go_callV_v (pc := 31) vX7_229 rfl (ct_reach_n (a := G.2.1 + 23) (a0 := G.2.1 + 1) (a1 := G.2.1 + 2) (a2 := G.2.1 + 6) (a3 := G.2.1 + 22) (a4 := G.2.1 + 24) (a6 := G.2.1 + 25) (a7 := G.2.1 + 26) (g5 := 0) (g8 := 0) (fs := [.int 256, .int 0, .int 0, .int 0, .ref (G.2.1 + 3), .ref (G.2.1 + 4), .ref (G.2.1 + 5)]) (gz_b (by decide)) (gz_b (by decide)) (wl_at (i := 23) rfl) (wl_at (i := 2) rfl)) rfl rfl (gz_b (by decide)) (wl_at (i := 23) rfl) rfl (Nat.le_of_ble_eq_true rfl) ⟨Nat.le_of_ble_eq_true rfl, Nat.le_of_ble_eq_true rfl, (Nat.le_add_right _ _), (Nat.le_add_right _ _)⟩ dX7_reachedInts_31 ?_
  refine go_iinc (pc := 34) (v := 3) (lv' := [(1, .int 3), (0, .ref (G.2.1 + 23))]) dX7_reachedInts_34 0 rfl (by first | rfl | decide) (by decide) rfl ?_
  refine go_goto (pc := 37) (tgt := 15) dX7_reachedInts_37 (by decide) ?_
  refine go_iload_n (pc := 15) dX7_reachedInts_15 rfl rfl ?_
  refine go_bipush (pc := 16) (v := 24) dX7_reachedInts_16 (by decide) ?_
  refine go_icmp_ge_f (pc := 18) (tgt := 40) dX7_reachedInts_18 (by decide) (by decide) ?_
  refine go_aload_n (pc := 21) dX7_reachedInts_21 rfl rfl ?_
  refine go_aload_n (pc := 22) dX7_reachedInts_22 rfl rfl ?_
  refine go_get (pc := 23) fX7_21 rfl (gz_b (by decide)) (wl_at (i := 23) rfl) rfl dX7_reachedInts_23 ?_
  refine go_get (pc := 26) fX7_74 rfl (gz_b (by decide)) (wl_at (i := 1) rfl) rfl dX7_reachedInts_26 ?_
  refine go_iload_n (pc := 29) dX7_reachedInts_29 rfl rfl ?_
  refine go_iald (pc := 30) (gz_b (by decide)) (wl_at (i := 20) rfl) (gv_in (by decide)) dX7_reachedInts_30 ?_
  refine go_top (y := (-1)) rfl ?_
  refine go_callV_v (pc := 31) vX7_229 rfl (ct_reach_n (a := G.2.1 + 23) (a0 := G.2.1 + 1) (a1 := G.2.1 + 2) (a2 := G.2.1 + 6) (a3 := G.2.1 + 22) (a4 := G.2.1 + 24) (a6 := G.2.1 + 25) (a7 := G.2.1 + 26) (g5 := 0) (g8 := 0) (fs := [.int 256, .int 0, .int 0, .int 0, .ref (G.2.1 + 3), .ref (G.2.1 + 4), .ref (G.2.1 + 5)]) (gz_b (by decide)) (gz_b (by decide)) (wl_at (i := 23) rfl) (wl_at (i := 2) rfl)) rfl rfl (gz_b (by decide)) (wl_at (i := 23) rfl) rfl (Nat.le_of_ble_eq_true rfl) ⟨Nat.le_of_ble_eq_true rfl, Nat.le_of_ble_eq_true rfl, (Nat.le_add_right _ _), (Nat.le_add_right _ _)⟩ dX7_reachedInts_31 ?_
  refine go_iinc (pc := 34) (v := 4) (lv' := [(1, .int 4), (0, .ref (G.2.1 + 23))]) dX7_reachedInts_34 0 rfl (by first | rfl | decide) (by decide) rfl ?_
  refine go_goto (pc := 37) (tgt := 15) dX7_reachedInts_37 (by decide) ?_
  refine go_iload_n (pc := 15) dX7_reachedInts_15 rfl rfl ?_
  refine go_bipush (pc := 16) (v := 24) dX7_reachedInts_16 (by decide) ?_
  refine go_icmp_ge_f (pc := 18) (tgt := 40) dX7_reachedInts_18 (by decide) (by decide) ?_
  refine go_aload_n (pc := 21) dX7_reachedInts_21 rfl rfl ?_
  refine go_aload_n (pc := 22) dX7_reachedInts_22 rfl rfl ?_
  refine go_get (pc := 23) fX7_21 rfl (gz_b (by decide)) (wl_at (i := 23) rfl) rfl dX7_reachedInts_23 ?_
  refine go_get (pc := 26) fX7_74 rfl (gz_b (by decide)) (wl_at (i := 1) rfl) rfl dX7_reachedInts_26 ?_
  refine go_iload_n (pc := 29) dX7_reachedInts_29 rfl rfl ?_
  refine go_iald (pc := 30) (gz_b (by decide)) (wl_at (i := 20) rfl) (gv_in (by decide)) dX7_reachedInts_30 ?_
  refine go_top (y := (-1)) rfl ?_
  refine go_callV_v (pc := 31) vX7_229 rfl (ct_reach_n (a := G.2.1 + 23) (a0 := G.2.1 + 1) (a1 := G.2.1 + 2) (a2 := G.2.1 + 6) (a3 := G.2.1 + 22) (a4 := G.2.1 + 24) (a6 := G.2.1 + 25) (a7 := G.2.1 + 26) (g5 := 0) (g8 := 0) (fs := [.int 256, .int 0, .int 0, .int 0, .ref (G.2.1 + 3), .ref (G.2.1 + 4), .ref (G.2.1 + 5)]) (gz_b (by decide)) (gz_b (by decide)) (wl_at (i := 23) rfl) (wl_at (i := 2) rfl)) rfl rfl (gz_b (by decide)) (wl_at (i := 23) rfl) rfl (Nat.le_of_ble_eq_true rfl) ⟨Nat.le_of_ble_eq_true rfl, Nat.le_of_ble_eq_true rfl, (Nat.le_add_right _ _), (Nat.le_add_right _ _)⟩ dX7_reachedInts_31 ?_
  refine go_iinc (pc := 34) (v := 5) (lv' := [(1, .int 5), (0, .ref (G.2.1 + 23))]) dX7_reachedInts_34 0 rfl (by first | rfl | decide) (by decide) rfl ?_
  refine go_goto (pc := 37) (tgt := 15) dX7_reachedInts_37 (by decide) ?_
  refine go_iload_n (pc := 15) dX7_reachedInts_15 rfl rfl ?_
  refine go_bipush (pc := 16) (v := 24) dX7_reachedInts_16 (by decide) ?_
  refine go_icmp_ge_f (pc := 18) (tgt := 40) dX7_reachedInts_18 (by decide) (by decide) ?_
  refine go_aload_n (pc := 21) dX7_reachedInts_21 rfl rfl ?_
  refine go_aload_n (pc := 22) dX7_reachedInts_22 rfl rfl ?_
  refine go_get (pc := 23) fX7_21 rfl (gz_b (by decide)) (wl_at (i := 23) rfl) rfl dX7_reachedInts_23 ?_
  refine go_get (pc := 26) fX7_74 rfl (gz_b (by decide)) (wl_at (i := 1) rfl) rfl dX7_reachedInts_26 ?_
  refine go_iload_n (pc := 29) dX7_reachedInts_29 rfl rfl ?_
  refine go_iald (pc := 30) (gz_b (by decide)) (wl_at (i := 20) rfl) (gv_in (by decide)) dX7_reachedInts_30 ?_
  refine go_top (y := (-1)) rfl ?_
  refine go_callV_v (pc := 31) vX7_229 rfl (ct_reach_n (a := G.2.1 + 23) (a0 := G.2.1 + 1) (a1 := G.2.1 + 2) (a2 := G.2.1 + 6) (a3 := G.2.1 + 22) (a4 := G.2.1 + 24) (a6 := G.2.1 + 25) (a7 := G.2.1 + 26) (g5 := 0) (g8 := 0) (fs := [.int 256, .int 0, .int 0, .int 0, .ref (G.2.1 + 3), .ref (G.2.1 + 4), .ref (G.2.1 + 5)]) (gz_b (by decide)) (gz_b (by decide)) (wl_at (i := 23) rfl) (wl_at (i := 2) rfl)) rfl rfl (gz_b (by decide)) (wl_at (i := 23) rfl) rfl (Nat.le_of_ble_eq_true rfl) ⟨Nat.le_of_ble_eq_true rfl, Nat.le_of_ble_eq_true rfl, (Nat.le_add_right _ _), (Nat.le_add_right _ _)⟩ dX7_reachedInts_31 ?_
  refine go_iinc (pc := 34) (v := 6) (lv' := [(1, .int 6), (0, .ref (G.2.1 + 23))]) dX7_reachedInts_34 0 rfl (by first | rfl | decide) (by decide) rfl ?_
  refine go_goto (pc := 37) (tgt := 15) dX7_reachedInts_37 (by decide) ?_
  refine go_iload_n (pc := 15) dX7_reachedInts_15 rfl rfl ?_
  refine go_bipush (pc := 16) (v := 24) dX7_reachedInts_16 (by decide) ?_
  refine go_icmp_ge_f (pc := 18) (tgt := 40) dX7_reachedInts_18 (by decide) (by decide) ?_
  refine go_aload_n (pc := 21) dX7_reachedInts_21 rfl rfl ?_
  refine go_aload_n (pc := 22) dX7_reachedInts_22 rfl rfl ?_
  refine go_get (pc := 23) fX7_21 rfl (gz_b (by decide)) (wl_at (i := 23) rfl) rfl dX7_reachedInts_23 ?_
  refine go_get (pc := 26) fX7_74 rfl (gz_b (by decide)) (wl_at (i := 1) rfl) rfl dX7_reachedInts_26 ?_
  refine go_iload_n (pc := 29) dX7_reachedInts_29 rfl rfl ?_
  refine go_iald (pc := 30) (gz_b (by decide)) (wl_at (i := 20) rfl) (gv_in (by decide)) dX7_reachedInts_30 ?_
  refine go_top (y := (-1)) rfl ?_
  refine go_callV_v (pc := 31) vX7_229 rfl (ct_reach_n (a := G.2.1 + 23) (a0 := G.2.1 + 1) (a1 := G.2.1 + 2) (a2 := G.2.1 + 6) (a3 := G.2.1 + 22) (a4 := G.2.1 + 24) (a6 := G.2.1 + 25) (a7 := G.2.1 + 26) (g5 := 0) (g8 := 0) (fs := [.int 256, .int 0, .int 0, .int 0, .ref (G.2.1 + 3), .ref (G.2.1 + 4), .ref (G.2.1 + 5)]) (gz_b (by decide)) (gz_b (by decide)) (wl_at (i := 23) rfl) (wl_at (i := 2) rfl)) rfl rfl (gz_b (by decide)) (wl_at (i := 23) rfl) rfl (Nat.le_of_ble_eq_true rfl) ⟨Nat.le_of_ble_eq_true rfl, Nat.le_of_ble_eq_true rfl, (Nat.le_add_right _ _), (Nat.le_add_right _ _)⟩ dX7_reachedInts_31 ?_
  refine go_iinc (pc := 34) (v := 7) (lv' := [(1, .int 7), (0, .ref (G.2.1 + 23))]) dX7_reachedInts_34 0 rfl (by first | rfl | decide) (by decide) rfl ?_
  refine go_goto (pc := 37) (tgt := 15) dX7_reachedInts_37 (by decide) ?_
  refine go_iload_n (pc := 15) dX7_reachedInts_15 rfl rfl ?_
  refine go_bipush (pc := 16) (v := 24) dX7_reachedInts_16 (by decide) ?_
  refine go_icmp_ge_f (pc := 18) (tgt := 40) dX7_reachedInts_18 (by decide) (by decide) ?_
  refine go_aload_n (pc := 21) dX7_reachedInts_21 rfl rfl ?_
  refine go_aload_n (pc := 22) dX7_reachedInts_22 rfl rfl ?_
  refine go_get (pc := 23) fX7_21 rfl (gz_b (by decide)) (wl_at (i := 23) rfl) rfl dX7_reachedInts_23 ?_
  refine go_get (pc := 26) fX7_74 rfl (gz_b (by decide)) (wl_at (i := 1) rfl) rfl dX7_reachedInts_26 ?_
  refine go_iload_n (pc := 29) dX7_reachedInts_29 rfl rfl ?_
  refine go_iald (pc := 30) (gz_b (by decide)) (wl_at (i := 20) rfl) (gv_in (by decide)) dX7_reachedInts_30 ?_
  refine go_top (y := (-1)) rfl ?_
  refine go_callV_v (pc := 31) vX7_229 rfl (ct_reach_n (a := G.2.1 + 23) (a0 := G.2.1 + 1) (a1 := G.2.1 + 2) (a2 := G.2.1 + 6) (a3 := G.2.1 + 22) (a4 := G.2.1 + 24) (a6 := G.2.1 + 25) (a7 := G.2.1 + 26) (g5 := 0) (g8 := 0) (fs := [.int 256, .int 0, .int 0, .int 0, .ref (G.2.1 + 3), .ref (G.2.1 + 4), .ref (G.2.1 + 5)]) (gz_b (by decide)) (gz_b (by decide)) (wl_at (i := 23) rfl) (wl_at (i := 2) rfl)) rfl rfl (gz_b (by decide)) (wl_at (i := 23) rfl) rfl (Nat.le_of_ble_eq_true rfl) ⟨Nat.le_of_ble_eq_true rfl, Nat.le_of_ble_eq_true rfl, (Nat.le_add_right _ _), (Nat.le_add_right _ _)⟩ dX7_reachedInts_31 ?_
  refine go_iinc (pc := 34) (v := 8) (lv' := [(1, .int 8), (0, .ref (G.2.1 + 23))]) dX7_reachedInts_34 0 rfl (by first | rfl | decide) (by decide) rfl ?_
  refine go_goto (pc := 37) (tgt := 15) dX7_reachedInts_37 (by decide) ?_
  refine go_iload_n (pc := 15) dX7_reachedInts_15 rfl rfl ?_
  refine go_bipush (pc := 16) (v := 24) dX7_reachedInts_16 (by decide) ?_
  refine go_icmp_ge_f (pc := 18) (tgt := 40) dX7_reachedInts_18 (by decide) (by decide) ?_
  refine go_aload_n (pc := 21) dX7_reachedInts_21 rfl rfl ?_
  refine go_aload_n (pc := 22) dX7_reachedInts_22 rfl rfl ?_
  refine go_get (pc := 23) fX7_21 rfl (gz_b (by decide)) (wl_at (i := 23) rfl) rfl dX7_reachedInts_23 ?_
  refine go_get (pc := 26) fX7_74 rfl (gz_b (by decide)) (wl_at (i := 1) rfl) rfl dX7_reachedInts_26 ?_
  refine go_iload_n (pc := 29) dX7_reachedInts_29 rfl rfl ?_
  refine go_iald (pc := 30) (gz_b (by decide)) (wl_at (i := 20) rfl) (gv_in (by decide)) dX7_reachedInts_30 ?_
  refine go_top (y := (-1)) rfl ?_
  refine go_callV_v (pc := 31) vX7_229 rfl (ct_reach_n (a := G.2.1 + 23) (a0 := G.2.1 + 1) (a1 := G.2.1 + 2) (a2 := G.2.1 + 6) (a3 := G.2.1 + 22) (a4 := G.2.1 + 24) (a6 := G.2.1 + 25) (a7 := G.2.1 + 26) (g5 := 0) (g8 := 0) (fs := [.int 256, .int 0, .int 0, .int 0, .ref (G.2.1 + 3), .ref (G.2.1 + 4), .ref (G.2.1 + 5)]) (gz_b (by decide)) (gz_b (by decide)) (wl_at (i := 23) rfl) (wl_at (i := 2) rfl)) rfl rfl (gz_b (by decide)) (wl_at (i := 23) rfl) rfl (Nat.le_of_ble_eq_true rfl) ⟨Nat.le_of_ble_eq_true rfl, Nat.le_of_ble_eq_true rfl, (Nat.le_add_right _ _), (Nat.le_add_right _ _)⟩ dX7_reachedInts_31 ?_
  refine go_iinc (pc := 34) (v := 9) (lv' := [(1, .int 9), (0, .ref (G.2.1 + 23))]) dX7_reachedInts_34 0 rfl (by first | rfl | decide) (by decide) rfl ?_
  refine go_goto (pc := 37) (tgt := 15) dX7_reachedInts_37 (by decide) ?_
  refine go_iload_n (pc := 15) dX7_reachedInts_15 rfl rfl ?_
  refine go_bipush (pc := 16) (v := 24) dX7_reachedInts_16 (by decide) ?_
  refine go_icmp_ge_f (pc := 18) (tgt := 40) dX7_reachedInts_18 (by decide) (by decide) ?_
  refine go_aload_n (pc := 21) dX7_reachedInts_21 rfl rfl ?_
  refine go_aload_n (pc := 22) dX7_reachedInts_22 rfl rfl ?_
  refine go_get (pc := 23) fX7_21 rfl (gz_b (by decide)) (wl_at (i := 23) rfl) rfl dX7_reachedInts_23 ?_
  refine go_get (pc := 26) fX7_74 rfl (gz_b (by decide)) (wl_at (i := 1) rfl) rfl dX7_reachedInts_26 ?_
  refine go_iload_n (pc := 29) dX7_reachedInts_29 rfl rfl ?_
  refine go_iald (pc := 30) (gz_b (by decide)) (wl_at (i := 20) rfl) (gv_in (by decide)) dX7_reachedInts_30 ?_
  refine go_top (y := (-1)) rfl ?_
  refine go_callV_v (pc := 31) vX7_229 rfl (ct_reach_n (a := G.2.1 + 23) (a0 := G.2.1 + 1) (a1 := G.2.1 + 2) (a2 := G.2.1 + 6) (a3 := G.2.1 + 22) (a4 := G.2.1 + 24) (a6 := G.2.1 + 25) (a7 := G.2.1 + 26) (g5 := 0) (g8 := 0) (fs := [.int 256, .int 0, .int 0, .int 0, .ref (G.2.1 + 3), .ref (G.2.1 + 4), .ref (G.2.1 + 5)]) (gz_b (by decide)) (gz_b (by decide)) (wl_at (i := 23) rfl) (wl_at (i := 2) rfl)) rfl rfl (gz_b (by decide)) (wl_at (i := 23) rfl) rfl (Nat.le_of_ble_eq_true rfl) ⟨Nat.le_of_ble_eq_true rfl, Nat.le_of_ble_eq_true rfl, (Nat.le_add_right _ _), (Nat.le_add_right _ _)⟩ dX7_reachedInts_31 ?_
  refine go_iinc (pc := 34) (v := 10) (lv' := [(1, .int 10), (0, .ref (G.2.1 + 23))]) dX7_reachedInts_34 0 rfl (by first | rfl | decide) (by decide) rfl ?_
  refine go_goto (pc := 37) (tgt := 15) dX7_reachedInts_37 (by decide) ?_
  refine go_iload_n (pc := 15) dX7_reachedInts_15 rfl rfl ?_
  refine go_bipush (pc := 16) (v := 24) dX7_reachedInts_16 (by decide) ?_
  refine go_icmp_ge_f (pc := 18) (tgt := 40) dX7_reachedInts_18 (by decide) (by decide) ?_
  refine go_aload_n (pc := 21) dX7_reachedInts_21 rfl rfl ?_
  refine go_aload_n (pc := 22) dX7_reachedInts_22 rfl rfl ?_
  refine go_get (pc := 23) fX7_21 rfl (gz_b (by decide)) (wl_at (i := 23) rfl) rfl dX7_reachedInts_23 ?_
  refine go_get (pc := 26) fX7_74 rfl (gz_b (by decide)) (wl_at (i := 1) rfl) rfl dX7_reachedInts_26 ?_
  refine go_iload_n (pc := 29) dX7_reachedInts_29 rfl rfl ?_
  refine go_iald (pc := 30) (gz_b (by decide)) (wl_at (i := 20) rfl) (gv_in (by decide)) dX7_reachedInts_30 ?_
  refine go_top (y := (-1)) rfl ?_
  refine go_callV_v (pc := 31) vX7_229 rfl (ct_reach_n (a := G.2.1 + 23) (a0 := G.2.1 + 1) (a1 := G.2.1 + 2) (a2 := G.2.1 + 6) (a3 := G.2.1 + 22) (a4 := G.2.1 + 24) (a6 := G.2.1 + 25) (a7 := G.2.1 + 26) (g5 := 0) (g8 := 0) (fs := [.int 256, .int 0, .int 0, .int 0, .ref (G.2.1 + 3), .ref (G.2.1 + 4), .ref (G.2.1 + 5)]) (gz_b (by decide)) (gz_b (by decide)) (wl_at (i := 23) rfl) (wl_at (i := 2) rfl)) rfl rfl (gz_b (by decide)) (wl_at (i := 23) rfl) rfl (Nat.le_of_ble_eq_true rfl) ⟨Nat.le_of_ble_eq_true rfl, Nat.le_of_ble_eq_true rfl, (Nat.le_add_right _ _), (Nat.le_add_right _ _)⟩ dX7_reachedInts_31 ?_
  refine go_iinc (pc := 34) (v := 11) (lv' := [(1, .int 11), (0, .ref (G.2.1 + 23))]) dX7_reachedInts_34 0 rfl (by first | rfl | decide) (by decide) rfl ?_
  refine go_goto (pc := 37) (tgt := 15) dX7_reachedInts_37 (by decide) ?_
  refine go_iload_n (pc := 15) dX7_reachedInts_15 rfl rfl ?_
  refine go_bipush (pc := 16) (v := 24) dX7_reachedInts_16 (by decide) ?_
  refine go_icmp_ge_f (pc := 18) (tgt := 40) dX7_reachedInts_18 (by decide) (by decide) ?_
  refine go_aload_n (pc := 21) dX7_reachedInts_21 rfl rfl ?_
  refine go_aload_n (pc := 22) dX7_reachedInts_22 rfl rfl ?_
  refine go_get (pc := 23) fX7_21 rfl (gz_b (by decide)) (wl_at (i := 23) rfl) rfl dX7_reachedInts_23 ?_
  refine go_get (pc := 26) fX7_74 rfl (gz_b (by decide)) (wl_at (i := 1) rfl) rfl dX7_reachedInts_26 ?_
  refine go_iload_n (pc := 29) dX7_reachedInts_29 rfl rfl ?_
  refine go_iald (pc := 30) (gz_b (by decide)) (wl_at (i := 20) rfl) (gv_in (by decide)) dX7_reachedInts_30 ?_
  refine go_top (y := (-1)) rfl ?_
  refine go_callV_v (pc := 31) vX7_229 rfl (ct_reach_n (a := G.2.1 + 23) (a0 := G.2.1 + 1) (a1 := G.2.1 + 2) (a2 := G.2.1 + 6) (a3 := G.2.1 + 22) (a4 := G.2.1 + 24) (a6 := G.2.1 + 25) (a7 := G.2.1 + 26) (g5 := 0) (g8 := 0) (fs := [.int 256, .int 0, .int 0, .int 0, .ref (G.2.1 + 3), .ref (G.2.1 + 4), .ref (G.2.1 + 5)]) (gz_b (by decide)) (gz_b (by decide)) (wl_at (i := 23) rfl) (wl_at (i := 2) rfl)) rfl rfl (gz_b (by decide)) (wl_at (i := 23) rfl) rfl (Nat.le_of_ble_eq_true rfl) ⟨Nat.le_of_ble_eq_true rfl, Nat.le_of_ble_eq_true rfl, (Nat.le_add_right _ _), (Nat.le_add_right _ _)⟩ dX7_reachedInts_31 ?_
  refine go_iinc (pc := 34) (v := 12) (lv' := [(1, .int 12), (0, .ref (G.2.1 + 23))]) dX7_reachedInts_34 0 rfl (by first | rfl | decide) (by decide) rfl ?_
  refine go_goto (pc := 37) (tgt := 15) dX7_reachedInts_37 (by decide) ?_
  refine go_iload_n (pc := 15) dX7_reachedInts_15 rfl rfl ?_
  refine go_bipush (pc := 16) (v := 24) dX7_reachedInts_16 (by decide) ?_
  refine go_icmp_ge_f (pc := 18) (tgt := 40) dX7_reachedInts_18 (by decide) (by decide) ?_
  refine go_aload_n (pc := 21) dX7_reachedInts_21 rfl rfl ?_
  refine go_aload_n (pc := 22) dX7_reachedInts_22 rfl rfl ?_
  refine go_get (pc := 23) fX7_21 rfl (gz_b (by decide)) (wl_at (i := 23) rfl) rfl dX7_reachedInts_23 ?_
  refine go_get (pc := 26) fX7_74 rfl (gz_b (by decide)) (wl_at (i := 1) rfl) rfl dX7_reachedInts_26 ?_
  refine go_iload_n (pc := 29) dX7_reachedInts_29 rfl rfl ?_
  refine go_iald (pc := 30) (gz_b (by decide)) (wl_at (i := 20) rfl) (gv_in (by decide)) dX7_reachedInts_30 ?_
  refine go_top (y := (-1)) rfl ?_
  refine go_callV_v (pc := 31) vX7_229 rfl (ct_reach_n (a := G.2.1 + 23) (a0 := G.2.1 + 1) (a1 := G.2.1 + 2) (a2 := G.2.1 + 6) (a3 := G.2.1 + 22) (a4 := G.2.1 + 24) (a6 := G.2.1 + 25) (a7 := G.2.1 + 26) (g5 := 0) (g8 := 0) (fs := [.int 256, .int 0, .int 0, .int 0, .ref (G.2.1 + 3), .ref (G.2.1 + 4), .ref (G.2.1 + 5)]) (gz_b (by decide)) (gz_b (by decide)) (wl_at (i := 23) rfl) (wl_at (i := 2) rfl)) rfl rfl (gz_b (by decide)) (wl_at (i := 23) rfl) rfl (Nat.le_of_ble_eq_true rfl) ⟨Nat.le_of_ble_eq_true rfl, Nat.le_of_ble_eq_true rfl, (Nat.le_add_right _ _), (Nat.le_add_right _ _)⟩ dX7_reachedInts_31 ?_
  refine go_iinc (pc := 34) (v := 13) (lv' := [(1, .int 13), (0, .ref (G.2.1 + 23))]) dX7_reachedInts_34 0 rfl (by first | rfl | decide) (by decide) rfl ?_
  refine go_goto (pc := 37) (tgt := 15) dX7_reachedInts_37 (by decide) ?_
  refine go_iload_n (pc := 15) dX7_reachedInts_15 rfl rfl ?_
  refine go_bipush (pc := 16) (v := 24) dX7_reachedInts_16 (by decide) ?_
  refine go_icmp_ge_f (pc := 18) (tgt := 40) dX7_reachedInts_18 (by decide) (by decide) ?_
  refine go_aload_n (pc := 21) dX7_reachedInts_21 rfl rfl ?_
  refine go_aload_n (pc := 22) dX7_reachedInts_22 rfl rfl ?_
  refine go_get (pc := 23) fX7_21 rfl (gz_b (by decide)) (wl_at (i := 23) rfl) rfl dX7_reachedInts_23 ?_
  refine go_get (pc := 26) fX7_74 rfl (gz_b (by decide)) (wl_at (i := 1) rfl) rfl dX7_reachedInts_26 ?_
  refine go_iload_n (pc := 29) dX7_reachedInts_29 rfl rfl ?_
  refine go_iald (pc := 30) (gz_b (by decide)) (wl_at (i := 20) rfl) (gv_in (by decide)) dX7_reachedInts_30 ?_
  refine go_top (y := (-1)) rfl ?_
  refine go_callV_v (pc := 31) vX7_229 rfl (ct_reach_n (a := G.2.1 + 23) (a0 := G.2.1 + 1) (a1 := G.2.1 + 2) (a2 := G.2.1 + 6) (a3 := G.2.1 + 22) (a4 := G.2.1 + 24) (a6 := G.2.1 + 25) (a7 := G.2.1 + 26) (g5 := 0) (g8 := 0) (fs := [.int 256, .int 0, .int 0, .int 0, .ref (G.2.1 + 3), .ref (G.2.1 + 4), .ref (G.2.1 + 5)]) (gz_b (by decide)) (gz_b (by decide)) (wl_at (i := 23) rfl) (wl_at (i := 2) rfl)) rfl rfl (gz_b (by decide)) (wl_at (i := 23) rfl) rfl (Nat.le_of_ble_eq_true rfl) ⟨Nat.le_of_ble_eq_true rfl, Nat.le_of_ble_eq_true rfl, (Nat.le_add_right _ _), (Nat.le_add_right _ _)⟩ dX7_reachedInts_31 ?_
  refine go_iinc (pc := 34) (v := 14) (lv' := [(1, .int 14), (0, .ref (G.2.1 + 23))]) dX7_reachedInts_34 0 rfl (by first | rfl | decide) (by decide) rfl ?_
  refine go_goto (pc := 37) (tgt := 15) dX7_reachedInts_37 (by decide) ?_
  refine go_iload_n (pc := 15) dX7_reachedInts_15 rfl rfl ?_
  refine go_bipush (pc := 16) (v := 24) dX7_reachedInts_16 (by decide) ?_
  refine go_icmp_ge_f (pc := 18) (tgt := 40) dX7_reachedInts_18 (by decide) (by decide) ?_
  refine go_aload_n (pc := 21) dX7_reachedInts_21 rfl rfl ?_
  refine go_aload_n (pc := 22) dX7_reachedInts_22 rfl rfl ?_
  refine go_get (pc := 23) fX7_21 rfl (gz_b (by decide)) (wl_at (i := 23) rfl) rfl dX7_reachedInts_23 ?_
  refine go_get (pc := 26) fX7_74 rfl (gz_b (by decide)) (wl_at (i := 1) rfl) rfl dX7_reachedInts_26 ?_
  refine go_iload_n (pc := 29) dX7_reachedInts_29 rfl rfl ?_
  refine go_iald (pc := 30) (gz_b (by decide)) (wl_at (i := 20) rfl) (gv_in (by decide)) dX7_reachedInts_30 ?_
  refine go_top (y := (-1)) rfl ?_
  refine go_callV_v (pc := 31) vX7_229 rfl (ct_reach_n (a := G.2.1 + 23) (a0 := G.2.1 + 1) (a1 := G.2.1 + 2) (a2 := G.2.1 + 6) (a3 := G.2.1 + 22) (a4 := G.2.1 + 24) (a6 := G.2.1 + 25) (a7 := G.2.1 + 26) (g5 := 0) (g8 := 0) (fs := [.int 256, .int 0, .int 0, .int 0, .ref (G.2.1 + 3), .ref (G.2.1 + 4), .ref (G.2.1 + 5)]) (gz_b (by decide)) (gz_b (by decide)) (wl_at (i := 23) rfl) (wl_at (i := 2) rfl)) rfl rfl (gz_b (by decide)) (wl_at (i := 23) rfl) rfl (Nat.le_of_ble_eq_true rfl) ⟨Nat.le_of_ble_eq_true rfl, Nat.le_of_ble_eq_true rfl, (Nat.le_add_right _ _), (Nat.le_add_right _ _)⟩ dX7_reachedInts_31 ?_
  refine go_iinc (pc := 34) (v := 15) (lv' := [(1, .int 15), (0, .ref (G.2.1 + 23))]) dX7_reachedInts_34 0 rfl (by first | rfl | decide) (by decide) rfl ?_
  refine go_goto (pc := 37) (tgt := 15) dX7_reachedInts_37 (by decide) ?_
  refine go_iload_n (pc := 15) dX7_reachedInts_15 rfl rfl ?_
  refine go_bipush (pc := 16) (v := 24) dX7_reachedInts_16 (by decide) ?_
  refine go_icmp_ge_f (pc := 18) (tgt := 40) dX7_reachedInts_18 (by decide) (by decide) ?_
  refine go_aload_n (pc := 21) dX7_reachedInts_21 rfl rfl ?_
  refine go_aload_n (pc := 22) dX7_reachedInts_22 rfl rfl ?_
  refine go_get (pc := 23) fX7_21 rfl (gz_b (by decide)) (wl_at (i := 23) rfl) rfl dX7_reachedInts_23 ?_
  refine go_get (pc := 26) fX7_74 rfl (gz_b (by decide)) (wl_at (i := 1) rfl) rfl dX7_reachedInts_26 ?_
  refine go_iload_n (pc := 29) dX7_reachedInts_29 rfl rfl ?_
  refine go_iald (pc := 30) (gz_b (by decide)) (wl_at (i := 20) rfl) (gv_in (by decide)) dX7_reachedInts_30 ?_
  refine go_top (y := (-1)) rfl ?_
  refine go_callV_v (pc := 31) vX7_229 rfl (ct_reach_n (a := G.2.1 + 23) (a0 := G.2.1 + 1) (a1 := G.2.1 + 2) (a2 := G.2.1 + 6) (a3 := G.2.1 + 22) (a4 := G.2.1 + 24) (a6 := G.2.1 + 25) (a7 := G.2.1 + 26) (g5 := 0) (g8 := 0) (fs := [.int 256, .int 0, .int 0, .int 0, .ref (G.2.1 + 3), .ref (G.2.1 + 4), .ref (G.2.1 + 5)]) (gz_b (by decide)) (gz_b (by decide)) (wl_at (i := 23) rfl) (wl_at (i := 2) rfl)) rfl rfl (gz_b (by decide)) (wl_at (i := 23) rfl) rfl (Nat.le_of_ble_eq_true rfl) ⟨Nat.le_of_ble_eq_true rfl, Nat.le_of_ble_eq_true rfl, (Nat.le_add_right _ _), (Nat.le_add_right _ _)⟩ dX7_reachedInts_31 ?_
  refine go_iinc (pc := 34) (v := 16) (lv' := [(1, .int 16), (0, .ref (G.2.1 + 23))]) dX7_reachedInts_34 0 rfl (by first | rfl | decide) (by decide) rfl ?_
  refine go_goto (pc := 37) (tgt := 15) dX7_reachedInts_37 (by decide) ?_
  refine go_iload_n (pc := 15) dX7_reachedInts_15 rfl rfl ?_
  refine go_bipush (pc := 16) (v := 24) dX7_reachedInts_16 (by decide) ?_
  refine go_icmp_ge_f (pc := 18) (tgt := 40) dX7_reachedInts_18 (by decide) (by decide) ?_
  refine go_aload_n (pc := 21) dX7_reachedInts_21 rfl rfl ?_
  refine go_aload_n (pc := 22) dX7_reachedInts_22 rfl rfl ?_
  refine go_get (pc := 23) fX7_21 rfl (gz_b (by decide)) (wl_at (i := 23) rfl) rfl dX7_reachedInts_23 ?_
  refine go_get (pc := 26) fX7_74 rfl (gz_b (by decide)) (wl_at (i := 1) rfl) rfl dX7_reachedInts_26 ?_
  refine go_iload_n (pc := 29) dX7_reachedInts_29 rfl rfl ?_
  refine go_iald (pc := 30) (gz_b (by decide)) (wl_at (i := 20) rfl) (gv_in (by decide)) dX7_reachedInts_30 ?_
  refine go_top (y := (-1)) rfl ?_
  refine go_callV_v (pc := 31) vX7_229 rfl (ct_reach_n (a := G.2.1 + 23) (a0 := G.2.1 + 1) (a1 := G.2.1 + 2) (a2 := G.2.1 + 6) (a3 := G.2.1 + 22) (a4 := G.2.1 + 24) (a6 := G.2.1 + 25) (a7 := G.2.1 + 26) (g5 := 0) (g8 := 0) (fs := [.int 256, .int 0, .int 0, .int 0, .ref (G.2.1 + 3), .ref (G.2.1 + 4), .ref (G.2.1 + 5)]) (gz_b (by decide)) (gz_b (by decide)) (wl_at (i := 23) rfl) (wl_at (i := 2) rfl)) rfl rfl (gz_b (by decide)) (wl_at (i := 23) rfl) rfl (Nat.le_of_ble_eq_true rfl) ⟨Nat.le_of_ble_eq_true rfl, Nat.le_of_ble_eq_true rfl, (Nat.le_add_right _ _), (Nat.le_add_right _ _)⟩ dX7_reachedInts_31 ?_
  refine go_iinc (pc := 34) (v := 17) (lv' := [(1, .int 17), (0, .ref (G.2.1 + 23))]) dX7_reachedInts_34 0 rfl (by first | rfl | decide) (by decide) rfl ?_
  refine go_goto (pc := 37) (tgt := 15) dX7_reachedInts_37 (by decide) ?_
  refine go_iload_n (pc := 15) dX7_reachedInts_15 rfl rfl ?_
  refine go_bipush (pc := 16) (v := 24) dX7_reachedInts_16 (by decide) ?_
  refine go_icmp_ge_f (pc := 18) (tgt := 40) dX7_reachedInts_18 (by decide) (by decide) ?_
  refine go_aload_n (pc := 21) dX7_reachedInts_21 rfl rfl ?_
  refine go_aload_n (pc := 22) dX7_reachedInts_22 rfl rfl ?_
  refine go_get (pc := 23) fX7_21 rfl (gz_b (by decide)) (wl_at (i := 23) rfl) rfl dX7_reachedInts_23 ?_
  refine go_get (pc := 26) fX7_74 rfl (gz_b (by decide)) (wl_at (i := 1) rfl) rfl dX7_reachedInts_26 ?_
  refine go_iload_n (pc := 29) dX7_reachedInts_29 rfl rfl ?_
  refine go_iald (pc := 30) (gz_b (by decide)) (wl_at (i := 20) rfl) (gv_in (by decide)) dX7_reachedInts_30 ?_
  refine go_top (y := (-1)) rfl ?_
  refine go_callV_v (pc := 31) vX7_229 rfl (ct_reach_n (a := G.2.1 + 23) (a0 := G.2.1 + 1) (a1 := G.2.1 + 2) (a2 := G.2.1 + 6) (a3 := G.2.1 + 22) (a4 := G.2.1 + 24) (a6 := G.2.1 + 25) (a7 := G.2.1 + 26) (g5 := 0) (g8 := 0) (fs := [.int 256, .int 0, .int 0, .int 0, .ref (G.2.1 + 3), .ref (G.2.1 + 4), .ref (G.2.1 + 5)]) (gz_b (by decide)) (gz_b (by decide)) (wl_at (i := 23) rfl) (wl_at (i := 2) rfl)) rfl rfl (gz_b (by decide)) (wl_at (i := 23) rfl) rfl (Nat.le_of_ble_eq_true rfl) ⟨Nat.le_of_ble_eq_true rfl, Nat.le_of_ble_eq_true rfl, (Nat.le_add_right _ _), (Nat.le_add_right _ _)⟩ dX7_reachedInts_31 ?_
  refine go_iinc (pc := 34) (v := 18) (lv' := [(1, .int 18), (0, .ref (G.2.1 + 23))]) dX7_reachedInts_34 0 rfl (by first | rfl | decide) (by decide) rfl ?_
  refine go_goto (pc := 37) (tgt := 15) dX7_reachedInts_37 (by decide) ?_
  refine go_iload_n (pc := 15) dX7_reachedInts_15 rfl rfl ?_
  refine go_bipush (pc := 16) (v := 24) dX7_reachedInts_16 (by decide) ?_
  refine go_icmp_ge_f (pc := 18) (tgt := 40) dX7_reachedInts_18 (by decide) (by decide) ?_
  refine go_aload_n (pc := 21) dX7_reachedInts_21 rfl rfl ?_
  refine go_aload_n (pc := 22) dX7_reachedInts_22 rfl rfl ?_
  refine go_get (pc := 23) fX7_21 rfl (gz_b (by decide)) (wl_at (i := 23) rfl) rfl dX7_reachedInts_23 ?_
  refine go_get (pc := 26) fX7_74 rfl (gz_b (by decide)) (wl_at (i := 1) rfl) rfl dX7_reachedInts_26 ?_
  refine go_iload_n (pc := 29) dX7_reachedInts_29 rfl rfl ?_
  refine go_iald (pc := 30) (gz_b (by decide)) (wl_at (i := 20) rfl) (gv_in (by decide)) dX7_reachedInts_30 ?_
  refine go_top (y := (-1)) rfl ?_
  refine go_callV_v (pc := 31) vX7_229 rfl (ct_reach_n (a := G.2.1 + 23) (a0 := G.2.1 + 1) (a1 := G.2.1 + 2) (a2 := G.2.1 + 6) (a3 := G.2.1 + 22) (a4 := G.2.1 + 24) (a6 := G.2.1 + 25) (a7 := G.2.1 + 26) (g5 := 0) (g8 := 0) (fs := [.int 256, .int 0, .int 0, .int 0, .ref (G.2.1 + 3), .ref (G.2.1 + 4), .ref (G.2.1 + 5)]) (gz_b (by decide)) (gz_b (by decide)) (wl_at (i := 23) rfl) (wl_at (i := 2) rfl)) rfl rfl (gz_b (by decide)) (wl_at (i := 23) rfl) rfl (Nat.le_of_ble_eq_true rfl) ⟨Nat.le_of_ble_eq_true rfl, Nat.le_of_ble_eq_true rfl, (Nat.le_add_right _ _), (Nat.le_add_right _ _)⟩ dX7_reachedInts_31 ?_
  refine go_iinc (pc := 34) (v := 19) (lv' := [(1, .int 19), (0, .ref (G.2.1 + 23))]) dX7_reachedInts_34 0 rfl (by first | rfl | decide) (by decide) rfl ?_
  refine go_goto (pc := 37) (tgt := 15) dX7_reachedInts_37 (by decide) ?_
  refine go_iload_n (pc := 15) dX7_reachedInts_15 rfl rfl ?_
  refine go_bipush (pc := 16) (v := 24) dX7_reachedInts_16 (by decide) ?_
  refine go_icmp_ge_f (pc := 18) (tgt := 40) dX7_reachedInts_18 (by decide) (by decide) ?_
  refine go_aload_n (pc := 21) dX7_reachedInts_21 rfl rfl ?_
  refine go_aload_n (pc := 22) dX7_reachedInts_22 rfl rfl ?_
  refine go_get (pc := 23) fX7_21 rfl (gz_b (by decide)) (wl_at (i := 23) rfl) rfl dX7_reachedInts_23 ?_
  refine go_get (pc := 26) fX7_74 rfl (gz_b (by decide)) (wl_at (i := 1) rfl) rfl dX7_reachedInts_26 ?_
  refine go_iload_n (pc := 29) dX7_reachedInts_29 rfl rfl ?_
  refine go_iald (pc := 30) (gz_b (by decide)) (wl_at (i := 20) rfl) (gv_in (by decide)) dX7_reachedInts_30 ?_
  refine go_top (y := (-1)) rfl ?_
  refine go_callV_v (pc := 31) vX7_229 rfl (ct_reach_n (a := G.2.1 + 23) (a0 := G.2.1 + 1) (a1 := G.2.1 + 2) (a2 := G.2.1 + 6) (a3 := G.2.1 + 22) (a4 := G.2.1 + 24) (a6 := G.2.1 + 25) (a7 := G.2.1 + 26) (g5 := 0) (g8 := 0) (fs := [.int 256, .int 0, .int 0, .int 0, .ref (G.2.1 + 3), .ref (G.2.1 + 4), .ref (G.2.1 + 5)]) (gz_b (by decide)) (gz_b (by decide)) (wl_at (i := 23) rfl) (wl_at (i := 2) rfl)) rfl rfl (gz_b (by decide)) (wl_at (i := 23) rfl) rfl (Nat.le_of_ble_eq_true rfl) ⟨Nat.le_of_ble_eq_true rfl, Nat.le_of_ble_eq_true rfl, (Nat.le_add_right _ _), (Nat.le_add_right _ _)⟩ dX7_reachedInts_31 ?_
  refine go_iinc (pc := 34) (v := 20) (lv' := [(1, .int 20), (0, .ref (G.2.1 + 23))]) dX7_reachedInts_34 0 rfl (by first | rfl | decide) (by decide) rfl ?_
  refine go_goto (pc := 37) (tgt := 15) dX7_reachedInts_37 (by decide) ?_
  refine go_iload_n (pc := 15) dX7_reachedInts_15 rfl rfl ?_
  refine go_bipush (pc := 16) (v := 24) dX7_reachedInts_16 (by decide) ?_
  refine go_icmp_ge_f (pc := 18) (tgt := 40) dX7_reachedInts_18 (by decide) (by decide) ?_
  refine go_aload_n (pc := 21) dX7_reachedInts_21 rfl rfl ?_
  refine go_aload_n (pc := 22) dX7_reachedInts_22 rfl rfl ?_
  refine go_get (pc := 23) fX7_21 rfl (gz_b (by decide)) (wl_at (i := 23) rfl) rfl dX7_reachedInts_23 ?_
  refine go_get (pc := 26) fX7_74 rfl (gz_b (by decide)) (wl_at (i := 1) rfl) rfl dX7_reachedInts_26 ?_
  refine go_iload_n (pc := 29) dX7_reachedInts_29 rfl rfl ?_
  refine go_iald (pc := 30) (gz_b (by decide)) (wl_at (i := 20) rfl) (gv_in (by decide)) dX7_reachedInts_30 ?_
  refine go_top (y := (-1)) rfl ?_
  refine go_callV_v (pc := 31) vX7_229 rfl (ct_reach_n (a := G.2.1 + 23) (a0 := G.2.1 + 1) (a1 := G.2.1 + 2) (a2 := G.2.1 + 6) (a3 := G.2.1 + 22) (a4 := G.2.1 + 24) (a6 := G.2.1 + 25) (a7 := G.2.1 + 26) (g5 := 0) (g8 := 0) (fs := [.int 256, .int 0, .int 0, .int 0, .ref (G.2.1 + 3), .ref (G.2.1 + 4), .ref (G.2.1 + 5)]) (gz_b (by decide)) (gz_b (by decide)) (wl_at (i := 23) rfl) (wl_at (i := 2) rfl)) rfl rfl (gz_b (by decide)) (wl_at (i := 23) rfl) rfl (Nat.le_of_ble_eq_true rfl) ⟨Nat.le_of_ble_eq_true rfl, Nat.le_of_ble_eq_true rfl, (Nat.le_add_right _ _), (Nat.le_add_right _ _)⟩ dX7_reachedInts_31 ?_
  refine go_iinc (pc := 34) (v := 21) (lv' := [(1, .int 21), (0, .ref (G.2.1 + 23))]) dX7_reachedInts_34 0 rfl (by first | rfl | decide) (by decide) rfl ?_
  refine go_goto (pc := 37) (tgt := 15) dX7_reachedInts_37 (by decide) ?_
  refine go_iload_n (pc := 15) dX7_reachedInts_15 rfl rfl ?_
  refine go_bipush (pc := 16) (v := 24) dX7_reachedInts_16 (by decide) ?_
  refine go_icmp_ge_f (pc := 18) (tgt := 40) dX7_reachedInts_18 (by decide) (by decide) ?_
  refine go_aload_n (pc := 21) dX7_reachedInts_21 rfl rfl ?_
  refine go_aload_n (pc := 22) dX7_reachedInts_22 rfl rfl ?_
  refine go_get (pc := 23) fX7_21 rfl (gz_b (by decide)) (wl_at (i := 23) rfl) rfl dX7_reachedInts_23 ?_
  refine go_get (pc := 26) fX7_74 rfl (gz_b (by decide)) (wl_at (i := 1) rfl) rfl dX7_reachedInts_26 ?_
  refine go_iload_n (pc := 29) dX7_reachedInts_29 rfl rfl ?_
  refine go_iald (pc := 30) (gz_b (by decide)) (wl_at (i := 20) rfl) (gv_in (by decide)) dX7_reachedInts_30 ?_
  refine go_top (y := (-1)) rfl ?_
  refine go_callV_v (pc := 31) vX7_229 rfl (ct_reach_n (a := G.2.1 + 23) (a0 := G.2.1 + 1) (a1 := G.2.1 + 2) (a2 := G.2.1 + 6) (a3 := G.2.1 + 22) (a4 := G.2.1 + 24) (a6 := G.2.1 + 25) (a7 := G.2.1 + 26) (g5 := 0) (g8 := 0) (fs := [.int 256, .int 0, .int 0, .int 0, .ref (G.2.1 + 3), .ref (G.2.1 + 4), .ref (G.2.1 + 5)]) (gz_b (by decide)) (gz_b (by decide)) (wl_at (i := 23) rfl) (wl_at (i := 2) rfl)) rfl rfl (gz_b (by decide)) (wl_at (i := 23) rfl) rfl (Nat.le_of_ble_eq_true rfl) ⟨Nat.le_of_ble_eq_true rfl, Nat.le_of_ble_eq_true rfl, (Nat.le_add_right _ _), (Nat.le_add_right _ _)⟩ dX7_reachedInts_31 ?_
  refine go_iinc (pc := 34) (v := 22) (lv' := [(1, .int 22), (0, .ref (G.2.1 + 23))]) dX7_reachedInts_34 0 rfl (by first | rfl | decide) (by decide) rfl ?_
  refine go_goto (pc := 37) (tgt := 15) dX7_reachedInts_37 (by decide) ?_
  refine go_iload_n (pc := 15) dX7_reachedInts_15 rfl rfl ?_
  refine go_bipush (pc := 16) (v := 24) dX7_reachedInts_16 (by decide) ?_
  refine go_icmp_ge_f (pc := 18) (tgt := 40) dX7_reachedInts_18 (by decide) (by decide) ?_
  refine go_aload_n (pc := 21) dX7_reachedInts_21 rfl rfl ?_
  refine go_aload_n (pc := 22) dX7_reachedInts_22 rfl rfl ?_
  refine go_get (pc := 23) fX7_21 rfl (gz_b (by decide)) (wl_at (i := 23) rfl) rfl dX7_reachedInts_23 ?_
  refine go_get (pc := 26) fX7_74 rfl (gz_b (by decide)) (wl_at (i := 1) rfl) rfl dX7_reachedInts_26 ?_
  refine go_iload_n (pc := 29) dX7_reachedInts_29 rfl rfl ?_
  refine go_iald (pc := 30) (gz_b (by decide)) (wl_at (i := 20) rfl) (gv_in (by decide)) dX7_reachedInts_30 ?_
  refine go_top (y := (-1)) rfl ?_
  refine go_callV_v (pc := 31) vX7_229 rfl (ct_reach_n (a := G.2.1 + 23) (a0 := G.2.1 + 1) (a1 := G.2.1 + 2) (a2 := G.2.1 + 6) (a3 := G.2.1 + 22) (a4 := G.2.1 + 24) (a6 := G.2.1 + 25) (a7 := G.2.1 + 26) (g5 := 0) (g8 := 0) (fs := [.int 256, .int 0, .int 0, .int 0, .ref (G.2.1 + 3), .ref (G.2.1 + 4), .ref (G.2.1 + 5)]) (gz_b (by decide)) (gz_b (by decide)) (wl_at (i := 23) rfl) (wl_at (i := 2) rfl)) rfl rfl (gz_b (by decide)) (wl_at (i := 23) rfl) rfl (Nat.le_of_ble_eq_true rfl) ⟨Nat.le_of_ble_eq_true rfl, Nat.le_of_ble_eq_true rfl, (Nat.le_add_right _ _), (Nat.le_add_right _ _)⟩ dX7_reachedInts_31 ?_
  refine go_iinc (pc := 34) (v := 23) (lv' := [(1, .int 23), (0, .ref (G.2.1 + 23))]) dX7_reachedInts_34 0 rfl (by first | rfl | decide) (by decide) rfl ?_
  refine go_goto (pc := 37) (tgt := 15) dX7_reachedInts_37 (by decide) ?_
  refine go_iload_n (pc := 15) dX7_reachedInts_15 rfl rfl ?_
  refine go_bipush (pc := 16) (v := 24) dX7_reachedInts_16 (by decide) ?_
  refine go_icmp_ge_f (pc := 18) (tgt := 40) dX7_reachedInts_18 (by decide) (by decide) ?_
  refine go_aload_n (pc := 21) dX7_reachedInts_21 rfl rfl ?_
  refine go_aload_n (pc := 22) dX7_reachedInts_22 rfl rfl ?_
  refine go_get (pc := 23) fX7_21 rfl (gz_b (by decide)) (wl_at (i := 23) rfl) rfl dX7_reachedInts_23 ?_
  refine go_get (pc := 26) fX7_74 rfl (gz_b (by decide)) (wl_at (i := 1) rfl) rfl dX7_reachedInts_26 ?_
  refine go_iload_n (pc := 29) dX7_reachedInts_29 rfl rfl ?_
  refine go_iald (pc := 30) (gz_b (by decide)) (wl_at (i := 20) rfl) (gv_in (by decide)) dX7_reachedInts_30 ?_
  refine go_top (y := (-1)) rfl ?_
  refine go_callV_v (pc := 31) vX7_229 rfl (ct_reach_n (a := G.2.1 + 23) (a0 := G.2.1 + 1) (a1 := G.2.1 + 2) (a2 := G.2.1 + 6) (a3 := G.2.1 + 22) (a4 := G.2.1 + 24) (a6 := G.2.1 + 25) (a7 := G.2.1 + 26) (g5 := 0) (g8 := 0) (fs := [.int 256, .int 0, .int 0, .int 0, .ref (G.2.1 + 3), .ref (G.2.1 + 4), .ref (G.2.1 + 5)]) (gz_b (by decide)) (gz_b (by decide)) (wl_at (i := 23) rfl) (wl_at (i := 2) rfl)) rfl rfl (gz_b (by decide)) (wl_at (i := 23) rfl) rfl (Nat.le_of_ble_eq_true rfl) ⟨Nat.le_of_ble_eq_true rfl, Nat.le_of_ble_eq_true rfl, (Nat.le_add_right _ _), (Nat.le_add_right _ _)⟩ dX7_reachedInts_31 ?_
  refine go_iinc (pc := 34) (v := 24) (lv' := [(1, .int 24), (0, .ref (G.2.1 + 23))]) dX7_reachedInts_34 0 rfl (by first | rfl | decide) (by decide) rfl ?_
  refine go_goto (pc := 37) (tgt := 15) dX7_reachedInts_37 (by decide) ?_
  refine go_iload_n (pc := 15) dX7_reachedInts_15 rfl rfl ?_
  refine go_bipush (pc := 16) (v := 24) dX7_reachedInts_16 (by decide) ?_
  refine go_icmp_ge_t (pc := 18) (tgt := 40) dX7_reachedInts_18 (by decide) (by decide) ?_
  refine go_iconst (pc := 40) (v := 0) dX7_reachedInts_40 (by decide) ?_
  refine go_istore_n (pc := 41) (lv' := [(1, .int 0), (0, .ref (G.2.1 + 23))]) dX7_reachedInts_41 rfl (by decide) rfl ?_
  refine go_iconst (pc := 42) (v := 0) dX7_reachedInts_42 (by decide) ?_
  refine go_istore_n (pc := 43) (lv' := [(2, .int 0), (1, .int 0), (0, .ref (G.2.1 + 23))]) dX7_reachedInts_43 rfl (by decide) rfl ?_
  refine go_iload_n (pc := 44) dX7_reachedInts_44 rfl rfl ?_
  refine go_aload_n (pc := 45) dX7_reachedInts_45 rfl rfl ?_
  refine go_get (pc := 46) fX7_226 rfl (gz_b (by decide)) (wl_at (i := 23) rfl) rfl dX7_reachedInts_46 ?_
  refine go_icmp_ge_t (pc := 49) (tgt := 129) dX7_reachedInts_49 (by decide) (by decide) ?_
  refine go_iload_n (pc := 129) dX7_reachedInts_129 rfl rfl ?_
  refine go_w (show _ = wl G.2.1 [ob 9 [.ref (G.2.1 + 1), .ref (G.2.1 + 23), .ref (G.2.1 + 27), .ref (G.2.1 + 28), .ref (G.2.1 + 22), .int 0, .int 0, .null, .int 0, .null, .int 0], ob 6 [.ref (G.2.1 + 2), .ref (G.2.1 + 6), .ref (G.2.1 + 12), .ref (G.2.1 + 14), .ref (G.2.1 + 17), .ref (G.2.1 + 20), .ref (G.2.1 + 21)], ob 2 [.int 256, .int 0, .int 0, .int 0, .ref (G.2.1 + 3), .ref (G.2.1 + 4), .ref (G.2.1 + 5)], ai G 256 (fun _ => 0), ai G 500 (fun _ => (-1)), ai G 500 (fun _ => 0), ob 3 [.int 0, .int 0, .int 0, .int 0, .ref (G.2.1 + 7), .ref (G.2.1 + 8), .ref (G.2.1 + 9), .ref (G.2.1 + 10), .ref (G.2.1 + 11)], ai G 500 (fun _ => 0), ai G 500 (fun _ => 0), ai G 500 (fun _ => 0), ai G 500 (fun _ => 0), ai G 500 (fun _ => 0), ob 8 [.int 0, .int 0, .int 0, .int 0, .int 0, .int 0, .ref (G.2.1 + 13)], ai G 300 (fun _ => 0), ob 4 [.int 0, .ref (G.2.1 + 15), .ref (G.2.1 + 16)], ai G 1295 (fun _ => 0), ai G 1295 (fun _ => 0), ob 5 [.int 0, .int 0, .int 0, .int 0, .ref (G.2.1 + 18), .ref (G.2.1 + 19)], ai G 200 (fun _ => 0), ai G 8 (fun _ => (-1)), ai G 24 (fun _ => (-1)), ai G 32 (fun _ => (-1)), ai G 14 (fun _ => 0), ob 7 [.ref (G.2.1 + 1), .ref (G.2.1 + 2), .ref (G.2.1 + 6), .ref (G.2.1 + 22), .ref (G.2.1 + 24), .int 0, .ref (G.2.1 + 25), .ref (G.2.1 + 26), .int 0], ai G 500 (fun _ => 0), ai G 500 (fun _ => 0), ai G 500 (fun _ => 0), ob 0 [.ref (G.2.1 + 1), .ref (G.2.1 + 2), .ref (G.2.1 + 23), .int 0], ob 1 [.ref (G.2.1 + 29), .int 0, .int 0, .ref (G.2.1 + 30), .ref (G.2.1 + 31)], ai G 0 (fun _ => 0), ai G 500 (fun _ => 0), ai G 501 (fun _ => 0), ob 10 [.ref (G.2.1 + 33), .ref (G.2.1 + 34), .ref (G.2.1 + 35), .int 0, .int 0, .int 0, .int 0, .int 0, .ref (G.2.1 + 36), .ref (G.2.1 + 37), .ref (G.2.1 + 38), .ref (G.2.1 + 39), .int 0, .ref (G.2.1 + 40), .int 0, .ref (G.2.1 + 41)], ai G 26100 (sx 256), ai G 26100 (fun _ => 0), ai G 26100 (fun _ => 0), ai G 14 (fun _ => 0), ai G 500 (fun _ => 0), ai G 500 (fun _ => 0), az G 500 (fun _ => 0), ai G 501 (fun _ => 0), ai G 500 (fun _ => 0)] from rfl) ?_
  exact go_iret (pc := 130) rfl dX7_reachedInts_130
set_option maxRecDepth 100000 in
set_option maxHeartbeats 4000000 in
theorem cX0_makeCell_5 {l : Launch} {G : gG} (x2 : Int32) (k0 : x2 ≤ 300) (k1 : 0 ≤ x2) (k4 : ¬ x2 < 0) (k2 : ¬ 2 + x2 ≤ 256) (k3 : ¬ 0 + (2 + x2) ≤ 256) : Ct l G mX0_makeCell 3 68 [.ref (G.2.1 + 27), .int 1, .int x2] 42 90324 (wl G.2.1 (LF G)) (some (.int ((-16))), 42, 90324, (wl G.2.1 (LF G))) := by
  refine Ct.of (by decide) (Nat.le_of_ble_eq_true rfl) ⟨Nat.le_refl _, Nat.le_refl _⟩ ?_
  show Go l G mX0_makeCell _ 0 [(0, .ref (G.2.1 + 27)), (1, .int 1), (2, .int x2)] [] 42 90324 (wl G.2.1 (LF G))
  refine go_iload_n (pc := 0) dX0_makeCell_0 rfl rfl ?_
  refine go_callS_i (pc := 1) sX0_26 rfl (cX2_isCounted_8) rfl rfl (Nat.le_of_ble_eq_true rfl) ⟨Nat.le_of_ble_eq_true rfl, Nat.le_of_ble_eq_true rfl, (Nat.le_add_right _ _), (Nat.le_add_right _ _)⟩ dX0_makeCell_1 ?_
  refine go_if_eq_f (pc := 4) (tgt := 11) dX0_makeCell_4 (by decide) (by decide) ?_
  refine go_iload_n (pc := 7) dX0_makeCell_7 rfl rfl ?_
  refine go_goto (pc := 8) (tgt := 12) dX0_makeCell_8 (by decide) ?_
  refine go_istore_n (pc := 12) (lv' := [(3, .int x2), (0, .ref (G.2.1 + 27)), (1, .int 1), (2, .int x2)]) dX0_makeCell_12 rfl (by decide) rfl ?_
  refine go_iload_n (pc := 13) dX0_makeCell_13 rfl rfl ?_
  refine go_if_ge_t (pc := 14) (tgt := 20) dX0_makeCell_14 (by decide) k1 ?_
  refine go_iload_n (pc := 20) dX0_makeCell_20 rfl rfl ?_
  refine go_iload_n (pc := 21) dX0_makeCell_21 rfl rfl ?_
  refine go_callS_i (pc := 22) sX0_32 rfl (cX2_intsFor_7 x2) rfl rfl (Nat.le_of_ble_eq_true rfl) ⟨Nat.le_of_ble_eq_true rfl, Nat.le_of_ble_eq_true rfl, (Nat.le_add_right _ _), (Nat.le_add_right _ _)⟩ dX0_makeCell_22 ?_
  refine go_istore (pc := 25) (lv' := [(4, .int (2 + x2)), (3, .int x2), (0, .ref (G.2.1 + 27)), (1, .int 1), (2, .int x2)]) dX0_makeCell_25 (by decide) rfl ?_
  refine go_aload_n (pc := 27) dX0_makeCell_27 rfl rfl ?_
  refine go_get (pc := 28) fX0_21 rfl (gz_b (by decide)) (wl_at (i := 27) rfl) rfl dX0_makeCell_28 ?_
  refine go_get (pc := 31) fX0_36 rfl (gz_b (by decide)) (wl_at (i := 2) rfl) rfl dX0_makeCell_31 ?_
  refine go_sipush (pc := 34) (v := 500) dX0_makeCell_34 (by decide) ?_
  refine go_icmp_ge_f (pc := 37) (tgt := 72) dX0_makeCell_37 (by decide) (by decide) ?_
  refine go_iload (pc := 40) dX0_makeCell_40 rfl ?_
  refine go_aload_n (pc := 42) dX0_makeCell_42 rfl rfl ?_
  refine go_get (pc := 43) fX0_21 rfl (gz_b (by decide)) (wl_at (i := 27) rfl) rfl dX0_makeCell_43 ?_
  refine go_callV_i (pc := 46) vX0_40 rfl (cX2_free_1) rfl rfl (gz_b (by decide)) (wl_at (i := 2) rfl) rfl (Nat.le_of_ble_eq_true rfl) ⟨Nat.le_of_ble_eq_true rfl, Nat.le_of_ble_eq_true rfl, (Nat.le_add_right _ _), (Nat.le_add_right _ _)⟩ dX0_makeCell_46 ?_
  refine go_icmp_le_f (pc := 49) (tgt := 75) dX0_makeCell_49 (by decide) k2 ?_
  refine go_iload (pc := 52) dX0_makeCell_52 rfl ?_
  refine go_aload_n (pc := 54) dX0_makeCell_54 rfl rfl ?_
  refine go_get (pc := 55) fX0_21 rfl (gz_b (by decide)) (wl_at (i := 27) rfl) rfl dX0_makeCell_55 ?_
  refine go_get (pc := 58) fX0_44 rfl (gz_b (by decide)) (wl_at (i := 2) rfl) rfl dX0_makeCell_58 ?_
  refine go_aload_n (pc := 61) dX0_makeCell_61 rfl rfl ?_
  refine go_get (pc := 62) fX0_22 rfl (gz_b (by decide)) (wl_at (i := 27) rfl) rfl dX0_makeCell_62 ?_
  refine go_callV_i (pc := 65) vX0_47 rfl (cX7_reachedInts_1) rfl rfl (gz_b (by decide)) (wl_at (i := 23) rfl) rfl (Nat.le_of_ble_eq_true rfl) ⟨Nat.le_of_ble_eq_true rfl, Nat.le_of_ble_eq_true rfl, (Nat.le_add_right _ _), (Nat.le_add_right _ _)⟩ dX0_makeCell_65 ?_
  refine go_isub (pc := 68) dX0_makeCell_68 ?_
  refine go_top (y := 256) (by decide) ?_
  refine go_icmp_le_f (pc := 69) (tgt := 75) dX0_makeCell_69 (by decide) k2 ?_
  refine go_bipush (pc := 72) (v := (-16)) dX0_makeCell_72 (by decide) ?_
  exact go_iret (pc := 74) rfl dX0_makeCell_74
set_option maxRecDepth 100000 in
set_option maxHeartbeats 4000000 in
theorem cX9_findingIn_9 {l : Launch} {G : gG} : Ct l G mX9_findingIn 0 0 [.int ((-16))] 42 90324 (wl G.2.1 (LF G)) (some (.int 6), 42, 90324, (wl G.2.1 (LF G))) := by
  refine Ct.of (by decide) (Nat.le_of_ble_eq_true rfl) ⟨Nat.le_refl _, Nat.le_refl _⟩ ?_
  show Go l G mX9_findingIn _ 0 [(0, .int ((-16)))] [] 42 90324 (wl G.2.1 (LF G))
  refine go_iload_n (pc := 0) dX9_findingIn_0 rfl rfl ?_
  refine go_bipush (pc := 1) (v := (-11)) dX9_findingIn_1 (by decide) ?_
  refine go_icmp_gt_f (pc := 3) (tgt := 19) dX9_findingIn_3 (by decide) (by decide) ?_
  refine go_iload_n (pc := 6) dX9_findingIn_6 rfl rfl ?_
  refine go_bipush (pc := 7) (v := (-18)) dX9_findingIn_7 (by decide) ?_
  refine go_icmp_lt_f (pc := 9) (tgt := 19) dX9_findingIn_9 (by decide) (by decide) ?_
  refine go_bipush (pc := 12) (v := (-10)) dX9_findingIn_12 (by decide) ?_
  refine go_iload_n (pc := 14) dX9_findingIn_14 rfl rfl ?_
  refine go_isub (pc := 15) dX9_findingIn_15 ?_
  refine go_top (y := 6) (by decide) ?_
  refine go_goto (pc := 16) (tgt := 20) dX9_findingIn_16 (by decide) ?_
  exact go_iret (pc := 20) rfl dX9_findingIn_20
set_option maxRecDepth 100000 in
set_option maxHeartbeats 4000000 in
theorem cX9_answer_9 {l : Launch} {G : gG} : Ct l G mX9_answer 1 20 [.ref (G.2.1 + 0), .int ((-16))] 42 90324 (wl G.2.1 (LF G)) (some (.int ((-16))), 42, 90324, (wl G.2.1 [ob 9 [.ref (G.2.1 + 1), .ref (G.2.1 + 23), .ref (G.2.1 + 27), .ref (G.2.1 + 28), .ref (G.2.1 + 22), .int 6, .int 0, .null, .int 0, .null, .int 0], ob 6 [.ref (G.2.1 + 2), .ref (G.2.1 + 6), .ref (G.2.1 + 12), .ref (G.2.1 + 14), .ref (G.2.1 + 17), .ref (G.2.1 + 20), .ref (G.2.1 + 21)], ob 2 [.int 256, .int 0, .int 0, .int 0, .ref (G.2.1 + 3), .ref (G.2.1 + 4), .ref (G.2.1 + 5)], ai G 256 (fun _ => 0), ai G 500 (fun _ => (-1)), ai G 500 (fun _ => 0), ob 3 [.int 0, .int 0, .int 0, .int 0, .ref (G.2.1 + 7), .ref (G.2.1 + 8), .ref (G.2.1 + 9), .ref (G.2.1 + 10), .ref (G.2.1 + 11)], ai G 500 (fun _ => 0), ai G 500 (fun _ => 0), ai G 500 (fun _ => 0), ai G 500 (fun _ => 0), ai G 500 (fun _ => 0), ob 8 [.int 0, .int 0, .int 0, .int 0, .int 0, .int 0, .ref (G.2.1 + 13)], ai G 300 (fun _ => 0), ob 4 [.int 0, .ref (G.2.1 + 15), .ref (G.2.1 + 16)], ai G 1295 (fun _ => 0), ai G 1295 (fun _ => 0), ob 5 [.int 0, .int 0, .int 0, .int 0, .ref (G.2.1 + 18), .ref (G.2.1 + 19)], ai G 200 (fun _ => 0), ai G 8 (fun _ => (-1)), ai G 24 (fun _ => (-1)), ai G 32 (fun _ => (-1)), ai G 14 (fun _ => 0), ob 7 [.ref (G.2.1 + 1), .ref (G.2.1 + 2), .ref (G.2.1 + 6), .ref (G.2.1 + 22), .ref (G.2.1 + 24), .int 0, .ref (G.2.1 + 25), .ref (G.2.1 + 26), .int 0], ai G 500 (fun _ => 0), ai G 500 (fun _ => 0), ai G 500 (fun _ => 0), ob 0 [.ref (G.2.1 + 1), .ref (G.2.1 + 2), .ref (G.2.1 + 23), .int 0], ob 1 [.ref (G.2.1 + 29), .int 0, .int 0, .ref (G.2.1 + 30), .ref (G.2.1 + 31)], ai G 0 (fun _ => 0), ai G 500 (fun _ => 0), ai G 501 (fun _ => 0), ob 10 [.ref (G.2.1 + 33), .ref (G.2.1 + 34), .ref (G.2.1 + 35), .int 0, .int 0, .int 0, .int 0, .int 0, .ref (G.2.1 + 36), .ref (G.2.1 + 37), .ref (G.2.1 + 38), .ref (G.2.1 + 39), .int 0, .ref (G.2.1 + 40), .int 0, .ref (G.2.1 + 41)], ai G 26100 (sx 256), ai G 26100 (fun _ => 0), ai G 26100 (fun _ => 0), ai G 14 (fun _ => 0), ai G 500 (fun _ => 0), ai G 500 (fun _ => 0), az G 500 (fun _ => 0), ai G 501 (fun _ => 0), ai G 500 (fun _ => 0)])) := by
  refine Ct.of (by decide) (Nat.le_of_ble_eq_true rfl) ⟨Nat.le_refl _, Nat.le_refl _⟩ ?_
  show Go l G mX9_answer _ 0 [(0, .ref (G.2.1 + 0)), (1, .int ((-16)))] [] 42 90324 (wl G.2.1 (LF G))
  refine go_aload_n (pc := 0) dX9_answer_0 rfl rfl ?_
  refine go_iload_n (pc := 1) dX9_answer_1 rfl rfl ?_
  refine go_callS_i (pc := 2) sX9_302 rfl (cX9_findingIn_9) rfl rfl (Nat.le_of_ble_eq_true rfl) ⟨Nat.le_of_ble_eq_true rfl, Nat.le_of_ble_eq_true rfl, (Nat.le_add_right _ _), (Nat.le_add_right _ _)⟩ dX9_answer_2 ?_
  refine go_put (pc := 5) fX9_53 rfl (gz_b (by decide)) (wl_at (i := 0) rfl) (Nat.le_of_ble_eq_true rfl) rfl rfl dX9_answer_5 ?_
  refine go_ext (wl_up (i := 0) rfl rfl) ?_
  refine go_iload_n (pc := 8) dX9_answer_8 rfl rfl ?_
  refine go_w (show _ = wl G.2.1 [ob 9 [.ref (G.2.1 + 1), .ref (G.2.1 + 23), .ref (G.2.1 + 27), .ref (G.2.1 + 28), .ref (G.2.1 + 22), .int 6, .int 0, .null, .int 0, .null, .int 0], ob 6 [.ref (G.2.1 + 2), .ref (G.2.1 + 6), .ref (G.2.1 + 12), .ref (G.2.1 + 14), .ref (G.2.1 + 17), .ref (G.2.1 + 20), .ref (G.2.1 + 21)], ob 2 [.int 256, .int 0, .int 0, .int 0, .ref (G.2.1 + 3), .ref (G.2.1 + 4), .ref (G.2.1 + 5)], ai G 256 (fun _ => 0), ai G 500 (fun _ => (-1)), ai G 500 (fun _ => 0), ob 3 [.int 0, .int 0, .int 0, .int 0, .ref (G.2.1 + 7), .ref (G.2.1 + 8), .ref (G.2.1 + 9), .ref (G.2.1 + 10), .ref (G.2.1 + 11)], ai G 500 (fun _ => 0), ai G 500 (fun _ => 0), ai G 500 (fun _ => 0), ai G 500 (fun _ => 0), ai G 500 (fun _ => 0), ob 8 [.int 0, .int 0, .int 0, .int 0, .int 0, .int 0, .ref (G.2.1 + 13)], ai G 300 (fun _ => 0), ob 4 [.int 0, .ref (G.2.1 + 15), .ref (G.2.1 + 16)], ai G 1295 (fun _ => 0), ai G 1295 (fun _ => 0), ob 5 [.int 0, .int 0, .int 0, .int 0, .ref (G.2.1 + 18), .ref (G.2.1 + 19)], ai G 200 (fun _ => 0), ai G 8 (fun _ => (-1)), ai G 24 (fun _ => (-1)), ai G 32 (fun _ => (-1)), ai G 14 (fun _ => 0), ob 7 [.ref (G.2.1 + 1), .ref (G.2.1 + 2), .ref (G.2.1 + 6), .ref (G.2.1 + 22), .ref (G.2.1 + 24), .int 0, .ref (G.2.1 + 25), .ref (G.2.1 + 26), .int 0], ai G 500 (fun _ => 0), ai G 500 (fun _ => 0), ai G 500 (fun _ => 0), ob 0 [.ref (G.2.1 + 1), .ref (G.2.1 + 2), .ref (G.2.1 + 23), .int 0], ob 1 [.ref (G.2.1 + 29), .int 0, .int 0, .ref (G.2.1 + 30), .ref (G.2.1 + 31)], ai G 0 (fun _ => 0), ai G 500 (fun _ => 0), ai G 501 (fun _ => 0), ob 10 [.ref (G.2.1 + 33), .ref (G.2.1 + 34), .ref (G.2.1 + 35), .int 0, .int 0, .int 0, .int 0, .int 0, .ref (G.2.1 + 36), .ref (G.2.1 + 37), .ref (G.2.1 + 38), .ref (G.2.1 + 39), .int 0, .ref (G.2.1 + 40), .int 0, .ref (G.2.1 + 41)], ai G 26100 (sx 256), ai G 26100 (fun _ => 0), ai G 26100 (fun _ => 0), ai G 14 (fun _ => 0), ai G 500 (fun _ => 0), ai G 500 (fun _ => 0), az G 500 (fun _ => 0), ai G 501 (fun _ => 0), ai G 500 (fun _ => 0)] from rfl) ?_
  exact go_iret (pc := 9) rfl dX9_answer_9
set_option maxRecDepth 100000 in
set_option maxHeartbeats 4000000 in
theorem cx_make_1c_o {l : Launch} {G : gG} (x2 : Int32) (k0 : x2 ≤ 300) (k1 : 0 ≤ x2) (k4 : ¬ x2 < 0) (k2 : ¬ 2 + x2 ≤ 256) (k3 : ¬ 0 + (2 + x2) ≤ 256) : Ct l G mX9_make 4 93 [.ref (G.2.1 + 0), .int 1, .int x2] 42 90324 (wl G.2.1 (LF G)) (some (.int ((-16))), 42, 90324, (wl G.2.1 [ob 9 [.ref (G.2.1 + 1), .ref (G.2.1 + 23), .ref (G.2.1 + 27), .ref (G.2.1 + 28), .ref (G.2.1 + 22), .int 6, .int 0, .null, .int 0, .null, .int 0], ob 6 [.ref (G.2.1 + 2), .ref (G.2.1 + 6), .ref (G.2.1 + 12), .ref (G.2.1 + 14), .ref (G.2.1 + 17), .ref (G.2.1 + 20), .ref (G.2.1 + 21)], ob 2 [.int 256, .int 0, .int 0, .int 0, .ref (G.2.1 + 3), .ref (G.2.1 + 4), .ref (G.2.1 + 5)], ai G 256 (fun _ => 0), ai G 500 (fun _ => (-1)), ai G 500 (fun _ => 0), ob 3 [.int 0, .int 0, .int 0, .int 0, .ref (G.2.1 + 7), .ref (G.2.1 + 8), .ref (G.2.1 + 9), .ref (G.2.1 + 10), .ref (G.2.1 + 11)], ai G 500 (fun _ => 0), ai G 500 (fun _ => 0), ai G 500 (fun _ => 0), ai G 500 (fun _ => 0), ai G 500 (fun _ => 0), ob 8 [.int 0, .int 0, .int 0, .int 0, .int 0, .int 0, .ref (G.2.1 + 13)], ai G 300 (fun _ => 0), ob 4 [.int 0, .ref (G.2.1 + 15), .ref (G.2.1 + 16)], ai G 1295 (fun _ => 0), ai G 1295 (fun _ => 0), ob 5 [.int 0, .int 0, .int 0, .int 0, .ref (G.2.1 + 18), .ref (G.2.1 + 19)], ai G 200 (fun _ => 0), ai G 8 (fun _ => (-1)), ai G 24 (fun _ => (-1)), ai G 32 (fun _ => (-1)), ai G 14 (fun _ => 0), ob 7 [.ref (G.2.1 + 1), .ref (G.2.1 + 2), .ref (G.2.1 + 6), .ref (G.2.1 + 22), .ref (G.2.1 + 24), .int 0, .ref (G.2.1 + 25), .ref (G.2.1 + 26), .int 0], ai G 500 (fun _ => 0), ai G 500 (fun _ => 0), ai G 500 (fun _ => 0), ob 0 [.ref (G.2.1 + 1), .ref (G.2.1 + 2), .ref (G.2.1 + 23), .int 0], ob 1 [.ref (G.2.1 + 29), .int 0, .int 0, .ref (G.2.1 + 30), .ref (G.2.1 + 31)], ai G 0 (fun _ => 0), ai G 500 (fun _ => 0), ai G 501 (fun _ => 0), ob 10 [.ref (G.2.1 + 33), .ref (G.2.1 + 34), .ref (G.2.1 + 35), .int 0, .int 0, .int 0, .int 0, .int 0, .ref (G.2.1 + 36), .ref (G.2.1 + 37), .ref (G.2.1 + 38), .ref (G.2.1 + 39), .int 0, .ref (G.2.1 + 40), .int 0, .ref (G.2.1 + 41)], ai G 26100 (sx 256), ai G 26100 (fun _ => 0), ai G 26100 (fun _ => 0), ai G 14 (fun _ => 0), ai G 500 (fun _ => 0), ai G 500 (fun _ => 0), az G 500 (fun _ => 0), ai G 501 (fun _ => 0), ai G 500 (fun _ => 0)])) := by
  refine Ct.of (by decide) (Nat.le_of_ble_eq_true rfl) ⟨Nat.le_refl _, Nat.le_refl _⟩ ?_
  show Go l G mX9_make _ 0 [(0, .ref (G.2.1 + 0)), (1, .int 1), (2, .int x2)] [] 42 90324 (wl G.2.1 (LF G))
  refine go_iload_n (pc := 0) dX9_make_0 rfl rfl ?_
  refine go_iload_n (pc := 1) dX9_make_1 rfl rfl ?_
  refine go_callS_i (pc := 2) sX9_66 rfl (cX9_isOutsideOfMaking_9 x2 k0 k1 k4 k2 k3) rfl rfl (Nat.le_of_ble_eq_true rfl) ⟨Nat.le_of_ble_eq_true rfl, Nat.le_of_ble_eq_true rfl, (Nat.le_add_right _ _), (Nat.le_add_right _ _)⟩ dX9_make_2 ?_
  refine go_if_eq_t (pc := 5) (tgt := 11) dX9_make_5 (by decide) (by decide) ?_
  refine go_aload_n (pc := 11) dX9_make_11 rfl rfl ?_
  refine go_aload_n (pc := 12) dX9_make_12 rfl rfl ?_
  refine go_get (pc := 13) fX9_34 rfl (gz_b (by decide)) (wl_at (i := 0) rfl) rfl dX9_make_13 ?_
  refine go_iload_n (pc := 16) dX9_make_16 rfl rfl ?_
  refine go_iload_n (pc := 17) dX9_make_17 rfl rfl ?_
  refine go_callV_i (pc := 18) vX9_70 rfl (cX0_makeCell_5 x2 k0 k1 k4 k2 k3) rfl rfl (gz_b (by decide)) (wl_at (i := 27) rfl) rfl (Nat.le_of_ble_eq_true rfl) ⟨Nat.le_of_ble_eq_true rfl, Nat.le_of_ble_eq_true rfl, (Nat.le_add_right _ _), (Nat.le_add_right _ _)⟩ dX9_make_18 ?_
  refine go_callV_i (pc := 21) vX9_74 rfl (cX9_answer_9) rfl rfl (gz_b (by decide)) (wl_at (i := 0) rfl) rfl (Nat.le_of_ble_eq_true rfl) ⟨Nat.le_of_ble_eq_true rfl, Nat.le_of_ble_eq_true rfl, (Nat.le_add_right _ _), (Nat.le_add_right _ _)⟩ dX9_make_21 ?_
  exact go_iret (pc := 24) rfl dX9_make_24
theorem cx_make_1c {l : Launch} {G : gG} (x2 : Int32) (k0 : x2 ≤ 300) (k1 : 0 ≤ x2) (k4 : ¬ x2 < 0) (k2 : ¬ 2 + x2 ≤ 256) (k3 : ¬ 0 + (2 + x2) ≤ 256) : CX l G mX9_make [.ref (G.2.1 + 0), .int 1, .int x2] ((-16)) := by
  exact ⟨4, 93, 42, 90324, _, by decide, by decide, by decide, by decide, by decide, (by exact wl_frame rfl), cx_make_1c_o x2 k0 k1 k4 k2 k3⟩
set_option maxRecDepth 100000 in
set_option maxHeartbeats 4000000 in
theorem cX9_isOutsideOfMaking_10 {l : Launch} {G : gG} (j : Nat) (hj : j ≤ 254) (k0 : nI j ≤ 300) (k1 : 0 ≤ nI j) (k4 : ¬ nI j < 0) (k2 : 2 + (nI j) ≤ 256) : Ct l G mX9_isOutsideOfMaking 1 20 [.int 1, .int (nI j)] 42 90324 (wl G.2.1 (LF G)) (some (.int 0), 42, 90324, (wl G.2.1 (LF G))) := by
  refine Ct.of (by decide) (Nat.le_of_ble_eq_true rfl) ⟨Nat.le_refl _, Nat.le_refl _⟩ ?_
  show Go l G mX9_isOutsideOfMaking _ 0 [(0, .int 1), (1, .int (nI j))] [] 42 90324 (wl G.2.1 (LF G))
  refine go_iload_n (pc := 0) dX9_isOutsideOfMaking_0 rfl rfl ?_
  refine go_if_lt_f (pc := 1) (tgt := 24) dX9_isOutsideOfMaking_1 (by decide) (by decide) ?_
  refine go_iload_n (pc := 4) dX9_isOutsideOfMaking_4 rfl rfl ?_
  refine go_bipush (pc := 5) (v := 6) dX9_isOutsideOfMaking_5 (by decide) ?_
  refine go_icmp_ge_f (pc := 7) (tgt := 24) dX9_isOutsideOfMaking_7 (by decide) (by decide) ?_
  refine go_iload_n (pc := 10) dX9_isOutsideOfMaking_10 rfl rfl ?_
  refine go_callS_i (pc := 11) sX9_326 rfl (cX2_isCounted_8) rfl rfl (Nat.le_of_ble_eq_true rfl) ⟨Nat.le_of_ble_eq_true rfl, Nat.le_of_ble_eq_true rfl, (Nat.le_add_right _ _), (Nat.le_add_right _ _)⟩ dX9_isOutsideOfMaking_11 ?_
  refine go_if_eq_f (pc := 14) (tgt := 28) dX9_isOutsideOfMaking_14 (by decide) (by decide) ?_
  refine go_iload_n (pc := 17) dX9_isOutsideOfMaking_17 rfl rfl ?_
  refine go_sipush (pc := 18) (v := 300) dX9_isOutsideOfMaking_18 (by decide) ?_
  refine go_icmp_le_t (pc := 21) (tgt := 28) dX9_isOutsideOfMaking_21 (by decide) k0 ?_
  refine go_iconst (pc := 28) (v := 0) dX9_isOutsideOfMaking_28 (by decide) ?_
  exact go_zret (pc := 29) rfl rfl dX9_isOutsideOfMaking_29
set_option maxRecDepth 100000 in
set_option maxHeartbeats 4000000 in
theorem cX2_intsFor_8 {l : Launch} {G : gG} (j : Nat) (hj : j ≤ 254) : Ct l G mX2_intsFor 0 0 [.int 1, .int (nI j)] 42 90324 (wl G.2.1 (LF G)) (some (.int (2 + (nI j))), 42, 90324, (wl G.2.1 (LF G))) := by
  refine Ct.of (by decide) (Nat.le_of_ble_eq_true rfl) ⟨Nat.le_refl _, Nat.le_refl _⟩ ?_
  show Go l G mX2_intsFor _ 0 [(0, .int 1), (1, .int (nI j))] [] 42 90324 (wl G.2.1 (LF G))
  refine go_iload_n (pc := 0) dX2_intsFor_0 rfl rfl ?_
  refine go_tableIn (pc := 1) (off := 35) (tgt := 36) dX2_intsFor_1 (by decide) (by decide) (by decide) (by decide) ?_
  refine go_iconst (pc := 36) (v := 2) dX2_intsFor_36 (by decide) ?_
  refine go_iload_n (pc := 37) dX2_intsFor_37 rfl rfl ?_
  refine go_iadd (pc := 38) dX2_intsFor_38 ?_
  exact go_iret (pc := 39) rfl dX2_intsFor_39
set_option maxRecDepth 100000 in
set_option maxHeartbeats 4000000 in
theorem cX2_isCounted_9 {l : Launch} {G : gG} : Ct l G mX2_isCounted 0 0 [.int 1] 42 90324 (wl G.2.1 [ob 9 [.ref (G.2.1 + 1), .ref (G.2.1 + 23), .ref (G.2.1 + 27), .ref (G.2.1 + 28), .ref (G.2.1 + 22), .int 0, .int 0, .null, .int 0, .null, .int 0], ob 6 [.ref (G.2.1 + 2), .ref (G.2.1 + 6), .ref (G.2.1 + 12), .ref (G.2.1 + 14), .ref (G.2.1 + 17), .ref (G.2.1 + 20), .ref (G.2.1 + 21)], ob 2 [.int 256, .int 0, .int 0, .int 0, .ref (G.2.1 + 3), .ref (G.2.1 + 4), .ref (G.2.1 + 5)], ai G 256 (upd (fun _ => 0) (0 : Int32).toNatClampNeg 1), ai G 500 (fun _ => (-1)), ai G 500 (fun _ => 0), ob 3 [.int 0, .int 0, .int 0, .int 0, .ref (G.2.1 + 7), .ref (G.2.1 + 8), .ref (G.2.1 + 9), .ref (G.2.1 + 10), .ref (G.2.1 + 11)], ai G 500 (fun _ => 0), ai G 500 (fun _ => 0), ai G 500 (fun _ => 0), ai G 500 (fun _ => 0), ai G 500 (fun _ => 0), ob 8 [.int 0, .int 0, .int 0, .int 0, .int 0, .int 0, .ref (G.2.1 + 13)], ai G 300 (fun _ => 0), ob 4 [.int 0, .ref (G.2.1 + 15), .ref (G.2.1 + 16)], ai G 1295 (fun _ => 0), ai G 1295 (fun _ => 0), ob 5 [.int 0, .int 0, .int 0, .int 0, .ref (G.2.1 + 18), .ref (G.2.1 + 19)], ai G 200 (fun _ => 0), ai G 8 (fun _ => (-1)), ai G 24 (fun _ => (-1)), ai G 32 (fun _ => (-1)), ai G 14 (fun _ => 0), ob 7 [.ref (G.2.1 + 1), .ref (G.2.1 + 2), .ref (G.2.1 + 6), .ref (G.2.1 + 22), .ref (G.2.1 + 24), .int 0, .ref (G.2.1 + 25), .ref (G.2.1 + 26), .int 0], ai G 500 (fun _ => 0), ai G 500 (fun _ => 0), ai G 500 (fun _ => 0), ob 0 [.ref (G.2.1 + 1), .ref (G.2.1 + 2), .ref (G.2.1 + 23), .int 0], ob 1 [.ref (G.2.1 + 29), .int 0, .int 0, .ref (G.2.1 + 30), .ref (G.2.1 + 31)], ai G 0 (fun _ => 0), ai G 500 (fun _ => 0), ai G 501 (fun _ => 0), ob 10 [.ref (G.2.1 + 33), .ref (G.2.1 + 34), .ref (G.2.1 + 35), .int 0, .int 0, .int 0, .int 0, .int 0, .ref (G.2.1 + 36), .ref (G.2.1 + 37), .ref (G.2.1 + 38), .ref (G.2.1 + 39), .int 0, .ref (G.2.1 + 40), .int 0, .ref (G.2.1 + 41)], ai G 26100 (sx 256), ai G 26100 (fun _ => 0), ai G 26100 (fun _ => 0), ai G 14 (fun _ => 0), ai G 500 (fun _ => 0), ai G 500 (fun _ => 0), az G 500 (fun _ => 0), ai G 501 (fun _ => 0), ai G 500 (fun _ => 0)]) (some (.int 1), 42, 90324, (wl G.2.1 [ob 9 [.ref (G.2.1 + 1), .ref (G.2.1 + 23), .ref (G.2.1 + 27), .ref (G.2.1 + 28), .ref (G.2.1 + 22), .int 0, .int 0, .null, .int 0, .null, .int 0], ob 6 [.ref (G.2.1 + 2), .ref (G.2.1 + 6), .ref (G.2.1 + 12), .ref (G.2.1 + 14), .ref (G.2.1 + 17), .ref (G.2.1 + 20), .ref (G.2.1 + 21)], ob 2 [.int 256, .int 0, .int 0, .int 0, .ref (G.2.1 + 3), .ref (G.2.1 + 4), .ref (G.2.1 + 5)], ai G 256 (upd (fun _ => 0) (0 : Int32).toNatClampNeg 1), ai G 500 (fun _ => (-1)), ai G 500 (fun _ => 0), ob 3 [.int 0, .int 0, .int 0, .int 0, .ref (G.2.1 + 7), .ref (G.2.1 + 8), .ref (G.2.1 + 9), .ref (G.2.1 + 10), .ref (G.2.1 + 11)], ai G 500 (fun _ => 0), ai G 500 (fun _ => 0), ai G 500 (fun _ => 0), ai G 500 (fun _ => 0), ai G 500 (fun _ => 0), ob 8 [.int 0, .int 0, .int 0, .int 0, .int 0, .int 0, .ref (G.2.1 + 13)], ai G 300 (fun _ => 0), ob 4 [.int 0, .ref (G.2.1 + 15), .ref (G.2.1 + 16)], ai G 1295 (fun _ => 0), ai G 1295 (fun _ => 0), ob 5 [.int 0, .int 0, .int 0, .int 0, .ref (G.2.1 + 18), .ref (G.2.1 + 19)], ai G 200 (fun _ => 0), ai G 8 (fun _ => (-1)), ai G 24 (fun _ => (-1)), ai G 32 (fun _ => (-1)), ai G 14 (fun _ => 0), ob 7 [.ref (G.2.1 + 1), .ref (G.2.1 + 2), .ref (G.2.1 + 6), .ref (G.2.1 + 22), .ref (G.2.1 + 24), .int 0, .ref (G.2.1 + 25), .ref (G.2.1 + 26), .int 0], ai G 500 (fun _ => 0), ai G 500 (fun _ => 0), ai G 500 (fun _ => 0), ob 0 [.ref (G.2.1 + 1), .ref (G.2.1 + 2), .ref (G.2.1 + 23), .int 0], ob 1 [.ref (G.2.1 + 29), .int 0, .int 0, .ref (G.2.1 + 30), .ref (G.2.1 + 31)], ai G 0 (fun _ => 0), ai G 500 (fun _ => 0), ai G 501 (fun _ => 0), ob 10 [.ref (G.2.1 + 33), .ref (G.2.1 + 34), .ref (G.2.1 + 35), .int 0, .int 0, .int 0, .int 0, .int 0, .ref (G.2.1 + 36), .ref (G.2.1 + 37), .ref (G.2.1 + 38), .ref (G.2.1 + 39), .int 0, .ref (G.2.1 + 40), .int 0, .ref (G.2.1 + 41)], ai G 26100 (sx 256), ai G 26100 (fun _ => 0), ai G 26100 (fun _ => 0), ai G 14 (fun _ => 0), ai G 500 (fun _ => 0), ai G 500 (fun _ => 0), az G 500 (fun _ => 0), ai G 501 (fun _ => 0), ai G 500 (fun _ => 0)])) := by
  refine Ct.of (by decide) (Nat.le_of_ble_eq_true rfl) ⟨Nat.le_refl _, Nat.le_refl _⟩ ?_
  show Go l G mX2_isCounted _ 0 [(0, .int 1)] [] 42 90324 (wl G.2.1 [ob 9 [.ref (G.2.1 + 1), .ref (G.2.1 + 23), .ref (G.2.1 + 27), .ref (G.2.1 + 28), .ref (G.2.1 + 22), .int 0, .int 0, .null, .int 0, .null, .int 0], ob 6 [.ref (G.2.1 + 2), .ref (G.2.1 + 6), .ref (G.2.1 + 12), .ref (G.2.1 + 14), .ref (G.2.1 + 17), .ref (G.2.1 + 20), .ref (G.2.1 + 21)], ob 2 [.int 256, .int 0, .int 0, .int 0, .ref (G.2.1 + 3), .ref (G.2.1 + 4), .ref (G.2.1 + 5)], ai G 256 (upd (fun _ => 0) (0 : Int32).toNatClampNeg 1), ai G 500 (fun _ => (-1)), ai G 500 (fun _ => 0), ob 3 [.int 0, .int 0, .int 0, .int 0, .ref (G.2.1 + 7), .ref (G.2.1 + 8), .ref (G.2.1 + 9), .ref (G.2.1 + 10), .ref (G.2.1 + 11)], ai G 500 (fun _ => 0), ai G 500 (fun _ => 0), ai G 500 (fun _ => 0), ai G 500 (fun _ => 0), ai G 500 (fun _ => 0), ob 8 [.int 0, .int 0, .int 0, .int 0, .int 0, .int 0, .ref (G.2.1 + 13)], ai G 300 (fun _ => 0), ob 4 [.int 0, .ref (G.2.1 + 15), .ref (G.2.1 + 16)], ai G 1295 (fun _ => 0), ai G 1295 (fun _ => 0), ob 5 [.int 0, .int 0, .int 0, .int 0, .ref (G.2.1 + 18), .ref (G.2.1 + 19)], ai G 200 (fun _ => 0), ai G 8 (fun _ => (-1)), ai G 24 (fun _ => (-1)), ai G 32 (fun _ => (-1)), ai G 14 (fun _ => 0), ob 7 [.ref (G.2.1 + 1), .ref (G.2.1 + 2), .ref (G.2.1 + 6), .ref (G.2.1 + 22), .ref (G.2.1 + 24), .int 0, .ref (G.2.1 + 25), .ref (G.2.1 + 26), .int 0], ai G 500 (fun _ => 0), ai G 500 (fun _ => 0), ai G 500 (fun _ => 0), ob 0 [.ref (G.2.1 + 1), .ref (G.2.1 + 2), .ref (G.2.1 + 23), .int 0], ob 1 [.ref (G.2.1 + 29), .int 0, .int 0, .ref (G.2.1 + 30), .ref (G.2.1 + 31)], ai G 0 (fun _ => 0), ai G 500 (fun _ => 0), ai G 501 (fun _ => 0), ob 10 [.ref (G.2.1 + 33), .ref (G.2.1 + 34), .ref (G.2.1 + 35), .int 0, .int 0, .int 0, .int 0, .int 0, .ref (G.2.1 + 36), .ref (G.2.1 + 37), .ref (G.2.1 + 38), .ref (G.2.1 + 39), .int 0, .ref (G.2.1 + 40), .int 0, .ref (G.2.1 + 41)], ai G 26100 (sx 256), ai G 26100 (fun _ => 0), ai G 26100 (fun _ => 0), ai G 14 (fun _ => 0), ai G 500 (fun _ => 0), ai G 500 (fun _ => 0), az G 500 (fun _ => 0), ai G 501 (fun _ => 0), ai G 500 (fun _ => 0)])
  refine go_iload_n (pc := 0) dX2_isCounted_0 rfl rfl ?_
  refine go_iconst (pc := 1) (v := 1) dX2_isCounted_1 (by decide) ?_
  refine go_icmp_eq_t (pc := 2) (tgt := 15) dX2_isCounted_2 (by decide) (by decide) ?_
  refine go_iconst (pc := 15) (v := 1) dX2_isCounted_15 (by decide) ?_
  refine go_goto (pc := 16) (tgt := 20) dX2_isCounted_16 (by decide) ?_
  exact go_zret (pc := 20) rfl rfl dX2_isCounted_20
set_option maxRecDepth 100000 in
set_option maxHeartbeats 4000000 in
theorem cX2_intsFor_9 {l : Launch} {G : gG} (j : Nat) (hj : j ≤ 254) : Ct l G mX2_intsFor 0 0 [.int 1, .int (nI j)] 42 90324 (wl G.2.1 [ob 9 [.ref (G.2.1 + 1), .ref (G.2.1 + 23), .ref (G.2.1 + 27), .ref (G.2.1 + 28), .ref (G.2.1 + 22), .int 0, .int 0, .null, .int 0, .null, .int 0], ob 6 [.ref (G.2.1 + 2), .ref (G.2.1 + 6), .ref (G.2.1 + 12), .ref (G.2.1 + 14), .ref (G.2.1 + 17), .ref (G.2.1 + 20), .ref (G.2.1 + 21)], ob 2 [.int 256, .int 0, .int 0, .int 0, .ref (G.2.1 + 3), .ref (G.2.1 + 4), .ref (G.2.1 + 5)], ai G 256 (fun q => if 2 ≤ q ∧ q < 2 + j then (-1) else (upd (upd (fun _ => 0) (0 : Int32).toNatClampNeg 1) (1 : Int32).toNatClampNeg (nI j)) q), ai G 500 (upd (fun _ => (-1)) (0 : Int32).toNatClampNeg 0), ai G 500 (upd (fun _ => 0) (0 : Int32).toNatClampNeg 0), ob 3 [.int 0, .int 0, .int 0, .int 0, .ref (G.2.1 + 7), .ref (G.2.1 + 8), .ref (G.2.1 + 9), .ref (G.2.1 + 10), .ref (G.2.1 + 11)], ai G 500 (fun _ => 0), ai G 500 (fun _ => 0), ai G 500 (fun _ => 0), ai G 500 (fun _ => 0), ai G 500 (fun _ => 0), ob 8 [.int 0, .int 0, .int 0, .int 0, .int 0, .int 0, .ref (G.2.1 + 13)], ai G 300 (fun _ => 0), ob 4 [.int 0, .ref (G.2.1 + 15), .ref (G.2.1 + 16)], ai G 1295 (fun _ => 0), ai G 1295 (fun _ => 0), ob 5 [.int 0, .int 0, .int 0, .int 0, .ref (G.2.1 + 18), .ref (G.2.1 + 19)], ai G 200 (fun _ => 0), ai G 8 (fun _ => (-1)), ai G 24 (fun _ => (-1)), ai G 32 (fun _ => (-1)), ai G 14 (fun _ => 0), ob 7 [.ref (G.2.1 + 1), .ref (G.2.1 + 2), .ref (G.2.1 + 6), .ref (G.2.1 + 22), .ref (G.2.1 + 24), .int 0, .ref (G.2.1 + 25), .ref (G.2.1 + 26), .int 0], ai G 500 (fun _ => 0), ai G 500 (fun _ => 0), ai G 500 (fun _ => 0), ob 0 [.ref (G.2.1 + 1), .ref (G.2.1 + 2), .ref (G.2.1 + 23), .int 0], ob 1 [.ref (G.2.1 + 29), .int 0, .int 0, .ref (G.2.1 + 30), .ref (G.2.1 + 31)], ai G 0 (fun _ => 0), ai G 500 (fun _ => 0), ai G 501 (fun _ => 0), ob 10 [.ref (G.2.1 + 33), .ref (G.2.1 + 34), .ref (G.2.1 + 35), .int 0, .int 0, .int 0, .int 0, .int 0, .ref (G.2.1 + 36), .ref (G.2.1 + 37), .ref (G.2.1 + 38), .ref (G.2.1 + 39), .int 0, .ref (G.2.1 + 40), .int 0, .ref (G.2.1 + 41)], ai G 26100 (sx 256), ai G 26100 (fun _ => 0), ai G 26100 (fun _ => 0), ai G 14 (fun _ => 0), ai G 500 (fun _ => 0), ai G 500 (fun _ => 0), az G 500 (fun _ => 0), ai G 501 (fun _ => 0), ai G 500 (fun _ => 0)]) (some (.int (2 + (nI j))), 42, 90324, (wl G.2.1 [ob 9 [.ref (G.2.1 + 1), .ref (G.2.1 + 23), .ref (G.2.1 + 27), .ref (G.2.1 + 28), .ref (G.2.1 + 22), .int 0, .int 0, .null, .int 0, .null, .int 0], ob 6 [.ref (G.2.1 + 2), .ref (G.2.1 + 6), .ref (G.2.1 + 12), .ref (G.2.1 + 14), .ref (G.2.1 + 17), .ref (G.2.1 + 20), .ref (G.2.1 + 21)], ob 2 [.int 256, .int 0, .int 0, .int 0, .ref (G.2.1 + 3), .ref (G.2.1 + 4), .ref (G.2.1 + 5)], ai G 256 (fun q => if 2 ≤ q ∧ q < 2 + j then (-1) else (upd (upd (fun _ => 0) (0 : Int32).toNatClampNeg 1) (1 : Int32).toNatClampNeg (nI j)) q), ai G 500 (upd (fun _ => (-1)) (0 : Int32).toNatClampNeg 0), ai G 500 (upd (fun _ => 0) (0 : Int32).toNatClampNeg 0), ob 3 [.int 0, .int 0, .int 0, .int 0, .ref (G.2.1 + 7), .ref (G.2.1 + 8), .ref (G.2.1 + 9), .ref (G.2.1 + 10), .ref (G.2.1 + 11)], ai G 500 (fun _ => 0), ai G 500 (fun _ => 0), ai G 500 (fun _ => 0), ai G 500 (fun _ => 0), ai G 500 (fun _ => 0), ob 8 [.int 0, .int 0, .int 0, .int 0, .int 0, .int 0, .ref (G.2.1 + 13)], ai G 300 (fun _ => 0), ob 4 [.int 0, .ref (G.2.1 + 15), .ref (G.2.1 + 16)], ai G 1295 (fun _ => 0), ai G 1295 (fun _ => 0), ob 5 [.int 0, .int 0, .int 0, .int 0, .ref (G.2.1 + 18), .ref (G.2.1 + 19)], ai G 200 (fun _ => 0), ai G 8 (fun _ => (-1)), ai G 24 (fun _ => (-1)), ai G 32 (fun _ => (-1)), ai G 14 (fun _ => 0), ob 7 [.ref (G.2.1 + 1), .ref (G.2.1 + 2), .ref (G.2.1 + 6), .ref (G.2.1 + 22), .ref (G.2.1 + 24), .int 0, .ref (G.2.1 + 25), .ref (G.2.1 + 26), .int 0], ai G 500 (fun _ => 0), ai G 500 (fun _ => 0), ai G 500 (fun _ => 0), ob 0 [.ref (G.2.1 + 1), .ref (G.2.1 + 2), .ref (G.2.1 + 23), .int 0], ob 1 [.ref (G.2.1 + 29), .int 0, .int 0, .ref (G.2.1 + 30), .ref (G.2.1 + 31)], ai G 0 (fun _ => 0), ai G 500 (fun _ => 0), ai G 501 (fun _ => 0), ob 10 [.ref (G.2.1 + 33), .ref (G.2.1 + 34), .ref (G.2.1 + 35), .int 0, .int 0, .int 0, .int 0, .int 0, .ref (G.2.1 + 36), .ref (G.2.1 + 37), .ref (G.2.1 + 38), .ref (G.2.1 + 39), .int 0, .ref (G.2.1 + 40), .int 0, .ref (G.2.1 + 41)], ai G 26100 (sx 256), ai G 26100 (fun _ => 0), ai G 26100 (fun _ => 0), ai G 14 (fun _ => 0), ai G 500 (fun _ => 0), ai G 500 (fun _ => 0), az G 500 (fun _ => 0), ai G 501 (fun _ => 0), ai G 500 (fun _ => 0)])) := by
  refine Ct.of (by decide) (Nat.le_of_ble_eq_true rfl) ⟨Nat.le_refl _, Nat.le_refl _⟩ ?_
  show Go l G mX2_intsFor _ 0 [(0, .int 1), (1, .int (nI j))] [] 42 90324 (wl G.2.1 [ob 9 [.ref (G.2.1 + 1), .ref (G.2.1 + 23), .ref (G.2.1 + 27), .ref (G.2.1 + 28), .ref (G.2.1 + 22), .int 0, .int 0, .null, .int 0, .null, .int 0], ob 6 [.ref (G.2.1 + 2), .ref (G.2.1 + 6), .ref (G.2.1 + 12), .ref (G.2.1 + 14), .ref (G.2.1 + 17), .ref (G.2.1 + 20), .ref (G.2.1 + 21)], ob 2 [.int 256, .int 0, .int 0, .int 0, .ref (G.2.1 + 3), .ref (G.2.1 + 4), .ref (G.2.1 + 5)], ai G 256 (fun q => if 2 ≤ q ∧ q < 2 + j then (-1) else (upd (upd (fun _ => 0) (0 : Int32).toNatClampNeg 1) (1 : Int32).toNatClampNeg (nI j)) q), ai G 500 (upd (fun _ => (-1)) (0 : Int32).toNatClampNeg 0), ai G 500 (upd (fun _ => 0) (0 : Int32).toNatClampNeg 0), ob 3 [.int 0, .int 0, .int 0, .int 0, .ref (G.2.1 + 7), .ref (G.2.1 + 8), .ref (G.2.1 + 9), .ref (G.2.1 + 10), .ref (G.2.1 + 11)], ai G 500 (fun _ => 0), ai G 500 (fun _ => 0), ai G 500 (fun _ => 0), ai G 500 (fun _ => 0), ai G 500 (fun _ => 0), ob 8 [.int 0, .int 0, .int 0, .int 0, .int 0, .int 0, .ref (G.2.1 + 13)], ai G 300 (fun _ => 0), ob 4 [.int 0, .ref (G.2.1 + 15), .ref (G.2.1 + 16)], ai G 1295 (fun _ => 0), ai G 1295 (fun _ => 0), ob 5 [.int 0, .int 0, .int 0, .int 0, .ref (G.2.1 + 18), .ref (G.2.1 + 19)], ai G 200 (fun _ => 0), ai G 8 (fun _ => (-1)), ai G 24 (fun _ => (-1)), ai G 32 (fun _ => (-1)), ai G 14 (fun _ => 0), ob 7 [.ref (G.2.1 + 1), .ref (G.2.1 + 2), .ref (G.2.1 + 6), .ref (G.2.1 + 22), .ref (G.2.1 + 24), .int 0, .ref (G.2.1 + 25), .ref (G.2.1 + 26), .int 0], ai G 500 (fun _ => 0), ai G 500 (fun _ => 0), ai G 500 (fun _ => 0), ob 0 [.ref (G.2.1 + 1), .ref (G.2.1 + 2), .ref (G.2.1 + 23), .int 0], ob 1 [.ref (G.2.1 + 29), .int 0, .int 0, .ref (G.2.1 + 30), .ref (G.2.1 + 31)], ai G 0 (fun _ => 0), ai G 500 (fun _ => 0), ai G 501 (fun _ => 0), ob 10 [.ref (G.2.1 + 33), .ref (G.2.1 + 34), .ref (G.2.1 + 35), .int 0, .int 0, .int 0, .int 0, .int 0, .ref (G.2.1 + 36), .ref (G.2.1 + 37), .ref (G.2.1 + 38), .ref (G.2.1 + 39), .int 0, .ref (G.2.1 + 40), .int 0, .ref (G.2.1 + 41)], ai G 26100 (sx 256), ai G 26100 (fun _ => 0), ai G 26100 (fun _ => 0), ai G 14 (fun _ => 0), ai G 500 (fun _ => 0), ai G 500 (fun _ => 0), az G 500 (fun _ => 0), ai G 501 (fun _ => 0), ai G 500 (fun _ => 0)])
  refine go_iload_n (pc := 0) dX2_intsFor_0 rfl rfl ?_
  refine go_tableIn (pc := 1) (off := 35) (tgt := 36) dX2_intsFor_1 (by decide) (by decide) (by decide) (by decide) ?_
  refine go_iconst (pc := 36) (v := 2) dX2_intsFor_36 (by decide) ?_
  refine go_iload_n (pc := 37) dX2_intsFor_37 rfl rfl ?_
  refine go_iadd (pc := 38) dX2_intsFor_38 ?_
  exact go_iret (pc := 39) rfl dX2_intsFor_39
set_option maxRecDepth 100000 in
set_option maxHeartbeats 4000000 in
theorem cX2_addCell_4 {l : Launch} {G : gG} (j : Nat) (hj : j ≤ 254) (k0 : nI j ≤ 300) (k1 : 0 ≤ nI j) (k4 : ¬ nI j < 0) (k2 : 2 + (nI j) ≤ 256) : Ct l G mX2_addCell 2 46 [.ref (G.2.1 + 2), .int 1, .int (nI j)] 42 90324 (wl G.2.1 (LF G)) (some (.int 0), 42, 90324, (wl G.2.1 [ob 9 [.ref (G.2.1 + 1), .ref (G.2.1 + 23), .ref (G.2.1 + 27), .ref (G.2.1 + 28), .ref (G.2.1 + 22), .int 0, .int 0, .null, .int 0, .null, .int 0], ob 6 [.ref (G.2.1 + 2), .ref (G.2.1 + 6), .ref (G.2.1 + 12), .ref (G.2.1 + 14), .ref (G.2.1 + 17), .ref (G.2.1 + 20), .ref (G.2.1 + 21)], ob 2 [.int 256, .int (0 + (2 + (nI j))), .int 1, .int 1, .ref (G.2.1 + 3), .ref (G.2.1 + 4), .ref (G.2.1 + 5)], ai G 256 (fun q => if 2 ≤ q ∧ q < 2 + j then (-1) else (upd (upd (fun _ => 0) (0 : Int32).toNatClampNeg 1) (1 : Int32).toNatClampNeg (nI j)) q), ai G 500 (upd (fun _ => (-1)) (0 : Int32).toNatClampNeg 0), ai G 500 (upd (fun _ => 0) (0 : Int32).toNatClampNeg 0), ob 3 [.int 0, .int 0, .int 0, .int 0, .ref (G.2.1 + 7), .ref (G.2.1 + 8), .ref (G.2.1 + 9), .ref (G.2.1 + 10), .ref (G.2.1 + 11)], ai G 500 (fun _ => 0), ai G 500 (fun _ => 0), ai G 500 (fun _ => 0), ai G 500 (fun _ => 0), ai G 500 (fun _ => 0), ob 8 [.int 0, .int 0, .int 0, .int 0, .int 0, .int 0, .ref (G.2.1 + 13)], ai G 300 (fun _ => 0), ob 4 [.int 0, .ref (G.2.1 + 15), .ref (G.2.1 + 16)], ai G 1295 (fun _ => 0), ai G 1295 (fun _ => 0), ob 5 [.int 0, .int 0, .int 0, .int 0, .ref (G.2.1 + 18), .ref (G.2.1 + 19)], ai G 200 (fun _ => 0), ai G 8 (fun _ => (-1)), ai G 24 (fun _ => (-1)), ai G 32 (fun _ => (-1)), ai G 14 (fun _ => 0), ob 7 [.ref (G.2.1 + 1), .ref (G.2.1 + 2), .ref (G.2.1 + 6), .ref (G.2.1 + 22), .ref (G.2.1 + 24), .int 0, .ref (G.2.1 + 25), .ref (G.2.1 + 26), .int 0], ai G 500 (fun _ => 0), ai G 500 (fun _ => 0), ai G 500 (fun _ => 0), ob 0 [.ref (G.2.1 + 1), .ref (G.2.1 + 2), .ref (G.2.1 + 23), .int 0], ob 1 [.ref (G.2.1 + 29), .int 0, .int 0, .ref (G.2.1 + 30), .ref (G.2.1 + 31)], ai G 0 (fun _ => 0), ai G 500 (fun _ => 0), ai G 501 (fun _ => 0), ob 10 [.ref (G.2.1 + 33), .ref (G.2.1 + 34), .ref (G.2.1 + 35), .int 0, .int 0, .int 0, .int 0, .int 0, .ref (G.2.1 + 36), .ref (G.2.1 + 37), .ref (G.2.1 + 38), .ref (G.2.1 + 39), .int 0, .ref (G.2.1 + 40), .int 0, .ref (G.2.1 + 41)], ai G 26100 (sx 256), ai G 26100 (fun _ => 0), ai G 26100 (fun _ => 0), ai G 14 (fun _ => 0), ai G 500 (fun _ => 0), ai G 500 (fun _ => 0), az G 500 (fun _ => 0), ai G 501 (fun _ => 0), ai G 500 (fun _ => 0)])) := by
  refine Ct.of (by decide) (Nat.le_of_ble_eq_true rfl) ⟨Nat.le_refl _, Nat.le_refl _⟩ ?_
  show Go l G mX2_addCell _ 0 [(0, .ref (G.2.1 + 2)), (1, .int 1), (2, .int (nI j))] [] 42 90324 (wl G.2.1 (LF G))
  refine go_aload_n (pc := 0) dX2_addCell_0 rfl rfl ?_
  refine go_get (pc := 1) fX2_32 rfl (gz_b (by decide)) (wl_at (i := 2) rfl) rfl dX2_addCell_1 ?_
  refine go_istore_n (pc := 4) (lv' := [(3, .int 0), (0, .ref (G.2.1 + 2)), (1, .int 1), (2, .int (nI j))]) dX2_addCell_4 rfl (by decide) rfl ?_
  refine go_aload_n (pc := 5) dX2_addCell_5 rfl rfl ?_
  refine go_get (pc := 6) fX2_9 rfl (gz_b (by decide)) (wl_at (i := 2) rfl) rfl dX2_addCell_6 ?_
  refine go_aload_n (pc := 9) dX2_addCell_9 rfl rfl ?_
  refine go_get (pc := 10) fX2_29 rfl (gz_b (by decide)) (wl_at (i := 2) rfl) rfl dX2_addCell_10 ?_
  refine go_iload_n (pc := 13) dX2_addCell_13 rfl rfl ?_
  refine go_bipush (pc := 14) (v := 8) dX2_addCell_14 (by decide) ?_
  refine go_imul (pc := 16) dX2_addCell_16 ?_
  refine go_top (y := 0) (by decide) ?_
  refine go_iload_n (pc := 17) dX2_addCell_17 rfl rfl ?_
  refine go_iadd (pc := 18) dX2_addCell_18 ?_
  refine go_top (y := 1) (by decide) ?_
  refine go_iast (pc := 19) (gz_b (by decide)) (wl_at (i := 3) rfl) (gv_in (by decide)) dX2_addCell_19 ?_
  refine go_ext (wl_up (i := 3) rfl rfl) ?_
  refine go_iload_n (pc := 20) dX2_addCell_20 rfl rfl ?_
  refine go_callS_i (pc := 21) sX2_60 rfl (cX2_isCounted_9) rfl rfl (Nat.le_of_ble_eq_true rfl) ⟨Nat.le_of_ble_eq_true rfl, Nat.le_of_ble_eq_true rfl, (Nat.le_add_right _ _), (Nat.le_add_right _ _)⟩ dX2_addCell_21 ?_
  refine go_if_ne_t (pc := 24) (tgt := 50) dX2_addCell_24 (by decide) (by decide) ?_
  refine go_aload_n (pc := 50) dX2_addCell_50 rfl rfl ?_
  refine go_get (pc := 51) fX2_9 rfl (gz_b (by decide)) (wl_at (i := 2) rfl) rfl dX2_addCell_51 ?_
  refine go_aload_n (pc := 54) dX2_addCell_54 rfl rfl ?_
  refine go_get (pc := 55) fX2_29 rfl (gz_b (by decide)) (wl_at (i := 2) rfl) rfl dX2_addCell_55 ?_
  refine go_iconst (pc := 58) (v := 1) dX2_addCell_58 (by decide) ?_
  refine go_iadd (pc := 59) dX2_addCell_59 ?_
  refine go_top (y := 1) (by decide) ?_
  refine go_iload_n (pc := 60) dX2_addCell_60 rfl rfl ?_
  refine go_iast (pc := 61) (gz_b (by decide)) (wl_at (i := 3) rfl) (gv_in (by decide)) dX2_addCell_61 ?_
  refine go_ext (wl_up (i := 3) rfl rfl) ?_
  refine go_iload_n (pc := 62) dX2_addCell_62 rfl rfl ?_
  refine go_iconst (pc := 63) (v := 2) dX2_addCell_63 (by decide) ?_
  refine go_icmp_eq_f (pc := 64) (tgt := 89) dX2_addCell_64 (by decide) (by decide) ?_
  refine go_aload_n (pc := 67) dX2_addCell_67 rfl rfl ?_
  refine go_get (pc := 68) fX2_9 rfl (gz_b (by decide)) (wl_at (i := 2) rfl) rfl dX2_addCell_68 ?_
  refine go_aload_n (pc := 71) dX2_addCell_71 rfl rfl ?_
  refine go_get (pc := 72) fX2_29 rfl (gz_b (by decide)) (wl_at (i := 2) rfl) rfl dX2_addCell_72 ?_
  refine go_iconst (pc := 75) (v := 2) dX2_addCell_75 (by decide) ?_
  refine go_iadd (pc := 76) dX2_addCell_76 ?_
  refine go_top (y := 2) (by decide) ?_
  refine go_aload_n (pc := 77) dX2_addCell_77 rfl rfl ?_
  refine go_get (pc := 78) fX2_29 rfl (gz_b (by decide)) (wl_at (i := 2) rfl) rfl dX2_addCell_78 ?_
  refine go_iconst (pc := 81) (v := 2) dX2_addCell_81 (by decide) ?_
  refine go_iadd (pc := 82) dX2_addCell_82 ?_
  refine go_top (y := 2) (by decide) ?_
  refine go_iload_n (pc := 83) dX2_addCell_83 rfl rfl ?_
  refine go_iadd (pc := 84) dX2_addCell_84 ?_
  refine go_iconst (pc := 85) (v := (-1)) dX2_addCell_85 (by decide) ?_
  refine go_sec (y := nI (2 + j)) (by rw [show (2 : Int32) = nI 2 from by decide, nI_add]) ?_
  refine go_callS_v (pc := 86) sX2_44 rfl (ct_fillr (a := G.2.1 + 3) (N := 256) (f := (upd (upd (fun _ => 0) (0 : Int32).toNatClampNeg 1) (1 : Int32).toNatClampNeg (nI j))) ((-1)) (fr := 2) (to := 2 + j) (by omega) (by omega) (by decide) (gz_b (by decide)) (wl_at (i := 3) rfl)) rfl rfl (Nat.le_of_ble_eq_true rfl) ⟨Nat.le_of_ble_eq_true rfl, Nat.le_of_ble_eq_true rfl, (Nat.le_add_right _ _), (Nat.le_add_right _ _)⟩ dX2_addCell_86 ?_
  refine go_ext (wl_up (i := 3) rfl rfl) ?_
  refine go_aload_n (pc := 89) dX2_addCell_89 rfl rfl ?_
  refine go_get (pc := 90) fX2_15 rfl (gz_b (by decide)) (wl_at (i := 2) rfl) rfl dX2_addCell_90 ?_
  refine go_iload_n (pc := 93) dX2_addCell_93 rfl rfl ?_
  refine go_aload_n (pc := 94) dX2_addCell_94 rfl rfl ?_
  refine go_get (pc := 95) fX2_29 rfl (gz_b (by decide)) (wl_at (i := 2) rfl) rfl dX2_addCell_95 ?_
  refine go_iast (pc := 98) (gz_b (by decide)) (wl_at (i := 4) rfl) (gv_in (by decide)) dX2_addCell_98 ?_
  refine go_ext (wl_up (i := 4) rfl rfl) ?_
  refine go_aload_n (pc := 99) dX2_addCell_99 rfl rfl ?_
  refine go_get (pc := 100) fX2_18 rfl (gz_b (by decide)) (wl_at (i := 2) rfl) rfl dX2_addCell_100 ?_
  refine go_iload_n (pc := 103) dX2_addCell_103 rfl rfl ?_
  refine go_iconst (pc := 104) (v := 0) dX2_addCell_104 (by decide) ?_
  refine go_iast (pc := 105) (gz_b (by decide)) (wl_at (i := 5) rfl) (gv_in (by decide)) dX2_addCell_105 ?_
  refine go_ext (wl_up (i := 5) rfl rfl) ?_
  refine go_aload_n (pc := 106) dX2_addCell_106 rfl rfl ?_
  refine go_dup (pc := 107) dX2_addCell_107 rfl ?_
  refine go_get (pc := 108) fX2_29 rfl (gz_b (by decide)) (wl_at (i := 2) rfl) rfl dX2_addCell_108 ?_
  refine go_iload_n (pc := 111) dX2_addCell_111 rfl rfl ?_
  refine go_iload_n (pc := 112) dX2_addCell_112 rfl rfl ?_
  refine go_callS_i (pc := 113) sX2_67 rfl (cX2_intsFor_9 j hj) rfl rfl (Nat.le_of_ble_eq_true rfl) ⟨Nat.le_of_ble_eq_true rfl, Nat.le_of_ble_eq_true rfl, (Nat.le_add_right _ _), (Nat.le_add_right _ _)⟩ dX2_addCell_113 ?_
  refine go_iadd (pc := 116) dX2_addCell_116 ?_
  refine go_put (pc := 117) fX2_29 rfl (gz_b (by decide)) (wl_at (i := 2) rfl) (Nat.le_of_ble_eq_true rfl) rfl rfl dX2_addCell_117 ?_
  refine go_ext (wl_up (i := 2) rfl rfl) ?_
  refine go_aload_n (pc := 120) dX2_addCell_120 rfl rfl ?_
  refine go_dup (pc := 121) dX2_addCell_121 rfl ?_
  refine go_get (pc := 122) fX2_32 rfl (gz_b (by decide)) (wl_at (i := 2) rfl) rfl dX2_addCell_122 ?_
  refine go_iconst (pc := 125) (v := 1) dX2_addCell_125 (by decide) ?_
  refine go_iadd (pc := 126) dX2_addCell_126 ?_
  refine go_top (y := 1) (by decide) ?_
  refine go_put (pc := 127) fX2_32 rfl (gz_b (by decide)) (wl_at (i := 2) rfl) (Nat.le_of_ble_eq_true rfl) rfl rfl dX2_addCell_127 ?_
  refine go_ext (wl_up (i := 2) rfl rfl) ?_
  refine go_aload_n (pc := 130) dX2_addCell_130 rfl rfl ?_
  refine go_dup (pc := 131) dX2_addCell_131 rfl ?_
  refine go_get (pc := 132) fX2_35 rfl (gz_b (by decide)) (wl_at (i := 2) rfl) rfl dX2_addCell_132 ?_
  refine go_iconst (pc := 135) (v := 1) dX2_addCell_135 (by decide) ?_
  refine go_iadd (pc := 136) dX2_addCell_136 ?_
  refine go_top (y := 1) (by decide) ?_
  refine go_put (pc := 137) fX2_35 rfl (gz_b (by decide)) (wl_at (i := 2) rfl) (Nat.le_of_ble_eq_true rfl) rfl rfl dX2_addCell_137 ?_
  refine go_ext (wl_up (i := 2) rfl rfl) ?_
  refine go_iload_n (pc := 140) dX2_addCell_140 rfl rfl ?_
  refine go_w (show _ = wl G.2.1 [ob 9 [.ref (G.2.1 + 1), .ref (G.2.1 + 23), .ref (G.2.1 + 27), .ref (G.2.1 + 28), .ref (G.2.1 + 22), .int 0, .int 0, .null, .int 0, .null, .int 0], ob 6 [.ref (G.2.1 + 2), .ref (G.2.1 + 6), .ref (G.2.1 + 12), .ref (G.2.1 + 14), .ref (G.2.1 + 17), .ref (G.2.1 + 20), .ref (G.2.1 + 21)], ob 2 [.int 256, .int (0 + (2 + (nI j))), .int 1, .int 1, .ref (G.2.1 + 3), .ref (G.2.1 + 4), .ref (G.2.1 + 5)], ai G 256 (fun q => if 2 ≤ q ∧ q < 2 + j then (-1) else (upd (upd (fun _ => 0) (0 : Int32).toNatClampNeg 1) (1 : Int32).toNatClampNeg (nI j)) q), ai G 500 (upd (fun _ => (-1)) (0 : Int32).toNatClampNeg 0), ai G 500 (upd (fun _ => 0) (0 : Int32).toNatClampNeg 0), ob 3 [.int 0, .int 0, .int 0, .int 0, .ref (G.2.1 + 7), .ref (G.2.1 + 8), .ref (G.2.1 + 9), .ref (G.2.1 + 10), .ref (G.2.1 + 11)], ai G 500 (fun _ => 0), ai G 500 (fun _ => 0), ai G 500 (fun _ => 0), ai G 500 (fun _ => 0), ai G 500 (fun _ => 0), ob 8 [.int 0, .int 0, .int 0, .int 0, .int 0, .int 0, .ref (G.2.1 + 13)], ai G 300 (fun _ => 0), ob 4 [.int 0, .ref (G.2.1 + 15), .ref (G.2.1 + 16)], ai G 1295 (fun _ => 0), ai G 1295 (fun _ => 0), ob 5 [.int 0, .int 0, .int 0, .int 0, .ref (G.2.1 + 18), .ref (G.2.1 + 19)], ai G 200 (fun _ => 0), ai G 8 (fun _ => (-1)), ai G 24 (fun _ => (-1)), ai G 32 (fun _ => (-1)), ai G 14 (fun _ => 0), ob 7 [.ref (G.2.1 + 1), .ref (G.2.1 + 2), .ref (G.2.1 + 6), .ref (G.2.1 + 22), .ref (G.2.1 + 24), .int 0, .ref (G.2.1 + 25), .ref (G.2.1 + 26), .int 0], ai G 500 (fun _ => 0), ai G 500 (fun _ => 0), ai G 500 (fun _ => 0), ob 0 [.ref (G.2.1 + 1), .ref (G.2.1 + 2), .ref (G.2.1 + 23), .int 0], ob 1 [.ref (G.2.1 + 29), .int 0, .int 0, .ref (G.2.1 + 30), .ref (G.2.1 + 31)], ai G 0 (fun _ => 0), ai G 500 (fun _ => 0), ai G 501 (fun _ => 0), ob 10 [.ref (G.2.1 + 33), .ref (G.2.1 + 34), .ref (G.2.1 + 35), .int 0, .int 0, .int 0, .int 0, .int 0, .ref (G.2.1 + 36), .ref (G.2.1 + 37), .ref (G.2.1 + 38), .ref (G.2.1 + 39), .int 0, .ref (G.2.1 + 40), .int 0, .ref (G.2.1 + 41)], ai G 26100 (sx 256), ai G 26100 (fun _ => 0), ai G 26100 (fun _ => 0), ai G 14 (fun _ => 0), ai G 500 (fun _ => 0), ai G 500 (fun _ => 0), az G 500 (fun _ => 0), ai G 501 (fun _ => 0), ai G 500 (fun _ => 0)] from rfl) ?_
  exact go_iret (pc := 141) rfl dX2_addCell_141
set_option maxRecDepth 100000 in
set_option maxHeartbeats 4000000 in
theorem cX0_makeCell_6 {l : Launch} {G : gG} (j : Nat) (hj : j ≤ 254) (k0 : nI j ≤ 300) (k1 : 0 ≤ nI j) (k4 : ¬ nI j < 0) (k2 : 2 + (nI j) ≤ 256) : Ct l G mX0_makeCell 3 69 [.ref (G.2.1 + 27), .int 1, .int (nI j)] 42 90324 (wl G.2.1 (LF G)) (some (.int 0), 42, 90324, (wl G.2.1 [ob 9 [.ref (G.2.1 + 1), .ref (G.2.1 + 23), .ref (G.2.1 + 27), .ref (G.2.1 + 28), .ref (G.2.1 + 22), .int 0, .int 0, .null, .int 0, .null, .int 0], ob 6 [.ref (G.2.1 + 2), .ref (G.2.1 + 6), .ref (G.2.1 + 12), .ref (G.2.1 + 14), .ref (G.2.1 + 17), .ref (G.2.1 + 20), .ref (G.2.1 + 21)], ob 2 [.int 256, .int (0 + (2 + (nI j))), .int 1, .int 1, .ref (G.2.1 + 3), .ref (G.2.1 + 4), .ref (G.2.1 + 5)], ai G 256 (fun q => if 2 ≤ q ∧ q < 2 + j then (-1) else (upd (upd (fun _ => 0) (0 : Int32).toNatClampNeg 1) (1 : Int32).toNatClampNeg (nI j)) q), ai G 500 (upd (fun _ => (-1)) (0 : Int32).toNatClampNeg 0), ai G 500 (upd (fun _ => 0) (0 : Int32).toNatClampNeg 0), ob 3 [.int 0, .int 0, .int 0, .int 0, .ref (G.2.1 + 7), .ref (G.2.1 + 8), .ref (G.2.1 + 9), .ref (G.2.1 + 10), .ref (G.2.1 + 11)], ai G 500 (fun _ => 0), ai G 500 (fun _ => 0), ai G 500 (fun _ => 0), ai G 500 (fun _ => 0), ai G 500 (fun _ => 0), ob 8 [.int 0, .int 0, .int 0, .int 0, .int 0, .int 0, .ref (G.2.1 + 13)], ai G 300 (fun _ => 0), ob 4 [.int 0, .ref (G.2.1 + 15), .ref (G.2.1 + 16)], ai G 1295 (fun _ => 0), ai G 1295 (fun _ => 0), ob 5 [.int 0, .int 0, .int 0, .int 0, .ref (G.2.1 + 18), .ref (G.2.1 + 19)], ai G 200 (fun _ => 0), ai G 8 (fun _ => (-1)), ai G 24 (fun _ => (-1)), ai G 32 (fun _ => (-1)), ai G 14 (fun _ => 0), ob 7 [.ref (G.2.1 + 1), .ref (G.2.1 + 2), .ref (G.2.1 + 6), .ref (G.2.1 + 22), .ref (G.2.1 + 24), .int 0, .ref (G.2.1 + 25), .ref (G.2.1 + 26), .int 0], ai G 500 (fun _ => 0), ai G 500 (fun _ => 0), ai G 500 (fun _ => 0), ob 0 [.ref (G.2.1 + 1), .ref (G.2.1 + 2), .ref (G.2.1 + 23), .int 0], ob 1 [.ref (G.2.1 + 29), .int 0, .int 0, .ref (G.2.1 + 30), .ref (G.2.1 + 31)], ai G 0 (fun _ => 0), ai G 500 (fun _ => 0), ai G 501 (fun _ => 0), ob 10 [.ref (G.2.1 + 33), .ref (G.2.1 + 34), .ref (G.2.1 + 35), .int 0, .int 0, .int 0, .int 0, .int 0, .ref (G.2.1 + 36), .ref (G.2.1 + 37), .ref (G.2.1 + 38), .ref (G.2.1 + 39), .int 0, .ref (G.2.1 + 40), .int 0, .ref (G.2.1 + 41)], ai G 26100 (sx 256), ai G 26100 (fun _ => 0), ai G 26100 (fun _ => 0), ai G 14 (fun _ => 0), ai G 500 (fun _ => 0), ai G 500 (fun _ => 0), az G 500 (fun _ => 0), ai G 501 (fun _ => 0), ai G 500 (fun _ => 0)])) := by
  refine Ct.of (by decide) (Nat.le_of_ble_eq_true rfl) ⟨Nat.le_refl _, Nat.le_refl _⟩ ?_
  show Go l G mX0_makeCell _ 0 [(0, .ref (G.2.1 + 27)), (1, .int 1), (2, .int (nI j))] [] 42 90324 (wl G.2.1 (LF G))
  refine go_iload_n (pc := 0) dX0_makeCell_0 rfl rfl ?_
  refine go_callS_i (pc := 1) sX0_26 rfl (cX2_isCounted_8) rfl rfl (Nat.le_of_ble_eq_true rfl) ⟨Nat.le_of_ble_eq_true rfl, Nat.le_of_ble_eq_true rfl, (Nat.le_add_right _ _), (Nat.le_add_right _ _)⟩ dX0_makeCell_1 ?_
  refine go_if_eq_f (pc := 4) (tgt := 11) dX0_makeCell_4 (by decide) (by decide) ?_
  refine go_iload_n (pc := 7) dX0_makeCell_7 rfl rfl ?_
  refine go_goto (pc := 8) (tgt := 12) dX0_makeCell_8 (by decide) ?_
  refine go_istore_n (pc := 12) (lv' := [(3, .int (nI j)), (0, .ref (G.2.1 + 27)), (1, .int 1), (2, .int (nI j))]) dX0_makeCell_12 rfl (by decide) rfl ?_
  refine go_iload_n (pc := 13) dX0_makeCell_13 rfl rfl ?_
  refine go_if_ge_t (pc := 14) (tgt := 20) dX0_makeCell_14 (by decide) k1 ?_
  refine go_iload_n (pc := 20) dX0_makeCell_20 rfl rfl ?_
  refine go_iload_n (pc := 21) dX0_makeCell_21 rfl rfl ?_
  refine go_callS_i (pc := 22) sX0_32 rfl (cX2_intsFor_8 j hj) rfl rfl (Nat.le_of_ble_eq_true rfl) ⟨Nat.le_of_ble_eq_true rfl, Nat.le_of_ble_eq_true rfl, (Nat.le_add_right _ _), (Nat.le_add_right _ _)⟩ dX0_makeCell_22 ?_
  refine go_istore (pc := 25) (lv' := [(4, .int (2 + (nI j))), (3, .int (nI j)), (0, .ref (G.2.1 + 27)), (1, .int 1), (2, .int (nI j))]) dX0_makeCell_25 (by decide) rfl ?_
  refine go_aload_n (pc := 27) dX0_makeCell_27 rfl rfl ?_
  refine go_get (pc := 28) fX0_21 rfl (gz_b (by decide)) (wl_at (i := 27) rfl) rfl dX0_makeCell_28 ?_
  refine go_get (pc := 31) fX0_36 rfl (gz_b (by decide)) (wl_at (i := 2) rfl) rfl dX0_makeCell_31 ?_
  refine go_sipush (pc := 34) (v := 500) dX0_makeCell_34 (by decide) ?_
  refine go_icmp_ge_f (pc := 37) (tgt := 72) dX0_makeCell_37 (by decide) (by decide) ?_
  refine go_iload (pc := 40) dX0_makeCell_40 rfl ?_
  refine go_aload_n (pc := 42) dX0_makeCell_42 rfl rfl ?_
  refine go_get (pc := 43) fX0_21 rfl (gz_b (by decide)) (wl_at (i := 27) rfl) rfl dX0_makeCell_43 ?_
  refine go_callV_i (pc := 46) vX0_40 rfl (cX2_free_1) rfl rfl (gz_b (by decide)) (wl_at (i := 2) rfl) rfl (Nat.le_of_ble_eq_true rfl) ⟨Nat.le_of_ble_eq_true rfl, Nat.le_of_ble_eq_true rfl, (Nat.le_add_right _ _), (Nat.le_add_right _ _)⟩ dX0_makeCell_46 ?_
  refine go_icmp_le_t (pc := 49) (tgt := 75) dX0_makeCell_49 (by decide) k2 ?_
  refine go_iconst (pc := 75) (v := 0) dX0_makeCell_75 (by decide) ?_
  refine go_istore (pc := 76) (lv' := [(5, .int 0), (4, .int (2 + (nI j))), (3, .int (nI j)), (0, .ref (G.2.1 + 27)), (1, .int 1), (2, .int (nI j))]) dX0_makeCell_76 (by decide) rfl ?_
  refine go_iload (pc := 78) dX0_makeCell_78 rfl ?_
  refine go_iconst (pc := 80) (v := 2) dX0_makeCell_80 (by decide) ?_
  refine go_icmp_ge_f (pc := 81) (tgt := 109) dX0_makeCell_81 (by decide) (by decide) ?_
  refine go_iload (pc := 84) dX0_makeCell_84 rfl ?_
  refine go_aload_n (pc := 86) dX0_makeCell_86 rfl rfl ?_
  refine go_get (pc := 87) fX0_21 rfl (gz_b (by decide)) (wl_at (i := 27) rfl) rfl dX0_makeCell_87 ?_
  refine go_callV_i (pc := 90) vX0_40 rfl (cX2_free_1) rfl rfl (gz_b (by decide)) (wl_at (i := 2) rfl) rfl (Nat.le_of_ble_eq_true rfl) ⟨Nat.le_of_ble_eq_true rfl, Nat.le_of_ble_eq_true rfl, (Nat.le_add_right _ _), (Nat.le_add_right _ _)⟩ dX0_makeCell_90 ?_
  refine go_icmp_le_t (pc := 93) (tgt := 109) dX0_makeCell_93 (by decide) k2 ?_
  refine go_iload (pc := 109) dX0_makeCell_109 rfl ?_
  refine go_aload_n (pc := 111) dX0_makeCell_111 rfl rfl ?_
  refine go_get (pc := 112) fX0_21 rfl (gz_b (by decide)) (wl_at (i := 27) rfl) rfl dX0_makeCell_112 ?_
  refine go_callV_i (pc := 115) vX0_40 rfl (cX2_free_1) rfl rfl (gz_b (by decide)) (wl_at (i := 2) rfl) rfl (Nat.le_of_ble_eq_true rfl) ⟨Nat.le_of_ble_eq_true rfl, Nat.le_of_ble_eq_true rfl, (Nat.le_add_right _ _), (Nat.le_add_right _ _)⟩ dX0_makeCell_115 ?_
  refine go_icmp_le_t (pc := 118) (tgt := 124) dX0_makeCell_118 (by decide) k2 ?_
  refine go_aload_n (pc := 124) dX0_makeCell_124 rfl rfl ?_
  refine go_get (pc := 125) fX0_21 rfl (gz_b (by decide)) (wl_at (i := 27) rfl) rfl dX0_makeCell_125 ?_
  refine go_iload_n (pc := 128) dX0_makeCell_128 rfl rfl ?_
  refine go_iload_n (pc := 129) dX0_makeCell_129 rfl rfl ?_
  refine go_callV_i (pc := 130) vX0_55 rfl (cX2_addCell_4 j hj k0 k1 k4 k2) rfl rfl (gz_b (by decide)) (wl_at (i := 2) rfl) rfl (Nat.le_of_ble_eq_true rfl) ⟨Nat.le_of_ble_eq_true rfl, Nat.le_of_ble_eq_true rfl, (Nat.le_add_right _ _), (Nat.le_add_right _ _)⟩ dX0_makeCell_130 ?_
  refine go_istore (pc := 133) (lv' := [(5, .int 0), (4, .int (2 + (nI j))), (3, .int (nI j)), (0, .ref (G.2.1 + 27)), (1, .int 1), (2, .int (nI j))]) dX0_makeCell_133 (by decide) rfl ?_
  refine go_aload_n (pc := 135) dX0_makeCell_135 rfl rfl ?_
  refine go_get (pc := 136) fX0_22 rfl (gz_b (by decide)) (wl_at (i := 27) rfl) rfl dX0_makeCell_136 ?_
  refine go_iload (pc := 139) dX0_makeCell_139 rfl ?_
  refine go_iconst (pc := 141) (v := 5) dX0_makeCell_141 (by decide) ?_
  refine go_iconst (pc := 142) (v := (-1)) dX0_makeCell_142 (by decide) ?_
  refine go_iconst (pc := 143) (v := (-1)) dX0_makeCell_143 (by decide) ?_
  refine go_callV_v (pc := 144) vX0_58 rfl (ct_mark_0 (a := G.2.1 + 23) (a0 := G.2.1 + 1) (a1 := G.2.1 + 2) (a2 := G.2.1 + 6) (a3 := G.2.1 + 22) (a4 := G.2.1 + 24) (a6 := G.2.1 + 25) (a7 := G.2.1 + 26) (g5 := 0) (g8 := 0) (u1 := 0) (u2 := 0) (u3 := 0) (p4 := G.2.1 + 7) (p5 := G.2.1 + 8) (p6 := G.2.1 + 9) (p7 := G.2.1 + 10) (p8 := G.2.1 + 11) (gz_b (by decide)) (gz_b (by decide)) (wl_at (i := 23) rfl) (wl_at (i := 6) rfl)) rfl rfl (gz_b (by decide)) (wl_at (i := 23) rfl) rfl (Nat.le_of_ble_eq_true rfl) ⟨Nat.le_of_ble_eq_true rfl, Nat.le_of_ble_eq_true rfl, (Nat.le_add_right _ _), (Nat.le_add_right _ _)⟩ dX0_makeCell_144 ?_
  refine go_iload (pc := 147) dX0_makeCell_147 rfl ?_
  exact go_iret (pc := 149) rfl dX0_makeCell_149
set_option maxRecDepth 100000 in
set_option maxHeartbeats 4000000 in
theorem cX9_findingIn_10 {l : Launch} {G : gG} (j : Nat) (hj : j ≤ 254) : Ct l G mX9_findingIn 0 0 [.int 0] 42 90324 (wl G.2.1 [ob 9 [.ref (G.2.1 + 1), .ref (G.2.1 + 23), .ref (G.2.1 + 27), .ref (G.2.1 + 28), .ref (G.2.1 + 22), .int 0, .int 0, .null, .int 0, .null, .int 0], ob 6 [.ref (G.2.1 + 2), .ref (G.2.1 + 6), .ref (G.2.1 + 12), .ref (G.2.1 + 14), .ref (G.2.1 + 17), .ref (G.2.1 + 20), .ref (G.2.1 + 21)], ob 2 [.int 256, .int (0 + (2 + (nI j))), .int 1, .int 1, .ref (G.2.1 + 3), .ref (G.2.1 + 4), .ref (G.2.1 + 5)], ai G 256 (fun q => if 2 ≤ q ∧ q < 2 + j then (-1) else (upd (upd (fun _ => 0) (0 : Int32).toNatClampNeg 1) (1 : Int32).toNatClampNeg (nI j)) q), ai G 500 (upd (fun _ => (-1)) (0 : Int32).toNatClampNeg 0), ai G 500 (upd (fun _ => 0) (0 : Int32).toNatClampNeg 0), ob 3 [.int 0, .int 0, .int 0, .int 0, .ref (G.2.1 + 7), .ref (G.2.1 + 8), .ref (G.2.1 + 9), .ref (G.2.1 + 10), .ref (G.2.1 + 11)], ai G 500 (fun _ => 0), ai G 500 (fun _ => 0), ai G 500 (fun _ => 0), ai G 500 (fun _ => 0), ai G 500 (fun _ => 0), ob 8 [.int 0, .int 0, .int 0, .int 0, .int 0, .int 0, .ref (G.2.1 + 13)], ai G 300 (fun _ => 0), ob 4 [.int 0, .ref (G.2.1 + 15), .ref (G.2.1 + 16)], ai G 1295 (fun _ => 0), ai G 1295 (fun _ => 0), ob 5 [.int 0, .int 0, .int 0, .int 0, .ref (G.2.1 + 18), .ref (G.2.1 + 19)], ai G 200 (fun _ => 0), ai G 8 (fun _ => (-1)), ai G 24 (fun _ => (-1)), ai G 32 (fun _ => (-1)), ai G 14 (fun _ => 0), ob 7 [.ref (G.2.1 + 1), .ref (G.2.1 + 2), .ref (G.2.1 + 6), .ref (G.2.1 + 22), .ref (G.2.1 + 24), .int 0, .ref (G.2.1 + 25), .ref (G.2.1 + 26), .int 0], ai G 500 (fun _ => 0), ai G 500 (fun _ => 0), ai G 500 (fun _ => 0), ob 0 [.ref (G.2.1 + 1), .ref (G.2.1 + 2), .ref (G.2.1 + 23), .int 0], ob 1 [.ref (G.2.1 + 29), .int 0, .int 0, .ref (G.2.1 + 30), .ref (G.2.1 + 31)], ai G 0 (fun _ => 0), ai G 500 (fun _ => 0), ai G 501 (fun _ => 0), ob 10 [.ref (G.2.1 + 33), .ref (G.2.1 + 34), .ref (G.2.1 + 35), .int 0, .int 0, .int 0, .int 0, .int 0, .ref (G.2.1 + 36), .ref (G.2.1 + 37), .ref (G.2.1 + 38), .ref (G.2.1 + 39), .int 0, .ref (G.2.1 + 40), .int 0, .ref (G.2.1 + 41)], ai G 26100 (sx 256), ai G 26100 (fun _ => 0), ai G 26100 (fun _ => 0), ai G 14 (fun _ => 0), ai G 500 (fun _ => 0), ai G 500 (fun _ => 0), az G 500 (fun _ => 0), ai G 501 (fun _ => 0), ai G 500 (fun _ => 0)]) (some (.int 0), 42, 90324, (wl G.2.1 [ob 9 [.ref (G.2.1 + 1), .ref (G.2.1 + 23), .ref (G.2.1 + 27), .ref (G.2.1 + 28), .ref (G.2.1 + 22), .int 0, .int 0, .null, .int 0, .null, .int 0], ob 6 [.ref (G.2.1 + 2), .ref (G.2.1 + 6), .ref (G.2.1 + 12), .ref (G.2.1 + 14), .ref (G.2.1 + 17), .ref (G.2.1 + 20), .ref (G.2.1 + 21)], ob 2 [.int 256, .int (0 + (2 + (nI j))), .int 1, .int 1, .ref (G.2.1 + 3), .ref (G.2.1 + 4), .ref (G.2.1 + 5)], ai G 256 (fun q => if 2 ≤ q ∧ q < 2 + j then (-1) else (upd (upd (fun _ => 0) (0 : Int32).toNatClampNeg 1) (1 : Int32).toNatClampNeg (nI j)) q), ai G 500 (upd (fun _ => (-1)) (0 : Int32).toNatClampNeg 0), ai G 500 (upd (fun _ => 0) (0 : Int32).toNatClampNeg 0), ob 3 [.int 0, .int 0, .int 0, .int 0, .ref (G.2.1 + 7), .ref (G.2.1 + 8), .ref (G.2.1 + 9), .ref (G.2.1 + 10), .ref (G.2.1 + 11)], ai G 500 (fun _ => 0), ai G 500 (fun _ => 0), ai G 500 (fun _ => 0), ai G 500 (fun _ => 0), ai G 500 (fun _ => 0), ob 8 [.int 0, .int 0, .int 0, .int 0, .int 0, .int 0, .ref (G.2.1 + 13)], ai G 300 (fun _ => 0), ob 4 [.int 0, .ref (G.2.1 + 15), .ref (G.2.1 + 16)], ai G 1295 (fun _ => 0), ai G 1295 (fun _ => 0), ob 5 [.int 0, .int 0, .int 0, .int 0, .ref (G.2.1 + 18), .ref (G.2.1 + 19)], ai G 200 (fun _ => 0), ai G 8 (fun _ => (-1)), ai G 24 (fun _ => (-1)), ai G 32 (fun _ => (-1)), ai G 14 (fun _ => 0), ob 7 [.ref (G.2.1 + 1), .ref (G.2.1 + 2), .ref (G.2.1 + 6), .ref (G.2.1 + 22), .ref (G.2.1 + 24), .int 0, .ref (G.2.1 + 25), .ref (G.2.1 + 26), .int 0], ai G 500 (fun _ => 0), ai G 500 (fun _ => 0), ai G 500 (fun _ => 0), ob 0 [.ref (G.2.1 + 1), .ref (G.2.1 + 2), .ref (G.2.1 + 23), .int 0], ob 1 [.ref (G.2.1 + 29), .int 0, .int 0, .ref (G.2.1 + 30), .ref (G.2.1 + 31)], ai G 0 (fun _ => 0), ai G 500 (fun _ => 0), ai G 501 (fun _ => 0), ob 10 [.ref (G.2.1 + 33), .ref (G.2.1 + 34), .ref (G.2.1 + 35), .int 0, .int 0, .int 0, .int 0, .int 0, .ref (G.2.1 + 36), .ref (G.2.1 + 37), .ref (G.2.1 + 38), .ref (G.2.1 + 39), .int 0, .ref (G.2.1 + 40), .int 0, .ref (G.2.1 + 41)], ai G 26100 (sx 256), ai G 26100 (fun _ => 0), ai G 26100 (fun _ => 0), ai G 14 (fun _ => 0), ai G 500 (fun _ => 0), ai G 500 (fun _ => 0), az G 500 (fun _ => 0), ai G 501 (fun _ => 0), ai G 500 (fun _ => 0)])) := by
  refine Ct.of (by decide) (Nat.le_of_ble_eq_true rfl) ⟨Nat.le_refl _, Nat.le_refl _⟩ ?_
  show Go l G mX9_findingIn _ 0 [(0, .int 0)] [] 42 90324 (wl G.2.1 [ob 9 [.ref (G.2.1 + 1), .ref (G.2.1 + 23), .ref (G.2.1 + 27), .ref (G.2.1 + 28), .ref (G.2.1 + 22), .int 0, .int 0, .null, .int 0, .null, .int 0], ob 6 [.ref (G.2.1 + 2), .ref (G.2.1 + 6), .ref (G.2.1 + 12), .ref (G.2.1 + 14), .ref (G.2.1 + 17), .ref (G.2.1 + 20), .ref (G.2.1 + 21)], ob 2 [.int 256, .int (0 + (2 + (nI j))), .int 1, .int 1, .ref (G.2.1 + 3), .ref (G.2.1 + 4), .ref (G.2.1 + 5)], ai G 256 (fun q => if 2 ≤ q ∧ q < 2 + j then (-1) else (upd (upd (fun _ => 0) (0 : Int32).toNatClampNeg 1) (1 : Int32).toNatClampNeg (nI j)) q), ai G 500 (upd (fun _ => (-1)) (0 : Int32).toNatClampNeg 0), ai G 500 (upd (fun _ => 0) (0 : Int32).toNatClampNeg 0), ob 3 [.int 0, .int 0, .int 0, .int 0, .ref (G.2.1 + 7), .ref (G.2.1 + 8), .ref (G.2.1 + 9), .ref (G.2.1 + 10), .ref (G.2.1 + 11)], ai G 500 (fun _ => 0), ai G 500 (fun _ => 0), ai G 500 (fun _ => 0), ai G 500 (fun _ => 0), ai G 500 (fun _ => 0), ob 8 [.int 0, .int 0, .int 0, .int 0, .int 0, .int 0, .ref (G.2.1 + 13)], ai G 300 (fun _ => 0), ob 4 [.int 0, .ref (G.2.1 + 15), .ref (G.2.1 + 16)], ai G 1295 (fun _ => 0), ai G 1295 (fun _ => 0), ob 5 [.int 0, .int 0, .int 0, .int 0, .ref (G.2.1 + 18), .ref (G.2.1 + 19)], ai G 200 (fun _ => 0), ai G 8 (fun _ => (-1)), ai G 24 (fun _ => (-1)), ai G 32 (fun _ => (-1)), ai G 14 (fun _ => 0), ob 7 [.ref (G.2.1 + 1), .ref (G.2.1 + 2), .ref (G.2.1 + 6), .ref (G.2.1 + 22), .ref (G.2.1 + 24), .int 0, .ref (G.2.1 + 25), .ref (G.2.1 + 26), .int 0], ai G 500 (fun _ => 0), ai G 500 (fun _ => 0), ai G 500 (fun _ => 0), ob 0 [.ref (G.2.1 + 1), .ref (G.2.1 + 2), .ref (G.2.1 + 23), .int 0], ob 1 [.ref (G.2.1 + 29), .int 0, .int 0, .ref (G.2.1 + 30), .ref (G.2.1 + 31)], ai G 0 (fun _ => 0), ai G 500 (fun _ => 0), ai G 501 (fun _ => 0), ob 10 [.ref (G.2.1 + 33), .ref (G.2.1 + 34), .ref (G.2.1 + 35), .int 0, .int 0, .int 0, .int 0, .int 0, .ref (G.2.1 + 36), .ref (G.2.1 + 37), .ref (G.2.1 + 38), .ref (G.2.1 + 39), .int 0, .ref (G.2.1 + 40), .int 0, .ref (G.2.1 + 41)], ai G 26100 (sx 256), ai G 26100 (fun _ => 0), ai G 26100 (fun _ => 0), ai G 14 (fun _ => 0), ai G 500 (fun _ => 0), ai G 500 (fun _ => 0), az G 500 (fun _ => 0), ai G 501 (fun _ => 0), ai G 500 (fun _ => 0)])
  refine go_iload_n (pc := 0) dX9_findingIn_0 rfl rfl ?_
  refine go_bipush (pc := 1) (v := (-11)) dX9_findingIn_1 (by decide) ?_
  refine go_icmp_gt_t (pc := 3) (tgt := 19) dX9_findingIn_3 (by decide) (by decide) ?_
  refine go_iconst (pc := 19) (v := 0) dX9_findingIn_19 (by decide) ?_
  exact go_iret (pc := 20) rfl dX9_findingIn_20
set_option maxRecDepth 100000 in
set_option maxHeartbeats 4000000 in
theorem cX9_answer_10 {l : Launch} {G : gG} (j : Nat) (hj : j ≤ 254) : Ct l G mX9_answer 1 20 [.ref (G.2.1 + 0), .int 0] 42 90324 (wl G.2.1 [ob 9 [.ref (G.2.1 + 1), .ref (G.2.1 + 23), .ref (G.2.1 + 27), .ref (G.2.1 + 28), .ref (G.2.1 + 22), .int 0, .int 0, .null, .int 0, .null, .int 0], ob 6 [.ref (G.2.1 + 2), .ref (G.2.1 + 6), .ref (G.2.1 + 12), .ref (G.2.1 + 14), .ref (G.2.1 + 17), .ref (G.2.1 + 20), .ref (G.2.1 + 21)], ob 2 [.int 256, .int (0 + (2 + (nI j))), .int 1, .int 1, .ref (G.2.1 + 3), .ref (G.2.1 + 4), .ref (G.2.1 + 5)], ai G 256 (fun q => if 2 ≤ q ∧ q < 2 + j then (-1) else (upd (upd (fun _ => 0) (0 : Int32).toNatClampNeg 1) (1 : Int32).toNatClampNeg (nI j)) q), ai G 500 (upd (fun _ => (-1)) (0 : Int32).toNatClampNeg 0), ai G 500 (upd (fun _ => 0) (0 : Int32).toNatClampNeg 0), ob 3 [.int 0, .int 0, .int 0, .int 0, .ref (G.2.1 + 7), .ref (G.2.1 + 8), .ref (G.2.1 + 9), .ref (G.2.1 + 10), .ref (G.2.1 + 11)], ai G 500 (fun _ => 0), ai G 500 (fun _ => 0), ai G 500 (fun _ => 0), ai G 500 (fun _ => 0), ai G 500 (fun _ => 0), ob 8 [.int 0, .int 0, .int 0, .int 0, .int 0, .int 0, .ref (G.2.1 + 13)], ai G 300 (fun _ => 0), ob 4 [.int 0, .ref (G.2.1 + 15), .ref (G.2.1 + 16)], ai G 1295 (fun _ => 0), ai G 1295 (fun _ => 0), ob 5 [.int 0, .int 0, .int 0, .int 0, .ref (G.2.1 + 18), .ref (G.2.1 + 19)], ai G 200 (fun _ => 0), ai G 8 (fun _ => (-1)), ai G 24 (fun _ => (-1)), ai G 32 (fun _ => (-1)), ai G 14 (fun _ => 0), ob 7 [.ref (G.2.1 + 1), .ref (G.2.1 + 2), .ref (G.2.1 + 6), .ref (G.2.1 + 22), .ref (G.2.1 + 24), .int 0, .ref (G.2.1 + 25), .ref (G.2.1 + 26), .int 0], ai G 500 (fun _ => 0), ai G 500 (fun _ => 0), ai G 500 (fun _ => 0), ob 0 [.ref (G.2.1 + 1), .ref (G.2.1 + 2), .ref (G.2.1 + 23), .int 0], ob 1 [.ref (G.2.1 + 29), .int 0, .int 0, .ref (G.2.1 + 30), .ref (G.2.1 + 31)], ai G 0 (fun _ => 0), ai G 500 (fun _ => 0), ai G 501 (fun _ => 0), ob 10 [.ref (G.2.1 + 33), .ref (G.2.1 + 34), .ref (G.2.1 + 35), .int 0, .int 0, .int 0, .int 0, .int 0, .ref (G.2.1 + 36), .ref (G.2.1 + 37), .ref (G.2.1 + 38), .ref (G.2.1 + 39), .int 0, .ref (G.2.1 + 40), .int 0, .ref (G.2.1 + 41)], ai G 26100 (sx 256), ai G 26100 (fun _ => 0), ai G 26100 (fun _ => 0), ai G 14 (fun _ => 0), ai G 500 (fun _ => 0), ai G 500 (fun _ => 0), az G 500 (fun _ => 0), ai G 501 (fun _ => 0), ai G 500 (fun _ => 0)]) (some (.int 0), 42, 90324, (wl G.2.1 [ob 9 [.ref (G.2.1 + 1), .ref (G.2.1 + 23), .ref (G.2.1 + 27), .ref (G.2.1 + 28), .ref (G.2.1 + 22), .int 0, .int 0, .null, .int 0, .null, .int 0], ob 6 [.ref (G.2.1 + 2), .ref (G.2.1 + 6), .ref (G.2.1 + 12), .ref (G.2.1 + 14), .ref (G.2.1 + 17), .ref (G.2.1 + 20), .ref (G.2.1 + 21)], ob 2 [.int 256, .int (0 + (2 + (nI j))), .int 1, .int 1, .ref (G.2.1 + 3), .ref (G.2.1 + 4), .ref (G.2.1 + 5)], ai G 256 (fun q => if 2 ≤ q ∧ q < 2 + j then (-1) else (upd (upd (fun _ => 0) (0 : Int32).toNatClampNeg 1) (1 : Int32).toNatClampNeg (nI j)) q), ai G 500 (upd (fun _ => (-1)) (0 : Int32).toNatClampNeg 0), ai G 500 (upd (fun _ => 0) (0 : Int32).toNatClampNeg 0), ob 3 [.int 0, .int 0, .int 0, .int 0, .ref (G.2.1 + 7), .ref (G.2.1 + 8), .ref (G.2.1 + 9), .ref (G.2.1 + 10), .ref (G.2.1 + 11)], ai G 500 (fun _ => 0), ai G 500 (fun _ => 0), ai G 500 (fun _ => 0), ai G 500 (fun _ => 0), ai G 500 (fun _ => 0), ob 8 [.int 0, .int 0, .int 0, .int 0, .int 0, .int 0, .ref (G.2.1 + 13)], ai G 300 (fun _ => 0), ob 4 [.int 0, .ref (G.2.1 + 15), .ref (G.2.1 + 16)], ai G 1295 (fun _ => 0), ai G 1295 (fun _ => 0), ob 5 [.int 0, .int 0, .int 0, .int 0, .ref (G.2.1 + 18), .ref (G.2.1 + 19)], ai G 200 (fun _ => 0), ai G 8 (fun _ => (-1)), ai G 24 (fun _ => (-1)), ai G 32 (fun _ => (-1)), ai G 14 (fun _ => 0), ob 7 [.ref (G.2.1 + 1), .ref (G.2.1 + 2), .ref (G.2.1 + 6), .ref (G.2.1 + 22), .ref (G.2.1 + 24), .int 0, .ref (G.2.1 + 25), .ref (G.2.1 + 26), .int 0], ai G 500 (fun _ => 0), ai G 500 (fun _ => 0), ai G 500 (fun _ => 0), ob 0 [.ref (G.2.1 + 1), .ref (G.2.1 + 2), .ref (G.2.1 + 23), .int 0], ob 1 [.ref (G.2.1 + 29), .int 0, .int 0, .ref (G.2.1 + 30), .ref (G.2.1 + 31)], ai G 0 (fun _ => 0), ai G 500 (fun _ => 0), ai G 501 (fun _ => 0), ob 10 [.ref (G.2.1 + 33), .ref (G.2.1 + 34), .ref (G.2.1 + 35), .int 0, .int 0, .int 0, .int 0, .int 0, .ref (G.2.1 + 36), .ref (G.2.1 + 37), .ref (G.2.1 + 38), .ref (G.2.1 + 39), .int 0, .ref (G.2.1 + 40), .int 0, .ref (G.2.1 + 41)], ai G 26100 (sx 256), ai G 26100 (fun _ => 0), ai G 26100 (fun _ => 0), ai G 14 (fun _ => 0), ai G 500 (fun _ => 0), ai G 500 (fun _ => 0), az G 500 (fun _ => 0), ai G 501 (fun _ => 0), ai G 500 (fun _ => 0)])) := by
  refine Ct.of (by decide) (Nat.le_of_ble_eq_true rfl) ⟨Nat.le_refl _, Nat.le_refl _⟩ ?_
  show Go l G mX9_answer _ 0 [(0, .ref (G.2.1 + 0)), (1, .int 0)] [] 42 90324 (wl G.2.1 [ob 9 [.ref (G.2.1 + 1), .ref (G.2.1 + 23), .ref (G.2.1 + 27), .ref (G.2.1 + 28), .ref (G.2.1 + 22), .int 0, .int 0, .null, .int 0, .null, .int 0], ob 6 [.ref (G.2.1 + 2), .ref (G.2.1 + 6), .ref (G.2.1 + 12), .ref (G.2.1 + 14), .ref (G.2.1 + 17), .ref (G.2.1 + 20), .ref (G.2.1 + 21)], ob 2 [.int 256, .int (0 + (2 + (nI j))), .int 1, .int 1, .ref (G.2.1 + 3), .ref (G.2.1 + 4), .ref (G.2.1 + 5)], ai G 256 (fun q => if 2 ≤ q ∧ q < 2 + j then (-1) else (upd (upd (fun _ => 0) (0 : Int32).toNatClampNeg 1) (1 : Int32).toNatClampNeg (nI j)) q), ai G 500 (upd (fun _ => (-1)) (0 : Int32).toNatClampNeg 0), ai G 500 (upd (fun _ => 0) (0 : Int32).toNatClampNeg 0), ob 3 [.int 0, .int 0, .int 0, .int 0, .ref (G.2.1 + 7), .ref (G.2.1 + 8), .ref (G.2.1 + 9), .ref (G.2.1 + 10), .ref (G.2.1 + 11)], ai G 500 (fun _ => 0), ai G 500 (fun _ => 0), ai G 500 (fun _ => 0), ai G 500 (fun _ => 0), ai G 500 (fun _ => 0), ob 8 [.int 0, .int 0, .int 0, .int 0, .int 0, .int 0, .ref (G.2.1 + 13)], ai G 300 (fun _ => 0), ob 4 [.int 0, .ref (G.2.1 + 15), .ref (G.2.1 + 16)], ai G 1295 (fun _ => 0), ai G 1295 (fun _ => 0), ob 5 [.int 0, .int 0, .int 0, .int 0, .ref (G.2.1 + 18), .ref (G.2.1 + 19)], ai G 200 (fun _ => 0), ai G 8 (fun _ => (-1)), ai G 24 (fun _ => (-1)), ai G 32 (fun _ => (-1)), ai G 14 (fun _ => 0), ob 7 [.ref (G.2.1 + 1), .ref (G.2.1 + 2), .ref (G.2.1 + 6), .ref (G.2.1 + 22), .ref (G.2.1 + 24), .int 0, .ref (G.2.1 + 25), .ref (G.2.1 + 26), .int 0], ai G 500 (fun _ => 0), ai G 500 (fun _ => 0), ai G 500 (fun _ => 0), ob 0 [.ref (G.2.1 + 1), .ref (G.2.1 + 2), .ref (G.2.1 + 23), .int 0], ob 1 [.ref (G.2.1 + 29), .int 0, .int 0, .ref (G.2.1 + 30), .ref (G.2.1 + 31)], ai G 0 (fun _ => 0), ai G 500 (fun _ => 0), ai G 501 (fun _ => 0), ob 10 [.ref (G.2.1 + 33), .ref (G.2.1 + 34), .ref (G.2.1 + 35), .int 0, .int 0, .int 0, .int 0, .int 0, .ref (G.2.1 + 36), .ref (G.2.1 + 37), .ref (G.2.1 + 38), .ref (G.2.1 + 39), .int 0, .ref (G.2.1 + 40), .int 0, .ref (G.2.1 + 41)], ai G 26100 (sx 256), ai G 26100 (fun _ => 0), ai G 26100 (fun _ => 0), ai G 14 (fun _ => 0), ai G 500 (fun _ => 0), ai G 500 (fun _ => 0), az G 500 (fun _ => 0), ai G 501 (fun _ => 0), ai G 500 (fun _ => 0)])
  refine go_aload_n (pc := 0) dX9_answer_0 rfl rfl ?_
  refine go_iload_n (pc := 1) dX9_answer_1 rfl rfl ?_
  refine go_callS_i (pc := 2) sX9_302 rfl (cX9_findingIn_10 j hj) rfl rfl (Nat.le_of_ble_eq_true rfl) ⟨Nat.le_of_ble_eq_true rfl, Nat.le_of_ble_eq_true rfl, (Nat.le_add_right _ _), (Nat.le_add_right _ _)⟩ dX9_answer_2 ?_
  refine go_put (pc := 5) fX9_53 rfl (gz_b (by decide)) (wl_at (i := 0) rfl) (Nat.le_of_ble_eq_true rfl) rfl rfl dX9_answer_5 ?_
  refine go_ext (wl_up (i := 0) rfl rfl) ?_
  refine go_iload_n (pc := 8) dX9_answer_8 rfl rfl ?_
  refine go_w (show _ = wl G.2.1 [ob 9 [.ref (G.2.1 + 1), .ref (G.2.1 + 23), .ref (G.2.1 + 27), .ref (G.2.1 + 28), .ref (G.2.1 + 22), .int 0, .int 0, .null, .int 0, .null, .int 0], ob 6 [.ref (G.2.1 + 2), .ref (G.2.1 + 6), .ref (G.2.1 + 12), .ref (G.2.1 + 14), .ref (G.2.1 + 17), .ref (G.2.1 + 20), .ref (G.2.1 + 21)], ob 2 [.int 256, .int (0 + (2 + (nI j))), .int 1, .int 1, .ref (G.2.1 + 3), .ref (G.2.1 + 4), .ref (G.2.1 + 5)], ai G 256 (fun q => if 2 ≤ q ∧ q < 2 + j then (-1) else (upd (upd (fun _ => 0) (0 : Int32).toNatClampNeg 1) (1 : Int32).toNatClampNeg (nI j)) q), ai G 500 (upd (fun _ => (-1)) (0 : Int32).toNatClampNeg 0), ai G 500 (upd (fun _ => 0) (0 : Int32).toNatClampNeg 0), ob 3 [.int 0, .int 0, .int 0, .int 0, .ref (G.2.1 + 7), .ref (G.2.1 + 8), .ref (G.2.1 + 9), .ref (G.2.1 + 10), .ref (G.2.1 + 11)], ai G 500 (fun _ => 0), ai G 500 (fun _ => 0), ai G 500 (fun _ => 0), ai G 500 (fun _ => 0), ai G 500 (fun _ => 0), ob 8 [.int 0, .int 0, .int 0, .int 0, .int 0, .int 0, .ref (G.2.1 + 13)], ai G 300 (fun _ => 0), ob 4 [.int 0, .ref (G.2.1 + 15), .ref (G.2.1 + 16)], ai G 1295 (fun _ => 0), ai G 1295 (fun _ => 0), ob 5 [.int 0, .int 0, .int 0, .int 0, .ref (G.2.1 + 18), .ref (G.2.1 + 19)], ai G 200 (fun _ => 0), ai G 8 (fun _ => (-1)), ai G 24 (fun _ => (-1)), ai G 32 (fun _ => (-1)), ai G 14 (fun _ => 0), ob 7 [.ref (G.2.1 + 1), .ref (G.2.1 + 2), .ref (G.2.1 + 6), .ref (G.2.1 + 22), .ref (G.2.1 + 24), .int 0, .ref (G.2.1 + 25), .ref (G.2.1 + 26), .int 0], ai G 500 (fun _ => 0), ai G 500 (fun _ => 0), ai G 500 (fun _ => 0), ob 0 [.ref (G.2.1 + 1), .ref (G.2.1 + 2), .ref (G.2.1 + 23), .int 0], ob 1 [.ref (G.2.1 + 29), .int 0, .int 0, .ref (G.2.1 + 30), .ref (G.2.1 + 31)], ai G 0 (fun _ => 0), ai G 500 (fun _ => 0), ai G 501 (fun _ => 0), ob 10 [.ref (G.2.1 + 33), .ref (G.2.1 + 34), .ref (G.2.1 + 35), .int 0, .int 0, .int 0, .int 0, .int 0, .ref (G.2.1 + 36), .ref (G.2.1 + 37), .ref (G.2.1 + 38), .ref (G.2.1 + 39), .int 0, .ref (G.2.1 + 40), .int 0, .ref (G.2.1 + 41)], ai G 26100 (sx 256), ai G 26100 (fun _ => 0), ai G 26100 (fun _ => 0), ai G 14 (fun _ => 0), ai G 500 (fun _ => 0), ai G 500 (fun _ => 0), az G 500 (fun _ => 0), ai G 501 (fun _ => 0), ai G 500 (fun _ => 0)] from rfl) ?_
  exact go_iret (pc := 9) rfl dX9_answer_9
set_option maxRecDepth 100000 in
set_option maxHeartbeats 4000000 in
theorem cx_make_1d_o {l : Launch} {G : gG} (j : Nat) (hj : j ≤ 254) (k0 : nI j ≤ 300) (k1 : 0 ≤ nI j) (k4 : ¬ nI j < 0) (k2 : 2 + (nI j) ≤ 256) : Ct l G mX9_make 4 94 [.ref (G.2.1 + 0), .int 1, .int (nI j)] 42 90324 (wl G.2.1 (LF G)) (some (.int 0), 42, 90324, (wl G.2.1 [ob 9 [.ref (G.2.1 + 1), .ref (G.2.1 + 23), .ref (G.2.1 + 27), .ref (G.2.1 + 28), .ref (G.2.1 + 22), .int 0, .int 0, .null, .int 0, .null, .int 0], ob 6 [.ref (G.2.1 + 2), .ref (G.2.1 + 6), .ref (G.2.1 + 12), .ref (G.2.1 + 14), .ref (G.2.1 + 17), .ref (G.2.1 + 20), .ref (G.2.1 + 21)], ob 2 [.int 256, .int (0 + (2 + (nI j))), .int 1, .int 1, .ref (G.2.1 + 3), .ref (G.2.1 + 4), .ref (G.2.1 + 5)], ai G 256 (fun q => if 2 ≤ q ∧ q < 2 + j then (-1) else (upd (upd (fun _ => 0) (0 : Int32).toNatClampNeg 1) (1 : Int32).toNatClampNeg (nI j)) q), ai G 500 (upd (fun _ => (-1)) (0 : Int32).toNatClampNeg 0), ai G 500 (upd (fun _ => 0) (0 : Int32).toNatClampNeg 0), ob 3 [.int 0, .int 0, .int 0, .int 0, .ref (G.2.1 + 7), .ref (G.2.1 + 8), .ref (G.2.1 + 9), .ref (G.2.1 + 10), .ref (G.2.1 + 11)], ai G 500 (fun _ => 0), ai G 500 (fun _ => 0), ai G 500 (fun _ => 0), ai G 500 (fun _ => 0), ai G 500 (fun _ => 0), ob 8 [.int 0, .int 0, .int 0, .int 0, .int 0, .int 0, .ref (G.2.1 + 13)], ai G 300 (fun _ => 0), ob 4 [.int 0, .ref (G.2.1 + 15), .ref (G.2.1 + 16)], ai G 1295 (fun _ => 0), ai G 1295 (fun _ => 0), ob 5 [.int 0, .int 0, .int 0, .int 0, .ref (G.2.1 + 18), .ref (G.2.1 + 19)], ai G 200 (fun _ => 0), ai G 8 (fun _ => (-1)), ai G 24 (fun _ => (-1)), ai G 32 (fun _ => (-1)), ai G 14 (fun _ => 0), ob 7 [.ref (G.2.1 + 1), .ref (G.2.1 + 2), .ref (G.2.1 + 6), .ref (G.2.1 + 22), .ref (G.2.1 + 24), .int 0, .ref (G.2.1 + 25), .ref (G.2.1 + 26), .int 0], ai G 500 (fun _ => 0), ai G 500 (fun _ => 0), ai G 500 (fun _ => 0), ob 0 [.ref (G.2.1 + 1), .ref (G.2.1 + 2), .ref (G.2.1 + 23), .int 0], ob 1 [.ref (G.2.1 + 29), .int 0, .int 0, .ref (G.2.1 + 30), .ref (G.2.1 + 31)], ai G 0 (fun _ => 0), ai G 500 (fun _ => 0), ai G 501 (fun _ => 0), ob 10 [.ref (G.2.1 + 33), .ref (G.2.1 + 34), .ref (G.2.1 + 35), .int 0, .int 0, .int 0, .int 0, .int 0, .ref (G.2.1 + 36), .ref (G.2.1 + 37), .ref (G.2.1 + 38), .ref (G.2.1 + 39), .int 0, .ref (G.2.1 + 40), .int 0, .ref (G.2.1 + 41)], ai G 26100 (sx 256), ai G 26100 (fun _ => 0), ai G 26100 (fun _ => 0), ai G 14 (fun _ => 0), ai G 500 (fun _ => 0), ai G 500 (fun _ => 0), az G 500 (fun _ => 0), ai G 501 (fun _ => 0), ai G 500 (fun _ => 0)])) := by
  refine Ct.of (by decide) (Nat.le_of_ble_eq_true rfl) ⟨Nat.le_refl _, Nat.le_refl _⟩ ?_
  show Go l G mX9_make _ 0 [(0, .ref (G.2.1 + 0)), (1, .int 1), (2, .int (nI j))] [] 42 90324 (wl G.2.1 (LF G))
  refine go_iload_n (pc := 0) dX9_make_0 rfl rfl ?_
  refine go_iload_n (pc := 1) dX9_make_1 rfl rfl ?_
  refine go_callS_i (pc := 2) sX9_66 rfl (cX9_isOutsideOfMaking_10 j hj k0 k1 k4 k2) rfl rfl (Nat.le_of_ble_eq_true rfl) ⟨Nat.le_of_ble_eq_true rfl, Nat.le_of_ble_eq_true rfl, (Nat.le_add_right _ _), (Nat.le_add_right _ _)⟩ dX9_make_2 ?_
  refine go_if_eq_t (pc := 5) (tgt := 11) dX9_make_5 (by decide) (by decide) ?_
  refine go_aload_n (pc := 11) dX9_make_11 rfl rfl ?_
  refine go_aload_n (pc := 12) dX9_make_12 rfl rfl ?_
  refine go_get (pc := 13) fX9_34 rfl (gz_b (by decide)) (wl_at (i := 0) rfl) rfl dX9_make_13 ?_
  refine go_iload_n (pc := 16) dX9_make_16 rfl rfl ?_
  refine go_iload_n (pc := 17) dX9_make_17 rfl rfl ?_
  refine go_callV_i (pc := 18) vX9_70 rfl (cX0_makeCell_6 j hj k0 k1 k4 k2) rfl rfl (gz_b (by decide)) (wl_at (i := 27) rfl) rfl (Nat.le_of_ble_eq_true rfl) ⟨Nat.le_of_ble_eq_true rfl, Nat.le_of_ble_eq_true rfl, (Nat.le_add_right _ _), (Nat.le_add_right _ _)⟩ dX9_make_18 ?_
  refine go_callV_i (pc := 21) vX9_74 rfl (cX9_answer_10 j hj) rfl rfl (gz_b (by decide)) (wl_at (i := 0) rfl) rfl (Nat.le_of_ble_eq_true rfl) ⟨Nat.le_of_ble_eq_true rfl, Nat.le_of_ble_eq_true rfl, (Nat.le_add_right _ _), (Nat.le_add_right _ _)⟩ dX9_make_21 ?_
  exact go_iret (pc := 24) rfl dX9_make_24
theorem cx_make_1d {l : Launch} {G : gG} (j : Nat) (hj : j ≤ 254) (k0 : nI j ≤ 300) (k1 : 0 ≤ nI j) (k4 : ¬ nI j < 0) (k2 : 2 + (nI j) ≤ 256) : CX l G mX9_make [.ref (G.2.1 + 0), .int 1, .int (nI j)] 0 := by
  exact ⟨4, 94, 42, 90324, _, by decide, by decide, by decide, by decide, by decide, (by exact wl_frame rfl), cx_make_1d_o j hj k0 k1 k4 k2⟩
set_option maxRecDepth 100000 in
set_option maxHeartbeats 4000000 in
theorem cX2_isCounted_10 {l : Launch} {G : gG} : Ct l G mX2_isCounted 0 0 [.int 2] 42 90324 (wl G.2.1 (LF G)) (some (.int 1), 42, 90324, (wl G.2.1 (LF G))) := by
  refine Ct.of (by decide) (Nat.le_of_ble_eq_true rfl) ⟨Nat.le_refl _, Nat.le_refl _⟩ ?_
  show Go l G mX2_isCounted _ 0 [(0, .int 2)] [] 42 90324 (wl G.2.1 (LF G))
  refine go_iload_n (pc := 0) dX2_isCounted_0 rfl rfl ?_
  refine go_iconst (pc := 1) (v := 1) dX2_isCounted_1 (by decide) ?_
  refine go_icmp_eq_f (pc := 2) (tgt := 15) dX2_isCounted_2 (by decide) (by decide) ?_
  refine go_iload_n (pc := 5) dX2_isCounted_5 rfl rfl ?_
  refine go_iconst (pc := 6) (v := 2) dX2_isCounted_6 (by decide) ?_
  refine go_icmp_eq_t (pc := 7) (tgt := 15) dX2_isCounted_7 (by decide) (by decide) ?_
  refine go_iconst (pc := 15) (v := 1) dX2_isCounted_15 (by decide) ?_
  refine go_goto (pc := 16) (tgt := 20) dX2_isCounted_16 (by decide) ?_
  exact go_zret (pc := 20) rfl rfl dX2_isCounted_20
set_option maxRecDepth 100000 in
set_option maxHeartbeats 4000000 in
theorem cX9_isOutsideOfMaking_11 {l : Launch} {G : gG} (x2 : Int32) (k0 : ¬ x2 ≤ 300) : Ct l G mX9_isOutsideOfMaking 1 20 [.int 2, .int x2] 42 90324 (wl G.2.1 (LF G)) (some (.int 1), 42, 90324, (wl G.2.1 (LF G))) := by
  refine Ct.of (by decide) (Nat.le_of_ble_eq_true rfl) ⟨Nat.le_refl _, Nat.le_refl _⟩ ?_
  show Go l G mX9_isOutsideOfMaking _ 0 [(0, .int 2), (1, .int x2)] [] 42 90324 (wl G.2.1 (LF G))
  refine go_iload_n (pc := 0) dX9_isOutsideOfMaking_0 rfl rfl ?_
  refine go_if_lt_f (pc := 1) (tgt := 24) dX9_isOutsideOfMaking_1 (by decide) (by decide) ?_
  refine go_iload_n (pc := 4) dX9_isOutsideOfMaking_4 rfl rfl ?_
  refine go_bipush (pc := 5) (v := 6) dX9_isOutsideOfMaking_5 (by decide) ?_
  refine go_icmp_ge_f (pc := 7) (tgt := 24) dX9_isOutsideOfMaking_7 (by decide) (by decide) ?_
  refine go_iload_n (pc := 10) dX9_isOutsideOfMaking_10 rfl rfl ?_
  refine go_callS_i (pc := 11) sX9_326 rfl (cX2_isCounted_10) rfl rfl (Nat.le_of_ble_eq_true rfl) ⟨Nat.le_of_ble_eq_true rfl, Nat.le_of_ble_eq_true rfl, (Nat.le_add_right _ _), (Nat.le_add_right _ _)⟩ dX9_isOutsideOfMaking_11 ?_
  refine go_if_eq_f (pc := 14) (tgt := 28) dX9_isOutsideOfMaking_14 (by decide) (by decide) ?_
  refine go_iload_n (pc := 17) dX9_isOutsideOfMaking_17 rfl rfl ?_
  refine go_sipush (pc := 18) (v := 300) dX9_isOutsideOfMaking_18 (by decide) ?_
  refine go_icmp_le_f (pc := 21) (tgt := 28) dX9_isOutsideOfMaking_21 (by decide) k0 ?_
  refine go_iconst (pc := 24) (v := 1) dX9_isOutsideOfMaking_24 (by decide) ?_
  refine go_goto (pc := 25) (tgt := 29) dX9_isOutsideOfMaking_25 (by decide) ?_
  exact go_zret (pc := 29) rfl rfl dX9_isOutsideOfMaking_29
set_option maxRecDepth 100000 in
set_option maxHeartbeats 4000000 in
theorem cx_make_2a_o {l : Launch} {G : gG} (x2 : Int32) (k0 : ¬ x2 ≤ 300) : Ct l G mX9_make 2 41 [.ref (G.2.1 + 0), .int 2, .int x2] 42 90324 (wl G.2.1 (LF G)) (some (.int ((-102))), 42, 90324, (wl G.2.1 (LF G))) := by
  refine Ct.of (by decide) (Nat.le_of_ble_eq_true rfl) ⟨Nat.le_refl _, Nat.le_refl _⟩ ?_
  show Go l G mX9_make _ 0 [(0, .ref (G.2.1 + 0)), (1, .int 2), (2, .int x2)] [] 42 90324 (wl G.2.1 (LF G))
  refine go_iload_n (pc := 0) dX9_make_0 rfl rfl ?_
  refine go_iload_n (pc := 1) dX9_make_1 rfl rfl ?_
  refine go_callS_i (pc := 2) sX9_66 rfl (cX9_isOutsideOfMaking_11 x2 k0) rfl rfl (Nat.le_of_ble_eq_true rfl) ⟨Nat.le_of_ble_eq_true rfl, Nat.le_of_ble_eq_true rfl, (Nat.le_add_right _ _), (Nat.le_add_right _ _)⟩ dX9_make_2 ?_
  refine go_if_eq_f (pc := 5) (tgt := 11) dX9_make_5 (by decide) (by decide) ?_
  refine go_bipush (pc := 8) (v := (-102)) dX9_make_8 (by decide) ?_
  exact go_iret (pc := 10) rfl dX9_make_10
theorem cx_make_2a {l : Launch} {G : gG} (x2 : Int32) (k0 : ¬ x2 ≤ 300) : CX l G mX9_make [.ref (G.2.1 + 0), .int 2, .int x2] ((-102)) := by
  exact ⟨2, 41, 42, 90324, _, by decide, by decide, by decide, by decide, by decide, (by exact wl_frame rfl), cx_make_2a_o x2 k0⟩
set_option maxRecDepth 100000 in
set_option maxHeartbeats 4000000 in
theorem cX9_isOutsideOfMaking_12 {l : Launch} {G : gG} (x2 : Int32) (k0 : x2 ≤ 300) (k1 : ¬ 0 ≤ x2) (k4 : x2 < 0) : Ct l G mX9_isOutsideOfMaking 1 20 [.int 2, .int x2] 42 90324 (wl G.2.1 (LF G)) (some (.int 0), 42, 90324, (wl G.2.1 (LF G))) := by
  refine Ct.of (by decide) (Nat.le_of_ble_eq_true rfl) ⟨Nat.le_refl _, Nat.le_refl _⟩ ?_
  show Go l G mX9_isOutsideOfMaking _ 0 [(0, .int 2), (1, .int x2)] [] 42 90324 (wl G.2.1 (LF G))
  refine go_iload_n (pc := 0) dX9_isOutsideOfMaking_0 rfl rfl ?_
  refine go_if_lt_f (pc := 1) (tgt := 24) dX9_isOutsideOfMaking_1 (by decide) (by decide) ?_
  refine go_iload_n (pc := 4) dX9_isOutsideOfMaking_4 rfl rfl ?_
  refine go_bipush (pc := 5) (v := 6) dX9_isOutsideOfMaking_5 (by decide) ?_
  refine go_icmp_ge_f (pc := 7) (tgt := 24) dX9_isOutsideOfMaking_7 (by decide) (by decide) ?_
  refine go_iload_n (pc := 10) dX9_isOutsideOfMaking_10 rfl rfl ?_
  refine go_callS_i (pc := 11) sX9_326 rfl (cX2_isCounted_10) rfl rfl (Nat.le_of_ble_eq_true rfl) ⟨Nat.le_of_ble_eq_true rfl, Nat.le_of_ble_eq_true rfl, (Nat.le_add_right _ _), (Nat.le_add_right _ _)⟩ dX9_isOutsideOfMaking_11 ?_
  refine go_if_eq_f (pc := 14) (tgt := 28) dX9_isOutsideOfMaking_14 (by decide) (by decide) ?_
  refine go_iload_n (pc := 17) dX9_isOutsideOfMaking_17 rfl rfl ?_
  refine go_sipush (pc := 18) (v := 300) dX9_isOutsideOfMaking_18 (by decide) ?_
  refine go_icmp_le_t (pc := 21) (tgt := 28) dX9_isOutsideOfMaking_21 (by decide) k0 ?_
  refine go_iconst (pc := 28) (v := 0) dX9_isOutsideOfMaking_28 (by decide) ?_
  exact go_zret (pc := 29) rfl rfl dX9_isOutsideOfMaking_29
set_option maxRecDepth 100000 in
set_option maxHeartbeats 4000000 in
theorem cX0_makeCell_7 {l : Launch} {G : gG} (x2 : Int32) (k0 : x2 ≤ 300) (k1 : ¬ 0 ≤ x2) (k4 : x2 < 0) : Ct l G mX0_makeCell 1 20 [.ref (G.2.1 + 27), .int 2, .int x2] 42 90324 (wl G.2.1 (LF G)) (some (.int ((-14))), 42, 90324, (wl G.2.1 (LF G))) := by
  refine Ct.of (by decide) (Nat.le_of_ble_eq_true rfl) ⟨Nat.le_refl _, Nat.le_refl _⟩ ?_
  show Go l G mX0_makeCell _ 0 [(0, .ref (G.2.1 + 27)), (1, .int 2), (2, .int x2)] [] 42 90324 (wl G.2.1 (LF G))
  refine go_iload_n (pc := 0) dX0_makeCell_0 rfl rfl ?_
  refine go_callS_i (pc := 1) sX0_26 rfl (cX2_isCounted_10) rfl rfl (Nat.le_of_ble_eq_true rfl) ⟨Nat.le_of_ble_eq_true rfl, Nat.le_of_ble_eq_true rfl, (Nat.le_add_right _ _), (Nat.le_add_right _ _)⟩ dX0_makeCell_1 ?_
  refine go_if_eq_f (pc := 4) (tgt := 11) dX0_makeCell_4 (by decide) (by decide) ?_
  refine go_iload_n (pc := 7) dX0_makeCell_7 rfl rfl ?_
  refine go_goto (pc := 8) (tgt := 12) dX0_makeCell_8 (by decide) ?_
  refine go_istore_n (pc := 12) (lv' := [(3, .int x2), (0, .ref (G.2.1 + 27)), (1, .int 2), (2, .int x2)]) dX0_makeCell_12 rfl (by decide) rfl ?_
  refine go_iload_n (pc := 13) dX0_makeCell_13 rfl rfl ?_
  refine go_if_ge_f (pc := 14) (tgt := 20) dX0_makeCell_14 (by decide) k1 ?_
  refine go_bipush (pc := 17) (v := (-14)) dX0_makeCell_17 (by decide) ?_
  exact go_iret (pc := 19) rfl dX0_makeCell_19
set_option maxRecDepth 100000 in
set_option maxHeartbeats 4000000 in
theorem cx_make_2b_o {l : Launch} {G : gG} (x2 : Int32) (k0 : x2 ≤ 300) (k1 : ¬ 0 ≤ x2) (k4 : x2 < 0) : Ct l G mX9_make 2 45 [.ref (G.2.1 + 0), .int 2, .int x2] 42 90324 (wl G.2.1 (LF G)) (some (.int ((-14))), 42, 90324, (wl G.2.1 [ob 9 [.ref (G.2.1 + 1), .ref (G.2.1 + 23), .ref (G.2.1 + 27), .ref (G.2.1 + 28), .ref (G.2.1 + 22), .int 4, .int 0, .null, .int 0, .null, .int 0], ob 6 [.ref (G.2.1 + 2), .ref (G.2.1 + 6), .ref (G.2.1 + 12), .ref (G.2.1 + 14), .ref (G.2.1 + 17), .ref (G.2.1 + 20), .ref (G.2.1 + 21)], ob 2 [.int 256, .int 0, .int 0, .int 0, .ref (G.2.1 + 3), .ref (G.2.1 + 4), .ref (G.2.1 + 5)], ai G 256 (fun _ => 0), ai G 500 (fun _ => (-1)), ai G 500 (fun _ => 0), ob 3 [.int 0, .int 0, .int 0, .int 0, .ref (G.2.1 + 7), .ref (G.2.1 + 8), .ref (G.2.1 + 9), .ref (G.2.1 + 10), .ref (G.2.1 + 11)], ai G 500 (fun _ => 0), ai G 500 (fun _ => 0), ai G 500 (fun _ => 0), ai G 500 (fun _ => 0), ai G 500 (fun _ => 0), ob 8 [.int 0, .int 0, .int 0, .int 0, .int 0, .int 0, .ref (G.2.1 + 13)], ai G 300 (fun _ => 0), ob 4 [.int 0, .ref (G.2.1 + 15), .ref (G.2.1 + 16)], ai G 1295 (fun _ => 0), ai G 1295 (fun _ => 0), ob 5 [.int 0, .int 0, .int 0, .int 0, .ref (G.2.1 + 18), .ref (G.2.1 + 19)], ai G 200 (fun _ => 0), ai G 8 (fun _ => (-1)), ai G 24 (fun _ => (-1)), ai G 32 (fun _ => (-1)), ai G 14 (fun _ => 0), ob 7 [.ref (G.2.1 + 1), .ref (G.2.1 + 2), .ref (G.2.1 + 6), .ref (G.2.1 + 22), .ref (G.2.1 + 24), .int 0, .ref (G.2.1 + 25), .ref (G.2.1 + 26), .int 0], ai G 500 (fun _ => 0), ai G 500 (fun _ => 0), ai G 500 (fun _ => 0), ob 0 [.ref (G.2.1 + 1), .ref (G.2.1 + 2), .ref (G.2.1 + 23), .int 0], ob 1 [.ref (G.2.1 + 29), .int 0, .int 0, .ref (G.2.1 + 30), .ref (G.2.1 + 31)], ai G 0 (fun _ => 0), ai G 500 (fun _ => 0), ai G 501 (fun _ => 0), ob 10 [.ref (G.2.1 + 33), .ref (G.2.1 + 34), .ref (G.2.1 + 35), .int 0, .int 0, .int 0, .int 0, .int 0, .ref (G.2.1 + 36), .ref (G.2.1 + 37), .ref (G.2.1 + 38), .ref (G.2.1 + 39), .int 0, .ref (G.2.1 + 40), .int 0, .ref (G.2.1 + 41)], ai G 26100 (sx 256), ai G 26100 (fun _ => 0), ai G 26100 (fun _ => 0), ai G 14 (fun _ => 0), ai G 500 (fun _ => 0), ai G 500 (fun _ => 0), az G 500 (fun _ => 0), ai G 501 (fun _ => 0), ai G 500 (fun _ => 0)])) := by
  refine Ct.of (by decide) (Nat.le_of_ble_eq_true rfl) ⟨Nat.le_refl _, Nat.le_refl _⟩ ?_
  show Go l G mX9_make _ 0 [(0, .ref (G.2.1 + 0)), (1, .int 2), (2, .int x2)] [] 42 90324 (wl G.2.1 (LF G))
  refine go_iload_n (pc := 0) dX9_make_0 rfl rfl ?_
  refine go_iload_n (pc := 1) dX9_make_1 rfl rfl ?_
  refine go_callS_i (pc := 2) sX9_66 rfl (cX9_isOutsideOfMaking_12 x2 k0 k1 k4) rfl rfl (Nat.le_of_ble_eq_true rfl) ⟨Nat.le_of_ble_eq_true rfl, Nat.le_of_ble_eq_true rfl, (Nat.le_add_right _ _), (Nat.le_add_right _ _)⟩ dX9_make_2 ?_
  refine go_if_eq_t (pc := 5) (tgt := 11) dX9_make_5 (by decide) (by decide) ?_
  refine go_aload_n (pc := 11) dX9_make_11 rfl rfl ?_
  refine go_aload_n (pc := 12) dX9_make_12 rfl rfl ?_
  refine go_get (pc := 13) fX9_34 rfl (gz_b (by decide)) (wl_at (i := 0) rfl) rfl dX9_make_13 ?_
  refine go_iload_n (pc := 16) dX9_make_16 rfl rfl ?_
  refine go_iload_n (pc := 17) dX9_make_17 rfl rfl ?_
  refine go_callV_i (pc := 18) vX9_70 rfl (cX0_makeCell_7 x2 k0 k1 k4) rfl rfl (gz_b (by decide)) (wl_at (i := 27) rfl) rfl (Nat.le_of_ble_eq_true rfl) ⟨Nat.le_of_ble_eq_true rfl, Nat.le_of_ble_eq_true rfl, (Nat.le_add_right _ _), (Nat.le_add_right _ _)⟩ dX9_make_18 ?_
  refine go_callV_i (pc := 21) vX9_74 rfl (cX9_answer_8) rfl rfl (gz_b (by decide)) (wl_at (i := 0) rfl) rfl (Nat.le_of_ble_eq_true rfl) ⟨Nat.le_of_ble_eq_true rfl, Nat.le_of_ble_eq_true rfl, (Nat.le_add_right _ _), (Nat.le_add_right _ _)⟩ dX9_make_21 ?_
  exact go_iret (pc := 24) rfl dX9_make_24
theorem cx_make_2b {l : Launch} {G : gG} (x2 : Int32) (k0 : x2 ≤ 300) (k1 : ¬ 0 ≤ x2) (k4 : x2 < 0) : CX l G mX9_make [.ref (G.2.1 + 0), .int 2, .int x2] ((-14)) := by
  exact ⟨2, 45, 42, 90324, _, by decide, by decide, by decide, by decide, by decide, (by exact wl_frame rfl), cx_make_2b_o x2 k0 k1 k4⟩
set_option maxRecDepth 100000 in
set_option maxHeartbeats 4000000 in
theorem cX9_isOutsideOfMaking_13 {l : Launch} {G : gG} (x2 : Int32) (k0 : x2 ≤ 300) (k1 : 0 ≤ x2) (k4 : ¬ x2 < 0) (k2 : ¬ 2 + ((x2 + 3) / 4) ≤ 256) (k3 : ¬ 0 + (2 + ((x2 + 3) / 4)) ≤ 256) : Ct l G mX9_isOutsideOfMaking 1 20 [.int 2, .int x2] 42 90324 (wl G.2.1 (LF G)) (some (.int 0), 42, 90324, (wl G.2.1 (LF G))) := by
  refine Ct.of (by decide) (Nat.le_of_ble_eq_true rfl) ⟨Nat.le_refl _, Nat.le_refl _⟩ ?_
  show Go l G mX9_isOutsideOfMaking _ 0 [(0, .int 2), (1, .int x2)] [] 42 90324 (wl G.2.1 (LF G))
  refine go_iload_n (pc := 0) dX9_isOutsideOfMaking_0 rfl rfl ?_
  refine go_if_lt_f (pc := 1) (tgt := 24) dX9_isOutsideOfMaking_1 (by decide) (by decide) ?_
  refine go_iload_n (pc := 4) dX9_isOutsideOfMaking_4 rfl rfl ?_
  refine go_bipush (pc := 5) (v := 6) dX9_isOutsideOfMaking_5 (by decide) ?_
  refine go_icmp_ge_f (pc := 7) (tgt := 24) dX9_isOutsideOfMaking_7 (by decide) (by decide) ?_
  refine go_iload_n (pc := 10) dX9_isOutsideOfMaking_10 rfl rfl ?_
  refine go_callS_i (pc := 11) sX9_326 rfl (cX2_isCounted_10) rfl rfl (Nat.le_of_ble_eq_true rfl) ⟨Nat.le_of_ble_eq_true rfl, Nat.le_of_ble_eq_true rfl, (Nat.le_add_right _ _), (Nat.le_add_right _ _)⟩ dX9_isOutsideOfMaking_11 ?_
  refine go_if_eq_f (pc := 14) (tgt := 28) dX9_isOutsideOfMaking_14 (by decide) (by decide) ?_
  refine go_iload_n (pc := 17) dX9_isOutsideOfMaking_17 rfl rfl ?_
  refine go_sipush (pc := 18) (v := 300) dX9_isOutsideOfMaking_18 (by decide) ?_
  refine go_icmp_le_t (pc := 21) (tgt := 28) dX9_isOutsideOfMaking_21 (by decide) k0 ?_
  refine go_iconst (pc := 28) (v := 0) dX9_isOutsideOfMaking_28 (by decide) ?_
  exact go_zret (pc := 29) rfl rfl dX9_isOutsideOfMaking_29
set_option maxRecDepth 100000 in
set_option maxHeartbeats 4000000 in
theorem cX2_intsFor_10 {l : Launch} {G : gG} (x2 : Int32) : Ct l G mX2_intsFor 0 0 [.int 2, .int x2] 42 90324 (wl G.2.1 (LF G)) (some (.int (2 + ((x2 + 3) / 4))), 42, 90324, (wl G.2.1 (LF G))) := by
  refine Ct.of (by decide) (Nat.le_of_ble_eq_true rfl) ⟨Nat.le_refl _, Nat.le_refl _⟩ ?_
  show Go l G mX2_intsFor _ 0 [(0, .int 2), (1, .int x2)] [] 42 90324 (wl G.2.1 (LF G))
  refine go_iload_n (pc := 0) dX2_intsFor_0 rfl rfl ?_
  refine go_tableIn (pc := 1) (off := 45) (tgt := 46) dX2_intsFor_1 (by decide) (by decide) (by decide) (by decide) ?_
  refine go_iconst (pc := 46) (v := 2) dX2_intsFor_46 (by decide) ?_
  refine go_iload_n (pc := 47) dX2_intsFor_47 rfl rfl ?_
  refine go_iconst (pc := 48) (v := 3) dX2_intsFor_48 (by decide) ?_
  refine go_iadd (pc := 49) dX2_intsFor_49 ?_
  refine go_iconst (pc := 50) (v := 4) dX2_intsFor_50 (by decide) ?_
  refine go_idiv (pc := 51) dX2_intsFor_51 (by decide) ?_
  refine go_iadd (pc := 52) dX2_intsFor_52 ?_
  exact go_iret (pc := 53) rfl dX2_intsFor_53
set_option maxRecDepth 100000 in
set_option maxHeartbeats 4000000 in
theorem cX0_makeCell_8 {l : Launch} {G : gG} (x2 : Int32) (k0 : x2 ≤ 300) (k1 : 0 ≤ x2) (k4 : ¬ x2 < 0) (k2 : ¬ 2 + ((x2 + 3) / 4) ≤ 256) (k3 : ¬ 0 + (2 + ((x2 + 3) / 4)) ≤ 256) : Ct l G mX0_makeCell 3 68 [.ref (G.2.1 + 27), .int 2, .int x2] 42 90324 (wl G.2.1 (LF G)) (some (.int ((-16))), 42, 90324, (wl G.2.1 (LF G))) := by
  refine Ct.of (by decide) (Nat.le_of_ble_eq_true rfl) ⟨Nat.le_refl _, Nat.le_refl _⟩ ?_
  show Go l G mX0_makeCell _ 0 [(0, .ref (G.2.1 + 27)), (1, .int 2), (2, .int x2)] [] 42 90324 (wl G.2.1 (LF G))
  refine go_iload_n (pc := 0) dX0_makeCell_0 rfl rfl ?_
  refine go_callS_i (pc := 1) sX0_26 rfl (cX2_isCounted_10) rfl rfl (Nat.le_of_ble_eq_true rfl) ⟨Nat.le_of_ble_eq_true rfl, Nat.le_of_ble_eq_true rfl, (Nat.le_add_right _ _), (Nat.le_add_right _ _)⟩ dX0_makeCell_1 ?_
  refine go_if_eq_f (pc := 4) (tgt := 11) dX0_makeCell_4 (by decide) (by decide) ?_
  refine go_iload_n (pc := 7) dX0_makeCell_7 rfl rfl ?_
  refine go_goto (pc := 8) (tgt := 12) dX0_makeCell_8 (by decide) ?_
  refine go_istore_n (pc := 12) (lv' := [(3, .int x2), (0, .ref (G.2.1 + 27)), (1, .int 2), (2, .int x2)]) dX0_makeCell_12 rfl (by decide) rfl ?_
  refine go_iload_n (pc := 13) dX0_makeCell_13 rfl rfl ?_
  refine go_if_ge_t (pc := 14) (tgt := 20) dX0_makeCell_14 (by decide) k1 ?_
  refine go_iload_n (pc := 20) dX0_makeCell_20 rfl rfl ?_
  refine go_iload_n (pc := 21) dX0_makeCell_21 rfl rfl ?_
  refine go_callS_i (pc := 22) sX0_32 rfl (cX2_intsFor_10 x2) rfl rfl (Nat.le_of_ble_eq_true rfl) ⟨Nat.le_of_ble_eq_true rfl, Nat.le_of_ble_eq_true rfl, (Nat.le_add_right _ _), (Nat.le_add_right _ _)⟩ dX0_makeCell_22 ?_
  refine go_istore (pc := 25) (lv' := [(4, .int (2 + ((x2 + 3) / 4))), (3, .int x2), (0, .ref (G.2.1 + 27)), (1, .int 2), (2, .int x2)]) dX0_makeCell_25 (by decide) rfl ?_
  refine go_aload_n (pc := 27) dX0_makeCell_27 rfl rfl ?_
  refine go_get (pc := 28) fX0_21 rfl (gz_b (by decide)) (wl_at (i := 27) rfl) rfl dX0_makeCell_28 ?_
  refine go_get (pc := 31) fX0_36 rfl (gz_b (by decide)) (wl_at (i := 2) rfl) rfl dX0_makeCell_31 ?_
  refine go_sipush (pc := 34) (v := 500) dX0_makeCell_34 (by decide) ?_
  refine go_icmp_ge_f (pc := 37) (tgt := 72) dX0_makeCell_37 (by decide) (by decide) ?_
  refine go_iload (pc := 40) dX0_makeCell_40 rfl ?_
  refine go_aload_n (pc := 42) dX0_makeCell_42 rfl rfl ?_
  refine go_get (pc := 43) fX0_21 rfl (gz_b (by decide)) (wl_at (i := 27) rfl) rfl dX0_makeCell_43 ?_
  refine go_callV_i (pc := 46) vX0_40 rfl (cX2_free_1) rfl rfl (gz_b (by decide)) (wl_at (i := 2) rfl) rfl (Nat.le_of_ble_eq_true rfl) ⟨Nat.le_of_ble_eq_true rfl, Nat.le_of_ble_eq_true rfl, (Nat.le_add_right _ _), (Nat.le_add_right _ _)⟩ dX0_makeCell_46 ?_
  refine go_icmp_le_f (pc := 49) (tgt := 75) dX0_makeCell_49 (by decide) k2 ?_
  refine go_iload (pc := 52) dX0_makeCell_52 rfl ?_
  refine go_aload_n (pc := 54) dX0_makeCell_54 rfl rfl ?_
  refine go_get (pc := 55) fX0_21 rfl (gz_b (by decide)) (wl_at (i := 27) rfl) rfl dX0_makeCell_55 ?_
  refine go_get (pc := 58) fX0_44 rfl (gz_b (by decide)) (wl_at (i := 2) rfl) rfl dX0_makeCell_58 ?_
  refine go_aload_n (pc := 61) dX0_makeCell_61 rfl rfl ?_
  refine go_get (pc := 62) fX0_22 rfl (gz_b (by decide)) (wl_at (i := 27) rfl) rfl dX0_makeCell_62 ?_
  refine go_callV_i (pc := 65) vX0_47 rfl (cX7_reachedInts_1) rfl rfl (gz_b (by decide)) (wl_at (i := 23) rfl) rfl (Nat.le_of_ble_eq_true rfl) ⟨Nat.le_of_ble_eq_true rfl, Nat.le_of_ble_eq_true rfl, (Nat.le_add_right _ _), (Nat.le_add_right _ _)⟩ dX0_makeCell_65 ?_
  refine go_isub (pc := 68) dX0_makeCell_68 ?_
  refine go_top (y := 256) (by decide) ?_
  refine go_icmp_le_f (pc := 69) (tgt := 75) dX0_makeCell_69 (by decide) k2 ?_
  refine go_bipush (pc := 72) (v := (-16)) dX0_makeCell_72 (by decide) ?_
  exact go_iret (pc := 74) rfl dX0_makeCell_74
set_option maxRecDepth 100000 in
set_option maxHeartbeats 4000000 in
theorem cx_make_2c_o {l : Launch} {G : gG} (x2 : Int32) (k0 : x2 ≤ 300) (k1 : 0 ≤ x2) (k4 : ¬ x2 < 0) (k2 : ¬ 2 + ((x2 + 3) / 4) ≤ 256) (k3 : ¬ 0 + (2 + ((x2 + 3) / 4)) ≤ 256) : Ct l G mX9_make 4 93 [.ref (G.2.1 + 0), .int 2, .int x2] 42 90324 (wl G.2.1 (LF G)) (some (.int ((-16))), 42, 90324, (wl G.2.1 [ob 9 [.ref (G.2.1 + 1), .ref (G.2.1 + 23), .ref (G.2.1 + 27), .ref (G.2.1 + 28), .ref (G.2.1 + 22), .int 6, .int 0, .null, .int 0, .null, .int 0], ob 6 [.ref (G.2.1 + 2), .ref (G.2.1 + 6), .ref (G.2.1 + 12), .ref (G.2.1 + 14), .ref (G.2.1 + 17), .ref (G.2.1 + 20), .ref (G.2.1 + 21)], ob 2 [.int 256, .int 0, .int 0, .int 0, .ref (G.2.1 + 3), .ref (G.2.1 + 4), .ref (G.2.1 + 5)], ai G 256 (fun _ => 0), ai G 500 (fun _ => (-1)), ai G 500 (fun _ => 0), ob 3 [.int 0, .int 0, .int 0, .int 0, .ref (G.2.1 + 7), .ref (G.2.1 + 8), .ref (G.2.1 + 9), .ref (G.2.1 + 10), .ref (G.2.1 + 11)], ai G 500 (fun _ => 0), ai G 500 (fun _ => 0), ai G 500 (fun _ => 0), ai G 500 (fun _ => 0), ai G 500 (fun _ => 0), ob 8 [.int 0, .int 0, .int 0, .int 0, .int 0, .int 0, .ref (G.2.1 + 13)], ai G 300 (fun _ => 0), ob 4 [.int 0, .ref (G.2.1 + 15), .ref (G.2.1 + 16)], ai G 1295 (fun _ => 0), ai G 1295 (fun _ => 0), ob 5 [.int 0, .int 0, .int 0, .int 0, .ref (G.2.1 + 18), .ref (G.2.1 + 19)], ai G 200 (fun _ => 0), ai G 8 (fun _ => (-1)), ai G 24 (fun _ => (-1)), ai G 32 (fun _ => (-1)), ai G 14 (fun _ => 0), ob 7 [.ref (G.2.1 + 1), .ref (G.2.1 + 2), .ref (G.2.1 + 6), .ref (G.2.1 + 22), .ref (G.2.1 + 24), .int 0, .ref (G.2.1 + 25), .ref (G.2.1 + 26), .int 0], ai G 500 (fun _ => 0), ai G 500 (fun _ => 0), ai G 500 (fun _ => 0), ob 0 [.ref (G.2.1 + 1), .ref (G.2.1 + 2), .ref (G.2.1 + 23), .int 0], ob 1 [.ref (G.2.1 + 29), .int 0, .int 0, .ref (G.2.1 + 30), .ref (G.2.1 + 31)], ai G 0 (fun _ => 0), ai G 500 (fun _ => 0), ai G 501 (fun _ => 0), ob 10 [.ref (G.2.1 + 33), .ref (G.2.1 + 34), .ref (G.2.1 + 35), .int 0, .int 0, .int 0, .int 0, .int 0, .ref (G.2.1 + 36), .ref (G.2.1 + 37), .ref (G.2.1 + 38), .ref (G.2.1 + 39), .int 0, .ref (G.2.1 + 40), .int 0, .ref (G.2.1 + 41)], ai G 26100 (sx 256), ai G 26100 (fun _ => 0), ai G 26100 (fun _ => 0), ai G 14 (fun _ => 0), ai G 500 (fun _ => 0), ai G 500 (fun _ => 0), az G 500 (fun _ => 0), ai G 501 (fun _ => 0), ai G 500 (fun _ => 0)])) := by
  refine Ct.of (by decide) (Nat.le_of_ble_eq_true rfl) ⟨Nat.le_refl _, Nat.le_refl _⟩ ?_
  show Go l G mX9_make _ 0 [(0, .ref (G.2.1 + 0)), (1, .int 2), (2, .int x2)] [] 42 90324 (wl G.2.1 (LF G))
  refine go_iload_n (pc := 0) dX9_make_0 rfl rfl ?_
  refine go_iload_n (pc := 1) dX9_make_1 rfl rfl ?_
  refine go_callS_i (pc := 2) sX9_66 rfl (cX9_isOutsideOfMaking_13 x2 k0 k1 k4 k2 k3) rfl rfl (Nat.le_of_ble_eq_true rfl) ⟨Nat.le_of_ble_eq_true rfl, Nat.le_of_ble_eq_true rfl, (Nat.le_add_right _ _), (Nat.le_add_right _ _)⟩ dX9_make_2 ?_
  refine go_if_eq_t (pc := 5) (tgt := 11) dX9_make_5 (by decide) (by decide) ?_
  refine go_aload_n (pc := 11) dX9_make_11 rfl rfl ?_
  refine go_aload_n (pc := 12) dX9_make_12 rfl rfl ?_
  refine go_get (pc := 13) fX9_34 rfl (gz_b (by decide)) (wl_at (i := 0) rfl) rfl dX9_make_13 ?_
  refine go_iload_n (pc := 16) dX9_make_16 rfl rfl ?_
  refine go_iload_n (pc := 17) dX9_make_17 rfl rfl ?_
  refine go_callV_i (pc := 18) vX9_70 rfl (cX0_makeCell_8 x2 k0 k1 k4 k2 k3) rfl rfl (gz_b (by decide)) (wl_at (i := 27) rfl) rfl (Nat.le_of_ble_eq_true rfl) ⟨Nat.le_of_ble_eq_true rfl, Nat.le_of_ble_eq_true rfl, (Nat.le_add_right _ _), (Nat.le_add_right _ _)⟩ dX9_make_18 ?_
  refine go_callV_i (pc := 21) vX9_74 rfl (cX9_answer_9) rfl rfl (gz_b (by decide)) (wl_at (i := 0) rfl) rfl (Nat.le_of_ble_eq_true rfl) ⟨Nat.le_of_ble_eq_true rfl, Nat.le_of_ble_eq_true rfl, (Nat.le_add_right _ _), (Nat.le_add_right _ _)⟩ dX9_make_21 ?_
  exact go_iret (pc := 24) rfl dX9_make_24
theorem cx_make_2c {l : Launch} {G : gG} (x2 : Int32) (k0 : x2 ≤ 300) (k1 : 0 ≤ x2) (k4 : ¬ x2 < 0) (k2 : ¬ 2 + ((x2 + 3) / 4) ≤ 256) (k3 : ¬ 0 + (2 + ((x2 + 3) / 4)) ≤ 256) : CX l G mX9_make [.ref (G.2.1 + 0), .int 2, .int x2] ((-16)) := by
  exact ⟨4, 93, 42, 90324, _, by decide, by decide, by decide, by decide, by decide, (by exact wl_frame rfl), cx_make_2c_o x2 k0 k1 k4 k2 k3⟩
set_option maxRecDepth 100000 in
set_option maxHeartbeats 4000000 in
theorem cX9_isOutsideOfMaking_14 {l : Launch} {G : gG} (x2 : Int32) (k0 : x2 ≤ 300) (k1 : 0 ≤ x2) (k4 : ¬ x2 < 0) (k2 : 2 + ((x2 + 3) / 4) ≤ 256) : Ct l G mX9_isOutsideOfMaking 1 20 [.int 2, .int x2] 42 90324 (wl G.2.1 (LF G)) (some (.int 0), 42, 90324, (wl G.2.1 (LF G))) := by
  refine Ct.of (by decide) (Nat.le_of_ble_eq_true rfl) ⟨Nat.le_refl _, Nat.le_refl _⟩ ?_
  show Go l G mX9_isOutsideOfMaking _ 0 [(0, .int 2), (1, .int x2)] [] 42 90324 (wl G.2.1 (LF G))
  refine go_iload_n (pc := 0) dX9_isOutsideOfMaking_0 rfl rfl ?_
  refine go_if_lt_f (pc := 1) (tgt := 24) dX9_isOutsideOfMaking_1 (by decide) (by decide) ?_
  refine go_iload_n (pc := 4) dX9_isOutsideOfMaking_4 rfl rfl ?_
  refine go_bipush (pc := 5) (v := 6) dX9_isOutsideOfMaking_5 (by decide) ?_
  refine go_icmp_ge_f (pc := 7) (tgt := 24) dX9_isOutsideOfMaking_7 (by decide) (by decide) ?_
  refine go_iload_n (pc := 10) dX9_isOutsideOfMaking_10 rfl rfl ?_
  refine go_callS_i (pc := 11) sX9_326 rfl (cX2_isCounted_10) rfl rfl (Nat.le_of_ble_eq_true rfl) ⟨Nat.le_of_ble_eq_true rfl, Nat.le_of_ble_eq_true rfl, (Nat.le_add_right _ _), (Nat.le_add_right _ _)⟩ dX9_isOutsideOfMaking_11 ?_
  refine go_if_eq_f (pc := 14) (tgt := 28) dX9_isOutsideOfMaking_14 (by decide) (by decide) ?_
  refine go_iload_n (pc := 17) dX9_isOutsideOfMaking_17 rfl rfl ?_
  refine go_sipush (pc := 18) (v := 300) dX9_isOutsideOfMaking_18 (by decide) ?_
  refine go_icmp_le_t (pc := 21) (tgt := 28) dX9_isOutsideOfMaking_21 (by decide) k0 ?_
  refine go_iconst (pc := 28) (v := 0) dX9_isOutsideOfMaking_28 (by decide) ?_
  exact go_zret (pc := 29) rfl rfl dX9_isOutsideOfMaking_29
set_option maxRecDepth 100000 in
set_option maxHeartbeats 4000000 in
theorem cX2_isCounted_11 {l : Launch} {G : gG} : Ct l G mX2_isCounted 0 0 [.int 2] 42 90324 (wl G.2.1 [ob 9 [.ref (G.2.1 + 1), .ref (G.2.1 + 23), .ref (G.2.1 + 27), .ref (G.2.1 + 28), .ref (G.2.1 + 22), .int 0, .int 0, .null, .int 0, .null, .int 0], ob 6 [.ref (G.2.1 + 2), .ref (G.2.1 + 6), .ref (G.2.1 + 12), .ref (G.2.1 + 14), .ref (G.2.1 + 17), .ref (G.2.1 + 20), .ref (G.2.1 + 21)], ob 2 [.int 256, .int 0, .int 0, .int 0, .ref (G.2.1 + 3), .ref (G.2.1 + 4), .ref (G.2.1 + 5)], ai G 256 (upd (fun _ => 0) (0 : Int32).toNatClampNeg 2), ai G 500 (fun _ => (-1)), ai G 500 (fun _ => 0), ob 3 [.int 0, .int 0, .int 0, .int 0, .ref (G.2.1 + 7), .ref (G.2.1 + 8), .ref (G.2.1 + 9), .ref (G.2.1 + 10), .ref (G.2.1 + 11)], ai G 500 (fun _ => 0), ai G 500 (fun _ => 0), ai G 500 (fun _ => 0), ai G 500 (fun _ => 0), ai G 500 (fun _ => 0), ob 8 [.int 0, .int 0, .int 0, .int 0, .int 0, .int 0, .ref (G.2.1 + 13)], ai G 300 (fun _ => 0), ob 4 [.int 0, .ref (G.2.1 + 15), .ref (G.2.1 + 16)], ai G 1295 (fun _ => 0), ai G 1295 (fun _ => 0), ob 5 [.int 0, .int 0, .int 0, .int 0, .ref (G.2.1 + 18), .ref (G.2.1 + 19)], ai G 200 (fun _ => 0), ai G 8 (fun _ => (-1)), ai G 24 (fun _ => (-1)), ai G 32 (fun _ => (-1)), ai G 14 (fun _ => 0), ob 7 [.ref (G.2.1 + 1), .ref (G.2.1 + 2), .ref (G.2.1 + 6), .ref (G.2.1 + 22), .ref (G.2.1 + 24), .int 0, .ref (G.2.1 + 25), .ref (G.2.1 + 26), .int 0], ai G 500 (fun _ => 0), ai G 500 (fun _ => 0), ai G 500 (fun _ => 0), ob 0 [.ref (G.2.1 + 1), .ref (G.2.1 + 2), .ref (G.2.1 + 23), .int 0], ob 1 [.ref (G.2.1 + 29), .int 0, .int 0, .ref (G.2.1 + 30), .ref (G.2.1 + 31)], ai G 0 (fun _ => 0), ai G 500 (fun _ => 0), ai G 501 (fun _ => 0), ob 10 [.ref (G.2.1 + 33), .ref (G.2.1 + 34), .ref (G.2.1 + 35), .int 0, .int 0, .int 0, .int 0, .int 0, .ref (G.2.1 + 36), .ref (G.2.1 + 37), .ref (G.2.1 + 38), .ref (G.2.1 + 39), .int 0, .ref (G.2.1 + 40), .int 0, .ref (G.2.1 + 41)], ai G 26100 (sx 256), ai G 26100 (fun _ => 0), ai G 26100 (fun _ => 0), ai G 14 (fun _ => 0), ai G 500 (fun _ => 0), ai G 500 (fun _ => 0), az G 500 (fun _ => 0), ai G 501 (fun _ => 0), ai G 500 (fun _ => 0)]) (some (.int 1), 42, 90324, (wl G.2.1 [ob 9 [.ref (G.2.1 + 1), .ref (G.2.1 + 23), .ref (G.2.1 + 27), .ref (G.2.1 + 28), .ref (G.2.1 + 22), .int 0, .int 0, .null, .int 0, .null, .int 0], ob 6 [.ref (G.2.1 + 2), .ref (G.2.1 + 6), .ref (G.2.1 + 12), .ref (G.2.1 + 14), .ref (G.2.1 + 17), .ref (G.2.1 + 20), .ref (G.2.1 + 21)], ob 2 [.int 256, .int 0, .int 0, .int 0, .ref (G.2.1 + 3), .ref (G.2.1 + 4), .ref (G.2.1 + 5)], ai G 256 (upd (fun _ => 0) (0 : Int32).toNatClampNeg 2), ai G 500 (fun _ => (-1)), ai G 500 (fun _ => 0), ob 3 [.int 0, .int 0, .int 0, .int 0, .ref (G.2.1 + 7), .ref (G.2.1 + 8), .ref (G.2.1 + 9), .ref (G.2.1 + 10), .ref (G.2.1 + 11)], ai G 500 (fun _ => 0), ai G 500 (fun _ => 0), ai G 500 (fun _ => 0), ai G 500 (fun _ => 0), ai G 500 (fun _ => 0), ob 8 [.int 0, .int 0, .int 0, .int 0, .int 0, .int 0, .ref (G.2.1 + 13)], ai G 300 (fun _ => 0), ob 4 [.int 0, .ref (G.2.1 + 15), .ref (G.2.1 + 16)], ai G 1295 (fun _ => 0), ai G 1295 (fun _ => 0), ob 5 [.int 0, .int 0, .int 0, .int 0, .ref (G.2.1 + 18), .ref (G.2.1 + 19)], ai G 200 (fun _ => 0), ai G 8 (fun _ => (-1)), ai G 24 (fun _ => (-1)), ai G 32 (fun _ => (-1)), ai G 14 (fun _ => 0), ob 7 [.ref (G.2.1 + 1), .ref (G.2.1 + 2), .ref (G.2.1 + 6), .ref (G.2.1 + 22), .ref (G.2.1 + 24), .int 0, .ref (G.2.1 + 25), .ref (G.2.1 + 26), .int 0], ai G 500 (fun _ => 0), ai G 500 (fun _ => 0), ai G 500 (fun _ => 0), ob 0 [.ref (G.2.1 + 1), .ref (G.2.1 + 2), .ref (G.2.1 + 23), .int 0], ob 1 [.ref (G.2.1 + 29), .int 0, .int 0, .ref (G.2.1 + 30), .ref (G.2.1 + 31)], ai G 0 (fun _ => 0), ai G 500 (fun _ => 0), ai G 501 (fun _ => 0), ob 10 [.ref (G.2.1 + 33), .ref (G.2.1 + 34), .ref (G.2.1 + 35), .int 0, .int 0, .int 0, .int 0, .int 0, .ref (G.2.1 + 36), .ref (G.2.1 + 37), .ref (G.2.1 + 38), .ref (G.2.1 + 39), .int 0, .ref (G.2.1 + 40), .int 0, .ref (G.2.1 + 41)], ai G 26100 (sx 256), ai G 26100 (fun _ => 0), ai G 26100 (fun _ => 0), ai G 14 (fun _ => 0), ai G 500 (fun _ => 0), ai G 500 (fun _ => 0), az G 500 (fun _ => 0), ai G 501 (fun _ => 0), ai G 500 (fun _ => 0)])) := by
  refine Ct.of (by decide) (Nat.le_of_ble_eq_true rfl) ⟨Nat.le_refl _, Nat.le_refl _⟩ ?_
  show Go l G mX2_isCounted _ 0 [(0, .int 2)] [] 42 90324 (wl G.2.1 [ob 9 [.ref (G.2.1 + 1), .ref (G.2.1 + 23), .ref (G.2.1 + 27), .ref (G.2.1 + 28), .ref (G.2.1 + 22), .int 0, .int 0, .null, .int 0, .null, .int 0], ob 6 [.ref (G.2.1 + 2), .ref (G.2.1 + 6), .ref (G.2.1 + 12), .ref (G.2.1 + 14), .ref (G.2.1 + 17), .ref (G.2.1 + 20), .ref (G.2.1 + 21)], ob 2 [.int 256, .int 0, .int 0, .int 0, .ref (G.2.1 + 3), .ref (G.2.1 + 4), .ref (G.2.1 + 5)], ai G 256 (upd (fun _ => 0) (0 : Int32).toNatClampNeg 2), ai G 500 (fun _ => (-1)), ai G 500 (fun _ => 0), ob 3 [.int 0, .int 0, .int 0, .int 0, .ref (G.2.1 + 7), .ref (G.2.1 + 8), .ref (G.2.1 + 9), .ref (G.2.1 + 10), .ref (G.2.1 + 11)], ai G 500 (fun _ => 0), ai G 500 (fun _ => 0), ai G 500 (fun _ => 0), ai G 500 (fun _ => 0), ai G 500 (fun _ => 0), ob 8 [.int 0, .int 0, .int 0, .int 0, .int 0, .int 0, .ref (G.2.1 + 13)], ai G 300 (fun _ => 0), ob 4 [.int 0, .ref (G.2.1 + 15), .ref (G.2.1 + 16)], ai G 1295 (fun _ => 0), ai G 1295 (fun _ => 0), ob 5 [.int 0, .int 0, .int 0, .int 0, .ref (G.2.1 + 18), .ref (G.2.1 + 19)], ai G 200 (fun _ => 0), ai G 8 (fun _ => (-1)), ai G 24 (fun _ => (-1)), ai G 32 (fun _ => (-1)), ai G 14 (fun _ => 0), ob 7 [.ref (G.2.1 + 1), .ref (G.2.1 + 2), .ref (G.2.1 + 6), .ref (G.2.1 + 22), .ref (G.2.1 + 24), .int 0, .ref (G.2.1 + 25), .ref (G.2.1 + 26), .int 0], ai G 500 (fun _ => 0), ai G 500 (fun _ => 0), ai G 500 (fun _ => 0), ob 0 [.ref (G.2.1 + 1), .ref (G.2.1 + 2), .ref (G.2.1 + 23), .int 0], ob 1 [.ref (G.2.1 + 29), .int 0, .int 0, .ref (G.2.1 + 30), .ref (G.2.1 + 31)], ai G 0 (fun _ => 0), ai G 500 (fun _ => 0), ai G 501 (fun _ => 0), ob 10 [.ref (G.2.1 + 33), .ref (G.2.1 + 34), .ref (G.2.1 + 35), .int 0, .int 0, .int 0, .int 0, .int 0, .ref (G.2.1 + 36), .ref (G.2.1 + 37), .ref (G.2.1 + 38), .ref (G.2.1 + 39), .int 0, .ref (G.2.1 + 40), .int 0, .ref (G.2.1 + 41)], ai G 26100 (sx 256), ai G 26100 (fun _ => 0), ai G 26100 (fun _ => 0), ai G 14 (fun _ => 0), ai G 500 (fun _ => 0), ai G 500 (fun _ => 0), az G 500 (fun _ => 0), ai G 501 (fun _ => 0), ai G 500 (fun _ => 0)])
  refine go_iload_n (pc := 0) dX2_isCounted_0 rfl rfl ?_
  refine go_iconst (pc := 1) (v := 1) dX2_isCounted_1 (by decide) ?_
  refine go_icmp_eq_f (pc := 2) (tgt := 15) dX2_isCounted_2 (by decide) (by decide) ?_
  refine go_iload_n (pc := 5) dX2_isCounted_5 rfl rfl ?_
  refine go_iconst (pc := 6) (v := 2) dX2_isCounted_6 (by decide) ?_
  refine go_icmp_eq_t (pc := 7) (tgt := 15) dX2_isCounted_7 (by decide) (by decide) ?_
  refine go_iconst (pc := 15) (v := 1) dX2_isCounted_15 (by decide) ?_
  refine go_goto (pc := 16) (tgt := 20) dX2_isCounted_16 (by decide) ?_
  exact go_zret (pc := 20) rfl rfl dX2_isCounted_20
set_option maxRecDepth 100000 in
set_option maxHeartbeats 4000000 in
theorem cX2_intsFor_11 {l : Launch} {G : gG} (x2 : Int32) : Ct l G mX2_intsFor 0 0 [.int 2, .int x2] 42 90324 (wl G.2.1 [ob 9 [.ref (G.2.1 + 1), .ref (G.2.1 + 23), .ref (G.2.1 + 27), .ref (G.2.1 + 28), .ref (G.2.1 + 22), .int 0, .int 0, .null, .int 0, .null, .int 0], ob 6 [.ref (G.2.1 + 2), .ref (G.2.1 + 6), .ref (G.2.1 + 12), .ref (G.2.1 + 14), .ref (G.2.1 + 17), .ref (G.2.1 + 20), .ref (G.2.1 + 21)], ob 2 [.int 256, .int 0, .int 0, .int 0, .ref (G.2.1 + 3), .ref (G.2.1 + 4), .ref (G.2.1 + 5)], ai G 256 (upd (upd (fun _ => 0) (0 : Int32).toNatClampNeg 2) (1 : Int32).toNatClampNeg x2), ai G 500 (upd (fun _ => (-1)) (0 : Int32).toNatClampNeg 0), ai G 500 (upd (fun _ => 0) (0 : Int32).toNatClampNeg 0), ob 3 [.int 0, .int 0, .int 0, .int 0, .ref (G.2.1 + 7), .ref (G.2.1 + 8), .ref (G.2.1 + 9), .ref (G.2.1 + 10), .ref (G.2.1 + 11)], ai G 500 (fun _ => 0), ai G 500 (fun _ => 0), ai G 500 (fun _ => 0), ai G 500 (fun _ => 0), ai G 500 (fun _ => 0), ob 8 [.int 0, .int 0, .int 0, .int 0, .int 0, .int 0, .ref (G.2.1 + 13)], ai G 300 (fun _ => 0), ob 4 [.int 0, .ref (G.2.1 + 15), .ref (G.2.1 + 16)], ai G 1295 (fun _ => 0), ai G 1295 (fun _ => 0), ob 5 [.int 0, .int 0, .int 0, .int 0, .ref (G.2.1 + 18), .ref (G.2.1 + 19)], ai G 200 (fun _ => 0), ai G 8 (fun _ => (-1)), ai G 24 (fun _ => (-1)), ai G 32 (fun _ => (-1)), ai G 14 (fun _ => 0), ob 7 [.ref (G.2.1 + 1), .ref (G.2.1 + 2), .ref (G.2.1 + 6), .ref (G.2.1 + 22), .ref (G.2.1 + 24), .int 0, .ref (G.2.1 + 25), .ref (G.2.1 + 26), .int 0], ai G 500 (fun _ => 0), ai G 500 (fun _ => 0), ai G 500 (fun _ => 0), ob 0 [.ref (G.2.1 + 1), .ref (G.2.1 + 2), .ref (G.2.1 + 23), .int 0], ob 1 [.ref (G.2.1 + 29), .int 0, .int 0, .ref (G.2.1 + 30), .ref (G.2.1 + 31)], ai G 0 (fun _ => 0), ai G 500 (fun _ => 0), ai G 501 (fun _ => 0), ob 10 [.ref (G.2.1 + 33), .ref (G.2.1 + 34), .ref (G.2.1 + 35), .int 0, .int 0, .int 0, .int 0, .int 0, .ref (G.2.1 + 36), .ref (G.2.1 + 37), .ref (G.2.1 + 38), .ref (G.2.1 + 39), .int 0, .ref (G.2.1 + 40), .int 0, .ref (G.2.1 + 41)], ai G 26100 (sx 256), ai G 26100 (fun _ => 0), ai G 26100 (fun _ => 0), ai G 14 (fun _ => 0), ai G 500 (fun _ => 0), ai G 500 (fun _ => 0), az G 500 (fun _ => 0), ai G 501 (fun _ => 0), ai G 500 (fun _ => 0)]) (some (.int (2 + ((x2 + 3) / 4))), 42, 90324, (wl G.2.1 [ob 9 [.ref (G.2.1 + 1), .ref (G.2.1 + 23), .ref (G.2.1 + 27), .ref (G.2.1 + 28), .ref (G.2.1 + 22), .int 0, .int 0, .null, .int 0, .null, .int 0], ob 6 [.ref (G.2.1 + 2), .ref (G.2.1 + 6), .ref (G.2.1 + 12), .ref (G.2.1 + 14), .ref (G.2.1 + 17), .ref (G.2.1 + 20), .ref (G.2.1 + 21)], ob 2 [.int 256, .int 0, .int 0, .int 0, .ref (G.2.1 + 3), .ref (G.2.1 + 4), .ref (G.2.1 + 5)], ai G 256 (upd (upd (fun _ => 0) (0 : Int32).toNatClampNeg 2) (1 : Int32).toNatClampNeg x2), ai G 500 (upd (fun _ => (-1)) (0 : Int32).toNatClampNeg 0), ai G 500 (upd (fun _ => 0) (0 : Int32).toNatClampNeg 0), ob 3 [.int 0, .int 0, .int 0, .int 0, .ref (G.2.1 + 7), .ref (G.2.1 + 8), .ref (G.2.1 + 9), .ref (G.2.1 + 10), .ref (G.2.1 + 11)], ai G 500 (fun _ => 0), ai G 500 (fun _ => 0), ai G 500 (fun _ => 0), ai G 500 (fun _ => 0), ai G 500 (fun _ => 0), ob 8 [.int 0, .int 0, .int 0, .int 0, .int 0, .int 0, .ref (G.2.1 + 13)], ai G 300 (fun _ => 0), ob 4 [.int 0, .ref (G.2.1 + 15), .ref (G.2.1 + 16)], ai G 1295 (fun _ => 0), ai G 1295 (fun _ => 0), ob 5 [.int 0, .int 0, .int 0, .int 0, .ref (G.2.1 + 18), .ref (G.2.1 + 19)], ai G 200 (fun _ => 0), ai G 8 (fun _ => (-1)), ai G 24 (fun _ => (-1)), ai G 32 (fun _ => (-1)), ai G 14 (fun _ => 0), ob 7 [.ref (G.2.1 + 1), .ref (G.2.1 + 2), .ref (G.2.1 + 6), .ref (G.2.1 + 22), .ref (G.2.1 + 24), .int 0, .ref (G.2.1 + 25), .ref (G.2.1 + 26), .int 0], ai G 500 (fun _ => 0), ai G 500 (fun _ => 0), ai G 500 (fun _ => 0), ob 0 [.ref (G.2.1 + 1), .ref (G.2.1 + 2), .ref (G.2.1 + 23), .int 0], ob 1 [.ref (G.2.1 + 29), .int 0, .int 0, .ref (G.2.1 + 30), .ref (G.2.1 + 31)], ai G 0 (fun _ => 0), ai G 500 (fun _ => 0), ai G 501 (fun _ => 0), ob 10 [.ref (G.2.1 + 33), .ref (G.2.1 + 34), .ref (G.2.1 + 35), .int 0, .int 0, .int 0, .int 0, .int 0, .ref (G.2.1 + 36), .ref (G.2.1 + 37), .ref (G.2.1 + 38), .ref (G.2.1 + 39), .int 0, .ref (G.2.1 + 40), .int 0, .ref (G.2.1 + 41)], ai G 26100 (sx 256), ai G 26100 (fun _ => 0), ai G 26100 (fun _ => 0), ai G 14 (fun _ => 0), ai G 500 (fun _ => 0), ai G 500 (fun _ => 0), az G 500 (fun _ => 0), ai G 501 (fun _ => 0), ai G 500 (fun _ => 0)])) := by
  refine Ct.of (by decide) (Nat.le_of_ble_eq_true rfl) ⟨Nat.le_refl _, Nat.le_refl _⟩ ?_
  show Go l G mX2_intsFor _ 0 [(0, .int 2), (1, .int x2)] [] 42 90324 (wl G.2.1 [ob 9 [.ref (G.2.1 + 1), .ref (G.2.1 + 23), .ref (G.2.1 + 27), .ref (G.2.1 + 28), .ref (G.2.1 + 22), .int 0, .int 0, .null, .int 0, .null, .int 0], ob 6 [.ref (G.2.1 + 2), .ref (G.2.1 + 6), .ref (G.2.1 + 12), .ref (G.2.1 + 14), .ref (G.2.1 + 17), .ref (G.2.1 + 20), .ref (G.2.1 + 21)], ob 2 [.int 256, .int 0, .int 0, .int 0, .ref (G.2.1 + 3), .ref (G.2.1 + 4), .ref (G.2.1 + 5)], ai G 256 (upd (upd (fun _ => 0) (0 : Int32).toNatClampNeg 2) (1 : Int32).toNatClampNeg x2), ai G 500 (upd (fun _ => (-1)) (0 : Int32).toNatClampNeg 0), ai G 500 (upd (fun _ => 0) (0 : Int32).toNatClampNeg 0), ob 3 [.int 0, .int 0, .int 0, .int 0, .ref (G.2.1 + 7), .ref (G.2.1 + 8), .ref (G.2.1 + 9), .ref (G.2.1 + 10), .ref (G.2.1 + 11)], ai G 500 (fun _ => 0), ai G 500 (fun _ => 0), ai G 500 (fun _ => 0), ai G 500 (fun _ => 0), ai G 500 (fun _ => 0), ob 8 [.int 0, .int 0, .int 0, .int 0, .int 0, .int 0, .ref (G.2.1 + 13)], ai G 300 (fun _ => 0), ob 4 [.int 0, .ref (G.2.1 + 15), .ref (G.2.1 + 16)], ai G 1295 (fun _ => 0), ai G 1295 (fun _ => 0), ob 5 [.int 0, .int 0, .int 0, .int 0, .ref (G.2.1 + 18), .ref (G.2.1 + 19)], ai G 200 (fun _ => 0), ai G 8 (fun _ => (-1)), ai G 24 (fun _ => (-1)), ai G 32 (fun _ => (-1)), ai G 14 (fun _ => 0), ob 7 [.ref (G.2.1 + 1), .ref (G.2.1 + 2), .ref (G.2.1 + 6), .ref (G.2.1 + 22), .ref (G.2.1 + 24), .int 0, .ref (G.2.1 + 25), .ref (G.2.1 + 26), .int 0], ai G 500 (fun _ => 0), ai G 500 (fun _ => 0), ai G 500 (fun _ => 0), ob 0 [.ref (G.2.1 + 1), .ref (G.2.1 + 2), .ref (G.2.1 + 23), .int 0], ob 1 [.ref (G.2.1 + 29), .int 0, .int 0, .ref (G.2.1 + 30), .ref (G.2.1 + 31)], ai G 0 (fun _ => 0), ai G 500 (fun _ => 0), ai G 501 (fun _ => 0), ob 10 [.ref (G.2.1 + 33), .ref (G.2.1 + 34), .ref (G.2.1 + 35), .int 0, .int 0, .int 0, .int 0, .int 0, .ref (G.2.1 + 36), .ref (G.2.1 + 37), .ref (G.2.1 + 38), .ref (G.2.1 + 39), .int 0, .ref (G.2.1 + 40), .int 0, .ref (G.2.1 + 41)], ai G 26100 (sx 256), ai G 26100 (fun _ => 0), ai G 26100 (fun _ => 0), ai G 14 (fun _ => 0), ai G 500 (fun _ => 0), ai G 500 (fun _ => 0), az G 500 (fun _ => 0), ai G 501 (fun _ => 0), ai G 500 (fun _ => 0)])
  refine go_iload_n (pc := 0) dX2_intsFor_0 rfl rfl ?_
  refine go_tableIn (pc := 1) (off := 45) (tgt := 46) dX2_intsFor_1 (by decide) (by decide) (by decide) (by decide) ?_
  refine go_iconst (pc := 46) (v := 2) dX2_intsFor_46 (by decide) ?_
  refine go_iload_n (pc := 47) dX2_intsFor_47 rfl rfl ?_
  refine go_iconst (pc := 48) (v := 3) dX2_intsFor_48 (by decide) ?_
  refine go_iadd (pc := 49) dX2_intsFor_49 ?_
  refine go_iconst (pc := 50) (v := 4) dX2_intsFor_50 (by decide) ?_
  refine go_idiv (pc := 51) dX2_intsFor_51 (by decide) ?_
  refine go_iadd (pc := 52) dX2_intsFor_52 ?_
  exact go_iret (pc := 53) rfl dX2_intsFor_53
set_option maxRecDepth 100000 in
set_option maxHeartbeats 4000000 in
theorem cX2_addCell_5 {l : Launch} {G : gG} (x2 : Int32) (k0 : x2 ≤ 300) (k1 : 0 ≤ x2) (k4 : ¬ x2 < 0) (k2 : 2 + ((x2 + 3) / 4) ≤ 256) : Ct l G mX2_addCell 1 21 [.ref (G.2.1 + 2), .int 2, .int x2] 42 90324 (wl G.2.1 (LF G)) (some (.int 0), 42, 90324, (wl G.2.1 [ob 9 [.ref (G.2.1 + 1), .ref (G.2.1 + 23), .ref (G.2.1 + 27), .ref (G.2.1 + 28), .ref (G.2.1 + 22), .int 0, .int 0, .null, .int 0, .null, .int 0], ob 6 [.ref (G.2.1 + 2), .ref (G.2.1 + 6), .ref (G.2.1 + 12), .ref (G.2.1 + 14), .ref (G.2.1 + 17), .ref (G.2.1 + 20), .ref (G.2.1 + 21)], ob 2 [.int 256, .int (0 + (2 + ((x2 + 3) / 4))), .int 1, .int 1, .ref (G.2.1 + 3), .ref (G.2.1 + 4), .ref (G.2.1 + 5)], ai G 256 (upd (upd (fun _ => 0) (0 : Int32).toNatClampNeg 2) (1 : Int32).toNatClampNeg x2), ai G 500 (upd (fun _ => (-1)) (0 : Int32).toNatClampNeg 0), ai G 500 (upd (fun _ => 0) (0 : Int32).toNatClampNeg 0), ob 3 [.int 0, .int 0, .int 0, .int 0, .ref (G.2.1 + 7), .ref (G.2.1 + 8), .ref (G.2.1 + 9), .ref (G.2.1 + 10), .ref (G.2.1 + 11)], ai G 500 (fun _ => 0), ai G 500 (fun _ => 0), ai G 500 (fun _ => 0), ai G 500 (fun _ => 0), ai G 500 (fun _ => 0), ob 8 [.int 0, .int 0, .int 0, .int 0, .int 0, .int 0, .ref (G.2.1 + 13)], ai G 300 (fun _ => 0), ob 4 [.int 0, .ref (G.2.1 + 15), .ref (G.2.1 + 16)], ai G 1295 (fun _ => 0), ai G 1295 (fun _ => 0), ob 5 [.int 0, .int 0, .int 0, .int 0, .ref (G.2.1 + 18), .ref (G.2.1 + 19)], ai G 200 (fun _ => 0), ai G 8 (fun _ => (-1)), ai G 24 (fun _ => (-1)), ai G 32 (fun _ => (-1)), ai G 14 (fun _ => 0), ob 7 [.ref (G.2.1 + 1), .ref (G.2.1 + 2), .ref (G.2.1 + 6), .ref (G.2.1 + 22), .ref (G.2.1 + 24), .int 0, .ref (G.2.1 + 25), .ref (G.2.1 + 26), .int 0], ai G 500 (fun _ => 0), ai G 500 (fun _ => 0), ai G 500 (fun _ => 0), ob 0 [.ref (G.2.1 + 1), .ref (G.2.1 + 2), .ref (G.2.1 + 23), .int 0], ob 1 [.ref (G.2.1 + 29), .int 0, .int 0, .ref (G.2.1 + 30), .ref (G.2.1 + 31)], ai G 0 (fun _ => 0), ai G 500 (fun _ => 0), ai G 501 (fun _ => 0), ob 10 [.ref (G.2.1 + 33), .ref (G.2.1 + 34), .ref (G.2.1 + 35), .int 0, .int 0, .int 0, .int 0, .int 0, .ref (G.2.1 + 36), .ref (G.2.1 + 37), .ref (G.2.1 + 38), .ref (G.2.1 + 39), .int 0, .ref (G.2.1 + 40), .int 0, .ref (G.2.1 + 41)], ai G 26100 (sx 256), ai G 26100 (fun _ => 0), ai G 26100 (fun _ => 0), ai G 14 (fun _ => 0), ai G 500 (fun _ => 0), ai G 500 (fun _ => 0), az G 500 (fun _ => 0), ai G 501 (fun _ => 0), ai G 500 (fun _ => 0)])) := by
  refine Ct.of (by decide) (Nat.le_of_ble_eq_true rfl) ⟨Nat.le_refl _, Nat.le_refl _⟩ ?_
  show Go l G mX2_addCell _ 0 [(0, .ref (G.2.1 + 2)), (1, .int 2), (2, .int x2)] [] 42 90324 (wl G.2.1 (LF G))
  refine go_aload_n (pc := 0) dX2_addCell_0 rfl rfl ?_
  refine go_get (pc := 1) fX2_32 rfl (gz_b (by decide)) (wl_at (i := 2) rfl) rfl dX2_addCell_1 ?_
  refine go_istore_n (pc := 4) (lv' := [(3, .int 0), (0, .ref (G.2.1 + 2)), (1, .int 2), (2, .int x2)]) dX2_addCell_4 rfl (by decide) rfl ?_
  refine go_aload_n (pc := 5) dX2_addCell_5 rfl rfl ?_
  refine go_get (pc := 6) fX2_9 rfl (gz_b (by decide)) (wl_at (i := 2) rfl) rfl dX2_addCell_6 ?_
  refine go_aload_n (pc := 9) dX2_addCell_9 rfl rfl ?_
  refine go_get (pc := 10) fX2_29 rfl (gz_b (by decide)) (wl_at (i := 2) rfl) rfl dX2_addCell_10 ?_
  refine go_iload_n (pc := 13) dX2_addCell_13 rfl rfl ?_
  refine go_bipush (pc := 14) (v := 8) dX2_addCell_14 (by decide) ?_
  refine go_imul (pc := 16) dX2_addCell_16 ?_
  refine go_top (y := 0) (by decide) ?_
  refine go_iload_n (pc := 17) dX2_addCell_17 rfl rfl ?_
  refine go_iadd (pc := 18) dX2_addCell_18 ?_
  refine go_top (y := 2) (by decide) ?_
  refine go_iast (pc := 19) (gz_b (by decide)) (wl_at (i := 3) rfl) (gv_in (by decide)) dX2_addCell_19 ?_
  refine go_ext (wl_up (i := 3) rfl rfl) ?_
  refine go_iload_n (pc := 20) dX2_addCell_20 rfl rfl ?_
  refine go_callS_i (pc := 21) sX2_60 rfl (cX2_isCounted_11) rfl rfl (Nat.le_of_ble_eq_true rfl) ⟨Nat.le_of_ble_eq_true rfl, Nat.le_of_ble_eq_true rfl, (Nat.le_add_right _ _), (Nat.le_add_right _ _)⟩ dX2_addCell_21 ?_
  refine go_if_ne_t (pc := 24) (tgt := 50) dX2_addCell_24 (by decide) (by decide) ?_
  refine go_aload_n (pc := 50) dX2_addCell_50 rfl rfl ?_
  refine go_get (pc := 51) fX2_9 rfl (gz_b (by decide)) (wl_at (i := 2) rfl) rfl dX2_addCell_51 ?_
  refine go_aload_n (pc := 54) dX2_addCell_54 rfl rfl ?_
  refine go_get (pc := 55) fX2_29 rfl (gz_b (by decide)) (wl_at (i := 2) rfl) rfl dX2_addCell_55 ?_
  refine go_iconst (pc := 58) (v := 1) dX2_addCell_58 (by decide) ?_
  refine go_iadd (pc := 59) dX2_addCell_59 ?_
  refine go_top (y := 1) (by decide) ?_
  refine go_iload_n (pc := 60) dX2_addCell_60 rfl rfl ?_
  refine go_iast (pc := 61) (gz_b (by decide)) (wl_at (i := 3) rfl) (gv_in (by decide)) dX2_addCell_61 ?_
  refine go_ext (wl_up (i := 3) rfl rfl) ?_
  refine go_iload_n (pc := 62) dX2_addCell_62 rfl rfl ?_
  refine go_iconst (pc := 63) (v := 2) dX2_addCell_63 (by decide) ?_
  refine go_icmp_eq_t (pc := 64) (tgt := 89) dX2_addCell_64 (by decide) (by decide) ?_
  refine go_aload_n (pc := 89) dX2_addCell_89 rfl rfl ?_
  refine go_get (pc := 90) fX2_15 rfl (gz_b (by decide)) (wl_at (i := 2) rfl) rfl dX2_addCell_90 ?_
  refine go_iload_n (pc := 93) dX2_addCell_93 rfl rfl ?_
  refine go_aload_n (pc := 94) dX2_addCell_94 rfl rfl ?_
  refine go_get (pc := 95) fX2_29 rfl (gz_b (by decide)) (wl_at (i := 2) rfl) rfl dX2_addCell_95 ?_
  refine go_iast (pc := 98) (gz_b (by decide)) (wl_at (i := 4) rfl) (gv_in (by decide)) dX2_addCell_98 ?_
  refine go_ext (wl_up (i := 4) rfl rfl) ?_
  refine go_aload_n (pc := 99) dX2_addCell_99 rfl rfl ?_
  refine go_get (pc := 100) fX2_18 rfl (gz_b (by decide)) (wl_at (i := 2) rfl) rfl dX2_addCell_100 ?_
  refine go_iload_n (pc := 103) dX2_addCell_103 rfl rfl ?_
  refine go_iconst (pc := 104) (v := 0) dX2_addCell_104 (by decide) ?_
  refine go_iast (pc := 105) (gz_b (by decide)) (wl_at (i := 5) rfl) (gv_in (by decide)) dX2_addCell_105 ?_
  refine go_ext (wl_up (i := 5) rfl rfl) ?_
  refine go_aload_n (pc := 106) dX2_addCell_106 rfl rfl ?_
  refine go_dup (pc := 107) dX2_addCell_107 rfl ?_
  refine go_get (pc := 108) fX2_29 rfl (gz_b (by decide)) (wl_at (i := 2) rfl) rfl dX2_addCell_108 ?_
  refine go_iload_n (pc := 111) dX2_addCell_111 rfl rfl ?_
  refine go_iload_n (pc := 112) dX2_addCell_112 rfl rfl ?_
  refine go_callS_i (pc := 113) sX2_67 rfl (cX2_intsFor_11 x2) rfl rfl (Nat.le_of_ble_eq_true rfl) ⟨Nat.le_of_ble_eq_true rfl, Nat.le_of_ble_eq_true rfl, (Nat.le_add_right _ _), (Nat.le_add_right _ _)⟩ dX2_addCell_113 ?_
  refine go_iadd (pc := 116) dX2_addCell_116 ?_
  refine go_put (pc := 117) fX2_29 rfl (gz_b (by decide)) (wl_at (i := 2) rfl) (Nat.le_of_ble_eq_true rfl) rfl rfl dX2_addCell_117 ?_
  refine go_ext (wl_up (i := 2) rfl rfl) ?_
  refine go_aload_n (pc := 120) dX2_addCell_120 rfl rfl ?_
  refine go_dup (pc := 121) dX2_addCell_121 rfl ?_
  refine go_get (pc := 122) fX2_32 rfl (gz_b (by decide)) (wl_at (i := 2) rfl) rfl dX2_addCell_122 ?_
  refine go_iconst (pc := 125) (v := 1) dX2_addCell_125 (by decide) ?_
  refine go_iadd (pc := 126) dX2_addCell_126 ?_
  refine go_top (y := 1) (by decide) ?_
  refine go_put (pc := 127) fX2_32 rfl (gz_b (by decide)) (wl_at (i := 2) rfl) (Nat.le_of_ble_eq_true rfl) rfl rfl dX2_addCell_127 ?_
  refine go_ext (wl_up (i := 2) rfl rfl) ?_
  refine go_aload_n (pc := 130) dX2_addCell_130 rfl rfl ?_
  refine go_dup (pc := 131) dX2_addCell_131 rfl ?_
  refine go_get (pc := 132) fX2_35 rfl (gz_b (by decide)) (wl_at (i := 2) rfl) rfl dX2_addCell_132 ?_
  refine go_iconst (pc := 135) (v := 1) dX2_addCell_135 (by decide) ?_
  refine go_iadd (pc := 136) dX2_addCell_136 ?_
  refine go_top (y := 1) (by decide) ?_
  refine go_put (pc := 137) fX2_35 rfl (gz_b (by decide)) (wl_at (i := 2) rfl) (Nat.le_of_ble_eq_true rfl) rfl rfl dX2_addCell_137 ?_
  refine go_ext (wl_up (i := 2) rfl rfl) ?_
  refine go_iload_n (pc := 140) dX2_addCell_140 rfl rfl ?_
  refine go_w (show _ = wl G.2.1 [ob 9 [.ref (G.2.1 + 1), .ref (G.2.1 + 23), .ref (G.2.1 + 27), .ref (G.2.1 + 28), .ref (G.2.1 + 22), .int 0, .int 0, .null, .int 0, .null, .int 0], ob 6 [.ref (G.2.1 + 2), .ref (G.2.1 + 6), .ref (G.2.1 + 12), .ref (G.2.1 + 14), .ref (G.2.1 + 17), .ref (G.2.1 + 20), .ref (G.2.1 + 21)], ob 2 [.int 256, .int (0 + (2 + ((x2 + 3) / 4))), .int 1, .int 1, .ref (G.2.1 + 3), .ref (G.2.1 + 4), .ref (G.2.1 + 5)], ai G 256 (upd (upd (fun _ => 0) (0 : Int32).toNatClampNeg 2) (1 : Int32).toNatClampNeg x2), ai G 500 (upd (fun _ => (-1)) (0 : Int32).toNatClampNeg 0), ai G 500 (upd (fun _ => 0) (0 : Int32).toNatClampNeg 0), ob 3 [.int 0, .int 0, .int 0, .int 0, .ref (G.2.1 + 7), .ref (G.2.1 + 8), .ref (G.2.1 + 9), .ref (G.2.1 + 10), .ref (G.2.1 + 11)], ai G 500 (fun _ => 0), ai G 500 (fun _ => 0), ai G 500 (fun _ => 0), ai G 500 (fun _ => 0), ai G 500 (fun _ => 0), ob 8 [.int 0, .int 0, .int 0, .int 0, .int 0, .int 0, .ref (G.2.1 + 13)], ai G 300 (fun _ => 0), ob 4 [.int 0, .ref (G.2.1 + 15), .ref (G.2.1 + 16)], ai G 1295 (fun _ => 0), ai G 1295 (fun _ => 0), ob 5 [.int 0, .int 0, .int 0, .int 0, .ref (G.2.1 + 18), .ref (G.2.1 + 19)], ai G 200 (fun _ => 0), ai G 8 (fun _ => (-1)), ai G 24 (fun _ => (-1)), ai G 32 (fun _ => (-1)), ai G 14 (fun _ => 0), ob 7 [.ref (G.2.1 + 1), .ref (G.2.1 + 2), .ref (G.2.1 + 6), .ref (G.2.1 + 22), .ref (G.2.1 + 24), .int 0, .ref (G.2.1 + 25), .ref (G.2.1 + 26), .int 0], ai G 500 (fun _ => 0), ai G 500 (fun _ => 0), ai G 500 (fun _ => 0), ob 0 [.ref (G.2.1 + 1), .ref (G.2.1 + 2), .ref (G.2.1 + 23), .int 0], ob 1 [.ref (G.2.1 + 29), .int 0, .int 0, .ref (G.2.1 + 30), .ref (G.2.1 + 31)], ai G 0 (fun _ => 0), ai G 500 (fun _ => 0), ai G 501 (fun _ => 0), ob 10 [.ref (G.2.1 + 33), .ref (G.2.1 + 34), .ref (G.2.1 + 35), .int 0, .int 0, .int 0, .int 0, .int 0, .ref (G.2.1 + 36), .ref (G.2.1 + 37), .ref (G.2.1 + 38), .ref (G.2.1 + 39), .int 0, .ref (G.2.1 + 40), .int 0, .ref (G.2.1 + 41)], ai G 26100 (sx 256), ai G 26100 (fun _ => 0), ai G 26100 (fun _ => 0), ai G 14 (fun _ => 0), ai G 500 (fun _ => 0), ai G 500 (fun _ => 0), az G 500 (fun _ => 0), ai G 501 (fun _ => 0), ai G 500 (fun _ => 0)] from rfl) ?_
  exact go_iret (pc := 141) rfl dX2_addCell_141
set_option maxRecDepth 100000 in
set_option maxHeartbeats 4000000 in
theorem cX0_makeCell_9 {l : Launch} {G : gG} (x2 : Int32) (k0 : x2 ≤ 300) (k1 : 0 ≤ x2) (k4 : ¬ x2 < 0) (k2 : 2 + ((x2 + 3) / 4) ≤ 256) : Ct l G mX0_makeCell 2 45 [.ref (G.2.1 + 27), .int 2, .int x2] 42 90324 (wl G.2.1 (LF G)) (some (.int 0), 42, 90324, (wl G.2.1 [ob 9 [.ref (G.2.1 + 1), .ref (G.2.1 + 23), .ref (G.2.1 + 27), .ref (G.2.1 + 28), .ref (G.2.1 + 22), .int 0, .int 0, .null, .int 0, .null, .int 0], ob 6 [.ref (G.2.1 + 2), .ref (G.2.1 + 6), .ref (G.2.1 + 12), .ref (G.2.1 + 14), .ref (G.2.1 + 17), .ref (G.2.1 + 20), .ref (G.2.1 + 21)], ob 2 [.int 256, .int (0 + (2 + ((x2 + 3) / 4))), .int 1, .int 1, .ref (G.2.1 + 3), .ref (G.2.1 + 4), .ref (G.2.1 + 5)], ai G 256 (upd (upd (fun _ => 0) (0 : Int32).toNatClampNeg 2) (1 : Int32).toNatClampNeg x2), ai G 500 (upd (fun _ => (-1)) (0 : Int32).toNatClampNeg 0), ai G 500 (upd (fun _ => 0) (0 : Int32).toNatClampNeg 0), ob 3 [.int 0, .int 0, .int 0, .int 0, .ref (G.2.1 + 7), .ref (G.2.1 + 8), .ref (G.2.1 + 9), .ref (G.2.1 + 10), .ref (G.2.1 + 11)], ai G 500 (fun _ => 0), ai G 500 (fun _ => 0), ai G 500 (fun _ => 0), ai G 500 (fun _ => 0), ai G 500 (fun _ => 0), ob 8 [.int 0, .int 0, .int 0, .int 0, .int 0, .int 0, .ref (G.2.1 + 13)], ai G 300 (fun _ => 0), ob 4 [.int 0, .ref (G.2.1 + 15), .ref (G.2.1 + 16)], ai G 1295 (fun _ => 0), ai G 1295 (fun _ => 0), ob 5 [.int 0, .int 0, .int 0, .int 0, .ref (G.2.1 + 18), .ref (G.2.1 + 19)], ai G 200 (fun _ => 0), ai G 8 (fun _ => (-1)), ai G 24 (fun _ => (-1)), ai G 32 (fun _ => (-1)), ai G 14 (fun _ => 0), ob 7 [.ref (G.2.1 + 1), .ref (G.2.1 + 2), .ref (G.2.1 + 6), .ref (G.2.1 + 22), .ref (G.2.1 + 24), .int 0, .ref (G.2.1 + 25), .ref (G.2.1 + 26), .int 0], ai G 500 (fun _ => 0), ai G 500 (fun _ => 0), ai G 500 (fun _ => 0), ob 0 [.ref (G.2.1 + 1), .ref (G.2.1 + 2), .ref (G.2.1 + 23), .int 0], ob 1 [.ref (G.2.1 + 29), .int 0, .int 0, .ref (G.2.1 + 30), .ref (G.2.1 + 31)], ai G 0 (fun _ => 0), ai G 500 (fun _ => 0), ai G 501 (fun _ => 0), ob 10 [.ref (G.2.1 + 33), .ref (G.2.1 + 34), .ref (G.2.1 + 35), .int 0, .int 0, .int 0, .int 0, .int 0, .ref (G.2.1 + 36), .ref (G.2.1 + 37), .ref (G.2.1 + 38), .ref (G.2.1 + 39), .int 0, .ref (G.2.1 + 40), .int 0, .ref (G.2.1 + 41)], ai G 26100 (sx 256), ai G 26100 (fun _ => 0), ai G 26100 (fun _ => 0), ai G 14 (fun _ => 0), ai G 500 (fun _ => 0), ai G 500 (fun _ => 0), az G 500 (fun _ => 0), ai G 501 (fun _ => 0), ai G 500 (fun _ => 0)])) := by
  refine Ct.of (by decide) (Nat.le_of_ble_eq_true rfl) ⟨Nat.le_refl _, Nat.le_refl _⟩ ?_
  show Go l G mX0_makeCell _ 0 [(0, .ref (G.2.1 + 27)), (1, .int 2), (2, .int x2)] [] 42 90324 (wl G.2.1 (LF G))
  refine go_iload_n (pc := 0) dX0_makeCell_0 rfl rfl ?_
  refine go_callS_i (pc := 1) sX0_26 rfl (cX2_isCounted_10) rfl rfl (Nat.le_of_ble_eq_true rfl) ⟨Nat.le_of_ble_eq_true rfl, Nat.le_of_ble_eq_true rfl, (Nat.le_add_right _ _), (Nat.le_add_right _ _)⟩ dX0_makeCell_1 ?_
  refine go_if_eq_f (pc := 4) (tgt := 11) dX0_makeCell_4 (by decide) (by decide) ?_
  refine go_iload_n (pc := 7) dX0_makeCell_7 rfl rfl ?_
  refine go_goto (pc := 8) (tgt := 12) dX0_makeCell_8 (by decide) ?_
  refine go_istore_n (pc := 12) (lv' := [(3, .int x2), (0, .ref (G.2.1 + 27)), (1, .int 2), (2, .int x2)]) dX0_makeCell_12 rfl (by decide) rfl ?_
  refine go_iload_n (pc := 13) dX0_makeCell_13 rfl rfl ?_
  refine go_if_ge_t (pc := 14) (tgt := 20) dX0_makeCell_14 (by decide) k1 ?_
  refine go_iload_n (pc := 20) dX0_makeCell_20 rfl rfl ?_
  refine go_iload_n (pc := 21) dX0_makeCell_21 rfl rfl ?_
  refine go_callS_i (pc := 22) sX0_32 rfl (cX2_intsFor_10 x2) rfl rfl (Nat.le_of_ble_eq_true rfl) ⟨Nat.le_of_ble_eq_true rfl, Nat.le_of_ble_eq_true rfl, (Nat.le_add_right _ _), (Nat.le_add_right _ _)⟩ dX0_makeCell_22 ?_
  refine go_istore (pc := 25) (lv' := [(4, .int (2 + ((x2 + 3) / 4))), (3, .int x2), (0, .ref (G.2.1 + 27)), (1, .int 2), (2, .int x2)]) dX0_makeCell_25 (by decide) rfl ?_
  refine go_aload_n (pc := 27) dX0_makeCell_27 rfl rfl ?_
  refine go_get (pc := 28) fX0_21 rfl (gz_b (by decide)) (wl_at (i := 27) rfl) rfl dX0_makeCell_28 ?_
  refine go_get (pc := 31) fX0_36 rfl (gz_b (by decide)) (wl_at (i := 2) rfl) rfl dX0_makeCell_31 ?_
  refine go_sipush (pc := 34) (v := 500) dX0_makeCell_34 (by decide) ?_
  refine go_icmp_ge_f (pc := 37) (tgt := 72) dX0_makeCell_37 (by decide) (by decide) ?_
  refine go_iload (pc := 40) dX0_makeCell_40 rfl ?_
  refine go_aload_n (pc := 42) dX0_makeCell_42 rfl rfl ?_
  refine go_get (pc := 43) fX0_21 rfl (gz_b (by decide)) (wl_at (i := 27) rfl) rfl dX0_makeCell_43 ?_
  refine go_callV_i (pc := 46) vX0_40 rfl (cX2_free_1) rfl rfl (gz_b (by decide)) (wl_at (i := 2) rfl) rfl (Nat.le_of_ble_eq_true rfl) ⟨Nat.le_of_ble_eq_true rfl, Nat.le_of_ble_eq_true rfl, (Nat.le_add_right _ _), (Nat.le_add_right _ _)⟩ dX0_makeCell_46 ?_
  refine go_icmp_le_t (pc := 49) (tgt := 75) dX0_makeCell_49 (by decide) k2 ?_
  refine go_iconst (pc := 75) (v := 0) dX0_makeCell_75 (by decide) ?_
  refine go_istore (pc := 76) (lv' := [(5, .int 0), (4, .int (2 + ((x2 + 3) / 4))), (3, .int x2), (0, .ref (G.2.1 + 27)), (1, .int 2), (2, .int x2)]) dX0_makeCell_76 (by decide) rfl ?_
  refine go_iload (pc := 78) dX0_makeCell_78 rfl ?_
  refine go_iconst (pc := 80) (v := 2) dX0_makeCell_80 (by decide) ?_
  refine go_icmp_ge_f (pc := 81) (tgt := 109) dX0_makeCell_81 (by decide) (by decide) ?_
  refine go_iload (pc := 84) dX0_makeCell_84 rfl ?_
  refine go_aload_n (pc := 86) dX0_makeCell_86 rfl rfl ?_
  refine go_get (pc := 87) fX0_21 rfl (gz_b (by decide)) (wl_at (i := 27) rfl) rfl dX0_makeCell_87 ?_
  refine go_callV_i (pc := 90) vX0_40 rfl (cX2_free_1) rfl rfl (gz_b (by decide)) (wl_at (i := 2) rfl) rfl (Nat.le_of_ble_eq_true rfl) ⟨Nat.le_of_ble_eq_true rfl, Nat.le_of_ble_eq_true rfl, (Nat.le_add_right _ _), (Nat.le_add_right _ _)⟩ dX0_makeCell_90 ?_
  refine go_icmp_le_t (pc := 93) (tgt := 109) dX0_makeCell_93 (by decide) k2 ?_
  refine go_iload (pc := 109) dX0_makeCell_109 rfl ?_
  refine go_aload_n (pc := 111) dX0_makeCell_111 rfl rfl ?_
  refine go_get (pc := 112) fX0_21 rfl (gz_b (by decide)) (wl_at (i := 27) rfl) rfl dX0_makeCell_112 ?_
  refine go_callV_i (pc := 115) vX0_40 rfl (cX2_free_1) rfl rfl (gz_b (by decide)) (wl_at (i := 2) rfl) rfl (Nat.le_of_ble_eq_true rfl) ⟨Nat.le_of_ble_eq_true rfl, Nat.le_of_ble_eq_true rfl, (Nat.le_add_right _ _), (Nat.le_add_right _ _)⟩ dX0_makeCell_115 ?_
  refine go_icmp_le_t (pc := 118) (tgt := 124) dX0_makeCell_118 (by decide) k2 ?_
  refine go_aload_n (pc := 124) dX0_makeCell_124 rfl rfl ?_
  refine go_get (pc := 125) fX0_21 rfl (gz_b (by decide)) (wl_at (i := 27) rfl) rfl dX0_makeCell_125 ?_
  refine go_iload_n (pc := 128) dX0_makeCell_128 rfl rfl ?_
  refine go_iload_n (pc := 129) dX0_makeCell_129 rfl rfl ?_
  refine go_callV_i (pc := 130) vX0_55 rfl (cX2_addCell_5 x2 k0 k1 k4 k2) rfl rfl (gz_b (by decide)) (wl_at (i := 2) rfl) rfl (Nat.le_of_ble_eq_true rfl) ⟨Nat.le_of_ble_eq_true rfl, Nat.le_of_ble_eq_true rfl, (Nat.le_add_right _ _), (Nat.le_add_right _ _)⟩ dX0_makeCell_130 ?_
  refine go_istore (pc := 133) (lv' := [(5, .int 0), (4, .int (2 + ((x2 + 3) / 4))), (3, .int x2), (0, .ref (G.2.1 + 27)), (1, .int 2), (2, .int x2)]) dX0_makeCell_133 (by decide) rfl ?_
  refine go_aload_n (pc := 135) dX0_makeCell_135 rfl rfl ?_
  refine go_get (pc := 136) fX0_22 rfl (gz_b (by decide)) (wl_at (i := 27) rfl) rfl dX0_makeCell_136 ?_
  refine go_iload (pc := 139) dX0_makeCell_139 rfl ?_
  refine go_iconst (pc := 141) (v := 5) dX0_makeCell_141 (by decide) ?_
  refine go_iconst (pc := 142) (v := (-1)) dX0_makeCell_142 (by decide) ?_
  refine go_iconst (pc := 143) (v := (-1)) dX0_makeCell_143 (by decide) ?_
  refine go_callV_v (pc := 144) vX0_58 rfl (ct_mark_0 (a := G.2.1 + 23) (a0 := G.2.1 + 1) (a1 := G.2.1 + 2) (a2 := G.2.1 + 6) (a3 := G.2.1 + 22) (a4 := G.2.1 + 24) (a6 := G.2.1 + 25) (a7 := G.2.1 + 26) (g5 := 0) (g8 := 0) (u1 := 0) (u2 := 0) (u3 := 0) (p4 := G.2.1 + 7) (p5 := G.2.1 + 8) (p6 := G.2.1 + 9) (p7 := G.2.1 + 10) (p8 := G.2.1 + 11) (gz_b (by decide)) (gz_b (by decide)) (wl_at (i := 23) rfl) (wl_at (i := 6) rfl)) rfl rfl (gz_b (by decide)) (wl_at (i := 23) rfl) rfl (Nat.le_of_ble_eq_true rfl) ⟨Nat.le_of_ble_eq_true rfl, Nat.le_of_ble_eq_true rfl, (Nat.le_add_right _ _), (Nat.le_add_right _ _)⟩ dX0_makeCell_144 ?_
  refine go_iload (pc := 147) dX0_makeCell_147 rfl ?_
  exact go_iret (pc := 149) rfl dX0_makeCell_149
set_option maxRecDepth 100000 in
set_option maxHeartbeats 4000000 in
theorem cX9_findingIn_11 {l : Launch} {G : gG} (x2 : Int32) : Ct l G mX9_findingIn 0 0 [.int 0] 42 90324 (wl G.2.1 [ob 9 [.ref (G.2.1 + 1), .ref (G.2.1 + 23), .ref (G.2.1 + 27), .ref (G.2.1 + 28), .ref (G.2.1 + 22), .int 0, .int 0, .null, .int 0, .null, .int 0], ob 6 [.ref (G.2.1 + 2), .ref (G.2.1 + 6), .ref (G.2.1 + 12), .ref (G.2.1 + 14), .ref (G.2.1 + 17), .ref (G.2.1 + 20), .ref (G.2.1 + 21)], ob 2 [.int 256, .int (0 + (2 + ((x2 + 3) / 4))), .int 1, .int 1, .ref (G.2.1 + 3), .ref (G.2.1 + 4), .ref (G.2.1 + 5)], ai G 256 (upd (upd (fun _ => 0) (0 : Int32).toNatClampNeg 2) (1 : Int32).toNatClampNeg x2), ai G 500 (upd (fun _ => (-1)) (0 : Int32).toNatClampNeg 0), ai G 500 (upd (fun _ => 0) (0 : Int32).toNatClampNeg 0), ob 3 [.int 0, .int 0, .int 0, .int 0, .ref (G.2.1 + 7), .ref (G.2.1 + 8), .ref (G.2.1 + 9), .ref (G.2.1 + 10), .ref (G.2.1 + 11)], ai G 500 (fun _ => 0), ai G 500 (fun _ => 0), ai G 500 (fun _ => 0), ai G 500 (fun _ => 0), ai G 500 (fun _ => 0), ob 8 [.int 0, .int 0, .int 0, .int 0, .int 0, .int 0, .ref (G.2.1 + 13)], ai G 300 (fun _ => 0), ob 4 [.int 0, .ref (G.2.1 + 15), .ref (G.2.1 + 16)], ai G 1295 (fun _ => 0), ai G 1295 (fun _ => 0), ob 5 [.int 0, .int 0, .int 0, .int 0, .ref (G.2.1 + 18), .ref (G.2.1 + 19)], ai G 200 (fun _ => 0), ai G 8 (fun _ => (-1)), ai G 24 (fun _ => (-1)), ai G 32 (fun _ => (-1)), ai G 14 (fun _ => 0), ob 7 [.ref (G.2.1 + 1), .ref (G.2.1 + 2), .ref (G.2.1 + 6), .ref (G.2.1 + 22), .ref (G.2.1 + 24), .int 0, .ref (G.2.1 + 25), .ref (G.2.1 + 26), .int 0], ai G 500 (fun _ => 0), ai G 500 (fun _ => 0), ai G 500 (fun _ => 0), ob 0 [.ref (G.2.1 + 1), .ref (G.2.1 + 2), .ref (G.2.1 + 23), .int 0], ob 1 [.ref (G.2.1 + 29), .int 0, .int 0, .ref (G.2.1 + 30), .ref (G.2.1 + 31)], ai G 0 (fun _ => 0), ai G 500 (fun _ => 0), ai G 501 (fun _ => 0), ob 10 [.ref (G.2.1 + 33), .ref (G.2.1 + 34), .ref (G.2.1 + 35), .int 0, .int 0, .int 0, .int 0, .int 0, .ref (G.2.1 + 36), .ref (G.2.1 + 37), .ref (G.2.1 + 38), .ref (G.2.1 + 39), .int 0, .ref (G.2.1 + 40), .int 0, .ref (G.2.1 + 41)], ai G 26100 (sx 256), ai G 26100 (fun _ => 0), ai G 26100 (fun _ => 0), ai G 14 (fun _ => 0), ai G 500 (fun _ => 0), ai G 500 (fun _ => 0), az G 500 (fun _ => 0), ai G 501 (fun _ => 0), ai G 500 (fun _ => 0)]) (some (.int 0), 42, 90324, (wl G.2.1 [ob 9 [.ref (G.2.1 + 1), .ref (G.2.1 + 23), .ref (G.2.1 + 27), .ref (G.2.1 + 28), .ref (G.2.1 + 22), .int 0, .int 0, .null, .int 0, .null, .int 0], ob 6 [.ref (G.2.1 + 2), .ref (G.2.1 + 6), .ref (G.2.1 + 12), .ref (G.2.1 + 14), .ref (G.2.1 + 17), .ref (G.2.1 + 20), .ref (G.2.1 + 21)], ob 2 [.int 256, .int (0 + (2 + ((x2 + 3) / 4))), .int 1, .int 1, .ref (G.2.1 + 3), .ref (G.2.1 + 4), .ref (G.2.1 + 5)], ai G 256 (upd (upd (fun _ => 0) (0 : Int32).toNatClampNeg 2) (1 : Int32).toNatClampNeg x2), ai G 500 (upd (fun _ => (-1)) (0 : Int32).toNatClampNeg 0), ai G 500 (upd (fun _ => 0) (0 : Int32).toNatClampNeg 0), ob 3 [.int 0, .int 0, .int 0, .int 0, .ref (G.2.1 + 7), .ref (G.2.1 + 8), .ref (G.2.1 + 9), .ref (G.2.1 + 10), .ref (G.2.1 + 11)], ai G 500 (fun _ => 0), ai G 500 (fun _ => 0), ai G 500 (fun _ => 0), ai G 500 (fun _ => 0), ai G 500 (fun _ => 0), ob 8 [.int 0, .int 0, .int 0, .int 0, .int 0, .int 0, .ref (G.2.1 + 13)], ai G 300 (fun _ => 0), ob 4 [.int 0, .ref (G.2.1 + 15), .ref (G.2.1 + 16)], ai G 1295 (fun _ => 0), ai G 1295 (fun _ => 0), ob 5 [.int 0, .int 0, .int 0, .int 0, .ref (G.2.1 + 18), .ref (G.2.1 + 19)], ai G 200 (fun _ => 0), ai G 8 (fun _ => (-1)), ai G 24 (fun _ => (-1)), ai G 32 (fun _ => (-1)), ai G 14 (fun _ => 0), ob 7 [.ref (G.2.1 + 1), .ref (G.2.1 + 2), .ref (G.2.1 + 6), .ref (G.2.1 + 22), .ref (G.2.1 + 24), .int 0, .ref (G.2.1 + 25), .ref (G.2.1 + 26), .int 0], ai G 500 (fun _ => 0), ai G 500 (fun _ => 0), ai G 500 (fun _ => 0), ob 0 [.ref (G.2.1 + 1), .ref (G.2.1 + 2), .ref (G.2.1 + 23), .int 0], ob 1 [.ref (G.2.1 + 29), .int 0, .int 0, .ref (G.2.1 + 30), .ref (G.2.1 + 31)], ai G 0 (fun _ => 0), ai G 500 (fun _ => 0), ai G 501 (fun _ => 0), ob 10 [.ref (G.2.1 + 33), .ref (G.2.1 + 34), .ref (G.2.1 + 35), .int 0, .int 0, .int 0, .int 0, .int 0, .ref (G.2.1 + 36), .ref (G.2.1 + 37), .ref (G.2.1 + 38), .ref (G.2.1 + 39), .int 0, .ref (G.2.1 + 40), .int 0, .ref (G.2.1 + 41)], ai G 26100 (sx 256), ai G 26100 (fun _ => 0), ai G 26100 (fun _ => 0), ai G 14 (fun _ => 0), ai G 500 (fun _ => 0), ai G 500 (fun _ => 0), az G 500 (fun _ => 0), ai G 501 (fun _ => 0), ai G 500 (fun _ => 0)])) := by
  refine Ct.of (by decide) (Nat.le_of_ble_eq_true rfl) ⟨Nat.le_refl _, Nat.le_refl _⟩ ?_
  show Go l G mX9_findingIn _ 0 [(0, .int 0)] [] 42 90324 (wl G.2.1 [ob 9 [.ref (G.2.1 + 1), .ref (G.2.1 + 23), .ref (G.2.1 + 27), .ref (G.2.1 + 28), .ref (G.2.1 + 22), .int 0, .int 0, .null, .int 0, .null, .int 0], ob 6 [.ref (G.2.1 + 2), .ref (G.2.1 + 6), .ref (G.2.1 + 12), .ref (G.2.1 + 14), .ref (G.2.1 + 17), .ref (G.2.1 + 20), .ref (G.2.1 + 21)], ob 2 [.int 256, .int (0 + (2 + ((x2 + 3) / 4))), .int 1, .int 1, .ref (G.2.1 + 3), .ref (G.2.1 + 4), .ref (G.2.1 + 5)], ai G 256 (upd (upd (fun _ => 0) (0 : Int32).toNatClampNeg 2) (1 : Int32).toNatClampNeg x2), ai G 500 (upd (fun _ => (-1)) (0 : Int32).toNatClampNeg 0), ai G 500 (upd (fun _ => 0) (0 : Int32).toNatClampNeg 0), ob 3 [.int 0, .int 0, .int 0, .int 0, .ref (G.2.1 + 7), .ref (G.2.1 + 8), .ref (G.2.1 + 9), .ref (G.2.1 + 10), .ref (G.2.1 + 11)], ai G 500 (fun _ => 0), ai G 500 (fun _ => 0), ai G 500 (fun _ => 0), ai G 500 (fun _ => 0), ai G 500 (fun _ => 0), ob 8 [.int 0, .int 0, .int 0, .int 0, .int 0, .int 0, .ref (G.2.1 + 13)], ai G 300 (fun _ => 0), ob 4 [.int 0, .ref (G.2.1 + 15), .ref (G.2.1 + 16)], ai G 1295 (fun _ => 0), ai G 1295 (fun _ => 0), ob 5 [.int 0, .int 0, .int 0, .int 0, .ref (G.2.1 + 18), .ref (G.2.1 + 19)], ai G 200 (fun _ => 0), ai G 8 (fun _ => (-1)), ai G 24 (fun _ => (-1)), ai G 32 (fun _ => (-1)), ai G 14 (fun _ => 0), ob 7 [.ref (G.2.1 + 1), .ref (G.2.1 + 2), .ref (G.2.1 + 6), .ref (G.2.1 + 22), .ref (G.2.1 + 24), .int 0, .ref (G.2.1 + 25), .ref (G.2.1 + 26), .int 0], ai G 500 (fun _ => 0), ai G 500 (fun _ => 0), ai G 500 (fun _ => 0), ob 0 [.ref (G.2.1 + 1), .ref (G.2.1 + 2), .ref (G.2.1 + 23), .int 0], ob 1 [.ref (G.2.1 + 29), .int 0, .int 0, .ref (G.2.1 + 30), .ref (G.2.1 + 31)], ai G 0 (fun _ => 0), ai G 500 (fun _ => 0), ai G 501 (fun _ => 0), ob 10 [.ref (G.2.1 + 33), .ref (G.2.1 + 34), .ref (G.2.1 + 35), .int 0, .int 0, .int 0, .int 0, .int 0, .ref (G.2.1 + 36), .ref (G.2.1 + 37), .ref (G.2.1 + 38), .ref (G.2.1 + 39), .int 0, .ref (G.2.1 + 40), .int 0, .ref (G.2.1 + 41)], ai G 26100 (sx 256), ai G 26100 (fun _ => 0), ai G 26100 (fun _ => 0), ai G 14 (fun _ => 0), ai G 500 (fun _ => 0), ai G 500 (fun _ => 0), az G 500 (fun _ => 0), ai G 501 (fun _ => 0), ai G 500 (fun _ => 0)])
  refine go_iload_n (pc := 0) dX9_findingIn_0 rfl rfl ?_
  refine go_bipush (pc := 1) (v := (-11)) dX9_findingIn_1 (by decide) ?_
  refine go_icmp_gt_t (pc := 3) (tgt := 19) dX9_findingIn_3 (by decide) (by decide) ?_
  refine go_iconst (pc := 19) (v := 0) dX9_findingIn_19 (by decide) ?_
  exact go_iret (pc := 20) rfl dX9_findingIn_20
set_option maxRecDepth 100000 in
set_option maxHeartbeats 4000000 in
theorem cX9_answer_11 {l : Launch} {G : gG} (x2 : Int32) : Ct l G mX9_answer 1 20 [.ref (G.2.1 + 0), .int 0] 42 90324 (wl G.2.1 [ob 9 [.ref (G.2.1 + 1), .ref (G.2.1 + 23), .ref (G.2.1 + 27), .ref (G.2.1 + 28), .ref (G.2.1 + 22), .int 0, .int 0, .null, .int 0, .null, .int 0], ob 6 [.ref (G.2.1 + 2), .ref (G.2.1 + 6), .ref (G.2.1 + 12), .ref (G.2.1 + 14), .ref (G.2.1 + 17), .ref (G.2.1 + 20), .ref (G.2.1 + 21)], ob 2 [.int 256, .int (0 + (2 + ((x2 + 3) / 4))), .int 1, .int 1, .ref (G.2.1 + 3), .ref (G.2.1 + 4), .ref (G.2.1 + 5)], ai G 256 (upd (upd (fun _ => 0) (0 : Int32).toNatClampNeg 2) (1 : Int32).toNatClampNeg x2), ai G 500 (upd (fun _ => (-1)) (0 : Int32).toNatClampNeg 0), ai G 500 (upd (fun _ => 0) (0 : Int32).toNatClampNeg 0), ob 3 [.int 0, .int 0, .int 0, .int 0, .ref (G.2.1 + 7), .ref (G.2.1 + 8), .ref (G.2.1 + 9), .ref (G.2.1 + 10), .ref (G.2.1 + 11)], ai G 500 (fun _ => 0), ai G 500 (fun _ => 0), ai G 500 (fun _ => 0), ai G 500 (fun _ => 0), ai G 500 (fun _ => 0), ob 8 [.int 0, .int 0, .int 0, .int 0, .int 0, .int 0, .ref (G.2.1 + 13)], ai G 300 (fun _ => 0), ob 4 [.int 0, .ref (G.2.1 + 15), .ref (G.2.1 + 16)], ai G 1295 (fun _ => 0), ai G 1295 (fun _ => 0), ob 5 [.int 0, .int 0, .int 0, .int 0, .ref (G.2.1 + 18), .ref (G.2.1 + 19)], ai G 200 (fun _ => 0), ai G 8 (fun _ => (-1)), ai G 24 (fun _ => (-1)), ai G 32 (fun _ => (-1)), ai G 14 (fun _ => 0), ob 7 [.ref (G.2.1 + 1), .ref (G.2.1 + 2), .ref (G.2.1 + 6), .ref (G.2.1 + 22), .ref (G.2.1 + 24), .int 0, .ref (G.2.1 + 25), .ref (G.2.1 + 26), .int 0], ai G 500 (fun _ => 0), ai G 500 (fun _ => 0), ai G 500 (fun _ => 0), ob 0 [.ref (G.2.1 + 1), .ref (G.2.1 + 2), .ref (G.2.1 + 23), .int 0], ob 1 [.ref (G.2.1 + 29), .int 0, .int 0, .ref (G.2.1 + 30), .ref (G.2.1 + 31)], ai G 0 (fun _ => 0), ai G 500 (fun _ => 0), ai G 501 (fun _ => 0), ob 10 [.ref (G.2.1 + 33), .ref (G.2.1 + 34), .ref (G.2.1 + 35), .int 0, .int 0, .int 0, .int 0, .int 0, .ref (G.2.1 + 36), .ref (G.2.1 + 37), .ref (G.2.1 + 38), .ref (G.2.1 + 39), .int 0, .ref (G.2.1 + 40), .int 0, .ref (G.2.1 + 41)], ai G 26100 (sx 256), ai G 26100 (fun _ => 0), ai G 26100 (fun _ => 0), ai G 14 (fun _ => 0), ai G 500 (fun _ => 0), ai G 500 (fun _ => 0), az G 500 (fun _ => 0), ai G 501 (fun _ => 0), ai G 500 (fun _ => 0)]) (some (.int 0), 42, 90324, (wl G.2.1 [ob 9 [.ref (G.2.1 + 1), .ref (G.2.1 + 23), .ref (G.2.1 + 27), .ref (G.2.1 + 28), .ref (G.2.1 + 22), .int 0, .int 0, .null, .int 0, .null, .int 0], ob 6 [.ref (G.2.1 + 2), .ref (G.2.1 + 6), .ref (G.2.1 + 12), .ref (G.2.1 + 14), .ref (G.2.1 + 17), .ref (G.2.1 + 20), .ref (G.2.1 + 21)], ob 2 [.int 256, .int (0 + (2 + ((x2 + 3) / 4))), .int 1, .int 1, .ref (G.2.1 + 3), .ref (G.2.1 + 4), .ref (G.2.1 + 5)], ai G 256 (upd (upd (fun _ => 0) (0 : Int32).toNatClampNeg 2) (1 : Int32).toNatClampNeg x2), ai G 500 (upd (fun _ => (-1)) (0 : Int32).toNatClampNeg 0), ai G 500 (upd (fun _ => 0) (0 : Int32).toNatClampNeg 0), ob 3 [.int 0, .int 0, .int 0, .int 0, .ref (G.2.1 + 7), .ref (G.2.1 + 8), .ref (G.2.1 + 9), .ref (G.2.1 + 10), .ref (G.2.1 + 11)], ai G 500 (fun _ => 0), ai G 500 (fun _ => 0), ai G 500 (fun _ => 0), ai G 500 (fun _ => 0), ai G 500 (fun _ => 0), ob 8 [.int 0, .int 0, .int 0, .int 0, .int 0, .int 0, .ref (G.2.1 + 13)], ai G 300 (fun _ => 0), ob 4 [.int 0, .ref (G.2.1 + 15), .ref (G.2.1 + 16)], ai G 1295 (fun _ => 0), ai G 1295 (fun _ => 0), ob 5 [.int 0, .int 0, .int 0, .int 0, .ref (G.2.1 + 18), .ref (G.2.1 + 19)], ai G 200 (fun _ => 0), ai G 8 (fun _ => (-1)), ai G 24 (fun _ => (-1)), ai G 32 (fun _ => (-1)), ai G 14 (fun _ => 0), ob 7 [.ref (G.2.1 + 1), .ref (G.2.1 + 2), .ref (G.2.1 + 6), .ref (G.2.1 + 22), .ref (G.2.1 + 24), .int 0, .ref (G.2.1 + 25), .ref (G.2.1 + 26), .int 0], ai G 500 (fun _ => 0), ai G 500 (fun _ => 0), ai G 500 (fun _ => 0), ob 0 [.ref (G.2.1 + 1), .ref (G.2.1 + 2), .ref (G.2.1 + 23), .int 0], ob 1 [.ref (G.2.1 + 29), .int 0, .int 0, .ref (G.2.1 + 30), .ref (G.2.1 + 31)], ai G 0 (fun _ => 0), ai G 500 (fun _ => 0), ai G 501 (fun _ => 0), ob 10 [.ref (G.2.1 + 33), .ref (G.2.1 + 34), .ref (G.2.1 + 35), .int 0, .int 0, .int 0, .int 0, .int 0, .ref (G.2.1 + 36), .ref (G.2.1 + 37), .ref (G.2.1 + 38), .ref (G.2.1 + 39), .int 0, .ref (G.2.1 + 40), .int 0, .ref (G.2.1 + 41)], ai G 26100 (sx 256), ai G 26100 (fun _ => 0), ai G 26100 (fun _ => 0), ai G 14 (fun _ => 0), ai G 500 (fun _ => 0), ai G 500 (fun _ => 0), az G 500 (fun _ => 0), ai G 501 (fun _ => 0), ai G 500 (fun _ => 0)])) := by
  refine Ct.of (by decide) (Nat.le_of_ble_eq_true rfl) ⟨Nat.le_refl _, Nat.le_refl _⟩ ?_
  show Go l G mX9_answer _ 0 [(0, .ref (G.2.1 + 0)), (1, .int 0)] [] 42 90324 (wl G.2.1 [ob 9 [.ref (G.2.1 + 1), .ref (G.2.1 + 23), .ref (G.2.1 + 27), .ref (G.2.1 + 28), .ref (G.2.1 + 22), .int 0, .int 0, .null, .int 0, .null, .int 0], ob 6 [.ref (G.2.1 + 2), .ref (G.2.1 + 6), .ref (G.2.1 + 12), .ref (G.2.1 + 14), .ref (G.2.1 + 17), .ref (G.2.1 + 20), .ref (G.2.1 + 21)], ob 2 [.int 256, .int (0 + (2 + ((x2 + 3) / 4))), .int 1, .int 1, .ref (G.2.1 + 3), .ref (G.2.1 + 4), .ref (G.2.1 + 5)], ai G 256 (upd (upd (fun _ => 0) (0 : Int32).toNatClampNeg 2) (1 : Int32).toNatClampNeg x2), ai G 500 (upd (fun _ => (-1)) (0 : Int32).toNatClampNeg 0), ai G 500 (upd (fun _ => 0) (0 : Int32).toNatClampNeg 0), ob 3 [.int 0, .int 0, .int 0, .int 0, .ref (G.2.1 + 7), .ref (G.2.1 + 8), .ref (G.2.1 + 9), .ref (G.2.1 + 10), .ref (G.2.1 + 11)], ai G 500 (fun _ => 0), ai G 500 (fun _ => 0), ai G 500 (fun _ => 0), ai G 500 (fun _ => 0), ai G 500 (fun _ => 0), ob 8 [.int 0, .int 0, .int 0, .int 0, .int 0, .int 0, .ref (G.2.1 + 13)], ai G 300 (fun _ => 0), ob 4 [.int 0, .ref (G.2.1 + 15), .ref (G.2.1 + 16)], ai G 1295 (fun _ => 0), ai G 1295 (fun _ => 0), ob 5 [.int 0, .int 0, .int 0, .int 0, .ref (G.2.1 + 18), .ref (G.2.1 + 19)], ai G 200 (fun _ => 0), ai G 8 (fun _ => (-1)), ai G 24 (fun _ => (-1)), ai G 32 (fun _ => (-1)), ai G 14 (fun _ => 0), ob 7 [.ref (G.2.1 + 1), .ref (G.2.1 + 2), .ref (G.2.1 + 6), .ref (G.2.1 + 22), .ref (G.2.1 + 24), .int 0, .ref (G.2.1 + 25), .ref (G.2.1 + 26), .int 0], ai G 500 (fun _ => 0), ai G 500 (fun _ => 0), ai G 500 (fun _ => 0), ob 0 [.ref (G.2.1 + 1), .ref (G.2.1 + 2), .ref (G.2.1 + 23), .int 0], ob 1 [.ref (G.2.1 + 29), .int 0, .int 0, .ref (G.2.1 + 30), .ref (G.2.1 + 31)], ai G 0 (fun _ => 0), ai G 500 (fun _ => 0), ai G 501 (fun _ => 0), ob 10 [.ref (G.2.1 + 33), .ref (G.2.1 + 34), .ref (G.2.1 + 35), .int 0, .int 0, .int 0, .int 0, .int 0, .ref (G.2.1 + 36), .ref (G.2.1 + 37), .ref (G.2.1 + 38), .ref (G.2.1 + 39), .int 0, .ref (G.2.1 + 40), .int 0, .ref (G.2.1 + 41)], ai G 26100 (sx 256), ai G 26100 (fun _ => 0), ai G 26100 (fun _ => 0), ai G 14 (fun _ => 0), ai G 500 (fun _ => 0), ai G 500 (fun _ => 0), az G 500 (fun _ => 0), ai G 501 (fun _ => 0), ai G 500 (fun _ => 0)])
  refine go_aload_n (pc := 0) dX9_answer_0 rfl rfl ?_
  refine go_iload_n (pc := 1) dX9_answer_1 rfl rfl ?_
  refine go_callS_i (pc := 2) sX9_302 rfl (cX9_findingIn_11 x2) rfl rfl (Nat.le_of_ble_eq_true rfl) ⟨Nat.le_of_ble_eq_true rfl, Nat.le_of_ble_eq_true rfl, (Nat.le_add_right _ _), (Nat.le_add_right _ _)⟩ dX9_answer_2 ?_
  refine go_put (pc := 5) fX9_53 rfl (gz_b (by decide)) (wl_at (i := 0) rfl) (Nat.le_of_ble_eq_true rfl) rfl rfl dX9_answer_5 ?_
  refine go_ext (wl_up (i := 0) rfl rfl) ?_
  refine go_iload_n (pc := 8) dX9_answer_8 rfl rfl ?_
  refine go_w (show _ = wl G.2.1 [ob 9 [.ref (G.2.1 + 1), .ref (G.2.1 + 23), .ref (G.2.1 + 27), .ref (G.2.1 + 28), .ref (G.2.1 + 22), .int 0, .int 0, .null, .int 0, .null, .int 0], ob 6 [.ref (G.2.1 + 2), .ref (G.2.1 + 6), .ref (G.2.1 + 12), .ref (G.2.1 + 14), .ref (G.2.1 + 17), .ref (G.2.1 + 20), .ref (G.2.1 + 21)], ob 2 [.int 256, .int (0 + (2 + ((x2 + 3) / 4))), .int 1, .int 1, .ref (G.2.1 + 3), .ref (G.2.1 + 4), .ref (G.2.1 + 5)], ai G 256 (upd (upd (fun _ => 0) (0 : Int32).toNatClampNeg 2) (1 : Int32).toNatClampNeg x2), ai G 500 (upd (fun _ => (-1)) (0 : Int32).toNatClampNeg 0), ai G 500 (upd (fun _ => 0) (0 : Int32).toNatClampNeg 0), ob 3 [.int 0, .int 0, .int 0, .int 0, .ref (G.2.1 + 7), .ref (G.2.1 + 8), .ref (G.2.1 + 9), .ref (G.2.1 + 10), .ref (G.2.1 + 11)], ai G 500 (fun _ => 0), ai G 500 (fun _ => 0), ai G 500 (fun _ => 0), ai G 500 (fun _ => 0), ai G 500 (fun _ => 0), ob 8 [.int 0, .int 0, .int 0, .int 0, .int 0, .int 0, .ref (G.2.1 + 13)], ai G 300 (fun _ => 0), ob 4 [.int 0, .ref (G.2.1 + 15), .ref (G.2.1 + 16)], ai G 1295 (fun _ => 0), ai G 1295 (fun _ => 0), ob 5 [.int 0, .int 0, .int 0, .int 0, .ref (G.2.1 + 18), .ref (G.2.1 + 19)], ai G 200 (fun _ => 0), ai G 8 (fun _ => (-1)), ai G 24 (fun _ => (-1)), ai G 32 (fun _ => (-1)), ai G 14 (fun _ => 0), ob 7 [.ref (G.2.1 + 1), .ref (G.2.1 + 2), .ref (G.2.1 + 6), .ref (G.2.1 + 22), .ref (G.2.1 + 24), .int 0, .ref (G.2.1 + 25), .ref (G.2.1 + 26), .int 0], ai G 500 (fun _ => 0), ai G 500 (fun _ => 0), ai G 500 (fun _ => 0), ob 0 [.ref (G.2.1 + 1), .ref (G.2.1 + 2), .ref (G.2.1 + 23), .int 0], ob 1 [.ref (G.2.1 + 29), .int 0, .int 0, .ref (G.2.1 + 30), .ref (G.2.1 + 31)], ai G 0 (fun _ => 0), ai G 500 (fun _ => 0), ai G 501 (fun _ => 0), ob 10 [.ref (G.2.1 + 33), .ref (G.2.1 + 34), .ref (G.2.1 + 35), .int 0, .int 0, .int 0, .int 0, .int 0, .ref (G.2.1 + 36), .ref (G.2.1 + 37), .ref (G.2.1 + 38), .ref (G.2.1 + 39), .int 0, .ref (G.2.1 + 40), .int 0, .ref (G.2.1 + 41)], ai G 26100 (sx 256), ai G 26100 (fun _ => 0), ai G 26100 (fun _ => 0), ai G 14 (fun _ => 0), ai G 500 (fun _ => 0), ai G 500 (fun _ => 0), az G 500 (fun _ => 0), ai G 501 (fun _ => 0), ai G 500 (fun _ => 0)] from rfl) ?_
  exact go_iret (pc := 9) rfl dX9_answer_9
set_option maxRecDepth 100000 in
set_option maxHeartbeats 4000000 in
theorem cx_make_2d_o {l : Launch} {G : gG} (x2 : Int32) (k0 : x2 ≤ 300) (k1 : 0 ≤ x2) (k4 : ¬ x2 < 0) (k2 : 2 + ((x2 + 3) / 4) ≤ 256) : Ct l G mX9_make 3 70 [.ref (G.2.1 + 0), .int 2, .int x2] 42 90324 (wl G.2.1 (LF G)) (some (.int 0), 42, 90324, (wl G.2.1 [ob 9 [.ref (G.2.1 + 1), .ref (G.2.1 + 23), .ref (G.2.1 + 27), .ref (G.2.1 + 28), .ref (G.2.1 + 22), .int 0, .int 0, .null, .int 0, .null, .int 0], ob 6 [.ref (G.2.1 + 2), .ref (G.2.1 + 6), .ref (G.2.1 + 12), .ref (G.2.1 + 14), .ref (G.2.1 + 17), .ref (G.2.1 + 20), .ref (G.2.1 + 21)], ob 2 [.int 256, .int (0 + (2 + ((x2 + 3) / 4))), .int 1, .int 1, .ref (G.2.1 + 3), .ref (G.2.1 + 4), .ref (G.2.1 + 5)], ai G 256 (upd (upd (fun _ => 0) (0 : Int32).toNatClampNeg 2) (1 : Int32).toNatClampNeg x2), ai G 500 (upd (fun _ => (-1)) (0 : Int32).toNatClampNeg 0), ai G 500 (upd (fun _ => 0) (0 : Int32).toNatClampNeg 0), ob 3 [.int 0, .int 0, .int 0, .int 0, .ref (G.2.1 + 7), .ref (G.2.1 + 8), .ref (G.2.1 + 9), .ref (G.2.1 + 10), .ref (G.2.1 + 11)], ai G 500 (fun _ => 0), ai G 500 (fun _ => 0), ai G 500 (fun _ => 0), ai G 500 (fun _ => 0), ai G 500 (fun _ => 0), ob 8 [.int 0, .int 0, .int 0, .int 0, .int 0, .int 0, .ref (G.2.1 + 13)], ai G 300 (fun _ => 0), ob 4 [.int 0, .ref (G.2.1 + 15), .ref (G.2.1 + 16)], ai G 1295 (fun _ => 0), ai G 1295 (fun _ => 0), ob 5 [.int 0, .int 0, .int 0, .int 0, .ref (G.2.1 + 18), .ref (G.2.1 + 19)], ai G 200 (fun _ => 0), ai G 8 (fun _ => (-1)), ai G 24 (fun _ => (-1)), ai G 32 (fun _ => (-1)), ai G 14 (fun _ => 0), ob 7 [.ref (G.2.1 + 1), .ref (G.2.1 + 2), .ref (G.2.1 + 6), .ref (G.2.1 + 22), .ref (G.2.1 + 24), .int 0, .ref (G.2.1 + 25), .ref (G.2.1 + 26), .int 0], ai G 500 (fun _ => 0), ai G 500 (fun _ => 0), ai G 500 (fun _ => 0), ob 0 [.ref (G.2.1 + 1), .ref (G.2.1 + 2), .ref (G.2.1 + 23), .int 0], ob 1 [.ref (G.2.1 + 29), .int 0, .int 0, .ref (G.2.1 + 30), .ref (G.2.1 + 31)], ai G 0 (fun _ => 0), ai G 500 (fun _ => 0), ai G 501 (fun _ => 0), ob 10 [.ref (G.2.1 + 33), .ref (G.2.1 + 34), .ref (G.2.1 + 35), .int 0, .int 0, .int 0, .int 0, .int 0, .ref (G.2.1 + 36), .ref (G.2.1 + 37), .ref (G.2.1 + 38), .ref (G.2.1 + 39), .int 0, .ref (G.2.1 + 40), .int 0, .ref (G.2.1 + 41)], ai G 26100 (sx 256), ai G 26100 (fun _ => 0), ai G 26100 (fun _ => 0), ai G 14 (fun _ => 0), ai G 500 (fun _ => 0), ai G 500 (fun _ => 0), az G 500 (fun _ => 0), ai G 501 (fun _ => 0), ai G 500 (fun _ => 0)])) := by
  refine Ct.of (by decide) (Nat.le_of_ble_eq_true rfl) ⟨Nat.le_refl _, Nat.le_refl _⟩ ?_
  show Go l G mX9_make _ 0 [(0, .ref (G.2.1 + 0)), (1, .int 2), (2, .int x2)] [] 42 90324 (wl G.2.1 (LF G))
  refine go_iload_n (pc := 0) dX9_make_0 rfl rfl ?_
  refine go_iload_n (pc := 1) dX9_make_1 rfl rfl ?_
  refine go_callS_i (pc := 2) sX9_66 rfl (cX9_isOutsideOfMaking_14 x2 k0 k1 k4 k2) rfl rfl (Nat.le_of_ble_eq_true rfl) ⟨Nat.le_of_ble_eq_true rfl, Nat.le_of_ble_eq_true rfl, (Nat.le_add_right _ _), (Nat.le_add_right _ _)⟩ dX9_make_2 ?_
  refine go_if_eq_t (pc := 5) (tgt := 11) dX9_make_5 (by decide) (by decide) ?_
  refine go_aload_n (pc := 11) dX9_make_11 rfl rfl ?_
  refine go_aload_n (pc := 12) dX9_make_12 rfl rfl ?_
  refine go_get (pc := 13) fX9_34 rfl (gz_b (by decide)) (wl_at (i := 0) rfl) rfl dX9_make_13 ?_
  refine go_iload_n (pc := 16) dX9_make_16 rfl rfl ?_
  refine go_iload_n (pc := 17) dX9_make_17 rfl rfl ?_
  refine go_callV_i (pc := 18) vX9_70 rfl (cX0_makeCell_9 x2 k0 k1 k4 k2) rfl rfl (gz_b (by decide)) (wl_at (i := 27) rfl) rfl (Nat.le_of_ble_eq_true rfl) ⟨Nat.le_of_ble_eq_true rfl, Nat.le_of_ble_eq_true rfl, (Nat.le_add_right _ _), (Nat.le_add_right _ _)⟩ dX9_make_18 ?_
  refine go_callV_i (pc := 21) vX9_74 rfl (cX9_answer_11 x2) rfl rfl (gz_b (by decide)) (wl_at (i := 0) rfl) rfl (Nat.le_of_ble_eq_true rfl) ⟨Nat.le_of_ble_eq_true rfl, Nat.le_of_ble_eq_true rfl, (Nat.le_add_right _ _), (Nat.le_add_right _ _)⟩ dX9_make_21 ?_
  exact go_iret (pc := 24) rfl dX9_make_24
theorem cx_make_2d {l : Launch} {G : gG} (x2 : Int32) (k0 : x2 ≤ 300) (k1 : 0 ≤ x2) (k4 : ¬ x2 < 0) (k2 : 2 + ((x2 + 3) / 4) ≤ 256) : CX l G mX9_make [.ref (G.2.1 + 0), .int 2, .int x2] 0 := by
  exact ⟨3, 70, 42, 90324, _, by decide, by decide, by decide, by decide, by decide, (by exact wl_frame rfl), cx_make_2d_o x2 k0 k1 k4 k2⟩
set_option maxRecDepth 100000 in
set_option maxHeartbeats 4000000 in
theorem cX2_isCounted_12 {l : Launch} {G : gG} : Ct l G mX2_isCounted 0 0 [.int 5] 42 90324 (wl G.2.1 (LF G)) (some (.int 1), 42, 90324, (wl G.2.1 (LF G))) := by
  refine Ct.of (by decide) (Nat.le_of_ble_eq_true rfl) ⟨Nat.le_refl _, Nat.le_refl _⟩ ?_
  show Go l G mX2_isCounted _ 0 [(0, .int 5)] [] 42 90324 (wl G.2.1 (LF G))
  refine go_iload_n (pc := 0) dX2_isCounted_0 rfl rfl ?_
  refine go_iconst (pc := 1) (v := 1) dX2_isCounted_1 (by decide) ?_
  refine go_icmp_eq_f (pc := 2) (tgt := 15) dX2_isCounted_2 (by decide) (by decide) ?_
  refine go_iload_n (pc := 5) dX2_isCounted_5 rfl rfl ?_
  refine go_iconst (pc := 6) (v := 2) dX2_isCounted_6 (by decide) ?_
  refine go_icmp_eq_f (pc := 7) (tgt := 15) dX2_isCounted_7 (by decide) (by decide) ?_
  refine go_iload_n (pc := 10) dX2_isCounted_10 rfl rfl ?_
  refine go_iconst (pc := 11) (v := 5) dX2_isCounted_11 (by decide) ?_
  refine go_icmp_ne_f (pc := 12) (tgt := 19) dX2_isCounted_12 (by decide) (by decide) ?_
  refine go_iconst (pc := 15) (v := 1) dX2_isCounted_15 (by decide) ?_
  refine go_goto (pc := 16) (tgt := 20) dX2_isCounted_16 (by decide) ?_
  exact go_zret (pc := 20) rfl rfl dX2_isCounted_20
set_option maxRecDepth 100000 in
set_option maxHeartbeats 4000000 in
theorem cX9_isOutsideOfMaking_15 {l : Launch} {G : gG} (x2 : Int32) (k0 : ¬ x2 ≤ 300) : Ct l G mX9_isOutsideOfMaking 1 20 [.int 5, .int x2] 42 90324 (wl G.2.1 (LF G)) (some (.int 1), 42, 90324, (wl G.2.1 (LF G))) := by
  refine Ct.of (by decide) (Nat.le_of_ble_eq_true rfl) ⟨Nat.le_refl _, Nat.le_refl _⟩ ?_
  show Go l G mX9_isOutsideOfMaking _ 0 [(0, .int 5), (1, .int x2)] [] 42 90324 (wl G.2.1 (LF G))
  refine go_iload_n (pc := 0) dX9_isOutsideOfMaking_0 rfl rfl ?_
  refine go_if_lt_f (pc := 1) (tgt := 24) dX9_isOutsideOfMaking_1 (by decide) (by decide) ?_
  refine go_iload_n (pc := 4) dX9_isOutsideOfMaking_4 rfl rfl ?_
  refine go_bipush (pc := 5) (v := 6) dX9_isOutsideOfMaking_5 (by decide) ?_
  refine go_icmp_ge_f (pc := 7) (tgt := 24) dX9_isOutsideOfMaking_7 (by decide) (by decide) ?_
  refine go_iload_n (pc := 10) dX9_isOutsideOfMaking_10 rfl rfl ?_
  refine go_callS_i (pc := 11) sX9_326 rfl (cX2_isCounted_12) rfl rfl (Nat.le_of_ble_eq_true rfl) ⟨Nat.le_of_ble_eq_true rfl, Nat.le_of_ble_eq_true rfl, (Nat.le_add_right _ _), (Nat.le_add_right _ _)⟩ dX9_isOutsideOfMaking_11 ?_
  refine go_if_eq_f (pc := 14) (tgt := 28) dX9_isOutsideOfMaking_14 (by decide) (by decide) ?_
  refine go_iload_n (pc := 17) dX9_isOutsideOfMaking_17 rfl rfl ?_
  refine go_sipush (pc := 18) (v := 300) dX9_isOutsideOfMaking_18 (by decide) ?_
  refine go_icmp_le_f (pc := 21) (tgt := 28) dX9_isOutsideOfMaking_21 (by decide) k0 ?_
  refine go_iconst (pc := 24) (v := 1) dX9_isOutsideOfMaking_24 (by decide) ?_
  refine go_goto (pc := 25) (tgt := 29) dX9_isOutsideOfMaking_25 (by decide) ?_
  exact go_zret (pc := 29) rfl rfl dX9_isOutsideOfMaking_29
set_option maxRecDepth 100000 in
set_option maxHeartbeats 4000000 in
theorem cx_make_5a_o {l : Launch} {G : gG} (x2 : Int32) (k0 : ¬ x2 ≤ 300) : Ct l G mX9_make 2 41 [.ref (G.2.1 + 0), .int 5, .int x2] 42 90324 (wl G.2.1 (LF G)) (some (.int ((-102))), 42, 90324, (wl G.2.1 (LF G))) := by
  refine Ct.of (by decide) (Nat.le_of_ble_eq_true rfl) ⟨Nat.le_refl _, Nat.le_refl _⟩ ?_
  show Go l G mX9_make _ 0 [(0, .ref (G.2.1 + 0)), (1, .int 5), (2, .int x2)] [] 42 90324 (wl G.2.1 (LF G))
  refine go_iload_n (pc := 0) dX9_make_0 rfl rfl ?_
  refine go_iload_n (pc := 1) dX9_make_1 rfl rfl ?_
  refine go_callS_i (pc := 2) sX9_66 rfl (cX9_isOutsideOfMaking_15 x2 k0) rfl rfl (Nat.le_of_ble_eq_true rfl) ⟨Nat.le_of_ble_eq_true rfl, Nat.le_of_ble_eq_true rfl, (Nat.le_add_right _ _), (Nat.le_add_right _ _)⟩ dX9_make_2 ?_
  refine go_if_eq_f (pc := 5) (tgt := 11) dX9_make_5 (by decide) (by decide) ?_
  refine go_bipush (pc := 8) (v := (-102)) dX9_make_8 (by decide) ?_
  exact go_iret (pc := 10) rfl dX9_make_10
theorem cx_make_5a {l : Launch} {G : gG} (x2 : Int32) (k0 : ¬ x2 ≤ 300) : CX l G mX9_make [.ref (G.2.1 + 0), .int 5, .int x2] ((-102)) := by
  exact ⟨2, 41, 42, 90324, _, by decide, by decide, by decide, by decide, by decide, (by exact wl_frame rfl), cx_make_5a_o x2 k0⟩
set_option maxRecDepth 100000 in
set_option maxHeartbeats 4000000 in
theorem cX9_isOutsideOfMaking_16 {l : Launch} {G : gG} (x2 : Int32) (k0 : x2 ≤ 300) (k1 : ¬ 0 ≤ x2) (k4 : x2 < 0) : Ct l G mX9_isOutsideOfMaking 1 20 [.int 5, .int x2] 42 90324 (wl G.2.1 (LF G)) (some (.int 0), 42, 90324, (wl G.2.1 (LF G))) := by
  refine Ct.of (by decide) (Nat.le_of_ble_eq_true rfl) ⟨Nat.le_refl _, Nat.le_refl _⟩ ?_
  show Go l G mX9_isOutsideOfMaking _ 0 [(0, .int 5), (1, .int x2)] [] 42 90324 (wl G.2.1 (LF G))
  refine go_iload_n (pc := 0) dX9_isOutsideOfMaking_0 rfl rfl ?_
  refine go_if_lt_f (pc := 1) (tgt := 24) dX9_isOutsideOfMaking_1 (by decide) (by decide) ?_
  refine go_iload_n (pc := 4) dX9_isOutsideOfMaking_4 rfl rfl ?_
  refine go_bipush (pc := 5) (v := 6) dX9_isOutsideOfMaking_5 (by decide) ?_
  refine go_icmp_ge_f (pc := 7) (tgt := 24) dX9_isOutsideOfMaking_7 (by decide) (by decide) ?_
  refine go_iload_n (pc := 10) dX9_isOutsideOfMaking_10 rfl rfl ?_
  refine go_callS_i (pc := 11) sX9_326 rfl (cX2_isCounted_12) rfl rfl (Nat.le_of_ble_eq_true rfl) ⟨Nat.le_of_ble_eq_true rfl, Nat.le_of_ble_eq_true rfl, (Nat.le_add_right _ _), (Nat.le_add_right _ _)⟩ dX9_isOutsideOfMaking_11 ?_
  refine go_if_eq_f (pc := 14) (tgt := 28) dX9_isOutsideOfMaking_14 (by decide) (by decide) ?_
  refine go_iload_n (pc := 17) dX9_isOutsideOfMaking_17 rfl rfl ?_
  refine go_sipush (pc := 18) (v := 300) dX9_isOutsideOfMaking_18 (by decide) ?_
  refine go_icmp_le_t (pc := 21) (tgt := 28) dX9_isOutsideOfMaking_21 (by decide) k0 ?_
  refine go_iconst (pc := 28) (v := 0) dX9_isOutsideOfMaking_28 (by decide) ?_
  exact go_zret (pc := 29) rfl rfl dX9_isOutsideOfMaking_29
set_option maxRecDepth 100000 in
set_option maxHeartbeats 4000000 in
theorem cX0_makeCell_10 {l : Launch} {G : gG} (x2 : Int32) (k0 : x2 ≤ 300) (k1 : ¬ 0 ≤ x2) (k4 : x2 < 0) : Ct l G mX0_makeCell 1 20 [.ref (G.2.1 + 27), .int 5, .int x2] 42 90324 (wl G.2.1 (LF G)) (some (.int ((-14))), 42, 90324, (wl G.2.1 (LF G))) := by
  refine Ct.of (by decide) (Nat.le_of_ble_eq_true rfl) ⟨Nat.le_refl _, Nat.le_refl _⟩ ?_
  show Go l G mX0_makeCell _ 0 [(0, .ref (G.2.1 + 27)), (1, .int 5), (2, .int x2)] [] 42 90324 (wl G.2.1 (LF G))
  refine go_iload_n (pc := 0) dX0_makeCell_0 rfl rfl ?_
  refine go_callS_i (pc := 1) sX0_26 rfl (cX2_isCounted_12) rfl rfl (Nat.le_of_ble_eq_true rfl) ⟨Nat.le_of_ble_eq_true rfl, Nat.le_of_ble_eq_true rfl, (Nat.le_add_right _ _), (Nat.le_add_right _ _)⟩ dX0_makeCell_1 ?_
  refine go_if_eq_f (pc := 4) (tgt := 11) dX0_makeCell_4 (by decide) (by decide) ?_
  refine go_iload_n (pc := 7) dX0_makeCell_7 rfl rfl ?_
  refine go_goto (pc := 8) (tgt := 12) dX0_makeCell_8 (by decide) ?_
  refine go_istore_n (pc := 12) (lv' := [(3, .int x2), (0, .ref (G.2.1 + 27)), (1, .int 5), (2, .int x2)]) dX0_makeCell_12 rfl (by decide) rfl ?_
  refine go_iload_n (pc := 13) dX0_makeCell_13 rfl rfl ?_
  refine go_if_ge_f (pc := 14) (tgt := 20) dX0_makeCell_14 (by decide) k1 ?_
  refine go_bipush (pc := 17) (v := (-14)) dX0_makeCell_17 (by decide) ?_
  exact go_iret (pc := 19) rfl dX0_makeCell_19
set_option maxRecDepth 100000 in
set_option maxHeartbeats 4000000 in
theorem cx_make_5b_o {l : Launch} {G : gG} (x2 : Int32) (k0 : x2 ≤ 300) (k1 : ¬ 0 ≤ x2) (k4 : x2 < 0) : Ct l G mX9_make 2 45 [.ref (G.2.1 + 0), .int 5, .int x2] 42 90324 (wl G.2.1 (LF G)) (some (.int ((-14))), 42, 90324, (wl G.2.1 [ob 9 [.ref (G.2.1 + 1), .ref (G.2.1 + 23), .ref (G.2.1 + 27), .ref (G.2.1 + 28), .ref (G.2.1 + 22), .int 4, .int 0, .null, .int 0, .null, .int 0], ob 6 [.ref (G.2.1 + 2), .ref (G.2.1 + 6), .ref (G.2.1 + 12), .ref (G.2.1 + 14), .ref (G.2.1 + 17), .ref (G.2.1 + 20), .ref (G.2.1 + 21)], ob 2 [.int 256, .int 0, .int 0, .int 0, .ref (G.2.1 + 3), .ref (G.2.1 + 4), .ref (G.2.1 + 5)], ai G 256 (fun _ => 0), ai G 500 (fun _ => (-1)), ai G 500 (fun _ => 0), ob 3 [.int 0, .int 0, .int 0, .int 0, .ref (G.2.1 + 7), .ref (G.2.1 + 8), .ref (G.2.1 + 9), .ref (G.2.1 + 10), .ref (G.2.1 + 11)], ai G 500 (fun _ => 0), ai G 500 (fun _ => 0), ai G 500 (fun _ => 0), ai G 500 (fun _ => 0), ai G 500 (fun _ => 0), ob 8 [.int 0, .int 0, .int 0, .int 0, .int 0, .int 0, .ref (G.2.1 + 13)], ai G 300 (fun _ => 0), ob 4 [.int 0, .ref (G.2.1 + 15), .ref (G.2.1 + 16)], ai G 1295 (fun _ => 0), ai G 1295 (fun _ => 0), ob 5 [.int 0, .int 0, .int 0, .int 0, .ref (G.2.1 + 18), .ref (G.2.1 + 19)], ai G 200 (fun _ => 0), ai G 8 (fun _ => (-1)), ai G 24 (fun _ => (-1)), ai G 32 (fun _ => (-1)), ai G 14 (fun _ => 0), ob 7 [.ref (G.2.1 + 1), .ref (G.2.1 + 2), .ref (G.2.1 + 6), .ref (G.2.1 + 22), .ref (G.2.1 + 24), .int 0, .ref (G.2.1 + 25), .ref (G.2.1 + 26), .int 0], ai G 500 (fun _ => 0), ai G 500 (fun _ => 0), ai G 500 (fun _ => 0), ob 0 [.ref (G.2.1 + 1), .ref (G.2.1 + 2), .ref (G.2.1 + 23), .int 0], ob 1 [.ref (G.2.1 + 29), .int 0, .int 0, .ref (G.2.1 + 30), .ref (G.2.1 + 31)], ai G 0 (fun _ => 0), ai G 500 (fun _ => 0), ai G 501 (fun _ => 0), ob 10 [.ref (G.2.1 + 33), .ref (G.2.1 + 34), .ref (G.2.1 + 35), .int 0, .int 0, .int 0, .int 0, .int 0, .ref (G.2.1 + 36), .ref (G.2.1 + 37), .ref (G.2.1 + 38), .ref (G.2.1 + 39), .int 0, .ref (G.2.1 + 40), .int 0, .ref (G.2.1 + 41)], ai G 26100 (sx 256), ai G 26100 (fun _ => 0), ai G 26100 (fun _ => 0), ai G 14 (fun _ => 0), ai G 500 (fun _ => 0), ai G 500 (fun _ => 0), az G 500 (fun _ => 0), ai G 501 (fun _ => 0), ai G 500 (fun _ => 0)])) := by
  refine Ct.of (by decide) (Nat.le_of_ble_eq_true rfl) ⟨Nat.le_refl _, Nat.le_refl _⟩ ?_
  show Go l G mX9_make _ 0 [(0, .ref (G.2.1 + 0)), (1, .int 5), (2, .int x2)] [] 42 90324 (wl G.2.1 (LF G))
  refine go_iload_n (pc := 0) dX9_make_0 rfl rfl ?_
  refine go_iload_n (pc := 1) dX9_make_1 rfl rfl ?_
  refine go_callS_i (pc := 2) sX9_66 rfl (cX9_isOutsideOfMaking_16 x2 k0 k1 k4) rfl rfl (Nat.le_of_ble_eq_true rfl) ⟨Nat.le_of_ble_eq_true rfl, Nat.le_of_ble_eq_true rfl, (Nat.le_add_right _ _), (Nat.le_add_right _ _)⟩ dX9_make_2 ?_
  refine go_if_eq_t (pc := 5) (tgt := 11) dX9_make_5 (by decide) (by decide) ?_
  refine go_aload_n (pc := 11) dX9_make_11 rfl rfl ?_
  refine go_aload_n (pc := 12) dX9_make_12 rfl rfl ?_
  refine go_get (pc := 13) fX9_34 rfl (gz_b (by decide)) (wl_at (i := 0) rfl) rfl dX9_make_13 ?_
  refine go_iload_n (pc := 16) dX9_make_16 rfl rfl ?_
  refine go_iload_n (pc := 17) dX9_make_17 rfl rfl ?_
  refine go_callV_i (pc := 18) vX9_70 rfl (cX0_makeCell_10 x2 k0 k1 k4) rfl rfl (gz_b (by decide)) (wl_at (i := 27) rfl) rfl (Nat.le_of_ble_eq_true rfl) ⟨Nat.le_of_ble_eq_true rfl, Nat.le_of_ble_eq_true rfl, (Nat.le_add_right _ _), (Nat.le_add_right _ _)⟩ dX9_make_18 ?_
  refine go_callV_i (pc := 21) vX9_74 rfl (cX9_answer_8) rfl rfl (gz_b (by decide)) (wl_at (i := 0) rfl) rfl (Nat.le_of_ble_eq_true rfl) ⟨Nat.le_of_ble_eq_true rfl, Nat.le_of_ble_eq_true rfl, (Nat.le_add_right _ _), (Nat.le_add_right _ _)⟩ dX9_make_21 ?_
  exact go_iret (pc := 24) rfl dX9_make_24
theorem cx_make_5b {l : Launch} {G : gG} (x2 : Int32) (k0 : x2 ≤ 300) (k1 : ¬ 0 ≤ x2) (k4 : x2 < 0) : CX l G mX9_make [.ref (G.2.1 + 0), .int 5, .int x2] ((-14)) := by
  exact ⟨2, 45, 42, 90324, _, by decide, by decide, by decide, by decide, by decide, (by exact wl_frame rfl), cx_make_5b_o x2 k0 k1 k4⟩
set_option maxRecDepth 100000 in
set_option maxHeartbeats 4000000 in
theorem cX9_isOutsideOfMaking_17 {l : Launch} {G : gG} (x2 : Int32) (k0 : x2 ≤ 300) (k1 : 0 ≤ x2) (k4 : ¬ x2 < 0) (k2 : ¬ 2 + (2 * x2) ≤ 256) (k3 : ¬ 0 + (2 + (2 * x2)) ≤ 256) : Ct l G mX9_isOutsideOfMaking 1 20 [.int 5, .int x2] 42 90324 (wl G.2.1 (LF G)) (some (.int 0), 42, 90324, (wl G.2.1 (LF G))) := by
  refine Ct.of (by decide) (Nat.le_of_ble_eq_true rfl) ⟨Nat.le_refl _, Nat.le_refl _⟩ ?_
  show Go l G mX9_isOutsideOfMaking _ 0 [(0, .int 5), (1, .int x2)] [] 42 90324 (wl G.2.1 (LF G))
  refine go_iload_n (pc := 0) dX9_isOutsideOfMaking_0 rfl rfl ?_
  refine go_if_lt_f (pc := 1) (tgt := 24) dX9_isOutsideOfMaking_1 (by decide) (by decide) ?_
  refine go_iload_n (pc := 4) dX9_isOutsideOfMaking_4 rfl rfl ?_
  refine go_bipush (pc := 5) (v := 6) dX9_isOutsideOfMaking_5 (by decide) ?_
  refine go_icmp_ge_f (pc := 7) (tgt := 24) dX9_isOutsideOfMaking_7 (by decide) (by decide) ?_
  refine go_iload_n (pc := 10) dX9_isOutsideOfMaking_10 rfl rfl ?_
  refine go_callS_i (pc := 11) sX9_326 rfl (cX2_isCounted_12) rfl rfl (Nat.le_of_ble_eq_true rfl) ⟨Nat.le_of_ble_eq_true rfl, Nat.le_of_ble_eq_true rfl, (Nat.le_add_right _ _), (Nat.le_add_right _ _)⟩ dX9_isOutsideOfMaking_11 ?_
  refine go_if_eq_f (pc := 14) (tgt := 28) dX9_isOutsideOfMaking_14 (by decide) (by decide) ?_
  refine go_iload_n (pc := 17) dX9_isOutsideOfMaking_17 rfl rfl ?_
  refine go_sipush (pc := 18) (v := 300) dX9_isOutsideOfMaking_18 (by decide) ?_
  refine go_icmp_le_t (pc := 21) (tgt := 28) dX9_isOutsideOfMaking_21 (by decide) k0 ?_
  refine go_iconst (pc := 28) (v := 0) dX9_isOutsideOfMaking_28 (by decide) ?_
  exact go_zret (pc := 29) rfl rfl dX9_isOutsideOfMaking_29
set_option maxRecDepth 100000 in
set_option maxHeartbeats 4000000 in
theorem cX2_intsFor_12 {l : Launch} {G : gG} (x2 : Int32) : Ct l G mX2_intsFor 0 0 [.int 5, .int x2] 42 90324 (wl G.2.1 (LF G)) (some (.int (2 + (2 * x2))), 42, 90324, (wl G.2.1 (LF G))) := by
  refine Ct.of (by decide) (Nat.le_of_ble_eq_true rfl) ⟨Nat.le_refl _, Nat.le_refl _⟩ ?_
  show Go l G mX2_intsFor _ 0 [(0, .int 5), (1, .int x2)] [] 42 90324 (wl G.2.1 (LF G))
  refine go_iload_n (pc := 0) dX2_intsFor_0 rfl rfl ?_
  refine go_tableIn (pc := 1) (off := 39) (tgt := 40) dX2_intsFor_1 (by decide) (by decide) (by decide) (by decide) ?_
  refine go_iconst (pc := 40) (v := 2) dX2_intsFor_40 (by decide) ?_
  refine go_iconst (pc := 41) (v := 2) dX2_intsFor_41 (by decide) ?_
  refine go_iload_n (pc := 42) dX2_intsFor_42 rfl rfl ?_
  refine go_imul (pc := 43) dX2_intsFor_43 ?_
  refine go_iadd (pc := 44) dX2_intsFor_44 ?_
  exact go_iret (pc := 45) rfl dX2_intsFor_45
set_option maxRecDepth 100000 in
set_option maxHeartbeats 4000000 in
theorem cX0_makeCell_11 {l : Launch} {G : gG} (x2 : Int32) (k0 : x2 ≤ 300) (k1 : 0 ≤ x2) (k4 : ¬ x2 < 0) (k2 : ¬ 2 + (2 * x2) ≤ 256) (k3 : ¬ 0 + (2 + (2 * x2)) ≤ 256) : Ct l G mX0_makeCell 3 68 [.ref (G.2.1 + 27), .int 5, .int x2] 42 90324 (wl G.2.1 (LF G)) (some (.int ((-16))), 42, 90324, (wl G.2.1 (LF G))) := by
  refine Ct.of (by decide) (Nat.le_of_ble_eq_true rfl) ⟨Nat.le_refl _, Nat.le_refl _⟩ ?_
  show Go l G mX0_makeCell _ 0 [(0, .ref (G.2.1 + 27)), (1, .int 5), (2, .int x2)] [] 42 90324 (wl G.2.1 (LF G))
  refine go_iload_n (pc := 0) dX0_makeCell_0 rfl rfl ?_
  refine go_callS_i (pc := 1) sX0_26 rfl (cX2_isCounted_12) rfl rfl (Nat.le_of_ble_eq_true rfl) ⟨Nat.le_of_ble_eq_true rfl, Nat.le_of_ble_eq_true rfl, (Nat.le_add_right _ _), (Nat.le_add_right _ _)⟩ dX0_makeCell_1 ?_
  refine go_if_eq_f (pc := 4) (tgt := 11) dX0_makeCell_4 (by decide) (by decide) ?_
  refine go_iload_n (pc := 7) dX0_makeCell_7 rfl rfl ?_
  refine go_goto (pc := 8) (tgt := 12) dX0_makeCell_8 (by decide) ?_
  refine go_istore_n (pc := 12) (lv' := [(3, .int x2), (0, .ref (G.2.1 + 27)), (1, .int 5), (2, .int x2)]) dX0_makeCell_12 rfl (by decide) rfl ?_
  refine go_iload_n (pc := 13) dX0_makeCell_13 rfl rfl ?_
  refine go_if_ge_t (pc := 14) (tgt := 20) dX0_makeCell_14 (by decide) k1 ?_
  refine go_iload_n (pc := 20) dX0_makeCell_20 rfl rfl ?_
  refine go_iload_n (pc := 21) dX0_makeCell_21 rfl rfl ?_
  refine go_callS_i (pc := 22) sX0_32 rfl (cX2_intsFor_12 x2) rfl rfl (Nat.le_of_ble_eq_true rfl) ⟨Nat.le_of_ble_eq_true rfl, Nat.le_of_ble_eq_true rfl, (Nat.le_add_right _ _), (Nat.le_add_right _ _)⟩ dX0_makeCell_22 ?_
  refine go_istore (pc := 25) (lv' := [(4, .int (2 + (2 * x2))), (3, .int x2), (0, .ref (G.2.1 + 27)), (1, .int 5), (2, .int x2)]) dX0_makeCell_25 (by decide) rfl ?_
  refine go_aload_n (pc := 27) dX0_makeCell_27 rfl rfl ?_
  refine go_get (pc := 28) fX0_21 rfl (gz_b (by decide)) (wl_at (i := 27) rfl) rfl dX0_makeCell_28 ?_
  refine go_get (pc := 31) fX0_36 rfl (gz_b (by decide)) (wl_at (i := 2) rfl) rfl dX0_makeCell_31 ?_
  refine go_sipush (pc := 34) (v := 500) dX0_makeCell_34 (by decide) ?_
  refine go_icmp_ge_f (pc := 37) (tgt := 72) dX0_makeCell_37 (by decide) (by decide) ?_
  refine go_iload (pc := 40) dX0_makeCell_40 rfl ?_
  refine go_aload_n (pc := 42) dX0_makeCell_42 rfl rfl ?_
  refine go_get (pc := 43) fX0_21 rfl (gz_b (by decide)) (wl_at (i := 27) rfl) rfl dX0_makeCell_43 ?_
  refine go_callV_i (pc := 46) vX0_40 rfl (cX2_free_1) rfl rfl (gz_b (by decide)) (wl_at (i := 2) rfl) rfl (Nat.le_of_ble_eq_true rfl) ⟨Nat.le_of_ble_eq_true rfl, Nat.le_of_ble_eq_true rfl, (Nat.le_add_right _ _), (Nat.le_add_right _ _)⟩ dX0_makeCell_46 ?_
  refine go_icmp_le_f (pc := 49) (tgt := 75) dX0_makeCell_49 (by decide) k2 ?_
  refine go_iload (pc := 52) dX0_makeCell_52 rfl ?_
  refine go_aload_n (pc := 54) dX0_makeCell_54 rfl rfl ?_
  refine go_get (pc := 55) fX0_21 rfl (gz_b (by decide)) (wl_at (i := 27) rfl) rfl dX0_makeCell_55 ?_
  refine go_get (pc := 58) fX0_44 rfl (gz_b (by decide)) (wl_at (i := 2) rfl) rfl dX0_makeCell_58 ?_
  refine go_aload_n (pc := 61) dX0_makeCell_61 rfl rfl ?_
  refine go_get (pc := 62) fX0_22 rfl (gz_b (by decide)) (wl_at (i := 27) rfl) rfl dX0_makeCell_62 ?_
  refine go_callV_i (pc := 65) vX0_47 rfl (cX7_reachedInts_1) rfl rfl (gz_b (by decide)) (wl_at (i := 23) rfl) rfl (Nat.le_of_ble_eq_true rfl) ⟨Nat.le_of_ble_eq_true rfl, Nat.le_of_ble_eq_true rfl, (Nat.le_add_right _ _), (Nat.le_add_right _ _)⟩ dX0_makeCell_65 ?_
  refine go_isub (pc := 68) dX0_makeCell_68 ?_
  refine go_top (y := 256) (by decide) ?_
  refine go_icmp_le_f (pc := 69) (tgt := 75) dX0_makeCell_69 (by decide) k2 ?_
  refine go_bipush (pc := 72) (v := (-16)) dX0_makeCell_72 (by decide) ?_
  exact go_iret (pc := 74) rfl dX0_makeCell_74
set_option maxRecDepth 100000 in
set_option maxHeartbeats 4000000 in
theorem cx_make_5c_o {l : Launch} {G : gG} (x2 : Int32) (k0 : x2 ≤ 300) (k1 : 0 ≤ x2) (k4 : ¬ x2 < 0) (k2 : ¬ 2 + (2 * x2) ≤ 256) (k3 : ¬ 0 + (2 + (2 * x2)) ≤ 256) : Ct l G mX9_make 4 93 [.ref (G.2.1 + 0), .int 5, .int x2] 42 90324 (wl G.2.1 (LF G)) (some (.int ((-16))), 42, 90324, (wl G.2.1 [ob 9 [.ref (G.2.1 + 1), .ref (G.2.1 + 23), .ref (G.2.1 + 27), .ref (G.2.1 + 28), .ref (G.2.1 + 22), .int 6, .int 0, .null, .int 0, .null, .int 0], ob 6 [.ref (G.2.1 + 2), .ref (G.2.1 + 6), .ref (G.2.1 + 12), .ref (G.2.1 + 14), .ref (G.2.1 + 17), .ref (G.2.1 + 20), .ref (G.2.1 + 21)], ob 2 [.int 256, .int 0, .int 0, .int 0, .ref (G.2.1 + 3), .ref (G.2.1 + 4), .ref (G.2.1 + 5)], ai G 256 (fun _ => 0), ai G 500 (fun _ => (-1)), ai G 500 (fun _ => 0), ob 3 [.int 0, .int 0, .int 0, .int 0, .ref (G.2.1 + 7), .ref (G.2.1 + 8), .ref (G.2.1 + 9), .ref (G.2.1 + 10), .ref (G.2.1 + 11)], ai G 500 (fun _ => 0), ai G 500 (fun _ => 0), ai G 500 (fun _ => 0), ai G 500 (fun _ => 0), ai G 500 (fun _ => 0), ob 8 [.int 0, .int 0, .int 0, .int 0, .int 0, .int 0, .ref (G.2.1 + 13)], ai G 300 (fun _ => 0), ob 4 [.int 0, .ref (G.2.1 + 15), .ref (G.2.1 + 16)], ai G 1295 (fun _ => 0), ai G 1295 (fun _ => 0), ob 5 [.int 0, .int 0, .int 0, .int 0, .ref (G.2.1 + 18), .ref (G.2.1 + 19)], ai G 200 (fun _ => 0), ai G 8 (fun _ => (-1)), ai G 24 (fun _ => (-1)), ai G 32 (fun _ => (-1)), ai G 14 (fun _ => 0), ob 7 [.ref (G.2.1 + 1), .ref (G.2.1 + 2), .ref (G.2.1 + 6), .ref (G.2.1 + 22), .ref (G.2.1 + 24), .int 0, .ref (G.2.1 + 25), .ref (G.2.1 + 26), .int 0], ai G 500 (fun _ => 0), ai G 500 (fun _ => 0), ai G 500 (fun _ => 0), ob 0 [.ref (G.2.1 + 1), .ref (G.2.1 + 2), .ref (G.2.1 + 23), .int 0], ob 1 [.ref (G.2.1 + 29), .int 0, .int 0, .ref (G.2.1 + 30), .ref (G.2.1 + 31)], ai G 0 (fun _ => 0), ai G 500 (fun _ => 0), ai G 501 (fun _ => 0), ob 10 [.ref (G.2.1 + 33), .ref (G.2.1 + 34), .ref (G.2.1 + 35), .int 0, .int 0, .int 0, .int 0, .int 0, .ref (G.2.1 + 36), .ref (G.2.1 + 37), .ref (G.2.1 + 38), .ref (G.2.1 + 39), .int 0, .ref (G.2.1 + 40), .int 0, .ref (G.2.1 + 41)], ai G 26100 (sx 256), ai G 26100 (fun _ => 0), ai G 26100 (fun _ => 0), ai G 14 (fun _ => 0), ai G 500 (fun _ => 0), ai G 500 (fun _ => 0), az G 500 (fun _ => 0), ai G 501 (fun _ => 0), ai G 500 (fun _ => 0)])) := by
  refine Ct.of (by decide) (Nat.le_of_ble_eq_true rfl) ⟨Nat.le_refl _, Nat.le_refl _⟩ ?_
  show Go l G mX9_make _ 0 [(0, .ref (G.2.1 + 0)), (1, .int 5), (2, .int x2)] [] 42 90324 (wl G.2.1 (LF G))
  refine go_iload_n (pc := 0) dX9_make_0 rfl rfl ?_
  refine go_iload_n (pc := 1) dX9_make_1 rfl rfl ?_
  refine go_callS_i (pc := 2) sX9_66 rfl (cX9_isOutsideOfMaking_17 x2 k0 k1 k4 k2 k3) rfl rfl (Nat.le_of_ble_eq_true rfl) ⟨Nat.le_of_ble_eq_true rfl, Nat.le_of_ble_eq_true rfl, (Nat.le_add_right _ _), (Nat.le_add_right _ _)⟩ dX9_make_2 ?_
  refine go_if_eq_t (pc := 5) (tgt := 11) dX9_make_5 (by decide) (by decide) ?_
  refine go_aload_n (pc := 11) dX9_make_11 rfl rfl ?_
  refine go_aload_n (pc := 12) dX9_make_12 rfl rfl ?_
  refine go_get (pc := 13) fX9_34 rfl (gz_b (by decide)) (wl_at (i := 0) rfl) rfl dX9_make_13 ?_
  refine go_iload_n (pc := 16) dX9_make_16 rfl rfl ?_
  refine go_iload_n (pc := 17) dX9_make_17 rfl rfl ?_
  refine go_callV_i (pc := 18) vX9_70 rfl (cX0_makeCell_11 x2 k0 k1 k4 k2 k3) rfl rfl (gz_b (by decide)) (wl_at (i := 27) rfl) rfl (Nat.le_of_ble_eq_true rfl) ⟨Nat.le_of_ble_eq_true rfl, Nat.le_of_ble_eq_true rfl, (Nat.le_add_right _ _), (Nat.le_add_right _ _)⟩ dX9_make_18 ?_
  refine go_callV_i (pc := 21) vX9_74 rfl (cX9_answer_9) rfl rfl (gz_b (by decide)) (wl_at (i := 0) rfl) rfl (Nat.le_of_ble_eq_true rfl) ⟨Nat.le_of_ble_eq_true rfl, Nat.le_of_ble_eq_true rfl, (Nat.le_add_right _ _), (Nat.le_add_right _ _)⟩ dX9_make_21 ?_
  exact go_iret (pc := 24) rfl dX9_make_24
theorem cx_make_5c {l : Launch} {G : gG} (x2 : Int32) (k0 : x2 ≤ 300) (k1 : 0 ≤ x2) (k4 : ¬ x2 < 0) (k2 : ¬ 2 + (2 * x2) ≤ 256) (k3 : ¬ 0 + (2 + (2 * x2)) ≤ 256) : CX l G mX9_make [.ref (G.2.1 + 0), .int 5, .int x2] ((-16)) := by
  exact ⟨4, 93, 42, 90324, _, by decide, by decide, by decide, by decide, by decide, (by exact wl_frame rfl), cx_make_5c_o x2 k0 k1 k4 k2 k3⟩
set_option maxRecDepth 100000 in
set_option maxHeartbeats 4000000 in
theorem cX9_isOutsideOfMaking_18 {l : Launch} {G : gG} (j : Nat) (hj : j ≤ 254) (k0 : nI j ≤ 300) (k1 : 0 ≤ nI j) (k4 : ¬ nI j < 0) (k2 : 2 + (2 * (nI j)) ≤ 256) : Ct l G mX9_isOutsideOfMaking 1 20 [.int 5, .int (nI j)] 42 90324 (wl G.2.1 (LF G)) (some (.int 0), 42, 90324, (wl G.2.1 (LF G))) := by
  refine Ct.of (by decide) (Nat.le_of_ble_eq_true rfl) ⟨Nat.le_refl _, Nat.le_refl _⟩ ?_
  show Go l G mX9_isOutsideOfMaking _ 0 [(0, .int 5), (1, .int (nI j))] [] 42 90324 (wl G.2.1 (LF G))
  refine go_iload_n (pc := 0) dX9_isOutsideOfMaking_0 rfl rfl ?_
  refine go_if_lt_f (pc := 1) (tgt := 24) dX9_isOutsideOfMaking_1 (by decide) (by decide) ?_
  refine go_iload_n (pc := 4) dX9_isOutsideOfMaking_4 rfl rfl ?_
  refine go_bipush (pc := 5) (v := 6) dX9_isOutsideOfMaking_5 (by decide) ?_
  refine go_icmp_ge_f (pc := 7) (tgt := 24) dX9_isOutsideOfMaking_7 (by decide) (by decide) ?_
  refine go_iload_n (pc := 10) dX9_isOutsideOfMaking_10 rfl rfl ?_
  refine go_callS_i (pc := 11) sX9_326 rfl (cX2_isCounted_12) rfl rfl (Nat.le_of_ble_eq_true rfl) ⟨Nat.le_of_ble_eq_true rfl, Nat.le_of_ble_eq_true rfl, (Nat.le_add_right _ _), (Nat.le_add_right _ _)⟩ dX9_isOutsideOfMaking_11 ?_
  refine go_if_eq_f (pc := 14) (tgt := 28) dX9_isOutsideOfMaking_14 (by decide) (by decide) ?_
  refine go_iload_n (pc := 17) dX9_isOutsideOfMaking_17 rfl rfl ?_
  refine go_sipush (pc := 18) (v := 300) dX9_isOutsideOfMaking_18 (by decide) ?_
  refine go_icmp_le_t (pc := 21) (tgt := 28) dX9_isOutsideOfMaking_21 (by decide) k0 ?_
  refine go_iconst (pc := 28) (v := 0) dX9_isOutsideOfMaking_28 (by decide) ?_
  exact go_zret (pc := 29) rfl rfl dX9_isOutsideOfMaking_29
set_option maxRecDepth 100000 in
set_option maxHeartbeats 4000000 in
theorem cX2_intsFor_13 {l : Launch} {G : gG} (j : Nat) (hj : j ≤ 254) : Ct l G mX2_intsFor 0 0 [.int 5, .int (nI j)] 42 90324 (wl G.2.1 (LF G)) (some (.int (2 + (2 * (nI j)))), 42, 90324, (wl G.2.1 (LF G))) := by
  refine Ct.of (by decide) (Nat.le_of_ble_eq_true rfl) ⟨Nat.le_refl _, Nat.le_refl _⟩ ?_
  show Go l G mX2_intsFor _ 0 [(0, .int 5), (1, .int (nI j))] [] 42 90324 (wl G.2.1 (LF G))
  refine go_iload_n (pc := 0) dX2_intsFor_0 rfl rfl ?_
  refine go_tableIn (pc := 1) (off := 39) (tgt := 40) dX2_intsFor_1 (by decide) (by decide) (by decide) (by decide) ?_
  refine go_iconst (pc := 40) (v := 2) dX2_intsFor_40 (by decide) ?_
  refine go_iconst (pc := 41) (v := 2) dX2_intsFor_41 (by decide) ?_
  refine go_iload_n (pc := 42) dX2_intsFor_42 rfl rfl ?_
  refine go_imul (pc := 43) dX2_intsFor_43 ?_
  refine go_iadd (pc := 44) dX2_intsFor_44 ?_
  exact go_iret (pc := 45) rfl dX2_intsFor_45
set_option maxRecDepth 100000 in
set_option maxHeartbeats 4000000 in
theorem cX2_isCounted_13 {l : Launch} {G : gG} : Ct l G mX2_isCounted 0 0 [.int 5] 42 90324 (wl G.2.1 [ob 9 [.ref (G.2.1 + 1), .ref (G.2.1 + 23), .ref (G.2.1 + 27), .ref (G.2.1 + 28), .ref (G.2.1 + 22), .int 0, .int 0, .null, .int 0, .null, .int 0], ob 6 [.ref (G.2.1 + 2), .ref (G.2.1 + 6), .ref (G.2.1 + 12), .ref (G.2.1 + 14), .ref (G.2.1 + 17), .ref (G.2.1 + 20), .ref (G.2.1 + 21)], ob 2 [.int 256, .int 0, .int 0, .int 0, .ref (G.2.1 + 3), .ref (G.2.1 + 4), .ref (G.2.1 + 5)], ai G 256 (upd (fun _ => 0) (0 : Int32).toNatClampNeg 5), ai G 500 (fun _ => (-1)), ai G 500 (fun _ => 0), ob 3 [.int 0, .int 0, .int 0, .int 0, .ref (G.2.1 + 7), .ref (G.2.1 + 8), .ref (G.2.1 + 9), .ref (G.2.1 + 10), .ref (G.2.1 + 11)], ai G 500 (fun _ => 0), ai G 500 (fun _ => 0), ai G 500 (fun _ => 0), ai G 500 (fun _ => 0), ai G 500 (fun _ => 0), ob 8 [.int 0, .int 0, .int 0, .int 0, .int 0, .int 0, .ref (G.2.1 + 13)], ai G 300 (fun _ => 0), ob 4 [.int 0, .ref (G.2.1 + 15), .ref (G.2.1 + 16)], ai G 1295 (fun _ => 0), ai G 1295 (fun _ => 0), ob 5 [.int 0, .int 0, .int 0, .int 0, .ref (G.2.1 + 18), .ref (G.2.1 + 19)], ai G 200 (fun _ => 0), ai G 8 (fun _ => (-1)), ai G 24 (fun _ => (-1)), ai G 32 (fun _ => (-1)), ai G 14 (fun _ => 0), ob 7 [.ref (G.2.1 + 1), .ref (G.2.1 + 2), .ref (G.2.1 + 6), .ref (G.2.1 + 22), .ref (G.2.1 + 24), .int 0, .ref (G.2.1 + 25), .ref (G.2.1 + 26), .int 0], ai G 500 (fun _ => 0), ai G 500 (fun _ => 0), ai G 500 (fun _ => 0), ob 0 [.ref (G.2.1 + 1), .ref (G.2.1 + 2), .ref (G.2.1 + 23), .int 0], ob 1 [.ref (G.2.1 + 29), .int 0, .int 0, .ref (G.2.1 + 30), .ref (G.2.1 + 31)], ai G 0 (fun _ => 0), ai G 500 (fun _ => 0), ai G 501 (fun _ => 0), ob 10 [.ref (G.2.1 + 33), .ref (G.2.1 + 34), .ref (G.2.1 + 35), .int 0, .int 0, .int 0, .int 0, .int 0, .ref (G.2.1 + 36), .ref (G.2.1 + 37), .ref (G.2.1 + 38), .ref (G.2.1 + 39), .int 0, .ref (G.2.1 + 40), .int 0, .ref (G.2.1 + 41)], ai G 26100 (sx 256), ai G 26100 (fun _ => 0), ai G 26100 (fun _ => 0), ai G 14 (fun _ => 0), ai G 500 (fun _ => 0), ai G 500 (fun _ => 0), az G 500 (fun _ => 0), ai G 501 (fun _ => 0), ai G 500 (fun _ => 0)]) (some (.int 1), 42, 90324, (wl G.2.1 [ob 9 [.ref (G.2.1 + 1), .ref (G.2.1 + 23), .ref (G.2.1 + 27), .ref (G.2.1 + 28), .ref (G.2.1 + 22), .int 0, .int 0, .null, .int 0, .null, .int 0], ob 6 [.ref (G.2.1 + 2), .ref (G.2.1 + 6), .ref (G.2.1 + 12), .ref (G.2.1 + 14), .ref (G.2.1 + 17), .ref (G.2.1 + 20), .ref (G.2.1 + 21)], ob 2 [.int 256, .int 0, .int 0, .int 0, .ref (G.2.1 + 3), .ref (G.2.1 + 4), .ref (G.2.1 + 5)], ai G 256 (upd (fun _ => 0) (0 : Int32).toNatClampNeg 5), ai G 500 (fun _ => (-1)), ai G 500 (fun _ => 0), ob 3 [.int 0, .int 0, .int 0, .int 0, .ref (G.2.1 + 7), .ref (G.2.1 + 8), .ref (G.2.1 + 9), .ref (G.2.1 + 10), .ref (G.2.1 + 11)], ai G 500 (fun _ => 0), ai G 500 (fun _ => 0), ai G 500 (fun _ => 0), ai G 500 (fun _ => 0), ai G 500 (fun _ => 0), ob 8 [.int 0, .int 0, .int 0, .int 0, .int 0, .int 0, .ref (G.2.1 + 13)], ai G 300 (fun _ => 0), ob 4 [.int 0, .ref (G.2.1 + 15), .ref (G.2.1 + 16)], ai G 1295 (fun _ => 0), ai G 1295 (fun _ => 0), ob 5 [.int 0, .int 0, .int 0, .int 0, .ref (G.2.1 + 18), .ref (G.2.1 + 19)], ai G 200 (fun _ => 0), ai G 8 (fun _ => (-1)), ai G 24 (fun _ => (-1)), ai G 32 (fun _ => (-1)), ai G 14 (fun _ => 0), ob 7 [.ref (G.2.1 + 1), .ref (G.2.1 + 2), .ref (G.2.1 + 6), .ref (G.2.1 + 22), .ref (G.2.1 + 24), .int 0, .ref (G.2.1 + 25), .ref (G.2.1 + 26), .int 0], ai G 500 (fun _ => 0), ai G 500 (fun _ => 0), ai G 500 (fun _ => 0), ob 0 [.ref (G.2.1 + 1), .ref (G.2.1 + 2), .ref (G.2.1 + 23), .int 0], ob 1 [.ref (G.2.1 + 29), .int 0, .int 0, .ref (G.2.1 + 30), .ref (G.2.1 + 31)], ai G 0 (fun _ => 0), ai G 500 (fun _ => 0), ai G 501 (fun _ => 0), ob 10 [.ref (G.2.1 + 33), .ref (G.2.1 + 34), .ref (G.2.1 + 35), .int 0, .int 0, .int 0, .int 0, .int 0, .ref (G.2.1 + 36), .ref (G.2.1 + 37), .ref (G.2.1 + 38), .ref (G.2.1 + 39), .int 0, .ref (G.2.1 + 40), .int 0, .ref (G.2.1 + 41)], ai G 26100 (sx 256), ai G 26100 (fun _ => 0), ai G 26100 (fun _ => 0), ai G 14 (fun _ => 0), ai G 500 (fun _ => 0), ai G 500 (fun _ => 0), az G 500 (fun _ => 0), ai G 501 (fun _ => 0), ai G 500 (fun _ => 0)])) := by
  refine Ct.of (by decide) (Nat.le_of_ble_eq_true rfl) ⟨Nat.le_refl _, Nat.le_refl _⟩ ?_
  show Go l G mX2_isCounted _ 0 [(0, .int 5)] [] 42 90324 (wl G.2.1 [ob 9 [.ref (G.2.1 + 1), .ref (G.2.1 + 23), .ref (G.2.1 + 27), .ref (G.2.1 + 28), .ref (G.2.1 + 22), .int 0, .int 0, .null, .int 0, .null, .int 0], ob 6 [.ref (G.2.1 + 2), .ref (G.2.1 + 6), .ref (G.2.1 + 12), .ref (G.2.1 + 14), .ref (G.2.1 + 17), .ref (G.2.1 + 20), .ref (G.2.1 + 21)], ob 2 [.int 256, .int 0, .int 0, .int 0, .ref (G.2.1 + 3), .ref (G.2.1 + 4), .ref (G.2.1 + 5)], ai G 256 (upd (fun _ => 0) (0 : Int32).toNatClampNeg 5), ai G 500 (fun _ => (-1)), ai G 500 (fun _ => 0), ob 3 [.int 0, .int 0, .int 0, .int 0, .ref (G.2.1 + 7), .ref (G.2.1 + 8), .ref (G.2.1 + 9), .ref (G.2.1 + 10), .ref (G.2.1 + 11)], ai G 500 (fun _ => 0), ai G 500 (fun _ => 0), ai G 500 (fun _ => 0), ai G 500 (fun _ => 0), ai G 500 (fun _ => 0), ob 8 [.int 0, .int 0, .int 0, .int 0, .int 0, .int 0, .ref (G.2.1 + 13)], ai G 300 (fun _ => 0), ob 4 [.int 0, .ref (G.2.1 + 15), .ref (G.2.1 + 16)], ai G 1295 (fun _ => 0), ai G 1295 (fun _ => 0), ob 5 [.int 0, .int 0, .int 0, .int 0, .ref (G.2.1 + 18), .ref (G.2.1 + 19)], ai G 200 (fun _ => 0), ai G 8 (fun _ => (-1)), ai G 24 (fun _ => (-1)), ai G 32 (fun _ => (-1)), ai G 14 (fun _ => 0), ob 7 [.ref (G.2.1 + 1), .ref (G.2.1 + 2), .ref (G.2.1 + 6), .ref (G.2.1 + 22), .ref (G.2.1 + 24), .int 0, .ref (G.2.1 + 25), .ref (G.2.1 + 26), .int 0], ai G 500 (fun _ => 0), ai G 500 (fun _ => 0), ai G 500 (fun _ => 0), ob 0 [.ref (G.2.1 + 1), .ref (G.2.1 + 2), .ref (G.2.1 + 23), .int 0], ob 1 [.ref (G.2.1 + 29), .int 0, .int 0, .ref (G.2.1 + 30), .ref (G.2.1 + 31)], ai G 0 (fun _ => 0), ai G 500 (fun _ => 0), ai G 501 (fun _ => 0), ob 10 [.ref (G.2.1 + 33), .ref (G.2.1 + 34), .ref (G.2.1 + 35), .int 0, .int 0, .int 0, .int 0, .int 0, .ref (G.2.1 + 36), .ref (G.2.1 + 37), .ref (G.2.1 + 38), .ref (G.2.1 + 39), .int 0, .ref (G.2.1 + 40), .int 0, .ref (G.2.1 + 41)], ai G 26100 (sx 256), ai G 26100 (fun _ => 0), ai G 26100 (fun _ => 0), ai G 14 (fun _ => 0), ai G 500 (fun _ => 0), ai G 500 (fun _ => 0), az G 500 (fun _ => 0), ai G 501 (fun _ => 0), ai G 500 (fun _ => 0)])
  refine go_iload_n (pc := 0) dX2_isCounted_0 rfl rfl ?_
  refine go_iconst (pc := 1) (v := 1) dX2_isCounted_1 (by decide) ?_
  refine go_icmp_eq_f (pc := 2) (tgt := 15) dX2_isCounted_2 (by decide) (by decide) ?_
  refine go_iload_n (pc := 5) dX2_isCounted_5 rfl rfl ?_
  refine go_iconst (pc := 6) (v := 2) dX2_isCounted_6 (by decide) ?_
  refine go_icmp_eq_f (pc := 7) (tgt := 15) dX2_isCounted_7 (by decide) (by decide) ?_
  refine go_iload_n (pc := 10) dX2_isCounted_10 rfl rfl ?_
  refine go_iconst (pc := 11) (v := 5) dX2_isCounted_11 (by decide) ?_
  refine go_icmp_ne_f (pc := 12) (tgt := 19) dX2_isCounted_12 (by decide) (by decide) ?_
  refine go_iconst (pc := 15) (v := 1) dX2_isCounted_15 (by decide) ?_
  refine go_goto (pc := 16) (tgt := 20) dX2_isCounted_16 (by decide) ?_
  exact go_zret (pc := 20) rfl rfl dX2_isCounted_20
set_option maxRecDepth 100000 in
set_option maxHeartbeats 4000000 in
theorem cX2_intsFor_14 {l : Launch} {G : gG} (j : Nat) (hj : j ≤ 254) : Ct l G mX2_intsFor 0 0 [.int 5, .int (nI j)] 42 90324 (wl G.2.1 [ob 9 [.ref (G.2.1 + 1), .ref (G.2.1 + 23), .ref (G.2.1 + 27), .ref (G.2.1 + 28), .ref (G.2.1 + 22), .int 0, .int 0, .null, .int 0, .null, .int 0], ob 6 [.ref (G.2.1 + 2), .ref (G.2.1 + 6), .ref (G.2.1 + 12), .ref (G.2.1 + 14), .ref (G.2.1 + 17), .ref (G.2.1 + 20), .ref (G.2.1 + 21)], ob 2 [.int 256, .int 0, .int 0, .int 0, .ref (G.2.1 + 3), .ref (G.2.1 + 4), .ref (G.2.1 + 5)], ai G 256 (fun q => if 2 ≤ q ∧ q < 2 + j then (-1) else (upd (upd (fun _ => 0) (0 : Int32).toNatClampNeg 5) (1 : Int32).toNatClampNeg (nI j)) q), ai G 500 (upd (fun _ => (-1)) (0 : Int32).toNatClampNeg 0), ai G 500 (upd (fun _ => 0) (0 : Int32).toNatClampNeg 0), ob 3 [.int 0, .int 0, .int 0, .int 0, .ref (G.2.1 + 7), .ref (G.2.1 + 8), .ref (G.2.1 + 9), .ref (G.2.1 + 10), .ref (G.2.1 + 11)], ai G 500 (fun _ => 0), ai G 500 (fun _ => 0), ai G 500 (fun _ => 0), ai G 500 (fun _ => 0), ai G 500 (fun _ => 0), ob 8 [.int 0, .int 0, .int 0, .int 0, .int 0, .int 0, .ref (G.2.1 + 13)], ai G 300 (fun _ => 0), ob 4 [.int 0, .ref (G.2.1 + 15), .ref (G.2.1 + 16)], ai G 1295 (fun _ => 0), ai G 1295 (fun _ => 0), ob 5 [.int 0, .int 0, .int 0, .int 0, .ref (G.2.1 + 18), .ref (G.2.1 + 19)], ai G 200 (fun _ => 0), ai G 8 (fun _ => (-1)), ai G 24 (fun _ => (-1)), ai G 32 (fun _ => (-1)), ai G 14 (fun _ => 0), ob 7 [.ref (G.2.1 + 1), .ref (G.2.1 + 2), .ref (G.2.1 + 6), .ref (G.2.1 + 22), .ref (G.2.1 + 24), .int 0, .ref (G.2.1 + 25), .ref (G.2.1 + 26), .int 0], ai G 500 (fun _ => 0), ai G 500 (fun _ => 0), ai G 500 (fun _ => 0), ob 0 [.ref (G.2.1 + 1), .ref (G.2.1 + 2), .ref (G.2.1 + 23), .int 0], ob 1 [.ref (G.2.1 + 29), .int 0, .int 0, .ref (G.2.1 + 30), .ref (G.2.1 + 31)], ai G 0 (fun _ => 0), ai G 500 (fun _ => 0), ai G 501 (fun _ => 0), ob 10 [.ref (G.2.1 + 33), .ref (G.2.1 + 34), .ref (G.2.1 + 35), .int 0, .int 0, .int 0, .int 0, .int 0, .ref (G.2.1 + 36), .ref (G.2.1 + 37), .ref (G.2.1 + 38), .ref (G.2.1 + 39), .int 0, .ref (G.2.1 + 40), .int 0, .ref (G.2.1 + 41)], ai G 26100 (sx 256), ai G 26100 (fun _ => 0), ai G 26100 (fun _ => 0), ai G 14 (fun _ => 0), ai G 500 (fun _ => 0), ai G 500 (fun _ => 0), az G 500 (fun _ => 0), ai G 501 (fun _ => 0), ai G 500 (fun _ => 0)]) (some (.int (2 + (2 * (nI j)))), 42, 90324, (wl G.2.1 [ob 9 [.ref (G.2.1 + 1), .ref (G.2.1 + 23), .ref (G.2.1 + 27), .ref (G.2.1 + 28), .ref (G.2.1 + 22), .int 0, .int 0, .null, .int 0, .null, .int 0], ob 6 [.ref (G.2.1 + 2), .ref (G.2.1 + 6), .ref (G.2.1 + 12), .ref (G.2.1 + 14), .ref (G.2.1 + 17), .ref (G.2.1 + 20), .ref (G.2.1 + 21)], ob 2 [.int 256, .int 0, .int 0, .int 0, .ref (G.2.1 + 3), .ref (G.2.1 + 4), .ref (G.2.1 + 5)], ai G 256 (fun q => if 2 ≤ q ∧ q < 2 + j then (-1) else (upd (upd (fun _ => 0) (0 : Int32).toNatClampNeg 5) (1 : Int32).toNatClampNeg (nI j)) q), ai G 500 (upd (fun _ => (-1)) (0 : Int32).toNatClampNeg 0), ai G 500 (upd (fun _ => 0) (0 : Int32).toNatClampNeg 0), ob 3 [.int 0, .int 0, .int 0, .int 0, .ref (G.2.1 + 7), .ref (G.2.1 + 8), .ref (G.2.1 + 9), .ref (G.2.1 + 10), .ref (G.2.1 + 11)], ai G 500 (fun _ => 0), ai G 500 (fun _ => 0), ai G 500 (fun _ => 0), ai G 500 (fun _ => 0), ai G 500 (fun _ => 0), ob 8 [.int 0, .int 0, .int 0, .int 0, .int 0, .int 0, .ref (G.2.1 + 13)], ai G 300 (fun _ => 0), ob 4 [.int 0, .ref (G.2.1 + 15), .ref (G.2.1 + 16)], ai G 1295 (fun _ => 0), ai G 1295 (fun _ => 0), ob 5 [.int 0, .int 0, .int 0, .int 0, .ref (G.2.1 + 18), .ref (G.2.1 + 19)], ai G 200 (fun _ => 0), ai G 8 (fun _ => (-1)), ai G 24 (fun _ => (-1)), ai G 32 (fun _ => (-1)), ai G 14 (fun _ => 0), ob 7 [.ref (G.2.1 + 1), .ref (G.2.1 + 2), .ref (G.2.1 + 6), .ref (G.2.1 + 22), .ref (G.2.1 + 24), .int 0, .ref (G.2.1 + 25), .ref (G.2.1 + 26), .int 0], ai G 500 (fun _ => 0), ai G 500 (fun _ => 0), ai G 500 (fun _ => 0), ob 0 [.ref (G.2.1 + 1), .ref (G.2.1 + 2), .ref (G.2.1 + 23), .int 0], ob 1 [.ref (G.2.1 + 29), .int 0, .int 0, .ref (G.2.1 + 30), .ref (G.2.1 + 31)], ai G 0 (fun _ => 0), ai G 500 (fun _ => 0), ai G 501 (fun _ => 0), ob 10 [.ref (G.2.1 + 33), .ref (G.2.1 + 34), .ref (G.2.1 + 35), .int 0, .int 0, .int 0, .int 0, .int 0, .ref (G.2.1 + 36), .ref (G.2.1 + 37), .ref (G.2.1 + 38), .ref (G.2.1 + 39), .int 0, .ref (G.2.1 + 40), .int 0, .ref (G.2.1 + 41)], ai G 26100 (sx 256), ai G 26100 (fun _ => 0), ai G 26100 (fun _ => 0), ai G 14 (fun _ => 0), ai G 500 (fun _ => 0), ai G 500 (fun _ => 0), az G 500 (fun _ => 0), ai G 501 (fun _ => 0), ai G 500 (fun _ => 0)])) := by
  refine Ct.of (by decide) (Nat.le_of_ble_eq_true rfl) ⟨Nat.le_refl _, Nat.le_refl _⟩ ?_
  show Go l G mX2_intsFor _ 0 [(0, .int 5), (1, .int (nI j))] [] 42 90324 (wl G.2.1 [ob 9 [.ref (G.2.1 + 1), .ref (G.2.1 + 23), .ref (G.2.1 + 27), .ref (G.2.1 + 28), .ref (G.2.1 + 22), .int 0, .int 0, .null, .int 0, .null, .int 0], ob 6 [.ref (G.2.1 + 2), .ref (G.2.1 + 6), .ref (G.2.1 + 12), .ref (G.2.1 + 14), .ref (G.2.1 + 17), .ref (G.2.1 + 20), .ref (G.2.1 + 21)], ob 2 [.int 256, .int 0, .int 0, .int 0, .ref (G.2.1 + 3), .ref (G.2.1 + 4), .ref (G.2.1 + 5)], ai G 256 (fun q => if 2 ≤ q ∧ q < 2 + j then (-1) else (upd (upd (fun _ => 0) (0 : Int32).toNatClampNeg 5) (1 : Int32).toNatClampNeg (nI j)) q), ai G 500 (upd (fun _ => (-1)) (0 : Int32).toNatClampNeg 0), ai G 500 (upd (fun _ => 0) (0 : Int32).toNatClampNeg 0), ob 3 [.int 0, .int 0, .int 0, .int 0, .ref (G.2.1 + 7), .ref (G.2.1 + 8), .ref (G.2.1 + 9), .ref (G.2.1 + 10), .ref (G.2.1 + 11)], ai G 500 (fun _ => 0), ai G 500 (fun _ => 0), ai G 500 (fun _ => 0), ai G 500 (fun _ => 0), ai G 500 (fun _ => 0), ob 8 [.int 0, .int 0, .int 0, .int 0, .int 0, .int 0, .ref (G.2.1 + 13)], ai G 300 (fun _ => 0), ob 4 [.int 0, .ref (G.2.1 + 15), .ref (G.2.1 + 16)], ai G 1295 (fun _ => 0), ai G 1295 (fun _ => 0), ob 5 [.int 0, .int 0, .int 0, .int 0, .ref (G.2.1 + 18), .ref (G.2.1 + 19)], ai G 200 (fun _ => 0), ai G 8 (fun _ => (-1)), ai G 24 (fun _ => (-1)), ai G 32 (fun _ => (-1)), ai G 14 (fun _ => 0), ob 7 [.ref (G.2.1 + 1), .ref (G.2.1 + 2), .ref (G.2.1 + 6), .ref (G.2.1 + 22), .ref (G.2.1 + 24), .int 0, .ref (G.2.1 + 25), .ref (G.2.1 + 26), .int 0], ai G 500 (fun _ => 0), ai G 500 (fun _ => 0), ai G 500 (fun _ => 0), ob 0 [.ref (G.2.1 + 1), .ref (G.2.1 + 2), .ref (G.2.1 + 23), .int 0], ob 1 [.ref (G.2.1 + 29), .int 0, .int 0, .ref (G.2.1 + 30), .ref (G.2.1 + 31)], ai G 0 (fun _ => 0), ai G 500 (fun _ => 0), ai G 501 (fun _ => 0), ob 10 [.ref (G.2.1 + 33), .ref (G.2.1 + 34), .ref (G.2.1 + 35), .int 0, .int 0, .int 0, .int 0, .int 0, .ref (G.2.1 + 36), .ref (G.2.1 + 37), .ref (G.2.1 + 38), .ref (G.2.1 + 39), .int 0, .ref (G.2.1 + 40), .int 0, .ref (G.2.1 + 41)], ai G 26100 (sx 256), ai G 26100 (fun _ => 0), ai G 26100 (fun _ => 0), ai G 14 (fun _ => 0), ai G 500 (fun _ => 0), ai G 500 (fun _ => 0), az G 500 (fun _ => 0), ai G 501 (fun _ => 0), ai G 500 (fun _ => 0)])
  refine go_iload_n (pc := 0) dX2_intsFor_0 rfl rfl ?_
  refine go_tableIn (pc := 1) (off := 39) (tgt := 40) dX2_intsFor_1 (by decide) (by decide) (by decide) (by decide) ?_
  refine go_iconst (pc := 40) (v := 2) dX2_intsFor_40 (by decide) ?_
  refine go_iconst (pc := 41) (v := 2) dX2_intsFor_41 (by decide) ?_
  refine go_iload_n (pc := 42) dX2_intsFor_42 rfl rfl ?_
  refine go_imul (pc := 43) dX2_intsFor_43 ?_
  refine go_iadd (pc := 44) dX2_intsFor_44 ?_
  exact go_iret (pc := 45) rfl dX2_intsFor_45
set_option maxRecDepth 100000 in
set_option maxHeartbeats 4000000 in
theorem cX2_addCell_6 {l : Launch} {G : gG} (j : Nat) (hj : j ≤ 254) (k0 : nI j ≤ 300) (k1 : 0 ≤ nI j) (k4 : ¬ nI j < 0) (k2 : 2 + (2 * (nI j)) ≤ 256) : Ct l G mX2_addCell 2 46 [.ref (G.2.1 + 2), .int 5, .int (nI j)] 42 90324 (wl G.2.1 (LF G)) (some (.int 0), 42, 90324, (wl G.2.1 [ob 9 [.ref (G.2.1 + 1), .ref (G.2.1 + 23), .ref (G.2.1 + 27), .ref (G.2.1 + 28), .ref (G.2.1 + 22), .int 0, .int 0, .null, .int 0, .null, .int 0], ob 6 [.ref (G.2.1 + 2), .ref (G.2.1 + 6), .ref (G.2.1 + 12), .ref (G.2.1 + 14), .ref (G.2.1 + 17), .ref (G.2.1 + 20), .ref (G.2.1 + 21)], ob 2 [.int 256, .int (0 + (2 + (2 * (nI j)))), .int 1, .int 1, .ref (G.2.1 + 3), .ref (G.2.1 + 4), .ref (G.2.1 + 5)], ai G 256 (fun q => if 2 ≤ q ∧ q < 2 + j then (-1) else (upd (upd (fun _ => 0) (0 : Int32).toNatClampNeg 5) (1 : Int32).toNatClampNeg (nI j)) q), ai G 500 (upd (fun _ => (-1)) (0 : Int32).toNatClampNeg 0), ai G 500 (upd (fun _ => 0) (0 : Int32).toNatClampNeg 0), ob 3 [.int 0, .int 0, .int 0, .int 0, .ref (G.2.1 + 7), .ref (G.2.1 + 8), .ref (G.2.1 + 9), .ref (G.2.1 + 10), .ref (G.2.1 + 11)], ai G 500 (fun _ => 0), ai G 500 (fun _ => 0), ai G 500 (fun _ => 0), ai G 500 (fun _ => 0), ai G 500 (fun _ => 0), ob 8 [.int 0, .int 0, .int 0, .int 0, .int 0, .int 0, .ref (G.2.1 + 13)], ai G 300 (fun _ => 0), ob 4 [.int 0, .ref (G.2.1 + 15), .ref (G.2.1 + 16)], ai G 1295 (fun _ => 0), ai G 1295 (fun _ => 0), ob 5 [.int 0, .int 0, .int 0, .int 0, .ref (G.2.1 + 18), .ref (G.2.1 + 19)], ai G 200 (fun _ => 0), ai G 8 (fun _ => (-1)), ai G 24 (fun _ => (-1)), ai G 32 (fun _ => (-1)), ai G 14 (fun _ => 0), ob 7 [.ref (G.2.1 + 1), .ref (G.2.1 + 2), .ref (G.2.1 + 6), .ref (G.2.1 + 22), .ref (G.2.1 + 24), .int 0, .ref (G.2.1 + 25), .ref (G.2.1 + 26), .int 0], ai G 500 (fun _ => 0), ai G 500 (fun _ => 0), ai G 500 (fun _ => 0), ob 0 [.ref (G.2.1 + 1), .ref (G.2.1 + 2), .ref (G.2.1 + 23), .int 0], ob 1 [.ref (G.2.1 + 29), .int 0, .int 0, .ref (G.2.1 + 30), .ref (G.2.1 + 31)], ai G 0 (fun _ => 0), ai G 500 (fun _ => 0), ai G 501 (fun _ => 0), ob 10 [.ref (G.2.1 + 33), .ref (G.2.1 + 34), .ref (G.2.1 + 35), .int 0, .int 0, .int 0, .int 0, .int 0, .ref (G.2.1 + 36), .ref (G.2.1 + 37), .ref (G.2.1 + 38), .ref (G.2.1 + 39), .int 0, .ref (G.2.1 + 40), .int 0, .ref (G.2.1 + 41)], ai G 26100 (sx 256), ai G 26100 (fun _ => 0), ai G 26100 (fun _ => 0), ai G 14 (fun _ => 0), ai G 500 (fun _ => 0), ai G 500 (fun _ => 0), az G 500 (fun _ => 0), ai G 501 (fun _ => 0), ai G 500 (fun _ => 0)])) := by
  refine Ct.of (by decide) (Nat.le_of_ble_eq_true rfl) ⟨Nat.le_refl _, Nat.le_refl _⟩ ?_
  show Go l G mX2_addCell _ 0 [(0, .ref (G.2.1 + 2)), (1, .int 5), (2, .int (nI j))] [] 42 90324 (wl G.2.1 (LF G))
  refine go_aload_n (pc := 0) dX2_addCell_0 rfl rfl ?_
  refine go_get (pc := 1) fX2_32 rfl (gz_b (by decide)) (wl_at (i := 2) rfl) rfl dX2_addCell_1 ?_
  refine go_istore_n (pc := 4) (lv' := [(3, .int 0), (0, .ref (G.2.1 + 2)), (1, .int 5), (2, .int (nI j))]) dX2_addCell_4 rfl (by decide) rfl ?_
  refine go_aload_n (pc := 5) dX2_addCell_5 rfl rfl ?_
  refine go_get (pc := 6) fX2_9 rfl (gz_b (by decide)) (wl_at (i := 2) rfl) rfl dX2_addCell_6 ?_
  refine go_aload_n (pc := 9) dX2_addCell_9 rfl rfl ?_
  refine go_get (pc := 10) fX2_29 rfl (gz_b (by decide)) (wl_at (i := 2) rfl) rfl dX2_addCell_10 ?_
  refine go_iload_n (pc := 13) dX2_addCell_13 rfl rfl ?_
  refine go_bipush (pc := 14) (v := 8) dX2_addCell_14 (by decide) ?_
  refine go_imul (pc := 16) dX2_addCell_16 ?_
  refine go_top (y := 0) (by decide) ?_
  refine go_iload_n (pc := 17) dX2_addCell_17 rfl rfl ?_
  refine go_iadd (pc := 18) dX2_addCell_18 ?_
  refine go_top (y := 5) (by decide) ?_
  refine go_iast (pc := 19) (gz_b (by decide)) (wl_at (i := 3) rfl) (gv_in (by decide)) dX2_addCell_19 ?_
  refine go_ext (wl_up (i := 3) rfl rfl) ?_
  refine go_iload_n (pc := 20) dX2_addCell_20 rfl rfl ?_
  refine go_callS_i (pc := 21) sX2_60 rfl (cX2_isCounted_13) rfl rfl (Nat.le_of_ble_eq_true rfl) ⟨Nat.le_of_ble_eq_true rfl, Nat.le_of_ble_eq_true rfl, (Nat.le_add_right _ _), (Nat.le_add_right _ _)⟩ dX2_addCell_21 ?_
  refine go_if_ne_t (pc := 24) (tgt := 50) dX2_addCell_24 (by decide) (by decide) ?_
  refine go_aload_n (pc := 50) dX2_addCell_50 rfl rfl ?_
  refine go_get (pc := 51) fX2_9 rfl (gz_b (by decide)) (wl_at (i := 2) rfl) rfl dX2_addCell_51 ?_
  refine go_aload_n (pc := 54) dX2_addCell_54 rfl rfl ?_
  refine go_get (pc := 55) fX2_29 rfl (gz_b (by decide)) (wl_at (i := 2) rfl) rfl dX2_addCell_55 ?_
  refine go_iconst (pc := 58) (v := 1) dX2_addCell_58 (by decide) ?_
  refine go_iadd (pc := 59) dX2_addCell_59 ?_
  refine go_top (y := 1) (by decide) ?_
  refine go_iload_n (pc := 60) dX2_addCell_60 rfl rfl ?_
  refine go_iast (pc := 61) (gz_b (by decide)) (wl_at (i := 3) rfl) (gv_in (by decide)) dX2_addCell_61 ?_
  refine go_ext (wl_up (i := 3) rfl rfl) ?_
  refine go_iload_n (pc := 62) dX2_addCell_62 rfl rfl ?_
  refine go_iconst (pc := 63) (v := 2) dX2_addCell_63 (by decide) ?_
  refine go_icmp_eq_f (pc := 64) (tgt := 89) dX2_addCell_64 (by decide) (by decide) ?_
  refine go_aload_n (pc := 67) dX2_addCell_67 rfl rfl ?_
  refine go_get (pc := 68) fX2_9 rfl (gz_b (by decide)) (wl_at (i := 2) rfl) rfl dX2_addCell_68 ?_
  refine go_aload_n (pc := 71) dX2_addCell_71 rfl rfl ?_
  refine go_get (pc := 72) fX2_29 rfl (gz_b (by decide)) (wl_at (i := 2) rfl) rfl dX2_addCell_72 ?_
  refine go_iconst (pc := 75) (v := 2) dX2_addCell_75 (by decide) ?_
  refine go_iadd (pc := 76) dX2_addCell_76 ?_
  refine go_top (y := 2) (by decide) ?_
  refine go_aload_n (pc := 77) dX2_addCell_77 rfl rfl ?_
  refine go_get (pc := 78) fX2_29 rfl (gz_b (by decide)) (wl_at (i := 2) rfl) rfl dX2_addCell_78 ?_
  refine go_iconst (pc := 81) (v := 2) dX2_addCell_81 (by decide) ?_
  refine go_iadd (pc := 82) dX2_addCell_82 ?_
  refine go_top (y := 2) (by decide) ?_
  refine go_iload_n (pc := 83) dX2_addCell_83 rfl rfl ?_
  refine go_iadd (pc := 84) dX2_addCell_84 ?_
  refine go_iconst (pc := 85) (v := (-1)) dX2_addCell_85 (by decide) ?_
  refine go_sec (y := nI (2 + j)) (by rw [show (2 : Int32) = nI 2 from by decide, nI_add]) ?_
  refine go_callS_v (pc := 86) sX2_44 rfl (ct_fillr (a := G.2.1 + 3) (N := 256) (f := (upd (upd (fun _ => 0) (0 : Int32).toNatClampNeg 5) (1 : Int32).toNatClampNeg (nI j))) ((-1)) (fr := 2) (to := 2 + j) (by omega) (by omega) (by decide) (gz_b (by decide)) (wl_at (i := 3) rfl)) rfl rfl (Nat.le_of_ble_eq_true rfl) ⟨Nat.le_of_ble_eq_true rfl, Nat.le_of_ble_eq_true rfl, (Nat.le_add_right _ _), (Nat.le_add_right _ _)⟩ dX2_addCell_86 ?_
  refine go_ext (wl_up (i := 3) rfl rfl) ?_
  refine go_aload_n (pc := 89) dX2_addCell_89 rfl rfl ?_
  refine go_get (pc := 90) fX2_15 rfl (gz_b (by decide)) (wl_at (i := 2) rfl) rfl dX2_addCell_90 ?_
  refine go_iload_n (pc := 93) dX2_addCell_93 rfl rfl ?_
  refine go_aload_n (pc := 94) dX2_addCell_94 rfl rfl ?_
  refine go_get (pc := 95) fX2_29 rfl (gz_b (by decide)) (wl_at (i := 2) rfl) rfl dX2_addCell_95 ?_
  refine go_iast (pc := 98) (gz_b (by decide)) (wl_at (i := 4) rfl) (gv_in (by decide)) dX2_addCell_98 ?_
  refine go_ext (wl_up (i := 4) rfl rfl) ?_
  refine go_aload_n (pc := 99) dX2_addCell_99 rfl rfl ?_
  refine go_get (pc := 100) fX2_18 rfl (gz_b (by decide)) (wl_at (i := 2) rfl) rfl dX2_addCell_100 ?_
  refine go_iload_n (pc := 103) dX2_addCell_103 rfl rfl ?_
  refine go_iconst (pc := 104) (v := 0) dX2_addCell_104 (by decide) ?_
  refine go_iast (pc := 105) (gz_b (by decide)) (wl_at (i := 5) rfl) (gv_in (by decide)) dX2_addCell_105 ?_
  refine go_ext (wl_up (i := 5) rfl rfl) ?_
  refine go_aload_n (pc := 106) dX2_addCell_106 rfl rfl ?_
  refine go_dup (pc := 107) dX2_addCell_107 rfl ?_
  refine go_get (pc := 108) fX2_29 rfl (gz_b (by decide)) (wl_at (i := 2) rfl) rfl dX2_addCell_108 ?_
  refine go_iload_n (pc := 111) dX2_addCell_111 rfl rfl ?_
  refine go_iload_n (pc := 112) dX2_addCell_112 rfl rfl ?_
  refine go_callS_i (pc := 113) sX2_67 rfl (cX2_intsFor_14 j hj) rfl rfl (Nat.le_of_ble_eq_true rfl) ⟨Nat.le_of_ble_eq_true rfl, Nat.le_of_ble_eq_true rfl, (Nat.le_add_right _ _), (Nat.le_add_right _ _)⟩ dX2_addCell_113 ?_
  refine go_iadd (pc := 116) dX2_addCell_116 ?_
  refine go_put (pc := 117) fX2_29 rfl (gz_b (by decide)) (wl_at (i := 2) rfl) (Nat.le_of_ble_eq_true rfl) rfl rfl dX2_addCell_117 ?_
  refine go_ext (wl_up (i := 2) rfl rfl) ?_
  refine go_aload_n (pc := 120) dX2_addCell_120 rfl rfl ?_
  refine go_dup (pc := 121) dX2_addCell_121 rfl ?_
  refine go_get (pc := 122) fX2_32 rfl (gz_b (by decide)) (wl_at (i := 2) rfl) rfl dX2_addCell_122 ?_
  refine go_iconst (pc := 125) (v := 1) dX2_addCell_125 (by decide) ?_
  refine go_iadd (pc := 126) dX2_addCell_126 ?_
  refine go_top (y := 1) (by decide) ?_
  refine go_put (pc := 127) fX2_32 rfl (gz_b (by decide)) (wl_at (i := 2) rfl) (Nat.le_of_ble_eq_true rfl) rfl rfl dX2_addCell_127 ?_
  refine go_ext (wl_up (i := 2) rfl rfl) ?_
  refine go_aload_n (pc := 130) dX2_addCell_130 rfl rfl ?_
  refine go_dup (pc := 131) dX2_addCell_131 rfl ?_
  refine go_get (pc := 132) fX2_35 rfl (gz_b (by decide)) (wl_at (i := 2) rfl) rfl dX2_addCell_132 ?_
  refine go_iconst (pc := 135) (v := 1) dX2_addCell_135 (by decide) ?_
  refine go_iadd (pc := 136) dX2_addCell_136 ?_
  refine go_top (y := 1) (by decide) ?_
  refine go_put (pc := 137) fX2_35 rfl (gz_b (by decide)) (wl_at (i := 2) rfl) (Nat.le_of_ble_eq_true rfl) rfl rfl dX2_addCell_137 ?_
  refine go_ext (wl_up (i := 2) rfl rfl) ?_
  refine go_iload_n (pc := 140) dX2_addCell_140 rfl rfl ?_
  refine go_w (show _ = wl G.2.1 [ob 9 [.ref (G.2.1 + 1), .ref (G.2.1 + 23), .ref (G.2.1 + 27), .ref (G.2.1 + 28), .ref (G.2.1 + 22), .int 0, .int 0, .null, .int 0, .null, .int 0], ob 6 [.ref (G.2.1 + 2), .ref (G.2.1 + 6), .ref (G.2.1 + 12), .ref (G.2.1 + 14), .ref (G.2.1 + 17), .ref (G.2.1 + 20), .ref (G.2.1 + 21)], ob 2 [.int 256, .int (0 + (2 + (2 * (nI j)))), .int 1, .int 1, .ref (G.2.1 + 3), .ref (G.2.1 + 4), .ref (G.2.1 + 5)], ai G 256 (fun q => if 2 ≤ q ∧ q < 2 + j then (-1) else (upd (upd (fun _ => 0) (0 : Int32).toNatClampNeg 5) (1 : Int32).toNatClampNeg (nI j)) q), ai G 500 (upd (fun _ => (-1)) (0 : Int32).toNatClampNeg 0), ai G 500 (upd (fun _ => 0) (0 : Int32).toNatClampNeg 0), ob 3 [.int 0, .int 0, .int 0, .int 0, .ref (G.2.1 + 7), .ref (G.2.1 + 8), .ref (G.2.1 + 9), .ref (G.2.1 + 10), .ref (G.2.1 + 11)], ai G 500 (fun _ => 0), ai G 500 (fun _ => 0), ai G 500 (fun _ => 0), ai G 500 (fun _ => 0), ai G 500 (fun _ => 0), ob 8 [.int 0, .int 0, .int 0, .int 0, .int 0, .int 0, .ref (G.2.1 + 13)], ai G 300 (fun _ => 0), ob 4 [.int 0, .ref (G.2.1 + 15), .ref (G.2.1 + 16)], ai G 1295 (fun _ => 0), ai G 1295 (fun _ => 0), ob 5 [.int 0, .int 0, .int 0, .int 0, .ref (G.2.1 + 18), .ref (G.2.1 + 19)], ai G 200 (fun _ => 0), ai G 8 (fun _ => (-1)), ai G 24 (fun _ => (-1)), ai G 32 (fun _ => (-1)), ai G 14 (fun _ => 0), ob 7 [.ref (G.2.1 + 1), .ref (G.2.1 + 2), .ref (G.2.1 + 6), .ref (G.2.1 + 22), .ref (G.2.1 + 24), .int 0, .ref (G.2.1 + 25), .ref (G.2.1 + 26), .int 0], ai G 500 (fun _ => 0), ai G 500 (fun _ => 0), ai G 500 (fun _ => 0), ob 0 [.ref (G.2.1 + 1), .ref (G.2.1 + 2), .ref (G.2.1 + 23), .int 0], ob 1 [.ref (G.2.1 + 29), .int 0, .int 0, .ref (G.2.1 + 30), .ref (G.2.1 + 31)], ai G 0 (fun _ => 0), ai G 500 (fun _ => 0), ai G 501 (fun _ => 0), ob 10 [.ref (G.2.1 + 33), .ref (G.2.1 + 34), .ref (G.2.1 + 35), .int 0, .int 0, .int 0, .int 0, .int 0, .ref (G.2.1 + 36), .ref (G.2.1 + 37), .ref (G.2.1 + 38), .ref (G.2.1 + 39), .int 0, .ref (G.2.1 + 40), .int 0, .ref (G.2.1 + 41)], ai G 26100 (sx 256), ai G 26100 (fun _ => 0), ai G 26100 (fun _ => 0), ai G 14 (fun _ => 0), ai G 500 (fun _ => 0), ai G 500 (fun _ => 0), az G 500 (fun _ => 0), ai G 501 (fun _ => 0), ai G 500 (fun _ => 0)] from rfl) ?_
  exact go_iret (pc := 141) rfl dX2_addCell_141
set_option maxRecDepth 100000 in
set_option maxHeartbeats 4000000 in
theorem cX0_makeCell_12 {l : Launch} {G : gG} (j : Nat) (hj : j ≤ 254) (k0 : nI j ≤ 300) (k1 : 0 ≤ nI j) (k4 : ¬ nI j < 0) (k2 : 2 + (2 * (nI j)) ≤ 256) : Ct l G mX0_makeCell 3 69 [.ref (G.2.1 + 27), .int 5, .int (nI j)] 42 90324 (wl G.2.1 (LF G)) (some (.int 0), 42, 90324, (wl G.2.1 [ob 9 [.ref (G.2.1 + 1), .ref (G.2.1 + 23), .ref (G.2.1 + 27), .ref (G.2.1 + 28), .ref (G.2.1 + 22), .int 0, .int 0, .null, .int 0, .null, .int 0], ob 6 [.ref (G.2.1 + 2), .ref (G.2.1 + 6), .ref (G.2.1 + 12), .ref (G.2.1 + 14), .ref (G.2.1 + 17), .ref (G.2.1 + 20), .ref (G.2.1 + 21)], ob 2 [.int 256, .int (0 + (2 + (2 * (nI j)))), .int 1, .int 1, .ref (G.2.1 + 3), .ref (G.2.1 + 4), .ref (G.2.1 + 5)], ai G 256 (fun q => if 2 ≤ q ∧ q < 2 + j then (-1) else (upd (upd (fun _ => 0) (0 : Int32).toNatClampNeg 5) (1 : Int32).toNatClampNeg (nI j)) q), ai G 500 (upd (fun _ => (-1)) (0 : Int32).toNatClampNeg 0), ai G 500 (upd (fun _ => 0) (0 : Int32).toNatClampNeg 0), ob 3 [.int 0, .int 0, .int 0, .int 0, .ref (G.2.1 + 7), .ref (G.2.1 + 8), .ref (G.2.1 + 9), .ref (G.2.1 + 10), .ref (G.2.1 + 11)], ai G 500 (fun _ => 0), ai G 500 (fun _ => 0), ai G 500 (fun _ => 0), ai G 500 (fun _ => 0), ai G 500 (fun _ => 0), ob 8 [.int 0, .int 0, .int 0, .int 0, .int 0, .int 0, .ref (G.2.1 + 13)], ai G 300 (fun _ => 0), ob 4 [.int 0, .ref (G.2.1 + 15), .ref (G.2.1 + 16)], ai G 1295 (fun _ => 0), ai G 1295 (fun _ => 0), ob 5 [.int 0, .int 0, .int 0, .int 0, .ref (G.2.1 + 18), .ref (G.2.1 + 19)], ai G 200 (fun _ => 0), ai G 8 (fun _ => (-1)), ai G 24 (fun _ => (-1)), ai G 32 (fun _ => (-1)), ai G 14 (fun _ => 0), ob 7 [.ref (G.2.1 + 1), .ref (G.2.1 + 2), .ref (G.2.1 + 6), .ref (G.2.1 + 22), .ref (G.2.1 + 24), .int 0, .ref (G.2.1 + 25), .ref (G.2.1 + 26), .int 0], ai G 500 (fun _ => 0), ai G 500 (fun _ => 0), ai G 500 (fun _ => 0), ob 0 [.ref (G.2.1 + 1), .ref (G.2.1 + 2), .ref (G.2.1 + 23), .int 0], ob 1 [.ref (G.2.1 + 29), .int 0, .int 0, .ref (G.2.1 + 30), .ref (G.2.1 + 31)], ai G 0 (fun _ => 0), ai G 500 (fun _ => 0), ai G 501 (fun _ => 0), ob 10 [.ref (G.2.1 + 33), .ref (G.2.1 + 34), .ref (G.2.1 + 35), .int 0, .int 0, .int 0, .int 0, .int 0, .ref (G.2.1 + 36), .ref (G.2.1 + 37), .ref (G.2.1 + 38), .ref (G.2.1 + 39), .int 0, .ref (G.2.1 + 40), .int 0, .ref (G.2.1 + 41)], ai G 26100 (sx 256), ai G 26100 (fun _ => 0), ai G 26100 (fun _ => 0), ai G 14 (fun _ => 0), ai G 500 (fun _ => 0), ai G 500 (fun _ => 0), az G 500 (fun _ => 0), ai G 501 (fun _ => 0), ai G 500 (fun _ => 0)])) := by
  refine Ct.of (by decide) (Nat.le_of_ble_eq_true rfl) ⟨Nat.le_refl _, Nat.le_refl _⟩ ?_
  show Go l G mX0_makeCell _ 0 [(0, .ref (G.2.1 + 27)), (1, .int 5), (2, .int (nI j))] [] 42 90324 (wl G.2.1 (LF G))
  refine go_iload_n (pc := 0) dX0_makeCell_0 rfl rfl ?_
  refine go_callS_i (pc := 1) sX0_26 rfl (cX2_isCounted_12) rfl rfl (Nat.le_of_ble_eq_true rfl) ⟨Nat.le_of_ble_eq_true rfl, Nat.le_of_ble_eq_true rfl, (Nat.le_add_right _ _), (Nat.le_add_right _ _)⟩ dX0_makeCell_1 ?_
  refine go_if_eq_f (pc := 4) (tgt := 11) dX0_makeCell_4 (by decide) (by decide) ?_
  refine go_iload_n (pc := 7) dX0_makeCell_7 rfl rfl ?_
  refine go_goto (pc := 8) (tgt := 12) dX0_makeCell_8 (by decide) ?_
  refine go_istore_n (pc := 12) (lv' := [(3, .int (nI j)), (0, .ref (G.2.1 + 27)), (1, .int 5), (2, .int (nI j))]) dX0_makeCell_12 rfl (by decide) rfl ?_
  refine go_iload_n (pc := 13) dX0_makeCell_13 rfl rfl ?_
  refine go_if_ge_t (pc := 14) (tgt := 20) dX0_makeCell_14 (by decide) k1 ?_
  refine go_iload_n (pc := 20) dX0_makeCell_20 rfl rfl ?_
  refine go_iload_n (pc := 21) dX0_makeCell_21 rfl rfl ?_
  refine go_callS_i (pc := 22) sX0_32 rfl (cX2_intsFor_13 j hj) rfl rfl (Nat.le_of_ble_eq_true rfl) ⟨Nat.le_of_ble_eq_true rfl, Nat.le_of_ble_eq_true rfl, (Nat.le_add_right _ _), (Nat.le_add_right _ _)⟩ dX0_makeCell_22 ?_
  refine go_istore (pc := 25) (lv' := [(4, .int (2 + (2 * (nI j)))), (3, .int (nI j)), (0, .ref (G.2.1 + 27)), (1, .int 5), (2, .int (nI j))]) dX0_makeCell_25 (by decide) rfl ?_
  refine go_aload_n (pc := 27) dX0_makeCell_27 rfl rfl ?_
  refine go_get (pc := 28) fX0_21 rfl (gz_b (by decide)) (wl_at (i := 27) rfl) rfl dX0_makeCell_28 ?_
  refine go_get (pc := 31) fX0_36 rfl (gz_b (by decide)) (wl_at (i := 2) rfl) rfl dX0_makeCell_31 ?_
  refine go_sipush (pc := 34) (v := 500) dX0_makeCell_34 (by decide) ?_
  refine go_icmp_ge_f (pc := 37) (tgt := 72) dX0_makeCell_37 (by decide) (by decide) ?_
  refine go_iload (pc := 40) dX0_makeCell_40 rfl ?_
  refine go_aload_n (pc := 42) dX0_makeCell_42 rfl rfl ?_
  refine go_get (pc := 43) fX0_21 rfl (gz_b (by decide)) (wl_at (i := 27) rfl) rfl dX0_makeCell_43 ?_
  refine go_callV_i (pc := 46) vX0_40 rfl (cX2_free_1) rfl rfl (gz_b (by decide)) (wl_at (i := 2) rfl) rfl (Nat.le_of_ble_eq_true rfl) ⟨Nat.le_of_ble_eq_true rfl, Nat.le_of_ble_eq_true rfl, (Nat.le_add_right _ _), (Nat.le_add_right _ _)⟩ dX0_makeCell_46 ?_
  refine go_icmp_le_t (pc := 49) (tgt := 75) dX0_makeCell_49 (by decide) k2 ?_
  refine go_iconst (pc := 75) (v := 0) dX0_makeCell_75 (by decide) ?_
  refine go_istore (pc := 76) (lv' := [(5, .int 0), (4, .int (2 + (2 * (nI j)))), (3, .int (nI j)), (0, .ref (G.2.1 + 27)), (1, .int 5), (2, .int (nI j))]) dX0_makeCell_76 (by decide) rfl ?_
  refine go_iload (pc := 78) dX0_makeCell_78 rfl ?_
  refine go_iconst (pc := 80) (v := 2) dX0_makeCell_80 (by decide) ?_
  refine go_icmp_ge_f (pc := 81) (tgt := 109) dX0_makeCell_81 (by decide) (by decide) ?_
  refine go_iload (pc := 84) dX0_makeCell_84 rfl ?_
  refine go_aload_n (pc := 86) dX0_makeCell_86 rfl rfl ?_
  refine go_get (pc := 87) fX0_21 rfl (gz_b (by decide)) (wl_at (i := 27) rfl) rfl dX0_makeCell_87 ?_
  refine go_callV_i (pc := 90) vX0_40 rfl (cX2_free_1) rfl rfl (gz_b (by decide)) (wl_at (i := 2) rfl) rfl (Nat.le_of_ble_eq_true rfl) ⟨Nat.le_of_ble_eq_true rfl, Nat.le_of_ble_eq_true rfl, (Nat.le_add_right _ _), (Nat.le_add_right _ _)⟩ dX0_makeCell_90 ?_
  refine go_icmp_le_t (pc := 93) (tgt := 109) dX0_makeCell_93 (by decide) k2 ?_
  refine go_iload (pc := 109) dX0_makeCell_109 rfl ?_
  refine go_aload_n (pc := 111) dX0_makeCell_111 rfl rfl ?_
  refine go_get (pc := 112) fX0_21 rfl (gz_b (by decide)) (wl_at (i := 27) rfl) rfl dX0_makeCell_112 ?_
  refine go_callV_i (pc := 115) vX0_40 rfl (cX2_free_1) rfl rfl (gz_b (by decide)) (wl_at (i := 2) rfl) rfl (Nat.le_of_ble_eq_true rfl) ⟨Nat.le_of_ble_eq_true rfl, Nat.le_of_ble_eq_true rfl, (Nat.le_add_right _ _), (Nat.le_add_right _ _)⟩ dX0_makeCell_115 ?_
  refine go_icmp_le_t (pc := 118) (tgt := 124) dX0_makeCell_118 (by decide) k2 ?_
  refine go_aload_n (pc := 124) dX0_makeCell_124 rfl rfl ?_
  refine go_get (pc := 125) fX0_21 rfl (gz_b (by decide)) (wl_at (i := 27) rfl) rfl dX0_makeCell_125 ?_
  refine go_iload_n (pc := 128) dX0_makeCell_128 rfl rfl ?_
  refine go_iload_n (pc := 129) dX0_makeCell_129 rfl rfl ?_
  refine go_callV_i (pc := 130) vX0_55 rfl (cX2_addCell_6 j hj k0 k1 k4 k2) rfl rfl (gz_b (by decide)) (wl_at (i := 2) rfl) rfl (Nat.le_of_ble_eq_true rfl) ⟨Nat.le_of_ble_eq_true rfl, Nat.le_of_ble_eq_true rfl, (Nat.le_add_right _ _), (Nat.le_add_right _ _)⟩ dX0_makeCell_130 ?_
  refine go_istore (pc := 133) (lv' := [(5, .int 0), (4, .int (2 + (2 * (nI j)))), (3, .int (nI j)), (0, .ref (G.2.1 + 27)), (1, .int 5), (2, .int (nI j))]) dX0_makeCell_133 (by decide) rfl ?_
  refine go_aload_n (pc := 135) dX0_makeCell_135 rfl rfl ?_
  refine go_get (pc := 136) fX0_22 rfl (gz_b (by decide)) (wl_at (i := 27) rfl) rfl dX0_makeCell_136 ?_
  refine go_iload (pc := 139) dX0_makeCell_139 rfl ?_
  refine go_iconst (pc := 141) (v := 5) dX0_makeCell_141 (by decide) ?_
  refine go_iconst (pc := 142) (v := (-1)) dX0_makeCell_142 (by decide) ?_
  refine go_iconst (pc := 143) (v := (-1)) dX0_makeCell_143 (by decide) ?_
  refine go_callV_v (pc := 144) vX0_58 rfl (ct_mark_0 (a := G.2.1 + 23) (a0 := G.2.1 + 1) (a1 := G.2.1 + 2) (a2 := G.2.1 + 6) (a3 := G.2.1 + 22) (a4 := G.2.1 + 24) (a6 := G.2.1 + 25) (a7 := G.2.1 + 26) (g5 := 0) (g8 := 0) (u1 := 0) (u2 := 0) (u3 := 0) (p4 := G.2.1 + 7) (p5 := G.2.1 + 8) (p6 := G.2.1 + 9) (p7 := G.2.1 + 10) (p8 := G.2.1 + 11) (gz_b (by decide)) (gz_b (by decide)) (wl_at (i := 23) rfl) (wl_at (i := 6) rfl)) rfl rfl (gz_b (by decide)) (wl_at (i := 23) rfl) rfl (Nat.le_of_ble_eq_true rfl) ⟨Nat.le_of_ble_eq_true rfl, Nat.le_of_ble_eq_true rfl, (Nat.le_add_right _ _), (Nat.le_add_right _ _)⟩ dX0_makeCell_144 ?_
  refine go_iload (pc := 147) dX0_makeCell_147 rfl ?_
  exact go_iret (pc := 149) rfl dX0_makeCell_149
set_option maxRecDepth 100000 in
set_option maxHeartbeats 4000000 in
theorem cX9_findingIn_12 {l : Launch} {G : gG} (j : Nat) (hj : j ≤ 254) : Ct l G mX9_findingIn 0 0 [.int 0] 42 90324 (wl G.2.1 [ob 9 [.ref (G.2.1 + 1), .ref (G.2.1 + 23), .ref (G.2.1 + 27), .ref (G.2.1 + 28), .ref (G.2.1 + 22), .int 0, .int 0, .null, .int 0, .null, .int 0], ob 6 [.ref (G.2.1 + 2), .ref (G.2.1 + 6), .ref (G.2.1 + 12), .ref (G.2.1 + 14), .ref (G.2.1 + 17), .ref (G.2.1 + 20), .ref (G.2.1 + 21)], ob 2 [.int 256, .int (0 + (2 + (2 * (nI j)))), .int 1, .int 1, .ref (G.2.1 + 3), .ref (G.2.1 + 4), .ref (G.2.1 + 5)], ai G 256 (fun q => if 2 ≤ q ∧ q < 2 + j then (-1) else (upd (upd (fun _ => 0) (0 : Int32).toNatClampNeg 5) (1 : Int32).toNatClampNeg (nI j)) q), ai G 500 (upd (fun _ => (-1)) (0 : Int32).toNatClampNeg 0), ai G 500 (upd (fun _ => 0) (0 : Int32).toNatClampNeg 0), ob 3 [.int 0, .int 0, .int 0, .int 0, .ref (G.2.1 + 7), .ref (G.2.1 + 8), .ref (G.2.1 + 9), .ref (G.2.1 + 10), .ref (G.2.1 + 11)], ai G 500 (fun _ => 0), ai G 500 (fun _ => 0), ai G 500 (fun _ => 0), ai G 500 (fun _ => 0), ai G 500 (fun _ => 0), ob 8 [.int 0, .int 0, .int 0, .int 0, .int 0, .int 0, .ref (G.2.1 + 13)], ai G 300 (fun _ => 0), ob 4 [.int 0, .ref (G.2.1 + 15), .ref (G.2.1 + 16)], ai G 1295 (fun _ => 0), ai G 1295 (fun _ => 0), ob 5 [.int 0, .int 0, .int 0, .int 0, .ref (G.2.1 + 18), .ref (G.2.1 + 19)], ai G 200 (fun _ => 0), ai G 8 (fun _ => (-1)), ai G 24 (fun _ => (-1)), ai G 32 (fun _ => (-1)), ai G 14 (fun _ => 0), ob 7 [.ref (G.2.1 + 1), .ref (G.2.1 + 2), .ref (G.2.1 + 6), .ref (G.2.1 + 22), .ref (G.2.1 + 24), .int 0, .ref (G.2.1 + 25), .ref (G.2.1 + 26), .int 0], ai G 500 (fun _ => 0), ai G 500 (fun _ => 0), ai G 500 (fun _ => 0), ob 0 [.ref (G.2.1 + 1), .ref (G.2.1 + 2), .ref (G.2.1 + 23), .int 0], ob 1 [.ref (G.2.1 + 29), .int 0, .int 0, .ref (G.2.1 + 30), .ref (G.2.1 + 31)], ai G 0 (fun _ => 0), ai G 500 (fun _ => 0), ai G 501 (fun _ => 0), ob 10 [.ref (G.2.1 + 33), .ref (G.2.1 + 34), .ref (G.2.1 + 35), .int 0, .int 0, .int 0, .int 0, .int 0, .ref (G.2.1 + 36), .ref (G.2.1 + 37), .ref (G.2.1 + 38), .ref (G.2.1 + 39), .int 0, .ref (G.2.1 + 40), .int 0, .ref (G.2.1 + 41)], ai G 26100 (sx 256), ai G 26100 (fun _ => 0), ai G 26100 (fun _ => 0), ai G 14 (fun _ => 0), ai G 500 (fun _ => 0), ai G 500 (fun _ => 0), az G 500 (fun _ => 0), ai G 501 (fun _ => 0), ai G 500 (fun _ => 0)]) (some (.int 0), 42, 90324, (wl G.2.1 [ob 9 [.ref (G.2.1 + 1), .ref (G.2.1 + 23), .ref (G.2.1 + 27), .ref (G.2.1 + 28), .ref (G.2.1 + 22), .int 0, .int 0, .null, .int 0, .null, .int 0], ob 6 [.ref (G.2.1 + 2), .ref (G.2.1 + 6), .ref (G.2.1 + 12), .ref (G.2.1 + 14), .ref (G.2.1 + 17), .ref (G.2.1 + 20), .ref (G.2.1 + 21)], ob 2 [.int 256, .int (0 + (2 + (2 * (nI j)))), .int 1, .int 1, .ref (G.2.1 + 3), .ref (G.2.1 + 4), .ref (G.2.1 + 5)], ai G 256 (fun q => if 2 ≤ q ∧ q < 2 + j then (-1) else (upd (upd (fun _ => 0) (0 : Int32).toNatClampNeg 5) (1 : Int32).toNatClampNeg (nI j)) q), ai G 500 (upd (fun _ => (-1)) (0 : Int32).toNatClampNeg 0), ai G 500 (upd (fun _ => 0) (0 : Int32).toNatClampNeg 0), ob 3 [.int 0, .int 0, .int 0, .int 0, .ref (G.2.1 + 7), .ref (G.2.1 + 8), .ref (G.2.1 + 9), .ref (G.2.1 + 10), .ref (G.2.1 + 11)], ai G 500 (fun _ => 0), ai G 500 (fun _ => 0), ai G 500 (fun _ => 0), ai G 500 (fun _ => 0), ai G 500 (fun _ => 0), ob 8 [.int 0, .int 0, .int 0, .int 0, .int 0, .int 0, .ref (G.2.1 + 13)], ai G 300 (fun _ => 0), ob 4 [.int 0, .ref (G.2.1 + 15), .ref (G.2.1 + 16)], ai G 1295 (fun _ => 0), ai G 1295 (fun _ => 0), ob 5 [.int 0, .int 0, .int 0, .int 0, .ref (G.2.1 + 18), .ref (G.2.1 + 19)], ai G 200 (fun _ => 0), ai G 8 (fun _ => (-1)), ai G 24 (fun _ => (-1)), ai G 32 (fun _ => (-1)), ai G 14 (fun _ => 0), ob 7 [.ref (G.2.1 + 1), .ref (G.2.1 + 2), .ref (G.2.1 + 6), .ref (G.2.1 + 22), .ref (G.2.1 + 24), .int 0, .ref (G.2.1 + 25), .ref (G.2.1 + 26), .int 0], ai G 500 (fun _ => 0), ai G 500 (fun _ => 0), ai G 500 (fun _ => 0), ob 0 [.ref (G.2.1 + 1), .ref (G.2.1 + 2), .ref (G.2.1 + 23), .int 0], ob 1 [.ref (G.2.1 + 29), .int 0, .int 0, .ref (G.2.1 + 30), .ref (G.2.1 + 31)], ai G 0 (fun _ => 0), ai G 500 (fun _ => 0), ai G 501 (fun _ => 0), ob 10 [.ref (G.2.1 + 33), .ref (G.2.1 + 34), .ref (G.2.1 + 35), .int 0, .int 0, .int 0, .int 0, .int 0, .ref (G.2.1 + 36), .ref (G.2.1 + 37), .ref (G.2.1 + 38), .ref (G.2.1 + 39), .int 0, .ref (G.2.1 + 40), .int 0, .ref (G.2.1 + 41)], ai G 26100 (sx 256), ai G 26100 (fun _ => 0), ai G 26100 (fun _ => 0), ai G 14 (fun _ => 0), ai G 500 (fun _ => 0), ai G 500 (fun _ => 0), az G 500 (fun _ => 0), ai G 501 (fun _ => 0), ai G 500 (fun _ => 0)])) := by
  refine Ct.of (by decide) (Nat.le_of_ble_eq_true rfl) ⟨Nat.le_refl _, Nat.le_refl _⟩ ?_
  show Go l G mX9_findingIn _ 0 [(0, .int 0)] [] 42 90324 (wl G.2.1 [ob 9 [.ref (G.2.1 + 1), .ref (G.2.1 + 23), .ref (G.2.1 + 27), .ref (G.2.1 + 28), .ref (G.2.1 + 22), .int 0, .int 0, .null, .int 0, .null, .int 0], ob 6 [.ref (G.2.1 + 2), .ref (G.2.1 + 6), .ref (G.2.1 + 12), .ref (G.2.1 + 14), .ref (G.2.1 + 17), .ref (G.2.1 + 20), .ref (G.2.1 + 21)], ob 2 [.int 256, .int (0 + (2 + (2 * (nI j)))), .int 1, .int 1, .ref (G.2.1 + 3), .ref (G.2.1 + 4), .ref (G.2.1 + 5)], ai G 256 (fun q => if 2 ≤ q ∧ q < 2 + j then (-1) else (upd (upd (fun _ => 0) (0 : Int32).toNatClampNeg 5) (1 : Int32).toNatClampNeg (nI j)) q), ai G 500 (upd (fun _ => (-1)) (0 : Int32).toNatClampNeg 0), ai G 500 (upd (fun _ => 0) (0 : Int32).toNatClampNeg 0), ob 3 [.int 0, .int 0, .int 0, .int 0, .ref (G.2.1 + 7), .ref (G.2.1 + 8), .ref (G.2.1 + 9), .ref (G.2.1 + 10), .ref (G.2.1 + 11)], ai G 500 (fun _ => 0), ai G 500 (fun _ => 0), ai G 500 (fun _ => 0), ai G 500 (fun _ => 0), ai G 500 (fun _ => 0), ob 8 [.int 0, .int 0, .int 0, .int 0, .int 0, .int 0, .ref (G.2.1 + 13)], ai G 300 (fun _ => 0), ob 4 [.int 0, .ref (G.2.1 + 15), .ref (G.2.1 + 16)], ai G 1295 (fun _ => 0), ai G 1295 (fun _ => 0), ob 5 [.int 0, .int 0, .int 0, .int 0, .ref (G.2.1 + 18), .ref (G.2.1 + 19)], ai G 200 (fun _ => 0), ai G 8 (fun _ => (-1)), ai G 24 (fun _ => (-1)), ai G 32 (fun _ => (-1)), ai G 14 (fun _ => 0), ob 7 [.ref (G.2.1 + 1), .ref (G.2.1 + 2), .ref (G.2.1 + 6), .ref (G.2.1 + 22), .ref (G.2.1 + 24), .int 0, .ref (G.2.1 + 25), .ref (G.2.1 + 26), .int 0], ai G 500 (fun _ => 0), ai G 500 (fun _ => 0), ai G 500 (fun _ => 0), ob 0 [.ref (G.2.1 + 1), .ref (G.2.1 + 2), .ref (G.2.1 + 23), .int 0], ob 1 [.ref (G.2.1 + 29), .int 0, .int 0, .ref (G.2.1 + 30), .ref (G.2.1 + 31)], ai G 0 (fun _ => 0), ai G 500 (fun _ => 0), ai G 501 (fun _ => 0), ob 10 [.ref (G.2.1 + 33), .ref (G.2.1 + 34), .ref (G.2.1 + 35), .int 0, .int 0, .int 0, .int 0, .int 0, .ref (G.2.1 + 36), .ref (G.2.1 + 37), .ref (G.2.1 + 38), .ref (G.2.1 + 39), .int 0, .ref (G.2.1 + 40), .int 0, .ref (G.2.1 + 41)], ai G 26100 (sx 256), ai G 26100 (fun _ => 0), ai G 26100 (fun _ => 0), ai G 14 (fun _ => 0), ai G 500 (fun _ => 0), ai G 500 (fun _ => 0), az G 500 (fun _ => 0), ai G 501 (fun _ => 0), ai G 500 (fun _ => 0)])
  refine go_iload_n (pc := 0) dX9_findingIn_0 rfl rfl ?_
  refine go_bipush (pc := 1) (v := (-11)) dX9_findingIn_1 (by decide) ?_
  refine go_icmp_gt_t (pc := 3) (tgt := 19) dX9_findingIn_3 (by decide) (by decide) ?_
  refine go_iconst (pc := 19) (v := 0) dX9_findingIn_19 (by decide) ?_
  exact go_iret (pc := 20) rfl dX9_findingIn_20
set_option maxRecDepth 100000 in
set_option maxHeartbeats 4000000 in
theorem cX9_answer_12 {l : Launch} {G : gG} (j : Nat) (hj : j ≤ 254) : Ct l G mX9_answer 1 20 [.ref (G.2.1 + 0), .int 0] 42 90324 (wl G.2.1 [ob 9 [.ref (G.2.1 + 1), .ref (G.2.1 + 23), .ref (G.2.1 + 27), .ref (G.2.1 + 28), .ref (G.2.1 + 22), .int 0, .int 0, .null, .int 0, .null, .int 0], ob 6 [.ref (G.2.1 + 2), .ref (G.2.1 + 6), .ref (G.2.1 + 12), .ref (G.2.1 + 14), .ref (G.2.1 + 17), .ref (G.2.1 + 20), .ref (G.2.1 + 21)], ob 2 [.int 256, .int (0 + (2 + (2 * (nI j)))), .int 1, .int 1, .ref (G.2.1 + 3), .ref (G.2.1 + 4), .ref (G.2.1 + 5)], ai G 256 (fun q => if 2 ≤ q ∧ q < 2 + j then (-1) else (upd (upd (fun _ => 0) (0 : Int32).toNatClampNeg 5) (1 : Int32).toNatClampNeg (nI j)) q), ai G 500 (upd (fun _ => (-1)) (0 : Int32).toNatClampNeg 0), ai G 500 (upd (fun _ => 0) (0 : Int32).toNatClampNeg 0), ob 3 [.int 0, .int 0, .int 0, .int 0, .ref (G.2.1 + 7), .ref (G.2.1 + 8), .ref (G.2.1 + 9), .ref (G.2.1 + 10), .ref (G.2.1 + 11)], ai G 500 (fun _ => 0), ai G 500 (fun _ => 0), ai G 500 (fun _ => 0), ai G 500 (fun _ => 0), ai G 500 (fun _ => 0), ob 8 [.int 0, .int 0, .int 0, .int 0, .int 0, .int 0, .ref (G.2.1 + 13)], ai G 300 (fun _ => 0), ob 4 [.int 0, .ref (G.2.1 + 15), .ref (G.2.1 + 16)], ai G 1295 (fun _ => 0), ai G 1295 (fun _ => 0), ob 5 [.int 0, .int 0, .int 0, .int 0, .ref (G.2.1 + 18), .ref (G.2.1 + 19)], ai G 200 (fun _ => 0), ai G 8 (fun _ => (-1)), ai G 24 (fun _ => (-1)), ai G 32 (fun _ => (-1)), ai G 14 (fun _ => 0), ob 7 [.ref (G.2.1 + 1), .ref (G.2.1 + 2), .ref (G.2.1 + 6), .ref (G.2.1 + 22), .ref (G.2.1 + 24), .int 0, .ref (G.2.1 + 25), .ref (G.2.1 + 26), .int 0], ai G 500 (fun _ => 0), ai G 500 (fun _ => 0), ai G 500 (fun _ => 0), ob 0 [.ref (G.2.1 + 1), .ref (G.2.1 + 2), .ref (G.2.1 + 23), .int 0], ob 1 [.ref (G.2.1 + 29), .int 0, .int 0, .ref (G.2.1 + 30), .ref (G.2.1 + 31)], ai G 0 (fun _ => 0), ai G 500 (fun _ => 0), ai G 501 (fun _ => 0), ob 10 [.ref (G.2.1 + 33), .ref (G.2.1 + 34), .ref (G.2.1 + 35), .int 0, .int 0, .int 0, .int 0, .int 0, .ref (G.2.1 + 36), .ref (G.2.1 + 37), .ref (G.2.1 + 38), .ref (G.2.1 + 39), .int 0, .ref (G.2.1 + 40), .int 0, .ref (G.2.1 + 41)], ai G 26100 (sx 256), ai G 26100 (fun _ => 0), ai G 26100 (fun _ => 0), ai G 14 (fun _ => 0), ai G 500 (fun _ => 0), ai G 500 (fun _ => 0), az G 500 (fun _ => 0), ai G 501 (fun _ => 0), ai G 500 (fun _ => 0)]) (some (.int 0), 42, 90324, (wl G.2.1 [ob 9 [.ref (G.2.1 + 1), .ref (G.2.1 + 23), .ref (G.2.1 + 27), .ref (G.2.1 + 28), .ref (G.2.1 + 22), .int 0, .int 0, .null, .int 0, .null, .int 0], ob 6 [.ref (G.2.1 + 2), .ref (G.2.1 + 6), .ref (G.2.1 + 12), .ref (G.2.1 + 14), .ref (G.2.1 + 17), .ref (G.2.1 + 20), .ref (G.2.1 + 21)], ob 2 [.int 256, .int (0 + (2 + (2 * (nI j)))), .int 1, .int 1, .ref (G.2.1 + 3), .ref (G.2.1 + 4), .ref (G.2.1 + 5)], ai G 256 (fun q => if 2 ≤ q ∧ q < 2 + j then (-1) else (upd (upd (fun _ => 0) (0 : Int32).toNatClampNeg 5) (1 : Int32).toNatClampNeg (nI j)) q), ai G 500 (upd (fun _ => (-1)) (0 : Int32).toNatClampNeg 0), ai G 500 (upd (fun _ => 0) (0 : Int32).toNatClampNeg 0), ob 3 [.int 0, .int 0, .int 0, .int 0, .ref (G.2.1 + 7), .ref (G.2.1 + 8), .ref (G.2.1 + 9), .ref (G.2.1 + 10), .ref (G.2.1 + 11)], ai G 500 (fun _ => 0), ai G 500 (fun _ => 0), ai G 500 (fun _ => 0), ai G 500 (fun _ => 0), ai G 500 (fun _ => 0), ob 8 [.int 0, .int 0, .int 0, .int 0, .int 0, .int 0, .ref (G.2.1 + 13)], ai G 300 (fun _ => 0), ob 4 [.int 0, .ref (G.2.1 + 15), .ref (G.2.1 + 16)], ai G 1295 (fun _ => 0), ai G 1295 (fun _ => 0), ob 5 [.int 0, .int 0, .int 0, .int 0, .ref (G.2.1 + 18), .ref (G.2.1 + 19)], ai G 200 (fun _ => 0), ai G 8 (fun _ => (-1)), ai G 24 (fun _ => (-1)), ai G 32 (fun _ => (-1)), ai G 14 (fun _ => 0), ob 7 [.ref (G.2.1 + 1), .ref (G.2.1 + 2), .ref (G.2.1 + 6), .ref (G.2.1 + 22), .ref (G.2.1 + 24), .int 0, .ref (G.2.1 + 25), .ref (G.2.1 + 26), .int 0], ai G 500 (fun _ => 0), ai G 500 (fun _ => 0), ai G 500 (fun _ => 0), ob 0 [.ref (G.2.1 + 1), .ref (G.2.1 + 2), .ref (G.2.1 + 23), .int 0], ob 1 [.ref (G.2.1 + 29), .int 0, .int 0, .ref (G.2.1 + 30), .ref (G.2.1 + 31)], ai G 0 (fun _ => 0), ai G 500 (fun _ => 0), ai G 501 (fun _ => 0), ob 10 [.ref (G.2.1 + 33), .ref (G.2.1 + 34), .ref (G.2.1 + 35), .int 0, .int 0, .int 0, .int 0, .int 0, .ref (G.2.1 + 36), .ref (G.2.1 + 37), .ref (G.2.1 + 38), .ref (G.2.1 + 39), .int 0, .ref (G.2.1 + 40), .int 0, .ref (G.2.1 + 41)], ai G 26100 (sx 256), ai G 26100 (fun _ => 0), ai G 26100 (fun _ => 0), ai G 14 (fun _ => 0), ai G 500 (fun _ => 0), ai G 500 (fun _ => 0), az G 500 (fun _ => 0), ai G 501 (fun _ => 0), ai G 500 (fun _ => 0)])) := by
  refine Ct.of (by decide) (Nat.le_of_ble_eq_true rfl) ⟨Nat.le_refl _, Nat.le_refl _⟩ ?_
  show Go l G mX9_answer _ 0 [(0, .ref (G.2.1 + 0)), (1, .int 0)] [] 42 90324 (wl G.2.1 [ob 9 [.ref (G.2.1 + 1), .ref (G.2.1 + 23), .ref (G.2.1 + 27), .ref (G.2.1 + 28), .ref (G.2.1 + 22), .int 0, .int 0, .null, .int 0, .null, .int 0], ob 6 [.ref (G.2.1 + 2), .ref (G.2.1 + 6), .ref (G.2.1 + 12), .ref (G.2.1 + 14), .ref (G.2.1 + 17), .ref (G.2.1 + 20), .ref (G.2.1 + 21)], ob 2 [.int 256, .int (0 + (2 + (2 * (nI j)))), .int 1, .int 1, .ref (G.2.1 + 3), .ref (G.2.1 + 4), .ref (G.2.1 + 5)], ai G 256 (fun q => if 2 ≤ q ∧ q < 2 + j then (-1) else (upd (upd (fun _ => 0) (0 : Int32).toNatClampNeg 5) (1 : Int32).toNatClampNeg (nI j)) q), ai G 500 (upd (fun _ => (-1)) (0 : Int32).toNatClampNeg 0), ai G 500 (upd (fun _ => 0) (0 : Int32).toNatClampNeg 0), ob 3 [.int 0, .int 0, .int 0, .int 0, .ref (G.2.1 + 7), .ref (G.2.1 + 8), .ref (G.2.1 + 9), .ref (G.2.1 + 10), .ref (G.2.1 + 11)], ai G 500 (fun _ => 0), ai G 500 (fun _ => 0), ai G 500 (fun _ => 0), ai G 500 (fun _ => 0), ai G 500 (fun _ => 0), ob 8 [.int 0, .int 0, .int 0, .int 0, .int 0, .int 0, .ref (G.2.1 + 13)], ai G 300 (fun _ => 0), ob 4 [.int 0, .ref (G.2.1 + 15), .ref (G.2.1 + 16)], ai G 1295 (fun _ => 0), ai G 1295 (fun _ => 0), ob 5 [.int 0, .int 0, .int 0, .int 0, .ref (G.2.1 + 18), .ref (G.2.1 + 19)], ai G 200 (fun _ => 0), ai G 8 (fun _ => (-1)), ai G 24 (fun _ => (-1)), ai G 32 (fun _ => (-1)), ai G 14 (fun _ => 0), ob 7 [.ref (G.2.1 + 1), .ref (G.2.1 + 2), .ref (G.2.1 + 6), .ref (G.2.1 + 22), .ref (G.2.1 + 24), .int 0, .ref (G.2.1 + 25), .ref (G.2.1 + 26), .int 0], ai G 500 (fun _ => 0), ai G 500 (fun _ => 0), ai G 500 (fun _ => 0), ob 0 [.ref (G.2.1 + 1), .ref (G.2.1 + 2), .ref (G.2.1 + 23), .int 0], ob 1 [.ref (G.2.1 + 29), .int 0, .int 0, .ref (G.2.1 + 30), .ref (G.2.1 + 31)], ai G 0 (fun _ => 0), ai G 500 (fun _ => 0), ai G 501 (fun _ => 0), ob 10 [.ref (G.2.1 + 33), .ref (G.2.1 + 34), .ref (G.2.1 + 35), .int 0, .int 0, .int 0, .int 0, .int 0, .ref (G.2.1 + 36), .ref (G.2.1 + 37), .ref (G.2.1 + 38), .ref (G.2.1 + 39), .int 0, .ref (G.2.1 + 40), .int 0, .ref (G.2.1 + 41)], ai G 26100 (sx 256), ai G 26100 (fun _ => 0), ai G 26100 (fun _ => 0), ai G 14 (fun _ => 0), ai G 500 (fun _ => 0), ai G 500 (fun _ => 0), az G 500 (fun _ => 0), ai G 501 (fun _ => 0), ai G 500 (fun _ => 0)])
  refine go_aload_n (pc := 0) dX9_answer_0 rfl rfl ?_
  refine go_iload_n (pc := 1) dX9_answer_1 rfl rfl ?_
  refine go_callS_i (pc := 2) sX9_302 rfl (cX9_findingIn_12 j hj) rfl rfl (Nat.le_of_ble_eq_true rfl) ⟨Nat.le_of_ble_eq_true rfl, Nat.le_of_ble_eq_true rfl, (Nat.le_add_right _ _), (Nat.le_add_right _ _)⟩ dX9_answer_2 ?_
  refine go_put (pc := 5) fX9_53 rfl (gz_b (by decide)) (wl_at (i := 0) rfl) (Nat.le_of_ble_eq_true rfl) rfl rfl dX9_answer_5 ?_
  refine go_ext (wl_up (i := 0) rfl rfl) ?_
  refine go_iload_n (pc := 8) dX9_answer_8 rfl rfl ?_
  refine go_w (show _ = wl G.2.1 [ob 9 [.ref (G.2.1 + 1), .ref (G.2.1 + 23), .ref (G.2.1 + 27), .ref (G.2.1 + 28), .ref (G.2.1 + 22), .int 0, .int 0, .null, .int 0, .null, .int 0], ob 6 [.ref (G.2.1 + 2), .ref (G.2.1 + 6), .ref (G.2.1 + 12), .ref (G.2.1 + 14), .ref (G.2.1 + 17), .ref (G.2.1 + 20), .ref (G.2.1 + 21)], ob 2 [.int 256, .int (0 + (2 + (2 * (nI j)))), .int 1, .int 1, .ref (G.2.1 + 3), .ref (G.2.1 + 4), .ref (G.2.1 + 5)], ai G 256 (fun q => if 2 ≤ q ∧ q < 2 + j then (-1) else (upd (upd (fun _ => 0) (0 : Int32).toNatClampNeg 5) (1 : Int32).toNatClampNeg (nI j)) q), ai G 500 (upd (fun _ => (-1)) (0 : Int32).toNatClampNeg 0), ai G 500 (upd (fun _ => 0) (0 : Int32).toNatClampNeg 0), ob 3 [.int 0, .int 0, .int 0, .int 0, .ref (G.2.1 + 7), .ref (G.2.1 + 8), .ref (G.2.1 + 9), .ref (G.2.1 + 10), .ref (G.2.1 + 11)], ai G 500 (fun _ => 0), ai G 500 (fun _ => 0), ai G 500 (fun _ => 0), ai G 500 (fun _ => 0), ai G 500 (fun _ => 0), ob 8 [.int 0, .int 0, .int 0, .int 0, .int 0, .int 0, .ref (G.2.1 + 13)], ai G 300 (fun _ => 0), ob 4 [.int 0, .ref (G.2.1 + 15), .ref (G.2.1 + 16)], ai G 1295 (fun _ => 0), ai G 1295 (fun _ => 0), ob 5 [.int 0, .int 0, .int 0, .int 0, .ref (G.2.1 + 18), .ref (G.2.1 + 19)], ai G 200 (fun _ => 0), ai G 8 (fun _ => (-1)), ai G 24 (fun _ => (-1)), ai G 32 (fun _ => (-1)), ai G 14 (fun _ => 0), ob 7 [.ref (G.2.1 + 1), .ref (G.2.1 + 2), .ref (G.2.1 + 6), .ref (G.2.1 + 22), .ref (G.2.1 + 24), .int 0, .ref (G.2.1 + 25), .ref (G.2.1 + 26), .int 0], ai G 500 (fun _ => 0), ai G 500 (fun _ => 0), ai G 500 (fun _ => 0), ob 0 [.ref (G.2.1 + 1), .ref (G.2.1 + 2), .ref (G.2.1 + 23), .int 0], ob 1 [.ref (G.2.1 + 29), .int 0, .int 0, .ref (G.2.1 + 30), .ref (G.2.1 + 31)], ai G 0 (fun _ => 0), ai G 500 (fun _ => 0), ai G 501 (fun _ => 0), ob 10 [.ref (G.2.1 + 33), .ref (G.2.1 + 34), .ref (G.2.1 + 35), .int 0, .int 0, .int 0, .int 0, .int 0, .ref (G.2.1 + 36), .ref (G.2.1 + 37), .ref (G.2.1 + 38), .ref (G.2.1 + 39), .int 0, .ref (G.2.1 + 40), .int 0, .ref (G.2.1 + 41)], ai G 26100 (sx 256), ai G 26100 (fun _ => 0), ai G 26100 (fun _ => 0), ai G 14 (fun _ => 0), ai G 500 (fun _ => 0), ai G 500 (fun _ => 0), az G 500 (fun _ => 0), ai G 501 (fun _ => 0), ai G 500 (fun _ => 0)] from rfl) ?_
  exact go_iret (pc := 9) rfl dX9_answer_9
set_option maxRecDepth 100000 in
set_option maxHeartbeats 4000000 in
theorem cx_make_5d_o {l : Launch} {G : gG} (j : Nat) (hj : j ≤ 254) (k0 : nI j ≤ 300) (k1 : 0 ≤ nI j) (k4 : ¬ nI j < 0) (k2 : 2 + (2 * (nI j)) ≤ 256) : Ct l G mX9_make 4 94 [.ref (G.2.1 + 0), .int 5, .int (nI j)] 42 90324 (wl G.2.1 (LF G)) (some (.int 0), 42, 90324, (wl G.2.1 [ob 9 [.ref (G.2.1 + 1), .ref (G.2.1 + 23), .ref (G.2.1 + 27), .ref (G.2.1 + 28), .ref (G.2.1 + 22), .int 0, .int 0, .null, .int 0, .null, .int 0], ob 6 [.ref (G.2.1 + 2), .ref (G.2.1 + 6), .ref (G.2.1 + 12), .ref (G.2.1 + 14), .ref (G.2.1 + 17), .ref (G.2.1 + 20), .ref (G.2.1 + 21)], ob 2 [.int 256, .int (0 + (2 + (2 * (nI j)))), .int 1, .int 1, .ref (G.2.1 + 3), .ref (G.2.1 + 4), .ref (G.2.1 + 5)], ai G 256 (fun q => if 2 ≤ q ∧ q < 2 + j then (-1) else (upd (upd (fun _ => 0) (0 : Int32).toNatClampNeg 5) (1 : Int32).toNatClampNeg (nI j)) q), ai G 500 (upd (fun _ => (-1)) (0 : Int32).toNatClampNeg 0), ai G 500 (upd (fun _ => 0) (0 : Int32).toNatClampNeg 0), ob 3 [.int 0, .int 0, .int 0, .int 0, .ref (G.2.1 + 7), .ref (G.2.1 + 8), .ref (G.2.1 + 9), .ref (G.2.1 + 10), .ref (G.2.1 + 11)], ai G 500 (fun _ => 0), ai G 500 (fun _ => 0), ai G 500 (fun _ => 0), ai G 500 (fun _ => 0), ai G 500 (fun _ => 0), ob 8 [.int 0, .int 0, .int 0, .int 0, .int 0, .int 0, .ref (G.2.1 + 13)], ai G 300 (fun _ => 0), ob 4 [.int 0, .ref (G.2.1 + 15), .ref (G.2.1 + 16)], ai G 1295 (fun _ => 0), ai G 1295 (fun _ => 0), ob 5 [.int 0, .int 0, .int 0, .int 0, .ref (G.2.1 + 18), .ref (G.2.1 + 19)], ai G 200 (fun _ => 0), ai G 8 (fun _ => (-1)), ai G 24 (fun _ => (-1)), ai G 32 (fun _ => (-1)), ai G 14 (fun _ => 0), ob 7 [.ref (G.2.1 + 1), .ref (G.2.1 + 2), .ref (G.2.1 + 6), .ref (G.2.1 + 22), .ref (G.2.1 + 24), .int 0, .ref (G.2.1 + 25), .ref (G.2.1 + 26), .int 0], ai G 500 (fun _ => 0), ai G 500 (fun _ => 0), ai G 500 (fun _ => 0), ob 0 [.ref (G.2.1 + 1), .ref (G.2.1 + 2), .ref (G.2.1 + 23), .int 0], ob 1 [.ref (G.2.1 + 29), .int 0, .int 0, .ref (G.2.1 + 30), .ref (G.2.1 + 31)], ai G 0 (fun _ => 0), ai G 500 (fun _ => 0), ai G 501 (fun _ => 0), ob 10 [.ref (G.2.1 + 33), .ref (G.2.1 + 34), .ref (G.2.1 + 35), .int 0, .int 0, .int 0, .int 0, .int 0, .ref (G.2.1 + 36), .ref (G.2.1 + 37), .ref (G.2.1 + 38), .ref (G.2.1 + 39), .int 0, .ref (G.2.1 + 40), .int 0, .ref (G.2.1 + 41)], ai G 26100 (sx 256), ai G 26100 (fun _ => 0), ai G 26100 (fun _ => 0), ai G 14 (fun _ => 0), ai G 500 (fun _ => 0), ai G 500 (fun _ => 0), az G 500 (fun _ => 0), ai G 501 (fun _ => 0), ai G 500 (fun _ => 0)])) := by
  refine Ct.of (by decide) (Nat.le_of_ble_eq_true rfl) ⟨Nat.le_refl _, Nat.le_refl _⟩ ?_
  show Go l G mX9_make _ 0 [(0, .ref (G.2.1 + 0)), (1, .int 5), (2, .int (nI j))] [] 42 90324 (wl G.2.1 (LF G))
  refine go_iload_n (pc := 0) dX9_make_0 rfl rfl ?_
  refine go_iload_n (pc := 1) dX9_make_1 rfl rfl ?_
  refine go_callS_i (pc := 2) sX9_66 rfl (cX9_isOutsideOfMaking_18 j hj k0 k1 k4 k2) rfl rfl (Nat.le_of_ble_eq_true rfl) ⟨Nat.le_of_ble_eq_true rfl, Nat.le_of_ble_eq_true rfl, (Nat.le_add_right _ _), (Nat.le_add_right _ _)⟩ dX9_make_2 ?_
  refine go_if_eq_t (pc := 5) (tgt := 11) dX9_make_5 (by decide) (by decide) ?_
  refine go_aload_n (pc := 11) dX9_make_11 rfl rfl ?_
  refine go_aload_n (pc := 12) dX9_make_12 rfl rfl ?_
  refine go_get (pc := 13) fX9_34 rfl (gz_b (by decide)) (wl_at (i := 0) rfl) rfl dX9_make_13 ?_
  refine go_iload_n (pc := 16) dX9_make_16 rfl rfl ?_
  refine go_iload_n (pc := 17) dX9_make_17 rfl rfl ?_
  refine go_callV_i (pc := 18) vX9_70 rfl (cX0_makeCell_12 j hj k0 k1 k4 k2) rfl rfl (gz_b (by decide)) (wl_at (i := 27) rfl) rfl (Nat.le_of_ble_eq_true rfl) ⟨Nat.le_of_ble_eq_true rfl, Nat.le_of_ble_eq_true rfl, (Nat.le_add_right _ _), (Nat.le_add_right _ _)⟩ dX9_make_18 ?_
  refine go_callV_i (pc := 21) vX9_74 rfl (cX9_answer_12 j hj) rfl rfl (gz_b (by decide)) (wl_at (i := 0) rfl) rfl (Nat.le_of_ble_eq_true rfl) ⟨Nat.le_of_ble_eq_true rfl, Nat.le_of_ble_eq_true rfl, (Nat.le_add_right _ _), (Nat.le_add_right _ _)⟩ dX9_make_21 ?_
  exact go_iret (pc := 24) rfl dX9_make_24
theorem cx_make_5d {l : Launch} {G : gG} (j : Nat) (hj : j ≤ 254) (k0 : nI j ≤ 300) (k1 : 0 ≤ nI j) (k4 : ¬ nI j < 0) (k2 : 2 + (2 * (nI j)) ≤ 256) : CX l G mX9_make [.ref (G.2.1 + 0), .int 5, .int (nI j)] 0 := by
  exact ⟨4, 94, 42, 90324, _, by decide, by decide, by decide, by decide, by decide, (by exact wl_frame rfl), cx_make_5d_o j hj k0 k1 k4 k2⟩

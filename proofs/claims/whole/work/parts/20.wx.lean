/-! what each method asks for to end in Q, and that it is enough: by wip/tools/wgen.py -/
def wX2_freeFrom (l1 : Int32) (c : gMem) (Q : gMem → Prop) : Prop :=
  ∀ v1, v1 = c 2 1 →
  ∃ f3 t4 : Nat, l1 = nI f3 ∧ v1 = nI t4 ∧ f3 ≤ t4 ∧ t4 ≤ 4000 ∧
  ∀ c2, c2 = mr c 3 (fun j => if f3 ≤ j ∧ j < t4 then 0 else c 3 j) →
  ∀ c6, c6 = mp c2 2 1 l1 →
  Q c6
set_option maxRecDepth 100000 in
set_option maxHeartbeats 4000000 in
theorem tX2_freeFrom {l : Launch} {G : gG} {k : Nat} {o : gMem} {Q : gMem → Prop} {l1 : Int32} {c : gMem} (h : wX2_freeFrom l1 c Q) : Cq l G mX2_freeFrom 2 46 [.ref (G.2.1 + 2), .int l1] 84 k (wX G o c) (qv (wX G o) Q) := by
  refine Cq.of (by decide) (Nat.le_of_ble_eq_true rfl) ?_
  show Go l G mX2_freeFrom (gbq G 2 46 84 k (qv (wX G o) Q)) 0 [(0, .ref (G.2.1 + 2)), (1, .int l1)] [] 84 k (wX G o c)
  unfold wX2_freeFrom at h
  refine go_aload_n (pc := 0) dX2_freeFrom_0 rfl rfl ?_
  refine go_get (pc := 1) fX2_9 rfl (gz_b (by decide)) xw2 rfl dX2_freeFrom_1 ?_
  refine go_iload_n (pc := 4) dX2_freeFrom_4 rfl rfl ?_
  refine go_aload_n (pc := 5) dX2_freeFrom_5 rfl rfl ?_
  refine gb_get (pc := 6) fX2_41 rfl (gz_b (by decide)) xw2 rfl dX2_freeFrom_6 (fun v1 ev1 => ?_)
  have h := h v1 ev1
  refine go_iconst (pc := 9) (v := 0) dX2_freeFrom_9 (by decide) ?_
  obtain ⟨f3, t4, u5a, u5b, u5c, u5d, h⟩ := h
  refine gq_callS_v (pc := 10) (F := wX G o) (Q := fun q => q = mr c 3 (fun j => if f3 ≤ j ∧ j < t4 then 0 else c 3 j)) sX2_44 rfl (cq_fillr (by decide) u5a u5b u5c u5d (gz_b (by decide)) xw3 xa3 rfl) rfl rfl (Nat.le_of_ble_eq_true rfl) ⟨Nat.le_of_ble_eq_true rfl, Nat.le_of_ble_eq_true rfl, Nat.le_add_right _ _, Nat.le_add_right _ _⟩ dX2_freeFrom_10 (fun c2 ec2 => ?_)
  have h := h c2 ec2
  refine go_aload_n (pc := 13) dX2_freeFrom_13 rfl rfl ?_
  refine go_iload_n (pc := 14) dX2_freeFrom_14 rfl rfl ?_
  refine gb_put (pc := 15) (F := wX G o) fX2_41 rfl (gz_b (by decide)) xw2 (Nat.le_of_ble_eq_true rfl) rfl rfl xp2_1 dX2_freeFrom_15 (fun c6 ec6 => ?_)
  have h := h c6 ec6
  exact gq_vret (pc := 18) (F := wX G o) rfl dX2_freeFrom_18 h
def wX2_empty (l1 : Int32) (c : gMem) (Q : gMem → Prop) : Prop :=
  wX2_freeFrom 0 c (fun c1 =>
  ∀ c2, c2 = mp c1 2 0 l1 →
  ∀ c3, c3 = mp c2 2 2 0 →
  ∀ c4, c4 = mp c3 2 3 0 →
  ∀ c5, c5 = mr c4 4 (fun _ => (-1)) →
  ∀ c6, c6 = mr c5 5 (fun _ => 0) →
  Q c6)
set_option maxRecDepth 100000 in
set_option maxHeartbeats 4000000 in
theorem tX2_empty {l : Launch} {G : gG} {k : Nat} {o : gMem} {Q : gMem → Prop} {l1 : Int32} {c : gMem} (h : wX2_empty l1 c Q) : Cq l G mX2_empty 3 67 [.ref (G.2.1 + 2), .int l1] 84 k (wX G o c) (qv (wX G o) Q) := by
  refine Cq.of (by decide) (Nat.le_of_ble_eq_true rfl) ?_
  show Go l G mX2_empty (gbq G 3 67 84 k (qv (wX G o) Q)) 0 [(0, .ref (G.2.1 + 2)), (1, .int l1)] [] 84 k (wX G o c)
  unfold wX2_empty at h
  refine go_aload_n (pc := 0) dX2_empty_0 rfl rfl ?_
  refine go_iconst (pc := 1) (v := 0) dX2_empty_1 (by decide) ?_
  refine gq_callV_v (pc := 2) (F := wX G o) vX2_21 rfl (tX2_freeFrom h) rfl rfl (gz_b (by decide)) xw2 rfl (Nat.le_of_ble_eq_true rfl) ⟨Nat.le_of_ble_eq_true rfl, Nat.le_of_ble_eq_true rfl, Nat.le_add_right _ _, Nat.le_add_right _ _⟩ dX2_empty_2 (fun c1 h => ?_)
  refine go_aload_n (pc := 5) dX2_empty_5 rfl rfl ?_
  refine go_iload_n (pc := 6) dX2_empty_6 rfl rfl ?_
  refine gb_put (pc := 7) (F := wX G o) fX2_25 rfl (gz_b (by decide)) xw2 (Nat.le_of_ble_eq_true rfl) rfl rfl xp2_0 dX2_empty_7 (fun c2 ec2 => ?_)
  have h := h c2 ec2
  refine go_aload_n (pc := 10) dX2_empty_10 rfl rfl ?_
  refine go_iconst (pc := 11) (v := 0) dX2_empty_11 (by decide) ?_
  refine gb_put (pc := 12) (F := wX G o) fX2_29 rfl (gz_b (by decide)) xw2 (Nat.le_of_ble_eq_true rfl) rfl rfl xp2_2 dX2_empty_12 (fun c3 ec3 => ?_)
  have h := h c3 ec3
  refine go_aload_n (pc := 15) dX2_empty_15 rfl rfl ?_
  refine go_iconst (pc := 16) (v := 0) dX2_empty_16 (by decide) ?_
  refine gb_put (pc := 17) (F := wX G o) fX2_32 rfl (gz_b (by decide)) xw2 (Nat.le_of_ble_eq_true rfl) rfl rfl xp2_3 dX2_empty_17 (fun c4 ec4 => ?_)
  have h := h c4 ec4
  refine go_aload_n (pc := 20) dX2_empty_20 rfl rfl ?_
  refine go_get (pc := 21) fX2_15 rfl (gz_b (by decide)) xw2 rfl dX2_empty_21 ?_
  refine go_iconst (pc := 24) (v := (-1)) dX2_empty_24 (by decide) ?_
  refine gq_callS_v (pc := 25) (F := wX G o) (Q := fun q => q = mr c4 4 (fun _ => (-1))) sX2_35 rfl (cq_fill (by decide) (gz_b (by decide)) xw4 xa4 rfl) rfl rfl (Nat.le_of_ble_eq_true rfl) ⟨Nat.le_of_ble_eq_true rfl, Nat.le_of_ble_eq_true rfl, Nat.le_add_right _ _, Nat.le_add_right _ _⟩ dX2_empty_25 (fun c5 ec5 => ?_)
  have h := h c5 ec5
  refine go_aload_n (pc := 28) dX2_empty_28 rfl rfl ?_
  refine go_get (pc := 29) fX2_18 rfl (gz_b (by decide)) xw2 rfl dX2_empty_29 ?_
  refine go_iconst (pc := 32) (v := 0) dX2_empty_32 (by decide) ?_
  refine gq_callS_v (pc := 33) (F := wX G o) (Q := fun q => q = mr c5 5 (fun _ => 0)) sX2_35 rfl (cq_fill (by decide) (gz_b (by decide)) xw5 xa5 rfl) rfl rfl (Nat.le_of_ble_eq_true rfl) ⟨Nat.le_of_ble_eq_true rfl, Nat.le_of_ble_eq_true rfl, Nat.le_add_right _ _, Nat.le_add_right _ _⟩ dX2_empty_33 (fun c6 ec6 => ?_)
  have h := h c6 ec6
  exact gq_vret (pc := 36) (F := wX G o) rfl dX2_empty_36 h
def wX3_wipe (c : gMem) (Q : gMem → Prop) : Prop :=
  ∀ c1, c1 = mp c 6 0 0 →
  ∀ c2, c2 = mp c1 6 1 0 →
  ∀ c3, c3 = mp c2 6 2 0 →
  ∀ c4, c4 = mp c3 6 3 0 →
  ∀ c5, c5 = mr c4 8 (fun _ => 0) →
  Q c5
set_option maxRecDepth 100000 in
set_option maxHeartbeats 4000000 in
theorem tX3_wipe {l : Launch} {G : gG} {k : Nat} {o : gMem} {Q : gMem → Prop} {c : gMem} (h : wX3_wipe c Q) : Cq l G mX3_wipe 1 23 [.ref (G.2.1 + 6)] 84 k (wX G o c) (qv (wX G o) Q) := by
  refine Cq.of (by decide) (Nat.le_of_ble_eq_true rfl) ?_
  show Go l G mX3_wipe (gbq G 1 23 84 k (qv (wX G o) Q)) 0 [(0, .ref (G.2.1 + 6))] [] 84 k (wX G o c)
  unfold wX3_wipe at h
  refine go_aload_n (pc := 0) dX3_wipe_0 rfl rfl ?_
  refine go_iconst (pc := 1) (v := 0) dX3_wipe_1 (by decide) ?_
  refine gb_put (pc := 2) (F := wX G o) fX3_27 rfl (gz_b (by decide)) xw6 (Nat.le_of_ble_eq_true rfl) rfl rfl xp6_0 dX3_wipe_2 (fun c1 ec1 => ?_)
  have h := h c1 ec1
  refine go_aload_n (pc := 5) dX3_wipe_5 rfl rfl ?_
  refine go_iconst (pc := 6) (v := 0) dX3_wipe_6 (by decide) ?_
  refine gb_put (pc := 7) (F := wX G o) fX3_31 rfl (gz_b (by decide)) xw6 (Nat.le_of_ble_eq_true rfl) rfl rfl xp6_1 dX3_wipe_7 (fun c2 ec2 => ?_)
  have h := h c2 ec2
  refine go_aload_n (pc := 10) dX3_wipe_10 rfl rfl ?_
  refine go_iconst (pc := 11) (v := 0) dX3_wipe_11 (by decide) ?_
  refine gb_put (pc := 12) (F := wX G o) fX3_35 rfl (gz_b (by decide)) xw6 (Nat.le_of_ble_eq_true rfl) rfl rfl xp6_2 dX3_wipe_12 (fun c3 ec3 => ?_)
  have h := h c3 ec3
  refine go_aload_n (pc := 15) dX3_wipe_15 rfl rfl ?_
  refine go_iconst (pc := 16) (v := 0) dX3_wipe_16 (by decide) ?_
  refine gb_put (pc := 17) (F := wX G o) fX3_38 rfl (gz_b (by decide)) xw6 (Nat.le_of_ble_eq_true rfl) rfl rfl xp6_3 dX3_wipe_17 (fun c4 ec4 => ?_)
  have h := h c4 ec4
  refine go_aload_n (pc := 20) dX3_wipe_20 rfl rfl ?_
  refine go_get (pc := 21) fX3_15 rfl (gz_b (by decide)) xw6 rfl dX3_wipe_21 ?_
  refine go_iconst (pc := 24) (v := 0) dX3_wipe_24 (by decide) ?_
  refine gq_callS_v (pc := 25) (F := wX G o) (Q := fun q => q = mr c4 8 (fun _ => 0)) sX3_41 rfl (cq_fill (by decide) (gz_b (by decide)) xw8 xa8 rfl) rfl rfl (Nat.le_of_ble_eq_true rfl) ⟨Nat.le_of_ble_eq_true rfl, Nat.le_of_ble_eq_true rfl, Nat.le_add_right _ _, Nat.le_add_right _ _⟩ dX3_wipe_25 (fun c5 ec5 => ?_)
  have h := h c5 ec5
  exact gq_vret (pc := 28) (F := wX G o) rfl dX3_wipe_28 h
def wX8_empty (c : gMem) (Q : gMem → Prop) : Prop :=
  ∀ c1, c1 = mp c 12 0 0 →
  ∀ c2, c2 = mp c1 12 1 0 →
  ∀ c3, c3 = mp c2 12 2 0 →
  ∀ c4, c4 = mp c3 12 3 0 →
  ∀ c5, c5 = mp c4 12 4 0 →
  ∀ c6, c6 = mp c5 12 5 0 →
  Q c6
set_option maxRecDepth 100000 in
set_option maxHeartbeats 4000000 in
theorem tX8_empty {l : Launch} {G : gG} {k : Nat} {o : gMem} {Q : gMem → Prop} {c : gMem} (h : wX8_empty c Q) : Cq l G mX8_empty 0 0 [.ref (G.2.1 + 12)] 84 k (wX G o c) (qv (wX G o) Q) := by
  refine Cq.of (by decide) (Nat.le_of_ble_eq_true rfl) ?_
  show Go l G mX8_empty (gbq G 0 0 84 k (qv (wX G o) Q)) 0 [(0, .ref (G.2.1 + 12))] [] 84 k (wX G o c)
  unfold wX8_empty at h
  refine go_aload_n (pc := 0) dX8_empty_0 rfl rfl ?_
  refine go_iconst (pc := 1) (v := 0) dX8_empty_1 (by decide) ?_
  refine gb_put (pc := 2) (F := wX G o) fX8_15 rfl (gz_b (by decide)) xw12 (Nat.le_of_ble_eq_true rfl) rfl rfl xp12_0 dX8_empty_2 (fun c1 ec1 => ?_)
  have h := h c1 ec1
  refine go_aload_n (pc := 5) dX8_empty_5 rfl rfl ?_
  refine go_iconst (pc := 6) (v := 0) dX8_empty_6 (by decide) ?_
  refine gb_put (pc := 7) (F := wX G o) fX8_19 rfl (gz_b (by decide)) xw12 (Nat.le_of_ble_eq_true rfl) rfl rfl xp12_1 dX8_empty_7 (fun c2 ec2 => ?_)
  have h := h c2 ec2
  refine go_aload_n (pc := 10) dX8_empty_10 rfl rfl ?_
  refine go_iconst (pc := 11) (v := 0) dX8_empty_11 (by decide) ?_
  refine gb_put (pc := 12) (F := wX G o) fX8_22 rfl (gz_b (by decide)) xw12 (Nat.le_of_ble_eq_true rfl) rfl rfl xp12_2 dX8_empty_12 (fun c3 ec3 => ?_)
  have h := h c3 ec3
  refine go_aload_n (pc := 15) dX8_empty_15 rfl rfl ?_
  refine go_iconst (pc := 16) (v := 0) dX8_empty_16 (by decide) ?_
  refine gb_put (pc := 17) (F := wX G o) fX8_25 rfl (gz_b (by decide)) xw12 (Nat.le_of_ble_eq_true rfl) rfl rfl xp12_3 dX8_empty_17 (fun c4 ec4 => ?_)
  have h := h c4 ec4
  refine go_aload_n (pc := 20) dX8_empty_20 rfl rfl ?_
  refine go_iconst (pc := 21) (v := 0) dX8_empty_21 (by decide) ?_
  refine gb_put (pc := 22) (F := wX G o) fX8_28 rfl (gz_b (by decide)) xw12 (Nat.le_of_ble_eq_true rfl) rfl rfl xp12_4 dX8_empty_22 (fun c5 ec5 => ?_)
  have h := h c5 ec5
  refine go_aload_n (pc := 25) dX8_empty_25 rfl rfl ?_
  refine go_iconst (pc := 26) (v := 0) dX8_empty_26 (by decide) ?_
  refine gb_put (pc := 27) (F := wX G o) fX8_31 rfl (gz_b (by decide)) xw12 (Nat.le_of_ble_eq_true rfl) rfl rfl xp12_5 dX8_empty_27 (fun c6 ec6 => ?_)
  have h := h c6 ec6
  exact gq_vret (pc := 30) (F := wX G o) rfl dX8_empty_30 h
def wX5_empty (c : gMem) (Q : gMem → Prop) : Prop :=
  ∀ c1, c1 = mp c 17 0 0 →
  ∀ c2, c2 = mp c1 17 1 0 →
  ∀ c3, c3 = mp c2 17 2 0 →
  ∀ c4, c4 = mp c3 17 3 0 →
  ∀ c5, c5 = mr c4 19 (fun _ => (-1)) →
  Q c5
set_option maxRecDepth 100000 in
set_option maxHeartbeats 4000000 in
theorem tX5_empty {l : Launch} {G : gG} {k : Nat} {o : gMem} {Q : gMem → Prop} {c : gMem} (h : wX5_empty c Q) : Cq l G mX5_empty 1 23 [.ref (G.2.1 + 17)] 84 k (wX G o c) (qv (wX G o) Q) := by
  refine Cq.of (by decide) (Nat.le_of_ble_eq_true rfl) ?_
  show Go l G mX5_empty (gbq G 1 23 84 k (qv (wX G o) Q)) 0 [(0, .ref (G.2.1 + 17))] [] 84 k (wX G o c)
  unfold wX5_empty at h
  refine go_aload_n (pc := 0) dX5_empty_0 rfl rfl ?_
  refine go_iconst (pc := 1) (v := 0) dX5_empty_1 (by decide) ?_
  refine gb_put (pc := 2) (F := wX G o) fX5_18 rfl (gz_b (by decide)) xw17 (Nat.le_of_ble_eq_true rfl) rfl rfl xp17_0 dX5_empty_2 (fun c1 ec1 => ?_)
  have h := h c1 ec1
  refine go_aload_n (pc := 5) dX5_empty_5 rfl rfl ?_
  refine go_iconst (pc := 6) (v := 0) dX5_empty_6 (by decide) ?_
  refine gb_put (pc := 7) (F := wX G o) fX5_22 rfl (gz_b (by decide)) xw17 (Nat.le_of_ble_eq_true rfl) rfl rfl xp17_1 dX5_empty_7 (fun c2 ec2 => ?_)
  have h := h c2 ec2
  refine go_aload_n (pc := 10) dX5_empty_10 rfl rfl ?_
  refine go_iconst (pc := 11) (v := 0) dX5_empty_11 (by decide) ?_
  refine gb_put (pc := 12) (F := wX G o) fX5_25 rfl (gz_b (by decide)) xw17 (Nat.le_of_ble_eq_true rfl) rfl rfl xp17_2 dX5_empty_12 (fun c3 ec3 => ?_)
  have h := h c3 ec3
  refine go_aload_n (pc := 15) dX5_empty_15 rfl rfl ?_
  refine go_iconst (pc := 16) (v := 0) dX5_empty_16 (by decide) ?_
  refine gb_put (pc := 17) (F := wX G o) fX5_28 rfl (gz_b (by decide)) xw17 (Nat.le_of_ble_eq_true rfl) rfl rfl xp17_3 dX5_empty_17 (fun c4 ec4 => ?_)
  have h := h c4 ec4
  refine go_aload_n (pc := 20) dX5_empty_20 rfl rfl ?_
  refine go_get (pc := 21) fX5_15 rfl (gz_b (by decide)) xw17 rfl dX5_empty_21 ?_
  refine go_iconst (pc := 24) (v := (-1)) dX5_empty_24 (by decide) ?_
  refine gq_callS_v (pc := 25) (F := wX G o) (Q := fun q => q = mr c4 19 (fun _ => (-1))) sX5_31 rfl (cq_fill (by decide) (gz_b (by decide)) xw19 xa19 rfl) rfl rfl (Nat.le_of_ble_eq_true rfl) ⟨Nat.le_of_ble_eq_true rfl, Nat.le_of_ble_eq_true rfl, Nat.le_add_right _ _, Nat.le_add_right _ _⟩ dX5_empty_25 (fun c5 ec5 => ?_)
  have h := h c5 ec5
  exact gq_vret (pc := 28) (F := wX G o) rfl dX5_empty_28 h
def wX6_startAnew (l1 : Int32) (c : gMem) (Q : gMem → Prop) : Prop :=
  wX2_empty l1 c (fun c1 =>
  wX3_wipe c1 (fun c2 =>
  wX8_empty c2 (fun c3 =>
  ∀ c4, c4 = mp c3 14 0 0 →
  wX5_empty c4 (fun c5 =>
  ∀ c6, c6 = mr c5 20 (fun _ => (-1)) →
  ∀ c7, c7 = mr c6 21 (fun _ => (-1)) →
  Q c7))))
set_option maxRecDepth 100000 in
set_option maxHeartbeats 4000000 in
theorem tX6_startAnew {l : Launch} {G : gG} {k : Nat} {o : gMem} {Q : gMem → Prop} {l1 : Int32} {c : gMem} (h : wX6_startAnew l1 c Q) : Cq l G mX6_startAnew 4 88 [.ref (G.2.1 + 1), .int l1] 84 k (wX G o c) (qv (wX G o) Q) := by
  refine Cq.of (by decide) (Nat.le_of_ble_eq_true rfl) ?_
  show Go l G mX6_startAnew (gbq G 4 88 84 k (qv (wX G o) Q)) 0 [(0, .ref (G.2.1 + 1)), (1, .int l1)] [] 84 k (wX G o c)
  unfold wX6_startAnew at h
  refine go_aload_n (pc := 0) dX6_startAnew_0 rfl rfl ?_
  refine go_get (pc := 1) fX6_12 rfl (gz_b (by decide)) xw1 rfl dX6_startAnew_1 ?_
  refine go_iload_n (pc := 4) dX6_startAnew_4 rfl rfl ?_
  refine gq_callV_v (pc := 5) (F := wX G o) vX6_57 rfl (tX2_empty h) rfl rfl (gz_b (by decide)) xw2 rfl (Nat.le_of_ble_eq_true rfl) ⟨Nat.le_of_ble_eq_true rfl, Nat.le_of_ble_eq_true rfl, Nat.le_add_right _ _, Nat.le_add_right _ _⟩ dX6_startAnew_5 (fun c1 h => ?_)
  refine go_aload_n (pc := 8) dX6_startAnew_8 rfl rfl ?_
  refine go_get (pc := 9) fX6_21 rfl (gz_b (by decide)) xw1 rfl dX6_startAnew_9 ?_
  refine gq_callV_v (pc := 12) (F := wX G o) vX6_60 rfl (tX3_wipe h) rfl rfl (gz_b (by decide)) xw6 rfl (Nat.le_of_ble_eq_true rfl) ⟨Nat.le_of_ble_eq_true rfl, Nat.le_of_ble_eq_true rfl, Nat.le_add_right _ _, Nat.le_add_right _ _⟩ dX6_startAnew_12 (fun c2 h => ?_)
  refine go_aload_n (pc := 15) dX6_startAnew_15 rfl rfl ?_
  refine go_get (pc := 16) fX6_28 rfl (gz_b (by decide)) xw1 rfl dX6_startAnew_16 ?_
  refine gq_callV_v (pc := 19) (F := wX G o) vX6_63 rfl (tX8_empty h) rfl rfl (gz_b (by decide)) xw12 rfl (Nat.le_of_ble_eq_true rfl) ⟨Nat.le_of_ble_eq_true rfl, Nat.le_of_ble_eq_true rfl, Nat.le_add_right _ _, Nat.le_add_right _ _⟩ dX6_startAnew_19 (fun c3 h => ?_)
  refine go_aload_n (pc := 22) dX6_startAnew_22 rfl rfl ?_
  refine go_get (pc := 23) fX6_35 rfl (gz_b (by decide)) xw1 rfl dX6_startAnew_23 ?_
  refine go_iconst (pc := 26) (v := 0) dX6_startAnew_26 (by decide) ?_
  refine gb_put (pc := 27) (F := wX G o) fX6_65 rfl (gz_b (by decide)) xw14 (Nat.le_of_ble_eq_true rfl) rfl rfl xp14_0 dX6_startAnew_27 (fun c4 ec4 => ?_)
  have h := h c4 ec4
  refine go_aload_n (pc := 30) dX6_startAnew_30 rfl rfl ?_
  refine go_get (pc := 31) fX6_42 rfl (gz_b (by decide)) xw1 rfl dX6_startAnew_31 ?_
  refine gq_callV_v (pc := 34) (F := wX G o) vX6_69 rfl (tX5_empty h) rfl rfl (gz_b (by decide)) xw17 rfl (Nat.le_of_ble_eq_true rfl) ⟨Nat.le_of_ble_eq_true rfl, Nat.le_of_ble_eq_true rfl, Nat.le_add_right _ _, Nat.le_add_right _ _⟩ dX6_startAnew_34 (fun c5 h => ?_)
  refine go_aload_n (pc := 37) dX6_startAnew_37 rfl rfl ?_
  refine go_get (pc := 38) fX6_46 rfl (gz_b (by decide)) xw1 rfl dX6_startAnew_38 ?_
  refine go_iconst (pc := 41) (v := (-1)) dX6_startAnew_41 (by decide) ?_
  refine gq_callS_v (pc := 42) (F := wX G o) (Q := fun q => q = mr c5 20 (fun _ => (-1))) sX6_70 rfl (cq_fill (by decide) (gz_b (by decide)) xw20 xa20 rfl) rfl rfl (Nat.le_of_ble_eq_true rfl) ⟨Nat.le_of_ble_eq_true rfl, Nat.le_of_ble_eq_true rfl, Nat.le_add_right _ _, Nat.le_add_right _ _⟩ dX6_startAnew_42 (fun c6 ec6 => ?_)
  have h := h c6 ec6
  refine go_aload_n (pc := 45) dX6_startAnew_45 rfl rfl ?_
  refine go_get (pc := 46) fX6_50 rfl (gz_b (by decide)) xw1 rfl dX6_startAnew_46 ?_
  refine go_iconst (pc := 49) (v := (-1)) dX6_startAnew_49 (by decide) ?_
  refine gq_callS_v (pc := 50) (F := wX G o) (Q := fun q => q = mr c6 21 (fun _ => (-1))) sX6_70 rfl (cq_fill (by decide) (gz_b (by decide)) xw21 xa21 rfl) rfl rfl (Nat.le_of_ble_eq_true rfl) ⟨Nat.le_of_ble_eq_true rfl, Nat.le_of_ble_eq_true rfl, Nat.le_add_right _ _, Nat.le_add_right _ _⟩ dX6_startAnew_50 (fun c7 ec7 => ?_)
  have h := h c7 ec7
  exact gq_vret (pc := 53) (F := wX G o) rfl dX6_startAnew_53 h
def wX9_size (l1 : Int32) (c : gMem) (Q : Int32 → gMem → Prop) : Prop :=
  ((l1 < 16 →
    Q ((-102)) c) ∧
   (¬ l1 < 16 →
    ((l1 ≤ 4000 →
      wX6_startAnew l1 c (fun c3 =>
      ∀ c4, c4 = mp c3 69 3 0 →
      ∀ c5, c5 = mp c4 0 5 0 →
      ∀ c6, c6 = mp c5 0 6 0 →
      ∀ c7, c7 = mp c6 0 8 0 →
      ∀ c8, c8 = mp c7 0 10 0 →
      Q 1 c8)) ∧
     (¬ l1 ≤ 4000 →
      Q ((-102)) c))))
set_option maxRecDepth 100000 in
set_option maxHeartbeats 4000000 in
theorem tX9_size {l : Launch} {G : gG} {k : Nat} {o : gMem} {Q : Int32 → gMem → Prop} {l1 : Int32} {c : gMem} (h : wX9_size l1 c Q) : Cq l G mX9_size 5 109 [.ref (G.2.1 + 0), .int l1] 84 k (wX G o c) (qi (wX G o) Q) := by
  refine Cq.of (by decide) (Nat.le_of_ble_eq_true rfl) ?_
  show Go l G mX9_size (gbq G 5 109 84 k (qi (wX G o) Q)) 0 [(0, .ref (G.2.1 + 0)), (1, .int l1)] [] 84 k (wX G o c)
  unfold wX9_size at h
  refine go_iload_n (pc := 0) dX9_size_0 rfl rfl ?_
  refine go_bipush (pc := 1) (v := 16) dX9_size_1 (by decide) ?_
  refine go_icmp_lt (pc := 3) (tgt := 13) dX9_size_3 (by decide) (fun q1 => ?_) (fun q1 => ?_)
  · have h := h.1 q1
    refine go_bipush (pc := 13) (v := (-102)) dX9_size_13 (by decide) ?_
    exact gq_iret (pc := 15) (F := wX G o) rfl dX9_size_15 h
  · have h := h.2 q1
    refine go_iload_n (pc := 6) dX9_size_6 rfl rfl ?_
    refine go_sipush (pc := 7) (v := 4000) dX9_size_7 (by decide) ?_
    refine go_icmp_le (pc := 10) (tgt := 16) dX9_size_10 (by decide) (fun q2 => ?_) (fun q2 => ?_)
    · have h := h.1 q2
      refine go_aload_n (pc := 16) dX9_size_16 rfl rfl ?_
      refine go_get (pc := 17) fX9_12 rfl (gz_b (by decide)) xw0 rfl dX9_size_17 ?_
      refine go_iload_n (pc := 20) dX9_size_20 rfl rfl ?_
      refine gq_callV_v (pc := 21) (F := wX G o) vX9_51 rfl (tX6_startAnew h) rfl rfl (gz_b (by decide)) xw1 rfl (Nat.le_of_ble_eq_true rfl) ⟨Nat.le_of_ble_eq_true rfl, Nat.le_of_ble_eq_true rfl, Nat.le_add_right _ _, Nat.le_add_right _ _⟩ dX9_size_21 (fun c3 h => ?_)
      refine go_aload_n (pc := 24) dX9_size_24 rfl rfl ?_
      refine go_get (pc := 25) fX9_40 rfl (gz_b (by decide)) xw0 rfl dX9_size_25 ?_
      refine go_iconst (pc := 28) (v := 0) dX9_size_28 (by decide) ?_
      refine gb_put (pc := 29) (F := wX G o) fX9_55 rfl (gz_b (by decide)) xw69 (Nat.le_of_ble_eq_true rfl) rfl rfl xp69_3 dX9_size_29 (fun c4 ec4 => ?_)
      have h := h c4 ec4
      refine go_aload_n (pc := 32) dX9_size_32 rfl rfl ?_
      refine go_iconst (pc := 33) (v := 0) dX9_size_33 (by decide) ?_
      refine gb_put (pc := 34) (F := wX G o) fX9_59 rfl (gz_b (by decide)) xw0 (Nat.le_of_ble_eq_true rfl) rfl rfl xp0_5 dX9_size_34 (fun c5 ec5 => ?_)
      have h := h c5 ec5
      refine go_aload_n (pc := 37) dX9_size_37 rfl rfl ?_
      refine go_iconst (pc := 38) (v := 0) dX9_size_38 (by decide) ?_
      refine gb_put (pc := 39) (F := wX G o) fX9_62 rfl (gz_b (by decide)) xw0 (Nat.le_of_ble_eq_true rfl) rfl rfl xp0_6 dX9_size_39 (fun c6 ec6 => ?_)
      have h := h c6 ec6
      refine go_aload_n (pc := 42) dX9_size_42 rfl rfl ?_
      refine go_iconst (pc := 43) (v := 0) dX9_size_43 (by decide) ?_
      refine gb_put (pc := 44) (F := wX G o) fX9_65 rfl (gz_b (by decide)) xw0 (Nat.le_of_ble_eq_true rfl) rfl rfl xp0_8 dX9_size_44 (fun c7 ec7 => ?_)
      have h := h c7 ec7
      refine go_aload_n (pc := 47) dX9_size_47 rfl rfl ?_
      refine go_iconst (pc := 48) (v := 0) dX9_size_48 (by decide) ?_
      refine gb_put (pc := 49) (F := wX G o) fX9_69 rfl (gz_b (by decide)) xw0 (Nat.le_of_ble_eq_true rfl) rfl rfl xp0_10 dX9_size_49 (fun c8 ec8 => ?_)
      have h := h c8 ec8
      refine go_iconst (pc := 52) (v := 1) dX9_size_52 (by decide) ?_
      exact gq_iret (pc := 53) (F := wX G o) rfl dX9_size_53 h
    · have h := h.2 q2
      refine go_bipush (pc := 13) (v := (-102)) dX9_size_13 (by decide) ?_
      exact gq_iret (pc := 15) (F := wX G o) rfl dX9_size_15 h
def wX2_isCounted_p15 (c : gMem) (Q : Int32 → gMem → Prop) : Prop :=
  Q 1 c
set_option maxRecDepth 100000 in
set_option maxHeartbeats 4000000 in
theorem tX2_isCounted_p15 {l : Launch} {G : gG} {k : Nat} {o : gMem} {Q : Int32 → gMem → Prop} {c : gMem} (h : wX2_isCounted_p15 c Q) : Go l G mX2_isCounted (gbq G 0 0 84 k (qi (wX G o) Q)) 15 [] [] 84 k (wX G o c) := by
  unfold wX2_isCounted_p15 at h
  refine go_iconst (pc := 15) (v := 1) dX2_isCounted_15 (by decide) ?_
  refine go_goto (pc := 16) (tgt := 20) dX2_isCounted_16 (by decide) ?_
  exact gq_zret (pc := 20) (F := wX G o) rfl (by decide) dX2_isCounted_20 h
def wX2_isCounted (l0 : Int32) (c : gMem) (Q : Int32 → gMem → Prop) : Prop :=
  ((l0 = 1 →
    wX2_isCounted_p15 c Q) ∧
   (¬ l0 = 1 →
    ((l0 = 2 →
      wX2_isCounted_p15 c Q) ∧
     (¬ l0 = 2 →
      ((l0 = 5 →
        wX2_isCounted_p15 c Q) ∧
       (¬ l0 = 5 →
        Q 0 c))))))
set_option maxRecDepth 100000 in
set_option maxHeartbeats 4000000 in
theorem tX2_isCounted {l : Launch} {G : gG} {k : Nat} {o : gMem} {Q : Int32 → gMem → Prop} {l0 : Int32} {c : gMem} (h : wX2_isCounted l0 c Q) : Cq l G mX2_isCounted 0 0 [.int l0] 84 k (wX G o c) (qi (wX G o) Q) := by
  refine Cq.of (by decide) (Nat.le_of_ble_eq_true rfl) ?_
  show Go l G mX2_isCounted (gbq G 0 0 84 k (qi (wX G o) Q)) 0 [(0, .int l0)] [] 84 k (wX G o c)
  unfold wX2_isCounted at h
  refine go_iload_n (pc := 0) dX2_isCounted_0 rfl rfl ?_
  refine go_iconst (pc := 1) (v := 1) dX2_isCounted_1 (by decide) ?_
  refine go_icmp_eq (pc := 2) (tgt := 15) dX2_isCounted_2 (by decide) (fun q1 => ?_) (fun q1 => ?_)
  · have h := h.1 q1
    refine go_lv [] rfl ?_
    exact tX2_isCounted_p15 h
  · have h := h.2 q1
    refine go_iload_n (pc := 5) dX2_isCounted_5 rfl rfl ?_
    refine go_iconst (pc := 6) (v := 2) dX2_isCounted_6 (by decide) ?_
    refine go_icmp_eq (pc := 7) (tgt := 15) dX2_isCounted_7 (by decide) (fun q2 => ?_) (fun q2 => ?_)
    · have h := h.1 q2
      refine go_lv [] rfl ?_
      exact tX2_isCounted_p15 h
    · have h := h.2 q2
      refine go_iload_n (pc := 10) dX2_isCounted_10 rfl rfl ?_
      refine go_iconst (pc := 11) (v := 5) dX2_isCounted_11 (by decide) ?_
      refine go_icmp_ne (pc := 12) (tgt := 19) dX2_isCounted_12 (by decide) (fun q3 => ?_) (fun q3 => ?_)
      · have h := h.2 q3
        refine go_iconst (pc := 19) (v := 0) dX2_isCounted_19 (by decide) ?_
        exact gq_zret (pc := 20) (F := wX G o) rfl (by decide) dX2_isCounted_20 h
      · have h := h.1 q3
        refine go_lv [] rfl ?_
        exact tX2_isCounted_p15 h
def wX9_isOutsideOfMaking_p24 (c : gMem) (Q : Int32 → gMem → Prop) : Prop :=
  Q 1 c
set_option maxRecDepth 100000 in
set_option maxHeartbeats 4000000 in
theorem tX9_isOutsideOfMaking_p24 {l : Launch} {G : gG} {k : Nat} {o : gMem} {Q : Int32 → gMem → Prop} {c : gMem} (h : wX9_isOutsideOfMaking_p24 c Q) : Go l G mX9_isOutsideOfMaking (gbq G 1 20 84 k (qi (wX G o) Q)) 24 [] [] 84 k (wX G o c) := by
  unfold wX9_isOutsideOfMaking_p24 at h
  refine go_iconst (pc := 24) (v := 1) dX9_isOutsideOfMaking_24 (by decide) ?_
  refine go_goto (pc := 25) (tgt := 29) dX9_isOutsideOfMaking_25 (by decide) ?_
  exact gq_zret (pc := 29) (F := wX G o) rfl (by decide) dX9_isOutsideOfMaking_29 h
def wX9_isOutsideOfMaking (l0 : Int32) (l1 : Int32) (c : gMem) (Q : Int32 → gMem → Prop) : Prop :=
  ((l0 < 0 →
    wX9_isOutsideOfMaking_p24 c Q) ∧
   (¬ l0 < 0 →
    ((6 ≤ l0 →
      wX9_isOutsideOfMaking_p24 c Q) ∧
     (¬ 6 ≤ l0 →
      wX2_isCounted l0 c (fun r4 c3 =>
      ((r4 = 0 →
        Q 0 c3) ∧
       (¬ r4 = 0 →
        ((l1 ≤ 300 →
          Q 0 c3) ∧
         (¬ l1 ≤ 300 →
          wX9_isOutsideOfMaking_p24 c3 Q)))))))))
set_option maxRecDepth 100000 in
set_option maxHeartbeats 4000000 in
theorem tX9_isOutsideOfMaking {l : Launch} {G : gG} {k : Nat} {o : gMem} {Q : Int32 → gMem → Prop} {l0 : Int32} {l1 : Int32} {c : gMem} (h : wX9_isOutsideOfMaking l0 l1 c Q) : Cq l G mX9_isOutsideOfMaking 1 20 [.int l0, .int l1] 84 k (wX G o c) (qi (wX G o) Q) := by
  refine Cq.of (by decide) (Nat.le_of_ble_eq_true rfl) ?_
  show Go l G mX9_isOutsideOfMaking (gbq G 1 20 84 k (qi (wX G o) Q)) 0 [(0, .int l0), (1, .int l1)] [] 84 k (wX G o c)
  unfold wX9_isOutsideOfMaking at h
  refine go_iload_n (pc := 0) dX9_isOutsideOfMaking_0 rfl rfl ?_
  refine go_if_lt (pc := 1) (tgt := 24) dX9_isOutsideOfMaking_1 (by decide) (fun q1 => ?_) (fun q1 => ?_)
  · have h := h.1 q1
    refine go_lv [] rfl ?_
    exact tX9_isOutsideOfMaking_p24 h
  · have h := h.2 q1
    refine go_iload_n (pc := 4) dX9_isOutsideOfMaking_4 rfl rfl ?_
    refine go_bipush (pc := 5) (v := 6) dX9_isOutsideOfMaking_5 (by decide) ?_
    refine go_icmp_ge (pc := 7) (tgt := 24) dX9_isOutsideOfMaking_7 (by decide) (fun q2 => ?_) (fun q2 => ?_)
    · have h := h.1 q2
      refine go_lv [] rfl ?_
      exact tX9_isOutsideOfMaking_p24 h
    · have h := h.2 q2
      refine go_iload_n (pc := 10) dX9_isOutsideOfMaking_10 rfl rfl ?_
      refine gq_callS_i (pc := 11) (F := wX G o) sX9_322 rfl (tX2_isCounted h) rfl rfl (Nat.le_of_ble_eq_true rfl) ⟨Nat.le_of_ble_eq_true rfl, Nat.le_of_ble_eq_true rfl, Nat.le_add_right _ _, Nat.le_add_right _ _⟩ dX9_isOutsideOfMaking_11 (fun r4 c3 h => ?_)
      refine go_if_eq (pc := 14) (tgt := 28) dX9_isOutsideOfMaking_14 (by decide) (fun q5 => ?_) (fun q5 => ?_)
      · have h := h.1 q5
        refine go_iconst (pc := 28) (v := 0) dX9_isOutsideOfMaking_28 (by decide) ?_
        exact gq_zret (pc := 29) (F := wX G o) rfl (by decide) dX9_isOutsideOfMaking_29 h
      · have h := h.2 q5
        refine go_iload_n (pc := 17) dX9_isOutsideOfMaking_17 rfl rfl ?_
        refine go_sipush (pc := 18) (v := 300) dX9_isOutsideOfMaking_18 (by decide) ?_
        refine go_icmp_le (pc := 21) (tgt := 28) dX9_isOutsideOfMaking_21 (by decide) (fun q6 => ?_) (fun q6 => ?_)
        · have h := h.1 q6
          refine go_iconst (pc := 28) (v := 0) dX9_isOutsideOfMaking_28 (by decide) ?_
          exact gq_zret (pc := 29) (F := wX G o) rfl (by decide) dX9_isOutsideOfMaking_29 h
        · have h := h.2 q6
          refine go_lv [] rfl ?_
          exact tX9_isOutsideOfMaking_p24 h
def wX2_intsFor (l0 : Int32) (l1 : Int32) (c : gMem) (Q : Int32 → gMem → Prop) : Prop :=
  ((l0.toInt < 1 ∨ 5 < l0.toInt →
    Q 3 c) ∧
   (l0 = 1 →
    Q (2 + l1) c) ∧
   (l0 = 2 →
    Q (2 + ((l1 + 3) / 4)) c) ∧
   (l0 = 3 →
    Q 3 c) ∧
   (l0 = 4 →
    Q 4 c) ∧
   (l0 = 5 →
    Q (2 + (2 * l1)) c))
set_option maxRecDepth 100000 in
set_option maxHeartbeats 4000000 in
theorem tX2_intsFor {l : Launch} {G : gG} {k : Nat} {o : gMem} {Q : Int32 → gMem → Prop} {l0 : Int32} {l1 : Int32} {c : gMem} (h : wX2_intsFor l0 l1 c Q) : Cq l G mX2_intsFor 0 0 [.int l0, .int l1] 84 k (wX G o c) (qi (wX G o) Q) := by
  refine Cq.of (by decide) (Nat.le_of_ble_eq_true rfl) ?_
  show Go l G mX2_intsFor (gbq G 0 0 84 k (qi (wX G o) Q)) 0 [(0, .int l0), (1, .int l1)] [] 84 k (wX G o c)
  unfold wX2_intsFor at h
  refine go_iload_n (pc := 0) dX2_intsFor_0 rfl rfl ?_
  by_cases q1 : l0.toInt < 1 ∨ 5 < l0.toInt
  · refine go_tableOut (pc := 1) (tgt := 56) dX2_intsFor_1 q1 (by decide) ?_
    have h := h.1 q1
    refine go_iconst (pc := 56) (v := 3) dX2_intsFor_56 (by decide) ?_
    exact gq_iret (pc := 57) (F := wX G o) rfl dX2_intsFor_57 h
  have q1a : l0.toInt = 1 ∨ l0.toInt = 2 ∨ l0.toInt = 3 ∨ l0.toInt = 4 ∨ l0.toInt = 5 := by omega
  rcases q1a with q1b | q1b | q1b | q1b | q1b
  · have q1c : l0 = 1 := gt_eq q1b _ (by decide)
    refine go_tableIn (pc := 1) (off := 35) (tgt := 36) dX2_intsFor_1 (by rw [q1b]; decide) (by rw [q1b]; decide) (by rw [q1b]; rfl) (by decide) ?_
    have h := h.2.1 q1c
    refine go_iconst (pc := 36) (v := 2) dX2_intsFor_36 (by decide) ?_
    refine go_iload_n (pc := 37) dX2_intsFor_37 rfl rfl ?_
    refine go_iadd (pc := 38) dX2_intsFor_38 ?_
    exact gq_iret (pc := 39) (F := wX G o) rfl dX2_intsFor_39 h
  · have q1c : l0 = 2 := gt_eq q1b _ (by decide)
    refine go_tableIn (pc := 1) (off := 45) (tgt := 46) dX2_intsFor_1 (by rw [q1b]; decide) (by rw [q1b]; decide) (by rw [q1b]; rfl) (by decide) ?_
    have h := h.2.2.1 q1c
    refine go_iconst (pc := 46) (v := 2) dX2_intsFor_46 (by decide) ?_
    refine go_iload_n (pc := 47) dX2_intsFor_47 rfl rfl ?_
    refine go_iconst (pc := 48) (v := 3) dX2_intsFor_48 (by decide) ?_
    refine go_iadd (pc := 49) dX2_intsFor_49 ?_
    refine go_iconst (pc := 50) (v := 4) dX2_intsFor_50 (by decide) ?_
    refine go_idiv (pc := 51) dX2_intsFor_51 (by decide) ?_
    refine go_iadd (pc := 52) dX2_intsFor_52 ?_
    exact gq_iret (pc := 53) (F := wX G o) rfl dX2_intsFor_53 h
  · have q1c : l0 = 3 := gt_eq q1b _ (by decide)
    refine go_tableIn (pc := 1) (off := 55) (tgt := 56) dX2_intsFor_1 (by rw [q1b]; decide) (by rw [q1b]; decide) (by rw [q1b]; rfl) (by decide) ?_
    have h := h.2.2.2.1 q1c
    refine go_iconst (pc := 56) (v := 3) dX2_intsFor_56 (by decide) ?_
    exact gq_iret (pc := 57) (F := wX G o) rfl dX2_intsFor_57 h
  · have q1c : l0 = 4 := gt_eq q1b _ (by decide)
    refine go_tableIn (pc := 1) (off := 53) (tgt := 54) dX2_intsFor_1 (by rw [q1b]; decide) (by rw [q1b]; decide) (by rw [q1b]; rfl) (by decide) ?_
    have h := h.2.2.2.2.1 q1c
    refine go_iconst (pc := 54) (v := 4) dX2_intsFor_54 (by decide) ?_
    exact gq_iret (pc := 55) (F := wX G o) rfl dX2_intsFor_55 h
  · have q1c : l0 = 5 := gt_eq q1b _ (by decide)
    refine go_tableIn (pc := 1) (off := 39) (tgt := 40) dX2_intsFor_1 (by rw [q1b]; decide) (by rw [q1b]; decide) (by rw [q1b]; rfl) (by decide) ?_
    have h := h.2.2.2.2.2 q1c
    refine go_iconst (pc := 40) (v := 2) dX2_intsFor_40 (by decide) ?_
    refine go_iconst (pc := 41) (v := 2) dX2_intsFor_41 (by decide) ?_
    refine go_iload_n (pc := 42) dX2_intsFor_42 rfl rfl ?_
    refine go_imul (pc := 43) dX2_intsFor_43 ?_
    refine go_iadd (pc := 44) dX2_intsFor_44 ?_
    exact gq_iret (pc := 45) (F := wX G o) rfl dX2_intsFor_45 h
def wX2_free (c : gMem) (Q : Int32 → gMem → Prop) : Prop :=
  ∀ v1, v1 = c 2 0 →
  ∀ v2, v2 = c 2 1 →
  Q (v1 - v2) c
set_option maxRecDepth 100000 in
set_option maxHeartbeats 4000000 in
theorem tX2_free {l : Launch} {G : gG} {k : Nat} {o : gMem} {Q : Int32 → gMem → Prop} {c : gMem} (h : wX2_free c Q) : Cq l G mX2_free 0 0 [.ref (G.2.1 + 2)] 84 k (wX G o c) (qi (wX G o) Q) := by
  refine Cq.of (by decide) (Nat.le_of_ble_eq_true rfl) ?_
  show Go l G mX2_free (gbq G 0 0 84 k (qi (wX G o) Q)) 0 [(0, .ref (G.2.1 + 2))] [] 84 k (wX G o c)
  unfold wX2_free at h
  refine go_aload_n (pc := 0) dX2_free_0 rfl rfl ?_
  refine gb_get (pc := 1) fX2_25 rfl (gz_b (by decide)) xw2 rfl dX2_free_1 (fun v1 ev1 => ?_)
  have h := h v1 ev1
  refine go_aload_n (pc := 4) dX2_free_4 rfl rfl ?_
  refine gb_get (pc := 5) fX2_41 rfl (gz_b (by decide)) xw2 rfl dX2_free_5 (fun v2 ev2 => ?_)
  have h := h v2 ev2
  refine go_isub (pc := 8) dX2_free_8 ?_
  exact gq_iret (pc := 9) (F := wX G o) rfl dX2_free_9 h
def wX2_addCell_p89 (l1 : Int32) (l2 : Int32) (l3 : Int32) (c : gMem) (Q : Int32 → gMem → Prop) : Prop :=
  ∀ v1, v1 = c 2 1 →
  vp_in l3 500 ∧
  ∀ c2, c2 = mp c 4 l3.toNatClampNeg v1 →
  vp_in l3 500 ∧
  ∀ c4, c4 = mp c2 5 l3.toNatClampNeg 0 →
  ∀ v6, v6 = c4 2 1 →
  wX2_intsFor l1 l2 c4 (fun r8 c7 =>
  ∀ c9, c9 = mp c7 2 1 (v6 + r8) →
  ∀ v10, v10 = c9 2 2 →
  ∀ c11, c11 = mp c9 2 2 (v10 + 1) →
  ∀ v12, v12 = c11 2 3 →
  ∀ c13, c13 = mp c11 2 3 (v12 + 1) →
  Q l3 c13)
set_option maxRecDepth 100000 in
set_option maxHeartbeats 4000000 in
theorem tX2_addCell_p89 {l : Launch} {G : gG} {k : Nat} {o : gMem} {Q : Int32 → gMem → Prop} {l1 : Int32} {l2 : Int32} {l3 : Int32} {c : gMem} (h : wX2_addCell_p89 l1 l2 l3 c Q) : Go l G mX2_addCell (gbq G 2 46 84 k (qi (wX G o) Q)) 89 [(0, .ref (G.2.1 + 2)), (1, .int l1), (2, .int l2), (3, .int l3)] [] 84 k (wX G o c) := by
  unfold wX2_addCell_p89 at h
  refine go_aload_n (pc := 89) dX2_addCell_89 rfl rfl ?_
  refine go_get (pc := 90) fX2_15 rfl (gz_b (by decide)) xw2 rfl dX2_addCell_90 ?_
  refine go_iload_n (pc := 93) dX2_addCell_93 rfl rfl ?_
  refine go_aload_n (pc := 94) dX2_addCell_94 rfl rfl ?_
  refine gb_get (pc := 95) fX2_41 rfl (gz_b (by decide)) xw2 rfl dX2_addCell_95 (fun v1 ev1 => ?_)
  have h := h v1 ev1
  obtain ⟨b3, h⟩ := h
  refine gb_iast (pc := 98) (F := wX G o) (gz_b (by decide)) xw4 b3 xa4 dX2_addCell_98 (fun c2 ec2 => ?_)
  have h := h c2 ec2
  refine go_aload_n (pc := 99) dX2_addCell_99 rfl rfl ?_
  refine go_get (pc := 100) fX2_18 rfl (gz_b (by decide)) xw2 rfl dX2_addCell_100 ?_
  refine go_iload_n (pc := 103) dX2_addCell_103 rfl rfl ?_
  refine go_iconst (pc := 104) (v := 0) dX2_addCell_104 (by decide) ?_
  obtain ⟨b5, h⟩ := h
  refine gb_iast (pc := 105) (F := wX G o) (gz_b (by decide)) xw5 b5 xa5 dX2_addCell_105 (fun c4 ec4 => ?_)
  have h := h c4 ec4
  refine go_aload_n (pc := 106) dX2_addCell_106 rfl rfl ?_
  refine go_dup (pc := 107) dX2_addCell_107 rfl ?_
  refine gb_get (pc := 108) fX2_41 rfl (gz_b (by decide)) xw2 rfl dX2_addCell_108 (fun v6 ev6 => ?_)
  have h := h v6 ev6
  refine go_iload_n (pc := 111) dX2_addCell_111 rfl rfl ?_
  refine go_iload_n (pc := 112) dX2_addCell_112 rfl rfl ?_
  refine gq_callS_i (pc := 113) (F := wX G o) sX2_67 rfl (tX2_intsFor h) rfl rfl (Nat.le_of_ble_eq_true rfl) ⟨Nat.le_of_ble_eq_true rfl, Nat.le_of_ble_eq_true rfl, Nat.le_add_right _ _, Nat.le_add_right _ _⟩ dX2_addCell_113 (fun r8 c7 h => ?_)
  refine go_iadd (pc := 116) dX2_addCell_116 ?_
  refine gb_put (pc := 117) (F := wX G o) fX2_41 rfl (gz_b (by decide)) xw2 (Nat.le_of_ble_eq_true rfl) rfl rfl xp2_1 dX2_addCell_117 (fun c9 ec9 => ?_)
  have h := h c9 ec9
  refine go_aload_n (pc := 120) dX2_addCell_120 rfl rfl ?_
  refine go_dup (pc := 121) dX2_addCell_121 rfl ?_
  refine gb_get (pc := 122) fX2_29 rfl (gz_b (by decide)) xw2 rfl dX2_addCell_122 (fun v10 ev10 => ?_)
  have h := h v10 ev10
  refine go_iconst (pc := 125) (v := 1) dX2_addCell_125 (by decide) ?_
  refine go_iadd (pc := 126) dX2_addCell_126 ?_
  refine gb_put (pc := 127) (F := wX G o) fX2_29 rfl (gz_b (by decide)) xw2 (Nat.le_of_ble_eq_true rfl) rfl rfl xp2_2 dX2_addCell_127 (fun c11 ec11 => ?_)
  have h := h c11 ec11
  refine go_aload_n (pc := 130) dX2_addCell_130 rfl rfl ?_
  refine go_dup (pc := 131) dX2_addCell_131 rfl ?_
  refine gb_get (pc := 132) fX2_32 rfl (gz_b (by decide)) xw2 rfl dX2_addCell_132 (fun v12 ev12 => ?_)
  have h := h v12 ev12
  refine go_iconst (pc := 135) (v := 1) dX2_addCell_135 (by decide) ?_
  refine go_iadd (pc := 136) dX2_addCell_136 ?_
  refine gb_put (pc := 137) (F := wX G o) fX2_32 rfl (gz_b (by decide)) xw2 (Nat.le_of_ble_eq_true rfl) rfl rfl xp2_3 dX2_addCell_137 (fun c13 ec13 => ?_)
  have h := h c13 ec13
  refine go_iload_n (pc := 140) dX2_addCell_140 rfl rfl ?_
  exact gq_iret (pc := 141) (F := wX G o) rfl dX2_addCell_141 h
def wX2_addCell (l1 : Int32) (l2 : Int32) (c : gMem) (Q : Int32 → gMem → Prop) : Prop :=
  ∀ v1, v1 = c 2 2 →
  ∀ v2, v2 = c 2 1 →
  vp_in v2 4000 ∧
  ∀ c3, c3 = mp c 3 v2.toNatClampNeg ((v1 * 8) + l1) →
  wX2_isCounted l1 c3 (fun r6 c5 =>
  ((r6 = 0 →
    ∀ v18, v18 = c5 2 1 →
    ∀ v19, v19 = c5 2 1 →
    ∃ f21 t22 : Nat, (v18 + 1) = nI f21 ∧ (v19 + 3) = nI t22 ∧ f21 ≤ t22 ∧ t22 ≤ 4000 ∧
    ∀ c20, c20 = mr c5 3 (fun j => if f21 ≤ j ∧ j < t22 then (-1) else c5 3 j) →
    wX2_addCell_p89 l1 l2 v1 c20 Q) ∧
   (¬ r6 = 0 →
    ∀ v8, v8 = c5 2 1 →
    vp_in (v8 + 1) 4000 ∧
    ∀ c9, c9 = mp c5 3 (v8 + 1).toNatClampNeg l2 →
    ((l1 = 2 →
      wX2_addCell_p89 l1 l2 v1 c9 Q) ∧
     (¬ l1 = 2 →
      ∀ v12, v12 = c9 2 1 →
      ∀ v13, v13 = c9 2 1 →
      ∃ f15 t16 : Nat, (v12 + 2) = nI f15 ∧ ((v13 + 2) + l2) = nI t16 ∧ f15 ≤ t16 ∧ t16 ≤ 4000 ∧
      ∀ c14, c14 = mr c9 3 (fun j => if f15 ≤ j ∧ j < t16 then (-1) else c9 3 j) →
      wX2_addCell_p89 l1 l2 v1 c14 Q)))))
set_option maxRecDepth 100000 in
set_option maxHeartbeats 4000000 in
theorem tX2_addCell {l : Launch} {G : gG} {k : Nat} {o : gMem} {Q : Int32 → gMem → Prop} {l1 : Int32} {l2 : Int32} {c : gMem} (h : wX2_addCell l1 l2 c Q) : Cq l G mX2_addCell 2 46 [.ref (G.2.1 + 2), .int l1, .int l2] 84 k (wX G o c) (qi (wX G o) Q) := by
  refine Cq.of (by decide) (Nat.le_of_ble_eq_true rfl) ?_
  show Go l G mX2_addCell (gbq G 2 46 84 k (qi (wX G o) Q)) 0 [(0, .ref (G.2.1 + 2)), (1, .int l1), (2, .int l2)] [] 84 k (wX G o c)
  unfold wX2_addCell at h
  refine go_aload_n (pc := 0) dX2_addCell_0 rfl rfl ?_
  refine gb_get (pc := 1) fX2_29 rfl (gz_b (by decide)) xw2 rfl dX2_addCell_1 (fun v1 ev1 => ?_)
  have h := h v1 ev1
  refine go_istore_n (pc := 4) (lv' := [(3, .int v1), (0, .ref (G.2.1 + 2)), (1, .int l1), (2, .int l2)]) dX2_addCell_4 rfl (by decide) rfl ?_
  refine go_aload_n (pc := 5) dX2_addCell_5 rfl rfl ?_
  refine go_get (pc := 6) fX2_9 rfl (gz_b (by decide)) xw2 rfl dX2_addCell_6 ?_
  refine go_aload_n (pc := 9) dX2_addCell_9 rfl rfl ?_
  refine gb_get (pc := 10) fX2_41 rfl (gz_b (by decide)) xw2 rfl dX2_addCell_10 (fun v2 ev2 => ?_)
  have h := h v2 ev2
  refine go_iload_n (pc := 13) dX2_addCell_13 rfl rfl ?_
  refine go_bipush (pc := 14) (v := 8) dX2_addCell_14 (by decide) ?_
  refine go_imul (pc := 16) dX2_addCell_16 ?_
  refine go_iload_n (pc := 17) dX2_addCell_17 rfl rfl ?_
  refine go_iadd (pc := 18) dX2_addCell_18 ?_
  obtain ⟨b4, h⟩ := h
  refine gb_iast (pc := 19) (F := wX G o) (gz_b (by decide)) xw3 b4 xa3 dX2_addCell_19 (fun c3 ec3 => ?_)
  have h := h c3 ec3
  refine go_iload_n (pc := 20) dX2_addCell_20 rfl rfl ?_
  refine gq_callS_i (pc := 21) (F := wX G o) sX2_60 rfl (tX2_isCounted h) rfl rfl (Nat.le_of_ble_eq_true rfl) ⟨Nat.le_of_ble_eq_true rfl, Nat.le_of_ble_eq_true rfl, Nat.le_add_right _ _, Nat.le_add_right _ _⟩ dX2_addCell_21 (fun r6 c5 h => ?_)
  refine go_if_ne (pc := 24) (tgt := 50) dX2_addCell_24 (by decide) (fun q7 => ?_) (fun q7 => ?_)
  · have h := h.2 q7
    refine go_aload_n (pc := 50) dX2_addCell_50 rfl rfl ?_
    refine go_get (pc := 51) fX2_9 rfl (gz_b (by decide)) xw2 rfl dX2_addCell_51 ?_
    refine go_aload_n (pc := 54) dX2_addCell_54 rfl rfl ?_
    refine gb_get (pc := 55) fX2_41 rfl (gz_b (by decide)) xw2 rfl dX2_addCell_55 (fun v8 ev8 => ?_)
    have h := h v8 ev8
    refine go_iconst (pc := 58) (v := 1) dX2_addCell_58 (by decide) ?_
    refine go_iadd (pc := 59) dX2_addCell_59 ?_
    refine go_iload_n (pc := 60) dX2_addCell_60 rfl rfl ?_
    obtain ⟨b10, h⟩ := h
    refine gb_iast (pc := 61) (F := wX G o) (gz_b (by decide)) xw3 b10 xa3 dX2_addCell_61 (fun c9 ec9 => ?_)
    have h := h c9 ec9
    refine go_iload_n (pc := 62) dX2_addCell_62 rfl rfl ?_
    refine go_iconst (pc := 63) (v := 2) dX2_addCell_63 (by decide) ?_
    refine go_icmp_eq (pc := 64) (tgt := 89) dX2_addCell_64 (by decide) (fun q11 => ?_) (fun q11 => ?_)
    · have h := h.1 q11
      refine go_lv [1, 2, 3, 0] rfl ?_
      exact tX2_addCell_p89 h
    · have h := h.2 q11
      refine go_aload_n (pc := 67) dX2_addCell_67 rfl rfl ?_
      refine go_get (pc := 68) fX2_9 rfl (gz_b (by decide)) xw2 rfl dX2_addCell_68 ?_
      refine go_aload_n (pc := 71) dX2_addCell_71 rfl rfl ?_
      refine gb_get (pc := 72) fX2_41 rfl (gz_b (by decide)) xw2 rfl dX2_addCell_72 (fun v12 ev12 => ?_)
      have h := h v12 ev12
      refine go_iconst (pc := 75) (v := 2) dX2_addCell_75 (by decide) ?_
      refine go_iadd (pc := 76) dX2_addCell_76 ?_
      refine go_aload_n (pc := 77) dX2_addCell_77 rfl rfl ?_
      refine gb_get (pc := 78) fX2_41 rfl (gz_b (by decide)) xw2 rfl dX2_addCell_78 (fun v13 ev13 => ?_)
      have h := h v13 ev13
      refine go_iconst (pc := 81) (v := 2) dX2_addCell_81 (by decide) ?_
      refine go_iadd (pc := 82) dX2_addCell_82 ?_
      refine go_iload_n (pc := 83) dX2_addCell_83 rfl rfl ?_
      refine go_iadd (pc := 84) dX2_addCell_84 ?_
      refine go_iconst (pc := 85) (v := (-1)) dX2_addCell_85 (by decide) ?_
      obtain ⟨f15, t16, u17a, u17b, u17c, u17d, h⟩ := h
      refine gq_callS_v (pc := 86) (F := wX G o) (Q := fun q => q = mr c9 3 (fun j => if f15 ≤ j ∧ j < t16 then (-1) else c9 3 j)) sX2_44 rfl (cq_fillr (by decide) u17a u17b u17c u17d (gz_b (by decide)) xw3 xa3 rfl) rfl rfl (Nat.le_of_ble_eq_true rfl) ⟨Nat.le_of_ble_eq_true rfl, Nat.le_of_ble_eq_true rfl, Nat.le_add_right _ _, Nat.le_add_right _ _⟩ dX2_addCell_86 (fun c14 ec14 => ?_)
      have h := h c14 ec14
      refine go_lv [1, 2, 3, 0] rfl ?_
      exact tX2_addCell_p89 h
  · have h := h.1 q7
    refine go_aload_n (pc := 27) dX2_addCell_27 rfl rfl ?_
    refine go_get (pc := 28) fX2_9 rfl (gz_b (by decide)) xw2 rfl dX2_addCell_28 ?_
    refine go_aload_n (pc := 31) dX2_addCell_31 rfl rfl ?_
    refine gb_get (pc := 32) fX2_41 rfl (gz_b (by decide)) xw2 rfl dX2_addCell_32 (fun v18 ev18 => ?_)
    have h := h v18 ev18
    refine go_iconst (pc := 35) (v := 1) dX2_addCell_35 (by decide) ?_
    refine go_iadd (pc := 36) dX2_addCell_36 ?_
    refine go_aload_n (pc := 37) dX2_addCell_37 rfl rfl ?_
    refine gb_get (pc := 38) fX2_41 rfl (gz_b (by decide)) xw2 rfl dX2_addCell_38 (fun v19 ev19 => ?_)
    have h := h v19 ev19
    refine go_iconst (pc := 41) (v := 3) dX2_addCell_41 (by decide) ?_
    refine go_iadd (pc := 42) dX2_addCell_42 ?_
    refine go_iconst (pc := 43) (v := (-1)) dX2_addCell_43 (by decide) ?_
    obtain ⟨f21, t22, u23a, u23b, u23c, u23d, h⟩ := h
    refine gq_callS_v (pc := 44) (F := wX G o) (Q := fun q => q = mr c5 3 (fun j => if f21 ≤ j ∧ j < t22 then (-1) else c5 3 j)) sX2_44 rfl (cq_fillr (by decide) u23a u23b u23c u23d (gz_b (by decide)) xw3 xa3 rfl) rfl rfl (Nat.le_of_ble_eq_true rfl) ⟨Nat.le_of_ble_eq_true rfl, Nat.le_of_ble_eq_true rfl, Nat.le_add_right _ _, Nat.le_add_right _ _⟩ dX2_addCell_44 (fun c20 ec20 => ?_)
    have h := h c20 ec20
    refine go_goto (pc := 47) (tgt := 89) dX2_addCell_47 (by decide) ?_
    refine go_lv [1, 2, 3, 0] rfl ?_
    exact tX2_addCell_p89 h
def wX2_has (l1 : Int32) (c : gMem) (Q : Int32 → gMem → Prop) : Prop :=
  ((l1 < 0 →
    Q 0 c) ∧
   (¬ l1 < 0 →
    ∀ v2, v2 = c 2 2 →
    ((v2 ≤ l1 →
      Q 0 c) ∧
     (¬ v2 ≤ l1 →
      vp_in l1 500 ∧
      ∀ v4, v4 = c 4 l1.toNatClampNeg →
      ((v4 < 0 →
        Q 0 c) ∧
       (¬ v4 < 0 →
        Q 1 c))))))
set_option maxRecDepth 100000 in
set_option maxHeartbeats 4000000 in
theorem tX2_has {l : Launch} {G : gG} {k : Nat} {o : gMem} {Q : Int32 → gMem → Prop} {l1 : Int32} {c : gMem} (h : wX2_has l1 c Q) : Cq l G mX2_has 0 0 [.ref (G.2.1 + 2), .int l1] 84 k (wX G o c) (qi (wX G o) Q) := by
  refine Cq.of (by decide) (Nat.le_of_ble_eq_true rfl) ?_
  show Go l G mX2_has (gbq G 0 0 84 k (qi (wX G o) Q)) 0 [(0, .ref (G.2.1 + 2)), (1, .int l1)] [] 84 k (wX G o c)
  unfold wX2_has at h
  refine go_iload_n (pc := 0) dX2_has_0 rfl rfl ?_
  refine go_if_lt (pc := 1) (tgt := 25) dX2_has_1 (by decide) (fun q1 => ?_) (fun q1 => ?_)
  · have h := h.1 q1
    refine go_iconst (pc := 25) (v := 0) dX2_has_25 (by decide) ?_
    exact gq_zret (pc := 26) (F := wX G o) rfl (by decide) dX2_has_26 h
  · have h := h.2 q1
    refine go_iload_n (pc := 4) dX2_has_4 rfl rfl ?_
    refine go_aload_n (pc := 5) dX2_has_5 rfl rfl ?_
    refine gb_get (pc := 6) fX2_29 rfl (gz_b (by decide)) xw2 rfl dX2_has_6 (fun v2 ev2 => ?_)
    have h := h v2 ev2
    refine go_icmp_ge (pc := 9) (tgt := 25) dX2_has_9 (by decide) (fun q3 => ?_) (fun q3 => ?_)
    · have h := h.1 q3
      refine go_iconst (pc := 25) (v := 0) dX2_has_25 (by decide) ?_
      exact gq_zret (pc := 26) (F := wX G o) rfl (by decide) dX2_has_26 h
    · have h := h.2 q3
      refine go_aload_n (pc := 12) dX2_has_12 rfl rfl ?_
      refine go_get (pc := 13) fX2_15 rfl (gz_b (by decide)) xw2 rfl dX2_has_13 ?_
      refine go_iload_n (pc := 16) dX2_has_16 rfl rfl ?_
      obtain ⟨b5, h⟩ := h
      refine gb_iald (pc := 17) (gz_b (by decide)) xw4 b5 dX2_has_17 (fun v4 ev4 => ?_)
      have h := h v4 ev4
      refine go_if_lt (pc := 18) (tgt := 25) dX2_has_18 (by decide) (fun q6 => ?_) (fun q6 => ?_)
      · have h := h.1 q6
        refine go_iconst (pc := 25) (v := 0) dX2_has_25 (by decide) ?_
        exact gq_zret (pc := 26) (F := wX G o) rfl (by decide) dX2_has_26 h
      · have h := h.2 q6
        refine go_iconst (pc := 21) (v := 1) dX2_has_21 (by decide) ?_
        refine go_goto (pc := 22) (tgt := 26) dX2_has_22 (by decide) ?_
        exact gq_zret (pc := 26) (F := wX G o) rfl (by decide) dX2_has_26 h
def wX3_add (l1 : Int32) (l2 : Int32) (l3 : Int32) (l4 : Int32) (c : gMem) (Q : gMem → Prop) : Prop :=
  vp_in l1 500 ∧
  ∀ v1, v1 = c 8 l1.toNatClampNeg →
  ((v1 = 0 →
    ∀ v4, v4 = c 6 1 →
    ((v4 < 500 →
      ∀ v6, v6 = c 6 1 →
      vp_in v6 500 ∧
      ∀ c7, c7 = mp c 7 v6.toNatClampNeg l1 →
      ∀ v9, v9 = c7 6 1 →
      ∀ c10, c10 = mp c7 6 1 (v9 + 1) →
      ∀ v11, v11 = c10 6 1 →
      vp_in l1 500 ∧
      ∀ c12, c12 = mp c10 8 l1.toNatClampNeg v11 →
      vp_in l1 500 ∧
      ∀ c14, c14 = mp c12 9 l1.toNatClampNeg l2 →
      vp_in l1 500 ∧
      ∀ c16, c16 = mp c14 10 l1.toNatClampNeg l3 →
      vp_in l1 500 ∧
      ∀ c18, c18 = mp c16 11 l1.toNatClampNeg l4 →
      Q c18) ∧
     (¬ v4 < 500 →
      Q c))) ∧
   (¬ v1 = 0 →
    Q c))
set_option maxRecDepth 100000 in
set_option maxHeartbeats 4000000 in
theorem tX3_add {l : Launch} {G : gG} {k : Nat} {o : gMem} {Q : gMem → Prop} {l1 : Int32} {l2 : Int32} {l3 : Int32} {l4 : Int32} {c : gMem} (h : wX3_add l1 l2 l3 l4 c Q) : Cq l G mX3_add 0 0 [.ref (G.2.1 + 6), .int l1, .int l2, .int l3, .int l4] 84 k (wX G o c) (qv (wX G o) Q) := by
  refine Cq.of (by decide) (Nat.le_of_ble_eq_true rfl) ?_
  show Go l G mX3_add (gbq G 0 0 84 k (qv (wX G o) Q)) 0 [(0, .ref (G.2.1 + 6)), (1, .int l1), (2, .int l2), (3, .int l3), (4, .int l4)] [] 84 k (wX G o c)
  unfold wX3_add at h
  refine go_aload_n (pc := 0) dX3_add_0 rfl rfl ?_
  refine go_get (pc := 1) fX3_15 rfl (gz_b (by decide)) xw6 rfl dX3_add_1 ?_
  refine go_iload_n (pc := 4) dX3_add_4 rfl rfl ?_
  obtain ⟨b2, h⟩ := h
  refine gb_iald (pc := 5) (gz_b (by decide)) xw8 b2 dX3_add_5 (fun v1 ev1 => ?_)
  have h := h v1 ev1
  refine go_if_ne (pc := 6) (tgt := 19) dX3_add_6 (by decide) (fun q3 => ?_) (fun q3 => ?_)
  · have h := h.2 q3
    exact gq_vret (pc := 19) (F := wX G o) rfl dX3_add_19 h
  · have h := h.1 q3
    refine go_aload_n (pc := 9) dX3_add_9 rfl rfl ?_
    refine gb_get (pc := 10) fX3_31 rfl (gz_b (by decide)) xw6 rfl dX3_add_10 (fun v4 ev4 => ?_)
    have h := h v4 ev4
    refine go_sipush (pc := 13) (v := 500) dX3_add_13 (by decide) ?_
    refine go_icmp_lt (pc := 16) (tgt := 20) dX3_add_16 (by decide) (fun q5 => ?_) (fun q5 => ?_)
    · have h := h.1 q5
      refine go_aload_n (pc := 20) dX3_add_20 rfl rfl ?_
      refine go_get (pc := 21) fX3_9 rfl (gz_b (by decide)) xw6 rfl dX3_add_21 ?_
      refine go_aload_n (pc := 24) dX3_add_24 rfl rfl ?_
      refine gb_get (pc := 25) fX3_31 rfl (gz_b (by decide)) xw6 rfl dX3_add_25 (fun v6 ev6 => ?_)
      have h := h v6 ev6
      refine go_iload_n (pc := 28) dX3_add_28 rfl rfl ?_
      obtain ⟨b8, h⟩ := h
      refine gb_iast (pc := 29) (F := wX G o) (gz_b (by decide)) xw7 b8 xa7 dX3_add_29 (fun c7 ec7 => ?_)
      have h := h c7 ec7
      refine go_aload_n (pc := 30) dX3_add_30 rfl rfl ?_
      refine go_dup (pc := 31) dX3_add_31 rfl ?_
      refine gb_get (pc := 32) fX3_31 rfl (gz_b (by decide)) xw6 rfl dX3_add_32 (fun v9 ev9 => ?_)
      have h := h v9 ev9
      refine go_iconst (pc := 35) (v := 1) dX3_add_35 (by decide) ?_
      refine go_iadd (pc := 36) dX3_add_36 ?_
      refine gb_put (pc := 37) (F := wX G o) fX3_31 rfl (gz_b (by decide)) xw6 (Nat.le_of_ble_eq_true rfl) rfl rfl xp6_1 dX3_add_37 (fun c10 ec10 => ?_)
      have h := h c10 ec10
      refine go_aload_n (pc := 40) dX3_add_40 rfl rfl ?_
      refine go_get (pc := 41) fX3_15 rfl (gz_b (by decide)) xw6 rfl dX3_add_41 ?_
      refine go_iload_n (pc := 44) dX3_add_44 rfl rfl ?_
      refine go_aload_n (pc := 45) dX3_add_45 rfl rfl ?_
      refine gb_get (pc := 46) fX3_31 rfl (gz_b (by decide)) xw6 rfl dX3_add_46 (fun v11 ev11 => ?_)
      have h := h v11 ev11
      obtain ⟨b13, h⟩ := h
      refine gb_iast (pc := 49) (F := wX G o) (gz_b (by decide)) xw8 b13 xa8 dX3_add_49 (fun c12 ec12 => ?_)
      have h := h c12 ec12
      refine go_aload_n (pc := 50) dX3_add_50 rfl rfl ?_
      refine go_get (pc := 51) fX3_18 rfl (gz_b (by decide)) xw6 rfl dX3_add_51 ?_
      refine go_iload_n (pc := 54) dX3_add_54 rfl rfl ?_
      refine go_iload_n (pc := 55) dX3_add_55 rfl rfl ?_
      obtain ⟨b15, h⟩ := h
      refine gb_iast (pc := 56) (F := wX G o) (gz_b (by decide)) xw9 b15 xa9 dX3_add_56 (fun c14 ec14 => ?_)
      have h := h c14 ec14
      refine go_aload_n (pc := 57) dX3_add_57 rfl rfl ?_
      refine go_get (pc := 58) fX3_21 rfl (gz_b (by decide)) xw6 rfl dX3_add_58 ?_
      refine go_iload_n (pc := 61) dX3_add_61 rfl rfl ?_
      refine go_iload_n (pc := 62) dX3_add_62 rfl rfl ?_
      obtain ⟨b17, h⟩ := h
      refine gb_iast (pc := 63) (F := wX G o) (gz_b (by decide)) xw10 b17 xa10 dX3_add_63 (fun c16 ec16 => ?_)
      have h := h c16 ec16
      refine go_aload_n (pc := 64) dX3_add_64 rfl rfl ?_
      refine go_get (pc := 65) fX3_24 rfl (gz_b (by decide)) xw6 rfl dX3_add_65 ?_
      refine go_iload_n (pc := 68) dX3_add_68 rfl rfl ?_
      refine go_iload (pc := 69) dX3_add_69 rfl ?_
      obtain ⟨b19, h⟩ := h
      refine gb_iast (pc := 71) (F := wX G o) (gz_b (by decide)) xw11 b19 xa11 dX3_add_71 (fun c18 ec18 => ?_)
      have h := h c18 ec18
      exact gq_vret (pc := 72) (F := wX G o) rfl dX3_add_72 h
    · have h := h.2 q5
      exact gq_vret (pc := 19) (F := wX G o) rfl dX3_add_19 h
def wX7_mark (l1 : Int32) (l2 : Int32) (l3 : Int32) (l4 : Int32) (c : gMem) (Q : gMem → Prop) : Prop :=
  ∀ v1, v1 = c 6 0 →
  ((v1 = 0 →
    Q c) ∧
   (¬ v1 = 0 →
    wX2_has l1 c (fun r4 c3 =>
    ((r4 = 0 →
      Q c3) ∧
     (¬ r4 = 0 →
      wX3_add l1 l2 l3 l4 c3 (fun c6 =>
      Q c6))))))
set_option maxRecDepth 100000 in
set_option maxHeartbeats 4000000 in
theorem tX7_mark {l : Launch} {G : gG} {k : Nat} {o : gMem} {Q : gMem → Prop} {l1 : Int32} {l2 : Int32} {l3 : Int32} {l4 : Int32} {c : gMem} (h : wX7_mark l1 l2 l3 l4 c Q) : Cq l G mX7_mark 1 24 [.ref (G.2.1 + 65), .int l1, .int l2, .int l3, .int l4] 84 k (wX G o c) (qv (wX G o) Q) := by
  refine Cq.of (by decide) (Nat.le_of_ble_eq_true rfl) ?_
  show Go l G mX7_mark (gbq G 1 24 84 k (qv (wX G o) Q)) 0 [(0, .ref (G.2.1 + 65)), (1, .int l1), (2, .int l2), (3, .int l3), (4, .int l4)] [] 84 k (wX G o c)
  unfold wX7_mark at h
  refine go_aload_n (pc := 0) dX7_mark_0 rfl rfl ?_
  refine go_get (pc := 1) fX7_36 rfl (gz_b (by decide)) xw65 rfl dX7_mark_1 ?_
  refine gb_get (pc := 4) fX7_40 rfl (gz_b (by decide)) xw6 rfl dX7_mark_4 (fun v1 ev1 => ?_)
  have h := h v1 ev1
  refine go_if_eq (pc := 7) (tgt := 33) dX7_mark_7 (by decide) (fun q2 => ?_) (fun q2 => ?_)
  · have h := h.1 q2
    exact gq_vret (pc := 33) (F := wX G o) rfl dX7_mark_33 h
  · have h := h.2 q2
    refine go_aload_n (pc := 10) dX7_mark_10 rfl rfl ?_
    refine go_get (pc := 11) fX7_31 rfl (gz_b (by decide)) xw65 rfl dX7_mark_11 ?_
    refine go_iload_n (pc := 14) dX7_mark_14 rfl rfl ?_
    refine gq_callV_i (pc := 15) (F := wX G o) vX7_61 rfl (tX2_has h) rfl rfl (gz_b (by decide)) xw2 rfl (Nat.le_of_ble_eq_true rfl) ⟨Nat.le_of_ble_eq_true rfl, Nat.le_of_ble_eq_true rfl, Nat.le_add_right _ _, Nat.le_add_right _ _⟩ dX7_mark_15 (fun r4 c3 h => ?_)
    refine go_if_eq (pc := 18) (tgt := 33) dX7_mark_18 (by decide) (fun q5 => ?_) (fun q5 => ?_)
    · have h := h.1 q5
      exact gq_vret (pc := 33) (F := wX G o) rfl dX7_mark_33 h
    · have h := h.2 q5
      refine go_aload_n (pc := 21) dX7_mark_21 rfl rfl ?_
      refine go_get (pc := 22) fX7_36 rfl (gz_b (by decide)) xw65 rfl dX7_mark_22 ?_
      refine go_iload_n (pc := 25) dX7_mark_25 rfl rfl ?_
      refine go_iload_n (pc := 26) dX7_mark_26 rfl rfl ?_
      refine go_iload_n (pc := 27) dX7_mark_27 rfl rfl ?_
      refine go_iload (pc := 28) dX7_mark_28 rfl ?_
      refine gq_callV_v (pc := 30) (F := wX G o) vX7_67 rfl (tX3_add h) rfl rfl (gz_b (by decide)) xw6 rfl (Nat.le_of_ble_eq_true rfl) ⟨Nat.le_of_ble_eq_true rfl, Nat.le_of_ble_eq_true rfl, Nat.le_add_right _ _, Nat.le_add_right _ _⟩ dX7_mark_30 (fun c6 h => ?_)
      exact gq_vret (pc := 33) (F := wX G o) rfl dX7_mark_33 h
def wX2_linksOf_p56 (l1 : Int32) (c : gMem) (Q : Int32 → gMem → Prop) : Prop :=
  vp_in l1 500 ∧
  ∀ v1, v1 = c 4 l1.toNatClampNeg →
  vp_in (v1 + 1) 4000 ∧
  ∀ v3, v3 = c 3 (v1 + 1).toNatClampNeg →
  Q v3 c
set_option maxRecDepth 100000 in
set_option maxHeartbeats 4000000 in
theorem tX2_linksOf_p56 {l : Launch} {G : gG} {k : Nat} {o : gMem} {Q : Int32 → gMem → Prop} {l1 : Int32} {c : gMem} (h : wX2_linksOf_p56 l1 c Q) : Go l G mX2_linksOf (gbq G 0 0 84 k (qi (wX G o) Q)) 56 [(0, .ref (G.2.1 + 2)), (1, .int l1)] [] 84 k (wX G o c) := by
  unfold wX2_linksOf_p56 at h
  refine go_aload_n (pc := 56) dX2_linksOf_56 rfl rfl ?_
  refine go_get (pc := 57) fX2_9 rfl (gz_b (by decide)) xw2 rfl dX2_linksOf_57 ?_
  refine go_aload_n (pc := 60) dX2_linksOf_60 rfl rfl ?_
  refine go_get (pc := 61) fX2_15 rfl (gz_b (by decide)) xw2 rfl dX2_linksOf_61 ?_
  refine go_iload_n (pc := 64) dX2_linksOf_64 rfl rfl ?_
  obtain ⟨b2, h⟩ := h
  refine gb_iald (pc := 65) (gz_b (by decide)) xw4 b2 dX2_linksOf_65 (fun v1 ev1 => ?_)
  have h := h v1 ev1
  refine go_iconst (pc := 66) (v := 1) dX2_linksOf_66 (by decide) ?_
  refine go_iadd (pc := 67) dX2_linksOf_67 ?_
  obtain ⟨b4, h⟩ := h
  refine gb_iald (pc := 68) (gz_b (by decide)) xw3 b4 dX2_linksOf_68 (fun v3 ev3 => ?_)
  have h := h v3 ev3
  exact gq_iret (pc := 69) (F := wX G o) rfl dX2_linksOf_69 h
def wX2_linksOf (l1 : Int32) (c : gMem) (Q : Int32 → gMem → Prop) : Prop :=
  vp_in l1 500 ∧
  ∀ v1, v1 = c 4 l1.toNatClampNeg →
  vp_in v1 4000 ∧
  ∀ v3, v3 = c 3 v1.toNatClampNeg →
  (((v3 &&& 7).toInt < 0 ∨ 5 < (v3 &&& 7).toInt →
    Q 1 c) ∧
   (v3 &&& 7 = 0 →
    Q 2 c) ∧
   (v3 &&& 7 = 1 →
    wX2_linksOf_p56 l1 c Q) ∧
   (v3 &&& 7 = 2 →
    Q 0 c) ∧
   (v3 &&& 7 = 3 →
    Q 1 c) ∧
   (v3 &&& 7 = 4 →
    Q 1 c) ∧
   (v3 &&& 7 = 5 →
    wX2_linksOf_p56 l1 c Q))
set_option maxRecDepth 100000 in
set_option maxHeartbeats 4000000 in
theorem tX2_linksOf {l : Launch} {G : gG} {k : Nat} {o : gMem} {Q : Int32 → gMem → Prop} {l1 : Int32} {c : gMem} (h : wX2_linksOf l1 c Q) : Cq l G mX2_linksOf 0 0 [.ref (G.2.1 + 2), .int l1] 84 k (wX G o c) (qi (wX G o) Q) := by
  refine Cq.of (by decide) (Nat.le_of_ble_eq_true rfl) ?_
  show Go l G mX2_linksOf (gbq G 0 0 84 k (qi (wX G o) Q)) 0 [(0, .ref (G.2.1 + 2)), (1, .int l1)] [] 84 k (wX G o c)
  unfold wX2_linksOf at h
  refine go_aload_n (pc := 0) dX2_linksOf_0 rfl rfl ?_
  refine go_get (pc := 1) fX2_9 rfl (gz_b (by decide)) xw2 rfl dX2_linksOf_1 ?_
  refine go_aload_n (pc := 4) dX2_linksOf_4 rfl rfl ?_
  refine go_get (pc := 5) fX2_15 rfl (gz_b (by decide)) xw2 rfl dX2_linksOf_5 ?_
  refine go_iload_n (pc := 8) dX2_linksOf_8 rfl rfl ?_
  obtain ⟨b2, h⟩ := h
  refine gb_iald (pc := 9) (gz_b (by decide)) xw4 b2 dX2_linksOf_9 (fun v1 ev1 => ?_)
  have h := h v1 ev1
  obtain ⟨b4, h⟩ := h
  refine gb_iald (pc := 10) (gz_b (by decide)) xw3 b4 dX2_linksOf_10 (fun v3 ev3 => ?_)
  have h := h v3 ev3
  refine go_bipush (pc := 11) (v := 7) dX2_linksOf_11 (by decide) ?_
  refine go_iand (pc := 13) dX2_linksOf_13 ?_
  by_cases q5 : (v3 &&& 7).toInt < 0 ∨ 5 < (v3 &&& 7).toInt
  · refine go_tableOut (pc := 14) (tgt := 70) dX2_linksOf_14 q5 (by decide) ?_
    have h := h.1 q5
    refine go_iconst (pc := 70) (v := 1) dX2_linksOf_70 (by decide) ?_
    exact gq_iret (pc := 71) (F := wX G o) rfl dX2_linksOf_71 h
  have q5a : (v3 &&& 7).toInt = 0 ∨ (v3 &&& 7).toInt = 1 ∨ (v3 &&& 7).toInt = 2 ∨ (v3 &&& 7).toInt = 3 ∨ (v3 &&& 7).toInt = 4 ∨ (v3 &&& 7).toInt = 5 := by omega
  rcases q5a with q5b | q5b | q5b | q5b | q5b | q5b
  · have q5c : v3 &&& 7 = 0 := gt_eq q5b _ (by decide)
    refine go_tableIn (pc := 14) (off := 38) (tgt := 52) dX2_linksOf_14 (by rw [q5b]; decide) (by rw [q5b]; decide) (by rw [q5b]; rfl) (by decide) ?_
    have h := h.2.1 q5c
    refine go_iconst (pc := 52) (v := 2) dX2_linksOf_52 (by decide) ?_
    exact gq_iret (pc := 53) (F := wX G o) rfl dX2_linksOf_53 h
  · have q5c : v3 &&& 7 = 1 := gt_eq q5b _ (by decide)
    refine go_tableIn (pc := 14) (off := 42) (tgt := 56) dX2_linksOf_14 (by rw [q5b]; decide) (by rw [q5b]; decide) (by rw [q5b]; rfl) (by decide) ?_
    have h := h.2.2.1 q5c
    refine go_lv [0, 1] rfl ?_
    exact tX2_linksOf_p56 h
  · have q5c : v3 &&& 7 = 2 := gt_eq q5b _ (by decide)
    refine go_tableIn (pc := 14) (off := 40) (tgt := 54) dX2_linksOf_14 (by rw [q5b]; decide) (by rw [q5b]; decide) (by rw [q5b]; rfl) (by decide) ?_
    have h := h.2.2.2.1 q5c
    refine go_iconst (pc := 54) (v := 0) dX2_linksOf_54 (by decide) ?_
    exact gq_iret (pc := 55) (F := wX G o) rfl dX2_linksOf_55 h
  · have q5c : v3 &&& 7 = 3 := gt_eq q5b _ (by decide)
    refine go_tableIn (pc := 14) (off := 56) (tgt := 70) dX2_linksOf_14 (by rw [q5b]; decide) (by rw [q5b]; decide) (by rw [q5b]; rfl) (by decide) ?_
    have h := h.2.2.2.2.1 q5c
    refine go_iconst (pc := 70) (v := 1) dX2_linksOf_70 (by decide) ?_
    exact gq_iret (pc := 71) (F := wX G o) rfl dX2_linksOf_71 h
  · have q5c : v3 &&& 7 = 4 := gt_eq q5b _ (by decide)
    refine go_tableIn (pc := 14) (off := 56) (tgt := 70) dX2_linksOf_14 (by rw [q5b]; decide) (by rw [q5b]; decide) (by rw [q5b]; rfl) (by decide) ?_
    have h := h.2.2.2.2.2.1 q5c
    refine go_iconst (pc := 70) (v := 1) dX2_linksOf_70 (by decide) ?_
    exact gq_iret (pc := 71) (F := wX G o) rfl dX2_linksOf_71 h
  · have q5c : v3 &&& 7 = 5 := gt_eq q5b _ (by decide)
    refine go_tableIn (pc := 14) (off := 42) (tgt := 56) dX2_linksOf_14 (by rw [q5b]; decide) (by rw [q5b]; decide) (by rw [q5b]; rfl) (by decide) ?_
    have h := h.2.2.2.2.2.2 q5c
    refine go_lv [0, 1] rfl ?_
    exact tX2_linksOf_p56 h
def wX7_goToOpenLink_p0_b (P0 : gMem → Prop) (c : gMem) (Q : Int32 → gMem → Prop) : Prop :=
  ∀ v1, v1 = c 6 2 →
  ∀ v2, v2 = c 6 1 →
  ((v2 ≤ v1 →
    Q 0 c) ∧
   (¬ v2 ≤ v1 →
    ∀ v4, v4 = c 6 3 →
    ∀ v5, v5 = c 6 2 →
    vp_in v5 500 ∧
    ∀ v6, v6 = c 7 v5.toNatClampNeg →
    wX2_linksOf v6 c (fun r9 c8 =>
    ((r9 ≤ v4 →
      ∀ v11, v11 = c8 6 2 →
      ∀ c12, c12 = mp c8 6 2 (v11 + 1) →
      ∀ c13, c13 = mp c12 6 3 0 →
      P0 c13) ∧
     (¬ r9 ≤ v4 →
      Q 1 c8)))))
def wX7_goToOpenLink_p0 (c : gMem) (Q : Int32 → gMem → Prop) : Prop :=
  ∀ P0 : gMem → Prop, (∀ (c : gMem), wX7_goToOpenLink_p0_b P0 c Q → P0 c) → P0 c
set_option maxRecDepth 100000 in
set_option maxHeartbeats 4000000 in
theorem tX7_goToOpenLink_p0_b {l : Launch} {G : gG} {k : Nat} {o : gMem} {Q : Int32 → gMem → Prop} {P0 : gMem → Prop} (hP0 : ∀ (c : gMem), P0 c → Go l G mX7_goToOpenLink (gbq G 1 21 84 k (qi (wX G o) Q)) 0 [(0, .ref (G.2.1 + 65))] [] 84 k (wX G o c)) {c : gMem} (h : wX7_goToOpenLink_p0_b P0 c Q) : Go l G mX7_goToOpenLink (gbq G 1 21 84 k (qi (wX G o) Q)) 0 [(0, .ref (G.2.1 + 65))] [] 84 k (wX G o c) := by
  unfold wX7_goToOpenLink_p0_b at h
  refine go_aload_n (pc := 0) dX7_goToOpenLink_0 rfl rfl ?_
  refine go_get (pc := 1) fX7_36 rfl (gz_b (by decide)) xw65 rfl dX7_goToOpenLink_1 ?_
  refine gb_get (pc := 4) fX7_83 rfl (gz_b (by decide)) xw6 rfl dX7_goToOpenLink_4 (fun v1 ev1 => ?_)
  have h := h v1 ev1
  refine go_aload_n (pc := 7) dX7_goToOpenLink_7 rfl rfl ?_
  refine go_get (pc := 8) fX7_36 rfl (gz_b (by decide)) xw65 rfl dX7_goToOpenLink_8 ?_
  refine gb_get (pc := 11) fX7_96 rfl (gz_b (by decide)) xw6 rfl dX7_goToOpenLink_11 (fun v2 ev2 => ?_)
  have h := h v2 ev2
  refine go_icmp_ge (pc := 14) (tgt := 75) dX7_goToOpenLink_14 (by decide) (fun q3 => ?_) (fun q3 => ?_)
  · have h := h.1 q3
    refine go_iconst (pc := 75) (v := 0) dX7_goToOpenLink_75 (by decide) ?_
    exact gq_zret (pc := 76) (F := wX G o) rfl (by decide) dX7_goToOpenLink_76 h
  · have h := h.2 q3
    refine go_aload_n (pc := 17) dX7_goToOpenLink_17 rfl rfl ?_
    refine go_get (pc := 18) fX7_36 rfl (gz_b (by decide)) xw65 rfl dX7_goToOpenLink_18 ?_
    refine gb_get (pc := 21) fX7_87 rfl (gz_b (by decide)) xw6 rfl dX7_goToOpenLink_21 (fun v4 ev4 => ?_)
    have h := h v4 ev4
    refine go_aload_n (pc := 24) dX7_goToOpenLink_24 rfl rfl ?_
    refine go_get (pc := 25) fX7_31 rfl (gz_b (by decide)) xw65 rfl dX7_goToOpenLink_25 ?_
    refine go_aload_n (pc := 28) dX7_goToOpenLink_28 rfl rfl ?_
    refine go_get (pc := 29) fX7_36 rfl (gz_b (by decide)) xw65 rfl dX7_goToOpenLink_29 ?_
    refine go_get (pc := 32) fX7_80 rfl (gz_b (by decide)) xw6 rfl dX7_goToOpenLink_32 ?_
    refine go_aload_n (pc := 35) dX7_goToOpenLink_35 rfl rfl ?_
    refine go_get (pc := 36) fX7_36 rfl (gz_b (by decide)) xw65 rfl dX7_goToOpenLink_36 ?_
    refine gb_get (pc := 39) fX7_83 rfl (gz_b (by decide)) xw6 rfl dX7_goToOpenLink_39 (fun v5 ev5 => ?_)
    have h := h v5 ev5
    obtain ⟨b7, h⟩ := h
    refine gb_iald (pc := 42) (gz_b (by decide)) xw7 b7 dX7_goToOpenLink_42 (fun v6 ev6 => ?_)
    have h := h v6 ev6
    refine gq_callV_i (pc := 43) (F := wX G o) vX7_99 rfl (tX2_linksOf h) rfl rfl (gz_b (by decide)) xw2 rfl (Nat.le_of_ble_eq_true rfl) ⟨Nat.le_of_ble_eq_true rfl, Nat.le_of_ble_eq_true rfl, Nat.le_add_right _ _, Nat.le_add_right _ _⟩ dX7_goToOpenLink_43 (fun r9 c8 h => ?_)
    refine go_icmp_ge (pc := 46) (tgt := 51) dX7_goToOpenLink_46 (by decide) (fun q10 => ?_) (fun q10 => ?_)
    · have h := h.1 q10
      refine go_aload_n (pc := 51) dX7_goToOpenLink_51 rfl rfl ?_
      refine go_get (pc := 52) fX7_36 rfl (gz_b (by decide)) xw65 rfl dX7_goToOpenLink_52 ?_
      refine go_dup (pc := 55) dX7_goToOpenLink_55 rfl ?_
      refine gb_get (pc := 56) fX7_83 rfl (gz_b (by decide)) xw6 rfl dX7_goToOpenLink_56 (fun v11 ev11 => ?_)
      have h := h v11 ev11
      refine go_iconst (pc := 59) (v := 1) dX7_goToOpenLink_59 (by decide) ?_
      refine go_iadd (pc := 60) dX7_goToOpenLink_60 ?_
      refine gb_put (pc := 61) (F := wX G o) fX7_83 rfl (gz_b (by decide)) xw6 (Nat.le_of_ble_eq_true rfl) rfl rfl xp6_2 dX7_goToOpenLink_61 (fun c12 ec12 => ?_)
      have h := h c12 ec12
      refine go_aload_n (pc := 64) dX7_goToOpenLink_64 rfl rfl ?_
      refine go_get (pc := 65) fX7_36 rfl (gz_b (by decide)) xw65 rfl dX7_goToOpenLink_65 ?_
      refine go_iconst (pc := 68) (v := 0) dX7_goToOpenLink_68 (by decide) ?_
      refine gb_put (pc := 69) (F := wX G o) fX7_87 rfl (gz_b (by decide)) xw6 (Nat.le_of_ble_eq_true rfl) rfl rfl xp6_3 dX7_goToOpenLink_69 (fun c13 ec13 => ?_)
      have h := h c13 ec13
      refine go_goto (pc := 72) (tgt := 0) dX7_goToOpenLink_72 (by decide) ?_
      refine go_lv [0] rfl ?_
      exact hP0 _ h
    · have h := h.2 q10
      refine go_iconst (pc := 49) (v := 1) dX7_goToOpenLink_49 (by decide) ?_
      exact gq_zret (pc := 50) (F := wX G o) rfl (by decide) dX7_goToOpenLink_50 h
set_option maxRecDepth 100000 in
set_option maxHeartbeats 4000000 in
theorem tX7_goToOpenLink_p0 {l : Launch} {G : gG} {k : Nat} {o : gMem} {Q : Int32 → gMem → Prop} {c : gMem} (h : wX7_goToOpenLink_p0 c Q) : Go l G mX7_goToOpenLink (gbq G 1 21 84 k (qi (wX G o) Q)) 0 [(0, .ref (G.2.1 + 65))] [] 84 k (wX G o c) :=
  h (fun c => Go l G mX7_goToOpenLink (gbq G 1 21 84 k (qi (wX G o) Q)) 0 [(0, .ref (G.2.1 + 65))] [] 84 k (wX G o c)) (fun c hb => tX7_goToOpenLink_p0_b (fun c hh => hh) hb)
def wX7_goToOpenLink (c : gMem) (Q : Int32 → gMem → Prop) : Prop :=
  wX7_goToOpenLink_p0 c Q
set_option maxRecDepth 100000 in
set_option maxHeartbeats 4000000 in
theorem tX7_goToOpenLink {l : Launch} {G : gG} {k : Nat} {o : gMem} {Q : Int32 → gMem → Prop} {c : gMem} (h : wX7_goToOpenLink c Q) : Cq l G mX7_goToOpenLink 1 21 [.ref (G.2.1 + 65)] 84 k (wX G o c) (qi (wX G o) Q) := by
  refine Cq.of (by decide) (Nat.le_of_ble_eq_true rfl) ?_
  show Go l G mX7_goToOpenLink (gbq G 1 21 84 k (qi (wX G o) Q)) 0 [(0, .ref (G.2.1 + 65))] [] 84 k (wX G o c)
  unfold wX7_goToOpenLink at h
  refine go_lv [0] rfl ?_
  exact tX7_goToOpenLink_p0 h
def wX2_linkPlace_p36 (s0 : Int32) (s1 : Int32) (c : gMem) (Q : Int32 → gMem → Prop) : Prop :=
  Q (s1 + s0) c
set_option maxRecDepth 100000 in
set_option maxHeartbeats 4000000 in
theorem tX2_linkPlace_p36 {l : Launch} {G : gG} {k : Nat} {o : gMem} {Q : Int32 → gMem → Prop} {s0 : Int32} {s1 : Int32} {c : gMem} (h : wX2_linkPlace_p36 s0 s1 c Q) : Go l G mX2_linkPlace (gbq G 0 0 84 k (qi (wX G o) Q)) 36 [] [.int s0, .int s1] 84 k (wX G o c) := by
  unfold wX2_linkPlace_p36 at h
  refine go_iadd (pc := 36) dX2_linkPlace_36 ?_
  exact gq_iret (pc := 37) (F := wX G o) rfl dX2_linkPlace_37 h
def wX2_linkPlace_p31 (s0 : Int32) (c : gMem) (Q : Int32 → gMem → Prop) : Prop :=
  wX2_linkPlace_p36 2 s0 c Q
set_option maxRecDepth 100000 in
set_option maxHeartbeats 4000000 in
theorem tX2_linkPlace_p31 {l : Launch} {G : gG} {k : Nat} {o : gMem} {Q : Int32 → gMem → Prop} {s0 : Int32} {c : gMem} (h : wX2_linkPlace_p31 s0 c Q) : Go l G mX2_linkPlace (gbq G 0 0 84 k (qi (wX G o) Q)) 31 [] [.int s0] 84 k (wX G o c) := by
  unfold wX2_linkPlace_p31 at h
  refine go_iconst (pc := 31) (v := 2) dX2_linkPlace_31 (by decide) ?_
  refine go_goto (pc := 32) (tgt := 36) dX2_linkPlace_32 (by decide) ?_
  refine go_lv [] rfl ?_
  exact tX2_linkPlace_p36 h
def wX2_linkPlace (l1 : Int32) (c : gMem) (Q : Int32 → gMem → Prop) : Prop :=
  vp_in l1 500 ∧
  ∀ v1, v1 = c 4 l1.toNatClampNeg →
  vp_in v1 4000 ∧
  ∀ v3, v3 = c 3 v1.toNatClampNeg →
  vp_in l1 500 ∧
  ∀ v5, v5 = c 4 l1.toNatClampNeg →
  ((v3 &&& 7 = 1 →
    wX2_linkPlace_p31 v5 c Q) ∧
   (¬ v3 &&& 7 = 1 →
    ((v3 &&& 7 = 5 →
      wX2_linkPlace_p31 v5 c Q) ∧
     (¬ v3 &&& 7 = 5 →
      wX2_linkPlace_p36 1 v5 c Q))))
set_option maxRecDepth 100000 in
set_option maxHeartbeats 4000000 in
theorem tX2_linkPlace {l : Launch} {G : gG} {k : Nat} {o : gMem} {Q : Int32 → gMem → Prop} {l1 : Int32} {c : gMem} (h : wX2_linkPlace l1 c Q) : Cq l G mX2_linkPlace 0 0 [.ref (G.2.1 + 2), .int l1] 84 k (wX G o c) (qi (wX G o) Q) := by
  refine Cq.of (by decide) (Nat.le_of_ble_eq_true rfl) ?_
  show Go l G mX2_linkPlace (gbq G 0 0 84 k (qi (wX G o) Q)) 0 [(0, .ref (G.2.1 + 2)), (1, .int l1)] [] 84 k (wX G o c)
  unfold wX2_linkPlace at h
  refine go_aload_n (pc := 0) dX2_linkPlace_0 rfl rfl ?_
  refine go_get (pc := 1) fX2_9 rfl (gz_b (by decide)) xw2 rfl dX2_linkPlace_1 ?_
  refine go_aload_n (pc := 4) dX2_linkPlace_4 rfl rfl ?_
  refine go_get (pc := 5) fX2_15 rfl (gz_b (by decide)) xw2 rfl dX2_linkPlace_5 ?_
  refine go_iload_n (pc := 8) dX2_linkPlace_8 rfl rfl ?_
  obtain ⟨b2, h⟩ := h
  refine gb_iald (pc := 9) (gz_b (by decide)) xw4 b2 dX2_linkPlace_9 (fun v1 ev1 => ?_)
  have h := h v1 ev1
  obtain ⟨b4, h⟩ := h
  refine gb_iald (pc := 10) (gz_b (by decide)) xw3 b4 dX2_linkPlace_10 (fun v3 ev3 => ?_)
  have h := h v3 ev3
  refine go_bipush (pc := 11) (v := 7) dX2_linkPlace_11 (by decide) ?_
  refine go_iand (pc := 13) dX2_linkPlace_13 ?_
  refine go_istore_n (pc := 14) (lv' := [(2, .int (v3 &&& 7)), (0, .ref (G.2.1 + 2)), (1, .int l1)]) dX2_linkPlace_14 rfl (by decide) rfl ?_
  refine go_aload_n (pc := 15) dX2_linkPlace_15 rfl rfl ?_
  refine go_get (pc := 16) fX2_15 rfl (gz_b (by decide)) xw2 rfl dX2_linkPlace_16 ?_
  refine go_iload_n (pc := 19) dX2_linkPlace_19 rfl rfl ?_
  obtain ⟨b6, h⟩ := h
  refine gb_iald (pc := 20) (gz_b (by decide)) xw4 b6 dX2_linkPlace_20 (fun v5 ev5 => ?_)
  have h := h v5 ev5
  refine go_iload_n (pc := 21) dX2_linkPlace_21 rfl rfl ?_
  refine go_iconst (pc := 22) (v := 1) dX2_linkPlace_22 (by decide) ?_
  refine go_icmp_eq (pc := 23) (tgt := 31) dX2_linkPlace_23 (by decide) (fun q7 => ?_) (fun q7 => ?_)
  · have h := h.1 q7
    refine go_lv [] rfl ?_
    exact tX2_linkPlace_p31 h
  · have h := h.2 q7
    refine go_iload_n (pc := 26) dX2_linkPlace_26 rfl rfl ?_
    refine go_iconst (pc := 27) (v := 5) dX2_linkPlace_27 (by decide) ?_
    refine go_icmp_ne (pc := 28) (tgt := 35) dX2_linkPlace_28 (by decide) (fun q8 => ?_) (fun q8 => ?_)
    · have h := h.2 q8
      refine go_iconst (pc := 35) (v := 1) dX2_linkPlace_35 (by decide) ?_
      refine go_lv [] rfl ?_
      exact tX2_linkPlace_p36 h
    · have h := h.1 q8
      refine go_lv [] rfl ?_
      exact tX2_linkPlace_p31 h
def wX7_lookThrough_p2_b (P2 : Int32 → Int32 → gMem → Prop) (l1 : Int32) (l2 : Int32) (c : gMem) (Q : Int32 → gMem → Prop) : Prop :=
  ((l1 ≤ l2 →
    Q l2 c) ∧
   (¬ l1 ≤ l2 →
    wX7_goToOpenLink c (fun r3 c2 =>
    ((r3 = 0 →
      Q l2 c2) ∧
     (¬ r3 = 0 →
      ∀ v5, v5 = c2 6 2 →
      vp_in v5 500 ∧
      ∀ v6, v6 = c2 7 v5.toNatClampNeg →
      ∀ v8, v8 = c2 6 3 →
      wX2_linkPlace v6 c2 (fun r10 c9 =>
      vp_in (r10 + v8) 4000 ∧
      ∀ v11, v11 = c9 3 (r10 + v8).toNatClampNeg →
      wX7_mark v11 1 v6 v8 c9 (fun c13 =>
      ∀ v14, v14 = c13 6 3 →
      ∀ c15, c15 = mp c13 6 3 (v14 + 1) →
      P2 l1 (l2 + 1) c15)))))))
def wX7_lookThrough_p2 (l1 : Int32) (l2 : Int32) (c : gMem) (Q : Int32 → gMem → Prop) : Prop :=
  ∀ P2 : Int32 → Int32 → gMem → Prop, (∀ (l1 : Int32) (l2 : Int32) (c : gMem), wX7_lookThrough_p2_b P2 l1 l2 c Q → P2 l1 l2 c) → P2 l1 l2 c
set_option maxRecDepth 100000 in
set_option maxHeartbeats 4000000 in
theorem tX7_lookThrough_p2_b {l : Launch} {G : gG} {k : Nat} {o : gMem} {Q : Int32 → gMem → Prop} {P2 : Int32 → Int32 → gMem → Prop} (hP2 : ∀ (l1 : Int32) (l2 : Int32) (c : gMem), P2 l1 l2 c → Go l G mX7_lookThrough (gbq G 2 48 84 k (qi (wX G o) Q)) 2 [(0, .ref (G.2.1 + 65)), (1, .int l1), (2, .int l2)] [] 84 k (wX G o c)) {l1 : Int32} {l2 : Int32} {c : gMem} (h : wX7_lookThrough_p2_b P2 l1 l2 c Q) : Go l G mX7_lookThrough (gbq G 2 48 84 k (qi (wX G o) Q)) 2 [(0, .ref (G.2.1 + 65)), (1, .int l1), (2, .int l2)] [] 84 k (wX G o c) := by
  unfold wX7_lookThrough_p2_b at h
  refine go_iload_n (pc := 2) dX7_lookThrough_2 rfl rfl ?_
  refine go_iload_n (pc := 3) dX7_lookThrough_3 rfl rfl ?_
  refine go_icmp_ge (pc := 4) (tgt := 85) dX7_lookThrough_4 (by decide) (fun q1 => ?_) (fun q1 => ?_)
  · have h := h.1 q1
    refine go_iload_n (pc := 85) dX7_lookThrough_85 rfl rfl ?_
    exact gq_iret (pc := 86) (F := wX G o) rfl dX7_lookThrough_86 h
  · have h := h.2 q1
    refine go_aload_n (pc := 7) dX7_lookThrough_7 rfl rfl ?_
    refine gq_callV_i (pc := 8) (F := wX G o) vX7_53 rfl (tX7_goToOpenLink h) rfl rfl (gz_b (by decide)) xw65 rfl (Nat.le_of_ble_eq_true rfl) ⟨Nat.le_of_ble_eq_true rfl, Nat.le_of_ble_eq_true rfl, Nat.le_add_right _ _, Nat.le_add_right _ _⟩ dX7_lookThrough_8 (fun r3 c2 h => ?_)
    refine go_if_eq (pc := 11) (tgt := 85) dX7_lookThrough_11 (by decide) (fun q4 => ?_) (fun q4 => ?_)
    · have h := h.1 q4
      refine go_iload_n (pc := 85) dX7_lookThrough_85 rfl rfl ?_
      exact gq_iret (pc := 86) (F := wX G o) rfl dX7_lookThrough_86 h
    · have h := h.2 q4
      refine go_aload_n (pc := 14) dX7_lookThrough_14 rfl rfl ?_
      refine go_get (pc := 15) fX7_36 rfl (gz_b (by decide)) xw65 rfl dX7_lookThrough_15 ?_
      refine go_get (pc := 18) fX7_80 rfl (gz_b (by decide)) xw6 rfl dX7_lookThrough_18 ?_
      refine go_aload_n (pc := 21) dX7_lookThrough_21 rfl rfl ?_
      refine go_get (pc := 22) fX7_36 rfl (gz_b (by decide)) xw65 rfl dX7_lookThrough_22 ?_
      refine gb_get (pc := 25) fX7_83 rfl (gz_b (by decide)) xw6 rfl dX7_lookThrough_25 (fun v5 ev5 => ?_)
      have h := h v5 ev5
      obtain ⟨b7, h⟩ := h
      refine gb_iald (pc := 28) (gz_b (by decide)) xw7 b7 dX7_lookThrough_28 (fun v6 ev6 => ?_)
      have h := h v6 ev6
      refine go_istore_n (pc := 29) (lv' := [(3, .int v6), (0, .ref (G.2.1 + 65)), (1, .int l1), (2, .int l2)]) dX7_lookThrough_29 rfl (by decide) rfl ?_
      refine go_aload_n (pc := 30) dX7_lookThrough_30 rfl rfl ?_
      refine go_get (pc := 31) fX7_36 rfl (gz_b (by decide)) xw65 rfl dX7_lookThrough_31 ?_
      refine gb_get (pc := 34) fX7_87 rfl (gz_b (by decide)) xw6 rfl dX7_lookThrough_34 (fun v8 ev8 => ?_)
      have h := h v8 ev8
      refine go_istore (pc := 37) (lv' := [(4, .int v8), (3, .int v6), (0, .ref (G.2.1 + 65)), (1, .int l1), (2, .int l2)]) dX7_lookThrough_37 (by decide) rfl ?_
      refine go_aload_n (pc := 39) dX7_lookThrough_39 rfl rfl ?_
      refine go_aload_n (pc := 40) dX7_lookThrough_40 rfl rfl ?_
      refine go_get (pc := 41) fX7_31 rfl (gz_b (by decide)) xw65 rfl dX7_lookThrough_41 ?_
      refine go_get (pc := 44) fX7_90 rfl (gz_b (by decide)) xw2 rfl dX7_lookThrough_44 ?_
      refine go_aload_n (pc := 47) dX7_lookThrough_47 rfl rfl ?_
      refine go_get (pc := 48) fX7_31 rfl (gz_b (by decide)) xw65 rfl dX7_lookThrough_48 ?_
      refine go_iload_n (pc := 51) dX7_lookThrough_51 rfl rfl ?_
      refine gq_callV_i (pc := 52) (F := wX G o) vX7_93 rfl (tX2_linkPlace h) rfl rfl (gz_b (by decide)) xw2 rfl (Nat.le_of_ble_eq_true rfl) ⟨Nat.le_of_ble_eq_true rfl, Nat.le_of_ble_eq_true rfl, Nat.le_add_right _ _, Nat.le_add_right _ _⟩ dX7_lookThrough_52 (fun r10 c9 h => ?_)
      refine go_iload (pc := 55) dX7_lookThrough_55 rfl ?_
      refine go_iadd (pc := 57) dX7_lookThrough_57 ?_
      obtain ⟨b12, h⟩ := h
      refine gb_iald (pc := 58) (gz_b (by decide)) xw3 b12 dX7_lookThrough_58 (fun v11 ev11 => ?_)
      have h := h v11 ev11
      refine go_iconst (pc := 59) (v := 1) dX7_lookThrough_59 (by decide) ?_
      refine go_iload_n (pc := 60) dX7_lookThrough_60 rfl rfl ?_
      refine go_iload (pc := 61) dX7_lookThrough_61 rfl ?_
      refine gq_callV_v (pc := 63) (F := wX G o) vX7_77 rfl (tX7_mark h) rfl rfl (gz_b (by decide)) xw65 rfl (Nat.le_of_ble_eq_true rfl) ⟨Nat.le_of_ble_eq_true rfl, Nat.le_of_ble_eq_true rfl, Nat.le_add_right _ _, Nat.le_add_right _ _⟩ dX7_lookThrough_63 (fun c13 h => ?_)
      refine go_aload_n (pc := 66) dX7_lookThrough_66 rfl rfl ?_
      refine go_get (pc := 67) fX7_36 rfl (gz_b (by decide)) xw65 rfl dX7_lookThrough_67 ?_
      refine go_dup (pc := 70) dX7_lookThrough_70 rfl ?_
      refine gb_get (pc := 71) fX7_87 rfl (gz_b (by decide)) xw6 rfl dX7_lookThrough_71 (fun v14 ev14 => ?_)
      have h := h v14 ev14
      refine go_iconst (pc := 74) (v := 1) dX7_lookThrough_74 (by decide) ?_
      refine go_iadd (pc := 75) dX7_lookThrough_75 ?_
      refine gb_put (pc := 76) (F := wX G o) fX7_87 rfl (gz_b (by decide)) xw6 (Nat.le_of_ble_eq_true rfl) rfl rfl xp6_3 dX7_lookThrough_76 (fun c15 ec15 => ?_)
      have h := h c15 ec15
      refine go_iinc (pc := 79) (v := l2 + 1) (lv' := [(2, .int (l2 + 1)), (4, .int v8), (3, .int v6), (0, .ref (G.2.1 + 65)), (1, .int l1)]) dX7_lookThrough_79 4 rfl (by first | rfl | decide) (by decide) rfl ?_
      refine go_goto (pc := 82) (tgt := 2) dX7_lookThrough_82 (by decide) ?_
      refine go_lv [3, 4, 0] rfl ?_
      exact hP2 _ _ _ h
set_option maxRecDepth 100000 in
set_option maxHeartbeats 4000000 in
theorem tX7_lookThrough_p2 {l : Launch} {G : gG} {k : Nat} {o : gMem} {Q : Int32 → gMem → Prop} {l1 : Int32} {l2 : Int32} {c : gMem} (h : wX7_lookThrough_p2 l1 l2 c Q) : Go l G mX7_lookThrough (gbq G 2 48 84 k (qi (wX G o) Q)) 2 [(0, .ref (G.2.1 + 65)), (1, .int l1), (2, .int l2)] [] 84 k (wX G o c) :=
  h (fun l1 l2 c => Go l G mX7_lookThrough (gbq G 2 48 84 k (qi (wX G o) Q)) 2 [(0, .ref (G.2.1 + 65)), (1, .int l1), (2, .int l2)] [] 84 k (wX G o c)) (fun l1 l2 c hb => tX7_lookThrough_p2_b (fun l1 l2 c hh => hh) hb)
def wX7_lookThrough (l1 : Int32) (c : gMem) (Q : Int32 → gMem → Prop) : Prop :=
  wX7_lookThrough_p2 l1 0 c Q
set_option maxRecDepth 100000 in
set_option maxHeartbeats 4000000 in
theorem tX7_lookThrough {l : Launch} {G : gG} {k : Nat} {o : gMem} {Q : Int32 → gMem → Prop} {l1 : Int32} {c : gMem} (h : wX7_lookThrough l1 c Q) : Cq l G mX7_lookThrough 2 48 [.ref (G.2.1 + 65), .int l1] 84 k (wX G o c) (qi (wX G o) Q) := by
  refine Cq.of (by decide) (Nat.le_of_ble_eq_true rfl) ?_
  show Go l G mX7_lookThrough (gbq G 2 48 84 k (qi (wX G o) Q)) 0 [(0, .ref (G.2.1 + 65)), (1, .int l1)] [] 84 k (wX G o c)
  unfold wX7_lookThrough at h
  refine go_iconst (pc := 0) (v := 0) dX7_lookThrough_0 (by decide) ?_
  refine go_istore_n (pc := 1) (lv' := [(2, .int 0), (0, .ref (G.2.1 + 65)), (1, .int l1)]) dX7_lookThrough_1 rfl (by decide) rfl ?_
  refine go_lv [1, 2, 0] rfl ?_
  exact tX7_lookThrough_p2 h
def wX7_clearShelves_p33 (P10 : Int32 → gMem → Prop) (l2 : Int32) (c : gMem) (Q : gMem → Prop) : Prop :=
  P10 (l2 + 1) c
set_option maxRecDepth 100000 in
set_option maxHeartbeats 4000000 in
theorem tX7_clearShelves_p33 {l : Launch} {G : gG} {k : Nat} {o : gMem} {Q : gMem → Prop} {P10 : Int32 → gMem → Prop} (hP10 : ∀ (l2 : Int32) (c : gMem), P10 l2 c → Go l G mX7_clearShelves (gbq G 1 21 84 k (qv (wX G o) Q)) 10 [(0, .ref (G.2.1 + 65)), (1, .ref (G.2.1 + 21)), (2, .int l2)] [] 84 k (wX G o c)) {l2 : Int32} {c : gMem} (h : wX7_clearShelves_p33 P10 l2 c Q) : Go l G mX7_clearShelves (gbq G 1 21 84 k (qv (wX G o) Q)) 33 [(0, .ref (G.2.1 + 65)), (1, .ref (G.2.1 + 21)), (2, .int l2)] [] 84 k (wX G o c) := by
  unfold wX7_clearShelves_p33 at h
  refine go_iinc (pc := 33) (v := l2 + 1) (lv' := [(2, .int (l2 + 1)), (0, .ref (G.2.1 + 65)), (1, .ref (G.2.1 + 21))]) dX7_clearShelves_33 2 rfl (by first | rfl | decide) (by decide) rfl ?_
  refine go_goto (pc := 36) (tgt := 10) dX7_clearShelves_36 (by decide) ?_
  refine go_lv [1, 2, 0] rfl ?_
  exact hP10 _ _ h
def wX7_clearShelves_p10_b (P10 : Int32 → gMem → Prop) (l2 : Int32) (c : gMem) (Q : gMem → Prop) : Prop :=
  ((32 ≤ l2 →
    Q c) ∧
   (¬ 32 ≤ l2 →
    vp_in l2 32 ∧
    ∀ v2, v2 = c 21 l2.toNatClampNeg →
    wX2_has v2 c (fun r5 c4 =>
    ((r5 = 0 →
      vp_in l2 32 ∧
      ∀ c7, c7 = mp c4 21 l2.toNatClampNeg ((-1)) →
      wX7_clearShelves_p33 P10 l2 c7 Q) ∧
     (¬ r5 = 0 →
      wX7_clearShelves_p33 P10 l2 c4 Q)))))
def wX7_clearShelves_p10 (l2 : Int32) (c : gMem) (Q : gMem → Prop) : Prop :=
  ∀ P10 : Int32 → gMem → Prop, (∀ (l2 : Int32) (c : gMem), wX7_clearShelves_p10_b P10 l2 c Q → P10 l2 c) → P10 l2 c
set_option maxRecDepth 100000 in
set_option maxHeartbeats 4000000 in
theorem tX7_clearShelves_p10_b {l : Launch} {G : gG} {k : Nat} {o : gMem} {Q : gMem → Prop} {P10 : Int32 → gMem → Prop} (hP10 : ∀ (l2 : Int32) (c : gMem), P10 l2 c → Go l G mX7_clearShelves (gbq G 1 21 84 k (qv (wX G o) Q)) 10 [(0, .ref (G.2.1 + 65)), (1, .ref (G.2.1 + 21)), (2, .int l2)] [] 84 k (wX G o c)) {l2 : Int32} {c : gMem} (h : wX7_clearShelves_p10_b P10 l2 c Q) : Go l G mX7_clearShelves (gbq G 1 21 84 k (qv (wX G o) Q)) 10 [(0, .ref (G.2.1 + 65)), (1, .ref (G.2.1 + 21)), (2, .int l2)] [] 84 k (wX G o c) := by
  unfold wX7_clearShelves_p10_b at h
  refine go_iload_n (pc := 10) dX7_clearShelves_10 rfl rfl ?_
  refine go_aload_n (pc := 11) dX7_clearShelves_11 rfl rfl ?_
  refine go_alen (pc := 12) (gz_b (by decide)) xw21 dX7_clearShelves_12 ?_
  refine go_top (y := 32) (by decide) ?_
  refine go_icmp_ge (pc := 13) (tgt := 39) dX7_clearShelves_13 (by decide) (fun q1 => ?_) (fun q1 => ?_)
  · have h := h.1 q1
    exact gq_vret (pc := 39) (F := wX G o) rfl dX7_clearShelves_39 h
  · have h := h.2 q1
    refine go_aload_n (pc := 16) dX7_clearShelves_16 rfl rfl ?_
    refine go_get (pc := 17) fX7_31 rfl (gz_b (by decide)) xw65 rfl dX7_clearShelves_17 ?_
    refine go_aload_n (pc := 20) dX7_clearShelves_20 rfl rfl ?_
    refine go_iload_n (pc := 21) dX7_clearShelves_21 rfl rfl ?_
    obtain ⟨b3, h⟩ := h
    refine gb_iald (pc := 22) (gz_b (by decide)) xw21 b3 dX7_clearShelves_22 (fun v2 ev2 => ?_)
    have h := h v2 ev2
    refine gq_callV_i (pc := 23) (F := wX G o) vX7_61 rfl (tX2_has h) rfl rfl (gz_b (by decide)) xw2 rfl (Nat.le_of_ble_eq_true rfl) ⟨Nat.le_of_ble_eq_true rfl, Nat.le_of_ble_eq_true rfl, Nat.le_add_right _ _, Nat.le_add_right _ _⟩ dX7_clearShelves_23 (fun r5 c4 h => ?_)
    refine go_if_ne (pc := 26) (tgt := 33) dX7_clearShelves_26 (by decide) (fun q6 => ?_) (fun q6 => ?_)
    · have h := h.2 q6
      refine go_lv [0, 1, 2] rfl ?_
      exact tX7_clearShelves_p33 hP10 h
    · have h := h.1 q6
      refine go_aload_n (pc := 29) dX7_clearShelves_29 rfl rfl ?_
      refine go_iload_n (pc := 30) dX7_clearShelves_30 rfl rfl ?_
      refine go_iconst (pc := 31) (v := (-1)) dX7_clearShelves_31 (by decide) ?_
      obtain ⟨b8, h⟩ := h
      refine gb_iast (pc := 32) (F := wX G o) (gz_b (by decide)) xw21 b8 xa21 dX7_clearShelves_32 (fun c7 ec7 => ?_)
      have h := h c7 ec7
      refine go_lv [0, 1, 2] rfl ?_
      exact tX7_clearShelves_p33 hP10 h
set_option maxRecDepth 100000 in
set_option maxHeartbeats 4000000 in
theorem tX7_clearShelves_p10 {l : Launch} {G : gG} {k : Nat} {o : gMem} {Q : gMem → Prop} {l2 : Int32} {c : gMem} (h : wX7_clearShelves_p10 l2 c Q) : Go l G mX7_clearShelves (gbq G 1 21 84 k (qv (wX G o) Q)) 10 [(0, .ref (G.2.1 + 65)), (1, .ref (G.2.1 + 21)), (2, .int l2)] [] 84 k (wX G o c) :=
  h (fun l2 c => Go l G mX7_clearShelves (gbq G 1 21 84 k (qv (wX G o) Q)) 10 [(0, .ref (G.2.1 + 65)), (1, .ref (G.2.1 + 21)), (2, .int l2)] [] 84 k (wX G o c)) (fun l2 c hb => tX7_clearShelves_p10_b (fun l2 c hh => hh) hb)
def wX7_clearShelves (c : gMem) (Q : gMem → Prop) : Prop :=
  wX7_clearShelves_p10 0 c Q
set_option maxRecDepth 100000 in
set_option maxHeartbeats 4000000 in
theorem tX7_clearShelves {l : Launch} {G : gG} {k : Nat} {o : gMem} {Q : gMem → Prop} {c : gMem} (h : wX7_clearShelves c Q) : Cq l G mX7_clearShelves 1 21 [.ref (G.2.1 + 65)] 84 k (wX G o c) (qv (wX G o) Q) := by
  refine Cq.of (by decide) (Nat.le_of_ble_eq_true rfl) ?_
  show Go l G mX7_clearShelves (gbq G 1 21 84 k (qv (wX G o) Q)) 0 [(0, .ref (G.2.1 + 65))] [] 84 k (wX G o c)
  unfold wX7_clearShelves at h
  refine go_aload_n (pc := 0) dX7_clearShelves_0 rfl rfl ?_
  refine go_get (pc := 1) fX7_21 rfl (gz_b (by decide)) xw65 rfl dX7_clearShelves_1 ?_
  refine go_get (pc := 4) fX7_157 rfl (gz_b (by decide)) xw1 rfl dX7_clearShelves_4 ?_
  refine go_astore_n (pc := 7) (lv' := [(1, .ref (G.2.1 + 21)), (0, .ref (G.2.1 + 65))]) dX7_clearShelves_7 rfl (by decide) rfl ?_
  refine go_iconst (pc := 8) (v := 0) dX7_clearShelves_8 (by decide) ?_
  refine go_istore_n (pc := 9) (lv' := [(2, .int 0), (1, .ref (G.2.1 + 21)), (0, .ref (G.2.1 + 65))]) dX7_clearShelves_9 rfl (by decide) rfl ?_
  refine go_lv [2, 1, 0] rfl ?_
  exact tX7_clearShelves_p10 h
def wX2_kindOf (l1 : Int32) (c : gMem) (Q : Int32 → gMem → Prop) : Prop :=
  vp_in l1 500 ∧
  ∀ v1, v1 = c 4 l1.toNatClampNeg →
  vp_in v1 4000 ∧
  ∀ v3, v3 = c 3 v1.toNatClampNeg →
  Q (v3 &&& 7) c
set_option maxRecDepth 100000 in
set_option maxHeartbeats 4000000 in
theorem tX2_kindOf {l : Launch} {G : gG} {k : Nat} {o : gMem} {Q : Int32 → gMem → Prop} {l1 : Int32} {c : gMem} (h : wX2_kindOf l1 c Q) : Cq l G mX2_kindOf 0 0 [.ref (G.2.1 + 2), .int l1] 84 k (wX G o c) (qi (wX G o) Q) := by
  refine Cq.of (by decide) (Nat.le_of_ble_eq_true rfl) ?_
  show Go l G mX2_kindOf (gbq G 0 0 84 k (qi (wX G o) Q)) 0 [(0, .ref (G.2.1 + 2)), (1, .int l1)] [] 84 k (wX G o c)
  unfold wX2_kindOf at h
  refine go_aload_n (pc := 0) dX2_kindOf_0 rfl rfl ?_
  refine go_get (pc := 1) fX2_9 rfl (gz_b (by decide)) xw2 rfl dX2_kindOf_1 ?_
  refine go_aload_n (pc := 4) dX2_kindOf_4 rfl rfl ?_
  refine go_get (pc := 5) fX2_15 rfl (gz_b (by decide)) xw2 rfl dX2_kindOf_5 ?_
  refine go_iload_n (pc := 8) dX2_kindOf_8 rfl rfl ?_
  obtain ⟨b2, h⟩ := h
  refine gb_iald (pc := 9) (gz_b (by decide)) xw4 b2 dX2_kindOf_9 (fun v1 ev1 => ?_)
  have h := h v1 ev1
  obtain ⟨b4, h⟩ := h
  refine gb_iald (pc := 10) (gz_b (by decide)) xw3 b4 dX2_kindOf_10 (fun v3 ev3 => ?_)
  have h := h v3 ev3
  refine go_bipush (pc := 11) (v := 7) dX2_kindOf_11 (by decide) ?_
  refine go_iand (pc := 13) dX2_kindOf_13 ?_
  exact gq_iret (pc := 14) (F := wX G o) rfl dX2_kindOf_14 h
def wX7_countGivenBack (l1 : Int32) (c : gMem) (Q : gMem → Prop) : Prop :=
  ∀ v1, v1 = c 64 11 →
  ∀ c2, c2 = mp c 64 11 (v1 + 1) →
  ((l1 = 4 →
    ∀ v4, v4 = c2 64 12 →
    ∀ c5, c5 = mp c2 64 12 (v4 + 1) →
    Q c5) ∧
   (¬ l1 = 4 →
    Q c2))
set_option maxRecDepth 100000 in
set_option maxHeartbeats 4000000 in
theorem tX7_countGivenBack {l : Launch} {G : gG} {k : Nat} {o : gMem} {Q : gMem → Prop} {l1 : Int32} {c : gMem} (h : wX7_countGivenBack l1 c Q) : Cq l G mX7_countGivenBack 0 0 [.ref (G.2.1 + 65), .int l1] 84 k (wX G o c) (qv (wX G o) Q) := by
  refine Cq.of (by decide) (Nat.le_of_ble_eq_true rfl) ?_
  show Go l G mX7_countGivenBack (gbq G 0 0 84 k (qv (wX G o) Q)) 0 [(0, .ref (G.2.1 + 65)), (1, .int l1)] [] 84 k (wX G o c)
  unfold wX7_countGivenBack at h
  refine go_aload_n (pc := 0) dX7_countGivenBack_0 rfl rfl ?_
  refine go_get (pc := 1) fX7_37 rfl (gz_b (by decide)) xw65 rfl dX7_countGivenBack_1 ?_
  refine go_bipush (pc := 4) (v := 11) dX7_countGivenBack_4 (by decide) ?_
  refine go_dup2 (pc := 6) dX7_countGivenBack_6 rfl rfl ?_
  refine gb_iald (pc := 7) (gz_b (by decide)) xw64 (gv_in (by decide)) dX7_countGivenBack_7 (fun v1 ev1 => ?_)
  have h := h v1 ev1
  refine go_iconst (pc := 8) (v := 1) dX7_countGivenBack_8 (by decide) ?_
  refine go_iadd (pc := 9) dX7_countGivenBack_9 ?_
  refine gb_iast (pc := 10) (F := wX G o) (gz_b (by decide)) xw64 (gv_in (by decide)) xa64 dX7_countGivenBack_10 (fun c2 ec2 => ?_)
  have h := h c2 ec2
  refine go_iload_n (pc := 11) dX7_countGivenBack_11 rfl rfl ?_
  refine go_iconst (pc := 12) (v := 4) dX7_countGivenBack_12 (by decide) ?_
  refine go_icmp_ne (pc := 13) (tgt := 27) dX7_countGivenBack_13 (by decide) (fun q3 => ?_) (fun q3 => ?_)
  · have h := h.2 q3
    exact gq_vret (pc := 27) (F := wX G o) rfl dX7_countGivenBack_27 h
  · have h := h.1 q3
    refine go_aload_n (pc := 16) dX7_countGivenBack_16 rfl rfl ?_
    refine go_get (pc := 17) fX7_37 rfl (gz_b (by decide)) xw65 rfl dX7_countGivenBack_17 ?_
    refine go_bipush (pc := 20) (v := 12) dX7_countGivenBack_20 (by decide) ?_
    refine go_dup2 (pc := 22) dX7_countGivenBack_22 rfl rfl ?_
    refine gb_iald (pc := 23) (gz_b (by decide)) xw64 (gv_in (by decide)) dX7_countGivenBack_23 (fun v4 ev4 => ?_)
    have h := h v4 ev4
    refine go_iconst (pc := 24) (v := 1) dX7_countGivenBack_24 (by decide) ?_
    refine go_iadd (pc := 25) dX7_countGivenBack_25 ?_
    refine gb_iast (pc := 26) (F := wX G o) (gz_b (by decide)) xw64 (gv_in (by decide)) xa64 dX7_countGivenBack_26 (fun c5 ec5 => ?_)
    have h := h c5 ec5
    exact gq_vret (pc := 27) (F := wX G o) rfl dX7_countGivenBack_27 h
def wX2_giveBack (l1 : Int32) (c : gMem) (Q : gMem → Prop) : Prop :=
  vp_in l1 500 ∧
  ∀ c1, c1 = mp c 4 l1.toNatClampNeg ((-1)) →
  ∀ v3, v3 = c1 2 3 →
  ∀ c4, c4 = mp c1 2 3 (v3 - 1) →
  Q c4
set_option maxRecDepth 100000 in
set_option maxHeartbeats 4000000 in
theorem tX2_giveBack {l : Launch} {G : gG} {k : Nat} {o : gMem} {Q : gMem → Prop} {l1 : Int32} {c : gMem} (h : wX2_giveBack l1 c Q) : Cq l G mX2_giveBack 0 0 [.ref (G.2.1 + 2), .int l1] 84 k (wX G o c) (qv (wX G o) Q) := by
  refine Cq.of (by decide) (Nat.le_of_ble_eq_true rfl) ?_
  show Go l G mX2_giveBack (gbq G 0 0 84 k (qv (wX G o) Q)) 0 [(0, .ref (G.2.1 + 2)), (1, .int l1)] [] 84 k (wX G o c)
  unfold wX2_giveBack at h
  refine go_aload_n (pc := 0) dX2_giveBack_0 rfl rfl ?_
  refine go_get (pc := 1) fX2_15 rfl (gz_b (by decide)) xw2 rfl dX2_giveBack_1 ?_
  refine go_iload_n (pc := 4) dX2_giveBack_4 rfl rfl ?_
  refine go_iconst (pc := 5) (v := (-1)) dX2_giveBack_5 (by decide) ?_
  obtain ⟨b2, h⟩ := h
  refine gb_iast (pc := 6) (F := wX G o) (gz_b (by decide)) xw4 b2 xa4 dX2_giveBack_6 (fun c1 ec1 => ?_)
  have h := h c1 ec1
  refine go_aload_n (pc := 7) dX2_giveBack_7 rfl rfl ?_
  refine go_dup (pc := 8) dX2_giveBack_8 rfl ?_
  refine gb_get (pc := 9) fX2_32 rfl (gz_b (by decide)) xw2 rfl dX2_giveBack_9 (fun v3 ev3 => ?_)
  have h := h v3 ev3
  refine go_iconst (pc := 12) (v := 1) dX2_giveBack_12 (by decide) ?_
  refine go_isub (pc := 13) dX2_giveBack_13 ?_
  refine gb_put (pc := 14) (F := wX G o) fX2_32 rfl (gz_b (by decide)) xw2 (Nat.le_of_ble_eq_true rfl) rfl rfl xp2_3 dX2_giveBack_14 (fun c4 ec4 => ?_)
  have h := h c4 ec4
  exact gq_vret (pc := 17) (F := wX G o) rfl dX2_giveBack_17 h
def wX7_giveBackUnmarked_p81 (P7 : Int32 → gMem → Prop) (l1 : Int32) (c : gMem) (Q : gMem → Prop) : Prop :=
  P7 (l1 + 1) c
set_option maxRecDepth 100000 in
set_option maxHeartbeats 4000000 in
theorem tX7_giveBackUnmarked_p81 {l : Launch} {G : gG} {k : Nat} {o : gMem} {Q : gMem → Prop} {P7 : Int32 → gMem → Prop} (hP7 : ∀ (l1 : Int32) (c : gMem), P7 l1 c → Go l G mX7_giveBackUnmarked (gbq G 2 43 84 k (qv (wX G o) Q)) 7 [(0, .ref (G.2.1 + 65)), (1, .int l1)] [] 84 k (wX G o c)) {l1 : Int32} {c : gMem} (h : wX7_giveBackUnmarked_p81 P7 l1 c Q) : Go l G mX7_giveBackUnmarked (gbq G 2 43 84 k (qv (wX G o) Q)) 81 [(0, .ref (G.2.1 + 65)), (1, .int l1)] [] 84 k (wX G o c) := by
  unfold wX7_giveBackUnmarked_p81 at h
  refine go_iinc (pc := 81) (v := l1 + 1) (lv' := [(1, .int (l1 + 1)), (0, .ref (G.2.1 + 65))]) dX7_giveBackUnmarked_81 1 rfl (by first | rfl | decide) (by decide) rfl ?_
  refine go_goto (pc := 84) (tgt := 7) dX7_giveBackUnmarked_84 (by decide) ?_
  refine go_lv [1, 0] rfl ?_
  exact hP7 _ _ h
def wX7_giveBackUnmarked_p7_b (P7 : Int32 → gMem → Prop) (l1 : Int32) (c : gMem) (Q : gMem → Prop) : Prop :=
  ∀ v1, v1 = c 2 2 →
  ((v1 ≤ l1 →
    wX7_clearShelves c (fun c3 =>
    ∀ v4, v4 = c3 2 3 →
    ∀ c5, c5 = mp c3 12 1 v4 →
    ∀ v6, v6 = c5 65 5 →
    ∀ c7, c7 = mp c5 12 2 v6 →
    ∀ v8, v8 = c7 12 4 →
    ∀ v9, v9 = c7 65 5 →
    ∀ c10, c10 = mp c7 12 4 (v8 + v9) →
    Q c10)) ∧
   (¬ v1 ≤ l1 →
    wX2_has l1 c (fun r12 c11 =>
    ((r12 = 0 →
      wX7_giveBackUnmarked_p81 P7 l1 c11 Q) ∧
     (¬ r12 = 0 →
      vp_in l1 500 ∧
      ∀ v14, v14 = c11 8 l1.toNatClampNeg →
      ((v14 = 0 →
        wX2_kindOf l1 c11 (fun r18 c17 =>
        wX7_countGivenBack r18 c17 (fun c19 =>
        wX2_giveBack l1 c19 (fun c20 =>
        ∀ v21, v21 = c20 65 5 →
        vp_in v21 500 ∧
        ∀ c22, c22 = mp c20 66 v21.toNatClampNeg l1 →
        ∀ v24, v24 = c22 65 5 →
        ∀ c25, c25 = mp c22 65 5 (v24 + 1) →
        wX7_giveBackUnmarked_p81 P7 l1 c25 Q)))) ∧
       (¬ v14 = 0 →
        wX7_giveBackUnmarked_p81 P7 l1 c11 Q)))))))
def wX7_giveBackUnmarked_p7 (l1 : Int32) (c : gMem) (Q : gMem → Prop) : Prop :=
  ∀ P7 : Int32 → gMem → Prop, (∀ (l1 : Int32) (c : gMem), wX7_giveBackUnmarked_p7_b P7 l1 c Q → P7 l1 c) → P7 l1 c
set_option maxRecDepth 100000 in
set_option maxHeartbeats 4000000 in
theorem tX7_giveBackUnmarked_p7_b {l : Launch} {G : gG} {k : Nat} {o : gMem} {Q : gMem → Prop} {P7 : Int32 → gMem → Prop} (hP7 : ∀ (l1 : Int32) (c : gMem), P7 l1 c → Go l G mX7_giveBackUnmarked (gbq G 2 43 84 k (qv (wX G o) Q)) 7 [(0, .ref (G.2.1 + 65)), (1, .int l1)] [] 84 k (wX G o c)) {l1 : Int32} {c : gMem} (h : wX7_giveBackUnmarked_p7_b P7 l1 c Q) : Go l G mX7_giveBackUnmarked (gbq G 2 43 84 k (qv (wX G o) Q)) 7 [(0, .ref (G.2.1 + 65)), (1, .int l1)] [] 84 k (wX G o c) := by
  unfold wX7_giveBackUnmarked_p7_b at h
  refine go_iload_n (pc := 7) dX7_giveBackUnmarked_7 rfl rfl ?_
  refine go_aload_n (pc := 8) dX7_giveBackUnmarked_8 rfl rfl ?_
  refine go_get (pc := 9) fX7_31 rfl (gz_b (by decide)) xw65 rfl dX7_giveBackUnmarked_9 ?_
  refine gb_get (pc := 12) fX7_126 rfl (gz_b (by decide)) xw2 rfl dX7_giveBackUnmarked_12 (fun v1 ev1 => ?_)
  have h := h v1 ev1
  refine go_icmp_ge (pc := 15) (tgt := 87) dX7_giveBackUnmarked_15 (by decide) (fun q2 => ?_) (fun q2 => ?_)
  · have h := h.1 q2
    refine go_aload_n (pc := 87) dX7_giveBackUnmarked_87 rfl rfl ?_
    refine gq_callV_v (pc := 88) (F := wX G o) vX7_142 rfl (tX7_clearShelves h) rfl rfl (gz_b (by decide)) xw65 rfl (Nat.le_of_ble_eq_true rfl) ⟨Nat.le_of_ble_eq_true rfl, Nat.le_of_ble_eq_true rfl, Nat.le_add_right _ _, Nat.le_add_right _ _⟩ dX7_giveBackUnmarked_88 (fun c3 h => ?_)
    refine go_aload_n (pc := 91) dX7_giveBackUnmarked_91 rfl rfl ?_
    refine go_get (pc := 92) fX7_21 rfl (gz_b (by decide)) xw65 rfl dX7_giveBackUnmarked_92 ?_
    refine go_get (pc := 95) fX7_102 rfl (gz_b (by decide)) xw1 rfl dX7_giveBackUnmarked_95 ?_
    refine go_aload_n (pc := 98) dX7_giveBackUnmarked_98 rfl rfl ?_
    refine go_get (pc := 99) fX7_31 rfl (gz_b (by decide)) xw65 rfl dX7_giveBackUnmarked_99 ?_
    refine gb_get (pc := 102) fX7_145 rfl (gz_b (by decide)) xw2 rfl dX7_giveBackUnmarked_102 (fun v4 ev4 => ?_)
    have h := h v4 ev4
    refine gb_put (pc := 105) (F := wX G o) fX7_148 rfl (gz_b (by decide)) xw12 (Nat.le_of_ble_eq_true rfl) rfl rfl xp12_1 dX7_giveBackUnmarked_105 (fun c5 ec5 => ?_)
    have h := h c5 ec5
    refine go_aload_n (pc := 108) dX7_giveBackUnmarked_108 rfl rfl ?_
    refine go_get (pc := 109) fX7_21 rfl (gz_b (by decide)) xw65 rfl dX7_giveBackUnmarked_109 ?_
    refine go_get (pc := 112) fX7_102 rfl (gz_b (by decide)) xw1 rfl dX7_giveBackUnmarked_112 ?_
    refine go_aload_n (pc := 115) dX7_giveBackUnmarked_115 rfl rfl ?_
    refine gb_get (pc := 116) fX7_123 rfl (gz_b (by decide)) xw65 rfl dX7_giveBackUnmarked_116 (fun v6 ev6 => ?_)
    have h := h v6 ev6
    refine gb_put (pc := 119) (F := wX G o) fX7_151 rfl (gz_b (by decide)) xw12 (Nat.le_of_ble_eq_true rfl) rfl rfl xp12_2 dX7_giveBackUnmarked_119 (fun c7 ec7 => ?_)
    have h := h c7 ec7
    refine go_aload_n (pc := 122) dX7_giveBackUnmarked_122 rfl rfl ?_
    refine go_get (pc := 123) fX7_21 rfl (gz_b (by decide)) xw65 rfl dX7_giveBackUnmarked_123 ?_
    refine go_get (pc := 126) fX7_102 rfl (gz_b (by decide)) xw1 rfl dX7_giveBackUnmarked_126 ?_
    refine go_dup (pc := 129) dX7_giveBackUnmarked_129 rfl ?_
    refine gb_get (pc := 130) fX7_154 rfl (gz_b (by decide)) xw12 rfl dX7_giveBackUnmarked_130 (fun v8 ev8 => ?_)
    have h := h v8 ev8
    refine go_aload_n (pc := 133) dX7_giveBackUnmarked_133 rfl rfl ?_
    refine gb_get (pc := 134) fX7_123 rfl (gz_b (by decide)) xw65 rfl dX7_giveBackUnmarked_134 (fun v9 ev9 => ?_)
    have h := h v9 ev9
    refine go_iadd (pc := 137) dX7_giveBackUnmarked_137 ?_
    refine gb_put (pc := 138) (F := wX G o) fX7_154 rfl (gz_b (by decide)) xw12 (Nat.le_of_ble_eq_true rfl) rfl rfl xp12_4 dX7_giveBackUnmarked_138 (fun c10 ec10 => ?_)
    have h := h c10 ec10
    exact gq_vret (pc := 141) (F := wX G o) rfl dX7_giveBackUnmarked_141 h
  · have h := h.2 q2
    refine go_aload_n (pc := 18) dX7_giveBackUnmarked_18 rfl rfl ?_
    refine go_get (pc := 19) fX7_31 rfl (gz_b (by decide)) xw65 rfl dX7_giveBackUnmarked_19 ?_
    refine go_iload_n (pc := 22) dX7_giveBackUnmarked_22 rfl rfl ?_
    refine gq_callV_i (pc := 23) (F := wX G o) vX7_61 rfl (tX2_has h) rfl rfl (gz_b (by decide)) xw2 rfl (Nat.le_of_ble_eq_true rfl) ⟨Nat.le_of_ble_eq_true rfl, Nat.le_of_ble_eq_true rfl, Nat.le_add_right _ _, Nat.le_add_right _ _⟩ dX7_giveBackUnmarked_23 (fun r12 c11 h => ?_)
    refine go_if_eq (pc := 26) (tgt := 81) dX7_giveBackUnmarked_26 (by decide) (fun q13 => ?_) (fun q13 => ?_)
    · have h := h.1 q13
      refine go_lv [0, 1] rfl ?_
      exact tX7_giveBackUnmarked_p81 hP7 h
    · have h := h.2 q13
      refine go_aload_n (pc := 29) dX7_giveBackUnmarked_29 rfl rfl ?_
      refine go_get (pc := 30) fX7_36 rfl (gz_b (by decide)) xw65 rfl dX7_giveBackUnmarked_30 ?_
      refine go_get (pc := 33) fX7_129 rfl (gz_b (by decide)) xw6 rfl dX7_giveBackUnmarked_33 ?_
      refine go_iload_n (pc := 36) dX7_giveBackUnmarked_36 rfl rfl ?_
      obtain ⟨b15, h⟩ := h
      refine gb_iald (pc := 37) (gz_b (by decide)) xw8 b15 dX7_giveBackUnmarked_37 (fun v14 ev14 => ?_)
      have h := h v14 ev14
      refine go_if_ne (pc := 38) (tgt := 81) dX7_giveBackUnmarked_38 (by decide) (fun q16 => ?_) (fun q16 => ?_)
      · have h := h.2 q16
        refine go_lv [0, 1] rfl ?_
        exact tX7_giveBackUnmarked_p81 hP7 h
      · have h := h.1 q16
        refine go_aload_n (pc := 41) dX7_giveBackUnmarked_41 rfl rfl ?_
        refine go_aload_n (pc := 42) dX7_giveBackUnmarked_42 rfl rfl ?_
        refine go_get (pc := 43) fX7_31 rfl (gz_b (by decide)) xw65 rfl dX7_giveBackUnmarked_43 ?_
        refine go_iload_n (pc := 46) dX7_giveBackUnmarked_46 rfl rfl ?_
        refine gq_callV_i (pc := 47) (F := wX G o) vX7_132 rfl (tX2_kindOf h) rfl rfl (gz_b (by decide)) xw2 rfl (Nat.le_of_ble_eq_true rfl) ⟨Nat.le_of_ble_eq_true rfl, Nat.le_of_ble_eq_true rfl, Nat.le_add_right _ _, Nat.le_add_right _ _⟩ dX7_giveBackUnmarked_47 (fun r18 c17 h => ?_)
        refine gq_callV_v (pc := 50) (F := wX G o) vX7_135 rfl (tX7_countGivenBack h) rfl rfl (gz_b (by decide)) xw65 rfl (Nat.le_of_ble_eq_true rfl) ⟨Nat.le_of_ble_eq_true rfl, Nat.le_of_ble_eq_true rfl, Nat.le_add_right _ _, Nat.le_add_right _ _⟩ dX7_giveBackUnmarked_50 (fun c19 h => ?_)
        refine go_aload_n (pc := 53) dX7_giveBackUnmarked_53 rfl rfl ?_
        refine go_get (pc := 54) fX7_31 rfl (gz_b (by decide)) xw65 rfl dX7_giveBackUnmarked_54 ?_
        refine go_iload_n (pc := 57) dX7_giveBackUnmarked_57 rfl rfl ?_
        refine gq_callV_v (pc := 58) (F := wX G o) vX7_139 rfl (tX2_giveBack h) rfl rfl (gz_b (by decide)) xw2 rfl (Nat.le_of_ble_eq_true rfl) ⟨Nat.le_of_ble_eq_true rfl, Nat.le_of_ble_eq_true rfl, Nat.le_add_right _ _, Nat.le_add_right _ _⟩ dX7_giveBackUnmarked_58 (fun c20 h => ?_)
        refine go_aload_n (pc := 61) dX7_giveBackUnmarked_61 rfl rfl ?_
        refine go_get (pc := 62) fX7_9 rfl (gz_b (by decide)) xw65 rfl dX7_giveBackUnmarked_62 ?_
        refine go_aload_n (pc := 65) dX7_giveBackUnmarked_65 rfl rfl ?_
        refine gb_get (pc := 66) fX7_123 rfl (gz_b (by decide)) xw65 rfl dX7_giveBackUnmarked_66 (fun v21 ev21 => ?_)
        have h := h v21 ev21
        refine go_iload_n (pc := 69) dX7_giveBackUnmarked_69 rfl rfl ?_
        obtain ⟨b23, h⟩ := h
        refine gb_iast (pc := 70) (F := wX G o) (gz_b (by decide)) xw66 b23 xa66 dX7_giveBackUnmarked_70 (fun c22 ec22 => ?_)
        have h := h c22 ec22
        refine go_aload_n (pc := 71) dX7_giveBackUnmarked_71 rfl rfl ?_
        refine go_dup (pc := 72) dX7_giveBackUnmarked_72 rfl ?_
        refine gb_get (pc := 73) fX7_123 rfl (gz_b (by decide)) xw65 rfl dX7_giveBackUnmarked_73 (fun v24 ev24 => ?_)
        have h := h v24 ev24
        refine go_iconst (pc := 76) (v := 1) dX7_giveBackUnmarked_76 (by decide) ?_
        refine go_iadd (pc := 77) dX7_giveBackUnmarked_77 ?_
        refine gb_put (pc := 78) (F := wX G o) fX7_123 rfl (gz_b (by decide)) xw65 (Nat.le_of_ble_eq_true rfl) rfl rfl xp65_5 dX7_giveBackUnmarked_78 (fun c25 ec25 => ?_)
        have h := h c25 ec25
        refine go_lv [0, 1] rfl ?_
        exact tX7_giveBackUnmarked_p81 hP7 h
set_option maxRecDepth 100000 in
set_option maxHeartbeats 4000000 in
theorem tX7_giveBackUnmarked_p7 {l : Launch} {G : gG} {k : Nat} {o : gMem} {Q : gMem → Prop} {l1 : Int32} {c : gMem} (h : wX7_giveBackUnmarked_p7 l1 c Q) : Go l G mX7_giveBackUnmarked (gbq G 2 43 84 k (qv (wX G o) Q)) 7 [(0, .ref (G.2.1 + 65)), (1, .int l1)] [] 84 k (wX G o c) :=
  h (fun l1 c => Go l G mX7_giveBackUnmarked (gbq G 2 43 84 k (qv (wX G o) Q)) 7 [(0, .ref (G.2.1 + 65)), (1, .int l1)] [] 84 k (wX G o c)) (fun l1 c hb => tX7_giveBackUnmarked_p7_b (fun l1 c hh => hh) hb)
def wX7_giveBackUnmarked (c : gMem) (Q : gMem → Prop) : Prop :=
  ∀ c1, c1 = mp c 65 5 0 →
  wX7_giveBackUnmarked_p7 0 c1 Q
set_option maxRecDepth 100000 in
set_option maxHeartbeats 4000000 in
theorem tX7_giveBackUnmarked {l : Launch} {G : gG} {k : Nat} {o : gMem} {Q : gMem → Prop} {c : gMem} (h : wX7_giveBackUnmarked c Q) : Cq l G mX7_giveBackUnmarked 2 43 [.ref (G.2.1 + 65)] 84 k (wX G o c) (qv (wX G o) Q) := by
  refine Cq.of (by decide) (Nat.le_of_ble_eq_true rfl) ?_
  show Go l G mX7_giveBackUnmarked (gbq G 2 43 84 k (qv (wX G o) Q)) 0 [(0, .ref (G.2.1 + 65))] [] 84 k (wX G o c)
  unfold wX7_giveBackUnmarked at h
  refine go_aload_n (pc := 0) dX7_giveBackUnmarked_0 rfl rfl ?_
  refine go_iconst (pc := 1) (v := 0) dX7_giveBackUnmarked_1 (by decide) ?_
  refine gb_put (pc := 2) (F := wX G o) fX7_123 rfl (gz_b (by decide)) xw65 (Nat.le_of_ble_eq_true rfl) rfl rfl xp65_5 dX7_giveBackUnmarked_2 (fun c1 ec1 => ?_)
  have h := h c1 ec1
  refine go_iconst (pc := 5) (v := 0) dX7_giveBackUnmarked_5 (by decide) ?_
  refine go_istore_n (pc := 6) (lv' := [(1, .int 0), (0, .ref (G.2.1 + 65))]) dX7_giveBackUnmarked_6 rfl (by decide) rfl ?_
  refine go_lv [1, 0] rfl ?_
  exact tX7_giveBackUnmarked_p7 h
def wX2_isA (l1 : Int32) (l2 : Int32) (c : gMem) (Q : Int32 → gMem → Prop) : Prop :=
  vp_in l1 6 ∧
  ∀ v1, v1 = (gs_n 0).2.2.getD l1.toNatClampNeg 0 →
  vp_in l2 500 ∧
  ∀ v3, v3 = c 4 l2.toNatClampNeg →
  vp_in v3 4000 ∧
  ∀ v5, v5 = c 3 v3.toNatClampNeg →
  (((v1 >>> ((v5 &&& 7) &&& 31)) &&& 1 = 1 →
    Q 1 c) ∧
   (¬ (v1 >>> ((v5 &&& 7) &&& 31)) &&& 1 = 1 →
    Q 0 c))
set_option maxRecDepth 100000 in
set_option maxHeartbeats 4000000 in
theorem tX2_isA {l : Launch} {G : gG} {k : Nat} {o : gMem} {Q : Int32 → gMem → Prop} {l1 : Int32} {l2 : Int32} {c : gMem} (h : wX2_isA l1 l2 c Q) : Cq l G mX2_isA 0 0 [.ref (G.2.1 + 2), .int l1, .int l2] 84 k (wX G o c) (qi (wX G o) Q) := by
  refine Cq.of (by decide) (Nat.le_of_ble_eq_true rfl) ?_
  show Go l G mX2_isA (gbq G 0 0 84 k (qi (wX G o) Q)) 0 [(0, .ref (G.2.1 + 2)), (1, .int l1), (2, .int l2)] [] 84 k (wX G o c)
  unfold wX2_isA at h
  refine go_getsN (pc := 0) (i := 0) (by decide) rfl tX2_53 dX2_isA_0 ?_
  refine go_iload_n (pc := 3) dX2_isA_3 rfl rfl ?_
  obtain ⟨b2, h⟩ := h
  refine gb_tald (pc := 4) (i := 0) (by decide) b2 dX2_isA_4 (fun v1 ev1 => ?_)
  have h := h v1 ev1
  refine go_aload_n (pc := 5) dX2_isA_5 rfl rfl ?_
  refine go_get (pc := 6) fX2_9 rfl (gz_b (by decide)) xw2 rfl dX2_isA_6 ?_
  refine go_aload_n (pc := 9) dX2_isA_9 rfl rfl ?_
  refine go_get (pc := 10) fX2_15 rfl (gz_b (by decide)) xw2 rfl dX2_isA_10 ?_
  refine go_iload_n (pc := 13) dX2_isA_13 rfl rfl ?_
  obtain ⟨b4, h⟩ := h
  refine gb_iald (pc := 14) (gz_b (by decide)) xw4 b4 dX2_isA_14 (fun v3 ev3 => ?_)
  have h := h v3 ev3
  obtain ⟨b6, h⟩ := h
  refine gb_iald (pc := 15) (gz_b (by decide)) xw3 b6 dX2_isA_15 (fun v5 ev5 => ?_)
  have h := h v5 ev5
  refine go_bipush (pc := 16) (v := 7) dX2_isA_16 (by decide) ?_
  refine go_iand (pc := 18) dX2_isA_18 ?_
  refine go_ishr (pc := 19) dX2_isA_19 ?_
  refine go_iconst (pc := 20) (v := 1) dX2_isA_20 (by decide) ?_
  refine go_iand (pc := 21) dX2_isA_21 ?_
  refine go_iconst (pc := 22) (v := 1) dX2_isA_22 (by decide) ?_
  refine go_icmp_ne (pc := 23) (tgt := 30) dX2_isA_23 (by decide) (fun q7 => ?_) (fun q7 => ?_)
  · have h := h.2 q7
    refine go_iconst (pc := 30) (v := 0) dX2_isA_30 (by decide) ?_
    exact gq_zret (pc := 31) (F := wX G o) rfl (by decide) dX2_isA_31 h
  · have h := h.1 q7
    refine go_iconst (pc := 26) (v := 1) dX2_isA_26 (by decide) ?_
    refine go_goto (pc := 27) (tgt := 31) dX2_isA_27 (by decide) ?_
    exact gq_zret (pc := 31) (F := wX G o) rfl (by decide) dX2_isA_31 h
def wX2_weakPlace (l1 : Int32) (c : gMem) (Q : Int32 → gMem → Prop) : Prop :=
  vp_in l1 500 ∧
  ∀ v1, v1 = c 4 l1.toNatClampNeg →
  Q (v1 + 2) c
set_option maxRecDepth 100000 in
set_option maxHeartbeats 4000000 in
theorem tX2_weakPlace {l : Launch} {G : gG} {k : Nat} {o : gMem} {Q : Int32 → gMem → Prop} {l1 : Int32} {c : gMem} (h : wX2_weakPlace l1 c Q) : Cq l G mX2_weakPlace 0 0 [.ref (G.2.1 + 2), .int l1] 84 k (wX G o c) (qi (wX G o) Q) := by
  refine Cq.of (by decide) (Nat.le_of_ble_eq_true rfl) ?_
  show Go l G mX2_weakPlace (gbq G 0 0 84 k (qi (wX G o) Q)) 0 [(0, .ref (G.2.1 + 2)), (1, .int l1)] [] 84 k (wX G o c)
  unfold wX2_weakPlace at h
  refine go_aload_n (pc := 0) dX2_weakPlace_0 rfl rfl ?_
  refine go_get (pc := 1) fX2_15 rfl (gz_b (by decide)) xw2 rfl dX2_weakPlace_1 ?_
  refine go_iload_n (pc := 4) dX2_weakPlace_4 rfl rfl ?_
  obtain ⟨b2, h⟩ := h
  refine gb_iald (pc := 5) (gz_b (by decide)) xw4 b2 dX2_weakPlace_5 (fun v1 ev1 => ?_)
  have h := h v1 ev1
  refine go_iconst (pc := 6) (v := 2) dX2_weakPlace_6 (by decide) ?_
  refine go_iadd (pc := 7) dX2_weakPlace_7 ?_
  exact gq_iret (pc := 8) (F := wX G o) rfl dX2_weakPlace_8 h
def wX2_numberOf (l1 : Int32) (c : gMem) (Q : Int32 → gMem → Prop) : Prop :=
  vp_in l1 500 ∧
  ∀ v1, v1 = c 4 l1.toNatClampNeg →
  vp_in (v1 + 3) 4000 ∧
  ∀ v3, v3 = c 3 (v1 + 3).toNatClampNeg →
  Q v3 c
set_option maxRecDepth 100000 in
set_option maxHeartbeats 4000000 in
theorem tX2_numberOf {l : Launch} {G : gG} {k : Nat} {o : gMem} {Q : Int32 → gMem → Prop} {l1 : Int32} {c : gMem} (h : wX2_numberOf l1 c Q) : Cq l G mX2_numberOf 0 0 [.ref (G.2.1 + 2), .int l1] 84 k (wX G o c) (qi (wX G o) Q) := by
  refine Cq.of (by decide) (Nat.le_of_ble_eq_true rfl) ?_
  show Go l G mX2_numberOf (gbq G 0 0 84 k (qi (wX G o) Q)) 0 [(0, .ref (G.2.1 + 2)), (1, .int l1)] [] 84 k (wX G o c)
  unfold wX2_numberOf at h
  refine go_aload_n (pc := 0) dX2_numberOf_0 rfl rfl ?_
  refine go_get (pc := 1) fX2_9 rfl (gz_b (by decide)) xw2 rfl dX2_numberOf_1 ?_
  refine go_aload_n (pc := 4) dX2_numberOf_4 rfl rfl ?_
  refine go_get (pc := 5) fX2_15 rfl (gz_b (by decide)) xw2 rfl dX2_numberOf_5 ?_
  refine go_iload_n (pc := 8) dX2_numberOf_8 rfl rfl ?_
  obtain ⟨b2, h⟩ := h
  refine gb_iald (pc := 9) (gz_b (by decide)) xw4 b2 dX2_numberOf_9 (fun v1 ev1 => ?_)
  have h := h v1 ev1
  refine go_iconst (pc := 10) (v := 3) dX2_numberOf_10 (by decide) ?_
  refine go_iadd (pc := 11) dX2_numberOf_11 ?_
  obtain ⟨b4, h⟩ := h
  refine gb_iald (pc := 12) (gz_b (by decide)) xw3 b4 dX2_numberOf_12 (fun v3 ev3 => ?_)
  have h := h v3 ev3
  exact gq_iret (pc := 13) (F := wX G o) rfl dX2_numberOf_13 h
def wX8_tell_p44 (c : gMem) (Q : gMem → Prop) : Prop :=
  ∀ v1, v1 = c 12 5 →
  ∀ c2, c2 = mp c 12 5 (v1 + 1) →
  Q c2
set_option maxRecDepth 100000 in
set_option maxHeartbeats 4000000 in
theorem tX8_tell_p44 {l : Launch} {G : gG} {k : Nat} {o : gMem} {Q : gMem → Prop} {c : gMem} (h : wX8_tell_p44 c Q) : Go l G mX8_tell (gbq G 0 0 84 k (qv (wX G o) Q)) 44 [(0, .ref (G.2.1 + 12))] [] 84 k (wX G o c) := by
  unfold wX8_tell_p44 at h
  refine go_aload_n (pc := 44) dX8_tell_44 rfl rfl ?_
  refine go_dup (pc := 45) dX8_tell_45 rfl ?_
  refine gb_get (pc := 46) fX8_31 rfl (gz_b (by decide)) xw12 rfl dX8_tell_46 (fun v1 ev1 => ?_)
  have h := h v1 ev1
  refine go_iconst (pc := 49) (v := 1) dX8_tell_49 (by decide) ?_
  refine go_iadd (pc := 50) dX8_tell_50 ?_
  refine gb_put (pc := 51) (F := wX G o) fX8_31 rfl (gz_b (by decide)) xw12 (Nat.le_of_ble_eq_true rfl) rfl rfl xp12_5 dX8_tell_51 (fun c2 ec2 => ?_)
  have h := h c2 ec2
  exact gq_vret (pc := 54) (F := wX G o) rfl dX8_tell_54 h
def wX8_tell (l1 : Int32) (l2 : Int32) (c : gMem) (Q : gMem → Prop) : Prop :=
  ∀ v1, v1 = c 12 5 →
  ((100 ≤ v1 →
    wX8_tell_p44 c Q) ∧
   (¬ 100 ≤ v1 →
    ∀ v3, v3 = c 12 5 →
    vp_in (v3 * 3) 300 ∧
    ∀ c4, c4 = mp c 13 (v3 * 3).toNatClampNeg l1 →
    vp_in ((v3 * 3) + 1) 300 ∧
    ∀ c6, c6 = mp c4 13 ((v3 * 3) + 1).toNatClampNeg l2 →
    ∀ v8, v8 = c6 12 0 →
    vp_in ((v3 * 3) + 2) 300 ∧
    ∀ c9, c9 = mp c6 13 ((v3 * 3) + 2).toNatClampNeg v8 →
    wX8_tell_p44 c9 Q))
set_option maxRecDepth 100000 in
set_option maxHeartbeats 4000000 in
theorem tX8_tell {l : Launch} {G : gG} {k : Nat} {o : gMem} {Q : gMem → Prop} {l1 : Int32} {l2 : Int32} {c : gMem} (h : wX8_tell l1 l2 c Q) : Cq l G mX8_tell 0 0 [.ref (G.2.1 + 12), .int l1, .int l2] 84 k (wX G o c) (qv (wX G o) Q) := by
  refine Cq.of (by decide) (Nat.le_of_ble_eq_true rfl) ?_
  show Go l G mX8_tell (gbq G 0 0 84 k (qv (wX G o) Q)) 0 [(0, .ref (G.2.1 + 12)), (1, .int l1), (2, .int l2)] [] 84 k (wX G o c)
  unfold wX8_tell at h
  refine go_aload_n (pc := 0) dX8_tell_0 rfl rfl ?_
  refine gb_get (pc := 1) fX8_31 rfl (gz_b (by decide)) xw12 rfl dX8_tell_1 (fun v1 ev1 => ?_)
  have h := h v1 ev1
  refine go_bipush (pc := 4) (v := 100) dX8_tell_4 (by decide) ?_
  refine go_icmp_ge (pc := 6) (tgt := 44) dX8_tell_6 (by decide) (fun q2 => ?_) (fun q2 => ?_)
  · have h := h.1 q2
    refine go_lv [0] rfl ?_
    exact tX8_tell_p44 h
  · have h := h.2 q2
    refine go_aload_n (pc := 9) dX8_tell_9 rfl rfl ?_
    refine gb_get (pc := 10) fX8_31 rfl (gz_b (by decide)) xw12 rfl dX8_tell_10 (fun v3 ev3 => ?_)
    have h := h v3 ev3
    refine go_iconst (pc := 13) (v := 3) dX8_tell_13 (by decide) ?_
    refine go_imul (pc := 14) dX8_tell_14 ?_
    refine go_istore_n (pc := 15) (lv' := [(3, .int (v3 * 3)), (0, .ref (G.2.1 + 12)), (1, .int l1), (2, .int l2)]) dX8_tell_15 rfl (by decide) rfl ?_
    refine go_aload_n (pc := 16) dX8_tell_16 rfl rfl ?_
    refine go_get (pc := 17) fX8_9 rfl (gz_b (by decide)) xw12 rfl dX8_tell_17 ?_
    refine go_iload_n (pc := 20) dX8_tell_20 rfl rfl ?_
    refine go_iload_n (pc := 21) dX8_tell_21 rfl rfl ?_
    obtain ⟨b5, h⟩ := h
    refine gb_iast (pc := 22) (F := wX G o) (gz_b (by decide)) xw13 b5 xa13 dX8_tell_22 (fun c4 ec4 => ?_)
    have h := h c4 ec4
    refine go_aload_n (pc := 23) dX8_tell_23 rfl rfl ?_
    refine go_get (pc := 24) fX8_9 rfl (gz_b (by decide)) xw12 rfl dX8_tell_24 ?_
    refine go_iload_n (pc := 27) dX8_tell_27 rfl rfl ?_
    refine go_iconst (pc := 28) (v := 1) dX8_tell_28 (by decide) ?_
    refine go_iadd (pc := 29) dX8_tell_29 ?_
    refine go_iload_n (pc := 30) dX8_tell_30 rfl rfl ?_
    obtain ⟨b7, h⟩ := h
    refine gb_iast (pc := 31) (F := wX G o) (gz_b (by decide)) xw13 b7 xa13 dX8_tell_31 (fun c6 ec6 => ?_)
    have h := h c6 ec6
    refine go_aload_n (pc := 32) dX8_tell_32 rfl rfl ?_
    refine go_get (pc := 33) fX8_9 rfl (gz_b (by decide)) xw12 rfl dX8_tell_33 ?_
    refine go_iload_n (pc := 36) dX8_tell_36 rfl rfl ?_
    refine go_iconst (pc := 37) (v := 2) dX8_tell_37 (by decide) ?_
    refine go_iadd (pc := 38) dX8_tell_38 ?_
    refine go_aload_n (pc := 39) dX8_tell_39 rfl rfl ?_
    refine gb_get (pc := 40) fX8_15 rfl (gz_b (by decide)) xw12 rfl dX8_tell_40 (fun v8 ev8 => ?_)
    have h := h v8 ev8
    obtain ⟨b10, h⟩ := h
    refine gb_iast (pc := 43) (F := wX G o) (gz_b (by decide)) xw13 b10 xa13 dX8_tell_43 (fun c9 ec9 => ?_)
    have h := h c9 ec9
    refine go_lv [1] rfl ?_
    exact tX8_tell_p44 h
def wX7_fadeWeakLink (l1 : Int32) (c : gMem) (Q : gMem → Prop) : Prop :=
  wX2_weakPlace l1 c (fun r2 c1 =>
  vp_in r2 4000 ∧
  ∀ v3, v3 = c1 3 r2.toNatClampNeg →
  ((v3 = (-1) →
    Q c1) ∧
   (¬ v3 = (-1) →
    wX2_has v3 c1 (fun r7 c6 =>
    ((r7 = 0 →
      vp_in r2 4000 ∧
      ∀ c9, c9 = mp c6 3 r2.toNatClampNeg ((-1)) →
      ∀ v11, v11 = c9 64 9 →
      ∀ c12, c12 = mp c9 64 9 (v11 + 1) →
      wX2_isA 4 l1 c12 (fun r14 c13 =>
      ((r14 = 0 →
        Q c13) ∧
       (¬ r14 = 0 →
        ∀ v16, v16 = c13 64 10 →
        ∀ c17, c17 = mp c13 64 10 (v16 + 1) →
        wX2_numberOf l1 c17 (fun r19 c18 =>
        wX8_tell l1 r19 c18 (fun c20 =>
        Q c20)))))) ∧
     (¬ r7 = 0 →
      Q c6))))))
set_option maxRecDepth 100000 in
set_option maxHeartbeats 4000000 in
theorem tX7_fadeWeakLink {l : Launch} {G : gG} {k : Nat} {o : gMem} {Q : gMem → Prop} {l1 : Int32} {c : gMem} (h : wX7_fadeWeakLink l1 c Q) : Cq l G mX7_fadeWeakLink 1 23 [.ref (G.2.1 + 65), .int l1] 84 k (wX G o c) (qv (wX G o) Q) := by
  refine Cq.of (by decide) (Nat.le_of_ble_eq_true rfl) ?_
  show Go l G mX7_fadeWeakLink (gbq G 1 23 84 k (qv (wX G o) Q)) 0 [(0, .ref (G.2.1 + 65)), (1, .int l1)] [] 84 k (wX G o c)
  unfold wX7_fadeWeakLink at h
  refine go_aload_n (pc := 0) dX7_fadeWeakLink_0 rfl rfl ?_
  refine go_get (pc := 1) fX7_31 rfl (gz_b (by decide)) xw65 rfl dX7_fadeWeakLink_1 ?_
  refine go_iload_n (pc := 4) dX7_fadeWeakLink_4 rfl rfl ?_
  refine gq_callV_i (pc := 5) (F := wX G o) vX7_167 rfl (tX2_weakPlace h) rfl rfl (gz_b (by decide)) xw2 rfl (Nat.le_of_ble_eq_true rfl) ⟨Nat.le_of_ble_eq_true rfl, Nat.le_of_ble_eq_true rfl, Nat.le_add_right _ _, Nat.le_add_right _ _⟩ dX7_fadeWeakLink_5 (fun r2 c1 h => ?_)
  refine go_istore_n (pc := 8) (lv' := [(2, .int r2), (0, .ref (G.2.1 + 65)), (1, .int l1)]) dX7_fadeWeakLink_8 rfl (by decide) rfl ?_
  refine go_aload_n (pc := 9) dX7_fadeWeakLink_9 rfl rfl ?_
  refine go_get (pc := 10) fX7_31 rfl (gz_b (by decide)) xw65 rfl dX7_fadeWeakLink_10 ?_
  refine go_get (pc := 13) fX7_90 rfl (gz_b (by decide)) xw2 rfl dX7_fadeWeakLink_13 ?_
  refine go_iload_n (pc := 16) dX7_fadeWeakLink_16 rfl rfl ?_
  obtain ⟨b4, h⟩ := h
  refine gb_iald (pc := 17) (gz_b (by decide)) xw3 b4 dX7_fadeWeakLink_17 (fun v3 ev3 => ?_)
  have h := h v3 ev3
  refine go_istore_n (pc := 18) (lv' := [(3, .int v3), (2, .int r2), (0, .ref (G.2.1 + 65)), (1, .int l1)]) dX7_fadeWeakLink_18 rfl (by decide) rfl ?_
  refine go_iload_n (pc := 19) dX7_fadeWeakLink_19 rfl rfl ?_
  refine go_iconst (pc := 20) (v := (-1)) dX7_fadeWeakLink_20 (by decide) ?_
  refine go_icmp_eq (pc := 21) (tgt := 35) dX7_fadeWeakLink_21 (by decide) (fun q5 => ?_) (fun q5 => ?_)
  · have h := h.1 q5
    exact gq_vret (pc := 35) (F := wX G o) rfl dX7_fadeWeakLink_35 h
  · have h := h.2 q5
    refine go_aload_n (pc := 24) dX7_fadeWeakLink_24 rfl rfl ?_
    refine go_get (pc := 25) fX7_31 rfl (gz_b (by decide)) xw65 rfl dX7_fadeWeakLink_25 ?_
    refine go_iload_n (pc := 28) dX7_fadeWeakLink_28 rfl rfl ?_
    refine gq_callV_i (pc := 29) (F := wX G o) vX7_61 rfl (tX2_has h) rfl rfl (gz_b (by decide)) xw2 rfl (Nat.le_of_ble_eq_true rfl) ⟨Nat.le_of_ble_eq_true rfl, Nat.le_of_ble_eq_true rfl, Nat.le_add_right _ _, Nat.le_add_right _ _⟩ dX7_fadeWeakLink_29 (fun r7 c6 h => ?_)
    refine go_if_eq (pc := 32) (tgt := 36) dX7_fadeWeakLink_32 (by decide) (fun q8 => ?_) (fun q8 => ?_)
    · have h := h.1 q8
      refine go_aload_n (pc := 36) dX7_fadeWeakLink_36 rfl rfl ?_
      refine go_get (pc := 37) fX7_31 rfl (gz_b (by decide)) xw65 rfl dX7_fadeWeakLink_37 ?_
      refine go_get (pc := 40) fX7_90 rfl (gz_b (by decide)) xw2 rfl dX7_fadeWeakLink_40 ?_
      refine go_iload_n (pc := 43) dX7_fadeWeakLink_43 rfl rfl ?_
      refine go_iconst (pc := 44) (v := (-1)) dX7_fadeWeakLink_44 (by decide) ?_
      obtain ⟨b10, h⟩ := h
      refine gb_iast (pc := 45) (F := wX G o) (gz_b (by decide)) xw3 b10 xa3 dX7_fadeWeakLink_45 (fun c9 ec9 => ?_)
      have h := h c9 ec9
      refine go_aload_n (pc := 46) dX7_fadeWeakLink_46 rfl rfl ?_
      refine go_get (pc := 47) fX7_37 rfl (gz_b (by decide)) xw65 rfl dX7_fadeWeakLink_47 ?_
      refine go_bipush (pc := 50) (v := 9) dX7_fadeWeakLink_50 (by decide) ?_
      refine go_dup2 (pc := 52) dX7_fadeWeakLink_52 rfl rfl ?_
      refine gb_iald (pc := 53) (gz_b (by decide)) xw64 (gv_in (by decide)) dX7_fadeWeakLink_53 (fun v11 ev11 => ?_)
      have h := h v11 ev11
      refine go_iconst (pc := 54) (v := 1) dX7_fadeWeakLink_54 (by decide) ?_
      refine go_iadd (pc := 55) dX7_fadeWeakLink_55 ?_
      refine gb_iast (pc := 56) (F := wX G o) (gz_b (by decide)) xw64 (gv_in (by decide)) xa64 dX7_fadeWeakLink_56 (fun c12 ec12 => ?_)
      have h := h c12 ec12
      refine go_aload_n (pc := 57) dX7_fadeWeakLink_57 rfl rfl ?_
      refine go_get (pc := 58) fX7_31 rfl (gz_b (by decide)) xw65 rfl dX7_fadeWeakLink_58 ?_
      refine go_iconst (pc := 61) (v := 4) dX7_fadeWeakLink_61 (by decide) ?_
      refine go_iload_n (pc := 62) dX7_fadeWeakLink_62 rfl rfl ?_
      refine gq_callV_i (pc := 63) (F := wX G o) vX7_160 rfl (tX2_isA h) rfl rfl (gz_b (by decide)) xw2 rfl (Nat.le_of_ble_eq_true rfl) ⟨Nat.le_of_ble_eq_true rfl, Nat.le_of_ble_eq_true rfl, Nat.le_add_right _ _, Nat.le_add_right _ _⟩ dX7_fadeWeakLink_63 (fun r14 c13 h => ?_)
      refine go_if_eq (pc := 66) (tgt := 99) dX7_fadeWeakLink_66 (by decide) (fun q15 => ?_) (fun q15 => ?_)
      · have h := h.1 q15
        exact gq_vret (pc := 99) (F := wX G o) rfl dX7_fadeWeakLink_99 h
      · have h := h.2 q15
        refine go_aload_n (pc := 69) dX7_fadeWeakLink_69 rfl rfl ?_
        refine go_get (pc := 70) fX7_37 rfl (gz_b (by decide)) xw65 rfl dX7_fadeWeakLink_70 ?_
        refine go_bipush (pc := 73) (v := 10) dX7_fadeWeakLink_73 (by decide) ?_
        refine go_dup2 (pc := 75) dX7_fadeWeakLink_75 rfl rfl ?_
        refine gb_iald (pc := 76) (gz_b (by decide)) xw64 (gv_in (by decide)) dX7_fadeWeakLink_76 (fun v16 ev16 => ?_)
        have h := h v16 ev16
        refine go_iconst (pc := 77) (v := 1) dX7_fadeWeakLink_77 (by decide) ?_
        refine go_iadd (pc := 78) dX7_fadeWeakLink_78 ?_
        refine gb_iast (pc := 79) (F := wX G o) (gz_b (by decide)) xw64 (gv_in (by decide)) xa64 dX7_fadeWeakLink_79 (fun c17 ec17 => ?_)
        have h := h c17 ec17
        refine go_aload_n (pc := 80) dX7_fadeWeakLink_80 rfl rfl ?_
        refine go_get (pc := 81) fX7_21 rfl (gz_b (by decide)) xw65 rfl dX7_fadeWeakLink_81 ?_
        refine go_get (pc := 84) fX7_102 rfl (gz_b (by decide)) xw1 rfl dX7_fadeWeakLink_84 ?_
        refine go_iload_n (pc := 87) dX7_fadeWeakLink_87 rfl rfl ?_
        refine go_aload_n (pc := 88) dX7_fadeWeakLink_88 rfl rfl ?_
        refine go_get (pc := 89) fX7_31 rfl (gz_b (by decide)) xw65 rfl dX7_fadeWeakLink_89 ?_
        refine go_iload_n (pc := 92) dX7_fadeWeakLink_92 rfl rfl ?_
        refine gq_callV_i (pc := 93) (F := wX G o) vX7_170 rfl (tX2_numberOf h) rfl rfl (gz_b (by decide)) xw2 rfl (Nat.le_of_ble_eq_true rfl) ⟨Nat.le_of_ble_eq_true rfl, Nat.le_of_ble_eq_true rfl, Nat.le_add_right _ _, Nat.le_add_right _ _⟩ dX7_fadeWeakLink_93 (fun r19 c18 h => ?_)
        refine gq_callV_v (pc := 96) (F := wX G o) vX7_173 rfl (tX8_tell h) rfl rfl (gz_b (by decide)) xw12 rfl (Nat.le_of_ble_eq_true rfl) ⟨Nat.le_of_ble_eq_true rfl, Nat.le_of_ble_eq_true rfl, Nat.le_add_right _ _, Nat.le_add_right _ _⟩ dX7_fadeWeakLink_96 (fun c20 h => ?_)
        exact gq_vret (pc := 99) (F := wX G o) rfl dX7_fadeWeakLink_99 h
    · have h := h.2 q8
      exact gq_vret (pc := 35) (F := wX G o) rfl dX7_fadeWeakLink_35 h
def wX7_fadeWeakLinks_p41 (P2 : Int32 → gMem → Prop) (l1 : Int32) (c : gMem) (Q : gMem → Prop) : Prop :=
  P2 (l1 + 1) c
set_option maxRecDepth 100000 in
set_option maxHeartbeats 4000000 in
theorem tX7_fadeWeakLinks_p41 {l : Launch} {G : gG} {k : Nat} {o : gMem} {Q : gMem → Prop} {P2 : Int32 → gMem → Prop} (hP2 : ∀ (l1 : Int32) (c : gMem), P2 l1 c → Go l G mX7_fadeWeakLinks (gbq G 2 46 84 k (qv (wX G o) Q)) 2 [(0, .ref (G.2.1 + 65)), (1, .int l1)] [] 84 k (wX G o c)) {l1 : Int32} {c : gMem} (h : wX7_fadeWeakLinks_p41 P2 l1 c Q) : Go l G mX7_fadeWeakLinks (gbq G 2 46 84 k (qv (wX G o) Q)) 41 [(0, .ref (G.2.1 + 65)), (1, .int l1)] [] 84 k (wX G o c) := by
  unfold wX7_fadeWeakLinks_p41 at h
  refine go_iinc (pc := 41) (v := l1 + 1) (lv' := [(1, .int (l1 + 1)), (0, .ref (G.2.1 + 65))]) dX7_fadeWeakLinks_41 1 rfl (by first | rfl | decide) (by decide) rfl ?_
  refine go_goto (pc := 44) (tgt := 2) dX7_fadeWeakLinks_44 (by decide) ?_
  refine go_lv [1, 0] rfl ?_
  exact hP2 _ _ h
def wX7_fadeWeakLinks_p2_b (P2 : Int32 → gMem → Prop) (l1 : Int32) (c : gMem) (Q : gMem → Prop) : Prop :=
  ∀ v1, v1 = c 2 2 →
  ((v1 ≤ l1 →
    Q c) ∧
   (¬ v1 ≤ l1 →
    wX2_has l1 c (fun r4 c3 =>
    ((r4 = 0 →
      wX7_fadeWeakLinks_p41 P2 l1 c3 Q) ∧
     (¬ r4 = 0 →
      wX2_isA 3 l1 c3 (fun r7 c6 =>
      ((r7 = 0 →
        wX7_fadeWeakLinks_p41 P2 l1 c6 Q) ∧
       (¬ r7 = 0 →
        wX7_fadeWeakLink l1 c6 (fun c9 =>
        wX7_fadeWeakLinks_p41 P2 l1 c9 Q)))))))))
def wX7_fadeWeakLinks_p2 (l1 : Int32) (c : gMem) (Q : gMem → Prop) : Prop :=
  ∀ P2 : Int32 → gMem → Prop, (∀ (l1 : Int32) (c : gMem), wX7_fadeWeakLinks_p2_b P2 l1 c Q → P2 l1 c) → P2 l1 c
set_option maxRecDepth 100000 in
set_option maxHeartbeats 4000000 in
theorem tX7_fadeWeakLinks_p2_b {l : Launch} {G : gG} {k : Nat} {o : gMem} {Q : gMem → Prop} {P2 : Int32 → gMem → Prop} (hP2 : ∀ (l1 : Int32) (c : gMem), P2 l1 c → Go l G mX7_fadeWeakLinks (gbq G 2 46 84 k (qv (wX G o) Q)) 2 [(0, .ref (G.2.1 + 65)), (1, .int l1)] [] 84 k (wX G o c)) {l1 : Int32} {c : gMem} (h : wX7_fadeWeakLinks_p2_b P2 l1 c Q) : Go l G mX7_fadeWeakLinks (gbq G 2 46 84 k (qv (wX G o) Q)) 2 [(0, .ref (G.2.1 + 65)), (1, .int l1)] [] 84 k (wX G o c) := by
  unfold wX7_fadeWeakLinks_p2_b at h
  refine go_iload_n (pc := 2) dX7_fadeWeakLinks_2 rfl rfl ?_
  refine go_aload_n (pc := 3) dX7_fadeWeakLinks_3 rfl rfl ?_
  refine go_get (pc := 4) fX7_31 rfl (gz_b (by decide)) xw65 rfl dX7_fadeWeakLinks_4 ?_
  refine gb_get (pc := 7) fX7_126 rfl (gz_b (by decide)) xw2 rfl dX7_fadeWeakLinks_7 (fun v1 ev1 => ?_)
  have h := h v1 ev1
  refine go_icmp_ge (pc := 10) (tgt := 47) dX7_fadeWeakLinks_10 (by decide) (fun q2 => ?_) (fun q2 => ?_)
  · have h := h.1 q2
    exact gq_vret (pc := 47) (F := wX G o) rfl dX7_fadeWeakLinks_47 h
  · have h := h.2 q2
    refine go_aload_n (pc := 13) dX7_fadeWeakLinks_13 rfl rfl ?_
    refine go_get (pc := 14) fX7_31 rfl (gz_b (by decide)) xw65 rfl dX7_fadeWeakLinks_14 ?_
    refine go_iload_n (pc := 17) dX7_fadeWeakLinks_17 rfl rfl ?_
    refine gq_callV_i (pc := 18) (F := wX G o) vX7_61 rfl (tX2_has h) rfl rfl (gz_b (by decide)) xw2 rfl (Nat.le_of_ble_eq_true rfl) ⟨Nat.le_of_ble_eq_true rfl, Nat.le_of_ble_eq_true rfl, Nat.le_add_right _ _, Nat.le_add_right _ _⟩ dX7_fadeWeakLinks_18 (fun r4 c3 h => ?_)
    refine go_if_eq (pc := 21) (tgt := 41) dX7_fadeWeakLinks_21 (by decide) (fun q5 => ?_) (fun q5 => ?_)
    · have h := h.1 q5
      refine go_lv [0, 1] rfl ?_
      exact tX7_fadeWeakLinks_p41 hP2 h
    · have h := h.2 q5
      refine go_aload_n (pc := 24) dX7_fadeWeakLinks_24 rfl rfl ?_
      refine go_get (pc := 25) fX7_31 rfl (gz_b (by decide)) xw65 rfl dX7_fadeWeakLinks_25 ?_
      refine go_iconst (pc := 28) (v := 3) dX7_fadeWeakLinks_28 (by decide) ?_
      refine go_iload_n (pc := 29) dX7_fadeWeakLinks_29 rfl rfl ?_
      refine gq_callV_i (pc := 30) (F := wX G o) vX7_160 rfl (tX2_isA h) rfl rfl (gz_b (by decide)) xw2 rfl (Nat.le_of_ble_eq_true rfl) ⟨Nat.le_of_ble_eq_true rfl, Nat.le_of_ble_eq_true rfl, Nat.le_add_right _ _, Nat.le_add_right _ _⟩ dX7_fadeWeakLinks_30 (fun r7 c6 h => ?_)
      refine go_if_eq (pc := 33) (tgt := 41) dX7_fadeWeakLinks_33 (by decide) (fun q8 => ?_) (fun q8 => ?_)
      · have h := h.1 q8
        refine go_lv [0, 1] rfl ?_
        exact tX7_fadeWeakLinks_p41 hP2 h
      · have h := h.2 q8
        refine go_aload_n (pc := 36) dX7_fadeWeakLinks_36 rfl rfl ?_
        refine go_iload_n (pc := 37) dX7_fadeWeakLinks_37 rfl rfl ?_
        refine gq_callV_v (pc := 38) (F := wX G o) vX7_164 rfl (tX7_fadeWeakLink h) rfl rfl (gz_b (by decide)) xw65 rfl (Nat.le_of_ble_eq_true rfl) ⟨Nat.le_of_ble_eq_true rfl, Nat.le_of_ble_eq_true rfl, Nat.le_add_right _ _, Nat.le_add_right _ _⟩ dX7_fadeWeakLinks_38 (fun c9 h => ?_)
        refine go_lv [0, 1] rfl ?_
        exact tX7_fadeWeakLinks_p41 hP2 h
set_option maxRecDepth 100000 in
set_option maxHeartbeats 4000000 in
theorem tX7_fadeWeakLinks_p2 {l : Launch} {G : gG} {k : Nat} {o : gMem} {Q : gMem → Prop} {l1 : Int32} {c : gMem} (h : wX7_fadeWeakLinks_p2 l1 c Q) : Go l G mX7_fadeWeakLinks (gbq G 2 46 84 k (qv (wX G o) Q)) 2 [(0, .ref (G.2.1 + 65)), (1, .int l1)] [] 84 k (wX G o c) :=
  h (fun l1 c => Go l G mX7_fadeWeakLinks (gbq G 2 46 84 k (qv (wX G o) Q)) 2 [(0, .ref (G.2.1 + 65)), (1, .int l1)] [] 84 k (wX G o c)) (fun l1 c hb => tX7_fadeWeakLinks_p2_b (fun l1 c hh => hh) hb)
def wX7_fadeWeakLinks (c : gMem) (Q : gMem → Prop) : Prop :=
  wX7_fadeWeakLinks_p2 0 c Q
set_option maxRecDepth 100000 in
set_option maxHeartbeats 4000000 in
theorem tX7_fadeWeakLinks {l : Launch} {G : gG} {k : Nat} {o : gMem} {Q : gMem → Prop} {c : gMem} (h : wX7_fadeWeakLinks c Q) : Cq l G mX7_fadeWeakLinks 2 46 [.ref (G.2.1 + 65)] 84 k (wX G o c) (qv (wX G o) Q) := by
  refine Cq.of (by decide) (Nat.le_of_ble_eq_true rfl) ?_
  show Go l G mX7_fadeWeakLinks (gbq G 2 46 84 k (qv (wX G o) Q)) 0 [(0, .ref (G.2.1 + 65))] [] 84 k (wX G o c)
  unfold wX7_fadeWeakLinks at h
  refine go_iconst (pc := 0) (v := 0) dX7_fadeWeakLinks_0 (by decide) ?_
  refine go_istore_n (pc := 1) (lv' := [(1, .int 0), (0, .ref (G.2.1 + 65))]) dX7_fadeWeakLinks_1 rfl (by decide) rfl ?_
  refine go_lv [1, 0] rfl ?_
  exact tX7_fadeWeakLinks_p2 h
def wX2_countOf (l1 : Int32) (c : gMem) (Q : Int32 → gMem → Prop) : Prop :=
  vp_in l1 500 ∧
  ∀ v1, v1 = c 4 l1.toNatClampNeg →
  vp_in (v1 + 1) 4000 ∧
  ∀ v3, v3 = c 3 (v1 + 1).toNatClampNeg →
  Q v3 c
set_option maxRecDepth 100000 in
set_option maxHeartbeats 4000000 in
theorem tX2_countOf {l : Launch} {G : gG} {k : Nat} {o : gMem} {Q : Int32 → gMem → Prop} {l1 : Int32} {c : gMem} (h : wX2_countOf l1 c Q) : Cq l G mX2_countOf 0 0 [.ref (G.2.1 + 2), .int l1] 84 k (wX G o c) (qi (wX G o) Q) := by
  refine Cq.of (by decide) (Nat.le_of_ble_eq_true rfl) ?_
  show Go l G mX2_countOf (gbq G 0 0 84 k (qi (wX G o) Q)) 0 [(0, .ref (G.2.1 + 2)), (1, .int l1)] [] 84 k (wX G o c)
  unfold wX2_countOf at h
  refine go_aload_n (pc := 0) dX2_countOf_0 rfl rfl ?_
  refine go_get (pc := 1) fX2_9 rfl (gz_b (by decide)) xw2 rfl dX2_countOf_1 ?_
  refine go_aload_n (pc := 4) dX2_countOf_4 rfl rfl ?_
  refine go_get (pc := 5) fX2_15 rfl (gz_b (by decide)) xw2 rfl dX2_countOf_5 ?_
  refine go_iload_n (pc := 8) dX2_countOf_8 rfl rfl ?_
  obtain ⟨b2, h⟩ := h
  refine gb_iald (pc := 9) (gz_b (by decide)) xw4 b2 dX2_countOf_9 (fun v1 ev1 => ?_)
  have h := h v1 ev1
  refine go_iconst (pc := 10) (v := 1) dX2_countOf_10 (by decide) ?_
  refine go_iadd (pc := 11) dX2_countOf_11 ?_
  obtain ⟨b4, h⟩ := h
  refine gb_iald (pc := 12) (gz_b (by decide)) xw3 b4 dX2_countOf_12 (fun v3 ev3 => ?_)
  have h := h v3 ev3
  exact gq_iret (pc := 13) (F := wX G o) rfl dX2_countOf_13 h
def wX2_intsOf_p23 (s0 : Int32) (s1 : Int32) (c : gMem) (Q : Int32 → gMem → Prop) : Prop :=
  wX2_intsFor s1 s0 c (fun r2 c1 =>
  Q r2 c1)
set_option maxRecDepth 100000 in
set_option maxHeartbeats 4000000 in
theorem tX2_intsOf_p23 {l : Launch} {G : gG} {k : Nat} {o : gMem} {Q : Int32 → gMem → Prop} {s0 : Int32} {s1 : Int32} {c : gMem} (h : wX2_intsOf_p23 s0 s1 c Q) : Go l G mX2_intsOf (gbq G 1 21 84 k (qi (wX G o) Q)) 23 [] [.int s0, .int s1] 84 k (wX G o c) := by
  unfold wX2_intsOf_p23 at h
  refine gq_callS_i (pc := 23) (F := wX G o) sX2_67 rfl (tX2_intsFor h) rfl rfl (Nat.le_of_ble_eq_true rfl) ⟨Nat.le_of_ble_eq_true rfl, Nat.le_of_ble_eq_true rfl, Nat.le_add_right _ _, Nat.le_add_right _ _⟩ dX2_intsOf_23 (fun r2 c1 h => ?_)
  exact gq_iret (pc := 26) (F := wX G o) rfl dX2_intsOf_26 h
def wX2_intsOf (l1 : Int32) (c : gMem) (Q : Int32 → gMem → Prop) : Prop :=
  wX2_kindOf l1 c (fun r2 c1 =>
  wX2_isCounted r2 c1 (fun r4 c3 =>
  ((r4 = 0 →
    wX2_intsOf_p23 0 r2 c3 Q) ∧
   (¬ r4 = 0 →
    wX2_countOf l1 c3 (fun r7 c6 =>
    wX2_intsOf_p23 r7 r2 c6 Q)))))
set_option maxRecDepth 100000 in
set_option maxHeartbeats 4000000 in
theorem tX2_intsOf {l : Launch} {G : gG} {k : Nat} {o : gMem} {Q : Int32 → gMem → Prop} {l1 : Int32} {c : gMem} (h : wX2_intsOf l1 c Q) : Cq l G mX2_intsOf 1 21 [.ref (G.2.1 + 2), .int l1] 84 k (wX G o c) (qi (wX G o) Q) := by
  refine Cq.of (by decide) (Nat.le_of_ble_eq_true rfl) ?_
  show Go l G mX2_intsOf (gbq G 1 21 84 k (qi (wX G o) Q)) 0 [(0, .ref (G.2.1 + 2)), (1, .int l1)] [] 84 k (wX G o c)
  unfold wX2_intsOf at h
  refine go_aload_n (pc := 0) dX2_intsOf_0 rfl rfl ?_
  refine go_iload_n (pc := 1) dX2_intsOf_1 rfl rfl ?_
  refine gq_callV_i (pc := 2) (F := wX G o) vX2_56 rfl (tX2_kindOf h) rfl rfl (gz_b (by decide)) xw2 rfl (Nat.le_of_ble_eq_true rfl) ⟨Nat.le_of_ble_eq_true rfl, Nat.le_of_ble_eq_true rfl, Nat.le_add_right _ _, Nat.le_add_right _ _⟩ dX2_intsOf_2 (fun r2 c1 h => ?_)
  refine go_istore_n (pc := 5) (lv' := [(2, .int r2), (0, .ref (G.2.1 + 2)), (1, .int l1)]) dX2_intsOf_5 rfl (by decide) rfl ?_
  refine go_iload_n (pc := 6) dX2_intsOf_6 rfl rfl ?_
  refine go_iload_n (pc := 7) dX2_intsOf_7 rfl rfl ?_
  refine gq_callS_i (pc := 8) (F := wX G o) sX2_60 rfl (tX2_isCounted h) rfl rfl (Nat.le_of_ble_eq_true rfl) ⟨Nat.le_of_ble_eq_true rfl, Nat.le_of_ble_eq_true rfl, Nat.le_add_right _ _, Nat.le_add_right _ _⟩ dX2_intsOf_8 (fun r4 c3 h => ?_)
  refine go_if_eq (pc := 11) (tgt := 22) dX2_intsOf_11 (by decide) (fun q5 => ?_) (fun q5 => ?_)
  · have h := h.1 q5
    refine go_iconst (pc := 22) (v := 0) dX2_intsOf_22 (by decide) ?_
    refine go_lv [] rfl ?_
    exact tX2_intsOf_p23 h
  · have h := h.2 q5
    refine go_aload_n (pc := 14) dX2_intsOf_14 rfl rfl ?_
    refine go_iload_n (pc := 15) dX2_intsOf_15 rfl rfl ?_
    refine gq_callV_i (pc := 16) (F := wX G o) vX2_64 rfl (tX2_countOf h) rfl rfl (gz_b (by decide)) xw2 rfl (Nat.le_of_ble_eq_true rfl) ⟨Nat.le_of_ble_eq_true rfl, Nat.le_of_ble_eq_true rfl, Nat.le_add_right _ _, Nat.le_add_right _ _⟩ dX2_intsOf_16 (fun r7 c6 h => ?_)
    refine go_goto (pc := 19) (tgt := 23) dX2_intsOf_19 (by decide) ?_
    refine go_lv [] rfl ?_
    exact tX2_intsOf_p23 h
def wX2_slide (l1 : Int32) (l2 : Int32) (l3 : Int32) (c : gMem) (Q : Int32 → gMem → Prop) : Prop :=
  vp_in l1 500 ∧
  ∀ v1, v1 = c 4 l1.toNatClampNeg →
  vp_in l1 500 ∧
  ∀ c3, c3 = mp c 5 l1.toNatClampNeg (v1 - l2) →
  ((v1 = l2 →
    Q 0 c3) ∧
   (¬ v1 = l2 →
    (¬ v1 < 0 ∧ ¬ l2 < 0 ∧ ¬ l3 < 0 ∧ v1.toNatClampNeg + l3.toNatClampNeg ≤ 4000 ∧ l2.toNatClampNeg + l3.toNatClampNeg ≤ 4000) ∧
    ∀ c7, c7 = mr c3 3 (va_cpy (c3 3) (c3 3) v1.toNatClampNeg l2.toNatClampNeg l3.toNatClampNeg) →
    vp_in l1 500 ∧
    ∀ c8, c8 = mp c7 4 l1.toNatClampNeg l2 →
    Q 1 c8))
set_option maxRecDepth 100000 in
set_option maxHeartbeats 4000000 in
theorem tX2_slide {l : Launch} {G : gG} {k : Nat} {o : gMem} {Q : Int32 → gMem → Prop} {l1 : Int32} {l2 : Int32} {l3 : Int32} {c : gMem} (h : wX2_slide l1 l2 l3 c Q) : Cq l G mX2_slide 1 26 [.ref (G.2.1 + 2), .int l1, .int l2, .int l3] 84 k (wX G o c) (qi (wX G o) Q) := by
  refine Cq.of (by decide) (Nat.le_of_ble_eq_true rfl) ?_
  show Go l G mX2_slide (gbq G 1 26 84 k (qi (wX G o) Q)) 0 [(0, .ref (G.2.1 + 2)), (1, .int l1), (2, .int l2), (3, .int l3)] [] 84 k (wX G o c)
  unfold wX2_slide at h
  refine go_aload_n (pc := 0) dX2_slide_0 rfl rfl ?_
  refine go_get (pc := 1) fX2_15 rfl (gz_b (by decide)) xw2 rfl dX2_slide_1 ?_
  refine go_iload_n (pc := 4) dX2_slide_4 rfl rfl ?_
  obtain ⟨b2, h⟩ := h
  refine gb_iald (pc := 5) (gz_b (by decide)) xw4 b2 dX2_slide_5 (fun v1 ev1 => ?_)
  have h := h v1 ev1
  refine go_istore (pc := 6) (lv' := [(4, .int v1), (0, .ref (G.2.1 + 2)), (1, .int l1), (2, .int l2), (3, .int l3)]) dX2_slide_6 (by decide) rfl ?_
  refine go_aload_n (pc := 8) dX2_slide_8 rfl rfl ?_
  refine go_get (pc := 9) fX2_18 rfl (gz_b (by decide)) xw2 rfl dX2_slide_9 ?_
  refine go_iload_n (pc := 12) dX2_slide_12 rfl rfl ?_
  refine go_iload (pc := 13) dX2_slide_13 rfl ?_
  refine go_iload_n (pc := 15) dX2_slide_15 rfl rfl ?_
  refine go_isub (pc := 16) dX2_slide_16 ?_
  obtain ⟨b4, h⟩ := h
  refine gb_iast (pc := 17) (F := wX G o) (gz_b (by decide)) xw5 b4 xa5 dX2_slide_17 (fun c3 ec3 => ?_)
  have h := h c3 ec3
  refine go_iload (pc := 18) dX2_slide_18 rfl ?_
  refine go_iload_n (pc := 20) dX2_slide_20 rfl rfl ?_
  refine go_icmp_ne (pc := 21) (tgt := 26) dX2_slide_21 (by decide) (fun q5 => ?_) (fun q5 => ?_)
  · have h := h.2 q5
    refine go_aload_n (pc := 26) dX2_slide_26 rfl rfl ?_
    refine go_get (pc := 27) fX2_9 rfl (gz_b (by decide)) xw2 rfl dX2_slide_27 ?_
    refine go_iload (pc := 30) dX2_slide_30 rfl ?_
    refine go_aload_n (pc := 32) dX2_slide_32 rfl rfl ?_
    refine go_get (pc := 33) fX2_9 rfl (gz_b (by decide)) xw2 rfl dX2_slide_33 ?_
    refine go_iload_n (pc := 36) dX2_slide_36 rfl rfl ?_
    refine go_iload_n (pc := 37) dX2_slide_37 rfl rfl ?_
    obtain ⟨b6, h⟩ := h
    refine gb_copy (pc := 38) (F := wX G o) rfl aX2_47 (gz_b (by decide)) xw3 (gz_b (by decide)) xw3 b6 (Nat.le_of_ble_eq_true rfl) (Nat.le_of_ble_eq_true rfl) xa3 dX2_slide_38 (fun c7 ec7 => ?_)
    have h := h c7 ec7
    refine go_aload_n (pc := 41) dX2_slide_41 rfl rfl ?_
    refine go_get (pc := 42) fX2_15 rfl (gz_b (by decide)) xw2 rfl dX2_slide_42 ?_
    refine go_iload_n (pc := 45) dX2_slide_45 rfl rfl ?_
    refine go_iload_n (pc := 46) dX2_slide_46 rfl rfl ?_
    obtain ⟨b9, h⟩ := h
    refine gb_iast (pc := 47) (F := wX G o) (gz_b (by decide)) xw4 b9 xa4 dX2_slide_47 (fun c8 ec8 => ?_)
    have h := h c8 ec8
    refine go_iconst (pc := 48) (v := 1) dX2_slide_48 (by decide) ?_
    exact gq_zret (pc := 49) (F := wX G o) rfl (by decide) dX2_slide_49 h
  · have h := h.1 q5
    refine go_iconst (pc := 24) (v := 0) dX2_slide_24 (by decide) ?_
    exact gq_zret (pc := 25) (F := wX G o) rfl (by decide) dX2_slide_25 h
def wX7_slideKept_p90 (P15 : Int32 → Int32 → gMem → Prop) (l1 : Int32) (l2 : Int32) (c : gMem) (Q : gMem → Prop) : Prop :=
  P15 l1 (l2 + 1) c
set_option maxRecDepth 100000 in
set_option maxHeartbeats 4000000 in
theorem tX7_slideKept_p90 {l : Launch} {G : gG} {k : Nat} {o : gMem} {Q : gMem → Prop} {P15 : Int32 → Int32 → gMem → Prop} (hP15 : ∀ (l1 : Int32) (l2 : Int32) (c : gMem), P15 l1 l2 c → Go l G mX7_slideKept (gbq G 3 67 84 k (qv (wX G o) Q)) 15 [(0, .ref (G.2.1 + 65)), (1, .int l1), (2, .int l2)] [] 84 k (wX G o c)) {l1 : Int32} {l2 : Int32} {c : gMem} (h : wX7_slideKept_p90 P15 l1 l2 c Q) : Go l G mX7_slideKept (gbq G 3 67 84 k (qv (wX G o) Q)) 90 [(0, .ref (G.2.1 + 65)), (1, .int l1), (2, .int l2)] [] 84 k (wX G o c) := by
  unfold wX7_slideKept_p90 at h
  refine go_iinc (pc := 90) (v := l2 + 1) (lv' := [(2, .int (l2 + 1)), (0, .ref (G.2.1 + 65)), (1, .int l1)]) dX7_slideKept_90 2 rfl (by first | rfl | decide) (by decide) rfl ?_
  refine go_goto (pc := 93) (tgt := 15) dX7_slideKept_93 (by decide) ?_
  refine go_lv [1, 2, 0] rfl ?_
  exact hP15 _ _ _ h
def wX7_slideKept_p86 (P15 : Int32 → Int32 → gMem → Prop) (l1 : Int32) (l2 : Int32) (l3 : Int32) (c : gMem) (Q : gMem → Prop) : Prop :=
  wX7_slideKept_p90 P15 (l1 + l3) l2 c Q
set_option maxRecDepth 100000 in
set_option maxHeartbeats 4000000 in
theorem tX7_slideKept_p86 {l : Launch} {G : gG} {k : Nat} {o : gMem} {Q : gMem → Prop} {P15 : Int32 → Int32 → gMem → Prop} (hP15 : ∀ (l1 : Int32) (l2 : Int32) (c : gMem), P15 l1 l2 c → Go l G mX7_slideKept (gbq G 3 67 84 k (qv (wX G o) Q)) 15 [(0, .ref (G.2.1 + 65)), (1, .int l1), (2, .int l2)] [] 84 k (wX G o c)) {l1 : Int32} {l2 : Int32} {l3 : Int32} {c : gMem} (h : wX7_slideKept_p86 P15 l1 l2 l3 c Q) : Go l G mX7_slideKept (gbq G 3 67 84 k (qv (wX G o) Q)) 86 [(0, .ref (G.2.1 + 65)), (1, .int l1), (2, .int l2), (3, .int l3)] [] 84 k (wX G o c) := by
  unfold wX7_slideKept_p86 at h
  refine go_iload_n (pc := 86) dX7_slideKept_86 rfl rfl ?_
  refine go_iload_n (pc := 87) dX7_slideKept_87 rfl rfl ?_
  refine go_iadd (pc := 88) dX7_slideKept_88 ?_
  refine go_istore_n (pc := 89) (lv' := [(1, .int (l1 + l3)), (0, .ref (G.2.1 + 65)), (2, .int l2), (3, .int l3)]) dX7_slideKept_89 rfl (by decide) rfl ?_
  refine go_lv [1, 0, 2] rfl ?_
  exact tX7_slideKept_p90 hP15 h
def wX7_slideKept_p15_b (P15 : Int32 → Int32 → gMem → Prop) (l1 : Int32) (l2 : Int32) (c : gMem) (Q : gMem → Prop) : Prop :=
  ∀ v1, v1 = c 2 2 →
  ((v1 ≤ l2 →
    wX2_freeFrom l1 c (fun c3 =>
    Q c3)) ∧
   (¬ v1 ≤ l2 →
    wX2_has l2 c (fun r5 c4 =>
    ((r5 = 0 →
      wX7_slideKept_p90 P15 l1 l2 c4 Q) ∧
     (¬ r5 = 0 →
      wX2_intsOf l2 c4 (fun r8 c7 =>
      wX2_slide l2 l1 r8 c7 (fun r10 c9 =>
      ((r10 = 0 →
        wX7_slideKept_p86 P15 l1 l2 r8 c9 Q) ∧
       (¬ r10 = 0 →
        ∀ v12, v12 = c9 12 3 →
        ∀ c13, c13 = mp c9 12 3 (v12 + 1) →
        ∀ v14, v14 = c13 64 13 →
        ∀ c15, c15 = mp c13 64 13 (v14 + 1) →
        wX7_slideKept_p86 P15 l1 l2 r8 c15 Q)))))))))
def wX7_slideKept_p15 (l1 : Int32) (l2 : Int32) (c : gMem) (Q : gMem → Prop) : Prop :=
  ∀ P15 : Int32 → Int32 → gMem → Prop, (∀ (l1 : Int32) (l2 : Int32) (c : gMem), wX7_slideKept_p15_b P15 l1 l2 c Q → P15 l1 l2 c) → P15 l1 l2 c
set_option maxRecDepth 100000 in
set_option maxHeartbeats 4000000 in
theorem tX7_slideKept_p15_b {l : Launch} {G : gG} {k : Nat} {o : gMem} {Q : gMem → Prop} {P15 : Int32 → Int32 → gMem → Prop} (hP15 : ∀ (l1 : Int32) (l2 : Int32) (c : gMem), P15 l1 l2 c → Go l G mX7_slideKept (gbq G 3 67 84 k (qv (wX G o) Q)) 15 [(0, .ref (G.2.1 + 65)), (1, .int l1), (2, .int l2)] [] 84 k (wX G o c)) {l1 : Int32} {l2 : Int32} {c : gMem} (h : wX7_slideKept_p15_b P15 l1 l2 c Q) : Go l G mX7_slideKept (gbq G 3 67 84 k (qv (wX G o) Q)) 15 [(0, .ref (G.2.1 + 65)), (1, .int l1), (2, .int l2)] [] 84 k (wX G o c) := by
  unfold wX7_slideKept_p15_b at h
  refine go_iload_n (pc := 15) dX7_slideKept_15 rfl rfl ?_
  refine go_aload_n (pc := 16) dX7_slideKept_16 rfl rfl ?_
  refine go_get (pc := 17) fX7_31 rfl (gz_b (by decide)) xw65 rfl dX7_slideKept_17 ?_
  refine gb_get (pc := 20) fX7_126 rfl (gz_b (by decide)) xw2 rfl dX7_slideKept_20 (fun v1 ev1 => ?_)
  have h := h v1 ev1
  refine go_icmp_ge (pc := 23) (tgt := 96) dX7_slideKept_23 (by decide) (fun q2 => ?_) (fun q2 => ?_)
  · have h := h.1 q2
    refine go_aload_n (pc := 96) dX7_slideKept_96 rfl rfl ?_
    refine go_get (pc := 97) fX7_31 rfl (gz_b (by decide)) xw65 rfl dX7_slideKept_97 ?_
    refine go_iload_n (pc := 100) dX7_slideKept_100 rfl rfl ?_
    refine gq_callV_v (pc := 101) (F := wX G o) vX7_187 rfl (tX2_freeFrom h) rfl rfl (gz_b (by decide)) xw2 rfl (Nat.le_of_ble_eq_true rfl) ⟨Nat.le_of_ble_eq_true rfl, Nat.le_of_ble_eq_true rfl, Nat.le_add_right _ _, Nat.le_add_right _ _⟩ dX7_slideKept_101 (fun c3 h => ?_)
    exact gq_vret (pc := 104) (F := wX G o) rfl dX7_slideKept_104 h
  · have h := h.2 q2
    refine go_aload_n (pc := 26) dX7_slideKept_26 rfl rfl ?_
    refine go_get (pc := 27) fX7_31 rfl (gz_b (by decide)) xw65 rfl dX7_slideKept_27 ?_
    refine go_iload_n (pc := 30) dX7_slideKept_30 rfl rfl ?_
    refine gq_callV_i (pc := 31) (F := wX G o) vX7_61 rfl (tX2_has h) rfl rfl (gz_b (by decide)) xw2 rfl (Nat.le_of_ble_eq_true rfl) ⟨Nat.le_of_ble_eq_true rfl, Nat.le_of_ble_eq_true rfl, Nat.le_add_right _ _, Nat.le_add_right _ _⟩ dX7_slideKept_31 (fun r5 c4 h => ?_)
    refine go_if_eq (pc := 34) (tgt := 90) dX7_slideKept_34 (by decide) (fun q6 => ?_) (fun q6 => ?_)
    · have h := h.1 q6
      refine go_lv [0, 1, 2] rfl ?_
      exact tX7_slideKept_p90 hP15 h
    · have h := h.2 q6
      refine go_aload_n (pc := 37) dX7_slideKept_37 rfl rfl ?_
      refine go_get (pc := 38) fX7_31 rfl (gz_b (by decide)) xw65 rfl dX7_slideKept_38 ?_
      refine go_iload_n (pc := 41) dX7_slideKept_41 rfl rfl ?_
      refine gq_callV_i (pc := 42) (F := wX G o) vX7_180 rfl (tX2_intsOf h) rfl rfl (gz_b (by decide)) xw2 rfl (Nat.le_of_ble_eq_true rfl) ⟨Nat.le_of_ble_eq_true rfl, Nat.le_of_ble_eq_true rfl, Nat.le_add_right _ _, Nat.le_add_right _ _⟩ dX7_slideKept_42 (fun r8 c7 h => ?_)
      refine go_istore_n (pc := 45) (lv' := [(3, .int r8), (0, .ref (G.2.1 + 65)), (1, .int l1), (2, .int l2)]) dX7_slideKept_45 rfl (by decide) rfl ?_
      refine go_aload_n (pc := 46) dX7_slideKept_46 rfl rfl ?_
      refine go_get (pc := 47) fX7_31 rfl (gz_b (by decide)) xw65 rfl dX7_slideKept_47 ?_
      refine go_iload_n (pc := 50) dX7_slideKept_50 rfl rfl ?_
      refine go_iload_n (pc := 51) dX7_slideKept_51 rfl rfl ?_
      refine go_iload_n (pc := 52) dX7_slideKept_52 rfl rfl ?_
      refine gq_callV_i (pc := 53) (F := wX G o) vX7_183 rfl (tX2_slide h) rfl rfl (gz_b (by decide)) xw2 rfl (Nat.le_of_ble_eq_true rfl) ⟨Nat.le_of_ble_eq_true rfl, Nat.le_of_ble_eq_true rfl, Nat.le_add_right _ _, Nat.le_add_right _ _⟩ dX7_slideKept_53 (fun r10 c9 h => ?_)
      refine go_if_eq (pc := 56) (tgt := 86) dX7_slideKept_56 (by decide) (fun q11 => ?_) (fun q11 => ?_)
      · have h := h.1 q11
        refine go_lv [1, 2, 3, 0] rfl ?_
        exact tX7_slideKept_p86 hP15 h
      · have h := h.2 q11
        refine go_aload_n (pc := 59) dX7_slideKept_59 rfl rfl ?_
        refine go_get (pc := 60) fX7_21 rfl (gz_b (by decide)) xw65 rfl dX7_slideKept_60 ?_
        refine go_get (pc := 63) fX7_102 rfl (gz_b (by decide)) xw1 rfl dX7_slideKept_63 ?_
        refine go_dup (pc := 66) dX7_slideKept_66 rfl ?_
        refine gb_get (pc := 67) fX7_177 rfl (gz_b (by decide)) xw12 rfl dX7_slideKept_67 (fun v12 ev12 => ?_)
        have h := h v12 ev12
        refine go_iconst (pc := 70) (v := 1) dX7_slideKept_70 (by decide) ?_
        refine go_iadd (pc := 71) dX7_slideKept_71 ?_
        refine gb_put (pc := 72) (F := wX G o) fX7_177 rfl (gz_b (by decide)) xw12 (Nat.le_of_ble_eq_true rfl) rfl rfl xp12_3 dX7_slideKept_72 (fun c13 ec13 => ?_)
        have h := h c13 ec13
        refine go_aload_n (pc := 75) dX7_slideKept_75 rfl rfl ?_
        refine go_get (pc := 76) fX7_37 rfl (gz_b (by decide)) xw65 rfl dX7_slideKept_76 ?_
        refine go_bipush (pc := 79) (v := 13) dX7_slideKept_79 (by decide) ?_
        refine go_dup2 (pc := 81) dX7_slideKept_81 rfl rfl ?_
        refine gb_iald (pc := 82) (gz_b (by decide)) xw64 (gv_in (by decide)) dX7_slideKept_82 (fun v14 ev14 => ?_)
        have h := h v14 ev14
        refine go_iconst (pc := 83) (v := 1) dX7_slideKept_83 (by decide) ?_
        refine go_iadd (pc := 84) dX7_slideKept_84 ?_
        refine gb_iast (pc := 85) (F := wX G o) (gz_b (by decide)) xw64 (gv_in (by decide)) xa64 dX7_slideKept_85 (fun c15 ec15 => ?_)
        have h := h c15 ec15
        refine go_lv [1, 2, 3, 0] rfl ?_
        exact tX7_slideKept_p86 hP15 h
set_option maxRecDepth 100000 in
set_option maxHeartbeats 4000000 in
theorem tX7_slideKept_p15 {l : Launch} {G : gG} {k : Nat} {o : gMem} {Q : gMem → Prop} {l1 : Int32} {l2 : Int32} {c : gMem} (h : wX7_slideKept_p15 l1 l2 c Q) : Go l G mX7_slideKept (gbq G 3 67 84 k (qv (wX G o) Q)) 15 [(0, .ref (G.2.1 + 65)), (1, .int l1), (2, .int l2)] [] 84 k (wX G o c) :=
  h (fun l1 l2 c => Go l G mX7_slideKept (gbq G 3 67 84 k (qv (wX G o) Q)) 15 [(0, .ref (G.2.1 + 65)), (1, .int l1), (2, .int l2)] [] 84 k (wX G o c)) (fun l1 l2 c hb => tX7_slideKept_p15_b (fun l1 l2 c hh => hh) hb)
def wX7_slideKept (c : gMem) (Q : gMem → Prop) : Prop :=
  ∀ c1, c1 = mp c 12 3 0 →
  wX7_slideKept_p15 0 0 c1 Q
set_option maxRecDepth 100000 in
set_option maxHeartbeats 4000000 in
theorem tX7_slideKept {l : Launch} {G : gG} {k : Nat} {o : gMem} {Q : gMem → Prop} {c : gMem} (h : wX7_slideKept c Q) : Cq l G mX7_slideKept 3 67 [.ref (G.2.1 + 65)] 84 k (wX G o c) (qv (wX G o) Q) := by
  refine Cq.of (by decide) (Nat.le_of_ble_eq_true rfl) ?_
  show Go l G mX7_slideKept (gbq G 3 67 84 k (qv (wX G o) Q)) 0 [(0, .ref (G.2.1 + 65))] [] 84 k (wX G o c)
  unfold wX7_slideKept at h
  refine go_iconst (pc := 0) (v := 0) dX7_slideKept_0 (by decide) ?_
  refine go_istore_n (pc := 1) (lv' := [(1, .int 0), (0, .ref (G.2.1 + 65))]) dX7_slideKept_1 rfl (by decide) rfl ?_
  refine go_aload_n (pc := 2) dX7_slideKept_2 rfl rfl ?_
  refine go_get (pc := 3) fX7_21 rfl (gz_b (by decide)) xw65 rfl dX7_slideKept_3 ?_
  refine go_get (pc := 6) fX7_102 rfl (gz_b (by decide)) xw1 rfl dX7_slideKept_6 ?_
  refine go_iconst (pc := 9) (v := 0) dX7_slideKept_9 (by decide) ?_
  refine gb_put (pc := 10) (F := wX G o) fX7_177 rfl (gz_b (by decide)) xw12 (Nat.le_of_ble_eq_true rfl) rfl rfl xp12_3 dX7_slideKept_10 (fun c1 ec1 => ?_)
  have h := h c1 ec1
  refine go_iconst (pc := 13) (v := 0) dX7_slideKept_13 (by decide) ?_
  refine go_istore_n (pc := 14) (lv' := [(2, .int 0), (1, .int 0), (0, .ref (G.2.1 + 65))]) dX7_slideKept_14 rfl (by decide) rfl ?_
  refine go_lv [2, 1, 0] rfl ?_
  exact tX7_slideKept_p15 h
def wX4_add (l1 : Int32) (c : gMem) (Q : gMem → Prop) : Prop :=
  ∀ v1, v1 = c 14 0 →
  ((6527 ≤ v1 →
    Q c) ∧
   (¬ 6527 ≤ v1 →
    ∀ v3, v3 = c 14 0 →
    ((6527 ≤ v3 →
      Q c) ∧
     (¬ 6527 ≤ v3 →
      ∀ v5, v5 = c 14 0 →
      vp_in v5 6527 ∧
      ∀ c6, c6 = mp c 15 v5.toNatClampNeg l1 →
      ∀ v8, v8 = c6 14 0 →
      vp_in v8 6527 ∧
      ∀ c9, c9 = mp c6 16 v8.toNatClampNeg l1 →
      ∀ v11, v11 = c9 14 0 →
      ∀ c12, c12 = mp c9 14 0 (v11 + 1) →
      Q c12))))
set_option maxRecDepth 100000 in
set_option maxHeartbeats 4000000 in
theorem tX4_add {l : Launch} {G : gG} {k : Nat} {o : gMem} {Q : gMem → Prop} {l1 : Int32} {c : gMem} (h : wX4_add l1 c Q) : Cq l G mX4_add 0 0 [.ref (G.2.1 + 14), .int l1] 84 k (wX G o c) (qv (wX G o) Q) := by
  refine Cq.of (by decide) (Nat.le_of_ble_eq_true rfl) ?_
  show Go l G mX4_add (gbq G 0 0 84 k (qv (wX G o) Q)) 0 [(0, .ref (G.2.1 + 14)), (1, .int l1)] [] 84 k (wX G o c)
  unfold wX4_add at h
  refine go_aload_n (pc := 0) dX4_add_0 rfl rfl ?_
  refine gb_get (pc := 1) fX4_18 rfl (gz_b (by decide)) xw14 rfl dX4_add_1 (fun v1 ev1 => ?_)
  have h := h v1 ev1
  refine go_aload_n (pc := 4) dX4_add_4 rfl rfl ?_
  refine go_get (pc := 5) fX4_9 rfl (gz_b (by decide)) xw14 rfl dX4_add_5 ?_
  refine go_alen (pc := 8) (gz_b (by decide)) xw15 dX4_add_8 ?_
  refine go_top (y := 6527) (by decide) ?_
  refine go_icmp_ge (pc := 9) (tgt := 54) dX4_add_9 (by decide) (fun q2 => ?_) (fun q2 => ?_)
  · have h := h.1 q2
    exact gq_vret (pc := 54) (F := wX G o) rfl dX4_add_54 h
  · have h := h.2 q2
    refine go_aload_n (pc := 12) dX4_add_12 rfl rfl ?_
    refine gb_get (pc := 13) fX4_18 rfl (gz_b (by decide)) xw14 rfl dX4_add_13 (fun v3 ev3 => ?_)
    have h := h v3 ev3
    refine go_aload_n (pc := 16) dX4_add_16 rfl rfl ?_
    refine go_get (pc := 17) fX4_15 rfl (gz_b (by decide)) xw14 rfl dX4_add_17 ?_
    refine go_alen (pc := 20) (gz_b (by decide)) xw16 dX4_add_20 ?_
    refine go_top (y := 6527) (by decide) ?_
    refine go_icmp_ge (pc := 21) (tgt := 54) dX4_add_21 (by decide) (fun q4 => ?_) (fun q4 => ?_)
    · have h := h.1 q4
      exact gq_vret (pc := 54) (F := wX G o) rfl dX4_add_54 h
    · have h := h.2 q4
      refine go_aload_n (pc := 24) dX4_add_24 rfl rfl ?_
      refine go_get (pc := 25) fX4_9 rfl (gz_b (by decide)) xw14 rfl dX4_add_25 ?_
      refine go_aload_n (pc := 28) dX4_add_28 rfl rfl ?_
      refine gb_get (pc := 29) fX4_18 rfl (gz_b (by decide)) xw14 rfl dX4_add_29 (fun v5 ev5 => ?_)
      have h := h v5 ev5
      refine go_iload_n (pc := 32) dX4_add_32 rfl rfl ?_
      obtain ⟨b7, h⟩ := h
      refine gb_iast (pc := 33) (F := wX G o) (gz_b (by decide)) xw15 b7 xa15 dX4_add_33 (fun c6 ec6 => ?_)
      have h := h c6 ec6
      refine go_aload_n (pc := 34) dX4_add_34 rfl rfl ?_
      refine go_get (pc := 35) fX4_15 rfl (gz_b (by decide)) xw14 rfl dX4_add_35 ?_
      refine go_aload_n (pc := 38) dX4_add_38 rfl rfl ?_
      refine gb_get (pc := 39) fX4_18 rfl (gz_b (by decide)) xw14 rfl dX4_add_39 (fun v8 ev8 => ?_)
      have h := h v8 ev8
      refine go_iload_n (pc := 42) dX4_add_42 rfl rfl ?_
      obtain ⟨b10, h⟩ := h
      refine gb_iast (pc := 43) (F := wX G o) (gz_b (by decide)) xw16 b10 xa16 dX4_add_43 (fun c9 ec9 => ?_)
      have h := h c9 ec9
      refine go_aload_n (pc := 44) dX4_add_44 rfl rfl ?_
      refine go_dup (pc := 45) dX4_add_45 rfl ?_
      refine gb_get (pc := 46) fX4_18 rfl (gz_b (by decide)) xw14 rfl dX4_add_46 (fun v11 ev11 => ?_)
      have h := h v11 ev11
      refine go_iconst (pc := 49) (v := 1) dX4_add_49 (by decide) ?_
      refine go_iadd (pc := 50) dX4_add_50 ?_
      refine gb_put (pc := 51) (F := wX G o) fX4_18 rfl (gz_b (by decide)) xw14 (Nat.le_of_ble_eq_true rfl) rfl rfl xp14_0 dX4_add_51 (fun c12 ec12 => ?_)
      have h := h c12 ec12
      exact gq_vret (pc := 54) (F := wX G o) rfl dX4_add_54 h
def wX4_sumOf_p4_b (P4 : Int32 → Int32 → Int32 → gMem → Prop) (l1 : Int32) (l2 : Int32) (l3 : Int32) (c : gMem) (Q : Int32 → gMem → Prop) : Prop :=
  ((l1 ≤ l3 →
    Q l2 c) ∧
   (¬ l1 ≤ l3 →
    vp_in l3 6527 ∧
    ∀ v2, v2 = c 15 l3.toNatClampNeg →
    P4 l1 ((31 * l2) + v2) (l3 + 1) c))
def wX4_sumOf_p4 (l1 : Int32) (l2 : Int32) (l3 : Int32) (c : gMem) (Q : Int32 → gMem → Prop) : Prop :=
  ∀ P4 : Int32 → Int32 → Int32 → gMem → Prop, (∀ (l1 : Int32) (l2 : Int32) (l3 : Int32) (c : gMem), wX4_sumOf_p4_b P4 l1 l2 l3 c Q → P4 l1 l2 l3 c) → P4 l1 l2 l3 c
set_option maxRecDepth 100000 in
set_option maxHeartbeats 4000000 in
theorem tX4_sumOf_p4_b {l : Launch} {G : gG} {k : Nat} {o : gMem} {Q : Int32 → gMem → Prop} {P4 : Int32 → Int32 → Int32 → gMem → Prop} (hP4 : ∀ (l1 : Int32) (l2 : Int32) (l3 : Int32) (c : gMem), P4 l1 l2 l3 c → Go l G mX4_sumOf (gbq G 0 0 84 k (qi (wX G o) Q)) 4 [(0, .ref (G.2.1 + 15)), (1, .int l1), (2, .int l2), (3, .int l3)] [] 84 k (wX G o c)) {l1 : Int32} {l2 : Int32} {l3 : Int32} {c : gMem} (h : wX4_sumOf_p4_b P4 l1 l2 l3 c Q) : Go l G mX4_sumOf (gbq G 0 0 84 k (qi (wX G o) Q)) 4 [(0, .ref (G.2.1 + 15)), (1, .int l1), (2, .int l2), (3, .int l3)] [] 84 k (wX G o c) := by
  unfold wX4_sumOf_p4_b at h
  refine go_iload_n (pc := 4) dX4_sumOf_4 rfl rfl ?_
  refine go_iload_n (pc := 5) dX4_sumOf_5 rfl rfl ?_
  refine go_icmp_ge (pc := 6) (tgt := 24) dX4_sumOf_6 (by decide) (fun q1 => ?_) (fun q1 => ?_)
  · have h := h.1 q1
    refine go_iload_n (pc := 24) dX4_sumOf_24 rfl rfl ?_
    exact gq_iret (pc := 25) (F := wX G o) rfl dX4_sumOf_25 h
  · have h := h.2 q1
    refine go_bipush (pc := 9) (v := 31) dX4_sumOf_9 (by decide) ?_
    refine go_iload_n (pc := 11) dX4_sumOf_11 rfl rfl ?_
    refine go_imul (pc := 12) dX4_sumOf_12 ?_
    refine go_aload_n (pc := 13) dX4_sumOf_13 rfl rfl ?_
    refine go_iload_n (pc := 14) dX4_sumOf_14 rfl rfl ?_
    obtain ⟨b3, h⟩ := h
    refine gb_iald (pc := 15) (gz_b (by decide)) xw15 b3 dX4_sumOf_15 (fun v2 ev2 => ?_)
    have h := h v2 ev2
    refine go_iadd (pc := 16) dX4_sumOf_16 ?_
    refine go_istore_n (pc := 17) (lv' := [(2, .int ((31 * l2) + v2)), (0, .ref (G.2.1 + 15)), (1, .int l1), (3, .int l3)]) dX4_sumOf_17 rfl (by decide) rfl ?_
    refine go_iinc (pc := 18) (v := l3 + 1) (lv' := [(3, .int (l3 + 1)), (2, .int ((31 * l2) + v2)), (0, .ref (G.2.1 + 15)), (1, .int l1)]) dX4_sumOf_18 3 rfl (by first | rfl | decide) (by decide) rfl ?_
    refine go_goto (pc := 21) (tgt := 4) dX4_sumOf_21 (by decide) ?_
    refine go_lv [2, 3, 1, 0] rfl ?_
    exact hP4 _ _ _ _ h
set_option maxRecDepth 100000 in
set_option maxHeartbeats 4000000 in
theorem tX4_sumOf_p4 {l : Launch} {G : gG} {k : Nat} {o : gMem} {Q : Int32 → gMem → Prop} {l1 : Int32} {l2 : Int32} {l3 : Int32} {c : gMem} (h : wX4_sumOf_p4 l1 l2 l3 c Q) : Go l G mX4_sumOf (gbq G 0 0 84 k (qi (wX G o) Q)) 4 [(0, .ref (G.2.1 + 15)), (1, .int l1), (2, .int l2), (3, .int l3)] [] 84 k (wX G o c) :=
  h (fun l1 l2 l3 c => Go l G mX4_sumOf (gbq G 0 0 84 k (qi (wX G o) Q)) 4 [(0, .ref (G.2.1 + 15)), (1, .int l1), (2, .int l2), (3, .int l3)] [] 84 k (wX G o c)) (fun l1 l2 l3 c hb => tX4_sumOf_p4_b (fun l1 l2 l3 c hh => hh) hb)
def wX4_sumOf (l1 : Int32) (c : gMem) (Q : Int32 → gMem → Prop) : Prop :=
  wX4_sumOf_p4 l1 1 0 c Q
set_option maxRecDepth 100000 in
set_option maxHeartbeats 4000000 in
theorem tX4_sumOf {l : Launch} {G : gG} {k : Nat} {o : gMem} {Q : Int32 → gMem → Prop} {l1 : Int32} {c : gMem} (h : wX4_sumOf l1 c Q) : Cq l G mX4_sumOf 0 0 [.ref (G.2.1 + 15), .int l1] 84 k (wX G o c) (qi (wX G o) Q) := by
  refine Cq.of (by decide) (Nat.le_of_ble_eq_true rfl) ?_
  show Go l G mX4_sumOf (gbq G 0 0 84 k (qi (wX G o) Q)) 0 [(0, .ref (G.2.1 + 15)), (1, .int l1)] [] 84 k (wX G o c)
  unfold wX4_sumOf at h
  refine go_iconst (pc := 0) (v := 1) dX4_sumOf_0 (by decide) ?_
  refine go_istore_n (pc := 1) (lv' := [(2, .int 1), (0, .ref (G.2.1 + 15)), (1, .int l1)]) dX4_sumOf_1 rfl (by decide) rfl ?_
  refine go_iconst (pc := 2) (v := 0) dX4_sumOf_2 (by decide) ?_
  refine go_istore_n (pc := 3) (lv' := [(3, .int 0), (2, .int 1), (0, .ref (G.2.1 + 15)), (1, .int l1)]) dX4_sumOf_3 rfl (by decide) rfl ?_
  refine go_lv [2, 3, 1, 0] rfl ?_
  exact tX4_sumOf_p4 h
def wX7_writeKept_p92_b (P92 : Int32 → Int32 → Int32 → gMem → Prop) (l3 : Int32) (l4 : Int32) (l5 : Int32) (c : gMem) (Q : gMem → Prop) : Prop :=
  ((l3 ≤ l5 →
    Q c) ∧
   (¬ l3 ≤ l5 →
    vp_in (l4 + l5) 4000 ∧
    ∀ v2, v2 = c 3 (l4 + l5).toNatClampNeg →
    wX4_add v2 c (fun c4 =>
    P92 l3 l4 (l5 + 1) c4)))
def wX7_writeKept_p92 (l3 : Int32) (l4 : Int32) (l5 : Int32) (c : gMem) (Q : gMem → Prop) : Prop :=
  ∀ P92 : Int32 → Int32 → Int32 → gMem → Prop, (∀ (l3 : Int32) (l4 : Int32) (l5 : Int32) (c : gMem), wX7_writeKept_p92_b P92 l3 l4 l5 c Q → P92 l3 l4 l5 c) → P92 l3 l4 l5 c
set_option maxRecDepth 100000 in
set_option maxHeartbeats 4000000 in
theorem tX7_writeKept_p92_b {l : Launch} {G : gG} {k : Nat} {o : gMem} {Q : gMem → Prop} {P92 : Int32 → Int32 → Int32 → gMem → Prop} (hP92 : ∀ (l3 : Int32) (l4 : Int32) (l5 : Int32) (c : gMem), P92 l3 l4 l5 c → Go l G mX7_writeKept (gbq G 1 22 84 k (qv (wX G o) Q)) 92 [(0, .ref (G.2.1 + 65)), (2, .ref (G.2.1 + 14)), (3, .int l3), (4, .int l4), (5, .int l5)] [] 84 k (wX G o c)) {l3 : Int32} {l4 : Int32} {l5 : Int32} {c : gMem} (h : wX7_writeKept_p92_b P92 l3 l4 l5 c Q) : Go l G mX7_writeKept (gbq G 1 22 84 k (qv (wX G o) Q)) 92 [(0, .ref (G.2.1 + 65)), (2, .ref (G.2.1 + 14)), (3, .int l3), (4, .int l4), (5, .int l5)] [] 84 k (wX G o c) := by
  unfold wX7_writeKept_p92_b at h
  refine go_iload (pc := 92) dX7_writeKept_92 rfl ?_
  refine go_iload_n (pc := 94) dX7_writeKept_94 rfl rfl ?_
  refine go_icmp_ge (pc := 95) (tgt := 121) dX7_writeKept_95 (by decide) (fun q1 => ?_) (fun q1 => ?_)
  · have h := h.1 q1
    exact gq_vret (pc := 121) (F := wX G o) rfl dX7_writeKept_121 h
  · have h := h.2 q1
    refine go_aload_n (pc := 98) dX7_writeKept_98 rfl rfl ?_
    refine go_aload_n (pc := 99) dX7_writeKept_99 rfl rfl ?_
    refine go_get (pc := 100) fX7_31 rfl (gz_b (by decide)) xw65 rfl dX7_writeKept_100 ?_
    refine go_get (pc := 103) fX7_90 rfl (gz_b (by decide)) xw2 rfl dX7_writeKept_103 ?_
    refine go_iload (pc := 106) dX7_writeKept_106 rfl ?_
    refine go_iload (pc := 108) dX7_writeKept_108 rfl ?_
    refine go_iadd (pc := 110) dX7_writeKept_110 ?_
    obtain ⟨b3, h⟩ := h
    refine gb_iald (pc := 111) (gz_b (by decide)) xw3 b3 dX7_writeKept_111 (fun v2 ev2 => ?_)
    have h := h v2 ev2
    refine gq_callV_v (pc := 112) (F := wX G o) vX7_199 rfl (tX4_add h) rfl rfl (gz_b (by decide)) xw14 rfl (Nat.le_of_ble_eq_true rfl) ⟨Nat.le_of_ble_eq_true rfl, Nat.le_of_ble_eq_true rfl, Nat.le_add_right _ _, Nat.le_add_right _ _⟩ dX7_writeKept_112 (fun c4 h => ?_)
    refine go_iinc (pc := 115) (v := l5 + 1) (lv' := [(5, .int (l5 + 1)), (0, .ref (G.2.1 + 65)), (2, .ref (G.2.1 + 14)), (3, .int l3), (4, .int l4)]) dX7_writeKept_115 4 rfl (by first | rfl | decide) (by decide) rfl ?_
    refine go_goto (pc := 118) (tgt := 92) dX7_writeKept_118 (by decide) ?_
    refine go_lv [1, 2, 3, 4, 0] rfl ?_
    exact hP92 _ _ _ _ h
set_option maxRecDepth 100000 in
set_option maxHeartbeats 4000000 in
theorem tX7_writeKept_p92 {l : Launch} {G : gG} {k : Nat} {o : gMem} {Q : gMem → Prop} {l3 : Int32} {l4 : Int32} {l5 : Int32} {c : gMem} (h : wX7_writeKept_p92 l3 l4 l5 c Q) : Go l G mX7_writeKept (gbq G 1 22 84 k (qv (wX G o) Q)) 92 [(0, .ref (G.2.1 + 65)), (2, .ref (G.2.1 + 14)), (3, .int l3), (4, .int l4), (5, .int l5)] [] 84 k (wX G o c) :=
  h (fun l3 l4 l5 c => Go l G mX7_writeKept (gbq G 1 22 84 k (qv (wX G o) Q)) 92 [(0, .ref (G.2.1 + 65)), (2, .ref (G.2.1 + 14)), (3, .int l3), (4, .int l4), (5, .int l5)] [] 84 k (wX G o c)) (fun l3 l4 l5 c hb => tX7_writeKept_p92_b (fun l3 l4 l5 c hh => hh) hb)
def wX7_writeKept (l1 : Int32) (c : gMem) (Q : gMem → Prop) : Prop :=
  wX4_add l1 c (fun c1 =>
  vp_in l1 500 ∧
  ∀ v2, v2 = c1 9 l1.toNatClampNeg →
  wX4_add v2 c1 (fun c4 =>
  vp_in l1 500 ∧
  ∀ v5, v5 = c4 10 l1.toNatClampNeg →
  wX4_add v5 c4 (fun c7 =>
  vp_in l1 500 ∧
  ∀ v8, v8 = c7 11 l1.toNatClampNeg →
  wX4_add v8 c7 (fun c10 =>
  vp_in l1 500 ∧
  ∀ v11, v11 = c10 8 l1.toNatClampNeg →
  wX4_add v11 c10 (fun c13 =>
  wX2_linksOf l1 c13 (fun r15 c14 =>
  wX2_linkPlace l1 c14 (fun r17 c16 =>
  wX4_add r15 c16 (fun c18 =>
  wX7_writeKept_p92 r15 r17 0 c18 Q))))))))
set_option maxRecDepth 100000 in
set_option maxHeartbeats 4000000 in
theorem tX7_writeKept {l : Launch} {G : gG} {k : Nat} {o : gMem} {Q : gMem → Prop} {l1 : Int32} {c : gMem} (h : wX7_writeKept l1 c Q) : Cq l G mX7_writeKept 1 22 [.ref (G.2.1 + 65), .int l1] 84 k (wX G o c) (qv (wX G o) Q) := by
  refine Cq.of (by decide) (Nat.le_of_ble_eq_true rfl) ?_
  show Go l G mX7_writeKept (gbq G 1 22 84 k (qv (wX G o) Q)) 0 [(0, .ref (G.2.1 + 65)), (1, .int l1)] [] 84 k (wX G o c)
  unfold wX7_writeKept at h
  refine go_aload_n (pc := 0) dX7_writeKept_0 rfl rfl ?_
  refine go_get (pc := 1) fX7_21 rfl (gz_b (by decide)) xw65 rfl dX7_writeKept_1 ?_
  refine go_get (pc := 4) fX7_190 rfl (gz_b (by decide)) xw1 rfl dX7_writeKept_4 ?_
  refine go_astore_n (pc := 7) (lv' := [(2, .ref (G.2.1 + 14)), (0, .ref (G.2.1 + 65)), (1, .int l1)]) dX7_writeKept_7 rfl (by decide) rfl ?_
  refine go_aload_n (pc := 8) dX7_writeKept_8 rfl rfl ?_
  refine go_iload_n (pc := 9) dX7_writeKept_9 rfl rfl ?_
  refine gq_callV_v (pc := 10) (F := wX G o) vX7_199 rfl (tX4_add h) rfl rfl (gz_b (by decide)) xw14 rfl (Nat.le_of_ble_eq_true rfl) ⟨Nat.le_of_ble_eq_true rfl, Nat.le_of_ble_eq_true rfl, Nat.le_add_right _ _, Nat.le_add_right _ _⟩ dX7_writeKept_10 (fun c1 h => ?_)
  refine go_aload_n (pc := 13) dX7_writeKept_13 rfl rfl ?_
  refine go_aload_n (pc := 14) dX7_writeKept_14 rfl rfl ?_
  refine go_get (pc := 15) fX7_36 rfl (gz_b (by decide)) xw65 rfl dX7_writeKept_15 ?_
  refine go_get (pc := 18) fX7_211 rfl (gz_b (by decide)) xw6 rfl dX7_writeKept_18 ?_
  refine go_iload_n (pc := 21) dX7_writeKept_21 rfl rfl ?_
  obtain ⟨b3, h⟩ := h
  refine gb_iald (pc := 22) (gz_b (by decide)) xw9 b3 dX7_writeKept_22 (fun v2 ev2 => ?_)
  have h := h v2 ev2
  refine gq_callV_v (pc := 23) (F := wX G o) vX7_199 rfl (tX4_add h) rfl rfl (gz_b (by decide)) xw14 rfl (Nat.le_of_ble_eq_true rfl) ⟨Nat.le_of_ble_eq_true rfl, Nat.le_of_ble_eq_true rfl, Nat.le_add_right _ _, Nat.le_add_right _ _⟩ dX7_writeKept_23 (fun c4 h => ?_)
  refine go_aload_n (pc := 26) dX7_writeKept_26 rfl rfl ?_
  refine go_aload_n (pc := 27) dX7_writeKept_27 rfl rfl ?_
  refine go_get (pc := 28) fX7_36 rfl (gz_b (by decide)) xw65 rfl dX7_writeKept_28 ?_
  refine go_get (pc := 31) fX7_214 rfl (gz_b (by decide)) xw6 rfl dX7_writeKept_31 ?_
  refine go_iload_n (pc := 34) dX7_writeKept_34 rfl rfl ?_
  obtain ⟨b6, h⟩ := h
  refine gb_iald (pc := 35) (gz_b (by decide)) xw10 b6 dX7_writeKept_35 (fun v5 ev5 => ?_)
  have h := h v5 ev5
  refine gq_callV_v (pc := 36) (F := wX G o) vX7_199 rfl (tX4_add h) rfl rfl (gz_b (by decide)) xw14 rfl (Nat.le_of_ble_eq_true rfl) ⟨Nat.le_of_ble_eq_true rfl, Nat.le_of_ble_eq_true rfl, Nat.le_add_right _ _, Nat.le_add_right _ _⟩ dX7_writeKept_36 (fun c7 h => ?_)
  refine go_aload_n (pc := 39) dX7_writeKept_39 rfl rfl ?_
  refine go_aload_n (pc := 40) dX7_writeKept_40 rfl rfl ?_
  refine go_get (pc := 41) fX7_36 rfl (gz_b (by decide)) xw65 rfl dX7_writeKept_41 ?_
  refine go_get (pc := 44) fX7_217 rfl (gz_b (by decide)) xw6 rfl dX7_writeKept_44 ?_
  refine go_iload_n (pc := 47) dX7_writeKept_47 rfl rfl ?_
  obtain ⟨b9, h⟩ := h
  refine gb_iald (pc := 48) (gz_b (by decide)) xw11 b9 dX7_writeKept_48 (fun v8 ev8 => ?_)
  have h := h v8 ev8
  refine gq_callV_v (pc := 49) (F := wX G o) vX7_199 rfl (tX4_add h) rfl rfl (gz_b (by decide)) xw14 rfl (Nat.le_of_ble_eq_true rfl) ⟨Nat.le_of_ble_eq_true rfl, Nat.le_of_ble_eq_true rfl, Nat.le_add_right _ _, Nat.le_add_right _ _⟩ dX7_writeKept_49 (fun c10 h => ?_)
  refine go_aload_n (pc := 52) dX7_writeKept_52 rfl rfl ?_
  refine go_aload_n (pc := 53) dX7_writeKept_53 rfl rfl ?_
  refine go_get (pc := 54) fX7_36 rfl (gz_b (by decide)) xw65 rfl dX7_writeKept_54 ?_
  refine go_get (pc := 57) fX7_129 rfl (gz_b (by decide)) xw6 rfl dX7_writeKept_57 ?_
  refine go_iload_n (pc := 60) dX7_writeKept_60 rfl rfl ?_
  obtain ⟨b12, h⟩ := h
  refine gb_iald (pc := 61) (gz_b (by decide)) xw8 b12 dX7_writeKept_61 (fun v11 ev11 => ?_)
  have h := h v11 ev11
  refine gq_callV_v (pc := 62) (F := wX G o) vX7_199 rfl (tX4_add h) rfl rfl (gz_b (by decide)) xw14 rfl (Nat.le_of_ble_eq_true rfl) ⟨Nat.le_of_ble_eq_true rfl, Nat.le_of_ble_eq_true rfl, Nat.le_add_right _ _, Nat.le_add_right _ _⟩ dX7_writeKept_62 (fun c13 h => ?_)
  refine go_aload_n (pc := 65) dX7_writeKept_65 rfl rfl ?_
  refine go_get (pc := 66) fX7_31 rfl (gz_b (by decide)) xw65 rfl dX7_writeKept_66 ?_
  refine go_iload_n (pc := 69) dX7_writeKept_69 rfl rfl ?_
  refine gq_callV_i (pc := 70) (F := wX G o) vX7_99 rfl (tX2_linksOf h) rfl rfl (gz_b (by decide)) xw2 rfl (Nat.le_of_ble_eq_true rfl) ⟨Nat.le_of_ble_eq_true rfl, Nat.le_of_ble_eq_true rfl, Nat.le_add_right _ _, Nat.le_add_right _ _⟩ dX7_writeKept_70 (fun r15 c14 h => ?_)
  refine go_istore_n (pc := 73) (lv' := [(3, .int r15), (2, .ref (G.2.1 + 14)), (0, .ref (G.2.1 + 65)), (1, .int l1)]) dX7_writeKept_73 rfl (by decide) rfl ?_
  refine go_aload_n (pc := 74) dX7_writeKept_74 rfl rfl ?_
  refine go_get (pc := 75) fX7_31 rfl (gz_b (by decide)) xw65 rfl dX7_writeKept_75 ?_
  refine go_iload_n (pc := 78) dX7_writeKept_78 rfl rfl ?_
  refine gq_callV_i (pc := 79) (F := wX G o) vX7_93 rfl (tX2_linkPlace h) rfl rfl (gz_b (by decide)) xw2 rfl (Nat.le_of_ble_eq_true rfl) ⟨Nat.le_of_ble_eq_true rfl, Nat.le_of_ble_eq_true rfl, Nat.le_add_right _ _, Nat.le_add_right _ _⟩ dX7_writeKept_79 (fun r17 c16 h => ?_)
  refine go_istore (pc := 82) (lv' := [(4, .int r17), (3, .int r15), (2, .ref (G.2.1 + 14)), (0, .ref (G.2.1 + 65)), (1, .int l1)]) dX7_writeKept_82 (by decide) rfl ?_
  refine go_aload_n (pc := 84) dX7_writeKept_84 rfl rfl ?_
  refine go_iload_n (pc := 85) dX7_writeKept_85 rfl rfl ?_
  refine gq_callV_v (pc := 86) (F := wX G o) vX7_199 rfl (tX4_add h) rfl rfl (gz_b (by decide)) xw14 rfl (Nat.le_of_ble_eq_true rfl) ⟨Nat.le_of_ble_eq_true rfl, Nat.le_of_ble_eq_true rfl, Nat.le_add_right _ _, Nat.le_add_right _ _⟩ dX7_writeKept_86 (fun c18 h => ?_)
  refine go_iconst (pc := 89) (v := 0) dX7_writeKept_89 (by decide) ?_
  refine go_istore (pc := 90) (lv' := [(5, .int 0), (4, .int r17), (3, .int r15), (2, .ref (G.2.1 + 14)), (0, .ref (G.2.1 + 65)), (1, .int l1)]) dX7_writeKept_90 (by decide) rfl ?_
  refine go_lv [4, 3, 2, 1, 0] rfl ?_
  exact tX7_writeKept_p92 h
def wX7_writePaper_p96_b (P96 : Int32 → gMem → Prop) (l2 : Int32) (c : gMem) (Q : gMem → Prop) : Prop :=
  ∀ v1, v1 = c 65 5 →
  ((v1 ≤ l2 →
    ∀ v3, v3 = c 14 0 →
    wX4_sumOf v3 c (fun r5 c4 =>
    wX4_add r5 c4 (fun c6 =>
    Q c6))) ∧
   (¬ v1 ≤ l2 →
    vp_in l2 500 ∧
    ∀ v7, v7 = c 66 l2.toNatClampNeg →
    wX4_add v7 c (fun c9 =>
    P96 (l2 + 1) c9)))
def wX7_writePaper_p96 (l2 : Int32) (c : gMem) (Q : gMem → Prop) : Prop :=
  ∀ P96 : Int32 → gMem → Prop, (∀ (l2 : Int32) (c : gMem), wX7_writePaper_p96_b P96 l2 c Q → P96 l2 c) → P96 l2 c
set_option maxRecDepth 100000 in
set_option maxHeartbeats 4000000 in
theorem tX7_writePaper_p96_b {l : Launch} {G : gG} {k : Nat} {o : gMem} {Q : gMem → Prop} {P96 : Int32 → gMem → Prop} (hP96 : ∀ (l2 : Int32) (c : gMem), P96 l2 c → Go l G mX7_writePaper (gbq G 2 47 84 k (qv (wX G o) Q)) 96 [(0, .ref (G.2.1 + 65)), (1, .ref (G.2.1 + 14)), (2, .int l2)] [] 84 k (wX G o c)) {l2 : Int32} {c : gMem} (h : wX7_writePaper_p96_b P96 l2 c Q) : Go l G mX7_writePaper (gbq G 2 47 84 k (qv (wX G o) Q)) 96 [(0, .ref (G.2.1 + 65)), (1, .ref (G.2.1 + 14)), (2, .int l2)] [] 84 k (wX G o c) := by
  unfold wX7_writePaper_p96_b at h
  refine go_iload_n (pc := 96) dX7_writePaper_96 rfl rfl ?_
  refine go_aload_n (pc := 97) dX7_writePaper_97 rfl rfl ?_
  refine gb_get (pc := 98) fX7_123 rfl (gz_b (by decide)) xw65 rfl dX7_writePaper_98 (fun v1 ev1 => ?_)
  have h := h v1 ev1
  refine go_icmp_ge (pc := 101) (tgt := 120) dX7_writePaper_101 (by decide) (fun q2 => ?_) (fun q2 => ?_)
  · have h := h.1 q2
    refine go_aload_n (pc := 120) dX7_writePaper_120 rfl rfl ?_
    refine go_aload_n (pc := 121) dX7_writePaper_121 rfl rfl ?_
    refine go_get (pc := 122) fX7_204 rfl (gz_b (by decide)) xw14 rfl dX7_writePaper_122 ?_
    refine go_aload_n (pc := 125) dX7_writePaper_125 rfl rfl ?_
    refine gb_get (pc := 126) fX7_194 rfl (gz_b (by decide)) xw14 rfl dX7_writePaper_126 (fun v3 ev3 => ?_)
    have h := h v3 ev3
    refine gq_callS_i (pc := 129) (F := wX G o) sX7_207 rfl (tX4_sumOf h) rfl rfl (Nat.le_of_ble_eq_true rfl) ⟨Nat.le_of_ble_eq_true rfl, Nat.le_of_ble_eq_true rfl, Nat.le_add_right _ _, Nat.le_add_right _ _⟩ dX7_writePaper_129 (fun r5 c4 h => ?_)
    refine gq_callV_v (pc := 132) (F := wX G o) vX7_199 rfl (tX4_add h) rfl rfl (gz_b (by decide)) xw14 rfl (Nat.le_of_ble_eq_true rfl) ⟨Nat.le_of_ble_eq_true rfl, Nat.le_of_ble_eq_true rfl, Nat.le_add_right _ _, Nat.le_add_right _ _⟩ dX7_writePaper_132 (fun c6 h => ?_)
    exact gq_vret (pc := 135) (F := wX G o) rfl dX7_writePaper_135 h
  · have h := h.2 q2
    refine go_aload_n (pc := 104) dX7_writePaper_104 rfl rfl ?_
    refine go_aload_n (pc := 105) dX7_writePaper_105 rfl rfl ?_
    refine go_get (pc := 106) fX7_9 rfl (gz_b (by decide)) xw65 rfl dX7_writePaper_106 ?_
    refine go_iload_n (pc := 109) dX7_writePaper_109 rfl rfl ?_
    obtain ⟨b8, h⟩ := h
    refine gb_iald (pc := 110) (gz_b (by decide)) xw66 b8 dX7_writePaper_110 (fun v7 ev7 => ?_)
    have h := h v7 ev7
    refine gq_callV_v (pc := 111) (F := wX G o) vX7_199 rfl (tX4_add h) rfl rfl (gz_b (by decide)) xw14 rfl (Nat.le_of_ble_eq_true rfl) ⟨Nat.le_of_ble_eq_true rfl, Nat.le_of_ble_eq_true rfl, Nat.le_add_right _ _, Nat.le_add_right _ _⟩ dX7_writePaper_111 (fun c9 h => ?_)
    refine go_iinc (pc := 114) (v := l2 + 1) (lv' := [(2, .int (l2 + 1)), (0, .ref (G.2.1 + 65)), (1, .ref (G.2.1 + 14))]) dX7_writePaper_114 2 rfl (by first | rfl | decide) (by decide) rfl ?_
    refine go_goto (pc := 117) (tgt := 96) dX7_writePaper_117 (by decide) ?_
    refine go_lv [1, 2, 0] rfl ?_
    exact hP96 _ _ h
set_option maxRecDepth 100000 in
set_option maxHeartbeats 4000000 in
theorem tX7_writePaper_p96 {l : Launch} {G : gG} {k : Nat} {o : gMem} {Q : gMem → Prop} {l2 : Int32} {c : gMem} (h : wX7_writePaper_p96 l2 c Q) : Go l G mX7_writePaper (gbq G 2 47 84 k (qv (wX G o) Q)) 96 [(0, .ref (G.2.1 + 65)), (1, .ref (G.2.1 + 14)), (2, .int l2)] [] 84 k (wX G o c) :=
  h (fun l2 c => Go l G mX7_writePaper (gbq G 2 47 84 k (qv (wX G o) Q)) 96 [(0, .ref (G.2.1 + 65)), (1, .ref (G.2.1 + 14)), (2, .int l2)] [] 84 k (wX G o c)) (fun l2 c hb => tX7_writePaper_p96_b (fun l2 c hh => hh) hb)
def wX7_writePaper_p80 (P53 : Int32 → gMem → Prop) (l2 : Int32) (c : gMem) (Q : gMem → Prop) : Prop :=
  P53 (l2 + 1) c
set_option maxRecDepth 100000 in
set_option maxHeartbeats 4000000 in
theorem tX7_writePaper_p80 {l : Launch} {G : gG} {k : Nat} {o : gMem} {Q : gMem → Prop} {P53 : Int32 → gMem → Prop} (hP53 : ∀ (l2 : Int32) (c : gMem), P53 l2 c → Go l G mX7_writePaper (gbq G 2 47 84 k (qv (wX G o) Q)) 53 [(0, .ref (G.2.1 + 65)), (1, .ref (G.2.1 + 14)), (2, .int l2)] [] 84 k (wX G o c)) {l2 : Int32} {c : gMem} (h : wX7_writePaper_p80 P53 l2 c Q) : Go l G mX7_writePaper (gbq G 2 47 84 k (qv (wX G o) Q)) 80 [(0, .ref (G.2.1 + 65)), (1, .ref (G.2.1 + 14)), (2, .int l2)] [] 84 k (wX G o c) := by
  unfold wX7_writePaper_p80 at h
  refine go_iinc (pc := 80) (v := l2 + 1) (lv' := [(2, .int (l2 + 1)), (0, .ref (G.2.1 + 65)), (1, .ref (G.2.1 + 14))]) dX7_writePaper_80 2 rfl (by first | rfl | decide) (by decide) rfl ?_
  refine go_goto (pc := 83) (tgt := 53) dX7_writePaper_83 (by decide) ?_
  refine go_lv [1, 2, 0] rfl ?_
  exact hP53 _ _ h
def wX7_writePaper_p53_b (P53 : Int32 → gMem → Prop) (l2 : Int32) (c : gMem) (Q : gMem → Prop) : Prop :=
  ∀ v1, v1 = c 2 2 →
  ((v1 ≤ l2 →
    ∀ v3, v3 = c 65 5 →
    wX4_add v3 c (fun c4 =>
    wX7_writePaper_p96 0 c4 Q)) ∧
   (¬ v1 ≤ l2 →
    wX2_has l2 c (fun r6 c5 =>
    ((r6 = 0 →
      wX7_writePaper_p80 P53 l2 c5 Q) ∧
     (¬ r6 = 0 →
      wX7_writeKept l2 c5 (fun c8 =>
      wX7_writePaper_p80 P53 l2 c8 Q))))))
def wX7_writePaper_p53 (l2 : Int32) (c : gMem) (Q : gMem → Prop) : Prop :=
  ∀ P53 : Int32 → gMem → Prop, (∀ (l2 : Int32) (c : gMem), wX7_writePaper_p53_b P53 l2 c Q → P53 l2 c) → P53 l2 c
set_option maxRecDepth 100000 in
set_option maxHeartbeats 4000000 in
theorem tX7_writePaper_p53_b {l : Launch} {G : gG} {k : Nat} {o : gMem} {Q : gMem → Prop} {P53 : Int32 → gMem → Prop} (hP53 : ∀ (l2 : Int32) (c : gMem), P53 l2 c → Go l G mX7_writePaper (gbq G 2 47 84 k (qv (wX G o) Q)) 53 [(0, .ref (G.2.1 + 65)), (1, .ref (G.2.1 + 14)), (2, .int l2)] [] 84 k (wX G o c)) {l2 : Int32} {c : gMem} (h : wX7_writePaper_p53_b P53 l2 c Q) : Go l G mX7_writePaper (gbq G 2 47 84 k (qv (wX G o) Q)) 53 [(0, .ref (G.2.1 + 65)), (1, .ref (G.2.1 + 14)), (2, .int l2)] [] 84 k (wX G o c) := by
  unfold wX7_writePaper_p53_b at h
  refine go_iload_n (pc := 53) dX7_writePaper_53 rfl rfl ?_
  refine go_aload_n (pc := 54) dX7_writePaper_54 rfl rfl ?_
  refine go_get (pc := 55) fX7_31 rfl (gz_b (by decide)) xw65 rfl dX7_writePaper_55 ?_
  refine gb_get (pc := 58) fX7_126 rfl (gz_b (by decide)) xw2 rfl dX7_writePaper_58 (fun v1 ev1 => ?_)
  have h := h v1 ev1
  refine go_icmp_ge (pc := 61) (tgt := 86) dX7_writePaper_61 (by decide) (fun q2 => ?_) (fun q2 => ?_)
  · have h := h.1 q2
    refine go_aload_n (pc := 86) dX7_writePaper_86 rfl rfl ?_
    refine go_aload_n (pc := 87) dX7_writePaper_87 rfl rfl ?_
    refine gb_get (pc := 88) fX7_123 rfl (gz_b (by decide)) xw65 rfl dX7_writePaper_88 (fun v3 ev3 => ?_)
    have h := h v3 ev3
    refine gq_callV_v (pc := 91) (F := wX G o) vX7_199 rfl (tX4_add h) rfl rfl (gz_b (by decide)) xw14 rfl (Nat.le_of_ble_eq_true rfl) ⟨Nat.le_of_ble_eq_true rfl, Nat.le_of_ble_eq_true rfl, Nat.le_add_right _ _, Nat.le_add_right _ _⟩ dX7_writePaper_91 (fun c4 h => ?_)
    refine go_iconst (pc := 94) (v := 0) dX7_writePaper_94 (by decide) ?_
    refine go_istore_n (pc := 95) (lv' := [(2, .int 0), (0, .ref (G.2.1 + 65)), (1, .ref (G.2.1 + 14))]) dX7_writePaper_95 rfl (by decide) rfl ?_
    refine go_lv [1, 2, 0] rfl ?_
    exact tX7_writePaper_p96 h
  · have h := h.2 q2
    refine go_aload_n (pc := 64) dX7_writePaper_64 rfl rfl ?_
    refine go_get (pc := 65) fX7_31 rfl (gz_b (by decide)) xw65 rfl dX7_writePaper_65 ?_
    refine go_iload_n (pc := 68) dX7_writePaper_68 rfl rfl ?_
    refine gq_callV_i (pc := 69) (F := wX G o) vX7_61 rfl (tX2_has h) rfl rfl (gz_b (by decide)) xw2 rfl (Nat.le_of_ble_eq_true rfl) ⟨Nat.le_of_ble_eq_true rfl, Nat.le_of_ble_eq_true rfl, Nat.le_add_right _ _, Nat.le_add_right _ _⟩ dX7_writePaper_69 (fun r6 c5 h => ?_)
    refine go_if_eq (pc := 72) (tgt := 80) dX7_writePaper_72 (by decide) (fun q7 => ?_) (fun q7 => ?_)
    · have h := h.1 q7
      refine go_lv [0, 1, 2] rfl ?_
      exact tX7_writePaper_p80 hP53 h
    · have h := h.2 q7
      refine go_aload_n (pc := 75) dX7_writePaper_75 rfl rfl ?_
      refine go_iload_n (pc := 76) dX7_writePaper_76 rfl rfl ?_
      refine gq_callV_v (pc := 77) (F := wX G o) vX7_201 rfl (tX7_writeKept h) rfl rfl (gz_b (by decide)) xw65 rfl (Nat.le_of_ble_eq_true rfl) ⟨Nat.le_of_ble_eq_true rfl, Nat.le_of_ble_eq_true rfl, Nat.le_add_right _ _, Nat.le_add_right _ _⟩ dX7_writePaper_77 (fun c8 h => ?_)
      refine go_lv [0, 1, 2] rfl ?_
      exact tX7_writePaper_p80 hP53 h
set_option maxRecDepth 100000 in
set_option maxHeartbeats 4000000 in
theorem tX7_writePaper_p53 {l : Launch} {G : gG} {k : Nat} {o : gMem} {Q : gMem → Prop} {l2 : Int32} {c : gMem} (h : wX7_writePaper_p53 l2 c Q) : Go l G mX7_writePaper (gbq G 2 47 84 k (qv (wX G o) Q)) 53 [(0, .ref (G.2.1 + 65)), (1, .ref (G.2.1 + 14)), (2, .int l2)] [] 84 k (wX G o c) :=
  h (fun l2 c => Go l G mX7_writePaper (gbq G 2 47 84 k (qv (wX G o) Q)) 53 [(0, .ref (G.2.1 + 65)), (1, .ref (G.2.1 + 14)), (2, .int l2)] [] 84 k (wX G o c)) (fun l2 c hb => tX7_writePaper_p53_b (fun l2 c hh => hh) hb)
def wX7_writePaper_p15_b (P15 : Int32 → gMem → Prop) (l2 : Int32) (c : gMem) (Q : gMem → Prop) : Prop :=
  ((24 ≤ l2 →
    ∀ v2, v2 = c 2 3 →
    wX4_add v2 c (fun c3 =>
    wX7_writePaper_p53 0 c3 Q)) ∧
   (¬ 24 ≤ l2 →
    vp_in l2 24 ∧
    ∀ v4, v4 = c 20 l2.toNatClampNeg →
    wX4_add v4 c (fun c6 =>
    P15 (l2 + 1) c6)))
def wX7_writePaper_p15 (l2 : Int32) (c : gMem) (Q : gMem → Prop) : Prop :=
  ∀ P15 : Int32 → gMem → Prop, (∀ (l2 : Int32) (c : gMem), wX7_writePaper_p15_b P15 l2 c Q → P15 l2 c) → P15 l2 c
set_option maxRecDepth 100000 in
set_option maxHeartbeats 4000000 in
theorem tX7_writePaper_p15_b {l : Launch} {G : gG} {k : Nat} {o : gMem} {Q : gMem → Prop} {P15 : Int32 → gMem → Prop} (hP15 : ∀ (l2 : Int32) (c : gMem), P15 l2 c → Go l G mX7_writePaper (gbq G 2 47 84 k (qv (wX G o) Q)) 15 [(0, .ref (G.2.1 + 65)), (1, .ref (G.2.1 + 14)), (2, .int l2)] [] 84 k (wX G o c)) {l2 : Int32} {c : gMem} (h : wX7_writePaper_p15_b P15 l2 c Q) : Go l G mX7_writePaper (gbq G 2 47 84 k (qv (wX G o) Q)) 15 [(0, .ref (G.2.1 + 65)), (1, .ref (G.2.1 + 14)), (2, .int l2)] [] 84 k (wX G o c) := by
  unfold wX7_writePaper_p15_b at h
  refine go_iload_n (pc := 15) dX7_writePaper_15 rfl rfl ?_
  refine go_bipush (pc := 16) (v := 24) dX7_writePaper_16 (by decide) ?_
  refine go_icmp_ge (pc := 18) (tgt := 40) dX7_writePaper_18 (by decide) (fun q1 => ?_) (fun q1 => ?_)
  · have h := h.1 q1
    refine go_aload_n (pc := 40) dX7_writePaper_40 rfl rfl ?_
    refine go_aload_n (pc := 41) dX7_writePaper_41 rfl rfl ?_
    refine go_get (pc := 42) fX7_31 rfl (gz_b (by decide)) xw65 rfl dX7_writePaper_42 ?_
    refine gb_get (pc := 45) fX7_145 rfl (gz_b (by decide)) xw2 rfl dX7_writePaper_45 (fun v2 ev2 => ?_)
    have h := h v2 ev2
    refine gq_callV_v (pc := 48) (F := wX G o) vX7_199 rfl (tX4_add h) rfl rfl (gz_b (by decide)) xw14 rfl (Nat.le_of_ble_eq_true rfl) ⟨Nat.le_of_ble_eq_true rfl, Nat.le_of_ble_eq_true rfl, Nat.le_add_right _ _, Nat.le_add_right _ _⟩ dX7_writePaper_48 (fun c3 h => ?_)
    refine go_iconst (pc := 51) (v := 0) dX7_writePaper_51 (by decide) ?_
    refine go_istore_n (pc := 52) (lv' := [(2, .int 0), (0, .ref (G.2.1 + 65)), (1, .ref (G.2.1 + 14))]) dX7_writePaper_52 rfl (by decide) rfl ?_
    refine go_lv [1, 2, 0] rfl ?_
    exact tX7_writePaper_p53 h
  · have h := h.2 q1
    refine go_aload_n (pc := 21) dX7_writePaper_21 rfl rfl ?_
    refine go_aload_n (pc := 22) dX7_writePaper_22 rfl rfl ?_
    refine go_get (pc := 23) fX7_21 rfl (gz_b (by decide)) xw65 rfl dX7_writePaper_23 ?_
    refine go_get (pc := 26) fX7_74 rfl (gz_b (by decide)) xw1 rfl dX7_writePaper_26 ?_
    refine go_iload_n (pc := 29) dX7_writePaper_29 rfl rfl ?_
    obtain ⟨b5, h⟩ := h
    refine gb_iald (pc := 30) (gz_b (by decide)) xw20 b5 dX7_writePaper_30 (fun v4 ev4 => ?_)
    have h := h v4 ev4
    refine gq_callV_v (pc := 31) (F := wX G o) vX7_199 rfl (tX4_add h) rfl rfl (gz_b (by decide)) xw14 rfl (Nat.le_of_ble_eq_true rfl) ⟨Nat.le_of_ble_eq_true rfl, Nat.le_of_ble_eq_true rfl, Nat.le_add_right _ _, Nat.le_add_right _ _⟩ dX7_writePaper_31 (fun c6 h => ?_)
    refine go_iinc (pc := 34) (v := l2 + 1) (lv' := [(2, .int (l2 + 1)), (0, .ref (G.2.1 + 65)), (1, .ref (G.2.1 + 14))]) dX7_writePaper_34 2 rfl (by first | rfl | decide) (by decide) rfl ?_
    refine go_goto (pc := 37) (tgt := 15) dX7_writePaper_37 (by decide) ?_
    refine go_lv [1, 2, 0] rfl ?_
    exact hP15 _ _ h
set_option maxRecDepth 100000 in
set_option maxHeartbeats 4000000 in
theorem tX7_writePaper_p15 {l : Launch} {G : gG} {k : Nat} {o : gMem} {Q : gMem → Prop} {l2 : Int32} {c : gMem} (h : wX7_writePaper_p15 l2 c Q) : Go l G mX7_writePaper (gbq G 2 47 84 k (qv (wX G o) Q)) 15 [(0, .ref (G.2.1 + 65)), (1, .ref (G.2.1 + 14)), (2, .int l2)] [] 84 k (wX G o c) :=
  h (fun l2 c => Go l G mX7_writePaper (gbq G 2 47 84 k (qv (wX G o) Q)) 15 [(0, .ref (G.2.1 + 65)), (1, .ref (G.2.1 + 14)), (2, .int l2)] [] 84 k (wX G o c)) (fun l2 c hb => tX7_writePaper_p15_b (fun l2 c hh => hh) hb)
def wX7_writePaper (c : gMem) (Q : gMem → Prop) : Prop :=
  ∀ c1, c1 = mp c 14 0 0 →
  wX7_writePaper_p15 0 c1 Q
set_option maxRecDepth 100000 in
set_option maxHeartbeats 4000000 in
theorem tX7_writePaper {l : Launch} {G : gG} {k : Nat} {o : gMem} {Q : gMem → Prop} {c : gMem} (h : wX7_writePaper c Q) : Cq l G mX7_writePaper 2 47 [.ref (G.2.1 + 65)] 84 k (wX G o c) (qv (wX G o) Q) := by
  refine Cq.of (by decide) (Nat.le_of_ble_eq_true rfl) ?_
  show Go l G mX7_writePaper (gbq G 2 47 84 k (qv (wX G o) Q)) 0 [(0, .ref (G.2.1 + 65))] [] 84 k (wX G o c)
  unfold wX7_writePaper at h
  refine go_aload_n (pc := 0) dX7_writePaper_0 rfl rfl ?_
  refine go_get (pc := 1) fX7_21 rfl (gz_b (by decide)) xw65 rfl dX7_writePaper_1 ?_
  refine go_get (pc := 4) fX7_190 rfl (gz_b (by decide)) xw1 rfl dX7_writePaper_4 ?_
  refine go_astore_n (pc := 7) (lv' := [(1, .ref (G.2.1 + 14)), (0, .ref (G.2.1 + 65))]) dX7_writePaper_7 rfl (by decide) rfl ?_
  refine go_aload_n (pc := 8) dX7_writePaper_8 rfl rfl ?_
  refine go_iconst (pc := 9) (v := 0) dX7_writePaper_9 (by decide) ?_
  refine gb_put (pc := 10) (F := wX G o) fX7_194 rfl (gz_b (by decide)) xw14 (Nat.le_of_ble_eq_true rfl) rfl rfl xp14_0 dX7_writePaper_10 (fun c1 ec1 => ?_)
  have h := h c1 ec1
  refine go_iconst (pc := 13) (v := 0) dX7_writePaper_13 (by decide) ?_
  refine go_istore_n (pc := 14) (lv' := [(2, .int 0), (1, .ref (G.2.1 + 14)), (0, .ref (G.2.1 + 65))]) dX7_writePaper_14 rfl (by decide) rfl ?_
  refine go_lv [2, 1, 0] rfl ?_
  exact tX7_writePaper_p15 h
def wX7_end (c : gMem) (Q : gMem → Prop) : Prop :=
  ∀ v1, v1 = c 12 0 →
  ∀ c2, c2 = mp c 12 0 (v1 + 1) →
  wX7_giveBackUnmarked c2 (fun c3 =>
  wX7_fadeWeakLinks c3 (fun c4 =>
  wX7_slideKept c4 (fun c5 =>
  wX7_writePaper c5 (fun c6 =>
  wX3_wipe c6 (fun c7 =>
  Q c7)))))
set_option maxRecDepth 100000 in
set_option maxHeartbeats 4000000 in
theorem tX7_end {l : Launch} {G : gG} {k : Nat} {o : gMem} {Q : gMem → Prop} {c : gMem} (h : wX7_end c Q) : Cq l G mX7_end 4 90 [.ref (G.2.1 + 65)] 84 k (wX G o c) (qv (wX G o) Q) := by
  refine Cq.of (by decide) (Nat.le_of_ble_eq_true rfl) ?_
  show Go l G mX7_end (gbq G 4 90 84 k (qv (wX G o) Q)) 0 [(0, .ref (G.2.1 + 65))] [] 84 k (wX G o c)
  unfold wX7_end at h
  refine go_aload_n (pc := 0) dX7_end_0 rfl rfl ?_
  refine go_get (pc := 1) fX7_21 rfl (gz_b (by decide)) xw65 rfl dX7_end_1 ?_
  refine go_get (pc := 4) fX7_102 rfl (gz_b (by decide)) xw1 rfl dX7_end_4 ?_
  refine go_dup (pc := 7) dX7_end_7 rfl ?_
  refine gb_get (pc := 8) fX7_106 rfl (gz_b (by decide)) xw12 rfl dX7_end_8 (fun v1 ev1 => ?_)
  have h := h v1 ev1
  refine go_iconst (pc := 11) (v := 1) dX7_end_11 (by decide) ?_
  refine go_iadd (pc := 12) dX7_end_12 ?_
  refine gb_put (pc := 13) (F := wX G o) fX7_106 rfl (gz_b (by decide)) xw12 (Nat.le_of_ble_eq_true rfl) rfl rfl xp12_0 dX7_end_13 (fun c2 ec2 => ?_)
  have h := h c2 ec2
  refine go_aload_n (pc := 16) dX7_end_16 rfl rfl ?_
  refine gq_callV_v (pc := 17) (F := wX G o) vX7_111 rfl (tX7_giveBackUnmarked h) rfl rfl (gz_b (by decide)) xw65 rfl (Nat.le_of_ble_eq_true rfl) ⟨Nat.le_of_ble_eq_true rfl, Nat.le_of_ble_eq_true rfl, Nat.le_add_right _ _, Nat.le_add_right _ _⟩ dX7_end_17 (fun c3 h => ?_)
  refine go_aload_n (pc := 20) dX7_end_20 rfl rfl ?_
  refine gq_callV_v (pc := 21) (F := wX G o) vX7_114 rfl (tX7_fadeWeakLinks h) rfl rfl (gz_b (by decide)) xw65 rfl (Nat.le_of_ble_eq_true rfl) ⟨Nat.le_of_ble_eq_true rfl, Nat.le_of_ble_eq_true rfl, Nat.le_add_right _ _, Nat.le_add_right _ _⟩ dX7_end_21 (fun c4 h => ?_)
  refine go_aload_n (pc := 24) dX7_end_24 rfl rfl ?_
  refine gq_callV_v (pc := 25) (F := wX G o) vX7_117 rfl (tX7_slideKept h) rfl rfl (gz_b (by decide)) xw65 rfl (Nat.le_of_ble_eq_true rfl) ⟨Nat.le_of_ble_eq_true rfl, Nat.le_of_ble_eq_true rfl, Nat.le_add_right _ _, Nat.le_add_right _ _⟩ dX7_end_25 (fun c5 h => ?_)
  refine go_aload_n (pc := 28) dX7_end_28 rfl rfl ?_
  refine gq_callV_v (pc := 29) (F := wX G o) vX7_120 rfl (tX7_writePaper h) rfl rfl (gz_b (by decide)) xw65 rfl (Nat.le_of_ble_eq_true rfl) ⟨Nat.le_of_ble_eq_true rfl, Nat.le_of_ble_eq_true rfl, Nat.le_add_right _ _, Nat.le_add_right _ _⟩ dX7_end_29 (fun c6 h => ?_)
  refine go_aload_n (pc := 32) dX7_end_32 rfl rfl ?_
  refine go_get (pc := 33) fX7_36 rfl (gz_b (by decide)) xw65 rfl dX7_end_33 ?_
  refine gq_callV_v (pc := 36) (F := wX G o) vX7_71 rfl (tX3_wipe h) rfl rfl (gz_b (by decide)) xw6 rfl (Nat.le_of_ble_eq_true rfl) ⟨Nat.le_of_ble_eq_true rfl, Nat.le_of_ble_eq_true rfl, Nat.le_add_right _ _, Nat.le_add_right _ _⟩ dX7_end_36 (fun c7 h => ?_)
  exact gq_vret (pc := 39) (F := wX G o) rfl dX7_end_39 h
def wX7_begin_p17_b (P17 : Int32 → gMem → Prop) (l1 : Int32) (c : gMem) (Q : gMem → Prop) : Prop :=
  ((24 ≤ l1 →
    Q c) ∧
   (¬ 24 ≤ l1 →
    vp_in l1 24 ∧
    ∀ v2, v2 = c 20 l1.toNatClampNeg →
    wX7_mark v2 0 l1 ((-1)) c (fun c4 =>
    P17 (l1 + 1) c4)))
def wX7_begin_p17 (l1 : Int32) (c : gMem) (Q : gMem → Prop) : Prop :=
  ∀ P17 : Int32 → gMem → Prop, (∀ (l1 : Int32) (c : gMem), wX7_begin_p17_b P17 l1 c Q → P17 l1 c) → P17 l1 c
set_option maxRecDepth 100000 in
set_option maxHeartbeats 4000000 in
theorem tX7_begin_p17_b {l : Launch} {G : gG} {k : Nat} {o : gMem} {Q : gMem → Prop} {P17 : Int32 → gMem → Prop} (hP17 : ∀ (l1 : Int32) (c : gMem), P17 l1 c → Go l G mX7_begin (gbq G 2 48 84 k (qv (wX G o) Q)) 17 [(0, .ref (G.2.1 + 65)), (1, .int l1)] [] 84 k (wX G o c)) {l1 : Int32} {c : gMem} (h : wX7_begin_p17_b P17 l1 c Q) : Go l G mX7_begin (gbq G 2 48 84 k (qv (wX G o) Q)) 17 [(0, .ref (G.2.1 + 65)), (1, .int l1)] [] 84 k (wX G o c) := by
  unfold wX7_begin_p17_b at h
  refine go_iload_n (pc := 17) dX7_begin_17 rfl rfl ?_
  refine go_bipush (pc := 18) (v := 24) dX7_begin_18 (by decide) ?_
  refine go_icmp_ge (pc := 20) (tgt := 45) dX7_begin_20 (by decide) (fun q1 => ?_) (fun q1 => ?_)
  · have h := h.1 q1
    exact gq_vret (pc := 45) (F := wX G o) rfl dX7_begin_45 h
  · have h := h.2 q1
    refine go_aload_n (pc := 23) dX7_begin_23 rfl rfl ?_
    refine go_aload_n (pc := 24) dX7_begin_24 rfl rfl ?_
    refine go_get (pc := 25) fX7_21 rfl (gz_b (by decide)) xw65 rfl dX7_begin_25 ?_
    refine go_get (pc := 28) fX7_74 rfl (gz_b (by decide)) xw1 rfl dX7_begin_28 ?_
    refine go_iload_n (pc := 31) dX7_begin_31 rfl rfl ?_
    obtain ⟨b3, h⟩ := h
    refine gb_iald (pc := 32) (gz_b (by decide)) xw20 b3 dX7_begin_32 (fun v2 ev2 => ?_)
    have h := h v2 ev2
    refine go_iconst (pc := 33) (v := 0) dX7_begin_33 (by decide) ?_
    refine go_iload_n (pc := 34) dX7_begin_34 rfl rfl ?_
    refine go_iconst (pc := 35) (v := (-1)) dX7_begin_35 (by decide) ?_
    refine gq_callV_v (pc := 36) (F := wX G o) vX7_77 rfl (tX7_mark h) rfl rfl (gz_b (by decide)) xw65 rfl (Nat.le_of_ble_eq_true rfl) ⟨Nat.le_of_ble_eq_true rfl, Nat.le_of_ble_eq_true rfl, Nat.le_add_right _ _, Nat.le_add_right _ _⟩ dX7_begin_36 (fun c4 h => ?_)
    refine go_iinc (pc := 39) (v := l1 + 1) (lv' := [(1, .int (l1 + 1)), (0, .ref (G.2.1 + 65))]) dX7_begin_39 1 rfl (by first | rfl | decide) (by decide) rfl ?_
    refine go_goto (pc := 42) (tgt := 17) dX7_begin_42 (by decide) ?_
    refine go_lv [1, 0] rfl ?_
    exact hP17 _ _ h
set_option maxRecDepth 100000 in
set_option maxHeartbeats 4000000 in
theorem tX7_begin_p17 {l : Launch} {G : gG} {k : Nat} {o : gMem} {Q : gMem → Prop} {l1 : Int32} {c : gMem} (h : wX7_begin_p17 l1 c Q) : Go l G mX7_begin (gbq G 2 48 84 k (qv (wX G o) Q)) 17 [(0, .ref (G.2.1 + 65)), (1, .int l1)] [] 84 k (wX G o c) :=
  h (fun l1 c => Go l G mX7_begin (gbq G 2 48 84 k (qv (wX G o) Q)) 17 [(0, .ref (G.2.1 + 65)), (1, .int l1)] [] 84 k (wX G o c)) (fun l1 c hb => tX7_begin_p17_b (fun l1 c hh => hh) hb)
def wX7_begin (c : gMem) (Q : gMem → Prop) : Prop :=
  wX3_wipe c (fun c1 =>
  ∀ c2, c2 = mp c1 6 0 1 →
  wX7_begin_p17 0 c2 Q)
set_option maxRecDepth 100000 in
set_option maxHeartbeats 4000000 in
theorem tX7_begin {l : Launch} {G : gG} {k : Nat} {o : gMem} {Q : gMem → Prop} {c : gMem} (h : wX7_begin c Q) : Cq l G mX7_begin 2 48 [.ref (G.2.1 + 65)] 84 k (wX G o c) (qv (wX G o) Q) := by
  refine Cq.of (by decide) (Nat.le_of_ble_eq_true rfl) ?_
  show Go l G mX7_begin (gbq G 2 48 84 k (qv (wX G o) Q)) 0 [(0, .ref (G.2.1 + 65))] [] 84 k (wX G o c)
  unfold wX7_begin at h
  refine go_aload_n (pc := 0) dX7_begin_0 rfl rfl ?_
  refine go_get (pc := 1) fX7_36 rfl (gz_b (by decide)) xw65 rfl dX7_begin_1 ?_
  refine gq_callV_v (pc := 4) (F := wX G o) vX7_71 rfl (tX3_wipe h) rfl rfl (gz_b (by decide)) xw6 rfl (Nat.le_of_ble_eq_true rfl) ⟨Nat.le_of_ble_eq_true rfl, Nat.le_of_ble_eq_true rfl, Nat.le_add_right _ _, Nat.le_add_right _ _⟩ dX7_begin_4 (fun c1 h => ?_)
  refine go_aload_n (pc := 7) dX7_begin_7 rfl rfl ?_
  refine go_get (pc := 8) fX7_36 rfl (gz_b (by decide)) xw65 rfl dX7_begin_8 ?_
  refine go_iconst (pc := 11) (v := 1) dX7_begin_11 (by decide) ?_
  refine gb_put (pc := 12) (F := wX G o) fX7_40 rfl (gz_b (by decide)) xw6 (Nat.le_of_ble_eq_true rfl) rfl rfl xp6_0 dX7_begin_12 (fun c2 ec2 => ?_)
  have h := h c2 ec2
  refine go_iconst (pc := 15) (v := 0) dX7_begin_15 (by decide) ?_
  refine go_istore_n (pc := 16) (lv' := [(1, .int 0), (0, .ref (G.2.1 + 65))]) dX7_begin_16 rfl (by decide) rfl ?_
  refine go_lv [1, 0] rfl ?_
  exact tX7_begin_p17 h
def wX7_finish_p14 (c : gMem) (Q : gMem → Prop) : Prop :=
  wX7_lookThrough 1000000 c (fun r2 c1 =>
  wX7_end c1 (fun c3 =>
  Q c3))
set_option maxRecDepth 100000 in
set_option maxHeartbeats 4000000 in
theorem tX7_finish_p14 {l : Launch} {G : gG} {k : Nat} {o : gMem} {Q : gMem → Prop} {c : gMem} (h : wX7_finish_p14 c Q) : Go l G mX7_finish (gbq G 5 110 84 k (qv (wX G o) Q)) 14 [(0, .ref (G.2.1 + 65))] [] 84 k (wX G o c) := by
  unfold wX7_finish_p14 at h
  refine go_aload_n (pc := 14) dX7_finish_14 rfl rfl ?_
  refine go_ldc (pc := 15) rfl qX7_60 dX7_finish_15 ?_
  refine gq_callV_i (pc := 17) (F := wX G o) vX7_49 rfl (tX7_lookThrough h) rfl rfl (gz_b (by decide)) xw65 rfl (Nat.le_of_ble_eq_true rfl) ⟨Nat.le_of_ble_eq_true rfl, Nat.le_of_ble_eq_true rfl, Nat.le_add_right _ _, Nat.le_add_right _ _⟩ dX7_finish_17 (fun r2 c1 h => ?_)
  refine go_pop (pc := 20) dX7_finish_20 rfl ?_
  refine go_aload_n (pc := 21) dX7_finish_21 rfl rfl ?_
  refine gq_callV_v (pc := 22) (F := wX G o) vX7_57 rfl (tX7_end h) rfl rfl (gz_b (by decide)) xw65 rfl (Nat.le_of_ble_eq_true rfl) ⟨Nat.le_of_ble_eq_true rfl, Nat.le_of_ble_eq_true rfl, Nat.le_add_right _ _, Nat.le_add_right _ _⟩ dX7_finish_22 (fun c3 h => ?_)
  exact gq_vret (pc := 25) (F := wX G o) rfl dX7_finish_25 h
def wX7_finish (c : gMem) (Q : gMem → Prop) : Prop :=
  ∀ v1, v1 = c 6 0 →
  ((v1 = 0 →
    wX7_begin c (fun c3 =>
    wX7_finish_p14 c3 Q)) ∧
   (¬ v1 = 0 →
    wX7_finish_p14 c Q))
set_option maxRecDepth 100000 in
set_option maxHeartbeats 4000000 in
theorem tX7_finish {l : Launch} {G : gG} {k : Nat} {o : gMem} {Q : gMem → Prop} {c : gMem} (h : wX7_finish c Q) : Cq l G mX7_finish 5 110 [.ref (G.2.1 + 65)] 84 k (wX G o c) (qv (wX G o) Q) := by
  refine Cq.of (by decide) (Nat.le_of_ble_eq_true rfl) ?_
  show Go l G mX7_finish (gbq G 5 110 84 k (qv (wX G o) Q)) 0 [(0, .ref (G.2.1 + 65))] [] 84 k (wX G o c)
  unfold wX7_finish at h
  refine go_aload_n (pc := 0) dX7_finish_0 rfl rfl ?_
  refine go_get (pc := 1) fX7_36 rfl (gz_b (by decide)) xw65 rfl dX7_finish_1 ?_
  refine gb_get (pc := 4) fX7_40 rfl (gz_b (by decide)) xw6 rfl dX7_finish_4 (fun v1 ev1 => ?_)
  have h := h v1 ev1
  refine go_if_ne (pc := 7) (tgt := 14) dX7_finish_7 (by decide) (fun q2 => ?_) (fun q2 => ?_)
  · have h := h.2 q2
    refine go_lv [0] rfl ?_
    exact tX7_finish_p14 h
  · have h := h.1 q2
    refine go_aload_n (pc := 10) dX7_finish_10 rfl rfl ?_
    refine gq_callV_v (pc := 11) (F := wX G o) vX7_46 rfl (tX7_begin h) rfl rfl (gz_b (by decide)) xw65 rfl (Nat.le_of_ble_eq_true rfl) ⟨Nat.le_of_ble_eq_true rfl, Nat.le_of_ble_eq_true rfl, Nat.le_add_right _ _, Nat.le_add_right _ _⟩ dX7_finish_11 (fun c3 h => ?_)
    refine go_lv [0] rfl ?_
    exact tX7_finish_p14 h
def wX7_reach (l1 : Int32) (c : gMem) (Q : gMem → Prop) : Prop :=
  wX2_has l1 c (fun r2 c1 =>
  ((r2 = 0 →
    Q c1) ∧
   (¬ r2 = 0 →
    vp_in l1 500 ∧
    ∀ v4, v4 = c1 67 l1.toNatClampNeg →
    ((v4 = 0 →
      vp_in l1 500 ∧
      ∀ c7, c7 = mp c1 67 l1.toNatClampNeg 1 →
      ∀ v9, v9 = c7 65 8 →
      vp_in v9 500 ∧
      ∀ c10, c10 = mp c7 68 v9.toNatClampNeg l1 →
      ∀ v12, v12 = c10 65 8 →
      ∀ c13, c13 = mp c10 65 8 (v12 + 1) →
      Q c13) ∧
     (¬ v4 = 0 →
      Q c1)))))
set_option maxRecDepth 100000 in
set_option maxHeartbeats 4000000 in
theorem tX7_reach {l : Launch} {G : gG} {k : Nat} {o : gMem} {Q : gMem → Prop} {l1 : Int32} {c : gMem} (h : wX7_reach l1 c Q) : Cq l G mX7_reach 1 21 [.ref (G.2.1 + 65), .int l1] 84 k (wX G o c) (qv (wX G o) Q) := by
  refine Cq.of (by decide) (Nat.le_of_ble_eq_true rfl) ?_
  show Go l G mX7_reach (gbq G 1 21 84 k (qv (wX G o) Q)) 0 [(0, .ref (G.2.1 + 65)), (1, .int l1)] [] 84 k (wX G o c)
  unfold wX7_reach at h
  refine go_aload_n (pc := 0) dX7_reach_0 rfl rfl ?_
  refine go_get (pc := 1) fX7_31 rfl (gz_b (by decide)) xw65 rfl dX7_reach_1 ?_
  refine go_iload_n (pc := 4) dX7_reach_4 rfl rfl ?_
  refine gq_callV_i (pc := 5) (F := wX G o) vX7_61 rfl (tX2_has h) rfl rfl (gz_b (by decide)) xw2 rfl (Nat.le_of_ble_eq_true rfl) ⟨Nat.le_of_ble_eq_true rfl, Nat.le_of_ble_eq_true rfl, Nat.le_add_right _ _, Nat.le_add_right _ _⟩ dX7_reach_5 (fun r2 c1 h => ?_)
  refine go_if_eq (pc := 8) (tgt := 47) dX7_reach_8 (by decide) (fun q3 => ?_) (fun q3 => ?_)
  · have h := h.1 q3
    exact gq_vret (pc := 47) (F := wX G o) rfl dX7_reach_47 h
  · have h := h.2 q3
    refine go_aload_n (pc := 11) dX7_reach_11 rfl rfl ?_
    refine go_get (pc := 12) fX7_15 rfl (gz_b (by decide)) xw65 rfl dX7_reach_12 ?_
    refine go_iload_n (pc := 15) dX7_reach_15 rfl rfl ?_
    obtain ⟨b5, h⟩ := h
    refine gb_iald (pc := 16) (gz_b (by decide)) xw67 b5 dX7_reach_16 (fun v4 ev4 => ?_)
    have h := h v4 ev4
    refine go_if_ne (pc := 17) (tgt := 47) dX7_reach_17 (by decide) (fun q6 => ?_) (fun q6 => ?_)
    · have h := h.2 q6
      exact gq_vret (pc := 47) (F := wX G o) rfl dX7_reach_47 h
    · have h := h.1 q6
      refine go_aload_n (pc := 20) dX7_reach_20 rfl rfl ?_
      refine go_get (pc := 21) fX7_15 rfl (gz_b (by decide)) xw65 rfl dX7_reach_21 ?_
      refine go_iload_n (pc := 24) dX7_reach_24 rfl rfl ?_
      refine go_iconst (pc := 25) (v := 1) dX7_reach_25 (by decide) ?_
      obtain ⟨b8, h⟩ := h
      refine gb_iast (pc := 26) (F := wX G o) (gz_b (by decide)) xw67 b8 xa67 dX7_reach_26 (fun c7 ec7 => ?_)
      have h := h c7 ec7
      refine go_aload_n (pc := 27) dX7_reach_27 rfl rfl ?_
      refine go_get (pc := 28) fX7_18 rfl (gz_b (by decide)) xw65 rfl dX7_reach_28 ?_
      refine go_aload_n (pc := 31) dX7_reach_31 rfl rfl ?_
      refine gb_get (pc := 32) fX7_226 rfl (gz_b (by decide)) xw65 rfl dX7_reach_32 (fun v9 ev9 => ?_)
      have h := h v9 ev9
      refine go_iload_n (pc := 35) dX7_reach_35 rfl rfl ?_
      obtain ⟨b11, h⟩ := h
      refine gb_iast (pc := 36) (F := wX G o) (gz_b (by decide)) xw68 b11 xa68 dX7_reach_36 (fun c10 ec10 => ?_)
      have h := h c10 ec10
      refine go_aload_n (pc := 37) dX7_reach_37 rfl rfl ?_
      refine go_dup (pc := 38) dX7_reach_38 rfl ?_
      refine gb_get (pc := 39) fX7_226 rfl (gz_b (by decide)) xw65 rfl dX7_reach_39 (fun v12 ev12 => ?_)
      have h := h v12 ev12
      refine go_iconst (pc := 42) (v := 1) dX7_reach_42 (by decide) ?_
      refine go_iadd (pc := 43) dX7_reach_43 ?_
      refine gb_put (pc := 44) (F := wX G o) fX7_226 rfl (gz_b (by decide)) xw65 (Nat.le_of_ble_eq_true rfl) rfl rfl xp65_8 dX7_reach_44 (fun c13 ec13 => ?_)
      have h := h c13 ec13
      exact gq_vret (pc := 47) (F := wX G o) rfl dX7_reach_47 h
def wX7_reachedInts_p82_b (P44 : Int32 → Int32 → gMem → Prop) (P82 : Int32 → Int32 → Int32 → Int32 → Int32 → Int32 → gMem → Prop) (l1 : Int32) (l2 : Int32) (l3 : Int32) (l4 : Int32) (l5 : Int32) (l6 : Int32) (c : gMem) (Q : Int32 → gMem → Prop) : Prop :=
  ((l4 ≤ l6 →
    wX2_intsOf l3 c (fun r3 c2 =>
    P44 (l1 + r3) (l2 + 1) c2)) ∧
   (¬ l4 ≤ l6 →
    vp_in (l5 + l6) 4000 ∧
    ∀ v4, v4 = c 3 (l5 + l6).toNatClampNeg →
    wX7_reach v4 c (fun c6 =>
    P82 l1 l2 l3 l4 l5 (l6 + 1) c6)))
def wX7_reachedInts_p82 (P44 : Int32 → Int32 → gMem → Prop) (l1 : Int32) (l2 : Int32) (l3 : Int32) (l4 : Int32) (l5 : Int32) (l6 : Int32) (c : gMem) (Q : Int32 → gMem → Prop) : Prop :=
  ∀ P82 : Int32 → Int32 → Int32 → Int32 → Int32 → Int32 → gMem → Prop, (∀ (l1 : Int32) (l2 : Int32) (l3 : Int32) (l4 : Int32) (l5 : Int32) (l6 : Int32) (c : gMem), wX7_reachedInts_p82_b P44 P82 l1 l2 l3 l4 l5 l6 c Q → P82 l1 l2 l3 l4 l5 l6 c) → P82 l1 l2 l3 l4 l5 l6 c
set_option maxRecDepth 100000 in
set_option maxHeartbeats 4000000 in
theorem tX7_reachedInts_p82_b {l : Launch} {G : gG} {k : Nat} {o : gMem} {Q : Int32 → gMem → Prop} {P44 : Int32 → Int32 → gMem → Prop} (hP44 : ∀ (l1 : Int32) (l2 : Int32) (c : gMem), P44 l1 l2 c → Go l G mX7_reachedInts (gbq G 2 43 84 k (qi (wX G o) Q)) 44 [(0, .ref (G.2.1 + 65)), (1, .int l1), (2, .int l2)] [] 84 k (wX G o c)) {P82 : Int32 → Int32 → Int32 → Int32 → Int32 → Int32 → gMem → Prop} (hP82 : ∀ (l1 : Int32) (l2 : Int32) (l3 : Int32) (l4 : Int32) (l5 : Int32) (l6 : Int32) (c : gMem), P82 l1 l2 l3 l4 l5 l6 c → Go l G mX7_reachedInts (gbq G 2 43 84 k (qi (wX G o) Q)) 82 [(0, .ref (G.2.1 + 65)), (1, .int l1), (2, .int l2), (3, .int l3), (4, .int l4), (5, .int l5), (6, .int l6)] [] 84 k (wX G o c)) {l1 : Int32} {l2 : Int32} {l3 : Int32} {l4 : Int32} {l5 : Int32} {l6 : Int32} {c : gMem} (h : wX7_reachedInts_p82_b P44 P82 l1 l2 l3 l4 l5 l6 c Q) : Go l G mX7_reachedInts (gbq G 2 43 84 k (qi (wX G o) Q)) 82 [(0, .ref (G.2.1 + 65)), (1, .int l1), (2, .int l2), (3, .int l3), (4, .int l4), (5, .int l5), (6, .int l6)] [] 84 k (wX G o c) := by
  unfold wX7_reachedInts_p82_b at h
  refine go_iload (pc := 82) dX7_reachedInts_82 rfl ?_
  refine go_iload (pc := 84) dX7_reachedInts_84 rfl ?_
  refine go_icmp_ge (pc := 86) (tgt := 112) dX7_reachedInts_86 (by decide) (fun q1 => ?_) (fun q1 => ?_)
  · have h := h.1 q1
    refine go_iload_n (pc := 112) dX7_reachedInts_112 rfl rfl ?_
    refine go_aload_n (pc := 113) dX7_reachedInts_113 rfl rfl ?_
    refine go_get (pc := 114) fX7_31 rfl (gz_b (by decide)) xw65 rfl dX7_reachedInts_114 ?_
    refine go_iload_n (pc := 117) dX7_reachedInts_117 rfl rfl ?_
    refine gq_callV_i (pc := 118) (F := wX G o) vX7_180 rfl (tX2_intsOf h) rfl rfl (gz_b (by decide)) xw2 rfl (Nat.le_of_ble_eq_true rfl) ⟨Nat.le_of_ble_eq_true rfl, Nat.le_of_ble_eq_true rfl, Nat.le_add_right _ _, Nat.le_add_right _ _⟩ dX7_reachedInts_118 (fun r3 c2 h => ?_)
    refine go_iadd (pc := 121) dX7_reachedInts_121 ?_
    refine go_istore_n (pc := 122) (lv' := [(1, .int (l1 + r3)), (0, .ref (G.2.1 + 65)), (2, .int l2), (3, .int l3), (4, .int l4), (5, .int l5), (6, .int l6)]) dX7_reachedInts_122 rfl (by decide) rfl ?_
    refine go_iinc (pc := 123) (v := l2 + 1) (lv' := [(2, .int (l2 + 1)), (1, .int (l1 + r3)), (0, .ref (G.2.1 + 65)), (3, .int l3), (4, .int l4), (5, .int l5), (6, .int l6)]) dX7_reachedInts_123 2 rfl (by first | rfl | decide) (by decide) rfl ?_
    refine go_goto (pc := 126) (tgt := 44) dX7_reachedInts_126 (by decide) ?_
    refine go_lv [2, 1, 0] rfl ?_
    exact hP44 _ _ _ h
  · have h := h.2 q1
    refine go_aload_n (pc := 89) dX7_reachedInts_89 rfl rfl ?_
    refine go_aload_n (pc := 90) dX7_reachedInts_90 rfl rfl ?_
    refine go_get (pc := 91) fX7_31 rfl (gz_b (by decide)) xw65 rfl dX7_reachedInts_91 ?_
    refine go_get (pc := 94) fX7_90 rfl (gz_b (by decide)) xw2 rfl dX7_reachedInts_94 ?_
    refine go_iload (pc := 97) dX7_reachedInts_97 rfl ?_
    refine go_iload (pc := 99) dX7_reachedInts_99 rfl ?_
    refine go_iadd (pc := 101) dX7_reachedInts_101 ?_
    obtain ⟨b5, h⟩ := h
    refine gb_iald (pc := 102) (gz_b (by decide)) xw3 b5 dX7_reachedInts_102 (fun v4 ev4 => ?_)
    have h := h v4 ev4
    refine gq_callV_v (pc := 103) (F := wX G o) vX7_229 rfl (tX7_reach h) rfl rfl (gz_b (by decide)) xw65 rfl (Nat.le_of_ble_eq_true rfl) ⟨Nat.le_of_ble_eq_true rfl, Nat.le_of_ble_eq_true rfl, Nat.le_add_right _ _, Nat.le_add_right _ _⟩ dX7_reachedInts_103 (fun c6 h => ?_)
    refine go_iinc (pc := 106) (v := l6 + 1) (lv' := [(6, .int (l6 + 1)), (0, .ref (G.2.1 + 65)), (1, .int l1), (2, .int l2), (3, .int l3), (4, .int l4), (5, .int l5)]) dX7_reachedInts_106 6 rfl (by first | rfl | decide) (by decide) rfl ?_
    refine go_goto (pc := 109) (tgt := 82) dX7_reachedInts_109 (by decide) ?_
    refine go_lv [1, 2, 3, 4, 5, 6, 0] rfl ?_
    exact hP82 _ _ _ _ _ _ _ h
set_option maxRecDepth 100000 in
set_option maxHeartbeats 4000000 in
theorem tX7_reachedInts_p82 {l : Launch} {G : gG} {k : Nat} {o : gMem} {Q : Int32 → gMem → Prop} {P44 : Int32 → Int32 → gMem → Prop} (hP44 : ∀ (l1 : Int32) (l2 : Int32) (c : gMem), P44 l1 l2 c → Go l G mX7_reachedInts (gbq G 2 43 84 k (qi (wX G o) Q)) 44 [(0, .ref (G.2.1 + 65)), (1, .int l1), (2, .int l2)] [] 84 k (wX G o c)) {l1 : Int32} {l2 : Int32} {l3 : Int32} {l4 : Int32} {l5 : Int32} {l6 : Int32} {c : gMem} (h : wX7_reachedInts_p82 P44 l1 l2 l3 l4 l5 l6 c Q) : Go l G mX7_reachedInts (gbq G 2 43 84 k (qi (wX G o) Q)) 82 [(0, .ref (G.2.1 + 65)), (1, .int l1), (2, .int l2), (3, .int l3), (4, .int l4), (5, .int l5), (6, .int l6)] [] 84 k (wX G o c) :=
  h (fun l1 l2 l3 l4 l5 l6 c => Go l G mX7_reachedInts (gbq G 2 43 84 k (qi (wX G o) Q)) 82 [(0, .ref (G.2.1 + 65)), (1, .int l1), (2, .int l2), (3, .int l3), (4, .int l4), (5, .int l5), (6, .int l6)] [] 84 k (wX G o c)) (fun l1 l2 l3 l4 l5 l6 c hb => tX7_reachedInts_p82_b hP44 (fun l1 l2 l3 l4 l5 l6 c hh => hh) hb)
def wX7_reachedInts_p44_b (P44 : Int32 → Int32 → gMem → Prop) (l1 : Int32) (l2 : Int32) (c : gMem) (Q : Int32 → gMem → Prop) : Prop :=
  ∀ v1, v1 = c 65 8 →
  ((v1 ≤ l2 →
    Q l1 c) ∧
   (¬ v1 ≤ l2 →
    vp_in l2 500 ∧
    ∀ v3, v3 = c 68 l2.toNatClampNeg →
    wX2_linksOf v3 c (fun r6 c5 =>
    wX2_linkPlace v3 c5 (fun r8 c7 =>
    wX7_reachedInts_p82 P44 l1 l2 v3 r6 r8 0 c7 Q))))
def wX7_reachedInts_p44 (l1 : Int32) (l2 : Int32) (c : gMem) (Q : Int32 → gMem → Prop) : Prop :=
  ∀ P44 : Int32 → Int32 → gMem → Prop, (∀ (l1 : Int32) (l2 : Int32) (c : gMem), wX7_reachedInts_p44_b P44 l1 l2 c Q → P44 l1 l2 c) → P44 l1 l2 c
set_option maxRecDepth 100000 in
set_option maxHeartbeats 4000000 in
theorem tX7_reachedInts_p44_b {l : Launch} {G : gG} {k : Nat} {o : gMem} {Q : Int32 → gMem → Prop} {P44 : Int32 → Int32 → gMem → Prop} (hP44 : ∀ (l1 : Int32) (l2 : Int32) (c : gMem), P44 l1 l2 c → Go l G mX7_reachedInts (gbq G 2 43 84 k (qi (wX G o) Q)) 44 [(0, .ref (G.2.1 + 65)), (1, .int l1), (2, .int l2)] [] 84 k (wX G o c)) {l1 : Int32} {l2 : Int32} {c : gMem} (h : wX7_reachedInts_p44_b P44 l1 l2 c Q) : Go l G mX7_reachedInts (gbq G 2 43 84 k (qi (wX G o) Q)) 44 [(0, .ref (G.2.1 + 65)), (1, .int l1), (2, .int l2)] [] 84 k (wX G o c) := by
  unfold wX7_reachedInts_p44_b at h
  refine go_iload_n (pc := 44) dX7_reachedInts_44 rfl rfl ?_
  refine go_aload_n (pc := 45) dX7_reachedInts_45 rfl rfl ?_
  refine gb_get (pc := 46) fX7_226 rfl (gz_b (by decide)) xw65 rfl dX7_reachedInts_46 (fun v1 ev1 => ?_)
  have h := h v1 ev1
  refine go_icmp_ge (pc := 49) (tgt := 129) dX7_reachedInts_49 (by decide) (fun q2 => ?_) (fun q2 => ?_)
  · have h := h.1 q2
    refine go_iload_n (pc := 129) dX7_reachedInts_129 rfl rfl ?_
    exact gq_iret (pc := 130) (F := wX G o) rfl dX7_reachedInts_130 h
  · have h := h.2 q2
    refine go_aload_n (pc := 52) dX7_reachedInts_52 rfl rfl ?_
    refine go_get (pc := 53) fX7_18 rfl (gz_b (by decide)) xw65 rfl dX7_reachedInts_53 ?_
    refine go_iload_n (pc := 56) dX7_reachedInts_56 rfl rfl ?_
    obtain ⟨b4, h⟩ := h
    refine gb_iald (pc := 57) (gz_b (by decide)) xw68 b4 dX7_reachedInts_57 (fun v3 ev3 => ?_)
    have h := h v3 ev3
    refine go_istore_n (pc := 58) (lv' := [(3, .int v3), (0, .ref (G.2.1 + 65)), (1, .int l1), (2, .int l2)]) dX7_reachedInts_58 rfl (by decide) rfl ?_
    refine go_aload_n (pc := 59) dX7_reachedInts_59 rfl rfl ?_
    refine go_get (pc := 60) fX7_31 rfl (gz_b (by decide)) xw65 rfl dX7_reachedInts_60 ?_
    refine go_iload_n (pc := 63) dX7_reachedInts_63 rfl rfl ?_
    refine gq_callV_i (pc := 64) (F := wX G o) vX7_99 rfl (tX2_linksOf h) rfl rfl (gz_b (by decide)) xw2 rfl (Nat.le_of_ble_eq_true rfl) ⟨Nat.le_of_ble_eq_true rfl, Nat.le_of_ble_eq_true rfl, Nat.le_add_right _ _, Nat.le_add_right _ _⟩ dX7_reachedInts_64 (fun r6 c5 h => ?_)
    refine go_istore (pc := 67) (lv' := [(4, .int r6), (3, .int v3), (0, .ref (G.2.1 + 65)), (1, .int l1), (2, .int l2)]) dX7_reachedInts_67 (by decide) rfl ?_
    refine go_aload_n (pc := 69) dX7_reachedInts_69 rfl rfl ?_
    refine go_get (pc := 70) fX7_31 rfl (gz_b (by decide)) xw65 rfl dX7_reachedInts_70 ?_
    refine go_iload_n (pc := 73) dX7_reachedInts_73 rfl rfl ?_
    refine gq_callV_i (pc := 74) (F := wX G o) vX7_93 rfl (tX2_linkPlace h) rfl rfl (gz_b (by decide)) xw2 rfl (Nat.le_of_ble_eq_true rfl) ⟨Nat.le_of_ble_eq_true rfl, Nat.le_of_ble_eq_true rfl, Nat.le_add_right _ _, Nat.le_add_right _ _⟩ dX7_reachedInts_74 (fun r8 c7 h => ?_)
    refine go_istore (pc := 77) (lv' := [(5, .int r8), (4, .int r6), (3, .int v3), (0, .ref (G.2.1 + 65)), (1, .int l1), (2, .int l2)]) dX7_reachedInts_77 (by decide) rfl ?_
    refine go_iconst (pc := 79) (v := 0) dX7_reachedInts_79 (by decide) ?_
    refine go_istore (pc := 80) (lv' := [(6, .int 0), (5, .int r8), (4, .int r6), (3, .int v3), (0, .ref (G.2.1 + 65)), (1, .int l1), (2, .int l2)]) dX7_reachedInts_80 (by decide) rfl ?_
    refine go_lv [4, 5, 6, 3, 2, 1, 0] rfl ?_
    exact tX7_reachedInts_p82 hP44 h
set_option maxRecDepth 100000 in
set_option maxHeartbeats 4000000 in
theorem tX7_reachedInts_p44 {l : Launch} {G : gG} {k : Nat} {o : gMem} {Q : Int32 → gMem → Prop} {l1 : Int32} {l2 : Int32} {c : gMem} (h : wX7_reachedInts_p44 l1 l2 c Q) : Go l G mX7_reachedInts (gbq G 2 43 84 k (qi (wX G o) Q)) 44 [(0, .ref (G.2.1 + 65)), (1, .int l1), (2, .int l2)] [] 84 k (wX G o c) :=
  h (fun l1 l2 c => Go l G mX7_reachedInts (gbq G 2 43 84 k (qi (wX G o) Q)) 44 [(0, .ref (G.2.1 + 65)), (1, .int l1), (2, .int l2)] [] 84 k (wX G o c)) (fun l1 l2 c hb => tX7_reachedInts_p44_b (fun l1 l2 c hh => hh) hb)
def wX7_reachedInts_p15_b (P15 : Int32 → gMem → Prop) (l1 : Int32) (c : gMem) (Q : Int32 → gMem → Prop) : Prop :=
  ((24 ≤ l1 →
    wX7_reachedInts_p44 0 0 c Q) ∧
   (¬ 24 ≤ l1 →
    vp_in l1 24 ∧
    ∀ v2, v2 = c 20 l1.toNatClampNeg →
    wX7_reach v2 c (fun c4 =>
    P15 (l1 + 1) c4)))
def wX7_reachedInts_p15 (l1 : Int32) (c : gMem) (Q : Int32 → gMem → Prop) : Prop :=
  ∀ P15 : Int32 → gMem → Prop, (∀ (l1 : Int32) (c : gMem), wX7_reachedInts_p15_b P15 l1 c Q → P15 l1 c) → P15 l1 c
set_option maxRecDepth 100000 in
set_option maxHeartbeats 4000000 in
theorem tX7_reachedInts_p15_b {l : Launch} {G : gG} {k : Nat} {o : gMem} {Q : Int32 → gMem → Prop} {P15 : Int32 → gMem → Prop} (hP15 : ∀ (l1 : Int32) (c : gMem), P15 l1 c → Go l G mX7_reachedInts (gbq G 2 43 84 k (qi (wX G o) Q)) 15 [(0, .ref (G.2.1 + 65)), (1, .int l1)] [] 84 k (wX G o c)) {l1 : Int32} {c : gMem} (h : wX7_reachedInts_p15_b P15 l1 c Q) : Go l G mX7_reachedInts (gbq G 2 43 84 k (qi (wX G o) Q)) 15 [(0, .ref (G.2.1 + 65)), (1, .int l1)] [] 84 k (wX G o c) := by
  unfold wX7_reachedInts_p15_b at h
  refine go_iload_n (pc := 15) dX7_reachedInts_15 rfl rfl ?_
  refine go_bipush (pc := 16) (v := 24) dX7_reachedInts_16 (by decide) ?_
  refine go_icmp_ge (pc := 18) (tgt := 40) dX7_reachedInts_18 (by decide) (fun q1 => ?_) (fun q1 => ?_)
  · have h := h.1 q1
    refine go_iconst (pc := 40) (v := 0) dX7_reachedInts_40 (by decide) ?_
    refine go_istore_n (pc := 41) (lv' := [(1, .int 0), (0, .ref (G.2.1 + 65))]) dX7_reachedInts_41 rfl (by decide) rfl ?_
    refine go_iconst (pc := 42) (v := 0) dX7_reachedInts_42 (by decide) ?_
    refine go_istore_n (pc := 43) (lv' := [(2, .int 0), (1, .int 0), (0, .ref (G.2.1 + 65))]) dX7_reachedInts_43 rfl (by decide) rfl ?_
    refine go_lv [2, 1, 0] rfl ?_
    exact tX7_reachedInts_p44 h
  · have h := h.2 q1
    refine go_aload_n (pc := 21) dX7_reachedInts_21 rfl rfl ?_
    refine go_aload_n (pc := 22) dX7_reachedInts_22 rfl rfl ?_
    refine go_get (pc := 23) fX7_21 rfl (gz_b (by decide)) xw65 rfl dX7_reachedInts_23 ?_
    refine go_get (pc := 26) fX7_74 rfl (gz_b (by decide)) xw1 rfl dX7_reachedInts_26 ?_
    refine go_iload_n (pc := 29) dX7_reachedInts_29 rfl rfl ?_
    obtain ⟨b3, h⟩ := h
    refine gb_iald (pc := 30) (gz_b (by decide)) xw20 b3 dX7_reachedInts_30 (fun v2 ev2 => ?_)
    have h := h v2 ev2
    refine gq_callV_v (pc := 31) (F := wX G o) vX7_229 rfl (tX7_reach h) rfl rfl (gz_b (by decide)) xw65 rfl (Nat.le_of_ble_eq_true rfl) ⟨Nat.le_of_ble_eq_true rfl, Nat.le_of_ble_eq_true rfl, Nat.le_add_right _ _, Nat.le_add_right _ _⟩ dX7_reachedInts_31 (fun c4 h => ?_)
    refine go_iinc (pc := 34) (v := l1 + 1) (lv' := [(1, .int (l1 + 1)), (0, .ref (G.2.1 + 65))]) dX7_reachedInts_34 1 rfl (by first | rfl | decide) (by decide) rfl ?_
    refine go_goto (pc := 37) (tgt := 15) dX7_reachedInts_37 (by decide) ?_
    refine go_lv [1, 0] rfl ?_
    exact hP15 _ _ h
set_option maxRecDepth 100000 in
set_option maxHeartbeats 4000000 in
theorem tX7_reachedInts_p15 {l : Launch} {G : gG} {k : Nat} {o : gMem} {Q : Int32 → gMem → Prop} {l1 : Int32} {c : gMem} (h : wX7_reachedInts_p15 l1 c Q) : Go l G mX7_reachedInts (gbq G 2 43 84 k (qi (wX G o) Q)) 15 [(0, .ref (G.2.1 + 65)), (1, .int l1)] [] 84 k (wX G o c) :=
  h (fun l1 c => Go l G mX7_reachedInts (gbq G 2 43 84 k (qi (wX G o) Q)) 15 [(0, .ref (G.2.1 + 65)), (1, .int l1)] [] 84 k (wX G o c)) (fun l1 c hb => tX7_reachedInts_p15_b (fun l1 c hh => hh) hb)
def wX7_reachedInts (c : gMem) (Q : Int32 → gMem → Prop) : Prop :=
  ∀ c1, c1 = mr c 67 (fun _ => 0) →
  ∀ c2, c2 = mp c1 65 8 0 →
  wX7_reachedInts_p15 0 c2 Q
set_option maxRecDepth 100000 in
set_option maxHeartbeats 4000000 in
theorem tX7_reachedInts {l : Launch} {G : gG} {k : Nat} {o : gMem} {Q : Int32 → gMem → Prop} {c : gMem} (h : wX7_reachedInts c Q) : Cq l G mX7_reachedInts 2 43 [.ref (G.2.1 + 65)] 84 k (wX G o c) (qi (wX G o) Q) := by
  refine Cq.of (by decide) (Nat.le_of_ble_eq_true rfl) ?_
  show Go l G mX7_reachedInts (gbq G 2 43 84 k (qi (wX G o) Q)) 0 [(0, .ref (G.2.1 + 65))] [] 84 k (wX G o c)
  unfold wX7_reachedInts at h
  refine go_aload_n (pc := 0) dX7_reachedInts_0 rfl rfl ?_
  refine go_get (pc := 1) fX7_15 rfl (gz_b (by decide)) xw65 rfl dX7_reachedInts_1 ?_
  refine go_iconst (pc := 4) (v := 0) dX7_reachedInts_4 (by decide) ?_
  refine gq_callS_v (pc := 5) (F := wX G o) (Q := fun q => q = mr c 67 (fun _ => 0)) sX7_220 rfl (cq_fill (by decide) (gz_b (by decide)) xw67 xa67 rfl) rfl rfl (Nat.le_of_ble_eq_true rfl) ⟨Nat.le_of_ble_eq_true rfl, Nat.le_of_ble_eq_true rfl, Nat.le_add_right _ _, Nat.le_add_right _ _⟩ dX7_reachedInts_5 (fun c1 ec1 => ?_)
  have h := h c1 ec1
  refine go_aload_n (pc := 8) dX7_reachedInts_8 rfl rfl ?_
  refine go_iconst (pc := 9) (v := 0) dX7_reachedInts_9 (by decide) ?_
  refine gb_put (pc := 10) (F := wX G o) fX7_226 rfl (gz_b (by decide)) xw65 (Nat.le_of_ble_eq_true rfl) rfl rfl xp65_8 dX7_reachedInts_10 (fun c2 ec2 => ?_)
  have h := h c2 ec2
  refine go_iconst (pc := 13) (v := 0) dX7_reachedInts_13 (by decide) ?_
  refine go_istore_n (pc := 14) (lv' := [(1, .int 0), (0, .ref (G.2.1 + 65))]) dX7_reachedInts_14 rfl (by decide) rfl ?_
  refine go_lv [1, 0] rfl ?_
  exact tX7_reachedInts_p15 h
def wX0_makeCell_p109 (l1 : Int32) (l3 : Int32) (l4 : Int32) (c : gMem) (Q : Int32 → gMem → Prop) : Prop :=
  wX2_free c (fun r2 c1 =>
  ((l4 ≤ r2 →
    wX2_addCell l1 l3 c1 (fun r5 c4 =>
    wX7_mark r5 5 ((-1)) ((-1)) c4 (fun c6 =>
    Q r5 c6))) ∧
   (¬ l4 ≤ r2 →
    Q ((-16)) c1)))
set_option maxRecDepth 100000 in
set_option maxHeartbeats 4000000 in
theorem tX0_makeCell_p109 {l : Launch} {G : gG} {k : Nat} {o : gMem} {Q : Int32 → gMem → Prop} {l1 : Int32} {l3 : Int32} {l4 : Int32} {c : gMem} (h : wX0_makeCell_p109 l1 l3 l4 c Q) : Go l G mX0_makeCell (gbq G 6 130 84 k (qi (wX G o) Q)) 109 [(0, .ref (G.2.1 + 69)), (1, .int l1), (3, .int l3), (4, .int l4)] [] 84 k (wX G o c) := by
  unfold wX0_makeCell_p109 at h
  refine go_iload (pc := 109) dX0_makeCell_109 rfl ?_
  refine go_aload_n (pc := 111) dX0_makeCell_111 rfl rfl ?_
  refine go_get (pc := 112) fX0_21 rfl (gz_b (by decide)) xw69 rfl dX0_makeCell_112 ?_
  refine gq_callV_i (pc := 115) (F := wX G o) vX0_40 rfl (tX2_free h) rfl rfl (gz_b (by decide)) xw2 rfl (Nat.le_of_ble_eq_true rfl) ⟨Nat.le_of_ble_eq_true rfl, Nat.le_of_ble_eq_true rfl, Nat.le_add_right _ _, Nat.le_add_right _ _⟩ dX0_makeCell_115 (fun r2 c1 h => ?_)
  refine go_icmp_le (pc := 118) (tgt := 124) dX0_makeCell_118 (by decide) (fun q3 => ?_) (fun q3 => ?_)
  · have h := h.1 q3
    refine go_aload_n (pc := 124) dX0_makeCell_124 rfl rfl ?_
    refine go_get (pc := 125) fX0_21 rfl (gz_b (by decide)) xw69 rfl dX0_makeCell_125 ?_
    refine go_iload_n (pc := 128) dX0_makeCell_128 rfl rfl ?_
    refine go_iload_n (pc := 129) dX0_makeCell_129 rfl rfl ?_
    refine gq_callV_i (pc := 130) (F := wX G o) vX0_55 rfl (tX2_addCell h) rfl rfl (gz_b (by decide)) xw2 rfl (Nat.le_of_ble_eq_true rfl) ⟨Nat.le_of_ble_eq_true rfl, Nat.le_of_ble_eq_true rfl, Nat.le_add_right _ _, Nat.le_add_right _ _⟩ dX0_makeCell_130 (fun r5 c4 h => ?_)
    refine go_istore (pc := 133) (lv' := [(5, .int r5), (0, .ref (G.2.1 + 69)), (1, .int l1), (3, .int l3), (4, .int l4)]) dX0_makeCell_133 (by decide) rfl ?_
    refine go_aload_n (pc := 135) dX0_makeCell_135 rfl rfl ?_
    refine go_get (pc := 136) fX0_22 rfl (gz_b (by decide)) xw69 rfl dX0_makeCell_136 ?_
    refine go_iload (pc := 139) dX0_makeCell_139 rfl ?_
    refine go_iconst (pc := 141) (v := 5) dX0_makeCell_141 (by decide) ?_
    refine go_iconst (pc := 142) (v := (-1)) dX0_makeCell_142 (by decide) ?_
    refine go_iconst (pc := 143) (v := (-1)) dX0_makeCell_143 (by decide) ?_
    refine gq_callV_v (pc := 144) (F := wX G o) vX0_58 rfl (tX7_mark h) rfl rfl (gz_b (by decide)) xw65 rfl (Nat.le_of_ble_eq_true rfl) ⟨Nat.le_of_ble_eq_true rfl, Nat.le_of_ble_eq_true rfl, Nat.le_add_right _ _, Nat.le_add_right _ _⟩ dX0_makeCell_144 (fun c6 h => ?_)
    refine go_iload (pc := 147) dX0_makeCell_147 rfl ?_
    exact gq_iret (pc := 149) (F := wX G o) rfl dX0_makeCell_149 h
  · have h := h.2 q3
    refine go_bipush (pc := 121) (v := (-16)) dX0_makeCell_121 (by decide) ?_
    exact gq_iret (pc := 123) (F := wX G o) rfl dX0_makeCell_123 h
def wX0_makeCell_p78_b (P78 : Int32 → Int32 → Int32 → Int32 → gMem → Prop) (l1 : Int32) (l3 : Int32) (l4 : Int32) (l5 : Int32) (c : gMem) (Q : Int32 → gMem → Prop) : Prop :=
  ((2 ≤ l5 →
    wX0_makeCell_p109 l1 l3 l4 c Q) ∧
   (¬ 2 ≤ l5 →
    wX2_free c (fun r3 c2 =>
    ((l4 ≤ r3 →
      wX0_makeCell_p109 l1 l3 l4 c2 Q) ∧
     (¬ l4 ≤ r3 →
      wX7_finish c2 (fun c5 =>
      P78 l1 l3 l4 (l5 + 1) c5))))))
def wX0_makeCell_p78 (l1 : Int32) (l3 : Int32) (l4 : Int32) (l5 : Int32) (c : gMem) (Q : Int32 → gMem → Prop) : Prop :=
  ∀ P78 : Int32 → Int32 → Int32 → Int32 → gMem → Prop, (∀ (l1 : Int32) (l3 : Int32) (l4 : Int32) (l5 : Int32) (c : gMem), wX0_makeCell_p78_b P78 l1 l3 l4 l5 c Q → P78 l1 l3 l4 l5 c) → P78 l1 l3 l4 l5 c
set_option maxRecDepth 100000 in
set_option maxHeartbeats 4000000 in
theorem tX0_makeCell_p78_b {l : Launch} {G : gG} {k : Nat} {o : gMem} {Q : Int32 → gMem → Prop} {P78 : Int32 → Int32 → Int32 → Int32 → gMem → Prop} (hP78 : ∀ (l1 : Int32) (l3 : Int32) (l4 : Int32) (l5 : Int32) (c : gMem), P78 l1 l3 l4 l5 c → Go l G mX0_makeCell (gbq G 6 130 84 k (qi (wX G o) Q)) 78 [(0, .ref (G.2.1 + 69)), (1, .int l1), (3, .int l3), (4, .int l4), (5, .int l5)] [] 84 k (wX G o c)) {l1 : Int32} {l3 : Int32} {l4 : Int32} {l5 : Int32} {c : gMem} (h : wX0_makeCell_p78_b P78 l1 l3 l4 l5 c Q) : Go l G mX0_makeCell (gbq G 6 130 84 k (qi (wX G o) Q)) 78 [(0, .ref (G.2.1 + 69)), (1, .int l1), (3, .int l3), (4, .int l4), (5, .int l5)] [] 84 k (wX G o c) := by
  unfold wX0_makeCell_p78_b at h
  refine go_iload (pc := 78) dX0_makeCell_78 rfl ?_
  refine go_iconst (pc := 80) (v := 2) dX0_makeCell_80 (by decide) ?_
  refine go_icmp_ge (pc := 81) (tgt := 109) dX0_makeCell_81 (by decide) (fun q1 => ?_) (fun q1 => ?_)
  · have h := h.1 q1
    refine go_lv [0, 1, 2, 3] rfl ?_
    exact tX0_makeCell_p109 h
  · have h := h.2 q1
    refine go_iload (pc := 84) dX0_makeCell_84 rfl ?_
    refine go_aload_n (pc := 86) dX0_makeCell_86 rfl rfl ?_
    refine go_get (pc := 87) fX0_21 rfl (gz_b (by decide)) xw69 rfl dX0_makeCell_87 ?_
    refine gq_callV_i (pc := 90) (F := wX G o) vX0_40 rfl (tX2_free h) rfl rfl (gz_b (by decide)) xw2 rfl (Nat.le_of_ble_eq_true rfl) ⟨Nat.le_of_ble_eq_true rfl, Nat.le_of_ble_eq_true rfl, Nat.le_add_right _ _, Nat.le_add_right _ _⟩ dX0_makeCell_90 (fun r3 c2 h => ?_)
    refine go_icmp_le (pc := 93) (tgt := 109) dX0_makeCell_93 (by decide) (fun q4 => ?_) (fun q4 => ?_)
    · have h := h.1 q4
      refine go_lv [0, 1, 2, 3] rfl ?_
      exact tX0_makeCell_p109 h
    · have h := h.2 q4
      refine go_aload_n (pc := 96) dX0_makeCell_96 rfl rfl ?_
      refine go_get (pc := 97) fX0_22 rfl (gz_b (by decide)) xw69 rfl dX0_makeCell_97 ?_
      refine gq_callV_v (pc := 100) (F := wX G o) vX0_52 rfl (tX7_finish h) rfl rfl (gz_b (by decide)) xw65 rfl (Nat.le_of_ble_eq_true rfl) ⟨Nat.le_of_ble_eq_true rfl, Nat.le_of_ble_eq_true rfl, Nat.le_add_right _ _, Nat.le_add_right _ _⟩ dX0_makeCell_100 (fun c5 h => ?_)
      refine go_iinc (pc := 103) (v := l5 + 1) (lv' := [(5, .int (l5 + 1)), (0, .ref (G.2.1 + 69)), (1, .int l1), (3, .int l3), (4, .int l4)]) dX0_makeCell_103 4 rfl (by first | rfl | decide) (by decide) rfl ?_
      refine go_goto (pc := 106) (tgt := 78) dX0_makeCell_106 (by decide) ?_
      refine go_lv [1, 2, 3, 4, 0] rfl ?_
      exact hP78 _ _ _ _ _ h
set_option maxRecDepth 100000 in
set_option maxHeartbeats 4000000 in
theorem tX0_makeCell_p78 {l : Launch} {G : gG} {k : Nat} {o : gMem} {Q : Int32 → gMem → Prop} {l1 : Int32} {l3 : Int32} {l4 : Int32} {l5 : Int32} {c : gMem} (h : wX0_makeCell_p78 l1 l3 l4 l5 c Q) : Go l G mX0_makeCell (gbq G 6 130 84 k (qi (wX G o) Q)) 78 [(0, .ref (G.2.1 + 69)), (1, .int l1), (3, .int l3), (4, .int l4), (5, .int l5)] [] 84 k (wX G o c) :=
  h (fun l1 l3 l4 l5 c => Go l G mX0_makeCell (gbq G 6 130 84 k (qi (wX G o) Q)) 78 [(0, .ref (G.2.1 + 69)), (1, .int l1), (3, .int l3), (4, .int l4), (5, .int l5)] [] 84 k (wX G o c)) (fun l1 l3 l4 l5 c hb => tX0_makeCell_p78_b (fun l1 l3 l4 l5 c hh => hh) hb)
def wX0_makeCell_p75 (l1 : Int32) (l3 : Int32) (l4 : Int32) (c : gMem) (Q : Int32 → gMem → Prop) : Prop :=
  wX0_makeCell_p78 l1 l3 l4 0 c Q
set_option maxRecDepth 100000 in
set_option maxHeartbeats 4000000 in
theorem tX0_makeCell_p75 {l : Launch} {G : gG} {k : Nat} {o : gMem} {Q : Int32 → gMem → Prop} {l1 : Int32} {l3 : Int32} {l4 : Int32} {c : gMem} (h : wX0_makeCell_p75 l1 l3 l4 c Q) : Go l G mX0_makeCell (gbq G 6 130 84 k (qi (wX G o) Q)) 75 [(0, .ref (G.2.1 + 69)), (1, .int l1), (3, .int l3), (4, .int l4)] [] 84 k (wX G o c) := by
  unfold wX0_makeCell_p75 at h
  refine go_iconst (pc := 75) (v := 0) dX0_makeCell_75 (by decide) ?_
  refine go_istore (pc := 76) (lv' := [(5, .int 0), (0, .ref (G.2.1 + 69)), (1, .int l1), (3, .int l3), (4, .int l4)]) dX0_makeCell_76 (by decide) rfl ?_
  refine go_lv [1, 2, 3, 4, 0] rfl ?_
  exact tX0_makeCell_p78 h
def wX0_makeCell_p12 (l1 : Int32) (s0 : Int32) (c : gMem) (Q : Int32 → gMem → Prop) : Prop :=
  ((0 ≤ s0 →
    wX2_intsFor l1 s0 c (fun r3 c2 =>
    ∀ v4, v4 = c2 2 2 →
    ((500 ≤ v4 →
      Q ((-16)) c2) ∧
     (¬ 500 ≤ v4 →
      wX2_free c2 (fun r7 c6 =>
      ((r3 ≤ r7 →
        wX0_makeCell_p75 l1 s0 r3 c6 Q) ∧
       (¬ r3 ≤ r7 →
        ∀ v9, v9 = c6 2 0 →
        wX7_reachedInts c6 (fun r11 c10 =>
        ((r3 ≤ v9 - r11 →
          wX0_makeCell_p75 l1 s0 r3 c10 Q) ∧
         (¬ r3 ≤ v9 - r11 →
          Q ((-16)) c10)))))))))) ∧
   (¬ 0 ≤ s0 →
    Q ((-14)) c))
set_option maxRecDepth 100000 in
set_option maxHeartbeats 4000000 in
theorem tX0_makeCell_p12 {l : Launch} {G : gG} {k : Nat} {o : gMem} {Q : Int32 → gMem → Prop} {l1 : Int32} {s0 : Int32} {c : gMem} (h : wX0_makeCell_p12 l1 s0 c Q) : Go l G mX0_makeCell (gbq G 6 130 84 k (qi (wX G o) Q)) 12 [(0, .ref (G.2.1 + 69)), (1, .int l1)] [.int s0] 84 k (wX G o c) := by
  unfold wX0_makeCell_p12 at h
  refine go_istore_n (pc := 12) (lv' := [(3, .int s0), (0, .ref (G.2.1 + 69)), (1, .int l1)]) dX0_makeCell_12 rfl (by decide) rfl ?_
  refine go_iload_n (pc := 13) dX0_makeCell_13 rfl rfl ?_
  refine go_if_ge (pc := 14) (tgt := 20) dX0_makeCell_14 (by decide) (fun q1 => ?_) (fun q1 => ?_)
  · have h := h.1 q1
    refine go_iload_n (pc := 20) dX0_makeCell_20 rfl rfl ?_
    refine go_iload_n (pc := 21) dX0_makeCell_21 rfl rfl ?_
    refine gq_callS_i (pc := 22) (F := wX G o) sX0_32 rfl (tX2_intsFor h) rfl rfl (Nat.le_of_ble_eq_true rfl) ⟨Nat.le_of_ble_eq_true rfl, Nat.le_of_ble_eq_true rfl, Nat.le_add_right _ _, Nat.le_add_right _ _⟩ dX0_makeCell_22 (fun r3 c2 h => ?_)
    refine go_istore (pc := 25) (lv' := [(4, .int r3), (3, .int s0), (0, .ref (G.2.1 + 69)), (1, .int l1)]) dX0_makeCell_25 (by decide) rfl ?_
    refine go_aload_n (pc := 27) dX0_makeCell_27 rfl rfl ?_
    refine go_get (pc := 28) fX0_21 rfl (gz_b (by decide)) xw69 rfl dX0_makeCell_28 ?_
    refine gb_get (pc := 31) fX0_36 rfl (gz_b (by decide)) xw2 rfl dX0_makeCell_31 (fun v4 ev4 => ?_)
    have h := h v4 ev4
    refine go_sipush (pc := 34) (v := 500) dX0_makeCell_34 (by decide) ?_
    refine go_icmp_ge (pc := 37) (tgt := 72) dX0_makeCell_37 (by decide) (fun q5 => ?_) (fun q5 => ?_)
    · have h := h.1 q5
      refine go_bipush (pc := 72) (v := (-16)) dX0_makeCell_72 (by decide) ?_
      exact gq_iret (pc := 74) (F := wX G o) rfl dX0_makeCell_74 h
    · have h := h.2 q5
      refine go_iload (pc := 40) dX0_makeCell_40 rfl ?_
      refine go_aload_n (pc := 42) dX0_makeCell_42 rfl rfl ?_
      refine go_get (pc := 43) fX0_21 rfl (gz_b (by decide)) xw69 rfl dX0_makeCell_43 ?_
      refine gq_callV_i (pc := 46) (F := wX G o) vX0_40 rfl (tX2_free h) rfl rfl (gz_b (by decide)) xw2 rfl (Nat.le_of_ble_eq_true rfl) ⟨Nat.le_of_ble_eq_true rfl, Nat.le_of_ble_eq_true rfl, Nat.le_add_right _ _, Nat.le_add_right _ _⟩ dX0_makeCell_46 (fun r7 c6 h => ?_)
      refine go_icmp_le (pc := 49) (tgt := 75) dX0_makeCell_49 (by decide) (fun q8 => ?_) (fun q8 => ?_)
      · have h := h.1 q8
        refine go_lv [2, 3, 1, 0] rfl ?_
        exact tX0_makeCell_p75 h
      · have h := h.2 q8
        refine go_iload (pc := 52) dX0_makeCell_52 rfl ?_
        refine go_aload_n (pc := 54) dX0_makeCell_54 rfl rfl ?_
        refine go_get (pc := 55) fX0_21 rfl (gz_b (by decide)) xw69 rfl dX0_makeCell_55 ?_
        refine gb_get (pc := 58) fX0_44 rfl (gz_b (by decide)) xw2 rfl dX0_makeCell_58 (fun v9 ev9 => ?_)
        have h := h v9 ev9
        refine go_aload_n (pc := 61) dX0_makeCell_61 rfl rfl ?_
        refine go_get (pc := 62) fX0_22 rfl (gz_b (by decide)) xw69 rfl dX0_makeCell_62 ?_
        refine gq_callV_i (pc := 65) (F := wX G o) vX0_47 rfl (tX7_reachedInts h) rfl rfl (gz_b (by decide)) xw65 rfl (Nat.le_of_ble_eq_true rfl) ⟨Nat.le_of_ble_eq_true rfl, Nat.le_of_ble_eq_true rfl, Nat.le_add_right _ _, Nat.le_add_right _ _⟩ dX0_makeCell_65 (fun r11 c10 h => ?_)
        refine go_isub (pc := 68) dX0_makeCell_68 ?_
        refine go_icmp_le (pc := 69) (tgt := 75) dX0_makeCell_69 (by decide) (fun q12 => ?_) (fun q12 => ?_)
        · have h := h.1 q12
          refine go_lv [2, 3, 1, 0] rfl ?_
          exact tX0_makeCell_p75 h
        · have h := h.2 q12
          refine go_bipush (pc := 72) (v := (-16)) dX0_makeCell_72 (by decide) ?_
          exact gq_iret (pc := 74) (F := wX G o) rfl dX0_makeCell_74 h
  · have h := h.2 q1
    refine go_bipush (pc := 17) (v := (-14)) dX0_makeCell_17 (by decide) ?_
    exact gq_iret (pc := 19) (F := wX G o) rfl dX0_makeCell_19 h
def wX0_makeCell (l1 : Int32) (l2 : Int32) (c : gMem) (Q : Int32 → gMem → Prop) : Prop :=
  wX2_isCounted l1 c (fun r2 c1 =>
  ((r2 = 0 →
    wX0_makeCell_p12 l1 0 c1 Q) ∧
   (¬ r2 = 0 →
    wX0_makeCell_p12 l1 l2 c1 Q)))
set_option maxRecDepth 100000 in
set_option maxHeartbeats 4000000 in
theorem tX0_makeCell {l : Launch} {G : gG} {k : Nat} {o : gMem} {Q : Int32 → gMem → Prop} {l1 : Int32} {l2 : Int32} {c : gMem} (h : wX0_makeCell l1 l2 c Q) : Cq l G mX0_makeCell 6 130 [.ref (G.2.1 + 69), .int l1, .int l2] 84 k (wX G o c) (qi (wX G o) Q) := by
  refine Cq.of (by decide) (Nat.le_of_ble_eq_true rfl) ?_
  show Go l G mX0_makeCell (gbq G 6 130 84 k (qi (wX G o) Q)) 0 [(0, .ref (G.2.1 + 69)), (1, .int l1), (2, .int l2)] [] 84 k (wX G o c)
  unfold wX0_makeCell at h
  refine go_iload_n (pc := 0) dX0_makeCell_0 rfl rfl ?_
  refine gq_callS_i (pc := 1) (F := wX G o) sX0_26 rfl (tX2_isCounted h) rfl rfl (Nat.le_of_ble_eq_true rfl) ⟨Nat.le_of_ble_eq_true rfl, Nat.le_of_ble_eq_true rfl, Nat.le_add_right _ _, Nat.le_add_right _ _⟩ dX0_makeCell_1 (fun r2 c1 h => ?_)
  refine go_if_eq (pc := 4) (tgt := 11) dX0_makeCell_4 (by decide) (fun q3 => ?_) (fun q3 => ?_)
  · have h := h.1 q3
    refine go_iconst (pc := 11) (v := 0) dX0_makeCell_11 (by decide) ?_
    refine go_lv [0, 1] rfl ?_
    exact tX0_makeCell_p12 h
  · have h := h.2 q3
    refine go_iload_n (pc := 7) dX0_makeCell_7 rfl rfl ?_
    refine go_goto (pc := 8) (tgt := 12) dX0_makeCell_8 (by decide) ?_
    refine go_lv [0, 1] rfl ?_
    exact tX0_makeCell_p12 h
def wX9_findingIn (l0 : Int32) (c : gMem) (Q : Int32 → gMem → Prop) : Prop :=
  (((-11) < l0 →
    Q 0 c) ∧
   (¬ (-11) < l0 →
    ((l0 < (-18) →
      Q 0 c) ∧
     (¬ l0 < (-18) →
      Q (((-10)) - l0) c))))
set_option maxRecDepth 100000 in
set_option maxHeartbeats 4000000 in
theorem tX9_findingIn {l : Launch} {G : gG} {k : Nat} {o : gMem} {Q : Int32 → gMem → Prop} {l0 : Int32} {c : gMem} (h : wX9_findingIn l0 c Q) : Cq l G mX9_findingIn 0 0 [.int l0] 84 k (wX G o c) (qi (wX G o) Q) := by
  refine Cq.of (by decide) (Nat.le_of_ble_eq_true rfl) ?_
  show Go l G mX9_findingIn (gbq G 0 0 84 k (qi (wX G o) Q)) 0 [(0, .int l0)] [] 84 k (wX G o c)
  unfold wX9_findingIn at h
  refine go_iload_n (pc := 0) dX9_findingIn_0 rfl rfl ?_
  refine go_bipush (pc := 1) (v := (-11)) dX9_findingIn_1 (by decide) ?_
  refine go_icmp_gt (pc := 3) (tgt := 19) dX9_findingIn_3 (by decide) (fun q1 => ?_) (fun q1 => ?_)
  · have h := h.1 q1
    refine go_iconst (pc := 19) (v := 0) dX9_findingIn_19 (by decide) ?_
    exact gq_iret (pc := 20) (F := wX G o) rfl dX9_findingIn_20 h
  · have h := h.2 q1
    refine go_iload_n (pc := 6) dX9_findingIn_6 rfl rfl ?_
    refine go_bipush (pc := 7) (v := (-18)) dX9_findingIn_7 (by decide) ?_
    refine go_icmp_lt (pc := 9) (tgt := 19) dX9_findingIn_9 (by decide) (fun q2 => ?_) (fun q2 => ?_)
    · have h := h.1 q2
      refine go_iconst (pc := 19) (v := 0) dX9_findingIn_19 (by decide) ?_
      exact gq_iret (pc := 20) (F := wX G o) rfl dX9_findingIn_20 h
    · have h := h.2 q2
      refine go_bipush (pc := 12) (v := (-10)) dX9_findingIn_12 (by decide) ?_
      refine go_iload_n (pc := 14) dX9_findingIn_14 rfl rfl ?_
      refine go_isub (pc := 15) dX9_findingIn_15 ?_
      refine go_goto (pc := 16) (tgt := 20) dX9_findingIn_16 (by decide) ?_
      exact gq_iret (pc := 20) (F := wX G o) rfl dX9_findingIn_20 h
def wX9_answer (l1 : Int32) (c : gMem) (Q : Int32 → gMem → Prop) : Prop :=
  wX9_findingIn l1 c (fun r2 c1 =>
  ∀ c3, c3 = mp c1 0 5 r2 →
  Q l1 c3)
set_option maxRecDepth 100000 in
set_option maxHeartbeats 4000000 in
theorem tX9_answer {l : Launch} {G : gG} {k : Nat} {o : gMem} {Q : Int32 → gMem → Prop} {l1 : Int32} {c : gMem} (h : wX9_answer l1 c Q) : Cq l G mX9_answer 1 20 [.ref (G.2.1 + 0), .int l1] 84 k (wX G o c) (qi (wX G o) Q) := by
  refine Cq.of (by decide) (Nat.le_of_ble_eq_true rfl) ?_
  show Go l G mX9_answer (gbq G 1 20 84 k (qi (wX G o) Q)) 0 [(0, .ref (G.2.1 + 0)), (1, .int l1)] [] 84 k (wX G o c)
  unfold wX9_answer at h
  refine go_aload_n (pc := 0) dX9_answer_0 rfl rfl ?_
  refine go_iload_n (pc := 1) dX9_answer_1 rfl rfl ?_
  refine gq_callS_i (pc := 2) (F := wX G o) sX9_308 rfl (tX9_findingIn h) rfl rfl (Nat.le_of_ble_eq_true rfl) ⟨Nat.le_of_ble_eq_true rfl, Nat.le_of_ble_eq_true rfl, Nat.le_add_right _ _, Nat.le_add_right _ _⟩ dX9_answer_2 (fun r2 c1 h => ?_)
  refine gb_put (pc := 5) (F := wX G o) fX9_59 rfl (gz_b (by decide)) xw0 (Nat.le_of_ble_eq_true rfl) rfl rfl xp0_5 dX9_answer_5 (fun c3 ec3 => ?_)
  have h := h c3 ec3
  refine go_iload_n (pc := 8) dX9_answer_8 rfl rfl ?_
  exact gq_iret (pc := 9) (F := wX G o) rfl dX9_answer_9 h
def wX9_make (l1 : Int32) (l2 : Int32) (c : gMem) (Q : Int32 → gMem → Prop) : Prop :=
  wX9_isOutsideOfMaking l1 l2 c (fun r2 c1 =>
  ((r2 = 0 →
    wX0_makeCell l1 l2 c1 (fun r5 c4 =>
    wX9_answer r5 c4 (fun r7 c6 =>
    Q r7 c6))) ∧
   (¬ r2 = 0 →
    Q ((-102)) c1)))
set_option maxRecDepth 100000 in
set_option maxHeartbeats 4000000 in
theorem tX9_make {l : Launch} {G : gG} {k : Nat} {o : gMem} {Q : Int32 → gMem → Prop} {l1 : Int32} {l2 : Int32} {c : gMem} (h : wX9_make l1 l2 c Q) : Cq l G mX9_make 7 155 [.ref (G.2.1 + 0), .int l1, .int l2] 84 k (wX G o c) (qi (wX G o) Q) := by
  refine Cq.of (by decide) (Nat.le_of_ble_eq_true rfl) ?_
  show Go l G mX9_make (gbq G 7 155 84 k (qi (wX G o) Q)) 0 [(0, .ref (G.2.1 + 0)), (1, .int l1), (2, .int l2)] [] 84 k (wX G o c)
  unfold wX9_make at h
  refine go_iload_n (pc := 0) dX9_make_0 rfl rfl ?_
  refine go_iload_n (pc := 1) dX9_make_1 rfl rfl ?_
  refine gq_callS_i (pc := 2) (F := wX G o) sX9_72 rfl (tX9_isOutsideOfMaking h) rfl rfl (Nat.le_of_ble_eq_true rfl) ⟨Nat.le_of_ble_eq_true rfl, Nat.le_of_ble_eq_true rfl, Nat.le_add_right _ _, Nat.le_add_right _ _⟩ dX9_make_2 (fun r2 c1 h => ?_)
  refine go_if_eq (pc := 5) (tgt := 11) dX9_make_5 (by decide) (fun q3 => ?_) (fun q3 => ?_)
  · have h := h.1 q3
    refine go_aload_n (pc := 11) dX9_make_11 rfl rfl ?_
    refine go_aload_n (pc := 12) dX9_make_12 rfl rfl ?_
    refine go_get (pc := 13) fX9_40 rfl (gz_b (by decide)) xw0 rfl dX9_make_13 ?_
    refine go_iload_n (pc := 16) dX9_make_16 rfl rfl ?_
    refine go_iload_n (pc := 17) dX9_make_17 rfl rfl ?_
    refine gq_callV_i (pc := 18) (F := wX G o) vX9_76 rfl (tX0_makeCell h) rfl rfl (gz_b (by decide)) xw69 rfl (Nat.le_of_ble_eq_true rfl) ⟨Nat.le_of_ble_eq_true rfl, Nat.le_of_ble_eq_true rfl, Nat.le_add_right _ _, Nat.le_add_right _ _⟩ dX9_make_18 (fun r5 c4 h => ?_)
    refine gq_callV_i (pc := 21) (F := wX G o) vX9_80 rfl (tX9_answer h) rfl rfl (gz_b (by decide)) xw0 rfl (Nat.le_of_ble_eq_true rfl) ⟨Nat.le_of_ble_eq_true rfl, Nat.le_of_ble_eq_true rfl, Nat.le_add_right _ _, Nat.le_add_right _ _⟩ dX9_make_21 (fun r7 c6 h => ?_)
    exact gq_iret (pc := 24) (F := wX G o) rfl dX9_make_24 h
  · have h := h.2 q3
    refine go_bipush (pc := 8) (v := (-102)) dX9_make_8 (by decide) ?_
    exact gq_iret (pc := 10) (F := wX G o) rfl dX9_make_10 h
def wX2_wasMade (l1 : Int32) (c : gMem) (Q : Int32 → gMem → Prop) : Prop :=
  ((l1 < 0 →
    Q 0 c) ∧
   (¬ l1 < 0 →
    ∀ v2, v2 = c 2 2 →
    ((v2 ≤ l1 →
      Q 0 c) ∧
     (¬ v2 ≤ l1 →
      Q 1 c))))
set_option maxRecDepth 100000 in
set_option maxHeartbeats 4000000 in
theorem tX2_wasMade {l : Launch} {G : gG} {k : Nat} {o : gMem} {Q : Int32 → gMem → Prop} {l1 : Int32} {c : gMem} (h : wX2_wasMade l1 c Q) : Cq l G mX2_wasMade 0 0 [.ref (G.2.1 + 2), .int l1] 84 k (wX G o c) (qi (wX G o) Q) := by
  refine Cq.of (by decide) (Nat.le_of_ble_eq_true rfl) ?_
  show Go l G mX2_wasMade (gbq G 0 0 84 k (qi (wX G o) Q)) 0 [(0, .ref (G.2.1 + 2)), (1, .int l1)] [] 84 k (wX G o c)
  unfold wX2_wasMade at h
  refine go_iload_n (pc := 0) dX2_wasMade_0 rfl rfl ?_
  refine go_if_lt (pc := 1) (tgt := 16) dX2_wasMade_1 (by decide) (fun q1 => ?_) (fun q1 => ?_)
  · have h := h.1 q1
    refine go_iconst (pc := 16) (v := 0) dX2_wasMade_16 (by decide) ?_
    exact gq_zret (pc := 17) (F := wX G o) rfl (by decide) dX2_wasMade_17 h
  · have h := h.2 q1
    refine go_iload_n (pc := 4) dX2_wasMade_4 rfl rfl ?_
    refine go_aload_n (pc := 5) dX2_wasMade_5 rfl rfl ?_
    refine gb_get (pc := 6) fX2_29 rfl (gz_b (by decide)) xw2 rfl dX2_wasMade_6 (fun v2 ev2 => ?_)
    have h := h v2 ev2
    refine go_icmp_ge (pc := 9) (tgt := 16) dX2_wasMade_9 (by decide) (fun q3 => ?_) (fun q3 => ?_)
    · have h := h.1 q3
      refine go_iconst (pc := 16) (v := 0) dX2_wasMade_16 (by decide) ?_
      exact gq_zret (pc := 17) (F := wX G o) rfl (by decide) dX2_wasMade_17 h
    · have h := h.2 q3
      refine go_iconst (pc := 12) (v := 1) dX2_wasMade_12 (by decide) ?_
      refine go_goto (pc := 13) (tgt := 17) dX2_wasMade_13 (by decide) ?_
      exact gq_zret (pc := 17) (F := wX G o) rfl (by decide) dX2_wasMade_17 h
def wX9_kind_p48 (s0 : Int32) (c : gMem) (Q : Int32 → gMem → Prop) : Prop :=
  wX9_answer s0 c (fun r2 c1 =>
  Q r2 c1)
set_option maxRecDepth 100000 in
set_option maxHeartbeats 4000000 in
theorem tX9_kind_p48 {l : Launch} {G : gG} {k : Nat} {o : gMem} {Q : Int32 → gMem → Prop} {s0 : Int32} {c : gMem} (h : wX9_kind_p48 s0 c Q) : Go l G mX9_kind (gbq G 2 41 84 k (qi (wX G o) Q)) 48 [] [.int s0, .ref (G.2.1 + 0)] 84 k (wX G o c) := by
  unfold wX9_kind_p48 at h
  refine gq_callV_i (pc := 48) (F := wX G o) vX9_80 rfl (tX9_answer h) rfl rfl (gz_b (by decide)) xw0 rfl (Nat.le_of_ble_eq_true rfl) ⟨Nat.le_of_ble_eq_true rfl, Nat.le_of_ble_eq_true rfl, Nat.le_add_right _ _, Nat.le_add_right _ _⟩ dX9_kind_48 (fun r2 c1 h => ?_)
  exact gq_iret (pc := 51) (F := wX G o) rfl dX9_kind_51 h
def wX9_kind (l1 : Int32) (c : gMem) (Q : Int32 → gMem → Prop) : Prop :=
  wX2_wasMade l1 c (fun r2 c1 =>
  ((r2 = 0 →
    Q ((-101)) c1) ∧
   (¬ r2 = 0 →
    wX2_has l1 c1 (fun r5 c4 =>
    ((r5 = 0 →
      wX9_kind_p48 ((-11)) c4 Q) ∧
     (¬ r5 = 0 →
      wX2_kindOf l1 c4 (fun r8 c7 =>
      wX9_kind_p48 r8 c7 Q)))))))
set_option maxRecDepth 100000 in
set_option maxHeartbeats 4000000 in
theorem tX9_kind {l : Launch} {G : gG} {k : Nat} {o : gMem} {Q : Int32 → gMem → Prop} {l1 : Int32} {c : gMem} (h : wX9_kind l1 c Q) : Cq l G mX9_kind 2 41 [.ref (G.2.1 + 0), .int l1] 84 k (wX G o c) (qi (wX G o) Q) := by
  refine Cq.of (by decide) (Nat.le_of_ble_eq_true rfl) ?_
  show Go l G mX9_kind (gbq G 2 41 84 k (qi (wX G o) Q)) 0 [(0, .ref (G.2.1 + 0)), (1, .int l1)] [] 84 k (wX G o c)
  unfold wX9_kind at h
  refine go_aload_n (pc := 0) dX9_kind_0 rfl rfl ?_
  refine go_get (pc := 1) fX9_12 rfl (gz_b (by decide)) xw0 rfl dX9_kind_1 ?_
  refine go_get (pc := 4) fX9_84 rfl (gz_b (by decide)) xw1 rfl dX9_kind_4 ?_
  refine go_iload_n (pc := 7) dX9_kind_7 rfl rfl ?_
  refine gq_callV_i (pc := 8) (F := wX G o) vX9_88 rfl (tX2_wasMade h) rfl rfl (gz_b (by decide)) xw2 rfl (Nat.le_of_ble_eq_true rfl) ⟨Nat.le_of_ble_eq_true rfl, Nat.le_of_ble_eq_true rfl, Nat.le_add_right _ _, Nat.le_add_right _ _⟩ dX9_kind_8 (fun r2 c1 h => ?_)
  refine go_if_ne (pc := 11) (tgt := 17) dX9_kind_11 (by decide) (fun q3 => ?_) (fun q3 => ?_)
  · have h := h.2 q3
    refine go_aload_n (pc := 17) dX9_kind_17 rfl rfl ?_
    refine go_aload_n (pc := 18) dX9_kind_18 rfl rfl ?_
    refine go_get (pc := 19) fX9_12 rfl (gz_b (by decide)) xw0 rfl dX9_kind_19 ?_
    refine go_get (pc := 22) fX9_84 rfl (gz_b (by decide)) xw1 rfl dX9_kind_22 ?_
    refine go_iload_n (pc := 25) dX9_kind_25 rfl rfl ?_
    refine gq_callV_i (pc := 26) (F := wX G o) vX9_94 rfl (tX2_has h) rfl rfl (gz_b (by decide)) xw2 rfl (Nat.le_of_ble_eq_true rfl) ⟨Nat.le_of_ble_eq_true rfl, Nat.le_of_ble_eq_true rfl, Nat.le_add_right _ _, Nat.le_add_right _ _⟩ dX9_kind_26 (fun r5 c4 h => ?_)
    refine go_if_eq (pc := 29) (tgt := 46) dX9_kind_29 (by decide) (fun q6 => ?_) (fun q6 => ?_)
    · have h := h.1 q6
      refine go_bipush (pc := 46) (v := (-11)) dX9_kind_46 (by decide) ?_
      refine go_lv [] rfl ?_
      exact tX9_kind_p48 h
    · have h := h.2 q6
      refine go_aload_n (pc := 32) dX9_kind_32 rfl rfl ?_
      refine go_get (pc := 33) fX9_12 rfl (gz_b (by decide)) xw0 rfl dX9_kind_33 ?_
      refine go_get (pc := 36) fX9_84 rfl (gz_b (by decide)) xw1 rfl dX9_kind_36 ?_
      refine go_iload_n (pc := 39) dX9_kind_39 rfl rfl ?_
      refine gq_callV_i (pc := 40) (F := wX G o) vX9_97 rfl (tX2_kindOf h) rfl rfl (gz_b (by decide)) xw2 rfl (Nat.le_of_ble_eq_true rfl) ⟨Nat.le_of_ble_eq_true rfl, Nat.le_of_ble_eq_true rfl, Nat.le_add_right _ _, Nat.le_add_right _ _⟩ dX9_kind_40 (fun r8 c7 h => ?_)
      refine go_goto (pc := 43) (tgt := 48) dX9_kind_43 (by decide) ?_
      refine go_lv [] rfl ?_
      exact tX9_kind_p48 h
  · have h := h.1 q3
    refine go_bipush (pc := 14) (v := (-101)) dX9_kind_14 (by decide) ?_
    exact gq_iret (pc := 16) (F := wX G o) rfl dX9_kind_16 h
def wX9_place_p49 (s0 : Int32) (c : gMem) (Q : Int32 → gMem → Prop) : Prop :=
  wX9_answer s0 c (fun r2 c1 =>
  Q r2 c1)
set_option maxRecDepth 100000 in
set_option maxHeartbeats 4000000 in
theorem tX9_place_p49 {l : Launch} {G : gG} {k : Nat} {o : gMem} {Q : Int32 → gMem → Prop} {s0 : Int32} {c : gMem} (h : wX9_place_p49 s0 c Q) : Go l G mX9_place (gbq G 2 41 84 k (qi (wX G o) Q)) 49 [] [.int s0, .ref (G.2.1 + 0)] 84 k (wX G o c) := by
  unfold wX9_place_p49 at h
  refine gq_callV_i (pc := 49) (F := wX G o) vX9_80 rfl (tX9_answer h) rfl rfl (gz_b (by decide)) xw0 rfl (Nat.le_of_ble_eq_true rfl) ⟨Nat.le_of_ble_eq_true rfl, Nat.le_of_ble_eq_true rfl, Nat.le_add_right _ _, Nat.le_add_right _ _⟩ dX9_place_49 (fun r2 c1 h => ?_)
  exact gq_iret (pc := 52) (F := wX G o) rfl dX9_place_52 h
def wX9_place (l1 : Int32) (c : gMem) (Q : Int32 → gMem → Prop) : Prop :=
  wX2_wasMade l1 c (fun r2 c1 =>
  ((r2 = 0 →
    Q ((-101)) c1) ∧
   (¬ r2 = 0 →
    wX2_has l1 c1 (fun r5 c4 =>
    ((r5 = 0 →
      wX9_place_p49 ((-11)) c4 Q) ∧
     (¬ r5 = 0 →
      vp_in l1 500 ∧
      ∀ v7, v7 = c4 4 l1.toNatClampNeg →
      wX9_place_p49 v7 c4 Q))))))
set_option maxRecDepth 100000 in
set_option maxHeartbeats 4000000 in
theorem tX9_place {l : Launch} {G : gG} {k : Nat} {o : gMem} {Q : Int32 → gMem → Prop} {l1 : Int32} {c : gMem} (h : wX9_place l1 c Q) : Cq l G mX9_place 2 41 [.ref (G.2.1 + 0), .int l1] 84 k (wX G o c) (qi (wX G o) Q) := by
  refine Cq.of (by decide) (Nat.le_of_ble_eq_true rfl) ?_
  show Go l G mX9_place (gbq G 2 41 84 k (qi (wX G o) Q)) 0 [(0, .ref (G.2.1 + 0)), (1, .int l1)] [] 84 k (wX G o c)
  unfold wX9_place at h
  refine go_aload_n (pc := 0) dX9_place_0 rfl rfl ?_
  refine go_get (pc := 1) fX9_12 rfl (gz_b (by decide)) xw0 rfl dX9_place_1 ?_
  refine go_get (pc := 4) fX9_84 rfl (gz_b (by decide)) xw1 rfl dX9_place_4 ?_
  refine go_iload_n (pc := 7) dX9_place_7 rfl rfl ?_
  refine gq_callV_i (pc := 8) (F := wX G o) vX9_88 rfl (tX2_wasMade h) rfl rfl (gz_b (by decide)) xw2 rfl (Nat.le_of_ble_eq_true rfl) ⟨Nat.le_of_ble_eq_true rfl, Nat.le_of_ble_eq_true rfl, Nat.le_add_right _ _, Nat.le_add_right _ _⟩ dX9_place_8 (fun r2 c1 h => ?_)
  refine go_if_ne (pc := 11) (tgt := 17) dX9_place_11 (by decide) (fun q3 => ?_) (fun q3 => ?_)
  · have h := h.2 q3
    refine go_aload_n (pc := 17) dX9_place_17 rfl rfl ?_
    refine go_aload_n (pc := 18) dX9_place_18 rfl rfl ?_
    refine go_get (pc := 19) fX9_12 rfl (gz_b (by decide)) xw0 rfl dX9_place_19 ?_
    refine go_get (pc := 22) fX9_84 rfl (gz_b (by decide)) xw1 rfl dX9_place_22 ?_
    refine go_iload_n (pc := 25) dX9_place_25 rfl rfl ?_
    refine gq_callV_i (pc := 26) (F := wX G o) vX9_94 rfl (tX2_has h) rfl rfl (gz_b (by decide)) xw2 rfl (Nat.le_of_ble_eq_true rfl) ⟨Nat.le_of_ble_eq_true rfl, Nat.le_of_ble_eq_true rfl, Nat.le_add_right _ _, Nat.le_add_right _ _⟩ dX9_place_26 (fun r5 c4 h => ?_)
    refine go_if_eq (pc := 29) (tgt := 47) dX9_place_29 (by decide) (fun q6 => ?_) (fun q6 => ?_)
    · have h := h.1 q6
      refine go_bipush (pc := 47) (v := (-11)) dX9_place_47 (by decide) ?_
      refine go_lv [] rfl ?_
      exact tX9_place_p49 h
    · have h := h.2 q6
      refine go_aload_n (pc := 32) dX9_place_32 rfl rfl ?_
      refine go_get (pc := 33) fX9_12 rfl (gz_b (by decide)) xw0 rfl dX9_place_33 ?_
      refine go_get (pc := 36) fX9_84 rfl (gz_b (by decide)) xw1 rfl dX9_place_36 ?_
      refine go_get (pc := 39) fX9_100 rfl (gz_b (by decide)) xw2 rfl dX9_place_39 ?_
      refine go_iload_n (pc := 42) dX9_place_42 rfl rfl ?_
      obtain ⟨b8, h⟩ := h
      refine gb_iald (pc := 43) (gz_b (by decide)) xw4 b8 dX9_place_43 (fun v7 ev7 => ?_)
      have h := h v7 ev7
      refine go_goto (pc := 44) (tgt := 49) dX9_place_44 (by decide) ?_
      refine go_lv [] rfl ?_
      exact tX9_place_p49 h
  · have h := h.1 q3
    refine go_bipush (pc := 14) (v := (-101)) dX9_place_14 (by decide) ?_
    exact gq_iret (pc := 16) (F := wX G o) rfl dX9_place_16 h
def wX9_countBodies (l1 : Int32) (l2 : Int32) (c : gMem) (Q : gMem → Prop) : Prop :=
  vp_in l1 14 ∧
  ∀ v1, v1 = c 64 l1.toNatClampNeg →
  vp_in l1 14 ∧
  ∀ c3, c3 = mp c 64 l1.toNatClampNeg (v1 + 1) →
  ((l2 = (-1) →
    Q c3) ∧
   (¬ l2 = (-1) →
    vp_in l2 14 ∧
    ∀ v6, v6 = c3 64 l2.toNatClampNeg →
    vp_in l2 14 ∧
    ∀ c8, c8 = mp c3 64 l2.toNatClampNeg (v6 + 1) →
    Q c8))
set_option maxRecDepth 100000 in
set_option maxHeartbeats 4000000 in
theorem tX9_countBodies {l : Launch} {G : gG} {k : Nat} {o : gMem} {Q : gMem → Prop} {l1 : Int32} {l2 : Int32} {c : gMem} (h : wX9_countBodies l1 l2 c Q) : Cq l G mX9_countBodies 0 0 [.ref (G.2.1 + 0), .int l1, .int l2] 84 k (wX G o c) (qv (wX G o) Q) := by
  refine Cq.of (by decide) (Nat.le_of_ble_eq_true rfl) ?_
  show Go l G mX9_countBodies (gbq G 0 0 84 k (qv (wX G o) Q)) 0 [(0, .ref (G.2.1 + 0)), (1, .int l1), (2, .int l2)] [] 84 k (wX G o c)
  unfold wX9_countBodies at h
  refine go_aload_n (pc := 0) dX9_countBodies_0 rfl rfl ?_
  refine go_get (pc := 1) fX9_22 rfl (gz_b (by decide)) xw0 rfl dX9_countBodies_1 ?_
  refine go_iload_n (pc := 4) dX9_countBodies_4 rfl rfl ?_
  refine go_dup2 (pc := 5) dX9_countBodies_5 rfl rfl ?_
  obtain ⟨b2, h⟩ := h
  refine gb_iald (pc := 6) (gz_b (by decide)) xw64 b2 dX9_countBodies_6 (fun v1 ev1 => ?_)
  have h := h v1 ev1
  refine go_iconst (pc := 7) (v := 1) dX9_countBodies_7 (by decide) ?_
  refine go_iadd (pc := 8) dX9_countBodies_8 ?_
  obtain ⟨b4, h⟩ := h
  refine gb_iast (pc := 9) (F := wX G o) (gz_b (by decide)) xw64 b4 xa64 dX9_countBodies_9 (fun c3 ec3 => ?_)
  have h := h c3 ec3
  refine go_iload_n (pc := 10) dX9_countBodies_10 rfl rfl ?_
  refine go_iconst (pc := 11) (v := (-1)) dX9_countBodies_11 (by decide) ?_
  refine go_icmp_eq (pc := 12) (tgt := 25) dX9_countBodies_12 (by decide) (fun q5 => ?_) (fun q5 => ?_)
  · have h := h.1 q5
    exact gq_vret (pc := 25) (F := wX G o) rfl dX9_countBodies_25 h
  · have h := h.2 q5
    refine go_aload_n (pc := 15) dX9_countBodies_15 rfl rfl ?_
    refine go_get (pc := 16) fX9_22 rfl (gz_b (by decide)) xw0 rfl dX9_countBodies_16 ?_
    refine go_iload_n (pc := 19) dX9_countBodies_19 rfl rfl ?_
    refine go_dup2 (pc := 20) dX9_countBodies_20 rfl rfl ?_
    obtain ⟨b7, h⟩ := h
    refine gb_iald (pc := 21) (gz_b (by decide)) xw64 b7 dX9_countBodies_21 (fun v6 ev6 => ?_)
    have h := h v6 ev6
    refine go_iconst (pc := 22) (v := 1) dX9_countBodies_22 (by decide) ?_
    refine go_iadd (pc := 23) dX9_countBodies_23 ?_
    obtain ⟨b9, h⟩ := h
    refine gb_iast (pc := 24) (F := wX G o) (gz_b (by decide)) xw64 b9 xa64 dX9_countBodies_24 (fun c8 ec8 => ?_)
    have h := h c8 ec8
    exact gq_vret (pc := 25) (F := wX G o) rfl dX9_countBodies_25 h
def wX9_measure (l1 : Int32) (c : gMem) (Q : Int32 → gMem → Prop) : Prop :=
  wX2_wasMade l1 c (fun r2 c1 =>
  ((r2 = 0 →
    Q ((-101)) c1) ∧
   (¬ r2 = 0 →
    wX2_has l1 c1 (fun r5 c4 =>
    ((r5 = 0 →
      wX9_answer ((-11)) c4 (fun r19 c18 =>
      Q r19 c18)) ∧
     (¬ r5 = 0 →
      wX2_kindOf l1 c4 (fun r8 c7 =>
      vp_in r8 6 ∧
      ∀ v9, v9 = (gs_n 1).2.2.getD r8.toNatClampNeg 0 →
      vp_in r8 6 ∧
      ∀ v11, v11 = (gs_n 2).2.2.getD r8.toNatClampNeg 0 →
      wX9_countBodies v9 v11 c7 (fun c13 =>
      wX2_intsOf l1 c13 (fun r15 c14 =>
      wX9_answer r15 c14 (fun r17 c16 =>
      Q r17 c16))))))))))
set_option maxRecDepth 100000 in
set_option maxHeartbeats 4000000 in
theorem tX9_measure {l : Launch} {G : gG} {k : Nat} {o : gMem} {Q : Int32 → gMem → Prop} {l1 : Int32} {c : gMem} (h : wX9_measure l1 c Q) : Cq l G mX9_measure 2 43 [.ref (G.2.1 + 0), .int l1] 84 k (wX G o c) (qi (wX G o) Q) := by
  refine Cq.of (by decide) (Nat.le_of_ble_eq_true rfl) ?_
  show Go l G mX9_measure (gbq G 2 43 84 k (qi (wX G o) Q)) 0 [(0, .ref (G.2.1 + 0)), (1, .int l1)] [] 84 k (wX G o c)
  unfold wX9_measure at h
  refine go_aload_n (pc := 0) dX9_measure_0 rfl rfl ?_
  refine go_get (pc := 1) fX9_12 rfl (gz_b (by decide)) xw0 rfl dX9_measure_1 ?_
  refine go_get (pc := 4) fX9_84 rfl (gz_b (by decide)) xw1 rfl dX9_measure_4 ?_
  refine go_iload_n (pc := 7) dX9_measure_7 rfl rfl ?_
  refine gq_callV_i (pc := 8) (F := wX G o) vX9_88 rfl (tX2_wasMade h) rfl rfl (gz_b (by decide)) xw2 rfl (Nat.le_of_ble_eq_true rfl) ⟨Nat.le_of_ble_eq_true rfl, Nat.le_of_ble_eq_true rfl, Nat.le_add_right _ _, Nat.le_add_right _ _⟩ dX9_measure_8 (fun r2 c1 h => ?_)
  refine go_if_ne (pc := 11) (tgt := 17) dX9_measure_11 (by decide) (fun q3 => ?_) (fun q3 => ?_)
  · have h := h.2 q3
    refine go_aload_n (pc := 17) dX9_measure_17 rfl rfl ?_
    refine go_get (pc := 18) fX9_12 rfl (gz_b (by decide)) xw0 rfl dX9_measure_18 ?_
    refine go_get (pc := 21) fX9_84 rfl (gz_b (by decide)) xw1 rfl dX9_measure_21 ?_
    refine go_iload_n (pc := 24) dX9_measure_24 rfl rfl ?_
    refine gq_callV_i (pc := 25) (F := wX G o) vX9_94 rfl (tX2_has h) rfl rfl (gz_b (by decide)) xw2 rfl (Nat.le_of_ble_eq_true rfl) ⟨Nat.le_of_ble_eq_true rfl, Nat.le_of_ble_eq_true rfl, Nat.le_add_right _ _, Nat.le_add_right _ _⟩ dX9_measure_25 (fun r5 c4 h => ?_)
    refine go_if_ne (pc := 28) (tgt := 38) dX9_measure_28 (by decide) (fun q6 => ?_) (fun q6 => ?_)
    · have h := h.2 q6
      refine go_aload_n (pc := 38) dX9_measure_38 rfl rfl ?_
      refine go_get (pc := 39) fX9_12 rfl (gz_b (by decide)) xw0 rfl dX9_measure_39 ?_
      refine go_get (pc := 42) fX9_84 rfl (gz_b (by decide)) xw1 rfl dX9_measure_42 ?_
      refine go_iload_n (pc := 45) dX9_measure_45 rfl rfl ?_
      refine gq_callV_i (pc := 46) (F := wX G o) vX9_97 rfl (tX2_kindOf h) rfl rfl (gz_b (by decide)) xw2 rfl (Nat.le_of_ble_eq_true rfl) ⟨Nat.le_of_ble_eq_true rfl, Nat.le_of_ble_eq_true rfl, Nat.le_add_right _ _, Nat.le_add_right _ _⟩ dX9_measure_46 (fun r8 c7 h => ?_)
      refine go_istore_n (pc := 49) (lv' := [(2, .int r8), (0, .ref (G.2.1 + 0)), (1, .int l1)]) dX9_measure_49 rfl (by decide) rfl ?_
      refine go_aload_n (pc := 50) dX9_measure_50 rfl rfl ?_
      refine go_gets (pc := 51) (i := 1) (by decide) rfl tX9_103 dX9_measure_51 ?_
      refine go_iload_n (pc := 54) dX9_measure_54 rfl rfl ?_
      obtain ⟨b10, h⟩ := h
      refine gb_tald (pc := 55) (i := 1) (by decide) b10 dX9_measure_55 (fun v9 ev9 => ?_)
      have h := h v9 ev9
      refine go_gets (pc := 56) (i := 2) (by decide) rfl tX9_106 dX9_measure_56 ?_
      refine go_iload_n (pc := 59) dX9_measure_59 rfl rfl ?_
      obtain ⟨b12, h⟩ := h
      refine gb_tald (pc := 60) (i := 2) (by decide) b12 dX9_measure_60 (fun v11 ev11 => ?_)
      have h := h v11 ev11
      refine gq_callV_v (pc := 61) (F := wX G o) vX9_109 rfl (tX9_countBodies h) rfl rfl (gz_b (by decide)) xw0 rfl (Nat.le_of_ble_eq_true rfl) ⟨Nat.le_of_ble_eq_true rfl, Nat.le_of_ble_eq_true rfl, Nat.le_add_right _ _, Nat.le_add_right _ _⟩ dX9_measure_61 (fun c13 h => ?_)
      refine go_aload_n (pc := 64) dX9_measure_64 rfl rfl ?_
      refine go_aload_n (pc := 65) dX9_measure_65 rfl rfl ?_
      refine go_get (pc := 66) fX9_12 rfl (gz_b (by decide)) xw0 rfl dX9_measure_66 ?_
      refine go_get (pc := 69) fX9_84 rfl (gz_b (by decide)) xw1 rfl dX9_measure_69 ?_
      refine go_iload_n (pc := 72) dX9_measure_72 rfl rfl ?_
      refine gq_callV_i (pc := 73) (F := wX G o) vX9_113 rfl (tX2_intsOf h) rfl rfl (gz_b (by decide)) xw2 rfl (Nat.le_of_ble_eq_true rfl) ⟨Nat.le_of_ble_eq_true rfl, Nat.le_of_ble_eq_true rfl, Nat.le_add_right _ _, Nat.le_add_right _ _⟩ dX9_measure_73 (fun r15 c14 h => ?_)
      refine gq_callV_i (pc := 76) (F := wX G o) vX9_80 rfl (tX9_answer h) rfl rfl (gz_b (by decide)) xw0 rfl (Nat.le_of_ble_eq_true rfl) ⟨Nat.le_of_ble_eq_true rfl, Nat.le_of_ble_eq_true rfl, Nat.le_add_right _ _, Nat.le_add_right _ _⟩ dX9_measure_76 (fun r17 c16 h => ?_)
      exact gq_iret (pc := 79) (F := wX G o) rfl dX9_measure_79 h
    · have h := h.1 q6
      refine go_aload_n (pc := 31) dX9_measure_31 rfl rfl ?_
      refine go_bipush (pc := 32) (v := (-11)) dX9_measure_32 (by decide) ?_
      refine gq_callV_i (pc := 34) (F := wX G o) vX9_80 rfl (tX9_answer h) rfl rfl (gz_b (by decide)) xw0 rfl (Nat.le_of_ble_eq_true rfl) ⟨Nat.le_of_ble_eq_true rfl, Nat.le_of_ble_eq_true rfl, Nat.le_add_right _ _, Nat.le_add_right _ _⟩ dX9_measure_34 (fun r19 c18 h => ?_)
      exact gq_iret (pc := 37) (F := wX G o) rfl dX9_measure_37 h
  · have h := h.1 q3
    refine go_bipush (pc := 14) (v := (-101)) dX9_measure_14 (by decide) ?_
    exact gq_iret (pc := 16) (F := wX G o) rfl dX9_measure_16 h
def wX9_links (l1 : Int32) (c : gMem) (Q : Int32 → gMem → Prop) : Prop :=
  wX2_wasMade l1 c (fun r2 c1 =>
  ((r2 = 0 →
    Q ((-101)) c1) ∧
   (¬ r2 = 0 →
    wX2_has l1 c1 (fun r5 c4 =>
    ((r5 = 0 →
      wX9_answer ((-11)) c4 (fun r19 c18 =>
      Q r19 c18)) ∧
     (¬ r5 = 0 →
      wX2_kindOf l1 c4 (fun r8 c7 =>
      vp_in r8 6 ∧
      ∀ v9, v9 = (gs_n 3).2.2.getD r8.toNatClampNeg 0 →
      vp_in r8 6 ∧
      ∀ v11, v11 = (gs_n 4).2.2.getD r8.toNatClampNeg 0 →
      wX9_countBodies v9 v11 c7 (fun c13 =>
      wX2_linksOf l1 c13 (fun r15 c14 =>
      wX9_answer r15 c14 (fun r17 c16 =>
      Q r17 c16))))))))))
set_option maxRecDepth 100000 in
set_option maxHeartbeats 4000000 in
theorem tX9_links {l : Launch} {G : gG} {k : Nat} {o : gMem} {Q : Int32 → gMem → Prop} {l1 : Int32} {c : gMem} (h : wX9_links l1 c Q) : Cq l G mX9_links 2 41 [.ref (G.2.1 + 0), .int l1] 84 k (wX G o c) (qi (wX G o) Q) := by
  refine Cq.of (by decide) (Nat.le_of_ble_eq_true rfl) ?_
  show Go l G mX9_links (gbq G 2 41 84 k (qi (wX G o) Q)) 0 [(0, .ref (G.2.1 + 0)), (1, .int l1)] [] 84 k (wX G o c)
  unfold wX9_links at h
  refine go_aload_n (pc := 0) dX9_links_0 rfl rfl ?_
  refine go_get (pc := 1) fX9_12 rfl (gz_b (by decide)) xw0 rfl dX9_links_1 ?_
  refine go_get (pc := 4) fX9_84 rfl (gz_b (by decide)) xw1 rfl dX9_links_4 ?_
  refine go_iload_n (pc := 7) dX9_links_7 rfl rfl ?_
  refine gq_callV_i (pc := 8) (F := wX G o) vX9_88 rfl (tX2_wasMade h) rfl rfl (gz_b (by decide)) xw2 rfl (Nat.le_of_ble_eq_true rfl) ⟨Nat.le_of_ble_eq_true rfl, Nat.le_of_ble_eq_true rfl, Nat.le_add_right _ _, Nat.le_add_right _ _⟩ dX9_links_8 (fun r2 c1 h => ?_)
  refine go_if_ne (pc := 11) (tgt := 17) dX9_links_11 (by decide) (fun q3 => ?_) (fun q3 => ?_)
  · have h := h.2 q3
    refine go_aload_n (pc := 17) dX9_links_17 rfl rfl ?_
    refine go_get (pc := 18) fX9_12 rfl (gz_b (by decide)) xw0 rfl dX9_links_18 ?_
    refine go_get (pc := 21) fX9_84 rfl (gz_b (by decide)) xw1 rfl dX9_links_21 ?_
    refine go_iload_n (pc := 24) dX9_links_24 rfl rfl ?_
    refine gq_callV_i (pc := 25) (F := wX G o) vX9_94 rfl (tX2_has h) rfl rfl (gz_b (by decide)) xw2 rfl (Nat.le_of_ble_eq_true rfl) ⟨Nat.le_of_ble_eq_true rfl, Nat.le_of_ble_eq_true rfl, Nat.le_add_right _ _, Nat.le_add_right _ _⟩ dX9_links_25 (fun r5 c4 h => ?_)
    refine go_if_ne (pc := 28) (tgt := 38) dX9_links_28 (by decide) (fun q6 => ?_) (fun q6 => ?_)
    · have h := h.2 q6
      refine go_aload_n (pc := 38) dX9_links_38 rfl rfl ?_
      refine go_get (pc := 39) fX9_12 rfl (gz_b (by decide)) xw0 rfl dX9_links_39 ?_
      refine go_get (pc := 42) fX9_84 rfl (gz_b (by decide)) xw1 rfl dX9_links_42 ?_
      refine go_iload_n (pc := 45) dX9_links_45 rfl rfl ?_
      refine gq_callV_i (pc := 46) (F := wX G o) vX9_97 rfl (tX2_kindOf h) rfl rfl (gz_b (by decide)) xw2 rfl (Nat.le_of_ble_eq_true rfl) ⟨Nat.le_of_ble_eq_true rfl, Nat.le_of_ble_eq_true rfl, Nat.le_add_right _ _, Nat.le_add_right _ _⟩ dX9_links_46 (fun r8 c7 h => ?_)
      refine go_istore_n (pc := 49) (lv' := [(2, .int r8), (0, .ref (G.2.1 + 0)), (1, .int l1)]) dX9_links_49 rfl (by decide) rfl ?_
      refine go_aload_n (pc := 50) dX9_links_50 rfl rfl ?_
      refine go_gets (pc := 51) (i := 3) (by decide) rfl tX9_116 dX9_links_51 ?_
      refine go_iload_n (pc := 54) dX9_links_54 rfl rfl ?_
      obtain ⟨b10, h⟩ := h
      refine gb_tald (pc := 55) (i := 3) (by decide) b10 dX9_links_55 (fun v9 ev9 => ?_)
      have h := h v9 ev9
      refine go_gets (pc := 56) (i := 4) (by decide) rfl tX9_119 dX9_links_56 ?_
      refine go_iload_n (pc := 59) dX9_links_59 rfl rfl ?_
      obtain ⟨b12, h⟩ := h
      refine gb_tald (pc := 60) (i := 4) (by decide) b12 dX9_links_60 (fun v11 ev11 => ?_)
      have h := h v11 ev11
      refine gq_callV_v (pc := 61) (F := wX G o) vX9_109 rfl (tX9_countBodies h) rfl rfl (gz_b (by decide)) xw0 rfl (Nat.le_of_ble_eq_true rfl) ⟨Nat.le_of_ble_eq_true rfl, Nat.le_of_ble_eq_true rfl, Nat.le_add_right _ _, Nat.le_add_right _ _⟩ dX9_links_61 (fun c13 h => ?_)
      refine go_aload_n (pc := 64) dX9_links_64 rfl rfl ?_
      refine go_aload_n (pc := 65) dX9_links_65 rfl rfl ?_
      refine go_get (pc := 66) fX9_12 rfl (gz_b (by decide)) xw0 rfl dX9_links_66 ?_
      refine go_get (pc := 69) fX9_84 rfl (gz_b (by decide)) xw1 rfl dX9_links_69 ?_
      refine go_iload_n (pc := 72) dX9_links_72 rfl rfl ?_
      refine gq_callV_i (pc := 73) (F := wX G o) vX9_122 rfl (tX2_linksOf h) rfl rfl (gz_b (by decide)) xw2 rfl (Nat.le_of_ble_eq_true rfl) ⟨Nat.le_of_ble_eq_true rfl, Nat.le_of_ble_eq_true rfl, Nat.le_add_right _ _, Nat.le_add_right _ _⟩ dX9_links_73 (fun r15 c14 h => ?_)
      refine gq_callV_i (pc := 76) (F := wX G o) vX9_80 rfl (tX9_answer h) rfl rfl (gz_b (by decide)) xw0 rfl (Nat.le_of_ble_eq_true rfl) ⟨Nat.le_of_ble_eq_true rfl, Nat.le_of_ble_eq_true rfl, Nat.le_add_right _ _, Nat.le_add_right _ _⟩ dX9_links_76 (fun r17 c16 h => ?_)
      exact gq_iret (pc := 79) (F := wX G o) rfl dX9_links_79 h
    · have h := h.1 q6
      refine go_aload_n (pc := 31) dX9_links_31 rfl rfl ?_
      refine go_bipush (pc := 32) (v := (-11)) dX9_links_32 (by decide) ?_
      refine gq_callV_i (pc := 34) (F := wX G o) vX9_80 rfl (tX9_answer h) rfl rfl (gz_b (by decide)) xw0 rfl (Nat.le_of_ble_eq_true rfl) ⟨Nat.le_of_ble_eq_true rfl, Nat.le_of_ble_eq_true rfl, Nat.le_add_right _ _, Nat.le_add_right _ _⟩ dX9_links_34 (fun r19 c18 h => ?_)
      exact gq_iret (pc := 37) (F := wX G o) rfl dX9_links_37 h
  · have h := h.1 q3
    refine go_bipush (pc := 14) (v := (-101)) dX9_links_14 (by decide) ?_
    exact gq_iret (pc := 16) (F := wX G o) rfl dX9_links_16 h
def wX9_isUnknownTarget (l1 : Int32) (c : gMem) (Q : Int32 → gMem → Prop) : Prop :=
  ((l1 = (-1) →
    Q 0 c) ∧
   (¬ l1 = (-1) →
    wX2_wasMade l1 c (fun r3 c2 =>
    ((r3 = 0 →
      Q 1 c2) ∧
     (¬ r3 = 0 →
      Q 0 c2)))))
set_option maxRecDepth 100000 in
set_option maxHeartbeats 4000000 in
theorem tX9_isUnknownTarget {l : Launch} {G : gG} {k : Nat} {o : gMem} {Q : Int32 → gMem → Prop} {l1 : Int32} {c : gMem} (h : wX9_isUnknownTarget l1 c Q) : Cq l G mX9_isUnknownTarget 1 21 [.ref (G.2.1 + 0), .int l1] 84 k (wX G o c) (qi (wX G o) Q) := by
  refine Cq.of (by decide) (Nat.le_of_ble_eq_true rfl) ?_
  show Go l G mX9_isUnknownTarget (gbq G 1 21 84 k (qi (wX G o) Q)) 0 [(0, .ref (G.2.1 + 0)), (1, .int l1)] [] 84 k (wX G o c)
  unfold wX9_isUnknownTarget at h
  refine go_iload_n (pc := 0) dX9_isUnknownTarget_0 rfl rfl ?_
  refine go_iconst (pc := 1) (v := (-1)) dX9_isUnknownTarget_1 (by decide) ?_
  refine go_icmp_eq (pc := 2) (tgt := 23) dX9_isUnknownTarget_2 (by decide) (fun q1 => ?_) (fun q1 => ?_)
  · have h := h.1 q1
    refine go_iconst (pc := 23) (v := 0) dX9_isUnknownTarget_23 (by decide) ?_
    exact gq_zret (pc := 24) (F := wX G o) rfl (by decide) dX9_isUnknownTarget_24 h
  · have h := h.2 q1
    refine go_aload_n (pc := 5) dX9_isUnknownTarget_5 rfl rfl ?_
    refine go_get (pc := 6) fX9_12 rfl (gz_b (by decide)) xw0 rfl dX9_isUnknownTarget_6 ?_
    refine go_get (pc := 9) fX9_84 rfl (gz_b (by decide)) xw1 rfl dX9_isUnknownTarget_9 ?_
    refine go_iload_n (pc := 12) dX9_isUnknownTarget_12 rfl rfl ?_
    refine gq_callV_i (pc := 13) (F := wX G o) vX9_88 rfl (tX2_wasMade h) rfl rfl (gz_b (by decide)) xw2 rfl (Nat.le_of_ble_eq_true rfl) ⟨Nat.le_of_ble_eq_true rfl, Nat.le_of_ble_eq_true rfl, Nat.le_add_right _ _, Nat.le_add_right _ _⟩ dX9_isUnknownTarget_13 (fun r3 c2 h => ?_)
    refine go_if_ne (pc := 16) (tgt := 23) dX9_isUnknownTarget_16 (by decide) (fun q4 => ?_) (fun q4 => ?_)
    · have h := h.2 q4
      refine go_iconst (pc := 23) (v := 0) dX9_isUnknownTarget_23 (by decide) ?_
      exact gq_zret (pc := 24) (F := wX G o) rfl (by decide) dX9_isUnknownTarget_24 h
    · have h := h.1 q4
      refine go_iconst (pc := 19) (v := 1) dX9_isUnknownTarget_19 (by decide) ?_
      refine go_goto (pc := 20) (tgt := 24) dX9_isUnknownTarget_20 (by decide) ?_
      exact gq_zret (pc := 24) (F := wX G o) rfl (by decide) dX9_isUnknownTarget_24 h
def wX0_wrongForLinks (l1 : Int32) (c : gMem) (Q : Int32 → gMem → Prop) : Prop :=
  wX2_has l1 c (fun r2 c1 =>
  ((r2 = 0 →
    Q ((-11)) c1) ∧
   (¬ r2 = 0 →
    wX2_isA 2 l1 c1 (fun r5 c4 =>
    ((r5 = 0 →
      Q 0 c4) ∧
     (¬ r5 = 0 →
      Q ((-13)) c4))))))
set_option maxRecDepth 100000 in
set_option maxHeartbeats 4000000 in
theorem tX0_wrongForLinks {l : Launch} {G : gG} {k : Nat} {o : gMem} {Q : Int32 → gMem → Prop} {l1 : Int32} {c : gMem} (h : wX0_wrongForLinks l1 c Q) : Cq l G mX0_wrongForLinks 1 22 [.ref (G.2.1 + 69), .int l1] 84 k (wX G o c) (qi (wX G o) Q) := by
  refine Cq.of (by decide) (Nat.le_of_ble_eq_true rfl) ?_
  show Go l G mX0_wrongForLinks (gbq G 1 22 84 k (qi (wX G o) Q)) 0 [(0, .ref (G.2.1 + 69)), (1, .int l1)] [] 84 k (wX G o c)
  unfold wX0_wrongForLinks at h
  refine go_aload_n (pc := 0) dX0_wrongForLinks_0 rfl rfl ?_
  refine go_get (pc := 1) fX0_21 rfl (gz_b (by decide)) xw69 rfl dX0_wrongForLinks_1 ?_
  refine go_iload_n (pc := 4) dX0_wrongForLinks_4 rfl rfl ?_
  refine gq_callV_i (pc := 5) (F := wX G o) vX0_62 rfl (tX2_has h) rfl rfl (gz_b (by decide)) xw2 rfl (Nat.le_of_ble_eq_true rfl) ⟨Nat.le_of_ble_eq_true rfl, Nat.le_of_ble_eq_true rfl, Nat.le_add_right _ _, Nat.le_add_right _ _⟩ dX0_wrongForLinks_5 (fun r2 c1 h => ?_)
  refine go_if_ne (pc := 8) (tgt := 14) dX0_wrongForLinks_8 (by decide) (fun q3 => ?_) (fun q3 => ?_)
  · have h := h.2 q3
    refine go_aload_n (pc := 14) dX0_wrongForLinks_14 rfl rfl ?_
    refine go_get (pc := 15) fX0_21 rfl (gz_b (by decide)) xw69 rfl dX0_wrongForLinks_15 ?_
    refine go_iconst (pc := 18) (v := 2) dX0_wrongForLinks_18 (by decide) ?_
    refine go_iload_n (pc := 19) dX0_wrongForLinks_19 rfl rfl ?_
    refine gq_callV_i (pc := 20) (F := wX G o) vX0_65 rfl (tX2_isA h) rfl rfl (gz_b (by decide)) xw2 rfl (Nat.le_of_ble_eq_true rfl) ⟨Nat.le_of_ble_eq_true rfl, Nat.le_of_ble_eq_true rfl, Nat.le_add_right _ _, Nat.le_add_right _ _⟩ dX0_wrongForLinks_20 (fun r5 c4 h => ?_)
    refine go_if_eq (pc := 23) (tgt := 31) dX0_wrongForLinks_23 (by decide) (fun q6 => ?_) (fun q6 => ?_)
    · have h := h.1 q6
      refine go_iconst (pc := 31) (v := 0) dX0_wrongForLinks_31 (by decide) ?_
      exact gq_iret (pc := 32) (F := wX G o) rfl dX0_wrongForLinks_32 h
    · have h := h.2 q6
      refine go_bipush (pc := 26) (v := (-13)) dX0_wrongForLinks_26 (by decide) ?_
      refine go_goto (pc := 28) (tgt := 32) dX0_wrongForLinks_28 (by decide) ?_
      exact gq_iret (pc := 32) (F := wX G o) rfl dX0_wrongForLinks_32 h
  · have h := h.1 q3
    refine go_bipush (pc := 11) (v := (-11)) dX0_wrongForLinks_11 (by decide) ?_
    exact gq_iret (pc := 13) (F := wX G o) rfl dX0_wrongForLinks_13 h
def wX0_isGoneTarget (l1 : Int32) (c : gMem) (Q : Int32 → gMem → Prop) : Prop :=
  ((l1 = (-1) →
    Q 0 c) ∧
   (¬ l1 = (-1) →
    wX2_has l1 c (fun r3 c2 =>
    ((r3 = 0 →
      Q 1 c2) ∧
     (¬ r3 = 0 →
      Q 0 c2)))))
set_option maxRecDepth 100000 in
set_option maxHeartbeats 4000000 in
theorem tX0_isGoneTarget {l : Launch} {G : gG} {k : Nat} {o : gMem} {Q : Int32 → gMem → Prop} {l1 : Int32} {c : gMem} (h : wX0_isGoneTarget l1 c Q) : Cq l G mX0_isGoneTarget 1 21 [.ref (G.2.1 + 69), .int l1] 84 k (wX G o c) (qi (wX G o) Q) := by
  refine Cq.of (by decide) (Nat.le_of_ble_eq_true rfl) ?_
  show Go l G mX0_isGoneTarget (gbq G 1 21 84 k (qi (wX G o) Q)) 0 [(0, .ref (G.2.1 + 69)), (1, .int l1)] [] 84 k (wX G o c)
  unfold wX0_isGoneTarget at h
  refine go_iload_n (pc := 0) dX0_isGoneTarget_0 rfl rfl ?_
  refine go_iconst (pc := 1) (v := (-1)) dX0_isGoneTarget_1 (by decide) ?_
  refine go_icmp_eq (pc := 2) (tgt := 20) dX0_isGoneTarget_2 (by decide) (fun q1 => ?_) (fun q1 => ?_)
  · have h := h.1 q1
    refine go_iconst (pc := 20) (v := 0) dX0_isGoneTarget_20 (by decide) ?_
    exact gq_zret (pc := 21) (F := wX G o) rfl (by decide) dX0_isGoneTarget_21 h
  · have h := h.2 q1
    refine go_aload_n (pc := 5) dX0_isGoneTarget_5 rfl rfl ?_
    refine go_get (pc := 6) fX0_21 rfl (gz_b (by decide)) xw69 rfl dX0_isGoneTarget_6 ?_
    refine go_iload_n (pc := 9) dX0_isGoneTarget_9 rfl rfl ?_
    refine gq_callV_i (pc := 10) (F := wX G o) vX0_62 rfl (tX2_has h) rfl rfl (gz_b (by decide)) xw2 rfl (Nat.le_of_ble_eq_true rfl) ⟨Nat.le_of_ble_eq_true rfl, Nat.le_of_ble_eq_true rfl, Nat.le_add_right _ _, Nat.le_add_right _ _⟩ dX0_isGoneTarget_10 (fun r3 c2 h => ?_)
    refine go_if_ne (pc := 13) (tgt := 20) dX0_isGoneTarget_13 (by decide) (fun q4 => ?_) (fun q4 => ?_)
    · have h := h.2 q4
      refine go_iconst (pc := 20) (v := 0) dX0_isGoneTarget_20 (by decide) ?_
      exact gq_zret (pc := 21) (F := wX G o) rfl (by decide) dX0_isGoneTarget_21 h
    · have h := h.1 q4
      refine go_iconst (pc := 16) (v := 1) dX0_isGoneTarget_16 (by decide) ?_
      refine go_goto (pc := 17) (tgt := 21) dX0_isGoneTarget_17 (by decide) ?_
      exact gq_zret (pc := 21) (F := wX G o) rfl (by decide) dX0_isGoneTarget_21 h
def wX0_changeLink (l1 : Int32) (l2 : Int32) (l3 : Int32) (c : gMem) (Q : gMem → Prop) : Prop :=
  wX2_linkPlace l1 c (fun r2 c1 =>
  vp_in (r2 + l2) 4000 ∧
  ∀ v3, v3 = c1 3 (r2 + l2).toNatClampNeg →
  wX7_mark v3 2 l1 l2 c1 (fun c5 =>
  vp_in (r2 + l2) 4000 ∧
  ∀ c6, c6 = mp c5 3 (r2 + l2).toNatClampNeg l3 →
  wX7_mark l3 3 l1 l2 c6 (fun c8 =>
  Q c8)))
set_option maxRecDepth 100000 in
set_option maxHeartbeats 4000000 in
theorem tX0_changeLink {l : Launch} {G : gG} {k : Nat} {o : gMem} {Q : gMem → Prop} {l1 : Int32} {l2 : Int32} {l3 : Int32} {c : gMem} (h : wX0_changeLink l1 l2 l3 c Q) : Cq l G mX0_changeLink 2 48 [.ref (G.2.1 + 69), .int l1, .int l2, .int l3] 84 k (wX G o c) (qv (wX G o) Q) := by
  refine Cq.of (by decide) (Nat.le_of_ble_eq_true rfl) ?_
  show Go l G mX0_changeLink (gbq G 2 48 84 k (qv (wX G o) Q)) 0 [(0, .ref (G.2.1 + 69)), (1, .int l1), (2, .int l2), (3, .int l3)] [] 84 k (wX G o c)
  unfold wX0_changeLink at h
  refine go_aload_n (pc := 0) dX0_changeLink_0 rfl rfl ?_
  refine go_get (pc := 1) fX0_21 rfl (gz_b (by decide)) xw69 rfl dX0_changeLink_1 ?_
  refine go_iload_n (pc := 4) dX0_changeLink_4 rfl rfl ?_
  refine gq_callV_i (pc := 5) (F := wX G o) vX0_83 rfl (tX2_linkPlace h) rfl rfl (gz_b (by decide)) xw2 rfl (Nat.le_of_ble_eq_true rfl) ⟨Nat.le_of_ble_eq_true rfl, Nat.le_of_ble_eq_true rfl, Nat.le_add_right _ _, Nat.le_add_right _ _⟩ dX0_changeLink_5 (fun r2 c1 h => ?_)
  refine go_iload_n (pc := 8) dX0_changeLink_8 rfl rfl ?_
  refine go_iadd (pc := 9) dX0_changeLink_9 ?_
  refine go_istore (pc := 10) (lv' := [(4, .int (r2 + l2)), (0, .ref (G.2.1 + 69)), (1, .int l1), (2, .int l2), (3, .int l3)]) dX0_changeLink_10 (by decide) rfl ?_
  refine go_aload_n (pc := 12) dX0_changeLink_12 rfl rfl ?_
  refine go_get (pc := 13) fX0_22 rfl (gz_b (by decide)) xw69 rfl dX0_changeLink_13 ?_
  refine go_aload_n (pc := 16) dX0_changeLink_16 rfl rfl ?_
  refine go_get (pc := 17) fX0_21 rfl (gz_b (by decide)) xw69 rfl dX0_changeLink_17 ?_
  refine go_get (pc := 20) fX0_86 rfl (gz_b (by decide)) xw2 rfl dX0_changeLink_20 ?_
  refine go_iload (pc := 23) dX0_changeLink_23 rfl ?_
  obtain ⟨b4, h⟩ := h
  refine gb_iald (pc := 25) (gz_b (by decide)) xw3 b4 dX0_changeLink_25 (fun v3 ev3 => ?_)
  have h := h v3 ev3
  refine go_iconst (pc := 26) (v := 2) dX0_changeLink_26 (by decide) ?_
  refine go_iload_n (pc := 27) dX0_changeLink_27 rfl rfl ?_
  refine go_iload_n (pc := 28) dX0_changeLink_28 rfl rfl ?_
  refine gq_callV_v (pc := 29) (F := wX G o) vX0_58 rfl (tX7_mark h) rfl rfl (gz_b (by decide)) xw65 rfl (Nat.le_of_ble_eq_true rfl) ⟨Nat.le_of_ble_eq_true rfl, Nat.le_of_ble_eq_true rfl, Nat.le_add_right _ _, Nat.le_add_right _ _⟩ dX0_changeLink_29 (fun c5 h => ?_)
  refine go_aload_n (pc := 32) dX0_changeLink_32 rfl rfl ?_
  refine go_get (pc := 33) fX0_21 rfl (gz_b (by decide)) xw69 rfl dX0_changeLink_33 ?_
  refine go_get (pc := 36) fX0_86 rfl (gz_b (by decide)) xw2 rfl dX0_changeLink_36 ?_
  refine go_iload (pc := 39) dX0_changeLink_39 rfl ?_
  refine go_iload_n (pc := 41) dX0_changeLink_41 rfl rfl ?_
  obtain ⟨b7, h⟩ := h
  refine gb_iast (pc := 42) (F := wX G o) (gz_b (by decide)) xw3 b7 xa3 dX0_changeLink_42 (fun c6 ec6 => ?_)
  have h := h c6 ec6
  refine go_aload_n (pc := 43) dX0_changeLink_43 rfl rfl ?_
  refine go_get (pc := 44) fX0_22 rfl (gz_b (by decide)) xw69 rfl dX0_changeLink_44 ?_
  refine go_iload_n (pc := 47) dX0_changeLink_47 rfl rfl ?_
  refine go_iconst (pc := 48) (v := 3) dX0_changeLink_48 (by decide) ?_
  refine go_iload_n (pc := 49) dX0_changeLink_49 rfl rfl ?_
  refine go_iload_n (pc := 50) dX0_changeLink_50 rfl rfl ?_
  refine gq_callV_v (pc := 51) (F := wX G o) vX0_58 rfl (tX7_mark h) rfl rfl (gz_b (by decide)) xw65 rfl (Nat.le_of_ble_eq_true rfl) ⟨Nat.le_of_ble_eq_true rfl, Nat.le_of_ble_eq_true rfl, Nat.le_add_right _ _, Nat.le_add_right _ _⟩ dX0_changeLink_51 (fun c8 h => ?_)
  exact gq_vret (pc := 54) (F := wX G o) rfl dX0_changeLink_54 h
def wX0_setLink (l1 : Int32) (l2 : Int32) (l3 : Int32) (c : gMem) (Q : Int32 → gMem → Prop) : Prop :=
  wX0_wrongForLinks l1 c (fun r2 c1 =>
  ((r2 = 0 →
    wX0_isGoneTarget l3 c1 (fun r5 c4 =>
    ((r5 = 0 →
      ((l2 < 0 →
        Q ((-12)) c4) ∧
       (¬ l2 < 0 →
        wX2_linksOf l1 c4 (fun r9 c8 =>
        ((l2 < r9 →
          wX0_changeLink l1 l2 l3 c8 (fun c11 =>
          Q 1 c11)) ∧
         (¬ l2 < r9 →
          Q ((-12)) c8)))))) ∧
     (¬ r5 = 0 →
      Q ((-11)) c4)))) ∧
   (¬ r2 = 0 →
    Q r2 c1)))
set_option maxRecDepth 100000 in
set_option maxHeartbeats 4000000 in
theorem tX0_setLink {l : Launch} {G : gG} {k : Nat} {o : gMem} {Q : Int32 → gMem → Prop} {l1 : Int32} {l2 : Int32} {l3 : Int32} {c : gMem} (h : wX0_setLink l1 l2 l3 c Q) : Cq l G mX0_setLink 3 72 [.ref (G.2.1 + 69), .int l1, .int l2, .int l3] 84 k (wX G o c) (qi (wX G o) Q) := by
  refine Cq.of (by decide) (Nat.le_of_ble_eq_true rfl) ?_
  show Go l G mX0_setLink (gbq G 3 72 84 k (qi (wX G o) Q)) 0 [(0, .ref (G.2.1 + 69)), (1, .int l1), (2, .int l2), (3, .int l3)] [] 84 k (wX G o c)
  unfold wX0_setLink at h
  refine go_aload_n (pc := 0) dX0_setLink_0 rfl rfl ?_
  refine go_iload_n (pc := 1) dX0_setLink_1 rfl rfl ?_
  refine gq_callV_i (pc := 2) (F := wX G o) vX0_69 rfl (tX0_wrongForLinks h) rfl rfl (gz_b (by decide)) xw69 rfl (Nat.le_of_ble_eq_true rfl) ⟨Nat.le_of_ble_eq_true rfl, Nat.le_of_ble_eq_true rfl, Nat.le_add_right _ _, Nat.le_add_right _ _⟩ dX0_setLink_2 (fun r2 c1 h => ?_)
  refine go_istore (pc := 5) (lv' := [(4, .int r2), (0, .ref (G.2.1 + 69)), (1, .int l1), (2, .int l2), (3, .int l3)]) dX0_setLink_5 (by decide) rfl ?_
  refine go_iload (pc := 7) dX0_setLink_7 rfl ?_
  refine go_if_eq (pc := 9) (tgt := 15) dX0_setLink_9 (by decide) (fun q3 => ?_) (fun q3 => ?_)
  · have h := h.1 q3
    refine go_aload_n (pc := 15) dX0_setLink_15 rfl rfl ?_
    refine go_iload_n (pc := 16) dX0_setLink_16 rfl rfl ?_
    refine gq_callV_i (pc := 17) (F := wX G o) vX0_73 rfl (tX0_isGoneTarget h) rfl rfl (gz_b (by decide)) xw69 rfl (Nat.le_of_ble_eq_true rfl) ⟨Nat.le_of_ble_eq_true rfl, Nat.le_of_ble_eq_true rfl, Nat.le_add_right _ _, Nat.le_add_right _ _⟩ dX0_setLink_17 (fun r5 c4 h => ?_)
    refine go_if_eq (pc := 20) (tgt := 26) dX0_setLink_20 (by decide) (fun q6 => ?_) (fun q6 => ?_)
    · have h := h.1 q6
      refine go_iload_n (pc := 26) dX0_setLink_26 rfl rfl ?_
      refine go_if_lt (pc := 27) (tgt := 42) dX0_setLink_27 (by decide) (fun q7 => ?_) (fun q7 => ?_)
      · have h := h.1 q7
        refine go_bipush (pc := 42) (v := (-12)) dX0_setLink_42 (by decide) ?_
        exact gq_iret (pc := 44) (F := wX G o) rfl dX0_setLink_44 h
      · have h := h.2 q7
        refine go_iload_n (pc := 30) dX0_setLink_30 rfl rfl ?_
        refine go_aload_n (pc := 31) dX0_setLink_31 rfl rfl ?_
        refine go_get (pc := 32) fX0_21 rfl (gz_b (by decide)) xw69 rfl dX0_setLink_32 ?_
        refine go_iload_n (pc := 35) dX0_setLink_35 rfl rfl ?_
        refine gq_callV_i (pc := 36) (F := wX G o) vX0_76 rfl (tX2_linksOf h) rfl rfl (gz_b (by decide)) xw2 rfl (Nat.le_of_ble_eq_true rfl) ⟨Nat.le_of_ble_eq_true rfl, Nat.le_of_ble_eq_true rfl, Nat.le_add_right _ _, Nat.le_add_right _ _⟩ dX0_setLink_36 (fun r9 c8 h => ?_)
        refine go_icmp_lt (pc := 39) (tgt := 45) dX0_setLink_39 (by decide) (fun q10 => ?_) (fun q10 => ?_)
        · have h := h.1 q10
          refine go_aload_n (pc := 45) dX0_setLink_45 rfl rfl ?_
          refine go_iload_n (pc := 46) dX0_setLink_46 rfl rfl ?_
          refine go_iload_n (pc := 47) dX0_setLink_47 rfl rfl ?_
          refine go_iload_n (pc := 48) dX0_setLink_48 rfl rfl ?_
          refine gq_callV_v (pc := 49) (F := wX G o) vX0_79 rfl (tX0_changeLink h) rfl rfl (gz_b (by decide)) xw69 rfl (Nat.le_of_ble_eq_true rfl) ⟨Nat.le_of_ble_eq_true rfl, Nat.le_of_ble_eq_true rfl, Nat.le_add_right _ _, Nat.le_add_right _ _⟩ dX0_setLink_49 (fun c11 h => ?_)
          refine go_iconst (pc := 52) (v := 1) dX0_setLink_52 (by decide) ?_
          exact gq_iret (pc := 53) (F := wX G o) rfl dX0_setLink_53 h
        · have h := h.2 q10
          refine go_bipush (pc := 42) (v := (-12)) dX0_setLink_42 (by decide) ?_
          exact gq_iret (pc := 44) (F := wX G o) rfl dX0_setLink_44 h
    · have h := h.2 q6
      refine go_bipush (pc := 23) (v := (-11)) dX0_setLink_23 (by decide) ?_
      exact gq_iret (pc := 25) (F := wX G o) rfl dX0_setLink_25 h
  · have h := h.2 q3
    refine go_iload (pc := 12) dX0_setLink_12 rfl ?_
    exact gq_iret (pc := 14) (F := wX G o) rfl dX0_setLink_14 h
def wX9_link (l1 : Int32) (l2 : Int32) (l3 : Int32) (c : gMem) (Q : Int32 → gMem → Prop) : Prop :=
  wX2_wasMade l1 c (fun r2 c1 =>
  ((r2 = 0 →
    Q ((-101)) c1) ∧
   (¬ r2 = 0 →
    wX9_isUnknownTarget l3 c1 (fun r5 c4 =>
    ((r5 = 0 →
      wX0_setLink l1 l2 l3 c4 (fun r8 c7 =>
      wX9_answer r8 c7 (fun r10 c9 =>
      Q r10 c9))) ∧
     (¬ r5 = 0 →
      Q ((-101)) c4))))))
set_option maxRecDepth 100000 in
set_option maxHeartbeats 4000000 in
theorem tX9_link {l : Launch} {G : gG} {k : Nat} {o : gMem} {Q : Int32 → gMem → Prop} {l1 : Int32} {l2 : Int32} {l3 : Int32} {c : gMem} (h : wX9_link l1 l2 l3 c Q) : Cq l G mX9_link 4 96 [.ref (G.2.1 + 0), .int l1, .int l2, .int l3] 84 k (wX G o c) (qi (wX G o) Q) := by
  refine Cq.of (by decide) (Nat.le_of_ble_eq_true rfl) ?_
  show Go l G mX9_link (gbq G 4 96 84 k (qi (wX G o) Q)) 0 [(0, .ref (G.2.1 + 0)), (1, .int l1), (2, .int l2), (3, .int l3)] [] 84 k (wX G o c)
  unfold wX9_link at h
  refine go_aload_n (pc := 0) dX9_link_0 rfl rfl ?_
  refine go_get (pc := 1) fX9_12 rfl (gz_b (by decide)) xw0 rfl dX9_link_1 ?_
  refine go_get (pc := 4) fX9_84 rfl (gz_b (by decide)) xw1 rfl dX9_link_4 ?_
  refine go_iload_n (pc := 7) dX9_link_7 rfl rfl ?_
  refine gq_callV_i (pc := 8) (F := wX G o) vX9_88 rfl (tX2_wasMade h) rfl rfl (gz_b (by decide)) xw2 rfl (Nat.le_of_ble_eq_true rfl) ⟨Nat.le_of_ble_eq_true rfl, Nat.le_of_ble_eq_true rfl, Nat.le_add_right _ _, Nat.le_add_right _ _⟩ dX9_link_8 (fun r2 c1 h => ?_)
  refine go_if_eq (pc := 11) (tgt := 22) dX9_link_11 (by decide) (fun q3 => ?_) (fun q3 => ?_)
  · have h := h.1 q3
    refine go_bipush (pc := 22) (v := (-101)) dX9_link_22 (by decide) ?_
    exact gq_iret (pc := 24) (F := wX G o) rfl dX9_link_24 h
  · have h := h.2 q3
    refine go_aload_n (pc := 14) dX9_link_14 rfl rfl ?_
    refine go_iload_n (pc := 15) dX9_link_15 rfl rfl ?_
    refine gq_callV_i (pc := 16) (F := wX G o) vX9_125 rfl (tX9_isUnknownTarget h) rfl rfl (gz_b (by decide)) xw0 rfl (Nat.le_of_ble_eq_true rfl) ⟨Nat.le_of_ble_eq_true rfl, Nat.le_of_ble_eq_true rfl, Nat.le_add_right _ _, Nat.le_add_right _ _⟩ dX9_link_16 (fun r5 c4 h => ?_)
    refine go_if_eq (pc := 19) (tgt := 25) dX9_link_19 (by decide) (fun q6 => ?_) (fun q6 => ?_)
    · have h := h.1 q6
      refine go_aload_n (pc := 25) dX9_link_25 rfl rfl ?_
      refine go_aload_n (pc := 26) dX9_link_26 rfl rfl ?_
      refine go_get (pc := 27) fX9_40 rfl (gz_b (by decide)) xw0 rfl dX9_link_27 ?_
      refine go_iload_n (pc := 30) dX9_link_30 rfl rfl ?_
      refine go_iload_n (pc := 31) dX9_link_31 rfl rfl ?_
      refine go_iload_n (pc := 32) dX9_link_32 rfl rfl ?_
      refine gq_callV_i (pc := 33) (F := wX G o) vX9_128 rfl (tX0_setLink h) rfl rfl (gz_b (by decide)) xw69 rfl (Nat.le_of_ble_eq_true rfl) ⟨Nat.le_of_ble_eq_true rfl, Nat.le_of_ble_eq_true rfl, Nat.le_add_right _ _, Nat.le_add_right _ _⟩ dX9_link_33 (fun r8 c7 h => ?_)
      refine gq_callV_i (pc := 36) (F := wX G o) vX9_80 rfl (tX9_answer h) rfl rfl (gz_b (by decide)) xw0 rfl (Nat.le_of_ble_eq_true rfl) ⟨Nat.le_of_ble_eq_true rfl, Nat.le_of_ble_eq_true rfl, Nat.le_add_right _ _, Nat.le_add_right _ _⟩ dX9_link_36 (fun r10 c9 h => ?_)
      exact gq_iret (pc := 39) (F := wX G o) rfl dX9_link_39 h
    · have h := h.2 q6
      refine go_bipush (pc := 22) (v := (-101)) dX9_link_22 (by decide) ?_
      exact gq_iret (pc := 24) (F := wX G o) rfl dX9_link_24 h
def wX0_linkOf_p28 (c : gMem) (Q : Int32 → gMem → Prop) : Prop :=
  Q ((-12)) c
set_option maxRecDepth 100000 in
set_option maxHeartbeats 4000000 in
theorem tX0_linkOf_p28 {l : Launch} {G : gG} {k : Nat} {o : gMem} {Q : Int32 → gMem → Prop} {c : gMem} (h : wX0_linkOf_p28 c Q) : Go l G mX0_linkOf (gbq G 2 43 84 k (qi (wX G o) Q)) 28 [] [] 84 k (wX G o c) := by
  unfold wX0_linkOf_p28 at h
  refine go_bipush (pc := 28) (v := (-12)) dX0_linkOf_28 (by decide) ?_
  refine go_goto (pc := 30) (tgt := 51) dX0_linkOf_30 (by decide) ?_
  exact gq_iret (pc := 51) (F := wX G o) rfl dX0_linkOf_51 h
def wX0_linkOf (l1 : Int32) (l2 : Int32) (c : gMem) (Q : Int32 → gMem → Prop) : Prop :=
  wX0_wrongForLinks l1 c (fun r2 c1 =>
  ((r2 = 0 →
    ((l2 < 0 →
      wX0_linkOf_p28 c1 Q) ∧
     (¬ l2 < 0 →
      wX2_linksOf l1 c1 (fun r6 c5 =>
      ((l2 < r6 →
        wX2_linkPlace l1 c5 (fun r9 c8 =>
        vp_in (r9 + l2) 4000 ∧
        ∀ v10, v10 = c8 3 (r9 + l2).toNatClampNeg →
        Q v10 c8)) ∧
       (¬ l2 < r6 →
        wX0_linkOf_p28 c5 Q)))))) ∧
   (¬ r2 = 0 →
    Q r2 c1)))
set_option maxRecDepth 100000 in
set_option maxHeartbeats 4000000 in
theorem tX0_linkOf {l : Launch} {G : gG} {k : Nat} {o : gMem} {Q : Int32 → gMem → Prop} {l1 : Int32} {l2 : Int32} {c : gMem} (h : wX0_linkOf l1 l2 c Q) : Cq l G mX0_linkOf 2 43 [.ref (G.2.1 + 69), .int l1, .int l2] 84 k (wX G o c) (qi (wX G o) Q) := by
  refine Cq.of (by decide) (Nat.le_of_ble_eq_true rfl) ?_
  show Go l G mX0_linkOf (gbq G 2 43 84 k (qi (wX G o) Q)) 0 [(0, .ref (G.2.1 + 69)), (1, .int l1), (2, .int l2)] [] 84 k (wX G o c)
  unfold wX0_linkOf at h
  refine go_aload_n (pc := 0) dX0_linkOf_0 rfl rfl ?_
  refine go_iload_n (pc := 1) dX0_linkOf_1 rfl rfl ?_
  refine gq_callV_i (pc := 2) (F := wX G o) vX0_69 rfl (tX0_wrongForLinks h) rfl rfl (gz_b (by decide)) xw69 rfl (Nat.le_of_ble_eq_true rfl) ⟨Nat.le_of_ble_eq_true rfl, Nat.le_of_ble_eq_true rfl, Nat.le_add_right _ _, Nat.le_add_right _ _⟩ dX0_linkOf_2 (fun r2 c1 h => ?_)
  refine go_istore_n (pc := 5) (lv' := [(3, .int r2), (0, .ref (G.2.1 + 69)), (1, .int l1), (2, .int l2)]) dX0_linkOf_5 rfl (by decide) rfl ?_
  refine go_iload_n (pc := 6) dX0_linkOf_6 rfl rfl ?_
  refine go_if_eq (pc := 7) (tgt := 12) dX0_linkOf_7 (by decide) (fun q3 => ?_) (fun q3 => ?_)
  · have h := h.1 q3
    refine go_iload_n (pc := 12) dX0_linkOf_12 rfl rfl ?_
    refine go_if_lt (pc := 13) (tgt := 28) dX0_linkOf_13 (by decide) (fun q4 => ?_) (fun q4 => ?_)
    · have h := h.1 q4
      refine go_lv [] rfl ?_
      exact tX0_linkOf_p28 h
    · have h := h.2 q4
      refine go_iload_n (pc := 16) dX0_linkOf_16 rfl rfl ?_
      refine go_aload_n (pc := 17) dX0_linkOf_17 rfl rfl ?_
      refine go_get (pc := 18) fX0_21 rfl (gz_b (by decide)) xw69 rfl dX0_linkOf_18 ?_
      refine go_iload_n (pc := 21) dX0_linkOf_21 rfl rfl ?_
      refine gq_callV_i (pc := 22) (F := wX G o) vX0_76 rfl (tX2_linksOf h) rfl rfl (gz_b (by decide)) xw2 rfl (Nat.le_of_ble_eq_true rfl) ⟨Nat.le_of_ble_eq_true rfl, Nat.le_of_ble_eq_true rfl, Nat.le_add_right _ _, Nat.le_add_right _ _⟩ dX0_linkOf_22 (fun r6 c5 h => ?_)
      refine go_icmp_lt (pc := 25) (tgt := 33) dX0_linkOf_25 (by decide) (fun q7 => ?_) (fun q7 => ?_)
      · have h := h.1 q7
        refine go_aload_n (pc := 33) dX0_linkOf_33 rfl rfl ?_
        refine go_get (pc := 34) fX0_21 rfl (gz_b (by decide)) xw69 rfl dX0_linkOf_34 ?_
        refine go_get (pc := 37) fX0_86 rfl (gz_b (by decide)) xw2 rfl dX0_linkOf_37 ?_
        refine go_aload_n (pc := 40) dX0_linkOf_40 rfl rfl ?_
        refine go_get (pc := 41) fX0_21 rfl (gz_b (by decide)) xw69 rfl dX0_linkOf_41 ?_
        refine go_iload_n (pc := 44) dX0_linkOf_44 rfl rfl ?_
        refine gq_callV_i (pc := 45) (F := wX G o) vX0_83 rfl (tX2_linkPlace h) rfl rfl (gz_b (by decide)) xw2 rfl (Nat.le_of_ble_eq_true rfl) ⟨Nat.le_of_ble_eq_true rfl, Nat.le_of_ble_eq_true rfl, Nat.le_add_right _ _, Nat.le_add_right _ _⟩ dX0_linkOf_45 (fun r9 c8 h => ?_)
        refine go_iload_n (pc := 48) dX0_linkOf_48 rfl rfl ?_
        refine go_iadd (pc := 49) dX0_linkOf_49 ?_
        obtain ⟨b11, h⟩ := h
        refine gb_iald (pc := 50) (gz_b (by decide)) xw3 b11 dX0_linkOf_50 (fun v10 ev10 => ?_)
        have h := h v10 ev10
        exact gq_iret (pc := 51) (F := wX G o) rfl dX0_linkOf_51 h
      · have h := h.2 q7
        refine go_lv [] rfl ?_
        exact tX0_linkOf_p28 h
  · have h := h.2 q3
    refine go_iload_n (pc := 10) dX0_linkOf_10 rfl rfl ?_
    exact gq_iret (pc := 11) (F := wX G o) rfl dX0_linkOf_11 h

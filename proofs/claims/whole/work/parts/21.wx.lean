/-! what each method asks for to end in Q, and that it is enough: by wip/tools/wgen.py -/
def wX9_get (l1 : Int32) (l2 : Int32) (c : gMem) (Q : Int32 → gMem → Prop) : Prop :=
  wX2_wasMade l1 c (fun r2 c1 =>
  ((r2 = 0 →
    Q ((-101)) c1) ∧
   (¬ r2 = 0 →
    wX0_linkOf l1 l2 c1 (fun r5 c4 =>
    wX9_answer r5 c4 (fun r7 c6 =>
    Q r7 c6)))))
set_option maxRecDepth 100000 in
set_option maxHeartbeats 4000000 in
theorem tX9_get {l : Launch} {G : gG} {k : Nat} {o : gMem} {Q : Int32 → gMem → Prop} {l1 : Int32} {l2 : Int32} {c : gMem} (h : wX9_get l1 l2 c Q) : Cq l G mX9_get 3 66 [.ref (G.2.1 + 0), .int l1, .int l2] 84 k (wX G o c) (qi (wX G o) Q) := by
  refine Cq.of (by decide) (Nat.le_of_ble_eq_true rfl) ?_
  show Go l G mX9_get (gbq G 3 66 84 k (qi (wX G o) Q)) 0 [(0, .ref (G.2.1 + 0)), (1, .int l1), (2, .int l2)] [] 84 k (wX G o c)
  unfold wX9_get at h
  refine go_aload_n (pc := 0) dX9_get_0 rfl rfl ?_
  refine go_get (pc := 1) fX9_12 rfl (gz_b (by decide)) xw0 rfl dX9_get_1 ?_
  refine go_get (pc := 4) fX9_84 rfl (gz_b (by decide)) xw1 rfl dX9_get_4 ?_
  refine go_iload_n (pc := 7) dX9_get_7 rfl rfl ?_
  refine gq_callV_i (pc := 8) (F := wX G o) vX9_88 rfl (tX2_wasMade h) rfl rfl (gz_b (by decide)) xw2 rfl (Nat.le_of_ble_eq_true rfl) ⟨Nat.le_of_ble_eq_true rfl, Nat.le_of_ble_eq_true rfl, Nat.le_add_right _ _, Nat.le_add_right _ _⟩ dX9_get_8 (fun r2 c1 h => ?_)
  refine go_if_ne (pc := 11) (tgt := 17) dX9_get_11 (by decide) (fun q3 => ?_) (fun q3 => ?_)
  · have h := h.2 q3
    refine go_aload_n (pc := 17) dX9_get_17 rfl rfl ?_
    refine go_aload_n (pc := 18) dX9_get_18 rfl rfl ?_
    refine go_get (pc := 19) fX9_40 rfl (gz_b (by decide)) xw0 rfl dX9_get_19 ?_
    refine go_iload_n (pc := 22) dX9_get_22 rfl rfl ?_
    refine go_iload_n (pc := 23) dX9_get_23 rfl rfl ?_
    refine gq_callV_i (pc := 24) (F := wX G o) vX9_132 rfl (tX0_linkOf h) rfl rfl (gz_b (by decide)) xw69 rfl (Nat.le_of_ble_eq_true rfl) ⟨Nat.le_of_ble_eq_true rfl, Nat.le_of_ble_eq_true rfl, Nat.le_add_right _ _, Nat.le_add_right _ _⟩ dX9_get_24 (fun r5 c4 h => ?_)
    refine gq_callV_i (pc := 27) (F := wX G o) vX9_80 rfl (tX9_answer h) rfl rfl (gz_b (by decide)) xw0 rfl (Nat.le_of_ble_eq_true rfl) ⟨Nat.le_of_ble_eq_true rfl, Nat.le_of_ble_eq_true rfl, Nat.le_add_right _ _, Nat.le_add_right _ _⟩ dX9_get_27 (fun r7 c6 h => ?_)
    exact gq_iret (pc := 30) (F := wX G o) rfl dX9_get_30 h
  · have h := h.1 q3
    refine go_bipush (pc := 14) (v := (-101)) dX9_get_14 (by decide) ?_
    exact gq_iret (pc := 16) (F := wX G o) rfl dX9_get_16 h
def wX0_wrongAs (l1 : Int32) (l2 : Int32) (c : gMem) (Q : Int32 → gMem → Prop) : Prop :=
  wX2_has l2 c (fun r2 c1 =>
  ((r2 = 0 →
    Q ((-11)) c1) ∧
   (¬ r2 = 0 →
    wX2_isA l1 l2 c1 (fun r5 c4 =>
    ((r5 = 0 →
      Q ((-13)) c4) ∧
     (¬ r5 = 0 →
      Q 0 c4))))))
set_option maxRecDepth 100000 in
set_option maxHeartbeats 4000000 in
theorem tX0_wrongAs {l : Launch} {G : gG} {k : Nat} {o : gMem} {Q : Int32 → gMem → Prop} {l1 : Int32} {l2 : Int32} {c : gMem} (h : wX0_wrongAs l1 l2 c Q) : Cq l G mX0_wrongAs 1 22 [.ref (G.2.1 + 69), .int l1, .int l2] 84 k (wX G o c) (qi (wX G o) Q) := by
  refine Cq.of (by decide) (Nat.le_of_ble_eq_true rfl) ?_
  show Go l G mX0_wrongAs (gbq G 1 22 84 k (qi (wX G o) Q)) 0 [(0, .ref (G.2.1 + 69)), (1, .int l1), (2, .int l2)] [] 84 k (wX G o c)
  unfold wX0_wrongAs at h
  refine go_aload_n (pc := 0) dX0_wrongAs_0 rfl rfl ?_
  refine go_get (pc := 1) fX0_21 rfl (gz_b (by decide)) xw69 rfl dX0_wrongAs_1 ?_
  refine go_iload_n (pc := 4) dX0_wrongAs_4 rfl rfl ?_
  refine gq_callV_i (pc := 5) (F := wX G o) vX0_62 rfl (tX2_has h) rfl rfl (gz_b (by decide)) xw2 rfl (Nat.le_of_ble_eq_true rfl) ⟨Nat.le_of_ble_eq_true rfl, Nat.le_of_ble_eq_true rfl, Nat.le_add_right _ _, Nat.le_add_right _ _⟩ dX0_wrongAs_5 (fun r2 c1 h => ?_)
  refine go_if_ne (pc := 8) (tgt := 14) dX0_wrongAs_8 (by decide) (fun q3 => ?_) (fun q3 => ?_)
  · have h := h.2 q3
    refine go_aload_n (pc := 14) dX0_wrongAs_14 rfl rfl ?_
    refine go_get (pc := 15) fX0_21 rfl (gz_b (by decide)) xw69 rfl dX0_wrongAs_15 ?_
    refine go_iload_n (pc := 18) dX0_wrongAs_18 rfl rfl ?_
    refine go_iload_n (pc := 19) dX0_wrongAs_19 rfl rfl ?_
    refine gq_callV_i (pc := 20) (F := wX G o) vX0_65 rfl (tX2_isA h) rfl rfl (gz_b (by decide)) xw2 rfl (Nat.le_of_ble_eq_true rfl) ⟨Nat.le_of_ble_eq_true rfl, Nat.le_of_ble_eq_true rfl, Nat.le_add_right _ _, Nat.le_add_right _ _⟩ dX0_wrongAs_20 (fun r5 c4 h => ?_)
    refine go_if_eq (pc := 23) (tgt := 30) dX0_wrongAs_23 (by decide) (fun q6 => ?_) (fun q6 => ?_)
    · have h := h.1 q6
      refine go_bipush (pc := 30) (v := (-13)) dX0_wrongAs_30 (by decide) ?_
      exact gq_iret (pc := 32) (F := wX G o) rfl dX0_wrongAs_32 h
    · have h := h.2 q6
      refine go_iconst (pc := 26) (v := 0) dX0_wrongAs_26 (by decide) ?_
      refine go_goto (pc := 27) (tgt := 32) dX0_wrongAs_27 (by decide) ?_
      exact gq_iret (pc := 32) (F := wX G o) rfl dX0_wrongAs_32 h
  · have h := h.1 q3
    refine go_bipush (pc := 11) (v := (-11)) dX0_wrongAs_11 (by decide) ?_
    exact gq_iret (pc := 13) (F := wX G o) rfl dX0_wrongAs_13 h
def wX0_setWeakLink (l1 : Int32) (l2 : Int32) (c : gMem) (Q : Int32 → gMem → Prop) : Prop :=
  wX0_wrongAs 3 l1 c (fun r2 c1 =>
  ((r2 = 0 →
    wX0_isGoneTarget l2 c1 (fun r5 c4 =>
    ((r5 = 0 →
      wX2_weakPlace l1 c4 (fun r8 c7 =>
      vp_in r8 4000 ∧
      ∀ c9, c9 = mp c7 3 r8.toNatClampNeg l2 →
      Q 1 c9)) ∧
     (¬ r5 = 0 →
      Q ((-11)) c4)))) ∧
   (¬ r2 = 0 →
    Q r2 c1)))
set_option maxRecDepth 100000 in
set_option maxHeartbeats 4000000 in
theorem tX0_setWeakLink {l : Launch} {G : gG} {k : Nat} {o : gMem} {Q : Int32 → gMem → Prop} {l1 : Int32} {l2 : Int32} {c : gMem} (h : wX0_setWeakLink l1 l2 c Q) : Cq l G mX0_setWeakLink 2 44 [.ref (G.2.1 + 69), .int l1, .int l2] 84 k (wX G o c) (qi (wX G o) Q) := by
  refine Cq.of (by decide) (Nat.le_of_ble_eq_true rfl) ?_
  show Go l G mX0_setWeakLink (gbq G 2 44 84 k (qi (wX G o) Q)) 0 [(0, .ref (G.2.1 + 69)), (1, .int l1), (2, .int l2)] [] 84 k (wX G o c)
  unfold wX0_setWeakLink at h
  refine go_aload_n (pc := 0) dX0_setWeakLink_0 rfl rfl ?_
  refine go_iconst (pc := 1) (v := 3) dX0_setWeakLink_1 (by decide) ?_
  refine go_iload_n (pc := 2) dX0_setWeakLink_2 rfl rfl ?_
  refine gq_callV_i (pc := 3) (F := wX G o) vX0_90 rfl (tX0_wrongAs h) rfl rfl (gz_b (by decide)) xw69 rfl (Nat.le_of_ble_eq_true rfl) ⟨Nat.le_of_ble_eq_true rfl, Nat.le_of_ble_eq_true rfl, Nat.le_add_right _ _, Nat.le_add_right _ _⟩ dX0_setWeakLink_3 (fun r2 c1 h => ?_)
  refine go_istore_n (pc := 6) (lv' := [(3, .int r2), (0, .ref (G.2.1 + 69)), (1, .int l1), (2, .int l2)]) dX0_setWeakLink_6 rfl (by decide) rfl ?_
  refine go_iload_n (pc := 7) dX0_setWeakLink_7 rfl rfl ?_
  refine go_if_eq (pc := 8) (tgt := 13) dX0_setWeakLink_8 (by decide) (fun q3 => ?_) (fun q3 => ?_)
  · have h := h.1 q3
    refine go_aload_n (pc := 13) dX0_setWeakLink_13 rfl rfl ?_
    refine go_iload_n (pc := 14) dX0_setWeakLink_14 rfl rfl ?_
    refine gq_callV_i (pc := 15) (F := wX G o) vX0_73 rfl (tX0_isGoneTarget h) rfl rfl (gz_b (by decide)) xw69 rfl (Nat.le_of_ble_eq_true rfl) ⟨Nat.le_of_ble_eq_true rfl, Nat.le_of_ble_eq_true rfl, Nat.le_add_right _ _, Nat.le_add_right _ _⟩ dX0_setWeakLink_15 (fun r5 c4 h => ?_)
    refine go_if_eq (pc := 18) (tgt := 24) dX0_setWeakLink_18 (by decide) (fun q6 => ?_) (fun q6 => ?_)
    · have h := h.1 q6
      refine go_aload_n (pc := 24) dX0_setWeakLink_24 rfl rfl ?_
      refine go_get (pc := 25) fX0_21 rfl (gz_b (by decide)) xw69 rfl dX0_setWeakLink_25 ?_
      refine go_get (pc := 28) fX0_86 rfl (gz_b (by decide)) xw2 rfl dX0_setWeakLink_28 ?_
      refine go_aload_n (pc := 31) dX0_setWeakLink_31 rfl rfl ?_
      refine go_get (pc := 32) fX0_21 rfl (gz_b (by decide)) xw69 rfl dX0_setWeakLink_32 ?_
      refine go_iload_n (pc := 35) dX0_setWeakLink_35 rfl rfl ?_
      refine gq_callV_i (pc := 36) (F := wX G o) vX0_93 rfl (tX2_weakPlace h) rfl rfl (gz_b (by decide)) xw2 rfl (Nat.le_of_ble_eq_true rfl) ⟨Nat.le_of_ble_eq_true rfl, Nat.le_of_ble_eq_true rfl, Nat.le_add_right _ _, Nat.le_add_right _ _⟩ dX0_setWeakLink_36 (fun r8 c7 h => ?_)
      refine go_iload_n (pc := 39) dX0_setWeakLink_39 rfl rfl ?_
      obtain ⟨b10, h⟩ := h
      refine gb_iast (pc := 40) (F := wX G o) (gz_b (by decide)) xw3 b10 xa3 dX0_setWeakLink_40 (fun c9 ec9 => ?_)
      have h := h c9 ec9
      refine go_iconst (pc := 41) (v := 1) dX0_setWeakLink_41 (by decide) ?_
      exact gq_iret (pc := 42) (F := wX G o) rfl dX0_setWeakLink_42 h
    · have h := h.2 q6
      refine go_bipush (pc := 21) (v := (-11)) dX0_setWeakLink_21 (by decide) ?_
      exact gq_iret (pc := 23) (F := wX G o) rfl dX0_setWeakLink_23 h
  · have h := h.2 q3
    refine go_iload_n (pc := 11) dX0_setWeakLink_11 rfl rfl ?_
    exact gq_iret (pc := 12) (F := wX G o) rfl dX0_setWeakLink_12 h
def wX9_weaken (l1 : Int32) (l2 : Int32) (c : gMem) (Q : Int32 → gMem → Prop) : Prop :=
  wX2_wasMade l1 c (fun r2 c1 =>
  ((r2 = 0 →
    Q ((-101)) c1) ∧
   (¬ r2 = 0 →
    wX9_isUnknownTarget l2 c1 (fun r5 c4 =>
    ((r5 = 0 →
      wX0_setWeakLink l1 l2 c4 (fun r8 c7 =>
      wX9_answer r8 c7 (fun r10 c9 =>
      Q r10 c9))) ∧
     (¬ r5 = 0 →
      Q ((-101)) c4))))))
set_option maxRecDepth 100000 in
set_option maxHeartbeats 4000000 in
theorem tX9_weaken {l : Launch} {G : gG} {k : Nat} {o : gMem} {Q : Int32 → gMem → Prop} {l1 : Int32} {l2 : Int32} {c : gMem} (h : wX9_weaken l1 l2 c Q) : Cq l G mX9_weaken 3 67 [.ref (G.2.1 + 0), .int l1, .int l2] 84 k (wX G o c) (qi (wX G o) Q) := by
  refine Cq.of (by decide) (Nat.le_of_ble_eq_true rfl) ?_
  show Go l G mX9_weaken (gbq G 3 67 84 k (qi (wX G o) Q)) 0 [(0, .ref (G.2.1 + 0)), (1, .int l1), (2, .int l2)] [] 84 k (wX G o c)
  unfold wX9_weaken at h
  refine go_aload_n (pc := 0) dX9_weaken_0 rfl rfl ?_
  refine go_get (pc := 1) fX9_12 rfl (gz_b (by decide)) xw0 rfl dX9_weaken_1 ?_
  refine go_get (pc := 4) fX9_84 rfl (gz_b (by decide)) xw1 rfl dX9_weaken_4 ?_
  refine go_iload_n (pc := 7) dX9_weaken_7 rfl rfl ?_
  refine gq_callV_i (pc := 8) (F := wX G o) vX9_88 rfl (tX2_wasMade h) rfl rfl (gz_b (by decide)) xw2 rfl (Nat.le_of_ble_eq_true rfl) ⟨Nat.le_of_ble_eq_true rfl, Nat.le_of_ble_eq_true rfl, Nat.le_add_right _ _, Nat.le_add_right _ _⟩ dX9_weaken_8 (fun r2 c1 h => ?_)
  refine go_if_eq (pc := 11) (tgt := 22) dX9_weaken_11 (by decide) (fun q3 => ?_) (fun q3 => ?_)
  · have h := h.1 q3
    refine go_bipush (pc := 22) (v := (-101)) dX9_weaken_22 (by decide) ?_
    exact gq_iret (pc := 24) (F := wX G o) rfl dX9_weaken_24 h
  · have h := h.2 q3
    refine go_aload_n (pc := 14) dX9_weaken_14 rfl rfl ?_
    refine go_iload_n (pc := 15) dX9_weaken_15 rfl rfl ?_
    refine gq_callV_i (pc := 16) (F := wX G o) vX9_125 rfl (tX9_isUnknownTarget h) rfl rfl (gz_b (by decide)) xw0 rfl (Nat.le_of_ble_eq_true rfl) ⟨Nat.le_of_ble_eq_true rfl, Nat.le_of_ble_eq_true rfl, Nat.le_add_right _ _, Nat.le_add_right _ _⟩ dX9_weaken_16 (fun r5 c4 h => ?_)
    refine go_if_eq (pc := 19) (tgt := 25) dX9_weaken_19 (by decide) (fun q6 => ?_) (fun q6 => ?_)
    · have h := h.1 q6
      refine go_aload_n (pc := 25) dX9_weaken_25 rfl rfl ?_
      refine go_aload_n (pc := 26) dX9_weaken_26 rfl rfl ?_
      refine go_get (pc := 27) fX9_40 rfl (gz_b (by decide)) xw0 rfl dX9_weaken_27 ?_
      refine go_iload_n (pc := 30) dX9_weaken_30 rfl rfl ?_
      refine go_iload_n (pc := 31) dX9_weaken_31 rfl rfl ?_
      refine gq_callV_i (pc := 32) (F := wX G o) vX9_135 rfl (tX0_setWeakLink h) rfl rfl (gz_b (by decide)) xw69 rfl (Nat.le_of_ble_eq_true rfl) ⟨Nat.le_of_ble_eq_true rfl, Nat.le_of_ble_eq_true rfl, Nat.le_add_right _ _, Nat.le_add_right _ _⟩ dX9_weaken_32 (fun r8 c7 h => ?_)
      refine gq_callV_i (pc := 35) (F := wX G o) vX9_80 rfl (tX9_answer h) rfl rfl (gz_b (by decide)) xw0 rfl (Nat.le_of_ble_eq_true rfl) ⟨Nat.le_of_ble_eq_true rfl, Nat.le_of_ble_eq_true rfl, Nat.le_add_right _ _, Nat.le_add_right _ _⟩ dX9_weaken_35 (fun r10 c9 h => ?_)
      exact gq_iret (pc := 38) (F := wX G o) rfl dX9_weaken_38 h
    · have h := h.2 q6
      refine go_bipush (pc := 22) (v := (-101)) dX9_weaken_22 (by decide) ?_
      exact gq_iret (pc := 24) (F := wX G o) rfl dX9_weaken_24 h
def wX0_lookAt (l1 : Int32) (c : gMem) (Q : Int32 → gMem → Prop) : Prop :=
  wX0_wrongAs 3 l1 c (fun r2 c1 =>
  ((r2 = 0 →
    wX2_weakPlace l1 c1 (fun r5 c4 =>
    vp_in r5 4000 ∧
    ∀ v6, v6 = c4 3 r5.toNatClampNeg →
    wX7_mark v6 4 l1 0 c4 (fun c8 =>
    Q v6 c8))) ∧
   (¬ r2 = 0 →
    Q r2 c1)))
set_option maxRecDepth 100000 in
set_option maxHeartbeats 4000000 in
theorem tX0_lookAt {l : Launch} {G : gG} {k : Nat} {o : gMem} {Q : Int32 → gMem → Prop} {l1 : Int32} {c : gMem} (h : wX0_lookAt l1 c Q) : Cq l G mX0_lookAt 2 48 [.ref (G.2.1 + 69), .int l1] 84 k (wX G o c) (qi (wX G o) Q) := by
  refine Cq.of (by decide) (Nat.le_of_ble_eq_true rfl) ?_
  show Go l G mX0_lookAt (gbq G 2 48 84 k (qi (wX G o) Q)) 0 [(0, .ref (G.2.1 + 69)), (1, .int l1)] [] 84 k (wX G o c)
  unfold wX0_lookAt at h
  refine go_aload_n (pc := 0) dX0_lookAt_0 rfl rfl ?_
  refine go_iconst (pc := 1) (v := 3) dX0_lookAt_1 (by decide) ?_
  refine go_iload_n (pc := 2) dX0_lookAt_2 rfl rfl ?_
  refine gq_callV_i (pc := 3) (F := wX G o) vX0_90 rfl (tX0_wrongAs h) rfl rfl (gz_b (by decide)) xw69 rfl (Nat.le_of_ble_eq_true rfl) ⟨Nat.le_of_ble_eq_true rfl, Nat.le_of_ble_eq_true rfl, Nat.le_add_right _ _, Nat.le_add_right _ _⟩ dX0_lookAt_3 (fun r2 c1 h => ?_)
  refine go_istore_n (pc := 6) (lv' := [(2, .int r2), (0, .ref (G.2.1 + 69)), (1, .int l1)]) dX0_lookAt_6 rfl (by decide) rfl ?_
  refine go_iload_n (pc := 7) dX0_lookAt_7 rfl rfl ?_
  refine go_if_eq (pc := 8) (tgt := 13) dX0_lookAt_8 (by decide) (fun q3 => ?_) (fun q3 => ?_)
  · have h := h.1 q3
    refine go_aload_n (pc := 13) dX0_lookAt_13 rfl rfl ?_
    refine go_get (pc := 14) fX0_21 rfl (gz_b (by decide)) xw69 rfl dX0_lookAt_14 ?_
    refine go_get (pc := 17) fX0_86 rfl (gz_b (by decide)) xw2 rfl dX0_lookAt_17 ?_
    refine go_aload_n (pc := 20) dX0_lookAt_20 rfl rfl ?_
    refine go_get (pc := 21) fX0_21 rfl (gz_b (by decide)) xw69 rfl dX0_lookAt_21 ?_
    refine go_iload_n (pc := 24) dX0_lookAt_24 rfl rfl ?_
    refine gq_callV_i (pc := 25) (F := wX G o) vX0_93 rfl (tX2_weakPlace h) rfl rfl (gz_b (by decide)) xw2 rfl (Nat.le_of_ble_eq_true rfl) ⟨Nat.le_of_ble_eq_true rfl, Nat.le_of_ble_eq_true rfl, Nat.le_add_right _ _, Nat.le_add_right _ _⟩ dX0_lookAt_25 (fun r5 c4 h => ?_)
    obtain ⟨b7, h⟩ := h
    refine gb_iald (pc := 28) (gz_b (by decide)) xw3 b7 dX0_lookAt_28 (fun v6 ev6 => ?_)
    have h := h v6 ev6
    refine go_istore_n (pc := 29) (lv' := [(3, .int v6), (2, .int r2), (0, .ref (G.2.1 + 69)), (1, .int l1)]) dX0_lookAt_29 rfl (by decide) rfl ?_
    refine go_aload_n (pc := 30) dX0_lookAt_30 rfl rfl ?_
    refine go_get (pc := 31) fX0_22 rfl (gz_b (by decide)) xw69 rfl dX0_lookAt_31 ?_
    refine go_iload_n (pc := 34) dX0_lookAt_34 rfl rfl ?_
    refine go_iconst (pc := 35) (v := 4) dX0_lookAt_35 (by decide) ?_
    refine go_iload_n (pc := 36) dX0_lookAt_36 rfl rfl ?_
    refine go_iconst (pc := 37) (v := 0) dX0_lookAt_37 (by decide) ?_
    refine gq_callV_v (pc := 38) (F := wX G o) vX0_58 rfl (tX7_mark h) rfl rfl (gz_b (by decide)) xw65 rfl (Nat.le_of_ble_eq_true rfl) ⟨Nat.le_of_ble_eq_true rfl, Nat.le_of_ble_eq_true rfl, Nat.le_add_right _ _, Nat.le_add_right _ _⟩ dX0_lookAt_38 (fun c8 h => ?_)
    refine go_iload_n (pc := 41) dX0_lookAt_41 rfl rfl ?_
    exact gq_iret (pc := 42) (F := wX G o) rfl dX0_lookAt_42 h
  · have h := h.2 q3
    refine go_iload_n (pc := 11) dX0_lookAt_11 rfl rfl ?_
    exact gq_iret (pc := 12) (F := wX G o) rfl dX0_lookAt_12 h
def wX9_look (l1 : Int32) (c : gMem) (Q : Int32 → gMem → Prop) : Prop :=
  wX2_wasMade l1 c (fun r2 c1 =>
  ((r2 = 0 →
    Q ((-101)) c1) ∧
   (¬ r2 = 0 →
    wX0_lookAt l1 c1 (fun r5 c4 =>
    wX9_answer r5 c4 (fun r7 c6 =>
    Q r7 c6)))))
set_option maxRecDepth 100000 in
set_option maxHeartbeats 4000000 in
theorem tX9_look {l : Launch} {G : gG} {k : Nat} {o : gMem} {Q : Int32 → gMem → Prop} {l1 : Int32} {c : gMem} (h : wX9_look l1 c Q) : Cq l G mX9_look 3 71 [.ref (G.2.1 + 0), .int l1] 84 k (wX G o c) (qi (wX G o) Q) := by
  refine Cq.of (by decide) (Nat.le_of_ble_eq_true rfl) ?_
  show Go l G mX9_look (gbq G 3 71 84 k (qi (wX G o) Q)) 0 [(0, .ref (G.2.1 + 0)), (1, .int l1)] [] 84 k (wX G o c)
  unfold wX9_look at h
  refine go_aload_n (pc := 0) dX9_look_0 rfl rfl ?_
  refine go_get (pc := 1) fX9_12 rfl (gz_b (by decide)) xw0 rfl dX9_look_1 ?_
  refine go_get (pc := 4) fX9_84 rfl (gz_b (by decide)) xw1 rfl dX9_look_4 ?_
  refine go_iload_n (pc := 7) dX9_look_7 rfl rfl ?_
  refine gq_callV_i (pc := 8) (F := wX G o) vX9_88 rfl (tX2_wasMade h) rfl rfl (gz_b (by decide)) xw2 rfl (Nat.le_of_ble_eq_true rfl) ⟨Nat.le_of_ble_eq_true rfl, Nat.le_of_ble_eq_true rfl, Nat.le_add_right _ _, Nat.le_add_right _ _⟩ dX9_look_8 (fun r2 c1 h => ?_)
  refine go_if_ne (pc := 11) (tgt := 17) dX9_look_11 (by decide) (fun q3 => ?_) (fun q3 => ?_)
  · have h := h.2 q3
    refine go_aload_n (pc := 17) dX9_look_17 rfl rfl ?_
    refine go_aload_n (pc := 18) dX9_look_18 rfl rfl ?_
    refine go_get (pc := 19) fX9_40 rfl (gz_b (by decide)) xw0 rfl dX9_look_19 ?_
    refine go_iload_n (pc := 22) dX9_look_22 rfl rfl ?_
    refine gq_callV_i (pc := 23) (F := wX G o) vX9_138 rfl (tX0_lookAt h) rfl rfl (gz_b (by decide)) xw69 rfl (Nat.le_of_ble_eq_true rfl) ⟨Nat.le_of_ble_eq_true rfl, Nat.le_of_ble_eq_true rfl, Nat.le_add_right _ _, Nat.le_add_right _ _⟩ dX9_look_23 (fun r5 c4 h => ?_)
    refine gq_callV_i (pc := 26) (F := wX G o) vX9_80 rfl (tX9_answer h) rfl rfl (gz_b (by decide)) xw0 rfl (Nat.le_of_ble_eq_true rfl) ⟨Nat.le_of_ble_eq_true rfl, Nat.le_of_ble_eq_true rfl, Nat.le_add_right _ _, Nat.le_add_right _ _⟩ dX9_look_26 (fun r7 c6 h => ?_)
    exact gq_iret (pc := 29) (F := wX G o) rfl dX9_look_29 h
  · have h := h.1 q3
    refine go_bipush (pc := 14) (v := (-101)) dX9_look_14 (by decide) ?_
    exact gq_iret (pc := 16) (F := wX G o) rfl dX9_look_16 h
def wX2_swapNumber (l1 : Int32) (l2 : Int32) (c : gMem) (Q : Int32 → gMem → Prop) : Prop :=
  vp_in l1 500 ∧
  ∀ v1, v1 = c 4 l1.toNatClampNeg →
  vp_in (v1 + 3) 4000 ∧
  ∀ v3, v3 = c 3 (v1 + 3).toNatClampNeg →
  vp_in l1 500 ∧
  ∀ v5, v5 = c 4 l1.toNatClampNeg →
  vp_in (v5 + 3) 4000 ∧
  ∀ c7, c7 = mp c 3 (v5 + 3).toNatClampNeg l2 →
  Q v3 c7
set_option maxRecDepth 100000 in
set_option maxHeartbeats 4000000 in
theorem tX2_swapNumber {l : Launch} {G : gG} {k : Nat} {o : gMem} {Q : Int32 → gMem → Prop} {l1 : Int32} {l2 : Int32} {c : gMem} (h : wX2_swapNumber l1 l2 c Q) : Cq l G mX2_swapNumber 0 0 [.ref (G.2.1 + 2), .int l1, .int l2] 84 k (wX G o c) (qi (wX G o) Q) := by
  refine Cq.of (by decide) (Nat.le_of_ble_eq_true rfl) ?_
  show Go l G mX2_swapNumber (gbq G 0 0 84 k (qi (wX G o) Q)) 0 [(0, .ref (G.2.1 + 2)), (1, .int l1), (2, .int l2)] [] 84 k (wX G o c)
  unfold wX2_swapNumber at h
  refine go_aload_n (pc := 0) dX2_swapNumber_0 rfl rfl ?_
  refine go_get (pc := 1) fX2_9 rfl (gz_b (by decide)) xw2 rfl dX2_swapNumber_1 ?_
  refine go_aload_n (pc := 4) dX2_swapNumber_4 rfl rfl ?_
  refine go_get (pc := 5) fX2_15 rfl (gz_b (by decide)) xw2 rfl dX2_swapNumber_5 ?_
  refine go_iload_n (pc := 8) dX2_swapNumber_8 rfl rfl ?_
  obtain ⟨b2, h⟩ := h
  refine gb_iald (pc := 9) (gz_b (by decide)) xw4 b2 dX2_swapNumber_9 (fun v1 ev1 => ?_)
  have h := h v1 ev1
  refine go_iconst (pc := 10) (v := 3) dX2_swapNumber_10 (by decide) ?_
  refine go_iadd (pc := 11) dX2_swapNumber_11 ?_
  obtain ⟨b4, h⟩ := h
  refine gb_iald (pc := 12) (gz_b (by decide)) xw3 b4 dX2_swapNumber_12 (fun v3 ev3 => ?_)
  have h := h v3 ev3
  refine go_istore_n (pc := 13) (lv' := [(3, .int v3), (0, .ref (G.2.1 + 2)), (1, .int l1), (2, .int l2)]) dX2_swapNumber_13 rfl (by decide) rfl ?_
  refine go_aload_n (pc := 14) dX2_swapNumber_14 rfl rfl ?_
  refine go_get (pc := 15) fX2_9 rfl (gz_b (by decide)) xw2 rfl dX2_swapNumber_15 ?_
  refine go_aload_n (pc := 18) dX2_swapNumber_18 rfl rfl ?_
  refine go_get (pc := 19) fX2_15 rfl (gz_b (by decide)) xw2 rfl dX2_swapNumber_19 ?_
  refine go_iload_n (pc := 22) dX2_swapNumber_22 rfl rfl ?_
  obtain ⟨b6, h⟩ := h
  refine gb_iald (pc := 23) (gz_b (by decide)) xw4 b6 dX2_swapNumber_23 (fun v5 ev5 => ?_)
  have h := h v5 ev5
  refine go_iconst (pc := 24) (v := 3) dX2_swapNumber_24 (by decide) ?_
  refine go_iadd (pc := 25) dX2_swapNumber_25 ?_
  refine go_iload_n (pc := 26) dX2_swapNumber_26 rfl rfl ?_
  obtain ⟨b8, h⟩ := h
  refine gb_iast (pc := 27) (F := wX G o) (gz_b (by decide)) xw3 b8 xa3 dX2_swapNumber_27 (fun c7 ec7 => ?_)
  have h := h c7 ec7
  refine go_iload_n (pc := 28) dX2_swapNumber_28 rfl rfl ?_
  exact gq_iret (pc := 29) (F := wX G o) rfl dX2_swapNumber_29 h
def wX9_number (l1 : Int32) (l2 : Int32) (c : gMem) (Q : Int32 → gMem → Prop) : Prop :=
  wX2_wasMade l1 c (fun r2 c1 =>
  ((r2 = 0 →
    Q ((-101)) c1) ∧
   (¬ r2 = 0 →
    wX0_wrongAs 4 l1 c1 (fun r5 c4 =>
    wX9_answer r5 c4 (fun r7 c6 =>
    ((r5 = 0 →
      wX2_swapNumber l1 l2 c6 (fun r10 c9 =>
      Q r10 c9)) ∧
     (¬ r5 = 0 →
      Q r5 c6)))))))
set_option maxRecDepth 100000 in
set_option maxHeartbeats 4000000 in
theorem tX9_number {l : Launch} {G : gG} {k : Nat} {o : gMem} {Q : Int32 → gMem → Prop} {l1 : Int32} {l2 : Int32} {c : gMem} (h : wX9_number l1 l2 c Q) : Cq l G mX9_number 2 44 [.ref (G.2.1 + 0), .int l1, .int l2] 84 k (wX G o c) (qi (wX G o) Q) := by
  refine Cq.of (by decide) (Nat.le_of_ble_eq_true rfl) ?_
  show Go l G mX9_number (gbq G 2 44 84 k (qi (wX G o) Q)) 0 [(0, .ref (G.2.1 + 0)), (1, .int l1), (2, .int l2)] [] 84 k (wX G o c)
  unfold wX9_number at h
  refine go_aload_n (pc := 0) dX9_number_0 rfl rfl ?_
  refine go_get (pc := 1) fX9_12 rfl (gz_b (by decide)) xw0 rfl dX9_number_1 ?_
  refine go_get (pc := 4) fX9_84 rfl (gz_b (by decide)) xw1 rfl dX9_number_4 ?_
  refine go_iload_n (pc := 7) dX9_number_7 rfl rfl ?_
  refine gq_callV_i (pc := 8) (F := wX G o) vX9_88 rfl (tX2_wasMade h) rfl rfl (gz_b (by decide)) xw2 rfl (Nat.le_of_ble_eq_true rfl) ⟨Nat.le_of_ble_eq_true rfl, Nat.le_of_ble_eq_true rfl, Nat.le_add_right _ _, Nat.le_add_right _ _⟩ dX9_number_8 (fun r2 c1 h => ?_)
  refine go_if_ne (pc := 11) (tgt := 17) dX9_number_11 (by decide) (fun q3 => ?_) (fun q3 => ?_)
  · have h := h.2 q3
    refine go_aload_n (pc := 17) dX9_number_17 rfl rfl ?_
    refine go_get (pc := 18) fX9_40 rfl (gz_b (by decide)) xw0 rfl dX9_number_18 ?_
    refine go_iconst (pc := 21) (v := 4) dX9_number_21 (by decide) ?_
    refine go_iload_n (pc := 22) dX9_number_22 rfl rfl ?_
    refine gq_callV_i (pc := 23) (F := wX G o) vX9_141 rfl (tX0_wrongAs h) rfl rfl (gz_b (by decide)) xw69 rfl (Nat.le_of_ble_eq_true rfl) ⟨Nat.le_of_ble_eq_true rfl, Nat.le_of_ble_eq_true rfl, Nat.le_add_right _ _, Nat.le_add_right _ _⟩ dX9_number_23 (fun r5 c4 h => ?_)
    refine go_istore_n (pc := 26) (lv' := [(3, .int r5), (0, .ref (G.2.1 + 0)), (1, .int l1), (2, .int l2)]) dX9_number_26 rfl (by decide) rfl ?_
    refine go_aload_n (pc := 27) dX9_number_27 rfl rfl ?_
    refine go_iload_n (pc := 28) dX9_number_28 rfl rfl ?_
    refine gq_callV_i (pc := 29) (F := wX G o) vX9_80 rfl (tX9_answer h) rfl rfl (gz_b (by decide)) xw0 rfl (Nat.le_of_ble_eq_true rfl) ⟨Nat.le_of_ble_eq_true rfl, Nat.le_of_ble_eq_true rfl, Nat.le_add_right _ _, Nat.le_add_right _ _⟩ dX9_number_29 (fun r7 c6 h => ?_)
    refine go_pop (pc := 32) dX9_number_32 rfl ?_
    refine go_iload_n (pc := 33) dX9_number_33 rfl rfl ?_
    refine go_if_eq (pc := 34) (tgt := 41) dX9_number_34 (by decide) (fun q8 => ?_) (fun q8 => ?_)
    · have h := h.1 q8
      refine go_aload_n (pc := 41) dX9_number_41 rfl rfl ?_
      refine go_get (pc := 42) fX9_12 rfl (gz_b (by decide)) xw0 rfl dX9_number_42 ?_
      refine go_get (pc := 45) fX9_84 rfl (gz_b (by decide)) xw1 rfl dX9_number_45 ?_
      refine go_iload_n (pc := 48) dX9_number_48 rfl rfl ?_
      refine go_iload_n (pc := 49) dX9_number_49 rfl rfl ?_
      refine gq_callV_i (pc := 50) (F := wX G o) vX9_144 rfl (tX2_swapNumber h) rfl rfl (gz_b (by decide)) xw2 rfl (Nat.le_of_ble_eq_true rfl) ⟨Nat.le_of_ble_eq_true rfl, Nat.le_of_ble_eq_true rfl, Nat.le_add_right _ _, Nat.le_add_right _ _⟩ dX9_number_50 (fun r10 c9 h => ?_)
      exact gq_iret (pc := 53) (F := wX G o) rfl dX9_number_53 h
    · have h := h.2 q8
      refine go_iload_n (pc := 37) dX9_number_37 rfl rfl ?_
      refine go_goto (pc := 38) (tgt := 53) dX9_number_38 (by decide) ?_
      exact gq_iret (pc := 53) (F := wX G o) rfl dX9_number_53 h
  · have h := h.1 q3
    refine go_bipush (pc := 14) (v := (-101)) dX9_number_14 (by decide) ?_
    exact gq_iret (pc := 16) (F := wX G o) rfl dX9_number_16 h
def wX0_byteOf (l1 : Int32) (l2 : Int32) (c : gMem) (Q : Int32 → gMem → Prop) : Prop :=
  wX0_wrongAs 2 l1 c (fun r2 c1 =>
  ((r2 = 0 →
    ((l2 < 0 →
      Q ((-12)) c1) ∧
     (¬ l2 < 0 →
      wX2_countOf l1 c1 (fun r6 c5 =>
      ((l2 < r6 →
        vp_in l1 500 ∧
        ∀ v8, v8 = c5 4 l1.toNatClampNeg →
        vp_in ((v8 + 2) + (l2 / 4)) 4000 ∧
        ∀ v10, v10 = c5 3 ((v8 + 2) + (l2 / 4)).toNatClampNeg →
        Q (((v10.toUInt32 >>> ((8 * (l2 - (l2 / 4) * 4)).toUInt32 &&& Int32.toUInt32 31)).toInt32) &&& 255) c5) ∧
       (¬ l2 < r6 →
        Q ((-12)) c5)))))) ∧
   (¬ r2 = 0 →
    Q r2 c1)))
set_option maxRecDepth 100000 in
set_option maxHeartbeats 4000000 in
theorem tX0_byteOf {l : Launch} {G : gG} {k : Nat} {o : gMem} {Q : Int32 → gMem → Prop} {l1 : Int32} {l2 : Int32} {c : gMem} (h : wX0_byteOf l1 l2 c Q) : Cq l G mX0_byteOf 2 44 [.ref (G.2.1 + 69), .int l1, .int l2] 84 k (wX G o c) (qi (wX G o) Q) := by
  refine Cq.of (by decide) (Nat.le_of_ble_eq_true rfl) ?_
  show Go l G mX0_byteOf (gbq G 2 44 84 k (qi (wX G o) Q)) 0 [(0, .ref (G.2.1 + 69)), (1, .int l1), (2, .int l2)] [] 84 k (wX G o c)
  unfold wX0_byteOf at h
  refine go_aload_n (pc := 0) dX0_byteOf_0 rfl rfl ?_
  refine go_iconst (pc := 1) (v := 2) dX0_byteOf_1 (by decide) ?_
  refine go_iload_n (pc := 2) dX0_byteOf_2 rfl rfl ?_
  refine gq_callV_i (pc := 3) (F := wX G o) vX0_90 rfl (tX0_wrongAs h) rfl rfl (gz_b (by decide)) xw69 rfl (Nat.le_of_ble_eq_true rfl) ⟨Nat.le_of_ble_eq_true rfl, Nat.le_of_ble_eq_true rfl, Nat.le_add_right _ _, Nat.le_add_right _ _⟩ dX0_byteOf_3 (fun r2 c1 h => ?_)
  refine go_istore_n (pc := 6) (lv' := [(3, .int r2), (0, .ref (G.2.1 + 69)), (1, .int l1), (2, .int l2)]) dX0_byteOf_6 rfl (by decide) rfl ?_
  refine go_iload_n (pc := 7) dX0_byteOf_7 rfl rfl ?_
  refine go_if_eq (pc := 8) (tgt := 13) dX0_byteOf_8 (by decide) (fun q3 => ?_) (fun q3 => ?_)
  · have h := h.1 q3
    refine go_iload_n (pc := 13) dX0_byteOf_13 rfl rfl ?_
    refine go_if_lt (pc := 14) (tgt := 29) dX0_byteOf_14 (by decide) (fun q4 => ?_) (fun q4 => ?_)
    · have h := h.1 q4
      refine go_bipush (pc := 29) (v := (-12)) dX0_byteOf_29 (by decide) ?_
      exact gq_iret (pc := 31) (F := wX G o) rfl dX0_byteOf_31 h
    · have h := h.2 q4
      refine go_iload_n (pc := 17) dX0_byteOf_17 rfl rfl ?_
      refine go_aload_n (pc := 18) dX0_byteOf_18 rfl rfl ?_
      refine go_get (pc := 19) fX0_21 rfl (gz_b (by decide)) xw69 rfl dX0_byteOf_19 ?_
      refine go_iload_n (pc := 22) dX0_byteOf_22 rfl rfl ?_
      refine gq_callV_i (pc := 23) (F := wX G o) vX0_96 rfl (tX2_countOf h) rfl rfl (gz_b (by decide)) xw2 rfl (Nat.le_of_ble_eq_true rfl) ⟨Nat.le_of_ble_eq_true rfl, Nat.le_of_ble_eq_true rfl, Nat.le_add_right _ _, Nat.le_add_right _ _⟩ dX0_byteOf_23 (fun r6 c5 h => ?_)
      refine go_icmp_lt (pc := 26) (tgt := 32) dX0_byteOf_26 (by decide) (fun q7 => ?_) (fun q7 => ?_)
      · have h := h.1 q7
        refine go_aload_n (pc := 32) dX0_byteOf_32 rfl rfl ?_
        refine go_get (pc := 33) fX0_21 rfl (gz_b (by decide)) xw69 rfl dX0_byteOf_33 ?_
        refine go_get (pc := 36) fX0_86 rfl (gz_b (by decide)) xw2 rfl dX0_byteOf_36 ?_
        refine go_aload_n (pc := 39) dX0_byteOf_39 rfl rfl ?_
        refine go_get (pc := 40) fX0_21 rfl (gz_b (by decide)) xw69 rfl dX0_byteOf_40 ?_
        refine go_get (pc := 43) fX0_99 rfl (gz_b (by decide)) xw2 rfl dX0_byteOf_43 ?_
        refine go_iload_n (pc := 46) dX0_byteOf_46 rfl rfl ?_
        obtain ⟨b9, h⟩ := h
        refine gb_iald (pc := 47) (gz_b (by decide)) xw4 b9 dX0_byteOf_47 (fun v8 ev8 => ?_)
        have h := h v8 ev8
        refine go_iconst (pc := 48) (v := 2) dX0_byteOf_48 (by decide) ?_
        refine go_iadd (pc := 49) dX0_byteOf_49 ?_
        refine go_iload_n (pc := 50) dX0_byteOf_50 rfl rfl ?_
        refine go_iconst (pc := 51) (v := 4) dX0_byteOf_51 (by decide) ?_
        refine go_idiv (pc := 52) dX0_byteOf_52 (by decide) ?_
        refine go_iadd (pc := 53) dX0_byteOf_53 ?_
        obtain ⟨b11, h⟩ := h
        refine gb_iald (pc := 54) (gz_b (by decide)) xw3 b11 dX0_byteOf_54 (fun v10 ev10 => ?_)
        have h := h v10 ev10
        refine go_bipush (pc := 55) (v := 8) dX0_byteOf_55 (by decide) ?_
        refine go_iload_n (pc := 57) dX0_byteOf_57 rfl rfl ?_
        refine go_iconst (pc := 58) (v := 4) dX0_byteOf_58 (by decide) ?_
        refine go_irem (pc := 59) dX0_byteOf_59 (by decide) ?_
        refine go_imul (pc := 60) dX0_byteOf_60 ?_
        refine gb_iushr (pc := 61) dX0_byteOf_61 ?_
        refine go_sipush (pc := 62) (v := 255) dX0_byteOf_62 (by decide) ?_
        refine go_iand (pc := 65) dX0_byteOf_65 ?_
        exact gq_iret (pc := 66) (F := wX G o) rfl dX0_byteOf_66 h
      · have h := h.2 q7
        refine go_bipush (pc := 29) (v := (-12)) dX0_byteOf_29 (by decide) ?_
        exact gq_iret (pc := 31) (F := wX G o) rfl dX0_byteOf_31 h
  · have h := h.2 q3
    refine go_iload_n (pc := 11) dX0_byteOf_11 rfl rfl ?_
    exact gq_iret (pc := 12) (F := wX G o) rfl dX0_byteOf_12 h
def wX0_setByte (l1 : Int32) (l2 : Int32) (l3 : Int32) (c : gMem) (Q : Int32 → gMem → Prop) : Prop :=
  wX0_byteOf l1 l2 c (fun r2 c1 =>
  ((r2 < 0 →
    Q r2 c1) ∧
   (¬ r2 < 0 →
    vp_in l1 500 ∧
    ∀ v4, v4 = c1 4 l1.toNatClampNeg →
    vp_in ((v4 + 2) + (l2 / 4)) 4000 ∧
    ∀ v6, v6 = c1 3 ((v4 + 2) + (l2 / 4)).toNatClampNeg →
    vp_in ((v4 + 2) + (l2 / 4)) 4000 ∧
    ∀ c8, c8 = mp c1 3 ((v4 + 2) + (l2 / 4)).toNatClampNeg ((v6 &&& ((255 <<< ((8 * (l2 - (l2 / 4) * 4)) &&& 31)) ^^^ ((-1)))) ||| ((l3 &&& 255) <<< ((8 * (l2 - (l2 / 4) * 4)) &&& 31))) →
    Q r2 c8)))
set_option maxRecDepth 100000 in
set_option maxHeartbeats 4000000 in
theorem tX0_setByte {l : Launch} {G : gG} {k : Nat} {o : gMem} {Q : Int32 → gMem → Prop} {l1 : Int32} {l2 : Int32} {l3 : Int32} {c : gMem} (h : wX0_setByte l1 l2 l3 c Q) : Cq l G mX0_setByte 3 67 [.ref (G.2.1 + 69), .int l1, .int l2, .int l3] 84 k (wX G o c) (qi (wX G o) Q) := by
  refine Cq.of (by decide) (Nat.le_of_ble_eq_true rfl) ?_
  show Go l G mX0_setByte (gbq G 3 67 84 k (qi (wX G o) Q)) 0 [(0, .ref (G.2.1 + 69)), (1, .int l1), (2, .int l2), (3, .int l3)] [] 84 k (wX G o c)
  unfold wX0_setByte at h
  refine go_aload_n (pc := 0) dX0_setByte_0 rfl rfl ?_
  refine go_iload_n (pc := 1) dX0_setByte_1 rfl rfl ?_
  refine go_iload_n (pc := 2) dX0_setByte_2 rfl rfl ?_
  refine gq_callV_i (pc := 3) (F := wX G o) vX0_102 rfl (tX0_byteOf h) rfl rfl (gz_b (by decide)) xw69 rfl (Nat.le_of_ble_eq_true rfl) ⟨Nat.le_of_ble_eq_true rfl, Nat.le_of_ble_eq_true rfl, Nat.le_add_right _ _, Nat.le_add_right _ _⟩ dX0_setByte_3 (fun r2 c1 h => ?_)
  refine go_istore (pc := 6) (lv' := [(4, .int r2), (0, .ref (G.2.1 + 69)), (1, .int l1), (2, .int l2), (3, .int l3)]) dX0_setByte_6 (by decide) rfl ?_
  refine go_iload (pc := 8) dX0_setByte_8 rfl ?_
  refine go_if_lt (pc := 10) (tgt := 76) dX0_setByte_10 (by decide) (fun q3 => ?_) (fun q3 => ?_)
  · have h := h.1 q3
    refine go_iload (pc := 76) dX0_setByte_76 rfl ?_
    exact gq_iret (pc := 78) (F := wX G o) rfl dX0_setByte_78 h
  · have h := h.2 q3
    refine go_aload_n (pc := 13) dX0_setByte_13 rfl rfl ?_
    refine go_get (pc := 14) fX0_21 rfl (gz_b (by decide)) xw69 rfl dX0_setByte_14 ?_
    refine go_get (pc := 17) fX0_99 rfl (gz_b (by decide)) xw2 rfl dX0_setByte_17 ?_
    refine go_iload_n (pc := 20) dX0_setByte_20 rfl rfl ?_
    obtain ⟨b5, h⟩ := h
    refine gb_iald (pc := 21) (gz_b (by decide)) xw4 b5 dX0_setByte_21 (fun v4 ev4 => ?_)
    have h := h v4 ev4
    refine go_iconst (pc := 22) (v := 2) dX0_setByte_22 (by decide) ?_
    refine go_iadd (pc := 23) dX0_setByte_23 ?_
    refine go_iload_n (pc := 24) dX0_setByte_24 rfl rfl ?_
    refine go_iconst (pc := 25) (v := 4) dX0_setByte_25 (by decide) ?_
    refine go_idiv (pc := 26) dX0_setByte_26 (by decide) ?_
    refine go_iadd (pc := 27) dX0_setByte_27 ?_
    refine go_istore (pc := 28) (lv' := [(5, .int ((v4 + 2) + (l2 / 4))), (4, .int r2), (0, .ref (G.2.1 + 69)), (1, .int l1), (2, .int l2), (3, .int l3)]) dX0_setByte_28 (by decide) rfl ?_
    refine go_bipush (pc := 30) (v := 8) dX0_setByte_30 (by decide) ?_
    refine go_iload_n (pc := 32) dX0_setByte_32 rfl rfl ?_
    refine go_iconst (pc := 33) (v := 4) dX0_setByte_33 (by decide) ?_
    refine go_irem (pc := 34) dX0_setByte_34 (by decide) ?_
    refine go_imul (pc := 35) dX0_setByte_35 ?_
    refine go_istore (pc := 36) (lv' := [(6, .int (8 * (l2 - (l2 / 4) * 4))), (5, .int ((v4 + 2) + (l2 / 4))), (4, .int r2), (0, .ref (G.2.1 + 69)), (1, .int l1), (2, .int l2), (3, .int l3)]) dX0_setByte_36 (by decide) rfl ?_
    refine go_aload_n (pc := 38) dX0_setByte_38 rfl rfl ?_
    refine go_get (pc := 39) fX0_21 rfl (gz_b (by decide)) xw69 rfl dX0_setByte_39 ?_
    refine go_get (pc := 42) fX0_86 rfl (gz_b (by decide)) xw2 rfl dX0_setByte_42 ?_
    refine go_iload (pc := 45) dX0_setByte_45 rfl ?_
    refine go_aload_n (pc := 47) dX0_setByte_47 rfl rfl ?_
    refine go_get (pc := 48) fX0_21 rfl (gz_b (by decide)) xw69 rfl dX0_setByte_48 ?_
    refine go_get (pc := 51) fX0_86 rfl (gz_b (by decide)) xw2 rfl dX0_setByte_51 ?_
    refine go_iload (pc := 54) dX0_setByte_54 rfl ?_
    obtain ⟨b7, h⟩ := h
    refine gb_iald (pc := 56) (gz_b (by decide)) xw3 b7 dX0_setByte_56 (fun v6 ev6 => ?_)
    have h := h v6 ev6
    refine go_sipush (pc := 57) (v := 255) dX0_setByte_57 (by decide) ?_
    refine go_iload (pc := 60) dX0_setByte_60 rfl ?_
    refine go_ishl (pc := 62) dX0_setByte_62 ?_
    refine go_iconst (pc := 63) (v := (-1)) dX0_setByte_63 (by decide) ?_
    refine go_ixor (pc := 64) dX0_setByte_64 ?_
    refine go_iand (pc := 65) dX0_setByte_65 ?_
    refine go_iload_n (pc := 66) dX0_setByte_66 rfl rfl ?_
    refine go_sipush (pc := 67) (v := 255) dX0_setByte_67 (by decide) ?_
    refine go_iand (pc := 70) dX0_setByte_70 ?_
    refine go_iload (pc := 71) dX0_setByte_71 rfl ?_
    refine go_ishl (pc := 73) dX0_setByte_73 ?_
    refine go_ior (pc := 74) dX0_setByte_74 ?_
    obtain ⟨b9, h⟩ := h
    refine gb_iast (pc := 75) (F := wX G o) (gz_b (by decide)) xw3 b9 xa3 dX0_setByte_75 (fun c8 ec8 => ?_)
    have h := h c8 ec8
    refine go_iload (pc := 76) dX0_setByte_76 rfl ?_
    exact gq_iret (pc := 78) (F := wX G o) rfl dX0_setByte_78 h
def wX9_put (l1 : Int32) (l2 : Int32) (l3 : Int32) (c : gMem) (Q : Int32 → gMem → Prop) : Prop :=
  wX2_wasMade l1 c (fun r2 c1 =>
  ((r2 = 0 →
    Q ((-101)) c1) ∧
   (¬ r2 = 0 →
    wX0_setByte l1 l2 l3 c1 (fun r5 c4 =>
    wX9_answer r5 c4 (fun r7 c6 =>
    Q r7 c6)))))
set_option maxRecDepth 100000 in
set_option maxHeartbeats 4000000 in
theorem tX9_put {l : Launch} {G : gG} {k : Nat} {o : gMem} {Q : Int32 → gMem → Prop} {l1 : Int32} {l2 : Int32} {l3 : Int32} {c : gMem} (h : wX9_put l1 l2 l3 c Q) : Cq l G mX9_put 4 93 [.ref (G.2.1 + 0), .int l1, .int l2, .int l3] 84 k (wX G o c) (qi (wX G o) Q) := by
  refine Cq.of (by decide) (Nat.le_of_ble_eq_true rfl) ?_
  show Go l G mX9_put (gbq G 4 93 84 k (qi (wX G o) Q)) 0 [(0, .ref (G.2.1 + 0)), (1, .int l1), (2, .int l2), (3, .int l3)] [] 84 k (wX G o c)
  unfold wX9_put at h
  refine go_aload_n (pc := 0) dX9_put_0 rfl rfl ?_
  refine go_get (pc := 1) fX9_12 rfl (gz_b (by decide)) xw0 rfl dX9_put_1 ?_
  refine go_get (pc := 4) fX9_84 rfl (gz_b (by decide)) xw1 rfl dX9_put_4 ?_
  refine go_iload_n (pc := 7) dX9_put_7 rfl rfl ?_
  refine gq_callV_i (pc := 8) (F := wX G o) vX9_88 rfl (tX2_wasMade h) rfl rfl (gz_b (by decide)) xw2 rfl (Nat.le_of_ble_eq_true rfl) ⟨Nat.le_of_ble_eq_true rfl, Nat.le_of_ble_eq_true rfl, Nat.le_add_right _ _, Nat.le_add_right _ _⟩ dX9_put_8 (fun r2 c1 h => ?_)
  refine go_if_ne (pc := 11) (tgt := 17) dX9_put_11 (by decide) (fun q3 => ?_) (fun q3 => ?_)
  · have h := h.2 q3
    refine go_aload_n (pc := 17) dX9_put_17 rfl rfl ?_
    refine go_aload_n (pc := 18) dX9_put_18 rfl rfl ?_
    refine go_get (pc := 19) fX9_40 rfl (gz_b (by decide)) xw0 rfl dX9_put_19 ?_
    refine go_iload_n (pc := 22) dX9_put_22 rfl rfl ?_
    refine go_iload_n (pc := 23) dX9_put_23 rfl rfl ?_
    refine go_iload_n (pc := 24) dX9_put_24 rfl rfl ?_
    refine gq_callV_i (pc := 25) (F := wX G o) vX9_147 rfl (tX0_setByte h) rfl rfl (gz_b (by decide)) xw69 rfl (Nat.le_of_ble_eq_true rfl) ⟨Nat.le_of_ble_eq_true rfl, Nat.le_of_ble_eq_true rfl, Nat.le_add_right _ _, Nat.le_add_right _ _⟩ dX9_put_25 (fun r5 c4 h => ?_)
    refine gq_callV_i (pc := 28) (F := wX G o) vX9_80 rfl (tX9_answer h) rfl rfl (gz_b (by decide)) xw0 rfl (Nat.le_of_ble_eq_true rfl) ⟨Nat.le_of_ble_eq_true rfl, Nat.le_of_ble_eq_true rfl, Nat.le_add_right _ _, Nat.le_add_right _ _⟩ dX9_put_28 (fun r7 c6 h => ?_)
    exact gq_iret (pc := 31) (F := wX G o) rfl dX9_put_31 h
  · have h := h.1 q3
    refine go_bipush (pc := 14) (v := (-101)) dX9_put_14 (by decide) ?_
    exact gq_iret (pc := 16) (F := wX G o) rfl dX9_put_16 h
def wX9_byteAt (l1 : Int32) (l2 : Int32) (c : gMem) (Q : Int32 → gMem → Prop) : Prop :=
  wX2_wasMade l1 c (fun r2 c1 =>
  ((r2 = 0 →
    Q ((-101)) c1) ∧
   (¬ r2 = 0 →
    wX0_byteOf l1 l2 c1 (fun r5 c4 =>
    wX9_answer r5 c4 (fun r7 c6 =>
    Q r7 c6)))))
set_option maxRecDepth 100000 in
set_option maxHeartbeats 4000000 in
theorem tX9_byteAt {l : Launch} {G : gG} {k : Nat} {o : gMem} {Q : Int32 → gMem → Prop} {l1 : Int32} {l2 : Int32} {c : gMem} (h : wX9_byteAt l1 l2 c Q) : Cq l G mX9_byteAt 3 67 [.ref (G.2.1 + 0), .int l1, .int l2] 84 k (wX G o c) (qi (wX G o) Q) := by
  refine Cq.of (by decide) (Nat.le_of_ble_eq_true rfl) ?_
  show Go l G mX9_byteAt (gbq G 3 67 84 k (qi (wX G o) Q)) 0 [(0, .ref (G.2.1 + 0)), (1, .int l1), (2, .int l2)] [] 84 k (wX G o c)
  unfold wX9_byteAt at h
  refine go_aload_n (pc := 0) dX9_byteAt_0 rfl rfl ?_
  refine go_get (pc := 1) fX9_12 rfl (gz_b (by decide)) xw0 rfl dX9_byteAt_1 ?_
  refine go_get (pc := 4) fX9_84 rfl (gz_b (by decide)) xw1 rfl dX9_byteAt_4 ?_
  refine go_iload_n (pc := 7) dX9_byteAt_7 rfl rfl ?_
  refine gq_callV_i (pc := 8) (F := wX G o) vX9_88 rfl (tX2_wasMade h) rfl rfl (gz_b (by decide)) xw2 rfl (Nat.le_of_ble_eq_true rfl) ⟨Nat.le_of_ble_eq_true rfl, Nat.le_of_ble_eq_true rfl, Nat.le_add_right _ _, Nat.le_add_right _ _⟩ dX9_byteAt_8 (fun r2 c1 h => ?_)
  refine go_if_ne (pc := 11) (tgt := 17) dX9_byteAt_11 (by decide) (fun q3 => ?_) (fun q3 => ?_)
  · have h := h.2 q3
    refine go_aload_n (pc := 17) dX9_byteAt_17 rfl rfl ?_
    refine go_aload_n (pc := 18) dX9_byteAt_18 rfl rfl ?_
    refine go_get (pc := 19) fX9_40 rfl (gz_b (by decide)) xw0 rfl dX9_byteAt_19 ?_
    refine go_iload_n (pc := 22) dX9_byteAt_22 rfl rfl ?_
    refine go_iload_n (pc := 23) dX9_byteAt_23 rfl rfl ?_
    refine gq_callV_i (pc := 24) (F := wX G o) vX9_150 rfl (tX0_byteOf h) rfl rfl (gz_b (by decide)) xw69 rfl (Nat.le_of_ble_eq_true rfl) ⟨Nat.le_of_ble_eq_true rfl, Nat.le_of_ble_eq_true rfl, Nat.le_add_right _ _, Nat.le_add_right _ _⟩ dX9_byteAt_24 (fun r5 c4 h => ?_)
    refine gq_callV_i (pc := 27) (F := wX G o) vX9_80 rfl (tX9_answer h) rfl rfl (gz_b (by decide)) xw0 rfl (Nat.le_of_ble_eq_true rfl) ⟨Nat.le_of_ble_eq_true rfl, Nat.le_of_ble_eq_true rfl, Nat.le_add_right _ _, Nat.le_add_right _ _⟩ dX9_byteAt_27 (fun r7 c6 h => ?_)
    exact gq_iret (pc := 30) (F := wX G o) rfl dX9_byteAt_30 h
  · have h := h.1 q3
    refine go_bipush (pc := 14) (v := (-101)) dX9_byteAt_14 (by decide) ?_
    exact gq_iret (pc := 16) (F := wX G o) rfl dX9_byteAt_16 h
def wX0_setKey (l1 : Int32) (l2 : Int32) (l3 : Int32) (c : gMem) (Q : Int32 → gMem → Prop) : Prop :=
  wX0_wrongAs 5 l1 c (fun r2 c1 =>
  ((r2 = 0 →
    wX2_countOf l1 c1 (fun r5 c4 =>
    ((l2 < 0 →
      Q ((-12)) c4) ∧
     (¬ l2 < 0 →
      ((l2 < r5 →
        vp_in l1 500 ∧
        ∀ v8, v8 = c4 4 l1.toNatClampNeg →
        vp_in (((v8 + 2) + r5) + l2) 4000 ∧
        ∀ c10, c10 = mp c4 3 (((v8 + 2) + r5) + l2).toNatClampNeg l3 →
        Q 1 c10) ∧
       (¬ l2 < r5 →
        Q ((-12)) c4)))))) ∧
   (¬ r2 = 0 →
    Q r2 c1)))
set_option maxRecDepth 100000 in
set_option maxHeartbeats 4000000 in
theorem tX0_setKey {l : Launch} {G : gG} {k : Nat} {o : gMem} {Q : Int32 → gMem → Prop} {l1 : Int32} {l2 : Int32} {l3 : Int32} {c : gMem} (h : wX0_setKey l1 l2 l3 c Q) : Cq l G mX0_setKey 2 44 [.ref (G.2.1 + 69), .int l1, .int l2, .int l3] 84 k (wX G o c) (qi (wX G o) Q) := by
  refine Cq.of (by decide) (Nat.le_of_ble_eq_true rfl) ?_
  show Go l G mX0_setKey (gbq G 2 44 84 k (qi (wX G o) Q)) 0 [(0, .ref (G.2.1 + 69)), (1, .int l1), (2, .int l2), (3, .int l3)] [] 84 k (wX G o c)
  unfold wX0_setKey at h
  refine go_aload_n (pc := 0) dX0_setKey_0 rfl rfl ?_
  refine go_iconst (pc := 1) (v := 5) dX0_setKey_1 (by decide) ?_
  refine go_iload_n (pc := 2) dX0_setKey_2 rfl rfl ?_
  refine gq_callV_i (pc := 3) (F := wX G o) vX0_90 rfl (tX0_wrongAs h) rfl rfl (gz_b (by decide)) xw69 rfl (Nat.le_of_ble_eq_true rfl) ⟨Nat.le_of_ble_eq_true rfl, Nat.le_of_ble_eq_true rfl, Nat.le_add_right _ _, Nat.le_add_right _ _⟩ dX0_setKey_3 (fun r2 c1 h => ?_)
  refine go_istore (pc := 6) (lv' := [(4, .int r2), (0, .ref (G.2.1 + 69)), (1, .int l1), (2, .int l2), (3, .int l3)]) dX0_setKey_6 (by decide) rfl ?_
  refine go_iload (pc := 8) dX0_setKey_8 rfl ?_
  refine go_if_eq (pc := 10) (tgt := 16) dX0_setKey_10 (by decide) (fun q3 => ?_) (fun q3 => ?_)
  · have h := h.1 q3
    refine go_aload_n (pc := 16) dX0_setKey_16 rfl rfl ?_
    refine go_get (pc := 17) fX0_21 rfl (gz_b (by decide)) xw69 rfl dX0_setKey_17 ?_
    refine go_iload_n (pc := 20) dX0_setKey_20 rfl rfl ?_
    refine gq_callV_i (pc := 21) (F := wX G o) vX0_96 rfl (tX2_countOf h) rfl rfl (gz_b (by decide)) xw2 rfl (Nat.le_of_ble_eq_true rfl) ⟨Nat.le_of_ble_eq_true rfl, Nat.le_of_ble_eq_true rfl, Nat.le_add_right _ _, Nat.le_add_right _ _⟩ dX0_setKey_21 (fun r5 c4 h => ?_)
    refine go_istore (pc := 24) (lv' := [(5, .int r5), (4, .int r2), (0, .ref (G.2.1 + 69)), (1, .int l1), (2, .int l2), (3, .int l3)]) dX0_setKey_24 (by decide) rfl ?_
    refine go_iload_n (pc := 26) dX0_setKey_26 rfl rfl ?_
    refine go_if_lt (pc := 27) (tgt := 36) dX0_setKey_27 (by decide) (fun q6 => ?_) (fun q6 => ?_)
    · have h := h.1 q6
      refine go_bipush (pc := 36) (v := (-12)) dX0_setKey_36 (by decide) ?_
      exact gq_iret (pc := 38) (F := wX G o) rfl dX0_setKey_38 h
    · have h := h.2 q6
      refine go_iload_n (pc := 30) dX0_setKey_30 rfl rfl ?_
      refine go_iload (pc := 31) dX0_setKey_31 rfl ?_
      refine go_icmp_lt (pc := 33) (tgt := 39) dX0_setKey_33 (by decide) (fun q7 => ?_) (fun q7 => ?_)
      · have h := h.1 q7
        refine go_aload_n (pc := 39) dX0_setKey_39 rfl rfl ?_
        refine go_get (pc := 40) fX0_21 rfl (gz_b (by decide)) xw69 rfl dX0_setKey_40 ?_
        refine go_get (pc := 43) fX0_86 rfl (gz_b (by decide)) xw2 rfl dX0_setKey_43 ?_
        refine go_aload_n (pc := 46) dX0_setKey_46 rfl rfl ?_
        refine go_get (pc := 47) fX0_21 rfl (gz_b (by decide)) xw69 rfl dX0_setKey_47 ?_
        refine go_get (pc := 50) fX0_99 rfl (gz_b (by decide)) xw2 rfl dX0_setKey_50 ?_
        refine go_iload_n (pc := 53) dX0_setKey_53 rfl rfl ?_
        obtain ⟨b9, h⟩ := h
        refine gb_iald (pc := 54) (gz_b (by decide)) xw4 b9 dX0_setKey_54 (fun v8 ev8 => ?_)
        have h := h v8 ev8
        refine go_iconst (pc := 55) (v := 2) dX0_setKey_55 (by decide) ?_
        refine go_iadd (pc := 56) dX0_setKey_56 ?_
        refine go_iload (pc := 57) dX0_setKey_57 rfl ?_
        refine go_iadd (pc := 59) dX0_setKey_59 ?_
        refine go_iload_n (pc := 60) dX0_setKey_60 rfl rfl ?_
        refine go_iadd (pc := 61) dX0_setKey_61 ?_
        refine go_iload_n (pc := 62) dX0_setKey_62 rfl rfl ?_
        obtain ⟨b11, h⟩ := h
        refine gb_iast (pc := 63) (F := wX G o) (gz_b (by decide)) xw3 b11 xa3 dX0_setKey_63 (fun c10 ec10 => ?_)
        have h := h c10 ec10
        refine go_iconst (pc := 64) (v := 1) dX0_setKey_64 (by decide) ?_
        exact gq_iret (pc := 65) (F := wX G o) rfl dX0_setKey_65 h
      · have h := h.2 q7
        refine go_bipush (pc := 36) (v := (-12)) dX0_setKey_36 (by decide) ?_
        exact gq_iret (pc := 38) (F := wX G o) rfl dX0_setKey_38 h
  · have h := h.2 q3
    refine go_iload (pc := 13) dX0_setKey_13 rfl ?_
    exact gq_iret (pc := 15) (F := wX G o) rfl dX0_setKey_15 h
def wX9_key (l1 : Int32) (l2 : Int32) (l3 : Int32) (c : gMem) (Q : Int32 → gMem → Prop) : Prop :=
  wX2_wasMade l1 c (fun r2 c1 =>
  ((r2 = 0 →
    Q ((-101)) c1) ∧
   (¬ r2 = 0 →
    wX0_setKey l1 l2 l3 c1 (fun r5 c4 =>
    wX9_answer r5 c4 (fun r7 c6 =>
    Q r7 c6)))))
set_option maxRecDepth 100000 in
set_option maxHeartbeats 4000000 in
theorem tX9_key {l : Launch} {G : gG} {k : Nat} {o : gMem} {Q : Int32 → gMem → Prop} {l1 : Int32} {l2 : Int32} {l3 : Int32} {c : gMem} (h : wX9_key l1 l2 l3 c Q) : Cq l G mX9_key 3 69 [.ref (G.2.1 + 0), .int l1, .int l2, .int l3] 84 k (wX G o c) (qi (wX G o) Q) := by
  refine Cq.of (by decide) (Nat.le_of_ble_eq_true rfl) ?_
  show Go l G mX9_key (gbq G 3 69 84 k (qi (wX G o) Q)) 0 [(0, .ref (G.2.1 + 0)), (1, .int l1), (2, .int l2), (3, .int l3)] [] 84 k (wX G o c)
  unfold wX9_key at h
  refine go_aload_n (pc := 0) dX9_key_0 rfl rfl ?_
  refine go_get (pc := 1) fX9_12 rfl (gz_b (by decide)) xw0 rfl dX9_key_1 ?_
  refine go_get (pc := 4) fX9_84 rfl (gz_b (by decide)) xw1 rfl dX9_key_4 ?_
  refine go_iload_n (pc := 7) dX9_key_7 rfl rfl ?_
  refine gq_callV_i (pc := 8) (F := wX G o) vX9_88 rfl (tX2_wasMade h) rfl rfl (gz_b (by decide)) xw2 rfl (Nat.le_of_ble_eq_true rfl) ⟨Nat.le_of_ble_eq_true rfl, Nat.le_of_ble_eq_true rfl, Nat.le_add_right _ _, Nat.le_add_right _ _⟩ dX9_key_8 (fun r2 c1 h => ?_)
  refine go_if_ne (pc := 11) (tgt := 17) dX9_key_11 (by decide) (fun q3 => ?_) (fun q3 => ?_)
  · have h := h.2 q3
    refine go_aload_n (pc := 17) dX9_key_17 rfl rfl ?_
    refine go_aload_n (pc := 18) dX9_key_18 rfl rfl ?_
    refine go_get (pc := 19) fX9_40 rfl (gz_b (by decide)) xw0 rfl dX9_key_19 ?_
    refine go_iload_n (pc := 22) dX9_key_22 rfl rfl ?_
    refine go_iload_n (pc := 23) dX9_key_23 rfl rfl ?_
    refine go_iload_n (pc := 24) dX9_key_24 rfl rfl ?_
    refine gq_callV_i (pc := 25) (F := wX G o) vX9_153 rfl (tX0_setKey h) rfl rfl (gz_b (by decide)) xw69 rfl (Nat.le_of_ble_eq_true rfl) ⟨Nat.le_of_ble_eq_true rfl, Nat.le_of_ble_eq_true rfl, Nat.le_add_right _ _, Nat.le_add_right _ _⟩ dX9_key_25 (fun r5 c4 h => ?_)
    refine gq_callV_i (pc := 28) (F := wX G o) vX9_80 rfl (tX9_answer h) rfl rfl (gz_b (by decide)) xw0 rfl (Nat.le_of_ble_eq_true rfl) ⟨Nat.le_of_ble_eq_true rfl, Nat.le_of_ble_eq_true rfl, Nat.le_add_right _ _, Nat.le_add_right _ _⟩ dX9_key_28 (fun r7 c6 h => ?_)
    exact gq_iret (pc := 31) (F := wX G o) rfl dX9_key_31 h
  · have h := h.1 q3
    refine go_bipush (pc := 14) (v := (-101)) dX9_key_14 (by decide) ?_
    exact gq_iret (pc := 16) (F := wX G o) rfl dX9_key_16 h
def wX0_placeOfKey_p42_b (P42 : Int32 → Int32 → Int32 → Int32 → gMem → Prop) (l2 : Int32) (l4 : Int32) (l5 : Int32) (l6 : Int32) (c : gMem) (Q : Int32 → gMem → Prop) : Prop :=
  ((l4 ≤ l6 →
    Q ((-1)) c) ∧
   (¬ l4 ≤ l6 →
    vp_in (l5 + l6) 4000 ∧
    ∀ v2, v2 = c 3 (l5 + l6).toNatClampNeg →
    ((v2 = l2 →
      Q l6 c) ∧
     (¬ v2 = l2 →
      P42 l2 l4 l5 (l6 + 1) c))))
def wX0_placeOfKey_p42 (l2 : Int32) (l4 : Int32) (l5 : Int32) (l6 : Int32) (c : gMem) (Q : Int32 → gMem → Prop) : Prop :=
  ∀ P42 : Int32 → Int32 → Int32 → Int32 → gMem → Prop, (∀ (l2 : Int32) (l4 : Int32) (l5 : Int32) (l6 : Int32) (c : gMem), wX0_placeOfKey_p42_b P42 l2 l4 l5 l6 c Q → P42 l2 l4 l5 l6 c) → P42 l2 l4 l5 l6 c
set_option maxRecDepth 100000 in
set_option maxHeartbeats 4000000 in
theorem tX0_placeOfKey_p42_b {l : Launch} {G : gG} {k : Nat} {o : gMem} {Q : Int32 → gMem → Prop} {P42 : Int32 → Int32 → Int32 → Int32 → gMem → Prop} (hP42 : ∀ (l2 : Int32) (l4 : Int32) (l5 : Int32) (l6 : Int32) (c : gMem), P42 l2 l4 l5 l6 c → Go l G mX0_placeOfKey (gbq G 2 44 84 k (qi (wX G o) Q)) 42 [(0, .ref (G.2.1 + 69)), (2, .int l2), (4, .int l4), (5, .int l5), (6, .int l6)] [] 84 k (wX G o c)) {l2 : Int32} {l4 : Int32} {l5 : Int32} {l6 : Int32} {c : gMem} (h : wX0_placeOfKey_p42_b P42 l2 l4 l5 l6 c Q) : Go l G mX0_placeOfKey (gbq G 2 44 84 k (qi (wX G o) Q)) 42 [(0, .ref (G.2.1 + 69)), (2, .int l2), (4, .int l4), (5, .int l5), (6, .int l6)] [] 84 k (wX G o c) := by
  unfold wX0_placeOfKey_p42_b at h
  refine go_iload (pc := 42) dX0_placeOfKey_42 rfl ?_
  refine go_iload (pc := 44) dX0_placeOfKey_44 rfl ?_
  refine go_icmp_ge (pc := 46) (tgt := 75) dX0_placeOfKey_46 (by decide) (fun q1 => ?_) (fun q1 => ?_)
  · have h := h.1 q1
    refine go_iconst (pc := 75) (v := (-1)) dX0_placeOfKey_75 (by decide) ?_
    exact gq_iret (pc := 76) (F := wX G o) rfl dX0_placeOfKey_76 h
  · have h := h.2 q1
    refine go_aload_n (pc := 49) dX0_placeOfKey_49 rfl rfl ?_
    refine go_get (pc := 50) fX0_21 rfl (gz_b (by decide)) xw69 rfl dX0_placeOfKey_50 ?_
    refine go_get (pc := 53) fX0_86 rfl (gz_b (by decide)) xw2 rfl dX0_placeOfKey_53 ?_
    refine go_iload (pc := 56) dX0_placeOfKey_56 rfl ?_
    refine go_iload (pc := 58) dX0_placeOfKey_58 rfl ?_
    refine go_iadd (pc := 60) dX0_placeOfKey_60 ?_
    obtain ⟨b3, h⟩ := h
    refine gb_iald (pc := 61) (gz_b (by decide)) xw3 b3 dX0_placeOfKey_61 (fun v2 ev2 => ?_)
    have h := h v2 ev2
    refine go_iload_n (pc := 62) dX0_placeOfKey_62 rfl rfl ?_
    refine go_icmp_ne (pc := 63) (tgt := 69) dX0_placeOfKey_63 (by decide) (fun q4 => ?_) (fun q4 => ?_)
    · have h := h.2 q4
      refine go_iinc (pc := 69) (v := l6 + 1) (lv' := [(6, .int (l6 + 1)), (0, .ref (G.2.1 + 69)), (2, .int l2), (4, .int l4), (5, .int l5)]) dX0_placeOfKey_69 4 rfl (by first | rfl | decide) (by decide) rfl ?_
      refine go_goto (pc := 72) (tgt := 42) dX0_placeOfKey_72 (by decide) ?_
      refine go_lv [1, 2, 3, 4, 0] rfl ?_
      exact hP42 _ _ _ _ _ h
    · have h := h.1 q4
      refine go_iload (pc := 66) dX0_placeOfKey_66 rfl ?_
      exact gq_iret (pc := 68) (F := wX G o) rfl dX0_placeOfKey_68 h
set_option maxRecDepth 100000 in
set_option maxHeartbeats 4000000 in
theorem tX0_placeOfKey_p42 {l : Launch} {G : gG} {k : Nat} {o : gMem} {Q : Int32 → gMem → Prop} {l2 : Int32} {l4 : Int32} {l5 : Int32} {l6 : Int32} {c : gMem} (h : wX0_placeOfKey_p42 l2 l4 l5 l6 c Q) : Go l G mX0_placeOfKey (gbq G 2 44 84 k (qi (wX G o) Q)) 42 [(0, .ref (G.2.1 + 69)), (2, .int l2), (4, .int l4), (5, .int l5), (6, .int l6)] [] 84 k (wX G o c) :=
  h (fun l2 l4 l5 l6 c => Go l G mX0_placeOfKey (gbq G 2 44 84 k (qi (wX G o) Q)) 42 [(0, .ref (G.2.1 + 69)), (2, .int l2), (4, .int l4), (5, .int l5), (6, .int l6)] [] 84 k (wX G o c)) (fun l2 l4 l5 l6 c hb => tX0_placeOfKey_p42_b (fun l2 l4 l5 l6 c hh => hh) hb)
def wX0_placeOfKey (l1 : Int32) (l2 : Int32) (c : gMem) (Q : Int32 → gMem → Prop) : Prop :=
  wX0_wrongAs 5 l1 c (fun r2 c1 =>
  ((r2 = 0 →
    wX2_countOf l1 c1 (fun r5 c4 =>
    vp_in l1 500 ∧
    ∀ v6, v6 = c4 4 l1.toNatClampNeg →
    wX0_placeOfKey_p42 l2 r5 ((v6 + 2) + r5) 0 c4 Q)) ∧
   (¬ r2 = 0 →
    Q r2 c1)))
set_option maxRecDepth 100000 in
set_option maxHeartbeats 4000000 in
theorem tX0_placeOfKey {l : Launch} {G : gG} {k : Nat} {o : gMem} {Q : Int32 → gMem → Prop} {l1 : Int32} {l2 : Int32} {c : gMem} (h : wX0_placeOfKey l1 l2 c Q) : Cq l G mX0_placeOfKey 2 44 [.ref (G.2.1 + 69), .int l1, .int l2] 84 k (wX G o c) (qi (wX G o) Q) := by
  refine Cq.of (by decide) (Nat.le_of_ble_eq_true rfl) ?_
  show Go l G mX0_placeOfKey (gbq G 2 44 84 k (qi (wX G o) Q)) 0 [(0, .ref (G.2.1 + 69)), (1, .int l1), (2, .int l2)] [] 84 k (wX G o c)
  unfold wX0_placeOfKey at h
  refine go_aload_n (pc := 0) dX0_placeOfKey_0 rfl rfl ?_
  refine go_iconst (pc := 1) (v := 5) dX0_placeOfKey_1 (by decide) ?_
  refine go_iload_n (pc := 2) dX0_placeOfKey_2 rfl rfl ?_
  refine gq_callV_i (pc := 3) (F := wX G o) vX0_90 rfl (tX0_wrongAs h) rfl rfl (gz_b (by decide)) xw69 rfl (Nat.le_of_ble_eq_true rfl) ⟨Nat.le_of_ble_eq_true rfl, Nat.le_of_ble_eq_true rfl, Nat.le_add_right _ _, Nat.le_add_right _ _⟩ dX0_placeOfKey_3 (fun r2 c1 h => ?_)
  refine go_istore_n (pc := 6) (lv' := [(3, .int r2), (0, .ref (G.2.1 + 69)), (1, .int l1), (2, .int l2)]) dX0_placeOfKey_6 rfl (by decide) rfl ?_
  refine go_iload_n (pc := 7) dX0_placeOfKey_7 rfl rfl ?_
  refine go_if_eq (pc := 8) (tgt := 13) dX0_placeOfKey_8 (by decide) (fun q3 => ?_) (fun q3 => ?_)
  · have h := h.1 q3
    refine go_aload_n (pc := 13) dX0_placeOfKey_13 rfl rfl ?_
    refine go_get (pc := 14) fX0_21 rfl (gz_b (by decide)) xw69 rfl dX0_placeOfKey_14 ?_
    refine go_iload_n (pc := 17) dX0_placeOfKey_17 rfl rfl ?_
    refine gq_callV_i (pc := 18) (F := wX G o) vX0_96 rfl (tX2_countOf h) rfl rfl (gz_b (by decide)) xw2 rfl (Nat.le_of_ble_eq_true rfl) ⟨Nat.le_of_ble_eq_true rfl, Nat.le_of_ble_eq_true rfl, Nat.le_add_right _ _, Nat.le_add_right _ _⟩ dX0_placeOfKey_18 (fun r5 c4 h => ?_)
    refine go_istore (pc := 21) (lv' := [(4, .int r5), (3, .int r2), (0, .ref (G.2.1 + 69)), (1, .int l1), (2, .int l2)]) dX0_placeOfKey_21 (by decide) rfl ?_
    refine go_aload_n (pc := 23) dX0_placeOfKey_23 rfl rfl ?_
    refine go_get (pc := 24) fX0_21 rfl (gz_b (by decide)) xw69 rfl dX0_placeOfKey_24 ?_
    refine go_get (pc := 27) fX0_99 rfl (gz_b (by decide)) xw2 rfl dX0_placeOfKey_27 ?_
    refine go_iload_n (pc := 30) dX0_placeOfKey_30 rfl rfl ?_
    obtain ⟨b7, h⟩ := h
    refine gb_iald (pc := 31) (gz_b (by decide)) xw4 b7 dX0_placeOfKey_31 (fun v6 ev6 => ?_)
    have h := h v6 ev6
    refine go_iconst (pc := 32) (v := 2) dX0_placeOfKey_32 (by decide) ?_
    refine go_iadd (pc := 33) dX0_placeOfKey_33 ?_
    refine go_iload (pc := 34) dX0_placeOfKey_34 rfl ?_
    refine go_iadd (pc := 36) dX0_placeOfKey_36 ?_
    refine go_istore (pc := 37) (lv' := [(5, .int ((v6 + 2) + r5)), (4, .int r5), (3, .int r2), (0, .ref (G.2.1 + 69)), (1, .int l1), (2, .int l2)]) dX0_placeOfKey_37 (by decide) rfl ?_
    refine go_iconst (pc := 39) (v := 0) dX0_placeOfKey_39 (by decide) ?_
    refine go_istore (pc := 40) (lv' := [(6, .int 0), (5, .int ((v6 + 2) + r5)), (4, .int r5), (3, .int r2), (0, .ref (G.2.1 + 69)), (1, .int l1), (2, .int l2)]) dX0_placeOfKey_40 (by decide) rfl ?_
    refine go_lv [4, 6, 2, 1, 0] rfl ?_
    exact tX0_placeOfKey_p42 h
  · have h := h.2 q3
    refine go_iload_n (pc := 11) dX0_placeOfKey_11 rfl rfl ?_
    exact gq_iret (pc := 12) (F := wX G o) rfl dX0_placeOfKey_12 h
def wX9_find (l1 : Int32) (l2 : Int32) (c : gMem) (Q : Int32 → gMem → Prop) : Prop :=
  wX2_wasMade l1 c (fun r2 c1 =>
  ((r2 = 0 →
    Q ((-101)) c1) ∧
   (¬ r2 = 0 →
    wX0_placeOfKey l1 l2 c1 (fun r5 c4 =>
    wX9_answer r5 c4 (fun r7 c6 =>
    Q r7 c6)))))
set_option maxRecDepth 100000 in
set_option maxHeartbeats 4000000 in
theorem tX9_find {l : Launch} {G : gG} {k : Nat} {o : gMem} {Q : Int32 → gMem → Prop} {l1 : Int32} {l2 : Int32} {c : gMem} (h : wX9_find l1 l2 c Q) : Cq l G mX9_find 3 70 [.ref (G.2.1 + 0), .int l1, .int l2] 84 k (wX G o c) (qi (wX G o) Q) := by
  refine Cq.of (by decide) (Nat.le_of_ble_eq_true rfl) ?_
  show Go l G mX9_find (gbq G 3 70 84 k (qi (wX G o) Q)) 0 [(0, .ref (G.2.1 + 0)), (1, .int l1), (2, .int l2)] [] 84 k (wX G o c)
  unfold wX9_find at h
  refine go_aload_n (pc := 0) dX9_find_0 rfl rfl ?_
  refine go_get (pc := 1) fX9_12 rfl (gz_b (by decide)) xw0 rfl dX9_find_1 ?_
  refine go_get (pc := 4) fX9_84 rfl (gz_b (by decide)) xw1 rfl dX9_find_4 ?_
  refine go_iload_n (pc := 7) dX9_find_7 rfl rfl ?_
  refine gq_callV_i (pc := 8) (F := wX G o) vX9_88 rfl (tX2_wasMade h) rfl rfl (gz_b (by decide)) xw2 rfl (Nat.le_of_ble_eq_true rfl) ⟨Nat.le_of_ble_eq_true rfl, Nat.le_of_ble_eq_true rfl, Nat.le_add_right _ _, Nat.le_add_right _ _⟩ dX9_find_8 (fun r2 c1 h => ?_)
  refine go_if_ne (pc := 11) (tgt := 17) dX9_find_11 (by decide) (fun q3 => ?_) (fun q3 => ?_)
  · have h := h.2 q3
    refine go_aload_n (pc := 17) dX9_find_17 rfl rfl ?_
    refine go_aload_n (pc := 18) dX9_find_18 rfl rfl ?_
    refine go_get (pc := 19) fX9_40 rfl (gz_b (by decide)) xw0 rfl dX9_find_19 ?_
    refine go_iload_n (pc := 22) dX9_find_22 rfl rfl ?_
    refine go_iload_n (pc := 23) dX9_find_23 rfl rfl ?_
    refine gq_callV_i (pc := 24) (F := wX G o) vX9_156 rfl (tX0_placeOfKey h) rfl rfl (gz_b (by decide)) xw69 rfl (Nat.le_of_ble_eq_true rfl) ⟨Nat.le_of_ble_eq_true rfl, Nat.le_of_ble_eq_true rfl, Nat.le_add_right _ _, Nat.le_add_right _ _⟩ dX9_find_24 (fun r5 c4 h => ?_)
    refine gq_callV_i (pc := 27) (F := wX G o) vX9_80 rfl (tX9_answer h) rfl rfl (gz_b (by decide)) xw0 rfl (Nat.le_of_ble_eq_true rfl) ⟨Nat.le_of_ble_eq_true rfl, Nat.le_of_ble_eq_true rfl, Nat.le_add_right _ _, Nat.le_add_right _ _⟩ dX9_find_27 (fun r7 c6 h => ?_)
    exact gq_iret (pc := 30) (F := wX G o) rfl dX9_find_30 h
  · have h := h.1 q3
    refine go_bipush (pc := 14) (v := (-101)) dX9_find_14 (by decide) ?_
    exact gq_iret (pc := 16) (F := wX G o) rfl dX9_find_16 h
def wX0_setRoot (l1 : Int32) (l2 : Int32) (c : gMem) (Q : Int32 → gMem → Prop) : Prop :=
  wX0_isGoneTarget l2 c (fun r2 c1 =>
  ((r2 = 0 →
    vp_in l1 24 ∧
    ∀ v4, v4 = c1 20 l1.toNatClampNeg →
    vp_in l1 24 ∧
    ∀ c6, c6 = mp c1 20 l1.toNatClampNeg l2 →
    wX7_mark l2 3 ((-1)) l1 c6 (fun c8 =>
    Q v4 c8)) ∧
   (¬ r2 = 0 →
    Q ((-11)) c1)))
set_option maxRecDepth 100000 in
set_option maxHeartbeats 4000000 in
theorem tX0_setRoot {l : Launch} {G : gG} {k : Nat} {o : gMem} {Q : Int32 → gMem → Prop} {l1 : Int32} {l2 : Int32} {c : gMem} (h : wX0_setRoot l1 l2 c Q) : Cq l G mX0_setRoot 2 48 [.ref (G.2.1 + 69), .int l1, .int l2] 84 k (wX G o c) (qi (wX G o) Q) := by
  refine Cq.of (by decide) (Nat.le_of_ble_eq_true rfl) ?_
  show Go l G mX0_setRoot (gbq G 2 48 84 k (qi (wX G o) Q)) 0 [(0, .ref (G.2.1 + 69)), (1, .int l1), (2, .int l2)] [] 84 k (wX G o c)
  unfold wX0_setRoot at h
  refine go_aload_n (pc := 0) dX0_setRoot_0 rfl rfl ?_
  refine go_iload_n (pc := 1) dX0_setRoot_1 rfl rfl ?_
  refine gq_callV_i (pc := 2) (F := wX G o) vX0_73 rfl (tX0_isGoneTarget h) rfl rfl (gz_b (by decide)) xw69 rfl (Nat.le_of_ble_eq_true rfl) ⟨Nat.le_of_ble_eq_true rfl, Nat.le_of_ble_eq_true rfl, Nat.le_add_right _ _, Nat.le_add_right _ _⟩ dX0_setRoot_2 (fun r2 c1 h => ?_)
  refine go_if_eq (pc := 5) (tgt := 11) dX0_setRoot_5 (by decide) (fun q3 => ?_) (fun q3 => ?_)
  · have h := h.1 q3
    refine go_aload_n (pc := 11) dX0_setRoot_11 rfl rfl ?_
    refine go_get (pc := 12) fX0_9 rfl (gz_b (by decide)) xw69 rfl dX0_setRoot_12 ?_
    refine go_get (pc := 15) fX0_105 rfl (gz_b (by decide)) xw1 rfl dX0_setRoot_15 ?_
    refine go_iload_n (pc := 18) dX0_setRoot_18 rfl rfl ?_
    obtain ⟨b5, h⟩ := h
    refine gb_iald (pc := 19) (gz_b (by decide)) xw20 b5 dX0_setRoot_19 (fun v4 ev4 => ?_)
    have h := h v4 ev4
    refine go_istore_n (pc := 20) (lv' := [(3, .int v4), (0, .ref (G.2.1 + 69)), (1, .int l1), (2, .int l2)]) dX0_setRoot_20 rfl (by decide) rfl ?_
    refine go_aload_n (pc := 21) dX0_setRoot_21 rfl rfl ?_
    refine go_get (pc := 22) fX0_9 rfl (gz_b (by decide)) xw69 rfl dX0_setRoot_22 ?_
    refine go_get (pc := 25) fX0_105 rfl (gz_b (by decide)) xw1 rfl dX0_setRoot_25 ?_
    refine go_iload_n (pc := 28) dX0_setRoot_28 rfl rfl ?_
    refine go_iload_n (pc := 29) dX0_setRoot_29 rfl rfl ?_
    obtain ⟨b7, h⟩ := h
    refine gb_iast (pc := 30) (F := wX G o) (gz_b (by decide)) xw20 b7 xa20 dX0_setRoot_30 (fun c6 ec6 => ?_)
    have h := h c6 ec6
    refine go_aload_n (pc := 31) dX0_setRoot_31 rfl rfl ?_
    refine go_get (pc := 32) fX0_22 rfl (gz_b (by decide)) xw69 rfl dX0_setRoot_32 ?_
    refine go_iload_n (pc := 35) dX0_setRoot_35 rfl rfl ?_
    refine go_iconst (pc := 36) (v := 3) dX0_setRoot_36 (by decide) ?_
    refine go_iconst (pc := 37) (v := (-1)) dX0_setRoot_37 (by decide) ?_
    refine go_iload_n (pc := 38) dX0_setRoot_38 rfl rfl ?_
    refine gq_callV_v (pc := 39) (F := wX G o) vX0_58 rfl (tX7_mark h) rfl rfl (gz_b (by decide)) xw65 rfl (Nat.le_of_ble_eq_true rfl) ⟨Nat.le_of_ble_eq_true rfl, Nat.le_of_ble_eq_true rfl, Nat.le_add_right _ _, Nat.le_add_right _ _⟩ dX0_setRoot_39 (fun c8 h => ?_)
    refine go_iload_n (pc := 42) dX0_setRoot_42 rfl rfl ?_
    exact gq_iret (pc := 43) (F := wX G o) rfl dX0_setRoot_43 h
  · have h := h.2 q3
    refine go_bipush (pc := 8) (v := (-11)) dX0_setRoot_8 (by decide) ?_
    exact gq_iret (pc := 10) (F := wX G o) rfl dX0_setRoot_10 h
def wX9_root (l1 : Int32) (l2 : Int32) (c : gMem) (Q : Int32 → gMem → Prop) : Prop :=
  ((l1 < 0 →
    Q ((-101)) c) ∧
   (¬ l1 < 0 →
    ((24 ≤ l1 →
      Q ((-101)) c) ∧
     (¬ 24 ≤ l1 →
      wX9_isUnknownTarget l2 c (fun r4 c3 =>
      ((r4 = 0 →
        wX0_setRoot l1 l2 c3 (fun r7 c6 =>
        wX9_answer r7 c6 (fun r9 c8 =>
        Q r9 c8))) ∧
       (¬ r4 = 0 →
        Q ((-101)) c3)))))))
set_option maxRecDepth 100000 in
set_option maxHeartbeats 4000000 in
theorem tX9_root {l : Launch} {G : gG} {k : Nat} {o : gMem} {Q : Int32 → gMem → Prop} {l1 : Int32} {l2 : Int32} {c : gMem} (h : wX9_root l1 l2 c Q) : Cq l G mX9_root 3 71 [.ref (G.2.1 + 0), .int l1, .int l2] 84 k (wX G o c) (qi (wX G o) Q) := by
  refine Cq.of (by decide) (Nat.le_of_ble_eq_true rfl) ?_
  show Go l G mX9_root (gbq G 3 71 84 k (qi (wX G o) Q)) 0 [(0, .ref (G.2.1 + 0)), (1, .int l1), (2, .int l2)] [] 84 k (wX G o c)
  unfold wX9_root at h
  refine go_iload_n (pc := 0) dX9_root_0 rfl rfl ?_
  refine go_if_lt (pc := 1) (tgt := 18) dX9_root_1 (by decide) (fun q1 => ?_) (fun q1 => ?_)
  · have h := h.1 q1
    refine go_bipush (pc := 18) (v := (-101)) dX9_root_18 (by decide) ?_
    exact gq_iret (pc := 20) (F := wX G o) rfl dX9_root_20 h
  · have h := h.2 q1
    refine go_iload_n (pc := 4) dX9_root_4 rfl rfl ?_
    refine go_bipush (pc := 5) (v := 24) dX9_root_5 (by decide) ?_
    refine go_icmp_ge (pc := 7) (tgt := 18) dX9_root_7 (by decide) (fun q2 => ?_) (fun q2 => ?_)
    · have h := h.1 q2
      refine go_bipush (pc := 18) (v := (-101)) dX9_root_18 (by decide) ?_
      exact gq_iret (pc := 20) (F := wX G o) rfl dX9_root_20 h
    · have h := h.2 q2
      refine go_aload_n (pc := 10) dX9_root_10 rfl rfl ?_
      refine go_iload_n (pc := 11) dX9_root_11 rfl rfl ?_
      refine gq_callV_i (pc := 12) (F := wX G o) vX9_125 rfl (tX9_isUnknownTarget h) rfl rfl (gz_b (by decide)) xw0 rfl (Nat.le_of_ble_eq_true rfl) ⟨Nat.le_of_ble_eq_true rfl, Nat.le_of_ble_eq_true rfl, Nat.le_add_right _ _, Nat.le_add_right _ _⟩ dX9_root_12 (fun r4 c3 h => ?_)
      refine go_if_eq (pc := 15) (tgt := 21) dX9_root_15 (by decide) (fun q5 => ?_) (fun q5 => ?_)
      · have h := h.1 q5
        refine go_aload_n (pc := 21) dX9_root_21 rfl rfl ?_
        refine go_aload_n (pc := 22) dX9_root_22 rfl rfl ?_
        refine go_get (pc := 23) fX9_40 rfl (gz_b (by decide)) xw0 rfl dX9_root_23 ?_
        refine go_iload_n (pc := 26) dX9_root_26 rfl rfl ?_
        refine go_iload_n (pc := 27) dX9_root_27 rfl rfl ?_
        refine gq_callV_i (pc := 28) (F := wX G o) vX9_159 rfl (tX0_setRoot h) rfl rfl (gz_b (by decide)) xw69 rfl (Nat.le_of_ble_eq_true rfl) ⟨Nat.le_of_ble_eq_true rfl, Nat.le_of_ble_eq_true rfl, Nat.le_add_right _ _, Nat.le_add_right _ _⟩ dX9_root_28 (fun r7 c6 h => ?_)
        refine gq_callV_i (pc := 31) (F := wX G o) vX9_80 rfl (tX9_answer h) rfl rfl (gz_b (by decide)) xw0 rfl (Nat.le_of_ble_eq_true rfl) ⟨Nat.le_of_ble_eq_true rfl, Nat.le_of_ble_eq_true rfl, Nat.le_add_right _ _, Nat.le_add_right _ _⟩ dX9_root_31 (fun r9 c8 h => ?_)
        exact gq_iret (pc := 34) (F := wX G o) rfl dX9_root_34 h
      · have h := h.2 q5
        refine go_bipush (pc := 18) (v := (-101)) dX9_root_18 (by decide) ?_
        exact gq_iret (pc := 20) (F := wX G o) rfl dX9_root_20 h
def wX9_rootOf_p10 (c : gMem) (Q : Int32 → gMem → Prop) : Prop :=
  Q ((-101)) c
set_option maxRecDepth 100000 in
set_option maxHeartbeats 4000000 in
theorem tX9_rootOf_p10 {l : Launch} {G : gG} {k : Nat} {o : gMem} {Q : Int32 → gMem → Prop} {c : gMem} (h : wX9_rootOf_p10 c Q) : Go l G mX9_rootOf (gbq G 0 0 84 k (qi (wX G o) Q)) 10 [] [] 84 k (wX G o c) := by
  unfold wX9_rootOf_p10 at h
  refine go_bipush (pc := 10) (v := (-101)) dX9_rootOf_10 (by decide) ?_
  refine go_goto (pc := 12) (tgt := 24) dX9_rootOf_12 (by decide) ?_
  exact gq_iret (pc := 24) (F := wX G o) rfl dX9_rootOf_24 h
def wX9_rootOf (l1 : Int32) (c : gMem) (Q : Int32 → gMem → Prop) : Prop :=
  ((l1 < 0 →
    wX9_rootOf_p10 c Q) ∧
   (¬ l1 < 0 →
    ((l1 < 24 →
      vp_in l1 24 ∧
      ∀ v3, v3 = c 20 l1.toNatClampNeg →
      Q v3 c) ∧
     (¬ l1 < 24 →
      wX9_rootOf_p10 c Q))))
set_option maxRecDepth 100000 in
set_option maxHeartbeats 4000000 in
theorem tX9_rootOf {l : Launch} {G : gG} {k : Nat} {o : gMem} {Q : Int32 → gMem → Prop} {l1 : Int32} {c : gMem} (h : wX9_rootOf l1 c Q) : Cq l G mX9_rootOf 0 0 [.ref (G.2.1 + 0), .int l1] 84 k (wX G o c) (qi (wX G o) Q) := by
  refine Cq.of (by decide) (Nat.le_of_ble_eq_true rfl) ?_
  show Go l G mX9_rootOf (gbq G 0 0 84 k (qi (wX G o) Q)) 0 [(0, .ref (G.2.1 + 0)), (1, .int l1)] [] 84 k (wX G o c)
  unfold wX9_rootOf at h
  refine go_iload_n (pc := 0) dX9_rootOf_0 rfl rfl ?_
  refine go_if_lt (pc := 1) (tgt := 10) dX9_rootOf_1 (by decide) (fun q1 => ?_) (fun q1 => ?_)
  · have h := h.1 q1
    refine go_lv [] rfl ?_
    exact tX9_rootOf_p10 h
  · have h := h.2 q1
    refine go_iload_n (pc := 4) dX9_rootOf_4 rfl rfl ?_
    refine go_bipush (pc := 5) (v := 24) dX9_rootOf_5 (by decide) ?_
    refine go_icmp_lt (pc := 7) (tgt := 15) dX9_rootOf_7 (by decide) (fun q2 => ?_) (fun q2 => ?_)
    · have h := h.1 q2
      refine go_aload_n (pc := 15) dX9_rootOf_15 rfl rfl ?_
      refine go_get (pc := 16) fX9_12 rfl (gz_b (by decide)) xw0 rfl dX9_rootOf_16 ?_
      refine go_get (pc := 19) fX9_162 rfl (gz_b (by decide)) xw1 rfl dX9_rootOf_19 ?_
      refine go_iload_n (pc := 22) dX9_rootOf_22 rfl rfl ?_
      obtain ⟨b4, h⟩ := h
      refine gb_iald (pc := 23) (gz_b (by decide)) xw20 b4 dX9_rootOf_23 (fun v3 ev3 => ?_)
      have h := h v3 ev3
      exact gq_iret (pc := 24) (F := wX G o) rfl dX9_rootOf_24 h
    · have h := h.2 q2
      refine go_lv [] rfl ?_
      exact tX9_rootOf_p10 h
def wX0_copyLinks_p88_b (P88 : Int32 → Int32 → Int32 → Int32 → Int32 → Int32 → Int32 → Int32 → gMem → Prop) (l1 : Int32) (l2 : Int32) (l3 : Int32) (l4 : Int32) (l5 : Int32) (l6 : Int32) (l7 : Int32) (l8 : Int32) (c : gMem) (Q : Int32 → gMem → Prop) : Prop :=
  ((l5 ≤ l8 →
    Q l5 c) ∧
   (¬ l5 ≤ l8 →
    ((l2 < 0 →
      Q ((-12)) c) ∧
     (¬ l2 < 0 →
      ((l6 - l8 ≤ l2 →
        Q ((-12)) c) ∧
       (¬ l6 - l8 ≤ l2 →
        ((l4 < 0 →
          Q ((-12)) c) ∧
         (¬ l4 < 0 →
          ((l4 < l7 - l8 →
            wX2_linkPlace l1 c (fun r7 c6 =>
            vp_in ((r7 + l2) + l8) 4000 ∧
            ∀ v8, v8 = c6 3 ((r7 + l2) + l8).toNatClampNeg →
            wX0_changeLink l3 (l4 + l8) v8 c6 (fun c10 =>
            ∀ v11, v11 = c10 69 3 →
            ∀ c12, c12 = mp c10 69 3 (v11 + 1) →
            P88 l1 l2 l3 l4 l5 l6 l7 (l8 + 1) c12))) ∧
           (¬ l4 < l7 - l8 →
            Q ((-12)) c))))))))))
def wX0_copyLinks_p88 (l1 : Int32) (l2 : Int32) (l3 : Int32) (l4 : Int32) (l5 : Int32) (l6 : Int32) (l7 : Int32) (l8 : Int32) (c : gMem) (Q : Int32 → gMem → Prop) : Prop :=
  ∀ P88 : Int32 → Int32 → Int32 → Int32 → Int32 → Int32 → Int32 → Int32 → gMem → Prop, (∀ (l1 : Int32) (l2 : Int32) (l3 : Int32) (l4 : Int32) (l5 : Int32) (l6 : Int32) (l7 : Int32) (l8 : Int32) (c : gMem), wX0_copyLinks_p88_b P88 l1 l2 l3 l4 l5 l6 l7 l8 c Q → P88 l1 l2 l3 l4 l5 l6 l7 l8 c) → P88 l1 l2 l3 l4 l5 l6 l7 l8 c
set_option maxRecDepth 100000 in
set_option maxHeartbeats 4000000 in
theorem tX0_copyLinks_p88_b {l : Launch} {G : gG} {k : Nat} {o : gMem} {Q : Int32 → gMem → Prop} {P88 : Int32 → Int32 → Int32 → Int32 → Int32 → Int32 → Int32 → Int32 → gMem → Prop} (hP88 : ∀ (l1 : Int32) (l2 : Int32) (l3 : Int32) (l4 : Int32) (l5 : Int32) (l6 : Int32) (l7 : Int32) (l8 : Int32) (c : gMem), P88 l1 l2 l3 l4 l5 l6 l7 l8 c → Go l G mX0_copyLinks (gbq G 3 72 84 k (qi (wX G o) Q)) 88 [(0, .ref (G.2.1 + 69)), (1, .int l1), (2, .int l2), (3, .int l3), (4, .int l4), (5, .int l5), (6, .int l6), (7, .int l7), (8, .int l8)] [] 84 k (wX G o c)) {l1 : Int32} {l2 : Int32} {l3 : Int32} {l4 : Int32} {l5 : Int32} {l6 : Int32} {l7 : Int32} {l8 : Int32} {c : gMem} (h : wX0_copyLinks_p88_b P88 l1 l2 l3 l4 l5 l6 l7 l8 c Q) : Go l G mX0_copyLinks (gbq G 3 72 84 k (qi (wX G o) Q)) 88 [(0, .ref (G.2.1 + 69)), (1, .int l1), (2, .int l2), (3, .int l3), (4, .int l4), (5, .int l5), (6, .int l6), (7, .int l7), (8, .int l8)] [] 84 k (wX G o c) := by
  unfold wX0_copyLinks_p88_b at h
  refine go_iload (pc := 88) dX0_copyLinks_88 rfl ?_
  refine go_iload (pc := 90) dX0_copyLinks_90 rfl ?_
  refine go_icmp_ge (pc := 92) (tgt := 173) dX0_copyLinks_92 (by decide) (fun q1 => ?_) (fun q1 => ?_)
  · have h := h.1 q1
    refine go_iload (pc := 173) dX0_copyLinks_173 rfl ?_
    exact gq_iret (pc := 175) (F := wX G o) rfl dX0_copyLinks_175 h
  · have h := h.2 q1
    refine go_iload_n (pc := 95) dX0_copyLinks_95 rfl rfl ?_
    refine go_if_lt (pc := 96) (tgt := 123) dX0_copyLinks_96 (by decide) (fun q2 => ?_) (fun q2 => ?_)
    · have h := h.1 q2
      refine go_bipush (pc := 123) (v := (-12)) dX0_copyLinks_123 (by decide) ?_
      exact gq_iret (pc := 125) (F := wX G o) rfl dX0_copyLinks_125 h
    · have h := h.2 q2
      refine go_iload_n (pc := 99) dX0_copyLinks_99 rfl rfl ?_
      refine go_iload (pc := 100) dX0_copyLinks_100 rfl ?_
      refine go_iload (pc := 102) dX0_copyLinks_102 rfl ?_
      refine go_isub (pc := 104) dX0_copyLinks_104 ?_
      refine go_icmp_ge (pc := 105) (tgt := 123) dX0_copyLinks_105 (by decide) (fun q3 => ?_) (fun q3 => ?_)
      · have h := h.1 q3
        refine go_bipush (pc := 123) (v := (-12)) dX0_copyLinks_123 (by decide) ?_
        exact gq_iret (pc := 125) (F := wX G o) rfl dX0_copyLinks_125 h
      · have h := h.2 q3
        refine go_iload (pc := 108) dX0_copyLinks_108 rfl ?_
        refine go_if_lt (pc := 110) (tgt := 123) dX0_copyLinks_110 (by decide) (fun q4 => ?_) (fun q4 => ?_)
        · have h := h.1 q4
          refine go_bipush (pc := 123) (v := (-12)) dX0_copyLinks_123 (by decide) ?_
          exact gq_iret (pc := 125) (F := wX G o) rfl dX0_copyLinks_125 h
        · have h := h.2 q4
          refine go_iload (pc := 113) dX0_copyLinks_113 rfl ?_
          refine go_iload (pc := 115) dX0_copyLinks_115 rfl ?_
          refine go_iload (pc := 117) dX0_copyLinks_117 rfl ?_
          refine go_isub (pc := 119) dX0_copyLinks_119 ?_
          refine go_icmp_lt (pc := 120) (tgt := 126) dX0_copyLinks_120 (by decide) (fun q5 => ?_) (fun q5 => ?_)
          · have h := h.1 q5
            refine go_aload_n (pc := 126) dX0_copyLinks_126 rfl rfl ?_
            refine go_iload_n (pc := 127) dX0_copyLinks_127 rfl rfl ?_
            refine go_iload (pc := 128) dX0_copyLinks_128 rfl ?_
            refine go_iload (pc := 130) dX0_copyLinks_130 rfl ?_
            refine go_iadd (pc := 132) dX0_copyLinks_132 ?_
            refine go_aload_n (pc := 133) dX0_copyLinks_133 rfl rfl ?_
            refine go_get (pc := 134) fX0_21 rfl (gz_b (by decide)) xw69 rfl dX0_copyLinks_134 ?_
            refine go_get (pc := 137) fX0_86 rfl (gz_b (by decide)) xw2 rfl dX0_copyLinks_137 ?_
            refine go_aload_n (pc := 140) dX0_copyLinks_140 rfl rfl ?_
            refine go_get (pc := 141) fX0_21 rfl (gz_b (by decide)) xw69 rfl dX0_copyLinks_141 ?_
            refine go_iload_n (pc := 144) dX0_copyLinks_144 rfl rfl ?_
            refine gq_callV_i (pc := 145) (F := wX G o) vX0_83 rfl (tX2_linkPlace h) rfl rfl (gz_b (by decide)) xw2 rfl (Nat.le_of_ble_eq_true rfl) ⟨Nat.le_of_ble_eq_true rfl, Nat.le_of_ble_eq_true rfl, Nat.le_add_right _ _, Nat.le_add_right _ _⟩ dX0_copyLinks_145 (fun r7 c6 h => ?_)
            refine go_iload_n (pc := 148) dX0_copyLinks_148 rfl rfl ?_
            refine go_iadd (pc := 149) dX0_copyLinks_149 ?_
            refine go_iload (pc := 150) dX0_copyLinks_150 rfl ?_
            refine go_iadd (pc := 152) dX0_copyLinks_152 ?_
            obtain ⟨b9, h⟩ := h
            refine gb_iald (pc := 153) (gz_b (by decide)) xw3 b9 dX0_copyLinks_153 (fun v8 ev8 => ?_)
            have h := h v8 ev8
            refine gq_callV_v (pc := 154) (F := wX G o) vX0_79 rfl (tX0_changeLink h) rfl rfl (gz_b (by decide)) xw69 rfl (Nat.le_of_ble_eq_true rfl) ⟨Nat.le_of_ble_eq_true rfl, Nat.le_of_ble_eq_true rfl, Nat.le_add_right _ _, Nat.le_add_right _ _⟩ dX0_copyLinks_154 (fun c10 h => ?_)
            refine go_aload_n (pc := 157) dX0_copyLinks_157 rfl rfl ?_
            refine go_dup (pc := 158) dX0_copyLinks_158 rfl ?_
            refine gb_get (pc := 159) fX0_108 rfl (gz_b (by decide)) xw69 rfl dX0_copyLinks_159 (fun v11 ev11 => ?_)
            have h := h v11 ev11
            refine go_iconst (pc := 162) (v := 1) dX0_copyLinks_162 (by decide) ?_
            refine go_iadd (pc := 163) dX0_copyLinks_163 ?_
            refine gb_put (pc := 164) (F := wX G o) fX0_108 rfl (gz_b (by decide)) xw69 (Nat.le_of_ble_eq_true rfl) rfl rfl xp69_3 dX0_copyLinks_164 (fun c12 ec12 => ?_)
            have h := h c12 ec12
            refine go_iinc (pc := 167) (v := l8 + 1) (lv' := [(8, .int (l8 + 1)), (0, .ref (G.2.1 + 69)), (1, .int l1), (2, .int l2), (3, .int l3), (4, .int l4), (5, .int l5), (6, .int l6), (7, .int l7)]) dX0_copyLinks_167 8 rfl (by first | rfl | decide) (by decide) rfl ?_
            refine go_goto (pc := 170) (tgt := 88) dX0_copyLinks_170 (by decide) ?_
            refine go_lv [1, 2, 3, 4, 5, 6, 7, 8, 0] rfl ?_
            exact hP88 _ _ _ _ _ _ _ _ _ h
          · have h := h.2 q5
            refine go_bipush (pc := 123) (v := (-12)) dX0_copyLinks_123 (by decide) ?_
            exact gq_iret (pc := 125) (F := wX G o) rfl dX0_copyLinks_125 h
set_option maxRecDepth 100000 in
set_option maxHeartbeats 4000000 in
theorem tX0_copyLinks_p88 {l : Launch} {G : gG} {k : Nat} {o : gMem} {Q : Int32 → gMem → Prop} {l1 : Int32} {l2 : Int32} {l3 : Int32} {l4 : Int32} {l5 : Int32} {l6 : Int32} {l7 : Int32} {l8 : Int32} {c : gMem} (h : wX0_copyLinks_p88 l1 l2 l3 l4 l5 l6 l7 l8 c Q) : Go l G mX0_copyLinks (gbq G 3 72 84 k (qi (wX G o) Q)) 88 [(0, .ref (G.2.1 + 69)), (1, .int l1), (2, .int l2), (3, .int l3), (4, .int l4), (5, .int l5), (6, .int l6), (7, .int l7), (8, .int l8)] [] 84 k (wX G o c) :=
  h (fun l1 l2 l3 l4 l5 l6 l7 l8 c => Go l G mX0_copyLinks (gbq G 3 72 84 k (qi (wX G o) Q)) 88 [(0, .ref (G.2.1 + 69)), (1, .int l1), (2, .int l2), (3, .int l3), (4, .int l4), (5, .int l5), (6, .int l6), (7, .int l7), (8, .int l8)] [] 84 k (wX G o c)) (fun l1 l2 l3 l4 l5 l6 l7 l8 c hb => tX0_copyLinks_p88_b (fun l1 l2 l3 l4 l5 l6 l7 l8 c hh => hh) hb)
def wX0_copyLinks (l1 : Int32) (l2 : Int32) (l3 : Int32) (l4 : Int32) (l5 : Int32) (c : gMem) (Q : Int32 → gMem → Prop) : Prop :=
  ∀ c1, c1 = mp c 69 3 0 →
  wX2_has l1 c1 (fun r3 c2 =>
  ((r3 = 0 →
    Q ((-11)) c2) ∧
   (¬ r3 = 0 →
    wX2_has l3 c2 (fun r6 c5 =>
    ((r6 = 0 →
      Q ((-11)) c5) ∧
     (¬ r6 = 0 →
      wX2_isA 1 l1 c5 (fun r9 c8 =>
      ((r9 = 0 →
        Q ((-13)) c8) ∧
       (¬ r9 = 0 →
        wX2_isA 1 l3 c8 (fun r12 c11 =>
        ((r12 = 0 →
          Q ((-13)) c11) ∧
         (¬ r12 = 0 →
          ((0 ≤ l5 →
            wX2_linksOf l1 c11 (fun r16 c15 =>
            wX2_linksOf l3 c15 (fun r18 c17 =>
            wX0_copyLinks_p88 l1 l2 l3 l4 l5 r16 r18 0 c17 Q))) ∧
           (¬ 0 ≤ l5 →
            Q ((-14)) c11))))))))))))))
set_option maxRecDepth 100000 in
set_option maxHeartbeats 4000000 in
theorem tX0_copyLinks {l : Launch} {G : gG} {k : Nat} {o : gMem} {Q : Int32 → gMem → Prop} {l1 : Int32} {l2 : Int32} {l3 : Int32} {l4 : Int32} {l5 : Int32} {c : gMem} (h : wX0_copyLinks l1 l2 l3 l4 l5 c Q) : Cq l G mX0_copyLinks 3 72 [.ref (G.2.1 + 69), .int l1, .int l2, .int l3, .int l4, .int l5] 84 k (wX G o c) (qi (wX G o) Q) := by
  refine Cq.of (by decide) (Nat.le_of_ble_eq_true rfl) ?_
  show Go l G mX0_copyLinks (gbq G 3 72 84 k (qi (wX G o) Q)) 0 [(0, .ref (G.2.1 + 69)), (1, .int l1), (2, .int l2), (3, .int l3), (4, .int l4), (5, .int l5)] [] 84 k (wX G o c)
  unfold wX0_copyLinks at h
  refine go_aload_n (pc := 0) dX0_copyLinks_0 rfl rfl ?_
  refine go_iconst (pc := 1) (v := 0) dX0_copyLinks_1 (by decide) ?_
  refine gb_put (pc := 2) (F := wX G o) fX0_108 rfl (gz_b (by decide)) xw69 (Nat.le_of_ble_eq_true rfl) rfl rfl xp69_3 dX0_copyLinks_2 (fun c1 ec1 => ?_)
  have h := h c1 ec1
  refine go_aload_n (pc := 5) dX0_copyLinks_5 rfl rfl ?_
  refine go_get (pc := 6) fX0_21 rfl (gz_b (by decide)) xw69 rfl dX0_copyLinks_6 ?_
  refine go_iload_n (pc := 9) dX0_copyLinks_9 rfl rfl ?_
  refine gq_callV_i (pc := 10) (F := wX G o) vX0_62 rfl (tX2_has h) rfl rfl (gz_b (by decide)) xw2 rfl (Nat.le_of_ble_eq_true rfl) ⟨Nat.le_of_ble_eq_true rfl, Nat.le_of_ble_eq_true rfl, Nat.le_add_right _ _, Nat.le_add_right _ _⟩ dX0_copyLinks_10 (fun r3 c2 h => ?_)
  refine go_if_eq (pc := 13) (tgt := 27) dX0_copyLinks_13 (by decide) (fun q4 => ?_) (fun q4 => ?_)
  · have h := h.1 q4
    refine go_bipush (pc := 27) (v := (-11)) dX0_copyLinks_27 (by decide) ?_
    exact gq_iret (pc := 29) (F := wX G o) rfl dX0_copyLinks_29 h
  · have h := h.2 q4
    refine go_aload_n (pc := 16) dX0_copyLinks_16 rfl rfl ?_
    refine go_get (pc := 17) fX0_21 rfl (gz_b (by decide)) xw69 rfl dX0_copyLinks_17 ?_
    refine go_iload_n (pc := 20) dX0_copyLinks_20 rfl rfl ?_
    refine gq_callV_i (pc := 21) (F := wX G o) vX0_62 rfl (tX2_has h) rfl rfl (gz_b (by decide)) xw2 rfl (Nat.le_of_ble_eq_true rfl) ⟨Nat.le_of_ble_eq_true rfl, Nat.le_of_ble_eq_true rfl, Nat.le_add_right _ _, Nat.le_add_right _ _⟩ dX0_copyLinks_21 (fun r6 c5 h => ?_)
    refine go_if_ne (pc := 24) (tgt := 30) dX0_copyLinks_24 (by decide) (fun q7 => ?_) (fun q7 => ?_)
    · have h := h.2 q7
      refine go_aload_n (pc := 30) dX0_copyLinks_30 rfl rfl ?_
      refine go_get (pc := 31) fX0_21 rfl (gz_b (by decide)) xw69 rfl dX0_copyLinks_31 ?_
      refine go_iconst (pc := 34) (v := 1) dX0_copyLinks_34 (by decide) ?_
      refine go_iload_n (pc := 35) dX0_copyLinks_35 rfl rfl ?_
      refine gq_callV_i (pc := 36) (F := wX G o) vX0_65 rfl (tX2_isA h) rfl rfl (gz_b (by decide)) xw2 rfl (Nat.le_of_ble_eq_true rfl) ⟨Nat.le_of_ble_eq_true rfl, Nat.le_of_ble_eq_true rfl, Nat.le_add_right _ _, Nat.le_add_right _ _⟩ dX0_copyLinks_36 (fun r9 c8 h => ?_)
      refine go_if_eq (pc := 39) (tgt := 54) dX0_copyLinks_39 (by decide) (fun q10 => ?_) (fun q10 => ?_)
      · have h := h.1 q10
        refine go_bipush (pc := 54) (v := (-13)) dX0_copyLinks_54 (by decide) ?_
        exact gq_iret (pc := 56) (F := wX G o) rfl dX0_copyLinks_56 h
      · have h := h.2 q10
        refine go_aload_n (pc := 42) dX0_copyLinks_42 rfl rfl ?_
        refine go_get (pc := 43) fX0_21 rfl (gz_b (by decide)) xw69 rfl dX0_copyLinks_43 ?_
        refine go_iconst (pc := 46) (v := 1) dX0_copyLinks_46 (by decide) ?_
        refine go_iload_n (pc := 47) dX0_copyLinks_47 rfl rfl ?_
        refine gq_callV_i (pc := 48) (F := wX G o) vX0_65 rfl (tX2_isA h) rfl rfl (gz_b (by decide)) xw2 rfl (Nat.le_of_ble_eq_true rfl) ⟨Nat.le_of_ble_eq_true rfl, Nat.le_of_ble_eq_true rfl, Nat.le_add_right _ _, Nat.le_add_right _ _⟩ dX0_copyLinks_48 (fun r12 c11 h => ?_)
        refine go_if_ne (pc := 51) (tgt := 57) dX0_copyLinks_51 (by decide) (fun q13 => ?_) (fun q13 => ?_)
        · have h := h.2 q13
          refine go_iload (pc := 57) dX0_copyLinks_57 rfl ?_
          refine go_if_ge (pc := 59) (tgt := 65) dX0_copyLinks_59 (by decide) (fun q14 => ?_) (fun q14 => ?_)
          · have h := h.1 q14
            refine go_aload_n (pc := 65) dX0_copyLinks_65 rfl rfl ?_
            refine go_get (pc := 66) fX0_21 rfl (gz_b (by decide)) xw69 rfl dX0_copyLinks_66 ?_
            refine go_iload_n (pc := 69) dX0_copyLinks_69 rfl rfl ?_
            refine gq_callV_i (pc := 70) (F := wX G o) vX0_76 rfl (tX2_linksOf h) rfl rfl (gz_b (by decide)) xw2 rfl (Nat.le_of_ble_eq_true rfl) ⟨Nat.le_of_ble_eq_true rfl, Nat.le_of_ble_eq_true rfl, Nat.le_add_right _ _, Nat.le_add_right _ _⟩ dX0_copyLinks_70 (fun r16 c15 h => ?_)
            refine go_istore (pc := 73) (lv' := [(6, .int r16), (0, .ref (G.2.1 + 69)), (1, .int l1), (2, .int l2), (3, .int l3), (4, .int l4), (5, .int l5)]) dX0_copyLinks_73 (by decide) rfl ?_
            refine go_aload_n (pc := 75) dX0_copyLinks_75 rfl rfl ?_
            refine go_get (pc := 76) fX0_21 rfl (gz_b (by decide)) xw69 rfl dX0_copyLinks_76 ?_
            refine go_iload_n (pc := 79) dX0_copyLinks_79 rfl rfl ?_
            refine gq_callV_i (pc := 80) (F := wX G o) vX0_76 rfl (tX2_linksOf h) rfl rfl (gz_b (by decide)) xw2 rfl (Nat.le_of_ble_eq_true rfl) ⟨Nat.le_of_ble_eq_true rfl, Nat.le_of_ble_eq_true rfl, Nat.le_add_right _ _, Nat.le_add_right _ _⟩ dX0_copyLinks_80 (fun r18 c17 h => ?_)
            refine go_istore (pc := 83) (lv' := [(7, .int r18), (6, .int r16), (0, .ref (G.2.1 + 69)), (1, .int l1), (2, .int l2), (3, .int l3), (4, .int l4), (5, .int l5)]) dX0_copyLinks_83 (by decide) rfl ?_
            refine go_iconst (pc := 85) (v := 0) dX0_copyLinks_85 (by decide) ?_
            refine go_istore (pc := 86) (lv' := [(8, .int 0), (7, .int r18), (6, .int r16), (0, .ref (G.2.1 + 69)), (1, .int l1), (2, .int l2), (3, .int l3), (4, .int l4), (5, .int l5)]) dX0_copyLinks_86 (by decide) rfl ?_
            refine go_lv [3, 4, 5, 6, 7, 8, 2, 1, 0] rfl ?_
            exact tX0_copyLinks_p88 h
          · have h := h.2 q14
            refine go_bipush (pc := 62) (v := (-14)) dX0_copyLinks_62 (by decide) ?_
            exact gq_iret (pc := 64) (F := wX G o) rfl dX0_copyLinks_64 h
        · have h := h.1 q13
          refine go_bipush (pc := 54) (v := (-13)) dX0_copyLinks_54 (by decide) ?_
          exact gq_iret (pc := 56) (F := wX G o) rfl dX0_copyLinks_56 h
    · have h := h.1 q7
      refine go_bipush (pc := 27) (v := (-11)) dX0_copyLinks_27 (by decide) ?_
      exact gq_iret (pc := 29) (F := wX G o) rfl dX0_copyLinks_29 h
def wX9_copy (l1 : Int32) (l2 : Int32) (l3 : Int32) (l4 : Int32) (l5 : Int32) (c : gMem) (Q : Int32 → gMem → Prop) : Prop :=
  wX2_wasMade l1 c (fun r2 c1 =>
  ((r2 = 0 →
    Q ((-101)) c1) ∧
   (¬ r2 = 0 →
    wX2_wasMade l3 c1 (fun r5 c4 =>
    ((r5 = 0 →
      Q ((-101)) c4) ∧
     (¬ r5 = 0 →
      wX0_copyLinks l1 l2 l3 l4 l5 c4 (fun r8 c7 =>
      wX9_answer r8 c7 (fun r10 c9 =>
      Q r10 c9))))))))
set_option maxRecDepth 100000 in
set_option maxHeartbeats 4000000 in
theorem tX9_copy {l : Launch} {G : gG} {k : Nat} {o : gMem} {Q : Int32 → gMem → Prop} {l1 : Int32} {l2 : Int32} {l3 : Int32} {l4 : Int32} {l5 : Int32} {c : gMem} (h : wX9_copy l1 l2 l3 l4 l5 c Q) : Cq l G mX9_copy 4 100 [.ref (G.2.1 + 0), .int l1, .int l2, .int l3, .int l4, .int l5] 84 k (wX G o c) (qi (wX G o) Q) := by
  refine Cq.of (by decide) (Nat.le_of_ble_eq_true rfl) ?_
  show Go l G mX9_copy (gbq G 4 100 84 k (qi (wX G o) Q)) 0 [(0, .ref (G.2.1 + 0)), (1, .int l1), (2, .int l2), (3, .int l3), (4, .int l4), (5, .int l5)] [] 84 k (wX G o c)
  unfold wX9_copy at h
  refine go_aload_n (pc := 0) dX9_copy_0 rfl rfl ?_
  refine go_get (pc := 1) fX9_12 rfl (gz_b (by decide)) xw0 rfl dX9_copy_1 ?_
  refine go_get (pc := 4) fX9_84 rfl (gz_b (by decide)) xw1 rfl dX9_copy_4 ?_
  refine go_iload_n (pc := 7) dX9_copy_7 rfl rfl ?_
  refine gq_callV_i (pc := 8) (F := wX G o) vX9_88 rfl (tX2_wasMade h) rfl rfl (gz_b (by decide)) xw2 rfl (Nat.le_of_ble_eq_true rfl) ⟨Nat.le_of_ble_eq_true rfl, Nat.le_of_ble_eq_true rfl, Nat.le_add_right _ _, Nat.le_add_right _ _⟩ dX9_copy_8 (fun r2 c1 h => ?_)
  refine go_if_eq (pc := 11) (tgt := 28) dX9_copy_11 (by decide) (fun q3 => ?_) (fun q3 => ?_)
  · have h := h.1 q3
    refine go_bipush (pc := 28) (v := (-101)) dX9_copy_28 (by decide) ?_
    exact gq_iret (pc := 30) (F := wX G o) rfl dX9_copy_30 h
  · have h := h.2 q3
    refine go_aload_n (pc := 14) dX9_copy_14 rfl rfl ?_
    refine go_get (pc := 15) fX9_12 rfl (gz_b (by decide)) xw0 rfl dX9_copy_15 ?_
    refine go_get (pc := 18) fX9_84 rfl (gz_b (by decide)) xw1 rfl dX9_copy_18 ?_
    refine go_iload_n (pc := 21) dX9_copy_21 rfl rfl ?_
    refine gq_callV_i (pc := 22) (F := wX G o) vX9_88 rfl (tX2_wasMade h) rfl rfl (gz_b (by decide)) xw2 rfl (Nat.le_of_ble_eq_true rfl) ⟨Nat.le_of_ble_eq_true rfl, Nat.le_of_ble_eq_true rfl, Nat.le_add_right _ _, Nat.le_add_right _ _⟩ dX9_copy_22 (fun r5 c4 h => ?_)
    refine go_if_ne (pc := 25) (tgt := 31) dX9_copy_25 (by decide) (fun q6 => ?_) (fun q6 => ?_)
    · have h := h.2 q6
      refine go_aload_n (pc := 31) dX9_copy_31 rfl rfl ?_
      refine go_aload_n (pc := 32) dX9_copy_32 rfl rfl ?_
      refine go_get (pc := 33) fX9_40 rfl (gz_b (by decide)) xw0 rfl dX9_copy_33 ?_
      refine go_iload_n (pc := 36) dX9_copy_36 rfl rfl ?_
      refine go_iload_n (pc := 37) dX9_copy_37 rfl rfl ?_
      refine go_iload_n (pc := 38) dX9_copy_38 rfl rfl ?_
      refine go_iload (pc := 39) dX9_copy_39 rfl ?_
      refine go_iload (pc := 41) dX9_copy_41 rfl ?_
      refine gq_callV_i (pc := 43) (F := wX G o) vX9_165 rfl (tX0_copyLinks h) rfl rfl (gz_b (by decide)) xw69 rfl (Nat.le_of_ble_eq_true rfl) ⟨Nat.le_of_ble_eq_true rfl, Nat.le_of_ble_eq_true rfl, Nat.le_add_right _ _, Nat.le_add_right _ _⟩ dX9_copy_43 (fun r8 c7 h => ?_)
      refine gq_callV_i (pc := 46) (F := wX G o) vX9_80 rfl (tX9_answer h) rfl rfl (gz_b (by decide)) xw0 rfl (Nat.le_of_ble_eq_true rfl) ⟨Nat.le_of_ble_eq_true rfl, Nat.le_of_ble_eq_true rfl, Nat.le_add_right _ _, Nat.le_add_right _ _⟩ dX9_copy_46 (fun r10 c9 h => ?_)
      exact gq_iret (pc := 49) (F := wX G o) rfl dX9_copy_49 h
    · have h := h.1 q6
      refine go_bipush (pc := 28) (v := (-101)) dX9_copy_28 (by decide) ?_
      exact gq_iret (pc := 30) (F := wX G o) rfl dX9_copy_30 h
def wX9_copied (c : gMem) (Q : Int32 → gMem → Prop) : Prop :=
  ∀ v1, v1 = c 69 3 →
  Q v1 c
set_option maxRecDepth 100000 in
set_option maxHeartbeats 4000000 in
theorem tX9_copied {l : Launch} {G : gG} {k : Nat} {o : gMem} {Q : Int32 → gMem → Prop} {c : gMem} (h : wX9_copied c Q) : Cq l G mX9_copied 0 0 [.ref (G.2.1 + 0)] 84 k (wX G o c) (qi (wX G o) Q) := by
  refine Cq.of (by decide) (Nat.le_of_ble_eq_true rfl) ?_
  show Go l G mX9_copied (gbq G 0 0 84 k (qi (wX G o) Q)) 0 [(0, .ref (G.2.1 + 0))] [] 84 k (wX G o c)
  unfold wX9_copied at h
  refine go_aload_n (pc := 0) dX9_copied_0 rfl rfl ?_
  refine go_get (pc := 1) fX9_40 rfl (gz_b (by decide)) xw0 rfl dX9_copied_1 ?_
  refine gb_get (pc := 4) fX9_55 rfl (gz_b (by decide)) xw69 rfl dX9_copied_4 (fun v1 ev1 => ?_)
  have h := h v1 ev1
  exact gq_iret (pc := 7) (F := wX G o) rfl dX9_copied_7 h
def wX0_setShelf_p44 (l1 : Int32) (l2 : Int32) (l3 : Int32) (c : gMem) (Q : Int32 → gMem → Prop) : Prop :=
  vp_in ((l1 * 8) + l2) 32 ∧
  ∀ c1, c1 = mp c 21 ((l1 * 8) + l2).toNatClampNeg l3 →
  Q 1 c1
set_option maxRecDepth 100000 in
set_option maxHeartbeats 4000000 in
theorem tX0_setShelf_p44 {l : Launch} {G : gG} {k : Nat} {o : gMem} {Q : Int32 → gMem → Prop} {l1 : Int32} {l2 : Int32} {l3 : Int32} {c : gMem} (h : wX0_setShelf_p44 l1 l2 l3 c Q) : Go l G mX0_setShelf (gbq G 2 42 84 k (qi (wX G o) Q)) 44 [(0, .ref (G.2.1 + 69)), (1, .int l1), (2, .int l2), (3, .int l3)] [] 84 k (wX G o c) := by
  unfold wX0_setShelf_p44 at h
  refine go_aload_n (pc := 44) dX0_setShelf_44 rfl rfl ?_
  refine go_get (pc := 45) fX0_9 rfl (gz_b (by decide)) xw69 rfl dX0_setShelf_45 ?_
  refine go_get (pc := 48) fX0_111 rfl (gz_b (by decide)) xw1 rfl dX0_setShelf_48 ?_
  refine go_iload_n (pc := 51) dX0_setShelf_51 rfl rfl ?_
  refine go_bipush (pc := 52) (v := 8) dX0_setShelf_52 (by decide) ?_
  refine go_imul (pc := 54) dX0_setShelf_54 ?_
  refine go_iload_n (pc := 55) dX0_setShelf_55 rfl rfl ?_
  refine go_iadd (pc := 56) dX0_setShelf_56 ?_
  refine go_iload_n (pc := 57) dX0_setShelf_57 rfl rfl ?_
  obtain ⟨b2, h⟩ := h
  refine gb_iast (pc := 58) (F := wX G o) (gz_b (by decide)) xw21 b2 xa21 dX0_setShelf_58 (fun c1 ec1 => ?_)
  have h := h c1 ec1
  refine go_iconst (pc := 59) (v := 1) dX0_setShelf_59 (by decide) ?_
  exact gq_iret (pc := 60) (F := wX G o) rfl dX0_setShelf_60 h
def wX0_setShelf (l1 : Int32) (l2 : Int32) (l3 : Int32) (c : gMem) (Q : Int32 → gMem → Prop) : Prop :=
  wX0_isGoneTarget l3 c (fun r2 c1 =>
  ((r2 = 0 →
    ((l2 < 0 →
      Q ((-12)) c1) ∧
     (¬ l2 < 0 →
      ((l2 < 8 →
        ((l3 = (-1) →
          wX0_setShelf_p44 l1 l2 l3 c1 Q) ∧
         (¬ l3 = (-1) →
          wX2_isA l1 l3 c1 (fun r8 c7 =>
          ((r8 = 0 →
            Q ((-15)) c7) ∧
           (¬ r8 = 0 →
            wX0_setShelf_p44 l1 l2 l3 c7 Q)))))) ∧
       (¬ l2 < 8 →
        Q ((-12)) c1))))) ∧
   (¬ r2 = 0 →
    Q ((-11)) c1)))
set_option maxRecDepth 100000 in
set_option maxHeartbeats 4000000 in
theorem tX0_setShelf {l : Launch} {G : gG} {k : Nat} {o : gMem} {Q : Int32 → gMem → Prop} {l1 : Int32} {l2 : Int32} {l3 : Int32} {c : gMem} (h : wX0_setShelf l1 l2 l3 c Q) : Cq l G mX0_setShelf 2 42 [.ref (G.2.1 + 69), .int l1, .int l2, .int l3] 84 k (wX G o c) (qi (wX G o) Q) := by
  refine Cq.of (by decide) (Nat.le_of_ble_eq_true rfl) ?_
  show Go l G mX0_setShelf (gbq G 2 42 84 k (qi (wX G o) Q)) 0 [(0, .ref (G.2.1 + 69)), (1, .int l1), (2, .int l2), (3, .int l3)] [] 84 k (wX G o c)
  unfold wX0_setShelf at h
  refine go_aload_n (pc := 0) dX0_setShelf_0 rfl rfl ?_
  refine go_iload_n (pc := 1) dX0_setShelf_1 rfl rfl ?_
  refine gq_callV_i (pc := 2) (F := wX G o) vX0_73 rfl (tX0_isGoneTarget h) rfl rfl (gz_b (by decide)) xw69 rfl (Nat.le_of_ble_eq_true rfl) ⟨Nat.le_of_ble_eq_true rfl, Nat.le_of_ble_eq_true rfl, Nat.le_add_right _ _, Nat.le_add_right _ _⟩ dX0_setShelf_2 (fun r2 c1 h => ?_)
  refine go_if_eq (pc := 5) (tgt := 11) dX0_setShelf_5 (by decide) (fun q3 => ?_) (fun q3 => ?_)
  · have h := h.1 q3
    refine go_iload_n (pc := 11) dX0_setShelf_11 rfl rfl ?_
    refine go_if_lt (pc := 12) (tgt := 21) dX0_setShelf_12 (by decide) (fun q4 => ?_) (fun q4 => ?_)
    · have h := h.1 q4
      refine go_bipush (pc := 21) (v := (-12)) dX0_setShelf_21 (by decide) ?_
      exact gq_iret (pc := 23) (F := wX G o) rfl dX0_setShelf_23 h
    · have h := h.2 q4
      refine go_iload_n (pc := 15) dX0_setShelf_15 rfl rfl ?_
      refine go_bipush (pc := 16) (v := 8) dX0_setShelf_16 (by decide) ?_
      refine go_icmp_lt (pc := 18) (tgt := 24) dX0_setShelf_18 (by decide) (fun q5 => ?_) (fun q5 => ?_)
      · have h := h.1 q5
        refine go_iload_n (pc := 24) dX0_setShelf_24 rfl rfl ?_
        refine go_iconst (pc := 25) (v := (-1)) dX0_setShelf_25 (by decide) ?_
        refine go_icmp_eq (pc := 26) (tgt := 44) dX0_setShelf_26 (by decide) (fun q6 => ?_) (fun q6 => ?_)
        · have h := h.1 q6
          refine go_lv [0, 1, 2, 3] rfl ?_
          exact tX0_setShelf_p44 h
        · have h := h.2 q6
          refine go_aload_n (pc := 29) dX0_setShelf_29 rfl rfl ?_
          refine go_get (pc := 30) fX0_21 rfl (gz_b (by decide)) xw69 rfl dX0_setShelf_30 ?_
          refine go_iload_n (pc := 33) dX0_setShelf_33 rfl rfl ?_
          refine go_iload_n (pc := 34) dX0_setShelf_34 rfl rfl ?_
          refine gq_callV_i (pc := 35) (F := wX G o) vX0_65 rfl (tX2_isA h) rfl rfl (gz_b (by decide)) xw2 rfl (Nat.le_of_ble_eq_true rfl) ⟨Nat.le_of_ble_eq_true rfl, Nat.le_of_ble_eq_true rfl, Nat.le_add_right _ _, Nat.le_add_right _ _⟩ dX0_setShelf_35 (fun r8 c7 h => ?_)
          refine go_if_ne (pc := 38) (tgt := 44) dX0_setShelf_38 (by decide) (fun q9 => ?_) (fun q9 => ?_)
          · have h := h.2 q9
            refine go_lv [0, 1, 2, 3] rfl ?_
            exact tX0_setShelf_p44 h
          · have h := h.1 q9
            refine go_bipush (pc := 41) (v := (-15)) dX0_setShelf_41 (by decide) ?_
            exact gq_iret (pc := 43) (F := wX G o) rfl dX0_setShelf_43 h
      · have h := h.2 q5
        refine go_bipush (pc := 21) (v := (-12)) dX0_setShelf_21 (by decide) ?_
        exact gq_iret (pc := 23) (F := wX G o) rfl dX0_setShelf_23 h
  · have h := h.2 q3
    refine go_bipush (pc := 8) (v := (-11)) dX0_setShelf_8 (by decide) ?_
    exact gq_iret (pc := 10) (F := wX G o) rfl dX0_setShelf_10 h
def wX9_shelve (l1 : Int32) (l2 : Int32) (l3 : Int32) (c : gMem) (Q : Int32 → gMem → Prop) : Prop :=
  ((l1 < 0 →
    Q ((-101)) c) ∧
   (¬ l1 < 0 →
    ((4 ≤ l1 →
      Q ((-101)) c) ∧
     (¬ 4 ≤ l1 →
      wX9_isUnknownTarget l3 c (fun r4 c3 =>
      ((r4 = 0 →
        wX0_setShelf l1 l2 l3 c3 (fun r7 c6 =>
        wX9_answer r7 c6 (fun r9 c8 =>
        Q r9 c8))) ∧
       (¬ r4 = 0 →
        Q ((-101)) c3)))))))
set_option maxRecDepth 100000 in
set_option maxHeartbeats 4000000 in
theorem tX9_shelve {l : Launch} {G : gG} {k : Nat} {o : gMem} {Q : Int32 → gMem → Prop} {l1 : Int32} {l2 : Int32} {l3 : Int32} {c : gMem} (h : wX9_shelve l1 l2 l3 c Q) : Cq l G mX9_shelve 3 65 [.ref (G.2.1 + 0), .int l1, .int l2, .int l3] 84 k (wX G o c) (qi (wX G o) Q) := by
  refine Cq.of (by decide) (Nat.le_of_ble_eq_true rfl) ?_
  show Go l G mX9_shelve (gbq G 3 65 84 k (qi (wX G o) Q)) 0 [(0, .ref (G.2.1 + 0)), (1, .int l1), (2, .int l2), (3, .int l3)] [] 84 k (wX G o c)
  unfold wX9_shelve at h
  refine go_iload_n (pc := 0) dX9_shelve_0 rfl rfl ?_
  refine go_if_lt (pc := 1) (tgt := 17) dX9_shelve_1 (by decide) (fun q1 => ?_) (fun q1 => ?_)
  · have h := h.1 q1
    refine go_bipush (pc := 17) (v := (-101)) dX9_shelve_17 (by decide) ?_
    exact gq_iret (pc := 19) (F := wX G o) rfl dX9_shelve_19 h
  · have h := h.2 q1
    refine go_iload_n (pc := 4) dX9_shelve_4 rfl rfl ?_
    refine go_iconst (pc := 5) (v := 4) dX9_shelve_5 (by decide) ?_
    refine go_icmp_ge (pc := 6) (tgt := 17) dX9_shelve_6 (by decide) (fun q2 => ?_) (fun q2 => ?_)
    · have h := h.1 q2
      refine go_bipush (pc := 17) (v := (-101)) dX9_shelve_17 (by decide) ?_
      exact gq_iret (pc := 19) (F := wX G o) rfl dX9_shelve_19 h
    · have h := h.2 q2
      refine go_aload_n (pc := 9) dX9_shelve_9 rfl rfl ?_
      refine go_iload_n (pc := 10) dX9_shelve_10 rfl rfl ?_
      refine gq_callV_i (pc := 11) (F := wX G o) vX9_125 rfl (tX9_isUnknownTarget h) rfl rfl (gz_b (by decide)) xw0 rfl (Nat.le_of_ble_eq_true rfl) ⟨Nat.le_of_ble_eq_true rfl, Nat.le_of_ble_eq_true rfl, Nat.le_add_right _ _, Nat.le_add_right _ _⟩ dX9_shelve_11 (fun r4 c3 h => ?_)
      refine go_if_eq (pc := 14) (tgt := 20) dX9_shelve_14 (by decide) (fun q5 => ?_) (fun q5 => ?_)
      · have h := h.1 q5
        refine go_aload_n (pc := 20) dX9_shelve_20 rfl rfl ?_
        refine go_aload_n (pc := 21) dX9_shelve_21 rfl rfl ?_
        refine go_get (pc := 22) fX9_40 rfl (gz_b (by decide)) xw0 rfl dX9_shelve_22 ?_
        refine go_iload_n (pc := 25) dX9_shelve_25 rfl rfl ?_
        refine go_iload_n (pc := 26) dX9_shelve_26 rfl rfl ?_
        refine go_iload_n (pc := 27) dX9_shelve_27 rfl rfl ?_
        refine gq_callV_i (pc := 28) (F := wX G o) vX9_169 rfl (tX0_setShelf h) rfl rfl (gz_b (by decide)) xw69 rfl (Nat.le_of_ble_eq_true rfl) ⟨Nat.le_of_ble_eq_true rfl, Nat.le_of_ble_eq_true rfl, Nat.le_add_right _ _, Nat.le_add_right _ _⟩ dX9_shelve_28 (fun r7 c6 h => ?_)
        refine gq_callV_i (pc := 31) (F := wX G o) vX9_80 rfl (tX9_answer h) rfl rfl (gz_b (by decide)) xw0 rfl (Nat.le_of_ble_eq_true rfl) ⟨Nat.le_of_ble_eq_true rfl, Nat.le_of_ble_eq_true rfl, Nat.le_add_right _ _, Nat.le_add_right _ _⟩ dX9_shelve_31 (fun r9 c8 h => ?_)
        exact gq_iret (pc := 34) (F := wX G o) rfl dX9_shelve_34 h
      · have h := h.2 q5
        refine go_bipush (pc := 17) (v := (-101)) dX9_shelve_17 (by decide) ?_
        exact gq_iret (pc := 19) (F := wX G o) rfl dX9_shelve_19 h
def wX9_shelf_p42 (s0 : Int32) (c : gMem) (Q : Int32 → gMem → Prop) : Prop :=
  wX9_answer s0 c (fun r2 c1 =>
  Q r2 c1)
set_option maxRecDepth 100000 in
set_option maxHeartbeats 4000000 in
theorem tX9_shelf_p42 {l : Launch} {G : gG} {k : Nat} {o : gMem} {Q : Int32 → gMem → Prop} {s0 : Int32} {c : gMem} (h : wX9_shelf_p42 s0 c Q) : Go l G mX9_shelf (gbq G 2 41 84 k (qi (wX G o) Q)) 42 [] [.int s0, .ref (G.2.1 + 0)] 84 k (wX G o c) := by
  unfold wX9_shelf_p42 at h
  refine gq_callV_i (pc := 42) (F := wX G o) vX9_80 rfl (tX9_answer h) rfl rfl (gz_b (by decide)) xw0 rfl (Nat.le_of_ble_eq_true rfl) ⟨Nat.le_of_ble_eq_true rfl, Nat.le_of_ble_eq_true rfl, Nat.le_add_right _ _, Nat.le_add_right _ _⟩ dX9_shelf_42 (fun r2 c1 h => ?_)
  exact gq_iret (pc := 45) (F := wX G o) rfl dX9_shelf_45 h
def wX9_shelf_p23 (c : gMem) (Q : Int32 → gMem → Prop) : Prop :=
  wX9_shelf_p42 ((-12)) c Q
set_option maxRecDepth 100000 in
set_option maxHeartbeats 4000000 in
theorem tX9_shelf_p23 {l : Launch} {G : gG} {k : Nat} {o : gMem} {Q : Int32 → gMem → Prop} {c : gMem} (h : wX9_shelf_p23 c Q) : Go l G mX9_shelf (gbq G 2 41 84 k (qi (wX G o) Q)) 23 [] [.ref (G.2.1 + 0)] 84 k (wX G o c) := by
  unfold wX9_shelf_p23 at h
  refine go_bipush (pc := 23) (v := (-12)) dX9_shelf_23 (by decide) ?_
  refine go_goto (pc := 25) (tgt := 42) dX9_shelf_25 (by decide) ?_
  refine go_lv [] rfl ?_
  exact tX9_shelf_p42 h
def wX9_shelf (l1 : Int32) (l2 : Int32) (c : gMem) (Q : Int32 → gMem → Prop) : Prop :=
  ((l1 < 0 →
    Q ((-101)) c) ∧
   (¬ l1 < 0 →
    ((l1 < 4 →
      ((l2 < 0 →
        wX9_shelf_p23 c Q) ∧
       (¬ l2 < 0 →
        ((l2 < 8 →
          vp_in ((l1 * 8) + l2) 32 ∧
          ∀ v5, v5 = c 21 ((l1 * 8) + l2).toNatClampNeg →
          wX9_shelf_p42 v5 c Q) ∧
         (¬ l2 < 8 →
          wX9_shelf_p23 c Q))))) ∧
     (¬ l1 < 4 →
      Q ((-101)) c))))
set_option maxRecDepth 100000 in
set_option maxHeartbeats 4000000 in
theorem tX9_shelf {l : Launch} {G : gG} {k : Nat} {o : gMem} {Q : Int32 → gMem → Prop} {l1 : Int32} {l2 : Int32} {c : gMem} (h : wX9_shelf l1 l2 c Q) : Cq l G mX9_shelf 2 41 [.ref (G.2.1 + 0), .int l1, .int l2] 84 k (wX G o c) (qi (wX G o) Q) := by
  refine Cq.of (by decide) (Nat.le_of_ble_eq_true rfl) ?_
  show Go l G mX9_shelf (gbq G 2 41 84 k (qi (wX G o) Q)) 0 [(0, .ref (G.2.1 + 0)), (1, .int l1), (2, .int l2)] [] 84 k (wX G o c)
  unfold wX9_shelf at h
  refine go_iload_n (pc := 0) dX9_shelf_0 rfl rfl ?_
  refine go_if_lt (pc := 1) (tgt := 9) dX9_shelf_1 (by decide) (fun q1 => ?_) (fun q1 => ?_)
  · have h := h.1 q1
    refine go_bipush (pc := 9) (v := (-101)) dX9_shelf_9 (by decide) ?_
    exact gq_iret (pc := 11) (F := wX G o) rfl dX9_shelf_11 h
  · have h := h.2 q1
    refine go_iload_n (pc := 4) dX9_shelf_4 rfl rfl ?_
    refine go_iconst (pc := 5) (v := 4) dX9_shelf_5 (by decide) ?_
    refine go_icmp_lt (pc := 6) (tgt := 12) dX9_shelf_6 (by decide) (fun q2 => ?_) (fun q2 => ?_)
    · have h := h.1 q2
      refine go_aload_n (pc := 12) dX9_shelf_12 rfl rfl ?_
      refine go_iload_n (pc := 13) dX9_shelf_13 rfl rfl ?_
      refine go_if_lt (pc := 14) (tgt := 23) dX9_shelf_14 (by decide) (fun q3 => ?_) (fun q3 => ?_)
      · have h := h.1 q3
        refine go_lv [] rfl ?_
        exact tX9_shelf_p23 h
      · have h := h.2 q3
        refine go_iload_n (pc := 17) dX9_shelf_17 rfl rfl ?_
        refine go_bipush (pc := 18) (v := 8) dX9_shelf_18 (by decide) ?_
        refine go_icmp_lt (pc := 20) (tgt := 28) dX9_shelf_20 (by decide) (fun q4 => ?_) (fun q4 => ?_)
        · have h := h.1 q4
          refine go_aload_n (pc := 28) dX9_shelf_28 rfl rfl ?_
          refine go_get (pc := 29) fX9_12 rfl (gz_b (by decide)) xw0 rfl dX9_shelf_29 ?_
          refine go_get (pc := 32) fX9_172 rfl (gz_b (by decide)) xw1 rfl dX9_shelf_32 ?_
          refine go_iload_n (pc := 35) dX9_shelf_35 rfl rfl ?_
          refine go_bipush (pc := 36) (v := 8) dX9_shelf_36 (by decide) ?_
          refine go_imul (pc := 38) dX9_shelf_38 ?_
          refine go_iload_n (pc := 39) dX9_shelf_39 rfl rfl ?_
          refine go_iadd (pc := 40) dX9_shelf_40 ?_
          obtain ⟨b6, h⟩ := h
          refine gb_iald (pc := 41) (gz_b (by decide)) xw21 b6 dX9_shelf_41 (fun v5 ev5 => ?_)
          have h := h v5 ev5
          refine go_lv [] rfl ?_
          exact tX9_shelf_p42 h
        · have h := h.2 q4
          refine go_lv [] rfl ?_
          exact tX9_shelf_p23 h
    · have h := h.2 q2
      refine go_bipush (pc := 9) (v := (-101)) dX9_shelf_9 (by decide) ?_
      exact gq_iret (pc := 11) (F := wX G o) rfl dX9_shelf_11 h
def wX2_copyFrom_p27 (c : gMem) (Q : gMem → Prop) : Prop :=
  ∀ v1, v1 = c 2 1 →
  (¬ (0 : Int32) < 0 ∧ ¬ (0 : Int32) < 0 ∧ ¬ v1 < 0 ∧ 0 + v1.toNatClampNeg ≤ 4000 ∧ 0 + v1.toNatClampNeg ≤ 4000) ∧
  ∀ c3, c3 = mr c 45 (va_cpy (c 3) (c 45) 0 0 v1.toNatClampNeg) →
  (¬ (0 : Int32) < 0 ∧ ¬ (0 : Int32) < 0 ∧ ¬ (500 : Int32) < 0 ∧ 0 + 500 ≤ 500 ∧ 0 + 500 ≤ 500) ∧
  ∀ c5, c5 = mr c3 46 (va_cpy (c3 4) (c3 46) 0 0 500) →
  (¬ (0 : Int32) < 0 ∧ ¬ (0 : Int32) < 0 ∧ ¬ (500 : Int32) < 0 ∧ 0 + 500 ≤ 500 ∧ 0 + 500 ≤ 500) ∧
  ∀ c7, c7 = mr c5 47 (va_cpy (c5 5) (c5 47) 0 0 500) →
  ∀ v8, v8 = c7 2 0 →
  ∀ c9, c9 = mp c7 44 0 v8 →
  ∀ v10, v10 = c9 2 1 →
  ∀ c11, c11 = mp c9 44 1 v10 →
  ∀ v12, v12 = c11 2 2 →
  ∀ c13, c13 = mp c11 44 2 v12 →
  ∀ v14, v14 = c13 2 3 →
  ∀ c15, c15 = mp c13 44 3 v14 →
  Q c15
set_option maxRecDepth 100000 in
set_option maxHeartbeats 4000000 in
theorem tX2_copyFrom_p27 {l : Launch} {G : gG} {k : Nat} {o : gMem} {Q : gMem → Prop} {c : gMem} (h : wX2_copyFrom_p27 c Q) : Go l G mX2_copyFrom (gbq G 2 46 84 k (qv (wX G o) Q)) 27 [(0, .ref (G.2.1 + 44)), (1, .ref (G.2.1 + 2))] [] 84 k (wX G o c) := by
  unfold wX2_copyFrom_p27 at h
  refine go_aload_n (pc := 27) dX2_copyFrom_27 rfl rfl ?_
  refine go_get (pc := 28) fX2_9 rfl (gz_b (by decide)) xw2 rfl dX2_copyFrom_28 ?_
  refine go_iconst (pc := 31) (v := 0) dX2_copyFrom_31 (by decide) ?_
  refine go_aload_n (pc := 32) dX2_copyFrom_32 rfl rfl ?_
  refine go_get (pc := 33) fX2_9 rfl (gz_b (by decide)) xw44 rfl dX2_copyFrom_33 ?_
  refine go_iconst (pc := 36) (v := 0) dX2_copyFrom_36 (by decide) ?_
  refine go_aload_n (pc := 37) dX2_copyFrom_37 rfl rfl ?_
  refine gb_get (pc := 38) fX2_41 rfl (gz_b (by decide)) xw2 rfl dX2_copyFrom_38 (fun v1 ev1 => ?_)
  have h := h v1 ev1
  obtain ⟨b2, h⟩ := h
  refine gb_copy (pc := 41) (F := wX G o) rfl aX2_47 (gz_b (by decide)) xw3 (gz_b (by decide)) xw45 b2 (Nat.le_of_ble_eq_true rfl) (Nat.le_of_ble_eq_true rfl) xa45 dX2_copyFrom_41 (fun c3 ec3 => ?_)
  have h := h c3 ec3
  refine go_aload_n (pc := 44) dX2_copyFrom_44 rfl rfl ?_
  refine go_get (pc := 45) fX2_15 rfl (gz_b (by decide)) xw2 rfl dX2_copyFrom_45 ?_
  refine go_iconst (pc := 48) (v := 0) dX2_copyFrom_48 (by decide) ?_
  refine go_aload_n (pc := 49) dX2_copyFrom_49 rfl rfl ?_
  refine go_get (pc := 50) fX2_15 rfl (gz_b (by decide)) xw44 rfl dX2_copyFrom_50 ?_
  refine go_iconst (pc := 53) (v := 0) dX2_copyFrom_53 (by decide) ?_
  refine go_sipush (pc := 54) (v := 500) dX2_copyFrom_54 (by decide) ?_
  obtain ⟨b4, h⟩ := h
  refine gb_copy (pc := 57) (F := wX G o) rfl aX2_47 (gz_b (by decide)) xw4 (gz_b (by decide)) xw46 b4 (Nat.le_of_ble_eq_true rfl) (Nat.le_of_ble_eq_true rfl) xa46 dX2_copyFrom_57 (fun c5 ec5 => ?_)
  have h := h c5 ec5
  refine go_aload_n (pc := 60) dX2_copyFrom_60 rfl rfl ?_
  refine go_get (pc := 61) fX2_18 rfl (gz_b (by decide)) xw2 rfl dX2_copyFrom_61 ?_
  refine go_iconst (pc := 64) (v := 0) dX2_copyFrom_64 (by decide) ?_
  refine go_aload_n (pc := 65) dX2_copyFrom_65 rfl rfl ?_
  refine go_get (pc := 66) fX2_18 rfl (gz_b (by decide)) xw44 rfl dX2_copyFrom_66 ?_
  refine go_iconst (pc := 69) (v := 0) dX2_copyFrom_69 (by decide) ?_
  refine go_sipush (pc := 70) (v := 500) dX2_copyFrom_70 (by decide) ?_
  obtain ⟨b6, h⟩ := h
  refine gb_copy (pc := 73) (F := wX G o) rfl aX2_47 (gz_b (by decide)) xw5 (gz_b (by decide)) xw47 b6 (Nat.le_of_ble_eq_true rfl) (Nat.le_of_ble_eq_true rfl) xa47 dX2_copyFrom_73 (fun c7 ec7 => ?_)
  have h := h c7 ec7
  refine go_aload_n (pc := 76) dX2_copyFrom_76 rfl rfl ?_
  refine go_aload_n (pc := 77) dX2_copyFrom_77 rfl rfl ?_
  refine gb_get (pc := 78) fX2_25 rfl (gz_b (by decide)) xw2 rfl dX2_copyFrom_78 (fun v8 ev8 => ?_)
  have h := h v8 ev8
  refine gb_put (pc := 81) (F := wX G o) fX2_25 rfl (gz_b (by decide)) xw44 (Nat.le_of_ble_eq_true rfl) rfl rfl xp44_0 dX2_copyFrom_81 (fun c9 ec9 => ?_)
  have h := h c9 ec9
  refine go_aload_n (pc := 84) dX2_copyFrom_84 rfl rfl ?_
  refine go_aload_n (pc := 85) dX2_copyFrom_85 rfl rfl ?_
  refine gb_get (pc := 86) fX2_41 rfl (gz_b (by decide)) xw2 rfl dX2_copyFrom_86 (fun v10 ev10 => ?_)
  have h := h v10 ev10
  refine gb_put (pc := 89) (F := wX G o) fX2_41 rfl (gz_b (by decide)) xw44 (Nat.le_of_ble_eq_true rfl) rfl rfl xp44_1 dX2_copyFrom_89 (fun c11 ec11 => ?_)
  have h := h c11 ec11
  refine go_aload_n (pc := 92) dX2_copyFrom_92 rfl rfl ?_
  refine go_aload_n (pc := 93) dX2_copyFrom_93 rfl rfl ?_
  refine gb_get (pc := 94) fX2_29 rfl (gz_b (by decide)) xw2 rfl dX2_copyFrom_94 (fun v12 ev12 => ?_)
  have h := h v12 ev12
  refine gb_put (pc := 97) (F := wX G o) fX2_29 rfl (gz_b (by decide)) xw44 (Nat.le_of_ble_eq_true rfl) rfl rfl xp44_2 dX2_copyFrom_97 (fun c13 ec13 => ?_)
  have h := h c13 ec13
  refine go_aload_n (pc := 100) dX2_copyFrom_100 rfl rfl ?_
  refine go_aload_n (pc := 101) dX2_copyFrom_101 rfl rfl ?_
  refine gb_get (pc := 102) fX2_32 rfl (gz_b (by decide)) xw2 rfl dX2_copyFrom_102 (fun v14 ev14 => ?_)
  have h := h v14 ev14
  refine gb_put (pc := 105) (F := wX G o) fX2_32 rfl (gz_b (by decide)) xw44 (Nat.le_of_ble_eq_true rfl) rfl rfl xp44_3 dX2_copyFrom_105 (fun c15 ec15 => ?_)
  have h := h c15 ec15
  exact gq_vret (pc := 108) (F := wX G o) rfl dX2_copyFrom_108 h
def wX2_copyFrom (c : gMem) (Q : gMem → Prop) : Prop :=
  ∀ v1, v1 = c 44 1 →
  ∀ v2, v2 = c 2 1 →
  ((v1 ≤ v2 →
    wX2_copyFrom_p27 c Q) ∧
   (¬ v1 ≤ v2 →
    ∀ v4, v4 = c 2 1 →
    ∀ v5, v5 = c 44 1 →
    ∃ f7 t8 : Nat, v4 = nI f7 ∧ v5 = nI t8 ∧ f7 ≤ t8 ∧ t8 ≤ 4000 ∧
    ∀ c6, c6 = mr c 45 (fun j => if f7 ≤ j ∧ j < t8 then 0 else c 45 j) →
    wX2_copyFrom_p27 c6 Q))
set_option maxRecDepth 100000 in
set_option maxHeartbeats 4000000 in
theorem tX2_copyFrom {l : Launch} {G : gG} {k : Nat} {o : gMem} {Q : gMem → Prop} {c : gMem} (h : wX2_copyFrom c Q) : Cq l G mX2_copyFrom 2 46 [.ref (G.2.1 + 44), .ref (G.2.1 + 2)] 84 k (wX G o c) (qv (wX G o) Q) := by
  refine Cq.of (by decide) (Nat.le_of_ble_eq_true rfl) ?_
  show Go l G mX2_copyFrom (gbq G 2 46 84 k (qv (wX G o) Q)) 0 [(0, .ref (G.2.1 + 44)), (1, .ref (G.2.1 + 2))] [] 84 k (wX G o c)
  unfold wX2_copyFrom at h
  refine go_aload_n (pc := 0) dX2_copyFrom_0 rfl rfl ?_
  refine gb_get (pc := 1) fX2_41 rfl (gz_b (by decide)) xw44 rfl dX2_copyFrom_1 (fun v1 ev1 => ?_)
  have h := h v1 ev1
  refine go_aload_n (pc := 4) dX2_copyFrom_4 rfl rfl ?_
  refine gb_get (pc := 5) fX2_41 rfl (gz_b (by decide)) xw2 rfl dX2_copyFrom_5 (fun v2 ev2 => ?_)
  have h := h v2 ev2
  refine go_icmp_le (pc := 8) (tgt := 27) dX2_copyFrom_8 (by decide) (fun q3 => ?_) (fun q3 => ?_)
  · have h := h.1 q3
    refine go_lv [0, 1] rfl ?_
    exact tX2_copyFrom_p27 h
  · have h := h.2 q3
    refine go_aload_n (pc := 11) dX2_copyFrom_11 rfl rfl ?_
    refine go_get (pc := 12) fX2_9 rfl (gz_b (by decide)) xw44 rfl dX2_copyFrom_12 ?_
    refine go_aload_n (pc := 15) dX2_copyFrom_15 rfl rfl ?_
    refine gb_get (pc := 16) fX2_41 rfl (gz_b (by decide)) xw2 rfl dX2_copyFrom_16 (fun v4 ev4 => ?_)
    have h := h v4 ev4
    refine go_aload_n (pc := 19) dX2_copyFrom_19 rfl rfl ?_
    refine gb_get (pc := 20) fX2_41 rfl (gz_b (by decide)) xw44 rfl dX2_copyFrom_20 (fun v5 ev5 => ?_)
    have h := h v5 ev5
    refine go_iconst (pc := 23) (v := 0) dX2_copyFrom_23 (by decide) ?_
    obtain ⟨f7, t8, u9a, u9b, u9c, u9d, h⟩ := h
    refine gq_callS_v (pc := 24) (F := wX G o) (Q := fun q => q = mr c 45 (fun j => if f7 ≤ j ∧ j < t8 then 0 else c 45 j)) sX2_44 rfl (cq_fillr (by decide) u9a u9b u9c u9d (gz_b (by decide)) xw45 xa45 rfl) rfl rfl (Nat.le_of_ble_eq_true rfl) ⟨Nat.le_of_ble_eq_true rfl, Nat.le_of_ble_eq_true rfl, Nat.le_add_right _ _, Nat.le_add_right _ _⟩ dX2_copyFrom_24 (fun c6 ec6 => ?_)
    have h := h c6 ec6
    refine go_lv [0, 1] rfl ?_
    exact tX2_copyFrom_p27 h
def wX3_copyFrom (c : gMem) (Q : gMem → Prop) : Prop :=
  ∀ v1, v1 = c 6 0 →
  (v1 = 0 ∨ v1 = 1) ∧
  ∀ c2, c2 = mp c 48 0 v1 →
  ∀ v4, v4 = c2 6 1 →
  ∀ c5, c5 = mp c2 48 1 v4 →
  ∀ v6, v6 = c5 6 2 →
  ∀ c7, c7 = mp c5 48 2 v6 →
  ∀ v8, v8 = c7 6 3 →
  ∀ c9, c9 = mp c7 48 3 v8 →
  (¬ (0 : Int32) < 0 ∧ ¬ (0 : Int32) < 0 ∧ ¬ (500 : Int32) < 0 ∧ 0 + 500 ≤ 500 ∧ 0 + 500 ≤ 500) ∧
  ∀ c11, c11 = mr c9 49 (va_cpy (c9 7) (c9 49) 0 0 500) →
  (¬ (0 : Int32) < 0 ∧ ¬ (0 : Int32) < 0 ∧ ¬ (500 : Int32) < 0 ∧ 0 + 500 ≤ 500 ∧ 0 + 500 ≤ 500) ∧
  ∀ c13, c13 = mr c11 50 (va_cpy (c11 8) (c11 50) 0 0 500) →
  (¬ (0 : Int32) < 0 ∧ ¬ (0 : Int32) < 0 ∧ ¬ (500 : Int32) < 0 ∧ 0 + 500 ≤ 500 ∧ 0 + 500 ≤ 500) ∧
  ∀ c15, c15 = mr c13 51 (va_cpy (c13 9) (c13 51) 0 0 500) →
  (¬ (0 : Int32) < 0 ∧ ¬ (0 : Int32) < 0 ∧ ¬ (500 : Int32) < 0 ∧ 0 + 500 ≤ 500 ∧ 0 + 500 ≤ 500) ∧
  ∀ c17, c17 = mr c15 52 (va_cpy (c15 10) (c15 52) 0 0 500) →
  (¬ (0 : Int32) < 0 ∧ ¬ (0 : Int32) < 0 ∧ ¬ (500 : Int32) < 0 ∧ 0 + 500 ≤ 500 ∧ 0 + 500 ≤ 500) ∧
  ∀ c19, c19 = mr c17 53 (va_cpy (c17 11) (c17 53) 0 0 500) →
  Q c19
set_option maxRecDepth 100000 in
set_option maxHeartbeats 4000000 in
theorem tX3_copyFrom {l : Launch} {G : gG} {k : Nat} {o : gMem} {Q : gMem → Prop} {c : gMem} (h : wX3_copyFrom c Q) : Cq l G mX3_copyFrom 1 26 [.ref (G.2.1 + 48), .ref (G.2.1 + 6)] 84 k (wX G o c) (qv (wX G o) Q) := by
  refine Cq.of (by decide) (Nat.le_of_ble_eq_true rfl) ?_
  show Go l G mX3_copyFrom (gbq G 1 26 84 k (qv (wX G o) Q)) 0 [(0, .ref (G.2.1 + 48)), (1, .ref (G.2.1 + 6))] [] 84 k (wX G o c)
  unfold wX3_copyFrom at h
  refine go_aload_n (pc := 0) dX3_copyFrom_0 rfl rfl ?_
  refine go_aload_n (pc := 1) dX3_copyFrom_1 rfl rfl ?_
  refine gb_get (pc := 2) fX3_27 rfl (gz_b (by decide)) xw6 rfl dX3_copyFrom_2 (fun v1 ev1 => ?_)
  have h := h v1 ev1
  obtain ⟨b3, h⟩ := h
  refine gb_put (pc := 5) (F := wX G o) fX3_27 rfl (gz_b (by decide)) xw48 (Nat.le_of_ble_eq_true rfl) (by rcases b3 with hz | hz <;> rw [hz] <;> rfl) (by rcases b3 with hz | hz <;> rw [hz] <;> rfl) xp48_0 dX3_copyFrom_5 (fun c2 ec2 => ?_)
  have h := h c2 ec2
  refine go_aload_n (pc := 8) dX3_copyFrom_8 rfl rfl ?_
  refine go_aload_n (pc := 9) dX3_copyFrom_9 rfl rfl ?_
  refine gb_get (pc := 10) fX3_31 rfl (gz_b (by decide)) xw6 rfl dX3_copyFrom_10 (fun v4 ev4 => ?_)
  have h := h v4 ev4
  refine gb_put (pc := 13) (F := wX G o) fX3_31 rfl (gz_b (by decide)) xw48 (Nat.le_of_ble_eq_true rfl) rfl rfl xp48_1 dX3_copyFrom_13 (fun c5 ec5 => ?_)
  have h := h c5 ec5
  refine go_aload_n (pc := 16) dX3_copyFrom_16 rfl rfl ?_
  refine go_aload_n (pc := 17) dX3_copyFrom_17 rfl rfl ?_
  refine gb_get (pc := 18) fX3_35 rfl (gz_b (by decide)) xw6 rfl dX3_copyFrom_18 (fun v6 ev6 => ?_)
  have h := h v6 ev6
  refine gb_put (pc := 21) (F := wX G o) fX3_35 rfl (gz_b (by decide)) xw48 (Nat.le_of_ble_eq_true rfl) rfl rfl xp48_2 dX3_copyFrom_21 (fun c7 ec7 => ?_)
  have h := h c7 ec7
  refine go_aload_n (pc := 24) dX3_copyFrom_24 rfl rfl ?_
  refine go_aload_n (pc := 25) dX3_copyFrom_25 rfl rfl ?_
  refine gb_get (pc := 26) fX3_38 rfl (gz_b (by decide)) xw6 rfl dX3_copyFrom_26 (fun v8 ev8 => ?_)
  have h := h v8 ev8
  refine gb_put (pc := 29) (F := wX G o) fX3_38 rfl (gz_b (by decide)) xw48 (Nat.le_of_ble_eq_true rfl) rfl rfl xp48_3 dX3_copyFrom_29 (fun c9 ec9 => ?_)
  have h := h c9 ec9
  refine go_aload_n (pc := 32) dX3_copyFrom_32 rfl rfl ?_
  refine go_get (pc := 33) fX3_9 rfl (gz_b (by decide)) xw6 rfl dX3_copyFrom_33 ?_
  refine go_iconst (pc := 36) (v := 0) dX3_copyFrom_36 (by decide) ?_
  refine go_aload_n (pc := 37) dX3_copyFrom_37 rfl rfl ?_
  refine go_get (pc := 38) fX3_9 rfl (gz_b (by decide)) xw48 rfl dX3_copyFrom_38 ?_
  refine go_iconst (pc := 41) (v := 0) dX3_copyFrom_41 (by decide) ?_
  refine go_sipush (pc := 42) (v := 500) dX3_copyFrom_42 (by decide) ?_
  obtain ⟨b10, h⟩ := h
  refine gb_copy (pc := 45) (F := wX G o) rfl aX3_47 (gz_b (by decide)) xw7 (gz_b (by decide)) xw49 b10 (Nat.le_of_ble_eq_true rfl) (Nat.le_of_ble_eq_true rfl) xa49 dX3_copyFrom_45 (fun c11 ec11 => ?_)
  have h := h c11 ec11
  refine go_aload_n (pc := 48) dX3_copyFrom_48 rfl rfl ?_
  refine go_get (pc := 49) fX3_15 rfl (gz_b (by decide)) xw6 rfl dX3_copyFrom_49 ?_
  refine go_iconst (pc := 52) (v := 0) dX3_copyFrom_52 (by decide) ?_
  refine go_aload_n (pc := 53) dX3_copyFrom_53 rfl rfl ?_
  refine go_get (pc := 54) fX3_15 rfl (gz_b (by decide)) xw48 rfl dX3_copyFrom_54 ?_
  refine go_iconst (pc := 57) (v := 0) dX3_copyFrom_57 (by decide) ?_
  refine go_sipush (pc := 58) (v := 500) dX3_copyFrom_58 (by decide) ?_
  obtain ⟨b12, h⟩ := h
  refine gb_copy (pc := 61) (F := wX G o) rfl aX3_47 (gz_b (by decide)) xw8 (gz_b (by decide)) xw50 b12 (Nat.le_of_ble_eq_true rfl) (Nat.le_of_ble_eq_true rfl) xa50 dX3_copyFrom_61 (fun c13 ec13 => ?_)
  have h := h c13 ec13
  refine go_aload_n (pc := 64) dX3_copyFrom_64 rfl rfl ?_
  refine go_get (pc := 65) fX3_18 rfl (gz_b (by decide)) xw6 rfl dX3_copyFrom_65 ?_
  refine go_iconst (pc := 68) (v := 0) dX3_copyFrom_68 (by decide) ?_
  refine go_aload_n (pc := 69) dX3_copyFrom_69 rfl rfl ?_
  refine go_get (pc := 70) fX3_18 rfl (gz_b (by decide)) xw48 rfl dX3_copyFrom_70 ?_
  refine go_iconst (pc := 73) (v := 0) dX3_copyFrom_73 (by decide) ?_
  refine go_sipush (pc := 74) (v := 500) dX3_copyFrom_74 (by decide) ?_
  obtain ⟨b14, h⟩ := h
  refine gb_copy (pc := 77) (F := wX G o) rfl aX3_47 (gz_b (by decide)) xw9 (gz_b (by decide)) xw51 b14 (Nat.le_of_ble_eq_true rfl) (Nat.le_of_ble_eq_true rfl) xa51 dX3_copyFrom_77 (fun c15 ec15 => ?_)
  have h := h c15 ec15
  refine go_aload_n (pc := 80) dX3_copyFrom_80 rfl rfl ?_
  refine go_get (pc := 81) fX3_21 rfl (gz_b (by decide)) xw6 rfl dX3_copyFrom_81 ?_
  refine go_iconst (pc := 84) (v := 0) dX3_copyFrom_84 (by decide) ?_
  refine go_aload_n (pc := 85) dX3_copyFrom_85 rfl rfl ?_
  refine go_get (pc := 86) fX3_21 rfl (gz_b (by decide)) xw48 rfl dX3_copyFrom_86 ?_
  refine go_iconst (pc := 89) (v := 0) dX3_copyFrom_89 (by decide) ?_
  refine go_sipush (pc := 90) (v := 500) dX3_copyFrom_90 (by decide) ?_
  obtain ⟨b16, h⟩ := h
  refine gb_copy (pc := 93) (F := wX G o) rfl aX3_47 (gz_b (by decide)) xw10 (gz_b (by decide)) xw52 b16 (Nat.le_of_ble_eq_true rfl) (Nat.le_of_ble_eq_true rfl) xa52 dX3_copyFrom_93 (fun c17 ec17 => ?_)
  have h := h c17 ec17
  refine go_aload_n (pc := 96) dX3_copyFrom_96 rfl rfl ?_
  refine go_get (pc := 97) fX3_24 rfl (gz_b (by decide)) xw6 rfl dX3_copyFrom_97 ?_
  refine go_iconst (pc := 100) (v := 0) dX3_copyFrom_100 (by decide) ?_
  refine go_aload_n (pc := 101) dX3_copyFrom_101 rfl rfl ?_
  refine go_get (pc := 102) fX3_24 rfl (gz_b (by decide)) xw48 rfl dX3_copyFrom_102 ?_
  refine go_iconst (pc := 105) (v := 0) dX3_copyFrom_105 (by decide) ?_
  refine go_sipush (pc := 106) (v := 500) dX3_copyFrom_106 (by decide) ?_
  obtain ⟨b18, h⟩ := h
  refine gb_copy (pc := 109) (F := wX G o) rfl aX3_47 (gz_b (by decide)) xw11 (gz_b (by decide)) xw53 b18 (Nat.le_of_ble_eq_true rfl) (Nat.le_of_ble_eq_true rfl) xa53 dX3_copyFrom_109 (fun c19 ec19 => ?_)
  have h := h c19 ec19
  exact gq_vret (pc := 112) (F := wX G o) rfl dX3_copyFrom_112 h
def wX8_copyFrom (c : gMem) (Q : gMem → Prop) : Prop :=
  ∀ v1, v1 = c 12 0 →
  ∀ c2, c2 = mp c 54 0 v1 →
  ∀ v3, v3 = c2 12 1 →
  ∀ c4, c4 = mp c2 54 1 v3 →
  ∀ v5, v5 = c4 12 2 →
  ∀ c6, c6 = mp c4 54 2 v5 →
  ∀ v7, v7 = c6 12 3 →
  ∀ c8, c8 = mp c6 54 3 v7 →
  ∀ v9, v9 = c8 12 4 →
  ∀ c10, c10 = mp c8 54 4 v9 →
  ∀ v11, v11 = c10 12 5 →
  ∀ c12, c12 = mp c10 54 5 v11 →
  (¬ (0 : Int32) < 0 ∧ ¬ (0 : Int32) < 0 ∧ ¬ (300 : Int32) < 0 ∧ 0 + 300 ≤ 300 ∧ 0 + 300 ≤ 300) ∧
  ∀ c14, c14 = mr c12 55 (va_cpy (c12 13) (c12 55) 0 0 300) →
  Q c14
set_option maxRecDepth 100000 in
set_option maxHeartbeats 4000000 in
theorem tX8_copyFrom {l : Launch} {G : gG} {k : Nat} {o : gMem} {Q : gMem → Prop} {c : gMem} (h : wX8_copyFrom c Q) : Cq l G mX8_copyFrom 1 26 [.ref (G.2.1 + 54), .ref (G.2.1 + 12)] 84 k (wX G o c) (qv (wX G o) Q) := by
  refine Cq.of (by decide) (Nat.le_of_ble_eq_true rfl) ?_
  show Go l G mX8_copyFrom (gbq G 1 26 84 k (qv (wX G o) Q)) 0 [(0, .ref (G.2.1 + 54)), (1, .ref (G.2.1 + 12))] [] 84 k (wX G o c)
  unfold wX8_copyFrom at h
  refine go_aload_n (pc := 0) dX8_copyFrom_0 rfl rfl ?_
  refine go_aload_n (pc := 1) dX8_copyFrom_1 rfl rfl ?_
  refine gb_get (pc := 2) fX8_15 rfl (gz_b (by decide)) xw12 rfl dX8_copyFrom_2 (fun v1 ev1 => ?_)
  have h := h v1 ev1
  refine gb_put (pc := 5) (F := wX G o) fX8_15 rfl (gz_b (by decide)) xw54 (Nat.le_of_ble_eq_true rfl) rfl rfl xp54_0 dX8_copyFrom_5 (fun c2 ec2 => ?_)
  have h := h c2 ec2
  refine go_aload_n (pc := 8) dX8_copyFrom_8 rfl rfl ?_
  refine go_aload_n (pc := 9) dX8_copyFrom_9 rfl rfl ?_
  refine gb_get (pc := 10) fX8_19 rfl (gz_b (by decide)) xw12 rfl dX8_copyFrom_10 (fun v3 ev3 => ?_)
  have h := h v3 ev3
  refine gb_put (pc := 13) (F := wX G o) fX8_19 rfl (gz_b (by decide)) xw54 (Nat.le_of_ble_eq_true rfl) rfl rfl xp54_1 dX8_copyFrom_13 (fun c4 ec4 => ?_)
  have h := h c4 ec4
  refine go_aload_n (pc := 16) dX8_copyFrom_16 rfl rfl ?_
  refine go_aload_n (pc := 17) dX8_copyFrom_17 rfl rfl ?_
  refine gb_get (pc := 18) fX8_22 rfl (gz_b (by decide)) xw12 rfl dX8_copyFrom_18 (fun v5 ev5 => ?_)
  have h := h v5 ev5
  refine gb_put (pc := 21) (F := wX G o) fX8_22 rfl (gz_b (by decide)) xw54 (Nat.le_of_ble_eq_true rfl) rfl rfl xp54_2 dX8_copyFrom_21 (fun c6 ec6 => ?_)
  have h := h c6 ec6
  refine go_aload_n (pc := 24) dX8_copyFrom_24 rfl rfl ?_
  refine go_aload_n (pc := 25) dX8_copyFrom_25 rfl rfl ?_
  refine gb_get (pc := 26) fX8_25 rfl (gz_b (by decide)) xw12 rfl dX8_copyFrom_26 (fun v7 ev7 => ?_)
  have h := h v7 ev7
  refine gb_put (pc := 29) (F := wX G o) fX8_25 rfl (gz_b (by decide)) xw54 (Nat.le_of_ble_eq_true rfl) rfl rfl xp54_3 dX8_copyFrom_29 (fun c8 ec8 => ?_)
  have h := h c8 ec8
  refine go_aload_n (pc := 32) dX8_copyFrom_32 rfl rfl ?_
  refine go_aload_n (pc := 33) dX8_copyFrom_33 rfl rfl ?_
  refine gb_get (pc := 34) fX8_28 rfl (gz_b (by decide)) xw12 rfl dX8_copyFrom_34 (fun v9 ev9 => ?_)
  have h := h v9 ev9
  refine gb_put (pc := 37) (F := wX G o) fX8_28 rfl (gz_b (by decide)) xw54 (Nat.le_of_ble_eq_true rfl) rfl rfl xp54_4 dX8_copyFrom_37 (fun c10 ec10 => ?_)
  have h := h c10 ec10
  refine go_aload_n (pc := 40) dX8_copyFrom_40 rfl rfl ?_
  refine go_aload_n (pc := 41) dX8_copyFrom_41 rfl rfl ?_
  refine gb_get (pc := 42) fX8_31 rfl (gz_b (by decide)) xw12 rfl dX8_copyFrom_42 (fun v11 ev11 => ?_)
  have h := h v11 ev11
  refine gb_put (pc := 45) (F := wX G o) fX8_31 rfl (gz_b (by decide)) xw54 (Nat.le_of_ble_eq_true rfl) rfl rfl xp54_5 dX8_copyFrom_45 (fun c12 ec12 => ?_)
  have h := h c12 ec12
  refine go_aload_n (pc := 48) dX8_copyFrom_48 rfl rfl ?_
  refine go_get (pc := 49) fX8_9 rfl (gz_b (by decide)) xw12 rfl dX8_copyFrom_49 ?_
  refine go_iconst (pc := 52) (v := 0) dX8_copyFrom_52 (by decide) ?_
  refine go_aload_n (pc := 53) dX8_copyFrom_53 rfl rfl ?_
  refine go_get (pc := 54) fX8_9 rfl (gz_b (by decide)) xw54 rfl dX8_copyFrom_54 ?_
  refine go_iconst (pc := 57) (v := 0) dX8_copyFrom_57 (by decide) ?_
  refine go_aload_n (pc := 58) dX8_copyFrom_58 rfl rfl ?_
  refine go_get (pc := 59) fX8_9 rfl (gz_b (by decide)) xw54 rfl dX8_copyFrom_59 ?_
  refine go_alen (pc := 62) (gz_b (by decide)) xw55 dX8_copyFrom_62 ?_
  refine go_top (y := 300) (by decide) ?_
  obtain ⟨b13, h⟩ := h
  refine gb_copy (pc := 63) (F := wX G o) rfl aX8_34 (gz_b (by decide)) xw13 (gz_b (by decide)) xw55 b13 (Nat.le_of_ble_eq_true rfl) (Nat.le_of_ble_eq_true rfl) xa55 dX8_copyFrom_63 (fun c14 ec14 => ?_)
  have h := h c14 ec14
  exact gq_vret (pc := 66) (F := wX G o) rfl dX8_copyFrom_66 h
def wX4_copyFrom (c : gMem) (Q : gMem → Prop) : Prop :=
  ∀ v1, v1 = c 14 0 →
  ∀ c2, c2 = mp c 56 0 v1 →
  ∀ v3, v3 = c2 56 0 →
  (¬ (0 : Int32) < 0 ∧ ¬ (0 : Int32) < 0 ∧ ¬ v3 < 0 ∧ 0 + v3.toNatClampNeg ≤ 6527 ∧ 0 + v3.toNatClampNeg ≤ 6527) ∧
  ∀ c5, c5 = mr c2 57 (va_cpy (c2 15) (c2 57) 0 0 v3.toNatClampNeg) →
  ∀ v6, v6 = c5 56 0 →
  (¬ (0 : Int32) < 0 ∧ ¬ (0 : Int32) < 0 ∧ ¬ v6 < 0 ∧ 0 + v6.toNatClampNeg ≤ 6527 ∧ 0 + v6.toNatClampNeg ≤ 6527) ∧
  ∀ c8, c8 = mr c5 58 (va_cpy (c5 16) (c5 58) 0 0 v6.toNatClampNeg) →
  Q c8
set_option maxRecDepth 100000 in
set_option maxHeartbeats 4000000 in
theorem tX4_copyFrom {l : Launch} {G : gG} {k : Nat} {o : gMem} {Q : gMem → Prop} {c : gMem} (h : wX4_copyFrom c Q) : Cq l G mX4_copyFrom 1 26 [.ref (G.2.1 + 56), .ref (G.2.1 + 14)] 84 k (wX G o c) (qv (wX G o) Q) := by
  refine Cq.of (by decide) (Nat.le_of_ble_eq_true rfl) ?_
  show Go l G mX4_copyFrom (gbq G 1 26 84 k (qv (wX G o) Q)) 0 [(0, .ref (G.2.1 + 56)), (1, .ref (G.2.1 + 14))] [] 84 k (wX G o c)
  unfold wX4_copyFrom at h
  refine go_aload_n (pc := 0) dX4_copyFrom_0 rfl rfl ?_
  refine go_aload_n (pc := 1) dX4_copyFrom_1 rfl rfl ?_
  refine gb_get (pc := 2) fX4_18 rfl (gz_b (by decide)) xw14 rfl dX4_copyFrom_2 (fun v1 ev1 => ?_)
  have h := h v1 ev1
  refine gb_put (pc := 5) (F := wX G o) fX4_18 rfl (gz_b (by decide)) xw56 (Nat.le_of_ble_eq_true rfl) rfl rfl xp56_0 dX4_copyFrom_5 (fun c2 ec2 => ?_)
  have h := h c2 ec2
  refine go_aload_n (pc := 8) dX4_copyFrom_8 rfl rfl ?_
  refine go_get (pc := 9) fX4_9 rfl (gz_b (by decide)) xw14 rfl dX4_copyFrom_9 ?_
  refine go_iconst (pc := 12) (v := 0) dX4_copyFrom_12 (by decide) ?_
  refine go_aload_n (pc := 13) dX4_copyFrom_13 rfl rfl ?_
  refine go_get (pc := 14) fX4_9 rfl (gz_b (by decide)) xw56 rfl dX4_copyFrom_14 ?_
  refine go_iconst (pc := 17) (v := 0) dX4_copyFrom_17 (by decide) ?_
  refine go_aload_n (pc := 18) dX4_copyFrom_18 rfl rfl ?_
  refine gb_get (pc := 19) fX4_18 rfl (gz_b (by decide)) xw56 rfl dX4_copyFrom_19 (fun v3 ev3 => ?_)
  have h := h v3 ev3
  obtain ⟨b4, h⟩ := h
  refine gb_copy (pc := 22) (F := wX G o) rfl aX4_22 (gz_b (by decide)) xw15 (gz_b (by decide)) xw57 b4 (Nat.le_of_ble_eq_true rfl) (Nat.le_of_ble_eq_true rfl) xa57 dX4_copyFrom_22 (fun c5 ec5 => ?_)
  have h := h c5 ec5
  refine go_aload_n (pc := 25) dX4_copyFrom_25 rfl rfl ?_
  refine go_get (pc := 26) fX4_15 rfl (gz_b (by decide)) xw14 rfl dX4_copyFrom_26 ?_
  refine go_iconst (pc := 29) (v := 0) dX4_copyFrom_29 (by decide) ?_
  refine go_aload_n (pc := 30) dX4_copyFrom_30 rfl rfl ?_
  refine go_get (pc := 31) fX4_15 rfl (gz_b (by decide)) xw56 rfl dX4_copyFrom_31 ?_
  refine go_iconst (pc := 34) (v := 0) dX4_copyFrom_34 (by decide) ?_
  refine go_aload_n (pc := 35) dX4_copyFrom_35 rfl rfl ?_
  refine gb_get (pc := 36) fX4_18 rfl (gz_b (by decide)) xw56 rfl dX4_copyFrom_36 (fun v6 ev6 => ?_)
  have h := h v6 ev6
  obtain ⟨b7, h⟩ := h
  refine gb_copy (pc := 39) (F := wX G o) rfl aX4_22 (gz_b (by decide)) xw16 (gz_b (by decide)) xw58 b7 (Nat.le_of_ble_eq_true rfl) (Nat.le_of_ble_eq_true rfl) xa58 dX4_copyFrom_39 (fun c8 ec8 => ?_)
  have h := h c8 ec8
  exact gq_vret (pc := 42) (F := wX G o) rfl dX4_copyFrom_42 h
def wX5_copyFrom (c : gMem) (Q : gMem → Prop) : Prop :=
  ∀ v1, v1 = c 17 0 →
  ∀ c2, c2 = mp c 59 0 v1 →
  ∀ v3, v3 = c2 17 1 →
  ∀ c4, c4 = mp c2 59 1 v3 →
  ∀ v5, v5 = c4 17 2 →
  ∀ c6, c6 = mp c4 59 2 v5 →
  ∀ v7, v7 = c6 17 3 →
  ∀ c8, c8 = mp c6 59 3 v7 →
  (¬ (0 : Int32) < 0 ∧ ¬ (0 : Int32) < 0 ∧ ¬ (200 : Int32) < 0 ∧ 0 + 200 ≤ 200 ∧ 0 + 200 ≤ 200) ∧
  ∀ c10, c10 = mr c8 60 (va_cpy (c8 18) (c8 60) 0 0 200) →
  (¬ (0 : Int32) < 0 ∧ ¬ (0 : Int32) < 0 ∧ ¬ (8 : Int32) < 0 ∧ 0 + 8 ≤ 8 ∧ 0 + 8 ≤ 8) ∧
  ∀ c12, c12 = mr c10 61 (va_cpy (c10 19) (c10 61) 0 0 8) →
  Q c12
set_option maxRecDepth 100000 in
set_option maxHeartbeats 4000000 in
theorem tX5_copyFrom {l : Launch} {G : gG} {k : Nat} {o : gMem} {Q : gMem → Prop} {c : gMem} (h : wX5_copyFrom c Q) : Cq l G mX5_copyFrom 1 26 [.ref (G.2.1 + 59), .ref (G.2.1 + 17)] 84 k (wX G o c) (qv (wX G o) Q) := by
  refine Cq.of (by decide) (Nat.le_of_ble_eq_true rfl) ?_
  show Go l G mX5_copyFrom (gbq G 1 26 84 k (qv (wX G o) Q)) 0 [(0, .ref (G.2.1 + 59)), (1, .ref (G.2.1 + 17))] [] 84 k (wX G o c)
  unfold wX5_copyFrom at h
  refine go_aload_n (pc := 0) dX5_copyFrom_0 rfl rfl ?_
  refine go_aload_n (pc := 1) dX5_copyFrom_1 rfl rfl ?_
  refine gb_get (pc := 2) fX5_18 rfl (gz_b (by decide)) xw17 rfl dX5_copyFrom_2 (fun v1 ev1 => ?_)
  have h := h v1 ev1
  refine gb_put (pc := 5) (F := wX G o) fX5_18 rfl (gz_b (by decide)) xw59 (Nat.le_of_ble_eq_true rfl) rfl rfl xp59_0 dX5_copyFrom_5 (fun c2 ec2 => ?_)
  have h := h c2 ec2
  refine go_aload_n (pc := 8) dX5_copyFrom_8 rfl rfl ?_
  refine go_aload_n (pc := 9) dX5_copyFrom_9 rfl rfl ?_
  refine gb_get (pc := 10) fX5_22 rfl (gz_b (by decide)) xw17 rfl dX5_copyFrom_10 (fun v3 ev3 => ?_)
  have h := h v3 ev3
  refine gb_put (pc := 13) (F := wX G o) fX5_22 rfl (gz_b (by decide)) xw59 (Nat.le_of_ble_eq_true rfl) rfl rfl xp59_1 dX5_copyFrom_13 (fun c4 ec4 => ?_)
  have h := h c4 ec4
  refine go_aload_n (pc := 16) dX5_copyFrom_16 rfl rfl ?_
  refine go_aload_n (pc := 17) dX5_copyFrom_17 rfl rfl ?_
  refine gb_get (pc := 18) fX5_25 rfl (gz_b (by decide)) xw17 rfl dX5_copyFrom_18 (fun v5 ev5 => ?_)
  have h := h v5 ev5
  refine gb_put (pc := 21) (F := wX G o) fX5_25 rfl (gz_b (by decide)) xw59 (Nat.le_of_ble_eq_true rfl) rfl rfl xp59_2 dX5_copyFrom_21 (fun c6 ec6 => ?_)
  have h := h c6 ec6
  refine go_aload_n (pc := 24) dX5_copyFrom_24 rfl rfl ?_
  refine go_aload_n (pc := 25) dX5_copyFrom_25 rfl rfl ?_
  refine gb_get (pc := 26) fX5_28 rfl (gz_b (by decide)) xw17 rfl dX5_copyFrom_26 (fun v7 ev7 => ?_)
  have h := h v7 ev7
  refine gb_put (pc := 29) (F := wX G o) fX5_28 rfl (gz_b (by decide)) xw59 (Nat.le_of_ble_eq_true rfl) rfl rfl xp59_3 dX5_copyFrom_29 (fun c8 ec8 => ?_)
  have h := h c8 ec8
  refine go_aload_n (pc := 32) dX5_copyFrom_32 rfl rfl ?_
  refine go_get (pc := 33) fX5_9 rfl (gz_b (by decide)) xw17 rfl dX5_copyFrom_33 ?_
  refine go_iconst (pc := 36) (v := 0) dX5_copyFrom_36 (by decide) ?_
  refine go_aload_n (pc := 37) dX5_copyFrom_37 rfl rfl ?_
  refine go_get (pc := 38) fX5_9 rfl (gz_b (by decide)) xw59 rfl dX5_copyFrom_38 ?_
  refine go_iconst (pc := 41) (v := 0) dX5_copyFrom_41 (by decide) ?_
  refine go_aload_n (pc := 42) dX5_copyFrom_42 rfl rfl ?_
  refine go_get (pc := 43) fX5_9 rfl (gz_b (by decide)) xw59 rfl dX5_copyFrom_43 ?_
  refine go_alen (pc := 46) (gz_b (by decide)) xw60 dX5_copyFrom_46 ?_
  refine go_top (y := 200) (by decide) ?_
  obtain ⟨b9, h⟩ := h
  refine gb_copy (pc := 47) (F := wX G o) rfl aX5_37 (gz_b (by decide)) xw18 (gz_b (by decide)) xw60 b9 (Nat.le_of_ble_eq_true rfl) (Nat.le_of_ble_eq_true rfl) xa60 dX5_copyFrom_47 (fun c10 ec10 => ?_)
  have h := h c10 ec10
  refine go_aload_n (pc := 50) dX5_copyFrom_50 rfl rfl ?_
  refine go_get (pc := 51) fX5_15 rfl (gz_b (by decide)) xw17 rfl dX5_copyFrom_51 ?_
  refine go_iconst (pc := 54) (v := 0) dX5_copyFrom_54 (by decide) ?_
  refine go_aload_n (pc := 55) dX5_copyFrom_55 rfl rfl ?_
  refine go_get (pc := 56) fX5_15 rfl (gz_b (by decide)) xw59 rfl dX5_copyFrom_56 ?_
  refine go_iconst (pc := 59) (v := 0) dX5_copyFrom_59 (by decide) ?_
  refine go_bipush (pc := 60) (v := 8) dX5_copyFrom_60 (by decide) ?_
  obtain ⟨b11, h⟩ := h
  refine gb_copy (pc := 62) (F := wX G o) rfl aX5_37 (gz_b (by decide)) xw19 (gz_b (by decide)) xw61 b11 (Nat.le_of_ble_eq_true rfl) (Nat.le_of_ble_eq_true rfl) xa61 dX5_copyFrom_62 (fun c12 ec12 => ?_)
  have h := h c12 ec12
  exact gq_vret (pc := 65) (F := wX G o) rfl dX5_copyFrom_65 h
def wX6_become (c : gMem) (Q : gMem → Prop) : Prop :=
  wX2_copyFrom c (fun c1 =>
  wX3_copyFrom c1 (fun c2 =>
  wX8_copyFrom c2 (fun c3 =>
  wX4_copyFrom c3 (fun c4 =>
  wX5_copyFrom c4 (fun c5 =>
  (¬ (0 : Int32) < 0 ∧ ¬ (0 : Int32) < 0 ∧ ¬ (24 : Int32) < 0 ∧ 0 + 24 ≤ 24 ∧ 0 + 24 ≤ 24) ∧
  ∀ c7, c7 = mr c5 62 (va_cpy (c5 20) (c5 62) 0 0 24) →
  (¬ (0 : Int32) < 0 ∧ ¬ (0 : Int32) < 0 ∧ ¬ (32 : Int32) < 0 ∧ 0 + 32 ≤ 32 ∧ 0 + 32 ≤ 32) ∧
  ∀ c9, c9 = mr c7 63 (va_cpy (c7 21) (c7 63) 0 0 32) →
  Q c9)))))
set_option maxRecDepth 100000 in
set_option maxHeartbeats 4000000 in
theorem tX6_become {l : Launch} {G : gG} {k : Nat} {o : gMem} {Q : gMem → Prop} {c : gMem} (h : wX6_become c Q) : Cq l G mX6_become 3 67 [.ref (G.2.1 + 43), .ref (G.2.1 + 1)] 84 k (wX G o c) (qv (wX G o) Q) := by
  refine Cq.of (by decide) (Nat.le_of_ble_eq_true rfl) ?_
  show Go l G mX6_become (gbq G 3 67 84 k (qv (wX G o) Q)) 0 [(0, .ref (G.2.1 + 43)), (1, .ref (G.2.1 + 1))] [] 84 k (wX G o c)
  unfold wX6_become at h
  refine go_aload_n (pc := 0) dX6_become_0 rfl rfl ?_
  refine go_get (pc := 1) fX6_12 rfl (gz_b (by decide)) xw43 rfl dX6_become_1 ?_
  refine go_aload_n (pc := 4) dX6_become_4 rfl rfl ?_
  refine go_get (pc := 5) fX6_12 rfl (gz_b (by decide)) xw1 rfl dX6_become_5 ?_
  refine gq_callV_v (pc := 8) (F := wX G o) vX6_76 rfl (tX2_copyFrom h) rfl rfl (gz_b (by decide)) xw44 rfl (Nat.le_of_ble_eq_true rfl) ⟨Nat.le_of_ble_eq_true rfl, Nat.le_of_ble_eq_true rfl, Nat.le_add_right _ _, Nat.le_add_right _ _⟩ dX6_become_8 (fun c1 h => ?_)
  refine go_aload_n (pc := 11) dX6_become_11 rfl rfl ?_
  refine go_get (pc := 12) fX6_21 rfl (gz_b (by decide)) xw43 rfl dX6_become_12 ?_
  refine go_aload_n (pc := 15) dX6_become_15 rfl rfl ?_
  refine go_get (pc := 16) fX6_21 rfl (gz_b (by decide)) xw1 rfl dX6_become_16 ?_
  refine gq_callV_v (pc := 19) (F := wX G o) vX6_80 rfl (tX3_copyFrom h) rfl rfl (gz_b (by decide)) xw48 rfl (Nat.le_of_ble_eq_true rfl) ⟨Nat.le_of_ble_eq_true rfl, Nat.le_of_ble_eq_true rfl, Nat.le_add_right _ _, Nat.le_add_right _ _⟩ dX6_become_19 (fun c2 h => ?_)
  refine go_aload_n (pc := 22) dX6_become_22 rfl rfl ?_
  refine go_get (pc := 23) fX6_28 rfl (gz_b (by decide)) xw43 rfl dX6_become_23 ?_
  refine go_aload_n (pc := 26) dX6_become_26 rfl rfl ?_
  refine go_get (pc := 27) fX6_28 rfl (gz_b (by decide)) xw1 rfl dX6_become_27 ?_
  refine gq_callV_v (pc := 30) (F := wX G o) vX6_83 rfl (tX8_copyFrom h) rfl rfl (gz_b (by decide)) xw54 rfl (Nat.le_of_ble_eq_true rfl) ⟨Nat.le_of_ble_eq_true rfl, Nat.le_of_ble_eq_true rfl, Nat.le_add_right _ _, Nat.le_add_right _ _⟩ dX6_become_30 (fun c3 h => ?_)
  refine go_aload_n (pc := 33) dX6_become_33 rfl rfl ?_
  refine go_get (pc := 34) fX6_35 rfl (gz_b (by decide)) xw43 rfl dX6_become_34 ?_
  refine go_aload_n (pc := 37) dX6_become_37 rfl rfl ?_
  refine go_get (pc := 38) fX6_35 rfl (gz_b (by decide)) xw1 rfl dX6_become_38 ?_
  refine gq_callV_v (pc := 41) (F := wX G o) vX6_86 rfl (tX4_copyFrom h) rfl rfl (gz_b (by decide)) xw56 rfl (Nat.le_of_ble_eq_true rfl) ⟨Nat.le_of_ble_eq_true rfl, Nat.le_of_ble_eq_true rfl, Nat.le_add_right _ _, Nat.le_add_right _ _⟩ dX6_become_41 (fun c4 h => ?_)
  refine go_aload_n (pc := 44) dX6_become_44 rfl rfl ?_
  refine go_get (pc := 45) fX6_42 rfl (gz_b (by decide)) xw43 rfl dX6_become_45 ?_
  refine go_aload_n (pc := 48) dX6_become_48 rfl rfl ?_
  refine go_get (pc := 49) fX6_42 rfl (gz_b (by decide)) xw1 rfl dX6_become_49 ?_
  refine gq_callV_v (pc := 52) (F := wX G o) vX6_89 rfl (tX5_copyFrom h) rfl rfl (gz_b (by decide)) xw59 rfl (Nat.le_of_ble_eq_true rfl) ⟨Nat.le_of_ble_eq_true rfl, Nat.le_of_ble_eq_true rfl, Nat.le_add_right _ _, Nat.le_add_right _ _⟩ dX6_become_52 (fun c5 h => ?_)
  refine go_aload_n (pc := 55) dX6_become_55 rfl rfl ?_
  refine go_get (pc := 56) fX6_46 rfl (gz_b (by decide)) xw1 rfl dX6_become_56 ?_
  refine go_iconst (pc := 59) (v := 0) dX6_become_59 (by decide) ?_
  refine go_aload_n (pc := 60) dX6_become_60 rfl rfl ?_
  refine go_get (pc := 61) fX6_46 rfl (gz_b (by decide)) xw43 rfl dX6_become_61 ?_
  refine go_iconst (pc := 64) (v := 0) dX6_become_64 (by decide) ?_
  refine go_bipush (pc := 65) (v := 24) dX6_become_65 (by decide) ?_
  obtain ⟨b6, h⟩ := h
  refine gb_copy (pc := 67) (F := wX G o) rfl aX6_92 (gz_b (by decide)) xw20 (gz_b (by decide)) xw62 b6 (Nat.le_of_ble_eq_true rfl) (Nat.le_of_ble_eq_true rfl) xa62 dX6_become_67 (fun c7 ec7 => ?_)
  have h := h c7 ec7
  refine go_aload_n (pc := 70) dX6_become_70 rfl rfl ?_
  refine go_get (pc := 71) fX6_50 rfl (gz_b (by decide)) xw1 rfl dX6_become_71 ?_
  refine go_iconst (pc := 74) (v := 0) dX6_become_74 (by decide) ?_
  refine go_aload_n (pc := 75) dX6_become_75 rfl rfl ?_
  refine go_get (pc := 76) fX6_50 rfl (gz_b (by decide)) xw43 rfl dX6_become_76 ?_
  refine go_iconst (pc := 79) (v := 0) dX6_become_79 (by decide) ?_
  refine go_aload_n (pc := 80) dX6_become_80 rfl rfl ?_
  refine go_get (pc := 81) fX6_50 rfl (gz_b (by decide)) xw43 rfl dX6_become_81 ?_
  refine go_alen (pc := 84) (gz_b (by decide)) xw63 dX6_become_84 ?_
  refine go_top (y := 32) (by decide) ?_
  obtain ⟨b8, h⟩ := h
  refine gb_copy (pc := 85) (F := wX G o) rfl aX6_92 (gz_b (by decide)) xw21 (gz_b (by decide)) xw63 b8 (Nat.le_of_ble_eq_true rfl) (Nat.le_of_ble_eq_true rfl) xa63 dX6_become_85 (fun c9 ec9 => ?_)
  have h := h c9 ec9
  exact gq_vret (pc := 88) (F := wX G o) rfl dX6_become_88 h
def wX7_goOn_p14 (l1 : Int32) (c : gMem) (Q : Int32 → gMem → Prop) : Prop :=
  wX7_lookThrough l1 c (fun r2 c1 =>
  wX7_goToOpenLink c1 (fun r4 c3 =>
  ((r4 = 0 →
    wX7_end c3 (fun c6 =>
    Q r2 c6)) ∧
   (¬ r4 = 0 →
    Q r2 c3))))
set_option maxRecDepth 100000 in
set_option maxHeartbeats 4000000 in
theorem tX7_goOn_p14 {l : Launch} {G : gG} {k : Nat} {o : gMem} {Q : Int32 → gMem → Prop} {l1 : Int32} {c : gMem} (h : wX7_goOn_p14 l1 c Q) : Go l G mX7_goOn (gbq G 5 110 84 k (qi (wX G o) Q)) 14 [(0, .ref (G.2.1 + 65)), (1, .int l1)] [] 84 k (wX G o c) := by
  unfold wX7_goOn_p14 at h
  refine go_aload_n (pc := 14) dX7_goOn_14 rfl rfl ?_
  refine go_iload_n (pc := 15) dX7_goOn_15 rfl rfl ?_
  refine gq_callV_i (pc := 16) (F := wX G o) vX7_49 rfl (tX7_lookThrough h) rfl rfl (gz_b (by decide)) xw65 rfl (Nat.le_of_ble_eq_true rfl) ⟨Nat.le_of_ble_eq_true rfl, Nat.le_of_ble_eq_true rfl, Nat.le_add_right _ _, Nat.le_add_right _ _⟩ dX7_goOn_16 (fun r2 c1 h => ?_)
  refine go_istore_n (pc := 19) (lv' := [(2, .int r2), (0, .ref (G.2.1 + 65)), (1, .int l1)]) dX7_goOn_19 rfl (by decide) rfl ?_
  refine go_aload_n (pc := 20) dX7_goOn_20 rfl rfl ?_
  refine gq_callV_i (pc := 21) (F := wX G o) vX7_53 rfl (tX7_goToOpenLink h) rfl rfl (gz_b (by decide)) xw65 rfl (Nat.le_of_ble_eq_true rfl) ⟨Nat.le_of_ble_eq_true rfl, Nat.le_of_ble_eq_true rfl, Nat.le_add_right _ _, Nat.le_add_right _ _⟩ dX7_goOn_21 (fun r4 c3 h => ?_)
  refine go_if_ne (pc := 24) (tgt := 31) dX7_goOn_24 (by decide) (fun q5 => ?_) (fun q5 => ?_)
  · have h := h.2 q5
    refine go_iload_n (pc := 31) dX7_goOn_31 rfl rfl ?_
    exact gq_iret (pc := 32) (F := wX G o) rfl dX7_goOn_32 h
  · have h := h.1 q5
    refine go_aload_n (pc := 27) dX7_goOn_27 rfl rfl ?_
    refine gq_callV_v (pc := 28) (F := wX G o) vX7_57 rfl (tX7_end h) rfl rfl (gz_b (by decide)) xw65 rfl (Nat.le_of_ble_eq_true rfl) ⟨Nat.le_of_ble_eq_true rfl, Nat.le_of_ble_eq_true rfl, Nat.le_add_right _ _, Nat.le_add_right _ _⟩ dX7_goOn_28 (fun c6 h => ?_)
    refine go_iload_n (pc := 31) dX7_goOn_31 rfl rfl ?_
    exact gq_iret (pc := 32) (F := wX G o) rfl dX7_goOn_32 h
def wX7_goOn (l1 : Int32) (c : gMem) (Q : Int32 → gMem → Prop) : Prop :=
  ∀ v1, v1 = c 6 0 →
  ((v1 = 0 →
    wX7_begin c (fun c3 =>
    wX7_goOn_p14 l1 c3 Q)) ∧
   (¬ v1 = 0 →
    wX7_goOn_p14 l1 c Q))
set_option maxRecDepth 100000 in
set_option maxHeartbeats 4000000 in
theorem tX7_goOn {l : Launch} {G : gG} {k : Nat} {o : gMem} {Q : Int32 → gMem → Prop} {l1 : Int32} {c : gMem} (h : wX7_goOn l1 c Q) : Cq l G mX7_goOn 5 110 [.ref (G.2.1 + 65), .int l1] 84 k (wX G o c) (qi (wX G o) Q) := by
  refine Cq.of (by decide) (Nat.le_of_ble_eq_true rfl) ?_
  show Go l G mX7_goOn (gbq G 5 110 84 k (qi (wX G o) Q)) 0 [(0, .ref (G.2.1 + 65)), (1, .int l1)] [] 84 k (wX G o c)
  unfold wX7_goOn at h
  refine go_aload_n (pc := 0) dX7_goOn_0 rfl rfl ?_
  refine go_get (pc := 1) fX7_36 rfl (gz_b (by decide)) xw65 rfl dX7_goOn_1 ?_
  refine gb_get (pc := 4) fX7_40 rfl (gz_b (by decide)) xw6 rfl dX7_goOn_4 (fun v1 ev1 => ?_)
  have h := h v1 ev1
  refine go_if_ne (pc := 7) (tgt := 14) dX7_goOn_7 (by decide) (fun q2 => ?_) (fun q2 => ?_)
  · have h := h.2 q2
    refine go_lv [0, 1] rfl ?_
    exact tX7_goOn_p14 h
  · have h := h.1 q2
    refine go_aload_n (pc := 10) dX7_goOn_10 rfl rfl ?_
    refine gq_callV_v (pc := 11) (F := wX G o) vX7_46 rfl (tX7_begin h) rfl rfl (gz_b (by decide)) xw65 rfl (Nat.le_of_ble_eq_true rfl) ⟨Nat.le_of_ble_eq_true rfl, Nat.le_of_ble_eq_true rfl, Nat.le_add_right _ _, Nat.le_add_right _ _⟩ dX7_goOn_11 (fun c3 h => ?_)
    refine go_lv [0, 1] rfl ?_
    exact tX7_goOn_p14 h
def wX9_stepKeepingBefore (l1 : Int32) (c : gMem) (Q : Int32 → gMem → Prop) : Prop :=
  wX6_become c (fun c1 =>
  ∀ c2, c2 = mp c1 0 10 1 →
  wX7_goOn l1 c2 (fun r4 c3 =>
  Q r4 c3))
set_option maxRecDepth 100000 in
set_option maxHeartbeats 4000000 in
theorem tX9_stepKeepingBefore {l : Launch} {G : gG} {k : Nat} {o : gMem} {Q : Int32 → gMem → Prop} {l1 : Int32} {c : gMem} (h : wX9_stepKeepingBefore l1 c Q) : Cq l G mX9_stepKeepingBefore 6 132 [.ref (G.2.1 + 0), .int l1] 84 k (wX G o c) (qi (wX G o) Q) := by
  refine Cq.of (by decide) (Nat.le_of_ble_eq_true rfl) ?_
  show Go l G mX9_stepKeepingBefore (gbq G 6 132 84 k (qi (wX G o) Q)) 0 [(0, .ref (G.2.1 + 0)), (1, .int l1)] [] 84 k (wX G o c)
  unfold wX9_stepKeepingBefore at h
  refine go_aload_n (pc := 0) dX9_stepKeepingBefore_0 rfl rfl ?_
  refine go_get (pc := 1) fX9_19 rfl (gz_b (by decide)) xw0 rfl dX9_stepKeepingBefore_1 ?_
  refine go_aload_n (pc := 4) dX9_stepKeepingBefore_4 rfl rfl ?_
  refine go_get (pc := 5) fX9_12 rfl (gz_b (by decide)) xw0 rfl dX9_stepKeepingBefore_5 ?_
  refine gq_callV_v (pc := 8) (F := wX G o) vX9_318 rfl (tX6_become h) rfl rfl (gz_b (by decide)) xw43 rfl (Nat.le_of_ble_eq_true rfl) ⟨Nat.le_of_ble_eq_true rfl, Nat.le_of_ble_eq_true rfl, Nat.le_add_right _ _, Nat.le_add_right _ _⟩ dX9_stepKeepingBefore_8 (fun c1 h => ?_)
  refine go_aload_n (pc := 11) dX9_stepKeepingBefore_11 rfl rfl ?_
  refine go_iconst (pc := 12) (v := 1) dX9_stepKeepingBefore_12 (by decide) ?_
  refine gb_put (pc := 13) (F := wX G o) fX9_69 rfl (gz_b (by decide)) xw0 (Nat.le_of_ble_eq_true rfl) rfl rfl xp0_10 dX9_stepKeepingBefore_13 (fun c2 ec2 => ?_)
  have h := h c2 ec2
  refine go_aload_n (pc := 16) dX9_stepKeepingBefore_16 rfl rfl ?_
  refine go_get (pc := 17) fX9_31 rfl (gz_b (by decide)) xw0 rfl dX9_stepKeepingBefore_17 ?_
  refine go_iload_n (pc := 20) dX9_stepKeepingBefore_20 rfl rfl ?_
  refine gq_callV_i (pc := 21) (F := wX G o) vX9_325 rfl (tX7_goOn h) rfl rfl (gz_b (by decide)) xw65 rfl (Nat.le_of_ble_eq_true rfl) ⟨Nat.le_of_ble_eq_true rfl, Nat.le_of_ble_eq_true rfl, Nat.le_add_right _ _, Nat.le_add_right _ _⟩ dX9_stepKeepingBefore_21 (fun r4 c3 h => ?_)
  exact gq_iret (pc := 24) (F := wX G o) rfl dX9_stepKeepingBefore_24 h
def wX9_step_p11 (c : gMem) (Q : Int32 → gMem → Prop) : Prop :=
  Q ((-102)) c
set_option maxRecDepth 100000 in
set_option maxHeartbeats 4000000 in
theorem tX9_step_p11 {l : Launch} {G : gG} {k : Nat} {o : gMem} {Q : Int32 → gMem → Prop} {c : gMem} (h : wX9_step_p11 c Q) : Go l G mX9_step (gbq G 7 153 84 k (qi (wX G o) Q)) 11 [] [] 84 k (wX G o c) := by
  unfold wX9_step_p11 at h
  refine go_bipush (pc := 11) (v := (-102)) dX9_step_11 (by decide) ?_
  refine go_goto (pc := 13) (tgt := 21) dX9_step_13 (by decide) ?_
  exact gq_iret (pc := 21) (F := wX G o) rfl dX9_step_21 h
def wX9_step (l1 : Int32) (c : gMem) (Q : Int32 → gMem → Prop) : Prop :=
  ((l1 < 0 →
    wX9_step_p11 c Q) ∧
   (¬ l1 < 0 →
    ((l1 ≤ 1000 →
      wX9_stepKeepingBefore l1 c (fun r4 c3 =>
      Q r4 c3)) ∧
     (¬ l1 ≤ 1000 →
      wX9_step_p11 c Q))))
set_option maxRecDepth 100000 in
set_option maxHeartbeats 4000000 in
theorem tX9_step {l : Launch} {G : gG} {k : Nat} {o : gMem} {Q : Int32 → gMem → Prop} {l1 : Int32} {c : gMem} (h : wX9_step l1 c Q) : Cq l G mX9_step 7 153 [.ref (G.2.1 + 0), .int l1] 84 k (wX G o c) (qi (wX G o) Q) := by
  refine Cq.of (by decide) (Nat.le_of_ble_eq_true rfl) ?_
  show Go l G mX9_step (gbq G 7 153 84 k (qi (wX G o) Q)) 0 [(0, .ref (G.2.1 + 0)), (1, .int l1)] [] 84 k (wX G o c)
  unfold wX9_step at h
  refine go_iload_n (pc := 0) dX9_step_0 rfl rfl ?_
  refine go_if_lt (pc := 1) (tgt := 11) dX9_step_1 (by decide) (fun q1 => ?_) (fun q1 => ?_)
  · have h := h.1 q1
    refine go_lv [] rfl ?_
    exact tX9_step_p11 h
  · have h := h.2 q1
    refine go_iload_n (pc := 4) dX9_step_4 rfl rfl ?_
    refine go_sipush (pc := 5) (v := 1000) dX9_step_5 (by decide) ?_
    refine go_icmp_le (pc := 8) (tgt := 16) dX9_step_8 (by decide) (fun q2 => ?_) (fun q2 => ?_)
    · have h := h.1 q2
      refine go_aload_n (pc := 16) dX9_step_16 rfl rfl ?_
      refine go_iload_n (pc := 17) dX9_step_17 rfl rfl ?_
      refine gq_callV_i (pc := 18) (F := wX G o) vX9_175 rfl (tX9_stepKeepingBefore h) rfl rfl (gz_b (by decide)) xw0 rfl (Nat.le_of_ble_eq_true rfl) ⟨Nat.le_of_ble_eq_true rfl, Nat.le_of_ble_eq_true rfl, Nat.le_add_right _ _, Nat.le_add_right _ _⟩ dX9_step_18 (fun r4 c3 h => ?_)
      exact gq_iret (pc := 21) (F := wX G o) rfl dX9_step_21 h
    · have h := h.2 q2
      refine go_lv [] rfl ?_
      exact tX9_step_p11 h
def wX9_cycle (c : gMem) (Q : Int32 → gMem → Prop) : Prop :=
  wX7_finish c (fun c1 =>
  ∀ v2, v2 = c1 12 2 →
  Q v2 c1)
set_option maxRecDepth 100000 in
set_option maxHeartbeats 4000000 in
theorem tX9_cycle {l : Launch} {G : gG} {k : Nat} {o : gMem} {Q : Int32 → gMem → Prop} {c : gMem} (h : wX9_cycle c Q) : Cq l G mX9_cycle 6 130 [.ref (G.2.1 + 0)] 84 k (wX G o c) (qi (wX G o) Q) := by
  refine Cq.of (by decide) (Nat.le_of_ble_eq_true rfl) ?_
  show Go l G mX9_cycle (gbq G 6 130 84 k (qi (wX G o) Q)) 0 [(0, .ref (G.2.1 + 0))] [] 84 k (wX G o c)
  unfold wX9_cycle at h
  refine go_aload_n (pc := 0) dX9_cycle_0 rfl rfl ?_
  refine go_get (pc := 1) fX9_31 rfl (gz_b (by decide)) xw0 rfl dX9_cycle_1 ?_
  refine gq_callV_v (pc := 4) (F := wX G o) vX9_178 rfl (tX7_finish h) rfl rfl (gz_b (by decide)) xw65 rfl (Nat.le_of_ble_eq_true rfl) ⟨Nat.le_of_ble_eq_true rfl, Nat.le_of_ble_eq_true rfl, Nat.le_add_right _ _, Nat.le_add_right _ _⟩ dX9_cycle_4 (fun c1 h => ?_)
  refine go_aload_n (pc := 7) dX9_cycle_7 rfl rfl ?_
  refine go_get (pc := 8) fX9_12 rfl (gz_b (by decide)) xw0 rfl dX9_cycle_8 ?_
  refine go_get (pc := 11) fX9_181 rfl (gz_b (by decide)) xw1 rfl dX9_cycle_11 ?_
  refine gb_get (pc := 14) fX9_185 rfl (gz_b (by decide)) xw12 rfl dX9_cycle_14 (fun v2 ev2 => ?_)
  have h := h v2 ev2
  exact gq_iret (pc := 17) (F := wX G o) rfl dX9_cycle_17 h
def wX9_phase (c : gMem) (Q : Int32 → gMem → Prop) : Prop :=
  ∀ v1, v1 = c 6 0 →
  ((v1 = 0 →
    Q 0 c) ∧
   (¬ v1 = 0 →
    Q 1 c))
set_option maxRecDepth 100000 in
set_option maxHeartbeats 4000000 in
theorem tX9_phase {l : Launch} {G : gG} {k : Nat} {o : gMem} {Q : Int32 → gMem → Prop} {c : gMem} (h : wX9_phase c Q) : Cq l G mX9_phase 0 0 [.ref (G.2.1 + 0)] 84 k (wX G o c) (qi (wX G o) Q) := by
  refine Cq.of (by decide) (Nat.le_of_ble_eq_true rfl) ?_
  show Go l G mX9_phase (gbq G 0 0 84 k (qi (wX G o) Q)) 0 [(0, .ref (G.2.1 + 0))] [] 84 k (wX G o c)
  unfold wX9_phase at h
  refine go_aload_n (pc := 0) dX9_phase_0 rfl rfl ?_
  refine go_get (pc := 1) fX9_12 rfl (gz_b (by decide)) xw0 rfl dX9_phase_1 ?_
  refine go_get (pc := 4) fX9_190 rfl (gz_b (by decide)) xw1 rfl dX9_phase_4 ?_
  refine gb_get (pc := 7) fX9_194 rfl (gz_b (by decide)) xw6 rfl dX9_phase_7 (fun v1 ev1 => ?_)
  have h := h v1 ev1
  refine go_if_eq (pc := 10) (tgt := 17) dX9_phase_10 (by decide) (fun q2 => ?_) (fun q2 => ?_)
  · have h := h.1 q2
    refine go_iconst (pc := 17) (v := 0) dX9_phase_17 (by decide) ?_
    exact gq_iret (pc := 18) (F := wX G o) rfl dX9_phase_18 h
  · have h := h.2 q2
    refine go_iconst (pc := 13) (v := 1) dX9_phase_13 (by decide) ?_
    refine go_goto (pc := 14) (tgt := 18) dX9_phase_14 (by decide) ?_
    exact gq_iret (pc := 18) (F := wX G o) rfl dX9_phase_18 h
def wX9_marked_p49 (s0 : Int32) (c : gMem) (Q : Int32 → gMem → Prop) : Prop :=
  wX9_answer s0 c (fun r2 c1 =>
  Q r2 c1)
set_option maxRecDepth 100000 in
set_option maxHeartbeats 4000000 in
theorem tX9_marked_p49 {l : Launch} {G : gG} {k : Nat} {o : gMem} {Q : Int32 → gMem → Prop} {s0 : Int32} {c : gMem} (h : wX9_marked_p49 s0 c Q) : Go l G mX9_marked (gbq G 2 41 84 k (qi (wX G o) Q)) 49 [] [.int s0, .ref (G.2.1 + 0)] 84 k (wX G o c) := by
  unfold wX9_marked_p49 at h
  refine gq_callV_i (pc := 49) (F := wX G o) vX9_80 rfl (tX9_answer h) rfl rfl (gz_b (by decide)) xw0 rfl (Nat.le_of_ble_eq_true rfl) ⟨Nat.le_of_ble_eq_true rfl, Nat.le_of_ble_eq_true rfl, Nat.le_add_right _ _, Nat.le_add_right _ _⟩ dX9_marked_49 (fun r2 c1 h => ?_)
  exact gq_iret (pc := 52) (F := wX G o) rfl dX9_marked_52 h
def wX9_marked (l1 : Int32) (c : gMem) (Q : Int32 → gMem → Prop) : Prop :=
  wX2_wasMade l1 c (fun r2 c1 =>
  ((r2 = 0 →
    Q ((-101)) c1) ∧
   (¬ r2 = 0 →
    wX2_has l1 c1 (fun r5 c4 =>
    ((r5 = 0 →
      wX9_marked_p49 ((-11)) c4 Q) ∧
     (¬ r5 = 0 →
      vp_in l1 500 ∧
      ∀ v7, v7 = c4 8 l1.toNatClampNeg →
      wX9_marked_p49 v7 c4 Q))))))
set_option maxRecDepth 100000 in
set_option maxHeartbeats 4000000 in
theorem tX9_marked {l : Launch} {G : gG} {k : Nat} {o : gMem} {Q : Int32 → gMem → Prop} {l1 : Int32} {c : gMem} (h : wX9_marked l1 c Q) : Cq l G mX9_marked 2 41 [.ref (G.2.1 + 0), .int l1] 84 k (wX G o c) (qi (wX G o) Q) := by
  refine Cq.of (by decide) (Nat.le_of_ble_eq_true rfl) ?_
  show Go l G mX9_marked (gbq G 2 41 84 k (qi (wX G o) Q)) 0 [(0, .ref (G.2.1 + 0)), (1, .int l1)] [] 84 k (wX G o c)
  unfold wX9_marked at h
  refine go_aload_n (pc := 0) dX9_marked_0 rfl rfl ?_
  refine go_get (pc := 1) fX9_12 rfl (gz_b (by decide)) xw0 rfl dX9_marked_1 ?_
  refine go_get (pc := 4) fX9_84 rfl (gz_b (by decide)) xw1 rfl dX9_marked_4 ?_
  refine go_iload_n (pc := 7) dX9_marked_7 rfl rfl ?_
  refine gq_callV_i (pc := 8) (F := wX G o) vX9_88 rfl (tX2_wasMade h) rfl rfl (gz_b (by decide)) xw2 rfl (Nat.le_of_ble_eq_true rfl) ⟨Nat.le_of_ble_eq_true rfl, Nat.le_of_ble_eq_true rfl, Nat.le_add_right _ _, Nat.le_add_right _ _⟩ dX9_marked_8 (fun r2 c1 h => ?_)
  refine go_if_ne (pc := 11) (tgt := 17) dX9_marked_11 (by decide) (fun q3 => ?_) (fun q3 => ?_)
  · have h := h.2 q3
    refine go_aload_n (pc := 17) dX9_marked_17 rfl rfl ?_
    refine go_aload_n (pc := 18) dX9_marked_18 rfl rfl ?_
    refine go_get (pc := 19) fX9_12 rfl (gz_b (by decide)) xw0 rfl dX9_marked_19 ?_
    refine go_get (pc := 22) fX9_84 rfl (gz_b (by decide)) xw1 rfl dX9_marked_22 ?_
    refine go_iload_n (pc := 25) dX9_marked_25 rfl rfl ?_
    refine gq_callV_i (pc := 26) (F := wX G o) vX9_94 rfl (tX2_has h) rfl rfl (gz_b (by decide)) xw2 rfl (Nat.le_of_ble_eq_true rfl) ⟨Nat.le_of_ble_eq_true rfl, Nat.le_of_ble_eq_true rfl, Nat.le_add_right _ _, Nat.le_add_right _ _⟩ dX9_marked_26 (fun r5 c4 h => ?_)
    refine go_if_eq (pc := 29) (tgt := 47) dX9_marked_29 (by decide) (fun q6 => ?_) (fun q6 => ?_)
    · have h := h.1 q6
      refine go_bipush (pc := 47) (v := (-11)) dX9_marked_47 (by decide) ?_
      refine go_lv [] rfl ?_
      exact tX9_marked_p49 h
    · have h := h.2 q6
      refine go_aload_n (pc := 32) dX9_marked_32 rfl rfl ?_
      refine go_get (pc := 33) fX9_12 rfl (gz_b (by decide)) xw0 rfl dX9_marked_33 ?_
      refine go_get (pc := 36) fX9_190 rfl (gz_b (by decide)) xw1 rfl dX9_marked_36 ?_
      refine go_get (pc := 39) fX9_199 rfl (gz_b (by decide)) xw6 rfl dX9_marked_39 ?_
      refine go_iload_n (pc := 42) dX9_marked_42 rfl rfl ?_
      obtain ⟨b8, h⟩ := h
      refine gb_iald (pc := 43) (gz_b (by decide)) xw8 b8 dX9_marked_43 (fun v7 ev7 => ?_)
      have h := h v7 ev7
      refine go_goto (pc := 44) (tgt := 49) dX9_marked_44 (by decide) ?_
      refine go_lv [] rfl ?_
      exact tX9_marked_p49 h
  · have h := h.1 q3
    refine go_bipush (pc := 14) (v := (-101)) dX9_marked_14 (by decide) ?_
    exact gq_iret (pc := 16) (F := wX G o) rfl dX9_marked_16 h
def wX9_moved_p49 (s0 : Int32) (c : gMem) (Q : Int32 → gMem → Prop) : Prop :=
  wX9_answer s0 c (fun r2 c1 =>
  Q r2 c1)
set_option maxRecDepth 100000 in
set_option maxHeartbeats 4000000 in
theorem tX9_moved_p49 {l : Launch} {G : gG} {k : Nat} {o : gMem} {Q : Int32 → gMem → Prop} {s0 : Int32} {c : gMem} (h : wX9_moved_p49 s0 c Q) : Go l G mX9_moved (gbq G 2 41 84 k (qi (wX G o) Q)) 49 [] [.int s0, .ref (G.2.1 + 0)] 84 k (wX G o c) := by
  unfold wX9_moved_p49 at h
  refine gq_callV_i (pc := 49) (F := wX G o) vX9_80 rfl (tX9_answer h) rfl rfl (gz_b (by decide)) xw0 rfl (Nat.le_of_ble_eq_true rfl) ⟨Nat.le_of_ble_eq_true rfl, Nat.le_of_ble_eq_true rfl, Nat.le_add_right _ _, Nat.le_add_right _ _⟩ dX9_moved_49 (fun r2 c1 h => ?_)
  exact gq_iret (pc := 52) (F := wX G o) rfl dX9_moved_52 h
def wX9_moved (l1 : Int32) (c : gMem) (Q : Int32 → gMem → Prop) : Prop :=
  wX2_wasMade l1 c (fun r2 c1 =>
  ((r2 = 0 →
    Q ((-101)) c1) ∧
   (¬ r2 = 0 →
    wX2_has l1 c1 (fun r5 c4 =>
    ((r5 = 0 →
      wX9_moved_p49 ((-11)) c4 Q) ∧
     (¬ r5 = 0 →
      vp_in l1 500 ∧
      ∀ v7, v7 = c4 5 l1.toNatClampNeg →
      wX9_moved_p49 v7 c4 Q))))))
set_option maxRecDepth 100000 in
set_option maxHeartbeats 4000000 in
theorem tX9_moved {l : Launch} {G : gG} {k : Nat} {o : gMem} {Q : Int32 → gMem → Prop} {l1 : Int32} {c : gMem} (h : wX9_moved l1 c Q) : Cq l G mX9_moved 2 41 [.ref (G.2.1 + 0), .int l1] 84 k (wX G o c) (qi (wX G o) Q) := by
  refine Cq.of (by decide) (Nat.le_of_ble_eq_true rfl) ?_
  show Go l G mX9_moved (gbq G 2 41 84 k (qi (wX G o) Q)) 0 [(0, .ref (G.2.1 + 0)), (1, .int l1)] [] 84 k (wX G o c)
  unfold wX9_moved at h
  refine go_aload_n (pc := 0) dX9_moved_0 rfl rfl ?_
  refine go_get (pc := 1) fX9_12 rfl (gz_b (by decide)) xw0 rfl dX9_moved_1 ?_
  refine go_get (pc := 4) fX9_84 rfl (gz_b (by decide)) xw1 rfl dX9_moved_4 ?_
  refine go_iload_n (pc := 7) dX9_moved_7 rfl rfl ?_
  refine gq_callV_i (pc := 8) (F := wX G o) vX9_88 rfl (tX2_wasMade h) rfl rfl (gz_b (by decide)) xw2 rfl (Nat.le_of_ble_eq_true rfl) ⟨Nat.le_of_ble_eq_true rfl, Nat.le_of_ble_eq_true rfl, Nat.le_add_right _ _, Nat.le_add_right _ _⟩ dX9_moved_8 (fun r2 c1 h => ?_)
  refine go_if_ne (pc := 11) (tgt := 17) dX9_moved_11 (by decide) (fun q3 => ?_) (fun q3 => ?_)
  · have h := h.2 q3
    refine go_aload_n (pc := 17) dX9_moved_17 rfl rfl ?_
    refine go_aload_n (pc := 18) dX9_moved_18 rfl rfl ?_
    refine go_get (pc := 19) fX9_12 rfl (gz_b (by decide)) xw0 rfl dX9_moved_19 ?_
    refine go_get (pc := 22) fX9_84 rfl (gz_b (by decide)) xw1 rfl dX9_moved_22 ?_
    refine go_iload_n (pc := 25) dX9_moved_25 rfl rfl ?_
    refine gq_callV_i (pc := 26) (F := wX G o) vX9_94 rfl (tX2_has h) rfl rfl (gz_b (by decide)) xw2 rfl (Nat.le_of_ble_eq_true rfl) ⟨Nat.le_of_ble_eq_true rfl, Nat.le_of_ble_eq_true rfl, Nat.le_add_right _ _, Nat.le_add_right _ _⟩ dX9_moved_26 (fun r5 c4 h => ?_)
    refine go_if_eq (pc := 29) (tgt := 47) dX9_moved_29 (by decide) (fun q6 => ?_) (fun q6 => ?_)
    · have h := h.1 q6
      refine go_bipush (pc := 47) (v := (-11)) dX9_moved_47 (by decide) ?_
      refine go_lv [] rfl ?_
      exact tX9_moved_p49 h
    · have h := h.2 q6
      refine go_aload_n (pc := 32) dX9_moved_32 rfl rfl ?_
      refine go_get (pc := 33) fX9_12 rfl (gz_b (by decide)) xw0 rfl dX9_moved_33 ?_
      refine go_get (pc := 36) fX9_84 rfl (gz_b (by decide)) xw1 rfl dX9_moved_36 ?_
      refine go_get (pc := 39) fX9_202 rfl (gz_b (by decide)) xw2 rfl dX9_moved_39 ?_
      refine go_iload_n (pc := 42) dX9_moved_42 rfl rfl ?_
      obtain ⟨b8, h⟩ := h
      refine gb_iald (pc := 43) (gz_b (by decide)) xw5 b8 dX9_moved_43 (fun v7 ev7 => ?_)
      have h := h v7 ev7
      refine go_goto (pc := 44) (tgt := 49) dX9_moved_44 (by decide) ?_
      refine go_lv [] rfl ?_
      exact tX9_moved_p49 h
  · have h := h.1 q3
    refine go_bipush (pc := 14) (v := (-101)) dX9_moved_14 (by decide) ?_
    exact gq_iret (pc := 16) (F := wX G o) rfl dX9_moved_16 h
def wX9_told_p36 (c : gMem) (Q : Int32 → gMem → Prop) : Prop :=
  Q ((-1)) c
set_option maxRecDepth 100000 in
set_option maxHeartbeats 4000000 in
theorem tX9_told_p36 {l : Launch} {G : gG} {k : Nat} {o : gMem} {Q : Int32 → gMem → Prop} {c : gMem} (h : wX9_told_p36 c Q) : Go l G mX9_told (gbq G 0 0 84 k (qi (wX G o) Q)) 36 [] [] 84 k (wX G o c) := by
  unfold wX9_told_p36 at h
  refine go_iconst (pc := 36) (v := (-1)) dX9_told_36 (by decide) ?_
  refine go_goto (pc := 37) (tgt := 56) dX9_told_37 (by decide) ?_
  exact gq_iret (pc := 56) (F := wX G o) rfl dX9_told_56 h
def wX9_told (l1 : Int32) (l2 : Int32) (c : gMem) (Q : Int32 → gMem → Prop) : Prop :=
  ((l2 < 0 →
    Q ((-102)) c) ∧
   (¬ l2 < 0 →
    ((l2 < 3 →
      ((l1 < 0 →
        wX9_told_p36 c Q) ∧
       (¬ l1 < 0 →
        ((100 ≤ l1 →
          wX9_told_p36 c Q) ∧
         (¬ 100 ≤ l1 →
          ∀ v5, v5 = c 12 5 →
          ((l1 < v5 →
            vp_in ((l1 * 3) + l2) 300 ∧
            ∀ v7, v7 = c 13 ((l1 * 3) + l2).toNatClampNeg →
            Q v7 c) ∧
           (¬ l1 < v5 →
            wX9_told_p36 c Q))))))) ∧
     (¬ l2 < 3 →
      Q ((-102)) c))))
set_option maxRecDepth 100000 in
set_option maxHeartbeats 4000000 in
theorem tX9_told {l : Launch} {G : gG} {k : Nat} {o : gMem} {Q : Int32 → gMem → Prop} {l1 : Int32} {l2 : Int32} {c : gMem} (h : wX9_told l1 l2 c Q) : Cq l G mX9_told 0 0 [.ref (G.2.1 + 0), .int l1, .int l2] 84 k (wX G o c) (qi (wX G o) Q) := by
  refine Cq.of (by decide) (Nat.le_of_ble_eq_true rfl) ?_
  show Go l G mX9_told (gbq G 0 0 84 k (qi (wX G o) Q)) 0 [(0, .ref (G.2.1 + 0)), (1, .int l1), (2, .int l2)] [] 84 k (wX G o c)
  unfold wX9_told at h
  refine go_iload_n (pc := 0) dX9_told_0 rfl rfl ?_
  refine go_if_lt (pc := 1) (tgt := 9) dX9_told_1 (by decide) (fun q1 => ?_) (fun q1 => ?_)
  · have h := h.1 q1
    refine go_bipush (pc := 9) (v := (-102)) dX9_told_9 (by decide) ?_
    exact gq_iret (pc := 11) (F := wX G o) rfl dX9_told_11 h
  · have h := h.2 q1
    refine go_iload_n (pc := 4) dX9_told_4 rfl rfl ?_
    refine go_iconst (pc := 5) (v := 3) dX9_told_5 (by decide) ?_
    refine go_icmp_lt (pc := 6) (tgt := 12) dX9_told_6 (by decide) (fun q2 => ?_) (fun q2 => ?_)
    · have h := h.1 q2
      refine go_iload_n (pc := 12) dX9_told_12 rfl rfl ?_
      refine go_if_lt (pc := 13) (tgt := 36) dX9_told_13 (by decide) (fun q3 => ?_) (fun q3 => ?_)
      · have h := h.1 q3
        refine go_lv [] rfl ?_
        exact tX9_told_p36 h
      · have h := h.2 q3
        refine go_iload_n (pc := 16) dX9_told_16 rfl rfl ?_
        refine go_bipush (pc := 17) (v := 100) dX9_told_17 (by decide) ?_
        refine go_icmp_ge (pc := 19) (tgt := 36) dX9_told_19 (by decide) (fun q4 => ?_) (fun q4 => ?_)
        · have h := h.1 q4
          refine go_lv [] rfl ?_
          exact tX9_told_p36 h
        · have h := h.2 q4
          refine go_iload_n (pc := 22) dX9_told_22 rfl rfl ?_
          refine go_aload_n (pc := 23) dX9_told_23 rfl rfl ?_
          refine go_get (pc := 24) fX9_12 rfl (gz_b (by decide)) xw0 rfl dX9_told_24 ?_
          refine go_get (pc := 27) fX9_181 rfl (gz_b (by decide)) xw1 rfl dX9_told_27 ?_
          refine gb_get (pc := 30) fX9_205 rfl (gz_b (by decide)) xw12 rfl dX9_told_30 (fun v5 ev5 => ?_)
          have h := h v5 ev5
          refine go_icmp_lt (pc := 33) (tgt := 40) dX9_told_33 (by decide) (fun q6 => ?_) (fun q6 => ?_)
          · have h := h.1 q6
            refine go_aload_n (pc := 40) dX9_told_40 rfl rfl ?_
            refine go_get (pc := 41) fX9_12 rfl (gz_b (by decide)) xw0 rfl dX9_told_41 ?_
            refine go_get (pc := 44) fX9_181 rfl (gz_b (by decide)) xw1 rfl dX9_told_44 ?_
            refine go_get (pc := 47) fX9_208 rfl (gz_b (by decide)) xw12 rfl dX9_told_47 ?_
            refine go_iload_n (pc := 50) dX9_told_50 rfl rfl ?_
            refine go_iconst (pc := 51) (v := 3) dX9_told_51 (by decide) ?_
            refine go_imul (pc := 52) dX9_told_52 ?_
            refine go_iload_n (pc := 53) dX9_told_53 rfl rfl ?_
            refine go_iadd (pc := 54) dX9_told_54 ?_
            obtain ⟨b8, h⟩ := h
            refine gb_iald (pc := 55) (gz_b (by decide)) xw13 b8 dX9_told_55 (fun v7 ev7 => ?_)
            have h := h v7 ev7
            exact gq_iret (pc := 56) (F := wX G o) rfl dX9_told_56 h
          · have h := h.2 q6
            refine go_lv [] rfl ?_
            exact tX9_told_p36 h
    · have h := h.2 q2
      refine go_bipush (pc := 9) (v := (-102)) dX9_told_9 (by decide) ?_
      exact gq_iret (pc := 11) (F := wX G o) rfl dX9_told_11 h
def wX7_howManyOpen_p67 (P10 : Int32 → Int32 → gMem → Prop) (l1 : Int32) (l2 : Int32) (c : gMem) (Q : Int32 → gMem → Prop) : Prop :=
  P10 l1 (l2 + 1) c
set_option maxRecDepth 100000 in
set_option maxHeartbeats 4000000 in
theorem tX7_howManyOpen_p67 {l : Launch} {G : gG} {k : Nat} {o : gMem} {Q : Int32 → gMem → Prop} {P10 : Int32 → Int32 → gMem → Prop} (hP10 : ∀ (l1 : Int32) (l2 : Int32) (c : gMem), P10 l1 l2 c → Go l G mX7_howManyOpen (gbq G 1 21 84 k (qi (wX G o) Q)) 10 [(0, .ref (G.2.1 + 65)), (1, .int l1), (2, .int l2)] [] 84 k (wX G o c)) {l1 : Int32} {l2 : Int32} {c : gMem} (h : wX7_howManyOpen_p67 P10 l1 l2 c Q) : Go l G mX7_howManyOpen (gbq G 1 21 84 k (qi (wX G o) Q)) 67 [(0, .ref (G.2.1 + 65)), (1, .int l1), (2, .int l2)] [] 84 k (wX G o c) := by
  unfold wX7_howManyOpen_p67 at h
  refine go_iinc (pc := 67) (v := l2 + 1) (lv' := [(2, .int (l2 + 1)), (0, .ref (G.2.1 + 65)), (1, .int l1)]) dX7_howManyOpen_67 2 rfl (by first | rfl | decide) (by decide) rfl ?_
  refine go_goto (pc := 70) (tgt := 10) dX7_howManyOpen_70 (by decide) ?_
  refine go_lv [1, 2, 0] rfl ?_
  exact hP10 _ _ _ h
def wX7_howManyOpen_p43 (P10 : Int32 → Int32 → gMem → Prop) (l1 : Int32) (l2 : Int32) (s0 : Int32) (c : gMem) (Q : Int32 → gMem → Prop) : Prop :=
  vp_in l2 500 ∧
  ∀ v1, v1 = c 7 l2.toNatClampNeg →
  wX2_linksOf v1 c (fun r4 c3 =>
  ((r4 ≤ s0 →
    wX7_howManyOpen_p67 P10 l1 l2 c3 Q) ∧
   (¬ r4 ≤ s0 →
    wX7_howManyOpen_p67 P10 (l1 + 1) l2 c3 Q)))
set_option maxRecDepth 100000 in
set_option maxHeartbeats 4000000 in
theorem tX7_howManyOpen_p43 {l : Launch} {G : gG} {k : Nat} {o : gMem} {Q : Int32 → gMem → Prop} {P10 : Int32 → Int32 → gMem → Prop} (hP10 : ∀ (l1 : Int32) (l2 : Int32) (c : gMem), P10 l1 l2 c → Go l G mX7_howManyOpen (gbq G 1 21 84 k (qi (wX G o) Q)) 10 [(0, .ref (G.2.1 + 65)), (1, .int l1), (2, .int l2)] [] 84 k (wX G o c)) {l1 : Int32} {l2 : Int32} {s0 : Int32} {c : gMem} (h : wX7_howManyOpen_p43 P10 l1 l2 s0 c Q) : Go l G mX7_howManyOpen (gbq G 1 21 84 k (qi (wX G o) Q)) 43 [(0, .ref (G.2.1 + 65)), (1, .int l1), (2, .int l2)] [.int s0] 84 k (wX G o c) := by
  unfold wX7_howManyOpen_p43 at h
  refine go_istore_n (pc := 43) (lv' := [(3, .int s0), (0, .ref (G.2.1 + 65)), (1, .int l1), (2, .int l2)]) dX7_howManyOpen_43 rfl (by decide) rfl ?_
  refine go_iload_n (pc := 44) dX7_howManyOpen_44 rfl rfl ?_
  refine go_aload_n (pc := 45) dX7_howManyOpen_45 rfl rfl ?_
  refine go_get (pc := 46) fX7_31 rfl (gz_b (by decide)) xw65 rfl dX7_howManyOpen_46 ?_
  refine go_aload_n (pc := 49) dX7_howManyOpen_49 rfl rfl ?_
  refine go_get (pc := 50) fX7_36 rfl (gz_b (by decide)) xw65 rfl dX7_howManyOpen_50 ?_
  refine go_get (pc := 53) fX7_80 rfl (gz_b (by decide)) xw6 rfl dX7_howManyOpen_53 ?_
  refine go_iload_n (pc := 56) dX7_howManyOpen_56 rfl rfl ?_
  obtain ⟨b2, h⟩ := h
  refine gb_iald (pc := 57) (gz_b (by decide)) xw7 b2 dX7_howManyOpen_57 (fun v1 ev1 => ?_)
  have h := h v1 ev1
  refine gq_callV_i (pc := 58) (F := wX G o) vX7_99 rfl (tX2_linksOf h) rfl rfl (gz_b (by decide)) xw2 rfl (Nat.le_of_ble_eq_true rfl) ⟨Nat.le_of_ble_eq_true rfl, Nat.le_of_ble_eq_true rfl, Nat.le_add_right _ _, Nat.le_add_right _ _⟩ dX7_howManyOpen_58 (fun r4 c3 h => ?_)
  refine go_icmp_ge (pc := 61) (tgt := 67) dX7_howManyOpen_61 (by decide) (fun q5 => ?_) (fun q5 => ?_)
  · have h := h.1 q5
    refine go_lv [1, 2, 3] rfl ?_
    exact tX7_howManyOpen_p67 hP10 h
  · have h := h.2 q5
    refine go_iinc (pc := 64) (v := l1 + 1) (lv' := [(1, .int (l1 + 1)), (3, .int s0), (0, .ref (G.2.1 + 65)), (2, .int l2)]) dX7_howManyOpen_64 2 rfl (by first | rfl | decide) (by decide) rfl ?_
    refine go_lv [2, 0, 3] rfl ?_
    exact tX7_howManyOpen_p67 hP10 h
def wX7_howManyOpen_p10_b (P10 : Int32 → Int32 → gMem → Prop) (l1 : Int32) (l2 : Int32) (c : gMem) (Q : Int32 → gMem → Prop) : Prop :=
  ∀ v1, v1 = c 6 1 →
  ((v1 ≤ l2 →
    Q l1 c) ∧
   (¬ v1 ≤ l2 →
    ∀ v3, v3 = c 6 2 →
    ((l2 = v3 →
      ∀ v5, v5 = c 6 3 →
      wX7_howManyOpen_p43 P10 l1 l2 v5 c Q) ∧
     (¬ l2 = v3 →
      wX7_howManyOpen_p43 P10 l1 l2 0 c Q))))
def wX7_howManyOpen_p10 (l1 : Int32) (l2 : Int32) (c : gMem) (Q : Int32 → gMem → Prop) : Prop :=
  ∀ P10 : Int32 → Int32 → gMem → Prop, (∀ (l1 : Int32) (l2 : Int32) (c : gMem), wX7_howManyOpen_p10_b P10 l1 l2 c Q → P10 l1 l2 c) → P10 l1 l2 c
set_option maxRecDepth 100000 in
set_option maxHeartbeats 4000000 in
theorem tX7_howManyOpen_p10_b {l : Launch} {G : gG} {k : Nat} {o : gMem} {Q : Int32 → gMem → Prop} {P10 : Int32 → Int32 → gMem → Prop} (hP10 : ∀ (l1 : Int32) (l2 : Int32) (c : gMem), P10 l1 l2 c → Go l G mX7_howManyOpen (gbq G 1 21 84 k (qi (wX G o) Q)) 10 [(0, .ref (G.2.1 + 65)), (1, .int l1), (2, .int l2)] [] 84 k (wX G o c)) {l1 : Int32} {l2 : Int32} {c : gMem} (h : wX7_howManyOpen_p10_b P10 l1 l2 c Q) : Go l G mX7_howManyOpen (gbq G 1 21 84 k (qi (wX G o) Q)) 10 [(0, .ref (G.2.1 + 65)), (1, .int l1), (2, .int l2)] [] 84 k (wX G o c) := by
  unfold wX7_howManyOpen_p10_b at h
  refine go_iload_n (pc := 10) dX7_howManyOpen_10 rfl rfl ?_
  refine go_aload_n (pc := 11) dX7_howManyOpen_11 rfl rfl ?_
  refine go_get (pc := 12) fX7_36 rfl (gz_b (by decide)) xw65 rfl dX7_howManyOpen_12 ?_
  refine gb_get (pc := 15) fX7_96 rfl (gz_b (by decide)) xw6 rfl dX7_howManyOpen_15 (fun v1 ev1 => ?_)
  have h := h v1 ev1
  refine go_icmp_ge (pc := 18) (tgt := 73) dX7_howManyOpen_18 (by decide) (fun q2 => ?_) (fun q2 => ?_)
  · have h := h.1 q2
    refine go_iload_n (pc := 73) dX7_howManyOpen_73 rfl rfl ?_
    exact gq_iret (pc := 74) (F := wX G o) rfl dX7_howManyOpen_74 h
  · have h := h.2 q2
    refine go_iload_n (pc := 21) dX7_howManyOpen_21 rfl rfl ?_
    refine go_aload_n (pc := 22) dX7_howManyOpen_22 rfl rfl ?_
    refine go_get (pc := 23) fX7_36 rfl (gz_b (by decide)) xw65 rfl dX7_howManyOpen_23 ?_
    refine gb_get (pc := 26) fX7_83 rfl (gz_b (by decide)) xw6 rfl dX7_howManyOpen_26 (fun v3 ev3 => ?_)
    have h := h v3 ev3
    refine go_icmp_ne (pc := 29) (tgt := 42) dX7_howManyOpen_29 (by decide) (fun q4 => ?_) (fun q4 => ?_)
    · have h := h.2 q4
      refine go_iconst (pc := 42) (v := 0) dX7_howManyOpen_42 (by decide) ?_
      refine go_lv [0, 1, 2] rfl ?_
      exact tX7_howManyOpen_p43 hP10 h
    · have h := h.1 q4
      refine go_aload_n (pc := 32) dX7_howManyOpen_32 rfl rfl ?_
      refine go_get (pc := 33) fX7_36 rfl (gz_b (by decide)) xw65 rfl dX7_howManyOpen_33 ?_
      refine gb_get (pc := 36) fX7_87 rfl (gz_b (by decide)) xw6 rfl dX7_howManyOpen_36 (fun v5 ev5 => ?_)
      have h := h v5 ev5
      refine go_goto (pc := 39) (tgt := 43) dX7_howManyOpen_39 (by decide) ?_
      refine go_lv [0, 1, 2] rfl ?_
      exact tX7_howManyOpen_p43 hP10 h
set_option maxRecDepth 100000 in
set_option maxHeartbeats 4000000 in
theorem tX7_howManyOpen_p10 {l : Launch} {G : gG} {k : Nat} {o : gMem} {Q : Int32 → gMem → Prop} {l1 : Int32} {l2 : Int32} {c : gMem} (h : wX7_howManyOpen_p10 l1 l2 c Q) : Go l G mX7_howManyOpen (gbq G 1 21 84 k (qi (wX G o) Q)) 10 [(0, .ref (G.2.1 + 65)), (1, .int l1), (2, .int l2)] [] 84 k (wX G o c) :=
  h (fun l1 l2 c => Go l G mX7_howManyOpen (gbq G 1 21 84 k (qi (wX G o) Q)) 10 [(0, .ref (G.2.1 + 65)), (1, .int l1), (2, .int l2)] [] 84 k (wX G o c)) (fun l1 l2 c hb => tX7_howManyOpen_p10_b (fun l1 l2 c hh => hh) hb)
def wX7_howManyOpen (c : gMem) (Q : Int32 → gMem → Prop) : Prop :=
  ∀ v1, v1 = c 6 2 →
  wX7_howManyOpen_p10 0 v1 c Q
set_option maxRecDepth 100000 in
set_option maxHeartbeats 4000000 in
theorem tX7_howManyOpen {l : Launch} {G : gG} {k : Nat} {o : gMem} {Q : Int32 → gMem → Prop} {c : gMem} (h : wX7_howManyOpen c Q) : Cq l G mX7_howManyOpen 1 21 [.ref (G.2.1 + 65)] 84 k (wX G o c) (qi (wX G o) Q) := by
  refine Cq.of (by decide) (Nat.le_of_ble_eq_true rfl) ?_
  show Go l G mX7_howManyOpen (gbq G 1 21 84 k (qi (wX G o) Q)) 0 [(0, .ref (G.2.1 + 65))] [] 84 k (wX G o c)
  unfold wX7_howManyOpen at h
  refine go_iconst (pc := 0) (v := 0) dX7_howManyOpen_0 (by decide) ?_
  refine go_istore_n (pc := 1) (lv' := [(1, .int 0), (0, .ref (G.2.1 + 65))]) dX7_howManyOpen_1 rfl (by decide) rfl ?_
  refine go_aload_n (pc := 2) dX7_howManyOpen_2 rfl rfl ?_
  refine go_get (pc := 3) fX7_36 rfl (gz_b (by decide)) xw65 rfl dX7_howManyOpen_3 ?_
  refine gb_get (pc := 6) fX7_83 rfl (gz_b (by decide)) xw6 rfl dX7_howManyOpen_6 (fun v1 ev1 => ?_)
  have h := h v1 ev1
  refine go_istore_n (pc := 9) (lv' := [(2, .int v1), (1, .int 0), (0, .ref (G.2.1 + 65))]) dX7_howManyOpen_9 rfl (by decide) rfl ?_
  refine go_lv [2, 1, 0] rfl ?_
  exact tX7_howManyOpen_p10 h
def wX9_about (l1 : Int32) (c : gMem) (Q : Int32 → gMem → Prop) : Prop :=
  ((l1.toInt < 0 ∨ 15 < l1.toInt →
    Q ((-102)) c) ∧
   (l1 = 0 →
    ∀ v2, v2 = c 2 0 →
    Q v2 c) ∧
   (l1 = 1 →
    wX2_free c (fun r4 c3 =>
    Q r4 c3)) ∧
   (l1 = 2 →
    ∀ v5, v5 = c 2 2 →
    Q v5 c) ∧
   (l1 = 3 →
    ∀ v6, v6 = c 2 3 →
    Q v6 c) ∧
   (l1 = 4 →
    ∀ v7, v7 = c 12 0 →
    Q v7 c) ∧
   (l1 = 5 →
    ∀ v8, v8 = c 12 1 →
    Q v8 c) ∧
   (l1 = 6 →
    ∀ v9, v9 = c 12 2 →
    Q v9 c) ∧
   (l1 = 7 →
    ∀ v10, v10 = c 12 3 →
    Q v10 c) ∧
   (l1 = 8 →
    ∀ v11, v11 = c 12 4 →
    Q v11 c) ∧
   (l1 = 9 →
    ∀ v12, v12 = c 12 5 →
    Q v12 c) ∧
   (l1 = 10 →
    ∀ v13, v13 = c 6 1 →
    Q v13 c) ∧
   (l1 = 11 →
    wX7_howManyOpen c (fun r15 c14 =>
    Q r15 c14)) ∧
   (l1 = 12 →
    ∀ v16, v16 = c 17 0 →
    Q v16 c) ∧
   (l1 = 13 →
    ∀ v17, v17 = c 17 1 →
    Q v17 c) ∧
   (l1 = 14 →
    ∀ v18, v18 = c 17 2 →
    Q v18 c) ∧
   (l1 = 15 →
    ∀ v19, v19 = c 17 3 →
    Q v19 c))
set_option maxRecDepth 100000 in
set_option maxHeartbeats 4000000 in
theorem tX9_about {l : Launch} {G : gG} {k : Nat} {o : gMem} {Q : Int32 → gMem → Prop} {l1 : Int32} {c : gMem} (h : wX9_about l1 c Q) : Cq l G mX9_about 2 44 [.ref (G.2.1 + 0), .int l1] 84 k (wX G o c) (qi (wX G o) Q) := by
  refine Cq.of (by decide) (Nat.le_of_ble_eq_true rfl) ?_
  show Go l G mX9_about (gbq G 2 44 84 k (qi (wX G o) Q)) 0 [(0, .ref (G.2.1 + 0)), (1, .int l1)] [] 84 k (wX G o c)
  unfold wX9_about at h
  refine go_iload_n (pc := 0) dX9_about_0 rfl rfl ?_
  by_cases q1 : l1.toInt < 0 ∨ 15 < l1.toInt
  · refine go_tableOut (pc := 1) (tgt := 253) dX9_about_1 q1 (by decide) ?_
    have h := h.1 q1
    refine go_bipush (pc := 253) (v := (-102)) dX9_about_253 (by decide) ?_
    exact gq_iret (pc := 255) (F := wX G o) rfl dX9_about_255 h
  have q1a : l1.toInt = 0 ∨ l1.toInt = 1 ∨ l1.toInt = 2 ∨ l1.toInt = 3 ∨ l1.toInt = 4 ∨ l1.toInt = 5 ∨ l1.toInt = 6 ∨ l1.toInt = 7 ∨ l1.toInt = 8 ∨ l1.toInt = 9 ∨ l1.toInt = 10 ∨ l1.toInt = 11 ∨ l1.toInt = 12 ∨ l1.toInt = 13 ∨ l1.toInt = 14 ∨ l1.toInt = 15 := by omega
  rcases q1a with q1b | q1b | q1b | q1b | q1b | q1b | q1b | q1b | q1b | q1b | q1b | q1b | q1b | q1b | q1b | q1b
  · have q1c : l1 = 0 := gt_eq q1b _ (by decide)
    refine go_tableIn (pc := 1) (off := 79) (tgt := 80) dX9_about_1 (by rw [q1b]; decide) (by rw [q1b]; decide) (by rw [q1b]; rfl) (by decide) ?_
    have h := h.2.1 q1c
    refine go_aload_n (pc := 80) dX9_about_80 rfl rfl ?_
    refine go_get (pc := 81) fX9_12 rfl (gz_b (by decide)) xw0 rfl dX9_about_81 ?_
    refine go_get (pc := 84) fX9_84 rfl (gz_b (by decide)) xw1 rfl dX9_about_84 ?_
    refine gb_get (pc := 87) fX9_211 rfl (gz_b (by decide)) xw2 rfl dX9_about_87 (fun v2 ev2 => ?_)
    have h := h v2 ev2
    exact gq_iret (pc := 90) (F := wX G o) rfl dX9_about_90 h
  · have q1c : l1 = 1 := gt_eq q1b _ (by decide)
    refine go_tableIn (pc := 1) (off := 90) (tgt := 91) dX9_about_1 (by rw [q1b]; decide) (by rw [q1b]; decide) (by rw [q1b]; rfl) (by decide) ?_
    have h := h.2.2.1 q1c
    refine go_aload_n (pc := 91) dX9_about_91 rfl rfl ?_
    refine go_get (pc := 92) fX9_12 rfl (gz_b (by decide)) xw0 rfl dX9_about_92 ?_
    refine go_get (pc := 95) fX9_84 rfl (gz_b (by decide)) xw1 rfl dX9_about_95 ?_
    refine gq_callV_i (pc := 98) (F := wX G o) vX9_214 rfl (tX2_free h) rfl rfl (gz_b (by decide)) xw2 rfl (Nat.le_of_ble_eq_true rfl) ⟨Nat.le_of_ble_eq_true rfl, Nat.le_of_ble_eq_true rfl, Nat.le_add_right _ _, Nat.le_add_right _ _⟩ dX9_about_98 (fun r4 c3 h => ?_)
    exact gq_iret (pc := 101) (F := wX G o) rfl dX9_about_101 h
  · have q1c : l1 = 2 := gt_eq q1b _ (by decide)
    refine go_tableIn (pc := 1) (off := 101) (tgt := 102) dX9_about_1 (by rw [q1b]; decide) (by rw [q1b]; decide) (by rw [q1b]; rfl) (by decide) ?_
    have h := h.2.2.2.1 q1c
    refine go_aload_n (pc := 102) dX9_about_102 rfl rfl ?_
    refine go_get (pc := 103) fX9_12 rfl (gz_b (by decide)) xw0 rfl dX9_about_103 ?_
    refine go_get (pc := 106) fX9_84 rfl (gz_b (by decide)) xw1 rfl dX9_about_106 ?_
    refine gb_get (pc := 109) fX9_218 rfl (gz_b (by decide)) xw2 rfl dX9_about_109 (fun v5 ev5 => ?_)
    have h := h v5 ev5
    exact gq_iret (pc := 112) (F := wX G o) rfl dX9_about_112 h
  · have q1c : l1 = 3 := gt_eq q1b _ (by decide)
    refine go_tableIn (pc := 1) (off := 112) (tgt := 113) dX9_about_1 (by rw [q1b]; decide) (by rw [q1b]; decide) (by rw [q1b]; rfl) (by decide) ?_
    have h := h.2.2.2.2.1 q1c
    refine go_aload_n (pc := 113) dX9_about_113 rfl rfl ?_
    refine go_get (pc := 114) fX9_12 rfl (gz_b (by decide)) xw0 rfl dX9_about_114 ?_
    refine go_get (pc := 117) fX9_84 rfl (gz_b (by decide)) xw1 rfl dX9_about_117 ?_
    refine gb_get (pc := 120) fX9_221 rfl (gz_b (by decide)) xw2 rfl dX9_about_120 (fun v6 ev6 => ?_)
    have h := h v6 ev6
    exact gq_iret (pc := 123) (F := wX G o) rfl dX9_about_123 h
  · have q1c : l1 = 4 := gt_eq q1b _ (by decide)
    refine go_tableIn (pc := 1) (off := 123) (tgt := 124) dX9_about_1 (by rw [q1b]; decide) (by rw [q1b]; decide) (by rw [q1b]; rfl) (by decide) ?_
    have h := h.2.2.2.2.2.1 q1c
    refine go_aload_n (pc := 124) dX9_about_124 rfl rfl ?_
    refine go_get (pc := 125) fX9_12 rfl (gz_b (by decide)) xw0 rfl dX9_about_125 ?_
    refine go_get (pc := 128) fX9_181 rfl (gz_b (by decide)) xw1 rfl dX9_about_128 ?_
    refine gb_get (pc := 131) fX9_224 rfl (gz_b (by decide)) xw12 rfl dX9_about_131 (fun v7 ev7 => ?_)
    have h := h v7 ev7
    exact gq_iret (pc := 134) (F := wX G o) rfl dX9_about_134 h
  · have q1c : l1 = 5 := gt_eq q1b _ (by decide)
    refine go_tableIn (pc := 1) (off := 134) (tgt := 135) dX9_about_1 (by rw [q1b]; decide) (by rw [q1b]; decide) (by rw [q1b]; rfl) (by decide) ?_
    have h := h.2.2.2.2.2.2.1 q1c
    refine go_aload_n (pc := 135) dX9_about_135 rfl rfl ?_
    refine go_get (pc := 136) fX9_12 rfl (gz_b (by decide)) xw0 rfl dX9_about_136 ?_
    refine go_get (pc := 139) fX9_181 rfl (gz_b (by decide)) xw1 rfl dX9_about_139 ?_
    refine gb_get (pc := 142) fX9_227 rfl (gz_b (by decide)) xw12 rfl dX9_about_142 (fun v8 ev8 => ?_)
    have h := h v8 ev8
    exact gq_iret (pc := 145) (F := wX G o) rfl dX9_about_145 h
  · have q1c : l1 = 6 := gt_eq q1b _ (by decide)
    refine go_tableIn (pc := 1) (off := 145) (tgt := 146) dX9_about_1 (by rw [q1b]; decide) (by rw [q1b]; decide) (by rw [q1b]; rfl) (by decide) ?_
    have h := h.2.2.2.2.2.2.2.1 q1c
    refine go_aload_n (pc := 146) dX9_about_146 rfl rfl ?_
    refine go_get (pc := 147) fX9_12 rfl (gz_b (by decide)) xw0 rfl dX9_about_147 ?_
    refine go_get (pc := 150) fX9_181 rfl (gz_b (by decide)) xw1 rfl dX9_about_150 ?_
    refine gb_get (pc := 153) fX9_185 rfl (gz_b (by decide)) xw12 rfl dX9_about_153 (fun v9 ev9 => ?_)
    have h := h v9 ev9
    exact gq_iret (pc := 156) (F := wX G o) rfl dX9_about_156 h
  · have q1c : l1 = 7 := gt_eq q1b _ (by decide)
    refine go_tableIn (pc := 1) (off := 156) (tgt := 157) dX9_about_1 (by rw [q1b]; decide) (by rw [q1b]; decide) (by rw [q1b]; rfl) (by decide) ?_
    have h := h.2.2.2.2.2.2.2.2.1 q1c
    refine go_aload_n (pc := 157) dX9_about_157 rfl rfl ?_
    refine go_get (pc := 158) fX9_12 rfl (gz_b (by decide)) xw0 rfl dX9_about_158 ?_
    refine go_get (pc := 161) fX9_181 rfl (gz_b (by decide)) xw1 rfl dX9_about_161 ?_
    refine gb_get (pc := 164) fX9_230 rfl (gz_b (by decide)) xw12 rfl dX9_about_164 (fun v10 ev10 => ?_)
    have h := h v10 ev10
    exact gq_iret (pc := 167) (F := wX G o) rfl dX9_about_167 h
  · have q1c : l1 = 8 := gt_eq q1b _ (by decide)
    refine go_tableIn (pc := 1) (off := 167) (tgt := 168) dX9_about_1 (by rw [q1b]; decide) (by rw [q1b]; decide) (by rw [q1b]; rfl) (by decide) ?_
    have h := h.2.2.2.2.2.2.2.2.2.1 q1c
    refine go_aload_n (pc := 168) dX9_about_168 rfl rfl ?_
    refine go_get (pc := 169) fX9_12 rfl (gz_b (by decide)) xw0 rfl dX9_about_169 ?_
    refine go_get (pc := 172) fX9_181 rfl (gz_b (by decide)) xw1 rfl dX9_about_172 ?_
    refine gb_get (pc := 175) fX9_233 rfl (gz_b (by decide)) xw12 rfl dX9_about_175 (fun v11 ev11 => ?_)
    have h := h v11 ev11
    exact gq_iret (pc := 178) (F := wX G o) rfl dX9_about_178 h
  · have q1c : l1 = 9 := gt_eq q1b _ (by decide)
    refine go_tableIn (pc := 1) (off := 178) (tgt := 179) dX9_about_1 (by rw [q1b]; decide) (by rw [q1b]; decide) (by rw [q1b]; rfl) (by decide) ?_
    have h := h.2.2.2.2.2.2.2.2.2.2.1 q1c
    refine go_aload_n (pc := 179) dX9_about_179 rfl rfl ?_
    refine go_get (pc := 180) fX9_12 rfl (gz_b (by decide)) xw0 rfl dX9_about_180 ?_
    refine go_get (pc := 183) fX9_181 rfl (gz_b (by decide)) xw1 rfl dX9_about_183 ?_
    refine gb_get (pc := 186) fX9_205 rfl (gz_b (by decide)) xw12 rfl dX9_about_186 (fun v12 ev12 => ?_)
    have h := h v12 ev12
    exact gq_iret (pc := 189) (F := wX G o) rfl dX9_about_189 h
  · have q1c : l1 = 10 := gt_eq q1b _ (by decide)
    refine go_tableIn (pc := 1) (off := 189) (tgt := 190) dX9_about_1 (by rw [q1b]; decide) (by rw [q1b]; decide) (by rw [q1b]; rfl) (by decide) ?_
    have h := h.2.2.2.2.2.2.2.2.2.2.2.1 q1c
    refine go_aload_n (pc := 190) dX9_about_190 rfl rfl ?_
    refine go_get (pc := 191) fX9_12 rfl (gz_b (by decide)) xw0 rfl dX9_about_191 ?_
    refine go_get (pc := 194) fX9_190 rfl (gz_b (by decide)) xw1 rfl dX9_about_194 ?_
    refine gb_get (pc := 197) fX9_236 rfl (gz_b (by decide)) xw6 rfl dX9_about_197 (fun v13 ev13 => ?_)
    have h := h v13 ev13
    exact gq_iret (pc := 200) (F := wX G o) rfl dX9_about_200 h
  · have q1c : l1 = 11 := gt_eq q1b _ (by decide)
    refine go_tableIn (pc := 1) (off := 200) (tgt := 201) dX9_about_1 (by rw [q1b]; decide) (by rw [q1b]; decide) (by rw [q1b]; rfl) (by decide) ?_
    have h := h.2.2.2.2.2.2.2.2.2.2.2.2.1 q1c
    refine go_aload_n (pc := 201) dX9_about_201 rfl rfl ?_
    refine go_get (pc := 202) fX9_31 rfl (gz_b (by decide)) xw0 rfl dX9_about_202 ?_
    refine gq_callV_i (pc := 205) (F := wX G o) vX9_239 rfl (tX7_howManyOpen h) rfl rfl (gz_b (by decide)) xw65 rfl (Nat.le_of_ble_eq_true rfl) ⟨Nat.le_of_ble_eq_true rfl, Nat.le_of_ble_eq_true rfl, Nat.le_add_right _ _, Nat.le_add_right _ _⟩ dX9_about_205 (fun r15 c14 h => ?_)
    exact gq_iret (pc := 208) (F := wX G o) rfl dX9_about_208 h
  · have q1c : l1 = 12 := gt_eq q1b _ (by decide)
    refine go_tableIn (pc := 1) (off := 208) (tgt := 209) dX9_about_1 (by rw [q1b]; decide) (by rw [q1b]; decide) (by rw [q1b]; rfl) (by decide) ?_
    have h := h.2.2.2.2.2.2.2.2.2.2.2.2.2.1 q1c
    refine go_aload_n (pc := 209) dX9_about_209 rfl rfl ?_
    refine go_get (pc := 210) fX9_12 rfl (gz_b (by decide)) xw0 rfl dX9_about_210 ?_
    refine go_get (pc := 213) fX9_242 rfl (gz_b (by decide)) xw1 rfl dX9_about_213 ?_
    refine gb_get (pc := 216) fX9_246 rfl (gz_b (by decide)) xw17 rfl dX9_about_216 (fun v16 ev16 => ?_)
    have h := h v16 ev16
    exact gq_iret (pc := 219) (F := wX G o) rfl dX9_about_219 h
  · have q1c : l1 = 13 := gt_eq q1b _ (by decide)
    refine go_tableIn (pc := 1) (off := 219) (tgt := 220) dX9_about_1 (by rw [q1b]; decide) (by rw [q1b]; decide) (by rw [q1b]; rfl) (by decide) ?_
    have h := h.2.2.2.2.2.2.2.2.2.2.2.2.2.2.1 q1c
    refine go_aload_n (pc := 220) dX9_about_220 rfl rfl ?_
    refine go_get (pc := 221) fX9_12 rfl (gz_b (by decide)) xw0 rfl dX9_about_221 ?_
    refine go_get (pc := 224) fX9_242 rfl (gz_b (by decide)) xw1 rfl dX9_about_224 ?_
    refine gb_get (pc := 227) fX9_249 rfl (gz_b (by decide)) xw17 rfl dX9_about_227 (fun v17 ev17 => ?_)
    have h := h v17 ev17
    exact gq_iret (pc := 230) (F := wX G o) rfl dX9_about_230 h
  · have q1c : l1 = 14 := gt_eq q1b _ (by decide)
    refine go_tableIn (pc := 1) (off := 230) (tgt := 231) dX9_about_1 (by rw [q1b]; decide) (by rw [q1b]; decide) (by rw [q1b]; rfl) (by decide) ?_
    have h := h.2.2.2.2.2.2.2.2.2.2.2.2.2.2.2.1 q1c
    refine go_aload_n (pc := 231) dX9_about_231 rfl rfl ?_
    refine go_get (pc := 232) fX9_12 rfl (gz_b (by decide)) xw0 rfl dX9_about_232 ?_
    refine go_get (pc := 235) fX9_242 rfl (gz_b (by decide)) xw1 rfl dX9_about_235 ?_
    refine gb_get (pc := 238) fX9_252 rfl (gz_b (by decide)) xw17 rfl dX9_about_238 (fun v18 ev18 => ?_)
    have h := h v18 ev18
    exact gq_iret (pc := 241) (F := wX G o) rfl dX9_about_241 h
  · have q1c : l1 = 15 := gt_eq q1b _ (by decide)
    refine go_tableIn (pc := 1) (off := 241) (tgt := 242) dX9_about_1 (by rw [q1b]; decide) (by rw [q1b]; decide) (by rw [q1b]; rfl) (by decide) ?_
    have h := h.2.2.2.2.2.2.2.2.2.2.2.2.2.2.2.2 q1c
    refine go_aload_n (pc := 242) dX9_about_242 rfl rfl ?_
    refine go_get (pc := 243) fX9_12 rfl (gz_b (by decide)) xw0 rfl dX9_about_243 ?_
    refine go_get (pc := 246) fX9_242 rfl (gz_b (by decide)) xw1 rfl dX9_about_246 ?_
    refine gb_get (pc := 249) fX9_255 rfl (gz_b (by decide)) xw17 rfl dX9_about_249 (fun v19 ev19 => ?_)
    have h := h v19 ev19
    exact gq_iret (pc := 252) (F := wX G o) rfl dX9_about_252 h
def wX9_word_p18 (c : gMem) (Q : Int32 → gMem → Prop) : Prop :=
  Q ((-102)) c
set_option maxRecDepth 100000 in
set_option maxHeartbeats 4000000 in
theorem tX9_word_p18 {l : Launch} {G : gG} {k : Nat} {o : gMem} {Q : Int32 → gMem → Prop} {c : gMem} (h : wX9_word_p18 c Q) : Go l G mX9_word (gbq G 0 0 84 k (qi (wX G o) Q)) 18 [] [] 84 k (wX G o c) := by
  unfold wX9_word_p18 at h
  refine go_bipush (pc := 18) (v := (-102)) dX9_word_18 (by decide) ?_
  refine go_goto (pc := 20) (tgt := 35) dX9_word_20 (by decide) ?_
  exact gq_iret (pc := 35) (F := wX G o) rfl dX9_word_35 h
def wX9_word (l1 : Int32) (c : gMem) (Q : Int32 → gMem → Prop) : Prop :=
  ((l1 < 0 →
    wX9_word_p18 c Q) ∧
   (¬ l1 < 0 →
    ∀ v2, v2 = c 2 0 →
    ((l1 < v2 →
      vp_in l1 4000 ∧
      ∀ v4, v4 = c 3 l1.toNatClampNeg →
      Q v4 c) ∧
     (¬ l1 < v2 →
      wX9_word_p18 c Q))))
set_option maxRecDepth 100000 in
set_option maxHeartbeats 4000000 in
theorem tX9_word {l : Launch} {G : gG} {k : Nat} {o : gMem} {Q : Int32 → gMem → Prop} {l1 : Int32} {c : gMem} (h : wX9_word l1 c Q) : Cq l G mX9_word 0 0 [.ref (G.2.1 + 0), .int l1] 84 k (wX G o c) (qi (wX G o) Q) := by
  refine Cq.of (by decide) (Nat.le_of_ble_eq_true rfl) ?_
  show Go l G mX9_word (gbq G 0 0 84 k (qi (wX G o) Q)) 0 [(0, .ref (G.2.1 + 0)), (1, .int l1)] [] 84 k (wX G o c)
  unfold wX9_word at h
  refine go_iload_n (pc := 0) dX9_word_0 rfl rfl ?_
  refine go_if_lt (pc := 1) (tgt := 18) dX9_word_1 (by decide) (fun q1 => ?_) (fun q1 => ?_)
  · have h := h.1 q1
    refine go_lv [] rfl ?_
    exact tX9_word_p18 h
  · have h := h.2 q1
    refine go_iload_n (pc := 4) dX9_word_4 rfl rfl ?_
    refine go_aload_n (pc := 5) dX9_word_5 rfl rfl ?_
    refine go_get (pc := 6) fX9_12 rfl (gz_b (by decide)) xw0 rfl dX9_word_6 ?_
    refine go_get (pc := 9) fX9_84 rfl (gz_b (by decide)) xw1 rfl dX9_word_9 ?_
    refine gb_get (pc := 12) fX9_211 rfl (gz_b (by decide)) xw2 rfl dX9_word_12 (fun v2 ev2 => ?_)
    have h := h v2 ev2
    refine go_icmp_lt (pc := 15) (tgt := 23) dX9_word_15 (by decide) (fun q3 => ?_) (fun q3 => ?_)
    · have h := h.1 q3
      refine go_aload_n (pc := 23) dX9_word_23 rfl rfl ?_
      refine go_get (pc := 24) fX9_12 rfl (gz_b (by decide)) xw0 rfl dX9_word_24 ?_
      refine go_get (pc := 27) fX9_84 rfl (gz_b (by decide)) xw1 rfl dX9_word_27 ?_
      refine go_get (pc := 30) fX9_258 rfl (gz_b (by decide)) xw2 rfl dX9_word_30 ?_
      refine go_iload_n (pc := 33) dX9_word_33 rfl rfl ?_
      obtain ⟨b5, h⟩ := h
      refine gb_iald (pc := 34) (gz_b (by decide)) xw3 b5 dX9_word_34 (fun v4 ev4 => ?_)
      have h := h v4 ev4
      exact gq_iret (pc := 35) (F := wX G o) rfl dX9_word_35 h
    · have h := h.2 q3
      refine go_lv [] rfl ?_
      exact tX9_word_p18 h
def wX9_digest_p45_b (P45 : Int32 → Int32 → gMem → Prop) (l1 : Int32) (l2 : Int32) (c : gMem) (Q : Int32 → gMem → Prop) : Prop :=
  ((24 ≤ l2 →
    wX9_phase c (fun r3 c2 =>
    Q ((31 * l1) + r3) c2)) ∧
   (¬ 24 ≤ l2 →
    vp_in l2 24 ∧
    ∀ v4, v4 = c 20 l2.toNatClampNeg →
    P45 ((31 * l1) + v4) (l2 + 1) c))
def wX9_digest_p45 (l1 : Int32) (l2 : Int32) (c : gMem) (Q : Int32 → gMem → Prop) : Prop :=
  ∀ P45 : Int32 → Int32 → gMem → Prop, (∀ (l1 : Int32) (l2 : Int32) (c : gMem), wX9_digest_p45_b P45 l1 l2 c Q → P45 l1 l2 c) → P45 l1 l2 c
set_option maxRecDepth 100000 in
set_option maxHeartbeats 4000000 in
theorem tX9_digest_p45_b {l : Launch} {G : gG} {k : Nat} {o : gMem} {Q : Int32 → gMem → Prop} {P45 : Int32 → Int32 → gMem → Prop} (hP45 : ∀ (l1 : Int32) (l2 : Int32) (c : gMem), P45 l1 l2 c → Go l G mX9_digest (gbq G 1 20 84 k (qi (wX G o) Q)) 45 [(0, .ref (G.2.1 + 0)), (1, .int l1), (2, .int l2)] [] 84 k (wX G o c)) {l1 : Int32} {l2 : Int32} {c : gMem} (h : wX9_digest_p45_b P45 l1 l2 c Q) : Go l G mX9_digest (gbq G 1 20 84 k (qi (wX G o) Q)) 45 [(0, .ref (G.2.1 + 0)), (1, .int l1), (2, .int l2)] [] 84 k (wX G o c) := by
  unfold wX9_digest_p45_b at h
  refine go_iload_n (pc := 45) dX9_digest_45 rfl rfl ?_
  refine go_bipush (pc := 46) (v := 24) dX9_digest_46 (by decide) ?_
  refine go_icmp_ge (pc := 48) (tgt := 72) dX9_digest_48 (by decide) (fun q1 => ?_) (fun q1 => ?_)
  · have h := h.1 q1
    refine go_bipush (pc := 72) (v := 31) dX9_digest_72 (by decide) ?_
    refine go_iload_n (pc := 74) dX9_digest_74 rfl rfl ?_
    refine go_imul (pc := 75) dX9_digest_75 ?_
    refine go_aload_n (pc := 76) dX9_digest_76 rfl rfl ?_
    refine gq_callV_i (pc := 77) (F := wX G o) vX9_264 rfl (tX9_phase h) rfl rfl (gz_b (by decide)) xw0 rfl (Nat.le_of_ble_eq_true rfl) ⟨Nat.le_of_ble_eq_true rfl, Nat.le_of_ble_eq_true rfl, Nat.le_add_right _ _, Nat.le_add_right _ _⟩ dX9_digest_77 (fun r3 c2 h => ?_)
    refine go_iadd (pc := 80) dX9_digest_80 ?_
    exact gq_iret (pc := 81) (F := wX G o) rfl dX9_digest_81 h
  · have h := h.2 q1
    refine go_bipush (pc := 51) (v := 31) dX9_digest_51 (by decide) ?_
    refine go_iload_n (pc := 53) dX9_digest_53 rfl rfl ?_
    refine go_imul (pc := 54) dX9_digest_54 ?_
    refine go_aload_n (pc := 55) dX9_digest_55 rfl rfl ?_
    refine go_get (pc := 56) fX9_12 rfl (gz_b (by decide)) xw0 rfl dX9_digest_56 ?_
    refine go_get (pc := 59) fX9_162 rfl (gz_b (by decide)) xw1 rfl dX9_digest_59 ?_
    refine go_iload_n (pc := 62) dX9_digest_62 rfl rfl ?_
    obtain ⟨b5, h⟩ := h
    refine gb_iald (pc := 63) (gz_b (by decide)) xw20 b5 dX9_digest_63 (fun v4 ev4 => ?_)
    have h := h v4 ev4
    refine go_iadd (pc := 64) dX9_digest_64 ?_
    refine go_istore_n (pc := 65) (lv' := [(1, .int ((31 * l1) + v4)), (0, .ref (G.2.1 + 0)), (2, .int l2)]) dX9_digest_65 rfl (by decide) rfl ?_
    refine go_iinc (pc := 66) (v := l2 + 1) (lv' := [(2, .int (l2 + 1)), (1, .int ((31 * l1) + v4)), (0, .ref (G.2.1 + 0))]) dX9_digest_66 2 rfl (by first | rfl | decide) (by decide) rfl ?_
    refine go_goto (pc := 69) (tgt := 45) dX9_digest_69 (by decide) ?_
    refine go_lv [2, 1, 0] rfl ?_
    exact hP45 _ _ _ h
set_option maxRecDepth 100000 in
set_option maxHeartbeats 4000000 in
theorem tX9_digest_p45 {l : Launch} {G : gG} {k : Nat} {o : gMem} {Q : Int32 → gMem → Prop} {l1 : Int32} {l2 : Int32} {c : gMem} (h : wX9_digest_p45 l1 l2 c Q) : Go l G mX9_digest (gbq G 1 20 84 k (qi (wX G o) Q)) 45 [(0, .ref (G.2.1 + 0)), (1, .int l1), (2, .int l2)] [] 84 k (wX G o c) :=
  h (fun l1 l2 c => Go l G mX9_digest (gbq G 1 20 84 k (qi (wX G o) Q)) 45 [(0, .ref (G.2.1 + 0)), (1, .int l1), (2, .int l2)] [] 84 k (wX G o c)) (fun l1 l2 c hb => tX9_digest_p45_b (fun l1 l2 c hh => hh) hb)
def wX9_digest_p5_b (P5 : Int32 → Int32 → gMem → Prop) (l1 : Int32) (l2 : Int32) (c : gMem) (Q : Int32 → gMem → Prop) : Prop :=
  ∀ v1, v1 = c 2 1 →
  ((v1 ≤ l2 →
    wX9_digest_p45 l1 0 c Q) ∧
   (¬ v1 ≤ l2 →
    vp_in l2 4000 ∧
    ∀ v3, v3 = c 3 l2.toNatClampNeg →
    P5 ((31 * l1) + v3) (l2 + 1) c))
def wX9_digest_p5 (l1 : Int32) (l2 : Int32) (c : gMem) (Q : Int32 → gMem → Prop) : Prop :=
  ∀ P5 : Int32 → Int32 → gMem → Prop, (∀ (l1 : Int32) (l2 : Int32) (c : gMem), wX9_digest_p5_b P5 l1 l2 c Q → P5 l1 l2 c) → P5 l1 l2 c
set_option maxRecDepth 100000 in
set_option maxHeartbeats 4000000 in
theorem tX9_digest_p5_b {l : Launch} {G : gG} {k : Nat} {o : gMem} {Q : Int32 → gMem → Prop} {P5 : Int32 → Int32 → gMem → Prop} (hP5 : ∀ (l1 : Int32) (l2 : Int32) (c : gMem), P5 l1 l2 c → Go l G mX9_digest (gbq G 1 20 84 k (qi (wX G o) Q)) 5 [(0, .ref (G.2.1 + 0)), (1, .int l1), (2, .int l2)] [] 84 k (wX G o c)) {l1 : Int32} {l2 : Int32} {c : gMem} (h : wX9_digest_p5_b P5 l1 l2 c Q) : Go l G mX9_digest (gbq G 1 20 84 k (qi (wX G o) Q)) 5 [(0, .ref (G.2.1 + 0)), (1, .int l1), (2, .int l2)] [] 84 k (wX G o c) := by
  unfold wX9_digest_p5_b at h
  refine go_iload_n (pc := 5) dX9_digest_5 rfl rfl ?_
  refine go_aload_n (pc := 6) dX9_digest_6 rfl rfl ?_
  refine go_get (pc := 7) fX9_12 rfl (gz_b (by decide)) xw0 rfl dX9_digest_7 ?_
  refine go_get (pc := 10) fX9_84 rfl (gz_b (by decide)) xw1 rfl dX9_digest_10 ?_
  refine gb_get (pc := 13) fX9_261 rfl (gz_b (by decide)) xw2 rfl dX9_digest_13 (fun v1 ev1 => ?_)
  have h := h v1 ev1
  refine go_icmp_ge (pc := 16) (tgt := 43) dX9_digest_16 (by decide) (fun q2 => ?_) (fun q2 => ?_)
  · have h := h.1 q2
    refine go_iconst (pc := 43) (v := 0) dX9_digest_43 (by decide) ?_
    refine go_istore_n (pc := 44) (lv' := [(2, .int 0), (0, .ref (G.2.1 + 0)), (1, .int l1)]) dX9_digest_44 rfl (by decide) rfl ?_
    refine go_lv [1, 2, 0] rfl ?_
    exact tX9_digest_p45 h
  · have h := h.2 q2
    refine go_bipush (pc := 19) (v := 31) dX9_digest_19 (by decide) ?_
    refine go_iload_n (pc := 21) dX9_digest_21 rfl rfl ?_
    refine go_imul (pc := 22) dX9_digest_22 ?_
    refine go_aload_n (pc := 23) dX9_digest_23 rfl rfl ?_
    refine go_get (pc := 24) fX9_12 rfl (gz_b (by decide)) xw0 rfl dX9_digest_24 ?_
    refine go_get (pc := 27) fX9_84 rfl (gz_b (by decide)) xw1 rfl dX9_digest_27 ?_
    refine go_get (pc := 30) fX9_258 rfl (gz_b (by decide)) xw2 rfl dX9_digest_30 ?_
    refine go_iload_n (pc := 33) dX9_digest_33 rfl rfl ?_
    obtain ⟨b4, h⟩ := h
    refine gb_iald (pc := 34) (gz_b (by decide)) xw3 b4 dX9_digest_34 (fun v3 ev3 => ?_)
    have h := h v3 ev3
    refine go_iadd (pc := 35) dX9_digest_35 ?_
    refine go_istore_n (pc := 36) (lv' := [(1, .int ((31 * l1) + v3)), (0, .ref (G.2.1 + 0)), (2, .int l2)]) dX9_digest_36 rfl (by decide) rfl ?_
    refine go_iinc (pc := 37) (v := l2 + 1) (lv' := [(2, .int (l2 + 1)), (1, .int ((31 * l1) + v3)), (0, .ref (G.2.1 + 0))]) dX9_digest_37 2 rfl (by first | rfl | decide) (by decide) rfl ?_
    refine go_goto (pc := 40) (tgt := 5) dX9_digest_40 (by decide) ?_
    refine go_lv [2, 1, 0] rfl ?_
    exact hP5 _ _ _ h
set_option maxRecDepth 100000 in
set_option maxHeartbeats 4000000 in
theorem tX9_digest_p5 {l : Launch} {G : gG} {k : Nat} {o : gMem} {Q : Int32 → gMem → Prop} {l1 : Int32} {l2 : Int32} {c : gMem} (h : wX9_digest_p5 l1 l2 c Q) : Go l G mX9_digest (gbq G 1 20 84 k (qi (wX G o) Q)) 5 [(0, .ref (G.2.1 + 0)), (1, .int l1), (2, .int l2)] [] 84 k (wX G o c) :=
  h (fun l1 l2 c => Go l G mX9_digest (gbq G 1 20 84 k (qi (wX G o) Q)) 5 [(0, .ref (G.2.1 + 0)), (1, .int l1), (2, .int l2)] [] 84 k (wX G o c)) (fun l1 l2 c hb => tX9_digest_p5_b (fun l1 l2 c hh => hh) hb)
def wX9_digest (c : gMem) (Q : Int32 → gMem → Prop) : Prop :=
  wX9_digest_p5 7 0 c Q
set_option maxRecDepth 100000 in
set_option maxHeartbeats 4000000 in
theorem tX9_digest {l : Launch} {G : gG} {k : Nat} {o : gMem} {Q : Int32 → gMem → Prop} {c : gMem} (h : wX9_digest c Q) : Cq l G mX9_digest 1 20 [.ref (G.2.1 + 0)] 84 k (wX G o c) (qi (wX G o) Q) := by
  refine Cq.of (by decide) (Nat.le_of_ble_eq_true rfl) ?_
  show Go l G mX9_digest (gbq G 1 20 84 k (qi (wX G o) Q)) 0 [(0, .ref (G.2.1 + 0))] [] 84 k (wX G o c)
  unfold wX9_digest at h
  refine go_bipush (pc := 0) (v := 7) dX9_digest_0 (by decide) ?_
  refine go_istore_n (pc := 2) (lv' := [(1, .int 7), (0, .ref (G.2.1 + 0))]) dX9_digest_2 rfl (by decide) rfl ?_
  refine go_iconst (pc := 3) (v := 0) dX9_digest_3 (by decide) ?_
  refine go_istore_n (pc := 4) (lv' := [(2, .int 0), (1, .int 7), (0, .ref (G.2.1 + 0))]) dX9_digest_4 rfl (by decide) rfl ?_
  refine go_lv [2, 1, 0] rfl ?_
  exact tX9_digest_p5 h
def wX9_rows (c : gMem) (Q : Int32 → gMem → Prop) : Prop :=
  ∀ v1, v1 = c 14 0 →
  Q v1 c
set_option maxRecDepth 100000 in
set_option maxHeartbeats 4000000 in
theorem tX9_rows {l : Launch} {G : gG} {k : Nat} {o : gMem} {Q : Int32 → gMem → Prop} {c : gMem} (h : wX9_rows c Q) : Cq l G mX9_rows 0 0 [.ref (G.2.1 + 0)] 84 k (wX G o c) (qi (wX G o) Q) := by
  refine Cq.of (by decide) (Nat.le_of_ble_eq_true rfl) ?_
  show Go l G mX9_rows (gbq G 0 0 84 k (qi (wX G o) Q)) 0 [(0, .ref (G.2.1 + 0))] [] 84 k (wX G o c)
  unfold wX9_rows at h
  refine go_aload_n (pc := 0) dX9_rows_0 rfl rfl ?_
  refine go_get (pc := 1) fX9_12 rfl (gz_b (by decide)) xw0 rfl dX9_rows_1 ?_
  refine go_get (pc := 4) fX9_267 rfl (gz_b (by decide)) xw1 rfl dX9_rows_4 ?_
  refine gb_get (pc := 7) fX9_271 rfl (gz_b (by decide)) xw14 rfl dX9_rows_7 (fun v1 ev1 => ?_)
  have h := h v1 ev1
  exact gq_iret (pc := 10) (F := wX G o) rfl dX9_rows_10 h
def wX9_row_p18 (c : gMem) (Q : Int32 → gMem → Prop) : Prop :=
  Q ((-101)) c
set_option maxRecDepth 100000 in
set_option maxHeartbeats 4000000 in
theorem tX9_row_p18 {l : Launch} {G : gG} {k : Nat} {o : gMem} {Q : Int32 → gMem → Prop} {c : gMem} (h : wX9_row_p18 c Q) : Go l G mX9_row (gbq G 0 0 84 k (qi (wX G o) Q)) 18 [] [] 84 k (wX G o c) := by
  unfold wX9_row_p18 at h
  refine go_bipush (pc := 18) (v := (-101)) dX9_row_18 (by decide) ?_
  refine go_goto (pc := 20) (tgt := 35) dX9_row_20 (by decide) ?_
  exact gq_iret (pc := 35) (F := wX G o) rfl dX9_row_35 h
def wX9_row (l1 : Int32) (c : gMem) (Q : Int32 → gMem → Prop) : Prop :=
  ((l1 < 0 →
    wX9_row_p18 c Q) ∧
   (¬ l1 < 0 →
    ∀ v2, v2 = c 14 0 →
    ((l1 < v2 →
      vp_in l1 6527 ∧
      ∀ v4, v4 = c 16 l1.toNatClampNeg →
      Q v4 c) ∧
     (¬ l1 < v2 →
      wX9_row_p18 c Q))))
set_option maxRecDepth 100000 in
set_option maxHeartbeats 4000000 in
theorem tX9_row {l : Launch} {G : gG} {k : Nat} {o : gMem} {Q : Int32 → gMem → Prop} {l1 : Int32} {c : gMem} (h : wX9_row l1 c Q) : Cq l G mX9_row 0 0 [.ref (G.2.1 + 0), .int l1] 84 k (wX G o c) (qi (wX G o) Q) := by
  refine Cq.of (by decide) (Nat.le_of_ble_eq_true rfl) ?_
  show Go l G mX9_row (gbq G 0 0 84 k (qi (wX G o) Q)) 0 [(0, .ref (G.2.1 + 0)), (1, .int l1)] [] 84 k (wX G o c)
  unfold wX9_row at h
  refine go_iload_n (pc := 0) dX9_row_0 rfl rfl ?_
  refine go_if_lt (pc := 1) (tgt := 18) dX9_row_1 (by decide) (fun q1 => ?_) (fun q1 => ?_)
  · have h := h.1 q1
    refine go_lv [] rfl ?_
    exact tX9_row_p18 h
  · have h := h.2 q1
    refine go_iload_n (pc := 4) dX9_row_4 rfl rfl ?_
    refine go_aload_n (pc := 5) dX9_row_5 rfl rfl ?_
    refine go_get (pc := 6) fX9_12 rfl (gz_b (by decide)) xw0 rfl dX9_row_6 ?_
    refine go_get (pc := 9) fX9_267 rfl (gz_b (by decide)) xw1 rfl dX9_row_9 ?_
    refine gb_get (pc := 12) fX9_271 rfl (gz_b (by decide)) xw14 rfl dX9_row_12 (fun v2 ev2 => ?_)
    have h := h v2 ev2
    refine go_icmp_lt (pc := 15) (tgt := 23) dX9_row_15 (by decide) (fun q3 => ?_) (fun q3 => ?_)
    · have h := h.1 q3
      refine go_aload_n (pc := 23) dX9_row_23 rfl rfl ?_
      refine go_get (pc := 24) fX9_12 rfl (gz_b (by decide)) xw0 rfl dX9_row_24 ?_
      refine go_get (pc := 27) fX9_267 rfl (gz_b (by decide)) xw1 rfl dX9_row_27 ?_
      refine go_get (pc := 30) fX9_276 rfl (gz_b (by decide)) xw14 rfl dX9_row_30 ?_
      refine go_iload_n (pc := 33) dX9_row_33 rfl rfl ?_
      obtain ⟨b5, h⟩ := h
      refine gb_iald (pc := 34) (gz_b (by decide)) xw16 b5 dX9_row_34 (fun v4 ev4 => ?_)
      have h := h v4 ev4
      exact gq_iret (pc := 35) (F := wX G o) rfl dX9_row_35 h
    · have h := h.2 q3
      refine go_lv [] rfl ?_
      exact tX9_row_p18 h
def wX9_forge (l1 : Int32) (l2 : Int32) (c : gMem) (Q : Int32 → gMem → Prop) : Prop :=
  ((l1 < 0 →
    Q ((-101)) c) ∧
   (¬ l1 < 0 →
    ∀ v2, v2 = c 14 0 →
    ((l1 < v2 →
      vp_in l1 6527 ∧
      ∀ v4, v4 = c 16 l1.toNatClampNeg →
      vp_in l1 6527 ∧
      ∀ c6, c6 = mp c 16 l1.toNatClampNeg l2 →
      Q v4 c6) ∧
     (¬ l1 < v2 →
      Q ((-101)) c))))
set_option maxRecDepth 100000 in
set_option maxHeartbeats 4000000 in
theorem tX9_forge {l : Launch} {G : gG} {k : Nat} {o : gMem} {Q : Int32 → gMem → Prop} {l1 : Int32} {l2 : Int32} {c : gMem} (h : wX9_forge l1 l2 c Q) : Cq l G mX9_forge 0 0 [.ref (G.2.1 + 0), .int l1, .int l2] 84 k (wX G o c) (qi (wX G o) Q) := by
  refine Cq.of (by decide) (Nat.le_of_ble_eq_true rfl) ?_
  show Go l G mX9_forge (gbq G 0 0 84 k (qi (wX G o) Q)) 0 [(0, .ref (G.2.1 + 0)), (1, .int l1), (2, .int l2)] [] 84 k (wX G o c)
  unfold wX9_forge at h
  refine go_iload_n (pc := 0) dX9_forge_0 rfl rfl ?_
  refine go_if_lt (pc := 1) (tgt := 18) dX9_forge_1 (by decide) (fun q1 => ?_) (fun q1 => ?_)
  · have h := h.1 q1
    refine go_bipush (pc := 18) (v := (-101)) dX9_forge_18 (by decide) ?_
    exact gq_iret (pc := 20) (F := wX G o) rfl dX9_forge_20 h
  · have h := h.2 q1
    refine go_iload_n (pc := 4) dX9_forge_4 rfl rfl ?_
    refine go_aload_n (pc := 5) dX9_forge_5 rfl rfl ?_
    refine go_get (pc := 6) fX9_12 rfl (gz_b (by decide)) xw0 rfl dX9_forge_6 ?_
    refine go_get (pc := 9) fX9_267 rfl (gz_b (by decide)) xw1 rfl dX9_forge_9 ?_
    refine gb_get (pc := 12) fX9_271 rfl (gz_b (by decide)) xw14 rfl dX9_forge_12 (fun v2 ev2 => ?_)
    have h := h v2 ev2
    refine go_icmp_lt (pc := 15) (tgt := 21) dX9_forge_15 (by decide) (fun q3 => ?_) (fun q3 => ?_)
    · have h := h.1 q3
      refine go_aload_n (pc := 21) dX9_forge_21 rfl rfl ?_
      refine go_get (pc := 22) fX9_12 rfl (gz_b (by decide)) xw0 rfl dX9_forge_22 ?_
      refine go_get (pc := 25) fX9_267 rfl (gz_b (by decide)) xw1 rfl dX9_forge_25 ?_
      refine go_get (pc := 28) fX9_276 rfl (gz_b (by decide)) xw14 rfl dX9_forge_28 ?_
      refine go_iload_n (pc := 31) dX9_forge_31 rfl rfl ?_
      obtain ⟨b5, h⟩ := h
      refine gb_iald (pc := 32) (gz_b (by decide)) xw16 b5 dX9_forge_32 (fun v4 ev4 => ?_)
      have h := h v4 ev4
      refine go_istore_n (pc := 33) (lv' := [(3, .int v4), (0, .ref (G.2.1 + 0)), (1, .int l1), (2, .int l2)]) dX9_forge_33 rfl (by decide) rfl ?_
      refine go_aload_n (pc := 34) dX9_forge_34 rfl rfl ?_
      refine go_get (pc := 35) fX9_12 rfl (gz_b (by decide)) xw0 rfl dX9_forge_35 ?_
      refine go_get (pc := 38) fX9_267 rfl (gz_b (by decide)) xw1 rfl dX9_forge_38 ?_
      refine go_get (pc := 41) fX9_276 rfl (gz_b (by decide)) xw14 rfl dX9_forge_41 ?_
      refine go_iload_n (pc := 44) dX9_forge_44 rfl rfl ?_
      refine go_iload_n (pc := 45) dX9_forge_45 rfl rfl ?_
      obtain ⟨b7, h⟩ := h
      refine gb_iast (pc := 46) (F := wX G o) (gz_b (by decide)) xw16 b7 xa16 dX9_forge_46 (fun c6 ec6 => ?_)
      have h := h c6 ec6
      refine go_iload_n (pc := 47) dX9_forge_47 rfl rfl ?_
      exact gq_iret (pc := 48) (F := wX G o) rfl dX9_forge_48 h
    · have h := h.2 q3
      refine go_bipush (pc := 18) (v := (-101)) dX9_forge_18 (by decide) ?_
      exact gq_iret (pc := 20) (F := wX G o) rfl dX9_forge_20 h
def wX4_restore_p42 (P4 : Int32 → Int32 → gMem → Prop) (l1 : Int32) (l2 : Int32) (c : gMem) (Q : Int32 → gMem → Prop) : Prop :=
  P4 l1 (l2 + 1) c
set_option maxRecDepth 100000 in
set_option maxHeartbeats 4000000 in
theorem tX4_restore_p42 {l : Launch} {G : gG} {k : Nat} {o : gMem} {Q : Int32 → gMem → Prop} {P4 : Int32 → Int32 → gMem → Prop} (hP4 : ∀ (l1 : Int32) (l2 : Int32) (c : gMem), P4 l1 l2 c → Go l G mX4_restore (gbq G 0 0 84 k (qi (wX G o) Q)) 4 [(0, .ref (G.2.1 + 14)), (1, .int l1), (2, .int l2)] [] 84 k (wX G o c)) {l1 : Int32} {l2 : Int32} {c : gMem} (h : wX4_restore_p42 P4 l1 l2 c Q) : Go l G mX4_restore (gbq G 0 0 84 k (qi (wX G o) Q)) 42 [(0, .ref (G.2.1 + 14)), (1, .int l1), (2, .int l2)] [] 84 k (wX G o c) := by
  unfold wX4_restore_p42 at h
  refine go_iinc (pc := 42) (v := l2 + 1) (lv' := [(2, .int (l2 + 1)), (0, .ref (G.2.1 + 14)), (1, .int l1)]) dX4_restore_42 2 rfl (by first | rfl | decide) (by decide) rfl ?_
  refine go_goto (pc := 45) (tgt := 4) dX4_restore_45 (by decide) ?_
  refine go_lv [1, 2, 0] rfl ?_
  exact hP4 _ _ _ h
def wX4_restore_p4_b (P4 : Int32 → Int32 → gMem → Prop) (l1 : Int32) (l2 : Int32) (c : gMem) (Q : Int32 → gMem → Prop) : Prop :=
  ∀ v1, v1 = c 14 0 →
  ((v1 ≤ l2 →
    Q l1 c) ∧
   (¬ v1 ≤ l2 →
    vp_in l2 6527 ∧
    ∀ v3, v3 = c 16 l2.toNatClampNeg →
    vp_in l2 6527 ∧
    ∀ v5, v5 = c 15 l2.toNatClampNeg →
    ((v3 = v5 →
      wX4_restore_p42 P4 l1 l2 c Q) ∧
     (¬ v3 = v5 →
      vp_in l2 6527 ∧
      ∀ v8, v8 = c 15 l2.toNatClampNeg →
      vp_in l2 6527 ∧
      ∀ c10, c10 = mp c 16 l2.toNatClampNeg v8 →
      wX4_restore_p42 P4 (l1 + 1) l2 c10 Q))))
def wX4_restore_p4 (l1 : Int32) (l2 : Int32) (c : gMem) (Q : Int32 → gMem → Prop) : Prop :=
  ∀ P4 : Int32 → Int32 → gMem → Prop, (∀ (l1 : Int32) (l2 : Int32) (c : gMem), wX4_restore_p4_b P4 l1 l2 c Q → P4 l1 l2 c) → P4 l1 l2 c
set_option maxRecDepth 100000 in
set_option maxHeartbeats 4000000 in
theorem tX4_restore_p4_b {l : Launch} {G : gG} {k : Nat} {o : gMem} {Q : Int32 → gMem → Prop} {P4 : Int32 → Int32 → gMem → Prop} (hP4 : ∀ (l1 : Int32) (l2 : Int32) (c : gMem), P4 l1 l2 c → Go l G mX4_restore (gbq G 0 0 84 k (qi (wX G o) Q)) 4 [(0, .ref (G.2.1 + 14)), (1, .int l1), (2, .int l2)] [] 84 k (wX G o c)) {l1 : Int32} {l2 : Int32} {c : gMem} (h : wX4_restore_p4_b P4 l1 l2 c Q) : Go l G mX4_restore (gbq G 0 0 84 k (qi (wX G o) Q)) 4 [(0, .ref (G.2.1 + 14)), (1, .int l1), (2, .int l2)] [] 84 k (wX G o c) := by
  unfold wX4_restore_p4_b at h
  refine go_iload_n (pc := 4) dX4_restore_4 rfl rfl ?_
  refine go_aload_n (pc := 5) dX4_restore_5 rfl rfl ?_
  refine gb_get (pc := 6) fX4_18 rfl (gz_b (by decide)) xw14 rfl dX4_restore_6 (fun v1 ev1 => ?_)
  have h := h v1 ev1
  refine go_icmp_ge (pc := 9) (tgt := 48) dX4_restore_9 (by decide) (fun q2 => ?_) (fun q2 => ?_)
  · have h := h.1 q2
    refine go_iload_n (pc := 48) dX4_restore_48 rfl rfl ?_
    exact gq_iret (pc := 49) (F := wX G o) rfl dX4_restore_49 h
  · have h := h.2 q2
    refine go_aload_n (pc := 12) dX4_restore_12 rfl rfl ?_
    refine go_get (pc := 13) fX4_15 rfl (gz_b (by decide)) xw14 rfl dX4_restore_13 ?_
    refine go_iload_n (pc := 16) dX4_restore_16 rfl rfl ?_
    obtain ⟨b4, h⟩ := h
    refine gb_iald (pc := 17) (gz_b (by decide)) xw16 b4 dX4_restore_17 (fun v3 ev3 => ?_)
    have h := h v3 ev3
    refine go_aload_n (pc := 18) dX4_restore_18 rfl rfl ?_
    refine go_get (pc := 19) fX4_9 rfl (gz_b (by decide)) xw14 rfl dX4_restore_19 ?_
    refine go_iload_n (pc := 22) dX4_restore_22 rfl rfl ?_
    obtain ⟨b6, h⟩ := h
    refine gb_iald (pc := 23) (gz_b (by decide)) xw15 b6 dX4_restore_23 (fun v5 ev5 => ?_)
    have h := h v5 ev5
    refine go_icmp_eq (pc := 24) (tgt := 42) dX4_restore_24 (by decide) (fun q7 => ?_) (fun q7 => ?_)
    · have h := h.1 q7
      refine go_lv [0, 1, 2] rfl ?_
      exact tX4_restore_p42 hP4 h
    · have h := h.2 q7
      refine go_aload_n (pc := 27) dX4_restore_27 rfl rfl ?_
      refine go_get (pc := 28) fX4_15 rfl (gz_b (by decide)) xw14 rfl dX4_restore_28 ?_
      refine go_iload_n (pc := 31) dX4_restore_31 rfl rfl ?_
      refine go_aload_n (pc := 32) dX4_restore_32 rfl rfl ?_
      refine go_get (pc := 33) fX4_9 rfl (gz_b (by decide)) xw14 rfl dX4_restore_33 ?_
      refine go_iload_n (pc := 36) dX4_restore_36 rfl rfl ?_
      obtain ⟨b9, h⟩ := h
      refine gb_iald (pc := 37) (gz_b (by decide)) xw15 b9 dX4_restore_37 (fun v8 ev8 => ?_)
      have h := h v8 ev8
      obtain ⟨b11, h⟩ := h
      refine gb_iast (pc := 38) (F := wX G o) (gz_b (by decide)) xw16 b11 xa16 dX4_restore_38 (fun c10 ec10 => ?_)
      have h := h c10 ec10
      refine go_iinc (pc := 39) (v := l1 + 1) (lv' := [(1, .int (l1 + 1)), (0, .ref (G.2.1 + 14)), (2, .int l2)]) dX4_restore_39 1 rfl (by first | rfl | decide) (by decide) rfl ?_
      refine go_lv [1, 0, 2] rfl ?_
      exact tX4_restore_p42 hP4 h
set_option maxRecDepth 100000 in
set_option maxHeartbeats 4000000 in
theorem tX4_restore_p4 {l : Launch} {G : gG} {k : Nat} {o : gMem} {Q : Int32 → gMem → Prop} {l1 : Int32} {l2 : Int32} {c : gMem} (h : wX4_restore_p4 l1 l2 c Q) : Go l G mX4_restore (gbq G 0 0 84 k (qi (wX G o) Q)) 4 [(0, .ref (G.2.1 + 14)), (1, .int l1), (2, .int l2)] [] 84 k (wX G o c) :=
  h (fun l1 l2 c => Go l G mX4_restore (gbq G 0 0 84 k (qi (wX G o) Q)) 4 [(0, .ref (G.2.1 + 14)), (1, .int l1), (2, .int l2)] [] 84 k (wX G o c)) (fun l1 l2 c hb => tX4_restore_p4_b (fun l1 l2 c hh => hh) hb)
def wX4_restore (c : gMem) (Q : Int32 → gMem → Prop) : Prop :=
  wX4_restore_p4 0 0 c Q
set_option maxRecDepth 100000 in
set_option maxHeartbeats 4000000 in
theorem tX4_restore {l : Launch} {G : gG} {k : Nat} {o : gMem} {Q : Int32 → gMem → Prop} {c : gMem} (h : wX4_restore c Q) : Cq l G mX4_restore 0 0 [.ref (G.2.1 + 14)] 84 k (wX G o c) (qi (wX G o) Q) := by
  refine Cq.of (by decide) (Nat.le_of_ble_eq_true rfl) ?_
  show Go l G mX4_restore (gbq G 0 0 84 k (qi (wX G o) Q)) 0 [(0, .ref (G.2.1 + 14))] [] 84 k (wX G o c)
  unfold wX4_restore at h
  refine go_iconst (pc := 0) (v := 0) dX4_restore_0 (by decide) ?_
  refine go_istore_n (pc := 1) (lv' := [(1, .int 0), (0, .ref (G.2.1 + 14))]) dX4_restore_1 rfl (by decide) rfl ?_
  refine go_iconst (pc := 2) (v := 0) dX4_restore_2 (by decide) ?_
  refine go_istore_n (pc := 3) (lv' := [(2, .int 0), (1, .int 0), (0, .ref (G.2.1 + 14))]) dX4_restore_3 rfl (by decide) rfl ?_
  refine go_lv [2, 1, 0] rfl ?_
  exact tX4_restore_p4 h
def wX9_plain (c : gMem) (Q : Int32 → gMem → Prop) : Prop :=
  wX4_restore c (fun r2 c1 =>
  Q r2 c1)
set_option maxRecDepth 100000 in
set_option maxHeartbeats 4000000 in
theorem tX9_plain {l : Launch} {G : gG} {k : Nat} {o : gMem} {Q : Int32 → gMem → Prop} {c : gMem} (h : wX9_plain c Q) : Cq l G mX9_plain 1 22 [.ref (G.2.1 + 0)] 84 k (wX G o c) (qi (wX G o) Q) := by
  refine Cq.of (by decide) (Nat.le_of_ble_eq_true rfl) ?_
  show Go l G mX9_plain (gbq G 1 22 84 k (qi (wX G o) Q)) 0 [(0, .ref (G.2.1 + 0))] [] 84 k (wX G o c)
  unfold wX9_plain at h
  refine go_aload_n (pc := 0) dX9_plain_0 rfl rfl ?_
  refine go_get (pc := 1) fX9_12 rfl (gz_b (by decide)) xw0 rfl dX9_plain_1 ?_
  refine go_get (pc := 4) fX9_267 rfl (gz_b (by decide)) xw1 rfl dX9_plain_4 ?_
  refine gq_callV_i (pc := 7) (F := wX G o) vX9_279 rfl (tX4_restore h) rfl rfl (gz_b (by decide)) xw14 rfl (Nat.le_of_ble_eq_true rfl) ⟨Nat.le_of_ble_eq_true rfl, Nat.le_of_ble_eq_true rfl, Nat.le_add_right _ _, Nat.le_add_right _ _⟩ dX9_plain_7 (fun r2 c1 h => ?_)
  exact gq_iret (pc := 10) (F := wX G o) rfl dX9_plain_10 h
def wX1_isIn (l0 : Int32) (l1 : Int32) (l2 : Int32) (c : gMem) (Q : Int32 → gMem → Prop) : Prop :=
  ((l0 < l1 →
    Q 0 c) ∧
   (¬ l0 < l1 →
    ((l2 < l0 →
      Q 0 c) ∧
     (¬ l2 < l0 →
      Q 1 c))))
set_option maxRecDepth 100000 in
set_option maxHeartbeats 4000000 in
theorem tX1_isIn {l : Launch} {G : gG} {k : Nat} {o : gMem} {Q : Int32 → gMem → Prop} {l0 : Int32} {l1 : Int32} {l2 : Int32} {c : gMem} (h : wX1_isIn l0 l1 l2 c Q) : Cq l G mX1_isIn 0 0 [.int l0, .int l1, .int l2] 84 k (wX G o c) (qi (wX G o) Q) := by
  refine Cq.of (by decide) (Nat.le_of_ble_eq_true rfl) ?_
  show Go l G mX1_isIn (gbq G 0 0 84 k (qi (wX G o) Q)) 0 [(0, .int l0), (1, .int l1), (2, .int l2)] [] 84 k (wX G o c)
  unfold wX1_isIn at h
  refine go_iload_n (pc := 0) dX1_isIn_0 rfl rfl ?_
  refine go_iload_n (pc := 1) dX1_isIn_1 rfl rfl ?_
  refine go_icmp_lt (pc := 2) (tgt := 14) dX1_isIn_2 (by decide) (fun q1 => ?_) (fun q1 => ?_)
  · have h := h.1 q1
    refine go_iconst (pc := 14) (v := 0) dX1_isIn_14 (by decide) ?_
    exact gq_zret (pc := 15) (F := wX G o) rfl (by decide) dX1_isIn_15 h
  · have h := h.2 q1
    refine go_iload_n (pc := 5) dX1_isIn_5 rfl rfl ?_
    refine go_iload_n (pc := 6) dX1_isIn_6 rfl rfl ?_
    refine go_icmp_gt (pc := 7) (tgt := 14) dX1_isIn_7 (by decide) (fun q2 => ?_) (fun q2 => ?_)
    · have h := h.1 q2
      refine go_iconst (pc := 14) (v := 0) dX1_isIn_14 (by decide) ?_
      exact gq_zret (pc := 15) (F := wX G o) rfl (by decide) dX1_isIn_15 h
    · have h := h.2 q2
      refine go_iconst (pc := 10) (v := 1) dX1_isIn_10 (by decide) ?_
      refine go_goto (pc := 11) (tgt := 15) dX1_isIn_11 (by decide) ?_
      exact gq_zret (pc := 15) (F := wX G o) rfl (by decide) dX1_isIn_15 h
def wX1_firstWrongInForm_p47_b (P47 : Int32 → Int32 → gMem → Prop) (l1 : Int32) (l2 : Int32) (c : gMem) (Q : Int32 → gMem → Prop) : Prop :=
  ∀ v1, v1 = c 70 2 →
  ((v1 ≤ l2 →
    ∀ v3, v3 = c 70 1 →
    ((l1 < v3 →
      c 70 0 = 1 ∧
      vp_in l1 6527 ∧
      ∀ v6, v6 = c 16 l1.toNatClampNeg →
      wX1_isIn v6 0 500 c (fun r9 c8 =>
      ((r9 = 0 →
        Q l1 c8) ∧
       (¬ r9 = 0 →
        ∀ v11, v11 = c8 70 1 →
        c8 70 0 = 1 ∧
        vp_in l1 6527 ∧
        ∀ v13, v13 = c8 16 l1.toNatClampNeg →
        ((v11 = (l1 + v13) + 2 →
          Q ((-1)) c8) ∧
         (¬ v11 = (l1 + v13) + 2 →
          Q l1 c8)))))) ∧
     (¬ l1 < v3 →
      ∀ v16, v16 = c 70 1 →
      Q v16 c))) ∧
   (¬ v1 ≤ l2 →
    ∀ v17, v17 = c 70 1 →
    ((l1 + 5 < v17 →
      c 70 0 = 1 ∧
      vp_in (l1 + 5) 6527 ∧
      ∀ v20, v20 = c 16 (l1 + 5).toNatClampNeg →
      wX1_isIn v20 0 300 c (fun r23 c22 =>
      ((r23 = 0 →
        Q (l1 + 5) c22) ∧
       (¬ r23 = 0 →
        c22 70 0 = 1 ∧
        vp_in (l1 + 5) 6527 ∧
        ∀ v26, v26 = c22 16 (l1 + 5).toNatClampNeg →
        P47 (l1 + (6 + v26)) (l2 + 1) c22)))) ∧
     (¬ l1 + 5 < v17 →
      ∀ v28, v28 = c 70 1 →
      Q v28 c))))
def wX1_firstWrongInForm_p47 (l1 : Int32) (l2 : Int32) (c : gMem) (Q : Int32 → gMem → Prop) : Prop :=
  ∀ P47 : Int32 → Int32 → gMem → Prop, (∀ (l1 : Int32) (l2 : Int32) (c : gMem), wX1_firstWrongInForm_p47_b P47 l1 l2 c Q → P47 l1 l2 c) → P47 l1 l2 c
set_option maxRecDepth 100000 in
set_option maxHeartbeats 4000000 in
theorem tX1_firstWrongInForm_p47_b {l : Launch} {G : gG} {k : Nat} {o : gMem} {Q : Int32 → gMem → Prop} {P47 : Int32 → Int32 → gMem → Prop} (hP47 : ∀ (l1 : Int32) (l2 : Int32) (c : gMem), P47 l1 l2 c → Go l G mX1_firstWrongInForm (gbq G 1 22 84 k (qi (wX G o) Q)) 47 [(0, .ref (G.2.1 + 70)), (1, .int l1), (2, .int l2)] [] 84 k (wX G o c)) {l1 : Int32} {l2 : Int32} {c : gMem} (h : wX1_firstWrongInForm_p47_b P47 l1 l2 c Q) : Go l G mX1_firstWrongInForm (gbq G 1 22 84 k (qi (wX G o) Q)) 47 [(0, .ref (G.2.1 + 70)), (1, .int l1), (2, .int l2)] [] 84 k (wX G o c) := by
  unfold wX1_firstWrongInForm_p47_b at h
  refine go_iload_n (pc := 47) dX1_firstWrongInForm_47 rfl rfl ?_
  refine go_aload_n (pc := 48) dX1_firstWrongInForm_48 rfl rfl ?_
  refine gb_get (pc := 49) fX1_41 rfl (gz_b (by decide)) xw70 rfl dX1_firstWrongInForm_49 (fun v1 ev1 => ?_)
  have h := h v1 ev1
  refine go_icmp_ge (pc := 52) (tgt := 112) dX1_firstWrongInForm_52 (by decide) (fun q2 => ?_) (fun q2 => ?_)
  · have h := h.1 q2
    refine go_iload_n (pc := 112) dX1_firstWrongInForm_112 rfl rfl ?_
    refine go_aload_n (pc := 113) dX1_firstWrongInForm_113 rfl rfl ?_
    refine gb_get (pc := 114) fX1_21 rfl (gz_b (by decide)) xw70 rfl dX1_firstWrongInForm_114 (fun v3 ev3 => ?_)
    have h := h v3 ev3
    refine go_icmp_lt (pc := 117) (tgt := 125) dX1_firstWrongInForm_117 (by decide) (fun q4 => ?_) (fun q4 => ?_)
    · have h := h.1 q4
      refine go_aload_n (pc := 125) dX1_firstWrongInForm_125 rfl rfl ?_
      obtain ⟨b5, h⟩ := h
      refine go_get (pc := 126) fX1_9 rfl (gz_b (by decide)) xw70 rfl dX1_firstWrongInForm_126 ?_
      refine gb_ref (b := G.2.1 + 16) (if_pos b5) ?_
      refine go_iload_n (pc := 129) dX1_firstWrongInForm_129 rfl rfl ?_
      obtain ⟨b7, h⟩ := h
      refine gb_iald (pc := 130) (gz_b (by decide)) xw16 b7 dX1_firstWrongInForm_130 (fun v6 ev6 => ?_)
      have h := h v6 ev6
      refine go_iconst (pc := 131) (v := 0) dX1_firstWrongInForm_131 (by decide) ?_
      refine go_sipush (pc := 132) (v := 500) dX1_firstWrongInForm_132 (by decide) ?_
      refine gq_callS_i (pc := 135) (F := wX G o) sX1_44 rfl (tX1_isIn h) rfl rfl (Nat.le_of_ble_eq_true rfl) ⟨Nat.le_of_ble_eq_true rfl, Nat.le_of_ble_eq_true rfl, Nat.le_add_right _ _, Nat.le_add_right _ _⟩ dX1_firstWrongInForm_135 (fun r9 c8 h => ?_)
      refine go_if_eq (pc := 138) (tgt := 162) dX1_firstWrongInForm_138 (by decide) (fun q10 => ?_) (fun q10 => ?_)
      · have h := h.1 q10
        refine go_iload_n (pc := 162) dX1_firstWrongInForm_162 rfl rfl ?_
        exact gq_iret (pc := 163) (F := wX G o) rfl dX1_firstWrongInForm_163 h
      · have h := h.2 q10
        refine go_aload_n (pc := 141) dX1_firstWrongInForm_141 rfl rfl ?_
        refine gb_get (pc := 142) fX1_21 rfl (gz_b (by decide)) xw70 rfl dX1_firstWrongInForm_142 (fun v11 ev11 => ?_)
        have h := h v11 ev11
        refine go_iload_n (pc := 145) dX1_firstWrongInForm_145 rfl rfl ?_
        refine go_aload_n (pc := 146) dX1_firstWrongInForm_146 rfl rfl ?_
        obtain ⟨b12, h⟩ := h
        refine go_get (pc := 147) fX1_9 rfl (gz_b (by decide)) xw70 rfl dX1_firstWrongInForm_147 ?_
        refine gb_ref (b := G.2.1 + 16) (if_pos b12) ?_
        refine go_iload_n (pc := 150) dX1_firstWrongInForm_150 rfl rfl ?_
        obtain ⟨b14, h⟩ := h
        refine gb_iald (pc := 151) (gz_b (by decide)) xw16 b14 dX1_firstWrongInForm_151 (fun v13 ev13 => ?_)
        have h := h v13 ev13
        refine go_iadd (pc := 152) dX1_firstWrongInForm_152 ?_
        refine go_iconst (pc := 153) (v := 2) dX1_firstWrongInForm_153 (by decide) ?_
        refine go_iadd (pc := 154) dX1_firstWrongInForm_154 ?_
        refine go_icmp_ne (pc := 155) (tgt := 162) dX1_firstWrongInForm_155 (by decide) (fun q15 => ?_) (fun q15 => ?_)
        · have h := h.2 q15
          refine go_iload_n (pc := 162) dX1_firstWrongInForm_162 rfl rfl ?_
          exact gq_iret (pc := 163) (F := wX G o) rfl dX1_firstWrongInForm_163 h
        · have h := h.1 q15
          refine go_iconst (pc := 158) (v := (-1)) dX1_firstWrongInForm_158 (by decide) ?_
          refine go_goto (pc := 159) (tgt := 163) dX1_firstWrongInForm_159 (by decide) ?_
          exact gq_iret (pc := 163) (F := wX G o) rfl dX1_firstWrongInForm_163 h
    · have h := h.2 q4
      refine go_aload_n (pc := 120) dX1_firstWrongInForm_120 rfl rfl ?_
      refine gb_get (pc := 121) fX1_21 rfl (gz_b (by decide)) xw70 rfl dX1_firstWrongInForm_121 (fun v16 ev16 => ?_)
      have h := h v16 ev16
      exact gq_iret (pc := 124) (F := wX G o) rfl dX1_firstWrongInForm_124 h
  · have h := h.2 q2
    refine go_iload_n (pc := 55) dX1_firstWrongInForm_55 rfl rfl ?_
    refine go_iconst (pc := 56) (v := 5) dX1_firstWrongInForm_56 (by decide) ?_
    refine go_iadd (pc := 57) dX1_firstWrongInForm_57 ?_
    refine go_aload_n (pc := 58) dX1_firstWrongInForm_58 rfl rfl ?_
    refine gb_get (pc := 59) fX1_21 rfl (gz_b (by decide)) xw70 rfl dX1_firstWrongInForm_59 (fun v17 ev17 => ?_)
    have h := h v17 ev17
    refine go_icmp_lt (pc := 62) (tgt := 70) dX1_firstWrongInForm_62 (by decide) (fun q18 => ?_) (fun q18 => ?_)
    · have h := h.1 q18
      refine go_aload_n (pc := 70) dX1_firstWrongInForm_70 rfl rfl ?_
      obtain ⟨b19, h⟩ := h
      refine go_get (pc := 71) fX1_9 rfl (gz_b (by decide)) xw70 rfl dX1_firstWrongInForm_71 ?_
      refine gb_ref (b := G.2.1 + 16) (if_pos b19) ?_
      refine go_iload_n (pc := 74) dX1_firstWrongInForm_74 rfl rfl ?_
      refine go_iconst (pc := 75) (v := 5) dX1_firstWrongInForm_75 (by decide) ?_
      refine go_iadd (pc := 76) dX1_firstWrongInForm_76 ?_
      obtain ⟨b21, h⟩ := h
      refine gb_iald (pc := 77) (gz_b (by decide)) xw16 b21 dX1_firstWrongInForm_77 (fun v20 ev20 => ?_)
      have h := h v20 ev20
      refine go_iconst (pc := 78) (v := 0) dX1_firstWrongInForm_78 (by decide) ?_
      refine go_sipush (pc := 79) (v := 300) dX1_firstWrongInForm_79 (by decide) ?_
      refine gq_callS_i (pc := 82) (F := wX G o) sX1_44 rfl (tX1_isIn h) rfl rfl (Nat.le_of_ble_eq_true rfl) ⟨Nat.le_of_ble_eq_true rfl, Nat.le_of_ble_eq_true rfl, Nat.le_add_right _ _, Nat.le_add_right _ _⟩ dX1_firstWrongInForm_82 (fun r23 c22 h => ?_)
      refine go_if_ne (pc := 85) (tgt := 92) dX1_firstWrongInForm_85 (by decide) (fun q24 => ?_) (fun q24 => ?_)
      · have h := h.2 q24
        refine go_iload_n (pc := 92) dX1_firstWrongInForm_92 rfl rfl ?_
        refine go_bipush (pc := 93) (v := 6) dX1_firstWrongInForm_93 (by decide) ?_
        refine go_aload_n (pc := 95) dX1_firstWrongInForm_95 rfl rfl ?_
        obtain ⟨b25, h⟩ := h
        refine go_get (pc := 96) fX1_9 rfl (gz_b (by decide)) xw70 rfl dX1_firstWrongInForm_96 ?_
        refine gb_ref (b := G.2.1 + 16) (if_pos b25) ?_
        refine go_iload_n (pc := 99) dX1_firstWrongInForm_99 rfl rfl ?_
        refine go_iconst (pc := 100) (v := 5) dX1_firstWrongInForm_100 (by decide) ?_
        refine go_iadd (pc := 101) dX1_firstWrongInForm_101 ?_
        obtain ⟨b27, h⟩ := h
        refine gb_iald (pc := 102) (gz_b (by decide)) xw16 b27 dX1_firstWrongInForm_102 (fun v26 ev26 => ?_)
        have h := h v26 ev26
        refine go_iadd (pc := 103) dX1_firstWrongInForm_103 ?_
        refine go_iadd (pc := 104) dX1_firstWrongInForm_104 ?_
        refine go_istore_n (pc := 105) (lv' := [(1, .int (l1 + (6 + v26))), (0, .ref (G.2.1 + 70)), (2, .int l2)]) dX1_firstWrongInForm_105 rfl (by decide) rfl ?_
        refine go_iinc (pc := 106) (v := l2 + 1) (lv' := [(2, .int (l2 + 1)), (1, .int (l1 + (6 + v26))), (0, .ref (G.2.1 + 70))]) dX1_firstWrongInForm_106 2 rfl (by first | rfl | decide) (by decide) rfl ?_
        refine go_goto (pc := 109) (tgt := 47) dX1_firstWrongInForm_109 (by decide) ?_
        refine go_lv [2, 1, 0] rfl ?_
        exact hP47 _ _ _ h
      · have h := h.1 q24
        refine go_iload_n (pc := 88) dX1_firstWrongInForm_88 rfl rfl ?_
        refine go_iconst (pc := 89) (v := 5) dX1_firstWrongInForm_89 (by decide) ?_
        refine go_iadd (pc := 90) dX1_firstWrongInForm_90 ?_
        exact gq_iret (pc := 91) (F := wX G o) rfl dX1_firstWrongInForm_91 h
    · have h := h.2 q18
      refine go_aload_n (pc := 65) dX1_firstWrongInForm_65 rfl rfl ?_
      refine gb_get (pc := 66) fX1_21 rfl (gz_b (by decide)) xw70 rfl dX1_firstWrongInForm_66 (fun v28 ev28 => ?_)
      have h := h v28 ev28
      exact gq_iret (pc := 69) (F := wX G o) rfl dX1_firstWrongInForm_69 h
set_option maxRecDepth 100000 in
set_option maxHeartbeats 4000000 in
theorem tX1_firstWrongInForm_p47 {l : Launch} {G : gG} {k : Nat} {o : gMem} {Q : Int32 → gMem → Prop} {l1 : Int32} {l2 : Int32} {c : gMem} (h : wX1_firstWrongInForm_p47 l1 l2 c Q) : Go l G mX1_firstWrongInForm (gbq G 1 22 84 k (qi (wX G o) Q)) 47 [(0, .ref (G.2.1 + 70)), (1, .int l1), (2, .int l2)] [] 84 k (wX G o c) :=
  h (fun l1 l2 c => Go l G mX1_firstWrongInForm (gbq G 1 22 84 k (qi (wX G o) Q)) 47 [(0, .ref (G.2.1 + 70)), (1, .int l1), (2, .int l2)] [] 84 k (wX G o c)) (fun l1 l2 c hb => tX1_firstWrongInForm_p47_b (fun l1 l2 c hh => hh) hb)
def wX1_firstWrongInForm (c : gMem) (Q : Int32 → gMem → Prop) : Prop :=
  ∀ v1, v1 = c 70 1 →
  ((24 < v1 →
    c 70 0 = 1 ∧
    ∀ v4, v4 = c 16 24 →
    ∀ c5, c5 = mp c 70 2 v4 →
    ∀ v6, v6 = c5 70 2 →
    wX1_isIn v6 0 500 c5 (fun r8 c7 =>
    ((r8 = 0 →
      Q 24 c7) ∧
     (¬ r8 = 0 →
      wX1_firstWrongInForm_p47 25 0 c7 Q)))) ∧
   (¬ 24 < v1 →
    ∀ v10, v10 = c 70 1 →
    Q v10 c))
set_option maxRecDepth 100000 in
set_option maxHeartbeats 4000000 in
theorem tX1_firstWrongInForm {l : Launch} {G : gG} {k : Nat} {o : gMem} {Q : Int32 → gMem → Prop} {c : gMem} (h : wX1_firstWrongInForm c Q) : Cq l G mX1_firstWrongInForm 1 22 [.ref (G.2.1 + 70)] 84 k (wX G o c) (qi (wX G o) Q) := by
  refine Cq.of (by decide) (Nat.le_of_ble_eq_true rfl) ?_
  show Go l G mX1_firstWrongInForm (gbq G 1 22 84 k (qi (wX G o) Q)) 0 [(0, .ref (G.2.1 + 70))] [] 84 k (wX G o c)
  unfold wX1_firstWrongInForm at h
  refine go_aload_n (pc := 0) dX1_firstWrongInForm_0 rfl rfl ?_
  refine gb_get (pc := 1) fX1_21 rfl (gz_b (by decide)) xw70 rfl dX1_firstWrongInForm_1 (fun v1 ev1 => ?_)
  have h := h v1 ev1
  refine go_bipush (pc := 4) (v := 24) dX1_firstWrongInForm_4 (by decide) ?_
  refine go_icmp_gt (pc := 6) (tgt := 14) dX1_firstWrongInForm_6 (by decide) (fun q2 => ?_) (fun q2 => ?_)
  · have h := h.1 q2
    refine go_aload_n (pc := 14) dX1_firstWrongInForm_14 rfl rfl ?_
    refine go_aload_n (pc := 15) dX1_firstWrongInForm_15 rfl rfl ?_
    obtain ⟨b3, h⟩ := h
    refine go_get (pc := 16) fX1_9 rfl (gz_b (by decide)) xw70 rfl dX1_firstWrongInForm_16 ?_
    refine gb_ref (b := G.2.1 + 16) (if_pos b3) ?_
    refine go_bipush (pc := 19) (v := 24) dX1_firstWrongInForm_19 (by decide) ?_
    refine gb_iald (pc := 21) (gz_b (by decide)) xw16 (gv_in (by decide)) dX1_firstWrongInForm_21 (fun v4 ev4 => ?_)
    have h := h v4 ev4
    refine gb_put (pc := 22) (F := wX G o) fX1_41 rfl (gz_b (by decide)) xw70 (Nat.le_of_ble_eq_true rfl) rfl rfl xp70_2 dX1_firstWrongInForm_22 (fun c5 ec5 => ?_)
    have h := h c5 ec5
    refine go_aload_n (pc := 25) dX1_firstWrongInForm_25 rfl rfl ?_
    refine gb_get (pc := 26) fX1_41 rfl (gz_b (by decide)) xw70 rfl dX1_firstWrongInForm_26 (fun v6 ev6 => ?_)
    have h := h v6 ev6
    refine go_iconst (pc := 29) (v := 0) dX1_firstWrongInForm_29 (by decide) ?_
    refine go_sipush (pc := 30) (v := 500) dX1_firstWrongInForm_30 (by decide) ?_
    refine gq_callS_i (pc := 33) (F := wX G o) sX1_44 rfl (tX1_isIn h) rfl rfl (Nat.le_of_ble_eq_true rfl) ⟨Nat.le_of_ble_eq_true rfl, Nat.le_of_ble_eq_true rfl, Nat.le_add_right _ _, Nat.le_add_right _ _⟩ dX1_firstWrongInForm_33 (fun r8 c7 h => ?_)
    refine go_if_ne (pc := 36) (tgt := 42) dX1_firstWrongInForm_36 (by decide) (fun q9 => ?_) (fun q9 => ?_)
    · have h := h.2 q9
      refine go_bipush (pc := 42) (v := 25) dX1_firstWrongInForm_42 (by decide) ?_
      refine go_istore_n (pc := 44) (lv' := [(1, .int 25), (0, .ref (G.2.1 + 70))]) dX1_firstWrongInForm_44 rfl (by decide) rfl ?_
      refine go_iconst (pc := 45) (v := 0) dX1_firstWrongInForm_45 (by decide) ?_
      refine go_istore_n (pc := 46) (lv' := [(2, .int 0), (1, .int 25), (0, .ref (G.2.1 + 70))]) dX1_firstWrongInForm_46 rfl (by decide) rfl ?_
      refine go_lv [2, 1, 0] rfl ?_
      exact tX1_firstWrongInForm_p47 h
    · have h := h.1 q9
      refine go_bipush (pc := 39) (v := 24) dX1_firstWrongInForm_39 (by decide) ?_
      exact gq_iret (pc := 41) (F := wX G o) rfl dX1_firstWrongInForm_41 h
  · have h := h.2 q2
    refine go_aload_n (pc := 9) dX1_firstWrongInForm_9 rfl rfl ?_
    refine gb_get (pc := 10) fX1_21 rfl (gz_b (by decide)) xw70 rfl dX1_firstWrongInForm_10 (fun v10 ev10 => ?_)
    have h := h v10 ev10
    exact gq_iret (pc := 13) (F := wX G o) rfl dX1_firstWrongInForm_13 h
def wX1_noteKept_p56 (P13 : Int32 → Int32 → gMem → Prop) (l1 : Int32) (l2 : Int32) (c : gMem) (Q : gMem → Prop) : Prop :=
  c 70 0 = 1 ∧
  vp_in (l1 + 5) 6527 ∧
  ∀ v2, v2 = c 16 (l1 + 5).toNatClampNeg →
  P13 (l1 + (6 + v2)) (l2 + 1) c
set_option maxRecDepth 100000 in
set_option maxHeartbeats 4000000 in
theorem tX1_noteKept_p56 {l : Launch} {G : gG} {k : Nat} {o : gMem} {Q : gMem → Prop} {P13 : Int32 → Int32 → gMem → Prop} (hP13 : ∀ (l1 : Int32) (l2 : Int32) (c : gMem), P13 l1 l2 c → Go l G mX1_noteKept (gbq G 1 23 84 k (qv (wX G o) Q)) 13 [(0, .ref (G.2.1 + 70)), (1, .int l1), (2, .int l2)] [] 84 k (wX G o c)) {l1 : Int32} {l2 : Int32} {c : gMem} (h : wX1_noteKept_p56 P13 l1 l2 c Q) : Go l G mX1_noteKept (gbq G 1 23 84 k (qv (wX G o) Q)) 56 [(0, .ref (G.2.1 + 70)), (1, .int l1), (2, .int l2)] [] 84 k (wX G o c) := by
  unfold wX1_noteKept_p56 at h
  refine go_iload_n (pc := 56) dX1_noteKept_56 rfl rfl ?_
  refine go_bipush (pc := 57) (v := 6) dX1_noteKept_57 (by decide) ?_
  refine go_aload_n (pc := 59) dX1_noteKept_59 rfl rfl ?_
  obtain ⟨b1, h⟩ := h
  refine go_get (pc := 60) fX1_9 rfl (gz_b (by decide)) xw70 rfl dX1_noteKept_60 ?_
  refine gb_ref (b := G.2.1 + 16) (if_pos b1) ?_
  refine go_iload_n (pc := 63) dX1_noteKept_63 rfl rfl ?_
  refine go_iconst (pc := 64) (v := 5) dX1_noteKept_64 (by decide) ?_
  refine go_iadd (pc := 65) dX1_noteKept_65 ?_
  obtain ⟨b3, h⟩ := h
  refine gb_iald (pc := 66) (gz_b (by decide)) xw16 b3 dX1_noteKept_66 (fun v2 ev2 => ?_)
  have h := h v2 ev2
  refine go_iadd (pc := 67) dX1_noteKept_67 ?_
  refine go_iadd (pc := 68) dX1_noteKept_68 ?_
  refine go_istore_n (pc := 69) (lv' := [(1, .int (l1 + (6 + v2))), (0, .ref (G.2.1 + 70)), (2, .int l2)]) dX1_noteKept_69 rfl (by decide) rfl ?_
  refine go_iinc (pc := 70) (v := l2 + 1) (lv' := [(2, .int (l2 + 1)), (1, .int (l1 + (6 + v2))), (0, .ref (G.2.1 + 70))]) dX1_noteKept_70 2 rfl (by first | rfl | decide) (by decide) rfl ?_
  refine go_goto (pc := 73) (tgt := 13) dX1_noteKept_73 (by decide) ?_
  refine go_lv [2, 1, 0] rfl ?_
  exact hP13 _ _ _ h
def wX1_noteKept_p13_b (P13 : Int32 → Int32 → gMem → Prop) (l1 : Int32) (l2 : Int32) (c : gMem) (Q : gMem → Prop) : Prop :=
  ∀ v1, v1 = c 70 2 →
  ((v1 ≤ l2 →
    Q c) ∧
   (¬ v1 ≤ l2 →
    c 70 0 = 1 ∧
    vp_in l1 6527 ∧
    ∀ v4, v4 = c 16 l1.toNatClampNeg →
    wX1_isIn v4 0 499 c (fun r7 c6 =>
    ((r7 = 0 →
      wX1_noteKept_p56 P13 l1 l2 c6 Q) ∧
     (¬ r7 = 0 →
      vp_in v4 500 ∧
      ∀ v9, v9 = c6 72 v4.toNatClampNeg →
      ((v9 = (-1) →
        vp_in v4 500 ∧
        ∀ c12, c12 = mp c6 72 v4.toNatClampNeg l1 →
        wX1_noteKept_p56 P13 l1 l2 c12 Q) ∧
       (¬ v9 = (-1) →
        wX1_noteKept_p56 P13 l1 l2 c6 Q)))))))
def wX1_noteKept_p13 (l1 : Int32) (l2 : Int32) (c : gMem) (Q : gMem → Prop) : Prop :=
  ∀ P13 : Int32 → Int32 → gMem → Prop, (∀ (l1 : Int32) (l2 : Int32) (c : gMem), wX1_noteKept_p13_b P13 l1 l2 c Q → P13 l1 l2 c) → P13 l1 l2 c
set_option maxRecDepth 100000 in
set_option maxHeartbeats 4000000 in
theorem tX1_noteKept_p13_b {l : Launch} {G : gG} {k : Nat} {o : gMem} {Q : gMem → Prop} {P13 : Int32 → Int32 → gMem → Prop} (hP13 : ∀ (l1 : Int32) (l2 : Int32) (c : gMem), P13 l1 l2 c → Go l G mX1_noteKept (gbq G 1 23 84 k (qv (wX G o) Q)) 13 [(0, .ref (G.2.1 + 70)), (1, .int l1), (2, .int l2)] [] 84 k (wX G o c)) {l1 : Int32} {l2 : Int32} {c : gMem} (h : wX1_noteKept_p13_b P13 l1 l2 c Q) : Go l G mX1_noteKept (gbq G 1 23 84 k (qv (wX G o) Q)) 13 [(0, .ref (G.2.1 + 70)), (1, .int l1), (2, .int l2)] [] 84 k (wX G o c) := by
  unfold wX1_noteKept_p13_b at h
  refine go_iload_n (pc := 13) dX1_noteKept_13 rfl rfl ?_
  refine go_aload_n (pc := 14) dX1_noteKept_14 rfl rfl ?_
  refine gb_get (pc := 15) fX1_41 rfl (gz_b (by decide)) xw70 rfl dX1_noteKept_15 (fun v1 ev1 => ?_)
  have h := h v1 ev1
  refine go_icmp_ge (pc := 18) (tgt := 76) dX1_noteKept_18 (by decide) (fun q2 => ?_) (fun q2 => ?_)
  · have h := h.1 q2
    exact gq_vret (pc := 76) (F := wX G o) rfl dX1_noteKept_76 h
  · have h := h.2 q2
    refine go_aload_n (pc := 21) dX1_noteKept_21 rfl rfl ?_
    obtain ⟨b3, h⟩ := h
    refine go_get (pc := 22) fX1_9 rfl (gz_b (by decide)) xw70 rfl dX1_noteKept_22 ?_
    refine gb_ref (b := G.2.1 + 16) (if_pos b3) ?_
    refine go_iload_n (pc := 25) dX1_noteKept_25 rfl rfl ?_
    obtain ⟨b5, h⟩ := h
    refine gb_iald (pc := 26) (gz_b (by decide)) xw16 b5 dX1_noteKept_26 (fun v4 ev4 => ?_)
    have h := h v4 ev4
    refine go_istore_n (pc := 27) (lv' := [(3, .int v4), (0, .ref (G.2.1 + 70)), (1, .int l1), (2, .int l2)]) dX1_noteKept_27 rfl (by decide) rfl ?_
    refine go_iload_n (pc := 28) dX1_noteKept_28 rfl rfl ?_
    refine go_iconst (pc := 29) (v := 0) dX1_noteKept_29 (by decide) ?_
    refine go_sipush (pc := 30) (v := 499) dX1_noteKept_30 (by decide) ?_
    refine gq_callS_i (pc := 33) (F := wX G o) sX1_44 rfl (tX1_isIn h) rfl rfl (Nat.le_of_ble_eq_true rfl) ⟨Nat.le_of_ble_eq_true rfl, Nat.le_of_ble_eq_true rfl, Nat.le_add_right _ _, Nat.le_add_right _ _⟩ dX1_noteKept_33 (fun r7 c6 h => ?_)
    refine go_if_eq (pc := 36) (tgt := 56) dX1_noteKept_36 (by decide) (fun q8 => ?_) (fun q8 => ?_)
    · have h := h.1 q8
      refine go_lv [1, 2, 3] rfl ?_
      exact tX1_noteKept_p56 hP13 h
    · have h := h.2 q8
      refine go_aload_n (pc := 39) dX1_noteKept_39 rfl rfl ?_
      refine go_get (pc := 40) fX1_15 rfl (gz_b (by decide)) xw70 rfl dX1_noteKept_40 ?_
      refine go_iload_n (pc := 43) dX1_noteKept_43 rfl rfl ?_
      obtain ⟨b10, h⟩ := h
      refine gb_iald (pc := 44) (gz_b (by decide)) xw72 b10 dX1_noteKept_44 (fun v9 ev9 => ?_)
      have h := h v9 ev9
      refine go_iconst (pc := 45) (v := (-1)) dX1_noteKept_45 (by decide) ?_
      refine go_icmp_ne (pc := 46) (tgt := 56) dX1_noteKept_46 (by decide) (fun q11 => ?_) (fun q11 => ?_)
      · have h := h.2 q11
        refine go_lv [1, 2, 3] rfl ?_
        exact tX1_noteKept_p56 hP13 h
      · have h := h.1 q11
        refine go_aload_n (pc := 49) dX1_noteKept_49 rfl rfl ?_
        refine go_get (pc := 50) fX1_15 rfl (gz_b (by decide)) xw70 rfl dX1_noteKept_50 ?_
        refine go_iload_n (pc := 53) dX1_noteKept_53 rfl rfl ?_
        refine go_iload_n (pc := 54) dX1_noteKept_54 rfl rfl ?_
        obtain ⟨b13, h⟩ := h
        refine gb_iast (pc := 55) (F := wX G o) (gz_b (by decide)) xw72 b13 xa72 dX1_noteKept_55 (fun c12 ec12 => ?_)
        have h := h c12 ec12
        refine go_lv [1, 2, 3] rfl ?_
        exact tX1_noteKept_p56 hP13 h
set_option maxRecDepth 100000 in
set_option maxHeartbeats 4000000 in
theorem tX1_noteKept_p13 {l : Launch} {G : gG} {k : Nat} {o : gMem} {Q : gMem → Prop} {l1 : Int32} {l2 : Int32} {c : gMem} (h : wX1_noteKept_p13 l1 l2 c Q) : Go l G mX1_noteKept (gbq G 1 23 84 k (qv (wX G o) Q)) 13 [(0, .ref (G.2.1 + 70)), (1, .int l1), (2, .int l2)] [] 84 k (wX G o c) :=
  h (fun l1 l2 c => Go l G mX1_noteKept (gbq G 1 23 84 k (qv (wX G o) Q)) 13 [(0, .ref (G.2.1 + 70)), (1, .int l1), (2, .int l2)] [] 84 k (wX G o c)) (fun l1 l2 c hb => tX1_noteKept_p13_b (fun l1 l2 c hh => hh) hb)
def wX1_noteKept (c : gMem) (Q : gMem → Prop) : Prop :=
  ∀ c1, c1 = mr c 72 (fun _ => (-1)) →
  wX1_noteKept_p13 25 0 c1 Q
set_option maxRecDepth 100000 in
set_option maxHeartbeats 4000000 in
theorem tX1_noteKept {l : Launch} {G : gG} {k : Nat} {o : gMem} {Q : gMem → Prop} {c : gMem} (h : wX1_noteKept c Q) : Cq l G mX1_noteKept 1 23 [.ref (G.2.1 + 70)] 84 k (wX G o c) (qv (wX G o) Q) := by
  refine Cq.of (by decide) (Nat.le_of_ble_eq_true rfl) ?_
  show Go l G mX1_noteKept (gbq G 1 23 84 k (qv (wX G o) Q)) 0 [(0, .ref (G.2.1 + 70))] [] 84 k (wX G o c)
  unfold wX1_noteKept at h
  refine go_aload_n (pc := 0) dX1_noteKept_0 rfl rfl ?_
  refine go_get (pc := 1) fX1_15 rfl (gz_b (by decide)) xw70 rfl dX1_noteKept_1 ?_
  refine go_iconst (pc := 4) (v := (-1)) dX1_noteKept_4 (by decide) ?_
  refine gq_callS_v (pc := 5) (F := wX G o) (Q := fun q => q = mr c 72 (fun _ => (-1))) sX1_48 rfl (cq_fill (by decide) (gz_b (by decide)) xw72 xa72 rfl) rfl rfl (Nat.le_of_ble_eq_true rfl) ⟨Nat.le_of_ble_eq_true rfl, Nat.le_of_ble_eq_true rfl, Nat.le_add_right _ _, Nat.le_add_right _ _⟩ dX1_noteKept_5 (fun c1 ec1 => ?_)
  have h := h c1 ec1
  refine go_bipush (pc := 8) (v := 25) dX1_noteKept_8 (by decide) ?_
  refine go_istore_n (pc := 10) (lv' := [(1, .int 25), (0, .ref (G.2.1 + 70))]) dX1_noteKept_10 rfl (by decide) rfl ?_
  refine go_iconst (pc := 11) (v := 0) dX1_noteKept_11 (by decide) ?_
  refine go_istore_n (pc := 12) (lv' := [(2, .int 0), (1, .int 25), (0, .ref (G.2.1 + 70))]) dX1_noteKept_12 rfl (by decide) rfl ?_
  refine go_lv [2, 1, 0] rfl ?_
  exact tX1_noteKept_p13 h
def wX1_isKept (l1 : Int32) (c : gMem) (Q : Int32 → gMem → Prop) : Prop :=
  wX1_isIn l1 0 499 c (fun r2 c1 =>
  ((r2 = 0 →
    Q 0 c1) ∧
   (¬ r2 = 0 →
    vp_in l1 500 ∧
    ∀ v4, v4 = c1 72 l1.toNatClampNeg →
    ((v4 = (-1) →
      Q 0 c1) ∧
     (¬ v4 = (-1) →
      Q 1 c1)))))
set_option maxRecDepth 100000 in
set_option maxHeartbeats 4000000 in
theorem tX1_isKept {l : Launch} {G : gG} {k : Nat} {o : gMem} {Q : Int32 → gMem → Prop} {l1 : Int32} {c : gMem} (h : wX1_isKept l1 c Q) : Cq l G mX1_isKept 1 22 [.ref (G.2.1 + 70), .int l1] 84 k (wX G o c) (qi (wX G o) Q) := by
  refine Cq.of (by decide) (Nat.le_of_ble_eq_true rfl) ?_
  show Go l G mX1_isKept (gbq G 1 22 84 k (qi (wX G o) Q)) 0 [(0, .ref (G.2.1 + 70)), (1, .int l1)] [] 84 k (wX G o c)
  unfold wX1_isKept at h
  refine go_iload_n (pc := 0) dX1_isKept_0 rfl rfl ?_
  refine go_iconst (pc := 1) (v := 0) dX1_isKept_1 (by decide) ?_
  refine go_sipush (pc := 2) (v := 499) dX1_isKept_2 (by decide) ?_
  refine gq_callS_i (pc := 5) (F := wX G o) sX1_44 rfl (tX1_isIn h) rfl rfl (Nat.le_of_ble_eq_true rfl) ⟨Nat.le_of_ble_eq_true rfl, Nat.le_of_ble_eq_true rfl, Nat.le_add_right _ _, Nat.le_add_right _ _⟩ dX1_isKept_5 (fun r2 c1 h => ?_)
  refine go_if_eq (pc := 8) (tgt := 25) dX1_isKept_8 (by decide) (fun q3 => ?_) (fun q3 => ?_)
  · have h := h.1 q3
    refine go_iconst (pc := 25) (v := 0) dX1_isKept_25 (by decide) ?_
    exact gq_zret (pc := 26) (F := wX G o) rfl (by decide) dX1_isKept_26 h
  · have h := h.2 q3
    refine go_aload_n (pc := 11) dX1_isKept_11 rfl rfl ?_
    refine go_get (pc := 12) fX1_15 rfl (gz_b (by decide)) xw70 rfl dX1_isKept_12 ?_
    refine go_iload_n (pc := 15) dX1_isKept_15 rfl rfl ?_
    obtain ⟨b5, h⟩ := h
    refine gb_iald (pc := 16) (gz_b (by decide)) xw72 b5 dX1_isKept_16 (fun v4 ev4 => ?_)
    have h := h v4 ev4
    refine go_iconst (pc := 17) (v := (-1)) dX1_isKept_17 (by decide) ?_
    refine go_icmp_eq (pc := 18) (tgt := 25) dX1_isKept_18 (by decide) (fun q6 => ?_) (fun q6 => ?_)
    · have h := h.1 q6
      refine go_iconst (pc := 25) (v := 0) dX1_isKept_25 (by decide) ?_
      exact gq_zret (pc := 26) (F := wX G o) rfl (by decide) dX1_isKept_26 h
    · have h := h.2 q6
      refine go_iconst (pc := 21) (v := 1) dX1_isKept_21 (by decide) ?_
      refine go_goto (pc := 22) (tgt := 26) dX1_isKept_22 (by decide) ?_
      exact gq_zret (pc := 26) (F := wX G o) rfl (by decide) dX1_isKept_26 h
def wX1_firstWrongLink_p32 (P2 : Int32 → Int32 → gMem → Prop) (l2 : Int32) (l3 : Int32) (c : gMem) (Q : Int32 → gMem → Prop) : Prop :=
  P2 l2 (l3 + 1) c
set_option maxRecDepth 100000 in
set_option maxHeartbeats 4000000 in
theorem tX1_firstWrongLink_p32 {l : Launch} {G : gG} {k : Nat} {o : gMem} {Q : Int32 → gMem → Prop} {P2 : Int32 → Int32 → gMem → Prop} (hP2 : ∀ (l2 : Int32) (l3 : Int32) (c : gMem), P2 l2 l3 c → Go l G mX1_firstWrongLink (gbq G 2 43 84 k (qi (wX G o) Q)) 2 [(0, .ref (G.2.1 + 70)), (2, .int l2), (3, .int l3)] [] 84 k (wX G o c)) {l2 : Int32} {l3 : Int32} {c : gMem} (h : wX1_firstWrongLink_p32 P2 l2 l3 c Q) : Go l G mX1_firstWrongLink (gbq G 2 43 84 k (qi (wX G o) Q)) 32 [(0, .ref (G.2.1 + 70)), (2, .int l2), (3, .int l3)] [] 84 k (wX G o c) := by
  unfold wX1_firstWrongLink_p32 at h
  refine go_iinc (pc := 32) (v := l3 + 1) (lv' := [(3, .int (l3 + 1)), (0, .ref (G.2.1 + 70)), (2, .int l2)]) dX1_firstWrongLink_32 2 rfl (by first | rfl | decide) (by decide) rfl ?_
  refine go_goto (pc := 35) (tgt := 2) dX1_firstWrongLink_35 (by decide) ?_
  refine go_lv [1, 2, 0] rfl ?_
  exact hP2 _ _ _ h
def wX1_firstWrongLink_p2_b (P2 : Int32 → Int32 → gMem → Prop) (l2 : Int32) (l3 : Int32) (c : gMem) (Q : Int32 → gMem → Prop) : Prop :=
  ((l2 ≤ l3 →
    Q ((-1)) c) ∧
   (¬ l2 ≤ l3 →
    c 70 0 = 1 ∧
    vp_in l3 6527 ∧
    ∀ v3, v3 = c 16 l3.toNatClampNeg →
    ((v3 = (-1) →
      wX1_firstWrongLink_p32 P2 l2 l3 c Q) ∧
     (¬ v3 = (-1) →
      c 70 0 = 1 ∧
      vp_in l3 6527 ∧
      ∀ v7, v7 = c 16 l3.toNatClampNeg →
      wX1_isKept v7 c (fun r10 c9 =>
      ((r10 = 0 →
        Q l3 c9) ∧
       (¬ r10 = 0 →
        wX1_firstWrongLink_p32 P2 l2 l3 c9 Q)))))))
def wX1_firstWrongLink_p2 (l2 : Int32) (l3 : Int32) (c : gMem) (Q : Int32 → gMem → Prop) : Prop :=
  ∀ P2 : Int32 → Int32 → gMem → Prop, (∀ (l2 : Int32) (l3 : Int32) (c : gMem), wX1_firstWrongLink_p2_b P2 l2 l3 c Q → P2 l2 l3 c) → P2 l2 l3 c
set_option maxRecDepth 100000 in
set_option maxHeartbeats 4000000 in
theorem tX1_firstWrongLink_p2_b {l : Launch} {G : gG} {k : Nat} {o : gMem} {Q : Int32 → gMem → Prop} {P2 : Int32 → Int32 → gMem → Prop} (hP2 : ∀ (l2 : Int32) (l3 : Int32) (c : gMem), P2 l2 l3 c → Go l G mX1_firstWrongLink (gbq G 2 43 84 k (qi (wX G o) Q)) 2 [(0, .ref (G.2.1 + 70)), (2, .int l2), (3, .int l3)] [] 84 k (wX G o c)) {l2 : Int32} {l3 : Int32} {c : gMem} (h : wX1_firstWrongLink_p2_b P2 l2 l3 c Q) : Go l G mX1_firstWrongLink (gbq G 2 43 84 k (qi (wX G o) Q)) 2 [(0, .ref (G.2.1 + 70)), (2, .int l2), (3, .int l3)] [] 84 k (wX G o c) := by
  unfold wX1_firstWrongLink_p2_b at h
  refine go_iload_n (pc := 2) dX1_firstWrongLink_2 rfl rfl ?_
  refine go_iload_n (pc := 3) dX1_firstWrongLink_3 rfl rfl ?_
  refine go_icmp_ge (pc := 4) (tgt := 38) dX1_firstWrongLink_4 (by decide) (fun q1 => ?_) (fun q1 => ?_)
  · have h := h.1 q1
    refine go_iconst (pc := 38) (v := (-1)) dX1_firstWrongLink_38 (by decide) ?_
    exact gq_iret (pc := 39) (F := wX G o) rfl dX1_firstWrongLink_39 h
  · have h := h.2 q1
    refine go_aload_n (pc := 7) dX1_firstWrongLink_7 rfl rfl ?_
    obtain ⟨b2, h⟩ := h
    refine go_get (pc := 8) fX1_9 rfl (gz_b (by decide)) xw70 rfl dX1_firstWrongLink_8 ?_
    refine gb_ref (b := G.2.1 + 16) (if_pos b2) ?_
    refine go_iload_n (pc := 11) dX1_firstWrongLink_11 rfl rfl ?_
    obtain ⟨b4, h⟩ := h
    refine gb_iald (pc := 12) (gz_b (by decide)) xw16 b4 dX1_firstWrongLink_12 (fun v3 ev3 => ?_)
    have h := h v3 ev3
    refine go_iconst (pc := 13) (v := (-1)) dX1_firstWrongLink_13 (by decide) ?_
    refine go_icmp_eq (pc := 14) (tgt := 32) dX1_firstWrongLink_14 (by decide) (fun q5 => ?_) (fun q5 => ?_)
    · have h := h.1 q5
      refine go_lv [0, 1, 2] rfl ?_
      exact tX1_firstWrongLink_p32 hP2 h
    · have h := h.2 q5
      refine go_aload_n (pc := 17) dX1_firstWrongLink_17 rfl rfl ?_
      refine go_aload_n (pc := 18) dX1_firstWrongLink_18 rfl rfl ?_
      obtain ⟨b6, h⟩ := h
      refine go_get (pc := 19) fX1_9 rfl (gz_b (by decide)) xw70 rfl dX1_firstWrongLink_19 ?_
      refine gb_ref (b := G.2.1 + 16) (if_pos b6) ?_
      refine go_iload_n (pc := 22) dX1_firstWrongLink_22 rfl rfl ?_
      obtain ⟨b8, h⟩ := h
      refine gb_iald (pc := 23) (gz_b (by decide)) xw16 b8 dX1_firstWrongLink_23 (fun v7 ev7 => ?_)
      have h := h v7 ev7
      refine gq_callV_i (pc := 24) (F := wX G o) vX1_54 rfl (tX1_isKept h) rfl rfl (gz_b (by decide)) xw70 rfl (Nat.le_of_ble_eq_true rfl) ⟨Nat.le_of_ble_eq_true rfl, Nat.le_of_ble_eq_true rfl, Nat.le_add_right _ _, Nat.le_add_right _ _⟩ dX1_firstWrongLink_24 (fun r10 c9 h => ?_)
      refine go_if_ne (pc := 27) (tgt := 32) dX1_firstWrongLink_27 (by decide) (fun q11 => ?_) (fun q11 => ?_)
      · have h := h.2 q11
        refine go_lv [0, 1, 2] rfl ?_
        exact tX1_firstWrongLink_p32 hP2 h
      · have h := h.1 q11
        refine go_iload_n (pc := 30) dX1_firstWrongLink_30 rfl rfl ?_
        exact gq_iret (pc := 31) (F := wX G o) rfl dX1_firstWrongLink_31 h
set_option maxRecDepth 100000 in
set_option maxHeartbeats 4000000 in
theorem tX1_firstWrongLink_p2 {l : Launch} {G : gG} {k : Nat} {o : gMem} {Q : Int32 → gMem → Prop} {l2 : Int32} {l3 : Int32} {c : gMem} (h : wX1_firstWrongLink_p2 l2 l3 c Q) : Go l G mX1_firstWrongLink (gbq G 2 43 84 k (qi (wX G o) Q)) 2 [(0, .ref (G.2.1 + 70)), (2, .int l2), (3, .int l3)] [] 84 k (wX G o c) :=
  h (fun l2 l3 c => Go l G mX1_firstWrongLink (gbq G 2 43 84 k (qi (wX G o) Q)) 2 [(0, .ref (G.2.1 + 70)), (2, .int l2), (3, .int l3)] [] 84 k (wX G o c)) (fun l2 l3 c hb => tX1_firstWrongLink_p2_b (fun l2 l3 c hh => hh) hb)
def wX1_firstWrongLink (l1 : Int32) (l2 : Int32) (c : gMem) (Q : Int32 → gMem → Prop) : Prop :=
  wX1_firstWrongLink_p2 l2 l1 c Q
set_option maxRecDepth 100000 in
set_option maxHeartbeats 4000000 in
theorem tX1_firstWrongLink {l : Launch} {G : gG} {k : Nat} {o : gMem} {Q : Int32 → gMem → Prop} {l1 : Int32} {l2 : Int32} {c : gMem} (h : wX1_firstWrongLink l1 l2 c Q) : Cq l G mX1_firstWrongLink 2 43 [.ref (G.2.1 + 70), .int l1, .int l2] 84 k (wX G o c) (qi (wX G o) Q) := by
  refine Cq.of (by decide) (Nat.le_of_ble_eq_true rfl) ?_
  show Go l G mX1_firstWrongLink (gbq G 2 43 84 k (qi (wX G o) Q)) 0 [(0, .ref (G.2.1 + 70)), (1, .int l1), (2, .int l2)] [] 84 k (wX G o c)
  unfold wX1_firstWrongLink at h
  refine go_iload_n (pc := 0) dX1_firstWrongLink_0 rfl rfl ?_
  refine go_istore_n (pc := 1) (lv' := [(3, .int l1), (0, .ref (G.2.1 + 70)), (1, .int l1), (2, .int l2)]) dX1_firstWrongLink_1 rfl (by decide) rfl ?_
  refine go_lv [1, 3, 0] rfl ?_
  exact tX1_firstWrongLink_p2 h
def wX1_firstWrongGivenBack_p6_b (P6 : Int32 → Int32 → gMem → Prop) (l2 : Int32) (l3 : Int32) (c : gMem) (Q : Int32 → gMem → Prop) : Prop :=
  ∀ v1, v1 = c 70 1 →
  ((v1 - 1 ≤ l3 →
    Q ((-1)) c) ∧
   (¬ v1 - 1 ≤ l3 →
    c 70 0 = 1 ∧
    vp_in l3 6527 ∧
    ∀ v4, v4 = c 16 l3.toNatClampNeg →
    ((v4 ≤ l2 →
      Q l3 c) ∧
     (¬ v4 ≤ l2 →
      ((500 ≤ v4 →
        Q l3 c) ∧
       (¬ 500 ≤ v4 →
        wX1_isKept v4 c (fun r9 c8 =>
        ((r9 = 0 →
          P6 v4 (l3 + 1) c8) ∧
         (¬ r9 = 0 →
          Q l3 c8)))))))))
def wX1_firstWrongGivenBack_p6 (l2 : Int32) (l3 : Int32) (c : gMem) (Q : Int32 → gMem → Prop) : Prop :=
  ∀ P6 : Int32 → Int32 → gMem → Prop, (∀ (l2 : Int32) (l3 : Int32) (c : gMem), wX1_firstWrongGivenBack_p6_b P6 l2 l3 c Q → P6 l2 l3 c) → P6 l2 l3 c
set_option maxRecDepth 100000 in
set_option maxHeartbeats 4000000 in
theorem tX1_firstWrongGivenBack_p6_b {l : Launch} {G : gG} {k : Nat} {o : gMem} {Q : Int32 → gMem → Prop} {P6 : Int32 → Int32 → gMem → Prop} (hP6 : ∀ (l2 : Int32) (l3 : Int32) (c : gMem), P6 l2 l3 c → Go l G mX1_firstWrongGivenBack (gbq G 2 43 84 k (qi (wX G o) Q)) 6 [(0, .ref (G.2.1 + 70)), (2, .int l2), (3, .int l3)] [] 84 k (wX G o c)) {l2 : Int32} {l3 : Int32} {c : gMem} (h : wX1_firstWrongGivenBack_p6_b P6 l2 l3 c Q) : Go l G mX1_firstWrongGivenBack (gbq G 2 43 84 k (qi (wX G o) Q)) 6 [(0, .ref (G.2.1 + 70)), (2, .int l2), (3, .int l3)] [] 84 k (wX G o c) := by
  unfold wX1_firstWrongGivenBack_p6_b at h
  refine go_iload_n (pc := 6) dX1_firstWrongGivenBack_6 rfl rfl ?_
  refine go_aload_n (pc := 7) dX1_firstWrongGivenBack_7 rfl rfl ?_
  refine gb_get (pc := 8) fX1_21 rfl (gz_b (by decide)) xw70 rfl dX1_firstWrongGivenBack_8 (fun v1 ev1 => ?_)
  have h := h v1 ev1
  refine go_iconst (pc := 11) (v := 1) dX1_firstWrongGivenBack_11 (by decide) ?_
  refine go_isub (pc := 12) dX1_firstWrongGivenBack_12 ?_
  refine go_icmp_ge (pc := 13) (tgt := 58) dX1_firstWrongGivenBack_13 (by decide) (fun q2 => ?_) (fun q2 => ?_)
  · have h := h.1 q2
    refine go_iconst (pc := 58) (v := (-1)) dX1_firstWrongGivenBack_58 (by decide) ?_
    exact gq_iret (pc := 59) (F := wX G o) rfl dX1_firstWrongGivenBack_59 h
  · have h := h.2 q2
    refine go_aload_n (pc := 16) dX1_firstWrongGivenBack_16 rfl rfl ?_
    obtain ⟨b3, h⟩ := h
    refine go_get (pc := 17) fX1_9 rfl (gz_b (by decide)) xw70 rfl dX1_firstWrongGivenBack_17 ?_
    refine gb_ref (b := G.2.1 + 16) (if_pos b3) ?_
    refine go_iload_n (pc := 20) dX1_firstWrongGivenBack_20 rfl rfl ?_
    obtain ⟨b5, h⟩ := h
    refine gb_iald (pc := 21) (gz_b (by decide)) xw16 b5 dX1_firstWrongGivenBack_21 (fun v4 ev4 => ?_)
    have h := h v4 ev4
    refine go_istore (pc := 22) (lv' := [(4, .int v4), (0, .ref (G.2.1 + 70)), (2, .int l2), (3, .int l3)]) dX1_firstWrongGivenBack_22 (by decide) rfl ?_
    refine go_iload (pc := 24) dX1_firstWrongGivenBack_24 rfl ?_
    refine go_iload_n (pc := 26) dX1_firstWrongGivenBack_26 rfl rfl ?_
    refine go_icmp_le (pc := 27) (tgt := 47) dX1_firstWrongGivenBack_27 (by decide) (fun q6 => ?_) (fun q6 => ?_)
    · have h := h.1 q6
      refine go_iload_n (pc := 47) dX1_firstWrongGivenBack_47 rfl rfl ?_
      exact gq_iret (pc := 48) (F := wX G o) rfl dX1_firstWrongGivenBack_48 h
    · have h := h.2 q6
      refine go_iload (pc := 30) dX1_firstWrongGivenBack_30 rfl ?_
      refine go_sipush (pc := 32) (v := 500) dX1_firstWrongGivenBack_32 (by decide) ?_
      refine go_icmp_ge (pc := 35) (tgt := 47) dX1_firstWrongGivenBack_35 (by decide) (fun q7 => ?_) (fun q7 => ?_)
      · have h := h.1 q7
        refine go_iload_n (pc := 47) dX1_firstWrongGivenBack_47 rfl rfl ?_
        exact gq_iret (pc := 48) (F := wX G o) rfl dX1_firstWrongGivenBack_48 h
      · have h := h.2 q7
        refine go_aload_n (pc := 38) dX1_firstWrongGivenBack_38 rfl rfl ?_
        refine go_iload (pc := 39) dX1_firstWrongGivenBack_39 rfl ?_
        refine gq_callV_i (pc := 41) (F := wX G o) vX1_54 rfl (tX1_isKept h) rfl rfl (gz_b (by decide)) xw70 rfl (Nat.le_of_ble_eq_true rfl) ⟨Nat.le_of_ble_eq_true rfl, Nat.le_of_ble_eq_true rfl, Nat.le_add_right _ _, Nat.le_add_right _ _⟩ dX1_firstWrongGivenBack_41 (fun r9 c8 h => ?_)
        refine go_if_eq (pc := 44) (tgt := 49) dX1_firstWrongGivenBack_44 (by decide) (fun q10 => ?_) (fun q10 => ?_)
        · have h := h.1 q10
          refine go_iload (pc := 49) dX1_firstWrongGivenBack_49 rfl ?_
          refine go_istore_n (pc := 51) (lv' := [(2, .int v4), (4, .int v4), (0, .ref (G.2.1 + 70)), (3, .int l3)]) dX1_firstWrongGivenBack_51 rfl (by decide) rfl ?_
          refine go_iinc (pc := 52) (v := l3 + 1) (lv' := [(3, .int (l3 + 1)), (2, .int v4), (4, .int v4), (0, .ref (G.2.1 + 70))]) dX1_firstWrongGivenBack_52 3 rfl (by first | rfl | decide) (by decide) rfl ?_
          refine go_goto (pc := 55) (tgt := 6) dX1_firstWrongGivenBack_55 (by decide) ?_
          refine go_lv [3, 1, 0] rfl ?_
          exact hP6 _ _ _ h
        · have h := h.2 q10
          refine go_iload_n (pc := 47) dX1_firstWrongGivenBack_47 rfl rfl ?_
          exact gq_iret (pc := 48) (F := wX G o) rfl dX1_firstWrongGivenBack_48 h
set_option maxRecDepth 100000 in
set_option maxHeartbeats 4000000 in
theorem tX1_firstWrongGivenBack_p6 {l : Launch} {G : gG} {k : Nat} {o : gMem} {Q : Int32 → gMem → Prop} {l2 : Int32} {l3 : Int32} {c : gMem} (h : wX1_firstWrongGivenBack_p6 l2 l3 c Q) : Go l G mX1_firstWrongGivenBack (gbq G 2 43 84 k (qi (wX G o) Q)) 6 [(0, .ref (G.2.1 + 70)), (2, .int l2), (3, .int l3)] [] 84 k (wX G o c) :=
  h (fun l2 l3 c => Go l G mX1_firstWrongGivenBack (gbq G 2 43 84 k (qi (wX G o) Q)) 6 [(0, .ref (G.2.1 + 70)), (2, .int l2), (3, .int l3)] [] 84 k (wX G o c)) (fun l2 l3 c hb => tX1_firstWrongGivenBack_p6_b (fun l2 l3 c hh => hh) hb)
def wX1_firstWrongGivenBack (l1 : Int32) (c : gMem) (Q : Int32 → gMem → Prop) : Prop :=
  wX1_firstWrongGivenBack_p6 ((-1)) (l1 + 1) c Q
set_option maxRecDepth 100000 in
set_option maxHeartbeats 4000000 in
theorem tX1_firstWrongGivenBack {l : Launch} {G : gG} {k : Nat} {o : gMem} {Q : Int32 → gMem → Prop} {l1 : Int32} {c : gMem} (h : wX1_firstWrongGivenBack l1 c Q) : Cq l G mX1_firstWrongGivenBack 2 43 [.ref (G.2.1 + 70), .int l1] 84 k (wX G o c) (qi (wX G o) Q) := by
  refine Cq.of (by decide) (Nat.le_of_ble_eq_true rfl) ?_
  show Go l G mX1_firstWrongGivenBack (gbq G 2 43 84 k (qi (wX G o) Q)) 0 [(0, .ref (G.2.1 + 70)), (1, .int l1)] [] 84 k (wX G o c)
  unfold wX1_firstWrongGivenBack at h
  refine go_iconst (pc := 0) (v := (-1)) dX1_firstWrongGivenBack_0 (by decide) ?_
  refine go_istore_n (pc := 1) (lv' := [(2, .int ((-1))), (0, .ref (G.2.1 + 70)), (1, .int l1)]) dX1_firstWrongGivenBack_1 rfl (by decide) rfl ?_
  refine go_iload_n (pc := 2) dX1_firstWrongGivenBack_2 rfl rfl ?_
  refine go_iconst (pc := 3) (v := 1) dX1_firstWrongGivenBack_3 (by decide) ?_
  refine go_iadd (pc := 4) dX1_firstWrongGivenBack_4 ?_
  refine go_istore_n (pc := 5) (lv' := [(3, .int (l1 + 1)), (2, .int ((-1))), (0, .ref (G.2.1 + 70)), (1, .int l1)]) dX1_firstWrongGivenBack_5 rfl (by decide) rfl ?_
  refine go_lv [2, 1, 0] rfl ?_
  exact tX1_firstWrongGivenBack_p6 h
def wX1_isFirstRight_p74 (l2 : Int32) (c : gMem) (Q : Int32 → gMem → Prop) : Prop :=
  wX1_isIn l2 0 499 c (fun r2 c1 =>
  (r2 = 0 ∨ r2 = 1) ∧ Q r2 c1)
set_option maxRecDepth 100000 in
set_option maxHeartbeats 4000000 in
theorem tX1_isFirstRight_p74 {l : Launch} {G : gG} {k : Nat} {o : gMem} {Q : Int32 → gMem → Prop} {l2 : Int32} {c : gMem} (h : wX1_isFirstRight_p74 l2 c Q) : Go l G mX1_isFirstRight (gbq G 2 43 84 k (qi (wX G o) Q)) 74 [(2, .int l2)] [] 84 k (wX G o c) := by
  unfold wX1_isFirstRight_p74 at h
  refine go_iload_n (pc := 74) dX1_isFirstRight_74 rfl rfl ?_
  refine go_iconst (pc := 75) (v := 0) dX1_isFirstRight_75 (by decide) ?_
  refine go_sipush (pc := 76) (v := 499) dX1_isFirstRight_76 (by decide) ?_
  refine gq_callS_i (pc := 79) (F := wX G o) sX1_44 rfl (tX1_isIn h) rfl rfl (Nat.le_of_ble_eq_true rfl) ⟨Nat.le_of_ble_eq_true rfl, Nat.le_of_ble_eq_true rfl, Nat.le_add_right _ _, Nat.le_add_right _ _⟩ dX1_isFirstRight_79 (fun r2 c1 h => ?_)
  exact gq_zret (pc := 82) (F := wX G o) rfl h.1 dX1_isFirstRight_82 h.2
def wX1_isFirstRight (l1 : Int32) (l2 : Int32) (c : gMem) (Q : Int32 → gMem → Prop) : Prop :=
  ((l1.toInt < 0 ∨ 5 < l1.toInt →
    wX1_isFirstRight_p74 l2 c Q) ∧
   (l1 = 0 →
    wX1_isIn l2 0 23 c (fun r3 c2 =>
    (r3 = 0 ∨ r3 = 1) ∧ Q r3 c2)) ∧
   (l1 = 1 →
    wX1_isKept l2 c (fun r5 c4 =>
    (r5 = 0 ∨ r5 = 1) ∧ Q r5 c4)) ∧
   (l1 = 2 →
    wX1_isFirstRight_p74 l2 c Q) ∧
   (l1 = 3 →
    wX1_isIn l2 ((-1)) 499 c (fun r7 c6 =>
    (r7 = 0 ∨ r7 = 1) ∧ Q r7 c6)) ∧
   (l1 = 4 →
    wX1_isFirstRight_p74 l2 c Q) ∧
   (l1 = 5 →
    ((l2 = (-1) →
      Q 1 c) ∧
     (¬ l2 = (-1) →
      Q 0 c))))
set_option maxRecDepth 100000 in
set_option maxHeartbeats 4000000 in
theorem tX1_isFirstRight {l : Launch} {G : gG} {k : Nat} {o : gMem} {Q : Int32 → gMem → Prop} {l1 : Int32} {l2 : Int32} {c : gMem} (h : wX1_isFirstRight l1 l2 c Q) : Cq l G mX1_isFirstRight 2 43 [.ref (G.2.1 + 70), .int l1, .int l2] 84 k (wX G o c) (qi (wX G o) Q) := by
  refine Cq.of (by decide) (Nat.le_of_ble_eq_true rfl) ?_
  show Go l G mX1_isFirstRight (gbq G 2 43 84 k (qi (wX G o) Q)) 0 [(0, .ref (G.2.1 + 70)), (1, .int l1), (2, .int l2)] [] 84 k (wX G o c)
  unfold wX1_isFirstRight at h
  refine go_iload_n (pc := 0) dX1_isFirstRight_0 rfl rfl ?_
  by_cases q1 : l1.toInt < 0 ∨ 5 < l1.toInt
  · refine go_tableOut (pc := 1) (tgt := 74) dX1_isFirstRight_1 q1 (by decide) ?_
    have h := h.1 q1
    refine go_lv [2] rfl ?_
    exact tX1_isFirstRight_p74 h
  have q1a : l1.toInt = 0 ∨ l1.toInt = 1 ∨ l1.toInt = 2 ∨ l1.toInt = 3 ∨ l1.toInt = 4 ∨ l1.toInt = 5 := by omega
  rcases q1a with q1b | q1b | q1b | q1b | q1b | q1b
  · have q1c : l1 = 0 := gt_eq q1b _ (by decide)
    refine go_tableIn (pc := 1) (off := 39) (tgt := 40) dX1_isFirstRight_1 (by rw [q1b]; decide) (by rw [q1b]; decide) (by rw [q1b]; rfl) (by decide) ?_
    have h := h.2.1 q1c
    refine go_iload_n (pc := 40) dX1_isFirstRight_40 rfl rfl ?_
    refine go_iconst (pc := 41) (v := 0) dX1_isFirstRight_41 (by decide) ?_
    refine go_bipush (pc := 42) (v := 23) dX1_isFirstRight_42 (by decide) ?_
    refine gq_callS_i (pc := 44) (F := wX G o) sX1_44 rfl (tX1_isIn h) rfl rfl (Nat.le_of_ble_eq_true rfl) ⟨Nat.le_of_ble_eq_true rfl, Nat.le_of_ble_eq_true rfl, Nat.le_add_right _ _, Nat.le_add_right _ _⟩ dX1_isFirstRight_44 (fun r3 c2 h => ?_)
    exact gq_zret (pc := 47) (F := wX G o) rfl h.1 dX1_isFirstRight_47 h.2
  · have q1c : l1 = 1 := gt_eq q1b _ (by decide)
    refine go_tableIn (pc := 1) (off := 47) (tgt := 48) dX1_isFirstRight_1 (by rw [q1b]; decide) (by rw [q1b]; decide) (by rw [q1b]; rfl) (by decide) ?_
    have h := h.2.2.1 q1c
    refine go_aload_n (pc := 48) dX1_isFirstRight_48 rfl rfl ?_
    refine go_iload_n (pc := 49) dX1_isFirstRight_49 rfl rfl ?_
    refine gq_callV_i (pc := 50) (F := wX G o) vX1_54 rfl (tX1_isKept h) rfl rfl (gz_b (by decide)) xw70 rfl (Nat.le_of_ble_eq_true rfl) ⟨Nat.le_of_ble_eq_true rfl, Nat.le_of_ble_eq_true rfl, Nat.le_add_right _ _, Nat.le_add_right _ _⟩ dX1_isFirstRight_50 (fun r5 c4 h => ?_)
    exact gq_zret (pc := 53) (F := wX G o) rfl h.1 dX1_isFirstRight_53 h.2
  · have q1c : l1 = 2 := gt_eq q1b _ (by decide)
    refine go_tableIn (pc := 1) (off := 73) (tgt := 74) dX1_isFirstRight_1 (by rw [q1b]; decide) (by rw [q1b]; decide) (by rw [q1b]; rfl) (by decide) ?_
    have h := h.2.2.2.1 q1c
    refine go_lv [2] rfl ?_
    exact tX1_isFirstRight_p74 h
  · have q1c : l1 = 3 := gt_eq q1b _ (by decide)
    refine go_tableIn (pc := 1) (off := 53) (tgt := 54) dX1_isFirstRight_1 (by rw [q1b]; decide) (by rw [q1b]; decide) (by rw [q1b]; rfl) (by decide) ?_
    have h := h.2.2.2.2.1 q1c
    refine go_iload_n (pc := 54) dX1_isFirstRight_54 rfl rfl ?_
    refine go_iconst (pc := 55) (v := (-1)) dX1_isFirstRight_55 (by decide) ?_
    refine go_sipush (pc := 56) (v := 499) dX1_isFirstRight_56 (by decide) ?_
    refine gq_callS_i (pc := 59) (F := wX G o) sX1_44 rfl (tX1_isIn h) rfl rfl (Nat.le_of_ble_eq_true rfl) ⟨Nat.le_of_ble_eq_true rfl, Nat.le_of_ble_eq_true rfl, Nat.le_add_right _ _, Nat.le_add_right _ _⟩ dX1_isFirstRight_59 (fun r7 c6 h => ?_)
    exact gq_zret (pc := 62) (F := wX G o) rfl h.1 dX1_isFirstRight_62 h.2
  · have q1c : l1 = 4 := gt_eq q1b _ (by decide)
    refine go_tableIn (pc := 1) (off := 73) (tgt := 74) dX1_isFirstRight_1 (by rw [q1b]; decide) (by rw [q1b]; decide) (by rw [q1b]; rfl) (by decide) ?_
    have h := h.2.2.2.2.2.1 q1c
    refine go_lv [2] rfl ?_
    exact tX1_isFirstRight_p74 h
  · have q1c : l1 = 5 := gt_eq q1b _ (by decide)
    refine go_tableIn (pc := 1) (off := 62) (tgt := 63) dX1_isFirstRight_1 (by rw [q1b]; decide) (by rw [q1b]; decide) (by rw [q1b]; rfl) (by decide) ?_
    have h := h.2.2.2.2.2.2 q1c
    refine go_iload_n (pc := 63) dX1_isFirstRight_63 rfl rfl ?_
    refine go_iconst (pc := 64) (v := (-1)) dX1_isFirstRight_64 (by decide) ?_
    refine go_icmp_ne (pc := 65) (tgt := 72) dX1_isFirstRight_65 (by decide) (fun q8 => ?_) (fun q8 => ?_)
    · have h := h.2 q8
      refine go_iconst (pc := 72) (v := 0) dX1_isFirstRight_72 (by decide) ?_
      exact gq_zret (pc := 73) (F := wX G o) rfl (by decide) dX1_isFirstRight_73 h
    · have h := h.1 q8
      refine go_iconst (pc := 68) (v := 1) dX1_isFirstRight_68 (by decide) ?_
      refine go_goto (pc := 69) (tgt := 73) dX1_isFirstRight_69 (by decide) ?_
      exact gq_zret (pc := 73) (F := wX G o) rfl (by decide) dX1_isFirstRight_73 h
def wX1_isSecondRight_p72 (s0 : Int32) (s1 : Int32) (s2 : Int32) (c : gMem) (Q : Int32 → gMem → Prop) : Prop :=
  wX1_isIn s2 s1 s0 c (fun r2 c1 =>
  (r2 = 0 ∨ r2 = 1) ∧ Q r2 c1)
set_option maxRecDepth 100000 in
set_option maxHeartbeats 4000000 in
theorem tX1_isSecondRight_p72 {l : Launch} {G : gG} {k : Nat} {o : gMem} {Q : Int32 → gMem → Prop} {s0 : Int32} {s1 : Int32} {s2 : Int32} {c : gMem} (h : wX1_isSecondRight_p72 s0 s1 s2 c Q) : Go l G mX1_isSecondRight (gbq G 1 22 84 k (qi (wX G o) Q)) 72 [] [.int s0, .int s1, .int s2] 84 k (wX G o c) := by
  unfold wX1_isSecondRight_p72 at h
  refine gq_callS_i (pc := 72) (F := wX G o) sX1_44 rfl (tX1_isIn h) rfl rfl (Nat.le_of_ble_eq_true rfl) ⟨Nat.le_of_ble_eq_true rfl, Nat.le_of_ble_eq_true rfl, Nat.le_add_right _ _, Nat.le_add_right _ _⟩ dX1_isSecondRight_72 (fun r2 c1 h => ?_)
  exact gq_zret (pc := 75) (F := wX G o) rfl h.1 dX1_isSecondRight_75 h.2
def wX1_isSecondRight_p36 (l2 : Int32) (c : gMem) (Q : Int32 → gMem → Prop) : Prop :=
  ((l2 = (-1) →
    Q 1 c) ∧
   (¬ l2 = (-1) →
    Q 0 c))
set_option maxRecDepth 100000 in
set_option maxHeartbeats 4000000 in
theorem tX1_isSecondRight_p36 {l : Launch} {G : gG} {k : Nat} {o : gMem} {Q : Int32 → gMem → Prop} {l2 : Int32} {c : gMem} (h : wX1_isSecondRight_p36 l2 c Q) : Go l G mX1_isSecondRight (gbq G 1 22 84 k (qi (wX G o) Q)) 36 [(2, .int l2)] [] 84 k (wX G o c) := by
  unfold wX1_isSecondRight_p36 at h
  refine go_iload_n (pc := 36) dX1_isSecondRight_36 rfl rfl ?_
  refine go_iconst (pc := 37) (v := (-1)) dX1_isSecondRight_37 (by decide) ?_
  refine go_icmp_ne (pc := 38) (tgt := 45) dX1_isSecondRight_38 (by decide) (fun q1 => ?_) (fun q1 => ?_)
  · have h := h.2 q1
    refine go_iconst (pc := 45) (v := 0) dX1_isSecondRight_45 (by decide) ?_
    exact gq_zret (pc := 46) (F := wX G o) rfl (by decide) dX1_isSecondRight_46 h
  · have h := h.1 q1
    refine go_iconst (pc := 41) (v := 1) dX1_isSecondRight_41 (by decide) ?_
    refine go_goto (pc := 42) (tgt := 46) dX1_isSecondRight_42 (by decide) ?_
    exact gq_zret (pc := 46) (F := wX G o) rfl (by decide) dX1_isSecondRight_46 h
def wX1_isSecondRight (l0 : Int32) (l1 : Int32) (l2 : Int32) (c : gMem) (Q : Int32 → gMem → Prop) : Prop :=
  ((¬ l0 = 0 ∧ ¬ l0 = 4 ∧ ¬ l0 = 5 →
    ((l1 = (-1) →
      wX1_isSecondRight_p72 23 0 l2 c Q) ∧
     (¬ l1 = (-1) →
      wX1_isSecondRight_p72 299 0 l2 c Q))) ∧
   (l0 = 0 →
    wX1_isSecondRight_p36 l2 c Q) ∧
   (l0 = 4 →
    ((l2 = 0 →
      Q 1 c) ∧
     (¬ l2 = 0 →
      Q 0 c))) ∧
   (l0 = 5 →
    wX1_isSecondRight_p36 l2 c Q))
set_option maxRecDepth 100000 in
set_option maxHeartbeats 4000000 in
theorem tX1_isSecondRight {l : Launch} {G : gG} {k : Nat} {o : gMem} {Q : Int32 → gMem → Prop} {l0 : Int32} {l1 : Int32} {l2 : Int32} {c : gMem} (h : wX1_isSecondRight l0 l1 l2 c Q) : Cq l G mX1_isSecondRight 1 22 [.int l0, .int l1, .int l2] 84 k (wX G o c) (qi (wX G o) Q) := by
  refine Cq.of (by decide) (Nat.le_of_ble_eq_true rfl) ?_
  show Go l G mX1_isSecondRight (gbq G 1 22 84 k (qi (wX G o) Q)) 0 [(0, .int l0), (1, .int l1), (2, .int l2)] [] 84 k (wX G o c)
  unfold wX1_isSecondRight at h
  refine go_iload_n (pc := 0) dX1_isSecondRight_0 rfl rfl ?_
  by_cases q10 : l0 = 0
  · refine go_lookup (pc := 1) (off := 35) (tgt := 36) dX1_isSecondRight_1 (by decide) (by rw [q10]; decide) (by decide) ?_
    have h := h.2.1 q10
    refine go_lv [2] rfl ?_
    exact tX1_isSecondRight_p36 h
  by_cases q11 : l0 = 4
  · refine go_lookup (pc := 1) (off := 46) (tgt := 47) dX1_isSecondRight_1 (by decide) (by rw [q11]; decide) (by decide) ?_
    have h := h.2.2.1 q11
    refine go_iload_n (pc := 47) dX1_isSecondRight_47 rfl rfl ?_
    refine go_if_ne (pc := 48) (tgt := 55) dX1_isSecondRight_48 (by decide) (fun q3 => ?_) (fun q3 => ?_)
    · have h := h.2 q3
      refine go_iconst (pc := 55) (v := 0) dX1_isSecondRight_55 (by decide) ?_
      exact gq_zret (pc := 56) (F := wX G o) rfl (by decide) dX1_isSecondRight_56 h
    · have h := h.1 q3
      refine go_iconst (pc := 51) (v := 1) dX1_isSecondRight_51 (by decide) ?_
      refine go_goto (pc := 52) (tgt := 56) dX1_isSecondRight_52 (by decide) ?_
      exact gq_zret (pc := 56) (F := wX G o) rfl (by decide) dX1_isSecondRight_56 h
  by_cases q12 : l0 = 5
  · refine go_lookup (pc := 1) (off := 35) (tgt := 36) dX1_isSecondRight_1 (by decide) (by rw [q12]; decide) (by decide) ?_
    have h := h.2.2.2 q12
    refine go_lv [2] rfl ?_
    exact tX1_isSecondRight_p36 h
  refine go_lookup (pc := 1) (off := 56) (tgt := 57) dX1_isSecondRight_1 (by decide) (gsw_none q10 q11 q12) (by decide) ?_
  have h := h.1 ⟨q10, q11, q12⟩
  refine go_iload_n (pc := 57) dX1_isSecondRight_57 rfl rfl ?_
  refine go_iconst (pc := 58) (v := 0) dX1_isSecondRight_58 (by decide) ?_
  refine go_iload_n (pc := 59) dX1_isSecondRight_59 rfl rfl ?_
  refine go_iconst (pc := 60) (v := (-1)) dX1_isSecondRight_60 (by decide) ?_
  refine go_icmp_ne (pc := 61) (tgt := 69) dX1_isSecondRight_61 (by decide) (fun q2 => ?_) (fun q2 => ?_)
  · have h := h.2 q2
    refine go_sipush (pc := 69) (v := 299) dX1_isSecondRight_69 (by decide) ?_
    refine go_lv [] rfl ?_
    exact tX1_isSecondRight_p72 h
  · have h := h.1 q2
    refine go_bipush (pc := 64) (v := 23) dX1_isSecondRight_64 (by decide) ?_
    refine go_goto (pc := 66) (tgt := 72) dX1_isSecondRight_66 (by decide) ?_
    refine go_lv [] rfl ?_
    exact tX1_isSecondRight_p72 h
def wX1_firstWrongOfReason (l1 : Int32) (c : gMem) (Q : Int32 → gMem → Prop) : Prop :=
  c 70 0 = 1 ∧
  vp_in (l1 + 1) 6527 ∧
  ∀ v2, v2 = c 16 (l1 + 1).toNatClampNeg →
  wX1_isIn v2 0 5 c (fun r5 c4 =>
  ((r5 = 0 →
    Q (l1 + 1) c4) ∧
   (¬ r5 = 0 →
    c4 70 0 = 1 ∧
    vp_in (l1 + 2) 6527 ∧
    ∀ v8, v8 = c4 16 (l1 + 2).toNatClampNeg →
    wX1_isFirstRight v2 v8 c4 (fun r11 c10 =>
    ((r11 = 0 →
      Q (l1 + 2) c10) ∧
     (¬ r11 = 0 →
      c10 70 0 = 1 ∧
      vp_in (l1 + 3) 6527 ∧
      ∀ v14, v14 = c10 16 (l1 + 3).toNatClampNeg →
      wX1_isSecondRight v2 v8 v14 c10 (fun r17 c16 =>
      ((r17 = 0 →
        Q (l1 + 3) c16) ∧
       (¬ r17 = 0 →
        Q ((-1)) c16)))))))))
set_option maxRecDepth 100000 in
set_option maxHeartbeats 4000000 in
theorem tX1_firstWrongOfReason {l : Launch} {G : gG} {k : Nat} {o : gMem} {Q : Int32 → gMem → Prop} {l1 : Int32} {c : gMem} (h : wX1_firstWrongOfReason l1 c Q) : Cq l G mX1_firstWrongOfReason 3 65 [.ref (G.2.1 + 70), .int l1] 84 k (wX G o c) (qi (wX G o) Q) := by
  refine Cq.of (by decide) (Nat.le_of_ble_eq_true rfl) ?_
  show Go l G mX1_firstWrongOfReason (gbq G 3 65 84 k (qi (wX G o) Q)) 0 [(0, .ref (G.2.1 + 70)), (1, .int l1)] [] 84 k (wX G o c)
  unfold wX1_firstWrongOfReason at h
  refine go_aload_n (pc := 0) dX1_firstWrongOfReason_0 rfl rfl ?_
  obtain ⟨b1, h⟩ := h
  refine go_get (pc := 1) fX1_9 rfl (gz_b (by decide)) xw70 rfl dX1_firstWrongOfReason_1 ?_
  refine gb_ref (b := G.2.1 + 16) (if_pos b1) ?_
  refine go_iload_n (pc := 4) dX1_firstWrongOfReason_4 rfl rfl ?_
  refine go_iconst (pc := 5) (v := 1) dX1_firstWrongOfReason_5 (by decide) ?_
  refine go_iadd (pc := 6) dX1_firstWrongOfReason_6 ?_
  obtain ⟨b3, h⟩ := h
  refine gb_iald (pc := 7) (gz_b (by decide)) xw16 b3 dX1_firstWrongOfReason_7 (fun v2 ev2 => ?_)
  have h := h v2 ev2
  refine go_istore_n (pc := 8) (lv' := [(2, .int v2), (0, .ref (G.2.1 + 70)), (1, .int l1)]) dX1_firstWrongOfReason_8 rfl (by decide) rfl ?_
  refine go_iload_n (pc := 9) dX1_firstWrongOfReason_9 rfl rfl ?_
  refine go_iconst (pc := 10) (v := 0) dX1_firstWrongOfReason_10 (by decide) ?_
  refine go_iconst (pc := 11) (v := 5) dX1_firstWrongOfReason_11 (by decide) ?_
  refine gq_callS_i (pc := 12) (F := wX G o) sX1_44 rfl (tX1_isIn h) rfl rfl (Nat.le_of_ble_eq_true rfl) ⟨Nat.le_of_ble_eq_true rfl, Nat.le_of_ble_eq_true rfl, Nat.le_add_right _ _, Nat.le_add_right _ _⟩ dX1_firstWrongOfReason_12 (fun r5 c4 h => ?_)
  refine go_if_ne (pc := 15) (tgt := 22) dX1_firstWrongOfReason_15 (by decide) (fun q6 => ?_) (fun q6 => ?_)
  · have h := h.2 q6
    refine go_aload_n (pc := 22) dX1_firstWrongOfReason_22 rfl rfl ?_
    obtain ⟨b7, h⟩ := h
    refine go_get (pc := 23) fX1_9 rfl (gz_b (by decide)) xw70 rfl dX1_firstWrongOfReason_23 ?_
    refine gb_ref (b := G.2.1 + 16) (if_pos b7) ?_
    refine go_iload_n (pc := 26) dX1_firstWrongOfReason_26 rfl rfl ?_
    refine go_iconst (pc := 27) (v := 2) dX1_firstWrongOfReason_27 (by decide) ?_
    refine go_iadd (pc := 28) dX1_firstWrongOfReason_28 ?_
    obtain ⟨b9, h⟩ := h
    refine gb_iald (pc := 29) (gz_b (by decide)) xw16 b9 dX1_firstWrongOfReason_29 (fun v8 ev8 => ?_)
    have h := h v8 ev8
    refine go_istore_n (pc := 30) (lv' := [(3, .int v8), (2, .int v2), (0, .ref (G.2.1 + 70)), (1, .int l1)]) dX1_firstWrongOfReason_30 rfl (by decide) rfl ?_
    refine go_aload_n (pc := 31) dX1_firstWrongOfReason_31 rfl rfl ?_
    refine go_iload_n (pc := 32) dX1_firstWrongOfReason_32 rfl rfl ?_
    refine go_iload_n (pc := 33) dX1_firstWrongOfReason_33 rfl rfl ?_
    refine gq_callV_i (pc := 34) (F := wX G o) vX1_75 rfl (tX1_isFirstRight h) rfl rfl (gz_b (by decide)) xw70 rfl (Nat.le_of_ble_eq_true rfl) ⟨Nat.le_of_ble_eq_true rfl, Nat.le_of_ble_eq_true rfl, Nat.le_add_right _ _, Nat.le_add_right _ _⟩ dX1_firstWrongOfReason_34 (fun r11 c10 h => ?_)
    refine go_if_ne (pc := 37) (tgt := 44) dX1_firstWrongOfReason_37 (by decide) (fun q12 => ?_) (fun q12 => ?_)
    · have h := h.2 q12
      refine go_iload_n (pc := 44) dX1_firstWrongOfReason_44 rfl rfl ?_
      refine go_iload_n (pc := 45) dX1_firstWrongOfReason_45 rfl rfl ?_
      refine go_aload_n (pc := 46) dX1_firstWrongOfReason_46 rfl rfl ?_
      obtain ⟨b13, h⟩ := h
      refine go_get (pc := 47) fX1_9 rfl (gz_b (by decide)) xw70 rfl dX1_firstWrongOfReason_47 ?_
      refine gb_ref (b := G.2.1 + 16) (if_pos b13) ?_
      refine go_iload_n (pc := 50) dX1_firstWrongOfReason_50 rfl rfl ?_
      refine go_iconst (pc := 51) (v := 3) dX1_firstWrongOfReason_51 (by decide) ?_
      refine go_iadd (pc := 52) dX1_firstWrongOfReason_52 ?_
      obtain ⟨b15, h⟩ := h
      refine gb_iald (pc := 53) (gz_b (by decide)) xw16 b15 dX1_firstWrongOfReason_53 (fun v14 ev14 => ?_)
      have h := h v14 ev14
      refine gq_callS_i (pc := 54) (F := wX G o) sX1_79 rfl (tX1_isSecondRight h) rfl rfl (Nat.le_of_ble_eq_true rfl) ⟨Nat.le_of_ble_eq_true rfl, Nat.le_of_ble_eq_true rfl, Nat.le_add_right _ _, Nat.le_add_right _ _⟩ dX1_firstWrongOfReason_54 (fun r17 c16 h => ?_)
      refine go_if_eq (pc := 57) (tgt := 64) dX1_firstWrongOfReason_57 (by decide) (fun q18 => ?_) (fun q18 => ?_)
      · have h := h.1 q18
        refine go_iload_n (pc := 64) dX1_firstWrongOfReason_64 rfl rfl ?_
        refine go_iconst (pc := 65) (v := 3) dX1_firstWrongOfReason_65 (by decide) ?_
        refine go_iadd (pc := 66) dX1_firstWrongOfReason_66 ?_
        exact gq_iret (pc := 67) (F := wX G o) rfl dX1_firstWrongOfReason_67 h
      · have h := h.2 q18
        refine go_iconst (pc := 60) (v := (-1)) dX1_firstWrongOfReason_60 (by decide) ?_
        refine go_goto (pc := 61) (tgt := 67) dX1_firstWrongOfReason_61 (by decide) ?_
        exact gq_iret (pc := 67) (F := wX G o) rfl dX1_firstWrongOfReason_67 h
    · have h := h.1 q12
      refine go_iload_n (pc := 40) dX1_firstWrongOfReason_40 rfl rfl ?_
      refine go_iconst (pc := 41) (v := 2) dX1_firstWrongOfReason_41 (by decide) ?_
      refine go_iadd (pc := 42) dX1_firstWrongOfReason_42 ?_
      exact gq_iret (pc := 43) (F := wX G o) rfl dX1_firstWrongOfReason_43 h
  · have h := h.1 q6
    refine go_iload_n (pc := 18) dX1_firstWrongOfReason_18 rfl rfl ?_
    refine go_iconst (pc := 19) (v := 1) dX1_firstWrongOfReason_19 (by decide) ?_
    refine go_iadd (pc := 20) dX1_firstWrongOfReason_20 ?_
    exact gq_iret (pc := 21) (F := wX G o) rfl dX1_firstWrongOfReason_21 h
def wX1_isRankWrong (l1 : Int32) (c : gMem) (Q : Int32 → gMem → Prop) : Prop :=
  c 70 0 = 1 ∧
  vp_in (l1 + 4) 6527 ∧
  ∀ v2, v2 = c 16 (l1 + 4).toNatClampNeg →
  ∀ v4, v4 = c 70 2 →
  wX1_isIn v2 1 v4 c (fun r6 c5 =>
  ((r6 = 0 →
    Q 1 c5) ∧
   (¬ r6 = 0 →
    vp_in v2 501 ∧
    ∀ v8, v8 = c5 73 v2.toNatClampNeg →
    ((v8 = 0 →
      c5 70 0 = 1 ∧
      vp_in (l1 + 1) 6527 ∧
      ∀ v12, v12 = c5 16 (l1 + 1).toNatClampNeg →
      ((v12 = 1 →
        c5 70 0 = 1 ∧
        c5 70 0 = 1 ∧
        vp_in (l1 + 2) 6527 ∧
        ∀ v17, v17 = c5 16 (l1 + 2).toNatClampNeg →
        vp_in v17 500 ∧
        ∀ v19, v19 = c5 72 v17.toNatClampNeg →
        vp_in (v19 + 4) 6527 ∧
        ∀ v21, v21 = c5 16 (v19 + 4).toNatClampNeg →
        ((v21 < v2 →
          Q 0 c5) ∧
         (¬ v21 < v2 →
          Q 1 c5))) ∧
       (¬ v12 = 1 →
        Q 0 c5))) ∧
     (¬ v8 = 0 →
      Q 1 c5)))))
set_option maxRecDepth 100000 in
set_option maxHeartbeats 4000000 in
theorem tX1_isRankWrong {l : Launch} {G : gG} {k : Nat} {o : gMem} {Q : Int32 → gMem → Prop} {l1 : Int32} {c : gMem} (h : wX1_isRankWrong l1 c Q) : Cq l G mX1_isRankWrong 1 22 [.ref (G.2.1 + 70), .int l1] 84 k (wX G o c) (qi (wX G o) Q) := by
  refine Cq.of (by decide) (Nat.le_of_ble_eq_true rfl) ?_
  show Go l G mX1_isRankWrong (gbq G 1 22 84 k (qi (wX G o) Q)) 0 [(0, .ref (G.2.1 + 70)), (1, .int l1)] [] 84 k (wX G o c)
  unfold wX1_isRankWrong at h
  refine go_aload_n (pc := 0) dX1_isRankWrong_0 rfl rfl ?_
  obtain ⟨b1, h⟩ := h
  refine go_get (pc := 1) fX1_9 rfl (gz_b (by decide)) xw70 rfl dX1_isRankWrong_1 ?_
  refine gb_ref (b := G.2.1 + 16) (if_pos b1) ?_
  refine go_iload_n (pc := 4) dX1_isRankWrong_4 rfl rfl ?_
  refine go_iconst (pc := 5) (v := 4) dX1_isRankWrong_5 (by decide) ?_
  refine go_iadd (pc := 6) dX1_isRankWrong_6 ?_
  obtain ⟨b3, h⟩ := h
  refine gb_iald (pc := 7) (gz_b (by decide)) xw16 b3 dX1_isRankWrong_7 (fun v2 ev2 => ?_)
  have h := h v2 ev2
  refine go_istore_n (pc := 8) (lv' := [(2, .int v2), (0, .ref (G.2.1 + 70)), (1, .int l1)]) dX1_isRankWrong_8 rfl (by decide) rfl ?_
  refine go_iload_n (pc := 9) dX1_isRankWrong_9 rfl rfl ?_
  refine go_iconst (pc := 10) (v := 1) dX1_isRankWrong_10 (by decide) ?_
  refine go_aload_n (pc := 11) dX1_isRankWrong_11 rfl rfl ?_
  refine gb_get (pc := 12) fX1_41 rfl (gz_b (by decide)) xw70 rfl dX1_isRankWrong_12 (fun v4 ev4 => ?_)
  have h := h v4 ev4
  refine gq_callS_i (pc := 15) (F := wX G o) sX1_44 rfl (tX1_isIn h) rfl rfl (Nat.le_of_ble_eq_true rfl) ⟨Nat.le_of_ble_eq_true rfl, Nat.le_of_ble_eq_true rfl, Nat.le_add_right _ _, Nat.le_add_right _ _⟩ dX1_isRankWrong_15 (fun r6 c5 h => ?_)
  refine go_if_eq (pc := 18) (tgt := 30) dX1_isRankWrong_18 (by decide) (fun q7 => ?_) (fun q7 => ?_)
  · have h := h.1 q7
    refine go_iconst (pc := 30) (v := 1) dX1_isRankWrong_30 (by decide) ?_
    exact gq_zret (pc := 31) (F := wX G o) rfl (by decide) dX1_isRankWrong_31 h
  · have h := h.2 q7
    refine go_aload_n (pc := 21) dX1_isRankWrong_21 rfl rfl ?_
    refine go_get (pc := 22) fX1_18 rfl (gz_b (by decide)) xw70 rfl dX1_isRankWrong_22 ?_
    refine go_iload_n (pc := 25) dX1_isRankWrong_25 rfl rfl ?_
    obtain ⟨b9, h⟩ := h
    refine gb_iald (pc := 26) (gz_b (by decide)) xw73 b9 dX1_isRankWrong_26 (fun v8 ev8 => ?_)
    have h := h v8 ev8
    refine go_if_eq (pc := 27) (tgt := 32) dX1_isRankWrong_27 (by decide) (fun q10 => ?_) (fun q10 => ?_)
    · have h := h.1 q10
      refine go_aload_n (pc := 32) dX1_isRankWrong_32 rfl rfl ?_
      obtain ⟨b11, h⟩ := h
      refine go_get (pc := 33) fX1_9 rfl (gz_b (by decide)) xw70 rfl dX1_isRankWrong_33 ?_
      refine gb_ref (b := G.2.1 + 16) (if_pos b11) ?_
      refine go_iload_n (pc := 36) dX1_isRankWrong_36 rfl rfl ?_
      refine go_iconst (pc := 37) (v := 1) dX1_isRankWrong_37 (by decide) ?_
      refine go_iadd (pc := 38) dX1_isRankWrong_38 ?_
      obtain ⟨b13, h⟩ := h
      refine gb_iald (pc := 39) (gz_b (by decide)) xw16 b13 dX1_isRankWrong_39 (fun v12 ev12 => ?_)
      have h := h v12 ev12
      refine go_iconst (pc := 40) (v := 1) dX1_isRankWrong_40 (by decide) ?_
      refine go_icmp_ne (pc := 41) (tgt := 72) dX1_isRankWrong_41 (by decide) (fun q14 => ?_) (fun q14 => ?_)
      · have h := h.2 q14
        refine go_iconst (pc := 72) (v := 0) dX1_isRankWrong_72 (by decide) ?_
        exact gq_zret (pc := 73) (F := wX G o) rfl (by decide) dX1_isRankWrong_73 h
      · have h := h.1 q14
        refine go_iload_n (pc := 44) dX1_isRankWrong_44 rfl rfl ?_
        refine go_aload_n (pc := 45) dX1_isRankWrong_45 rfl rfl ?_
        obtain ⟨b15, h⟩ := h
        refine go_get (pc := 46) fX1_9 rfl (gz_b (by decide)) xw70 rfl dX1_isRankWrong_46 ?_
        refine gb_ref (b := G.2.1 + 16) (if_pos b15) ?_
        refine go_aload_n (pc := 49) dX1_isRankWrong_49 rfl rfl ?_
        refine go_get (pc := 50) fX1_15 rfl (gz_b (by decide)) xw70 rfl dX1_isRankWrong_50 ?_
        refine go_aload_n (pc := 53) dX1_isRankWrong_53 rfl rfl ?_
        obtain ⟨b16, h⟩ := h
        refine go_get (pc := 54) fX1_9 rfl (gz_b (by decide)) xw70 rfl dX1_isRankWrong_54 ?_
        refine gb_ref (b := G.2.1 + 16) (if_pos b16) ?_
        refine go_iload_n (pc := 57) dX1_isRankWrong_57 rfl rfl ?_
        refine go_iconst (pc := 58) (v := 2) dX1_isRankWrong_58 (by decide) ?_
        refine go_iadd (pc := 59) dX1_isRankWrong_59 ?_
        obtain ⟨b18, h⟩ := h
        refine gb_iald (pc := 60) (gz_b (by decide)) xw16 b18 dX1_isRankWrong_60 (fun v17 ev17 => ?_)
        have h := h v17 ev17
        obtain ⟨b20, h⟩ := h
        refine gb_iald (pc := 61) (gz_b (by decide)) xw72 b20 dX1_isRankWrong_61 (fun v19 ev19 => ?_)
        have h := h v19 ev19
        refine go_iconst (pc := 62) (v := 4) dX1_isRankWrong_62 (by decide) ?_
        refine go_iadd (pc := 63) dX1_isRankWrong_63 ?_
        obtain ⟨b22, h⟩ := h
        refine gb_iald (pc := 64) (gz_b (by decide)) xw16 b22 dX1_isRankWrong_64 (fun v21 ev21 => ?_)
        have h := h v21 ev21
        refine go_icmp_gt (pc := 65) (tgt := 72) dX1_isRankWrong_65 (by decide) (fun q23 => ?_) (fun q23 => ?_)
        · have h := h.1 q23
          refine go_iconst (pc := 72) (v := 0) dX1_isRankWrong_72 (by decide) ?_
          exact gq_zret (pc := 73) (F := wX G o) rfl (by decide) dX1_isRankWrong_73 h
        · have h := h.2 q23
          refine go_iconst (pc := 68) (v := 1) dX1_isRankWrong_68 (by decide) ?_
          refine go_goto (pc := 69) (tgt := 73) dX1_isRankWrong_69 (by decide) ?_
          exact gq_zret (pc := 73) (F := wX G o) rfl (by decide) dX1_isRankWrong_73 h
    · have h := h.2 q10
      refine go_iconst (pc := 30) (v := 1) dX1_isRankWrong_30 (by decide) ?_
      exact gq_zret (pc := 31) (F := wX G o) rfl (by decide) dX1_isRankWrong_31 h
def wX1_firstWrongOfKept (l1 : Int32) (c : gMem) (Q : Int32 → gMem → Prop) : Prop :=
  c 70 0 = 1 ∧
  vp_in l1 6527 ∧
  ∀ v2, v2 = c 16 l1.toNatClampNeg →
  wX1_isKept v2 c (fun r5 c4 =>
  ((r5 = 0 →
    Q l1 c4) ∧
   (¬ r5 = 0 →
    vp_in v2 500 ∧
    ∀ v7, v7 = c4 72 v2.toNatClampNeg →
    ((v7 = l1 →
      wX1_firstWrongOfReason l1 c4 (fun r11 c10 =>
      ((r11 = (-1) →
        wX1_isRankWrong l1 c10 (fun r14 c13 =>
        ((r14 = 0 →
          c13 70 0 = 1 ∧
          vp_in (l1 + 4) 6527 ∧
          ∀ v17, v17 = c13 16 (l1 + 4).toNatClampNeg →
          vp_in v17 501 ∧
          ∀ c19, c19 = mp c13 73 v17.toNatClampNeg 1 →
          c19 70 0 = 1 ∧
          vp_in (l1 + 5) 6527 ∧
          ∀ v22, v22 = c19 16 (l1 + 5).toNatClampNeg →
          wX1_firstWrongLink (l1 + 6) ((l1 + 6) + v22) c19 (fun r25 c24 =>
          Q r25 c24)) ∧
         (¬ r14 = 0 →
          Q (l1 + 4) c13)))) ∧
       (¬ r11 = (-1) →
        Q r11 c10)))) ∧
     (¬ v7 = l1 →
      Q l1 c4)))))
set_option maxRecDepth 100000 in
set_option maxHeartbeats 4000000 in
theorem tX1_firstWrongOfKept {l : Launch} {G : gG} {k : Nat} {o : gMem} {Q : Int32 → gMem → Prop} {l1 : Int32} {c : gMem} (h : wX1_firstWrongOfKept l1 c Q) : Cq l G mX1_firstWrongOfKept 4 88 [.ref (G.2.1 + 70), .int l1] 84 k (wX G o c) (qi (wX G o) Q) := by
  refine Cq.of (by decide) (Nat.le_of_ble_eq_true rfl) ?_
  show Go l G mX1_firstWrongOfKept (gbq G 4 88 84 k (qi (wX G o) Q)) 0 [(0, .ref (G.2.1 + 70)), (1, .int l1)] [] 84 k (wX G o c)
  unfold wX1_firstWrongOfKept at h
  refine go_aload_n (pc := 0) dX1_firstWrongOfKept_0 rfl rfl ?_
  obtain ⟨b1, h⟩ := h
  refine go_get (pc := 1) fX1_9 rfl (gz_b (by decide)) xw70 rfl dX1_firstWrongOfKept_1 ?_
  refine gb_ref (b := G.2.1 + 16) (if_pos b1) ?_
  refine go_iload_n (pc := 4) dX1_firstWrongOfKept_4 rfl rfl ?_
  obtain ⟨b3, h⟩ := h
  refine gb_iald (pc := 5) (gz_b (by decide)) xw16 b3 dX1_firstWrongOfKept_5 (fun v2 ev2 => ?_)
  have h := h v2 ev2
  refine go_istore_n (pc := 6) (lv' := [(2, .int v2), (0, .ref (G.2.1 + 70)), (1, .int l1)]) dX1_firstWrongOfKept_6 rfl (by decide) rfl ?_
  refine go_aload_n (pc := 7) dX1_firstWrongOfKept_7 rfl rfl ?_
  refine go_iload_n (pc := 8) dX1_firstWrongOfKept_8 rfl rfl ?_
  refine gq_callV_i (pc := 9) (F := wX G o) vX1_54 rfl (tX1_isKept h) rfl rfl (gz_b (by decide)) xw70 rfl (Nat.le_of_ble_eq_true rfl) ⟨Nat.le_of_ble_eq_true rfl, Nat.le_of_ble_eq_true rfl, Nat.le_add_right _ _, Nat.le_add_right _ _⟩ dX1_firstWrongOfKept_9 (fun r5 c4 h => ?_)
  refine go_if_eq (pc := 12) (tgt := 25) dX1_firstWrongOfKept_12 (by decide) (fun q6 => ?_) (fun q6 => ?_)
  · have h := h.1 q6
    refine go_iload_n (pc := 25) dX1_firstWrongOfKept_25 rfl rfl ?_
    exact gq_iret (pc := 26) (F := wX G o) rfl dX1_firstWrongOfKept_26 h
  · have h := h.2 q6
    refine go_aload_n (pc := 15) dX1_firstWrongOfKept_15 rfl rfl ?_
    refine go_get (pc := 16) fX1_15 rfl (gz_b (by decide)) xw70 rfl dX1_firstWrongOfKept_16 ?_
    refine go_iload_n (pc := 19) dX1_firstWrongOfKept_19 rfl rfl ?_
    obtain ⟨b8, h⟩ := h
    refine gb_iald (pc := 20) (gz_b (by decide)) xw72 b8 dX1_firstWrongOfKept_20 (fun v7 ev7 => ?_)
    have h := h v7 ev7
    refine go_iload_n (pc := 21) dX1_firstWrongOfKept_21 rfl rfl ?_
    refine go_icmp_eq (pc := 22) (tgt := 27) dX1_firstWrongOfKept_22 (by decide) (fun q9 => ?_) (fun q9 => ?_)
    · have h := h.1 q9
      refine go_aload_n (pc := 27) dX1_firstWrongOfKept_27 rfl rfl ?_
      refine go_iload_n (pc := 28) dX1_firstWrongOfKept_28 rfl rfl ?_
      refine gq_callV_i (pc := 29) (F := wX G o) vX1_69 rfl (tX1_firstWrongOfReason h) rfl rfl (gz_b (by decide)) xw70 rfl (Nat.le_of_ble_eq_true rfl) ⟨Nat.le_of_ble_eq_true rfl, Nat.le_of_ble_eq_true rfl, Nat.le_add_right _ _, Nat.le_add_right _ _⟩ dX1_firstWrongOfKept_29 (fun r11 c10 h => ?_)
      refine go_istore_n (pc := 32) (lv' := [(3, .int r11), (2, .int v2), (0, .ref (G.2.1 + 70)), (1, .int l1)]) dX1_firstWrongOfKept_32 rfl (by decide) rfl ?_
      refine go_iload_n (pc := 33) dX1_firstWrongOfKept_33 rfl rfl ?_
      refine go_iconst (pc := 34) (v := (-1)) dX1_firstWrongOfKept_34 (by decide) ?_
      refine go_icmp_eq (pc := 35) (tgt := 40) dX1_firstWrongOfKept_35 (by decide) (fun q12 => ?_) (fun q12 => ?_)
      · have h := h.1 q12
        refine go_aload_n (pc := 40) dX1_firstWrongOfKept_40 rfl rfl ?_
        refine go_iload_n (pc := 41) dX1_firstWrongOfKept_41 rfl rfl ?_
        refine gq_callV_i (pc := 42) (F := wX G o) vX1_72 rfl (tX1_isRankWrong h) rfl rfl (gz_b (by decide)) xw70 rfl (Nat.le_of_ble_eq_true rfl) ⟨Nat.le_of_ble_eq_true rfl, Nat.le_of_ble_eq_true rfl, Nat.le_add_right _ _, Nat.le_add_right _ _⟩ dX1_firstWrongOfKept_42 (fun r14 c13 h => ?_)
        refine go_if_eq (pc := 45) (tgt := 52) dX1_firstWrongOfKept_45 (by decide) (fun q15 => ?_) (fun q15 => ?_)
        · have h := h.1 q15
          refine go_aload_n (pc := 52) dX1_firstWrongOfKept_52 rfl rfl ?_
          refine go_get (pc := 53) fX1_18 rfl (gz_b (by decide)) xw70 rfl dX1_firstWrongOfKept_53 ?_
          refine go_aload_n (pc := 56) dX1_firstWrongOfKept_56 rfl rfl ?_
          obtain ⟨b16, h⟩ := h
          refine go_get (pc := 57) fX1_9 rfl (gz_b (by decide)) xw70 rfl dX1_firstWrongOfKept_57 ?_
          refine gb_ref (b := G.2.1 + 16) (if_pos b16) ?_
          refine go_iload_n (pc := 60) dX1_firstWrongOfKept_60 rfl rfl ?_
          refine go_iconst (pc := 61) (v := 4) dX1_firstWrongOfKept_61 (by decide) ?_
          refine go_iadd (pc := 62) dX1_firstWrongOfKept_62 ?_
          obtain ⟨b18, h⟩ := h
          refine gb_iald (pc := 63) (gz_b (by decide)) xw16 b18 dX1_firstWrongOfKept_63 (fun v17 ev17 => ?_)
          have h := h v17 ev17
          refine go_iconst (pc := 64) (v := 1) dX1_firstWrongOfKept_64 (by decide) ?_
          obtain ⟨b20, h⟩ := h
          refine gb_iast (pc := 65) (F := wX G o) (gz_b (by decide)) xw73 b20 xa73 dX1_firstWrongOfKept_65 (fun c19 ec19 => ?_)
          have h := h c19 ec19
          refine go_aload_n (pc := 66) dX1_firstWrongOfKept_66 rfl rfl ?_
          refine go_iload_n (pc := 67) dX1_firstWrongOfKept_67 rfl rfl ?_
          refine go_bipush (pc := 68) (v := 6) dX1_firstWrongOfKept_68 (by decide) ?_
          refine go_iadd (pc := 70) dX1_firstWrongOfKept_70 ?_
          refine go_iload_n (pc := 71) dX1_firstWrongOfKept_71 rfl rfl ?_
          refine go_bipush (pc := 72) (v := 6) dX1_firstWrongOfKept_72 (by decide) ?_
          refine go_iadd (pc := 74) dX1_firstWrongOfKept_74 ?_
          refine go_aload_n (pc := 75) dX1_firstWrongOfKept_75 rfl rfl ?_
          obtain ⟨b21, h⟩ := h
          refine go_get (pc := 76) fX1_9 rfl (gz_b (by decide)) xw70 rfl dX1_firstWrongOfKept_76 ?_
          refine gb_ref (b := G.2.1 + 16) (if_pos b21) ?_
          refine go_iload_n (pc := 79) dX1_firstWrongOfKept_79 rfl rfl ?_
          refine go_iconst (pc := 80) (v := 5) dX1_firstWrongOfKept_80 (by decide) ?_
          refine go_iadd (pc := 81) dX1_firstWrongOfKept_81 ?_
          obtain ⟨b23, h⟩ := h
          refine gb_iald (pc := 82) (gz_b (by decide)) xw16 b23 dX1_firstWrongOfKept_82 (fun v22 ev22 => ?_)
          have h := h v22 ev22
          refine go_iadd (pc := 83) dX1_firstWrongOfKept_83 ?_
          refine gq_callV_i (pc := 84) (F := wX G o) vX1_58 rfl (tX1_firstWrongLink h) rfl rfl (gz_b (by decide)) xw70 rfl (Nat.le_of_ble_eq_true rfl) ⟨Nat.le_of_ble_eq_true rfl, Nat.le_of_ble_eq_true rfl, Nat.le_add_right _ _, Nat.le_add_right _ _⟩ dX1_firstWrongOfKept_84 (fun r25 c24 h => ?_)
          exact gq_iret (pc := 87) (F := wX G o) rfl dX1_firstWrongOfKept_87 h
        · have h := h.2 q15
          refine go_iload_n (pc := 48) dX1_firstWrongOfKept_48 rfl rfl ?_
          refine go_iconst (pc := 49) (v := 4) dX1_firstWrongOfKept_49 (by decide) ?_
          refine go_iadd (pc := 50) dX1_firstWrongOfKept_50 ?_
          exact gq_iret (pc := 51) (F := wX G o) rfl dX1_firstWrongOfKept_51 h
      · have h := h.2 q12
        refine go_iload_n (pc := 38) dX1_firstWrongOfKept_38 rfl rfl ?_
        exact gq_iret (pc := 39) (F := wX G o) rfl dX1_firstWrongOfKept_39 h
    · have h := h.2 q9
      refine go_iload_n (pc := 25) dX1_firstWrongOfKept_25 rfl rfl ?_
      exact gq_iret (pc := 26) (F := wX G o) rfl dX1_firstWrongOfKept_26 h
def wX1_firstWrongInMeaning_p60 (l1 : Int32) (l2 : Int32) (c : gMem) (Q : Int32 → gMem → Prop) : Prop :=
  ((l1 = (-1) →
    wX1_firstWrongGivenBack l2 c (fun r3 c2 =>
    Q r3 c2)) ∧
   (¬ l1 = (-1) →
    Q l1 c))
set_option maxRecDepth 100000 in
set_option maxHeartbeats 4000000 in
theorem tX1_firstWrongInMeaning_p60 {l : Launch} {G : gG} {k : Nat} {o : gMem} {Q : Int32 → gMem → Prop} {l1 : Int32} {l2 : Int32} {c : gMem} (h : wX1_firstWrongInMeaning_p60 l1 l2 c Q) : Go l G mX1_firstWrongInMeaning (gbq G 5 111 84 k (qi (wX G o) Q)) 60 [(0, .ref (G.2.1 + 70)), (1, .int l1), (2, .int l2)] [] 84 k (wX G o c) := by
  unfold wX1_firstWrongInMeaning_p60 at h
  refine go_iload_n (pc := 60) dX1_firstWrongInMeaning_60 rfl rfl ?_
  refine go_iconst (pc := 61) (v := (-1)) dX1_firstWrongInMeaning_61 (by decide) ?_
  refine go_icmp_eq (pc := 62) (tgt := 69) dX1_firstWrongInMeaning_62 (by decide) (fun q1 => ?_) (fun q1 => ?_)
  · have h := h.1 q1
    refine go_aload_n (pc := 69) dX1_firstWrongInMeaning_69 rfl rfl ?_
    refine go_iload_n (pc := 70) dX1_firstWrongInMeaning_70 rfl rfl ?_
    refine gq_callV_i (pc := 71) (F := wX G o) vX1_66 rfl (tX1_firstWrongGivenBack h) rfl rfl (gz_b (by decide)) xw70 rfl (Nat.le_of_ble_eq_true rfl) ⟨Nat.le_of_ble_eq_true rfl, Nat.le_of_ble_eq_true rfl, Nat.le_add_right _ _, Nat.le_add_right _ _⟩ dX1_firstWrongInMeaning_71 (fun r3 c2 h => ?_)
    exact gq_iret (pc := 74) (F := wX G o) rfl dX1_firstWrongInMeaning_74 h
  · have h := h.2 q1
    refine go_iload_n (pc := 65) dX1_firstWrongInMeaning_65 rfl rfl ?_
    refine go_goto (pc := 66) (tgt := 74) dX1_firstWrongInMeaning_66 (by decide) ?_
    exact gq_iret (pc := 74) (F := wX G o) rfl dX1_firstWrongInMeaning_74 h
def wX1_firstWrongInMeaning_p21_b (P21 : Int32 → Int32 → Int32 → gMem → Prop) (l1 : Int32) (l2 : Int32) (l3 : Int32) (c : gMem) (Q : Int32 → gMem → Prop) : Prop :=
  ∀ v1, v1 = c 70 2 →
  ((v1 ≤ l3 →
    wX1_firstWrongInMeaning_p60 l1 l2 c Q) ∧
   (¬ v1 ≤ l3 →
    ((l1 = (-1) →
      wX1_firstWrongOfKept l2 c (fun r5 c4 =>
      c4 70 0 = 1 ∧
      vp_in (l2 + 5) 6527 ∧
      ∀ v7, v7 = c4 16 (l2 + 5).toNatClampNeg →
      P21 r5 (l2 + (6 + v7)) (l3 + 1) c4)) ∧
     (¬ l1 = (-1) →
      wX1_firstWrongInMeaning_p60 l1 l2 c Q))))
def wX1_firstWrongInMeaning_p21 (l1 : Int32) (l2 : Int32) (l3 : Int32) (c : gMem) (Q : Int32 → gMem → Prop) : Prop :=
  ∀ P21 : Int32 → Int32 → Int32 → gMem → Prop, (∀ (l1 : Int32) (l2 : Int32) (l3 : Int32) (c : gMem), wX1_firstWrongInMeaning_p21_b P21 l1 l2 l3 c Q → P21 l1 l2 l3 c) → P21 l1 l2 l3 c
set_option maxRecDepth 100000 in
set_option maxHeartbeats 4000000 in
theorem tX1_firstWrongInMeaning_p21_b {l : Launch} {G : gG} {k : Nat} {o : gMem} {Q : Int32 → gMem → Prop} {P21 : Int32 → Int32 → Int32 → gMem → Prop} (hP21 : ∀ (l1 : Int32) (l2 : Int32) (l3 : Int32) (c : gMem), P21 l1 l2 l3 c → Go l G mX1_firstWrongInMeaning (gbq G 5 111 84 k (qi (wX G o) Q)) 21 [(0, .ref (G.2.1 + 70)), (1, .int l1), (2, .int l2), (3, .int l3)] [] 84 k (wX G o c)) {l1 : Int32} {l2 : Int32} {l3 : Int32} {c : gMem} (h : wX1_firstWrongInMeaning_p21_b P21 l1 l2 l3 c Q) : Go l G mX1_firstWrongInMeaning (gbq G 5 111 84 k (qi (wX G o) Q)) 21 [(0, .ref (G.2.1 + 70)), (1, .int l1), (2, .int l2), (3, .int l3)] [] 84 k (wX G o c) := by
  unfold wX1_firstWrongInMeaning_p21_b at h
  refine go_iload_n (pc := 21) dX1_firstWrongInMeaning_21 rfl rfl ?_
  refine go_aload_n (pc := 22) dX1_firstWrongInMeaning_22 rfl rfl ?_
  refine gb_get (pc := 23) fX1_41 rfl (gz_b (by decide)) xw70 rfl dX1_firstWrongInMeaning_23 (fun v1 ev1 => ?_)
  have h := h v1 ev1
  refine go_icmp_ge (pc := 26) (tgt := 60) dX1_firstWrongInMeaning_26 (by decide) (fun q2 => ?_) (fun q2 => ?_)
  · have h := h.1 q2
    refine go_lv [0, 1, 2] rfl ?_
    exact tX1_firstWrongInMeaning_p60 h
  · have h := h.2 q2
    refine go_iload_n (pc := 29) dX1_firstWrongInMeaning_29 rfl rfl ?_
    refine go_iconst (pc := 30) (v := (-1)) dX1_firstWrongInMeaning_30 (by decide) ?_
    refine go_icmp_ne (pc := 31) (tgt := 60) dX1_firstWrongInMeaning_31 (by decide) (fun q3 => ?_) (fun q3 => ?_)
    · have h := h.2 q3
      refine go_lv [0, 1, 2] rfl ?_
      exact tX1_firstWrongInMeaning_p60 h
    · have h := h.1 q3
      refine go_aload_n (pc := 34) dX1_firstWrongInMeaning_34 rfl rfl ?_
      refine go_iload_n (pc := 35) dX1_firstWrongInMeaning_35 rfl rfl ?_
      refine gq_callV_i (pc := 36) (F := wX G o) vX1_62 rfl (tX1_firstWrongOfKept h) rfl rfl (gz_b (by decide)) xw70 rfl (Nat.le_of_ble_eq_true rfl) ⟨Nat.le_of_ble_eq_true rfl, Nat.le_of_ble_eq_true rfl, Nat.le_add_right _ _, Nat.le_add_right _ _⟩ dX1_firstWrongInMeaning_36 (fun r5 c4 h => ?_)
      refine go_istore_n (pc := 39) (lv' := [(1, .int r5), (0, .ref (G.2.1 + 70)), (2, .int l2), (3, .int l3)]) dX1_firstWrongInMeaning_39 rfl (by decide) rfl ?_
      refine go_iload_n (pc := 40) dX1_firstWrongInMeaning_40 rfl rfl ?_
      refine go_bipush (pc := 41) (v := 6) dX1_firstWrongInMeaning_41 (by decide) ?_
      refine go_aload_n (pc := 43) dX1_firstWrongInMeaning_43 rfl rfl ?_
      obtain ⟨b6, h⟩ := h
      refine go_get (pc := 44) fX1_9 rfl (gz_b (by decide)) xw70 rfl dX1_firstWrongInMeaning_44 ?_
      refine gb_ref (b := G.2.1 + 16) (if_pos b6) ?_
      refine go_iload_n (pc := 47) dX1_firstWrongInMeaning_47 rfl rfl ?_
      refine go_iconst (pc := 48) (v := 5) dX1_firstWrongInMeaning_48 (by decide) ?_
      refine go_iadd (pc := 49) dX1_firstWrongInMeaning_49 ?_
      obtain ⟨b8, h⟩ := h
      refine gb_iald (pc := 50) (gz_b (by decide)) xw16 b8 dX1_firstWrongInMeaning_50 (fun v7 ev7 => ?_)
      have h := h v7 ev7
      refine go_iadd (pc := 51) dX1_firstWrongInMeaning_51 ?_
      refine go_iadd (pc := 52) dX1_firstWrongInMeaning_52 ?_
      refine go_istore_n (pc := 53) (lv' := [(2, .int (l2 + (6 + v7))), (1, .int r5), (0, .ref (G.2.1 + 70)), (3, .int l3)]) dX1_firstWrongInMeaning_53 rfl (by decide) rfl ?_
      refine go_iinc (pc := 54) (v := l3 + 1) (lv' := [(3, .int (l3 + 1)), (2, .int (l2 + (6 + v7))), (1, .int r5), (0, .ref (G.2.1 + 70))]) dX1_firstWrongInMeaning_54 3 rfl (by first | rfl | decide) (by decide) rfl ?_
      refine go_goto (pc := 57) (tgt := 21) dX1_firstWrongInMeaning_57 (by decide) ?_
      refine go_lv [3, 2, 1, 0] rfl ?_
      exact hP21 _ _ _ _ h
set_option maxRecDepth 100000 in
set_option maxHeartbeats 4000000 in
theorem tX1_firstWrongInMeaning_p21 {l : Launch} {G : gG} {k : Nat} {o : gMem} {Q : Int32 → gMem → Prop} {l1 : Int32} {l2 : Int32} {l3 : Int32} {c : gMem} (h : wX1_firstWrongInMeaning_p21 l1 l2 l3 c Q) : Go l G mX1_firstWrongInMeaning (gbq G 5 111 84 k (qi (wX G o) Q)) 21 [(0, .ref (G.2.1 + 70)), (1, .int l1), (2, .int l2), (3, .int l3)] [] 84 k (wX G o c) :=
  h (fun l1 l2 l3 c => Go l G mX1_firstWrongInMeaning (gbq G 5 111 84 k (qi (wX G o) Q)) 21 [(0, .ref (G.2.1 + 70)), (1, .int l1), (2, .int l2), (3, .int l3)] [] 84 k (wX G o c)) (fun l1 l2 l3 c hb => tX1_firstWrongInMeaning_p21_b (fun l1 l2 l3 c hh => hh) hb)
def wX1_firstWrongInMeaning (c : gMem) (Q : Int32 → gMem → Prop) : Prop :=
  wX1_firstWrongLink 0 24 c (fun r2 c1 =>
  ∀ c3, c3 = mr c1 73 (fun _ => 0) →
  wX1_firstWrongInMeaning_p21 r2 25 0 c3 Q)
set_option maxRecDepth 100000 in
set_option maxHeartbeats 4000000 in
theorem tX1_firstWrongInMeaning {l : Launch} {G : gG} {k : Nat} {o : gMem} {Q : Int32 → gMem → Prop} {c : gMem} (h : wX1_firstWrongInMeaning c Q) : Cq l G mX1_firstWrongInMeaning 5 111 [.ref (G.2.1 + 70)] 84 k (wX G o c) (qi (wX G o) Q) := by
  refine Cq.of (by decide) (Nat.le_of_ble_eq_true rfl) ?_
  show Go l G mX1_firstWrongInMeaning (gbq G 5 111 84 k (qi (wX G o) Q)) 0 [(0, .ref (G.2.1 + 70))] [] 84 k (wX G o c)
  unfold wX1_firstWrongInMeaning at h
  refine go_aload_n (pc := 0) dX1_firstWrongInMeaning_0 rfl rfl ?_
  refine go_iconst (pc := 1) (v := 0) dX1_firstWrongInMeaning_1 (by decide) ?_
  refine go_bipush (pc := 2) (v := 24) dX1_firstWrongInMeaning_2 (by decide) ?_
  refine gq_callV_i (pc := 4) (F := wX G o) vX1_58 rfl (tX1_firstWrongLink h) rfl rfl (gz_b (by decide)) xw70 rfl (Nat.le_of_ble_eq_true rfl) ⟨Nat.le_of_ble_eq_true rfl, Nat.le_of_ble_eq_true rfl, Nat.le_add_right _ _, Nat.le_add_right _ _⟩ dX1_firstWrongInMeaning_4 (fun r2 c1 h => ?_)
  refine go_istore_n (pc := 7) (lv' := [(1, .int r2), (0, .ref (G.2.1 + 70))]) dX1_firstWrongInMeaning_7 rfl (by decide) rfl ?_
  refine go_aload_n (pc := 8) dX1_firstWrongInMeaning_8 rfl rfl ?_
  refine go_get (pc := 9) fX1_18 rfl (gz_b (by decide)) xw70 rfl dX1_firstWrongInMeaning_9 ?_
  refine go_iconst (pc := 12) (v := 0) dX1_firstWrongInMeaning_12 (by decide) ?_
  refine gq_callS_v (pc := 13) (F := wX G o) (Q := fun q => q = mr c1 73 (fun _ => 0)) sX1_48 rfl (cq_fill (by decide) (gz_b (by decide)) xw73 xa73 rfl) rfl rfl (Nat.le_of_ble_eq_true rfl) ⟨Nat.le_of_ble_eq_true rfl, Nat.le_of_ble_eq_true rfl, Nat.le_add_right _ _, Nat.le_add_right _ _⟩ dX1_firstWrongInMeaning_13 (fun c3 ec3 => ?_)
  have h := h c3 ec3
  refine go_bipush (pc := 16) (v := 25) dX1_firstWrongInMeaning_16 (by decide) ?_
  refine go_istore_n (pc := 18) (lv' := [(2, .int 25), (1, .int r2), (0, .ref (G.2.1 + 70))]) dX1_firstWrongInMeaning_18 rfl (by decide) rfl ?_
  refine go_iconst (pc := 19) (v := 0) dX1_firstWrongInMeaning_19 (by decide) ?_
  refine go_istore_n (pc := 20) (lv' := [(3, .int 0), (2, .int 25), (1, .int r2), (0, .ref (G.2.1 + 70))]) dX1_firstWrongInMeaning_20 rfl (by decide) rfl ?_
  refine go_lv [3, 2, 1, 0] rfl ?_
  exact tX1_firstWrongInMeaning_p21 h
def wX4_sumOf_16_p4_b (P4 : Int32 → Int32 → Int32 → gMem → Prop) (l1 : Int32) (l2 : Int32) (l3 : Int32) (c : gMem) (Q : Int32 → gMem → Prop) : Prop :=
  ((l1 ≤ l3 →
    Q l2 c) ∧
   (¬ l1 ≤ l3 →
    vp_in l3 6527 ∧
    ∀ v2, v2 = c 16 l3.toNatClampNeg →
    P4 l1 ((31 * l2) + v2) (l3 + 1) c))
def wX4_sumOf_16_p4 (l1 : Int32) (l2 : Int32) (l3 : Int32) (c : gMem) (Q : Int32 → gMem → Prop) : Prop :=
  ∀ P4 : Int32 → Int32 → Int32 → gMem → Prop, (∀ (l1 : Int32) (l2 : Int32) (l3 : Int32) (c : gMem), wX4_sumOf_16_p4_b P4 l1 l2 l3 c Q → P4 l1 l2 l3 c) → P4 l1 l2 l3 c
set_option maxRecDepth 100000 in
set_option maxHeartbeats 4000000 in
theorem tX4_sumOf_16_p4_b {l : Launch} {G : gG} {k : Nat} {o : gMem} {Q : Int32 → gMem → Prop} {P4 : Int32 → Int32 → Int32 → gMem → Prop} (hP4 : ∀ (l1 : Int32) (l2 : Int32) (l3 : Int32) (c : gMem), P4 l1 l2 l3 c → Go l G mX4_sumOf (gbq G 0 0 84 k (qi (wX G o) Q)) 4 [(0, .ref (G.2.1 + 16)), (1, .int l1), (2, .int l2), (3, .int l3)] [] 84 k (wX G o c)) {l1 : Int32} {l2 : Int32} {l3 : Int32} {c : gMem} (h : wX4_sumOf_16_p4_b P4 l1 l2 l3 c Q) : Go l G mX4_sumOf (gbq G 0 0 84 k (qi (wX G o) Q)) 4 [(0, .ref (G.2.1 + 16)), (1, .int l1), (2, .int l2), (3, .int l3)] [] 84 k (wX G o c) := by
  unfold wX4_sumOf_16_p4_b at h
  refine go_iload_n (pc := 4) dX4_sumOf_4 rfl rfl ?_
  refine go_iload_n (pc := 5) dX4_sumOf_5 rfl rfl ?_
  refine go_icmp_ge (pc := 6) (tgt := 24) dX4_sumOf_6 (by decide) (fun q1 => ?_) (fun q1 => ?_)
  · have h := h.1 q1
    refine go_iload_n (pc := 24) dX4_sumOf_24 rfl rfl ?_
    exact gq_iret (pc := 25) (F := wX G o) rfl dX4_sumOf_25 h
  · have h := h.2 q1
    refine go_bipush (pc := 9) (v := 31) dX4_sumOf_9 (by decide) ?_
    refine go_iload_n (pc := 11) dX4_sumOf_11 rfl rfl ?_
    refine go_imul (pc := 12) dX4_sumOf_12 ?_
    refine go_aload_n (pc := 13) dX4_sumOf_13 rfl rfl ?_
    refine go_iload_n (pc := 14) dX4_sumOf_14 rfl rfl ?_
    obtain ⟨b3, h⟩ := h
    refine gb_iald (pc := 15) (gz_b (by decide)) xw16 b3 dX4_sumOf_15 (fun v2 ev2 => ?_)
    have h := h v2 ev2
    refine go_iadd (pc := 16) dX4_sumOf_16 ?_
    refine go_istore_n (pc := 17) (lv' := [(2, .int ((31 * l2) + v2)), (0, .ref (G.2.1 + 16)), (1, .int l1), (3, .int l3)]) dX4_sumOf_17 rfl (by decide) rfl ?_
    refine go_iinc (pc := 18) (v := l3 + 1) (lv' := [(3, .int (l3 + 1)), (2, .int ((31 * l2) + v2)), (0, .ref (G.2.1 + 16)), (1, .int l1)]) dX4_sumOf_18 3 rfl (by first | rfl | decide) (by decide) rfl ?_
    refine go_goto (pc := 21) (tgt := 4) dX4_sumOf_21 (by decide) ?_
    refine go_lv [2, 3, 1, 0] rfl ?_
    exact hP4 _ _ _ _ h
set_option maxRecDepth 100000 in
set_option maxHeartbeats 4000000 in
theorem tX4_sumOf_16_p4 {l : Launch} {G : gG} {k : Nat} {o : gMem} {Q : Int32 → gMem → Prop} {l1 : Int32} {l2 : Int32} {l3 : Int32} {c : gMem} (h : wX4_sumOf_16_p4 l1 l2 l3 c Q) : Go l G mX4_sumOf (gbq G 0 0 84 k (qi (wX G o) Q)) 4 [(0, .ref (G.2.1 + 16)), (1, .int l1), (2, .int l2), (3, .int l3)] [] 84 k (wX G o c) :=
  h (fun l1 l2 l3 c => Go l G mX4_sumOf (gbq G 0 0 84 k (qi (wX G o) Q)) 4 [(0, .ref (G.2.1 + 16)), (1, .int l1), (2, .int l2), (3, .int l3)] [] 84 k (wX G o c)) (fun l1 l2 l3 c hb => tX4_sumOf_16_p4_b (fun l1 l2 l3 c hh => hh) hb)
def wX4_sumOf_16 (l1 : Int32) (c : gMem) (Q : Int32 → gMem → Prop) : Prop :=
  wX4_sumOf_16_p4 l1 1 0 c Q
set_option maxRecDepth 100000 in
set_option maxHeartbeats 4000000 in
theorem tX4_sumOf_16 {l : Launch} {G : gG} {k : Nat} {o : gMem} {Q : Int32 → gMem → Prop} {l1 : Int32} {c : gMem} (h : wX4_sumOf_16 l1 c Q) : Cq l G mX4_sumOf 0 0 [.ref (G.2.1 + 16), .int l1] 84 k (wX G o c) (qi (wX G o) Q) := by
  refine Cq.of (by decide) (Nat.le_of_ble_eq_true rfl) ?_
  show Go l G mX4_sumOf (gbq G 0 0 84 k (qi (wX G o) Q)) 0 [(0, .ref (G.2.1 + 16)), (1, .int l1)] [] 84 k (wX G o c)
  unfold wX4_sumOf_16 at h
  refine go_iconst (pc := 0) (v := 1) dX4_sumOf_0 (by decide) ?_
  refine go_istore_n (pc := 1) (lv' := [(2, .int 1), (0, .ref (G.2.1 + 16)), (1, .int l1)]) dX4_sumOf_1 rfl (by decide) rfl ?_
  refine go_iconst (pc := 2) (v := 0) dX4_sumOf_2 (by decide) ?_
  refine go_istore_n (pc := 3) (lv' := [(3, .int 0), (2, .int 1), (0, .ref (G.2.1 + 16)), (1, .int l1)]) dX4_sumOf_3 rfl (by decide) rfl ?_
  refine go_lv [2, 3, 1, 0] rfl ?_
  exact tX4_sumOf_16_p4 h
def wX1_firstWrong (l2 : Int32) (c : gMem) (Q : Int32 → gMem → Prop) : Prop :=
  ∀ c1, c1 = mp c 70 0 1 →
  ∀ c2, c2 = mp c1 70 1 l2 →
  wX1_firstWrongInForm c2 (fun r4 c3 =>
  ((r4 = (-1) →
    wX1_noteKept c3 (fun c6 =>
    wX1_firstWrongInMeaning c6 (fun r8 c7 =>
    ((r8 = (-1) →
      c7 70 0 = 1 ∧
      ∀ v11, v11 = c7 70 1 →
      vp_in (v11 - 1) 6527 ∧
      ∀ v12, v12 = c7 16 (v11 - 1).toNatClampNeg →
      c7 70 0 = 1 ∧
      ∀ v15, v15 = c7 70 1 →
      wX4_sumOf_16 (v15 - 1) c7 (fun r17 c16 =>
      ((v12 = r17 →
        Q ((-1)) c16) ∧
       (¬ v12 = r17 →
        ∀ v19, v19 = c16 70 1 →
        Q (v19 - 1) c16)))) ∧
     (¬ r8 = (-1) →
      Q r8 c7))))) ∧
   (¬ r4 = (-1) →
    Q r4 c3)))
set_option maxRecDepth 100000 in
set_option maxHeartbeats 4000000 in
theorem tX1_firstWrong {l : Launch} {G : gG} {k : Nat} {o : gMem} {Q : Int32 → gMem → Prop} {l2 : Int32} {c : gMem} (h : wX1_firstWrong l2 c Q) : Cq l G mX1_firstWrong 6 134 [.ref (G.2.1 + 70), .ref (G.2.1 + 16), .int l2] 84 k (wX G o c) (qi (wX G o) Q) := by
  refine Cq.of (by decide) (Nat.le_of_ble_eq_true rfl) ?_
  show Go l G mX1_firstWrong (gbq G 6 134 84 k (qi (wX G o) Q)) 0 [(0, .ref (G.2.1 + 70)), (1, .ref (G.2.1 + 16)), (2, .int l2)] [] 84 k (wX G o c)
  unfold wX1_firstWrong at h
  refine go_aload_n (pc := 0) dX1_firstWrong_0 rfl rfl ?_
  refine go_aload_n (pc := 1) dX1_firstWrong_1 rfl rfl ?_
  refine gb_put (pc := 2) (F := wX G o) fX1_9 rfl (gz_b (by decide)) xw70 (Nat.le_of_ble_eq_true rfl) rfl rfl xp70_0 dX1_firstWrong_2 (fun c1 ec1 => ?_)
  have h := h c1 ec1
  refine go_aload_n (pc := 5) dX1_firstWrong_5 rfl rfl ?_
  refine go_iload_n (pc := 6) dX1_firstWrong_6 rfl rfl ?_
  refine gb_put (pc := 7) (F := wX G o) fX1_21 rfl (gz_b (by decide)) xw70 (Nat.le_of_ble_eq_true rfl) rfl rfl xp70_1 dX1_firstWrong_7 (fun c2 ec2 => ?_)
  have h := h c2 ec2
  refine go_aload_n (pc := 10) dX1_firstWrong_10 rfl rfl ?_
  refine gq_callV_i (pc := 11) (F := wX G o) vX1_25 rfl (tX1_firstWrongInForm h) rfl rfl (gz_b (by decide)) xw70 rfl (Nat.le_of_ble_eq_true rfl) ⟨Nat.le_of_ble_eq_true rfl, Nat.le_of_ble_eq_true rfl, Nat.le_add_right _ _, Nat.le_add_right _ _⟩ dX1_firstWrong_11 (fun r4 c3 h => ?_)
  refine go_istore_n (pc := 14) (lv' := [(3, .int r4), (0, .ref (G.2.1 + 70)), (1, .ref (G.2.1 + 16)), (2, .int l2)]) dX1_firstWrong_14 rfl (by decide) rfl ?_
  refine go_iload_n (pc := 15) dX1_firstWrong_15 rfl rfl ?_
  refine go_iconst (pc := 16) (v := (-1)) dX1_firstWrong_16 (by decide) ?_
  refine go_icmp_eq (pc := 17) (tgt := 22) dX1_firstWrong_17 (by decide) (fun q5 => ?_) (fun q5 => ?_)
  · have h := h.1 q5
    refine go_aload_n (pc := 22) dX1_firstWrong_22 rfl rfl ?_
    refine gq_callV_v (pc := 23) (F := wX G o) vX1_29 rfl (tX1_noteKept h) rfl rfl (gz_b (by decide)) xw70 rfl (Nat.le_of_ble_eq_true rfl) ⟨Nat.le_of_ble_eq_true rfl, Nat.le_of_ble_eq_true rfl, Nat.le_add_right _ _, Nat.le_add_right _ _⟩ dX1_firstWrong_23 (fun c6 h => ?_)
    refine go_aload_n (pc := 26) dX1_firstWrong_26 rfl rfl ?_
    refine gq_callV_i (pc := 27) (F := wX G o) vX1_32 rfl (tX1_firstWrongInMeaning h) rfl rfl (gz_b (by decide)) xw70 rfl (Nat.le_of_ble_eq_true rfl) ⟨Nat.le_of_ble_eq_true rfl, Nat.le_of_ble_eq_true rfl, Nat.le_add_right _ _, Nat.le_add_right _ _⟩ dX1_firstWrong_27 (fun r8 c7 h => ?_)
    refine go_istore_n (pc := 30) (lv' := [(3, .int r8), (0, .ref (G.2.1 + 70)), (1, .ref (G.2.1 + 16)), (2, .int l2)]) dX1_firstWrong_30 rfl (by decide) rfl ?_
    refine go_iload_n (pc := 31) dX1_firstWrong_31 rfl rfl ?_
    refine go_iconst (pc := 32) (v := (-1)) dX1_firstWrong_32 (by decide) ?_
    refine go_icmp_eq (pc := 33) (tgt := 38) dX1_firstWrong_33 (by decide) (fun q9 => ?_) (fun q9 => ?_)
    · have h := h.1 q9
      refine go_aload_n (pc := 38) dX1_firstWrong_38 rfl rfl ?_
      obtain ⟨b10, h⟩ := h
      refine go_get (pc := 39) fX1_9 rfl (gz_b (by decide)) xw70 rfl dX1_firstWrong_39 ?_
      refine gb_ref (b := G.2.1 + 16) (if_pos b10) ?_
      refine go_aload_n (pc := 42) dX1_firstWrong_42 rfl rfl ?_
      refine gb_get (pc := 43) fX1_21 rfl (gz_b (by decide)) xw70 rfl dX1_firstWrong_43 (fun v11 ev11 => ?_)
      have h := h v11 ev11
      refine go_iconst (pc := 46) (v := 1) dX1_firstWrong_46 (by decide) ?_
      refine go_isub (pc := 47) dX1_firstWrong_47 ?_
      obtain ⟨b13, h⟩ := h
      refine gb_iald (pc := 48) (gz_b (by decide)) xw16 b13 dX1_firstWrong_48 (fun v12 ev12 => ?_)
      have h := h v12 ev12
      refine go_aload_n (pc := 49) dX1_firstWrong_49 rfl rfl ?_
      obtain ⟨b14, h⟩ := h
      refine go_get (pc := 50) fX1_9 rfl (gz_b (by decide)) xw70 rfl dX1_firstWrong_50 ?_
      refine gb_ref (b := G.2.1 + 16) (if_pos b14) ?_
      refine go_aload_n (pc := 53) dX1_firstWrong_53 rfl rfl ?_
      refine gb_get (pc := 54) fX1_21 rfl (gz_b (by decide)) xw70 rfl dX1_firstWrong_54 (fun v15 ev15 => ?_)
      have h := h v15 ev15
      refine go_iconst (pc := 57) (v := 1) dX1_firstWrong_57 (by decide) ?_
      refine go_isub (pc := 58) dX1_firstWrong_58 ?_
      refine gq_callS_i (pc := 59) (F := wX G o) sX1_35 rfl (tX4_sumOf_16 h) rfl rfl (Nat.le_of_ble_eq_true rfl) ⟨Nat.le_of_ble_eq_true rfl, Nat.le_of_ble_eq_true rfl, Nat.le_add_right _ _, Nat.le_add_right _ _⟩ dX1_firstWrong_59 (fun r17 c16 h => ?_)
      refine go_icmp_ne (pc := 62) (tgt := 69) dX1_firstWrong_62 (by decide) (fun q18 => ?_) (fun q18 => ?_)
      · have h := h.2 q18
        refine go_aload_n (pc := 69) dX1_firstWrong_69 rfl rfl ?_
        refine gb_get (pc := 70) fX1_21 rfl (gz_b (by decide)) xw70 rfl dX1_firstWrong_70 (fun v19 ev19 => ?_)
        have h := h v19 ev19
        refine go_iconst (pc := 73) (v := 1) dX1_firstWrong_73 (by decide) ?_
        refine go_isub (pc := 74) dX1_firstWrong_74 ?_
        exact gq_iret (pc := 75) (F := wX G o) rfl dX1_firstWrong_75 h
      · have h := h.1 q18
        refine go_iconst (pc := 65) (v := (-1)) dX1_firstWrong_65 (by decide) ?_
        refine go_goto (pc := 66) (tgt := 75) dX1_firstWrong_66 (by decide) ?_
        exact gq_iret (pc := 75) (F := wX G o) rfl dX1_firstWrong_75 h
    · have h := h.2 q9
      refine go_iload_n (pc := 36) dX1_firstWrong_36 rfl rfl ?_
      exact gq_iret (pc := 37) (F := wX G o) rfl dX1_firstWrong_37 h
  · have h := h.2 q5
    refine go_iload_n (pc := 20) dX1_firstWrong_20 rfl rfl ?_
    exact gq_iret (pc := 21) (F := wX G o) rfl dX1_firstWrong_21 h
def wX9_check (c : gMem) (Q : Int32 → gMem → Prop) : Prop :=
  ∀ v1, v1 = c 14 0 →
  ((v1 = 0 →
    Q ((-104)) c) ∧
   (¬ v1 = 0 →
    ∀ v3, v3 = c 14 0 →
    wX1_firstWrong v3 c (fun r5 c4 =>
    Q r5 c4)))
set_option maxRecDepth 100000 in
set_option maxHeartbeats 4000000 in
theorem tX9_check {l : Launch} {G : gG} {k : Nat} {o : gMem} {Q : Int32 → gMem → Prop} {c : gMem} (h : wX9_check c Q) : Cq l G mX9_check 7 157 [.ref (G.2.1 + 0)] 84 k (wX G o c) (qi (wX G o) Q) := by
  refine Cq.of (by decide) (Nat.le_of_ble_eq_true rfl) ?_
  show Go l G mX9_check (gbq G 7 157 84 k (qi (wX G o) Q)) 0 [(0, .ref (G.2.1 + 0))] [] 84 k (wX G o c)
  unfold wX9_check at h
  refine go_aload_n (pc := 0) dX9_check_0 rfl rfl ?_
  refine go_get (pc := 1) fX9_12 rfl (gz_b (by decide)) xw0 rfl dX9_check_1 ?_
  refine go_get (pc := 4) fX9_267 rfl (gz_b (by decide)) xw1 rfl dX9_check_4 ?_
  refine gb_get (pc := 7) fX9_271 rfl (gz_b (by decide)) xw14 rfl dX9_check_7 (fun v1 ev1 => ?_)
  have h := h v1 ev1
  refine go_if_ne (pc := 10) (tgt := 18) dX9_check_10 (by decide) (fun q2 => ?_) (fun q2 => ?_)
  · have h := h.2 q2
    refine go_aload_n (pc := 18) dX9_check_18 rfl rfl ?_
    refine go_get (pc := 19) fX9_47 rfl (gz_b (by decide)) xw0 rfl dX9_check_19 ?_
    refine go_aload_n (pc := 22) dX9_check_22 rfl rfl ?_
    refine go_get (pc := 23) fX9_12 rfl (gz_b (by decide)) xw0 rfl dX9_check_23 ?_
    refine go_get (pc := 26) fX9_267 rfl (gz_b (by decide)) xw1 rfl dX9_check_26 ?_
    refine go_get (pc := 29) fX9_276 rfl (gz_b (by decide)) xw14 rfl dX9_check_29 ?_
    refine go_aload_n (pc := 32) dX9_check_32 rfl rfl ?_
    refine go_get (pc := 33) fX9_12 rfl (gz_b (by decide)) xw0 rfl dX9_check_33 ?_
    refine go_get (pc := 36) fX9_267 rfl (gz_b (by decide)) xw1 rfl dX9_check_36 ?_
    refine gb_get (pc := 39) fX9_271 rfl (gz_b (by decide)) xw14 rfl dX9_check_39 (fun v3 ev3 => ?_)
    have h := h v3 ev3
    refine gq_callV_i (pc := 42) (F := wX G o) vX9_282 rfl (tX1_firstWrong h) rfl rfl (gz_b (by decide)) xw70 rfl (Nat.le_of_ble_eq_true rfl) ⟨Nat.le_of_ble_eq_true rfl, Nat.le_of_ble_eq_true rfl, Nat.le_add_right _ _, Nat.le_add_right _ _⟩ dX9_check_42 (fun r5 c4 h => ?_)
    exact gq_iret (pc := 45) (F := wX G o) rfl dX9_check_45 h
  · have h := h.1 q2
    refine go_bipush (pc := 13) (v := (-104)) dX9_check_13 (by decide) ?_
    refine go_goto (pc := 15) (tgt := 45) dX9_check_15 (by decide) ?_
    exact gq_iret (pc := 45) (F := wX G o) rfl dX9_check_45 h
def wX9_isNoName_p13 (c : gMem) (Q : Int32 → gMem → Prop) : Prop :=
  Q 1 c
set_option maxRecDepth 100000 in
set_option maxHeartbeats 4000000 in
theorem tX9_isNoName_p13 {l : Launch} {G : gG} {k : Nat} {o : gMem} {Q : Int32 → gMem → Prop} {c : gMem} (h : wX9_isNoName_p13 c Q) : Go l G mX9_isNoName (gbq G 0 0 84 k (qi (wX G o) Q)) 13 [] [] 84 k (wX G o c) := by
  unfold wX9_isNoName_p13 at h
  refine go_iconst (pc := 13) (v := 1) dX9_isNoName_13 (by decide) ?_
  refine go_goto (pc := 14) (tgt := 18) dX9_isNoName_14 (by decide) ?_
  exact gq_zret (pc := 18) (F := wX G o) rfl (by decide) dX9_isNoName_18 h
def wX9_isNoName (l0 : Int32) (l1 : Int32) (c : gMem) (Q : Int32 → gMem → Prop) : Prop :=
  ((l0 ≤ 0 →
    Q 0 c) ∧
   (¬ l0 ≤ 0 →
    ((l1 < 0 →
      wX9_isNoName_p13 c Q) ∧
     (¬ l1 < 0 →
      ((l1 < l0 →
        Q 0 c) ∧
       (¬ l1 < l0 →
        wX9_isNoName_p13 c Q))))))
set_option maxRecDepth 100000 in
set_option maxHeartbeats 4000000 in
theorem tX9_isNoName {l : Launch} {G : gG} {k : Nat} {o : gMem} {Q : Int32 → gMem → Prop} {l0 : Int32} {l1 : Int32} {c : gMem} (h : wX9_isNoName l0 l1 c Q) : Cq l G mX9_isNoName 0 0 [.int l0, .int l1] 84 k (wX G o c) (qi (wX G o) Q) := by
  refine Cq.of (by decide) (Nat.le_of_ble_eq_true rfl) ?_
  show Go l G mX9_isNoName (gbq G 0 0 84 k (qi (wX G o) Q)) 0 [(0, .int l0), (1, .int l1)] [] 84 k (wX G o c)
  unfold wX9_isNoName at h
  refine go_iload_n (pc := 0) dX9_isNoName_0 rfl rfl ?_
  refine go_if_le (pc := 1) (tgt := 17) dX9_isNoName_1 (by decide) (fun q1 => ?_) (fun q1 => ?_)
  · have h := h.1 q1
    refine go_iconst (pc := 17) (v := 0) dX9_isNoName_17 (by decide) ?_
    exact gq_zret (pc := 18) (F := wX G o) rfl (by decide) dX9_isNoName_18 h
  · have h := h.2 q1
    refine go_iload_n (pc := 4) dX9_isNoName_4 rfl rfl ?_
    refine go_if_lt (pc := 5) (tgt := 13) dX9_isNoName_5 (by decide) (fun q2 => ?_) (fun q2 => ?_)
    · have h := h.1 q2
      refine go_lv [] rfl ?_
      exact tX9_isNoName_p13 h
    · have h := h.2 q2
      refine go_iload_n (pc := 8) dX9_isNoName_8 rfl rfl ?_
      refine go_iload_n (pc := 9) dX9_isNoName_9 rfl rfl ?_
      refine go_icmp_lt (pc := 10) (tgt := 17) dX9_isNoName_10 (by decide) (fun q3 => ?_) (fun q3 => ?_)
      · have h := h.1 q3
        refine go_iconst (pc := 17) (v := 0) dX9_isNoName_17 (by decide) ?_
        exact gq_zret (pc := 18) (F := wX G o) rfl (by decide) dX9_isNoName_18 h
      · have h := h.2 q3
        refine go_lv [] rfl ?_
        exact tX9_isNoName_p13 h
def wX5_add (l1 : Int32) (l2 : Int32) (l3 : Int32) (l4 : Int32) (l5 : Int32) (c : gMem) (Q : gMem → Prop) : Prop :=
  ∀ v1, v1 = c 17 0 →
  vp_in (v1 * 5) 200 ∧
  ∀ c2, c2 = mp c 18 (v1 * 5).toNatClampNeg l1 →
  vp_in ((v1 * 5) + 1) 200 ∧
  ∀ c4, c4 = mp c2 18 ((v1 * 5) + 1).toNatClampNeg l2 →
  vp_in ((v1 * 5) + 2) 200 ∧
  ∀ c6, c6 = mp c4 18 ((v1 * 5) + 2).toNatClampNeg l3 →
  vp_in ((v1 * 5) + 3) 200 ∧
  ∀ c8, c8 = mp c6 18 ((v1 * 5) + 3).toNatClampNeg l4 →
  vp_in ((v1 * 5) + 4) 200 ∧
  ∀ c10, c10 = mp c8 18 ((v1 * 5) + 4).toNatClampNeg l5 →
  ∀ v12, v12 = c10 17 0 →
  ∀ c13, c13 = mp c10 17 0 (v12 + 1) →
  Q c13
set_option maxRecDepth 100000 in
set_option maxHeartbeats 4000000 in
theorem tX5_add {l : Launch} {G : gG} {k : Nat} {o : gMem} {Q : gMem → Prop} {l1 : Int32} {l2 : Int32} {l3 : Int32} {l4 : Int32} {l5 : Int32} {c : gMem} (h : wX5_add l1 l2 l3 l4 l5 c Q) : Cq l G mX5_add 0 0 [.ref (G.2.1 + 17), .int l1, .int l2, .int l3, .int l4, .int l5] 84 k (wX G o c) (qv (wX G o) Q) := by
  refine Cq.of (by decide) (Nat.le_of_ble_eq_true rfl) ?_
  show Go l G mX5_add (gbq G 0 0 84 k (qv (wX G o) Q)) 0 [(0, .ref (G.2.1 + 17)), (1, .int l1), (2, .int l2), (3, .int l3), (4, .int l4), (5, .int l5)] [] 84 k (wX G o c)
  unfold wX5_add at h
  refine go_aload_n (pc := 0) dX5_add_0 rfl rfl ?_
  refine gb_get (pc := 1) fX5_18 rfl (gz_b (by decide)) xw17 rfl dX5_add_1 (fun v1 ev1 => ?_)
  have h := h v1 ev1
  refine go_iconst (pc := 4) (v := 5) dX5_add_4 (by decide) ?_
  refine go_imul (pc := 5) dX5_add_5 ?_
  refine go_istore (pc := 6) (lv' := [(6, .int (v1 * 5)), (0, .ref (G.2.1 + 17)), (1, .int l1), (2, .int l2), (3, .int l3), (4, .int l4), (5, .int l5)]) dX5_add_6 (by decide) rfl ?_
  refine go_aload_n (pc := 8) dX5_add_8 rfl rfl ?_
  refine go_get (pc := 9) fX5_9 rfl (gz_b (by decide)) xw17 rfl dX5_add_9 ?_
  refine go_iload (pc := 12) dX5_add_12 rfl ?_
  refine go_iload_n (pc := 14) dX5_add_14 rfl rfl ?_
  obtain ⟨b3, h⟩ := h
  refine gb_iast (pc := 15) (F := wX G o) (gz_b (by decide)) xw18 b3 xa18 dX5_add_15 (fun c2 ec2 => ?_)
  have h := h c2 ec2
  refine go_aload_n (pc := 16) dX5_add_16 rfl rfl ?_
  refine go_get (pc := 17) fX5_9 rfl (gz_b (by decide)) xw17 rfl dX5_add_17 ?_
  refine go_iload (pc := 20) dX5_add_20 rfl ?_
  refine go_iconst (pc := 22) (v := 1) dX5_add_22 (by decide) ?_
  refine go_iadd (pc := 23) dX5_add_23 ?_
  refine go_iload_n (pc := 24) dX5_add_24 rfl rfl ?_
  obtain ⟨b5, h⟩ := h
  refine gb_iast (pc := 25) (F := wX G o) (gz_b (by decide)) xw18 b5 xa18 dX5_add_25 (fun c4 ec4 => ?_)
  have h := h c4 ec4
  refine go_aload_n (pc := 26) dX5_add_26 rfl rfl ?_
  refine go_get (pc := 27) fX5_9 rfl (gz_b (by decide)) xw17 rfl dX5_add_27 ?_
  refine go_iload (pc := 30) dX5_add_30 rfl ?_
  refine go_iconst (pc := 32) (v := 2) dX5_add_32 (by decide) ?_
  refine go_iadd (pc := 33) dX5_add_33 ?_
  refine go_iload_n (pc := 34) dX5_add_34 rfl rfl ?_
  obtain ⟨b7, h⟩ := h
  refine gb_iast (pc := 35) (F := wX G o) (gz_b (by decide)) xw18 b7 xa18 dX5_add_35 (fun c6 ec6 => ?_)
  have h := h c6 ec6
  refine go_aload_n (pc := 36) dX5_add_36 rfl rfl ?_
  refine go_get (pc := 37) fX5_9 rfl (gz_b (by decide)) xw17 rfl dX5_add_37 ?_
  refine go_iload (pc := 40) dX5_add_40 rfl ?_
  refine go_iconst (pc := 42) (v := 3) dX5_add_42 (by decide) ?_
  refine go_iadd (pc := 43) dX5_add_43 ?_
  refine go_iload (pc := 44) dX5_add_44 rfl ?_
  obtain ⟨b9, h⟩ := h
  refine gb_iast (pc := 46) (F := wX G o) (gz_b (by decide)) xw18 b9 xa18 dX5_add_46 (fun c8 ec8 => ?_)
  have h := h c8 ec8
  refine go_aload_n (pc := 47) dX5_add_47 rfl rfl ?_
  refine go_get (pc := 48) fX5_9 rfl (gz_b (by decide)) xw17 rfl dX5_add_48 ?_
  refine go_iload (pc := 51) dX5_add_51 rfl ?_
  refine go_iconst (pc := 53) (v := 4) dX5_add_53 (by decide) ?_
  refine go_iadd (pc := 54) dX5_add_54 ?_
  refine go_iload (pc := 55) dX5_add_55 rfl ?_
  obtain ⟨b11, h⟩ := h
  refine gb_iast (pc := 57) (F := wX G o) (gz_b (by decide)) xw18 b11 xa18 dX5_add_57 (fun c10 ec10 => ?_)
  have h := h c10 ec10
  refine go_aload_n (pc := 58) dX5_add_58 rfl rfl ?_
  refine go_dup (pc := 59) dX5_add_59 rfl ?_
  refine gb_get (pc := 60) fX5_18 rfl (gz_b (by decide)) xw17 rfl dX5_add_60 (fun v12 ev12 => ?_)
  have h := h v12 ev12
  refine go_iconst (pc := 63) (v := 1) dX5_add_63 (by decide) ?_
  refine go_iadd (pc := 64) dX5_add_64 ?_
  refine gb_put (pc := 65) (F := wX G o) fX5_18 rfl (gz_b (by decide)) xw17 (Nat.le_of_ble_eq_true rfl) rfl rfl xp17_0 dX5_add_65 (fun c13 ec13 => ?_)
  have h := h c13 ec13
  exact gq_vret (pc := 68) (F := wX G o) rfl dX5_add_68 h
def wX9_act_p86 (l1 : Int32) (l2 : Int32) (l3 : Int32) (l4 : Int32) (l5 : Int32) (c : gMem) (Q : Int32 → gMem → Prop) : Prop :=
  ∀ v1, v1 = c 17 0 →
  ((v1 < 40 →
    wX5_add l1 l2 l3 l4 l5 c (fun c3 =>
    ∀ v4, v4 = c3 17 0 →
    Q v4 c3)) ∧
   (¬ v1 < 40 →
    Q ((-104)) c))
set_option maxRecDepth 100000 in
set_option maxHeartbeats 4000000 in
theorem tX9_act_p86 {l : Launch} {G : gG} {k : Nat} {o : gMem} {Q : Int32 → gMem → Prop} {l1 : Int32} {l2 : Int32} {l3 : Int32} {l4 : Int32} {l5 : Int32} {c : gMem} (h : wX9_act_p86 l1 l2 l3 l4 l5 c Q) : Go l G mX9_act (gbq G 2 41 84 k (qi (wX G o) Q)) 86 [(0, .ref (G.2.1 + 0)), (1, .int l1), (2, .int l2), (3, .int l3), (4, .int l4), (5, .int l5)] [] 84 k (wX G o c) := by
  unfold wX9_act_p86 at h
  refine go_aload_n (pc := 86) dX9_act_86 rfl rfl ?_
  refine go_get (pc := 87) fX9_12 rfl (gz_b (by decide)) xw0 rfl dX9_act_87 ?_
  refine go_get (pc := 90) fX9_242 rfl (gz_b (by decide)) xw1 rfl dX9_act_90 ?_
  refine gb_get (pc := 93) fX9_246 rfl (gz_b (by decide)) xw17 rfl dX9_act_93 (fun v1 ev1 => ?_)
  have h := h v1 ev1
  refine go_bipush (pc := 96) (v := 40) dX9_act_96 (by decide) ?_
  refine go_icmp_lt (pc := 98) (tgt := 104) dX9_act_98 (by decide) (fun q2 => ?_) (fun q2 => ?_)
  · have h := h.1 q2
    refine go_aload_n (pc := 104) dX9_act_104 rfl rfl ?_
    refine go_get (pc := 105) fX9_12 rfl (gz_b (by decide)) xw0 rfl dX9_act_105 ?_
    refine go_get (pc := 108) fX9_242 rfl (gz_b (by decide)) xw1 rfl dX9_act_108 ?_
    refine go_iload_n (pc := 111) dX9_act_111 rfl rfl ?_
    refine go_iload_n (pc := 112) dX9_act_112 rfl rfl ?_
    refine go_iload_n (pc := 113) dX9_act_113 rfl rfl ?_
    refine go_iload (pc := 114) dX9_act_114 rfl ?_
    refine go_iload (pc := 116) dX9_act_116 rfl ?_
    refine gq_callV_v (pc := 118) (F := wX G o) vX9_298 rfl (tX5_add h) rfl rfl (gz_b (by decide)) xw17 rfl (Nat.le_of_ble_eq_true rfl) ⟨Nat.le_of_ble_eq_true rfl, Nat.le_of_ble_eq_true rfl, Nat.le_add_right _ _, Nat.le_add_right _ _⟩ dX9_act_118 (fun c3 h => ?_)
    refine go_aload_n (pc := 121) dX9_act_121 rfl rfl ?_
    refine go_get (pc := 122) fX9_12 rfl (gz_b (by decide)) xw0 rfl dX9_act_122 ?_
    refine go_get (pc := 125) fX9_242 rfl (gz_b (by decide)) xw1 rfl dX9_act_125 ?_
    refine gb_get (pc := 128) fX9_246 rfl (gz_b (by decide)) xw17 rfl dX9_act_128 (fun v4 ev4 => ?_)
    have h := h v4 ev4
    exact gq_iret (pc := 131) (F := wX G o) rfl dX9_act_131 h
  · have h := h.2 q2
    refine go_bipush (pc := 101) (v := (-104)) dX9_act_101 (by decide) ?_
    exact gq_iret (pc := 103) (F := wX G o) rfl dX9_act_103 h
def wX9_act_p66 (l1 : Int32) (l2 : Int32) (l3 : Int32) (l4 : Int32) (l5 : Int32) (c : gMem) (Q : Int32 → gMem → Prop) : Prop :=
  ((l1 = 9 →
    ((l2 < 0 →
      Q ((-102)) c) ∧
     (¬ l2 < 0 →
      ((l2 ≤ 1000 →
        wX9_act_p86 l1 l2 l3 l4 l5 c Q) ∧
       (¬ l2 ≤ 1000 →
        Q ((-102)) c))))) ∧
   (¬ l1 = 9 →
    wX9_act_p86 l1 l2 l3 l4 l5 c Q))
set_option maxRecDepth 100000 in
set_option maxHeartbeats 4000000 in
theorem tX9_act_p66 {l : Launch} {G : gG} {k : Nat} {o : gMem} {Q : Int32 → gMem → Prop} {l1 : Int32} {l2 : Int32} {l3 : Int32} {l4 : Int32} {l5 : Int32} {c : gMem} (h : wX9_act_p66 l1 l2 l3 l4 l5 c Q) : Go l G mX9_act (gbq G 2 41 84 k (qi (wX G o) Q)) 66 [(0, .ref (G.2.1 + 0)), (1, .int l1), (2, .int l2), (3, .int l3), (4, .int l4), (5, .int l5)] [] 84 k (wX G o c) := by
  unfold wX9_act_p66 at h
  refine go_iload_n (pc := 66) dX9_act_66 rfl rfl ?_
  refine go_bipush (pc := 67) (v := 9) dX9_act_67 (by decide) ?_
  refine go_icmp_ne (pc := 69) (tgt := 86) dX9_act_69 (by decide) (fun q1 => ?_) (fun q1 => ?_)
  · have h := h.2 q1
    refine go_lv [0, 1, 2, 3, 4, 5] rfl ?_
    exact tX9_act_p86 h
  · have h := h.1 q1
    refine go_iload_n (pc := 72) dX9_act_72 rfl rfl ?_
    refine go_if_lt (pc := 73) (tgt := 83) dX9_act_73 (by decide) (fun q2 => ?_) (fun q2 => ?_)
    · have h := h.1 q2
      refine go_bipush (pc := 83) (v := (-102)) dX9_act_83 (by decide) ?_
      exact gq_iret (pc := 85) (F := wX G o) rfl dX9_act_85 h
    · have h := h.2 q2
      refine go_iload_n (pc := 76) dX9_act_76 rfl rfl ?_
      refine go_sipush (pc := 77) (v := 1000) dX9_act_77 (by decide) ?_
      refine go_icmp_le (pc := 80) (tgt := 86) dX9_act_80 (by decide) (fun q3 => ?_) (fun q3 => ?_)
      · have h := h.1 q3
        refine go_lv [0, 1, 2, 3, 4, 5] rfl ?_
        exact tX9_act_p86 h
      · have h := h.2 q3
        refine go_bipush (pc := 83) (v := (-102)) dX9_act_83 (by decide) ?_
        exact gq_iret (pc := 85) (F := wX G o) rfl dX9_act_85 h
def wX9_act (l1 : Int32) (l2 : Int32) (l3 : Int32) (l4 : Int32) (l5 : Int32) (c : gMem) (Q : Int32 → gMem → Prop) : Prop :=
  ((l1 < 0 →
    Q ((-102)) c) ∧
   (¬ l1 < 0 →
    ((l1 ≤ 12 →
      vp_in l1 13 ∧
      ∀ v3, v3 = (gs_n 5).2.2.getD l1.toNatClampNeg 0 →
      wX9_isNoName v3 l2 c (fun r6 c5 =>
      ((r6 = 0 →
        vp_in l1 13 ∧
        ∀ v8, v8 = (gs_n 6).2.2.getD l1.toNatClampNeg 0 →
        wX9_isNoName v8 l3 c5 (fun r11 c10 =>
        ((r11 = 0 →
          vp_in l1 13 ∧
          ∀ v13, v13 = (gs_n 7).2.2.getD l1.toNatClampNeg 0 →
          wX9_isNoName v13 l4 c10 (fun r16 c15 =>
          ((r16 = 0 →
            ((l1 = 0 →
              wX9_isOutsideOfMaking l3 l4 c15 (fun r20 c19 =>
              ((r20 = 0 →
                wX9_act_p66 l1 l2 l3 l4 l5 c19 Q) ∧
               (¬ r20 = 0 →
                Q ((-102)) c19)))) ∧
             (¬ l1 = 0 →
              wX9_act_p66 l1 l2 l3 l4 l5 c15 Q))) ∧
           (¬ r16 = 0 →
            Q ((-101)) c15)))) ∧
         (¬ r11 = 0 →
          Q ((-101)) c10)))) ∧
       (¬ r6 = 0 →
        Q ((-101)) c5)))) ∧
     (¬ l1 ≤ 12 →
      Q ((-102)) c))))
set_option maxRecDepth 100000 in
set_option maxHeartbeats 4000000 in
theorem tX9_act {l : Launch} {G : gG} {k : Nat} {o : gMem} {Q : Int32 → gMem → Prop} {l1 : Int32} {l2 : Int32} {l3 : Int32} {l4 : Int32} {l5 : Int32} {c : gMem} (h : wX9_act l1 l2 l3 l4 l5 c Q) : Cq l G mX9_act 2 41 [.ref (G.2.1 + 0), .int l1, .int l2, .int l3, .int l4, .int l5] 84 k (wX G o c) (qi (wX G o) Q) := by
  refine Cq.of (by decide) (Nat.le_of_ble_eq_true rfl) ?_
  show Go l G mX9_act (gbq G 2 41 84 k (qi (wX G o) Q)) 0 [(0, .ref (G.2.1 + 0)), (1, .int l1), (2, .int l2), (3, .int l3), (4, .int l4), (5, .int l5)] [] 84 k (wX G o c)
  unfold wX9_act at h
  refine go_iload_n (pc := 0) dX9_act_0 rfl rfl ?_
  refine go_if_lt (pc := 1) (tgt := 10) dX9_act_1 (by decide) (fun q1 => ?_) (fun q1 => ?_)
  · have h := h.1 q1
    refine go_bipush (pc := 10) (v := (-102)) dX9_act_10 (by decide) ?_
    exact gq_iret (pc := 12) (F := wX G o) rfl dX9_act_12 h
  · have h := h.2 q1
    refine go_iload_n (pc := 4) dX9_act_4 rfl rfl ?_
    refine go_bipush (pc := 5) (v := 12) dX9_act_5 (by decide) ?_
    refine go_icmp_le (pc := 7) (tgt := 13) dX9_act_7 (by decide) (fun q2 => ?_) (fun q2 => ?_)
    · have h := h.1 q2
      refine go_gets (pc := 13) (i := 5) (by decide) rfl tX9_286 dX9_act_13 ?_
      refine go_iload_n (pc := 16) dX9_act_16 rfl rfl ?_
      obtain ⟨b4, h⟩ := h
      refine gb_tald (pc := 17) (i := 5) (by decide) b4 dX9_act_17 (fun v3 ev3 => ?_)
      have h := h v3 ev3
      refine go_iload_n (pc := 18) dX9_act_18 rfl rfl ?_
      refine gq_callS_i (pc := 19) (F := wX G o) sX9_289 rfl (tX9_isNoName h) rfl rfl (Nat.le_of_ble_eq_true rfl) ⟨Nat.le_of_ble_eq_true rfl, Nat.le_of_ble_eq_true rfl, Nat.le_add_right _ _, Nat.le_add_right _ _⟩ dX9_act_19 (fun r6 c5 h => ?_)
      refine go_if_ne (pc := 22) (tgt := 50) dX9_act_22 (by decide) (fun q7 => ?_) (fun q7 => ?_)
      · have h := h.2 q7
        refine go_bipush (pc := 50) (v := (-101)) dX9_act_50 (by decide) ?_
        exact gq_iret (pc := 52) (F := wX G o) rfl dX9_act_52 h
      · have h := h.1 q7
        refine go_gets (pc := 25) (i := 6) (by decide) rfl tX9_292 dX9_act_25 ?_
        refine go_iload_n (pc := 28) dX9_act_28 rfl rfl ?_
        obtain ⟨b9, h⟩ := h
        refine gb_tald (pc := 29) (i := 6) (by decide) b9 dX9_act_29 (fun v8 ev8 => ?_)
        have h := h v8 ev8
        refine go_iload_n (pc := 30) dX9_act_30 rfl rfl ?_
        refine gq_callS_i (pc := 31) (F := wX G o) sX9_289 rfl (tX9_isNoName h) rfl rfl (Nat.le_of_ble_eq_true rfl) ⟨Nat.le_of_ble_eq_true rfl, Nat.le_of_ble_eq_true rfl, Nat.le_add_right _ _, Nat.le_add_right _ _⟩ dX9_act_31 (fun r11 c10 h => ?_)
        refine go_if_ne (pc := 34) (tgt := 50) dX9_act_34 (by decide) (fun q12 => ?_) (fun q12 => ?_)
        · have h := h.2 q12
          refine go_bipush (pc := 50) (v := (-101)) dX9_act_50 (by decide) ?_
          exact gq_iret (pc := 52) (F := wX G o) rfl dX9_act_52 h
        · have h := h.1 q12
          refine go_gets (pc := 37) (i := 7) (by decide) rfl tX9_295 dX9_act_37 ?_
          refine go_iload_n (pc := 40) dX9_act_40 rfl rfl ?_
          obtain ⟨b14, h⟩ := h
          refine gb_tald (pc := 41) (i := 7) (by decide) b14 dX9_act_41 (fun v13 ev13 => ?_)
          have h := h v13 ev13
          refine go_iload (pc := 42) dX9_act_42 rfl ?_
          refine gq_callS_i (pc := 44) (F := wX G o) sX9_289 rfl (tX9_isNoName h) rfl rfl (Nat.le_of_ble_eq_true rfl) ⟨Nat.le_of_ble_eq_true rfl, Nat.le_of_ble_eq_true rfl, Nat.le_add_right _ _, Nat.le_add_right _ _⟩ dX9_act_44 (fun r16 c15 h => ?_)
          refine go_if_eq (pc := 47) (tgt := 53) dX9_act_47 (by decide) (fun q17 => ?_) (fun q17 => ?_)
          · have h := h.1 q17
            refine go_iload_n (pc := 53) dX9_act_53 rfl rfl ?_
            refine go_if_ne (pc := 54) (tgt := 66) dX9_act_54 (by decide) (fun q18 => ?_) (fun q18 => ?_)
            · have h := h.2 q18
              refine go_lv [0, 1, 2, 3, 4, 5] rfl ?_
              exact tX9_act_p66 h
            · have h := h.1 q18
              refine go_iload_n (pc := 57) dX9_act_57 rfl rfl ?_
              refine go_iload (pc := 58) dX9_act_58 rfl ?_
              refine gq_callS_i (pc := 60) (F := wX G o) sX9_72 rfl (tX9_isOutsideOfMaking h) rfl rfl (Nat.le_of_ble_eq_true rfl) ⟨Nat.le_of_ble_eq_true rfl, Nat.le_of_ble_eq_true rfl, Nat.le_add_right _ _, Nat.le_add_right _ _⟩ dX9_act_60 (fun r20 c19 h => ?_)
              refine go_if_ne (pc := 63) (tgt := 83) dX9_act_63 (by decide) (fun q21 => ?_) (fun q21 => ?_)
              · have h := h.2 q21
                refine go_bipush (pc := 83) (v := (-102)) dX9_act_83 (by decide) ?_
                exact gq_iret (pc := 85) (F := wX G o) rfl dX9_act_85 h
              · have h := h.1 q21
                refine go_lv [0, 1, 2, 3, 4, 5] rfl ?_
                exact tX9_act_p66 h
          · have h := h.2 q17
            refine go_bipush (pc := 50) (v := (-101)) dX9_act_50 (by decide) ?_
            exact gq_iret (pc := 52) (F := wX G o) rfl dX9_act_52 h
    · have h := h.2 q2
      refine go_bipush (pc := 10) (v := (-102)) dX9_act_10 (by decide) ?_
      exact gq_iret (pc := 12) (F := wX G o) rfl dX9_act_12 h
def wX9_clear (c : gMem) (Q : Int32 → gMem → Prop) : Prop :=
  ∀ v1, v1 = c 17 0 →
  ∀ c2, c2 = mp c 17 0 0 →
  ∀ c3, c3 = mp c2 17 1 0 →
  Q v1 c3
set_option maxRecDepth 100000 in
set_option maxHeartbeats 4000000 in
theorem tX9_clear {l : Launch} {G : gG} {k : Nat} {o : gMem} {Q : Int32 → gMem → Prop} {c : gMem} (h : wX9_clear c Q) : Cq l G mX9_clear 0 0 [.ref (G.2.1 + 0)] 84 k (wX G o c) (qi (wX G o) Q) := by
  refine Cq.of (by decide) (Nat.le_of_ble_eq_true rfl) ?_
  show Go l G mX9_clear (gbq G 0 0 84 k (qi (wX G o) Q)) 0 [(0, .ref (G.2.1 + 0))] [] 84 k (wX G o c)
  unfold wX9_clear at h
  refine go_aload_n (pc := 0) dX9_clear_0 rfl rfl ?_
  refine go_get (pc := 1) fX9_12 rfl (gz_b (by decide)) xw0 rfl dX9_clear_1 ?_
  refine go_get (pc := 4) fX9_242 rfl (gz_b (by decide)) xw1 rfl dX9_clear_4 ?_
  refine gb_get (pc := 7) fX9_246 rfl (gz_b (by decide)) xw17 rfl dX9_clear_7 (fun v1 ev1 => ?_)
  have h := h v1 ev1
  refine go_istore_n (pc := 10) (lv' := [(1, .int v1), (0, .ref (G.2.1 + 0))]) dX9_clear_10 rfl (by decide) rfl ?_
  refine go_aload_n (pc := 11) dX9_clear_11 rfl rfl ?_
  refine go_get (pc := 12) fX9_12 rfl (gz_b (by decide)) xw0 rfl dX9_clear_12 ?_
  refine go_get (pc := 15) fX9_242 rfl (gz_b (by decide)) xw1 rfl dX9_clear_15 ?_
  refine go_iconst (pc := 18) (v := 0) dX9_clear_18 (by decide) ?_
  refine gb_put (pc := 19) (F := wX G o) fX9_246 rfl (gz_b (by decide)) xw17 (Nat.le_of_ble_eq_true rfl) rfl rfl xp17_0 dX9_clear_19 (fun c2 ec2 => ?_)
  have h := h c2 ec2
  refine go_aload_n (pc := 22) dX9_clear_22 rfl rfl ?_
  refine go_get (pc := 23) fX9_12 rfl (gz_b (by decide)) xw0 rfl dX9_clear_23 ?_
  refine go_get (pc := 26) fX9_242 rfl (gz_b (by decide)) xw1 rfl dX9_clear_26 ?_
  refine go_iconst (pc := 29) (v := 0) dX9_clear_29 (by decide) ?_
  refine gb_put (pc := 30) (F := wX G o) fX9_249 rfl (gz_b (by decide)) xw17 (Nat.le_of_ble_eq_true rfl) rfl rfl xp17_1 dX9_clear_30 (fun c3 ec3 => ?_)
  have h := h c3 ec3
  refine go_iload_n (pc := 33) dX9_clear_33 rfl rfl ?_
  exact gq_iret (pc := 34) (F := wX G o) rfl dX9_clear_34 h
def wX9_intoRegister (l1 : Int32) (l2 : Int32) (c : gMem) (Q : Int32 → gMem → Prop) : Prop :=
  wX9_findingIn l2 c (fun r2 c1 =>
  ((r2 = 0 →
    vp_in l1 8 ∧
    ∀ c4, c4 = mp c1 19 l1.toNatClampNeg l2 →
    Q l2 c4) ∧
   (¬ r2 = 0 →
    Q l2 c1)))
set_option maxRecDepth 100000 in
set_option maxHeartbeats 4000000 in
theorem tX9_intoRegister {l : Launch} {G : gG} {k : Nat} {o : gMem} {Q : Int32 → gMem → Prop} {l1 : Int32} {l2 : Int32} {c : gMem} (h : wX9_intoRegister l1 l2 c Q) : Cq l G mX9_intoRegister 1 20 [.ref (G.2.1 + 0), .int l1, .int l2] 84 k (wX G o c) (qi (wX G o) Q) := by
  refine Cq.of (by decide) (Nat.le_of_ble_eq_true rfl) ?_
  show Go l G mX9_intoRegister (gbq G 1 20 84 k (qi (wX G o) Q)) 0 [(0, .ref (G.2.1 + 0)), (1, .int l1), (2, .int l2)] [] 84 k (wX G o c)
  unfold wX9_intoRegister at h
  refine go_iload_n (pc := 0) dX9_intoRegister_0 rfl rfl ?_
  refine gq_callS_i (pc := 1) (F := wX G o) sX9_308 rfl (tX9_findingIn h) rfl rfl (Nat.le_of_ble_eq_true rfl) ⟨Nat.le_of_ble_eq_true rfl, Nat.le_of_ble_eq_true rfl, Nat.le_add_right _ _, Nat.le_add_right _ _⟩ dX9_intoRegister_1 (fun r2 c1 h => ?_)
  refine go_if_ne (pc := 4) (tgt := 20) dX9_intoRegister_4 (by decide) (fun q3 => ?_) (fun q3 => ?_)
  · have h := h.2 q3
    refine go_iload_n (pc := 20) dX9_intoRegister_20 rfl rfl ?_
    exact gq_iret (pc := 21) (F := wX G o) rfl dX9_intoRegister_21 h
  · have h := h.1 q3
    refine go_aload_n (pc := 7) dX9_intoRegister_7 rfl rfl ?_
    refine go_get (pc := 8) fX9_12 rfl (gz_b (by decide)) xw0 rfl dX9_intoRegister_8 ?_
    refine go_get (pc := 11) fX9_242 rfl (gz_b (by decide)) xw1 rfl dX9_intoRegister_11 ?_
    refine go_get (pc := 14) fX9_315 rfl (gz_b (by decide)) xw17 rfl dX9_intoRegister_14 ?_
    refine go_iload_n (pc := 17) dX9_intoRegister_17 rfl rfl ?_
    refine go_iload_n (pc := 18) dX9_intoRegister_18 rfl rfl ?_
    obtain ⟨b5, h⟩ := h
    refine gb_iast (pc := 19) (F := wX G o) (gz_b (by decide)) xw19 b5 xa19 dX9_intoRegister_19 (fun c4 ec4 => ?_)
    have h := h c4 ec4
    refine go_iload_n (pc := 20) dX9_intoRegister_20 rfl rfl ?_
    exact gq_iret (pc := 21) (F := wX G o) rfl dX9_intoRegister_21 h
def wX9_perform (l1 : Int32) (l2 : Int32) (l3 : Int32) (l4 : Int32) (l5 : Int32) (c : gMem) (Q : Int32 → gMem → Prop) : Prop :=
  ((l1.toInt < 0 ∨ 12 < l1.toInt →
    Q ((-17)) c) ∧
   (l1 = 0 →
    wX0_makeCell l3 l4 c (fun r3 c2 =>
    wX9_intoRegister l2 r3 c2 (fun r5 c4 =>
    Q r5 c4))) ∧
   (l1 = 1 →
    vp_in l2 8 ∧
    ∀ v6, v6 = c 19 l2.toNatClampNeg →
    vp_in l4 8 ∧
    ∀ v8, v8 = c 19 l4.toNatClampNeg →
    wX0_setLink v6 l3 v8 c (fun r11 c10 =>
    Q r11 c10)) ∧
   (l1 = 2 →
    vp_in l2 8 ∧
    ∀ v12, v12 = c 19 l2.toNatClampNeg →
    wX0_linkOf v12 l3 c (fun r15 c14 =>
    wX9_intoRegister l4 r15 c14 (fun r17 c16 =>
    Q r17 c16))) ∧
   (l1 = 3 →
    vp_in l3 8 ∧
    ∀ v18, v18 = c 19 l3.toNatClampNeg →
    wX0_setRoot l2 v18 c (fun r21 c20 =>
    Q r21 c20)) ∧
   (l1 = 4 →
    vp_in l2 24 ∧
    ∀ v22, v22 = c 20 l2.toNatClampNeg →
    wX9_intoRegister l3 v22 c (fun r25 c24 =>
    Q r25 c24)) ∧
   (l1 = 5 →
    vp_in l2 8 ∧
    ∀ v26, v26 = c 19 l2.toNatClampNeg →
    wX0_lookAt v26 c (fun r29 c28 =>
    wX9_intoRegister l3 r29 c28 (fun r31 c30 =>
    Q r31 c30))) ∧
   (l1 = 6 →
    vp_in l2 8 ∧
    ∀ v32, v32 = c 19 l2.toNatClampNeg →
    vp_in l3 8 ∧
    ∀ v34, v34 = c 19 l3.toNatClampNeg →
    wX0_setWeakLink v32 v34 c (fun r37 c36 =>
    Q r37 c36)) ∧
   (l1 = 7 →
    vp_in l2 8 ∧
    ∀ v38, v38 = c 19 l2.toNatClampNeg →
    vp_in l4 8 ∧
    ∀ v40, v40 = c 19 l4.toNatClampNeg →
    wX0_copyLinks v38 l3 v40 0 l5 c (fun r43 c42 =>
    Q r43 c42)) ∧
   (l1 = 8 →
    wX9_intoRegister l2 ((-1)) c (fun r45 c44 =>
    Q r45 c44)) ∧
   (l1 = 9 →
    wX9_stepKeepingBefore l2 c (fun r47 c46 =>
    Q r47 c46)) ∧
   (l1 = 10 →
    ((l2 = 0 →
      Q ((-18)) c) ∧
     (¬ l2 = 0 →
      Q ((-17)) c))) ∧
   (l1 = 11 →
    vp_in l2 8 ∧
    ∀ v49, v49 = c 19 l2.toNatClampNeg →
    wX0_setByte v49 l3 l4 c (fun r52 c51 =>
    Q r52 c51)) ∧
   (l1 = 12 →
    vp_in l4 8 ∧
    ∀ v53, v53 = c 19 l4.toNatClampNeg →
    wX0_setShelf l2 l3 v53 c (fun r56 c55 =>
    Q r56 c55)))
set_option maxRecDepth 100000 in
set_option maxHeartbeats 4000000 in
theorem tX9_perform {l : Launch} {G : gG} {k : Nat} {o : gMem} {Q : Int32 → gMem → Prop} {l1 : Int32} {l2 : Int32} {l3 : Int32} {l4 : Int32} {l5 : Int32} {c : gMem} (h : wX9_perform l1 l2 l3 l4 l5 c Q) : Cq l G mX9_perform 7 155 [.ref (G.2.1 + 0), .int l1, .int l2, .int l3, .int l4, .int l5] 84 k (wX G o c) (qi (wX G o) Q) := by
  refine Cq.of (by decide) (Nat.le_of_ble_eq_true rfl) ?_
  show Go l G mX9_perform (gbq G 7 155 84 k (qi (wX G o) Q)) 0 [(0, .ref (G.2.1 + 0)), (1, .int l1), (2, .int l2), (3, .int l3), (4, .int l4), (5, .int l5)] [] 84 k (wX G o c)
  unfold wX9_perform at h
  refine go_aload_n (pc := 0) dX9_perform_0 rfl rfl ?_
  refine go_get (pc := 1) fX9_12 rfl (gz_b (by decide)) xw0 rfl dX9_perform_1 ?_
  refine go_get (pc := 4) fX9_242 rfl (gz_b (by decide)) xw1 rfl dX9_perform_4 ?_
  refine go_get (pc := 7) fX9_315 rfl (gz_b (by decide)) xw17 rfl dX9_perform_7 ?_
  refine go_astore (pc := 10) (lv' := [(6, .ref (G.2.1 + 19)), (0, .ref (G.2.1 + 0)), (1, .int l1), (2, .int l2), (3, .int l3), (4, .int l4), (5, .int l5)]) dX9_perform_10 (by decide) rfl ?_
  refine go_iload_n (pc := 12) dX9_perform_12 rfl rfl ?_
  by_cases q1 : l1.toInt < 0 ∨ 12 < l1.toInt
  · refine go_tableOut (pc := 13) (tgt := 270) dX9_perform_13 q1 (by decide) ?_
    have h := h.1 q1
    refine go_bipush (pc := 270) (v := (-17)) dX9_perform_270 (by decide) ?_
    exact gq_iret (pc := 272) (F := wX G o) rfl dX9_perform_272 h
  have q1a : l1.toInt = 0 ∨ l1.toInt = 1 ∨ l1.toInt = 2 ∨ l1.toInt = 3 ∨ l1.toInt = 4 ∨ l1.toInt = 5 ∨ l1.toInt = 6 ∨ l1.toInt = 7 ∨ l1.toInt = 8 ∨ l1.toInt = 9 ∨ l1.toInt = 10 ∨ l1.toInt = 11 ∨ l1.toInt = 12 := by omega
  rcases q1a with q1b | q1b | q1b | q1b | q1b | q1b | q1b | q1b | q1b | q1b | q1b | q1b | q1b
  · have q1c : l1 = 0 := gt_eq q1b _ (by decide)
    refine go_tableIn (pc := 13) (off := 67) (tgt := 80) dX9_perform_13 (by rw [q1b]; decide) (by rw [q1b]; decide) (by rw [q1b]; rfl) (by decide) ?_
    have h := h.2.1 q1c
    refine go_aload_n (pc := 80) dX9_perform_80 rfl rfl ?_
    refine go_iload_n (pc := 81) dX9_perform_81 rfl rfl ?_
    refine go_aload_n (pc := 82) dX9_perform_82 rfl rfl ?_
    refine go_get (pc := 83) fX9_40 rfl (gz_b (by decide)) xw0 rfl dX9_perform_83 ?_
    refine go_iload_n (pc := 86) dX9_perform_86 rfl rfl ?_
    refine go_iload (pc := 87) dX9_perform_87 rfl ?_
    refine gq_callV_i (pc := 89) (F := wX G o) vX9_76 rfl (tX0_makeCell h) rfl rfl (gz_b (by decide)) xw69 rfl (Nat.le_of_ble_eq_true rfl) ⟨Nat.le_of_ble_eq_true rfl, Nat.le_of_ble_eq_true rfl, Nat.le_add_right _ _, Nat.le_add_right _ _⟩ dX9_perform_89 (fun r3 c2 h => ?_)
    refine gq_callV_i (pc := 92) (F := wX G o) vX9_328 rfl (tX9_intoRegister h) rfl rfl (gz_b (by decide)) xw0 rfl (Nat.le_of_ble_eq_true rfl) ⟨Nat.le_of_ble_eq_true rfl, Nat.le_of_ble_eq_true rfl, Nat.le_add_right _ _, Nat.le_add_right _ _⟩ dX9_perform_92 (fun r5 c4 h => ?_)
    exact gq_iret (pc := 95) (F := wX G o) rfl dX9_perform_95 h
  · have q1c : l1 = 1 := gt_eq q1b _ (by decide)
    refine go_tableIn (pc := 13) (off := 83) (tgt := 96) dX9_perform_13 (by rw [q1b]; decide) (by rw [q1b]; decide) (by rw [q1b]; rfl) (by decide) ?_
    have h := h.2.2.1 q1c
    refine go_aload_n (pc := 96) dX9_perform_96 rfl rfl ?_
    refine go_get (pc := 97) fX9_40 rfl (gz_b (by decide)) xw0 rfl dX9_perform_97 ?_
    refine go_aload (pc := 100) dX9_perform_100 rfl ?_
    refine go_iload_n (pc := 102) dX9_perform_102 rfl rfl ?_
    obtain ⟨b7, h⟩ := h
    refine gb_iald (pc := 103) (gz_b (by decide)) xw19 b7 dX9_perform_103 (fun v6 ev6 => ?_)
    have h := h v6 ev6
    refine go_iload_n (pc := 104) dX9_perform_104 rfl rfl ?_
    refine go_aload (pc := 105) dX9_perform_105 rfl ?_
    refine go_iload (pc := 107) dX9_perform_107 rfl ?_
    obtain ⟨b9, h⟩ := h
    refine gb_iald (pc := 109) (gz_b (by decide)) xw19 b9 dX9_perform_109 (fun v8 ev8 => ?_)
    have h := h v8 ev8
    refine gq_callV_i (pc := 110) (F := wX G o) vX9_128 rfl (tX0_setLink h) rfl rfl (gz_b (by decide)) xw69 rfl (Nat.le_of_ble_eq_true rfl) ⟨Nat.le_of_ble_eq_true rfl, Nat.le_of_ble_eq_true rfl, Nat.le_add_right _ _, Nat.le_add_right _ _⟩ dX9_perform_110 (fun r11 c10 h => ?_)
    exact gq_iret (pc := 113) (F := wX G o) rfl dX9_perform_113 h
  · have q1c : l1 = 2 := gt_eq q1b _ (by decide)
    refine go_tableIn (pc := 13) (off := 101) (tgt := 114) dX9_perform_13 (by rw [q1b]; decide) (by rw [q1b]; decide) (by rw [q1b]; rfl) (by decide) ?_
    have h := h.2.2.2.1 q1c
    refine go_aload_n (pc := 114) dX9_perform_114 rfl rfl ?_
    refine go_iload (pc := 115) dX9_perform_115 rfl ?_
    refine go_aload_n (pc := 117) dX9_perform_117 rfl rfl ?_
    refine go_get (pc := 118) fX9_40 rfl (gz_b (by decide)) xw0 rfl dX9_perform_118 ?_
    refine go_aload (pc := 121) dX9_perform_121 rfl ?_
    refine go_iload_n (pc := 123) dX9_perform_123 rfl rfl ?_
    obtain ⟨b13, h⟩ := h
    refine gb_iald (pc := 124) (gz_b (by decide)) xw19 b13 dX9_perform_124 (fun v12 ev12 => ?_)
    have h := h v12 ev12
    refine go_iload_n (pc := 125) dX9_perform_125 rfl rfl ?_
    refine gq_callV_i (pc := 126) (F := wX G o) vX9_132 rfl (tX0_linkOf h) rfl rfl (gz_b (by decide)) xw69 rfl (Nat.le_of_ble_eq_true rfl) ⟨Nat.le_of_ble_eq_true rfl, Nat.le_of_ble_eq_true rfl, Nat.le_add_right _ _, Nat.le_add_right _ _⟩ dX9_perform_126 (fun r15 c14 h => ?_)
    refine gq_callV_i (pc := 129) (F := wX G o) vX9_328 rfl (tX9_intoRegister h) rfl rfl (gz_b (by decide)) xw0 rfl (Nat.le_of_ble_eq_true rfl) ⟨Nat.le_of_ble_eq_true rfl, Nat.le_of_ble_eq_true rfl, Nat.le_add_right _ _, Nat.le_add_right _ _⟩ dX9_perform_129 (fun r17 c16 h => ?_)
    exact gq_iret (pc := 132) (F := wX G o) rfl dX9_perform_132 h
  · have q1c : l1 = 3 := gt_eq q1b _ (by decide)
    refine go_tableIn (pc := 13) (off := 120) (tgt := 133) dX9_perform_13 (by rw [q1b]; decide) (by rw [q1b]; decide) (by rw [q1b]; rfl) (by decide) ?_
    have h := h.2.2.2.2.1 q1c
    refine go_aload_n (pc := 133) dX9_perform_133 rfl rfl ?_
    refine go_get (pc := 134) fX9_40 rfl (gz_b (by decide)) xw0 rfl dX9_perform_134 ?_
    refine go_iload_n (pc := 137) dX9_perform_137 rfl rfl ?_
    refine go_aload (pc := 138) dX9_perform_138 rfl ?_
    refine go_iload_n (pc := 140) dX9_perform_140 rfl rfl ?_
    obtain ⟨b19, h⟩ := h
    refine gb_iald (pc := 141) (gz_b (by decide)) xw19 b19 dX9_perform_141 (fun v18 ev18 => ?_)
    have h := h v18 ev18
    refine gq_callV_i (pc := 142) (F := wX G o) vX9_159 rfl (tX0_setRoot h) rfl rfl (gz_b (by decide)) xw69 rfl (Nat.le_of_ble_eq_true rfl) ⟨Nat.le_of_ble_eq_true rfl, Nat.le_of_ble_eq_true rfl, Nat.le_add_right _ _, Nat.le_add_right _ _⟩ dX9_perform_142 (fun r21 c20 h => ?_)
    exact gq_iret (pc := 145) (F := wX G o) rfl dX9_perform_145 h
  · have q1c : l1 = 4 := gt_eq q1b _ (by decide)
    refine go_tableIn (pc := 13) (off := 133) (tgt := 146) dX9_perform_13 (by rw [q1b]; decide) (by rw [q1b]; decide) (by rw [q1b]; rfl) (by decide) ?_
    have h := h.2.2.2.2.2.1 q1c
    refine go_aload_n (pc := 146) dX9_perform_146 rfl rfl ?_
    refine go_iload_n (pc := 147) dX9_perform_147 rfl rfl ?_
    refine go_aload_n (pc := 148) dX9_perform_148 rfl rfl ?_
    refine go_get (pc := 149) fX9_12 rfl (gz_b (by decide)) xw0 rfl dX9_perform_149 ?_
    refine go_get (pc := 152) fX9_162 rfl (gz_b (by decide)) xw1 rfl dX9_perform_152 ?_
    refine go_iload_n (pc := 155) dX9_perform_155 rfl rfl ?_
    obtain ⟨b23, h⟩ := h
    refine gb_iald (pc := 156) (gz_b (by decide)) xw20 b23 dX9_perform_156 (fun v22 ev22 => ?_)
    have h := h v22 ev22
    refine gq_callV_i (pc := 157) (F := wX G o) vX9_328 rfl (tX9_intoRegister h) rfl rfl (gz_b (by decide)) xw0 rfl (Nat.le_of_ble_eq_true rfl) ⟨Nat.le_of_ble_eq_true rfl, Nat.le_of_ble_eq_true rfl, Nat.le_add_right _ _, Nat.le_add_right _ _⟩ dX9_perform_157 (fun r25 c24 h => ?_)
    exact gq_iret (pc := 160) (F := wX G o) rfl dX9_perform_160 h
  · have q1c : l1 = 5 := gt_eq q1b _ (by decide)
    refine go_tableIn (pc := 13) (off := 148) (tgt := 161) dX9_perform_13 (by rw [q1b]; decide) (by rw [q1b]; decide) (by rw [q1b]; rfl) (by decide) ?_
    have h := h.2.2.2.2.2.2.1 q1c
    refine go_aload_n (pc := 161) dX9_perform_161 rfl rfl ?_
    refine go_iload_n (pc := 162) dX9_perform_162 rfl rfl ?_
    refine go_aload_n (pc := 163) dX9_perform_163 rfl rfl ?_
    refine go_get (pc := 164) fX9_40 rfl (gz_b (by decide)) xw0 rfl dX9_perform_164 ?_
    refine go_aload (pc := 167) dX9_perform_167 rfl ?_
    refine go_iload_n (pc := 169) dX9_perform_169 rfl rfl ?_
    obtain ⟨b27, h⟩ := h
    refine gb_iald (pc := 170) (gz_b (by decide)) xw19 b27 dX9_perform_170 (fun v26 ev26 => ?_)
    have h := h v26 ev26
    refine gq_callV_i (pc := 171) (F := wX G o) vX9_138 rfl (tX0_lookAt h) rfl rfl (gz_b (by decide)) xw69 rfl (Nat.le_of_ble_eq_true rfl) ⟨Nat.le_of_ble_eq_true rfl, Nat.le_of_ble_eq_true rfl, Nat.le_add_right _ _, Nat.le_add_right _ _⟩ dX9_perform_171 (fun r29 c28 h => ?_)
    refine gq_callV_i (pc := 174) (F := wX G o) vX9_328 rfl (tX9_intoRegister h) rfl rfl (gz_b (by decide)) xw0 rfl (Nat.le_of_ble_eq_true rfl) ⟨Nat.le_of_ble_eq_true rfl, Nat.le_of_ble_eq_true rfl, Nat.le_add_right _ _, Nat.le_add_right _ _⟩ dX9_perform_174 (fun r31 c30 h => ?_)
    exact gq_iret (pc := 177) (F := wX G o) rfl dX9_perform_177 h
  · have q1c : l1 = 6 := gt_eq q1b _ (by decide)
    refine go_tableIn (pc := 13) (off := 165) (tgt := 178) dX9_perform_13 (by rw [q1b]; decide) (by rw [q1b]; decide) (by rw [q1b]; rfl) (by decide) ?_
    have h := h.2.2.2.2.2.2.2.1 q1c
    refine go_aload_n (pc := 178) dX9_perform_178 rfl rfl ?_
    refine go_get (pc := 179) fX9_40 rfl (gz_b (by decide)) xw0 rfl dX9_perform_179 ?_
    refine go_aload (pc := 182) dX9_perform_182 rfl ?_
    refine go_iload_n (pc := 184) dX9_perform_184 rfl rfl ?_
    obtain ⟨b33, h⟩ := h
    refine gb_iald (pc := 185) (gz_b (by decide)) xw19 b33 dX9_perform_185 (fun v32 ev32 => ?_)
    have h := h v32 ev32
    refine go_aload (pc := 186) dX9_perform_186 rfl ?_
    refine go_iload_n (pc := 188) dX9_perform_188 rfl rfl ?_
    obtain ⟨b35, h⟩ := h
    refine gb_iald (pc := 189) (gz_b (by decide)) xw19 b35 dX9_perform_189 (fun v34 ev34 => ?_)
    have h := h v34 ev34
    refine gq_callV_i (pc := 190) (F := wX G o) vX9_135 rfl (tX0_setWeakLink h) rfl rfl (gz_b (by decide)) xw69 rfl (Nat.le_of_ble_eq_true rfl) ⟨Nat.le_of_ble_eq_true rfl, Nat.le_of_ble_eq_true rfl, Nat.le_add_right _ _, Nat.le_add_right _ _⟩ dX9_perform_190 (fun r37 c36 h => ?_)
    exact gq_iret (pc := 193) (F := wX G o) rfl dX9_perform_193 h
  · have q1c : l1 = 7 := gt_eq q1b _ (by decide)
    refine go_tableIn (pc := 13) (off := 181) (tgt := 194) dX9_perform_13 (by rw [q1b]; decide) (by rw [q1b]; decide) (by rw [q1b]; rfl) (by decide) ?_
    have h := h.2.2.2.2.2.2.2.2.1 q1c
    refine go_aload_n (pc := 194) dX9_perform_194 rfl rfl ?_
    refine go_get (pc := 195) fX9_40 rfl (gz_b (by decide)) xw0 rfl dX9_perform_195 ?_
    refine go_aload (pc := 198) dX9_perform_198 rfl ?_
    refine go_iload_n (pc := 200) dX9_perform_200 rfl rfl ?_
    obtain ⟨b39, h⟩ := h
    refine gb_iald (pc := 201) (gz_b (by decide)) xw19 b39 dX9_perform_201 (fun v38 ev38 => ?_)
    have h := h v38 ev38
    refine go_iload_n (pc := 202) dX9_perform_202 rfl rfl ?_
    refine go_aload (pc := 203) dX9_perform_203 rfl ?_
    refine go_iload (pc := 205) dX9_perform_205 rfl ?_
    obtain ⟨b41, h⟩ := h
    refine gb_iald (pc := 207) (gz_b (by decide)) xw19 b41 dX9_perform_207 (fun v40 ev40 => ?_)
    have h := h v40 ev40
    refine go_iconst (pc := 208) (v := 0) dX9_perform_208 (by decide) ?_
    refine go_iload (pc := 209) dX9_perform_209 rfl ?_
    refine gq_callV_i (pc := 211) (F := wX G o) vX9_165 rfl (tX0_copyLinks h) rfl rfl (gz_b (by decide)) xw69 rfl (Nat.le_of_ble_eq_true rfl) ⟨Nat.le_of_ble_eq_true rfl, Nat.le_of_ble_eq_true rfl, Nat.le_add_right _ _, Nat.le_add_right _ _⟩ dX9_perform_211 (fun r43 c42 h => ?_)
    exact gq_iret (pc := 214) (F := wX G o) rfl dX9_perform_214 h
  · have q1c : l1 = 8 := gt_eq q1b _ (by decide)
    refine go_tableIn (pc := 13) (off := 202) (tgt := 215) dX9_perform_13 (by rw [q1b]; decide) (by rw [q1b]; decide) (by rw [q1b]; rfl) (by decide) ?_
    have h := h.2.2.2.2.2.2.2.2.2.1 q1c
    refine go_aload_n (pc := 215) dX9_perform_215 rfl rfl ?_
    refine go_iload_n (pc := 216) dX9_perform_216 rfl rfl ?_
    refine go_iconst (pc := 217) (v := (-1)) dX9_perform_217 (by decide) ?_
    refine gq_callV_i (pc := 218) (F := wX G o) vX9_328 rfl (tX9_intoRegister h) rfl rfl (gz_b (by decide)) xw0 rfl (Nat.le_of_ble_eq_true rfl) ⟨Nat.le_of_ble_eq_true rfl, Nat.le_of_ble_eq_true rfl, Nat.le_add_right _ _, Nat.le_add_right _ _⟩ dX9_perform_218 (fun r45 c44 h => ?_)
    exact gq_iret (pc := 221) (F := wX G o) rfl dX9_perform_221 h
  · have q1c : l1 = 9 := gt_eq q1b _ (by decide)
    refine go_tableIn (pc := 13) (off := 209) (tgt := 222) dX9_perform_13 (by rw [q1b]; decide) (by rw [q1b]; decide) (by rw [q1b]; rfl) (by decide) ?_
    have h := h.2.2.2.2.2.2.2.2.2.2.1 q1c
    refine go_aload_n (pc := 222) dX9_perform_222 rfl rfl ?_
    refine go_iload_n (pc := 223) dX9_perform_223 rfl rfl ?_
    refine gq_callV_i (pc := 224) (F := wX G o) vX9_175 rfl (tX9_stepKeepingBefore h) rfl rfl (gz_b (by decide)) xw0 rfl (Nat.le_of_ble_eq_true rfl) ⟨Nat.le_of_ble_eq_true rfl, Nat.le_of_ble_eq_true rfl, Nat.le_add_right _ _, Nat.le_add_right _ _⟩ dX9_perform_224 (fun r47 c46 h => ?_)
    exact gq_iret (pc := 227) (F := wX G o) rfl dX9_perform_227 h
  · have q1c : l1 = 10 := gt_eq q1b _ (by decide)
    refine go_tableIn (pc := 13) (off := 215) (tgt := 228) dX9_perform_13 (by rw [q1b]; decide) (by rw [q1b]; decide) (by rw [q1b]; rfl) (by decide) ?_
    have h := h.2.2.2.2.2.2.2.2.2.2.2.1 q1c
    refine go_iload_n (pc := 228) dX9_perform_228 rfl rfl ?_
    refine go_if_ne (pc := 229) (tgt := 237) dX9_perform_229 (by decide) (fun q48 => ?_) (fun q48 => ?_)
    · have h := h.2 q48
      refine go_bipush (pc := 237) (v := (-17)) dX9_perform_237 (by decide) ?_
      exact gq_iret (pc := 239) (F := wX G o) rfl dX9_perform_239 h
    · have h := h.1 q48
      refine go_bipush (pc := 232) (v := (-18)) dX9_perform_232 (by decide) ?_
      refine go_goto (pc := 234) (tgt := 239) dX9_perform_234 (by decide) ?_
      exact gq_iret (pc := 239) (F := wX G o) rfl dX9_perform_239 h
  · have q1c : l1 = 11 := gt_eq q1b _ (by decide)
    refine go_tableIn (pc := 13) (off := 227) (tgt := 240) dX9_perform_13 (by rw [q1b]; decide) (by rw [q1b]; decide) (by rw [q1b]; rfl) (by decide) ?_
    have h := h.2.2.2.2.2.2.2.2.2.2.2.2.1 q1c
    refine go_aload_n (pc := 240) dX9_perform_240 rfl rfl ?_
    refine go_get (pc := 241) fX9_40 rfl (gz_b (by decide)) xw0 rfl dX9_perform_241 ?_
    refine go_aload (pc := 244) dX9_perform_244 rfl ?_
    refine go_iload_n (pc := 246) dX9_perform_246 rfl rfl ?_
    obtain ⟨b50, h⟩ := h
    refine gb_iald (pc := 247) (gz_b (by decide)) xw19 b50 dX9_perform_247 (fun v49 ev49 => ?_)
    have h := h v49 ev49
    refine go_iload_n (pc := 248) dX9_perform_248 rfl rfl ?_
    refine go_iload (pc := 249) dX9_perform_249 rfl ?_
    refine gq_callV_i (pc := 251) (F := wX G o) vX9_147 rfl (tX0_setByte h) rfl rfl (gz_b (by decide)) xw69 rfl (Nat.le_of_ble_eq_true rfl) ⟨Nat.le_of_ble_eq_true rfl, Nat.le_of_ble_eq_true rfl, Nat.le_add_right _ _, Nat.le_add_right _ _⟩ dX9_perform_251 (fun r52 c51 h => ?_)
    exact gq_iret (pc := 254) (F := wX G o) rfl dX9_perform_254 h
  · have q1c : l1 = 12 := gt_eq q1b _ (by decide)
    refine go_tableIn (pc := 13) (off := 242) (tgt := 255) dX9_perform_13 (by rw [q1b]; decide) (by rw [q1b]; decide) (by rw [q1b]; rfl) (by decide) ?_
    have h := h.2.2.2.2.2.2.2.2.2.2.2.2.2 q1c
    refine go_aload_n (pc := 255) dX9_perform_255 rfl rfl ?_
    refine go_get (pc := 256) fX9_40 rfl (gz_b (by decide)) xw0 rfl dX9_perform_256 ?_
    refine go_iload_n (pc := 259) dX9_perform_259 rfl rfl ?_
    refine go_iload_n (pc := 260) dX9_perform_260 rfl rfl ?_
    refine go_aload (pc := 261) dX9_perform_261 rfl ?_
    refine go_iload (pc := 263) dX9_perform_263 rfl ?_
    obtain ⟨b54, h⟩ := h
    refine gb_iald (pc := 265) (gz_b (by decide)) xw19 b54 dX9_perform_265 (fun v53 ev53 => ?_)
    have h := h v53 ev53
    refine gq_callV_i (pc := 266) (F := wX G o) vX9_169 rfl (tX0_setShelf h) rfl rfl (gz_b (by decide)) xw69 rfl (Nat.le_of_ble_eq_true rfl) ⟨Nat.le_of_ble_eq_true rfl, Nat.le_of_ble_eq_true rfl, Nat.le_add_right _ _, Nat.le_add_right _ _⟩ dX9_perform_266 (fun r56 c55 h => ?_)
    exact gq_iret (pc := 269) (F := wX G o) rfl dX9_perform_269 h
def wX5_goBehindAct_p24 (l1 : Int32) (s0 : Int32) (c : gMem) (Q : gMem → Prop) : Prop :=
  ∀ c1, c1 = mp c 17 1 s0 →
  ∀ v2, v2 = c1 17 2 →
  ∀ c3, c3 = mp c1 17 2 (v2 + 1) →
  ((l1 = 0 →
    Q c3) ∧
   (¬ l1 = 0 →
    ∀ v5, v5 = c3 17 3 →
    ∀ c6, c6 = mp c3 17 3 (v5 + 1) →
    Q c6))
set_option maxRecDepth 100000 in
set_option maxHeartbeats 4000000 in
theorem tX5_goBehindAct_p24 {l : Launch} {G : gG} {k : Nat} {o : gMem} {Q : gMem → Prop} {l1 : Int32} {s0 : Int32} {c : gMem} (h : wX5_goBehindAct_p24 l1 s0 c Q) : Go l G mX5_goBehindAct (gbq G 0 0 84 k (qv (wX G o) Q)) 24 [(0, .ref (G.2.1 + 17)), (1, .int l1)] [.int s0, .ref (G.2.1 + 17)] 84 k (wX G o c) := by
  unfold wX5_goBehindAct_p24 at h
  refine gb_put (pc := 24) (F := wX G o) fX5_22 rfl (gz_b (by decide)) xw17 (Nat.le_of_ble_eq_true rfl) rfl rfl xp17_1 dX5_goBehindAct_24 (fun c1 ec1 => ?_)
  have h := h c1 ec1
  refine go_aload_n (pc := 27) dX5_goBehindAct_27 rfl rfl ?_
  refine go_dup (pc := 28) dX5_goBehindAct_28 rfl ?_
  refine gb_get (pc := 29) fX5_25 rfl (gz_b (by decide)) xw17 rfl dX5_goBehindAct_29 (fun v2 ev2 => ?_)
  have h := h v2 ev2
  refine go_iconst (pc := 32) (v := 1) dX5_goBehindAct_32 (by decide) ?_
  refine go_iadd (pc := 33) dX5_goBehindAct_33 ?_
  refine gb_put (pc := 34) (F := wX G o) fX5_25 rfl (gz_b (by decide)) xw17 (Nat.le_of_ble_eq_true rfl) rfl rfl xp17_2 dX5_goBehindAct_34 (fun c3 ec3 => ?_)
  have h := h c3 ec3
  refine go_iload_n (pc := 37) dX5_goBehindAct_37 rfl rfl ?_
  refine go_if_eq (pc := 38) (tgt := 51) dX5_goBehindAct_38 (by decide) (fun q4 => ?_) (fun q4 => ?_)
  · have h := h.1 q4
    exact gq_vret (pc := 51) (F := wX G o) rfl dX5_goBehindAct_51 h
  · have h := h.2 q4
    refine go_aload_n (pc := 41) dX5_goBehindAct_41 rfl rfl ?_
    refine go_dup (pc := 42) dX5_goBehindAct_42 rfl ?_
    refine gb_get (pc := 43) fX5_28 rfl (gz_b (by decide)) xw17 rfl dX5_goBehindAct_43 (fun v5 ev5 => ?_)
    have h := h v5 ev5
    refine go_iconst (pc := 46) (v := 1) dX5_goBehindAct_46 (by decide) ?_
    refine go_iadd (pc := 47) dX5_goBehindAct_47 ?_
    refine gb_put (pc := 48) (F := wX G o) fX5_28 rfl (gz_b (by decide)) xw17 (Nat.le_of_ble_eq_true rfl) rfl rfl xp17_3 dX5_goBehindAct_48 (fun c6 ec6 => ?_)
    have h := h c6 ec6
    exact gq_vret (pc := 51) (F := wX G o) rfl dX5_goBehindAct_51 h
def wX5_goBehindAct (l1 : Int32) (c : gMem) (Q : gMem → Prop) : Prop :=
  ∀ v1, v1 = c 17 1 →
  ∀ v2, v2 = c 17 0 →
  ((v2 ≤ v1 + 1 →
    wX5_goBehindAct_p24 l1 0 c Q) ∧
   (¬ v2 ≤ v1 + 1 →
    ∀ v4, v4 = c 17 1 →
    wX5_goBehindAct_p24 l1 (v4 + 1) c Q))
set_option maxRecDepth 100000 in
set_option maxHeartbeats 4000000 in
theorem tX5_goBehindAct {l : Launch} {G : gG} {k : Nat} {o : gMem} {Q : gMem → Prop} {l1 : Int32} {c : gMem} (h : wX5_goBehindAct l1 c Q) : Cq l G mX5_goBehindAct 0 0 [.ref (G.2.1 + 17), .int l1] 84 k (wX G o c) (qv (wX G o) Q) := by
  refine Cq.of (by decide) (Nat.le_of_ble_eq_true rfl) ?_
  show Go l G mX5_goBehindAct (gbq G 0 0 84 k (qv (wX G o) Q)) 0 [(0, .ref (G.2.1 + 17)), (1, .int l1)] [] 84 k (wX G o c)
  unfold wX5_goBehindAct at h
  refine go_aload_n (pc := 0) dX5_goBehindAct_0 rfl rfl ?_
  refine go_aload_n (pc := 1) dX5_goBehindAct_1 rfl rfl ?_
  refine gb_get (pc := 2) fX5_22 rfl (gz_b (by decide)) xw17 rfl dX5_goBehindAct_2 (fun v1 ev1 => ?_)
  have h := h v1 ev1
  refine go_iconst (pc := 5) (v := 1) dX5_goBehindAct_5 (by decide) ?_
  refine go_iadd (pc := 6) dX5_goBehindAct_6 ?_
  refine go_aload_n (pc := 7) dX5_goBehindAct_7 rfl rfl ?_
  refine gb_get (pc := 8) fX5_18 rfl (gz_b (by decide)) xw17 rfl dX5_goBehindAct_8 (fun v2 ev2 => ?_)
  have h := h v2 ev2
  refine go_icmp_ge (pc := 11) (tgt := 23) dX5_goBehindAct_11 (by decide) (fun q3 => ?_) (fun q3 => ?_)
  · have h := h.1 q3
    refine go_iconst (pc := 23) (v := 0) dX5_goBehindAct_23 (by decide) ?_
    refine go_lv [0, 1] rfl ?_
    exact tX5_goBehindAct_p24 h
  · have h := h.2 q3
    refine go_aload_n (pc := 14) dX5_goBehindAct_14 rfl rfl ?_
    refine gb_get (pc := 15) fX5_22 rfl (gz_b (by decide)) xw17 rfl dX5_goBehindAct_15 (fun v4 ev4 => ?_)
    have h := h v4 ev4
    refine go_iconst (pc := 18) (v := 1) dX5_goBehindAct_18 (by decide) ?_
    refine go_iadd (pc := 19) dX5_goBehindAct_19 ?_
    refine go_goto (pc := 20) (tgt := 24) dX5_goBehindAct_20 (by decide) ?_
    refine go_lv [0, 1] rfl ?_
    exact tX5_goBehindAct_p24 h
def wX9_run_p133 (P37 : Int32 → Int32 → Int32 → gMem → Prop) (l1 : Int32) (l4 : Int32) (s0 : Int32) (c : gMem) (Q : Int32 → gMem → Prop) : Prop :=
  P37 l1 s0 (l4 + 1) c
set_option maxRecDepth 100000 in
set_option maxHeartbeats 4000000 in
theorem tX9_run_p133 {l : Launch} {G : gG} {k : Nat} {o : gMem} {Q : Int32 → gMem → Prop} {P37 : Int32 → Int32 → Int32 → gMem → Prop} (hP37 : ∀ (l1 : Int32) (l3 : Int32) (l4 : Int32) (c : gMem), P37 l1 l3 l4 c → Go l G mX9_run (gbq G 8 181 84 k (qi (wX G o) Q)) 37 [(0, .ref (G.2.1 + 0)), (1, .int l1), (2, .ref (G.2.1 + 17)), (3, .int l3), (4, .int l4)] [] 84 k (wX G o c)) {l1 : Int32} {l4 : Int32} {s0 : Int32} {c : gMem} (h : wX9_run_p133 P37 l1 l4 s0 c Q) : Go l G mX9_run (gbq G 8 181 84 k (qi (wX G o) Q)) 133 [(0, .ref (G.2.1 + 0)), (1, .int l1), (2, .ref (G.2.1 + 17)), (4, .int l4)] [.int s0] 84 k (wX G o c) := by
  unfold wX9_run_p133 at h
  refine go_istore_n (pc := 133) (lv' := [(3, .int s0), (0, .ref (G.2.1 + 0)), (1, .int l1), (2, .ref (G.2.1 + 17)), (4, .int l4)]) dX9_run_133 rfl (by decide) rfl ?_
  refine go_iinc (pc := 134) (v := l4 + 1) (lv' := [(4, .int (l4 + 1)), (3, .int s0), (0, .ref (G.2.1 + 0)), (1, .int l1), (2, .ref (G.2.1 + 17))]) dX9_run_134 4 rfl (by first | rfl | decide) (by decide) rfl ?_
  refine go_goto (pc := 137) (tgt := 37) dX9_run_137 (by decide) ?_
  refine go_lv [2, 3, 4, 1, 0] rfl ?_
  exact hP37 _ _ _ _ h
def wX9_run_p118 (P37 : Int32 → Int32 → Int32 → gMem → Prop) (l1 : Int32) (l4 : Int32) (s0 : Int32) (c : gMem) (Q : Int32 → gMem → Prop) : Prop :=
  wX5_goBehindAct s0 c (fun c1 =>
  ∀ v2, v2 = c1 0 6 →
  ((v2 = 0 →
    wX9_run_p133 P37 l1 l4 1 c1 Q) ∧
   (¬ v2 = 0 →
    wX9_run_p133 P37 l1 l4 0 c1 Q)))
set_option maxRecDepth 100000 in
set_option maxHeartbeats 4000000 in
theorem tX9_run_p118 {l : Launch} {G : gG} {k : Nat} {o : gMem} {Q : Int32 → gMem → Prop} {P37 : Int32 → Int32 → Int32 → gMem → Prop} (hP37 : ∀ (l1 : Int32) (l3 : Int32) (l4 : Int32) (c : gMem), P37 l1 l3 l4 c → Go l G mX9_run (gbq G 8 181 84 k (qi (wX G o) Q)) 37 [(0, .ref (G.2.1 + 0)), (1, .int l1), (2, .ref (G.2.1 + 17)), (3, .int l3), (4, .int l4)] [] 84 k (wX G o c)) {l1 : Int32} {l4 : Int32} {s0 : Int32} {c : gMem} (h : wX9_run_p118 P37 l1 l4 s0 c Q) : Go l G mX9_run (gbq G 8 181 84 k (qi (wX G o) Q)) 118 [(0, .ref (G.2.1 + 0)), (1, .int l1), (2, .ref (G.2.1 + 17)), (4, .int l4)] [.int s0, .ref (G.2.1 + 17)] 84 k (wX G o c) := by
  unfold wX9_run_p118 at h
  refine gq_callV_v (pc := 118) (F := wX G o) vX9_311 rfl (tX5_goBehindAct h) rfl rfl (gz_b (by decide)) xw17 rfl (Nat.le_of_ble_eq_true rfl) ⟨Nat.le_of_ble_eq_true rfl, Nat.le_of_ble_eq_true rfl, Nat.le_add_right _ _, Nat.le_add_right _ _⟩ dX9_run_118 (fun c1 h => ?_)
  refine go_aload_n (pc := 121) dX9_run_121 rfl rfl ?_
  refine gb_get (pc := 122) fX9_62 rfl (gz_b (by decide)) xw0 rfl dX9_run_122 (fun v2 ev2 => ?_)
  have h := h v2 ev2
  refine go_if_ne (pc := 125) (tgt := 132) dX9_run_125 (by decide) (fun q3 => ?_) (fun q3 => ?_)
  · have h := h.2 q3
    refine go_iconst (pc := 132) (v := 0) dX9_run_132 (by decide) ?_
    refine go_lv [0, 1, 2, 3] rfl ?_
    exact tX9_run_p133 hP37 h
  · have h := h.1 q3
    refine go_iconst (pc := 128) (v := 1) dX9_run_128 (by decide) ?_
    refine go_goto (pc := 129) (tgt := 133) dX9_run_129 (by decide) ?_
    refine go_lv [0, 1, 2, 3] rfl ?_
    exact tX9_run_p133 hP37 h
def wX9_run_p37_b (P37 : Int32 → Int32 → Int32 → gMem → Prop) (l1 : Int32) (l3 : Int32) (l4 : Int32) (c : gMem) (Q : Int32 → gMem → Prop) : Prop :=
  ((l1 ≤ l4 →
    Q l4 c) ∧
   (¬ l1 ≤ l4 →
    ((l3 = 0 →
      Q l4 c) ∧
     (¬ l3 = 0 →
      ∀ v3, v3 = c 17 1 →
      vp_in (v3 * 5) 200 ∧
      ∀ v4, v4 = c 18 (v3 * 5).toNatClampNeg →
      vp_in ((v3 * 5) + 1) 200 ∧
      ∀ v6, v6 = c 18 ((v3 * 5) + 1).toNatClampNeg →
      vp_in ((v3 * 5) + 2) 200 ∧
      ∀ v8, v8 = c 18 ((v3 * 5) + 2).toNatClampNeg →
      vp_in ((v3 * 5) + 3) 200 ∧
      ∀ v10, v10 = c 18 ((v3 * 5) + 3).toNatClampNeg →
      vp_in ((v3 * 5) + 4) 200 ∧
      ∀ v12, v12 = c 18 ((v3 * 5) + 4).toNatClampNeg →
      wX9_perform v4 v6 v8 v10 v12 c (fun r15 c14 =>
      wX9_findingIn r15 c14 (fun r17 c16 =>
      ∀ c18, c18 = mp c16 0 6 r17 →
      ∀ v19, v19 = c18 0 6 →
      ((v19 = 0 →
        wX9_run_p118 P37 l1 l4 0 c18 Q) ∧
       (¬ v19 = 0 →
        wX9_run_p118 P37 l1 l4 1 c18 Q))))))))
def wX9_run_p37 (l1 : Int32) (l3 : Int32) (l4 : Int32) (c : gMem) (Q : Int32 → gMem → Prop) : Prop :=
  ∀ P37 : Int32 → Int32 → Int32 → gMem → Prop, (∀ (l1 : Int32) (l3 : Int32) (l4 : Int32) (c : gMem), wX9_run_p37_b P37 l1 l3 l4 c Q → P37 l1 l3 l4 c) → P37 l1 l3 l4 c
set_option maxRecDepth 100000 in
set_option maxHeartbeats 4000000 in
theorem tX9_run_p37_b {l : Launch} {G : gG} {k : Nat} {o : gMem} {Q : Int32 → gMem → Prop} {P37 : Int32 → Int32 → Int32 → gMem → Prop} (hP37 : ∀ (l1 : Int32) (l3 : Int32) (l4 : Int32) (c : gMem), P37 l1 l3 l4 c → Go l G mX9_run (gbq G 8 181 84 k (qi (wX G o) Q)) 37 [(0, .ref (G.2.1 + 0)), (1, .int l1), (2, .ref (G.2.1 + 17)), (3, .int l3), (4, .int l4)] [] 84 k (wX G o c)) {l1 : Int32} {l3 : Int32} {l4 : Int32} {c : gMem} (h : wX9_run_p37_b P37 l1 l3 l4 c Q) : Go l G mX9_run (gbq G 8 181 84 k (qi (wX G o) Q)) 37 [(0, .ref (G.2.1 + 0)), (1, .int l1), (2, .ref (G.2.1 + 17)), (3, .int l3), (4, .int l4)] [] 84 k (wX G o c) := by
  unfold wX9_run_p37_b at h
  refine go_iload (pc := 37) dX9_run_37 rfl ?_
  refine go_iload_n (pc := 39) dX9_run_39 rfl rfl ?_
  refine go_icmp_ge (pc := 40) (tgt := 140) dX9_run_40 (by decide) (fun q1 => ?_) (fun q1 => ?_)
  · have h := h.1 q1
    refine go_iload (pc := 140) dX9_run_140 rfl ?_
    exact gq_iret (pc := 142) (F := wX G o) rfl dX9_run_142 h
  · have h := h.2 q1
    refine go_iload_n (pc := 43) dX9_run_43 rfl rfl ?_
    refine go_if_eq (pc := 44) (tgt := 140) dX9_run_44 (by decide) (fun q2 => ?_) (fun q2 => ?_)
    · have h := h.1 q2
      refine go_iload (pc := 140) dX9_run_140 rfl ?_
      exact gq_iret (pc := 142) (F := wX G o) rfl dX9_run_142 h
    · have h := h.2 q2
      refine go_aload_n (pc := 47) dX9_run_47 rfl rfl ?_
      refine gb_get (pc := 48) fX9_249 rfl (gz_b (by decide)) xw17 rfl dX9_run_48 (fun v3 ev3 => ?_)
      have h := h v3 ev3
      refine go_iconst (pc := 51) (v := 5) dX9_run_51 (by decide) ?_
      refine go_imul (pc := 52) dX9_run_52 ?_
      refine go_istore (pc := 53) (lv' := [(5, .int (v3 * 5)), (0, .ref (G.2.1 + 0)), (1, .int l1), (2, .ref (G.2.1 + 17)), (3, .int l3), (4, .int l4)]) dX9_run_53 (by decide) rfl ?_
      refine go_aload_n (pc := 55) dX9_run_55 rfl rfl ?_
      refine go_get (pc := 56) fX9_302 rfl (gz_b (by decide)) xw17 rfl dX9_run_56 ?_
      refine go_astore (pc := 59) (lv' := [(6, .ref (G.2.1 + 18)), (5, .int (v3 * 5)), (0, .ref (G.2.1 + 0)), (1, .int l1), (2, .ref (G.2.1 + 17)), (3, .int l3), (4, .int l4)]) dX9_run_59 (by decide) rfl ?_
      refine go_aload_n (pc := 61) dX9_run_61 rfl rfl ?_
      refine go_aload_n (pc := 62) dX9_run_62 rfl rfl ?_
      refine go_aload (pc := 63) dX9_run_63 rfl ?_
      refine go_iload (pc := 65) dX9_run_65 rfl ?_
      obtain ⟨b5, h⟩ := h
      refine gb_iald (pc := 67) (gz_b (by decide)) xw18 b5 dX9_run_67 (fun v4 ev4 => ?_)
      have h := h v4 ev4
      refine go_aload (pc := 68) dX9_run_68 rfl ?_
      refine go_iload (pc := 70) dX9_run_70 rfl ?_
      refine go_iconst (pc := 72) (v := 1) dX9_run_72 (by decide) ?_
      refine go_iadd (pc := 73) dX9_run_73 ?_
      obtain ⟨b7, h⟩ := h
      refine gb_iald (pc := 74) (gz_b (by decide)) xw18 b7 dX9_run_74 (fun v6 ev6 => ?_)
      have h := h v6 ev6
      refine go_aload (pc := 75) dX9_run_75 rfl ?_
      refine go_iload (pc := 77) dX9_run_77 rfl ?_
      refine go_iconst (pc := 79) (v := 2) dX9_run_79 (by decide) ?_
      refine go_iadd (pc := 80) dX9_run_80 ?_
      obtain ⟨b9, h⟩ := h
      refine gb_iald (pc := 81) (gz_b (by decide)) xw18 b9 dX9_run_81 (fun v8 ev8 => ?_)
      have h := h v8 ev8
      refine go_aload (pc := 82) dX9_run_82 rfl ?_
      refine go_iload (pc := 84) dX9_run_84 rfl ?_
      refine go_iconst (pc := 86) (v := 3) dX9_run_86 (by decide) ?_
      refine go_iadd (pc := 87) dX9_run_87 ?_
      obtain ⟨b11, h⟩ := h
      refine gb_iald (pc := 88) (gz_b (by decide)) xw18 b11 dX9_run_88 (fun v10 ev10 => ?_)
      have h := h v10 ev10
      refine go_aload (pc := 89) dX9_run_89 rfl ?_
      refine go_iload (pc := 91) dX9_run_91 rfl ?_
      refine go_iconst (pc := 93) (v := 4) dX9_run_93 (by decide) ?_
      refine go_iadd (pc := 94) dX9_run_94 ?_
      obtain ⟨b13, h⟩ := h
      refine gb_iald (pc := 95) (gz_b (by decide)) xw18 b13 dX9_run_95 (fun v12 ev12 => ?_)
      have h := h v12 ev12
      refine gq_callV_i (pc := 96) (F := wX G o) vX9_305 rfl (tX9_perform h) rfl rfl (gz_b (by decide)) xw0 rfl (Nat.le_of_ble_eq_true rfl) ⟨Nat.le_of_ble_eq_true rfl, Nat.le_of_ble_eq_true rfl, Nat.le_add_right _ _, Nat.le_add_right _ _⟩ dX9_run_96 (fun r15 c14 h => ?_)
      refine gq_callS_i (pc := 99) (F := wX G o) sX9_308 rfl (tX9_findingIn h) rfl rfl (Nat.le_of_ble_eq_true rfl) ⟨Nat.le_of_ble_eq_true rfl, Nat.le_of_ble_eq_true rfl, Nat.le_add_right _ _, Nat.le_add_right _ _⟩ dX9_run_99 (fun r17 c16 h => ?_)
      refine gb_put (pc := 102) (F := wX G o) fX9_62 rfl (gz_b (by decide)) xw0 (Nat.le_of_ble_eq_true rfl) rfl rfl xp0_6 dX9_run_102 (fun c18 ec18 => ?_)
      have h := h c18 ec18
      refine go_aload_n (pc := 105) dX9_run_105 rfl rfl ?_
      refine go_aload_n (pc := 106) dX9_run_106 rfl rfl ?_
      refine gb_get (pc := 107) fX9_62 rfl (gz_b (by decide)) xw0 rfl dX9_run_107 (fun v19 ev19 => ?_)
      have h := h v19 ev19
      refine go_if_eq (pc := 110) (tgt := 117) dX9_run_110 (by decide) (fun q20 => ?_) (fun q20 => ?_)
      · have h := h.1 q20
        refine go_iconst (pc := 117) (v := 0) dX9_run_117 (by decide) ?_
        refine go_lv [2, 3, 4, 6] rfl ?_
        exact tX9_run_p118 hP37 h
      · have h := h.2 q20
        refine go_iconst (pc := 113) (v := 1) dX9_run_113 (by decide) ?_
        refine go_goto (pc := 114) (tgt := 118) dX9_run_114 (by decide) ?_
        refine go_lv [2, 3, 4, 6] rfl ?_
        exact tX9_run_p118 hP37 h
set_option maxRecDepth 100000 in
set_option maxHeartbeats 4000000 in
theorem tX9_run_p37 {l : Launch} {G : gG} {k : Nat} {o : gMem} {Q : Int32 → gMem → Prop} {l1 : Int32} {l3 : Int32} {l4 : Int32} {c : gMem} (h : wX9_run_p37 l1 l3 l4 c Q) : Go l G mX9_run (gbq G 8 181 84 k (qi (wX G o) Q)) 37 [(0, .ref (G.2.1 + 0)), (1, .int l1), (2, .ref (G.2.1 + 17)), (3, .int l3), (4, .int l4)] [] 84 k (wX G o c) :=
  h (fun l1 l3 l4 c => Go l G mX9_run (gbq G 8 181 84 k (qi (wX G o) Q)) 37 [(0, .ref (G.2.1 + 0)), (1, .int l1), (2, .ref (G.2.1 + 17)), (3, .int l3), (4, .int l4)] [] 84 k (wX G o c)) (fun l1 l3 l4 c hb => tX9_run_p37_b (fun l1 l3 l4 c hh => hh) hb)
def wX9_run (l1 : Int32) (c : gMem) (Q : Int32 → gMem → Prop) : Prop :=
  ((l1 < 0 →
    Q ((-102)) c) ∧
   (¬ l1 < 0 →
    ((l1 ≤ 200 →
      ∀ v3, v3 = c 17 0 →
      ((v3 = 0 →
        Q ((-104)) c) ∧
       (¬ v3 = 0 →
        wX9_run_p37 l1 1 0 c Q))) ∧
     (¬ l1 ≤ 200 →
      Q ((-102)) c))))
set_option maxRecDepth 100000 in
set_option maxHeartbeats 4000000 in
theorem tX9_run {l : Launch} {G : gG} {k : Nat} {o : gMem} {Q : Int32 → gMem → Prop} {l1 : Int32} {c : gMem} (h : wX9_run l1 c Q) : Cq l G mX9_run 8 181 [.ref (G.2.1 + 0), .int l1] 84 k (wX G o c) (qi (wX G o) Q) := by
  refine Cq.of (by decide) (Nat.le_of_ble_eq_true rfl) ?_
  show Go l G mX9_run (gbq G 8 181 84 k (qi (wX G o) Q)) 0 [(0, .ref (G.2.1 + 0)), (1, .int l1)] [] 84 k (wX G o c)
  unfold wX9_run at h
  refine go_iload_n (pc := 0) dX9_run_0 rfl rfl ?_
  refine go_if_lt (pc := 1) (tgt := 11) dX9_run_1 (by decide) (fun q1 => ?_) (fun q1 => ?_)
  · have h := h.1 q1
    refine go_bipush (pc := 11) (v := (-102)) dX9_run_11 (by decide) ?_
    exact gq_iret (pc := 13) (F := wX G o) rfl dX9_run_13 h
  · have h := h.2 q1
    refine go_iload_n (pc := 4) dX9_run_4 rfl rfl ?_
    refine go_sipush (pc := 5) (v := 200) dX9_run_5 (by decide) ?_
    refine go_icmp_le (pc := 8) (tgt := 14) dX9_run_8 (by decide) (fun q2 => ?_) (fun q2 => ?_)
    · have h := h.1 q2
      refine go_aload_n (pc := 14) dX9_run_14 rfl rfl ?_
      refine go_get (pc := 15) fX9_12 rfl (gz_b (by decide)) xw0 rfl dX9_run_15 ?_
      refine go_get (pc := 18) fX9_242 rfl (gz_b (by decide)) xw1 rfl dX9_run_18 ?_
      refine go_astore_n (pc := 21) (lv' := [(2, .ref (G.2.1 + 17)), (0, .ref (G.2.1 + 0)), (1, .int l1)]) dX9_run_21 rfl (by decide) rfl ?_
      refine go_aload_n (pc := 22) dX9_run_22 rfl rfl ?_
      refine gb_get (pc := 23) fX9_246 rfl (gz_b (by decide)) xw17 rfl dX9_run_23 (fun v3 ev3 => ?_)
      have h := h v3 ev3
      refine go_if_ne (pc := 26) (tgt := 32) dX9_run_26 (by decide) (fun q4 => ?_) (fun q4 => ?_)
      · have h := h.2 q4
        refine go_iconst (pc := 32) (v := 1) dX9_run_32 (by decide) ?_
        refine go_istore_n (pc := 33) (lv' := [(3, .int 1), (2, .ref (G.2.1 + 17)), (0, .ref (G.2.1 + 0)), (1, .int l1)]) dX9_run_33 rfl (by decide) rfl ?_
        refine go_iconst (pc := 34) (v := 0) dX9_run_34 (by decide) ?_
        refine go_istore (pc := 35) (lv' := [(4, .int 0), (3, .int 1), (2, .ref (G.2.1 + 17)), (0, .ref (G.2.1 + 0)), (1, .int l1)]) dX9_run_35 (by decide) rfl ?_
        refine go_lv [3, 4, 2, 1, 0] rfl ?_
        exact tX9_run_p37 h
      · have h := h.1 q4
        refine go_bipush (pc := 29) (v := (-104)) dX9_run_29 (by decide) ?_
        exact gq_iret (pc := 31) (F := wX G o) rfl dX9_run_31 h
    · have h := h.2 q2
      refine go_bipush (pc := 11) (v := (-102)) dX9_run_11 (by decide) ?_
      exact gq_iret (pc := 13) (F := wX G o) rfl dX9_run_13 h
def wX9_found (c : gMem) (Q : Int32 → gMem → Prop) : Prop :=
  ∀ v1, v1 = c 0 6 →
  Q v1 c
set_option maxRecDepth 100000 in
set_option maxHeartbeats 4000000 in
theorem tX9_found {l : Launch} {G : gG} {k : Nat} {o : gMem} {Q : Int32 → gMem → Prop} {c : gMem} (h : wX9_found c Q) : Cq l G mX9_found 0 0 [.ref (G.2.1 + 0)] 84 k (wX G o c) (qi (wX G o) Q) := by
  refine Cq.of (by decide) (Nat.le_of_ble_eq_true rfl) ?_
  show Go l G mX9_found (gbq G 0 0 84 k (qi (wX G o) Q)) 0 [(0, .ref (G.2.1 + 0))] [] 84 k (wX G o c)
  unfold wX9_found at h
  refine go_aload_n (pc := 0) dX9_found_0 rfl rfl ?_
  refine gb_get (pc := 1) fX9_62 rfl (gz_b (by decide)) xw0 rfl dX9_found_1 (fun v1 ev1 => ?_)
  have h := h v1 ev1
  exact gq_iret (pc := 4) (F := wX G o) rfl dX9_found_4 h
def wX9_register_p10 (c : gMem) (Q : Int32 → gMem → Prop) : Prop :=
  Q ((-101)) c
set_option maxRecDepth 100000 in
set_option maxHeartbeats 4000000 in
theorem tX9_register_p10 {l : Launch} {G : gG} {k : Nat} {o : gMem} {Q : Int32 → gMem → Prop} {c : gMem} (h : wX9_register_p10 c Q) : Go l G mX9_register (gbq G 0 0 84 k (qi (wX G o) Q)) 10 [] [] 84 k (wX G o c) := by
  unfold wX9_register_p10 at h
  refine go_bipush (pc := 10) (v := (-101)) dX9_register_10 (by decide) ?_
  refine go_goto (pc := 12) (tgt := 27) dX9_register_12 (by decide) ?_
  exact gq_iret (pc := 27) (F := wX G o) rfl dX9_register_27 h
def wX9_register (l1 : Int32) (c : gMem) (Q : Int32 → gMem → Prop) : Prop :=
  ((l1 < 0 →
    wX9_register_p10 c Q) ∧
   (¬ l1 < 0 →
    ((l1 < 8 →
      vp_in l1 8 ∧
      ∀ v3, v3 = c 19 l1.toNatClampNeg →
      Q v3 c) ∧
     (¬ l1 < 8 →
      wX9_register_p10 c Q))))
set_option maxRecDepth 100000 in
set_option maxHeartbeats 4000000 in
theorem tX9_register {l : Launch} {G : gG} {k : Nat} {o : gMem} {Q : Int32 → gMem → Prop} {l1 : Int32} {c : gMem} (h : wX9_register l1 c Q) : Cq l G mX9_register 0 0 [.ref (G.2.1 + 0), .int l1] 84 k (wX G o c) (qi (wX G o) Q) := by
  refine Cq.of (by decide) (Nat.le_of_ble_eq_true rfl) ?_
  show Go l G mX9_register (gbq G 0 0 84 k (qi (wX G o) Q)) 0 [(0, .ref (G.2.1 + 0)), (1, .int l1)] [] 84 k (wX G o c)
  unfold wX9_register at h
  refine go_iload_n (pc := 0) dX9_register_0 rfl rfl ?_
  refine go_if_lt (pc := 1) (tgt := 10) dX9_register_1 (by decide) (fun q1 => ?_) (fun q1 => ?_)
  · have h := h.1 q1
    refine go_lv [] rfl ?_
    exact tX9_register_p10 h
  · have h := h.2 q1
    refine go_iload_n (pc := 4) dX9_register_4 rfl rfl ?_
    refine go_bipush (pc := 5) (v := 8) dX9_register_5 (by decide) ?_
    refine go_icmp_lt (pc := 7) (tgt := 15) dX9_register_7 (by decide) (fun q2 => ?_) (fun q2 => ?_)
    · have h := h.1 q2
      refine go_aload_n (pc := 15) dX9_register_15 rfl rfl ?_
      refine go_get (pc := 16) fX9_12 rfl (gz_b (by decide)) xw0 rfl dX9_register_16 ?_
      refine go_get (pc := 19) fX9_242 rfl (gz_b (by decide)) xw1 rfl dX9_register_19 ?_
      refine go_get (pc := 22) fX9_315 rfl (gz_b (by decide)) xw17 rfl dX9_register_22 ?_
      refine go_iload_n (pc := 25) dX9_register_25 rfl rfl ?_
      obtain ⟨b4, h⟩ := h
      refine gb_iald (pc := 26) (gz_b (by decide)) xw19 b4 dX9_register_26 (fun v3 ev3 => ?_)
      have h := h v3 ev3
      exact gq_iret (pc := 27) (F := wX G o) rfl dX9_register_27 h
    · have h := h.2 q2
      refine go_lv [] rfl ?_
      exact tX9_register_p10 h
def wX2_copyFrom_23_2_p27 (c : gMem) (Q : gMem → Prop) : Prop :=
  ∀ v1, v1 = c 2 1 →
  (¬ (0 : Int32) < 0 ∧ ¬ (0 : Int32) < 0 ∧ ¬ v1 < 0 ∧ 0 + v1.toNatClampNeg ≤ 4000 ∧ 0 + v1.toNatClampNeg ≤ 4000) ∧
  ∀ c3, c3 = mr c 24 (va_cpy (c 3) (c 24) 0 0 v1.toNatClampNeg) →
  (¬ (0 : Int32) < 0 ∧ ¬ (0 : Int32) < 0 ∧ ¬ (500 : Int32) < 0 ∧ 0 + 500 ≤ 500 ∧ 0 + 500 ≤ 500) ∧
  ∀ c5, c5 = mr c3 25 (va_cpy (c3 4) (c3 25) 0 0 500) →
  (¬ (0 : Int32) < 0 ∧ ¬ (0 : Int32) < 0 ∧ ¬ (500 : Int32) < 0 ∧ 0 + 500 ≤ 500 ∧ 0 + 500 ≤ 500) ∧
  ∀ c7, c7 = mr c5 26 (va_cpy (c5 5) (c5 26) 0 0 500) →
  ∀ v8, v8 = c7 2 0 →
  ∀ c9, c9 = mp c7 23 0 v8 →
  ∀ v10, v10 = c9 2 1 →
  ∀ c11, c11 = mp c9 23 1 v10 →
  ∀ v12, v12 = c11 2 2 →
  ∀ c13, c13 = mp c11 23 2 v12 →
  ∀ v14, v14 = c13 2 3 →
  ∀ c15, c15 = mp c13 23 3 v14 →
  Q c15
set_option maxRecDepth 100000 in
set_option maxHeartbeats 4000000 in
theorem tX2_copyFrom_23_2_p27 {l : Launch} {G : gG} {k : Nat} {o : gMem} {Q : gMem → Prop} {c : gMem} (h : wX2_copyFrom_23_2_p27 c Q) : Go l G mX2_copyFrom (gbq G 2 46 84 k (qv (wX G o) Q)) 27 [(0, .ref (G.2.1 + 23)), (1, .ref (G.2.1 + 2))] [] 84 k (wX G o c) := by
  unfold wX2_copyFrom_23_2_p27 at h
  refine go_aload_n (pc := 27) dX2_copyFrom_27 rfl rfl ?_
  refine go_get (pc := 28) fX2_9 rfl (gz_b (by decide)) xw2 rfl dX2_copyFrom_28 ?_
  refine go_iconst (pc := 31) (v := 0) dX2_copyFrom_31 (by decide) ?_
  refine go_aload_n (pc := 32) dX2_copyFrom_32 rfl rfl ?_
  refine go_get (pc := 33) fX2_9 rfl (gz_b (by decide)) xw23 rfl dX2_copyFrom_33 ?_
  refine go_iconst (pc := 36) (v := 0) dX2_copyFrom_36 (by decide) ?_
  refine go_aload_n (pc := 37) dX2_copyFrom_37 rfl rfl ?_
  refine gb_get (pc := 38) fX2_41 rfl (gz_b (by decide)) xw2 rfl dX2_copyFrom_38 (fun v1 ev1 => ?_)
  have h := h v1 ev1
  obtain ⟨b2, h⟩ := h
  refine gb_copy (pc := 41) (F := wX G o) rfl aX2_47 (gz_b (by decide)) xw3 (gz_b (by decide)) xw24 b2 (Nat.le_of_ble_eq_true rfl) (Nat.le_of_ble_eq_true rfl) xa24 dX2_copyFrom_41 (fun c3 ec3 => ?_)
  have h := h c3 ec3
  refine go_aload_n (pc := 44) dX2_copyFrom_44 rfl rfl ?_
  refine go_get (pc := 45) fX2_15 rfl (gz_b (by decide)) xw2 rfl dX2_copyFrom_45 ?_
  refine go_iconst (pc := 48) (v := 0) dX2_copyFrom_48 (by decide) ?_
  refine go_aload_n (pc := 49) dX2_copyFrom_49 rfl rfl ?_
  refine go_get (pc := 50) fX2_15 rfl (gz_b (by decide)) xw23 rfl dX2_copyFrom_50 ?_
  refine go_iconst (pc := 53) (v := 0) dX2_copyFrom_53 (by decide) ?_
  refine go_sipush (pc := 54) (v := 500) dX2_copyFrom_54 (by decide) ?_
  obtain ⟨b4, h⟩ := h
  refine gb_copy (pc := 57) (F := wX G o) rfl aX2_47 (gz_b (by decide)) xw4 (gz_b (by decide)) xw25 b4 (Nat.le_of_ble_eq_true rfl) (Nat.le_of_ble_eq_true rfl) xa25 dX2_copyFrom_57 (fun c5 ec5 => ?_)
  have h := h c5 ec5
  refine go_aload_n (pc := 60) dX2_copyFrom_60 rfl rfl ?_
  refine go_get (pc := 61) fX2_18 rfl (gz_b (by decide)) xw2 rfl dX2_copyFrom_61 ?_
  refine go_iconst (pc := 64) (v := 0) dX2_copyFrom_64 (by decide) ?_
  refine go_aload_n (pc := 65) dX2_copyFrom_65 rfl rfl ?_
  refine go_get (pc := 66) fX2_18 rfl (gz_b (by decide)) xw23 rfl dX2_copyFrom_66 ?_
  refine go_iconst (pc := 69) (v := 0) dX2_copyFrom_69 (by decide) ?_
  refine go_sipush (pc := 70) (v := 500) dX2_copyFrom_70 (by decide) ?_
  obtain ⟨b6, h⟩ := h
  refine gb_copy (pc := 73) (F := wX G o) rfl aX2_47 (gz_b (by decide)) xw5 (gz_b (by decide)) xw26 b6 (Nat.le_of_ble_eq_true rfl) (Nat.le_of_ble_eq_true rfl) xa26 dX2_copyFrom_73 (fun c7 ec7 => ?_)
  have h := h c7 ec7
  refine go_aload_n (pc := 76) dX2_copyFrom_76 rfl rfl ?_
  refine go_aload_n (pc := 77) dX2_copyFrom_77 rfl rfl ?_
  refine gb_get (pc := 78) fX2_25 rfl (gz_b (by decide)) xw2 rfl dX2_copyFrom_78 (fun v8 ev8 => ?_)
  have h := h v8 ev8
  refine gb_put (pc := 81) (F := wX G o) fX2_25 rfl (gz_b (by decide)) xw23 (Nat.le_of_ble_eq_true rfl) rfl rfl xp23_0 dX2_copyFrom_81 (fun c9 ec9 => ?_)
  have h := h c9 ec9
  refine go_aload_n (pc := 84) dX2_copyFrom_84 rfl rfl ?_
  refine go_aload_n (pc := 85) dX2_copyFrom_85 rfl rfl ?_
  refine gb_get (pc := 86) fX2_41 rfl (gz_b (by decide)) xw2 rfl dX2_copyFrom_86 (fun v10 ev10 => ?_)
  have h := h v10 ev10
  refine gb_put (pc := 89) (F := wX G o) fX2_41 rfl (gz_b (by decide)) xw23 (Nat.le_of_ble_eq_true rfl) rfl rfl xp23_1 dX2_copyFrom_89 (fun c11 ec11 => ?_)
  have h := h c11 ec11
  refine go_aload_n (pc := 92) dX2_copyFrom_92 rfl rfl ?_
  refine go_aload_n (pc := 93) dX2_copyFrom_93 rfl rfl ?_
  refine gb_get (pc := 94) fX2_29 rfl (gz_b (by decide)) xw2 rfl dX2_copyFrom_94 (fun v12 ev12 => ?_)
  have h := h v12 ev12
  refine gb_put (pc := 97) (F := wX G o) fX2_29 rfl (gz_b (by decide)) xw23 (Nat.le_of_ble_eq_true rfl) rfl rfl xp23_2 dX2_copyFrom_97 (fun c13 ec13 => ?_)
  have h := h c13 ec13
  refine go_aload_n (pc := 100) dX2_copyFrom_100 rfl rfl ?_
  refine go_aload_n (pc := 101) dX2_copyFrom_101 rfl rfl ?_
  refine gb_get (pc := 102) fX2_32 rfl (gz_b (by decide)) xw2 rfl dX2_copyFrom_102 (fun v14 ev14 => ?_)
  have h := h v14 ev14
  refine gb_put (pc := 105) (F := wX G o) fX2_32 rfl (gz_b (by decide)) xw23 (Nat.le_of_ble_eq_true rfl) rfl rfl xp23_3 dX2_copyFrom_105 (fun c15 ec15 => ?_)
  have h := h c15 ec15
  exact gq_vret (pc := 108) (F := wX G o) rfl dX2_copyFrom_108 h
def wX2_copyFrom_23_2 (c : gMem) (Q : gMem → Prop) : Prop :=
  ∀ v1, v1 = c 23 1 →
  ∀ v2, v2 = c 2 1 →
  ((v1 ≤ v2 →
    wX2_copyFrom_23_2_p27 c Q) ∧
   (¬ v1 ≤ v2 →
    ∀ v4, v4 = c 2 1 →
    ∀ v5, v5 = c 23 1 →
    ∃ f7 t8 : Nat, v4 = nI f7 ∧ v5 = nI t8 ∧ f7 ≤ t8 ∧ t8 ≤ 4000 ∧
    ∀ c6, c6 = mr c 24 (fun j => if f7 ≤ j ∧ j < t8 then 0 else c 24 j) →
    wX2_copyFrom_23_2_p27 c6 Q))
set_option maxRecDepth 100000 in
set_option maxHeartbeats 4000000 in
theorem tX2_copyFrom_23_2 {l : Launch} {G : gG} {k : Nat} {o : gMem} {Q : gMem → Prop} {c : gMem} (h : wX2_copyFrom_23_2 c Q) : Cq l G mX2_copyFrom 2 46 [.ref (G.2.1 + 23), .ref (G.2.1 + 2)] 84 k (wX G o c) (qv (wX G o) Q) := by
  refine Cq.of (by decide) (Nat.le_of_ble_eq_true rfl) ?_
  show Go l G mX2_copyFrom (gbq G 2 46 84 k (qv (wX G o) Q)) 0 [(0, .ref (G.2.1 + 23)), (1, .ref (G.2.1 + 2))] [] 84 k (wX G o c)
  unfold wX2_copyFrom_23_2 at h
  refine go_aload_n (pc := 0) dX2_copyFrom_0 rfl rfl ?_
  refine gb_get (pc := 1) fX2_41 rfl (gz_b (by decide)) xw23 rfl dX2_copyFrom_1 (fun v1 ev1 => ?_)
  have h := h v1 ev1
  refine go_aload_n (pc := 4) dX2_copyFrom_4 rfl rfl ?_
  refine gb_get (pc := 5) fX2_41 rfl (gz_b (by decide)) xw2 rfl dX2_copyFrom_5 (fun v2 ev2 => ?_)
  have h := h v2 ev2
  refine go_icmp_le (pc := 8) (tgt := 27) dX2_copyFrom_8 (by decide) (fun q3 => ?_) (fun q3 => ?_)
  · have h := h.1 q3
    refine go_lv [0, 1] rfl ?_
    exact tX2_copyFrom_23_2_p27 h
  · have h := h.2 q3
    refine go_aload_n (pc := 11) dX2_copyFrom_11 rfl rfl ?_
    refine go_get (pc := 12) fX2_9 rfl (gz_b (by decide)) xw23 rfl dX2_copyFrom_12 ?_
    refine go_aload_n (pc := 15) dX2_copyFrom_15 rfl rfl ?_
    refine gb_get (pc := 16) fX2_41 rfl (gz_b (by decide)) xw2 rfl dX2_copyFrom_16 (fun v4 ev4 => ?_)
    have h := h v4 ev4
    refine go_aload_n (pc := 19) dX2_copyFrom_19 rfl rfl ?_
    refine gb_get (pc := 20) fX2_41 rfl (gz_b (by decide)) xw23 rfl dX2_copyFrom_20 (fun v5 ev5 => ?_)
    have h := h v5 ev5
    refine go_iconst (pc := 23) (v := 0) dX2_copyFrom_23 (by decide) ?_
    obtain ⟨f7, t8, u9a, u9b, u9c, u9d, h⟩ := h
    refine gq_callS_v (pc := 24) (F := wX G o) (Q := fun q => q = mr c 24 (fun j => if f7 ≤ j ∧ j < t8 then 0 else c 24 j)) sX2_44 rfl (cq_fillr (by decide) u9a u9b u9c u9d (gz_b (by decide)) xw24 xa24 rfl) rfl rfl (Nat.le_of_ble_eq_true rfl) ⟨Nat.le_of_ble_eq_true rfl, Nat.le_of_ble_eq_true rfl, Nat.le_add_right _ _, Nat.le_add_right _ _⟩ dX2_copyFrom_24 (fun c6 ec6 => ?_)
    have h := h c6 ec6
    refine go_lv [0, 1] rfl ?_
    exact tX2_copyFrom_23_2_p27 h
def wX3_copyFrom_27_6 (c : gMem) (Q : gMem → Prop) : Prop :=
  ∀ v1, v1 = c 6 0 →
  (v1 = 0 ∨ v1 = 1) ∧
  ∀ c2, c2 = mp c 27 0 v1 →
  ∀ v4, v4 = c2 6 1 →
  ∀ c5, c5 = mp c2 27 1 v4 →
  ∀ v6, v6 = c5 6 2 →
  ∀ c7, c7 = mp c5 27 2 v6 →
  ∀ v8, v8 = c7 6 3 →
  ∀ c9, c9 = mp c7 27 3 v8 →
  (¬ (0 : Int32) < 0 ∧ ¬ (0 : Int32) < 0 ∧ ¬ (500 : Int32) < 0 ∧ 0 + 500 ≤ 500 ∧ 0 + 500 ≤ 500) ∧
  ∀ c11, c11 = mr c9 28 (va_cpy (c9 7) (c9 28) 0 0 500) →
  (¬ (0 : Int32) < 0 ∧ ¬ (0 : Int32) < 0 ∧ ¬ (500 : Int32) < 0 ∧ 0 + 500 ≤ 500 ∧ 0 + 500 ≤ 500) ∧
  ∀ c13, c13 = mr c11 29 (va_cpy (c11 8) (c11 29) 0 0 500) →
  (¬ (0 : Int32) < 0 ∧ ¬ (0 : Int32) < 0 ∧ ¬ (500 : Int32) < 0 ∧ 0 + 500 ≤ 500 ∧ 0 + 500 ≤ 500) ∧
  ∀ c15, c15 = mr c13 30 (va_cpy (c13 9) (c13 30) 0 0 500) →
  (¬ (0 : Int32) < 0 ∧ ¬ (0 : Int32) < 0 ∧ ¬ (500 : Int32) < 0 ∧ 0 + 500 ≤ 500 ∧ 0 + 500 ≤ 500) ∧
  ∀ c17, c17 = mr c15 31 (va_cpy (c15 10) (c15 31) 0 0 500) →
  (¬ (0 : Int32) < 0 ∧ ¬ (0 : Int32) < 0 ∧ ¬ (500 : Int32) < 0 ∧ 0 + 500 ≤ 500 ∧ 0 + 500 ≤ 500) ∧
  ∀ c19, c19 = mr c17 32 (va_cpy (c17 11) (c17 32) 0 0 500) →
  Q c19
set_option maxRecDepth 100000 in
set_option maxHeartbeats 4000000 in
theorem tX3_copyFrom_27_6 {l : Launch} {G : gG} {k : Nat} {o : gMem} {Q : gMem → Prop} {c : gMem} (h : wX3_copyFrom_27_6 c Q) : Cq l G mX3_copyFrom 1 26 [.ref (G.2.1 + 27), .ref (G.2.1 + 6)] 84 k (wX G o c) (qv (wX G o) Q) := by
  refine Cq.of (by decide) (Nat.le_of_ble_eq_true rfl) ?_
  show Go l G mX3_copyFrom (gbq G 1 26 84 k (qv (wX G o) Q)) 0 [(0, .ref (G.2.1 + 27)), (1, .ref (G.2.1 + 6))] [] 84 k (wX G o c)
  unfold wX3_copyFrom_27_6 at h
  refine go_aload_n (pc := 0) dX3_copyFrom_0 rfl rfl ?_
  refine go_aload_n (pc := 1) dX3_copyFrom_1 rfl rfl ?_
  refine gb_get (pc := 2) fX3_27 rfl (gz_b (by decide)) xw6 rfl dX3_copyFrom_2 (fun v1 ev1 => ?_)
  have h := h v1 ev1
  obtain ⟨b3, h⟩ := h
  refine gb_put (pc := 5) (F := wX G o) fX3_27 rfl (gz_b (by decide)) xw27 (Nat.le_of_ble_eq_true rfl) (by rcases b3 with hz | hz <;> rw [hz] <;> rfl) (by rcases b3 with hz | hz <;> rw [hz] <;> rfl) xp27_0 dX3_copyFrom_5 (fun c2 ec2 => ?_)
  have h := h c2 ec2
  refine go_aload_n (pc := 8) dX3_copyFrom_8 rfl rfl ?_
  refine go_aload_n (pc := 9) dX3_copyFrom_9 rfl rfl ?_
  refine gb_get (pc := 10) fX3_31 rfl (gz_b (by decide)) xw6 rfl dX3_copyFrom_10 (fun v4 ev4 => ?_)
  have h := h v4 ev4
  refine gb_put (pc := 13) (F := wX G o) fX3_31 rfl (gz_b (by decide)) xw27 (Nat.le_of_ble_eq_true rfl) rfl rfl xp27_1 dX3_copyFrom_13 (fun c5 ec5 => ?_)
  have h := h c5 ec5
  refine go_aload_n (pc := 16) dX3_copyFrom_16 rfl rfl ?_
  refine go_aload_n (pc := 17) dX3_copyFrom_17 rfl rfl ?_
  refine gb_get (pc := 18) fX3_35 rfl (gz_b (by decide)) xw6 rfl dX3_copyFrom_18 (fun v6 ev6 => ?_)
  have h := h v6 ev6
  refine gb_put (pc := 21) (F := wX G o) fX3_35 rfl (gz_b (by decide)) xw27 (Nat.le_of_ble_eq_true rfl) rfl rfl xp27_2 dX3_copyFrom_21 (fun c7 ec7 => ?_)
  have h := h c7 ec7
  refine go_aload_n (pc := 24) dX3_copyFrom_24 rfl rfl ?_
  refine go_aload_n (pc := 25) dX3_copyFrom_25 rfl rfl ?_
  refine gb_get (pc := 26) fX3_38 rfl (gz_b (by decide)) xw6 rfl dX3_copyFrom_26 (fun v8 ev8 => ?_)
  have h := h v8 ev8
  refine gb_put (pc := 29) (F := wX G o) fX3_38 rfl (gz_b (by decide)) xw27 (Nat.le_of_ble_eq_true rfl) rfl rfl xp27_3 dX3_copyFrom_29 (fun c9 ec9 => ?_)
  have h := h c9 ec9
  refine go_aload_n (pc := 32) dX3_copyFrom_32 rfl rfl ?_
  refine go_get (pc := 33) fX3_9 rfl (gz_b (by decide)) xw6 rfl dX3_copyFrom_33 ?_
  refine go_iconst (pc := 36) (v := 0) dX3_copyFrom_36 (by decide) ?_
  refine go_aload_n (pc := 37) dX3_copyFrom_37 rfl rfl ?_
  refine go_get (pc := 38) fX3_9 rfl (gz_b (by decide)) xw27 rfl dX3_copyFrom_38 ?_
  refine go_iconst (pc := 41) (v := 0) dX3_copyFrom_41 (by decide) ?_
  refine go_sipush (pc := 42) (v := 500) dX3_copyFrom_42 (by decide) ?_
  obtain ⟨b10, h⟩ := h
  refine gb_copy (pc := 45) (F := wX G o) rfl aX3_47 (gz_b (by decide)) xw7 (gz_b (by decide)) xw28 b10 (Nat.le_of_ble_eq_true rfl) (Nat.le_of_ble_eq_true rfl) xa28 dX3_copyFrom_45 (fun c11 ec11 => ?_)
  have h := h c11 ec11
  refine go_aload_n (pc := 48) dX3_copyFrom_48 rfl rfl ?_
  refine go_get (pc := 49) fX3_15 rfl (gz_b (by decide)) xw6 rfl dX3_copyFrom_49 ?_
  refine go_iconst (pc := 52) (v := 0) dX3_copyFrom_52 (by decide) ?_
  refine go_aload_n (pc := 53) dX3_copyFrom_53 rfl rfl ?_
  refine go_get (pc := 54) fX3_15 rfl (gz_b (by decide)) xw27 rfl dX3_copyFrom_54 ?_
  refine go_iconst (pc := 57) (v := 0) dX3_copyFrom_57 (by decide) ?_
  refine go_sipush (pc := 58) (v := 500) dX3_copyFrom_58 (by decide) ?_
  obtain ⟨b12, h⟩ := h
  refine gb_copy (pc := 61) (F := wX G o) rfl aX3_47 (gz_b (by decide)) xw8 (gz_b (by decide)) xw29 b12 (Nat.le_of_ble_eq_true rfl) (Nat.le_of_ble_eq_true rfl) xa29 dX3_copyFrom_61 (fun c13 ec13 => ?_)
  have h := h c13 ec13
  refine go_aload_n (pc := 64) dX3_copyFrom_64 rfl rfl ?_
  refine go_get (pc := 65) fX3_18 rfl (gz_b (by decide)) xw6 rfl dX3_copyFrom_65 ?_
  refine go_iconst (pc := 68) (v := 0) dX3_copyFrom_68 (by decide) ?_
  refine go_aload_n (pc := 69) dX3_copyFrom_69 rfl rfl ?_
  refine go_get (pc := 70) fX3_18 rfl (gz_b (by decide)) xw27 rfl dX3_copyFrom_70 ?_
  refine go_iconst (pc := 73) (v := 0) dX3_copyFrom_73 (by decide) ?_
  refine go_sipush (pc := 74) (v := 500) dX3_copyFrom_74 (by decide) ?_
  obtain ⟨b14, h⟩ := h
  refine gb_copy (pc := 77) (F := wX G o) rfl aX3_47 (gz_b (by decide)) xw9 (gz_b (by decide)) xw30 b14 (Nat.le_of_ble_eq_true rfl) (Nat.le_of_ble_eq_true rfl) xa30 dX3_copyFrom_77 (fun c15 ec15 => ?_)
  have h := h c15 ec15
  refine go_aload_n (pc := 80) dX3_copyFrom_80 rfl rfl ?_
  refine go_get (pc := 81) fX3_21 rfl (gz_b (by decide)) xw6 rfl dX3_copyFrom_81 ?_
  refine go_iconst (pc := 84) (v := 0) dX3_copyFrom_84 (by decide) ?_
  refine go_aload_n (pc := 85) dX3_copyFrom_85 rfl rfl ?_
  refine go_get (pc := 86) fX3_21 rfl (gz_b (by decide)) xw27 rfl dX3_copyFrom_86 ?_
  refine go_iconst (pc := 89) (v := 0) dX3_copyFrom_89 (by decide) ?_
  refine go_sipush (pc := 90) (v := 500) dX3_copyFrom_90 (by decide) ?_
  obtain ⟨b16, h⟩ := h
  refine gb_copy (pc := 93) (F := wX G o) rfl aX3_47 (gz_b (by decide)) xw10 (gz_b (by decide)) xw31 b16 (Nat.le_of_ble_eq_true rfl) (Nat.le_of_ble_eq_true rfl) xa31 dX3_copyFrom_93 (fun c17 ec17 => ?_)
  have h := h c17 ec17
  refine go_aload_n (pc := 96) dX3_copyFrom_96 rfl rfl ?_
  refine go_get (pc := 97) fX3_24 rfl (gz_b (by decide)) xw6 rfl dX3_copyFrom_97 ?_
  refine go_iconst (pc := 100) (v := 0) dX3_copyFrom_100 (by decide) ?_
  refine go_aload_n (pc := 101) dX3_copyFrom_101 rfl rfl ?_
  refine go_get (pc := 102) fX3_24 rfl (gz_b (by decide)) xw27 rfl dX3_copyFrom_102 ?_
  refine go_iconst (pc := 105) (v := 0) dX3_copyFrom_105 (by decide) ?_
  refine go_sipush (pc := 106) (v := 500) dX3_copyFrom_106 (by decide) ?_
  obtain ⟨b18, h⟩ := h
  refine gb_copy (pc := 109) (F := wX G o) rfl aX3_47 (gz_b (by decide)) xw11 (gz_b (by decide)) xw32 b18 (Nat.le_of_ble_eq_true rfl) (Nat.le_of_ble_eq_true rfl) xa32 dX3_copyFrom_109 (fun c19 ec19 => ?_)
  have h := h c19 ec19
  exact gq_vret (pc := 112) (F := wX G o) rfl dX3_copyFrom_112 h
def wX8_copyFrom_33_12 (c : gMem) (Q : gMem → Prop) : Prop :=
  ∀ v1, v1 = c 12 0 →
  ∀ c2, c2 = mp c 33 0 v1 →
  ∀ v3, v3 = c2 12 1 →
  ∀ c4, c4 = mp c2 33 1 v3 →
  ∀ v5, v5 = c4 12 2 →
  ∀ c6, c6 = mp c4 33 2 v5 →
  ∀ v7, v7 = c6 12 3 →
  ∀ c8, c8 = mp c6 33 3 v7 →
  ∀ v9, v9 = c8 12 4 →
  ∀ c10, c10 = mp c8 33 4 v9 →
  ∀ v11, v11 = c10 12 5 →
  ∀ c12, c12 = mp c10 33 5 v11 →
  (¬ (0 : Int32) < 0 ∧ ¬ (0 : Int32) < 0 ∧ ¬ (300 : Int32) < 0 ∧ 0 + 300 ≤ 300 ∧ 0 + 300 ≤ 300) ∧
  ∀ c14, c14 = mr c12 34 (va_cpy (c12 13) (c12 34) 0 0 300) →
  Q c14
set_option maxRecDepth 100000 in
set_option maxHeartbeats 4000000 in
theorem tX8_copyFrom_33_12 {l : Launch} {G : gG} {k : Nat} {o : gMem} {Q : gMem → Prop} {c : gMem} (h : wX8_copyFrom_33_12 c Q) : Cq l G mX8_copyFrom 1 26 [.ref (G.2.1 + 33), .ref (G.2.1 + 12)] 84 k (wX G o c) (qv (wX G o) Q) := by
  refine Cq.of (by decide) (Nat.le_of_ble_eq_true rfl) ?_
  show Go l G mX8_copyFrom (gbq G 1 26 84 k (qv (wX G o) Q)) 0 [(0, .ref (G.2.1 + 33)), (1, .ref (G.2.1 + 12))] [] 84 k (wX G o c)
  unfold wX8_copyFrom_33_12 at h
  refine go_aload_n (pc := 0) dX8_copyFrom_0 rfl rfl ?_
  refine go_aload_n (pc := 1) dX8_copyFrom_1 rfl rfl ?_
  refine gb_get (pc := 2) fX8_15 rfl (gz_b (by decide)) xw12 rfl dX8_copyFrom_2 (fun v1 ev1 => ?_)
  have h := h v1 ev1
  refine gb_put (pc := 5) (F := wX G o) fX8_15 rfl (gz_b (by decide)) xw33 (Nat.le_of_ble_eq_true rfl) rfl rfl xp33_0 dX8_copyFrom_5 (fun c2 ec2 => ?_)
  have h := h c2 ec2
  refine go_aload_n (pc := 8) dX8_copyFrom_8 rfl rfl ?_
  refine go_aload_n (pc := 9) dX8_copyFrom_9 rfl rfl ?_
  refine gb_get (pc := 10) fX8_19 rfl (gz_b (by decide)) xw12 rfl dX8_copyFrom_10 (fun v3 ev3 => ?_)
  have h := h v3 ev3
  refine gb_put (pc := 13) (F := wX G o) fX8_19 rfl (gz_b (by decide)) xw33 (Nat.le_of_ble_eq_true rfl) rfl rfl xp33_1 dX8_copyFrom_13 (fun c4 ec4 => ?_)
  have h := h c4 ec4
  refine go_aload_n (pc := 16) dX8_copyFrom_16 rfl rfl ?_
  refine go_aload_n (pc := 17) dX8_copyFrom_17 rfl rfl ?_
  refine gb_get (pc := 18) fX8_22 rfl (gz_b (by decide)) xw12 rfl dX8_copyFrom_18 (fun v5 ev5 => ?_)
  have h := h v5 ev5
  refine gb_put (pc := 21) (F := wX G o) fX8_22 rfl (gz_b (by decide)) xw33 (Nat.le_of_ble_eq_true rfl) rfl rfl xp33_2 dX8_copyFrom_21 (fun c6 ec6 => ?_)
  have h := h c6 ec6
  refine go_aload_n (pc := 24) dX8_copyFrom_24 rfl rfl ?_
  refine go_aload_n (pc := 25) dX8_copyFrom_25 rfl rfl ?_
  refine gb_get (pc := 26) fX8_25 rfl (gz_b (by decide)) xw12 rfl dX8_copyFrom_26 (fun v7 ev7 => ?_)
  have h := h v7 ev7
  refine gb_put (pc := 29) (F := wX G o) fX8_25 rfl (gz_b (by decide)) xw33 (Nat.le_of_ble_eq_true rfl) rfl rfl xp33_3 dX8_copyFrom_29 (fun c8 ec8 => ?_)
  have h := h c8 ec8
  refine go_aload_n (pc := 32) dX8_copyFrom_32 rfl rfl ?_
  refine go_aload_n (pc := 33) dX8_copyFrom_33 rfl rfl ?_
  refine gb_get (pc := 34) fX8_28 rfl (gz_b (by decide)) xw12 rfl dX8_copyFrom_34 (fun v9 ev9 => ?_)
  have h := h v9 ev9
  refine gb_put (pc := 37) (F := wX G o) fX8_28 rfl (gz_b (by decide)) xw33 (Nat.le_of_ble_eq_true rfl) rfl rfl xp33_4 dX8_copyFrom_37 (fun c10 ec10 => ?_)
  have h := h c10 ec10
  refine go_aload_n (pc := 40) dX8_copyFrom_40 rfl rfl ?_
  refine go_aload_n (pc := 41) dX8_copyFrom_41 rfl rfl ?_
  refine gb_get (pc := 42) fX8_31 rfl (gz_b (by decide)) xw12 rfl dX8_copyFrom_42 (fun v11 ev11 => ?_)
  have h := h v11 ev11
  refine gb_put (pc := 45) (F := wX G o) fX8_31 rfl (gz_b (by decide)) xw33 (Nat.le_of_ble_eq_true rfl) rfl rfl xp33_5 dX8_copyFrom_45 (fun c12 ec12 => ?_)
  have h := h c12 ec12
  refine go_aload_n (pc := 48) dX8_copyFrom_48 rfl rfl ?_
  refine go_get (pc := 49) fX8_9 rfl (gz_b (by decide)) xw12 rfl dX8_copyFrom_49 ?_
  refine go_iconst (pc := 52) (v := 0) dX8_copyFrom_52 (by decide) ?_
  refine go_aload_n (pc := 53) dX8_copyFrom_53 rfl rfl ?_
  refine go_get (pc := 54) fX8_9 rfl (gz_b (by decide)) xw33 rfl dX8_copyFrom_54 ?_
  refine go_iconst (pc := 57) (v := 0) dX8_copyFrom_57 (by decide) ?_
  refine go_aload_n (pc := 58) dX8_copyFrom_58 rfl rfl ?_
  refine go_get (pc := 59) fX8_9 rfl (gz_b (by decide)) xw33 rfl dX8_copyFrom_59 ?_
  refine go_alen (pc := 62) (gz_b (by decide)) xw34 dX8_copyFrom_62 ?_
  refine go_top (y := 300) (by decide) ?_
  obtain ⟨b13, h⟩ := h
  refine gb_copy (pc := 63) (F := wX G o) rfl aX8_34 (gz_b (by decide)) xw13 (gz_b (by decide)) xw34 b13 (Nat.le_of_ble_eq_true rfl) (Nat.le_of_ble_eq_true rfl) xa34 dX8_copyFrom_63 (fun c14 ec14 => ?_)
  have h := h c14 ec14
  exact gq_vret (pc := 66) (F := wX G o) rfl dX8_copyFrom_66 h
def wX4_copyFrom_35_14 (c : gMem) (Q : gMem → Prop) : Prop :=
  ∀ v1, v1 = c 14 0 →
  ∀ c2, c2 = mp c 35 0 v1 →
  ∀ v3, v3 = c2 35 0 →
  (¬ (0 : Int32) < 0 ∧ ¬ (0 : Int32) < 0 ∧ ¬ v3 < 0 ∧ 0 + v3.toNatClampNeg ≤ 6527 ∧ 0 + v3.toNatClampNeg ≤ 6527) ∧
  ∀ c5, c5 = mr c2 36 (va_cpy (c2 15) (c2 36) 0 0 v3.toNatClampNeg) →
  ∀ v6, v6 = c5 35 0 →
  (¬ (0 : Int32) < 0 ∧ ¬ (0 : Int32) < 0 ∧ ¬ v6 < 0 ∧ 0 + v6.toNatClampNeg ≤ 6527 ∧ 0 + v6.toNatClampNeg ≤ 6527) ∧
  ∀ c8, c8 = mr c5 37 (va_cpy (c5 16) (c5 37) 0 0 v6.toNatClampNeg) →
  Q c8
set_option maxRecDepth 100000 in
set_option maxHeartbeats 4000000 in
theorem tX4_copyFrom_35_14 {l : Launch} {G : gG} {k : Nat} {o : gMem} {Q : gMem → Prop} {c : gMem} (h : wX4_copyFrom_35_14 c Q) : Cq l G mX4_copyFrom 1 26 [.ref (G.2.1 + 35), .ref (G.2.1 + 14)] 84 k (wX G o c) (qv (wX G o) Q) := by
  refine Cq.of (by decide) (Nat.le_of_ble_eq_true rfl) ?_
  show Go l G mX4_copyFrom (gbq G 1 26 84 k (qv (wX G o) Q)) 0 [(0, .ref (G.2.1 + 35)), (1, .ref (G.2.1 + 14))] [] 84 k (wX G o c)
  unfold wX4_copyFrom_35_14 at h
  refine go_aload_n (pc := 0) dX4_copyFrom_0 rfl rfl ?_
  refine go_aload_n (pc := 1) dX4_copyFrom_1 rfl rfl ?_
  refine gb_get (pc := 2) fX4_18 rfl (gz_b (by decide)) xw14 rfl dX4_copyFrom_2 (fun v1 ev1 => ?_)
  have h := h v1 ev1
  refine gb_put (pc := 5) (F := wX G o) fX4_18 rfl (gz_b (by decide)) xw35 (Nat.le_of_ble_eq_true rfl) rfl rfl xp35_0 dX4_copyFrom_5 (fun c2 ec2 => ?_)
  have h := h c2 ec2
  refine go_aload_n (pc := 8) dX4_copyFrom_8 rfl rfl ?_
  refine go_get (pc := 9) fX4_9 rfl (gz_b (by decide)) xw14 rfl dX4_copyFrom_9 ?_
  refine go_iconst (pc := 12) (v := 0) dX4_copyFrom_12 (by decide) ?_
  refine go_aload_n (pc := 13) dX4_copyFrom_13 rfl rfl ?_
  refine go_get (pc := 14) fX4_9 rfl (gz_b (by decide)) xw35 rfl dX4_copyFrom_14 ?_
  refine go_iconst (pc := 17) (v := 0) dX4_copyFrom_17 (by decide) ?_
  refine go_aload_n (pc := 18) dX4_copyFrom_18 rfl rfl ?_
  refine gb_get (pc := 19) fX4_18 rfl (gz_b (by decide)) xw35 rfl dX4_copyFrom_19 (fun v3 ev3 => ?_)
  have h := h v3 ev3
  obtain ⟨b4, h⟩ := h
  refine gb_copy (pc := 22) (F := wX G o) rfl aX4_22 (gz_b (by decide)) xw15 (gz_b (by decide)) xw36 b4 (Nat.le_of_ble_eq_true rfl) (Nat.le_of_ble_eq_true rfl) xa36 dX4_copyFrom_22 (fun c5 ec5 => ?_)
  have h := h c5 ec5
  refine go_aload_n (pc := 25) dX4_copyFrom_25 rfl rfl ?_
  refine go_get (pc := 26) fX4_15 rfl (gz_b (by decide)) xw14 rfl dX4_copyFrom_26 ?_
  refine go_iconst (pc := 29) (v := 0) dX4_copyFrom_29 (by decide) ?_
  refine go_aload_n (pc := 30) dX4_copyFrom_30 rfl rfl ?_
  refine go_get (pc := 31) fX4_15 rfl (gz_b (by decide)) xw35 rfl dX4_copyFrom_31 ?_
  refine go_iconst (pc := 34) (v := 0) dX4_copyFrom_34 (by decide) ?_
  refine go_aload_n (pc := 35) dX4_copyFrom_35 rfl rfl ?_
  refine gb_get (pc := 36) fX4_18 rfl (gz_b (by decide)) xw35 rfl dX4_copyFrom_36 (fun v6 ev6 => ?_)
  have h := h v6 ev6
  obtain ⟨b7, h⟩ := h
  refine gb_copy (pc := 39) (F := wX G o) rfl aX4_22 (gz_b (by decide)) xw16 (gz_b (by decide)) xw37 b7 (Nat.le_of_ble_eq_true rfl) (Nat.le_of_ble_eq_true rfl) xa37 dX4_copyFrom_39 (fun c8 ec8 => ?_)
  have h := h c8 ec8
  exact gq_vret (pc := 42) (F := wX G o) rfl dX4_copyFrom_42 h
def wX5_copyFrom_38_17 (c : gMem) (Q : gMem → Prop) : Prop :=
  ∀ v1, v1 = c 17 0 →
  ∀ c2, c2 = mp c 38 0 v1 →
  ∀ v3, v3 = c2 17 1 →
  ∀ c4, c4 = mp c2 38 1 v3 →
  ∀ v5, v5 = c4 17 2 →
  ∀ c6, c6 = mp c4 38 2 v5 →
  ∀ v7, v7 = c6 17 3 →
  ∀ c8, c8 = mp c6 38 3 v7 →
  (¬ (0 : Int32) < 0 ∧ ¬ (0 : Int32) < 0 ∧ ¬ (200 : Int32) < 0 ∧ 0 + 200 ≤ 200 ∧ 0 + 200 ≤ 200) ∧
  ∀ c10, c10 = mr c8 39 (va_cpy (c8 18) (c8 39) 0 0 200) →
  (¬ (0 : Int32) < 0 ∧ ¬ (0 : Int32) < 0 ∧ ¬ (8 : Int32) < 0 ∧ 0 + 8 ≤ 8 ∧ 0 + 8 ≤ 8) ∧
  ∀ c12, c12 = mr c10 40 (va_cpy (c10 19) (c10 40) 0 0 8) →
  Q c12
set_option maxRecDepth 100000 in
set_option maxHeartbeats 4000000 in
theorem tX5_copyFrom_38_17 {l : Launch} {G : gG} {k : Nat} {o : gMem} {Q : gMem → Prop} {c : gMem} (h : wX5_copyFrom_38_17 c Q) : Cq l G mX5_copyFrom 1 26 [.ref (G.2.1 + 38), .ref (G.2.1 + 17)] 84 k (wX G o c) (qv (wX G o) Q) := by
  refine Cq.of (by decide) (Nat.le_of_ble_eq_true rfl) ?_
  show Go l G mX5_copyFrom (gbq G 1 26 84 k (qv (wX G o) Q)) 0 [(0, .ref (G.2.1 + 38)), (1, .ref (G.2.1 + 17))] [] 84 k (wX G o c)
  unfold wX5_copyFrom_38_17 at h
  refine go_aload_n (pc := 0) dX5_copyFrom_0 rfl rfl ?_
  refine go_aload_n (pc := 1) dX5_copyFrom_1 rfl rfl ?_
  refine gb_get (pc := 2) fX5_18 rfl (gz_b (by decide)) xw17 rfl dX5_copyFrom_2 (fun v1 ev1 => ?_)
  have h := h v1 ev1
  refine gb_put (pc := 5) (F := wX G o) fX5_18 rfl (gz_b (by decide)) xw38 (Nat.le_of_ble_eq_true rfl) rfl rfl xp38_0 dX5_copyFrom_5 (fun c2 ec2 => ?_)
  have h := h c2 ec2
  refine go_aload_n (pc := 8) dX5_copyFrom_8 rfl rfl ?_
  refine go_aload_n (pc := 9) dX5_copyFrom_9 rfl rfl ?_
  refine gb_get (pc := 10) fX5_22 rfl (gz_b (by decide)) xw17 rfl dX5_copyFrom_10 (fun v3 ev3 => ?_)
  have h := h v3 ev3
  refine gb_put (pc := 13) (F := wX G o) fX5_22 rfl (gz_b (by decide)) xw38 (Nat.le_of_ble_eq_true rfl) rfl rfl xp38_1 dX5_copyFrom_13 (fun c4 ec4 => ?_)
  have h := h c4 ec4
  refine go_aload_n (pc := 16) dX5_copyFrom_16 rfl rfl ?_
  refine go_aload_n (pc := 17) dX5_copyFrom_17 rfl rfl ?_
  refine gb_get (pc := 18) fX5_25 rfl (gz_b (by decide)) xw17 rfl dX5_copyFrom_18 (fun v5 ev5 => ?_)
  have h := h v5 ev5
  refine gb_put (pc := 21) (F := wX G o) fX5_25 rfl (gz_b (by decide)) xw38 (Nat.le_of_ble_eq_true rfl) rfl rfl xp38_2 dX5_copyFrom_21 (fun c6 ec6 => ?_)
  have h := h c6 ec6
  refine go_aload_n (pc := 24) dX5_copyFrom_24 rfl rfl ?_
  refine go_aload_n (pc := 25) dX5_copyFrom_25 rfl rfl ?_
  refine gb_get (pc := 26) fX5_28 rfl (gz_b (by decide)) xw17 rfl dX5_copyFrom_26 (fun v7 ev7 => ?_)
  have h := h v7 ev7
  refine gb_put (pc := 29) (F := wX G o) fX5_28 rfl (gz_b (by decide)) xw38 (Nat.le_of_ble_eq_true rfl) rfl rfl xp38_3 dX5_copyFrom_29 (fun c8 ec8 => ?_)
  have h := h c8 ec8
  refine go_aload_n (pc := 32) dX5_copyFrom_32 rfl rfl ?_
  refine go_get (pc := 33) fX5_9 rfl (gz_b (by decide)) xw17 rfl dX5_copyFrom_33 ?_
  refine go_iconst (pc := 36) (v := 0) dX5_copyFrom_36 (by decide) ?_
  refine go_aload_n (pc := 37) dX5_copyFrom_37 rfl rfl ?_
  refine go_get (pc := 38) fX5_9 rfl (gz_b (by decide)) xw38 rfl dX5_copyFrom_38 ?_
  refine go_iconst (pc := 41) (v := 0) dX5_copyFrom_41 (by decide) ?_
  refine go_aload_n (pc := 42) dX5_copyFrom_42 rfl rfl ?_
  refine go_get (pc := 43) fX5_9 rfl (gz_b (by decide)) xw38 rfl dX5_copyFrom_43 ?_
  refine go_alen (pc := 46) (gz_b (by decide)) xw39 dX5_copyFrom_46 ?_
  refine go_top (y := 200) (by decide) ?_
  obtain ⟨b9, h⟩ := h
  refine gb_copy (pc := 47) (F := wX G o) rfl aX5_37 (gz_b (by decide)) xw18 (gz_b (by decide)) xw39 b9 (Nat.le_of_ble_eq_true rfl) (Nat.le_of_ble_eq_true rfl) xa39 dX5_copyFrom_47 (fun c10 ec10 => ?_)
  have h := h c10 ec10
  refine go_aload_n (pc := 50) dX5_copyFrom_50 rfl rfl ?_
  refine go_get (pc := 51) fX5_15 rfl (gz_b (by decide)) xw17 rfl dX5_copyFrom_51 ?_
  refine go_iconst (pc := 54) (v := 0) dX5_copyFrom_54 (by decide) ?_
  refine go_aload_n (pc := 55) dX5_copyFrom_55 rfl rfl ?_
  refine go_get (pc := 56) fX5_15 rfl (gz_b (by decide)) xw38 rfl dX5_copyFrom_56 ?_
  refine go_iconst (pc := 59) (v := 0) dX5_copyFrom_59 (by decide) ?_
  refine go_bipush (pc := 60) (v := 8) dX5_copyFrom_60 (by decide) ?_
  obtain ⟨b11, h⟩ := h
  refine gb_copy (pc := 62) (F := wX G o) rfl aX5_37 (gz_b (by decide)) xw19 (gz_b (by decide)) xw40 b11 (Nat.le_of_ble_eq_true rfl) (Nat.le_of_ble_eq_true rfl) xa40 dX5_copyFrom_62 (fun c12 ec12 => ?_)
  have h := h c12 ec12
  exact gq_vret (pc := 65) (F := wX G o) rfl dX5_copyFrom_65 h
def wX6_become_22_1 (c : gMem) (Q : gMem → Prop) : Prop :=
  wX2_copyFrom_23_2 c (fun c1 =>
  wX3_copyFrom_27_6 c1 (fun c2 =>
  wX8_copyFrom_33_12 c2 (fun c3 =>
  wX4_copyFrom_35_14 c3 (fun c4 =>
  wX5_copyFrom_38_17 c4 (fun c5 =>
  (¬ (0 : Int32) < 0 ∧ ¬ (0 : Int32) < 0 ∧ ¬ (24 : Int32) < 0 ∧ 0 + 24 ≤ 24 ∧ 0 + 24 ≤ 24) ∧
  ∀ c7, c7 = mr c5 41 (va_cpy (c5 20) (c5 41) 0 0 24) →
  (¬ (0 : Int32) < 0 ∧ ¬ (0 : Int32) < 0 ∧ ¬ (32 : Int32) < 0 ∧ 0 + 32 ≤ 32 ∧ 0 + 32 ≤ 32) ∧
  ∀ c9, c9 = mr c7 42 (va_cpy (c7 21) (c7 42) 0 0 32) →
  Q c9)))))
set_option maxRecDepth 100000 in
set_option maxHeartbeats 4000000 in
theorem tX6_become_22_1 {l : Launch} {G : gG} {k : Nat} {o : gMem} {Q : gMem → Prop} {c : gMem} (h : wX6_become_22_1 c Q) : Cq l G mX6_become 3 67 [.ref (G.2.1 + 22), .ref (G.2.1 + 1)] 84 k (wX G o c) (qv (wX G o) Q) := by
  refine Cq.of (by decide) (Nat.le_of_ble_eq_true rfl) ?_
  show Go l G mX6_become (gbq G 3 67 84 k (qv (wX G o) Q)) 0 [(0, .ref (G.2.1 + 22)), (1, .ref (G.2.1 + 1))] [] 84 k (wX G o c)
  unfold wX6_become_22_1 at h
  refine go_aload_n (pc := 0) dX6_become_0 rfl rfl ?_
  refine go_get (pc := 1) fX6_12 rfl (gz_b (by decide)) xw22 rfl dX6_become_1 ?_
  refine go_aload_n (pc := 4) dX6_become_4 rfl rfl ?_
  refine go_get (pc := 5) fX6_12 rfl (gz_b (by decide)) xw1 rfl dX6_become_5 ?_
  refine gq_callV_v (pc := 8) (F := wX G o) vX6_76 rfl (tX2_copyFrom_23_2 h) rfl rfl (gz_b (by decide)) xw23 rfl (Nat.le_of_ble_eq_true rfl) ⟨Nat.le_of_ble_eq_true rfl, Nat.le_of_ble_eq_true rfl, Nat.le_add_right _ _, Nat.le_add_right _ _⟩ dX6_become_8 (fun c1 h => ?_)
  refine go_aload_n (pc := 11) dX6_become_11 rfl rfl ?_
  refine go_get (pc := 12) fX6_21 rfl (gz_b (by decide)) xw22 rfl dX6_become_12 ?_
  refine go_aload_n (pc := 15) dX6_become_15 rfl rfl ?_
  refine go_get (pc := 16) fX6_21 rfl (gz_b (by decide)) xw1 rfl dX6_become_16 ?_
  refine gq_callV_v (pc := 19) (F := wX G o) vX6_80 rfl (tX3_copyFrom_27_6 h) rfl rfl (gz_b (by decide)) xw27 rfl (Nat.le_of_ble_eq_true rfl) ⟨Nat.le_of_ble_eq_true rfl, Nat.le_of_ble_eq_true rfl, Nat.le_add_right _ _, Nat.le_add_right _ _⟩ dX6_become_19 (fun c2 h => ?_)
  refine go_aload_n (pc := 22) dX6_become_22 rfl rfl ?_
  refine go_get (pc := 23) fX6_28 rfl (gz_b (by decide)) xw22 rfl dX6_become_23 ?_
  refine go_aload_n (pc := 26) dX6_become_26 rfl rfl ?_
  refine go_get (pc := 27) fX6_28 rfl (gz_b (by decide)) xw1 rfl dX6_become_27 ?_
  refine gq_callV_v (pc := 30) (F := wX G o) vX6_83 rfl (tX8_copyFrom_33_12 h) rfl rfl (gz_b (by decide)) xw33 rfl (Nat.le_of_ble_eq_true rfl) ⟨Nat.le_of_ble_eq_true rfl, Nat.le_of_ble_eq_true rfl, Nat.le_add_right _ _, Nat.le_add_right _ _⟩ dX6_become_30 (fun c3 h => ?_)
  refine go_aload_n (pc := 33) dX6_become_33 rfl rfl ?_
  refine go_get (pc := 34) fX6_35 rfl (gz_b (by decide)) xw22 rfl dX6_become_34 ?_
  refine go_aload_n (pc := 37) dX6_become_37 rfl rfl ?_
  refine go_get (pc := 38) fX6_35 rfl (gz_b (by decide)) xw1 rfl dX6_become_38 ?_
  refine gq_callV_v (pc := 41) (F := wX G o) vX6_86 rfl (tX4_copyFrom_35_14 h) rfl rfl (gz_b (by decide)) xw35 rfl (Nat.le_of_ble_eq_true rfl) ⟨Nat.le_of_ble_eq_true rfl, Nat.le_of_ble_eq_true rfl, Nat.le_add_right _ _, Nat.le_add_right _ _⟩ dX6_become_41 (fun c4 h => ?_)
  refine go_aload_n (pc := 44) dX6_become_44 rfl rfl ?_
  refine go_get (pc := 45) fX6_42 rfl (gz_b (by decide)) xw22 rfl dX6_become_45 ?_
  refine go_aload_n (pc := 48) dX6_become_48 rfl rfl ?_
  refine go_get (pc := 49) fX6_42 rfl (gz_b (by decide)) xw1 rfl dX6_become_49 ?_
  refine gq_callV_v (pc := 52) (F := wX G o) vX6_89 rfl (tX5_copyFrom_38_17 h) rfl rfl (gz_b (by decide)) xw38 rfl (Nat.le_of_ble_eq_true rfl) ⟨Nat.le_of_ble_eq_true rfl, Nat.le_of_ble_eq_true rfl, Nat.le_add_right _ _, Nat.le_add_right _ _⟩ dX6_become_52 (fun c5 h => ?_)
  refine go_aload_n (pc := 55) dX6_become_55 rfl rfl ?_
  refine go_get (pc := 56) fX6_46 rfl (gz_b (by decide)) xw1 rfl dX6_become_56 ?_
  refine go_iconst (pc := 59) (v := 0) dX6_become_59 (by decide) ?_
  refine go_aload_n (pc := 60) dX6_become_60 rfl rfl ?_
  refine go_get (pc := 61) fX6_46 rfl (gz_b (by decide)) xw22 rfl dX6_become_61 ?_
  refine go_iconst (pc := 64) (v := 0) dX6_become_64 (by decide) ?_
  refine go_bipush (pc := 65) (v := 24) dX6_become_65 (by decide) ?_
  obtain ⟨b6, h⟩ := h
  refine gb_copy (pc := 67) (F := wX G o) rfl aX6_92 (gz_b (by decide)) xw20 (gz_b (by decide)) xw41 b6 (Nat.le_of_ble_eq_true rfl) (Nat.le_of_ble_eq_true rfl) xa41 dX6_become_67 (fun c7 ec7 => ?_)
  have h := h c7 ec7
  refine go_aload_n (pc := 70) dX6_become_70 rfl rfl ?_
  refine go_get (pc := 71) fX6_50 rfl (gz_b (by decide)) xw1 rfl dX6_become_71 ?_
  refine go_iconst (pc := 74) (v := 0) dX6_become_74 (by decide) ?_
  refine go_aload_n (pc := 75) dX6_become_75 rfl rfl ?_
  refine go_get (pc := 76) fX6_50 rfl (gz_b (by decide)) xw22 rfl dX6_become_76 ?_
  refine go_iconst (pc := 79) (v := 0) dX6_become_79 (by decide) ?_
  refine go_aload_n (pc := 80) dX6_become_80 rfl rfl ?_
  refine go_get (pc := 81) fX6_50 rfl (gz_b (by decide)) xw22 rfl dX6_become_81 ?_
  refine go_alen (pc := 84) (gz_b (by decide)) xw42 dX6_become_84 ?_
  refine go_top (y := 32) (by decide) ?_
  obtain ⟨b8, h⟩ := h
  refine gb_copy (pc := 85) (F := wX G o) rfl aX6_92 (gz_b (by decide)) xw21 (gz_b (by decide)) xw42 b8 (Nat.le_of_ble_eq_true rfl) (Nat.le_of_ble_eq_true rfl) xa42 dX6_become_85 (fun c9 ec9 => ?_)
  have h := h c9 ec9
  exact gq_vret (pc := 88) (F := wX G o) rfl dX6_become_88 h
def wX9_image (c : gMem) (Q : Int32 → gMem → Prop) : Prop :=
  wX6_become_22_1 c (fun c1 =>
  ∀ c2, c2 = mp c1 0 8 1 →
  ∀ v3, v3 = c2 2 3 →
  Q v3 c2)
set_option maxRecDepth 100000 in
set_option maxHeartbeats 4000000 in
theorem tX9_image {l : Launch} {G : gG} {k : Nat} {o : gMem} {Q : Int32 → gMem → Prop} {c : gMem} (h : wX9_image c Q) : Cq l G mX9_image 4 88 [.ref (G.2.1 + 0)] 84 k (wX G o c) (qi (wX G o) Q) := by
  refine Cq.of (by decide) (Nat.le_of_ble_eq_true rfl) ?_
  show Go l G mX9_image (gbq G 4 88 84 k (qi (wX G o) Q)) 0 [(0, .ref (G.2.1 + 0))] [] 84 k (wX G o c)
  unfold wX9_image at h
  refine go_aload_n (pc := 0) dX9_image_0 rfl rfl ?_
  refine go_get (pc := 1) fX9_16 rfl (gz_b (by decide)) xw0 rfl dX9_image_1 ?_
  refine go_aload_n (pc := 4) dX9_image_4 rfl rfl ?_
  refine go_get (pc := 5) fX9_12 rfl (gz_b (by decide)) xw0 rfl dX9_image_5 ?_
  refine gq_callV_v (pc := 8) (F := wX G o) vX9_318 rfl (tX6_become_22_1 h) rfl rfl (gz_b (by decide)) xw22 rfl (Nat.le_of_ble_eq_true rfl) ⟨Nat.le_of_ble_eq_true rfl, Nat.le_of_ble_eq_true rfl, Nat.le_add_right _ _, Nat.le_add_right _ _⟩ dX9_image_8 (fun c1 h => ?_)
  refine go_aload_n (pc := 11) dX9_image_11 rfl rfl ?_
  refine go_iconst (pc := 12) (v := 1) dX9_image_12 (by decide) ?_
  refine gb_put (pc := 13) (F := wX G o) fX9_65 rfl (gz_b (by decide)) xw0 (Nat.le_of_ble_eq_true rfl) rfl rfl xp0_8 dX9_image_13 (fun c2 ec2 => ?_)
  have h := h c2 ec2
  refine go_aload_n (pc := 16) dX9_image_16 rfl rfl ?_
  refine go_get (pc := 17) fX9_12 rfl (gz_b (by decide)) xw0 rfl dX9_image_17 ?_
  refine go_get (pc := 20) fX9_84 rfl (gz_b (by decide)) xw1 rfl dX9_image_20 ?_
  refine gb_get (pc := 23) fX9_221 rfl (gz_b (by decide)) xw2 rfl dX9_image_23 (fun v3 ev3 => ?_)
  have h := h v3 ev3
  exact gq_iret (pc := 26) (F := wX G o) rfl dX9_image_26 h
def wX2_copyFrom_2_23_p27 (c : gMem) (Q : gMem → Prop) : Prop :=
  ∀ v1, v1 = c 23 1 →
  (¬ (0 : Int32) < 0 ∧ ¬ (0 : Int32) < 0 ∧ ¬ v1 < 0 ∧ 0 + v1.toNatClampNeg ≤ 4000 ∧ 0 + v1.toNatClampNeg ≤ 4000) ∧
  ∀ c3, c3 = mr c 3 (va_cpy (c 24) (c 3) 0 0 v1.toNatClampNeg) →
  (¬ (0 : Int32) < 0 ∧ ¬ (0 : Int32) < 0 ∧ ¬ (500 : Int32) < 0 ∧ 0 + 500 ≤ 500 ∧ 0 + 500 ≤ 500) ∧
  ∀ c5, c5 = mr c3 4 (va_cpy (c3 25) (c3 4) 0 0 500) →
  (¬ (0 : Int32) < 0 ∧ ¬ (0 : Int32) < 0 ∧ ¬ (500 : Int32) < 0 ∧ 0 + 500 ≤ 500 ∧ 0 + 500 ≤ 500) ∧
  ∀ c7, c7 = mr c5 5 (va_cpy (c5 26) (c5 5) 0 0 500) →
  ∀ v8, v8 = c7 23 0 →
  ∀ c9, c9 = mp c7 2 0 v8 →
  ∀ v10, v10 = c9 23 1 →
  ∀ c11, c11 = mp c9 2 1 v10 →
  ∀ v12, v12 = c11 23 2 →
  ∀ c13, c13 = mp c11 2 2 v12 →
  ∀ v14, v14 = c13 23 3 →
  ∀ c15, c15 = mp c13 2 3 v14 →
  Q c15
set_option maxRecDepth 100000 in
set_option maxHeartbeats 4000000 in
theorem tX2_copyFrom_2_23_p27 {l : Launch} {G : gG} {k : Nat} {o : gMem} {Q : gMem → Prop} {c : gMem} (h : wX2_copyFrom_2_23_p27 c Q) : Go l G mX2_copyFrom (gbq G 2 46 84 k (qv (wX G o) Q)) 27 [(0, .ref (G.2.1 + 2)), (1, .ref (G.2.1 + 23))] [] 84 k (wX G o c) := by
  unfold wX2_copyFrom_2_23_p27 at h
  refine go_aload_n (pc := 27) dX2_copyFrom_27 rfl rfl ?_
  refine go_get (pc := 28) fX2_9 rfl (gz_b (by decide)) xw23 rfl dX2_copyFrom_28 ?_
  refine go_iconst (pc := 31) (v := 0) dX2_copyFrom_31 (by decide) ?_
  refine go_aload_n (pc := 32) dX2_copyFrom_32 rfl rfl ?_
  refine go_get (pc := 33) fX2_9 rfl (gz_b (by decide)) xw2 rfl dX2_copyFrom_33 ?_
  refine go_iconst (pc := 36) (v := 0) dX2_copyFrom_36 (by decide) ?_
  refine go_aload_n (pc := 37) dX2_copyFrom_37 rfl rfl ?_
  refine gb_get (pc := 38) fX2_41 rfl (gz_b (by decide)) xw23 rfl dX2_copyFrom_38 (fun v1 ev1 => ?_)
  have h := h v1 ev1
  obtain ⟨b2, h⟩ := h
  refine gb_copy (pc := 41) (F := wX G o) rfl aX2_47 (gz_b (by decide)) xw24 (gz_b (by decide)) xw3 b2 (Nat.le_of_ble_eq_true rfl) (Nat.le_of_ble_eq_true rfl) xa3 dX2_copyFrom_41 (fun c3 ec3 => ?_)
  have h := h c3 ec3
  refine go_aload_n (pc := 44) dX2_copyFrom_44 rfl rfl ?_
  refine go_get (pc := 45) fX2_15 rfl (gz_b (by decide)) xw23 rfl dX2_copyFrom_45 ?_
  refine go_iconst (pc := 48) (v := 0) dX2_copyFrom_48 (by decide) ?_
  refine go_aload_n (pc := 49) dX2_copyFrom_49 rfl rfl ?_
  refine go_get (pc := 50) fX2_15 rfl (gz_b (by decide)) xw2 rfl dX2_copyFrom_50 ?_
  refine go_iconst (pc := 53) (v := 0) dX2_copyFrom_53 (by decide) ?_
  refine go_sipush (pc := 54) (v := 500) dX2_copyFrom_54 (by decide) ?_
  obtain ⟨b4, h⟩ := h
  refine gb_copy (pc := 57) (F := wX G o) rfl aX2_47 (gz_b (by decide)) xw25 (gz_b (by decide)) xw4 b4 (Nat.le_of_ble_eq_true rfl) (Nat.le_of_ble_eq_true rfl) xa4 dX2_copyFrom_57 (fun c5 ec5 => ?_)
  have h := h c5 ec5
  refine go_aload_n (pc := 60) dX2_copyFrom_60 rfl rfl ?_
  refine go_get (pc := 61) fX2_18 rfl (gz_b (by decide)) xw23 rfl dX2_copyFrom_61 ?_
  refine go_iconst (pc := 64) (v := 0) dX2_copyFrom_64 (by decide) ?_
  refine go_aload_n (pc := 65) dX2_copyFrom_65 rfl rfl ?_
  refine go_get (pc := 66) fX2_18 rfl (gz_b (by decide)) xw2 rfl dX2_copyFrom_66 ?_
  refine go_iconst (pc := 69) (v := 0) dX2_copyFrom_69 (by decide) ?_
  refine go_sipush (pc := 70) (v := 500) dX2_copyFrom_70 (by decide) ?_
  obtain ⟨b6, h⟩ := h
  refine gb_copy (pc := 73) (F := wX G o) rfl aX2_47 (gz_b (by decide)) xw26 (gz_b (by decide)) xw5 b6 (Nat.le_of_ble_eq_true rfl) (Nat.le_of_ble_eq_true rfl) xa5 dX2_copyFrom_73 (fun c7 ec7 => ?_)
  have h := h c7 ec7
  refine go_aload_n (pc := 76) dX2_copyFrom_76 rfl rfl ?_
  refine go_aload_n (pc := 77) dX2_copyFrom_77 rfl rfl ?_
  refine gb_get (pc := 78) fX2_25 rfl (gz_b (by decide)) xw23 rfl dX2_copyFrom_78 (fun v8 ev8 => ?_)
  have h := h v8 ev8
  refine gb_put (pc := 81) (F := wX G o) fX2_25 rfl (gz_b (by decide)) xw2 (Nat.le_of_ble_eq_true rfl) rfl rfl xp2_0 dX2_copyFrom_81 (fun c9 ec9 => ?_)
  have h := h c9 ec9
  refine go_aload_n (pc := 84) dX2_copyFrom_84 rfl rfl ?_
  refine go_aload_n (pc := 85) dX2_copyFrom_85 rfl rfl ?_
  refine gb_get (pc := 86) fX2_41 rfl (gz_b (by decide)) xw23 rfl dX2_copyFrom_86 (fun v10 ev10 => ?_)
  have h := h v10 ev10
  refine gb_put (pc := 89) (F := wX G o) fX2_41 rfl (gz_b (by decide)) xw2 (Nat.le_of_ble_eq_true rfl) rfl rfl xp2_1 dX2_copyFrom_89 (fun c11 ec11 => ?_)
  have h := h c11 ec11
  refine go_aload_n (pc := 92) dX2_copyFrom_92 rfl rfl ?_
  refine go_aload_n (pc := 93) dX2_copyFrom_93 rfl rfl ?_
  refine gb_get (pc := 94) fX2_29 rfl (gz_b (by decide)) xw23 rfl dX2_copyFrom_94 (fun v12 ev12 => ?_)
  have h := h v12 ev12
  refine gb_put (pc := 97) (F := wX G o) fX2_29 rfl (gz_b (by decide)) xw2 (Nat.le_of_ble_eq_true rfl) rfl rfl xp2_2 dX2_copyFrom_97 (fun c13 ec13 => ?_)
  have h := h c13 ec13
  refine go_aload_n (pc := 100) dX2_copyFrom_100 rfl rfl ?_
  refine go_aload_n (pc := 101) dX2_copyFrom_101 rfl rfl ?_
  refine gb_get (pc := 102) fX2_32 rfl (gz_b (by decide)) xw23 rfl dX2_copyFrom_102 (fun v14 ev14 => ?_)
  have h := h v14 ev14
  refine gb_put (pc := 105) (F := wX G o) fX2_32 rfl (gz_b (by decide)) xw2 (Nat.le_of_ble_eq_true rfl) rfl rfl xp2_3 dX2_copyFrom_105 (fun c15 ec15 => ?_)
  have h := h c15 ec15
  exact gq_vret (pc := 108) (F := wX G o) rfl dX2_copyFrom_108 h
def wX2_copyFrom_2_23 (c : gMem) (Q : gMem → Prop) : Prop :=
  ∀ v1, v1 = c 2 1 →
  ∀ v2, v2 = c 23 1 →
  ((v1 ≤ v2 →
    wX2_copyFrom_2_23_p27 c Q) ∧
   (¬ v1 ≤ v2 →
    ∀ v4, v4 = c 23 1 →
    ∀ v5, v5 = c 2 1 →
    ∃ f7 t8 : Nat, v4 = nI f7 ∧ v5 = nI t8 ∧ f7 ≤ t8 ∧ t8 ≤ 4000 ∧
    ∀ c6, c6 = mr c 3 (fun j => if f7 ≤ j ∧ j < t8 then 0 else c 3 j) →
    wX2_copyFrom_2_23_p27 c6 Q))
set_option maxRecDepth 100000 in
set_option maxHeartbeats 4000000 in
theorem tX2_copyFrom_2_23 {l : Launch} {G : gG} {k : Nat} {o : gMem} {Q : gMem → Prop} {c : gMem} (h : wX2_copyFrom_2_23 c Q) : Cq l G mX2_copyFrom 2 46 [.ref (G.2.1 + 2), .ref (G.2.1 + 23)] 84 k (wX G o c) (qv (wX G o) Q) := by
  refine Cq.of (by decide) (Nat.le_of_ble_eq_true rfl) ?_
  show Go l G mX2_copyFrom (gbq G 2 46 84 k (qv (wX G o) Q)) 0 [(0, .ref (G.2.1 + 2)), (1, .ref (G.2.1 + 23))] [] 84 k (wX G o c)
  unfold wX2_copyFrom_2_23 at h
  refine go_aload_n (pc := 0) dX2_copyFrom_0 rfl rfl ?_
  refine gb_get (pc := 1) fX2_41 rfl (gz_b (by decide)) xw2 rfl dX2_copyFrom_1 (fun v1 ev1 => ?_)
  have h := h v1 ev1
  refine go_aload_n (pc := 4) dX2_copyFrom_4 rfl rfl ?_
  refine gb_get (pc := 5) fX2_41 rfl (gz_b (by decide)) xw23 rfl dX2_copyFrom_5 (fun v2 ev2 => ?_)
  have h := h v2 ev2
  refine go_icmp_le (pc := 8) (tgt := 27) dX2_copyFrom_8 (by decide) (fun q3 => ?_) (fun q3 => ?_)
  · have h := h.1 q3
    refine go_lv [0, 1] rfl ?_
    exact tX2_copyFrom_2_23_p27 h
  · have h := h.2 q3
    refine go_aload_n (pc := 11) dX2_copyFrom_11 rfl rfl ?_
    refine go_get (pc := 12) fX2_9 rfl (gz_b (by decide)) xw2 rfl dX2_copyFrom_12 ?_
    refine go_aload_n (pc := 15) dX2_copyFrom_15 rfl rfl ?_
    refine gb_get (pc := 16) fX2_41 rfl (gz_b (by decide)) xw23 rfl dX2_copyFrom_16 (fun v4 ev4 => ?_)
    have h := h v4 ev4
    refine go_aload_n (pc := 19) dX2_copyFrom_19 rfl rfl ?_
    refine gb_get (pc := 20) fX2_41 rfl (gz_b (by decide)) xw2 rfl dX2_copyFrom_20 (fun v5 ev5 => ?_)
    have h := h v5 ev5
    refine go_iconst (pc := 23) (v := 0) dX2_copyFrom_23 (by decide) ?_
    obtain ⟨f7, t8, u9a, u9b, u9c, u9d, h⟩ := h
    refine gq_callS_v (pc := 24) (F := wX G o) (Q := fun q => q = mr c 3 (fun j => if f7 ≤ j ∧ j < t8 then 0 else c 3 j)) sX2_44 rfl (cq_fillr (by decide) u9a u9b u9c u9d (gz_b (by decide)) xw3 xa3 rfl) rfl rfl (Nat.le_of_ble_eq_true rfl) ⟨Nat.le_of_ble_eq_true rfl, Nat.le_of_ble_eq_true rfl, Nat.le_add_right _ _, Nat.le_add_right _ _⟩ dX2_copyFrom_24 (fun c6 ec6 => ?_)
    have h := h c6 ec6
    refine go_lv [0, 1] rfl ?_
    exact tX2_copyFrom_2_23_p27 h
def wX3_copyFrom_6_27 (c : gMem) (Q : gMem → Prop) : Prop :=
  ∀ v1, v1 = c 27 0 →
  (v1 = 0 ∨ v1 = 1) ∧
  ∀ c2, c2 = mp c 6 0 v1 →
  ∀ v4, v4 = c2 27 1 →
  ∀ c5, c5 = mp c2 6 1 v4 →
  ∀ v6, v6 = c5 27 2 →
  ∀ c7, c7 = mp c5 6 2 v6 →
  ∀ v8, v8 = c7 27 3 →
  ∀ c9, c9 = mp c7 6 3 v8 →
  (¬ (0 : Int32) < 0 ∧ ¬ (0 : Int32) < 0 ∧ ¬ (500 : Int32) < 0 ∧ 0 + 500 ≤ 500 ∧ 0 + 500 ≤ 500) ∧
  ∀ c11, c11 = mr c9 7 (va_cpy (c9 28) (c9 7) 0 0 500) →
  (¬ (0 : Int32) < 0 ∧ ¬ (0 : Int32) < 0 ∧ ¬ (500 : Int32) < 0 ∧ 0 + 500 ≤ 500 ∧ 0 + 500 ≤ 500) ∧
  ∀ c13, c13 = mr c11 8 (va_cpy (c11 29) (c11 8) 0 0 500) →
  (¬ (0 : Int32) < 0 ∧ ¬ (0 : Int32) < 0 ∧ ¬ (500 : Int32) < 0 ∧ 0 + 500 ≤ 500 ∧ 0 + 500 ≤ 500) ∧
  ∀ c15, c15 = mr c13 9 (va_cpy (c13 30) (c13 9) 0 0 500) →
  (¬ (0 : Int32) < 0 ∧ ¬ (0 : Int32) < 0 ∧ ¬ (500 : Int32) < 0 ∧ 0 + 500 ≤ 500 ∧ 0 + 500 ≤ 500) ∧
  ∀ c17, c17 = mr c15 10 (va_cpy (c15 31) (c15 10) 0 0 500) →
  (¬ (0 : Int32) < 0 ∧ ¬ (0 : Int32) < 0 ∧ ¬ (500 : Int32) < 0 ∧ 0 + 500 ≤ 500 ∧ 0 + 500 ≤ 500) ∧
  ∀ c19, c19 = mr c17 11 (va_cpy (c17 32) (c17 11) 0 0 500) →
  Q c19
set_option maxRecDepth 100000 in
set_option maxHeartbeats 4000000 in
theorem tX3_copyFrom_6_27 {l : Launch} {G : gG} {k : Nat} {o : gMem} {Q : gMem → Prop} {c : gMem} (h : wX3_copyFrom_6_27 c Q) : Cq l G mX3_copyFrom 1 26 [.ref (G.2.1 + 6), .ref (G.2.1 + 27)] 84 k (wX G o c) (qv (wX G o) Q) := by
  refine Cq.of (by decide) (Nat.le_of_ble_eq_true rfl) ?_
  show Go l G mX3_copyFrom (gbq G 1 26 84 k (qv (wX G o) Q)) 0 [(0, .ref (G.2.1 + 6)), (1, .ref (G.2.1 + 27))] [] 84 k (wX G o c)
  unfold wX3_copyFrom_6_27 at h
  refine go_aload_n (pc := 0) dX3_copyFrom_0 rfl rfl ?_
  refine go_aload_n (pc := 1) dX3_copyFrom_1 rfl rfl ?_
  refine gb_get (pc := 2) fX3_27 rfl (gz_b (by decide)) xw27 rfl dX3_copyFrom_2 (fun v1 ev1 => ?_)
  have h := h v1 ev1
  obtain ⟨b3, h⟩ := h
  refine gb_put (pc := 5) (F := wX G o) fX3_27 rfl (gz_b (by decide)) xw6 (Nat.le_of_ble_eq_true rfl) (by rcases b3 with hz | hz <;> rw [hz] <;> rfl) (by rcases b3 with hz | hz <;> rw [hz] <;> rfl) xp6_0 dX3_copyFrom_5 (fun c2 ec2 => ?_)
  have h := h c2 ec2
  refine go_aload_n (pc := 8) dX3_copyFrom_8 rfl rfl ?_
  refine go_aload_n (pc := 9) dX3_copyFrom_9 rfl rfl ?_
  refine gb_get (pc := 10) fX3_31 rfl (gz_b (by decide)) xw27 rfl dX3_copyFrom_10 (fun v4 ev4 => ?_)
  have h := h v4 ev4
  refine gb_put (pc := 13) (F := wX G o) fX3_31 rfl (gz_b (by decide)) xw6 (Nat.le_of_ble_eq_true rfl) rfl rfl xp6_1 dX3_copyFrom_13 (fun c5 ec5 => ?_)
  have h := h c5 ec5
  refine go_aload_n (pc := 16) dX3_copyFrom_16 rfl rfl ?_
  refine go_aload_n (pc := 17) dX3_copyFrom_17 rfl rfl ?_
  refine gb_get (pc := 18) fX3_35 rfl (gz_b (by decide)) xw27 rfl dX3_copyFrom_18 (fun v6 ev6 => ?_)
  have h := h v6 ev6
  refine gb_put (pc := 21) (F := wX G o) fX3_35 rfl (gz_b (by decide)) xw6 (Nat.le_of_ble_eq_true rfl) rfl rfl xp6_2 dX3_copyFrom_21 (fun c7 ec7 => ?_)
  have h := h c7 ec7
  refine go_aload_n (pc := 24) dX3_copyFrom_24 rfl rfl ?_
  refine go_aload_n (pc := 25) dX3_copyFrom_25 rfl rfl ?_
  refine gb_get (pc := 26) fX3_38 rfl (gz_b (by decide)) xw27 rfl dX3_copyFrom_26 (fun v8 ev8 => ?_)
  have h := h v8 ev8
  refine gb_put (pc := 29) (F := wX G o) fX3_38 rfl (gz_b (by decide)) xw6 (Nat.le_of_ble_eq_true rfl) rfl rfl xp6_3 dX3_copyFrom_29 (fun c9 ec9 => ?_)
  have h := h c9 ec9
  refine go_aload_n (pc := 32) dX3_copyFrom_32 rfl rfl ?_
  refine go_get (pc := 33) fX3_9 rfl (gz_b (by decide)) xw27 rfl dX3_copyFrom_33 ?_
  refine go_iconst (pc := 36) (v := 0) dX3_copyFrom_36 (by decide) ?_
  refine go_aload_n (pc := 37) dX3_copyFrom_37 rfl rfl ?_
  refine go_get (pc := 38) fX3_9 rfl (gz_b (by decide)) xw6 rfl dX3_copyFrom_38 ?_
  refine go_iconst (pc := 41) (v := 0) dX3_copyFrom_41 (by decide) ?_
  refine go_sipush (pc := 42) (v := 500) dX3_copyFrom_42 (by decide) ?_
  obtain ⟨b10, h⟩ := h
  refine gb_copy (pc := 45) (F := wX G o) rfl aX3_47 (gz_b (by decide)) xw28 (gz_b (by decide)) xw7 b10 (Nat.le_of_ble_eq_true rfl) (Nat.le_of_ble_eq_true rfl) xa7 dX3_copyFrom_45 (fun c11 ec11 => ?_)
  have h := h c11 ec11
  refine go_aload_n (pc := 48) dX3_copyFrom_48 rfl rfl ?_
  refine go_get (pc := 49) fX3_15 rfl (gz_b (by decide)) xw27 rfl dX3_copyFrom_49 ?_
  refine go_iconst (pc := 52) (v := 0) dX3_copyFrom_52 (by decide) ?_
  refine go_aload_n (pc := 53) dX3_copyFrom_53 rfl rfl ?_
  refine go_get (pc := 54) fX3_15 rfl (gz_b (by decide)) xw6 rfl dX3_copyFrom_54 ?_
  refine go_iconst (pc := 57) (v := 0) dX3_copyFrom_57 (by decide) ?_
  refine go_sipush (pc := 58) (v := 500) dX3_copyFrom_58 (by decide) ?_
  obtain ⟨b12, h⟩ := h
  refine gb_copy (pc := 61) (F := wX G o) rfl aX3_47 (gz_b (by decide)) xw29 (gz_b (by decide)) xw8 b12 (Nat.le_of_ble_eq_true rfl) (Nat.le_of_ble_eq_true rfl) xa8 dX3_copyFrom_61 (fun c13 ec13 => ?_)
  have h := h c13 ec13
  refine go_aload_n (pc := 64) dX3_copyFrom_64 rfl rfl ?_
  refine go_get (pc := 65) fX3_18 rfl (gz_b (by decide)) xw27 rfl dX3_copyFrom_65 ?_
  refine go_iconst (pc := 68) (v := 0) dX3_copyFrom_68 (by decide) ?_
  refine go_aload_n (pc := 69) dX3_copyFrom_69 rfl rfl ?_
  refine go_get (pc := 70) fX3_18 rfl (gz_b (by decide)) xw6 rfl dX3_copyFrom_70 ?_
  refine go_iconst (pc := 73) (v := 0) dX3_copyFrom_73 (by decide) ?_
  refine go_sipush (pc := 74) (v := 500) dX3_copyFrom_74 (by decide) ?_
  obtain ⟨b14, h⟩ := h
  refine gb_copy (pc := 77) (F := wX G o) rfl aX3_47 (gz_b (by decide)) xw30 (gz_b (by decide)) xw9 b14 (Nat.le_of_ble_eq_true rfl) (Nat.le_of_ble_eq_true rfl) xa9 dX3_copyFrom_77 (fun c15 ec15 => ?_)
  have h := h c15 ec15
  refine go_aload_n (pc := 80) dX3_copyFrom_80 rfl rfl ?_
  refine go_get (pc := 81) fX3_21 rfl (gz_b (by decide)) xw27 rfl dX3_copyFrom_81 ?_
  refine go_iconst (pc := 84) (v := 0) dX3_copyFrom_84 (by decide) ?_
  refine go_aload_n (pc := 85) dX3_copyFrom_85 rfl rfl ?_
  refine go_get (pc := 86) fX3_21 rfl (gz_b (by decide)) xw6 rfl dX3_copyFrom_86 ?_
  refine go_iconst (pc := 89) (v := 0) dX3_copyFrom_89 (by decide) ?_
  refine go_sipush (pc := 90) (v := 500) dX3_copyFrom_90 (by decide) ?_
  obtain ⟨b16, h⟩ := h
  refine gb_copy (pc := 93) (F := wX G o) rfl aX3_47 (gz_b (by decide)) xw31 (gz_b (by decide)) xw10 b16 (Nat.le_of_ble_eq_true rfl) (Nat.le_of_ble_eq_true rfl) xa10 dX3_copyFrom_93 (fun c17 ec17 => ?_)
  have h := h c17 ec17
  refine go_aload_n (pc := 96) dX3_copyFrom_96 rfl rfl ?_
  refine go_get (pc := 97) fX3_24 rfl (gz_b (by decide)) xw27 rfl dX3_copyFrom_97 ?_
  refine go_iconst (pc := 100) (v := 0) dX3_copyFrom_100 (by decide) ?_
  refine go_aload_n (pc := 101) dX3_copyFrom_101 rfl rfl ?_
  refine go_get (pc := 102) fX3_24 rfl (gz_b (by decide)) xw6 rfl dX3_copyFrom_102 ?_
  refine go_iconst (pc := 105) (v := 0) dX3_copyFrom_105 (by decide) ?_
  refine go_sipush (pc := 106) (v := 500) dX3_copyFrom_106 (by decide) ?_
  obtain ⟨b18, h⟩ := h
  refine gb_copy (pc := 109) (F := wX G o) rfl aX3_47 (gz_b (by decide)) xw32 (gz_b (by decide)) xw11 b18 (Nat.le_of_ble_eq_true rfl) (Nat.le_of_ble_eq_true rfl) xa11 dX3_copyFrom_109 (fun c19 ec19 => ?_)
  have h := h c19 ec19
  exact gq_vret (pc := 112) (F := wX G o) rfl dX3_copyFrom_112 h
def wX8_copyFrom_12_33 (c : gMem) (Q : gMem → Prop) : Prop :=
  ∀ v1, v1 = c 33 0 →
  ∀ c2, c2 = mp c 12 0 v1 →
  ∀ v3, v3 = c2 33 1 →
  ∀ c4, c4 = mp c2 12 1 v3 →
  ∀ v5, v5 = c4 33 2 →
  ∀ c6, c6 = mp c4 12 2 v5 →
  ∀ v7, v7 = c6 33 3 →
  ∀ c8, c8 = mp c6 12 3 v7 →
  ∀ v9, v9 = c8 33 4 →
  ∀ c10, c10 = mp c8 12 4 v9 →
  ∀ v11, v11 = c10 33 5 →
  ∀ c12, c12 = mp c10 12 5 v11 →
  (¬ (0 : Int32) < 0 ∧ ¬ (0 : Int32) < 0 ∧ ¬ (300 : Int32) < 0 ∧ 0 + 300 ≤ 300 ∧ 0 + 300 ≤ 300) ∧
  ∀ c14, c14 = mr c12 13 (va_cpy (c12 34) (c12 13) 0 0 300) →
  Q c14
set_option maxRecDepth 100000 in
set_option maxHeartbeats 4000000 in
theorem tX8_copyFrom_12_33 {l : Launch} {G : gG} {k : Nat} {o : gMem} {Q : gMem → Prop} {c : gMem} (h : wX8_copyFrom_12_33 c Q) : Cq l G mX8_copyFrom 1 26 [.ref (G.2.1 + 12), .ref (G.2.1 + 33)] 84 k (wX G o c) (qv (wX G o) Q) := by
  refine Cq.of (by decide) (Nat.le_of_ble_eq_true rfl) ?_
  show Go l G mX8_copyFrom (gbq G 1 26 84 k (qv (wX G o) Q)) 0 [(0, .ref (G.2.1 + 12)), (1, .ref (G.2.1 + 33))] [] 84 k (wX G o c)
  unfold wX8_copyFrom_12_33 at h
  refine go_aload_n (pc := 0) dX8_copyFrom_0 rfl rfl ?_
  refine go_aload_n (pc := 1) dX8_copyFrom_1 rfl rfl ?_
  refine gb_get (pc := 2) fX8_15 rfl (gz_b (by decide)) xw33 rfl dX8_copyFrom_2 (fun v1 ev1 => ?_)
  have h := h v1 ev1
  refine gb_put (pc := 5) (F := wX G o) fX8_15 rfl (gz_b (by decide)) xw12 (Nat.le_of_ble_eq_true rfl) rfl rfl xp12_0 dX8_copyFrom_5 (fun c2 ec2 => ?_)
  have h := h c2 ec2
  refine go_aload_n (pc := 8) dX8_copyFrom_8 rfl rfl ?_
  refine go_aload_n (pc := 9) dX8_copyFrom_9 rfl rfl ?_
  refine gb_get (pc := 10) fX8_19 rfl (gz_b (by decide)) xw33 rfl dX8_copyFrom_10 (fun v3 ev3 => ?_)
  have h := h v3 ev3
  refine gb_put (pc := 13) (F := wX G o) fX8_19 rfl (gz_b (by decide)) xw12 (Nat.le_of_ble_eq_true rfl) rfl rfl xp12_1 dX8_copyFrom_13 (fun c4 ec4 => ?_)
  have h := h c4 ec4
  refine go_aload_n (pc := 16) dX8_copyFrom_16 rfl rfl ?_
  refine go_aload_n (pc := 17) dX8_copyFrom_17 rfl rfl ?_
  refine gb_get (pc := 18) fX8_22 rfl (gz_b (by decide)) xw33 rfl dX8_copyFrom_18 (fun v5 ev5 => ?_)
  have h := h v5 ev5
  refine gb_put (pc := 21) (F := wX G o) fX8_22 rfl (gz_b (by decide)) xw12 (Nat.le_of_ble_eq_true rfl) rfl rfl xp12_2 dX8_copyFrom_21 (fun c6 ec6 => ?_)
  have h := h c6 ec6
  refine go_aload_n (pc := 24) dX8_copyFrom_24 rfl rfl ?_
  refine go_aload_n (pc := 25) dX8_copyFrom_25 rfl rfl ?_
  refine gb_get (pc := 26) fX8_25 rfl (gz_b (by decide)) xw33 rfl dX8_copyFrom_26 (fun v7 ev7 => ?_)
  have h := h v7 ev7
  refine gb_put (pc := 29) (F := wX G o) fX8_25 rfl (gz_b (by decide)) xw12 (Nat.le_of_ble_eq_true rfl) rfl rfl xp12_3 dX8_copyFrom_29 (fun c8 ec8 => ?_)
  have h := h c8 ec8
  refine go_aload_n (pc := 32) dX8_copyFrom_32 rfl rfl ?_
  refine go_aload_n (pc := 33) dX8_copyFrom_33 rfl rfl ?_
  refine gb_get (pc := 34) fX8_28 rfl (gz_b (by decide)) xw33 rfl dX8_copyFrom_34 (fun v9 ev9 => ?_)
  have h := h v9 ev9
  refine gb_put (pc := 37) (F := wX G o) fX8_28 rfl (gz_b (by decide)) xw12 (Nat.le_of_ble_eq_true rfl) rfl rfl xp12_4 dX8_copyFrom_37 (fun c10 ec10 => ?_)
  have h := h c10 ec10
  refine go_aload_n (pc := 40) dX8_copyFrom_40 rfl rfl ?_
  refine go_aload_n (pc := 41) dX8_copyFrom_41 rfl rfl ?_
  refine gb_get (pc := 42) fX8_31 rfl (gz_b (by decide)) xw33 rfl dX8_copyFrom_42 (fun v11 ev11 => ?_)
  have h := h v11 ev11
  refine gb_put (pc := 45) (F := wX G o) fX8_31 rfl (gz_b (by decide)) xw12 (Nat.le_of_ble_eq_true rfl) rfl rfl xp12_5 dX8_copyFrom_45 (fun c12 ec12 => ?_)
  have h := h c12 ec12
  refine go_aload_n (pc := 48) dX8_copyFrom_48 rfl rfl ?_
  refine go_get (pc := 49) fX8_9 rfl (gz_b (by decide)) xw33 rfl dX8_copyFrom_49 ?_
  refine go_iconst (pc := 52) (v := 0) dX8_copyFrom_52 (by decide) ?_
  refine go_aload_n (pc := 53) dX8_copyFrom_53 rfl rfl ?_
  refine go_get (pc := 54) fX8_9 rfl (gz_b (by decide)) xw12 rfl dX8_copyFrom_54 ?_
  refine go_iconst (pc := 57) (v := 0) dX8_copyFrom_57 (by decide) ?_
  refine go_aload_n (pc := 58) dX8_copyFrom_58 rfl rfl ?_
  refine go_get (pc := 59) fX8_9 rfl (gz_b (by decide)) xw12 rfl dX8_copyFrom_59 ?_
  refine go_alen (pc := 62) (gz_b (by decide)) xw13 dX8_copyFrom_62 ?_
  refine go_top (y := 300) (by decide) ?_
  obtain ⟨b13, h⟩ := h
  refine gb_copy (pc := 63) (F := wX G o) rfl aX8_34 (gz_b (by decide)) xw34 (gz_b (by decide)) xw13 b13 (Nat.le_of_ble_eq_true rfl) (Nat.le_of_ble_eq_true rfl) xa13 dX8_copyFrom_63 (fun c14 ec14 => ?_)
  have h := h c14 ec14
  exact gq_vret (pc := 66) (F := wX G o) rfl dX8_copyFrom_66 h
def wX4_copyFrom_14_35 (c : gMem) (Q : gMem → Prop) : Prop :=
  ∀ v1, v1 = c 35 0 →
  ∀ c2, c2 = mp c 14 0 v1 →
  ∀ v3, v3 = c2 14 0 →
  (¬ (0 : Int32) < 0 ∧ ¬ (0 : Int32) < 0 ∧ ¬ v3 < 0 ∧ 0 + v3.toNatClampNeg ≤ 6527 ∧ 0 + v3.toNatClampNeg ≤ 6527) ∧
  ∀ c5, c5 = mr c2 15 (va_cpy (c2 36) (c2 15) 0 0 v3.toNatClampNeg) →
  ∀ v6, v6 = c5 14 0 →
  (¬ (0 : Int32) < 0 ∧ ¬ (0 : Int32) < 0 ∧ ¬ v6 < 0 ∧ 0 + v6.toNatClampNeg ≤ 6527 ∧ 0 + v6.toNatClampNeg ≤ 6527) ∧
  ∀ c8, c8 = mr c5 16 (va_cpy (c5 37) (c5 16) 0 0 v6.toNatClampNeg) →
  Q c8
set_option maxRecDepth 100000 in
set_option maxHeartbeats 4000000 in
theorem tX4_copyFrom_14_35 {l : Launch} {G : gG} {k : Nat} {o : gMem} {Q : gMem → Prop} {c : gMem} (h : wX4_copyFrom_14_35 c Q) : Cq l G mX4_copyFrom 1 26 [.ref (G.2.1 + 14), .ref (G.2.1 + 35)] 84 k (wX G o c) (qv (wX G o) Q) := by
  refine Cq.of (by decide) (Nat.le_of_ble_eq_true rfl) ?_
  show Go l G mX4_copyFrom (gbq G 1 26 84 k (qv (wX G o) Q)) 0 [(0, .ref (G.2.1 + 14)), (1, .ref (G.2.1 + 35))] [] 84 k (wX G o c)
  unfold wX4_copyFrom_14_35 at h
  refine go_aload_n (pc := 0) dX4_copyFrom_0 rfl rfl ?_
  refine go_aload_n (pc := 1) dX4_copyFrom_1 rfl rfl ?_
  refine gb_get (pc := 2) fX4_18 rfl (gz_b (by decide)) xw35 rfl dX4_copyFrom_2 (fun v1 ev1 => ?_)
  have h := h v1 ev1
  refine gb_put (pc := 5) (F := wX G o) fX4_18 rfl (gz_b (by decide)) xw14 (Nat.le_of_ble_eq_true rfl) rfl rfl xp14_0 dX4_copyFrom_5 (fun c2 ec2 => ?_)
  have h := h c2 ec2
  refine go_aload_n (pc := 8) dX4_copyFrom_8 rfl rfl ?_
  refine go_get (pc := 9) fX4_9 rfl (gz_b (by decide)) xw35 rfl dX4_copyFrom_9 ?_
  refine go_iconst (pc := 12) (v := 0) dX4_copyFrom_12 (by decide) ?_
  refine go_aload_n (pc := 13) dX4_copyFrom_13 rfl rfl ?_
  refine go_get (pc := 14) fX4_9 rfl (gz_b (by decide)) xw14 rfl dX4_copyFrom_14 ?_
  refine go_iconst (pc := 17) (v := 0) dX4_copyFrom_17 (by decide) ?_
  refine go_aload_n (pc := 18) dX4_copyFrom_18 rfl rfl ?_
  refine gb_get (pc := 19) fX4_18 rfl (gz_b (by decide)) xw14 rfl dX4_copyFrom_19 (fun v3 ev3 => ?_)
  have h := h v3 ev3
  obtain ⟨b4, h⟩ := h
  refine gb_copy (pc := 22) (F := wX G o) rfl aX4_22 (gz_b (by decide)) xw36 (gz_b (by decide)) xw15 b4 (Nat.le_of_ble_eq_true rfl) (Nat.le_of_ble_eq_true rfl) xa15 dX4_copyFrom_22 (fun c5 ec5 => ?_)
  have h := h c5 ec5
  refine go_aload_n (pc := 25) dX4_copyFrom_25 rfl rfl ?_
  refine go_get (pc := 26) fX4_15 rfl (gz_b (by decide)) xw35 rfl dX4_copyFrom_26 ?_
  refine go_iconst (pc := 29) (v := 0) dX4_copyFrom_29 (by decide) ?_
  refine go_aload_n (pc := 30) dX4_copyFrom_30 rfl rfl ?_
  refine go_get (pc := 31) fX4_15 rfl (gz_b (by decide)) xw14 rfl dX4_copyFrom_31 ?_
  refine go_iconst (pc := 34) (v := 0) dX4_copyFrom_34 (by decide) ?_
  refine go_aload_n (pc := 35) dX4_copyFrom_35 rfl rfl ?_
  refine gb_get (pc := 36) fX4_18 rfl (gz_b (by decide)) xw14 rfl dX4_copyFrom_36 (fun v6 ev6 => ?_)
  have h := h v6 ev6
  obtain ⟨b7, h⟩ := h
  refine gb_copy (pc := 39) (F := wX G o) rfl aX4_22 (gz_b (by decide)) xw37 (gz_b (by decide)) xw16 b7 (Nat.le_of_ble_eq_true rfl) (Nat.le_of_ble_eq_true rfl) xa16 dX4_copyFrom_39 (fun c8 ec8 => ?_)
  have h := h c8 ec8
  exact gq_vret (pc := 42) (F := wX G o) rfl dX4_copyFrom_42 h
def wX5_copyFrom_17_38 (c : gMem) (Q : gMem → Prop) : Prop :=
  ∀ v1, v1 = c 38 0 →
  ∀ c2, c2 = mp c 17 0 v1 →
  ∀ v3, v3 = c2 38 1 →
  ∀ c4, c4 = mp c2 17 1 v3 →
  ∀ v5, v5 = c4 38 2 →
  ∀ c6, c6 = mp c4 17 2 v5 →
  ∀ v7, v7 = c6 38 3 →
  ∀ c8, c8 = mp c6 17 3 v7 →
  (¬ (0 : Int32) < 0 ∧ ¬ (0 : Int32) < 0 ∧ ¬ (200 : Int32) < 0 ∧ 0 + 200 ≤ 200 ∧ 0 + 200 ≤ 200) ∧
  ∀ c10, c10 = mr c8 18 (va_cpy (c8 39) (c8 18) 0 0 200) →
  (¬ (0 : Int32) < 0 ∧ ¬ (0 : Int32) < 0 ∧ ¬ (8 : Int32) < 0 ∧ 0 + 8 ≤ 8 ∧ 0 + 8 ≤ 8) ∧
  ∀ c12, c12 = mr c10 19 (va_cpy (c10 40) (c10 19) 0 0 8) →
  Q c12
set_option maxRecDepth 100000 in
set_option maxHeartbeats 4000000 in
theorem tX5_copyFrom_17_38 {l : Launch} {G : gG} {k : Nat} {o : gMem} {Q : gMem → Prop} {c : gMem} (h : wX5_copyFrom_17_38 c Q) : Cq l G mX5_copyFrom 1 26 [.ref (G.2.1 + 17), .ref (G.2.1 + 38)] 84 k (wX G o c) (qv (wX G o) Q) := by
  refine Cq.of (by decide) (Nat.le_of_ble_eq_true rfl) ?_
  show Go l G mX5_copyFrom (gbq G 1 26 84 k (qv (wX G o) Q)) 0 [(0, .ref (G.2.1 + 17)), (1, .ref (G.2.1 + 38))] [] 84 k (wX G o c)
  unfold wX5_copyFrom_17_38 at h
  refine go_aload_n (pc := 0) dX5_copyFrom_0 rfl rfl ?_
  refine go_aload_n (pc := 1) dX5_copyFrom_1 rfl rfl ?_
  refine gb_get (pc := 2) fX5_18 rfl (gz_b (by decide)) xw38 rfl dX5_copyFrom_2 (fun v1 ev1 => ?_)
  have h := h v1 ev1
  refine gb_put (pc := 5) (F := wX G o) fX5_18 rfl (gz_b (by decide)) xw17 (Nat.le_of_ble_eq_true rfl) rfl rfl xp17_0 dX5_copyFrom_5 (fun c2 ec2 => ?_)
  have h := h c2 ec2
  refine go_aload_n (pc := 8) dX5_copyFrom_8 rfl rfl ?_
  refine go_aload_n (pc := 9) dX5_copyFrom_9 rfl rfl ?_
  refine gb_get (pc := 10) fX5_22 rfl (gz_b (by decide)) xw38 rfl dX5_copyFrom_10 (fun v3 ev3 => ?_)
  have h := h v3 ev3
  refine gb_put (pc := 13) (F := wX G o) fX5_22 rfl (gz_b (by decide)) xw17 (Nat.le_of_ble_eq_true rfl) rfl rfl xp17_1 dX5_copyFrom_13 (fun c4 ec4 => ?_)
  have h := h c4 ec4
  refine go_aload_n (pc := 16) dX5_copyFrom_16 rfl rfl ?_
  refine go_aload_n (pc := 17) dX5_copyFrom_17 rfl rfl ?_
  refine gb_get (pc := 18) fX5_25 rfl (gz_b (by decide)) xw38 rfl dX5_copyFrom_18 (fun v5 ev5 => ?_)
  have h := h v5 ev5
  refine gb_put (pc := 21) (F := wX G o) fX5_25 rfl (gz_b (by decide)) xw17 (Nat.le_of_ble_eq_true rfl) rfl rfl xp17_2 dX5_copyFrom_21 (fun c6 ec6 => ?_)
  have h := h c6 ec6
  refine go_aload_n (pc := 24) dX5_copyFrom_24 rfl rfl ?_
  refine go_aload_n (pc := 25) dX5_copyFrom_25 rfl rfl ?_
  refine gb_get (pc := 26) fX5_28 rfl (gz_b (by decide)) xw38 rfl dX5_copyFrom_26 (fun v7 ev7 => ?_)
  have h := h v7 ev7
  refine gb_put (pc := 29) (F := wX G o) fX5_28 rfl (gz_b (by decide)) xw17 (Nat.le_of_ble_eq_true rfl) rfl rfl xp17_3 dX5_copyFrom_29 (fun c8 ec8 => ?_)
  have h := h c8 ec8
  refine go_aload_n (pc := 32) dX5_copyFrom_32 rfl rfl ?_
  refine go_get (pc := 33) fX5_9 rfl (gz_b (by decide)) xw38 rfl dX5_copyFrom_33 ?_
  refine go_iconst (pc := 36) (v := 0) dX5_copyFrom_36 (by decide) ?_
  refine go_aload_n (pc := 37) dX5_copyFrom_37 rfl rfl ?_
  refine go_get (pc := 38) fX5_9 rfl (gz_b (by decide)) xw17 rfl dX5_copyFrom_38 ?_
  refine go_iconst (pc := 41) (v := 0) dX5_copyFrom_41 (by decide) ?_
  refine go_aload_n (pc := 42) dX5_copyFrom_42 rfl rfl ?_
  refine go_get (pc := 43) fX5_9 rfl (gz_b (by decide)) xw17 rfl dX5_copyFrom_43 ?_
  refine go_alen (pc := 46) (gz_b (by decide)) xw18 dX5_copyFrom_46 ?_
  refine go_top (y := 200) (by decide) ?_
  obtain ⟨b9, h⟩ := h
  refine gb_copy (pc := 47) (F := wX G o) rfl aX5_37 (gz_b (by decide)) xw39 (gz_b (by decide)) xw18 b9 (Nat.le_of_ble_eq_true rfl) (Nat.le_of_ble_eq_true rfl) xa18 dX5_copyFrom_47 (fun c10 ec10 => ?_)
  have h := h c10 ec10
  refine go_aload_n (pc := 50) dX5_copyFrom_50 rfl rfl ?_
  refine go_get (pc := 51) fX5_15 rfl (gz_b (by decide)) xw38 rfl dX5_copyFrom_51 ?_
  refine go_iconst (pc := 54) (v := 0) dX5_copyFrom_54 (by decide) ?_
  refine go_aload_n (pc := 55) dX5_copyFrom_55 rfl rfl ?_
  refine go_get (pc := 56) fX5_15 rfl (gz_b (by decide)) xw17 rfl dX5_copyFrom_56 ?_
  refine go_iconst (pc := 59) (v := 0) dX5_copyFrom_59 (by decide) ?_
  refine go_bipush (pc := 60) (v := 8) dX5_copyFrom_60 (by decide) ?_
  obtain ⟨b11, h⟩ := h
  refine gb_copy (pc := 62) (F := wX G o) rfl aX5_37 (gz_b (by decide)) xw40 (gz_b (by decide)) xw19 b11 (Nat.le_of_ble_eq_true rfl) (Nat.le_of_ble_eq_true rfl) xa19 dX5_copyFrom_62 (fun c12 ec12 => ?_)
  have h := h c12 ec12
  exact gq_vret (pc := 65) (F := wX G o) rfl dX5_copyFrom_65 h
def wX6_become_1_22 (c : gMem) (Q : gMem → Prop) : Prop :=
  wX2_copyFrom_2_23 c (fun c1 =>
  wX3_copyFrom_6_27 c1 (fun c2 =>
  wX8_copyFrom_12_33 c2 (fun c3 =>
  wX4_copyFrom_14_35 c3 (fun c4 =>
  wX5_copyFrom_17_38 c4 (fun c5 =>
  (¬ (0 : Int32) < 0 ∧ ¬ (0 : Int32) < 0 ∧ ¬ (24 : Int32) < 0 ∧ 0 + 24 ≤ 24 ∧ 0 + 24 ≤ 24) ∧
  ∀ c7, c7 = mr c5 20 (va_cpy (c5 41) (c5 20) 0 0 24) →
  (¬ (0 : Int32) < 0 ∧ ¬ (0 : Int32) < 0 ∧ ¬ (32 : Int32) < 0 ∧ 0 + 32 ≤ 32 ∧ 0 + 32 ≤ 32) ∧
  ∀ c9, c9 = mr c7 21 (va_cpy (c7 42) (c7 21) 0 0 32) →
  Q c9)))))
set_option maxRecDepth 100000 in
set_option maxHeartbeats 4000000 in
theorem tX6_become_1_22 {l : Launch} {G : gG} {k : Nat} {o : gMem} {Q : gMem → Prop} {c : gMem} (h : wX6_become_1_22 c Q) : Cq l G mX6_become 3 67 [.ref (G.2.1 + 1), .ref (G.2.1 + 22)] 84 k (wX G o c) (qv (wX G o) Q) := by
  refine Cq.of (by decide) (Nat.le_of_ble_eq_true rfl) ?_
  show Go l G mX6_become (gbq G 3 67 84 k (qv (wX G o) Q)) 0 [(0, .ref (G.2.1 + 1)), (1, .ref (G.2.1 + 22))] [] 84 k (wX G o c)
  unfold wX6_become_1_22 at h
  refine go_aload_n (pc := 0) dX6_become_0 rfl rfl ?_
  refine go_get (pc := 1) fX6_12 rfl (gz_b (by decide)) xw1 rfl dX6_become_1 ?_
  refine go_aload_n (pc := 4) dX6_become_4 rfl rfl ?_
  refine go_get (pc := 5) fX6_12 rfl (gz_b (by decide)) xw22 rfl dX6_become_5 ?_
  refine gq_callV_v (pc := 8) (F := wX G o) vX6_76 rfl (tX2_copyFrom_2_23 h) rfl rfl (gz_b (by decide)) xw2 rfl (Nat.le_of_ble_eq_true rfl) ⟨Nat.le_of_ble_eq_true rfl, Nat.le_of_ble_eq_true rfl, Nat.le_add_right _ _, Nat.le_add_right _ _⟩ dX6_become_8 (fun c1 h => ?_)
  refine go_aload_n (pc := 11) dX6_become_11 rfl rfl ?_
  refine go_get (pc := 12) fX6_21 rfl (gz_b (by decide)) xw1 rfl dX6_become_12 ?_
  refine go_aload_n (pc := 15) dX6_become_15 rfl rfl ?_
  refine go_get (pc := 16) fX6_21 rfl (gz_b (by decide)) xw22 rfl dX6_become_16 ?_
  refine gq_callV_v (pc := 19) (F := wX G o) vX6_80 rfl (tX3_copyFrom_6_27 h) rfl rfl (gz_b (by decide)) xw6 rfl (Nat.le_of_ble_eq_true rfl) ⟨Nat.le_of_ble_eq_true rfl, Nat.le_of_ble_eq_true rfl, Nat.le_add_right _ _, Nat.le_add_right _ _⟩ dX6_become_19 (fun c2 h => ?_)
  refine go_aload_n (pc := 22) dX6_become_22 rfl rfl ?_
  refine go_get (pc := 23) fX6_28 rfl (gz_b (by decide)) xw1 rfl dX6_become_23 ?_
  refine go_aload_n (pc := 26) dX6_become_26 rfl rfl ?_
  refine go_get (pc := 27) fX6_28 rfl (gz_b (by decide)) xw22 rfl dX6_become_27 ?_
  refine gq_callV_v (pc := 30) (F := wX G o) vX6_83 rfl (tX8_copyFrom_12_33 h) rfl rfl (gz_b (by decide)) xw12 rfl (Nat.le_of_ble_eq_true rfl) ⟨Nat.le_of_ble_eq_true rfl, Nat.le_of_ble_eq_true rfl, Nat.le_add_right _ _, Nat.le_add_right _ _⟩ dX6_become_30 (fun c3 h => ?_)
  refine go_aload_n (pc := 33) dX6_become_33 rfl rfl ?_
  refine go_get (pc := 34) fX6_35 rfl (gz_b (by decide)) xw1 rfl dX6_become_34 ?_
  refine go_aload_n (pc := 37) dX6_become_37 rfl rfl ?_
  refine go_get (pc := 38) fX6_35 rfl (gz_b (by decide)) xw22 rfl dX6_become_38 ?_
  refine gq_callV_v (pc := 41) (F := wX G o) vX6_86 rfl (tX4_copyFrom_14_35 h) rfl rfl (gz_b (by decide)) xw14 rfl (Nat.le_of_ble_eq_true rfl) ⟨Nat.le_of_ble_eq_true rfl, Nat.le_of_ble_eq_true rfl, Nat.le_add_right _ _, Nat.le_add_right _ _⟩ dX6_become_41 (fun c4 h => ?_)
  refine go_aload_n (pc := 44) dX6_become_44 rfl rfl ?_
  refine go_get (pc := 45) fX6_42 rfl (gz_b (by decide)) xw1 rfl dX6_become_45 ?_
  refine go_aload_n (pc := 48) dX6_become_48 rfl rfl ?_
  refine go_get (pc := 49) fX6_42 rfl (gz_b (by decide)) xw22 rfl dX6_become_49 ?_
  refine gq_callV_v (pc := 52) (F := wX G o) vX6_89 rfl (tX5_copyFrom_17_38 h) rfl rfl (gz_b (by decide)) xw17 rfl (Nat.le_of_ble_eq_true rfl) ⟨Nat.le_of_ble_eq_true rfl, Nat.le_of_ble_eq_true rfl, Nat.le_add_right _ _, Nat.le_add_right _ _⟩ dX6_become_52 (fun c5 h => ?_)
  refine go_aload_n (pc := 55) dX6_become_55 rfl rfl ?_
  refine go_get (pc := 56) fX6_46 rfl (gz_b (by decide)) xw22 rfl dX6_become_56 ?_
  refine go_iconst (pc := 59) (v := 0) dX6_become_59 (by decide) ?_
  refine go_aload_n (pc := 60) dX6_become_60 rfl rfl ?_
  refine go_get (pc := 61) fX6_46 rfl (gz_b (by decide)) xw1 rfl dX6_become_61 ?_
  refine go_iconst (pc := 64) (v := 0) dX6_become_64 (by decide) ?_
  refine go_bipush (pc := 65) (v := 24) dX6_become_65 (by decide) ?_
  obtain ⟨b6, h⟩ := h
  refine gb_copy (pc := 67) (F := wX G o) rfl aX6_92 (gz_b (by decide)) xw41 (gz_b (by decide)) xw20 b6 (Nat.le_of_ble_eq_true rfl) (Nat.le_of_ble_eq_true rfl) xa20 dX6_become_67 (fun c7 ec7 => ?_)
  have h := h c7 ec7
  refine go_aload_n (pc := 70) dX6_become_70 rfl rfl ?_
  refine go_get (pc := 71) fX6_50 rfl (gz_b (by decide)) xw22 rfl dX6_become_71 ?_
  refine go_iconst (pc := 74) (v := 0) dX6_become_74 (by decide) ?_
  refine go_aload_n (pc := 75) dX6_become_75 rfl rfl ?_
  refine go_get (pc := 76) fX6_50 rfl (gz_b (by decide)) xw1 rfl dX6_become_76 ?_
  refine go_iconst (pc := 79) (v := 0) dX6_become_79 (by decide) ?_
  refine go_aload_n (pc := 80) dX6_become_80 rfl rfl ?_
  refine go_get (pc := 81) fX6_50 rfl (gz_b (by decide)) xw1 rfl dX6_become_81 ?_
  refine go_alen (pc := 84) (gz_b (by decide)) xw21 dX6_become_84 ?_
  refine go_top (y := 32) (by decide) ?_
  obtain ⟨b8, h⟩ := h
  refine gb_copy (pc := 85) (F := wX G o) rfl aX6_92 (gz_b (by decide)) xw42 (gz_b (by decide)) xw21 b8 (Nat.le_of_ble_eq_true rfl) (Nat.le_of_ble_eq_true rfl) xa21 dX6_become_85 (fun c9 ec9 => ?_)
  have h := h c9 ec9
  exact gq_vret (pc := 88) (F := wX G o) rfl dX6_become_88 h
def wX9_load (c : gMem) (Q : Int32 → gMem → Prop) : Prop :=
  ∀ v1, v1 = c 0 8 →
  ((v1 = 0 →
    Q ((-104)) c) ∧
   (¬ v1 = 0 →
    wX6_become_1_22 c (fun c3 =>
    ∀ c4, c4 = mp c3 0 10 0 →
    Q 1 c4)))
set_option maxRecDepth 100000 in
set_option maxHeartbeats 4000000 in
theorem tX9_load {l : Launch} {G : gG} {k : Nat} {o : gMem} {Q : Int32 → gMem → Prop} {c : gMem} (h : wX9_load c Q) : Cq l G mX9_load 4 88 [.ref (G.2.1 + 0)] 84 k (wX G o c) (qi (wX G o) Q) := by
  refine Cq.of (by decide) (Nat.le_of_ble_eq_true rfl) ?_
  show Go l G mX9_load (gbq G 4 88 84 k (qi (wX G o) Q)) 0 [(0, .ref (G.2.1 + 0))] [] 84 k (wX G o c)
  unfold wX9_load at h
  refine go_aload_n (pc := 0) dX9_load_0 rfl rfl ?_
  refine gb_get (pc := 1) fX9_65 rfl (gz_b (by decide)) xw0 rfl dX9_load_1 (fun v1 ev1 => ?_)
  have h := h v1 ev1
  refine go_if_ne (pc := 4) (tgt := 10) dX9_load_4 (by decide) (fun q2 => ?_) (fun q2 => ?_)
  · have h := h.2 q2
    refine go_aload_n (pc := 10) dX9_load_10 rfl rfl ?_
    refine go_get (pc := 11) fX9_12 rfl (gz_b (by decide)) xw0 rfl dX9_load_11 ?_
    refine go_aload_n (pc := 14) dX9_load_14 rfl rfl ?_
    refine go_get (pc := 15) fX9_16 rfl (gz_b (by decide)) xw0 rfl dX9_load_15 ?_
    refine gq_callV_v (pc := 18) (F := wX G o) vX9_318 rfl (tX6_become_1_22 h) rfl rfl (gz_b (by decide)) xw1 rfl (Nat.le_of_ble_eq_true rfl) ⟨Nat.le_of_ble_eq_true rfl, Nat.le_of_ble_eq_true rfl, Nat.le_add_right _ _, Nat.le_add_right _ _⟩ dX9_load_18 (fun c3 h => ?_)
    refine go_aload_n (pc := 21) dX9_load_21 rfl rfl ?_
    refine go_iconst (pc := 22) (v := 0) dX9_load_22 (by decide) ?_
    refine gb_put (pc := 23) (F := wX G o) fX9_69 rfl (gz_b (by decide)) xw0 (Nat.le_of_ble_eq_true rfl) rfl rfl xp0_10 dX9_load_23 (fun c4 ec4 => ?_)
    have h := h c4 ec4
    refine go_iconst (pc := 26) (v := 1) dX9_load_26 (by decide) ?_
    exact gq_iret (pc := 27) (F := wX G o) rfl dX9_load_27 h
  · have h := h.1 q2
    refine go_bipush (pc := 7) (v := (-104)) dX9_load_7 (by decide) ?_
    exact gq_iret (pc := 9) (F := wX G o) rfl dX9_load_9 h
def wX2_copyFrom_2_44_p27 (c : gMem) (Q : gMem → Prop) : Prop :=
  ∀ v1, v1 = c 44 1 →
  (¬ (0 : Int32) < 0 ∧ ¬ (0 : Int32) < 0 ∧ ¬ v1 < 0 ∧ 0 + v1.toNatClampNeg ≤ 4000 ∧ 0 + v1.toNatClampNeg ≤ 4000) ∧
  ∀ c3, c3 = mr c 3 (va_cpy (c 45) (c 3) 0 0 v1.toNatClampNeg) →
  (¬ (0 : Int32) < 0 ∧ ¬ (0 : Int32) < 0 ∧ ¬ (500 : Int32) < 0 ∧ 0 + 500 ≤ 500 ∧ 0 + 500 ≤ 500) ∧
  ∀ c5, c5 = mr c3 4 (va_cpy (c3 46) (c3 4) 0 0 500) →
  (¬ (0 : Int32) < 0 ∧ ¬ (0 : Int32) < 0 ∧ ¬ (500 : Int32) < 0 ∧ 0 + 500 ≤ 500 ∧ 0 + 500 ≤ 500) ∧
  ∀ c7, c7 = mr c5 5 (va_cpy (c5 47) (c5 5) 0 0 500) →
  ∀ v8, v8 = c7 44 0 →
  ∀ c9, c9 = mp c7 2 0 v8 →
  ∀ v10, v10 = c9 44 1 →
  ∀ c11, c11 = mp c9 2 1 v10 →
  ∀ v12, v12 = c11 44 2 →
  ∀ c13, c13 = mp c11 2 2 v12 →
  ∀ v14, v14 = c13 44 3 →
  ∀ c15, c15 = mp c13 2 3 v14 →
  Q c15
set_option maxRecDepth 100000 in
set_option maxHeartbeats 4000000 in
theorem tX2_copyFrom_2_44_p27 {l : Launch} {G : gG} {k : Nat} {o : gMem} {Q : gMem → Prop} {c : gMem} (h : wX2_copyFrom_2_44_p27 c Q) : Go l G mX2_copyFrom (gbq G 2 46 84 k (qv (wX G o) Q)) 27 [(0, .ref (G.2.1 + 2)), (1, .ref (G.2.1 + 44))] [] 84 k (wX G o c) := by
  unfold wX2_copyFrom_2_44_p27 at h
  refine go_aload_n (pc := 27) dX2_copyFrom_27 rfl rfl ?_
  refine go_get (pc := 28) fX2_9 rfl (gz_b (by decide)) xw44 rfl dX2_copyFrom_28 ?_
  refine go_iconst (pc := 31) (v := 0) dX2_copyFrom_31 (by decide) ?_
  refine go_aload_n (pc := 32) dX2_copyFrom_32 rfl rfl ?_
  refine go_get (pc := 33) fX2_9 rfl (gz_b (by decide)) xw2 rfl dX2_copyFrom_33 ?_
  refine go_iconst (pc := 36) (v := 0) dX2_copyFrom_36 (by decide) ?_
  refine go_aload_n (pc := 37) dX2_copyFrom_37 rfl rfl ?_
  refine gb_get (pc := 38) fX2_41 rfl (gz_b (by decide)) xw44 rfl dX2_copyFrom_38 (fun v1 ev1 => ?_)
  have h := h v1 ev1
  obtain ⟨b2, h⟩ := h
  refine gb_copy (pc := 41) (F := wX G o) rfl aX2_47 (gz_b (by decide)) xw45 (gz_b (by decide)) xw3 b2 (Nat.le_of_ble_eq_true rfl) (Nat.le_of_ble_eq_true rfl) xa3 dX2_copyFrom_41 (fun c3 ec3 => ?_)
  have h := h c3 ec3
  refine go_aload_n (pc := 44) dX2_copyFrom_44 rfl rfl ?_
  refine go_get (pc := 45) fX2_15 rfl (gz_b (by decide)) xw44 rfl dX2_copyFrom_45 ?_
  refine go_iconst (pc := 48) (v := 0) dX2_copyFrom_48 (by decide) ?_
  refine go_aload_n (pc := 49) dX2_copyFrom_49 rfl rfl ?_
  refine go_get (pc := 50) fX2_15 rfl (gz_b (by decide)) xw2 rfl dX2_copyFrom_50 ?_
  refine go_iconst (pc := 53) (v := 0) dX2_copyFrom_53 (by decide) ?_
  refine go_sipush (pc := 54) (v := 500) dX2_copyFrom_54 (by decide) ?_
  obtain ⟨b4, h⟩ := h
  refine gb_copy (pc := 57) (F := wX G o) rfl aX2_47 (gz_b (by decide)) xw46 (gz_b (by decide)) xw4 b4 (Nat.le_of_ble_eq_true rfl) (Nat.le_of_ble_eq_true rfl) xa4 dX2_copyFrom_57 (fun c5 ec5 => ?_)
  have h := h c5 ec5
  refine go_aload_n (pc := 60) dX2_copyFrom_60 rfl rfl ?_
  refine go_get (pc := 61) fX2_18 rfl (gz_b (by decide)) xw44 rfl dX2_copyFrom_61 ?_
  refine go_iconst (pc := 64) (v := 0) dX2_copyFrom_64 (by decide) ?_
  refine go_aload_n (pc := 65) dX2_copyFrom_65 rfl rfl ?_
  refine go_get (pc := 66) fX2_18 rfl (gz_b (by decide)) xw2 rfl dX2_copyFrom_66 ?_
  refine go_iconst (pc := 69) (v := 0) dX2_copyFrom_69 (by decide) ?_
  refine go_sipush (pc := 70) (v := 500) dX2_copyFrom_70 (by decide) ?_
  obtain ⟨b6, h⟩ := h
  refine gb_copy (pc := 73) (F := wX G o) rfl aX2_47 (gz_b (by decide)) xw47 (gz_b (by decide)) xw5 b6 (Nat.le_of_ble_eq_true rfl) (Nat.le_of_ble_eq_true rfl) xa5 dX2_copyFrom_73 (fun c7 ec7 => ?_)
  have h := h c7 ec7
  refine go_aload_n (pc := 76) dX2_copyFrom_76 rfl rfl ?_
  refine go_aload_n (pc := 77) dX2_copyFrom_77 rfl rfl ?_
  refine gb_get (pc := 78) fX2_25 rfl (gz_b (by decide)) xw44 rfl dX2_copyFrom_78 (fun v8 ev8 => ?_)
  have h := h v8 ev8
  refine gb_put (pc := 81) (F := wX G o) fX2_25 rfl (gz_b (by decide)) xw2 (Nat.le_of_ble_eq_true rfl) rfl rfl xp2_0 dX2_copyFrom_81 (fun c9 ec9 => ?_)
  have h := h c9 ec9
  refine go_aload_n (pc := 84) dX2_copyFrom_84 rfl rfl ?_
  refine go_aload_n (pc := 85) dX2_copyFrom_85 rfl rfl ?_
  refine gb_get (pc := 86) fX2_41 rfl (gz_b (by decide)) xw44 rfl dX2_copyFrom_86 (fun v10 ev10 => ?_)
  have h := h v10 ev10
  refine gb_put (pc := 89) (F := wX G o) fX2_41 rfl (gz_b (by decide)) xw2 (Nat.le_of_ble_eq_true rfl) rfl rfl xp2_1 dX2_copyFrom_89 (fun c11 ec11 => ?_)
  have h := h c11 ec11
  refine go_aload_n (pc := 92) dX2_copyFrom_92 rfl rfl ?_
  refine go_aload_n (pc := 93) dX2_copyFrom_93 rfl rfl ?_
  refine gb_get (pc := 94) fX2_29 rfl (gz_b (by decide)) xw44 rfl dX2_copyFrom_94 (fun v12 ev12 => ?_)
  have h := h v12 ev12
  refine gb_put (pc := 97) (F := wX G o) fX2_29 rfl (gz_b (by decide)) xw2 (Nat.le_of_ble_eq_true rfl) rfl rfl xp2_2 dX2_copyFrom_97 (fun c13 ec13 => ?_)
  have h := h c13 ec13
  refine go_aload_n (pc := 100) dX2_copyFrom_100 rfl rfl ?_
  refine go_aload_n (pc := 101) dX2_copyFrom_101 rfl rfl ?_
  refine gb_get (pc := 102) fX2_32 rfl (gz_b (by decide)) xw44 rfl dX2_copyFrom_102 (fun v14 ev14 => ?_)
  have h := h v14 ev14
  refine gb_put (pc := 105) (F := wX G o) fX2_32 rfl (gz_b (by decide)) xw2 (Nat.le_of_ble_eq_true rfl) rfl rfl xp2_3 dX2_copyFrom_105 (fun c15 ec15 => ?_)
  have h := h c15 ec15
  exact gq_vret (pc := 108) (F := wX G o) rfl dX2_copyFrom_108 h
def wX2_copyFrom_2_44 (c : gMem) (Q : gMem → Prop) : Prop :=
  ∀ v1, v1 = c 2 1 →
  ∀ v2, v2 = c 44 1 →
  ((v1 ≤ v2 →
    wX2_copyFrom_2_44_p27 c Q) ∧
   (¬ v1 ≤ v2 →
    ∀ v4, v4 = c 44 1 →
    ∀ v5, v5 = c 2 1 →
    ∃ f7 t8 : Nat, v4 = nI f7 ∧ v5 = nI t8 ∧ f7 ≤ t8 ∧ t8 ≤ 4000 ∧
    ∀ c6, c6 = mr c 3 (fun j => if f7 ≤ j ∧ j < t8 then 0 else c 3 j) →
    wX2_copyFrom_2_44_p27 c6 Q))
set_option maxRecDepth 100000 in
set_option maxHeartbeats 4000000 in
theorem tX2_copyFrom_2_44 {l : Launch} {G : gG} {k : Nat} {o : gMem} {Q : gMem → Prop} {c : gMem} (h : wX2_copyFrom_2_44 c Q) : Cq l G mX2_copyFrom 2 46 [.ref (G.2.1 + 2), .ref (G.2.1 + 44)] 84 k (wX G o c) (qv (wX G o) Q) := by
  refine Cq.of (by decide) (Nat.le_of_ble_eq_true rfl) ?_
  show Go l G mX2_copyFrom (gbq G 2 46 84 k (qv (wX G o) Q)) 0 [(0, .ref (G.2.1 + 2)), (1, .ref (G.2.1 + 44))] [] 84 k (wX G o c)
  unfold wX2_copyFrom_2_44 at h
  refine go_aload_n (pc := 0) dX2_copyFrom_0 rfl rfl ?_
  refine gb_get (pc := 1) fX2_41 rfl (gz_b (by decide)) xw2 rfl dX2_copyFrom_1 (fun v1 ev1 => ?_)
  have h := h v1 ev1
  refine go_aload_n (pc := 4) dX2_copyFrom_4 rfl rfl ?_
  refine gb_get (pc := 5) fX2_41 rfl (gz_b (by decide)) xw44 rfl dX2_copyFrom_5 (fun v2 ev2 => ?_)
  have h := h v2 ev2
  refine go_icmp_le (pc := 8) (tgt := 27) dX2_copyFrom_8 (by decide) (fun q3 => ?_) (fun q3 => ?_)
  · have h := h.1 q3
    refine go_lv [0, 1] rfl ?_
    exact tX2_copyFrom_2_44_p27 h
  · have h := h.2 q3
    refine go_aload_n (pc := 11) dX2_copyFrom_11 rfl rfl ?_
    refine go_get (pc := 12) fX2_9 rfl (gz_b (by decide)) xw2 rfl dX2_copyFrom_12 ?_
    refine go_aload_n (pc := 15) dX2_copyFrom_15 rfl rfl ?_
    refine gb_get (pc := 16) fX2_41 rfl (gz_b (by decide)) xw44 rfl dX2_copyFrom_16 (fun v4 ev4 => ?_)
    have h := h v4 ev4
    refine go_aload_n (pc := 19) dX2_copyFrom_19 rfl rfl ?_
    refine gb_get (pc := 20) fX2_41 rfl (gz_b (by decide)) xw2 rfl dX2_copyFrom_20 (fun v5 ev5 => ?_)
    have h := h v5 ev5
    refine go_iconst (pc := 23) (v := 0) dX2_copyFrom_23 (by decide) ?_
    obtain ⟨f7, t8, u9a, u9b, u9c, u9d, h⟩ := h
    refine gq_callS_v (pc := 24) (F := wX G o) (Q := fun q => q = mr c 3 (fun j => if f7 ≤ j ∧ j < t8 then 0 else c 3 j)) sX2_44 rfl (cq_fillr (by decide) u9a u9b u9c u9d (gz_b (by decide)) xw3 xa3 rfl) rfl rfl (Nat.le_of_ble_eq_true rfl) ⟨Nat.le_of_ble_eq_true rfl, Nat.le_of_ble_eq_true rfl, Nat.le_add_right _ _, Nat.le_add_right _ _⟩ dX2_copyFrom_24 (fun c6 ec6 => ?_)
    have h := h c6 ec6
    refine go_lv [0, 1] rfl ?_
    exact tX2_copyFrom_2_44_p27 h
def wX3_copyFrom_6_48 (c : gMem) (Q : gMem → Prop) : Prop :=
  ∀ v1, v1 = c 48 0 →
  (v1 = 0 ∨ v1 = 1) ∧
  ∀ c2, c2 = mp c 6 0 v1 →
  ∀ v4, v4 = c2 48 1 →
  ∀ c5, c5 = mp c2 6 1 v4 →
  ∀ v6, v6 = c5 48 2 →
  ∀ c7, c7 = mp c5 6 2 v6 →
  ∀ v8, v8 = c7 48 3 →
  ∀ c9, c9 = mp c7 6 3 v8 →
  (¬ (0 : Int32) < 0 ∧ ¬ (0 : Int32) < 0 ∧ ¬ (500 : Int32) < 0 ∧ 0 + 500 ≤ 500 ∧ 0 + 500 ≤ 500) ∧
  ∀ c11, c11 = mr c9 7 (va_cpy (c9 49) (c9 7) 0 0 500) →
  (¬ (0 : Int32) < 0 ∧ ¬ (0 : Int32) < 0 ∧ ¬ (500 : Int32) < 0 ∧ 0 + 500 ≤ 500 ∧ 0 + 500 ≤ 500) ∧
  ∀ c13, c13 = mr c11 8 (va_cpy (c11 50) (c11 8) 0 0 500) →
  (¬ (0 : Int32) < 0 ∧ ¬ (0 : Int32) < 0 ∧ ¬ (500 : Int32) < 0 ∧ 0 + 500 ≤ 500 ∧ 0 + 500 ≤ 500) ∧
  ∀ c15, c15 = mr c13 9 (va_cpy (c13 51) (c13 9) 0 0 500) →
  (¬ (0 : Int32) < 0 ∧ ¬ (0 : Int32) < 0 ∧ ¬ (500 : Int32) < 0 ∧ 0 + 500 ≤ 500 ∧ 0 + 500 ≤ 500) ∧
  ∀ c17, c17 = mr c15 10 (va_cpy (c15 52) (c15 10) 0 0 500) →
  (¬ (0 : Int32) < 0 ∧ ¬ (0 : Int32) < 0 ∧ ¬ (500 : Int32) < 0 ∧ 0 + 500 ≤ 500 ∧ 0 + 500 ≤ 500) ∧
  ∀ c19, c19 = mr c17 11 (va_cpy (c17 53) (c17 11) 0 0 500) →
  Q c19
set_option maxRecDepth 100000 in
set_option maxHeartbeats 4000000 in
theorem tX3_copyFrom_6_48 {l : Launch} {G : gG} {k : Nat} {o : gMem} {Q : gMem → Prop} {c : gMem} (h : wX3_copyFrom_6_48 c Q) : Cq l G mX3_copyFrom 1 26 [.ref (G.2.1 + 6), .ref (G.2.1 + 48)] 84 k (wX G o c) (qv (wX G o) Q) := by
  refine Cq.of (by decide) (Nat.le_of_ble_eq_true rfl) ?_
  show Go l G mX3_copyFrom (gbq G 1 26 84 k (qv (wX G o) Q)) 0 [(0, .ref (G.2.1 + 6)), (1, .ref (G.2.1 + 48))] [] 84 k (wX G o c)
  unfold wX3_copyFrom_6_48 at h
  refine go_aload_n (pc := 0) dX3_copyFrom_0 rfl rfl ?_
  refine go_aload_n (pc := 1) dX3_copyFrom_1 rfl rfl ?_
  refine gb_get (pc := 2) fX3_27 rfl (gz_b (by decide)) xw48 rfl dX3_copyFrom_2 (fun v1 ev1 => ?_)
  have h := h v1 ev1
  obtain ⟨b3, h⟩ := h
  refine gb_put (pc := 5) (F := wX G o) fX3_27 rfl (gz_b (by decide)) xw6 (Nat.le_of_ble_eq_true rfl) (by rcases b3 with hz | hz <;> rw [hz] <;> rfl) (by rcases b3 with hz | hz <;> rw [hz] <;> rfl) xp6_0 dX3_copyFrom_5 (fun c2 ec2 => ?_)
  have h := h c2 ec2
  refine go_aload_n (pc := 8) dX3_copyFrom_8 rfl rfl ?_
  refine go_aload_n (pc := 9) dX3_copyFrom_9 rfl rfl ?_
  refine gb_get (pc := 10) fX3_31 rfl (gz_b (by decide)) xw48 rfl dX3_copyFrom_10 (fun v4 ev4 => ?_)
  have h := h v4 ev4
  refine gb_put (pc := 13) (F := wX G o) fX3_31 rfl (gz_b (by decide)) xw6 (Nat.le_of_ble_eq_true rfl) rfl rfl xp6_1 dX3_copyFrom_13 (fun c5 ec5 => ?_)
  have h := h c5 ec5
  refine go_aload_n (pc := 16) dX3_copyFrom_16 rfl rfl ?_
  refine go_aload_n (pc := 17) dX3_copyFrom_17 rfl rfl ?_
  refine gb_get (pc := 18) fX3_35 rfl (gz_b (by decide)) xw48 rfl dX3_copyFrom_18 (fun v6 ev6 => ?_)
  have h := h v6 ev6
  refine gb_put (pc := 21) (F := wX G o) fX3_35 rfl (gz_b (by decide)) xw6 (Nat.le_of_ble_eq_true rfl) rfl rfl xp6_2 dX3_copyFrom_21 (fun c7 ec7 => ?_)
  have h := h c7 ec7
  refine go_aload_n (pc := 24) dX3_copyFrom_24 rfl rfl ?_
  refine go_aload_n (pc := 25) dX3_copyFrom_25 rfl rfl ?_
  refine gb_get (pc := 26) fX3_38 rfl (gz_b (by decide)) xw48 rfl dX3_copyFrom_26 (fun v8 ev8 => ?_)
  have h := h v8 ev8
  refine gb_put (pc := 29) (F := wX G o) fX3_38 rfl (gz_b (by decide)) xw6 (Nat.le_of_ble_eq_true rfl) rfl rfl xp6_3 dX3_copyFrom_29 (fun c9 ec9 => ?_)
  have h := h c9 ec9
  refine go_aload_n (pc := 32) dX3_copyFrom_32 rfl rfl ?_
  refine go_get (pc := 33) fX3_9 rfl (gz_b (by decide)) xw48 rfl dX3_copyFrom_33 ?_
  refine go_iconst (pc := 36) (v := 0) dX3_copyFrom_36 (by decide) ?_
  refine go_aload_n (pc := 37) dX3_copyFrom_37 rfl rfl ?_
  refine go_get (pc := 38) fX3_9 rfl (gz_b (by decide)) xw6 rfl dX3_copyFrom_38 ?_
  refine go_iconst (pc := 41) (v := 0) dX3_copyFrom_41 (by decide) ?_
  refine go_sipush (pc := 42) (v := 500) dX3_copyFrom_42 (by decide) ?_
  obtain ⟨b10, h⟩ := h
  refine gb_copy (pc := 45) (F := wX G o) rfl aX3_47 (gz_b (by decide)) xw49 (gz_b (by decide)) xw7 b10 (Nat.le_of_ble_eq_true rfl) (Nat.le_of_ble_eq_true rfl) xa7 dX3_copyFrom_45 (fun c11 ec11 => ?_)
  have h := h c11 ec11
  refine go_aload_n (pc := 48) dX3_copyFrom_48 rfl rfl ?_
  refine go_get (pc := 49) fX3_15 rfl (gz_b (by decide)) xw48 rfl dX3_copyFrom_49 ?_
  refine go_iconst (pc := 52) (v := 0) dX3_copyFrom_52 (by decide) ?_
  refine go_aload_n (pc := 53) dX3_copyFrom_53 rfl rfl ?_
  refine go_get (pc := 54) fX3_15 rfl (gz_b (by decide)) xw6 rfl dX3_copyFrom_54 ?_
  refine go_iconst (pc := 57) (v := 0) dX3_copyFrom_57 (by decide) ?_
  refine go_sipush (pc := 58) (v := 500) dX3_copyFrom_58 (by decide) ?_
  obtain ⟨b12, h⟩ := h
  refine gb_copy (pc := 61) (F := wX G o) rfl aX3_47 (gz_b (by decide)) xw50 (gz_b (by decide)) xw8 b12 (Nat.le_of_ble_eq_true rfl) (Nat.le_of_ble_eq_true rfl) xa8 dX3_copyFrom_61 (fun c13 ec13 => ?_)
  have h := h c13 ec13
  refine go_aload_n (pc := 64) dX3_copyFrom_64 rfl rfl ?_
  refine go_get (pc := 65) fX3_18 rfl (gz_b (by decide)) xw48 rfl dX3_copyFrom_65 ?_
  refine go_iconst (pc := 68) (v := 0) dX3_copyFrom_68 (by decide) ?_
  refine go_aload_n (pc := 69) dX3_copyFrom_69 rfl rfl ?_
  refine go_get (pc := 70) fX3_18 rfl (gz_b (by decide)) xw6 rfl dX3_copyFrom_70 ?_
  refine go_iconst (pc := 73) (v := 0) dX3_copyFrom_73 (by decide) ?_
  refine go_sipush (pc := 74) (v := 500) dX3_copyFrom_74 (by decide) ?_
  obtain ⟨b14, h⟩ := h
  refine gb_copy (pc := 77) (F := wX G o) rfl aX3_47 (gz_b (by decide)) xw51 (gz_b (by decide)) xw9 b14 (Nat.le_of_ble_eq_true rfl) (Nat.le_of_ble_eq_true rfl) xa9 dX3_copyFrom_77 (fun c15 ec15 => ?_)
  have h := h c15 ec15
  refine go_aload_n (pc := 80) dX3_copyFrom_80 rfl rfl ?_
  refine go_get (pc := 81) fX3_21 rfl (gz_b (by decide)) xw48 rfl dX3_copyFrom_81 ?_
  refine go_iconst (pc := 84) (v := 0) dX3_copyFrom_84 (by decide) ?_
  refine go_aload_n (pc := 85) dX3_copyFrom_85 rfl rfl ?_
  refine go_get (pc := 86) fX3_21 rfl (gz_b (by decide)) xw6 rfl dX3_copyFrom_86 ?_
  refine go_iconst (pc := 89) (v := 0) dX3_copyFrom_89 (by decide) ?_
  refine go_sipush (pc := 90) (v := 500) dX3_copyFrom_90 (by decide) ?_
  obtain ⟨b16, h⟩ := h
  refine gb_copy (pc := 93) (F := wX G o) rfl aX3_47 (gz_b (by decide)) xw52 (gz_b (by decide)) xw10 b16 (Nat.le_of_ble_eq_true rfl) (Nat.le_of_ble_eq_true rfl) xa10 dX3_copyFrom_93 (fun c17 ec17 => ?_)
  have h := h c17 ec17
  refine go_aload_n (pc := 96) dX3_copyFrom_96 rfl rfl ?_
  refine go_get (pc := 97) fX3_24 rfl (gz_b (by decide)) xw48 rfl dX3_copyFrom_97 ?_
  refine go_iconst (pc := 100) (v := 0) dX3_copyFrom_100 (by decide) ?_
  refine go_aload_n (pc := 101) dX3_copyFrom_101 rfl rfl ?_
  refine go_get (pc := 102) fX3_24 rfl (gz_b (by decide)) xw6 rfl dX3_copyFrom_102 ?_
  refine go_iconst (pc := 105) (v := 0) dX3_copyFrom_105 (by decide) ?_
  refine go_sipush (pc := 106) (v := 500) dX3_copyFrom_106 (by decide) ?_
  obtain ⟨b18, h⟩ := h
  refine gb_copy (pc := 109) (F := wX G o) rfl aX3_47 (gz_b (by decide)) xw53 (gz_b (by decide)) xw11 b18 (Nat.le_of_ble_eq_true rfl) (Nat.le_of_ble_eq_true rfl) xa11 dX3_copyFrom_109 (fun c19 ec19 => ?_)
  have h := h c19 ec19
  exact gq_vret (pc := 112) (F := wX G o) rfl dX3_copyFrom_112 h
def wX8_copyFrom_12_54 (c : gMem) (Q : gMem → Prop) : Prop :=
  ∀ v1, v1 = c 54 0 →
  ∀ c2, c2 = mp c 12 0 v1 →
  ∀ v3, v3 = c2 54 1 →
  ∀ c4, c4 = mp c2 12 1 v3 →
  ∀ v5, v5 = c4 54 2 →
  ∀ c6, c6 = mp c4 12 2 v5 →
  ∀ v7, v7 = c6 54 3 →
  ∀ c8, c8 = mp c6 12 3 v7 →
  ∀ v9, v9 = c8 54 4 →
  ∀ c10, c10 = mp c8 12 4 v9 →
  ∀ v11, v11 = c10 54 5 →
  ∀ c12, c12 = mp c10 12 5 v11 →
  (¬ (0 : Int32) < 0 ∧ ¬ (0 : Int32) < 0 ∧ ¬ (300 : Int32) < 0 ∧ 0 + 300 ≤ 300 ∧ 0 + 300 ≤ 300) ∧
  ∀ c14, c14 = mr c12 13 (va_cpy (c12 55) (c12 13) 0 0 300) →
  Q c14
set_option maxRecDepth 100000 in
set_option maxHeartbeats 4000000 in
theorem tX8_copyFrom_12_54 {l : Launch} {G : gG} {k : Nat} {o : gMem} {Q : gMem → Prop} {c : gMem} (h : wX8_copyFrom_12_54 c Q) : Cq l G mX8_copyFrom 1 26 [.ref (G.2.1 + 12), .ref (G.2.1 + 54)] 84 k (wX G o c) (qv (wX G o) Q) := by
  refine Cq.of (by decide) (Nat.le_of_ble_eq_true rfl) ?_
  show Go l G mX8_copyFrom (gbq G 1 26 84 k (qv (wX G o) Q)) 0 [(0, .ref (G.2.1 + 12)), (1, .ref (G.2.1 + 54))] [] 84 k (wX G o c)
  unfold wX8_copyFrom_12_54 at h
  refine go_aload_n (pc := 0) dX8_copyFrom_0 rfl rfl ?_
  refine go_aload_n (pc := 1) dX8_copyFrom_1 rfl rfl ?_
  refine gb_get (pc := 2) fX8_15 rfl (gz_b (by decide)) xw54 rfl dX8_copyFrom_2 (fun v1 ev1 => ?_)
  have h := h v1 ev1
  refine gb_put (pc := 5) (F := wX G o) fX8_15 rfl (gz_b (by decide)) xw12 (Nat.le_of_ble_eq_true rfl) rfl rfl xp12_0 dX8_copyFrom_5 (fun c2 ec2 => ?_)
  have h := h c2 ec2
  refine go_aload_n (pc := 8) dX8_copyFrom_8 rfl rfl ?_
  refine go_aload_n (pc := 9) dX8_copyFrom_9 rfl rfl ?_
  refine gb_get (pc := 10) fX8_19 rfl (gz_b (by decide)) xw54 rfl dX8_copyFrom_10 (fun v3 ev3 => ?_)
  have h := h v3 ev3
  refine gb_put (pc := 13) (F := wX G o) fX8_19 rfl (gz_b (by decide)) xw12 (Nat.le_of_ble_eq_true rfl) rfl rfl xp12_1 dX8_copyFrom_13 (fun c4 ec4 => ?_)
  have h := h c4 ec4
  refine go_aload_n (pc := 16) dX8_copyFrom_16 rfl rfl ?_
  refine go_aload_n (pc := 17) dX8_copyFrom_17 rfl rfl ?_
  refine gb_get (pc := 18) fX8_22 rfl (gz_b (by decide)) xw54 rfl dX8_copyFrom_18 (fun v5 ev5 => ?_)
  have h := h v5 ev5
  refine gb_put (pc := 21) (F := wX G o) fX8_22 rfl (gz_b (by decide)) xw12 (Nat.le_of_ble_eq_true rfl) rfl rfl xp12_2 dX8_copyFrom_21 (fun c6 ec6 => ?_)
  have h := h c6 ec6
  refine go_aload_n (pc := 24) dX8_copyFrom_24 rfl rfl ?_
  refine go_aload_n (pc := 25) dX8_copyFrom_25 rfl rfl ?_
  refine gb_get (pc := 26) fX8_25 rfl (gz_b (by decide)) xw54 rfl dX8_copyFrom_26 (fun v7 ev7 => ?_)
  have h := h v7 ev7
  refine gb_put (pc := 29) (F := wX G o) fX8_25 rfl (gz_b (by decide)) xw12 (Nat.le_of_ble_eq_true rfl) rfl rfl xp12_3 dX8_copyFrom_29 (fun c8 ec8 => ?_)
  have h := h c8 ec8
  refine go_aload_n (pc := 32) dX8_copyFrom_32 rfl rfl ?_
  refine go_aload_n (pc := 33) dX8_copyFrom_33 rfl rfl ?_
  refine gb_get (pc := 34) fX8_28 rfl (gz_b (by decide)) xw54 rfl dX8_copyFrom_34 (fun v9 ev9 => ?_)
  have h := h v9 ev9
  refine gb_put (pc := 37) (F := wX G o) fX8_28 rfl (gz_b (by decide)) xw12 (Nat.le_of_ble_eq_true rfl) rfl rfl xp12_4 dX8_copyFrom_37 (fun c10 ec10 => ?_)
  have h := h c10 ec10
  refine go_aload_n (pc := 40) dX8_copyFrom_40 rfl rfl ?_
  refine go_aload_n (pc := 41) dX8_copyFrom_41 rfl rfl ?_
  refine gb_get (pc := 42) fX8_31 rfl (gz_b (by decide)) xw54 rfl dX8_copyFrom_42 (fun v11 ev11 => ?_)
  have h := h v11 ev11
  refine gb_put (pc := 45) (F := wX G o) fX8_31 rfl (gz_b (by decide)) xw12 (Nat.le_of_ble_eq_true rfl) rfl rfl xp12_5 dX8_copyFrom_45 (fun c12 ec12 => ?_)
  have h := h c12 ec12
  refine go_aload_n (pc := 48) dX8_copyFrom_48 rfl rfl ?_
  refine go_get (pc := 49) fX8_9 rfl (gz_b (by decide)) xw54 rfl dX8_copyFrom_49 ?_
  refine go_iconst (pc := 52) (v := 0) dX8_copyFrom_52 (by decide) ?_
  refine go_aload_n (pc := 53) dX8_copyFrom_53 rfl rfl ?_
  refine go_get (pc := 54) fX8_9 rfl (gz_b (by decide)) xw12 rfl dX8_copyFrom_54 ?_
  refine go_iconst (pc := 57) (v := 0) dX8_copyFrom_57 (by decide) ?_
  refine go_aload_n (pc := 58) dX8_copyFrom_58 rfl rfl ?_
  refine go_get (pc := 59) fX8_9 rfl (gz_b (by decide)) xw12 rfl dX8_copyFrom_59 ?_
  refine go_alen (pc := 62) (gz_b (by decide)) xw13 dX8_copyFrom_62 ?_
  refine go_top (y := 300) (by decide) ?_
  obtain ⟨b13, h⟩ := h
  refine gb_copy (pc := 63) (F := wX G o) rfl aX8_34 (gz_b (by decide)) xw55 (gz_b (by decide)) xw13 b13 (Nat.le_of_ble_eq_true rfl) (Nat.le_of_ble_eq_true rfl) xa13 dX8_copyFrom_63 (fun c14 ec14 => ?_)
  have h := h c14 ec14
  exact gq_vret (pc := 66) (F := wX G o) rfl dX8_copyFrom_66 h
def wX4_copyFrom_14_56 (c : gMem) (Q : gMem → Prop) : Prop :=
  ∀ v1, v1 = c 56 0 →
  ∀ c2, c2 = mp c 14 0 v1 →
  ∀ v3, v3 = c2 14 0 →
  (¬ (0 : Int32) < 0 ∧ ¬ (0 : Int32) < 0 ∧ ¬ v3 < 0 ∧ 0 + v3.toNatClampNeg ≤ 6527 ∧ 0 + v3.toNatClampNeg ≤ 6527) ∧
  ∀ c5, c5 = mr c2 15 (va_cpy (c2 57) (c2 15) 0 0 v3.toNatClampNeg) →
  ∀ v6, v6 = c5 14 0 →
  (¬ (0 : Int32) < 0 ∧ ¬ (0 : Int32) < 0 ∧ ¬ v6 < 0 ∧ 0 + v6.toNatClampNeg ≤ 6527 ∧ 0 + v6.toNatClampNeg ≤ 6527) ∧
  ∀ c8, c8 = mr c5 16 (va_cpy (c5 58) (c5 16) 0 0 v6.toNatClampNeg) →
  Q c8
set_option maxRecDepth 100000 in
set_option maxHeartbeats 4000000 in
theorem tX4_copyFrom_14_56 {l : Launch} {G : gG} {k : Nat} {o : gMem} {Q : gMem → Prop} {c : gMem} (h : wX4_copyFrom_14_56 c Q) : Cq l G mX4_copyFrom 1 26 [.ref (G.2.1 + 14), .ref (G.2.1 + 56)] 84 k (wX G o c) (qv (wX G o) Q) := by
  refine Cq.of (by decide) (Nat.le_of_ble_eq_true rfl) ?_
  show Go l G mX4_copyFrom (gbq G 1 26 84 k (qv (wX G o) Q)) 0 [(0, .ref (G.2.1 + 14)), (1, .ref (G.2.1 + 56))] [] 84 k (wX G o c)
  unfold wX4_copyFrom_14_56 at h
  refine go_aload_n (pc := 0) dX4_copyFrom_0 rfl rfl ?_
  refine go_aload_n (pc := 1) dX4_copyFrom_1 rfl rfl ?_
  refine gb_get (pc := 2) fX4_18 rfl (gz_b (by decide)) xw56 rfl dX4_copyFrom_2 (fun v1 ev1 => ?_)
  have h := h v1 ev1
  refine gb_put (pc := 5) (F := wX G o) fX4_18 rfl (gz_b (by decide)) xw14 (Nat.le_of_ble_eq_true rfl) rfl rfl xp14_0 dX4_copyFrom_5 (fun c2 ec2 => ?_)
  have h := h c2 ec2
  refine go_aload_n (pc := 8) dX4_copyFrom_8 rfl rfl ?_
  refine go_get (pc := 9) fX4_9 rfl (gz_b (by decide)) xw56 rfl dX4_copyFrom_9 ?_
  refine go_iconst (pc := 12) (v := 0) dX4_copyFrom_12 (by decide) ?_
  refine go_aload_n (pc := 13) dX4_copyFrom_13 rfl rfl ?_
  refine go_get (pc := 14) fX4_9 rfl (gz_b (by decide)) xw14 rfl dX4_copyFrom_14 ?_
  refine go_iconst (pc := 17) (v := 0) dX4_copyFrom_17 (by decide) ?_
  refine go_aload_n (pc := 18) dX4_copyFrom_18 rfl rfl ?_
  refine gb_get (pc := 19) fX4_18 rfl (gz_b (by decide)) xw14 rfl dX4_copyFrom_19 (fun v3 ev3 => ?_)
  have h := h v3 ev3
  obtain ⟨b4, h⟩ := h
  refine gb_copy (pc := 22) (F := wX G o) rfl aX4_22 (gz_b (by decide)) xw57 (gz_b (by decide)) xw15 b4 (Nat.le_of_ble_eq_true rfl) (Nat.le_of_ble_eq_true rfl) xa15 dX4_copyFrom_22 (fun c5 ec5 => ?_)
  have h := h c5 ec5
  refine go_aload_n (pc := 25) dX4_copyFrom_25 rfl rfl ?_
  refine go_get (pc := 26) fX4_15 rfl (gz_b (by decide)) xw56 rfl dX4_copyFrom_26 ?_
  refine go_iconst (pc := 29) (v := 0) dX4_copyFrom_29 (by decide) ?_
  refine go_aload_n (pc := 30) dX4_copyFrom_30 rfl rfl ?_
  refine go_get (pc := 31) fX4_15 rfl (gz_b (by decide)) xw14 rfl dX4_copyFrom_31 ?_
  refine go_iconst (pc := 34) (v := 0) dX4_copyFrom_34 (by decide) ?_
  refine go_aload_n (pc := 35) dX4_copyFrom_35 rfl rfl ?_
  refine gb_get (pc := 36) fX4_18 rfl (gz_b (by decide)) xw14 rfl dX4_copyFrom_36 (fun v6 ev6 => ?_)
  have h := h v6 ev6
  obtain ⟨b7, h⟩ := h
  refine gb_copy (pc := 39) (F := wX G o) rfl aX4_22 (gz_b (by decide)) xw58 (gz_b (by decide)) xw16 b7 (Nat.le_of_ble_eq_true rfl) (Nat.le_of_ble_eq_true rfl) xa16 dX4_copyFrom_39 (fun c8 ec8 => ?_)
  have h := h c8 ec8
  exact gq_vret (pc := 42) (F := wX G o) rfl dX4_copyFrom_42 h
def wX5_copyFrom_17_59 (c : gMem) (Q : gMem → Prop) : Prop :=
  ∀ v1, v1 = c 59 0 →
  ∀ c2, c2 = mp c 17 0 v1 →
  ∀ v3, v3 = c2 59 1 →
  ∀ c4, c4 = mp c2 17 1 v3 →
  ∀ v5, v5 = c4 59 2 →
  ∀ c6, c6 = mp c4 17 2 v5 →
  ∀ v7, v7 = c6 59 3 →
  ∀ c8, c8 = mp c6 17 3 v7 →
  (¬ (0 : Int32) < 0 ∧ ¬ (0 : Int32) < 0 ∧ ¬ (200 : Int32) < 0 ∧ 0 + 200 ≤ 200 ∧ 0 + 200 ≤ 200) ∧
  ∀ c10, c10 = mr c8 18 (va_cpy (c8 60) (c8 18) 0 0 200) →
  (¬ (0 : Int32) < 0 ∧ ¬ (0 : Int32) < 0 ∧ ¬ (8 : Int32) < 0 ∧ 0 + 8 ≤ 8 ∧ 0 + 8 ≤ 8) ∧
  ∀ c12, c12 = mr c10 19 (va_cpy (c10 61) (c10 19) 0 0 8) →
  Q c12
set_option maxRecDepth 100000 in
set_option maxHeartbeats 4000000 in
theorem tX5_copyFrom_17_59 {l : Launch} {G : gG} {k : Nat} {o : gMem} {Q : gMem → Prop} {c : gMem} (h : wX5_copyFrom_17_59 c Q) : Cq l G mX5_copyFrom 1 26 [.ref (G.2.1 + 17), .ref (G.2.1 + 59)] 84 k (wX G o c) (qv (wX G o) Q) := by
  refine Cq.of (by decide) (Nat.le_of_ble_eq_true rfl) ?_
  show Go l G mX5_copyFrom (gbq G 1 26 84 k (qv (wX G o) Q)) 0 [(0, .ref (G.2.1 + 17)), (1, .ref (G.2.1 + 59))] [] 84 k (wX G o c)
  unfold wX5_copyFrom_17_59 at h
  refine go_aload_n (pc := 0) dX5_copyFrom_0 rfl rfl ?_
  refine go_aload_n (pc := 1) dX5_copyFrom_1 rfl rfl ?_
  refine gb_get (pc := 2) fX5_18 rfl (gz_b (by decide)) xw59 rfl dX5_copyFrom_2 (fun v1 ev1 => ?_)
  have h := h v1 ev1
  refine gb_put (pc := 5) (F := wX G o) fX5_18 rfl (gz_b (by decide)) xw17 (Nat.le_of_ble_eq_true rfl) rfl rfl xp17_0 dX5_copyFrom_5 (fun c2 ec2 => ?_)
  have h := h c2 ec2
  refine go_aload_n (pc := 8) dX5_copyFrom_8 rfl rfl ?_
  refine go_aload_n (pc := 9) dX5_copyFrom_9 rfl rfl ?_
  refine gb_get (pc := 10) fX5_22 rfl (gz_b (by decide)) xw59 rfl dX5_copyFrom_10 (fun v3 ev3 => ?_)
  have h := h v3 ev3
  refine gb_put (pc := 13) (F := wX G o) fX5_22 rfl (gz_b (by decide)) xw17 (Nat.le_of_ble_eq_true rfl) rfl rfl xp17_1 dX5_copyFrom_13 (fun c4 ec4 => ?_)
  have h := h c4 ec4
  refine go_aload_n (pc := 16) dX5_copyFrom_16 rfl rfl ?_
  refine go_aload_n (pc := 17) dX5_copyFrom_17 rfl rfl ?_
  refine gb_get (pc := 18) fX5_25 rfl (gz_b (by decide)) xw59 rfl dX5_copyFrom_18 (fun v5 ev5 => ?_)
  have h := h v5 ev5
  refine gb_put (pc := 21) (F := wX G o) fX5_25 rfl (gz_b (by decide)) xw17 (Nat.le_of_ble_eq_true rfl) rfl rfl xp17_2 dX5_copyFrom_21 (fun c6 ec6 => ?_)
  have h := h c6 ec6
  refine go_aload_n (pc := 24) dX5_copyFrom_24 rfl rfl ?_
  refine go_aload_n (pc := 25) dX5_copyFrom_25 rfl rfl ?_
  refine gb_get (pc := 26) fX5_28 rfl (gz_b (by decide)) xw59 rfl dX5_copyFrom_26 (fun v7 ev7 => ?_)
  have h := h v7 ev7
  refine gb_put (pc := 29) (F := wX G o) fX5_28 rfl (gz_b (by decide)) xw17 (Nat.le_of_ble_eq_true rfl) rfl rfl xp17_3 dX5_copyFrom_29 (fun c8 ec8 => ?_)
  have h := h c8 ec8
  refine go_aload_n (pc := 32) dX5_copyFrom_32 rfl rfl ?_
  refine go_get (pc := 33) fX5_9 rfl (gz_b (by decide)) xw59 rfl dX5_copyFrom_33 ?_
  refine go_iconst (pc := 36) (v := 0) dX5_copyFrom_36 (by decide) ?_
  refine go_aload_n (pc := 37) dX5_copyFrom_37 rfl rfl ?_
  refine go_get (pc := 38) fX5_9 rfl (gz_b (by decide)) xw17 rfl dX5_copyFrom_38 ?_
  refine go_iconst (pc := 41) (v := 0) dX5_copyFrom_41 (by decide) ?_
  refine go_aload_n (pc := 42) dX5_copyFrom_42 rfl rfl ?_
  refine go_get (pc := 43) fX5_9 rfl (gz_b (by decide)) xw17 rfl dX5_copyFrom_43 ?_
  refine go_alen (pc := 46) (gz_b (by decide)) xw18 dX5_copyFrom_46 ?_
  refine go_top (y := 200) (by decide) ?_
  obtain ⟨b9, h⟩ := h
  refine gb_copy (pc := 47) (F := wX G o) rfl aX5_37 (gz_b (by decide)) xw60 (gz_b (by decide)) xw18 b9 (Nat.le_of_ble_eq_true rfl) (Nat.le_of_ble_eq_true rfl) xa18 dX5_copyFrom_47 (fun c10 ec10 => ?_)
  have h := h c10 ec10
  refine go_aload_n (pc := 50) dX5_copyFrom_50 rfl rfl ?_
  refine go_get (pc := 51) fX5_15 rfl (gz_b (by decide)) xw59 rfl dX5_copyFrom_51 ?_
  refine go_iconst (pc := 54) (v := 0) dX5_copyFrom_54 (by decide) ?_
  refine go_aload_n (pc := 55) dX5_copyFrom_55 rfl rfl ?_
  refine go_get (pc := 56) fX5_15 rfl (gz_b (by decide)) xw17 rfl dX5_copyFrom_56 ?_
  refine go_iconst (pc := 59) (v := 0) dX5_copyFrom_59 (by decide) ?_
  refine go_bipush (pc := 60) (v := 8) dX5_copyFrom_60 (by decide) ?_
  obtain ⟨b11, h⟩ := h
  refine gb_copy (pc := 62) (F := wX G o) rfl aX5_37 (gz_b (by decide)) xw61 (gz_b (by decide)) xw19 b11 (Nat.le_of_ble_eq_true rfl) (Nat.le_of_ble_eq_true rfl) xa19 dX5_copyFrom_62 (fun c12 ec12 => ?_)
  have h := h c12 ec12
  exact gq_vret (pc := 65) (F := wX G o) rfl dX5_copyFrom_65 h
def wX6_become_1_43 (c : gMem) (Q : gMem → Prop) : Prop :=
  wX2_copyFrom_2_44 c (fun c1 =>
  wX3_copyFrom_6_48 c1 (fun c2 =>
  wX8_copyFrom_12_54 c2 (fun c3 =>
  wX4_copyFrom_14_56 c3 (fun c4 =>
  wX5_copyFrom_17_59 c4 (fun c5 =>
  (¬ (0 : Int32) < 0 ∧ ¬ (0 : Int32) < 0 ∧ ¬ (24 : Int32) < 0 ∧ 0 + 24 ≤ 24 ∧ 0 + 24 ≤ 24) ∧
  ∀ c7, c7 = mr c5 20 (va_cpy (c5 62) (c5 20) 0 0 24) →
  (¬ (0 : Int32) < 0 ∧ ¬ (0 : Int32) < 0 ∧ ¬ (32 : Int32) < 0 ∧ 0 + 32 ≤ 32 ∧ 0 + 32 ≤ 32) ∧
  ∀ c9, c9 = mr c7 21 (va_cpy (c7 63) (c7 21) 0 0 32) →
  Q c9)))))
set_option maxRecDepth 100000 in
set_option maxHeartbeats 4000000 in
theorem tX6_become_1_43 {l : Launch} {G : gG} {k : Nat} {o : gMem} {Q : gMem → Prop} {c : gMem} (h : wX6_become_1_43 c Q) : Cq l G mX6_become 3 67 [.ref (G.2.1 + 1), .ref (G.2.1 + 43)] 84 k (wX G o c) (qv (wX G o) Q) := by
  refine Cq.of (by decide) (Nat.le_of_ble_eq_true rfl) ?_
  show Go l G mX6_become (gbq G 3 67 84 k (qv (wX G o) Q)) 0 [(0, .ref (G.2.1 + 1)), (1, .ref (G.2.1 + 43))] [] 84 k (wX G o c)
  unfold wX6_become_1_43 at h
  refine go_aload_n (pc := 0) dX6_become_0 rfl rfl ?_
  refine go_get (pc := 1) fX6_12 rfl (gz_b (by decide)) xw1 rfl dX6_become_1 ?_
  refine go_aload_n (pc := 4) dX6_become_4 rfl rfl ?_
  refine go_get (pc := 5) fX6_12 rfl (gz_b (by decide)) xw43 rfl dX6_become_5 ?_
  refine gq_callV_v (pc := 8) (F := wX G o) vX6_76 rfl (tX2_copyFrom_2_44 h) rfl rfl (gz_b (by decide)) xw2 rfl (Nat.le_of_ble_eq_true rfl) ⟨Nat.le_of_ble_eq_true rfl, Nat.le_of_ble_eq_true rfl, Nat.le_add_right _ _, Nat.le_add_right _ _⟩ dX6_become_8 (fun c1 h => ?_)
  refine go_aload_n (pc := 11) dX6_become_11 rfl rfl ?_
  refine go_get (pc := 12) fX6_21 rfl (gz_b (by decide)) xw1 rfl dX6_become_12 ?_
  refine go_aload_n (pc := 15) dX6_become_15 rfl rfl ?_
  refine go_get (pc := 16) fX6_21 rfl (gz_b (by decide)) xw43 rfl dX6_become_16 ?_
  refine gq_callV_v (pc := 19) (F := wX G o) vX6_80 rfl (tX3_copyFrom_6_48 h) rfl rfl (gz_b (by decide)) xw6 rfl (Nat.le_of_ble_eq_true rfl) ⟨Nat.le_of_ble_eq_true rfl, Nat.le_of_ble_eq_true rfl, Nat.le_add_right _ _, Nat.le_add_right _ _⟩ dX6_become_19 (fun c2 h => ?_)
  refine go_aload_n (pc := 22) dX6_become_22 rfl rfl ?_
  refine go_get (pc := 23) fX6_28 rfl (gz_b (by decide)) xw1 rfl dX6_become_23 ?_
  refine go_aload_n (pc := 26) dX6_become_26 rfl rfl ?_
  refine go_get (pc := 27) fX6_28 rfl (gz_b (by decide)) xw43 rfl dX6_become_27 ?_
  refine gq_callV_v (pc := 30) (F := wX G o) vX6_83 rfl (tX8_copyFrom_12_54 h) rfl rfl (gz_b (by decide)) xw12 rfl (Nat.le_of_ble_eq_true rfl) ⟨Nat.le_of_ble_eq_true rfl, Nat.le_of_ble_eq_true rfl, Nat.le_add_right _ _, Nat.le_add_right _ _⟩ dX6_become_30 (fun c3 h => ?_)
  refine go_aload_n (pc := 33) dX6_become_33 rfl rfl ?_
  refine go_get (pc := 34) fX6_35 rfl (gz_b (by decide)) xw1 rfl dX6_become_34 ?_
  refine go_aload_n (pc := 37) dX6_become_37 rfl rfl ?_
  refine go_get (pc := 38) fX6_35 rfl (gz_b (by decide)) xw43 rfl dX6_become_38 ?_
  refine gq_callV_v (pc := 41) (F := wX G o) vX6_86 rfl (tX4_copyFrom_14_56 h) rfl rfl (gz_b (by decide)) xw14 rfl (Nat.le_of_ble_eq_true rfl) ⟨Nat.le_of_ble_eq_true rfl, Nat.le_of_ble_eq_true rfl, Nat.le_add_right _ _, Nat.le_add_right _ _⟩ dX6_become_41 (fun c4 h => ?_)
  refine go_aload_n (pc := 44) dX6_become_44 rfl rfl ?_
  refine go_get (pc := 45) fX6_42 rfl (gz_b (by decide)) xw1 rfl dX6_become_45 ?_
  refine go_aload_n (pc := 48) dX6_become_48 rfl rfl ?_
  refine go_get (pc := 49) fX6_42 rfl (gz_b (by decide)) xw43 rfl dX6_become_49 ?_
  refine gq_callV_v (pc := 52) (F := wX G o) vX6_89 rfl (tX5_copyFrom_17_59 h) rfl rfl (gz_b (by decide)) xw17 rfl (Nat.le_of_ble_eq_true rfl) ⟨Nat.le_of_ble_eq_true rfl, Nat.le_of_ble_eq_true rfl, Nat.le_add_right _ _, Nat.le_add_right _ _⟩ dX6_become_52 (fun c5 h => ?_)
  refine go_aload_n (pc := 55) dX6_become_55 rfl rfl ?_
  refine go_get (pc := 56) fX6_46 rfl (gz_b (by decide)) xw43 rfl dX6_become_56 ?_
  refine go_iconst (pc := 59) (v := 0) dX6_become_59 (by decide) ?_
  refine go_aload_n (pc := 60) dX6_become_60 rfl rfl ?_
  refine go_get (pc := 61) fX6_46 rfl (gz_b (by decide)) xw1 rfl dX6_become_61 ?_
  refine go_iconst (pc := 64) (v := 0) dX6_become_64 (by decide) ?_
  refine go_bipush (pc := 65) (v := 24) dX6_become_65 (by decide) ?_
  obtain ⟨b6, h⟩ := h
  refine gb_copy (pc := 67) (F := wX G o) rfl aX6_92 (gz_b (by decide)) xw62 (gz_b (by decide)) xw20 b6 (Nat.le_of_ble_eq_true rfl) (Nat.le_of_ble_eq_true rfl) xa20 dX6_become_67 (fun c7 ec7 => ?_)
  have h := h c7 ec7
  refine go_aload_n (pc := 70) dX6_become_70 rfl rfl ?_
  refine go_get (pc := 71) fX6_50 rfl (gz_b (by decide)) xw43 rfl dX6_become_71 ?_
  refine go_iconst (pc := 74) (v := 0) dX6_become_74 (by decide) ?_
  refine go_aload_n (pc := 75) dX6_become_75 rfl rfl ?_
  refine go_get (pc := 76) fX6_50 rfl (gz_b (by decide)) xw1 rfl dX6_become_76 ?_
  refine go_iconst (pc := 79) (v := 0) dX6_become_79 (by decide) ?_
  refine go_aload_n (pc := 80) dX6_become_80 rfl rfl ?_
  refine go_get (pc := 81) fX6_50 rfl (gz_b (by decide)) xw1 rfl dX6_become_81 ?_
  refine go_alen (pc := 84) (gz_b (by decide)) xw21 dX6_become_84 ?_
  refine go_top (y := 32) (by decide) ?_
  obtain ⟨b8, h⟩ := h
  refine gb_copy (pc := 85) (F := wX G o) rfl aX6_92 (gz_b (by decide)) xw63 (gz_b (by decide)) xw21 b8 (Nat.le_of_ble_eq_true rfl) (Nat.le_of_ble_eq_true rfl) xa21 dX6_become_85 (fun c9 ec9 => ?_)
  have h := h c9 ec9
  exact gq_vret (pc := 88) (F := wX G o) rfl dX6_become_88 h
def wX9_undoStep (c : gMem) (Q : Int32 → gMem → Prop) : Prop :=
  ∀ v1, v1 = c 0 10 →
  ((v1 = 0 →
    Q ((-104)) c) ∧
   (¬ v1 = 0 →
    wX6_become_1_43 c (fun c3 =>
    ∀ c4, c4 = mp c3 0 10 0 →
    Q 1 c4)))
set_option maxRecDepth 100000 in
set_option maxHeartbeats 4000000 in
theorem tX9_undoStep {l : Launch} {G : gG} {k : Nat} {o : gMem} {Q : Int32 → gMem → Prop} {c : gMem} (h : wX9_undoStep c Q) : Cq l G mX9_undoStep 4 88 [.ref (G.2.1 + 0)] 84 k (wX G o c) (qi (wX G o) Q) := by
  refine Cq.of (by decide) (Nat.le_of_ble_eq_true rfl) ?_
  show Go l G mX9_undoStep (gbq G 4 88 84 k (qi (wX G o) Q)) 0 [(0, .ref (G.2.1 + 0))] [] 84 k (wX G o c)
  unfold wX9_undoStep at h
  refine go_aload_n (pc := 0) dX9_undoStep_0 rfl rfl ?_
  refine gb_get (pc := 1) fX9_69 rfl (gz_b (by decide)) xw0 rfl dX9_undoStep_1 (fun v1 ev1 => ?_)
  have h := h v1 ev1
  refine go_if_ne (pc := 4) (tgt := 10) dX9_undoStep_4 (by decide) (fun q2 => ?_) (fun q2 => ?_)
  · have h := h.2 q2
    refine go_aload_n (pc := 10) dX9_undoStep_10 rfl rfl ?_
    refine go_get (pc := 11) fX9_12 rfl (gz_b (by decide)) xw0 rfl dX9_undoStep_11 ?_
    refine go_aload_n (pc := 14) dX9_undoStep_14 rfl rfl ?_
    refine go_get (pc := 15) fX9_19 rfl (gz_b (by decide)) xw0 rfl dX9_undoStep_15 ?_
    refine gq_callV_v (pc := 18) (F := wX G o) vX9_318 rfl (tX6_become_1_43 h) rfl rfl (gz_b (by decide)) xw1 rfl (Nat.le_of_ble_eq_true rfl) ⟨Nat.le_of_ble_eq_true rfl, Nat.le_of_ble_eq_true rfl, Nat.le_add_right _ _, Nat.le_add_right _ _⟩ dX9_undoStep_18 (fun c3 h => ?_)
    refine go_aload_n (pc := 21) dX9_undoStep_21 rfl rfl ?_
    refine go_iconst (pc := 22) (v := 0) dX9_undoStep_22 (by decide) ?_
    refine gb_put (pc := 23) (F := wX G o) fX9_69 rfl (gz_b (by decide)) xw0 (Nat.le_of_ble_eq_true rfl) rfl rfl xp0_10 dX9_undoStep_23 (fun c4 ec4 => ?_)
    have h := h c4 ec4
    refine go_iconst (pc := 26) (v := 1) dX9_undoStep_26 (by decide) ?_
    exact gq_iret (pc := 27) (F := wX G o) rfl dX9_undoStep_27 h
  · have h := h.1 q2
    refine go_bipush (pc := 7) (v := (-104)) dX9_undoStep_7 (by decide) ?_
    exact gq_iret (pc := 9) (F := wX G o) rfl dX9_undoStep_9 h
def wX9_finding (c : gMem) (Q : Int32 → gMem → Prop) : Prop :=
  ∀ v1, v1 = c 0 5 →
  Q v1 c
set_option maxRecDepth 100000 in
set_option maxHeartbeats 4000000 in
theorem tX9_finding {l : Launch} {G : gG} {k : Nat} {o : gMem} {Q : Int32 → gMem → Prop} {c : gMem} (h : wX9_finding c Q) : Cq l G mX9_finding 0 0 [.ref (G.2.1 + 0)] 84 k (wX G o c) (qi (wX G o) Q) := by
  refine Cq.of (by decide) (Nat.le_of_ble_eq_true rfl) ?_
  show Go l G mX9_finding (gbq G 0 0 84 k (qi (wX G o) Q)) 0 [(0, .ref (G.2.1 + 0))] [] 84 k (wX G o c)
  unfold wX9_finding at h
  refine go_aload_n (pc := 0) dX9_finding_0 rfl rfl ?_
  refine gb_get (pc := 1) fX9_59 rfl (gz_b (by decide)) xw0 rfl dX9_finding_1 (fun v1 ev1 => ?_)
  have h := h v1 ev1
  exact gq_iret (pc := 4) (F := wX G o) rfl dX9_finding_4 h
def wX9_trace_p10 (c : gMem) (Q : Int32 → gMem → Prop) : Prop :=
  Q ((-101)) c
set_option maxRecDepth 100000 in
set_option maxHeartbeats 4000000 in
theorem tX9_trace_p10 {l : Launch} {G : gG} {k : Nat} {o : gMem} {Q : Int32 → gMem → Prop} {c : gMem} (h : wX9_trace_p10 c Q) : Go l G mX9_trace (gbq G 0 0 84 k (qi (wX G o) Q)) 10 [] [] 84 k (wX G o c) := by
  unfold wX9_trace_p10 at h
  refine go_bipush (pc := 10) (v := (-101)) dX9_trace_10 (by decide) ?_
  refine go_goto (pc := 12) (tgt := 21) dX9_trace_12 (by decide) ?_
  exact gq_iret (pc := 21) (F := wX G o) rfl dX9_trace_21 h
def wX9_trace (l1 : Int32) (c : gMem) (Q : Int32 → gMem → Prop) : Prop :=
  ((l1 < 0 →
    wX9_trace_p10 c Q) ∧
   (¬ l1 < 0 →
    ((l1 < 14 →
      vp_in l1 14 ∧
      ∀ v3, v3 = c 64 l1.toNatClampNeg →
      Q v3 c) ∧
     (¬ l1 < 14 →
      wX9_trace_p10 c Q))))
set_option maxRecDepth 100000 in
set_option maxHeartbeats 4000000 in
theorem tX9_trace {l : Launch} {G : gG} {k : Nat} {o : gMem} {Q : Int32 → gMem → Prop} {l1 : Int32} {c : gMem} (h : wX9_trace l1 c Q) : Cq l G mX9_trace 0 0 [.ref (G.2.1 + 0), .int l1] 84 k (wX G o c) (qi (wX G o) Q) := by
  refine Cq.of (by decide) (Nat.le_of_ble_eq_true rfl) ?_
  show Go l G mX9_trace (gbq G 0 0 84 k (qi (wX G o) Q)) 0 [(0, .ref (G.2.1 + 0)), (1, .int l1)] [] 84 k (wX G o c)
  unfold wX9_trace at h
  refine go_iload_n (pc := 0) dX9_trace_0 rfl rfl ?_
  refine go_if_lt (pc := 1) (tgt := 10) dX9_trace_1 (by decide) (fun q1 => ?_) (fun q1 => ?_)
  · have h := h.1 q1
    refine go_lv [] rfl ?_
    exact tX9_trace_p10 h
  · have h := h.2 q1
    refine go_iload_n (pc := 4) dX9_trace_4 rfl rfl ?_
    refine go_bipush (pc := 5) (v := 14) dX9_trace_5 (by decide) ?_
    refine go_icmp_lt (pc := 7) (tgt := 15) dX9_trace_7 (by decide) (fun q2 => ?_) (fun q2 => ?_)
    · have h := h.1 q2
      refine go_aload_n (pc := 15) dX9_trace_15 rfl rfl ?_
      refine go_get (pc := 16) fX9_22 rfl (gz_b (by decide)) xw0 rfl dX9_trace_16 ?_
      refine go_iload_n (pc := 19) dX9_trace_19 rfl rfl ?_
      obtain ⟨b4, h⟩ := h
      refine gb_iald (pc := 20) (gz_b (by decide)) xw64 b4 dX9_trace_20 (fun v3 ev3 => ?_)
      have h := h v3 ev3
      exact gq_iret (pc := 21) (F := wX G o) rfl dX9_trace_21 h
    · have h := h.2 q2
      refine go_lv [] rfl ?_
      exact tX9_trace_p10 h

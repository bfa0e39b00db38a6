/-! what each method asks for to end in Q, and that it is enough: by wip/tools/wgen.py -/
def wX10_in (l0 : Int64) (l2 : Int64) (l4 : Int64) (c : gMem) (Q : Int32 → gMem → Prop) : Prop :=
  ((lg_cmp l0 l2 < 0 →
    Q 0 c) ∧
   (¬ lg_cmp l0 l2 < 0 →
    ((0 < lg_cmp l0 l4 →
      Q 0 c) ∧
     (¬ 0 < lg_cmp l0 l4 →
      Q 1 c))))
set_option maxRecDepth 100000 in
set_option maxHeartbeats 4000000 in
theorem tX10_in {l : Launch} {G : gG} {k : Nat} {o : gMem} {Q : Int32 → gMem → Prop} {l0 : Int64} {l2 : Int64} {l4 : Int64} {c : gMem} (h : wX10_in l0 l2 l4 c Q) : Cq l G mX10_in 0 0 [.long l0, .long l2, .long l4] 84 k (wM G o c) (qi (wM G o) Q) := by
  refine Cq.of (by decide) (Nat.le_of_ble_eq_true rfl) ?_
  show Go l G mX10_in (gbq G 0 0 84 k (qi (wM G o) Q)) 0 [(0, .long l0), (2, .long l2), (4, .long l4)] [] 84 k (wM G o c)
  unfold wX10_in at h
  refine go_lload_n (pc := 0) dX10_in_0 rfl rfl ?_
  refine go_lload_n (pc := 1) dX10_in_1 rfl rfl ?_
  refine go_lcmp (pc := 2) dX10_in_2 ?_
  refine go_if_lt (pc := 3) (tgt := 17) dX10_in_3 (by decide) (fun q1 => ?_) (fun q1 => ?_)
  · have h := h.1 q1
    refine go_iconst (pc := 17) (v := 0) dX10_in_17 (by decide) ?_
    exact gq_zret (pc := 18) (F := wM G o) rfl (by decide) dX10_in_18 h
  · have h := h.2 q1
    refine go_lload_n (pc := 6) dX10_in_6 rfl rfl ?_
    refine go_lload (pc := 7) dX10_in_7 rfl ?_
    refine go_lcmp (pc := 9) dX10_in_9 ?_
    refine go_if_gt (pc := 10) (tgt := 17) dX10_in_10 (by decide) (fun q2 => ?_) (fun q2 => ?_)
    · have h := h.1 q2
      refine go_iconst (pc := 17) (v := 0) dX10_in_17 (by decide) ?_
      exact gq_zret (pc := 18) (F := wM G o) rfl (by decide) dX10_in_18 h
    · have h := h.2 q2
      refine go_iconst (pc := 13) (v := 1) dX10_in_13 (by decide) ?_
      refine go_goto (pc := 14) (tgt := 18) dX10_in_14 (by decide) ?_
      exact gq_zret (pc := 18) (F := wM G o) rfl (by decide) dX10_in_18 h
def wX10_first_p32_b (P32 : Int32 → gMem → Prop) (l2 : Int32) (c : gMem) (Q : gMem → Prop) : Prop :=
  ((84 ≤ l2 →
    ∀ c2, c2 = mp c 0 3 0 →
    ∀ c3, c3 = mp c2 0 4 0 →
    ∀ c4, c4 = mp c3 0 5 0 →
    ∀ c5, c5 = mp c4 0 6 0 →
    ∀ c6, c6 = mp c5 0 7 0 →
    Q c6) ∧
   (¬ 84 ≤ l2 →
    vp_in l2 26100 ∧
    ∀ c7, c7 = mp c 1 l2.toNatClampNeg ((-1)) →
    P32 (l2 + 1) c7))
def wX10_first_p32 (l2 : Int32) (c : gMem) (Q : gMem → Prop) : Prop :=
  ∀ P32 : Int32 → gMem → Prop, (∀ (l2 : Int32) (c : gMem), wX10_first_p32_b P32 l2 c Q → P32 l2 c) → P32 l2 c
set_option maxRecDepth 100000 in
set_option maxHeartbeats 4000000 in
theorem tX10_first_p32_b {l : Launch} {G : gG} {k : Nat} {o : gMem} {Q : gMem → Prop} {P32 : Int32 → gMem → Prop} (hP32 : ∀ (l2 : Int32) (c : gMem), P32 l2 c → Go l G mX10_first (gbq G 0 0 84 k (qv (wM G o) Q)) 32 [(0, .ref (G.2.1 + 74)), (2, .int l2)] [] 84 k (wM G o c)) {l2 : Int32} {c : gMem} (h : wX10_first_p32_b P32 l2 c Q) : Go l G mX10_first (gbq G 0 0 84 k (qv (wM G o) Q)) 32 [(0, .ref (G.2.1 + 74)), (2, .int l2)] [] 84 k (wM G o c) := by
  unfold wX10_first_p32_b at h
  refine go_iload_n (pc := 32) dX10_first_32 rfl rfl ?_
  refine go_bipush (pc := 33) (v := 84) dX10_first_33 (by decide) ?_
  refine go_icmp_ge (pc := 35) (tgt := 51) dX10_first_35 (by decide) (fun q1 => ?_) (fun q1 => ?_)
  · have h := h.1 q1
    refine go_aload_n (pc := 51) dX10_first_51 rfl rfl ?_
    refine go_iconst (pc := 52) (v := 0) dX10_first_52 (by decide) ?_
    refine gb_put (pc := 53) (F := wM G o) fX10_42 rfl (gz_b (by decide)) yw0 (Nat.le_of_ble_eq_true rfl) rfl rfl yp0_3 dX10_first_53 (fun c2 ec2 => ?_)
    have h := h c2 ec2
    refine go_aload_n (pc := 56) dX10_first_56 rfl rfl ?_
    refine go_iconst (pc := 57) (v := 0) dX10_first_57 (by decide) ?_
    refine gb_put (pc := 58) (F := wM G o) fX10_46 rfl (gz_b (by decide)) yw0 (Nat.le_of_ble_eq_true rfl) rfl rfl yp0_4 dX10_first_58 (fun c3 ec3 => ?_)
    have h := h c3 ec3
    refine go_aload_n (pc := 61) dX10_first_61 rfl rfl ?_
    refine go_iconst (pc := 62) (v := 0) dX10_first_62 (by decide) ?_
    refine gb_put (pc := 63) (F := wM G o) fX10_49 rfl (gz_b (by decide)) yw0 (Nat.le_of_ble_eq_true rfl) rfl rfl yp0_5 dX10_first_63 (fun c4 ec4 => ?_)
    have h := h c4 ec4
    refine go_aload_n (pc := 66) dX10_first_66 rfl rfl ?_
    refine go_iconst (pc := 67) (v := 0) dX10_first_67 (by decide) ?_
    refine gb_put (pc := 68) (F := wM G o) fX10_53 rfl (gz_b (by decide)) yw0 (Nat.le_of_ble_eq_true rfl) rfl rfl yp0_6 dX10_first_68 (fun c5 ec5 => ?_)
    have h := h c5 ec5
    refine go_aload_n (pc := 71) dX10_first_71 rfl rfl ?_
    refine go_iconst (pc := 72) (v := 0) dX10_first_72 (by decide) ?_
    refine gb_put (pc := 73) (F := wM G o) fX10_56 rfl (gz_b (by decide)) yw0 (Nat.le_of_ble_eq_true rfl) rfl rfl yp0_7 dX10_first_73 (fun c6 ec6 => ?_)
    have h := h c6 ec6
    exact gq_vret (pc := 76) (F := wM G o) rfl dX10_first_76 h
  · have h := h.2 q1
    refine go_aload_n (pc := 38) dX10_first_38 rfl rfl ?_
    refine go_get (pc := 39) fX10_9 rfl (gz_b (by decide)) yw0 rfl dX10_first_39 ?_
    refine go_iload_n (pc := 42) dX10_first_42 rfl rfl ?_
    refine go_iconst (pc := 43) (v := (-1)) dX10_first_43 (by decide) ?_
    obtain ⟨b8, h⟩ := h
    refine gb_iast (pc := 44) (F := wM G o) (gz_b (by decide)) yw1 b8 ya1 dX10_first_44 (fun c7 ec7 => ?_)
    have h := h c7 ec7
    refine go_iinc (pc := 45) (v := l2 + 1) (lv' := [(2, .int (l2 + 1)), (0, .ref (G.2.1 + 74))]) dX10_first_45 1 rfl (by first | rfl | decide) (by decide) rfl ?_
    refine go_goto (pc := 48) (tgt := 32) dX10_first_48 (by decide) ?_
    refine go_lv [1, 0] rfl ?_
    exact hP32 _ _ h
set_option maxRecDepth 100000 in
set_option maxHeartbeats 4000000 in
theorem tX10_first_p32 {l : Launch} {G : gG} {k : Nat} {o : gMem} {Q : gMem → Prop} {l2 : Int32} {c : gMem} (h : wX10_first_p32 l2 c Q) : Go l G mX10_first (gbq G 0 0 84 k (qv (wM G o) Q)) 32 [(0, .ref (G.2.1 + 74)), (2, .int l2)] [] 84 k (wM G o c) :=
  h (fun l2 c => Go l G mX10_first (gbq G 0 0 84 k (qv (wM G o) Q)) 32 [(0, .ref (G.2.1 + 74)), (2, .int l2)] [] 84 k (wM G o c)) (fun l2 c hb => tX10_first_p32_b (fun l2 c hh => hh) hb)
def wX10_first_p2_b (P2 : Int32 → Int32 → gMem → Prop) (l1 : Int32) (l2 : Int32) (c : gMem) (Q : gMem → Prop) : Prop :=
  ((26100 ≤ l2 →
    ∀ c2, c2 = mp c 1 0 l1 →
    wX10_first_p32 20 c2 Q) ∧
   (¬ 26100 ≤ l2 →
    vp_in l2 26100 ∧
    ∀ c3, c3 = mp c 1 l2.toNatClampNeg 0 →
    P2 l1 (l2 + 1) c3))
def wX10_first_p2 (l1 : Int32) (l2 : Int32) (c : gMem) (Q : gMem → Prop) : Prop :=
  ∀ P2 : Int32 → Int32 → gMem → Prop, (∀ (l1 : Int32) (l2 : Int32) (c : gMem), wX10_first_p2_b P2 l1 l2 c Q → P2 l1 l2 c) → P2 l1 l2 c
set_option maxRecDepth 100000 in
set_option maxHeartbeats 4000000 in
theorem tX10_first_p2_b {l : Launch} {G : gG} {k : Nat} {o : gMem} {Q : gMem → Prop} {P2 : Int32 → Int32 → gMem → Prop} (hP2 : ∀ (l1 : Int32) (l2 : Int32) (c : gMem), P2 l1 l2 c → Go l G mX10_first (gbq G 0 0 84 k (qv (wM G o) Q)) 2 [(0, .ref (G.2.1 + 74)), (1, .int l1), (2, .int l2)] [] 84 k (wM G o c)) {l1 : Int32} {l2 : Int32} {c : gMem} (h : wX10_first_p2_b P2 l1 l2 c Q) : Go l G mX10_first (gbq G 0 0 84 k (qv (wM G o) Q)) 2 [(0, .ref (G.2.1 + 74)), (1, .int l1), (2, .int l2)] [] 84 k (wM G o c) := by
  unfold wX10_first_p2_b at h
  refine go_iload_n (pc := 2) dX10_first_2 rfl rfl ?_
  refine go_sipush (pc := 3) (v := 26100) dX10_first_3 (by decide) ?_
  refine go_icmp_ge (pc := 6) (tgt := 22) dX10_first_6 (by decide) (fun q1 => ?_) (fun q1 => ?_)
  · have h := h.1 q1
    refine go_aload_n (pc := 22) dX10_first_22 rfl rfl ?_
    refine go_get (pc := 23) fX10_9 rfl (gz_b (by decide)) yw0 rfl dX10_first_23 ?_
    refine go_iconst (pc := 26) (v := 0) dX10_first_26 (by decide) ?_
    refine go_iload_n (pc := 27) dX10_first_27 rfl rfl ?_
    refine gb_iast (pc := 28) (F := wM G o) (gz_b (by decide)) yw1 (gv_in (by decide)) ya1 dX10_first_28 (fun c2 ec2 => ?_)
    have h := h c2 ec2
    refine go_bipush (pc := 29) (v := 20) dX10_first_29 (by decide) ?_
    refine go_istore_n (pc := 31) (lv' := [(2, .int 20), (0, .ref (G.2.1 + 74)), (1, .int l1)]) dX10_first_31 rfl (by decide) rfl ?_
    refine go_lv [1, 0] rfl ?_
    exact tX10_first_p32 h
  · have h := h.2 q1
    refine go_aload_n (pc := 9) dX10_first_9 rfl rfl ?_
    refine go_get (pc := 10) fX10_9 rfl (gz_b (by decide)) yw0 rfl dX10_first_10 ?_
    refine go_iload_n (pc := 13) dX10_first_13 rfl rfl ?_
    refine go_iconst (pc := 14) (v := 0) dX10_first_14 (by decide) ?_
    obtain ⟨b4, h⟩ := h
    refine gb_iast (pc := 15) (F := wM G o) (gz_b (by decide)) yw1 b4 ya1 dX10_first_15 (fun c3 ec3 => ?_)
    have h := h c3 ec3
    refine go_iinc (pc := 16) (v := l2 + 1) (lv' := [(2, .int (l2 + 1)), (0, .ref (G.2.1 + 74)), (1, .int l1)]) dX10_first_16 2 rfl (by first | rfl | decide) (by decide) rfl ?_
    refine go_goto (pc := 19) (tgt := 2) dX10_first_19 (by decide) ?_
    refine go_lv [1, 2, 0] rfl ?_
    exact hP2 _ _ _ h
set_option maxRecDepth 100000 in
set_option maxHeartbeats 4000000 in
theorem tX10_first_p2 {l : Launch} {G : gG} {k : Nat} {o : gMem} {Q : gMem → Prop} {l1 : Int32} {l2 : Int32} {c : gMem} (h : wX10_first_p2 l1 l2 c Q) : Go l G mX10_first (gbq G 0 0 84 k (qv (wM G o) Q)) 2 [(0, .ref (G.2.1 + 74)), (1, .int l1), (2, .int l2)] [] 84 k (wM G o c) :=
  h (fun l1 l2 c => Go l G mX10_first (gbq G 0 0 84 k (qv (wM G o) Q)) 2 [(0, .ref (G.2.1 + 74)), (1, .int l1), (2, .int l2)] [] 84 k (wM G o c)) (fun l1 l2 c hb => tX10_first_p2_b (fun l1 l2 c hh => hh) hb)
def wX10_first (l1 : Int32) (c : gMem) (Q : gMem → Prop) : Prop :=
  wX10_first_p2 l1 0 c Q
set_option maxRecDepth 100000 in
set_option maxHeartbeats 4000000 in
theorem tX10_first {l : Launch} {G : gG} {k : Nat} {o : gMem} {Q : gMem → Prop} {l1 : Int32} {c : gMem} (h : wX10_first l1 c Q) : Cq l G mX10_first 0 0 [.ref (G.2.1 + 74), .int l1] 84 k (wM G o c) (qv (wM G o) Q) := by
  refine Cq.of (by decide) (Nat.le_of_ble_eq_true rfl) ?_
  show Go l G mX10_first (gbq G 0 0 84 k (qv (wM G o) Q)) 0 [(0, .ref (G.2.1 + 74)), (1, .int l1)] [] 84 k (wM G o c)
  unfold wX10_first at h
  refine go_iconst (pc := 0) (v := 0) dX10_first_0 (by decide) ?_
  refine go_istore_n (pc := 1) (lv' := [(2, .int 0), (0, .ref (G.2.1 + 74)), (1, .int l1)]) dX10_first_1 rfl (by decide) rfl ?_
  refine go_lv [1, 2, 0] rfl ?_
  exact tX10_first_p2 h
def wX10_size (l1 : Int32) (c : gMem) (Q : Int32 → gMem → Prop) : Prop :=
  wX10_in l1.toInt64 16 4000 c (fun r2 c1 =>
  ((r2 = 0 →
    Q ((-102)) c1) ∧
   (¬ r2 = 0 →
    wX10_first l1 c1 (fun c4 =>
    Q 1 c4))))
set_option maxRecDepth 100000 in
set_option maxHeartbeats 4000000 in
theorem tX10_size {l : Launch} {G : gG} {k : Nat} {o : gMem} {Q : Int32 → gMem → Prop} {l1 : Int32} {c : gMem} (h : wX10_size l1 c Q) : Cq l G mX10_size 1 25 [.ref (G.2.1 + 74), .int l1] 84 k (wM G o c) (qi (wM G o) Q) := by
  refine Cq.of (by decide) (Nat.le_of_ble_eq_true rfl) ?_
  show Go l G mX10_size (gbq G 1 25 84 k (qi (wM G o) Q)) 0 [(0, .ref (G.2.1 + 74)), (1, .int l1)] [] 84 k (wM G o c)
  unfold wX10_size at h
  refine go_iload_n (pc := 0) dX10_size_0 rfl rfl ?_
  refine go_i2l (pc := 1) dX10_size_1 ?_
  refine go_ldc2 (pc := 2) rfl qX10_59 dX10_size_2 ?_
  refine go_ldc2 (pc := 5) rfl qX10_61 dX10_size_5 ?_
  refine gq_callS_i (pc := 8) (F := wM G o) sX10_63 rfl (tX10_in h) rfl rfl (Nat.le_of_ble_eq_true rfl) ⟨Nat.le_of_ble_eq_true rfl, Nat.le_of_ble_eq_true rfl, Nat.le_add_right _ _, Nat.le_add_right _ _⟩ dX10_size_8 (fun r2 c1 h => ?_)
  refine go_if_ne (pc := 11) (tgt := 17) dX10_size_11 (by decide) (fun q3 => ?_) (fun q3 => ?_)
  · have h := h.2 q3
    refine go_aload_n (pc := 17) dX10_size_17 rfl rfl ?_
    refine go_iload_n (pc := 18) dX10_size_18 rfl rfl ?_
    refine gq_callV_v (pc := 19) (F := wM G o) vX10_38 rfl (tX10_first h) rfl rfl (gz_b (by decide)) yw0 rfl (Nat.le_of_ble_eq_true rfl) ⟨Nat.le_of_ble_eq_true rfl, Nat.le_of_ble_eq_true rfl, Nat.le_add_right _ _, Nat.le_add_right _ _⟩ dX10_size_19 (fun c4 h => ?_)
    refine go_iconst (pc := 22) (v := 1) dX10_size_22 (by decide) ?_
    exact gq_iret (pc := 23) (F := wM G o) rfl dX10_size_23 h
  · have h := h.1 q3
    refine go_bipush (pc := 14) (v := (-102)) dX10_size_14 (by decide) ?_
    exact gq_iret (pc := 16) (F := wM G o) rfl dX10_size_16 h
def wX10_hasMany_p15 (c : gMem) (Q : Int32 → gMem → Prop) : Prop :=
  Q 1 c
set_option maxRecDepth 100000 in
set_option maxHeartbeats 4000000 in
theorem tX10_hasMany_p15 {l : Launch} {G : gG} {k : Nat} {o : gMem} {Q : Int32 → gMem → Prop} {c : gMem} (h : wX10_hasMany_p15 c Q) : Go l G mX10_hasMany (gbq G 0 0 84 k (qi (wM G o) Q)) 15 [] [] 84 k (wM G o c) := by
  unfold wX10_hasMany_p15 at h
  refine go_iconst (pc := 15) (v := 1) dX10_hasMany_15 (by decide) ?_
  refine go_goto (pc := 16) (tgt := 20) dX10_hasMany_16 (by decide) ?_
  exact gq_zret (pc := 20) (F := wM G o) rfl (by decide) dX10_hasMany_20 h
def wX10_hasMany (l0 : Int32) (c : gMem) (Q : Int32 → gMem → Prop) : Prop :=
  ((l0 = 1 →
    wX10_hasMany_p15 c Q) ∧
   (¬ l0 = 1 →
    ((l0 = 2 →
      wX10_hasMany_p15 c Q) ∧
     (¬ l0 = 2 →
      ((l0 = 5 →
        wX10_hasMany_p15 c Q) ∧
       (¬ l0 = 5 →
        Q 0 c))))))
set_option maxRecDepth 100000 in
set_option maxHeartbeats 4000000 in
theorem tX10_hasMany {l : Launch} {G : gG} {k : Nat} {o : gMem} {Q : Int32 → gMem → Prop} {l0 : Int32} {c : gMem} (h : wX10_hasMany l0 c Q) : Cq l G mX10_hasMany 0 0 [.int l0] 84 k (wM G o c) (qi (wM G o) Q) := by
  refine Cq.of (by decide) (Nat.le_of_ble_eq_true rfl) ?_
  show Go l G mX10_hasMany (gbq G 0 0 84 k (qi (wM G o) Q)) 0 [(0, .int l0)] [] 84 k (wM G o c)
  unfold wX10_hasMany at h
  refine go_iload_n (pc := 0) dX10_hasMany_0 rfl rfl ?_
  refine go_iconst (pc := 1) (v := 1) dX10_hasMany_1 (by decide) ?_
  refine go_icmp_eq (pc := 2) (tgt := 15) dX10_hasMany_2 (by decide) (fun q1 => ?_) (fun q1 => ?_)
  · have h := h.1 q1
    refine go_lv [] rfl ?_
    exact tX10_hasMany_p15 h
  · have h := h.2 q1
    refine go_iload_n (pc := 5) dX10_hasMany_5 rfl rfl ?_
    refine go_iconst (pc := 6) (v := 2) dX10_hasMany_6 (by decide) ?_
    refine go_icmp_eq (pc := 7) (tgt := 15) dX10_hasMany_7 (by decide) (fun q2 => ?_) (fun q2 => ?_)
    · have h := h.1 q2
      refine go_lv [] rfl ?_
      exact tX10_hasMany_p15 h
    · have h := h.2 q2
      refine go_iload_n (pc := 10) dX10_hasMany_10 rfl rfl ?_
      refine go_iconst (pc := 11) (v := 5) dX10_hasMany_11 (by decide) ?_
      refine go_icmp_ne (pc := 12) (tgt := 19) dX10_hasMany_12 (by decide) (fun q3 => ?_) (fun q3 => ?_)
      · have h := h.2 q3
        refine go_iconst (pc := 19) (v := 0) dX10_hasMany_19 (by decide) ?_
        exact gq_zret (pc := 20) (F := wM G o) rfl (by decide) dX10_hasMany_20 h
      · have h := h.1 q3
        refine go_lv [] rfl ?_
        exact tX10_hasMany_p15 h
def wX10_sizeOf_p54 (l1 : Int32) (c : gMem) (Q : Int32 → gMem → Prop) : Prop :=
  Q (2 + ((l1 + 3) / 4)) c
set_option maxRecDepth 100000 in
set_option maxHeartbeats 4000000 in
theorem tX10_sizeOf_p54 {l : Launch} {G : gG} {k : Nat} {o : gMem} {Q : Int32 → gMem → Prop} {l1 : Int32} {c : gMem} (h : wX10_sizeOf_p54 l1 c Q) : Go l G mX10_sizeOf (gbq G 0 0 84 k (qi (wM G o) Q)) 54 [(1, .int l1)] [] 84 k (wM G o c) := by
  unfold wX10_sizeOf_p54 at h
  refine go_iconst (pc := 54) (v := 2) dX10_sizeOf_54 (by decide) ?_
  refine go_iload_n (pc := 55) dX10_sizeOf_55 rfl rfl ?_
  refine go_iconst (pc := 56) (v := 3) dX10_sizeOf_56 (by decide) ?_
  refine go_iadd (pc := 57) dX10_sizeOf_57 ?_
  refine go_iconst (pc := 58) (v := 4) dX10_sizeOf_58 (by decide) ?_
  refine go_idiv (pc := 59) dX10_sizeOf_59 (by decide) ?_
  refine go_iadd (pc := 60) dX10_sizeOf_60 ?_
  exact gq_iret (pc := 61) (F := wM G o) rfl dX10_sizeOf_61 h
def wX10_sizeOf (l0 : Int32) (l1 : Int32) (c : gMem) (Q : Int32 → gMem → Prop) : Prop :=
  ((l0.toInt < 0 ∨ 5 < l0.toInt →
    wX10_sizeOf_p54 l1 c Q) ∧
   (l0 = 0 →
    Q 3 c) ∧
   (l0 = 1 →
    Q (2 + l1) c) ∧
   (l0 = 2 →
    wX10_sizeOf_p54 l1 c Q) ∧
   (l0 = 3 →
    Q 3 c) ∧
   (l0 = 4 →
    Q 4 c) ∧
   (l0 = 5 →
    Q (2 + (2 * l1)) c))
set_option maxRecDepth 100000 in
set_option maxHeartbeats 4000000 in
theorem tX10_sizeOf {l : Launch} {G : gG} {k : Nat} {o : gMem} {Q : Int32 → gMem → Prop} {l0 : Int32} {l1 : Int32} {c : gMem} (h : wX10_sizeOf l0 l1 c Q) : Cq l G mX10_sizeOf 0 0 [.int l0, .int l1] 84 k (wM G o c) (qi (wM G o) Q) := by
  refine Cq.of (by decide) (Nat.le_of_ble_eq_true rfl) ?_
  show Go l G mX10_sizeOf (gbq G 0 0 84 k (qi (wM G o) Q)) 0 [(0, .int l0), (1, .int l1)] [] 84 k (wM G o c)
  unfold wX10_sizeOf at h
  refine go_iload_n (pc := 0) dX10_sizeOf_0 rfl rfl ?_
  by_cases q1 : l0.toInt < 0 ∨ 5 < l0.toInt
  · refine go_tableOut (pc := 1) (tgt := 54) dX10_sizeOf_1 q1 (by decide) ?_
    have h := h.1 q1
    refine go_lv [1] rfl ?_
    exact tX10_sizeOf_p54 h
  have q1a : l0.toInt = 0 ∨ l0.toInt = 1 ∨ l0.toInt = 2 ∨ l0.toInt = 3 ∨ l0.toInt = 4 ∨ l0.toInt = 5 := by omega
  rcases q1a with q1b | q1b | q1b | q1b | q1b | q1b
  · have q1c : l0 = 0 := gt_eq q1b _ (by decide)
    refine go_tableIn (pc := 1) (off := 39) (tgt := 40) dX10_sizeOf_1 (by rw [q1b]; decide) (by rw [q1b]; decide) (by rw [q1b]; rfl) (by decide) ?_
    have h := h.2.1 q1c
    refine go_iconst (pc := 40) (v := 3) dX10_sizeOf_40 (by decide) ?_
    exact gq_iret (pc := 41) (F := wM G o) rfl dX10_sizeOf_41 h
  · have q1c : l0 = 1 := gt_eq q1b _ (by decide)
    refine go_tableIn (pc := 1) (off := 43) (tgt := 44) dX10_sizeOf_1 (by rw [q1b]; decide) (by rw [q1b]; decide) (by rw [q1b]; rfl) (by decide) ?_
    have h := h.2.2.1 q1c
    refine go_iconst (pc := 44) (v := 2) dX10_sizeOf_44 (by decide) ?_
    refine go_iload_n (pc := 45) dX10_sizeOf_45 rfl rfl ?_
    refine go_iadd (pc := 46) dX10_sizeOf_46 ?_
    exact gq_iret (pc := 47) (F := wM G o) rfl dX10_sizeOf_47 h
  · have q1c : l0 = 2 := gt_eq q1b _ (by decide)
    refine go_tableIn (pc := 1) (off := 53) (tgt := 54) dX10_sizeOf_1 (by rw [q1b]; decide) (by rw [q1b]; decide) (by rw [q1b]; rfl) (by decide) ?_
    have h := h.2.2.2.1 q1c
    refine go_lv [1] rfl ?_
    exact tX10_sizeOf_p54 h
  · have q1c : l0 = 3 := gt_eq q1b _ (by decide)
    refine go_tableIn (pc := 1) (off := 39) (tgt := 40) dX10_sizeOf_1 (by rw [q1b]; decide) (by rw [q1b]; decide) (by rw [q1b]; rfl) (by decide) ?_
    have h := h.2.2.2.2.1 q1c
    refine go_iconst (pc := 40) (v := 3) dX10_sizeOf_40 (by decide) ?_
    exact gq_iret (pc := 41) (F := wM G o) rfl dX10_sizeOf_41 h
  · have q1c : l0 = 4 := gt_eq q1b _ (by decide)
    refine go_tableIn (pc := 1) (off := 41) (tgt := 42) dX10_sizeOf_1 (by rw [q1b]; decide) (by rw [q1b]; decide) (by rw [q1b]; rfl) (by decide) ?_
    have h := h.2.2.2.2.2.1 q1c
    refine go_iconst (pc := 42) (v := 4) dX10_sizeOf_42 (by decide) ?_
    exact gq_iret (pc := 43) (F := wM G o) rfl dX10_sizeOf_43 h
  · have q1c : l0 = 5 := gt_eq q1b _ (by decide)
    refine go_tableIn (pc := 1) (off := 47) (tgt := 48) dX10_sizeOf_1 (by rw [q1b]; decide) (by rw [q1b]; decide) (by rw [q1b]; rfl) (by decide) ?_
    have h := h.2.2.2.2.2.2 q1c
    refine go_iconst (pc := 48) (v := 2) dX10_sizeOf_48 (by decide) ?_
    refine go_iconst (pc := 49) (v := 2) dX10_sizeOf_49 (by decide) ?_
    refine go_iload_n (pc := 50) dX10_sizeOf_50 rfl rfl ?_
    refine go_imul (pc := 51) dX10_sizeOf_51 ?_
    refine go_iadd (pc := 52) dX10_sizeOf_52 ?_
    exact gq_iret (pc := 53) (F := wM G o) rfl dX10_sizeOf_53 h
def wX10_lets (l1 : Int32) (l2 : Int32) (l3 : Int32) (c : gMem) (Q : gMem → Prop) : Prop :=
  vp_in ((1100 + (10 * l1)) + l2) 26100 ∧
  ∀ c1, c1 = mp c 1 ((1100 + (10 * l1)) + l2).toNatClampNeg l3 →
  Q c1
set_option maxRecDepth 100000 in
set_option maxHeartbeats 4000000 in
theorem tX10_lets {l : Launch} {G : gG} {k : Nat} {o : gMem} {Q : gMem → Prop} {l1 : Int32} {l2 : Int32} {l3 : Int32} {c : gMem} (h : wX10_lets l1 l2 l3 c Q) : Cq l G mX10_lets 0 0 [.ref (G.2.1 + 74), .int l1, .int l2, .int l3] 84 k (wM G o c) (qv (wM G o) Q) := by
  refine Cq.of (by decide) (Nat.le_of_ble_eq_true rfl) ?_
  show Go l G mX10_lets (gbq G 0 0 84 k (qv (wM G o) Q)) 0 [(0, .ref (G.2.1 + 74)), (1, .int l1), (2, .int l2), (3, .int l3)] [] 84 k (wM G o c)
  unfold wX10_lets at h
  refine go_aload_n (pc := 0) dX10_lets_0 rfl rfl ?_
  refine go_get (pc := 1) fX10_9 rfl (gz_b (by decide)) yw0 rfl dX10_lets_1 ?_
  refine go_sipush (pc := 4) (v := 1100) dX10_lets_4 (by decide) ?_
  refine go_bipush (pc := 7) (v := 10) dX10_lets_7 (by decide) ?_
  refine go_iload_n (pc := 9) dX10_lets_9 rfl rfl ?_
  refine go_imul (pc := 10) dX10_lets_10 ?_
  refine go_iadd (pc := 11) dX10_lets_11 ?_
  refine go_iload_n (pc := 12) dX10_lets_12 rfl rfl ?_
  refine go_iadd (pc := 13) dX10_lets_13 ?_
  refine go_iload_n (pc := 14) dX10_lets_14 rfl rfl ?_
  obtain ⟨b2, h⟩ := h
  refine gb_iast (pc := 15) (F := wM G o) (gz_b (by decide)) yw1 b2 ya1 dX10_lets_15 (fun c1 ec1 => ?_)
  have h := h c1 ec1
  exact gq_vret (pc := 16) (F := wM G o) rfl dX10_lets_16 h
def wX10_of (l1 : Int32) (l2 : Int32) (c : gMem) (Q : Int32 → gMem → Prop) : Prop :=
  vp_in ((1100 + (10 * l1)) + l2) 26100 ∧
  ∀ v1, v1 = c 1 ((1100 + (10 * l1)) + l2).toNatClampNeg →
  Q v1 c
set_option maxRecDepth 100000 in
set_option maxHeartbeats 4000000 in
theorem tX10_of {l : Launch} {G : gG} {k : Nat} {o : gMem} {Q : Int32 → gMem → Prop} {l1 : Int32} {l2 : Int32} {c : gMem} (h : wX10_of l1 l2 c Q) : Cq l G mX10_of 0 0 [.ref (G.2.1 + 74), .int l1, .int l2] 84 k (wM G o c) (qi (wM G o) Q) := by
  refine Cq.of (by decide) (Nat.le_of_ble_eq_true rfl) ?_
  show Go l G mX10_of (gbq G 0 0 84 k (qi (wM G o) Q)) 0 [(0, .ref (G.2.1 + 74)), (1, .int l1), (2, .int l2)] [] 84 k (wM G o c)
  unfold wX10_of at h
  refine go_aload_n (pc := 0) dX10_of_0 rfl rfl ?_
  refine go_get (pc := 1) fX10_9 rfl (gz_b (by decide)) yw0 rfl dX10_of_1 ?_
  refine go_sipush (pc := 4) (v := 1100) dX10_of_4 (by decide) ?_
  refine go_bipush (pc := 7) (v := 10) dX10_of_7 (by decide) ?_
  refine go_iload_n (pc := 9) dX10_of_9 rfl rfl ?_
  refine go_imul (pc := 10) dX10_of_10 ?_
  refine go_iadd (pc := 11) dX10_of_11 ?_
  refine go_iload_n (pc := 12) dX10_of_12 rfl rfl ?_
  refine go_iadd (pc := 13) dX10_of_13 ?_
  obtain ⟨b2, h⟩ := h
  refine gb_iald (pc := 14) (gz_b (by decide)) yw1 b2 dX10_of_14 (fun v1 ev1 => ?_)
  have h := h v1 ev1
  exact gq_iret (pc := 15) (F := wM G o) rfl dX10_of_15 h
def wX10_linksOf_p25 (c : gMem) (Q : Int32 → gMem → Prop) : Prop :=
  Q 1 c
set_option maxRecDepth 100000 in
set_option maxHeartbeats 4000000 in
theorem tX10_linksOf_p25 {l : Launch} {G : gG} {k : Nat} {o : gMem} {Q : Int32 → gMem → Prop} {c : gMem} (h : wX10_linksOf_p25 c Q) : Go l G mX10_linksOf (gbq G 1 22 84 k (qi (wM G o) Q)) 25 [] [] 84 k (wM G o c) := by
  unfold wX10_linksOf_p25 at h
  refine go_iconst (pc := 25) (v := 1) dX10_linksOf_25 (by decide) ?_
  refine go_goto (pc := 26) (tgt := 44) dX10_linksOf_26 (by decide) ?_
  exact gq_iret (pc := 44) (F := wM G o) rfl dX10_linksOf_44 h
def wX10_linksOf (l1 : Int32) (c : gMem) (Q : Int32 → gMem → Prop) : Prop :=
  wX10_of l1 1 c (fun r2 c1 =>
  ((r2 = 0 →
    Q 2 c1) ∧
   (¬ r2 = 0 →
    ((r2 = 3 →
      wX10_linksOf_p25 c1 Q) ∧
     (¬ r2 = 3 →
      ((r2 = 4 →
        wX10_linksOf_p25 c1 Q) ∧
       (¬ r2 = 4 →
        ((r2 = 2 →
          Q 0 c1) ∧
         (¬ r2 = 2 →
          wX10_of l1 3 c1 (fun r8 c7 =>
          Q r8 c7))))))))))
set_option maxRecDepth 100000 in
set_option maxHeartbeats 4000000 in
theorem tX10_linksOf {l : Launch} {G : gG} {k : Nat} {o : gMem} {Q : Int32 → gMem → Prop} {l1 : Int32} {c : gMem} (h : wX10_linksOf l1 c Q) : Cq l G mX10_linksOf 1 22 [.ref (G.2.1 + 74), .int l1] 84 k (wM G o c) (qi (wM G o) Q) := by
  refine Cq.of (by decide) (Nat.le_of_ble_eq_true rfl) ?_
  show Go l G mX10_linksOf (gbq G 1 22 84 k (qi (wM G o) Q)) 0 [(0, .ref (G.2.1 + 74)), (1, .int l1)] [] 84 k (wM G o c)
  unfold wX10_linksOf at h
  refine go_aload_n (pc := 0) dX10_linksOf_0 rfl rfl ?_
  refine go_iload_n (pc := 1) dX10_linksOf_1 rfl rfl ?_
  refine go_iconst (pc := 2) (v := 1) dX10_linksOf_2 (by decide) ?_
  refine gq_callV_i (pc := 3) (F := wM G o) vX10_71 rfl (tX10_of h) rfl rfl (gz_b (by decide)) yw0 rfl (Nat.le_of_ble_eq_true rfl) ⟨Nat.le_of_ble_eq_true rfl, Nat.le_of_ble_eq_true rfl, Nat.le_add_right _ _, Nat.le_add_right _ _⟩ dX10_linksOf_3 (fun r2 c1 h => ?_)
  refine go_istore_n (pc := 6) (lv' := [(2, .int r2), (0, .ref (G.2.1 + 74)), (1, .int l1)]) dX10_linksOf_6 rfl (by decide) rfl ?_
  refine go_iload_n (pc := 7) dX10_linksOf_7 rfl rfl ?_
  refine go_if_ne (pc := 8) (tgt := 15) dX10_linksOf_8 (by decide) (fun q3 => ?_) (fun q3 => ?_)
  · have h := h.2 q3
    refine go_iload_n (pc := 15) dX10_linksOf_15 rfl rfl ?_
    refine go_iconst (pc := 16) (v := 3) dX10_linksOf_16 (by decide) ?_
    refine go_icmp_eq (pc := 17) (tgt := 25) dX10_linksOf_17 (by decide) (fun q4 => ?_) (fun q4 => ?_)
    · have h := h.1 q4
      refine go_lv [] rfl ?_
      exact tX10_linksOf_p25 h
    · have h := h.2 q4
      refine go_iload_n (pc := 20) dX10_linksOf_20 rfl rfl ?_
      refine go_iconst (pc := 21) (v := 4) dX10_linksOf_21 (by decide) ?_
      refine go_icmp_ne (pc := 22) (tgt := 29) dX10_linksOf_22 (by decide) (fun q5 => ?_) (fun q5 => ?_)
      · have h := h.2 q5
        refine go_iload_n (pc := 29) dX10_linksOf_29 rfl rfl ?_
        refine go_iconst (pc := 30) (v := 2) dX10_linksOf_30 (by decide) ?_
        refine go_icmp_ne (pc := 31) (tgt := 38) dX10_linksOf_31 (by decide) (fun q6 => ?_) (fun q6 => ?_)
        · have h := h.2 q6
          refine go_aload_n (pc := 38) dX10_linksOf_38 rfl rfl ?_
          refine go_iload_n (pc := 39) dX10_linksOf_39 rfl rfl ?_
          refine go_iconst (pc := 40) (v := 3) dX10_linksOf_40 (by decide) ?_
          refine gq_callV_i (pc := 41) (F := wM G o) vX10_71 rfl (tX10_of h) rfl rfl (gz_b (by decide)) yw0 rfl (Nat.le_of_ble_eq_true rfl) ⟨Nat.le_of_ble_eq_true rfl, Nat.le_of_ble_eq_true rfl, Nat.le_add_right _ _, Nat.le_add_right _ _⟩ dX10_linksOf_41 (fun r8 c7 h => ?_)
          exact gq_iret (pc := 44) (F := wM G o) rfl dX10_linksOf_44 h
        · have h := h.1 q6
          refine go_iconst (pc := 34) (v := 0) dX10_linksOf_34 (by decide) ?_
          refine go_goto (pc := 35) (tgt := 44) dX10_linksOf_35 (by decide) ?_
          exact gq_iret (pc := 44) (F := wM G o) rfl dX10_linksOf_44 h
      · have h := h.1 q5
        refine go_lv [] rfl ?_
        exact tX10_linksOf_p25 h
  · have h := h.1 q3
    refine go_iconst (pc := 11) (v := 2) dX10_linksOf_11 (by decide) ?_
    refine go_goto (pc := 12) (tgt := 44) dX10_linksOf_12 (by decide) ?_
    exact gq_iret (pc := 44) (F := wM G o) rfl dX10_linksOf_44 h
def wX10_weakAt (l1 : Int32) (c : gMem) (Q : Int32 → gMem → Prop) : Prop :=
  wX10_of l1 2 c (fun r2 c1 =>
  Q ((6100 + r2) + 2) c1)
set_option maxRecDepth 100000 in
set_option maxHeartbeats 4000000 in
theorem tX10_weakAt {l : Launch} {G : gG} {k : Nat} {o : gMem} {Q : Int32 → gMem → Prop} {l1 : Int32} {c : gMem} (h : wX10_weakAt l1 c Q) : Cq l G mX10_weakAt 1 22 [.ref (G.2.1 + 74), .int l1] 84 k (wM G o c) (qi (wM G o) Q) := by
  refine Cq.of (by decide) (Nat.le_of_ble_eq_true rfl) ?_
  show Go l G mX10_weakAt (gbq G 1 22 84 k (qi (wM G o) Q)) 0 [(0, .ref (G.2.1 + 74)), (1, .int l1)] [] 84 k (wM G o c)
  unfold wX10_weakAt at h
  refine go_sipush (pc := 0) (v := 6100) dX10_weakAt_0 (by decide) ?_
  refine go_aload_n (pc := 3) dX10_weakAt_3 rfl rfl ?_
  refine go_iload_n (pc := 4) dX10_weakAt_4 rfl rfl ?_
  refine go_iconst (pc := 5) (v := 2) dX10_weakAt_5 (by decide) ?_
  refine gq_callV_i (pc := 6) (F := wM G o) vX10_71 rfl (tX10_of h) rfl rfl (gz_b (by decide)) yw0 rfl (Nat.le_of_ble_eq_true rfl) ⟨Nat.le_of_ble_eq_true rfl, Nat.le_of_ble_eq_true rfl, Nat.le_add_right _ _, Nat.le_add_right _ _⟩ dX10_weakAt_6 (fun r2 c1 h => ?_)
  refine go_iadd (pc := 9) dX10_weakAt_9 ?_
  refine go_iconst (pc := 10) (v := 2) dX10_weakAt_10 (by decide) ?_
  refine go_iadd (pc := 11) dX10_weakAt_11 ?_
  exact gq_iret (pc := 12) (F := wM G o) rfl dX10_weakAt_12 h
def wX10_mark (l1 : Int32) (l2 : Int32) (l3 : Int32) (l4 : Int32) (c : gMem) (Q : gMem → Prop) : Prop :=
  ((l1 = (-1) →
    Q c) ∧
   (¬ l1 = (-1) →
    wX10_of l1 5 c (fun r3 c2 =>
    ((r3 ≤ 0 →
      ∀ v5, v5 = c2 1 4 →
      vp_in (600 + v5) 26100 ∧
      ∀ c6, c6 = mp c2 1 (600 + v5).toNatClampNeg l1 →
      ∀ v8, v8 = c6 1 4 →
      ∀ c9, c9 = mp c6 1 4 (v8 + 1) →
      ∀ v10, v10 = c9 1 4 →
      wX10_lets l1 5 v10 c9 (fun c11 =>
      wX10_lets l1 6 l2 c11 (fun c12 =>
      wX10_lets l1 7 l3 c12 (fun c13 =>
      wX10_lets l1 8 l4 c13 (fun c14 =>
      wX10_lets l1 9 0 c14 (fun c15 =>
      Q c15)))))) ∧
     (¬ r3 ≤ 0 →
      Q c2)))))
set_option maxRecDepth 100000 in
set_option maxHeartbeats 4000000 in
theorem tX10_mark {l : Launch} {G : gG} {k : Nat} {o : gMem} {Q : gMem → Prop} {l1 : Int32} {l2 : Int32} {l3 : Int32} {l4 : Int32} {c : gMem} (h : wX10_mark l1 l2 l3 l4 c Q) : Cq l G mX10_mark 1 23 [.ref (G.2.1 + 74), .int l1, .int l2, .int l3, .int l4] 84 k (wM G o c) (qv (wM G o) Q) := by
  refine Cq.of (by decide) (Nat.le_of_ble_eq_true rfl) ?_
  show Go l G mX10_mark (gbq G 1 23 84 k (qv (wM G o) Q)) 0 [(0, .ref (G.2.1 + 74)), (1, .int l1), (2, .int l2), (3, .int l3), (4, .int l4)] [] 84 k (wM G o c)
  unfold wX10_mark at h
  refine go_iload_n (pc := 0) dX10_mark_0 rfl rfl ?_
  refine go_iconst (pc := 1) (v := (-1)) dX10_mark_1 (by decide) ?_
  refine go_icmp_eq (pc := 2) (tgt := 14) dX10_mark_2 (by decide) (fun q1 => ?_) (fun q1 => ?_)
  · have h := h.1 q1
    exact gq_vret (pc := 14) (F := wM G o) rfl dX10_mark_14 h
  · have h := h.2 q1
    refine go_aload_n (pc := 5) dX10_mark_5 rfl rfl ?_
    refine go_iload_n (pc := 6) dX10_mark_6 rfl rfl ?_
    refine go_iconst (pc := 7) (v := 5) dX10_mark_7 (by decide) ?_
    refine gq_callV_i (pc := 8) (F := wM G o) vX10_71 rfl (tX10_of h) rfl rfl (gz_b (by decide)) yw0 rfl (Nat.le_of_ble_eq_true rfl) ⟨Nat.le_of_ble_eq_true rfl, Nat.le_of_ble_eq_true rfl, Nat.le_add_right _ _, Nat.le_add_right _ _⟩ dX10_mark_8 (fun r3 c2 h => ?_)
    refine go_if_le (pc := 11) (tgt := 15) dX10_mark_11 (by decide) (fun q4 => ?_) (fun q4 => ?_)
    · have h := h.1 q4
      refine go_aload_n (pc := 15) dX10_mark_15 rfl rfl ?_
      refine go_get (pc := 16) fX10_9 rfl (gz_b (by decide)) yw0 rfl dX10_mark_16 ?_
      refine go_sipush (pc := 19) (v := 600) dX10_mark_19 (by decide) ?_
      refine go_aload_n (pc := 22) dX10_mark_22 rfl rfl ?_
      refine go_get (pc := 23) fX10_9 rfl (gz_b (by decide)) yw0 rfl dX10_mark_23 ?_
      refine go_iconst (pc := 26) (v := 4) dX10_mark_26 (by decide) ?_
      refine gb_iald (pc := 27) (gz_b (by decide)) yw1 (gv_in (by decide)) dX10_mark_27 (fun v5 ev5 => ?_)
      have h := h v5 ev5
      refine go_iadd (pc := 28) dX10_mark_28 ?_
      refine go_iload_n (pc := 29) dX10_mark_29 rfl rfl ?_
      obtain ⟨b7, h⟩ := h
      refine gb_iast (pc := 30) (F := wM G o) (gz_b (by decide)) yw1 b7 ya1 dX10_mark_30 (fun c6 ec6 => ?_)
      have h := h c6 ec6
      refine go_aload_n (pc := 31) dX10_mark_31 rfl rfl ?_
      refine go_get (pc := 32) fX10_9 rfl (gz_b (by decide)) yw0 rfl dX10_mark_32 ?_
      refine go_iconst (pc := 35) (v := 4) dX10_mark_35 (by decide) ?_
      refine go_dup2 (pc := 36) dX10_mark_36 rfl rfl ?_
      refine gb_iald (pc := 37) (gz_b (by decide)) yw1 (gv_in (by decide)) dX10_mark_37 (fun v8 ev8 => ?_)
      have h := h v8 ev8
      refine go_iconst (pc := 38) (v := 1) dX10_mark_38 (by decide) ?_
      refine go_iadd (pc := 39) dX10_mark_39 ?_
      refine gb_iast (pc := 40) (F := wM G o) (gz_b (by decide)) yw1 (gv_in (by decide)) ya1 dX10_mark_40 (fun c9 ec9 => ?_)
      have h := h c9 ec9
      refine go_aload_n (pc := 41) dX10_mark_41 rfl rfl ?_
      refine go_iload_n (pc := 42) dX10_mark_42 rfl rfl ?_
      refine go_iconst (pc := 43) (v := 5) dX10_mark_43 (by decide) ?_
      refine go_aload_n (pc := 44) dX10_mark_44 rfl rfl ?_
      refine go_get (pc := 45) fX10_9 rfl (gz_b (by decide)) yw0 rfl dX10_mark_45 ?_
      refine go_iconst (pc := 48) (v := 4) dX10_mark_48 (by decide) ?_
      refine gb_iald (pc := 49) (gz_b (by decide)) yw1 (gv_in (by decide)) dX10_mark_49 (fun v10 ev10 => ?_)
      have h := h v10 ev10
      refine gq_callV_v (pc := 50) (F := wM G o) vX10_82 rfl (tX10_lets h) rfl rfl (gz_b (by decide)) yw0 rfl (Nat.le_of_ble_eq_true rfl) ⟨Nat.le_of_ble_eq_true rfl, Nat.le_of_ble_eq_true rfl, Nat.le_add_right _ _, Nat.le_add_right _ _⟩ dX10_mark_50 (fun c11 h => ?_)
      refine go_aload_n (pc := 53) dX10_mark_53 rfl rfl ?_
      refine go_iload_n (pc := 54) dX10_mark_54 rfl rfl ?_
      refine go_bipush (pc := 55) (v := 6) dX10_mark_55 (by decide) ?_
      refine go_iload_n (pc := 57) dX10_mark_57 rfl rfl ?_
      refine gq_callV_v (pc := 58) (F := wM G o) vX10_82 rfl (tX10_lets h) rfl rfl (gz_b (by decide)) yw0 rfl (Nat.le_of_ble_eq_true rfl) ⟨Nat.le_of_ble_eq_true rfl, Nat.le_of_ble_eq_true rfl, Nat.le_add_right _ _, Nat.le_add_right _ _⟩ dX10_mark_58 (fun c12 h => ?_)
      refine go_aload_n (pc := 61) dX10_mark_61 rfl rfl ?_
      refine go_iload_n (pc := 62) dX10_mark_62 rfl rfl ?_
      refine go_bipush (pc := 63) (v := 7) dX10_mark_63 (by decide) ?_
      refine go_iload_n (pc := 65) dX10_mark_65 rfl rfl ?_
      refine gq_callV_v (pc := 66) (F := wM G o) vX10_82 rfl (tX10_lets h) rfl rfl (gz_b (by decide)) yw0 rfl (Nat.le_of_ble_eq_true rfl) ⟨Nat.le_of_ble_eq_true rfl, Nat.le_of_ble_eq_true rfl, Nat.le_add_right _ _, Nat.le_add_right _ _⟩ dX10_mark_66 (fun c13 h => ?_)
      refine go_aload_n (pc := 69) dX10_mark_69 rfl rfl ?_
      refine go_iload_n (pc := 70) dX10_mark_70 rfl rfl ?_
      refine go_bipush (pc := 71) (v := 8) dX10_mark_71 (by decide) ?_
      refine go_iload (pc := 73) dX10_mark_73 rfl ?_
      refine gq_callV_v (pc := 75) (F := wM G o) vX10_82 rfl (tX10_lets h) rfl rfl (gz_b (by decide)) yw0 rfl (Nat.le_of_ble_eq_true rfl) ⟨Nat.le_of_ble_eq_true rfl, Nat.le_of_ble_eq_true rfl, Nat.le_add_right _ _, Nat.le_add_right _ _⟩ dX10_mark_75 (fun c14 h => ?_)
      refine go_aload_n (pc := 78) dX10_mark_78 rfl rfl ?_
      refine go_iload_n (pc := 79) dX10_mark_79 rfl rfl ?_
      refine go_bipush (pc := 80) (v := 9) dX10_mark_80 (by decide) ?_
      refine go_iconst (pc := 82) (v := 0) dX10_mark_82 (by decide) ?_
      refine gq_callV_v (pc := 83) (F := wM G o) vX10_82 rfl (tX10_lets h) rfl rfl (gz_b (by decide)) yw0 rfl (Nat.le_of_ble_eq_true rfl) ⟨Nat.le_of_ble_eq_true rfl, Nat.le_of_ble_eq_true rfl, Nat.le_add_right _ _, Nat.le_add_right _ _⟩ dX10_mark_83 (fun c15 h => ?_)
      exact gq_vret (pc := 86) (F := wM G o) rfl dX10_mark_86 h
    · have h := h.2 q4
      exact gq_vret (pc := 14) (F := wM G o) rfl dX10_mark_14 h
def wX10_linkAt_p32 (l2 : Int32) (s0 : Int32) (s1 : Int32) (c : gMem) (Q : Int32 → gMem → Prop) : Prop :=
  Q ((s1 + s0) + l2) c
set_option maxRecDepth 100000 in
set_option maxHeartbeats 4000000 in
theorem tX10_linkAt_p32 {l : Launch} {G : gG} {k : Nat} {o : gMem} {Q : Int32 → gMem → Prop} {l2 : Int32} {s0 : Int32} {s1 : Int32} {c : gMem} (h : wX10_linkAt_p32 l2 s0 s1 c Q) : Go l G mX10_linkAt (gbq G 1 22 84 k (qi (wM G o) Q)) 32 [(2, .int l2)] [.int s0, .int s1] 84 k (wM G o c) := by
  unfold wX10_linkAt_p32 at h
  refine go_iadd (pc := 32) dX10_linkAt_32 ?_
  refine go_iload_n (pc := 33) dX10_linkAt_33 rfl rfl ?_
  refine go_iadd (pc := 34) dX10_linkAt_34 ?_
  exact gq_iret (pc := 35) (F := wM G o) rfl dX10_linkAt_35 h
def wX10_linkAt_p27 (l2 : Int32) (s0 : Int32) (c : gMem) (Q : Int32 → gMem → Prop) : Prop :=
  wX10_linkAt_p32 l2 2 s0 c Q
set_option maxRecDepth 100000 in
set_option maxHeartbeats 4000000 in
theorem tX10_linkAt_p27 {l : Launch} {G : gG} {k : Nat} {o : gMem} {Q : Int32 → gMem → Prop} {l2 : Int32} {s0 : Int32} {c : gMem} (h : wX10_linkAt_p27 l2 s0 c Q) : Go l G mX10_linkAt (gbq G 1 22 84 k (qi (wM G o) Q)) 27 [(2, .int l2)] [.int s0] 84 k (wM G o c) := by
  unfold wX10_linkAt_p27 at h
  refine go_iconst (pc := 27) (v := 2) dX10_linkAt_27 (by decide) ?_
  refine go_goto (pc := 28) (tgt := 32) dX10_linkAt_28 (by decide) ?_
  refine go_lv [0] rfl ?_
  exact tX10_linkAt_p32 h
def wX10_linkAt (l1 : Int32) (l2 : Int32) (c : gMem) (Q : Int32 → gMem → Prop) : Prop :=
  wX10_of l1 1 c (fun r2 c1 =>
  wX10_of l1 2 c1 (fun r4 c3 =>
  ((r2 = 1 →
    wX10_linkAt_p27 l2 (6100 + r4) c3 Q) ∧
   (¬ r2 = 1 →
    ((r2 = 5 →
      wX10_linkAt_p27 l2 (6100 + r4) c3 Q) ∧
     (¬ r2 = 5 →
      wX10_linkAt_p32 l2 1 (6100 + r4) c3 Q))))))
set_option maxRecDepth 100000 in
set_option maxHeartbeats 4000000 in
theorem tX10_linkAt {l : Launch} {G : gG} {k : Nat} {o : gMem} {Q : Int32 → gMem → Prop} {l1 : Int32} {l2 : Int32} {c : gMem} (h : wX10_linkAt l1 l2 c Q) : Cq l G mX10_linkAt 1 22 [.ref (G.2.1 + 74), .int l1, .int l2] 84 k (wM G o c) (qi (wM G o) Q) := by
  refine Cq.of (by decide) (Nat.le_of_ble_eq_true rfl) ?_
  show Go l G mX10_linkAt (gbq G 1 22 84 k (qi (wM G o) Q)) 0 [(0, .ref (G.2.1 + 74)), (1, .int l1), (2, .int l2)] [] 84 k (wM G o c)
  unfold wX10_linkAt at h
  refine go_aload_n (pc := 0) dX10_linkAt_0 rfl rfl ?_
  refine go_iload_n (pc := 1) dX10_linkAt_1 rfl rfl ?_
  refine go_iconst (pc := 2) (v := 1) dX10_linkAt_2 (by decide) ?_
  refine gq_callV_i (pc := 3) (F := wM G o) vX10_71 rfl (tX10_of h) rfl rfl (gz_b (by decide)) yw0 rfl (Nat.le_of_ble_eq_true rfl) ⟨Nat.le_of_ble_eq_true rfl, Nat.le_of_ble_eq_true rfl, Nat.le_add_right _ _, Nat.le_add_right _ _⟩ dX10_linkAt_3 (fun r2 c1 h => ?_)
  refine go_istore_n (pc := 6) (lv' := [(3, .int r2), (0, .ref (G.2.1 + 74)), (1, .int l1), (2, .int l2)]) dX10_linkAt_6 rfl (by decide) rfl ?_
  refine go_sipush (pc := 7) (v := 6100) dX10_linkAt_7 (by decide) ?_
  refine go_aload_n (pc := 10) dX10_linkAt_10 rfl rfl ?_
  refine go_iload_n (pc := 11) dX10_linkAt_11 rfl rfl ?_
  refine go_iconst (pc := 12) (v := 2) dX10_linkAt_12 (by decide) ?_
  refine gq_callV_i (pc := 13) (F := wM G o) vX10_71 rfl (tX10_of h) rfl rfl (gz_b (by decide)) yw0 rfl (Nat.le_of_ble_eq_true rfl) ⟨Nat.le_of_ble_eq_true rfl, Nat.le_of_ble_eq_true rfl, Nat.le_add_right _ _, Nat.le_add_right _ _⟩ dX10_linkAt_13 (fun r4 c3 h => ?_)
  refine go_iadd (pc := 16) dX10_linkAt_16 ?_
  refine go_iload_n (pc := 17) dX10_linkAt_17 rfl rfl ?_
  refine go_iconst (pc := 18) (v := 1) dX10_linkAt_18 (by decide) ?_
  refine go_icmp_eq (pc := 19) (tgt := 27) dX10_linkAt_19 (by decide) (fun q5 => ?_) (fun q5 => ?_)
  · have h := h.1 q5
    refine go_lv [3] rfl ?_
    exact tX10_linkAt_p27 h
  · have h := h.2 q5
    refine go_iload_n (pc := 22) dX10_linkAt_22 rfl rfl ?_
    refine go_iconst (pc := 23) (v := 5) dX10_linkAt_23 (by decide) ?_
    refine go_icmp_ne (pc := 24) (tgt := 31) dX10_linkAt_24 (by decide) (fun q6 => ?_) (fun q6 => ?_)
    · have h := h.2 q6
      refine go_iconst (pc := 31) (v := 1) dX10_linkAt_31 (by decide) ?_
      refine go_lv [3] rfl ?_
      exact tX10_linkAt_p32 h
    · have h := h.1 q6
      refine go_lv [3] rfl ?_
      exact tX10_linkAt_p27 h
def wX10_sizeAt (l1 : Int32) (c : gMem) (Q : Int32 → gMem → Prop) : Prop :=
  wX10_of l1 1 c (fun r2 c1 =>
  wX10_of l1 3 c1 (fun r4 c3 =>
  wX10_sizeOf r2 r4 c3 (fun r6 c5 =>
  Q r6 c5)))
set_option maxRecDepth 100000 in
set_option maxHeartbeats 4000000 in
theorem tX10_sizeAt {l : Launch} {G : gG} {k : Nat} {o : gMem} {Q : Int32 → gMem → Prop} {l1 : Int32} {c : gMem} (h : wX10_sizeAt l1 c Q) : Cq l G mX10_sizeAt 1 22 [.ref (G.2.1 + 74), .int l1] 84 k (wM G o c) (qi (wM G o) Q) := by
  refine Cq.of (by decide) (Nat.le_of_ble_eq_true rfl) ?_
  show Go l G mX10_sizeAt (gbq G 1 22 84 k (qi (wM G o) Q)) 0 [(0, .ref (G.2.1 + 74)), (1, .int l1)] [] 84 k (wM G o c)
  unfold wX10_sizeAt at h
  refine go_aload_n (pc := 0) dX10_sizeAt_0 rfl rfl ?_
  refine go_iload_n (pc := 1) dX10_sizeAt_1 rfl rfl ?_
  refine go_iconst (pc := 2) (v := 1) dX10_sizeAt_2 (by decide) ?_
  refine gq_callV_i (pc := 3) (F := wM G o) vX10_71 rfl (tX10_of h) rfl rfl (gz_b (by decide)) yw0 rfl (Nat.le_of_ble_eq_true rfl) ⟨Nat.le_of_ble_eq_true rfl, Nat.le_of_ble_eq_true rfl, Nat.le_add_right _ _, Nat.le_add_right _ _⟩ dX10_sizeAt_3 (fun r2 c1 h => ?_)
  refine go_aload_n (pc := 6) dX10_sizeAt_6 rfl rfl ?_
  refine go_iload_n (pc := 7) dX10_sizeAt_7 rfl rfl ?_
  refine go_iconst (pc := 8) (v := 3) dX10_sizeAt_8 (by decide) ?_
  refine gq_callV_i (pc := 9) (F := wM G o) vX10_71 rfl (tX10_of h) rfl rfl (gz_b (by decide)) yw0 rfl (Nat.le_of_ble_eq_true rfl) ⟨Nat.le_of_ble_eq_true rfl, Nat.le_of_ble_eq_true rfl, Nat.le_add_right _ _, Nat.le_add_right _ _⟩ dX10_sizeAt_9 (fun r4 c3 h => ?_)
  refine gq_callS_i (pc := 12) (F := wM G o) sX10_75 rfl (tX10_sizeOf h) rfl rfl (Nat.le_of_ble_eq_true rfl) ⟨Nat.le_of_ble_eq_true rfl, Nat.le_of_ble_eq_true rfl, Nat.le_add_right _ _, Nat.le_add_right _ _⟩ dX10_sizeAt_12 (fun r6 c5 h => ?_)
  exact gq_iret (pc := 15) (F := wM G o) rfl dX10_sizeAt_15 h
def wX10_comes (l1 : Int32) (l2 : Int32) (c : gMem) (Q : Int32 → gMem → Prop) : Prop :=
  ((l1 = (-1) →
    Q l2 c) ∧
   (¬ l1 = (-1) →
    vp_in l1 500 ∧
    ∀ v2, v2 = c 7 l1.toNatClampNeg →
    ((v2 = 0 →
      vp_in l1 500 ∧
      ∀ c5, c5 = mp c 7 l1.toNatClampNeg 1 →
      vp_in l2 500 ∧
      ∀ c7, c7 = mp c5 6 l2.toNatClampNeg l1 →
      Q (l2 + 1) c7) ∧
     (¬ v2 = 0 →
      Q l2 c))))
set_option maxRecDepth 100000 in
set_option maxHeartbeats 4000000 in
theorem tX10_comes {l : Launch} {G : gG} {k : Nat} {o : gMem} {Q : Int32 → gMem → Prop} {l1 : Int32} {l2 : Int32} {c : gMem} (h : wX10_comes l1 l2 c Q) : Cq l G mX10_comes 0 0 [.ref (G.2.1 + 74), .int l1, .int l2] 84 k (wM G o c) (qi (wM G o) Q) := by
  refine Cq.of (by decide) (Nat.le_of_ble_eq_true rfl) ?_
  show Go l G mX10_comes (gbq G 0 0 84 k (qi (wM G o) Q)) 0 [(0, .ref (G.2.1 + 74)), (1, .int l1), (2, .int l2)] [] 84 k (wM G o c)
  unfold wX10_comes at h
  refine go_iload_n (pc := 0) dX10_comes_0 rfl rfl ?_
  refine go_iconst (pc := 1) (v := (-1)) dX10_comes_1 (by decide) ?_
  refine go_icmp_eq (pc := 2) (tgt := 14) dX10_comes_2 (by decide) (fun q1 => ?_) (fun q1 => ?_)
  · have h := h.1 q1
    refine go_iload_n (pc := 14) dX10_comes_14 rfl rfl ?_
    exact gq_iret (pc := 15) (F := wM G o) rfl dX10_comes_15 h
  · have h := h.2 q1
    refine go_aload_n (pc := 5) dX10_comes_5 rfl rfl ?_
    refine go_get (pc := 6) fX10_28 rfl (gz_b (by decide)) yw0 rfl dX10_comes_6 ?_
    refine go_iload_n (pc := 9) dX10_comes_9 rfl rfl ?_
    obtain ⟨b3, h⟩ := h
    refine gb_zald (pc := 10) (gz_b (by decide)) yw7 b3 dX10_comes_10 (fun v2 ev2 => ?_)
    have h := h v2 ev2
    refine go_if_eq (pc := 11) (tgt := 16) dX10_comes_11 (by decide) (fun q4 => ?_) (fun q4 => ?_)
    · have h := h.1 q4
      refine go_aload_n (pc := 16) dX10_comes_16 rfl rfl ?_
      refine go_get (pc := 17) fX10_28 rfl (gz_b (by decide)) yw0 rfl dX10_comes_17 ?_
      refine go_iload_n (pc := 20) dX10_comes_20 rfl rfl ?_
      refine go_iconst (pc := 21) (v := 1) dX10_comes_21 (by decide) ?_
      obtain ⟨b6, h⟩ := h
      refine gb_zast (pc := 22) (F := wM G o) (y := 1) (gz_b (by decide)) yw7 b6 (by decide) ya7 dX10_comes_22 (fun c5 ec5 => ?_)
      have h := h c5 ec5
      refine go_aload_n (pc := 23) dX10_comes_23 rfl rfl ?_
      refine go_get (pc := 24) fX10_25 rfl (gz_b (by decide)) yw0 rfl dX10_comes_24 ?_
      refine go_iload_n (pc := 27) dX10_comes_27 rfl rfl ?_
      refine go_iload_n (pc := 28) dX10_comes_28 rfl rfl ?_
      obtain ⟨b8, h⟩ := h
      refine gb_iast (pc := 29) (F := wM G o) (gz_b (by decide)) yw6 b8 ya6 dX10_comes_29 (fun c7 ec7 => ?_)
      have h := h c7 ec7
      refine go_iload_n (pc := 30) dX10_comes_30 rfl rfl ?_
      refine go_iconst (pc := 31) (v := 1) dX10_comes_31 (by decide) ?_
      refine go_iadd (pc := 32) dX10_comes_32 ?_
      exact gq_iret (pc := 33) (F := wM G o) rfl dX10_comes_33 h
    · have h := h.2 q4
      refine go_iload_n (pc := 14) dX10_comes_14 rfl rfl ?_
      exact gq_iret (pc := 15) (F := wM G o) rfl dX10_comes_15 h
def wX10_reached_p90_b (P57 : Int32 → Int32 → Int32 → gMem → Prop) (P90 : Int32 → Int32 → Int32 → Int32 → Int32 → Int32 → gMem → Prop) (l1 : Int32) (l2 : Int32) (l3 : Int32) (l4 : Int32) (l5 : Int32) (l6 : Int32) (c : gMem) (Q : Int32 → gMem → Prop) : Prop :=
  ((l5 ≤ l6 →
    P57 l1 l2 (l3 + 1) c) ∧
   (¬ l5 ≤ l6 →
    wX10_linkAt l4 l6 c (fun r3 c2 =>
    vp_in r3 26100 ∧
    ∀ v4, v4 = c2 1 r3.toNatClampNeg →
    wX10_comes v4 l1 c2 (fun r7 c6 =>
    P90 r7 l2 l3 l4 l5 (l6 + 1) c6))))
def wX10_reached_p90 (P57 : Int32 → Int32 → Int32 → gMem → Prop) (l1 : Int32) (l2 : Int32) (l3 : Int32) (l4 : Int32) (l5 : Int32) (l6 : Int32) (c : gMem) (Q : Int32 → gMem → Prop) : Prop :=
  ∀ P90 : Int32 → Int32 → Int32 → Int32 → Int32 → Int32 → gMem → Prop, (∀ (l1 : Int32) (l2 : Int32) (l3 : Int32) (l4 : Int32) (l5 : Int32) (l6 : Int32) (c : gMem), wX10_reached_p90_b P57 P90 l1 l2 l3 l4 l5 l6 c Q → P90 l1 l2 l3 l4 l5 l6 c) → P90 l1 l2 l3 l4 l5 l6 c
set_option maxRecDepth 100000 in
set_option maxHeartbeats 4000000 in
theorem tX10_reached_p90_b {l : Launch} {G : gG} {k : Nat} {o : gMem} {Q : Int32 → gMem → Prop} {P57 : Int32 → Int32 → Int32 → gMem → Prop} (hP57 : ∀ (l1 : Int32) (l2 : Int32) (l3 : Int32) (c : gMem), P57 l1 l2 l3 c → Go l G mX10_reached (gbq G 2 45 84 k (qi (wM G o) Q)) 57 [(0, .ref (G.2.1 + 74)), (1, .int l1), (2, .int l2), (3, .int l3)] [] 84 k (wM G o c)) {P90 : Int32 → Int32 → Int32 → Int32 → Int32 → Int32 → gMem → Prop} (hP90 : ∀ (l1 : Int32) (l2 : Int32) (l3 : Int32) (l4 : Int32) (l5 : Int32) (l6 : Int32) (c : gMem), P90 l1 l2 l3 l4 l5 l6 c → Go l G mX10_reached (gbq G 2 45 84 k (qi (wM G o) Q)) 90 [(0, .ref (G.2.1 + 74)), (1, .int l1), (2, .int l2), (3, .int l3), (4, .int l4), (5, .int l5), (6, .int l6)] [] 84 k (wM G o c)) {l1 : Int32} {l2 : Int32} {l3 : Int32} {l4 : Int32} {l5 : Int32} {l6 : Int32} {c : gMem} (h : wX10_reached_p90_b P57 P90 l1 l2 l3 l4 l5 l6 c Q) : Go l G mX10_reached (gbq G 2 45 84 k (qi (wM G o) Q)) 90 [(0, .ref (G.2.1 + 74)), (1, .int l1), (2, .int l2), (3, .int l3), (4, .int l4), (5, .int l5), (6, .int l6)] [] 84 k (wM G o c) := by
  unfold wX10_reached_p90_b at h
  refine go_iload (pc := 90) dX10_reached_90 rfl ?_
  refine go_iload (pc := 92) dX10_reached_92 rfl ?_
  refine go_icmp_ge (pc := 94) (tgt := 122) dX10_reached_94 (by decide) (fun q1 => ?_) (fun q1 => ?_)
  · have h := h.1 q1
    refine go_iinc (pc := 122) (v := l3 + 1) (lv' := [(3, .int (l3 + 1)), (0, .ref (G.2.1 + 74)), (1, .int l1), (2, .int l2), (4, .int l4), (5, .int l5), (6, .int l6)]) dX10_reached_122 3 rfl (by first | rfl | decide) (by decide) rfl ?_
    refine go_goto (pc := 125) (tgt := 57) dX10_reached_125 (by decide) ?_
    refine go_lv [1, 2, 3, 0] rfl ?_
    exact hP57 _ _ _ _ h
  · have h := h.2 q1
    refine go_aload_n (pc := 97) dX10_reached_97 rfl rfl ?_
    refine go_aload_n (pc := 98) dX10_reached_98 rfl rfl ?_
    refine go_get (pc := 99) fX10_9 rfl (gz_b (by decide)) yw0 rfl dX10_reached_99 ?_
    refine go_aload_n (pc := 102) dX10_reached_102 rfl rfl ?_
    refine go_iload (pc := 103) dX10_reached_103 rfl ?_
    refine go_iload (pc := 105) dX10_reached_105 rfl ?_
    refine gq_callV_i (pc := 107) (F := wM G o) vX10_98 rfl (tX10_linkAt h) rfl rfl (gz_b (by decide)) yw0 rfl (Nat.le_of_ble_eq_true rfl) ⟨Nat.le_of_ble_eq_true rfl, Nat.le_of_ble_eq_true rfl, Nat.le_add_right _ _, Nat.le_add_right _ _⟩ dX10_reached_107 (fun r3 c2 h => ?_)
    obtain ⟨b5, h⟩ := h
    refine gb_iald (pc := 110) (gz_b (by decide)) yw1 b5 dX10_reached_110 (fun v4 ev4 => ?_)
    have h := h v4 ev4
    refine go_iload_n (pc := 111) dX10_reached_111 rfl rfl ?_
    refine gq_callV_i (pc := 112) (F := wM G o) vX10_135 rfl (tX10_comes h) rfl rfl (gz_b (by decide)) yw0 rfl (Nat.le_of_ble_eq_true rfl) ⟨Nat.le_of_ble_eq_true rfl, Nat.le_of_ble_eq_true rfl, Nat.le_add_right _ _, Nat.le_add_right _ _⟩ dX10_reached_112 (fun r7 c6 h => ?_)
    refine go_istore_n (pc := 115) (lv' := [(1, .int r7), (0, .ref (G.2.1 + 74)), (2, .int l2), (3, .int l3), (4, .int l4), (5, .int l5), (6, .int l6)]) dX10_reached_115 rfl (by decide) rfl ?_
    refine go_iinc (pc := 116) (v := l6 + 1) (lv' := [(6, .int (l6 + 1)), (1, .int r7), (0, .ref (G.2.1 + 74)), (2, .int l2), (3, .int l3), (4, .int l4), (5, .int l5)]) dX10_reached_116 6 rfl (by first | rfl | decide) (by decide) rfl ?_
    refine go_goto (pc := 119) (tgt := 90) dX10_reached_119 (by decide) ?_
    refine go_lv [2, 1, 3, 4, 5, 6, 0] rfl ?_
    exact hP90 _ _ _ _ _ _ _ h
set_option maxRecDepth 100000 in
set_option maxHeartbeats 4000000 in
theorem tX10_reached_p90 {l : Launch} {G : gG} {k : Nat} {o : gMem} {Q : Int32 → gMem → Prop} {P57 : Int32 → Int32 → Int32 → gMem → Prop} (hP57 : ∀ (l1 : Int32) (l2 : Int32) (l3 : Int32) (c : gMem), P57 l1 l2 l3 c → Go l G mX10_reached (gbq G 2 45 84 k (qi (wM G o) Q)) 57 [(0, .ref (G.2.1 + 74)), (1, .int l1), (2, .int l2), (3, .int l3)] [] 84 k (wM G o c)) {l1 : Int32} {l2 : Int32} {l3 : Int32} {l4 : Int32} {l5 : Int32} {l6 : Int32} {c : gMem} (h : wX10_reached_p90 P57 l1 l2 l3 l4 l5 l6 c Q) : Go l G mX10_reached (gbq G 2 45 84 k (qi (wM G o) Q)) 90 [(0, .ref (G.2.1 + 74)), (1, .int l1), (2, .int l2), (3, .int l3), (4, .int l4), (5, .int l5), (6, .int l6)] [] 84 k (wM G o c) :=
  h (fun l1 l2 l3 l4 l5 l6 c => Go l G mX10_reached (gbq G 2 45 84 k (qi (wM G o) Q)) 90 [(0, .ref (G.2.1 + 74)), (1, .int l1), (2, .int l2), (3, .int l3), (4, .int l4), (5, .int l5), (6, .int l6)] [] 84 k (wM G o c)) (fun l1 l2 l3 l4 l5 l6 c hb => tX10_reached_p90_b hP57 (fun l1 l2 l3 l4 l5 l6 c hh => hh) hb)
def wX10_reached_p57_b (P57 : Int32 → Int32 → Int32 → gMem → Prop) (l1 : Int32) (l2 : Int32) (l3 : Int32) (c : gMem) (Q : Int32 → gMem → Prop) : Prop :=
  ((l1 ≤ l3 →
    Q l2 c) ∧
   (¬ l1 ≤ l3 →
    vp_in l3 500 ∧
    ∀ v2, v2 = c 6 l3.toNatClampNeg →
    wX10_sizeAt v2 c (fun r5 c4 =>
    wX10_linksOf v2 c4 (fun r7 c6 =>
    wX10_reached_p90 P57 l1 (l2 + r5) l3 v2 r7 0 c6 Q))))
def wX10_reached_p57 (l1 : Int32) (l2 : Int32) (l3 : Int32) (c : gMem) (Q : Int32 → gMem → Prop) : Prop :=
  ∀ P57 : Int32 → Int32 → Int32 → gMem → Prop, (∀ (l1 : Int32) (l2 : Int32) (l3 : Int32) (c : gMem), wX10_reached_p57_b P57 l1 l2 l3 c Q → P57 l1 l2 l3 c) → P57 l1 l2 l3 c
set_option maxRecDepth 100000 in
set_option maxHeartbeats 4000000 in
theorem tX10_reached_p57_b {l : Launch} {G : gG} {k : Nat} {o : gMem} {Q : Int32 → gMem → Prop} {P57 : Int32 → Int32 → Int32 → gMem → Prop} (hP57 : ∀ (l1 : Int32) (l2 : Int32) (l3 : Int32) (c : gMem), P57 l1 l2 l3 c → Go l G mX10_reached (gbq G 2 45 84 k (qi (wM G o) Q)) 57 [(0, .ref (G.2.1 + 74)), (1, .int l1), (2, .int l2), (3, .int l3)] [] 84 k (wM G o c)) {l1 : Int32} {l2 : Int32} {l3 : Int32} {c : gMem} (h : wX10_reached_p57_b P57 l1 l2 l3 c Q) : Go l G mX10_reached (gbq G 2 45 84 k (qi (wM G o) Q)) 57 [(0, .ref (G.2.1 + 74)), (1, .int l1), (2, .int l2), (3, .int l3)] [] 84 k (wM G o c) := by
  unfold wX10_reached_p57_b at h
  refine go_iload_n (pc := 57) dX10_reached_57 rfl rfl ?_
  refine go_iload_n (pc := 58) dX10_reached_58 rfl rfl ?_
  refine go_icmp_ge (pc := 59) (tgt := 128) dX10_reached_59 (by decide) (fun q1 => ?_) (fun q1 => ?_)
  · have h := h.1 q1
    refine go_iload_n (pc := 128) dX10_reached_128 rfl rfl ?_
    exact gq_iret (pc := 129) (F := wM G o) rfl dX10_reached_129 h
  · have h := h.2 q1
    refine go_aload_n (pc := 62) dX10_reached_62 rfl rfl ?_
    refine go_get (pc := 63) fX10_25 rfl (gz_b (by decide)) yw0 rfl dX10_reached_63 ?_
    refine go_iload_n (pc := 66) dX10_reached_66 rfl rfl ?_
    obtain ⟨b3, h⟩ := h
    refine gb_iald (pc := 67) (gz_b (by decide)) yw6 b3 dX10_reached_67 (fun v2 ev2 => ?_)
    have h := h v2 ev2
    refine go_istore (pc := 68) (lv' := [(4, .int v2), (0, .ref (G.2.1 + 74)), (1, .int l1), (2, .int l2), (3, .int l3)]) dX10_reached_68 (by decide) rfl ?_
    refine go_iload_n (pc := 70) dX10_reached_70 rfl rfl ?_
    refine go_aload_n (pc := 71) dX10_reached_71 rfl rfl ?_
    refine go_iload (pc := 72) dX10_reached_72 rfl ?_
    refine gq_callV_i (pc := 74) (F := wM G o) vX10_126 rfl (tX10_sizeAt h) rfl rfl (gz_b (by decide)) yw0 rfl (Nat.le_of_ble_eq_true rfl) ⟨Nat.le_of_ble_eq_true rfl, Nat.le_of_ble_eq_true rfl, Nat.le_add_right _ _, Nat.le_add_right _ _⟩ dX10_reached_74 (fun r5 c4 h => ?_)
    refine go_iadd (pc := 77) dX10_reached_77 ?_
    refine go_istore_n (pc := 78) (lv' := [(2, .int (l2 + r5)), (4, .int v2), (0, .ref (G.2.1 + 74)), (1, .int l1), (3, .int l3)]) dX10_reached_78 rfl (by decide) rfl ?_
    refine go_aload_n (pc := 79) dX10_reached_79 rfl rfl ?_
    refine go_iload (pc := 80) dX10_reached_80 rfl ?_
    refine gq_callV_i (pc := 82) (F := wM G o) vX10_90 rfl (tX10_linksOf h) rfl rfl (gz_b (by decide)) yw0 rfl (Nat.le_of_ble_eq_true rfl) ⟨Nat.le_of_ble_eq_true rfl, Nat.le_of_ble_eq_true rfl, Nat.le_add_right _ _, Nat.le_add_right _ _⟩ dX10_reached_82 (fun r7 c6 h => ?_)
    refine go_istore (pc := 85) (lv' := [(5, .int r7), (2, .int (l2 + r5)), (4, .int v2), (0, .ref (G.2.1 + 74)), (1, .int l1), (3, .int l3)]) dX10_reached_85 (by decide) rfl ?_
    refine go_iconst (pc := 87) (v := 0) dX10_reached_87 (by decide) ?_
    refine go_istore (pc := 88) (lv' := [(6, .int 0), (5, .int r7), (2, .int (l2 + r5)), (4, .int v2), (0, .ref (G.2.1 + 74)), (1, .int l1), (3, .int l3)]) dX10_reached_88 (by decide) rfl ?_
    refine go_lv [4, 5, 2, 6, 3, 1, 0] rfl ?_
    exact tX10_reached_p90 hP57 h
set_option maxRecDepth 100000 in
set_option maxHeartbeats 4000000 in
theorem tX10_reached_p57 {l : Launch} {G : gG} {k : Nat} {o : gMem} {Q : Int32 → gMem → Prop} {l1 : Int32} {l2 : Int32} {l3 : Int32} {c : gMem} (h : wX10_reached_p57 l1 l2 l3 c Q) : Go l G mX10_reached (gbq G 2 45 84 k (qi (wM G o) Q)) 57 [(0, .ref (G.2.1 + 74)), (1, .int l1), (2, .int l2), (3, .int l3)] [] 84 k (wM G o c) :=
  h (fun l1 l2 l3 c => Go l G mX10_reached (gbq G 2 45 84 k (qi (wM G o) Q)) 57 [(0, .ref (G.2.1 + 74)), (1, .int l1), (2, .int l2), (3, .int l3)] [] 84 k (wM G o c)) (fun l1 l2 l3 c hb => tX10_reached_p57_b (fun l1 l2 l3 c hh => hh) hb)
def wX10_reached_p26_b (P26 : Int32 → Int32 → gMem → Prop) (l1 : Int32) (l2 : Int32) (c : gMem) (Q : Int32 → gMem → Prop) : Prop :=
  ((24 ≤ l2 →
    wX10_reached_p57 l1 0 0 c Q) ∧
   (¬ 24 ≤ l2 →
    vp_in (20 + l2) 26100 ∧
    ∀ v2, v2 = c 1 (20 + l2).toNatClampNeg →
    wX10_comes v2 l1 c (fun r5 c4 =>
    P26 r5 (l2 + 1) c4)))
def wX10_reached_p26 (l1 : Int32) (l2 : Int32) (c : gMem) (Q : Int32 → gMem → Prop) : Prop :=
  ∀ P26 : Int32 → Int32 → gMem → Prop, (∀ (l1 : Int32) (l2 : Int32) (c : gMem), wX10_reached_p26_b P26 l1 l2 c Q → P26 l1 l2 c) → P26 l1 l2 c
set_option maxRecDepth 100000 in
set_option maxHeartbeats 4000000 in
theorem tX10_reached_p26_b {l : Launch} {G : gG} {k : Nat} {o : gMem} {Q : Int32 → gMem → Prop} {P26 : Int32 → Int32 → gMem → Prop} (hP26 : ∀ (l1 : Int32) (l2 : Int32) (c : gMem), P26 l1 l2 c → Go l G mX10_reached (gbq G 2 45 84 k (qi (wM G o) Q)) 26 [(0, .ref (G.2.1 + 74)), (1, .int l1), (2, .int l2)] [] 84 k (wM G o c)) {l1 : Int32} {l2 : Int32} {c : gMem} (h : wX10_reached_p26_b P26 l1 l2 c Q) : Go l G mX10_reached (gbq G 2 45 84 k (qi (wM G o) Q)) 26 [(0, .ref (G.2.1 + 74)), (1, .int l1), (2, .int l2)] [] 84 k (wM G o c) := by
  unfold wX10_reached_p26_b at h
  refine go_iload_n (pc := 26) dX10_reached_26 rfl rfl ?_
  refine go_bipush (pc := 27) (v := 24) dX10_reached_27 (by decide) ?_
  refine go_icmp_ge (pc := 29) (tgt := 53) dX10_reached_29 (by decide) (fun q1 => ?_) (fun q1 => ?_)
  · have h := h.1 q1
    refine go_iconst (pc := 53) (v := 0) dX10_reached_53 (by decide) ?_
    refine go_istore_n (pc := 54) (lv' := [(2, .int 0), (0, .ref (G.2.1 + 74)), (1, .int l1)]) dX10_reached_54 rfl (by decide) rfl ?_
    refine go_iconst (pc := 55) (v := 0) dX10_reached_55 (by decide) ?_
    refine go_istore_n (pc := 56) (lv' := [(3, .int 0), (2, .int 0), (0, .ref (G.2.1 + 74)), (1, .int l1)]) dX10_reached_56 rfl (by decide) rfl ?_
    refine go_lv [2, 3, 1, 0] rfl ?_
    exact tX10_reached_p57 h
  · have h := h.2 q1
    refine go_aload_n (pc := 32) dX10_reached_32 rfl rfl ?_
    refine go_aload_n (pc := 33) dX10_reached_33 rfl rfl ?_
    refine go_get (pc := 34) fX10_9 rfl (gz_b (by decide)) yw0 rfl dX10_reached_34 ?_
    refine go_bipush (pc := 37) (v := 20) dX10_reached_37 (by decide) ?_
    refine go_iload_n (pc := 39) dX10_reached_39 rfl rfl ?_
    refine go_iadd (pc := 40) dX10_reached_40 ?_
    obtain ⟨b3, h⟩ := h
    refine gb_iald (pc := 41) (gz_b (by decide)) yw1 b3 dX10_reached_41 (fun v2 ev2 => ?_)
    have h := h v2 ev2
    refine go_iload_n (pc := 42) dX10_reached_42 rfl rfl ?_
    refine gq_callV_i (pc := 43) (F := wM G o) vX10_135 rfl (tX10_comes h) rfl rfl (gz_b (by decide)) yw0 rfl (Nat.le_of_ble_eq_true rfl) ⟨Nat.le_of_ble_eq_true rfl, Nat.le_of_ble_eq_true rfl, Nat.le_add_right _ _, Nat.le_add_right _ _⟩ dX10_reached_43 (fun r5 c4 h => ?_)
    refine go_istore_n (pc := 46) (lv' := [(1, .int r5), (0, .ref (G.2.1 + 74)), (2, .int l2)]) dX10_reached_46 rfl (by decide) rfl ?_
    refine go_iinc (pc := 47) (v := l2 + 1) (lv' := [(2, .int (l2 + 1)), (1, .int r5), (0, .ref (G.2.1 + 74))]) dX10_reached_47 2 rfl (by first | rfl | decide) (by decide) rfl ?_
    refine go_goto (pc := 50) (tgt := 26) dX10_reached_50 (by decide) ?_
    refine go_lv [2, 1, 0] rfl ?_
    exact hP26 _ _ _ h
set_option maxRecDepth 100000 in
set_option maxHeartbeats 4000000 in
theorem tX10_reached_p26 {l : Launch} {G : gG} {k : Nat} {o : gMem} {Q : Int32 → gMem → Prop} {l1 : Int32} {l2 : Int32} {c : gMem} (h : wX10_reached_p26 l1 l2 c Q) : Go l G mX10_reached (gbq G 2 45 84 k (qi (wM G o) Q)) 26 [(0, .ref (G.2.1 + 74)), (1, .int l1), (2, .int l2)] [] 84 k (wM G o c) :=
  h (fun l1 l2 c => Go l G mX10_reached (gbq G 2 45 84 k (qi (wM G o) Q)) 26 [(0, .ref (G.2.1 + 74)), (1, .int l1), (2, .int l2)] [] 84 k (wM G o c)) (fun l1 l2 c hb => tX10_reached_p26_b (fun l1 l2 c hh => hh) hb)
def wX10_reached_p2_b (P2 : Int32 → gMem → Prop) (l1 : Int32) (c : gMem) (Q : Int32 → gMem → Prop) : Prop :=
  ((500 ≤ l1 →
    wX10_reached_p26 0 0 c Q) ∧
   (¬ 500 ≤ l1 →
    vp_in l1 500 ∧
    ∀ c2, c2 = mp c 7 l1.toNatClampNeg 0 →
    P2 (l1 + 1) c2))
def wX10_reached_p2 (l1 : Int32) (c : gMem) (Q : Int32 → gMem → Prop) : Prop :=
  ∀ P2 : Int32 → gMem → Prop, (∀ (l1 : Int32) (c : gMem), wX10_reached_p2_b P2 l1 c Q → P2 l1 c) → P2 l1 c
set_option maxRecDepth 100000 in
set_option maxHeartbeats 4000000 in
theorem tX10_reached_p2_b {l : Launch} {G : gG} {k : Nat} {o : gMem} {Q : Int32 → gMem → Prop} {P2 : Int32 → gMem → Prop} (hP2 : ∀ (l1 : Int32) (c : gMem), P2 l1 c → Go l G mX10_reached (gbq G 2 45 84 k (qi (wM G o) Q)) 2 [(0, .ref (G.2.1 + 74)), (1, .int l1)] [] 84 k (wM G o c)) {l1 : Int32} {c : gMem} (h : wX10_reached_p2_b P2 l1 c Q) : Go l G mX10_reached (gbq G 2 45 84 k (qi (wM G o) Q)) 2 [(0, .ref (G.2.1 + 74)), (1, .int l1)] [] 84 k (wM G o c) := by
  unfold wX10_reached_p2_b at h
  refine go_iload_n (pc := 2) dX10_reached_2 rfl rfl ?_
  refine go_sipush (pc := 3) (v := 500) dX10_reached_3 (by decide) ?_
  refine go_icmp_ge (pc := 6) (tgt := 22) dX10_reached_6 (by decide) (fun q1 => ?_) (fun q1 => ?_)
  · have h := h.1 q1
    refine go_iconst (pc := 22) (v := 0) dX10_reached_22 (by decide) ?_
    refine go_istore_n (pc := 23) (lv' := [(1, .int 0), (0, .ref (G.2.1 + 74))]) dX10_reached_23 rfl (by decide) rfl ?_
    refine go_iconst (pc := 24) (v := 0) dX10_reached_24 (by decide) ?_
    refine go_istore_n (pc := 25) (lv' := [(2, .int 0), (1, .int 0), (0, .ref (G.2.1 + 74))]) dX10_reached_25 rfl (by decide) rfl ?_
    refine go_lv [2, 1, 0] rfl ?_
    exact tX10_reached_p26 h
  · have h := h.2 q1
    refine go_aload_n (pc := 9) dX10_reached_9 rfl rfl ?_
    refine go_get (pc := 10) fX10_28 rfl (gz_b (by decide)) yw0 rfl dX10_reached_10 ?_
    refine go_iload_n (pc := 13) dX10_reached_13 rfl rfl ?_
    refine go_iconst (pc := 14) (v := 0) dX10_reached_14 (by decide) ?_
    obtain ⟨b3, h⟩ := h
    refine gb_zast (pc := 15) (F := wM G o) (y := 0) (gz_b (by decide)) yw7 b3 (by decide) ya7 dX10_reached_15 (fun c2 ec2 => ?_)
    have h := h c2 ec2
    refine go_iinc (pc := 16) (v := l1 + 1) (lv' := [(1, .int (l1 + 1)), (0, .ref (G.2.1 + 74))]) dX10_reached_16 1 rfl (by first | rfl | decide) (by decide) rfl ?_
    refine go_goto (pc := 19) (tgt := 2) dX10_reached_19 (by decide) ?_
    refine go_lv [1, 0] rfl ?_
    exact hP2 _ _ h
set_option maxRecDepth 100000 in
set_option maxHeartbeats 4000000 in
theorem tX10_reached_p2 {l : Launch} {G : gG} {k : Nat} {o : gMem} {Q : Int32 → gMem → Prop} {l1 : Int32} {c : gMem} (h : wX10_reached_p2 l1 c Q) : Go l G mX10_reached (gbq G 2 45 84 k (qi (wM G o) Q)) 2 [(0, .ref (G.2.1 + 74)), (1, .int l1)] [] 84 k (wM G o c) :=
  h (fun l1 c => Go l G mX10_reached (gbq G 2 45 84 k (qi (wM G o) Q)) 2 [(0, .ref (G.2.1 + 74)), (1, .int l1)] [] 84 k (wM G o c)) (fun l1 c hb => tX10_reached_p2_b (fun l1 c hh => hh) hb)
def wX10_reached (c : gMem) (Q : Int32 → gMem → Prop) : Prop :=
  wX10_reached_p2 0 c Q
set_option maxRecDepth 100000 in
set_option maxHeartbeats 4000000 in
theorem tX10_reached {l : Launch} {G : gG} {k : Nat} {o : gMem} {Q : Int32 → gMem → Prop} {c : gMem} (h : wX10_reached c Q) : Cq l G mX10_reached 2 45 [.ref (G.2.1 + 74)] 84 k (wM G o c) (qi (wM G o) Q) := by
  refine Cq.of (by decide) (Nat.le_of_ble_eq_true rfl) ?_
  show Go l G mX10_reached (gbq G 2 45 84 k (qi (wM G o) Q)) 0 [(0, .ref (G.2.1 + 74))] [] 84 k (wM G o c)
  unfold wX10_reached at h
  refine go_iconst (pc := 0) (v := 0) dX10_reached_0 (by decide) ?_
  refine go_istore_n (pc := 1) (lv' := [(1, .int 0), (0, .ref (G.2.1 + 74))]) dX10_reached_1 rfl (by decide) rfl ?_
  refine go_lv [1, 0] rfl ?_
  exact tX10_reached_p2 h
def wX10_isLeft_p75 (c : gMem) (Q : Int32 → gMem → Prop) : Prop :=
  ∀ v1, v1 = c 1 17 →
  ∀ v2, v2 = c 1 4 →
  ((v2 ≤ v1 →
    Q 0 c) ∧
   (¬ v2 ≤ v1 →
    Q 1 c))
set_option maxRecDepth 100000 in
set_option maxHeartbeats 4000000 in
theorem tX10_isLeft_p75 {l : Launch} {G : gG} {k : Nat} {o : gMem} {Q : Int32 → gMem → Prop} {c : gMem} (h : wX10_isLeft_p75 c Q) : Go l G mX10_isLeft (gbq G 2 44 84 k (qi (wM G o) Q)) 75 [(0, .ref (G.2.1 + 74))] [] 84 k (wM G o c) := by
  unfold wX10_isLeft_p75 at h
  refine go_aload_n (pc := 75) dX10_isLeft_75 rfl rfl ?_
  refine go_get (pc := 76) fX10_9 rfl (gz_b (by decide)) yw0 rfl dX10_isLeft_76 ?_
  refine go_bipush (pc := 79) (v := 17) dX10_isLeft_79 (by decide) ?_
  refine gb_iald (pc := 81) (gz_b (by decide)) yw1 (gv_in (by decide)) dX10_isLeft_81 (fun v1 ev1 => ?_)
  have h := h v1 ev1
  refine go_aload_n (pc := 82) dX10_isLeft_82 rfl rfl ?_
  refine go_get (pc := 83) fX10_9 rfl (gz_b (by decide)) yw0 rfl dX10_isLeft_83 ?_
  refine go_iconst (pc := 86) (v := 4) dX10_isLeft_86 (by decide) ?_
  refine gb_iald (pc := 87) (gz_b (by decide)) yw1 (gv_in (by decide)) dX10_isLeft_87 (fun v2 ev2 => ?_)
  have h := h v2 ev2
  refine go_icmp_ge (pc := 88) (tgt := 95) dX10_isLeft_88 (by decide) (fun q3 => ?_) (fun q3 => ?_)
  · have h := h.1 q3
    refine go_iconst (pc := 95) (v := 0) dX10_isLeft_95 (by decide) ?_
    exact gq_iret (pc := 96) (F := wM G o) rfl dX10_isLeft_96 h
  · have h := h.2 q3
    refine go_iconst (pc := 91) (v := 1) dX10_isLeft_91 (by decide) ?_
    refine go_goto (pc := 92) (tgt := 96) dX10_isLeft_92 (by decide) ?_
    exact gq_iret (pc := 96) (F := wM G o) rfl dX10_isLeft_96 h
def wX10_isLeft_p0_b (P0 : gMem → Prop) (c : gMem) (Q : Int32 → gMem → Prop) : Prop :=
  ∀ v1, v1 = c 1 17 →
  ∀ v2, v2 = c 1 4 →
  ((v2 ≤ v1 →
    wX10_isLeft_p75 c Q) ∧
   (¬ v2 ≤ v1 →
    ∀ v4, v4 = c 1 17 →
    vp_in (600 + v4) 26100 ∧
    ∀ v5, v5 = c 1 (600 + v4).toNatClampNeg →
    wX10_of v5 9 c (fun r8 c7 =>
    ∀ v9, v9 = c7 1 17 →
    vp_in (600 + v9) 26100 ∧
    ∀ v10, v10 = c7 1 (600 + v9).toNatClampNeg →
    wX10_linksOf v10 c7 (fun r13 c12 =>
    ((r8 = r13 →
      ∀ v15, v15 = c12 1 17 →
      ∀ c16, c16 = mp c12 1 17 (v15 + 1) →
      P0 c16) ∧
     (¬ r8 = r13 →
      wX10_isLeft_p75 c12 Q))))))
def wX10_isLeft_p0 (c : gMem) (Q : Int32 → gMem → Prop) : Prop :=
  ∀ P0 : gMem → Prop, (∀ (c : gMem), wX10_isLeft_p0_b P0 c Q → P0 c) → P0 c
set_option maxRecDepth 100000 in
set_option maxHeartbeats 4000000 in
theorem tX10_isLeft_p0_b {l : Launch} {G : gG} {k : Nat} {o : gMem} {Q : Int32 → gMem → Prop} {P0 : gMem → Prop} (hP0 : ∀ (c : gMem), P0 c → Go l G mX10_isLeft (gbq G 2 44 84 k (qi (wM G o) Q)) 0 [(0, .ref (G.2.1 + 74))] [] 84 k (wM G o c)) {c : gMem} (h : wX10_isLeft_p0_b P0 c Q) : Go l G mX10_isLeft (gbq G 2 44 84 k (qi (wM G o) Q)) 0 [(0, .ref (G.2.1 + 74))] [] 84 k (wM G o c) := by
  unfold wX10_isLeft_p0_b at h
  refine go_aload_n (pc := 0) dX10_isLeft_0 rfl rfl ?_
  refine go_get (pc := 1) fX10_9 rfl (gz_b (by decide)) yw0 rfl dX10_isLeft_1 ?_
  refine go_bipush (pc := 4) (v := 17) dX10_isLeft_4 (by decide) ?_
  refine gb_iald (pc := 6) (gz_b (by decide)) yw1 (gv_in (by decide)) dX10_isLeft_6 (fun v1 ev1 => ?_)
  have h := h v1 ev1
  refine go_aload_n (pc := 7) dX10_isLeft_7 rfl rfl ?_
  refine go_get (pc := 8) fX10_9 rfl (gz_b (by decide)) yw0 rfl dX10_isLeft_8 ?_
  refine go_iconst (pc := 11) (v := 4) dX10_isLeft_11 (by decide) ?_
  refine gb_iald (pc := 12) (gz_b (by decide)) yw1 (gv_in (by decide)) dX10_isLeft_12 (fun v2 ev2 => ?_)
  have h := h v2 ev2
  refine go_icmp_ge (pc := 13) (tgt := 75) dX10_isLeft_13 (by decide) (fun q3 => ?_) (fun q3 => ?_)
  · have h := h.1 q3
    refine go_lv [0] rfl ?_
    exact tX10_isLeft_p75 h
  · have h := h.2 q3
    refine go_aload_n (pc := 16) dX10_isLeft_16 rfl rfl ?_
    refine go_aload_n (pc := 17) dX10_isLeft_17 rfl rfl ?_
    refine go_get (pc := 18) fX10_9 rfl (gz_b (by decide)) yw0 rfl dX10_isLeft_18 ?_
    refine go_sipush (pc := 21) (v := 600) dX10_isLeft_21 (by decide) ?_
    refine go_aload_n (pc := 24) dX10_isLeft_24 rfl rfl ?_
    refine go_get (pc := 25) fX10_9 rfl (gz_b (by decide)) yw0 rfl dX10_isLeft_25 ?_
    refine go_bipush (pc := 28) (v := 17) dX10_isLeft_28 (by decide) ?_
    refine gb_iald (pc := 30) (gz_b (by decide)) yw1 (gv_in (by decide)) dX10_isLeft_30 (fun v4 ev4 => ?_)
    have h := h v4 ev4
    refine go_iadd (pc := 31) dX10_isLeft_31 ?_
    obtain ⟨b6, h⟩ := h
    refine gb_iald (pc := 32) (gz_b (by decide)) yw1 b6 dX10_isLeft_32 (fun v5 ev5 => ?_)
    have h := h v5 ev5
    refine go_bipush (pc := 33) (v := 9) dX10_isLeft_33 (by decide) ?_
    refine gq_callV_i (pc := 35) (F := wM G o) vX10_71 rfl (tX10_of h) rfl rfl (gz_b (by decide)) yw0 rfl (Nat.le_of_ble_eq_true rfl) ⟨Nat.le_of_ble_eq_true rfl, Nat.le_of_ble_eq_true rfl, Nat.le_add_right _ _, Nat.le_add_right _ _⟩ dX10_isLeft_35 (fun r8 c7 h => ?_)
    refine go_aload_n (pc := 38) dX10_isLeft_38 rfl rfl ?_
    refine go_aload_n (pc := 39) dX10_isLeft_39 rfl rfl ?_
    refine go_get (pc := 40) fX10_9 rfl (gz_b (by decide)) yw0 rfl dX10_isLeft_40 ?_
    refine go_sipush (pc := 43) (v := 600) dX10_isLeft_43 (by decide) ?_
    refine go_aload_n (pc := 46) dX10_isLeft_46 rfl rfl ?_
    refine go_get (pc := 47) fX10_9 rfl (gz_b (by decide)) yw0 rfl dX10_isLeft_47 ?_
    refine go_bipush (pc := 50) (v := 17) dX10_isLeft_50 (by decide) ?_
    refine gb_iald (pc := 52) (gz_b (by decide)) yw1 (gv_in (by decide)) dX10_isLeft_52 (fun v9 ev9 => ?_)
    have h := h v9 ev9
    refine go_iadd (pc := 53) dX10_isLeft_53 ?_
    obtain ⟨b11, h⟩ := h
    refine gb_iald (pc := 54) (gz_b (by decide)) yw1 b11 dX10_isLeft_54 (fun v10 ev10 => ?_)
    have h := h v10 ev10
    refine gq_callV_i (pc := 55) (F := wM G o) vX10_90 rfl (tX10_linksOf h) rfl rfl (gz_b (by decide)) yw0 rfl (Nat.le_of_ble_eq_true rfl) ⟨Nat.le_of_ble_eq_true rfl, Nat.le_of_ble_eq_true rfl, Nat.le_add_right _ _, Nat.le_add_right _ _⟩ dX10_isLeft_55 (fun r13 c12 h => ?_)
    refine go_icmp_ne (pc := 58) (tgt := 75) dX10_isLeft_58 (by decide) (fun q14 => ?_) (fun q14 => ?_)
    · have h := h.2 q14
      refine go_lv [0] rfl ?_
      exact tX10_isLeft_p75 h
    · have h := h.1 q14
      refine go_aload_n (pc := 61) dX10_isLeft_61 rfl rfl ?_
      refine go_get (pc := 62) fX10_9 rfl (gz_b (by decide)) yw0 rfl dX10_isLeft_62 ?_
      refine go_bipush (pc := 65) (v := 17) dX10_isLeft_65 (by decide) ?_
      refine go_dup2 (pc := 67) dX10_isLeft_67 rfl rfl ?_
      refine gb_iald (pc := 68) (gz_b (by decide)) yw1 (gv_in (by decide)) dX10_isLeft_68 (fun v15 ev15 => ?_)
      have h := h v15 ev15
      refine go_iconst (pc := 69) (v := 1) dX10_isLeft_69 (by decide) ?_
      refine go_iadd (pc := 70) dX10_isLeft_70 ?_
      refine gb_iast (pc := 71) (F := wM G o) (gz_b (by decide)) yw1 (gv_in (by decide)) ya1 dX10_isLeft_71 (fun c16 ec16 => ?_)
      have h := h c16 ec16
      refine go_goto (pc := 72) (tgt := 0) dX10_isLeft_72 (by decide) ?_
      refine go_lv [0] rfl ?_
      exact hP0 _ h
set_option maxRecDepth 100000 in
set_option maxHeartbeats 4000000 in
theorem tX10_isLeft_p0 {l : Launch} {G : gG} {k : Nat} {o : gMem} {Q : Int32 → gMem → Prop} {c : gMem} (h : wX10_isLeft_p0 c Q) : Go l G mX10_isLeft (gbq G 2 44 84 k (qi (wM G o) Q)) 0 [(0, .ref (G.2.1 + 74))] [] 84 k (wM G o c) :=
  h (fun c => Go l G mX10_isLeft (gbq G 2 44 84 k (qi (wM G o) Q)) 0 [(0, .ref (G.2.1 + 74))] [] 84 k (wM G o c)) (fun c hb => tX10_isLeft_p0_b (fun c hh => hh) hb)
def wX10_isLeft (c : gMem) (Q : Int32 → gMem → Prop) : Prop :=
  wX10_isLeft_p0 c Q
set_option maxRecDepth 100000 in
set_option maxHeartbeats 4000000 in
theorem tX10_isLeft {l : Launch} {G : gG} {k : Nat} {o : gMem} {Q : Int32 → gMem → Prop} {c : gMem} (h : wX10_isLeft c Q) : Cq l G mX10_isLeft 2 44 [.ref (G.2.1 + 74)] 84 k (wM G o c) (qi (wM G o) Q) := by
  refine Cq.of (by decide) (Nat.le_of_ble_eq_true rfl) ?_
  show Go l G mX10_isLeft (gbq G 2 44 84 k (qi (wM G o) Q)) 0 [(0, .ref (G.2.1 + 74))] [] 84 k (wM G o c)
  unfold wX10_isLeft at h
  refine go_lv [0] rfl ?_
  exact tX10_isLeft_p0 h
def wX10_lookThrough_p2_b (P2 : Int32 → Int32 → gMem → Prop) (l1 : Int32) (l2 : Int32) (c : gMem) (Q : Int32 → gMem → Prop) : Prop :=
  ((l1 ≤ l2 →
    Q l2 c) ∧
   (¬ l1 ≤ l2 →
    wX10_isLeft c (fun r3 c2 =>
    ((r3 = 1 →
      ∀ v5, v5 = c2 1 17 →
      vp_in (600 + v5) 26100 ∧
      ∀ v6, v6 = c2 1 (600 + v5).toNatClampNeg →
      wX10_of v6 9 c2 (fun r9 c8 =>
      wX10_lets v6 9 (r9 + 1) c8 (fun c10 =>
      wX10_linkAt v6 r9 c10 (fun r12 c11 =>
      vp_in r12 26100 ∧
      ∀ v13, v13 = c11 1 r12.toNatClampNeg →
      wX10_mark v13 1 v6 r9 c11 (fun c15 =>
      P2 l1 (l2 + 1) c15))))) ∧
     (¬ r3 = 1 →
      Q l2 c2)))))
def wX10_lookThrough_p2 (l1 : Int32) (l2 : Int32) (c : gMem) (Q : Int32 → gMem → Prop) : Prop :=
  ∀ P2 : Int32 → Int32 → gMem → Prop, (∀ (l1 : Int32) (l2 : Int32) (c : gMem), wX10_lookThrough_p2_b P2 l1 l2 c Q → P2 l1 l2 c) → P2 l1 l2 c
set_option maxRecDepth 100000 in
set_option maxHeartbeats 4000000 in
theorem tX10_lookThrough_p2_b {l : Launch} {G : gG} {k : Nat} {o : gMem} {Q : Int32 → gMem → Prop} {P2 : Int32 → Int32 → gMem → Prop} (hP2 : ∀ (l1 : Int32) (l2 : Int32) (c : gMem), P2 l1 l2 c → Go l G mX10_lookThrough (gbq G 3 64 84 k (qi (wM G o) Q)) 2 [(0, .ref (G.2.1 + 74)), (1, .int l1), (2, .int l2)] [] 84 k (wM G o c)) {l1 : Int32} {l2 : Int32} {c : gMem} (h : wX10_lookThrough_p2_b P2 l1 l2 c Q) : Go l G mX10_lookThrough (gbq G 3 64 84 k (qi (wM G o) Q)) 2 [(0, .ref (G.2.1 + 74)), (1, .int l1), (2, .int l2)] [] 84 k (wM G o c) := by
  unfold wX10_lookThrough_p2_b at h
  refine go_iload_n (pc := 2) dX10_lookThrough_2 rfl rfl ?_
  refine go_iload_n (pc := 3) dX10_lookThrough_3 rfl rfl ?_
  refine go_icmp_ge (pc := 4) (tgt := 78) dX10_lookThrough_4 (by decide) (fun q1 => ?_) (fun q1 => ?_)
  · have h := h.1 q1
    refine go_iload_n (pc := 78) dX10_lookThrough_78 rfl rfl ?_
    exact gq_iret (pc := 79) (F := wM G o) rfl dX10_lookThrough_79 h
  · have h := h.2 q1
    refine go_aload_n (pc := 7) dX10_lookThrough_7 rfl rfl ?_
    refine gq_callV_i (pc := 8) (F := wM G o) vX10_94 rfl (tX10_isLeft h) rfl rfl (gz_b (by decide)) yw0 rfl (Nat.le_of_ble_eq_true rfl) ⟨Nat.le_of_ble_eq_true rfl, Nat.le_of_ble_eq_true rfl, Nat.le_add_right _ _, Nat.le_add_right _ _⟩ dX10_lookThrough_8 (fun r3 c2 h => ?_)
    refine go_iconst (pc := 11) (v := 1) dX10_lookThrough_11 (by decide) ?_
    refine go_icmp_ne (pc := 12) (tgt := 78) dX10_lookThrough_12 (by decide) (fun q4 => ?_) (fun q4 => ?_)
    · have h := h.2 q4
      refine go_iload_n (pc := 78) dX10_lookThrough_78 rfl rfl ?_
      exact gq_iret (pc := 79) (F := wM G o) rfl dX10_lookThrough_79 h
    · have h := h.1 q4
      refine go_aload_n (pc := 15) dX10_lookThrough_15 rfl rfl ?_
      refine go_get (pc := 16) fX10_9 rfl (gz_b (by decide)) yw0 rfl dX10_lookThrough_16 ?_
      refine go_sipush (pc := 19) (v := 600) dX10_lookThrough_19 (by decide) ?_
      refine go_aload_n (pc := 22) dX10_lookThrough_22 rfl rfl ?_
      refine go_get (pc := 23) fX10_9 rfl (gz_b (by decide)) yw0 rfl dX10_lookThrough_23 ?_
      refine go_bipush (pc := 26) (v := 17) dX10_lookThrough_26 (by decide) ?_
      refine gb_iald (pc := 28) (gz_b (by decide)) yw1 (gv_in (by decide)) dX10_lookThrough_28 (fun v5 ev5 => ?_)
      have h := h v5 ev5
      refine go_iadd (pc := 29) dX10_lookThrough_29 ?_
      obtain ⟨b7, h⟩ := h
      refine gb_iald (pc := 30) (gz_b (by decide)) yw1 b7 dX10_lookThrough_30 (fun v6 ev6 => ?_)
      have h := h v6 ev6
      refine go_istore_n (pc := 31) (lv' := [(3, .int v6), (0, .ref (G.2.1 + 74)), (1, .int l1), (2, .int l2)]) dX10_lookThrough_31 rfl (by decide) rfl ?_
      refine go_aload_n (pc := 32) dX10_lookThrough_32 rfl rfl ?_
      refine go_iload_n (pc := 33) dX10_lookThrough_33 rfl rfl ?_
      refine go_bipush (pc := 34) (v := 9) dX10_lookThrough_34 (by decide) ?_
      refine gq_callV_i (pc := 36) (F := wM G o) vX10_71 rfl (tX10_of h) rfl rfl (gz_b (by decide)) yw0 rfl (Nat.le_of_ble_eq_true rfl) ⟨Nat.le_of_ble_eq_true rfl, Nat.le_of_ble_eq_true rfl, Nat.le_add_right _ _, Nat.le_add_right _ _⟩ dX10_lookThrough_36 (fun r9 c8 h => ?_)
      refine go_istore (pc := 39) (lv' := [(4, .int r9), (3, .int v6), (0, .ref (G.2.1 + 74)), (1, .int l1), (2, .int l2)]) dX10_lookThrough_39 (by decide) rfl ?_
      refine go_aload_n (pc := 41) dX10_lookThrough_41 rfl rfl ?_
      refine go_iload_n (pc := 42) dX10_lookThrough_42 rfl rfl ?_
      refine go_bipush (pc := 43) (v := 9) dX10_lookThrough_43 (by decide) ?_
      refine go_iload (pc := 45) dX10_lookThrough_45 rfl ?_
      refine go_iconst (pc := 47) (v := 1) dX10_lookThrough_47 (by decide) ?_
      refine go_iadd (pc := 48) dX10_lookThrough_48 ?_
      refine gq_callV_v (pc := 49) (F := wM G o) vX10_82 rfl (tX10_lets h) rfl rfl (gz_b (by decide)) yw0 rfl (Nat.le_of_ble_eq_true rfl) ⟨Nat.le_of_ble_eq_true rfl, Nat.le_of_ble_eq_true rfl, Nat.le_add_right _ _, Nat.le_add_right _ _⟩ dX10_lookThrough_49 (fun c10 h => ?_)
      refine go_aload_n (pc := 52) dX10_lookThrough_52 rfl rfl ?_
      refine go_aload_n (pc := 53) dX10_lookThrough_53 rfl rfl ?_
      refine go_get (pc := 54) fX10_9 rfl (gz_b (by decide)) yw0 rfl dX10_lookThrough_54 ?_
      refine go_aload_n (pc := 57) dX10_lookThrough_57 rfl rfl ?_
      refine go_iload_n (pc := 58) dX10_lookThrough_58 rfl rfl ?_
      refine go_iload (pc := 59) dX10_lookThrough_59 rfl ?_
      refine gq_callV_i (pc := 61) (F := wM G o) vX10_98 rfl (tX10_linkAt h) rfl rfl (gz_b (by decide)) yw0 rfl (Nat.le_of_ble_eq_true rfl) ⟨Nat.le_of_ble_eq_true rfl, Nat.le_of_ble_eq_true rfl, Nat.le_add_right _ _, Nat.le_add_right _ _⟩ dX10_lookThrough_61 (fun r12 c11 h => ?_)
      obtain ⟨b14, h⟩ := h
      refine gb_iald (pc := 64) (gz_b (by decide)) yw1 b14 dX10_lookThrough_64 (fun v13 ev13 => ?_)
      have h := h v13 ev13
      refine go_iconst (pc := 65) (v := 1) dX10_lookThrough_65 (by decide) ?_
      refine go_iload_n (pc := 66) dX10_lookThrough_66 rfl rfl ?_
      refine go_iload (pc := 67) dX10_lookThrough_67 rfl ?_
      refine gq_callV_v (pc := 69) (F := wM G o) vX10_86 rfl (tX10_mark h) rfl rfl (gz_b (by decide)) yw0 rfl (Nat.le_of_ble_eq_true rfl) ⟨Nat.le_of_ble_eq_true rfl, Nat.le_of_ble_eq_true rfl, Nat.le_add_right _ _, Nat.le_add_right _ _⟩ dX10_lookThrough_69 (fun c15 h => ?_)
      refine go_iinc (pc := 72) (v := l2 + 1) (lv' := [(2, .int (l2 + 1)), (4, .int r9), (3, .int v6), (0, .ref (G.2.1 + 74)), (1, .int l1)]) dX10_lookThrough_72 4 rfl (by first | rfl | decide) (by decide) rfl ?_
      refine go_goto (pc := 75) (tgt := 2) dX10_lookThrough_75 (by decide) ?_
      refine go_lv [3, 4, 0] rfl ?_
      exact hP2 _ _ _ h
set_option maxRecDepth 100000 in
set_option maxHeartbeats 4000000 in
theorem tX10_lookThrough_p2 {l : Launch} {G : gG} {k : Nat} {o : gMem} {Q : Int32 → gMem → Prop} {l1 : Int32} {l2 : Int32} {c : gMem} (h : wX10_lookThrough_p2 l1 l2 c Q) : Go l G mX10_lookThrough (gbq G 3 64 84 k (qi (wM G o) Q)) 2 [(0, .ref (G.2.1 + 74)), (1, .int l1), (2, .int l2)] [] 84 k (wM G o c) :=
  h (fun l1 l2 c => Go l G mX10_lookThrough (gbq G 3 64 84 k (qi (wM G o) Q)) 2 [(0, .ref (G.2.1 + 74)), (1, .int l1), (2, .int l2)] [] 84 k (wM G o c)) (fun l1 l2 c hb => tX10_lookThrough_p2_b (fun l1 l2 c hh => hh) hb)
def wX10_lookThrough (l1 : Int32) (c : gMem) (Q : Int32 → gMem → Prop) : Prop :=
  wX10_lookThrough_p2 l1 0 c Q
set_option maxRecDepth 100000 in
set_option maxHeartbeats 4000000 in
theorem tX10_lookThrough {l : Launch} {G : gG} {k : Nat} {o : gMem} {Q : Int32 → gMem → Prop} {l1 : Int32} {c : gMem} (h : wX10_lookThrough l1 c Q) : Cq l G mX10_lookThrough 3 64 [.ref (G.2.1 + 74), .int l1] 84 k (wM G o c) (qi (wM G o) Q) := by
  refine Cq.of (by decide) (Nat.le_of_ble_eq_true rfl) ?_
  show Go l G mX10_lookThrough (gbq G 3 64 84 k (qi (wM G o) Q)) 0 [(0, .ref (G.2.1 + 74)), (1, .int l1)] [] 84 k (wM G o c)
  unfold wX10_lookThrough at h
  refine go_iconst (pc := 0) (v := 0) dX10_lookThrough_0 (by decide) ?_
  refine go_istore_n (pc := 1) (lv' := [(2, .int 0), (0, .ref (G.2.1 + 74)), (1, .int l1)]) dX10_lookThrough_1 rfl (by decide) rfl ?_
  refine go_lv [1, 2, 0] rfl ?_
  exact tX10_lookThrough_p2 h
def wX10_giveBack_p149 (P2 : Int32 → gMem → Prop) (l1 : Int32) (c : gMem) (Q : gMem → Prop) : Prop :=
  P2 (l1 + 1) c
set_option maxRecDepth 100000 in
set_option maxHeartbeats 4000000 in
theorem tX10_giveBack_p149 {l : Launch} {G : gG} {k : Nat} {o : gMem} {Q : gMem → Prop} {P2 : Int32 → gMem → Prop} (hP2 : ∀ (l1 : Int32) (c : gMem), P2 l1 c → Go l G mX10_giveBack (gbq G 1 23 84 k (qv (wM G o) Q)) 2 [(0, .ref (G.2.1 + 74)), (1, .int l1)] [] 84 k (wM G o c)) {l1 : Int32} {c : gMem} (h : wX10_giveBack_p149 P2 l1 c Q) : Go l G mX10_giveBack (gbq G 1 23 84 k (qv (wM G o) Q)) 149 [(0, .ref (G.2.1 + 74)), (1, .int l1)] [] 84 k (wM G o c) := by
  unfold wX10_giveBack_p149 at h
  refine go_iinc (pc := 149) (v := l1 + 1) (lv' := [(1, .int (l1 + 1)), (0, .ref (G.2.1 + 74))]) dX10_giveBack_149 1 rfl (by first | rfl | decide) (by decide) rfl ?_
  refine go_goto (pc := 152) (tgt := 2) dX10_giveBack_152 (by decide) ?_
  refine go_lv [1, 0] rfl ?_
  exact hP2 _ _ h
def wX10_giveBack_p142 (P2 : Int32 → gMem → Prop) (P111 : Int32 → Int32 → gMem → Prop) (l1 : Int32) (l2 : Int32) (s0 : Int32) (s1 : Int32) (c : gMem) (Q : gMem → Prop) : Prop :=
  vp_in s1 26100 ∧
  ∀ c1, c1 = mp c 1 s1.toNatClampNeg s0 →
  P111 l1 (l2 + 1) c1
set_option maxRecDepth 100000 in
set_option maxHeartbeats 4000000 in
theorem tX10_giveBack_p142 {l : Launch} {G : gG} {k : Nat} {o : gMem} {Q : gMem → Prop} {P2 : Int32 → gMem → Prop} (hP2 : ∀ (l1 : Int32) (c : gMem), P2 l1 c → Go l G mX10_giveBack (gbq G 1 23 84 k (qv (wM G o) Q)) 2 [(0, .ref (G.2.1 + 74)), (1, .int l1)] [] 84 k (wM G o c)) {P111 : Int32 → Int32 → gMem → Prop} (hP111 : ∀ (l1 : Int32) (l2 : Int32) (c : gMem), P111 l1 l2 c → Go l G mX10_giveBack (gbq G 1 23 84 k (qv (wM G o) Q)) 111 [(0, .ref (G.2.1 + 74)), (1, .int l1), (2, .int l2)] [] 84 k (wM G o c)) {l1 : Int32} {l2 : Int32} {s0 : Int32} {s1 : Int32} {c : gMem} (h : wX10_giveBack_p142 P2 P111 l1 l2 s0 s1 c Q) : Go l G mX10_giveBack (gbq G 1 23 84 k (qv (wM G o) Q)) 142 [(0, .ref (G.2.1 + 74)), (1, .int l1), (2, .int l2)] [.int s0, .int s1, .ref (G.2.1 + 75)] 84 k (wM G o c) := by
  unfold wX10_giveBack_p142 at h
  obtain ⟨b2, h⟩ := h
  refine gb_iast (pc := 142) (F := wM G o) (gz_b (by decide)) yw1 b2 ya1 dX10_giveBack_142 (fun c1 ec1 => ?_)
  have h := h c1 ec1
  refine go_iinc (pc := 143) (v := l2 + 1) (lv' := [(2, .int (l2 + 1)), (0, .ref (G.2.1 + 74)), (1, .int l1)]) dX10_giveBack_143 2 rfl (by first | rfl | decide) (by decide) rfl ?_
  refine go_goto (pc := 146) (tgt := 111) dX10_giveBack_146 (by decide) ?_
  refine go_lv [1, 2, 0] rfl ?_
  exact hP111 _ _ _ h
def wX10_giveBack_p111_b (P2 : Int32 → gMem → Prop) (P111 : Int32 → Int32 → gMem → Prop) (l1 : Int32) (l2 : Int32) (c : gMem) (Q : gMem → Prop) : Prop :=
  ((76 ≤ l2 →
    wX10_giveBack_p149 P2 l1 c Q) ∧
   (¬ 76 ≤ l2 →
    vp_in l2 26100 ∧
    ∀ v2, v2 = c 1 l2.toNatClampNeg →
    ((v2 = l1 →
      wX10_giveBack_p142 P2 P111 l1 l2 ((-1)) l2 c Q) ∧
     (¬ v2 = l1 →
      vp_in l2 26100 ∧
      ∀ v5, v5 = c 1 l2.toNatClampNeg →
      wX10_giveBack_p142 P2 P111 l1 l2 v5 l2 c Q))))
def wX10_giveBack_p111 (P2 : Int32 → gMem → Prop) (l1 : Int32) (l2 : Int32) (c : gMem) (Q : gMem → Prop) : Prop :=
  ∀ P111 : Int32 → Int32 → gMem → Prop, (∀ (l1 : Int32) (l2 : Int32) (c : gMem), wX10_giveBack_p111_b P2 P111 l1 l2 c Q → P111 l1 l2 c) → P111 l1 l2 c
set_option maxRecDepth 100000 in
set_option maxHeartbeats 4000000 in
theorem tX10_giveBack_p111_b {l : Launch} {G : gG} {k : Nat} {o : gMem} {Q : gMem → Prop} {P2 : Int32 → gMem → Prop} (hP2 : ∀ (l1 : Int32) (c : gMem), P2 l1 c → Go l G mX10_giveBack (gbq G 1 23 84 k (qv (wM G o) Q)) 2 [(0, .ref (G.2.1 + 74)), (1, .int l1)] [] 84 k (wM G o c)) {P111 : Int32 → Int32 → gMem → Prop} (hP111 : ∀ (l1 : Int32) (l2 : Int32) (c : gMem), P111 l1 l2 c → Go l G mX10_giveBack (gbq G 1 23 84 k (qv (wM G o) Q)) 111 [(0, .ref (G.2.1 + 74)), (1, .int l1), (2, .int l2)] [] 84 k (wM G o c)) {l1 : Int32} {l2 : Int32} {c : gMem} (h : wX10_giveBack_p111_b P2 P111 l1 l2 c Q) : Go l G mX10_giveBack (gbq G 1 23 84 k (qv (wM G o) Q)) 111 [(0, .ref (G.2.1 + 74)), (1, .int l1), (2, .int l2)] [] 84 k (wM G o c) := by
  unfold wX10_giveBack_p111_b at h
  refine go_iload_n (pc := 111) dX10_giveBack_111 rfl rfl ?_
  refine go_bipush (pc := 112) (v := 76) dX10_giveBack_112 (by decide) ?_
  refine go_icmp_ge (pc := 114) (tgt := 149) dX10_giveBack_114 (by decide) (fun q1 => ?_) (fun q1 => ?_)
  · have h := h.1 q1
    refine go_lv [0, 1] rfl ?_
    exact tX10_giveBack_p149 hP2 h
  · have h := h.2 q1
    refine go_aload_n (pc := 117) dX10_giveBack_117 rfl rfl ?_
    refine go_get (pc := 118) fX10_9 rfl (gz_b (by decide)) yw0 rfl dX10_giveBack_118 ?_
    refine go_iload_n (pc := 121) dX10_giveBack_121 rfl rfl ?_
    refine go_aload_n (pc := 122) dX10_giveBack_122 rfl rfl ?_
    refine go_get (pc := 123) fX10_9 rfl (gz_b (by decide)) yw0 rfl dX10_giveBack_123 ?_
    refine go_iload_n (pc := 126) dX10_giveBack_126 rfl rfl ?_
    obtain ⟨b3, h⟩ := h
    refine gb_iald (pc := 127) (gz_b (by decide)) yw1 b3 dX10_giveBack_127 (fun v2 ev2 => ?_)
    have h := h v2 ev2
    refine go_iload_n (pc := 128) dX10_giveBack_128 rfl rfl ?_
    refine go_icmp_ne (pc := 129) (tgt := 136) dX10_giveBack_129 (by decide) (fun q4 => ?_) (fun q4 => ?_)
    · have h := h.2 q4
      refine go_aload_n (pc := 136) dX10_giveBack_136 rfl rfl ?_
      refine go_get (pc := 137) fX10_9 rfl (gz_b (by decide)) yw0 rfl dX10_giveBack_137 ?_
      refine go_iload_n (pc := 140) dX10_giveBack_140 rfl rfl ?_
      obtain ⟨b6, h⟩ := h
      refine gb_iald (pc := 141) (gz_b (by decide)) yw1 b6 dX10_giveBack_141 (fun v5 ev5 => ?_)
      have h := h v5 ev5
      refine go_lv [0, 1, 2] rfl ?_
      exact tX10_giveBack_p142 hP2 hP111 h
    · have h := h.1 q4
      refine go_iconst (pc := 132) (v := (-1)) dX10_giveBack_132 (by decide) ?_
      refine go_goto (pc := 133) (tgt := 142) dX10_giveBack_133 (by decide) ?_
      refine go_lv [0, 1, 2] rfl ?_
      exact tX10_giveBack_p142 hP2 hP111 h
set_option maxRecDepth 100000 in
set_option maxHeartbeats 4000000 in
theorem tX10_giveBack_p111 {l : Launch} {G : gG} {k : Nat} {o : gMem} {Q : gMem → Prop} {P2 : Int32 → gMem → Prop} (hP2 : ∀ (l1 : Int32) (c : gMem), P2 l1 c → Go l G mX10_giveBack (gbq G 1 23 84 k (qv (wM G o) Q)) 2 [(0, .ref (G.2.1 + 74)), (1, .int l1)] [] 84 k (wM G o c)) {l1 : Int32} {l2 : Int32} {c : gMem} (h : wX10_giveBack_p111 P2 l1 l2 c Q) : Go l G mX10_giveBack (gbq G 1 23 84 k (qv (wM G o) Q)) 111 [(0, .ref (G.2.1 + 74)), (1, .int l1), (2, .int l2)] [] 84 k (wM G o c) :=
  h (fun l1 l2 c => Go l G mX10_giveBack (gbq G 1 23 84 k (qv (wM G o) Q)) 111 [(0, .ref (G.2.1 + 74)), (1, .int l1), (2, .int l2)] [] 84 k (wM G o c)) (fun l1 l2 c hb => tX10_giveBack_p111_b hP2 (fun l1 l2 c hh => hh) hb)
def wX10_giveBack_p54 (P2 : Int32 → gMem → Prop) (l1 : Int32) (s0 : Int32) (s1 : Int32) (s2 : Int32) (c : gMem) (Q : gMem → Prop) : Prop :=
  vp_in s2 14 ∧
  ∀ c1, c1 = mp c 4 s2.toNatClampNeg (s1 + s0) →
  ∀ v3, v3 = c1 4 11 →
  ∀ c4, c4 = mp c1 4 11 (v3 + 1) →
  wX10_lets l1 0 0 c4 (fun c5 =>
  ∀ v6, v6 = c5 1 2 →
  ∀ c7, c7 = mp c5 1 2 (v6 - 1) →
  ∀ v8, v8 = c7 1 7 →
  vp_in v8 500 ∧
  ∀ c9, c9 = mp c7 5 v8.toNatClampNeg l1 →
  ∀ v11, v11 = c9 1 7 →
  ∀ c12, c12 = mp c9 1 7 (v11 + 1) →
  wX10_giveBack_p111 P2 l1 44 c12 Q)
set_option maxRecDepth 100000 in
set_option maxHeartbeats 4000000 in
theorem tX10_giveBack_p54 {l : Launch} {G : gG} {k : Nat} {o : gMem} {Q : gMem → Prop} {P2 : Int32 → gMem → Prop} (hP2 : ∀ (l1 : Int32) (c : gMem), P2 l1 c → Go l G mX10_giveBack (gbq G 1 23 84 k (qv (wM G o) Q)) 2 [(0, .ref (G.2.1 + 74)), (1, .int l1)] [] 84 k (wM G o c)) {l1 : Int32} {s0 : Int32} {s1 : Int32} {s2 : Int32} {c : gMem} (h : wX10_giveBack_p54 P2 l1 s0 s1 s2 c Q) : Go l G mX10_giveBack (gbq G 1 23 84 k (qv (wM G o) Q)) 54 [(0, .ref (G.2.1 + 74)), (1, .int l1)] [.int s0, .int s1, .int s2, .ref (G.2.1 + 78)] 84 k (wM G o c) := by
  unfold wX10_giveBack_p54 at h
  refine go_iadd (pc := 54) dX10_giveBack_54 ?_
  obtain ⟨b2, h⟩ := h
  refine gb_iast (pc := 55) (F := wM G o) (gz_b (by decide)) yw4 b2 ya4 dX10_giveBack_55 (fun c1 ec1 => ?_)
  have h := h c1 ec1
  refine go_aload_n (pc := 56) dX10_giveBack_56 rfl rfl ?_
  refine go_get (pc := 57) fX10_19 rfl (gz_b (by decide)) yw0 rfl dX10_giveBack_57 ?_
  refine go_bipush (pc := 60) (v := 11) dX10_giveBack_60 (by decide) ?_
  refine go_dup2 (pc := 62) dX10_giveBack_62 rfl rfl ?_
  refine gb_iald (pc := 63) (gz_b (by decide)) yw4 (gv_in (by decide)) dX10_giveBack_63 (fun v3 ev3 => ?_)
  have h := h v3 ev3
  refine go_iconst (pc := 64) (v := 1) dX10_giveBack_64 (by decide) ?_
  refine go_iadd (pc := 65) dX10_giveBack_65 ?_
  refine gb_iast (pc := 66) (F := wM G o) (gz_b (by decide)) yw4 (gv_in (by decide)) ya4 dX10_giveBack_66 (fun c4 ec4 => ?_)
  have h := h c4 ec4
  refine go_aload_n (pc := 67) dX10_giveBack_67 rfl rfl ?_
  refine go_iload_n (pc := 68) dX10_giveBack_68 rfl rfl ?_
  refine go_iconst (pc := 69) (v := 0) dX10_giveBack_69 (by decide) ?_
  refine go_iconst (pc := 70) (v := 0) dX10_giveBack_70 (by decide) ?_
  refine gq_callV_v (pc := 71) (F := wM G o) vX10_82 rfl (tX10_lets h) rfl rfl (gz_b (by decide)) yw0 rfl (Nat.le_of_ble_eq_true rfl) ⟨Nat.le_of_ble_eq_true rfl, Nat.le_of_ble_eq_true rfl, Nat.le_add_right _ _, Nat.le_add_right _ _⟩ dX10_giveBack_71 (fun c5 h => ?_)
  refine go_aload_n (pc := 74) dX10_giveBack_74 rfl rfl ?_
  refine go_get (pc := 75) fX10_9 rfl (gz_b (by decide)) yw0 rfl dX10_giveBack_75 ?_
  refine go_iconst (pc := 78) (v := 2) dX10_giveBack_78 (by decide) ?_
  refine go_dup2 (pc := 79) dX10_giveBack_79 rfl rfl ?_
  refine gb_iald (pc := 80) (gz_b (by decide)) yw1 (gv_in (by decide)) dX10_giveBack_80 (fun v6 ev6 => ?_)
  have h := h v6 ev6
  refine go_iconst (pc := 81) (v := 1) dX10_giveBack_81 (by decide) ?_
  refine go_isub (pc := 82) dX10_giveBack_82 ?_
  refine gb_iast (pc := 83) (F := wM G o) (gz_b (by decide)) yw1 (gv_in (by decide)) ya1 dX10_giveBack_83 (fun c7 ec7 => ?_)
  have h := h c7 ec7
  refine go_aload_n (pc := 84) dX10_giveBack_84 rfl rfl ?_
  refine go_get (pc := 85) fX10_22 rfl (gz_b (by decide)) yw0 rfl dX10_giveBack_85 ?_
  refine go_aload_n (pc := 88) dX10_giveBack_88 rfl rfl ?_
  refine go_get (pc := 89) fX10_9 rfl (gz_b (by decide)) yw0 rfl dX10_giveBack_89 ?_
  refine go_bipush (pc := 92) (v := 7) dX10_giveBack_92 (by decide) ?_
  refine gb_iald (pc := 94) (gz_b (by decide)) yw1 (gv_in (by decide)) dX10_giveBack_94 (fun v8 ev8 => ?_)
  have h := h v8 ev8
  refine go_iload_n (pc := 95) dX10_giveBack_95 rfl rfl ?_
  obtain ⟨b10, h⟩ := h
  refine gb_iast (pc := 96) (F := wM G o) (gz_b (by decide)) yw5 b10 ya5 dX10_giveBack_96 (fun c9 ec9 => ?_)
  have h := h c9 ec9
  refine go_aload_n (pc := 97) dX10_giveBack_97 rfl rfl ?_
  refine go_get (pc := 98) fX10_9 rfl (gz_b (by decide)) yw0 rfl dX10_giveBack_98 ?_
  refine go_bipush (pc := 101) (v := 7) dX10_giveBack_101 (by decide) ?_
  refine go_dup2 (pc := 103) dX10_giveBack_103 rfl rfl ?_
  refine gb_iald (pc := 104) (gz_b (by decide)) yw1 (gv_in (by decide)) dX10_giveBack_104 (fun v11 ev11 => ?_)
  have h := h v11 ev11
  refine go_iconst (pc := 105) (v := 1) dX10_giveBack_105 (by decide) ?_
  refine go_iadd (pc := 106) dX10_giveBack_106 ?_
  refine gb_iast (pc := 107) (F := wM G o) (gz_b (by decide)) yw1 (gv_in (by decide)) ya1 dX10_giveBack_107 (fun c12 ec12 => ?_)
  have h := h c12 ec12
  refine go_bipush (pc := 108) (v := 44) dX10_giveBack_108 (by decide) ?_
  refine go_istore_n (pc := 110) (lv' := [(2, .int 44), (0, .ref (G.2.1 + 74)), (1, .int l1)]) dX10_giveBack_110 rfl (by decide) rfl ?_
  refine go_lv [1, 2, 0] rfl ?_
  exact tX10_giveBack_p111 hP2 h
def wX10_giveBack_p2_b (P2 : Int32 → gMem → Prop) (l1 : Int32) (c : gMem) (Q : gMem → Prop) : Prop :=
  ∀ v1, v1 = c 1 1 →
  ((v1 ≤ l1 →
    Q c) ∧
   (¬ v1 ≤ l1 →
    wX10_of l1 0 c (fun r4 c3 =>
    ((r4 = 1 →
      wX10_of l1 5 c3 (fun r7 c6 =>
      ((r7 = 0 →
        ∀ v9, v9 = c6 4 12 →
        wX10_of l1 1 c6 (fun r11 c10 =>
        ((r11 = 4 →
          wX10_giveBack_p54 P2 l1 1 v9 12 c10 Q) ∧
         (¬ r11 = 4 →
          wX10_giveBack_p54 P2 l1 0 v9 12 c10 Q)))) ∧
       (¬ r7 = 0 →
        wX10_giveBack_p149 P2 l1 c6 Q)))) ∧
     (¬ r4 = 1 →
      wX10_giveBack_p149 P2 l1 c3 Q)))))
def wX10_giveBack_p2 (l1 : Int32) (c : gMem) (Q : gMem → Prop) : Prop :=
  ∀ P2 : Int32 → gMem → Prop, (∀ (l1 : Int32) (c : gMem), wX10_giveBack_p2_b P2 l1 c Q → P2 l1 c) → P2 l1 c
set_option maxRecDepth 100000 in
set_option maxHeartbeats 4000000 in
theorem tX10_giveBack_p2_b {l : Launch} {G : gG} {k : Nat} {o : gMem} {Q : gMem → Prop} {P2 : Int32 → gMem → Prop} (hP2 : ∀ (l1 : Int32) (c : gMem), P2 l1 c → Go l G mX10_giveBack (gbq G 1 23 84 k (qv (wM G o) Q)) 2 [(0, .ref (G.2.1 + 74)), (1, .int l1)] [] 84 k (wM G o c)) {l1 : Int32} {c : gMem} (h : wX10_giveBack_p2_b P2 l1 c Q) : Go l G mX10_giveBack (gbq G 1 23 84 k (qv (wM G o) Q)) 2 [(0, .ref (G.2.1 + 74)), (1, .int l1)] [] 84 k (wM G o c) := by
  unfold wX10_giveBack_p2_b at h
  refine go_iload_n (pc := 2) dX10_giveBack_2 rfl rfl ?_
  refine go_aload_n (pc := 3) dX10_giveBack_3 rfl rfl ?_
  refine go_get (pc := 4) fX10_9 rfl (gz_b (by decide)) yw0 rfl dX10_giveBack_4 ?_
  refine go_iconst (pc := 7) (v := 1) dX10_giveBack_7 (by decide) ?_
  refine gb_iald (pc := 8) (gz_b (by decide)) yw1 (gv_in (by decide)) dX10_giveBack_8 (fun v1 ev1 => ?_)
  have h := h v1 ev1
  refine go_icmp_ge (pc := 9) (tgt := 155) dX10_giveBack_9 (by decide) (fun q2 => ?_) (fun q2 => ?_)
  · have h := h.1 q2
    exact gq_vret (pc := 155) (F := wM G o) rfl dX10_giveBack_155 h
  · have h := h.2 q2
    refine go_aload_n (pc := 12) dX10_giveBack_12 rfl rfl ?_
    refine go_iload_n (pc := 13) dX10_giveBack_13 rfl rfl ?_
    refine go_iconst (pc := 14) (v := 0) dX10_giveBack_14 (by decide) ?_
    refine gq_callV_i (pc := 15) (F := wM G o) vX10_71 rfl (tX10_of h) rfl rfl (gz_b (by decide)) yw0 rfl (Nat.le_of_ble_eq_true rfl) ⟨Nat.le_of_ble_eq_true rfl, Nat.le_of_ble_eq_true rfl, Nat.le_add_right _ _, Nat.le_add_right _ _⟩ dX10_giveBack_15 (fun r4 c3 h => ?_)
    refine go_iconst (pc := 18) (v := 1) dX10_giveBack_18 (by decide) ?_
    refine go_icmp_ne (pc := 19) (tgt := 149) dX10_giveBack_19 (by decide) (fun q5 => ?_) (fun q5 => ?_)
    · have h := h.2 q5
      refine go_lv [0, 1] rfl ?_
      exact tX10_giveBack_p149 hP2 h
    · have h := h.1 q5
      refine go_aload_n (pc := 22) dX10_giveBack_22 rfl rfl ?_
      refine go_iload_n (pc := 23) dX10_giveBack_23 rfl rfl ?_
      refine go_iconst (pc := 24) (v := 5) dX10_giveBack_24 (by decide) ?_
      refine gq_callV_i (pc := 25) (F := wM G o) vX10_71 rfl (tX10_of h) rfl rfl (gz_b (by decide)) yw0 rfl (Nat.le_of_ble_eq_true rfl) ⟨Nat.le_of_ble_eq_true rfl, Nat.le_of_ble_eq_true rfl, Nat.le_add_right _ _, Nat.le_add_right _ _⟩ dX10_giveBack_25 (fun r7 c6 h => ?_)
      refine go_if_ne (pc := 28) (tgt := 149) dX10_giveBack_28 (by decide) (fun q8 => ?_) (fun q8 => ?_)
      · have h := h.2 q8
        refine go_lv [0, 1] rfl ?_
        exact tX10_giveBack_p149 hP2 h
      · have h := h.1 q8
        refine go_aload_n (pc := 31) dX10_giveBack_31 rfl rfl ?_
        refine go_get (pc := 32) fX10_19 rfl (gz_b (by decide)) yw0 rfl dX10_giveBack_32 ?_
        refine go_bipush (pc := 35) (v := 12) dX10_giveBack_35 (by decide) ?_
        refine go_dup2 (pc := 37) dX10_giveBack_37 rfl rfl ?_
        refine gb_iald (pc := 38) (gz_b (by decide)) yw4 (gv_in (by decide)) dX10_giveBack_38 (fun v9 ev9 => ?_)
        have h := h v9 ev9
        refine go_aload_n (pc := 39) dX10_giveBack_39 rfl rfl ?_
        refine go_iload_n (pc := 40) dX10_giveBack_40 rfl rfl ?_
        refine go_iconst (pc := 41) (v := 1) dX10_giveBack_41 (by decide) ?_
        refine gq_callV_i (pc := 42) (F := wM G o) vX10_71 rfl (tX10_of h) rfl rfl (gz_b (by decide)) yw0 rfl (Nat.le_of_ble_eq_true rfl) ⟨Nat.le_of_ble_eq_true rfl, Nat.le_of_ble_eq_true rfl, Nat.le_add_right _ _, Nat.le_add_right _ _⟩ dX10_giveBack_42 (fun r11 c10 h => ?_)
        refine go_iconst (pc := 45) (v := 4) dX10_giveBack_45 (by decide) ?_
        refine go_icmp_ne (pc := 46) (tgt := 53) dX10_giveBack_46 (by decide) (fun q12 => ?_) (fun q12 => ?_)
        · have h := h.2 q12
          refine go_iconst (pc := 53) (v := 0) dX10_giveBack_53 (by decide) ?_
          refine go_lv [0, 1] rfl ?_
          exact tX10_giveBack_p54 hP2 h
        · have h := h.1 q12
          refine go_iconst (pc := 49) (v := 1) dX10_giveBack_49 (by decide) ?_
          refine go_goto (pc := 50) (tgt := 54) dX10_giveBack_50 (by decide) ?_
          refine go_lv [0, 1] rfl ?_
          exact tX10_giveBack_p54 hP2 h
set_option maxRecDepth 100000 in
set_option maxHeartbeats 4000000 in
theorem tX10_giveBack_p2 {l : Launch} {G : gG} {k : Nat} {o : gMem} {Q : gMem → Prop} {l1 : Int32} {c : gMem} (h : wX10_giveBack_p2 l1 c Q) : Go l G mX10_giveBack (gbq G 1 23 84 k (qv (wM G o) Q)) 2 [(0, .ref (G.2.1 + 74)), (1, .int l1)] [] 84 k (wM G o c) :=
  h (fun l1 c => Go l G mX10_giveBack (gbq G 1 23 84 k (qv (wM G o) Q)) 2 [(0, .ref (G.2.1 + 74)), (1, .int l1)] [] 84 k (wM G o c)) (fun l1 c hb => tX10_giveBack_p2_b (fun l1 c hh => hh) hb)
def wX10_giveBack (c : gMem) (Q : gMem → Prop) : Prop :=
  wX10_giveBack_p2 0 c Q
set_option maxRecDepth 100000 in
set_option maxHeartbeats 4000000 in
theorem tX10_giveBack {l : Launch} {G : gG} {k : Nat} {o : gMem} {Q : gMem → Prop} {c : gMem} (h : wX10_giveBack c Q) : Cq l G mX10_giveBack 1 23 [.ref (G.2.1 + 74)] 84 k (wM G o c) (qv (wM G o) Q) := by
  refine Cq.of (by decide) (Nat.le_of_ble_eq_true rfl) ?_
  show Go l G mX10_giveBack (gbq G 1 23 84 k (qv (wM G o) Q)) 0 [(0, .ref (G.2.1 + 74))] [] 84 k (wM G o c)
  unfold wX10_giveBack at h
  refine go_iconst (pc := 0) (v := 0) dX10_giveBack_0 (by decide) ?_
  refine go_istore_n (pc := 1) (lv' := [(1, .int 0), (0, .ref (G.2.1 + 74))]) dX10_giveBack_1 rfl (by decide) rfl ?_
  refine go_lv [1, 0] rfl ?_
  exact tX10_giveBack_p2 h
def wX10_fade_p204 (P2 : Int32 → gMem → Prop) (l1 : Int32) (c : gMem) (Q : gMem → Prop) : Prop :=
  P2 (l1 + 1) c
set_option maxRecDepth 100000 in
set_option maxHeartbeats 4000000 in
theorem tX10_fade_p204 {l : Launch} {G : gG} {k : Nat} {o : gMem} {Q : gMem → Prop} {P2 : Int32 → gMem → Prop} (hP2 : ∀ (l1 : Int32) (c : gMem), P2 l1 c → Go l G mX10_fade (gbq G 2 43 84 k (qv (wM G o) Q)) 2 [(0, .ref (G.2.1 + 74)), (1, .int l1)] [] 84 k (wM G o c)) {l1 : Int32} {c : gMem} (h : wX10_fade_p204 P2 l1 c Q) : Go l G mX10_fade (gbq G 2 43 84 k (qv (wM G o) Q)) 204 [(0, .ref (G.2.1 + 74)), (1, .int l1)] [] 84 k (wM G o c) := by
  unfold wX10_fade_p204 at h
  refine go_iinc (pc := 204) (v := l1 + 1) (lv' := [(1, .int (l1 + 1)), (0, .ref (G.2.1 + 74))]) dX10_fade_204 1 rfl (by first | rfl | decide) (by decide) rfl ?_
  refine go_goto (pc := 207) (tgt := 2) dX10_fade_207 (by decide) ?_
  refine go_lv [1, 0] rfl ?_
  exact hP2 _ _ h
def wX10_fade_p193 (P2 : Int32 → gMem → Prop) (l1 : Int32) (c : gMem) (Q : gMem → Prop) : Prop :=
  ∀ v1, v1 = c 1 10 →
  ∀ c2, c2 = mp c 1 10 (v1 + 1) →
  wX10_fade_p204 P2 l1 c2 Q
set_option maxRecDepth 100000 in
set_option maxHeartbeats 4000000 in
theorem tX10_fade_p193 {l : Launch} {G : gG} {k : Nat} {o : gMem} {Q : gMem → Prop} {P2 : Int32 → gMem → Prop} (hP2 : ∀ (l1 : Int32) (c : gMem), P2 l1 c → Go l G mX10_fade (gbq G 2 43 84 k (qv (wM G o) Q)) 2 [(0, .ref (G.2.1 + 74)), (1, .int l1)] [] 84 k (wM G o c)) {l1 : Int32} {c : gMem} (h : wX10_fade_p193 P2 l1 c Q) : Go l G mX10_fade (gbq G 2 43 84 k (qv (wM G o) Q)) 193 [(0, .ref (G.2.1 + 74)), (1, .int l1)] [] 84 k (wM G o c) := by
  unfold wX10_fade_p193 at h
  refine go_aload_n (pc := 193) dX10_fade_193 rfl rfl ?_
  refine go_get (pc := 194) fX10_9 rfl (gz_b (by decide)) yw0 rfl dX10_fade_194 ?_
  refine go_bipush (pc := 197) (v := 10) dX10_fade_197 (by decide) ?_
  refine go_dup2 (pc := 199) dX10_fade_199 rfl rfl ?_
  refine gb_iald (pc := 200) (gz_b (by decide)) yw1 (gv_in (by decide)) dX10_fade_200 (fun v1 ev1 => ?_)
  have h := h v1 ev1
  refine go_iconst (pc := 201) (v := 1) dX10_fade_201 (by decide) ?_
  refine go_iadd (pc := 202) dX10_fade_202 ?_
  refine gb_iast (pc := 203) (F := wM G o) (gz_b (by decide)) yw1 (gv_in (by decide)) ya1 dX10_fade_203 (fun c2 ec2 => ?_)
  have h := h c2 ec2
  refine go_lv [0, 1] rfl ?_
  exact tX10_fade_p204 hP2 h
def wX10_fade_p47 (P2 : Int32 → gMem → Prop) (l1 : Int32) (s0 : Int32) (c : gMem) (Q : gMem → Prop) : Prop :=
  ((s0 = 0 →
    wX10_fade_p204 P2 l1 c Q) ∧
   (¬ s0 = 0 →
    wX10_weakAt l1 c (fun r3 c2 =>
    vp_in r3 26100 ∧
    ∀ v4, v4 = c2 1 r3.toNatClampNeg →
    ((v4 = (-1) →
      wX10_fade_p204 P2 l1 c2 Q) ∧
     (¬ v4 = (-1) →
      wX10_weakAt l1 c2 (fun r8 c7 =>
      vp_in r8 26100 ∧
      ∀ v9, v9 = c7 1 r8.toNatClampNeg →
      wX10_of v9 0 c7 (fun r12 c11 =>
      ((r12 = 0 →
        wX10_weakAt l1 c11 (fun r15 c14 =>
        vp_in r15 26100 ∧
        ∀ c16, c16 = mp c14 1 r15.toNatClampNeg ((-1)) →
        ∀ v18, v18 = c16 4 9 →
        ∀ c19, c19 = mp c16 4 9 (v18 + 1) →
        wX10_of l1 1 c19 (fun r21 c20 =>
        ((r21 = 4 →
          ∀ v23, v23 = c20 4 10 →
          ∀ c24, c24 = mp c20 4 10 (v23 + 1) →
          ∀ v25, v25 = c24 1 10 →
          ((100 ≤ v25 →
            wX10_fade_p193 P2 l1 c24 Q) ∧
           (¬ 100 ≤ v25 →
            ∀ v27, v27 = c24 1 10 →
            vp_in (100 + (3 * v27)) 26100 ∧
            ∀ c28, c28 = mp c24 1 (100 + (3 * v27)).toNatClampNeg l1 →
            wX10_weakAt l1 c28 (fun r31 c30 =>
            vp_in (r31 + 1) 26100 ∧
            ∀ v32, v32 = c30 1 (r31 + 1).toNatClampNeg →
            vp_in ((100 + (3 * v27)) + 1) 26100 ∧
            ∀ c34, c34 = mp c30 1 ((100 + (3 * v27)) + 1).toNatClampNeg v32 →
            ∀ v36, v36 = c34 1 5 →
            vp_in ((100 + (3 * v27)) + 2) 26100 ∧
            ∀ c37, c37 = mp c34 1 ((100 + (3 * v27)) + 2).toNatClampNeg v36 →
            wX10_fade_p193 P2 l1 c37 Q)))) ∧
         (¬ r21 = 4 →
          wX10_fade_p204 P2 l1 c20 Q))))) ∧
       (¬ r12 = 0 →
        wX10_fade_p204 P2 l1 c11 Q)))))))))
set_option maxRecDepth 100000 in
set_option maxHeartbeats 4000000 in
theorem tX10_fade_p47 {l : Launch} {G : gG} {k : Nat} {o : gMem} {Q : gMem → Prop} {P2 : Int32 → gMem → Prop} (hP2 : ∀ (l1 : Int32) (c : gMem), P2 l1 c → Go l G mX10_fade (gbq G 2 43 84 k (qv (wM G o) Q)) 2 [(0, .ref (G.2.1 + 74)), (1, .int l1)] [] 84 k (wM G o c)) {l1 : Int32} {s0 : Int32} {c : gMem} (h : wX10_fade_p47 P2 l1 s0 c Q) : Go l G mX10_fade (gbq G 2 43 84 k (qv (wM G o) Q)) 47 [(0, .ref (G.2.1 + 74)), (1, .int l1)] [.int s0] 84 k (wM G o c) := by
  unfold wX10_fade_p47 at h
  refine go_istore_n (pc := 47) (lv' := [(2, .int s0), (0, .ref (G.2.1 + 74)), (1, .int l1)]) dX10_fade_47 rfl (by decide) rfl ?_
  refine go_iload_n (pc := 48) dX10_fade_48 rfl rfl ?_
  refine go_if_eq (pc := 49) (tgt := 204) dX10_fade_49 (by decide) (fun q1 => ?_) (fun q1 => ?_)
  · have h := h.1 q1
    refine go_lv [1, 2] rfl ?_
    exact tX10_fade_p204 hP2 h
  · have h := h.2 q1
    refine go_aload_n (pc := 52) dX10_fade_52 rfl rfl ?_
    refine go_get (pc := 53) fX10_9 rfl (gz_b (by decide)) yw0 rfl dX10_fade_53 ?_
    refine go_aload_n (pc := 56) dX10_fade_56 rfl rfl ?_
    refine go_iload_n (pc := 57) dX10_fade_57 rfl rfl ?_
    refine gq_callV_i (pc := 58) (F := wM G o) vX10_120 rfl (tX10_weakAt h) rfl rfl (gz_b (by decide)) yw0 rfl (Nat.le_of_ble_eq_true rfl) ⟨Nat.le_of_ble_eq_true rfl, Nat.le_of_ble_eq_true rfl, Nat.le_add_right _ _, Nat.le_add_right _ _⟩ dX10_fade_58 (fun r3 c2 h => ?_)
    obtain ⟨b5, h⟩ := h
    refine gb_iald (pc := 61) (gz_b (by decide)) yw1 b5 dX10_fade_61 (fun v4 ev4 => ?_)
    have h := h v4 ev4
    refine go_iconst (pc := 62) (v := (-1)) dX10_fade_62 (by decide) ?_
    refine go_icmp_eq (pc := 63) (tgt := 204) dX10_fade_63 (by decide) (fun q6 => ?_) (fun q6 => ?_)
    · have h := h.1 q6
      refine go_lv [1, 2] rfl ?_
      exact tX10_fade_p204 hP2 h
    · have h := h.2 q6
      refine go_aload_n (pc := 66) dX10_fade_66 rfl rfl ?_
      refine go_aload_n (pc := 67) dX10_fade_67 rfl rfl ?_
      refine go_get (pc := 68) fX10_9 rfl (gz_b (by decide)) yw0 rfl dX10_fade_68 ?_
      refine go_aload_n (pc := 71) dX10_fade_71 rfl rfl ?_
      refine go_iload_n (pc := 72) dX10_fade_72 rfl rfl ?_
      refine gq_callV_i (pc := 73) (F := wM G o) vX10_120 rfl (tX10_weakAt h) rfl rfl (gz_b (by decide)) yw0 rfl (Nat.le_of_ble_eq_true rfl) ⟨Nat.le_of_ble_eq_true rfl, Nat.le_of_ble_eq_true rfl, Nat.le_add_right _ _, Nat.le_add_right _ _⟩ dX10_fade_73 (fun r8 c7 h => ?_)
      obtain ⟨b10, h⟩ := h
      refine gb_iald (pc := 76) (gz_b (by decide)) yw1 b10 dX10_fade_76 (fun v9 ev9 => ?_)
      have h := h v9 ev9
      refine go_iconst (pc := 77) (v := 0) dX10_fade_77 (by decide) ?_
      refine gq_callV_i (pc := 78) (F := wM G o) vX10_71 rfl (tX10_of h) rfl rfl (gz_b (by decide)) yw0 rfl (Nat.le_of_ble_eq_true rfl) ⟨Nat.le_of_ble_eq_true rfl, Nat.le_of_ble_eq_true rfl, Nat.le_add_right _ _, Nat.le_add_right _ _⟩ dX10_fade_78 (fun r12 c11 h => ?_)
      refine go_if_ne (pc := 81) (tgt := 204) dX10_fade_81 (by decide) (fun q13 => ?_) (fun q13 => ?_)
      · have h := h.2 q13
        refine go_lv [1, 2] rfl ?_
        exact tX10_fade_p204 hP2 h
      · have h := h.1 q13
        refine go_aload_n (pc := 84) dX10_fade_84 rfl rfl ?_
        refine go_get (pc := 85) fX10_9 rfl (gz_b (by decide)) yw0 rfl dX10_fade_85 ?_
        refine go_aload_n (pc := 88) dX10_fade_88 rfl rfl ?_
        refine go_iload_n (pc := 89) dX10_fade_89 rfl rfl ?_
        refine gq_callV_i (pc := 90) (F := wM G o) vX10_120 rfl (tX10_weakAt h) rfl rfl (gz_b (by decide)) yw0 rfl (Nat.le_of_ble_eq_true rfl) ⟨Nat.le_of_ble_eq_true rfl, Nat.le_of_ble_eq_true rfl, Nat.le_add_right _ _, Nat.le_add_right _ _⟩ dX10_fade_90 (fun r15 c14 h => ?_)
        refine go_iconst (pc := 93) (v := (-1)) dX10_fade_93 (by decide) ?_
        obtain ⟨b17, h⟩ := h
        refine gb_iast (pc := 94) (F := wM G o) (gz_b (by decide)) yw1 b17 ya1 dX10_fade_94 (fun c16 ec16 => ?_)
        have h := h c16 ec16
        refine go_aload_n (pc := 95) dX10_fade_95 rfl rfl ?_
        refine go_get (pc := 96) fX10_19 rfl (gz_b (by decide)) yw0 rfl dX10_fade_96 ?_
        refine go_bipush (pc := 99) (v := 9) dX10_fade_99 (by decide) ?_
        refine go_dup2 (pc := 101) dX10_fade_101 rfl rfl ?_
        refine gb_iald (pc := 102) (gz_b (by decide)) yw4 (gv_in (by decide)) dX10_fade_102 (fun v18 ev18 => ?_)
        have h := h v18 ev18
        refine go_iconst (pc := 103) (v := 1) dX10_fade_103 (by decide) ?_
        refine go_iadd (pc := 104) dX10_fade_104 ?_
        refine gb_iast (pc := 105) (F := wM G o) (gz_b (by decide)) yw4 (gv_in (by decide)) ya4 dX10_fade_105 (fun c19 ec19 => ?_)
        have h := h c19 ec19
        refine go_aload_n (pc := 106) dX10_fade_106 rfl rfl ?_
        refine go_iload_n (pc := 107) dX10_fade_107 rfl rfl ?_
        refine go_iconst (pc := 108) (v := 1) dX10_fade_108 (by decide) ?_
        refine gq_callV_i (pc := 109) (F := wM G o) vX10_71 rfl (tX10_of h) rfl rfl (gz_b (by decide)) yw0 rfl (Nat.le_of_ble_eq_true rfl) ⟨Nat.le_of_ble_eq_true rfl, Nat.le_of_ble_eq_true rfl, Nat.le_add_right _ _, Nat.le_add_right _ _⟩ dX10_fade_109 (fun r21 c20 h => ?_)
        refine go_iconst (pc := 112) (v := 4) dX10_fade_112 (by decide) ?_
        refine go_icmp_ne (pc := 113) (tgt := 204) dX10_fade_113 (by decide) (fun q22 => ?_) (fun q22 => ?_)
        · have h := h.2 q22
          refine go_lv [1, 2] rfl ?_
          exact tX10_fade_p204 hP2 h
        · have h := h.1 q22
          refine go_aload_n (pc := 116) dX10_fade_116 rfl rfl ?_
          refine go_get (pc := 117) fX10_19 rfl (gz_b (by decide)) yw0 rfl dX10_fade_117 ?_
          refine go_bipush (pc := 120) (v := 10) dX10_fade_120 (by decide) ?_
          refine go_dup2 (pc := 122) dX10_fade_122 rfl rfl ?_
          refine gb_iald (pc := 123) (gz_b (by decide)) yw4 (gv_in (by decide)) dX10_fade_123 (fun v23 ev23 => ?_)
          have h := h v23 ev23
          refine go_iconst (pc := 124) (v := 1) dX10_fade_124 (by decide) ?_
          refine go_iadd (pc := 125) dX10_fade_125 ?_
          refine gb_iast (pc := 126) (F := wM G o) (gz_b (by decide)) yw4 (gv_in (by decide)) ya4 dX10_fade_126 (fun c24 ec24 => ?_)
          have h := h c24 ec24
          refine go_aload_n (pc := 127) dX10_fade_127 rfl rfl ?_
          refine go_get (pc := 128) fX10_9 rfl (gz_b (by decide)) yw0 rfl dX10_fade_128 ?_
          refine go_bipush (pc := 131) (v := 10) dX10_fade_131 (by decide) ?_
          refine gb_iald (pc := 133) (gz_b (by decide)) yw1 (gv_in (by decide)) dX10_fade_133 (fun v25 ev25 => ?_)
          have h := h v25 ev25
          refine go_bipush (pc := 134) (v := 100) dX10_fade_134 (by decide) ?_
          refine go_icmp_ge (pc := 136) (tgt := 193) dX10_fade_136 (by decide) (fun q26 => ?_) (fun q26 => ?_)
          · have h := h.1 q26
            refine go_lv [1, 2] rfl ?_
            exact tX10_fade_p193 hP2 h
          · have h := h.2 q26
            refine go_bipush (pc := 139) (v := 100) dX10_fade_139 (by decide) ?_
            refine go_iconst (pc := 141) (v := 3) dX10_fade_141 (by decide) ?_
            refine go_aload_n (pc := 142) dX10_fade_142 rfl rfl ?_
            refine go_get (pc := 143) fX10_9 rfl (gz_b (by decide)) yw0 rfl dX10_fade_143 ?_
            refine go_bipush (pc := 146) (v := 10) dX10_fade_146 (by decide) ?_
            refine gb_iald (pc := 148) (gz_b (by decide)) yw1 (gv_in (by decide)) dX10_fade_148 (fun v27 ev27 => ?_)
            have h := h v27 ev27
            refine go_imul (pc := 149) dX10_fade_149 ?_
            refine go_iadd (pc := 150) dX10_fade_150 ?_
            refine go_istore_n (pc := 151) (lv' := [(3, .int (100 + (3 * v27))), (2, .int s0), (0, .ref (G.2.1 + 74)), (1, .int l1)]) dX10_fade_151 rfl (by decide) rfl ?_
            refine go_aload_n (pc := 152) dX10_fade_152 rfl rfl ?_
            refine go_get (pc := 153) fX10_9 rfl (gz_b (by decide)) yw0 rfl dX10_fade_153 ?_
            refine go_iload_n (pc := 156) dX10_fade_156 rfl rfl ?_
            refine go_iload_n (pc := 157) dX10_fade_157 rfl rfl ?_
            obtain ⟨b29, h⟩ := h
            refine gb_iast (pc := 158) (F := wM G o) (gz_b (by decide)) yw1 b29 ya1 dX10_fade_158 (fun c28 ec28 => ?_)
            have h := h c28 ec28
            refine go_aload_n (pc := 159) dX10_fade_159 rfl rfl ?_
            refine go_get (pc := 160) fX10_9 rfl (gz_b (by decide)) yw0 rfl dX10_fade_160 ?_
            refine go_iload_n (pc := 163) dX10_fade_163 rfl rfl ?_
            refine go_iconst (pc := 164) (v := 1) dX10_fade_164 (by decide) ?_
            refine go_iadd (pc := 165) dX10_fade_165 ?_
            refine go_aload_n (pc := 166) dX10_fade_166 rfl rfl ?_
            refine go_get (pc := 167) fX10_9 rfl (gz_b (by decide)) yw0 rfl dX10_fade_167 ?_
            refine go_aload_n (pc := 170) dX10_fade_170 rfl rfl ?_
            refine go_iload_n (pc := 171) dX10_fade_171 rfl rfl ?_
            refine gq_callV_i (pc := 172) (F := wM G o) vX10_120 rfl (tX10_weakAt h) rfl rfl (gz_b (by decide)) yw0 rfl (Nat.le_of_ble_eq_true rfl) ⟨Nat.le_of_ble_eq_true rfl, Nat.le_of_ble_eq_true rfl, Nat.le_add_right _ _, Nat.le_add_right _ _⟩ dX10_fade_172 (fun r31 c30 h => ?_)
            refine go_iconst (pc := 175) (v := 1) dX10_fade_175 (by decide) ?_
            refine go_iadd (pc := 176) dX10_fade_176 ?_
            obtain ⟨b33, h⟩ := h
            refine gb_iald (pc := 177) (gz_b (by decide)) yw1 b33 dX10_fade_177 (fun v32 ev32 => ?_)
            have h := h v32 ev32
            obtain ⟨b35, h⟩ := h
            refine gb_iast (pc := 178) (F := wM G o) (gz_b (by decide)) yw1 b35 ya1 dX10_fade_178 (fun c34 ec34 => ?_)
            have h := h c34 ec34
            refine go_aload_n (pc := 179) dX10_fade_179 rfl rfl ?_
            refine go_get (pc := 180) fX10_9 rfl (gz_b (by decide)) yw0 rfl dX10_fade_180 ?_
            refine go_iload_n (pc := 183) dX10_fade_183 rfl rfl ?_
            refine go_iconst (pc := 184) (v := 2) dX10_fade_184 (by decide) ?_
            refine go_iadd (pc := 185) dX10_fade_185 ?_
            refine go_aload_n (pc := 186) dX10_fade_186 rfl rfl ?_
            refine go_get (pc := 187) fX10_9 rfl (gz_b (by decide)) yw0 rfl dX10_fade_187 ?_
            refine go_iconst (pc := 190) (v := 5) dX10_fade_190 (by decide) ?_
            refine gb_iald (pc := 191) (gz_b (by decide)) yw1 (gv_in (by decide)) dX10_fade_191 (fun v36 ev36 => ?_)
            have h := h v36 ev36
            obtain ⟨b38, h⟩ := h
            refine gb_iast (pc := 192) (F := wM G o) (gz_b (by decide)) yw1 b38 ya1 dX10_fade_192 (fun c37 ec37 => ?_)
            have h := h c37 ec37
            refine go_lv [2, 3] rfl ?_
            exact tX10_fade_p193 hP2 h
def wX10_fade_p46 (P2 : Int32 → gMem → Prop) (l1 : Int32) (c : gMem) (Q : gMem → Prop) : Prop :=
  wX10_fade_p47 P2 l1 0 c Q
set_option maxRecDepth 100000 in
set_option maxHeartbeats 4000000 in
theorem tX10_fade_p46 {l : Launch} {G : gG} {k : Nat} {o : gMem} {Q : gMem → Prop} {P2 : Int32 → gMem → Prop} (hP2 : ∀ (l1 : Int32) (c : gMem), P2 l1 c → Go l G mX10_fade (gbq G 2 43 84 k (qv (wM G o) Q)) 2 [(0, .ref (G.2.1 + 74)), (1, .int l1)] [] 84 k (wM G o c)) {l1 : Int32} {c : gMem} (h : wX10_fade_p46 P2 l1 c Q) : Go l G mX10_fade (gbq G 2 43 84 k (qv (wM G o) Q)) 46 [(0, .ref (G.2.1 + 74)), (1, .int l1)] [] 84 k (wM G o c) := by
  unfold wX10_fade_p46 at h
  refine go_iconst (pc := 46) (v := 0) dX10_fade_46 (by decide) ?_
  refine go_lv [0, 1] rfl ?_
  exact tX10_fade_p47 hP2 h
def wX10_fade_p42 (P2 : Int32 → gMem → Prop) (l1 : Int32) (c : gMem) (Q : gMem → Prop) : Prop :=
  wX10_fade_p47 P2 l1 1 c Q
set_option maxRecDepth 100000 in
set_option maxHeartbeats 4000000 in
theorem tX10_fade_p42 {l : Launch} {G : gG} {k : Nat} {o : gMem} {Q : gMem → Prop} {P2 : Int32 → gMem → Prop} (hP2 : ∀ (l1 : Int32) (c : gMem), P2 l1 c → Go l G mX10_fade (gbq G 2 43 84 k (qv (wM G o) Q)) 2 [(0, .ref (G.2.1 + 74)), (1, .int l1)] [] 84 k (wM G o c)) {l1 : Int32} {c : gMem} (h : wX10_fade_p42 P2 l1 c Q) : Go l G mX10_fade (gbq G 2 43 84 k (qv (wM G o) Q)) 42 [(0, .ref (G.2.1 + 74)), (1, .int l1)] [] 84 k (wM G o c) := by
  unfold wX10_fade_p42 at h
  refine go_iconst (pc := 42) (v := 1) dX10_fade_42 (by decide) ?_
  refine go_goto (pc := 43) (tgt := 47) dX10_fade_43 (by decide) ?_
  refine go_lv [0, 1] rfl ?_
  exact tX10_fade_p47 hP2 h
def wX10_fade_p2_b (P2 : Int32 → gMem → Prop) (l1 : Int32) (c : gMem) (Q : gMem → Prop) : Prop :=
  ∀ v1, v1 = c 1 1 →
  ((v1 ≤ l1 →
    Q c) ∧
   (¬ v1 ≤ l1 →
    wX10_of l1 0 c (fun r4 c3 =>
    ((r4 = 1 →
      wX10_of l1 1 c3 (fun r7 c6 =>
      ((r7 = 3 →
        wX10_fade_p42 P2 l1 c6 Q) ∧
       (¬ r7 = 3 →
        wX10_of l1 1 c6 (fun r10 c9 =>
        ((r10 = 4 →
          wX10_fade_p42 P2 l1 c9 Q) ∧
         (¬ r10 = 4 →
          wX10_fade_p46 P2 l1 c9 Q))))))) ∧
     (¬ r4 = 1 →
      wX10_fade_p46 P2 l1 c3 Q)))))
def wX10_fade_p2 (l1 : Int32) (c : gMem) (Q : gMem → Prop) : Prop :=
  ∀ P2 : Int32 → gMem → Prop, (∀ (l1 : Int32) (c : gMem), wX10_fade_p2_b P2 l1 c Q → P2 l1 c) → P2 l1 c
set_option maxRecDepth 100000 in
set_option maxHeartbeats 4000000 in
theorem tX10_fade_p2_b {l : Launch} {G : gG} {k : Nat} {o : gMem} {Q : gMem → Prop} {P2 : Int32 → gMem → Prop} (hP2 : ∀ (l1 : Int32) (c : gMem), P2 l1 c → Go l G mX10_fade (gbq G 2 43 84 k (qv (wM G o) Q)) 2 [(0, .ref (G.2.1 + 74)), (1, .int l1)] [] 84 k (wM G o c)) {l1 : Int32} {c : gMem} (h : wX10_fade_p2_b P2 l1 c Q) : Go l G mX10_fade (gbq G 2 43 84 k (qv (wM G o) Q)) 2 [(0, .ref (G.2.1 + 74)), (1, .int l1)] [] 84 k (wM G o c) := by
  unfold wX10_fade_p2_b at h
  refine go_iload_n (pc := 2) dX10_fade_2 rfl rfl ?_
  refine go_aload_n (pc := 3) dX10_fade_3 rfl rfl ?_
  refine go_get (pc := 4) fX10_9 rfl (gz_b (by decide)) yw0 rfl dX10_fade_4 ?_
  refine go_iconst (pc := 7) (v := 1) dX10_fade_7 (by decide) ?_
  refine gb_iald (pc := 8) (gz_b (by decide)) yw1 (gv_in (by decide)) dX10_fade_8 (fun v1 ev1 => ?_)
  have h := h v1 ev1
  refine go_icmp_ge (pc := 9) (tgt := 210) dX10_fade_9 (by decide) (fun q2 => ?_) (fun q2 => ?_)
  · have h := h.1 q2
    exact gq_vret (pc := 210) (F := wM G o) rfl dX10_fade_210 h
  · have h := h.2 q2
    refine go_aload_n (pc := 12) dX10_fade_12 rfl rfl ?_
    refine go_iload_n (pc := 13) dX10_fade_13 rfl rfl ?_
    refine go_iconst (pc := 14) (v := 0) dX10_fade_14 (by decide) ?_
    refine gq_callV_i (pc := 15) (F := wM G o) vX10_71 rfl (tX10_of h) rfl rfl (gz_b (by decide)) yw0 rfl (Nat.le_of_ble_eq_true rfl) ⟨Nat.le_of_ble_eq_true rfl, Nat.le_of_ble_eq_true rfl, Nat.le_add_right _ _, Nat.le_add_right _ _⟩ dX10_fade_15 (fun r4 c3 h => ?_)
    refine go_iconst (pc := 18) (v := 1) dX10_fade_18 (by decide) ?_
    refine go_icmp_ne (pc := 19) (tgt := 46) dX10_fade_19 (by decide) (fun q5 => ?_) (fun q5 => ?_)
    · have h := h.2 q5
      refine go_lv [0, 1] rfl ?_
      exact tX10_fade_p46 hP2 h
    · have h := h.1 q5
      refine go_aload_n (pc := 22) dX10_fade_22 rfl rfl ?_
      refine go_iload_n (pc := 23) dX10_fade_23 rfl rfl ?_
      refine go_iconst (pc := 24) (v := 1) dX10_fade_24 (by decide) ?_
      refine gq_callV_i (pc := 25) (F := wM G o) vX10_71 rfl (tX10_of h) rfl rfl (gz_b (by decide)) yw0 rfl (Nat.le_of_ble_eq_true rfl) ⟨Nat.le_of_ble_eq_true rfl, Nat.le_of_ble_eq_true rfl, Nat.le_add_right _ _, Nat.le_add_right _ _⟩ dX10_fade_25 (fun r7 c6 h => ?_)
      refine go_iconst (pc := 28) (v := 3) dX10_fade_28 (by decide) ?_
      refine go_icmp_eq (pc := 29) (tgt := 42) dX10_fade_29 (by decide) (fun q8 => ?_) (fun q8 => ?_)
      · have h := h.1 q8
        refine go_lv [0, 1] rfl ?_
        exact tX10_fade_p42 hP2 h
      · have h := h.2 q8
        refine go_aload_n (pc := 32) dX10_fade_32 rfl rfl ?_
        refine go_iload_n (pc := 33) dX10_fade_33 rfl rfl ?_
        refine go_iconst (pc := 34) (v := 1) dX10_fade_34 (by decide) ?_
        refine gq_callV_i (pc := 35) (F := wM G o) vX10_71 rfl (tX10_of h) rfl rfl (gz_b (by decide)) yw0 rfl (Nat.le_of_ble_eq_true rfl) ⟨Nat.le_of_ble_eq_true rfl, Nat.le_of_ble_eq_true rfl, Nat.le_add_right _ _, Nat.le_add_right _ _⟩ dX10_fade_35 (fun r10 c9 h => ?_)
        refine go_iconst (pc := 38) (v := 4) dX10_fade_38 (by decide) ?_
        refine go_icmp_ne (pc := 39) (tgt := 46) dX10_fade_39 (by decide) (fun q11 => ?_) (fun q11 => ?_)
        · have h := h.2 q11
          refine go_lv [0, 1] rfl ?_
          exact tX10_fade_p46 hP2 h
        · have h := h.1 q11
          refine go_lv [0, 1] rfl ?_
          exact tX10_fade_p42 hP2 h
set_option maxRecDepth 100000 in
set_option maxHeartbeats 4000000 in
theorem tX10_fade_p2 {l : Launch} {G : gG} {k : Nat} {o : gMem} {Q : gMem → Prop} {l1 : Int32} {c : gMem} (h : wX10_fade_p2 l1 c Q) : Go l G mX10_fade (gbq G 2 43 84 k (qv (wM G o) Q)) 2 [(0, .ref (G.2.1 + 74)), (1, .int l1)] [] 84 k (wM G o c) :=
  h (fun l1 c => Go l G mX10_fade (gbq G 2 43 84 k (qv (wM G o) Q)) 2 [(0, .ref (G.2.1 + 74)), (1, .int l1)] [] 84 k (wM G o c)) (fun l1 c hb => tX10_fade_p2_b (fun l1 c hh => hh) hb)
def wX10_fade (c : gMem) (Q : gMem → Prop) : Prop :=
  wX10_fade_p2 0 c Q
set_option maxRecDepth 100000 in
set_option maxHeartbeats 4000000 in
theorem tX10_fade {l : Launch} {G : gG} {k : Nat} {o : gMem} {Q : gMem → Prop} {c : gMem} (h : wX10_fade c Q) : Cq l G mX10_fade 2 43 [.ref (G.2.1 + 74)] 84 k (wM G o c) (qv (wM G o) Q) := by
  refine Cq.of (by decide) (Nat.le_of_ble_eq_true rfl) ?_
  show Go l G mX10_fade (gbq G 2 43 84 k (qv (wM G o) Q)) 0 [(0, .ref (G.2.1 + 74))] [] 84 k (wM G o c)
  unfold wX10_fade at h
  refine go_iconst (pc := 0) (v := 0) dX10_fade_0 (by decide) ?_
  refine go_istore_n (pc := 1) (lv' := [(1, .int 0), (0, .ref (G.2.1 + 74))]) dX10_fade_1 rfl (by decide) rfl ?_
  refine go_lv [1, 0] rfl ?_
  exact tX10_fade_p2 h
def wX10_write (l1 : Int32) (c : gMem) (Q : gMem → Prop) : Prop :=
  ∀ v1, v1 = c 1 15 →
  vp_in (10100 + v1) 26100 ∧
  ∀ c2, c2 = mp c 1 (10100 + v1).toNatClampNeg l1 →
  ∀ v4, v4 = c2 1 15 →
  vp_in (18100 + v4) 26100 ∧
  ∀ c5, c5 = mp c2 1 (18100 + v4).toNatClampNeg l1 →
  ∀ v7, v7 = c5 1 15 →
  ∀ c8, c8 = mp c5 1 15 (v7 + 1) →
  Q c8
set_option maxRecDepth 100000 in
set_option maxHeartbeats 4000000 in
theorem tX10_write {l : Launch} {G : gG} {k : Nat} {o : gMem} {Q : gMem → Prop} {l1 : Int32} {c : gMem} (h : wX10_write l1 c Q) : Cq l G mX10_write 0 0 [.ref (G.2.1 + 74), .int l1] 84 k (wM G o c) (qv (wM G o) Q) := by
  refine Cq.of (by decide) (Nat.le_of_ble_eq_true rfl) ?_
  show Go l G mX10_write (gbq G 0 0 84 k (qv (wM G o) Q)) 0 [(0, .ref (G.2.1 + 74)), (1, .int l1)] [] 84 k (wM G o c)
  unfold wX10_write at h
  refine go_aload_n (pc := 0) dX10_write_0 rfl rfl ?_
  refine go_get (pc := 1) fX10_9 rfl (gz_b (by decide)) yw0 rfl dX10_write_1 ?_
  refine go_sipush (pc := 4) (v := 10100) dX10_write_4 (by decide) ?_
  refine go_aload_n (pc := 7) dX10_write_7 rfl rfl ?_
  refine go_get (pc := 8) fX10_9 rfl (gz_b (by decide)) yw0 rfl dX10_write_8 ?_
  refine go_bipush (pc := 11) (v := 15) dX10_write_11 (by decide) ?_
  refine gb_iald (pc := 13) (gz_b (by decide)) yw1 (gv_in (by decide)) dX10_write_13 (fun v1 ev1 => ?_)
  have h := h v1 ev1
  refine go_iadd (pc := 14) dX10_write_14 ?_
  refine go_iload_n (pc := 15) dX10_write_15 rfl rfl ?_
  obtain ⟨b3, h⟩ := h
  refine gb_iast (pc := 16) (F := wM G o) (gz_b (by decide)) yw1 b3 ya1 dX10_write_16 (fun c2 ec2 => ?_)
  have h := h c2 ec2
  refine go_aload_n (pc := 17) dX10_write_17 rfl rfl ?_
  refine go_get (pc := 18) fX10_9 rfl (gz_b (by decide)) yw0 rfl dX10_write_18 ?_
  refine go_sipush (pc := 21) (v := 18100) dX10_write_21 (by decide) ?_
  refine go_aload_n (pc := 24) dX10_write_24 rfl rfl ?_
  refine go_get (pc := 25) fX10_9 rfl (gz_b (by decide)) yw0 rfl dX10_write_25 ?_
  refine go_bipush (pc := 28) (v := 15) dX10_write_28 (by decide) ?_
  refine gb_iald (pc := 30) (gz_b (by decide)) yw1 (gv_in (by decide)) dX10_write_30 (fun v4 ev4 => ?_)
  have h := h v4 ev4
  refine go_iadd (pc := 31) dX10_write_31 ?_
  refine go_iload_n (pc := 32) dX10_write_32 rfl rfl ?_
  obtain ⟨b6, h⟩ := h
  refine gb_iast (pc := 33) (F := wM G o) (gz_b (by decide)) yw1 b6 ya1 dX10_write_33 (fun c5 ec5 => ?_)
  have h := h c5 ec5
  refine go_aload_n (pc := 34) dX10_write_34 rfl rfl ?_
  refine go_get (pc := 35) fX10_9 rfl (gz_b (by decide)) yw0 rfl dX10_write_35 ?_
  refine go_bipush (pc := 38) (v := 15) dX10_write_38 (by decide) ?_
  refine go_dup2 (pc := 40) dX10_write_40 rfl rfl ?_
  refine gb_iald (pc := 41) (gz_b (by decide)) yw1 (gv_in (by decide)) dX10_write_41 (fun v7 ev7 => ?_)
  have h := h v7 ev7
  refine go_iconst (pc := 42) (v := 1) dX10_write_42 (by decide) ?_
  refine go_iadd (pc := 43) dX10_write_43 ?_
  refine gb_iast (pc := 44) (F := wM G o) (gz_b (by decide)) yw1 (gv_in (by decide)) ya1 dX10_write_44 (fun c8 ec8 => ?_)
  have h := h c8 ec8
  exact gq_vret (pc := 45) (F := wM G o) rfl dX10_write_45 h
def wX10_sum_p4_b (P4 : Int32 → Int32 → gMem → Prop) (l1 : Int32) (l2 : Int32) (c : gMem) (Q : Int32 → gMem → Prop) : Prop :=
  ∀ v1, v1 = c 1 15 →
  ((v1 ≤ l2 →
    Q l1 c) ∧
   (¬ v1 ≤ l2 →
    vp_in (10100 + l2) 26100 ∧
    ∀ v3, v3 = c 1 (10100 + l2).toNatClampNeg →
    P4 ((31 * l1) + v3) (l2 + 1) c))
def wX10_sum_p4 (l1 : Int32) (l2 : Int32) (c : gMem) (Q : Int32 → gMem → Prop) : Prop :=
  ∀ P4 : Int32 → Int32 → gMem → Prop, (∀ (l1 : Int32) (l2 : Int32) (c : gMem), wX10_sum_p4_b P4 l1 l2 c Q → P4 l1 l2 c) → P4 l1 l2 c
set_option maxRecDepth 100000 in
set_option maxHeartbeats 4000000 in
theorem tX10_sum_p4_b {l : Launch} {G : gG} {k : Nat} {o : gMem} {Q : Int32 → gMem → Prop} {P4 : Int32 → Int32 → gMem → Prop} (hP4 : ∀ (l1 : Int32) (l2 : Int32) (c : gMem), P4 l1 l2 c → Go l G mX10_sum (gbq G 0 0 84 k (qi (wM G o) Q)) 4 [(0, .ref (G.2.1 + 74)), (1, .int l1), (2, .int l2)] [] 84 k (wM G o c)) {l1 : Int32} {l2 : Int32} {c : gMem} (h : wX10_sum_p4_b P4 l1 l2 c Q) : Go l G mX10_sum (gbq G 0 0 84 k (qi (wM G o) Q)) 4 [(0, .ref (G.2.1 + 74)), (1, .int l1), (2, .int l2)] [] 84 k (wM G o c) := by
  unfold wX10_sum_p4_b at h
  refine go_iload_n (pc := 4) dX10_sum_4 rfl rfl ?_
  refine go_aload_n (pc := 5) dX10_sum_5 rfl rfl ?_
  refine go_get (pc := 6) fX10_9 rfl (gz_b (by decide)) yw0 rfl dX10_sum_6 ?_
  refine go_bipush (pc := 9) (v := 15) dX10_sum_9 (by decide) ?_
  refine gb_iald (pc := 11) (gz_b (by decide)) yw1 (gv_in (by decide)) dX10_sum_11 (fun v1 ev1 => ?_)
  have h := h v1 ev1
  refine go_icmp_ge (pc := 12) (tgt := 37) dX10_sum_12 (by decide) (fun q2 => ?_) (fun q2 => ?_)
  · have h := h.1 q2
    refine go_iload_n (pc := 37) dX10_sum_37 rfl rfl ?_
    exact gq_iret (pc := 38) (F := wM G o) rfl dX10_sum_38 h
  · have h := h.2 q2
    refine go_bipush (pc := 15) (v := 31) dX10_sum_15 (by decide) ?_
    refine go_iload_n (pc := 17) dX10_sum_17 rfl rfl ?_
    refine go_imul (pc := 18) dX10_sum_18 ?_
    refine go_aload_n (pc := 19) dX10_sum_19 rfl rfl ?_
    refine go_get (pc := 20) fX10_9 rfl (gz_b (by decide)) yw0 rfl dX10_sum_20 ?_
    refine go_sipush (pc := 23) (v := 10100) dX10_sum_23 (by decide) ?_
    refine go_iload_n (pc := 26) dX10_sum_26 rfl rfl ?_
    refine go_iadd (pc := 27) dX10_sum_27 ?_
    obtain ⟨b4, h⟩ := h
    refine gb_iald (pc := 28) (gz_b (by decide)) yw1 b4 dX10_sum_28 (fun v3 ev3 => ?_)
    have h := h v3 ev3
    refine go_iadd (pc := 29) dX10_sum_29 ?_
    refine go_istore_n (pc := 30) (lv' := [(1, .int ((31 * l1) + v3)), (0, .ref (G.2.1 + 74)), (2, .int l2)]) dX10_sum_30 rfl (by decide) rfl ?_
    refine go_iinc (pc := 31) (v := l2 + 1) (lv' := [(2, .int (l2 + 1)), (1, .int ((31 * l1) + v3)), (0, .ref (G.2.1 + 74))]) dX10_sum_31 2 rfl (by first | rfl | decide) (by decide) rfl ?_
    refine go_goto (pc := 34) (tgt := 4) dX10_sum_34 (by decide) ?_
    refine go_lv [2, 1, 0] rfl ?_
    exact hP4 _ _ _ h
set_option maxRecDepth 100000 in
set_option maxHeartbeats 4000000 in
theorem tX10_sum_p4 {l : Launch} {G : gG} {k : Nat} {o : gMem} {Q : Int32 → gMem → Prop} {l1 : Int32} {l2 : Int32} {c : gMem} (h : wX10_sum_p4 l1 l2 c Q) : Go l G mX10_sum (gbq G 0 0 84 k (qi (wM G o) Q)) 4 [(0, .ref (G.2.1 + 74)), (1, .int l1), (2, .int l2)] [] 84 k (wM G o c) :=
  h (fun l1 l2 c => Go l G mX10_sum (gbq G 0 0 84 k (qi (wM G o) Q)) 4 [(0, .ref (G.2.1 + 74)), (1, .int l1), (2, .int l2)] [] 84 k (wM G o c)) (fun l1 l2 c hb => tX10_sum_p4_b (fun l1 l2 c hh => hh) hb)
def wX10_sum (c : gMem) (Q : Int32 → gMem → Prop) : Prop :=
  wX10_sum_p4 1 0 c Q
set_option maxRecDepth 100000 in
set_option maxHeartbeats 4000000 in
theorem tX10_sum {l : Launch} {G : gG} {k : Nat} {o : gMem} {Q : Int32 → gMem → Prop} {c : gMem} (h : wX10_sum c Q) : Cq l G mX10_sum 0 0 [.ref (G.2.1 + 74)] 84 k (wM G o c) (qi (wM G o) Q) := by
  refine Cq.of (by decide) (Nat.le_of_ble_eq_true rfl) ?_
  show Go l G mX10_sum (gbq G 0 0 84 k (qi (wM G o) Q)) 0 [(0, .ref (G.2.1 + 74))] [] 84 k (wM G o c)
  unfold wX10_sum at h
  refine go_iconst (pc := 0) (v := 1) dX10_sum_0 (by decide) ?_
  refine go_istore_n (pc := 1) (lv' := [(1, .int 1), (0, .ref (G.2.1 + 74))]) dX10_sum_1 rfl (by decide) rfl ?_
  refine go_iconst (pc := 2) (v := 0) dX10_sum_2 (by decide) ?_
  refine go_istore_n (pc := 3) (lv' := [(2, .int 0), (1, .int 1), (0, .ref (G.2.1 + 74))]) dX10_sum_3 rfl (by decide) rfl ?_
  refine go_lv [2, 1, 0] rfl ?_
  exact tX10_sum_p4 h
def wX10_writeCell_p61_b (P61 : Int32 → Int32 → Int32 → gMem → Prop) (l1 : Int32) (l2 : Int32) (l3 : Int32) (c : gMem) (Q : gMem → Prop) : Prop :=
  ((l2 ≤ l3 →
    Q c) ∧
   (¬ l2 ≤ l3 →
    wX10_linkAt l1 l3 c (fun r3 c2 =>
    vp_in r3 26100 ∧
    ∀ v4, v4 = c2 1 r3.toNatClampNeg →
    wX10_write v4 c2 (fun c6 =>
    P61 l1 l2 (l3 + 1) c6))))
def wX10_writeCell_p61 (l1 : Int32) (l2 : Int32) (l3 : Int32) (c : gMem) (Q : gMem → Prop) : Prop :=
  ∀ P61 : Int32 → Int32 → Int32 → gMem → Prop, (∀ (l1 : Int32) (l2 : Int32) (l3 : Int32) (c : gMem), wX10_writeCell_p61_b P61 l1 l2 l3 c Q → P61 l1 l2 l3 c) → P61 l1 l2 l3 c
set_option maxRecDepth 100000 in
set_option maxHeartbeats 4000000 in
theorem tX10_writeCell_p61_b {l : Launch} {G : gG} {k : Nat} {o : gMem} {Q : gMem → Prop} {P61 : Int32 → Int32 → Int32 → gMem → Prop} (hP61 : ∀ (l1 : Int32) (l2 : Int32) (l3 : Int32) (c : gMem), P61 l1 l2 l3 c → Go l G mX10_writeCell (gbq G 2 45 84 k (qv (wM G o) Q)) 61 [(0, .ref (G.2.1 + 74)), (1, .int l1), (2, .int l2), (3, .int l3)] [] 84 k (wM G o c)) {l1 : Int32} {l2 : Int32} {l3 : Int32} {c : gMem} (h : wX10_writeCell_p61_b P61 l1 l2 l3 c Q) : Go l G mX10_writeCell (gbq G 2 45 84 k (qv (wM G o) Q)) 61 [(0, .ref (G.2.1 + 74)), (1, .int l1), (2, .int l2), (3, .int l3)] [] 84 k (wM G o c) := by
  unfold wX10_writeCell_p61_b at h
  refine go_iload_n (pc := 61) dX10_writeCell_61 rfl rfl ?_
  refine go_iload_n (pc := 62) dX10_writeCell_62 rfl rfl ?_
  refine go_icmp_ge (pc := 63) (tgt := 87) dX10_writeCell_63 (by decide) (fun q1 => ?_) (fun q1 => ?_)
  · have h := h.1 q1
    exact gq_vret (pc := 87) (F := wM G o) rfl dX10_writeCell_87 h
  · have h := h.2 q1
    refine go_aload_n (pc := 66) dX10_writeCell_66 rfl rfl ?_
    refine go_aload_n (pc := 67) dX10_writeCell_67 rfl rfl ?_
    refine go_get (pc := 68) fX10_9 rfl (gz_b (by decide)) yw0 rfl dX10_writeCell_68 ?_
    refine go_aload_n (pc := 71) dX10_writeCell_71 rfl rfl ?_
    refine go_iload_n (pc := 72) dX10_writeCell_72 rfl rfl ?_
    refine go_iload_n (pc := 73) dX10_writeCell_73 rfl rfl ?_
    refine gq_callV_i (pc := 74) (F := wM G o) vX10_98 rfl (tX10_linkAt h) rfl rfl (gz_b (by decide)) yw0 rfl (Nat.le_of_ble_eq_true rfl) ⟨Nat.le_of_ble_eq_true rfl, Nat.le_of_ble_eq_true rfl, Nat.le_add_right _ _, Nat.le_add_right _ _⟩ dX10_writeCell_74 (fun r3 c2 h => ?_)
    obtain ⟨b5, h⟩ := h
    refine gb_iald (pc := 77) (gz_b (by decide)) yw1 b5 dX10_writeCell_77 (fun v4 ev4 => ?_)
    have h := h v4 ev4
    refine gq_callV_v (pc := 78) (F := wM G o) vX10_123 rfl (tX10_write h) rfl rfl (gz_b (by decide)) yw0 rfl (Nat.le_of_ble_eq_true rfl) ⟨Nat.le_of_ble_eq_true rfl, Nat.le_of_ble_eq_true rfl, Nat.le_add_right _ _, Nat.le_add_right _ _⟩ dX10_writeCell_78 (fun c6 h => ?_)
    refine go_iinc (pc := 81) (v := l3 + 1) (lv' := [(3, .int (l3 + 1)), (0, .ref (G.2.1 + 74)), (1, .int l1), (2, .int l2)]) dX10_writeCell_81 3 rfl (by first | rfl | decide) (by decide) rfl ?_
    refine go_goto (pc := 84) (tgt := 61) dX10_writeCell_84 (by decide) ?_
    refine go_lv [1, 2, 3, 0] rfl ?_
    exact hP61 _ _ _ _ h
set_option maxRecDepth 100000 in
set_option maxHeartbeats 4000000 in
theorem tX10_writeCell_p61 {l : Launch} {G : gG} {k : Nat} {o : gMem} {Q : gMem → Prop} {l1 : Int32} {l2 : Int32} {l3 : Int32} {c : gMem} (h : wX10_writeCell_p61 l1 l2 l3 c Q) : Go l G mX10_writeCell (gbq G 2 45 84 k (qv (wM G o) Q)) 61 [(0, .ref (G.2.1 + 74)), (1, .int l1), (2, .int l2), (3, .int l3)] [] 84 k (wM G o c) :=
  h (fun l1 l2 l3 c => Go l G mX10_writeCell (gbq G 2 45 84 k (qv (wM G o) Q)) 61 [(0, .ref (G.2.1 + 74)), (1, .int l1), (2, .int l2), (3, .int l3)] [] 84 k (wM G o c)) (fun l1 l2 l3 c hb => tX10_writeCell_p61_b (fun l1 l2 l3 c hh => hh) hb)
def wX10_writeCell (l1 : Int32) (c : gMem) (Q : gMem → Prop) : Prop :=
  wX10_write l1 c (fun c1 =>
  wX10_of l1 6 c1 (fun r3 c2 =>
  wX10_write r3 c2 (fun c4 =>
  wX10_of l1 7 c4 (fun r6 c5 =>
  wX10_write r6 c5 (fun c7 =>
  wX10_of l1 8 c7 (fun r9 c8 =>
  wX10_write r9 c8 (fun c10 =>
  wX10_of l1 5 c10 (fun r12 c11 =>
  wX10_write r12 c11 (fun c13 =>
  wX10_linksOf l1 c13 (fun r15 c14 =>
  wX10_write r15 c14 (fun c16 =>
  wX10_writeCell_p61 l1 r15 0 c16 Q)))))))))))
set_option maxRecDepth 100000 in
set_option maxHeartbeats 4000000 in
theorem tX10_writeCell {l : Launch} {G : gG} {k : Nat} {o : gMem} {Q : gMem → Prop} {l1 : Int32} {c : gMem} (h : wX10_writeCell l1 c Q) : Cq l G mX10_writeCell 2 45 [.ref (G.2.1 + 74), .int l1] 84 k (wM G o c) (qv (wM G o) Q) := by
  refine Cq.of (by decide) (Nat.le_of_ble_eq_true rfl) ?_
  show Go l G mX10_writeCell (gbq G 2 45 84 k (qv (wM G o) Q)) 0 [(0, .ref (G.2.1 + 74)), (1, .int l1)] [] 84 k (wM G o c)
  unfold wX10_writeCell at h
  refine go_aload_n (pc := 0) dX10_writeCell_0 rfl rfl ?_
  refine go_iload_n (pc := 1) dX10_writeCell_1 rfl rfl ?_
  refine gq_callV_v (pc := 2) (F := wM G o) vX10_123 rfl (tX10_write h) rfl rfl (gz_b (by decide)) yw0 rfl (Nat.le_of_ble_eq_true rfl) ⟨Nat.le_of_ble_eq_true rfl, Nat.le_of_ble_eq_true rfl, Nat.le_add_right _ _, Nat.le_add_right _ _⟩ dX10_writeCell_2 (fun c1 h => ?_)
  refine go_aload_n (pc := 5) dX10_writeCell_5 rfl rfl ?_
  refine go_aload_n (pc := 6) dX10_writeCell_6 rfl rfl ?_
  refine go_iload_n (pc := 7) dX10_writeCell_7 rfl rfl ?_
  refine go_bipush (pc := 8) (v := 6) dX10_writeCell_8 (by decide) ?_
  refine gq_callV_i (pc := 10) (F := wM G o) vX10_71 rfl (tX10_of h) rfl rfl (gz_b (by decide)) yw0 rfl (Nat.le_of_ble_eq_true rfl) ⟨Nat.le_of_ble_eq_true rfl, Nat.le_of_ble_eq_true rfl, Nat.le_add_right _ _, Nat.le_add_right _ _⟩ dX10_writeCell_10 (fun r3 c2 h => ?_)
  refine gq_callV_v (pc := 13) (F := wM G o) vX10_123 rfl (tX10_write h) rfl rfl (gz_b (by decide)) yw0 rfl (Nat.le_of_ble_eq_true rfl) ⟨Nat.le_of_ble_eq_true rfl, Nat.le_of_ble_eq_true rfl, Nat.le_add_right _ _, Nat.le_add_right _ _⟩ dX10_writeCell_13 (fun c4 h => ?_)
  refine go_aload_n (pc := 16) dX10_writeCell_16 rfl rfl ?_
  refine go_aload_n (pc := 17) dX10_writeCell_17 rfl rfl ?_
  refine go_iload_n (pc := 18) dX10_writeCell_18 rfl rfl ?_
  refine go_bipush (pc := 19) (v := 7) dX10_writeCell_19 (by decide) ?_
  refine gq_callV_i (pc := 21) (F := wM G o) vX10_71 rfl (tX10_of h) rfl rfl (gz_b (by decide)) yw0 rfl (Nat.le_of_ble_eq_true rfl) ⟨Nat.le_of_ble_eq_true rfl, Nat.le_of_ble_eq_true rfl, Nat.le_add_right _ _, Nat.le_add_right _ _⟩ dX10_writeCell_21 (fun r6 c5 h => ?_)
  refine gq_callV_v (pc := 24) (F := wM G o) vX10_123 rfl (tX10_write h) rfl rfl (gz_b (by decide)) yw0 rfl (Nat.le_of_ble_eq_true rfl) ⟨Nat.le_of_ble_eq_true rfl, Nat.le_of_ble_eq_true rfl, Nat.le_add_right _ _, Nat.le_add_right _ _⟩ dX10_writeCell_24 (fun c7 h => ?_)
  refine go_aload_n (pc := 27) dX10_writeCell_27 rfl rfl ?_
  refine go_aload_n (pc := 28) dX10_writeCell_28 rfl rfl ?_
  refine go_iload_n (pc := 29) dX10_writeCell_29 rfl rfl ?_
  refine go_bipush (pc := 30) (v := 8) dX10_writeCell_30 (by decide) ?_
  refine gq_callV_i (pc := 32) (F := wM G o) vX10_71 rfl (tX10_of h) rfl rfl (gz_b (by decide)) yw0 rfl (Nat.le_of_ble_eq_true rfl) ⟨Nat.le_of_ble_eq_true rfl, Nat.le_of_ble_eq_true rfl, Nat.le_add_right _ _, Nat.le_add_right _ _⟩ dX10_writeCell_32 (fun r9 c8 h => ?_)
  refine gq_callV_v (pc := 35) (F := wM G o) vX10_123 rfl (tX10_write h) rfl rfl (gz_b (by decide)) yw0 rfl (Nat.le_of_ble_eq_true rfl) ⟨Nat.le_of_ble_eq_true rfl, Nat.le_of_ble_eq_true rfl, Nat.le_add_right _ _, Nat.le_add_right _ _⟩ dX10_writeCell_35 (fun c10 h => ?_)
  refine go_aload_n (pc := 38) dX10_writeCell_38 rfl rfl ?_
  refine go_aload_n (pc := 39) dX10_writeCell_39 rfl rfl ?_
  refine go_iload_n (pc := 40) dX10_writeCell_40 rfl rfl ?_
  refine go_iconst (pc := 41) (v := 5) dX10_writeCell_41 (by decide) ?_
  refine gq_callV_i (pc := 42) (F := wM G o) vX10_71 rfl (tX10_of h) rfl rfl (gz_b (by decide)) yw0 rfl (Nat.le_of_ble_eq_true rfl) ⟨Nat.le_of_ble_eq_true rfl, Nat.le_of_ble_eq_true rfl, Nat.le_add_right _ _, Nat.le_add_right _ _⟩ dX10_writeCell_42 (fun r12 c11 h => ?_)
  refine gq_callV_v (pc := 45) (F := wM G o) vX10_123 rfl (tX10_write h) rfl rfl (gz_b (by decide)) yw0 rfl (Nat.le_of_ble_eq_true rfl) ⟨Nat.le_of_ble_eq_true rfl, Nat.le_of_ble_eq_true rfl, Nat.le_add_right _ _, Nat.le_add_right _ _⟩ dX10_writeCell_45 (fun c13 h => ?_)
  refine go_aload_n (pc := 48) dX10_writeCell_48 rfl rfl ?_
  refine go_iload_n (pc := 49) dX10_writeCell_49 rfl rfl ?_
  refine gq_callV_i (pc := 50) (F := wM G o) vX10_90 rfl (tX10_linksOf h) rfl rfl (gz_b (by decide)) yw0 rfl (Nat.le_of_ble_eq_true rfl) ⟨Nat.le_of_ble_eq_true rfl, Nat.le_of_ble_eq_true rfl, Nat.le_add_right _ _, Nat.le_add_right _ _⟩ dX10_writeCell_50 (fun r15 c14 h => ?_)
  refine go_istore_n (pc := 53) (lv' := [(2, .int r15), (0, .ref (G.2.1 + 74)), (1, .int l1)]) dX10_writeCell_53 rfl (by decide) rfl ?_
  refine go_aload_n (pc := 54) dX10_writeCell_54 rfl rfl ?_
  refine go_iload_n (pc := 55) dX10_writeCell_55 rfl rfl ?_
  refine gq_callV_v (pc := 56) (F := wM G o) vX10_123 rfl (tX10_write h) rfl rfl (gz_b (by decide)) yw0 rfl (Nat.le_of_ble_eq_true rfl) ⟨Nat.le_of_ble_eq_true rfl, Nat.le_of_ble_eq_true rfl, Nat.le_add_right _ _, Nat.le_add_right _ _⟩ dX10_writeCell_56 (fun c16 h => ?_)
  refine go_iconst (pc := 59) (v := 0) dX10_writeCell_59 (by decide) ?_
  refine go_istore_n (pc := 60) (lv' := [(3, .int 0), (2, .int r15), (0, .ref (G.2.1 + 74)), (1, .int l1)]) dX10_writeCell_60 rfl (by decide) rfl ?_
  refine go_lv [2, 3, 1, 0] rfl ?_
  exact tX10_writeCell_p61 h
def wX10_slide_p258_b (P258 : Int32 → gMem → Prop) (l3 : Int32) (c : gMem) (Q : gMem → Prop) : Prop :=
  ∀ v1, v1 = c 1 7 →
  ((v1 ≤ l3 →
    wX10_sum c (fun r4 c3 =>
    wX10_write r4 c3 (fun c5 =>
    Q c5))) ∧
   (¬ v1 ≤ l3 →
    vp_in l3 500 ∧
    ∀ v6, v6 = c 5 l3.toNatClampNeg →
    wX10_write v6 c (fun c8 =>
    P258 (l3 + 1) c8)))
def wX10_slide_p258 (l3 : Int32) (c : gMem) (Q : gMem → Prop) : Prop :=
  ∀ P258 : Int32 → gMem → Prop, (∀ (l3 : Int32) (c : gMem), wX10_slide_p258_b P258 l3 c Q → P258 l3 c) → P258 l3 c
set_option maxRecDepth 100000 in
set_option maxHeartbeats 4000000 in
theorem tX10_slide_p258_b {l : Launch} {G : gG} {k : Nat} {o : gMem} {Q : gMem → Prop} {P258 : Int32 → gMem → Prop} (hP258 : ∀ (l3 : Int32) (c : gMem), P258 l3 c → Go l G mX10_slide (gbq G 3 68 84 k (qv (wM G o) Q)) 258 [(0, .ref (G.2.1 + 74)), (3, .int l3)] [] 84 k (wM G o c)) {l3 : Int32} {c : gMem} (h : wX10_slide_p258_b P258 l3 c Q) : Go l G mX10_slide (gbq G 3 68 84 k (qv (wM G o) Q)) 258 [(0, .ref (G.2.1 + 74)), (3, .int l3)] [] 84 k (wM G o c) := by
  unfold wX10_slide_p258_b at h
  refine go_iload_n (pc := 258) dX10_slide_258 rfl rfl ?_
  refine go_aload_n (pc := 259) dX10_slide_259 rfl rfl ?_
  refine go_get (pc := 260) fX10_9 rfl (gz_b (by decide)) yw0 rfl dX10_slide_260 ?_
  refine go_bipush (pc := 263) (v := 7) dX10_slide_263 (by decide) ?_
  refine gb_iald (pc := 265) (gz_b (by decide)) yw1 (gv_in (by decide)) dX10_slide_265 (fun v1 ev1 => ?_)
  have h := h v1 ev1
  refine go_icmp_ge (pc := 266) (tgt := 285) dX10_slide_266 (by decide) (fun q2 => ?_) (fun q2 => ?_)
  · have h := h.1 q2
    refine go_aload_n (pc := 285) dX10_slide_285 rfl rfl ?_
    refine go_aload_n (pc := 286) dX10_slide_286 rfl rfl ?_
    refine gq_callV_i (pc := 287) (F := wM G o) vX10_132 rfl (tX10_sum h) rfl rfl (gz_b (by decide)) yw0 rfl (Nat.le_of_ble_eq_true rfl) ⟨Nat.le_of_ble_eq_true rfl, Nat.le_of_ble_eq_true rfl, Nat.le_add_right _ _, Nat.le_add_right _ _⟩ dX10_slide_287 (fun r4 c3 h => ?_)
    refine gq_callV_v (pc := 290) (F := wM G o) vX10_123 rfl (tX10_write h) rfl rfl (gz_b (by decide)) yw0 rfl (Nat.le_of_ble_eq_true rfl) ⟨Nat.le_of_ble_eq_true rfl, Nat.le_of_ble_eq_true rfl, Nat.le_add_right _ _, Nat.le_add_right _ _⟩ dX10_slide_290 (fun c5 h => ?_)
    exact gq_vret (pc := 293) (F := wM G o) rfl dX10_slide_293 h
  · have h := h.2 q2
    refine go_aload_n (pc := 269) dX10_slide_269 rfl rfl ?_
    refine go_aload_n (pc := 270) dX10_slide_270 rfl rfl ?_
    refine go_get (pc := 271) fX10_22 rfl (gz_b (by decide)) yw0 rfl dX10_slide_271 ?_
    refine go_iload_n (pc := 274) dX10_slide_274 rfl rfl ?_
    obtain ⟨b7, h⟩ := h
    refine gb_iald (pc := 275) (gz_b (by decide)) yw5 b7 dX10_slide_275 (fun v6 ev6 => ?_)
    have h := h v6 ev6
    refine gq_callV_v (pc := 276) (F := wM G o) vX10_123 rfl (tX10_write h) rfl rfl (gz_b (by decide)) yw0 rfl (Nat.le_of_ble_eq_true rfl) ⟨Nat.le_of_ble_eq_true rfl, Nat.le_of_ble_eq_true rfl, Nat.le_add_right _ _, Nat.le_add_right _ _⟩ dX10_slide_276 (fun c8 h => ?_)
    refine go_iinc (pc := 279) (v := l3 + 1) (lv' := [(3, .int (l3 + 1)), (0, .ref (G.2.1 + 74))]) dX10_slide_279 1 rfl (by first | rfl | decide) (by decide) rfl ?_
    refine go_goto (pc := 282) (tgt := 258) dX10_slide_282 (by decide) ?_
    refine go_lv [1, 0] rfl ?_
    exact hP258 _ _ h
set_option maxRecDepth 100000 in
set_option maxHeartbeats 4000000 in
theorem tX10_slide_p258 {l : Launch} {G : gG} {k : Nat} {o : gMem} {Q : gMem → Prop} {l3 : Int32} {c : gMem} (h : wX10_slide_p258 l3 c Q) : Go l G mX10_slide (gbq G 3 68 84 k (qv (wM G o) Q)) 258 [(0, .ref (G.2.1 + 74)), (3, .int l3)] [] 84 k (wM G o c) :=
  h (fun l3 c => Go l G mX10_slide (gbq G 3 68 84 k (qv (wM G o) Q)) 258 [(0, .ref (G.2.1 + 74)), (3, .int l3)] [] 84 k (wM G o c)) (fun l3 c hb => tX10_slide_p258_b (fun l3 c hh => hh) hb)
def wX10_slide_p209_b (P209 : Int32 → Int32 → gMem → Prop) (l1 : Int32) (l3 : Int32) (c : gMem) (Q : gMem → Prop) : Prop :=
  ∀ v1, v1 = c 1 16 →
  ((v1 ≤ l3 →
    ∀ c3, c3 = mp c 1 16 l1 →
    ∀ v4, v4 = c3 1 7 →
    wX10_write v4 c3 (fun c5 =>
    wX10_slide_p258 0 c5 Q)) ∧
   (¬ v1 ≤ l3 →
    vp_in (6100 + l3) 26100 ∧
    ∀ c6, c6 = mp c 1 (6100 + l3).toNatClampNeg 0 →
    P209 l1 (l3 + 1) c6))
def wX10_slide_p209 (l1 : Int32) (l3 : Int32) (c : gMem) (Q : gMem → Prop) : Prop :=
  ∀ P209 : Int32 → Int32 → gMem → Prop, (∀ (l1 : Int32) (l3 : Int32) (c : gMem), wX10_slide_p209_b P209 l1 l3 c Q → P209 l1 l3 c) → P209 l1 l3 c
set_option maxRecDepth 100000 in
set_option maxHeartbeats 4000000 in
theorem tX10_slide_p209_b {l : Launch} {G : gG} {k : Nat} {o : gMem} {Q : gMem → Prop} {P209 : Int32 → Int32 → gMem → Prop} (hP209 : ∀ (l1 : Int32) (l3 : Int32) (c : gMem), P209 l1 l3 c → Go l G mX10_slide (gbq G 3 68 84 k (qv (wM G o) Q)) 209 [(0, .ref (G.2.1 + 74)), (1, .int l1), (3, .int l3)] [] 84 k (wM G o c)) {l1 : Int32} {l3 : Int32} {c : gMem} (h : wX10_slide_p209_b P209 l1 l3 c Q) : Go l G mX10_slide (gbq G 3 68 84 k (qv (wM G o) Q)) 209 [(0, .ref (G.2.1 + 74)), (1, .int l1), (3, .int l3)] [] 84 k (wM G o c) := by
  unfold wX10_slide_p209_b at h
  refine go_iload_n (pc := 209) dX10_slide_209 rfl rfl ?_
  refine go_aload_n (pc := 210) dX10_slide_210 rfl rfl ?_
  refine go_get (pc := 211) fX10_9 rfl (gz_b (by decide)) yw0 rfl dX10_slide_211 ?_
  refine go_bipush (pc := 214) (v := 16) dX10_slide_214 (by decide) ?_
  refine gb_iald (pc := 216) (gz_b (by decide)) yw1 (gv_in (by decide)) dX10_slide_216 (fun v1 ev1 => ?_)
  have h := h v1 ev1
  refine go_icmp_ge (pc := 217) (tgt := 237) dX10_slide_217 (by decide) (fun q2 => ?_) (fun q2 => ?_)
  · have h := h.1 q2
    refine go_aload_n (pc := 237) dX10_slide_237 rfl rfl ?_
    refine go_get (pc := 238) fX10_9 rfl (gz_b (by decide)) yw0 rfl dX10_slide_238 ?_
    refine go_bipush (pc := 241) (v := 16) dX10_slide_241 (by decide) ?_
    refine go_iload_n (pc := 243) dX10_slide_243 rfl rfl ?_
    refine gb_iast (pc := 244) (F := wM G o) (gz_b (by decide)) yw1 (gv_in (by decide)) ya1 dX10_slide_244 (fun c3 ec3 => ?_)
    have h := h c3 ec3
    refine go_aload_n (pc := 245) dX10_slide_245 rfl rfl ?_
    refine go_aload_n (pc := 246) dX10_slide_246 rfl rfl ?_
    refine go_get (pc := 247) fX10_9 rfl (gz_b (by decide)) yw0 rfl dX10_slide_247 ?_
    refine go_bipush (pc := 250) (v := 7) dX10_slide_250 (by decide) ?_
    refine gb_iald (pc := 252) (gz_b (by decide)) yw1 (gv_in (by decide)) dX10_slide_252 (fun v4 ev4 => ?_)
    have h := h v4 ev4
    refine gq_callV_v (pc := 253) (F := wM G o) vX10_123 rfl (tX10_write h) rfl rfl (gz_b (by decide)) yw0 rfl (Nat.le_of_ble_eq_true rfl) ⟨Nat.le_of_ble_eq_true rfl, Nat.le_of_ble_eq_true rfl, Nat.le_add_right _ _, Nat.le_add_right _ _⟩ dX10_slide_253 (fun c5 h => ?_)
    refine go_iconst (pc := 256) (v := 0) dX10_slide_256 (by decide) ?_
    refine go_istore_n (pc := 257) (lv' := [(3, .int 0), (0, .ref (G.2.1 + 74)), (1, .int l1)]) dX10_slide_257 rfl (by decide) rfl ?_
    refine go_lv [1, 0] rfl ?_
    exact tX10_slide_p258 h
  · have h := h.2 q2
    refine go_aload_n (pc := 220) dX10_slide_220 rfl rfl ?_
    refine go_get (pc := 221) fX10_9 rfl (gz_b (by decide)) yw0 rfl dX10_slide_221 ?_
    refine go_sipush (pc := 224) (v := 6100) dX10_slide_224 (by decide) ?_
    refine go_iload_n (pc := 227) dX10_slide_227 rfl rfl ?_
    refine go_iadd (pc := 228) dX10_slide_228 ?_
    refine go_iconst (pc := 229) (v := 0) dX10_slide_229 (by decide) ?_
    obtain ⟨b7, h⟩ := h
    refine gb_iast (pc := 230) (F := wM G o) (gz_b (by decide)) yw1 b7 ya1 dX10_slide_230 (fun c6 ec6 => ?_)
    have h := h c6 ec6
    refine go_iinc (pc := 231) (v := l3 + 1) (lv' := [(3, .int (l3 + 1)), (0, .ref (G.2.1 + 74)), (1, .int l1)]) dX10_slide_231 2 rfl (by first | rfl | decide) (by decide) rfl ?_
    refine go_goto (pc := 234) (tgt := 209) dX10_slide_234 (by decide) ?_
    refine go_lv [1, 2, 0] rfl ?_
    exact hP209 _ _ _ h
set_option maxRecDepth 100000 in
set_option maxHeartbeats 4000000 in
theorem tX10_slide_p209 {l : Launch} {G : gG} {k : Nat} {o : gMem} {Q : gMem → Prop} {l1 : Int32} {l3 : Int32} {c : gMem} (h : wX10_slide_p209 l1 l3 c Q) : Go l G mX10_slide (gbq G 3 68 84 k (qv (wM G o) Q)) 209 [(0, .ref (G.2.1 + 74)), (1, .int l1), (3, .int l3)] [] 84 k (wM G o c) :=
  h (fun l1 l3 c => Go l G mX10_slide (gbq G 3 68 84 k (qv (wM G o) Q)) 209 [(0, .ref (G.2.1 + 74)), (1, .int l1), (3, .int l3)] [] 84 k (wM G o c)) (fun l1 l3 c hb => tX10_slide_p209_b (fun l1 l3 c hh => hh) hb)
def wX10_slide_p199 (P50 : Int32 → Int32 → gMem → Prop) (l1 : Int32) (l2 : Int32) (l4 : Int32) (c : gMem) (Q : gMem → Prop) : Prop :=
  P50 l1 (l2 + l4) c
set_option maxRecDepth 100000 in
set_option maxHeartbeats 4000000 in
theorem tX10_slide_p199 {l : Launch} {G : gG} {k : Nat} {o : gMem} {Q : gMem → Prop} {P50 : Int32 → Int32 → gMem → Prop} (hP50 : ∀ (l1 : Int32) (l2 : Int32) (c : gMem), P50 l1 l2 c → Go l G mX10_slide (gbq G 3 68 84 k (qv (wM G o) Q)) 50 [(0, .ref (G.2.1 + 74)), (1, .int l1), (2, .int l2)] [] 84 k (wM G o c)) {l1 : Int32} {l2 : Int32} {l4 : Int32} {c : gMem} (h : wX10_slide_p199 P50 l1 l2 l4 c Q) : Go l G mX10_slide (gbq G 3 68 84 k (qv (wM G o) Q)) 199 [(0, .ref (G.2.1 + 74)), (1, .int l1), (2, .int l2), (4, .int l4)] [] 84 k (wM G o c) := by
  unfold wX10_slide_p199 at h
  refine go_iload_n (pc := 199) dX10_slide_199 rfl rfl ?_
  refine go_iload (pc := 200) dX10_slide_200 rfl ?_
  refine go_iadd (pc := 202) dX10_slide_202 ?_
  refine go_istore_n (pc := 203) (lv' := [(2, .int (l2 + l4)), (0, .ref (G.2.1 + 74)), (1, .int l1), (4, .int l4)]) dX10_slide_203 rfl (by decide) rfl ?_
  refine go_goto (pc := 204) (tgt := 50) dX10_slide_204 (by decide) ?_
  refine go_lv [1, 2, 0] rfl ?_
  exact hP50 _ _ _ h
def wX10_slide_p150_b (P50 : Int32 → Int32 → gMem → Prop) (P150 : Int32 → Int32 → Int32 → Int32 → Int32 → gMem → Prop) (l1 : Int32) (l2 : Int32) (l3 : Int32) (l4 : Int32) (l5 : Int32) (c : gMem) (Q : gMem → Prop) : Prop :=
  ((l4 ≤ l5 →
    wX10_writeCell l3 c (fun c2 =>
    wX10_slide_p199 P50 (l1 + l4) l2 l4 c2 Q)) ∧
   (¬ l4 ≤ l5 →
    vp_in ((6100 + l2) + l5) 26100 ∧
    ∀ v3, v3 = c 1 ((6100 + l2) + l5).toNatClampNeg →
    vp_in ((6100 + l1) + l5) 26100 ∧
    ∀ c5, c5 = mp c 1 ((6100 + l1) + l5).toNatClampNeg v3 →
    P150 l1 l2 l3 l4 (l5 + 1) c5))
def wX10_slide_p150 (P50 : Int32 → Int32 → gMem → Prop) (l1 : Int32) (l2 : Int32) (l3 : Int32) (l4 : Int32) (l5 : Int32) (c : gMem) (Q : gMem → Prop) : Prop :=
  ∀ P150 : Int32 → Int32 → Int32 → Int32 → Int32 → gMem → Prop, (∀ (l1 : Int32) (l2 : Int32) (l3 : Int32) (l4 : Int32) (l5 : Int32) (c : gMem), wX10_slide_p150_b P50 P150 l1 l2 l3 l4 l5 c Q → P150 l1 l2 l3 l4 l5 c) → P150 l1 l2 l3 l4 l5 c
set_option maxRecDepth 100000 in
set_option maxHeartbeats 4000000 in
theorem tX10_slide_p150_b {l : Launch} {G : gG} {k : Nat} {o : gMem} {Q : gMem → Prop} {P50 : Int32 → Int32 → gMem → Prop} (hP50 : ∀ (l1 : Int32) (l2 : Int32) (c : gMem), P50 l1 l2 c → Go l G mX10_slide (gbq G 3 68 84 k (qv (wM G o) Q)) 50 [(0, .ref (G.2.1 + 74)), (1, .int l1), (2, .int l2)] [] 84 k (wM G o c)) {P150 : Int32 → Int32 → Int32 → Int32 → Int32 → gMem → Prop} (hP150 : ∀ (l1 : Int32) (l2 : Int32) (l3 : Int32) (l4 : Int32) (l5 : Int32) (c : gMem), P150 l1 l2 l3 l4 l5 c → Go l G mX10_slide (gbq G 3 68 84 k (qv (wM G o) Q)) 150 [(0, .ref (G.2.1 + 74)), (1, .int l1), (2, .int l2), (3, .int l3), (4, .int l4), (5, .int l5)] [] 84 k (wM G o c)) {l1 : Int32} {l2 : Int32} {l3 : Int32} {l4 : Int32} {l5 : Int32} {c : gMem} (h : wX10_slide_p150_b P50 P150 l1 l2 l3 l4 l5 c Q) : Go l G mX10_slide (gbq G 3 68 84 k (qv (wM G o) Q)) 150 [(0, .ref (G.2.1 + 74)), (1, .int l1), (2, .int l2), (3, .int l3), (4, .int l4), (5, .int l5)] [] 84 k (wM G o c) := by
  unfold wX10_slide_p150_b at h
  refine go_iload (pc := 150) dX10_slide_150 rfl ?_
  refine go_iload (pc := 152) dX10_slide_152 rfl ?_
  refine go_icmp_ge (pc := 154) (tgt := 189) dX10_slide_154 (by decide) (fun q1 => ?_) (fun q1 => ?_)
  · have h := h.1 q1
    refine go_iload_n (pc := 189) dX10_slide_189 rfl rfl ?_
    refine go_iload (pc := 190) dX10_slide_190 rfl ?_
    refine go_iadd (pc := 192) dX10_slide_192 ?_
    refine go_istore_n (pc := 193) (lv' := [(1, .int (l1 + l4)), (0, .ref (G.2.1 + 74)), (2, .int l2), (3, .int l3), (4, .int l4), (5, .int l5)]) dX10_slide_193 rfl (by decide) rfl ?_
    refine go_aload_n (pc := 194) dX10_slide_194 rfl rfl ?_
    refine go_iload_n (pc := 195) dX10_slide_195 rfl rfl ?_
    refine gq_callV_v (pc := 196) (F := wM G o) vX10_129 rfl (tX10_writeCell h) rfl rfl (gz_b (by decide)) yw0 rfl (Nat.le_of_ble_eq_true rfl) ⟨Nat.le_of_ble_eq_true rfl, Nat.le_of_ble_eq_true rfl, Nat.le_add_right _ _, Nat.le_add_right _ _⟩ dX10_slide_196 (fun c2 h => ?_)
    refine go_lv [1, 0, 2, 4] rfl ?_
    exact tX10_slide_p199 hP50 h
  · have h := h.2 q1
    refine go_aload_n (pc := 157) dX10_slide_157 rfl rfl ?_
    refine go_get (pc := 158) fX10_9 rfl (gz_b (by decide)) yw0 rfl dX10_slide_158 ?_
    refine go_sipush (pc := 161) (v := 6100) dX10_slide_161 (by decide) ?_
    refine go_iload_n (pc := 164) dX10_slide_164 rfl rfl ?_
    refine go_iadd (pc := 165) dX10_slide_165 ?_
    refine go_iload (pc := 166) dX10_slide_166 rfl ?_
    refine go_iadd (pc := 168) dX10_slide_168 ?_
    refine go_aload_n (pc := 169) dX10_slide_169 rfl rfl ?_
    refine go_get (pc := 170) fX10_9 rfl (gz_b (by decide)) yw0 rfl dX10_slide_170 ?_
    refine go_sipush (pc := 173) (v := 6100) dX10_slide_173 (by decide) ?_
    refine go_iload_n (pc := 176) dX10_slide_176 rfl rfl ?_
    refine go_iadd (pc := 177) dX10_slide_177 ?_
    refine go_iload (pc := 178) dX10_slide_178 rfl ?_
    refine go_iadd (pc := 180) dX10_slide_180 ?_
    obtain ⟨b4, h⟩ := h
    refine gb_iald (pc := 181) (gz_b (by decide)) yw1 b4 dX10_slide_181 (fun v3 ev3 => ?_)
    have h := h v3 ev3
    obtain ⟨b6, h⟩ := h
    refine gb_iast (pc := 182) (F := wM G o) (gz_b (by decide)) yw1 b6 ya1 dX10_slide_182 (fun c5 ec5 => ?_)
    have h := h c5 ec5
    refine go_iinc (pc := 183) (v := l5 + 1) (lv' := [(5, .int (l5 + 1)), (0, .ref (G.2.1 + 74)), (1, .int l1), (2, .int l2), (3, .int l3), (4, .int l4)]) dX10_slide_183 5 rfl (by first | rfl | decide) (by decide) rfl ?_
    refine go_goto (pc := 186) (tgt := 150) dX10_slide_186 (by decide) ?_
    refine go_lv [1, 2, 3, 4, 5, 0] rfl ?_
    exact hP150 _ _ _ _ _ _ h
set_option maxRecDepth 100000 in
set_option maxHeartbeats 4000000 in
theorem tX10_slide_p150 {l : Launch} {G : gG} {k : Nat} {o : gMem} {Q : gMem → Prop} {P50 : Int32 → Int32 → gMem → Prop} (hP50 : ∀ (l1 : Int32) (l2 : Int32) (c : gMem), P50 l1 l2 c → Go l G mX10_slide (gbq G 3 68 84 k (qv (wM G o) Q)) 50 [(0, .ref (G.2.1 + 74)), (1, .int l1), (2, .int l2)] [] 84 k (wM G o c)) {l1 : Int32} {l2 : Int32} {l3 : Int32} {l4 : Int32} {l5 : Int32} {c : gMem} (h : wX10_slide_p150 P50 l1 l2 l3 l4 l5 c Q) : Go l G mX10_slide (gbq G 3 68 84 k (qv (wM G o) Q)) 150 [(0, .ref (G.2.1 + 74)), (1, .int l1), (2, .int l2), (3, .int l3), (4, .int l4), (5, .int l5)] [] 84 k (wM G o c) :=
  h (fun l1 l2 l3 l4 l5 c => Go l G mX10_slide (gbq G 3 68 84 k (qv (wM G o) Q)) 150 [(0, .ref (G.2.1 + 74)), (1, .int l1), (2, .int l2), (3, .int l3), (4, .int l4), (5, .int l5)] [] 84 k (wM G o c)) (fun l1 l2 l3 l4 l5 c hb => tX10_slide_p150_b hP50 (fun l1 l2 l3 l4 l5 c hh => hh) hb)
def wX10_slide_p138 (P50 : Int32 → Int32 → gMem → Prop) (l1 : Int32) (l2 : Int32) (l3 : Int32) (l4 : Int32) (s0 : Int32) (s1 : Int32) (s2 : Int32) (c : gMem) (Q : gMem → Prop) : Prop :=
  vp_in s2 14 ∧
  ∀ c1, c1 = mp c 4 s2.toNatClampNeg (s1 + s0) →
  wX10_lets l3 2 l1 c1 (fun c3 =>
  wX10_slide_p150 P50 l1 l2 l3 l4 0 c3 Q)
set_option maxRecDepth 100000 in
set_option maxHeartbeats 4000000 in
theorem tX10_slide_p138 {l : Launch} {G : gG} {k : Nat} {o : gMem} {Q : gMem → Prop} {P50 : Int32 → Int32 → gMem → Prop} (hP50 : ∀ (l1 : Int32) (l2 : Int32) (c : gMem), P50 l1 l2 c → Go l G mX10_slide (gbq G 3 68 84 k (qv (wM G o) Q)) 50 [(0, .ref (G.2.1 + 74)), (1, .int l1), (2, .int l2)] [] 84 k (wM G o c)) {l1 : Int32} {l2 : Int32} {l3 : Int32} {l4 : Int32} {s0 : Int32} {s1 : Int32} {s2 : Int32} {c : gMem} (h : wX10_slide_p138 P50 l1 l2 l3 l4 s0 s1 s2 c Q) : Go l G mX10_slide (gbq G 3 68 84 k (qv (wM G o) Q)) 138 [(0, .ref (G.2.1 + 74)), (1, .int l1), (2, .int l2), (3, .int l3), (4, .int l4)] [.int s0, .int s1, .int s2, .ref (G.2.1 + 78)] 84 k (wM G o c) := by
  unfold wX10_slide_p138 at h
  refine go_iadd (pc := 138) dX10_slide_138 ?_
  obtain ⟨b2, h⟩ := h
  refine gb_iast (pc := 139) (F := wM G o) (gz_b (by decide)) yw4 b2 ya4 dX10_slide_139 (fun c1 ec1 => ?_)
  have h := h c1 ec1
  refine go_aload_n (pc := 140) dX10_slide_140 rfl rfl ?_
  refine go_iload_n (pc := 141) dX10_slide_141 rfl rfl ?_
  refine go_iconst (pc := 142) (v := 2) dX10_slide_142 (by decide) ?_
  refine go_iload_n (pc := 143) dX10_slide_143 rfl rfl ?_
  refine gq_callV_v (pc := 144) (F := wM G o) vX10_82 rfl (tX10_lets h) rfl rfl (gz_b (by decide)) yw0 rfl (Nat.le_of_ble_eq_true rfl) ⟨Nat.le_of_ble_eq_true rfl, Nat.le_of_ble_eq_true rfl, Nat.le_add_right _ _, Nat.le_add_right _ _⟩ dX10_slide_144 (fun c3 h => ?_)
  refine go_iconst (pc := 147) (v := 0) dX10_slide_147 (by decide) ?_
  refine go_istore (pc := 148) (lv' := [(5, .int 0), (0, .ref (G.2.1 + 74)), (1, .int l1), (2, .int l2), (3, .int l3), (4, .int l4)]) dX10_slide_148 (by decide) rfl ?_
  refine go_lv [1, 2, 3, 4, 5, 0] rfl ?_
  exact tX10_slide_p150 hP50 h
def wX10_slide_p118 (P50 : Int32 → Int32 → gMem → Prop) (l1 : Int32) (l2 : Int32) (l3 : Int32) (l4 : Int32) (s0 : Int32) (s1 : Int32) (s2 : Int32) (c : gMem) (Q : gMem → Prop) : Prop :=
  vp_in s2 26100 ∧
  ∀ c1, c1 = mp c 1 s2.toNatClampNeg (s1 + s0) →
  ∀ v3, v3 = c1 4 13 →
  ((l2 ≤ l1 →
    wX10_slide_p138 P50 l1 l2 l3 l4 0 v3 13 c1 Q) ∧
   (¬ l2 ≤ l1 →
    wX10_slide_p138 P50 l1 l2 l3 l4 1 v3 13 c1 Q))
set_option maxRecDepth 100000 in
set_option maxHeartbeats 4000000 in
theorem tX10_slide_p118 {l : Launch} {G : gG} {k : Nat} {o : gMem} {Q : gMem → Prop} {P50 : Int32 → Int32 → gMem → Prop} (hP50 : ∀ (l1 : Int32) (l2 : Int32) (c : gMem), P50 l1 l2 c → Go l G mX10_slide (gbq G 3 68 84 k (qv (wM G o) Q)) 50 [(0, .ref (G.2.1 + 74)), (1, .int l1), (2, .int l2)] [] 84 k (wM G o c)) {l1 : Int32} {l2 : Int32} {l3 : Int32} {l4 : Int32} {s0 : Int32} {s1 : Int32} {s2 : Int32} {c : gMem} (h : wX10_slide_p118 P50 l1 l2 l3 l4 s0 s1 s2 c Q) : Go l G mX10_slide (gbq G 3 68 84 k (qv (wM G o) Q)) 118 [(0, .ref (G.2.1 + 74)), (1, .int l1), (2, .int l2), (3, .int l3), (4, .int l4)] [.int s0, .int s1, .int s2, .ref (G.2.1 + 75)] 84 k (wM G o c) := by
  unfold wX10_slide_p118 at h
  refine go_iadd (pc := 118) dX10_slide_118 ?_
  obtain ⟨b2, h⟩ := h
  refine gb_iast (pc := 119) (F := wM G o) (gz_b (by decide)) yw1 b2 ya1 dX10_slide_119 (fun c1 ec1 => ?_)
  have h := h c1 ec1
  refine go_aload_n (pc := 120) dX10_slide_120 rfl rfl ?_
  refine go_get (pc := 121) fX10_19 rfl (gz_b (by decide)) yw0 rfl dX10_slide_121 ?_
  refine go_bipush (pc := 124) (v := 13) dX10_slide_124 (by decide) ?_
  refine go_dup2 (pc := 126) dX10_slide_126 rfl rfl ?_
  refine gb_iald (pc := 127) (gz_b (by decide)) yw4 (gv_in (by decide)) dX10_slide_127 (fun v3 ev3 => ?_)
  have h := h v3 ev3
  refine go_iload_n (pc := 128) dX10_slide_128 rfl rfl ?_
  refine go_iload_n (pc := 129) dX10_slide_129 rfl rfl ?_
  refine go_icmp_le (pc := 130) (tgt := 137) dX10_slide_130 (by decide) (fun q4 => ?_) (fun q4 => ?_)
  · have h := h.1 q4
    refine go_iconst (pc := 137) (v := 0) dX10_slide_137 (by decide) ?_
    refine go_lv [0, 1, 2, 3, 4] rfl ?_
    exact tX10_slide_p138 hP50 h
  · have h := h.2 q4
    refine go_iconst (pc := 133) (v := 1) dX10_slide_133 (by decide) ?_
    refine go_goto (pc := 134) (tgt := 138) dX10_slide_134 (by decide) ?_
    refine go_lv [0, 1, 2, 3, 4] rfl ?_
    exact tX10_slide_p138 hP50 h
def wX10_slide_p50_b (P50 : Int32 → Int32 → gMem → Prop) (l1 : Int32) (l2 : Int32) (c : gMem) (Q : gMem → Prop) : Prop :=
  ∀ v1, v1 = c 1 16 →
  ((v1 ≤ l2 →
    wX10_slide_p209 l1 l1 c Q) ∧
   (¬ v1 ≤ l2 →
    vp_in (6100 + l2) 26100 ∧
    ∀ v3, v3 = c 1 (6100 + l2).toNatClampNeg →
    wX10_sizeAt (v3 >>> (3 &&& 31)) c (fun r6 c5 =>
    wX10_of (v3 >>> (3 &&& 31)) 0 c5 (fun r8 c7 =>
    ((r8 = 1 →
      wX10_lets (v3 >>> (3 &&& 31)) 4 (l2 - l1) c7 (fun c10 =>
      ∀ v11, v11 = c10 1 8 →
      ((l2 ≤ l1 →
        wX10_slide_p118 P50 l1 l2 (v3 >>> (3 &&& 31)) r6 0 v11 8 c10 Q) ∧
       (¬ l2 ≤ l1 →
        wX10_slide_p118 P50 l1 l2 (v3 >>> (3 &&& 31)) r6 1 v11 8 c10 Q)))) ∧
     (¬ r8 = 1 →
      wX10_slide_p199 P50 l1 l2 r6 c7 Q))))))
def wX10_slide_p50 (l1 : Int32) (l2 : Int32) (c : gMem) (Q : gMem → Prop) : Prop :=
  ∀ P50 : Int32 → Int32 → gMem → Prop, (∀ (l1 : Int32) (l2 : Int32) (c : gMem), wX10_slide_p50_b P50 l1 l2 c Q → P50 l1 l2 c) → P50 l1 l2 c
set_option maxRecDepth 100000 in
set_option maxHeartbeats 4000000 in
theorem tX10_slide_p50_b {l : Launch} {G : gG} {k : Nat} {o : gMem} {Q : gMem → Prop} {P50 : Int32 → Int32 → gMem → Prop} (hP50 : ∀ (l1 : Int32) (l2 : Int32) (c : gMem), P50 l1 l2 c → Go l G mX10_slide (gbq G 3 68 84 k (qv (wM G o) Q)) 50 [(0, .ref (G.2.1 + 74)), (1, .int l1), (2, .int l2)] [] 84 k (wM G o c)) {l1 : Int32} {l2 : Int32} {c : gMem} (h : wX10_slide_p50_b P50 l1 l2 c Q) : Go l G mX10_slide (gbq G 3 68 84 k (qv (wM G o) Q)) 50 [(0, .ref (G.2.1 + 74)), (1, .int l1), (2, .int l2)] [] 84 k (wM G o c) := by
  unfold wX10_slide_p50_b at h
  refine go_iload_n (pc := 50) dX10_slide_50 rfl rfl ?_
  refine go_aload_n (pc := 51) dX10_slide_51 rfl rfl ?_
  refine go_get (pc := 52) fX10_9 rfl (gz_b (by decide)) yw0 rfl dX10_slide_52 ?_
  refine go_bipush (pc := 55) (v := 16) dX10_slide_55 (by decide) ?_
  refine gb_iald (pc := 57) (gz_b (by decide)) yw1 (gv_in (by decide)) dX10_slide_57 (fun v1 ev1 => ?_)
  have h := h v1 ev1
  refine go_icmp_ge (pc := 58) (tgt := 207) dX10_slide_58 (by decide) (fun q2 => ?_) (fun q2 => ?_)
  · have h := h.1 q2
    refine go_iload_n (pc := 207) dX10_slide_207 rfl rfl ?_
    refine go_istore_n (pc := 208) (lv' := [(3, .int l1), (0, .ref (G.2.1 + 74)), (1, .int l1), (2, .int l2)]) dX10_slide_208 rfl (by decide) rfl ?_
    refine go_lv [1, 2, 0] rfl ?_
    exact tX10_slide_p209 h
  · have h := h.2 q2
    refine go_aload_n (pc := 61) dX10_slide_61 rfl rfl ?_
    refine go_get (pc := 62) fX10_9 rfl (gz_b (by decide)) yw0 rfl dX10_slide_62 ?_
    refine go_sipush (pc := 65) (v := 6100) dX10_slide_65 (by decide) ?_
    refine go_iload_n (pc := 68) dX10_slide_68 rfl rfl ?_
    refine go_iadd (pc := 69) dX10_slide_69 ?_
    obtain ⟨b4, h⟩ := h
    refine gb_iald (pc := 70) (gz_b (by decide)) yw1 b4 dX10_slide_70 (fun v3 ev3 => ?_)
    have h := h v3 ev3
    refine go_iconst (pc := 71) (v := 3) dX10_slide_71 (by decide) ?_
    refine go_ishr (pc := 72) dX10_slide_72 ?_
    refine go_istore_n (pc := 73) (lv' := [(3, .int (v3 >>> (3 &&& 31))), (0, .ref (G.2.1 + 74)), (1, .int l1), (2, .int l2)]) dX10_slide_73 rfl (by decide) rfl ?_
    refine go_aload_n (pc := 74) dX10_slide_74 rfl rfl ?_
    refine go_iload_n (pc := 75) dX10_slide_75 rfl rfl ?_
    refine gq_callV_i (pc := 76) (F := wM G o) vX10_126 rfl (tX10_sizeAt h) rfl rfl (gz_b (by decide)) yw0 rfl (Nat.le_of_ble_eq_true rfl) ⟨Nat.le_of_ble_eq_true rfl, Nat.le_of_ble_eq_true rfl, Nat.le_add_right _ _, Nat.le_add_right _ _⟩ dX10_slide_76 (fun r6 c5 h => ?_)
    refine go_istore (pc := 79) (lv' := [(4, .int r6), (3, .int (v3 >>> (3 &&& 31))), (0, .ref (G.2.1 + 74)), (1, .int l1), (2, .int l2)]) dX10_slide_79 (by decide) rfl ?_
    refine go_aload_n (pc := 81) dX10_slide_81 rfl rfl ?_
    refine go_iload_n (pc := 82) dX10_slide_82 rfl rfl ?_
    refine go_iconst (pc := 83) (v := 0) dX10_slide_83 (by decide) ?_
    refine gq_callV_i (pc := 84) (F := wM G o) vX10_71 rfl (tX10_of h) rfl rfl (gz_b (by decide)) yw0 rfl (Nat.le_of_ble_eq_true rfl) ⟨Nat.le_of_ble_eq_true rfl, Nat.le_of_ble_eq_true rfl, Nat.le_add_right _ _, Nat.le_add_right _ _⟩ dX10_slide_84 (fun r8 c7 h => ?_)
    refine go_iconst (pc := 87) (v := 1) dX10_slide_87 (by decide) ?_
    refine go_icmp_ne (pc := 88) (tgt := 199) dX10_slide_88 (by decide) (fun q9 => ?_) (fun q9 => ?_)
    · have h := h.2 q9
      refine go_lv [2, 3, 4, 0] rfl ?_
      exact tX10_slide_p199 hP50 h
    · have h := h.1 q9
      refine go_aload_n (pc := 91) dX10_slide_91 rfl rfl ?_
      refine go_iload_n (pc := 92) dX10_slide_92 rfl rfl ?_
      refine go_iconst (pc := 93) (v := 4) dX10_slide_93 (by decide) ?_
      refine go_iload_n (pc := 94) dX10_slide_94 rfl rfl ?_
      refine go_iload_n (pc := 95) dX10_slide_95 rfl rfl ?_
      refine go_isub (pc := 96) dX10_slide_96 ?_
      refine gq_callV_v (pc := 97) (F := wM G o) vX10_82 rfl (tX10_lets h) rfl rfl (gz_b (by decide)) yw0 rfl (Nat.le_of_ble_eq_true rfl) ⟨Nat.le_of_ble_eq_true rfl, Nat.le_of_ble_eq_true rfl, Nat.le_add_right _ _, Nat.le_add_right _ _⟩ dX10_slide_97 (fun c10 h => ?_)
      refine go_aload_n (pc := 100) dX10_slide_100 rfl rfl ?_
      refine go_get (pc := 101) fX10_9 rfl (gz_b (by decide)) yw0 rfl dX10_slide_101 ?_
      refine go_bipush (pc := 104) (v := 8) dX10_slide_104 (by decide) ?_
      refine go_dup2 (pc := 106) dX10_slide_106 rfl rfl ?_
      refine gb_iald (pc := 107) (gz_b (by decide)) yw1 (gv_in (by decide)) dX10_slide_107 (fun v11 ev11 => ?_)
      have h := h v11 ev11
      refine go_iload_n (pc := 108) dX10_slide_108 rfl rfl ?_
      refine go_iload_n (pc := 109) dX10_slide_109 rfl rfl ?_
      refine go_icmp_le (pc := 110) (tgt := 117) dX10_slide_110 (by decide) (fun q12 => ?_) (fun q12 => ?_)
      · have h := h.1 q12
        refine go_iconst (pc := 117) (v := 0) dX10_slide_117 (by decide) ?_
        refine go_lv [2, 3, 4, 1, 0] rfl ?_
        exact tX10_slide_p118 hP50 h
      · have h := h.2 q12
        refine go_iconst (pc := 113) (v := 1) dX10_slide_113 (by decide) ?_
        refine go_goto (pc := 114) (tgt := 118) dX10_slide_114 (by decide) ?_
        refine go_lv [2, 3, 4, 1, 0] rfl ?_
        exact tX10_slide_p118 hP50 h
set_option maxRecDepth 100000 in
set_option maxHeartbeats 4000000 in
theorem tX10_slide_p50 {l : Launch} {G : gG} {k : Nat} {o : gMem} {Q : gMem → Prop} {l1 : Int32} {l2 : Int32} {c : gMem} (h : wX10_slide_p50 l1 l2 c Q) : Go l G mX10_slide (gbq G 3 68 84 k (qv (wM G o) Q)) 50 [(0, .ref (G.2.1 + 74)), (1, .int l1), (2, .int l2)] [] 84 k (wM G o c) :=
  h (fun l1 l2 c => Go l G mX10_slide (gbq G 3 68 84 k (qv (wM G o) Q)) 50 [(0, .ref (G.2.1 + 74)), (1, .int l1), (2, .int l2)] [] 84 k (wM G o c)) (fun l1 l2 c hb => tX10_slide_p50_b (fun l1 l2 c hh => hh) hb)
def wX10_slide_p10_b (P10 : Int32 → gMem → Prop) (l1 : Int32) (c : gMem) (Q : gMem → Prop) : Prop :=
  ((24 ≤ l1 →
    ∀ v2, v2 = c 1 6 →
    wX10_write v2 c (fun c3 =>
    wX10_slide_p50 0 0 c3 Q)) ∧
   (¬ 24 ≤ l1 →
    vp_in (20 + l1) 26100 ∧
    ∀ v4, v4 = c 1 (20 + l1).toNatClampNeg →
    wX10_write v4 c (fun c6 =>
    P10 (l1 + 1) c6)))
def wX10_slide_p10 (l1 : Int32) (c : gMem) (Q : gMem → Prop) : Prop :=
  ∀ P10 : Int32 → gMem → Prop, (∀ (l1 : Int32) (c : gMem), wX10_slide_p10_b P10 l1 c Q → P10 l1 c) → P10 l1 c
set_option maxRecDepth 100000 in
set_option maxHeartbeats 4000000 in
theorem tX10_slide_p10_b {l : Launch} {G : gG} {k : Nat} {o : gMem} {Q : gMem → Prop} {P10 : Int32 → gMem → Prop} (hP10 : ∀ (l1 : Int32) (c : gMem), P10 l1 c → Go l G mX10_slide (gbq G 3 68 84 k (qv (wM G o) Q)) 10 [(0, .ref (G.2.1 + 74)), (1, .int l1)] [] 84 k (wM G o c)) {l1 : Int32} {c : gMem} (h : wX10_slide_p10_b P10 l1 c Q) : Go l G mX10_slide (gbq G 3 68 84 k (qv (wM G o) Q)) 10 [(0, .ref (G.2.1 + 74)), (1, .int l1)] [] 84 k (wM G o c) := by
  unfold wX10_slide_p10_b at h
  refine go_iload_n (pc := 10) dX10_slide_10 rfl rfl ?_
  refine go_bipush (pc := 11) (v := 24) dX10_slide_11 (by decide) ?_
  refine go_icmp_ge (pc := 13) (tgt := 35) dX10_slide_13 (by decide) (fun q1 => ?_) (fun q1 => ?_)
  · have h := h.1 q1
    refine go_aload_n (pc := 35) dX10_slide_35 rfl rfl ?_
    refine go_aload_n (pc := 36) dX10_slide_36 rfl rfl ?_
    refine go_get (pc := 37) fX10_9 rfl (gz_b (by decide)) yw0 rfl dX10_slide_37 ?_
    refine go_bipush (pc := 40) (v := 6) dX10_slide_40 (by decide) ?_
    refine gb_iald (pc := 42) (gz_b (by decide)) yw1 (gv_in (by decide)) dX10_slide_42 (fun v2 ev2 => ?_)
    have h := h v2 ev2
    refine gq_callV_v (pc := 43) (F := wM G o) vX10_123 rfl (tX10_write h) rfl rfl (gz_b (by decide)) yw0 rfl (Nat.le_of_ble_eq_true rfl) ⟨Nat.le_of_ble_eq_true rfl, Nat.le_of_ble_eq_true rfl, Nat.le_add_right _ _, Nat.le_add_right _ _⟩ dX10_slide_43 (fun c3 h => ?_)
    refine go_iconst (pc := 46) (v := 0) dX10_slide_46 (by decide) ?_
    refine go_istore_n (pc := 47) (lv' := [(1, .int 0), (0, .ref (G.2.1 + 74))]) dX10_slide_47 rfl (by decide) rfl ?_
    refine go_iconst (pc := 48) (v := 0) dX10_slide_48 (by decide) ?_
    refine go_istore_n (pc := 49) (lv' := [(2, .int 0), (1, .int 0), (0, .ref (G.2.1 + 74))]) dX10_slide_49 rfl (by decide) rfl ?_
    refine go_lv [2, 1, 0] rfl ?_
    exact tX10_slide_p50 h
  · have h := h.2 q1
    refine go_aload_n (pc := 16) dX10_slide_16 rfl rfl ?_
    refine go_aload_n (pc := 17) dX10_slide_17 rfl rfl ?_
    refine go_get (pc := 18) fX10_9 rfl (gz_b (by decide)) yw0 rfl dX10_slide_18 ?_
    refine go_bipush (pc := 21) (v := 20) dX10_slide_21 (by decide) ?_
    refine go_iload_n (pc := 23) dX10_slide_23 rfl rfl ?_
    refine go_iadd (pc := 24) dX10_slide_24 ?_
    obtain ⟨b5, h⟩ := h
    refine gb_iald (pc := 25) (gz_b (by decide)) yw1 b5 dX10_slide_25 (fun v4 ev4 => ?_)
    have h := h v4 ev4
    refine gq_callV_v (pc := 26) (F := wM G o) vX10_123 rfl (tX10_write h) rfl rfl (gz_b (by decide)) yw0 rfl (Nat.le_of_ble_eq_true rfl) ⟨Nat.le_of_ble_eq_true rfl, Nat.le_of_ble_eq_true rfl, Nat.le_add_right _ _, Nat.le_add_right _ _⟩ dX10_slide_26 (fun c6 h => ?_)
    refine go_iinc (pc := 29) (v := l1 + 1) (lv' := [(1, .int (l1 + 1)), (0, .ref (G.2.1 + 74))]) dX10_slide_29 1 rfl (by first | rfl | decide) (by decide) rfl ?_
    refine go_goto (pc := 32) (tgt := 10) dX10_slide_32 (by decide) ?_
    refine go_lv [1, 0] rfl ?_
    exact hP10 _ _ h
set_option maxRecDepth 100000 in
set_option maxHeartbeats 4000000 in
theorem tX10_slide_p10 {l : Launch} {G : gG} {k : Nat} {o : gMem} {Q : gMem → Prop} {l1 : Int32} {c : gMem} (h : wX10_slide_p10 l1 c Q) : Go l G mX10_slide (gbq G 3 68 84 k (qv (wM G o) Q)) 10 [(0, .ref (G.2.1 + 74)), (1, .int l1)] [] 84 k (wM G o c) :=
  h (fun l1 c => Go l G mX10_slide (gbq G 3 68 84 k (qv (wM G o) Q)) 10 [(0, .ref (G.2.1 + 74)), (1, .int l1)] [] 84 k (wM G o c)) (fun l1 c hb => tX10_slide_p10_b (fun l1 c hh => hh) hb)
def wX10_slide (c : gMem) (Q : gMem → Prop) : Prop :=
  ∀ c1, c1 = mp c 1 15 0 →
  wX10_slide_p10 0 c1 Q
set_option maxRecDepth 100000 in
set_option maxHeartbeats 4000000 in
theorem tX10_slide {l : Launch} {G : gG} {k : Nat} {o : gMem} {Q : gMem → Prop} {c : gMem} (h : wX10_slide c Q) : Cq l G mX10_slide 3 68 [.ref (G.2.1 + 74)] 84 k (wM G o c) (qv (wM G o) Q) := by
  refine Cq.of (by decide) (Nat.le_of_ble_eq_true rfl) ?_
  show Go l G mX10_slide (gbq G 3 68 84 k (qv (wM G o) Q)) 0 [(0, .ref (G.2.1 + 74))] [] 84 k (wM G o c)
  unfold wX10_slide at h
  refine go_aload_n (pc := 0) dX10_slide_0 rfl rfl ?_
  refine go_get (pc := 1) fX10_9 rfl (gz_b (by decide)) yw0 rfl dX10_slide_1 ?_
  refine go_bipush (pc := 4) (v := 15) dX10_slide_4 (by decide) ?_
  refine go_iconst (pc := 6) (v := 0) dX10_slide_6 (by decide) ?_
  refine gb_iast (pc := 7) (F := wM G o) (gz_b (by decide)) yw1 (gv_in (by decide)) ya1 dX10_slide_7 (fun c1 ec1 => ?_)
  have h := h c1 ec1
  refine go_iconst (pc := 8) (v := 0) dX10_slide_8 (by decide) ?_
  refine go_istore_n (pc := 9) (lv' := [(1, .int 0), (0, .ref (G.2.1 + 74))]) dX10_slide_9 rfl (by decide) rfl ?_
  refine go_lv [1, 0] rfl ?_
  exact tX10_slide_p10 h
def wX10_end_p72_b (P72 : Int32 → gMem → Prop) (l2 : Int32) (c : gMem) (Q : gMem → Prop) : Prop :=
  ∀ v1, v1 = c 1 4 →
  ((v1 ≤ l2 →
    ∀ c3, c3 = mp c 1 4 0 →
    ∀ c4, c4 = mp c3 1 17 0 →
    ∀ c5, c5 = mp c4 1 3 0 →
    Q c5) ∧
   (¬ v1 ≤ l2 →
    vp_in (600 + l2) 26100 ∧
    ∀ v6, v6 = c 1 (600 + l2).toNatClampNeg →
    wX10_lets v6 5 0 c (fun c8 =>
    P72 (l2 + 1) c8)))
def wX10_end_p72 (l2 : Int32) (c : gMem) (Q : gMem → Prop) : Prop :=
  ∀ P72 : Int32 → gMem → Prop, (∀ (l2 : Int32) (c : gMem), wX10_end_p72_b P72 l2 c Q → P72 l2 c) → P72 l2 c
set_option maxRecDepth 100000 in
set_option maxHeartbeats 4000000 in
theorem tX10_end_p72_b {l : Launch} {G : gG} {k : Nat} {o : gMem} {Q : gMem → Prop} {P72 : Int32 → gMem → Prop} (hP72 : ∀ (l2 : Int32) (c : gMem), P72 l2 c → Go l G mX10_end (gbq G 4 93 84 k (qv (wM G o) Q)) 72 [(0, .ref (G.2.1 + 74)), (2, .int l2)] [] 84 k (wM G o c)) {l2 : Int32} {c : gMem} (h : wX10_end_p72_b P72 l2 c Q) : Go l G mX10_end (gbq G 4 93 84 k (qv (wM G o) Q)) 72 [(0, .ref (G.2.1 + 74)), (2, .int l2)] [] 84 k (wM G o c) := by
  unfold wX10_end_p72_b at h
  refine go_iload_n (pc := 72) dX10_end_72 rfl rfl ?_
  refine go_aload_n (pc := 73) dX10_end_73 rfl rfl ?_
  refine go_get (pc := 74) fX10_9 rfl (gz_b (by decide)) yw0 rfl dX10_end_74 ?_
  refine go_iconst (pc := 77) (v := 4) dX10_end_77 (by decide) ?_
  refine gb_iald (pc := 78) (gz_b (by decide)) yw1 (gv_in (by decide)) dX10_end_78 (fun v1 ev1 => ?_)
  have h := h v1 ev1
  refine go_icmp_ge (pc := 79) (tgt := 104) dX10_end_79 (by decide) (fun q2 => ?_) (fun q2 => ?_)
  · have h := h.1 q2
    refine go_aload_n (pc := 104) dX10_end_104 rfl rfl ?_
    refine go_get (pc := 105) fX10_9 rfl (gz_b (by decide)) yw0 rfl dX10_end_105 ?_
    refine go_iconst (pc := 108) (v := 4) dX10_end_108 (by decide) ?_
    refine go_iconst (pc := 109) (v := 0) dX10_end_109 (by decide) ?_
    refine gb_iast (pc := 110) (F := wM G o) (gz_b (by decide)) yw1 (gv_in (by decide)) ya1 dX10_end_110 (fun c3 ec3 => ?_)
    have h := h c3 ec3
    refine go_aload_n (pc := 111) dX10_end_111 rfl rfl ?_
    refine go_get (pc := 112) fX10_9 rfl (gz_b (by decide)) yw0 rfl dX10_end_112 ?_
    refine go_bipush (pc := 115) (v := 17) dX10_end_115 (by decide) ?_
    refine go_iconst (pc := 117) (v := 0) dX10_end_117 (by decide) ?_
    refine gb_iast (pc := 118) (F := wM G o) (gz_b (by decide)) yw1 (gv_in (by decide)) ya1 dX10_end_118 (fun c4 ec4 => ?_)
    have h := h c4 ec4
    refine go_aload_n (pc := 119) dX10_end_119 rfl rfl ?_
    refine go_get (pc := 120) fX10_9 rfl (gz_b (by decide)) yw0 rfl dX10_end_120 ?_
    refine go_iconst (pc := 123) (v := 3) dX10_end_123 (by decide) ?_
    refine go_iconst (pc := 124) (v := 0) dX10_end_124 (by decide) ?_
    refine gb_iast (pc := 125) (F := wM G o) (gz_b (by decide)) yw1 (gv_in (by decide)) ya1 dX10_end_125 (fun c5 ec5 => ?_)
    have h := h c5 ec5
    exact gq_vret (pc := 126) (F := wM G o) rfl dX10_end_126 h
  · have h := h.2 q2
    refine go_aload_n (pc := 82) dX10_end_82 rfl rfl ?_
    refine go_aload_n (pc := 83) dX10_end_83 rfl rfl ?_
    refine go_get (pc := 84) fX10_9 rfl (gz_b (by decide)) yw0 rfl dX10_end_84 ?_
    refine go_sipush (pc := 87) (v := 600) dX10_end_87 (by decide) ?_
    refine go_iload_n (pc := 90) dX10_end_90 rfl rfl ?_
    refine go_iadd (pc := 91) dX10_end_91 ?_
    obtain ⟨b7, h⟩ := h
    refine gb_iald (pc := 92) (gz_b (by decide)) yw1 b7 dX10_end_92 (fun v6 ev6 => ?_)
    have h := h v6 ev6
    refine go_iconst (pc := 93) (v := 5) dX10_end_93 (by decide) ?_
    refine go_iconst (pc := 94) (v := 0) dX10_end_94 (by decide) ?_
    refine gq_callV_v (pc := 95) (F := wM G o) vX10_82 rfl (tX10_lets h) rfl rfl (gz_b (by decide)) yw0 rfl (Nat.le_of_ble_eq_true rfl) ⟨Nat.le_of_ble_eq_true rfl, Nat.le_of_ble_eq_true rfl, Nat.le_add_right _ _, Nat.le_add_right _ _⟩ dX10_end_95 (fun c8 h => ?_)
    refine go_iinc (pc := 98) (v := l2 + 1) (lv' := [(2, .int (l2 + 1)), (0, .ref (G.2.1 + 74))]) dX10_end_98 1 rfl (by first | rfl | decide) (by decide) rfl ?_
    refine go_goto (pc := 101) (tgt := 72) dX10_end_101 (by decide) ?_
    refine go_lv [1, 0] rfl ?_
    exact hP72 _ _ h
set_option maxRecDepth 100000 in
set_option maxHeartbeats 4000000 in
theorem tX10_end_p72 {l : Launch} {G : gG} {k : Nat} {o : gMem} {Q : gMem → Prop} {l2 : Int32} {c : gMem} (h : wX10_end_p72 l2 c Q) : Go l G mX10_end (gbq G 4 93 84 k (qv (wM G o) Q)) 72 [(0, .ref (G.2.1 + 74)), (2, .int l2)] [] 84 k (wM G o c) :=
  h (fun l2 c => Go l G mX10_end (gbq G 4 93 84 k (qv (wM G o) Q)) 72 [(0, .ref (G.2.1 + 74)), (2, .int l2)] [] 84 k (wM G o c)) (fun l2 c hb => tX10_end_p72_b (fun l2 c hh => hh) hb)
def wX10_end (c : gMem) (Q : gMem → Prop) : Prop :=
  ∀ v1, v1 = c 1 5 →
  ∀ c2, c2 = mp c 1 5 (v1 + 1) →
  ∀ v3, v3 = c2 1 4 →
  ∀ c4, c4 = mp c2 1 6 v3 →
  ∀ c5, c5 = mp c4 1 7 0 →
  ∀ c6, c6 = mp c5 1 8 0 →
  wX10_giveBack c6 (fun c7 =>
  wX10_fade c7 (fun c8 =>
  ∀ v9, v9 = c8 1 7 →
  ∀ v10, v10 = c8 1 9 →
  ∀ c11, c11 = mp c8 1 9 (v10 + v9) →
  wX10_slide c11 (fun c12 =>
  wX10_end_p72 0 c12 Q)))
set_option maxRecDepth 100000 in
set_option maxHeartbeats 4000000 in
theorem tX10_end {l : Launch} {G : gG} {k : Nat} {o : gMem} {Q : gMem → Prop} {c : gMem} (h : wX10_end c Q) : Cq l G mX10_end 4 93 [.ref (G.2.1 + 74)] 84 k (wM G o c) (qv (wM G o) Q) := by
  refine Cq.of (by decide) (Nat.le_of_ble_eq_true rfl) ?_
  show Go l G mX10_end (gbq G 4 93 84 k (qv (wM G o) Q)) 0 [(0, .ref (G.2.1 + 74))] [] 84 k (wM G o c)
  unfold wX10_end at h
  refine go_aload_n (pc := 0) dX10_end_0 rfl rfl ?_
  refine go_get (pc := 1) fX10_9 rfl (gz_b (by decide)) yw0 rfl dX10_end_1 ?_
  refine go_iconst (pc := 4) (v := 5) dX10_end_4 (by decide) ?_
  refine go_dup2 (pc := 5) dX10_end_5 rfl rfl ?_
  refine gb_iald (pc := 6) (gz_b (by decide)) yw1 (gv_in (by decide)) dX10_end_6 (fun v1 ev1 => ?_)
  have h := h v1 ev1
  refine go_iconst (pc := 7) (v := 1) dX10_end_7 (by decide) ?_
  refine go_iadd (pc := 8) dX10_end_8 ?_
  refine gb_iast (pc := 9) (F := wM G o) (gz_b (by decide)) yw1 (gv_in (by decide)) ya1 dX10_end_9 (fun c2 ec2 => ?_)
  have h := h c2 ec2
  refine go_aload_n (pc := 10) dX10_end_10 rfl rfl ?_
  refine go_get (pc := 11) fX10_9 rfl (gz_b (by decide)) yw0 rfl dX10_end_11 ?_
  refine go_bipush (pc := 14) (v := 6) dX10_end_14 (by decide) ?_
  refine go_aload_n (pc := 16) dX10_end_16 rfl rfl ?_
  refine go_get (pc := 17) fX10_9 rfl (gz_b (by decide)) yw0 rfl dX10_end_17 ?_
  refine go_iconst (pc := 20) (v := 4) dX10_end_20 (by decide) ?_
  refine gb_iald (pc := 21) (gz_b (by decide)) yw1 (gv_in (by decide)) dX10_end_21 (fun v3 ev3 => ?_)
  have h := h v3 ev3
  refine gb_iast (pc := 22) (F := wM G o) (gz_b (by decide)) yw1 (gv_in (by decide)) ya1 dX10_end_22 (fun c4 ec4 => ?_)
  have h := h c4 ec4
  refine go_aload_n (pc := 23) dX10_end_23 rfl rfl ?_
  refine go_get (pc := 24) fX10_9 rfl (gz_b (by decide)) yw0 rfl dX10_end_24 ?_
  refine go_bipush (pc := 27) (v := 7) dX10_end_27 (by decide) ?_
  refine go_iconst (pc := 29) (v := 0) dX10_end_29 (by decide) ?_
  refine gb_iast (pc := 30) (F := wM G o) (gz_b (by decide)) yw1 (gv_in (by decide)) ya1 dX10_end_30 (fun c5 ec5 => ?_)
  have h := h c5 ec5
  refine go_aload_n (pc := 31) dX10_end_31 rfl rfl ?_
  refine go_get (pc := 32) fX10_9 rfl (gz_b (by decide)) yw0 rfl dX10_end_32 ?_
  refine go_bipush (pc := 35) (v := 8) dX10_end_35 (by decide) ?_
  refine go_iconst (pc := 37) (v := 0) dX10_end_37 (by decide) ?_
  refine gb_iast (pc := 38) (F := wM G o) (gz_b (by decide)) yw1 (gv_in (by decide)) ya1 dX10_end_38 (fun c6 ec6 => ?_)
  have h := h c6 ec6
  refine go_aload_n (pc := 39) dX10_end_39 rfl rfl ?_
  refine gq_callV_v (pc := 40) (F := wM G o) vX10_111 rfl (tX10_giveBack h) rfl rfl (gz_b (by decide)) yw0 rfl (Nat.le_of_ble_eq_true rfl) ⟨Nat.le_of_ble_eq_true rfl, Nat.le_of_ble_eq_true rfl, Nat.le_add_right _ _, Nat.le_add_right _ _⟩ dX10_end_40 (fun c7 h => ?_)
  refine go_aload_n (pc := 43) dX10_end_43 rfl rfl ?_
  refine gq_callV_v (pc := 44) (F := wM G o) vX10_114 rfl (tX10_fade h) rfl rfl (gz_b (by decide)) yw0 rfl (Nat.le_of_ble_eq_true rfl) ⟨Nat.le_of_ble_eq_true rfl, Nat.le_of_ble_eq_true rfl, Nat.le_add_right _ _, Nat.le_add_right _ _⟩ dX10_end_44 (fun c8 h => ?_)
  refine go_aload_n (pc := 47) dX10_end_47 rfl rfl ?_
  refine go_get (pc := 48) fX10_9 rfl (gz_b (by decide)) yw0 rfl dX10_end_48 ?_
  refine go_bipush (pc := 51) (v := 7) dX10_end_51 (by decide) ?_
  refine gb_iald (pc := 53) (gz_b (by decide)) yw1 (gv_in (by decide)) dX10_end_53 (fun v9 ev9 => ?_)
  have h := h v9 ev9
  refine go_istore_n (pc := 54) (lv' := [(1, .int v9), (0, .ref (G.2.1 + 74))]) dX10_end_54 rfl (by decide) rfl ?_
  refine go_aload_n (pc := 55) dX10_end_55 rfl rfl ?_
  refine go_get (pc := 56) fX10_9 rfl (gz_b (by decide)) yw0 rfl dX10_end_56 ?_
  refine go_bipush (pc := 59) (v := 9) dX10_end_59 (by decide) ?_
  refine go_dup2 (pc := 61) dX10_end_61 rfl rfl ?_
  refine gb_iald (pc := 62) (gz_b (by decide)) yw1 (gv_in (by decide)) dX10_end_62 (fun v10 ev10 => ?_)
  have h := h v10 ev10
  refine go_iload_n (pc := 63) dX10_end_63 rfl rfl ?_
  refine go_iadd (pc := 64) dX10_end_64 ?_
  refine gb_iast (pc := 65) (F := wM G o) (gz_b (by decide)) yw1 (gv_in (by decide)) ya1 dX10_end_65 (fun c11 ec11 => ?_)
  have h := h c11 ec11
  refine go_aload_n (pc := 66) dX10_end_66 rfl rfl ?_
  refine gq_callV_v (pc := 67) (F := wM G o) vX10_117 rfl (tX10_slide h) rfl rfl (gz_b (by decide)) yw0 rfl (Nat.le_of_ble_eq_true rfl) ⟨Nat.le_of_ble_eq_true rfl, Nat.le_of_ble_eq_true rfl, Nat.le_add_right _ _, Nat.le_add_right _ _⟩ dX10_end_67 (fun c12 h => ?_)
  refine go_iconst (pc := 70) (v := 0) dX10_end_70 (by decide) ?_
  refine go_istore_n (pc := 71) (lv' := [(2, .int 0), (1, .int v9), (0, .ref (G.2.1 + 74))]) dX10_end_71 rfl (by decide) rfl ?_
  refine go_lv [2, 0] rfl ?_
  exact tX10_end_p72 h
def wX10_begin_p24_b (P24 : Int32 → gMem → Prop) (l1 : Int32) (c : gMem) (Q : gMem → Prop) : Prop :=
  ((24 ≤ l1 →
    Q c) ∧
   (¬ 24 ≤ l1 →
    vp_in (20 + l1) 26100 ∧
    ∀ v2, v2 = c 1 (20 + l1).toNatClampNeg →
    wX10_mark v2 0 l1 ((-1)) c (fun c4 =>
    P24 (l1 + 1) c4)))
def wX10_begin_p24 (l1 : Int32) (c : gMem) (Q : gMem → Prop) : Prop :=
  ∀ P24 : Int32 → gMem → Prop, (∀ (l1 : Int32) (c : gMem), wX10_begin_p24_b P24 l1 c Q → P24 l1 c) → P24 l1 c
set_option maxRecDepth 100000 in
set_option maxHeartbeats 4000000 in
theorem tX10_begin_p24_b {l : Launch} {G : gG} {k : Nat} {o : gMem} {Q : gMem → Prop} {P24 : Int32 → gMem → Prop} (hP24 : ∀ (l1 : Int32) (c : gMem), P24 l1 c → Go l G mX10_begin (gbq G 2 47 84 k (qv (wM G o) Q)) 24 [(0, .ref (G.2.1 + 74)), (1, .int l1)] [] 84 k (wM G o c)) {l1 : Int32} {c : gMem} (h : wX10_begin_p24_b P24 l1 c Q) : Go l G mX10_begin (gbq G 2 47 84 k (qv (wM G o) Q)) 24 [(0, .ref (G.2.1 + 74)), (1, .int l1)] [] 84 k (wM G o c) := by
  unfold wX10_begin_p24_b at h
  refine go_iload_n (pc := 24) dX10_begin_24 rfl rfl ?_
  refine go_bipush (pc := 25) (v := 24) dX10_begin_25 (by decide) ?_
  refine go_icmp_ge (pc := 27) (tgt := 52) dX10_begin_27 (by decide) (fun q1 => ?_) (fun q1 => ?_)
  · have h := h.1 q1
    exact gq_vret (pc := 52) (F := wM G o) rfl dX10_begin_52 h
  · have h := h.2 q1
    refine go_aload_n (pc := 30) dX10_begin_30 rfl rfl ?_
    refine go_aload_n (pc := 31) dX10_begin_31 rfl rfl ?_
    refine go_get (pc := 32) fX10_9 rfl (gz_b (by decide)) yw0 rfl dX10_begin_32 ?_
    refine go_bipush (pc := 35) (v := 20) dX10_begin_35 (by decide) ?_
    refine go_iload_n (pc := 37) dX10_begin_37 rfl rfl ?_
    refine go_iadd (pc := 38) dX10_begin_38 ?_
    obtain ⟨b3, h⟩ := h
    refine gb_iald (pc := 39) (gz_b (by decide)) yw1 b3 dX10_begin_39 (fun v2 ev2 => ?_)
    have h := h v2 ev2
    refine go_iconst (pc := 40) (v := 0) dX10_begin_40 (by decide) ?_
    refine go_iload_n (pc := 41) dX10_begin_41 rfl rfl ?_
    refine go_iconst (pc := 42) (v := (-1)) dX10_begin_42 (by decide) ?_
    refine gq_callV_v (pc := 43) (F := wM G o) vX10_86 rfl (tX10_mark h) rfl rfl (gz_b (by decide)) yw0 rfl (Nat.le_of_ble_eq_true rfl) ⟨Nat.le_of_ble_eq_true rfl, Nat.le_of_ble_eq_true rfl, Nat.le_add_right _ _, Nat.le_add_right _ _⟩ dX10_begin_43 (fun c4 h => ?_)
    refine go_iinc (pc := 46) (v := l1 + 1) (lv' := [(1, .int (l1 + 1)), (0, .ref (G.2.1 + 74))]) dX10_begin_46 1 rfl (by first | rfl | decide) (by decide) rfl ?_
    refine go_goto (pc := 49) (tgt := 24) dX10_begin_49 (by decide) ?_
    refine go_lv [1, 0] rfl ?_
    exact hP24 _ _ h
set_option maxRecDepth 100000 in
set_option maxHeartbeats 4000000 in
theorem tX10_begin_p24 {l : Launch} {G : gG} {k : Nat} {o : gMem} {Q : gMem → Prop} {l1 : Int32} {c : gMem} (h : wX10_begin_p24 l1 c Q) : Go l G mX10_begin (gbq G 2 47 84 k (qv (wM G o) Q)) 24 [(0, .ref (G.2.1 + 74)), (1, .int l1)] [] 84 k (wM G o c) :=
  h (fun l1 c => Go l G mX10_begin (gbq G 2 47 84 k (qv (wM G o) Q)) 24 [(0, .ref (G.2.1 + 74)), (1, .int l1)] [] 84 k (wM G o c)) (fun l1 c hb => tX10_begin_p24_b (fun l1 c hh => hh) hb)
def wX10_begin (c : gMem) (Q : gMem → Prop) : Prop :=
  ∀ c1, c1 = mp c 1 3 1 →
  ∀ c2, c2 = mp c1 1 4 0 →
  ∀ c3, c3 = mp c2 1 17 0 →
  wX10_begin_p24 0 c3 Q
set_option maxRecDepth 100000 in
set_option maxHeartbeats 4000000 in
theorem tX10_begin {l : Launch} {G : gG} {k : Nat} {o : gMem} {Q : gMem → Prop} {c : gMem} (h : wX10_begin c Q) : Cq l G mX10_begin 2 47 [.ref (G.2.1 + 74)] 84 k (wM G o c) (qv (wM G o) Q) := by
  refine Cq.of (by decide) (Nat.le_of_ble_eq_true rfl) ?_
  show Go l G mX10_begin (gbq G 2 47 84 k (qv (wM G o) Q)) 0 [(0, .ref (G.2.1 + 74))] [] 84 k (wM G o c)
  unfold wX10_begin at h
  refine go_aload_n (pc := 0) dX10_begin_0 rfl rfl ?_
  refine go_get (pc := 1) fX10_9 rfl (gz_b (by decide)) yw0 rfl dX10_begin_1 ?_
  refine go_iconst (pc := 4) (v := 3) dX10_begin_4 (by decide) ?_
  refine go_iconst (pc := 5) (v := 1) dX10_begin_5 (by decide) ?_
  refine gb_iast (pc := 6) (F := wM G o) (gz_b (by decide)) yw1 (gv_in (by decide)) ya1 dX10_begin_6 (fun c1 ec1 => ?_)
  have h := h c1 ec1
  refine go_aload_n (pc := 7) dX10_begin_7 rfl rfl ?_
  refine go_get (pc := 8) fX10_9 rfl (gz_b (by decide)) yw0 rfl dX10_begin_8 ?_
  refine go_iconst (pc := 11) (v := 4) dX10_begin_11 (by decide) ?_
  refine go_iconst (pc := 12) (v := 0) dX10_begin_12 (by decide) ?_
  refine gb_iast (pc := 13) (F := wM G o) (gz_b (by decide)) yw1 (gv_in (by decide)) ya1 dX10_begin_13 (fun c2 ec2 => ?_)
  have h := h c2 ec2
  refine go_aload_n (pc := 14) dX10_begin_14 rfl rfl ?_
  refine go_get (pc := 15) fX10_9 rfl (gz_b (by decide)) yw0 rfl dX10_begin_15 ?_
  refine go_bipush (pc := 18) (v := 17) dX10_begin_18 (by decide) ?_
  refine go_iconst (pc := 20) (v := 0) dX10_begin_20 (by decide) ?_
  refine gb_iast (pc := 21) (F := wM G o) (gz_b (by decide)) yw1 (gv_in (by decide)) ya1 dX10_begin_21 (fun c3 ec3 => ?_)
  have h := h c3 ec3
  refine go_iconst (pc := 22) (v := 0) dX10_begin_22 (by decide) ?_
  refine go_istore_n (pc := 23) (lv' := [(1, .int 0), (0, .ref (G.2.1 + 74))]) dX10_begin_23 rfl (by decide) rfl ?_
  refine go_lv [1, 0] rfl ?_
  exact tX10_begin_p24 h
def wX10_wholeCycle_p13 (c : gMem) (Q : Int32 → gMem → Prop) : Prop :=
  wX10_lookThrough 1000000 c (fun r2 c1 =>
  wX10_end c1 (fun c3 =>
  ∀ v4, v4 = c3 1 7 →
  Q v4 c3))
set_option maxRecDepth 100000 in
set_option maxHeartbeats 4000000 in
theorem tX10_wholeCycle_p13 {l : Launch} {G : gG} {k : Nat} {o : gMem} {Q : Int32 → gMem → Prop} {c : gMem} (h : wX10_wholeCycle_p13 c Q) : Go l G mX10_wholeCycle (gbq G 5 115 84 k (qi (wM G o) Q)) 13 [(0, .ref (G.2.1 + 74))] [] 84 k (wM G o c) := by
  unfold wX10_wholeCycle_p13 at h
  refine go_aload_n (pc := 13) dX10_wholeCycle_13 rfl rfl ?_
  refine go_ldc (pc := 14) rfl qX10_110 dX10_wholeCycle_14 ?_
  refine gq_callV_i (pc := 16) (F := wM G o) vX10_104 rfl (tX10_lookThrough h) rfl rfl (gz_b (by decide)) yw0 rfl (Nat.le_of_ble_eq_true rfl) ⟨Nat.le_of_ble_eq_true rfl, Nat.le_of_ble_eq_true rfl, Nat.le_add_right _ _, Nat.le_add_right _ _⟩ dX10_wholeCycle_16 (fun r2 c1 h => ?_)
  refine go_pop (pc := 19) dX10_wholeCycle_19 rfl ?_
  refine go_aload_n (pc := 20) dX10_wholeCycle_20 rfl rfl ?_
  refine gq_callV_v (pc := 21) (F := wM G o) vX10_107 rfl (tX10_end h) rfl rfl (gz_b (by decide)) yw0 rfl (Nat.le_of_ble_eq_true rfl) ⟨Nat.le_of_ble_eq_true rfl, Nat.le_of_ble_eq_true rfl, Nat.le_add_right _ _, Nat.le_add_right _ _⟩ dX10_wholeCycle_21 (fun c3 h => ?_)
  refine go_aload_n (pc := 24) dX10_wholeCycle_24 rfl rfl ?_
  refine go_get (pc := 25) fX10_9 rfl (gz_b (by decide)) yw0 rfl dX10_wholeCycle_25 ?_
  refine go_bipush (pc := 28) (v := 7) dX10_wholeCycle_28 (by decide) ?_
  refine gb_iald (pc := 30) (gz_b (by decide)) yw1 (gv_in (by decide)) dX10_wholeCycle_30 (fun v4 ev4 => ?_)
  have h := h v4 ev4
  exact gq_iret (pc := 31) (F := wM G o) rfl dX10_wholeCycle_31 h
def wX10_wholeCycle (c : gMem) (Q : Int32 → gMem → Prop) : Prop :=
  ∀ v1, v1 = c 1 3 →
  ((v1 = 0 →
    wX10_begin c (fun c3 =>
    wX10_wholeCycle_p13 c3 Q)) ∧
   (¬ v1 = 0 →
    wX10_wholeCycle_p13 c Q))
set_option maxRecDepth 100000 in
set_option maxHeartbeats 4000000 in
theorem tX10_wholeCycle {l : Launch} {G : gG} {k : Nat} {o : gMem} {Q : Int32 → gMem → Prop} {c : gMem} (h : wX10_wholeCycle c Q) : Cq l G mX10_wholeCycle 5 115 [.ref (G.2.1 + 74)] 84 k (wM G o c) (qi (wM G o) Q) := by
  refine Cq.of (by decide) (Nat.le_of_ble_eq_true rfl) ?_
  show Go l G mX10_wholeCycle (gbq G 5 115 84 k (qi (wM G o) Q)) 0 [(0, .ref (G.2.1 + 74))] [] 84 k (wM G o c)
  unfold wX10_wholeCycle at h
  refine go_aload_n (pc := 0) dX10_wholeCycle_0 rfl rfl ?_
  refine go_get (pc := 1) fX10_9 rfl (gz_b (by decide)) yw0 rfl dX10_wholeCycle_1 ?_
  refine go_iconst (pc := 4) (v := 3) dX10_wholeCycle_4 (by decide) ?_
  refine gb_iald (pc := 5) (gz_b (by decide)) yw1 (gv_in (by decide)) dX10_wholeCycle_5 (fun v1 ev1 => ?_)
  have h := h v1 ev1
  refine go_if_ne (pc := 6) (tgt := 13) dX10_wholeCycle_6 (by decide) (fun q2 => ?_) (fun q2 => ?_)
  · have h := h.2 q2
    refine go_lv [0] rfl ?_
    exact tX10_wholeCycle_p13 h
  · have h := h.1 q2
    refine go_aload_n (pc := 9) dX10_wholeCycle_9 rfl rfl ?_
    refine gq_callV_v (pc := 10) (F := wM G o) vX10_101 rfl (tX10_begin h) rfl rfl (gz_b (by decide)) yw0 rfl (Nat.le_of_ble_eq_true rfl) ⟨Nat.le_of_ble_eq_true rfl, Nat.le_of_ble_eq_true rfl, Nat.le_add_right _ _, Nat.le_add_right _ _⟩ dX10_wholeCycle_10 (fun c3 h => ?_)
    refine go_lv [0] rfl ?_
    exact tX10_wholeCycle_p13 h
def wX10_fails (l0 : Int32) (c : gMem) (Q : Int32 → gMem → Prop) : Prop :=
  Q (((-10)) - l0) c
set_option maxRecDepth 100000 in
set_option maxHeartbeats 4000000 in
theorem tX10_fails {l : Launch} {G : gG} {k : Nat} {o : gMem} {Q : Int32 → gMem → Prop} {l0 : Int32} {c : gMem} (h : wX10_fails l0 c Q) : Cq l G mX10_fails 0 0 [.int l0] 84 k (wM G o c) (qi (wM G o) Q) := by
  refine Cq.of (by decide) (Nat.le_of_ble_eq_true rfl) ?_
  show Go l G mX10_fails (gbq G 0 0 84 k (qi (wM G o) Q)) 0 [(0, .int l0)] [] 84 k (wM G o c)
  unfold wX10_fails at h
  refine go_bipush (pc := 0) (v := (-10)) dX10_fails_0 (by decide) ?_
  refine go_iload_n (pc := 2) dX10_fails_2 rfl rfl ?_
  refine go_isub (pc := 3) dX10_fails_3 ?_
  exact gq_iret (pc := 4) (F := wM G o) rfl dX10_fails_4 h
def wX10_makes_p318 (l4 : Int32) (l5 : Int32) (c : gMem) (Q : Int32 → gMem → Prop) : Prop :=
  ∀ v1, v1 = c 1 16 →
  ∀ c2, c2 = mp c 1 16 (v1 + l4) →
  ∀ v3, v3 = c2 1 3 →
  ((v3 = 1 →
    wX10_mark l5 5 ((-1)) ((-1)) c2 (fun c5 =>
    Q l5 c5)) ∧
   (¬ v3 = 1 →
    Q l5 c2))
set_option maxRecDepth 100000 in
set_option maxHeartbeats 4000000 in
theorem tX10_makes_p318 {l : Launch} {G : gG} {k : Nat} {o : gMem} {Q : Int32 → gMem → Prop} {l4 : Int32} {l5 : Int32} {c : gMem} (h : wX10_makes_p318 l4 l5 c Q) : Go l G mX10_makes (gbq G 6 135 84 k (qi (wM G o) Q)) 318 [(0, .ref (G.2.1 + 74)), (4, .int l4), (5, .int l5)] [] 84 k (wM G o c) := by
  unfold wX10_makes_p318 at h
  refine go_aload_n (pc := 318) dX10_makes_318 rfl rfl ?_
  refine go_get (pc := 319) fX10_9 rfl (gz_b (by decide)) yw0 rfl dX10_makes_319 ?_
  refine go_bipush (pc := 322) (v := 16) dX10_makes_322 (by decide) ?_
  refine go_dup2 (pc := 324) dX10_makes_324 rfl rfl ?_
  refine gb_iald (pc := 325) (gz_b (by decide)) yw1 (gv_in (by decide)) dX10_makes_325 (fun v1 ev1 => ?_)
  have h := h v1 ev1
  refine go_iload (pc := 326) dX10_makes_326 rfl ?_
  refine go_iadd (pc := 328) dX10_makes_328 ?_
  refine gb_iast (pc := 329) (F := wM G o) (gz_b (by decide)) yw1 (gv_in (by decide)) ya1 dX10_makes_329 (fun c2 ec2 => ?_)
  have h := h c2 ec2
  refine go_aload_n (pc := 330) dX10_makes_330 rfl rfl ?_
  refine go_get (pc := 331) fX10_9 rfl (gz_b (by decide)) yw0 rfl dX10_makes_331 ?_
  refine go_iconst (pc := 334) (v := 3) dX10_makes_334 (by decide) ?_
  refine gb_iald (pc := 335) (gz_b (by decide)) yw1 (gv_in (by decide)) dX10_makes_335 (fun v3 ev3 => ?_)
  have h := h v3 ev3
  refine go_iconst (pc := 336) (v := 1) dX10_makes_336 (by decide) ?_
  refine go_icmp_ne (pc := 337) (tgt := 349) dX10_makes_337 (by decide) (fun q4 => ?_) (fun q4 => ?_)
  · have h := h.2 q4
    refine go_iload (pc := 349) dX10_makes_349 rfl ?_
    exact gq_iret (pc := 351) (F := wM G o) rfl dX10_makes_351 h
  · have h := h.1 q4
    refine go_aload_n (pc := 340) dX10_makes_340 rfl rfl ?_
    refine go_iload (pc := 341) dX10_makes_341 rfl ?_
    refine go_iconst (pc := 343) (v := 5) dX10_makes_343 (by decide) ?_
    refine go_iconst (pc := 344) (v := (-1)) dX10_makes_344 (by decide) ?_
    refine go_iconst (pc := 345) (v := (-1)) dX10_makes_345 (by decide) ?_
    refine gq_callV_v (pc := 346) (F := wM G o) vX10_86 rfl (tX10_mark h) rfl rfl (gz_b (by decide)) yw0 rfl (Nat.le_of_ble_eq_true rfl) ⟨Nat.le_of_ble_eq_true rfl, Nat.le_of_ble_eq_true rfl, Nat.le_add_right _ _, Nat.le_add_right _ _⟩ dX10_makes_346 (fun c5 h => ?_)
    refine go_iload (pc := 349) dX10_makes_349 rfl ?_
    exact gq_iret (pc := 351) (F := wM G o) rfl dX10_makes_351 h
def wX10_makes_p306 (l4 : Int32) (l5 : Int32) (c : gMem) (Q : Int32 → gMem → Prop) : Prop :=
  wX10_weakAt l5 c (fun r2 c1 =>
  vp_in r2 26100 ∧
  ∀ c3, c3 = mp c1 1 r2.toNatClampNeg ((-1)) →
  wX10_makes_p318 l4 l5 c3 Q)
set_option maxRecDepth 100000 in
set_option maxHeartbeats 4000000 in
theorem tX10_makes_p306 {l : Launch} {G : gG} {k : Nat} {o : gMem} {Q : Int32 → gMem → Prop} {l4 : Int32} {l5 : Int32} {c : gMem} (h : wX10_makes_p306 l4 l5 c Q) : Go l G mX10_makes (gbq G 6 135 84 k (qi (wM G o) Q)) 306 [(0, .ref (G.2.1 + 74)), (4, .int l4), (5, .int l5)] [] 84 k (wM G o c) := by
  unfold wX10_makes_p306 at h
  refine go_aload_n (pc := 306) dX10_makes_306 rfl rfl ?_
  refine go_get (pc := 307) fX10_9 rfl (gz_b (by decide)) yw0 rfl dX10_makes_307 ?_
  refine go_aload_n (pc := 310) dX10_makes_310 rfl rfl ?_
  refine go_iload (pc := 311) dX10_makes_311 rfl ?_
  refine gq_callV_i (pc := 313) (F := wM G o) vX10_120 rfl (tX10_weakAt h) rfl rfl (gz_b (by decide)) yw0 rfl (Nat.le_of_ble_eq_true rfl) ⟨Nat.le_of_ble_eq_true rfl, Nat.le_of_ble_eq_true rfl, Nat.le_add_right _ _, Nat.le_add_right _ _⟩ dX10_makes_313 (fun r2 c1 h => ?_)
  refine go_iconst (pc := 316) (v := (-1)) dX10_makes_316 (by decide) ?_
  obtain ⟨b4, h⟩ := h
  refine gb_iast (pc := 317) (F := wM G o) (gz_b (by decide)) yw1 b4 ya1 dX10_makes_317 (fun c3 ec3 => ?_)
  have h := h c3 ec3
  refine go_lv [0, 1, 2] rfl ?_
  exact tX10_makes_p318 h
def wX10_makes_p269_b (P269 : Int32 → Int32 → Int32 → Int32 → Int32 → gMem → Prop) (l1 : Int32) (l4 : Int32) (l5 : Int32) (l6 : Int32) (l7 : Int32) (c : gMem) (Q : Int32 → gMem → Prop) : Prop :=
  ((l6 ≤ l7 →
    ((l1 = 3 →
      wX10_makes_p306 l4 l5 c Q) ∧
     (¬ l1 = 3 →
      ((l1 = 4 →
        wX10_makes_p306 l4 l5 c Q) ∧
       (¬ l1 = 4 →
        wX10_makes_p318 l4 l5 c Q))))) ∧
   (¬ l6 ≤ l7 →
    wX10_linkAt l5 l7 c (fun r5 c4 =>
    vp_in r5 26100 ∧
    ∀ c6, c6 = mp c4 1 r5.toNatClampNeg ((-1)) →
    P269 l1 l4 l5 l6 (l7 + 1) c6)))
def wX10_makes_p269 (l1 : Int32) (l4 : Int32) (l5 : Int32) (l6 : Int32) (l7 : Int32) (c : gMem) (Q : Int32 → gMem → Prop) : Prop :=
  ∀ P269 : Int32 → Int32 → Int32 → Int32 → Int32 → gMem → Prop, (∀ (l1 : Int32) (l4 : Int32) (l5 : Int32) (l6 : Int32) (l7 : Int32) (c : gMem), wX10_makes_p269_b P269 l1 l4 l5 l6 l7 c Q → P269 l1 l4 l5 l6 l7 c) → P269 l1 l4 l5 l6 l7 c
set_option maxRecDepth 100000 in
set_option maxHeartbeats 4000000 in
theorem tX10_makes_p269_b {l : Launch} {G : gG} {k : Nat} {o : gMem} {Q : Int32 → gMem → Prop} {P269 : Int32 → Int32 → Int32 → Int32 → Int32 → gMem → Prop} (hP269 : ∀ (l1 : Int32) (l4 : Int32) (l5 : Int32) (l6 : Int32) (l7 : Int32) (c : gMem), P269 l1 l4 l5 l6 l7 c → Go l G mX10_makes (gbq G 6 135 84 k (qi (wM G o) Q)) 269 [(0, .ref (G.2.1 + 74)), (1, .int l1), (4, .int l4), (5, .int l5), (6, .int l6), (7, .int l7)] [] 84 k (wM G o c)) {l1 : Int32} {l4 : Int32} {l5 : Int32} {l6 : Int32} {l7 : Int32} {c : gMem} (h : wX10_makes_p269_b P269 l1 l4 l5 l6 l7 c Q) : Go l G mX10_makes (gbq G 6 135 84 k (qi (wM G o) Q)) 269 [(0, .ref (G.2.1 + 74)), (1, .int l1), (4, .int l4), (5, .int l5), (6, .int l6), (7, .int l7)] [] 84 k (wM G o c) := by
  unfold wX10_makes_p269_b at h
  refine go_iload (pc := 269) dX10_makes_269 rfl ?_
  refine go_iload (pc := 271) dX10_makes_271 rfl ?_
  refine go_icmp_ge (pc := 273) (tgt := 296) dX10_makes_273 (by decide) (fun q1 => ?_) (fun q1 => ?_)
  · have h := h.1 q1
    refine go_iload_n (pc := 296) dX10_makes_296 rfl rfl ?_
    refine go_iconst (pc := 297) (v := 3) dX10_makes_297 (by decide) ?_
    refine go_icmp_eq (pc := 298) (tgt := 306) dX10_makes_298 (by decide) (fun q2 => ?_) (fun q2 => ?_)
    · have h := h.1 q2
      refine go_lv [0, 2, 3] rfl ?_
      exact tX10_makes_p306 h
    · have h := h.2 q2
      refine go_iload_n (pc := 301) dX10_makes_301 rfl rfl ?_
      refine go_iconst (pc := 302) (v := 4) dX10_makes_302 (by decide) ?_
      refine go_icmp_ne (pc := 303) (tgt := 318) dX10_makes_303 (by decide) (fun q3 => ?_) (fun q3 => ?_)
      · have h := h.2 q3
        refine go_lv [0, 2, 3] rfl ?_
        exact tX10_makes_p318 h
      · have h := h.1 q3
        refine go_lv [0, 2, 3] rfl ?_
        exact tX10_makes_p306 h
  · have h := h.2 q1
    refine go_aload_n (pc := 276) dX10_makes_276 rfl rfl ?_
    refine go_get (pc := 277) fX10_9 rfl (gz_b (by decide)) yw0 rfl dX10_makes_277 ?_
    refine go_aload_n (pc := 280) dX10_makes_280 rfl rfl ?_
    refine go_iload (pc := 281) dX10_makes_281 rfl ?_
    refine go_iload (pc := 283) dX10_makes_283 rfl ?_
    refine gq_callV_i (pc := 285) (F := wM G o) vX10_98 rfl (tX10_linkAt h) rfl rfl (gz_b (by decide)) yw0 rfl (Nat.le_of_ble_eq_true rfl) ⟨Nat.le_of_ble_eq_true rfl, Nat.le_of_ble_eq_true rfl, Nat.le_add_right _ _, Nat.le_add_right _ _⟩ dX10_makes_285 (fun r5 c4 h => ?_)
    refine go_iconst (pc := 288) (v := (-1)) dX10_makes_288 (by decide) ?_
    obtain ⟨b7, h⟩ := h
    refine gb_iast (pc := 289) (F := wM G o) (gz_b (by decide)) yw1 b7 ya1 dX10_makes_289 (fun c6 ec6 => ?_)
    have h := h c6 ec6
    refine go_iinc (pc := 290) (v := l7 + 1) (lv' := [(7, .int (l7 + 1)), (0, .ref (G.2.1 + 74)), (1, .int l1), (4, .int l4), (5, .int l5), (6, .int l6)]) dX10_makes_290 5 rfl (by first | rfl | decide) (by decide) rfl ?_
    refine go_goto (pc := 293) (tgt := 269) dX10_makes_293 (by decide) ?_
    refine go_lv [1, 2, 3, 4, 5, 0] rfl ?_
    exact hP269 _ _ _ _ _ _ h
set_option maxRecDepth 100000 in
set_option maxHeartbeats 4000000 in
theorem tX10_makes_p269 {l : Launch} {G : gG} {k : Nat} {o : gMem} {Q : Int32 → gMem → Prop} {l1 : Int32} {l4 : Int32} {l5 : Int32} {l6 : Int32} {l7 : Int32} {c : gMem} (h : wX10_makes_p269 l1 l4 l5 l6 l7 c Q) : Go l G mX10_makes (gbq G 6 135 84 k (qi (wM G o) Q)) 269 [(0, .ref (G.2.1 + 74)), (1, .int l1), (4, .int l4), (5, .int l5), (6, .int l6), (7, .int l7)] [] 84 k (wM G o c) :=
  h (fun l1 l4 l5 l6 l7 c => Go l G mX10_makes (gbq G 6 135 84 k (qi (wM G o) Q)) 269 [(0, .ref (G.2.1 + 74)), (1, .int l1), (4, .int l4), (5, .int l5), (6, .int l6), (7, .int l7)] [] 84 k (wM G o c)) (fun l1 l4 l5 l6 l7 c hb => tX10_makes_p269_b (fun l1 l4 l5 l6 l7 c hh => hh) hb)
def wX10_makes_p258 (l1 : Int32) (l4 : Int32) (l5 : Int32) (c : gMem) (Q : Int32 → gMem → Prop) : Prop :=
  wX10_linksOf l5 c (fun r2 c1 =>
  wX10_makes_p269 l1 l4 l5 r2 0 c1 Q)
set_option maxRecDepth 100000 in
set_option maxHeartbeats 4000000 in
theorem tX10_makes_p258 {l : Launch} {G : gG} {k : Nat} {o : gMem} {Q : Int32 → gMem → Prop} {l1 : Int32} {l4 : Int32} {l5 : Int32} {c : gMem} (h : wX10_makes_p258 l1 l4 l5 c Q) : Go l G mX10_makes (gbq G 6 135 84 k (qi (wM G o) Q)) 258 [(0, .ref (G.2.1 + 74)), (1, .int l1), (4, .int l4), (5, .int l5)] [] 84 k (wM G o c) := by
  unfold wX10_makes_p258 at h
  refine go_aload_n (pc := 258) dX10_makes_258 rfl rfl ?_
  refine go_iload (pc := 259) dX10_makes_259 rfl ?_
  refine gq_callV_i (pc := 261) (F := wM G o) vX10_90 rfl (tX10_linksOf h) rfl rfl (gz_b (by decide)) yw0 rfl (Nat.le_of_ble_eq_true rfl) ⟨Nat.le_of_ble_eq_true rfl, Nat.le_of_ble_eq_true rfl, Nat.le_add_right _ _, Nat.le_add_right _ _⟩ dX10_makes_261 (fun r2 c1 h => ?_)
  refine go_istore (pc := 264) (lv' := [(6, .int r2), (0, .ref (G.2.1 + 74)), (1, .int l1), (4, .int l4), (5, .int l5)]) dX10_makes_264 (by decide) rfl ?_
  refine go_iconst (pc := 266) (v := 0) dX10_makes_266 (by decide) ?_
  refine go_istore (pc := 267) (lv' := [(7, .int 0), (6, .int r2), (0, .ref (G.2.1 + 74)), (1, .int l1), (4, .int l4), (5, .int l5)]) dX10_makes_267 (by decide) rfl ?_
  refine go_lv [2, 3, 4, 5, 1, 0] rfl ?_
  exact tX10_makes_p269 h
def wX10_makes_p127 (l1 : Int32) (l3 : Int32) (l4 : Int32) (c : gMem) (Q : Int32 → gMem → Prop) : Prop :=
  ∀ v1, v1 = c 1 1 →
  ∀ v2, v2 = c 1 1 →
  ∀ c3, c3 = mp c 1 1 (v2 + 1) →
  ∀ v4, v4 = c3 1 2 →
  ∀ c5, c5 = mp c3 1 2 (v4 + 1) →
  wX10_lets v1 0 1 c5 (fun c6 =>
  wX10_lets v1 1 l1 c6 (fun c7 =>
  ∀ v8, v8 = c7 1 16 →
  wX10_lets v1 2 v8 c7 (fun c9 =>
  wX10_lets v1 3 l3 c9 (fun c10 =>
  wX10_lets v1 4 0 c10 (fun c11 =>
  wX10_lets v1 5 0 c11 (fun c12 =>
  ∀ v13, v13 = c12 1 16 →
  vp_in (6100 + v13) 26100 ∧
  ∀ c14, c14 = mp c12 1 (6100 + v13).toNatClampNeg ((8 * v1) + l1) →
  wX10_hasMany l1 c14 (fun r17 c16 =>
  ((r17 = 0 →
    wX10_makes_p258 l1 l4 v1 c16 Q) ∧
   (¬ r17 = 0 →
    ∀ v19, v19 = c16 1 16 →
    vp_in ((6100 + v19) + 1) 26100 ∧
    ∀ c20, c20 = mp c16 1 ((6100 + v19) + 1).toNatClampNeg l3 →
    wX10_makes_p258 l1 l4 v1 c20 Q)))))))))
set_option maxRecDepth 100000 in
set_option maxHeartbeats 4000000 in
theorem tX10_makes_p127 {l : Launch} {G : gG} {k : Nat} {o : gMem} {Q : Int32 → gMem → Prop} {l1 : Int32} {l3 : Int32} {l4 : Int32} {c : gMem} (h : wX10_makes_p127 l1 l3 l4 c Q) : Go l G mX10_makes (gbq G 6 135 84 k (qi (wM G o) Q)) 127 [(0, .ref (G.2.1 + 74)), (1, .int l1), (3, .int l3), (4, .int l4)] [] 84 k (wM G o c) := by
  unfold wX10_makes_p127 at h
  refine go_aload_n (pc := 127) dX10_makes_127 rfl rfl ?_
  refine go_get (pc := 128) fX10_9 rfl (gz_b (by decide)) yw0 rfl dX10_makes_128 ?_
  refine go_iconst (pc := 131) (v := 1) dX10_makes_131 (by decide) ?_
  refine gb_iald (pc := 132) (gz_b (by decide)) yw1 (gv_in (by decide)) dX10_makes_132 (fun v1 ev1 => ?_)
  have h := h v1 ev1
  refine go_istore (pc := 133) (lv' := [(5, .int v1), (0, .ref (G.2.1 + 74)), (1, .int l1), (3, .int l3), (4, .int l4)]) dX10_makes_133 (by decide) rfl ?_
  refine go_aload_n (pc := 135) dX10_makes_135 rfl rfl ?_
  refine go_get (pc := 136) fX10_9 rfl (gz_b (by decide)) yw0 rfl dX10_makes_136 ?_
  refine go_iconst (pc := 139) (v := 1) dX10_makes_139 (by decide) ?_
  refine go_dup2 (pc := 140) dX10_makes_140 rfl rfl ?_
  refine gb_iald (pc := 141) (gz_b (by decide)) yw1 (gv_in (by decide)) dX10_makes_141 (fun v2 ev2 => ?_)
  have h := h v2 ev2
  refine go_iconst (pc := 142) (v := 1) dX10_makes_142 (by decide) ?_
  refine go_iadd (pc := 143) dX10_makes_143 ?_
  refine gb_iast (pc := 144) (F := wM G o) (gz_b (by decide)) yw1 (gv_in (by decide)) ya1 dX10_makes_144 (fun c3 ec3 => ?_)
  have h := h c3 ec3
  refine go_aload_n (pc := 145) dX10_makes_145 rfl rfl ?_
  refine go_get (pc := 146) fX10_9 rfl (gz_b (by decide)) yw0 rfl dX10_makes_146 ?_
  refine go_iconst (pc := 149) (v := 2) dX10_makes_149 (by decide) ?_
  refine go_dup2 (pc := 150) dX10_makes_150 rfl rfl ?_
  refine gb_iald (pc := 151) (gz_b (by decide)) yw1 (gv_in (by decide)) dX10_makes_151 (fun v4 ev4 => ?_)
  have h := h v4 ev4
  refine go_iconst (pc := 152) (v := 1) dX10_makes_152 (by decide) ?_
  refine go_iadd (pc := 153) dX10_makes_153 ?_
  refine gb_iast (pc := 154) (F := wM G o) (gz_b (by decide)) yw1 (gv_in (by decide)) ya1 dX10_makes_154 (fun c5 ec5 => ?_)
  have h := h c5 ec5
  refine go_aload_n (pc := 155) dX10_makes_155 rfl rfl ?_
  refine go_iload (pc := 156) dX10_makes_156 rfl ?_
  refine go_iconst (pc := 158) (v := 0) dX10_makes_158 (by decide) ?_
  refine go_iconst (pc := 159) (v := 1) dX10_makes_159 (by decide) ?_
  refine gq_callV_v (pc := 160) (F := wM G o) vX10_82 rfl (tX10_lets h) rfl rfl (gz_b (by decide)) yw0 rfl (Nat.le_of_ble_eq_true rfl) ⟨Nat.le_of_ble_eq_true rfl, Nat.le_of_ble_eq_true rfl, Nat.le_add_right _ _, Nat.le_add_right _ _⟩ dX10_makes_160 (fun c6 h => ?_)
  refine go_aload_n (pc := 163) dX10_makes_163 rfl rfl ?_
  refine go_iload (pc := 164) dX10_makes_164 rfl ?_
  refine go_iconst (pc := 166) (v := 1) dX10_makes_166 (by decide) ?_
  refine go_iload_n (pc := 167) dX10_makes_167 rfl rfl ?_
  refine gq_callV_v (pc := 168) (F := wM G o) vX10_82 rfl (tX10_lets h) rfl rfl (gz_b (by decide)) yw0 rfl (Nat.le_of_ble_eq_true rfl) ⟨Nat.le_of_ble_eq_true rfl, Nat.le_of_ble_eq_true rfl, Nat.le_add_right _ _, Nat.le_add_right _ _⟩ dX10_makes_168 (fun c7 h => ?_)
  refine go_aload_n (pc := 171) dX10_makes_171 rfl rfl ?_
  refine go_iload (pc := 172) dX10_makes_172 rfl ?_
  refine go_iconst (pc := 174) (v := 2) dX10_makes_174 (by decide) ?_
  refine go_aload_n (pc := 175) dX10_makes_175 rfl rfl ?_
  refine go_get (pc := 176) fX10_9 rfl (gz_b (by decide)) yw0 rfl dX10_makes_176 ?_
  refine go_bipush (pc := 179) (v := 16) dX10_makes_179 (by decide) ?_
  refine gb_iald (pc := 181) (gz_b (by decide)) yw1 (gv_in (by decide)) dX10_makes_181 (fun v8 ev8 => ?_)
  have h := h v8 ev8
  refine gq_callV_v (pc := 182) (F := wM G o) vX10_82 rfl (tX10_lets h) rfl rfl (gz_b (by decide)) yw0 rfl (Nat.le_of_ble_eq_true rfl) ⟨Nat.le_of_ble_eq_true rfl, Nat.le_of_ble_eq_true rfl, Nat.le_add_right _ _, Nat.le_add_right _ _⟩ dX10_makes_182 (fun c9 h => ?_)
  refine go_aload_n (pc := 185) dX10_makes_185 rfl rfl ?_
  refine go_iload (pc := 186) dX10_makes_186 rfl ?_
  refine go_iconst (pc := 188) (v := 3) dX10_makes_188 (by decide) ?_
  refine go_iload_n (pc := 189) dX10_makes_189 rfl rfl ?_
  refine gq_callV_v (pc := 190) (F := wM G o) vX10_82 rfl (tX10_lets h) rfl rfl (gz_b (by decide)) yw0 rfl (Nat.le_of_ble_eq_true rfl) ⟨Nat.le_of_ble_eq_true rfl, Nat.le_of_ble_eq_true rfl, Nat.le_add_right _ _, Nat.le_add_right _ _⟩ dX10_makes_190 (fun c10 h => ?_)
  refine go_aload_n (pc := 193) dX10_makes_193 rfl rfl ?_
  refine go_iload (pc := 194) dX10_makes_194 rfl ?_
  refine go_iconst (pc := 196) (v := 4) dX10_makes_196 (by decide) ?_
  refine go_iconst (pc := 197) (v := 0) dX10_makes_197 (by decide) ?_
  refine gq_callV_v (pc := 198) (F := wM G o) vX10_82 rfl (tX10_lets h) rfl rfl (gz_b (by decide)) yw0 rfl (Nat.le_of_ble_eq_true rfl) ⟨Nat.le_of_ble_eq_true rfl, Nat.le_of_ble_eq_true rfl, Nat.le_add_right _ _, Nat.le_add_right _ _⟩ dX10_makes_198 (fun c11 h => ?_)
  refine go_aload_n (pc := 201) dX10_makes_201 rfl rfl ?_
  refine go_iload (pc := 202) dX10_makes_202 rfl ?_
  refine go_iconst (pc := 204) (v := 5) dX10_makes_204 (by decide) ?_
  refine go_iconst (pc := 205) (v := 0) dX10_makes_205 (by decide) ?_
  refine gq_callV_v (pc := 206) (F := wM G o) vX10_82 rfl (tX10_lets h) rfl rfl (gz_b (by decide)) yw0 rfl (Nat.le_of_ble_eq_true rfl) ⟨Nat.le_of_ble_eq_true rfl, Nat.le_of_ble_eq_true rfl, Nat.le_add_right _ _, Nat.le_add_right _ _⟩ dX10_makes_206 (fun c12 h => ?_)
  refine go_aload_n (pc := 209) dX10_makes_209 rfl rfl ?_
  refine go_get (pc := 210) fX10_9 rfl (gz_b (by decide)) yw0 rfl dX10_makes_210 ?_
  refine go_sipush (pc := 213) (v := 6100) dX10_makes_213 (by decide) ?_
  refine go_aload_n (pc := 216) dX10_makes_216 rfl rfl ?_
  refine go_get (pc := 217) fX10_9 rfl (gz_b (by decide)) yw0 rfl dX10_makes_217 ?_
  refine go_bipush (pc := 220) (v := 16) dX10_makes_220 (by decide) ?_
  refine gb_iald (pc := 222) (gz_b (by decide)) yw1 (gv_in (by decide)) dX10_makes_222 (fun v13 ev13 => ?_)
  have h := h v13 ev13
  refine go_iadd (pc := 223) dX10_makes_223 ?_
  refine go_bipush (pc := 224) (v := 8) dX10_makes_224 (by decide) ?_
  refine go_iload (pc := 226) dX10_makes_226 rfl ?_
  refine go_imul (pc := 228) dX10_makes_228 ?_
  refine go_iload_n (pc := 229) dX10_makes_229 rfl rfl ?_
  refine go_iadd (pc := 230) dX10_makes_230 ?_
  obtain ⟨b15, h⟩ := h
  refine gb_iast (pc := 231) (F := wM G o) (gz_b (by decide)) yw1 b15 ya1 dX10_makes_231 (fun c14 ec14 => ?_)
  have h := h c14 ec14
  refine go_iload_n (pc := 232) dX10_makes_232 rfl rfl ?_
  refine gq_callS_i (pc := 233) (F := wM G o) sX10_138 rfl (tX10_hasMany h) rfl rfl (Nat.le_of_ble_eq_true rfl) ⟨Nat.le_of_ble_eq_true rfl, Nat.le_of_ble_eq_true rfl, Nat.le_add_right _ _, Nat.le_add_right _ _⟩ dX10_makes_233 (fun r17 c16 h => ?_)
  refine go_if_eq (pc := 236) (tgt := 258) dX10_makes_236 (by decide) (fun q18 => ?_) (fun q18 => ?_)
  · have h := h.1 q18
    refine go_lv [1, 2, 4, 0] rfl ?_
    exact tX10_makes_p258 h
  · have h := h.2 q18
    refine go_aload_n (pc := 239) dX10_makes_239 rfl rfl ?_
    refine go_get (pc := 240) fX10_9 rfl (gz_b (by decide)) yw0 rfl dX10_makes_240 ?_
    refine go_sipush (pc := 243) (v := 6100) dX10_makes_243 (by decide) ?_
    refine go_aload_n (pc := 246) dX10_makes_246 rfl rfl ?_
    refine go_get (pc := 247) fX10_9 rfl (gz_b (by decide)) yw0 rfl dX10_makes_247 ?_
    refine go_bipush (pc := 250) (v := 16) dX10_makes_250 (by decide) ?_
    refine gb_iald (pc := 252) (gz_b (by decide)) yw1 (gv_in (by decide)) dX10_makes_252 (fun v19 ev19 => ?_)
    have h := h v19 ev19
    refine go_iadd (pc := 253) dX10_makes_253 ?_
    refine go_iconst (pc := 254) (v := 1) dX10_makes_254 (by decide) ?_
    refine go_iadd (pc := 255) dX10_makes_255 ?_
    refine go_iload_n (pc := 256) dX10_makes_256 rfl rfl ?_
    obtain ⟨b21, h⟩ := h
    refine gb_iast (pc := 257) (F := wM G o) (gz_b (by decide)) yw1 b21 ya1 dX10_makes_257 (fun c20 ec20 => ?_)
    have h := h c20 ec20
    refine go_lv [1, 2, 4, 0] rfl ?_
    exact tX10_makes_p258 h
def wX10_makes_p103 (l1 : Int32) (l3 : Int32) (l4 : Int32) (c : gMem) (Q : Int32 → gMem → Prop) : Prop :=
  ∀ v1, v1 = c 1 0 →
  ∀ v2, v2 = c 1 16 →
  ((l4 ≤ v1 - v2 →
    wX10_makes_p127 l1 l3 l4 c Q) ∧
   (¬ l4 ≤ v1 - v2 →
    wX10_wholeCycle c (fun r5 c4 =>
    wX10_makes_p127 l1 l3 l4 c4 Q)))
set_option maxRecDepth 100000 in
set_option maxHeartbeats 4000000 in
theorem tX10_makes_p103 {l : Launch} {G : gG} {k : Nat} {o : gMem} {Q : Int32 → gMem → Prop} {l1 : Int32} {l3 : Int32} {l4 : Int32} {c : gMem} (h : wX10_makes_p103 l1 l3 l4 c Q) : Go l G mX10_makes (gbq G 6 135 84 k (qi (wM G o) Q)) 103 [(0, .ref (G.2.1 + 74)), (1, .int l1), (3, .int l3), (4, .int l4)] [] 84 k (wM G o c) := by
  unfold wX10_makes_p103 at h
  refine go_iload (pc := 103) dX10_makes_103 rfl ?_
  refine go_aload_n (pc := 105) dX10_makes_105 rfl rfl ?_
  refine go_get (pc := 106) fX10_9 rfl (gz_b (by decide)) yw0 rfl dX10_makes_106 ?_
  refine go_iconst (pc := 109) (v := 0) dX10_makes_109 (by decide) ?_
  refine gb_iald (pc := 110) (gz_b (by decide)) yw1 (gv_in (by decide)) dX10_makes_110 (fun v1 ev1 => ?_)
  have h := h v1 ev1
  refine go_aload_n (pc := 111) dX10_makes_111 rfl rfl ?_
  refine go_get (pc := 112) fX10_9 rfl (gz_b (by decide)) yw0 rfl dX10_makes_112 ?_
  refine go_bipush (pc := 115) (v := 16) dX10_makes_115 (by decide) ?_
  refine gb_iald (pc := 117) (gz_b (by decide)) yw1 (gv_in (by decide)) dX10_makes_117 (fun v2 ev2 => ?_)
  have h := h v2 ev2
  refine go_isub (pc := 118) dX10_makes_118 ?_
  refine go_icmp_le (pc := 119) (tgt := 127) dX10_makes_119 (by decide) (fun q3 => ?_) (fun q3 => ?_)
  · have h := h.1 q3
    refine go_lv [0, 1, 2, 3] rfl ?_
    exact tX10_makes_p127 h
  · have h := h.2 q3
    refine go_aload_n (pc := 122) dX10_makes_122 rfl rfl ?_
    refine gq_callV_i (pc := 123) (F := wM G o) vX10_147 rfl (tX10_wholeCycle h) rfl rfl (gz_b (by decide)) yw0 rfl (Nat.le_of_ble_eq_true rfl) ⟨Nat.le_of_ble_eq_true rfl, Nat.le_of_ble_eq_true rfl, Nat.le_add_right _ _, Nat.le_add_right _ _⟩ dX10_makes_123 (fun r5 c4 h => ?_)
    refine go_pop (pc := 126) dX10_makes_126 rfl ?_
    refine go_lv [0, 1, 2, 3] rfl ?_
    exact tX10_makes_p127 h
def wX10_makes_p12 (l1 : Int32) (s0 : Int32) (c : gMem) (Q : Int32 → gMem → Prop) : Prop :=
  ((0 ≤ s0 →
    ∀ v2, v2 = c 1 1 →
    ((v2 = 500 →
      wX10_fails 6 c (fun r20 c19 =>
      Q r20 c19)) ∧
     (¬ v2 = 500 →
      wX10_sizeOf l1 s0 c (fun r5 c4 =>
      ∀ v6, v6 = c4 1 0 →
      ∀ v7, v7 = c4 1 16 →
      ((r5 ≤ v6 - v7 →
        wX10_makes_p127 l1 s0 r5 c4 Q) ∧
       (¬ r5 ≤ v6 - v7 →
        wX10_reached c4 (fun r10 c9 =>
        ∀ v11, v11 = c9 1 0 →
        ((r10 + r5 ≤ v11 →
          ∀ v13, v13 = c9 1 3 →
          ((v13 = 1 →
            wX10_wholeCycle c9 (fun r16 c15 =>
            wX10_makes_p103 l1 s0 r5 c15 Q)) ∧
           (¬ v13 = 1 →
            wX10_makes_p103 l1 s0 r5 c9 Q))) ∧
         (¬ r10 + r5 ≤ v11 →
          wX10_fails 6 c9 (fun r18 c17 =>
          Q r18 c17)))))))))) ∧
   (¬ 0 ≤ s0 →
    wX10_fails 4 c (fun r22 c21 =>
    Q r22 c21)))
set_option maxRecDepth 100000 in
set_option maxHeartbeats 4000000 in
theorem tX10_makes_p12 {l : Launch} {G : gG} {k : Nat} {o : gMem} {Q : Int32 → gMem → Prop} {l1 : Int32} {s0 : Int32} {c : gMem} (h : wX10_makes_p12 l1 s0 c Q) : Go l G mX10_makes (gbq G 6 135 84 k (qi (wM G o) Q)) 12 [(0, .ref (G.2.1 + 74)), (1, .int l1)] [.int s0] 84 k (wM G o c) := by
  unfold wX10_makes_p12 at h
  refine go_istore_n (pc := 12) (lv' := [(3, .int s0), (0, .ref (G.2.1 + 74)), (1, .int l1)]) dX10_makes_12 rfl (by decide) rfl ?_
  refine go_iload_n (pc := 13) dX10_makes_13 rfl rfl ?_
  refine go_if_ge (pc := 14) (tgt := 22) dX10_makes_14 (by decide) (fun q1 => ?_) (fun q1 => ?_)
  · have h := h.1 q1
    refine go_aload_n (pc := 22) dX10_makes_22 rfl rfl ?_
    refine go_get (pc := 23) fX10_9 rfl (gz_b (by decide)) yw0 rfl dX10_makes_23 ?_
    refine go_iconst (pc := 26) (v := 1) dX10_makes_26 (by decide) ?_
    refine gb_iald (pc := 27) (gz_b (by decide)) yw1 (gv_in (by decide)) dX10_makes_27 (fun v2 ev2 => ?_)
    have h := h v2 ev2
    refine go_sipush (pc := 28) (v := 500) dX10_makes_28 (by decide) ?_
    refine go_icmp_ne (pc := 31) (tgt := 40) dX10_makes_31 (by decide) (fun q3 => ?_) (fun q3 => ?_)
    · have h := h.2 q3
      refine go_iload_n (pc := 40) dX10_makes_40 rfl rfl ?_
      refine go_iload_n (pc := 41) dX10_makes_41 rfl rfl ?_
      refine gq_callS_i (pc := 42) (F := wM G o) sX10_75 rfl (tX10_sizeOf h) rfl rfl (Nat.le_of_ble_eq_true rfl) ⟨Nat.le_of_ble_eq_true rfl, Nat.le_of_ble_eq_true rfl, Nat.le_add_right _ _, Nat.le_add_right _ _⟩ dX10_makes_42 (fun r5 c4 h => ?_)
      refine go_istore (pc := 45) (lv' := [(4, .int r5), (3, .int s0), (0, .ref (G.2.1 + 74)), (1, .int l1)]) dX10_makes_45 (by decide) rfl ?_
      refine go_iload (pc := 47) dX10_makes_47 rfl ?_
      refine go_aload_n (pc := 49) dX10_makes_49 rfl rfl ?_
      refine go_get (pc := 50) fX10_9 rfl (gz_b (by decide)) yw0 rfl dX10_makes_50 ?_
      refine go_iconst (pc := 53) (v := 0) dX10_makes_53 (by decide) ?_
      refine gb_iald (pc := 54) (gz_b (by decide)) yw1 (gv_in (by decide)) dX10_makes_54 (fun v6 ev6 => ?_)
      have h := h v6 ev6
      refine go_aload_n (pc := 55) dX10_makes_55 rfl rfl ?_
      refine go_get (pc := 56) fX10_9 rfl (gz_b (by decide)) yw0 rfl dX10_makes_56 ?_
      refine go_bipush (pc := 59) (v := 16) dX10_makes_59 (by decide) ?_
      refine gb_iald (pc := 61) (gz_b (by decide)) yw1 (gv_in (by decide)) dX10_makes_61 (fun v7 ev7 => ?_)
      have h := h v7 ev7
      refine go_isub (pc := 62) dX10_makes_62 ?_
      refine go_icmp_le (pc := 63) (tgt := 127) dX10_makes_63 (by decide) (fun q8 => ?_) (fun q8 => ?_)
      · have h := h.1 q8
        refine go_lv [2, 3, 1, 0] rfl ?_
        exact tX10_makes_p127 h
      · have h := h.2 q8
        refine go_aload_n (pc := 66) dX10_makes_66 rfl rfl ?_
        refine gq_callV_i (pc := 67) (F := wM G o) vX10_144 rfl (tX10_reached h) rfl rfl (gz_b (by decide)) yw0 rfl (Nat.le_of_ble_eq_true rfl) ⟨Nat.le_of_ble_eq_true rfl, Nat.le_of_ble_eq_true rfl, Nat.le_add_right _ _, Nat.le_add_right _ _⟩ dX10_makes_67 (fun r10 c9 h => ?_)
        refine go_iload (pc := 70) dX10_makes_70 rfl ?_
        refine go_iadd (pc := 72) dX10_makes_72 ?_
        refine go_aload_n (pc := 73) dX10_makes_73 rfl rfl ?_
        refine go_get (pc := 74) fX10_9 rfl (gz_b (by decide)) yw0 rfl dX10_makes_74 ?_
        refine go_iconst (pc := 77) (v := 0) dX10_makes_77 (by decide) ?_
        refine gb_iald (pc := 78) (gz_b (by decide)) yw1 (gv_in (by decide)) dX10_makes_78 (fun v11 ev11 => ?_)
        have h := h v11 ev11
        refine go_icmp_le (pc := 79) (tgt := 88) dX10_makes_79 (by decide) (fun q12 => ?_) (fun q12 => ?_)
        · have h := h.1 q12
          refine go_aload_n (pc := 88) dX10_makes_88 rfl rfl ?_
          refine go_get (pc := 89) fX10_9 rfl (gz_b (by decide)) yw0 rfl dX10_makes_89 ?_
          refine go_iconst (pc := 92) (v := 3) dX10_makes_92 (by decide) ?_
          refine gb_iald (pc := 93) (gz_b (by decide)) yw1 (gv_in (by decide)) dX10_makes_93 (fun v13 ev13 => ?_)
          have h := h v13 ev13
          refine go_iconst (pc := 94) (v := 1) dX10_makes_94 (by decide) ?_
          refine go_icmp_ne (pc := 95) (tgt := 103) dX10_makes_95 (by decide) (fun q14 => ?_) (fun q14 => ?_)
          · have h := h.2 q14
            refine go_lv [2, 3, 1, 0] rfl ?_
            exact tX10_makes_p103 h
          · have h := h.1 q14
            refine go_aload_n (pc := 98) dX10_makes_98 rfl rfl ?_
            refine gq_callV_i (pc := 99) (F := wM G o) vX10_147 rfl (tX10_wholeCycle h) rfl rfl (gz_b (by decide)) yw0 rfl (Nat.le_of_ble_eq_true rfl) ⟨Nat.le_of_ble_eq_true rfl, Nat.le_of_ble_eq_true rfl, Nat.le_add_right _ _, Nat.le_add_right _ _⟩ dX10_makes_99 (fun r16 c15 h => ?_)
            refine go_pop (pc := 102) dX10_makes_102 rfl ?_
            refine go_lv [2, 3, 1, 0] rfl ?_
            exact tX10_makes_p103 h
        · have h := h.2 q12
          refine go_bipush (pc := 82) (v := 6) dX10_makes_82 (by decide) ?_
          refine gq_callS_i (pc := 84) (F := wM G o) sX10_141 rfl (tX10_fails h) rfl rfl (Nat.le_of_ble_eq_true rfl) ⟨Nat.le_of_ble_eq_true rfl, Nat.le_of_ble_eq_true rfl, Nat.le_add_right _ _, Nat.le_add_right _ _⟩ dX10_makes_84 (fun r18 c17 h => ?_)
          exact gq_iret (pc := 87) (F := wM G o) rfl dX10_makes_87 h
    · have h := h.1 q3
      refine go_bipush (pc := 34) (v := 6) dX10_makes_34 (by decide) ?_
      refine gq_callS_i (pc := 36) (F := wM G o) sX10_141 rfl (tX10_fails h) rfl rfl (Nat.le_of_ble_eq_true rfl) ⟨Nat.le_of_ble_eq_true rfl, Nat.le_of_ble_eq_true rfl, Nat.le_add_right _ _, Nat.le_add_right _ _⟩ dX10_makes_36 (fun r20 c19 h => ?_)
      exact gq_iret (pc := 39) (F := wM G o) rfl dX10_makes_39 h
  · have h := h.2 q1
    refine go_iconst (pc := 17) (v := 4) dX10_makes_17 (by decide) ?_
    refine gq_callS_i (pc := 18) (F := wM G o) sX10_141 rfl (tX10_fails h) rfl rfl (Nat.le_of_ble_eq_true rfl) ⟨Nat.le_of_ble_eq_true rfl, Nat.le_of_ble_eq_true rfl, Nat.le_add_right _ _, Nat.le_add_right _ _⟩ dX10_makes_18 (fun r22 c21 h => ?_)
    exact gq_iret (pc := 21) (F := wM G o) rfl dX10_makes_21 h
def wX10_makes (l1 : Int32) (l2 : Int32) (c : gMem) (Q : Int32 → gMem → Prop) : Prop :=
  wX10_hasMany l1 c (fun r2 c1 =>
  ((r2 = 0 →
    wX10_makes_p12 l1 0 c1 Q) ∧
   (¬ r2 = 0 →
    wX10_makes_p12 l1 l2 c1 Q)))
set_option maxRecDepth 100000 in
set_option maxHeartbeats 4000000 in
theorem tX10_makes {l : Launch} {G : gG} {k : Nat} {o : gMem} {Q : Int32 → gMem → Prop} {l1 : Int32} {l2 : Int32} {c : gMem} (h : wX10_makes l1 l2 c Q) : Cq l G mX10_makes 6 135 [.ref (G.2.1 + 74), .int l1, .int l2] 84 k (wM G o c) (qi (wM G o) Q) := by
  refine Cq.of (by decide) (Nat.le_of_ble_eq_true rfl) ?_
  show Go l G mX10_makes (gbq G 6 135 84 k (qi (wM G o) Q)) 0 [(0, .ref (G.2.1 + 74)), (1, .int l1), (2, .int l2)] [] 84 k (wM G o c)
  unfold wX10_makes at h
  refine go_iload_n (pc := 0) dX10_makes_0 rfl rfl ?_
  refine gq_callS_i (pc := 1) (F := wM G o) sX10_138 rfl (tX10_hasMany h) rfl rfl (Nat.le_of_ble_eq_true rfl) ⟨Nat.le_of_ble_eq_true rfl, Nat.le_of_ble_eq_true rfl, Nat.le_add_right _ _, Nat.le_add_right _ _⟩ dX10_makes_1 (fun r2 c1 h => ?_)
  refine go_if_eq (pc := 4) (tgt := 11) dX10_makes_4 (by decide) (fun q3 => ?_) (fun q3 => ?_)
  · have h := h.1 q3
    refine go_iconst (pc := 11) (v := 0) dX10_makes_11 (by decide) ?_
    refine go_lv [0, 1] rfl ?_
    exact tX10_makes_p12 h
  · have h := h.2 q3
    refine go_iload_n (pc := 7) dX10_makes_7 rfl rfl ?_
    refine go_goto (pc := 8) (tgt := 12) dX10_makes_8 (by decide) ?_
    refine go_lv [0, 1] rfl ?_
    exact tX10_makes_p12 h
def wX10_answers_p23 (l1 : Int32) (s0 : Int32) (c : gMem) (Q : Int32 → gMem → Prop) : Prop :=
  ∀ c1, c1 = mp c 0 5 s0 →
  Q l1 c1
set_option maxRecDepth 100000 in
set_option maxHeartbeats 4000000 in
theorem tX10_answers_p23 {l : Launch} {G : gG} {k : Nat} {o : gMem} {Q : Int32 → gMem → Prop} {l1 : Int32} {s0 : Int32} {c : gMem} (h : wX10_answers_p23 l1 s0 c Q) : Go l G mX10_answers (gbq G 1 25 84 k (qi (wM G o) Q)) 23 [(1, .int l1)] [.int s0, .ref (G.2.1 + 74)] 84 k (wM G o c) := by
  unfold wX10_answers_p23 at h
  refine gb_put (pc := 23) (F := wM G o) fX10_49 rfl (gz_b (by decide)) yw0 (Nat.le_of_ble_eq_true rfl) rfl rfl yp0_5 dX10_answers_23 (fun c1 ec1 => ?_)
  have h := h c1 ec1
  refine go_iload_n (pc := 26) dX10_answers_26 rfl rfl ?_
  exact gq_iret (pc := 27) (F := wM G o) rfl dX10_answers_27 h
def wX10_answers (l1 : Int32) (c : gMem) (Q : Int32 → gMem → Prop) : Prop :=
  wX10_in l1.toInt64 ((-18)) ((-11)) c (fun r2 c1 =>
  ((r2 = 0 →
    wX10_answers_p23 l1 0 c1 Q) ∧
   (¬ r2 = 0 →
    wX10_answers_p23 l1 (((-10)) - l1) c1 Q)))
set_option maxRecDepth 100000 in
set_option maxHeartbeats 4000000 in
theorem tX10_answers {l : Launch} {G : gG} {k : Nat} {o : gMem} {Q : Int32 → gMem → Prop} {l1 : Int32} {c : gMem} (h : wX10_answers l1 c Q) : Cq l G mX10_answers 1 25 [.ref (G.2.1 + 74), .int l1] 84 k (wM G o c) (qi (wM G o) Q) := by
  refine Cq.of (by decide) (Nat.le_of_ble_eq_true rfl) ?_
  show Go l G mX10_answers (gbq G 1 25 84 k (qi (wM G o) Q)) 0 [(0, .ref (G.2.1 + 74)), (1, .int l1)] [] 84 k (wM G o c)
  unfold wX10_answers at h
  refine go_aload_n (pc := 0) dX10_answers_0 rfl rfl ?_
  refine go_iload_n (pc := 1) dX10_answers_1 rfl rfl ?_
  refine go_i2l (pc := 2) dX10_answers_2 ?_
  refine go_ldc2 (pc := 3) rfl qX10_78 dX10_answers_3 ?_
  refine go_ldc2 (pc := 6) rfl qX10_80 dX10_answers_6 ?_
  refine gq_callS_i (pc := 9) (F := wM G o) sX10_63 rfl (tX10_in h) rfl rfl (Nat.le_of_ble_eq_true rfl) ⟨Nat.le_of_ble_eq_true rfl, Nat.le_of_ble_eq_true rfl, Nat.le_add_right _ _, Nat.le_add_right _ _⟩ dX10_answers_9 (fun r2 c1 h => ?_)
  refine go_if_eq (pc := 12) (tgt := 22) dX10_answers_12 (by decide) (fun q3 => ?_) (fun q3 => ?_)
  · have h := h.1 q3
    refine go_iconst (pc := 22) (v := 0) dX10_answers_22 (by decide) ?_
    refine go_lv [1] rfl ?_
    exact tX10_answers_p23 h
  · have h := h.2 q3
    refine go_bipush (pc := 15) (v := (-10)) dX10_answers_15 (by decide) ?_
    refine go_iload_n (pc := 17) dX10_answers_17 rfl rfl ?_
    refine go_isub (pc := 18) dX10_answers_18 ?_
    refine go_goto (pc := 19) (tgt := 23) dX10_answers_19 (by decide) ?_
    refine go_lv [1] rfl ?_
    exact tX10_answers_p23 h
def wX10_make_p29 (l1 : Int32) (l2 : Int32) (c : gMem) (Q : Int32 → gMem → Prop) : Prop :=
  wX10_makes l1 l2 c (fun r2 c1 =>
  wX10_answers r2 c1 (fun r4 c3 =>
  Q r4 c3))
set_option maxRecDepth 100000 in
set_option maxHeartbeats 4000000 in
theorem tX10_make_p29 {l : Launch} {G : gG} {k : Nat} {o : gMem} {Q : Int32 → gMem → Prop} {l1 : Int32} {l2 : Int32} {c : gMem} (h : wX10_make_p29 l1 l2 c Q) : Go l G mX10_make (gbq G 7 162 84 k (qi (wM G o) Q)) 29 [(0, .ref (G.2.1 + 74)), (1, .int l1), (2, .int l2)] [] 84 k (wM G o c) := by
  unfold wX10_make_p29 at h
  refine go_aload_n (pc := 29) dX10_make_29 rfl rfl ?_
  refine go_aload_n (pc := 30) dX10_make_30 rfl rfl ?_
  refine go_iload_n (pc := 31) dX10_make_31 rfl rfl ?_
  refine go_iload_n (pc := 32) dX10_make_32 rfl rfl ?_
  refine gq_callV_i (pc := 33) (F := wM G o) vX10_152 rfl (tX10_makes h) rfl rfl (gz_b (by decide)) yw0 rfl (Nat.le_of_ble_eq_true rfl) ⟨Nat.le_of_ble_eq_true rfl, Nat.le_of_ble_eq_true rfl, Nat.le_add_right _ _, Nat.le_add_right _ _⟩ dX10_make_33 (fun r2 c1 h => ?_)
  refine gq_callV_i (pc := 36) (F := wM G o) vX10_155 rfl (tX10_answers h) rfl rfl (gz_b (by decide)) yw0 rfl (Nat.le_of_ble_eq_true rfl) ⟨Nat.le_of_ble_eq_true rfl, Nat.le_of_ble_eq_true rfl, Nat.le_add_right _ _, Nat.le_add_right _ _⟩ dX10_make_36 (fun r4 c3 h => ?_)
  exact gq_iret (pc := 39) (F := wM G o) rfl dX10_make_39 h
def wX10_make (l1 : Int32) (l2 : Int32) (c : gMem) (Q : Int32 → gMem → Prop) : Prop :=
  wX10_in l1.toInt64 0 5 c (fun r2 c1 =>
  ((r2 = 0 →
    Q ((-102)) c1) ∧
   (¬ r2 = 0 →
    wX10_hasMany l1 c1 (fun r5 c4 =>
    ((r5 = 0 →
      wX10_make_p29 l1 l2 c4 Q) ∧
     (¬ r5 = 0 →
      ((l2 ≤ 300 →
        wX10_make_p29 l1 l2 c4 Q) ∧
       (¬ l2 ≤ 300 →
        Q ((-102)) c4))))))))
set_option maxRecDepth 100000 in
set_option maxHeartbeats 4000000 in
theorem tX10_make {l : Launch} {G : gG} {k : Nat} {o : gMem} {Q : Int32 → gMem → Prop} {l1 : Int32} {l2 : Int32} {c : gMem} (h : wX10_make l1 l2 c Q) : Cq l G mX10_make 7 162 [.ref (G.2.1 + 74), .int l1, .int l2] 84 k (wM G o c) (qi (wM G o) Q) := by
  refine Cq.of (by decide) (Nat.le_of_ble_eq_true rfl) ?_
  show Go l G mX10_make (gbq G 7 162 84 k (qi (wM G o) Q)) 0 [(0, .ref (G.2.1 + 74)), (1, .int l1), (2, .int l2)] [] 84 k (wM G o c)
  unfold wX10_make at h
  refine go_iload_n (pc := 0) dX10_make_0 rfl rfl ?_
  refine go_i2l (pc := 1) dX10_make_1 ?_
  refine go_lconst (pc := 2) (v := 0) dX10_make_2 (by decide) ?_
  refine go_ldc2 (pc := 3) rfl qX10_150 dX10_make_3 ?_
  refine gq_callS_i (pc := 6) (F := wM G o) sX10_63 rfl (tX10_in h) rfl rfl (Nat.le_of_ble_eq_true rfl) ⟨Nat.le_of_ble_eq_true rfl, Nat.le_of_ble_eq_true rfl, Nat.le_add_right _ _, Nat.le_add_right _ _⟩ dX10_make_6 (fun r2 c1 h => ?_)
  refine go_if_eq (pc := 9) (tgt := 26) dX10_make_9 (by decide) (fun q3 => ?_) (fun q3 => ?_)
  · have h := h.1 q3
    refine go_bipush (pc := 26) (v := (-102)) dX10_make_26 (by decide) ?_
    exact gq_iret (pc := 28) (F := wM G o) rfl dX10_make_28 h
  · have h := h.2 q3
    refine go_iload_n (pc := 12) dX10_make_12 rfl rfl ?_
    refine gq_callS_i (pc := 13) (F := wM G o) sX10_138 rfl (tX10_hasMany h) rfl rfl (Nat.le_of_ble_eq_true rfl) ⟨Nat.le_of_ble_eq_true rfl, Nat.le_of_ble_eq_true rfl, Nat.le_add_right _ _, Nat.le_add_right _ _⟩ dX10_make_13 (fun r5 c4 h => ?_)
    refine go_if_eq (pc := 16) (tgt := 29) dX10_make_16 (by decide) (fun q6 => ?_) (fun q6 => ?_)
    · have h := h.1 q6
      refine go_lv [0, 1, 2] rfl ?_
      exact tX10_make_p29 h
    · have h := h.2 q6
      refine go_iload_n (pc := 19) dX10_make_19 rfl rfl ?_
      refine go_sipush (pc := 20) (v := 300) dX10_make_20 (by decide) ?_
      refine go_icmp_le (pc := 23) (tgt := 29) dX10_make_23 (by decide) (fun q7 => ?_) (fun q7 => ?_)
      · have h := h.1 q7
        refine go_lv [0, 1, 2] rfl ?_
        exact tX10_make_p29 h
      · have h := h.2 q7
        refine go_bipush (pc := 26) (v := (-102)) dX10_make_26 (by decide) ?_
        exact gq_iret (pc := 28) (F := wM G o) rfl dX10_make_28 h
def wX10_isMade (l1 : Int32) (c : gMem) (Q : Int32 → gMem → Prop) : Prop :=
  ∀ v1, v1 = c 1 1 →
  wX10_in l1.toInt64 0 ((v1 - 1).toInt64) c (fun r3 c2 =>
  (r3 = 0 ∨ r3 = 1) ∧ Q r3 c2)
set_option maxRecDepth 100000 in
set_option maxHeartbeats 4000000 in
theorem tX10_isMade {l : Launch} {G : gG} {k : Nat} {o : gMem} {Q : Int32 → gMem → Prop} {l1 : Int32} {c : gMem} (h : wX10_isMade l1 c Q) : Cq l G mX10_isMade 1 25 [.ref (G.2.1 + 74), .int l1] 84 k (wM G o c) (qi (wM G o) Q) := by
  refine Cq.of (by decide) (Nat.le_of_ble_eq_true rfl) ?_
  show Go l G mX10_isMade (gbq G 1 25 84 k (qi (wM G o) Q)) 0 [(0, .ref (G.2.1 + 74)), (1, .int l1)] [] 84 k (wM G o c)
  unfold wX10_isMade at h
  refine go_iload_n (pc := 0) dX10_isMade_0 rfl rfl ?_
  refine go_i2l (pc := 1) dX10_isMade_1 ?_
  refine go_lconst (pc := 2) (v := 0) dX10_isMade_2 (by decide) ?_
  refine go_aload_n (pc := 3) dX10_isMade_3 rfl rfl ?_
  refine go_get (pc := 4) fX10_9 rfl (gz_b (by decide)) yw0 rfl dX10_isMade_4 ?_
  refine go_iconst (pc := 7) (v := 1) dX10_isMade_7 (by decide) ?_
  refine gb_iald (pc := 8) (gz_b (by decide)) yw1 (gv_in (by decide)) dX10_isMade_8 (fun v1 ev1 => ?_)
  have h := h v1 ev1
  refine go_iconst (pc := 9) (v := 1) dX10_isMade_9 (by decide) ?_
  refine go_isub (pc := 10) dX10_isMade_10 ?_
  refine go_i2l (pc := 11) dX10_isMade_11 ?_
  refine gq_callS_i (pc := 12) (F := wM G o) sX10_63 rfl (tX10_in h) rfl rfl (Nat.le_of_ble_eq_true rfl) ⟨Nat.le_of_ble_eq_true rfl, Nat.le_of_ble_eq_true rfl, Nat.le_add_right _ _, Nat.le_add_right _ _⟩ dX10_isMade_12 (fun r3 c2 h => ?_)
  exact gq_zret (pc := 15) (F := wM G o) rfl h.1 dX10_isMade_15 h.2
def wX10_isGone_p14 (c : gMem) (Q : Int32 → gMem → Prop) : Prop :=
  Q 1 c
set_option maxRecDepth 100000 in
set_option maxHeartbeats 4000000 in
theorem tX10_isGone_p14 {l : Launch} {G : gG} {k : Nat} {o : gMem} {Q : Int32 → gMem → Prop} {c : gMem} (h : wX10_isGone_p14 c Q) : Go l G mX10_isGone (gbq G 1 22 84 k (qi (wM G o) Q)) 14 [] [] 84 k (wM G o c) := by
  unfold wX10_isGone_p14 at h
  refine go_iconst (pc := 14) (v := 1) dX10_isGone_14 (by decide) ?_
  refine go_goto (pc := 15) (tgt := 19) dX10_isGone_15 (by decide) ?_
  exact gq_zret (pc := 19) (F := wM G o) rfl (by decide) dX10_isGone_19 h
def wX10_isGone (l1 : Int32) (c : gMem) (Q : Int32 → gMem → Prop) : Prop :=
  ((l1 = (-1) →
    wX10_isGone_p14 c Q) ∧
   (¬ l1 = (-1) →
    wX10_of l1 0 c (fun r3 c2 =>
    ((r3 = 0 →
      wX10_isGone_p14 c2 Q) ∧
     (¬ r3 = 0 →
      Q 0 c2)))))
set_option maxRecDepth 100000 in
set_option maxHeartbeats 4000000 in
theorem tX10_isGone {l : Launch} {G : gG} {k : Nat} {o : gMem} {Q : Int32 → gMem → Prop} {l1 : Int32} {c : gMem} (h : wX10_isGone l1 c Q) : Cq l G mX10_isGone 1 22 [.ref (G.2.1 + 74), .int l1] 84 k (wM G o c) (qi (wM G o) Q) := by
  refine Cq.of (by decide) (Nat.le_of_ble_eq_true rfl) ?_
  show Go l G mX10_isGone (gbq G 1 22 84 k (qi (wM G o) Q)) 0 [(0, .ref (G.2.1 + 74)), (1, .int l1)] [] 84 k (wM G o c)
  unfold wX10_isGone at h
  refine go_iload_n (pc := 0) dX10_isGone_0 rfl rfl ?_
  refine go_iconst (pc := 1) (v := (-1)) dX10_isGone_1 (by decide) ?_
  refine go_icmp_eq (pc := 2) (tgt := 14) dX10_isGone_2 (by decide) (fun q1 => ?_) (fun q1 => ?_)
  · have h := h.1 q1
    refine go_lv [] rfl ?_
    exact tX10_isGone_p14 h
  · have h := h.2 q1
    refine go_aload_n (pc := 5) dX10_isGone_5 rfl rfl ?_
    refine go_iload_n (pc := 6) dX10_isGone_6 rfl rfl ?_
    refine go_iconst (pc := 7) (v := 0) dX10_isGone_7 (by decide) ?_
    refine gq_callV_i (pc := 8) (F := wM G o) vX10_71 rfl (tX10_of h) rfl rfl (gz_b (by decide)) yw0 rfl (Nat.le_of_ble_eq_true rfl) ⟨Nat.le_of_ble_eq_true rfl, Nat.le_of_ble_eq_true rfl, Nat.le_add_right _ _, Nat.le_add_right _ _⟩ dX10_isGone_8 (fun r3 c2 h => ?_)
    refine go_if_ne (pc := 11) (tgt := 18) dX10_isGone_11 (by decide) (fun q4 => ?_) (fun q4 => ?_)
    · have h := h.2 q4
      refine go_iconst (pc := 18) (v := 0) dX10_isGone_18 (by decide) ?_
      exact gq_zret (pc := 19) (F := wM G o) rfl (by decide) dX10_isGone_19 h
    · have h := h.1 q4
      refine go_lv [] rfl ?_
      exact tX10_isGone_p14 h
def wX10_kind_p35 (s0 : Int32) (c : gMem) (Q : Int32 → gMem → Prop) : Prop :=
  wX10_answers s0 c (fun r2 c1 =>
  Q r2 c1)
set_option maxRecDepth 100000 in
set_option maxHeartbeats 4000000 in
theorem tX10_kind_p35 {l : Launch} {G : gG} {k : Nat} {o : gMem} {Q : Int32 → gMem → Prop} {s0 : Int32} {c : gMem} (h : wX10_kind_p35 s0 c Q) : Go l G mX10_kind (gbq G 2 46 84 k (qi (wM G o) Q)) 35 [] [.int s0, .ref (G.2.1 + 74)] 84 k (wM G o c) := by
  unfold wX10_kind_p35 at h
  refine gq_callV_i (pc := 35) (F := wM G o) vX10_155 rfl (tX10_answers h) rfl rfl (gz_b (by decide)) yw0 rfl (Nat.le_of_ble_eq_true rfl) ⟨Nat.le_of_ble_eq_true rfl, Nat.le_of_ble_eq_true rfl, Nat.le_add_right _ _, Nat.le_add_right _ _⟩ dX10_kind_35 (fun r2 c1 h => ?_)
  exact gq_iret (pc := 38) (F := wM G o) rfl dX10_kind_38 h
def wX10_kind (l1 : Int32) (c : gMem) (Q : Int32 → gMem → Prop) : Prop :=
  wX10_isMade l1 c (fun r2 c1 =>
  ((r2 = 0 →
    Q ((-101)) c1) ∧
   (¬ r2 = 0 →
    wX10_isGone l1 c1 (fun r5 c4 =>
    ((r5 = 0 →
      wX10_of l1 1 c4 (fun r8 c7 =>
      wX10_kind_p35 r8 c7 Q)) ∧
     (¬ r5 = 0 →
      wX10_fails 1 c4 (fun r10 c9 =>
      wX10_kind_p35 r10 c9 Q)))))))
set_option maxRecDepth 100000 in
set_option maxHeartbeats 4000000 in
theorem tX10_kind {l : Launch} {G : gG} {k : Nat} {o : gMem} {Q : Int32 → gMem → Prop} {l1 : Int32} {c : gMem} (h : wX10_kind l1 c Q) : Cq l G mX10_kind 2 46 [.ref (G.2.1 + 74), .int l1] 84 k (wM G o c) (qi (wM G o) Q) := by
  refine Cq.of (by decide) (Nat.le_of_ble_eq_true rfl) ?_
  show Go l G mX10_kind (gbq G 2 46 84 k (qi (wM G o) Q)) 0 [(0, .ref (G.2.1 + 74)), (1, .int l1)] [] 84 k (wM G o c)
  unfold wX10_kind at h
  refine go_aload_n (pc := 0) dX10_kind_0 rfl rfl ?_
  refine go_iload_n (pc := 1) dX10_kind_1 rfl rfl ?_
  refine gq_callV_i (pc := 2) (F := wM G o) vX10_67 rfl (tX10_isMade h) rfl rfl (gz_b (by decide)) yw0 rfl (Nat.le_of_ble_eq_true rfl) ⟨Nat.le_of_ble_eq_true rfl, Nat.le_of_ble_eq_true rfl, Nat.le_add_right _ _, Nat.le_add_right _ _⟩ dX10_kind_2 (fun r2 c1 h => ?_)
  refine go_if_ne (pc := 5) (tgt := 13) dX10_kind_5 (by decide) (fun q3 => ?_) (fun q3 => ?_)
  · have h := h.2 q3
    refine go_aload_n (pc := 13) dX10_kind_13 rfl rfl ?_
    refine go_aload_n (pc := 14) dX10_kind_14 rfl rfl ?_
    refine go_iload_n (pc := 15) dX10_kind_15 rfl rfl ?_
    refine gq_callV_i (pc := 16) (F := wM G o) vX10_158 rfl (tX10_isGone h) rfl rfl (gz_b (by decide)) yw0 rfl (Nat.le_of_ble_eq_true rfl) ⟨Nat.le_of_ble_eq_true rfl, Nat.le_of_ble_eq_true rfl, Nat.le_add_right _ _, Nat.le_add_right _ _⟩ dX10_kind_16 (fun r5 c4 h => ?_)
    refine go_if_eq (pc := 19) (tgt := 29) dX10_kind_19 (by decide) (fun q6 => ?_) (fun q6 => ?_)
    · have h := h.1 q6
      refine go_aload_n (pc := 29) dX10_kind_29 rfl rfl ?_
      refine go_iload_n (pc := 30) dX10_kind_30 rfl rfl ?_
      refine go_iconst (pc := 31) (v := 1) dX10_kind_31 (by decide) ?_
      refine gq_callV_i (pc := 32) (F := wM G o) vX10_71 rfl (tX10_of h) rfl rfl (gz_b (by decide)) yw0 rfl (Nat.le_of_ble_eq_true rfl) ⟨Nat.le_of_ble_eq_true rfl, Nat.le_of_ble_eq_true rfl, Nat.le_add_right _ _, Nat.le_add_right _ _⟩ dX10_kind_32 (fun r8 c7 h => ?_)
      refine go_lv [] rfl ?_
      exact tX10_kind_p35 h
    · have h := h.2 q6
      refine go_iconst (pc := 22) (v := 1) dX10_kind_22 (by decide) ?_
      refine gq_callS_i (pc := 23) (F := wM G o) sX10_141 rfl (tX10_fails h) rfl rfl (Nat.le_of_ble_eq_true rfl) ⟨Nat.le_of_ble_eq_true rfl, Nat.le_of_ble_eq_true rfl, Nat.le_add_right _ _, Nat.le_add_right _ _⟩ dX10_kind_23 (fun r10 c9 h => ?_)
      refine go_goto (pc := 26) (tgt := 35) dX10_kind_26 (by decide) ?_
      refine go_lv [] rfl ?_
      exact tX10_kind_p35 h
  · have h := h.1 q3
    refine go_bipush (pc := 8) (v := (-101)) dX10_kind_8 (by decide) ?_
    refine go_goto (pc := 10) (tgt := 38) dX10_kind_10 (by decide) ?_
    exact gq_iret (pc := 38) (F := wM G o) rfl dX10_kind_38 h
def wX10_place_p35 (s0 : Int32) (c : gMem) (Q : Int32 → gMem → Prop) : Prop :=
  wX10_answers s0 c (fun r2 c1 =>
  Q r2 c1)
set_option maxRecDepth 100000 in
set_option maxHeartbeats 4000000 in
theorem tX10_place_p35 {l : Launch} {G : gG} {k : Nat} {o : gMem} {Q : Int32 → gMem → Prop} {s0 : Int32} {c : gMem} (h : wX10_place_p35 s0 c Q) : Go l G mX10_place (gbq G 2 46 84 k (qi (wM G o) Q)) 35 [] [.int s0, .ref (G.2.1 + 74)] 84 k (wM G o c) := by
  unfold wX10_place_p35 at h
  refine gq_callV_i (pc := 35) (F := wM G o) vX10_155 rfl (tX10_answers h) rfl rfl (gz_b (by decide)) yw0 rfl (Nat.le_of_ble_eq_true rfl) ⟨Nat.le_of_ble_eq_true rfl, Nat.le_of_ble_eq_true rfl, Nat.le_add_right _ _, Nat.le_add_right _ _⟩ dX10_place_35 (fun r2 c1 h => ?_)
  exact gq_iret (pc := 38) (F := wM G o) rfl dX10_place_38 h
def wX10_place (l1 : Int32) (c : gMem) (Q : Int32 → gMem → Prop) : Prop :=
  wX10_isMade l1 c (fun r2 c1 =>
  ((r2 = 0 →
    Q ((-101)) c1) ∧
   (¬ r2 = 0 →
    wX10_isGone l1 c1 (fun r5 c4 =>
    ((r5 = 0 →
      wX10_of l1 2 c4 (fun r8 c7 =>
      wX10_place_p35 r8 c7 Q)) ∧
     (¬ r5 = 0 →
      wX10_fails 1 c4 (fun r10 c9 =>
      wX10_place_p35 r10 c9 Q)))))))
set_option maxRecDepth 100000 in
set_option maxHeartbeats 4000000 in
theorem tX10_place {l : Launch} {G : gG} {k : Nat} {o : gMem} {Q : Int32 → gMem → Prop} {l1 : Int32} {c : gMem} (h : wX10_place l1 c Q) : Cq l G mX10_place 2 46 [.ref (G.2.1 + 74), .int l1] 84 k (wM G o c) (qi (wM G o) Q) := by
  refine Cq.of (by decide) (Nat.le_of_ble_eq_true rfl) ?_
  show Go l G mX10_place (gbq G 2 46 84 k (qi (wM G o) Q)) 0 [(0, .ref (G.2.1 + 74)), (1, .int l1)] [] 84 k (wM G o c)
  unfold wX10_place at h
  refine go_aload_n (pc := 0) dX10_place_0 rfl rfl ?_
  refine go_iload_n (pc := 1) dX10_place_1 rfl rfl ?_
  refine gq_callV_i (pc := 2) (F := wM G o) vX10_67 rfl (tX10_isMade h) rfl rfl (gz_b (by decide)) yw0 rfl (Nat.le_of_ble_eq_true rfl) ⟨Nat.le_of_ble_eq_true rfl, Nat.le_of_ble_eq_true rfl, Nat.le_add_right _ _, Nat.le_add_right _ _⟩ dX10_place_2 (fun r2 c1 h => ?_)
  refine go_if_ne (pc := 5) (tgt := 13) dX10_place_5 (by decide) (fun q3 => ?_) (fun q3 => ?_)
  · have h := h.2 q3
    refine go_aload_n (pc := 13) dX10_place_13 rfl rfl ?_
    refine go_aload_n (pc := 14) dX10_place_14 rfl rfl ?_
    refine go_iload_n (pc := 15) dX10_place_15 rfl rfl ?_
    refine gq_callV_i (pc := 16) (F := wM G o) vX10_158 rfl (tX10_isGone h) rfl rfl (gz_b (by decide)) yw0 rfl (Nat.le_of_ble_eq_true rfl) ⟨Nat.le_of_ble_eq_true rfl, Nat.le_of_ble_eq_true rfl, Nat.le_add_right _ _, Nat.le_add_right _ _⟩ dX10_place_16 (fun r5 c4 h => ?_)
    refine go_if_eq (pc := 19) (tgt := 29) dX10_place_19 (by decide) (fun q6 => ?_) (fun q6 => ?_)
    · have h := h.1 q6
      refine go_aload_n (pc := 29) dX10_place_29 rfl rfl ?_
      refine go_iload_n (pc := 30) dX10_place_30 rfl rfl ?_
      refine go_iconst (pc := 31) (v := 2) dX10_place_31 (by decide) ?_
      refine gq_callV_i (pc := 32) (F := wM G o) vX10_71 rfl (tX10_of h) rfl rfl (gz_b (by decide)) yw0 rfl (Nat.le_of_ble_eq_true rfl) ⟨Nat.le_of_ble_eq_true rfl, Nat.le_of_ble_eq_true rfl, Nat.le_add_right _ _, Nat.le_add_right _ _⟩ dX10_place_32 (fun r8 c7 h => ?_)
      refine go_lv [] rfl ?_
      exact tX10_place_p35 h
    · have h := h.2 q6
      refine go_iconst (pc := 22) (v := 1) dX10_place_22 (by decide) ?_
      refine gq_callS_i (pc := 23) (F := wM G o) sX10_141 rfl (tX10_fails h) rfl rfl (Nat.le_of_ble_eq_true rfl) ⟨Nat.le_of_ble_eq_true rfl, Nat.le_of_ble_eq_true rfl, Nat.le_add_right _ _, Nat.le_add_right _ _⟩ dX10_place_23 (fun r10 c9 h => ?_)
      refine go_goto (pc := 26) (tgt := 35) dX10_place_26 (by decide) ?_
      refine go_lv [] rfl ?_
      exact tX10_place_p35 h
  · have h := h.1 q3
    refine go_bipush (pc := 8) (v := (-101)) dX10_place_8 (by decide) ?_
    refine go_goto (pc := 10) (tgt := 38) dX10_place_10 (by decide) ?_
    exact gq_iret (pc := 38) (F := wM G o) rfl dX10_place_38 h
def wX10_measure_p142 (l1 : Int32) (s0 : Int32) (s1 : Int32) (s2 : Int32) (c : gMem) (Q : Int32 → gMem → Prop) : Prop :=
  vp_in s2 14 ∧
  ∀ c1, c1 = mp c 4 s2.toNatClampNeg (s1 + s0) →
  wX10_sizeAt l1 c1 (fun r4 c3 =>
  wX10_answers r4 c3 (fun r6 c5 =>
  Q r6 c5))
set_option maxRecDepth 100000 in
set_option maxHeartbeats 4000000 in
theorem tX10_measure_p142 {l : Launch} {G : gG} {k : Nat} {o : gMem} {Q : Int32 → gMem → Prop} {l1 : Int32} {s0 : Int32} {s1 : Int32} {s2 : Int32} {c : gMem} (h : wX10_measure_p142 l1 s0 s1 s2 c Q) : Go l G mX10_measure (gbq G 2 46 84 k (qi (wM G o) Q)) 142 [(0, .ref (G.2.1 + 74)), (1, .int l1)] [.int s0, .int s1, .int s2, .ref (G.2.1 + 78)] 84 k (wM G o c) := by
  unfold wX10_measure_p142 at h
  refine go_iadd (pc := 142) dX10_measure_142 ?_
  obtain ⟨b2, h⟩ := h
  refine gb_iast (pc := 143) (F := wM G o) (gz_b (by decide)) yw4 b2 ya4 dX10_measure_143 (fun c1 ec1 => ?_)
  have h := h c1 ec1
  refine go_aload_n (pc := 144) dX10_measure_144 rfl rfl ?_
  refine go_aload_n (pc := 145) dX10_measure_145 rfl rfl ?_
  refine go_iload_n (pc := 146) dX10_measure_146 rfl rfl ?_
  refine gq_callV_i (pc := 147) (F := wM G o) vX10_126 rfl (tX10_sizeAt h) rfl rfl (gz_b (by decide)) yw0 rfl (Nat.le_of_ble_eq_true rfl) ⟨Nat.le_of_ble_eq_true rfl, Nat.le_of_ble_eq_true rfl, Nat.le_add_right _ _, Nat.le_add_right _ _⟩ dX10_measure_147 (fun r4 c3 h => ?_)
  refine gq_callV_i (pc := 150) (F := wM G o) vX10_155 rfl (tX10_answers h) rfl rfl (gz_b (by decide)) yw0 rfl (Nat.le_of_ble_eq_true rfl) ⟨Nat.le_of_ble_eq_true rfl, Nat.le_of_ble_eq_true rfl, Nat.le_add_right _ _, Nat.le_add_right _ _⟩ dX10_measure_150 (fun r6 c5 h => ?_)
  exact gq_iret (pc := 153) (F := wM G o) rfl dX10_measure_153 h
def wX10_measure_p123 (l1 : Int32) (l2 : Int32) (s0 : Int32) (s1 : Int32) (s2 : Int32) (c : gMem) (Q : Int32 → gMem → Prop) : Prop :=
  vp_in s2 14 ∧
  ∀ c1, c1 = mp c 4 s2.toNatClampNeg (s1 + s0) →
  ∀ v3, v3 = c1 4 4 →
  ((l2 = 2 →
    wX10_measure_p142 l1 1 v3 4 c1 Q) ∧
   (¬ l2 = 2 →
    wX10_measure_p142 l1 0 v3 4 c1 Q))
set_option maxRecDepth 100000 in
set_option maxHeartbeats 4000000 in
theorem tX10_measure_p123 {l : Launch} {G : gG} {k : Nat} {o : gMem} {Q : Int32 → gMem → Prop} {l1 : Int32} {l2 : Int32} {s0 : Int32} {s1 : Int32} {s2 : Int32} {c : gMem} (h : wX10_measure_p123 l1 l2 s0 s1 s2 c Q) : Go l G mX10_measure (gbq G 2 46 84 k (qi (wM G o) Q)) 123 [(0, .ref (G.2.1 + 74)), (1, .int l1), (2, .int l2)] [.int s0, .int s1, .int s2, .ref (G.2.1 + 78)] 84 k (wM G o c) := by
  unfold wX10_measure_p123 at h
  refine go_iadd (pc := 123) dX10_measure_123 ?_
  obtain ⟨b2, h⟩ := h
  refine gb_iast (pc := 124) (F := wM G o) (gz_b (by decide)) yw4 b2 ya4 dX10_measure_124 (fun c1 ec1 => ?_)
  have h := h c1 ec1
  refine go_aload_n (pc := 125) dX10_measure_125 rfl rfl ?_
  refine go_get (pc := 126) fX10_19 rfl (gz_b (by decide)) yw0 rfl dX10_measure_126 ?_
  refine go_iconst (pc := 129) (v := 4) dX10_measure_129 (by decide) ?_
  refine go_dup2 (pc := 130) dX10_measure_130 rfl rfl ?_
  refine gb_iald (pc := 131) (gz_b (by decide)) yw4 (gv_in (by decide)) dX10_measure_131 (fun v3 ev3 => ?_)
  have h := h v3 ev3
  refine go_iload_n (pc := 132) dX10_measure_132 rfl rfl ?_
  refine go_iconst (pc := 133) (v := 2) dX10_measure_133 (by decide) ?_
  refine go_icmp_ne (pc := 134) (tgt := 141) dX10_measure_134 (by decide) (fun q4 => ?_) (fun q4 => ?_)
  · have h := h.2 q4
    refine go_iconst (pc := 141) (v := 0) dX10_measure_141 (by decide) ?_
    refine go_lv [0, 1] rfl ?_
    exact tX10_measure_p142 h
  · have h := h.1 q4
    refine go_iconst (pc := 137) (v := 1) dX10_measure_137 (by decide) ?_
    refine go_goto (pc := 138) (tgt := 142) dX10_measure_138 (by decide) ?_
    refine go_lv [0, 1] rfl ?_
    exact tX10_measure_p142 h
def wX10_measure_p104 (l1 : Int32) (l2 : Int32) (s0 : Int32) (s1 : Int32) (s2 : Int32) (c : gMem) (Q : Int32 → gMem → Prop) : Prop :=
  vp_in s2 14 ∧
  ∀ c1, c1 = mp c 4 s2.toNatClampNeg (s1 + s0) →
  ∀ v3, v3 = c1 4 3 →
  ((l2 = 5 →
    wX10_measure_p123 l1 l2 1 v3 3 c1 Q) ∧
   (¬ l2 = 5 →
    wX10_measure_p123 l1 l2 0 v3 3 c1 Q))
set_option maxRecDepth 100000 in
set_option maxHeartbeats 4000000 in
theorem tX10_measure_p104 {l : Launch} {G : gG} {k : Nat} {o : gMem} {Q : Int32 → gMem → Prop} {l1 : Int32} {l2 : Int32} {s0 : Int32} {s1 : Int32} {s2 : Int32} {c : gMem} (h : wX10_measure_p104 l1 l2 s0 s1 s2 c Q) : Go l G mX10_measure (gbq G 2 46 84 k (qi (wM G o) Q)) 104 [(0, .ref (G.2.1 + 74)), (1, .int l1), (2, .int l2)] [.int s0, .int s1, .int s2, .ref (G.2.1 + 78)] 84 k (wM G o c) := by
  unfold wX10_measure_p104 at h
  refine go_iadd (pc := 104) dX10_measure_104 ?_
  obtain ⟨b2, h⟩ := h
  refine gb_iast (pc := 105) (F := wM G o) (gz_b (by decide)) yw4 b2 ya4 dX10_measure_105 (fun c1 ec1 => ?_)
  have h := h c1 ec1
  refine go_aload_n (pc := 106) dX10_measure_106 rfl rfl ?_
  refine go_get (pc := 107) fX10_19 rfl (gz_b (by decide)) yw0 rfl dX10_measure_107 ?_
  refine go_iconst (pc := 110) (v := 3) dX10_measure_110 (by decide) ?_
  refine go_dup2 (pc := 111) dX10_measure_111 rfl rfl ?_
  refine gb_iald (pc := 112) (gz_b (by decide)) yw4 (gv_in (by decide)) dX10_measure_112 (fun v3 ev3 => ?_)
  have h := h v3 ev3
  refine go_iload_n (pc := 113) dX10_measure_113 rfl rfl ?_
  refine go_iconst (pc := 114) (v := 5) dX10_measure_114 (by decide) ?_
  refine go_icmp_ne (pc := 115) (tgt := 122) dX10_measure_115 (by decide) (fun q4 => ?_) (fun q4 => ?_)
  · have h := h.2 q4
    refine go_iconst (pc := 122) (v := 0) dX10_measure_122 (by decide) ?_
    refine go_lv [0, 1, 2] rfl ?_
    exact tX10_measure_p123 h
  · have h := h.1 q4
    refine go_iconst (pc := 118) (v := 1) dX10_measure_118 (by decide) ?_
    refine go_goto (pc := 119) (tgt := 123) dX10_measure_119 (by decide) ?_
    refine go_lv [0, 1, 2] rfl ?_
    exact tX10_measure_p123 h
def wX10_measure_p99 (l1 : Int32) (l2 : Int32) (s0 : Int32) (s1 : Int32) (c : gMem) (Q : Int32 → gMem → Prop) : Prop :=
  wX10_measure_p104 l1 l2 1 s0 s1 c Q
set_option maxRecDepth 100000 in
set_option maxHeartbeats 4000000 in
theorem tX10_measure_p99 {l : Launch} {G : gG} {k : Nat} {o : gMem} {Q : Int32 → gMem → Prop} {l1 : Int32} {l2 : Int32} {s0 : Int32} {s1 : Int32} {c : gMem} (h : wX10_measure_p99 l1 l2 s0 s1 c Q) : Go l G mX10_measure (gbq G 2 46 84 k (qi (wM G o) Q)) 99 [(0, .ref (G.2.1 + 74)), (1, .int l1), (2, .int l2)] [.int s0, .int s1, .ref (G.2.1 + 78)] 84 k (wM G o c) := by
  unfold wX10_measure_p99 at h
  refine go_iconst (pc := 99) (v := 1) dX10_measure_99 (by decide) ?_
  refine go_goto (pc := 100) (tgt := 104) dX10_measure_100 (by decide) ?_
  refine go_lv [0, 1, 2] rfl ?_
  exact tX10_measure_p104 h
def wX10_measure_p80 (l1 : Int32) (l2 : Int32) (s0 : Int32) (s1 : Int32) (s2 : Int32) (c : gMem) (Q : Int32 → gMem → Prop) : Prop :=
  vp_in s2 14 ∧
  ∀ c1, c1 = mp c 4 s2.toNatClampNeg (s1 + s0) →
  ∀ v3, v3 = c1 4 2 →
  ((l2 = 1 →
    wX10_measure_p99 l1 l2 v3 2 c1 Q) ∧
   (¬ l2 = 1 →
    ((l2 = 5 →
      wX10_measure_p99 l1 l2 v3 2 c1 Q) ∧
     (¬ l2 = 5 →
      wX10_measure_p104 l1 l2 0 v3 2 c1 Q))))
set_option maxRecDepth 100000 in
set_option maxHeartbeats 4000000 in
theorem tX10_measure_p80 {l : Launch} {G : gG} {k : Nat} {o : gMem} {Q : Int32 → gMem → Prop} {l1 : Int32} {l2 : Int32} {s0 : Int32} {s1 : Int32} {s2 : Int32} {c : gMem} (h : wX10_measure_p80 l1 l2 s0 s1 s2 c Q) : Go l G mX10_measure (gbq G 2 46 84 k (qi (wM G o) Q)) 80 [(0, .ref (G.2.1 + 74)), (1, .int l1), (2, .int l2)] [.int s0, .int s1, .int s2, .ref (G.2.1 + 78)] 84 k (wM G o c) := by
  unfold wX10_measure_p80 at h
  refine go_iadd (pc := 80) dX10_measure_80 ?_
  obtain ⟨b2, h⟩ := h
  refine gb_iast (pc := 81) (F := wM G o) (gz_b (by decide)) yw4 b2 ya4 dX10_measure_81 (fun c1 ec1 => ?_)
  have h := h c1 ec1
  refine go_aload_n (pc := 82) dX10_measure_82 rfl rfl ?_
  refine go_get (pc := 83) fX10_19 rfl (gz_b (by decide)) yw0 rfl dX10_measure_83 ?_
  refine go_iconst (pc := 86) (v := 2) dX10_measure_86 (by decide) ?_
  refine go_dup2 (pc := 87) dX10_measure_87 rfl rfl ?_
  refine gb_iald (pc := 88) (gz_b (by decide)) yw4 (gv_in (by decide)) dX10_measure_88 (fun v3 ev3 => ?_)
  have h := h v3 ev3
  refine go_iload_n (pc := 89) dX10_measure_89 rfl rfl ?_
  refine go_iconst (pc := 90) (v := 1) dX10_measure_90 (by decide) ?_
  refine go_icmp_eq (pc := 91) (tgt := 99) dX10_measure_91 (by decide) (fun q4 => ?_) (fun q4 => ?_)
  · have h := h.1 q4
    refine go_lv [0, 1, 2] rfl ?_
    exact tX10_measure_p99 h
  · have h := h.2 q4
    refine go_iload_n (pc := 94) dX10_measure_94 rfl rfl ?_
    refine go_iconst (pc := 95) (v := 5) dX10_measure_95 (by decide) ?_
    refine go_icmp_ne (pc := 96) (tgt := 103) dX10_measure_96 (by decide) (fun q5 => ?_) (fun q5 => ?_)
    · have h := h.2 q5
      refine go_iconst (pc := 103) (v := 0) dX10_measure_103 (by decide) ?_
      refine go_lv [0, 1, 2] rfl ?_
      exact tX10_measure_p104 h
    · have h := h.1 q5
      refine go_lv [0, 1, 2] rfl ?_
      exact tX10_measure_p99 h
def wX10_measure_p61 (l1 : Int32) (l2 : Int32) (s0 : Int32) (s1 : Int32) (s2 : Int32) (c : gMem) (Q : Int32 → gMem → Prop) : Prop :=
  vp_in s2 14 ∧
  ∀ c1, c1 = mp c 4 s2.toNatClampNeg (s1 + s0) →
  ∀ v3, v3 = c1 4 1 →
  ((l2 = 4 →
    wX10_measure_p80 l1 l2 1 v3 1 c1 Q) ∧
   (¬ l2 = 4 →
    wX10_measure_p80 l1 l2 0 v3 1 c1 Q))
set_option maxRecDepth 100000 in
set_option maxHeartbeats 4000000 in
theorem tX10_measure_p61 {l : Launch} {G : gG} {k : Nat} {o : gMem} {Q : Int32 → gMem → Prop} {l1 : Int32} {l2 : Int32} {s0 : Int32} {s1 : Int32} {s2 : Int32} {c : gMem} (h : wX10_measure_p61 l1 l2 s0 s1 s2 c Q) : Go l G mX10_measure (gbq G 2 46 84 k (qi (wM G o) Q)) 61 [(0, .ref (G.2.1 + 74)), (1, .int l1), (2, .int l2)] [.int s0, .int s1, .int s2, .ref (G.2.1 + 78)] 84 k (wM G o c) := by
  unfold wX10_measure_p61 at h
  refine go_iadd (pc := 61) dX10_measure_61 ?_
  obtain ⟨b2, h⟩ := h
  refine gb_iast (pc := 62) (F := wM G o) (gz_b (by decide)) yw4 b2 ya4 dX10_measure_62 (fun c1 ec1 => ?_)
  have h := h c1 ec1
  refine go_aload_n (pc := 63) dX10_measure_63 rfl rfl ?_
  refine go_get (pc := 64) fX10_19 rfl (gz_b (by decide)) yw0 rfl dX10_measure_64 ?_
  refine go_iconst (pc := 67) (v := 1) dX10_measure_67 (by decide) ?_
  refine go_dup2 (pc := 68) dX10_measure_68 rfl rfl ?_
  refine gb_iald (pc := 69) (gz_b (by decide)) yw4 (gv_in (by decide)) dX10_measure_69 (fun v3 ev3 => ?_)
  have h := h v3 ev3
  refine go_iload_n (pc := 70) dX10_measure_70 rfl rfl ?_
  refine go_iconst (pc := 71) (v := 4) dX10_measure_71 (by decide) ?_
  refine go_icmp_ne (pc := 72) (tgt := 79) dX10_measure_72 (by decide) (fun q4 => ?_) (fun q4 => ?_)
  · have h := h.2 q4
    refine go_iconst (pc := 79) (v := 0) dX10_measure_79 (by decide) ?_
    refine go_lv [0, 1, 2] rfl ?_
    exact tX10_measure_p80 h
  · have h := h.1 q4
    refine go_iconst (pc := 75) (v := 1) dX10_measure_75 (by decide) ?_
    refine go_goto (pc := 76) (tgt := 80) dX10_measure_76 (by decide) ?_
    refine go_lv [0, 1, 2] rfl ?_
    exact tX10_measure_p80 h
def wX10_measure_p56 (l1 : Int32) (l2 : Int32) (s0 : Int32) (s1 : Int32) (c : gMem) (Q : Int32 → gMem → Prop) : Prop :=
  wX10_measure_p61 l1 l2 1 s0 s1 c Q
set_option maxRecDepth 100000 in
set_option maxHeartbeats 4000000 in
theorem tX10_measure_p56 {l : Launch} {G : gG} {k : Nat} {o : gMem} {Q : Int32 → gMem → Prop} {l1 : Int32} {l2 : Int32} {s0 : Int32} {s1 : Int32} {c : gMem} (h : wX10_measure_p56 l1 l2 s0 s1 c Q) : Go l G mX10_measure (gbq G 2 46 84 k (qi (wM G o) Q)) 56 [(0, .ref (G.2.1 + 74)), (1, .int l1), (2, .int l2)] [.int s0, .int s1, .ref (G.2.1 + 78)] 84 k (wM G o c) := by
  unfold wX10_measure_p56 at h
  refine go_iconst (pc := 56) (v := 1) dX10_measure_56 (by decide) ?_
  refine go_goto (pc := 57) (tgt := 61) dX10_measure_57 (by decide) ?_
  refine go_lv [0, 1, 2] rfl ?_
  exact tX10_measure_p61 h
def wX10_measure (l1 : Int32) (c : gMem) (Q : Int32 → gMem → Prop) : Prop :=
  wX10_isMade l1 c (fun r2 c1 =>
  ((r2 = 0 →
    Q ((-101)) c1) ∧
   (¬ r2 = 0 →
    wX10_isGone l1 c1 (fun r5 c4 =>
    ((r5 = 0 →
      wX10_of l1 1 c4 (fun r8 c7 =>
      ∀ v9, v9 = c7 4 0 →
      ((r8 = 0 →
        wX10_measure_p56 l1 r8 v9 0 c7 Q) ∧
       (¬ r8 = 0 →
        ((r8 = 3 →
          wX10_measure_p56 l1 r8 v9 0 c7 Q) ∧
         (¬ r8 = 3 →
          ((r8 = 4 →
            wX10_measure_p56 l1 r8 v9 0 c7 Q) ∧
           (¬ r8 = 4 →
            wX10_measure_p61 l1 r8 0 v9 0 c7 Q)))))))) ∧
     (¬ r5 = 0 →
      wX10_fails 1 c4 (fun r14 c13 =>
      wX10_answers r14 c13 (fun r16 c15 =>
      Q r16 c15))))))))
set_option maxRecDepth 100000 in
set_option maxHeartbeats 4000000 in
theorem tX10_measure {l : Launch} {G : gG} {k : Nat} {o : gMem} {Q : Int32 → gMem → Prop} {l1 : Int32} {c : gMem} (h : wX10_measure l1 c Q) : Cq l G mX10_measure 2 46 [.ref (G.2.1 + 74), .int l1] 84 k (wM G o c) (qi (wM G o) Q) := by
  refine Cq.of (by decide) (Nat.le_of_ble_eq_true rfl) ?_
  show Go l G mX10_measure (gbq G 2 46 84 k (qi (wM G o) Q)) 0 [(0, .ref (G.2.1 + 74)), (1, .int l1)] [] 84 k (wM G o c)
  unfold wX10_measure at h
  refine go_aload_n (pc := 0) dX10_measure_0 rfl rfl ?_
  refine go_iload_n (pc := 1) dX10_measure_1 rfl rfl ?_
  refine gq_callV_i (pc := 2) (F := wM G o) vX10_67 rfl (tX10_isMade h) rfl rfl (gz_b (by decide)) yw0 rfl (Nat.le_of_ble_eq_true rfl) ⟨Nat.le_of_ble_eq_true rfl, Nat.le_of_ble_eq_true rfl, Nat.le_add_right _ _, Nat.le_add_right _ _⟩ dX10_measure_2 (fun r2 c1 h => ?_)
  refine go_if_ne (pc := 5) (tgt := 11) dX10_measure_5 (by decide) (fun q3 => ?_) (fun q3 => ?_)
  · have h := h.2 q3
    refine go_aload_n (pc := 11) dX10_measure_11 rfl rfl ?_
    refine go_iload_n (pc := 12) dX10_measure_12 rfl rfl ?_
    refine gq_callV_i (pc := 13) (F := wM G o) vX10_158 rfl (tX10_isGone h) rfl rfl (gz_b (by decide)) yw0 rfl (Nat.le_of_ble_eq_true rfl) ⟨Nat.le_of_ble_eq_true rfl, Nat.le_of_ble_eq_true rfl, Nat.le_add_right _ _, Nat.le_add_right _ _⟩ dX10_measure_13 (fun r5 c4 h => ?_)
    refine go_if_eq (pc := 16) (tgt := 28) dX10_measure_16 (by decide) (fun q6 => ?_) (fun q6 => ?_)
    · have h := h.1 q6
      refine go_aload_n (pc := 28) dX10_measure_28 rfl rfl ?_
      refine go_iload_n (pc := 29) dX10_measure_29 rfl rfl ?_
      refine go_iconst (pc := 30) (v := 1) dX10_measure_30 (by decide) ?_
      refine gq_callV_i (pc := 31) (F := wM G o) vX10_71 rfl (tX10_of h) rfl rfl (gz_b (by decide)) yw0 rfl (Nat.le_of_ble_eq_true rfl) ⟨Nat.le_of_ble_eq_true rfl, Nat.le_of_ble_eq_true rfl, Nat.le_add_right _ _, Nat.le_add_right _ _⟩ dX10_measure_31 (fun r8 c7 h => ?_)
      refine go_istore_n (pc := 34) (lv' := [(2, .int r8), (0, .ref (G.2.1 + 74)), (1, .int l1)]) dX10_measure_34 rfl (by decide) rfl ?_
      refine go_aload_n (pc := 35) dX10_measure_35 rfl rfl ?_
      refine go_get (pc := 36) fX10_19 rfl (gz_b (by decide)) yw0 rfl dX10_measure_36 ?_
      refine go_iconst (pc := 39) (v := 0) dX10_measure_39 (by decide) ?_
      refine go_dup2 (pc := 40) dX10_measure_40 rfl rfl ?_
      refine gb_iald (pc := 41) (gz_b (by decide)) yw4 (gv_in (by decide)) dX10_measure_41 (fun v9 ev9 => ?_)
      have h := h v9 ev9
      refine go_iload_n (pc := 42) dX10_measure_42 rfl rfl ?_
      refine go_if_eq (pc := 43) (tgt := 56) dX10_measure_43 (by decide) (fun q10 => ?_) (fun q10 => ?_)
      · have h := h.1 q10
        refine go_lv [1, 2, 0] rfl ?_
        exact tX10_measure_p56 h
      · have h := h.2 q10
        refine go_iload_n (pc := 46) dX10_measure_46 rfl rfl ?_
        refine go_iconst (pc := 47) (v := 3) dX10_measure_47 (by decide) ?_
        refine go_icmp_eq (pc := 48) (tgt := 56) dX10_measure_48 (by decide) (fun q11 => ?_) (fun q11 => ?_)
        · have h := h.1 q11
          refine go_lv [1, 2, 0] rfl ?_
          exact tX10_measure_p56 h
        · have h := h.2 q11
          refine go_iload_n (pc := 51) dX10_measure_51 rfl rfl ?_
          refine go_iconst (pc := 52) (v := 4) dX10_measure_52 (by decide) ?_
          refine go_icmp_ne (pc := 53) (tgt := 60) dX10_measure_53 (by decide) (fun q12 => ?_) (fun q12 => ?_)
          · have h := h.2 q12
            refine go_iconst (pc := 60) (v := 0) dX10_measure_60 (by decide) ?_
            refine go_lv [1, 2, 0] rfl ?_
            exact tX10_measure_p61 h
          · have h := h.1 q12
            refine go_lv [1, 2, 0] rfl ?_
            exact tX10_measure_p56 h
    · have h := h.2 q6
      refine go_aload_n (pc := 19) dX10_measure_19 rfl rfl ?_
      refine go_iconst (pc := 20) (v := 1) dX10_measure_20 (by decide) ?_
      refine gq_callS_i (pc := 21) (F := wM G o) sX10_141 rfl (tX10_fails h) rfl rfl (Nat.le_of_ble_eq_true rfl) ⟨Nat.le_of_ble_eq_true rfl, Nat.le_of_ble_eq_true rfl, Nat.le_add_right _ _, Nat.le_add_right _ _⟩ dX10_measure_21 (fun r14 c13 h => ?_)
      refine gq_callV_i (pc := 24) (F := wM G o) vX10_155 rfl (tX10_answers h) rfl rfl (gz_b (by decide)) yw0 rfl (Nat.le_of_ble_eq_true rfl) ⟨Nat.le_of_ble_eq_true rfl, Nat.le_of_ble_eq_true rfl, Nat.le_add_right _ _, Nat.le_add_right _ _⟩ dX10_measure_24 (fun r16 c15 h => ?_)
      exact gq_iret (pc := 27) (F := wM G o) rfl dX10_measure_27 h
  · have h := h.1 q3
    refine go_bipush (pc := 8) (v := (-101)) dX10_measure_8 (by decide) ?_
    exact gq_iret (pc := 10) (F := wM G o) rfl dX10_measure_10 h
def wX10_links_p131 (l1 : Int32) (s0 : Int32) (s1 : Int32) (s2 : Int32) (c : gMem) (Q : Int32 → gMem → Prop) : Prop :=
  vp_in s2 14 ∧
  ∀ c1, c1 = mp c 4 s2.toNatClampNeg (s1 + s0) →
  wX10_linksOf l1 c1 (fun r4 c3 =>
  wX10_answers r4 c3 (fun r6 c5 =>
  Q r6 c5))
set_option maxRecDepth 100000 in
set_option maxHeartbeats 4000000 in
theorem tX10_links_p131 {l : Launch} {G : gG} {k : Nat} {o : gMem} {Q : Int32 → gMem → Prop} {l1 : Int32} {s0 : Int32} {s1 : Int32} {s2 : Int32} {c : gMem} (h : wX10_links_p131 l1 s0 s1 s2 c Q) : Go l G mX10_links (gbq G 2 46 84 k (qi (wM G o) Q)) 131 [(0, .ref (G.2.1 + 74)), (1, .int l1)] [.int s0, .int s1, .int s2, .ref (G.2.1 + 78)] 84 k (wM G o c) := by
  unfold wX10_links_p131 at h
  refine go_iadd (pc := 131) dX10_links_131 ?_
  obtain ⟨b2, h⟩ := h
  refine gb_iast (pc := 132) (F := wM G o) (gz_b (by decide)) yw4 b2 ya4 dX10_links_132 (fun c1 ec1 => ?_)
  have h := h c1 ec1
  refine go_aload_n (pc := 133) dX10_links_133 rfl rfl ?_
  refine go_aload_n (pc := 134) dX10_links_134 rfl rfl ?_
  refine go_iload_n (pc := 135) dX10_links_135 rfl rfl ?_
  refine gq_callV_i (pc := 136) (F := wM G o) vX10_90 rfl (tX10_linksOf h) rfl rfl (gz_b (by decide)) yw0 rfl (Nat.le_of_ble_eq_true rfl) ⟨Nat.le_of_ble_eq_true rfl, Nat.le_of_ble_eq_true rfl, Nat.le_add_right _ _, Nat.le_add_right _ _⟩ dX10_links_136 (fun r4 c3 h => ?_)
  refine gq_callV_i (pc := 139) (F := wM G o) vX10_155 rfl (tX10_answers h) rfl rfl (gz_b (by decide)) yw0 rfl (Nat.le_of_ble_eq_true rfl) ⟨Nat.le_of_ble_eq_true rfl, Nat.le_of_ble_eq_true rfl, Nat.le_add_right _ _, Nat.le_add_right _ _⟩ dX10_links_139 (fun r6 c5 h => ?_)
  exact gq_iret (pc := 142) (F := wM G o) rfl dX10_links_142 h
def wX10_links_p111 (l1 : Int32) (l2 : Int32) (s0 : Int32) (s1 : Int32) (s2 : Int32) (c : gMem) (Q : Int32 → gMem → Prop) : Prop :=
  vp_in s2 14 ∧
  ∀ c1, c1 = mp c 4 s2.toNatClampNeg (s1 + s0) →
  ∀ v3, v3 = c1 4 8 →
  ((l2 = 2 →
    wX10_links_p131 l1 1 v3 8 c1 Q) ∧
   (¬ l2 = 2 →
    wX10_links_p131 l1 0 v3 8 c1 Q))
set_option maxRecDepth 100000 in
set_option maxHeartbeats 4000000 in
theorem tX10_links_p111 {l : Launch} {G : gG} {k : Nat} {o : gMem} {Q : Int32 → gMem → Prop} {l1 : Int32} {l2 : Int32} {s0 : Int32} {s1 : Int32} {s2 : Int32} {c : gMem} (h : wX10_links_p111 l1 l2 s0 s1 s2 c Q) : Go l G mX10_links (gbq G 2 46 84 k (qi (wM G o) Q)) 111 [(0, .ref (G.2.1 + 74)), (1, .int l1), (2, .int l2)] [.int s0, .int s1, .int s2, .ref (G.2.1 + 78)] 84 k (wM G o c) := by
  unfold wX10_links_p111 at h
  refine go_iadd (pc := 111) dX10_links_111 ?_
  obtain ⟨b2, h⟩ := h
  refine gb_iast (pc := 112) (F := wM G o) (gz_b (by decide)) yw4 b2 ya4 dX10_links_112 (fun c1 ec1 => ?_)
  have h := h c1 ec1
  refine go_aload_n (pc := 113) dX10_links_113 rfl rfl ?_
  refine go_get (pc := 114) fX10_19 rfl (gz_b (by decide)) yw0 rfl dX10_links_114 ?_
  refine go_bipush (pc := 117) (v := 8) dX10_links_117 (by decide) ?_
  refine go_dup2 (pc := 119) dX10_links_119 rfl rfl ?_
  refine gb_iald (pc := 120) (gz_b (by decide)) yw4 (gv_in (by decide)) dX10_links_120 (fun v3 ev3 => ?_)
  have h := h v3 ev3
  refine go_iload_n (pc := 121) dX10_links_121 rfl rfl ?_
  refine go_iconst (pc := 122) (v := 2) dX10_links_122 (by decide) ?_
  refine go_icmp_ne (pc := 123) (tgt := 130) dX10_links_123 (by decide) (fun q4 => ?_) (fun q4 => ?_)
  · have h := h.2 q4
    refine go_iconst (pc := 130) (v := 0) dX10_links_130 (by decide) ?_
    refine go_lv [0, 1] rfl ?_
    exact tX10_links_p131 h
  · have h := h.1 q4
    refine go_iconst (pc := 126) (v := 1) dX10_links_126 (by decide) ?_
    refine go_goto (pc := 127) (tgt := 131) dX10_links_127 (by decide) ?_
    refine go_lv [0, 1] rfl ?_
    exact tX10_links_p131 h
def wX10_links_p106 (l1 : Int32) (l2 : Int32) (s0 : Int32) (s1 : Int32) (c : gMem) (Q : Int32 → gMem → Prop) : Prop :=
  wX10_links_p111 l1 l2 1 s0 s1 c Q
set_option maxRecDepth 100000 in
set_option maxHeartbeats 4000000 in
theorem tX10_links_p106 {l : Launch} {G : gG} {k : Nat} {o : gMem} {Q : Int32 → gMem → Prop} {l1 : Int32} {l2 : Int32} {s0 : Int32} {s1 : Int32} {c : gMem} (h : wX10_links_p106 l1 l2 s0 s1 c Q) : Go l G mX10_links (gbq G 2 46 84 k (qi (wM G o) Q)) 106 [(0, .ref (G.2.1 + 74)), (1, .int l1), (2, .int l2)] [.int s0, .int s1, .ref (G.2.1 + 78)] 84 k (wM G o c) := by
  unfold wX10_links_p106 at h
  refine go_iconst (pc := 106) (v := 1) dX10_links_106 (by decide) ?_
  refine go_goto (pc := 107) (tgt := 111) dX10_links_107 (by decide) ?_
  refine go_lv [0, 1, 2] rfl ?_
  exact tX10_links_p111 h
def wX10_links_p86 (l1 : Int32) (l2 : Int32) (s0 : Int32) (s1 : Int32) (s2 : Int32) (c : gMem) (Q : Int32 → gMem → Prop) : Prop :=
  vp_in s2 14 ∧
  ∀ c1, c1 = mp c 4 s2.toNatClampNeg (s1 + s0) →
  ∀ v3, v3 = c1 4 7 →
  ((l2 = 1 →
    wX10_links_p106 l1 l2 v3 7 c1 Q) ∧
   (¬ l2 = 1 →
    ((l2 = 5 →
      wX10_links_p106 l1 l2 v3 7 c1 Q) ∧
     (¬ l2 = 5 →
      wX10_links_p111 l1 l2 0 v3 7 c1 Q))))
set_option maxRecDepth 100000 in
set_option maxHeartbeats 4000000 in
theorem tX10_links_p86 {l : Launch} {G : gG} {k : Nat} {o : gMem} {Q : Int32 → gMem → Prop} {l1 : Int32} {l2 : Int32} {s0 : Int32} {s1 : Int32} {s2 : Int32} {c : gMem} (h : wX10_links_p86 l1 l2 s0 s1 s2 c Q) : Go l G mX10_links (gbq G 2 46 84 k (qi (wM G o) Q)) 86 [(0, .ref (G.2.1 + 74)), (1, .int l1), (2, .int l2)] [.int s0, .int s1, .int s2, .ref (G.2.1 + 78)] 84 k (wM G o c) := by
  unfold wX10_links_p86 at h
  refine go_iadd (pc := 86) dX10_links_86 ?_
  obtain ⟨b2, h⟩ := h
  refine gb_iast (pc := 87) (F := wM G o) (gz_b (by decide)) yw4 b2 ya4 dX10_links_87 (fun c1 ec1 => ?_)
  have h := h c1 ec1
  refine go_aload_n (pc := 88) dX10_links_88 rfl rfl ?_
  refine go_get (pc := 89) fX10_19 rfl (gz_b (by decide)) yw0 rfl dX10_links_89 ?_
  refine go_bipush (pc := 92) (v := 7) dX10_links_92 (by decide) ?_
  refine go_dup2 (pc := 94) dX10_links_94 rfl rfl ?_
  refine gb_iald (pc := 95) (gz_b (by decide)) yw4 (gv_in (by decide)) dX10_links_95 (fun v3 ev3 => ?_)
  have h := h v3 ev3
  refine go_iload_n (pc := 96) dX10_links_96 rfl rfl ?_
  refine go_iconst (pc := 97) (v := 1) dX10_links_97 (by decide) ?_
  refine go_icmp_eq (pc := 98) (tgt := 106) dX10_links_98 (by decide) (fun q4 => ?_) (fun q4 => ?_)
  · have h := h.1 q4
    refine go_lv [0, 1, 2] rfl ?_
    exact tX10_links_p106 h
  · have h := h.2 q4
    refine go_iload_n (pc := 101) dX10_links_101 rfl rfl ?_
    refine go_iconst (pc := 102) (v := 5) dX10_links_102 (by decide) ?_
    refine go_icmp_ne (pc := 103) (tgt := 110) dX10_links_103 (by decide) (fun q5 => ?_) (fun q5 => ?_)
    · have h := h.2 q5
      refine go_iconst (pc := 110) (v := 0) dX10_links_110 (by decide) ?_
      refine go_lv [0, 1, 2] rfl ?_
      exact tX10_links_p111 h
    · have h := h.1 q5
      refine go_lv [0, 1, 2] rfl ?_
      exact tX10_links_p106 h
def wX10_links_p81 (l1 : Int32) (l2 : Int32) (s0 : Int32) (s1 : Int32) (c : gMem) (Q : Int32 → gMem → Prop) : Prop :=
  wX10_links_p86 l1 l2 1 s0 s1 c Q
set_option maxRecDepth 100000 in
set_option maxHeartbeats 4000000 in
theorem tX10_links_p81 {l : Launch} {G : gG} {k : Nat} {o : gMem} {Q : Int32 → gMem → Prop} {l1 : Int32} {l2 : Int32} {s0 : Int32} {s1 : Int32} {c : gMem} (h : wX10_links_p81 l1 l2 s0 s1 c Q) : Go l G mX10_links (gbq G 2 46 84 k (qi (wM G o) Q)) 81 [(0, .ref (G.2.1 + 74)), (1, .int l1), (2, .int l2)] [.int s0, .int s1, .ref (G.2.1 + 78)] 84 k (wM G o c) := by
  unfold wX10_links_p81 at h
  refine go_iconst (pc := 81) (v := 1) dX10_links_81 (by decide) ?_
  refine go_goto (pc := 82) (tgt := 86) dX10_links_82 (by decide) ?_
  refine go_lv [0, 1, 2] rfl ?_
  exact tX10_links_p86 h
def wX10_links_p61 (l1 : Int32) (l2 : Int32) (s0 : Int32) (s1 : Int32) (s2 : Int32) (c : gMem) (Q : Int32 → gMem → Prop) : Prop :=
  vp_in s2 14 ∧
  ∀ c1, c1 = mp c 4 s2.toNatClampNeg (s1 + s0) →
  ∀ v3, v3 = c1 4 6 →
  ((l2 = 3 →
    wX10_links_p81 l1 l2 v3 6 c1 Q) ∧
   (¬ l2 = 3 →
    ((l2 = 4 →
      wX10_links_p81 l1 l2 v3 6 c1 Q) ∧
     (¬ l2 = 4 →
      wX10_links_p86 l1 l2 0 v3 6 c1 Q))))
set_option maxRecDepth 100000 in
set_option maxHeartbeats 4000000 in
theorem tX10_links_p61 {l : Launch} {G : gG} {k : Nat} {o : gMem} {Q : Int32 → gMem → Prop} {l1 : Int32} {l2 : Int32} {s0 : Int32} {s1 : Int32} {s2 : Int32} {c : gMem} (h : wX10_links_p61 l1 l2 s0 s1 s2 c Q) : Go l G mX10_links (gbq G 2 46 84 k (qi (wM G o) Q)) 61 [(0, .ref (G.2.1 + 74)), (1, .int l1), (2, .int l2)] [.int s0, .int s1, .int s2, .ref (G.2.1 + 78)] 84 k (wM G o c) := by
  unfold wX10_links_p61 at h
  refine go_iadd (pc := 61) dX10_links_61 ?_
  obtain ⟨b2, h⟩ := h
  refine gb_iast (pc := 62) (F := wM G o) (gz_b (by decide)) yw4 b2 ya4 dX10_links_62 (fun c1 ec1 => ?_)
  have h := h c1 ec1
  refine go_aload_n (pc := 63) dX10_links_63 rfl rfl ?_
  refine go_get (pc := 64) fX10_19 rfl (gz_b (by decide)) yw0 rfl dX10_links_64 ?_
  refine go_bipush (pc := 67) (v := 6) dX10_links_67 (by decide) ?_
  refine go_dup2 (pc := 69) dX10_links_69 rfl rfl ?_
  refine gb_iald (pc := 70) (gz_b (by decide)) yw4 (gv_in (by decide)) dX10_links_70 (fun v3 ev3 => ?_)
  have h := h v3 ev3
  refine go_iload_n (pc := 71) dX10_links_71 rfl rfl ?_
  refine go_iconst (pc := 72) (v := 3) dX10_links_72 (by decide) ?_
  refine go_icmp_eq (pc := 73) (tgt := 81) dX10_links_73 (by decide) (fun q4 => ?_) (fun q4 => ?_)
  · have h := h.1 q4
    refine go_lv [0, 1, 2] rfl ?_
    exact tX10_links_p81 h
  · have h := h.2 q4
    refine go_iload_n (pc := 76) dX10_links_76 rfl rfl ?_
    refine go_iconst (pc := 77) (v := 4) dX10_links_77 (by decide) ?_
    refine go_icmp_ne (pc := 78) (tgt := 85) dX10_links_78 (by decide) (fun q5 => ?_) (fun q5 => ?_)
    · have h := h.2 q5
      refine go_iconst (pc := 85) (v := 0) dX10_links_85 (by decide) ?_
      refine go_lv [0, 1, 2] rfl ?_
      exact tX10_links_p86 h
    · have h := h.1 q5
      refine go_lv [0, 1, 2] rfl ?_
      exact tX10_links_p81 h
def wX10_links_p56 (l1 : Int32) (l2 : Int32) (s0 : Int32) (s1 : Int32) (c : gMem) (Q : Int32 → gMem → Prop) : Prop :=
  wX10_links_p61 l1 l2 1 s0 s1 c Q
set_option maxRecDepth 100000 in
set_option maxHeartbeats 4000000 in
theorem tX10_links_p56 {l : Launch} {G : gG} {k : Nat} {o : gMem} {Q : Int32 → gMem → Prop} {l1 : Int32} {l2 : Int32} {s0 : Int32} {s1 : Int32} {c : gMem} (h : wX10_links_p56 l1 l2 s0 s1 c Q) : Go l G mX10_links (gbq G 2 46 84 k (qi (wM G o) Q)) 56 [(0, .ref (G.2.1 + 74)), (1, .int l1), (2, .int l2)] [.int s0, .int s1, .ref (G.2.1 + 78)] 84 k (wM G o c) := by
  unfold wX10_links_p56 at h
  refine go_iconst (pc := 56) (v := 1) dX10_links_56 (by decide) ?_
  refine go_goto (pc := 57) (tgt := 61) dX10_links_57 (by decide) ?_
  refine go_lv [0, 1, 2] rfl ?_
  exact tX10_links_p61 h
def wX10_links (l1 : Int32) (c : gMem) (Q : Int32 → gMem → Prop) : Prop :=
  wX10_isMade l1 c (fun r2 c1 =>
  ((r2 = 0 →
    Q ((-101)) c1) ∧
   (¬ r2 = 0 →
    wX10_isGone l1 c1 (fun r5 c4 =>
    ((r5 = 0 →
      wX10_of l1 1 c4 (fun r8 c7 =>
      ∀ v9, v9 = c7 4 5 →
      ((r8 = 0 →
        wX10_links_p56 l1 r8 v9 5 c7 Q) ∧
       (¬ r8 = 0 →
        ((r8 = 3 →
          wX10_links_p56 l1 r8 v9 5 c7 Q) ∧
         (¬ r8 = 3 →
          ((r8 = 4 →
            wX10_links_p56 l1 r8 v9 5 c7 Q) ∧
           (¬ r8 = 4 →
            wX10_links_p61 l1 r8 0 v9 5 c7 Q)))))))) ∧
     (¬ r5 = 0 →
      wX10_fails 1 c4 (fun r14 c13 =>
      wX10_answers r14 c13 (fun r16 c15 =>
      Q r16 c15))))))))
set_option maxRecDepth 100000 in
set_option maxHeartbeats 4000000 in
theorem tX10_links {l : Launch} {G : gG} {k : Nat} {o : gMem} {Q : Int32 → gMem → Prop} {l1 : Int32} {c : gMem} (h : wX10_links l1 c Q) : Cq l G mX10_links 2 46 [.ref (G.2.1 + 74), .int l1] 84 k (wM G o c) (qi (wM G o) Q) := by
  refine Cq.of (by decide) (Nat.le_of_ble_eq_true rfl) ?_
  show Go l G mX10_links (gbq G 2 46 84 k (qi (wM G o) Q)) 0 [(0, .ref (G.2.1 + 74)), (1, .int l1)] [] 84 k (wM G o c)
  unfold wX10_links at h
  refine go_aload_n (pc := 0) dX10_links_0 rfl rfl ?_
  refine go_iload_n (pc := 1) dX10_links_1 rfl rfl ?_
  refine gq_callV_i (pc := 2) (F := wM G o) vX10_67 rfl (tX10_isMade h) rfl rfl (gz_b (by decide)) yw0 rfl (Nat.le_of_ble_eq_true rfl) ⟨Nat.le_of_ble_eq_true rfl, Nat.le_of_ble_eq_true rfl, Nat.le_add_right _ _, Nat.le_add_right _ _⟩ dX10_links_2 (fun r2 c1 h => ?_)
  refine go_if_ne (pc := 5) (tgt := 11) dX10_links_5 (by decide) (fun q3 => ?_) (fun q3 => ?_)
  · have h := h.2 q3
    refine go_aload_n (pc := 11) dX10_links_11 rfl rfl ?_
    refine go_iload_n (pc := 12) dX10_links_12 rfl rfl ?_
    refine gq_callV_i (pc := 13) (F := wM G o) vX10_158 rfl (tX10_isGone h) rfl rfl (gz_b (by decide)) yw0 rfl (Nat.le_of_ble_eq_true rfl) ⟨Nat.le_of_ble_eq_true rfl, Nat.le_of_ble_eq_true rfl, Nat.le_add_right _ _, Nat.le_add_right _ _⟩ dX10_links_13 (fun r5 c4 h => ?_)
    refine go_if_eq (pc := 16) (tgt := 28) dX10_links_16 (by decide) (fun q6 => ?_) (fun q6 => ?_)
    · have h := h.1 q6
      refine go_aload_n (pc := 28) dX10_links_28 rfl rfl ?_
      refine go_iload_n (pc := 29) dX10_links_29 rfl rfl ?_
      refine go_iconst (pc := 30) (v := 1) dX10_links_30 (by decide) ?_
      refine gq_callV_i (pc := 31) (F := wM G o) vX10_71 rfl (tX10_of h) rfl rfl (gz_b (by decide)) yw0 rfl (Nat.le_of_ble_eq_true rfl) ⟨Nat.le_of_ble_eq_true rfl, Nat.le_of_ble_eq_true rfl, Nat.le_add_right _ _, Nat.le_add_right _ _⟩ dX10_links_31 (fun r8 c7 h => ?_)
      refine go_istore_n (pc := 34) (lv' := [(2, .int r8), (0, .ref (G.2.1 + 74)), (1, .int l1)]) dX10_links_34 rfl (by decide) rfl ?_
      refine go_aload_n (pc := 35) dX10_links_35 rfl rfl ?_
      refine go_get (pc := 36) fX10_19 rfl (gz_b (by decide)) yw0 rfl dX10_links_36 ?_
      refine go_iconst (pc := 39) (v := 5) dX10_links_39 (by decide) ?_
      refine go_dup2 (pc := 40) dX10_links_40 rfl rfl ?_
      refine gb_iald (pc := 41) (gz_b (by decide)) yw4 (gv_in (by decide)) dX10_links_41 (fun v9 ev9 => ?_)
      have h := h v9 ev9
      refine go_iload_n (pc := 42) dX10_links_42 rfl rfl ?_
      refine go_if_eq (pc := 43) (tgt := 56) dX10_links_43 (by decide) (fun q10 => ?_) (fun q10 => ?_)
      · have h := h.1 q10
        refine go_lv [1, 2, 0] rfl ?_
        exact tX10_links_p56 h
      · have h := h.2 q10
        refine go_iload_n (pc := 46) dX10_links_46 rfl rfl ?_
        refine go_iconst (pc := 47) (v := 3) dX10_links_47 (by decide) ?_
        refine go_icmp_eq (pc := 48) (tgt := 56) dX10_links_48 (by decide) (fun q11 => ?_) (fun q11 => ?_)
        · have h := h.1 q11
          refine go_lv [1, 2, 0] rfl ?_
          exact tX10_links_p56 h
        · have h := h.2 q11
          refine go_iload_n (pc := 51) dX10_links_51 rfl rfl ?_
          refine go_iconst (pc := 52) (v := 4) dX10_links_52 (by decide) ?_
          refine go_icmp_ne (pc := 53) (tgt := 60) dX10_links_53 (by decide) (fun q12 => ?_) (fun q12 => ?_)
          · have h := h.2 q12
            refine go_iconst (pc := 60) (v := 0) dX10_links_60 (by decide) ?_
            refine go_lv [1, 2, 0] rfl ?_
            exact tX10_links_p61 h
          · have h := h.1 q12
            refine go_lv [1, 2, 0] rfl ?_
            exact tX10_links_p56 h
    · have h := h.2 q6
      refine go_aload_n (pc := 19) dX10_links_19 rfl rfl ?_
      refine go_iconst (pc := 20) (v := 1) dX10_links_20 (by decide) ?_
      refine gq_callS_i (pc := 21) (F := wM G o) sX10_141 rfl (tX10_fails h) rfl rfl (Nat.le_of_ble_eq_true rfl) ⟨Nat.le_of_ble_eq_true rfl, Nat.le_of_ble_eq_true rfl, Nat.le_add_right _ _, Nat.le_add_right _ _⟩ dX10_links_21 (fun r14 c13 h => ?_)
      refine gq_callV_i (pc := 24) (F := wM G o) vX10_155 rfl (tX10_answers h) rfl rfl (gz_b (by decide)) yw0 rfl (Nat.le_of_ble_eq_true rfl) ⟨Nat.le_of_ble_eq_true rfl, Nat.le_of_ble_eq_true rfl, Nat.le_add_right _ _, Nat.le_add_right _ _⟩ dX10_links_24 (fun r16 c15 h => ?_)
      exact gq_iret (pc := 27) (F := wM G o) rfl dX10_links_27 h
  · have h := h.1 q3
    refine go_bipush (pc := 8) (v := (-101)) dX10_links_8 (by decide) ?_
    exact gq_iret (pc := 10) (F := wM G o) rfl dX10_links_10 h
def wX10_mayBe_p13 (c : gMem) (Q : Int32 → gMem → Prop) : Prop :=
  Q 1 c
set_option maxRecDepth 100000 in
set_option maxHeartbeats 4000000 in
theorem tX10_mayBe_p13 {l : Launch} {G : gG} {k : Nat} {o : gMem} {Q : Int32 → gMem → Prop} {c : gMem} (h : wX10_mayBe_p13 c Q) : Go l G mX10_mayBe (gbq G 2 46 84 k (qi (wM G o) Q)) 13 [] [] 84 k (wM G o c) := by
  unfold wX10_mayBe_p13 at h
  refine go_iconst (pc := 13) (v := 1) dX10_mayBe_13 (by decide) ?_
  refine go_goto (pc := 14) (tgt := 18) dX10_mayBe_14 (by decide) ?_
  exact gq_zret (pc := 18) (F := wM G o) rfl (by decide) dX10_mayBe_18 h
def wX10_mayBe (l1 : Int32) (c : gMem) (Q : Int32 → gMem → Prop) : Prop :=
  ((l1 = (-1) →
    wX10_mayBe_p13 c Q) ∧
   (¬ l1 = (-1) →
    wX10_isMade l1 c (fun r3 c2 =>
    ((r3 = 0 →
      Q 0 c2) ∧
     (¬ r3 = 0 →
      wX10_mayBe_p13 c2 Q)))))
set_option maxRecDepth 100000 in
set_option maxHeartbeats 4000000 in
theorem tX10_mayBe {l : Launch} {G : gG} {k : Nat} {o : gMem} {Q : Int32 → gMem → Prop} {l1 : Int32} {c : gMem} (h : wX10_mayBe l1 c Q) : Cq l G mX10_mayBe 2 46 [.ref (G.2.1 + 74), .int l1] 84 k (wM G o c) (qi (wM G o) Q) := by
  refine Cq.of (by decide) (Nat.le_of_ble_eq_true rfl) ?_
  show Go l G mX10_mayBe (gbq G 2 46 84 k (qi (wM G o) Q)) 0 [(0, .ref (G.2.1 + 74)), (1, .int l1)] [] 84 k (wM G o c)
  unfold wX10_mayBe at h
  refine go_iload_n (pc := 0) dX10_mayBe_0 rfl rfl ?_
  refine go_iconst (pc := 1) (v := (-1)) dX10_mayBe_1 (by decide) ?_
  refine go_icmp_eq (pc := 2) (tgt := 13) dX10_mayBe_2 (by decide) (fun q1 => ?_) (fun q1 => ?_)
  · have h := h.1 q1
    refine go_lv [] rfl ?_
    exact tX10_mayBe_p13 h
  · have h := h.2 q1
    refine go_aload_n (pc := 5) dX10_mayBe_5 rfl rfl ?_
    refine go_iload_n (pc := 6) dX10_mayBe_6 rfl rfl ?_
    refine gq_callV_i (pc := 7) (F := wM G o) vX10_67 rfl (tX10_isMade h) rfl rfl (gz_b (by decide)) yw0 rfl (Nat.le_of_ble_eq_true rfl) ⟨Nat.le_of_ble_eq_true rfl, Nat.le_of_ble_eq_true rfl, Nat.le_add_right _ _, Nat.le_add_right _ _⟩ dX10_mayBe_7 (fun r3 c2 h => ?_)
    refine go_if_eq (pc := 10) (tgt := 17) dX10_mayBe_10 (by decide) (fun q4 => ?_) (fun q4 => ?_)
    · have h := h.1 q4
      refine go_iconst (pc := 17) (v := 0) dX10_mayBe_17 (by decide) ?_
      exact gq_zret (pc := 18) (F := wM G o) rfl (by decide) dX10_mayBe_18 h
    · have h := h.2 q4
      refine go_lv [] rfl ?_
      exact tX10_mayBe_p13 h
def wX10_relinks_p32 (l1 : Int32) (l2 : Int32) (l3 : Int32) (l4 : Int32) (c : gMem) (Q : gMem → Prop) : Prop :=
  vp_in l4 26100 ∧
  ∀ c1, c1 = mp c 1 l4.toNatClampNeg l3 →
  ∀ v3, v3 = c1 1 3 →
  ((v3 = 1 →
    wX10_mark l3 3 l1 l2 c1 (fun c5 =>
    Q c5)) ∧
   (¬ v3 = 1 →
    Q c1))
set_option maxRecDepth 100000 in
set_option maxHeartbeats 4000000 in
theorem tX10_relinks_p32 {l : Launch} {G : gG} {k : Nat} {o : gMem} {Q : gMem → Prop} {l1 : Int32} {l2 : Int32} {l3 : Int32} {l4 : Int32} {c : gMem} (h : wX10_relinks_p32 l1 l2 l3 l4 c Q) : Go l G mX10_relinks (gbq G 2 47 84 k (qv (wM G o) Q)) 32 [(0, .ref (G.2.1 + 74)), (1, .int l1), (2, .int l2), (3, .int l3), (4, .int l4)] [] 84 k (wM G o c) := by
  unfold wX10_relinks_p32 at h
  refine go_aload_n (pc := 32) dX10_relinks_32 rfl rfl ?_
  refine go_get (pc := 33) fX10_9 rfl (gz_b (by decide)) yw0 rfl dX10_relinks_33 ?_
  refine go_iload (pc := 36) dX10_relinks_36 rfl ?_
  refine go_iload_n (pc := 38) dX10_relinks_38 rfl rfl ?_
  obtain ⟨b2, h⟩ := h
  refine gb_iast (pc := 39) (F := wM G o) (gz_b (by decide)) yw1 b2 ya1 dX10_relinks_39 (fun c1 ec1 => ?_)
  have h := h c1 ec1
  refine go_aload_n (pc := 40) dX10_relinks_40 rfl rfl ?_
  refine go_get (pc := 41) fX10_9 rfl (gz_b (by decide)) yw0 rfl dX10_relinks_41 ?_
  refine go_iconst (pc := 44) (v := 3) dX10_relinks_44 (by decide) ?_
  refine gb_iald (pc := 45) (gz_b (by decide)) yw1 (gv_in (by decide)) dX10_relinks_45 (fun v3 ev3 => ?_)
  have h := h v3 ev3
  refine go_iconst (pc := 46) (v := 1) dX10_relinks_46 (by decide) ?_
  refine go_icmp_ne (pc := 47) (tgt := 58) dX10_relinks_47 (by decide) (fun q4 => ?_) (fun q4 => ?_)
  · have h := h.2 q4
    exact gq_vret (pc := 58) (F := wM G o) rfl dX10_relinks_58 h
  · have h := h.1 q4
    refine go_aload_n (pc := 50) dX10_relinks_50 rfl rfl ?_
    refine go_iload_n (pc := 51) dX10_relinks_51 rfl rfl ?_
    refine go_iconst (pc := 52) (v := 3) dX10_relinks_52 (by decide) ?_
    refine go_iload_n (pc := 53) dX10_relinks_53 rfl rfl ?_
    refine go_iload_n (pc := 54) dX10_relinks_54 rfl rfl ?_
    refine gq_callV_v (pc := 55) (F := wM G o) vX10_86 rfl (tX10_mark h) rfl rfl (gz_b (by decide)) yw0 rfl (Nat.le_of_ble_eq_true rfl) ⟨Nat.le_of_ble_eq_true rfl, Nat.le_of_ble_eq_true rfl, Nat.le_add_right _ _, Nat.le_add_right _ _⟩ dX10_relinks_55 (fun c5 h => ?_)
    exact gq_vret (pc := 58) (F := wM G o) rfl dX10_relinks_58 h
def wX10_relinks (l1 : Int32) (l2 : Int32) (l3 : Int32) (c : gMem) (Q : gMem → Prop) : Prop :=
  wX10_linkAt l1 l2 c (fun r2 c1 =>
  ∀ v3, v3 = c1 1 3 →
  ((v3 = 1 →
    vp_in r2 26100 ∧
    ∀ v5, v5 = c1 1 r2.toNatClampNeg →
    wX10_mark v5 2 l1 l2 c1 (fun c7 =>
    wX10_relinks_p32 l1 l2 l3 r2 c7 Q)) ∧
   (¬ v3 = 1 →
    wX10_relinks_p32 l1 l2 l3 r2 c1 Q)))
set_option maxRecDepth 100000 in
set_option maxHeartbeats 4000000 in
theorem tX10_relinks {l : Launch} {G : gG} {k : Nat} {o : gMem} {Q : gMem → Prop} {l1 : Int32} {l2 : Int32} {l3 : Int32} {c : gMem} (h : wX10_relinks l1 l2 l3 c Q) : Cq l G mX10_relinks 2 47 [.ref (G.2.1 + 74), .int l1, .int l2, .int l3] 84 k (wM G o c) (qv (wM G o) Q) := by
  refine Cq.of (by decide) (Nat.le_of_ble_eq_true rfl) ?_
  show Go l G mX10_relinks (gbq G 2 47 84 k (qv (wM G o) Q)) 0 [(0, .ref (G.2.1 + 74)), (1, .int l1), (2, .int l2), (3, .int l3)] [] 84 k (wM G o c)
  unfold wX10_relinks at h
  refine go_aload_n (pc := 0) dX10_relinks_0 rfl rfl ?_
  refine go_iload_n (pc := 1) dX10_relinks_1 rfl rfl ?_
  refine go_iload_n (pc := 2) dX10_relinks_2 rfl rfl ?_
  refine gq_callV_i (pc := 3) (F := wM G o) vX10_98 rfl (tX10_linkAt h) rfl rfl (gz_b (by decide)) yw0 rfl (Nat.le_of_ble_eq_true rfl) ⟨Nat.le_of_ble_eq_true rfl, Nat.le_of_ble_eq_true rfl, Nat.le_add_right _ _, Nat.le_add_right _ _⟩ dX10_relinks_3 (fun r2 c1 h => ?_)
  refine go_istore (pc := 6) (lv' := [(4, .int r2), (0, .ref (G.2.1 + 74)), (1, .int l1), (2, .int l2), (3, .int l3)]) dX10_relinks_6 (by decide) rfl ?_
  refine go_aload_n (pc := 8) dX10_relinks_8 rfl rfl ?_
  refine go_get (pc := 9) fX10_9 rfl (gz_b (by decide)) yw0 rfl dX10_relinks_9 ?_
  refine go_iconst (pc := 12) (v := 3) dX10_relinks_12 (by decide) ?_
  refine gb_iald (pc := 13) (gz_b (by decide)) yw1 (gv_in (by decide)) dX10_relinks_13 (fun v3 ev3 => ?_)
  have h := h v3 ev3
  refine go_iconst (pc := 14) (v := 1) dX10_relinks_14 (by decide) ?_
  refine go_icmp_ne (pc := 15) (tgt := 32) dX10_relinks_15 (by decide) (fun q4 => ?_) (fun q4 => ?_)
  · have h := h.2 q4
    refine go_lv [1, 2, 3, 4, 0] rfl ?_
    exact tX10_relinks_p32 h
  · have h := h.1 q4
    refine go_aload_n (pc := 18) dX10_relinks_18 rfl rfl ?_
    refine go_aload_n (pc := 19) dX10_relinks_19 rfl rfl ?_
    refine go_get (pc := 20) fX10_9 rfl (gz_b (by decide)) yw0 rfl dX10_relinks_20 ?_
    refine go_iload (pc := 23) dX10_relinks_23 rfl ?_
    obtain ⟨b6, h⟩ := h
    refine gb_iald (pc := 25) (gz_b (by decide)) yw1 b6 dX10_relinks_25 (fun v5 ev5 => ?_)
    have h := h v5 ev5
    refine go_iconst (pc := 26) (v := 2) dX10_relinks_26 (by decide) ?_
    refine go_iload_n (pc := 27) dX10_relinks_27 rfl rfl ?_
    refine go_iload_n (pc := 28) dX10_relinks_28 rfl rfl ?_
    refine gq_callV_v (pc := 29) (F := wM G o) vX10_86 rfl (tX10_mark h) rfl rfl (gz_b (by decide)) yw0 rfl (Nat.le_of_ble_eq_true rfl) ⟨Nat.le_of_ble_eq_true rfl, Nat.le_of_ble_eq_true rfl, Nat.le_add_right _ _, Nat.le_add_right _ _⟩ dX10_relinks_29 (fun c7 h => ?_)
    refine go_lv [1, 2, 3, 4, 0] rfl ?_
    exact tX10_relinks_p32 h
def wX10_linked_p46 (l1 : Int32) (l2 : Int32) (l3 : Int32) (c : gMem) (Q : Int32 → gMem → Prop) : Prop :=
  wX10_linksOf l1 c (fun r2 c1 =>
  wX10_in l2.toInt64 0 ((r2 - 1).toInt64) c1 (fun r4 c3 =>
  ((r4 = 0 →
    wX10_fails 2 c3 (fun r8 c7 =>
    Q r8 c7)) ∧
   (¬ r4 = 0 →
    wX10_relinks l1 l2 l3 c3 (fun c6 =>
    Q 1 c6)))))
set_option maxRecDepth 100000 in
set_option maxHeartbeats 4000000 in
theorem tX10_linked_p46 {l : Launch} {G : gG} {k : Nat} {o : gMem} {Q : Int32 → gMem → Prop} {l1 : Int32} {l2 : Int32} {l3 : Int32} {c : gMem} (h : wX10_linked_p46 l1 l2 l3 c Q) : Go l G mX10_linked (gbq G 3 71 84 k (qi (wM G o) Q)) 46 [(0, .ref (G.2.1 + 74)), (1, .int l1), (2, .int l2), (3, .int l3)] [] 84 k (wM G o c) := by
  unfold wX10_linked_p46 at h
  refine go_iload_n (pc := 46) dX10_linked_46 rfl rfl ?_
  refine go_i2l (pc := 47) dX10_linked_47 ?_
  refine go_lconst (pc := 48) (v := 0) dX10_linked_48 (by decide) ?_
  refine go_aload_n (pc := 49) dX10_linked_49 rfl rfl ?_
  refine go_iload_n (pc := 50) dX10_linked_50 rfl rfl ?_
  refine gq_callV_i (pc := 51) (F := wM G o) vX10_90 rfl (tX10_linksOf h) rfl rfl (gz_b (by decide)) yw0 rfl (Nat.le_of_ble_eq_true rfl) ⟨Nat.le_of_ble_eq_true rfl, Nat.le_of_ble_eq_true rfl, Nat.le_add_right _ _, Nat.le_add_right _ _⟩ dX10_linked_51 (fun r2 c1 h => ?_)
  refine go_iconst (pc := 54) (v := 1) dX10_linked_54 (by decide) ?_
  refine go_isub (pc := 55) dX10_linked_55 ?_
  refine go_i2l (pc := 56) dX10_linked_56 ?_
  refine gq_callS_i (pc := 57) (F := wM G o) sX10_63 rfl (tX10_in h) rfl rfl (Nat.le_of_ble_eq_true rfl) ⟨Nat.le_of_ble_eq_true rfl, Nat.le_of_ble_eq_true rfl, Nat.le_add_right _ _, Nat.le_add_right _ _⟩ dX10_linked_57 (fun r4 c3 h => ?_)
  refine go_if_ne (pc := 60) (tgt := 68) dX10_linked_60 (by decide) (fun q5 => ?_) (fun q5 => ?_)
  · have h := h.2 q5
    refine go_aload_n (pc := 68) dX10_linked_68 rfl rfl ?_
    refine go_iload_n (pc := 69) dX10_linked_69 rfl rfl ?_
    refine go_iload_n (pc := 70) dX10_linked_70 rfl rfl ?_
    refine go_iload_n (pc := 71) dX10_linked_71 rfl rfl ?_
    refine gq_callV_v (pc := 72) (F := wM G o) vX10_161 rfl (tX10_relinks h) rfl rfl (gz_b (by decide)) yw0 rfl (Nat.le_of_ble_eq_true rfl) ⟨Nat.le_of_ble_eq_true rfl, Nat.le_of_ble_eq_true rfl, Nat.le_add_right _ _, Nat.le_add_right _ _⟩ dX10_linked_72 (fun c6 h => ?_)
    refine go_iconst (pc := 75) (v := 1) dX10_linked_75 (by decide) ?_
    exact gq_iret (pc := 76) (F := wM G o) rfl dX10_linked_76 h
  · have h := h.1 q5
    refine go_iconst (pc := 63) (v := 2) dX10_linked_63 (by decide) ?_
    refine gq_callS_i (pc := 64) (F := wM G o) sX10_141 rfl (tX10_fails h) rfl rfl (Nat.le_of_ble_eq_true rfl) ⟨Nat.le_of_ble_eq_true rfl, Nat.le_of_ble_eq_true rfl, Nat.le_add_right _ _, Nat.le_add_right _ _⟩ dX10_linked_64 (fun r8 c7 h => ?_)
    exact gq_iret (pc := 67) (F := wM G o) rfl dX10_linked_67 h
def wX10_linked (l1 : Int32) (l2 : Int32) (l3 : Int32) (c : gMem) (Q : Int32 → gMem → Prop) : Prop :=
  wX10_isGone l1 c (fun r2 c1 =>
  ((r2 = 0 →
    wX10_of l1 1 c1 (fun r5 c4 =>
    ((r5 = 2 →
      wX10_fails 3 c4 (fun r14 c13 =>
      Q r14 c13)) ∧
     (¬ r5 = 2 →
      ((l3 = (-1) →
        wX10_linked_p46 l1 l2 l3 c4 Q) ∧
       (¬ l3 = (-1) →
        wX10_isGone l3 c4 (fun r9 c8 =>
        ((r9 = 0 →
          wX10_linked_p46 l1 l2 l3 c8 Q) ∧
         (¬ r9 = 0 →
          wX10_fails 1 c8 (fun r12 c11 =>
          Q r12 c11)))))))))) ∧
   (¬ r2 = 0 →
    wX10_fails 1 c1 (fun r16 c15 =>
    Q r16 c15))))
set_option maxRecDepth 100000 in
set_option maxHeartbeats 4000000 in
theorem tX10_linked {l : Launch} {G : gG} {k : Nat} {o : gMem} {Q : Int32 → gMem → Prop} {l1 : Int32} {l2 : Int32} {l3 : Int32} {c : gMem} (h : wX10_linked l1 l2 l3 c Q) : Cq l G mX10_linked 3 71 [.ref (G.2.1 + 74), .int l1, .int l2, .int l3] 84 k (wM G o c) (qi (wM G o) Q) := by
  refine Cq.of (by decide) (Nat.le_of_ble_eq_true rfl) ?_
  show Go l G mX10_linked (gbq G 3 71 84 k (qi (wM G o) Q)) 0 [(0, .ref (G.2.1 + 74)), (1, .int l1), (2, .int l2), (3, .int l3)] [] 84 k (wM G o c)
  unfold wX10_linked at h
  refine go_aload_n (pc := 0) dX10_linked_0 rfl rfl ?_
  refine go_iload_n (pc := 1) dX10_linked_1 rfl rfl ?_
  refine gq_callV_i (pc := 2) (F := wM G o) vX10_158 rfl (tX10_isGone h) rfl rfl (gz_b (by decide)) yw0 rfl (Nat.le_of_ble_eq_true rfl) ⟨Nat.le_of_ble_eq_true rfl, Nat.le_of_ble_eq_true rfl, Nat.le_add_right _ _, Nat.le_add_right _ _⟩ dX10_linked_2 (fun r2 c1 h => ?_)
  refine go_if_eq (pc := 5) (tgt := 13) dX10_linked_5 (by decide) (fun q3 => ?_) (fun q3 => ?_)
  · have h := h.1 q3
    refine go_aload_n (pc := 13) dX10_linked_13 rfl rfl ?_
    refine go_iload_n (pc := 14) dX10_linked_14 rfl rfl ?_
    refine go_iconst (pc := 15) (v := 1) dX10_linked_15 (by decide) ?_
    refine gq_callV_i (pc := 16) (F := wM G o) vX10_71 rfl (tX10_of h) rfl rfl (gz_b (by decide)) yw0 rfl (Nat.le_of_ble_eq_true rfl) ⟨Nat.le_of_ble_eq_true rfl, Nat.le_of_ble_eq_true rfl, Nat.le_add_right _ _, Nat.le_add_right _ _⟩ dX10_linked_16 (fun r5 c4 h => ?_)
    refine go_iconst (pc := 19) (v := 2) dX10_linked_19 (by decide) ?_
    refine go_icmp_ne (pc := 20) (tgt := 28) dX10_linked_20 (by decide) (fun q6 => ?_) (fun q6 => ?_)
    · have h := h.2 q6
      refine go_iload_n (pc := 28) dX10_linked_28 rfl rfl ?_
      refine go_iconst (pc := 29) (v := (-1)) dX10_linked_29 (by decide) ?_
      refine go_icmp_eq (pc := 30) (tgt := 46) dX10_linked_30 (by decide) (fun q7 => ?_) (fun q7 => ?_)
      · have h := h.1 q7
        refine go_lv [0, 1, 2, 3] rfl ?_
        exact tX10_linked_p46 h
      · have h := h.2 q7
        refine go_aload_n (pc := 33) dX10_linked_33 rfl rfl ?_
        refine go_iload_n (pc := 34) dX10_linked_34 rfl rfl ?_
        refine gq_callV_i (pc := 35) (F := wM G o) vX10_158 rfl (tX10_isGone h) rfl rfl (gz_b (by decide)) yw0 rfl (Nat.le_of_ble_eq_true rfl) ⟨Nat.le_of_ble_eq_true rfl, Nat.le_of_ble_eq_true rfl, Nat.le_add_right _ _, Nat.le_add_right _ _⟩ dX10_linked_35 (fun r9 c8 h => ?_)
        refine go_if_eq (pc := 38) (tgt := 46) dX10_linked_38 (by decide) (fun q10 => ?_) (fun q10 => ?_)
        · have h := h.1 q10
          refine go_lv [0, 1, 2, 3] rfl ?_
          exact tX10_linked_p46 h
        · have h := h.2 q10
          refine go_iconst (pc := 41) (v := 1) dX10_linked_41 (by decide) ?_
          refine gq_callS_i (pc := 42) (F := wM G o) sX10_141 rfl (tX10_fails h) rfl rfl (Nat.le_of_ble_eq_true rfl) ⟨Nat.le_of_ble_eq_true rfl, Nat.le_of_ble_eq_true rfl, Nat.le_add_right _ _, Nat.le_add_right _ _⟩ dX10_linked_42 (fun r12 c11 h => ?_)
          exact gq_iret (pc := 45) (F := wM G o) rfl dX10_linked_45 h
    · have h := h.1 q6
      refine go_iconst (pc := 23) (v := 3) dX10_linked_23 (by decide) ?_
      refine gq_callS_i (pc := 24) (F := wM G o) sX10_141 rfl (tX10_fails h) rfl rfl (Nat.le_of_ble_eq_true rfl) ⟨Nat.le_of_ble_eq_true rfl, Nat.le_of_ble_eq_true rfl, Nat.le_add_right _ _, Nat.le_add_right _ _⟩ dX10_linked_24 (fun r14 c13 h => ?_)
      exact gq_iret (pc := 27) (F := wM G o) rfl dX10_linked_27 h
  · have h := h.2 q3
    refine go_iconst (pc := 8) (v := 1) dX10_linked_8 (by decide) ?_
    refine gq_callS_i (pc := 9) (F := wM G o) sX10_141 rfl (tX10_fails h) rfl rfl (Nat.le_of_ble_eq_true rfl) ⟨Nat.le_of_ble_eq_true rfl, Nat.le_of_ble_eq_true rfl, Nat.le_add_right _ _, Nat.le_add_right _ _⟩ dX10_linked_9 (fun r16 c15 h => ?_)
    exact gq_iret (pc := 12) (F := wM G o) rfl dX10_linked_12 h
def wX10_link_p16 (c : gMem) (Q : Int32 → gMem → Prop) : Prop :=
  Q ((-101)) c
set_option maxRecDepth 100000 in
set_option maxHeartbeats 4000000 in
theorem tX10_link_p16 {l : Launch} {G : gG} {k : Nat} {o : gMem} {Q : Int32 → gMem → Prop} {c : gMem} (h : wX10_link_p16 c Q) : Go l G mX10_link (gbq G 4 94 84 k (qi (wM G o) Q)) 16 [] [] 84 k (wM G o c) := by
  unfold wX10_link_p16 at h
  refine go_bipush (pc := 16) (v := (-101)) dX10_link_16 (by decide) ?_
  refine go_goto (pc := 18) (tgt := 32) dX10_link_18 (by decide) ?_
  exact gq_iret (pc := 32) (F := wM G o) rfl dX10_link_32 h
def wX10_link (l1 : Int32) (l2 : Int32) (l3 : Int32) (c : gMem) (Q : Int32 → gMem → Prop) : Prop :=
  wX10_isMade l1 c (fun r2 c1 =>
  ((r2 = 0 →
    wX10_link_p16 c1 Q) ∧
   (¬ r2 = 0 →
    wX10_mayBe l3 c1 (fun r5 c4 =>
    ((r5 = 0 →
      wX10_link_p16 c4 Q) ∧
     (¬ r5 = 0 →
      wX10_linked l1 l2 l3 c4 (fun r8 c7 =>
      wX10_answers r8 c7 (fun r10 c9 =>
      Q r10 c9))))))))
set_option maxRecDepth 100000 in
set_option maxHeartbeats 4000000 in
theorem tX10_link {l : Launch} {G : gG} {k : Nat} {o : gMem} {Q : Int32 → gMem → Prop} {l1 : Int32} {l2 : Int32} {l3 : Int32} {c : gMem} (h : wX10_link l1 l2 l3 c Q) : Cq l G mX10_link 4 94 [.ref (G.2.1 + 74), .int l1, .int l2, .int l3] 84 k (wM G o c) (qi (wM G o) Q) := by
  refine Cq.of (by decide) (Nat.le_of_ble_eq_true rfl) ?_
  show Go l G mX10_link (gbq G 4 94 84 k (qi (wM G o) Q)) 0 [(0, .ref (G.2.1 + 74)), (1, .int l1), (2, .int l2), (3, .int l3)] [] 84 k (wM G o c)
  unfold wX10_link at h
  refine go_aload_n (pc := 0) dX10_link_0 rfl rfl ?_
  refine go_iload_n (pc := 1) dX10_link_1 rfl rfl ?_
  refine gq_callV_i (pc := 2) (F := wM G o) vX10_67 rfl (tX10_isMade h) rfl rfl (gz_b (by decide)) yw0 rfl (Nat.le_of_ble_eq_true rfl) ⟨Nat.le_of_ble_eq_true rfl, Nat.le_of_ble_eq_true rfl, Nat.le_add_right _ _, Nat.le_add_right _ _⟩ dX10_link_2 (fun r2 c1 h => ?_)
  refine go_if_eq (pc := 5) (tgt := 16) dX10_link_5 (by decide) (fun q3 => ?_) (fun q3 => ?_)
  · have h := h.1 q3
    refine go_lv [] rfl ?_
    exact tX10_link_p16 h
  · have h := h.2 q3
    refine go_aload_n (pc := 8) dX10_link_8 rfl rfl ?_
    refine go_iload_n (pc := 9) dX10_link_9 rfl rfl ?_
    refine gq_callV_i (pc := 10) (F := wM G o) vX10_164 rfl (tX10_mayBe h) rfl rfl (gz_b (by decide)) yw0 rfl (Nat.le_of_ble_eq_true rfl) ⟨Nat.le_of_ble_eq_true rfl, Nat.le_of_ble_eq_true rfl, Nat.le_add_right _ _, Nat.le_add_right _ _⟩ dX10_link_10 (fun r5 c4 h => ?_)
    refine go_if_ne (pc := 13) (tgt := 21) dX10_link_13 (by decide) (fun q6 => ?_) (fun q6 => ?_)
    · have h := h.2 q6
      refine go_aload_n (pc := 21) dX10_link_21 rfl rfl ?_
      refine go_aload_n (pc := 22) dX10_link_22 rfl rfl ?_
      refine go_iload_n (pc := 23) dX10_link_23 rfl rfl ?_
      refine go_iload_n (pc := 24) dX10_link_24 rfl rfl ?_
      refine go_iload_n (pc := 25) dX10_link_25 rfl rfl ?_
      refine gq_callV_i (pc := 26) (F := wM G o) vX10_167 rfl (tX10_linked h) rfl rfl (gz_b (by decide)) yw0 rfl (Nat.le_of_ble_eq_true rfl) ⟨Nat.le_of_ble_eq_true rfl, Nat.le_of_ble_eq_true rfl, Nat.le_add_right _ _, Nat.le_add_right _ _⟩ dX10_link_26 (fun r8 c7 h => ?_)
      refine gq_callV_i (pc := 29) (F := wM G o) vX10_155 rfl (tX10_answers h) rfl rfl (gz_b (by decide)) yw0 rfl (Nat.le_of_ble_eq_true rfl) ⟨Nat.le_of_ble_eq_true rfl, Nat.le_of_ble_eq_true rfl, Nat.le_add_right _ _, Nat.le_add_right _ _⟩ dX10_link_29 (fun r10 c9 h => ?_)
      exact gq_iret (pc := 32) (F := wM G o) rfl dX10_link_32 h
    · have h := h.1 q6
      refine go_lv [] rfl ?_
      exact tX10_link_p16 h
def wX10_gets (l1 : Int32) (l2 : Int32) (c : gMem) (Q : Int32 → gMem → Prop) : Prop :=
  wX10_isGone l1 c (fun r2 c1 =>
  ((r2 = 0 →
    wX10_of l1 1 c1 (fun r5 c4 =>
    ((r5 = 2 →
      Q 3 c4) ∧
     (¬ r5 = 2 →
      wX10_linksOf l1 c4 (fun r8 c7 =>
      wX10_in l2.toInt64 0 ((r8 - 1).toInt64) c7 (fun r10 c9 =>
      ((r10 = 0 →
        Q 2 c9) ∧
       (¬ r10 = 0 →
        wX10_linkAt l1 l2 c9 (fun r13 c12 =>
        vp_in r13 26100 ∧
        ∀ v14, v14 = c12 1 r13.toNatClampNeg →
        ∀ c16, c16 = mp c12 0 12 v14 →
        Q 0 c16))))))))) ∧
   (¬ r2 = 0 →
    Q 1 c1)))
set_option maxRecDepth 100000 in
set_option maxHeartbeats 4000000 in
theorem tX10_gets {l : Launch} {G : gG} {k : Nat} {o : gMem} {Q : Int32 → gMem → Prop} {l1 : Int32} {l2 : Int32} {c : gMem} (h : wX10_gets l1 l2 c Q) : Cq l G mX10_gets 2 45 [.ref (G.2.1 + 74), .int l1, .int l2] 84 k (wM G o c) (qi (wM G o) Q) := by
  refine Cq.of (by decide) (Nat.le_of_ble_eq_true rfl) ?_
  show Go l G mX10_gets (gbq G 2 45 84 k (qi (wM G o) Q)) 0 [(0, .ref (G.2.1 + 74)), (1, .int l1), (2, .int l2)] [] 84 k (wM G o c)
  unfold wX10_gets at h
  refine go_aload_n (pc := 0) dX10_gets_0 rfl rfl ?_
  refine go_iload_n (pc := 1) dX10_gets_1 rfl rfl ?_
  refine gq_callV_i (pc := 2) (F := wM G o) vX10_158 rfl (tX10_isGone h) rfl rfl (gz_b (by decide)) yw0 rfl (Nat.le_of_ble_eq_true rfl) ⟨Nat.le_of_ble_eq_true rfl, Nat.le_of_ble_eq_true rfl, Nat.le_add_right _ _, Nat.le_add_right _ _⟩ dX10_gets_2 (fun r2 c1 h => ?_)
  refine go_if_eq (pc := 5) (tgt := 10) dX10_gets_5 (by decide) (fun q3 => ?_) (fun q3 => ?_)
  · have h := h.1 q3
    refine go_aload_n (pc := 10) dX10_gets_10 rfl rfl ?_
    refine go_iload_n (pc := 11) dX10_gets_11 rfl rfl ?_
    refine go_iconst (pc := 12) (v := 1) dX10_gets_12 (by decide) ?_
    refine gq_callV_i (pc := 13) (F := wM G o) vX10_71 rfl (tX10_of h) rfl rfl (gz_b (by decide)) yw0 rfl (Nat.le_of_ble_eq_true rfl) ⟨Nat.le_of_ble_eq_true rfl, Nat.le_of_ble_eq_true rfl, Nat.le_add_right _ _, Nat.le_add_right _ _⟩ dX10_gets_13 (fun r5 c4 h => ?_)
    refine go_iconst (pc := 16) (v := 2) dX10_gets_16 (by decide) ?_
    refine go_icmp_ne (pc := 17) (tgt := 22) dX10_gets_17 (by decide) (fun q6 => ?_) (fun q6 => ?_)
    · have h := h.2 q6
      refine go_iload_n (pc := 22) dX10_gets_22 rfl rfl ?_
      refine go_i2l (pc := 23) dX10_gets_23 ?_
      refine go_lconst (pc := 24) (v := 0) dX10_gets_24 (by decide) ?_
      refine go_aload_n (pc := 25) dX10_gets_25 rfl rfl ?_
      refine go_iload_n (pc := 26) dX10_gets_26 rfl rfl ?_
      refine gq_callV_i (pc := 27) (F := wM G o) vX10_90 rfl (tX10_linksOf h) rfl rfl (gz_b (by decide)) yw0 rfl (Nat.le_of_ble_eq_true rfl) ⟨Nat.le_of_ble_eq_true rfl, Nat.le_of_ble_eq_true rfl, Nat.le_add_right _ _, Nat.le_add_right _ _⟩ dX10_gets_27 (fun r8 c7 h => ?_)
      refine go_iconst (pc := 30) (v := 1) dX10_gets_30 (by decide) ?_
      refine go_isub (pc := 31) dX10_gets_31 ?_
      refine go_i2l (pc := 32) dX10_gets_32 ?_
      refine gq_callS_i (pc := 33) (F := wM G o) sX10_63 rfl (tX10_in h) rfl rfl (Nat.le_of_ble_eq_true rfl) ⟨Nat.le_of_ble_eq_true rfl, Nat.le_of_ble_eq_true rfl, Nat.le_add_right _ _, Nat.le_add_right _ _⟩ dX10_gets_33 (fun r10 c9 h => ?_)
      refine go_if_ne (pc := 36) (tgt := 41) dX10_gets_36 (by decide) (fun q11 => ?_) (fun q11 => ?_)
      · have h := h.2 q11
        refine go_aload_n (pc := 41) dX10_gets_41 rfl rfl ?_
        refine go_aload_n (pc := 42) dX10_gets_42 rfl rfl ?_
        refine go_get (pc := 43) fX10_9 rfl (gz_b (by decide)) yw0 rfl dX10_gets_43 ?_
        refine go_aload_n (pc := 46) dX10_gets_46 rfl rfl ?_
        refine go_iload_n (pc := 47) dX10_gets_47 rfl rfl ?_
        refine go_iload_n (pc := 48) dX10_gets_48 rfl rfl ?_
        refine gq_callV_i (pc := 49) (F := wM G o) vX10_98 rfl (tX10_linkAt h) rfl rfl (gz_b (by decide)) yw0 rfl (Nat.le_of_ble_eq_true rfl) ⟨Nat.le_of_ble_eq_true rfl, Nat.le_of_ble_eq_true rfl, Nat.le_add_right _ _, Nat.le_add_right _ _⟩ dX10_gets_49 (fun r13 c12 h => ?_)
        obtain ⟨b15, h⟩ := h
        refine gb_iald (pc := 52) (gz_b (by decide)) yw1 b15 dX10_gets_52 (fun v14 ev14 => ?_)
        have h := h v14 ev14
        refine gb_put (pc := 53) (F := wM G o) fX10_171 rfl (gz_b (by decide)) yw0 (Nat.le_of_ble_eq_true rfl) rfl rfl yp0_12 dX10_gets_53 (fun c16 ec16 => ?_)
        have h := h c16 ec16
        refine go_iconst (pc := 56) (v := 0) dX10_gets_56 (by decide) ?_
        exact gq_iret (pc := 57) (F := wM G o) rfl dX10_gets_57 h
      · have h := h.1 q11
        refine go_iconst (pc := 39) (v := 2) dX10_gets_39 (by decide) ?_
        exact gq_iret (pc := 40) (F := wM G o) rfl dX10_gets_40 h
    · have h := h.1 q6
      refine go_iconst (pc := 20) (v := 3) dX10_gets_20 (by decide) ?_
      exact gq_iret (pc := 21) (F := wM G o) rfl dX10_gets_21 h
  · have h := h.2 q3
    refine go_iconst (pc := 8) (v := 1) dX10_gets_8 (by decide) ?_
    exact gq_iret (pc := 9) (F := wM G o) rfl dX10_gets_9 h
def wX10_by (l1 : Int32) (c : gMem) (Q : Int32 → gMem → Prop) : Prop :=
  ∀ c1, c1 = mp c 0 5 l1 →
  ((l1 ≤ 0 →
    ∀ v3, v3 = c1 0 12 →
    Q v3 c1) ∧
   (¬ l1 ≤ 0 →
    wX10_fails l1 c1 (fun r5 c4 =>
    Q r5 c4)))
set_option maxRecDepth 100000 in
set_option maxHeartbeats 4000000 in
theorem tX10_by {l : Launch} {G : gG} {k : Nat} {o : gMem} {Q : Int32 → gMem → Prop} {l1 : Int32} {c : gMem} (h : wX10_by l1 c Q) : Cq l G mX10_by 1 20 [.ref (G.2.1 + 74), .int l1] 84 k (wM G o c) (qi (wM G o) Q) := by
  refine Cq.of (by decide) (Nat.le_of_ble_eq_true rfl) ?_
  show Go l G mX10_by (gbq G 1 20 84 k (qi (wM G o) Q)) 0 [(0, .ref (G.2.1 + 74)), (1, .int l1)] [] 84 k (wM G o c)
  unfold wX10_by at h
  refine go_aload_n (pc := 0) dX10_by_0 rfl rfl ?_
  refine go_iload_n (pc := 1) dX10_by_1 rfl rfl ?_
  refine gb_put (pc := 2) (F := wM G o) fX10_49 rfl (gz_b (by decide)) yw0 (Nat.le_of_ble_eq_true rfl) rfl rfl yp0_5 dX10_by_2 (fun c1 ec1 => ?_)
  have h := h c1 ec1
  refine go_iload_n (pc := 5) dX10_by_5 rfl rfl ?_
  refine go_if_le (pc := 6) (tgt := 16) dX10_by_6 (by decide) (fun q2 => ?_) (fun q2 => ?_)
  · have h := h.1 q2
    refine go_aload_n (pc := 16) dX10_by_16 rfl rfl ?_
    refine gb_get (pc := 17) fX10_171 rfl (gz_b (by decide)) yw0 rfl dX10_by_17 (fun v3 ev3 => ?_)
    have h := h v3 ev3
    exact gq_iret (pc := 20) (F := wM G o) rfl dX10_by_20 h
  · have h := h.2 q2
    refine go_iload_n (pc := 9) dX10_by_9 rfl rfl ?_
    refine gq_callS_i (pc := 10) (F := wM G o) sX10_141 rfl (tX10_fails h) rfl rfl (Nat.le_of_ble_eq_true rfl) ⟨Nat.le_of_ble_eq_true rfl, Nat.le_of_ble_eq_true rfl, Nat.le_add_right _ _, Nat.le_add_right _ _⟩ dX10_by_10 (fun r5 c4 h => ?_)
    refine go_goto (pc := 13) (tgt := 20) dX10_by_13 (by decide) ?_
    exact gq_iret (pc := 20) (F := wM G o) rfl dX10_by_20 h
def wX10_get (l1 : Int32) (l2 : Int32) (c : gMem) (Q : Int32 → gMem → Prop) : Prop :=
  wX10_isMade l1 c (fun r2 c1 =>
  ((r2 = 0 →
    Q ((-101)) c1) ∧
   (¬ r2 = 0 →
    wX10_gets l1 l2 c1 (fun r5 c4 =>
    wX10_by r5 c4 (fun r7 c6 =>
    Q r7 c6)))))
set_option maxRecDepth 100000 in
set_option maxHeartbeats 4000000 in
theorem tX10_get {l : Launch} {G : gG} {k : Nat} {o : gMem} {Q : Int32 → gMem → Prop} {l1 : Int32} {l2 : Int32} {c : gMem} (h : wX10_get l1 l2 c Q) : Cq l G mX10_get 3 67 [.ref (G.2.1 + 74), .int l1, .int l2] 84 k (wM G o c) (qi (wM G o) Q) := by
  refine Cq.of (by decide) (Nat.le_of_ble_eq_true rfl) ?_
  show Go l G mX10_get (gbq G 3 67 84 k (qi (wM G o) Q)) 0 [(0, .ref (G.2.1 + 74)), (1, .int l1), (2, .int l2)] [] 84 k (wM G o c)
  unfold wX10_get at h
  refine go_aload_n (pc := 0) dX10_get_0 rfl rfl ?_
  refine go_iload_n (pc := 1) dX10_get_1 rfl rfl ?_
  refine gq_callV_i (pc := 2) (F := wM G o) vX10_67 rfl (tX10_isMade h) rfl rfl (gz_b (by decide)) yw0 rfl (Nat.le_of_ble_eq_true rfl) ⟨Nat.le_of_ble_eq_true rfl, Nat.le_of_ble_eq_true rfl, Nat.le_add_right _ _, Nat.le_add_right _ _⟩ dX10_get_2 (fun r2 c1 h => ?_)
  refine go_if_ne (pc := 5) (tgt := 13) dX10_get_5 (by decide) (fun q3 => ?_) (fun q3 => ?_)
  · have h := h.2 q3
    refine go_aload_n (pc := 13) dX10_get_13 rfl rfl ?_
    refine go_aload_n (pc := 14) dX10_get_14 rfl rfl ?_
    refine go_iload_n (pc := 15) dX10_get_15 rfl rfl ?_
    refine go_iload_n (pc := 16) dX10_get_16 rfl rfl ?_
    refine gq_callV_i (pc := 17) (F := wM G o) vX10_174 rfl (tX10_gets h) rfl rfl (gz_b (by decide)) yw0 rfl (Nat.le_of_ble_eq_true rfl) ⟨Nat.le_of_ble_eq_true rfl, Nat.le_of_ble_eq_true rfl, Nat.le_add_right _ _, Nat.le_add_right _ _⟩ dX10_get_17 (fun r5 c4 h => ?_)
    refine gq_callV_i (pc := 20) (F := wM G o) vX10_177 rfl (tX10_by h) rfl rfl (gz_b (by decide)) yw0 rfl (Nat.le_of_ble_eq_true rfl) ⟨Nat.le_of_ble_eq_true rfl, Nat.le_of_ble_eq_true rfl, Nat.le_add_right _ _, Nat.le_add_right _ _⟩ dX10_get_20 (fun r7 c6 h => ?_)
    exact gq_iret (pc := 23) (F := wM G o) rfl dX10_get_23 h
  · have h := h.1 q3
    refine go_bipush (pc := 8) (v := (-101)) dX10_get_8 (by decide) ?_
    refine go_goto (pc := 10) (tgt := 23) dX10_get_10 (by decide) ?_
    exact gq_iret (pc := 23) (F := wM G o) rfl dX10_get_23 h
def wX10_isWeak_p20 (c : gMem) (Q : Int32 → gMem → Prop) : Prop :=
  Q 1 c
set_option maxRecDepth 100000 in
set_option maxHeartbeats 4000000 in
theorem tX10_isWeak_p20 {l : Launch} {G : gG} {k : Nat} {o : gMem} {Q : Int32 → gMem → Prop} {c : gMem} (h : wX10_isWeak_p20 c Q) : Go l G mX10_isWeak (gbq G 1 22 84 k (qi (wM G o) Q)) 20 [] [] 84 k (wM G o c) := by
  unfold wX10_isWeak_p20 at h
  refine go_iconst (pc := 20) (v := 1) dX10_isWeak_20 (by decide) ?_
  refine go_goto (pc := 21) (tgt := 25) dX10_isWeak_21 (by decide) ?_
  exact gq_zret (pc := 25) (F := wM G o) rfl (by decide) dX10_isWeak_25 h
def wX10_isWeak (l1 : Int32) (c : gMem) (Q : Int32 → gMem → Prop) : Prop :=
  wX10_of l1 1 c (fun r2 c1 =>
  ((r2 = 3 →
    wX10_isWeak_p20 c1 Q) ∧
   (¬ r2 = 3 →
    wX10_of l1 1 c1 (fun r5 c4 =>
    ((r5 = 4 →
      wX10_isWeak_p20 c4 Q) ∧
     (¬ r5 = 4 →
      Q 0 c4))))))
set_option maxRecDepth 100000 in
set_option maxHeartbeats 4000000 in
theorem tX10_isWeak {l : Launch} {G : gG} {k : Nat} {o : gMem} {Q : Int32 → gMem → Prop} {l1 : Int32} {c : gMem} (h : wX10_isWeak l1 c Q) : Cq l G mX10_isWeak 1 22 [.ref (G.2.1 + 74), .int l1] 84 k (wM G o c) (qi (wM G o) Q) := by
  refine Cq.of (by decide) (Nat.le_of_ble_eq_true rfl) ?_
  show Go l G mX10_isWeak (gbq G 1 22 84 k (qi (wM G o) Q)) 0 [(0, .ref (G.2.1 + 74)), (1, .int l1)] [] 84 k (wM G o c)
  unfold wX10_isWeak at h
  refine go_aload_n (pc := 0) dX10_isWeak_0 rfl rfl ?_
  refine go_iload_n (pc := 1) dX10_isWeak_1 rfl rfl ?_
  refine go_iconst (pc := 2) (v := 1) dX10_isWeak_2 (by decide) ?_
  refine gq_callV_i (pc := 3) (F := wM G o) vX10_71 rfl (tX10_of h) rfl rfl (gz_b (by decide)) yw0 rfl (Nat.le_of_ble_eq_true rfl) ⟨Nat.le_of_ble_eq_true rfl, Nat.le_of_ble_eq_true rfl, Nat.le_add_right _ _, Nat.le_add_right _ _⟩ dX10_isWeak_3 (fun r2 c1 h => ?_)
  refine go_iconst (pc := 6) (v := 3) dX10_isWeak_6 (by decide) ?_
  refine go_icmp_eq (pc := 7) (tgt := 20) dX10_isWeak_7 (by decide) (fun q3 => ?_) (fun q3 => ?_)
  · have h := h.1 q3
    refine go_lv [] rfl ?_
    exact tX10_isWeak_p20 h
  · have h := h.2 q3
    refine go_aload_n (pc := 10) dX10_isWeak_10 rfl rfl ?_
    refine go_iload_n (pc := 11) dX10_isWeak_11 rfl rfl ?_
    refine go_iconst (pc := 12) (v := 1) dX10_isWeak_12 (by decide) ?_
    refine gq_callV_i (pc := 13) (F := wM G o) vX10_71 rfl (tX10_of h) rfl rfl (gz_b (by decide)) yw0 rfl (Nat.le_of_ble_eq_true rfl) ⟨Nat.le_of_ble_eq_true rfl, Nat.le_of_ble_eq_true rfl, Nat.le_add_right _ _, Nat.le_add_right _ _⟩ dX10_isWeak_13 (fun r5 c4 h => ?_)
    refine go_iconst (pc := 16) (v := 4) dX10_isWeak_16 (by decide) ?_
    refine go_icmp_ne (pc := 17) (tgt := 24) dX10_isWeak_17 (by decide) (fun q6 => ?_) (fun q6 => ?_)
    · have h := h.2 q6
      refine go_iconst (pc := 24) (v := 0) dX10_isWeak_24 (by decide) ?_
      exact gq_zret (pc := 25) (F := wM G o) rfl (by decide) dX10_isWeak_25 h
    · have h := h.1 q6
      refine go_lv [] rfl ?_
      exact tX10_isWeak_p20 h
def wX10_weakens_p44 (l1 : Int32) (l2 : Int32) (c : gMem) (Q : Int32 → gMem → Prop) : Prop :=
  wX10_weakAt l1 c (fun r2 c1 =>
  vp_in r2 26100 ∧
  ∀ c3, c3 = mp c1 1 r2.toNatClampNeg l2 →
  Q 1 c3)
set_option maxRecDepth 100000 in
set_option maxHeartbeats 4000000 in
theorem tX10_weakens_p44 {l : Launch} {G : gG} {k : Nat} {o : gMem} {Q : Int32 → gMem → Prop} {l1 : Int32} {l2 : Int32} {c : gMem} (h : wX10_weakens_p44 l1 l2 c Q) : Go l G mX10_weakens (gbq G 2 43 84 k (qi (wM G o) Q)) 44 [(0, .ref (G.2.1 + 74)), (1, .int l1), (2, .int l2)] [] 84 k (wM G o c) := by
  unfold wX10_weakens_p44 at h
  refine go_aload_n (pc := 44) dX10_weakens_44 rfl rfl ?_
  refine go_get (pc := 45) fX10_9 rfl (gz_b (by decide)) yw0 rfl dX10_weakens_45 ?_
  refine go_aload_n (pc := 48) dX10_weakens_48 rfl rfl ?_
  refine go_iload_n (pc := 49) dX10_weakens_49 rfl rfl ?_
  refine gq_callV_i (pc := 50) (F := wM G o) vX10_120 rfl (tX10_weakAt h) rfl rfl (gz_b (by decide)) yw0 rfl (Nat.le_of_ble_eq_true rfl) ⟨Nat.le_of_ble_eq_true rfl, Nat.le_of_ble_eq_true rfl, Nat.le_add_right _ _, Nat.le_add_right _ _⟩ dX10_weakens_50 (fun r2 c1 h => ?_)
  refine go_iload_n (pc := 53) dX10_weakens_53 rfl rfl ?_
  obtain ⟨b4, h⟩ := h
  refine gb_iast (pc := 54) (F := wM G o) (gz_b (by decide)) yw1 b4 ya1 dX10_weakens_54 (fun c3 ec3 => ?_)
  have h := h c3 ec3
  refine go_iconst (pc := 55) (v := 1) dX10_weakens_55 (by decide) ?_
  exact gq_iret (pc := 56) (F := wM G o) rfl dX10_weakens_56 h
def wX10_weakens (l1 : Int32) (l2 : Int32) (c : gMem) (Q : Int32 → gMem → Prop) : Prop :=
  wX10_isGone l1 c (fun r2 c1 =>
  ((r2 = 0 →
    wX10_isWeak l1 c1 (fun r5 c4 =>
    ((r5 = 0 →
      wX10_fails 3 c4 (fun r14 c13 =>
      Q r14 c13)) ∧
     (¬ r5 = 0 →
      ((l2 = (-1) →
        wX10_weakens_p44 l1 l2 c4 Q) ∧
       (¬ l2 = (-1) →
        wX10_isGone l2 c4 (fun r9 c8 =>
        ((r9 = 0 →
          wX10_weakens_p44 l1 l2 c8 Q) ∧
         (¬ r9 = 0 →
          wX10_fails 1 c8 (fun r12 c11 =>
          Q r12 c11)))))))))) ∧
   (¬ r2 = 0 →
    wX10_fails 1 c1 (fun r16 c15 =>
    Q r16 c15))))
set_option maxRecDepth 100000 in
set_option maxHeartbeats 4000000 in
theorem tX10_weakens {l : Launch} {G : gG} {k : Nat} {o : gMem} {Q : Int32 → gMem → Prop} {l1 : Int32} {l2 : Int32} {c : gMem} (h : wX10_weakens l1 l2 c Q) : Cq l G mX10_weakens 2 43 [.ref (G.2.1 + 74), .int l1, .int l2] 84 k (wM G o c) (qi (wM G o) Q) := by
  refine Cq.of (by decide) (Nat.le_of_ble_eq_true rfl) ?_
  show Go l G mX10_weakens (gbq G 2 43 84 k (qi (wM G o) Q)) 0 [(0, .ref (G.2.1 + 74)), (1, .int l1), (2, .int l2)] [] 84 k (wM G o c)
  unfold wX10_weakens at h
  refine go_aload_n (pc := 0) dX10_weakens_0 rfl rfl ?_
  refine go_iload_n (pc := 1) dX10_weakens_1 rfl rfl ?_
  refine gq_callV_i (pc := 2) (F := wM G o) vX10_158 rfl (tX10_isGone h) rfl rfl (gz_b (by decide)) yw0 rfl (Nat.le_of_ble_eq_true rfl) ⟨Nat.le_of_ble_eq_true rfl, Nat.le_of_ble_eq_true rfl, Nat.le_add_right _ _, Nat.le_add_right _ _⟩ dX10_weakens_2 (fun r2 c1 h => ?_)
  refine go_if_eq (pc := 5) (tgt := 13) dX10_weakens_5 (by decide) (fun q3 => ?_) (fun q3 => ?_)
  · have h := h.1 q3
    refine go_aload_n (pc := 13) dX10_weakens_13 rfl rfl ?_
    refine go_iload_n (pc := 14) dX10_weakens_14 rfl rfl ?_
    refine gq_callV_i (pc := 15) (F := wM G o) vX10_180 rfl (tX10_isWeak h) rfl rfl (gz_b (by decide)) yw0 rfl (Nat.le_of_ble_eq_true rfl) ⟨Nat.le_of_ble_eq_true rfl, Nat.le_of_ble_eq_true rfl, Nat.le_add_right _ _, Nat.le_add_right _ _⟩ dX10_weakens_15 (fun r5 c4 h => ?_)
    refine go_if_ne (pc := 18) (tgt := 26) dX10_weakens_18 (by decide) (fun q6 => ?_) (fun q6 => ?_)
    · have h := h.2 q6
      refine go_iload_n (pc := 26) dX10_weakens_26 rfl rfl ?_
      refine go_iconst (pc := 27) (v := (-1)) dX10_weakens_27 (by decide) ?_
      refine go_icmp_eq (pc := 28) (tgt := 44) dX10_weakens_28 (by decide) (fun q7 => ?_) (fun q7 => ?_)
      · have h := h.1 q7
        refine go_lv [0, 1, 2] rfl ?_
        exact tX10_weakens_p44 h
      · have h := h.2 q7
        refine go_aload_n (pc := 31) dX10_weakens_31 rfl rfl ?_
        refine go_iload_n (pc := 32) dX10_weakens_32 rfl rfl ?_
        refine gq_callV_i (pc := 33) (F := wM G o) vX10_158 rfl (tX10_isGone h) rfl rfl (gz_b (by decide)) yw0 rfl (Nat.le_of_ble_eq_true rfl) ⟨Nat.le_of_ble_eq_true rfl, Nat.le_of_ble_eq_true rfl, Nat.le_add_right _ _, Nat.le_add_right _ _⟩ dX10_weakens_33 (fun r9 c8 h => ?_)
        refine go_if_eq (pc := 36) (tgt := 44) dX10_weakens_36 (by decide) (fun q10 => ?_) (fun q10 => ?_)
        · have h := h.1 q10
          refine go_lv [0, 1, 2] rfl ?_
          exact tX10_weakens_p44 h
        · have h := h.2 q10
          refine go_iconst (pc := 39) (v := 1) dX10_weakens_39 (by decide) ?_
          refine gq_callS_i (pc := 40) (F := wM G o) sX10_141 rfl (tX10_fails h) rfl rfl (Nat.le_of_ble_eq_true rfl) ⟨Nat.le_of_ble_eq_true rfl, Nat.le_of_ble_eq_true rfl, Nat.le_add_right _ _, Nat.le_add_right _ _⟩ dX10_weakens_40 (fun r12 c11 h => ?_)
          exact gq_iret (pc := 43) (F := wM G o) rfl dX10_weakens_43 h
    · have h := h.1 q6
      refine go_iconst (pc := 21) (v := 3) dX10_weakens_21 (by decide) ?_
      refine gq_callS_i (pc := 22) (F := wM G o) sX10_141 rfl (tX10_fails h) rfl rfl (Nat.le_of_ble_eq_true rfl) ⟨Nat.le_of_ble_eq_true rfl, Nat.le_of_ble_eq_true rfl, Nat.le_add_right _ _, Nat.le_add_right _ _⟩ dX10_weakens_22 (fun r14 c13 h => ?_)
      exact gq_iret (pc := 25) (F := wM G o) rfl dX10_weakens_25 h
  · have h := h.2 q3
    refine go_iconst (pc := 8) (v := 1) dX10_weakens_8 (by decide) ?_
    refine gq_callS_i (pc := 9) (F := wM G o) sX10_141 rfl (tX10_fails h) rfl rfl (Nat.le_of_ble_eq_true rfl) ⟨Nat.le_of_ble_eq_true rfl, Nat.le_of_ble_eq_true rfl, Nat.le_add_right _ _, Nat.le_add_right _ _⟩ dX10_weakens_9 (fun r16 c15 h => ?_)
    exact gq_iret (pc := 12) (F := wM G o) rfl dX10_weakens_12 h
def wX10_weaken_p16 (c : gMem) (Q : Int32 → gMem → Prop) : Prop :=
  Q ((-101)) c
set_option maxRecDepth 100000 in
set_option maxHeartbeats 4000000 in
theorem tX10_weaken_p16 {l : Launch} {G : gG} {k : Nat} {o : gMem} {Q : Int32 → gMem → Prop} {c : gMem} (h : wX10_weaken_p16 c Q) : Go l G mX10_weaken (gbq G 3 67 84 k (qi (wM G o) Q)) 16 [] [] 84 k (wM G o c) := by
  unfold wX10_weaken_p16 at h
  refine go_bipush (pc := 16) (v := (-101)) dX10_weaken_16 (by decide) ?_
  refine go_goto (pc := 18) (tgt := 31) dX10_weaken_18 (by decide) ?_
  exact gq_iret (pc := 31) (F := wM G o) rfl dX10_weaken_31 h
def wX10_weaken (l1 : Int32) (l2 : Int32) (c : gMem) (Q : Int32 → gMem → Prop) : Prop :=
  wX10_isMade l1 c (fun r2 c1 =>
  ((r2 = 0 →
    wX10_weaken_p16 c1 Q) ∧
   (¬ r2 = 0 →
    wX10_mayBe l2 c1 (fun r5 c4 =>
    ((r5 = 0 →
      wX10_weaken_p16 c4 Q) ∧
     (¬ r5 = 0 →
      wX10_weakens l1 l2 c4 (fun r8 c7 =>
      wX10_answers r8 c7 (fun r10 c9 =>
      Q r10 c9))))))))
set_option maxRecDepth 100000 in
set_option maxHeartbeats 4000000 in
theorem tX10_weaken {l : Launch} {G : gG} {k : Nat} {o : gMem} {Q : Int32 → gMem → Prop} {l1 : Int32} {l2 : Int32} {c : gMem} (h : wX10_weaken l1 l2 c Q) : Cq l G mX10_weaken 3 67 [.ref (G.2.1 + 74), .int l1, .int l2] 84 k (wM G o c) (qi (wM G o) Q) := by
  refine Cq.of (by decide) (Nat.le_of_ble_eq_true rfl) ?_
  show Go l G mX10_weaken (gbq G 3 67 84 k (qi (wM G o) Q)) 0 [(0, .ref (G.2.1 + 74)), (1, .int l1), (2, .int l2)] [] 84 k (wM G o c)
  unfold wX10_weaken at h
  refine go_aload_n (pc := 0) dX10_weaken_0 rfl rfl ?_
  refine go_iload_n (pc := 1) dX10_weaken_1 rfl rfl ?_
  refine gq_callV_i (pc := 2) (F := wM G o) vX10_67 rfl (tX10_isMade h) rfl rfl (gz_b (by decide)) yw0 rfl (Nat.le_of_ble_eq_true rfl) ⟨Nat.le_of_ble_eq_true rfl, Nat.le_of_ble_eq_true rfl, Nat.le_add_right _ _, Nat.le_add_right _ _⟩ dX10_weaken_2 (fun r2 c1 h => ?_)
  refine go_if_eq (pc := 5) (tgt := 16) dX10_weaken_5 (by decide) (fun q3 => ?_) (fun q3 => ?_)
  · have h := h.1 q3
    refine go_lv [] rfl ?_
    exact tX10_weaken_p16 h
  · have h := h.2 q3
    refine go_aload_n (pc := 8) dX10_weaken_8 rfl rfl ?_
    refine go_iload_n (pc := 9) dX10_weaken_9 rfl rfl ?_
    refine gq_callV_i (pc := 10) (F := wM G o) vX10_164 rfl (tX10_mayBe h) rfl rfl (gz_b (by decide)) yw0 rfl (Nat.le_of_ble_eq_true rfl) ⟨Nat.le_of_ble_eq_true rfl, Nat.le_of_ble_eq_true rfl, Nat.le_add_right _ _, Nat.le_add_right _ _⟩ dX10_weaken_10 (fun r5 c4 h => ?_)
    refine go_if_ne (pc := 13) (tgt := 21) dX10_weaken_13 (by decide) (fun q6 => ?_) (fun q6 => ?_)
    · have h := h.2 q6
      refine go_aload_n (pc := 21) dX10_weaken_21 rfl rfl ?_
      refine go_aload_n (pc := 22) dX10_weaken_22 rfl rfl ?_
      refine go_iload_n (pc := 23) dX10_weaken_23 rfl rfl ?_
      refine go_iload_n (pc := 24) dX10_weaken_24 rfl rfl ?_
      refine gq_callV_i (pc := 25) (F := wM G o) vX10_183 rfl (tX10_weakens h) rfl rfl (gz_b (by decide)) yw0 rfl (Nat.le_of_ble_eq_true rfl) ⟨Nat.le_of_ble_eq_true rfl, Nat.le_of_ble_eq_true rfl, Nat.le_add_right _ _, Nat.le_add_right _ _⟩ dX10_weaken_25 (fun r8 c7 h => ?_)
      refine gq_callV_i (pc := 28) (F := wM G o) vX10_155 rfl (tX10_answers h) rfl rfl (gz_b (by decide)) yw0 rfl (Nat.le_of_ble_eq_true rfl) ⟨Nat.le_of_ble_eq_true rfl, Nat.le_of_ble_eq_true rfl, Nat.le_add_right _ _, Nat.le_add_right _ _⟩ dX10_weaken_28 (fun r10 c9 h => ?_)
      exact gq_iret (pc := 31) (F := wM G o) rfl dX10_weaken_31 h
    · have h := h.1 q6
      refine go_lv [] rfl ?_
      exact tX10_weaken_p16 h
def wX10_looks (l1 : Int32) (c : gMem) (Q : Int32 → gMem → Prop) : Prop :=
  wX10_isGone l1 c (fun r2 c1 =>
  ((r2 = 0 →
    wX10_isWeak l1 c1 (fun r5 c4 =>
    ((r5 = 0 →
      Q 3 c4) ∧
     (¬ r5 = 0 →
      wX10_weakAt l1 c4 (fun r8 c7 =>
      vp_in r8 26100 ∧
      ∀ v9, v9 = c7 1 r8.toNatClampNeg →
      ∀ c11, c11 = mp c7 0 12 v9 →
      ∀ v12, v12 = c11 1 3 →
      ((v12 = 1 →
        ∀ v14, v14 = c11 0 12 →
        wX10_mark v14 4 l1 0 c11 (fun c15 =>
        Q 0 c15)) ∧
       (¬ v12 = 1 →
        Q 0 c11))))))) ∧
   (¬ r2 = 0 →
    Q 1 c1)))
set_option maxRecDepth 100000 in
set_option maxHeartbeats 4000000 in
theorem tX10_looks {l : Launch} {G : gG} {k : Nat} {o : gMem} {Q : Int32 → gMem → Prop} {l1 : Int32} {c : gMem} (h : wX10_looks l1 c Q) : Cq l G mX10_looks 2 47 [.ref (G.2.1 + 74), .int l1] 84 k (wM G o c) (qi (wM G o) Q) := by
  refine Cq.of (by decide) (Nat.le_of_ble_eq_true rfl) ?_
  show Go l G mX10_looks (gbq G 2 47 84 k (qi (wM G o) Q)) 0 [(0, .ref (G.2.1 + 74)), (1, .int l1)] [] 84 k (wM G o c)
  unfold wX10_looks at h
  refine go_aload_n (pc := 0) dX10_looks_0 rfl rfl ?_
  refine go_iload_n (pc := 1) dX10_looks_1 rfl rfl ?_
  refine gq_callV_i (pc := 2) (F := wM G o) vX10_158 rfl (tX10_isGone h) rfl rfl (gz_b (by decide)) yw0 rfl (Nat.le_of_ble_eq_true rfl) ⟨Nat.le_of_ble_eq_true rfl, Nat.le_of_ble_eq_true rfl, Nat.le_add_right _ _, Nat.le_add_right _ _⟩ dX10_looks_2 (fun r2 c1 h => ?_)
  refine go_if_eq (pc := 5) (tgt := 10) dX10_looks_5 (by decide) (fun q3 => ?_) (fun q3 => ?_)
  · have h := h.1 q3
    refine go_aload_n (pc := 10) dX10_looks_10 rfl rfl ?_
    refine go_iload_n (pc := 11) dX10_looks_11 rfl rfl ?_
    refine gq_callV_i (pc := 12) (F := wM G o) vX10_180 rfl (tX10_isWeak h) rfl rfl (gz_b (by decide)) yw0 rfl (Nat.le_of_ble_eq_true rfl) ⟨Nat.le_of_ble_eq_true rfl, Nat.le_of_ble_eq_true rfl, Nat.le_add_right _ _, Nat.le_add_right _ _⟩ dX10_looks_12 (fun r5 c4 h => ?_)
    refine go_if_ne (pc := 15) (tgt := 20) dX10_looks_15 (by decide) (fun q6 => ?_) (fun q6 => ?_)
    · have h := h.2 q6
      refine go_aload_n (pc := 20) dX10_looks_20 rfl rfl ?_
      refine go_aload_n (pc := 21) dX10_looks_21 rfl rfl ?_
      refine go_get (pc := 22) fX10_9 rfl (gz_b (by decide)) yw0 rfl dX10_looks_22 ?_
      refine go_aload_n (pc := 25) dX10_looks_25 rfl rfl ?_
      refine go_iload_n (pc := 26) dX10_looks_26 rfl rfl ?_
      refine gq_callV_i (pc := 27) (F := wM G o) vX10_120 rfl (tX10_weakAt h) rfl rfl (gz_b (by decide)) yw0 rfl (Nat.le_of_ble_eq_true rfl) ⟨Nat.le_of_ble_eq_true rfl, Nat.le_of_ble_eq_true rfl, Nat.le_add_right _ _, Nat.le_add_right _ _⟩ dX10_looks_27 (fun r8 c7 h => ?_)
      obtain ⟨b10, h⟩ := h
      refine gb_iald (pc := 30) (gz_b (by decide)) yw1 b10 dX10_looks_30 (fun v9 ev9 => ?_)
      have h := h v9 ev9
      refine gb_put (pc := 31) (F := wM G o) fX10_171 rfl (gz_b (by decide)) yw0 (Nat.le_of_ble_eq_true rfl) rfl rfl yp0_12 dX10_looks_31 (fun c11 ec11 => ?_)
      have h := h c11 ec11
      refine go_aload_n (pc := 34) dX10_looks_34 rfl rfl ?_
      refine go_get (pc := 35) fX10_9 rfl (gz_b (by decide)) yw0 rfl dX10_looks_35 ?_
      refine go_iconst (pc := 38) (v := 3) dX10_looks_38 (by decide) ?_
      refine gb_iald (pc := 39) (gz_b (by decide)) yw1 (gv_in (by decide)) dX10_looks_39 (fun v12 ev12 => ?_)
      have h := h v12 ev12
      refine go_iconst (pc := 40) (v := 1) dX10_looks_40 (by decide) ?_
      refine go_icmp_ne (pc := 41) (tgt := 55) dX10_looks_41 (by decide) (fun q13 => ?_) (fun q13 => ?_)
      · have h := h.2 q13
        refine go_iconst (pc := 55) (v := 0) dX10_looks_55 (by decide) ?_
        exact gq_iret (pc := 56) (F := wM G o) rfl dX10_looks_56 h
      · have h := h.1 q13
        refine go_aload_n (pc := 44) dX10_looks_44 rfl rfl ?_
        refine go_aload_n (pc := 45) dX10_looks_45 rfl rfl ?_
        refine gb_get (pc := 46) fX10_171 rfl (gz_b (by decide)) yw0 rfl dX10_looks_46 (fun v14 ev14 => ?_)
        have h := h v14 ev14
        refine go_iconst (pc := 49) (v := 4) dX10_looks_49 (by decide) ?_
        refine go_iload_n (pc := 50) dX10_looks_50 rfl rfl ?_
        refine go_iconst (pc := 51) (v := 0) dX10_looks_51 (by decide) ?_
        refine gq_callV_v (pc := 52) (F := wM G o) vX10_86 rfl (tX10_mark h) rfl rfl (gz_b (by decide)) yw0 rfl (Nat.le_of_ble_eq_true rfl) ⟨Nat.le_of_ble_eq_true rfl, Nat.le_of_ble_eq_true rfl, Nat.le_add_right _ _, Nat.le_add_right _ _⟩ dX10_looks_52 (fun c15 h => ?_)
        refine go_iconst (pc := 55) (v := 0) dX10_looks_55 (by decide) ?_
        exact gq_iret (pc := 56) (F := wM G o) rfl dX10_looks_56 h
    · have h := h.1 q6
      refine go_iconst (pc := 18) (v := 3) dX10_looks_18 (by decide) ?_
      exact gq_iret (pc := 19) (F := wM G o) rfl dX10_looks_19 h
  · have h := h.2 q3
    refine go_iconst (pc := 8) (v := 1) dX10_looks_8 (by decide) ?_
    exact gq_iret (pc := 9) (F := wM G o) rfl dX10_looks_9 h
def wX10_look (l1 : Int32) (c : gMem) (Q : Int32 → gMem → Prop) : Prop :=
  wX10_isMade l1 c (fun r2 c1 =>
  ((r2 = 0 →
    Q ((-101)) c1) ∧
   (¬ r2 = 0 →
    wX10_looks l1 c1 (fun r5 c4 =>
    wX10_by r5 c4 (fun r7 c6 =>
    Q r7 c6)))))
set_option maxRecDepth 100000 in
set_option maxHeartbeats 4000000 in
theorem tX10_look {l : Launch} {G : gG} {k : Nat} {o : gMem} {Q : Int32 → gMem → Prop} {l1 : Int32} {c : gMem} (h : wX10_look l1 c Q) : Cq l G mX10_look 3 68 [.ref (G.2.1 + 74), .int l1] 84 k (wM G o c) (qi (wM G o) Q) := by
  refine Cq.of (by decide) (Nat.le_of_ble_eq_true rfl) ?_
  show Go l G mX10_look (gbq G 3 68 84 k (qi (wM G o) Q)) 0 [(0, .ref (G.2.1 + 74)), (1, .int l1)] [] 84 k (wM G o c)
  unfold wX10_look at h
  refine go_aload_n (pc := 0) dX10_look_0 rfl rfl ?_
  refine go_iload_n (pc := 1) dX10_look_1 rfl rfl ?_
  refine gq_callV_i (pc := 2) (F := wM G o) vX10_67 rfl (tX10_isMade h) rfl rfl (gz_b (by decide)) yw0 rfl (Nat.le_of_ble_eq_true rfl) ⟨Nat.le_of_ble_eq_true rfl, Nat.le_of_ble_eq_true rfl, Nat.le_add_right _ _, Nat.le_add_right _ _⟩ dX10_look_2 (fun r2 c1 h => ?_)
  refine go_if_ne (pc := 5) (tgt := 13) dX10_look_5 (by decide) (fun q3 => ?_) (fun q3 => ?_)
  · have h := h.2 q3
    refine go_aload_n (pc := 13) dX10_look_13 rfl rfl ?_
    refine go_aload_n (pc := 14) dX10_look_14 rfl rfl ?_
    refine go_iload_n (pc := 15) dX10_look_15 rfl rfl ?_
    refine gq_callV_i (pc := 16) (F := wM G o) vX10_186 rfl (tX10_looks h) rfl rfl (gz_b (by decide)) yw0 rfl (Nat.le_of_ble_eq_true rfl) ⟨Nat.le_of_ble_eq_true rfl, Nat.le_of_ble_eq_true rfl, Nat.le_add_right _ _, Nat.le_add_right _ _⟩ dX10_look_16 (fun r5 c4 h => ?_)
    refine gq_callV_i (pc := 19) (F := wM G o) vX10_177 rfl (tX10_by h) rfl rfl (gz_b (by decide)) yw0 rfl (Nat.le_of_ble_eq_true rfl) ⟨Nat.le_of_ble_eq_true rfl, Nat.le_of_ble_eq_true rfl, Nat.le_add_right _ _, Nat.le_add_right _ _⟩ dX10_look_19 (fun r7 c6 h => ?_)
    exact gq_iret (pc := 22) (F := wM G o) rfl dX10_look_22 h
  · have h := h.1 q3
    refine go_bipush (pc := 8) (v := (-101)) dX10_look_8 (by decide) ?_
    refine go_goto (pc := 10) (tgt := 22) dX10_look_10 (by decide) ?_
    exact gq_iret (pc := 22) (F := wM G o) rfl dX10_look_22 h
def wX10_number_p72 (l3 : Int32) (c : gMem) (Q : Int32 → gMem → Prop) : Prop :=
  wX10_by l3 c (fun r2 c1 =>
  Q r2 c1)
set_option maxRecDepth 100000 in
set_option maxHeartbeats 4000000 in
theorem tX10_number_p72 {l : Launch} {G : gG} {k : Nat} {o : gMem} {Q : Int32 → gMem → Prop} {l3 : Int32} {c : gMem} (h : wX10_number_p72 l3 c Q) : Go l G mX10_number (gbq G 2 46 84 k (qi (wM G o) Q)) 72 [(0, .ref (G.2.1 + 74)), (3, .int l3)] [] 84 k (wM G o c) := by
  unfold wX10_number_p72 at h
  refine go_aload_n (pc := 72) dX10_number_72 rfl rfl ?_
  refine go_iload_n (pc := 73) dX10_number_73 rfl rfl ?_
  refine gq_callV_i (pc := 74) (F := wM G o) vX10_177 rfl (tX10_by h) rfl rfl (gz_b (by decide)) yw0 rfl (Nat.le_of_ble_eq_true rfl) ⟨Nat.le_of_ble_eq_true rfl, Nat.le_of_ble_eq_true rfl, Nat.le_add_right _ _, Nat.le_add_right _ _⟩ dX10_number_74 (fun r2 c1 h => ?_)
  exact gq_iret (pc := 77) (F := wM G o) rfl dX10_number_77 h
def wX10_number_p38 (l1 : Int32) (l2 : Int32) (s0 : Int32) (c : gMem) (Q : Int32 → gMem → Prop) : Prop :=
  ((s0 = 0 →
    wX10_weakAt l1 c (fun r3 c2 =>
    vp_in (r3 + 1) 26100 ∧
    ∀ v4, v4 = c2 1 (r3 + 1).toNatClampNeg →
    ∀ c6, c6 = mp c2 0 12 v4 →
    wX10_weakAt l1 c6 (fun r8 c7 =>
    vp_in (r8 + 1) 26100 ∧
    ∀ c9, c9 = mp c7 1 (r8 + 1).toNatClampNeg l2 →
    wX10_number_p72 s0 c9 Q))) ∧
   (¬ s0 = 0 →
    wX10_number_p72 s0 c Q))
set_option maxRecDepth 100000 in
set_option maxHeartbeats 4000000 in
theorem tX10_number_p38 {l : Launch} {G : gG} {k : Nat} {o : gMem} {Q : Int32 → gMem → Prop} {l1 : Int32} {l2 : Int32} {s0 : Int32} {c : gMem} (h : wX10_number_p38 l1 l2 s0 c Q) : Go l G mX10_number (gbq G 2 46 84 k (qi (wM G o) Q)) 38 [(0, .ref (G.2.1 + 74)), (1, .int l1), (2, .int l2)] [.int s0] 84 k (wM G o c) := by
  unfold wX10_number_p38 at h
  refine go_istore_n (pc := 38) (lv' := [(3, .int s0), (0, .ref (G.2.1 + 74)), (1, .int l1), (2, .int l2)]) dX10_number_38 rfl (by decide) rfl ?_
  refine go_iload_n (pc := 39) dX10_number_39 rfl rfl ?_
  refine go_if_ne (pc := 40) (tgt := 72) dX10_number_40 (by decide) (fun q1 => ?_) (fun q1 => ?_)
  · have h := h.2 q1
    refine go_lv [1, 0] rfl ?_
    exact tX10_number_p72 h
  · have h := h.1 q1
    refine go_aload_n (pc := 43) dX10_number_43 rfl rfl ?_
    refine go_aload_n (pc := 44) dX10_number_44 rfl rfl ?_
    refine go_get (pc := 45) fX10_9 rfl (gz_b (by decide)) yw0 rfl dX10_number_45 ?_
    refine go_aload_n (pc := 48) dX10_number_48 rfl rfl ?_
    refine go_iload_n (pc := 49) dX10_number_49 rfl rfl ?_
    refine gq_callV_i (pc := 50) (F := wM G o) vX10_120 rfl (tX10_weakAt h) rfl rfl (gz_b (by decide)) yw0 rfl (Nat.le_of_ble_eq_true rfl) ⟨Nat.le_of_ble_eq_true rfl, Nat.le_of_ble_eq_true rfl, Nat.le_add_right _ _, Nat.le_add_right _ _⟩ dX10_number_50 (fun r3 c2 h => ?_)
    refine go_iconst (pc := 53) (v := 1) dX10_number_53 (by decide) ?_
    refine go_iadd (pc := 54) dX10_number_54 ?_
    obtain ⟨b5, h⟩ := h
    refine gb_iald (pc := 55) (gz_b (by decide)) yw1 b5 dX10_number_55 (fun v4 ev4 => ?_)
    have h := h v4 ev4
    refine gb_put (pc := 56) (F := wM G o) fX10_171 rfl (gz_b (by decide)) yw0 (Nat.le_of_ble_eq_true rfl) rfl rfl yp0_12 dX10_number_56 (fun c6 ec6 => ?_)
    have h := h c6 ec6
    refine go_aload_n (pc := 59) dX10_number_59 rfl rfl ?_
    refine go_get (pc := 60) fX10_9 rfl (gz_b (by decide)) yw0 rfl dX10_number_60 ?_
    refine go_aload_n (pc := 63) dX10_number_63 rfl rfl ?_
    refine go_iload_n (pc := 64) dX10_number_64 rfl rfl ?_
    refine gq_callV_i (pc := 65) (F := wM G o) vX10_120 rfl (tX10_weakAt h) rfl rfl (gz_b (by decide)) yw0 rfl (Nat.le_of_ble_eq_true rfl) ⟨Nat.le_of_ble_eq_true rfl, Nat.le_of_ble_eq_true rfl, Nat.le_add_right _ _, Nat.le_add_right _ _⟩ dX10_number_65 (fun r8 c7 h => ?_)
    refine go_iconst (pc := 68) (v := 1) dX10_number_68 (by decide) ?_
    refine go_iadd (pc := 69) dX10_number_69 ?_
    refine go_iload_n (pc := 70) dX10_number_70 rfl rfl ?_
    obtain ⟨b10, h⟩ := h
    refine gb_iast (pc := 71) (F := wM G o) (gz_b (by decide)) yw1 b10 ya1 dX10_number_71 (fun c9 ec9 => ?_)
    have h := h c9 ec9
    refine go_lv [1, 0] rfl ?_
    exact tX10_number_p72 h
def wX10_number (l1 : Int32) (l2 : Int32) (c : gMem) (Q : Int32 → gMem → Prop) : Prop :=
  wX10_isMade l1 c (fun r2 c1 =>
  ((r2 = 0 →
    Q ((-101)) c1) ∧
   (¬ r2 = 0 →
    wX10_isGone l1 c1 (fun r5 c4 =>
    ((r5 = 0 →
      wX10_of l1 1 c4 (fun r8 c7 =>
      ((r8 = 4 →
        wX10_number_p38 l1 l2 0 c7 Q) ∧
       (¬ r8 = 4 →
        wX10_number_p38 l1 l2 3 c7 Q)))) ∧
     (¬ r5 = 0 →
      wX10_number_p38 l1 l2 1 c4 Q))))))
set_option maxRecDepth 100000 in
set_option maxHeartbeats 4000000 in
theorem tX10_number {l : Launch} {G : gG} {k : Nat} {o : gMem} {Q : Int32 → gMem → Prop} {l1 : Int32} {l2 : Int32} {c : gMem} (h : wX10_number l1 l2 c Q) : Cq l G mX10_number 2 46 [.ref (G.2.1 + 74), .int l1, .int l2] 84 k (wM G o c) (qi (wM G o) Q) := by
  refine Cq.of (by decide) (Nat.le_of_ble_eq_true rfl) ?_
  show Go l G mX10_number (gbq G 2 46 84 k (qi (wM G o) Q)) 0 [(0, .ref (G.2.1 + 74)), (1, .int l1), (2, .int l2)] [] 84 k (wM G o c)
  unfold wX10_number at h
  refine go_aload_n (pc := 0) dX10_number_0 rfl rfl ?_
  refine go_iload_n (pc := 1) dX10_number_1 rfl rfl ?_
  refine gq_callV_i (pc := 2) (F := wM G o) vX10_67 rfl (tX10_isMade h) rfl rfl (gz_b (by decide)) yw0 rfl (Nat.le_of_ble_eq_true rfl) ⟨Nat.le_of_ble_eq_true rfl, Nat.le_of_ble_eq_true rfl, Nat.le_add_right _ _, Nat.le_add_right _ _⟩ dX10_number_2 (fun r2 c1 h => ?_)
  refine go_if_ne (pc := 5) (tgt := 11) dX10_number_5 (by decide) (fun q3 => ?_) (fun q3 => ?_)
  · have h := h.2 q3
    refine go_aload_n (pc := 11) dX10_number_11 rfl rfl ?_
    refine go_iload_n (pc := 12) dX10_number_12 rfl rfl ?_
    refine gq_callV_i (pc := 13) (F := wM G o) vX10_158 rfl (tX10_isGone h) rfl rfl (gz_b (by decide)) yw0 rfl (Nat.le_of_ble_eq_true rfl) ⟨Nat.le_of_ble_eq_true rfl, Nat.le_of_ble_eq_true rfl, Nat.le_add_right _ _, Nat.le_add_right _ _⟩ dX10_number_13 (fun r5 c4 h => ?_)
    refine go_if_eq (pc := 16) (tgt := 23) dX10_number_16 (by decide) (fun q6 => ?_) (fun q6 => ?_)
    · have h := h.1 q6
      refine go_aload_n (pc := 23) dX10_number_23 rfl rfl ?_
      refine go_iload_n (pc := 24) dX10_number_24 rfl rfl ?_
      refine go_iconst (pc := 25) (v := 1) dX10_number_25 (by decide) ?_
      refine gq_callV_i (pc := 26) (F := wM G o) vX10_71 rfl (tX10_of h) rfl rfl (gz_b (by decide)) yw0 rfl (Nat.le_of_ble_eq_true rfl) ⟨Nat.le_of_ble_eq_true rfl, Nat.le_of_ble_eq_true rfl, Nat.le_add_right _ _, Nat.le_add_right _ _⟩ dX10_number_26 (fun r8 c7 h => ?_)
      refine go_iconst (pc := 29) (v := 4) dX10_number_29 (by decide) ?_
      refine go_icmp_eq (pc := 30) (tgt := 37) dX10_number_30 (by decide) (fun q9 => ?_) (fun q9 => ?_)
      · have h := h.1 q9
        refine go_iconst (pc := 37) (v := 0) dX10_number_37 (by decide) ?_
        refine go_lv [0, 1, 2] rfl ?_
        exact tX10_number_p38 h
      · have h := h.2 q9
        refine go_iconst (pc := 33) (v := 3) dX10_number_33 (by decide) ?_
        refine go_goto (pc := 34) (tgt := 38) dX10_number_34 (by decide) ?_
        refine go_lv [0, 1, 2] rfl ?_
        exact tX10_number_p38 h
    · have h := h.2 q6
      refine go_iconst (pc := 19) (v := 1) dX10_number_19 (by decide) ?_
      refine go_goto (pc := 20) (tgt := 38) dX10_number_20 (by decide) ?_
      refine go_lv [0, 1, 2] rfl ?_
      exact tX10_number_p38 h
  · have h := h.1 q3
    refine go_bipush (pc := 8) (v := (-101)) dX10_number_8 (by decide) ?_
    exact gq_iret (pc := 10) (F := wM G o) rfl dX10_number_10 h
def wX10_byteFails (l1 : Int32) (l2 : Int32) (c : gMem) (Q : Int32 → gMem → Prop) : Prop :=
  wX10_isGone l1 c (fun r2 c1 =>
  ((r2 = 0 →
    wX10_of l1 1 c1 (fun r5 c4 =>
    ((r5 = 2 →
      wX10_of l1 3 c4 (fun r8 c7 =>
      wX10_in l2.toInt64 0 ((r8 - 1).toInt64) c7 (fun r10 c9 =>
      ((r10 = 0 →
        Q 2 c9) ∧
       (¬ r10 = 0 →
        Q 0 c9))))) ∧
     (¬ r5 = 2 →
      Q 3 c4)))) ∧
   (¬ r2 = 0 →
    Q 1 c1)))
set_option maxRecDepth 100000 in
set_option maxHeartbeats 4000000 in
theorem tX10_byteFails {l : Launch} {G : gG} {k : Nat} {o : gMem} {Q : Int32 → gMem → Prop} {l1 : Int32} {l2 : Int32} {c : gMem} (h : wX10_byteFails l1 l2 c Q) : Cq l G mX10_byteFails 2 43 [.ref (G.2.1 + 74), .int l1, .int l2] 84 k (wM G o c) (qi (wM G o) Q) := by
  refine Cq.of (by decide) (Nat.le_of_ble_eq_true rfl) ?_
  show Go l G mX10_byteFails (gbq G 2 43 84 k (qi (wM G o) Q)) 0 [(0, .ref (G.2.1 + 74)), (1, .int l1), (2, .int l2)] [] 84 k (wM G o c)
  unfold wX10_byteFails at h
  refine go_aload_n (pc := 0) dX10_byteFails_0 rfl rfl ?_
  refine go_iload_n (pc := 1) dX10_byteFails_1 rfl rfl ?_
  refine gq_callV_i (pc := 2) (F := wM G o) vX10_158 rfl (tX10_isGone h) rfl rfl (gz_b (by decide)) yw0 rfl (Nat.le_of_ble_eq_true rfl) ⟨Nat.le_of_ble_eq_true rfl, Nat.le_of_ble_eq_true rfl, Nat.le_add_right _ _, Nat.le_add_right _ _⟩ dX10_byteFails_2 (fun r2 c1 h => ?_)
  refine go_if_eq (pc := 5) (tgt := 12) dX10_byteFails_5 (by decide) (fun q3 => ?_) (fun q3 => ?_)
  · have h := h.1 q3
    refine go_aload_n (pc := 12) dX10_byteFails_12 rfl rfl ?_
    refine go_iload_n (pc := 13) dX10_byteFails_13 rfl rfl ?_
    refine go_iconst (pc := 14) (v := 1) dX10_byteFails_14 (by decide) ?_
    refine gq_callV_i (pc := 15) (F := wM G o) vX10_71 rfl (tX10_of h) rfl rfl (gz_b (by decide)) yw0 rfl (Nat.le_of_ble_eq_true rfl) ⟨Nat.le_of_ble_eq_true rfl, Nat.le_of_ble_eq_true rfl, Nat.le_add_right _ _, Nat.le_add_right _ _⟩ dX10_byteFails_15 (fun r5 c4 h => ?_)
    refine go_iconst (pc := 18) (v := 2) dX10_byteFails_18 (by decide) ?_
    refine go_icmp_eq (pc := 19) (tgt := 26) dX10_byteFails_19 (by decide) (fun q6 => ?_) (fun q6 => ?_)
    · have h := h.1 q6
      refine go_iload_n (pc := 26) dX10_byteFails_26 rfl rfl ?_
      refine go_i2l (pc := 27) dX10_byteFails_27 ?_
      refine go_lconst (pc := 28) (v := 0) dX10_byteFails_28 (by decide) ?_
      refine go_aload_n (pc := 29) dX10_byteFails_29 rfl rfl ?_
      refine go_iload_n (pc := 30) dX10_byteFails_30 rfl rfl ?_
      refine go_iconst (pc := 31) (v := 3) dX10_byteFails_31 (by decide) ?_
      refine gq_callV_i (pc := 32) (F := wM G o) vX10_71 rfl (tX10_of h) rfl rfl (gz_b (by decide)) yw0 rfl (Nat.le_of_ble_eq_true rfl) ⟨Nat.le_of_ble_eq_true rfl, Nat.le_of_ble_eq_true rfl, Nat.le_add_right _ _, Nat.le_add_right _ _⟩ dX10_byteFails_32 (fun r8 c7 h => ?_)
      refine go_iconst (pc := 35) (v := 1) dX10_byteFails_35 (by decide) ?_
      refine go_isub (pc := 36) dX10_byteFails_36 ?_
      refine go_i2l (pc := 37) dX10_byteFails_37 ?_
      refine gq_callS_i (pc := 38) (F := wM G o) sX10_63 rfl (tX10_in h) rfl rfl (Nat.le_of_ble_eq_true rfl) ⟨Nat.le_of_ble_eq_true rfl, Nat.le_of_ble_eq_true rfl, Nat.le_add_right _ _, Nat.le_add_right _ _⟩ dX10_byteFails_38 (fun r10 c9 h => ?_)
      refine go_if_ne (pc := 41) (tgt := 48) dX10_byteFails_41 (by decide) (fun q11 => ?_) (fun q11 => ?_)
      · have h := h.2 q11
        refine go_iconst (pc := 48) (v := 0) dX10_byteFails_48 (by decide) ?_
        exact gq_iret (pc := 49) (F := wM G o) rfl dX10_byteFails_49 h
      · have h := h.1 q11
        refine go_iconst (pc := 44) (v := 2) dX10_byteFails_44 (by decide) ?_
        refine go_goto (pc := 45) (tgt := 49) dX10_byteFails_45 (by decide) ?_
        exact gq_iret (pc := 49) (F := wM G o) rfl dX10_byteFails_49 h
    · have h := h.2 q6
      refine go_iconst (pc := 22) (v := 3) dX10_byteFails_22 (by decide) ?_
      refine go_goto (pc := 23) (tgt := 49) dX10_byteFails_23 (by decide) ?_
      exact gq_iret (pc := 49) (F := wM G o) rfl dX10_byteFails_49 h
  · have h := h.2 q3
    refine go_iconst (pc := 8) (v := 1) dX10_byteFails_8 (by decide) ?_
    refine go_goto (pc := 9) (tgt := 49) dX10_byteFails_9 (by decide) ?_
    exact gq_iret (pc := 49) (F := wM G o) rfl dX10_byteFails_49 h
def wX10_puts (l1 : Int32) (l2 : Int32) (l3 : Int32) (c : gMem) (Q : Int32 → gMem → Prop) : Prop :=
  wX10_byteFails l1 l2 c (fun r2 c1 =>
  ((r2 = 0 →
    wX10_of l1 2 c1 (fun r5 c4 =>
    vp_in (((6100 + r5) + 2) + (l2 / 4)) 26100 ∧
    ∀ v6, v6 = c4 1 (((6100 + r5) + 2) + (l2 / 4)).toNatClampNeg →
    ∀ c8, c8 = mp c4 0 12 ((v6 >>> ((8 * (l2 - (l2 / 4) * 4)) &&& 31)) &&& 255) →
    vp_in (((6100 + r5) + 2) + (l2 / 4)) 26100 ∧
    ∀ v9, v9 = c8 1 (((6100 + r5) + 2) + (l2 / 4)).toNatClampNeg →
    vp_in (((6100 + r5) + 2) + (l2 / 4)) 26100 ∧
    ∀ c11, c11 = mp c8 1 (((6100 + r5) + 2) + (l2 / 4)).toNatClampNeg ((v9 &&& ((255 <<< ((8 * (l2 - (l2 / 4) * 4)) &&& 31)) ^^^ ((-1)))) ||| ((l3 &&& 255) <<< ((8 * (l2 - (l2 / 4) * 4)) &&& 31))) →
    Q r2 c11)) ∧
   (¬ r2 = 0 →
    Q r2 c1)))
set_option maxRecDepth 100000 in
set_option maxHeartbeats 4000000 in
theorem tX10_puts {l : Launch} {G : gG} {k : Nat} {o : gMem} {Q : Int32 → gMem → Prop} {l1 : Int32} {l2 : Int32} {l3 : Int32} {c : gMem} (h : wX10_puts l1 l2 l3 c Q) : Cq l G mX10_puts 3 65 [.ref (G.2.1 + 74), .int l1, .int l2, .int l3] 84 k (wM G o c) (qi (wM G o) Q) := by
  refine Cq.of (by decide) (Nat.le_of_ble_eq_true rfl) ?_
  show Go l G mX10_puts (gbq G 3 65 84 k (qi (wM G o) Q)) 0 [(0, .ref (G.2.1 + 74)), (1, .int l1), (2, .int l2), (3, .int l3)] [] 84 k (wM G o c)
  unfold wX10_puts at h
  refine go_aload_n (pc := 0) dX10_puts_0 rfl rfl ?_
  refine go_iload_n (pc := 1) dX10_puts_1 rfl rfl ?_
  refine go_iload_n (pc := 2) dX10_puts_2 rfl rfl ?_
  refine gq_callV_i (pc := 3) (F := wM G o) vX10_189 rfl (tX10_byteFails h) rfl rfl (gz_b (by decide)) yw0 rfl (Nat.le_of_ble_eq_true rfl) ⟨Nat.le_of_ble_eq_true rfl, Nat.le_of_ble_eq_true rfl, Nat.le_add_right _ _, Nat.le_add_right _ _⟩ dX10_puts_3 (fun r2 c1 h => ?_)
  refine go_istore (pc := 6) (lv' := [(4, .int r2), (0, .ref (G.2.1 + 74)), (1, .int l1), (2, .int l2), (3, .int l3)]) dX10_puts_6 (by decide) rfl ?_
  refine go_iload (pc := 8) dX10_puts_8 rfl ?_
  refine go_if_ne (pc := 10) (tgt := 89) dX10_puts_10 (by decide) (fun q3 => ?_) (fun q3 => ?_)
  · have h := h.2 q3
    refine go_iload (pc := 89) dX10_puts_89 rfl ?_
    exact gq_iret (pc := 91) (F := wM G o) rfl dX10_puts_91 h
  · have h := h.1 q3
    refine go_sipush (pc := 13) (v := 6100) dX10_puts_13 (by decide) ?_
    refine go_aload_n (pc := 16) dX10_puts_16 rfl rfl ?_
    refine go_iload_n (pc := 17) dX10_puts_17 rfl rfl ?_
    refine go_iconst (pc := 18) (v := 2) dX10_puts_18 (by decide) ?_
    refine gq_callV_i (pc := 19) (F := wM G o) vX10_71 rfl (tX10_of h) rfl rfl (gz_b (by decide)) yw0 rfl (Nat.le_of_ble_eq_true rfl) ⟨Nat.le_of_ble_eq_true rfl, Nat.le_of_ble_eq_true rfl, Nat.le_add_right _ _, Nat.le_add_right _ _⟩ dX10_puts_19 (fun r5 c4 h => ?_)
    refine go_iadd (pc := 22) dX10_puts_22 ?_
    refine go_iconst (pc := 23) (v := 2) dX10_puts_23 (by decide) ?_
    refine go_iadd (pc := 24) dX10_puts_24 ?_
    refine go_iload_n (pc := 25) dX10_puts_25 rfl rfl ?_
    refine go_iconst (pc := 26) (v := 4) dX10_puts_26 (by decide) ?_
    refine go_idiv (pc := 27) dX10_puts_27 (by decide) ?_
    refine go_iadd (pc := 28) dX10_puts_28 ?_
    refine go_istore (pc := 29) (lv' := [(5, .int (((6100 + r5) + 2) + (l2 / 4))), (4, .int r2), (0, .ref (G.2.1 + 74)), (1, .int l1), (2, .int l2), (3, .int l3)]) dX10_puts_29 (by decide) rfl ?_
    refine go_bipush (pc := 31) (v := 8) dX10_puts_31 (by decide) ?_
    refine go_iload_n (pc := 33) dX10_puts_33 rfl rfl ?_
    refine go_iconst (pc := 34) (v := 4) dX10_puts_34 (by decide) ?_
    refine go_irem (pc := 35) dX10_puts_35 (by decide) ?_
    refine go_imul (pc := 36) dX10_puts_36 ?_
    refine go_istore (pc := 37) (lv' := [(6, .int (8 * (l2 - (l2 / 4) * 4))), (5, .int (((6100 + r5) + 2) + (l2 / 4))), (4, .int r2), (0, .ref (G.2.1 + 74)), (1, .int l1), (2, .int l2), (3, .int l3)]) dX10_puts_37 (by decide) rfl ?_
    refine go_aload_n (pc := 39) dX10_puts_39 rfl rfl ?_
    refine go_aload_n (pc := 40) dX10_puts_40 rfl rfl ?_
    refine go_get (pc := 41) fX10_9 rfl (gz_b (by decide)) yw0 rfl dX10_puts_41 ?_
    refine go_iload (pc := 44) dX10_puts_44 rfl ?_
    obtain ⟨b7, h⟩ := h
    refine gb_iald (pc := 46) (gz_b (by decide)) yw1 b7 dX10_puts_46 (fun v6 ev6 => ?_)
    have h := h v6 ev6
    refine go_iload (pc := 47) dX10_puts_47 rfl ?_
    refine go_ishr (pc := 49) dX10_puts_49 ?_
    refine go_sipush (pc := 50) (v := 255) dX10_puts_50 (by decide) ?_
    refine go_iand (pc := 53) dX10_puts_53 ?_
    refine gb_put (pc := 54) (F := wM G o) fX10_171 rfl (gz_b (by decide)) yw0 (Nat.le_of_ble_eq_true rfl) rfl rfl yp0_12 dX10_puts_54 (fun c8 ec8 => ?_)
    have h := h c8 ec8
    refine go_aload_n (pc := 57) dX10_puts_57 rfl rfl ?_
    refine go_get (pc := 58) fX10_9 rfl (gz_b (by decide)) yw0 rfl dX10_puts_58 ?_
    refine go_iload (pc := 61) dX10_puts_61 rfl ?_
    refine go_aload_n (pc := 63) dX10_puts_63 rfl rfl ?_
    refine go_get (pc := 64) fX10_9 rfl (gz_b (by decide)) yw0 rfl dX10_puts_64 ?_
    refine go_iload (pc := 67) dX10_puts_67 rfl ?_
    obtain ⟨b10, h⟩ := h
    refine gb_iald (pc := 69) (gz_b (by decide)) yw1 b10 dX10_puts_69 (fun v9 ev9 => ?_)
    have h := h v9 ev9
    refine go_sipush (pc := 70) (v := 255) dX10_puts_70 (by decide) ?_
    refine go_iload (pc := 73) dX10_puts_73 rfl ?_
    refine go_ishl (pc := 75) dX10_puts_75 ?_
    refine go_iconst (pc := 76) (v := (-1)) dX10_puts_76 (by decide) ?_
    refine go_ixor (pc := 77) dX10_puts_77 ?_
    refine go_iand (pc := 78) dX10_puts_78 ?_
    refine go_iload_n (pc := 79) dX10_puts_79 rfl rfl ?_
    refine go_sipush (pc := 80) (v := 255) dX10_puts_80 (by decide) ?_
    refine go_iand (pc := 83) dX10_puts_83 ?_
    refine go_iload (pc := 84) dX10_puts_84 rfl ?_
    refine go_ishl (pc := 86) dX10_puts_86 ?_
    refine go_ior (pc := 87) dX10_puts_87 ?_
    obtain ⟨b12, h⟩ := h
    refine gb_iast (pc := 88) (F := wM G o) (gz_b (by decide)) yw1 b12 ya1 dX10_puts_88 (fun c11 ec11 => ?_)
    have h := h c11 ec11
    refine go_iload (pc := 89) dX10_puts_89 rfl ?_
    exact gq_iret (pc := 91) (F := wM G o) rfl dX10_puts_91 h
def wX10_put (l1 : Int32) (l2 : Int32) (l3 : Int32) (c : gMem) (Q : Int32 → gMem → Prop) : Prop :=
  wX10_isMade l1 c (fun r2 c1 =>
  ((r2 = 0 →
    Q ((-101)) c1) ∧
   (¬ r2 = 0 →
    wX10_puts l1 l2 l3 c1 (fun r5 c4 =>
    wX10_by r5 c4 (fun r7 c6 =>
    Q r7 c6)))))
set_option maxRecDepth 100000 in
set_option maxHeartbeats 4000000 in
theorem tX10_put {l : Launch} {G : gG} {k : Nat} {o : gMem} {Q : Int32 → gMem → Prop} {l1 : Int32} {l2 : Int32} {l3 : Int32} {c : gMem} (h : wX10_put l1 l2 l3 c Q) : Cq l G mX10_put 4 91 [.ref (G.2.1 + 74), .int l1, .int l2, .int l3] 84 k (wM G o c) (qi (wM G o) Q) := by
  refine Cq.of (by decide) (Nat.le_of_ble_eq_true rfl) ?_
  show Go l G mX10_put (gbq G 4 91 84 k (qi (wM G o) Q)) 0 [(0, .ref (G.2.1 + 74)), (1, .int l1), (2, .int l2), (3, .int l3)] [] 84 k (wM G o c)
  unfold wX10_put at h
  refine go_aload_n (pc := 0) dX10_put_0 rfl rfl ?_
  refine go_iload_n (pc := 1) dX10_put_1 rfl rfl ?_
  refine gq_callV_i (pc := 2) (F := wM G o) vX10_67 rfl (tX10_isMade h) rfl rfl (gz_b (by decide)) yw0 rfl (Nat.le_of_ble_eq_true rfl) ⟨Nat.le_of_ble_eq_true rfl, Nat.le_of_ble_eq_true rfl, Nat.le_add_right _ _, Nat.le_add_right _ _⟩ dX10_put_2 (fun r2 c1 h => ?_)
  refine go_if_ne (pc := 5) (tgt := 13) dX10_put_5 (by decide) (fun q3 => ?_) (fun q3 => ?_)
  · have h := h.2 q3
    refine go_aload_n (pc := 13) dX10_put_13 rfl rfl ?_
    refine go_aload_n (pc := 14) dX10_put_14 rfl rfl ?_
    refine go_iload_n (pc := 15) dX10_put_15 rfl rfl ?_
    refine go_iload_n (pc := 16) dX10_put_16 rfl rfl ?_
    refine go_iload_n (pc := 17) dX10_put_17 rfl rfl ?_
    refine gq_callV_i (pc := 18) (F := wM G o) vX10_192 rfl (tX10_puts h) rfl rfl (gz_b (by decide)) yw0 rfl (Nat.le_of_ble_eq_true rfl) ⟨Nat.le_of_ble_eq_true rfl, Nat.le_of_ble_eq_true rfl, Nat.le_add_right _ _, Nat.le_add_right _ _⟩ dX10_put_18 (fun r5 c4 h => ?_)
    refine gq_callV_i (pc := 21) (F := wM G o) vX10_177 rfl (tX10_by h) rfl rfl (gz_b (by decide)) yw0 rfl (Nat.le_of_ble_eq_true rfl) ⟨Nat.le_of_ble_eq_true rfl, Nat.le_of_ble_eq_true rfl, Nat.le_add_right _ _, Nat.le_add_right _ _⟩ dX10_put_21 (fun r7 c6 h => ?_)
    exact gq_iret (pc := 24) (F := wM G o) rfl dX10_put_24 h
  · have h := h.1 q3
    refine go_bipush (pc := 8) (v := (-101)) dX10_put_8 (by decide) ?_
    refine go_goto (pc := 10) (tgt := 24) dX10_put_10 (by decide) ?_
    exact gq_iret (pc := 24) (F := wM G o) rfl dX10_put_24 h
def wX10_byteAt_p59 (l3 : Int32) (s0 : Int32) (c : gMem) (Q : Int32 → gMem → Prop) : Prop :=
  ∀ c1, c1 = mp c 0 12 s0 →
  wX10_by l3 c1 (fun r3 c2 =>
  Q r3 c2)
set_option maxRecDepth 100000 in
set_option maxHeartbeats 4000000 in
theorem tX10_byteAt_p59 {l : Launch} {G : gG} {k : Nat} {o : gMem} {Q : Int32 → gMem → Prop} {l3 : Int32} {s0 : Int32} {c : gMem} (h : wX10_byteAt_p59 l3 s0 c Q) : Go l G mX10_byteAt (gbq G 3 65 84 k (qi (wM G o) Q)) 59 [(0, .ref (G.2.1 + 74)), (3, .int l3)] [.int s0, .ref (G.2.1 + 74)] 84 k (wM G o c) := by
  unfold wX10_byteAt_p59 at h
  refine gb_put (pc := 59) (F := wM G o) fX10_171 rfl (gz_b (by decide)) yw0 (Nat.le_of_ble_eq_true rfl) rfl rfl yp0_12 dX10_byteAt_59 (fun c1 ec1 => ?_)
  have h := h c1 ec1
  refine go_aload_n (pc := 62) dX10_byteAt_62 rfl rfl ?_
  refine go_iload_n (pc := 63) dX10_byteAt_63 rfl rfl ?_
  refine gq_callV_i (pc := 64) (F := wM G o) vX10_177 rfl (tX10_by h) rfl rfl (gz_b (by decide)) yw0 rfl (Nat.le_of_ble_eq_true rfl) ⟨Nat.le_of_ble_eq_true rfl, Nat.le_of_ble_eq_true rfl, Nat.le_add_right _ _, Nat.le_add_right _ _⟩ dX10_byteAt_64 (fun r3 c2 h => ?_)
  exact gq_iret (pc := 67) (F := wM G o) rfl dX10_byteAt_67 h
def wX10_byteAt (l1 : Int32) (l2 : Int32) (c : gMem) (Q : Int32 → gMem → Prop) : Prop :=
  wX10_isMade l1 c (fun r2 c1 =>
  ((r2 = 0 →
    Q ((-101)) c1) ∧
   (¬ r2 = 0 →
    wX10_byteFails l1 l2 c1 (fun r5 c4 =>
    ((r5 ≤ 0 →
      wX10_of l1 2 c4 (fun r8 c7 =>
      vp_in (((6100 + r8) + 2) + (l2 / 4)) 26100 ∧
      ∀ v9, v9 = c7 1 (((6100 + r8) + 2) + (l2 / 4)).toNatClampNeg →
      wX10_byteAt_p59 r5 ((v9 >>> ((8 * (l2 - (l2 / 4) * 4)) &&& 31)) &&& 255) c7 Q)) ∧
     (¬ r5 ≤ 0 →
      wX10_byteAt_p59 r5 0 c4 Q))))))
set_option maxRecDepth 100000 in
set_option maxHeartbeats 4000000 in
theorem tX10_byteAt {l : Launch} {G : gG} {k : Nat} {o : gMem} {Q : Int32 → gMem → Prop} {l1 : Int32} {l2 : Int32} {c : gMem} (h : wX10_byteAt l1 l2 c Q) : Cq l G mX10_byteAt 3 65 [.ref (G.2.1 + 74), .int l1, .int l2] 84 k (wM G o c) (qi (wM G o) Q) := by
  refine Cq.of (by decide) (Nat.le_of_ble_eq_true rfl) ?_
  show Go l G mX10_byteAt (gbq G 3 65 84 k (qi (wM G o) Q)) 0 [(0, .ref (G.2.1 + 74)), (1, .int l1), (2, .int l2)] [] 84 k (wM G o c)
  unfold wX10_byteAt at h
  refine go_aload_n (pc := 0) dX10_byteAt_0 rfl rfl ?_
  refine go_iload_n (pc := 1) dX10_byteAt_1 rfl rfl ?_
  refine gq_callV_i (pc := 2) (F := wM G o) vX10_67 rfl (tX10_isMade h) rfl rfl (gz_b (by decide)) yw0 rfl (Nat.le_of_ble_eq_true rfl) ⟨Nat.le_of_ble_eq_true rfl, Nat.le_of_ble_eq_true rfl, Nat.le_add_right _ _, Nat.le_add_right _ _⟩ dX10_byteAt_2 (fun r2 c1 h => ?_)
  refine go_if_ne (pc := 5) (tgt := 11) dX10_byteAt_5 (by decide) (fun q3 => ?_) (fun q3 => ?_)
  · have h := h.2 q3
    refine go_aload_n (pc := 11) dX10_byteAt_11 rfl rfl ?_
    refine go_iload_n (pc := 12) dX10_byteAt_12 rfl rfl ?_
    refine go_iload_n (pc := 13) dX10_byteAt_13 rfl rfl ?_
    refine gq_callV_i (pc := 14) (F := wM G o) vX10_189 rfl (tX10_byteFails h) rfl rfl (gz_b (by decide)) yw0 rfl (Nat.le_of_ble_eq_true rfl) ⟨Nat.le_of_ble_eq_true rfl, Nat.le_of_ble_eq_true rfl, Nat.le_add_right _ _, Nat.le_add_right _ _⟩ dX10_byteAt_14 (fun r5 c4 h => ?_)
    refine go_istore_n (pc := 17) (lv' := [(3, .int r5), (0, .ref (G.2.1 + 74)), (1, .int l1), (2, .int l2)]) dX10_byteAt_17 rfl (by decide) rfl ?_
    refine go_aload_n (pc := 18) dX10_byteAt_18 rfl rfl ?_
    refine go_iload_n (pc := 19) dX10_byteAt_19 rfl rfl ?_
    refine go_if_le (pc := 20) (tgt := 27) dX10_byteAt_20 (by decide) (fun q6 => ?_) (fun q6 => ?_)
    · have h := h.1 q6
      refine go_aload_n (pc := 27) dX10_byteAt_27 rfl rfl ?_
      refine go_get (pc := 28) fX10_9 rfl (gz_b (by decide)) yw0 rfl dX10_byteAt_28 ?_
      refine go_sipush (pc := 31) (v := 6100) dX10_byteAt_31 (by decide) ?_
      refine go_aload_n (pc := 34) dX10_byteAt_34 rfl rfl ?_
      refine go_iload_n (pc := 35) dX10_byteAt_35 rfl rfl ?_
      refine go_iconst (pc := 36) (v := 2) dX10_byteAt_36 (by decide) ?_
      refine gq_callV_i (pc := 37) (F := wM G o) vX10_71 rfl (tX10_of h) rfl rfl (gz_b (by decide)) yw0 rfl (Nat.le_of_ble_eq_true rfl) ⟨Nat.le_of_ble_eq_true rfl, Nat.le_of_ble_eq_true rfl, Nat.le_add_right _ _, Nat.le_add_right _ _⟩ dX10_byteAt_37 (fun r8 c7 h => ?_)
      refine go_iadd (pc := 40) dX10_byteAt_40 ?_
      refine go_iconst (pc := 41) (v := 2) dX10_byteAt_41 (by decide) ?_
      refine go_iadd (pc := 42) dX10_byteAt_42 ?_
      refine go_iload_n (pc := 43) dX10_byteAt_43 rfl rfl ?_
      refine go_iconst (pc := 44) (v := 4) dX10_byteAt_44 (by decide) ?_
      refine go_idiv (pc := 45) dX10_byteAt_45 (by decide) ?_
      refine go_iadd (pc := 46) dX10_byteAt_46 ?_
      obtain ⟨b10, h⟩ := h
      refine gb_iald (pc := 47) (gz_b (by decide)) yw1 b10 dX10_byteAt_47 (fun v9 ev9 => ?_)
      have h := h v9 ev9
      refine go_bipush (pc := 48) (v := 8) dX10_byteAt_48 (by decide) ?_
      refine go_iload_n (pc := 50) dX10_byteAt_50 rfl rfl ?_
      refine go_iconst (pc := 51) (v := 4) dX10_byteAt_51 (by decide) ?_
      refine go_irem (pc := 52) dX10_byteAt_52 (by decide) ?_
      refine go_imul (pc := 53) dX10_byteAt_53 ?_
      refine go_ishr (pc := 54) dX10_byteAt_54 ?_
      refine go_sipush (pc := 55) (v := 255) dX10_byteAt_55 (by decide) ?_
      refine go_iand (pc := 58) dX10_byteAt_58 ?_
      refine go_lv [1, 0] rfl ?_
      exact tX10_byteAt_p59 h
    · have h := h.2 q6
      refine go_iconst (pc := 23) (v := 0) dX10_byteAt_23 (by decide) ?_
      refine go_goto (pc := 24) (tgt := 59) dX10_byteAt_24 (by decide) ?_
      refine go_lv [1, 0] rfl ?_
      exact tX10_byteAt_p59 h
  · have h := h.1 q3
    refine go_bipush (pc := 8) (v := (-101)) dX10_byteAt_8 (by decide) ?_
    exact gq_iret (pc := 10) (F := wM G o) rfl dX10_byteAt_10 h
def wX10_keyAt (l1 : Int32) (l2 : Int32) (c : gMem) (Q : Int32 → gMem → Prop) : Prop :=
  wX10_of l1 2 c (fun r2 c1 =>
  wX10_of l1 3 c1 (fun r4 c3 =>
  Q ((((6100 + r2) + 2) + r4) + l2) c3))
set_option maxRecDepth 100000 in
set_option maxHeartbeats 4000000 in
theorem tX10_keyAt {l : Launch} {G : gG} {k : Nat} {o : gMem} {Q : Int32 → gMem → Prop} {l1 : Int32} {l2 : Int32} {c : gMem} (h : wX10_keyAt l1 l2 c Q) : Cq l G mX10_keyAt 1 22 [.ref (G.2.1 + 74), .int l1, .int l2] 84 k (wM G o c) (qi (wM G o) Q) := by
  refine Cq.of (by decide) (Nat.le_of_ble_eq_true rfl) ?_
  show Go l G mX10_keyAt (gbq G 1 22 84 k (qi (wM G o) Q)) 0 [(0, .ref (G.2.1 + 74)), (1, .int l1), (2, .int l2)] [] 84 k (wM G o c)
  unfold wX10_keyAt at h
  refine go_sipush (pc := 0) (v := 6100) dX10_keyAt_0 (by decide) ?_
  refine go_aload_n (pc := 3) dX10_keyAt_3 rfl rfl ?_
  refine go_iload_n (pc := 4) dX10_keyAt_4 rfl rfl ?_
  refine go_iconst (pc := 5) (v := 2) dX10_keyAt_5 (by decide) ?_
  refine gq_callV_i (pc := 6) (F := wM G o) vX10_71 rfl (tX10_of h) rfl rfl (gz_b (by decide)) yw0 rfl (Nat.le_of_ble_eq_true rfl) ⟨Nat.le_of_ble_eq_true rfl, Nat.le_of_ble_eq_true rfl, Nat.le_add_right _ _, Nat.le_add_right _ _⟩ dX10_keyAt_6 (fun r2 c1 h => ?_)
  refine go_iadd (pc := 9) dX10_keyAt_9 ?_
  refine go_iconst (pc := 10) (v := 2) dX10_keyAt_10 (by decide) ?_
  refine go_iadd (pc := 11) dX10_keyAt_11 ?_
  refine go_aload_n (pc := 12) dX10_keyAt_12 rfl rfl ?_
  refine go_iload_n (pc := 13) dX10_keyAt_13 rfl rfl ?_
  refine go_iconst (pc := 14) (v := 3) dX10_keyAt_14 (by decide) ?_
  refine gq_callV_i (pc := 15) (F := wM G o) vX10_71 rfl (tX10_of h) rfl rfl (gz_b (by decide)) yw0 rfl (Nat.le_of_ble_eq_true rfl) ⟨Nat.le_of_ble_eq_true rfl, Nat.le_of_ble_eq_true rfl, Nat.le_add_right _ _, Nat.le_add_right _ _⟩ dX10_keyAt_15 (fun r4 c3 h => ?_)
  refine go_iadd (pc := 18) dX10_keyAt_18 ?_
  refine go_iload_n (pc := 19) dX10_keyAt_19 rfl rfl ?_
  refine go_iadd (pc := 20) dX10_keyAt_20 ?_
  exact gq_iret (pc := 21) (F := wM G o) rfl dX10_keyAt_21 h
def wX10_key_p79 (l4 : Int32) (c : gMem) (Q : Int32 → gMem → Prop) : Prop :=
  ∀ c1, c1 = mp c 0 12 1 →
  wX10_by l4 c1 (fun r3 c2 =>
  Q r3 c2)
set_option maxRecDepth 100000 in
set_option maxHeartbeats 4000000 in
theorem tX10_key_p79 {l : Launch} {G : gG} {k : Nat} {o : gMem} {Q : Int32 → gMem → Prop} {l4 : Int32} {c : gMem} (h : wX10_key_p79 l4 c Q) : Go l G mX10_key (gbq G 2 46 84 k (qi (wM G o) Q)) 79 [(0, .ref (G.2.1 + 74)), (4, .int l4)] [] 84 k (wM G o c) := by
  unfold wX10_key_p79 at h
  refine go_aload_n (pc := 79) dX10_key_79 rfl rfl ?_
  refine go_iconst (pc := 80) (v := 1) dX10_key_80 (by decide) ?_
  refine gb_put (pc := 81) (F := wM G o) fX10_171 rfl (gz_b (by decide)) yw0 (Nat.le_of_ble_eq_true rfl) rfl rfl yp0_12 dX10_key_81 (fun c1 ec1 => ?_)
  have h := h c1 ec1
  refine go_aload_n (pc := 84) dX10_key_84 rfl rfl ?_
  refine go_iload (pc := 85) dX10_key_85 rfl ?_
  refine gq_callV_i (pc := 87) (F := wM G o) vX10_177 rfl (tX10_by h) rfl rfl (gz_b (by decide)) yw0 rfl (Nat.le_of_ble_eq_true rfl) ⟨Nat.le_of_ble_eq_true rfl, Nat.le_of_ble_eq_true rfl, Nat.le_add_right _ _, Nat.le_add_right _ _⟩ dX10_key_87 (fun r3 c2 h => ?_)
  exact gq_iret (pc := 90) (F := wM G o) rfl dX10_key_90 h
def wX10_key_p60 (l1 : Int32) (l2 : Int32) (l3 : Int32) (s0 : Int32) (c : gMem) (Q : Int32 → gMem → Prop) : Prop :=
  ((s0 = 0 →
    wX10_keyAt l1 l2 c (fun r3 c2 =>
    vp_in r3 26100 ∧
    ∀ c4, c4 = mp c2 1 r3.toNatClampNeg l3 →
    wX10_key_p79 s0 c4 Q)) ∧
   (¬ s0 = 0 →
    wX10_key_p79 s0 c Q))
set_option maxRecDepth 100000 in
set_option maxHeartbeats 4000000 in
theorem tX10_key_p60 {l : Launch} {G : gG} {k : Nat} {o : gMem} {Q : Int32 → gMem → Prop} {l1 : Int32} {l2 : Int32} {l3 : Int32} {s0 : Int32} {c : gMem} (h : wX10_key_p60 l1 l2 l3 s0 c Q) : Go l G mX10_key (gbq G 2 46 84 k (qi (wM G o) Q)) 60 [(0, .ref (G.2.1 + 74)), (1, .int l1), (2, .int l2), (3, .int l3)] [.int s0] 84 k (wM G o c) := by
  unfold wX10_key_p60 at h
  refine go_istore (pc := 60) (lv' := [(4, .int s0), (0, .ref (G.2.1 + 74)), (1, .int l1), (2, .int l2), (3, .int l3)]) dX10_key_60 (by decide) rfl ?_
  refine go_iload (pc := 62) dX10_key_62 rfl ?_
  refine go_if_ne (pc := 64) (tgt := 79) dX10_key_64 (by decide) (fun q1 => ?_) (fun q1 => ?_)
  · have h := h.2 q1
    refine go_lv [1, 0] rfl ?_
    exact tX10_key_p79 h
  · have h := h.1 q1
    refine go_aload_n (pc := 67) dX10_key_67 rfl rfl ?_
    refine go_get (pc := 68) fX10_9 rfl (gz_b (by decide)) yw0 rfl dX10_key_68 ?_
    refine go_aload_n (pc := 71) dX10_key_71 rfl rfl ?_
    refine go_iload_n (pc := 72) dX10_key_72 rfl rfl ?_
    refine go_iload_n (pc := 73) dX10_key_73 rfl rfl ?_
    refine gq_callV_i (pc := 74) (F := wM G o) vX10_195 rfl (tX10_keyAt h) rfl rfl (gz_b (by decide)) yw0 rfl (Nat.le_of_ble_eq_true rfl) ⟨Nat.le_of_ble_eq_true rfl, Nat.le_of_ble_eq_true rfl, Nat.le_add_right _ _, Nat.le_add_right _ _⟩ dX10_key_74 (fun r3 c2 h => ?_)
    refine go_iload_n (pc := 77) dX10_key_77 rfl rfl ?_
    obtain ⟨b5, h⟩ := h
    refine gb_iast (pc := 78) (F := wM G o) (gz_b (by decide)) yw1 b5 ya1 dX10_key_78 (fun c4 ec4 => ?_)
    have h := h c4 ec4
    refine go_lv [1, 0] rfl ?_
    exact tX10_key_p79 h
def wX10_key (l1 : Int32) (l2 : Int32) (l3 : Int32) (c : gMem) (Q : Int32 → gMem → Prop) : Prop :=
  wX10_isMade l1 c (fun r2 c1 =>
  ((r2 = 0 →
    Q ((-101)) c1) ∧
   (¬ r2 = 0 →
    wX10_isGone l1 c1 (fun r5 c4 =>
    ((r5 = 0 →
      wX10_of l1 1 c4 (fun r8 c7 =>
      ((r8 = 5 →
        wX10_of l1 3 c7 (fun r11 c10 =>
        wX10_in l2.toInt64 0 ((r11 - 1).toInt64) c10 (fun r13 c12 =>
        ((r13 = 0 →
          wX10_key_p60 l1 l2 l3 2 c12 Q) ∧
         (¬ r13 = 0 →
          wX10_key_p60 l1 l2 l3 0 c12 Q))))) ∧
       (¬ r8 = 5 →
        wX10_key_p60 l1 l2 l3 3 c7 Q)))) ∧
     (¬ r5 = 0 →
      wX10_key_p60 l1 l2 l3 1 c4 Q))))))
set_option maxRecDepth 100000 in
set_option maxHeartbeats 4000000 in
theorem tX10_key {l : Launch} {G : gG} {k : Nat} {o : gMem} {Q : Int32 → gMem → Prop} {l1 : Int32} {l2 : Int32} {l3 : Int32} {c : gMem} (h : wX10_key l1 l2 l3 c Q) : Cq l G mX10_key 2 46 [.ref (G.2.1 + 74), .int l1, .int l2, .int l3] 84 k (wM G o c) (qi (wM G o) Q) := by
  refine Cq.of (by decide) (Nat.le_of_ble_eq_true rfl) ?_
  show Go l G mX10_key (gbq G 2 46 84 k (qi (wM G o) Q)) 0 [(0, .ref (G.2.1 + 74)), (1, .int l1), (2, .int l2), (3, .int l3)] [] 84 k (wM G o c)
  unfold wX10_key at h
  refine go_aload_n (pc := 0) dX10_key_0 rfl rfl ?_
  refine go_iload_n (pc := 1) dX10_key_1 rfl rfl ?_
  refine gq_callV_i (pc := 2) (F := wM G o) vX10_67 rfl (tX10_isMade h) rfl rfl (gz_b (by decide)) yw0 rfl (Nat.le_of_ble_eq_true rfl) ⟨Nat.le_of_ble_eq_true rfl, Nat.le_of_ble_eq_true rfl, Nat.le_add_right _ _, Nat.le_add_right _ _⟩ dX10_key_2 (fun r2 c1 h => ?_)
  refine go_if_ne (pc := 5) (tgt := 11) dX10_key_5 (by decide) (fun q3 => ?_) (fun q3 => ?_)
  · have h := h.2 q3
    refine go_aload_n (pc := 11) dX10_key_11 rfl rfl ?_
    refine go_iload_n (pc := 12) dX10_key_12 rfl rfl ?_
    refine gq_callV_i (pc := 13) (F := wM G o) vX10_158 rfl (tX10_isGone h) rfl rfl (gz_b (by decide)) yw0 rfl (Nat.le_of_ble_eq_true rfl) ⟨Nat.le_of_ble_eq_true rfl, Nat.le_of_ble_eq_true rfl, Nat.le_add_right _ _, Nat.le_add_right _ _⟩ dX10_key_13 (fun r5 c4 h => ?_)
    refine go_if_eq (pc := 16) (tgt := 23) dX10_key_16 (by decide) (fun q6 => ?_) (fun q6 => ?_)
    · have h := h.1 q6
      refine go_aload_n (pc := 23) dX10_key_23 rfl rfl ?_
      refine go_iload_n (pc := 24) dX10_key_24 rfl rfl ?_
      refine go_iconst (pc := 25) (v := 1) dX10_key_25 (by decide) ?_
      refine gq_callV_i (pc := 26) (F := wM G o) vX10_71 rfl (tX10_of h) rfl rfl (gz_b (by decide)) yw0 rfl (Nat.le_of_ble_eq_true rfl) ⟨Nat.le_of_ble_eq_true rfl, Nat.le_of_ble_eq_true rfl, Nat.le_add_right _ _, Nat.le_add_right _ _⟩ dX10_key_26 (fun r8 c7 h => ?_)
      refine go_iconst (pc := 29) (v := 5) dX10_key_29 (by decide) ?_
      refine go_icmp_eq (pc := 30) (tgt := 37) dX10_key_30 (by decide) (fun q9 => ?_) (fun q9 => ?_)
      · have h := h.1 q9
        refine go_iload_n (pc := 37) dX10_key_37 rfl rfl ?_
        refine go_i2l (pc := 38) dX10_key_38 ?_
        refine go_lconst (pc := 39) (v := 0) dX10_key_39 (by decide) ?_
        refine go_aload_n (pc := 40) dX10_key_40 rfl rfl ?_
        refine go_iload_n (pc := 41) dX10_key_41 rfl rfl ?_
        refine go_iconst (pc := 42) (v := 3) dX10_key_42 (by decide) ?_
        refine gq_callV_i (pc := 43) (F := wM G o) vX10_71 rfl (tX10_of h) rfl rfl (gz_b (by decide)) yw0 rfl (Nat.le_of_ble_eq_true rfl) ⟨Nat.le_of_ble_eq_true rfl, Nat.le_of_ble_eq_true rfl, Nat.le_add_right _ _, Nat.le_add_right _ _⟩ dX10_key_43 (fun r11 c10 h => ?_)
        refine go_iconst (pc := 46) (v := 1) dX10_key_46 (by decide) ?_
        refine go_isub (pc := 47) dX10_key_47 ?_
        refine go_i2l (pc := 48) dX10_key_48 ?_
        refine gq_callS_i (pc := 49) (F := wM G o) sX10_63 rfl (tX10_in h) rfl rfl (Nat.le_of_ble_eq_true rfl) ⟨Nat.le_of_ble_eq_true rfl, Nat.le_of_ble_eq_true rfl, Nat.le_add_right _ _, Nat.le_add_right _ _⟩ dX10_key_49 (fun r13 c12 h => ?_)
        refine go_if_ne (pc := 52) (tgt := 59) dX10_key_52 (by decide) (fun q14 => ?_) (fun q14 => ?_)
        · have h := h.2 q14
          refine go_iconst (pc := 59) (v := 0) dX10_key_59 (by decide) ?_
          refine go_lv [0, 1, 2, 3] rfl ?_
          exact tX10_key_p60 h
        · have h := h.1 q14
          refine go_iconst (pc := 55) (v := 2) dX10_key_55 (by decide) ?_
          refine go_goto (pc := 56) (tgt := 60) dX10_key_56 (by decide) ?_
          refine go_lv [0, 1, 2, 3] rfl ?_
          exact tX10_key_p60 h
      · have h := h.2 q9
        refine go_iconst (pc := 33) (v := 3) dX10_key_33 (by decide) ?_
        refine go_goto (pc := 34) (tgt := 60) dX10_key_34 (by decide) ?_
        refine go_lv [0, 1, 2, 3] rfl ?_
        exact tX10_key_p60 h
    · have h := h.2 q6
      refine go_iconst (pc := 19) (v := 1) dX10_key_19 (by decide) ?_
      refine go_goto (pc := 20) (tgt := 60) dX10_key_20 (by decide) ?_
      refine go_lv [0, 1, 2, 3] rfl ?_
      exact tX10_key_p60 h
  · have h := h.1 q3
    refine go_bipush (pc := 8) (v := (-101)) dX10_key_8 (by decide) ?_
    exact gq_iret (pc := 10) (F := wM G o) rfl dX10_key_10 h
def wX10_find_p93 (P62 : Int32 → Int32 → Int32 → Int32 → gMem → Prop) (l1 : Int32) (l2 : Int32) (l3 : Int32) (l4 : Int32) (s0 : Int32) (c : gMem) (Q : Int32 → gMem → Prop) : Prop :=
  ∀ c1, c1 = mp c 0 12 s0 →
  P62 l1 l2 l3 (l4 + (-1)) c1
set_option maxRecDepth 100000 in
set_option maxHeartbeats 4000000 in
theorem tX10_find_p93 {l : Launch} {G : gG} {k : Nat} {o : gMem} {Q : Int32 → gMem → Prop} {P62 : Int32 → Int32 → Int32 → Int32 → gMem → Prop} (hP62 : ∀ (l1 : Int32) (l2 : Int32) (l3 : Int32) (l4 : Int32) (c : gMem), P62 l1 l2 l3 l4 c → Go l G mX10_find (gbq G 2 46 84 k (qi (wM G o) Q)) 62 [(0, .ref (G.2.1 + 74)), (1, .int l1), (2, .int l2), (3, .int l3), (4, .int l4)] [] 84 k (wM G o c)) {l1 : Int32} {l2 : Int32} {l3 : Int32} {l4 : Int32} {s0 : Int32} {c : gMem} (h : wX10_find_p93 P62 l1 l2 l3 l4 s0 c Q) : Go l G mX10_find (gbq G 2 46 84 k (qi (wM G o) Q)) 93 [(0, .ref (G.2.1 + 74)), (1, .int l1), (2, .int l2), (3, .int l3), (4, .int l4)] [.int s0, .ref (G.2.1 + 74)] 84 k (wM G o c) := by
  unfold wX10_find_p93 at h
  refine gb_put (pc := 93) (F := wM G o) fX10_171 rfl (gz_b (by decide)) yw0 (Nat.le_of_ble_eq_true rfl) rfl rfl yp0_12 dX10_find_93 (fun c1 ec1 => ?_)
  have h := h c1 ec1
  refine go_iinc (pc := 96) (v := l4 + (-1)) (lv' := [(4, .int (l4 + (-1))), (0, .ref (G.2.1 + 74)), (1, .int l1), (2, .int l2), (3, .int l3)]) dX10_find_96 4 rfl (by first | rfl | decide) (by decide) rfl ?_
  refine go_goto (pc := 99) (tgt := 62) dX10_find_99 (by decide) ?_
  refine go_lv [1, 2, 3, 4, 0] rfl ?_
  exact hP62 _ _ _ _ _ h
def wX10_find_p62_b (P62 : Int32 → Int32 → Int32 → Int32 → gMem → Prop) (l1 : Int32) (l2 : Int32) (l3 : Int32) (l4 : Int32) (c : gMem) (Q : Int32 → gMem → Prop) : Prop :=
  ((l4 < 0 →
    wX10_by l3 c (fun r3 c2 =>
    Q r3 c2)) ∧
   (¬ l4 < 0 →
    wX10_keyAt l1 l4 c (fun r5 c4 =>
    vp_in r5 26100 ∧
    ∀ v6, v6 = c4 1 r5.toNatClampNeg →
    ((v6 = l2 →
      wX10_find_p93 P62 l1 l2 l3 l4 l4 c4 Q) ∧
     (¬ v6 = l2 →
      ∀ v9, v9 = c4 0 12 →
      wX10_find_p93 P62 l1 l2 l3 l4 v9 c4 Q)))))
def wX10_find_p62 (l1 : Int32) (l2 : Int32) (l3 : Int32) (l4 : Int32) (c : gMem) (Q : Int32 → gMem → Prop) : Prop :=
  ∀ P62 : Int32 → Int32 → Int32 → Int32 → gMem → Prop, (∀ (l1 : Int32) (l2 : Int32) (l3 : Int32) (l4 : Int32) (c : gMem), wX10_find_p62_b P62 l1 l2 l3 l4 c Q → P62 l1 l2 l3 l4 c) → P62 l1 l2 l3 l4 c
set_option maxRecDepth 100000 in
set_option maxHeartbeats 4000000 in
theorem tX10_find_p62_b {l : Launch} {G : gG} {k : Nat} {o : gMem} {Q : Int32 → gMem → Prop} {P62 : Int32 → Int32 → Int32 → Int32 → gMem → Prop} (hP62 : ∀ (l1 : Int32) (l2 : Int32) (l3 : Int32) (l4 : Int32) (c : gMem), P62 l1 l2 l3 l4 c → Go l G mX10_find (gbq G 2 46 84 k (qi (wM G o) Q)) 62 [(0, .ref (G.2.1 + 74)), (1, .int l1), (2, .int l2), (3, .int l3), (4, .int l4)] [] 84 k (wM G o c)) {l1 : Int32} {l2 : Int32} {l3 : Int32} {l4 : Int32} {c : gMem} (h : wX10_find_p62_b P62 l1 l2 l3 l4 c Q) : Go l G mX10_find (gbq G 2 46 84 k (qi (wM G o) Q)) 62 [(0, .ref (G.2.1 + 74)), (1, .int l1), (2, .int l2), (3, .int l3), (4, .int l4)] [] 84 k (wM G o c) := by
  unfold wX10_find_p62_b at h
  refine go_iload (pc := 62) dX10_find_62 rfl ?_
  refine go_if_lt (pc := 64) (tgt := 102) dX10_find_64 (by decide) (fun q1 => ?_) (fun q1 => ?_)
  · have h := h.1 q1
    refine go_aload_n (pc := 102) dX10_find_102 rfl rfl ?_
    refine go_iload_n (pc := 103) dX10_find_103 rfl rfl ?_
    refine gq_callV_i (pc := 104) (F := wM G o) vX10_177 rfl (tX10_by h) rfl rfl (gz_b (by decide)) yw0 rfl (Nat.le_of_ble_eq_true rfl) ⟨Nat.le_of_ble_eq_true rfl, Nat.le_of_ble_eq_true rfl, Nat.le_add_right _ _, Nat.le_add_right _ _⟩ dX10_find_104 (fun r3 c2 h => ?_)
    exact gq_iret (pc := 107) (F := wM G o) rfl dX10_find_107 h
  · have h := h.2 q1
    refine go_aload_n (pc := 67) dX10_find_67 rfl rfl ?_
    refine go_aload_n (pc := 68) dX10_find_68 rfl rfl ?_
    refine go_get (pc := 69) fX10_9 rfl (gz_b (by decide)) yw0 rfl dX10_find_69 ?_
    refine go_aload_n (pc := 72) dX10_find_72 rfl rfl ?_
    refine go_iload_n (pc := 73) dX10_find_73 rfl rfl ?_
    refine go_iload (pc := 74) dX10_find_74 rfl ?_
    refine gq_callV_i (pc := 76) (F := wM G o) vX10_195 rfl (tX10_keyAt h) rfl rfl (gz_b (by decide)) yw0 rfl (Nat.le_of_ble_eq_true rfl) ⟨Nat.le_of_ble_eq_true rfl, Nat.le_of_ble_eq_true rfl, Nat.le_add_right _ _, Nat.le_add_right _ _⟩ dX10_find_76 (fun r5 c4 h => ?_)
    obtain ⟨b7, h⟩ := h
    refine gb_iald (pc := 79) (gz_b (by decide)) yw1 b7 dX10_find_79 (fun v6 ev6 => ?_)
    have h := h v6 ev6
    refine go_iload_n (pc := 80) dX10_find_80 rfl rfl ?_
    refine go_icmp_ne (pc := 81) (tgt := 89) dX10_find_81 (by decide) (fun q8 => ?_) (fun q8 => ?_)
    · have h := h.2 q8
      refine go_aload_n (pc := 89) dX10_find_89 rfl rfl ?_
      refine gb_get (pc := 90) fX10_171 rfl (gz_b (by decide)) yw0 rfl dX10_find_90 (fun v9 ev9 => ?_)
      have h := h v9 ev9
      refine go_lv [0, 1, 2, 3, 4] rfl ?_
      exact tX10_find_p93 hP62 h
    · have h := h.1 q8
      refine go_iload (pc := 84) dX10_find_84 rfl ?_
      refine go_goto (pc := 86) (tgt := 93) dX10_find_86 (by decide) ?_
      refine go_lv [0, 1, 2, 3, 4] rfl ?_
      exact tX10_find_p93 hP62 h
set_option maxRecDepth 100000 in
set_option maxHeartbeats 4000000 in
theorem tX10_find_p62 {l : Launch} {G : gG} {k : Nat} {o : gMem} {Q : Int32 → gMem → Prop} {l1 : Int32} {l2 : Int32} {l3 : Int32} {l4 : Int32} {c : gMem} (h : wX10_find_p62 l1 l2 l3 l4 c Q) : Go l G mX10_find (gbq G 2 46 84 k (qi (wM G o) Q)) 62 [(0, .ref (G.2.1 + 74)), (1, .int l1), (2, .int l2), (3, .int l3), (4, .int l4)] [] 84 k (wM G o c) :=
  h (fun l1 l2 l3 l4 c => Go l G mX10_find (gbq G 2 46 84 k (qi (wM G o) Q)) 62 [(0, .ref (G.2.1 + 74)), (1, .int l1), (2, .int l2), (3, .int l3), (4, .int l4)] [] 84 k (wM G o c)) (fun l1 l2 l3 l4 c hb => tX10_find_p62_b (fun l1 l2 l3 l4 c hh => hh) hb)
def wX10_find_p60 (l1 : Int32) (l2 : Int32) (l3 : Int32) (s0 : Int32) (c : gMem) (Q : Int32 → gMem → Prop) : Prop :=
  wX10_find_p62 l1 l2 l3 s0 c Q
set_option maxRecDepth 100000 in
set_option maxHeartbeats 4000000 in
theorem tX10_find_p60 {l : Launch} {G : gG} {k : Nat} {o : gMem} {Q : Int32 → gMem → Prop} {l1 : Int32} {l2 : Int32} {l3 : Int32} {s0 : Int32} {c : gMem} (h : wX10_find_p60 l1 l2 l3 s0 c Q) : Go l G mX10_find (gbq G 2 46 84 k (qi (wM G o) Q)) 60 [(0, .ref (G.2.1 + 74)), (1, .int l1), (2, .int l2), (3, .int l3)] [.int s0] 84 k (wM G o c) := by
  unfold wX10_find_p60 at h
  refine go_istore (pc := 60) (lv' := [(4, .int s0), (0, .ref (G.2.1 + 74)), (1, .int l1), (2, .int l2), (3, .int l3)]) dX10_find_60 (by decide) rfl ?_
  refine go_lv [1, 2, 3, 4, 0] rfl ?_
  exact tX10_find_p62 h
def wX10_find_p38 (l1 : Int32) (l2 : Int32) (s0 : Int32) (c : gMem) (Q : Int32 → gMem → Prop) : Prop :=
  ∀ c1, c1 = mp c 0 12 ((-1)) →
  ((s0 = 0 →
    wX10_of l1 3 c1 (fun r4 c3 =>
    wX10_find_p60 l1 l2 s0 (r4 - 1) c3 Q)) ∧
   (¬ s0 = 0 →
    wX10_find_p60 l1 l2 s0 ((-1)) c1 Q))
set_option maxRecDepth 100000 in
set_option maxHeartbeats 4000000 in
theorem tX10_find_p38 {l : Launch} {G : gG} {k : Nat} {o : gMem} {Q : Int32 → gMem → Prop} {l1 : Int32} {l2 : Int32} {s0 : Int32} {c : gMem} (h : wX10_find_p38 l1 l2 s0 c Q) : Go l G mX10_find (gbq G 2 46 84 k (qi (wM G o) Q)) 38 [(0, .ref (G.2.1 + 74)), (1, .int l1), (2, .int l2)] [.int s0] 84 k (wM G o c) := by
  unfold wX10_find_p38 at h
  refine go_istore_n (pc := 38) (lv' := [(3, .int s0), (0, .ref (G.2.1 + 74)), (1, .int l1), (2, .int l2)]) dX10_find_38 rfl (by decide) rfl ?_
  refine go_aload_n (pc := 39) dX10_find_39 rfl rfl ?_
  refine go_iconst (pc := 40) (v := (-1)) dX10_find_40 (by decide) ?_
  refine gb_put (pc := 41) (F := wM G o) fX10_171 rfl (gz_b (by decide)) yw0 (Nat.le_of_ble_eq_true rfl) rfl rfl yp0_12 dX10_find_41 (fun c1 ec1 => ?_)
  have h := h c1 ec1
  refine go_iload_n (pc := 44) dX10_find_44 rfl rfl ?_
  refine go_if_ne (pc := 45) (tgt := 59) dX10_find_45 (by decide) (fun q2 => ?_) (fun q2 => ?_)
  · have h := h.2 q2
    refine go_iconst (pc := 59) (v := (-1)) dX10_find_59 (by decide) ?_
    refine go_lv [1, 2, 3, 0] rfl ?_
    exact tX10_find_p60 h
  · have h := h.1 q2
    refine go_aload_n (pc := 48) dX10_find_48 rfl rfl ?_
    refine go_iload_n (pc := 49) dX10_find_49 rfl rfl ?_
    refine go_iconst (pc := 50) (v := 3) dX10_find_50 (by decide) ?_
    refine gq_callV_i (pc := 51) (F := wM G o) vX10_71 rfl (tX10_of h) rfl rfl (gz_b (by decide)) yw0 rfl (Nat.le_of_ble_eq_true rfl) ⟨Nat.le_of_ble_eq_true rfl, Nat.le_of_ble_eq_true rfl, Nat.le_add_right _ _, Nat.le_add_right _ _⟩ dX10_find_51 (fun r4 c3 h => ?_)
    refine go_iconst (pc := 54) (v := 1) dX10_find_54 (by decide) ?_
    refine go_isub (pc := 55) dX10_find_55 ?_
    refine go_goto (pc := 56) (tgt := 60) dX10_find_56 (by decide) ?_
    refine go_lv [1, 2, 3, 0] rfl ?_
    exact tX10_find_p60 h
def wX10_find (l1 : Int32) (l2 : Int32) (c : gMem) (Q : Int32 → gMem → Prop) : Prop :=
  wX10_isMade l1 c (fun r2 c1 =>
  ((r2 = 0 →
    Q ((-101)) c1) ∧
   (¬ r2 = 0 →
    wX10_isGone l1 c1 (fun r5 c4 =>
    ((r5 = 0 →
      wX10_of l1 1 c4 (fun r8 c7 =>
      ((r8 = 5 →
        wX10_find_p38 l1 l2 0 c7 Q) ∧
       (¬ r8 = 5 →
        wX10_find_p38 l1 l2 3 c7 Q)))) ∧
     (¬ r5 = 0 →
      wX10_find_p38 l1 l2 1 c4 Q))))))
set_option maxRecDepth 100000 in
set_option maxHeartbeats 4000000 in
theorem tX10_find {l : Launch} {G : gG} {k : Nat} {o : gMem} {Q : Int32 → gMem → Prop} {l1 : Int32} {l2 : Int32} {c : gMem} (h : wX10_find l1 l2 c Q) : Cq l G mX10_find 2 46 [.ref (G.2.1 + 74), .int l1, .int l2] 84 k (wM G o c) (qi (wM G o) Q) := by
  refine Cq.of (by decide) (Nat.le_of_ble_eq_true rfl) ?_
  show Go l G mX10_find (gbq G 2 46 84 k (qi (wM G o) Q)) 0 [(0, .ref (G.2.1 + 74)), (1, .int l1), (2, .int l2)] [] 84 k (wM G o c)
  unfold wX10_find at h
  refine go_aload_n (pc := 0) dX10_find_0 rfl rfl ?_
  refine go_iload_n (pc := 1) dX10_find_1 rfl rfl ?_
  refine gq_callV_i (pc := 2) (F := wM G o) vX10_67 rfl (tX10_isMade h) rfl rfl (gz_b (by decide)) yw0 rfl (Nat.le_of_ble_eq_true rfl) ⟨Nat.le_of_ble_eq_true rfl, Nat.le_of_ble_eq_true rfl, Nat.le_add_right _ _, Nat.le_add_right _ _⟩ dX10_find_2 (fun r2 c1 h => ?_)
  refine go_if_ne (pc := 5) (tgt := 11) dX10_find_5 (by decide) (fun q3 => ?_) (fun q3 => ?_)
  · have h := h.2 q3
    refine go_aload_n (pc := 11) dX10_find_11 rfl rfl ?_
    refine go_iload_n (pc := 12) dX10_find_12 rfl rfl ?_
    refine gq_callV_i (pc := 13) (F := wM G o) vX10_158 rfl (tX10_isGone h) rfl rfl (gz_b (by decide)) yw0 rfl (Nat.le_of_ble_eq_true rfl) ⟨Nat.le_of_ble_eq_true rfl, Nat.le_of_ble_eq_true rfl, Nat.le_add_right _ _, Nat.le_add_right _ _⟩ dX10_find_13 (fun r5 c4 h => ?_)
    refine go_if_eq (pc := 16) (tgt := 23) dX10_find_16 (by decide) (fun q6 => ?_) (fun q6 => ?_)
    · have h := h.1 q6
      refine go_aload_n (pc := 23) dX10_find_23 rfl rfl ?_
      refine go_iload_n (pc := 24) dX10_find_24 rfl rfl ?_
      refine go_iconst (pc := 25) (v := 1) dX10_find_25 (by decide) ?_
      refine gq_callV_i (pc := 26) (F := wM G o) vX10_71 rfl (tX10_of h) rfl rfl (gz_b (by decide)) yw0 rfl (Nat.le_of_ble_eq_true rfl) ⟨Nat.le_of_ble_eq_true rfl, Nat.le_of_ble_eq_true rfl, Nat.le_add_right _ _, Nat.le_add_right _ _⟩ dX10_find_26 (fun r8 c7 h => ?_)
      refine go_iconst (pc := 29) (v := 5) dX10_find_29 (by decide) ?_
      refine go_icmp_eq (pc := 30) (tgt := 37) dX10_find_30 (by decide) (fun q9 => ?_) (fun q9 => ?_)
      · have h := h.1 q9
        refine go_iconst (pc := 37) (v := 0) dX10_find_37 (by decide) ?_
        refine go_lv [0, 1, 2] rfl ?_
        exact tX10_find_p38 h
      · have h := h.2 q9
        refine go_iconst (pc := 33) (v := 3) dX10_find_33 (by decide) ?_
        refine go_goto (pc := 34) (tgt := 38) dX10_find_34 (by decide) ?_
        refine go_lv [0, 1, 2] rfl ?_
        exact tX10_find_p38 h
    · have h := h.2 q6
      refine go_iconst (pc := 19) (v := 1) dX10_find_19 (by decide) ?_
      refine go_goto (pc := 20) (tgt := 38) dX10_find_20 (by decide) ?_
      refine go_lv [0, 1, 2] rfl ?_
      exact tX10_find_p38 h
  · have h := h.1 q3
    refine go_bipush (pc := 8) (v := (-101)) dX10_find_8 (by decide) ?_
    exact gq_iret (pc := 10) (F := wM G o) rfl dX10_find_10 h
def wX10_isRoot (l0 : Int32) (c : gMem) (Q : Int32 → gMem → Prop) : Prop :=
  wX10_in l0.toInt64 0 23 c (fun r2 c1 =>
  (r2 = 0 ∨ r2 = 1) ∧ Q r2 c1)
set_option maxRecDepth 100000 in
set_option maxHeartbeats 4000000 in
theorem tX10_isRoot {l : Launch} {G : gG} {k : Nat} {o : gMem} {Q : Int32 → gMem → Prop} {l0 : Int32} {c : gMem} (h : wX10_isRoot l0 c Q) : Cq l G mX10_isRoot 1 25 [.int l0] 84 k (wM G o c) (qi (wM G o) Q) := by
  refine Cq.of (by decide) (Nat.le_of_ble_eq_true rfl) ?_
  show Go l G mX10_isRoot (gbq G 1 25 84 k (qi (wM G o) Q)) 0 [(0, .int l0)] [] 84 k (wM G o c)
  unfold wX10_isRoot at h
  refine go_iload_n (pc := 0) dX10_isRoot_0 rfl rfl ?_
  refine go_i2l (pc := 1) dX10_isRoot_1 ?_
  refine go_lconst (pc := 2) (v := 0) dX10_isRoot_2 (by decide) ?_
  refine go_ldc2 (pc := 3) rfl qX10_198 dX10_isRoot_3 ?_
  refine gq_callS_i (pc := 6) (F := wM G o) sX10_63 rfl (tX10_in h) rfl rfl (Nat.le_of_ble_eq_true rfl) ⟨Nat.le_of_ble_eq_true rfl, Nat.le_of_ble_eq_true rfl, Nat.le_add_right _ _, Nat.le_add_right _ _⟩ dX10_isRoot_6 (fun r2 c1 h => ?_)
  exact gq_zret (pc := 9) (F := wM G o) rfl h.1 dX10_isRoot_9 h.2
def wX10_roots_p15 (l1 : Int32) (l2 : Int32) (c : gMem) (Q : Int32 → gMem → Prop) : Prop :=
  vp_in (20 + l1) 26100 ∧
  ∀ v1, v1 = c 1 (20 + l1).toNatClampNeg →
  ∀ c3, c3 = mp c 0 12 v1 →
  vp_in (20 + l1) 26100 ∧
  ∀ c4, c4 = mp c3 1 (20 + l1).toNatClampNeg l2 →
  ∀ v6, v6 = c4 1 3 →
  ((v6 = 1 →
    wX10_mark l2 3 ((-1)) l1 c4 (fun c8 =>
    Q 0 c8)) ∧
   (¬ v6 = 1 →
    Q 0 c4))
set_option maxRecDepth 100000 in
set_option maxHeartbeats 4000000 in
theorem tX10_roots_p15 {l : Launch} {G : gG} {k : Nat} {o : gMem} {Q : Int32 → gMem → Prop} {l1 : Int32} {l2 : Int32} {c : gMem} (h : wX10_roots_p15 l1 l2 c Q) : Go l G mX10_roots (gbq G 2 47 84 k (qi (wM G o) Q)) 15 [(0, .ref (G.2.1 + 74)), (1, .int l1), (2, .int l2)] [] 84 k (wM G o c) := by
  unfold wX10_roots_p15 at h
  refine go_aload_n (pc := 15) dX10_roots_15 rfl rfl ?_
  refine go_aload_n (pc := 16) dX10_roots_16 rfl rfl ?_
  refine go_get (pc := 17) fX10_9 rfl (gz_b (by decide)) yw0 rfl dX10_roots_17 ?_
  refine go_bipush (pc := 20) (v := 20) dX10_roots_20 (by decide) ?_
  refine go_iload_n (pc := 22) dX10_roots_22 rfl rfl ?_
  refine go_iadd (pc := 23) dX10_roots_23 ?_
  obtain ⟨b2, h⟩ := h
  refine gb_iald (pc := 24) (gz_b (by decide)) yw1 b2 dX10_roots_24 (fun v1 ev1 => ?_)
  have h := h v1 ev1
  refine gb_put (pc := 25) (F := wM G o) fX10_171 rfl (gz_b (by decide)) yw0 (Nat.le_of_ble_eq_true rfl) rfl rfl yp0_12 dX10_roots_25 (fun c3 ec3 => ?_)
  have h := h c3 ec3
  refine go_aload_n (pc := 28) dX10_roots_28 rfl rfl ?_
  refine go_get (pc := 29) fX10_9 rfl (gz_b (by decide)) yw0 rfl dX10_roots_29 ?_
  refine go_bipush (pc := 32) (v := 20) dX10_roots_32 (by decide) ?_
  refine go_iload_n (pc := 34) dX10_roots_34 rfl rfl ?_
  refine go_iadd (pc := 35) dX10_roots_35 ?_
  refine go_iload_n (pc := 36) dX10_roots_36 rfl rfl ?_
  obtain ⟨b5, h⟩ := h
  refine gb_iast (pc := 37) (F := wM G o) (gz_b (by decide)) yw1 b5 ya1 dX10_roots_37 (fun c4 ec4 => ?_)
  have h := h c4 ec4
  refine go_aload_n (pc := 38) dX10_roots_38 rfl rfl ?_
  refine go_get (pc := 39) fX10_9 rfl (gz_b (by decide)) yw0 rfl dX10_roots_39 ?_
  refine go_iconst (pc := 42) (v := 3) dX10_roots_42 (by decide) ?_
  refine gb_iald (pc := 43) (gz_b (by decide)) yw1 (gv_in (by decide)) dX10_roots_43 (fun v6 ev6 => ?_)
  have h := h v6 ev6
  refine go_iconst (pc := 44) (v := 1) dX10_roots_44 (by decide) ?_
  refine go_icmp_ne (pc := 45) (tgt := 56) dX10_roots_45 (by decide) (fun q7 => ?_) (fun q7 => ?_)
  · have h := h.2 q7
    refine go_iconst (pc := 56) (v := 0) dX10_roots_56 (by decide) ?_
    exact gq_iret (pc := 57) (F := wM G o) rfl dX10_roots_57 h
  · have h := h.1 q7
    refine go_aload_n (pc := 48) dX10_roots_48 rfl rfl ?_
    refine go_iload_n (pc := 49) dX10_roots_49 rfl rfl ?_
    refine go_iconst (pc := 50) (v := 3) dX10_roots_50 (by decide) ?_
    refine go_iconst (pc := 51) (v := (-1)) dX10_roots_51 (by decide) ?_
    refine go_iload_n (pc := 52) dX10_roots_52 rfl rfl ?_
    refine gq_callV_v (pc := 53) (F := wM G o) vX10_86 rfl (tX10_mark h) rfl rfl (gz_b (by decide)) yw0 rfl (Nat.le_of_ble_eq_true rfl) ⟨Nat.le_of_ble_eq_true rfl, Nat.le_of_ble_eq_true rfl, Nat.le_add_right _ _, Nat.le_add_right _ _⟩ dX10_roots_53 (fun c8 h => ?_)
    refine go_iconst (pc := 56) (v := 0) dX10_roots_56 (by decide) ?_
    exact gq_iret (pc := 57) (F := wM G o) rfl dX10_roots_57 h
def wX10_roots (l1 : Int32) (l2 : Int32) (c : gMem) (Q : Int32 → gMem → Prop) : Prop :=
  ((l2 = (-1) →
    wX10_roots_p15 l1 l2 c Q) ∧
   (¬ l2 = (-1) →
    wX10_isGone l2 c (fun r3 c2 =>
    ((r3 = 0 →
      wX10_roots_p15 l1 l2 c2 Q) ∧
     (¬ r3 = 0 →
      Q 1 c2)))))
set_option maxRecDepth 100000 in
set_option maxHeartbeats 4000000 in
theorem tX10_roots {l : Launch} {G : gG} {k : Nat} {o : gMem} {Q : Int32 → gMem → Prop} {l1 : Int32} {l2 : Int32} {c : gMem} (h : wX10_roots l1 l2 c Q) : Cq l G mX10_roots 2 47 [.ref (G.2.1 + 74), .int l1, .int l2] 84 k (wM G o c) (qi (wM G o) Q) := by
  refine Cq.of (by decide) (Nat.le_of_ble_eq_true rfl) ?_
  show Go l G mX10_roots (gbq G 2 47 84 k (qi (wM G o) Q)) 0 [(0, .ref (G.2.1 + 74)), (1, .int l1), (2, .int l2)] [] 84 k (wM G o c)
  unfold wX10_roots at h
  refine go_iload_n (pc := 0) dX10_roots_0 rfl rfl ?_
  refine go_iconst (pc := 1) (v := (-1)) dX10_roots_1 (by decide) ?_
  refine go_icmp_eq (pc := 2) (tgt := 15) dX10_roots_2 (by decide) (fun q1 => ?_) (fun q1 => ?_)
  · have h := h.1 q1
    refine go_lv [0, 1, 2] rfl ?_
    exact tX10_roots_p15 h
  · have h := h.2 q1
    refine go_aload_n (pc := 5) dX10_roots_5 rfl rfl ?_
    refine go_iload_n (pc := 6) dX10_roots_6 rfl rfl ?_
    refine gq_callV_i (pc := 7) (F := wM G o) vX10_158 rfl (tX10_isGone h) rfl rfl (gz_b (by decide)) yw0 rfl (Nat.le_of_ble_eq_true rfl) ⟨Nat.le_of_ble_eq_true rfl, Nat.le_of_ble_eq_true rfl, Nat.le_add_right _ _, Nat.le_add_right _ _⟩ dX10_roots_7 (fun r3 c2 h => ?_)
    refine go_if_eq (pc := 10) (tgt := 15) dX10_roots_10 (by decide) (fun q4 => ?_) (fun q4 => ?_)
    · have h := h.1 q4
      refine go_lv [0, 1, 2] rfl ?_
      exact tX10_roots_p15 h
    · have h := h.2 q4
      refine go_iconst (pc := 13) (v := 1) dX10_roots_13 (by decide) ?_
      exact gq_iret (pc := 14) (F := wM G o) rfl dX10_roots_14 h
def wX10_root_p15 (c : gMem) (Q : Int32 → gMem → Prop) : Prop :=
  Q ((-101)) c
set_option maxRecDepth 100000 in
set_option maxHeartbeats 4000000 in
theorem tX10_root_p15 {l : Launch} {G : gG} {k : Nat} {o : gMem} {Q : Int32 → gMem → Prop} {c : gMem} (h : wX10_root_p15 c Q) : Go l G mX10_root (gbq G 3 69 84 k (qi (wM G o) Q)) 15 [] [] 84 k (wM G o c) := by
  unfold wX10_root_p15 at h
  refine go_bipush (pc := 15) (v := (-101)) dX10_root_15 (by decide) ?_
  refine go_goto (pc := 17) (tgt := 30) dX10_root_17 (by decide) ?_
  exact gq_iret (pc := 30) (F := wM G o) rfl dX10_root_30 h
def wX10_root (l1 : Int32) (l2 : Int32) (c : gMem) (Q : Int32 → gMem → Prop) : Prop :=
  wX10_isRoot l1 c (fun r2 c1 =>
  ((r2 = 0 →
    wX10_root_p15 c1 Q) ∧
   (¬ r2 = 0 →
    wX10_mayBe l2 c1 (fun r5 c4 =>
    ((r5 = 0 →
      wX10_root_p15 c4 Q) ∧
     (¬ r5 = 0 →
      wX10_roots l1 l2 c4 (fun r8 c7 =>
      wX10_by r8 c7 (fun r10 c9 =>
      Q r10 c9))))))))
set_option maxRecDepth 100000 in
set_option maxHeartbeats 4000000 in
theorem tX10_root {l : Launch} {G : gG} {k : Nat} {o : gMem} {Q : Int32 → gMem → Prop} {l1 : Int32} {l2 : Int32} {c : gMem} (h : wX10_root l1 l2 c Q) : Cq l G mX10_root 3 69 [.ref (G.2.1 + 74), .int l1, .int l2] 84 k (wM G o c) (qi (wM G o) Q) := by
  refine Cq.of (by decide) (Nat.le_of_ble_eq_true rfl) ?_
  show Go l G mX10_root (gbq G 3 69 84 k (qi (wM G o) Q)) 0 [(0, .ref (G.2.1 + 74)), (1, .int l1), (2, .int l2)] [] 84 k (wM G o c)
  unfold wX10_root at h
  refine go_iload_n (pc := 0) dX10_root_0 rfl rfl ?_
  refine gq_callS_i (pc := 1) (F := wM G o) sX10_200 rfl (tX10_isRoot h) rfl rfl (Nat.le_of_ble_eq_true rfl) ⟨Nat.le_of_ble_eq_true rfl, Nat.le_of_ble_eq_true rfl, Nat.le_add_right _ _, Nat.le_add_right _ _⟩ dX10_root_1 (fun r2 c1 h => ?_)
  refine go_if_eq (pc := 4) (tgt := 15) dX10_root_4 (by decide) (fun q3 => ?_) (fun q3 => ?_)
  · have h := h.1 q3
    refine go_lv [] rfl ?_
    exact tX10_root_p15 h
  · have h := h.2 q3
    refine go_aload_n (pc := 7) dX10_root_7 rfl rfl ?_
    refine go_iload_n (pc := 8) dX10_root_8 rfl rfl ?_
    refine gq_callV_i (pc := 9) (F := wM G o) vX10_164 rfl (tX10_mayBe h) rfl rfl (gz_b (by decide)) yw0 rfl (Nat.le_of_ble_eq_true rfl) ⟨Nat.le_of_ble_eq_true rfl, Nat.le_of_ble_eq_true rfl, Nat.le_add_right _ _, Nat.le_add_right _ _⟩ dX10_root_9 (fun r5 c4 h => ?_)
    refine go_if_ne (pc := 12) (tgt := 20) dX10_root_12 (by decide) (fun q6 => ?_) (fun q6 => ?_)
    · have h := h.2 q6
      refine go_aload_n (pc := 20) dX10_root_20 rfl rfl ?_
      refine go_aload_n (pc := 21) dX10_root_21 rfl rfl ?_
      refine go_iload_n (pc := 22) dX10_root_22 rfl rfl ?_
      refine go_iload_n (pc := 23) dX10_root_23 rfl rfl ?_
      refine gq_callV_i (pc := 24) (F := wM G o) vX10_203 rfl (tX10_roots h) rfl rfl (gz_b (by decide)) yw0 rfl (Nat.le_of_ble_eq_true rfl) ⟨Nat.le_of_ble_eq_true rfl, Nat.le_of_ble_eq_true rfl, Nat.le_add_right _ _, Nat.le_add_right _ _⟩ dX10_root_24 (fun r8 c7 h => ?_)
      refine gq_callV_i (pc := 27) (F := wM G o) vX10_177 rfl (tX10_by h) rfl rfl (gz_b (by decide)) yw0 rfl (Nat.le_of_ble_eq_true rfl) ⟨Nat.le_of_ble_eq_true rfl, Nat.le_of_ble_eq_true rfl, Nat.le_add_right _ _, Nat.le_add_right _ _⟩ dX10_root_27 (fun r10 c9 h => ?_)
      exact gq_iret (pc := 30) (F := wM G o) rfl dX10_root_30 h
    · have h := h.1 q6
      refine go_lv [] rfl ?_
      exact tX10_root_p15 h
def wX10_rootOf (l1 : Int32) (c : gMem) (Q : Int32 → gMem → Prop) : Prop :=
  wX10_isRoot l1 c (fun r2 c1 =>
  ((r2 = 0 →
    Q ((-101)) c1) ∧
   (¬ r2 = 0 →
    vp_in (20 + l1) 26100 ∧
    ∀ v4, v4 = c1 1 (20 + l1).toNatClampNeg →
    Q v4 c1)))
set_option maxRecDepth 100000 in
set_option maxHeartbeats 4000000 in
theorem tX10_rootOf {l : Launch} {G : gG} {k : Nat} {o : gMem} {Q : Int32 → gMem → Prop} {l1 : Int32} {c : gMem} (h : wX10_rootOf l1 c Q) : Cq l G mX10_rootOf 2 45 [.ref (G.2.1 + 74), .int l1] 84 k (wM G o c) (qi (wM G o) Q) := by
  refine Cq.of (by decide) (Nat.le_of_ble_eq_true rfl) ?_
  show Go l G mX10_rootOf (gbq G 2 45 84 k (qi (wM G o) Q)) 0 [(0, .ref (G.2.1 + 74)), (1, .int l1)] [] 84 k (wM G o c)
  unfold wX10_rootOf at h
  refine go_iload_n (pc := 0) dX10_rootOf_0 rfl rfl ?_
  refine gq_callS_i (pc := 1) (F := wM G o) sX10_200 rfl (tX10_isRoot h) rfl rfl (Nat.le_of_ble_eq_true rfl) ⟨Nat.le_of_ble_eq_true rfl, Nat.le_of_ble_eq_true rfl, Nat.le_add_right _ _, Nat.le_add_right _ _⟩ dX10_rootOf_1 (fun r2 c1 h => ?_)
  refine go_if_eq (pc := 4) (tgt := 19) dX10_rootOf_4 (by decide) (fun q3 => ?_) (fun q3 => ?_)
  · have h := h.1 q3
    refine go_bipush (pc := 19) (v := (-101)) dX10_rootOf_19 (by decide) ?_
    exact gq_iret (pc := 21) (F := wM G o) rfl dX10_rootOf_21 h
  · have h := h.2 q3
    refine go_aload_n (pc := 7) dX10_rootOf_7 rfl rfl ?_
    refine go_get (pc := 8) fX10_9 rfl (gz_b (by decide)) yw0 rfl dX10_rootOf_8 ?_
    refine go_bipush (pc := 11) (v := 20) dX10_rootOf_11 (by decide) ?_
    refine go_iload_n (pc := 13) dX10_rootOf_13 rfl rfl ?_
    refine go_iadd (pc := 14) dX10_rootOf_14 ?_
    obtain ⟨b5, h⟩ := h
    refine gb_iald (pc := 15) (gz_b (by decide)) yw1 b5 dX10_rootOf_15 (fun v4 ev4 => ?_)
    have h := h v4 ev4
    refine go_goto (pc := 16) (tgt := 21) dX10_rootOf_16 (by decide) ?_
    exact gq_iret (pc := 21) (F := wM G o) rfl dX10_rootOf_21 h
def wX10_isRow_p20 (c : gMem) (Q : Int32 → gMem → Prop) : Prop :=
  Q 1 c
set_option maxRecDepth 100000 in
set_option maxHeartbeats 4000000 in
theorem tX10_isRow_p20 {l : Launch} {G : gG} {k : Nat} {o : gMem} {Q : Int32 → gMem → Prop} {c : gMem} (h : wX10_isRow_p20 c Q) : Go l G mX10_isRow (gbq G 1 22 84 k (qi (wM G o) Q)) 20 [] [] 84 k (wM G o c) := by
  unfold wX10_isRow_p20 at h
  refine go_iconst (pc := 20) (v := 1) dX10_isRow_20 (by decide) ?_
  refine go_goto (pc := 21) (tgt := 25) dX10_isRow_21 (by decide) ?_
  exact gq_zret (pc := 25) (F := wM G o) rfl (by decide) dX10_isRow_25 h
def wX10_isRow (l1 : Int32) (c : gMem) (Q : Int32 → gMem → Prop) : Prop :=
  wX10_of l1 1 c (fun r2 c1 =>
  ((r2 = 1 →
    wX10_isRow_p20 c1 Q) ∧
   (¬ r2 = 1 →
    wX10_of l1 1 c1 (fun r5 c4 =>
    ((r5 = 5 →
      wX10_isRow_p20 c4 Q) ∧
     (¬ r5 = 5 →
      Q 0 c4))))))
set_option maxRecDepth 100000 in
set_option maxHeartbeats 4000000 in
theorem tX10_isRow {l : Launch} {G : gG} {k : Nat} {o : gMem} {Q : Int32 → gMem → Prop} {l1 : Int32} {c : gMem} (h : wX10_isRow l1 c Q) : Cq l G mX10_isRow 1 22 [.ref (G.2.1 + 74), .int l1] 84 k (wM G o c) (qi (wM G o) Q) := by
  refine Cq.of (by decide) (Nat.le_of_ble_eq_true rfl) ?_
  show Go l G mX10_isRow (gbq G 1 22 84 k (qi (wM G o) Q)) 0 [(0, .ref (G.2.1 + 74)), (1, .int l1)] [] 84 k (wM G o c)
  unfold wX10_isRow at h
  refine go_aload_n (pc := 0) dX10_isRow_0 rfl rfl ?_
  refine go_iload_n (pc := 1) dX10_isRow_1 rfl rfl ?_
  refine go_iconst (pc := 2) (v := 1) dX10_isRow_2 (by decide) ?_
  refine gq_callV_i (pc := 3) (F := wM G o) vX10_71 rfl (tX10_of h) rfl rfl (gz_b (by decide)) yw0 rfl (Nat.le_of_ble_eq_true rfl) ⟨Nat.le_of_ble_eq_true rfl, Nat.le_of_ble_eq_true rfl, Nat.le_add_right _ _, Nat.le_add_right _ _⟩ dX10_isRow_3 (fun r2 c1 h => ?_)
  refine go_iconst (pc := 6) (v := 1) dX10_isRow_6 (by decide) ?_
  refine go_icmp_eq (pc := 7) (tgt := 20) dX10_isRow_7 (by decide) (fun q3 => ?_) (fun q3 => ?_)
  · have h := h.1 q3
    refine go_lv [] rfl ?_
    exact tX10_isRow_p20 h
  · have h := h.2 q3
    refine go_aload_n (pc := 10) dX10_isRow_10 rfl rfl ?_
    refine go_iload_n (pc := 11) dX10_isRow_11 rfl rfl ?_
    refine go_iconst (pc := 12) (v := 1) dX10_isRow_12 (by decide) ?_
    refine gq_callV_i (pc := 13) (F := wM G o) vX10_71 rfl (tX10_of h) rfl rfl (gz_b (by decide)) yw0 rfl (Nat.le_of_ble_eq_true rfl) ⟨Nat.le_of_ble_eq_true rfl, Nat.le_of_ble_eq_true rfl, Nat.le_add_right _ _, Nat.le_add_right _ _⟩ dX10_isRow_13 (fun r5 c4 h => ?_)
    refine go_iconst (pc := 16) (v := 5) dX10_isRow_16 (by decide) ?_
    refine go_icmp_ne (pc := 17) (tgt := 24) dX10_isRow_17 (by decide) (fun q6 => ?_) (fun q6 => ?_)
    · have h := h.2 q6
      refine go_iconst (pc := 24) (v := 0) dX10_isRow_24 (by decide) ?_
      exact gq_zret (pc := 25) (F := wM G o) rfl (by decide) dX10_isRow_25 h
    · have h := h.1 q6
      refine go_lv [] rfl ?_
      exact tX10_isRow_p20 h
def wX10_copies_p48_b (P48 : Int32 → Int32 → Int32 → Int32 → Int32 → gMem → Prop) (l1 : Int32) (l2 : Int32) (l3 : Int32) (l4 : Int32) (l5 : Int32) (c : gMem) (Q : Int32 → gMem → Prop) : Prop :=
  ∀ v1, v1 = c 0 6 →
  ((l5 ≤ v1 →
    Q 0 c) ∧
   (¬ l5 ≤ v1 →
    ∀ v3, v3 = c 0 6 →
    ∀ v4, v4 = c 0 6 →
    wX10_of l1 3 c (fun r6 c5 =>
    wX10_in (l2.toInt64 + v3.toInt64) 0 ((r6 - 1).toInt64) c5 (fun r8 c7 =>
    ((r8 = 0 →
      Q 2 c7) ∧
     (¬ r8 = 0 →
      wX10_of l3 3 c7 (fun r11 c10 =>
      wX10_in (l4.toInt64 + v4.toInt64) 0 ((r11 - 1).toInt64) c10 (fun r13 c12 =>
      ((r13 = 0 →
        Q 2 c12) ∧
       (¬ r13 = 0 →
        wX10_linkAt l1 ((l2.toInt64 + v3.toInt64).toInt32) c12 (fun r16 c15 =>
        vp_in r16 26100 ∧
        ∀ v17, v17 = c15 1 r16.toNatClampNeg →
        wX10_relinks l3 ((l4.toInt64 + v4.toInt64).toInt32) v17 c15 (fun c19 =>
        ∀ v20, v20 = c19 0 6 →
        ∀ c21, c21 = mp c19 0 6 (v20 + 1) →
        P48 l1 l2 l3 l4 l5 c21))))))))))))
def wX10_copies_p48 (l1 : Int32) (l2 : Int32) (l3 : Int32) (l4 : Int32) (l5 : Int32) (c : gMem) (Q : Int32 → gMem → Prop) : Prop :=
  ∀ P48 : Int32 → Int32 → Int32 → Int32 → Int32 → gMem → Prop, (∀ (l1 : Int32) (l2 : Int32) (l3 : Int32) (l4 : Int32) (l5 : Int32) (c : gMem), wX10_copies_p48_b P48 l1 l2 l3 l4 l5 c Q → P48 l1 l2 l3 l4 l5 c) → P48 l1 l2 l3 l4 l5 c
set_option maxRecDepth 100000 in
set_option maxHeartbeats 4000000 in
theorem tX10_copies_p48_b {l : Launch} {G : gG} {k : Nat} {o : gMem} {Q : Int32 → gMem → Prop} {P48 : Int32 → Int32 → Int32 → Int32 → Int32 → gMem → Prop} (hP48 : ∀ (l1 : Int32) (l2 : Int32) (l3 : Int32) (l4 : Int32) (l5 : Int32) (c : gMem), P48 l1 l2 l3 l4 l5 c → Go l G mX10_copies (gbq G 3 71 84 k (qi (wM G o) Q)) 48 [(0, .ref (G.2.1 + 74)), (1, .int l1), (2, .int l2), (3, .int l3), (4, .int l4), (5, .int l5)] [] 84 k (wM G o c)) {l1 : Int32} {l2 : Int32} {l3 : Int32} {l4 : Int32} {l5 : Int32} {c : gMem} (h : wX10_copies_p48_b P48 l1 l2 l3 l4 l5 c Q) : Go l G mX10_copies (gbq G 3 71 84 k (qi (wM G o) Q)) 48 [(0, .ref (G.2.1 + 74)), (1, .int l1), (2, .int l2), (3, .int l3), (4, .int l4), (5, .int l5)] [] 84 k (wM G o c) := by
  unfold wX10_copies_p48_b at h
  refine go_aload_n (pc := 48) dX10_copies_48 rfl rfl ?_
  refine gb_get (pc := 49) fX10_53 rfl (gz_b (by decide)) yw0 rfl dX10_copies_49 (fun v1 ev1 => ?_)
  have h := h v1 ev1
  refine go_iload (pc := 52) dX10_copies_52 rfl ?_
  refine go_icmp_ge (pc := 54) (tgt := 150) dX10_copies_54 (by decide) (fun q2 => ?_) (fun q2 => ?_)
  · have h := h.1 q2
    refine go_iconst (pc := 150) (v := 0) dX10_copies_150 (by decide) ?_
    exact gq_iret (pc := 151) (F := wM G o) rfl dX10_copies_151 h
  · have h := h.2 q2
    refine go_iload_n (pc := 57) dX10_copies_57 rfl rfl ?_
    refine go_i2l (pc := 58) dX10_copies_58 ?_
    refine go_aload_n (pc := 59) dX10_copies_59 rfl rfl ?_
    refine gb_get (pc := 60) fX10_53 rfl (gz_b (by decide)) yw0 rfl dX10_copies_60 (fun v3 ev3 => ?_)
    have h := h v3 ev3
    refine go_i2l (pc := 63) dX10_copies_63 ?_
    refine go_ladd (pc := 64) dX10_copies_64 ?_
    refine go_lstore (pc := 65) (lv' := [(6, .long (l2.toInt64 + v3.toInt64)), (0, .ref (G.2.1 + 74)), (1, .int l1), (2, .int l2), (3, .int l3), (4, .int l4), (5, .int l5)]) dX10_copies_65 (by decide) rfl ?_
    refine go_iload (pc := 67) dX10_copies_67 rfl ?_
    refine go_i2l (pc := 69) dX10_copies_69 ?_
    refine go_aload_n (pc := 70) dX10_copies_70 rfl rfl ?_
    refine gb_get (pc := 71) fX10_53 rfl (gz_b (by decide)) yw0 rfl dX10_copies_71 (fun v4 ev4 => ?_)
    have h := h v4 ev4
    refine go_i2l (pc := 74) dX10_copies_74 ?_
    refine go_ladd (pc := 75) dX10_copies_75 ?_
    refine go_lstore (pc := 76) (lv' := [(8, .long (l4.toInt64 + v4.toInt64)), (6, .long (l2.toInt64 + v3.toInt64)), (0, .ref (G.2.1 + 74)), (1, .int l1), (2, .int l2), (3, .int l3), (4, .int l4), (5, .int l5)]) dX10_copies_76 (by decide) rfl ?_
    refine go_lload (pc := 78) dX10_copies_78 rfl ?_
    refine go_lconst (pc := 80) (v := 0) dX10_copies_80 (by decide) ?_
    refine go_aload_n (pc := 81) dX10_copies_81 rfl rfl ?_
    refine go_iload_n (pc := 82) dX10_copies_82 rfl rfl ?_
    refine go_iconst (pc := 83) (v := 3) dX10_copies_83 (by decide) ?_
    refine gq_callV_i (pc := 84) (F := wM G o) vX10_71 rfl (tX10_of h) rfl rfl (gz_b (by decide)) yw0 rfl (Nat.le_of_ble_eq_true rfl) ⟨Nat.le_of_ble_eq_true rfl, Nat.le_of_ble_eq_true rfl, Nat.le_add_right _ _, Nat.le_add_right _ _⟩ dX10_copies_84 (fun r6 c5 h => ?_)
    refine go_iconst (pc := 87) (v := 1) dX10_copies_87 (by decide) ?_
    refine go_isub (pc := 88) dX10_copies_88 ?_
    refine go_i2l (pc := 89) dX10_copies_89 ?_
    refine gq_callS_i (pc := 90) (F := wM G o) sX10_63 rfl (tX10_in h) rfl rfl (Nat.le_of_ble_eq_true rfl) ⟨Nat.le_of_ble_eq_true rfl, Nat.le_of_ble_eq_true rfl, Nat.le_add_right _ _, Nat.le_add_right _ _⟩ dX10_copies_90 (fun r8 c7 h => ?_)
    refine go_if_eq (pc := 93) (tgt := 114) dX10_copies_93 (by decide) (fun q9 => ?_) (fun q9 => ?_)
    · have h := h.1 q9
      refine go_iconst (pc := 114) (v := 2) dX10_copies_114 (by decide) ?_
      exact gq_iret (pc := 115) (F := wM G o) rfl dX10_copies_115 h
    · have h := h.2 q9
      refine go_lload (pc := 96) dX10_copies_96 rfl ?_
      refine go_lconst (pc := 98) (v := 0) dX10_copies_98 (by decide) ?_
      refine go_aload_n (pc := 99) dX10_copies_99 rfl rfl ?_
      refine go_iload_n (pc := 100) dX10_copies_100 rfl rfl ?_
      refine go_iconst (pc := 101) (v := 3) dX10_copies_101 (by decide) ?_
      refine gq_callV_i (pc := 102) (F := wM G o) vX10_71 rfl (tX10_of h) rfl rfl (gz_b (by decide)) yw0 rfl (Nat.le_of_ble_eq_true rfl) ⟨Nat.le_of_ble_eq_true rfl, Nat.le_of_ble_eq_true rfl, Nat.le_add_right _ _, Nat.le_add_right _ _⟩ dX10_copies_102 (fun r11 c10 h => ?_)
      refine go_iconst (pc := 105) (v := 1) dX10_copies_105 (by decide) ?_
      refine go_isub (pc := 106) dX10_copies_106 ?_
      refine go_i2l (pc := 107) dX10_copies_107 ?_
      refine gq_callS_i (pc := 108) (F := wM G o) sX10_63 rfl (tX10_in h) rfl rfl (Nat.le_of_ble_eq_true rfl) ⟨Nat.le_of_ble_eq_true rfl, Nat.le_of_ble_eq_true rfl, Nat.le_add_right _ _, Nat.le_add_right _ _⟩ dX10_copies_108 (fun r13 c12 h => ?_)
      refine go_if_ne (pc := 111) (tgt := 116) dX10_copies_111 (by decide) (fun q14 => ?_) (fun q14 => ?_)
      · have h := h.2 q14
        refine go_aload_n (pc := 116) dX10_copies_116 rfl rfl ?_
        refine go_iload_n (pc := 117) dX10_copies_117 rfl rfl ?_
        refine go_lload (pc := 118) dX10_copies_118 rfl ?_
        refine go_l2i (pc := 120) dX10_copies_120 ?_
        refine go_aload_n (pc := 121) dX10_copies_121 rfl rfl ?_
        refine go_get (pc := 122) fX10_9 rfl (gz_b (by decide)) yw0 rfl dX10_copies_122 ?_
        refine go_aload_n (pc := 125) dX10_copies_125 rfl rfl ?_
        refine go_iload_n (pc := 126) dX10_copies_126 rfl rfl ?_
        refine go_lload (pc := 127) dX10_copies_127 rfl ?_
        refine go_l2i (pc := 129) dX10_copies_129 ?_
        refine gq_callV_i (pc := 130) (F := wM G o) vX10_98 rfl (tX10_linkAt h) rfl rfl (gz_b (by decide)) yw0 rfl (Nat.le_of_ble_eq_true rfl) ⟨Nat.le_of_ble_eq_true rfl, Nat.le_of_ble_eq_true rfl, Nat.le_add_right _ _, Nat.le_add_right _ _⟩ dX10_copies_130 (fun r16 c15 h => ?_)
        obtain ⟨b18, h⟩ := h
        refine gb_iald (pc := 133) (gz_b (by decide)) yw1 b18 dX10_copies_133 (fun v17 ev17 => ?_)
        have h := h v17 ev17
        refine gq_callV_v (pc := 134) (F := wM G o) vX10_161 rfl (tX10_relinks h) rfl rfl (gz_b (by decide)) yw0 rfl (Nat.le_of_ble_eq_true rfl) ⟨Nat.le_of_ble_eq_true rfl, Nat.le_of_ble_eq_true rfl, Nat.le_add_right _ _, Nat.le_add_right _ _⟩ dX10_copies_134 (fun c19 h => ?_)
        refine go_aload_n (pc := 137) dX10_copies_137 rfl rfl ?_
        refine go_dup (pc := 138) dX10_copies_138 rfl ?_
        refine gb_get (pc := 139) fX10_53 rfl (gz_b (by decide)) yw0 rfl dX10_copies_139 (fun v20 ev20 => ?_)
        have h := h v20 ev20
        refine go_iconst (pc := 142) (v := 1) dX10_copies_142 (by decide) ?_
        refine go_iadd (pc := 143) dX10_copies_143 ?_
        refine gb_put (pc := 144) (F := wM G o) fX10_53 rfl (gz_b (by decide)) yw0 (Nat.le_of_ble_eq_true rfl) rfl rfl yp0_6 dX10_copies_144 (fun c21 ec21 => ?_)
        have h := h c21 ec21
        refine go_goto (pc := 147) (tgt := 48) dX10_copies_147 (by decide) ?_
        refine go_lv [2, 3, 4, 5, 6, 7] rfl ?_
        exact hP48 _ _ _ _ _ _ h
      · have h := h.1 q14
        refine go_iconst (pc := 114) (v := 2) dX10_copies_114 (by decide) ?_
        exact gq_iret (pc := 115) (F := wM G o) rfl dX10_copies_115 h
set_option maxRecDepth 100000 in
set_option maxHeartbeats 4000000 in
theorem tX10_copies_p48 {l : Launch} {G : gG} {k : Nat} {o : gMem} {Q : Int32 → gMem → Prop} {l1 : Int32} {l2 : Int32} {l3 : Int32} {l4 : Int32} {l5 : Int32} {c : gMem} (h : wX10_copies_p48 l1 l2 l3 l4 l5 c Q) : Go l G mX10_copies (gbq G 3 71 84 k (qi (wM G o) Q)) 48 [(0, .ref (G.2.1 + 74)), (1, .int l1), (2, .int l2), (3, .int l3), (4, .int l4), (5, .int l5)] [] 84 k (wM G o c) :=
  h (fun l1 l2 l3 l4 l5 c => Go l G mX10_copies (gbq G 3 71 84 k (qi (wM G o) Q)) 48 [(0, .ref (G.2.1 + 74)), (1, .int l1), (2, .int l2), (3, .int l3), (4, .int l4), (5, .int l5)] [] 84 k (wM G o c)) (fun l1 l2 l3 l4 l5 c hb => tX10_copies_p48_b (fun l1 l2 l3 l4 l5 c hh => hh) hb)
def wX10_copies (l1 : Int32) (l2 : Int32) (l3 : Int32) (l4 : Int32) (l5 : Int32) (c : gMem) (Q : Int32 → gMem → Prop) : Prop :=
  ∀ c1, c1 = mp c 0 6 0 →
  wX10_isGone l1 c1 (fun r3 c2 =>
  ((r3 = 0 →
    wX10_isGone l3 c2 (fun r6 c5 =>
    ((r6 = 0 →
      wX10_isRow l1 c5 (fun r9 c8 =>
      ((r9 = 0 →
        Q 3 c8) ∧
       (¬ r9 = 0 →
        wX10_isRow l3 c8 (fun r12 c11 =>
        ((r12 = 0 →
          Q 3 c11) ∧
         (¬ r12 = 0 →
          ((0 ≤ l5 →
            wX10_copies_p48 l1 l2 l3 l4 l5 c11 Q) ∧
           (¬ 0 ≤ l5 →
            Q 4 c11))))))))) ∧
     (¬ r6 = 0 →
      Q 1 c5)))) ∧
   (¬ r3 = 0 →
    Q 1 c2)))
set_option maxRecDepth 100000 in
set_option maxHeartbeats 4000000 in
theorem tX10_copies {l : Launch} {G : gG} {k : Nat} {o : gMem} {Q : Int32 → gMem → Prop} {l1 : Int32} {l2 : Int32} {l3 : Int32} {l4 : Int32} {l5 : Int32} {c : gMem} (h : wX10_copies l1 l2 l3 l4 l5 c Q) : Cq l G mX10_copies 3 71 [.ref (G.2.1 + 74), .int l1, .int l2, .int l3, .int l4, .int l5] 84 k (wM G o c) (qi (wM G o) Q) := by
  refine Cq.of (by decide) (Nat.le_of_ble_eq_true rfl) ?_
  show Go l G mX10_copies (gbq G 3 71 84 k (qi (wM G o) Q)) 0 [(0, .ref (G.2.1 + 74)), (1, .int l1), (2, .int l2), (3, .int l3), (4, .int l4), (5, .int l5)] [] 84 k (wM G o c)
  unfold wX10_copies at h
  refine go_aload_n (pc := 0) dX10_copies_0 rfl rfl ?_
  refine go_iconst (pc := 1) (v := 0) dX10_copies_1 (by decide) ?_
  refine gb_put (pc := 2) (F := wM G o) fX10_53 rfl (gz_b (by decide)) yw0 (Nat.le_of_ble_eq_true rfl) rfl rfl yp0_6 dX10_copies_2 (fun c1 ec1 => ?_)
  have h := h c1 ec1
  refine go_aload_n (pc := 5) dX10_copies_5 rfl rfl ?_
  refine go_iload_n (pc := 6) dX10_copies_6 rfl rfl ?_
  refine gq_callV_i (pc := 7) (F := wM G o) vX10_158 rfl (tX10_isGone h) rfl rfl (gz_b (by decide)) yw0 rfl (Nat.le_of_ble_eq_true rfl) ⟨Nat.le_of_ble_eq_true rfl, Nat.le_of_ble_eq_true rfl, Nat.le_add_right _ _, Nat.le_add_right _ _⟩ dX10_copies_7 (fun r3 c2 h => ?_)
  refine go_if_ne (pc := 10) (tgt := 21) dX10_copies_10 (by decide) (fun q4 => ?_) (fun q4 => ?_)
  · have h := h.2 q4
    refine go_iconst (pc := 21) (v := 1) dX10_copies_21 (by decide) ?_
    exact gq_iret (pc := 22) (F := wM G o) rfl dX10_copies_22 h
  · have h := h.1 q4
    refine go_aload_n (pc := 13) dX10_copies_13 rfl rfl ?_
    refine go_iload_n (pc := 14) dX10_copies_14 rfl rfl ?_
    refine gq_callV_i (pc := 15) (F := wM G o) vX10_158 rfl (tX10_isGone h) rfl rfl (gz_b (by decide)) yw0 rfl (Nat.le_of_ble_eq_true rfl) ⟨Nat.le_of_ble_eq_true rfl, Nat.le_of_ble_eq_true rfl, Nat.le_add_right _ _, Nat.le_add_right _ _⟩ dX10_copies_15 (fun r6 c5 h => ?_)
    refine go_if_eq (pc := 18) (tgt := 23) dX10_copies_18 (by decide) (fun q7 => ?_) (fun q7 => ?_)
    · have h := h.1 q7
      refine go_aload_n (pc := 23) dX10_copies_23 rfl rfl ?_
      refine go_iload_n (pc := 24) dX10_copies_24 rfl rfl ?_
      refine gq_callV_i (pc := 25) (F := wM G o) vX10_206 rfl (tX10_isRow h) rfl rfl (gz_b (by decide)) yw0 rfl (Nat.le_of_ble_eq_true rfl) ⟨Nat.le_of_ble_eq_true rfl, Nat.le_of_ble_eq_true rfl, Nat.le_add_right _ _, Nat.le_add_right _ _⟩ dX10_copies_25 (fun r9 c8 h => ?_)
      refine go_if_eq (pc := 28) (tgt := 39) dX10_copies_28 (by decide) (fun q10 => ?_) (fun q10 => ?_)
      · have h := h.1 q10
        refine go_iconst (pc := 39) (v := 3) dX10_copies_39 (by decide) ?_
        exact gq_iret (pc := 40) (F := wM G o) rfl dX10_copies_40 h
      · have h := h.2 q10
        refine go_aload_n (pc := 31) dX10_copies_31 rfl rfl ?_
        refine go_iload_n (pc := 32) dX10_copies_32 rfl rfl ?_
        refine gq_callV_i (pc := 33) (F := wM G o) vX10_206 rfl (tX10_isRow h) rfl rfl (gz_b (by decide)) yw0 rfl (Nat.le_of_ble_eq_true rfl) ⟨Nat.le_of_ble_eq_true rfl, Nat.le_of_ble_eq_true rfl, Nat.le_add_right _ _, Nat.le_add_right _ _⟩ dX10_copies_33 (fun r12 c11 h => ?_)
        refine go_if_ne (pc := 36) (tgt := 41) dX10_copies_36 (by decide) (fun q13 => ?_) (fun q13 => ?_)
        · have h := h.2 q13
          refine go_iload (pc := 41) dX10_copies_41 rfl ?_
          refine go_if_ge (pc := 43) (tgt := 48) dX10_copies_43 (by decide) (fun q14 => ?_) (fun q14 => ?_)
          · have h := h.1 q14
            refine go_lv [0, 1, 2, 3, 4, 5] rfl ?_
            exact tX10_copies_p48 h
          · have h := h.2 q14
            refine go_iconst (pc := 46) (v := 4) dX10_copies_46 (by decide) ?_
            exact gq_iret (pc := 47) (F := wM G o) rfl dX10_copies_47 h
        · have h := h.1 q13
          refine go_iconst (pc := 39) (v := 3) dX10_copies_39 (by decide) ?_
          exact gq_iret (pc := 40) (F := wM G o) rfl dX10_copies_40 h
    · have h := h.2 q7
      refine go_iconst (pc := 21) (v := 1) dX10_copies_21 (by decide) ?_
      exact gq_iret (pc := 22) (F := wM G o) rfl dX10_copies_22 h
def wX10_copy (l1 : Int32) (l2 : Int32) (l3 : Int32) (l4 : Int32) (l5 : Int32) (c : gMem) (Q : Int32 → gMem → Prop) : Prop :=
  wX10_isMade l1 c (fun r2 c1 =>
  ((r2 = 0 →
    Q ((-101)) c1) ∧
   (¬ r2 = 0 →
    wX10_isMade l3 c1 (fun r5 c4 =>
    ((r5 = 0 →
      Q ((-101)) c4) ∧
     (¬ r5 = 0 →
      wX10_copies l1 l2 l3 l4 l5 c4 (fun r8 c7 =>
      ∀ c9, c9 = mp c7 0 12 l5 →
      wX10_by r8 c9 (fun r11 c10 =>
      Q r11 c10))))))))
set_option maxRecDepth 100000 in
set_option maxHeartbeats 4000000 in
theorem tX10_copy {l : Launch} {G : gG} {k : Nat} {o : gMem} {Q : Int32 → gMem → Prop} {l1 : Int32} {l2 : Int32} {l3 : Int32} {l4 : Int32} {l5 : Int32} {c : gMem} (h : wX10_copy l1 l2 l3 l4 l5 c Q) : Cq l G mX10_copy 4 100 [.ref (G.2.1 + 74), .int l1, .int l2, .int l3, .int l4, .int l5] 84 k (wM G o c) (qi (wM G o) Q) := by
  refine Cq.of (by decide) (Nat.le_of_ble_eq_true rfl) ?_
  show Go l G mX10_copy (gbq G 4 100 84 k (qi (wM G o) Q)) 0 [(0, .ref (G.2.1 + 74)), (1, .int l1), (2, .int l2), (3, .int l3), (4, .int l4), (5, .int l5)] [] 84 k (wM G o c)
  unfold wX10_copy at h
  refine go_aload_n (pc := 0) dX10_copy_0 rfl rfl ?_
  refine go_iload_n (pc := 1) dX10_copy_1 rfl rfl ?_
  refine gq_callV_i (pc := 2) (F := wM G o) vX10_67 rfl (tX10_isMade h) rfl rfl (gz_b (by decide)) yw0 rfl (Nat.le_of_ble_eq_true rfl) ⟨Nat.le_of_ble_eq_true rfl, Nat.le_of_ble_eq_true rfl, Nat.le_add_right _ _, Nat.le_add_right _ _⟩ dX10_copy_2 (fun r2 c1 h => ?_)
  refine go_if_eq (pc := 5) (tgt := 16) dX10_copy_5 (by decide) (fun q3 => ?_) (fun q3 => ?_)
  · have h := h.1 q3
    refine go_bipush (pc := 16) (v := (-101)) dX10_copy_16 (by decide) ?_
    exact gq_iret (pc := 18) (F := wM G o) rfl dX10_copy_18 h
  · have h := h.2 q3
    refine go_aload_n (pc := 8) dX10_copy_8 rfl rfl ?_
    refine go_iload_n (pc := 9) dX10_copy_9 rfl rfl ?_
    refine gq_callV_i (pc := 10) (F := wM G o) vX10_67 rfl (tX10_isMade h) rfl rfl (gz_b (by decide)) yw0 rfl (Nat.le_of_ble_eq_true rfl) ⟨Nat.le_of_ble_eq_true rfl, Nat.le_of_ble_eq_true rfl, Nat.le_add_right _ _, Nat.le_add_right _ _⟩ dX10_copy_10 (fun r5 c4 h => ?_)
    refine go_if_ne (pc := 13) (tgt := 19) dX10_copy_13 (by decide) (fun q6 => ?_) (fun q6 => ?_)
    · have h := h.2 q6
      refine go_aload_n (pc := 19) dX10_copy_19 rfl rfl ?_
      refine go_iload_n (pc := 20) dX10_copy_20 rfl rfl ?_
      refine go_iload_n (pc := 21) dX10_copy_21 rfl rfl ?_
      refine go_iload_n (pc := 22) dX10_copy_22 rfl rfl ?_
      refine go_iload (pc := 23) dX10_copy_23 rfl ?_
      refine go_iload (pc := 25) dX10_copy_25 rfl ?_
      refine gq_callV_i (pc := 27) (F := wM G o) vX10_209 rfl (tX10_copies h) rfl rfl (gz_b (by decide)) yw0 rfl (Nat.le_of_ble_eq_true rfl) ⟨Nat.le_of_ble_eq_true rfl, Nat.le_of_ble_eq_true rfl, Nat.le_add_right _ _, Nat.le_add_right _ _⟩ dX10_copy_27 (fun r8 c7 h => ?_)
      refine go_istore (pc := 30) (lv' := [(6, .int r8), (0, .ref (G.2.1 + 74)), (1, .int l1), (2, .int l2), (3, .int l3), (4, .int l4), (5, .int l5)]) dX10_copy_30 (by decide) rfl ?_
      refine go_aload_n (pc := 32) dX10_copy_32 rfl rfl ?_
      refine go_iload (pc := 33) dX10_copy_33 rfl ?_
      refine gb_put (pc := 35) (F := wM G o) fX10_171 rfl (gz_b (by decide)) yw0 (Nat.le_of_ble_eq_true rfl) rfl rfl yp0_12 dX10_copy_35 (fun c9 ec9 => ?_)
      have h := h c9 ec9
      refine go_aload_n (pc := 38) dX10_copy_38 rfl rfl ?_
      refine go_iload (pc := 39) dX10_copy_39 rfl ?_
      refine gq_callV_i (pc := 41) (F := wM G o) vX10_177 rfl (tX10_by h) rfl rfl (gz_b (by decide)) yw0 rfl (Nat.le_of_ble_eq_true rfl) ⟨Nat.le_of_ble_eq_true rfl, Nat.le_of_ble_eq_true rfl, Nat.le_add_right _ _, Nat.le_add_right _ _⟩ dX10_copy_41 (fun r11 c10 h => ?_)
      exact gq_iret (pc := 44) (F := wM G o) rfl dX10_copy_44 h
    · have h := h.1 q6
      refine go_bipush (pc := 16) (v := (-101)) dX10_copy_16 (by decide) ?_
      exact gq_iret (pc := 18) (F := wM G o) rfl dX10_copy_18 h
def wX10_copied (c : gMem) (Q : Int32 → gMem → Prop) : Prop :=
  ∀ v1, v1 = c 0 6 →
  Q v1 c
set_option maxRecDepth 100000 in
set_option maxHeartbeats 4000000 in
theorem tX10_copied {l : Launch} {G : gG} {k : Nat} {o : gMem} {Q : Int32 → gMem → Prop} {c : gMem} (h : wX10_copied c Q) : Cq l G mX10_copied 0 0 [.ref (G.2.1 + 74)] 84 k (wM G o c) (qi (wM G o) Q) := by
  refine Cq.of (by decide) (Nat.le_of_ble_eq_true rfl) ?_
  show Go l G mX10_copied (gbq G 0 0 84 k (qi (wM G o) Q)) 0 [(0, .ref (G.2.1 + 74))] [] 84 k (wM G o c)
  unfold wX10_copied at h
  refine go_aload_n (pc := 0) dX10_copied_0 rfl rfl ?_
  refine gb_get (pc := 1) fX10_53 rfl (gz_b (by decide)) yw0 rfl dX10_copied_1 (fun v1 ev1 => ?_)
  have h := h v1 ev1
  exact gq_iret (pc := 4) (F := wM G o) rfl dX10_copied_4 h
def wX10_takes_p51 (c : gMem) (Q : Int32 → gMem → Prop) : Prop :=
  Q 1 c
set_option maxRecDepth 100000 in
set_option maxHeartbeats 4000000 in
theorem tX10_takes_p51 {l : Launch} {G : gG} {k : Nat} {o : gMem} {Q : Int32 → gMem → Prop} {c : gMem} (h : wX10_takes_p51 c Q) : Go l G mX10_takes (gbq G 0 0 84 k (qi (wM G o) Q)) 51 [] [] 84 k (wM G o c) := by
  unfold wX10_takes_p51 at h
  refine go_iconst (pc := 51) (v := 1) dX10_takes_51 (by decide) ?_
  refine go_goto (pc := 52) (tgt := 78) dX10_takes_52 (by decide) ?_
  exact gq_zret (pc := 78) (F := wM G o) rfl (by decide) dX10_takes_78 h
def wX10_takes_p28 (c : gMem) (Q : Int32 → gMem → Prop) : Prop :=
  Q 1 c
set_option maxRecDepth 100000 in
set_option maxHeartbeats 4000000 in
theorem tX10_takes_p28 {l : Launch} {G : gG} {k : Nat} {o : gMem} {Q : Int32 → gMem → Prop} {c : gMem} (h : wX10_takes_p28 c Q) : Go l G mX10_takes (gbq G 0 0 84 k (qi (wM G o) Q)) 28 [] [] 84 k (wM G o c) := by
  unfold wX10_takes_p28 at h
  refine go_iconst (pc := 28) (v := 1) dX10_takes_28 (by decide) ?_
  refine go_goto (pc := 29) (tgt := 78) dX10_takes_29 (by decide) ?_
  exact gq_zret (pc := 78) (F := wM G o) rfl (by decide) dX10_takes_78 h
def wX10_takes_p15 (l0 : Int32) (l1 : Int32) (s0 : Int32) (c : gMem) (Q : Int32 → gMem → Prop) : Prop :=
  ((l0 = 0 →
    ((l1 = 0 →
      wX10_takes_p28 c Q) ∧
     (¬ l1 = 0 →
      ((s0 = 0 →
        Q 0 c) ∧
       (¬ s0 = 0 →
        wX10_takes_p28 c Q))))) ∧
   (¬ l0 = 0 →
    ((l0 = 1 →
      ((l1 = 1 →
        wX10_takes_p51 c Q) ∧
       (¬ l1 = 1 →
        ((l1 = 5 →
          wX10_takes_p51 c Q) ∧
         (¬ l1 = 5 →
          Q 0 c))))) ∧
     (¬ l0 = 1 →
      ((l0 = 2 →
        ((l1 = 2 →
          Q 1 c) ∧
         (¬ l1 = 2 →
          Q 0 c))) ∧
       (¬ l0 = 2 →
        (s0 = 0 ∨ s0 = 1) ∧ Q s0 c))))))
set_option maxRecDepth 100000 in
set_option maxHeartbeats 4000000 in
theorem tX10_takes_p15 {l : Launch} {G : gG} {k : Nat} {o : gMem} {Q : Int32 → gMem → Prop} {l0 : Int32} {l1 : Int32} {s0 : Int32} {c : gMem} (h : wX10_takes_p15 l0 l1 s0 c Q) : Go l G mX10_takes (gbq G 0 0 84 k (qi (wM G o) Q)) 15 [(0, .int l0), (1, .int l1)] [.int s0] 84 k (wM G o c) := by
  unfold wX10_takes_p15 at h
  refine go_istore_n (pc := 15) (lv' := [(2, .int s0), (0, .int l0), (1, .int l1)]) dX10_takes_15 rfl (by decide) rfl ?_
  refine go_iload_n (pc := 16) dX10_takes_16 rfl rfl ?_
  refine go_if_ne (pc := 17) (tgt := 36) dX10_takes_17 (by decide) (fun q1 => ?_) (fun q1 => ?_)
  · have h := h.2 q1
    refine go_iload_n (pc := 36) dX10_takes_36 rfl rfl ?_
    refine go_iconst (pc := 37) (v := 1) dX10_takes_37 (by decide) ?_
    refine go_icmp_ne (pc := 38) (tgt := 59) dX10_takes_38 (by decide) (fun q2 => ?_) (fun q2 => ?_)
    · have h := h.2 q2
      refine go_iload_n (pc := 59) dX10_takes_59 rfl rfl ?_
      refine go_iconst (pc := 60) (v := 2) dX10_takes_60 (by decide) ?_
      refine go_icmp_ne (pc := 61) (tgt := 77) dX10_takes_61 (by decide) (fun q3 => ?_) (fun q3 => ?_)
      · have h := h.2 q3
        refine go_iload_n (pc := 77) dX10_takes_77 rfl rfl ?_
        exact gq_zret (pc := 78) (F := wM G o) rfl h.1 dX10_takes_78 h.2
      · have h := h.1 q3
        refine go_iload_n (pc := 64) dX10_takes_64 rfl rfl ?_
        refine go_iconst (pc := 65) (v := 2) dX10_takes_65 (by decide) ?_
        refine go_icmp_ne (pc := 66) (tgt := 73) dX10_takes_66 (by decide) (fun q4 => ?_) (fun q4 => ?_)
        · have h := h.2 q4
          refine go_iconst (pc := 73) (v := 0) dX10_takes_73 (by decide) ?_
          refine go_goto (pc := 74) (tgt := 78) dX10_takes_74 (by decide) ?_
          exact gq_zret (pc := 78) (F := wM G o) rfl (by decide) dX10_takes_78 h
        · have h := h.1 q4
          refine go_iconst (pc := 69) (v := 1) dX10_takes_69 (by decide) ?_
          refine go_goto (pc := 70) (tgt := 78) dX10_takes_70 (by decide) ?_
          exact gq_zret (pc := 78) (F := wM G o) rfl (by decide) dX10_takes_78 h
    · have h := h.1 q2
      refine go_iload_n (pc := 41) dX10_takes_41 rfl rfl ?_
      refine go_iconst (pc := 42) (v := 1) dX10_takes_42 (by decide) ?_
      refine go_icmp_eq (pc := 43) (tgt := 51) dX10_takes_43 (by decide) (fun q5 => ?_) (fun q5 => ?_)
      · have h := h.1 q5
        refine go_lv [] rfl ?_
        exact tX10_takes_p51 h
      · have h := h.2 q5
        refine go_iload_n (pc := 46) dX10_takes_46 rfl rfl ?_
        refine go_iconst (pc := 47) (v := 5) dX10_takes_47 (by decide) ?_
        refine go_icmp_ne (pc := 48) (tgt := 55) dX10_takes_48 (by decide) (fun q6 => ?_) (fun q6 => ?_)
        · have h := h.2 q6
          refine go_iconst (pc := 55) (v := 0) dX10_takes_55 (by decide) ?_
          refine go_goto (pc := 56) (tgt := 78) dX10_takes_56 (by decide) ?_
          exact gq_zret (pc := 78) (F := wM G o) rfl (by decide) dX10_takes_78 h
        · have h := h.1 q6
          refine go_lv [] rfl ?_
          exact tX10_takes_p51 h
  · have h := h.1 q1
    refine go_iload_n (pc := 20) dX10_takes_20 rfl rfl ?_
    refine go_if_eq (pc := 21) (tgt := 28) dX10_takes_21 (by decide) (fun q7 => ?_) (fun q7 => ?_)
    · have h := h.1 q7
      refine go_lv [] rfl ?_
      exact tX10_takes_p28 h
    · have h := h.2 q7
      refine go_iload_n (pc := 24) dX10_takes_24 rfl rfl ?_
      refine go_if_eq (pc := 25) (tgt := 32) dX10_takes_25 (by decide) (fun q8 => ?_) (fun q8 => ?_)
      · have h := h.1 q8
        refine go_iconst (pc := 32) (v := 0) dX10_takes_32 (by decide) ?_
        refine go_goto (pc := 33) (tgt := 78) dX10_takes_33 (by decide) ?_
        exact gq_zret (pc := 78) (F := wM G o) rfl (by decide) dX10_takes_78 h
      · have h := h.2 q8
        refine go_lv [] rfl ?_
        exact tX10_takes_p28 h
def wX10_takes_p10 (l0 : Int32) (l1 : Int32) (c : gMem) (Q : Int32 → gMem → Prop) : Prop :=
  wX10_takes_p15 l0 l1 1 c Q
set_option maxRecDepth 100000 in
set_option maxHeartbeats 4000000 in
theorem tX10_takes_p10 {l : Launch} {G : gG} {k : Nat} {o : gMem} {Q : Int32 → gMem → Prop} {l0 : Int32} {l1 : Int32} {c : gMem} (h : wX10_takes_p10 l0 l1 c Q) : Go l G mX10_takes (gbq G 0 0 84 k (qi (wM G o) Q)) 10 [(0, .int l0), (1, .int l1)] [] 84 k (wM G o c) := by
  unfold wX10_takes_p10 at h
  refine go_iconst (pc := 10) (v := 1) dX10_takes_10 (by decide) ?_
  refine go_goto (pc := 11) (tgt := 15) dX10_takes_11 (by decide) ?_
  refine go_lv [0, 1] rfl ?_
  exact tX10_takes_p15 h
def wX10_takes (l0 : Int32) (l1 : Int32) (c : gMem) (Q : Int32 → gMem → Prop) : Prop :=
  ((l1 = 3 →
    wX10_takes_p10 l0 l1 c Q) ∧
   (¬ l1 = 3 →
    ((l1 = 4 →
      wX10_takes_p10 l0 l1 c Q) ∧
     (¬ l1 = 4 →
      wX10_takes_p15 l0 l1 0 c Q))))
set_option maxRecDepth 100000 in
set_option maxHeartbeats 4000000 in
theorem tX10_takes {l : Launch} {G : gG} {k : Nat} {o : gMem} {Q : Int32 → gMem → Prop} {l0 : Int32} {l1 : Int32} {c : gMem} (h : wX10_takes l0 l1 c Q) : Cq l G mX10_takes 0 0 [.int l0, .int l1] 84 k (wM G o c) (qi (wM G o) Q) := by
  refine Cq.of (by decide) (Nat.le_of_ble_eq_true rfl) ?_
  show Go l G mX10_takes (gbq G 0 0 84 k (qi (wM G o) Q)) 0 [(0, .int l0), (1, .int l1)] [] 84 k (wM G o c)
  unfold wX10_takes at h
  refine go_iload_n (pc := 0) dX10_takes_0 rfl rfl ?_
  refine go_iconst (pc := 1) (v := 3) dX10_takes_1 (by decide) ?_
  refine go_icmp_eq (pc := 2) (tgt := 10) dX10_takes_2 (by decide) (fun q1 => ?_) (fun q1 => ?_)
  · have h := h.1 q1
    refine go_lv [0, 1] rfl ?_
    exact tX10_takes_p10 h
  · have h := h.2 q1
    refine go_iload_n (pc := 5) dX10_takes_5 rfl rfl ?_
    refine go_iconst (pc := 6) (v := 4) dX10_takes_6 (by decide) ?_
    refine go_icmp_ne (pc := 7) (tgt := 14) dX10_takes_7 (by decide) (fun q2 => ?_) (fun q2 => ?_)
    · have h := h.2 q2
      refine go_iconst (pc := 14) (v := 0) dX10_takes_14 (by decide) ?_
      refine go_lv [0, 1] rfl ?_
      exact tX10_takes_p15 h
    · have h := h.1 q2
      refine go_lv [0, 1] rfl ?_
      exact tX10_takes_p10 h
def wX10_shelves_p58 (l1 : Int32) (l2 : Int32) (l3 : Int32) (c : gMem) (Q : Int32 → gMem → Prop) : Prop :=
  vp_in ((44 + (8 * l1)) + l2) 26100 ∧
  ∀ c1, c1 = mp c 1 ((44 + (8 * l1)) + l2).toNatClampNeg l3 →
  Q 1 c1
set_option maxRecDepth 100000 in
set_option maxHeartbeats 4000000 in
theorem tX10_shelves_p58 {l : Launch} {G : gG} {k : Nat} {o : gMem} {Q : Int32 → gMem → Prop} {l1 : Int32} {l2 : Int32} {l3 : Int32} {c : gMem} (h : wX10_shelves_p58 l1 l2 l3 c Q) : Go l G mX10_shelves (gbq G 2 43 84 k (qi (wM G o) Q)) 58 [(0, .ref (G.2.1 + 74)), (1, .int l1), (2, .int l2), (3, .int l3)] [] 84 k (wM G o c) := by
  unfold wX10_shelves_p58 at h
  refine go_aload_n (pc := 58) dX10_shelves_58 rfl rfl ?_
  refine go_get (pc := 59) fX10_9 rfl (gz_b (by decide)) yw0 rfl dX10_shelves_59 ?_
  refine go_bipush (pc := 62) (v := 44) dX10_shelves_62 (by decide) ?_
  refine go_bipush (pc := 64) (v := 8) dX10_shelves_64 (by decide) ?_
  refine go_iload_n (pc := 66) dX10_shelves_66 rfl rfl ?_
  refine go_imul (pc := 67) dX10_shelves_67 ?_
  refine go_iadd (pc := 68) dX10_shelves_68 ?_
  refine go_iload_n (pc := 69) dX10_shelves_69 rfl rfl ?_
  refine go_iadd (pc := 70) dX10_shelves_70 ?_
  refine go_iload_n (pc := 71) dX10_shelves_71 rfl rfl ?_
  obtain ⟨b2, h⟩ := h
  refine gb_iast (pc := 72) (F := wM G o) (gz_b (by decide)) yw1 b2 ya1 dX10_shelves_72 (fun c1 ec1 => ?_)
  have h := h c1 ec1
  refine go_iconst (pc := 73) (v := 1) dX10_shelves_73 (by decide) ?_
  exact gq_iret (pc := 74) (F := wM G o) rfl dX10_shelves_74 h
def wX10_shelves_p18 (l1 : Int32) (l2 : Int32) (l3 : Int32) (c : gMem) (Q : Int32 → gMem → Prop) : Prop :=
  wX10_in l2.toInt64 0 7 c (fun r2 c1 =>
  ((r2 = 0 →
    wX10_fails 2 c1 (fun r13 c12 =>
    Q r13 c12)) ∧
   (¬ r2 = 0 →
    ((l3 = (-1) →
      wX10_shelves_p58 l1 l2 l3 c1 Q) ∧
     (¬ l3 = (-1) →
      wX10_of l3 1 c1 (fun r6 c5 =>
      wX10_takes l1 r6 c5 (fun r8 c7 =>
      ((r8 = 0 →
        wX10_fails 5 c7 (fun r11 c10 =>
        Q r11 c10)) ∧
       (¬ r8 = 0 →
        wX10_shelves_p58 l1 l2 l3 c7 Q)))))))))
set_option maxRecDepth 100000 in
set_option maxHeartbeats 4000000 in
theorem tX10_shelves_p18 {l : Launch} {G : gG} {k : Nat} {o : gMem} {Q : Int32 → gMem → Prop} {l1 : Int32} {l2 : Int32} {l3 : Int32} {c : gMem} (h : wX10_shelves_p18 l1 l2 l3 c Q) : Go l G mX10_shelves (gbq G 2 43 84 k (qi (wM G o) Q)) 18 [(0, .ref (G.2.1 + 74)), (1, .int l1), (2, .int l2), (3, .int l3)] [] 84 k (wM G o c) := by
  unfold wX10_shelves_p18 at h
  refine go_iload_n (pc := 18) dX10_shelves_18 rfl rfl ?_
  refine go_i2l (pc := 19) dX10_shelves_19 ?_
  refine go_lconst (pc := 20) (v := 0) dX10_shelves_20 (by decide) ?_
  refine go_ldc2 (pc := 21) rfl qX10_213 dX10_shelves_21 ?_
  refine gq_callS_i (pc := 24) (F := wM G o) sX10_63 rfl (tX10_in h) rfl rfl (Nat.le_of_ble_eq_true rfl) ⟨Nat.le_of_ble_eq_true rfl, Nat.le_of_ble_eq_true rfl, Nat.le_add_right _ _, Nat.le_add_right _ _⟩ dX10_shelves_24 (fun r2 c1 h => ?_)
  refine go_if_ne (pc := 27) (tgt := 35) dX10_shelves_27 (by decide) (fun q3 => ?_) (fun q3 => ?_)
  · have h := h.2 q3
    refine go_iload_n (pc := 35) dX10_shelves_35 rfl rfl ?_
    refine go_iconst (pc := 36) (v := (-1)) dX10_shelves_36 (by decide) ?_
    refine go_icmp_eq (pc := 37) (tgt := 58) dX10_shelves_37 (by decide) (fun q4 => ?_) (fun q4 => ?_)
    · have h := h.1 q4
      refine go_lv [0, 1, 2, 3] rfl ?_
      exact tX10_shelves_p58 h
    · have h := h.2 q4
      refine go_iload_n (pc := 40) dX10_shelves_40 rfl rfl ?_
      refine go_aload_n (pc := 41) dX10_shelves_41 rfl rfl ?_
      refine go_iload_n (pc := 42) dX10_shelves_42 rfl rfl ?_
      refine go_iconst (pc := 43) (v := 1) dX10_shelves_43 (by decide) ?_
      refine gq_callV_i (pc := 44) (F := wM G o) vX10_71 rfl (tX10_of h) rfl rfl (gz_b (by decide)) yw0 rfl (Nat.le_of_ble_eq_true rfl) ⟨Nat.le_of_ble_eq_true rfl, Nat.le_of_ble_eq_true rfl, Nat.le_add_right _ _, Nat.le_add_right _ _⟩ dX10_shelves_44 (fun r6 c5 h => ?_)
      refine gq_callS_i (pc := 47) (F := wM G o) sX10_215 rfl (tX10_takes h) rfl rfl (Nat.le_of_ble_eq_true rfl) ⟨Nat.le_of_ble_eq_true rfl, Nat.le_of_ble_eq_true rfl, Nat.le_add_right _ _, Nat.le_add_right _ _⟩ dX10_shelves_47 (fun r8 c7 h => ?_)
      refine go_if_ne (pc := 50) (tgt := 58) dX10_shelves_50 (by decide) (fun q9 => ?_) (fun q9 => ?_)
      · have h := h.2 q9
        refine go_lv [0, 1, 2, 3] rfl ?_
        exact tX10_shelves_p58 h
      · have h := h.1 q9
        refine go_iconst (pc := 53) (v := 5) dX10_shelves_53 (by decide) ?_
        refine gq_callS_i (pc := 54) (F := wM G o) sX10_141 rfl (tX10_fails h) rfl rfl (Nat.le_of_ble_eq_true rfl) ⟨Nat.le_of_ble_eq_true rfl, Nat.le_of_ble_eq_true rfl, Nat.le_add_right _ _, Nat.le_add_right _ _⟩ dX10_shelves_54 (fun r11 c10 h => ?_)
        exact gq_iret (pc := 57) (F := wM G o) rfl dX10_shelves_57 h
  · have h := h.1 q3
    refine go_iconst (pc := 30) (v := 2) dX10_shelves_30 (by decide) ?_
    refine gq_callS_i (pc := 31) (F := wM G o) sX10_141 rfl (tX10_fails h) rfl rfl (Nat.le_of_ble_eq_true rfl) ⟨Nat.le_of_ble_eq_true rfl, Nat.le_of_ble_eq_true rfl, Nat.le_add_right _ _, Nat.le_add_right _ _⟩ dX10_shelves_31 (fun r13 c12 h => ?_)
    exact gq_iret (pc := 34) (F := wM G o) rfl dX10_shelves_34 h
def wX10_shelves (l1 : Int32) (l2 : Int32) (l3 : Int32) (c : gMem) (Q : Int32 → gMem → Prop) : Prop :=
  ((l3 = (-1) →
    wX10_shelves_p18 l1 l2 l3 c Q) ∧
   (¬ l3 = (-1) →
    wX10_isGone l3 c (fun r3 c2 =>
    ((r3 = 0 →
      wX10_shelves_p18 l1 l2 l3 c2 Q) ∧
     (¬ r3 = 0 →
      wX10_fails 1 c2 (fun r6 c5 =>
      Q r6 c5))))))
set_option maxRecDepth 100000 in
set_option maxHeartbeats 4000000 in
theorem tX10_shelves {l : Launch} {G : gG} {k : Nat} {o : gMem} {Q : Int32 → gMem → Prop} {l1 : Int32} {l2 : Int32} {l3 : Int32} {c : gMem} (h : wX10_shelves l1 l2 l3 c Q) : Cq l G mX10_shelves 2 43 [.ref (G.2.1 + 74), .int l1, .int l2, .int l3] 84 k (wM G o c) (qi (wM G o) Q) := by
  refine Cq.of (by decide) (Nat.le_of_ble_eq_true rfl) ?_
  show Go l G mX10_shelves (gbq G 2 43 84 k (qi (wM G o) Q)) 0 [(0, .ref (G.2.1 + 74)), (1, .int l1), (2, .int l2), (3, .int l3)] [] 84 k (wM G o c)
  unfold wX10_shelves at h
  refine go_iload_n (pc := 0) dX10_shelves_0 rfl rfl ?_
  refine go_iconst (pc := 1) (v := (-1)) dX10_shelves_1 (by decide) ?_
  refine go_icmp_eq (pc := 2) (tgt := 18) dX10_shelves_2 (by decide) (fun q1 => ?_) (fun q1 => ?_)
  · have h := h.1 q1
    refine go_lv [0, 1, 2, 3] rfl ?_
    exact tX10_shelves_p18 h
  · have h := h.2 q1
    refine go_aload_n (pc := 5) dX10_shelves_5 rfl rfl ?_
    refine go_iload_n (pc := 6) dX10_shelves_6 rfl rfl ?_
    refine gq_callV_i (pc := 7) (F := wM G o) vX10_158 rfl (tX10_isGone h) rfl rfl (gz_b (by decide)) yw0 rfl (Nat.le_of_ble_eq_true rfl) ⟨Nat.le_of_ble_eq_true rfl, Nat.le_of_ble_eq_true rfl, Nat.le_add_right _ _, Nat.le_add_right _ _⟩ dX10_shelves_7 (fun r3 c2 h => ?_)
    refine go_if_eq (pc := 10) (tgt := 18) dX10_shelves_10 (by decide) (fun q4 => ?_) (fun q4 => ?_)
    · have h := h.1 q4
      refine go_lv [0, 1, 2, 3] rfl ?_
      exact tX10_shelves_p18 h
    · have h := h.2 q4
      refine go_iconst (pc := 13) (v := 1) dX10_shelves_13 (by decide) ?_
      refine gq_callS_i (pc := 14) (F := wM G o) sX10_141 rfl (tX10_fails h) rfl rfl (Nat.le_of_ble_eq_true rfl) ⟨Nat.le_of_ble_eq_true rfl, Nat.le_of_ble_eq_true rfl, Nat.le_add_right _ _, Nat.le_add_right _ _⟩ dX10_shelves_14 (fun r6 c5 h => ?_)
      exact gq_iret (pc := 17) (F := wM G o) rfl dX10_shelves_17 h
def wX10_shelve_p20 (c : gMem) (Q : Int32 → gMem → Prop) : Prop :=
  Q ((-101)) c
set_option maxRecDepth 100000 in
set_option maxHeartbeats 4000000 in
theorem tX10_shelve_p20 {l : Launch} {G : gG} {k : Nat} {o : gMem} {Q : Int32 → gMem → Prop} {c : gMem} (h : wX10_shelve_p20 c Q) : Go l G mX10_shelve (gbq G 3 67 84 k (qi (wM G o) Q)) 20 [] [] 84 k (wM G o c) := by
  unfold wX10_shelve_p20 at h
  refine go_bipush (pc := 20) (v := (-101)) dX10_shelve_20 (by decide) ?_
  refine go_goto (pc := 22) (tgt := 36) dX10_shelve_22 (by decide) ?_
  exact gq_iret (pc := 36) (F := wM G o) rfl dX10_shelve_36 h
def wX10_shelve (l1 : Int32) (l2 : Int32) (l3 : Int32) (c : gMem) (Q : Int32 → gMem → Prop) : Prop :=
  wX10_in l1.toInt64 0 3 c (fun r2 c1 =>
  ((r2 = 0 →
    wX10_shelve_p20 c1 Q) ∧
   (¬ r2 = 0 →
    wX10_mayBe l3 c1 (fun r5 c4 =>
    ((r5 = 0 →
      wX10_shelve_p20 c4 Q) ∧
     (¬ r5 = 0 →
      wX10_shelves l1 l2 l3 c4 (fun r8 c7 =>
      wX10_answers r8 c7 (fun r10 c9 =>
      Q r10 c9))))))))
set_option maxRecDepth 100000 in
set_option maxHeartbeats 4000000 in
theorem tX10_shelve {l : Launch} {G : gG} {k : Nat} {o : gMem} {Q : Int32 → gMem → Prop} {l1 : Int32} {l2 : Int32} {l3 : Int32} {c : gMem} (h : wX10_shelve l1 l2 l3 c Q) : Cq l G mX10_shelve 3 67 [.ref (G.2.1 + 74), .int l1, .int l2, .int l3] 84 k (wM G o c) (qi (wM G o) Q) := by
  refine Cq.of (by decide) (Nat.le_of_ble_eq_true rfl) ?_
  show Go l G mX10_shelve (gbq G 3 67 84 k (qi (wM G o) Q)) 0 [(0, .ref (G.2.1 + 74)), (1, .int l1), (2, .int l2), (3, .int l3)] [] 84 k (wM G o c)
  unfold wX10_shelve at h
  refine go_iload_n (pc := 0) dX10_shelve_0 rfl rfl ?_
  refine go_i2l (pc := 1) dX10_shelve_1 ?_
  refine go_lconst (pc := 2) (v := 0) dX10_shelve_2 (by decide) ?_
  refine go_ldc2 (pc := 3) rfl qX10_219 dX10_shelve_3 ?_
  refine gq_callS_i (pc := 6) (F := wM G o) sX10_63 rfl (tX10_in h) rfl rfl (Nat.le_of_ble_eq_true rfl) ⟨Nat.le_of_ble_eq_true rfl, Nat.le_of_ble_eq_true rfl, Nat.le_add_right _ _, Nat.le_add_right _ _⟩ dX10_shelve_6 (fun r2 c1 h => ?_)
  refine go_if_eq (pc := 9) (tgt := 20) dX10_shelve_9 (by decide) (fun q3 => ?_) (fun q3 => ?_)
  · have h := h.1 q3
    refine go_lv [] rfl ?_
    exact tX10_shelve_p20 h
  · have h := h.2 q3
    refine go_aload_n (pc := 12) dX10_shelve_12 rfl rfl ?_
    refine go_iload_n (pc := 13) dX10_shelve_13 rfl rfl ?_
    refine gq_callV_i (pc := 14) (F := wM G o) vX10_164 rfl (tX10_mayBe h) rfl rfl (gz_b (by decide)) yw0 rfl (Nat.le_of_ble_eq_true rfl) ⟨Nat.le_of_ble_eq_true rfl, Nat.le_of_ble_eq_true rfl, Nat.le_add_right _ _, Nat.le_add_right _ _⟩ dX10_shelve_14 (fun r5 c4 h => ?_)
    refine go_if_ne (pc := 17) (tgt := 25) dX10_shelve_17 (by decide) (fun q6 => ?_) (fun q6 => ?_)
    · have h := h.2 q6
      refine go_aload_n (pc := 25) dX10_shelve_25 rfl rfl ?_
      refine go_aload_n (pc := 26) dX10_shelve_26 rfl rfl ?_
      refine go_iload_n (pc := 27) dX10_shelve_27 rfl rfl ?_
      refine go_iload_n (pc := 28) dX10_shelve_28 rfl rfl ?_
      refine go_iload_n (pc := 29) dX10_shelve_29 rfl rfl ?_
      refine gq_callV_i (pc := 30) (F := wM G o) vX10_221 rfl (tX10_shelves h) rfl rfl (gz_b (by decide)) yw0 rfl (Nat.le_of_ble_eq_true rfl) ⟨Nat.le_of_ble_eq_true rfl, Nat.le_of_ble_eq_true rfl, Nat.le_add_right _ _, Nat.le_add_right _ _⟩ dX10_shelve_30 (fun r8 c7 h => ?_)
      refine gq_callV_i (pc := 33) (F := wM G o) vX10_155 rfl (tX10_answers h) rfl rfl (gz_b (by decide)) yw0 rfl (Nat.le_of_ble_eq_true rfl) ⟨Nat.le_of_ble_eq_true rfl, Nat.le_of_ble_eq_true rfl, Nat.le_add_right _ _, Nat.le_add_right _ _⟩ dX10_shelve_33 (fun r10 c9 h => ?_)
      exact gq_iret (pc := 36) (F := wM G o) rfl dX10_shelve_36 h
    · have h := h.1 q6
      refine go_lv [] rfl ?_
      exact tX10_shelve_p20 h
def wX10_shelf_p61 (s0 : Int32) (c : gMem) (Q : Int32 → gMem → Prop) : Prop :=
  wX10_by s0 c (fun r2 c1 =>
  Q r2 c1)
set_option maxRecDepth 100000 in
set_option maxHeartbeats 4000000 in
theorem tX10_shelf_p61 {l : Launch} {G : gG} {k : Nat} {o : gMem} {Q : Int32 → gMem → Prop} {s0 : Int32} {c : gMem} (h : wX10_shelf_p61 s0 c Q) : Go l G mX10_shelf (gbq G 2 41 84 k (qi (wM G o) Q)) 61 [] [.int s0, .ref (G.2.1 + 74)] 84 k (wM G o c) := by
  unfold wX10_shelf_p61 at h
  refine gq_callV_i (pc := 61) (F := wM G o) vX10_177 rfl (tX10_by h) rfl rfl (gz_b (by decide)) yw0 rfl (Nat.le_of_ble_eq_true rfl) ⟨Nat.le_of_ble_eq_true rfl, Nat.le_of_ble_eq_true rfl, Nat.le_add_right _ _, Nat.le_add_right _ _⟩ dX10_shelf_61 (fun r2 c1 h => ?_)
  exact gq_iret (pc := 64) (F := wM G o) rfl dX10_shelf_64 h
def wX10_shelf_p48 (l3 : Int32) (s0 : Int32) (c : gMem) (Q : Int32 → gMem → Prop) : Prop :=
  ∀ c1, c1 = mp c 0 12 s0 →
  ((l3 = 0 →
    wX10_shelf_p61 2 c1 Q) ∧
   (¬ l3 = 0 →
    wX10_shelf_p61 0 c1 Q))
set_option maxRecDepth 100000 in
set_option maxHeartbeats 4000000 in
theorem tX10_shelf_p48 {l : Launch} {G : gG} {k : Nat} {o : gMem} {Q : Int32 → gMem → Prop} {l3 : Int32} {s0 : Int32} {c : gMem} (h : wX10_shelf_p48 l3 s0 c Q) : Go l G mX10_shelf (gbq G 2 41 84 k (qi (wM G o) Q)) 48 [(0, .ref (G.2.1 + 74)), (3, .int l3)] [.int s0, .ref (G.2.1 + 74)] 84 k (wM G o c) := by
  unfold wX10_shelf_p48 at h
  refine gb_put (pc := 48) (F := wM G o) fX10_171 rfl (gz_b (by decide)) yw0 (Nat.le_of_ble_eq_true rfl) rfl rfl yp0_12 dX10_shelf_48 (fun c1 ec1 => ?_)
  have h := h c1 ec1
  refine go_aload_n (pc := 51) dX10_shelf_51 rfl rfl ?_
  refine go_iload_n (pc := 52) dX10_shelf_52 rfl rfl ?_
  refine go_if_eq (pc := 53) (tgt := 60) dX10_shelf_53 (by decide) (fun q2 => ?_) (fun q2 => ?_)
  · have h := h.1 q2
    refine go_iconst (pc := 60) (v := 2) dX10_shelf_60 (by decide) ?_
    refine go_lv [] rfl ?_
    exact tX10_shelf_p61 h
  · have h := h.2 q2
    refine go_iconst (pc := 56) (v := 0) dX10_shelf_56 (by decide) ?_
    refine go_goto (pc := 57) (tgt := 61) dX10_shelf_57 (by decide) ?_
    refine go_lv [] rfl ?_
    exact tX10_shelf_p61 h
def wX10_shelf (l1 : Int32) (l2 : Int32) (c : gMem) (Q : Int32 → gMem → Prop) : Prop :=
  wX10_in l1.toInt64 0 3 c (fun r2 c1 =>
  ((r2 = 0 →
    Q ((-101)) c1) ∧
   (¬ r2 = 0 →
    wX10_in l2.toInt64 0 7 c1 (fun r5 c4 =>
    ((r5 = 0 →
      wX10_shelf_p48 r5 ((-1)) c4 Q) ∧
     (¬ r5 = 0 →
      vp_in ((44 + (8 * l1)) + l2) 26100 ∧
      ∀ v7, v7 = c4 1 ((44 + (8 * l1)) + l2).toNatClampNeg →
      wX10_shelf_p48 r5 v7 c4 Q))))))
set_option maxRecDepth 100000 in
set_option maxHeartbeats 4000000 in
theorem tX10_shelf {l : Launch} {G : gG} {k : Nat} {o : gMem} {Q : Int32 → gMem → Prop} {l1 : Int32} {l2 : Int32} {c : gMem} (h : wX10_shelf l1 l2 c Q) : Cq l G mX10_shelf 2 41 [.ref (G.2.1 + 74), .int l1, .int l2] 84 k (wM G o c) (qi (wM G o) Q) := by
  refine Cq.of (by decide) (Nat.le_of_ble_eq_true rfl) ?_
  show Go l G mX10_shelf (gbq G 2 41 84 k (qi (wM G o) Q)) 0 [(0, .ref (G.2.1 + 74)), (1, .int l1), (2, .int l2)] [] 84 k (wM G o c)
  unfold wX10_shelf at h
  refine go_iload_n (pc := 0) dX10_shelf_0 rfl rfl ?_
  refine go_i2l (pc := 1) dX10_shelf_1 ?_
  refine go_lconst (pc := 2) (v := 0) dX10_shelf_2 (by decide) ?_
  refine go_ldc2 (pc := 3) rfl qX10_219 dX10_shelf_3 ?_
  refine gq_callS_i (pc := 6) (F := wM G o) sX10_63 rfl (tX10_in h) rfl rfl (Nat.le_of_ble_eq_true rfl) ⟨Nat.le_of_ble_eq_true rfl, Nat.le_of_ble_eq_true rfl, Nat.le_add_right _ _, Nat.le_add_right _ _⟩ dX10_shelf_6 (fun r2 c1 h => ?_)
  refine go_if_ne (pc := 9) (tgt := 15) dX10_shelf_9 (by decide) (fun q3 => ?_) (fun q3 => ?_)
  · have h := h.2 q3
    refine go_iload_n (pc := 15) dX10_shelf_15 rfl rfl ?_
    refine go_i2l (pc := 16) dX10_shelf_16 ?_
    refine go_lconst (pc := 17) (v := 0) dX10_shelf_17 (by decide) ?_
    refine go_ldc2 (pc := 18) rfl qX10_213 dX10_shelf_18 ?_
    refine gq_callS_i (pc := 21) (F := wM G o) sX10_63 rfl (tX10_in h) rfl rfl (Nat.le_of_ble_eq_true rfl) ⟨Nat.le_of_ble_eq_true rfl, Nat.le_of_ble_eq_true rfl, Nat.le_add_right _ _, Nat.le_add_right _ _⟩ dX10_shelf_21 (fun r5 c4 h => ?_)
    refine go_istore_n (pc := 24) (lv' := [(3, .int r5), (0, .ref (G.2.1 + 74)), (1, .int l1), (2, .int l2)]) dX10_shelf_24 rfl (by decide) rfl ?_
    refine go_aload_n (pc := 25) dX10_shelf_25 rfl rfl ?_
    refine go_iload_n (pc := 26) dX10_shelf_26 rfl rfl ?_
    refine go_if_eq (pc := 27) (tgt := 47) dX10_shelf_27 (by decide) (fun q6 => ?_) (fun q6 => ?_)
    · have h := h.1 q6
      refine go_iconst (pc := 47) (v := (-1)) dX10_shelf_47 (by decide) ?_
      refine go_lv [1, 0] rfl ?_
      exact tX10_shelf_p48 h
    · have h := h.2 q6
      refine go_aload_n (pc := 30) dX10_shelf_30 rfl rfl ?_
      refine go_get (pc := 31) fX10_9 rfl (gz_b (by decide)) yw0 rfl dX10_shelf_31 ?_
      refine go_bipush (pc := 34) (v := 44) dX10_shelf_34 (by decide) ?_
      refine go_bipush (pc := 36) (v := 8) dX10_shelf_36 (by decide) ?_
      refine go_iload_n (pc := 38) dX10_shelf_38 rfl rfl ?_
      refine go_imul (pc := 39) dX10_shelf_39 ?_
      refine go_iadd (pc := 40) dX10_shelf_40 ?_
      refine go_iload_n (pc := 41) dX10_shelf_41 rfl rfl ?_
      refine go_iadd (pc := 42) dX10_shelf_42 ?_
      obtain ⟨b8, h⟩ := h
      refine gb_iald (pc := 43) (gz_b (by decide)) yw1 b8 dX10_shelf_43 (fun v7 ev7 => ?_)
      have h := h v7 ev7
      refine go_goto (pc := 44) (tgt := 48) dX10_shelf_44 (by decide) ?_
      refine go_lv [1, 0] rfl ?_
      exact tX10_shelf_p48 h
  · have h := h.1 q3
    refine go_bipush (pc := 12) (v := (-101)) dX10_shelf_12 (by decide) ?_
    exact gq_iret (pc := 14) (F := wM G o) rfl dX10_shelf_14 h
def wX10_moves_p3_b (P3 : Int32 → Int32 → gMem → Prop) (l3 : Int32) (l4 : Int32) (c : gMem) (Q : gMem → Prop) : Prop :=
  ((l3 ≤ l4 →
    Q c) ∧
   (¬ l3 ≤ l4 →
    vp_in l4 26100 ∧
    ∀ v2, v2 = c 1 l4.toNatClampNeg →
    vp_in l4 26100 ∧
    ∀ c4, c4 = mp c 3 l4.toNatClampNeg v2 →
    P3 l3 (l4 + 1) c4))
def wX10_moves_p3 (l3 : Int32) (l4 : Int32) (c : gMem) (Q : gMem → Prop) : Prop :=
  ∀ P3 : Int32 → Int32 → gMem → Prop, (∀ (l3 : Int32) (l4 : Int32) (c : gMem), wX10_moves_p3_b P3 l3 l4 c Q → P3 l3 l4 c) → P3 l3 l4 c
set_option maxRecDepth 100000 in
set_option maxHeartbeats 4000000 in
theorem tX10_moves_p3_b {l : Launch} {G : gG} {k : Nat} {o : gMem} {Q : gMem → Prop} {P3 : Int32 → Int32 → gMem → Prop} (hP3 : ∀ (l3 : Int32) (l4 : Int32) (c : gMem), P3 l3 l4 c → Go l G mX10_moves (gbq G 0 0 84 k (qv (wM G o) Q)) 3 [(0, .ref (G.2.1 + 75)), (1, .ref (G.2.1 + 77)), (3, .int l3), (4, .int l4)] [] 84 k (wM G o c)) {l3 : Int32} {l4 : Int32} {c : gMem} (h : wX10_moves_p3_b P3 l3 l4 c Q) : Go l G mX10_moves (gbq G 0 0 84 k (qv (wM G o) Q)) 3 [(0, .ref (G.2.1 + 75)), (1, .ref (G.2.1 + 77)), (3, .int l3), (4, .int l4)] [] 84 k (wM G o c) := by
  unfold wX10_moves_p3_b at h
  refine go_iload (pc := 3) dX10_moves_3 rfl ?_
  refine go_iload_n (pc := 5) dX10_moves_5 rfl rfl ?_
  refine go_icmp_ge (pc := 6) (tgt := 23) dX10_moves_6 (by decide) (fun q1 => ?_) (fun q1 => ?_)
  · have h := h.1 q1
    exact gq_vret (pc := 23) (F := wM G o) rfl dX10_moves_23 h
  · have h := h.2 q1
    refine go_aload_n (pc := 9) dX10_moves_9 rfl rfl ?_
    refine go_iload (pc := 10) dX10_moves_10 rfl ?_
    refine go_aload_n (pc := 12) dX10_moves_12 rfl rfl ?_
    refine go_iload (pc := 13) dX10_moves_13 rfl ?_
    obtain ⟨b3, h⟩ := h
    refine gb_iald (pc := 15) (gz_b (by decide)) yw1 b3 dX10_moves_15 (fun v2 ev2 => ?_)
    have h := h v2 ev2
    obtain ⟨b5, h⟩ := h
    refine gb_iast (pc := 16) (F := wM G o) (gz_b (by decide)) yw3 b5 ya3 dX10_moves_16 (fun c4 ec4 => ?_)
    have h := h c4 ec4
    refine go_iinc (pc := 17) (v := l4 + 1) (lv' := [(4, .int (l4 + 1)), (0, .ref (G.2.1 + 75)), (1, .ref (G.2.1 + 77)), (3, .int l3)]) dX10_moves_17 3 rfl (by first | rfl | decide) (by decide) rfl ?_
    refine go_goto (pc := 20) (tgt := 3) dX10_moves_20 (by decide) ?_
    refine go_lv [1, 2, 3, 0] rfl ?_
    exact hP3 _ _ _ h
set_option maxRecDepth 100000 in
set_option maxHeartbeats 4000000 in
theorem tX10_moves_p3 {l : Launch} {G : gG} {k : Nat} {o : gMem} {Q : gMem → Prop} {l3 : Int32} {l4 : Int32} {c : gMem} (h : wX10_moves_p3 l3 l4 c Q) : Go l G mX10_moves (gbq G 0 0 84 k (qv (wM G o) Q)) 3 [(0, .ref (G.2.1 + 75)), (1, .ref (G.2.1 + 77)), (3, .int l3), (4, .int l4)] [] 84 k (wM G o c) :=
  h (fun l3 l4 c => Go l G mX10_moves (gbq G 0 0 84 k (qv (wM G o) Q)) 3 [(0, .ref (G.2.1 + 75)), (1, .ref (G.2.1 + 77)), (3, .int l3), (4, .int l4)] [] 84 k (wM G o c)) (fun l3 l4 c hb => tX10_moves_p3_b (fun l3 l4 c hh => hh) hb)
def wX10_moves (l2 : Int32) (l3 : Int32) (c : gMem) (Q : gMem → Prop) : Prop :=
  wX10_moves_p3 l3 l2 c Q
set_option maxRecDepth 100000 in
set_option maxHeartbeats 4000000 in
theorem tX10_moves {l : Launch} {G : gG} {k : Nat} {o : gMem} {Q : gMem → Prop} {l2 : Int32} {l3 : Int32} {c : gMem} (h : wX10_moves l2 l3 c Q) : Cq l G mX10_moves 0 0 [.ref (G.2.1 + 75), .ref (G.2.1 + 77), .int l2, .int l3] 84 k (wM G o c) (qv (wM G o) Q) := by
  refine Cq.of (by decide) (Nat.le_of_ble_eq_true rfl) ?_
  show Go l G mX10_moves (gbq G 0 0 84 k (qv (wM G o) Q)) 0 [(0, .ref (G.2.1 + 75)), (1, .ref (G.2.1 + 77)), (2, .int l2), (3, .int l3)] [] 84 k (wM G o c)
  unfold wX10_moves at h
  refine go_iload_n (pc := 0) dX10_moves_0 rfl rfl ?_
  refine go_istore (pc := 1) (lv' := [(4, .int l2), (0, .ref (G.2.1 + 75)), (1, .ref (G.2.1 + 77)), (2, .int l2), (3, .int l3)]) dX10_moves_1 (by decide) rfl ?_
  refine go_lv [1, 2, 4, 0] rfl ?_
  exact tX10_moves_p3 h
def wX10_keep (c : gMem) (Q : gMem → Prop) : Prop :=
  ∀ v1, v1 = c 1 1 →
  wX10_moves 0 (1100 + (10 * v1)) c (fun c2 =>
  ∀ v3, v3 = c2 1 0 →
  wX10_moves 6100 (6100 + v3) c2 (fun c4 =>
  ∀ v5, v5 = c4 1 15 →
  wX10_moves 10100 (10100 + v5) c4 (fun c6 =>
  ∀ v7, v7 = c6 1 15 →
  wX10_moves 18100 (18100 + v7) c6 (fun c8 =>
  Q c8))))
set_option maxRecDepth 100000 in
set_option maxHeartbeats 4000000 in
theorem tX10_keep {l : Launch} {G : gG} {k : Nat} {o : gMem} {Q : gMem → Prop} {c : gMem} (h : wX10_keep c Q) : Cq l G mX10_keep 1 24 [.ref (G.2.1 + 75), .ref (G.2.1 + 77)] 84 k (wM G o c) (qv (wM G o) Q) := by
  refine Cq.of (by decide) (Nat.le_of_ble_eq_true rfl) ?_
  show Go l G mX10_keep (gbq G 1 24 84 k (qv (wM G o) Q)) 0 [(0, .ref (G.2.1 + 75)), (1, .ref (G.2.1 + 77))] [] 84 k (wM G o c)
  unfold wX10_keep at h
  refine go_aload_n (pc := 0) dX10_keep_0 rfl rfl ?_
  refine go_aload_n (pc := 1) dX10_keep_1 rfl rfl ?_
  refine go_iconst (pc := 2) (v := 0) dX10_keep_2 (by decide) ?_
  refine go_sipush (pc := 3) (v := 1100) dX10_keep_3 (by decide) ?_
  refine go_bipush (pc := 6) (v := 10) dX10_keep_6 (by decide) ?_
  refine go_aload_n (pc := 8) dX10_keep_8 rfl rfl ?_
  refine go_iconst (pc := 9) (v := 1) dX10_keep_9 (by decide) ?_
  refine gb_iald (pc := 10) (gz_b (by decide)) yw1 (gv_in (by decide)) dX10_keep_10 (fun v1 ev1 => ?_)
  have h := h v1 ev1
  refine go_imul (pc := 11) dX10_keep_11 ?_
  refine go_iadd (pc := 12) dX10_keep_12 ?_
  refine gq_callS_v (pc := 13) (F := wM G o) sX10_295 rfl (tX10_moves h) rfl rfl (Nat.le_of_ble_eq_true rfl) ⟨Nat.le_of_ble_eq_true rfl, Nat.le_of_ble_eq_true rfl, Nat.le_add_right _ _, Nat.le_add_right _ _⟩ dX10_keep_13 (fun c2 h => ?_)
  refine go_aload_n (pc := 16) dX10_keep_16 rfl rfl ?_
  refine go_aload_n (pc := 17) dX10_keep_17 rfl rfl ?_
  refine go_sipush (pc := 18) (v := 6100) dX10_keep_18 (by decide) ?_
  refine go_sipush (pc := 21) (v := 6100) dX10_keep_21 (by decide) ?_
  refine go_aload_n (pc := 24) dX10_keep_24 rfl rfl ?_
  refine go_iconst (pc := 25) (v := 0) dX10_keep_25 (by decide) ?_
  refine gb_iald (pc := 26) (gz_b (by decide)) yw1 (gv_in (by decide)) dX10_keep_26 (fun v3 ev3 => ?_)
  have h := h v3 ev3
  refine go_iadd (pc := 27) dX10_keep_27 ?_
  refine gq_callS_v (pc := 28) (F := wM G o) sX10_295 rfl (tX10_moves h) rfl rfl (Nat.le_of_ble_eq_true rfl) ⟨Nat.le_of_ble_eq_true rfl, Nat.le_of_ble_eq_true rfl, Nat.le_add_right _ _, Nat.le_add_right _ _⟩ dX10_keep_28 (fun c4 h => ?_)
  refine go_aload_n (pc := 31) dX10_keep_31 rfl rfl ?_
  refine go_aload_n (pc := 32) dX10_keep_32 rfl rfl ?_
  refine go_sipush (pc := 33) (v := 10100) dX10_keep_33 (by decide) ?_
  refine go_sipush (pc := 36) (v := 10100) dX10_keep_36 (by decide) ?_
  refine go_aload_n (pc := 39) dX10_keep_39 rfl rfl ?_
  refine go_bipush (pc := 40) (v := 15) dX10_keep_40 (by decide) ?_
  refine gb_iald (pc := 42) (gz_b (by decide)) yw1 (gv_in (by decide)) dX10_keep_42 (fun v5 ev5 => ?_)
  have h := h v5 ev5
  refine go_iadd (pc := 43) dX10_keep_43 ?_
  refine gq_callS_v (pc := 44) (F := wM G o) sX10_295 rfl (tX10_moves h) rfl rfl (Nat.le_of_ble_eq_true rfl) ⟨Nat.le_of_ble_eq_true rfl, Nat.le_of_ble_eq_true rfl, Nat.le_add_right _ _, Nat.le_add_right _ _⟩ dX10_keep_44 (fun c6 h => ?_)
  refine go_aload_n (pc := 47) dX10_keep_47 rfl rfl ?_
  refine go_aload_n (pc := 48) dX10_keep_48 rfl rfl ?_
  refine go_sipush (pc := 49) (v := 18100) dX10_keep_49 (by decide) ?_
  refine go_sipush (pc := 52) (v := 18100) dX10_keep_52 (by decide) ?_
  refine go_aload_n (pc := 55) dX10_keep_55 rfl rfl ?_
  refine go_bipush (pc := 56) (v := 15) dX10_keep_56 (by decide) ?_
  refine gb_iald (pc := 58) (gz_b (by decide)) yw1 (gv_in (by decide)) dX10_keep_58 (fun v7 ev7 => ?_)
  have h := h v7 ev7
  refine go_iadd (pc := 59) dX10_keep_59 ?_
  refine gq_callS_v (pc := 60) (F := wM G o) sX10_295 rfl (tX10_moves h) rfl rfl (Nat.le_of_ble_eq_true rfl) ⟨Nat.le_of_ble_eq_true rfl, Nat.le_of_ble_eq_true rfl, Nat.le_add_right _ _, Nat.le_add_right _ _⟩ dX10_keep_60 (fun c8 h => ?_)
  exact gq_vret (pc := 63) (F := wM G o) rfl dX10_keep_63 h
def wX10_keepUndo (c : gMem) (Q : gMem → Prop) : Prop :=
  wX10_keep c (fun c1 =>
  ∀ c2, c2 = mp c1 0 4 1 →
  Q c2)
set_option maxRecDepth 100000 in
set_option maxHeartbeats 4000000 in
theorem tX10_keepUndo {l : Launch} {G : gG} {k : Nat} {o : gMem} {Q : gMem → Prop} {c : gMem} (h : wX10_keepUndo c Q) : Cq l G mX10_keepUndo 2 45 [.ref (G.2.1 + 74)] 84 k (wM G o c) (qv (wM G o) Q) := by
  refine Cq.of (by decide) (Nat.le_of_ble_eq_true rfl) ?_
  show Go l G mX10_keepUndo (gbq G 2 45 84 k (qv (wM G o) Q)) 0 [(0, .ref (G.2.1 + 74))] [] 84 k (wM G o c)
  unfold wX10_keepUndo at h
  refine go_aload_n (pc := 0) dX10_keepUndo_0 rfl rfl ?_
  refine go_get (pc := 1) fX10_9 rfl (gz_b (by decide)) yw0 rfl dX10_keepUndo_1 ?_
  refine go_aload_n (pc := 4) dX10_keepUndo_4 rfl rfl ?_
  refine go_get (pc := 5) fX10_16 rfl (gz_b (by decide)) yw0 rfl dX10_keepUndo_5 ?_
  refine gq_callS_v (pc := 8) (F := wM G o) sX10_299 rfl (tX10_keep h) rfl rfl (Nat.le_of_ble_eq_true rfl) ⟨Nat.le_of_ble_eq_true rfl, Nat.le_of_ble_eq_true rfl, Nat.le_add_right _ _, Nat.le_add_right _ _⟩ dX10_keepUndo_8 (fun c1 h => ?_)
  refine go_aload_n (pc := 11) dX10_keepUndo_11 rfl rfl ?_
  refine go_iconst (pc := 12) (v := 1) dX10_keepUndo_12 (by decide) ?_
  refine gb_put (pc := 13) (F := wM G o) fX10_46 rfl (gz_b (by decide)) yw0 (Nat.le_of_ble_eq_true rfl) rfl rfl yp0_4 dX10_keepUndo_13 (fun c2 ec2 => ?_)
  have h := h c2 ec2
  exact gq_vret (pc := 16) (F := wM G o) rfl dX10_keepUndo_16 h
def wX10_stepped_p13 (l1 : Int32) (c : gMem) (Q : Int32 → gMem → Prop) : Prop :=
  wX10_lookThrough l1 c (fun r2 c1 =>
  wX10_isLeft c1 (fun r4 c3 =>
  ((r4 = 0 →
    wX10_end c3 (fun c6 =>
    Q r2 c6)) ∧
   (¬ r4 = 0 →
    Q r2 c3))))
set_option maxRecDepth 100000 in
set_option maxHeartbeats 4000000 in
theorem tX10_stepped_p13 {l : Launch} {G : gG} {k : Nat} {o : gMem} {Q : Int32 → gMem → Prop} {l1 : Int32} {c : gMem} (h : wX10_stepped_p13 l1 c Q) : Go l G mX10_stepped (gbq G 5 115 84 k (qi (wM G o) Q)) 13 [(0, .ref (G.2.1 + 74)), (1, .int l1)] [] 84 k (wM G o c) := by
  unfold wX10_stepped_p13 at h
  refine go_aload_n (pc := 13) dX10_stepped_13 rfl rfl ?_
  refine go_iload_n (pc := 14) dX10_stepped_14 rfl rfl ?_
  refine gq_callV_i (pc := 15) (F := wM G o) vX10_104 rfl (tX10_lookThrough h) rfl rfl (gz_b (by decide)) yw0 rfl (Nat.le_of_ble_eq_true rfl) ⟨Nat.le_of_ble_eq_true rfl, Nat.le_of_ble_eq_true rfl, Nat.le_add_right _ _, Nat.le_add_right _ _⟩ dX10_stepped_15 (fun r2 c1 h => ?_)
  refine go_istore_n (pc := 18) (lv' := [(2, .int r2), (0, .ref (G.2.1 + 74)), (1, .int l1)]) dX10_stepped_18 rfl (by decide) rfl ?_
  refine go_aload_n (pc := 19) dX10_stepped_19 rfl rfl ?_
  refine gq_callV_i (pc := 20) (F := wM G o) vX10_94 rfl (tX10_isLeft h) rfl rfl (gz_b (by decide)) yw0 rfl (Nat.le_of_ble_eq_true rfl) ⟨Nat.le_of_ble_eq_true rfl, Nat.le_of_ble_eq_true rfl, Nat.le_add_right _ _, Nat.le_add_right _ _⟩ dX10_stepped_20 (fun r4 c3 h => ?_)
  refine go_if_ne (pc := 23) (tgt := 30) dX10_stepped_23 (by decide) (fun q5 => ?_) (fun q5 => ?_)
  · have h := h.2 q5
    refine go_iload_n (pc := 30) dX10_stepped_30 rfl rfl ?_
    exact gq_iret (pc := 31) (F := wM G o) rfl dX10_stepped_31 h
  · have h := h.1 q5
    refine go_aload_n (pc := 26) dX10_stepped_26 rfl rfl ?_
    refine gq_callV_v (pc := 27) (F := wM G o) vX10_107 rfl (tX10_end h) rfl rfl (gz_b (by decide)) yw0 rfl (Nat.le_of_ble_eq_true rfl) ⟨Nat.le_of_ble_eq_true rfl, Nat.le_of_ble_eq_true rfl, Nat.le_add_right _ _, Nat.le_add_right _ _⟩ dX10_stepped_27 (fun c6 h => ?_)
    refine go_iload_n (pc := 30) dX10_stepped_30 rfl rfl ?_
    exact gq_iret (pc := 31) (F := wM G o) rfl dX10_stepped_31 h
def wX10_stepped (l1 : Int32) (c : gMem) (Q : Int32 → gMem → Prop) : Prop :=
  ∀ v1, v1 = c 1 3 →
  ((v1 = 0 →
    wX10_begin c (fun c3 =>
    wX10_stepped_p13 l1 c3 Q)) ∧
   (¬ v1 = 0 →
    wX10_stepped_p13 l1 c Q))
set_option maxRecDepth 100000 in
set_option maxHeartbeats 4000000 in
theorem tX10_stepped {l : Launch} {G : gG} {k : Nat} {o : gMem} {Q : Int32 → gMem → Prop} {l1 : Int32} {c : gMem} (h : wX10_stepped l1 c Q) : Cq l G mX10_stepped 5 115 [.ref (G.2.1 + 74), .int l1] 84 k (wM G o c) (qi (wM G o) Q) := by
  refine Cq.of (by decide) (Nat.le_of_ble_eq_true rfl) ?_
  show Go l G mX10_stepped (gbq G 5 115 84 k (qi (wM G o) Q)) 0 [(0, .ref (G.2.1 + 74)), (1, .int l1)] [] 84 k (wM G o c)
  unfold wX10_stepped at h
  refine go_aload_n (pc := 0) dX10_stepped_0 rfl rfl ?_
  refine go_get (pc := 1) fX10_9 rfl (gz_b (by decide)) yw0 rfl dX10_stepped_1 ?_
  refine go_iconst (pc := 4) (v := 3) dX10_stepped_4 (by decide) ?_
  refine gb_iald (pc := 5) (gz_b (by decide)) yw1 (gv_in (by decide)) dX10_stepped_5 (fun v1 ev1 => ?_)
  have h := h v1 ev1
  refine go_if_ne (pc := 6) (tgt := 13) dX10_stepped_6 (by decide) (fun q2 => ?_) (fun q2 => ?_)
  · have h := h.2 q2
    refine go_lv [0, 1] rfl ?_
    exact tX10_stepped_p13 h
  · have h := h.1 q2
    refine go_aload_n (pc := 9) dX10_stepped_9 rfl rfl ?_
    refine gq_callV_v (pc := 10) (F := wM G o) vX10_101 rfl (tX10_begin h) rfl rfl (gz_b (by decide)) yw0 rfl (Nat.le_of_ble_eq_true rfl) ⟨Nat.le_of_ble_eq_true rfl, Nat.le_of_ble_eq_true rfl, Nat.le_add_right _ _, Nat.le_add_right _ _⟩ dX10_stepped_10 (fun c3 h => ?_)
    refine go_lv [0, 1] rfl ?_
    exact tX10_stepped_p13 h
def wX10_step (l1 : Int32) (c : gMem) (Q : Int32 → gMem → Prop) : Prop :=
  wX10_in l1.toInt64 0 1000 c (fun r2 c1 =>
  ((r2 = 0 →
    Q ((-102)) c1) ∧
   (¬ r2 = 0 →
    wX10_keepUndo c1 (fun c4 =>
    wX10_stepped l1 c4 (fun r6 c5 =>
    Q r6 c5)))))
set_option maxRecDepth 100000 in
set_option maxHeartbeats 4000000 in
theorem tX10_step {l : Launch} {G : gG} {k : Nat} {o : gMem} {Q : Int32 → gMem → Prop} {l1 : Int32} {c : gMem} (h : wX10_step l1 c Q) : Cq l G mX10_step 6 137 [.ref (G.2.1 + 74), .int l1] 84 k (wM G o c) (qi (wM G o) Q) := by
  refine Cq.of (by decide) (Nat.le_of_ble_eq_true rfl) ?_
  show Go l G mX10_step (gbq G 6 137 84 k (qi (wM G o) Q)) 0 [(0, .ref (G.2.1 + 74)), (1, .int l1)] [] 84 k (wM G o c)
  unfold wX10_step at h
  refine go_iload_n (pc := 0) dX10_step_0 rfl rfl ?_
  refine go_i2l (pc := 1) dX10_step_1 ?_
  refine go_lconst (pc := 2) (v := 0) dX10_step_2 (by decide) ?_
  refine go_ldc2 (pc := 3) rfl qX10_224 dX10_step_3 ?_
  refine gq_callS_i (pc := 6) (F := wM G o) sX10_63 rfl (tX10_in h) rfl rfl (Nat.le_of_ble_eq_true rfl) ⟨Nat.le_of_ble_eq_true rfl, Nat.le_of_ble_eq_true rfl, Nat.le_add_right _ _, Nat.le_add_right _ _⟩ dX10_step_6 (fun r2 c1 h => ?_)
  refine go_if_ne (pc := 9) (tgt := 15) dX10_step_9 (by decide) (fun q3 => ?_) (fun q3 => ?_)
  · have h := h.2 q3
    refine go_aload_n (pc := 15) dX10_step_15 rfl rfl ?_
    refine gq_callV_v (pc := 16) (F := wM G o) vX10_226 rfl (tX10_keepUndo h) rfl rfl (gz_b (by decide)) yw0 rfl (Nat.le_of_ble_eq_true rfl) ⟨Nat.le_of_ble_eq_true rfl, Nat.le_of_ble_eq_true rfl, Nat.le_add_right _ _, Nat.le_add_right _ _⟩ dX10_step_16 (fun c4 h => ?_)
    refine go_aload_n (pc := 19) dX10_step_19 rfl rfl ?_
    refine go_iload_n (pc := 20) dX10_step_20 rfl rfl ?_
    refine gq_callV_i (pc := 21) (F := wM G o) vX10_229 rfl (tX10_stepped h) rfl rfl (gz_b (by decide)) yw0 rfl (Nat.le_of_ble_eq_true rfl) ⟨Nat.le_of_ble_eq_true rfl, Nat.le_of_ble_eq_true rfl, Nat.le_add_right _ _, Nat.le_add_right _ _⟩ dX10_step_21 (fun r6 c5 h => ?_)
    exact gq_iret (pc := 24) (F := wM G o) rfl dX10_step_24 h
  · have h := h.1 q3
    refine go_bipush (pc := 12) (v := (-102)) dX10_step_12 (by decide) ?_
    exact gq_iret (pc := 14) (F := wM G o) rfl dX10_step_14 h
def wX10_cycle (c : gMem) (Q : Int32 → gMem → Prop) : Prop :=
  wX10_wholeCycle c (fun r2 c1 =>
  Q r2 c1)
set_option maxRecDepth 100000 in
set_option maxHeartbeats 4000000 in
theorem tX10_cycle {l : Launch} {G : gG} {k : Nat} {o : gMem} {Q : Int32 → gMem → Prop} {c : gMem} (h : wX10_cycle c Q) : Cq l G mX10_cycle 6 135 [.ref (G.2.1 + 74)] 84 k (wM G o c) (qi (wM G o) Q) := by
  refine Cq.of (by decide) (Nat.le_of_ble_eq_true rfl) ?_
  show Go l G mX10_cycle (gbq G 6 135 84 k (qi (wM G o) Q)) 0 [(0, .ref (G.2.1 + 74))] [] 84 k (wM G o c)
  unfold wX10_cycle at h
  refine go_aload_n (pc := 0) dX10_cycle_0 rfl rfl ?_
  refine gq_callV_i (pc := 1) (F := wM G o) vX10_147 rfl (tX10_wholeCycle h) rfl rfl (gz_b (by decide)) yw0 rfl (Nat.le_of_ble_eq_true rfl) ⟨Nat.le_of_ble_eq_true rfl, Nat.le_of_ble_eq_true rfl, Nat.le_add_right _ _, Nat.le_add_right _ _⟩ dX10_cycle_1 (fun r2 c1 h => ?_)
  exact gq_iret (pc := 4) (F := wM G o) rfl dX10_cycle_4 h
def wX10_phase (c : gMem) (Q : Int32 → gMem → Prop) : Prop :=
  ∀ v1, v1 = c 1 3 →
  Q v1 c
set_option maxRecDepth 100000 in
set_option maxHeartbeats 4000000 in
theorem tX10_phase {l : Launch} {G : gG} {k : Nat} {o : gMem} {Q : Int32 → gMem → Prop} {c : gMem} (h : wX10_phase c Q) : Cq l G mX10_phase 0 0 [.ref (G.2.1 + 74)] 84 k (wM G o c) (qi (wM G o) Q) := by
  refine Cq.of (by decide) (Nat.le_of_ble_eq_true rfl) ?_
  show Go l G mX10_phase (gbq G 0 0 84 k (qi (wM G o) Q)) 0 [(0, .ref (G.2.1 + 74))] [] 84 k (wM G o c)
  unfold wX10_phase at h
  refine go_aload_n (pc := 0) dX10_phase_0 rfl rfl ?_
  refine go_get (pc := 1) fX10_9 rfl (gz_b (by decide)) yw0 rfl dX10_phase_1 ?_
  refine go_iconst (pc := 4) (v := 3) dX10_phase_4 (by decide) ?_
  refine gb_iald (pc := 5) (gz_b (by decide)) yw1 (gv_in (by decide)) dX10_phase_5 (fun v1 ev1 => ?_)
  have h := h v1 ev1
  exact gq_iret (pc := 6) (F := wM G o) rfl dX10_phase_6 h
def wX10_marked_p35 (s0 : Int32) (c : gMem) (Q : Int32 → gMem → Prop) : Prop :=
  wX10_answers s0 c (fun r2 c1 =>
  Q r2 c1)
set_option maxRecDepth 100000 in
set_option maxHeartbeats 4000000 in
theorem tX10_marked_p35 {l : Launch} {G : gG} {k : Nat} {o : gMem} {Q : Int32 → gMem → Prop} {s0 : Int32} {c : gMem} (h : wX10_marked_p35 s0 c Q) : Go l G mX10_marked (gbq G 2 46 84 k (qi (wM G o) Q)) 35 [] [.int s0, .ref (G.2.1 + 74)] 84 k (wM G o c) := by
  unfold wX10_marked_p35 at h
  refine gq_callV_i (pc := 35) (F := wM G o) vX10_155 rfl (tX10_answers h) rfl rfl (gz_b (by decide)) yw0 rfl (Nat.le_of_ble_eq_true rfl) ⟨Nat.le_of_ble_eq_true rfl, Nat.le_of_ble_eq_true rfl, Nat.le_add_right _ _, Nat.le_add_right _ _⟩ dX10_marked_35 (fun r2 c1 h => ?_)
  exact gq_iret (pc := 38) (F := wM G o) rfl dX10_marked_38 h
def wX10_marked (l1 : Int32) (c : gMem) (Q : Int32 → gMem → Prop) : Prop :=
  wX10_isMade l1 c (fun r2 c1 =>
  ((r2 = 0 →
    Q ((-101)) c1) ∧
   (¬ r2 = 0 →
    wX10_isGone l1 c1 (fun r5 c4 =>
    ((r5 = 0 →
      wX10_of l1 5 c4 (fun r8 c7 =>
      wX10_marked_p35 r8 c7 Q)) ∧
     (¬ r5 = 0 →
      wX10_fails 1 c4 (fun r10 c9 =>
      wX10_marked_p35 r10 c9 Q)))))))
set_option maxRecDepth 100000 in
set_option maxHeartbeats 4000000 in
theorem tX10_marked {l : Launch} {G : gG} {k : Nat} {o : gMem} {Q : Int32 → gMem → Prop} {l1 : Int32} {c : gMem} (h : wX10_marked l1 c Q) : Cq l G mX10_marked 2 46 [.ref (G.2.1 + 74), .int l1] 84 k (wM G o c) (qi (wM G o) Q) := by
  refine Cq.of (by decide) (Nat.le_of_ble_eq_true rfl) ?_
  show Go l G mX10_marked (gbq G 2 46 84 k (qi (wM G o) Q)) 0 [(0, .ref (G.2.1 + 74)), (1, .int l1)] [] 84 k (wM G o c)
  unfold wX10_marked at h
  refine go_aload_n (pc := 0) dX10_marked_0 rfl rfl ?_
  refine go_iload_n (pc := 1) dX10_marked_1 rfl rfl ?_
  refine gq_callV_i (pc := 2) (F := wM G o) vX10_67 rfl (tX10_isMade h) rfl rfl (gz_b (by decide)) yw0 rfl (Nat.le_of_ble_eq_true rfl) ⟨Nat.le_of_ble_eq_true rfl, Nat.le_of_ble_eq_true rfl, Nat.le_add_right _ _, Nat.le_add_right _ _⟩ dX10_marked_2 (fun r2 c1 h => ?_)
  refine go_if_ne (pc := 5) (tgt := 13) dX10_marked_5 (by decide) (fun q3 => ?_) (fun q3 => ?_)
  · have h := h.2 q3
    refine go_aload_n (pc := 13) dX10_marked_13 rfl rfl ?_
    refine go_aload_n (pc := 14) dX10_marked_14 rfl rfl ?_
    refine go_iload_n (pc := 15) dX10_marked_15 rfl rfl ?_
    refine gq_callV_i (pc := 16) (F := wM G o) vX10_158 rfl (tX10_isGone h) rfl rfl (gz_b (by decide)) yw0 rfl (Nat.le_of_ble_eq_true rfl) ⟨Nat.le_of_ble_eq_true rfl, Nat.le_of_ble_eq_true rfl, Nat.le_add_right _ _, Nat.le_add_right _ _⟩ dX10_marked_16 (fun r5 c4 h => ?_)
    refine go_if_eq (pc := 19) (tgt := 29) dX10_marked_19 (by decide) (fun q6 => ?_) (fun q6 => ?_)
    · have h := h.1 q6
      refine go_aload_n (pc := 29) dX10_marked_29 rfl rfl ?_
      refine go_iload_n (pc := 30) dX10_marked_30 rfl rfl ?_
      refine go_iconst (pc := 31) (v := 5) dX10_marked_31 (by decide) ?_
      refine gq_callV_i (pc := 32) (F := wM G o) vX10_71 rfl (tX10_of h) rfl rfl (gz_b (by decide)) yw0 rfl (Nat.le_of_ble_eq_true rfl) ⟨Nat.le_of_ble_eq_true rfl, Nat.le_of_ble_eq_true rfl, Nat.le_add_right _ _, Nat.le_add_right _ _⟩ dX10_marked_32 (fun r8 c7 h => ?_)
      refine go_lv [] rfl ?_
      exact tX10_marked_p35 h
    · have h := h.2 q6
      refine go_iconst (pc := 22) (v := 1) dX10_marked_22 (by decide) ?_
      refine gq_callS_i (pc := 23) (F := wM G o) sX10_141 rfl (tX10_fails h) rfl rfl (Nat.le_of_ble_eq_true rfl) ⟨Nat.le_of_ble_eq_true rfl, Nat.le_of_ble_eq_true rfl, Nat.le_add_right _ _, Nat.le_add_right _ _⟩ dX10_marked_23 (fun r10 c9 h => ?_)
      refine go_goto (pc := 26) (tgt := 35) dX10_marked_26 (by decide) ?_
      refine go_lv [] rfl ?_
      exact tX10_marked_p35 h
  · have h := h.1 q3
    refine go_bipush (pc := 8) (v := (-101)) dX10_marked_8 (by decide) ?_
    refine go_goto (pc := 10) (tgt := 38) dX10_marked_10 (by decide) ?_
    exact gq_iret (pc := 38) (F := wM G o) rfl dX10_marked_38 h
def wX10_moved_p35 (s0 : Int32) (c : gMem) (Q : Int32 → gMem → Prop) : Prop :=
  wX10_answers s0 c (fun r2 c1 =>
  Q r2 c1)
set_option maxRecDepth 100000 in
set_option maxHeartbeats 4000000 in
theorem tX10_moved_p35 {l : Launch} {G : gG} {k : Nat} {o : gMem} {Q : Int32 → gMem → Prop} {s0 : Int32} {c : gMem} (h : wX10_moved_p35 s0 c Q) : Go l G mX10_moved (gbq G 2 46 84 k (qi (wM G o) Q)) 35 [] [.int s0, .ref (G.2.1 + 74)] 84 k (wM G o c) := by
  unfold wX10_moved_p35 at h
  refine gq_callV_i (pc := 35) (F := wM G o) vX10_155 rfl (tX10_answers h) rfl rfl (gz_b (by decide)) yw0 rfl (Nat.le_of_ble_eq_true rfl) ⟨Nat.le_of_ble_eq_true rfl, Nat.le_of_ble_eq_true rfl, Nat.le_add_right _ _, Nat.le_add_right _ _⟩ dX10_moved_35 (fun r2 c1 h => ?_)
  exact gq_iret (pc := 38) (F := wM G o) rfl dX10_moved_38 h
def wX10_moved (l1 : Int32) (c : gMem) (Q : Int32 → gMem → Prop) : Prop :=
  wX10_isMade l1 c (fun r2 c1 =>
  ((r2 = 0 →
    Q ((-101)) c1) ∧
   (¬ r2 = 0 →
    wX10_isGone l1 c1 (fun r5 c4 =>
    ((r5 = 0 →
      wX10_of l1 4 c4 (fun r8 c7 =>
      wX10_moved_p35 r8 c7 Q)) ∧
     (¬ r5 = 0 →
      wX10_fails 1 c4 (fun r10 c9 =>
      wX10_moved_p35 r10 c9 Q)))))))
set_option maxRecDepth 100000 in
set_option maxHeartbeats 4000000 in
theorem tX10_moved {l : Launch} {G : gG} {k : Nat} {o : gMem} {Q : Int32 → gMem → Prop} {l1 : Int32} {c : gMem} (h : wX10_moved l1 c Q) : Cq l G mX10_moved 2 46 [.ref (G.2.1 + 74), .int l1] 84 k (wM G o c) (qi (wM G o) Q) := by
  refine Cq.of (by decide) (Nat.le_of_ble_eq_true rfl) ?_
  show Go l G mX10_moved (gbq G 2 46 84 k (qi (wM G o) Q)) 0 [(0, .ref (G.2.1 + 74)), (1, .int l1)] [] 84 k (wM G o c)
  unfold wX10_moved at h
  refine go_aload_n (pc := 0) dX10_moved_0 rfl rfl ?_
  refine go_iload_n (pc := 1) dX10_moved_1 rfl rfl ?_
  refine gq_callV_i (pc := 2) (F := wM G o) vX10_67 rfl (tX10_isMade h) rfl rfl (gz_b (by decide)) yw0 rfl (Nat.le_of_ble_eq_true rfl) ⟨Nat.le_of_ble_eq_true rfl, Nat.le_of_ble_eq_true rfl, Nat.le_add_right _ _, Nat.le_add_right _ _⟩ dX10_moved_2 (fun r2 c1 h => ?_)
  refine go_if_ne (pc := 5) (tgt := 13) dX10_moved_5 (by decide) (fun q3 => ?_) (fun q3 => ?_)
  · have h := h.2 q3
    refine go_aload_n (pc := 13) dX10_moved_13 rfl rfl ?_
    refine go_aload_n (pc := 14) dX10_moved_14 rfl rfl ?_
    refine go_iload_n (pc := 15) dX10_moved_15 rfl rfl ?_
    refine gq_callV_i (pc := 16) (F := wM G o) vX10_158 rfl (tX10_isGone h) rfl rfl (gz_b (by decide)) yw0 rfl (Nat.le_of_ble_eq_true rfl) ⟨Nat.le_of_ble_eq_true rfl, Nat.le_of_ble_eq_true rfl, Nat.le_add_right _ _, Nat.le_add_right _ _⟩ dX10_moved_16 (fun r5 c4 h => ?_)
    refine go_if_eq (pc := 19) (tgt := 29) dX10_moved_19 (by decide) (fun q6 => ?_) (fun q6 => ?_)
    · have h := h.1 q6
      refine go_aload_n (pc := 29) dX10_moved_29 rfl rfl ?_
      refine go_iload_n (pc := 30) dX10_moved_30 rfl rfl ?_
      refine go_iconst (pc := 31) (v := 4) dX10_moved_31 (by decide) ?_
      refine gq_callV_i (pc := 32) (F := wM G o) vX10_71 rfl (tX10_of h) rfl rfl (gz_b (by decide)) yw0 rfl (Nat.le_of_ble_eq_true rfl) ⟨Nat.le_of_ble_eq_true rfl, Nat.le_of_ble_eq_true rfl, Nat.le_add_right _ _, Nat.le_add_right _ _⟩ dX10_moved_32 (fun r8 c7 h => ?_)
      refine go_lv [] rfl ?_
      exact tX10_moved_p35 h
    · have h := h.2 q6
      refine go_iconst (pc := 22) (v := 1) dX10_moved_22 (by decide) ?_
      refine gq_callS_i (pc := 23) (F := wM G o) sX10_141 rfl (tX10_fails h) rfl rfl (Nat.le_of_ble_eq_true rfl) ⟨Nat.le_of_ble_eq_true rfl, Nat.le_of_ble_eq_true rfl, Nat.le_add_right _ _, Nat.le_add_right _ _⟩ dX10_moved_23 (fun r10 c9 h => ?_)
      refine go_goto (pc := 26) (tgt := 35) dX10_moved_26 (by decide) ?_
      refine go_lv [] rfl ?_
      exact tX10_moved_p35 h
  · have h := h.1 q3
    refine go_bipush (pc := 8) (v := (-101)) dX10_moved_8 (by decide) ?_
    refine go_goto (pc := 10) (tgt := 38) dX10_moved_10 (by decide) ?_
    exact gq_iret (pc := 38) (F := wM G o) rfl dX10_moved_38 h
def wX10_told_p39 (l1 : Int32) (l2 : Int32) (s0 : Int32) (c : gMem) (Q : Int32 → gMem → Prop) : Prop :=
  wX10_in l1.toInt64 0 ((s0 - 1).toInt64) c (fun r2 c1 =>
  ((r2 = 0 →
    Q ((-1)) c1) ∧
   (¬ r2 = 0 →
    vp_in ((100 + (3 * l1)) + l2) 26100 ∧
    ∀ v4, v4 = c1 1 ((100 + (3 * l1)) + l2).toNatClampNeg →
    Q v4 c1)))
set_option maxRecDepth 100000 in
set_option maxHeartbeats 4000000 in
theorem tX10_told_p39 {l : Launch} {G : gG} {k : Nat} {o : gMem} {Q : Int32 → gMem → Prop} {l1 : Int32} {l2 : Int32} {s0 : Int32} {c : gMem} (h : wX10_told_p39 l1 l2 s0 c Q) : Go l G mX10_told (gbq G 1 25 84 k (qi (wM G o) Q)) 39 [(0, .ref (G.2.1 + 74)), (1, .int l1), (2, .int l2)] [.int s0] 84 k (wM G o c) := by
  unfold wX10_told_p39 at h
  refine go_istore_n (pc := 39) (lv' := [(3, .int s0), (0, .ref (G.2.1 + 74)), (1, .int l1), (2, .int l2)]) dX10_told_39 rfl (by decide) rfl ?_
  refine go_iload_n (pc := 40) dX10_told_40 rfl rfl ?_
  refine go_i2l (pc := 41) dX10_told_41 ?_
  refine go_lconst (pc := 42) (v := 0) dX10_told_42 (by decide) ?_
  refine go_iload_n (pc := 43) dX10_told_43 rfl rfl ?_
  refine go_iconst (pc := 44) (v := 1) dX10_told_44 (by decide) ?_
  refine go_isub (pc := 45) dX10_told_45 ?_
  refine go_i2l (pc := 46) dX10_told_46 ?_
  refine gq_callS_i (pc := 47) (F := wM G o) sX10_63 rfl (tX10_in h) rfl rfl (Nat.le_of_ble_eq_true rfl) ⟨Nat.le_of_ble_eq_true rfl, Nat.le_of_ble_eq_true rfl, Nat.le_add_right _ _, Nat.le_add_right _ _⟩ dX10_told_47 (fun r2 c1 h => ?_)
  refine go_if_eq (pc := 50) (tgt := 69) dX10_told_50 (by decide) (fun q3 => ?_) (fun q3 => ?_)
  · have h := h.1 q3
    refine go_iconst (pc := 69) (v := (-1)) dX10_told_69 (by decide) ?_
    exact gq_iret (pc := 70) (F := wM G o) rfl dX10_told_70 h
  · have h := h.2 q3
    refine go_aload_n (pc := 53) dX10_told_53 rfl rfl ?_
    refine go_get (pc := 54) fX10_9 rfl (gz_b (by decide)) yw0 rfl dX10_told_54 ?_
    refine go_bipush (pc := 57) (v := 100) dX10_told_57 (by decide) ?_
    refine go_iconst (pc := 59) (v := 3) dX10_told_59 (by decide) ?_
    refine go_iload_n (pc := 60) dX10_told_60 rfl rfl ?_
    refine go_imul (pc := 61) dX10_told_61 ?_
    refine go_iadd (pc := 62) dX10_told_62 ?_
    refine go_iload_n (pc := 63) dX10_told_63 rfl rfl ?_
    refine go_iadd (pc := 64) dX10_told_64 ?_
    obtain ⟨b5, h⟩ := h
    refine gb_iald (pc := 65) (gz_b (by decide)) yw1 b5 dX10_told_65 (fun v4 ev4 => ?_)
    have h := h v4 ev4
    refine go_goto (pc := 66) (tgt := 70) dX10_told_66 (by decide) ?_
    exact gq_iret (pc := 70) (F := wM G o) rfl dX10_told_70 h
def wX10_told (l1 : Int32) (l2 : Int32) (c : gMem) (Q : Int32 → gMem → Prop) : Prop :=
  wX10_in l2.toInt64 0 2 c (fun r2 c1 =>
  ((r2 = 0 →
    Q ((-102)) c1) ∧
   (¬ r2 = 0 →
    ∀ v4, v4 = c1 1 10 →
    ((100 ≤ v4 →
      wX10_told_p39 l1 l2 100 c1 Q) ∧
     (¬ 100 ≤ v4 →
      ∀ v6, v6 = c1 1 10 →
      wX10_told_p39 l1 l2 v6 c1 Q)))))
set_option maxRecDepth 100000 in
set_option maxHeartbeats 4000000 in
theorem tX10_told {l : Launch} {G : gG} {k : Nat} {o : gMem} {Q : Int32 → gMem → Prop} {l1 : Int32} {l2 : Int32} {c : gMem} (h : wX10_told l1 l2 c Q) : Cq l G mX10_told 1 25 [.ref (G.2.1 + 74), .int l1, .int l2] 84 k (wM G o c) (qi (wM G o) Q) := by
  refine Cq.of (by decide) (Nat.le_of_ble_eq_true rfl) ?_
  show Go l G mX10_told (gbq G 1 25 84 k (qi (wM G o) Q)) 0 [(0, .ref (G.2.1 + 74)), (1, .int l1), (2, .int l2)] [] 84 k (wM G o c)
  unfold wX10_told at h
  refine go_iload_n (pc := 0) dX10_told_0 rfl rfl ?_
  refine go_i2l (pc := 1) dX10_told_1 ?_
  refine go_lconst (pc := 2) (v := 0) dX10_told_2 (by decide) ?_
  refine go_ldc2 (pc := 3) rfl qX10_232 dX10_told_3 ?_
  refine gq_callS_i (pc := 6) (F := wM G o) sX10_63 rfl (tX10_in h) rfl rfl (Nat.le_of_ble_eq_true rfl) ⟨Nat.le_of_ble_eq_true rfl, Nat.le_of_ble_eq_true rfl, Nat.le_add_right _ _, Nat.le_add_right _ _⟩ dX10_told_6 (fun r2 c1 h => ?_)
  refine go_if_ne (pc := 9) (tgt := 15) dX10_told_9 (by decide) (fun q3 => ?_) (fun q3 => ?_)
  · have h := h.2 q3
    refine go_aload_n (pc := 15) dX10_told_15 rfl rfl ?_
    refine go_get (pc := 16) fX10_9 rfl (gz_b (by decide)) yw0 rfl dX10_told_16 ?_
    refine go_bipush (pc := 19) (v := 10) dX10_told_19 (by decide) ?_
    refine gb_iald (pc := 21) (gz_b (by decide)) yw1 (gv_in (by decide)) dX10_told_21 (fun v4 ev4 => ?_)
    have h := h v4 ev4
    refine go_bipush (pc := 22) (v := 100) dX10_told_22 (by decide) ?_
    refine go_icmp_ge (pc := 24) (tgt := 37) dX10_told_24 (by decide) (fun q5 => ?_) (fun q5 => ?_)
    · have h := h.1 q5
      refine go_bipush (pc := 37) (v := 100) dX10_told_37 (by decide) ?_
      refine go_lv [0, 1, 2] rfl ?_
      exact tX10_told_p39 h
    · have h := h.2 q5
      refine go_aload_n (pc := 27) dX10_told_27 rfl rfl ?_
      refine go_get (pc := 28) fX10_9 rfl (gz_b (by decide)) yw0 rfl dX10_told_28 ?_
      refine go_bipush (pc := 31) (v := 10) dX10_told_31 (by decide) ?_
      refine gb_iald (pc := 33) (gz_b (by decide)) yw1 (gv_in (by decide)) dX10_told_33 (fun v6 ev6 => ?_)
      have h := h v6 ev6
      refine go_goto (pc := 34) (tgt := 39) dX10_told_34 (by decide) ?_
      refine go_lv [0, 1, 2] rfl ?_
      exact tX10_told_p39 h
  · have h := h.1 q3
    refine go_bipush (pc := 12) (v := (-102)) dX10_told_12 (by decide) ?_
    exact gq_iret (pc := 14) (F := wM G o) rfl dX10_told_14 h
def wX10_notThrough_p46 (P4 : Int32 → Int32 → gMem → Prop) (l2 : Int32) (s0 : Int32) (s1 : Int32) (c : gMem) (Q : Int32 → gMem → Prop) : Prop :=
  P4 (s1 + s0) (l2 + 1) c
set_option maxRecDepth 100000 in
set_option maxHeartbeats 4000000 in
theorem tX10_notThrough_p46 {l : Launch} {G : gG} {k : Nat} {o : gMem} {Q : Int32 → gMem → Prop} {P4 : Int32 → Int32 → gMem → Prop} (hP4 : ∀ (l1 : Int32) (l2 : Int32) (c : gMem), P4 l1 l2 c → Go l G mX10_notThrough (gbq G 2 44 84 k (qi (wM G o) Q)) 4 [(0, .ref (G.2.1 + 74)), (1, .int l1), (2, .int l2)] [] 84 k (wM G o c)) {l2 : Int32} {s0 : Int32} {s1 : Int32} {c : gMem} (h : wX10_notThrough_p46 P4 l2 s0 s1 c Q) : Go l G mX10_notThrough (gbq G 2 44 84 k (qi (wM G o) Q)) 46 [(0, .ref (G.2.1 + 74)), (2, .int l2)] [.int s0, .int s1] 84 k (wM G o c) := by
  unfold wX10_notThrough_p46 at h
  refine go_iadd (pc := 46) dX10_notThrough_46 ?_
  refine go_istore_n (pc := 47) (lv' := [(1, .int (s1 + s0)), (0, .ref (G.2.1 + 74)), (2, .int l2)]) dX10_notThrough_47 rfl (by decide) rfl ?_
  refine go_iinc (pc := 48) (v := l2 + 1) (lv' := [(2, .int (l2 + 1)), (1, .int (s1 + s0)), (0, .ref (G.2.1 + 74))]) dX10_notThrough_48 2 rfl (by first | rfl | decide) (by decide) rfl ?_
  refine go_goto (pc := 51) (tgt := 4) dX10_notThrough_51 (by decide) ?_
  refine go_lv [2, 1, 0] rfl ?_
  exact hP4 _ _ _ h
def wX10_notThrough_p4_b (P4 : Int32 → Int32 → gMem → Prop) (l1 : Int32) (l2 : Int32) (c : gMem) (Q : Int32 → gMem → Prop) : Prop :=
  ∀ v1, v1 = c 1 4 →
  ((v1 ≤ l2 →
    Q l1 c) ∧
   (¬ v1 ≤ l2 →
    vp_in (600 + l2) 26100 ∧
    ∀ v3, v3 = c 1 (600 + l2).toNatClampNeg →
    wX10_of v3 9 c (fun r6 c5 =>
    wX10_linksOf v3 c5 (fun r8 c7 =>
    ((r8 ≤ r6 →
      wX10_notThrough_p46 P4 l2 0 l1 c7 Q) ∧
     (¬ r8 ≤ r6 →
      wX10_notThrough_p46 P4 l2 1 l1 c7 Q))))))
def wX10_notThrough_p4 (l1 : Int32) (l2 : Int32) (c : gMem) (Q : Int32 → gMem → Prop) : Prop :=
  ∀ P4 : Int32 → Int32 → gMem → Prop, (∀ (l1 : Int32) (l2 : Int32) (c : gMem), wX10_notThrough_p4_b P4 l1 l2 c Q → P4 l1 l2 c) → P4 l1 l2 c
set_option maxRecDepth 100000 in
set_option maxHeartbeats 4000000 in
theorem tX10_notThrough_p4_b {l : Launch} {G : gG} {k : Nat} {o : gMem} {Q : Int32 → gMem → Prop} {P4 : Int32 → Int32 → gMem → Prop} (hP4 : ∀ (l1 : Int32) (l2 : Int32) (c : gMem), P4 l1 l2 c → Go l G mX10_notThrough (gbq G 2 44 84 k (qi (wM G o) Q)) 4 [(0, .ref (G.2.1 + 74)), (1, .int l1), (2, .int l2)] [] 84 k (wM G o c)) {l1 : Int32} {l2 : Int32} {c : gMem} (h : wX10_notThrough_p4_b P4 l1 l2 c Q) : Go l G mX10_notThrough (gbq G 2 44 84 k (qi (wM G o) Q)) 4 [(0, .ref (G.2.1 + 74)), (1, .int l1), (2, .int l2)] [] 84 k (wM G o c) := by
  unfold wX10_notThrough_p4_b at h
  refine go_iload_n (pc := 4) dX10_notThrough_4 rfl rfl ?_
  refine go_aload_n (pc := 5) dX10_notThrough_5 rfl rfl ?_
  refine go_get (pc := 6) fX10_9 rfl (gz_b (by decide)) yw0 rfl dX10_notThrough_6 ?_
  refine go_iconst (pc := 9) (v := 4) dX10_notThrough_9 (by decide) ?_
  refine gb_iald (pc := 10) (gz_b (by decide)) yw1 (gv_in (by decide)) dX10_notThrough_10 (fun v1 ev1 => ?_)
  have h := h v1 ev1
  refine go_icmp_ge (pc := 11) (tgt := 54) dX10_notThrough_11 (by decide) (fun q2 => ?_) (fun q2 => ?_)
  · have h := h.1 q2
    refine go_iload_n (pc := 54) dX10_notThrough_54 rfl rfl ?_
    exact gq_iret (pc := 55) (F := wM G o) rfl dX10_notThrough_55 h
  · have h := h.2 q2
    refine go_aload_n (pc := 14) dX10_notThrough_14 rfl rfl ?_
    refine go_get (pc := 15) fX10_9 rfl (gz_b (by decide)) yw0 rfl dX10_notThrough_15 ?_
    refine go_sipush (pc := 18) (v := 600) dX10_notThrough_18 (by decide) ?_
    refine go_iload_n (pc := 21) dX10_notThrough_21 rfl rfl ?_
    refine go_iadd (pc := 22) dX10_notThrough_22 ?_
    obtain ⟨b4, h⟩ := h
    refine gb_iald (pc := 23) (gz_b (by decide)) yw1 b4 dX10_notThrough_23 (fun v3 ev3 => ?_)
    have h := h v3 ev3
    refine go_istore_n (pc := 24) (lv' := [(3, .int v3), (0, .ref (G.2.1 + 74)), (1, .int l1), (2, .int l2)]) dX10_notThrough_24 rfl (by decide) rfl ?_
    refine go_iload_n (pc := 25) dX10_notThrough_25 rfl rfl ?_
    refine go_aload_n (pc := 26) dX10_notThrough_26 rfl rfl ?_
    refine go_iload_n (pc := 27) dX10_notThrough_27 rfl rfl ?_
    refine go_bipush (pc := 28) (v := 9) dX10_notThrough_28 (by decide) ?_
    refine gq_callV_i (pc := 30) (F := wM G o) vX10_71 rfl (tX10_of h) rfl rfl (gz_b (by decide)) yw0 rfl (Nat.le_of_ble_eq_true rfl) ⟨Nat.le_of_ble_eq_true rfl, Nat.le_of_ble_eq_true rfl, Nat.le_add_right _ _, Nat.le_add_right _ _⟩ dX10_notThrough_30 (fun r6 c5 h => ?_)
    refine go_aload_n (pc := 33) dX10_notThrough_33 rfl rfl ?_
    refine go_iload_n (pc := 34) dX10_notThrough_34 rfl rfl ?_
    refine gq_callV_i (pc := 35) (F := wM G o) vX10_90 rfl (tX10_linksOf h) rfl rfl (gz_b (by decide)) yw0 rfl (Nat.le_of_ble_eq_true rfl) ⟨Nat.le_of_ble_eq_true rfl, Nat.le_of_ble_eq_true rfl, Nat.le_add_right _ _, Nat.le_add_right _ _⟩ dX10_notThrough_35 (fun r8 c7 h => ?_)
    refine go_icmp_ge (pc := 38) (tgt := 45) dX10_notThrough_38 (by decide) (fun q9 => ?_) (fun q9 => ?_)
    · have h := h.1 q9
      refine go_iconst (pc := 45) (v := 0) dX10_notThrough_45 (by decide) ?_
      refine go_lv [1, 3] rfl ?_
      exact tX10_notThrough_p46 hP4 h
    · have h := h.2 q9
      refine go_iconst (pc := 41) (v := 1) dX10_notThrough_41 (by decide) ?_
      refine go_goto (pc := 42) (tgt := 46) dX10_notThrough_42 (by decide) ?_
      refine go_lv [1, 3] rfl ?_
      exact tX10_notThrough_p46 hP4 h
set_option maxRecDepth 100000 in
set_option maxHeartbeats 4000000 in
theorem tX10_notThrough_p4 {l : Launch} {G : gG} {k : Nat} {o : gMem} {Q : Int32 → gMem → Prop} {l1 : Int32} {l2 : Int32} {c : gMem} (h : wX10_notThrough_p4 l1 l2 c Q) : Go l G mX10_notThrough (gbq G 2 44 84 k (qi (wM G o) Q)) 4 [(0, .ref (G.2.1 + 74)), (1, .int l1), (2, .int l2)] [] 84 k (wM G o c) :=
  h (fun l1 l2 c => Go l G mX10_notThrough (gbq G 2 44 84 k (qi (wM G o) Q)) 4 [(0, .ref (G.2.1 + 74)), (1, .int l1), (2, .int l2)] [] 84 k (wM G o c)) (fun l1 l2 c hb => tX10_notThrough_p4_b (fun l1 l2 c hh => hh) hb)
def wX10_notThrough (c : gMem) (Q : Int32 → gMem → Prop) : Prop :=
  wX10_notThrough_p4 0 0 c Q
set_option maxRecDepth 100000 in
set_option maxHeartbeats 4000000 in
theorem tX10_notThrough {l : Launch} {G : gG} {k : Nat} {o : gMem} {Q : Int32 → gMem → Prop} {c : gMem} (h : wX10_notThrough c Q) : Cq l G mX10_notThrough 2 44 [.ref (G.2.1 + 74)] 84 k (wM G o c) (qi (wM G o) Q) := by
  refine Cq.of (by decide) (Nat.le_of_ble_eq_true rfl) ?_
  show Go l G mX10_notThrough (gbq G 2 44 84 k (qi (wM G o) Q)) 0 [(0, .ref (G.2.1 + 74))] [] 84 k (wM G o c)
  unfold wX10_notThrough at h
  refine go_iconst (pc := 0) (v := 0) dX10_notThrough_0 (by decide) ?_
  refine go_istore_n (pc := 1) (lv' := [(1, .int 0), (0, .ref (G.2.1 + 74))]) dX10_notThrough_1 rfl (by decide) rfl ?_
  refine go_iconst (pc := 2) (v := 0) dX10_notThrough_2 (by decide) ?_
  refine go_istore_n (pc := 3) (lv' := [(2, .int 0), (1, .int 0), (0, .ref (G.2.1 + 74))]) dX10_notThrough_3 rfl (by decide) rfl ?_
  refine go_lv [2, 1, 0] rfl ?_
  exact tX10_notThrough_p4 h
def wX10_about (l1 : Int32) (c : gMem) (Q : Int32 → gMem → Prop) : Prop :=
  ((l1.toInt < 0 ∨ 15 < l1.toInt →
    Q ((-102)) c) ∧
   (l1 = 0 →
    ∀ v2, v2 = c 1 0 →
    Q v2 c) ∧
   (l1 = 1 →
    ∀ v3, v3 = c 1 0 →
    ∀ v4, v4 = c 1 16 →
    Q (v3 - v4) c) ∧
   (l1 = 2 →
    ∀ v5, v5 = c 1 1 →
    Q v5 c) ∧
   (l1 = 3 →
    ∀ v6, v6 = c 1 2 →
    Q v6 c) ∧
   (l1 = 4 →
    ∀ v7, v7 = c 1 5 →
    Q v7 c) ∧
   (l1 = 5 →
    ∀ v8, v8 = c 1 6 →
    Q v8 c) ∧
   (l1 = 6 →
    ∀ v9, v9 = c 1 7 →
    Q v9 c) ∧
   (l1 = 7 →
    ∀ v10, v10 = c 1 8 →
    Q v10 c) ∧
   (l1 = 8 →
    ∀ v11, v11 = c 1 9 →
    Q v11 c) ∧
   (l1 = 9 →
    ∀ v12, v12 = c 1 10 →
    Q v12 c) ∧
   (l1 = 10 →
    ∀ v13, v13 = c 1 4 →
    Q v13 c) ∧
   (l1 = 11 →
    wX10_notThrough c (fun r15 c14 =>
    Q r15 c14)) ∧
   (l1 = 12 →
    ∀ v16, v16 = c 1 11 →
    Q v16 c) ∧
   (l1 = 13 →
    ∀ v17, v17 = c 1 12 →
    Q v17 c) ∧
   (l1 = 14 →
    ∀ v18, v18 = c 1 13 →
    Q v18 c) ∧
   (l1 = 15 →
    ∀ v19, v19 = c 1 14 →
    Q v19 c))
set_option maxRecDepth 100000 in
set_option maxHeartbeats 4000000 in
theorem tX10_about {l : Launch} {G : gG} {k : Nat} {o : gMem} {Q : Int32 → gMem → Prop} {l1 : Int32} {c : gMem} (h : wX10_about l1 c Q) : Cq l G mX10_about 3 67 [.ref (G.2.1 + 74), .int l1] 84 k (wM G o c) (qi (wM G o) Q) := by
  refine Cq.of (by decide) (Nat.le_of_ble_eq_true rfl) ?_
  show Go l G mX10_about (gbq G 3 67 84 k (qi (wM G o) Q)) 0 [(0, .ref (G.2.1 + 74)), (1, .int l1)] [] 84 k (wM G o c)
  unfold wX10_about at h
  refine go_iload_n (pc := 0) dX10_about_0 rfl rfl ?_
  by_cases q1 : l1.toInt < 0 ∨ 15 < l1.toInt
  · refine go_tableOut (pc := 1) (tgt := 207) dX10_about_1 q1 (by decide) ?_
    have h := h.1 q1
    refine go_bipush (pc := 207) (v := (-102)) dX10_about_207 (by decide) ?_
    exact gq_iret (pc := 209) (F := wM G o) rfl dX10_about_209 h
  have q1a : l1.toInt = 0 ∨ l1.toInt = 1 ∨ l1.toInt = 2 ∨ l1.toInt = 3 ∨ l1.toInt = 4 ∨ l1.toInt = 5 ∨ l1.toInt = 6 ∨ l1.toInt = 7 ∨ l1.toInt = 8 ∨ l1.toInt = 9 ∨ l1.toInt = 10 ∨ l1.toInt = 11 ∨ l1.toInt = 12 ∨ l1.toInt = 13 ∨ l1.toInt = 14 ∨ l1.toInt = 15 := by omega
  rcases q1a with q1b | q1b | q1b | q1b | q1b | q1b | q1b | q1b | q1b | q1b | q1b | q1b | q1b | q1b | q1b | q1b
  · have q1c : l1 = 0 := gt_eq q1b _ (by decide)
    refine go_tableIn (pc := 1) (off := 79) (tgt := 80) dX10_about_1 (by rw [q1b]; decide) (by rw [q1b]; decide) (by rw [q1b]; rfl) (by decide) ?_
    have h := h.2.1 q1c
    refine go_aload_n (pc := 80) dX10_about_80 rfl rfl ?_
    refine go_get (pc := 81) fX10_9 rfl (gz_b (by decide)) yw0 rfl dX10_about_81 ?_
    refine go_iconst (pc := 84) (v := 0) dX10_about_84 (by decide) ?_
    refine gb_iald (pc := 85) (gz_b (by decide)) yw1 (gv_in (by decide)) dX10_about_85 (fun v2 ev2 => ?_)
    have h := h v2 ev2
    exact gq_iret (pc := 86) (F := wM G o) rfl dX10_about_86 h
  · have q1c : l1 = 1 := gt_eq q1b _ (by decide)
    refine go_tableIn (pc := 1) (off := 86) (tgt := 87) dX10_about_1 (by rw [q1b]; decide) (by rw [q1b]; decide) (by rw [q1b]; rfl) (by decide) ?_
    have h := h.2.2.1 q1c
    refine go_aload_n (pc := 87) dX10_about_87 rfl rfl ?_
    refine go_get (pc := 88) fX10_9 rfl (gz_b (by decide)) yw0 rfl dX10_about_88 ?_
    refine go_iconst (pc := 91) (v := 0) dX10_about_91 (by decide) ?_
    refine gb_iald (pc := 92) (gz_b (by decide)) yw1 (gv_in (by decide)) dX10_about_92 (fun v3 ev3 => ?_)
    have h := h v3 ev3
    refine go_aload_n (pc := 93) dX10_about_93 rfl rfl ?_
    refine go_get (pc := 94) fX10_9 rfl (gz_b (by decide)) yw0 rfl dX10_about_94 ?_
    refine go_bipush (pc := 97) (v := 16) dX10_about_97 (by decide) ?_
    refine gb_iald (pc := 99) (gz_b (by decide)) yw1 (gv_in (by decide)) dX10_about_99 (fun v4 ev4 => ?_)
    have h := h v4 ev4
    refine go_isub (pc := 100) dX10_about_100 ?_
    exact gq_iret (pc := 101) (F := wM G o) rfl dX10_about_101 h
  · have q1c : l1 = 2 := gt_eq q1b _ (by decide)
    refine go_tableIn (pc := 1) (off := 101) (tgt := 102) dX10_about_1 (by rw [q1b]; decide) (by rw [q1b]; decide) (by rw [q1b]; rfl) (by decide) ?_
    have h := h.2.2.2.1 q1c
    refine go_aload_n (pc := 102) dX10_about_102 rfl rfl ?_
    refine go_get (pc := 103) fX10_9 rfl (gz_b (by decide)) yw0 rfl dX10_about_103 ?_
    refine go_iconst (pc := 106) (v := 1) dX10_about_106 (by decide) ?_
    refine gb_iald (pc := 107) (gz_b (by decide)) yw1 (gv_in (by decide)) dX10_about_107 (fun v5 ev5 => ?_)
    have h := h v5 ev5
    exact gq_iret (pc := 108) (F := wM G o) rfl dX10_about_108 h
  · have q1c : l1 = 3 := gt_eq q1b _ (by decide)
    refine go_tableIn (pc := 1) (off := 108) (tgt := 109) dX10_about_1 (by rw [q1b]; decide) (by rw [q1b]; decide) (by rw [q1b]; rfl) (by decide) ?_
    have h := h.2.2.2.2.1 q1c
    refine go_aload_n (pc := 109) dX10_about_109 rfl rfl ?_
    refine go_get (pc := 110) fX10_9 rfl (gz_b (by decide)) yw0 rfl dX10_about_110 ?_
    refine go_iconst (pc := 113) (v := 2) dX10_about_113 (by decide) ?_
    refine gb_iald (pc := 114) (gz_b (by decide)) yw1 (gv_in (by decide)) dX10_about_114 (fun v6 ev6 => ?_)
    have h := h v6 ev6
    exact gq_iret (pc := 115) (F := wM G o) rfl dX10_about_115 h
  · have q1c : l1 = 4 := gt_eq q1b _ (by decide)
    refine go_tableIn (pc := 1) (off := 115) (tgt := 116) dX10_about_1 (by rw [q1b]; decide) (by rw [q1b]; decide) (by rw [q1b]; rfl) (by decide) ?_
    have h := h.2.2.2.2.2.1 q1c
    refine go_aload_n (pc := 116) dX10_about_116 rfl rfl ?_
    refine go_get (pc := 117) fX10_9 rfl (gz_b (by decide)) yw0 rfl dX10_about_117 ?_
    refine go_iconst (pc := 120) (v := 5) dX10_about_120 (by decide) ?_
    refine gb_iald (pc := 121) (gz_b (by decide)) yw1 (gv_in (by decide)) dX10_about_121 (fun v7 ev7 => ?_)
    have h := h v7 ev7
    exact gq_iret (pc := 122) (F := wM G o) rfl dX10_about_122 h
  · have q1c : l1 = 5 := gt_eq q1b _ (by decide)
    refine go_tableIn (pc := 1) (off := 122) (tgt := 123) dX10_about_1 (by rw [q1b]; decide) (by rw [q1b]; decide) (by rw [q1b]; rfl) (by decide) ?_
    have h := h.2.2.2.2.2.2.1 q1c
    refine go_aload_n (pc := 123) dX10_about_123 rfl rfl ?_
    refine go_get (pc := 124) fX10_9 rfl (gz_b (by decide)) yw0 rfl dX10_about_124 ?_
    refine go_bipush (pc := 127) (v := 6) dX10_about_127 (by decide) ?_
    refine gb_iald (pc := 129) (gz_b (by decide)) yw1 (gv_in (by decide)) dX10_about_129 (fun v8 ev8 => ?_)
    have h := h v8 ev8
    exact gq_iret (pc := 130) (F := wM G o) rfl dX10_about_130 h
  · have q1c : l1 = 6 := gt_eq q1b _ (by decide)
    refine go_tableIn (pc := 1) (off := 130) (tgt := 131) dX10_about_1 (by rw [q1b]; decide) (by rw [q1b]; decide) (by rw [q1b]; rfl) (by decide) ?_
    have h := h.2.2.2.2.2.2.2.1 q1c
    refine go_aload_n (pc := 131) dX10_about_131 rfl rfl ?_
    refine go_get (pc := 132) fX10_9 rfl (gz_b (by decide)) yw0 rfl dX10_about_132 ?_
    refine go_bipush (pc := 135) (v := 7) dX10_about_135 (by decide) ?_
    refine gb_iald (pc := 137) (gz_b (by decide)) yw1 (gv_in (by decide)) dX10_about_137 (fun v9 ev9 => ?_)
    have h := h v9 ev9
    exact gq_iret (pc := 138) (F := wM G o) rfl dX10_about_138 h
  · have q1c : l1 = 7 := gt_eq q1b _ (by decide)
    refine go_tableIn (pc := 1) (off := 138) (tgt := 139) dX10_about_1 (by rw [q1b]; decide) (by rw [q1b]; decide) (by rw [q1b]; rfl) (by decide) ?_
    have h := h.2.2.2.2.2.2.2.2.1 q1c
    refine go_aload_n (pc := 139) dX10_about_139 rfl rfl ?_
    refine go_get (pc := 140) fX10_9 rfl (gz_b (by decide)) yw0 rfl dX10_about_140 ?_
    refine go_bipush (pc := 143) (v := 8) dX10_about_143 (by decide) ?_
    refine gb_iald (pc := 145) (gz_b (by decide)) yw1 (gv_in (by decide)) dX10_about_145 (fun v10 ev10 => ?_)
    have h := h v10 ev10
    exact gq_iret (pc := 146) (F := wM G o) rfl dX10_about_146 h
  · have q1c : l1 = 8 := gt_eq q1b _ (by decide)
    refine go_tableIn (pc := 1) (off := 146) (tgt := 147) dX10_about_1 (by rw [q1b]; decide) (by rw [q1b]; decide) (by rw [q1b]; rfl) (by decide) ?_
    have h := h.2.2.2.2.2.2.2.2.2.1 q1c
    refine go_aload_n (pc := 147) dX10_about_147 rfl rfl ?_
    refine go_get (pc := 148) fX10_9 rfl (gz_b (by decide)) yw0 rfl dX10_about_148 ?_
    refine go_bipush (pc := 151) (v := 9) dX10_about_151 (by decide) ?_
    refine gb_iald (pc := 153) (gz_b (by decide)) yw1 (gv_in (by decide)) dX10_about_153 (fun v11 ev11 => ?_)
    have h := h v11 ev11
    exact gq_iret (pc := 154) (F := wM G o) rfl dX10_about_154 h
  · have q1c : l1 = 9 := gt_eq q1b _ (by decide)
    refine go_tableIn (pc := 1) (off := 154) (tgt := 155) dX10_about_1 (by rw [q1b]; decide) (by rw [q1b]; decide) (by rw [q1b]; rfl) (by decide) ?_
    have h := h.2.2.2.2.2.2.2.2.2.2.1 q1c
    refine go_aload_n (pc := 155) dX10_about_155 rfl rfl ?_
    refine go_get (pc := 156) fX10_9 rfl (gz_b (by decide)) yw0 rfl dX10_about_156 ?_
    refine go_bipush (pc := 159) (v := 10) dX10_about_159 (by decide) ?_
    refine gb_iald (pc := 161) (gz_b (by decide)) yw1 (gv_in (by decide)) dX10_about_161 (fun v12 ev12 => ?_)
    have h := h v12 ev12
    exact gq_iret (pc := 162) (F := wM G o) rfl dX10_about_162 h
  · have q1c : l1 = 10 := gt_eq q1b _ (by decide)
    refine go_tableIn (pc := 1) (off := 162) (tgt := 163) dX10_about_1 (by rw [q1b]; decide) (by rw [q1b]; decide) (by rw [q1b]; rfl) (by decide) ?_
    have h := h.2.2.2.2.2.2.2.2.2.2.2.1 q1c
    refine go_aload_n (pc := 163) dX10_about_163 rfl rfl ?_
    refine go_get (pc := 164) fX10_9 rfl (gz_b (by decide)) yw0 rfl dX10_about_164 ?_
    refine go_iconst (pc := 167) (v := 4) dX10_about_167 (by decide) ?_
    refine gb_iald (pc := 168) (gz_b (by decide)) yw1 (gv_in (by decide)) dX10_about_168 (fun v13 ev13 => ?_)
    have h := h v13 ev13
    exact gq_iret (pc := 169) (F := wM G o) rfl dX10_about_169 h
  · have q1c : l1 = 11 := gt_eq q1b _ (by decide)
    refine go_tableIn (pc := 1) (off := 169) (tgt := 170) dX10_about_1 (by rw [q1b]; decide) (by rw [q1b]; decide) (by rw [q1b]; rfl) (by decide) ?_
    have h := h.2.2.2.2.2.2.2.2.2.2.2.2.1 q1c
    refine go_aload_n (pc := 170) dX10_about_170 rfl rfl ?_
    refine gq_callV_i (pc := 171) (F := wM G o) vX10_234 rfl (tX10_notThrough h) rfl rfl (gz_b (by decide)) yw0 rfl (Nat.le_of_ble_eq_true rfl) ⟨Nat.le_of_ble_eq_true rfl, Nat.le_of_ble_eq_true rfl, Nat.le_add_right _ _, Nat.le_add_right _ _⟩ dX10_about_171 (fun r15 c14 h => ?_)
    exact gq_iret (pc := 174) (F := wM G o) rfl dX10_about_174 h
  · have q1c : l1 = 12 := gt_eq q1b _ (by decide)
    refine go_tableIn (pc := 1) (off := 174) (tgt := 175) dX10_about_1 (by rw [q1b]; decide) (by rw [q1b]; decide) (by rw [q1b]; rfl) (by decide) ?_
    have h := h.2.2.2.2.2.2.2.2.2.2.2.2.2.1 q1c
    refine go_aload_n (pc := 175) dX10_about_175 rfl rfl ?_
    refine go_get (pc := 176) fX10_9 rfl (gz_b (by decide)) yw0 rfl dX10_about_176 ?_
    refine go_bipush (pc := 179) (v := 11) dX10_about_179 (by decide) ?_
    refine gb_iald (pc := 181) (gz_b (by decide)) yw1 (gv_in (by decide)) dX10_about_181 (fun v16 ev16 => ?_)
    have h := h v16 ev16
    exact gq_iret (pc := 182) (F := wM G o) rfl dX10_about_182 h
  · have q1c : l1 = 13 := gt_eq q1b _ (by decide)
    refine go_tableIn (pc := 1) (off := 182) (tgt := 183) dX10_about_1 (by rw [q1b]; decide) (by rw [q1b]; decide) (by rw [q1b]; rfl) (by decide) ?_
    have h := h.2.2.2.2.2.2.2.2.2.2.2.2.2.2.1 q1c
    refine go_aload_n (pc := 183) dX10_about_183 rfl rfl ?_
    refine go_get (pc := 184) fX10_9 rfl (gz_b (by decide)) yw0 rfl dX10_about_184 ?_
    refine go_bipush (pc := 187) (v := 12) dX10_about_187 (by decide) ?_
    refine gb_iald (pc := 189) (gz_b (by decide)) yw1 (gv_in (by decide)) dX10_about_189 (fun v17 ev17 => ?_)
    have h := h v17 ev17
    exact gq_iret (pc := 190) (F := wM G o) rfl dX10_about_190 h
  · have q1c : l1 = 14 := gt_eq q1b _ (by decide)
    refine go_tableIn (pc := 1) (off := 190) (tgt := 191) dX10_about_1 (by rw [q1b]; decide) (by rw [q1b]; decide) (by rw [q1b]; rfl) (by decide) ?_
    have h := h.2.2.2.2.2.2.2.2.2.2.2.2.2.2.2.1 q1c
    refine go_aload_n (pc := 191) dX10_about_191 rfl rfl ?_
    refine go_get (pc := 192) fX10_9 rfl (gz_b (by decide)) yw0 rfl dX10_about_192 ?_
    refine go_bipush (pc := 195) (v := 13) dX10_about_195 (by decide) ?_
    refine gb_iald (pc := 197) (gz_b (by decide)) yw1 (gv_in (by decide)) dX10_about_197 (fun v18 ev18 => ?_)
    have h := h v18 ev18
    exact gq_iret (pc := 198) (F := wM G o) rfl dX10_about_198 h
  · have q1c : l1 = 15 := gt_eq q1b _ (by decide)
    refine go_tableIn (pc := 1) (off := 198) (tgt := 199) dX10_about_1 (by rw [q1b]; decide) (by rw [q1b]; decide) (by rw [q1b]; rfl) (by decide) ?_
    have h := h.2.2.2.2.2.2.2.2.2.2.2.2.2.2.2.2 q1c
    refine go_aload_n (pc := 199) dX10_about_199 rfl rfl ?_
    refine go_get (pc := 200) fX10_9 rfl (gz_b (by decide)) yw0 rfl dX10_about_200 ?_
    refine go_bipush (pc := 203) (v := 14) dX10_about_203 (by decide) ?_
    refine gb_iald (pc := 205) (gz_b (by decide)) yw1 (gv_in (by decide)) dX10_about_205 (fun v19 ev19 => ?_)
    have h := h v19 ev19
    exact gq_iret (pc := 206) (F := wM G o) rfl dX10_about_206 h
def wX10_word (l1 : Int32) (c : gMem) (Q : Int32 → gMem → Prop) : Prop :=
  ∀ v1, v1 = c 1 0 →
  wX10_in l1.toInt64 0 ((v1 - 1).toInt64) c (fun r3 c2 =>
  ((r3 = 0 →
    Q ((-102)) c2) ∧
   (¬ r3 = 0 →
    vp_in (6100 + l1) 26100 ∧
    ∀ v5, v5 = c2 1 (6100 + l1).toNatClampNeg →
    Q v5 c2)))
set_option maxRecDepth 100000 in
set_option maxHeartbeats 4000000 in
theorem tX10_word {l : Launch} {G : gG} {k : Nat} {o : gMem} {Q : Int32 → gMem → Prop} {l1 : Int32} {c : gMem} (h : wX10_word l1 c Q) : Cq l G mX10_word 1 25 [.ref (G.2.1 + 74), .int l1] 84 k (wM G o c) (qi (wM G o) Q) := by
  refine Cq.of (by decide) (Nat.le_of_ble_eq_true rfl) ?_
  show Go l G mX10_word (gbq G 1 25 84 k (qi (wM G o) Q)) 0 [(0, .ref (G.2.1 + 74)), (1, .int l1)] [] 84 k (wM G o c)
  unfold wX10_word at h
  refine go_iload_n (pc := 0) dX10_word_0 rfl rfl ?_
  refine go_i2l (pc := 1) dX10_word_1 ?_
  refine go_lconst (pc := 2) (v := 0) dX10_word_2 (by decide) ?_
  refine go_aload_n (pc := 3) dX10_word_3 rfl rfl ?_
  refine go_get (pc := 4) fX10_9 rfl (gz_b (by decide)) yw0 rfl dX10_word_4 ?_
  refine go_iconst (pc := 7) (v := 0) dX10_word_7 (by decide) ?_
  refine gb_iald (pc := 8) (gz_b (by decide)) yw1 (gv_in (by decide)) dX10_word_8 (fun v1 ev1 => ?_)
  have h := h v1 ev1
  refine go_iconst (pc := 9) (v := 1) dX10_word_9 (by decide) ?_
  refine go_isub (pc := 10) dX10_word_10 ?_
  refine go_i2l (pc := 11) dX10_word_11 ?_
  refine gq_callS_i (pc := 12) (F := wM G o) sX10_63 rfl (tX10_in h) rfl rfl (Nat.le_of_ble_eq_true rfl) ⟨Nat.le_of_ble_eq_true rfl, Nat.le_of_ble_eq_true rfl, Nat.le_add_right _ _, Nat.le_add_right _ _⟩ dX10_word_12 (fun r3 c2 h => ?_)
  refine go_if_eq (pc := 15) (tgt := 31) dX10_word_15 (by decide) (fun q4 => ?_) (fun q4 => ?_)
  · have h := h.1 q4
    refine go_bipush (pc := 31) (v := (-102)) dX10_word_31 (by decide) ?_
    exact gq_iret (pc := 33) (F := wM G o) rfl dX10_word_33 h
  · have h := h.2 q4
    refine go_aload_n (pc := 18) dX10_word_18 rfl rfl ?_
    refine go_get (pc := 19) fX10_9 rfl (gz_b (by decide)) yw0 rfl dX10_word_19 ?_
    refine go_sipush (pc := 22) (v := 6100) dX10_word_22 (by decide) ?_
    refine go_iload_n (pc := 25) dX10_word_25 rfl rfl ?_
    refine go_iadd (pc := 26) dX10_word_26 ?_
    obtain ⟨b6, h⟩ := h
    refine gb_iald (pc := 27) (gz_b (by decide)) yw1 b6 dX10_word_27 (fun v5 ev5 => ?_)
    have h := h v5 ev5
    refine go_goto (pc := 28) (tgt := 33) dX10_word_28 (by decide) ?_
    exact gq_iret (pc := 33) (F := wM G o) rfl dX10_word_33 h
def wX10_digest_p40_b (P40 : Int32 → Int32 → gMem → Prop) (l1 : Int32) (l2 : Int32) (c : gMem) (Q : Int32 → gMem → Prop) : Prop :=
  ((24 ≤ l2 →
    ∀ v2, v2 = c 1 3 →
    Q ((31 * l1) + v2) c) ∧
   (¬ 24 ≤ l2 →
    vp_in (20 + l2) 26100 ∧
    ∀ v3, v3 = c 1 (20 + l2).toNatClampNeg →
    P40 ((31 * l1) + v3) (l2 + 1) c))
def wX10_digest_p40 (l1 : Int32) (l2 : Int32) (c : gMem) (Q : Int32 → gMem → Prop) : Prop :=
  ∀ P40 : Int32 → Int32 → gMem → Prop, (∀ (l1 : Int32) (l2 : Int32) (c : gMem), wX10_digest_p40_b P40 l1 l2 c Q → P40 l1 l2 c) → P40 l1 l2 c
set_option maxRecDepth 100000 in
set_option maxHeartbeats 4000000 in
theorem tX10_digest_p40_b {l : Launch} {G : gG} {k : Nat} {o : gMem} {Q : Int32 → gMem → Prop} {P40 : Int32 → Int32 → gMem → Prop} (hP40 : ∀ (l1 : Int32) (l2 : Int32) (c : gMem), P40 l1 l2 c → Go l G mX10_digest (gbq G 0 0 84 k (qi (wM G o) Q)) 40 [(0, .ref (G.2.1 + 74)), (1, .int l1), (2, .int l2)] [] 84 k (wM G o c)) {l1 : Int32} {l2 : Int32} {c : gMem} (h : wX10_digest_p40_b P40 l1 l2 c Q) : Go l G mX10_digest (gbq G 0 0 84 k (qi (wM G o) Q)) 40 [(0, .ref (G.2.1 + 74)), (1, .int l1), (2, .int l2)] [] 84 k (wM G o c) := by
  unfold wX10_digest_p40_b at h
  refine go_iload_n (pc := 40) dX10_digest_40 rfl rfl ?_
  refine go_bipush (pc := 41) (v := 24) dX10_digest_41 (by decide) ?_
  refine go_icmp_ge (pc := 43) (tgt := 67) dX10_digest_43 (by decide) (fun q1 => ?_) (fun q1 => ?_)
  · have h := h.1 q1
    refine go_bipush (pc := 67) (v := 31) dX10_digest_67 (by decide) ?_
    refine go_iload_n (pc := 69) dX10_digest_69 rfl rfl ?_
    refine go_imul (pc := 70) dX10_digest_70 ?_
    refine go_aload_n (pc := 71) dX10_digest_71 rfl rfl ?_
    refine go_get (pc := 72) fX10_9 rfl (gz_b (by decide)) yw0 rfl dX10_digest_72 ?_
    refine go_iconst (pc := 75) (v := 3) dX10_digest_75 (by decide) ?_
    refine gb_iald (pc := 76) (gz_b (by decide)) yw1 (gv_in (by decide)) dX10_digest_76 (fun v2 ev2 => ?_)
    have h := h v2 ev2
    refine go_iadd (pc := 77) dX10_digest_77 ?_
    exact gq_iret (pc := 78) (F := wM G o) rfl dX10_digest_78 h
  · have h := h.2 q1
    refine go_bipush (pc := 46) (v := 31) dX10_digest_46 (by decide) ?_
    refine go_iload_n (pc := 48) dX10_digest_48 rfl rfl ?_
    refine go_imul (pc := 49) dX10_digest_49 ?_
    refine go_aload_n (pc := 50) dX10_digest_50 rfl rfl ?_
    refine go_get (pc := 51) fX10_9 rfl (gz_b (by decide)) yw0 rfl dX10_digest_51 ?_
    refine go_bipush (pc := 54) (v := 20) dX10_digest_54 (by decide) ?_
    refine go_iload_n (pc := 56) dX10_digest_56 rfl rfl ?_
    refine go_iadd (pc := 57) dX10_digest_57 ?_
    obtain ⟨b4, h⟩ := h
    refine gb_iald (pc := 58) (gz_b (by decide)) yw1 b4 dX10_digest_58 (fun v3 ev3 => ?_)
    have h := h v3 ev3
    refine go_iadd (pc := 59) dX10_digest_59 ?_
    refine go_istore_n (pc := 60) (lv' := [(1, .int ((31 * l1) + v3)), (0, .ref (G.2.1 + 74)), (2, .int l2)]) dX10_digest_60 rfl (by decide) rfl ?_
    refine go_iinc (pc := 61) (v := l2 + 1) (lv' := [(2, .int (l2 + 1)), (1, .int ((31 * l1) + v3)), (0, .ref (G.2.1 + 74))]) dX10_digest_61 2 rfl (by first | rfl | decide) (by decide) rfl ?_
    refine go_goto (pc := 64) (tgt := 40) dX10_digest_64 (by decide) ?_
    refine go_lv [2, 1, 0] rfl ?_
    exact hP40 _ _ _ h
set_option maxRecDepth 100000 in
set_option maxHeartbeats 4000000 in
theorem tX10_digest_p40 {l : Launch} {G : gG} {k : Nat} {o : gMem} {Q : Int32 → gMem → Prop} {l1 : Int32} {l2 : Int32} {c : gMem} (h : wX10_digest_p40 l1 l2 c Q) : Go l G mX10_digest (gbq G 0 0 84 k (qi (wM G o) Q)) 40 [(0, .ref (G.2.1 + 74)), (1, .int l1), (2, .int l2)] [] 84 k (wM G o c) :=
  h (fun l1 l2 c => Go l G mX10_digest (gbq G 0 0 84 k (qi (wM G o) Q)) 40 [(0, .ref (G.2.1 + 74)), (1, .int l1), (2, .int l2)] [] 84 k (wM G o c)) (fun l1 l2 c hb => tX10_digest_p40_b (fun l1 l2 c hh => hh) hb)
def wX10_digest_p5_b (P5 : Int32 → Int32 → gMem → Prop) (l1 : Int32) (l2 : Int32) (c : gMem) (Q : Int32 → gMem → Prop) : Prop :=
  ∀ v1, v1 = c 1 16 →
  ((v1 ≤ l2 →
    wX10_digest_p40 l1 0 c Q) ∧
   (¬ v1 ≤ l2 →
    vp_in (6100 + l2) 26100 ∧
    ∀ v3, v3 = c 1 (6100 + l2).toNatClampNeg →
    P5 ((31 * l1) + v3) (l2 + 1) c))
def wX10_digest_p5 (l1 : Int32) (l2 : Int32) (c : gMem) (Q : Int32 → gMem → Prop) : Prop :=
  ∀ P5 : Int32 → Int32 → gMem → Prop, (∀ (l1 : Int32) (l2 : Int32) (c : gMem), wX10_digest_p5_b P5 l1 l2 c Q → P5 l1 l2 c) → P5 l1 l2 c
set_option maxRecDepth 100000 in
set_option maxHeartbeats 4000000 in
theorem tX10_digest_p5_b {l : Launch} {G : gG} {k : Nat} {o : gMem} {Q : Int32 → gMem → Prop} {P5 : Int32 → Int32 → gMem → Prop} (hP5 : ∀ (l1 : Int32) (l2 : Int32) (c : gMem), P5 l1 l2 c → Go l G mX10_digest (gbq G 0 0 84 k (qi (wM G o) Q)) 5 [(0, .ref (G.2.1 + 74)), (1, .int l1), (2, .int l2)] [] 84 k (wM G o c)) {l1 : Int32} {l2 : Int32} {c : gMem} (h : wX10_digest_p5_b P5 l1 l2 c Q) : Go l G mX10_digest (gbq G 0 0 84 k (qi (wM G o) Q)) 5 [(0, .ref (G.2.1 + 74)), (1, .int l1), (2, .int l2)] [] 84 k (wM G o c) := by
  unfold wX10_digest_p5_b at h
  refine go_iload_n (pc := 5) dX10_digest_5 rfl rfl ?_
  refine go_aload_n (pc := 6) dX10_digest_6 rfl rfl ?_
  refine go_get (pc := 7) fX10_9 rfl (gz_b (by decide)) yw0 rfl dX10_digest_7 ?_
  refine go_bipush (pc := 10) (v := 16) dX10_digest_10 (by decide) ?_
  refine gb_iald (pc := 12) (gz_b (by decide)) yw1 (gv_in (by decide)) dX10_digest_12 (fun v1 ev1 => ?_)
  have h := h v1 ev1
  refine go_icmp_ge (pc := 13) (tgt := 38) dX10_digest_13 (by decide) (fun q2 => ?_) (fun q2 => ?_)
  · have h := h.1 q2
    refine go_iconst (pc := 38) (v := 0) dX10_digest_38 (by decide) ?_
    refine go_istore_n (pc := 39) (lv' := [(2, .int 0), (0, .ref (G.2.1 + 74)), (1, .int l1)]) dX10_digest_39 rfl (by decide) rfl ?_
    refine go_lv [1, 2, 0] rfl ?_
    exact tX10_digest_p40 h
  · have h := h.2 q2
    refine go_bipush (pc := 16) (v := 31) dX10_digest_16 (by decide) ?_
    refine go_iload_n (pc := 18) dX10_digest_18 rfl rfl ?_
    refine go_imul (pc := 19) dX10_digest_19 ?_
    refine go_aload_n (pc := 20) dX10_digest_20 rfl rfl ?_
    refine go_get (pc := 21) fX10_9 rfl (gz_b (by decide)) yw0 rfl dX10_digest_21 ?_
    refine go_sipush (pc := 24) (v := 6100) dX10_digest_24 (by decide) ?_
    refine go_iload_n (pc := 27) dX10_digest_27 rfl rfl ?_
    refine go_iadd (pc := 28) dX10_digest_28 ?_
    obtain ⟨b4, h⟩ := h
    refine gb_iald (pc := 29) (gz_b (by decide)) yw1 b4 dX10_digest_29 (fun v3 ev3 => ?_)
    have h := h v3 ev3
    refine go_iadd (pc := 30) dX10_digest_30 ?_
    refine go_istore_n (pc := 31) (lv' := [(1, .int ((31 * l1) + v3)), (0, .ref (G.2.1 + 74)), (2, .int l2)]) dX10_digest_31 rfl (by decide) rfl ?_
    refine go_iinc (pc := 32) (v := l2 + 1) (lv' := [(2, .int (l2 + 1)), (1, .int ((31 * l1) + v3)), (0, .ref (G.2.1 + 74))]) dX10_digest_32 2 rfl (by first | rfl | decide) (by decide) rfl ?_
    refine go_goto (pc := 35) (tgt := 5) dX10_digest_35 (by decide) ?_
    refine go_lv [2, 1, 0] rfl ?_
    exact hP5 _ _ _ h
set_option maxRecDepth 100000 in
set_option maxHeartbeats 4000000 in
theorem tX10_digest_p5 {l : Launch} {G : gG} {k : Nat} {o : gMem} {Q : Int32 → gMem → Prop} {l1 : Int32} {l2 : Int32} {c : gMem} (h : wX10_digest_p5 l1 l2 c Q) : Go l G mX10_digest (gbq G 0 0 84 k (qi (wM G o) Q)) 5 [(0, .ref (G.2.1 + 74)), (1, .int l1), (2, .int l2)] [] 84 k (wM G o c) :=
  h (fun l1 l2 c => Go l G mX10_digest (gbq G 0 0 84 k (qi (wM G o) Q)) 5 [(0, .ref (G.2.1 + 74)), (1, .int l1), (2, .int l2)] [] 84 k (wM G o c)) (fun l1 l2 c hb => tX10_digest_p5_b (fun l1 l2 c hh => hh) hb)
def wX10_digest (c : gMem) (Q : Int32 → gMem → Prop) : Prop :=
  wX10_digest_p5 7 0 c Q
set_option maxRecDepth 100000 in
set_option maxHeartbeats 4000000 in
theorem tX10_digest {l : Launch} {G : gG} {k : Nat} {o : gMem} {Q : Int32 → gMem → Prop} {c : gMem} (h : wX10_digest c Q) : Cq l G mX10_digest 0 0 [.ref (G.2.1 + 74)] 84 k (wM G o c) (qi (wM G o) Q) := by
  refine Cq.of (by decide) (Nat.le_of_ble_eq_true rfl) ?_
  show Go l G mX10_digest (gbq G 0 0 84 k (qi (wM G o) Q)) 0 [(0, .ref (G.2.1 + 74))] [] 84 k (wM G o c)
  unfold wX10_digest at h
  refine go_bipush (pc := 0) (v := 7) dX10_digest_0 (by decide) ?_
  refine go_istore_n (pc := 2) (lv' := [(1, .int 7), (0, .ref (G.2.1 + 74))]) dX10_digest_2 rfl (by decide) rfl ?_
  refine go_iconst (pc := 3) (v := 0) dX10_digest_3 (by decide) ?_
  refine go_istore_n (pc := 4) (lv' := [(2, .int 0), (1, .int 7), (0, .ref (G.2.1 + 74))]) dX10_digest_4 rfl (by decide) rfl ?_
  refine go_lv [2, 1, 0] rfl ?_
  exact tX10_digest_p5 h
def wX10_rows (c : gMem) (Q : Int32 → gMem → Prop) : Prop :=
  ∀ v1, v1 = c 1 15 →
  Q v1 c
set_option maxRecDepth 100000 in
set_option maxHeartbeats 4000000 in
theorem tX10_rows {l : Launch} {G : gG} {k : Nat} {o : gMem} {Q : Int32 → gMem → Prop} {c : gMem} (h : wX10_rows c Q) : Cq l G mX10_rows 0 0 [.ref (G.2.1 + 74)] 84 k (wM G o c) (qi (wM G o) Q) := by
  refine Cq.of (by decide) (Nat.le_of_ble_eq_true rfl) ?_
  show Go l G mX10_rows (gbq G 0 0 84 k (qi (wM G o) Q)) 0 [(0, .ref (G.2.1 + 74))] [] 84 k (wM G o c)
  unfold wX10_rows at h
  refine go_aload_n (pc := 0) dX10_rows_0 rfl rfl ?_
  refine go_get (pc := 1) fX10_9 rfl (gz_b (by decide)) yw0 rfl dX10_rows_1 ?_
  refine go_bipush (pc := 4) (v := 15) dX10_rows_4 (by decide) ?_
  refine gb_iald (pc := 6) (gz_b (by decide)) yw1 (gv_in (by decide)) dX10_rows_6 (fun v1 ev1 => ?_)
  have h := h v1 ev1
  exact gq_iret (pc := 7) (F := wM G o) rfl dX10_rows_7 h
def wX10_row (l1 : Int32) (c : gMem) (Q : Int32 → gMem → Prop) : Prop :=
  ∀ v1, v1 = c 1 15 →
  wX10_in l1.toInt64 0 ((v1 - 1).toInt64) c (fun r3 c2 =>
  ((r3 = 0 →
    Q ((-101)) c2) ∧
   (¬ r3 = 0 →
    vp_in (10100 + l1) 26100 ∧
    ∀ v5, v5 = c2 1 (10100 + l1).toNatClampNeg →
    Q v5 c2)))
set_option maxRecDepth 100000 in
set_option maxHeartbeats 4000000 in
theorem tX10_row {l : Launch} {G : gG} {k : Nat} {o : gMem} {Q : Int32 → gMem → Prop} {l1 : Int32} {c : gMem} (h : wX10_row l1 c Q) : Cq l G mX10_row 1 25 [.ref (G.2.1 + 74), .int l1] 84 k (wM G o c) (qi (wM G o) Q) := by
  refine Cq.of (by decide) (Nat.le_of_ble_eq_true rfl) ?_
  show Go l G mX10_row (gbq G 1 25 84 k (qi (wM G o) Q)) 0 [(0, .ref (G.2.1 + 74)), (1, .int l1)] [] 84 k (wM G o c)
  unfold wX10_row at h
  refine go_iload_n (pc := 0) dX10_row_0 rfl rfl ?_
  refine go_i2l (pc := 1) dX10_row_1 ?_
  refine go_lconst (pc := 2) (v := 0) dX10_row_2 (by decide) ?_
  refine go_aload_n (pc := 3) dX10_row_3 rfl rfl ?_
  refine go_get (pc := 4) fX10_9 rfl (gz_b (by decide)) yw0 rfl dX10_row_4 ?_
  refine go_bipush (pc := 7) (v := 15) dX10_row_7 (by decide) ?_
  refine gb_iald (pc := 9) (gz_b (by decide)) yw1 (gv_in (by decide)) dX10_row_9 (fun v1 ev1 => ?_)
  have h := h v1 ev1
  refine go_iconst (pc := 10) (v := 1) dX10_row_10 (by decide) ?_
  refine go_isub (pc := 11) dX10_row_11 ?_
  refine go_i2l (pc := 12) dX10_row_12 ?_
  refine gq_callS_i (pc := 13) (F := wM G o) sX10_63 rfl (tX10_in h) rfl rfl (Nat.le_of_ble_eq_true rfl) ⟨Nat.le_of_ble_eq_true rfl, Nat.le_of_ble_eq_true rfl, Nat.le_add_right _ _, Nat.le_add_right _ _⟩ dX10_row_13 (fun r3 c2 h => ?_)
  refine go_if_eq (pc := 16) (tgt := 32) dX10_row_16 (by decide) (fun q4 => ?_) (fun q4 => ?_)
  · have h := h.1 q4
    refine go_bipush (pc := 32) (v := (-101)) dX10_row_32 (by decide) ?_
    exact gq_iret (pc := 34) (F := wM G o) rfl dX10_row_34 h
  · have h := h.2 q4
    refine go_aload_n (pc := 19) dX10_row_19 rfl rfl ?_
    refine go_get (pc := 20) fX10_9 rfl (gz_b (by decide)) yw0 rfl dX10_row_20 ?_
    refine go_sipush (pc := 23) (v := 10100) dX10_row_23 (by decide) ?_
    refine go_iload_n (pc := 26) dX10_row_26 rfl rfl ?_
    refine go_iadd (pc := 27) dX10_row_27 ?_
    obtain ⟨b6, h⟩ := h
    refine gb_iald (pc := 28) (gz_b (by decide)) yw1 b6 dX10_row_28 (fun v5 ev5 => ?_)
    have h := h v5 ev5
    refine go_goto (pc := 29) (tgt := 34) dX10_row_29 (by decide) ?_
    exact gq_iret (pc := 34) (F := wM G o) rfl dX10_row_34 h
def wX10_forge (l1 : Int32) (l2 : Int32) (c : gMem) (Q : Int32 → gMem → Prop) : Prop :=
  ∀ v1, v1 = c 1 15 →
  wX10_in l1.toInt64 0 ((v1 - 1).toInt64) c (fun r3 c2 =>
  ((r3 = 0 →
    Q ((-101)) c2) ∧
   (¬ r3 = 0 →
    vp_in (10100 + l1) 26100 ∧
    ∀ v5, v5 = c2 1 (10100 + l1).toNatClampNeg →
    vp_in (10100 + l1) 26100 ∧
    ∀ c7, c7 = mp c2 1 (10100 + l1).toNatClampNeg l2 →
    Q v5 c7)))
set_option maxRecDepth 100000 in
set_option maxHeartbeats 4000000 in
theorem tX10_forge {l : Launch} {G : gG} {k : Nat} {o : gMem} {Q : Int32 → gMem → Prop} {l1 : Int32} {l2 : Int32} {c : gMem} (h : wX10_forge l1 l2 c Q) : Cq l G mX10_forge 1 25 [.ref (G.2.1 + 74), .int l1, .int l2] 84 k (wM G o c) (qi (wM G o) Q) := by
  refine Cq.of (by decide) (Nat.le_of_ble_eq_true rfl) ?_
  show Go l G mX10_forge (gbq G 1 25 84 k (qi (wM G o) Q)) 0 [(0, .ref (G.2.1 + 74)), (1, .int l1), (2, .int l2)] [] 84 k (wM G o c)
  unfold wX10_forge at h
  refine go_iload_n (pc := 0) dX10_forge_0 rfl rfl ?_
  refine go_i2l (pc := 1) dX10_forge_1 ?_
  refine go_lconst (pc := 2) (v := 0) dX10_forge_2 (by decide) ?_
  refine go_aload_n (pc := 3) dX10_forge_3 rfl rfl ?_
  refine go_get (pc := 4) fX10_9 rfl (gz_b (by decide)) yw0 rfl dX10_forge_4 ?_
  refine go_bipush (pc := 7) (v := 15) dX10_forge_7 (by decide) ?_
  refine gb_iald (pc := 9) (gz_b (by decide)) yw1 (gv_in (by decide)) dX10_forge_9 (fun v1 ev1 => ?_)
  have h := h v1 ev1
  refine go_iconst (pc := 10) (v := 1) dX10_forge_10 (by decide) ?_
  refine go_isub (pc := 11) dX10_forge_11 ?_
  refine go_i2l (pc := 12) dX10_forge_12 ?_
  refine gq_callS_i (pc := 13) (F := wM G o) sX10_63 rfl (tX10_in h) rfl rfl (Nat.le_of_ble_eq_true rfl) ⟨Nat.le_of_ble_eq_true rfl, Nat.le_of_ble_eq_true rfl, Nat.le_add_right _ _, Nat.le_add_right _ _⟩ dX10_forge_13 (fun r3 c2 h => ?_)
  refine go_if_ne (pc := 16) (tgt := 22) dX10_forge_16 (by decide) (fun q4 => ?_) (fun q4 => ?_)
  · have h := h.2 q4
    refine go_aload_n (pc := 22) dX10_forge_22 rfl rfl ?_
    refine go_get (pc := 23) fX10_9 rfl (gz_b (by decide)) yw0 rfl dX10_forge_23 ?_
    refine go_sipush (pc := 26) (v := 10100) dX10_forge_26 (by decide) ?_
    refine go_iload_n (pc := 29) dX10_forge_29 rfl rfl ?_
    refine go_iadd (pc := 30) dX10_forge_30 ?_
    obtain ⟨b6, h⟩ := h
    refine gb_iald (pc := 31) (gz_b (by decide)) yw1 b6 dX10_forge_31 (fun v5 ev5 => ?_)
    have h := h v5 ev5
    refine go_istore_n (pc := 32) (lv' := [(3, .int v5), (0, .ref (G.2.1 + 74)), (1, .int l1), (2, .int l2)]) dX10_forge_32 rfl (by decide) rfl ?_
    refine go_aload_n (pc := 33) dX10_forge_33 rfl rfl ?_
    refine go_get (pc := 34) fX10_9 rfl (gz_b (by decide)) yw0 rfl dX10_forge_34 ?_
    refine go_sipush (pc := 37) (v := 10100) dX10_forge_37 (by decide) ?_
    refine go_iload_n (pc := 40) dX10_forge_40 rfl rfl ?_
    refine go_iadd (pc := 41) dX10_forge_41 ?_
    refine go_iload_n (pc := 42) dX10_forge_42 rfl rfl ?_
    obtain ⟨b8, h⟩ := h
    refine gb_iast (pc := 43) (F := wM G o) (gz_b (by decide)) yw1 b8 ya1 dX10_forge_43 (fun c7 ec7 => ?_)
    have h := h c7 ec7
    refine go_iload_n (pc := 44) dX10_forge_44 rfl rfl ?_
    exact gq_iret (pc := 45) (F := wM G o) rfl dX10_forge_45 h
  · have h := h.1 q4
    refine go_bipush (pc := 19) (v := (-101)) dX10_forge_19 (by decide) ?_
    exact gq_iret (pc := 21) (F := wM G o) rfl dX10_forge_21 h
def wX10_plain_p44 (P4 : Int32 → Int32 → gMem → Prop) (l2 : Int32) (s0 : Int32) (s1 : Int32) (c : gMem) (Q : Int32 → gMem → Prop) : Prop :=
  vp_in (18100 + l2) 26100 ∧
  ∀ v1, v1 = c 1 (18100 + l2).toNatClampNeg →
  vp_in (10100 + l2) 26100 ∧
  ∀ c3, c3 = mp c 1 (10100 + l2).toNatClampNeg v1 →
  P4 (s1 + s0) (l2 + 1) c3
set_option maxRecDepth 100000 in
set_option maxHeartbeats 4000000 in
theorem tX10_plain_p44 {l : Launch} {G : gG} {k : Nat} {o : gMem} {Q : Int32 → gMem → Prop} {P4 : Int32 → Int32 → gMem → Prop} (hP4 : ∀ (l1 : Int32) (l2 : Int32) (c : gMem), P4 l1 l2 c → Go l G mX10_plain (gbq G 0 0 84 k (qi (wM G o) Q)) 4 [(0, .ref (G.2.1 + 74)), (1, .int l1), (2, .int l2)] [] 84 k (wM G o c)) {l2 : Int32} {s0 : Int32} {s1 : Int32} {c : gMem} (h : wX10_plain_p44 P4 l2 s0 s1 c Q) : Go l G mX10_plain (gbq G 0 0 84 k (qi (wM G o) Q)) 44 [(0, .ref (G.2.1 + 74)), (2, .int l2)] [.int s0, .int s1] 84 k (wM G o c) := by
  unfold wX10_plain_p44 at h
  refine go_iadd (pc := 44) dX10_plain_44 ?_
  refine go_istore_n (pc := 45) (lv' := [(1, .int (s1 + s0)), (0, .ref (G.2.1 + 74)), (2, .int l2)]) dX10_plain_45 rfl (by decide) rfl ?_
  refine go_aload_n (pc := 46) dX10_plain_46 rfl rfl ?_
  refine go_get (pc := 47) fX10_9 rfl (gz_b (by decide)) yw0 rfl dX10_plain_47 ?_
  refine go_sipush (pc := 50) (v := 10100) dX10_plain_50 (by decide) ?_
  refine go_iload_n (pc := 53) dX10_plain_53 rfl rfl ?_
  refine go_iadd (pc := 54) dX10_plain_54 ?_
  refine go_aload_n (pc := 55) dX10_plain_55 rfl rfl ?_
  refine go_get (pc := 56) fX10_9 rfl (gz_b (by decide)) yw0 rfl dX10_plain_56 ?_
  refine go_sipush (pc := 59) (v := 18100) dX10_plain_59 (by decide) ?_
  refine go_iload_n (pc := 62) dX10_plain_62 rfl rfl ?_
  refine go_iadd (pc := 63) dX10_plain_63 ?_
  obtain ⟨b2, h⟩ := h
  refine gb_iald (pc := 64) (gz_b (by decide)) yw1 b2 dX10_plain_64 (fun v1 ev1 => ?_)
  have h := h v1 ev1
  obtain ⟨b4, h⟩ := h
  refine gb_iast (pc := 65) (F := wM G o) (gz_b (by decide)) yw1 b4 ya1 dX10_plain_65 (fun c3 ec3 => ?_)
  have h := h c3 ec3
  refine go_iinc (pc := 66) (v := l2 + 1) (lv' := [(2, .int (l2 + 1)), (1, .int (s1 + s0)), (0, .ref (G.2.1 + 74))]) dX10_plain_66 2 rfl (by first | rfl | decide) (by decide) rfl ?_
  refine go_goto (pc := 69) (tgt := 4) dX10_plain_69 (by decide) ?_
  refine go_lv [2, 1, 0] rfl ?_
  exact hP4 _ _ _ h
def wX10_plain_p4_b (P4 : Int32 → Int32 → gMem → Prop) (l1 : Int32) (l2 : Int32) (c : gMem) (Q : Int32 → gMem → Prop) : Prop :=
  ∀ v1, v1 = c 1 15 →
  ((v1 ≤ l2 →
    Q l1 c) ∧
   (¬ v1 ≤ l2 →
    vp_in (10100 + l2) 26100 ∧
    ∀ v3, v3 = c 1 (10100 + l2).toNatClampNeg →
    vp_in (18100 + l2) 26100 ∧
    ∀ v5, v5 = c 1 (18100 + l2).toNatClampNeg →
    ((v3 = v5 →
      wX10_plain_p44 P4 l2 0 l1 c Q) ∧
     (¬ v3 = v5 →
      wX10_plain_p44 P4 l2 1 l1 c Q))))
def wX10_plain_p4 (l1 : Int32) (l2 : Int32) (c : gMem) (Q : Int32 → gMem → Prop) : Prop :=
  ∀ P4 : Int32 → Int32 → gMem → Prop, (∀ (l1 : Int32) (l2 : Int32) (c : gMem), wX10_plain_p4_b P4 l1 l2 c Q → P4 l1 l2 c) → P4 l1 l2 c
set_option maxRecDepth 100000 in
set_option maxHeartbeats 4000000 in
theorem tX10_plain_p4_b {l : Launch} {G : gG} {k : Nat} {o : gMem} {Q : Int32 → gMem → Prop} {P4 : Int32 → Int32 → gMem → Prop} (hP4 : ∀ (l1 : Int32) (l2 : Int32) (c : gMem), P4 l1 l2 c → Go l G mX10_plain (gbq G 0 0 84 k (qi (wM G o) Q)) 4 [(0, .ref (G.2.1 + 74)), (1, .int l1), (2, .int l2)] [] 84 k (wM G o c)) {l1 : Int32} {l2 : Int32} {c : gMem} (h : wX10_plain_p4_b P4 l1 l2 c Q) : Go l G mX10_plain (gbq G 0 0 84 k (qi (wM G o) Q)) 4 [(0, .ref (G.2.1 + 74)), (1, .int l1), (2, .int l2)] [] 84 k (wM G o c) := by
  unfold wX10_plain_p4_b at h
  refine go_iload_n (pc := 4) dX10_plain_4 rfl rfl ?_
  refine go_aload_n (pc := 5) dX10_plain_5 rfl rfl ?_
  refine go_get (pc := 6) fX10_9 rfl (gz_b (by decide)) yw0 rfl dX10_plain_6 ?_
  refine go_bipush (pc := 9) (v := 15) dX10_plain_9 (by decide) ?_
  refine gb_iald (pc := 11) (gz_b (by decide)) yw1 (gv_in (by decide)) dX10_plain_11 (fun v1 ev1 => ?_)
  have h := h v1 ev1
  refine go_icmp_ge (pc := 12) (tgt := 72) dX10_plain_12 (by decide) (fun q2 => ?_) (fun q2 => ?_)
  · have h := h.1 q2
    refine go_iload_n (pc := 72) dX10_plain_72 rfl rfl ?_
    exact gq_iret (pc := 73) (F := wM G o) rfl dX10_plain_73 h
  · have h := h.2 q2
    refine go_iload_n (pc := 15) dX10_plain_15 rfl rfl ?_
    refine go_aload_n (pc := 16) dX10_plain_16 rfl rfl ?_
    refine go_get (pc := 17) fX10_9 rfl (gz_b (by decide)) yw0 rfl dX10_plain_17 ?_
    refine go_sipush (pc := 20) (v := 10100) dX10_plain_20 (by decide) ?_
    refine go_iload_n (pc := 23) dX10_plain_23 rfl rfl ?_
    refine go_iadd (pc := 24) dX10_plain_24 ?_
    obtain ⟨b4, h⟩ := h
    refine gb_iald (pc := 25) (gz_b (by decide)) yw1 b4 dX10_plain_25 (fun v3 ev3 => ?_)
    have h := h v3 ev3
    refine go_aload_n (pc := 26) dX10_plain_26 rfl rfl ?_
    refine go_get (pc := 27) fX10_9 rfl (gz_b (by decide)) yw0 rfl dX10_plain_27 ?_
    refine go_sipush (pc := 30) (v := 18100) dX10_plain_30 (by decide) ?_
    refine go_iload_n (pc := 33) dX10_plain_33 rfl rfl ?_
    refine go_iadd (pc := 34) dX10_plain_34 ?_
    obtain ⟨b6, h⟩ := h
    refine gb_iald (pc := 35) (gz_b (by decide)) yw1 b6 dX10_plain_35 (fun v5 ev5 => ?_)
    have h := h v5 ev5
    refine go_icmp_eq (pc := 36) (tgt := 43) dX10_plain_36 (by decide) (fun q7 => ?_) (fun q7 => ?_)
    · have h := h.1 q7
      refine go_iconst (pc := 43) (v := 0) dX10_plain_43 (by decide) ?_
      refine go_lv [0, 2] rfl ?_
      exact tX10_plain_p44 hP4 h
    · have h := h.2 q7
      refine go_iconst (pc := 39) (v := 1) dX10_plain_39 (by decide) ?_
      refine go_goto (pc := 40) (tgt := 44) dX10_plain_40 (by decide) ?_
      refine go_lv [0, 2] rfl ?_
      exact tX10_plain_p44 hP4 h
set_option maxRecDepth 100000 in
set_option maxHeartbeats 4000000 in
theorem tX10_plain_p4 {l : Launch} {G : gG} {k : Nat} {o : gMem} {Q : Int32 → gMem → Prop} {l1 : Int32} {l2 : Int32} {c : gMem} (h : wX10_plain_p4 l1 l2 c Q) : Go l G mX10_plain (gbq G 0 0 84 k (qi (wM G o) Q)) 4 [(0, .ref (G.2.1 + 74)), (1, .int l1), (2, .int l2)] [] 84 k (wM G o c) :=
  h (fun l1 l2 c => Go l G mX10_plain (gbq G 0 0 84 k (qi (wM G o) Q)) 4 [(0, .ref (G.2.1 + 74)), (1, .int l1), (2, .int l2)] [] 84 k (wM G o c)) (fun l1 l2 c hb => tX10_plain_p4_b (fun l1 l2 c hh => hh) hb)
def wX10_plain (c : gMem) (Q : Int32 → gMem → Prop) : Prop :=
  wX10_plain_p4 0 0 c Q
set_option maxRecDepth 100000 in
set_option maxHeartbeats 4000000 in
theorem tX10_plain {l : Launch} {G : gG} {k : Nat} {o : gMem} {Q : Int32 → gMem → Prop} {c : gMem} (h : wX10_plain c Q) : Cq l G mX10_plain 0 0 [.ref (G.2.1 + 74)] 84 k (wM G o c) (qi (wM G o) Q) := by
  refine Cq.of (by decide) (Nat.le_of_ble_eq_true rfl) ?_
  show Go l G mX10_plain (gbq G 0 0 84 k (qi (wM G o) Q)) 0 [(0, .ref (G.2.1 + 74))] [] 84 k (wM G o c)
  unfold wX10_plain at h
  refine go_iconst (pc := 0) (v := 0) dX10_plain_0 (by decide) ?_
  refine go_istore_n (pc := 1) (lv' := [(1, .int 0), (0, .ref (G.2.1 + 74))]) dX10_plain_1 rfl (by decide) rfl ?_
  refine go_iconst (pc := 2) (v := 0) dX10_plain_2 (by decide) ?_
  refine go_istore_n (pc := 3) (lv' := [(2, .int 0), (1, .int 0), (0, .ref (G.2.1 + 74))]) dX10_plain_3 rfl (by decide) rfl ?_
  refine go_lv [2, 1, 0] rfl ?_
  exact tX10_plain_p4 h
def wX10_paper (l1 : Int32) (c : gMem) (Q : Int32 → gMem → Prop) : Prop :=
  vp_in (10100 + l1) 26100 ∧
  ∀ v1, v1 = c 1 (10100 + l1).toNatClampNeg →
  Q v1 c
set_option maxRecDepth 100000 in
set_option maxHeartbeats 4000000 in
theorem tX10_paper {l : Launch} {G : gG} {k : Nat} {o : gMem} {Q : Int32 → gMem → Prop} {l1 : Int32} {c : gMem} (h : wX10_paper l1 c Q) : Cq l G mX10_paper 0 0 [.ref (G.2.1 + 74), .int l1] 84 k (wM G o c) (qi (wM G o) Q) := by
  refine Cq.of (by decide) (Nat.le_of_ble_eq_true rfl) ?_
  show Go l G mX10_paper (gbq G 0 0 84 k (qi (wM G o) Q)) 0 [(0, .ref (G.2.1 + 74)), (1, .int l1)] [] 84 k (wM G o c)
  unfold wX10_paper at h
  refine go_aload_n (pc := 0) dX10_paper_0 rfl rfl ?_
  refine go_get (pc := 1) fX10_9 rfl (gz_b (by decide)) yw0 rfl dX10_paper_1 ?_
  refine go_sipush (pc := 4) (v := 10100) dX10_paper_4 (by decide) ?_
  refine go_iload_n (pc := 7) dX10_paper_7 rfl rfl ?_
  refine go_iadd (pc := 8) dX10_paper_8 ?_
  obtain ⟨b2, h⟩ := h
  refine gb_iald (pc := 9) (gz_b (by decide)) yw1 b2 dX10_paper_9 (fun v1 ev1 => ?_)
  have h := h v1 ev1
  exact gq_iret (pc := 10) (F := wM G o) rfl dX10_paper_10 h
def wX10_formWrong_p33_b (P33 : Int32 → Int32 → Int32 → gMem → Prop) (l1 : Int32) (l2 : Int32) (l3 : Int32) (c : gMem) (Q : Int32 → gMem → Prop) : Prop :=
  wX10_paper 24 c (fun r2 c1 =>
  ((r2 ≤ l3 →
    ((l2 < l1 →
      ∀ c5, c5 = mp c1 0 14 l2 →
      wX10_paper l2 c5 (fun r7 c6 =>
      wX10_in r7.toInt64 0 500 c6 (fun r9 c8 =>
      ((r9 = 0 →
        Q l2 c8) ∧
       (¬ r9 = 0 →
        wX10_paper l2 c8 (fun r12 c11 =>
        (((l2 + 2) + r12 = l1 →
          Q ((-1)) c11) ∧
         (¬ (l2 + 2) + r12 = l1 →
          Q l2 c11)))))))) ∧
     (¬ l2 < l1 →
      Q l1 c1))) ∧
   (¬ r2 ≤ l3 →
    ((l2 + 5 < l1 →
      wX10_paper (l2 + 5) c1 (fun r16 c15 =>
      wX10_in r16.toInt64 0 300 c15 (fun r18 c17 =>
      ((r18 = 0 →
        Q (l2 + 5) c17) ∧
       (¬ r18 = 0 →
        vp_in l3 501 ∧
        ∀ c20, c20 = mp c17 8 l3.toNatClampNeg l2 →
        wX10_paper (l2 + 5) c20 (fun r23 c22 =>
        P33 l1 (l2 + (6 + r23)) (l3 + 1) c22)))))) ∧
     (¬ l2 + 5 < l1 →
      Q l1 c1)))))
def wX10_formWrong_p33 (l1 : Int32) (l2 : Int32) (l3 : Int32) (c : gMem) (Q : Int32 → gMem → Prop) : Prop :=
  ∀ P33 : Int32 → Int32 → Int32 → gMem → Prop, (∀ (l1 : Int32) (l2 : Int32) (l3 : Int32) (c : gMem), wX10_formWrong_p33_b P33 l1 l2 l3 c Q → P33 l1 l2 l3 c) → P33 l1 l2 l3 c
set_option maxRecDepth 100000 in
set_option maxHeartbeats 4000000 in
theorem tX10_formWrong_p33_b {l : Launch} {G : gG} {k : Nat} {o : gMem} {Q : Int32 → gMem → Prop} {P33 : Int32 → Int32 → Int32 → gMem → Prop} (hP33 : ∀ (l1 : Int32) (l2 : Int32) (l3 : Int32) (c : gMem), P33 l1 l2 l3 c → Go l G mX10_formWrong (gbq G 1 25 84 k (qi (wM G o) Q)) 33 [(0, .ref (G.2.1 + 74)), (1, .int l1), (2, .int l2), (3, .int l3)] [] 84 k (wM G o c)) {l1 : Int32} {l2 : Int32} {l3 : Int32} {c : gMem} (h : wX10_formWrong_p33_b P33 l1 l2 l3 c Q) : Go l G mX10_formWrong (gbq G 1 25 84 k (qi (wM G o) Q)) 33 [(0, .ref (G.2.1 + 74)), (1, .int l1), (2, .int l2), (3, .int l3)] [] 84 k (wM G o c) := by
  unfold wX10_formWrong_p33_b at h
  refine go_iload_n (pc := 33) dX10_formWrong_33 rfl rfl ?_
  refine go_aload_n (pc := 34) dX10_formWrong_34 rfl rfl ?_
  refine go_bipush (pc := 35) (v := 24) dX10_formWrong_35 (by decide) ?_
  refine gq_callV_i (pc := 37) (F := wM G o) vX10_237 rfl (tX10_paper h) rfl rfl (gz_b (by decide)) yw0 rfl (Nat.le_of_ble_eq_true rfl) ⟨Nat.le_of_ble_eq_true rfl, Nat.le_of_ble_eq_true rfl, Nat.le_add_right _ _, Nat.le_add_right _ _⟩ dX10_formWrong_37 (fun r2 c1 h => ?_)
  refine go_icmp_ge (pc := 40) (tgt := 100) dX10_formWrong_40 (by decide) (fun q3 => ?_) (fun q3 => ?_)
  · have h := h.1 q3
    refine go_iload_n (pc := 100) dX10_formWrong_100 rfl rfl ?_
    refine go_iload_n (pc := 101) dX10_formWrong_101 rfl rfl ?_
    refine go_icmp_lt (pc := 102) (tgt := 107) dX10_formWrong_102 (by decide) (fun q4 => ?_) (fun q4 => ?_)
    · have h := h.1 q4
      refine go_aload_n (pc := 107) dX10_formWrong_107 rfl rfl ?_
      refine go_iload_n (pc := 108) dX10_formWrong_108 rfl rfl ?_
      refine gb_put (pc := 109) (F := wM G o) fX10_244 rfl (gz_b (by decide)) yw0 (Nat.le_of_ble_eq_true rfl) rfl rfl yp0_14 dX10_formWrong_109 (fun c5 ec5 => ?_)
      have h := h c5 ec5
      refine go_aload_n (pc := 112) dX10_formWrong_112 rfl rfl ?_
      refine go_iload_n (pc := 113) dX10_formWrong_113 rfl rfl ?_
      refine gq_callV_i (pc := 114) (F := wM G o) vX10_237 rfl (tX10_paper h) rfl rfl (gz_b (by decide)) yw0 rfl (Nat.le_of_ble_eq_true rfl) ⟨Nat.le_of_ble_eq_true rfl, Nat.le_of_ble_eq_true rfl, Nat.le_add_right _ _, Nat.le_add_right _ _⟩ dX10_formWrong_114 (fun r7 c6 h => ?_)
      refine go_i2l (pc := 117) dX10_formWrong_117 ?_
      refine go_lconst (pc := 118) (v := 0) dX10_formWrong_118 (by decide) ?_
      refine go_ldc2 (pc := 119) rfl qX10_240 dX10_formWrong_119 ?_
      refine gq_callS_i (pc := 122) (F := wM G o) sX10_63 rfl (tX10_in h) rfl rfl (Nat.le_of_ble_eq_true rfl) ⟨Nat.le_of_ble_eq_true rfl, Nat.le_of_ble_eq_true rfl, Nat.le_add_right _ _, Nat.le_add_right _ _⟩ dX10_formWrong_122 (fun r9 c8 h => ?_)
      refine go_if_eq (pc := 125) (tgt := 145) dX10_formWrong_125 (by decide) (fun q10 => ?_) (fun q10 => ?_)
      · have h := h.1 q10
        refine go_iload_n (pc := 145) dX10_formWrong_145 rfl rfl ?_
        exact gq_iret (pc := 146) (F := wM G o) rfl dX10_formWrong_146 h
      · have h := h.2 q10
        refine go_iload_n (pc := 128) dX10_formWrong_128 rfl rfl ?_
        refine go_iconst (pc := 129) (v := 2) dX10_formWrong_129 (by decide) ?_
        refine go_iadd (pc := 130) dX10_formWrong_130 ?_
        refine go_aload_n (pc := 131) dX10_formWrong_131 rfl rfl ?_
        refine go_iload_n (pc := 132) dX10_formWrong_132 rfl rfl ?_
        refine gq_callV_i (pc := 133) (F := wM G o) vX10_237 rfl (tX10_paper h) rfl rfl (gz_b (by decide)) yw0 rfl (Nat.le_of_ble_eq_true rfl) ⟨Nat.le_of_ble_eq_true rfl, Nat.le_of_ble_eq_true rfl, Nat.le_add_right _ _, Nat.le_add_right _ _⟩ dX10_formWrong_133 (fun r12 c11 h => ?_)
        refine go_iadd (pc := 136) dX10_formWrong_136 ?_
        refine go_iload_n (pc := 137) dX10_formWrong_137 rfl rfl ?_
        refine go_icmp_ne (pc := 138) (tgt := 145) dX10_formWrong_138 (by decide) (fun q13 => ?_) (fun q13 => ?_)
        · have h := h.2 q13
          refine go_iload_n (pc := 145) dX10_formWrong_145 rfl rfl ?_
          exact gq_iret (pc := 146) (F := wM G o) rfl dX10_formWrong_146 h
        · have h := h.1 q13
          refine go_iconst (pc := 141) (v := (-1)) dX10_formWrong_141 (by decide) ?_
          refine go_goto (pc := 142) (tgt := 146) dX10_formWrong_142 (by decide) ?_
          exact gq_iret (pc := 146) (F := wM G o) rfl dX10_formWrong_146 h
    · have h := h.2 q4
      refine go_iload_n (pc := 105) dX10_formWrong_105 rfl rfl ?_
      exact gq_iret (pc := 106) (F := wM G o) rfl dX10_formWrong_106 h
  · have h := h.2 q3
    refine go_iload_n (pc := 43) dX10_formWrong_43 rfl rfl ?_
    refine go_iconst (pc := 44) (v := 5) dX10_formWrong_44 (by decide) ?_
    refine go_iadd (pc := 45) dX10_formWrong_45 ?_
    refine go_iload_n (pc := 46) dX10_formWrong_46 rfl rfl ?_
    refine go_icmp_lt (pc := 47) (tgt := 52) dX10_formWrong_47 (by decide) (fun q14 => ?_) (fun q14 => ?_)
    · have h := h.1 q14
      refine go_aload_n (pc := 52) dX10_formWrong_52 rfl rfl ?_
      refine go_iload_n (pc := 53) dX10_formWrong_53 rfl rfl ?_
      refine go_iconst (pc := 54) (v := 5) dX10_formWrong_54 (by decide) ?_
      refine go_iadd (pc := 55) dX10_formWrong_55 ?_
      refine gq_callV_i (pc := 56) (F := wM G o) vX10_237 rfl (tX10_paper h) rfl rfl (gz_b (by decide)) yw0 rfl (Nat.le_of_ble_eq_true rfl) ⟨Nat.le_of_ble_eq_true rfl, Nat.le_of_ble_eq_true rfl, Nat.le_add_right _ _, Nat.le_add_right _ _⟩ dX10_formWrong_56 (fun r16 c15 h => ?_)
      refine go_i2l (pc := 59) dX10_formWrong_59 ?_
      refine go_lconst (pc := 60) (v := 0) dX10_formWrong_60 (by decide) ?_
      refine go_ldc2 (pc := 61) rfl qX10_242 dX10_formWrong_61 ?_
      refine gq_callS_i (pc := 64) (F := wM G o) sX10_63 rfl (tX10_in h) rfl rfl (Nat.le_of_ble_eq_true rfl) ⟨Nat.le_of_ble_eq_true rfl, Nat.le_of_ble_eq_true rfl, Nat.le_add_right _ _, Nat.le_add_right _ _⟩ dX10_formWrong_64 (fun r18 c17 h => ?_)
      refine go_if_ne (pc := 67) (tgt := 74) dX10_formWrong_67 (by decide) (fun q19 => ?_) (fun q19 => ?_)
      · have h := h.2 q19
        refine go_aload_n (pc := 74) dX10_formWrong_74 rfl rfl ?_
        refine go_get (pc := 75) fX10_32 rfl (gz_b (by decide)) yw0 rfl dX10_formWrong_75 ?_
        refine go_iload_n (pc := 78) dX10_formWrong_78 rfl rfl ?_
        refine go_iload_n (pc := 79) dX10_formWrong_79 rfl rfl ?_
        obtain ⟨b21, h⟩ := h
        refine gb_iast (pc := 80) (F := wM G o) (gz_b (by decide)) yw8 b21 ya8 dX10_formWrong_80 (fun c20 ec20 => ?_)
        have h := h c20 ec20
        refine go_iload_n (pc := 81) dX10_formWrong_81 rfl rfl ?_
        refine go_bipush (pc := 82) (v := 6) dX10_formWrong_82 (by decide) ?_
        refine go_aload_n (pc := 84) dX10_formWrong_84 rfl rfl ?_
        refine go_iload_n (pc := 85) dX10_formWrong_85 rfl rfl ?_
        refine go_iconst (pc := 86) (v := 5) dX10_formWrong_86 (by decide) ?_
        refine go_iadd (pc := 87) dX10_formWrong_87 ?_
        refine gq_callV_i (pc := 88) (F := wM G o) vX10_237 rfl (tX10_paper h) rfl rfl (gz_b (by decide)) yw0 rfl (Nat.le_of_ble_eq_true rfl) ⟨Nat.le_of_ble_eq_true rfl, Nat.le_of_ble_eq_true rfl, Nat.le_add_right _ _, Nat.le_add_right _ _⟩ dX10_formWrong_88 (fun r23 c22 h => ?_)
        refine go_iadd (pc := 91) dX10_formWrong_91 ?_
        refine go_iadd (pc := 92) dX10_formWrong_92 ?_
        refine go_istore_n (pc := 93) (lv' := [(2, .int (l2 + (6 + r23))), (0, .ref (G.2.1 + 74)), (1, .int l1), (3, .int l3)]) dX10_formWrong_93 rfl (by decide) rfl ?_
        refine go_iinc (pc := 94) (v := l3 + 1) (lv' := [(3, .int (l3 + 1)), (2, .int (l2 + (6 + r23))), (0, .ref (G.2.1 + 74)), (1, .int l1)]) dX10_formWrong_94 3 rfl (by first | rfl | decide) (by decide) rfl ?_
        refine go_goto (pc := 97) (tgt := 33) dX10_formWrong_97 (by decide) ?_
        refine go_lv [2, 3, 1, 0] rfl ?_
        exact hP33 _ _ _ _ h
      · have h := h.1 q19
        refine go_iload_n (pc := 70) dX10_formWrong_70 rfl rfl ?_
        refine go_iconst (pc := 71) (v := 5) dX10_formWrong_71 (by decide) ?_
        refine go_iadd (pc := 72) dX10_formWrong_72 ?_
        exact gq_iret (pc := 73) (F := wM G o) rfl dX10_formWrong_73 h
    · have h := h.2 q14
      refine go_iload_n (pc := 50) dX10_formWrong_50 rfl rfl ?_
      exact gq_iret (pc := 51) (F := wM G o) rfl dX10_formWrong_51 h
set_option maxRecDepth 100000 in
set_option maxHeartbeats 4000000 in
theorem tX10_formWrong_p33 {l : Launch} {G : gG} {k : Nat} {o : gMem} {Q : Int32 → gMem → Prop} {l1 : Int32} {l2 : Int32} {l3 : Int32} {c : gMem} (h : wX10_formWrong_p33 l1 l2 l3 c Q) : Go l G mX10_formWrong (gbq G 1 25 84 k (qi (wM G o) Q)) 33 [(0, .ref (G.2.1 + 74)), (1, .int l1), (2, .int l2), (3, .int l3)] [] 84 k (wM G o c) :=
  h (fun l1 l2 l3 c => Go l G mX10_formWrong (gbq G 1 25 84 k (qi (wM G o) Q)) 33 [(0, .ref (G.2.1 + 74)), (1, .int l1), (2, .int l2), (3, .int l3)] [] 84 k (wM G o c)) (fun l1 l2 l3 c hb => tX10_formWrong_p33_b (fun l1 l2 l3 c hh => hh) hb)
def wX10_formWrong (c : gMem) (Q : Int32 → gMem → Prop) : Prop :=
  ∀ v1, v1 = c 1 15 →
  wX10_paper 24 c (fun r3 c2 =>
  wX10_in r3.toInt64 0 500 c2 (fun r5 c4 =>
  ((r5 = 0 →
    Q 24 c4) ∧
   (¬ r5 = 0 →
    wX10_formWrong_p33 v1 25 0 c4 Q))))
set_option maxRecDepth 100000 in
set_option maxHeartbeats 4000000 in
theorem tX10_formWrong {l : Launch} {G : gG} {k : Nat} {o : gMem} {Q : Int32 → gMem → Prop} {c : gMem} (h : wX10_formWrong c Q) : Cq l G mX10_formWrong 1 25 [.ref (G.2.1 + 74)] 84 k (wM G o c) (qi (wM G o) Q) := by
  refine Cq.of (by decide) (Nat.le_of_ble_eq_true rfl) ?_
  show Go l G mX10_formWrong (gbq G 1 25 84 k (qi (wM G o) Q)) 0 [(0, .ref (G.2.1 + 74))] [] 84 k (wM G o c)
  unfold wX10_formWrong at h
  refine go_aload_n (pc := 0) dX10_formWrong_0 rfl rfl ?_
  refine go_get (pc := 1) fX10_9 rfl (gz_b (by decide)) yw0 rfl dX10_formWrong_1 ?_
  refine go_bipush (pc := 4) (v := 15) dX10_formWrong_4 (by decide) ?_
  refine gb_iald (pc := 6) (gz_b (by decide)) yw1 (gv_in (by decide)) dX10_formWrong_6 (fun v1 ev1 => ?_)
  have h := h v1 ev1
  refine go_istore_n (pc := 7) (lv' := [(1, .int v1), (0, .ref (G.2.1 + 74))]) dX10_formWrong_7 rfl (by decide) rfl ?_
  refine go_aload_n (pc := 8) dX10_formWrong_8 rfl rfl ?_
  refine go_bipush (pc := 9) (v := 24) dX10_formWrong_9 (by decide) ?_
  refine gq_callV_i (pc := 11) (F := wM G o) vX10_237 rfl (tX10_paper h) rfl rfl (gz_b (by decide)) yw0 rfl (Nat.le_of_ble_eq_true rfl) ⟨Nat.le_of_ble_eq_true rfl, Nat.le_of_ble_eq_true rfl, Nat.le_add_right _ _, Nat.le_add_right _ _⟩ dX10_formWrong_11 (fun r3 c2 h => ?_)
  refine go_i2l (pc := 14) dX10_formWrong_14 ?_
  refine go_lconst (pc := 15) (v := 0) dX10_formWrong_15 (by decide) ?_
  refine go_ldc2 (pc := 16) rfl qX10_240 dX10_formWrong_16 ?_
  refine gq_callS_i (pc := 19) (F := wM G o) sX10_63 rfl (tX10_in h) rfl rfl (Nat.le_of_ble_eq_true rfl) ⟨Nat.le_of_ble_eq_true rfl, Nat.le_of_ble_eq_true rfl, Nat.le_add_right _ _, Nat.le_add_right _ _⟩ dX10_formWrong_19 (fun r5 c4 h => ?_)
  refine go_if_ne (pc := 22) (tgt := 28) dX10_formWrong_22 (by decide) (fun q6 => ?_) (fun q6 => ?_)
  · have h := h.2 q6
    refine go_bipush (pc := 28) (v := 25) dX10_formWrong_28 (by decide) ?_
    refine go_istore_n (pc := 30) (lv' := [(2, .int 25), (1, .int v1), (0, .ref (G.2.1 + 74))]) dX10_formWrong_30 rfl (by decide) rfl ?_
    refine go_iconst (pc := 31) (v := 0) dX10_formWrong_31 (by decide) ?_
    refine go_istore_n (pc := 32) (lv' := [(3, .int 0), (2, .int 25), (1, .int v1), (0, .ref (G.2.1 + 74))]) dX10_formWrong_32 rfl (by decide) rfl ?_
    refine go_lv [3, 2, 1, 0] rfl ?_
    exact tX10_formWrong_p33 h
  · have h := h.1 q6
    refine go_bipush (pc := 25) (v := 24) dX10_formWrong_25 (by decide) ?_
    exact gq_iret (pc := 27) (F := wM G o) rfl dX10_formWrong_27 h
def wX10_findFirst_p72 (P31 : Int32 → gMem → Prop) (l1 : Int32) (c : gMem) (Q : gMem → Prop) : Prop :=
  P31 (l1 + (-1)) c
set_option maxRecDepth 100000 in
set_option maxHeartbeats 4000000 in
theorem tX10_findFirst_p72 {l : Launch} {G : gG} {k : Nat} {o : gMem} {Q : gMem → Prop} {P31 : Int32 → gMem → Prop} (hP31 : ∀ (l1 : Int32) (c : gMem), P31 l1 c → Go l G mX10_findFirst (gbq G 1 25 84 k (qv (wM G o) Q)) 31 [(0, .ref (G.2.1 + 74)), (1, .int l1)] [] 84 k (wM G o c)) {l1 : Int32} {c : gMem} (h : wX10_findFirst_p72 P31 l1 c Q) : Go l G mX10_findFirst (gbq G 1 25 84 k (qv (wM G o) Q)) 72 [(0, .ref (G.2.1 + 74)), (1, .int l1)] [] 84 k (wM G o c) := by
  unfold wX10_findFirst_p72 at h
  refine go_iinc (pc := 72) (v := l1 + (-1)) (lv' := [(1, .int (l1 + (-1))), (0, .ref (G.2.1 + 74))]) dX10_findFirst_72 1 rfl (by first | rfl | decide) (by decide) rfl ?_
  refine go_goto (pc := 75) (tgt := 31) dX10_findFirst_75 (by decide) ?_
  refine go_lv [1, 0] rfl ?_
  exact hP31 _ _ h
def wX10_findFirst_p31_b (P31 : Int32 → gMem → Prop) (l1 : Int32) (c : gMem) (Q : gMem → Prop) : Prop :=
  ((l1 < 0 →
    Q c) ∧
   (¬ l1 < 0 →
    vp_in l1 501 ∧
    ∀ v2, v2 = c 8 l1.toNatClampNeg →
    wX10_paper v2 c (fun r5 c4 =>
    wX10_in r5.toInt64 0 499 c4 (fun r7 c6 =>
    ((r7 = 0 →
      wX10_findFirst_p72 P31 l1 c6 Q) ∧
     (¬ r7 = 0 →
      vp_in l1 501 ∧
      ∀ v9, v9 = c6 8 l1.toNatClampNeg →
      wX10_paper v9 c6 (fun r12 c11 =>
      vp_in r12 500 ∧
      ∀ c13, c13 = mp c11 9 r12.toNatClampNeg l1 →
      wX10_findFirst_p72 P31 l1 c13 Q)))))))
def wX10_findFirst_p31 (l1 : Int32) (c : gMem) (Q : gMem → Prop) : Prop :=
  ∀ P31 : Int32 → gMem → Prop, (∀ (l1 : Int32) (c : gMem), wX10_findFirst_p31_b P31 l1 c Q → P31 l1 c) → P31 l1 c
set_option maxRecDepth 100000 in
set_option maxHeartbeats 4000000 in
theorem tX10_findFirst_p31_b {l : Launch} {G : gG} {k : Nat} {o : gMem} {Q : gMem → Prop} {P31 : Int32 → gMem → Prop} (hP31 : ∀ (l1 : Int32) (c : gMem), P31 l1 c → Go l G mX10_findFirst (gbq G 1 25 84 k (qv (wM G o) Q)) 31 [(0, .ref (G.2.1 + 74)), (1, .int l1)] [] 84 k (wM G o c)) {l1 : Int32} {c : gMem} (h : wX10_findFirst_p31_b P31 l1 c Q) : Go l G mX10_findFirst (gbq G 1 25 84 k (qv (wM G o) Q)) 31 [(0, .ref (G.2.1 + 74)), (1, .int l1)] [] 84 k (wM G o c) := by
  unfold wX10_findFirst_p31_b at h
  refine go_iload_n (pc := 31) dX10_findFirst_31 rfl rfl ?_
  refine go_if_lt (pc := 32) (tgt := 78) dX10_findFirst_32 (by decide) (fun q1 => ?_) (fun q1 => ?_)
  · have h := h.1 q1
    exact gq_vret (pc := 78) (F := wM G o) rfl dX10_findFirst_78 h
  · have h := h.2 q1
    refine go_aload_n (pc := 35) dX10_findFirst_35 rfl rfl ?_
    refine go_aload_n (pc := 36) dX10_findFirst_36 rfl rfl ?_
    refine go_get (pc := 37) fX10_32 rfl (gz_b (by decide)) yw0 rfl dX10_findFirst_37 ?_
    refine go_iload_n (pc := 40) dX10_findFirst_40 rfl rfl ?_
    obtain ⟨b3, h⟩ := h
    refine gb_iald (pc := 41) (gz_b (by decide)) yw8 b3 dX10_findFirst_41 (fun v2 ev2 => ?_)
    have h := h v2 ev2
    refine gq_callV_i (pc := 42) (F := wM G o) vX10_237 rfl (tX10_paper h) rfl rfl (gz_b (by decide)) yw0 rfl (Nat.le_of_ble_eq_true rfl) ⟨Nat.le_of_ble_eq_true rfl, Nat.le_of_ble_eq_true rfl, Nat.le_add_right _ _, Nat.le_add_right _ _⟩ dX10_findFirst_42 (fun r5 c4 h => ?_)
    refine go_i2l (pc := 45) dX10_findFirst_45 ?_
    refine go_lconst (pc := 46) (v := 0) dX10_findFirst_46 (by decide) ?_
    refine go_ldc2 (pc := 47) rfl qX10_247 dX10_findFirst_47 ?_
    refine gq_callS_i (pc := 50) (F := wM G o) sX10_63 rfl (tX10_in h) rfl rfl (Nat.le_of_ble_eq_true rfl) ⟨Nat.le_of_ble_eq_true rfl, Nat.le_of_ble_eq_true rfl, Nat.le_add_right _ _, Nat.le_add_right _ _⟩ dX10_findFirst_50 (fun r7 c6 h => ?_)
    refine go_if_eq (pc := 53) (tgt := 72) dX10_findFirst_53 (by decide) (fun q8 => ?_) (fun q8 => ?_)
    · have h := h.1 q8
      refine go_lv [0, 1] rfl ?_
      exact tX10_findFirst_p72 hP31 h
    · have h := h.2 q8
      refine go_aload_n (pc := 56) dX10_findFirst_56 rfl rfl ?_
      refine go_get (pc := 57) fX10_35 rfl (gz_b (by decide)) yw0 rfl dX10_findFirst_57 ?_
      refine go_aload_n (pc := 60) dX10_findFirst_60 rfl rfl ?_
      refine go_aload_n (pc := 61) dX10_findFirst_61 rfl rfl ?_
      refine go_get (pc := 62) fX10_32 rfl (gz_b (by decide)) yw0 rfl dX10_findFirst_62 ?_
      refine go_iload_n (pc := 65) dX10_findFirst_65 rfl rfl ?_
      obtain ⟨b10, h⟩ := h
      refine gb_iald (pc := 66) (gz_b (by decide)) yw8 b10 dX10_findFirst_66 (fun v9 ev9 => ?_)
      have h := h v9 ev9
      refine gq_callV_i (pc := 67) (F := wM G o) vX10_237 rfl (tX10_paper h) rfl rfl (gz_b (by decide)) yw0 rfl (Nat.le_of_ble_eq_true rfl) ⟨Nat.le_of_ble_eq_true rfl, Nat.le_of_ble_eq_true rfl, Nat.le_add_right _ _, Nat.le_add_right _ _⟩ dX10_findFirst_67 (fun r12 c11 h => ?_)
      refine go_iload_n (pc := 70) dX10_findFirst_70 rfl rfl ?_
      obtain ⟨b14, h⟩ := h
      refine gb_iast (pc := 71) (F := wM G o) (gz_b (by decide)) yw9 b14 ya9 dX10_findFirst_71 (fun c13 ec13 => ?_)
      have h := h c13 ec13
      refine go_lv [0, 1] rfl ?_
      exact tX10_findFirst_p72 hP31 h
set_option maxRecDepth 100000 in
set_option maxHeartbeats 4000000 in
theorem tX10_findFirst_p31 {l : Launch} {G : gG} {k : Nat} {o : gMem} {Q : gMem → Prop} {l1 : Int32} {c : gMem} (h : wX10_findFirst_p31 l1 c Q) : Go l G mX10_findFirst (gbq G 1 25 84 k (qv (wM G o) Q)) 31 [(0, .ref (G.2.1 + 74)), (1, .int l1)] [] 84 k (wM G o c) :=
  h (fun l1 c => Go l G mX10_findFirst (gbq G 1 25 84 k (qv (wM G o) Q)) 31 [(0, .ref (G.2.1 + 74)), (1, .int l1)] [] 84 k (wM G o c)) (fun l1 c hb => tX10_findFirst_p31_b (fun l1 c hh => hh) hb)
def wX10_findFirst_p2_b (P2 : Int32 → gMem → Prop) (l1 : Int32) (c : gMem) (Q : gMem → Prop) : Prop :=
  ((500 ≤ l1 →
    wX10_paper 24 c (fun r3 c2 =>
    wX10_findFirst_p31 (r3 - 1) c2 Q)) ∧
   (¬ 500 ≤ l1 →
    vp_in l1 500 ∧
    ∀ c4, c4 = mp c 9 l1.toNatClampNeg ((-1)) →
    P2 (l1 + 1) c4))
def wX10_findFirst_p2 (l1 : Int32) (c : gMem) (Q : gMem → Prop) : Prop :=
  ∀ P2 : Int32 → gMem → Prop, (∀ (l1 : Int32) (c : gMem), wX10_findFirst_p2_b P2 l1 c Q → P2 l1 c) → P2 l1 c
set_option maxRecDepth 100000 in
set_option maxHeartbeats 4000000 in
theorem tX10_findFirst_p2_b {l : Launch} {G : gG} {k : Nat} {o : gMem} {Q : gMem → Prop} {P2 : Int32 → gMem → Prop} (hP2 : ∀ (l1 : Int32) (c : gMem), P2 l1 c → Go l G mX10_findFirst (gbq G 1 25 84 k (qv (wM G o) Q)) 2 [(0, .ref (G.2.1 + 74)), (1, .int l1)] [] 84 k (wM G o c)) {l1 : Int32} {c : gMem} (h : wX10_findFirst_p2_b P2 l1 c Q) : Go l G mX10_findFirst (gbq G 1 25 84 k (qv (wM G o) Q)) 2 [(0, .ref (G.2.1 + 74)), (1, .int l1)] [] 84 k (wM G o c) := by
  unfold wX10_findFirst_p2_b at h
  refine go_iload_n (pc := 2) dX10_findFirst_2 rfl rfl ?_
  refine go_sipush (pc := 3) (v := 500) dX10_findFirst_3 (by decide) ?_
  refine go_icmp_ge (pc := 6) (tgt := 22) dX10_findFirst_6 (by decide) (fun q1 => ?_) (fun q1 => ?_)
  · have h := h.1 q1
    refine go_aload_n (pc := 22) dX10_findFirst_22 rfl rfl ?_
    refine go_bipush (pc := 23) (v := 24) dX10_findFirst_23 (by decide) ?_
    refine gq_callV_i (pc := 25) (F := wM G o) vX10_237 rfl (tX10_paper h) rfl rfl (gz_b (by decide)) yw0 rfl (Nat.le_of_ble_eq_true rfl) ⟨Nat.le_of_ble_eq_true rfl, Nat.le_of_ble_eq_true rfl, Nat.le_add_right _ _, Nat.le_add_right _ _⟩ dX10_findFirst_25 (fun r3 c2 h => ?_)
    refine go_iconst (pc := 28) (v := 1) dX10_findFirst_28 (by decide) ?_
    refine go_isub (pc := 29) dX10_findFirst_29 ?_
    refine go_istore_n (pc := 30) (lv' := [(1, .int (r3 - 1)), (0, .ref (G.2.1 + 74))]) dX10_findFirst_30 rfl (by decide) rfl ?_
    refine go_lv [1, 0] rfl ?_
    exact tX10_findFirst_p31 h
  · have h := h.2 q1
    refine go_aload_n (pc := 9) dX10_findFirst_9 rfl rfl ?_
    refine go_get (pc := 10) fX10_35 rfl (gz_b (by decide)) yw0 rfl dX10_findFirst_10 ?_
    refine go_iload_n (pc := 13) dX10_findFirst_13 rfl rfl ?_
    refine go_iconst (pc := 14) (v := (-1)) dX10_findFirst_14 (by decide) ?_
    obtain ⟨b5, h⟩ := h
    refine gb_iast (pc := 15) (F := wM G o) (gz_b (by decide)) yw9 b5 ya9 dX10_findFirst_15 (fun c4 ec4 => ?_)
    have h := h c4 ec4
    refine go_iinc (pc := 16) (v := l1 + 1) (lv' := [(1, .int (l1 + 1)), (0, .ref (G.2.1 + 74))]) dX10_findFirst_16 1 rfl (by first | rfl | decide) (by decide) rfl ?_
    refine go_goto (pc := 19) (tgt := 2) dX10_findFirst_19 (by decide) ?_
    refine go_lv [1, 0] rfl ?_
    exact hP2 _ _ h
set_option maxRecDepth 100000 in
set_option maxHeartbeats 4000000 in
theorem tX10_findFirst_p2 {l : Launch} {G : gG} {k : Nat} {o : gMem} {Q : gMem → Prop} {l1 : Int32} {c : gMem} (h : wX10_findFirst_p2 l1 c Q) : Go l G mX10_findFirst (gbq G 1 25 84 k (qv (wM G o) Q)) 2 [(0, .ref (G.2.1 + 74)), (1, .int l1)] [] 84 k (wM G o c) :=
  h (fun l1 c => Go l G mX10_findFirst (gbq G 1 25 84 k (qv (wM G o) Q)) 2 [(0, .ref (G.2.1 + 74)), (1, .int l1)] [] 84 k (wM G o c)) (fun l1 c hb => tX10_findFirst_p2_b (fun l1 c hh => hh) hb)
def wX10_findFirst (c : gMem) (Q : gMem → Prop) : Prop :=
  wX10_findFirst_p2 0 c Q
set_option maxRecDepth 100000 in
set_option maxHeartbeats 4000000 in
theorem tX10_findFirst {l : Launch} {G : gG} {k : Nat} {o : gMem} {Q : gMem → Prop} {c : gMem} (h : wX10_findFirst c Q) : Cq l G mX10_findFirst 1 25 [.ref (G.2.1 + 74)] 84 k (wM G o c) (qv (wM G o) Q) := by
  refine Cq.of (by decide) (Nat.le_of_ble_eq_true rfl) ?_
  show Go l G mX10_findFirst (gbq G 1 25 84 k (qv (wM G o) Q)) 0 [(0, .ref (G.2.1 + 74))] [] 84 k (wM G o c)
  unfold wX10_findFirst at h
  refine go_iconst (pc := 0) (v := 0) dX10_findFirst_0 (by decide) ?_
  refine go_istore_n (pc := 1) (lv' := [(1, .int 0), (0, .ref (G.2.1 + 74))]) dX10_findFirst_1 rfl (by decide) rfl ?_
  refine go_lv [1, 0] rfl ?_
  exact tX10_findFirst_p2 h
def wX10_keptOf (l1 : Int32) (c : gMem) (Q : Int32 → gMem → Prop) : Prop :=
  wX10_in l1.toInt64 0 499 c (fun r2 c1 =>
  ((r2 = 0 →
    Q ((-1)) c1) ∧
   (¬ r2 = 0 →
    vp_in l1 500 ∧
    ∀ v4, v4 = c1 9 l1.toNatClampNeg →
    Q v4 c1)))
set_option maxRecDepth 100000 in
set_option maxHeartbeats 4000000 in
theorem tX10_keptOf {l : Launch} {G : gG} {k : Nat} {o : gMem} {Q : Int32 → gMem → Prop} {l1 : Int32} {c : gMem} (h : wX10_keptOf l1 c Q) : Cq l G mX10_keptOf 1 25 [.ref (G.2.1 + 74), .int l1] 84 k (wM G o c) (qi (wM G o) Q) := by
  refine Cq.of (by decide) (Nat.le_of_ble_eq_true rfl) ?_
  show Go l G mX10_keptOf (gbq G 1 25 84 k (qi (wM G o) Q)) 0 [(0, .ref (G.2.1 + 74)), (1, .int l1)] [] 84 k (wM G o c)
  unfold wX10_keptOf at h
  refine go_iload_n (pc := 0) dX10_keptOf_0 rfl rfl ?_
  refine go_i2l (pc := 1) dX10_keptOf_1 ?_
  refine go_lconst (pc := 2) (v := 0) dX10_keptOf_2 (by decide) ?_
  refine go_ldc2 (pc := 3) rfl qX10_247 dX10_keptOf_3 ?_
  refine gq_callS_i (pc := 6) (F := wM G o) sX10_63 rfl (tX10_in h) rfl rfl (Nat.le_of_ble_eq_true rfl) ⟨Nat.le_of_ble_eq_true rfl, Nat.le_of_ble_eq_true rfl, Nat.le_add_right _ _, Nat.le_add_right _ _⟩ dX10_keptOf_6 (fun r2 c1 h => ?_)
  refine go_if_eq (pc := 9) (tgt := 21) dX10_keptOf_9 (by decide) (fun q3 => ?_) (fun q3 => ?_)
  · have h := h.1 q3
    refine go_iconst (pc := 21) (v := (-1)) dX10_keptOf_21 (by decide) ?_
    exact gq_iret (pc := 22) (F := wM G o) rfl dX10_keptOf_22 h
  · have h := h.2 q3
    refine go_aload_n (pc := 12) dX10_keptOf_12 rfl rfl ?_
    refine go_get (pc := 13) fX10_35 rfl (gz_b (by decide)) yw0 rfl dX10_keptOf_13 ?_
    refine go_iload_n (pc := 16) dX10_keptOf_16 rfl rfl ?_
    obtain ⟨b5, h⟩ := h
    refine gb_iald (pc := 17) (gz_b (by decide)) yw9 b5 dX10_keptOf_17 (fun v4 ev4 => ?_)
    have h := h v4 ev4
    refine go_goto (pc := 18) (tgt := 22) dX10_keptOf_18 (by decide) ?_
    exact gq_iret (pc := 22) (F := wM G o) rfl dX10_keptOf_22 h
def wX10_reasonWrong_p193 (l1 : Int32) (s0 : Int32) (c : gMem) (Q : Int32 → gMem → Prop) : Prop :=
  ((s0 = 0 →
    Q (l1 + 3) c) ∧
   (¬ s0 = 0 →
    Q ((-1)) c))
set_option maxRecDepth 100000 in
set_option maxHeartbeats 4000000 in
theorem tX10_reasonWrong_p193 {l : Launch} {G : gG} {k : Nat} {o : gMem} {Q : Int32 → gMem → Prop} {l1 : Int32} {s0 : Int32} {c : gMem} (h : wX10_reasonWrong_p193 l1 s0 c Q) : Go l G mX10_reasonWrong (gbq G 2 46 84 k (qi (wM G o) Q)) 193 [(1, .int l1)] [.int s0] 84 k (wM G o c) := by
  unfold wX10_reasonWrong_p193 at h
  refine go_istore (pc := 193) (lv' := [(7, .int s0), (1, .int l1)]) dX10_reasonWrong_193 (by decide) rfl ?_
  refine go_iload (pc := 195) dX10_reasonWrong_195 rfl ?_
  refine go_if_eq (pc := 197) (tgt := 204) dX10_reasonWrong_197 (by decide) (fun q1 => ?_) (fun q1 => ?_)
  · have h := h.1 q1
    refine go_iload_n (pc := 204) dX10_reasonWrong_204 rfl rfl ?_
    refine go_iconst (pc := 205) (v := 3) dX10_reasonWrong_205 (by decide) ?_
    refine go_iadd (pc := 206) dX10_reasonWrong_206 ?_
    exact gq_iret (pc := 207) (F := wM G o) rfl dX10_reasonWrong_207 h
  · have h := h.2 q1
    refine go_iconst (pc := 200) (v := (-1)) dX10_reasonWrong_200 (by decide) ?_
    refine go_goto (pc := 201) (tgt := 207) dX10_reasonWrong_201 (by decide) ?_
    exact gq_iret (pc := 207) (F := wM G o) rfl dX10_reasonWrong_207 h
def wX10_reasonWrong_p140 (l1 : Int32) (l4 : Int32) (c : gMem) (Q : Int32 → gMem → Prop) : Prop :=
  ((l4 = (-1) →
    wX10_reasonWrong_p193 l1 1 c Q) ∧
   (¬ l4 = (-1) →
    wX10_reasonWrong_p193 l1 0 c Q))
set_option maxRecDepth 100000 in
set_option maxHeartbeats 4000000 in
theorem tX10_reasonWrong_p140 {l : Launch} {G : gG} {k : Nat} {o : gMem} {Q : Int32 → gMem → Prop} {l1 : Int32} {l4 : Int32} {c : gMem} (h : wX10_reasonWrong_p140 l1 l4 c Q) : Go l G mX10_reasonWrong (gbq G 2 46 84 k (qi (wM G o) Q)) 140 [(1, .int l1), (4, .int l4)] [] 84 k (wM G o c) := by
  unfold wX10_reasonWrong_p140 at h
  refine go_iload (pc := 140) dX10_reasonWrong_140 rfl ?_
  refine go_iconst (pc := 142) (v := (-1)) dX10_reasonWrong_142 (by decide) ?_
  refine go_icmp_ne (pc := 143) (tgt := 150) dX10_reasonWrong_143 (by decide) (fun q1 => ?_) (fun q1 => ?_)
  · have h := h.2 q1
    refine go_iconst (pc := 150) (v := 0) dX10_reasonWrong_150 (by decide) ?_
    refine go_goto (pc := 151) (tgt := 193) dX10_reasonWrong_151 (by decide) ?_
    refine go_lv [0] rfl ?_
    exact tX10_reasonWrong_p193 h
  · have h := h.1 q1
    refine go_iconst (pc := 146) (v := 1) dX10_reasonWrong_146 (by decide) ?_
    refine go_goto (pc := 147) (tgt := 193) dX10_reasonWrong_147 (by decide) ?_
    refine go_lv [0] rfl ?_
    exact tX10_reasonWrong_p193 h
def wX10_reasonWrong_p190 (l1 : Int32) (s0 : Int64) (s1 : Int64) (s2 : Int64) (c : gMem) (Q : Int32 → gMem → Prop) : Prop :=
  wX10_in s2 s1 s0 c (fun r2 c1 =>
  wX10_reasonWrong_p193 l1 r2 c1 Q)
set_option maxRecDepth 100000 in
set_option maxHeartbeats 4000000 in
theorem tX10_reasonWrong_p190 {l : Launch} {G : gG} {k : Nat} {o : gMem} {Q : Int32 → gMem → Prop} {l1 : Int32} {s0 : Int64} {s1 : Int64} {s2 : Int64} {c : gMem} (h : wX10_reasonWrong_p190 l1 s0 s1 s2 c Q) : Go l G mX10_reasonWrong (gbq G 2 46 84 k (qi (wM G o) Q)) 190 [(1, .int l1)] [.long s0, .long s1, .long s2] 84 k (wM G o c) := by
  unfold wX10_reasonWrong_p190 at h
  refine gq_callS_i (pc := 190) (F := wM G o) sX10_63 rfl (tX10_in h) rfl rfl (Nat.le_of_ble_eq_true rfl) ⟨Nat.le_of_ble_eq_true rfl, Nat.le_of_ble_eq_true rfl, Nat.le_add_right _ _, Nat.le_add_right _ _⟩ dX10_reasonWrong_190 (fun r2 c1 h => ?_)
  refine go_lv [0] rfl ?_
  exact tX10_reasonWrong_p193 h
def wX10_reasonWrong_p120 (l1 : Int32) (l2 : Int32) (l4 : Int32) (l5 : Int32) (s0 : Int32) (c : gMem) (Q : Int32 → gMem → Prop) : Prop :=
  ((s0 = 0 →
    Q (l1 + 2) c) ∧
   (¬ s0 = 0 →
    ((l2 = 0 →
      wX10_reasonWrong_p140 l1 l4 c Q) ∧
     (¬ l2 = 0 →
      ((l2 = 5 →
        wX10_reasonWrong_p140 l1 l4 c Q) ∧
       (¬ l2 = 5 →
        ((l2 = 4 →
          ((l4 = 0 →
            wX10_reasonWrong_p193 l1 1 c Q) ∧
           (¬ l4 = 0 →
            wX10_reasonWrong_p193 l1 0 c Q))) ∧
         (¬ l2 = 4 →
          ((l5 = 0 →
            wX10_reasonWrong_p190 l1 299 0 l4.toInt64 c Q) ∧
           (¬ l5 = 0 →
            wX10_reasonWrong_p190 l1 23 0 l4.toInt64 c Q))))))))))
set_option maxRecDepth 100000 in
set_option maxHeartbeats 4000000 in
theorem tX10_reasonWrong_p120 {l : Launch} {G : gG} {k : Nat} {o : gMem} {Q : Int32 → gMem → Prop} {l1 : Int32} {l2 : Int32} {l4 : Int32} {l5 : Int32} {s0 : Int32} {c : gMem} (h : wX10_reasonWrong_p120 l1 l2 l4 l5 s0 c Q) : Go l G mX10_reasonWrong (gbq G 2 46 84 k (qi (wM G o) Q)) 120 [(1, .int l1), (2, .int l2), (4, .int l4), (5, .int l5)] [.int s0] 84 k (wM G o c) := by
  unfold wX10_reasonWrong_p120 at h
  refine go_istore (pc := 120) (lv' := [(6, .int s0), (1, .int l1), (2, .int l2), (4, .int l4), (5, .int l5)]) dX10_reasonWrong_120 (by decide) rfl ?_
  refine go_iload (pc := 122) dX10_reasonWrong_122 rfl ?_
  refine go_if_ne (pc := 124) (tgt := 131) dX10_reasonWrong_124 (by decide) (fun q1 => ?_) (fun q1 => ?_)
  · have h := h.2 q1
    refine go_iload_n (pc := 131) dX10_reasonWrong_131 rfl rfl ?_
    refine go_if_eq (pc := 132) (tgt := 140) dX10_reasonWrong_132 (by decide) (fun q2 => ?_) (fun q2 => ?_)
    · have h := h.1 q2
      refine go_lv [1, 3] rfl ?_
      exact tX10_reasonWrong_p140 h
    · have h := h.2 q2
      refine go_iload_n (pc := 135) dX10_reasonWrong_135 rfl rfl ?_
      refine go_iconst (pc := 136) (v := 5) dX10_reasonWrong_136 (by decide) ?_
      refine go_icmp_ne (pc := 137) (tgt := 154) dX10_reasonWrong_137 (by decide) (fun q3 => ?_) (fun q3 => ?_)
      · have h := h.2 q3
        refine go_iload_n (pc := 154) dX10_reasonWrong_154 rfl rfl ?_
        refine go_iconst (pc := 155) (v := 4) dX10_reasonWrong_155 (by decide) ?_
        refine go_icmp_ne (pc := 156) (tgt := 172) dX10_reasonWrong_156 (by decide) (fun q4 => ?_) (fun q4 => ?_)
        · have h := h.2 q4
          refine go_iload (pc := 172) dX10_reasonWrong_172 rfl ?_
          refine go_i2l (pc := 174) dX10_reasonWrong_174 ?_
          refine go_lconst (pc := 175) (v := 0) dX10_reasonWrong_175 (by decide) ?_
          refine go_iload (pc := 176) dX10_reasonWrong_176 rfl ?_
          refine go_if_eq (pc := 178) (tgt := 187) dX10_reasonWrong_178 (by decide) (fun q5 => ?_) (fun q5 => ?_)
          · have h := h.1 q5
            refine go_ldc2 (pc := 187) rfl qX10_252 dX10_reasonWrong_187 ?_
            refine go_lv [1] rfl ?_
            exact tX10_reasonWrong_p190 h
          · have h := h.2 q5
            refine go_ldc2 (pc := 181) rfl qX10_198 dX10_reasonWrong_181 ?_
            refine go_goto (pc := 184) (tgt := 190) dX10_reasonWrong_184 (by decide) ?_
            refine go_lv [1] rfl ?_
            exact tX10_reasonWrong_p190 h
        · have h := h.1 q4
          refine go_iload (pc := 159) dX10_reasonWrong_159 rfl ?_
          refine go_if_ne (pc := 161) (tgt := 168) dX10_reasonWrong_161 (by decide) (fun q6 => ?_) (fun q6 => ?_)
          · have h := h.2 q6
            refine go_iconst (pc := 168) (v := 0) dX10_reasonWrong_168 (by decide) ?_
            refine go_goto (pc := 169) (tgt := 193) dX10_reasonWrong_169 (by decide) ?_
            refine go_lv [1] rfl ?_
            exact tX10_reasonWrong_p193 h
          · have h := h.1 q6
            refine go_iconst (pc := 164) (v := 1) dX10_reasonWrong_164 (by decide) ?_
            refine go_goto (pc := 165) (tgt := 193) dX10_reasonWrong_165 (by decide) ?_
            refine go_lv [1] rfl ?_
            exact tX10_reasonWrong_p193 h
      · have h := h.1 q3
        refine go_lv [1, 3] rfl ?_
        exact tX10_reasonWrong_p140 h
  · have h := h.1 q1
    refine go_iload_n (pc := 127) dX10_reasonWrong_127 rfl rfl ?_
    refine go_iconst (pc := 128) (v := 2) dX10_reasonWrong_128 (by decide) ?_
    refine go_iadd (pc := 129) dX10_reasonWrong_129 ?_
    exact gq_iret (pc := 130) (F := wM G o) rfl dX10_reasonWrong_130 h
def wX10_reasonWrong_p115 (l1 : Int32) (l2 : Int32) (l4 : Int32) (l5 : Int32) (c : gMem) (Q : Int32 → gMem → Prop) : Prop :=
  wX10_reasonWrong_p120 l1 l2 l4 l5 1 c Q
set_option maxRecDepth 100000 in
set_option maxHeartbeats 4000000 in
theorem tX10_reasonWrong_p115 {l : Launch} {G : gG} {k : Nat} {o : gMem} {Q : Int32 → gMem → Prop} {l1 : Int32} {l2 : Int32} {l4 : Int32} {l5 : Int32} {c : gMem} (h : wX10_reasonWrong_p115 l1 l2 l4 l5 c Q) : Go l G mX10_reasonWrong (gbq G 2 46 84 k (qi (wM G o) Q)) 115 [(1, .int l1), (2, .int l2), (4, .int l4), (5, .int l5)] [] 84 k (wM G o c) := by
  unfold wX10_reasonWrong_p115 at h
  refine go_iconst (pc := 115) (v := 1) dX10_reasonWrong_115 (by decide) ?_
  refine go_goto (pc := 116) (tgt := 120) dX10_reasonWrong_116 (by decide) ?_
  refine go_lv [0, 1, 2, 3] rfl ?_
  exact tX10_reasonWrong_p120 h
def wX10_reasonWrong_p40 (l1 : Int32) (l2 : Int32) (l3 : Int32) (l4 : Int32) (s0 : Int32) (c : gMem) (Q : Int32 → gMem → Prop) : Prop :=
  ((l2 = 0 →
    wX10_in l3.toInt64 0 23 c (fun r13 c12 =>
    wX10_reasonWrong_p120 l1 l2 l4 s0 r13 c12 Q)) ∧
   (¬ l2 = 0 →
    ((l2 = 1 →
      wX10_keptOf l3 c (fun r10 c9 =>
      ((r10 = (-1) →
        wX10_reasonWrong_p120 l1 l2 l4 s0 0 c9 Q) ∧
       (¬ r10 = (-1) →
        wX10_reasonWrong_p120 l1 l2 l4 s0 1 c9 Q)))) ∧
     (¬ l2 = 1 →
      ((l2 = 5 →
        ((l3 = (-1) →
          wX10_reasonWrong_p120 l1 l2 l4 s0 1 c Q) ∧
         (¬ l3 = (-1) →
          wX10_reasonWrong_p120 l1 l2 l4 s0 0 c Q))) ∧
       (¬ l2 = 5 →
        ((s0 = 0 →
          wX10_in l3.toInt64 0 499 c (fun r6 c5 =>
          ((r6 = 0 →
            wX10_reasonWrong_p120 l1 l2 l4 s0 0 c5 Q) ∧
           (¬ r6 = 0 →
            wX10_reasonWrong_p115 l1 l2 l4 s0 c5 Q)))) ∧
         (¬ s0 = 0 →
          wX10_reasonWrong_p115 l1 l2 l4 s0 c Q))))))))
set_option maxRecDepth 100000 in
set_option maxHeartbeats 4000000 in
theorem tX10_reasonWrong_p40 {l : Launch} {G : gG} {k : Nat} {o : gMem} {Q : Int32 → gMem → Prop} {l1 : Int32} {l2 : Int32} {l3 : Int32} {l4 : Int32} {s0 : Int32} {c : gMem} (h : wX10_reasonWrong_p40 l1 l2 l3 l4 s0 c Q) : Go l G mX10_reasonWrong (gbq G 2 46 84 k (qi (wM G o) Q)) 40 [(0, .ref (G.2.1 + 74)), (1, .int l1), (2, .int l2), (3, .int l3), (4, .int l4)] [.int s0] 84 k (wM G o c) := by
  unfold wX10_reasonWrong_p40 at h
  refine go_istore (pc := 40) (lv' := [(5, .int s0), (0, .ref (G.2.1 + 74)), (1, .int l1), (2, .int l2), (3, .int l3), (4, .int l4)]) dX10_reasonWrong_40 (by decide) rfl ?_
  refine go_iload_n (pc := 42) dX10_reasonWrong_42 rfl rfl ?_
  refine go_if_ne (pc := 43) (tgt := 58) dX10_reasonWrong_43 (by decide) (fun q1 => ?_) (fun q1 => ?_)
  · have h := h.2 q1
    refine go_iload_n (pc := 58) dX10_reasonWrong_58 rfl rfl ?_
    refine go_iconst (pc := 59) (v := 1) dX10_reasonWrong_59 (by decide) ?_
    refine go_icmp_ne (pc := 60) (tgt := 80) dX10_reasonWrong_60 (by decide) (fun q2 => ?_) (fun q2 => ?_)
    · have h := h.2 q2
      refine go_iload_n (pc := 80) dX10_reasonWrong_80 rfl rfl ?_
      refine go_iconst (pc := 81) (v := 5) dX10_reasonWrong_81 (by decide) ?_
      refine go_icmp_ne (pc := 82) (tgt := 98) dX10_reasonWrong_82 (by decide) (fun q3 => ?_) (fun q3 => ?_)
      · have h := h.2 q3
        refine go_iload (pc := 98) dX10_reasonWrong_98 rfl ?_
        refine go_if_ne (pc := 100) (tgt := 115) dX10_reasonWrong_100 (by decide) (fun q4 => ?_) (fun q4 => ?_)
        · have h := h.2 q4
          refine go_lv [2, 3, 5, 0] rfl ?_
          exact tX10_reasonWrong_p115 h
        · have h := h.1 q4
          refine go_iload_n (pc := 103) dX10_reasonWrong_103 rfl rfl ?_
          refine go_i2l (pc := 104) dX10_reasonWrong_104 ?_
          refine go_lconst (pc := 105) (v := 0) dX10_reasonWrong_105 (by decide) ?_
          refine go_ldc2 (pc := 106) rfl qX10_247 dX10_reasonWrong_106 ?_
          refine gq_callS_i (pc := 109) (F := wM G o) sX10_63 rfl (tX10_in h) rfl rfl (Nat.le_of_ble_eq_true rfl) ⟨Nat.le_of_ble_eq_true rfl, Nat.le_of_ble_eq_true rfl, Nat.le_add_right _ _, Nat.le_add_right _ _⟩ dX10_reasonWrong_109 (fun r6 c5 h => ?_)
          refine go_if_eq (pc := 112) (tgt := 119) dX10_reasonWrong_112 (by decide) (fun q7 => ?_) (fun q7 => ?_)
          · have h := h.1 q7
            refine go_iconst (pc := 119) (v := 0) dX10_reasonWrong_119 (by decide) ?_
            refine go_lv [2, 3, 5, 0] rfl ?_
            exact tX10_reasonWrong_p120 h
          · have h := h.2 q7
            refine go_lv [2, 3, 5, 0] rfl ?_
            exact tX10_reasonWrong_p115 h
      · have h := h.1 q3
        refine go_iload_n (pc := 85) dX10_reasonWrong_85 rfl rfl ?_
        refine go_iconst (pc := 86) (v := (-1)) dX10_reasonWrong_86 (by decide) ?_
        refine go_icmp_ne (pc := 87) (tgt := 94) dX10_reasonWrong_87 (by decide) (fun q8 => ?_) (fun q8 => ?_)
        · have h := h.2 q8
          refine go_iconst (pc := 94) (v := 0) dX10_reasonWrong_94 (by decide) ?_
          refine go_goto (pc := 95) (tgt := 120) dX10_reasonWrong_95 (by decide) ?_
          refine go_lv [2, 3, 5, 0] rfl ?_
          exact tX10_reasonWrong_p120 h
        · have h := h.1 q8
          refine go_iconst (pc := 90) (v := 1) dX10_reasonWrong_90 (by decide) ?_
          refine go_goto (pc := 91) (tgt := 120) dX10_reasonWrong_91 (by decide) ?_
          refine go_lv [2, 3, 5, 0] rfl ?_
          exact tX10_reasonWrong_p120 h
    · have h := h.1 q2
      refine go_aload_n (pc := 63) dX10_reasonWrong_63 rfl rfl ?_
      refine go_iload_n (pc := 64) dX10_reasonWrong_64 rfl rfl ?_
      refine gq_callV_i (pc := 65) (F := wM G o) vX10_249 rfl (tX10_keptOf h) rfl rfl (gz_b (by decide)) yw0 rfl (Nat.le_of_ble_eq_true rfl) ⟨Nat.le_of_ble_eq_true rfl, Nat.le_of_ble_eq_true rfl, Nat.le_add_right _ _, Nat.le_add_right _ _⟩ dX10_reasonWrong_65 (fun r10 c9 h => ?_)
      refine go_iconst (pc := 68) (v := (-1)) dX10_reasonWrong_68 (by decide) ?_
      refine go_icmp_eq (pc := 69) (tgt := 76) dX10_reasonWrong_69 (by decide) (fun q11 => ?_) (fun q11 => ?_)
      · have h := h.1 q11
        refine go_iconst (pc := 76) (v := 0) dX10_reasonWrong_76 (by decide) ?_
        refine go_goto (pc := 77) (tgt := 120) dX10_reasonWrong_77 (by decide) ?_
        refine go_lv [2, 3, 5, 0] rfl ?_
        exact tX10_reasonWrong_p120 h
      · have h := h.2 q11
        refine go_iconst (pc := 72) (v := 1) dX10_reasonWrong_72 (by decide) ?_
        refine go_goto (pc := 73) (tgt := 120) dX10_reasonWrong_73 (by decide) ?_
        refine go_lv [2, 3, 5, 0] rfl ?_
        exact tX10_reasonWrong_p120 h
  · have h := h.1 q1
    refine go_iload_n (pc := 46) dX10_reasonWrong_46 rfl rfl ?_
    refine go_i2l (pc := 47) dX10_reasonWrong_47 ?_
    refine go_lconst (pc := 48) (v := 0) dX10_reasonWrong_48 (by decide) ?_
    refine go_ldc2 (pc := 49) rfl qX10_198 dX10_reasonWrong_49 ?_
    refine gq_callS_i (pc := 52) (F := wM G o) sX10_63 rfl (tX10_in h) rfl rfl (Nat.le_of_ble_eq_true rfl) ⟨Nat.le_of_ble_eq_true rfl, Nat.le_of_ble_eq_true rfl, Nat.le_add_right _ _, Nat.le_add_right _ _⟩ dX10_reasonWrong_52 (fun r13 c12 h => ?_)
    refine go_goto (pc := 55) (tgt := 120) dX10_reasonWrong_55 (by decide) ?_
    refine go_lv [2, 3, 5, 0] rfl ?_
    exact tX10_reasonWrong_p120 h
def wX10_reasonWrong_p39 (l1 : Int32) (l2 : Int32) (l3 : Int32) (l4 : Int32) (c : gMem) (Q : Int32 → gMem → Prop) : Prop :=
  wX10_reasonWrong_p40 l1 l2 l3 l4 0 c Q
set_option maxRecDepth 100000 in
set_option maxHeartbeats 4000000 in
theorem tX10_reasonWrong_p39 {l : Launch} {G : gG} {k : Nat} {o : gMem} {Q : Int32 → gMem → Prop} {l1 : Int32} {l2 : Int32} {l3 : Int32} {l4 : Int32} {c : gMem} (h : wX10_reasonWrong_p39 l1 l2 l3 l4 c Q) : Go l G mX10_reasonWrong (gbq G 2 46 84 k (qi (wM G o) Q)) 39 [(0, .ref (G.2.1 + 74)), (1, .int l1), (2, .int l2), (3, .int l3), (4, .int l4)] [] 84 k (wM G o c) := by
  unfold wX10_reasonWrong_p39 at h
  refine go_iconst (pc := 39) (v := 0) dX10_reasonWrong_39 (by decide) ?_
  refine go_lv [0, 1, 2, 3, 4] rfl ?_
  exact tX10_reasonWrong_p40 h
def wX10_reasonWrong (l1 : Int32) (c : gMem) (Q : Int32 → gMem → Prop) : Prop :=
  wX10_paper (l1 + 1) c (fun r2 c1 =>
  wX10_paper (l1 + 2) c1 (fun r4 c3 =>
  wX10_paper (l1 + 3) c3 (fun r6 c5 =>
  ((r2 = 3 →
    ((r4 = (-1) →
      wX10_reasonWrong_p40 l1 r2 r4 r6 1 c5 Q) ∧
     (¬ r4 = (-1) →
      wX10_reasonWrong_p39 l1 r2 r4 r6 c5 Q))) ∧
   (¬ r2 = 3 →
    wX10_reasonWrong_p39 l1 r2 r4 r6 c5 Q)))))
set_option maxRecDepth 100000 in
set_option maxHeartbeats 4000000 in
theorem tX10_reasonWrong {l : Launch} {G : gG} {k : Nat} {o : gMem} {Q : Int32 → gMem → Prop} {l1 : Int32} {c : gMem} (h : wX10_reasonWrong l1 c Q) : Cq l G mX10_reasonWrong 2 46 [.ref (G.2.1 + 74), .int l1] 84 k (wM G o c) (qi (wM G o) Q) := by
  refine Cq.of (by decide) (Nat.le_of_ble_eq_true rfl) ?_
  show Go l G mX10_reasonWrong (gbq G 2 46 84 k (qi (wM G o) Q)) 0 [(0, .ref (G.2.1 + 74)), (1, .int l1)] [] 84 k (wM G o c)
  unfold wX10_reasonWrong at h
  refine go_aload_n (pc := 0) dX10_reasonWrong_0 rfl rfl ?_
  refine go_iload_n (pc := 1) dX10_reasonWrong_1 rfl rfl ?_
  refine go_iconst (pc := 2) (v := 1) dX10_reasonWrong_2 (by decide) ?_
  refine go_iadd (pc := 3) dX10_reasonWrong_3 ?_
  refine gq_callV_i (pc := 4) (F := wM G o) vX10_237 rfl (tX10_paper h) rfl rfl (gz_b (by decide)) yw0 rfl (Nat.le_of_ble_eq_true rfl) ⟨Nat.le_of_ble_eq_true rfl, Nat.le_of_ble_eq_true rfl, Nat.le_add_right _ _, Nat.le_add_right _ _⟩ dX10_reasonWrong_4 (fun r2 c1 h => ?_)
  refine go_istore_n (pc := 7) (lv' := [(2, .int r2), (0, .ref (G.2.1 + 74)), (1, .int l1)]) dX10_reasonWrong_7 rfl (by decide) rfl ?_
  refine go_aload_n (pc := 8) dX10_reasonWrong_8 rfl rfl ?_
  refine go_iload_n (pc := 9) dX10_reasonWrong_9 rfl rfl ?_
  refine go_iconst (pc := 10) (v := 2) dX10_reasonWrong_10 (by decide) ?_
  refine go_iadd (pc := 11) dX10_reasonWrong_11 ?_
  refine gq_callV_i (pc := 12) (F := wM G o) vX10_237 rfl (tX10_paper h) rfl rfl (gz_b (by decide)) yw0 rfl (Nat.le_of_ble_eq_true rfl) ⟨Nat.le_of_ble_eq_true rfl, Nat.le_of_ble_eq_true rfl, Nat.le_add_right _ _, Nat.le_add_right _ _⟩ dX10_reasonWrong_12 (fun r4 c3 h => ?_)
  refine go_istore_n (pc := 15) (lv' := [(3, .int r4), (2, .int r2), (0, .ref (G.2.1 + 74)), (1, .int l1)]) dX10_reasonWrong_15 rfl (by decide) rfl ?_
  refine go_aload_n (pc := 16) dX10_reasonWrong_16 rfl rfl ?_
  refine go_iload_n (pc := 17) dX10_reasonWrong_17 rfl rfl ?_
  refine go_iconst (pc := 18) (v := 3) dX10_reasonWrong_18 (by decide) ?_
  refine go_iadd (pc := 19) dX10_reasonWrong_19 ?_
  refine gq_callV_i (pc := 20) (F := wM G o) vX10_237 rfl (tX10_paper h) rfl rfl (gz_b (by decide)) yw0 rfl (Nat.le_of_ble_eq_true rfl) ⟨Nat.le_of_ble_eq_true rfl, Nat.le_of_ble_eq_true rfl, Nat.le_add_right _ _, Nat.le_add_right _ _⟩ dX10_reasonWrong_20 (fun r6 c5 h => ?_)
  refine go_istore (pc := 23) (lv' := [(4, .int r6), (3, .int r4), (2, .int r2), (0, .ref (G.2.1 + 74)), (1, .int l1)]) dX10_reasonWrong_23 (by decide) rfl ?_
  refine go_iload_n (pc := 25) dX10_reasonWrong_25 rfl rfl ?_
  refine go_iconst (pc := 26) (v := 3) dX10_reasonWrong_26 (by decide) ?_
  refine go_icmp_ne (pc := 27) (tgt := 39) dX10_reasonWrong_27 (by decide) (fun q7 => ?_) (fun q7 => ?_)
  · have h := h.2 q7
    refine go_lv [3, 4, 2, 1, 0] rfl ?_
    exact tX10_reasonWrong_p39 h
  · have h := h.1 q7
    refine go_iload_n (pc := 30) dX10_reasonWrong_30 rfl rfl ?_
    refine go_iconst (pc := 31) (v := (-1)) dX10_reasonWrong_31 (by decide) ?_
    refine go_icmp_ne (pc := 32) (tgt := 39) dX10_reasonWrong_32 (by decide) (fun q8 => ?_) (fun q8 => ?_)
    · have h := h.2 q8
      refine go_lv [3, 4, 2, 1, 0] rfl ?_
      exact tX10_reasonWrong_p39 h
    · have h := h.1 q8
      refine go_iconst (pc := 35) (v := 1) dX10_reasonWrong_35 (by decide) ?_
      refine go_goto (pc := 36) (tgt := 40) dX10_reasonWrong_36 (by decide) ?_
      refine go_lv [3, 4, 2, 1, 0] rfl ?_
      exact tX10_reasonWrong_p40 h
def wX10_isOne_p14 (c : gMem) (Q : Int32 → gMem → Prop) : Prop :=
  Q 1 c
set_option maxRecDepth 100000 in
set_option maxHeartbeats 4000000 in
theorem tX10_isOne_p14 {l : Launch} {G : gG} {k : Nat} {o : gMem} {Q : Int32 → gMem → Prop} {c : gMem} (h : wX10_isOne_p14 c Q) : Go l G mX10_isOne (gbq G 2 46 84 k (qi (wM G o) Q)) 14 [] [] 84 k (wM G o c) := by
  unfold wX10_isOne_p14 at h
  refine go_iconst (pc := 14) (v := 1) dX10_isOne_14 (by decide) ?_
  refine go_goto (pc := 15) (tgt := 19) dX10_isOne_15 (by decide) ?_
  exact gq_zret (pc := 19) (F := wM G o) rfl (by decide) dX10_isOne_19 h
def wX10_isOne (l1 : Int32) (c : gMem) (Q : Int32 → gMem → Prop) : Prop :=
  ((l1 = (-1) →
    wX10_isOne_p14 c Q) ∧
   (¬ l1 = (-1) →
    wX10_keptOf l1 c (fun r3 c2 =>
    ((r3 = (-1) →
      Q 0 c2) ∧
     (¬ r3 = (-1) →
      wX10_isOne_p14 c2 Q)))))
set_option maxRecDepth 100000 in
set_option maxHeartbeats 4000000 in
theorem tX10_isOne {l : Launch} {G : gG} {k : Nat} {o : gMem} {Q : Int32 → gMem → Prop} {l1 : Int32} {c : gMem} (h : wX10_isOne l1 c Q) : Cq l G mX10_isOne 2 46 [.ref (G.2.1 + 74), .int l1] 84 k (wM G o c) (qi (wM G o) Q) := by
  refine Cq.of (by decide) (Nat.le_of_ble_eq_true rfl) ?_
  show Go l G mX10_isOne (gbq G 2 46 84 k (qi (wM G o) Q)) 0 [(0, .ref (G.2.1 + 74)), (1, .int l1)] [] 84 k (wM G o c)
  unfold wX10_isOne at h
  refine go_iload_n (pc := 0) dX10_isOne_0 rfl rfl ?_
  refine go_iconst (pc := 1) (v := (-1)) dX10_isOne_1 (by decide) ?_
  refine go_icmp_eq (pc := 2) (tgt := 14) dX10_isOne_2 (by decide) (fun q1 => ?_) (fun q1 => ?_)
  · have h := h.1 q1
    refine go_lv [] rfl ?_
    exact tX10_isOne_p14 h
  · have h := h.2 q1
    refine go_aload_n (pc := 5) dX10_isOne_5 rfl rfl ?_
    refine go_iload_n (pc := 6) dX10_isOne_6 rfl rfl ?_
    refine gq_callV_i (pc := 7) (F := wM G o) vX10_249 rfl (tX10_keptOf h) rfl rfl (gz_b (by decide)) yw0 rfl (Nat.le_of_ble_eq_true rfl) ⟨Nat.le_of_ble_eq_true rfl, Nat.le_of_ble_eq_true rfl, Nat.le_add_right _ _, Nat.le_add_right _ _⟩ dX10_isOne_7 (fun r3 c2 h => ?_)
    refine go_iconst (pc := 10) (v := (-1)) dX10_isOne_10 (by decide) ?_
    refine go_icmp_eq (pc := 11) (tgt := 18) dX10_isOne_11 (by decide) (fun q4 => ?_) (fun q4 => ?_)
    · have h := h.1 q4
      refine go_iconst (pc := 18) (v := 0) dX10_isOne_18 (by decide) ?_
      exact gq_zret (pc := 19) (F := wM G o) rfl (by decide) dX10_isOne_19 h
    · have h := h.2 q4
      refine go_lv [] rfl ?_
      exact tX10_isOne_p14 h
def wX10_keptWrong_p186 (l2 : Int32) (c : gMem) (Q : Int32 → gMem → Prop) : Prop :=
  Q (l2 + 4) c
set_option maxRecDepth 100000 in
set_option maxHeartbeats 4000000 in
theorem tX10_keptWrong_p186 {l : Launch} {G : gG} {k : Nat} {o : gMem} {Q : Int32 → gMem → Prop} {l2 : Int32} {c : gMem} (h : wX10_keptWrong_p186 l2 c Q) : Go l G mX10_keptWrong (gbq G 3 73 84 k (qi (wM G o) Q)) 186 [(2, .int l2)] [] 84 k (wM G o c) := by
  unfold wX10_keptWrong_p186 at h
  refine go_iload_n (pc := 186) dX10_keptWrong_186 rfl rfl ?_
  refine go_iconst (pc := 187) (v := 4) dX10_keptWrong_187 (by decide) ?_
  refine go_iadd (pc := 188) dX10_keptWrong_188 ?_
  exact gq_iret (pc := 189) (F := wM G o) rfl dX10_keptWrong_189 h
def wX10_keptWrong_p193_b (P193 : Int32 → Int32 → gMem → Prop) (l2 : Int32) (l6 : Int32) (c : gMem) (Q : Int32 → gMem → Prop) : Prop :=
  wX10_paper (l2 + 5) c (fun r2 c1 =>
  ((r2 ≤ l6 →
    Q ((-1)) c1) ∧
   (¬ r2 ≤ l6 →
    wX10_paper ((l2 + 6) + l6) c1 (fun r5 c4 =>
    wX10_isOne r5 c4 (fun r7 c6 =>
    ((r7 = 0 →
      Q ((l2 + 6) + l6) c6) ∧
     (¬ r7 = 0 →
      P193 l2 (l6 + 1) c6)))))))
def wX10_keptWrong_p193 (l2 : Int32) (l6 : Int32) (c : gMem) (Q : Int32 → gMem → Prop) : Prop :=
  ∀ P193 : Int32 → Int32 → gMem → Prop, (∀ (l2 : Int32) (l6 : Int32) (c : gMem), wX10_keptWrong_p193_b P193 l2 l6 c Q → P193 l2 l6 c) → P193 l2 l6 c
set_option maxRecDepth 100000 in
set_option maxHeartbeats 4000000 in
theorem tX10_keptWrong_p193_b {l : Launch} {G : gG} {k : Nat} {o : gMem} {Q : Int32 → gMem → Prop} {P193 : Int32 → Int32 → gMem → Prop} (hP193 : ∀ (l2 : Int32) (l6 : Int32) (c : gMem), P193 l2 l6 c → Go l G mX10_keptWrong (gbq G 3 73 84 k (qi (wM G o) Q)) 193 [(0, .ref (G.2.1 + 74)), (2, .int l2), (6, .int l6)] [] 84 k (wM G o c)) {l2 : Int32} {l6 : Int32} {c : gMem} (h : wX10_keptWrong_p193_b P193 l2 l6 c Q) : Go l G mX10_keptWrong (gbq G 3 73 84 k (qi (wM G o) Q)) 193 [(0, .ref (G.2.1 + 74)), (2, .int l2), (6, .int l6)] [] 84 k (wM G o c) := by
  unfold wX10_keptWrong_p193_b at h
  refine go_iload (pc := 193) dX10_keptWrong_193 rfl ?_
  refine go_aload_n (pc := 195) dX10_keptWrong_195 rfl rfl ?_
  refine go_iload_n (pc := 196) dX10_keptWrong_196 rfl rfl ?_
  refine go_iconst (pc := 197) (v := 5) dX10_keptWrong_197 (by decide) ?_
  refine go_iadd (pc := 198) dX10_keptWrong_198 ?_
  refine gq_callV_i (pc := 199) (F := wM G o) vX10_237 rfl (tX10_paper h) rfl rfl (gz_b (by decide)) yw0 rfl (Nat.le_of_ble_eq_true rfl) ⟨Nat.le_of_ble_eq_true rfl, Nat.le_of_ble_eq_true rfl, Nat.le_add_right _ _, Nat.le_add_right _ _⟩ dX10_keptWrong_199 (fun r2 c1 h => ?_)
  refine go_icmp_ge (pc := 202) (tgt := 237) dX10_keptWrong_202 (by decide) (fun q3 => ?_) (fun q3 => ?_)
  · have h := h.1 q3
    refine go_iconst (pc := 237) (v := (-1)) dX10_keptWrong_237 (by decide) ?_
    exact gq_iret (pc := 238) (F := wM G o) rfl dX10_keptWrong_238 h
  · have h := h.2 q3
    refine go_aload_n (pc := 205) dX10_keptWrong_205 rfl rfl ?_
    refine go_aload_n (pc := 206) dX10_keptWrong_206 rfl rfl ?_
    refine go_iload_n (pc := 207) dX10_keptWrong_207 rfl rfl ?_
    refine go_bipush (pc := 208) (v := 6) dX10_keptWrong_208 (by decide) ?_
    refine go_iadd (pc := 210) dX10_keptWrong_210 ?_
    refine go_iload (pc := 211) dX10_keptWrong_211 rfl ?_
    refine go_iadd (pc := 213) dX10_keptWrong_213 ?_
    refine gq_callV_i (pc := 214) (F := wM G o) vX10_237 rfl (tX10_paper h) rfl rfl (gz_b (by decide)) yw0 rfl (Nat.le_of_ble_eq_true rfl) ⟨Nat.le_of_ble_eq_true rfl, Nat.le_of_ble_eq_true rfl, Nat.le_add_right _ _, Nat.le_add_right _ _⟩ dX10_keptWrong_214 (fun r5 c4 h => ?_)
    refine gq_callV_i (pc := 217) (F := wM G o) vX10_257 rfl (tX10_isOne h) rfl rfl (gz_b (by decide)) yw0 rfl (Nat.le_of_ble_eq_true rfl) ⟨Nat.le_of_ble_eq_true rfl, Nat.le_of_ble_eq_true rfl, Nat.le_add_right _ _, Nat.le_add_right _ _⟩ dX10_keptWrong_217 (fun r7 c6 h => ?_)
    refine go_if_ne (pc := 220) (tgt := 231) dX10_keptWrong_220 (by decide) (fun q8 => ?_) (fun q8 => ?_)
    · have h := h.2 q8
      refine go_iinc (pc := 231) (v := l6 + 1) (lv' := [(6, .int (l6 + 1)), (0, .ref (G.2.1 + 74)), (2, .int l2)]) dX10_keptWrong_231 2 rfl (by first | rfl | decide) (by decide) rfl ?_
      refine go_goto (pc := 234) (tgt := 193) dX10_keptWrong_234 (by decide) ?_
      refine go_lv [1, 2, 0] rfl ?_
      exact hP193 _ _ _ h
    · have h := h.1 q8
      refine go_iload_n (pc := 223) dX10_keptWrong_223 rfl rfl ?_
      refine go_bipush (pc := 224) (v := 6) dX10_keptWrong_224 (by decide) ?_
      refine go_iadd (pc := 226) dX10_keptWrong_226 ?_
      refine go_iload (pc := 227) dX10_keptWrong_227 rfl ?_
      refine go_iadd (pc := 229) dX10_keptWrong_229 ?_
      exact gq_iret (pc := 230) (F := wM G o) rfl dX10_keptWrong_230 h
set_option maxRecDepth 100000 in
set_option maxHeartbeats 4000000 in
theorem tX10_keptWrong_p193 {l : Launch} {G : gG} {k : Nat} {o : gMem} {Q : Int32 → gMem → Prop} {l2 : Int32} {l6 : Int32} {c : gMem} (h : wX10_keptWrong_p193 l2 l6 c Q) : Go l G mX10_keptWrong (gbq G 3 73 84 k (qi (wM G o) Q)) 193 [(0, .ref (G.2.1 + 74)), (2, .int l2), (6, .int l6)] [] 84 k (wM G o c) :=
  h (fun l2 l6 c => Go l G mX10_keptWrong (gbq G 3 73 84 k (qi (wM G o) Q)) 193 [(0, .ref (G.2.1 + 74)), (2, .int l2), (6, .int l6)] [] 84 k (wM G o c)) (fun l2 l6 c hb => tX10_keptWrong_p193_b (fun l2 l6 c hh => hh) hb)
def wX10_keptWrong_p190 (l2 : Int32) (c : gMem) (Q : Int32 → gMem → Prop) : Prop :=
  wX10_keptWrong_p193 l2 0 c Q
set_option maxRecDepth 100000 in
set_option maxHeartbeats 4000000 in
theorem tX10_keptWrong_p190 {l : Launch} {G : gG} {k : Nat} {o : gMem} {Q : Int32 → gMem → Prop} {l2 : Int32} {c : gMem} (h : wX10_keptWrong_p190 l2 c Q) : Go l G mX10_keptWrong (gbq G 3 73 84 k (qi (wM G o) Q)) 190 [(0, .ref (G.2.1 + 74)), (2, .int l2)] [] 84 k (wM G o c) := by
  unfold wX10_keptWrong_p190 at h
  refine go_iconst (pc := 190) (v := 0) dX10_keptWrong_190 (by decide) ?_
  refine go_istore (pc := 191) (lv' := [(6, .int 0), (0, .ref (G.2.1 + 74)), (2, .int l2)]) dX10_keptWrong_191 (by decide) rfl ?_
  refine go_lv [1, 2, 0] rfl ?_
  exact tX10_keptWrong_p193 h
def wX10_keptWrong_p143 (l2 : Int32) (l4 : Int32) (l5 : Int32) (c : gMem) (Q : Int32 → gMem → Prop) : Prop :=
  ((l5 = 0 →
    wX10_keptWrong_p186 l2 c Q) ∧
   (¬ l5 = 0 →
    wX10_paper (l2 + 1) c (fun r3 c2 =>
    ((r3 = 1 →
      wX10_paper (l2 + 2) c2 (fun r6 c5 =>
      wX10_keptOf r6 c5 (fun r8 c7 =>
      vp_in r8 501 ∧
      ∀ v9, v9 = c7 8 r8.toNatClampNeg →
      wX10_paper (v9 + 4) c7 (fun r12 c11 =>
      ((r12 < l4 →
        wX10_keptWrong_p190 l2 c11 Q) ∧
       (¬ r12 < l4 →
        wX10_keptWrong_p186 l2 c11 Q)))))) ∧
     (¬ r3 = 1 →
      wX10_keptWrong_p190 l2 c2 Q)))))
set_option maxRecDepth 100000 in
set_option maxHeartbeats 4000000 in
theorem tX10_keptWrong_p143 {l : Launch} {G : gG} {k : Nat} {o : gMem} {Q : Int32 → gMem → Prop} {l2 : Int32} {l4 : Int32} {l5 : Int32} {c : gMem} (h : wX10_keptWrong_p143 l2 l4 l5 c Q) : Go l G mX10_keptWrong (gbq G 3 73 84 k (qi (wM G o) Q)) 143 [(0, .ref (G.2.1 + 74)), (2, .int l2), (4, .int l4), (5, .int l5)] [] 84 k (wM G o c) := by
  unfold wX10_keptWrong_p143 at h
  refine go_iload (pc := 143) dX10_keptWrong_143 rfl ?_
  refine go_if_eq (pc := 145) (tgt := 186) dX10_keptWrong_145 (by decide) (fun q1 => ?_) (fun q1 => ?_)
  · have h := h.1 q1
    refine go_lv [1] rfl ?_
    exact tX10_keptWrong_p186 h
  · have h := h.2 q1
    refine go_aload_n (pc := 148) dX10_keptWrong_148 rfl rfl ?_
    refine go_iload_n (pc := 149) dX10_keptWrong_149 rfl rfl ?_
    refine go_iconst (pc := 150) (v := 1) dX10_keptWrong_150 (by decide) ?_
    refine go_iadd (pc := 151) dX10_keptWrong_151 ?_
    refine gq_callV_i (pc := 152) (F := wM G o) vX10_237 rfl (tX10_paper h) rfl rfl (gz_b (by decide)) yw0 rfl (Nat.le_of_ble_eq_true rfl) ⟨Nat.le_of_ble_eq_true rfl, Nat.le_of_ble_eq_true rfl, Nat.le_add_right _ _, Nat.le_add_right _ _⟩ dX10_keptWrong_152 (fun r3 c2 h => ?_)
    refine go_iconst (pc := 155) (v := 1) dX10_keptWrong_155 (by decide) ?_
    refine go_icmp_ne (pc := 156) (tgt := 190) dX10_keptWrong_156 (by decide) (fun q4 => ?_) (fun q4 => ?_)
    · have h := h.2 q4
      refine go_lv [0, 1] rfl ?_
      exact tX10_keptWrong_p190 h
    · have h := h.1 q4
      refine go_iload (pc := 159) dX10_keptWrong_159 rfl ?_
      refine go_aload_n (pc := 161) dX10_keptWrong_161 rfl rfl ?_
      refine go_aload_n (pc := 162) dX10_keptWrong_162 rfl rfl ?_
      refine go_get (pc := 163) fX10_32 rfl (gz_b (by decide)) yw0 rfl dX10_keptWrong_163 ?_
      refine go_aload_n (pc := 166) dX10_keptWrong_166 rfl rfl ?_
      refine go_aload_n (pc := 167) dX10_keptWrong_167 rfl rfl ?_
      refine go_iload_n (pc := 168) dX10_keptWrong_168 rfl rfl ?_
      refine go_iconst (pc := 169) (v := 2) dX10_keptWrong_169 (by decide) ?_
      refine go_iadd (pc := 170) dX10_keptWrong_170 ?_
      refine gq_callV_i (pc := 171) (F := wM G o) vX10_237 rfl (tX10_paper h) rfl rfl (gz_b (by decide)) yw0 rfl (Nat.le_of_ble_eq_true rfl) ⟨Nat.le_of_ble_eq_true rfl, Nat.le_of_ble_eq_true rfl, Nat.le_add_right _ _, Nat.le_add_right _ _⟩ dX10_keptWrong_171 (fun r6 c5 h => ?_)
      refine gq_callV_i (pc := 174) (F := wM G o) vX10_249 rfl (tX10_keptOf h) rfl rfl (gz_b (by decide)) yw0 rfl (Nat.le_of_ble_eq_true rfl) ⟨Nat.le_of_ble_eq_true rfl, Nat.le_of_ble_eq_true rfl, Nat.le_add_right _ _, Nat.le_add_right _ _⟩ dX10_keptWrong_174 (fun r8 c7 h => ?_)
      obtain ⟨b10, h⟩ := h
      refine gb_iald (pc := 177) (gz_b (by decide)) yw8 b10 dX10_keptWrong_177 (fun v9 ev9 => ?_)
      have h := h v9 ev9
      refine go_iconst (pc := 178) (v := 4) dX10_keptWrong_178 (by decide) ?_
      refine go_iadd (pc := 179) dX10_keptWrong_179 ?_
      refine gq_callV_i (pc := 180) (F := wM G o) vX10_237 rfl (tX10_paper h) rfl rfl (gz_b (by decide)) yw0 rfl (Nat.le_of_ble_eq_true rfl) ⟨Nat.le_of_ble_eq_true rfl, Nat.le_of_ble_eq_true rfl, Nat.le_add_right _ _, Nat.le_add_right _ _⟩ dX10_keptWrong_180 (fun r12 c11 h => ?_)
      refine go_icmp_gt (pc := 183) (tgt := 190) dX10_keptWrong_183 (by decide) (fun q13 => ?_) (fun q13 => ?_)
      · have h := h.1 q13
        refine go_lv [0, 1] rfl ?_
        exact tX10_keptWrong_p190 h
      · have h := h.2 q13
        refine go_lv [1] rfl ?_
        exact tX10_keptWrong_p186 h
def wX10_keptWrong_p135 (P101 : Int32 → Int32 → Int32 → Int32 → Int32 → gMem → Prop) (l1 : Int32) (l2 : Int32) (l4 : Int32) (l6 : Int32) (s0 : Int32) (c : gMem) (Q : Int32 → gMem → Prop) : Prop :=
  P101 l1 l2 l4 s0 (l6 + 1) c
set_option maxRecDepth 100000 in
set_option maxHeartbeats 4000000 in
theorem tX10_keptWrong_p135 {l : Launch} {G : gG} {k : Nat} {o : gMem} {Q : Int32 → gMem → Prop} {P101 : Int32 → Int32 → Int32 → Int32 → Int32 → gMem → Prop} (hP101 : ∀ (l1 : Int32) (l2 : Int32) (l4 : Int32) (l5 : Int32) (l6 : Int32) (c : gMem), P101 l1 l2 l4 l5 l6 c → Go l G mX10_keptWrong (gbq G 3 73 84 k (qi (wM G o) Q)) 101 [(0, .ref (G.2.1 + 74)), (1, .int l1), (2, .int l2), (4, .int l4), (5, .int l5), (6, .int l6)] [] 84 k (wM G o c)) {l1 : Int32} {l2 : Int32} {l4 : Int32} {l6 : Int32} {s0 : Int32} {c : gMem} (h : wX10_keptWrong_p135 P101 l1 l2 l4 l6 s0 c Q) : Go l G mX10_keptWrong (gbq G 3 73 84 k (qi (wM G o) Q)) 135 [(0, .ref (G.2.1 + 74)), (1, .int l1), (2, .int l2), (4, .int l4), (6, .int l6)] [.int s0] 84 k (wM G o c) := by
  unfold wX10_keptWrong_p135 at h
  refine go_istore (pc := 135) (lv' := [(5, .int s0), (0, .ref (G.2.1 + 74)), (1, .int l1), (2, .int l2), (4, .int l4), (6, .int l6)]) dX10_keptWrong_135 (by decide) rfl ?_
  refine go_iinc (pc := 137) (v := l6 + 1) (lv' := [(6, .int (l6 + 1)), (5, .int s0), (0, .ref (G.2.1 + 74)), (1, .int l1), (2, .int l2), (4, .int l4)]) dX10_keptWrong_137 5 rfl (by first | rfl | decide) (by decide) rfl ?_
  refine go_goto (pc := 140) (tgt := 101) dX10_keptWrong_140 (by decide) ?_
  refine go_lv [2, 3, 4, 5, 1, 0] rfl ?_
  exact hP101 _ _ _ _ _ _ h
def wX10_keptWrong_p101_b (P101 : Int32 → Int32 → Int32 → Int32 → Int32 → gMem → Prop) (l1 : Int32) (l2 : Int32) (l4 : Int32) (l5 : Int32) (l6 : Int32) (c : gMem) (Q : Int32 → gMem → Prop) : Prop :=
  ((l1 ≤ l6 →
    wX10_keptWrong_p143 l2 l4 l5 c Q) ∧
   (¬ l1 ≤ l6 →
    ((l5 = 0 →
      wX10_keptWrong_p143 l2 l4 l5 c Q) ∧
     (¬ l5 = 0 →
      vp_in l6 501 ∧
      ∀ v3, v3 = c 8 l6.toNatClampNeg →
      wX10_paper (v3 + 4) c (fun r6 c5 =>
      ((r6 = l4 →
        wX10_keptWrong_p135 P101 l1 l2 l4 l6 0 c5 Q) ∧
       (¬ r6 = l4 →
        wX10_keptWrong_p135 P101 l1 l2 l4 l6 1 c5 Q)))))))
def wX10_keptWrong_p101 (l1 : Int32) (l2 : Int32) (l4 : Int32) (l5 : Int32) (l6 : Int32) (c : gMem) (Q : Int32 → gMem → Prop) : Prop :=
  ∀ P101 : Int32 → Int32 → Int32 → Int32 → Int32 → gMem → Prop, (∀ (l1 : Int32) (l2 : Int32) (l4 : Int32) (l5 : Int32) (l6 : Int32) (c : gMem), wX10_keptWrong_p101_b P101 l1 l2 l4 l5 l6 c Q → P101 l1 l2 l4 l5 l6 c) → P101 l1 l2 l4 l5 l6 c
set_option maxRecDepth 100000 in
set_option maxHeartbeats 4000000 in
theorem tX10_keptWrong_p101_b {l : Launch} {G : gG} {k : Nat} {o : gMem} {Q : Int32 → gMem → Prop} {P101 : Int32 → Int32 → Int32 → Int32 → Int32 → gMem → Prop} (hP101 : ∀ (l1 : Int32) (l2 : Int32) (l4 : Int32) (l5 : Int32) (l6 : Int32) (c : gMem), P101 l1 l2 l4 l5 l6 c → Go l G mX10_keptWrong (gbq G 3 73 84 k (qi (wM G o) Q)) 101 [(0, .ref (G.2.1 + 74)), (1, .int l1), (2, .int l2), (4, .int l4), (5, .int l5), (6, .int l6)] [] 84 k (wM G o c)) {l1 : Int32} {l2 : Int32} {l4 : Int32} {l5 : Int32} {l6 : Int32} {c : gMem} (h : wX10_keptWrong_p101_b P101 l1 l2 l4 l5 l6 c Q) : Go l G mX10_keptWrong (gbq G 3 73 84 k (qi (wM G o) Q)) 101 [(0, .ref (G.2.1 + 74)), (1, .int l1), (2, .int l2), (4, .int l4), (5, .int l5), (6, .int l6)] [] 84 k (wM G o c) := by
  unfold wX10_keptWrong_p101_b at h
  refine go_iload (pc := 101) dX10_keptWrong_101 rfl ?_
  refine go_iload_n (pc := 103) dX10_keptWrong_103 rfl rfl ?_
  refine go_icmp_ge (pc := 104) (tgt := 143) dX10_keptWrong_104 (by decide) (fun q1 => ?_) (fun q1 => ?_)
  · have h := h.1 q1
    refine go_lv [0, 2, 3, 4] rfl ?_
    exact tX10_keptWrong_p143 h
  · have h := h.2 q1
    refine go_iload (pc := 107) dX10_keptWrong_107 rfl ?_
    refine go_if_eq (pc := 109) (tgt := 143) dX10_keptWrong_109 (by decide) (fun q2 => ?_) (fun q2 => ?_)
    · have h := h.1 q2
      refine go_lv [0, 2, 3, 4] rfl ?_
      exact tX10_keptWrong_p143 h
    · have h := h.2 q2
      refine go_aload_n (pc := 112) dX10_keptWrong_112 rfl rfl ?_
      refine go_aload_n (pc := 113) dX10_keptWrong_113 rfl rfl ?_
      refine go_get (pc := 114) fX10_32 rfl (gz_b (by decide)) yw0 rfl dX10_keptWrong_114 ?_
      refine go_iload (pc := 117) dX10_keptWrong_117 rfl ?_
      obtain ⟨b4, h⟩ := h
      refine gb_iald (pc := 119) (gz_b (by decide)) yw8 b4 dX10_keptWrong_119 (fun v3 ev3 => ?_)
      have h := h v3 ev3
      refine go_iconst (pc := 120) (v := 4) dX10_keptWrong_120 (by decide) ?_
      refine go_iadd (pc := 121) dX10_keptWrong_121 ?_
      refine gq_callV_i (pc := 122) (F := wM G o) vX10_237 rfl (tX10_paper h) rfl rfl (gz_b (by decide)) yw0 rfl (Nat.le_of_ble_eq_true rfl) ⟨Nat.le_of_ble_eq_true rfl, Nat.le_of_ble_eq_true rfl, Nat.le_add_right _ _, Nat.le_add_right _ _⟩ dX10_keptWrong_122 (fun r6 c5 h => ?_)
      refine go_iload (pc := 125) dX10_keptWrong_125 rfl ?_
      refine go_icmp_eq (pc := 127) (tgt := 134) dX10_keptWrong_127 (by decide) (fun q7 => ?_) (fun q7 => ?_)
      · have h := h.1 q7
        refine go_iconst (pc := 134) (v := 0) dX10_keptWrong_134 (by decide) ?_
        refine go_lv [0, 1, 2, 3, 5] rfl ?_
        exact tX10_keptWrong_p135 hP101 h
      · have h := h.2 q7
        refine go_iconst (pc := 130) (v := 1) dX10_keptWrong_130 (by decide) ?_
        refine go_goto (pc := 131) (tgt := 135) dX10_keptWrong_131 (by decide) ?_
        refine go_lv [0, 1, 2, 3, 5] rfl ?_
        exact tX10_keptWrong_p135 hP101 h
set_option maxRecDepth 100000 in
set_option maxHeartbeats 4000000 in
theorem tX10_keptWrong_p101 {l : Launch} {G : gG} {k : Nat} {o : gMem} {Q : Int32 → gMem → Prop} {l1 : Int32} {l2 : Int32} {l4 : Int32} {l5 : Int32} {l6 : Int32} {c : gMem} (h : wX10_keptWrong_p101 l1 l2 l4 l5 l6 c Q) : Go l G mX10_keptWrong (gbq G 3 73 84 k (qi (wM G o) Q)) 101 [(0, .ref (G.2.1 + 74)), (1, .int l1), (2, .int l2), (4, .int l4), (5, .int l5), (6, .int l6)] [] 84 k (wM G o c) :=
  h (fun l1 l2 l4 l5 l6 c => Go l G mX10_keptWrong (gbq G 3 73 84 k (qi (wM G o) Q)) 101 [(0, .ref (G.2.1 + 74)), (1, .int l1), (2, .int l2), (4, .int l4), (5, .int l5), (6, .int l6)] [] 84 k (wM G o c)) (fun l1 l2 l4 l5 l6 c hb => tX10_keptWrong_p101_b (fun l1 l2 l4 l5 l6 c hh => hh) hb)
def wX10_keptWrong (l1 : Int32) (c : gMem) (Q : Int32 → gMem → Prop) : Prop :=
  vp_in l1 501 ∧
  ∀ v1, v1 = c 8 l1.toNatClampNeg →
  wX10_paper v1 c (fun r4 c3 =>
  wX10_in r4.toInt64 0 499 c3 (fun r6 c5 =>
  ((r6 = 0 →
    Q v1 c5) ∧
   (¬ r6 = 0 →
    wX10_paper v1 c5 (fun r9 c8 =>
    wX10_keptOf r9 c8 (fun r11 c10 =>
    ((l1 ≤ r11 →
      wX10_paper (v1 + 1) c10 (fun r14 c13 =>
      wX10_in r14.toInt64 0 5 c13 (fun r16 c15 =>
      ((r16 = 0 →
        Q (v1 + 1) c15) ∧
       (¬ r16 = 0 →
        wX10_reasonWrong v1 c15 (fun r19 c18 =>
        ((r19 = (-1) →
          wX10_paper (v1 + 4) c18 (fun r22 c21 =>
          wX10_paper 24 c21 (fun r24 c23 =>
          wX10_in r22.toInt64 1 r24.toInt64 c23 (fun r26 c25 =>
          wX10_keptWrong_p101 l1 v1 r22 r26 0 c25 Q)))) ∧
         (¬ r19 = (-1) →
          Q r19 c18)))))))) ∧
     (¬ l1 ≤ r11 →
      Q v1 c10))))))))
set_option maxRecDepth 100000 in
set_option maxHeartbeats 4000000 in
theorem tX10_keptWrong {l : Launch} {G : gG} {k : Nat} {o : gMem} {Q : Int32 → gMem → Prop} {l1 : Int32} {c : gMem} (h : wX10_keptWrong l1 c Q) : Cq l G mX10_keptWrong 3 73 [.ref (G.2.1 + 74), .int l1] 84 k (wM G o c) (qi (wM G o) Q) := by
  refine Cq.of (by decide) (Nat.le_of_ble_eq_true rfl) ?_
  show Go l G mX10_keptWrong (gbq G 3 73 84 k (qi (wM G o) Q)) 0 [(0, .ref (G.2.1 + 74)), (1, .int l1)] [] 84 k (wM G o c)
  unfold wX10_keptWrong at h
  refine go_aload_n (pc := 0) dX10_keptWrong_0 rfl rfl ?_
  refine go_get (pc := 1) fX10_32 rfl (gz_b (by decide)) yw0 rfl dX10_keptWrong_1 ?_
  refine go_iload_n (pc := 4) dX10_keptWrong_4 rfl rfl ?_
  obtain ⟨b2, h⟩ := h
  refine gb_iald (pc := 5) (gz_b (by decide)) yw8 b2 dX10_keptWrong_5 (fun v1 ev1 => ?_)
  have h := h v1 ev1
  refine go_istore_n (pc := 6) (lv' := [(2, .int v1), (0, .ref (G.2.1 + 74)), (1, .int l1)]) dX10_keptWrong_6 rfl (by decide) rfl ?_
  refine go_aload_n (pc := 7) dX10_keptWrong_7 rfl rfl ?_
  refine go_iload_n (pc := 8) dX10_keptWrong_8 rfl rfl ?_
  refine gq_callV_i (pc := 9) (F := wM G o) vX10_237 rfl (tX10_paper h) rfl rfl (gz_b (by decide)) yw0 rfl (Nat.le_of_ble_eq_true rfl) ⟨Nat.le_of_ble_eq_true rfl, Nat.le_of_ble_eq_true rfl, Nat.le_add_right _ _, Nat.le_add_right _ _⟩ dX10_keptWrong_9 (fun r4 c3 h => ?_)
  refine go_i2l (pc := 12) dX10_keptWrong_12 ?_
  refine go_lconst (pc := 13) (v := 0) dX10_keptWrong_13 (by decide) ?_
  refine go_ldc2 (pc := 14) rfl qX10_247 dX10_keptWrong_14 ?_
  refine gq_callS_i (pc := 17) (F := wM G o) sX10_63 rfl (tX10_in h) rfl rfl (Nat.le_of_ble_eq_true rfl) ⟨Nat.le_of_ble_eq_true rfl, Nat.le_of_ble_eq_true rfl, Nat.le_add_right _ _, Nat.le_add_right _ _⟩ dX10_keptWrong_17 (fun r6 c5 h => ?_)
  refine go_if_eq (pc := 20) (tgt := 36) dX10_keptWrong_20 (by decide) (fun q7 => ?_) (fun q7 => ?_)
  · have h := h.1 q7
    refine go_iload_n (pc := 36) dX10_keptWrong_36 rfl rfl ?_
    exact gq_iret (pc := 37) (F := wM G o) rfl dX10_keptWrong_37 h
  · have h := h.2 q7
    refine go_aload_n (pc := 23) dX10_keptWrong_23 rfl rfl ?_
    refine go_aload_n (pc := 24) dX10_keptWrong_24 rfl rfl ?_
    refine go_iload_n (pc := 25) dX10_keptWrong_25 rfl rfl ?_
    refine gq_callV_i (pc := 26) (F := wM G o) vX10_237 rfl (tX10_paper h) rfl rfl (gz_b (by decide)) yw0 rfl (Nat.le_of_ble_eq_true rfl) ⟨Nat.le_of_ble_eq_true rfl, Nat.le_of_ble_eq_true rfl, Nat.le_add_right _ _, Nat.le_add_right _ _⟩ dX10_keptWrong_26 (fun r9 c8 h => ?_)
    refine gq_callV_i (pc := 29) (F := wM G o) vX10_249 rfl (tX10_keptOf h) rfl rfl (gz_b (by decide)) yw0 rfl (Nat.le_of_ble_eq_true rfl) ⟨Nat.le_of_ble_eq_true rfl, Nat.le_of_ble_eq_true rfl, Nat.le_add_right _ _, Nat.le_add_right _ _⟩ dX10_keptWrong_29 (fun r11 c10 h => ?_)
    refine go_iload_n (pc := 32) dX10_keptWrong_32 rfl rfl ?_
    refine go_icmp_ge (pc := 33) (tgt := 38) dX10_keptWrong_33 (by decide) (fun q12 => ?_) (fun q12 => ?_)
    · have h := h.1 q12
      refine go_aload_n (pc := 38) dX10_keptWrong_38 rfl rfl ?_
      refine go_iload_n (pc := 39) dX10_keptWrong_39 rfl rfl ?_
      refine go_iconst (pc := 40) (v := 1) dX10_keptWrong_40 (by decide) ?_
      refine go_iadd (pc := 41) dX10_keptWrong_41 ?_
      refine gq_callV_i (pc := 42) (F := wM G o) vX10_237 rfl (tX10_paper h) rfl rfl (gz_b (by decide)) yw0 rfl (Nat.le_of_ble_eq_true rfl) ⟨Nat.le_of_ble_eq_true rfl, Nat.le_of_ble_eq_true rfl, Nat.le_add_right _ _, Nat.le_add_right _ _⟩ dX10_keptWrong_42 (fun r14 c13 h => ?_)
      refine go_i2l (pc := 45) dX10_keptWrong_45 ?_
      refine go_lconst (pc := 46) (v := 0) dX10_keptWrong_46 (by decide) ?_
      refine go_ldc2 (pc := 47) rfl qX10_150 dX10_keptWrong_47 ?_
      refine gq_callS_i (pc := 50) (F := wM G o) sX10_63 rfl (tX10_in h) rfl rfl (Nat.le_of_ble_eq_true rfl) ⟨Nat.le_of_ble_eq_true rfl, Nat.le_of_ble_eq_true rfl, Nat.le_add_right _ _, Nat.le_add_right _ _⟩ dX10_keptWrong_50 (fun r16 c15 h => ?_)
      refine go_if_ne (pc := 53) (tgt := 60) dX10_keptWrong_53 (by decide) (fun q17 => ?_) (fun q17 => ?_)
      · have h := h.2 q17
        refine go_aload_n (pc := 60) dX10_keptWrong_60 rfl rfl ?_
        refine go_iload_n (pc := 61) dX10_keptWrong_61 rfl rfl ?_
        refine gq_callV_i (pc := 62) (F := wM G o) vX10_254 rfl (tX10_reasonWrong h) rfl rfl (gz_b (by decide)) yw0 rfl (Nat.le_of_ble_eq_true rfl) ⟨Nat.le_of_ble_eq_true rfl, Nat.le_of_ble_eq_true rfl, Nat.le_add_right _ _, Nat.le_add_right _ _⟩ dX10_keptWrong_62 (fun r19 c18 h => ?_)
        refine go_istore_n (pc := 65) (lv' := [(3, .int r19), (2, .int v1), (0, .ref (G.2.1 + 74)), (1, .int l1)]) dX10_keptWrong_65 rfl (by decide) rfl ?_
        refine go_iload_n (pc := 66) dX10_keptWrong_66 rfl rfl ?_
        refine go_iconst (pc := 67) (v := (-1)) dX10_keptWrong_67 (by decide) ?_
        refine go_icmp_eq (pc := 68) (tgt := 73) dX10_keptWrong_68 (by decide) (fun q20 => ?_) (fun q20 => ?_)
        · have h := h.1 q20
          refine go_aload_n (pc := 73) dX10_keptWrong_73 rfl rfl ?_
          refine go_iload_n (pc := 74) dX10_keptWrong_74 rfl rfl ?_
          refine go_iconst (pc := 75) (v := 4) dX10_keptWrong_75 (by decide) ?_
          refine go_iadd (pc := 76) dX10_keptWrong_76 ?_
          refine gq_callV_i (pc := 77) (F := wM G o) vX10_237 rfl (tX10_paper h) rfl rfl (gz_b (by decide)) yw0 rfl (Nat.le_of_ble_eq_true rfl) ⟨Nat.le_of_ble_eq_true rfl, Nat.le_of_ble_eq_true rfl, Nat.le_add_right _ _, Nat.le_add_right _ _⟩ dX10_keptWrong_77 (fun r22 c21 h => ?_)
          refine go_istore (pc := 80) (lv' := [(4, .int r22), (3, .int r19), (2, .int v1), (0, .ref (G.2.1 + 74)), (1, .int l1)]) dX10_keptWrong_80 (by decide) rfl ?_
          refine go_iload (pc := 82) dX10_keptWrong_82 rfl ?_
          refine go_i2l (pc := 84) dX10_keptWrong_84 ?_
          refine go_lconst (pc := 85) (v := 1) dX10_keptWrong_85 (by decide) ?_
          refine go_aload_n (pc := 86) dX10_keptWrong_86 rfl rfl ?_
          refine go_bipush (pc := 87) (v := 24) dX10_keptWrong_87 (by decide) ?_
          refine gq_callV_i (pc := 89) (F := wM G o) vX10_237 rfl (tX10_paper h) rfl rfl (gz_b (by decide)) yw0 rfl (Nat.le_of_ble_eq_true rfl) ⟨Nat.le_of_ble_eq_true rfl, Nat.le_of_ble_eq_true rfl, Nat.le_add_right _ _, Nat.le_add_right _ _⟩ dX10_keptWrong_89 (fun r24 c23 h => ?_)
          refine go_i2l (pc := 92) dX10_keptWrong_92 ?_
          refine gq_callS_i (pc := 93) (F := wM G o) sX10_63 rfl (tX10_in h) rfl rfl (Nat.le_of_ble_eq_true rfl) ⟨Nat.le_of_ble_eq_true rfl, Nat.le_of_ble_eq_true rfl, Nat.le_add_right _ _, Nat.le_add_right _ _⟩ dX10_keptWrong_93 (fun r26 c25 h => ?_)
          refine go_istore (pc := 96) (lv' := [(5, .int r26), (4, .int r22), (3, .int r19), (2, .int v1), (0, .ref (G.2.1 + 74)), (1, .int l1)]) dX10_keptWrong_96 (by decide) rfl ?_
          refine go_iconst (pc := 98) (v := 0) dX10_keptWrong_98 (by decide) ?_
          refine go_istore (pc := 99) (lv' := [(6, .int 0), (5, .int r26), (4, .int r22), (3, .int r19), (2, .int v1), (0, .ref (G.2.1 + 74)), (1, .int l1)]) dX10_keptWrong_99 (by decide) rfl ?_
          refine go_lv [5, 6, 4, 2, 1, 0] rfl ?_
          exact tX10_keptWrong_p101 h
        · have h := h.2 q20
          refine go_iload_n (pc := 71) dX10_keptWrong_71 rfl rfl ?_
          exact gq_iret (pc := 72) (F := wM G o) rfl dX10_keptWrong_72 h
      · have h := h.1 q17
        refine go_iload_n (pc := 56) dX10_keptWrong_56 rfl rfl ?_
        refine go_iconst (pc := 57) (v := 1) dX10_keptWrong_57 (by decide) ?_
        refine go_iadd (pc := 58) dX10_keptWrong_58 ?_
        exact gq_iret (pc := 59) (F := wM G o) rfl dX10_keptWrong_59 h
    · have h := h.2 q12
      refine go_iload_n (pc := 36) dX10_keptWrong_36 rfl rfl ?_
      exact gq_iret (pc := 37) (F := wM G o) rfl dX10_keptWrong_37 h
def wX10_meaningWrong_p72_b (P72 : Int32 → Int32 → gMem → Prop) (l1 : Int32) (l2 : Int32) (c : gMem) (Q : Int32 → gMem → Prop) : Prop :=
  ∀ v1, v1 = c 1 15 →
  ((v1 - 1 ≤ l2 →
    Q ((-1)) c) ∧
   (¬ v1 - 1 ≤ l2 →
    wX10_paper l2 c (fun r4 c3 =>
    ((r4 ≤ l1 →
      Q l2 c3) ∧
     (¬ r4 ≤ l1 →
      wX10_paper l2 c3 (fun r7 c6 =>
      ((499 < r7 →
        Q l2 c6) ∧
       (¬ 499 < r7 →
        wX10_paper l2 c6 (fun r10 c9 =>
        wX10_keptOf r10 c9 (fun r12 c11 =>
        ((r12 = (-1) →
          wX10_paper l2 c11 (fun r15 c14 =>
          P72 r15 (l2 + 1) c14)) ∧
         (¬ r12 = (-1) →
          Q l2 c11))))))))))))
def wX10_meaningWrong_p72 (l1 : Int32) (l2 : Int32) (c : gMem) (Q : Int32 → gMem → Prop) : Prop :=
  ∀ P72 : Int32 → Int32 → gMem → Prop, (∀ (l1 : Int32) (l2 : Int32) (c : gMem), wX10_meaningWrong_p72_b P72 l1 l2 c Q → P72 l1 l2 c) → P72 l1 l2 c
set_option maxRecDepth 100000 in
set_option maxHeartbeats 4000000 in
theorem tX10_meaningWrong_p72_b {l : Launch} {G : gG} {k : Nat} {o : gMem} {Q : Int32 → gMem → Prop} {P72 : Int32 → Int32 → gMem → Prop} (hP72 : ∀ (l1 : Int32) (l2 : Int32) (c : gMem), P72 l1 l2 c → Go l G mX10_meaningWrong (gbq G 4 99 84 k (qi (wM G o) Q)) 72 [(0, .ref (G.2.1 + 74)), (1, .int l1), (2, .int l2)] [] 84 k (wM G o c)) {l1 : Int32} {l2 : Int32} {c : gMem} (h : wX10_meaningWrong_p72_b P72 l1 l2 c Q) : Go l G mX10_meaningWrong (gbq G 4 99 84 k (qi (wM G o) Q)) 72 [(0, .ref (G.2.1 + 74)), (1, .int l1), (2, .int l2)] [] 84 k (wM G o c) := by
  unfold wX10_meaningWrong_p72_b at h
  refine go_iload_n (pc := 72) dX10_meaningWrong_72 rfl rfl ?_
  refine go_aload_n (pc := 73) dX10_meaningWrong_73 rfl rfl ?_
  refine go_get (pc := 74) fX10_9 rfl (gz_b (by decide)) yw0 rfl dX10_meaningWrong_74 ?_
  refine go_bipush (pc := 77) (v := 15) dX10_meaningWrong_77 (by decide) ?_
  refine gb_iald (pc := 79) (gz_b (by decide)) yw1 (gv_in (by decide)) dX10_meaningWrong_79 (fun v1 ev1 => ?_)
  have h := h v1 ev1
  refine go_iconst (pc := 80) (v := 1) dX10_meaningWrong_80 (by decide) ?_
  refine go_isub (pc := 81) dX10_meaningWrong_81 ?_
  refine go_icmp_ge (pc := 82) (tgt := 132) dX10_meaningWrong_82 (by decide) (fun q2 => ?_) (fun q2 => ?_)
  · have h := h.1 q2
    refine go_iconst (pc := 132) (v := (-1)) dX10_meaningWrong_132 (by decide) ?_
    exact gq_iret (pc := 133) (F := wM G o) rfl dX10_meaningWrong_133 h
  · have h := h.2 q2
    refine go_aload_n (pc := 85) dX10_meaningWrong_85 rfl rfl ?_
    refine go_iload_n (pc := 86) dX10_meaningWrong_86 rfl rfl ?_
    refine gq_callV_i (pc := 87) (F := wM G o) vX10_237 rfl (tX10_paper h) rfl rfl (gz_b (by decide)) yw0 rfl (Nat.le_of_ble_eq_true rfl) ⟨Nat.le_of_ble_eq_true rfl, Nat.le_of_ble_eq_true rfl, Nat.le_add_right _ _, Nat.le_add_right _ _⟩ dX10_meaningWrong_87 (fun r4 c3 h => ?_)
    refine go_iload_n (pc := 90) dX10_meaningWrong_90 rfl rfl ?_
    refine go_icmp_le (pc := 91) (tgt := 118) dX10_meaningWrong_91 (by decide) (fun q5 => ?_) (fun q5 => ?_)
    · have h := h.1 q5
      refine go_iload_n (pc := 118) dX10_meaningWrong_118 rfl rfl ?_
      exact gq_iret (pc := 119) (F := wM G o) rfl dX10_meaningWrong_119 h
    · have h := h.2 q5
      refine go_aload_n (pc := 94) dX10_meaningWrong_94 rfl rfl ?_
      refine go_iload_n (pc := 95) dX10_meaningWrong_95 rfl rfl ?_
      refine gq_callV_i (pc := 96) (F := wM G o) vX10_237 rfl (tX10_paper h) rfl rfl (gz_b (by decide)) yw0 rfl (Nat.le_of_ble_eq_true rfl) ⟨Nat.le_of_ble_eq_true rfl, Nat.le_of_ble_eq_true rfl, Nat.le_add_right _ _, Nat.le_add_right _ _⟩ dX10_meaningWrong_96 (fun r7 c6 h => ?_)
      refine go_sipush (pc := 99) (v := 499) dX10_meaningWrong_99 (by decide) ?_
      refine go_icmp_gt (pc := 102) (tgt := 118) dX10_meaningWrong_102 (by decide) (fun q8 => ?_) (fun q8 => ?_)
      · have h := h.1 q8
        refine go_iload_n (pc := 118) dX10_meaningWrong_118 rfl rfl ?_
        exact gq_iret (pc := 119) (F := wM G o) rfl dX10_meaningWrong_119 h
      · have h := h.2 q8
        refine go_aload_n (pc := 105) dX10_meaningWrong_105 rfl rfl ?_
        refine go_aload_n (pc := 106) dX10_meaningWrong_106 rfl rfl ?_
        refine go_iload_n (pc := 107) dX10_meaningWrong_107 rfl rfl ?_
        refine gq_callV_i (pc := 108) (F := wM G o) vX10_237 rfl (tX10_paper h) rfl rfl (gz_b (by decide)) yw0 rfl (Nat.le_of_ble_eq_true rfl) ⟨Nat.le_of_ble_eq_true rfl, Nat.le_of_ble_eq_true rfl, Nat.le_add_right _ _, Nat.le_add_right _ _⟩ dX10_meaningWrong_108 (fun r10 c9 h => ?_)
        refine gq_callV_i (pc := 111) (F := wM G o) vX10_249 rfl (tX10_keptOf h) rfl rfl (gz_b (by decide)) yw0 rfl (Nat.le_of_ble_eq_true rfl) ⟨Nat.le_of_ble_eq_true rfl, Nat.le_of_ble_eq_true rfl, Nat.le_add_right _ _, Nat.le_add_right _ _⟩ dX10_meaningWrong_111 (fun r12 c11 h => ?_)
        refine go_iconst (pc := 114) (v := (-1)) dX10_meaningWrong_114 (by decide) ?_
        refine go_icmp_eq (pc := 115) (tgt := 120) dX10_meaningWrong_115 (by decide) (fun q13 => ?_) (fun q13 => ?_)
        · have h := h.1 q13
          refine go_aload_n (pc := 120) dX10_meaningWrong_120 rfl rfl ?_
          refine go_iload_n (pc := 121) dX10_meaningWrong_121 rfl rfl ?_
          refine gq_callV_i (pc := 122) (F := wM G o) vX10_237 rfl (tX10_paper h) rfl rfl (gz_b (by decide)) yw0 rfl (Nat.le_of_ble_eq_true rfl) ⟨Nat.le_of_ble_eq_true rfl, Nat.le_of_ble_eq_true rfl, Nat.le_add_right _ _, Nat.le_add_right _ _⟩ dX10_meaningWrong_122 (fun r15 c14 h => ?_)
          refine go_istore_n (pc := 125) (lv' := [(1, .int r15), (0, .ref (G.2.1 + 74)), (2, .int l2)]) dX10_meaningWrong_125 rfl (by decide) rfl ?_
          refine go_iinc (pc := 126) (v := l2 + 1) (lv' := [(2, .int (l2 + 1)), (1, .int r15), (0, .ref (G.2.1 + 74))]) dX10_meaningWrong_126 2 rfl (by first | rfl | decide) (by decide) rfl ?_
          refine go_goto (pc := 129) (tgt := 72) dX10_meaningWrong_129 (by decide) ?_
          refine go_lv [2, 1, 0] rfl ?_
          exact hP72 _ _ _ h
        · have h := h.2 q13
          refine go_iload_n (pc := 118) dX10_meaningWrong_118 rfl rfl ?_
          exact gq_iret (pc := 119) (F := wM G o) rfl dX10_meaningWrong_119 h
set_option maxRecDepth 100000 in
set_option maxHeartbeats 4000000 in
theorem tX10_meaningWrong_p72 {l : Launch} {G : gG} {k : Nat} {o : gMem} {Q : Int32 → gMem → Prop} {l1 : Int32} {l2 : Int32} {c : gMem} (h : wX10_meaningWrong_p72 l1 l2 c Q) : Go l G mX10_meaningWrong (gbq G 4 99 84 k (qi (wM G o) Q)) 72 [(0, .ref (G.2.1 + 74)), (1, .int l1), (2, .int l2)] [] 84 k (wM G o c) :=
  h (fun l1 l2 c => Go l G mX10_meaningWrong (gbq G 4 99 84 k (qi (wM G o) Q)) 72 [(0, .ref (G.2.1 + 74)), (1, .int l1), (2, .int l2)] [] 84 k (wM G o c)) (fun l1 l2 c hb => tX10_meaningWrong_p72_b (fun l1 l2 c hh => hh) hb)
def wX10_meaningWrong_p34_b (P34 : Int32 → gMem → Prop) (l1 : Int32) (c : gMem) (Q : Int32 → gMem → Prop) : Prop :=
  wX10_paper 24 c (fun r2 c1 =>
  ((r2 ≤ l1 →
    ∀ v4, v4 = c1 0 14 →
    wX10_meaningWrong_p72 ((-1)) (v4 + 1) c1 Q) ∧
   (¬ r2 ≤ l1 →
    wX10_keptWrong l1 c1 (fun r6 c5 =>
    ((r6 = (-1) →
      P34 (l1 + 1) c5) ∧
     (¬ r6 = (-1) →
      Q r6 c5))))))
def wX10_meaningWrong_p34 (l1 : Int32) (c : gMem) (Q : Int32 → gMem → Prop) : Prop :=
  ∀ P34 : Int32 → gMem → Prop, (∀ (l1 : Int32) (c : gMem), wX10_meaningWrong_p34_b P34 l1 c Q → P34 l1 c) → P34 l1 c
set_option maxRecDepth 100000 in
set_option maxHeartbeats 4000000 in
theorem tX10_meaningWrong_p34_b {l : Launch} {G : gG} {k : Nat} {o : gMem} {Q : Int32 → gMem → Prop} {P34 : Int32 → gMem → Prop} (hP34 : ∀ (l1 : Int32) (c : gMem), P34 l1 c → Go l G mX10_meaningWrong (gbq G 4 99 84 k (qi (wM G o) Q)) 34 [(0, .ref (G.2.1 + 74)), (1, .int l1)] [] 84 k (wM G o c)) {l1 : Int32} {c : gMem} (h : wX10_meaningWrong_p34_b P34 l1 c Q) : Go l G mX10_meaningWrong (gbq G 4 99 84 k (qi (wM G o) Q)) 34 [(0, .ref (G.2.1 + 74)), (1, .int l1)] [] 84 k (wM G o c) := by
  unfold wX10_meaningWrong_p34_b at h
  refine go_iload_n (pc := 34) dX10_meaningWrong_34 rfl rfl ?_
  refine go_aload_n (pc := 35) dX10_meaningWrong_35 rfl rfl ?_
  refine go_bipush (pc := 36) (v := 24) dX10_meaningWrong_36 (by decide) ?_
  refine gq_callV_i (pc := 38) (F := wM G o) vX10_237 rfl (tX10_paper h) rfl rfl (gz_b (by decide)) yw0 rfl (Nat.le_of_ble_eq_true rfl) ⟨Nat.le_of_ble_eq_true rfl, Nat.le_of_ble_eq_true rfl, Nat.le_add_right _ _, Nat.le_add_right _ _⟩ dX10_meaningWrong_38 (fun r2 c1 h => ?_)
  refine go_icmp_ge (pc := 41) (tgt := 63) dX10_meaningWrong_41 (by decide) (fun q3 => ?_) (fun q3 => ?_)
  · have h := h.1 q3
    refine go_iconst (pc := 63) (v := (-1)) dX10_meaningWrong_63 (by decide) ?_
    refine go_istore_n (pc := 64) (lv' := [(1, .int ((-1))), (0, .ref (G.2.1 + 74))]) dX10_meaningWrong_64 rfl (by decide) rfl ?_
    refine go_aload_n (pc := 65) dX10_meaningWrong_65 rfl rfl ?_
    refine gb_get (pc := 66) fX10_244 rfl (gz_b (by decide)) yw0 rfl dX10_meaningWrong_66 (fun v4 ev4 => ?_)
    have h := h v4 ev4
    refine go_iconst (pc := 69) (v := 1) dX10_meaningWrong_69 (by decide) ?_
    refine go_iadd (pc := 70) dX10_meaningWrong_70 ?_
    refine go_istore_n (pc := 71) (lv' := [(2, .int (v4 + 1)), (1, .int ((-1))), (0, .ref (G.2.1 + 74))]) dX10_meaningWrong_71 rfl (by decide) rfl ?_
    refine go_lv [2, 1, 0] rfl ?_
    exact tX10_meaningWrong_p72 h
  · have h := h.2 q3
    refine go_aload_n (pc := 44) dX10_meaningWrong_44 rfl rfl ?_
    refine go_iload_n (pc := 45) dX10_meaningWrong_45 rfl rfl ?_
    refine gq_callV_i (pc := 46) (F := wM G o) vX10_263 rfl (tX10_keptWrong h) rfl rfl (gz_b (by decide)) yw0 rfl (Nat.le_of_ble_eq_true rfl) ⟨Nat.le_of_ble_eq_true rfl, Nat.le_of_ble_eq_true rfl, Nat.le_add_right _ _, Nat.le_add_right _ _⟩ dX10_meaningWrong_46 (fun r6 c5 h => ?_)
    refine go_istore_n (pc := 49) (lv' := [(2, .int r6), (0, .ref (G.2.1 + 74)), (1, .int l1)]) dX10_meaningWrong_49 rfl (by decide) rfl ?_
    refine go_iload_n (pc := 50) dX10_meaningWrong_50 rfl rfl ?_
    refine go_iconst (pc := 51) (v := (-1)) dX10_meaningWrong_51 (by decide) ?_
    refine go_icmp_eq (pc := 52) (tgt := 57) dX10_meaningWrong_52 (by decide) (fun q7 => ?_) (fun q7 => ?_)
    · have h := h.1 q7
      refine go_iinc (pc := 57) (v := l1 + 1) (lv' := [(1, .int (l1 + 1)), (2, .int r6), (0, .ref (G.2.1 + 74))]) dX10_meaningWrong_57 2 rfl (by first | rfl | decide) (by decide) rfl ?_
      refine go_goto (pc := 60) (tgt := 34) dX10_meaningWrong_60 (by decide) ?_
      refine go_lv [2, 0] rfl ?_
      exact hP34 _ _ h
    · have h := h.2 q7
      refine go_iload_n (pc := 55) dX10_meaningWrong_55 rfl rfl ?_
      exact gq_iret (pc := 56) (F := wM G o) rfl dX10_meaningWrong_56 h
set_option maxRecDepth 100000 in
set_option maxHeartbeats 4000000 in
theorem tX10_meaningWrong_p34 {l : Launch} {G : gG} {k : Nat} {o : gMem} {Q : Int32 → gMem → Prop} {l1 : Int32} {c : gMem} (h : wX10_meaningWrong_p34 l1 c Q) : Go l G mX10_meaningWrong (gbq G 4 99 84 k (qi (wM G o) Q)) 34 [(0, .ref (G.2.1 + 74)), (1, .int l1)] [] 84 k (wM G o c) :=
  h (fun l1 c => Go l G mX10_meaningWrong (gbq G 4 99 84 k (qi (wM G o) Q)) 34 [(0, .ref (G.2.1 + 74)), (1, .int l1)] [] 84 k (wM G o c)) (fun l1 c hb => tX10_meaningWrong_p34_b (fun l1 c hh => hh) hb)
def wX10_meaningWrong_p6_b (P6 : Int32 → gMem → Prop) (l1 : Int32) (c : gMem) (Q : Int32 → gMem → Prop) : Prop :=
  ((24 ≤ l1 →
    wX10_meaningWrong_p34 0 c Q) ∧
   (¬ 24 ≤ l1 →
    wX10_paper l1 c (fun r3 c2 =>
    wX10_isOne r3 c2 (fun r5 c4 =>
    ((r5 = 0 →
      Q l1 c4) ∧
     (¬ r5 = 0 →
      P6 (l1 + 1) c4))))))
def wX10_meaningWrong_p6 (l1 : Int32) (c : gMem) (Q : Int32 → gMem → Prop) : Prop :=
  ∀ P6 : Int32 → gMem → Prop, (∀ (l1 : Int32) (c : gMem), wX10_meaningWrong_p6_b P6 l1 c Q → P6 l1 c) → P6 l1 c
set_option maxRecDepth 100000 in
set_option maxHeartbeats 4000000 in
theorem tX10_meaningWrong_p6_b {l : Launch} {G : gG} {k : Nat} {o : gMem} {Q : Int32 → gMem → Prop} {P6 : Int32 → gMem → Prop} (hP6 : ∀ (l1 : Int32) (c : gMem), P6 l1 c → Go l G mX10_meaningWrong (gbq G 4 99 84 k (qi (wM G o) Q)) 6 [(0, .ref (G.2.1 + 74)), (1, .int l1)] [] 84 k (wM G o c)) {l1 : Int32} {c : gMem} (h : wX10_meaningWrong_p6_b P6 l1 c Q) : Go l G mX10_meaningWrong (gbq G 4 99 84 k (qi (wM G o) Q)) 6 [(0, .ref (G.2.1 + 74)), (1, .int l1)] [] 84 k (wM G o c) := by
  unfold wX10_meaningWrong_p6_b at h
  refine go_iload_n (pc := 6) dX10_meaningWrong_6 rfl rfl ?_
  refine go_bipush (pc := 7) (v := 24) dX10_meaningWrong_7 (by decide) ?_
  refine go_icmp_ge (pc := 9) (tgt := 32) dX10_meaningWrong_9 (by decide) (fun q1 => ?_) (fun q1 => ?_)
  · have h := h.1 q1
    refine go_iconst (pc := 32) (v := 0) dX10_meaningWrong_32 (by decide) ?_
    refine go_istore_n (pc := 33) (lv' := [(1, .int 0), (0, .ref (G.2.1 + 74))]) dX10_meaningWrong_33 rfl (by decide) rfl ?_
    refine go_lv [1, 0] rfl ?_
    exact tX10_meaningWrong_p34 h
  · have h := h.2 q1
    refine go_aload_n (pc := 12) dX10_meaningWrong_12 rfl rfl ?_
    refine go_aload_n (pc := 13) dX10_meaningWrong_13 rfl rfl ?_
    refine go_iload_n (pc := 14) dX10_meaningWrong_14 rfl rfl ?_
    refine gq_callV_i (pc := 15) (F := wM G o) vX10_237 rfl (tX10_paper h) rfl rfl (gz_b (by decide)) yw0 rfl (Nat.le_of_ble_eq_true rfl) ⟨Nat.le_of_ble_eq_true rfl, Nat.le_of_ble_eq_true rfl, Nat.le_add_right _ _, Nat.le_add_right _ _⟩ dX10_meaningWrong_15 (fun r3 c2 h => ?_)
    refine gq_callV_i (pc := 18) (F := wM G o) vX10_257 rfl (tX10_isOne h) rfl rfl (gz_b (by decide)) yw0 rfl (Nat.le_of_ble_eq_true rfl) ⟨Nat.le_of_ble_eq_true rfl, Nat.le_of_ble_eq_true rfl, Nat.le_add_right _ _, Nat.le_add_right _ _⟩ dX10_meaningWrong_18 (fun r5 c4 h => ?_)
    refine go_if_ne (pc := 21) (tgt := 26) dX10_meaningWrong_21 (by decide) (fun q6 => ?_) (fun q6 => ?_)
    · have h := h.2 q6
      refine go_iinc (pc := 26) (v := l1 + 1) (lv' := [(1, .int (l1 + 1)), (0, .ref (G.2.1 + 74))]) dX10_meaningWrong_26 1 rfl (by first | rfl | decide) (by decide) rfl ?_
      refine go_goto (pc := 29) (tgt := 6) dX10_meaningWrong_29 (by decide) ?_
      refine go_lv [1, 0] rfl ?_
      exact hP6 _ _ h
    · have h := h.1 q6
      refine go_iload_n (pc := 24) dX10_meaningWrong_24 rfl rfl ?_
      exact gq_iret (pc := 25) (F := wM G o) rfl dX10_meaningWrong_25 h
set_option maxRecDepth 100000 in
set_option maxHeartbeats 4000000 in
theorem tX10_meaningWrong_p6 {l : Launch} {G : gG} {k : Nat} {o : gMem} {Q : Int32 → gMem → Prop} {l1 : Int32} {c : gMem} (h : wX10_meaningWrong_p6 l1 c Q) : Go l G mX10_meaningWrong (gbq G 4 99 84 k (qi (wM G o) Q)) 6 [(0, .ref (G.2.1 + 74)), (1, .int l1)] [] 84 k (wM G o c) :=
  h (fun l1 c => Go l G mX10_meaningWrong (gbq G 4 99 84 k (qi (wM G o) Q)) 6 [(0, .ref (G.2.1 + 74)), (1, .int l1)] [] 84 k (wM G o c)) (fun l1 c hb => tX10_meaningWrong_p6_b (fun l1 c hh => hh) hb)
def wX10_meaningWrong (c : gMem) (Q : Int32 → gMem → Prop) : Prop :=
  wX10_findFirst c (fun c1 =>
  wX10_meaningWrong_p6 0 c1 Q)
set_option maxRecDepth 100000 in
set_option maxHeartbeats 4000000 in
theorem tX10_meaningWrong {l : Launch} {G : gG} {k : Nat} {o : gMem} {Q : Int32 → gMem → Prop} {c : gMem} (h : wX10_meaningWrong c Q) : Cq l G mX10_meaningWrong 4 99 [.ref (G.2.1 + 74)] 84 k (wM G o c) (qi (wM G o) Q) := by
  refine Cq.of (by decide) (Nat.le_of_ble_eq_true rfl) ?_
  show Go l G mX10_meaningWrong (gbq G 4 99 84 k (qi (wM G o) Q)) 0 [(0, .ref (G.2.1 + 74))] [] 84 k (wM G o c)
  unfold wX10_meaningWrong at h
  refine go_aload_n (pc := 0) dX10_meaningWrong_0 rfl rfl ?_
  refine gq_callV_v (pc := 1) (F := wM G o) vX10_260 rfl (tX10_findFirst h) rfl rfl (gz_b (by decide)) yw0 rfl (Nat.le_of_ble_eq_true rfl) ⟨Nat.le_of_ble_eq_true rfl, Nat.le_of_ble_eq_true rfl, Nat.le_add_right _ _, Nat.le_add_right _ _⟩ dX10_meaningWrong_1 (fun c1 h => ?_)
  refine go_iconst (pc := 4) (v := 0) dX10_meaningWrong_4 (by decide) ?_
  refine go_istore_n (pc := 5) (lv' := [(1, .int 0), (0, .ref (G.2.1 + 74))]) dX10_meaningWrong_5 rfl (by decide) rfl ?_
  refine go_lv [1, 0] rfl ?_
  exact tX10_meaningWrong_p6 h
def wX10_check_p43_b (P43 : Int32 → Int32 → gMem → Prop) (l2 : Int32) (l3 : Int32) (c : gMem) (Q : Int32 → gMem → Prop) : Prop :=
  ∀ v1, v1 = c 1 15 →
  ((v1 - 1 ≤ l3 →
    ∀ v3, v3 = c 1 15 →
    wX10_paper (v3 - 1) c (fun r5 c4 =>
    ((l2 = r5 →
      Q ((-1)) c4) ∧
     (¬ l2 = r5 →
      ∀ v7, v7 = c4 1 15 →
      Q (v7 - 1) c4)))) ∧
   (¬ v1 - 1 ≤ l3 →
    wX10_paper l3 c (fun r9 c8 =>
    P43 ((31 * l2) + r9) (l3 + 1) c8)))
def wX10_check_p43 (l2 : Int32) (l3 : Int32) (c : gMem) (Q : Int32 → gMem → Prop) : Prop :=
  ∀ P43 : Int32 → Int32 → gMem → Prop, (∀ (l2 : Int32) (l3 : Int32) (c : gMem), wX10_check_p43_b P43 l2 l3 c Q → P43 l2 l3 c) → P43 l2 l3 c
set_option maxRecDepth 100000 in
set_option maxHeartbeats 4000000 in
theorem tX10_check_p43_b {l : Launch} {G : gG} {k : Nat} {o : gMem} {Q : Int32 → gMem → Prop} {P43 : Int32 → Int32 → gMem → Prop} (hP43 : ∀ (l2 : Int32) (l3 : Int32) (c : gMem), P43 l2 l3 c → Go l G mX10_check (gbq G 5 121 84 k (qi (wM G o) Q)) 43 [(0, .ref (G.2.1 + 74)), (2, .int l2), (3, .int l3)] [] 84 k (wM G o c)) {l2 : Int32} {l3 : Int32} {c : gMem} (h : wX10_check_p43_b P43 l2 l3 c Q) : Go l G mX10_check (gbq G 5 121 84 k (qi (wM G o) Q)) 43 [(0, .ref (G.2.1 + 74)), (2, .int l2), (3, .int l3)] [] 84 k (wM G o c) := by
  unfold wX10_check_p43_b at h
  refine go_iload_n (pc := 43) dX10_check_43 rfl rfl ?_
  refine go_aload_n (pc := 44) dX10_check_44 rfl rfl ?_
  refine go_get (pc := 45) fX10_9 rfl (gz_b (by decide)) yw0 rfl dX10_check_45 ?_
  refine go_bipush (pc := 48) (v := 15) dX10_check_48 (by decide) ?_
  refine gb_iald (pc := 50) (gz_b (by decide)) yw1 (gv_in (by decide)) dX10_check_50 (fun v1 ev1 => ?_)
  have h := h v1 ev1
  refine go_iconst (pc := 51) (v := 1) dX10_check_51 (by decide) ?_
  refine go_isub (pc := 52) dX10_check_52 ?_
  refine go_icmp_ge (pc := 53) (tgt := 73) dX10_check_53 (by decide) (fun q2 => ?_) (fun q2 => ?_)
  · have h := h.1 q2
    refine go_iload_n (pc := 73) dX10_check_73 rfl rfl ?_
    refine go_aload_n (pc := 74) dX10_check_74 rfl rfl ?_
    refine go_aload_n (pc := 75) dX10_check_75 rfl rfl ?_
    refine go_get (pc := 76) fX10_9 rfl (gz_b (by decide)) yw0 rfl dX10_check_76 ?_
    refine go_bipush (pc := 79) (v := 15) dX10_check_79 (by decide) ?_
    refine gb_iald (pc := 81) (gz_b (by decide)) yw1 (gv_in (by decide)) dX10_check_81 (fun v3 ev3 => ?_)
    have h := h v3 ev3
    refine go_iconst (pc := 82) (v := 1) dX10_check_82 (by decide) ?_
    refine go_isub (pc := 83) dX10_check_83 ?_
    refine gq_callV_i (pc := 84) (F := wM G o) vX10_237 rfl (tX10_paper h) rfl rfl (gz_b (by decide)) yw0 rfl (Nat.le_of_ble_eq_true rfl) ⟨Nat.le_of_ble_eq_true rfl, Nat.le_of_ble_eq_true rfl, Nat.le_add_right _ _, Nat.le_add_right _ _⟩ dX10_check_84 (fun r5 c4 h => ?_)
    refine go_icmp_ne (pc := 87) (tgt := 94) dX10_check_87 (by decide) (fun q6 => ?_) (fun q6 => ?_)
    · have h := h.2 q6
      refine go_aload_n (pc := 94) dX10_check_94 rfl rfl ?_
      refine go_get (pc := 95) fX10_9 rfl (gz_b (by decide)) yw0 rfl dX10_check_95 ?_
      refine go_bipush (pc := 98) (v := 15) dX10_check_98 (by decide) ?_
      refine gb_iald (pc := 100) (gz_b (by decide)) yw1 (gv_in (by decide)) dX10_check_100 (fun v7 ev7 => ?_)
      have h := h v7 ev7
      refine go_iconst (pc := 101) (v := 1) dX10_check_101 (by decide) ?_
      refine go_isub (pc := 102) dX10_check_102 ?_
      exact gq_iret (pc := 103) (F := wM G o) rfl dX10_check_103 h
    · have h := h.1 q6
      refine go_iconst (pc := 90) (v := (-1)) dX10_check_90 (by decide) ?_
      refine go_goto (pc := 91) (tgt := 103) dX10_check_91 (by decide) ?_
      exact gq_iret (pc := 103) (F := wM G o) rfl dX10_check_103 h
  · have h := h.2 q2
    refine go_bipush (pc := 56) (v := 31) dX10_check_56 (by decide) ?_
    refine go_iload_n (pc := 58) dX10_check_58 rfl rfl ?_
    refine go_imul (pc := 59) dX10_check_59 ?_
    refine go_aload_n (pc := 60) dX10_check_60 rfl rfl ?_
    refine go_iload_n (pc := 61) dX10_check_61 rfl rfl ?_
    refine gq_callV_i (pc := 62) (F := wM G o) vX10_237 rfl (tX10_paper h) rfl rfl (gz_b (by decide)) yw0 rfl (Nat.le_of_ble_eq_true rfl) ⟨Nat.le_of_ble_eq_true rfl, Nat.le_of_ble_eq_true rfl, Nat.le_add_right _ _, Nat.le_add_right _ _⟩ dX10_check_62 (fun r9 c8 h => ?_)
    refine go_iadd (pc := 65) dX10_check_65 ?_
    refine go_istore_n (pc := 66) (lv' := [(2, .int ((31 * l2) + r9)), (0, .ref (G.2.1 + 74)), (3, .int l3)]) dX10_check_66 rfl (by decide) rfl ?_
    refine go_iinc (pc := 67) (v := l3 + 1) (lv' := [(3, .int (l3 + 1)), (2, .int ((31 * l2) + r9)), (0, .ref (G.2.1 + 74))]) dX10_check_67 2 rfl (by first | rfl | decide) (by decide) rfl ?_
    refine go_goto (pc := 70) (tgt := 43) dX10_check_70 (by decide) ?_
    refine go_lv [2, 1, 0] rfl ?_
    exact hP43 _ _ _ h
set_option maxRecDepth 100000 in
set_option maxHeartbeats 4000000 in
theorem tX10_check_p43 {l : Launch} {G : gG} {k : Nat} {o : gMem} {Q : Int32 → gMem → Prop} {l2 : Int32} {l3 : Int32} {c : gMem} (h : wX10_check_p43 l2 l3 c Q) : Go l G mX10_check (gbq G 5 121 84 k (qi (wM G o) Q)) 43 [(0, .ref (G.2.1 + 74)), (2, .int l2), (3, .int l3)] [] 84 k (wM G o c) :=
  h (fun l2 l3 c => Go l G mX10_check (gbq G 5 121 84 k (qi (wM G o) Q)) 43 [(0, .ref (G.2.1 + 74)), (2, .int l2), (3, .int l3)] [] 84 k (wM G o c)) (fun l2 l3 c hb => tX10_check_p43_b (fun l2 l3 c hh => hh) hb)
def wX10_check_p31 (s0 : Int32) (c : gMem) (Q : Int32 → gMem → Prop) : Prop :=
  ((s0 = (-1) →
    wX10_check_p43 1 0 c Q) ∧
   (¬ s0 = (-1) →
    Q s0 c))
set_option maxRecDepth 100000 in
set_option maxHeartbeats 4000000 in
theorem tX10_check_p31 {l : Launch} {G : gG} {k : Nat} {o : gMem} {Q : Int32 → gMem → Prop} {s0 : Int32} {c : gMem} (h : wX10_check_p31 s0 c Q) : Go l G mX10_check (gbq G 5 121 84 k (qi (wM G o) Q)) 31 [(0, .ref (G.2.1 + 74))] [.int s0] 84 k (wM G o c) := by
  unfold wX10_check_p31 at h
  refine go_istore_n (pc := 31) (lv' := [(1, .int s0), (0, .ref (G.2.1 + 74))]) dX10_check_31 rfl (by decide) rfl ?_
  refine go_iload_n (pc := 32) dX10_check_32 rfl rfl ?_
  refine go_iconst (pc := 33) (v := (-1)) dX10_check_33 (by decide) ?_
  refine go_icmp_eq (pc := 34) (tgt := 39) dX10_check_34 (by decide) (fun q1 => ?_) (fun q1 => ?_)
  · have h := h.1 q1
    refine go_iconst (pc := 39) (v := 1) dX10_check_39 (by decide) ?_
    refine go_istore_n (pc := 40) (lv' := [(2, .int 1), (1, .int s0), (0, .ref (G.2.1 + 74))]) dX10_check_40 rfl (by decide) rfl ?_
    refine go_iconst (pc := 41) (v := 0) dX10_check_41 (by decide) ?_
    refine go_istore_n (pc := 42) (lv' := [(3, .int 0), (2, .int 1), (1, .int s0), (0, .ref (G.2.1 + 74))]) dX10_check_42 rfl (by decide) rfl ?_
    refine go_lv [3, 1, 0] rfl ?_
    exact tX10_check_p43 h
  · have h := h.2 q1
    refine go_iload_n (pc := 37) dX10_check_37 rfl rfl ?_
    exact gq_iret (pc := 38) (F := wM G o) rfl dX10_check_38 h
def wX10_check (c : gMem) (Q : Int32 → gMem → Prop) : Prop :=
  ∀ v1, v1 = c 1 15 →
  ((v1 = 0 →
    Q ((-104)) c) ∧
   (¬ v1 = 0 →
    wX10_formWrong c (fun r4 c3 =>
    ((r4 = (-1) →
      wX10_meaningWrong c3 (fun r7 c6 =>
      wX10_check_p31 r7 c6 Q)) ∧
     (¬ r4 = (-1) →
      wX10_check_p31 r4 c3 Q)))))
set_option maxRecDepth 100000 in
set_option maxHeartbeats 4000000 in
theorem tX10_check {l : Launch} {G : gG} {k : Nat} {o : gMem} {Q : Int32 → gMem → Prop} {c : gMem} (h : wX10_check c Q) : Cq l G mX10_check 5 121 [.ref (G.2.1 + 74)] 84 k (wM G o c) (qi (wM G o) Q) := by
  refine Cq.of (by decide) (Nat.le_of_ble_eq_true rfl) ?_
  show Go l G mX10_check (gbq G 5 121 84 k (qi (wM G o) Q)) 0 [(0, .ref (G.2.1 + 74))] [] 84 k (wM G o c)
  unfold wX10_check at h
  refine go_aload_n (pc := 0) dX10_check_0 rfl rfl ?_
  refine go_get (pc := 1) fX10_9 rfl (gz_b (by decide)) yw0 rfl dX10_check_1 ?_
  refine go_bipush (pc := 4) (v := 15) dX10_check_4 (by decide) ?_
  refine gb_iald (pc := 6) (gz_b (by decide)) yw1 (gv_in (by decide)) dX10_check_6 (fun v1 ev1 => ?_)
  have h := h v1 ev1
  refine go_if_ne (pc := 7) (tgt := 13) dX10_check_7 (by decide) (fun q2 => ?_) (fun q2 => ?_)
  · have h := h.2 q2
    refine go_aload_n (pc := 13) dX10_check_13 rfl rfl ?_
    refine gq_callV_i (pc := 14) (F := wM G o) vX10_266 rfl (tX10_formWrong h) rfl rfl (gz_b (by decide)) yw0 rfl (Nat.le_of_ble_eq_true rfl) ⟨Nat.le_of_ble_eq_true rfl, Nat.le_of_ble_eq_true rfl, Nat.le_add_right _ _, Nat.le_add_right _ _⟩ dX10_check_14 (fun r4 c3 h => ?_)
    refine go_istore_n (pc := 17) (lv' := [(1, .int r4), (0, .ref (G.2.1 + 74))]) dX10_check_17 rfl (by decide) rfl ?_
    refine go_iload_n (pc := 18) dX10_check_18 rfl rfl ?_
    refine go_iconst (pc := 19) (v := (-1)) dX10_check_19 (by decide) ?_
    refine go_icmp_ne (pc := 20) (tgt := 30) dX10_check_20 (by decide) (fun q5 => ?_) (fun q5 => ?_)
    · have h := h.2 q5
      refine go_iload_n (pc := 30) dX10_check_30 rfl rfl ?_
      refine go_lv [1] rfl ?_
      exact tX10_check_p31 h
    · have h := h.1 q5
      refine go_aload_n (pc := 23) dX10_check_23 rfl rfl ?_
      refine gq_callV_i (pc := 24) (F := wM G o) vX10_269 rfl (tX10_meaningWrong h) rfl rfl (gz_b (by decide)) yw0 rfl (Nat.le_of_ble_eq_true rfl) ⟨Nat.le_of_ble_eq_true rfl, Nat.le_of_ble_eq_true rfl, Nat.le_add_right _ _, Nat.le_add_right _ _⟩ dX10_check_24 (fun r7 c6 h => ?_)
      refine go_goto (pc := 27) (tgt := 31) dX10_check_27 (by decide) ?_
      refine go_lv [1] rfl ?_
      exact tX10_check_p31 h
  · have h := h.1 q2
    refine go_bipush (pc := 10) (v := (-104)) dX10_check_10 (by decide) ?_
    exact gq_iret (pc := 12) (F := wM G o) rfl dX10_check_12 h
def wX10_isRegister (l0 : Int32) (c : gMem) (Q : Int32 → gMem → Prop) : Prop :=
  wX10_in l0.toInt64 0 7 c (fun r2 c1 =>
  (r2 = 0 ∨ r2 = 1) ∧ Q r2 c1)
set_option maxRecDepth 100000 in
set_option maxHeartbeats 4000000 in
theorem tX10_isRegister {l : Launch} {G : gG} {k : Nat} {o : gMem} {Q : Int32 → gMem → Prop} {l0 : Int32} {c : gMem} (h : wX10_isRegister l0 c Q) : Cq l G mX10_isRegister 1 25 [.int l0] 84 k (wM G o c) (qi (wM G o) Q) := by
  refine Cq.of (by decide) (Nat.le_of_ble_eq_true rfl) ?_
  show Go l G mX10_isRegister (gbq G 1 25 84 k (qi (wM G o) Q)) 0 [(0, .int l0)] [] 84 k (wM G o c)
  unfold wX10_isRegister at h
  refine go_iload_n (pc := 0) dX10_isRegister_0 rfl rfl ?_
  refine go_i2l (pc := 1) dX10_isRegister_1 ?_
  refine go_lconst (pc := 2) (v := 0) dX10_isRegister_2 (by decide) ?_
  refine go_ldc2 (pc := 3) rfl qX10_213 dX10_isRegister_3 ?_
  refine gq_callS_i (pc := 6) (F := wM G o) sX10_63 rfl (tX10_in h) rfl rfl (Nat.le_of_ble_eq_true rfl) ⟨Nat.le_of_ble_eq_true rfl, Nat.le_of_ble_eq_true rfl, Nat.le_add_right _ _, Nat.le_add_right _ _⟩ dX10_isRegister_6 (fun r2 c1 h => ?_)
  exact gq_zret (pc := 9) (F := wM G o) rfl h.1 dX10_isRegister_9 h.2
def wX10_areKnown_p68 (l1 : Int32) (c : gMem) (Q : Int32 → gMem → Prop) : Prop :=
  wX10_isRegister l1 c (fun r2 c1 =>
  (r2 = 0 ∨ r2 = 1) ∧ Q r2 c1)
set_option maxRecDepth 100000 in
set_option maxHeartbeats 4000000 in
theorem tX10_areKnown_p68 {l : Launch} {G : gG} {k : Nat} {o : gMem} {Q : Int32 → gMem → Prop} {l1 : Int32} {c : gMem} (h : wX10_areKnown_p68 l1 c Q) : Go l G mX10_areKnown (gbq G 2 45 84 k (qi (wM G o) Q)) 68 [(1, .int l1)] [] 84 k (wM G o c) := by
  unfold wX10_areKnown_p68 at h
  refine go_iload_n (pc := 68) dX10_areKnown_68 rfl rfl ?_
  refine gq_callS_i (pc := 69) (F := wM G o) sX10_272 rfl (tX10_isRegister h) rfl rfl (Nat.le_of_ble_eq_true rfl) ⟨Nat.le_of_ble_eq_true rfl, Nat.le_of_ble_eq_true rfl, Nat.le_add_right _ _, Nat.le_add_right _ _⟩ dX10_areKnown_69 (fun r2 c1 h => ?_)
  exact gq_zret (pc := 72) (F := wM G o) rfl h.1 dX10_areKnown_72 h.2
def wX10_areKnown_p73 (l1 : Int32) (l3 : Int32) (c : gMem) (Q : Int32 → gMem → Prop) : Prop :=
  wX10_isRegister l1 c (fun r2 c1 =>
  ((r2 = 0 →
    Q 0 c1) ∧
   (¬ r2 = 0 →
    wX10_isRegister l3 c1 (fun r5 c4 =>
    ((r5 = 0 →
      Q 0 c4) ∧
     (¬ r5 = 0 →
      Q 1 c4))))))
set_option maxRecDepth 100000 in
set_option maxHeartbeats 4000000 in
theorem tX10_areKnown_p73 {l : Launch} {G : gG} {k : Nat} {o : gMem} {Q : Int32 → gMem → Prop} {l1 : Int32} {l3 : Int32} {c : gMem} (h : wX10_areKnown_p73 l1 l3 c Q) : Go l G mX10_areKnown (gbq G 2 45 84 k (qi (wM G o) Q)) 73 [(1, .int l1), (3, .int l3)] [] 84 k (wM G o c) := by
  unfold wX10_areKnown_p73 at h
  refine go_iload_n (pc := 73) dX10_areKnown_73 rfl rfl ?_
  refine gq_callS_i (pc := 74) (F := wM G o) sX10_272 rfl (tX10_isRegister h) rfl rfl (Nat.le_of_ble_eq_true rfl) ⟨Nat.le_of_ble_eq_true rfl, Nat.le_of_ble_eq_true rfl, Nat.le_add_right _ _, Nat.le_add_right _ _⟩ dX10_areKnown_74 (fun r2 c1 h => ?_)
  refine go_if_eq (pc := 77) (tgt := 91) dX10_areKnown_77 (by decide) (fun q3 => ?_) (fun q3 => ?_)
  · have h := h.1 q3
    refine go_iconst (pc := 91) (v := 0) dX10_areKnown_91 (by decide) ?_
    exact gq_zret (pc := 92) (F := wM G o) rfl (by decide) dX10_areKnown_92 h
  · have h := h.2 q3
    refine go_iload_n (pc := 80) dX10_areKnown_80 rfl rfl ?_
    refine gq_callS_i (pc := 81) (F := wM G o) sX10_272 rfl (tX10_isRegister h) rfl rfl (Nat.le_of_ble_eq_true rfl) ⟨Nat.le_of_ble_eq_true rfl, Nat.le_of_ble_eq_true rfl, Nat.le_add_right _ _, Nat.le_add_right _ _⟩ dX10_areKnown_81 (fun r5 c4 h => ?_)
    refine go_if_eq (pc := 84) (tgt := 91) dX10_areKnown_84 (by decide) (fun q6 => ?_) (fun q6 => ?_)
    · have h := h.1 q6
      refine go_iconst (pc := 91) (v := 0) dX10_areKnown_91 (by decide) ?_
      exact gq_zret (pc := 92) (F := wM G o) rfl (by decide) dX10_areKnown_92 h
    · have h := h.2 q6
      refine go_iconst (pc := 87) (v := 1) dX10_areKnown_87 (by decide) ?_
      refine go_goto (pc := 88) (tgt := 92) dX10_areKnown_88 (by decide) ?_
      exact gq_zret (pc := 92) (F := wM G o) rfl (by decide) dX10_areKnown_92 h
def wX10_areKnown_p93 (l1 : Int32) (l2 : Int32) (c : gMem) (Q : Int32 → gMem → Prop) : Prop :=
  wX10_isRoot l1 c (fun r2 c1 =>
  ((r2 = 0 →
    Q 0 c1) ∧
   (¬ r2 = 0 →
    wX10_isRegister l2 c1 (fun r5 c4 =>
    ((r5 = 0 →
      Q 0 c4) ∧
     (¬ r5 = 0 →
      Q 1 c4))))))
set_option maxRecDepth 100000 in
set_option maxHeartbeats 4000000 in
theorem tX10_areKnown_p93 {l : Launch} {G : gG} {k : Nat} {o : gMem} {Q : Int32 → gMem → Prop} {l1 : Int32} {l2 : Int32} {c : gMem} (h : wX10_areKnown_p93 l1 l2 c Q) : Go l G mX10_areKnown (gbq G 2 45 84 k (qi (wM G o) Q)) 93 [(1, .int l1), (2, .int l2)] [] 84 k (wM G o c) := by
  unfold wX10_areKnown_p93 at h
  refine go_iload_n (pc := 93) dX10_areKnown_93 rfl rfl ?_
  refine gq_callS_i (pc := 94) (F := wM G o) sX10_200 rfl (tX10_isRoot h) rfl rfl (Nat.le_of_ble_eq_true rfl) ⟨Nat.le_of_ble_eq_true rfl, Nat.le_of_ble_eq_true rfl, Nat.le_add_right _ _, Nat.le_add_right _ _⟩ dX10_areKnown_94 (fun r2 c1 h => ?_)
  refine go_if_eq (pc := 97) (tgt := 111) dX10_areKnown_97 (by decide) (fun q3 => ?_) (fun q3 => ?_)
  · have h := h.1 q3
    refine go_iconst (pc := 111) (v := 0) dX10_areKnown_111 (by decide) ?_
    exact gq_zret (pc := 112) (F := wM G o) rfl (by decide) dX10_areKnown_112 h
  · have h := h.2 q3
    refine go_iload_n (pc := 100) dX10_areKnown_100 rfl rfl ?_
    refine gq_callS_i (pc := 101) (F := wM G o) sX10_272 rfl (tX10_isRegister h) rfl rfl (Nat.le_of_ble_eq_true rfl) ⟨Nat.le_of_ble_eq_true rfl, Nat.le_of_ble_eq_true rfl, Nat.le_add_right _ _, Nat.le_add_right _ _⟩ dX10_areKnown_101 (fun r5 c4 h => ?_)
    refine go_if_eq (pc := 104) (tgt := 111) dX10_areKnown_104 (by decide) (fun q6 => ?_) (fun q6 => ?_)
    · have h := h.1 q6
      refine go_iconst (pc := 111) (v := 0) dX10_areKnown_111 (by decide) ?_
      exact gq_zret (pc := 112) (F := wM G o) rfl (by decide) dX10_areKnown_112 h
    · have h := h.2 q6
      refine go_iconst (pc := 107) (v := 1) dX10_areKnown_107 (by decide) ?_
      refine go_goto (pc := 108) (tgt := 112) dX10_areKnown_108 (by decide) ?_
      exact gq_zret (pc := 112) (F := wM G o) rfl (by decide) dX10_areKnown_112 h
def wX10_areKnown_p113 (l1 : Int32) (l2 : Int32) (c : gMem) (Q : Int32 → gMem → Prop) : Prop :=
  wX10_isRegister l1 c (fun r2 c1 =>
  ((r2 = 0 →
    Q 0 c1) ∧
   (¬ r2 = 0 →
    wX10_isRegister l2 c1 (fun r5 c4 =>
    ((r5 = 0 →
      Q 0 c4) ∧
     (¬ r5 = 0 →
      Q 1 c4))))))
set_option maxRecDepth 100000 in
set_option maxHeartbeats 4000000 in
theorem tX10_areKnown_p113 {l : Launch} {G : gG} {k : Nat} {o : gMem} {Q : Int32 → gMem → Prop} {l1 : Int32} {l2 : Int32} {c : gMem} (h : wX10_areKnown_p113 l1 l2 c Q) : Go l G mX10_areKnown (gbq G 2 45 84 k (qi (wM G o) Q)) 113 [(1, .int l1), (2, .int l2)] [] 84 k (wM G o c) := by
  unfold wX10_areKnown_p113 at h
  refine go_iload_n (pc := 113) dX10_areKnown_113 rfl rfl ?_
  refine gq_callS_i (pc := 114) (F := wM G o) sX10_272 rfl (tX10_isRegister h) rfl rfl (Nat.le_of_ble_eq_true rfl) ⟨Nat.le_of_ble_eq_true rfl, Nat.le_of_ble_eq_true rfl, Nat.le_add_right _ _, Nat.le_add_right _ _⟩ dX10_areKnown_114 (fun r2 c1 h => ?_)
  refine go_if_eq (pc := 117) (tgt := 131) dX10_areKnown_117 (by decide) (fun q3 => ?_) (fun q3 => ?_)
  · have h := h.1 q3
    refine go_iconst (pc := 131) (v := 0) dX10_areKnown_131 (by decide) ?_
    exact gq_zret (pc := 132) (F := wM G o) rfl (by decide) dX10_areKnown_132 h
  · have h := h.2 q3
    refine go_iload_n (pc := 120) dX10_areKnown_120 rfl rfl ?_
    refine gq_callS_i (pc := 121) (F := wM G o) sX10_272 rfl (tX10_isRegister h) rfl rfl (Nat.le_of_ble_eq_true rfl) ⟨Nat.le_of_ble_eq_true rfl, Nat.le_of_ble_eq_true rfl, Nat.le_add_right _ _, Nat.le_add_right _ _⟩ dX10_areKnown_121 (fun r5 c4 h => ?_)
    refine go_if_eq (pc := 124) (tgt := 131) dX10_areKnown_124 (by decide) (fun q6 => ?_) (fun q6 => ?_)
    · have h := h.1 q6
      refine go_iconst (pc := 131) (v := 0) dX10_areKnown_131 (by decide) ?_
      exact gq_zret (pc := 132) (F := wM G o) rfl (by decide) dX10_areKnown_132 h
    · have h := h.2 q6
      refine go_iconst (pc := 127) (v := 1) dX10_areKnown_127 (by decide) ?_
      refine go_goto (pc := 128) (tgt := 132) dX10_areKnown_128 (by decide) ?_
      exact gq_zret (pc := 132) (F := wM G o) rfl (by decide) dX10_areKnown_132 h
def wX10_areKnown (l0 : Int32) (l1 : Int32) (l2 : Int32) (l3 : Int32) (c : gMem) (Q : Int32 → gMem → Prop) : Prop :=
  ((l0.toInt < 0 ∨ 12 < l0.toInt →
    Q 1 c) ∧
   (l0 = 0 →
    wX10_areKnown_p68 l1 c Q) ∧
   (l0 = 1 →
    wX10_areKnown_p73 l1 l3 c Q) ∧
   (l0 = 2 →
    wX10_areKnown_p73 l1 l3 c Q) ∧
   (l0 = 3 →
    wX10_areKnown_p93 l1 l2 c Q) ∧
   (l0 = 4 →
    wX10_areKnown_p93 l1 l2 c Q) ∧
   (l0 = 5 →
    wX10_areKnown_p113 l1 l2 c Q) ∧
   (l0 = 6 →
    wX10_areKnown_p113 l1 l2 c Q) ∧
   (l0 = 7 →
    wX10_areKnown_p73 l1 l3 c Q) ∧
   (l0 = 8 →
    wX10_areKnown_p68 l1 c Q) ∧
   (l0 = 9 →
    Q 1 c) ∧
   (l0 = 10 →
    Q 1 c) ∧
   (l0 = 11 →
    wX10_areKnown_p68 l1 c Q) ∧
   (l0 = 12 →
    wX10_in l1.toInt64 0 3 c (fun r3 c2 =>
    ((r3 = 0 →
      Q 0 c2) ∧
     (¬ r3 = 0 →
      wX10_isRegister l3 c2 (fun r6 c5 =>
      ((r6 = 0 →
        Q 0 c5) ∧
       (¬ r6 = 0 →
        Q 1 c5))))))))
set_option maxRecDepth 100000 in
set_option maxHeartbeats 4000000 in
theorem tX10_areKnown {l : Launch} {G : gG} {k : Nat} {o : gMem} {Q : Int32 → gMem → Prop} {l0 : Int32} {l1 : Int32} {l2 : Int32} {l3 : Int32} {c : gMem} (h : wX10_areKnown l0 l1 l2 l3 c Q) : Cq l G mX10_areKnown 2 45 [.int l0, .int l1, .int l2, .int l3] 84 k (wM G o c) (qi (wM G o) Q) := by
  refine Cq.of (by decide) (Nat.le_of_ble_eq_true rfl) ?_
  show Go l G mX10_areKnown (gbq G 2 45 84 k (qi (wM G o) Q)) 0 [(0, .int l0), (1, .int l1), (2, .int l2), (3, .int l3)] [] 84 k (wM G o c)
  unfold wX10_areKnown at h
  refine go_iload_n (pc := 0) dX10_areKnown_0 rfl rfl ?_
  by_cases q1 : l0.toInt < 0 ∨ 12 < l0.toInt
  · refine go_tableOut (pc := 1) (tgt := 158) dX10_areKnown_1 q1 (by decide) ?_
    have h := h.1 q1
    refine go_iconst (pc := 158) (v := 1) dX10_areKnown_158 (by decide) ?_
    exact gq_zret (pc := 159) (F := wM G o) rfl (by decide) dX10_areKnown_159 h
  have q1a : l0.toInt = 0 ∨ l0.toInt = 1 ∨ l0.toInt = 2 ∨ l0.toInt = 3 ∨ l0.toInt = 4 ∨ l0.toInt = 5 ∨ l0.toInt = 6 ∨ l0.toInt = 7 ∨ l0.toInt = 8 ∨ l0.toInt = 9 ∨ l0.toInt = 10 ∨ l0.toInt = 11 ∨ l0.toInt = 12 := by omega
  rcases q1a with q1b | q1b | q1b | q1b | q1b | q1b | q1b | q1b | q1b | q1b | q1b | q1b | q1b
  · have q1c : l0 = 0 := gt_eq q1b _ (by decide)
    refine go_tableIn (pc := 1) (off := 67) (tgt := 68) dX10_areKnown_1 (by rw [q1b]; decide) (by rw [q1b]; decide) (by rw [q1b]; rfl) (by decide) ?_
    have h := h.2.1 q1c
    refine go_lv [1] rfl ?_
    exact tX10_areKnown_p68 h
  · have q1c : l0 = 1 := gt_eq q1b _ (by decide)
    refine go_tableIn (pc := 1) (off := 72) (tgt := 73) dX10_areKnown_1 (by rw [q1b]; decide) (by rw [q1b]; decide) (by rw [q1b]; rfl) (by decide) ?_
    have h := h.2.2.1 q1c
    refine go_lv [1, 3] rfl ?_
    exact tX10_areKnown_p73 h
  · have q1c : l0 = 2 := gt_eq q1b _ (by decide)
    refine go_tableIn (pc := 1) (off := 72) (tgt := 73) dX10_areKnown_1 (by rw [q1b]; decide) (by rw [q1b]; decide) (by rw [q1b]; rfl) (by decide) ?_
    have h := h.2.2.2.1 q1c
    refine go_lv [1, 3] rfl ?_
    exact tX10_areKnown_p73 h
  · have q1c : l0 = 3 := gt_eq q1b _ (by decide)
    refine go_tableIn (pc := 1) (off := 92) (tgt := 93) dX10_areKnown_1 (by rw [q1b]; decide) (by rw [q1b]; decide) (by rw [q1b]; rfl) (by decide) ?_
    have h := h.2.2.2.2.1 q1c
    refine go_lv [1, 2] rfl ?_
    exact tX10_areKnown_p93 h
  · have q1c : l0 = 4 := gt_eq q1b _ (by decide)
    refine go_tableIn (pc := 1) (off := 92) (tgt := 93) dX10_areKnown_1 (by rw [q1b]; decide) (by rw [q1b]; decide) (by rw [q1b]; rfl) (by decide) ?_
    have h := h.2.2.2.2.2.1 q1c
    refine go_lv [1, 2] rfl ?_
    exact tX10_areKnown_p93 h
  · have q1c : l0 = 5 := gt_eq q1b _ (by decide)
    refine go_tableIn (pc := 1) (off := 112) (tgt := 113) dX10_areKnown_1 (by rw [q1b]; decide) (by rw [q1b]; decide) (by rw [q1b]; rfl) (by decide) ?_
    have h := h.2.2.2.2.2.2.1 q1c
    refine go_lv [1, 2] rfl ?_
    exact tX10_areKnown_p113 h
  · have q1c : l0 = 6 := gt_eq q1b _ (by decide)
    refine go_tableIn (pc := 1) (off := 112) (tgt := 113) dX10_areKnown_1 (by rw [q1b]; decide) (by rw [q1b]; decide) (by rw [q1b]; rfl) (by decide) ?_
    have h := h.2.2.2.2.2.2.2.1 q1c
    refine go_lv [1, 2] rfl ?_
    exact tX10_areKnown_p113 h
  · have q1c : l0 = 7 := gt_eq q1b _ (by decide)
    refine go_tableIn (pc := 1) (off := 72) (tgt := 73) dX10_areKnown_1 (by rw [q1b]; decide) (by rw [q1b]; decide) (by rw [q1b]; rfl) (by decide) ?_
    have h := h.2.2.2.2.2.2.2.2.1 q1c
    refine go_lv [1, 3] rfl ?_
    exact tX10_areKnown_p73 h
  · have q1c : l0 = 8 := gt_eq q1b _ (by decide)
    refine go_tableIn (pc := 1) (off := 67) (tgt := 68) dX10_areKnown_1 (by rw [q1b]; decide) (by rw [q1b]; decide) (by rw [q1b]; rfl) (by decide) ?_
    have h := h.2.2.2.2.2.2.2.2.2.1 q1c
    refine go_lv [1] rfl ?_
    exact tX10_areKnown_p68 h
  · have q1c : l0 = 9 := gt_eq q1b _ (by decide)
    refine go_tableIn (pc := 1) (off := 157) (tgt := 158) dX10_areKnown_1 (by rw [q1b]; decide) (by rw [q1b]; decide) (by rw [q1b]; rfl) (by decide) ?_
    have h := h.2.2.2.2.2.2.2.2.2.2.1 q1c
    refine go_iconst (pc := 158) (v := 1) dX10_areKnown_158 (by decide) ?_
    exact gq_zret (pc := 159) (F := wM G o) rfl (by decide) dX10_areKnown_159 h
  · have q1c : l0 = 10 := gt_eq q1b _ (by decide)
    refine go_tableIn (pc := 1) (off := 157) (tgt := 158) dX10_areKnown_1 (by rw [q1b]; decide) (by rw [q1b]; decide) (by rw [q1b]; rfl) (by decide) ?_
    have h := h.2.2.2.2.2.2.2.2.2.2.2.1 q1c
    refine go_iconst (pc := 158) (v := 1) dX10_areKnown_158 (by decide) ?_
    exact gq_zret (pc := 159) (F := wM G o) rfl (by decide) dX10_areKnown_159 h
  · have q1c : l0 = 11 := gt_eq q1b _ (by decide)
    refine go_tableIn (pc := 1) (off := 67) (tgt := 68) dX10_areKnown_1 (by rw [q1b]; decide) (by rw [q1b]; decide) (by rw [q1b]; rfl) (by decide) ?_
    have h := h.2.2.2.2.2.2.2.2.2.2.2.2.1 q1c
    refine go_lv [1] rfl ?_
    exact tX10_areKnown_p68 h
  · have q1c : l0 = 12 := gt_eq q1b _ (by decide)
    refine go_tableIn (pc := 1) (off := 132) (tgt := 133) dX10_areKnown_1 (by rw [q1b]; decide) (by rw [q1b]; decide) (by rw [q1b]; rfl) (by decide) ?_
    have h := h.2.2.2.2.2.2.2.2.2.2.2.2.2 q1c
    refine go_iload_n (pc := 133) dX10_areKnown_133 rfl rfl ?_
    refine go_i2l (pc := 134) dX10_areKnown_134 ?_
    refine go_lconst (pc := 135) (v := 0) dX10_areKnown_135 (by decide) ?_
    refine go_ldc2 (pc := 136) rfl qX10_219 dX10_areKnown_136 ?_
    refine gq_callS_i (pc := 139) (F := wM G o) sX10_63 rfl (tX10_in h) rfl rfl (Nat.le_of_ble_eq_true rfl) ⟨Nat.le_of_ble_eq_true rfl, Nat.le_of_ble_eq_true rfl, Nat.le_add_right _ _, Nat.le_add_right _ _⟩ dX10_areKnown_139 (fun r3 c2 h => ?_)
    refine go_if_eq (pc := 142) (tgt := 156) dX10_areKnown_142 (by decide) (fun q4 => ?_) (fun q4 => ?_)
    · have h := h.1 q4
      refine go_iconst (pc := 156) (v := 0) dX10_areKnown_156 (by decide) ?_
      exact gq_zret (pc := 157) (F := wM G o) rfl (by decide) dX10_areKnown_157 h
    · have h := h.2 q4
      refine go_iload_n (pc := 145) dX10_areKnown_145 rfl rfl ?_
      refine gq_callS_i (pc := 146) (F := wM G o) sX10_272 rfl (tX10_isRegister h) rfl rfl (Nat.le_of_ble_eq_true rfl) ⟨Nat.le_of_ble_eq_true rfl, Nat.le_of_ble_eq_true rfl, Nat.le_add_right _ _, Nat.le_add_right _ _⟩ dX10_areKnown_146 (fun r6 c5 h => ?_)
      refine go_if_eq (pc := 149) (tgt := 156) dX10_areKnown_149 (by decide) (fun q7 => ?_) (fun q7 => ?_)
      · have h := h.1 q7
        refine go_iconst (pc := 156) (v := 0) dX10_areKnown_156 (by decide) ?_
        exact gq_zret (pc := 157) (F := wM G o) rfl (by decide) dX10_areKnown_157 h
      · have h := h.2 q7
        refine go_iconst (pc := 152) (v := 1) dX10_areKnown_152 (by decide) ?_
        refine go_goto (pc := 153) (tgt := 157) dX10_areKnown_153 (by decide) ?_
        exact gq_zret (pc := 157) (F := wM G o) rfl (by decide) dX10_areKnown_157 h
def wX10_act_p78 (l1 : Int32) (l2 : Int32) (l3 : Int32) (l4 : Int32) (l5 : Int32) (c : gMem) (Q : Int32 → gMem → Prop) : Prop :=
  ∀ v1, v1 = c 1 11 →
  ((v1 = 40 →
    Q ((-104)) c) ∧
   (¬ v1 = 40 →
    ∀ v3, v3 = c 1 11 →
    vp_in (400 + (5 * v3)) 26100 ∧
    ∀ c4, c4 = mp c 1 (400 + (5 * v3)).toNatClampNeg l1 →
    vp_in ((400 + (5 * v3)) + 1) 26100 ∧
    ∀ c6, c6 = mp c4 1 ((400 + (5 * v3)) + 1).toNatClampNeg l2 →
    vp_in ((400 + (5 * v3)) + 2) 26100 ∧
    ∀ c8, c8 = mp c6 1 ((400 + (5 * v3)) + 2).toNatClampNeg l3 →
    vp_in ((400 + (5 * v3)) + 3) 26100 ∧
    ∀ c10, c10 = mp c8 1 ((400 + (5 * v3)) + 3).toNatClampNeg l4 →
    vp_in ((400 + (5 * v3)) + 4) 26100 ∧
    ∀ c12, c12 = mp c10 1 ((400 + (5 * v3)) + 4).toNatClampNeg l5 →
    ∀ v14, v14 = c12 1 11 →
    ∀ c15, c15 = mp c12 1 11 (v14 + 1) →
    ∀ v16, v16 = c15 1 11 →
    Q v16 c15))
set_option maxRecDepth 100000 in
set_option maxHeartbeats 4000000 in
theorem tX10_act_p78 {l : Launch} {G : gG} {k : Nat} {o : gMem} {Q : Int32 → gMem → Prop} {l1 : Int32} {l2 : Int32} {l3 : Int32} {l4 : Int32} {l5 : Int32} {c : gMem} (h : wX10_act_p78 l1 l2 l3 l4 l5 c Q) : Go l G mX10_act (gbq G 3 68 84 k (qi (wM G o) Q)) 78 [(0, .ref (G.2.1 + 74)), (1, .int l1), (2, .int l2), (3, .int l3), (4, .int l4), (5, .int l5)] [] 84 k (wM G o c) := by
  unfold wX10_act_p78 at h
  refine go_aload_n (pc := 78) dX10_act_78 rfl rfl ?_
  refine go_get (pc := 79) fX10_9 rfl (gz_b (by decide)) yw0 rfl dX10_act_79 ?_
  refine go_bipush (pc := 82) (v := 11) dX10_act_82 (by decide) ?_
  refine gb_iald (pc := 84) (gz_b (by decide)) yw1 (gv_in (by decide)) dX10_act_84 (fun v1 ev1 => ?_)
  have h := h v1 ev1
  refine go_bipush (pc := 85) (v := 40) dX10_act_85 (by decide) ?_
  refine go_icmp_ne (pc := 87) (tgt := 93) dX10_act_87 (by decide) (fun q2 => ?_) (fun q2 => ?_)
  · have h := h.2 q2
    refine go_sipush (pc := 93) (v := 400) dX10_act_93 (by decide) ?_
    refine go_iconst (pc := 96) (v := 5) dX10_act_96 (by decide) ?_
    refine go_aload_n (pc := 97) dX10_act_97 rfl rfl ?_
    refine go_get (pc := 98) fX10_9 rfl (gz_b (by decide)) yw0 rfl dX10_act_98 ?_
    refine go_bipush (pc := 101) (v := 11) dX10_act_101 (by decide) ?_
    refine gb_iald (pc := 103) (gz_b (by decide)) yw1 (gv_in (by decide)) dX10_act_103 (fun v3 ev3 => ?_)
    have h := h v3 ev3
    refine go_imul (pc := 104) dX10_act_104 ?_
    refine go_iadd (pc := 105) dX10_act_105 ?_
    refine go_istore (pc := 106) (lv' := [(6, .int (400 + (5 * v3))), (0, .ref (G.2.1 + 74)), (1, .int l1), (2, .int l2), (3, .int l3), (4, .int l4), (5, .int l5)]) dX10_act_106 (by decide) rfl ?_
    refine go_aload_n (pc := 108) dX10_act_108 rfl rfl ?_
    refine go_get (pc := 109) fX10_9 rfl (gz_b (by decide)) yw0 rfl dX10_act_109 ?_
    refine go_iload (pc := 112) dX10_act_112 rfl ?_
    refine go_iload_n (pc := 114) dX10_act_114 rfl rfl ?_
    obtain ⟨b5, h⟩ := h
    refine gb_iast (pc := 115) (F := wM G o) (gz_b (by decide)) yw1 b5 ya1 dX10_act_115 (fun c4 ec4 => ?_)
    have h := h c4 ec4
    refine go_aload_n (pc := 116) dX10_act_116 rfl rfl ?_
    refine go_get (pc := 117) fX10_9 rfl (gz_b (by decide)) yw0 rfl dX10_act_117 ?_
    refine go_iload (pc := 120) dX10_act_120 rfl ?_
    refine go_iconst (pc := 122) (v := 1) dX10_act_122 (by decide) ?_
    refine go_iadd (pc := 123) dX10_act_123 ?_
    refine go_iload_n (pc := 124) dX10_act_124 rfl rfl ?_
    obtain ⟨b7, h⟩ := h
    refine gb_iast (pc := 125) (F := wM G o) (gz_b (by decide)) yw1 b7 ya1 dX10_act_125 (fun c6 ec6 => ?_)
    have h := h c6 ec6
    refine go_aload_n (pc := 126) dX10_act_126 rfl rfl ?_
    refine go_get (pc := 127) fX10_9 rfl (gz_b (by decide)) yw0 rfl dX10_act_127 ?_
    refine go_iload (pc := 130) dX10_act_130 rfl ?_
    refine go_iconst (pc := 132) (v := 2) dX10_act_132 (by decide) ?_
    refine go_iadd (pc := 133) dX10_act_133 ?_
    refine go_iload_n (pc := 134) dX10_act_134 rfl rfl ?_
    obtain ⟨b9, h⟩ := h
    refine gb_iast (pc := 135) (F := wM G o) (gz_b (by decide)) yw1 b9 ya1 dX10_act_135 (fun c8 ec8 => ?_)
    have h := h c8 ec8
    refine go_aload_n (pc := 136) dX10_act_136 rfl rfl ?_
    refine go_get (pc := 137) fX10_9 rfl (gz_b (by decide)) yw0 rfl dX10_act_137 ?_
    refine go_iload (pc := 140) dX10_act_140 rfl ?_
    refine go_iconst (pc := 142) (v := 3) dX10_act_142 (by decide) ?_
    refine go_iadd (pc := 143) dX10_act_143 ?_
    refine go_iload (pc := 144) dX10_act_144 rfl ?_
    obtain ⟨b11, h⟩ := h
    refine gb_iast (pc := 146) (F := wM G o) (gz_b (by decide)) yw1 b11 ya1 dX10_act_146 (fun c10 ec10 => ?_)
    have h := h c10 ec10
    refine go_aload_n (pc := 147) dX10_act_147 rfl rfl ?_
    refine go_get (pc := 148) fX10_9 rfl (gz_b (by decide)) yw0 rfl dX10_act_148 ?_
    refine go_iload (pc := 151) dX10_act_151 rfl ?_
    refine go_iconst (pc := 153) (v := 4) dX10_act_153 (by decide) ?_
    refine go_iadd (pc := 154) dX10_act_154 ?_
    refine go_iload (pc := 155) dX10_act_155 rfl ?_
    obtain ⟨b13, h⟩ := h
    refine gb_iast (pc := 157) (F := wM G o) (gz_b (by decide)) yw1 b13 ya1 dX10_act_157 (fun c12 ec12 => ?_)
    have h := h c12 ec12
    refine go_aload_n (pc := 158) dX10_act_158 rfl rfl ?_
    refine go_get (pc := 159) fX10_9 rfl (gz_b (by decide)) yw0 rfl dX10_act_159 ?_
    refine go_bipush (pc := 162) (v := 11) dX10_act_162 (by decide) ?_
    refine go_dup2 (pc := 164) dX10_act_164 rfl rfl ?_
    refine gb_iald (pc := 165) (gz_b (by decide)) yw1 (gv_in (by decide)) dX10_act_165 (fun v14 ev14 => ?_)
    have h := h v14 ev14
    refine go_iconst (pc := 166) (v := 1) dX10_act_166 (by decide) ?_
    refine go_iadd (pc := 167) dX10_act_167 ?_
    refine gb_iast (pc := 168) (F := wM G o) (gz_b (by decide)) yw1 (gv_in (by decide)) ya1 dX10_act_168 (fun c15 ec15 => ?_)
    have h := h c15 ec15
    refine go_aload_n (pc := 169) dX10_act_169 rfl rfl ?_
    refine go_get (pc := 170) fX10_9 rfl (gz_b (by decide)) yw0 rfl dX10_act_170 ?_
    refine go_bipush (pc := 173) (v := 11) dX10_act_173 (by decide) ?_
    refine gb_iald (pc := 175) (gz_b (by decide)) yw1 (gv_in (by decide)) dX10_act_175 (fun v16 ev16 => ?_)
    have h := h v16 ev16
    exact gq_iret (pc := 176) (F := wM G o) rfl dX10_act_176 h
  · have h := h.1 q2
    refine go_bipush (pc := 90) (v := (-104)) dX10_act_90 (by decide) ?_
    exact gq_iret (pc := 92) (F := wM G o) rfl dX10_act_92 h
def wX10_act_p57 (l1 : Int32) (l2 : Int32) (l3 : Int32) (l4 : Int32) (l5 : Int32) (c : gMem) (Q : Int32 → gMem → Prop) : Prop :=
  ((l1 = 9 →
    wX10_in l2.toInt64 0 1000 c (fun r3 c2 =>
    ((r3 = 0 →
      Q ((-102)) c2) ∧
     (¬ r3 = 0 →
      wX10_act_p78 l1 l2 l3 l4 l5 c2 Q)))) ∧
   (¬ l1 = 9 →
    wX10_act_p78 l1 l2 l3 l4 l5 c Q))
set_option maxRecDepth 100000 in
set_option maxHeartbeats 4000000 in
theorem tX10_act_p57 {l : Launch} {G : gG} {k : Nat} {o : gMem} {Q : Int32 → gMem → Prop} {l1 : Int32} {l2 : Int32} {l3 : Int32} {l4 : Int32} {l5 : Int32} {c : gMem} (h : wX10_act_p57 l1 l2 l3 l4 l5 c Q) : Go l G mX10_act (gbq G 3 68 84 k (qi (wM G o) Q)) 57 [(0, .ref (G.2.1 + 74)), (1, .int l1), (2, .int l2), (3, .int l3), (4, .int l4), (5, .int l5)] [] 84 k (wM G o c) := by
  unfold wX10_act_p57 at h
  refine go_iload_n (pc := 57) dX10_act_57 rfl rfl ?_
  refine go_bipush (pc := 58) (v := 9) dX10_act_58 (by decide) ?_
  refine go_icmp_ne (pc := 60) (tgt := 78) dX10_act_60 (by decide) (fun q1 => ?_) (fun q1 => ?_)
  · have h := h.2 q1
    refine go_lv [0, 1, 2, 3, 4, 5] rfl ?_
    exact tX10_act_p78 h
  · have h := h.1 q1
    refine go_iload_n (pc := 63) dX10_act_63 rfl rfl ?_
    refine go_i2l (pc := 64) dX10_act_64 ?_
    refine go_lconst (pc := 65) (v := 0) dX10_act_65 (by decide) ?_
    refine go_ldc2 (pc := 66) rfl qX10_224 dX10_act_66 ?_
    refine gq_callS_i (pc := 69) (F := wM G o) sX10_63 rfl (tX10_in h) rfl rfl (Nat.le_of_ble_eq_true rfl) ⟨Nat.le_of_ble_eq_true rfl, Nat.le_of_ble_eq_true rfl, Nat.le_add_right _ _, Nat.le_add_right _ _⟩ dX10_act_69 (fun r3 c2 h => ?_)
    refine go_if_ne (pc := 72) (tgt := 78) dX10_act_72 (by decide) (fun q4 => ?_) (fun q4 => ?_)
    · have h := h.2 q4
      refine go_lv [0, 1, 2, 3, 4, 5] rfl ?_
      exact tX10_act_p78 h
    · have h := h.1 q4
      refine go_bipush (pc := 75) (v := (-102)) dX10_act_75 (by decide) ?_
      exact gq_iret (pc := 77) (F := wM G o) rfl dX10_act_77 h
def wX10_act (l1 : Int32) (l2 : Int32) (l3 : Int32) (l4 : Int32) (l5 : Int32) (c : gMem) (Q : Int32 → gMem → Prop) : Prop :=
  wX10_areKnown l1 l2 l3 l4 c (fun r2 c1 =>
  ((r2 = 0 →
    Q ((-101)) c1) ∧
   (¬ r2 = 0 →
    wX10_in l1.toInt64 0 12 c1 (fun r5 c4 =>
    ((r5 = 0 →
      Q ((-102)) c4) ∧
     (¬ r5 = 0 →
      ((l1 = 0 →
        wX10_in l3.toInt64 0 5 c4 (fun r9 c8 =>
        ((r9 = 0 →
          Q ((-102)) c8) ∧
         (¬ r9 = 0 →
          wX10_hasMany l3 c8 (fun r12 c11 =>
          ((r12 = 0 →
            wX10_act_p57 l1 l2 l3 l4 l5 c11 Q) ∧
           (¬ r12 = 0 →
            ((300 < l4 →
              Q ((-102)) c11) ∧
             (¬ 300 < l4 →
              wX10_act_p57 l1 l2 l3 l4 l5 c11 Q))))))))) ∧
       (¬ l1 = 0 →
        wX10_act_p57 l1 l2 l3 l4 l5 c4 Q))))))))
set_option maxRecDepth 100000 in
set_option maxHeartbeats 4000000 in
theorem tX10_act {l : Launch} {G : gG} {k : Nat} {o : gMem} {Q : Int32 → gMem → Prop} {l1 : Int32} {l2 : Int32} {l3 : Int32} {l4 : Int32} {l5 : Int32} {c : gMem} (h : wX10_act l1 l2 l3 l4 l5 c Q) : Cq l G mX10_act 3 68 [.ref (G.2.1 + 74), .int l1, .int l2, .int l3, .int l4, .int l5] 84 k (wM G o c) (qi (wM G o) Q) := by
  refine Cq.of (by decide) (Nat.le_of_ble_eq_true rfl) ?_
  show Go l G mX10_act (gbq G 3 68 84 k (qi (wM G o) Q)) 0 [(0, .ref (G.2.1 + 74)), (1, .int l1), (2, .int l2), (3, .int l3), (4, .int l4), (5, .int l5)] [] 84 k (wM G o c)
  unfold wX10_act at h
  refine go_iload_n (pc := 0) dX10_act_0 rfl rfl ?_
  refine go_iload_n (pc := 1) dX10_act_1 rfl rfl ?_
  refine go_iload_n (pc := 2) dX10_act_2 rfl rfl ?_
  refine go_iload (pc := 3) dX10_act_3 rfl ?_
  refine gq_callS_i (pc := 5) (F := wM G o) sX10_275 rfl (tX10_areKnown h) rfl rfl (Nat.le_of_ble_eq_true rfl) ⟨Nat.le_of_ble_eq_true rfl, Nat.le_of_ble_eq_true rfl, Nat.le_add_right _ _, Nat.le_add_right _ _⟩ dX10_act_5 (fun r2 c1 h => ?_)
  refine go_if_ne (pc := 8) (tgt := 14) dX10_act_8 (by decide) (fun q3 => ?_) (fun q3 => ?_)
  · have h := h.2 q3
    refine go_iload_n (pc := 14) dX10_act_14 rfl rfl ?_
    refine go_i2l (pc := 15) dX10_act_15 ?_
    refine go_lconst (pc := 16) (v := 0) dX10_act_16 (by decide) ?_
    refine go_ldc2 (pc := 17) rfl qX10_279 dX10_act_17 ?_
    refine gq_callS_i (pc := 20) (F := wM G o) sX10_63 rfl (tX10_in h) rfl rfl (Nat.le_of_ble_eq_true rfl) ⟨Nat.le_of_ble_eq_true rfl, Nat.le_of_ble_eq_true rfl, Nat.le_add_right _ _, Nat.le_add_right _ _⟩ dX10_act_20 (fun r5 c4 h => ?_)
    refine go_if_eq (pc := 23) (tgt := 75) dX10_act_23 (by decide) (fun q6 => ?_) (fun q6 => ?_)
    · have h := h.1 q6
      refine go_bipush (pc := 75) (v := (-102)) dX10_act_75 (by decide) ?_
      exact gq_iret (pc := 77) (F := wM G o) rfl dX10_act_77 h
    · have h := h.2 q6
      refine go_iload_n (pc := 26) dX10_act_26 rfl rfl ?_
      refine go_if_ne (pc := 27) (tgt := 57) dX10_act_27 (by decide) (fun q7 => ?_) (fun q7 => ?_)
      · have h := h.2 q7
        refine go_lv [0, 1, 2, 3, 4, 5] rfl ?_
        exact tX10_act_p57 h
      · have h := h.1 q7
        refine go_iload_n (pc := 30) dX10_act_30 rfl rfl ?_
        refine go_i2l (pc := 31) dX10_act_31 ?_
        refine go_lconst (pc := 32) (v := 0) dX10_act_32 (by decide) ?_
        refine go_ldc2 (pc := 33) rfl qX10_150 dX10_act_33 ?_
        refine gq_callS_i (pc := 36) (F := wM G o) sX10_63 rfl (tX10_in h) rfl rfl (Nat.le_of_ble_eq_true rfl) ⟨Nat.le_of_ble_eq_true rfl, Nat.le_of_ble_eq_true rfl, Nat.le_add_right _ _, Nat.le_add_right _ _⟩ dX10_act_36 (fun r9 c8 h => ?_)
        refine go_if_eq (pc := 39) (tgt := 75) dX10_act_39 (by decide) (fun q10 => ?_) (fun q10 => ?_)
        · have h := h.1 q10
          refine go_bipush (pc := 75) (v := (-102)) dX10_act_75 (by decide) ?_
          exact gq_iret (pc := 77) (F := wM G o) rfl dX10_act_77 h
        · have h := h.2 q10
          refine go_iload_n (pc := 42) dX10_act_42 rfl rfl ?_
          refine gq_callS_i (pc := 43) (F := wM G o) sX10_138 rfl (tX10_hasMany h) rfl rfl (Nat.le_of_ble_eq_true rfl) ⟨Nat.le_of_ble_eq_true rfl, Nat.le_of_ble_eq_true rfl, Nat.le_add_right _ _, Nat.le_add_right _ _⟩ dX10_act_43 (fun r12 c11 h => ?_)
          refine go_if_eq (pc := 46) (tgt := 57) dX10_act_46 (by decide) (fun q13 => ?_) (fun q13 => ?_)
          · have h := h.1 q13
            refine go_lv [0, 1, 2, 3, 4, 5] rfl ?_
            exact tX10_act_p57 h
          · have h := h.2 q13
            refine go_iload (pc := 49) dX10_act_49 rfl ?_
            refine go_sipush (pc := 51) (v := 300) dX10_act_51 (by decide) ?_
            refine go_icmp_gt (pc := 54) (tgt := 75) dX10_act_54 (by decide) (fun q14 => ?_) (fun q14 => ?_)
            · have h := h.1 q14
              refine go_bipush (pc := 75) (v := (-102)) dX10_act_75 (by decide) ?_
              exact gq_iret (pc := 77) (F := wM G o) rfl dX10_act_77 h
            · have h := h.2 q14
              refine go_lv [0, 1, 2, 3, 4, 5] rfl ?_
              exact tX10_act_p57 h
  · have h := h.1 q3
    refine go_bipush (pc := 11) (v := (-101)) dX10_act_11 (by decide) ?_
    exact gq_iret (pc := 13) (F := wM G o) rfl dX10_act_13 h
def wX10_clear (c : gMem) (Q : Int32 → gMem → Prop) : Prop :=
  ∀ v1, v1 = c 1 11 →
  ∀ c2, c2 = mp c 1 11 0 →
  ∀ c3, c3 = mp c2 1 12 0 →
  Q v1 c3
set_option maxRecDepth 100000 in
set_option maxHeartbeats 4000000 in
theorem tX10_clear {l : Launch} {G : gG} {k : Nat} {o : gMem} {Q : Int32 → gMem → Prop} {c : gMem} (h : wX10_clear c Q) : Cq l G mX10_clear 0 0 [.ref (G.2.1 + 74)] 84 k (wM G o c) (qi (wM G o) Q) := by
  refine Cq.of (by decide) (Nat.le_of_ble_eq_true rfl) ?_
  show Go l G mX10_clear (gbq G 0 0 84 k (qi (wM G o) Q)) 0 [(0, .ref (G.2.1 + 74))] [] 84 k (wM G o c)
  unfold wX10_clear at h
  refine go_aload_n (pc := 0) dX10_clear_0 rfl rfl ?_
  refine go_get (pc := 1) fX10_9 rfl (gz_b (by decide)) yw0 rfl dX10_clear_1 ?_
  refine go_bipush (pc := 4) (v := 11) dX10_clear_4 (by decide) ?_
  refine gb_iald (pc := 6) (gz_b (by decide)) yw1 (gv_in (by decide)) dX10_clear_6 (fun v1 ev1 => ?_)
  have h := h v1 ev1
  refine go_istore_n (pc := 7) (lv' := [(1, .int v1), (0, .ref (G.2.1 + 74))]) dX10_clear_7 rfl (by decide) rfl ?_
  refine go_aload_n (pc := 8) dX10_clear_8 rfl rfl ?_
  refine go_get (pc := 9) fX10_9 rfl (gz_b (by decide)) yw0 rfl dX10_clear_9 ?_
  refine go_bipush (pc := 12) (v := 11) dX10_clear_12 (by decide) ?_
  refine go_iconst (pc := 14) (v := 0) dX10_clear_14 (by decide) ?_
  refine gb_iast (pc := 15) (F := wM G o) (gz_b (by decide)) yw1 (gv_in (by decide)) ya1 dX10_clear_15 (fun c2 ec2 => ?_)
  have h := h c2 ec2
  refine go_aload_n (pc := 16) dX10_clear_16 rfl rfl ?_
  refine go_get (pc := 17) fX10_9 rfl (gz_b (by decide)) yw0 rfl dX10_clear_17 ?_
  refine go_bipush (pc := 20) (v := 12) dX10_clear_20 (by decide) ?_
  refine go_iconst (pc := 22) (v := 0) dX10_clear_22 (by decide) ?_
  refine gb_iast (pc := 23) (F := wM G o) (gz_b (by decide)) yw1 (gv_in (by decide)) ya1 dX10_clear_23 (fun c3 ec3 => ?_)
  have h := h c3 ec3
  refine go_iload_n (pc := 24) dX10_clear_24 rfl rfl ?_
  exact gq_iret (pc := 25) (F := wM G o) rfl dX10_clear_25 h
def wX10_reg (l1 : Int32) (c : gMem) (Q : Int32 → gMem → Prop) : Prop :=
  vp_in (76 + l1) 26100 ∧
  ∀ v1, v1 = c 1 (76 + l1).toNatClampNeg →
  Q v1 c
set_option maxRecDepth 100000 in
set_option maxHeartbeats 4000000 in
theorem tX10_reg {l : Launch} {G : gG} {k : Nat} {o : gMem} {Q : Int32 → gMem → Prop} {l1 : Int32} {c : gMem} (h : wX10_reg l1 c Q) : Cq l G mX10_reg 0 0 [.ref (G.2.1 + 74), .int l1] 84 k (wM G o c) (qi (wM G o) Q) := by
  refine Cq.of (by decide) (Nat.le_of_ble_eq_true rfl) ?_
  show Go l G mX10_reg (gbq G 0 0 84 k (qi (wM G o) Q)) 0 [(0, .ref (G.2.1 + 74)), (1, .int l1)] [] 84 k (wM G o c)
  unfold wX10_reg at h
  refine go_aload_n (pc := 0) dX10_reg_0 rfl rfl ?_
  refine go_get (pc := 1) fX10_9 rfl (gz_b (by decide)) yw0 rfl dX10_reg_1 ?_
  refine go_bipush (pc := 4) (v := 76) dX10_reg_4 (by decide) ?_
  refine go_iload_n (pc := 6) dX10_reg_6 rfl rfl ?_
  refine go_iadd (pc := 7) dX10_reg_7 ?_
  obtain ⟨b2, h⟩ := h
  refine gb_iald (pc := 8) (gz_b (by decide)) yw1 b2 dX10_reg_8 (fun v1 ev1 => ?_)
  have h := h v1 ev1
  exact gq_iret (pc := 9) (F := wM G o) rfl dX10_reg_9 h
def wX10_findingOf (l0 : Int32) (c : gMem) (Q : Int32 → gMem → Prop) : Prop :=
  ((0 ≤ l0 →
    Q 0 c) ∧
   (¬ 0 ≤ l0 →
    Q (((-10)) - l0) c))
set_option maxRecDepth 100000 in
set_option maxHeartbeats 4000000 in
theorem tX10_findingOf {l : Launch} {G : gG} {k : Nat} {o : gMem} {Q : Int32 → gMem → Prop} {l0 : Int32} {c : gMem} (h : wX10_findingOf l0 c Q) : Cq l G mX10_findingOf 0 0 [.int l0] 84 k (wM G o c) (qi (wM G o) Q) := by
  refine Cq.of (by decide) (Nat.le_of_ble_eq_true rfl) ?_
  show Go l G mX10_findingOf (gbq G 0 0 84 k (qi (wM G o) Q)) 0 [(0, .int l0)] [] 84 k (wM G o c)
  unfold wX10_findingOf at h
  refine go_iload_n (pc := 0) dX10_findingOf_0 rfl rfl ?_
  refine go_if_ge (pc := 1) (tgt := 11) dX10_findingOf_1 (by decide) (fun q1 => ?_) (fun q1 => ?_)
  · have h := h.1 q1
    refine go_iconst (pc := 11) (v := 0) dX10_findingOf_11 (by decide) ?_
    exact gq_iret (pc := 12) (F := wM G o) rfl dX10_findingOf_12 h
  · have h := h.2 q1
    refine go_bipush (pc := 4) (v := (-10)) dX10_findingOf_4 (by decide) ?_
    refine go_iload_n (pc := 6) dX10_findingOf_6 rfl rfl ?_
    refine go_isub (pc := 7) dX10_findingOf_7 ?_
    refine go_goto (pc := 8) (tgt := 12) dX10_findingOf_8 (by decide) ?_
    exact gq_iret (pc := 12) (F := wM G o) rfl dX10_findingOf_12 h
def wX10_into_p28 (l2 : Int32) (s0 : Int32) (s1 : Int32) (c : gMem) (Q : Int32 → gMem → Prop) : Prop :=
  vp_in s1 26100 ∧
  ∀ c1, c1 = mp c 1 s1.toNatClampNeg s0 →
  Q l2 c1
set_option maxRecDepth 100000 in
set_option maxHeartbeats 4000000 in
theorem tX10_into_p28 {l : Launch} {G : gG} {k : Nat} {o : gMem} {Q : Int32 → gMem → Prop} {l2 : Int32} {s0 : Int32} {s1 : Int32} {c : gMem} (h : wX10_into_p28 l2 s0 s1 c Q) : Go l G mX10_into (gbq G 0 0 84 k (qi (wM G o) Q)) 28 [(2, .int l2)] [.int s0, .int s1, .ref (G.2.1 + 75)] 84 k (wM G o c) := by
  unfold wX10_into_p28 at h
  obtain ⟨b2, h⟩ := h
  refine gb_iast (pc := 28) (F := wM G o) (gz_b (by decide)) yw1 b2 ya1 dX10_into_28 (fun c1 ec1 => ?_)
  have h := h c1 ec1
  refine go_iload_n (pc := 29) dX10_into_29 rfl rfl ?_
  exact gq_iret (pc := 30) (F := wM G o) rfl dX10_into_30 h
def wX10_into (l1 : Int32) (l2 : Int32) (c : gMem) (Q : Int32 → gMem → Prop) : Prop :=
  ((l2 = 0 →
    ∀ v4, v4 = c 0 12 →
    wX10_into_p28 l2 v4 (76 + l1) c Q) ∧
   (¬ l2 = 0 →
    vp_in (76 + l1) 26100 ∧
    ∀ v2, v2 = c 1 (76 + l1).toNatClampNeg →
    wX10_into_p28 l2 v2 (76 + l1) c Q))
set_option maxRecDepth 100000 in
set_option maxHeartbeats 4000000 in
theorem tX10_into {l : Launch} {G : gG} {k : Nat} {o : gMem} {Q : Int32 → gMem → Prop} {l1 : Int32} {l2 : Int32} {c : gMem} (h : wX10_into l1 l2 c Q) : Cq l G mX10_into 0 0 [.ref (G.2.1 + 74), .int l1, .int l2] 84 k (wM G o c) (qi (wM G o) Q) := by
  refine Cq.of (by decide) (Nat.le_of_ble_eq_true rfl) ?_
  show Go l G mX10_into (gbq G 0 0 84 k (qi (wM G o) Q)) 0 [(0, .ref (G.2.1 + 74)), (1, .int l1), (2, .int l2)] [] 84 k (wM G o c)
  unfold wX10_into at h
  refine go_aload_n (pc := 0) dX10_into_0 rfl rfl ?_
  refine go_get (pc := 1) fX10_9 rfl (gz_b (by decide)) yw0 rfl dX10_into_1 ?_
  refine go_bipush (pc := 4) (v := 76) dX10_into_4 (by decide) ?_
  refine go_iload_n (pc := 6) dX10_into_6 rfl rfl ?_
  refine go_iadd (pc := 7) dX10_into_7 ?_
  refine go_iload_n (pc := 8) dX10_into_8 rfl rfl ?_
  refine go_if_ne (pc := 9) (tgt := 19) dX10_into_9 (by decide) (fun q1 => ?_) (fun q1 => ?_)
  · have h := h.2 q1
    refine go_aload_n (pc := 19) dX10_into_19 rfl rfl ?_
    refine go_get (pc := 20) fX10_9 rfl (gz_b (by decide)) yw0 rfl dX10_into_20 ?_
    refine go_bipush (pc := 23) (v := 76) dX10_into_23 (by decide) ?_
    refine go_iload_n (pc := 25) dX10_into_25 rfl rfl ?_
    refine go_iadd (pc := 26) dX10_into_26 ?_
    obtain ⟨b3, h⟩ := h
    refine gb_iald (pc := 27) (gz_b (by decide)) yw1 b3 dX10_into_27 (fun v2 ev2 => ?_)
    have h := h v2 ev2
    refine go_lv [2] rfl ?_
    exact tX10_into_p28 h
  · have h := h.1 q1
    refine go_aload_n (pc := 12) dX10_into_12 rfl rfl ?_
    refine gb_get (pc := 13) fX10_171 rfl (gz_b (by decide)) yw0 rfl dX10_into_13 (fun v4 ev4 => ?_)
    have h := h v4 ev4
    refine go_goto (pc := 16) (tgt := 28) dX10_into_16 (by decide) ?_
    refine go_lv [2] rfl ?_
    exact tX10_into_p28 h
def wX10_does (l1 : Int32) (c : gMem) (Q : Int32 → gMem → Prop) : Prop :=
  vp_in (l1 + 1) 26100 ∧
  ∀ v1, v1 = c 1 (l1 + 1).toNatClampNeg →
  vp_in (l1 + 2) 26100 ∧
  ∀ v3, v3 = c 1 (l1 + 2).toNatClampNeg →
  vp_in (l1 + 3) 26100 ∧
  ∀ v5, v5 = c 1 (l1 + 3).toNatClampNeg →
  vp_in l1 26100 ∧
  ∀ v7, v7 = c 1 l1.toNatClampNeg →
  ((v7.toInt < 0 ∨ 11 < v7.toInt →
    wX10_reg v5 c (fun r11 c10 =>
    wX10_shelves v1 v3 r11 c10 (fun r13 c12 =>
    wX10_findingOf r13 c12 (fun r15 c14 =>
    Q r15 c14)))) ∧
   (v7 = 0 →
    wX10_makes v3 v5 c (fun r17 c16 =>
    ∀ c18, c18 = mp c16 0 12 r17 →
    wX10_findingOf r17 c18 (fun r20 c19 =>
    wX10_into v1 r20 c19 (fun r22 c21 =>
    Q r22 c21)))) ∧
   (v7 = 1 →
    wX10_reg v1 c (fun r24 c23 =>
    wX10_reg v5 c23 (fun r26 c25 =>
    wX10_linked r24 v3 r26 c25 (fun r28 c27 =>
    wX10_findingOf r28 c27 (fun r30 c29 =>
    Q r30 c29))))) ∧
   (v7 = 2 →
    wX10_reg v1 c (fun r32 c31 =>
    wX10_gets r32 v3 c31 (fun r34 c33 =>
    wX10_into v5 r34 c33 (fun r36 c35 =>
    Q r36 c35)))) ∧
   (v7 = 3 →
    wX10_reg v3 c (fun r38 c37 =>
    wX10_roots v1 r38 c37 (fun r40 c39 =>
    Q r40 c39))) ∧
   (v7 = 4 →
    vp_in (20 + v1) 26100 ∧
    ∀ v41, v41 = c 1 (20 + v1).toNatClampNeg →
    ∀ c43, c43 = mp c 0 12 v41 →
    wX10_into v3 0 c43 (fun r45 c44 =>
    Q r45 c44)) ∧
   (v7 = 5 →
    wX10_reg v1 c (fun r47 c46 =>
    wX10_looks r47 c46 (fun r49 c48 =>
    wX10_into v3 r49 c48 (fun r51 c50 =>
    Q r51 c50)))) ∧
   (v7 = 6 →
    wX10_reg v1 c (fun r53 c52 =>
    wX10_reg v3 c52 (fun r55 c54 =>
    wX10_weakens r53 r55 c54 (fun r57 c56 =>
    wX10_findingOf r57 c56 (fun r59 c58 =>
    Q r59 c58))))) ∧
   (v7 = 7 →
    wX10_reg v1 c (fun r61 c60 =>
    wX10_reg v5 c60 (fun r63 c62 =>
    vp_in (l1 + 4) 26100 ∧
    ∀ v64, v64 = c62 1 (l1 + 4).toNatClampNeg →
    wX10_copies r61 v3 r63 0 v64 c62 (fun r67 c66 =>
    Q r67 c66)))) ∧
   (v7 = 8 →
    vp_in (76 + v1) 26100 ∧
    ∀ c68, c68 = mp c 1 (76 + v1).toNatClampNeg ((-1)) →
    Q 0 c68) ∧
   (v7 = 9 →
    wX10_keepUndo c (fun c70 =>
    wX10_stepped v1 c70 (fun r72 c71 =>
    Q 0 c71))) ∧
   (v7 = 10 →
    ((v1 = 0 →
      Q 8 c) ∧
     (¬ v1 = 0 →
      Q 7 c))) ∧
   (v7 = 11 →
    wX10_reg v1 c (fun r75 c74 =>
    wX10_puts r75 v3 v5 c74 (fun r77 c76 =>
    Q r77 c76))))
set_option maxRecDepth 100000 in
set_option maxHeartbeats 4000000 in
theorem tX10_does {l : Launch} {G : gG} {k : Nat} {o : gMem} {Q : Int32 → gMem → Prop} {l1 : Int32} {c : gMem} (h : wX10_does l1 c Q) : Cq l G mX10_does 7 162 [.ref (G.2.1 + 74), .int l1] 84 k (wM G o c) (qi (wM G o) Q) := by
  refine Cq.of (by decide) (Nat.le_of_ble_eq_true rfl) ?_
  show Go l G mX10_does (gbq G 7 162 84 k (qi (wM G o) Q)) 0 [(0, .ref (G.2.1 + 74)), (1, .int l1)] [] 84 k (wM G o c)
  unfold wX10_does at h
  refine go_aload_n (pc := 0) dX10_does_0 rfl rfl ?_
  refine go_get (pc := 1) fX10_9 rfl (gz_b (by decide)) yw0 rfl dX10_does_1 ?_
  refine go_iload_n (pc := 4) dX10_does_4 rfl rfl ?_
  refine go_iconst (pc := 5) (v := 1) dX10_does_5 (by decide) ?_
  refine go_iadd (pc := 6) dX10_does_6 ?_
  obtain ⟨b2, h⟩ := h
  refine gb_iald (pc := 7) (gz_b (by decide)) yw1 b2 dX10_does_7 (fun v1 ev1 => ?_)
  have h := h v1 ev1
  refine go_istore_n (pc := 8) (lv' := [(2, .int v1), (0, .ref (G.2.1 + 74)), (1, .int l1)]) dX10_does_8 rfl (by decide) rfl ?_
  refine go_aload_n (pc := 9) dX10_does_9 rfl rfl ?_
  refine go_get (pc := 10) fX10_9 rfl (gz_b (by decide)) yw0 rfl dX10_does_10 ?_
  refine go_iload_n (pc := 13) dX10_does_13 rfl rfl ?_
  refine go_iconst (pc := 14) (v := 2) dX10_does_14 (by decide) ?_
  refine go_iadd (pc := 15) dX10_does_15 ?_
  obtain ⟨b4, h⟩ := h
  refine gb_iald (pc := 16) (gz_b (by decide)) yw1 b4 dX10_does_16 (fun v3 ev3 => ?_)
  have h := h v3 ev3
  refine go_istore_n (pc := 17) (lv' := [(3, .int v3), (2, .int v1), (0, .ref (G.2.1 + 74)), (1, .int l1)]) dX10_does_17 rfl (by decide) rfl ?_
  refine go_aload_n (pc := 18) dX10_does_18 rfl rfl ?_
  refine go_get (pc := 19) fX10_9 rfl (gz_b (by decide)) yw0 rfl dX10_does_19 ?_
  refine go_iload_n (pc := 22) dX10_does_22 rfl rfl ?_
  refine go_iconst (pc := 23) (v := 3) dX10_does_23 (by decide) ?_
  refine go_iadd (pc := 24) dX10_does_24 ?_
  obtain ⟨b6, h⟩ := h
  refine gb_iald (pc := 25) (gz_b (by decide)) yw1 b6 dX10_does_25 (fun v5 ev5 => ?_)
  have h := h v5 ev5
  refine go_istore (pc := 26) (lv' := [(4, .int v5), (3, .int v3), (2, .int v1), (0, .ref (G.2.1 + 74)), (1, .int l1)]) dX10_does_26 (by decide) rfl ?_
  refine go_aload_n (pc := 28) dX10_does_28 rfl rfl ?_
  refine go_get (pc := 29) fX10_9 rfl (gz_b (by decide)) yw0 rfl dX10_does_29 ?_
  refine go_iload_n (pc := 32) dX10_does_32 rfl rfl ?_
  obtain ⟨b8, h⟩ := h
  refine gb_iald (pc := 33) (gz_b (by decide)) yw1 b8 dX10_does_33 (fun v7 ev7 => ?_)
  have h := h v7 ev7
  by_cases q9 : v7.toInt < 0 ∨ 11 < v7.toInt
  · refine go_tableOut (pc := 34) (tgt := 298) dX10_does_34 q9 (by decide) ?_
    have h := h.1 q9
    refine go_aload_n (pc := 298) dX10_does_298 rfl rfl ?_
    refine go_iload_n (pc := 299) dX10_does_299 rfl rfl ?_
    refine go_iload_n (pc := 300) dX10_does_300 rfl rfl ?_
    refine go_aload_n (pc := 301) dX10_does_301 rfl rfl ?_
    refine go_iload (pc := 302) dX10_does_302 rfl ?_
    refine gq_callV_i (pc := 304) (F := wM G o) vX10_287 rfl (tX10_reg h) rfl rfl (gz_b (by decide)) yw0 rfl (Nat.le_of_ble_eq_true rfl) ⟨Nat.le_of_ble_eq_true rfl, Nat.le_of_ble_eq_true rfl, Nat.le_add_right _ _, Nat.le_add_right _ _⟩ dX10_does_304 (fun r11 c10 h => ?_)
    refine gq_callV_i (pc := 307) (F := wM G o) vX10_221 rfl (tX10_shelves h) rfl rfl (gz_b (by decide)) yw0 rfl (Nat.le_of_ble_eq_true rfl) ⟨Nat.le_of_ble_eq_true rfl, Nat.le_of_ble_eq_true rfl, Nat.le_add_right _ _, Nat.le_add_right _ _⟩ dX10_does_307 (fun r13 c12 h => ?_)
    refine gq_callS_i (pc := 310) (F := wM G o) sX10_281 rfl (tX10_findingOf h) rfl rfl (Nat.le_of_ble_eq_true rfl) ⟨Nat.le_of_ble_eq_true rfl, Nat.le_of_ble_eq_true rfl, Nat.le_add_right _ _, Nat.le_add_right _ _⟩ dX10_does_310 (fun r15 c14 h => ?_)
    exact gq_iret (pc := 313) (F := wM G o) rfl dX10_does_313 h
  have q9a : v7.toInt = 0 ∨ v7.toInt = 1 ∨ v7.toInt = 2 ∨ v7.toInt = 3 ∨ v7.toInt = 4 ∨ v7.toInt = 5 ∨ v7.toInt = 6 ∨ v7.toInt = 7 ∨ v7.toInt = 8 ∨ v7.toInt = 9 ∨ v7.toInt = 10 ∨ v7.toInt = 11 := by omega
  rcases q9a with q9b | q9b | q9b | q9b | q9b | q9b | q9b | q9b | q9b | q9b | q9b | q9b
  · have q9c : v7 = 0 := gt_eq q9b _ (by decide)
    refine go_tableIn (pc := 34) (off := 62) (tgt := 96) dX10_does_34 (by rw [q9b]; decide) (by rw [q9b]; decide) (by rw [q9b]; rfl) (by decide) ?_
    have h := h.2.1 q9c
    refine go_aload_n (pc := 96) dX10_does_96 rfl rfl ?_
    refine go_iload_n (pc := 97) dX10_does_97 rfl rfl ?_
    refine go_iload (pc := 98) dX10_does_98 rfl ?_
    refine gq_callV_i (pc := 100) (F := wM G o) vX10_152 rfl (tX10_makes h) rfl rfl (gz_b (by decide)) yw0 rfl (Nat.le_of_ble_eq_true rfl) ⟨Nat.le_of_ble_eq_true rfl, Nat.le_of_ble_eq_true rfl, Nat.le_add_right _ _, Nat.le_add_right _ _⟩ dX10_does_100 (fun r17 c16 h => ?_)
    refine go_istore (pc := 103) (lv' := [(5, .int r17), (4, .int v5), (3, .int v3), (2, .int v1), (0, .ref (G.2.1 + 74)), (1, .int l1)]) dX10_does_103 (by decide) rfl ?_
    refine go_aload_n (pc := 105) dX10_does_105 rfl rfl ?_
    refine go_iload (pc := 106) dX10_does_106 rfl ?_
    refine gb_put (pc := 108) (F := wM G o) fX10_171 rfl (gz_b (by decide)) yw0 (Nat.le_of_ble_eq_true rfl) rfl rfl yp0_12 dX10_does_108 (fun c18 ec18 => ?_)
    have h := h c18 ec18
    refine go_aload_n (pc := 111) dX10_does_111 rfl rfl ?_
    refine go_iload_n (pc := 112) dX10_does_112 rfl rfl ?_
    refine go_iload (pc := 113) dX10_does_113 rfl ?_
    refine gq_callS_i (pc := 115) (F := wM G o) sX10_281 rfl (tX10_findingOf h) rfl rfl (Nat.le_of_ble_eq_true rfl) ⟨Nat.le_of_ble_eq_true rfl, Nat.le_of_ble_eq_true rfl, Nat.le_add_right _ _, Nat.le_add_right _ _⟩ dX10_does_115 (fun r20 c19 h => ?_)
    refine gq_callV_i (pc := 118) (F := wM G o) vX10_284 rfl (tX10_into h) rfl rfl (gz_b (by decide)) yw0 rfl (Nat.le_of_ble_eq_true rfl) ⟨Nat.le_of_ble_eq_true rfl, Nat.le_of_ble_eq_true rfl, Nat.le_add_right _ _, Nat.le_add_right _ _⟩ dX10_does_118 (fun r22 c21 h => ?_)
    exact gq_iret (pc := 121) (F := wM G o) rfl dX10_does_121 h
  · have q9c : v7 = 1 := gt_eq q9b _ (by decide)
    refine go_tableIn (pc := 34) (off := 88) (tgt := 122) dX10_does_34 (by rw [q9b]; decide) (by rw [q9b]; decide) (by rw [q9b]; rfl) (by decide) ?_
    have h := h.2.2.1 q9c
    refine go_aload_n (pc := 122) dX10_does_122 rfl rfl ?_
    refine go_aload_n (pc := 123) dX10_does_123 rfl rfl ?_
    refine go_iload_n (pc := 124) dX10_does_124 rfl rfl ?_
    refine gq_callV_i (pc := 125) (F := wM G o) vX10_287 rfl (tX10_reg h) rfl rfl (gz_b (by decide)) yw0 rfl (Nat.le_of_ble_eq_true rfl) ⟨Nat.le_of_ble_eq_true rfl, Nat.le_of_ble_eq_true rfl, Nat.le_add_right _ _, Nat.le_add_right _ _⟩ dX10_does_125 (fun r24 c23 h => ?_)
    refine go_iload_n (pc := 128) dX10_does_128 rfl rfl ?_
    refine go_aload_n (pc := 129) dX10_does_129 rfl rfl ?_
    refine go_iload (pc := 130) dX10_does_130 rfl ?_
    refine gq_callV_i (pc := 132) (F := wM G o) vX10_287 rfl (tX10_reg h) rfl rfl (gz_b (by decide)) yw0 rfl (Nat.le_of_ble_eq_true rfl) ⟨Nat.le_of_ble_eq_true rfl, Nat.le_of_ble_eq_true rfl, Nat.le_add_right _ _, Nat.le_add_right _ _⟩ dX10_does_132 (fun r26 c25 h => ?_)
    refine gq_callV_i (pc := 135) (F := wM G o) vX10_167 rfl (tX10_linked h) rfl rfl (gz_b (by decide)) yw0 rfl (Nat.le_of_ble_eq_true rfl) ⟨Nat.le_of_ble_eq_true rfl, Nat.le_of_ble_eq_true rfl, Nat.le_add_right _ _, Nat.le_add_right _ _⟩ dX10_does_135 (fun r28 c27 h => ?_)
    refine gq_callS_i (pc := 138) (F := wM G o) sX10_281 rfl (tX10_findingOf h) rfl rfl (Nat.le_of_ble_eq_true rfl) ⟨Nat.le_of_ble_eq_true rfl, Nat.le_of_ble_eq_true rfl, Nat.le_add_right _ _, Nat.le_add_right _ _⟩ dX10_does_138 (fun r30 c29 h => ?_)
    exact gq_iret (pc := 141) (F := wM G o) rfl dX10_does_141 h
  · have q9c : v7 = 2 := gt_eq q9b _ (by decide)
    refine go_tableIn (pc := 34) (off := 108) (tgt := 142) dX10_does_34 (by rw [q9b]; decide) (by rw [q9b]; decide) (by rw [q9b]; rfl) (by decide) ?_
    have h := h.2.2.2.1 q9c
    refine go_aload_n (pc := 142) dX10_does_142 rfl rfl ?_
    refine go_iload (pc := 143) dX10_does_143 rfl ?_
    refine go_aload_n (pc := 145) dX10_does_145 rfl rfl ?_
    refine go_aload_n (pc := 146) dX10_does_146 rfl rfl ?_
    refine go_iload_n (pc := 147) dX10_does_147 rfl rfl ?_
    refine gq_callV_i (pc := 148) (F := wM G o) vX10_287 rfl (tX10_reg h) rfl rfl (gz_b (by decide)) yw0 rfl (Nat.le_of_ble_eq_true rfl) ⟨Nat.le_of_ble_eq_true rfl, Nat.le_of_ble_eq_true rfl, Nat.le_add_right _ _, Nat.le_add_right _ _⟩ dX10_does_148 (fun r32 c31 h => ?_)
    refine go_iload_n (pc := 151) dX10_does_151 rfl rfl ?_
    refine gq_callV_i (pc := 152) (F := wM G o) vX10_174 rfl (tX10_gets h) rfl rfl (gz_b (by decide)) yw0 rfl (Nat.le_of_ble_eq_true rfl) ⟨Nat.le_of_ble_eq_true rfl, Nat.le_of_ble_eq_true rfl, Nat.le_add_right _ _, Nat.le_add_right _ _⟩ dX10_does_152 (fun r34 c33 h => ?_)
    refine gq_callV_i (pc := 155) (F := wM G o) vX10_284 rfl (tX10_into h) rfl rfl (gz_b (by decide)) yw0 rfl (Nat.le_of_ble_eq_true rfl) ⟨Nat.le_of_ble_eq_true rfl, Nat.le_of_ble_eq_true rfl, Nat.le_add_right _ _, Nat.le_add_right _ _⟩ dX10_does_155 (fun r36 c35 h => ?_)
    exact gq_iret (pc := 158) (F := wM G o) rfl dX10_does_158 h
  · have q9c : v7 = 3 := gt_eq q9b _ (by decide)
    refine go_tableIn (pc := 34) (off := 125) (tgt := 159) dX10_does_34 (by rw [q9b]; decide) (by rw [q9b]; decide) (by rw [q9b]; rfl) (by decide) ?_
    have h := h.2.2.2.2.1 q9c
    refine go_aload_n (pc := 159) dX10_does_159 rfl rfl ?_
    refine go_iload_n (pc := 160) dX10_does_160 rfl rfl ?_
    refine go_aload_n (pc := 161) dX10_does_161 rfl rfl ?_
    refine go_iload_n (pc := 162) dX10_does_162 rfl rfl ?_
    refine gq_callV_i (pc := 163) (F := wM G o) vX10_287 rfl (tX10_reg h) rfl rfl (gz_b (by decide)) yw0 rfl (Nat.le_of_ble_eq_true rfl) ⟨Nat.le_of_ble_eq_true rfl, Nat.le_of_ble_eq_true rfl, Nat.le_add_right _ _, Nat.le_add_right _ _⟩ dX10_does_163 (fun r38 c37 h => ?_)
    refine gq_callV_i (pc := 166) (F := wM G o) vX10_203 rfl (tX10_roots h) rfl rfl (gz_b (by decide)) yw0 rfl (Nat.le_of_ble_eq_true rfl) ⟨Nat.le_of_ble_eq_true rfl, Nat.le_of_ble_eq_true rfl, Nat.le_add_right _ _, Nat.le_add_right _ _⟩ dX10_does_166 (fun r40 c39 h => ?_)
    exact gq_iret (pc := 169) (F := wM G o) rfl dX10_does_169 h
  · have q9c : v7 = 4 := gt_eq q9b _ (by decide)
    refine go_tableIn (pc := 34) (off := 136) (tgt := 170) dX10_does_34 (by rw [q9b]; decide) (by rw [q9b]; decide) (by rw [q9b]; rfl) (by decide) ?_
    have h := h.2.2.2.2.2.1 q9c
    refine go_aload_n (pc := 170) dX10_does_170 rfl rfl ?_
    refine go_aload_n (pc := 171) dX10_does_171 rfl rfl ?_
    refine go_get (pc := 172) fX10_9 rfl (gz_b (by decide)) yw0 rfl dX10_does_172 ?_
    refine go_bipush (pc := 175) (v := 20) dX10_does_175 (by decide) ?_
    refine go_iload_n (pc := 177) dX10_does_177 rfl rfl ?_
    refine go_iadd (pc := 178) dX10_does_178 ?_
    obtain ⟨b42, h⟩ := h
    refine gb_iald (pc := 179) (gz_b (by decide)) yw1 b42 dX10_does_179 (fun v41 ev41 => ?_)
    have h := h v41 ev41
    refine gb_put (pc := 180) (F := wM G o) fX10_171 rfl (gz_b (by decide)) yw0 (Nat.le_of_ble_eq_true rfl) rfl rfl yp0_12 dX10_does_180 (fun c43 ec43 => ?_)
    have h := h c43 ec43
    refine go_aload_n (pc := 183) dX10_does_183 rfl rfl ?_
    refine go_iload_n (pc := 184) dX10_does_184 rfl rfl ?_
    refine go_iconst (pc := 185) (v := 0) dX10_does_185 (by decide) ?_
    refine gq_callV_i (pc := 186) (F := wM G o) vX10_284 rfl (tX10_into h) rfl rfl (gz_b (by decide)) yw0 rfl (Nat.le_of_ble_eq_true rfl) ⟨Nat.le_of_ble_eq_true rfl, Nat.le_of_ble_eq_true rfl, Nat.le_add_right _ _, Nat.le_add_right _ _⟩ dX10_does_186 (fun r45 c44 h => ?_)
    exact gq_iret (pc := 189) (F := wM G o) rfl dX10_does_189 h
  · have q9c : v7 = 5 := gt_eq q9b _ (by decide)
    refine go_tableIn (pc := 34) (off := 156) (tgt := 190) dX10_does_34 (by rw [q9b]; decide) (by rw [q9b]; decide) (by rw [q9b]; rfl) (by decide) ?_
    have h := h.2.2.2.2.2.2.1 q9c
    refine go_aload_n (pc := 190) dX10_does_190 rfl rfl ?_
    refine go_iload_n (pc := 191) dX10_does_191 rfl rfl ?_
    refine go_aload_n (pc := 192) dX10_does_192 rfl rfl ?_
    refine go_aload_n (pc := 193) dX10_does_193 rfl rfl ?_
    refine go_iload_n (pc := 194) dX10_does_194 rfl rfl ?_
    refine gq_callV_i (pc := 195) (F := wM G o) vX10_287 rfl (tX10_reg h) rfl rfl (gz_b (by decide)) yw0 rfl (Nat.le_of_ble_eq_true rfl) ⟨Nat.le_of_ble_eq_true rfl, Nat.le_of_ble_eq_true rfl, Nat.le_add_right _ _, Nat.le_add_right _ _⟩ dX10_does_195 (fun r47 c46 h => ?_)
    refine gq_callV_i (pc := 198) (F := wM G o) vX10_186 rfl (tX10_looks h) rfl rfl (gz_b (by decide)) yw0 rfl (Nat.le_of_ble_eq_true rfl) ⟨Nat.le_of_ble_eq_true rfl, Nat.le_of_ble_eq_true rfl, Nat.le_add_right _ _, Nat.le_add_right _ _⟩ dX10_does_198 (fun r49 c48 h => ?_)
    refine gq_callV_i (pc := 201) (F := wM G o) vX10_284 rfl (tX10_into h) rfl rfl (gz_b (by decide)) yw0 rfl (Nat.le_of_ble_eq_true rfl) ⟨Nat.le_of_ble_eq_true rfl, Nat.le_of_ble_eq_true rfl, Nat.le_add_right _ _, Nat.le_add_right _ _⟩ dX10_does_201 (fun r51 c50 h => ?_)
    exact gq_iret (pc := 204) (F := wM G o) rfl dX10_does_204 h
  · have q9c : v7 = 6 := gt_eq q9b _ (by decide)
    refine go_tableIn (pc := 34) (off := 171) (tgt := 205) dX10_does_34 (by rw [q9b]; decide) (by rw [q9b]; decide) (by rw [q9b]; rfl) (by decide) ?_
    have h := h.2.2.2.2.2.2.2.1 q9c
    refine go_aload_n (pc := 205) dX10_does_205 rfl rfl ?_
    refine go_aload_n (pc := 206) dX10_does_206 rfl rfl ?_
    refine go_iload_n (pc := 207) dX10_does_207 rfl rfl ?_
    refine gq_callV_i (pc := 208) (F := wM G o) vX10_287 rfl (tX10_reg h) rfl rfl (gz_b (by decide)) yw0 rfl (Nat.le_of_ble_eq_true rfl) ⟨Nat.le_of_ble_eq_true rfl, Nat.le_of_ble_eq_true rfl, Nat.le_add_right _ _, Nat.le_add_right _ _⟩ dX10_does_208 (fun r53 c52 h => ?_)
    refine go_aload_n (pc := 211) dX10_does_211 rfl rfl ?_
    refine go_iload_n (pc := 212) dX10_does_212 rfl rfl ?_
    refine gq_callV_i (pc := 213) (F := wM G o) vX10_287 rfl (tX10_reg h) rfl rfl (gz_b (by decide)) yw0 rfl (Nat.le_of_ble_eq_true rfl) ⟨Nat.le_of_ble_eq_true rfl, Nat.le_of_ble_eq_true rfl, Nat.le_add_right _ _, Nat.le_add_right _ _⟩ dX10_does_213 (fun r55 c54 h => ?_)
    refine gq_callV_i (pc := 216) (F := wM G o) vX10_183 rfl (tX10_weakens h) rfl rfl (gz_b (by decide)) yw0 rfl (Nat.le_of_ble_eq_true rfl) ⟨Nat.le_of_ble_eq_true rfl, Nat.le_of_ble_eq_true rfl, Nat.le_add_right _ _, Nat.le_add_right _ _⟩ dX10_does_216 (fun r57 c56 h => ?_)
    refine gq_callS_i (pc := 219) (F := wM G o) sX10_281 rfl (tX10_findingOf h) rfl rfl (Nat.le_of_ble_eq_true rfl) ⟨Nat.le_of_ble_eq_true rfl, Nat.le_of_ble_eq_true rfl, Nat.le_add_right _ _, Nat.le_add_right _ _⟩ dX10_does_219 (fun r59 c58 h => ?_)
    exact gq_iret (pc := 222) (F := wM G o) rfl dX10_does_222 h
  · have q9c : v7 = 7 := gt_eq q9b _ (by decide)
    refine go_tableIn (pc := 34) (off := 189) (tgt := 223) dX10_does_34 (by rw [q9b]; decide) (by rw [q9b]; decide) (by rw [q9b]; rfl) (by decide) ?_
    have h := h.2.2.2.2.2.2.2.2.1 q9c
    refine go_aload_n (pc := 223) dX10_does_223 rfl rfl ?_
    refine go_aload_n (pc := 224) dX10_does_224 rfl rfl ?_
    refine go_iload_n (pc := 225) dX10_does_225 rfl rfl ?_
    refine gq_callV_i (pc := 226) (F := wM G o) vX10_287 rfl (tX10_reg h) rfl rfl (gz_b (by decide)) yw0 rfl (Nat.le_of_ble_eq_true rfl) ⟨Nat.le_of_ble_eq_true rfl, Nat.le_of_ble_eq_true rfl, Nat.le_add_right _ _, Nat.le_add_right _ _⟩ dX10_does_226 (fun r61 c60 h => ?_)
    refine go_iload_n (pc := 229) dX10_does_229 rfl rfl ?_
    refine go_aload_n (pc := 230) dX10_does_230 rfl rfl ?_
    refine go_iload (pc := 231) dX10_does_231 rfl ?_
    refine gq_callV_i (pc := 233) (F := wM G o) vX10_287 rfl (tX10_reg h) rfl rfl (gz_b (by decide)) yw0 rfl (Nat.le_of_ble_eq_true rfl) ⟨Nat.le_of_ble_eq_true rfl, Nat.le_of_ble_eq_true rfl, Nat.le_add_right _ _, Nat.le_add_right _ _⟩ dX10_does_233 (fun r63 c62 h => ?_)
    refine go_iconst (pc := 236) (v := 0) dX10_does_236 (by decide) ?_
    refine go_aload_n (pc := 237) dX10_does_237 rfl rfl ?_
    refine go_get (pc := 238) fX10_9 rfl (gz_b (by decide)) yw0 rfl dX10_does_238 ?_
    refine go_iload_n (pc := 241) dX10_does_241 rfl rfl ?_
    refine go_iconst (pc := 242) (v := 4) dX10_does_242 (by decide) ?_
    refine go_iadd (pc := 243) dX10_does_243 ?_
    obtain ⟨b65, h⟩ := h
    refine gb_iald (pc := 244) (gz_b (by decide)) yw1 b65 dX10_does_244 (fun v64 ev64 => ?_)
    have h := h v64 ev64
    refine gq_callV_i (pc := 245) (F := wM G o) vX10_209 rfl (tX10_copies h) rfl rfl (gz_b (by decide)) yw0 rfl (Nat.le_of_ble_eq_true rfl) ⟨Nat.le_of_ble_eq_true rfl, Nat.le_of_ble_eq_true rfl, Nat.le_add_right _ _, Nat.le_add_right _ _⟩ dX10_does_245 (fun r67 c66 h => ?_)
    exact gq_iret (pc := 248) (F := wM G o) rfl dX10_does_248 h
  · have q9c : v7 = 8 := gt_eq q9b _ (by decide)
    refine go_tableIn (pc := 34) (off := 215) (tgt := 249) dX10_does_34 (by rw [q9b]; decide) (by rw [q9b]; decide) (by rw [q9b]; rfl) (by decide) ?_
    have h := h.2.2.2.2.2.2.2.2.2.1 q9c
    refine go_aload_n (pc := 249) dX10_does_249 rfl rfl ?_
    refine go_get (pc := 250) fX10_9 rfl (gz_b (by decide)) yw0 rfl dX10_does_250 ?_
    refine go_bipush (pc := 253) (v := 76) dX10_does_253 (by decide) ?_
    refine go_iload_n (pc := 255) dX10_does_255 rfl rfl ?_
    refine go_iadd (pc := 256) dX10_does_256 ?_
    refine go_iconst (pc := 257) (v := (-1)) dX10_does_257 (by decide) ?_
    obtain ⟨b69, h⟩ := h
    refine gb_iast (pc := 258) (F := wM G o) (gz_b (by decide)) yw1 b69 ya1 dX10_does_258 (fun c68 ec68 => ?_)
    have h := h c68 ec68
    refine go_iconst (pc := 259) (v := 0) dX10_does_259 (by decide) ?_
    exact gq_iret (pc := 260) (F := wM G o) rfl dX10_does_260 h
  · have q9c : v7 = 9 := gt_eq q9b _ (by decide)
    refine go_tableIn (pc := 34) (off := 227) (tgt := 261) dX10_does_34 (by rw [q9b]; decide) (by rw [q9b]; decide) (by rw [q9b]; rfl) (by decide) ?_
    have h := h.2.2.2.2.2.2.2.2.2.2.1 q9c
    refine go_aload_n (pc := 261) dX10_does_261 rfl rfl ?_
    refine gq_callV_v (pc := 262) (F := wM G o) vX10_226 rfl (tX10_keepUndo h) rfl rfl (gz_b (by decide)) yw0 rfl (Nat.le_of_ble_eq_true rfl) ⟨Nat.le_of_ble_eq_true rfl, Nat.le_of_ble_eq_true rfl, Nat.le_add_right _ _, Nat.le_add_right _ _⟩ dX10_does_262 (fun c70 h => ?_)
    refine go_aload_n (pc := 265) dX10_does_265 rfl rfl ?_
    refine go_iload_n (pc := 266) dX10_does_266 rfl rfl ?_
    refine gq_callV_i (pc := 267) (F := wM G o) vX10_229 rfl (tX10_stepped h) rfl rfl (gz_b (by decide)) yw0 rfl (Nat.le_of_ble_eq_true rfl) ⟨Nat.le_of_ble_eq_true rfl, Nat.le_of_ble_eq_true rfl, Nat.le_add_right _ _, Nat.le_add_right _ _⟩ dX10_does_267 (fun r72 c71 h => ?_)
    refine go_pop (pc := 270) dX10_does_270 rfl ?_
    refine go_iconst (pc := 271) (v := 0) dX10_does_271 (by decide) ?_
    exact gq_iret (pc := 272) (F := wM G o) rfl dX10_does_272 h
  · have q9c : v7 = 10 := gt_eq q9b _ (by decide)
    refine go_tableIn (pc := 34) (off := 239) (tgt := 273) dX10_does_34 (by rw [q9b]; decide) (by rw [q9b]; decide) (by rw [q9b]; rfl) (by decide) ?_
    have h := h.2.2.2.2.2.2.2.2.2.2.2.1 q9c
    refine go_iload_n (pc := 273) dX10_does_273 rfl rfl ?_
    refine go_if_ne (pc := 274) (tgt := 282) dX10_does_274 (by decide) (fun q73 => ?_) (fun q73 => ?_)
    · have h := h.2 q73
      refine go_bipush (pc := 282) (v := 7) dX10_does_282 (by decide) ?_
      exact gq_iret (pc := 284) (F := wM G o) rfl dX10_does_284 h
    · have h := h.1 q73
      refine go_bipush (pc := 277) (v := 8) dX10_does_277 (by decide) ?_
      refine go_goto (pc := 279) (tgt := 284) dX10_does_279 (by decide) ?_
      exact gq_iret (pc := 284) (F := wM G o) rfl dX10_does_284 h
  · have q9c : v7 = 11 := gt_eq q9b _ (by decide)
    refine go_tableIn (pc := 34) (off := 251) (tgt := 285) dX10_does_34 (by rw [q9b]; decide) (by rw [q9b]; decide) (by rw [q9b]; rfl) (by decide) ?_
    have h := h.2.2.2.2.2.2.2.2.2.2.2.2 q9c
    refine go_aload_n (pc := 285) dX10_does_285 rfl rfl ?_
    refine go_aload_n (pc := 286) dX10_does_286 rfl rfl ?_
    refine go_iload_n (pc := 287) dX10_does_287 rfl rfl ?_
    refine gq_callV_i (pc := 288) (F := wM G o) vX10_287 rfl (tX10_reg h) rfl rfl (gz_b (by decide)) yw0 rfl (Nat.le_of_ble_eq_true rfl) ⟨Nat.le_of_ble_eq_true rfl, Nat.le_of_ble_eq_true rfl, Nat.le_add_right _ _, Nat.le_add_right _ _⟩ dX10_does_288 (fun r75 c74 h => ?_)
    refine go_iload_n (pc := 291) dX10_does_291 rfl rfl ?_
    refine go_iload (pc := 292) dX10_does_292 rfl ?_
    refine gq_callV_i (pc := 294) (F := wM G o) vX10_192 rfl (tX10_puts h) rfl rfl (gz_b (by decide)) yw0 rfl (Nat.le_of_ble_eq_true rfl) ⟨Nat.le_of_ble_eq_true rfl, Nat.le_of_ble_eq_true rfl, Nat.le_add_right _ _, Nat.le_add_right _ _⟩ dX10_does_294 (fun r77 c76 h => ?_)
    exact gq_iret (pc := 297) (F := wM G o) rfl dX10_does_297 h
def wX10_run_p111 (P32 : Int32 → Int32 → Int32 → gMem → Prop) (l1 : Int32) (l2 : Int32) (l3 : Int32) (s0 : Int32) (s1 : Int32) (s2 : Int32) (c : gMem) (Q : Int32 → gMem → Prop) : Prop :=
  vp_in s2 26100 ∧
  ∀ c1, c1 = mp c 1 s2.toNatClampNeg (s1 + s0) →
  ∀ c3, c3 = mp c1 0 7 l3 →
  P32 l1 (l2 + 1) l3 c3
set_option maxRecDepth 100000 in
set_option maxHeartbeats 4000000 in
theorem tX10_run_p111 {l : Launch} {G : gG} {k : Nat} {o : gMem} {Q : Int32 → gMem → Prop} {P32 : Int32 → Int32 → Int32 → gMem → Prop} (hP32 : ∀ (l1 : Int32) (l2 : Int32) (l3 : Int32) (c : gMem), P32 l1 l2 l3 c → Go l G mX10_run (gbq G 8 187 84 k (qi (wM G o) Q)) 32 [(0, .ref (G.2.1 + 74)), (1, .int l1), (2, .int l2), (3, .int l3)] [] 84 k (wM G o c)) {l1 : Int32} {l2 : Int32} {l3 : Int32} {s0 : Int32} {s1 : Int32} {s2 : Int32} {c : gMem} (h : wX10_run_p111 P32 l1 l2 l3 s0 s1 s2 c Q) : Go l G mX10_run (gbq G 8 187 84 k (qi (wM G o) Q)) 111 [(0, .ref (G.2.1 + 74)), (1, .int l1), (2, .int l2), (3, .int l3)] [.int s0, .int s1, .int s2, .ref (G.2.1 + 75)] 84 k (wM G o c) := by
  unfold wX10_run_p111 at h
  refine go_iadd (pc := 111) dX10_run_111 ?_
  obtain ⟨b2, h⟩ := h
  refine gb_iast (pc := 112) (F := wM G o) (gz_b (by decide)) yw1 b2 ya1 dX10_run_112 (fun c1 ec1 => ?_)
  have h := h c1 ec1
  refine go_iinc (pc := 113) (v := l2 + 1) (lv' := [(2, .int (l2 + 1)), (0, .ref (G.2.1 + 74)), (1, .int l1), (3, .int l3)]) dX10_run_113 2 rfl (by first | rfl | decide) (by decide) rfl ?_
  refine go_aload_n (pc := 116) dX10_run_116 rfl rfl ?_
  refine go_iload_n (pc := 117) dX10_run_117 rfl rfl ?_
  refine gb_put (pc := 118) (F := wM G o) fX10_56 rfl (gz_b (by decide)) yw0 (Nat.le_of_ble_eq_true rfl) rfl rfl yp0_7 dX10_run_118 (fun c3 ec3 => ?_)
  have h := h c3 ec3
  refine go_goto (pc := 121) (tgt := 32) dX10_run_121 (by decide) ?_
  refine go_lv [1, 2, 0, 3] rfl ?_
  exact hP32 _ _ _ _ h
def wX10_run_p32_b (P32 : Int32 → Int32 → Int32 → gMem → Prop) (l1 : Int32) (l2 : Int32) (l3 : Int32) (c : gMem) (Q : Int32 → gMem → Prop) : Prop :=
  ((l1 ≤ l2 →
    Q l2 c) ∧
   (¬ l1 ≤ l2 →
    ((l3 = 0 →
      ∀ v3, v3 = c 1 12 →
      wX10_does (400 + (5 * v3)) c (fun r5 c4 =>
      ∀ v6, v6 = c4 1 12 →
      ∀ v7, v7 = c4 1 11 →
      ¬ v7 = 0 ∧
      ∀ c9, c9 = mp c4 1 12 ((v6 + 1) - ((v6 + 1) / v7) * v7) →
      ∀ v10, v10 = c9 1 13 →
      ∀ c11, c11 = mp c9 1 13 (v10 + 1) →
      ∀ v12, v12 = c11 1 14 →
      ((r5 ≤ 0 →
        wX10_run_p111 P32 l1 l2 r5 0 v12 14 c11 Q) ∧
       (¬ r5 ≤ 0 →
        wX10_run_p111 P32 l1 l2 r5 1 v12 14 c11 Q)))) ∧
     (¬ l3 = 0 →
      Q l2 c))))
def wX10_run_p32 (l1 : Int32) (l2 : Int32) (l3 : Int32) (c : gMem) (Q : Int32 → gMem → Prop) : Prop :=
  ∀ P32 : Int32 → Int32 → Int32 → gMem → Prop, (∀ (l1 : Int32) (l2 : Int32) (l3 : Int32) (c : gMem), wX10_run_p32_b P32 l1 l2 l3 c Q → P32 l1 l2 l3 c) → P32 l1 l2 l3 c
set_option maxRecDepth 100000 in
set_option maxHeartbeats 4000000 in
theorem tX10_run_p32_b {l : Launch} {G : gG} {k : Nat} {o : gMem} {Q : Int32 → gMem → Prop} {P32 : Int32 → Int32 → Int32 → gMem → Prop} (hP32 : ∀ (l1 : Int32) (l2 : Int32) (l3 : Int32) (c : gMem), P32 l1 l2 l3 c → Go l G mX10_run (gbq G 8 187 84 k (qi (wM G o) Q)) 32 [(0, .ref (G.2.1 + 74)), (1, .int l1), (2, .int l2), (3, .int l3)] [] 84 k (wM G o c)) {l1 : Int32} {l2 : Int32} {l3 : Int32} {c : gMem} (h : wX10_run_p32_b P32 l1 l2 l3 c Q) : Go l G mX10_run (gbq G 8 187 84 k (qi (wM G o) Q)) 32 [(0, .ref (G.2.1 + 74)), (1, .int l1), (2, .int l2), (3, .int l3)] [] 84 k (wM G o c) := by
  unfold wX10_run_p32_b at h
  refine go_iload_n (pc := 32) dX10_run_32 rfl rfl ?_
  refine go_iload_n (pc := 33) dX10_run_33 rfl rfl ?_
  refine go_icmp_ge (pc := 34) (tgt := 124) dX10_run_34 (by decide) (fun q1 => ?_) (fun q1 => ?_)
  · have h := h.1 q1
    refine go_iload_n (pc := 124) dX10_run_124 rfl rfl ?_
    exact gq_iret (pc := 125) (F := wM G o) rfl dX10_run_125 h
  · have h := h.2 q1
    refine go_iload_n (pc := 37) dX10_run_37 rfl rfl ?_
    refine go_if_ne (pc := 38) (tgt := 124) dX10_run_38 (by decide) (fun q2 => ?_) (fun q2 => ?_)
    · have h := h.2 q2
      refine go_iload_n (pc := 124) dX10_run_124 rfl rfl ?_
      exact gq_iret (pc := 125) (F := wM G o) rfl dX10_run_125 h
    · have h := h.1 q2
      refine go_aload_n (pc := 41) dX10_run_41 rfl rfl ?_
      refine go_sipush (pc := 42) (v := 400) dX10_run_42 (by decide) ?_
      refine go_iconst (pc := 45) (v := 5) dX10_run_45 (by decide) ?_
      refine go_aload_n (pc := 46) dX10_run_46 rfl rfl ?_
      refine go_get (pc := 47) fX10_9 rfl (gz_b (by decide)) yw0 rfl dX10_run_47 ?_
      refine go_bipush (pc := 50) (v := 12) dX10_run_50 (by decide) ?_
      refine gb_iald (pc := 52) (gz_b (by decide)) yw1 (gv_in (by decide)) dX10_run_52 (fun v3 ev3 => ?_)
      have h := h v3 ev3
      refine go_imul (pc := 53) dX10_run_53 ?_
      refine go_iadd (pc := 54) dX10_run_54 ?_
      refine gq_callV_i (pc := 55) (F := wM G o) vX10_292 rfl (tX10_does h) rfl rfl (gz_b (by decide)) yw0 rfl (Nat.le_of_ble_eq_true rfl) ⟨Nat.le_of_ble_eq_true rfl, Nat.le_of_ble_eq_true rfl, Nat.le_add_right _ _, Nat.le_add_right _ _⟩ dX10_run_55 (fun r5 c4 h => ?_)
      refine go_istore_n (pc := 58) (lv' := [(3, .int r5), (0, .ref (G.2.1 + 74)), (1, .int l1), (2, .int l2)]) dX10_run_58 rfl (by decide) rfl ?_
      refine go_aload_n (pc := 59) dX10_run_59 rfl rfl ?_
      refine go_get (pc := 60) fX10_9 rfl (gz_b (by decide)) yw0 rfl dX10_run_60 ?_
      refine go_bipush (pc := 63) (v := 12) dX10_run_63 (by decide) ?_
      refine go_aload_n (pc := 65) dX10_run_65 rfl rfl ?_
      refine go_get (pc := 66) fX10_9 rfl (gz_b (by decide)) yw0 rfl dX10_run_66 ?_
      refine go_bipush (pc := 69) (v := 12) dX10_run_69 (by decide) ?_
      refine gb_iald (pc := 71) (gz_b (by decide)) yw1 (gv_in (by decide)) dX10_run_71 (fun v6 ev6 => ?_)
      have h := h v6 ev6
      refine go_iconst (pc := 72) (v := 1) dX10_run_72 (by decide) ?_
      refine go_iadd (pc := 73) dX10_run_73 ?_
      refine go_aload_n (pc := 74) dX10_run_74 rfl rfl ?_
      refine go_get (pc := 75) fX10_9 rfl (gz_b (by decide)) yw0 rfl dX10_run_75 ?_
      refine go_bipush (pc := 78) (v := 11) dX10_run_78 (by decide) ?_
      refine gb_iald (pc := 80) (gz_b (by decide)) yw1 (gv_in (by decide)) dX10_run_80 (fun v7 ev7 => ?_)
      have h := h v7 ev7
      obtain ⟨b8, h⟩ := h
      refine go_irem (pc := 81) dX10_run_81 b8 ?_
      refine gb_iast (pc := 82) (F := wM G o) (gz_b (by decide)) yw1 (gv_in (by decide)) ya1 dX10_run_82 (fun c9 ec9 => ?_)
      have h := h c9 ec9
      refine go_aload_n (pc := 83) dX10_run_83 rfl rfl ?_
      refine go_get (pc := 84) fX10_9 rfl (gz_b (by decide)) yw0 rfl dX10_run_84 ?_
      refine go_bipush (pc := 87) (v := 13) dX10_run_87 (by decide) ?_
      refine go_dup2 (pc := 89) dX10_run_89 rfl rfl ?_
      refine gb_iald (pc := 90) (gz_b (by decide)) yw1 (gv_in (by decide)) dX10_run_90 (fun v10 ev10 => ?_)
      have h := h v10 ev10
      refine go_iconst (pc := 91) (v := 1) dX10_run_91 (by decide) ?_
      refine go_iadd (pc := 92) dX10_run_92 ?_
      refine gb_iast (pc := 93) (F := wM G o) (gz_b (by decide)) yw1 (gv_in (by decide)) ya1 dX10_run_93 (fun c11 ec11 => ?_)
      have h := h c11 ec11
      refine go_aload_n (pc := 94) dX10_run_94 rfl rfl ?_
      refine go_get (pc := 95) fX10_9 rfl (gz_b (by decide)) yw0 rfl dX10_run_95 ?_
      refine go_bipush (pc := 98) (v := 14) dX10_run_98 (by decide) ?_
      refine go_dup2 (pc := 100) dX10_run_100 rfl rfl ?_
      refine gb_iald (pc := 101) (gz_b (by decide)) yw1 (gv_in (by decide)) dX10_run_101 (fun v12 ev12 => ?_)
      have h := h v12 ev12
      refine go_iload_n (pc := 102) dX10_run_102 rfl rfl ?_
      refine go_if_le (pc := 103) (tgt := 110) dX10_run_103 (by decide) (fun q13 => ?_) (fun q13 => ?_)
      · have h := h.1 q13
        refine go_iconst (pc := 110) (v := 0) dX10_run_110 (by decide) ?_
        refine go_lv [1, 2, 3, 0] rfl ?_
        exact tX10_run_p111 hP32 h
      · have h := h.2 q13
        refine go_iconst (pc := 106) (v := 1) dX10_run_106 (by decide) ?_
        refine go_goto (pc := 107) (tgt := 111) dX10_run_107 (by decide) ?_
        refine go_lv [1, 2, 3, 0] rfl ?_
        exact tX10_run_p111 hP32 h
set_option maxRecDepth 100000 in
set_option maxHeartbeats 4000000 in
theorem tX10_run_p32 {l : Launch} {G : gG} {k : Nat} {o : gMem} {Q : Int32 → gMem → Prop} {l1 : Int32} {l2 : Int32} {l3 : Int32} {c : gMem} (h : wX10_run_p32 l1 l2 l3 c Q) : Go l G mX10_run (gbq G 8 187 84 k (qi (wM G o) Q)) 32 [(0, .ref (G.2.1 + 74)), (1, .int l1), (2, .int l2), (3, .int l3)] [] 84 k (wM G o c) :=
  h (fun l1 l2 l3 c => Go l G mX10_run (gbq G 8 187 84 k (qi (wM G o) Q)) 32 [(0, .ref (G.2.1 + 74)), (1, .int l1), (2, .int l2), (3, .int l3)] [] 84 k (wM G o c)) (fun l1 l2 l3 c hb => tX10_run_p32_b (fun l1 l2 l3 c hh => hh) hb)
def wX10_run (l1 : Int32) (c : gMem) (Q : Int32 → gMem → Prop) : Prop :=
  wX10_in l1.toInt64 0 200 c (fun r2 c1 =>
  ((r2 = 0 →
    Q ((-102)) c1) ∧
   (¬ r2 = 0 →
    ∀ v4, v4 = c1 1 11 →
    ((v4 = 0 →
      Q ((-104)) c1) ∧
     (¬ v4 = 0 →
      wX10_run_p32 l1 0 0 c1 Q)))))
set_option maxRecDepth 100000 in
set_option maxHeartbeats 4000000 in
theorem tX10_run {l : Launch} {G : gG} {k : Nat} {o : gMem} {Q : Int32 → gMem → Prop} {l1 : Int32} {c : gMem} (h : wX10_run l1 c Q) : Cq l G mX10_run 8 187 [.ref (G.2.1 + 74), .int l1] 84 k (wM G o c) (qi (wM G o) Q) := by
  refine Cq.of (by decide) (Nat.le_of_ble_eq_true rfl) ?_
  show Go l G mX10_run (gbq G 8 187 84 k (qi (wM G o) Q)) 0 [(0, .ref (G.2.1 + 74)), (1, .int l1)] [] 84 k (wM G o c)
  unfold wX10_run at h
  refine go_iload_n (pc := 0) dX10_run_0 rfl rfl ?_
  refine go_i2l (pc := 1) dX10_run_1 ?_
  refine go_lconst (pc := 2) (v := 0) dX10_run_2 (by decide) ?_
  refine go_ldc2 (pc := 3) rfl qX10_290 dX10_run_3 ?_
  refine gq_callS_i (pc := 6) (F := wM G o) sX10_63 rfl (tX10_in h) rfl rfl (Nat.le_of_ble_eq_true rfl) ⟨Nat.le_of_ble_eq_true rfl, Nat.le_of_ble_eq_true rfl, Nat.le_add_right _ _, Nat.le_add_right _ _⟩ dX10_run_6 (fun r2 c1 h => ?_)
  refine go_if_ne (pc := 9) (tgt := 15) dX10_run_9 (by decide) (fun q3 => ?_) (fun q3 => ?_)
  · have h := h.2 q3
    refine go_aload_n (pc := 15) dX10_run_15 rfl rfl ?_
    refine go_get (pc := 16) fX10_9 rfl (gz_b (by decide)) yw0 rfl dX10_run_16 ?_
    refine go_bipush (pc := 19) (v := 11) dX10_run_19 (by decide) ?_
    refine gb_iald (pc := 21) (gz_b (by decide)) yw1 (gv_in (by decide)) dX10_run_21 (fun v4 ev4 => ?_)
    have h := h v4 ev4
    refine go_if_ne (pc := 22) (tgt := 28) dX10_run_22 (by decide) (fun q5 => ?_) (fun q5 => ?_)
    · have h := h.2 q5
      refine go_iconst (pc := 28) (v := 0) dX10_run_28 (by decide) ?_
      refine go_istore_n (pc := 29) (lv' := [(2, .int 0), (0, .ref (G.2.1 + 74)), (1, .int l1)]) dX10_run_29 rfl (by decide) rfl ?_
      refine go_iconst (pc := 30) (v := 0) dX10_run_30 (by decide) ?_
      refine go_istore_n (pc := 31) (lv' := [(3, .int 0), (2, .int 0), (0, .ref (G.2.1 + 74)), (1, .int l1)]) dX10_run_31 rfl (by decide) rfl ?_
      refine go_lv [2, 3, 1, 0] rfl ?_
      exact tX10_run_p32 h
    · have h := h.1 q5
      refine go_bipush (pc := 25) (v := (-104)) dX10_run_25 (by decide) ?_
      exact gq_iret (pc := 27) (F := wM G o) rfl dX10_run_27 h
  · have h := h.1 q3
    refine go_bipush (pc := 12) (v := (-102)) dX10_run_12 (by decide) ?_
    exact gq_iret (pc := 14) (F := wM G o) rfl dX10_run_14 h
def wX10_found (c : gMem) (Q : Int32 → gMem → Prop) : Prop :=
  ∀ v1, v1 = c 0 7 →
  Q v1 c
set_option maxRecDepth 100000 in
set_option maxHeartbeats 4000000 in
theorem tX10_found {l : Launch} {G : gG} {k : Nat} {o : gMem} {Q : Int32 → gMem → Prop} {c : gMem} (h : wX10_found c Q) : Cq l G mX10_found 0 0 [.ref (G.2.1 + 74)] 84 k (wM G o c) (qi (wM G o) Q) := by
  refine Cq.of (by decide) (Nat.le_of_ble_eq_true rfl) ?_
  show Go l G mX10_found (gbq G 0 0 84 k (qi (wM G o) Q)) 0 [(0, .ref (G.2.1 + 74))] [] 84 k (wM G o c)
  unfold wX10_found at h
  refine go_aload_n (pc := 0) dX10_found_0 rfl rfl ?_
  refine gb_get (pc := 1) fX10_56 rfl (gz_b (by decide)) yw0 rfl dX10_found_1 (fun v1 ev1 => ?_)
  have h := h v1 ev1
  exact gq_iret (pc := 4) (F := wM G o) rfl dX10_found_4 h
def wX10_register (l1 : Int32) (c : gMem) (Q : Int32 → gMem → Prop) : Prop :=
  wX10_isRegister l1 c (fun r2 c1 =>
  ((r2 = 0 →
    Q ((-101)) c1) ∧
   (¬ r2 = 0 →
    wX10_reg l1 c1 (fun r5 c4 =>
    Q r5 c4))))
set_option maxRecDepth 100000 in
set_option maxHeartbeats 4000000 in
theorem tX10_register {l : Launch} {G : gG} {k : Nat} {o : gMem} {Q : Int32 → gMem → Prop} {l1 : Int32} {c : gMem} (h : wX10_register l1 c Q) : Cq l G mX10_register 2 45 [.ref (G.2.1 + 74), .int l1] 84 k (wM G o c) (qi (wM G o) Q) := by
  refine Cq.of (by decide) (Nat.le_of_ble_eq_true rfl) ?_
  show Go l G mX10_register (gbq G 2 45 84 k (qi (wM G o) Q)) 0 [(0, .ref (G.2.1 + 74)), (1, .int l1)] [] 84 k (wM G o c)
  unfold wX10_register at h
  refine go_iload_n (pc := 0) dX10_register_0 rfl rfl ?_
  refine gq_callS_i (pc := 1) (F := wM G o) sX10_272 rfl (tX10_isRegister h) rfl rfl (Nat.le_of_ble_eq_true rfl) ⟨Nat.le_of_ble_eq_true rfl, Nat.le_of_ble_eq_true rfl, Nat.le_add_right _ _, Nat.le_add_right _ _⟩ dX10_register_1 (fun r2 c1 h => ?_)
  refine go_if_eq (pc := 4) (tgt := 15) dX10_register_4 (by decide) (fun q3 => ?_) (fun q3 => ?_)
  · have h := h.1 q3
    refine go_bipush (pc := 15) (v := (-101)) dX10_register_15 (by decide) ?_
    exact gq_iret (pc := 17) (F := wM G o) rfl dX10_register_17 h
  · have h := h.2 q3
    refine go_aload_n (pc := 7) dX10_register_7 rfl rfl ?_
    refine go_iload_n (pc := 8) dX10_register_8 rfl rfl ?_
    refine gq_callV_i (pc := 9) (F := wM G o) vX10_287 rfl (tX10_reg h) rfl rfl (gz_b (by decide)) yw0 rfl (Nat.le_of_ble_eq_true rfl) ⟨Nat.le_of_ble_eq_true rfl, Nat.le_of_ble_eq_true rfl, Nat.le_add_right _ _, Nat.le_add_right _ _⟩ dX10_register_9 (fun r5 c4 h => ?_)
    refine go_goto (pc := 12) (tgt := 17) dX10_register_12 (by decide) ?_
    exact gq_iret (pc := 17) (F := wM G o) rfl dX10_register_17 h
def wX10_moves_75_76_p3_b (P3 : Int32 → Int32 → gMem → Prop) (l3 : Int32) (l4 : Int32) (c : gMem) (Q : gMem → Prop) : Prop :=
  ((l3 ≤ l4 →
    Q c) ∧
   (¬ l3 ≤ l4 →
    vp_in l4 26100 ∧
    ∀ v2, v2 = c 1 l4.toNatClampNeg →
    vp_in l4 26100 ∧
    ∀ c4, c4 = mp c 2 l4.toNatClampNeg v2 →
    P3 l3 (l4 + 1) c4))
def wX10_moves_75_76_p3 (l3 : Int32) (l4 : Int32) (c : gMem) (Q : gMem → Prop) : Prop :=
  ∀ P3 : Int32 → Int32 → gMem → Prop, (∀ (l3 : Int32) (l4 : Int32) (c : gMem), wX10_moves_75_76_p3_b P3 l3 l4 c Q → P3 l3 l4 c) → P3 l3 l4 c
set_option maxRecDepth 100000 in
set_option maxHeartbeats 4000000 in
theorem tX10_moves_75_76_p3_b {l : Launch} {G : gG} {k : Nat} {o : gMem} {Q : gMem → Prop} {P3 : Int32 → Int32 → gMem → Prop} (hP3 : ∀ (l3 : Int32) (l4 : Int32) (c : gMem), P3 l3 l4 c → Go l G mX10_moves (gbq G 0 0 84 k (qv (wM G o) Q)) 3 [(0, .ref (G.2.1 + 75)), (1, .ref (G.2.1 + 76)), (3, .int l3), (4, .int l4)] [] 84 k (wM G o c)) {l3 : Int32} {l4 : Int32} {c : gMem} (h : wX10_moves_75_76_p3_b P3 l3 l4 c Q) : Go l G mX10_moves (gbq G 0 0 84 k (qv (wM G o) Q)) 3 [(0, .ref (G.2.1 + 75)), (1, .ref (G.2.1 + 76)), (3, .int l3), (4, .int l4)] [] 84 k (wM G o c) := by
  unfold wX10_moves_75_76_p3_b at h
  refine go_iload (pc := 3) dX10_moves_3 rfl ?_
  refine go_iload_n (pc := 5) dX10_moves_5 rfl rfl ?_
  refine go_icmp_ge (pc := 6) (tgt := 23) dX10_moves_6 (by decide) (fun q1 => ?_) (fun q1 => ?_)
  · have h := h.1 q1
    exact gq_vret (pc := 23) (F := wM G o) rfl dX10_moves_23 h
  · have h := h.2 q1
    refine go_aload_n (pc := 9) dX10_moves_9 rfl rfl ?_
    refine go_iload (pc := 10) dX10_moves_10 rfl ?_
    refine go_aload_n (pc := 12) dX10_moves_12 rfl rfl ?_
    refine go_iload (pc := 13) dX10_moves_13 rfl ?_
    obtain ⟨b3, h⟩ := h
    refine gb_iald (pc := 15) (gz_b (by decide)) yw1 b3 dX10_moves_15 (fun v2 ev2 => ?_)
    have h := h v2 ev2
    obtain ⟨b5, h⟩ := h
    refine gb_iast (pc := 16) (F := wM G o) (gz_b (by decide)) yw2 b5 ya2 dX10_moves_16 (fun c4 ec4 => ?_)
    have h := h c4 ec4
    refine go_iinc (pc := 17) (v := l4 + 1) (lv' := [(4, .int (l4 + 1)), (0, .ref (G.2.1 + 75)), (1, .ref (G.2.1 + 76)), (3, .int l3)]) dX10_moves_17 3 rfl (by first | rfl | decide) (by decide) rfl ?_
    refine go_goto (pc := 20) (tgt := 3) dX10_moves_20 (by decide) ?_
    refine go_lv [1, 2, 3, 0] rfl ?_
    exact hP3 _ _ _ h
set_option maxRecDepth 100000 in
set_option maxHeartbeats 4000000 in
theorem tX10_moves_75_76_p3 {l : Launch} {G : gG} {k : Nat} {o : gMem} {Q : gMem → Prop} {l3 : Int32} {l4 : Int32} {c : gMem} (h : wX10_moves_75_76_p3 l3 l4 c Q) : Go l G mX10_moves (gbq G 0 0 84 k (qv (wM G o) Q)) 3 [(0, .ref (G.2.1 + 75)), (1, .ref (G.2.1 + 76)), (3, .int l3), (4, .int l4)] [] 84 k (wM G o c) :=
  h (fun l3 l4 c => Go l G mX10_moves (gbq G 0 0 84 k (qv (wM G o) Q)) 3 [(0, .ref (G.2.1 + 75)), (1, .ref (G.2.1 + 76)), (3, .int l3), (4, .int l4)] [] 84 k (wM G o c)) (fun l3 l4 c hb => tX10_moves_75_76_p3_b (fun l3 l4 c hh => hh) hb)
def wX10_moves_75_76 (l2 : Int32) (l3 : Int32) (c : gMem) (Q : gMem → Prop) : Prop :=
  wX10_moves_75_76_p3 l3 l2 c Q
set_option maxRecDepth 100000 in
set_option maxHeartbeats 4000000 in
theorem tX10_moves_75_76 {l : Launch} {G : gG} {k : Nat} {o : gMem} {Q : gMem → Prop} {l2 : Int32} {l3 : Int32} {c : gMem} (h : wX10_moves_75_76 l2 l3 c Q) : Cq l G mX10_moves 0 0 [.ref (G.2.1 + 75), .ref (G.2.1 + 76), .int l2, .int l3] 84 k (wM G o c) (qv (wM G o) Q) := by
  refine Cq.of (by decide) (Nat.le_of_ble_eq_true rfl) ?_
  show Go l G mX10_moves (gbq G 0 0 84 k (qv (wM G o) Q)) 0 [(0, .ref (G.2.1 + 75)), (1, .ref (G.2.1 + 76)), (2, .int l2), (3, .int l3)] [] 84 k (wM G o c)
  unfold wX10_moves_75_76 at h
  refine go_iload_n (pc := 0) dX10_moves_0 rfl rfl ?_
  refine go_istore (pc := 1) (lv' := [(4, .int l2), (0, .ref (G.2.1 + 75)), (1, .ref (G.2.1 + 76)), (2, .int l2), (3, .int l3)]) dX10_moves_1 (by decide) rfl ?_
  refine go_lv [1, 2, 4, 0] rfl ?_
  exact tX10_moves_75_76_p3 h
def wX10_keep_75_76 (c : gMem) (Q : gMem → Prop) : Prop :=
  ∀ v1, v1 = c 1 1 →
  wX10_moves_75_76 0 (1100 + (10 * v1)) c (fun c2 =>
  ∀ v3, v3 = c2 1 0 →
  wX10_moves_75_76 6100 (6100 + v3) c2 (fun c4 =>
  ∀ v5, v5 = c4 1 15 →
  wX10_moves_75_76 10100 (10100 + v5) c4 (fun c6 =>
  ∀ v7, v7 = c6 1 15 →
  wX10_moves_75_76 18100 (18100 + v7) c6 (fun c8 =>
  Q c8))))
set_option maxRecDepth 100000 in
set_option maxHeartbeats 4000000 in
theorem tX10_keep_75_76 {l : Launch} {G : gG} {k : Nat} {o : gMem} {Q : gMem → Prop} {c : gMem} (h : wX10_keep_75_76 c Q) : Cq l G mX10_keep 1 24 [.ref (G.2.1 + 75), .ref (G.2.1 + 76)] 84 k (wM G o c) (qv (wM G o) Q) := by
  refine Cq.of (by decide) (Nat.le_of_ble_eq_true rfl) ?_
  show Go l G mX10_keep (gbq G 1 24 84 k (qv (wM G o) Q)) 0 [(0, .ref (G.2.1 + 75)), (1, .ref (G.2.1 + 76))] [] 84 k (wM G o c)
  unfold wX10_keep_75_76 at h
  refine go_aload_n (pc := 0) dX10_keep_0 rfl rfl ?_
  refine go_aload_n (pc := 1) dX10_keep_1 rfl rfl ?_
  refine go_iconst (pc := 2) (v := 0) dX10_keep_2 (by decide) ?_
  refine go_sipush (pc := 3) (v := 1100) dX10_keep_3 (by decide) ?_
  refine go_bipush (pc := 6) (v := 10) dX10_keep_6 (by decide) ?_
  refine go_aload_n (pc := 8) dX10_keep_8 rfl rfl ?_
  refine go_iconst (pc := 9) (v := 1) dX10_keep_9 (by decide) ?_
  refine gb_iald (pc := 10) (gz_b (by decide)) yw1 (gv_in (by decide)) dX10_keep_10 (fun v1 ev1 => ?_)
  have h := h v1 ev1
  refine go_imul (pc := 11) dX10_keep_11 ?_
  refine go_iadd (pc := 12) dX10_keep_12 ?_
  refine gq_callS_v (pc := 13) (F := wM G o) sX10_295 rfl (tX10_moves_75_76 h) rfl rfl (Nat.le_of_ble_eq_true rfl) ⟨Nat.le_of_ble_eq_true rfl, Nat.le_of_ble_eq_true rfl, Nat.le_add_right _ _, Nat.le_add_right _ _⟩ dX10_keep_13 (fun c2 h => ?_)
  refine go_aload_n (pc := 16) dX10_keep_16 rfl rfl ?_
  refine go_aload_n (pc := 17) dX10_keep_17 rfl rfl ?_
  refine go_sipush (pc := 18) (v := 6100) dX10_keep_18 (by decide) ?_
  refine go_sipush (pc := 21) (v := 6100) dX10_keep_21 (by decide) ?_
  refine go_aload_n (pc := 24) dX10_keep_24 rfl rfl ?_
  refine go_iconst (pc := 25) (v := 0) dX10_keep_25 (by decide) ?_
  refine gb_iald (pc := 26) (gz_b (by decide)) yw1 (gv_in (by decide)) dX10_keep_26 (fun v3 ev3 => ?_)
  have h := h v3 ev3
  refine go_iadd (pc := 27) dX10_keep_27 ?_
  refine gq_callS_v (pc := 28) (F := wM G o) sX10_295 rfl (tX10_moves_75_76 h) rfl rfl (Nat.le_of_ble_eq_true rfl) ⟨Nat.le_of_ble_eq_true rfl, Nat.le_of_ble_eq_true rfl, Nat.le_add_right _ _, Nat.le_add_right _ _⟩ dX10_keep_28 (fun c4 h => ?_)
  refine go_aload_n (pc := 31) dX10_keep_31 rfl rfl ?_
  refine go_aload_n (pc := 32) dX10_keep_32 rfl rfl ?_
  refine go_sipush (pc := 33) (v := 10100) dX10_keep_33 (by decide) ?_
  refine go_sipush (pc := 36) (v := 10100) dX10_keep_36 (by decide) ?_
  refine go_aload_n (pc := 39) dX10_keep_39 rfl rfl ?_
  refine go_bipush (pc := 40) (v := 15) dX10_keep_40 (by decide) ?_
  refine gb_iald (pc := 42) (gz_b (by decide)) yw1 (gv_in (by decide)) dX10_keep_42 (fun v5 ev5 => ?_)
  have h := h v5 ev5
  refine go_iadd (pc := 43) dX10_keep_43 ?_
  refine gq_callS_v (pc := 44) (F := wM G o) sX10_295 rfl (tX10_moves_75_76 h) rfl rfl (Nat.le_of_ble_eq_true rfl) ⟨Nat.le_of_ble_eq_true rfl, Nat.le_of_ble_eq_true rfl, Nat.le_add_right _ _, Nat.le_add_right _ _⟩ dX10_keep_44 (fun c6 h => ?_)
  refine go_aload_n (pc := 47) dX10_keep_47 rfl rfl ?_
  refine go_aload_n (pc := 48) dX10_keep_48 rfl rfl ?_
  refine go_sipush (pc := 49) (v := 18100) dX10_keep_49 (by decide) ?_
  refine go_sipush (pc := 52) (v := 18100) dX10_keep_52 (by decide) ?_
  refine go_aload_n (pc := 55) dX10_keep_55 rfl rfl ?_
  refine go_bipush (pc := 56) (v := 15) dX10_keep_56 (by decide) ?_
  refine gb_iald (pc := 58) (gz_b (by decide)) yw1 (gv_in (by decide)) dX10_keep_58 (fun v7 ev7 => ?_)
  have h := h v7 ev7
  refine go_iadd (pc := 59) dX10_keep_59 ?_
  refine gq_callS_v (pc := 60) (F := wM G o) sX10_295 rfl (tX10_moves_75_76 h) rfl rfl (Nat.le_of_ble_eq_true rfl) ⟨Nat.le_of_ble_eq_true rfl, Nat.le_of_ble_eq_true rfl, Nat.le_add_right _ _, Nat.le_add_right _ _⟩ dX10_keep_60 (fun c8 h => ?_)
  exact gq_vret (pc := 63) (F := wM G o) rfl dX10_keep_63 h
def wX10_image (c : gMem) (Q : Int32 → gMem → Prop) : Prop :=
  wX10_keep_75_76 c (fun c1 =>
  ∀ c2, c2 = mp c1 0 3 1 →
  ∀ v3, v3 = c2 1 2 →
  Q v3 c2)
set_option maxRecDepth 100000 in
set_option maxHeartbeats 4000000 in
theorem tX10_image {l : Launch} {G : gG} {k : Nat} {o : gMem} {Q : Int32 → gMem → Prop} {c : gMem} (h : wX10_image c Q) : Cq l G mX10_image 2 45 [.ref (G.2.1 + 74)] 84 k (wM G o c) (qi (wM G o) Q) := by
  refine Cq.of (by decide) (Nat.le_of_ble_eq_true rfl) ?_
  show Go l G mX10_image (gbq G 2 45 84 k (qi (wM G o) Q)) 0 [(0, .ref (G.2.1 + 74))] [] 84 k (wM G o c)
  unfold wX10_image at h
  refine go_aload_n (pc := 0) dX10_image_0 rfl rfl ?_
  refine go_get (pc := 1) fX10_9 rfl (gz_b (by decide)) yw0 rfl dX10_image_1 ?_
  refine go_aload_n (pc := 4) dX10_image_4 rfl rfl ?_
  refine go_get (pc := 5) fX10_13 rfl (gz_b (by decide)) yw0 rfl dX10_image_5 ?_
  refine gq_callS_v (pc := 8) (F := wM G o) sX10_299 rfl (tX10_keep_75_76 h) rfl rfl (Nat.le_of_ble_eq_true rfl) ⟨Nat.le_of_ble_eq_true rfl, Nat.le_of_ble_eq_true rfl, Nat.le_add_right _ _, Nat.le_add_right _ _⟩ dX10_image_8 (fun c1 h => ?_)
  refine go_aload_n (pc := 11) dX10_image_11 rfl rfl ?_
  refine go_iconst (pc := 12) (v := 1) dX10_image_12 (by decide) ?_
  refine gb_put (pc := 13) (F := wM G o) fX10_42 rfl (gz_b (by decide)) yw0 (Nat.le_of_ble_eq_true rfl) rfl rfl yp0_3 dX10_image_13 (fun c2 ec2 => ?_)
  have h := h c2 ec2
  refine go_aload_n (pc := 16) dX10_image_16 rfl rfl ?_
  refine go_get (pc := 17) fX10_9 rfl (gz_b (by decide)) yw0 rfl dX10_image_17 ?_
  refine go_iconst (pc := 20) (v := 2) dX10_image_20 (by decide) ?_
  refine gb_iald (pc := 21) (gz_b (by decide)) yw1 (gv_in (by decide)) dX10_image_21 (fun v3 ev3 => ?_)
  have h := h v3 ev3
  exact gq_iret (pc := 22) (F := wM G o) rfl dX10_image_22 h
def wX10_moves_76_75_p3_b (P3 : Int32 → Int32 → gMem → Prop) (l3 : Int32) (l4 : Int32) (c : gMem) (Q : gMem → Prop) : Prop :=
  ((l3 ≤ l4 →
    Q c) ∧
   (¬ l3 ≤ l4 →
    vp_in l4 26100 ∧
    ∀ v2, v2 = c 2 l4.toNatClampNeg →
    vp_in l4 26100 ∧
    ∀ c4, c4 = mp c 1 l4.toNatClampNeg v2 →
    P3 l3 (l4 + 1) c4))
def wX10_moves_76_75_p3 (l3 : Int32) (l4 : Int32) (c : gMem) (Q : gMem → Prop) : Prop :=
  ∀ P3 : Int32 → Int32 → gMem → Prop, (∀ (l3 : Int32) (l4 : Int32) (c : gMem), wX10_moves_76_75_p3_b P3 l3 l4 c Q → P3 l3 l4 c) → P3 l3 l4 c
set_option maxRecDepth 100000 in
set_option maxHeartbeats 4000000 in
theorem tX10_moves_76_75_p3_b {l : Launch} {G : gG} {k : Nat} {o : gMem} {Q : gMem → Prop} {P3 : Int32 → Int32 → gMem → Prop} (hP3 : ∀ (l3 : Int32) (l4 : Int32) (c : gMem), P3 l3 l4 c → Go l G mX10_moves (gbq G 0 0 84 k (qv (wM G o) Q)) 3 [(0, .ref (G.2.1 + 76)), (1, .ref (G.2.1 + 75)), (3, .int l3), (4, .int l4)] [] 84 k (wM G o c)) {l3 : Int32} {l4 : Int32} {c : gMem} (h : wX10_moves_76_75_p3_b P3 l3 l4 c Q) : Go l G mX10_moves (gbq G 0 0 84 k (qv (wM G o) Q)) 3 [(0, .ref (G.2.1 + 76)), (1, .ref (G.2.1 + 75)), (3, .int l3), (4, .int l4)] [] 84 k (wM G o c) := by
  unfold wX10_moves_76_75_p3_b at h
  refine go_iload (pc := 3) dX10_moves_3 rfl ?_
  refine go_iload_n (pc := 5) dX10_moves_5 rfl rfl ?_
  refine go_icmp_ge (pc := 6) (tgt := 23) dX10_moves_6 (by decide) (fun q1 => ?_) (fun q1 => ?_)
  · have h := h.1 q1
    exact gq_vret (pc := 23) (F := wM G o) rfl dX10_moves_23 h
  · have h := h.2 q1
    refine go_aload_n (pc := 9) dX10_moves_9 rfl rfl ?_
    refine go_iload (pc := 10) dX10_moves_10 rfl ?_
    refine go_aload_n (pc := 12) dX10_moves_12 rfl rfl ?_
    refine go_iload (pc := 13) dX10_moves_13 rfl ?_
    obtain ⟨b3, h⟩ := h
    refine gb_iald (pc := 15) (gz_b (by decide)) yw2 b3 dX10_moves_15 (fun v2 ev2 => ?_)
    have h := h v2 ev2
    obtain ⟨b5, h⟩ := h
    refine gb_iast (pc := 16) (F := wM G o) (gz_b (by decide)) yw1 b5 ya1 dX10_moves_16 (fun c4 ec4 => ?_)
    have h := h c4 ec4
    refine go_iinc (pc := 17) (v := l4 + 1) (lv' := [(4, .int (l4 + 1)), (0, .ref (G.2.1 + 76)), (1, .ref (G.2.1 + 75)), (3, .int l3)]) dX10_moves_17 3 rfl (by first | rfl | decide) (by decide) rfl ?_
    refine go_goto (pc := 20) (tgt := 3) dX10_moves_20 (by decide) ?_
    refine go_lv [1, 2, 3, 0] rfl ?_
    exact hP3 _ _ _ h
set_option maxRecDepth 100000 in
set_option maxHeartbeats 4000000 in
theorem tX10_moves_76_75_p3 {l : Launch} {G : gG} {k : Nat} {o : gMem} {Q : gMem → Prop} {l3 : Int32} {l4 : Int32} {c : gMem} (h : wX10_moves_76_75_p3 l3 l4 c Q) : Go l G mX10_moves (gbq G 0 0 84 k (qv (wM G o) Q)) 3 [(0, .ref (G.2.1 + 76)), (1, .ref (G.2.1 + 75)), (3, .int l3), (4, .int l4)] [] 84 k (wM G o c) :=
  h (fun l3 l4 c => Go l G mX10_moves (gbq G 0 0 84 k (qv (wM G o) Q)) 3 [(0, .ref (G.2.1 + 76)), (1, .ref (G.2.1 + 75)), (3, .int l3), (4, .int l4)] [] 84 k (wM G o c)) (fun l3 l4 c hb => tX10_moves_76_75_p3_b (fun l3 l4 c hh => hh) hb)
def wX10_moves_76_75 (l2 : Int32) (l3 : Int32) (c : gMem) (Q : gMem → Prop) : Prop :=
  wX10_moves_76_75_p3 l3 l2 c Q
set_option maxRecDepth 100000 in
set_option maxHeartbeats 4000000 in
theorem tX10_moves_76_75 {l : Launch} {G : gG} {k : Nat} {o : gMem} {Q : gMem → Prop} {l2 : Int32} {l3 : Int32} {c : gMem} (h : wX10_moves_76_75 l2 l3 c Q) : Cq l G mX10_moves 0 0 [.ref (G.2.1 + 76), .ref (G.2.1 + 75), .int l2, .int l3] 84 k (wM G o c) (qv (wM G o) Q) := by
  refine Cq.of (by decide) (Nat.le_of_ble_eq_true rfl) ?_
  show Go l G mX10_moves (gbq G 0 0 84 k (qv (wM G o) Q)) 0 [(0, .ref (G.2.1 + 76)), (1, .ref (G.2.1 + 75)), (2, .int l2), (3, .int l3)] [] 84 k (wM G o c)
  unfold wX10_moves_76_75 at h
  refine go_iload_n (pc := 0) dX10_moves_0 rfl rfl ?_
  refine go_istore (pc := 1) (lv' := [(4, .int l2), (0, .ref (G.2.1 + 76)), (1, .ref (G.2.1 + 75)), (2, .int l2), (3, .int l3)]) dX10_moves_1 (by decide) rfl ?_
  refine go_lv [1, 2, 4, 0] rfl ?_
  exact tX10_moves_76_75_p3 h
def wX10_keep_76_75 (c : gMem) (Q : gMem → Prop) : Prop :=
  ∀ v1, v1 = c 2 1 →
  wX10_moves_76_75 0 (1100 + (10 * v1)) c (fun c2 =>
  ∀ v3, v3 = c2 2 0 →
  wX10_moves_76_75 6100 (6100 + v3) c2 (fun c4 =>
  ∀ v5, v5 = c4 2 15 →
  wX10_moves_76_75 10100 (10100 + v5) c4 (fun c6 =>
  ∀ v7, v7 = c6 2 15 →
  wX10_moves_76_75 18100 (18100 + v7) c6 (fun c8 =>
  Q c8))))
set_option maxRecDepth 100000 in
set_option maxHeartbeats 4000000 in
theorem tX10_keep_76_75 {l : Launch} {G : gG} {k : Nat} {o : gMem} {Q : gMem → Prop} {c : gMem} (h : wX10_keep_76_75 c Q) : Cq l G mX10_keep 1 24 [.ref (G.2.1 + 76), .ref (G.2.1 + 75)] 84 k (wM G o c) (qv (wM G o) Q) := by
  refine Cq.of (by decide) (Nat.le_of_ble_eq_true rfl) ?_
  show Go l G mX10_keep (gbq G 1 24 84 k (qv (wM G o) Q)) 0 [(0, .ref (G.2.1 + 76)), (1, .ref (G.2.1 + 75))] [] 84 k (wM G o c)
  unfold wX10_keep_76_75 at h
  refine go_aload_n (pc := 0) dX10_keep_0 rfl rfl ?_
  refine go_aload_n (pc := 1) dX10_keep_1 rfl rfl ?_
  refine go_iconst (pc := 2) (v := 0) dX10_keep_2 (by decide) ?_
  refine go_sipush (pc := 3) (v := 1100) dX10_keep_3 (by decide) ?_
  refine go_bipush (pc := 6) (v := 10) dX10_keep_6 (by decide) ?_
  refine go_aload_n (pc := 8) dX10_keep_8 rfl rfl ?_
  refine go_iconst (pc := 9) (v := 1) dX10_keep_9 (by decide) ?_
  refine gb_iald (pc := 10) (gz_b (by decide)) yw2 (gv_in (by decide)) dX10_keep_10 (fun v1 ev1 => ?_)
  have h := h v1 ev1
  refine go_imul (pc := 11) dX10_keep_11 ?_
  refine go_iadd (pc := 12) dX10_keep_12 ?_
  refine gq_callS_v (pc := 13) (F := wM G o) sX10_295 rfl (tX10_moves_76_75 h) rfl rfl (Nat.le_of_ble_eq_true rfl) ⟨Nat.le_of_ble_eq_true rfl, Nat.le_of_ble_eq_true rfl, Nat.le_add_right _ _, Nat.le_add_right _ _⟩ dX10_keep_13 (fun c2 h => ?_)
  refine go_aload_n (pc := 16) dX10_keep_16 rfl rfl ?_
  refine go_aload_n (pc := 17) dX10_keep_17 rfl rfl ?_
  refine go_sipush (pc := 18) (v := 6100) dX10_keep_18 (by decide) ?_
  refine go_sipush (pc := 21) (v := 6100) dX10_keep_21 (by decide) ?_
  refine go_aload_n (pc := 24) dX10_keep_24 rfl rfl ?_
  refine go_iconst (pc := 25) (v := 0) dX10_keep_25 (by decide) ?_
  refine gb_iald (pc := 26) (gz_b (by decide)) yw2 (gv_in (by decide)) dX10_keep_26 (fun v3 ev3 => ?_)
  have h := h v3 ev3
  refine go_iadd (pc := 27) dX10_keep_27 ?_
  refine gq_callS_v (pc := 28) (F := wM G o) sX10_295 rfl (tX10_moves_76_75 h) rfl rfl (Nat.le_of_ble_eq_true rfl) ⟨Nat.le_of_ble_eq_true rfl, Nat.le_of_ble_eq_true rfl, Nat.le_add_right _ _, Nat.le_add_right _ _⟩ dX10_keep_28 (fun c4 h => ?_)
  refine go_aload_n (pc := 31) dX10_keep_31 rfl rfl ?_
  refine go_aload_n (pc := 32) dX10_keep_32 rfl rfl ?_
  refine go_sipush (pc := 33) (v := 10100) dX10_keep_33 (by decide) ?_
  refine go_sipush (pc := 36) (v := 10100) dX10_keep_36 (by decide) ?_
  refine go_aload_n (pc := 39) dX10_keep_39 rfl rfl ?_
  refine go_bipush (pc := 40) (v := 15) dX10_keep_40 (by decide) ?_
  refine gb_iald (pc := 42) (gz_b (by decide)) yw2 (gv_in (by decide)) dX10_keep_42 (fun v5 ev5 => ?_)
  have h := h v5 ev5
  refine go_iadd (pc := 43) dX10_keep_43 ?_
  refine gq_callS_v (pc := 44) (F := wM G o) sX10_295 rfl (tX10_moves_76_75 h) rfl rfl (Nat.le_of_ble_eq_true rfl) ⟨Nat.le_of_ble_eq_true rfl, Nat.le_of_ble_eq_true rfl, Nat.le_add_right _ _, Nat.le_add_right _ _⟩ dX10_keep_44 (fun c6 h => ?_)
  refine go_aload_n (pc := 47) dX10_keep_47 rfl rfl ?_
  refine go_aload_n (pc := 48) dX10_keep_48 rfl rfl ?_
  refine go_sipush (pc := 49) (v := 18100) dX10_keep_49 (by decide) ?_
  refine go_sipush (pc := 52) (v := 18100) dX10_keep_52 (by decide) ?_
  refine go_aload_n (pc := 55) dX10_keep_55 rfl rfl ?_
  refine go_bipush (pc := 56) (v := 15) dX10_keep_56 (by decide) ?_
  refine gb_iald (pc := 58) (gz_b (by decide)) yw2 (gv_in (by decide)) dX10_keep_58 (fun v7 ev7 => ?_)
  have h := h v7 ev7
  refine go_iadd (pc := 59) dX10_keep_59 ?_
  refine gq_callS_v (pc := 60) (F := wM G o) sX10_295 rfl (tX10_moves_76_75 h) rfl rfl (Nat.le_of_ble_eq_true rfl) ⟨Nat.le_of_ble_eq_true rfl, Nat.le_of_ble_eq_true rfl, Nat.le_add_right _ _, Nat.le_add_right _ _⟩ dX10_keep_60 (fun c8 h => ?_)
  exact gq_vret (pc := 63) (F := wM G o) rfl dX10_keep_63 h
def wX10_load (c : gMem) (Q : Int32 → gMem → Prop) : Prop :=
  ∀ v1, v1 = c 0 3 →
  ((v1 = 0 →
    Q ((-104)) c) ∧
   (¬ v1 = 0 →
    wX10_keep_76_75 c (fun c3 =>
    ∀ c4, c4 = mp c3 0 4 0 →
    Q 1 c4)))
set_option maxRecDepth 100000 in
set_option maxHeartbeats 4000000 in
theorem tX10_load {l : Launch} {G : gG} {k : Nat} {o : gMem} {Q : Int32 → gMem → Prop} {c : gMem} (h : wX10_load c Q) : Cq l G mX10_load 2 45 [.ref (G.2.1 + 74)] 84 k (wM G o c) (qi (wM G o) Q) := by
  refine Cq.of (by decide) (Nat.le_of_ble_eq_true rfl) ?_
  show Go l G mX10_load (gbq G 2 45 84 k (qi (wM G o) Q)) 0 [(0, .ref (G.2.1 + 74))] [] 84 k (wM G o c)
  unfold wX10_load at h
  refine go_aload_n (pc := 0) dX10_load_0 rfl rfl ?_
  refine gb_get (pc := 1) fX10_42 rfl (gz_b (by decide)) yw0 rfl dX10_load_1 (fun v1 ev1 => ?_)
  have h := h v1 ev1
  refine go_if_ne (pc := 4) (tgt := 10) dX10_load_4 (by decide) (fun q2 => ?_) (fun q2 => ?_)
  · have h := h.2 q2
    refine go_aload_n (pc := 10) dX10_load_10 rfl rfl ?_
    refine go_get (pc := 11) fX10_13 rfl (gz_b (by decide)) yw0 rfl dX10_load_11 ?_
    refine go_aload_n (pc := 14) dX10_load_14 rfl rfl ?_
    refine go_get (pc := 15) fX10_9 rfl (gz_b (by decide)) yw0 rfl dX10_load_15 ?_
    refine gq_callS_v (pc := 18) (F := wM G o) sX10_299 rfl (tX10_keep_76_75 h) rfl rfl (Nat.le_of_ble_eq_true rfl) ⟨Nat.le_of_ble_eq_true rfl, Nat.le_of_ble_eq_true rfl, Nat.le_add_right _ _, Nat.le_add_right _ _⟩ dX10_load_18 (fun c3 h => ?_)
    refine go_aload_n (pc := 21) dX10_load_21 rfl rfl ?_
    refine go_iconst (pc := 22) (v := 0) dX10_load_22 (by decide) ?_
    refine gb_put (pc := 23) (F := wM G o) fX10_46 rfl (gz_b (by decide)) yw0 (Nat.le_of_ble_eq_true rfl) rfl rfl yp0_4 dX10_load_23 (fun c4 ec4 => ?_)
    have h := h c4 ec4
    refine go_iconst (pc := 26) (v := 1) dX10_load_26 (by decide) ?_
    exact gq_iret (pc := 27) (F := wM G o) rfl dX10_load_27 h
  · have h := h.1 q2
    refine go_bipush (pc := 7) (v := (-104)) dX10_load_7 (by decide) ?_
    exact gq_iret (pc := 9) (F := wM G o) rfl dX10_load_9 h
def wX10_moves_77_75_p3_b (P3 : Int32 → Int32 → gMem → Prop) (l3 : Int32) (l4 : Int32) (c : gMem) (Q : gMem → Prop) : Prop :=
  ((l3 ≤ l4 →
    Q c) ∧
   (¬ l3 ≤ l4 →
    vp_in l4 26100 ∧
    ∀ v2, v2 = c 3 l4.toNatClampNeg →
    vp_in l4 26100 ∧
    ∀ c4, c4 = mp c 1 l4.toNatClampNeg v2 →
    P3 l3 (l4 + 1) c4))
def wX10_moves_77_75_p3 (l3 : Int32) (l4 : Int32) (c : gMem) (Q : gMem → Prop) : Prop :=
  ∀ P3 : Int32 → Int32 → gMem → Prop, (∀ (l3 : Int32) (l4 : Int32) (c : gMem), wX10_moves_77_75_p3_b P3 l3 l4 c Q → P3 l3 l4 c) → P3 l3 l4 c
set_option maxRecDepth 100000 in
set_option maxHeartbeats 4000000 in
theorem tX10_moves_77_75_p3_b {l : Launch} {G : gG} {k : Nat} {o : gMem} {Q : gMem → Prop} {P3 : Int32 → Int32 → gMem → Prop} (hP3 : ∀ (l3 : Int32) (l4 : Int32) (c : gMem), P3 l3 l4 c → Go l G mX10_moves (gbq G 0 0 84 k (qv (wM G o) Q)) 3 [(0, .ref (G.2.1 + 77)), (1, .ref (G.2.1 + 75)), (3, .int l3), (4, .int l4)] [] 84 k (wM G o c)) {l3 : Int32} {l4 : Int32} {c : gMem} (h : wX10_moves_77_75_p3_b P3 l3 l4 c Q) : Go l G mX10_moves (gbq G 0 0 84 k (qv (wM G o) Q)) 3 [(0, .ref (G.2.1 + 77)), (1, .ref (G.2.1 + 75)), (3, .int l3), (4, .int l4)] [] 84 k (wM G o c) := by
  unfold wX10_moves_77_75_p3_b at h
  refine go_iload (pc := 3) dX10_moves_3 rfl ?_
  refine go_iload_n (pc := 5) dX10_moves_5 rfl rfl ?_
  refine go_icmp_ge (pc := 6) (tgt := 23) dX10_moves_6 (by decide) (fun q1 => ?_) (fun q1 => ?_)
  · have h := h.1 q1
    exact gq_vret (pc := 23) (F := wM G o) rfl dX10_moves_23 h
  · have h := h.2 q1
    refine go_aload_n (pc := 9) dX10_moves_9 rfl rfl ?_
    refine go_iload (pc := 10) dX10_moves_10 rfl ?_
    refine go_aload_n (pc := 12) dX10_moves_12 rfl rfl ?_
    refine go_iload (pc := 13) dX10_moves_13 rfl ?_
    obtain ⟨b3, h⟩ := h
    refine gb_iald (pc := 15) (gz_b (by decide)) yw3 b3 dX10_moves_15 (fun v2 ev2 => ?_)
    have h := h v2 ev2
    obtain ⟨b5, h⟩ := h
    refine gb_iast (pc := 16) (F := wM G o) (gz_b (by decide)) yw1 b5 ya1 dX10_moves_16 (fun c4 ec4 => ?_)
    have h := h c4 ec4
    refine go_iinc (pc := 17) (v := l4 + 1) (lv' := [(4, .int (l4 + 1)), (0, .ref (G.2.1 + 77)), (1, .ref (G.2.1 + 75)), (3, .int l3)]) dX10_moves_17 3 rfl (by first | rfl | decide) (by decide) rfl ?_
    refine go_goto (pc := 20) (tgt := 3) dX10_moves_20 (by decide) ?_
    refine go_lv [1, 2, 3, 0] rfl ?_
    exact hP3 _ _ _ h
set_option maxRecDepth 100000 in
set_option maxHeartbeats 4000000 in
theorem tX10_moves_77_75_p3 {l : Launch} {G : gG} {k : Nat} {o : gMem} {Q : gMem → Prop} {l3 : Int32} {l4 : Int32} {c : gMem} (h : wX10_moves_77_75_p3 l3 l4 c Q) : Go l G mX10_moves (gbq G 0 0 84 k (qv (wM G o) Q)) 3 [(0, .ref (G.2.1 + 77)), (1, .ref (G.2.1 + 75)), (3, .int l3), (4, .int l4)] [] 84 k (wM G o c) :=
  h (fun l3 l4 c => Go l G mX10_moves (gbq G 0 0 84 k (qv (wM G o) Q)) 3 [(0, .ref (G.2.1 + 77)), (1, .ref (G.2.1 + 75)), (3, .int l3), (4, .int l4)] [] 84 k (wM G o c)) (fun l3 l4 c hb => tX10_moves_77_75_p3_b (fun l3 l4 c hh => hh) hb)
def wX10_moves_77_75 (l2 : Int32) (l3 : Int32) (c : gMem) (Q : gMem → Prop) : Prop :=
  wX10_moves_77_75_p3 l3 l2 c Q
set_option maxRecDepth 100000 in
set_option maxHeartbeats 4000000 in
theorem tX10_moves_77_75 {l : Launch} {G : gG} {k : Nat} {o : gMem} {Q : gMem → Prop} {l2 : Int32} {l3 : Int32} {c : gMem} (h : wX10_moves_77_75 l2 l3 c Q) : Cq l G mX10_moves 0 0 [.ref (G.2.1 + 77), .ref (G.2.1 + 75), .int l2, .int l3] 84 k (wM G o c) (qv (wM G o) Q) := by
  refine Cq.of (by decide) (Nat.le_of_ble_eq_true rfl) ?_
  show Go l G mX10_moves (gbq G 0 0 84 k (qv (wM G o) Q)) 0 [(0, .ref (G.2.1 + 77)), (1, .ref (G.2.1 + 75)), (2, .int l2), (3, .int l3)] [] 84 k (wM G o c)
  unfold wX10_moves_77_75 at h
  refine go_iload_n (pc := 0) dX10_moves_0 rfl rfl ?_
  refine go_istore (pc := 1) (lv' := [(4, .int l2), (0, .ref (G.2.1 + 77)), (1, .ref (G.2.1 + 75)), (2, .int l2), (3, .int l3)]) dX10_moves_1 (by decide) rfl ?_
  refine go_lv [1, 2, 4, 0] rfl ?_
  exact tX10_moves_77_75_p3 h
def wX10_keep_77_75 (c : gMem) (Q : gMem → Prop) : Prop :=
  ∀ v1, v1 = c 3 1 →
  wX10_moves_77_75 0 (1100 + (10 * v1)) c (fun c2 =>
  ∀ v3, v3 = c2 3 0 →
  wX10_moves_77_75 6100 (6100 + v3) c2 (fun c4 =>
  ∀ v5, v5 = c4 3 15 →
  wX10_moves_77_75 10100 (10100 + v5) c4 (fun c6 =>
  ∀ v7, v7 = c6 3 15 →
  wX10_moves_77_75 18100 (18100 + v7) c6 (fun c8 =>
  Q c8))))
set_option maxRecDepth 100000 in
set_option maxHeartbeats 4000000 in
theorem tX10_keep_77_75 {l : Launch} {G : gG} {k : Nat} {o : gMem} {Q : gMem → Prop} {c : gMem} (h : wX10_keep_77_75 c Q) : Cq l G mX10_keep 1 24 [.ref (G.2.1 + 77), .ref (G.2.1 + 75)] 84 k (wM G o c) (qv (wM G o) Q) := by
  refine Cq.of (by decide) (Nat.le_of_ble_eq_true rfl) ?_
  show Go l G mX10_keep (gbq G 1 24 84 k (qv (wM G o) Q)) 0 [(0, .ref (G.2.1 + 77)), (1, .ref (G.2.1 + 75))] [] 84 k (wM G o c)
  unfold wX10_keep_77_75 at h
  refine go_aload_n (pc := 0) dX10_keep_0 rfl rfl ?_
  refine go_aload_n (pc := 1) dX10_keep_1 rfl rfl ?_
  refine go_iconst (pc := 2) (v := 0) dX10_keep_2 (by decide) ?_
  refine go_sipush (pc := 3) (v := 1100) dX10_keep_3 (by decide) ?_
  refine go_bipush (pc := 6) (v := 10) dX10_keep_6 (by decide) ?_
  refine go_aload_n (pc := 8) dX10_keep_8 rfl rfl ?_
  refine go_iconst (pc := 9) (v := 1) dX10_keep_9 (by decide) ?_
  refine gb_iald (pc := 10) (gz_b (by decide)) yw3 (gv_in (by decide)) dX10_keep_10 (fun v1 ev1 => ?_)
  have h := h v1 ev1
  refine go_imul (pc := 11) dX10_keep_11 ?_
  refine go_iadd (pc := 12) dX10_keep_12 ?_
  refine gq_callS_v (pc := 13) (F := wM G o) sX10_295 rfl (tX10_moves_77_75 h) rfl rfl (Nat.le_of_ble_eq_true rfl) ⟨Nat.le_of_ble_eq_true rfl, Nat.le_of_ble_eq_true rfl, Nat.le_add_right _ _, Nat.le_add_right _ _⟩ dX10_keep_13 (fun c2 h => ?_)
  refine go_aload_n (pc := 16) dX10_keep_16 rfl rfl ?_
  refine go_aload_n (pc := 17) dX10_keep_17 rfl rfl ?_
  refine go_sipush (pc := 18) (v := 6100) dX10_keep_18 (by decide) ?_
  refine go_sipush (pc := 21) (v := 6100) dX10_keep_21 (by decide) ?_
  refine go_aload_n (pc := 24) dX10_keep_24 rfl rfl ?_
  refine go_iconst (pc := 25) (v := 0) dX10_keep_25 (by decide) ?_
  refine gb_iald (pc := 26) (gz_b (by decide)) yw3 (gv_in (by decide)) dX10_keep_26 (fun v3 ev3 => ?_)
  have h := h v3 ev3
  refine go_iadd (pc := 27) dX10_keep_27 ?_
  refine gq_callS_v (pc := 28) (F := wM G o) sX10_295 rfl (tX10_moves_77_75 h) rfl rfl (Nat.le_of_ble_eq_true rfl) ⟨Nat.le_of_ble_eq_true rfl, Nat.le_of_ble_eq_true rfl, Nat.le_add_right _ _, Nat.le_add_right _ _⟩ dX10_keep_28 (fun c4 h => ?_)
  refine go_aload_n (pc := 31) dX10_keep_31 rfl rfl ?_
  refine go_aload_n (pc := 32) dX10_keep_32 rfl rfl ?_
  refine go_sipush (pc := 33) (v := 10100) dX10_keep_33 (by decide) ?_
  refine go_sipush (pc := 36) (v := 10100) dX10_keep_36 (by decide) ?_
  refine go_aload_n (pc := 39) dX10_keep_39 rfl rfl ?_
  refine go_bipush (pc := 40) (v := 15) dX10_keep_40 (by decide) ?_
  refine gb_iald (pc := 42) (gz_b (by decide)) yw3 (gv_in (by decide)) dX10_keep_42 (fun v5 ev5 => ?_)
  have h := h v5 ev5
  refine go_iadd (pc := 43) dX10_keep_43 ?_
  refine gq_callS_v (pc := 44) (F := wM G o) sX10_295 rfl (tX10_moves_77_75 h) rfl rfl (Nat.le_of_ble_eq_true rfl) ⟨Nat.le_of_ble_eq_true rfl, Nat.le_of_ble_eq_true rfl, Nat.le_add_right _ _, Nat.le_add_right _ _⟩ dX10_keep_44 (fun c6 h => ?_)
  refine go_aload_n (pc := 47) dX10_keep_47 rfl rfl ?_
  refine go_aload_n (pc := 48) dX10_keep_48 rfl rfl ?_
  refine go_sipush (pc := 49) (v := 18100) dX10_keep_49 (by decide) ?_
  refine go_sipush (pc := 52) (v := 18100) dX10_keep_52 (by decide) ?_
  refine go_aload_n (pc := 55) dX10_keep_55 rfl rfl ?_
  refine go_bipush (pc := 56) (v := 15) dX10_keep_56 (by decide) ?_
  refine gb_iald (pc := 58) (gz_b (by decide)) yw3 (gv_in (by decide)) dX10_keep_58 (fun v7 ev7 => ?_)
  have h := h v7 ev7
  refine go_iadd (pc := 59) dX10_keep_59 ?_
  refine gq_callS_v (pc := 60) (F := wM G o) sX10_295 rfl (tX10_moves_77_75 h) rfl rfl (Nat.le_of_ble_eq_true rfl) ⟨Nat.le_of_ble_eq_true rfl, Nat.le_of_ble_eq_true rfl, Nat.le_add_right _ _, Nat.le_add_right _ _⟩ dX10_keep_60 (fun c8 h => ?_)
  exact gq_vret (pc := 63) (F := wM G o) rfl dX10_keep_63 h
def wX10_undoStep (c : gMem) (Q : Int32 → gMem → Prop) : Prop :=
  ∀ v1, v1 = c 0 4 →
  ((v1 = 0 →
    Q ((-104)) c) ∧
   (¬ v1 = 0 →
    wX10_keep_77_75 c (fun c3 =>
    ∀ c4, c4 = mp c3 0 4 0 →
    Q 1 c4)))
set_option maxRecDepth 100000 in
set_option maxHeartbeats 4000000 in
theorem tX10_undoStep {l : Launch} {G : gG} {k : Nat} {o : gMem} {Q : Int32 → gMem → Prop} {c : gMem} (h : wX10_undoStep c Q) : Cq l G mX10_undoStep 2 45 [.ref (G.2.1 + 74)] 84 k (wM G o c) (qi (wM G o) Q) := by
  refine Cq.of (by decide) (Nat.le_of_ble_eq_true rfl) ?_
  show Go l G mX10_undoStep (gbq G 2 45 84 k (qi (wM G o) Q)) 0 [(0, .ref (G.2.1 + 74))] [] 84 k (wM G o c)
  unfold wX10_undoStep at h
  refine go_aload_n (pc := 0) dX10_undoStep_0 rfl rfl ?_
  refine gb_get (pc := 1) fX10_46 rfl (gz_b (by decide)) yw0 rfl dX10_undoStep_1 (fun v1 ev1 => ?_)
  have h := h v1 ev1
  refine go_if_ne (pc := 4) (tgt := 10) dX10_undoStep_4 (by decide) (fun q2 => ?_) (fun q2 => ?_)
  · have h := h.2 q2
    refine go_aload_n (pc := 10) dX10_undoStep_10 rfl rfl ?_
    refine go_get (pc := 11) fX10_16 rfl (gz_b (by decide)) yw0 rfl dX10_undoStep_11 ?_
    refine go_aload_n (pc := 14) dX10_undoStep_14 rfl rfl ?_
    refine go_get (pc := 15) fX10_9 rfl (gz_b (by decide)) yw0 rfl dX10_undoStep_15 ?_
    refine gq_callS_v (pc := 18) (F := wM G o) sX10_299 rfl (tX10_keep_77_75 h) rfl rfl (Nat.le_of_ble_eq_true rfl) ⟨Nat.le_of_ble_eq_true rfl, Nat.le_of_ble_eq_true rfl, Nat.le_add_right _ _, Nat.le_add_right _ _⟩ dX10_undoStep_18 (fun c3 h => ?_)
    refine go_aload_n (pc := 21) dX10_undoStep_21 rfl rfl ?_
    refine go_iconst (pc := 22) (v := 0) dX10_undoStep_22 (by decide) ?_
    refine gb_put (pc := 23) (F := wM G o) fX10_46 rfl (gz_b (by decide)) yw0 (Nat.le_of_ble_eq_true rfl) rfl rfl yp0_4 dX10_undoStep_23 (fun c4 ec4 => ?_)
    have h := h c4 ec4
    refine go_iconst (pc := 26) (v := 1) dX10_undoStep_26 (by decide) ?_
    exact gq_iret (pc := 27) (F := wM G o) rfl dX10_undoStep_27 h
  · have h := h.1 q2
    refine go_bipush (pc := 7) (v := (-104)) dX10_undoStep_7 (by decide) ?_
    exact gq_iret (pc := 9) (F := wM G o) rfl dX10_undoStep_9 h
def wX10_finding (c : gMem) (Q : Int32 → gMem → Prop) : Prop :=
  ∀ v1, v1 = c 0 5 →
  Q v1 c
set_option maxRecDepth 100000 in
set_option maxHeartbeats 4000000 in
theorem tX10_finding {l : Launch} {G : gG} {k : Nat} {o : gMem} {Q : Int32 → gMem → Prop} {c : gMem} (h : wX10_finding c Q) : Cq l G mX10_finding 0 0 [.ref (G.2.1 + 74)] 84 k (wM G o c) (qi (wM G o) Q) := by
  refine Cq.of (by decide) (Nat.le_of_ble_eq_true rfl) ?_
  show Go l G mX10_finding (gbq G 0 0 84 k (qi (wM G o) Q)) 0 [(0, .ref (G.2.1 + 74))] [] 84 k (wM G o c)
  unfold wX10_finding at h
  refine go_aload_n (pc := 0) dX10_finding_0 rfl rfl ?_
  refine gb_get (pc := 1) fX10_49 rfl (gz_b (by decide)) yw0 rfl dX10_finding_1 (fun v1 ev1 => ?_)
  have h := h v1 ev1
  exact gq_iret (pc := 4) (F := wM G o) rfl dX10_finding_4 h
def wX10_trace (l1 : Int32) (c : gMem) (Q : Int32 → gMem → Prop) : Prop :=
  wX10_in l1.toInt64 0 13 c (fun r2 c1 =>
  ((r2 = 0 →
    Q ((-101)) c1) ∧
   (¬ r2 = 0 →
    vp_in l1 14 ∧
    ∀ v4, v4 = c1 4 l1.toNatClampNeg →
    Q v4 c1)))
set_option maxRecDepth 100000 in
set_option maxHeartbeats 4000000 in
theorem tX10_trace {l : Launch} {G : gG} {k : Nat} {o : gMem} {Q : Int32 → gMem → Prop} {l1 : Int32} {c : gMem} (h : wX10_trace l1 c Q) : Cq l G mX10_trace 1 25 [.ref (G.2.1 + 74), .int l1] 84 k (wM G o c) (qi (wM G o) Q) := by
  refine Cq.of (by decide) (Nat.le_of_ble_eq_true rfl) ?_
  show Go l G mX10_trace (gbq G 1 25 84 k (qi (wM G o) Q)) 0 [(0, .ref (G.2.1 + 74)), (1, .int l1)] [] 84 k (wM G o c)
  unfold wX10_trace at h
  refine go_iload_n (pc := 0) dX10_trace_0 rfl rfl ?_
  refine go_i2l (pc := 1) dX10_trace_1 ?_
  refine go_lconst (pc := 2) (v := 0) dX10_trace_2 (by decide) ?_
  refine go_ldc2 (pc := 3) rfl qX10_303 dX10_trace_3 ?_
  refine gq_callS_i (pc := 6) (F := wM G o) sX10_63 rfl (tX10_in h) rfl rfl (Nat.le_of_ble_eq_true rfl) ⟨Nat.le_of_ble_eq_true rfl, Nat.le_of_ble_eq_true rfl, Nat.le_add_right _ _, Nat.le_add_right _ _⟩ dX10_trace_6 (fun r2 c1 h => ?_)
  refine go_if_eq (pc := 9) (tgt := 21) dX10_trace_9 (by decide) (fun q3 => ?_) (fun q3 => ?_)
  · have h := h.1 q3
    refine go_bipush (pc := 21) (v := (-101)) dX10_trace_21 (by decide) ?_
    exact gq_iret (pc := 23) (F := wM G o) rfl dX10_trace_23 h
  · have h := h.2 q3
    refine go_aload_n (pc := 12) dX10_trace_12 rfl rfl ?_
    refine go_get (pc := 13) fX10_19 rfl (gz_b (by decide)) yw0 rfl dX10_trace_13 ?_
    refine go_iload_n (pc := 16) dX10_trace_16 rfl rfl ?_
    obtain ⟨b5, h⟩ := h
    refine gb_iald (pc := 17) (gz_b (by decide)) yw4 b5 dX10_trace_17 (fun v4 ev4 => ?_)
    have h := h v4 ev4
    refine go_goto (pc := 18) (tgt := 23) dX10_trace_18 (by decide) ?_
    exact gq_iret (pc := 23) (F := wM G o) rfl dX10_trace_23 h

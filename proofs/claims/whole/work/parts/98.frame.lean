/-! calls that leave the program's numbers as they are (printed by frgen.py) -/
theorem sw_0_5 (x : Int32) : (x.toInt < 0 ∨ 5 < x.toInt) ∨ x = 0 ∨ x = 1 ∨ x = 2 ∨ x = 3 ∨ x = 4 ∨ x = 5 := by
  rcases pk_ix x (n := 6) (by decide) with q | q | ⟨j, hj, rfl⟩
  · have := Int32.lt_iff_toInt_lt.mp q
    have z : (0 : Int32).toInt = 0 := by decide
    exact Or.inl (Or.inl (by omega))
  · have := Int32.le_iff_toInt_le.mp q
    rw [nI_toInt (by decide)] at this
    exact Or.inl (Or.inr (by omega))
  · rcases (by omega : j = 0 ∨ j = 1 ∨ j = 2 ∨ j = 3 ∨ j = 4 ∨ j = 5) with rfl | rfl | rfl | rfl | rfl | rfl <;> decide
theorem sw_1_5 (x : Int32) : (x.toInt < 1 ∨ 5 < x.toInt) ∨ x = 1 ∨ x = 2 ∨ x = 3 ∨ x = 4 ∨ x = 5 := by
  rcases pk_ix x (n := 6) (by decide) with q | q | ⟨j, hj, rfl⟩
  · have := Int32.lt_iff_toInt_lt.mp q
    have z : (0 : Int32).toInt = 0 := by decide
    exact Or.inl (Or.inl (by omega))
  · have := Int32.le_iff_toInt_le.mp q
    rw [nI_toInt (by decide)] at this
    exact Or.inl (Or.inr (by omega))
  · rcases (by omega : j = 0 ∨ j = 1 ∨ j = 2 ∨ j = 3 ∨ j = 4 ∨ j = 5) with rfl | rfl | rfl | rfl | rfl | rfl <;> decide
theorem fr_wX2_has {l1 : Int32} {c : gMem} {Q : Int32 → gMem → Prop} (h : wX2_has  l1 c Q) : ∃ r c', Q r c' ∧ c' 17 = c 17 := by
  unfold wX2_has at h
  by_cases hc : l1 < 0
  · have h := h.1 hc
    exact ⟨_, c, h, rfl⟩
  · have h := h.2 hc
    obtain ⟨v2, ev2⟩ : ∃ x, x = c 2 2 := ⟨_, rfl⟩
    have h := h v2 ev2
    by_cases hc : v2 ≤ l1
    · have h := h.1 hc
      exact ⟨_, c, h, rfl⟩
    · have h := h.2 hc
      have h := h.2
      obtain ⟨v4, ev4⟩ : ∃ x, x = c 4 l1.toNatClampNeg := ⟨_, rfl⟩
      have h := h v4 ev4
      by_cases hc : v4 < 0
      · have h := h.1 hc
        exact ⟨_, c, h, rfl⟩
      · have h := h.2 hc
        exact ⟨_, c, h, rfl⟩
theorem fr_wX2_isA {l1 : Int32} {l2 : Int32} {c : gMem} {Q : Int32 → gMem → Prop} (h : wX2_isA  l1 l2 c Q) : ∃ r c', Q r c' ∧ c' 17 = c 17 := by
  unfold wX2_isA at h
  have h := h.2
  obtain ⟨v1, ev1⟩ : ∃ x, x = (gs_n 0).2.2.getD l1.toNatClampNeg 0 := ⟨_, rfl⟩
  have h := h v1 ev1
  have h := h.2
  obtain ⟨v3, ev3⟩ : ∃ x, x = c 4 l2.toNatClampNeg := ⟨_, rfl⟩
  have h := h v3 ev3
  have h := h.2
  obtain ⟨v5, ev5⟩ : ∃ x, x = c 3 v3.toNatClampNeg := ⟨_, rfl⟩
  have h := h v5 ev5
  by_cases hc : (v1 >>> ((v5 &&& 7) &&& 31)) &&& 1 = 1
  · have h := h.1 hc
    exact ⟨_, c, h, rfl⟩
  · have h := h.2 hc
    exact ⟨_, c, h, rfl⟩
theorem fr_wX0_wrongForLinks {l1 : Int32} {c : gMem} {Q : Int32 → gMem → Prop} (h : wX0_wrongForLinks  l1 c Q) : ∃ r c', Q r c' ∧ c' 17 = c 17 := by
  unfold wX0_wrongForLinks at h
  obtain ⟨r2, c1, h, fc1⟩ := fr_wX2_has h
  have fc1 : c1 17 = c 17 := fc1.trans rfl
  by_cases hc : r2 = 0
  · have h := h.1 hc
    exact ⟨_, c1, h, fc1⟩
  · have h := h.2 hc
    obtain ⟨r5, c4, h, fc4⟩ := fr_wX2_isA h
    have fc4 : c4 17 = c 17 := fc4.trans (fc1)
    by_cases hc : r5 = 0
    · have h := h.1 hc
      exact ⟨_, c4, h, fc4⟩
    · have h := h.2 hc
      exact ⟨_, c4, h, fc4⟩
theorem fr_wX0_isGoneTarget {l1 : Int32} {c : gMem} {Q : Int32 → gMem → Prop} (h : wX0_isGoneTarget  l1 c Q) : ∃ r c', Q r c' ∧ c' 17 = c 17 := by
  unfold wX0_isGoneTarget at h
  by_cases hc : l1 = (-1)
  · have h := h.1 hc
    exact ⟨_, c, h, rfl⟩
  · have h := h.2 hc
    obtain ⟨r3, c2, h, fc2⟩ := fr_wX2_has h
    have fc2 : c2 17 = c 17 := fc2.trans rfl
    by_cases hc : r3 = 0
    · have h := h.1 hc
      exact ⟨_, c2, h, fc2⟩
    · have h := h.2 hc
      exact ⟨_, c2, h, fc2⟩
theorem fr_wX2_linksOf_p56 {l1 : Int32} {c : gMem} {Q : Int32 → gMem → Prop} (h : wX2_linksOf_p56  l1 c Q) : ∃ r c', Q r c' ∧ c' 17 = c 17 := by
  unfold wX2_linksOf_p56 at h
  have h := h.2
  obtain ⟨v1, ev1⟩ : ∃ x, x = c 4 l1.toNatClampNeg := ⟨_, rfl⟩
  have h := h v1 ev1
  have h := h.2
  obtain ⟨v3, ev3⟩ : ∃ x, x = c 3 (v1 + 1).toNatClampNeg := ⟨_, rfl⟩
  have h := h v3 ev3
  exact ⟨_, c, h, rfl⟩
theorem fr_wX2_linksOf {l1 : Int32} {c : gMem} {Q : Int32 → gMem → Prop} (h : wX2_linksOf  l1 c Q) : ∃ r c', Q r c' ∧ c' 17 = c 17 := by
  unfold wX2_linksOf at h
  have h := h.2
  obtain ⟨v1, ev1⟩ : ∃ x, x = c 4 l1.toNatClampNeg := ⟨_, rfl⟩
  have h := h v1 ev1
  have h := h.2
  obtain ⟨v3, ev3⟩ : ∃ x, x = c 3 v1.toNatClampNeg := ⟨_, rfl⟩
  have h := h v3 ev3
  rcases sw_0_5 ((v3 &&& 7)) with hc | hc | hc | hc | hc | hc | hc
  · have h := h.1 hc
    exact ⟨_, c, h, rfl⟩
  · have h := h.2.1 hc
    exact ⟨_, c, h, rfl⟩
  · have h := h.2.2.1 hc
    obtain ⟨rr, cc, h, fcc⟩ := fr_wX2_linksOf_p56 h
    exact ⟨rr, cc, h, fcc.trans rfl⟩
  · have h := h.2.2.2.1 hc
    exact ⟨_, c, h, rfl⟩
  · have h := h.2.2.2.2.1 hc
    exact ⟨_, c, h, rfl⟩
  · have h := h.2.2.2.2.2.1 hc
    exact ⟨_, c, h, rfl⟩
  · have h := h.2.2.2.2.2.2 hc
    obtain ⟨rr, cc, h, fcc⟩ := fr_wX2_linksOf_p56 h
    exact ⟨rr, cc, h, fcc.trans rfl⟩
theorem fr_wX2_linkPlace_p36 {s0 : Int32} {s1 : Int32} {c : gMem} {Q : Int32 → gMem → Prop} (h : wX2_linkPlace_p36  s0 s1 c Q) : ∃ r c', Q r c' ∧ c' 17 = c 17 := by
  unfold wX2_linkPlace_p36 at h
  exact ⟨_, c, h, rfl⟩
theorem fr_wX2_linkPlace_p31 {s0 : Int32} {c : gMem} {Q : Int32 → gMem → Prop} (h : wX2_linkPlace_p31  s0 c Q) : ∃ r c', Q r c' ∧ c' 17 = c 17 := by
  unfold wX2_linkPlace_p31 at h
  obtain ⟨rr, cc, h, fcc⟩ := fr_wX2_linkPlace_p36 h
  exact ⟨rr, cc, h, fcc.trans rfl⟩
theorem fr_wX2_linkPlace {l1 : Int32} {c : gMem} {Q : Int32 → gMem → Prop} (h : wX2_linkPlace  l1 c Q) : ∃ r c', Q r c' ∧ c' 17 = c 17 := by
  unfold wX2_linkPlace at h
  have h := h.2
  obtain ⟨v1, ev1⟩ : ∃ x, x = c 4 l1.toNatClampNeg := ⟨_, rfl⟩
  have h := h v1 ev1
  have h := h.2
  obtain ⟨v3, ev3⟩ : ∃ x, x = c 3 v1.toNatClampNeg := ⟨_, rfl⟩
  have h := h v3 ev3
  have h := h.2
  obtain ⟨v5, ev5⟩ : ∃ x, x = c 4 l1.toNatClampNeg := ⟨_, rfl⟩
  have h := h v5 ev5
  by_cases hc : v3 &&& 7 = 1
  · have h := h.1 hc
    obtain ⟨rr, cc, h, fcc⟩ := fr_wX2_linkPlace_p31 h
    exact ⟨rr, cc, h, fcc.trans rfl⟩
  · have h := h.2 hc
    by_cases hc : v3 &&& 7 = 5
    · have h := h.1 hc
      obtain ⟨rr, cc, h, fcc⟩ := fr_wX2_linkPlace_p31 h
      exact ⟨rr, cc, h, fcc.trans rfl⟩
    · have h := h.2 hc
      obtain ⟨rr, cc, h, fcc⟩ := fr_wX2_linkPlace_p36 h
      exact ⟨rr, cc, h, fcc.trans rfl⟩
theorem fr_wX3_add {l1 : Int32} {l2 : Int32} {l3 : Int32} {l4 : Int32} {c : gMem} {Q : gMem → Prop} (h : wX3_add  l1 l2 l3 l4 c Q) : ∃ c', Q c' ∧ c' 17 = c 17 := by
  unfold wX3_add at h
  have h := h.2
  obtain ⟨v1, ev1⟩ : ∃ x, x = c 8 l1.toNatClampNeg := ⟨_, rfl⟩
  have h := h v1 ev1
  by_cases hc : v1 = 0
  · have h := h.1 hc
    obtain ⟨v4, ev4⟩ : ∃ x, x = c 6 1 := ⟨_, rfl⟩
    have h := h v4 ev4
    by_cases hc : v4 < 500
    · have h := h.1 hc
      obtain ⟨v6, ev6⟩ : ∃ x, x = c 6 1 := ⟨_, rfl⟩
      have h := h v6 ev6
      have h := h.2
      obtain ⟨c7, ec7⟩ : ∃ x, x = mp c 7 v6.toNatClampNeg l1 := ⟨_, rfl⟩
      have h := h c7 ec7
      have fc7 : c7 17 = c 17 := (congrFun ec7 17).trans ((mp_n (by decide)).trans rfl)
      obtain ⟨v9, ev9⟩ : ∃ x, x = c7 6 1 := ⟨_, rfl⟩
      have h := h v9 ev9
      obtain ⟨c10, ec10⟩ : ∃ x, x = mp c7 6 1 (v9 + 1) := ⟨_, rfl⟩
      have h := h c10 ec10
      have fc10 : c10 17 = c 17 := (congrFun ec10 17).trans ((mp_n (by decide)).trans fc7)
      obtain ⟨v11, ev11⟩ : ∃ x, x = c10 6 1 := ⟨_, rfl⟩
      have h := h v11 ev11
      have h := h.2
      obtain ⟨c12, ec12⟩ : ∃ x, x = mp c10 8 l1.toNatClampNeg v11 := ⟨_, rfl⟩
      have h := h c12 ec12
      have fc12 : c12 17 = c 17 := (congrFun ec12 17).trans ((mp_n (by decide)).trans fc10)
      have h := h.2
      obtain ⟨c14, ec14⟩ : ∃ x, x = mp c12 9 l1.toNatClampNeg l2 := ⟨_, rfl⟩
      have h := h c14 ec14
      have fc14 : c14 17 = c 17 := (congrFun ec14 17).trans ((mp_n (by decide)).trans fc12)
      have h := h.2
      obtain ⟨c16, ec16⟩ : ∃ x, x = mp c14 10 l1.toNatClampNeg l3 := ⟨_, rfl⟩
      have h := h c16 ec16
      have fc16 : c16 17 = c 17 := (congrFun ec16 17).trans ((mp_n (by decide)).trans fc14)
      have h := h.2
      obtain ⟨c18, ec18⟩ : ∃ x, x = mp c16 11 l1.toNatClampNeg l4 := ⟨_, rfl⟩
      have h := h c18 ec18
      have fc18 : c18 17 = c 17 := (congrFun ec18 17).trans ((mp_n (by decide)).trans fc16)
      exact ⟨c18, h, fc18⟩
    · have h := h.2 hc
      exact ⟨c, h, rfl⟩
  · have h := h.2 hc
    exact ⟨c, h, rfl⟩
theorem fr_wX7_mark {l1 : Int32} {l2 : Int32} {l3 : Int32} {l4 : Int32} {c : gMem} {Q : gMem → Prop} (h : wX7_mark  l1 l2 l3 l4 c Q) : ∃ c', Q c' ∧ c' 17 = c 17 := by
  unfold wX7_mark at h
  obtain ⟨v1, ev1⟩ : ∃ x, x = c 6 0 := ⟨_, rfl⟩
  have h := h v1 ev1
  by_cases hc : v1 = 0
  · have h := h.1 hc
    exact ⟨c, h, rfl⟩
  · have h := h.2 hc
    obtain ⟨r4, c3, h, fc3⟩ := fr_wX2_has h
    have fc3 : c3 17 = c 17 := fc3.trans rfl
    by_cases hc : r4 = 0
    · have h := h.1 hc
      exact ⟨c3, h, fc3⟩
    · have h := h.2 hc
      obtain ⟨c6, h, fc6⟩ := fr_wX3_add h
      have fc6 : c6 17 = c 17 := fc6.trans (fc3)
      exact ⟨c6, h, fc6⟩
theorem fr_wX0_changeLink {l1 : Int32} {l2 : Int32} {l3 : Int32} {c : gMem} {Q : gMem → Prop} (h : wX0_changeLink  l1 l2 l3 c Q) : ∃ c', Q c' ∧ c' 17 = c 17 := by
  unfold wX0_changeLink at h
  obtain ⟨r2, c1, h, fc1⟩ := fr_wX2_linkPlace h
  have fc1 : c1 17 = c 17 := fc1.trans rfl
  have h := h.2
  obtain ⟨v3, ev3⟩ : ∃ x, x = c1 3 (r2 + l2).toNatClampNeg := ⟨_, rfl⟩
  have h := h v3 ev3
  obtain ⟨c5, h, fc5⟩ := fr_wX7_mark h
  have fc5 : c5 17 = c 17 := fc5.trans (fc1)
  have h := h.2
  obtain ⟨c6, ec6⟩ : ∃ x, x = mp c5 3 (r2 + l2).toNatClampNeg l3 := ⟨_, rfl⟩
  have h := h c6 ec6
  have fc6 : c6 17 = c 17 := (congrFun ec6 17).trans ((mp_n (by decide)).trans fc5)
  obtain ⟨c8, h, fc8⟩ := fr_wX7_mark h
  have fc8 : c8 17 = c 17 := fc8.trans (fc6)
  exact ⟨c8, h, fc8⟩
theorem fr_wX0_setLink {l1 : Int32} {l2 : Int32} {l3 : Int32} {c : gMem} {Q : Int32 → gMem → Prop} (h : wX0_setLink  l1 l2 l3 c Q) : ∃ r c', Q r c' ∧ c' 17 = c 17 := by
  unfold wX0_setLink at h
  obtain ⟨r2, c1, h, fc1⟩ := fr_wX0_wrongForLinks h
  have fc1 : c1 17 = c 17 := fc1.trans rfl
  by_cases hc : r2 = 0
  · have h := h.1 hc
    obtain ⟨r5, c4, h, fc4⟩ := fr_wX0_isGoneTarget h
    have fc4 : c4 17 = c 17 := fc4.trans (fc1)
    by_cases hc : r5 = 0
    · have h := h.1 hc
      by_cases hc : l2 < 0
      · have h := h.1 hc
        exact ⟨_, c4, h, fc4⟩
      · have h := h.2 hc
        obtain ⟨r9, c8, h, fc8⟩ := fr_wX2_linksOf h
        have fc8 : c8 17 = c 17 := fc8.trans (fc4)
        by_cases hc : l2 < r9
        · have h := h.1 hc
          obtain ⟨c11, h, fc11⟩ := fr_wX0_changeLink h
          have fc11 : c11 17 = c 17 := fc11.trans (fc8)
          exact ⟨_, c11, h, fc11⟩
        · have h := h.2 hc
          exact ⟨_, c8, h, fc8⟩
    · have h := h.2 hc
      exact ⟨_, c4, h, fc4⟩
  · have h := h.2 hc
    exact ⟨_, c1, h, fc1⟩
theorem fr_wX0_linkOf_p28 {c : gMem} {Q : Int32 → gMem → Prop} (h : wX0_linkOf_p28   c Q) : ∃ r c', Q r c' ∧ c' 17 = c 17 := by
  unfold wX0_linkOf_p28 at h
  exact ⟨_, c, h, rfl⟩
theorem fr_wX0_linkOf {l1 : Int32} {l2 : Int32} {c : gMem} {Q : Int32 → gMem → Prop} (h : wX0_linkOf  l1 l2 c Q) : ∃ r c', Q r c' ∧ c' 17 = c 17 := by
  unfold wX0_linkOf at h
  obtain ⟨r2, c1, h, fc1⟩ := fr_wX0_wrongForLinks h
  have fc1 : c1 17 = c 17 := fc1.trans rfl
  by_cases hc : r2 = 0
  · have h := h.1 hc
    by_cases hc : l2 < 0
    · have h := h.1 hc
      obtain ⟨rr, cc, h, fcc⟩ := fr_wX0_linkOf_p28 h
      exact ⟨rr, cc, h, fcc.trans (fc1)⟩
    · have h := h.2 hc
      obtain ⟨r6, c5, h, fc5⟩ := fr_wX2_linksOf h
      have fc5 : c5 17 = c 17 := fc5.trans (fc1)
      by_cases hc : l2 < r6
      · have h := h.1 hc
        obtain ⟨r9, c8, h, fc8⟩ := fr_wX2_linkPlace h
        have fc8 : c8 17 = c 17 := fc8.trans (fc5)
        have h := h.2
        obtain ⟨v10, ev10⟩ : ∃ x, x = c8 3 (r9 + l2).toNatClampNeg := ⟨_, rfl⟩
        have h := h v10 ev10
        exact ⟨_, c8, h, fc8⟩
      · have h := h.2 hc
        obtain ⟨rr, cc, h, fcc⟩ := fr_wX0_linkOf_p28 h
        exact ⟨rr, cc, h, fcc.trans (fc5)⟩
  · have h := h.2 hc
    exact ⟨_, c1, h, fc1⟩
theorem fr_wX0_setRoot {l1 : Int32} {l2 : Int32} {c : gMem} {Q : Int32 → gMem → Prop} (h : wX0_setRoot  l1 l2 c Q) : ∃ r c', Q r c' ∧ c' 17 = c 17 := by
  unfold wX0_setRoot at h
  obtain ⟨r2, c1, h, fc1⟩ := fr_wX0_isGoneTarget h
  have fc1 : c1 17 = c 17 := fc1.trans rfl
  by_cases hc : r2 = 0
  · have h := h.1 hc
    have h := h.2
    obtain ⟨v4, ev4⟩ : ∃ x, x = c1 20 l1.toNatClampNeg := ⟨_, rfl⟩
    have h := h v4 ev4
    have h := h.2
    obtain ⟨c6, ec6⟩ : ∃ x, x = mp c1 20 l1.toNatClampNeg l2 := ⟨_, rfl⟩
    have h := h c6 ec6
    have fc6 : c6 17 = c 17 := (congrFun ec6 17).trans ((mp_n (by decide)).trans fc1)
    obtain ⟨c8, h, fc8⟩ := fr_wX7_mark h
    have fc8 : c8 17 = c 17 := fc8.trans (fc6)
    exact ⟨_, c8, h, fc8⟩
  · have h := h.2 hc
    exact ⟨_, c1, h, fc1⟩
theorem fr_wX0_wrongAs {l1 : Int32} {l2 : Int32} {c : gMem} {Q : Int32 → gMem → Prop} (h : wX0_wrongAs  l1 l2 c Q) : ∃ r c', Q r c' ∧ c' 17 = c 17 := by
  unfold wX0_wrongAs at h
  obtain ⟨r2, c1, h, fc1⟩ := fr_wX2_has h
  have fc1 : c1 17 = c 17 := fc1.trans rfl
  by_cases hc : r2 = 0
  · have h := h.1 hc
    exact ⟨_, c1, h, fc1⟩
  · have h := h.2 hc
    obtain ⟨r5, c4, h, fc4⟩ := fr_wX2_isA h
    have fc4 : c4 17 = c 17 := fc4.trans (fc1)
    by_cases hc : r5 = 0
    · have h := h.1 hc
      exact ⟨_, c4, h, fc4⟩
    · have h := h.2 hc
      exact ⟨_, c4, h, fc4⟩
theorem fr_wX2_weakPlace {l1 : Int32} {c : gMem} {Q : Int32 → gMem → Prop} (h : wX2_weakPlace  l1 c Q) : ∃ r c', Q r c' ∧ c' 17 = c 17 := by
  unfold wX2_weakPlace at h
  have h := h.2
  obtain ⟨v1, ev1⟩ : ∃ x, x = c 4 l1.toNatClampNeg := ⟨_, rfl⟩
  have h := h v1 ev1
  exact ⟨_, c, h, rfl⟩
theorem fr_wX0_lookAt {l1 : Int32} {c : gMem} {Q : Int32 → gMem → Prop} (h : wX0_lookAt  l1 c Q) : ∃ r c', Q r c' ∧ c' 17 = c 17 := by
  unfold wX0_lookAt at h
  obtain ⟨r2, c1, h, fc1⟩ := fr_wX0_wrongAs h
  have fc1 : c1 17 = c 17 := fc1.trans rfl
  by_cases hc : r2 = 0
  · have h := h.1 hc
    obtain ⟨r5, c4, h, fc4⟩ := fr_wX2_weakPlace h
    have fc4 : c4 17 = c 17 := fc4.trans (fc1)
    have h := h.2
    obtain ⟨v6, ev6⟩ : ∃ x, x = c4 3 r5.toNatClampNeg := ⟨_, rfl⟩
    have h := h v6 ev6
    obtain ⟨c8, h, fc8⟩ := fr_wX7_mark h
    have fc8 : c8 17 = c 17 := fc8.trans (fc4)
    exact ⟨_, c8, h, fc8⟩
  · have h := h.2 hc
    exact ⟨_, c1, h, fc1⟩
theorem fr_wX0_setWeakLink {l1 : Int32} {l2 : Int32} {c : gMem} {Q : Int32 → gMem → Prop} (h : wX0_setWeakLink  l1 l2 c Q) : ∃ r c', Q r c' ∧ c' 17 = c 17 := by
  unfold wX0_setWeakLink at h
  obtain ⟨r2, c1, h, fc1⟩ := fr_wX0_wrongAs h
  have fc1 : c1 17 = c 17 := fc1.trans rfl
  by_cases hc : r2 = 0
  · have h := h.1 hc
    obtain ⟨r5, c4, h, fc4⟩ := fr_wX0_isGoneTarget h
    have fc4 : c4 17 = c 17 := fc4.trans (fc1)
    by_cases hc : r5 = 0
    · have h := h.1 hc
      obtain ⟨r8, c7, h, fc7⟩ := fr_wX2_weakPlace h
      have fc7 : c7 17 = c 17 := fc7.trans (fc4)
      have h := h.2
      obtain ⟨c9, ec9⟩ : ∃ x, x = mp c7 3 r8.toNatClampNeg l2 := ⟨_, rfl⟩
      have h := h c9 ec9
      have fc9 : c9 17 = c 17 := (congrFun ec9 17).trans ((mp_n (by decide)).trans fc7)
      exact ⟨_, c9, h, fc9⟩
    · have h := h.2 hc
      exact ⟨_, c4, h, fc4⟩
  · have h := h.2 hc
    exact ⟨_, c1, h, fc1⟩
theorem fr_wX0_copyLinks_p88 {l1 : Int32} {l2 : Int32} {l3 : Int32} {l4 : Int32} {l5 : Int32} {l6 : Int32} {l7 : Int32} {l8 : Int32} {c : gMem} {Q : Int32 → gMem → Prop} (h : wX0_copyLinks_p88  l1 l2 l3 l4 l5 l6 l7 l8 c Q) : ∃ r c', Q r c' ∧ c' 17 = c 17 := by
  refine h (fun _ _ _ _ _ _ _ _ c => ∃ r c', Q r c' ∧ c' 17 = c 17) ?_
  intro l1 l2 l3 l4 l5 l6 l7 l8 c h
  unfold wX0_copyLinks_p88_b at h
  by_cases hc : l5 ≤ l8
  · have h := h.1 hc
    exact ⟨_, c, h, rfl⟩
  · have h := h.2 hc
    by_cases hc : l2 < 0
    · have h := h.1 hc
      exact ⟨_, c, h, rfl⟩
    · have h := h.2 hc
      by_cases hc : l6 - l8 ≤ l2
      · have h := h.1 hc
        exact ⟨_, c, h, rfl⟩
      · have h := h.2 hc
        by_cases hc : l4 < 0
        · have h := h.1 hc
          exact ⟨_, c, h, rfl⟩
        · have h := h.2 hc
          by_cases hc : l4 < l7 - l8
          · have h := h.1 hc
            obtain ⟨r7, c6, h, fc6⟩ := fr_wX2_linkPlace h
            have fc6 : c6 17 = c 17 := fc6.trans rfl
            have h := h.2
            obtain ⟨v8, ev8⟩ : ∃ x, x = c6 3 ((r7 + l2) + l8).toNatClampNeg := ⟨_, rfl⟩
            have h := h v8 ev8
            obtain ⟨c10, h, fc10⟩ := fr_wX0_changeLink h
            have fc10 : c10 17 = c 17 := fc10.trans (fc6)
            obtain ⟨v11, ev11⟩ : ∃ x, x = c10 69 3 := ⟨_, rfl⟩
            have h := h v11 ev11
            obtain ⟨c12, ec12⟩ : ∃ x, x = mp c10 69 3 (v11 + 1) := ⟨_, rfl⟩
            have h := h c12 ec12
            have fc12 : c12 17 = c 17 := (congrFun ec12 17).trans ((mp_n (by decide)).trans fc10)
            obtain ⟨rr, cc, h, fcc⟩ := h
            exact ⟨rr, cc, h, fcc.trans (fc12)⟩
          · have h := h.2 hc
            exact ⟨_, c, h, rfl⟩
theorem fr_wX0_copyLinks {l1 : Int32} {l2 : Int32} {l3 : Int32} {l4 : Int32} {l5 : Int32} {c : gMem} {Q : Int32 → gMem → Prop} (h : wX0_copyLinks  l1 l2 l3 l4 l5 c Q) : ∃ r c', Q r c' ∧ c' 17 = c 17 := by
  unfold wX0_copyLinks at h
  obtain ⟨c1, ec1⟩ : ∃ x, x = mp c 69 3 0 := ⟨_, rfl⟩
  have h := h c1 ec1
  have fc1 : c1 17 = c 17 := (congrFun ec1 17).trans ((mp_n (by decide)).trans rfl)
  obtain ⟨r3, c2, h, fc2⟩ := fr_wX2_has h
  have fc2 : c2 17 = c 17 := fc2.trans (fc1)
  by_cases hc : r3 = 0
  · have h := h.1 hc
    exact ⟨_, c2, h, fc2⟩
  · have h := h.2 hc
    obtain ⟨r6, c5, h, fc5⟩ := fr_wX2_has h
    have fc5 : c5 17 = c 17 := fc5.trans (fc2)
    by_cases hc : r6 = 0
    · have h := h.1 hc
      exact ⟨_, c5, h, fc5⟩
    · have h := h.2 hc
      obtain ⟨r9, c8, h, fc8⟩ := fr_wX2_isA h
      have fc8 : c8 17 = c 17 := fc8.trans (fc5)
      by_cases hc : r9 = 0
      · have h := h.1 hc
        exact ⟨_, c8, h, fc8⟩
      · have h := h.2 hc
        obtain ⟨r12, c11, h, fc11⟩ := fr_wX2_isA h
        have fc11 : c11 17 = c 17 := fc11.trans (fc8)
        by_cases hc : r12 = 0
        · have h := h.1 hc
          exact ⟨_, c11, h, fc11⟩
        · have h := h.2 hc
          by_cases hc : 0 ≤ l5
          · have h := h.1 hc
            obtain ⟨r16, c15, h, fc15⟩ := fr_wX2_linksOf h
            have fc15 : c15 17 = c 17 := fc15.trans (fc11)
            obtain ⟨r18, c17, h, fc17⟩ := fr_wX2_linksOf h
            have fc17 : c17 17 = c 17 := fc17.trans (fc15)
            obtain ⟨rr, cc, h, fcc⟩ := fr_wX0_copyLinks_p88 h
            exact ⟨rr, cc, h, fcc.trans (fc17)⟩
          · have h := h.2 hc
            exact ⟨_, c11, h, fc11⟩
theorem fr_wX2_countOf {l1 : Int32} {c : gMem} {Q : Int32 → gMem → Prop} (h : wX2_countOf  l1 c Q) : ∃ r c', Q r c' ∧ c' 17 = c 17 := by
  unfold wX2_countOf at h
  have h := h.2
  obtain ⟨v1, ev1⟩ : ∃ x, x = c 4 l1.toNatClampNeg := ⟨_, rfl⟩
  have h := h v1 ev1
  have h := h.2
  obtain ⟨v3, ev3⟩ : ∃ x, x = c 3 (v1 + 1).toNatClampNeg := ⟨_, rfl⟩
  have h := h v3 ev3
  exact ⟨_, c, h, rfl⟩
theorem fr_wX0_byteOf {l1 : Int32} {l2 : Int32} {c : gMem} {Q : Int32 → gMem → Prop} (h : wX0_byteOf  l1 l2 c Q) : ∃ r c', Q r c' ∧ c' 17 = c 17 := by
  unfold wX0_byteOf at h
  obtain ⟨r2, c1, h, fc1⟩ := fr_wX0_wrongAs h
  have fc1 : c1 17 = c 17 := fc1.trans rfl
  by_cases hc : r2 = 0
  · have h := h.1 hc
    by_cases hc : l2 < 0
    · have h := h.1 hc
      exact ⟨_, c1, h, fc1⟩
    · have h := h.2 hc
      obtain ⟨r6, c5, h, fc5⟩ := fr_wX2_countOf h
      have fc5 : c5 17 = c 17 := fc5.trans (fc1)
      by_cases hc : l2 < r6
      · have h := h.1 hc
        have h := h.2
        obtain ⟨v8, ev8⟩ : ∃ x, x = c5 4 l1.toNatClampNeg := ⟨_, rfl⟩
        have h := h v8 ev8
        have h := h.2
        obtain ⟨v10, ev10⟩ : ∃ x, x = c5 3 ((v8 + 2) + (l2 / 4)).toNatClampNeg := ⟨_, rfl⟩
        have h := h v10 ev10
        exact ⟨_, c5, h, fc5⟩
      · have h := h.2 hc
        exact ⟨_, c5, h, fc5⟩
  · have h := h.2 hc
    exact ⟨_, c1, h, fc1⟩
theorem fr_wX0_setByte {l1 : Int32} {l2 : Int32} {l3 : Int32} {c : gMem} {Q : Int32 → gMem → Prop} (h : wX0_setByte  l1 l2 l3 c Q) : ∃ r c', Q r c' ∧ c' 17 = c 17 := by
  unfold wX0_setByte at h
  obtain ⟨r2, c1, h, fc1⟩ := fr_wX0_byteOf h
  have fc1 : c1 17 = c 17 := fc1.trans rfl
  by_cases hc : r2 < 0
  · have h := h.1 hc
    exact ⟨_, c1, h, fc1⟩
  · have h := h.2 hc
    have h := h.2
    obtain ⟨v4, ev4⟩ : ∃ x, x = c1 4 l1.toNatClampNeg := ⟨_, rfl⟩
    have h := h v4 ev4
    have h := h.2
    obtain ⟨v6, ev6⟩ : ∃ x, x = c1 3 ((v4 + 2) + (l2 / 4)).toNatClampNeg := ⟨_, rfl⟩
    have h := h v6 ev6
    have h := h.2
    obtain ⟨c8, ec8⟩ : ∃ x, x = mp c1 3 ((v4 + 2) + (l2 / 4)).toNatClampNeg ((v6 &&& ((255 <<< ((8 * (l2 - (l2 / 4) * 4)) &&& 31)) ^^^ ((-1)))) ||| ((l3 &&& 255) <<< ((8 * (l2 - (l2 / 4) * 4)) &&& 31))) := ⟨_, rfl⟩
    have h := h c8 ec8
    have fc8 : c8 17 = c 17 := (congrFun ec8 17).trans ((mp_n (by decide)).trans fc1)
    exact ⟨_, c8, h, fc8⟩
theorem fr_wX0_setShelf_p44 {l1 : Int32} {l2 : Int32} {l3 : Int32} {c : gMem} {Q : Int32 → gMem → Prop} (h : wX0_setShelf_p44  l1 l2 l3 c Q) : ∃ r c', Q r c' ∧ c' 17 = c 17 := by
  unfold wX0_setShelf_p44 at h
  have h := h.2
  obtain ⟨c1, ec1⟩ : ∃ x, x = mp c 21 ((l1 * 8) + l2).toNatClampNeg l3 := ⟨_, rfl⟩
  have h := h c1 ec1
  have fc1 : c1 17 = c 17 := (congrFun ec1 17).trans ((mp_n (by decide)).trans rfl)
  exact ⟨_, c1, h, fc1⟩
theorem fr_wX0_setShelf {l1 : Int32} {l2 : Int32} {l3 : Int32} {c : gMem} {Q : Int32 → gMem → Prop} (h : wX0_setShelf  l1 l2 l3 c Q) : ∃ r c', Q r c' ∧ c' 17 = c 17 := by
  unfold wX0_setShelf at h
  obtain ⟨r2, c1, h, fc1⟩ := fr_wX0_isGoneTarget h
  have fc1 : c1 17 = c 17 := fc1.trans rfl
  by_cases hc : r2 = 0
  · have h := h.1 hc
    by_cases hc : l2 < 0
    · have h := h.1 hc
      exact ⟨_, c1, h, fc1⟩
    · have h := h.2 hc
      by_cases hc : l2 < 8
      · have h := h.1 hc
        by_cases hc : l3 = (-1)
        · have h := h.1 hc
          obtain ⟨rr, cc, h, fcc⟩ := fr_wX0_setShelf_p44 h
          exact ⟨rr, cc, h, fcc.trans (fc1)⟩
        · have h := h.2 hc
          obtain ⟨r8, c7, h, fc7⟩ := fr_wX2_isA h
          have fc7 : c7 17 = c 17 := fc7.trans (fc1)
          by_cases hc : r8 = 0
          · have h := h.1 hc
            exact ⟨_, c7, h, fc7⟩
          · have h := h.2 hc
            obtain ⟨rr, cc, h, fcc⟩ := fr_wX0_setShelf_p44 h
            exact ⟨rr, cc, h, fcc.trans (fc7)⟩
      · have h := h.2 hc
        exact ⟨_, c1, h, fc1⟩
  · have h := h.2 hc
    exact ⟨_, c1, h, fc1⟩
theorem fr_wX2_isCounted_p15 {c : gMem} {Q : Int32 → gMem → Prop} (h : wX2_isCounted_p15   c Q) : ∃ r c', Q r c' ∧ c' 17 = c 17 := by
  unfold wX2_isCounted_p15 at h
  exact ⟨_, c, h, rfl⟩
theorem fr_wX2_isCounted {l0 : Int32} {c : gMem} {Q : Int32 → gMem → Prop} (h : wX2_isCounted  l0 c Q) : ∃ r c', Q r c' ∧ c' 17 = c 17 := by
  unfold wX2_isCounted at h
  by_cases hc : l0 = 1
  · have h := h.1 hc
    obtain ⟨rr, cc, h, fcc⟩ := fr_wX2_isCounted_p15 h
    exact ⟨rr, cc, h, fcc.trans rfl⟩
  · have h := h.2 hc
    by_cases hc : l0 = 2
    · have h := h.1 hc
      obtain ⟨rr, cc, h, fcc⟩ := fr_wX2_isCounted_p15 h
      exact ⟨rr, cc, h, fcc.trans rfl⟩
    · have h := h.2 hc
      by_cases hc : l0 = 5
      · have h := h.1 hc
        obtain ⟨rr, cc, h, fcc⟩ := fr_wX2_isCounted_p15 h
        exact ⟨rr, cc, h, fcc.trans rfl⟩
      · have h := h.2 hc
        exact ⟨_, c, h, rfl⟩
theorem fr_wX2_intsFor {l0 : Int32} {l1 : Int32} {c : gMem} {Q : Int32 → gMem → Prop} (h : wX2_intsFor  l0 l1 c Q) : ∃ r c', Q r c' ∧ c' 17 = c 17 := by
  unfold wX2_intsFor at h
  rcases sw_1_5 (l0) with hc | hc | hc | hc | hc | hc
  · have h := h.1 hc
    exact ⟨_, c, h, rfl⟩
  · have h := h.2.1 hc
    exact ⟨_, c, h, rfl⟩
  · have h := h.2.2.1 hc
    exact ⟨_, c, h, rfl⟩
  · have h := h.2.2.2.1 hc
    exact ⟨_, c, h, rfl⟩
  · have h := h.2.2.2.2.1 hc
    exact ⟨_, c, h, rfl⟩
  · have h := h.2.2.2.2.2 hc
    exact ⟨_, c, h, rfl⟩
theorem fr_wX2_free {c : gMem} {Q : Int32 → gMem → Prop} (h : wX2_free   c Q) : ∃ r c', Q r c' ∧ c' 17 = c 17 := by
  unfold wX2_free at h
  obtain ⟨v1, ev1⟩ : ∃ x, x = c 2 0 := ⟨_, rfl⟩
  have h := h v1 ev1
  obtain ⟨v2, ev2⟩ : ∃ x, x = c 2 1 := ⟨_, rfl⟩
  have h := h v2 ev2
  exact ⟨_, c, h, rfl⟩
theorem fr_wX2_addCell_p89 {l1 : Int32} {l2 : Int32} {l3 : Int32} {c : gMem} {Q : Int32 → gMem → Prop} (h : wX2_addCell_p89  l1 l2 l3 c Q) : ∃ r c', Q r c' ∧ c' 17 = c 17 := by
  unfold wX2_addCell_p89 at h
  obtain ⟨v1, ev1⟩ : ∃ x, x = c 2 1 := ⟨_, rfl⟩
  have h := h v1 ev1
  have h := h.2
  obtain ⟨c2, ec2⟩ : ∃ x, x = mp c 4 l3.toNatClampNeg v1 := ⟨_, rfl⟩
  have h := h c2 ec2
  have fc2 : c2 17 = c 17 := (congrFun ec2 17).trans ((mp_n (by decide)).trans rfl)
  have h := h.2
  obtain ⟨c4, ec4⟩ : ∃ x, x = mp c2 5 l3.toNatClampNeg 0 := ⟨_, rfl⟩
  have h := h c4 ec4
  have fc4 : c4 17 = c 17 := (congrFun ec4 17).trans ((mp_n (by decide)).trans fc2)
  obtain ⟨v6, ev6⟩ : ∃ x, x = c4 2 1 := ⟨_, rfl⟩
  have h := h v6 ev6
  obtain ⟨r8, c7, h, fc7⟩ := fr_wX2_intsFor h
  have fc7 : c7 17 = c 17 := fc7.trans (fc4)
  obtain ⟨c9, ec9⟩ : ∃ x, x = mp c7 2 1 (v6 + r8) := ⟨_, rfl⟩
  have h := h c9 ec9
  have fc9 : c9 17 = c 17 := (congrFun ec9 17).trans ((mp_n (by decide)).trans fc7)
  obtain ⟨v10, ev10⟩ : ∃ x, x = c9 2 2 := ⟨_, rfl⟩
  have h := h v10 ev10
  obtain ⟨c11, ec11⟩ : ∃ x, x = mp c9 2 2 (v10 + 1) := ⟨_, rfl⟩
  have h := h c11 ec11
  have fc11 : c11 17 = c 17 := (congrFun ec11 17).trans ((mp_n (by decide)).trans fc9)
  obtain ⟨v12, ev12⟩ : ∃ x, x = c11 2 3 := ⟨_, rfl⟩
  have h := h v12 ev12
  obtain ⟨c13, ec13⟩ : ∃ x, x = mp c11 2 3 (v12 + 1) := ⟨_, rfl⟩
  have h := h c13 ec13
  have fc13 : c13 17 = c 17 := (congrFun ec13 17).trans ((mp_n (by decide)).trans fc11)
  exact ⟨_, c13, h, fc13⟩
theorem fr_wX2_addCell {l1 : Int32} {l2 : Int32} {c : gMem} {Q : Int32 → gMem → Prop} (h : wX2_addCell  l1 l2 c Q) : ∃ r c', Q r c' ∧ c' 17 = c 17 := by
  unfold wX2_addCell at h
  obtain ⟨v1, ev1⟩ : ∃ x, x = c 2 2 := ⟨_, rfl⟩
  have h := h v1 ev1
  obtain ⟨v2, ev2⟩ : ∃ x, x = c 2 1 := ⟨_, rfl⟩
  have h := h v2 ev2
  have h := h.2
  obtain ⟨c3, ec3⟩ : ∃ x, x = mp c 3 v2.toNatClampNeg ((v1 * 8) + l1) := ⟨_, rfl⟩
  have h := h c3 ec3
  have fc3 : c3 17 = c 17 := (congrFun ec3 17).trans ((mp_n (by decide)).trans rfl)
  obtain ⟨r6, c5, h, fc5⟩ := fr_wX2_isCounted h
  have fc5 : c5 17 = c 17 := fc5.trans (fc3)
  by_cases hc : r6 = 0
  · have h := h.1 hc
    obtain ⟨v18, ev18⟩ : ∃ x, x = c5 2 1 := ⟨_, rfl⟩
    have h := h v18 ev18
    obtain ⟨v19, ev19⟩ : ∃ x, x = c5 2 1 := ⟨_, rfl⟩
    have h := h v19 ev19
    obtain ⟨f21, t22, _, _, _, _, h⟩ := h
    obtain ⟨c20, ec20⟩ : ∃ x, x = mr c5 3 (fun j => if f21 ≤ j ∧ j < t22 then (-1) else c5 3 j) := ⟨_, rfl⟩
    have h := h c20 ec20
    have fc20 : c20 17 = c 17 := (congrFun ec20 17).trans ((mr_n (by decide)).trans fc5)
    obtain ⟨rr, cc, h, fcc⟩ := fr_wX2_addCell_p89 h
    exact ⟨rr, cc, h, fcc.trans (fc20)⟩
  · have h := h.2 hc
    obtain ⟨v8, ev8⟩ : ∃ x, x = c5 2 1 := ⟨_, rfl⟩
    have h := h v8 ev8
    have h := h.2
    obtain ⟨c9, ec9⟩ : ∃ x, x = mp c5 3 (v8 + 1).toNatClampNeg l2 := ⟨_, rfl⟩
    have h := h c9 ec9
    have fc9 : c9 17 = c 17 := (congrFun ec9 17).trans ((mp_n (by decide)).trans fc5)
    by_cases hc : l1 = 2
    · have h := h.1 hc
      obtain ⟨rr, cc, h, fcc⟩ := fr_wX2_addCell_p89 h
      exact ⟨rr, cc, h, fcc.trans (fc9)⟩
    · have h := h.2 hc
      obtain ⟨v12, ev12⟩ : ∃ x, x = c9 2 1 := ⟨_, rfl⟩
      have h := h v12 ev12
      obtain ⟨v13, ev13⟩ : ∃ x, x = c9 2 1 := ⟨_, rfl⟩
      have h := h v13 ev13
      obtain ⟨f15, t16, _, _, _, _, h⟩ := h
      obtain ⟨c14, ec14⟩ : ∃ x, x = mr c9 3 (fun j => if f15 ≤ j ∧ j < t16 then (-1) else c9 3 j) := ⟨_, rfl⟩
      have h := h c14 ec14
      have fc14 : c14 17 = c 17 := (congrFun ec14 17).trans ((mr_n (by decide)).trans fc9)
      obtain ⟨rr, cc, h, fcc⟩ := fr_wX2_addCell_p89 h
      exact ⟨rr, cc, h, fcc.trans (fc14)⟩
theorem fr_wX0_makeCell_p109 {l1 : Int32} {l3 : Int32} {l4 : Int32} {c : gMem} {Q : Int32 → gMem → Prop} (h : wX0_makeCell_p109  l1 l3 l4 c Q) : ∃ r c', Q r c' ∧ c' 17 = c 17 := by
  unfold wX0_makeCell_p109 at h
  obtain ⟨r2, c1, h, fc1⟩ := fr_wX2_free h
  have fc1 : c1 17 = c 17 := fc1.trans rfl
  by_cases hc : l4 ≤ r2
  · have h := h.1 hc
    obtain ⟨r5, c4, h, fc4⟩ := fr_wX2_addCell h
    have fc4 : c4 17 = c 17 := fc4.trans (fc1)
    obtain ⟨c6, h, fc6⟩ := fr_wX7_mark h
    have fc6 : c6 17 = c 17 := fc6.trans (fc4)
    exact ⟨_, c6, h, fc6⟩
  · have h := h.2 hc
    exact ⟨_, c1, h, fc1⟩
theorem fr_wX3_wipe {c : gMem} {Q : gMem → Prop} (h : wX3_wipe   c Q) : ∃ c', Q c' ∧ c' 17 = c 17 := by
  unfold wX3_wipe at h
  obtain ⟨c1, ec1⟩ : ∃ x, x = mp c 6 0 0 := ⟨_, rfl⟩
  have h := h c1 ec1
  have fc1 : c1 17 = c 17 := (congrFun ec1 17).trans ((mp_n (by decide)).trans rfl)
  obtain ⟨c2, ec2⟩ : ∃ x, x = mp c1 6 1 0 := ⟨_, rfl⟩
  have h := h c2 ec2
  have fc2 : c2 17 = c 17 := (congrFun ec2 17).trans ((mp_n (by decide)).trans fc1)
  obtain ⟨c3, ec3⟩ : ∃ x, x = mp c2 6 2 0 := ⟨_, rfl⟩
  have h := h c3 ec3
  have fc3 : c3 17 = c 17 := (congrFun ec3 17).trans ((mp_n (by decide)).trans fc2)
  obtain ⟨c4, ec4⟩ : ∃ x, x = mp c3 6 3 0 := ⟨_, rfl⟩
  have h := h c4 ec4
  have fc4 : c4 17 = c 17 := (congrFun ec4 17).trans ((mp_n (by decide)).trans fc3)
  obtain ⟨c5, ec5⟩ : ∃ x, x = mr c4 8 (fun _ => 0) := ⟨_, rfl⟩
  have h := h c5 ec5
  have fc5 : c5 17 = c 17 := (congrFun ec5 17).trans ((mr_n (by decide)).trans fc4)
  exact ⟨c5, h, fc5⟩
theorem fr_wX7_begin_p17 {l1 : Int32} {c : gMem} {Q : gMem → Prop} (h : wX7_begin_p17  l1 c Q) : ∃ c', Q c' ∧ c' 17 = c 17 := by
  refine h (fun _ c => ∃ c', Q c' ∧ c' 17 = c 17) ?_
  intro l1 c h
  unfold wX7_begin_p17_b at h
  by_cases hc : 24 ≤ l1
  · have h := h.1 hc
    exact ⟨c, h, rfl⟩
  · have h := h.2 hc
    have h := h.2
    obtain ⟨v2, ev2⟩ : ∃ x, x = c 20 l1.toNatClampNeg := ⟨_, rfl⟩
    have h := h v2 ev2
    obtain ⟨c4, h, fc4⟩ := fr_wX7_mark h
    have fc4 : c4 17 = c 17 := fc4.trans rfl
    obtain ⟨cc, h, fcc⟩ := h
    exact ⟨cc, h, fcc.trans (fc4)⟩
theorem fr_wX7_begin {c : gMem} {Q : gMem → Prop} (h : wX7_begin   c Q) : ∃ c', Q c' ∧ c' 17 = c 17 := by
  unfold wX7_begin at h
  obtain ⟨c1, h, fc1⟩ := fr_wX3_wipe h
  have fc1 : c1 17 = c 17 := fc1.trans rfl
  obtain ⟨c2, ec2⟩ : ∃ x, x = mp c1 6 0 1 := ⟨_, rfl⟩
  have h := h c2 ec2
  have fc2 : c2 17 = c 17 := (congrFun ec2 17).trans ((mp_n (by decide)).trans fc1)
  obtain ⟨cc, h, fcc⟩ := fr_wX7_begin_p17 h
  exact ⟨cc, h, fcc.trans (fc2)⟩
theorem fr_wX7_goToOpenLink_p0 {c : gMem} {Q : Int32 → gMem → Prop} (h : wX7_goToOpenLink_p0   c Q) : ∃ r c', Q r c' ∧ c' 17 = c 17 := by
  refine h (fun  c => ∃ r c', Q r c' ∧ c' 17 = c 17) ?_
  intro  c h
  unfold wX7_goToOpenLink_p0_b at h
  obtain ⟨v1, ev1⟩ : ∃ x, x = c 6 2 := ⟨_, rfl⟩
  have h := h v1 ev1
  obtain ⟨v2, ev2⟩ : ∃ x, x = c 6 1 := ⟨_, rfl⟩
  have h := h v2 ev2
  by_cases hc : v2 ≤ v1
  · have h := h.1 hc
    exact ⟨_, c, h, rfl⟩
  · have h := h.2 hc
    obtain ⟨v4, ev4⟩ : ∃ x, x = c 6 3 := ⟨_, rfl⟩
    have h := h v4 ev4
    obtain ⟨v5, ev5⟩ : ∃ x, x = c 6 2 := ⟨_, rfl⟩
    have h := h v5 ev5
    have h := h.2
    obtain ⟨v6, ev6⟩ : ∃ x, x = c 7 v5.toNatClampNeg := ⟨_, rfl⟩
    have h := h v6 ev6
    obtain ⟨r9, c8, h, fc8⟩ := fr_wX2_linksOf h
    have fc8 : c8 17 = c 17 := fc8.trans rfl
    by_cases hc : r9 ≤ v4
    · have h := h.1 hc
      obtain ⟨v11, ev11⟩ : ∃ x, x = c8 6 2 := ⟨_, rfl⟩
      have h := h v11 ev11
      obtain ⟨c12, ec12⟩ : ∃ x, x = mp c8 6 2 (v11 + 1) := ⟨_, rfl⟩
      have h := h c12 ec12
      have fc12 : c12 17 = c 17 := (congrFun ec12 17).trans ((mp_n (by decide)).trans fc8)
      obtain ⟨c13, ec13⟩ : ∃ x, x = mp c12 6 3 0 := ⟨_, rfl⟩
      have h := h c13 ec13
      have fc13 : c13 17 = c 17 := (congrFun ec13 17).trans ((mp_n (by decide)).trans fc12)
      obtain ⟨rr, cc, h, fcc⟩ := h
      exact ⟨rr, cc, h, fcc.trans (fc13)⟩
    · have h := h.2 hc
      exact ⟨_, c8, h, fc8⟩
theorem fr_wX7_goToOpenLink {c : gMem} {Q : Int32 → gMem → Prop} (h : wX7_goToOpenLink   c Q) : ∃ r c', Q r c' ∧ c' 17 = c 17 := by
  unfold wX7_goToOpenLink at h
  obtain ⟨rr, cc, h, fcc⟩ := fr_wX7_goToOpenLink_p0 h
  exact ⟨rr, cc, h, fcc.trans rfl⟩
theorem fr_wX7_lookThrough_p2 {l1 : Int32} {l2 : Int32} {c : gMem} {Q : Int32 → gMem → Prop} (h : wX7_lookThrough_p2  l1 l2 c Q) : ∃ r c', Q r c' ∧ c' 17 = c 17 := by
  refine h (fun _ _ c => ∃ r c', Q r c' ∧ c' 17 = c 17) ?_
  intro l1 l2 c h
  unfold wX7_lookThrough_p2_b at h
  by_cases hc : l1 ≤ l2
  · have h := h.1 hc
    exact ⟨_, c, h, rfl⟩
  · have h := h.2 hc
    obtain ⟨r3, c2, h, fc2⟩ := fr_wX7_goToOpenLink h
    have fc2 : c2 17 = c 17 := fc2.trans rfl
    by_cases hc : r3 = 0
    · have h := h.1 hc
      exact ⟨_, c2, h, fc2⟩
    · have h := h.2 hc
      obtain ⟨v5, ev5⟩ : ∃ x, x = c2 6 2 := ⟨_, rfl⟩
      have h := h v5 ev5
      have h := h.2
      obtain ⟨v6, ev6⟩ : ∃ x, x = c2 7 v5.toNatClampNeg := ⟨_, rfl⟩
      have h := h v6 ev6
      obtain ⟨v8, ev8⟩ : ∃ x, x = c2 6 3 := ⟨_, rfl⟩
      have h := h v8 ev8
      obtain ⟨r10, c9, h, fc9⟩ := fr_wX2_linkPlace h
      have fc9 : c9 17 = c 17 := fc9.trans (fc2)
      have h := h.2
      obtain ⟨v11, ev11⟩ : ∃ x, x = c9 3 (r10 + v8).toNatClampNeg := ⟨_, rfl⟩
      have h := h v11 ev11
      obtain ⟨c13, h, fc13⟩ := fr_wX7_mark h
      have fc13 : c13 17 = c 17 := fc13.trans (fc9)
      obtain ⟨v14, ev14⟩ : ∃ x, x = c13 6 3 := ⟨_, rfl⟩
      have h := h v14 ev14
      obtain ⟨c15, ec15⟩ : ∃ x, x = mp c13 6 3 (v14 + 1) := ⟨_, rfl⟩
      have h := h c15 ec15
      have fc15 : c15 17 = c 17 := (congrFun ec15 17).trans ((mp_n (by decide)).trans fc13)
      obtain ⟨rr, cc, h, fcc⟩ := h
      exact ⟨rr, cc, h, fcc.trans (fc15)⟩
theorem fr_wX7_lookThrough {l1 : Int32} {c : gMem} {Q : Int32 → gMem → Prop} (h : wX7_lookThrough  l1 c Q) : ∃ r c', Q r c' ∧ c' 17 = c 17 := by
  unfold wX7_lookThrough at h
  obtain ⟨rr, cc, h, fcc⟩ := fr_wX7_lookThrough_p2 h
  exact ⟨rr, cc, h, fcc.trans rfl⟩
theorem fr_wX7_clearShelves_p33 {l2 : Int32} {c : gMem} {Q : gMem → Prop} {P10 : Int32 → gMem → Prop} (hP10 : ∀ (a0 : Int32) (c : gMem), P10 a0 c → ∃ c', Q c' ∧ c' 17 = c 17) (h : wX7_clearShelves_p33 P10 l2 c Q) : ∃ c', Q c' ∧ c' 17 = c 17 := by
  unfold wX7_clearShelves_p33 at h
  have h := hP10 _ _ h
  obtain ⟨cc, h, fcc⟩ := h
  exact ⟨cc, h, fcc.trans rfl⟩
theorem fr_wX7_clearShelves_p10 {l2 : Int32} {c : gMem} {Q : gMem → Prop} (h : wX7_clearShelves_p10  l2 c Q) : ∃ c', Q c' ∧ c' 17 = c 17 := by
  refine h (fun _ c => ∃ c', Q c' ∧ c' 17 = c 17) ?_
  intro l2 c h
  unfold wX7_clearShelves_p10_b at h
  by_cases hc : 32 ≤ l2
  · have h := h.1 hc
    exact ⟨c, h, rfl⟩
  · have h := h.2 hc
    have h := h.2
    obtain ⟨v2, ev2⟩ : ∃ x, x = c 21 l2.toNatClampNeg := ⟨_, rfl⟩
    have h := h v2 ev2
    obtain ⟨r5, c4, h, fc4⟩ := fr_wX2_has h
    have fc4 : c4 17 = c 17 := fc4.trans rfl
    by_cases hc : r5 = 0
    · have h := h.1 hc
      have h := h.2
      obtain ⟨c7, ec7⟩ : ∃ x, x = mp c4 21 l2.toNatClampNeg ((-1)) := ⟨_, rfl⟩
      have h := h c7 ec7
      have fc7 : c7 17 = c 17 := (congrFun ec7 17).trans ((mp_n (by decide)).trans fc4)
      obtain ⟨cc, h, fcc⟩ := fr_wX7_clearShelves_p33 (fun _ _ h => h) h
      exact ⟨cc, h, fcc.trans (fc7)⟩
    · have h := h.2 hc
      obtain ⟨cc, h, fcc⟩ := fr_wX7_clearShelves_p33 (fun _ _ h => h) h
      exact ⟨cc, h, fcc.trans (fc4)⟩
theorem fr_wX7_clearShelves {c : gMem} {Q : gMem → Prop} (h : wX7_clearShelves   c Q) : ∃ c', Q c' ∧ c' 17 = c 17 := by
  unfold wX7_clearShelves at h
  obtain ⟨cc, h, fcc⟩ := fr_wX7_clearShelves_p10 h
  exact ⟨cc, h, fcc.trans rfl⟩
theorem fr_wX7_giveBackUnmarked_p81 {l1 : Int32} {c : gMem} {Q : gMem → Prop} {P7 : Int32 → gMem → Prop} (hP7 : ∀ (a0 : Int32) (c : gMem), P7 a0 c → ∃ c', Q c' ∧ c' 17 = c 17) (h : wX7_giveBackUnmarked_p81 P7 l1 c Q) : ∃ c', Q c' ∧ c' 17 = c 17 := by
  unfold wX7_giveBackUnmarked_p81 at h
  have h := hP7 _ _ h
  obtain ⟨cc, h, fcc⟩ := h
  exact ⟨cc, h, fcc.trans rfl⟩
theorem fr_wX2_kindOf {l1 : Int32} {c : gMem} {Q : Int32 → gMem → Prop} (h : wX2_kindOf  l1 c Q) : ∃ r c', Q r c' ∧ c' 17 = c 17 := by
  unfold wX2_kindOf at h
  have h := h.2
  obtain ⟨v1, ev1⟩ : ∃ x, x = c 4 l1.toNatClampNeg := ⟨_, rfl⟩
  have h := h v1 ev1
  have h := h.2
  obtain ⟨v3, ev3⟩ : ∃ x, x = c 3 v1.toNatClampNeg := ⟨_, rfl⟩
  have h := h v3 ev3
  exact ⟨_, c, h, rfl⟩
theorem fr_wX7_countGivenBack {l1 : Int32} {c : gMem} {Q : gMem → Prop} (h : wX7_countGivenBack  l1 c Q) : ∃ c', Q c' ∧ c' 17 = c 17 := by
  unfold wX7_countGivenBack at h
  obtain ⟨v1, ev1⟩ : ∃ x, x = c 64 11 := ⟨_, rfl⟩
  have h := h v1 ev1
  obtain ⟨c2, ec2⟩ : ∃ x, x = mp c 64 11 (v1 + 1) := ⟨_, rfl⟩
  have h := h c2 ec2
  have fc2 : c2 17 = c 17 := (congrFun ec2 17).trans ((mp_n (by decide)).trans rfl)
  by_cases hc : l1 = 4
  · have h := h.1 hc
    obtain ⟨v4, ev4⟩ : ∃ x, x = c2 64 12 := ⟨_, rfl⟩
    have h := h v4 ev4
    obtain ⟨c5, ec5⟩ : ∃ x, x = mp c2 64 12 (v4 + 1) := ⟨_, rfl⟩
    have h := h c5 ec5
    have fc5 : c5 17 = c 17 := (congrFun ec5 17).trans ((mp_n (by decide)).trans fc2)
    exact ⟨c5, h, fc5⟩
  · have h := h.2 hc
    exact ⟨c2, h, fc2⟩
theorem fr_wX2_giveBack {l1 : Int32} {c : gMem} {Q : gMem → Prop} (h : wX2_giveBack  l1 c Q) : ∃ c', Q c' ∧ c' 17 = c 17 := by
  unfold wX2_giveBack at h
  have h := h.2
  obtain ⟨c1, ec1⟩ : ∃ x, x = mp c 4 l1.toNatClampNeg ((-1)) := ⟨_, rfl⟩
  have h := h c1 ec1
  have fc1 : c1 17 = c 17 := (congrFun ec1 17).trans ((mp_n (by decide)).trans rfl)
  obtain ⟨v3, ev3⟩ : ∃ x, x = c1 2 3 := ⟨_, rfl⟩
  have h := h v3 ev3
  obtain ⟨c4, ec4⟩ : ∃ x, x = mp c1 2 3 (v3 - 1) := ⟨_, rfl⟩
  have h := h c4 ec4
  have fc4 : c4 17 = c 17 := (congrFun ec4 17).trans ((mp_n (by decide)).trans fc1)
  exact ⟨c4, h, fc4⟩
theorem fr_wX7_giveBackUnmarked_p7 {l1 : Int32} {c : gMem} {Q : gMem → Prop} (h : wX7_giveBackUnmarked_p7  l1 c Q) : ∃ c', Q c' ∧ c' 17 = c 17 := by
  refine h (fun _ c => ∃ c', Q c' ∧ c' 17 = c 17) ?_
  intro l1 c h
  unfold wX7_giveBackUnmarked_p7_b at h
  obtain ⟨v1, ev1⟩ : ∃ x, x = c 2 2 := ⟨_, rfl⟩
  have h := h v1 ev1
  by_cases hc : v1 ≤ l1
  · have h := h.1 hc
    obtain ⟨c3, h, fc3⟩ := fr_wX7_clearShelves h
    have fc3 : c3 17 = c 17 := fc3.trans rfl
    obtain ⟨v4, ev4⟩ : ∃ x, x = c3 2 3 := ⟨_, rfl⟩
    have h := h v4 ev4
    obtain ⟨c5, ec5⟩ : ∃ x, x = mp c3 12 1 v4 := ⟨_, rfl⟩
    have h := h c5 ec5
    have fc5 : c5 17 = c 17 := (congrFun ec5 17).trans ((mp_n (by decide)).trans fc3)
    obtain ⟨v6, ev6⟩ : ∃ x, x = c5 65 5 := ⟨_, rfl⟩
    have h := h v6 ev6
    obtain ⟨c7, ec7⟩ : ∃ x, x = mp c5 12 2 v6 := ⟨_, rfl⟩
    have h := h c7 ec7
    have fc7 : c7 17 = c 17 := (congrFun ec7 17).trans ((mp_n (by decide)).trans fc5)
    obtain ⟨v8, ev8⟩ : ∃ x, x = c7 12 4 := ⟨_, rfl⟩
    have h := h v8 ev8
    obtain ⟨v9, ev9⟩ : ∃ x, x = c7 65 5 := ⟨_, rfl⟩
    have h := h v9 ev9
    obtain ⟨c10, ec10⟩ : ∃ x, x = mp c7 12 4 (v8 + v9) := ⟨_, rfl⟩
    have h := h c10 ec10
    have fc10 : c10 17 = c 17 := (congrFun ec10 17).trans ((mp_n (by decide)).trans fc7)
    exact ⟨c10, h, fc10⟩
  · have h := h.2 hc
    obtain ⟨r12, c11, h, fc11⟩ := fr_wX2_has h
    have fc11 : c11 17 = c 17 := fc11.trans rfl
    by_cases hc : r12 = 0
    · have h := h.1 hc
      obtain ⟨cc, h, fcc⟩ := fr_wX7_giveBackUnmarked_p81 (fun _ _ h => h) h
      exact ⟨cc, h, fcc.trans (fc11)⟩
    · have h := h.2 hc
      have h := h.2
      obtain ⟨v14, ev14⟩ : ∃ x, x = c11 8 l1.toNatClampNeg := ⟨_, rfl⟩
      have h := h v14 ev14
      by_cases hc : v14 = 0
      · have h := h.1 hc
        obtain ⟨r18, c17, h, fc17⟩ := fr_wX2_kindOf h
        have fc17 : c17 17 = c 17 := fc17.trans (fc11)
        obtain ⟨c19, h, fc19⟩ := fr_wX7_countGivenBack h
        have fc19 : c19 17 = c 17 := fc19.trans (fc17)
        obtain ⟨c20, h, fc20⟩ := fr_wX2_giveBack h
        have fc20 : c20 17 = c 17 := fc20.trans (fc19)
        obtain ⟨v21, ev21⟩ : ∃ x, x = c20 65 5 := ⟨_, rfl⟩
        have h := h v21 ev21
        have h := h.2
        obtain ⟨c22, ec22⟩ : ∃ x, x = mp c20 66 v21.toNatClampNeg l1 := ⟨_, rfl⟩
        have h := h c22 ec22
        have fc22 : c22 17 = c 17 := (congrFun ec22 17).trans ((mp_n (by decide)).trans fc20)
        obtain ⟨v24, ev24⟩ : ∃ x, x = c22 65 5 := ⟨_, rfl⟩
        have h := h v24 ev24
        obtain ⟨c25, ec25⟩ : ∃ x, x = mp c22 65 5 (v24 + 1) := ⟨_, rfl⟩
        have h := h c25 ec25
        have fc25 : c25 17 = c 17 := (congrFun ec25 17).trans ((mp_n (by decide)).trans fc22)
        obtain ⟨cc, h, fcc⟩ := fr_wX7_giveBackUnmarked_p81 (fun _ _ h => h) h
        exact ⟨cc, h, fcc.trans (fc25)⟩
      · have h := h.2 hc
        obtain ⟨cc, h, fcc⟩ := fr_wX7_giveBackUnmarked_p81 (fun _ _ h => h) h
        exact ⟨cc, h, fcc.trans (fc11)⟩
theorem fr_wX7_giveBackUnmarked {c : gMem} {Q : gMem → Prop} (h : wX7_giveBackUnmarked   c Q) : ∃ c', Q c' ∧ c' 17 = c 17 := by
  unfold wX7_giveBackUnmarked at h
  obtain ⟨c1, ec1⟩ : ∃ x, x = mp c 65 5 0 := ⟨_, rfl⟩
  have h := h c1 ec1
  have fc1 : c1 17 = c 17 := (congrFun ec1 17).trans ((mp_n (by decide)).trans rfl)
  obtain ⟨cc, h, fcc⟩ := fr_wX7_giveBackUnmarked_p7 h
  exact ⟨cc, h, fcc.trans (fc1)⟩
theorem fr_wX7_fadeWeakLinks_p41 {l1 : Int32} {c : gMem} {Q : gMem → Prop} {P2 : Int32 → gMem → Prop} (hP2 : ∀ (a0 : Int32) (c : gMem), P2 a0 c → ∃ c', Q c' ∧ c' 17 = c 17) (h : wX7_fadeWeakLinks_p41 P2 l1 c Q) : ∃ c', Q c' ∧ c' 17 = c 17 := by
  unfold wX7_fadeWeakLinks_p41 at h
  have h := hP2 _ _ h
  obtain ⟨cc, h, fcc⟩ := h
  exact ⟨cc, h, fcc.trans rfl⟩
theorem fr_wX2_numberOf {l1 : Int32} {c : gMem} {Q : Int32 → gMem → Prop} (h : wX2_numberOf  l1 c Q) : ∃ r c', Q r c' ∧ c' 17 = c 17 := by
  unfold wX2_numberOf at h
  have h := h.2
  obtain ⟨v1, ev1⟩ : ∃ x, x = c 4 l1.toNatClampNeg := ⟨_, rfl⟩
  have h := h v1 ev1
  have h := h.2
  obtain ⟨v3, ev3⟩ : ∃ x, x = c 3 (v1 + 3).toNatClampNeg := ⟨_, rfl⟩
  have h := h v3 ev3
  exact ⟨_, c, h, rfl⟩
theorem fr_wX8_tell_p44 {c : gMem} {Q : gMem → Prop} (h : wX8_tell_p44   c Q) : ∃ c', Q c' ∧ c' 17 = c 17 := by
  unfold wX8_tell_p44 at h
  obtain ⟨v1, ev1⟩ : ∃ x, x = c 12 5 := ⟨_, rfl⟩
  have h := h v1 ev1
  obtain ⟨c2, ec2⟩ : ∃ x, x = mp c 12 5 (v1 + 1) := ⟨_, rfl⟩
  have h := h c2 ec2
  have fc2 : c2 17 = c 17 := (congrFun ec2 17).trans ((mp_n (by decide)).trans rfl)
  exact ⟨c2, h, fc2⟩
theorem fr_wX8_tell {l1 : Int32} {l2 : Int32} {c : gMem} {Q : gMem → Prop} (h : wX8_tell  l1 l2 c Q) : ∃ c', Q c' ∧ c' 17 = c 17 := by
  unfold wX8_tell at h
  obtain ⟨v1, ev1⟩ : ∃ x, x = c 12 5 := ⟨_, rfl⟩
  have h := h v1 ev1
  by_cases hc : 100 ≤ v1
  · have h := h.1 hc
    obtain ⟨cc, h, fcc⟩ := fr_wX8_tell_p44 h
    exact ⟨cc, h, fcc.trans rfl⟩
  · have h := h.2 hc
    obtain ⟨v3, ev3⟩ : ∃ x, x = c 12 5 := ⟨_, rfl⟩
    have h := h v3 ev3
    have h := h.2
    obtain ⟨c4, ec4⟩ : ∃ x, x = mp c 13 (v3 * 3).toNatClampNeg l1 := ⟨_, rfl⟩
    have h := h c4 ec4
    have fc4 : c4 17 = c 17 := (congrFun ec4 17).trans ((mp_n (by decide)).trans rfl)
    have h := h.2
    obtain ⟨c6, ec6⟩ : ∃ x, x = mp c4 13 ((v3 * 3) + 1).toNatClampNeg l2 := ⟨_, rfl⟩
    have h := h c6 ec6
    have fc6 : c6 17 = c 17 := (congrFun ec6 17).trans ((mp_n (by decide)).trans fc4)
    obtain ⟨v8, ev8⟩ : ∃ x, x = c6 12 0 := ⟨_, rfl⟩
    have h := h v8 ev8
    have h := h.2
    obtain ⟨c9, ec9⟩ : ∃ x, x = mp c6 13 ((v3 * 3) + 2).toNatClampNeg v8 := ⟨_, rfl⟩
    have h := h c9 ec9
    have fc9 : c9 17 = c 17 := (congrFun ec9 17).trans ((mp_n (by decide)).trans fc6)
    obtain ⟨cc, h, fcc⟩ := fr_wX8_tell_p44 h
    exact ⟨cc, h, fcc.trans (fc9)⟩
theorem fr_wX7_fadeWeakLink {l1 : Int32} {c : gMem} {Q : gMem → Prop} (h : wX7_fadeWeakLink  l1 c Q) : ∃ c', Q c' ∧ c' 17 = c 17 := by
  unfold wX7_fadeWeakLink at h
  obtain ⟨r2, c1, h, fc1⟩ := fr_wX2_weakPlace h
  have fc1 : c1 17 = c 17 := fc1.trans rfl
  have h := h.2
  obtain ⟨v3, ev3⟩ : ∃ x, x = c1 3 r2.toNatClampNeg := ⟨_, rfl⟩
  have h := h v3 ev3
  by_cases hc : v3 = (-1)
  · have h := h.1 hc
    exact ⟨c1, h, fc1⟩
  · have h := h.2 hc
    obtain ⟨r7, c6, h, fc6⟩ := fr_wX2_has h
    have fc6 : c6 17 = c 17 := fc6.trans (fc1)
    by_cases hc : r7 = 0
    · have h := h.1 hc
      have h := h.2
      obtain ⟨c9, ec9⟩ : ∃ x, x = mp c6 3 r2.toNatClampNeg ((-1)) := ⟨_, rfl⟩
      have h := h c9 ec9
      have fc9 : c9 17 = c 17 := (congrFun ec9 17).trans ((mp_n (by decide)).trans fc6)
      obtain ⟨v11, ev11⟩ : ∃ x, x = c9 64 9 := ⟨_, rfl⟩
      have h := h v11 ev11
      obtain ⟨c12, ec12⟩ : ∃ x, x = mp c9 64 9 (v11 + 1) := ⟨_, rfl⟩
      have h := h c12 ec12
      have fc12 : c12 17 = c 17 := (congrFun ec12 17).trans ((mp_n (by decide)).trans fc9)
      obtain ⟨r14, c13, h, fc13⟩ := fr_wX2_isA h
      have fc13 : c13 17 = c 17 := fc13.trans (fc12)
      by_cases hc : r14 = 0
      · have h := h.1 hc
        exact ⟨c13, h, fc13⟩
      · have h := h.2 hc
        obtain ⟨v16, ev16⟩ : ∃ x, x = c13 64 10 := ⟨_, rfl⟩
        have h := h v16 ev16
        obtain ⟨c17, ec17⟩ : ∃ x, x = mp c13 64 10 (v16 + 1) := ⟨_, rfl⟩
        have h := h c17 ec17
        have fc17 : c17 17 = c 17 := (congrFun ec17 17).trans ((mp_n (by decide)).trans fc13)
        obtain ⟨r19, c18, h, fc18⟩ := fr_wX2_numberOf h
        have fc18 : c18 17 = c 17 := fc18.trans (fc17)
        obtain ⟨c20, h, fc20⟩ := fr_wX8_tell h
        have fc20 : c20 17 = c 17 := fc20.trans (fc18)
        exact ⟨c20, h, fc20⟩
    · have h := h.2 hc
      exact ⟨c6, h, fc6⟩
theorem fr_wX7_fadeWeakLinks_p2 {l1 : Int32} {c : gMem} {Q : gMem → Prop} (h : wX7_fadeWeakLinks_p2  l1 c Q) : ∃ c', Q c' ∧ c' 17 = c 17 := by
  refine h (fun _ c => ∃ c', Q c' ∧ c' 17 = c 17) ?_
  intro l1 c h
  unfold wX7_fadeWeakLinks_p2_b at h
  obtain ⟨v1, ev1⟩ : ∃ x, x = c 2 2 := ⟨_, rfl⟩
  have h := h v1 ev1
  by_cases hc : v1 ≤ l1
  · have h := h.1 hc
    exact ⟨c, h, rfl⟩
  · have h := h.2 hc
    obtain ⟨r4, c3, h, fc3⟩ := fr_wX2_has h
    have fc3 : c3 17 = c 17 := fc3.trans rfl
    by_cases hc : r4 = 0
    · have h := h.1 hc
      obtain ⟨cc, h, fcc⟩ := fr_wX7_fadeWeakLinks_p41 (fun _ _ h => h) h
      exact ⟨cc, h, fcc.trans (fc3)⟩
    · have h := h.2 hc
      obtain ⟨r7, c6, h, fc6⟩ := fr_wX2_isA h
      have fc6 : c6 17 = c 17 := fc6.trans (fc3)
      by_cases hc : r7 = 0
      · have h := h.1 hc
        obtain ⟨cc, h, fcc⟩ := fr_wX7_fadeWeakLinks_p41 (fun _ _ h => h) h
        exact ⟨cc, h, fcc.trans (fc6)⟩
      · have h := h.2 hc
        obtain ⟨c9, h, fc9⟩ := fr_wX7_fadeWeakLink h
        have fc9 : c9 17 = c 17 := fc9.trans (fc6)
        obtain ⟨cc, h, fcc⟩ := fr_wX7_fadeWeakLinks_p41 (fun _ _ h => h) h
        exact ⟨cc, h, fcc.trans (fc9)⟩
theorem fr_wX7_fadeWeakLinks {c : gMem} {Q : gMem → Prop} (h : wX7_fadeWeakLinks   c Q) : ∃ c', Q c' ∧ c' 17 = c 17 := by
  unfold wX7_fadeWeakLinks at h
  obtain ⟨cc, h, fcc⟩ := fr_wX7_fadeWeakLinks_p2 h
  exact ⟨cc, h, fcc.trans rfl⟩
theorem fr_wX2_freeFrom {l1 : Int32} {c : gMem} {Q : gMem → Prop} (h : wX2_freeFrom  l1 c Q) : ∃ c', Q c' ∧ c' 17 = c 17 := by
  unfold wX2_freeFrom at h
  obtain ⟨v1, ev1⟩ : ∃ x, x = c 2 1 := ⟨_, rfl⟩
  have h := h v1 ev1
  obtain ⟨f3, t4, _, _, _, _, h⟩ := h
  obtain ⟨c2, ec2⟩ : ∃ x, x = mr c 3 (fun j => if f3 ≤ j ∧ j < t4 then 0 else c 3 j) := ⟨_, rfl⟩
  have h := h c2 ec2
  have fc2 : c2 17 = c 17 := (congrFun ec2 17).trans ((mr_n (by decide)).trans rfl)
  obtain ⟨c6, ec6⟩ : ∃ x, x = mp c2 2 1 l1 := ⟨_, rfl⟩
  have h := h c6 ec6
  have fc6 : c6 17 = c 17 := (congrFun ec6 17).trans ((mp_n (by decide)).trans fc2)
  exact ⟨c6, h, fc6⟩
theorem fr_wX7_slideKept_p90 {l1 : Int32} {l2 : Int32} {c : gMem} {Q : gMem → Prop} {P15 : Int32 → Int32 → gMem → Prop} (hP15 : ∀ (a0 : Int32) (a1 : Int32) (c : gMem), P15 a0 a1 c → ∃ c', Q c' ∧ c' 17 = c 17) (h : wX7_slideKept_p90 P15 l1 l2 c Q) : ∃ c', Q c' ∧ c' 17 = c 17 := by
  unfold wX7_slideKept_p90 at h
  have h := hP15 _ _ _ h
  obtain ⟨cc, h, fcc⟩ := h
  exact ⟨cc, h, fcc.trans rfl⟩
theorem fr_wX2_intsOf_p23 {s0 : Int32} {s1 : Int32} {c : gMem} {Q : Int32 → gMem → Prop} (h : wX2_intsOf_p23  s0 s1 c Q) : ∃ r c', Q r c' ∧ c' 17 = c 17 := by
  unfold wX2_intsOf_p23 at h
  obtain ⟨r2, c1, h, fc1⟩ := fr_wX2_intsFor h
  have fc1 : c1 17 = c 17 := fc1.trans rfl
  exact ⟨_, c1, h, fc1⟩
theorem fr_wX2_intsOf {l1 : Int32} {c : gMem} {Q : Int32 → gMem → Prop} (h : wX2_intsOf  l1 c Q) : ∃ r c', Q r c' ∧ c' 17 = c 17 := by
  unfold wX2_intsOf at h
  obtain ⟨r2, c1, h, fc1⟩ := fr_wX2_kindOf h
  have fc1 : c1 17 = c 17 := fc1.trans rfl
  obtain ⟨r4, c3, h, fc3⟩ := fr_wX2_isCounted h
  have fc3 : c3 17 = c 17 := fc3.trans (fc1)
  by_cases hc : r4 = 0
  · have h := h.1 hc
    obtain ⟨rr, cc, h, fcc⟩ := fr_wX2_intsOf_p23 h
    exact ⟨rr, cc, h, fcc.trans (fc3)⟩
  · have h := h.2 hc
    obtain ⟨r7, c6, h, fc6⟩ := fr_wX2_countOf h
    have fc6 : c6 17 = c 17 := fc6.trans (fc3)
    obtain ⟨rr, cc, h, fcc⟩ := fr_wX2_intsOf_p23 h
    exact ⟨rr, cc, h, fcc.trans (fc6)⟩
theorem fr_wX2_slide {l1 : Int32} {l2 : Int32} {l3 : Int32} {c : gMem} {Q : Int32 → gMem → Prop} (h : wX2_slide  l1 l2 l3 c Q) : ∃ r c', Q r c' ∧ c' 17 = c 17 := by
  unfold wX2_slide at h
  have h := h.2
  obtain ⟨v1, ev1⟩ : ∃ x, x = c 4 l1.toNatClampNeg := ⟨_, rfl⟩
  have h := h v1 ev1
  have h := h.2
  obtain ⟨c3, ec3⟩ : ∃ x, x = mp c 5 l1.toNatClampNeg (v1 - l2) := ⟨_, rfl⟩
  have h := h c3 ec3
  have fc3 : c3 17 = c 17 := (congrFun ec3 17).trans ((mp_n (by decide)).trans rfl)
  by_cases hc : v1 = l2
  · have h := h.1 hc
    exact ⟨_, c3, h, fc3⟩
  · have h := h.2 hc
    have h := h.2
    obtain ⟨c7, ec7⟩ : ∃ x, x = mr c3 3 (va_cpy (c3 3) (c3 3) v1.toNatClampNeg l2.toNatClampNeg l3.toNatClampNeg) := ⟨_, rfl⟩
    have h := h c7 ec7
    have fc7 : c7 17 = c 17 := (congrFun ec7 17).trans ((mr_n (by decide)).trans fc3)
    have h := h.2
    obtain ⟨c8, ec8⟩ : ∃ x, x = mp c7 4 l1.toNatClampNeg l2 := ⟨_, rfl⟩
    have h := h c8 ec8
    have fc8 : c8 17 = c 17 := (congrFun ec8 17).trans ((mp_n (by decide)).trans fc7)
    exact ⟨_, c8, h, fc8⟩
theorem fr_wX7_slideKept_p86 {l1 : Int32} {l2 : Int32} {l3 : Int32} {c : gMem} {Q : gMem → Prop} {P15 : Int32 → Int32 → gMem → Prop} (hP15 : ∀ (a0 : Int32) (a1 : Int32) (c : gMem), P15 a0 a1 c → ∃ c', Q c' ∧ c' 17 = c 17) (h : wX7_slideKept_p86 P15 l1 l2 l3 c Q) : ∃ c', Q c' ∧ c' 17 = c 17 := by
  unfold wX7_slideKept_p86 at h
  obtain ⟨cc, h, fcc⟩ := fr_wX7_slideKept_p90 hP15 h
  exact ⟨cc, h, fcc.trans rfl⟩
theorem fr_wX7_slideKept_p15 {l1 : Int32} {l2 : Int32} {c : gMem} {Q : gMem → Prop} (h : wX7_slideKept_p15  l1 l2 c Q) : ∃ c', Q c' ∧ c' 17 = c 17 := by
  refine h (fun _ _ c => ∃ c', Q c' ∧ c' 17 = c 17) ?_
  intro l1 l2 c h
  unfold wX7_slideKept_p15_b at h
  obtain ⟨v1, ev1⟩ : ∃ x, x = c 2 2 := ⟨_, rfl⟩
  have h := h v1 ev1
  by_cases hc : v1 ≤ l2
  · have h := h.1 hc
    obtain ⟨c3, h, fc3⟩ := fr_wX2_freeFrom h
    have fc3 : c3 17 = c 17 := fc3.trans rfl
    exact ⟨c3, h, fc3⟩
  · have h := h.2 hc
    obtain ⟨r5, c4, h, fc4⟩ := fr_wX2_has h
    have fc4 : c4 17 = c 17 := fc4.trans rfl
    by_cases hc : r5 = 0
    · have h := h.1 hc
      obtain ⟨cc, h, fcc⟩ := fr_wX7_slideKept_p90 (fun _ _ _ h => h) h
      exact ⟨cc, h, fcc.trans (fc4)⟩
    · have h := h.2 hc
      obtain ⟨r8, c7, h, fc7⟩ := fr_wX2_intsOf h
      have fc7 : c7 17 = c 17 := fc7.trans (fc4)
      obtain ⟨r10, c9, h, fc9⟩ := fr_wX2_slide h
      have fc9 : c9 17 = c 17 := fc9.trans (fc7)
      by_cases hc : r10 = 0
      · have h := h.1 hc
        obtain ⟨cc, h, fcc⟩ := fr_wX7_slideKept_p86 (fun _ _ _ h => h) h
        exact ⟨cc, h, fcc.trans (fc9)⟩
      · have h := h.2 hc
        obtain ⟨v12, ev12⟩ : ∃ x, x = c9 12 3 := ⟨_, rfl⟩
        have h := h v12 ev12
        obtain ⟨c13, ec13⟩ : ∃ x, x = mp c9 12 3 (v12 + 1) := ⟨_, rfl⟩
        have h := h c13 ec13
        have fc13 : c13 17 = c 17 := (congrFun ec13 17).trans ((mp_n (by decide)).trans fc9)
        obtain ⟨v14, ev14⟩ : ∃ x, x = c13 64 13 := ⟨_, rfl⟩
        have h := h v14 ev14
        obtain ⟨c15, ec15⟩ : ∃ x, x = mp c13 64 13 (v14 + 1) := ⟨_, rfl⟩
        have h := h c15 ec15
        have fc15 : c15 17 = c 17 := (congrFun ec15 17).trans ((mp_n (by decide)).trans fc13)
        obtain ⟨cc, h, fcc⟩ := fr_wX7_slideKept_p86 (fun _ _ _ h => h) h
        exact ⟨cc, h, fcc.trans (fc15)⟩
theorem fr_wX7_slideKept {c : gMem} {Q : gMem → Prop} (h : wX7_slideKept   c Q) : ∃ c', Q c' ∧ c' 17 = c 17 := by
  unfold wX7_slideKept at h
  obtain ⟨c1, ec1⟩ : ∃ x, x = mp c 12 3 0 := ⟨_, rfl⟩
  have h := h c1 ec1
  have fc1 : c1 17 = c 17 := (congrFun ec1 17).trans ((mp_n (by decide)).trans rfl)
  obtain ⟨cc, h, fcc⟩ := fr_wX7_slideKept_p15 h
  exact ⟨cc, h, fcc.trans (fc1)⟩
theorem fr_wX4_add {l1 : Int32} {c : gMem} {Q : gMem → Prop} (h : wX4_add  l1 c Q) : ∃ c', Q c' ∧ c' 17 = c 17 := by
  unfold wX4_add at h
  obtain ⟨v1, ev1⟩ : ∃ x, x = c 14 0 := ⟨_, rfl⟩
  have h := h v1 ev1
  by_cases hc : 6527 ≤ v1
  · have h := h.1 hc
    exact ⟨c, h, rfl⟩
  · have h := h.2 hc
    obtain ⟨v3, ev3⟩ : ∃ x, x = c 14 0 := ⟨_, rfl⟩
    have h := h v3 ev3
    by_cases hc : 6527 ≤ v3
    · have h := h.1 hc
      exact ⟨c, h, rfl⟩
    · have h := h.2 hc
      obtain ⟨v5, ev5⟩ : ∃ x, x = c 14 0 := ⟨_, rfl⟩
      have h := h v5 ev5
      have h := h.2
      obtain ⟨c6, ec6⟩ : ∃ x, x = mp c 15 v5.toNatClampNeg l1 := ⟨_, rfl⟩
      have h := h c6 ec6
      have fc6 : c6 17 = c 17 := (congrFun ec6 17).trans ((mp_n (by decide)).trans rfl)
      obtain ⟨v8, ev8⟩ : ∃ x, x = c6 14 0 := ⟨_, rfl⟩
      have h := h v8 ev8
      have h := h.2
      obtain ⟨c9, ec9⟩ : ∃ x, x = mp c6 16 v8.toNatClampNeg l1 := ⟨_, rfl⟩
      have h := h c9 ec9
      have fc9 : c9 17 = c 17 := (congrFun ec9 17).trans ((mp_n (by decide)).trans fc6)
      obtain ⟨v11, ev11⟩ : ∃ x, x = c9 14 0 := ⟨_, rfl⟩
      have h := h v11 ev11
      obtain ⟨c12, ec12⟩ : ∃ x, x = mp c9 14 0 (v11 + 1) := ⟨_, rfl⟩
      have h := h c12 ec12
      have fc12 : c12 17 = c 17 := (congrFun ec12 17).trans ((mp_n (by decide)).trans fc9)
      exact ⟨c12, h, fc12⟩
theorem fr_wX4_sumOf_p4 {l1 : Int32} {l2 : Int32} {l3 : Int32} {c : gMem} {Q : Int32 → gMem → Prop} (h : wX4_sumOf_p4  l1 l2 l3 c Q) : ∃ r c', Q r c' ∧ c' 17 = c 17 := by
  refine h (fun _ _ _ c => ∃ r c', Q r c' ∧ c' 17 = c 17) ?_
  intro l1 l2 l3 c h
  unfold wX4_sumOf_p4_b at h
  by_cases hc : l1 ≤ l3
  · have h := h.1 hc
    exact ⟨_, c, h, rfl⟩
  · have h := h.2 hc
    have h := h.2
    obtain ⟨v2, ev2⟩ : ∃ x, x = c 15 l3.toNatClampNeg := ⟨_, rfl⟩
    have h := h v2 ev2
    obtain ⟨rr, cc, h, fcc⟩ := h
    exact ⟨rr, cc, h, fcc.trans rfl⟩
theorem fr_wX4_sumOf {l1 : Int32} {c : gMem} {Q : Int32 → gMem → Prop} (h : wX4_sumOf  l1 c Q) : ∃ r c', Q r c' ∧ c' 17 = c 17 := by
  unfold wX4_sumOf at h
  obtain ⟨rr, cc, h, fcc⟩ := fr_wX4_sumOf_p4 h
  exact ⟨rr, cc, h, fcc.trans rfl⟩
theorem fr_wX7_writePaper_p96 {l2 : Int32} {c : gMem} {Q : gMem → Prop} (h : wX7_writePaper_p96  l2 c Q) : ∃ c', Q c' ∧ c' 17 = c 17 := by
  refine h (fun _ c => ∃ c', Q c' ∧ c' 17 = c 17) ?_
  intro l2 c h
  unfold wX7_writePaper_p96_b at h
  obtain ⟨v1, ev1⟩ : ∃ x, x = c 65 5 := ⟨_, rfl⟩
  have h := h v1 ev1
  by_cases hc : v1 ≤ l2
  · have h := h.1 hc
    obtain ⟨v3, ev3⟩ : ∃ x, x = c 14 0 := ⟨_, rfl⟩
    have h := h v3 ev3
    obtain ⟨r5, c4, h, fc4⟩ := fr_wX4_sumOf h
    have fc4 : c4 17 = c 17 := fc4.trans rfl
    obtain ⟨c6, h, fc6⟩ := fr_wX4_add h
    have fc6 : c6 17 = c 17 := fc6.trans (fc4)
    exact ⟨c6, h, fc6⟩
  · have h := h.2 hc
    have h := h.2
    obtain ⟨v7, ev7⟩ : ∃ x, x = c 66 l2.toNatClampNeg := ⟨_, rfl⟩
    have h := h v7 ev7
    obtain ⟨c9, h, fc9⟩ := fr_wX4_add h
    have fc9 : c9 17 = c 17 := fc9.trans rfl
    obtain ⟨cc, h, fcc⟩ := h
    exact ⟨cc, h, fcc.trans (fc9)⟩
theorem fr_wX7_writePaper_p80 {l2 : Int32} {c : gMem} {Q : gMem → Prop} {P53 : Int32 → gMem → Prop} (hP53 : ∀ (a0 : Int32) (c : gMem), P53 a0 c → ∃ c', Q c' ∧ c' 17 = c 17) (h : wX7_writePaper_p80 P53 l2 c Q) : ∃ c', Q c' ∧ c' 17 = c 17 := by
  unfold wX7_writePaper_p80 at h
  have h := hP53 _ _ h
  obtain ⟨cc, h, fcc⟩ := h
  exact ⟨cc, h, fcc.trans rfl⟩
theorem fr_wX7_writeKept_p92 {l3 : Int32} {l4 : Int32} {l5 : Int32} {c : gMem} {Q : gMem → Prop} (h : wX7_writeKept_p92  l3 l4 l5 c Q) : ∃ c', Q c' ∧ c' 17 = c 17 := by
  refine h (fun _ _ _ c => ∃ c', Q c' ∧ c' 17 = c 17) ?_
  intro l3 l4 l5 c h
  unfold wX7_writeKept_p92_b at h
  by_cases hc : l3 ≤ l5
  · have h := h.1 hc
    exact ⟨c, h, rfl⟩
  · have h := h.2 hc
    have h := h.2
    obtain ⟨v2, ev2⟩ : ∃ x, x = c 3 (l4 + l5).toNatClampNeg := ⟨_, rfl⟩
    have h := h v2 ev2
    obtain ⟨c4, h, fc4⟩ := fr_wX4_add h
    have fc4 : c4 17 = c 17 := fc4.trans rfl
    obtain ⟨cc, h, fcc⟩ := h
    exact ⟨cc, h, fcc.trans (fc4)⟩
theorem fr_wX7_writeKept {l1 : Int32} {c : gMem} {Q : gMem → Prop} (h : wX7_writeKept  l1 c Q) : ∃ c', Q c' ∧ c' 17 = c 17 := by
  unfold wX7_writeKept at h
  obtain ⟨c1, h, fc1⟩ := fr_wX4_add h
  have fc1 : c1 17 = c 17 := fc1.trans rfl
  have h := h.2
  obtain ⟨v2, ev2⟩ : ∃ x, x = c1 9 l1.toNatClampNeg := ⟨_, rfl⟩
  have h := h v2 ev2
  obtain ⟨c4, h, fc4⟩ := fr_wX4_add h
  have fc4 : c4 17 = c 17 := fc4.trans (fc1)
  have h := h.2
  obtain ⟨v5, ev5⟩ : ∃ x, x = c4 10 l1.toNatClampNeg := ⟨_, rfl⟩
  have h := h v5 ev5
  obtain ⟨c7, h, fc7⟩ := fr_wX4_add h
  have fc7 : c7 17 = c 17 := fc7.trans (fc4)
  have h := h.2
  obtain ⟨v8, ev8⟩ : ∃ x, x = c7 11 l1.toNatClampNeg := ⟨_, rfl⟩
  have h := h v8 ev8
  obtain ⟨c10, h, fc10⟩ := fr_wX4_add h
  have fc10 : c10 17 = c 17 := fc10.trans (fc7)
  have h := h.2
  obtain ⟨v11, ev11⟩ : ∃ x, x = c10 8 l1.toNatClampNeg := ⟨_, rfl⟩
  have h := h v11 ev11
  obtain ⟨c13, h, fc13⟩ := fr_wX4_add h
  have fc13 : c13 17 = c 17 := fc13.trans (fc10)
  obtain ⟨r15, c14, h, fc14⟩ := fr_wX2_linksOf h
  have fc14 : c14 17 = c 17 := fc14.trans (fc13)
  obtain ⟨r17, c16, h, fc16⟩ := fr_wX2_linkPlace h
  have fc16 : c16 17 = c 17 := fc16.trans (fc14)
  obtain ⟨c18, h, fc18⟩ := fr_wX4_add h
  have fc18 : c18 17 = c 17 := fc18.trans (fc16)
  obtain ⟨cc, h, fcc⟩ := fr_wX7_writeKept_p92 h
  exact ⟨cc, h, fcc.trans (fc18)⟩
theorem fr_wX7_writePaper_p53 {l2 : Int32} {c : gMem} {Q : gMem → Prop} (h : wX7_writePaper_p53  l2 c Q) : ∃ c', Q c' ∧ c' 17 = c 17 := by
  refine h (fun _ c => ∃ c', Q c' ∧ c' 17 = c 17) ?_
  intro l2 c h
  unfold wX7_writePaper_p53_b at h
  obtain ⟨v1, ev1⟩ : ∃ x, x = c 2 2 := ⟨_, rfl⟩
  have h := h v1 ev1
  by_cases hc : v1 ≤ l2
  · have h := h.1 hc
    obtain ⟨v3, ev3⟩ : ∃ x, x = c 65 5 := ⟨_, rfl⟩
    have h := h v3 ev3
    obtain ⟨c4, h, fc4⟩ := fr_wX4_add h
    have fc4 : c4 17 = c 17 := fc4.trans rfl
    obtain ⟨cc, h, fcc⟩ := fr_wX7_writePaper_p96 h
    exact ⟨cc, h, fcc.trans (fc4)⟩
  · have h := h.2 hc
    obtain ⟨r6, c5, h, fc5⟩ := fr_wX2_has h
    have fc5 : c5 17 = c 17 := fc5.trans rfl
    by_cases hc : r6 = 0
    · have h := h.1 hc
      obtain ⟨cc, h, fcc⟩ := fr_wX7_writePaper_p80 (fun _ _ h => h) h
      exact ⟨cc, h, fcc.trans (fc5)⟩
    · have h := h.2 hc
      obtain ⟨c8, h, fc8⟩ := fr_wX7_writeKept h
      have fc8 : c8 17 = c 17 := fc8.trans (fc5)
      obtain ⟨cc, h, fcc⟩ := fr_wX7_writePaper_p80 (fun _ _ h => h) h
      exact ⟨cc, h, fcc.trans (fc8)⟩
theorem fr_wX7_writePaper_p15 {l2 : Int32} {c : gMem} {Q : gMem → Prop} (h : wX7_writePaper_p15  l2 c Q) : ∃ c', Q c' ∧ c' 17 = c 17 := by
  refine h (fun _ c => ∃ c', Q c' ∧ c' 17 = c 17) ?_
  intro l2 c h
  unfold wX7_writePaper_p15_b at h
  by_cases hc : 24 ≤ l2
  · have h := h.1 hc
    obtain ⟨v2, ev2⟩ : ∃ x, x = c 2 3 := ⟨_, rfl⟩
    have h := h v2 ev2
    obtain ⟨c3, h, fc3⟩ := fr_wX4_add h
    have fc3 : c3 17 = c 17 := fc3.trans rfl
    obtain ⟨cc, h, fcc⟩ := fr_wX7_writePaper_p53 h
    exact ⟨cc, h, fcc.trans (fc3)⟩
  · have h := h.2 hc
    have h := h.2
    obtain ⟨v4, ev4⟩ : ∃ x, x = c 20 l2.toNatClampNeg := ⟨_, rfl⟩
    have h := h v4 ev4
    obtain ⟨c6, h, fc6⟩ := fr_wX4_add h
    have fc6 : c6 17 = c 17 := fc6.trans rfl
    obtain ⟨cc, h, fcc⟩ := h
    exact ⟨cc, h, fcc.trans (fc6)⟩
theorem fr_wX7_writePaper {c : gMem} {Q : gMem → Prop} (h : wX7_writePaper   c Q) : ∃ c', Q c' ∧ c' 17 = c 17 := by
  unfold wX7_writePaper at h
  obtain ⟨c1, ec1⟩ : ∃ x, x = mp c 14 0 0 := ⟨_, rfl⟩
  have h := h c1 ec1
  have fc1 : c1 17 = c 17 := (congrFun ec1 17).trans ((mp_n (by decide)).trans rfl)
  obtain ⟨cc, h, fcc⟩ := fr_wX7_writePaper_p15 h
  exact ⟨cc, h, fcc.trans (fc1)⟩
theorem fr_wX7_end {c : gMem} {Q : gMem → Prop} (h : wX7_end   c Q) : ∃ c', Q c' ∧ c' 17 = c 17 := by
  unfold wX7_end at h
  obtain ⟨v1, ev1⟩ : ∃ x, x = c 12 0 := ⟨_, rfl⟩
  have h := h v1 ev1
  obtain ⟨c2, ec2⟩ : ∃ x, x = mp c 12 0 (v1 + 1) := ⟨_, rfl⟩
  have h := h c2 ec2
  have fc2 : c2 17 = c 17 := (congrFun ec2 17).trans ((mp_n (by decide)).trans rfl)
  obtain ⟨c3, h, fc3⟩ := fr_wX7_giveBackUnmarked h
  have fc3 : c3 17 = c 17 := fc3.trans (fc2)
  obtain ⟨c4, h, fc4⟩ := fr_wX7_fadeWeakLinks h
  have fc4 : c4 17 = c 17 := fc4.trans (fc3)
  obtain ⟨c5, h, fc5⟩ := fr_wX7_slideKept h
  have fc5 : c5 17 = c 17 := fc5.trans (fc4)
  obtain ⟨c6, h, fc6⟩ := fr_wX7_writePaper h
  have fc6 : c6 17 = c 17 := fc6.trans (fc5)
  obtain ⟨c7, h, fc7⟩ := fr_wX3_wipe h
  have fc7 : c7 17 = c 17 := fc7.trans (fc6)
  exact ⟨c7, h, fc7⟩
theorem fr_wX7_finish_p14 {c : gMem} {Q : gMem → Prop} (h : wX7_finish_p14   c Q) : ∃ c', Q c' ∧ c' 17 = c 17 := by
  unfold wX7_finish_p14 at h
  obtain ⟨r2, c1, h, fc1⟩ := fr_wX7_lookThrough h
  have fc1 : c1 17 = c 17 := fc1.trans rfl
  obtain ⟨c3, h, fc3⟩ := fr_wX7_end h
  have fc3 : c3 17 = c 17 := fc3.trans (fc1)
  exact ⟨c3, h, fc3⟩
theorem fr_wX7_finish {c : gMem} {Q : gMem → Prop} (h : wX7_finish   c Q) : ∃ c', Q c' ∧ c' 17 = c 17 := by
  unfold wX7_finish at h
  obtain ⟨v1, ev1⟩ : ∃ x, x = c 6 0 := ⟨_, rfl⟩
  have h := h v1 ev1
  by_cases hc : v1 = 0
  · have h := h.1 hc
    obtain ⟨c3, h, fc3⟩ := fr_wX7_begin h
    have fc3 : c3 17 = c 17 := fc3.trans rfl
    obtain ⟨cc, h, fcc⟩ := fr_wX7_finish_p14 h
    exact ⟨cc, h, fcc.trans (fc3)⟩
  · have h := h.2 hc
    obtain ⟨cc, h, fcc⟩ := fr_wX7_finish_p14 h
    exact ⟨cc, h, fcc.trans rfl⟩
theorem fr_wX0_makeCell_p78 {l1 : Int32} {l3 : Int32} {l4 : Int32} {l5 : Int32} {c : gMem} {Q : Int32 → gMem → Prop} (h : wX0_makeCell_p78  l1 l3 l4 l5 c Q) : ∃ r c', Q r c' ∧ c' 17 = c 17 := by
  refine h (fun _ _ _ _ c => ∃ r c', Q r c' ∧ c' 17 = c 17) ?_
  intro l1 l3 l4 l5 c h
  unfold wX0_makeCell_p78_b at h
  by_cases hc : 2 ≤ l5
  · have h := h.1 hc
    obtain ⟨rr, cc, h, fcc⟩ := fr_wX0_makeCell_p109 h
    exact ⟨rr, cc, h, fcc.trans rfl⟩
  · have h := h.2 hc
    obtain ⟨r3, c2, h, fc2⟩ := fr_wX2_free h
    have fc2 : c2 17 = c 17 := fc2.trans rfl
    by_cases hc : l4 ≤ r3
    · have h := h.1 hc
      obtain ⟨rr, cc, h, fcc⟩ := fr_wX0_makeCell_p109 h
      exact ⟨rr, cc, h, fcc.trans (fc2)⟩
    · have h := h.2 hc
      obtain ⟨c5, h, fc5⟩ := fr_wX7_finish h
      have fc5 : c5 17 = c 17 := fc5.trans (fc2)
      obtain ⟨rr, cc, h, fcc⟩ := h
      exact ⟨rr, cc, h, fcc.trans (fc5)⟩
theorem fr_wX0_makeCell_p75 {l1 : Int32} {l3 : Int32} {l4 : Int32} {c : gMem} {Q : Int32 → gMem → Prop} (h : wX0_makeCell_p75  l1 l3 l4 c Q) : ∃ r c', Q r c' ∧ c' 17 = c 17 := by
  unfold wX0_makeCell_p75 at h
  obtain ⟨rr, cc, h, fcc⟩ := fr_wX0_makeCell_p78 h
  exact ⟨rr, cc, h, fcc.trans rfl⟩
theorem fr_wX7_reach {l1 : Int32} {c : gMem} {Q : gMem → Prop} (h : wX7_reach  l1 c Q) : ∃ c', Q c' ∧ c' 17 = c 17 := by
  unfold wX7_reach at h
  obtain ⟨r2, c1, h, fc1⟩ := fr_wX2_has h
  have fc1 : c1 17 = c 17 := fc1.trans rfl
  by_cases hc : r2 = 0
  · have h := h.1 hc
    exact ⟨c1, h, fc1⟩
  · have h := h.2 hc
    have h := h.2
    obtain ⟨v4, ev4⟩ : ∃ x, x = c1 67 l1.toNatClampNeg := ⟨_, rfl⟩
    have h := h v4 ev4
    by_cases hc : v4 = 0
    · have h := h.1 hc
      have h := h.2
      obtain ⟨c7, ec7⟩ : ∃ x, x = mp c1 67 l1.toNatClampNeg 1 := ⟨_, rfl⟩
      have h := h c7 ec7
      have fc7 : c7 17 = c 17 := (congrFun ec7 17).trans ((mp_n (by decide)).trans fc1)
      obtain ⟨v9, ev9⟩ : ∃ x, x = c7 65 8 := ⟨_, rfl⟩
      have h := h v9 ev9
      have h := h.2
      obtain ⟨c10, ec10⟩ : ∃ x, x = mp c7 68 v9.toNatClampNeg l1 := ⟨_, rfl⟩
      have h := h c10 ec10
      have fc10 : c10 17 = c 17 := (congrFun ec10 17).trans ((mp_n (by decide)).trans fc7)
      obtain ⟨v12, ev12⟩ : ∃ x, x = c10 65 8 := ⟨_, rfl⟩
      have h := h v12 ev12
      obtain ⟨c13, ec13⟩ : ∃ x, x = mp c10 65 8 (v12 + 1) := ⟨_, rfl⟩
      have h := h c13 ec13
      have fc13 : c13 17 = c 17 := (congrFun ec13 17).trans ((mp_n (by decide)).trans fc10)
      exact ⟨c13, h, fc13⟩
    · have h := h.2 hc
      exact ⟨c1, h, fc1⟩
theorem fr_wX7_reachedInts_p82 {l1 : Int32} {l2 : Int32} {l3 : Int32} {l4 : Int32} {l5 : Int32} {l6 : Int32} {c : gMem} {Q : Int32 → gMem → Prop} {P44 : Int32 → Int32 → gMem → Prop} (hP44 : ∀ (a0 : Int32) (a1 : Int32) (c : gMem), P44 a0 a1 c → ∃ r c', Q r c' ∧ c' 17 = c 17) (h : wX7_reachedInts_p82 P44 l1 l2 l3 l4 l5 l6 c Q) : ∃ r c', Q r c' ∧ c' 17 = c 17 := by
  refine h (fun _ _ _ _ _ _ c => ∃ r c', Q r c' ∧ c' 17 = c 17) ?_
  intro l1 l2 l3 l4 l5 l6 c h
  unfold wX7_reachedInts_p82_b at h
  by_cases hc : l4 ≤ l6
  · have h := h.1 hc
    obtain ⟨r3, c2, h, fc2⟩ := fr_wX2_intsOf h
    have fc2 : c2 17 = c 17 := fc2.trans rfl
    have h := hP44 _ _ _ h
    obtain ⟨rr, cc, h, fcc⟩ := h
    exact ⟨rr, cc, h, fcc.trans (fc2)⟩
  · have h := h.2 hc
    have h := h.2
    obtain ⟨v4, ev4⟩ : ∃ x, x = c 3 (l5 + l6).toNatClampNeg := ⟨_, rfl⟩
    have h := h v4 ev4
    obtain ⟨c6, h, fc6⟩ := fr_wX7_reach h
    have fc6 : c6 17 = c 17 := fc6.trans rfl
    obtain ⟨rr, cc, h, fcc⟩ := h
    exact ⟨rr, cc, h, fcc.trans (fc6)⟩
theorem fr_wX7_reachedInts_p44 {l1 : Int32} {l2 : Int32} {c : gMem} {Q : Int32 → gMem → Prop} (h : wX7_reachedInts_p44  l1 l2 c Q) : ∃ r c', Q r c' ∧ c' 17 = c 17 := by
  refine h (fun _ _ c => ∃ r c', Q r c' ∧ c' 17 = c 17) ?_
  intro l1 l2 c h
  unfold wX7_reachedInts_p44_b at h
  obtain ⟨v1, ev1⟩ : ∃ x, x = c 65 8 := ⟨_, rfl⟩
  have h := h v1 ev1
  by_cases hc : v1 ≤ l2
  · have h := h.1 hc
    exact ⟨_, c, h, rfl⟩
  · have h := h.2 hc
    have h := h.2
    obtain ⟨v3, ev3⟩ : ∃ x, x = c 68 l2.toNatClampNeg := ⟨_, rfl⟩
    have h := h v3 ev3
    obtain ⟨r6, c5, h, fc5⟩ := fr_wX2_linksOf h
    have fc5 : c5 17 = c 17 := fc5.trans rfl
    obtain ⟨r8, c7, h, fc7⟩ := fr_wX2_linkPlace h
    have fc7 : c7 17 = c 17 := fc7.trans (fc5)
    obtain ⟨rr, cc, h, fcc⟩ := fr_wX7_reachedInts_p82 (fun _ _ _ h => h) h
    exact ⟨rr, cc, h, fcc.trans (fc7)⟩
theorem fr_wX7_reachedInts_p15 {l1 : Int32} {c : gMem} {Q : Int32 → gMem → Prop} (h : wX7_reachedInts_p15  l1 c Q) : ∃ r c', Q r c' ∧ c' 17 = c 17 := by
  refine h (fun _ c => ∃ r c', Q r c' ∧ c' 17 = c 17) ?_
  intro l1 c h
  unfold wX7_reachedInts_p15_b at h
  by_cases hc : 24 ≤ l1
  · have h := h.1 hc
    obtain ⟨rr, cc, h, fcc⟩ := fr_wX7_reachedInts_p44 h
    exact ⟨rr, cc, h, fcc.trans rfl⟩
  · have h := h.2 hc
    have h := h.2
    obtain ⟨v2, ev2⟩ : ∃ x, x = c 20 l1.toNatClampNeg := ⟨_, rfl⟩
    have h := h v2 ev2
    obtain ⟨c4, h, fc4⟩ := fr_wX7_reach h
    have fc4 : c4 17 = c 17 := fc4.trans rfl
    obtain ⟨rr, cc, h, fcc⟩ := h
    exact ⟨rr, cc, h, fcc.trans (fc4)⟩
theorem fr_wX7_reachedInts {c : gMem} {Q : Int32 → gMem → Prop} (h : wX7_reachedInts   c Q) : ∃ r c', Q r c' ∧ c' 17 = c 17 := by
  unfold wX7_reachedInts at h
  obtain ⟨c1, ec1⟩ : ∃ x, x = mr c 67 (fun _ => 0) := ⟨_, rfl⟩
  have h := h c1 ec1
  have fc1 : c1 17 = c 17 := (congrFun ec1 17).trans ((mr_n (by decide)).trans rfl)
  obtain ⟨c2, ec2⟩ : ∃ x, x = mp c1 65 8 0 := ⟨_, rfl⟩
  have h := h c2 ec2
  have fc2 : c2 17 = c 17 := (congrFun ec2 17).trans ((mp_n (by decide)).trans fc1)
  obtain ⟨rr, cc, h, fcc⟩ := fr_wX7_reachedInts_p15 h
  exact ⟨rr, cc, h, fcc.trans (fc2)⟩
theorem fr_wX0_makeCell_p12 {l1 : Int32} {s0 : Int32} {c : gMem} {Q : Int32 → gMem → Prop} (h : wX0_makeCell_p12  l1 s0 c Q) : ∃ r c', Q r c' ∧ c' 17 = c 17 := by
  unfold wX0_makeCell_p12 at h
  by_cases hc : 0 ≤ s0
  · have h := h.1 hc
    obtain ⟨r3, c2, h, fc2⟩ := fr_wX2_intsFor h
    have fc2 : c2 17 = c 17 := fc2.trans rfl
    obtain ⟨v4, ev4⟩ : ∃ x, x = c2 2 2 := ⟨_, rfl⟩
    have h := h v4 ev4
    by_cases hc : 500 ≤ v4
    · have h := h.1 hc
      exact ⟨_, c2, h, fc2⟩
    · have h := h.2 hc
      obtain ⟨r7, c6, h, fc6⟩ := fr_wX2_free h
      have fc6 : c6 17 = c 17 := fc6.trans (fc2)
      by_cases hc : r3 ≤ r7
      · have h := h.1 hc
        obtain ⟨rr, cc, h, fcc⟩ := fr_wX0_makeCell_p75 h
        exact ⟨rr, cc, h, fcc.trans (fc6)⟩
      · have h := h.2 hc
        obtain ⟨v9, ev9⟩ : ∃ x, x = c6 2 0 := ⟨_, rfl⟩
        have h := h v9 ev9
        obtain ⟨r11, c10, h, fc10⟩ := fr_wX7_reachedInts h
        have fc10 : c10 17 = c 17 := fc10.trans (fc6)
        by_cases hc : r3 ≤ v9 - r11
        · have h := h.1 hc
          obtain ⟨rr, cc, h, fcc⟩ := fr_wX0_makeCell_p75 h
          exact ⟨rr, cc, h, fcc.trans (fc10)⟩
        · have h := h.2 hc
          exact ⟨_, c10, h, fc10⟩
  · have h := h.2 hc
    exact ⟨_, c, h, rfl⟩
theorem fr_wX0_makeCell {l1 : Int32} {l2 : Int32} {c : gMem} {Q : Int32 → gMem → Prop} (h : wX0_makeCell  l1 l2 c Q) : ∃ r c', Q r c' ∧ c' 17 = c 17 := by
  unfold wX0_makeCell at h
  obtain ⟨r2, c1, h, fc1⟩ := fr_wX2_isCounted h
  have fc1 : c1 17 = c 17 := fc1.trans rfl
  by_cases hc : r2 = 0
  · have h := h.1 hc
    obtain ⟨rr, cc, h, fcc⟩ := fr_wX0_makeCell_p12 h
    exact ⟨rr, cc, h, fcc.trans (fc1)⟩
  · have h := h.2 hc
    obtain ⟨rr, cc, h, fcc⟩ := fr_wX0_makeCell_p12 h
    exact ⟨rr, cc, h, fcc.trans (fc1)⟩
theorem fr_wX2_copyFrom_p27 {c : gMem} {Q : gMem → Prop} (h : wX2_copyFrom_p27   c Q) : ∃ c', Q c' ∧ c' 17 = c 17 := by
  unfold wX2_copyFrom_p27 at h
  obtain ⟨v1, ev1⟩ : ∃ x, x = c 2 1 := ⟨_, rfl⟩
  have h := h v1 ev1
  have h := h.2
  obtain ⟨c3, ec3⟩ : ∃ x, x = mr c 45 (va_cpy (c 3) (c 45) 0 0 v1.toNatClampNeg) := ⟨_, rfl⟩
  have h := h c3 ec3
  have fc3 : c3 17 = c 17 := (congrFun ec3 17).trans ((mr_n (by decide)).trans rfl)
  have h := h.2
  obtain ⟨c5, ec5⟩ : ∃ x, x = mr c3 46 (va_cpy (c3 4) (c3 46) 0 0 500) := ⟨_, rfl⟩
  have h := h c5 ec5
  have fc5 : c5 17 = c 17 := (congrFun ec5 17).trans ((mr_n (by decide)).trans fc3)
  have h := h.2
  obtain ⟨c7, ec7⟩ : ∃ x, x = mr c5 47 (va_cpy (c5 5) (c5 47) 0 0 500) := ⟨_, rfl⟩
  have h := h c7 ec7
  have fc7 : c7 17 = c 17 := (congrFun ec7 17).trans ((mr_n (by decide)).trans fc5)
  obtain ⟨v8, ev8⟩ : ∃ x, x = c7 2 0 := ⟨_, rfl⟩
  have h := h v8 ev8
  obtain ⟨c9, ec9⟩ : ∃ x, x = mp c7 44 0 v8 := ⟨_, rfl⟩
  have h := h c9 ec9
  have fc9 : c9 17 = c 17 := (congrFun ec9 17).trans ((mp_n (by decide)).trans fc7)
  obtain ⟨v10, ev10⟩ : ∃ x, x = c9 2 1 := ⟨_, rfl⟩
  have h := h v10 ev10
  obtain ⟨c11, ec11⟩ : ∃ x, x = mp c9 44 1 v10 := ⟨_, rfl⟩
  have h := h c11 ec11
  have fc11 : c11 17 = c 17 := (congrFun ec11 17).trans ((mp_n (by decide)).trans fc9)
  obtain ⟨v12, ev12⟩ : ∃ x, x = c11 2 2 := ⟨_, rfl⟩
  have h := h v12 ev12
  obtain ⟨c13, ec13⟩ : ∃ x, x = mp c11 44 2 v12 := ⟨_, rfl⟩
  have h := h c13 ec13
  have fc13 : c13 17 = c 17 := (congrFun ec13 17).trans ((mp_n (by decide)).trans fc11)
  obtain ⟨v14, ev14⟩ : ∃ x, x = c13 2 3 := ⟨_, rfl⟩
  have h := h v14 ev14
  obtain ⟨c15, ec15⟩ : ∃ x, x = mp c13 44 3 v14 := ⟨_, rfl⟩
  have h := h c15 ec15
  have fc15 : c15 17 = c 17 := (congrFun ec15 17).trans ((mp_n (by decide)).trans fc13)
  exact ⟨c15, h, fc15⟩
theorem fr_wX2_copyFrom {c : gMem} {Q : gMem → Prop} (h : wX2_copyFrom   c Q) : ∃ c', Q c' ∧ c' 17 = c 17 := by
  unfold wX2_copyFrom at h
  obtain ⟨v1, ev1⟩ : ∃ x, x = c 44 1 := ⟨_, rfl⟩
  have h := h v1 ev1
  obtain ⟨v2, ev2⟩ : ∃ x, x = c 2 1 := ⟨_, rfl⟩
  have h := h v2 ev2
  by_cases hc : v1 ≤ v2
  · have h := h.1 hc
    obtain ⟨cc, h, fcc⟩ := fr_wX2_copyFrom_p27 h
    exact ⟨cc, h, fcc.trans rfl⟩
  · have h := h.2 hc
    obtain ⟨v4, ev4⟩ : ∃ x, x = c 2 1 := ⟨_, rfl⟩
    have h := h v4 ev4
    obtain ⟨v5, ev5⟩ : ∃ x, x = c 44 1 := ⟨_, rfl⟩
    have h := h v5 ev5
    obtain ⟨f7, t8, _, _, _, _, h⟩ := h
    obtain ⟨c6, ec6⟩ : ∃ x, x = mr c 45 (fun j => if f7 ≤ j ∧ j < t8 then 0 else c 45 j) := ⟨_, rfl⟩
    have h := h c6 ec6
    have fc6 : c6 17 = c 17 := (congrFun ec6 17).trans ((mr_n (by decide)).trans rfl)
    obtain ⟨cc, h, fcc⟩ := fr_wX2_copyFrom_p27 h
    exact ⟨cc, h, fcc.trans (fc6)⟩
theorem fr_wX3_copyFrom {c : gMem} {Q : gMem → Prop} (h : wX3_copyFrom   c Q) : ∃ c', Q c' ∧ c' 17 = c 17 := by
  unfold wX3_copyFrom at h
  obtain ⟨v1, ev1⟩ : ∃ x, x = c 6 0 := ⟨_, rfl⟩
  have h := h v1 ev1
  have h := h.2
  obtain ⟨c2, ec2⟩ : ∃ x, x = mp c 48 0 v1 := ⟨_, rfl⟩
  have h := h c2 ec2
  have fc2 : c2 17 = c 17 := (congrFun ec2 17).trans ((mp_n (by decide)).trans rfl)
  obtain ⟨v4, ev4⟩ : ∃ x, x = c2 6 1 := ⟨_, rfl⟩
  have h := h v4 ev4
  obtain ⟨c5, ec5⟩ : ∃ x, x = mp c2 48 1 v4 := ⟨_, rfl⟩
  have h := h c5 ec5
  have fc5 : c5 17 = c 17 := (congrFun ec5 17).trans ((mp_n (by decide)).trans fc2)
  obtain ⟨v6, ev6⟩ : ∃ x, x = c5 6 2 := ⟨_, rfl⟩
  have h := h v6 ev6
  obtain ⟨c7, ec7⟩ : ∃ x, x = mp c5 48 2 v6 := ⟨_, rfl⟩
  have h := h c7 ec7
  have fc7 : c7 17 = c 17 := (congrFun ec7 17).trans ((mp_n (by decide)).trans fc5)
  obtain ⟨v8, ev8⟩ : ∃ x, x = c7 6 3 := ⟨_, rfl⟩
  have h := h v8 ev8
  obtain ⟨c9, ec9⟩ : ∃ x, x = mp c7 48 3 v8 := ⟨_, rfl⟩
  have h := h c9 ec9
  have fc9 : c9 17 = c 17 := (congrFun ec9 17).trans ((mp_n (by decide)).trans fc7)
  have h := h.2
  obtain ⟨c11, ec11⟩ : ∃ x, x = mr c9 49 (va_cpy (c9 7) (c9 49) 0 0 500) := ⟨_, rfl⟩
  have h := h c11 ec11
  have fc11 : c11 17 = c 17 := (congrFun ec11 17).trans ((mr_n (by decide)).trans fc9)
  have h := h.2
  obtain ⟨c13, ec13⟩ : ∃ x, x = mr c11 50 (va_cpy (c11 8) (c11 50) 0 0 500) := ⟨_, rfl⟩
  have h := h c13 ec13
  have fc13 : c13 17 = c 17 := (congrFun ec13 17).trans ((mr_n (by decide)).trans fc11)
  have h := h.2
  obtain ⟨c15, ec15⟩ : ∃ x, x = mr c13 51 (va_cpy (c13 9) (c13 51) 0 0 500) := ⟨_, rfl⟩
  have h := h c15 ec15
  have fc15 : c15 17 = c 17 := (congrFun ec15 17).trans ((mr_n (by decide)).trans fc13)
  have h := h.2
  obtain ⟨c17, ec17⟩ : ∃ x, x = mr c15 52 (va_cpy (c15 10) (c15 52) 0 0 500) := ⟨_, rfl⟩
  have h := h c17 ec17
  have fc17 : c17 17 = c 17 := (congrFun ec17 17).trans ((mr_n (by decide)).trans fc15)
  have h := h.2
  obtain ⟨c19, ec19⟩ : ∃ x, x = mr c17 53 (va_cpy (c17 11) (c17 53) 0 0 500) := ⟨_, rfl⟩
  have h := h c19 ec19
  have fc19 : c19 17 = c 17 := (congrFun ec19 17).trans ((mr_n (by decide)).trans fc17)
  exact ⟨c19, h, fc19⟩
theorem fr_wX8_copyFrom {c : gMem} {Q : gMem → Prop} (h : wX8_copyFrom   c Q) : ∃ c', Q c' ∧ c' 17 = c 17 := by
  unfold wX8_copyFrom at h
  obtain ⟨v1, ev1⟩ : ∃ x, x = c 12 0 := ⟨_, rfl⟩
  have h := h v1 ev1
  obtain ⟨c2, ec2⟩ : ∃ x, x = mp c 54 0 v1 := ⟨_, rfl⟩
  have h := h c2 ec2
  have fc2 : c2 17 = c 17 := (congrFun ec2 17).trans ((mp_n (by decide)).trans rfl)
  obtain ⟨v3, ev3⟩ : ∃ x, x = c2 12 1 := ⟨_, rfl⟩
  have h := h v3 ev3
  obtain ⟨c4, ec4⟩ : ∃ x, x = mp c2 54 1 v3 := ⟨_, rfl⟩
  have h := h c4 ec4
  have fc4 : c4 17 = c 17 := (congrFun ec4 17).trans ((mp_n (by decide)).trans fc2)
  obtain ⟨v5, ev5⟩ : ∃ x, x = c4 12 2 := ⟨_, rfl⟩
  have h := h v5 ev5
  obtain ⟨c6, ec6⟩ : ∃ x, x = mp c4 54 2 v5 := ⟨_, rfl⟩
  have h := h c6 ec6
  have fc6 : c6 17 = c 17 := (congrFun ec6 17).trans ((mp_n (by decide)).trans fc4)
  obtain ⟨v7, ev7⟩ : ∃ x, x = c6 12 3 := ⟨_, rfl⟩
  have h := h v7 ev7
  obtain ⟨c8, ec8⟩ : ∃ x, x = mp c6 54 3 v7 := ⟨_, rfl⟩
  have h := h c8 ec8
  have fc8 : c8 17 = c 17 := (congrFun ec8 17).trans ((mp_n (by decide)).trans fc6)
  obtain ⟨v9, ev9⟩ : ∃ x, x = c8 12 4 := ⟨_, rfl⟩
  have h := h v9 ev9
  obtain ⟨c10, ec10⟩ : ∃ x, x = mp c8 54 4 v9 := ⟨_, rfl⟩
  have h := h c10 ec10
  have fc10 : c10 17 = c 17 := (congrFun ec10 17).trans ((mp_n (by decide)).trans fc8)
  obtain ⟨v11, ev11⟩ : ∃ x, x = c10 12 5 := ⟨_, rfl⟩
  have h := h v11 ev11
  obtain ⟨c12, ec12⟩ : ∃ x, x = mp c10 54 5 v11 := ⟨_, rfl⟩
  have h := h c12 ec12
  have fc12 : c12 17 = c 17 := (congrFun ec12 17).trans ((mp_n (by decide)).trans fc10)
  have h := h.2
  obtain ⟨c14, ec14⟩ : ∃ x, x = mr c12 55 (va_cpy (c12 13) (c12 55) 0 0 300) := ⟨_, rfl⟩
  have h := h c14 ec14
  have fc14 : c14 17 = c 17 := (congrFun ec14 17).trans ((mr_n (by decide)).trans fc12)
  exact ⟨c14, h, fc14⟩
theorem fr_wX4_copyFrom {c : gMem} {Q : gMem → Prop} (h : wX4_copyFrom   c Q) : ∃ c', Q c' ∧ c' 17 = c 17 := by
  unfold wX4_copyFrom at h
  obtain ⟨v1, ev1⟩ : ∃ x, x = c 14 0 := ⟨_, rfl⟩
  have h := h v1 ev1
  obtain ⟨c2, ec2⟩ : ∃ x, x = mp c 56 0 v1 := ⟨_, rfl⟩
  have h := h c2 ec2
  have fc2 : c2 17 = c 17 := (congrFun ec2 17).trans ((mp_n (by decide)).trans rfl)
  obtain ⟨v3, ev3⟩ : ∃ x, x = c2 56 0 := ⟨_, rfl⟩
  have h := h v3 ev3
  have h := h.2
  obtain ⟨c5, ec5⟩ : ∃ x, x = mr c2 57 (va_cpy (c2 15) (c2 57) 0 0 v3.toNatClampNeg) := ⟨_, rfl⟩
  have h := h c5 ec5
  have fc5 : c5 17 = c 17 := (congrFun ec5 17).trans ((mr_n (by decide)).trans fc2)
  obtain ⟨v6, ev6⟩ : ∃ x, x = c5 56 0 := ⟨_, rfl⟩
  have h := h v6 ev6
  have h := h.2
  obtain ⟨c8, ec8⟩ : ∃ x, x = mr c5 58 (va_cpy (c5 16) (c5 58) 0 0 v6.toNatClampNeg) := ⟨_, rfl⟩
  have h := h c8 ec8
  have fc8 : c8 17 = c 17 := (congrFun ec8 17).trans ((mr_n (by decide)).trans fc5)
  exact ⟨c8, h, fc8⟩
theorem fr_wX5_copyFrom {c : gMem} {Q : gMem → Prop} (h : wX5_copyFrom   c Q) : ∃ c', Q c' ∧ c' 17 = c 17 := by
  unfold wX5_copyFrom at h
  obtain ⟨v1, ev1⟩ : ∃ x, x = c 17 0 := ⟨_, rfl⟩
  have h := h v1 ev1
  obtain ⟨c2, ec2⟩ : ∃ x, x = mp c 59 0 v1 := ⟨_, rfl⟩
  have h := h c2 ec2
  have fc2 : c2 17 = c 17 := (congrFun ec2 17).trans ((mp_n (by decide)).trans rfl)
  obtain ⟨v3, ev3⟩ : ∃ x, x = c2 17 1 := ⟨_, rfl⟩
  have h := h v3 ev3
  obtain ⟨c4, ec4⟩ : ∃ x, x = mp c2 59 1 v3 := ⟨_, rfl⟩
  have h := h c4 ec4
  have fc4 : c4 17 = c 17 := (congrFun ec4 17).trans ((mp_n (by decide)).trans fc2)
  obtain ⟨v5, ev5⟩ : ∃ x, x = c4 17 2 := ⟨_, rfl⟩
  have h := h v5 ev5
  obtain ⟨c6, ec6⟩ : ∃ x, x = mp c4 59 2 v5 := ⟨_, rfl⟩
  have h := h c6 ec6
  have fc6 : c6 17 = c 17 := (congrFun ec6 17).trans ((mp_n (by decide)).trans fc4)
  obtain ⟨v7, ev7⟩ : ∃ x, x = c6 17 3 := ⟨_, rfl⟩
  have h := h v7 ev7
  obtain ⟨c8, ec8⟩ : ∃ x, x = mp c6 59 3 v7 := ⟨_, rfl⟩
  have h := h c8 ec8
  have fc8 : c8 17 = c 17 := (congrFun ec8 17).trans ((mp_n (by decide)).trans fc6)
  have h := h.2
  obtain ⟨c10, ec10⟩ : ∃ x, x = mr c8 60 (va_cpy (c8 18) (c8 60) 0 0 200) := ⟨_, rfl⟩
  have h := h c10 ec10
  have fc10 : c10 17 = c 17 := (congrFun ec10 17).trans ((mr_n (by decide)).trans fc8)
  have h := h.2
  obtain ⟨c12, ec12⟩ : ∃ x, x = mr c10 61 (va_cpy (c10 19) (c10 61) 0 0 8) := ⟨_, rfl⟩
  have h := h c12 ec12
  have fc12 : c12 17 = c 17 := (congrFun ec12 17).trans ((mr_n (by decide)).trans fc10)
  exact ⟨c12, h, fc12⟩
theorem fr_wX6_become {c : gMem} {Q : gMem → Prop} (h : wX6_become   c Q) : ∃ c', Q c' ∧ c' 17 = c 17 := by
  unfold wX6_become at h
  obtain ⟨c1, h, fc1⟩ := fr_wX2_copyFrom h
  have fc1 : c1 17 = c 17 := fc1.trans rfl
  obtain ⟨c2, h, fc2⟩ := fr_wX3_copyFrom h
  have fc2 : c2 17 = c 17 := fc2.trans (fc1)
  obtain ⟨c3, h, fc3⟩ := fr_wX8_copyFrom h
  have fc3 : c3 17 = c 17 := fc3.trans (fc2)
  obtain ⟨c4, h, fc4⟩ := fr_wX4_copyFrom h
  have fc4 : c4 17 = c 17 := fc4.trans (fc3)
  obtain ⟨c5, h, fc5⟩ := fr_wX5_copyFrom h
  have fc5 : c5 17 = c 17 := fc5.trans (fc4)
  have h := h.2
  obtain ⟨c7, ec7⟩ : ∃ x, x = mr c5 62 (va_cpy (c5 20) (c5 62) 0 0 24) := ⟨_, rfl⟩
  have h := h c7 ec7
  have fc7 : c7 17 = c 17 := (congrFun ec7 17).trans ((mr_n (by decide)).trans fc5)
  have h := h.2
  obtain ⟨c9, ec9⟩ : ∃ x, x = mr c7 63 (va_cpy (c7 21) (c7 63) 0 0 32) := ⟨_, rfl⟩
  have h := h c9 ec9
  have fc9 : c9 17 = c 17 := (congrFun ec9 17).trans ((mr_n (by decide)).trans fc7)
  exact ⟨c9, h, fc9⟩
theorem fr_wX7_goOn_p14 {l1 : Int32} {c : gMem} {Q : Int32 → gMem → Prop} (h : wX7_goOn_p14  l1 c Q) : ∃ r c', Q r c' ∧ c' 17 = c 17 := by
  unfold wX7_goOn_p14 at h
  obtain ⟨r2, c1, h, fc1⟩ := fr_wX7_lookThrough h
  have fc1 : c1 17 = c 17 := fc1.trans rfl
  obtain ⟨r4, c3, h, fc3⟩ := fr_wX7_goToOpenLink h
  have fc3 : c3 17 = c 17 := fc3.trans (fc1)
  by_cases hc : r4 = 0
  · have h := h.1 hc
    obtain ⟨c6, h, fc6⟩ := fr_wX7_end h
    have fc6 : c6 17 = c 17 := fc6.trans (fc3)
    exact ⟨_, c6, h, fc6⟩
  · have h := h.2 hc
    exact ⟨_, c3, h, fc3⟩
theorem fr_wX7_goOn {l1 : Int32} {c : gMem} {Q : Int32 → gMem → Prop} (h : wX7_goOn  l1 c Q) : ∃ r c', Q r c' ∧ c' 17 = c 17 := by
  unfold wX7_goOn at h
  obtain ⟨v1, ev1⟩ : ∃ x, x = c 6 0 := ⟨_, rfl⟩
  have h := h v1 ev1
  by_cases hc : v1 = 0
  · have h := h.1 hc
    obtain ⟨c3, h, fc3⟩ := fr_wX7_begin h
    have fc3 : c3 17 = c 17 := fc3.trans rfl
    obtain ⟨rr, cc, h, fcc⟩ := fr_wX7_goOn_p14 h
    exact ⟨rr, cc, h, fcc.trans (fc3)⟩
  · have h := h.2 hc
    obtain ⟨rr, cc, h, fcc⟩ := fr_wX7_goOn_p14 h
    exact ⟨rr, cc, h, fcc.trans rfl⟩
theorem fr_wX9_stepKeepingBefore {l1 : Int32} {c : gMem} {Q : Int32 → gMem → Prop} (h : wX9_stepKeepingBefore  l1 c Q) : ∃ r c', Q r c' ∧ c' 17 = c 17 := by
  unfold wX9_stepKeepingBefore at h
  obtain ⟨c1, h, fc1⟩ := fr_wX6_become h
  have fc1 : c1 17 = c 17 := fc1.trans rfl
  obtain ⟨c2, ec2⟩ : ∃ x, x = mp c1 0 10 1 := ⟨_, rfl⟩
  have h := h c2 ec2
  have fc2 : c2 17 = c 17 := (congrFun ec2 17).trans ((mp_n (by decide)).trans fc1)
  obtain ⟨r4, c3, h, fc3⟩ := fr_wX7_goOn h
  have fc3 : c3 17 = c 17 := fc3.trans (fc2)
  exact ⟨_, c3, h, fc3⟩

/-! the memories of the class (cells 0 to 73) and of the reference (74 to 83) as worlds, by wip/tools/wgen.py -/
def gnum (G : gG) (x : Int32) : Nat := if x = 1 then G.2.1 + 16 else G.2.1 + 71
def celL (G : gG) (f : Nat → Int32) : List va_E := [ob 9 [.ref (G.2.1 + 1), .ref (G.2.1 + 65), .ref (G.2.1 + 69), .ref (G.2.1 + 70), .ref (G.2.1 + 64), .int (f 5), .int (f 6), .ref (G.2.1 + 22), .int (f 8), .ref (G.2.1 + 43), .int (f 10)],
  ob 6 [.ref (G.2.1 + 2), .ref (G.2.1 + 6), .ref (G.2.1 + 12), .ref (G.2.1 + 14), .ref (G.2.1 + 17), .ref (G.2.1 + 20), .ref (G.2.1 + 21)],
  ob 2 [.int (f 0), .int (f 1), .int (f 2), .int (f 3), .ref (G.2.1 + 3), .ref (G.2.1 + 4), .ref (G.2.1 + 5)],
  ai G 4000 f,
  ai G 500 f,
  ai G 500 f,
  ob 3 [.int (f 0), .int (f 1), .int (f 2), .int (f 3), .ref (G.2.1 + 7), .ref (G.2.1 + 8), .ref (G.2.1 + 9), .ref (G.2.1 + 10), .ref (G.2.1 + 11)],
  ai G 500 f,
  ai G 500 f,
  ai G 500 f,
  ai G 500 f,
  ai G 500 f,
  ob 8 [.int (f 0), .int (f 1), .int (f 2), .int (f 3), .int (f 4), .int (f 5), .ref (G.2.1 + 13)],
  ai G 300 f,
  ob 4 [.int (f 0), .ref (G.2.1 + 15), .ref (G.2.1 + 16)],
  ai G 6527 f,
  ai G 6527 f,
  ob 5 [.int (f 0), .int (f 1), .int (f 2), .int (f 3), .ref (G.2.1 + 18), .ref (G.2.1 + 19)],
  ai G 200 f,
  ai G 8 f,
  ai G 24 f,
  ai G 32 f,
  ob 6 [.ref (G.2.1 + 23), .ref (G.2.1 + 27), .ref (G.2.1 + 33), .ref (G.2.1 + 35), .ref (G.2.1 + 38), .ref (G.2.1 + 41), .ref (G.2.1 + 42)],
  ob 2 [.int (f 0), .int (f 1), .int (f 2), .int (f 3), .ref (G.2.1 + 24), .ref (G.2.1 + 25), .ref (G.2.1 + 26)],
  ai G 4000 f,
  ai G 500 f,
  ai G 500 f,
  ob 3 [.int (f 0), .int (f 1), .int (f 2), .int (f 3), .ref (G.2.1 + 28), .ref (G.2.1 + 29), .ref (G.2.1 + 30), .ref (G.2.1 + 31), .ref (G.2.1 + 32)],
  ai G 500 f,
  ai G 500 f,
  ai G 500 f,
  ai G 500 f,
  ai G 500 f,
  ob 8 [.int (f 0), .int (f 1), .int (f 2), .int (f 3), .int (f 4), .int (f 5), .ref (G.2.1 + 34)],
  ai G 300 f,
  ob 4 [.int (f 0), .ref (G.2.1 + 36), .ref (G.2.1 + 37)],
  ai G 6527 f,
  ai G 6527 f,
  ob 5 [.int (f 0), .int (f 1), .int (f 2), .int (f 3), .ref (G.2.1 + 39), .ref (G.2.1 + 40)],
  ai G 200 f,
  ai G 8 f,
  ai G 24 f,
  ai G 32 f,
  ob 6 [.ref (G.2.1 + 44), .ref (G.2.1 + 48), .ref (G.2.1 + 54), .ref (G.2.1 + 56), .ref (G.2.1 + 59), .ref (G.2.1 + 62), .ref (G.2.1 + 63)],
  ob 2 [.int (f 0), .int (f 1), .int (f 2), .int (f 3), .ref (G.2.1 + 45), .ref (G.2.1 + 46), .ref (G.2.1 + 47)],
  ai G 4000 f,
  ai G 500 f,
  ai G 500 f,
  ob 3 [.int (f 0), .int (f 1), .int (f 2), .int (f 3), .ref (G.2.1 + 49), .ref (G.2.1 + 50), .ref (G.2.1 + 51), .ref (G.2.1 + 52), .ref (G.2.1 + 53)],
  ai G 500 f,
  ai G 500 f,
  ai G 500 f,
  ai G 500 f,
  ai G 500 f,
  ob 8 [.int (f 0), .int (f 1), .int (f 2), .int (f 3), .int (f 4), .int (f 5), .ref (G.2.1 + 55)],
  ai G 300 f,
  ob 4 [.int (f 0), .ref (G.2.1 + 57), .ref (G.2.1 + 58)],
  ai G 6527 f,
  ai G 6527 f,
  ob 5 [.int (f 0), .int (f 1), .int (f 2), .int (f 3), .ref (G.2.1 + 60), .ref (G.2.1 + 61)],
  ai G 200 f,
  ai G 8 f,
  ai G 24 f,
  ai G 32 f,
  ai G 14 f,
  ob 7 [.ref (G.2.1 + 1), .ref (G.2.1 + 2), .ref (G.2.1 + 6), .ref (G.2.1 + 64), .ref (G.2.1 + 66), .int (f 5), .ref (G.2.1 + 67), .ref (G.2.1 + 68), .int (f 8)],
  ai G 500 f,
  ai G 500 f,
  ai G 500 f,
  ob 0 [.ref (G.2.1 + 1), .ref (G.2.1 + 2), .ref (G.2.1 + 65), .int (f 3)],
  ob 1 [.ref (gnum G (f 0)), .int (f 1), .int (f 2), .ref (G.2.1 + 72), .ref (G.2.1 + 73)],
  ai G 0 f,
  ai G 500 f,
  ai G 501 f,
  ob 10 [.ref (G.2.1 + 75), .ref (G.2.1 + 76), .ref (G.2.1 + 77), .int (f 3), .int (f 4), .int (f 5), .int (f 6), .int (f 7), .ref (G.2.1 + 78), .ref (G.2.1 + 79), .ref (G.2.1 + 80), .ref (G.2.1 + 81), .int (f 12), .ref (G.2.1 + 82), .int (f 14), .ref (G.2.1 + 83)],
  ai G 26100 f,
  ai G 26100 f,
  ai G 26100 f,
  ai G 14 f,
  ai G 500 f,
  ai G 500 f,
  az G 500 f,
  ai G 501 f,
  ai G 500 f]
def cell_ (G : gG) (i : Nat) (f : Nat → Int32) : va_E := ((celL G f)[i]?).getD (ob 0 [])
def wX (G : gG) (o c : gMem) : Nat → va_E := fun a => if a < G.2.1 then ob 0 [] else cell_ G (a - G.2.1) (if a - G.2.1 < 74 then c (a - G.2.1) else o (a - G.2.1 - 74))
def wM (G : gG) (o c : gMem) : Nat → va_E := wX G c o
theorem mr_s {c : gMem} {i : Nat} {f : Nat → Int32} : mr c i f i = f := if_pos rfl
theorem mr_n {c : gMem} {i a : Nat} {f : Nat → Int32} (h : a ≠ i) : mr c i f a = c a := if_neg h
section MEM
variable {G : gG} {o c : gMem}
theorem wX_at {i : Nat} (h : i < 74) : wX G o c (G.2.1 + i) = cell_ G i (c i) := by
  unfold wX; rw [if_neg (by omega), Nat.add_sub_cancel_left, if_pos h]
theorem wM_at {i : Nat} : wM G o c (G.2.1 + (74 + i)) = cell_ G (74 + i) (c i) := by
  unfold wM wX; rw [if_neg (by omega), Nat.add_sub_cancel_left, if_neg (by omega), Nat.add_sub_cancel_left]
theorem wX_up {i : Nat} {f : Nat → Int32} (h : i < 74) : va_up (wX G o c) (G.2.1 + i) (cell_ G i f) = wX G o (mr c i f) := by
  funext a
  by_cases ha : a = G.2.1 + i
  · subst ha; rw [va_up_self, wX_at h, mr_s]
  · rw [va_up_ne _ _ ha]
    unfold wX
    by_cases h1 : a < G.2.1
    · rw [if_pos h1, if_pos h1]
    · rw [if_neg h1, if_neg h1, mr_n (show a - G.2.1 ≠ i by omega)]
theorem wM_up {i : Nat} {f : Nat → Int32} : va_up (wM G o c) (G.2.1 + (74 + i)) (cell_ G (74 + i) f) = wM G o (mr c i f) := by
  funext a
  by_cases ha : a = G.2.1 + (74 + i)
  · subst ha; rw [va_up_self, wM_at, mr_s]
  · rw [va_up_ne _ _ ha]
    unfold wM wX
    by_cases h1 : a < G.2.1
    · rw [if_pos h1, if_pos h1]
    · rw [if_neg h1, if_neg h1]
      by_cases h2 : a - G.2.1 < 74
      · rw [if_pos h2, if_pos h2]
      · rw [if_neg h2, if_neg h2, mr_n (show a - G.2.1 - 74 ≠ i by omega)]
theorem xw0 : wX G o c (G.2.1 + 0) = ob 9 [.ref (G.2.1 + 1), .ref (G.2.1 + 65), .ref (G.2.1 + 69), .ref (G.2.1 + 70), .ref (G.2.1 + 64), .int (c 0 5), .int (c 0 6), .ref (G.2.1 + 22), .int (c 0 8), .ref (G.2.1 + 43), .int (c 0 10)] := (wX_at (by decide)).trans rfl
theorem xp0_5 {v : Int32} : va_up (wX G o c) (G.2.1 + 0) (ob 9 (List.set [.ref (G.2.1 + 1), .ref (G.2.1 + 65), .ref (G.2.1 + 69), .ref (G.2.1 + 70), .ref (G.2.1 + 64), .int (c 0 5), .int (c 0 6), .ref (G.2.1 + 22), .int (c 0 8), .ref (G.2.1 + 43), .int (c 0 10)] 5 (.int v))) = wX G o (mp c 0 5 v) := wX_up (i := 0) (by decide) (f := upd (c 0) 5 v)
theorem xp0_6 {v : Int32} : va_up (wX G o c) (G.2.1 + 0) (ob 9 (List.set [.ref (G.2.1 + 1), .ref (G.2.1 + 65), .ref (G.2.1 + 69), .ref (G.2.1 + 70), .ref (G.2.1 + 64), .int (c 0 5), .int (c 0 6), .ref (G.2.1 + 22), .int (c 0 8), .ref (G.2.1 + 43), .int (c 0 10)] 6 (.int v))) = wX G o (mp c 0 6 v) := wX_up (i := 0) (by decide) (f := upd (c 0) 6 v)
theorem xp0_8 {v : Int32} : va_up (wX G o c) (G.2.1 + 0) (ob 9 (List.set [.ref (G.2.1 + 1), .ref (G.2.1 + 65), .ref (G.2.1 + 69), .ref (G.2.1 + 70), .ref (G.2.1 + 64), .int (c 0 5), .int (c 0 6), .ref (G.2.1 + 22), .int (c 0 8), .ref (G.2.1 + 43), .int (c 0 10)] 8 (.int v))) = wX G o (mp c 0 8 v) := wX_up (i := 0) (by decide) (f := upd (c 0) 8 v)
theorem xp0_10 {v : Int32} : va_up (wX G o c) (G.2.1 + 0) (ob 9 (List.set [.ref (G.2.1 + 1), .ref (G.2.1 + 65), .ref (G.2.1 + 69), .ref (G.2.1 + 70), .ref (G.2.1 + 64), .int (c 0 5), .int (c 0 6), .ref (G.2.1 + 22), .int (c 0 8), .ref (G.2.1 + 43), .int (c 0 10)] 10 (.int v))) = wX G o (mp c 0 10 v) := wX_up (i := 0) (by decide) (f := upd (c 0) 10 v)
theorem xw1 : wX G o c (G.2.1 + 1) = ob 6 [.ref (G.2.1 + 2), .ref (G.2.1 + 6), .ref (G.2.1 + 12), .ref (G.2.1 + 14), .ref (G.2.1 + 17), .ref (G.2.1 + 20), .ref (G.2.1 + 21)] := (wX_at (by decide)).trans rfl
theorem xw2 : wX G o c (G.2.1 + 2) = ob 2 [.int (c 2 0), .int (c 2 1), .int (c 2 2), .int (c 2 3), .ref (G.2.1 + 3), .ref (G.2.1 + 4), .ref (G.2.1 + 5)] := (wX_at (by decide)).trans rfl
theorem xp2_0 {v : Int32} : va_up (wX G o c) (G.2.1 + 2) (ob 2 (List.set [.int (c 2 0), .int (c 2 1), .int (c 2 2), .int (c 2 3), .ref (G.2.1 + 3), .ref (G.2.1 + 4), .ref (G.2.1 + 5)] 0 (.int v))) = wX G o (mp c 2 0 v) := wX_up (i := 2) (by decide) (f := upd (c 2) 0 v)
theorem xp2_1 {v : Int32} : va_up (wX G o c) (G.2.1 + 2) (ob 2 (List.set [.int (c 2 0), .int (c 2 1), .int (c 2 2), .int (c 2 3), .ref (G.2.1 + 3), .ref (G.2.1 + 4), .ref (G.2.1 + 5)] 1 (.int v))) = wX G o (mp c 2 1 v) := wX_up (i := 2) (by decide) (f := upd (c 2) 1 v)
theorem xp2_2 {v : Int32} : va_up (wX G o c) (G.2.1 + 2) (ob 2 (List.set [.int (c 2 0), .int (c 2 1), .int (c 2 2), .int (c 2 3), .ref (G.2.1 + 3), .ref (G.2.1 + 4), .ref (G.2.1 + 5)] 2 (.int v))) = wX G o (mp c 2 2 v) := wX_up (i := 2) (by decide) (f := upd (c 2) 2 v)
theorem xp2_3 {v : Int32} : va_up (wX G o c) (G.2.1 + 2) (ob 2 (List.set [.int (c 2 0), .int (c 2 1), .int (c 2 2), .int (c 2 3), .ref (G.2.1 + 3), .ref (G.2.1 + 4), .ref (G.2.1 + 5)] 3 (.int v))) = wX G o (mp c 2 3 v) := wX_up (i := 2) (by decide) (f := upd (c 2) 3 v)
theorem xw3 : wX G o c (G.2.1 + 3) = ai G 4000 (c 3) := (wX_at (by decide)).trans rfl
theorem xa3 {f : Nat → Int32} : va_up (wX G o c) (G.2.1 + 3) (ai G 4000 f) = wX G o (mr c 3 f) := wX_up (i := 3) (by decide)
theorem xw4 : wX G o c (G.2.1 + 4) = ai G 500 (c 4) := (wX_at (by decide)).trans rfl
theorem xa4 {f : Nat → Int32} : va_up (wX G o c) (G.2.1 + 4) (ai G 500 f) = wX G o (mr c 4 f) := wX_up (i := 4) (by decide)
theorem xw5 : wX G o c (G.2.1 + 5) = ai G 500 (c 5) := (wX_at (by decide)).trans rfl
theorem xa5 {f : Nat → Int32} : va_up (wX G o c) (G.2.1 + 5) (ai G 500 f) = wX G o (mr c 5 f) := wX_up (i := 5) (by decide)
theorem xw6 : wX G o c (G.2.1 + 6) = ob 3 [.int (c 6 0), .int (c 6 1), .int (c 6 2), .int (c 6 3), .ref (G.2.1 + 7), .ref (G.2.1 + 8), .ref (G.2.1 + 9), .ref (G.2.1 + 10), .ref (G.2.1 + 11)] := (wX_at (by decide)).trans rfl
theorem xp6_0 {v : Int32} : va_up (wX G o c) (G.2.1 + 6) (ob 3 (List.set [.int (c 6 0), .int (c 6 1), .int (c 6 2), .int (c 6 3), .ref (G.2.1 + 7), .ref (G.2.1 + 8), .ref (G.2.1 + 9), .ref (G.2.1 + 10), .ref (G.2.1 + 11)] 0 (.int v))) = wX G o (mp c 6 0 v) := wX_up (i := 6) (by decide) (f := upd (c 6) 0 v)
theorem xp6_1 {v : Int32} : va_up (wX G o c) (G.2.1 + 6) (ob 3 (List.set [.int (c 6 0), .int (c 6 1), .int (c 6 2), .int (c 6 3), .ref (G.2.1 + 7), .ref (G.2.1 + 8), .ref (G.2.1 + 9), .ref (G.2.1 + 10), .ref (G.2.1 + 11)] 1 (.int v))) = wX G o (mp c 6 1 v) := wX_up (i := 6) (by decide) (f := upd (c 6) 1 v)
theorem xp6_2 {v : Int32} : va_up (wX G o c) (G.2.1 + 6) (ob 3 (List.set [.int (c 6 0), .int (c 6 1), .int (c 6 2), .int (c 6 3), .ref (G.2.1 + 7), .ref (G.2.1 + 8), .ref (G.2.1 + 9), .ref (G.2.1 + 10), .ref (G.2.1 + 11)] 2 (.int v))) = wX G o (mp c 6 2 v) := wX_up (i := 6) (by decide) (f := upd (c 6) 2 v)
theorem xp6_3 {v : Int32} : va_up (wX G o c) (G.2.1 + 6) (ob 3 (List.set [.int (c 6 0), .int (c 6 1), .int (c 6 2), .int (c 6 3), .ref (G.2.1 + 7), .ref (G.2.1 + 8), .ref (G.2.1 + 9), .ref (G.2.1 + 10), .ref (G.2.1 + 11)] 3 (.int v))) = wX G o (mp c 6 3 v) := wX_up (i := 6) (by decide) (f := upd (c 6) 3 v)
theorem xw7 : wX G o c (G.2.1 + 7) = ai G 500 (c 7) := (wX_at (by decide)).trans rfl
theorem xa7 {f : Nat → Int32} : va_up (wX G o c) (G.2.1 + 7) (ai G 500 f) = wX G o (mr c 7 f) := wX_up (i := 7) (by decide)
theorem xw8 : wX G o c (G.2.1 + 8) = ai G 500 (c 8) := (wX_at (by decide)).trans rfl
theorem xa8 {f : Nat → Int32} : va_up (wX G o c) (G.2.1 + 8) (ai G 500 f) = wX G o (mr c 8 f) := wX_up (i := 8) (by decide)
theorem xw9 : wX G o c (G.2.1 + 9) = ai G 500 (c 9) := (wX_at (by decide)).trans rfl
theorem xa9 {f : Nat → Int32} : va_up (wX G o c) (G.2.1 + 9) (ai G 500 f) = wX G o (mr c 9 f) := wX_up (i := 9) (by decide)
theorem xw10 : wX G o c (G.2.1 + 10) = ai G 500 (c 10) := (wX_at (by decide)).trans rfl
theorem xa10 {f : Nat → Int32} : va_up (wX G o c) (G.2.1 + 10) (ai G 500 f) = wX G o (mr c 10 f) := wX_up (i := 10) (by decide)
theorem xw11 : wX G o c (G.2.1 + 11) = ai G 500 (c 11) := (wX_at (by decide)).trans rfl
theorem xa11 {f : Nat → Int32} : va_up (wX G o c) (G.2.1 + 11) (ai G 500 f) = wX G o (mr c 11 f) := wX_up (i := 11) (by decide)
theorem xw12 : wX G o c (G.2.1 + 12) = ob 8 [.int (c 12 0), .int (c 12 1), .int (c 12 2), .int (c 12 3), .int (c 12 4), .int (c 12 5), .ref (G.2.1 + 13)] := (wX_at (by decide)).trans rfl
theorem xp12_0 {v : Int32} : va_up (wX G o c) (G.2.1 + 12) (ob 8 (List.set [.int (c 12 0), .int (c 12 1), .int (c 12 2), .int (c 12 3), .int (c 12 4), .int (c 12 5), .ref (G.2.1 + 13)] 0 (.int v))) = wX G o (mp c 12 0 v) := wX_up (i := 12) (by decide) (f := upd (c 12) 0 v)
theorem xp12_1 {v : Int32} : va_up (wX G o c) (G.2.1 + 12) (ob 8 (List.set [.int (c 12 0), .int (c 12 1), .int (c 12 2), .int (c 12 3), .int (c 12 4), .int (c 12 5), .ref (G.2.1 + 13)] 1 (.int v))) = wX G o (mp c 12 1 v) := wX_up (i := 12) (by decide) (f := upd (c 12) 1 v)
theorem xp12_2 {v : Int32} : va_up (wX G o c) (G.2.1 + 12) (ob 8 (List.set [.int (c 12 0), .int (c 12 1), .int (c 12 2), .int (c 12 3), .int (c 12 4), .int (c 12 5), .ref (G.2.1 + 13)] 2 (.int v))) = wX G o (mp c 12 2 v) := wX_up (i := 12) (by decide) (f := upd (c 12) 2 v)
theorem xp12_3 {v : Int32} : va_up (wX G o c) (G.2.1 + 12) (ob 8 (List.set [.int (c 12 0), .int (c 12 1), .int (c 12 2), .int (c 12 3), .int (c 12 4), .int (c 12 5), .ref (G.2.1 + 13)] 3 (.int v))) = wX G o (mp c 12 3 v) := wX_up (i := 12) (by decide) (f := upd (c 12) 3 v)
theorem xp12_4 {v : Int32} : va_up (wX G o c) (G.2.1 + 12) (ob 8 (List.set [.int (c 12 0), .int (c 12 1), .int (c 12 2), .int (c 12 3), .int (c 12 4), .int (c 12 5), .ref (G.2.1 + 13)] 4 (.int v))) = wX G o (mp c 12 4 v) := wX_up (i := 12) (by decide) (f := upd (c 12) 4 v)
theorem xp12_5 {v : Int32} : va_up (wX G o c) (G.2.1 + 12) (ob 8 (List.set [.int (c 12 0), .int (c 12 1), .int (c 12 2), .int (c 12 3), .int (c 12 4), .int (c 12 5), .ref (G.2.1 + 13)] 5 (.int v))) = wX G o (mp c 12 5 v) := wX_up (i := 12) (by decide) (f := upd (c 12) 5 v)
theorem xw13 : wX G o c (G.2.1 + 13) = ai G 300 (c 13) := (wX_at (by decide)).trans rfl
theorem xa13 {f : Nat → Int32} : va_up (wX G o c) (G.2.1 + 13) (ai G 300 f) = wX G o (mr c 13 f) := wX_up (i := 13) (by decide)
theorem xw14 : wX G o c (G.2.1 + 14) = ob 4 [.int (c 14 0), .ref (G.2.1 + 15), .ref (G.2.1 + 16)] := (wX_at (by decide)).trans rfl
theorem xp14_0 {v : Int32} : va_up (wX G o c) (G.2.1 + 14) (ob 4 (List.set [.int (c 14 0), .ref (G.2.1 + 15), .ref (G.2.1 + 16)] 0 (.int v))) = wX G o (mp c 14 0 v) := wX_up (i := 14) (by decide) (f := upd (c 14) 0 v)
theorem xw15 : wX G o c (G.2.1 + 15) = ai G 6527 (c 15) := (wX_at (by decide)).trans rfl
theorem xa15 {f : Nat → Int32} : va_up (wX G o c) (G.2.1 + 15) (ai G 6527 f) = wX G o (mr c 15 f) := wX_up (i := 15) (by decide)
theorem xw16 : wX G o c (G.2.1 + 16) = ai G 6527 (c 16) := (wX_at (by decide)).trans rfl
theorem xa16 {f : Nat → Int32} : va_up (wX G o c) (G.2.1 + 16) (ai G 6527 f) = wX G o (mr c 16 f) := wX_up (i := 16) (by decide)
theorem xw17 : wX G o c (G.2.1 + 17) = ob 5 [.int (c 17 0), .int (c 17 1), .int (c 17 2), .int (c 17 3), .ref (G.2.1 + 18), .ref (G.2.1 + 19)] := (wX_at (by decide)).trans rfl
theorem xp17_0 {v : Int32} : va_up (wX G o c) (G.2.1 + 17) (ob 5 (List.set [.int (c 17 0), .int (c 17 1), .int (c 17 2), .int (c 17 3), .ref (G.2.1 + 18), .ref (G.2.1 + 19)] 0 (.int v))) = wX G o (mp c 17 0 v) := wX_up (i := 17) (by decide) (f := upd (c 17) 0 v)
theorem xp17_1 {v : Int32} : va_up (wX G o c) (G.2.1 + 17) (ob 5 (List.set [.int (c 17 0), .int (c 17 1), .int (c 17 2), .int (c 17 3), .ref (G.2.1 + 18), .ref (G.2.1 + 19)] 1 (.int v))) = wX G o (mp c 17 1 v) := wX_up (i := 17) (by decide) (f := upd (c 17) 1 v)
theorem xp17_2 {v : Int32} : va_up (wX G o c) (G.2.1 + 17) (ob 5 (List.set [.int (c 17 0), .int (c 17 1), .int (c 17 2), .int (c 17 3), .ref (G.2.1 + 18), .ref (G.2.1 + 19)] 2 (.int v))) = wX G o (mp c 17 2 v) := wX_up (i := 17) (by decide) (f := upd (c 17) 2 v)
theorem xp17_3 {v : Int32} : va_up (wX G o c) (G.2.1 + 17) (ob 5 (List.set [.int (c 17 0), .int (c 17 1), .int (c 17 2), .int (c 17 3), .ref (G.2.1 + 18), .ref (G.2.1 + 19)] 3 (.int v))) = wX G o (mp c 17 3 v) := wX_up (i := 17) (by decide) (f := upd (c 17) 3 v)
theorem xw18 : wX G o c (G.2.1 + 18) = ai G 200 (c 18) := (wX_at (by decide)).trans rfl
theorem xa18 {f : Nat → Int32} : va_up (wX G o c) (G.2.1 + 18) (ai G 200 f) = wX G o (mr c 18 f) := wX_up (i := 18) (by decide)
theorem xw19 : wX G o c (G.2.1 + 19) = ai G 8 (c 19) := (wX_at (by decide)).trans rfl
theorem xa19 {f : Nat → Int32} : va_up (wX G o c) (G.2.1 + 19) (ai G 8 f) = wX G o (mr c 19 f) := wX_up (i := 19) (by decide)
theorem xw20 : wX G o c (G.2.1 + 20) = ai G 24 (c 20) := (wX_at (by decide)).trans rfl
theorem xa20 {f : Nat → Int32} : va_up (wX G o c) (G.2.1 + 20) (ai G 24 f) = wX G o (mr c 20 f) := wX_up (i := 20) (by decide)
theorem xw21 : wX G o c (G.2.1 + 21) = ai G 32 (c 21) := (wX_at (by decide)).trans rfl
theorem xa21 {f : Nat → Int32} : va_up (wX G o c) (G.2.1 + 21) (ai G 32 f) = wX G o (mr c 21 f) := wX_up (i := 21) (by decide)
theorem xw22 : wX G o c (G.2.1 + 22) = ob 6 [.ref (G.2.1 + 23), .ref (G.2.1 + 27), .ref (G.2.1 + 33), .ref (G.2.1 + 35), .ref (G.2.1 + 38), .ref (G.2.1 + 41), .ref (G.2.1 + 42)] := (wX_at (by decide)).trans rfl
theorem xw23 : wX G o c (G.2.1 + 23) = ob 2 [.int (c 23 0), .int (c 23 1), .int (c 23 2), .int (c 23 3), .ref (G.2.1 + 24), .ref (G.2.1 + 25), .ref (G.2.1 + 26)] := (wX_at (by decide)).trans rfl
theorem xp23_0 {v : Int32} : va_up (wX G o c) (G.2.1 + 23) (ob 2 (List.set [.int (c 23 0), .int (c 23 1), .int (c 23 2), .int (c 23 3), .ref (G.2.1 + 24), .ref (G.2.1 + 25), .ref (G.2.1 + 26)] 0 (.int v))) = wX G o (mp c 23 0 v) := wX_up (i := 23) (by decide) (f := upd (c 23) 0 v)
theorem xp23_1 {v : Int32} : va_up (wX G o c) (G.2.1 + 23) (ob 2 (List.set [.int (c 23 0), .int (c 23 1), .int (c 23 2), .int (c 23 3), .ref (G.2.1 + 24), .ref (G.2.1 + 25), .ref (G.2.1 + 26)] 1 (.int v))) = wX G o (mp c 23 1 v) := wX_up (i := 23) (by decide) (f := upd (c 23) 1 v)
theorem xp23_2 {v : Int32} : va_up (wX G o c) (G.2.1 + 23) (ob 2 (List.set [.int (c 23 0), .int (c 23 1), .int (c 23 2), .int (c 23 3), .ref (G.2.1 + 24), .ref (G.2.1 + 25), .ref (G.2.1 + 26)] 2 (.int v))) = wX G o (mp c 23 2 v) := wX_up (i := 23) (by decide) (f := upd (c 23) 2 v)
theorem xp23_3 {v : Int32} : va_up (wX G o c) (G.2.1 + 23) (ob 2 (List.set [.int (c 23 0), .int (c 23 1), .int (c 23 2), .int (c 23 3), .ref (G.2.1 + 24), .ref (G.2.1 + 25), .ref (G.2.1 + 26)] 3 (.int v))) = wX G o (mp c 23 3 v) := wX_up (i := 23) (by decide) (f := upd (c 23) 3 v)
theorem xw24 : wX G o c (G.2.1 + 24) = ai G 4000 (c 24) := (wX_at (by decide)).trans rfl
theorem xa24 {f : Nat → Int32} : va_up (wX G o c) (G.2.1 + 24) (ai G 4000 f) = wX G o (mr c 24 f) := wX_up (i := 24) (by decide)
theorem xw25 : wX G o c (G.2.1 + 25) = ai G 500 (c 25) := (wX_at (by decide)).trans rfl
theorem xa25 {f : Nat → Int32} : va_up (wX G o c) (G.2.1 + 25) (ai G 500 f) = wX G o (mr c 25 f) := wX_up (i := 25) (by decide)
theorem xw26 : wX G o c (G.2.1 + 26) = ai G 500 (c 26) := (wX_at (by decide)).trans rfl
theorem xa26 {f : Nat → Int32} : va_up (wX G o c) (G.2.1 + 26) (ai G 500 f) = wX G o (mr c 26 f) := wX_up (i := 26) (by decide)
theorem xw27 : wX G o c (G.2.1 + 27) = ob 3 [.int (c 27 0), .int (c 27 1), .int (c 27 2), .int (c 27 3), .ref (G.2.1 + 28), .ref (G.2.1 + 29), .ref (G.2.1 + 30), .ref (G.2.1 + 31), .ref (G.2.1 + 32)] := (wX_at (by decide)).trans rfl
theorem xp27_0 {v : Int32} : va_up (wX G o c) (G.2.1 + 27) (ob 3 (List.set [.int (c 27 0), .int (c 27 1), .int (c 27 2), .int (c 27 3), .ref (G.2.1 + 28), .ref (G.2.1 + 29), .ref (G.2.1 + 30), .ref (G.2.1 + 31), .ref (G.2.1 + 32)] 0 (.int v))) = wX G o (mp c 27 0 v) := wX_up (i := 27) (by decide) (f := upd (c 27) 0 v)
theorem xp27_1 {v : Int32} : va_up (wX G o c) (G.2.1 + 27) (ob 3 (List.set [.int (c 27 0), .int (c 27 1), .int (c 27 2), .int (c 27 3), .ref (G.2.1 + 28), .ref (G.2.1 + 29), .ref (G.2.1 + 30), .ref (G.2.1 + 31), .ref (G.2.1 + 32)] 1 (.int v))) = wX G o (mp c 27 1 v) := wX_up (i := 27) (by decide) (f := upd (c 27) 1 v)
theorem xp27_2 {v : Int32} : va_up (wX G o c) (G.2.1 + 27) (ob 3 (List.set [.int (c 27 0), .int (c 27 1), .int (c 27 2), .int (c 27 3), .ref (G.2.1 + 28), .ref (G.2.1 + 29), .ref (G.2.1 + 30), .ref (G.2.1 + 31), .ref (G.2.1 + 32)] 2 (.int v))) = wX G o (mp c 27 2 v) := wX_up (i := 27) (by decide) (f := upd (c 27) 2 v)
theorem xp27_3 {v : Int32} : va_up (wX G o c) (G.2.1 + 27) (ob 3 (List.set [.int (c 27 0), .int (c 27 1), .int (c 27 2), .int (c 27 3), .ref (G.2.1 + 28), .ref (G.2.1 + 29), .ref (G.2.1 + 30), .ref (G.2.1 + 31), .ref (G.2.1 + 32)] 3 (.int v))) = wX G o (mp c 27 3 v) := wX_up (i := 27) (by decide) (f := upd (c 27) 3 v)
theorem xw28 : wX G o c (G.2.1 + 28) = ai G 500 (c 28) := (wX_at (by decide)).trans rfl
theorem xa28 {f : Nat → Int32} : va_up (wX G o c) (G.2.1 + 28) (ai G 500 f) = wX G o (mr c 28 f) := wX_up (i := 28) (by decide)
theorem xw29 : wX G o c (G.2.1 + 29) = ai G 500 (c 29) := (wX_at (by decide)).trans rfl
theorem xa29 {f : Nat → Int32} : va_up (wX G o c) (G.2.1 + 29) (ai G 500 f) = wX G o (mr c 29 f) := wX_up (i := 29) (by decide)
theorem xw30 : wX G o c (G.2.1 + 30) = ai G 500 (c 30) := (wX_at (by decide)).trans rfl
theorem xa30 {f : Nat → Int32} : va_up (wX G o c) (G.2.1 + 30) (ai G 500 f) = wX G o (mr c 30 f) := wX_up (i := 30) (by decide)
theorem xw31 : wX G o c (G.2.1 + 31) = ai G 500 (c 31) := (wX_at (by decide)).trans rfl
theorem xa31 {f : Nat → Int32} : va_up (wX G o c) (G.2.1 + 31) (ai G 500 f) = wX G o (mr c 31 f) := wX_up (i := 31) (by decide)
theorem xw32 : wX G o c (G.2.1 + 32) = ai G 500 (c 32) := (wX_at (by decide)).trans rfl
theorem xa32 {f : Nat → Int32} : va_up (wX G o c) (G.2.1 + 32) (ai G 500 f) = wX G o (mr c 32 f) := wX_up (i := 32) (by decide)
theorem xw33 : wX G o c (G.2.1 + 33) = ob 8 [.int (c 33 0), .int (c 33 1), .int (c 33 2), .int (c 33 3), .int (c 33 4), .int (c 33 5), .ref (G.2.1 + 34)] := (wX_at (by decide)).trans rfl
theorem xp33_0 {v : Int32} : va_up (wX G o c) (G.2.1 + 33) (ob 8 (List.set [.int (c 33 0), .int (c 33 1), .int (c 33 2), .int (c 33 3), .int (c 33 4), .int (c 33 5), .ref (G.2.1 + 34)] 0 (.int v))) = wX G o (mp c 33 0 v) := wX_up (i := 33) (by decide) (f := upd (c 33) 0 v)
theorem xp33_1 {v : Int32} : va_up (wX G o c) (G.2.1 + 33) (ob 8 (List.set [.int (c 33 0), .int (c 33 1), .int (c 33 2), .int (c 33 3), .int (c 33 4), .int (c 33 5), .ref (G.2.1 + 34)] 1 (.int v))) = wX G o (mp c 33 1 v) := wX_up (i := 33) (by decide) (f := upd (c 33) 1 v)
theorem xp33_2 {v : Int32} : va_up (wX G o c) (G.2.1 + 33) (ob 8 (List.set [.int (c 33 0), .int (c 33 1), .int (c 33 2), .int (c 33 3), .int (c 33 4), .int (c 33 5), .ref (G.2.1 + 34)] 2 (.int v))) = wX G o (mp c 33 2 v) := wX_up (i := 33) (by decide) (f := upd (c 33) 2 v)
theorem xp33_3 {v : Int32} : va_up (wX G o c) (G.2.1 + 33) (ob 8 (List.set [.int (c 33 0), .int (c 33 1), .int (c 33 2), .int (c 33 3), .int (c 33 4), .int (c 33 5), .ref (G.2.1 + 34)] 3 (.int v))) = wX G o (mp c 33 3 v) := wX_up (i := 33) (by decide) (f := upd (c 33) 3 v)
theorem xp33_4 {v : Int32} : va_up (wX G o c) (G.2.1 + 33) (ob 8 (List.set [.int (c 33 0), .int (c 33 1), .int (c 33 2), .int (c 33 3), .int (c 33 4), .int (c 33 5), .ref (G.2.1 + 34)] 4 (.int v))) = wX G o (mp c 33 4 v) := wX_up (i := 33) (by decide) (f := upd (c 33) 4 v)
theorem xp33_5 {v : Int32} : va_up (wX G o c) (G.2.1 + 33) (ob 8 (List.set [.int (c 33 0), .int (c 33 1), .int (c 33 2), .int (c 33 3), .int (c 33 4), .int (c 33 5), .ref (G.2.1 + 34)] 5 (.int v))) = wX G o (mp c 33 5 v) := wX_up (i := 33) (by decide) (f := upd (c 33) 5 v)
theorem xw34 : wX G o c (G.2.1 + 34) = ai G 300 (c 34) := (wX_at (by decide)).trans rfl
theorem xa34 {f : Nat → Int32} : va_up (wX G o c) (G.2.1 + 34) (ai G 300 f) = wX G o (mr c 34 f) := wX_up (i := 34) (by decide)
theorem xw35 : wX G o c (G.2.1 + 35) = ob 4 [.int (c 35 0), .ref (G.2.1 + 36), .ref (G.2.1 + 37)] := (wX_at (by decide)).trans rfl
theorem xp35_0 {v : Int32} : va_up (wX G o c) (G.2.1 + 35) (ob 4 (List.set [.int (c 35 0), .ref (G.2.1 + 36), .ref (G.2.1 + 37)] 0 (.int v))) = wX G o (mp c 35 0 v) := wX_up (i := 35) (by decide) (f := upd (c 35) 0 v)
theorem xw36 : wX G o c (G.2.1 + 36) = ai G 6527 (c 36) := (wX_at (by decide)).trans rfl
theorem xa36 {f : Nat → Int32} : va_up (wX G o c) (G.2.1 + 36) (ai G 6527 f) = wX G o (mr c 36 f) := wX_up (i := 36) (by decide)
theorem xw37 : wX G o c (G.2.1 + 37) = ai G 6527 (c 37) := (wX_at (by decide)).trans rfl
theorem xa37 {f : Nat → Int32} : va_up (wX G o c) (G.2.1 + 37) (ai G 6527 f) = wX G o (mr c 37 f) := wX_up (i := 37) (by decide)
theorem xw38 : wX G o c (G.2.1 + 38) = ob 5 [.int (c 38 0), .int (c 38 1), .int (c 38 2), .int (c 38 3), .ref (G.2.1 + 39), .ref (G.2.1 + 40)] := (wX_at (by decide)).trans rfl
theorem xp38_0 {v : Int32} : va_up (wX G o c) (G.2.1 + 38) (ob 5 (List.set [.int (c 38 0), .int (c 38 1), .int (c 38 2), .int (c 38 3), .ref (G.2.1 + 39), .ref (G.2.1 + 40)] 0 (.int v))) = wX G o (mp c 38 0 v) := wX_up (i := 38) (by decide) (f := upd (c 38) 0 v)
theorem xp38_1 {v : Int32} : va_up (wX G o c) (G.2.1 + 38) (ob 5 (List.set [.int (c 38 0), .int (c 38 1), .int (c 38 2), .int (c 38 3), .ref (G.2.1 + 39), .ref (G.2.1 + 40)] 1 (.int v))) = wX G o (mp c 38 1 v) := wX_up (i := 38) (by decide) (f := upd (c 38) 1 v)
theorem xp38_2 {v : Int32} : va_up (wX G o c) (G.2.1 + 38) (ob 5 (List.set [.int (c 38 0), .int (c 38 1), .int (c 38 2), .int (c 38 3), .ref (G.2.1 + 39), .ref (G.2.1 + 40)] 2 (.int v))) = wX G o (mp c 38 2 v) := wX_up (i := 38) (by decide) (f := upd (c 38) 2 v)
theorem xp38_3 {v : Int32} : va_up (wX G o c) (G.2.1 + 38) (ob 5 (List.set [.int (c 38 0), .int (c 38 1), .int (c 38 2), .int (c 38 3), .ref (G.2.1 + 39), .ref (G.2.1 + 40)] 3 (.int v))) = wX G o (mp c 38 3 v) := wX_up (i := 38) (by decide) (f := upd (c 38) 3 v)
theorem xw39 : wX G o c (G.2.1 + 39) = ai G 200 (c 39) := (wX_at (by decide)).trans rfl
theorem xa39 {f : Nat → Int32} : va_up (wX G o c) (G.2.1 + 39) (ai G 200 f) = wX G o (mr c 39 f) := wX_up (i := 39) (by decide)
theorem xw40 : wX G o c (G.2.1 + 40) = ai G 8 (c 40) := (wX_at (by decide)).trans rfl
theorem xa40 {f : Nat → Int32} : va_up (wX G o c) (G.2.1 + 40) (ai G 8 f) = wX G o (mr c 40 f) := wX_up (i := 40) (by decide)
theorem xw41 : wX G o c (G.2.1 + 41) = ai G 24 (c 41) := (wX_at (by decide)).trans rfl
theorem xa41 {f : Nat → Int32} : va_up (wX G o c) (G.2.1 + 41) (ai G 24 f) = wX G o (mr c 41 f) := wX_up (i := 41) (by decide)
theorem xw42 : wX G o c (G.2.1 + 42) = ai G 32 (c 42) := (wX_at (by decide)).trans rfl
theorem xa42 {f : Nat → Int32} : va_up (wX G o c) (G.2.1 + 42) (ai G 32 f) = wX G o (mr c 42 f) := wX_up (i := 42) (by decide)
theorem xw43 : wX G o c (G.2.1 + 43) = ob 6 [.ref (G.2.1 + 44), .ref (G.2.1 + 48), .ref (G.2.1 + 54), .ref (G.2.1 + 56), .ref (G.2.1 + 59), .ref (G.2.1 + 62), .ref (G.2.1 + 63)] := (wX_at (by decide)).trans rfl
theorem xw44 : wX G o c (G.2.1 + 44) = ob 2 [.int (c 44 0), .int (c 44 1), .int (c 44 2), .int (c 44 3), .ref (G.2.1 + 45), .ref (G.2.1 + 46), .ref (G.2.1 + 47)] := (wX_at (by decide)).trans rfl
theorem xp44_0 {v : Int32} : va_up (wX G o c) (G.2.1 + 44) (ob 2 (List.set [.int (c 44 0), .int (c 44 1), .int (c 44 2), .int (c 44 3), .ref (G.2.1 + 45), .ref (G.2.1 + 46), .ref (G.2.1 + 47)] 0 (.int v))) = wX G o (mp c 44 0 v) := wX_up (i := 44) (by decide) (f := upd (c 44) 0 v)
theorem xp44_1 {v : Int32} : va_up (wX G o c) (G.2.1 + 44) (ob 2 (List.set [.int (c 44 0), .int (c 44 1), .int (c 44 2), .int (c 44 3), .ref (G.2.1 + 45), .ref (G.2.1 + 46), .ref (G.2.1 + 47)] 1 (.int v))) = wX G o (mp c 44 1 v) := wX_up (i := 44) (by decide) (f := upd (c 44) 1 v)
theorem xp44_2 {v : Int32} : va_up (wX G o c) (G.2.1 + 44) (ob 2 (List.set [.int (c 44 0), .int (c 44 1), .int (c 44 2), .int (c 44 3), .ref (G.2.1 + 45), .ref (G.2.1 + 46), .ref (G.2.1 + 47)] 2 (.int v))) = wX G o (mp c 44 2 v) := wX_up (i := 44) (by decide) (f := upd (c 44) 2 v)
theorem xp44_3 {v : Int32} : va_up (wX G o c) (G.2.1 + 44) (ob 2 (List.set [.int (c 44 0), .int (c 44 1), .int (c 44 2), .int (c 44 3), .ref (G.2.1 + 45), .ref (G.2.1 + 46), .ref (G.2.1 + 47)] 3 (.int v))) = wX G o (mp c 44 3 v) := wX_up (i := 44) (by decide) (f := upd (c 44) 3 v)
theorem xw45 : wX G o c (G.2.1 + 45) = ai G 4000 (c 45) := (wX_at (by decide)).trans rfl
theorem xa45 {f : Nat → Int32} : va_up (wX G o c) (G.2.1 + 45) (ai G 4000 f) = wX G o (mr c 45 f) := wX_up (i := 45) (by decide)
theorem xw46 : wX G o c (G.2.1 + 46) = ai G 500 (c 46) := (wX_at (by decide)).trans rfl
theorem xa46 {f : Nat → Int32} : va_up (wX G o c) (G.2.1 + 46) (ai G 500 f) = wX G o (mr c 46 f) := wX_up (i := 46) (by decide)
theorem xw47 : wX G o c (G.2.1 + 47) = ai G 500 (c 47) := (wX_at (by decide)).trans rfl
theorem xa47 {f : Nat → Int32} : va_up (wX G o c) (G.2.1 + 47) (ai G 500 f) = wX G o (mr c 47 f) := wX_up (i := 47) (by decide)
theorem xw48 : wX G o c (G.2.1 + 48) = ob 3 [.int (c 48 0), .int (c 48 1), .int (c 48 2), .int (c 48 3), .ref (G.2.1 + 49), .ref (G.2.1 + 50), .ref (G.2.1 + 51), .ref (G.2.1 + 52), .ref (G.2.1 + 53)] := (wX_at (by decide)).trans rfl
theorem xp48_0 {v : Int32} : va_up (wX G o c) (G.2.1 + 48) (ob 3 (List.set [.int (c 48 0), .int (c 48 1), .int (c 48 2), .int (c 48 3), .ref (G.2.1 + 49), .ref (G.2.1 + 50), .ref (G.2.1 + 51), .ref (G.2.1 + 52), .ref (G.2.1 + 53)] 0 (.int v))) = wX G o (mp c 48 0 v) := wX_up (i := 48) (by decide) (f := upd (c 48) 0 v)
theorem xp48_1 {v : Int32} : va_up (wX G o c) (G.2.1 + 48) (ob 3 (List.set [.int (c 48 0), .int (c 48 1), .int (c 48 2), .int (c 48 3), .ref (G.2.1 + 49), .ref (G.2.1 + 50), .ref (G.2.1 + 51), .ref (G.2.1 + 52), .ref (G.2.1 + 53)] 1 (.int v))) = wX G o (mp c 48 1 v) := wX_up (i := 48) (by decide) (f := upd (c 48) 1 v)
theorem xp48_2 {v : Int32} : va_up (wX G o c) (G.2.1 + 48) (ob 3 (List.set [.int (c 48 0), .int (c 48 1), .int (c 48 2), .int (c 48 3), .ref (G.2.1 + 49), .ref (G.2.1 + 50), .ref (G.2.1 + 51), .ref (G.2.1 + 52), .ref (G.2.1 + 53)] 2 (.int v))) = wX G o (mp c 48 2 v) := wX_up (i := 48) (by decide) (f := upd (c 48) 2 v)
theorem xp48_3 {v : Int32} : va_up (wX G o c) (G.2.1 + 48) (ob 3 (List.set [.int (c 48 0), .int (c 48 1), .int (c 48 2), .int (c 48 3), .ref (G.2.1 + 49), .ref (G.2.1 + 50), .ref (G.2.1 + 51), .ref (G.2.1 + 52), .ref (G.2.1 + 53)] 3 (.int v))) = wX G o (mp c 48 3 v) := wX_up (i := 48) (by decide) (f := upd (c 48) 3 v)
theorem xw49 : wX G o c (G.2.1 + 49) = ai G 500 (c 49) := (wX_at (by decide)).trans rfl
theorem xa49 {f : Nat → Int32} : va_up (wX G o c) (G.2.1 + 49) (ai G 500 f) = wX G o (mr c 49 f) := wX_up (i := 49) (by decide)
theorem xw50 : wX G o c (G.2.1 + 50) = ai G 500 (c 50) := (wX_at (by decide)).trans rfl
theorem xa50 {f : Nat → Int32} : va_up (wX G o c) (G.2.1 + 50) (ai G 500 f) = wX G o (mr c 50 f) := wX_up (i := 50) (by decide)
theorem xw51 : wX G o c (G.2.1 + 51) = ai G 500 (c 51) := (wX_at (by decide)).trans rfl
theorem xa51 {f : Nat → Int32} : va_up (wX G o c) (G.2.1 + 51) (ai G 500 f) = wX G o (mr c 51 f) := wX_up (i := 51) (by decide)
theorem xw52 : wX G o c (G.2.1 + 52) = ai G 500 (c 52) := (wX_at (by decide)).trans rfl
theorem xa52 {f : Nat → Int32} : va_up (wX G o c) (G.2.1 + 52) (ai G 500 f) = wX G o (mr c 52 f) := wX_up (i := 52) (by decide)
theorem xw53 : wX G o c (G.2.1 + 53) = ai G 500 (c 53) := (wX_at (by decide)).trans rfl
theorem xa53 {f : Nat → Int32} : va_up (wX G o c) (G.2.1 + 53) (ai G 500 f) = wX G o (mr c 53 f) := wX_up (i := 53) (by decide)
theorem xw54 : wX G o c (G.2.1 + 54) = ob 8 [.int (c 54 0), .int (c 54 1), .int (c 54 2), .int (c 54 3), .int (c 54 4), .int (c 54 5), .ref (G.2.1 + 55)] := (wX_at (by decide)).trans rfl
theorem xp54_0 {v : Int32} : va_up (wX G o c) (G.2.1 + 54) (ob 8 (List.set [.int (c 54 0), .int (c 54 1), .int (c 54 2), .int (c 54 3), .int (c 54 4), .int (c 54 5), .ref (G.2.1 + 55)] 0 (.int v))) = wX G o (mp c 54 0 v) := wX_up (i := 54) (by decide) (f := upd (c 54) 0 v)
theorem xp54_1 {v : Int32} : va_up (wX G o c) (G.2.1 + 54) (ob 8 (List.set [.int (c 54 0), .int (c 54 1), .int (c 54 2), .int (c 54 3), .int (c 54 4), .int (c 54 5), .ref (G.2.1 + 55)] 1 (.int v))) = wX G o (mp c 54 1 v) := wX_up (i := 54) (by decide) (f := upd (c 54) 1 v)
theorem xp54_2 {v : Int32} : va_up (wX G o c) (G.2.1 + 54) (ob 8 (List.set [.int (c 54 0), .int (c 54 1), .int (c 54 2), .int (c 54 3), .int (c 54 4), .int (c 54 5), .ref (G.2.1 + 55)] 2 (.int v))) = wX G o (mp c 54 2 v) := wX_up (i := 54) (by decide) (f := upd (c 54) 2 v)
theorem xp54_3 {v : Int32} : va_up (wX G o c) (G.2.1 + 54) (ob 8 (List.set [.int (c 54 0), .int (c 54 1), .int (c 54 2), .int (c 54 3), .int (c 54 4), .int (c 54 5), .ref (G.2.1 + 55)] 3 (.int v))) = wX G o (mp c 54 3 v) := wX_up (i := 54) (by decide) (f := upd (c 54) 3 v)
theorem xp54_4 {v : Int32} : va_up (wX G o c) (G.2.1 + 54) (ob 8 (List.set [.int (c 54 0), .int (c 54 1), .int (c 54 2), .int (c 54 3), .int (c 54 4), .int (c 54 5), .ref (G.2.1 + 55)] 4 (.int v))) = wX G o (mp c 54 4 v) := wX_up (i := 54) (by decide) (f := upd (c 54) 4 v)
theorem xp54_5 {v : Int32} : va_up (wX G o c) (G.2.1 + 54) (ob 8 (List.set [.int (c 54 0), .int (c 54 1), .int (c 54 2), .int (c 54 3), .int (c 54 4), .int (c 54 5), .ref (G.2.1 + 55)] 5 (.int v))) = wX G o (mp c 54 5 v) := wX_up (i := 54) (by decide) (f := upd (c 54) 5 v)
theorem xw55 : wX G o c (G.2.1 + 55) = ai G 300 (c 55) := (wX_at (by decide)).trans rfl
theorem xa55 {f : Nat → Int32} : va_up (wX G o c) (G.2.1 + 55) (ai G 300 f) = wX G o (mr c 55 f) := wX_up (i := 55) (by decide)
theorem xw56 : wX G o c (G.2.1 + 56) = ob 4 [.int (c 56 0), .ref (G.2.1 + 57), .ref (G.2.1 + 58)] := (wX_at (by decide)).trans rfl
theorem xp56_0 {v : Int32} : va_up (wX G o c) (G.2.1 + 56) (ob 4 (List.set [.int (c 56 0), .ref (G.2.1 + 57), .ref (G.2.1 + 58)] 0 (.int v))) = wX G o (mp c 56 0 v) := wX_up (i := 56) (by decide) (f := upd (c 56) 0 v)
theorem xw57 : wX G o c (G.2.1 + 57) = ai G 6527 (c 57) := (wX_at (by decide)).trans rfl
theorem xa57 {f : Nat → Int32} : va_up (wX G o c) (G.2.1 + 57) (ai G 6527 f) = wX G o (mr c 57 f) := wX_up (i := 57) (by decide)
theorem xw58 : wX G o c (G.2.1 + 58) = ai G 6527 (c 58) := (wX_at (by decide)).trans rfl
theorem xa58 {f : Nat → Int32} : va_up (wX G o c) (G.2.1 + 58) (ai G 6527 f) = wX G o (mr c 58 f) := wX_up (i := 58) (by decide)
theorem xw59 : wX G o c (G.2.1 + 59) = ob 5 [.int (c 59 0), .int (c 59 1), .int (c 59 2), .int (c 59 3), .ref (G.2.1 + 60), .ref (G.2.1 + 61)] := (wX_at (by decide)).trans rfl
theorem xp59_0 {v : Int32} : va_up (wX G o c) (G.2.1 + 59) (ob 5 (List.set [.int (c 59 0), .int (c 59 1), .int (c 59 2), .int (c 59 3), .ref (G.2.1 + 60), .ref (G.2.1 + 61)] 0 (.int v))) = wX G o (mp c 59 0 v) := wX_up (i := 59) (by decide) (f := upd (c 59) 0 v)
theorem xp59_1 {v : Int32} : va_up (wX G o c) (G.2.1 + 59) (ob 5 (List.set [.int (c 59 0), .int (c 59 1), .int (c 59 2), .int (c 59 3), .ref (G.2.1 + 60), .ref (G.2.1 + 61)] 1 (.int v))) = wX G o (mp c 59 1 v) := wX_up (i := 59) (by decide) (f := upd (c 59) 1 v)
theorem xp59_2 {v : Int32} : va_up (wX G o c) (G.2.1 + 59) (ob 5 (List.set [.int (c 59 0), .int (c 59 1), .int (c 59 2), .int (c 59 3), .ref (G.2.1 + 60), .ref (G.2.1 + 61)] 2 (.int v))) = wX G o (mp c 59 2 v) := wX_up (i := 59) (by decide) (f := upd (c 59) 2 v)
theorem xp59_3 {v : Int32} : va_up (wX G o c) (G.2.1 + 59) (ob 5 (List.set [.int (c 59 0), .int (c 59 1), .int (c 59 2), .int (c 59 3), .ref (G.2.1 + 60), .ref (G.2.1 + 61)] 3 (.int v))) = wX G o (mp c 59 3 v) := wX_up (i := 59) (by decide) (f := upd (c 59) 3 v)
theorem xw60 : wX G o c (G.2.1 + 60) = ai G 200 (c 60) := (wX_at (by decide)).trans rfl
theorem xa60 {f : Nat → Int32} : va_up (wX G o c) (G.2.1 + 60) (ai G 200 f) = wX G o (mr c 60 f) := wX_up (i := 60) (by decide)
theorem xw61 : wX G o c (G.2.1 + 61) = ai G 8 (c 61) := (wX_at (by decide)).trans rfl
theorem xa61 {f : Nat → Int32} : va_up (wX G o c) (G.2.1 + 61) (ai G 8 f) = wX G o (mr c 61 f) := wX_up (i := 61) (by decide)
theorem xw62 : wX G o c (G.2.1 + 62) = ai G 24 (c 62) := (wX_at (by decide)).trans rfl
theorem xa62 {f : Nat → Int32} : va_up (wX G o c) (G.2.1 + 62) (ai G 24 f) = wX G o (mr c 62 f) := wX_up (i := 62) (by decide)
theorem xw63 : wX G o c (G.2.1 + 63) = ai G 32 (c 63) := (wX_at (by decide)).trans rfl
theorem xa63 {f : Nat → Int32} : va_up (wX G o c) (G.2.1 + 63) (ai G 32 f) = wX G o (mr c 63 f) := wX_up (i := 63) (by decide)
theorem xw64 : wX G o c (G.2.1 + 64) = ai G 14 (c 64) := (wX_at (by decide)).trans rfl
theorem xa64 {f : Nat → Int32} : va_up (wX G o c) (G.2.1 + 64) (ai G 14 f) = wX G o (mr c 64 f) := wX_up (i := 64) (by decide)
theorem xw65 : wX G o c (G.2.1 + 65) = ob 7 [.ref (G.2.1 + 1), .ref (G.2.1 + 2), .ref (G.2.1 + 6), .ref (G.2.1 + 64), .ref (G.2.1 + 66), .int (c 65 5), .ref (G.2.1 + 67), .ref (G.2.1 + 68), .int (c 65 8)] := (wX_at (by decide)).trans rfl
theorem xp65_5 {v : Int32} : va_up (wX G o c) (G.2.1 + 65) (ob 7 (List.set [.ref (G.2.1 + 1), .ref (G.2.1 + 2), .ref (G.2.1 + 6), .ref (G.2.1 + 64), .ref (G.2.1 + 66), .int (c 65 5), .ref (G.2.1 + 67), .ref (G.2.1 + 68), .int (c 65 8)] 5 (.int v))) = wX G o (mp c 65 5 v) := wX_up (i := 65) (by decide) (f := upd (c 65) 5 v)
theorem xp65_8 {v : Int32} : va_up (wX G o c) (G.2.1 + 65) (ob 7 (List.set [.ref (G.2.1 + 1), .ref (G.2.1 + 2), .ref (G.2.1 + 6), .ref (G.2.1 + 64), .ref (G.2.1 + 66), .int (c 65 5), .ref (G.2.1 + 67), .ref (G.2.1 + 68), .int (c 65 8)] 8 (.int v))) = wX G o (mp c 65 8 v) := wX_up (i := 65) (by decide) (f := upd (c 65) 8 v)
theorem xw66 : wX G o c (G.2.1 + 66) = ai G 500 (c 66) := (wX_at (by decide)).trans rfl
theorem xa66 {f : Nat → Int32} : va_up (wX G o c) (G.2.1 + 66) (ai G 500 f) = wX G o (mr c 66 f) := wX_up (i := 66) (by decide)
theorem xw67 : wX G o c (G.2.1 + 67) = ai G 500 (c 67) := (wX_at (by decide)).trans rfl
theorem xa67 {f : Nat → Int32} : va_up (wX G o c) (G.2.1 + 67) (ai G 500 f) = wX G o (mr c 67 f) := wX_up (i := 67) (by decide)
theorem xw68 : wX G o c (G.2.1 + 68) = ai G 500 (c 68) := (wX_at (by decide)).trans rfl
theorem xa68 {f : Nat → Int32} : va_up (wX G o c) (G.2.1 + 68) (ai G 500 f) = wX G o (mr c 68 f) := wX_up (i := 68) (by decide)
theorem xw69 : wX G o c (G.2.1 + 69) = ob 0 [.ref (G.2.1 + 1), .ref (G.2.1 + 2), .ref (G.2.1 + 65), .int (c 69 3)] := (wX_at (by decide)).trans rfl
theorem xp69_3 {v : Int32} : va_up (wX G o c) (G.2.1 + 69) (ob 0 (List.set [.ref (G.2.1 + 1), .ref (G.2.1 + 2), .ref (G.2.1 + 65), .int (c 69 3)] 3 (.int v))) = wX G o (mp c 69 3 v) := wX_up (i := 69) (by decide) (f := upd (c 69) 3 v)
theorem xw70 : wX G o c (G.2.1 + 70) = ob 1 [.ref (gnum G (c 70 0)), .int (c 70 1), .int (c 70 2), .ref (G.2.1 + 72), .ref (G.2.1 + 73)] := (wX_at (by decide)).trans rfl
theorem xp70_0 : va_up (wX G o c) (G.2.1 + 70) (ob 1 (List.set [.ref (gnum G (c 70 0)), .int (c 70 1), .int (c 70 2), .ref (G.2.1 + 72), .ref (G.2.1 + 73)] 0 (.ref (G.2.1 + 16)))) = wX G o (mp c 70 0 1) := wX_up (i := 70) (by decide) (f := upd (c 70) 0 1)
theorem xp70_1 {v : Int32} : va_up (wX G o c) (G.2.1 + 70) (ob 1 (List.set [.ref (gnum G (c 70 0)), .int (c 70 1), .int (c 70 2), .ref (G.2.1 + 72), .ref (G.2.1 + 73)] 1 (.int v))) = wX G o (mp c 70 1 v) := wX_up (i := 70) (by decide) (f := upd (c 70) 1 v)
theorem xp70_2 {v : Int32} : va_up (wX G o c) (G.2.1 + 70) (ob 1 (List.set [.ref (gnum G (c 70 0)), .int (c 70 1), .int (c 70 2), .ref (G.2.1 + 72), .ref (G.2.1 + 73)] 2 (.int v))) = wX G o (mp c 70 2 v) := wX_up (i := 70) (by decide) (f := upd (c 70) 2 v)
theorem xw71 : wX G o c (G.2.1 + 71) = ai G 0 (c 71) := (wX_at (by decide)).trans rfl
theorem xa71 {f : Nat → Int32} : va_up (wX G o c) (G.2.1 + 71) (ai G 0 f) = wX G o (mr c 71 f) := wX_up (i := 71) (by decide)
theorem xw72 : wX G o c (G.2.1 + 72) = ai G 500 (c 72) := (wX_at (by decide)).trans rfl
theorem xa72 {f : Nat → Int32} : va_up (wX G o c) (G.2.1 + 72) (ai G 500 f) = wX G o (mr c 72 f) := wX_up (i := 72) (by decide)
theorem xw73 : wX G o c (G.2.1 + 73) = ai G 501 (c 73) := (wX_at (by decide)).trans rfl
theorem xa73 {f : Nat → Int32} : va_up (wX G o c) (G.2.1 + 73) (ai G 501 f) = wX G o (mr c 73 f) := wX_up (i := 73) (by decide)
theorem yw0 : wM G o c (G.2.1 + 74) = ob 10 [.ref (G.2.1 + 75), .ref (G.2.1 + 76), .ref (G.2.1 + 77), .int (c 0 3), .int (c 0 4), .int (c 0 5), .int (c 0 6), .int (c 0 7), .ref (G.2.1 + 78), .ref (G.2.1 + 79), .ref (G.2.1 + 80), .ref (G.2.1 + 81), .int (c 0 12), .ref (G.2.1 + 82), .int (c 0 14), .ref (G.2.1 + 83)] := (wM_at (i := 0)).trans rfl
theorem yp0_3 {v : Int32} : va_up (wM G o c) (G.2.1 + 74) (ob 10 (List.set [.ref (G.2.1 + 75), .ref (G.2.1 + 76), .ref (G.2.1 + 77), .int (c 0 3), .int (c 0 4), .int (c 0 5), .int (c 0 6), .int (c 0 7), .ref (G.2.1 + 78), .ref (G.2.1 + 79), .ref (G.2.1 + 80), .ref (G.2.1 + 81), .int (c 0 12), .ref (G.2.1 + 82), .int (c 0 14), .ref (G.2.1 + 83)] 3 (.int v))) = wM G o (mp c 0 3 v) := wM_up (i := 0) (f := upd (c 0) 3 v)
theorem yp0_4 {v : Int32} : va_up (wM G o c) (G.2.1 + 74) (ob 10 (List.set [.ref (G.2.1 + 75), .ref (G.2.1 + 76), .ref (G.2.1 + 77), .int (c 0 3), .int (c 0 4), .int (c 0 5), .int (c 0 6), .int (c 0 7), .ref (G.2.1 + 78), .ref (G.2.1 + 79), .ref (G.2.1 + 80), .ref (G.2.1 + 81), .int (c 0 12), .ref (G.2.1 + 82), .int (c 0 14), .ref (G.2.1 + 83)] 4 (.int v))) = wM G o (mp c 0 4 v) := wM_up (i := 0) (f := upd (c 0) 4 v)
theorem yp0_5 {v : Int32} : va_up (wM G o c) (G.2.1 + 74) (ob 10 (List.set [.ref (G.2.1 + 75), .ref (G.2.1 + 76), .ref (G.2.1 + 77), .int (c 0 3), .int (c 0 4), .int (c 0 5), .int (c 0 6), .int (c 0 7), .ref (G.2.1 + 78), .ref (G.2.1 + 79), .ref (G.2.1 + 80), .ref (G.2.1 + 81), .int (c 0 12), .ref (G.2.1 + 82), .int (c 0 14), .ref (G.2.1 + 83)] 5 (.int v))) = wM G o (mp c 0 5 v) := wM_up (i := 0) (f := upd (c 0) 5 v)
theorem yp0_6 {v : Int32} : va_up (wM G o c) (G.2.1 + 74) (ob 10 (List.set [.ref (G.2.1 + 75), .ref (G.2.1 + 76), .ref (G.2.1 + 77), .int (c 0 3), .int (c 0 4), .int (c 0 5), .int (c 0 6), .int (c 0 7), .ref (G.2.1 + 78), .ref (G.2.1 + 79), .ref (G.2.1 + 80), .ref (G.2.1 + 81), .int (c 0 12), .ref (G.2.1 + 82), .int (c 0 14), .ref (G.2.1 + 83)] 6 (.int v))) = wM G o (mp c 0 6 v) := wM_up (i := 0) (f := upd (c 0) 6 v)
theorem yp0_7 {v : Int32} : va_up (wM G o c) (G.2.1 + 74) (ob 10 (List.set [.ref (G.2.1 + 75), .ref (G.2.1 + 76), .ref (G.2.1 + 77), .int (c 0 3), .int (c 0 4), .int (c 0 5), .int (c 0 6), .int (c 0 7), .ref (G.2.1 + 78), .ref (G.2.1 + 79), .ref (G.2.1 + 80), .ref (G.2.1 + 81), .int (c 0 12), .ref (G.2.1 + 82), .int (c 0 14), .ref (G.2.1 + 83)] 7 (.int v))) = wM G o (mp c 0 7 v) := wM_up (i := 0) (f := upd (c 0) 7 v)
theorem yp0_12 {v : Int32} : va_up (wM G o c) (G.2.1 + 74) (ob 10 (List.set [.ref (G.2.1 + 75), .ref (G.2.1 + 76), .ref (G.2.1 + 77), .int (c 0 3), .int (c 0 4), .int (c 0 5), .int (c 0 6), .int (c 0 7), .ref (G.2.1 + 78), .ref (G.2.1 + 79), .ref (G.2.1 + 80), .ref (G.2.1 + 81), .int (c 0 12), .ref (G.2.1 + 82), .int (c 0 14), .ref (G.2.1 + 83)] 12 (.int v))) = wM G o (mp c 0 12 v) := wM_up (i := 0) (f := upd (c 0) 12 v)
theorem yp0_14 {v : Int32} : va_up (wM G o c) (G.2.1 + 74) (ob 10 (List.set [.ref (G.2.1 + 75), .ref (G.2.1 + 76), .ref (G.2.1 + 77), .int (c 0 3), .int (c 0 4), .int (c 0 5), .int (c 0 6), .int (c 0 7), .ref (G.2.1 + 78), .ref (G.2.1 + 79), .ref (G.2.1 + 80), .ref (G.2.1 + 81), .int (c 0 12), .ref (G.2.1 + 82), .int (c 0 14), .ref (G.2.1 + 83)] 14 (.int v))) = wM G o (mp c 0 14 v) := wM_up (i := 0) (f := upd (c 0) 14 v)
theorem yw1 : wM G o c (G.2.1 + 75) = ai G 26100 (c 1) := (wM_at (i := 1)).trans rfl
theorem ya1 {f : Nat → Int32} : va_up (wM G o c) (G.2.1 + 75) (ai G 26100 f) = wM G o (mr c 1 f) := wM_up (i := 1)
theorem yw2 : wM G o c (G.2.1 + 76) = ai G 26100 (c 2) := (wM_at (i := 2)).trans rfl
theorem ya2 {f : Nat → Int32} : va_up (wM G o c) (G.2.1 + 76) (ai G 26100 f) = wM G o (mr c 2 f) := wM_up (i := 2)
theorem yw3 : wM G o c (G.2.1 + 77) = ai G 26100 (c 3) := (wM_at (i := 3)).trans rfl
theorem ya3 {f : Nat → Int32} : va_up (wM G o c) (G.2.1 + 77) (ai G 26100 f) = wM G o (mr c 3 f) := wM_up (i := 3)
theorem yw4 : wM G o c (G.2.1 + 78) = ai G 14 (c 4) := (wM_at (i := 4)).trans rfl
theorem ya4 {f : Nat → Int32} : va_up (wM G o c) (G.2.1 + 78) (ai G 14 f) = wM G o (mr c 4 f) := wM_up (i := 4)
theorem yw5 : wM G o c (G.2.1 + 79) = ai G 500 (c 5) := (wM_at (i := 5)).trans rfl
theorem ya5 {f : Nat → Int32} : va_up (wM G o c) (G.2.1 + 79) (ai G 500 f) = wM G o (mr c 5 f) := wM_up (i := 5)
theorem yw6 : wM G o c (G.2.1 + 80) = ai G 500 (c 6) := (wM_at (i := 6)).trans rfl
theorem ya6 {f : Nat → Int32} : va_up (wM G o c) (G.2.1 + 80) (ai G 500 f) = wM G o (mr c 6 f) := wM_up (i := 6)
theorem yw7 : wM G o c (G.2.1 + 81) = az G 500 (c 7) := (wM_at (i := 7)).trans rfl
theorem ya7 {f : Nat → Int32} : va_up (wM G o c) (G.2.1 + 81) (az G 500 f) = wM G o (mr c 7 f) := wM_up (i := 7)
theorem yw8 : wM G o c (G.2.1 + 82) = ai G 501 (c 8) := (wM_at (i := 8)).trans rfl
theorem ya8 {f : Nat → Int32} : va_up (wM G o c) (G.2.1 + 82) (ai G 501 f) = wM G o (mr c 8 f) := wM_up (i := 8)
theorem yw9 : wM G o c (G.2.1 + 83) = ai G 500 (c 9) := (wM_at (i := 9)).trans rfl
theorem ya9 {f : Nat → Int32} : va_up (wM G o c) (G.2.1 + 83) (ai G 500 f) = wM G o (mr c 9 f) := wM_up (i := 9)
end MEM

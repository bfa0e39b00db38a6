/-! the law's start: what the Statement gives of it, as the walking layer wants it -/
theorem st_s0 {s : State} {b : Nat} (hs : ∀ c ∈ flatC (Jvm.Cond.and given_1 narrow_1), c.before #[Value.ref b] s = true) (hts : ∀ w ∈ lw_tbl, w.before #[Value.ref b] s = true) : ∃ t : Nat, va_Z "SweepKeeper" (gs_n 0).1 "[I" (.ref t) (fun q => s.heap.size ≤ q) s s.heap ∧ va_T .int t (gs_n 0).2.1 (fun j => .int ((gs_n 0).2.2.getD j 0)) (fun q => s.heap.size ≤ q) s s.heap := by
  have hA : ∀ a : Nat, a < s.heap.size → ¬ s.heap.size ≤ a := fun a h => Nat.not_le.mpr h
  obtain ⟨t, ht, hT⟩ := va_Tof (A := fun q => s.heap.size ≤ q) (tm := (.static "SweepKeeper" "KINDS_THAT_ARE" "[I")) (ty := .int) (N := 6) (f := fun j => .int ((gs_n 0).2.2.getD j 0)) (by decide) (hs (Cond.arrayOf (.static "SweepKeeper" "KINDS_THAT_ARE" "[I") .int) (by decide +kernel)) (va_eqt (hs (Cond.eq (.length (.static "SweepKeeper" "KINDS_THAT_ARE" "[I")) (.int 6)) (by decide +kernel))) (fun j hj => match j, hj with
    | 0, _ => va_eqt (hs (Cond.eq (.elem (.static "SweepKeeper" "KINDS_THAT_ARE" "[I") (.int 0)) (.int 25)) (by decide +kernel))
    | 1, _ => va_eqt (hs (Cond.eq (.elem (.static "SweepKeeper" "KINDS_THAT_ARE" "[I") (.int 1)) (.int 34)) (by decide +kernel))
    | 2, _ => va_eqt (hs (Cond.eq (.elem (.static "SweepKeeper" "KINDS_THAT_ARE" "[I") (.int 2)) (.int 4)) (by decide +kernel))
    | 3, _ => va_eqt (hs (Cond.eq (.elem (.static "SweepKeeper" "KINDS_THAT_ARE" "[I") (.int 3)) (.int 24)) (by decide +kernel))
    | 4, _ => va_eqt (hs (Cond.eq (.elem (.static "SweepKeeper" "KINDS_THAT_ARE" "[I") (.int 4)) (.int 16)) (by decide +kernel))
    | 5, _ => va_eqt (hs (Cond.eq (.elem (.static "SweepKeeper" "KINDS_THAT_ARE" "[I") (.int 5)) (.int 32)) (by decide +kernel))
    | q + 6, h => absurd h (by omega)) hA
  exact ⟨t, va_Zof (hts (Cond.laysStatic "SweepKeeper" "KINDS_THAT_ARE" "[I") (by decide +kernel)) (hts (Cond.initialized "SweepKeeper") (by decide +kernel)) ht hA, hT⟩
theorem st_s1 {s : State} {b : Nat} (hs : ∀ c ∈ flatC (Jvm.Cond.and given_1 narrow_1), c.before #[Value.ref b] s = true) (hts : ∀ w ∈ lw_tbl, w.before #[Value.ref b] s = true) : ∃ t : Nat, va_Z "SweepKeeper" (gs_n 1).1 "[I" (.ref t) (fun q => s.heap.size ≤ q) s s.heap ∧ va_T .int t (gs_n 1).2.1 (fun j => .int ((gs_n 1).2.2.getD j 0)) (fun q => s.heap.size ≤ q) s s.heap := by
  have hA : ∀ a : Nat, a < s.heap.size → ¬ s.heap.size ≤ a := fun a h => Nat.not_le.mpr h
  obtain ⟨t, ht, hT⟩ := va_Tof (A := fun q => s.heap.size ≤ q) (tm := (.static "SweepKeeper" "MEASURE_BODY" "[I")) (ty := .int) (N := 6) (f := fun j => .int ((gs_n 1).2.2.getD j 0)) (by decide) (hs (Cond.arrayOf (.static "SweepKeeper" "MEASURE_BODY" "[I") .int) (by decide +kernel)) (va_eqt (hs (Cond.eq (.length (.static "SweepKeeper" "MEASURE_BODY" "[I")) (.int 6)) (by decide +kernel))) (fun j hj => match j, hj with
    | 0, _ => va_eqt (hs (Cond.eq (.elem (.static "SweepKeeper" "MEASURE_BODY" "[I") (.int 0)) (.int 0)) (by decide +kernel))
    | 1, _ => va_eqt (hs (Cond.eq (.elem (.static "SweepKeeper" "MEASURE_BODY" "[I") (.int 1)) (.int 2)) (by decide +kernel))
    | 2, _ => va_eqt (hs (Cond.eq (.elem (.static "SweepKeeper" "MEASURE_BODY" "[I") (.int 2)) (.int 4)) (by decide +kernel))
    | 3, _ => va_eqt (hs (Cond.eq (.elem (.static "SweepKeeper" "MEASURE_BODY" "[I") (.int 3)) (.int 0)) (by decide +kernel))
    | 4, _ => va_eqt (hs (Cond.eq (.elem (.static "SweepKeeper" "MEASURE_BODY" "[I") (.int 4)) (.int 1)) (by decide +kernel))
    | 5, _ => va_eqt (hs (Cond.eq (.elem (.static "SweepKeeper" "MEASURE_BODY" "[I") (.int 5)) (.int 3)) (by decide +kernel))
    | q + 6, h => absurd h (by omega)) hA
  exact ⟨t, va_Zof (hts (Cond.laysStatic "SweepKeeper" "MEASURE_BODY" "[I") (by decide +kernel)) (hts (Cond.initialized "SweepKeeper") (by decide +kernel)) ht hA, hT⟩
theorem st_s2 {s : State} {b : Nat} (hs : ∀ c ∈ flatC (Jvm.Cond.and given_1 narrow_1), c.before #[Value.ref b] s = true) (hts : ∀ w ∈ lw_tbl, w.before #[Value.ref b] s = true) : ∃ t : Nat, va_Z "SweepKeeper" (gs_n 2).1 "[I" (.ref t) (fun q => s.heap.size ≤ q) s s.heap ∧ va_T .int t (gs_n 2).2.1 (fun j => .int ((gs_n 2).2.2.getD j 0)) (fun q => s.heap.size ≤ q) s s.heap := by
  have hA : ∀ a : Nat, a < s.heap.size → ¬ s.heap.size ≤ a := fun a h => Nat.not_le.mpr h
  obtain ⟨t, ht, hT⟩ := va_Tof (A := fun q => s.heap.size ≤ q) (tm := (.static "SweepKeeper" "MEASURE_UPPER_BODY" "[I")) (ty := .int) (N := 6) (f := fun j => .int ((gs_n 2).2.2.getD j 0)) (by decide) (hs (Cond.arrayOf (.static "SweepKeeper" "MEASURE_UPPER_BODY" "[I") .int) (by decide +kernel)) (va_eqt (hs (Cond.eq (.length (.static "SweepKeeper" "MEASURE_UPPER_BODY" "[I")) (.int 6)) (by decide +kernel))) (fun j hj => match j, hj with
    | 0, _ => va_eqt (hs (Cond.eq (.elem (.static "SweepKeeper" "MEASURE_UPPER_BODY" "[I") (.int 0)) (.int (-1))) (by decide +kernel))
    | 1, _ => va_eqt (hs (Cond.eq (.elem (.static "SweepKeeper" "MEASURE_UPPER_BODY" "[I") (.int 1)) (.int (-1))) (by decide +kernel))
    | 2, _ => va_eqt (hs (Cond.eq (.elem (.static "SweepKeeper" "MEASURE_UPPER_BODY" "[I") (.int 2)) (.int (-1))) (by decide +kernel))
    | 3, _ => va_eqt (hs (Cond.eq (.elem (.static "SweepKeeper" "MEASURE_UPPER_BODY" "[I") (.int 3)) (.int (-1))) (by decide +kernel))
    | 4, _ => va_eqt (hs (Cond.eq (.elem (.static "SweepKeeper" "MEASURE_UPPER_BODY" "[I") (.int 4)) (.int 0)) (by decide +kernel))
    | 5, _ => va_eqt (hs (Cond.eq (.elem (.static "SweepKeeper" "MEASURE_UPPER_BODY" "[I") (.int 5)) (.int 2)) (by decide +kernel))
    | q + 6, h => absurd h (by omega)) hA
  exact ⟨t, va_Zof (hts (Cond.laysStatic "SweepKeeper" "MEASURE_UPPER_BODY" "[I") (by decide +kernel)) (hts (Cond.initialized "SweepKeeper") (by decide +kernel)) ht hA, hT⟩
theorem st_s3 {s : State} {b : Nat} (hs : ∀ c ∈ flatC (Jvm.Cond.and given_1 narrow_1), c.before #[Value.ref b] s = true) (hts : ∀ w ∈ lw_tbl, w.before #[Value.ref b] s = true) : ∃ t : Nat, va_Z "SweepKeeper" (gs_n 3).1 "[I" (.ref t) (fun q => s.heap.size ≤ q) s s.heap ∧ va_T .int t (gs_n 3).2.1 (fun j => .int ((gs_n 3).2.2.getD j 0)) (fun q => s.heap.size ≤ q) s s.heap := by
  have hA : ∀ a : Nat, a < s.heap.size → ¬ s.heap.size ≤ a := fun a h => Nat.not_le.mpr h
  obtain ⟨t, ht, hT⟩ := va_Tof (A := fun q => s.heap.size ≤ q) (tm := (.static "SweepKeeper" "LINKS_BODY" "[I")) (ty := .int) (N := 6) (f := fun j => .int ((gs_n 3).2.2.getD j 0)) (by decide) (hs (Cond.arrayOf (.static "SweepKeeper" "LINKS_BODY" "[I") .int) (by decide +kernel)) (va_eqt (hs (Cond.eq (.length (.static "SweepKeeper" "LINKS_BODY" "[I")) (.int 6)) (by decide +kernel))) (fun j hj => match j, hj with
    | 0, _ => va_eqt (hs (Cond.eq (.elem (.static "SweepKeeper" "LINKS_BODY" "[I") (.int 0)) (.int 5)) (by decide +kernel))
    | 1, _ => va_eqt (hs (Cond.eq (.elem (.static "SweepKeeper" "LINKS_BODY" "[I") (.int 1)) (.int 7)) (by decide +kernel))
    | 2, _ => va_eqt (hs (Cond.eq (.elem (.static "SweepKeeper" "LINKS_BODY" "[I") (.int 2)) (.int 8)) (by decide +kernel))
    | 3, _ => va_eqt (hs (Cond.eq (.elem (.static "SweepKeeper" "LINKS_BODY" "[I") (.int 3)) (.int 6)) (by decide +kernel))
    | 4, _ => va_eqt (hs (Cond.eq (.elem (.static "SweepKeeper" "LINKS_BODY" "[I") (.int 4)) (.int 6)) (by decide +kernel))
    | 5, _ => va_eqt (hs (Cond.eq (.elem (.static "SweepKeeper" "LINKS_BODY" "[I") (.int 5)) (.int 7)) (by decide +kernel))
    | q + 6, h => absurd h (by omega)) hA
  exact ⟨t, va_Zof (hts (Cond.laysStatic "SweepKeeper" "LINKS_BODY" "[I") (by decide +kernel)) (hts (Cond.initialized "SweepKeeper") (by decide +kernel)) ht hA, hT⟩
theorem st_s4 {s : State} {b : Nat} (hs : ∀ c ∈ flatC (Jvm.Cond.and given_1 narrow_1), c.before #[Value.ref b] s = true) (hts : ∀ w ∈ lw_tbl, w.before #[Value.ref b] s = true) : ∃ t : Nat, va_Z "SweepKeeper" (gs_n 4).1 "[I" (.ref t) (fun q => s.heap.size ≤ q) s s.heap ∧ va_T .int t (gs_n 4).2.1 (fun j => .int ((gs_n 4).2.2.getD j 0)) (fun q => s.heap.size ≤ q) s s.heap := by
  have hA : ∀ a : Nat, a < s.heap.size → ¬ s.heap.size ≤ a := fun a h => Nat.not_le.mpr h
  obtain ⟨t, ht, hT⟩ := va_Tof (A := fun q => s.heap.size ≤ q) (tm := (.static "SweepKeeper" "LINKS_UPPER_BODY" "[I")) (ty := .int) (N := 6) (f := fun j => .int ((gs_n 4).2.2.getD j 0)) (by decide) (hs (Cond.arrayOf (.static "SweepKeeper" "LINKS_UPPER_BODY" "[I") .int) (by decide +kernel)) (va_eqt (hs (Cond.eq (.length (.static "SweepKeeper" "LINKS_UPPER_BODY" "[I")) (.int 6)) (by decide +kernel))) (fun j hj => match j, hj with
    | 0, _ => va_eqt (hs (Cond.eq (.elem (.static "SweepKeeper" "LINKS_UPPER_BODY" "[I") (.int 0)) (.int (-1))) (by decide +kernel))
    | 1, _ => va_eqt (hs (Cond.eq (.elem (.static "SweepKeeper" "LINKS_UPPER_BODY" "[I") (.int 1)) (.int (-1))) (by decide +kernel))
    | 2, _ => va_eqt (hs (Cond.eq (.elem (.static "SweepKeeper" "LINKS_UPPER_BODY" "[I") (.int 2)) (.int (-1))) (by decide +kernel))
    | 3, _ => va_eqt (hs (Cond.eq (.elem (.static "SweepKeeper" "LINKS_UPPER_BODY" "[I") (.int 3)) (.int 5)) (by decide +kernel))
    | 4, _ => va_eqt (hs (Cond.eq (.elem (.static "SweepKeeper" "LINKS_UPPER_BODY" "[I") (.int 4)) (.int 5)) (by decide +kernel))
    | 5, _ => va_eqt (hs (Cond.eq (.elem (.static "SweepKeeper" "LINKS_UPPER_BODY" "[I") (.int 5)) (.int (-1))) (by decide +kernel))
    | q + 6, h => absurd h (by omega)) hA
  exact ⟨t, va_Zof (hts (Cond.laysStatic "SweepKeeper" "LINKS_UPPER_BODY" "[I") (by decide +kernel)) (hts (Cond.initialized "SweepKeeper") (by decide +kernel)) ht hA, hT⟩
theorem st_s5 {s : State} {b : Nat} (hs : ∀ c ∈ flatC (Jvm.Cond.and given_1 narrow_1), c.before #[Value.ref b] s = true) (hts : ∀ w ∈ lw_tbl, w.before #[Value.ref b] s = true) : ∃ t : Nat, va_Z "SweepKeeper" (gs_n 5).1 "[I" (.ref t) (fun q => s.heap.size ≤ q) s s.heap ∧ va_T .int t (gs_n 5).2.1 (fun j => .int ((gs_n 5).2.2.getD j 0)) (fun q => s.heap.size ≤ q) s s.heap := by
  have hA : ∀ a : Nat, a < s.heap.size → ¬ s.heap.size ≤ a := fun a h => Nat.not_le.mpr h
  obtain ⟨t, ht, hT⟩ := va_Tof (A := fun q => s.heap.size ≤ q) (tm := (.static "SweepKeeper" "NAMES_A" "[I")) (ty := .int) (N := 13) (f := fun j => .int ((gs_n 5).2.2.getD j 0)) (by decide) (hs (Cond.arrayOf (.static "SweepKeeper" "NAMES_A" "[I") .int) (by decide +kernel)) (va_eqt (hs (Cond.eq (.length (.static "SweepKeeper" "NAMES_A" "[I")) (.int 13)) (by decide +kernel))) (fun j hj => match j, hj with
    | 0, _ => va_eqt (hs (Cond.eq (.elem (.static "SweepKeeper" "NAMES_A" "[I") (.int 0)) (.int 8)) (by decide +kernel))
    | 1, _ => va_eqt (hs (Cond.eq (.elem (.static "SweepKeeper" "NAMES_A" "[I") (.int 1)) (.int 8)) (by decide +kernel))
    | 2, _ => va_eqt (hs (Cond.eq (.elem (.static "SweepKeeper" "NAMES_A" "[I") (.int 2)) (.int 8)) (by decide +kernel))
    | 3, _ => va_eqt (hs (Cond.eq (.elem (.static "SweepKeeper" "NAMES_A" "[I") (.int 3)) (.int 24)) (by decide +kernel))
    | 4, _ => va_eqt (hs (Cond.eq (.elem (.static "SweepKeeper" "NAMES_A" "[I") (.int 4)) (.int 24)) (by decide +kernel))
    | 5, _ => va_eqt (hs (Cond.eq (.elem (.static "SweepKeeper" "NAMES_A" "[I") (.int 5)) (.int 8)) (by decide +kernel))
    | 6, _ => va_eqt (hs (Cond.eq (.elem (.static "SweepKeeper" "NAMES_A" "[I") (.int 6)) (.int 8)) (by decide +kernel))
    | 7, _ => va_eqt (hs (Cond.eq (.elem (.static "SweepKeeper" "NAMES_A" "[I") (.int 7)) (.int 8)) (by decide +kernel))
    | 8, _ => va_eqt (hs (Cond.eq (.elem (.static "SweepKeeper" "NAMES_A" "[I") (.int 8)) (.int 8)) (by decide +kernel))
    | 9, _ => va_eqt (hs (Cond.eq (.elem (.static "SweepKeeper" "NAMES_A" "[I") (.int 9)) (.int 0)) (by decide +kernel))
    | 10, _ => va_eqt (hs (Cond.eq (.elem (.static "SweepKeeper" "NAMES_A" "[I") (.int 10)) (.int 0)) (by decide +kernel))
    | 11, _ => va_eqt (hs (Cond.eq (.elem (.static "SweepKeeper" "NAMES_A" "[I") (.int 11)) (.int 8)) (by decide +kernel))
    | 12, _ => va_eqt (hs (Cond.eq (.elem (.static "SweepKeeper" "NAMES_A" "[I") (.int 12)) (.int 4)) (by decide +kernel))
    | q + 13, h => absurd h (by omega)) hA
  exact ⟨t, va_Zof (hts (Cond.laysStatic "SweepKeeper" "NAMES_A" "[I") (by decide +kernel)) (hts (Cond.initialized "SweepKeeper") (by decide +kernel)) ht hA, hT⟩
theorem st_s6 {s : State} {b : Nat} (hs : ∀ c ∈ flatC (Jvm.Cond.and given_1 narrow_1), c.before #[Value.ref b] s = true) (hts : ∀ w ∈ lw_tbl, w.before #[Value.ref b] s = true) : ∃ t : Nat, va_Z "SweepKeeper" (gs_n 6).1 "[I" (.ref t) (fun q => s.heap.size ≤ q) s s.heap ∧ va_T .int t (gs_n 6).2.1 (fun j => .int ((gs_n 6).2.2.getD j 0)) (fun q => s.heap.size ≤ q) s s.heap := by
  have hA : ∀ a : Nat, a < s.heap.size → ¬ s.heap.size ≤ a := fun a h => Nat.not_le.mpr h
  obtain ⟨t, ht, hT⟩ := va_Tof (A := fun q => s.heap.size ≤ q) (tm := (.static "SweepKeeper" "NAMES_B" "[I")) (ty := .int) (N := 13) (f := fun j => .int ((gs_n 6).2.2.getD j 0)) (by decide) (hs (Cond.arrayOf (.static "SweepKeeper" "NAMES_B" "[I") .int) (by decide +kernel)) (va_eqt (hs (Cond.eq (.length (.static "SweepKeeper" "NAMES_B" "[I")) (.int 13)) (by decide +kernel))) (fun j hj => match j, hj with
    | 0, _ => va_eqt (hs (Cond.eq (.elem (.static "SweepKeeper" "NAMES_B" "[I") (.int 0)) (.int 0)) (by decide +kernel))
    | 1, _ => va_eqt (hs (Cond.eq (.elem (.static "SweepKeeper" "NAMES_B" "[I") (.int 1)) (.int 0)) (by decide +kernel))
    | 2, _ => va_eqt (hs (Cond.eq (.elem (.static "SweepKeeper" "NAMES_B" "[I") (.int 2)) (.int 0)) (by decide +kernel))
    | 3, _ => va_eqt (hs (Cond.eq (.elem (.static "SweepKeeper" "NAMES_B" "[I") (.int 3)) (.int 8)) (by decide +kernel))
    | 4, _ => va_eqt (hs (Cond.eq (.elem (.static "SweepKeeper" "NAMES_B" "[I") (.int 4)) (.int 8)) (by decide +kernel))
    | 5, _ => va_eqt (hs (Cond.eq (.elem (.static "SweepKeeper" "NAMES_B" "[I") (.int 5)) (.int 8)) (by decide +kernel))
    | 6, _ => va_eqt (hs (Cond.eq (.elem (.static "SweepKeeper" "NAMES_B" "[I") (.int 6)) (.int 8)) (by decide +kernel))
    | 7, _ => va_eqt (hs (Cond.eq (.elem (.static "SweepKeeper" "NAMES_B" "[I") (.int 7)) (.int 0)) (by decide +kernel))
    | 8, _ => va_eqt (hs (Cond.eq (.elem (.static "SweepKeeper" "NAMES_B" "[I") (.int 8)) (.int 0)) (by decide +kernel))
    | 9, _ => va_eqt (hs (Cond.eq (.elem (.static "SweepKeeper" "NAMES_B" "[I") (.int 9)) (.int 0)) (by decide +kernel))
    | 10, _ => va_eqt (hs (Cond.eq (.elem (.static "SweepKeeper" "NAMES_B" "[I") (.int 10)) (.int 0)) (by decide +kernel))
    | 11, _ => va_eqt (hs (Cond.eq (.elem (.static "SweepKeeper" "NAMES_B" "[I") (.int 11)) (.int 0)) (by decide +kernel))
    | 12, _ => va_eqt (hs (Cond.eq (.elem (.static "SweepKeeper" "NAMES_B" "[I") (.int 12)) (.int 0)) (by decide +kernel))
    | q + 13, h => absurd h (by omega)) hA
  exact ⟨t, va_Zof (hts (Cond.laysStatic "SweepKeeper" "NAMES_B" "[I") (by decide +kernel)) (hts (Cond.initialized "SweepKeeper") (by decide +kernel)) ht hA, hT⟩
theorem st_s7 {s : State} {b : Nat} (hs : ∀ c ∈ flatC (Jvm.Cond.and given_1 narrow_1), c.before #[Value.ref b] s = true) (hts : ∀ w ∈ lw_tbl, w.before #[Value.ref b] s = true) : ∃ t : Nat, va_Z "SweepKeeper" (gs_n 7).1 "[I" (.ref t) (fun q => s.heap.size ≤ q) s s.heap ∧ va_T .int t (gs_n 7).2.1 (fun j => .int ((gs_n 7).2.2.getD j 0)) (fun q => s.heap.size ≤ q) s s.heap := by
  have hA : ∀ a : Nat, a < s.heap.size → ¬ s.heap.size ≤ a := fun a h => Nat.not_le.mpr h
  obtain ⟨t, ht, hT⟩ := va_Tof (A := fun q => s.heap.size ≤ q) (tm := (.static "SweepKeeper" "NAMES_C" "[I")) (ty := .int) (N := 13) (f := fun j => .int ((gs_n 7).2.2.getD j 0)) (by decide) (hs (Cond.arrayOf (.static "SweepKeeper" "NAMES_C" "[I") .int) (by decide +kernel)) (va_eqt (hs (Cond.eq (.length (.static "SweepKeeper" "NAMES_C" "[I")) (.int 13)) (by decide +kernel))) (fun j hj => match j, hj with
    | 0, _ => va_eqt (hs (Cond.eq (.elem (.static "SweepKeeper" "NAMES_C" "[I") (.int 0)) (.int 0)) (by decide +kernel))
    | 1, _ => va_eqt (hs (Cond.eq (.elem (.static "SweepKeeper" "NAMES_C" "[I") (.int 1)) (.int 8)) (by decide +kernel))
    | 2, _ => va_eqt (hs (Cond.eq (.elem (.static "SweepKeeper" "NAMES_C" "[I") (.int 2)) (.int 8)) (by decide +kernel))
    | 3, _ => va_eqt (hs (Cond.eq (.elem (.static "SweepKeeper" "NAMES_C" "[I") (.int 3)) (.int 0)) (by decide +kernel))
    | 4, _ => va_eqt (hs (Cond.eq (.elem (.static "SweepKeeper" "NAMES_C" "[I") (.int 4)) (.int 0)) (by decide +kernel))
    | 5, _ => va_eqt (hs (Cond.eq (.elem (.static "SweepKeeper" "NAMES_C" "[I") (.int 5)) (.int 0)) (by decide +kernel))
    | 6, _ => va_eqt (hs (Cond.eq (.elem (.static "SweepKeeper" "NAMES_C" "[I") (.int 6)) (.int 0)) (by decide +kernel))
    | 7, _ => va_eqt (hs (Cond.eq (.elem (.static "SweepKeeper" "NAMES_C" "[I") (.int 7)) (.int 8)) (by decide +kernel))
    | 8, _ => va_eqt (hs (Cond.eq (.elem (.static "SweepKeeper" "NAMES_C" "[I") (.int 8)) (.int 0)) (by decide +kernel))
    | 9, _ => va_eqt (hs (Cond.eq (.elem (.static "SweepKeeper" "NAMES_C" "[I") (.int 9)) (.int 0)) (by decide +kernel))
    | 10, _ => va_eqt (hs (Cond.eq (.elem (.static "SweepKeeper" "NAMES_C" "[I") (.int 10)) (.int 0)) (by decide +kernel))
    | 11, _ => va_eqt (hs (Cond.eq (.elem (.static "SweepKeeper" "NAMES_C" "[I") (.int 11)) (.int 0)) (by decide +kernel))
    | 12, _ => va_eqt (hs (Cond.eq (.elem (.static "SweepKeeper" "NAMES_C" "[I") (.int 12)) (.int 8)) (by decide +kernel))
    | q + 13, h => absurd h (by omega)) hA
  exact ⟨t, va_Zof (hts (Cond.laysStatic "SweepKeeper" "NAMES_C" "[I") (by decide +kernel)) (hts (Cond.initialized "SweepKeeper") (by decide +kernel)) ht hA, hT⟩
theorem st_K {s : State} {b : Nat} (hts : ∀ w ∈ lw_tbl, w.before #[Value.ref b] s = true) : ∃ (D : va_G) (cI cZ : ClassId), va_K D vwCl [(cI, .int), (cZ, .boolean)] s := by
  obtain ⟨c0, i0, hK0⟩ := u_known (C := RX0) (T := TX0) (N := 4) (n := 4) hts (fun w h => (List.mem_filter.mp (uX0 w h)).1) (hts (.instantiable RX0 4) (by decide +kernel))
  obtain ⟨c1, i1, hK1⟩ := u_known (C := RX1) (T := TX1) (N := 5) (n := 5) hts (fun w h => (List.mem_filter.mp (uX1 w h)).1) (hts (.instantiable RX1 5) (by decide +kernel))
  obtain ⟨c2, i2, hK2⟩ := u_known (C := RX2) (T := TX2) (N := 7) (n := 7) hts (fun w h => (List.mem_filter.mp (uX2 w h)).1) (hts (.instantiable RX2 7) (by decide +kernel))
  obtain ⟨c3, i3, hK3⟩ := u_known (C := RX3) (T := TX3) (N := 9) (n := 9) hts (fun w h => (List.mem_filter.mp (uX3 w h)).1) (hts (.instantiable RX3 9) (by decide +kernel))
  obtain ⟨c4, i4, hK4⟩ := u_known (C := RX4) (T := TX4) (N := 3) (n := 3) hts (fun w h => (List.mem_filter.mp (uX4 w h)).1) (hts (.instantiable RX4 3) (by decide +kernel))
  obtain ⟨c5, i5, hK5⟩ := u_known (C := RX5) (T := TX5) (N := 6) (n := 6) hts (fun w h => (List.mem_filter.mp (uX5 w h)).1) (hts (.instantiable RX5 6) (by decide +kernel))
  obtain ⟨c6, i6, hK6⟩ := u_known (C := RX6) (T := TX6) (N := 7) (n := 7) hts (fun w h => (List.mem_filter.mp (uX6 w h)).1) (hts (.instantiable RX6 7) (by decide +kernel))
  obtain ⟨c7, i7, hK7⟩ := u_known (C := RX7) (T := TX7) (N := 9) (n := 9) hts (fun w h => (List.mem_filter.mp (uX7 w h)).1) (hts (.instantiable RX7 9) (by decide +kernel))
  obtain ⟨c8, i8, hK8⟩ := u_known (C := RX8) (T := TX8) (N := 7) (n := 7) hts (fun w h => (List.mem_filter.mp (uX8 w h)).1) (hts (.instantiable RX8 7) (by decide +kernel))
  obtain ⟨c9, i9, hK9⟩ := u_known (C := RX9) (T := TX9) (N := 11) (n := 11) hts (fun w h => (List.mem_filter.mp (uX9 w h)).1) (hts (.instantiable RX9 11) (by decide +kernel))
  obtain ⟨c10, i10, hK10⟩ := u_known (C := RX10) (T := TX10) (N := 16) (n := 16) hts (fun w h => (List.mem_filter.mp (uX10 w h)).1) (hts (.instantiable RX10 16) (by decide +kernel))
  obtain ⟨cI, kI, compI, hI1, hI2, hI3⟩ := Cond.arrayClass_spec (hts (.arrayClass .int) (by decide +kernel))
  obtain ⟨cZ, kZ, compZ, hZ1, hZ2, hZ3⟩ := Cond.arrayClass_spec (hts (.arrayClass .boolean) (by decide +kernel))
  refine ⟨(fun k => match k with | 1 => c1 | 2 => c2 | 3 => c3 | 4 => c4 | 5 => c5 | 6 => c6 | 7 => c7 | 8 => c8 | 9 => c9 | 10 => c10 | _ => c0, fun k => match k with | 1 => i1 | 2 => i2 | 3 => i3 | 4 => i4 | 5 => i5 | 6 => i6 | 7 => i7 | 8 => i8 | 9 => i9 | 10 => i10 | _ => i0), cI, cZ, ?_, ?_⟩
  · intro k q hq
    match k, hq with
    | 0, hq => cases hq; exact hK0
    | 1, hq => cases hq; exact hK1
    | 2, hq => cases hq; exact hK2
    | 3, hq => cases hq; exact hK3
    | 4, hq => cases hq; exact hK4
    | 5, hq => cases hq; exact hK5
    | 6, hq => cases hq; exact hK6
    | 7, hq => cases hq; exact hK7
    | 8, hq => cases hq; exact hK8
    | 9, hq => cases hq; exact hK9
    | 10, hq => cases hq; exact hK10
    | k + 11, hq => simp [vwCl] at hq
  · intro k q hq
    match k, hq with
    | 0, hq => cases hq; exact ⟨fun n z => ⟨fun k h => (by cases h), kI, hI2, compI, hI3⟩, hI1⟩
    | 1, hq => cases hq; exact ⟨fun n z => ⟨fun k h => (by cases h), kZ, hZ2, compZ, hZ3⟩, hZ1⟩
    | k + 2, hq => simp at hq
def lawQ : gQ := fun below args s => lw_Z below args s
abbrev lawB : gB := (11, 422, 84, 146846, 0, 0, lawQ)
theorem law_ret {p : Program} {l : Launch} {e : Env} {R : Room} {s : State} {m : MethodId} {args : Array Value} {below : List Frame} {meth : Method} {c : Code} (hx : p.tables.exec = Jvm.exec) (hb : c.code = code) (hr : meth.sig.returnType = ret) (hlocks : meth.locks = false) {pc : Nat} {H : Heap} {ls : Array Slot} (hdg : decode code pc = .ok (.ireturn, 1)) : W p l e R s m args below meth c H [] 84 146846 (lw_Z below args s) (F0 m pc ls [.int 1]) := by
  intro T hT X
  obtain ⟨fs, hret, hrun, hended, hW, hframe⟩ := X.leave (v := some (.int 1)) (hlocks := hlocks) (fun h => by rw [hr] at h; cases h)
  have hmeth' : T.vm.method? m = some meth := X.method'
  refine ⟨T.setFrames fs, ?_, .returned (some (.int 1)), hrun, hended, rfl, ⟨_, rfl⟩, hW, hframe⟩
  jvm_step X.here [X.here.top, hx, hb, hdg, hmeth', hr, ret, narrow_b1]
  (try refine ⟨rfl, ?_⟩); (try refine ⟨rfl, ?_⟩)
  first | (intro acts; rw [hret _ acts rfl rfl rfl]) | rw [hret _ _ rfl rfl rfl]
  exact Steps.refl _
theorem go_lawret {l : Launch} {G : gG} {lv : List (Nat × Value)} {n k : Nat} {w : Nat → va_E} (hn : n ≤ 84) (hk : k ≤ 146846) : Go l G mL_law lawB 1400 lv [.int 1] n k w := by
  intro p e R s m args below meth c H locs ls X Y
  have hs : s.heap.size = G.2.1 + 0 := X.2.2.2.2.2.2.2.2.2.2.2.2.2
  refine va_forget (fun q hq => ?_) (W.widen (k := 84) (n := 146846) (by show n - 0 ≤ _; omega) (by show k - 0 ≤ _; omega) (law_ret X.1 X.2.1 X.2.2.2.1 X.2.2.2.2.1 dL_law_1400))
  have := Y.2.2.2.1.2.2 q hq
  rw [hs]
  exact this
theorem law_over {l : Launch} {G : gG} {n k : Nat} {w : Nat → va_E} (hn : n ≤ 84) (hk : k ≤ 146846) {i : Int32} {lv : List (Nat × Value)} (hi : lv.lookup 3 = some (.int i)) (h0 : lv.lookup 0 = some (.ref G.2.2.2.2.2.1)) (h : nI G.2.2.2.2.2.2.1 - 6 < i) : Go l G mL_law lawB 18 lv [] n k w := by
  refine go_iload_n (pc := 18) dL_law_18 rfl hi ?_
  refine go_aload_n (pc := 19) dL_law_19 rfl h0 ?_
  refine go_slen (pc := 20) dL_law_20 ?_
  refine go_bipush (pc := 21) (v := 6) dL_law_21 (by decide) ?_
  refine go_isub (pc := 23) dL_law_23 ?_
  refine go_icmp_gt_t (pc := 24) (tgt := 1399) dL_law_24 (by decide) h ?_
  refine go_iconst (pc := 1399) (v := 1) dL_law_1399 (by decide) ?_
  exact go_lawret hn hk

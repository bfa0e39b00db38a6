/-! THE WALKING LAYER: a world is a function from addresses to cells; ours are the n cells from the address z on. 'Go': from here the method comes to its goal; 'Ct': a method's contract. One row an instruction. -/
abbrev gM : Type := MethodName × ByteArray × Nat × Option FieldType
abbrev gG : Type := va_G × Nat × ClassId × ClassId × (Nat → Nat) × Nat × Nat × (Nat → Int32)
abbrev gQ : Type := List Frame → Array Value → State → State → Prop
abbrev gB : Type := Nat × Nat × Nat × Nat × Nat × Nat × gQ
abbrev gR : Type := Option Value × Nat × Nat × (Nat → va_E)
def gw_all : List Cond := lw_tbl.filter goodWord
theorem gw_in {w : Cond} (i : Nat) (h : lw_tbl[i]? = some w) (hg : goodWord w = true) : w ∈ gw_all := List.mem_filter.mpr ⟨List.mem_of_getElem? h, hg⟩
theorem gw_good {w : Cond} (h : w ∈ gw_all) : (w.onTables && w.keeps) = true ∨ ∃ ty, w = .arrayClass ty := good_of_word (List.mem_filter.mp h).2
def gn_is : Cond → Bool
  | .methodLinkNest _ _ _ _ => true
  | .fieldLinkNest _ _ _ _ _ _ => true
  | _ => false
def gn_all : List Cond := lw_tbl.filter gn_is
theorem gn_in {w : Cond} (i : Nat) (h : lw_tbl[i]? = some w) (hg : gn_is w = true) : w ∈ gn_all := List.mem_filter.mpr ⟨List.mem_of_getElem? h, hg⟩
/-- the class's static arrays: name, length, contents -/
def gs_n : Nat → String × Nat × List Int32 := fun k => match k with
  | 0 => ("KINDS_THAT_ARE", 6, [25, 34, 4, 24, 16, 32])
  | 1 => ("MEASURE_BODY", 6, [0, 2, 4, 0, 1, 3])
  | 2 => ("MEASURE_UPPER_BODY", 6, [-1, -1, -1, -1, 0, 2])
  | 3 => ("LINKS_BODY", 6, [5, 7, 8, 6, 6, 7])
  | 4 => ("LINKS_UPPER_BODY", 6, [-1, -1, -1, 5, 5, -1])
  | 5 => ("NAMES_A", 13, [8, 8, 8, 24, 24, 8, 8, 8, 8, 0, 0, 8, 4])
  | 6 => ("NAMES_B", 13, [0, 0, 0, 8, 8, 8, 8, 0, 0, 0, 0, 0, 0])
  | _ => ("NAMES_C", 13, [0, 8, 8, 0, 0, 0, 0, 8, 0, 0, 0, 0, 8])
/-! the world as a list -/
def ga_L (z n : Nat) (w : Nat → va_E) : va_W := (List.range n).map (fun i => (z + i, w (z + i)))
theorem ga_get {z n : Nat} {w : Nat → va_E} {i : Nat} (h : i < n) : (ga_L z n w)[i]? = some (z + i, w (z + i)) := by
  simp [ga_L, h]
theorem ga_at {z n : Nat} {w : Nat → va_E} {k : Nat} {q : Nat × va_E} (h : (ga_L z n w)[k]? = some q) : k < n ∧ q = (z + k, w (z + k)) := by
  have hk : k < n := by
    have := (List.getElem?_eq_some_iff.mp h).1
    simpa [ga_L] using this
  rw [ga_get hk] at h
  exact ⟨hk, (Option.some.inj h).symm⟩
theorem ga_geta {z n : Nat} {w : Nat → va_E} {a : Nat} (h1 : z ≤ a) (h2 : a < z + n) {e : va_E} (he : w a = e) : (ga_L z n w)[a - z]? = some (a, e) := by
  rw [ga_get (by omega), show z + (a - z) = a by omega, he]
theorem ga_seta {z n : Nat} {w : Nat → va_E} {a : Nat} (h1 : z ≤ a) (h2 : a < z + n) (e : va_E) : (ga_L z n w).set (a - z) (a, e) = ga_L z n (va_up w a e) := by
  apply List.ext_getElem?
  intro k
  by_cases hk : k < n
  · by_cases hka : k = a - z
    · subst hka
      rw [List.getElem?_set_self (by simpa [ga_L] using hk), ga_get hk, show z + (a - z) = a by omega, va_up_self]
    · rw [List.getElem?_set_ne (Ne.symm hka), ga_get hk, ga_get hk, va_up_ne _ _ (by omega)]
  · rw [List.getElem?_eq_none (by simpa [ga_L] using hk), List.getElem?_eq_none (by simpa [ga_L] using hk)]
theorem ga_push {z n : Nat} {w : Nat → va_E} (e : va_E) : ga_L z n w ++ [(z + n, e)] = ga_L z (n + 1) (va_up w (z + n) e) := by
  apply List.ext_getElem?
  intro k
  by_cases hk : k < n
  · rw [List.getElem?_append_left (by simpa [ga_L] using hk), ga_get hk, ga_get (by omega), va_up_ne _ _ (by omega)]
  · by_cases hk2 : k = n
    · subst hk2
      rw [List.getElem?_append_right (by simp [ga_L]), ga_get (by omega), va_up_self]
      simp [ga_L]
    · rw [List.getElem?_eq_none (by simp [ga_L]; omega), List.getElem?_eq_none (by simp [ga_L]; omega)]
theorem ga_D (z n : Nat) (w : Nat → va_E) : va_D (fun q => z ≤ q) (ga_L z n w) := by
  refine ⟨fun i j x y hi hj hxy => ?_, fun k q hk => ?_⟩
  · have h1 := (ga_at hi).2
    have h2 := (ga_at hj).2
    rw [h1, h2] at hxy
    simp only at hxy
    omega
  · rw [(ga_at hk).2]
    exact Nat.le_add_right _ _
/-! what holds all along -/
def ga_E (G : gG) (U : State) : Prop := va_K G.1 vwCl [(G.2.2.1, .int), (G.2.2.2.1, .boolean)] U ∧ (∀ w ∈ gn_all, va_Nw w U) ∧ (∀ k, k < 8 → va_Z "SweepKeeper" (gs_n k).1 "[I" (.ref (G.2.2.2.2.1 k)) (fun q => G.2.1 ≤ q) U U.heap ∧ va_T .int (G.2.2.2.2.1 k) (gs_n k).2.1 (fun j => .int ((gs_n k).2.2.getD j 0)) (fun q => G.2.1 ≤ q) U U.heap) ∧ va_X G.2.2.2.2.2.1 G.2.2.2.2.2.2.1 G.2.2.2.2.2.2.2 U U.heap ∧ G.2.2.2.2.2.1 < G.2.1 ∧ G.2.1 ≤ U.heap.size
theorem ga_E.go {G : gG} {s U : State} {H : Heap} {locs : List Loc} (h : ga_E G s) (hW : s.WarmedH U.vm) (hH : U.heap = H) (hS : va_S (fun q => G.2.1 ≤ q) s.heap H locs) : ga_E G U := by
  obtain ⟨h1, h2, h3, h4, h5, h6⟩ := h
  subst hH
  have hk : ∀ a : Nat, a < s.heap.size → ¬ G.2.1 ≤ a → U.heap[a]? = s.heap[a]? := fun a g1 g2 => hS.2.1 a g1 g2
  refine ⟨va_K.moved hW.alike h1, fun w hw => ?_, fun k hk8 => ⟨(va_Z.moved hW.alike (h3 k hk8).1).kept hk, (va_T.moved hW.alike (h3 k hk8).2).kept hk⟩, (va_X.moved hW.alike h4).kept (hk _ (Nat.lt_of_lt_of_le h5 h6) (by omega)), h5, Nat.le_trans h6 hS.1⟩
  have hw2 := (List.mem_filter.mp hw).2
  have hw1 := h2 w hw
  unfold gn_is at hw2
  split at hw2
  · exact va_Nw.warmM hW hw1
  · exact va_Nw.warmF hW hw1
  · cases hw2
theorem ga_E.blind {G : gG} {U : State} {g : JFrame} {mk : MethodId} {a : Array Value} (h : ga_E G U) : ga_E G (U.calling g mk a) := by
  obtain ⟨h1, h2, h3, h4, h5, h6⟩ := h
  have e : U.vm.Alike (U.calling g mk a).vm := Vm.Alike.refl U.vm
  refine ⟨va_K.moved (u := U) e h1, fun w hw => ?_, fun k hk8 => ⟨va_Z.moved (u := U) e (h3 k hk8).1, va_T.moved (u := U) e (h3 k hk8).2⟩, va_X.moved (u := U) e h4, h5, h6⟩
  have hw2 := (List.mem_filter.mp hw).2
  have hw1 := h2 w hw
  unfold gn_is at hw2
  split at hw2
  · exact va_Nw.same (u := U) rfl rfl hw1
  · exact va_Nw.same (u := U) rfl rfl hw1
  · cases hw2
def ga_W (G : gG) (n : Nat) (w : Nat → va_E) (H : Heap) : Prop := H.size = G.2.1 + n ∧ va_P G.1 vwCl (ga_L G.2.1 n w) H
def ga_ws (M : gM) : List Cond := Cond.code M.1 M.2.1 M.2.2.1 M.2.2.2 :: gw_all
def ga_P (G : gG) (as : List Value) (n : Nat) (w : Nat → va_E) : Array Value → State → Prop := fun a U => a = as.toArray ∧ ga_E G U ∧ ga_W G n w U.heap
def ga_Q (G : gG) (r : gR) : Array Value → State → Outcome → State → Prop := fun _ st o t => o = .returned r.1 ∧ ga_W G r.2.1 r.2.2.2 t.heap ∧ ∀ q, q < G.2.1 → t.heap[q]? = st.heap[q]?
/-- a method's contract: room (frames, words of locals), arguments, cells and slots before, world before; answer, cells, slots, world behind -/
def Ct (l : Launch) (G : gG) (M : gM) (fr lc : Nat) (as : List Value) (n k : Nat) (w : Nat → va_E) (r : gR) : Prop :=
  (n ≤ r.2.1 ∧ k ≤ r.2.2.1) ∧ Met l M.1 (ga_ws M) { frames := fr, cells := r.2.1 - n, slots := r.2.2.1 - k, locals := lc } (ga_P G as n w) (ga_Q G r) (r.2.1 - n) (r.2.2.1 - k) (fun q => G.2.1 ≤ q)
def gX (G : gG) (M : gM) (B : gB) (p : Program) (R : Room) (s : State) (m : MethodId) (args : Array Value) (meth : Method) (c : Code) : Prop :=
  p.tables.exec = Jvm.exec ∧ c.code = M.2.1 ∧ c.maxLocals = M.2.2.1 ∧ meth.sig.returnType = M.2.2.2 ∧ meth.locks = false ∧ s.vm.findClass M.1.cls = some m.cls ∧ meth.name = M.1.name ∧ (∀ w ∈ gw_all, w.before args s = true) ∧ ga_E G s ∧ B.1 ≤ R.frames ∧ B.2.1 ≤ R.locals ∧ B.2.2.1 ≤ R.cells ∧ B.2.2.2.1 ≤ R.slots ∧ s.heap.size = G.2.1 + B.2.2.2.2.1
def gY (G : gG) (M : gM) (B : gB) (lv : List (Nat × Value)) (n k : Nat) (w : Nat → va_E) (s : State) (H : Heap) (locs : List Loc) (ls : Array Slot) : Prop :=
  B.2.2.2.2.1 ≤ n ∧ B.2.2.2.2.2.1 ≤ k ∧ ga_W G n w H ∧ va_S (fun q => G.2.1 ≤ q) s.heap H locs ∧ lv_has ls M.2.2.1 lv
def Go (l : Launch) (G : gG) (M : gM) (B : gB) (pc : Nat) (lv : List (Nat × Value)) (st : List Value) (n k : Nat) (w : Nat → va_E) : Prop :=
  ∀ (p : Program) (e : Env) (R : Room) (s : State) (m : MethodId) (args : Array Value) (below : List Frame) (meth : Method) (c : Code) (H : Heap) (locs : List Loc) (ls : Array Slot),
    gX G M B p R s m args meth c → gY G M B lv n k w s H locs ls → W p l e R s m args below meth c H locs (n - B.2.2.2.2.1) (k - B.2.2.2.2.2.1) (B.2.2.2.2.2.2 below args s) (F0 m pc ls st)
def gq (G : gG) (r : gR) (n0 k0 : Nat) : gQ := fun below args s => MQ below (ga_Q G r) args s (r.2.1 - n0) (r.2.2.1 - k0) (fun q => G.2.1 ≤ q)
abbrev gb (G : gG) (fr lc n k : Nat) (r : gR) : gB := (fr, lc, r.2.1 - n, r.2.2.1 - k, n, k, gq G r n k)
/-- the locals: what is listed under a number -/
theorem gl_at {ls : Array Slot} {nL : Nat} {lv : List (Nat × Value)} {i : Nat} {v : Value} (h : lv_has ls nL lv) (hv : lv.lookup i = some v) : ls[i]? = some (.val v) := by
  have key : ∀ l : List (Nat × Value), l.lookup i = some v → (i, v) ∈ l := by
    intro l
    induction l with
    | nil => intro h; cases h
    | cons a t ih =>
      intro h
      obtain ⟨j, u⟩ := a
      rw [List.lookup_cons] at h
      by_cases hj : i = j
      · subst hj
        simp at h
        rw [h]
        exact List.mem_cons_self
      · rw [show (i == j) = false by simp [hj]] at h
        exact List.mem_cons_of_mem _ (ih h)
  exact h.2.2 (i, v) (key lv hv)
section GO1
variable {l : Launch} {G : gG} {M : gM} {B : gB} {pc : Nat} {lv lv' : List (Nat × Value)} {st : List Value} {n k : Nat} {w : Nat → va_E}
theorem go_iconst {i : Int} {v : Int32} (hdg : decode M.2.1 pc = .ok (.iconst i, 1)) (hv : Int32.ofInt i = v) (kk : Go l G M B (pc + 1) lv (.int v :: st) n k w) : Go l G M B pc lv st n k w :=
  fun p e R s m args below meth c H locs ls X Y => lv_iconst X.1 X.2.1 hdg hv (kk p e R s m args below meth c H locs ls X Y)
theorem go_bipush {i : Int} {v : Int32} (hdg : decode M.2.1 pc = .ok (.bipush i, 2)) (hv : (Int8.ofInt i).toInt32 = v) (kk : Go l G M B (pc + 2) lv (.int v :: st) n k w) : Go l G M B pc lv st n k w :=
  fun p e R s m args below meth c H locs ls X Y => lv_bipush X.1 X.2.1 hdg hv (kk p e R s m args below meth c H locs ls X Y)
theorem go_sipush {i : Int} {v : Int32} (hdg : decode M.2.1 pc = .ok (.sipush i, 3)) (hv : (Int16.ofInt i).toInt32 = v) (kk : Go l G M B (pc + 3) lv (.int v :: st) n k w) : Go l G M B pc lv st n k w :=
  fun p e R s m args below meth c H locs ls X Y => lv_sipush X.1 X.2.1 hdg hv (kk p e R s m args below meth c H locs ls X Y)
theorem go_lconst {i : Fin 2} {v : Int64} (hdg : decode M.2.1 pc = .ok (.lconst i, 1)) (hv : Int64.ofNat (i : Nat) = v) (kk : Go l G M B (pc + 1) lv (.long v :: st) n k w) : Go l G M B pc lv st n k w :=
  fun p e R s m args below meth c H locs ls X Y => lv_lconst X.1 X.2.1 hdg hv (kk p e R s m args below meth c H locs ls X Y)
theorem go_iload_n {i : Fin 4} {j : Nat} {x : Int32} (hdg : decode M.2.1 pc = .ok (.iload_n i, 1)) (hi : (i : Nat) = j) (hl : lv.lookup j = some (.int x)) (kk : Go l G M B (pc + 1) lv (.int x :: st) n k w) : Go l G M B pc lv st n k w :=
  fun p e R s m args below meth c H locs ls X Y => lv_iload_n X.1 X.2.1 hdg hi (gl_at Y.2.2.2.2 hl) (kk p e R s m args below meth c H locs ls X Y)
theorem go_iload {i : Nat} {x : Int32} (hdg : decode M.2.1 pc = .ok (.iload i, 2)) (hl : lv.lookup i = some (.int x)) (kk : Go l G M B (pc + 2) lv (.int x :: st) n k w) : Go l G M B pc lv st n k w :=
  fun p e R s m args below meth c H locs ls X Y => lv_iload X.1 X.2.1 hdg (gl_at Y.2.2.2.2 hl) (kk p e R s m args below meth c H locs ls X Y)
theorem go_lload_n {i : Fin 4} {j : Nat} {x : Int64} (hdg : decode M.2.1 pc = .ok (.lload_n i, 1)) (hi : (i : Nat) = j) (hl : lv.lookup j = some (.long x)) (kk : Go l G M B (pc + 1) lv (.long x :: st) n k w) : Go l G M B pc lv st n k w :=
  fun p e R s m args below meth c H locs ls X Y => lv_lload_n X.1 X.2.1 hdg hi (gl_at Y.2.2.2.2 hl) (kk p e R s m args below meth c H locs ls X Y)
theorem go_lload {i : Nat} {x : Int64} (hdg : decode M.2.1 pc = .ok (.lload i, 2)) (hl : lv.lookup i = some (.long x)) (kk : Go l G M B (pc + 2) lv (.long x :: st) n k w) : Go l G M B pc lv st n k w :=
  fun p e R s m args below meth c H locs ls X Y => lv_lload X.1 X.2.1 hdg (gl_at Y.2.2.2.2 hl) (kk p e R s m args below meth c H locs ls X Y)
theorem go_aload_n {i : Fin 4} {j : Nat} {x : Nat} (hdg : decode M.2.1 pc = .ok (.aload_n i, 1)) (hi : (i : Nat) = j) (hl : lv.lookup j = some (.ref x)) (kk : Go l G M B (pc + 1) lv (.ref x :: st) n k w) : Go l G M B pc lv st n k w :=
  fun p e R s m args below meth c H locs ls X Y => lv_aload_n X.1 X.2.1 hdg hi (gl_at Y.2.2.2.2 hl) (kk p e R s m args below meth c H locs ls X Y)
theorem go_aload {i : Nat} {x : Nat} (hdg : decode M.2.1 pc = .ok (.aload i, 2)) (hl : lv.lookup i = some (.ref x)) (kk : Go l G M B (pc + 2) lv (.ref x :: st) n k w) : Go l G M B pc lv st n k w :=
  fun p e R s m args below meth c H locs ls X Y => lv_aload X.1 X.2.1 hdg (gl_at Y.2.2.2.2 hl) (kk p e R s m args below meth c H locs ls X Y)
theorem go_istore_n {i : Fin 4} {j : Nat} {x : Int32} (hdg : decode M.2.1 pc = .ok (.istore_n i, 1)) (hi : (i : Nat) = j) (hn : j < M.2.2.1) (hl : (j, Value.int x) :: lv.filter (fun q => !(q.1 == j) && !(q.1 + 1 == j && q.2.category == 2)) = lv') (kk : Go l G M B (pc + 1) lv' st n k w) : Go l G M B pc lv (.int x :: st) n k w :=
  fun p e R s m args below meth c H locs ls X Y => lv_istore_n X.1 X.2.1 hdg hi Y.2.2.2.2 hn hl (fun ls' hl' => kk p e R s m args below meth c H locs ls' X ⟨Y.1, Y.2.1, Y.2.2.1, Y.2.2.2.1, hl'⟩)
theorem go_istore {i : Nat} {x : Int32} (hdg : decode M.2.1 pc = .ok (.istore i, 2)) (hn : i < M.2.2.1) (hl : (i, Value.int x) :: lv.filter (fun q => !(q.1 == i) && !(q.1 + 1 == i && q.2.category == 2)) = lv') (kk : Go l G M B (pc + 2) lv' st n k w) : Go l G M B pc lv (.int x :: st) n k w :=
  fun p e R s m args below meth c H locs ls X Y => lv_istore X.1 X.2.1 hdg Y.2.2.2.2 hn hl (fun ls' hl' => kk p e R s m args below meth c H locs ls' X ⟨Y.1, Y.2.1, Y.2.2.1, Y.2.2.2.1, hl'⟩)
theorem go_lstore {i : Nat} {x : Int64} (hdg : decode M.2.1 pc = .ok (.lstore i, 2)) (hn : i + 1 < M.2.2.1) (hl : (i, Value.long x) :: lv.filter (fun q => !(q.1 == i) && (!(q.1 == i + 1) && !(q.1 + 1 == i && q.2.category == 2))) = lv') (kk : Go l G M B (pc + 2) lv' st n k w) : Go l G M B pc lv (.long x :: st) n k w :=
  fun p e R s m args below meth c H locs ls X Y => lv_lstore X.1 X.2.1 hdg Y.2.2.2.2 hn hl (fun ls' hl' => kk p e R s m args below meth c H locs ls' X ⟨Y.1, Y.2.1, Y.2.2.1, Y.2.2.2.1, hl'⟩)
theorem go_astore_n {i : Fin 4} {j : Nat} {x : Nat} (hdg : decode M.2.1 pc = .ok (.astore_n i, 1)) (hi : (i : Nat) = j) (hn : j < M.2.2.1) (hl : (j, Value.ref x) :: lv.filter (fun q => !(q.1 == j) && !(q.1 + 1 == j && q.2.category == 2)) = lv') (kk : Go l G M B (pc + 1) lv' st n k w) : Go l G M B pc lv (.ref x :: st) n k w :=
  fun p e R s m args below meth c H locs ls X Y => lv_astore_n X.1 X.2.1 hdg hi Y.2.2.2.2 hn hl (fun ls' hl' => kk p e R s m args below meth c H locs ls' X ⟨Y.1, Y.2.1, Y.2.2.1, Y.2.2.2.1, hl'⟩)
theorem go_astore {i : Nat} {x : Nat} (hdg : decode M.2.1 pc = .ok (.astore i, 2)) (hn : i < M.2.2.1) (hl : (i, Value.ref x) :: lv.filter (fun q => !(q.1 == i) && !(q.1 + 1 == i && q.2.category == 2)) = lv') (kk : Go l G M B (pc + 2) lv' st n k w) : Go l G M B pc lv (.ref x :: st) n k w :=
  fun p e R s m args below meth c H locs ls X Y => lv_astore X.1 X.2.1 hdg Y.2.2.2.2 hn hl (fun ls' hl' => kk p e R s m args below meth c H locs ls' X ⟨Y.1, Y.2.1, Y.2.2.1, Y.2.2.2.1, hl'⟩)
theorem go_iinc {i : Nat} {d : Int} {x v : Int32} (hdg : decode M.2.1 pc = .ok (.iinc i d, 3)) (q : Nat) (hk : lv[q]? = some (i, .int x)) (hv : x + Int32.ofInt d = v) (hn : i < M.2.2.1) (hl : (i, Value.int v) :: lv.filter (fun q => !(q.1 == i) && !(q.1 + 1 == i && q.2.category == 2)) = lv') (kk : Go l G M B (pc + 3) lv' st n k w) : Go l G M B pc lv st n k w :=
  fun p e R s m args below meth c H locs ls X Y => lv_iinc X.1 X.2.1 hdg Y.2.2.2.2 hk hv hn hl (fun ls' hl' => kk p e R s m args below meth c H locs ls' X ⟨Y.1, Y.2.1, Y.2.2.1, Y.2.2.2.1, hl'⟩)
/-- fewer locals, in any order, by their places -/
theorem go_lv (ks : List Nat) (hl : lv_pick lv ks = lv') (kk : Go l G M B pc lv' st n k w) : Go l G M B pc lv st n k w :=
  fun p e R s m args below meth c H locs ls X Y => kk p e R s m args below meth c H locs ls X ⟨Y.1, Y.2.1, Y.2.2.1, Y.2.2.2.1, lv_sub Y.2.2.2.2 ks hl⟩
/-- the same world, told otherwise -/
theorem go_w {w' : Nat → va_E} (h : w = w') (kk : Go l G M B pc lv st n k w') : Go l G M B pc lv st n k w := by subst h; exact kk
theorem go_st {st' : List Value} (h : st = st') (kk : Go l G M B pc lv st' n k w) : Go l G M B pc lv st n k w := by subst h; exact kk
theorem go_iadd {x y : Int32} (hdg : decode M.2.1 pc = .ok (.iadd, 1)) (kk : Go l G M B (pc + 1) lv (.int (x + y) :: st) n k w) : Go l G M B pc lv (.int y :: .int x :: st) n k w :=
  fun p e R s m args below meth c H locs ls X Y => lv_iadd X.1 X.2.1 hdg (kk p e R s m args below meth c H locs ls X Y)
theorem go_isub {x y : Int32} (hdg : decode M.2.1 pc = .ok (.isub, 1)) (kk : Go l G M B (pc + 1) lv (.int (x - y) :: st) n k w) : Go l G M B pc lv (.int y :: .int x :: st) n k w :=
  fun p e R s m args below meth c H locs ls X Y => lv_isub X.1 X.2.1 hdg (kk p e R s m args below meth c H locs ls X Y)
theorem go_imul {x y : Int32} (hdg : decode M.2.1 pc = .ok (.imul, 1)) (kk : Go l G M B (pc + 1) lv (.int (x * y) :: st) n k w) : Go l G M B pc lv (.int y :: .int x :: st) n k w :=
  fun p e R s m args below meth c H locs ls X Y => lv_imul X.1 X.2.1 hdg (kk p e R s m args below meth c H locs ls X Y)
theorem go_iand {x y : Int32} (hdg : decode M.2.1 pc = .ok (.iand, 1)) (kk : Go l G M B (pc + 1) lv (.int (x &&& y) :: st) n k w) : Go l G M B pc lv (.int y :: .int x :: st) n k w :=
  fun p e R s m args below meth c H locs ls X Y => lv_iand X.1 X.2.1 hdg (kk p e R s m args below meth c H locs ls X Y)
theorem go_ior {x y : Int32} (hdg : decode M.2.1 pc = .ok (.ior, 1)) (kk : Go l G M B (pc + 1) lv (.int (x ||| y) :: st) n k w) : Go l G M B pc lv (.int y :: .int x :: st) n k w :=
  fun p e R s m args below meth c H locs ls X Y => lv_ior X.1 X.2.1 hdg (kk p e R s m args below meth c H locs ls X Y)
theorem go_ixor {x y : Int32} (hdg : decode M.2.1 pc = .ok (.ixor, 1)) (kk : Go l G M B (pc + 1) lv (.int (x ^^^ y) :: st) n k w) : Go l G M B pc lv (.int y :: .int x :: st) n k w :=
  fun p e R s m args below meth c H locs ls X Y => lv_ixor X.1 X.2.1 hdg (kk p e R s m args below meth c H locs ls X Y)
theorem go_idiv {x y : Int32} (hdg : decode M.2.1 pc = .ok (.idiv, 1)) (hne : ¬ y = 0) (kk : Go l G M B (pc + 1) lv (.int (x / y) :: st) n k w) : Go l G M B pc lv (.int y :: .int x :: st) n k w :=
  fun p e R s m args below meth c H locs ls X Y => lv_idiv X.1 X.2.1 hdg hne (kk p e R s m args below meth c H locs ls X Y)
theorem go_irem {x y : Int32} (hdg : decode M.2.1 pc = .ok (.irem, 1)) (hne : ¬ y = 0) (kk : Go l G M B (pc + 1) lv (.int (x - (x / y) * y) :: st) n k w) : Go l G M B pc lv (.int y :: .int x :: st) n k w :=
  fun p e R s m args below meth c H locs ls X Y => lv_irem X.1 X.2.1 hdg hne (kk p e R s m args below meth c H locs ls X Y)
theorem go_ishl {x y : Int32} (hdg : decode M.2.1 pc = .ok (.ishl, 1)) (kk : Go l G M B (pc + 1) lv (.int (x <<< (y &&& 31)) :: st) n k w) : Go l G M B pc lv (.int y :: .int x :: st) n k w :=
  fun p e R s m args below meth c H locs ls X Y => lv_ishl X.1 X.2.1 hdg (kk p e R s m args below meth c H locs ls X Y)
theorem go_ishr {x y : Int32} (hdg : decode M.2.1 pc = .ok (.ishr, 1)) (kk : Go l G M B (pc + 1) lv (.int (x >>> (y &&& 31)) :: st) n k w) : Go l G M B pc lv (.int y :: .int x :: st) n k w :=
  fun p e R s m args below meth c H locs ls X Y => lv_ishr X.1 X.2.1 hdg (kk p e R s m args below meth c H locs ls X Y)
theorem go_iushr {x y v : Int32} (hdg : decode M.2.1 pc = .ok (.iushr, 1)) (hv : (x.toUInt32 >>> (y.toUInt32 &&& Int32.toUInt32 31)).toInt32 = v) (kk : Go l G M B (pc + 1) lv (.int v :: st) n k w) : Go l G M B pc lv (.int y :: .int x :: st) n k w :=
  fun p e R s m args below meth c H locs ls X Y => lv_iushr X.1 X.2.1 hdg hv (kk p e R s m args below meth c H locs ls X Y)
theorem go_i2l {x : Int32} (hdg : decode M.2.1 pc = .ok (.i2l, 1)) (kk : Go l G M B (pc + 1) lv (.long x.toInt64 :: st) n k w) : Go l G M B pc lv (.int x :: st) n k w :=
  fun p e R s m args below meth c H locs ls X Y => lv_i2l X.1 X.2.1 hdg rfl (kk p e R s m args below meth c H locs ls X Y)
theorem go_l2i {x : Int64} (hdg : decode M.2.1 pc = .ok (.l2i, 1)) (kk : Go l G M B (pc + 1) lv (.int x.toInt32 :: st) n k w) : Go l G M B pc lv (.long x :: st) n k w :=
  fun p e R s m args below meth c H locs ls X Y => lv_l2i X.1 X.2.1 hdg rfl (kk p e R s m args below meth c H locs ls X Y)
theorem go_ladd {x y : Int64} (hdg : decode M.2.1 pc = .ok (.ladd, 1)) (kk : Go l G M B (pc + 1) lv (.long (x + y) :: st) n k w) : Go l G M B pc lv (.long y :: .long x :: st) n k w :=
  fun p e R s m args below meth c H locs ls X Y => lv_ladd X.1 X.2.1 hdg (kk p e R s m args below meth c H locs ls X Y)
theorem go_lcmp {x y : Int64} (hdg : decode M.2.1 pc = .ok (.lcmp, 1)) (kk : Go l G M B (pc + 1) lv (.int (lg_cmp x y) :: st) n k w) : Go l G M B pc lv (.long y :: .long x :: st) n k w :=
  fun p e R s m args below meth c H locs ls X Y => W.lcmp X.1 X.2.1 hdg (kk p e R s m args below meth c H locs ls X Y)
theorem go_dup {va : Value} (hdg : decode M.2.1 pc = .ok (.dup, 1)) (hva : va.category = 1) (kk : Go l G M B (pc + 1) lv (va :: va :: st) n k w) : Go l G M B pc lv (va :: st) n k w :=
  fun p e R s m args below meth c H locs ls X Y => lv_dup X.1 X.2.1 hdg hva (kk p e R s m args below meth c H locs ls X Y)
theorem go_dup2 {va vb : Value} (hdg : decode M.2.1 pc = .ok (.dup2, 1)) (hva : va.category = 1) (hvb : vb.category = 1) (kk : Go l G M B (pc + 1) lv (va :: vb :: va :: vb :: st) n k w) : Go l G M B pc lv (va :: vb :: st) n k w :=
  fun p e R s m args below meth c H locs ls X Y => lv_dup2_11 X.1 X.2.1 hdg hva hvb (kk p e R s m args below meth c H locs ls X Y)
theorem go_pop {va : Value} (hdg : decode M.2.1 pc = .ok (.pop, 1)) (hva : va.category = 1) (kk : Go l G M B (pc + 1) lv st n k w) : Go l G M B pc lv (va :: st) n k w :=
  fun p e R s m args below meth c H locs ls X Y => lv_pop X.1 X.2.1 hdg hva (kk p e R s m args below meth c H locs ls X Y)
theorem go_goto {off : Int} {tgt : Nat} (hdg : decode M.2.1 pc = .ok (.goto off, 3)) (ht : (pc : Int) + off = (tgt : Int)) (kk : Go l G M B tgt lv st n k w) : Go l G M B pc lv st n k w :=
  fun p e R s m args below meth c H locs ls X Y => lv_goto X.1 X.2.1 hdg ht (kk p e R s m args below meth c H locs ls X Y)
theorem go_ldc {own : String} {index : Nat} {v : Int32} (ho : M.1.cls = own) (hc : Cond.constant own index v ∈ gw_all) (hdg : decode M.2.1 pc = .ok (.ldc index, 2)) (kk : Go l G M B (pc + 2) lv (.int v :: st) n k w) : Go l G M B pc lv st n k w :=
  fun p e R s m args below meth c H locs ls X Y => lv_ldc (own := own) X.1 X.2.1 (ho ▸ X.2.2.2.2.2.1) (X.2.2.2.2.2.2.2.1 _ hc) hdg (kk p e R s m args below meth c H locs ls X Y)
theorem go_ldc2 {own : String} {index : Nat} {v : Int64} (ho : M.1.cls = own) (hc : Cond.constantLong own index v ∈ gw_all) (hdg : decode M.2.1 pc = .ok (.ldc2_w index, 3)) (kk : Go l G M B (pc + 3) lv (.long v :: st) n k w) : Go l G M B pc lv st n k w :=
  fun p e R s m args below meth c H locs ls X Y => lv_ldc2 (own := own) X.1 X.2.1 (ho ▸ X.2.2.2.2.2.1) (X.2.2.2.2.2.2.2.1 _ hc) hdg (kk p e R s m args below meth c H locs ls X Y)
end GO1
section GO2
variable {l : Launch} {G : gG} {M : gM} {B : gB} {pc : Nat} {lv lv' : List (Nat × Value)} {st : List Value} {n k : Nat} {w : Nat → va_E}
theorem go_if_eq {x : Int32} {off : Int} {tgt : Nat} (hdg : decode M.2.1 pc = .ok (.ifCond .eq off, 3)) (ht : (pc : Int) + off = (tgt : Int)) (kt : x = 0 → Go l G M B tgt lv st n k w) (kf : ¬ x = 0 → Go l G M B (pc + 3) lv st n k w) : Go l G M B pc lv (.int x :: st) n k w :=
  fun p e R s m args below meth c H locs ls X Y => lv_if_eq X.1 X.2.1 hdg ht (fun h => kt h p e R s m args below meth c H locs ls X Y) (fun h => kf h p e R s m args below meth c H locs ls X Y)
theorem go_if_eq_t {x : Int32} {off : Int} {tgt : Nat} (hdg : decode M.2.1 pc = .ok (.ifCond .eq off, 3)) (ht : (pc : Int) + off = (tgt : Int)) (h : x = 0) (kt : Go l G M B tgt lv st n k w) : Go l G M B pc lv (.int x :: st) n k w := go_if_eq hdg ht (fun _ => kt) (fun h' => absurd h h')
theorem go_if_eq_f {x : Int32} {off : Int} {tgt : Nat} (hdg : decode M.2.1 pc = .ok (.ifCond .eq off, 3)) (ht : (pc : Int) + off = (tgt : Int)) (h : ¬ x = 0) (kf : Go l G M B (pc + 3) lv st n k w) : Go l G M B pc lv (.int x :: st) n k w := go_if_eq hdg ht (fun h' => absurd h' h) (fun _ => kf)
theorem go_icmp_eq {x y : Int32} {off : Int} {tgt : Nat} (hdg : decode M.2.1 pc = .ok (.if_icmp .eq off, 3)) (ht : (pc : Int) + off = (tgt : Int)) (kt : x = y → Go l G M B tgt lv st n k w) (kf : ¬ x = y → Go l G M B (pc + 3) lv st n k w) : Go l G M B pc lv (.int y :: .int x :: st) n k w :=
  fun p e R s m args below meth c H locs ls X Y => lv_icmp_eq X.1 X.2.1 hdg ht (fun h => kt h p e R s m args below meth c H locs ls X Y) (fun h => kf h p e R s m args below meth c H locs ls X Y)
theorem go_icmp_eq_t {x y : Int32} {off : Int} {tgt : Nat} (hdg : decode M.2.1 pc = .ok (.if_icmp .eq off, 3)) (ht : (pc : Int) + off = (tgt : Int)) (h : x = y) (kt : Go l G M B tgt lv st n k w) : Go l G M B pc lv (.int y :: .int x :: st) n k w := go_icmp_eq hdg ht (fun _ => kt) (fun h' => absurd h h')
theorem go_icmp_eq_f {x y : Int32} {off : Int} {tgt : Nat} (hdg : decode M.2.1 pc = .ok (.if_icmp .eq off, 3)) (ht : (pc : Int) + off = (tgt : Int)) (h : ¬ x = y) (kf : Go l G M B (pc + 3) lv st n k w) : Go l G M B pc lv (.int y :: .int x :: st) n k w := go_icmp_eq hdg ht (fun h' => absurd h' h) (fun _ => kf)
theorem go_if_ne {x : Int32} {off : Int} {tgt : Nat} (hdg : decode M.2.1 pc = .ok (.ifCond .ne off, 3)) (ht : (pc : Int) + off = (tgt : Int)) (kt : ¬ x = 0 → Go l G M B tgt lv st n k w) (kf : x = 0 → Go l G M B (pc + 3) lv st n k w) : Go l G M B pc lv (.int x :: st) n k w :=
  fun p e R s m args below meth c H locs ls X Y => lv_if_ne X.1 X.2.1 hdg ht (fun h => kt h p e R s m args below meth c H locs ls X Y) (fun h => kf h p e R s m args below meth c H locs ls X Y)
theorem go_if_ne_t {x : Int32} {off : Int} {tgt : Nat} (hdg : decode M.2.1 pc = .ok (.ifCond .ne off, 3)) (ht : (pc : Int) + off = (tgt : Int)) (h : ¬ x = 0) (kt : Go l G M B tgt lv st n k w) : Go l G M B pc lv (.int x :: st) n k w := go_if_ne hdg ht (fun _ => kt) (fun h' => absurd h' h)
theorem go_if_ne_f {x : Int32} {off : Int} {tgt : Nat} (hdg : decode M.2.1 pc = .ok (.ifCond .ne off, 3)) (ht : (pc : Int) + off = (tgt : Int)) (h : x = 0) (kf : Go l G M B (pc + 3) lv st n k w) : Go l G M B pc lv (.int x :: st) n k w := go_if_ne hdg ht (fun h' => absurd h h') (fun _ => kf)
theorem go_icmp_ne {x y : Int32} {off : Int} {tgt : Nat} (hdg : decode M.2.1 pc = .ok (.if_icmp .ne off, 3)) (ht : (pc : Int) + off = (tgt : Int)) (kt : ¬ x = y → Go l G M B tgt lv st n k w) (kf : x = y → Go l G M B (pc + 3) lv st n k w) : Go l G M B pc lv (.int y :: .int x :: st) n k w :=
  fun p e R s m args below meth c H locs ls X Y => lv_icmp_ne X.1 X.2.1 hdg ht (fun h => kt h p e R s m args below meth c H locs ls X Y) (fun h => kf h p e R s m args below meth c H locs ls X Y)
theorem go_icmp_ne_t {x y : Int32} {off : Int} {tgt : Nat} (hdg : decode M.2.1 pc = .ok (.if_icmp .ne off, 3)) (ht : (pc : Int) + off = (tgt : Int)) (h : ¬ x = y) (kt : Go l G M B tgt lv st n k w) : Go l G M B pc lv (.int y :: .int x :: st) n k w := go_icmp_ne hdg ht (fun _ => kt) (fun h' => absurd h' h)
theorem go_icmp_ne_f {x y : Int32} {off : Int} {tgt : Nat} (hdg : decode M.2.1 pc = .ok (.if_icmp .ne off, 3)) (ht : (pc : Int) + off = (tgt : Int)) (h : x = y) (kf : Go l G M B (pc + 3) lv st n k w) : Go l G M B pc lv (.int y :: .int x :: st) n k w := go_icmp_ne hdg ht (fun h' => absurd h h') (fun _ => kf)
theorem go_if_lt {x : Int32} {off : Int} {tgt : Nat} (hdg : decode M.2.1 pc = .ok (.ifCond .lt off, 3)) (ht : (pc : Int) + off = (tgt : Int)) (kt : x < 0 → Go l G M B tgt lv st n k w) (kf : ¬ x < 0 → Go l G M B (pc + 3) lv st n k w) : Go l G M B pc lv (.int x :: st) n k w :=
  fun p e R s m args below meth c H locs ls X Y => lv_if_lt X.1 X.2.1 hdg ht (fun h => kt h p e R s m args below meth c H locs ls X Y) (fun h => kf h p e R s m args below meth c H locs ls X Y)
theorem go_if_lt_t {x : Int32} {off : Int} {tgt : Nat} (hdg : decode M.2.1 pc = .ok (.ifCond .lt off, 3)) (ht : (pc : Int) + off = (tgt : Int)) (h : x < 0) (kt : Go l G M B tgt lv st n k w) : Go l G M B pc lv (.int x :: st) n k w := go_if_lt hdg ht (fun _ => kt) (fun h' => absurd h h')
theorem go_if_lt_f {x : Int32} {off : Int} {tgt : Nat} (hdg : decode M.2.1 pc = .ok (.ifCond .lt off, 3)) (ht : (pc : Int) + off = (tgt : Int)) (h : ¬ x < 0) (kf : Go l G M B (pc + 3) lv st n k w) : Go l G M B pc lv (.int x :: st) n k w := go_if_lt hdg ht (fun h' => absurd h' h) (fun _ => kf)
theorem go_icmp_lt {x y : Int32} {off : Int} {tgt : Nat} (hdg : decode M.2.1 pc = .ok (.if_icmp .lt off, 3)) (ht : (pc : Int) + off = (tgt : Int)) (kt : x < y → Go l G M B tgt lv st n k w) (kf : ¬ x < y → Go l G M B (pc + 3) lv st n k w) : Go l G M B pc lv (.int y :: .int x :: st) n k w :=
  fun p e R s m args below meth c H locs ls X Y => lv_icmp_lt X.1 X.2.1 hdg ht (fun h => kt h p e R s m args below meth c H locs ls X Y) (fun h => kf h p e R s m args below meth c H locs ls X Y)
theorem go_icmp_lt_t {x y : Int32} {off : Int} {tgt : Nat} (hdg : decode M.2.1 pc = .ok (.if_icmp .lt off, 3)) (ht : (pc : Int) + off = (tgt : Int)) (h : x < y) (kt : Go l G M B tgt lv st n k w) : Go l G M B pc lv (.int y :: .int x :: st) n k w := go_icmp_lt hdg ht (fun _ => kt) (fun h' => absurd h h')
theorem go_icmp_lt_f {x y : Int32} {off : Int} {tgt : Nat} (hdg : decode M.2.1 pc = .ok (.if_icmp .lt off, 3)) (ht : (pc : Int) + off = (tgt : Int)) (h : ¬ x < y) (kf : Go l G M B (pc + 3) lv st n k w) : Go l G M B pc lv (.int y :: .int x :: st) n k w := go_icmp_lt hdg ht (fun h' => absurd h' h) (fun _ => kf)
theorem go_if_ge {x : Int32} {off : Int} {tgt : Nat} (hdg : decode M.2.1 pc = .ok (.ifCond .ge off, 3)) (ht : (pc : Int) + off = (tgt : Int)) (kt : 0 ≤ x → Go l G M B tgt lv st n k w) (kf : ¬ 0 ≤ x → Go l G M B (pc + 3) lv st n k w) : Go l G M B pc lv (.int x :: st) n k w :=
  fun p e R s m args below meth c H locs ls X Y => lv_if_ge X.1 X.2.1 hdg ht (fun h => kt h p e R s m args below meth c H locs ls X Y) (fun h => kf h p e R s m args below meth c H locs ls X Y)
theorem go_if_ge_t {x : Int32} {off : Int} {tgt : Nat} (hdg : decode M.2.1 pc = .ok (.ifCond .ge off, 3)) (ht : (pc : Int) + off = (tgt : Int)) (h : 0 ≤ x) (kt : Go l G M B tgt lv st n k w) : Go l G M B pc lv (.int x :: st) n k w := go_if_ge hdg ht (fun _ => kt) (fun h' => absurd h h')
theorem go_if_ge_f {x : Int32} {off : Int} {tgt : Nat} (hdg : decode M.2.1 pc = .ok (.ifCond .ge off, 3)) (ht : (pc : Int) + off = (tgt : Int)) (h : ¬ 0 ≤ x) (kf : Go l G M B (pc + 3) lv st n k w) : Go l G M B pc lv (.int x :: st) n k w := go_if_ge hdg ht (fun h' => absurd h' h) (fun _ => kf)
theorem go_icmp_ge {x y : Int32} {off : Int} {tgt : Nat} (hdg : decode M.2.1 pc = .ok (.if_icmp .ge off, 3)) (ht : (pc : Int) + off = (tgt : Int)) (kt : y ≤ x → Go l G M B tgt lv st n k w) (kf : ¬ y ≤ x → Go l G M B (pc + 3) lv st n k w) : Go l G M B pc lv (.int y :: .int x :: st) n k w :=
  fun p e R s m args below meth c H locs ls X Y => lv_icmp_ge X.1 X.2.1 hdg ht (fun h => kt h p e R s m args below meth c H locs ls X Y) (fun h => kf h p e R s m args below meth c H locs ls X Y)
theorem go_icmp_ge_t {x y : Int32} {off : Int} {tgt : Nat} (hdg : decode M.2.1 pc = .ok (.if_icmp .ge off, 3)) (ht : (pc : Int) + off = (tgt : Int)) (h : y ≤ x) (kt : Go l G M B tgt lv st n k w) : Go l G M B pc lv (.int y :: .int x :: st) n k w := go_icmp_ge hdg ht (fun _ => kt) (fun h' => absurd h h')
theorem go_icmp_ge_f {x y : Int32} {off : Int} {tgt : Nat} (hdg : decode M.2.1 pc = .ok (.if_icmp .ge off, 3)) (ht : (pc : Int) + off = (tgt : Int)) (h : ¬ y ≤ x) (kf : Go l G M B (pc + 3) lv st n k w) : Go l G M B pc lv (.int y :: .int x :: st) n k w := go_icmp_ge hdg ht (fun h' => absurd h' h) (fun _ => kf)
theorem go_if_gt {x : Int32} {off : Int} {tgt : Nat} (hdg : decode M.2.1 pc = .ok (.ifCond .gt off, 3)) (ht : (pc : Int) + off = (tgt : Int)) (kt : 0 < x → Go l G M B tgt lv st n k w) (kf : ¬ 0 < x → Go l G M B (pc + 3) lv st n k w) : Go l G M B pc lv (.int x :: st) n k w :=
  fun p e R s m args below meth c H locs ls X Y => lv_if_gt X.1 X.2.1 hdg ht (fun h => kt h p e R s m args below meth c H locs ls X Y) (fun h => kf h p e R s m args below meth c H locs ls X Y)
theorem go_if_gt_t {x : Int32} {off : Int} {tgt : Nat} (hdg : decode M.2.1 pc = .ok (.ifCond .gt off, 3)) (ht : (pc : Int) + off = (tgt : Int)) (h : 0 < x) (kt : Go l G M B tgt lv st n k w) : Go l G M B pc lv (.int x :: st) n k w := go_if_gt hdg ht (fun _ => kt) (fun h' => absurd h h')
theorem go_if_gt_f {x : Int32} {off : Int} {tgt : Nat} (hdg : decode M.2.1 pc = .ok (.ifCond .gt off, 3)) (ht : (pc : Int) + off = (tgt : Int)) (h : ¬ 0 < x) (kf : Go l G M B (pc + 3) lv st n k w) : Go l G M B pc lv (.int x :: st) n k w := go_if_gt hdg ht (fun h' => absurd h' h) (fun _ => kf)
theorem go_icmp_gt {x y : Int32} {off : Int} {tgt : Nat} (hdg : decode M.2.1 pc = .ok (.if_icmp .gt off, 3)) (ht : (pc : Int) + off = (tgt : Int)) (kt : y < x → Go l G M B tgt lv st n k w) (kf : ¬ y < x → Go l G M B (pc + 3) lv st n k w) : Go l G M B pc lv (.int y :: .int x :: st) n k w :=
  fun p e R s m args below meth c H locs ls X Y => lv_icmp_gt X.1 X.2.1 hdg ht (fun h => kt h p e R s m args below meth c H locs ls X Y) (fun h => kf h p e R s m args below meth c H locs ls X Y)
theorem go_icmp_gt_t {x y : Int32} {off : Int} {tgt : Nat} (hdg : decode M.2.1 pc = .ok (.if_icmp .gt off, 3)) (ht : (pc : Int) + off = (tgt : Int)) (h : y < x) (kt : Go l G M B tgt lv st n k w) : Go l G M B pc lv (.int y :: .int x :: st) n k w := go_icmp_gt hdg ht (fun _ => kt) (fun h' => absurd h h')
theorem go_icmp_gt_f {x y : Int32} {off : Int} {tgt : Nat} (hdg : decode M.2.1 pc = .ok (.if_icmp .gt off, 3)) (ht : (pc : Int) + off = (tgt : Int)) (h : ¬ y < x) (kf : Go l G M B (pc + 3) lv st n k w) : Go l G M B pc lv (.int y :: .int x :: st) n k w := go_icmp_gt hdg ht (fun h' => absurd h' h) (fun _ => kf)
theorem go_if_le {x : Int32} {off : Int} {tgt : Nat} (hdg : decode M.2.1 pc = .ok (.ifCond .le off, 3)) (ht : (pc : Int) + off = (tgt : Int)) (kt : x ≤ 0 → Go l G M B tgt lv st n k w) (kf : ¬ x ≤ 0 → Go l G M B (pc + 3) lv st n k w) : Go l G M B pc lv (.int x :: st) n k w :=
  fun p e R s m args below meth c H locs ls X Y => lv_if_le X.1 X.2.1 hdg ht (fun h => kt h p e R s m args below meth c H locs ls X Y) (fun h => kf h p e R s m args below meth c H locs ls X Y)
theorem go_if_le_t {x : Int32} {off : Int} {tgt : Nat} (hdg : decode M.2.1 pc = .ok (.ifCond .le off, 3)) (ht : (pc : Int) + off = (tgt : Int)) (h : x ≤ 0) (kt : Go l G M B tgt lv st n k w) : Go l G M B pc lv (.int x :: st) n k w := go_if_le hdg ht (fun _ => kt) (fun h' => absurd h h')
theorem go_if_le_f {x : Int32} {off : Int} {tgt : Nat} (hdg : decode M.2.1 pc = .ok (.ifCond .le off, 3)) (ht : (pc : Int) + off = (tgt : Int)) (h : ¬ x ≤ 0) (kf : Go l G M B (pc + 3) lv st n k w) : Go l G M B pc lv (.int x :: st) n k w := go_if_le hdg ht (fun h' => absurd h' h) (fun _ => kf)
theorem go_icmp_le {x y : Int32} {off : Int} {tgt : Nat} (hdg : decode M.2.1 pc = .ok (.if_icmp .le off, 3)) (ht : (pc : Int) + off = (tgt : Int)) (kt : x ≤ y → Go l G M B tgt lv st n k w) (kf : ¬ x ≤ y → Go l G M B (pc + 3) lv st n k w) : Go l G M B pc lv (.int y :: .int x :: st) n k w :=
  fun p e R s m args below meth c H locs ls X Y => lv_icmp_le X.1 X.2.1 hdg ht (fun h => kt h p e R s m args below meth c H locs ls X Y) (fun h => kf h p e R s m args below meth c H locs ls X Y)
theorem go_icmp_le_t {x y : Int32} {off : Int} {tgt : Nat} (hdg : decode M.2.1 pc = .ok (.if_icmp .le off, 3)) (ht : (pc : Int) + off = (tgt : Int)) (h : x ≤ y) (kt : Go l G M B tgt lv st n k w) : Go l G M B pc lv (.int y :: .int x :: st) n k w := go_icmp_le hdg ht (fun _ => kt) (fun h' => absurd h h')
theorem go_icmp_le_f {x y : Int32} {off : Int} {tgt : Nat} (hdg : decode M.2.1 pc = .ok (.if_icmp .le off, 3)) (ht : (pc : Int) + off = (tgt : Int)) (h : ¬ x ≤ y) (kf : Go l G M B (pc + 3) lv st n k w) : Go l G M B pc lv (.int y :: .int x :: st) n k w := go_icmp_le hdg ht (fun h' => absurd h' h) (fun _ => kf)
end GO2

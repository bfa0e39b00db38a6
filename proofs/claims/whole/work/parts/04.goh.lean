/-! fields, arrays, new cells, statics -/
abbrev ob (ci : Nat) (fs : List Value) : va_E := .inr (ci, fs)
abbrev ai (G : gG) (n : Nat) (f : Nat → Int32) : va_E := .inl (G.2.2.1, n, .inl f)
abbrev az (G : gG) (n : Nat) (f : Nat → Int32) : va_E := .inl (G.2.2.2.1, n, .inl f)
/-- entry idx of own's pool is field i of class ci -/
def gf_F (own : String) (idx ci i : Nat) (ty : FieldType) (fin : Bool) : Prop := ∃ (C : String) (T : u_T) (N : Nat) (tys : Nat → FieldType), vwCl[ci]? = some (C, T, N) ∧ i < N ∧ Cond.fieldLink own idx (T i).1 (T i).2.1 (T i).2.2.1 ∈ gw_all ∧ (∀ w ∈ u_ws C T N, w ∈ gw_all) ∧ (∀ k, k < N → parseFieldDescriptor (T k).2.2.1 = some (tys k)) ∧ (∀ a, a < N → ∀ b, b < N → a ≠ b → (T a).2.1 ≠ (T b).2.1) ∧ tys i = ty ∧ (T i).2.2.2 = fin ∧ (T i).1 = C
/-- entry idx of own's pool is class ci, of N fields, that start as fs -/
def gf_N (own : String) (idx ci N : Nat) (fs : List Value) : Prop := ∃ (C : String) (T : u_T) (tys : Nat → FieldType), vwCl[ci]? = some (C, T, N) ∧ Cond.classLink own idx C ∈ gw_all ∧ Cond.instantiable C N ∈ gw_all ∧ Cond.initialized C ∈ gw_all ∧ (∀ w ∈ u_ws C T N, w ∈ gw_all) ∧ (∀ k, k < N → parseFieldDescriptor (T k).2.2.1 = some (tys k)) ∧ ∀ j, j < N → defaultValue (tys j) = vp_V fs j
/-- the heap's size, out of the walk's own count -/
theorem gz_size {p : Program} {l : Launch} {e : Env} {R : Room} {s : State} {m : MethodId} {args : Array Value} {below : List Frame} {meth : Method} {c : Code} {T : State} {locs : List Loc} {slots : Nat} {D : va_G} {z n n0 : Nat} {w : Nat → va_E} {H1 : Heap} (XS : Stand p l e R s m args below meth c T locs (n - n0) slots) (hT : T.heap = H1) (hs : s.heap.size = z + n0) (hn : n0 ≤ n) (h0 : s.heap.size ≤ H1.size) (hP : va_P D vwCl (ga_L z n w) H1) : H1.size = z + n := by
  have h1 := XS.heapSize
  rw [hT, hs] at h1
  rw [hs] at h0
  cases n with
  | zero => omega
  | succ q =>
    have h2 : z + q < H1.size := (hP q _ (ga_get (Nat.lt_succ_self q))).lt
    omega
section GO3
variable {l : Launch} {G : gG} {M : gM} {B : gB} {pc : Nat} {lv lv' : List (Nat × Value)} {st : List Value} {n k : Nat} {w : Nat → va_E}
theorem go_get {own : String} {idx ci i a : Nat} {ty : FieldType} {fin : Bool} {fs : List Value} {v : Value} (hf : gf_F own idx ci i ty fin) (ho : M.1.cls = own) (ha : G.2.1 ≤ a ∧ a < G.2.1 + n) (hw : w a = ob ci fs) (hv : fs[i]? = some v) (hdg : decode M.2.1 pc = .ok (.getfield idx, 3)) (kk : Go l G M B (pc + 3) lv (v :: st) n k w) : Go l G M B pc lv (.ref a :: st) n k w := by
  intro p e R s m args below meth c H locs ls X Y
  obtain ⟨C, T, N, tys, h1, h2, h3, h4, h5, h6, h7, h8, h9⟩ := hf
  exact va_get (ref := (T i).1) (own := own) X.1 X.2.1 X.2.2.2.2.2.2.2.1 h4 (ho ▸ X.2.2.2.2.2.1) X.2.2.2.2.2.2.2.2.1.1 Y.2.2.1.2 (a - G.2.1) (ga_geta ha.1 ha.2 hw) h1 i h2 (X.2.2.2.2.2.2.2.1 _ h3) (fun _ h => h) hv hdg (kk p e R s m args below meth c H locs ls X Y)
/-- behind a store: the walk goes on in the new world -/
theorem go_stored {pc1 : Nat} {st1 : List Value} {lv1 : List (Nat × Value)} {w1 : Nat → va_E} (kk : Go l G M B pc1 lv1 st1 n k w1) {p : Program} {e : Env} {R : Room} {s : State} {m : MethodId} {args : Array Value} {below : List Frame} {meth : Method} {c : Code} {H H1 : Heap} {locs locs1 : List Loc} {ls : Array Slot} (X : gX G M B p R s m args meth c) (Y : gY G M B lv1 n k w s H locs ls) (q1 : va_P G.1 vwCl (ga_L G.2.1 n w1) H1) (q3 : va_S (fun q => G.2.1 ≤ q) s.heap H1 locs1) :
    W p l e R s m args below meth c H1 locs1 (n - B.2.2.2.2.1) (k - B.2.2.2.2.2.1) (B.2.2.2.2.2.2 below args s) (F0 m pc1 ls st1) := by
  intro T hT XS
  exact kk p e R s m args below meth c H1 locs1 ls X ⟨Y.1, Y.2.1, ⟨gz_size XS hT X.2.2.2.2.2.2.2.2.2.2.2.2.2 Y.1 q3.1 q1, q1⟩, q3, Y.2.2.2.2⟩ T hT XS
theorem go_put {own : String} {idx ci i a : Nat} {ty : FieldType} {fs : List Value} {v : Value} (hf : gf_F own idx ci i ty false) (ho : M.1.cls = own) (ha : G.2.1 ≤ a ∧ a < G.2.1 + n) (hw : w a = ob ci fs) (hl : i < fs.length) (hn : narrow ty v = v) (hfit : fits ty v = true) (hdg : decode M.2.1 pc = .ok (.putfield idx, 3)) (kk : Go l G M B (pc + 3) lv st n k (va_up w a (ob ci (fs.set i v)))) : Go l G M B pc lv (v :: .ref a :: st) n k w := by
  intro p e R s m args below meth c H locs ls X Y
  obtain ⟨C, T, N, tys, h1, h2, h3, h4, h5, h6, h7, h8, h9⟩ := hf
  refine va_put (ref := (T i).1) (own := own) X.1 X.2.1 X.2.2.2.2.2.2.2.1 h4 tys h5 h6 (ho ▸ X.2.2.2.2.2.1) X.2.2.2.2.2.2.2.2.1.1 Y.2.2.1.2 (ga_D _ _ _) Y.2.2.2.1 (a - G.2.1) (ga_geta ha.1 ha.2 hw) h1 i h2 (X.2.2.2.2.2.2.2.1 _ h3) (fun _ h => h) h8 (h7 ▸ h5 i h2) hn hfit hl hdg (fun H1 locs1 q1 q2 q3 => ?_)
  rw [ga_seta ha.1 ha.2] at q1
  exact go_stored kk X Y q1 q3
theorem go_putF {own : String} {idx ci i a : Nat} {ty : FieldType} {fs : List Value} {v : Value} (hf : gf_F own idx ci i ty true) (ho : M.1.cls = own) (hc : (vwCl[ci]?).map (·.1) = some own) (hin : M.1.name = "<init>") (ha : G.2.1 ≤ a ∧ a < G.2.1 + n) (hw : w a = ob ci fs) (hl : i < fs.length) (hn : narrow ty v = v) (hfit : fits ty v = true) (hdg : decode M.2.1 pc = .ok (.putfield idx, 3)) (kk : Go l G M B (pc + 3) lv st n k (va_up w a (ob ci (fs.set i v)))) : Go l G M B pc lv (v :: .ref a :: st) n k w := by
  intro p e R s m args below meth c H locs ls X Y
  obtain ⟨C, T, N, tys, h1, h2, h3, h4, h5, h6, h7, h8, h9⟩ := hf
  rw [h1] at hc
  have hc : C = own := Option.some.inj hc
  refine va_putF (ref := (T i).1) (own := own) X.1 X.2.1 X.2.2.2.2.2.2.2.1 h4 tys h5 h6 (ho ▸ X.2.2.2.2.2.1) X.2.2.2.2.2.2.2.2.1.1 Y.2.2.1.2 (ga_D _ _ _) Y.2.2.2.1 (a - G.2.1) (ga_geta ha.1 ha.2 hw) h1 i h2 (X.2.2.2.2.2.2.2.1 _ h3) (fun _ h => h) h8 (X.2.2.2.2.2.2.1.trans hin) (h9.trans hc) (h7 ▸ h5 i h2) hn hfit hl hdg (fun H1 locs1 q1 q2 q3 => ?_)
  rw [ga_seta ha.1 ha.2] at q1
  exact go_stored kk X Y q1 q3
theorem go_iald {a N : Nat} {f : Nat → Int32} {i : Int32} (ha : G.2.1 ≤ a ∧ a < G.2.1 + n) (hw : w a = ai G N f) (hin : vp_in i N) (hdg : decode M.2.1 pc = .ok (.iaload, 1)) (kk : Go l G M B (pc + 1) lv (.int (f i.toNatClampNeg) :: st) n k w) : Go l G M B pc lv (.int i :: .ref a :: st) n k w :=
  fun p e R s m args below meth c H locs ls X Y => va_iald X.1 X.2.1 X.2.2.2.2.2.2.2.2.1.1 Y.2.2.1.2 (a - G.2.1) 0 (ga_geta ha.1 ha.2 hw) rfl hin hdg (kk p e R s m args below meth c H locs ls X Y)
theorem go_zald {a N : Nat} {f : Nat → Int32} {i : Int32} (ha : G.2.1 ≤ a ∧ a < G.2.1 + n) (hw : w a = az G N f) (hin : vp_in i N) (hdg : decode M.2.1 pc = .ok (.baload, 1)) (kk : Go l G M B (pc + 1) lv (.int (f i.toNatClampNeg) :: st) n k w) : Go l G M B pc lv (.int i :: .ref a :: st) n k w :=
  fun p e R s m args below meth c H locs ls X Y => va_zald X.1 X.2.1 X.2.2.2.2.2.2.2.2.1.1 Y.2.2.1.2 (a - G.2.1) 1 (ga_geta ha.1 ha.2 hw) rfl hin hdg (kk p e R s m args below meth c H locs ls X Y)
theorem go_alen {a N : Nat} {f : Nat → Int32} (ha : G.2.1 ≤ a ∧ a < G.2.1 + n) (hw : w a = ai G N f) (hdg : decode M.2.1 pc = .ok (.arraylength, 1)) (kk : Go l G M B (pc + 1) lv (.int (nI N) :: st) n k w) : Go l G M B pc lv (.ref a :: st) n k w :=
  fun p e R s m args below meth c H locs ls X Y => va_alen X.1 X.2.1 X.2.2.2.2.2.2.2.2.1.1 Y.2.2.1.2 (a - G.2.1) 0 (ga_geta ha.1 ha.2 hw) rfl rfl hdg (kk p e R s m args below meth c H locs ls X Y)
theorem go_iast {a N : Nat} {f : Nat → Int32} {i x : Int32} (ha : G.2.1 ≤ a ∧ a < G.2.1 + n) (hw : w a = ai G N f) (hin : vp_in i N) (hdg : decode M.2.1 pc = .ok (.iastore, 1)) (kk : Go l G M B (pc + 1) lv st n k (va_up w a (ai G N (upd f i.toNatClampNeg x)))) : Go l G M B pc lv (.int x :: .int i :: .ref a :: st) n k w := by
  intro p e R s m args below meth c H locs ls X Y
  refine va_iast X.1 X.2.1 X.2.2.2.2.2.2.2.2.1.1 Y.2.2.1.2 (ga_D _ _ _) Y.2.2.2.1 (a - G.2.1) 0 (ga_geta ha.1 ha.2 hw) rfl hin hdg (fun H1 locs1 q1 q2 q3 => ?_)
  rw [ga_seta ha.1 ha.2] at q1
  exact go_stored kk X Y q1 q3
theorem go_zast {a N : Nat} {f : Nat → Int32} {i x : Int32} (ha : G.2.1 ≤ a ∧ a < G.2.1 + n) (hw : w a = az G N f) (hin : vp_in i N) (hdg : decode M.2.1 pc = .ok (.bastore, 1)) (kk : Go l G M B (pc + 1) lv st n k (va_up w a (az G N (upd f i.toNatClampNeg (vp_nar .boolean x))))) : Go l G M B pc lv (.int x :: .int i :: .ref a :: st) n k w := by
  intro p e R s m args below meth c H locs ls X Y
  refine va_zast X.1 X.2.1 X.2.2.2.2.2.2.2.2.1.1 Y.2.2.1.2 (ga_D _ _ _) Y.2.2.2.1 (a - G.2.1) 1 (ga_geta ha.1 ha.2 hw) rfl hin hdg (fun H1 locs1 q1 q2 q3 => ?_)
  rw [ga_seta ha.1 ha.2] at q1
  exact go_stored kk X Y q1 q3
/-- System.arraycopy of ints -/
theorem go_copy {own : String} {idx a0 a1 n0 n1 : Nat} {f g : Nat → Int32} {sp dp m0 : Int32} (ho : M.1.cls = own) (hl : Cond.methodLink own idx arraycopyName ∈ gw_all) (hnat : Cond.native arraycopyName ∈ gw_all) (hst : Cond.static arraycopyName ∈ gw_all) (hini : Cond.initialized "java/lang/System" ∈ gw_all) (ha0 : G.2.1 ≤ a0 ∧ a0 < G.2.1 + n) (hw0 : w a0 = ai G n0 f) (ha1 : G.2.1 ≤ a1 ∧ a1 < G.2.1 + n) (hw1 : w a1 = ai G n1 g)
    (h1 : ¬ sp < 0) (h2 : ¬ dp < 0) (h3 : ¬ m0 < 0) (h4 : sp.toNatClampNeg + m0.toNatClampNeg ≤ n0) (h5 : dp.toNatClampNeg + m0.toNatClampNeg ≤ n1) (hfr : 1 ≤ B.1) (hlo : (st.map fun v => v.category).sum + (nativeFrameWords "java/lang/System" "arraycopy" 5 + 11) ≤ B.2.1) (hdg : decode M.2.1 pc = .ok (.invokestatic idx, 3))
    (kk : Go l G M B (pc + 3) lv st n k (va_up w a1 (ai G n1 (va_cpy f g sp.toNatClampNeg dp.toNatClampNeg m0.toNatClampNeg)))) : Go l G M B pc lv (.int m0 :: .int dp :: .ref a1 :: .int sp :: .ref a0 :: st) n k w := by
  intro p e R s m args below meth c H locs ls X Y
  have hts := X.2.2.2.2.2.2.2.1
  have hR := X.2.2.2.2.2.2.2.2.2
  refine va_copyi (own := own) X.1 X.2.1 (X.2.2.1.trans Y.2.2.2.2.1.symm) (ho ▸ X.2.2.2.2.2.1) (hts _ hl) (hts _ hnat) (hts _ hst) (hts _ hini) X.2.2.2.2.2.2.2.2.1.1 Y.2.2.1.2 (ga_D _ _ _) Y.2.2.2.1 (a0 - G.2.1) (a1 - G.2.1) 0 0 (ga_geta ha0.1 ha0.2 hw0) (ga_geta ha1.1 ha1.2 hw1) rfl rfl rfl h1 h2 h3 h4 h5 (fun _ _ => rfl) (Nat.le_trans hfr hR.1) (Nat.le_trans hlo hR.2.1) hdg (fun H1 locs1 q1 q2 q3 => ?_)
  rw [ga_seta ha1.1 ha1.2] at q1
  exact go_stored kk X Y q1 q3
/-- a new object -/
theorem go_new {own : String} {idx ci N : Nat} {fs : List Value} (hf : gf_N own idx ci N fs) (ho : M.1.cls = own) (hc : n + 1 ≤ B.2.2.2.2.1 + B.2.2.1) (hs : k + N ≤ B.2.2.2.2.2.1 + B.2.2.2.1) (hdg : decode M.2.1 pc = .ok (.new idx, 3)) (kk : Go l G M B (pc + 3) lv (.ref (G.2.1 + n) :: st) (n + 1) (k + N) (va_up w (G.2.1 + n) (ob ci fs))) : Go l G M B pc lv st n k w := by
  intro p e R s m args below meth c H locs ls X Y
  obtain ⟨C, T, tys, h1, h2, h3, h4, h5, h6, h7⟩ := hf
  have hts := X.2.2.2.2.2.2.2.1
  have hK := X.2.2.2.2.2.2.2.2.1.1
  have hR := X.2.2.2.2.2.2.2.2.2
  have hKn := hK.1 ci _ h1
  obtain ⟨y1, y2, ⟨ysz, yP⟩, yS, yL⟩ := Y
  refine W.newcK (own := own) X.1 X.2.1 (ho ▸ X.2.2.2.2.2.1) (hts _ h2) (hts _ h3) (hts _ h4) rfl hdg (by omega) (by omega) hKn.2.1 ysz fun H1 kC hkC e1 z1 o1 => ?_
  have hk : ∀ (j : Nat) (x : Nat × va_E), (ga_L G.2.1 n w)[j]? = some x → H1[x.1]? = H[x.1]? := fun j x hx => o1 x.1 (ysz ▸ (yP j x hx).lt)
  have q1 : va_P G.1 vwCl (ga_L G.2.1 n w ++ [(G.2.1 + n, ob ci fs)]) H1 := (yP.kept hk).app (fun j x hx => by
    have hz : j < 1 := (List.getElem?_eq_some_iff.mp hx).1
    rw [show j = 0 by omega] at hx
    cases hx
    exact ⟨_, h1, (u_born tys hts h5 hKn hkC e1 h6).to h7⟩)
  rw [ga_push] at q1
  have := kk p e R s m args below meth c H1 locs ls X ⟨by omega, by omega, ⟨z1.trans (Nat.add_assoc _ _ _), q1⟩, ⟨Nat.le_trans yS.1 (by omega), fun x g1 g2 => (o1 x (ysz ▸ Nat.lt_of_lt_of_le g1 yS.1)).trans (yS.2.1 x g1 g2), yS.2.2⟩, yL⟩
  rw [show n + 1 - B.2.2.2.2.1 = n - B.2.2.2.2.1 + 1 by omega, show k + N - B.2.2.2.2.2.1 = k - B.2.2.2.2.2.1 + N by omega] at this
  exact this
/-- a new array of ints, or of booleans -/
theorem go_newa {N : Nat} {x : Int32} (hx : x = nI N) (hN : N < 100000000) (harr : Cond.arrayClass .int ∈ gw_all) (hc : n + 1 ≤ B.2.2.2.2.1 + B.2.2.1) (hs : k + N ≤ B.2.2.2.2.2.1 + B.2.2.2.1) (hdg : decode M.2.1 pc = .ok (.newarray .int, 2)) (kk : Go l G M B (pc + 2) lv (.ref (G.2.1 + n) :: st) (n + 1) (k + N) (va_up w (G.2.1 + n) (ai G N (fun _ => 0)))) : Go l G M B pc lv (.int x :: st) n k w := by
  intro p e R s m args below meth c H locs ls X Y
  have hts := X.2.2.2.2.2.2.2.1
  have hK := X.2.2.2.2.2.2.2.2.1.1
  have hR := X.2.2.2.2.2.2.2.2.2
  obtain ⟨y1, y2, ⟨ysz, yP⟩, yS, yL⟩ := Y
  subst hx
  refine va_newaK (atype := .int) X.1 X.2.1 (hts _ harr) rfl hdg rfl (nI_pos (by omega)) (nI_clamp (by omega)) (by show N * 4 ≤ _; omega) (by omega) (by omega) ysz fun H1 cA e1 z1 o1 hAr hNm => ?_
  have hcA : cA = G.2.2.1 := Option.some.inj (hNm.symm.trans (hK.2 0 _ rfl).2)
  subst hcA
  have hk : ∀ (j : Nat) (x : Nat × va_E), (ga_L G.2.1 n w)[j]? = some x → H1[x.1]? = H[x.1]? := fun j x hx => o1 x.1 (ysz ▸ (yP j x hx).lt)
  have q1 : va_P G.1 vwCl (ga_L G.2.1 n w ++ [(G.2.1 + n, ai G N (fun _ => 0))]) H1 := (yP.kept hk).app (fun j x hx => by
    have hz : j < 1 := (List.getElem?_eq_some_iff.mp hx).1
    rw [show j = 0 by omega] at hx
    cases hx
    exact e1)
  rw [ga_push] at q1
  have := kk p e R s m args below meth c H1 locs ls X ⟨by omega, by omega, ⟨z1.trans (Nat.add_assoc _ _ _), q1⟩, ⟨Nat.le_trans yS.1 (by omega), fun x g1 g2 => (o1 x (ysz ▸ Nat.lt_of_lt_of_le g1 yS.1)).trans (yS.2.1 x g1 g2), yS.2.2⟩, yL⟩
  rw [show n + 1 - B.2.2.2.2.1 = n - B.2.2.2.2.1 + 1 by omega, show k + N - B.2.2.2.2.2.1 = k - B.2.2.2.2.2.1 + N by omega] at this
  exact this
theorem go_newz {N : Nat} {x : Int32} (hx : x = nI N) (hN : N < 100000000) (harr : Cond.arrayClass .boolean ∈ gw_all) (hc : n + 1 ≤ B.2.2.2.2.1 + B.2.2.1) (hs : k + N ≤ B.2.2.2.2.2.1 + B.2.2.2.1) (hdg : decode M.2.1 pc = .ok (.newarray .boolean, 2)) (kk : Go l G M B (pc + 2) lv (.ref (G.2.1 + n) :: st) (n + 1) (k + N) (va_up w (G.2.1 + n) (az G N (fun _ => 0)))) : Go l G M B pc lv (.int x :: st) n k w := by
  intro p e R s m args below meth c H locs ls X Y
  have hts := X.2.2.2.2.2.2.2.1
  have hK := X.2.2.2.2.2.2.2.2.1.1
  have hR := X.2.2.2.2.2.2.2.2.2
  obtain ⟨y1, y2, ⟨ysz, yP⟩, yS, yL⟩ := Y
  subst hx
  refine va_newaK (atype := .boolean) X.1 X.2.1 (hts _ harr) rfl hdg rfl (nI_pos (by omega)) (nI_clamp (by omega)) (by show N * 1 ≤ _; omega) (by omega) (by omega) ysz fun H1 cA e1 z1 o1 hAr hNm => ?_
  have hcA : cA = G.2.2.2.1 := Option.some.inj (hNm.symm.trans (hK.2 1 _ rfl).2)
  subst hcA
  have hk : ∀ (j : Nat) (x : Nat × va_E), (ga_L G.2.1 n w)[j]? = some x → H1[x.1]? = H[x.1]? := fun j x hx => o1 x.1 (ysz ▸ (yP j x hx).lt)
  have q1 : va_P G.1 vwCl (ga_L G.2.1 n w ++ [(G.2.1 + n, az G N (fun _ => 0))]) H1 := (yP.kept hk).app (fun j x hx => by
    have hz : j < 1 := (List.getElem?_eq_some_iff.mp hx).1
    rw [show j = 0 by omega] at hx
    cases hx
    exact e1)
  rw [ga_push] at q1
  have := kk p e R s m args below meth c H1 locs ls X ⟨by omega, by omega, ⟨z1.trans (Nat.add_assoc _ _ _), q1⟩, ⟨Nat.le_trans yS.1 (by omega), fun x g1 g2 => (o1 x (ysz ▸ Nat.lt_of_lt_of_le g1 yS.1)).trans (yS.2.1 x g1 g2), yS.2.2⟩, yL⟩
  rw [show n + 1 - B.2.2.2.2.1 = n - B.2.2.2.2.1 + 1 by omega, show k + N - B.2.2.2.2.2.1 = k - B.2.2.2.2.2.1 + N by omega] at this
  exact this
/-- statics: the reference to one of the class's constant arrays; an element of it -/
theorem go_gets {own : String} {idx i : Nat} (hi : i < 8) (ho : M.1.cls = own) (hl : Cond.fieldLink own idx "SweepKeeper" (gs_n i).1 "[I" ∈ gw_all) (hdg : decode M.2.1 pc = .ok (.getstatic idx, 3)) (kk : Go l G M B (pc + 3) lv (.ref (G.2.2.2.2.1 i) :: st) n k w) : Go l G M B pc lv st n k w :=
  fun p e R s m args below meth c H locs ls X Y => va_gets (own := own) (ref := "SweepKeeper") X.1 X.2.1 (X.2.2.2.2.2.2.2.2.1.2.2.1 i hi).1 Y.2.2.2.1 (ho ▸ X.2.2.2.2.2.1) (X.2.2.2.2.2.2.2.1 _ hl) (fun _ h => h) hdg (kk p e R s m args below meth c H locs ls X Y)
theorem go_getsN {own host : String} {idx i : Nat} (hi : i < 8) (ho : M.1.cls = own) (hl : Cond.fieldLinkNest own idx "SweepKeeper" (gs_n i).1 "[I" host ∈ gn_all) (hdg : decode M.2.1 pc = .ok (.getstatic idx, 3)) (kk : Go l G M B (pc + 3) lv (.ref (G.2.2.2.2.1 i) :: st) n k w) : Go l G M B pc lv st n k w :=
  fun p e R s m args below meth c H locs ls X Y => va_getsN (own := own) (ref := "SweepKeeper") X.1 X.2.1 (X.2.2.2.2.2.2.2.2.1.2.2.1 i hi).1 Y.2.2.2.1 (ho ▸ X.2.2.2.2.2.1) (va_Nw.use rfl (X.2.2.2.2.2.2.2.2.1.2.1 _ hl)) (fun _ h => h) hdg (kk p e R s m args below meth c H locs ls X Y)
theorem go_tald {i : Nat} {j : Int32} (hi : i < 8) (hin : vp_in j (gs_n i).2.1) (hdg : decode M.2.1 pc = .ok (.iaload, 1)) (kk : Go l G M B (pc + 1) lv (.int ((gs_n i).2.2.getD j.toNatClampNeg 0) :: st) n k w) : Go l G M B pc lv (.int j :: .ref (G.2.2.2.2.1 i) :: st) n k w :=
  fun p e R s m args below meth c H locs ls X Y => va_ti X.1 X.2.1 (X.2.2.2.2.2.2.2.2.1.2.2.1 i hi).2 Y.2.2.2.1 hin rfl hdg (kk p e R s m args below meth c H locs ls X Y)
/-- the script -/
theorem go_sld {j : Int32} (hin : vp_in j G.2.2.2.2.2.2.1) (hdg : decode M.2.1 pc = .ok (.iaload, 1)) (kk : Go l G M B (pc + 1) lv (.int (G.2.2.2.2.2.2.2 j.toNatClampNeg) :: st) n k w) : Go l G M B pc lv (.int j :: .ref G.2.2.2.2.2.1 :: st) n k w :=
  fun p e R s m args below meth c H locs ls X Y => va_sld X.1 X.2.1 X.2.2.2.2.2.2.2.2.1.2.2.2.1 (Nat.lt_of_lt_of_le X.2.2.2.2.2.2.2.2.1.2.2.2.2.1 X.2.2.2.2.2.2.2.2.1.2.2.2.2.2) (Nat.not_le.mpr X.2.2.2.2.2.2.2.2.1.2.2.2.2.1) Y.2.2.2.1 hin hdg (kk p e R s m args below meth c H locs ls X Y)
theorem go_slen (hdg : decode M.2.1 pc = .ok (.arraylength, 1)) (kk : Go l G M B (pc + 1) lv (.int (nI G.2.2.2.2.2.2.1) :: st) n k w) : Go l G M B pc lv (.ref G.2.2.2.2.2.1 :: st) n k w :=
  fun p e R s m args below meth c H locs ls X Y => va_slen X.1 X.2.1 X.2.2.2.2.2.2.2.2.1.2.2.2.1 (Nat.lt_of_lt_of_le X.2.2.2.2.2.2.2.2.1.2.2.2.2.1 X.2.2.2.2.2.2.2.2.1.2.2.2.2.2) (Nat.not_le.mpr X.2.2.2.2.2.2.2.2.1.2.2.2.2.1) Y.2.2.2.1 hdg (kk p e R s m args below meth c H locs ls X Y)
theorem go_objInit {own : String} {idx a : Nat} (ho : M.1.cls = own) (hl : Cond.methodLink own idx objectInit ∈ gw_all) (hi : Cond.instanceMethod objectInit ∈ gw_all) (hc : Cond.code objectInit ⟨#[0xb1]⟩ 1 none ∈ gw_all) (hfr : 1 ≤ B.1) (hlo : (st.map fun v => v.category).sum + 12 ≤ B.2.1) (hdg : decode M.2.1 pc = .ok (.invokespecial idx, 3)) (kk : Go l G M B (pc + 3) lv st n k w) : Go l G M B pc lv (.ref a :: st) n k w := by
  intro p e R s m args below meth c H locs ls X Y
  have hts := X.2.2.2.2.2.2.2.1
  have hR := X.2.2.2.2.2.2.2.2.2
  exact W.objInit (own := own) X.1 X.2.1 (ho ▸ X.2.2.2.2.2.1) (hts _ hl) (hts _ hi) (hts _ hc) rfl (by rw [X.2.2.1]; exact Y.2.2.2.2.1) rfl hdg (Nat.le_trans hfr hR.1) (by show 2 * 0 + _ + 12 ≤ _; omega) (kk p e R s m args below meth c H locs ls X Y)
theorem go_ifnonnull_t {x : Nat} {off : Int} {tgt : Nat} (hdg : decode M.2.1 pc = .ok (.ifnonnull off, 3)) (ht : (pc : Int) + off = (tgt : Int)) (kk : Go l G M B tgt lv st n k w) : Go l G M B pc lv (.ref x :: st) n k w :=
  fun p e R s m args below meth c H locs ls X Y => lv_ifnonnull X.1 X.2.1 hdg ht (kk p e R s m args below meth c H locs ls X Y)
theorem go_ifnonnull_f {off : Int} (hdg : decode M.2.1 pc = .ok (.ifnonnull off, 3)) (kk : Go l G M B (pc + 3) lv st n k w) : Go l G M B pc lv (.null :: st) n k w :=
  fun p e R s m args below meth c H locs ls X Y => lv_ifnonnullN X.1 X.2.1 hdg (kk p e R s m args below meth c H locs ls X Y)
theorem go_tableIn {dflt lo hi : Int} {offs : Array Int} {len : Nat} {x : Int32} {off : Int} {tgt : Nat} (hdg : decode M.2.1 pc = .ok (.tableswitch dflt lo hi offs, len)) (h1 : ¬ x.toInt < lo) (h2 : ¬ hi < x.toInt) (ho : offs[(x.toInt - lo).toNat]? = some off) (ht : (pc : Int) + off = (tgt : Int)) (kk : Go l G M B tgt lv st n k w) : Go l G M B pc lv (.int x :: st) n k w :=
  fun p e R s m args below meth c H locs ls X Y => lv_tableIn X.1 X.2.1 hdg h1 h2 ho ht (kk p e R s m args below meth c H locs ls X Y)
theorem go_tableOut {dflt lo hi : Int} {offs : Array Int} {len : Nat} {x : Int32} {tgt : Nat} (hdg : decode M.2.1 pc = .ok (.tableswitch dflt lo hi offs, len)) (h : x.toInt < lo ∨ hi < x.toInt) (ht : (pc : Int) + dflt = (tgt : Int)) (kk : Go l G M B tgt lv st n k w) : Go l G M B pc lv (.int x :: st) n k w :=
  fun p e R s m args below meth c H locs ls X Y => lv_tableOut X.1 X.2.1 hdg h ht (kk p e R s m args below meth c H locs ls X Y)
theorem go_lookup {dflt : Int} {ps : Array (Int × Int)} {len : Nat} {x : Int32} {off : Int} {tgt : Nat} (hdg : decode M.2.1 pc = .ok (.lookupswitch dflt ps, len)) (hp : (ps.toList.zip (ps.toList.drop 1)).all (fun (a, next) => a.1 < next.1) = true) (ho : Op.lookupswitch.offset ps.toList dflt x.toInt = off) (ht : (pc : Int) + off = (tgt : Int)) (kk : Go l G M B tgt lv st n k w) : Go l G M B pc lv (.int x :: st) n k w :=
  fun p e R s m args below meth c H locs ls X Y => lv_lookup X.1 X.2.1 hdg hp ho ht (kk p e R s m args below meth c H locs ls X Y)
end GO3

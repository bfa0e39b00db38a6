/-! more rows: forms that a program lays -/
theorem gz_ne {z i j : Nat} (h : i ≠ j) : z + i ≠ z + j := fun e => h (Nat.add_left_cancel e)
theorem gv_in {i : Int32} {N : Nat} (h : (decide (0 ≤ i.toInt) && decide (i.toInt < (N : Int))) = true) : vp_in i N := by
  rw [vp_in_iff]
  simpa using h
theorem gz_b {z i n : Nat} (h : i < n) : z ≤ z + i ∧ z + i < z + n := ⟨Nat.le_add_right _ _, Nat.add_lt_add_left h _⟩
/-- a world of ours as a list -/
def wl (z : Nat) (L : List va_E) : Nat → va_E := fun a => (L[a - z]?).getD (ob 0 [])
theorem wl_at {z i : Nat} {L : List va_E} {e : va_E} (h : L[i]? = some e) : wl z L (z + i) = e := by
  rw [wl, show z + i - z = i by omega, h]
  rfl
/-- worlds that agree where our cells are -/
theorem ga_W.ext {G : gG} {n : Nat} {w w' : Nat → va_E} {H : Heap} (h : ∀ i, i < n → w (G.2.1 + i) = w' (G.2.1 + i)) (hW : ga_W G n w H) : ga_W G n w' H := by
  refine ⟨hW.1, ?_⟩
  rw [show ga_L G.2.1 n w' = ga_L G.2.1 n w from List.map_congr_left (fun i hi => by rw [h i (List.mem_range.mp hi)])]
  exact hW.2
/-- arrays that agree below their length are the same to the heap -/
def ga_eq (e e' : va_E) : Prop := e = e' ∨ ∃ (cA : ClassId) (N : Nat) (f g : Nat → Int32), e = .inl (cA, N, .inl f) ∧ e' = .inl (cA, N, .inl g) ∧ ∀ j, j < N → f j = g j
theorem ga_eq.cell {cA : ClassId} {N : Nat} {f g : Nat → Int32} (h : ∀ j, j < N → f j = g j) : vp_cell cA (N, .inl f) = vp_cell cA (N, .inl g) := by
  rw [vp_cell_i, vp_cell_i]
  unfold arrV
  congr 1
  exact congrArg Array.ofFn (funext fun j => by show Value.int (f j.val) = Value.int (g j.val); rw [h j.val j.isLt])
theorem ga_W.ext2 {G : gG} {n : Nat} {w w' : Nat → va_E} {H : Heap} (h : ∀ i, i < n → ga_eq (w (G.2.1 + i)) (w' (G.2.1 + i))) (hW : ga_W G n w H) : ga_W G n w' H := by
  refine ⟨hW.1, fun k q hk => ?_⟩
  obtain ⟨hk1, hk2⟩ := ga_at hk
  subst hk2
  have h1 := hW.2 k _ (ga_get hk1)
  rcases h k hk1 with h2 | ⟨cA, N, f, g, h2, h3, h4⟩
  · rw [← h2]; exact h1
  · rw [h2] at h1
    rw [h3]
    show H[G.2.1 + k]? = some (vp_cell cA (N, .inl g))
    rw [← ga_eq.cell h4]
    exact h1
theorem wl_up {z i : Nat} {L : List va_E} {e : va_E} (h : Nat.blt i L.length = true) {n : Nat} (hn : L.length = n) : ∀ j, j < n → va_up (wl z L) (z + i) e (z + j) = wl z (L.set i e) (z + j) := by
  intro j hj
  have hi : i < L.length := by simpa using h
  by_cases hji : j = i
  · subst hji
    rw [va_up_self, wl, show z + j - z = j by omega, List.getElem?_set_self hi]
    rfl
  · rw [va_up_ne _ _ (gz_ne hji), wl, wl, show z + j - z = j by omega, List.getElem?_set_ne (Ne.symm hji)]
theorem wl_push {z : Nat} {L : List va_E} {e : va_E} {n : Nat} (hn : L.length = n) : ∀ j, j < n + 1 → va_up (wl z L) (z + n) e (z + j) = wl z (L ++ [e]) (z + j) := by
  intro j hj
  by_cases hji : j = n
  · subst hji
    rw [va_up_self, wl, show z + j - z = j by omega, List.getElem?_append_right (by omega), hn, Nat.sub_self]
    rfl
  · rw [va_up_ne _ _ (gz_ne hji), wl, wl, show z + j - z = j by omega, List.getElem?_append_left (by omega)]
section GO5
variable {l : Launch} {G : gG} {M : gM} {B : gB} {pc : Nat} {lv lv' : List (Nat × Value)} {st : List Value} {n k : Nat} {w : Nat → va_E}
theorem go_ext {w' : Nat → va_E} (h : ∀ i, i < n → w (G.2.1 + i) = w' (G.2.1 + i)) (kk : Go l G M B pc lv st n k w') : Go l G M B pc lv st n k w :=
  fun p e R s m args below meth c H locs ls X Y => kk p e R s m args below meth c H locs ls X ⟨Y.1, Y.2.1, Y.2.2.1.ext h, Y.2.2.2.1, Y.2.2.2.2⟩
theorem go_ext2 {w' : Nat → va_E} (h : ∀ i, i < n → ga_eq (w (G.2.1 + i)) (w' (G.2.1 + i))) (kk : Go l G M B pc lv st n k w') : Go l G M B pc lv st n k w :=
  fun p e R s m args below meth c H locs ls X Y => kk p e R s m args below meth c H locs ls X ⟨Y.1, Y.2.1, Y.2.2.1.ext2 h, Y.2.2.2.1, Y.2.2.2.2⟩
/-- one array's contents told otherwise -/
theorem go_arr {a N : Nat} {f g : Nat → Int32} (h : ∀ j, j < N → f j = g j) (kk : Go l G M B pc lv st n k (va_up w a (ai G N g))) : Go l G M B pc lv st n k (va_up w a (ai G N f)) :=
  go_ext2 (fun i _ => by
    by_cases hi : G.2.1 + i = a
    · rw [hi, va_up_self, va_up_self]; exact Or.inr ⟨_, _, _, _, rfl, rfl, h⟩
    · rw [va_up_ne _ _ hi, va_up_ne _ _ hi]; exact Or.inl rfl) kk
theorem go_top {x y : Int32} (h : x = y) (kk : Go l G M B pc lv (.int y :: st) n k w) : Go l G M B pc lv (.int x :: st) n k w := by subst h; exact kk
theorem go_topl {x y : Int64} (h : x = y) (kk : Go l G M B pc lv (.long y :: st) n k w) : Go l G M B pc lv (.long x :: st) n k w := by subst h; exact kk
theorem go_nk {n1 k1 : Nat} (h1 : n = n1) (h2 : k = k1) (kk : Go l G M B pc lv st n1 k1 w) : Go l G M B pc lv st n k w := by subst h1; subst h2; exact kk
theorem go_newE {own : String} {idx ci N n1 k1 : Nat} {fs : List Value} (hf : gf_N own idx ci N fs) (ho : M.1.cls = own) (h1 : n + 1 = n1) (h2 : k + N = k1) (hc : n1 ≤ B.2.2.2.2.1 + B.2.2.1) (hs : k1 ≤ B.2.2.2.2.2.1 + B.2.2.2.1) (hdg : decode M.2.1 pc = .ok (.new idx, 3)) (kk : Go l G M B (pc + 3) lv (.ref (G.2.1 + n) :: st) n1 k1 (va_up w (G.2.1 + n) (ob ci fs))) : Go l G M B pc lv st n k w := by
  subst h1; subst h2; exact go_new hf ho hc hs hdg kk
theorem go_newaE {N n1 k1 : Nat} {x : Int32} (hx : x = nI N) (hN : N < 100000000) (harr : Cond.arrayClass .int ∈ gw_all) (h1 : n + 1 = n1) (h2 : k + N = k1) (hc : n1 ≤ B.2.2.2.2.1 + B.2.2.1) (hs : k1 ≤ B.2.2.2.2.2.1 + B.2.2.2.1) (hdg : decode M.2.1 pc = .ok (.newarray .int, 2)) (kk : Go l G M B (pc + 2) lv (.ref (G.2.1 + n) :: st) n1 k1 (va_up w (G.2.1 + n) (ai G N (fun _ => 0)))) : Go l G M B pc lv (.int x :: st) n k w := by
  subst h1; subst h2; exact go_newa hx hN harr hc hs hdg kk
theorem go_newzE {N n1 k1 : Nat} {x : Int32} (hx : x = nI N) (hN : N < 100000000) (harr : Cond.arrayClass .boolean ∈ gw_all) (h1 : n + 1 = n1) (h2 : k + N = k1) (hc : n1 ≤ B.2.2.2.2.1 + B.2.2.1) (hs : k1 ≤ B.2.2.2.2.2.1 + B.2.2.2.1) (hdg : decode M.2.1 pc = .ok (.newarray .boolean, 2)) (kk : Go l G M B (pc + 2) lv (.ref (G.2.1 + n) :: st) n1 k1 (va_up w (G.2.1 + n) (az G N (fun _ => 0)))) : Go l G M B pc lv (.int x :: st) n k w := by
  subst h1; subst h2; exact go_newz hx hN harr hc hs hdg kk
theorem go_aloadN_n {i : Fin 4} {j : Nat} (hdg : decode M.2.1 pc = .ok (.aload_n i, 1)) (hi : (i : Nat) = j) (hl : lv.lookup j = some .null) (kk : Go l G M B (pc + 1) lv (.null :: st) n k w) : Go l G M B pc lv st n k w :=
  fun p e R s m args below meth c H locs ls X Y => lv_aload_nN X.1 X.2.1 hdg hi (gl_at Y.2.2.2.2 hl) (kk p e R s m args below meth c H locs ls X Y)
theorem go_callV_i {own : String} {idx na fr lc ci b n1 k1 : Nat} {M' : gM} {as fs : List Value} {st0 : List Value} {v : Int32} {w1 : Nat → va_E} (hc : gc_V own idx M' na) (ho : M.1.cls = own) (hct : Ct l G M' fr lc (.ref b :: as) n k w (some (.int v), n1, k1, w1)) (hna : as.length = na) (hst : st0 = as.reverse ++ .ref b :: st) (hb : G.2.1 ≤ b ∧ b < G.2.1 + n) (hw : w b = ob ci fs) (hcl : (vwCl[ci]?).map (·.1) = some M'.1.cls) (hcat : (st.map fun v => v.category).sum ≤ 8) (hroom : fr + 1 ≤ B.1 ∧ 8 + (M'.2.2.1 + 11) + lc ≤ B.2.1 ∧ n1 ≤ B.2.2.2.2.1 + B.2.2.1 ∧ k1 ≤ B.2.2.2.2.2.1 + B.2.2.2.1) (hdg : decode M.2.1 pc = .ok (.invokevirtual idx, 3)) (kk : Go l G M B (pc + 3) lv (.int v :: st) n1 k1 w1) : Go l G M B pc lv st0 n k w := go_callV hc ho hct hna hst hb hw hcl hcat hroom hdg kk
theorem go_callV_v {own : String} {idx na fr lc ci b n1 k1 : Nat} {M' : gM} {as fs : List Value} {st0 : List Value} {w1 : Nat → va_E} (hc : gc_V own idx M' na) (ho : M.1.cls = own) (hct : Ct l G M' fr lc (.ref b :: as) n k w (none, n1, k1, w1)) (hna : as.length = na) (hst : st0 = as.reverse ++ .ref b :: st) (hb : G.2.1 ≤ b ∧ b < G.2.1 + n) (hw : w b = ob ci fs) (hcl : (vwCl[ci]?).map (·.1) = some M'.1.cls) (hcat : (st.map fun v => v.category).sum ≤ 8) (hroom : fr + 1 ≤ B.1 ∧ 8 + (M'.2.2.1 + 11) + lc ≤ B.2.1 ∧ n1 ≤ B.2.2.2.2.1 + B.2.2.1 ∧ k1 ≤ B.2.2.2.2.2.1 + B.2.2.2.1) (hdg : decode M.2.1 pc = .ok (.invokevirtual idx, 3)) (kk : Go l G M B (pc + 3) lv (st) n1 k1 w1) : Go l G M B pc lv st0 n k w := go_callV hc ho hct hna hst hb hw hcl hcat hroom hdg kk
theorem go_callV_r {own : String} {idx na fr lc ci b n1 k1 : Nat} {M' : gM} {as fs : List Value} {st0 : List Value} {v : Nat} {w1 : Nat → va_E} (hc : gc_V own idx M' na) (ho : M.1.cls = own) (hct : Ct l G M' fr lc (.ref b :: as) n k w (some (.ref v), n1, k1, w1)) (hna : as.length = na) (hst : st0 = as.reverse ++ .ref b :: st) (hb : G.2.1 ≤ b ∧ b < G.2.1 + n) (hw : w b = ob ci fs) (hcl : (vwCl[ci]?).map (·.1) = some M'.1.cls) (hcat : (st.map fun v => v.category).sum ≤ 8) (hroom : fr + 1 ≤ B.1 ∧ 8 + (M'.2.2.1 + 11) + lc ≤ B.2.1 ∧ n1 ≤ B.2.2.2.2.1 + B.2.2.1 ∧ k1 ≤ B.2.2.2.2.2.1 + B.2.2.2.1) (hdg : decode M.2.1 pc = .ok (.invokevirtual idx, 3)) (kk : Go l G M B (pc + 3) lv (.ref v :: st) n1 k1 w1) : Go l G M B pc lv st0 n k w := go_callV hc ho hct hna hst hb hw hcl hcat hroom hdg kk
theorem go_callS_i {own : String} {idx na fr lc  n1 k1 : Nat} {M' : gM} {as : List Value} {st0 : List Value} {v : Int32} {w1 : Nat → va_E} (hc : gc_S own idx M' na) (ho : M.1.cls = own) (hct : Ct l G M' fr lc (as) n k w (some (.int v), n1, k1, w1)) (hna : as.length = na) (hst : st0 = as.reverse ++ st) (hcat : (st.map fun v => v.category).sum ≤ 8) (hroom : fr + 1 ≤ B.1 ∧ 8 + (M'.2.2.1 + 11) + lc ≤ B.2.1 ∧ n1 ≤ B.2.2.2.2.1 + B.2.2.1 ∧ k1 ≤ B.2.2.2.2.2.1 + B.2.2.2.1) (hdg : decode M.2.1 pc = .ok (.invokestatic idx, 3)) (kk : Go l G M B (pc + 3) lv (.int v :: st) n1 k1 w1) : Go l G M B pc lv st0 n k w := go_callS hc ho hct hna hst hcat hroom hdg kk
theorem go_callS_v {own : String} {idx na fr lc  n1 k1 : Nat} {M' : gM} {as : List Value} {st0 : List Value} {w1 : Nat → va_E} (hc : gc_S own idx M' na) (ho : M.1.cls = own) (hct : Ct l G M' fr lc (as) n k w (none, n1, k1, w1)) (hna : as.length = na) (hst : st0 = as.reverse ++ st) (hcat : (st.map fun v => v.category).sum ≤ 8) (hroom : fr + 1 ≤ B.1 ∧ 8 + (M'.2.2.1 + 11) + lc ≤ B.2.1 ∧ n1 ≤ B.2.2.2.2.1 + B.2.2.1 ∧ k1 ≤ B.2.2.2.2.2.1 + B.2.2.2.1) (hdg : decode M.2.1 pc = .ok (.invokestatic idx, 3)) (kk : Go l G M B (pc + 3) lv (st) n1 k1 w1) : Go l G M B pc lv st0 n k w := go_callS hc ho hct hna hst hcat hroom hdg kk
theorem go_callS_r {own : String} {idx na fr lc  n1 k1 : Nat} {M' : gM} {as : List Value} {st0 : List Value} {v : Nat} {w1 : Nat → va_E} (hc : gc_S own idx M' na) (ho : M.1.cls = own) (hct : Ct l G M' fr lc (as) n k w (some (.ref v), n1, k1, w1)) (hna : as.length = na) (hst : st0 = as.reverse ++ st) (hcat : (st.map fun v => v.category).sum ≤ 8) (hroom : fr + 1 ≤ B.1 ∧ 8 + (M'.2.2.1 + 11) + lc ≤ B.2.1 ∧ n1 ≤ B.2.2.2.2.1 + B.2.2.1 ∧ k1 ≤ B.2.2.2.2.2.1 + B.2.2.2.1) (hdg : decode M.2.1 pc = .ok (.invokestatic idx, 3)) (kk : Go l G M B (pc + 3) lv (.ref v :: st) n1 k1 w1) : Go l G M B pc lv st0 n k w := go_callS hc ho hct hna hst hcat hroom hdg kk
theorem go_callI_v {own : String} {idx na fr lc b n1 k1 : Nat} {M' : gM} {as : List Value} {st0 : List Value} {w1 : Nat → va_E} (hc : gc_I own idx M' na) (ho : M.1.cls = own) (hct : Ct l G M' fr lc (.ref b :: as) n k w (none, n1, k1, w1)) (hna : as.length = na) (hst : st0 = as.reverse ++ .ref b :: st) (hcat : (st.map fun v => v.category).sum ≤ 8) (hroom : fr + 1 ≤ B.1 ∧ 8 + (M'.2.2.1 + 11) + lc ≤ B.2.1 ∧ n1 ≤ B.2.2.2.2.1 + B.2.2.1 ∧ k1 ≤ B.2.2.2.2.2.1 + B.2.2.2.1) (hdg : decode M.2.1 pc = .ok (.invokespecial idx, 3)) (kk : Go l G M B (pc + 3) lv (st) n1 k1 w1) : Go l G M B pc lv st0 n k w := go_callI hc ho hct hna hst hcat hroom hdg kk
theorem go_callIN_v {own : String} {idx na fr lc b n1 k1 : Nat} {M' : gM} {as : List Value} {st0 : List Value} {w1 : Nat → va_E} (hc : gc_IN own idx M' na) (ho : M.1.cls = own) (hct : Ct l G M' fr lc (.ref b :: as) n k w (none, n1, k1, w1)) (hna : as.length = na) (hst : st0 = as.reverse ++ .ref b :: st) (hcat : (st.map fun v => v.category).sum ≤ 8) (hroom : fr + 1 ≤ B.1 ∧ 8 + (M'.2.2.1 + 11) + lc ≤ B.2.1 ∧ n1 ≤ B.2.2.2.2.1 + B.2.2.1 ∧ k1 ≤ B.2.2.2.2.2.1 + B.2.2.2.1) (hdg : decode M.2.1 pc = .ok (.invokespecial idx, 3)) (kk : Go l G M B (pc + 3) lv (st) n1 k1 w1) : Go l G M B pc lv st0 n k w := go_callIN hc ho hct hna hst hcat hroom hdg kk
end GO5
theorem Ct.w {l : Launch} {G : gG} {M : gM} {fr lc n k : Nat} {as : List Value} {w w' : Nat → va_E} {r : gR} (h : w = w') (hc : Ct l G M fr lc as n k w' r) : Ct l G M fr lc as n k w r := by subst h; exact hc

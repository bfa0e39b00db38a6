/-! CONTRACTS WITH A SET OF ENDS, and worlds that are memories: 'Cq': from this world the method ends in one of Q's ends; no cell is made -/
abbrev gMem : Type := Nat → Nat → Int32
abbrev gE : Type := Option Value → (Nat → va_E) → Prop
def mr (c : gMem) (i : Nat) (f : Nat → Int32) : gMem := fun a => if a = i then f else c a
def mp (c : gMem) (i j : Nat) (v : Int32) : gMem := mr c i (upd (c i) j v)
def ga_QQ (G : gG) (n k : Nat) (Q : gE) : Array Value → State → Outcome → State → Prop := fun a st o t => ∃ v w', Q v w' ∧ ga_Q G (v, n, k, w') a st o t
def Cq (l : Launch) (G : gG) (M : gM) (fr lc : Nat) (as : List Value) (n k : Nat) (w : Nat → va_E) (Q : gE) : Prop :=
  Met l M.1 (ga_ws M) { frames := fr, cells := n - n, slots := k - k, locals := lc } (ga_P G as n w) (ga_QQ G n k Q) (n - n) (k - k) (fun q => G.2.1 ≤ q)
def gqq (G : gG) (n k : Nat) (Q : gE) : gQ := fun below args s => MQ below (ga_QQ G n k Q) args s (n - n) (k - k) (fun q => G.2.1 ≤ q)
abbrev gbq (G : gG) (fr lc n k : Nat) (Q : gE) : gB := (fr, lc, n - n, k - k, n, k, gqq G n k Q)
theorem Cq.of {l : Launch} {G : gG} {M : gM} {fr lc n k : Nat} {as : List Value} {w : Nat → va_E} {Q : gE} (hpl : plainName M.1.cls = true) (hlen : (lg_sl as).length ≤ M.2.2.1) (h : Go l G M (gbq G fr lc n k Q) 0 (lv_args 0 as) [] n k w) : Cq l G M fr lc as n k w Q := by
  refine Met.ofW (cc := M.2.1) (maxL := M.2.2.1) (ret := M.2.2.2) (ws' := gw_all) hpl rfl ?_
  intro p e s m args below meth c s₁ Bd hml hv
  obtain ⟨rfl, hE, hW⟩ := hv
  have hl := lv_entry as (n := M.2.2.1) hlen
  rw [lg_entry_eq]
  generalize (lg_sl as ++ List.replicate (M.2.2.1 - (lg_sl as).length) Slot.unset).toArray = ls at hl ⊢
  have hts := atoms_spec (ws := ga_ws M) Bd.pre
  have := h p e { frames := fr, cells := n - n, slots := k - k, locals := lc } s m _ below meth c s.heap [] ls ⟨Bd.exec, Bd.bytes, hml, Bd.returns, Bd.notSynchronized, findClass_of_methodNamed Bd.named, (name_of_methodNamed Bd.named Bd.method).1, fun x hx => hts x (List.mem_cons_of_mem _ hx), hE, Nat.le_refl fr, Nat.le_refl lc, Nat.le_refl _, Nat.le_refl _, hW.1⟩ ⟨Nat.le_refl _, Nat.le_refl _, hW, va_S.rf, hl⟩
  simp only [gqq, Nat.sub_self] at this ⊢
  exact this
/-- of a contract with one end -/
theorem Cq.ct {l : Launch} {G : gG} {M : gM} {fr lc n k : Nat} {as : List Value} {w w' : Nat → va_E} {v : Option Value} {Q : gE} (h : Ct l G M fr lc as n k w (v, n, k, w')) (hq : Q v w') : Cq l G M fr lc as n k w Q := by
  intro p e h1 h2 h3 s m args below h4 h5 h6 h7
  obtain ⟨nn, o, a1, a2, a3, a4, L, a5, a6⟩ := h.2 p e h1 h2 h3 s m args below h4 h5 h6 h7
  exact ⟨nn, o, a1, a2, a3, ⟨v, w', hq, a4⟩, L, a5, a6⟩
section GQ
variable {l : Launch} {G : gG} {M : gM} {B : gB} {pc : Nat} {lv lv' : List (Nat × Value)} {st : List Value} {n k : Nat} {w : Nat → va_E}
theorem gq_after {Q : gE} {as : Array Value} (kk : ∀ v w', Q v w' → Go l G M B (pc + 3) lv (v.toList ++ st) n k w') {p : Program} {e : Env} {R : Room} {s : State} {m : MethodId} {args : Array Value} {below : List Frame} {meth : Method} {c : Code} {H : Heap} {locs : List Loc} {ls : Array Slot} {st0 : List Value} (X : gX G M B p R s m args meth c) (Y : gY G M B lv n k w s H locs ls)
    (run : va_Run p l e R s m args below meth c H locs (n - B.2.2.2.2.1) (k - B.2.2.2.2.2.1) (n - n) (k - k) (F0 m pc ls st0) st (ga_QQ G n k Q as) (fun q => G.2.1 ≤ q)) : W p l e R s m args below meth c H locs (n - B.2.2.2.2.1) (k - B.2.2.2.2.2.1) (B.2.2.2.2.2.2 below args s) (F0 m pc ls st0) := by
  intro T hT XS
  obtain ⟨v, st₀, t, T', L, h0, X', hL, e1, e2, ⟨v', w', hq, hv, hw, hold⟩, go⟩ := run T hT XS
  cases hv
  obtain ⟨y1, y2, ⟨ysz, yP⟩, yS, yL⟩ := Y
  have hs := X.2.2.2.2.2.2.2.2.2.2.2.2.2
  have hS' : va_S (fun q => G.2.1 ≤ q) s.heap T'.heap (locs ++ L) := by
    refine ⟨?_, fun q g1 g2 => ?_, fun q hq => ?_⟩
    · rw [e1, hw.1, hs]; show G.2.1 + B.2.2.2.2.1 ≤ G.2.1 + n; omega
    · rw [e1, hold q (Nat.not_le.mp g2), h0]
      exact yS.2.1 q g1 g2
    · rcases List.mem_append.mp hq with h | h
      · exact yS.2.2 q h
      · exact hL q h
  have := kk _ _ hq p e R s m args below meth c T'.heap (locs ++ L) ls X ⟨y1, y2, by rw [e1]; exact hw, hS', yL⟩
  rw [show n - B.2.2.2.2.1 = n - B.2.2.2.2.1 + (n - n) by omega, show k - B.2.2.2.2.2.1 = k - B.2.2.2.2.2.1 + (k - k) by omega] at this
  obtain ⟨t2, a1, b1⟩ := this T' rfl X'
  exact ⟨t2, go t2 a1, b1⟩
theorem gq_callV {own : String} {idx na fr lc ci b : Nat} {M' : gM} {as fs : List Value} {st0 : List Value} {Q : gE} (hc : gc_V own idx M' na) (ho : M.1.cls = own) (hct : Cq l G M' fr lc (.ref b :: as) n k w Q) (hna : as.length = na) (hst : st0 = as.reverse ++ .ref b :: st) (hb : G.2.1 ≤ b ∧ b < G.2.1 + n) (hw : w b = ob ci fs) (hcl : (vwCl[ci]?).map (·.1) = some M'.1.cls) (hcat : (st.map fun v => v.category).sum ≤ 8)
    (hroom : fr + 1 ≤ B.1 ∧ 8 + (M'.2.2.1 + 11) + lc ≤ B.2.1 ∧ n ≤ B.2.2.2.2.1 + B.2.2.1 ∧ k ≤ B.2.2.2.2.2.1 + B.2.2.2.1) (hdg : decode M.2.1 pc = .ok (.invokevirtual idx, 3)) (kk : ∀ v w', Q v w' → Go l G M B (pc + 3) lv (v.toList ++ st) n k w') : Go l G M B pc lv st0 n k w := by
  intro p e R s m args below meth c H locs ls X Y
  obtain ⟨h1, h2, h3, h4⟩ := hc
  have hts := X.2.2.2.2.2.2.2.1
  have hR := X.2.2.2.2.2.2.2.2.2
  have y1 := Y.1
  have y2 := Y.2.1
  have hq : ∃ q : vw_C, vwCl[ci]? = some q ∧ q.1 = M'.1.cls := by
    cases hq : vwCl[ci]? with
    | none => rw [hq] at hcl; cases hcl
    | some q => rw [hq] at hcl; exact ⟨q, rfl, Option.some.inj hcl⟩
  obtain ⟨q, hq1, hq2⟩ := hq
  refine gq_after kk X Y (va_runV (own := own) (C := M'.1.cls) (As := as) (rest := st) (b := b) (Ts := gw_all) (n := na) ⟨X.1, X.2.1, X.2.2.1, ho ▸ X.2.2.2.2.2.1, hts⟩ hct (cwV (ws' := gw_all) (bytes := M'.2.1) (maxL := M'.2.2.1) (ret := M'.2.2.2) na hts (gg_good ?_) rfl rfl rfl ⟨rfl, h1.2.2⟩ ⟨by show fr + 1 ≤ R.frames; omega, by show 8 + (M'.2.2.1 + 11) + lc ≤ R.locals; omega⟩) ⟨ga_P.blind G _ n w, hq2 ▸ va_recv X.2.2.2.2.2.2.2.2.1.1 Y.2.2.1.2 hq1 (ga_geta hb.1 hb.2 hw), fun U hU hW => ⟨rfl, X.2.2.2.2.2.2.2.2.1.go hW hU Y.2.2.2.1, hU ▸ Y.2.2.1⟩⟩ rfl hna Y.2.2.2.2.1 hst (by show 2 * 0 + _ ≤ 8; omega) hdg ⟨by omega, by omega⟩)
  intro x hx
  rcases List.mem_append.mp hx with hx | hx
  · simp only [List.mem_cons, List.not_mem_nil, or_false] at hx
    rcases hx with rfl | rfl | rfl | rfl
    · exact h2
    · exact h3
    · exact h4
    · exact h1.2.1
  · exact gc_ws h1 x hx
theorem gq_callS {own : String} {idx na fr lc : Nat} {M' : gM} {as : List Value} {st0 : List Value} {Q : gE} (hc : gc_S own idx M' na) (ho : M.1.cls = own) (hct : Cq l G M' fr lc as n k w Q) (hna : as.length = na) (hst : st0 = as.reverse ++ st) (hcat : (st.map fun v => v.category).sum ≤ 8)
    (hroom : fr + 1 ≤ B.1 ∧ 8 + (M'.2.2.1 + 11) + lc ≤ B.2.1 ∧ n ≤ B.2.2.2.2.1 + B.2.2.1 ∧ k ≤ B.2.2.2.2.2.1 + B.2.2.2.1) (hdg : decode M.2.1 pc = .ok (.invokestatic idx, 3)) (kk : ∀ v w', Q v w' → Go l G M B (pc + 3) lv (v.toList ++ st) n k w') : Go l G M B pc lv st0 n k w := by
  intro p e R s m args below meth c H locs ls X Y
  obtain ⟨h1, h2, h3⟩ := hc
  have hts := X.2.2.2.2.2.2.2.1
  have hR := X.2.2.2.2.2.2.2.2.2
  have y1 := Y.1
  have y2 := Y.2.1
  refine gq_after kk X Y (va_runS (own := own) (As := as) (rest := st) (Ts := gw_all) (n := na) ⟨X.1, X.2.1, X.2.2.1, ho ▸ X.2.2.2.2.2.1, hts⟩ hct (va_cwS (ws' := gw_all) (bytes := M'.2.1) (maxL := M'.2.2.1) (ret := M'.2.2.2) na hts (gg_good ?_) rfl rfl rfl h1.2.2 ⟨by show fr + 1 ≤ R.frames; omega, by show 8 + (M'.2.2.1 + 11) + lc ≤ R.locals; omega⟩) ⟨ga_P.blind G _ n w, fun U hU hW => ⟨rfl, X.2.2.2.2.2.2.2.2.1.go hW hU Y.2.2.2.1, hU ▸ Y.2.2.1⟩⟩ rfl hna Y.2.2.2.2.1 hst (by show 2 * 0 + _ ≤ 8; omega) hdg ⟨by omega, by omega⟩)
  intro x hx
  rcases List.mem_append.mp hx with hx | hx
  · simp only [List.mem_cons, List.not_mem_nil, or_false] at hx
    rcases hx with rfl | rfl | rfl
    · exact h2
    · exact h3
    · exact h1.2.1
  · exact gc_ws h1 x hx
/-- ends of a method that answers an int, or nothing; F: what a memory is to the world -/
def qi (F : gMem → Nat → va_E) (Q : Int32 → gMem → Prop) : gE := fun v w => ∃ r c, v = some (.int r) ∧ w = F c ∧ Q r c
def qv (F : gMem → Nat → va_E) (Q : gMem → Prop) : gE := fun v w => ∃ c, v = none ∧ w = F c ∧ Q c
variable {F : gMem → Nat → va_E} {c : gMem}
theorem gq_iret {fr lc nc ns : Nat} {v : Int32} {Q : Int32 → gMem → Prop} (hr : M.2.2.2 = some .int) (hdg : decode M.2.1 pc = .ok (.ireturn, 1)) (hq : Q v c) : Go l G M (fr, lc, nc, ns, n, k, gqq G n k (qi F Q)) pc lv [.int v] n k (F c) :=
  fun p e R s m args below meth cc H locs ls X Y => W.iret X.1 X.2.1 (X.2.2.2.1.trans hr) (fun t ht _ => ⟨_, _, ⟨v, c, rfl, rfl, hq⟩, go_Q args Y X.2.2.2.2.2.2.2.2.2.2.2.2.2 ht⟩) Y.2.2.2.1.2.2 hdg X.2.2.2.2.1
theorem gq_zret {fr lc nc ns : Nat} {v : Int32} {Q : Int32 → gMem → Prop} (hr : M.2.2.2 = some .boolean) (hv : v = 0 ∨ v = 1) (hdg : decode M.2.1 pc = .ok (.ireturn, 1)) (hq : Q v c) : Go l G M (fr, lc, nc, ns, n, k, gqq G n k (qi F Q)) pc lv [.int v] n k (F c) :=
  fun p e R s m args below meth cc H locs ls X Y => W.zret X.1 X.2.1 (X.2.2.2.1.trans hr) (by rcases hv with rfl | rfl <;> rfl) (fun t ht _ => ⟨_, _, ⟨v, c, rfl, rfl, hq⟩, go_Q args Y X.2.2.2.2.2.2.2.2.2.2.2.2.2 ht⟩) Y.2.2.2.1.2.2 hdg X.2.2.2.2.1
theorem gq_vret {fr lc nc ns : Nat} {Q : gMem → Prop} (hr : M.2.2.2 = none) (hdg : decode M.2.1 pc = .ok (.return_, 1)) (hq : Q c) : Go l G M (fr, lc, nc, ns, n, k, gqq G n k (qv F Q)) pc lv [] n k (F c) :=
  fun p e R s m args below meth cc H locs ls X Y => W.vret X.1 X.2.1 (X.2.2.2.1.trans hr) (fun t ht _ => ⟨_, _, ⟨c, rfl, rfl, hq⟩, go_Q args Y X.2.2.2.2.2.2.2.2.2.2.2.2.2 ht⟩) Y.2.2.2.1.2.2 hdg X.2.2.2.2.1
theorem gq_callV_i {own : String} {idx na fr lc ci b : Nat} {M' : gM} {as fs : List Value} {st0 : List Value} {Q : Int32 → gMem → Prop} (hc : gc_V own idx M' na) (ho : M.1.cls = own) (hct : Cq l G M' fr lc (.ref b :: as) n k (F c) (qi F Q)) (hna : as.length = na) (hst : st0 = as.reverse ++ .ref b :: st) (hb : G.2.1 ≤ b ∧ b < G.2.1 + n) (hw : F c b = ob ci fs) (hcl : (vwCl[ci]?).map (·.1) = some M'.1.cls) (hcat : (st.map fun v => v.category).sum ≤ 8)
    (hroom : fr + 1 ≤ B.1 ∧ 8 + (M'.2.2.1 + 11) + lc ≤ B.2.1 ∧ n ≤ B.2.2.2.2.1 + B.2.2.1 ∧ k ≤ B.2.2.2.2.2.1 + B.2.2.2.1) (hdg : decode M.2.1 pc = .ok (.invokevirtual idx, 3)) (kk : ∀ r c1, Q r c1 → Go l G M B (pc + 3) lv (.int r :: st) n k (F c1)) : Go l G M B pc lv st0 n k (F c) :=
  gq_callV hc ho hct hna hst hb hw hcl hcat hroom hdg (fun v w' hq => by obtain ⟨r, c1, rfl, rfl, h⟩ := hq; exact kk r c1 h)
theorem gq_callV_v {own : String} {idx na fr lc ci b : Nat} {M' : gM} {as fs : List Value} {st0 : List Value} {Q : gMem → Prop} (hc : gc_V own idx M' na) (ho : M.1.cls = own) (hct : Cq l G M' fr lc (.ref b :: as) n k (F c) (qv F Q)) (hna : as.length = na) (hst : st0 = as.reverse ++ .ref b :: st) (hb : G.2.1 ≤ b ∧ b < G.2.1 + n) (hw : F c b = ob ci fs) (hcl : (vwCl[ci]?).map (·.1) = some M'.1.cls) (hcat : (st.map fun v => v.category).sum ≤ 8)
    (hroom : fr + 1 ≤ B.1 ∧ 8 + (M'.2.2.1 + 11) + lc ≤ B.2.1 ∧ n ≤ B.2.2.2.2.1 + B.2.2.1 ∧ k ≤ B.2.2.2.2.2.1 + B.2.2.2.1) (hdg : decode M.2.1 pc = .ok (.invokevirtual idx, 3)) (kk : ∀ c1, Q c1 → Go l G M B (pc + 3) lv st n k (F c1)) : Go l G M B pc lv st0 n k (F c) :=
  gq_callV hc ho hct hna hst hb hw hcl hcat hroom hdg (fun v w' hq => by obtain ⟨c1, rfl, rfl, h⟩ := hq; exact kk c1 h)
theorem gq_callS_i {own : String} {idx na fr lc : Nat} {M' : gM} {as : List Value} {st0 : List Value} {Q : Int32 → gMem → Prop} (hc : gc_S own idx M' na) (ho : M.1.cls = own) (hct : Cq l G M' fr lc as n k (F c) (qi F Q)) (hna : as.length = na) (hst : st0 = as.reverse ++ st) (hcat : (st.map fun v => v.category).sum ≤ 8)
    (hroom : fr + 1 ≤ B.1 ∧ 8 + (M'.2.2.1 + 11) + lc ≤ B.2.1 ∧ n ≤ B.2.2.2.2.1 + B.2.2.1 ∧ k ≤ B.2.2.2.2.2.1 + B.2.2.2.1) (hdg : decode M.2.1 pc = .ok (.invokestatic idx, 3)) (kk : ∀ r c1, Q r c1 → Go l G M B (pc + 3) lv (.int r :: st) n k (F c1)) : Go l G M B pc lv st0 n k (F c) :=
  gq_callS hc ho hct hna hst hcat hroom hdg (fun v w' hq => by obtain ⟨r, c1, rfl, rfl, h⟩ := hq; exact kk r c1 h)
theorem gq_callS_v {own : String} {idx na fr lc : Nat} {M' : gM} {as : List Value} {st0 : List Value} {Q : gMem → Prop} (hc : gc_S own idx M' na) (ho : M.1.cls = own) (hct : Cq l G M' fr lc as n k (F c) (qv F Q)) (hna : as.length = na) (hst : st0 = as.reverse ++ st) (hcat : (st.map fun v => v.category).sum ≤ 8)
    (hroom : fr + 1 ≤ B.1 ∧ 8 + (M'.2.2.1 + 11) + lc ≤ B.2.1 ∧ n ≤ B.2.2.2.2.1 + B.2.2.1 ∧ k ≤ B.2.2.2.2.2.1 + B.2.2.2.1) (hdg : decode M.2.1 pc = .ok (.invokestatic idx, 3)) (kk : ∀ c1, Q c1 → Go l G M B (pc + 3) lv st n k (F c1)) : Go l G M B pc lv st0 n k (F c) :=
  gq_callS hc ho hct hna hst hcat hroom hdg (fun v w' hq => by obtain ⟨c1, rfl, rfl, h⟩ := hq; exact kk c1 h)
/-! rows that give a value, or a memory, a name -/
theorem gb_get {own : String} {idx ci i a : Nat} {ty : FieldType} {fin : Bool} {fs : List Value} {x : Int32} (hf : gf_F own idx ci i ty fin) (ho : M.1.cls = own) (ha : G.2.1 ≤ a ∧ a < G.2.1 + n) (hw : w a = ob ci fs) (hv : fs[i]? = some (.int x)) (hdg : decode M.2.1 pc = .ok (.getfield idx, 3)) (kk : ∀ v, v = x → Go l G M B (pc + 3) lv (.int v :: st) n k w) : Go l G M B pc lv (.ref a :: st) n k w :=
  go_get hf ho ha hw hv hdg (kk x rfl)
theorem gb_iald {a N : Nat} {f : Nat → Int32} {i : Int32} (ha : G.2.1 ≤ a ∧ a < G.2.1 + n) (hw : w a = ai G N f) (hin : vp_in i N) (hdg : decode M.2.1 pc = .ok (.iaload, 1)) (kk : ∀ v, v = f i.toNatClampNeg → Go l G M B (pc + 1) lv (.int v :: st) n k w) : Go l G M B pc lv (.int i :: .ref a :: st) n k w :=
  go_iald ha hw hin hdg (kk _ rfl)
theorem gb_zald {a N : Nat} {f : Nat → Int32} {i : Int32} (ha : G.2.1 ≤ a ∧ a < G.2.1 + n) (hw : w a = az G N f) (hin : vp_in i N) (hdg : decode M.2.1 pc = .ok (.baload, 1)) (kk : ∀ v, v = f i.toNatClampNeg → Go l G M B (pc + 1) lv (.int v :: st) n k w) : Go l G M B pc lv (.int i :: .ref a :: st) n k w :=
  go_zald ha hw hin hdg (kk _ rfl)
theorem gb_tald {i : Nat} {j : Int32} (hi : i < 8) (hin : vp_in j (gs_n i).2.1) (hdg : decode M.2.1 pc = .ok (.iaload, 1)) (kk : ∀ v, v = (gs_n i).2.2.getD j.toNatClampNeg 0 → Go l G M B (pc + 1) lv (.int v :: st) n k w) : Go l G M B pc lv (.int j :: .ref (G.2.2.2.2.1 i) :: st) n k w :=
  go_tald hi hin hdg (kk _ rfl)
theorem gb_put {own : String} {idx ci i a : Nat} {ty : FieldType} {fs : List Value} {v : Value} {c' : gMem} (hf : gf_F own idx ci i ty false) (ho : M.1.cls = own) (ha : G.2.1 ≤ a ∧ a < G.2.1 + n) (hw : F c a = ob ci fs) (hl : i < fs.length) (hn : narrow ty v = v) (hfit : fits ty v = true) (hu : va_up (F c) a (ob ci (fs.set i v)) = F c') (hdg : decode M.2.1 pc = .ok (.putfield idx, 3)) (kk : ∀ c1, c1 = c' → Go l G M B (pc + 3) lv st n k (F c1)) : Go l G M B pc lv (v :: .ref a :: st) n k (F c) :=
  go_put hf ho ha hw hl hn hfit hdg (by rw [hu]; exact kk c' rfl)
theorem gb_iast {a N : Nat} {f : Nat → Int32} {i x : Int32} {c' : gMem} (ha : G.2.1 ≤ a ∧ a < G.2.1 + n) (hw : F c a = ai G N f) (hin : vp_in i N) (hu : va_up (F c) a (ai G N (upd f i.toNatClampNeg x)) = F c') (hdg : decode M.2.1 pc = .ok (.iastore, 1)) (kk : ∀ c1, c1 = c' → Go l G M B (pc + 1) lv st n k (F c1)) : Go l G M B pc lv (.int x :: .int i :: .ref a :: st) n k (F c) :=
  go_iast ha hw hin hdg (by rw [hu]; exact kk c' rfl)
theorem gb_zast {a N : Nat} {f : Nat → Int32} {i x y : Int32} {c' : gMem} (ha : G.2.1 ≤ a ∧ a < G.2.1 + n) (hw : F c a = az G N f) (hin : vp_in i N) (hx : vp_nar .boolean x = y) (hu : va_up (F c) a (az G N (upd f i.toNatClampNeg y)) = F c') (hdg : decode M.2.1 pc = .ok (.bastore, 1)) (kk : ∀ c1, c1 = c' → Go l G M B (pc + 1) lv st n k (F c1)) : Go l G M B pc lv (.int x :: .int i :: .ref a :: st) n k (F c) :=
  go_zast ha hw hin hdg (by rw [hx, hu]; exact kk c' rfl)
theorem gb_copy {own : String} {idx a0 a1 n0 n1 : Nat} {f g : Nat → Int32} {sp dp m0 : Int32} {c' : gMem} (ho : M.1.cls = own) (hl : Cond.methodLink own idx arraycopyName ∈ gw_all) (ha0 : G.2.1 ≤ a0 ∧ a0 < G.2.1 + n) (hw0 : F c a0 = ai G n0 f) (ha1 : G.2.1 ≤ a1 ∧ a1 < G.2.1 + n) (hw1 : F c a1 = ai G n1 g)
    (h : ¬ sp < 0 ∧ ¬ dp < 0 ∧ ¬ m0 < 0 ∧ sp.toNatClampNeg + m0.toNatClampNeg ≤ n0 ∧ dp.toNatClampNeg + m0.toNatClampNeg ≤ n1) (hfr : 1 ≤ B.1) (hlo : (st.map fun v => v.category).sum + (nativeFrameWords "java/lang/System" "arraycopy" 5 + 11) ≤ B.2.1) (hu : va_up (F c) a1 (ai G n1 (va_cpy f g sp.toNatClampNeg dp.toNatClampNeg m0.toNatClampNeg)) = F c') (hdg : decode M.2.1 pc = .ok (.invokestatic idx, 3))
    (kk : ∀ c1, c1 = c' → Go l G M B (pc + 3) lv st n k (F c1)) : Go l G M B pc lv (.int m0 :: .int dp :: .ref a1 :: .int sp :: .ref a0 :: st) n k (F c) :=
  go_copy ho hl g_cn g_cs g_ci ha0 hw0 ha1 hw1 h.1 h.2.1 h.2.2.1 h.2.2.2.1 h.2.2.2.2 hfr hlo hdg (by rw [hu]; exact kk c' rfl)
theorem cq_fill {a N : Nat} {f : Nat → Int32} {x : Int32} {c' : gMem} {Q : gMem → Prop} (hN : N < 2 ^ 31) (ha : G.2.1 ≤ a ∧ a < G.2.1 + n) (hw : F c a = ai G N f) (hu : va_up (F c) a (ai G N (fun _ => x)) = F c') (h : Q c') : Cq l G mJ7_fill_53178 0 0 [.ref a, .int x] n k (F c) (qv F Q) :=
  Cq.ct (ct_fill x hN ha hw) ⟨c', rfl, hu, h⟩
theorem cq_fillr {a N : Nat} {f : Nat → Int32} {x y z : Int32} {c' : gMem} {Q : gMem → Prop} {fr to : Nat} (hN : N < 2 ^ 31) (hy : y = nI fr) (hz : z = nI to) (hf : fr ≤ to) (hto : to ≤ N) (ha : G.2.1 ≤ a ∧ a < G.2.1 + n) (hw : F c a = ai G N f) (hu : va_up (F c) a (ai G N (fun j => if fr ≤ j ∧ j < to then x else f j)) = F c') (h : Q c') : Cq l G mJ7_fill_fda19 1 22 [.ref a, .int y, .int z, .int x] n k (F c) (qv F Q) := by
  subst hy; subst hz
  exact Cq.ct (ct_fillr x hf hto hN ha hw) ⟨c', rfl, hu, h⟩
theorem gb_ref {a b : Nat} (h : a = b) (kk : Go l G M B pc lv (.ref b :: st) n k w) : Go l G M B pc lv (.ref a :: st) n k w := by subst h; exact kk
theorem gb_iushr {x y : Int32} (hdg : decode M.2.1 pc = .ok (.iushr, 1)) (kk : Go l G M B (pc + 1) lv (.int (x.toUInt32 >>> (y.toUInt32 &&& Int32.toUInt32 31)).toInt32 :: st) n k w) : Go l G M B pc lv (.int y :: .int x :: st) n k w := go_iushr hdg rfl kk
end GQ
theorem gt_sw {x : Int32} {lo hi : Int} (h : ¬ (x.toInt < lo ∨ hi < x.toInt)) : ¬ x.toInt < lo ∧ ¬ hi < x.toInt := ⟨fun q => h (Or.inl q), fun q => h (Or.inr q)⟩
theorem gt_eq {x : Int32} {v : Int} (h : x.toInt = v) (y : Int32) (hy : y.toInt = v) : x = y := Int32.toInt_inj.mp (h.trans hy.symm)
theorem gsw_none {x : Int32} (h0 : ¬ x = 0) (h4 : ¬ x = 4) (h5 : ¬ x = 5) : Op.lookupswitch.offset (#[(0, 35), (4, 46), (5, 35)] : Array (Int × Int)).toList 56 x.toInt = 56 := by
  show (if (0 : Int) = x.toInt then (35 : Int) else if (4 : Int) = x.toInt then 46 else if (5 : Int) = x.toInt then 35 else 56) = 56
  rw [if_neg (fun e => h0 (gt_eq e.symm 0 (by decide))), if_neg (fun e => h4 (gt_eq e.symm 4 (by decide))), if_neg (fun e => h5 (gt_eq e.symm 5 (by decide)))]

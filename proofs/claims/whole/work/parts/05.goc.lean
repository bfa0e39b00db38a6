/-! calls and ends -/
theorem gg_good {ws : List Cond} (h : ∀ w ∈ ws, w ∈ gw_all) : GoodIn gw_all ws := fun w hw => ⟨h w hw, gw_good (h w hw)⟩
def gc_B (M : gM) (na : Nat) : Prop := Cond.code M.1 M.2.1 M.2.2.1 M.2.2.2 ∈ gw_all ∧ Cond.initialized M.1.cls ∈ gw_all ∧ M.1.cls ≠ "java/lang/invoke/MethodHandle" ∧ M.1.cls ≠ "java/lang/invoke/VarHandle" ∧ (parseMethodDescriptor M.1.desc).map (fun d => d.parameters.length) = some na
def gc_V (own : String) (idx : Nat) (M : gM) (na : Nat) : Prop := gc_B M na ∧ Cond.methodLink own idx M.1 ∈ gw_all ∧ Cond.instanceMethod M.1 ∈ gw_all ∧ Cond.selects M.1.cls M.1 M.1 ∈ gw_all
def gc_S (own : String) (idx : Nat) (M : gM) (na : Nat) : Prop := gc_B M na ∧ Cond.methodLink own idx M.1 ∈ gw_all ∧ Cond.static M.1 ∈ gw_all
def gc_I (own : String) (idx : Nat) (M : gM) (na : Nat) : Prop := gc_B M na ∧ Cond.methodLink own idx M.1 ∈ gw_all ∧ Cond.instanceMethod M.1 ∈ gw_all ∧ M.1.name = "<init>" ∧ M.2.2.2 = none
def gc_IN (own : String) (idx : Nat) (M : gM) (na : Nat) : Prop := gc_B M na ∧ (∃ host, Cond.methodLinkNest own idx M.1 host ∈ gn_all) ∧ Cond.instanceMethod M.1 ∈ gw_all ∧ M.1.name = "<init>" ∧ M.2.2.2 = none
theorem gc_ws {M : gM} {na : Nat} (h : gc_B M na) : ∀ w ∈ ga_ws M, w ∈ gw_all := fun w hw => (List.mem_cons.mp hw).elim (fun e => e ▸ h.1) id
theorem ga_P.blind (G : gG) (as : List Value) (n : Nat) (w : Nat → va_E) : FrameBlind (ga_P G as n w) := fun _ _ _ _ h => ⟨h.1, h.2.1.blind, h.2.2⟩
section GO4
variable {l : Launch} {G : gG} {M : gM} {B : gB} {pc : Nat} {lv lv' : List (Nat × Value)} {st : List Value} {n k : Nat} {w : Nat → va_E}
theorem go_after {r : gR} {as : Array Value} (hn : n ≤ r.2.1 ∧ k ≤ r.2.2.1) (kk : Go l G M B (pc + 3) lv (r.1.toList ++ st) r.2.1 r.2.2.1 r.2.2.2) {p : Program} {e : Env} {R : Room} {s : State} {m : MethodId} {args : Array Value} {below : List Frame} {meth : Method} {c : Code} {H : Heap} {locs : List Loc} {ls : Array Slot} {st0 : List Value} (X : gX G M B p R s m args meth c) (Y : gY G M B lv n k w s H locs ls)
    (run : va_Run p l e R s m args below meth c H locs (n - B.2.2.2.2.1) (k - B.2.2.2.2.2.1) (r.2.1 - n) (r.2.2.1 - k) (F0 m pc ls st0) st (ga_Q G r as) (fun q => G.2.1 ≤ q)) : W p l e R s m args below meth c H locs (n - B.2.2.2.2.1) (k - B.2.2.2.2.2.1) (B.2.2.2.2.2.2 below args s) (F0 m pc ls st0) := by
  intro T hT XS
  obtain ⟨v, st₀, t, T', L, h0, X', hL, e1, e2, ⟨hv, hw, hold⟩, go⟩ := run T hT XS
  cases hv
  obtain ⟨y1, y2, ⟨ysz, yP⟩, yS, yL⟩ := Y
  have hs := X.2.2.2.2.2.2.2.2.2.2.2.2.2
  have hS' : va_S (fun q => G.2.1 ≤ q) s.heap T'.heap (locs ++ L) := by
    refine ⟨?_, fun q g1 g2 => ?_, fun q hq => ?_⟩
    · rw [e1, hw.1, hs]; omega
    · rw [e1, hold q (Nat.not_le.mp g2), h0]
      exact yS.2.1 q g1 g2
    · rcases List.mem_append.mp hq with h | h
      · exact yS.2.2 q h
      · exact hL q h
  have := kk p e R s m args below meth c T'.heap (locs ++ L) ls X ⟨by omega, by omega, by rw [e1]; exact hw, hS', yL⟩
  rw [show r.2.1 - B.2.2.2.2.1 = n - B.2.2.2.2.1 + (r.2.1 - n) by omega, show r.2.2.1 - B.2.2.2.2.2.1 = k - B.2.2.2.2.2.1 + (r.2.2.1 - k) by omega] at this
  obtain ⟨t2, a1, b1⟩ := this T' rfl X'
  exact ⟨t2, go t2 a1, b1⟩
theorem go_callV {own : String} {idx na fr lc ci b : Nat} {M' : gM} {as fs : List Value} {st0 : List Value} {r : gR} (hc : gc_V own idx M' na) (ho : M.1.cls = own) (hct : Ct l G M' fr lc (.ref b :: as) n k w r) (hna : as.length = na) (hst : st0 = as.reverse ++ .ref b :: st) (hb : G.2.1 ≤ b ∧ b < G.2.1 + n) (hw : w b = ob ci fs) (hcl : (vwCl[ci]?).map (·.1) = some M'.1.cls) (hcat : (st.map fun v => v.category).sum ≤ 8)
    (hroom : fr + 1 ≤ B.1 ∧ 8 + (M'.2.2.1 + 11) + lc ≤ B.2.1 ∧ r.2.1 ≤ B.2.2.2.2.1 + B.2.2.1 ∧ r.2.2.1 ≤ B.2.2.2.2.2.1 + B.2.2.2.1) (hdg : decode M.2.1 pc = .ok (.invokevirtual idx, 3)) (kk : Go l G M B (pc + 3) lv (r.1.toList ++ st) r.2.1 r.2.2.1 r.2.2.2) : Go l G M B pc lv st0 n k w := by
  intro p e R s m args below meth c H locs ls X Y
  obtain ⟨h1, h2, h3, h4⟩ := hc
  have hts := X.2.2.2.2.2.2.2.1
  have hR := X.2.2.2.2.2.2.2.2.2
  have y1 := Y.1
  have y2 := Y.2.1
  have hn1 := hct.1.1
  have hn2 := hct.1.2
  have hq : ∃ q : vw_C, vwCl[ci]? = some q ∧ q.1 = M'.1.cls := by
    cases hq : vwCl[ci]? with
    | none => rw [hq] at hcl; cases hcl
    | some q => rw [hq] at hcl; exact ⟨q, rfl, Option.some.inj hcl⟩
  obtain ⟨q, hq1, hq2⟩ := hq
  refine go_after hct.1 kk X Y (va_runV (own := own) (C := M'.1.cls) (As := as) (rest := st) (b := b) (Ts := gw_all) (n := na) ⟨X.1, X.2.1, X.2.2.1, ho ▸ X.2.2.2.2.2.1, hts⟩ hct.2 (cwV (ws' := gw_all) (bytes := M'.2.1) (maxL := M'.2.2.1) (ret := M'.2.2.2) na hts (gg_good ?_) rfl rfl rfl ⟨rfl, h1.2.2⟩ ⟨by show fr + 1 ≤ R.frames; omega, by show 8 + (M'.2.2.1 + 11) + lc ≤ R.locals; omega⟩) ⟨ga_P.blind G _ n w, hq2 ▸ va_recv X.2.2.2.2.2.2.2.2.1.1 Y.2.2.1.2 hq1 (ga_geta hb.1 hb.2 hw), fun U hU hW => ⟨rfl, X.2.2.2.2.2.2.2.2.1.go hW hU Y.2.2.2.1, hU ▸ Y.2.2.1⟩⟩ rfl hna Y.2.2.2.2.1 hst (by show 2 * 0 + _ ≤ 8; omega) hdg ⟨by omega, by omega⟩)
  intro x hx
  rcases List.mem_append.mp hx with hx | hx
  · simp only [List.mem_cons, List.not_mem_nil, or_false] at hx
    rcases hx with rfl | rfl | rfl | rfl
    · exact h2
    · exact h3
    · exact h4
    · exact h1.2.1
  · exact gc_ws h1 x hx
theorem go_callS {own : String} {idx na fr lc : Nat} {M' : gM} {as : List Value} {st0 : List Value} {r : gR} (hc : gc_S own idx M' na) (ho : M.1.cls = own) (hct : Ct l G M' fr lc as n k w r) (hna : as.length = na) (hst : st0 = as.reverse ++ st) (hcat : (st.map fun v => v.category).sum ≤ 8)
    (hroom : fr + 1 ≤ B.1 ∧ 8 + (M'.2.2.1 + 11) + lc ≤ B.2.1 ∧ r.2.1 ≤ B.2.2.2.2.1 + B.2.2.1 ∧ r.2.2.1 ≤ B.2.2.2.2.2.1 + B.2.2.2.1) (hdg : decode M.2.1 pc = .ok (.invokestatic idx, 3)) (kk : Go l G M B (pc + 3) lv (r.1.toList ++ st) r.2.1 r.2.2.1 r.2.2.2) : Go l G M B pc lv st0 n k w := by
  intro p e R s m args below meth c H locs ls X Y
  obtain ⟨h1, h2, h3⟩ := hc
  have hts := X.2.2.2.2.2.2.2.1
  have hR := X.2.2.2.2.2.2.2.2.2
  have y1 := Y.1
  have y2 := Y.2.1
  have hn1 := hct.1.1
  have hn2 := hct.1.2
  refine go_after hct.1 kk X Y (va_runS (own := own) (As := as) (rest := st) (Ts := gw_all) (n := na) ⟨X.1, X.2.1, X.2.2.1, ho ▸ X.2.2.2.2.2.1, hts⟩ hct.2 (va_cwS (ws' := gw_all) (bytes := M'.2.1) (maxL := M'.2.2.1) (ret := M'.2.2.2) na hts (gg_good ?_) rfl rfl rfl h1.2.2 ⟨by show fr + 1 ≤ R.frames; omega, by show 8 + (M'.2.2.1 + 11) + lc ≤ R.locals; omega⟩) ⟨ga_P.blind G _ n w, fun U hU hW => ⟨rfl, X.2.2.2.2.2.2.2.2.1.go hW hU Y.2.2.2.1, hU ▸ Y.2.2.1⟩⟩ rfl hna Y.2.2.2.2.1 hst (by show 2 * 0 + _ ≤ 8; omega) hdg ⟨by omega, by omega⟩)
  intro x hx
  rcases List.mem_append.mp hx with hx | hx
  · simp only [List.mem_cons, List.not_mem_nil, or_false] at hx
    rcases hx with rfl | rfl | rfl
    · exact h2
    · exact h3
    · exact h1.2.1
  · exact gc_ws h1 x hx
theorem go_callI {own : String} {idx na fr lc b : Nat} {M' : gM} {as : List Value} {st0 : List Value} {r : gR} (hc : gc_I own idx M' na) (ho : M.1.cls = own) (hct : Ct l G M' fr lc (.ref b :: as) n k w r) (hna : as.length = na) (hst : st0 = as.reverse ++ .ref b :: st) (hcat : (st.map fun v => v.category).sum ≤ 8)
    (hroom : fr + 1 ≤ B.1 ∧ 8 + (M'.2.2.1 + 11) + lc ≤ B.2.1 ∧ r.2.1 ≤ B.2.2.2.2.1 + B.2.2.1 ∧ r.2.2.1 ≤ B.2.2.2.2.2.1 + B.2.2.2.1) (hdg : decode M.2.1 pc = .ok (.invokespecial idx, 3)) (kk : Go l G M B (pc + 3) lv (r.1.toList ++ st) r.2.1 r.2.2.1 r.2.2.2) : Go l G M B pc lv st0 n k w := by
  intro p e R s m args below meth c H locs ls X Y
  obtain ⟨h1, h2, h3, h4, h5⟩ := hc
  have hts := X.2.2.2.2.2.2.2.1
  have hR := X.2.2.2.2.2.2.2.2.2
  have y1 := Y.1
  have y2 := Y.2.1
  have hn1 := hct.1.1
  have hn2 := hct.1.2
  exact go_after hct.1 kk X Y (va_runI (own := own) (As := as) (rest := st) (b := b) (Ts := gw_all) (n := na) ⟨X.1, X.2.1, X.2.2.1, ho ▸ X.2.2.2.2.2.1, hts⟩ hct.2 (cwI (ws' := gw_all) (bytes := M'.2.1) (maxL := M'.2.2.1) na hts (gg_good (gc_ws h1)) (by rw [← h5]; rfl) rfl rfl (hts _ h1.2.1) (hts _ h2) (hts _ h3) h4 h1.2.2 ⟨by show fr + 1 ≤ R.frames; omega, by show 8 + (M'.2.2.1 + 11) + lc ≤ R.locals; omega⟩) ⟨ga_P.blind G _ n w, fun U hU hW => ⟨rfl, X.2.2.2.2.2.2.2.2.1.go hW hU Y.2.2.2.1, hU ▸ Y.2.2.1⟩⟩ rfl hna Y.2.2.2.2.1 hst (by show 2 * 0 + _ ≤ 8; omega) hdg ⟨by omega, by omega⟩)
theorem go_callIN {own : String} {idx na fr lc b : Nat} {M' : gM} {as : List Value} {st0 : List Value} {r : gR} (hc : gc_IN own idx M' na) (ho : M.1.cls = own) (hct : Ct l G M' fr lc (.ref b :: as) n k w r) (hna : as.length = na) (hst : st0 = as.reverse ++ .ref b :: st) (hcat : (st.map fun v => v.category).sum ≤ 8)
    (hroom : fr + 1 ≤ B.1 ∧ 8 + (M'.2.2.1 + 11) + lc ≤ B.2.1 ∧ r.2.1 ≤ B.2.2.2.2.1 + B.2.2.1 ∧ r.2.2.1 ≤ B.2.2.2.2.2.1 + B.2.2.2.1) (hdg : decode M.2.1 pc = .ok (.invokespecial idx, 3)) (kk : Go l G M B (pc + 3) lv (r.1.toList ++ st) r.2.1 r.2.2.1 r.2.2.2) : Go l G M B pc lv st0 n k w := by
  intro p e R s m args below meth c H locs ls X Y
  obtain ⟨h1, ⟨host, h2⟩, h3, h4, h5⟩ := hc
  have hts := X.2.2.2.2.2.2.2.1
  have hR := X.2.2.2.2.2.2.2.2.2
  have y1 := Y.1
  have y2 := Y.2.1
  have hn1 := hct.1.1
  have hn2 := hct.1.2
  exact go_after hct.1 kk X Y (va_runIN (own := own) (host := host) (As := as) (rest := st) (b := b) (Ts := gw_all) (n := na) ⟨X.1, X.2.1, X.2.2.1, ho ▸ X.2.2.2.2.2.1, hts⟩ hct.2 ⟨va_cnB (ws' := gw_all) (bytes := M'.2.1) (maxL := M'.2.2.1) na hts (gg_good (gc_ws h1)) (by rw [← h5]; rfl) rfl rfl (X.2.2.2.2.2.2.2.2.1.2.1 _ h2) (hts _ h1.2.1) h1.2.2 ⟨by show fr + 1 ≤ R.frames; omega, by show 8 + (M'.2.2.1 + 11) + lc ≤ R.locals; omega⟩, h4, hts _ h3⟩ ⟨ga_P.blind G _ n w, fun U hU hW => ⟨rfl, X.2.2.2.2.2.2.2.2.1.go hW hU Y.2.2.2.1, hU ▸ Y.2.2.1⟩⟩ rfl hna Y.2.2.2.2.1 hst (by show 2 * 0 + _ ≤ 8; omega) hdg ⟨by omega, by omega⟩)
theorem go_Q {v : Option Value} {s t : State} {H : Heap} {locs : List Loc} {ls : Array Slot} (args : Array Value) (Y : gY G M B lv n k w s H locs ls) (hs : s.heap.size = G.2.1 + B.2.2.2.2.1) (ht : t.heap = H) : ga_Q G (v, n, k, w) args s (.returned v) t := by
  refine ⟨rfl, ht ▸ Y.2.2.1, fun q hq => ?_⟩
  rw [ht]
  exact Y.2.2.2.1.2.1 q (by omega) (by omega)
theorem go_iret {fr lc nc ns n0 k0 : Nat} {v : Int32} (hr : M.2.2.2 = some .int) (hdg : decode M.2.1 pc = .ok (.ireturn, 1)) : Go l G M (fr, lc, nc, ns, n0, k0, gq G (some (.int v), n, k, w) n0 k0) pc lv [.int v] n k w :=
  fun p e R s m args below meth c H locs ls X Y => W.iret X.1 X.2.1 (X.2.2.2.1.trans hr) (fun t ht _ => go_Q args Y X.2.2.2.2.2.2.2.2.2.2.2.2.2 ht) Y.2.2.2.1.2.2 hdg X.2.2.2.2.1
theorem go_zret {fr lc nc ns n0 k0 : Nat} {v : Int32} (hr : M.2.2.2 = some .boolean) (hv : narrow .boolean (.int v) = .int v) (hdg : decode M.2.1 pc = .ok (.ireturn, 1)) : Go l G M (fr, lc, nc, ns, n0, k0, gq G (some (.int v), n, k, w) n0 k0) pc lv [.int v] n k w :=
  fun p e R s m args below meth c H locs ls X Y => W.zret X.1 X.2.1 (X.2.2.2.1.trans hr) hv (fun t ht _ => go_Q args Y X.2.2.2.2.2.2.2.2.2.2.2.2.2 ht) Y.2.2.2.1.2.2 hdg X.2.2.2.2.1
theorem go_vret {fr lc nc ns n0 k0 : Nat} (hr : M.2.2.2 = none) (hdg : decode M.2.1 pc = .ok (.return_, 1)) : Go l G M (fr, lc, nc, ns, n0, k0, gq G (none, n, k, w) n0 k0) pc lv [] n k w :=
  fun p e R s m args below meth c H locs ls X Y => W.vret X.1 X.2.1 (X.2.2.2.1.trans hr) (fun t ht _ => go_Q args Y X.2.2.2.2.2.2.2.2.2.2.2.2.2 ht) Y.2.2.2.1.2.2 hdg X.2.2.2.2.1
theorem go_aret {fr lc nc ns n0 k0 a : Nat} {C : String} (hr : M.2.2.2 = some (.object C)) (hdg : decode M.2.1 pc = .ok (.areturn, 1)) : Go l G M (fr, lc, nc, ns, n0, k0, gq G (some (.ref a), n, k, w) n0 k0) pc lv [.ref a] n k w :=
  fun p e R s m args below meth c H locs ls X Y => W.aret X.1 X.2.1 (X.2.2.2.1.trans hr) (Or.inl ⟨C, rfl⟩) (Or.inr ⟨a, rfl⟩) (fun t ht _ => go_Q args Y X.2.2.2.2.2.2.2.2.2.2.2.2.2 ht) Y.2.2.2.1.2.2 hdg X.2.2.2.2.1
/-- the end's world, or answer, told otherwise -/
theorem go_eq {fr lc nc ns n0 k0 : Nat} {r r' : gR} (h : r' = r) (kk : Go l G M (fr, lc, nc, ns, n0, k0, gq G r' n0 k0) pc lv st n k w) : Go l G M (fr, lc, nc, ns, n0, k0, gq G r n0 k0) pc lv st n k w := by subst h; exact kk
end GO4
theorem Ct.of {l : Launch} {G : gG} {M : gM} {fr lc n k : Nat} {as : List Value} {w : Nat → va_E} {r : gR} (hpl : plainName M.1.cls = true) (hlen : (lg_sl as).length ≤ M.2.2.1) (hn : n ≤ r.2.1 ∧ k ≤ r.2.2.1) (h : Go l G M (gb G fr lc n k r) 0 (lv_args 0 as) [] n k w) : Ct l G M fr lc as n k w r := by
  refine ⟨hn, Met.ofW (cc := M.2.1) (maxL := M.2.2.1) (ret := M.2.2.2) (ws' := gw_all) hpl rfl ?_⟩
  intro p e s m args below meth c s₁ Bd hml hv
  obtain ⟨rfl, hE, hW⟩ := hv
  have hl := lv_entry as (n := M.2.2.1) hlen
  rw [lg_entry_eq]
  generalize (lg_sl as ++ List.replicate (M.2.2.1 - (lg_sl as).length) Slot.unset).toArray = ls at hl ⊢
  have hts := atoms_spec (ws := ga_ws M) Bd.pre
  have := h p e { frames := fr, cells := r.2.1 - n, slots := r.2.2.1 - k, locals := lc } s m _ below meth c s.heap [] ls ⟨Bd.exec, Bd.bytes, hml, Bd.returns, Bd.notSynchronized, findClass_of_methodNamed Bd.named, (name_of_methodNamed Bd.named Bd.method).1, fun x hx => hts x (List.mem_cons_of_mem _ hx), hE, Nat.le_refl fr, Nat.le_refl lc, Nat.le_refl _, Nat.le_refl _, hW.1⟩ ⟨Nat.le_refl _, Nat.le_refl _, hW, va_S.rf, hl⟩
  simp only [Nat.sub_self] at this
  exact this

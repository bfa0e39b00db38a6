/-! the law's cases and loop, laid by wip/whole/wlaw.py -/
abbrev sc (G : gG) (i : Nat) : Int32 := G.2.2.2.2.2.2.2 i
abbrev lvL (G : gG) (i : Nat) : List (Nat × Value) := [(3, .int (nI i)), (2, .ref (G.2.1 + 74)), (1, .ref (G.2.1 + 0)), (0, .ref G.2.2.2.2.2.1)]
theorem law_next {l : Launch} {G : gG} {c m : gMem} {i : Nat} (kk : Go l G mL_law lawB 18 (lvL G (i + 6)) [] 84 146846 (wX G m c)) : Go l G mL_law lawB 1393 (lvL G i) [] 84 146846 (wX G m c) := by
  refine go_iinc (pc := 1393) (v := nI (i + 6)) (lv' := lvL G (i + 6)) dL_law_1393 0 rfl (nI_add i 6) (by decide) rfl ?_
  exact go_goto (pc := 1396) (tgt := 18) dL_law_1396 (by decide) kk
set_option maxRecDepth 100000 in
theorem law_0 {l : Launch} {G : gG} {T i : Nat} {c m : gMem} (hi : i + 6 ≤ G.2.2.2.2.2.2.1) (hL : G.2.2.2.2.2.2.1 ≤ 3072) (R : Rel T c m) (hT : T + 200000 < 2 ^ 28) (kk : ∀ c1 m1, Rel (T + 200000) c1 m1 → Go l G mL_law lawB 1393 (lvL G i) [] 84 146846 (wX G m1 c1)) : Go l G mL_law lawB 228 (lvL G i) [] 84 146846 (wX G m c) := by
  obtain ⟨r, c1, m1, X1, M1, R1⟩ := op_size (l1 := sc G (i + 1)) R
  refine go_aload_n (pc := 228) dL_law_228 rfl rfl ?_
  refine go_aload_n (pc := 229) dL_law_229 rfl rfl ?_
  refine go_iload_n (pc := 230) dL_law_230 rfl rfl ?_
  refine go_iconst (pc := 231) (v := nI 1) dL_law_231 (by decide) ?_
  refine go_iadd (pc := 232) dL_law_232 ?_
  refine go_top (y := nI (i + 1)) (nI_add i 1) ?_
  refine go_sld (pc := 233) (vp_in_nI (by omega) (by omega)) dL_law_233 ?_
  refine go_top (y := sc G (i + 1)) (congrArg G.2.2.2.2.2.2.2 (nI_clamp (by omega))) ?_
  refine gq_callV_i (pc := 234) (F := wX G m) vL_13 rfl (tX9_size (Q := fun a b => a = r ∧ b = c1) (X1 _ ⟨rfl, rfl⟩)) rfl rfl (gz_b (by decide)) xw0 rfl (Nat.le_of_ble_eq_true rfl) ⟨Nat.le_of_ble_eq_true rfl, Nat.le_of_ble_eq_true rfl, Nat.le_add_left _ _, Nat.le_add_left _ _⟩ dL_law_234 (fun a b h => ?_)
  rw [h.1, h.2]
  refine go_w (show wX G m c1 = wM G c1 m from rfl) ?_
  refine go_aload_n (pc := 237) dL_law_237 rfl rfl ?_
  refine go_aload_n (pc := 238) dL_law_238 rfl rfl ?_
  refine go_iload_n (pc := 239) dL_law_239 rfl rfl ?_
  refine go_iconst (pc := 240) (v := nI 1) dL_law_240 (by decide) ?_
  refine go_iadd (pc := 241) dL_law_241 ?_
  refine go_top (y := nI (i + 1)) (nI_add i 1) ?_
  refine go_sld (pc := 242) (vp_in_nI (by omega) (by omega)) dL_law_242 ?_
  refine go_top (y := sc G (i + 1)) (congrArg G.2.2.2.2.2.2.2 (nI_clamp (by omega))) ?_
  refine gq_callV_i (pc := 243) (F := wM G c1) vL_17 rfl (tX10_size (Q := fun a b => a = r ∧ b = m1) (M1 _ ⟨rfl, rfl⟩)) rfl rfl (gz_b (by decide)) yw0 rfl (Nat.le_of_ble_eq_true rfl) ⟨Nat.le_of_ble_eq_true rfl, Nat.le_of_ble_eq_true rfl, Nat.le_add_left _ _, Nat.le_add_left _ _⟩ dL_law_243 (fun a b h => ?_)
  rw [h.1, h.2]
  refine go_icmp_eq_t (pc := 246) (tgt := 1393) dL_law_246 (by decide) rfl ?_
  exact go_w (show wM G c1 m1 = wX G m1 c1 from rfl) (kk c1 m1 (R1.mono (by omega)))
set_option maxRecDepth 100000 in
theorem law_1 {l : Launch} {G : gG} {T i : Nat} {c m : gMem} (hi : i + 6 ≤ G.2.2.2.2.2.2.1) (hL : G.2.2.2.2.2.2.1 ≤ 3072) (R : Rel T c m) (hT : T + 200000 < 2 ^ 28) (kk : ∀ c1 m1, Rel (T + 200000) c1 m1 → Go l G mL_law lawB 1393 (lvL G i) [] 84 146846 (wX G m1 c1)) : Go l G mL_law lawB 251 (lvL G i) [] 84 146846 (wX G m c) := by
  obtain ⟨r, c1, m1, X1, M1, R1⟩ := op_make (x := sc G (i + 1)) (y := sc G (i + 2)) R (by omega)
  refine go_aload_n (pc := 251) dL_law_251 rfl rfl ?_
  refine go_aload_n (pc := 252) dL_law_252 rfl rfl ?_
  refine go_iload_n (pc := 253) dL_law_253 rfl rfl ?_
  refine go_iconst (pc := 254) (v := nI 1) dL_law_254 (by decide) ?_
  refine go_iadd (pc := 255) dL_law_255 ?_
  refine go_top (y := nI (i + 1)) (nI_add i 1) ?_
  refine go_sld (pc := 256) (vp_in_nI (by omega) (by omega)) dL_law_256 ?_
  refine go_top (y := sc G (i + 1)) (congrArg G.2.2.2.2.2.2.2 (nI_clamp (by omega))) ?_
  refine go_aload_n (pc := 257) dL_law_257 rfl rfl ?_
  refine go_iload_n (pc := 258) dL_law_258 rfl rfl ?_
  refine go_iconst (pc := 259) (v := nI 2) dL_law_259 (by decide) ?_
  refine go_iadd (pc := 260) dL_law_260 ?_
  refine go_top (y := nI (i + 2)) (nI_add i 2) ?_
  refine go_sld (pc := 261) (vp_in_nI (by omega) (by omega)) dL_law_261 ?_
  refine go_top (y := sc G (i + 2)) (congrArg G.2.2.2.2.2.2.2 (nI_clamp (by omega))) ?_
  refine gq_callV_i (pc := 262) (F := wX G m) vL_18 rfl (tX9_make (Q := fun a b => a = r ∧ b = c1) (X1 _ ⟨rfl, rfl⟩)) rfl rfl (gz_b (by decide)) xw0 rfl (Nat.le_of_ble_eq_true rfl) ⟨Nat.le_of_ble_eq_true rfl, Nat.le_of_ble_eq_true rfl, Nat.le_add_left _ _, Nat.le_add_left _ _⟩ dL_law_262 (fun a b h => ?_)
  rw [h.1, h.2]
  refine go_w (show wX G m c1 = wM G c1 m from rfl) ?_
  refine go_aload_n (pc := 265) dL_law_265 rfl rfl ?_
  refine go_aload_n (pc := 266) dL_law_266 rfl rfl ?_
  refine go_iload_n (pc := 267) dL_law_267 rfl rfl ?_
  refine go_iconst (pc := 268) (v := nI 1) dL_law_268 (by decide) ?_
  refine go_iadd (pc := 269) dL_law_269 ?_
  refine go_top (y := nI (i + 1)) (nI_add i 1) ?_
  refine go_sld (pc := 270) (vp_in_nI (by omega) (by omega)) dL_law_270 ?_
  refine go_top (y := sc G (i + 1)) (congrArg G.2.2.2.2.2.2.2 (nI_clamp (by omega))) ?_
  refine go_aload_n (pc := 271) dL_law_271 rfl rfl ?_
  refine go_iload_n (pc := 272) dL_law_272 rfl rfl ?_
  refine go_iconst (pc := 273) (v := nI 2) dL_law_273 (by decide) ?_
  refine go_iadd (pc := 274) dL_law_274 ?_
  refine go_top (y := nI (i + 2)) (nI_add i 2) ?_
  refine go_sld (pc := 275) (vp_in_nI (by omega) (by omega)) dL_law_275 ?_
  refine go_top (y := sc G (i + 2)) (congrArg G.2.2.2.2.2.2.2 (nI_clamp (by omega))) ?_
  refine gq_callV_i (pc := 276) (F := wM G c1) vL_22 rfl (tX10_make (Q := fun a b => a = r ∧ b = m1) (M1 _ ⟨rfl, rfl⟩)) rfl rfl (gz_b (by decide)) yw0 rfl (Nat.le_of_ble_eq_true rfl) ⟨Nat.le_of_ble_eq_true rfl, Nat.le_of_ble_eq_true rfl, Nat.le_add_left _ _, Nat.le_add_left _ _⟩ dL_law_276 (fun a b h => ?_)
  rw [h.1, h.2]
  refine go_icmp_eq_t (pc := 279) (tgt := 1393) dL_law_279 (by decide) rfl ?_
  exact go_w (show wM G c1 m1 = wX G m1 c1 from rfl) (kk c1 m1 (R1.mono (by omega)))
set_option maxRecDepth 100000 in
theorem law_2 {l : Launch} {G : gG} {T i : Nat} {c m : gMem} (hi : i + 6 ≤ G.2.2.2.2.2.2.1) (hL : G.2.2.2.2.2.2.1 ≤ 3072) (R : Rel T c m) (hT : T + 200000 < 2 ^ 28) (kk : ∀ c1 m1, Rel (T + 200000) c1 m1 → Go l G mL_law lawB 1393 (lvL G i) [] 84 146846 (wX G m1 c1)) : Go l G mL_law lawB 284 (lvL G i) [] 84 146846 (wX G m c) := by
  obtain ⟨r, c1, m1, X1, M1, R1⟩ := op_kind (l1 := sc G (i + 1)) R
  refine go_aload_n (pc := 284) dL_law_284 rfl rfl ?_
  refine go_aload_n (pc := 285) dL_law_285 rfl rfl ?_
  refine go_iload_n (pc := 286) dL_law_286 rfl rfl ?_
  refine go_iconst (pc := 287) (v := nI 1) dL_law_287 (by decide) ?_
  refine go_iadd (pc := 288) dL_law_288 ?_
  refine go_top (y := nI (i + 1)) (nI_add i 1) ?_
  refine go_sld (pc := 289) (vp_in_nI (by omega) (by omega)) dL_law_289 ?_
  refine go_top (y := sc G (i + 1)) (congrArg G.2.2.2.2.2.2.2 (nI_clamp (by omega))) ?_
  refine gq_callV_i (pc := 290) (F := wX G m) vL_23 rfl (tX9_kind (Q := fun a b => a = r ∧ b = c1) (X1 _ ⟨rfl, rfl⟩)) rfl rfl (gz_b (by decide)) xw0 rfl (Nat.le_of_ble_eq_true rfl) ⟨Nat.le_of_ble_eq_true rfl, Nat.le_of_ble_eq_true rfl, Nat.le_add_left _ _, Nat.le_add_left _ _⟩ dL_law_290 (fun a b h => ?_)
  rw [h.1, h.2]
  refine go_w (show wX G m c1 = wM G c1 m from rfl) ?_
  refine go_aload_n (pc := 293) dL_law_293 rfl rfl ?_
  refine go_aload_n (pc := 294) dL_law_294 rfl rfl ?_
  refine go_iload_n (pc := 295) dL_law_295 rfl rfl ?_
  refine go_iconst (pc := 296) (v := nI 1) dL_law_296 (by decide) ?_
  refine go_iadd (pc := 297) dL_law_297 ?_
  refine go_top (y := nI (i + 1)) (nI_add i 1) ?_
  refine go_sld (pc := 298) (vp_in_nI (by omega) (by omega)) dL_law_298 ?_
  refine go_top (y := sc G (i + 1)) (congrArg G.2.2.2.2.2.2.2 (nI_clamp (by omega))) ?_
  refine gq_callV_i (pc := 299) (F := wM G c1) vL_26 rfl (tX10_kind (Q := fun a b => a = r ∧ b = m1) (M1 _ ⟨rfl, rfl⟩)) rfl rfl (gz_b (by decide)) yw0 rfl (Nat.le_of_ble_eq_true rfl) ⟨Nat.le_of_ble_eq_true rfl, Nat.le_of_ble_eq_true rfl, Nat.le_add_left _ _, Nat.le_add_left _ _⟩ dL_law_299 (fun a b h => ?_)
  rw [h.1, h.2]
  refine go_icmp_eq_t (pc := 302) (tgt := 1393) dL_law_302 (by decide) rfl ?_
  exact go_w (show wM G c1 m1 = wX G m1 c1 from rfl) (kk c1 m1 (R1.mono (by omega)))
set_option maxRecDepth 100000 in
theorem law_3 {l : Launch} {G : gG} {T i : Nat} {c m : gMem} (hi : i + 6 ≤ G.2.2.2.2.2.2.1) (hL : G.2.2.2.2.2.2.1 ≤ 3072) (R : Rel T c m) (hT : T + 200000 < 2 ^ 28) (kk : ∀ c1 m1, Rel (T + 200000) c1 m1 → Go l G mL_law lawB 1393 (lvL G i) [] 84 146846 (wX G m1 c1)) : Go l G mL_law lawB 307 (lvL G i) [] 84 146846 (wX G m c) := by
  obtain ⟨r, c1, m1, X1, M1, R1⟩ := op_place (l1 := sc G (i + 1)) R
  refine go_aload_n (pc := 307) dL_law_307 rfl rfl ?_
  refine go_aload_n (pc := 308) dL_law_308 rfl rfl ?_
  refine go_iload_n (pc := 309) dL_law_309 rfl rfl ?_
  refine go_iconst (pc := 310) (v := nI 1) dL_law_310 (by decide) ?_
  refine go_iadd (pc := 311) dL_law_311 ?_
  refine go_top (y := nI (i + 1)) (nI_add i 1) ?_
  refine go_sld (pc := 312) (vp_in_nI (by omega) (by omega)) dL_law_312 ?_
  refine go_top (y := sc G (i + 1)) (congrArg G.2.2.2.2.2.2.2 (nI_clamp (by omega))) ?_
  refine gq_callV_i (pc := 313) (F := wX G m) vL_27 rfl (tX9_place (Q := fun a b => a = r ∧ b = c1) (X1 _ ⟨rfl, rfl⟩)) rfl rfl (gz_b (by decide)) xw0 rfl (Nat.le_of_ble_eq_true rfl) ⟨Nat.le_of_ble_eq_true rfl, Nat.le_of_ble_eq_true rfl, Nat.le_add_left _ _, Nat.le_add_left _ _⟩ dL_law_313 (fun a b h => ?_)
  rw [h.1, h.2]
  refine go_w (show wX G m c1 = wM G c1 m from rfl) ?_
  refine go_aload_n (pc := 316) dL_law_316 rfl rfl ?_
  refine go_aload_n (pc := 317) dL_law_317 rfl rfl ?_
  refine go_iload_n (pc := 318) dL_law_318 rfl rfl ?_
  refine go_iconst (pc := 319) (v := nI 1) dL_law_319 (by decide) ?_
  refine go_iadd (pc := 320) dL_law_320 ?_
  refine go_top (y := nI (i + 1)) (nI_add i 1) ?_
  refine go_sld (pc := 321) (vp_in_nI (by omega) (by omega)) dL_law_321 ?_
  refine go_top (y := sc G (i + 1)) (congrArg G.2.2.2.2.2.2.2 (nI_clamp (by omega))) ?_
  refine gq_callV_i (pc := 322) (F := wM G c1) vL_30 rfl (tX10_place (Q := fun a b => a = r ∧ b = m1) (M1 _ ⟨rfl, rfl⟩)) rfl rfl (gz_b (by decide)) yw0 rfl (Nat.le_of_ble_eq_true rfl) ⟨Nat.le_of_ble_eq_true rfl, Nat.le_of_ble_eq_true rfl, Nat.le_add_left _ _, Nat.le_add_left _ _⟩ dL_law_322 (fun a b h => ?_)
  rw [h.1, h.2]
  refine go_icmp_eq_t (pc := 325) (tgt := 1393) dL_law_325 (by decide) rfl ?_
  exact go_w (show wM G c1 m1 = wX G m1 c1 from rfl) (kk c1 m1 (R1.mono (by omega)))
set_option maxRecDepth 100000 in
theorem law_4 {l : Launch} {G : gG} {T i : Nat} {c m : gMem} (hi : i + 6 ≤ G.2.2.2.2.2.2.1) (hL : G.2.2.2.2.2.2.1 ≤ 3072) (R : Rel T c m) (hT : T + 200000 < 2 ^ 28) (kk : ∀ c1 m1, Rel (T + 200000) c1 m1 → Go l G mL_law lawB 1393 (lvL G i) [] 84 146846 (wX G m1 c1)) : Go l G mL_law lawB 330 (lvL G i) [] 84 146846 (wX G m c) := by
  obtain ⟨r, c1, m1, X1, M1, R1⟩ := op_measure (l1 := sc G (i + 1)) R
  refine go_aload_n (pc := 330) dL_law_330 rfl rfl ?_
  refine go_aload_n (pc := 331) dL_law_331 rfl rfl ?_
  refine go_iload_n (pc := 332) dL_law_332 rfl rfl ?_
  refine go_iconst (pc := 333) (v := nI 1) dL_law_333 (by decide) ?_
  refine go_iadd (pc := 334) dL_law_334 ?_
  refine go_top (y := nI (i + 1)) (nI_add i 1) ?_
  refine go_sld (pc := 335) (vp_in_nI (by omega) (by omega)) dL_law_335 ?_
  refine go_top (y := sc G (i + 1)) (congrArg G.2.2.2.2.2.2.2 (nI_clamp (by omega))) ?_
  refine gq_callV_i (pc := 336) (F := wX G m) vL_31 rfl (tX9_measure (Q := fun a b => a = r ∧ b = c1) (X1 _ ⟨rfl, rfl⟩)) rfl rfl (gz_b (by decide)) xw0 rfl (Nat.le_of_ble_eq_true rfl) ⟨Nat.le_of_ble_eq_true rfl, Nat.le_of_ble_eq_true rfl, Nat.le_add_left _ _, Nat.le_add_left _ _⟩ dL_law_336 (fun a b h => ?_)
  rw [h.1, h.2]
  refine go_w (show wX G m c1 = wM G c1 m from rfl) ?_
  refine go_aload_n (pc := 339) dL_law_339 rfl rfl ?_
  refine go_aload_n (pc := 340) dL_law_340 rfl rfl ?_
  refine go_iload_n (pc := 341) dL_law_341 rfl rfl ?_
  refine go_iconst (pc := 342) (v := nI 1) dL_law_342 (by decide) ?_
  refine go_iadd (pc := 343) dL_law_343 ?_
  refine go_top (y := nI (i + 1)) (nI_add i 1) ?_
  refine go_sld (pc := 344) (vp_in_nI (by omega) (by omega)) dL_law_344 ?_
  refine go_top (y := sc G (i + 1)) (congrArg G.2.2.2.2.2.2.2 (nI_clamp (by omega))) ?_
  refine gq_callV_i (pc := 345) (F := wM G c1) vL_34 rfl (tX10_measure (Q := fun a b => a = r ∧ b = m1) (M1 _ ⟨rfl, rfl⟩)) rfl rfl (gz_b (by decide)) yw0 rfl (Nat.le_of_ble_eq_true rfl) ⟨Nat.le_of_ble_eq_true rfl, Nat.le_of_ble_eq_true rfl, Nat.le_add_left _ _, Nat.le_add_left _ _⟩ dL_law_345 (fun a b h => ?_)
  rw [h.1, h.2]
  refine go_icmp_eq_t (pc := 348) (tgt := 1393) dL_law_348 (by decide) rfl ?_
  exact go_w (show wM G c1 m1 = wX G m1 c1 from rfl) (kk c1 m1 (R1.mono (by omega)))
set_option maxRecDepth 100000 in
theorem law_5 {l : Launch} {G : gG} {T i : Nat} {c m : gMem} (hi : i + 6 ≤ G.2.2.2.2.2.2.1) (hL : G.2.2.2.2.2.2.1 ≤ 3072) (R : Rel T c m) (hT : T + 200000 < 2 ^ 28) (kk : ∀ c1 m1, Rel (T + 200000) c1 m1 → Go l G mL_law lawB 1393 (lvL G i) [] 84 146846 (wX G m1 c1)) : Go l G mL_law lawB 353 (lvL G i) [] 84 146846 (wX G m c) := by
  obtain ⟨r, c1, m1, X1, M1, R1⟩ := op_links (l1 := sc G (i + 1)) R
  refine go_aload_n (pc := 353) dL_law_353 rfl rfl ?_
  refine go_aload_n (pc := 354) dL_law_354 rfl rfl ?_
  refine go_iload_n (pc := 355) dL_law_355 rfl rfl ?_
  refine go_iconst (pc := 356) (v := nI 1) dL_law_356 (by decide) ?_
  refine go_iadd (pc := 357) dL_law_357 ?_
  refine go_top (y := nI (i + 1)) (nI_add i 1) ?_
  refine go_sld (pc := 358) (vp_in_nI (by omega) (by omega)) dL_law_358 ?_
  refine go_top (y := sc G (i + 1)) (congrArg G.2.2.2.2.2.2.2 (nI_clamp (by omega))) ?_
  refine gq_callV_i (pc := 359) (F := wX G m) vL_35 rfl (tX9_links (Q := fun a b => a = r ∧ b = c1) (X1 _ ⟨rfl, rfl⟩)) rfl rfl (gz_b (by decide)) xw0 rfl (Nat.le_of_ble_eq_true rfl) ⟨Nat.le_of_ble_eq_true rfl, Nat.le_of_ble_eq_true rfl, Nat.le_add_left _ _, Nat.le_add_left _ _⟩ dL_law_359 (fun a b h => ?_)
  rw [h.1, h.2]
  refine go_w (show wX G m c1 = wM G c1 m from rfl) ?_
  refine go_aload_n (pc := 362) dL_law_362 rfl rfl ?_
  refine go_aload_n (pc := 363) dL_law_363 rfl rfl ?_
  refine go_iload_n (pc := 364) dL_law_364 rfl rfl ?_
  refine go_iconst (pc := 365) (v := nI 1) dL_law_365 (by decide) ?_
  refine go_iadd (pc := 366) dL_law_366 ?_
  refine go_top (y := nI (i + 1)) (nI_add i 1) ?_
  refine go_sld (pc := 367) (vp_in_nI (by omega) (by omega)) dL_law_367 ?_
  refine go_top (y := sc G (i + 1)) (congrArg G.2.2.2.2.2.2.2 (nI_clamp (by omega))) ?_
  refine gq_callV_i (pc := 368) (F := wM G c1) vL_38 rfl (tX10_links (Q := fun a b => a = r ∧ b = m1) (M1 _ ⟨rfl, rfl⟩)) rfl rfl (gz_b (by decide)) yw0 rfl (Nat.le_of_ble_eq_true rfl) ⟨Nat.le_of_ble_eq_true rfl, Nat.le_of_ble_eq_true rfl, Nat.le_add_left _ _, Nat.le_add_left _ _⟩ dL_law_368 (fun a b h => ?_)
  rw [h.1, h.2]
  refine go_icmp_eq_t (pc := 371) (tgt := 1393) dL_law_371 (by decide) rfl ?_
  exact go_w (show wM G c1 m1 = wX G m1 c1 from rfl) (kk c1 m1 (R1.mono (by omega)))
set_option maxRecDepth 100000 in
theorem law_6 {l : Launch} {G : gG} {T i : Nat} {c m : gMem} (hi : i + 6 ≤ G.2.2.2.2.2.2.1) (hL : G.2.2.2.2.2.2.1 ≤ 3072) (R : Rel T c m) (hT : T + 200000 < 2 ^ 28) (kk : ∀ c1 m1, Rel (T + 200000) c1 m1 → Go l G mL_law lawB 1393 (lvL G i) [] 84 146846 (wX G m1 c1)) : Go l G mL_law lawB 376 (lvL G i) [] 84 146846 (wX G m c) := by
  obtain ⟨r, c1, m1, X1, M1, R1⟩ := op_link (l1 := sc G (i + 1)) (l2 := sc G (i + 2)) (l3 := sc G (i + 3)) R
  refine go_aload_n (pc := 376) dL_law_376 rfl rfl ?_
  refine go_aload_n (pc := 377) dL_law_377 rfl rfl ?_
  refine go_iload_n (pc := 378) dL_law_378 rfl rfl ?_
  refine go_iconst (pc := 379) (v := nI 1) dL_law_379 (by decide) ?_
  refine go_iadd (pc := 380) dL_law_380 ?_
  refine go_top (y := nI (i + 1)) (nI_add i 1) ?_
  refine go_sld (pc := 381) (vp_in_nI (by omega) (by omega)) dL_law_381 ?_
  refine go_top (y := sc G (i + 1)) (congrArg G.2.2.2.2.2.2.2 (nI_clamp (by omega))) ?_
  refine go_aload_n (pc := 382) dL_law_382 rfl rfl ?_
  refine go_iload_n (pc := 383) dL_law_383 rfl rfl ?_
  refine go_iconst (pc := 384) (v := nI 2) dL_law_384 (by decide) ?_
  refine go_iadd (pc := 385) dL_law_385 ?_
  refine go_top (y := nI (i + 2)) (nI_add i 2) ?_
  refine go_sld (pc := 386) (vp_in_nI (by omega) (by omega)) dL_law_386 ?_
  refine go_top (y := sc G (i + 2)) (congrArg G.2.2.2.2.2.2.2 (nI_clamp (by omega))) ?_
  refine go_aload_n (pc := 387) dL_law_387 rfl rfl ?_
  refine go_iload_n (pc := 388) dL_law_388 rfl rfl ?_
  refine go_iconst (pc := 389) (v := nI 3) dL_law_389 (by decide) ?_
  refine go_iadd (pc := 390) dL_law_390 ?_
  refine go_top (y := nI (i + 3)) (nI_add i 3) ?_
  refine go_sld (pc := 391) (vp_in_nI (by omega) (by omega)) dL_law_391 ?_
  refine go_top (y := sc G (i + 3)) (congrArg G.2.2.2.2.2.2.2 (nI_clamp (by omega))) ?_
  refine gq_callV_i (pc := 392) (F := wX G m) vL_39 rfl (tX9_link (Q := fun a b => a = r ∧ b = c1) (X1 _ ⟨rfl, rfl⟩)) rfl rfl (gz_b (by decide)) xw0 rfl (Nat.le_of_ble_eq_true rfl) ⟨Nat.le_of_ble_eq_true rfl, Nat.le_of_ble_eq_true rfl, Nat.le_add_left _ _, Nat.le_add_left _ _⟩ dL_law_392 (fun a b h => ?_)
  rw [h.1, h.2]
  refine go_w (show wX G m c1 = wM G c1 m from rfl) ?_
  refine go_aload_n (pc := 395) dL_law_395 rfl rfl ?_
  refine go_aload_n (pc := 396) dL_law_396 rfl rfl ?_
  refine go_iload_n (pc := 397) dL_law_397 rfl rfl ?_
  refine go_iconst (pc := 398) (v := nI 1) dL_law_398 (by decide) ?_
  refine go_iadd (pc := 399) dL_law_399 ?_
  refine go_top (y := nI (i + 1)) (nI_add i 1) ?_
  refine go_sld (pc := 400) (vp_in_nI (by omega) (by omega)) dL_law_400 ?_
  refine go_top (y := sc G (i + 1)) (congrArg G.2.2.2.2.2.2.2 (nI_clamp (by omega))) ?_
  refine go_aload_n (pc := 401) dL_law_401 rfl rfl ?_
  refine go_iload_n (pc := 402) dL_law_402 rfl rfl ?_
  refine go_iconst (pc := 403) (v := nI 2) dL_law_403 (by decide) ?_
  refine go_iadd (pc := 404) dL_law_404 ?_
  refine go_top (y := nI (i + 2)) (nI_add i 2) ?_
  refine go_sld (pc := 405) (vp_in_nI (by omega) (by omega)) dL_law_405 ?_
  refine go_top (y := sc G (i + 2)) (congrArg G.2.2.2.2.2.2.2 (nI_clamp (by omega))) ?_
  refine go_aload_n (pc := 406) dL_law_406 rfl rfl ?_
  refine go_iload_n (pc := 407) dL_law_407 rfl rfl ?_
  refine go_iconst (pc := 408) (v := nI 3) dL_law_408 (by decide) ?_
  refine go_iadd (pc := 409) dL_law_409 ?_
  refine go_top (y := nI (i + 3)) (nI_add i 3) ?_
  refine go_sld (pc := 410) (vp_in_nI (by omega) (by omega)) dL_law_410 ?_
  refine go_top (y := sc G (i + 3)) (congrArg G.2.2.2.2.2.2.2 (nI_clamp (by omega))) ?_
  refine gq_callV_i (pc := 411) (F := wM G c1) vL_43 rfl (tX10_link (Q := fun a b => a = r ∧ b = m1) (M1 _ ⟨rfl, rfl⟩)) rfl rfl (gz_b (by decide)) yw0 rfl (Nat.le_of_ble_eq_true rfl) ⟨Nat.le_of_ble_eq_true rfl, Nat.le_of_ble_eq_true rfl, Nat.le_add_left _ _, Nat.le_add_left _ _⟩ dL_law_411 (fun a b h => ?_)
  rw [h.1, h.2]
  refine go_icmp_eq_t (pc := 414) (tgt := 1393) dL_law_414 (by decide) rfl ?_
  exact go_w (show wM G c1 m1 = wX G m1 c1 from rfl) (kk c1 m1 (R1.mono (by omega)))
set_option maxRecDepth 100000 in
theorem law_7 {l : Launch} {G : gG} {T i : Nat} {c m : gMem} (hi : i + 6 ≤ G.2.2.2.2.2.2.1) (hL : G.2.2.2.2.2.2.1 ≤ 3072) (R : Rel T c m) (hT : T + 200000 < 2 ^ 28) (kk : ∀ c1 m1, Rel (T + 200000) c1 m1 → Go l G mL_law lawB 1393 (lvL G i) [] 84 146846 (wX G m1 c1)) : Go l G mL_law lawB 419 (lvL G i) [] 84 146846 (wX G m c) := by
  obtain ⟨r, c1, m1, X1, M1, R1⟩ := op_get (l1 := sc G (i + 1)) (l2 := sc G (i + 2)) R
  refine go_aload_n (pc := 419) dL_law_419 rfl rfl ?_
  refine go_aload_n (pc := 420) dL_law_420 rfl rfl ?_
  refine go_iload_n (pc := 421) dL_law_421 rfl rfl ?_
  refine go_iconst (pc := 422) (v := nI 1) dL_law_422 (by decide) ?_
  refine go_iadd (pc := 423) dL_law_423 ?_
  refine go_top (y := nI (i + 1)) (nI_add i 1) ?_
  refine go_sld (pc := 424) (vp_in_nI (by omega) (by omega)) dL_law_424 ?_
  refine go_top (y := sc G (i + 1)) (congrArg G.2.2.2.2.2.2.2 (nI_clamp (by omega))) ?_
  refine go_aload_n (pc := 425) dL_law_425 rfl rfl ?_
  refine go_iload_n (pc := 426) dL_law_426 rfl rfl ?_
  refine go_iconst (pc := 427) (v := nI 2) dL_law_427 (by decide) ?_
  refine go_iadd (pc := 428) dL_law_428 ?_
  refine go_top (y := nI (i + 2)) (nI_add i 2) ?_
  refine go_sld (pc := 429) (vp_in_nI (by omega) (by omega)) dL_law_429 ?_
  refine go_top (y := sc G (i + 2)) (congrArg G.2.2.2.2.2.2.2 (nI_clamp (by omega))) ?_
  refine gq_callV_i (pc := 430) (F := wX G m) vL_44 rfl (tX9_get (Q := fun a b => a = r ∧ b = c1) (X1 _ ⟨rfl, rfl⟩)) rfl rfl (gz_b (by decide)) xw0 rfl (Nat.le_of_ble_eq_true rfl) ⟨Nat.le_of_ble_eq_true rfl, Nat.le_of_ble_eq_true rfl, Nat.le_add_left _ _, Nat.le_add_left _ _⟩ dL_law_430 (fun a b h => ?_)
  rw [h.1, h.2]
  refine go_w (show wX G m c1 = wM G c1 m from rfl) ?_
  refine go_aload_n (pc := 433) dL_law_433 rfl rfl ?_
  refine go_aload_n (pc := 434) dL_law_434 rfl rfl ?_
  refine go_iload_n (pc := 435) dL_law_435 rfl rfl ?_
  refine go_iconst (pc := 436) (v := nI 1) dL_law_436 (by decide) ?_
  refine go_iadd (pc := 437) dL_law_437 ?_
  refine go_top (y := nI (i + 1)) (nI_add i 1) ?_
  refine go_sld (pc := 438) (vp_in_nI (by omega) (by omega)) dL_law_438 ?_
  refine go_top (y := sc G (i + 1)) (congrArg G.2.2.2.2.2.2.2 (nI_clamp (by omega))) ?_
  refine go_aload_n (pc := 439) dL_law_439 rfl rfl ?_
  refine go_iload_n (pc := 440) dL_law_440 rfl rfl ?_
  refine go_iconst (pc := 441) (v := nI 2) dL_law_441 (by decide) ?_
  refine go_iadd (pc := 442) dL_law_442 ?_
  refine go_top (y := nI (i + 2)) (nI_add i 2) ?_
  refine go_sld (pc := 443) (vp_in_nI (by omega) (by omega)) dL_law_443 ?_
  refine go_top (y := sc G (i + 2)) (congrArg G.2.2.2.2.2.2.2 (nI_clamp (by omega))) ?_
  refine gq_callV_i (pc := 444) (F := wM G c1) vL_47 rfl (tX10_get (Q := fun a b => a = r ∧ b = m1) (M1 _ ⟨rfl, rfl⟩)) rfl rfl (gz_b (by decide)) yw0 rfl (Nat.le_of_ble_eq_true rfl) ⟨Nat.le_of_ble_eq_true rfl, Nat.le_of_ble_eq_true rfl, Nat.le_add_left _ _, Nat.le_add_left _ _⟩ dL_law_444 (fun a b h => ?_)
  rw [h.1, h.2]
  refine go_icmp_eq_t (pc := 447) (tgt := 1393) dL_law_447 (by decide) rfl ?_
  exact go_w (show wM G c1 m1 = wX G m1 c1 from rfl) (kk c1 m1 (R1.mono (by omega)))
set_option maxRecDepth 100000 in
theorem law_8 {l : Launch} {G : gG} {T i : Nat} {c m : gMem} (hi : i + 6 ≤ G.2.2.2.2.2.2.1) (hL : G.2.2.2.2.2.2.1 ≤ 3072) (R : Rel T c m) (hT : T + 200000 < 2 ^ 28) (kk : ∀ c1 m1, Rel (T + 200000) c1 m1 → Go l G mL_law lawB 1393 (lvL G i) [] 84 146846 (wX G m1 c1)) : Go l G mL_law lawB 452 (lvL G i) [] 84 146846 (wX G m c) := by
  obtain ⟨r, c1, m1, X1, M1, R1⟩ := op_weaken (l1 := sc G (i + 1)) (l2 := sc G (i + 2)) R
  refine go_aload_n (pc := 452) dL_law_452 rfl rfl ?_
  refine go_aload_n (pc := 453) dL_law_453 rfl rfl ?_
  refine go_iload_n (pc := 454) dL_law_454 rfl rfl ?_
  refine go_iconst (pc := 455) (v := nI 1) dL_law_455 (by decide) ?_
  refine go_iadd (pc := 456) dL_law_456 ?_
  refine go_top (y := nI (i + 1)) (nI_add i 1) ?_
  refine go_sld (pc := 457) (vp_in_nI (by omega) (by omega)) dL_law_457 ?_
  refine go_top (y := sc G (i + 1)) (congrArg G.2.2.2.2.2.2.2 (nI_clamp (by omega))) ?_
  refine go_aload_n (pc := 458) dL_law_458 rfl rfl ?_
  refine go_iload_n (pc := 459) dL_law_459 rfl rfl ?_
  refine go_iconst (pc := 460) (v := nI 2) dL_law_460 (by decide) ?_
  refine go_iadd (pc := 461) dL_law_461 ?_
  refine go_top (y := nI (i + 2)) (nI_add i 2) ?_
  refine go_sld (pc := 462) (vp_in_nI (by omega) (by omega)) dL_law_462 ?_
  refine go_top (y := sc G (i + 2)) (congrArg G.2.2.2.2.2.2.2 (nI_clamp (by omega))) ?_
  refine gq_callV_i (pc := 463) (F := wX G m) vL_48 rfl (tX9_weaken (Q := fun a b => a = r ∧ b = c1) (X1 _ ⟨rfl, rfl⟩)) rfl rfl (gz_b (by decide)) xw0 rfl (Nat.le_of_ble_eq_true rfl) ⟨Nat.le_of_ble_eq_true rfl, Nat.le_of_ble_eq_true rfl, Nat.le_add_left _ _, Nat.le_add_left _ _⟩ dL_law_463 (fun a b h => ?_)
  rw [h.1, h.2]
  refine go_w (show wX G m c1 = wM G c1 m from rfl) ?_
  refine go_aload_n (pc := 466) dL_law_466 rfl rfl ?_
  refine go_aload_n (pc := 467) dL_law_467 rfl rfl ?_
  refine go_iload_n (pc := 468) dL_law_468 rfl rfl ?_
  refine go_iconst (pc := 469) (v := nI 1) dL_law_469 (by decide) ?_
  refine go_iadd (pc := 470) dL_law_470 ?_
  refine go_top (y := nI (i + 1)) (nI_add i 1) ?_
  refine go_sld (pc := 471) (vp_in_nI (by omega) (by omega)) dL_law_471 ?_
  refine go_top (y := sc G (i + 1)) (congrArg G.2.2.2.2.2.2.2 (nI_clamp (by omega))) ?_
  refine go_aload_n (pc := 472) dL_law_472 rfl rfl ?_
  refine go_iload_n (pc := 473) dL_law_473 rfl rfl ?_
  refine go_iconst (pc := 474) (v := nI 2) dL_law_474 (by decide) ?_
  refine go_iadd (pc := 475) dL_law_475 ?_
  refine go_top (y := nI (i + 2)) (nI_add i 2) ?_
  refine go_sld (pc := 476) (vp_in_nI (by omega) (by omega)) dL_law_476 ?_
  refine go_top (y := sc G (i + 2)) (congrArg G.2.2.2.2.2.2.2 (nI_clamp (by omega))) ?_
  refine gq_callV_i (pc := 477) (F := wM G c1) vL_51 rfl (tX10_weaken (Q := fun a b => a = r ∧ b = m1) (M1 _ ⟨rfl, rfl⟩)) rfl rfl (gz_b (by decide)) yw0 rfl (Nat.le_of_ble_eq_true rfl) ⟨Nat.le_of_ble_eq_true rfl, Nat.le_of_ble_eq_true rfl, Nat.le_add_left _ _, Nat.le_add_left _ _⟩ dL_law_477 (fun a b h => ?_)
  rw [h.1, h.2]
  refine go_icmp_eq_t (pc := 480) (tgt := 1393) dL_law_480 (by decide) rfl ?_
  exact go_w (show wM G c1 m1 = wX G m1 c1 from rfl) (kk c1 m1 (R1.mono (by omega)))
set_option maxRecDepth 100000 in
theorem law_9 {l : Launch} {G : gG} {T i : Nat} {c m : gMem} (hi : i + 6 ≤ G.2.2.2.2.2.2.1) (hL : G.2.2.2.2.2.2.1 ≤ 3072) (R : Rel T c m) (hT : T + 200000 < 2 ^ 28) (kk : ∀ c1 m1, Rel (T + 200000) c1 m1 → Go l G mL_law lawB 1393 (lvL G i) [] 84 146846 (wX G m1 c1)) : Go l G mL_law lawB 485 (lvL G i) [] 84 146846 (wX G m c) := by
  obtain ⟨r, c1, m1, X1, M1, R1⟩ := op_look (l1 := sc G (i + 1)) R
  refine go_aload_n (pc := 485) dL_law_485 rfl rfl ?_
  refine go_aload_n (pc := 486) dL_law_486 rfl rfl ?_
  refine go_iload_n (pc := 487) dL_law_487 rfl rfl ?_
  refine go_iconst (pc := 488) (v := nI 1) dL_law_488 (by decide) ?_
  refine go_iadd (pc := 489) dL_law_489 ?_
  refine go_top (y := nI (i + 1)) (nI_add i 1) ?_
  refine go_sld (pc := 490) (vp_in_nI (by omega) (by omega)) dL_law_490 ?_
  refine go_top (y := sc G (i + 1)) (congrArg G.2.2.2.2.2.2.2 (nI_clamp (by omega))) ?_
  refine gq_callV_i (pc := 491) (F := wX G m) vL_52 rfl (tX9_look (Q := fun a b => a = r ∧ b = c1) (X1 _ ⟨rfl, rfl⟩)) rfl rfl (gz_b (by decide)) xw0 rfl (Nat.le_of_ble_eq_true rfl) ⟨Nat.le_of_ble_eq_true rfl, Nat.le_of_ble_eq_true rfl, Nat.le_add_left _ _, Nat.le_add_left _ _⟩ dL_law_491 (fun a b h => ?_)
  rw [h.1, h.2]
  refine go_w (show wX G m c1 = wM G c1 m from rfl) ?_
  refine go_aload_n (pc := 494) dL_law_494 rfl rfl ?_
  refine go_aload_n (pc := 495) dL_law_495 rfl rfl ?_
  refine go_iload_n (pc := 496) dL_law_496 rfl rfl ?_
  refine go_iconst (pc := 497) (v := nI 1) dL_law_497 (by decide) ?_
  refine go_iadd (pc := 498) dL_law_498 ?_
  refine go_top (y := nI (i + 1)) (nI_add i 1) ?_
  refine go_sld (pc := 499) (vp_in_nI (by omega) (by omega)) dL_law_499 ?_
  refine go_top (y := sc G (i + 1)) (congrArg G.2.2.2.2.2.2.2 (nI_clamp (by omega))) ?_
  refine gq_callV_i (pc := 500) (F := wM G c1) vL_55 rfl (tX10_look (Q := fun a b => a = r ∧ b = m1) (M1 _ ⟨rfl, rfl⟩)) rfl rfl (gz_b (by decide)) yw0 rfl (Nat.le_of_ble_eq_true rfl) ⟨Nat.le_of_ble_eq_true rfl, Nat.le_of_ble_eq_true rfl, Nat.le_add_left _ _, Nat.le_add_left _ _⟩ dL_law_500 (fun a b h => ?_)
  rw [h.1, h.2]
  refine go_icmp_eq_t (pc := 503) (tgt := 1393) dL_law_503 (by decide) rfl ?_
  exact go_w (show wM G c1 m1 = wX G m1 c1 from rfl) (kk c1 m1 (R1.mono (by omega)))
set_option maxRecDepth 100000 in
theorem law_10 {l : Launch} {G : gG} {T i : Nat} {c m : gMem} (hi : i + 6 ≤ G.2.2.2.2.2.2.1) (hL : G.2.2.2.2.2.2.1 ≤ 3072) (R : Rel T c m) (hT : T + 200000 < 2 ^ 28) (kk : ∀ c1 m1, Rel (T + 200000) c1 m1 → Go l G mL_law lawB 1393 (lvL G i) [] 84 146846 (wX G m1 c1)) : Go l G mL_law lawB 508 (lvL G i) [] 84 146846 (wX G m c) := by
  obtain ⟨r, c1, m1, X1, M1, R1⟩ := op_number (l1 := sc G (i + 1)) (l2 := sc G (i + 2)) R
  refine go_aload_n (pc := 508) dL_law_508 rfl rfl ?_
  refine go_aload_n (pc := 509) dL_law_509 rfl rfl ?_
  refine go_iload_n (pc := 510) dL_law_510 rfl rfl ?_
  refine go_iconst (pc := 511) (v := nI 1) dL_law_511 (by decide) ?_
  refine go_iadd (pc := 512) dL_law_512 ?_
  refine go_top (y := nI (i + 1)) (nI_add i 1) ?_
  refine go_sld (pc := 513) (vp_in_nI (by omega) (by omega)) dL_law_513 ?_
  refine go_top (y := sc G (i + 1)) (congrArg G.2.2.2.2.2.2.2 (nI_clamp (by omega))) ?_
  refine go_aload_n (pc := 514) dL_law_514 rfl rfl ?_
  refine go_iload_n (pc := 515) dL_law_515 rfl rfl ?_
  refine go_iconst (pc := 516) (v := nI 2) dL_law_516 (by decide) ?_
  refine go_iadd (pc := 517) dL_law_517 ?_
  refine go_top (y := nI (i + 2)) (nI_add i 2) ?_
  refine go_sld (pc := 518) (vp_in_nI (by omega) (by omega)) dL_law_518 ?_
  refine go_top (y := sc G (i + 2)) (congrArg G.2.2.2.2.2.2.2 (nI_clamp (by omega))) ?_
  refine gq_callV_i (pc := 519) (F := wX G m) vL_56 rfl (tX9_number (Q := fun a b => a = r ∧ b = c1) (X1 _ ⟨rfl, rfl⟩)) rfl rfl (gz_b (by decide)) xw0 rfl (Nat.le_of_ble_eq_true rfl) ⟨Nat.le_of_ble_eq_true rfl, Nat.le_of_ble_eq_true rfl, Nat.le_add_left _ _, Nat.le_add_left _ _⟩ dL_law_519 (fun a b h => ?_)
  rw [h.1, h.2]
  refine go_w (show wX G m c1 = wM G c1 m from rfl) ?_
  refine go_aload_n (pc := 522) dL_law_522 rfl rfl ?_
  refine go_aload_n (pc := 523) dL_law_523 rfl rfl ?_
  refine go_iload_n (pc := 524) dL_law_524 rfl rfl ?_
  refine go_iconst (pc := 525) (v := nI 1) dL_law_525 (by decide) ?_
  refine go_iadd (pc := 526) dL_law_526 ?_
  refine go_top (y := nI (i + 1)) (nI_add i 1) ?_
  refine go_sld (pc := 527) (vp_in_nI (by omega) (by omega)) dL_law_527 ?_
  refine go_top (y := sc G (i + 1)) (congrArg G.2.2.2.2.2.2.2 (nI_clamp (by omega))) ?_
  refine go_aload_n (pc := 528) dL_law_528 rfl rfl ?_
  refine go_iload_n (pc := 529) dL_law_529 rfl rfl ?_
  refine go_iconst (pc := 530) (v := nI 2) dL_law_530 (by decide) ?_
  refine go_iadd (pc := 531) dL_law_531 ?_
  refine go_top (y := nI (i + 2)) (nI_add i 2) ?_
  refine go_sld (pc := 532) (vp_in_nI (by omega) (by omega)) dL_law_532 ?_
  refine go_top (y := sc G (i + 2)) (congrArg G.2.2.2.2.2.2.2 (nI_clamp (by omega))) ?_
  refine gq_callV_i (pc := 533) (F := wM G c1) vL_59 rfl (tX10_number (Q := fun a b => a = r ∧ b = m1) (M1 _ ⟨rfl, rfl⟩)) rfl rfl (gz_b (by decide)) yw0 rfl (Nat.le_of_ble_eq_true rfl) ⟨Nat.le_of_ble_eq_true rfl, Nat.le_of_ble_eq_true rfl, Nat.le_add_left _ _, Nat.le_add_left _ _⟩ dL_law_533 (fun a b h => ?_)
  rw [h.1, h.2]
  refine go_icmp_eq_t (pc := 536) (tgt := 1393) dL_law_536 (by decide) rfl ?_
  exact go_w (show wM G c1 m1 = wX G m1 c1 from rfl) (kk c1 m1 (R1.mono (by omega)))
set_option maxRecDepth 100000 in
theorem law_11 {l : Launch} {G : gG} {T i : Nat} {c m : gMem} (hi : i + 6 ≤ G.2.2.2.2.2.2.1) (hL : G.2.2.2.2.2.2.1 ≤ 3072) (R : Rel T c m) (hT : T + 200000 < 2 ^ 28) (kk : ∀ c1 m1, Rel (T + 200000) c1 m1 → Go l G mL_law lawB 1393 (lvL G i) [] 84 146846 (wX G m1 c1)) : Go l G mL_law lawB 541 (lvL G i) [] 84 146846 (wX G m c) := by
  obtain ⟨r, c1, m1, X1, M1, R1⟩ := op_put (l1 := sc G (i + 1)) (l2 := sc G (i + 2)) (l3 := sc G (i + 3)) R
  refine go_aload_n (pc := 541) dL_law_541 rfl rfl ?_
  refine go_aload_n (pc := 542) dL_law_542 rfl rfl ?_
  refine go_iload_n (pc := 543) dL_law_543 rfl rfl ?_
  refine go_iconst (pc := 544) (v := nI 1) dL_law_544 (by decide) ?_
  refine go_iadd (pc := 545) dL_law_545 ?_
  refine go_top (y := nI (i + 1)) (nI_add i 1) ?_
  refine go_sld (pc := 546) (vp_in_nI (by omega) (by omega)) dL_law_546 ?_
  refine go_top (y := sc G (i + 1)) (congrArg G.2.2.2.2.2.2.2 (nI_clamp (by omega))) ?_
  refine go_aload_n (pc := 547) dL_law_547 rfl rfl ?_
  refine go_iload_n (pc := 548) dL_law_548 rfl rfl ?_
  refine go_iconst (pc := 549) (v := nI 2) dL_law_549 (by decide) ?_
  refine go_iadd (pc := 550) dL_law_550 ?_
  refine go_top (y := nI (i + 2)) (nI_add i 2) ?_
  refine go_sld (pc := 551) (vp_in_nI (by omega) (by omega)) dL_law_551 ?_
  refine go_top (y := sc G (i + 2)) (congrArg G.2.2.2.2.2.2.2 (nI_clamp (by omega))) ?_
  refine go_aload_n (pc := 552) dL_law_552 rfl rfl ?_
  refine go_iload_n (pc := 553) dL_law_553 rfl rfl ?_
  refine go_iconst (pc := 554) (v := nI 3) dL_law_554 (by decide) ?_
  refine go_iadd (pc := 555) dL_law_555 ?_
  refine go_top (y := nI (i + 3)) (nI_add i 3) ?_
  refine go_sld (pc := 556) (vp_in_nI (by omega) (by omega)) dL_law_556 ?_
  refine go_top (y := sc G (i + 3)) (congrArg G.2.2.2.2.2.2.2 (nI_clamp (by omega))) ?_
  refine gq_callV_i (pc := 557) (F := wX G m) vL_60 rfl (tX9_put (Q := fun a b => a = r ∧ b = c1) (X1 _ ⟨rfl, rfl⟩)) rfl rfl (gz_b (by decide)) xw0 rfl (Nat.le_of_ble_eq_true rfl) ⟨Nat.le_of_ble_eq_true rfl, Nat.le_of_ble_eq_true rfl, Nat.le_add_left _ _, Nat.le_add_left _ _⟩ dL_law_557 (fun a b h => ?_)
  rw [h.1, h.2]
  refine go_w (show wX G m c1 = wM G c1 m from rfl) ?_
  refine go_aload_n (pc := 560) dL_law_560 rfl rfl ?_
  refine go_aload_n (pc := 561) dL_law_561 rfl rfl ?_
  refine go_iload_n (pc := 562) dL_law_562 rfl rfl ?_
  refine go_iconst (pc := 563) (v := nI 1) dL_law_563 (by decide) ?_
  refine go_iadd (pc := 564) dL_law_564 ?_
  refine go_top (y := nI (i + 1)) (nI_add i 1) ?_
  refine go_sld (pc := 565) (vp_in_nI (by omega) (by omega)) dL_law_565 ?_
  refine go_top (y := sc G (i + 1)) (congrArg G.2.2.2.2.2.2.2 (nI_clamp (by omega))) ?_
  refine go_aload_n (pc := 566) dL_law_566 rfl rfl ?_
  refine go_iload_n (pc := 567) dL_law_567 rfl rfl ?_
  refine go_iconst (pc := 568) (v := nI 2) dL_law_568 (by decide) ?_
  refine go_iadd (pc := 569) dL_law_569 ?_
  refine go_top (y := nI (i + 2)) (nI_add i 2) ?_
  refine go_sld (pc := 570) (vp_in_nI (by omega) (by omega)) dL_law_570 ?_
  refine go_top (y := sc G (i + 2)) (congrArg G.2.2.2.2.2.2.2 (nI_clamp (by omega))) ?_
  refine go_aload_n (pc := 571) dL_law_571 rfl rfl ?_
  refine go_iload_n (pc := 572) dL_law_572 rfl rfl ?_
  refine go_iconst (pc := 573) (v := nI 3) dL_law_573 (by decide) ?_
  refine go_iadd (pc := 574) dL_law_574 ?_
  refine go_top (y := nI (i + 3)) (nI_add i 3) ?_
  refine go_sld (pc := 575) (vp_in_nI (by omega) (by omega)) dL_law_575 ?_
  refine go_top (y := sc G (i + 3)) (congrArg G.2.2.2.2.2.2.2 (nI_clamp (by omega))) ?_
  refine gq_callV_i (pc := 576) (F := wM G c1) vL_63 rfl (tX10_put (Q := fun a b => a = r ∧ b = m1) (M1 _ ⟨rfl, rfl⟩)) rfl rfl (gz_b (by decide)) yw0 rfl (Nat.le_of_ble_eq_true rfl) ⟨Nat.le_of_ble_eq_true rfl, Nat.le_of_ble_eq_true rfl, Nat.le_add_left _ _, Nat.le_add_left _ _⟩ dL_law_576 (fun a b h => ?_)
  rw [h.1, h.2]
  refine go_icmp_eq_t (pc := 579) (tgt := 1393) dL_law_579 (by decide) rfl ?_
  exact go_w (show wM G c1 m1 = wX G m1 c1 from rfl) (kk c1 m1 (R1.mono (by omega)))
set_option maxRecDepth 100000 in
theorem law_12 {l : Launch} {G : gG} {T i : Nat} {c m : gMem} (hi : i + 6 ≤ G.2.2.2.2.2.2.1) (hL : G.2.2.2.2.2.2.1 ≤ 3072) (R : Rel T c m) (hT : T + 200000 < 2 ^ 28) (kk : ∀ c1 m1, Rel (T + 200000) c1 m1 → Go l G mL_law lawB 1393 (lvL G i) [] 84 146846 (wX G m1 c1)) : Go l G mL_law lawB 584 (lvL G i) [] 84 146846 (wX G m c) := by
  obtain ⟨r, c1, m1, X1, M1, R1⟩ := op_byteAt (l1 := sc G (i + 1)) (l2 := sc G (i + 2)) R
  refine go_aload_n (pc := 584) dL_law_584 rfl rfl ?_
  refine go_aload_n (pc := 585) dL_law_585 rfl rfl ?_
  refine go_iload_n (pc := 586) dL_law_586 rfl rfl ?_
  refine go_iconst (pc := 587) (v := nI 1) dL_law_587 (by decide) ?_
  refine go_iadd (pc := 588) dL_law_588 ?_
  refine go_top (y := nI (i + 1)) (nI_add i 1) ?_
  refine go_sld (pc := 589) (vp_in_nI (by omega) (by omega)) dL_law_589 ?_
  refine go_top (y := sc G (i + 1)) (congrArg G.2.2.2.2.2.2.2 (nI_clamp (by omega))) ?_
  refine go_aload_n (pc := 590) dL_law_590 rfl rfl ?_
  refine go_iload_n (pc := 591) dL_law_591 rfl rfl ?_
  refine go_iconst (pc := 592) (v := nI 2) dL_law_592 (by decide) ?_
  refine go_iadd (pc := 593) dL_law_593 ?_
  refine go_top (y := nI (i + 2)) (nI_add i 2) ?_
  refine go_sld (pc := 594) (vp_in_nI (by omega) (by omega)) dL_law_594 ?_
  refine go_top (y := sc G (i + 2)) (congrArg G.2.2.2.2.2.2.2 (nI_clamp (by omega))) ?_
  refine gq_callV_i (pc := 595) (F := wX G m) vL_64 rfl (tX9_byteAt (Q := fun a b => a = r ∧ b = c1) (X1 _ ⟨rfl, rfl⟩)) rfl rfl (gz_b (by decide)) xw0 rfl (Nat.le_of_ble_eq_true rfl) ⟨Nat.le_of_ble_eq_true rfl, Nat.le_of_ble_eq_true rfl, Nat.le_add_left _ _, Nat.le_add_left _ _⟩ dL_law_595 (fun a b h => ?_)
  rw [h.1, h.2]
  refine go_w (show wX G m c1 = wM G c1 m from rfl) ?_
  refine go_aload_n (pc := 598) dL_law_598 rfl rfl ?_
  refine go_aload_n (pc := 599) dL_law_599 rfl rfl ?_
  refine go_iload_n (pc := 600) dL_law_600 rfl rfl ?_
  refine go_iconst (pc := 601) (v := nI 1) dL_law_601 (by decide) ?_
  refine go_iadd (pc := 602) dL_law_602 ?_
  refine go_top (y := nI (i + 1)) (nI_add i 1) ?_
  refine go_sld (pc := 603) (vp_in_nI (by omega) (by omega)) dL_law_603 ?_
  refine go_top (y := sc G (i + 1)) (congrArg G.2.2.2.2.2.2.2 (nI_clamp (by omega))) ?_
  refine go_aload_n (pc := 604) dL_law_604 rfl rfl ?_
  refine go_iload_n (pc := 605) dL_law_605 rfl rfl ?_
  refine go_iconst (pc := 606) (v := nI 2) dL_law_606 (by decide) ?_
  refine go_iadd (pc := 607) dL_law_607 ?_
  refine go_top (y := nI (i + 2)) (nI_add i 2) ?_
  refine go_sld (pc := 608) (vp_in_nI (by omega) (by omega)) dL_law_608 ?_
  refine go_top (y := sc G (i + 2)) (congrArg G.2.2.2.2.2.2.2 (nI_clamp (by omega))) ?_
  refine gq_callV_i (pc := 609) (F := wM G c1) vL_67 rfl (tX10_byteAt (Q := fun a b => a = r ∧ b = m1) (M1 _ ⟨rfl, rfl⟩)) rfl rfl (gz_b (by decide)) yw0 rfl (Nat.le_of_ble_eq_true rfl) ⟨Nat.le_of_ble_eq_true rfl, Nat.le_of_ble_eq_true rfl, Nat.le_add_left _ _, Nat.le_add_left _ _⟩ dL_law_609 (fun a b h => ?_)
  rw [h.1, h.2]
  refine go_icmp_eq_t (pc := 612) (tgt := 1393) dL_law_612 (by decide) rfl ?_
  exact go_w (show wM G c1 m1 = wX G m1 c1 from rfl) (kk c1 m1 (R1.mono (by omega)))
set_option maxRecDepth 100000 in
theorem law_13 {l : Launch} {G : gG} {T i : Nat} {c m : gMem} (hi : i + 6 ≤ G.2.2.2.2.2.2.1) (hL : G.2.2.2.2.2.2.1 ≤ 3072) (R : Rel T c m) (hT : T + 200000 < 2 ^ 28) (kk : ∀ c1 m1, Rel (T + 200000) c1 m1 → Go l G mL_law lawB 1393 (lvL G i) [] 84 146846 (wX G m1 c1)) : Go l G mL_law lawB 617 (lvL G i) [] 84 146846 (wX G m c) := by
  obtain ⟨r, c1, m1, X1, M1, R1⟩ := op_key (l1 := sc G (i + 1)) (l2 := sc G (i + 2)) (l3 := sc G (i + 3)) R
  refine go_aload_n (pc := 617) dL_law_617 rfl rfl ?_
  refine go_aload_n (pc := 618) dL_law_618 rfl rfl ?_
  refine go_iload_n (pc := 619) dL_law_619 rfl rfl ?_
  refine go_iconst (pc := 620) (v := nI 1) dL_law_620 (by decide) ?_
  refine go_iadd (pc := 621) dL_law_621 ?_
  refine go_top (y := nI (i + 1)) (nI_add i 1) ?_
  refine go_sld (pc := 622) (vp_in_nI (by omega) (by omega)) dL_law_622 ?_
  refine go_top (y := sc G (i + 1)) (congrArg G.2.2.2.2.2.2.2 (nI_clamp (by omega))) ?_
  refine go_aload_n (pc := 623) dL_law_623 rfl rfl ?_
  refine go_iload_n (pc := 624) dL_law_624 rfl rfl ?_
  refine go_iconst (pc := 625) (v := nI 2) dL_law_625 (by decide) ?_
  refine go_iadd (pc := 626) dL_law_626 ?_
  refine go_top (y := nI (i + 2)) (nI_add i 2) ?_
  refine go_sld (pc := 627) (vp_in_nI (by omega) (by omega)) dL_law_627 ?_
  refine go_top (y := sc G (i + 2)) (congrArg G.2.2.2.2.2.2.2 (nI_clamp (by omega))) ?_
  refine go_aload_n (pc := 628) dL_law_628 rfl rfl ?_
  refine go_iload_n (pc := 629) dL_law_629 rfl rfl ?_
  refine go_iconst (pc := 630) (v := nI 3) dL_law_630 (by decide) ?_
  refine go_iadd (pc := 631) dL_law_631 ?_
  refine go_top (y := nI (i + 3)) (nI_add i 3) ?_
  refine go_sld (pc := 632) (vp_in_nI (by omega) (by omega)) dL_law_632 ?_
  refine go_top (y := sc G (i + 3)) (congrArg G.2.2.2.2.2.2.2 (nI_clamp (by omega))) ?_
  refine gq_callV_i (pc := 633) (F := wX G m) vL_68 rfl (tX9_key (Q := fun a b => a = r ∧ b = c1) (X1 _ ⟨rfl, rfl⟩)) rfl rfl (gz_b (by decide)) xw0 rfl (Nat.le_of_ble_eq_true rfl) ⟨Nat.le_of_ble_eq_true rfl, Nat.le_of_ble_eq_true rfl, Nat.le_add_left _ _, Nat.le_add_left _ _⟩ dL_law_633 (fun a b h => ?_)
  rw [h.1, h.2]
  refine go_w (show wX G m c1 = wM G c1 m from rfl) ?_
  refine go_aload_n (pc := 636) dL_law_636 rfl rfl ?_
  refine go_aload_n (pc := 637) dL_law_637 rfl rfl ?_
  refine go_iload_n (pc := 638) dL_law_638 rfl rfl ?_
  refine go_iconst (pc := 639) (v := nI 1) dL_law_639 (by decide) ?_
  refine go_iadd (pc := 640) dL_law_640 ?_
  refine go_top (y := nI (i + 1)) (nI_add i 1) ?_
  refine go_sld (pc := 641) (vp_in_nI (by omega) (by omega)) dL_law_641 ?_
  refine go_top (y := sc G (i + 1)) (congrArg G.2.2.2.2.2.2.2 (nI_clamp (by omega))) ?_
  refine go_aload_n (pc := 642) dL_law_642 rfl rfl ?_
  refine go_iload_n (pc := 643) dL_law_643 rfl rfl ?_
  refine go_iconst (pc := 644) (v := nI 2) dL_law_644 (by decide) ?_
  refine go_iadd (pc := 645) dL_law_645 ?_
  refine go_top (y := nI (i + 2)) (nI_add i 2) ?_
  refine go_sld (pc := 646) (vp_in_nI (by omega) (by omega)) dL_law_646 ?_
  refine go_top (y := sc G (i + 2)) (congrArg G.2.2.2.2.2.2.2 (nI_clamp (by omega))) ?_
  refine go_aload_n (pc := 647) dL_law_647 rfl rfl ?_
  refine go_iload_n (pc := 648) dL_law_648 rfl rfl ?_
  refine go_iconst (pc := 649) (v := nI 3) dL_law_649 (by decide) ?_
  refine go_iadd (pc := 650) dL_law_650 ?_
  refine go_top (y := nI (i + 3)) (nI_add i 3) ?_
  refine go_sld (pc := 651) (vp_in_nI (by omega) (by omega)) dL_law_651 ?_
  refine go_top (y := sc G (i + 3)) (congrArg G.2.2.2.2.2.2.2 (nI_clamp (by omega))) ?_
  refine gq_callV_i (pc := 652) (F := wM G c1) vL_71 rfl (tX10_key (Q := fun a b => a = r ∧ b = m1) (M1 _ ⟨rfl, rfl⟩)) rfl rfl (gz_b (by decide)) yw0 rfl (Nat.le_of_ble_eq_true rfl) ⟨Nat.le_of_ble_eq_true rfl, Nat.le_of_ble_eq_true rfl, Nat.le_add_left _ _, Nat.le_add_left _ _⟩ dL_law_652 (fun a b h => ?_)
  rw [h.1, h.2]
  refine go_icmp_eq_t (pc := 655) (tgt := 1393) dL_law_655 (by decide) rfl ?_
  exact go_w (show wM G c1 m1 = wX G m1 c1 from rfl) (kk c1 m1 (R1.mono (by omega)))
set_option maxRecDepth 100000 in
theorem law_14 {l : Launch} {G : gG} {T i : Nat} {c m : gMem} (hi : i + 6 ≤ G.2.2.2.2.2.2.1) (hL : G.2.2.2.2.2.2.1 ≤ 3072) (R : Rel T c m) (hT : T + 200000 < 2 ^ 28) (kk : ∀ c1 m1, Rel (T + 200000) c1 m1 → Go l G mL_law lawB 1393 (lvL G i) [] 84 146846 (wX G m1 c1)) : Go l G mL_law lawB 660 (lvL G i) [] 84 146846 (wX G m c) := by
  obtain ⟨r, c1, m1, X1, M1, R1⟩ := op_find (l1 := sc G (i + 1)) (l2 := sc G (i + 2)) R
  refine go_aload_n (pc := 660) dL_law_660 rfl rfl ?_
  refine go_aload_n (pc := 661) dL_law_661 rfl rfl ?_
  refine go_iload_n (pc := 662) dL_law_662 rfl rfl ?_
  refine go_iconst (pc := 663) (v := nI 1) dL_law_663 (by decide) ?_
  refine go_iadd (pc := 664) dL_law_664 ?_
  refine go_top (y := nI (i + 1)) (nI_add i 1) ?_
  refine go_sld (pc := 665) (vp_in_nI (by omega) (by omega)) dL_law_665 ?_
  refine go_top (y := sc G (i + 1)) (congrArg G.2.2.2.2.2.2.2 (nI_clamp (by omega))) ?_
  refine go_aload_n (pc := 666) dL_law_666 rfl rfl ?_
  refine go_iload_n (pc := 667) dL_law_667 rfl rfl ?_
  refine go_iconst (pc := 668) (v := nI 2) dL_law_668 (by decide) ?_
  refine go_iadd (pc := 669) dL_law_669 ?_
  refine go_top (y := nI (i + 2)) (nI_add i 2) ?_
  refine go_sld (pc := 670) (vp_in_nI (by omega) (by omega)) dL_law_670 ?_
  refine go_top (y := sc G (i + 2)) (congrArg G.2.2.2.2.2.2.2 (nI_clamp (by omega))) ?_
  refine gq_callV_i (pc := 671) (F := wX G m) vL_72 rfl (tX9_find (Q := fun a b => a = r ∧ b = c1) (X1 _ ⟨rfl, rfl⟩)) rfl rfl (gz_b (by decide)) xw0 rfl (Nat.le_of_ble_eq_true rfl) ⟨Nat.le_of_ble_eq_true rfl, Nat.le_of_ble_eq_true rfl, Nat.le_add_left _ _, Nat.le_add_left _ _⟩ dL_law_671 (fun a b h => ?_)
  rw [h.1, h.2]
  refine go_w (show wX G m c1 = wM G c1 m from rfl) ?_
  refine go_aload_n (pc := 674) dL_law_674 rfl rfl ?_
  refine go_aload_n (pc := 675) dL_law_675 rfl rfl ?_
  refine go_iload_n (pc := 676) dL_law_676 rfl rfl ?_
  refine go_iconst (pc := 677) (v := nI 1) dL_law_677 (by decide) ?_
  refine go_iadd (pc := 678) dL_law_678 ?_
  refine go_top (y := nI (i + 1)) (nI_add i 1) ?_
  refine go_sld (pc := 679) (vp_in_nI (by omega) (by omega)) dL_law_679 ?_
  refine go_top (y := sc G (i + 1)) (congrArg G.2.2.2.2.2.2.2 (nI_clamp (by omega))) ?_
  refine go_aload_n (pc := 680) dL_law_680 rfl rfl ?_
  refine go_iload_n (pc := 681) dL_law_681 rfl rfl ?_
  refine go_iconst (pc := 682) (v := nI 2) dL_law_682 (by decide) ?_
  refine go_iadd (pc := 683) dL_law_683 ?_
  refine go_top (y := nI (i + 2)) (nI_add i 2) ?_
  refine go_sld (pc := 684) (vp_in_nI (by omega) (by omega)) dL_law_684 ?_
  refine go_top (y := sc G (i + 2)) (congrArg G.2.2.2.2.2.2.2 (nI_clamp (by omega))) ?_
  refine gq_callV_i (pc := 685) (F := wM G c1) vL_75 rfl (tX10_find (Q := fun a b => a = r ∧ b = m1) (M1 _ ⟨rfl, rfl⟩)) rfl rfl (gz_b (by decide)) yw0 rfl (Nat.le_of_ble_eq_true rfl) ⟨Nat.le_of_ble_eq_true rfl, Nat.le_of_ble_eq_true rfl, Nat.le_add_left _ _, Nat.le_add_left _ _⟩ dL_law_685 (fun a b h => ?_)
  rw [h.1, h.2]
  refine go_icmp_eq_t (pc := 688) (tgt := 1393) dL_law_688 (by decide) rfl ?_
  exact go_w (show wM G c1 m1 = wX G m1 c1 from rfl) (kk c1 m1 (R1.mono (by omega)))
set_option maxRecDepth 100000 in
theorem law_15 {l : Launch} {G : gG} {T i : Nat} {c m : gMem} (hi : i + 6 ≤ G.2.2.2.2.2.2.1) (hL : G.2.2.2.2.2.2.1 ≤ 3072) (R : Rel T c m) (hT : T + 200000 < 2 ^ 28) (kk : ∀ c1 m1, Rel (T + 200000) c1 m1 → Go l G mL_law lawB 1393 (lvL G i) [] 84 146846 (wX G m1 c1)) : Go l G mL_law lawB 693 (lvL G i) [] 84 146846 (wX G m c) := by
  obtain ⟨r, c1, m1, X1, M1, R1⟩ := op_root (l1 := sc G (i + 1)) (l2 := sc G (i + 2)) R
  refine go_aload_n (pc := 693) dL_law_693 rfl rfl ?_
  refine go_aload_n (pc := 694) dL_law_694 rfl rfl ?_
  refine go_iload_n (pc := 695) dL_law_695 rfl rfl ?_
  refine go_iconst (pc := 696) (v := nI 1) dL_law_696 (by decide) ?_
  refine go_iadd (pc := 697) dL_law_697 ?_
  refine go_top (y := nI (i + 1)) (nI_add i 1) ?_
  refine go_sld (pc := 698) (vp_in_nI (by omega) (by omega)) dL_law_698 ?_
  refine go_top (y := sc G (i + 1)) (congrArg G.2.2.2.2.2.2.2 (nI_clamp (by omega))) ?_
  refine go_aload_n (pc := 699) dL_law_699 rfl rfl ?_
  refine go_iload_n (pc := 700) dL_law_700 rfl rfl ?_
  refine go_iconst (pc := 701) (v := nI 2) dL_law_701 (by decide) ?_
  refine go_iadd (pc := 702) dL_law_702 ?_
  refine go_top (y := nI (i + 2)) (nI_add i 2) ?_
  refine go_sld (pc := 703) (vp_in_nI (by omega) (by omega)) dL_law_703 ?_
  refine go_top (y := sc G (i + 2)) (congrArg G.2.2.2.2.2.2.2 (nI_clamp (by omega))) ?_
  refine gq_callV_i (pc := 704) (F := wX G m) vL_76 rfl (tX9_root (Q := fun a b => a = r ∧ b = c1) (X1 _ ⟨rfl, rfl⟩)) rfl rfl (gz_b (by decide)) xw0 rfl (Nat.le_of_ble_eq_true rfl) ⟨Nat.le_of_ble_eq_true rfl, Nat.le_of_ble_eq_true rfl, Nat.le_add_left _ _, Nat.le_add_left _ _⟩ dL_law_704 (fun a b h => ?_)
  rw [h.1, h.2]
  refine go_w (show wX G m c1 = wM G c1 m from rfl) ?_
  refine go_aload_n (pc := 707) dL_law_707 rfl rfl ?_
  refine go_aload_n (pc := 708) dL_law_708 rfl rfl ?_
  refine go_iload_n (pc := 709) dL_law_709 rfl rfl ?_
  refine go_iconst (pc := 710) (v := nI 1) dL_law_710 (by decide) ?_
  refine go_iadd (pc := 711) dL_law_711 ?_
  refine go_top (y := nI (i + 1)) (nI_add i 1) ?_
  refine go_sld (pc := 712) (vp_in_nI (by omega) (by omega)) dL_law_712 ?_
  refine go_top (y := sc G (i + 1)) (congrArg G.2.2.2.2.2.2.2 (nI_clamp (by omega))) ?_
  refine go_aload_n (pc := 713) dL_law_713 rfl rfl ?_
  refine go_iload_n (pc := 714) dL_law_714 rfl rfl ?_
  refine go_iconst (pc := 715) (v := nI 2) dL_law_715 (by decide) ?_
  refine go_iadd (pc := 716) dL_law_716 ?_
  refine go_top (y := nI (i + 2)) (nI_add i 2) ?_
  refine go_sld (pc := 717) (vp_in_nI (by omega) (by omega)) dL_law_717 ?_
  refine go_top (y := sc G (i + 2)) (congrArg G.2.2.2.2.2.2.2 (nI_clamp (by omega))) ?_
  refine gq_callV_i (pc := 718) (F := wM G c1) vL_79 rfl (tX10_root (Q := fun a b => a = r ∧ b = m1) (M1 _ ⟨rfl, rfl⟩)) rfl rfl (gz_b (by decide)) yw0 rfl (Nat.le_of_ble_eq_true rfl) ⟨Nat.le_of_ble_eq_true rfl, Nat.le_of_ble_eq_true rfl, Nat.le_add_left _ _, Nat.le_add_left _ _⟩ dL_law_718 (fun a b h => ?_)
  rw [h.1, h.2]
  refine go_icmp_eq_t (pc := 721) (tgt := 1393) dL_law_721 (by decide) rfl ?_
  exact go_w (show wM G c1 m1 = wX G m1 c1 from rfl) (kk c1 m1 (R1.mono (by omega)))
set_option maxRecDepth 100000 in
theorem law_16 {l : Launch} {G : gG} {T i : Nat} {c m : gMem} (hi : i + 6 ≤ G.2.2.2.2.2.2.1) (hL : G.2.2.2.2.2.2.1 ≤ 3072) (R : Rel T c m) (hT : T + 200000 < 2 ^ 28) (kk : ∀ c1 m1, Rel (T + 200000) c1 m1 → Go l G mL_law lawB 1393 (lvL G i) [] 84 146846 (wX G m1 c1)) : Go l G mL_law lawB 726 (lvL G i) [] 84 146846 (wX G m c) := by
  obtain ⟨r, c1, m1, X1, M1, R1⟩ := op_rootOf (l1 := sc G (i + 1)) R
  refine go_aload_n (pc := 726) dL_law_726 rfl rfl ?_
  refine go_aload_n (pc := 727) dL_law_727 rfl rfl ?_
  refine go_iload_n (pc := 728) dL_law_728 rfl rfl ?_
  refine go_iconst (pc := 729) (v := nI 1) dL_law_729 (by decide) ?_
  refine go_iadd (pc := 730) dL_law_730 ?_
  refine go_top (y := nI (i + 1)) (nI_add i 1) ?_
  refine go_sld (pc := 731) (vp_in_nI (by omega) (by omega)) dL_law_731 ?_
  refine go_top (y := sc G (i + 1)) (congrArg G.2.2.2.2.2.2.2 (nI_clamp (by omega))) ?_
  refine gq_callV_i (pc := 732) (F := wX G m) vL_80 rfl (tX9_rootOf (Q := fun a b => a = r ∧ b = c1) (X1 _ ⟨rfl, rfl⟩)) rfl rfl (gz_b (by decide)) xw0 rfl (Nat.le_of_ble_eq_true rfl) ⟨Nat.le_of_ble_eq_true rfl, Nat.le_of_ble_eq_true rfl, Nat.le_add_left _ _, Nat.le_add_left _ _⟩ dL_law_732 (fun a b h => ?_)
  rw [h.1, h.2]
  refine go_w (show wX G m c1 = wM G c1 m from rfl) ?_
  refine go_aload_n (pc := 735) dL_law_735 rfl rfl ?_
  refine go_aload_n (pc := 736) dL_law_736 rfl rfl ?_
  refine go_iload_n (pc := 737) dL_law_737 rfl rfl ?_
  refine go_iconst (pc := 738) (v := nI 1) dL_law_738 (by decide) ?_
  refine go_iadd (pc := 739) dL_law_739 ?_
  refine go_top (y := nI (i + 1)) (nI_add i 1) ?_
  refine go_sld (pc := 740) (vp_in_nI (by omega) (by omega)) dL_law_740 ?_
  refine go_top (y := sc G (i + 1)) (congrArg G.2.2.2.2.2.2.2 (nI_clamp (by omega))) ?_
  refine gq_callV_i (pc := 741) (F := wM G c1) vL_83 rfl (tX10_rootOf (Q := fun a b => a = r ∧ b = m1) (M1 _ ⟨rfl, rfl⟩)) rfl rfl (gz_b (by decide)) yw0 rfl (Nat.le_of_ble_eq_true rfl) ⟨Nat.le_of_ble_eq_true rfl, Nat.le_of_ble_eq_true rfl, Nat.le_add_left _ _, Nat.le_add_left _ _⟩ dL_law_741 (fun a b h => ?_)
  rw [h.1, h.2]
  refine go_icmp_eq_t (pc := 744) (tgt := 1393) dL_law_744 (by decide) rfl ?_
  exact go_w (show wM G c1 m1 = wX G m1 c1 from rfl) (kk c1 m1 (R1.mono (by omega)))
set_option maxRecDepth 100000 in
theorem law_17 {l : Launch} {G : gG} {T i : Nat} {c m : gMem} (hi : i + 6 ≤ G.2.2.2.2.2.2.1) (hL : G.2.2.2.2.2.2.1 ≤ 3072) (R : Rel T c m) (hT : T + 200000 < 2 ^ 28) (kk : ∀ c1 m1, Rel (T + 200000) c1 m1 → Go l G mL_law lawB 1393 (lvL G i) [] 84 146846 (wX G m1 c1)) : Go l G mL_law lawB 749 (lvL G i) [] 84 146846 (wX G m c) := by
  obtain ⟨r, c1, m1, X1, M1, R1⟩ := op_copy (l1 := sc G (i + 1)) (l2 := sc G (i + 2)) (l3 := sc G (i + 3)) (l4 := sc G (i + 4)) (l5 := sc G (i + 5)) R
  refine go_aload_n (pc := 749) dL_law_749 rfl rfl ?_
  refine go_aload_n (pc := 750) dL_law_750 rfl rfl ?_
  refine go_iload_n (pc := 751) dL_law_751 rfl rfl ?_
  refine go_iconst (pc := 752) (v := nI 1) dL_law_752 (by decide) ?_
  refine go_iadd (pc := 753) dL_law_753 ?_
  refine go_top (y := nI (i + 1)) (nI_add i 1) ?_
  refine go_sld (pc := 754) (vp_in_nI (by omega) (by omega)) dL_law_754 ?_
  refine go_top (y := sc G (i + 1)) (congrArg G.2.2.2.2.2.2.2 (nI_clamp (by omega))) ?_
  refine go_aload_n (pc := 755) dL_law_755 rfl rfl ?_
  refine go_iload_n (pc := 756) dL_law_756 rfl rfl ?_
  refine go_iconst (pc := 757) (v := nI 2) dL_law_757 (by decide) ?_
  refine go_iadd (pc := 758) dL_law_758 ?_
  refine go_top (y := nI (i + 2)) (nI_add i 2) ?_
  refine go_sld (pc := 759) (vp_in_nI (by omega) (by omega)) dL_law_759 ?_
  refine go_top (y := sc G (i + 2)) (congrArg G.2.2.2.2.2.2.2 (nI_clamp (by omega))) ?_
  refine go_aload_n (pc := 760) dL_law_760 rfl rfl ?_
  refine go_iload_n (pc := 761) dL_law_761 rfl rfl ?_
  refine go_iconst (pc := 762) (v := nI 3) dL_law_762 (by decide) ?_
  refine go_iadd (pc := 763) dL_law_763 ?_
  refine go_top (y := nI (i + 3)) (nI_add i 3) ?_
  refine go_sld (pc := 764) (vp_in_nI (by omega) (by omega)) dL_law_764 ?_
  refine go_top (y := sc G (i + 3)) (congrArg G.2.2.2.2.2.2.2 (nI_clamp (by omega))) ?_
  refine go_aload_n (pc := 765) dL_law_765 rfl rfl ?_
  refine go_iload_n (pc := 766) dL_law_766 rfl rfl ?_
  refine go_iconst (pc := 767) (v := nI 4) dL_law_767 (by decide) ?_
  refine go_iadd (pc := 768) dL_law_768 ?_
  refine go_top (y := nI (i + 4)) (nI_add i 4) ?_
  refine go_sld (pc := 769) (vp_in_nI (by omega) (by omega)) dL_law_769 ?_
  refine go_top (y := sc G (i + 4)) (congrArg G.2.2.2.2.2.2.2 (nI_clamp (by omega))) ?_
  refine go_aload_n (pc := 770) dL_law_770 rfl rfl ?_
  refine go_iload_n (pc := 771) dL_law_771 rfl rfl ?_
  refine go_iconst (pc := 772) (v := nI 5) dL_law_772 (by decide) ?_
  refine go_iadd (pc := 773) dL_law_773 ?_
  refine go_top (y := nI (i + 5)) (nI_add i 5) ?_
  refine go_sld (pc := 774) (vp_in_nI (by omega) (by omega)) dL_law_774 ?_
  refine go_top (y := sc G (i + 5)) (congrArg G.2.2.2.2.2.2.2 (nI_clamp (by omega))) ?_
  refine gq_callV_i (pc := 775) (F := wX G m) vL_84 rfl (tX9_copy (Q := fun a b => a = r ∧ b = c1) (X1 _ ⟨rfl, rfl⟩)) rfl rfl (gz_b (by decide)) xw0 rfl (Nat.le_of_ble_eq_true rfl) ⟨Nat.le_of_ble_eq_true rfl, Nat.le_of_ble_eq_true rfl, Nat.le_add_left _ _, Nat.le_add_left _ _⟩ dL_law_775 (fun a b h => ?_)
  rw [h.1, h.2]
  refine go_w (show wX G m c1 = wM G c1 m from rfl) ?_
  refine go_aload_n (pc := 778) dL_law_778 rfl rfl ?_
  refine go_aload_n (pc := 779) dL_law_779 rfl rfl ?_
  refine go_iload_n (pc := 780) dL_law_780 rfl rfl ?_
  refine go_iconst (pc := 781) (v := nI 1) dL_law_781 (by decide) ?_
  refine go_iadd (pc := 782) dL_law_782 ?_
  refine go_top (y := nI (i + 1)) (nI_add i 1) ?_
  refine go_sld (pc := 783) (vp_in_nI (by omega) (by omega)) dL_law_783 ?_
  refine go_top (y := sc G (i + 1)) (congrArg G.2.2.2.2.2.2.2 (nI_clamp (by omega))) ?_
  refine go_aload_n (pc := 784) dL_law_784 rfl rfl ?_
  refine go_iload_n (pc := 785) dL_law_785 rfl rfl ?_
  refine go_iconst (pc := 786) (v := nI 2) dL_law_786 (by decide) ?_
  refine go_iadd (pc := 787) dL_law_787 ?_
  refine go_top (y := nI (i + 2)) (nI_add i 2) ?_
  refine go_sld (pc := 788) (vp_in_nI (by omega) (by omega)) dL_law_788 ?_
  refine go_top (y := sc G (i + 2)) (congrArg G.2.2.2.2.2.2.2 (nI_clamp (by omega))) ?_
  refine go_aload_n (pc := 789) dL_law_789 rfl rfl ?_
  refine go_iload_n (pc := 790) dL_law_790 rfl rfl ?_
  refine go_iconst (pc := 791) (v := nI 3) dL_law_791 (by decide) ?_
  refine go_iadd (pc := 792) dL_law_792 ?_
  refine go_top (y := nI (i + 3)) (nI_add i 3) ?_
  refine go_sld (pc := 793) (vp_in_nI (by omega) (by omega)) dL_law_793 ?_
  refine go_top (y := sc G (i + 3)) (congrArg G.2.2.2.2.2.2.2 (nI_clamp (by omega))) ?_
  refine go_aload_n (pc := 794) dL_law_794 rfl rfl ?_
  refine go_iload_n (pc := 795) dL_law_795 rfl rfl ?_
  refine go_iconst (pc := 796) (v := nI 4) dL_law_796 (by decide) ?_
  refine go_iadd (pc := 797) dL_law_797 ?_
  refine go_top (y := nI (i + 4)) (nI_add i 4) ?_
  refine go_sld (pc := 798) (vp_in_nI (by omega) (by omega)) dL_law_798 ?_
  refine go_top (y := sc G (i + 4)) (congrArg G.2.2.2.2.2.2.2 (nI_clamp (by omega))) ?_
  refine go_aload_n (pc := 799) dL_law_799 rfl rfl ?_
  refine go_iload_n (pc := 800) dL_law_800 rfl rfl ?_
  refine go_iconst (pc := 801) (v := nI 5) dL_law_801 (by decide) ?_
  refine go_iadd (pc := 802) dL_law_802 ?_
  refine go_top (y := nI (i + 5)) (nI_add i 5) ?_
  refine go_sld (pc := 803) (vp_in_nI (by omega) (by omega)) dL_law_803 ?_
  refine go_top (y := sc G (i + 5)) (congrArg G.2.2.2.2.2.2.2 (nI_clamp (by omega))) ?_
  refine gq_callV_i (pc := 804) (F := wM G c1) vL_88 rfl (tX10_copy (Q := fun a b => a = r ∧ b = m1) (M1 _ ⟨rfl, rfl⟩)) rfl rfl (gz_b (by decide)) yw0 rfl (Nat.le_of_ble_eq_true rfl) ⟨Nat.le_of_ble_eq_true rfl, Nat.le_of_ble_eq_true rfl, Nat.le_add_left _ _, Nat.le_add_left _ _⟩ dL_law_804 (fun a b h => ?_)
  rw [h.1, h.2]
  refine go_icmp_eq_t (pc := 807) (tgt := 1393) dL_law_807 (by decide) rfl ?_
  exact go_w (show wM G c1 m1 = wX G m1 c1 from rfl) (kk c1 m1 (R1.mono (by omega)))
set_option maxRecDepth 100000 in
theorem law_18 {l : Launch} {G : gG} {T i : Nat} {c m : gMem} (hi : i + 6 ≤ G.2.2.2.2.2.2.1) (hL : G.2.2.2.2.2.2.1 ≤ 3072) (R : Rel T c m) (hT : T + 200000 < 2 ^ 28) (kk : ∀ c1 m1, Rel (T + 200000) c1 m1 → Go l G mL_law lawB 1393 (lvL G i) [] 84 146846 (wX G m1 c1)) : Go l G mL_law lawB 812 (lvL G i) [] 84 146846 (wX G m c) := by
  obtain ⟨r, c1, m1, X1, M1, R1⟩ := op_copied R
  refine go_aload_n (pc := 812) dL_law_812 rfl rfl ?_
  refine gq_callV_i (pc := 813) (F := wX G m) vL_89 rfl (tX9_copied (Q := fun a b => a = r ∧ b = c1) (X1 _ ⟨rfl, rfl⟩)) rfl rfl (gz_b (by decide)) xw0 rfl (Nat.le_of_ble_eq_true rfl) ⟨Nat.le_of_ble_eq_true rfl, Nat.le_of_ble_eq_true rfl, Nat.le_add_left _ _, Nat.le_add_left _ _⟩ dL_law_813 (fun a b h => ?_)
  rw [h.1, h.2]
  refine go_w (show wX G m c1 = wM G c1 m from rfl) ?_
  refine go_aload_n (pc := 816) dL_law_816 rfl rfl ?_
  refine gq_callV_i (pc := 817) (F := wM G c1) vL_93 rfl (tX10_copied (Q := fun a b => a = r ∧ b = m1) (M1 _ ⟨rfl, rfl⟩)) rfl rfl (gz_b (by decide)) yw0 rfl (Nat.le_of_ble_eq_true rfl) ⟨Nat.le_of_ble_eq_true rfl, Nat.le_of_ble_eq_true rfl, Nat.le_add_left _ _, Nat.le_add_left _ _⟩ dL_law_817 (fun a b h => ?_)
  rw [h.1, h.2]
  refine go_icmp_eq_t (pc := 820) (tgt := 1393) dL_law_820 (by decide) rfl ?_
  exact go_w (show wM G c1 m1 = wX G m1 c1 from rfl) (kk c1 m1 (R1.mono (by omega)))
set_option maxRecDepth 100000 in
theorem law_19 {l : Launch} {G : gG} {T i : Nat} {c m : gMem} (hi : i + 6 ≤ G.2.2.2.2.2.2.1) (hL : G.2.2.2.2.2.2.1 ≤ 3072) (R : Rel T c m) (hT : T + 200000 < 2 ^ 28) (kk : ∀ c1 m1, Rel (T + 200000) c1 m1 → Go l G mL_law lawB 1393 (lvL G i) [] 84 146846 (wX G m1 c1)) : Go l G mL_law lawB 825 (lvL G i) [] 84 146846 (wX G m c) := by
  obtain ⟨r, c1, m1, X1, M1, R1⟩ := op_shelve (l1 := sc G (i + 1)) (l2 := sc G (i + 2)) (l3 := sc G (i + 3)) R
  refine go_aload_n (pc := 825) dL_law_825 rfl rfl ?_
  refine go_aload_n (pc := 826) dL_law_826 rfl rfl ?_
  refine go_iload_n (pc := 827) dL_law_827 rfl rfl ?_
  refine go_iconst (pc := 828) (v := nI 1) dL_law_828 (by decide) ?_
  refine go_iadd (pc := 829) dL_law_829 ?_
  refine go_top (y := nI (i + 1)) (nI_add i 1) ?_
  refine go_sld (pc := 830) (vp_in_nI (by omega) (by omega)) dL_law_830 ?_
  refine go_top (y := sc G (i + 1)) (congrArg G.2.2.2.2.2.2.2 (nI_clamp (by omega))) ?_
  refine go_aload_n (pc := 831) dL_law_831 rfl rfl ?_
  refine go_iload_n (pc := 832) dL_law_832 rfl rfl ?_
  refine go_iconst (pc := 833) (v := nI 2) dL_law_833 (by decide) ?_
  refine go_iadd (pc := 834) dL_law_834 ?_
  refine go_top (y := nI (i + 2)) (nI_add i 2) ?_
  refine go_sld (pc := 835) (vp_in_nI (by omega) (by omega)) dL_law_835 ?_
  refine go_top (y := sc G (i + 2)) (congrArg G.2.2.2.2.2.2.2 (nI_clamp (by omega))) ?_
  refine go_aload_n (pc := 836) dL_law_836 rfl rfl ?_
  refine go_iload_n (pc := 837) dL_law_837 rfl rfl ?_
  refine go_iconst (pc := 838) (v := nI 3) dL_law_838 (by decide) ?_
  refine go_iadd (pc := 839) dL_law_839 ?_
  refine go_top (y := nI (i + 3)) (nI_add i 3) ?_
  refine go_sld (pc := 840) (vp_in_nI (by omega) (by omega)) dL_law_840 ?_
  refine go_top (y := sc G (i + 3)) (congrArg G.2.2.2.2.2.2.2 (nI_clamp (by omega))) ?_
  refine gq_callV_i (pc := 841) (F := wX G m) vL_94 rfl (tX9_shelve (Q := fun a b => a = r ∧ b = c1) (X1 _ ⟨rfl, rfl⟩)) rfl rfl (gz_b (by decide)) xw0 rfl (Nat.le_of_ble_eq_true rfl) ⟨Nat.le_of_ble_eq_true rfl, Nat.le_of_ble_eq_true rfl, Nat.le_add_left _ _, Nat.le_add_left _ _⟩ dL_law_841 (fun a b h => ?_)
  rw [h.1, h.2]
  refine go_w (show wX G m c1 = wM G c1 m from rfl) ?_
  refine go_aload_n (pc := 844) dL_law_844 rfl rfl ?_
  refine go_aload_n (pc := 845) dL_law_845 rfl rfl ?_
  refine go_iload_n (pc := 846) dL_law_846 rfl rfl ?_
  refine go_iconst (pc := 847) (v := nI 1) dL_law_847 (by decide) ?_
  refine go_iadd (pc := 848) dL_law_848 ?_
  refine go_top (y := nI (i + 1)) (nI_add i 1) ?_
  refine go_sld (pc := 849) (vp_in_nI (by omega) (by omega)) dL_law_849 ?_
  refine go_top (y := sc G (i + 1)) (congrArg G.2.2.2.2.2.2.2 (nI_clamp (by omega))) ?_
  refine go_aload_n (pc := 850) dL_law_850 rfl rfl ?_
  refine go_iload_n (pc := 851) dL_law_851 rfl rfl ?_
  refine go_iconst (pc := 852) (v := nI 2) dL_law_852 (by decide) ?_
  refine go_iadd (pc := 853) dL_law_853 ?_
  refine go_top (y := nI (i + 2)) (nI_add i 2) ?_
  refine go_sld (pc := 854) (vp_in_nI (by omega) (by omega)) dL_law_854 ?_
  refine go_top (y := sc G (i + 2)) (congrArg G.2.2.2.2.2.2.2 (nI_clamp (by omega))) ?_
  refine go_aload_n (pc := 855) dL_law_855 rfl rfl ?_
  refine go_iload_n (pc := 856) dL_law_856 rfl rfl ?_
  refine go_iconst (pc := 857) (v := nI 3) dL_law_857 (by decide) ?_
  refine go_iadd (pc := 858) dL_law_858 ?_
  refine go_top (y := nI (i + 3)) (nI_add i 3) ?_
  refine go_sld (pc := 859) (vp_in_nI (by omega) (by omega)) dL_law_859 ?_
  refine go_top (y := sc G (i + 3)) (congrArg G.2.2.2.2.2.2.2 (nI_clamp (by omega))) ?_
  refine gq_callV_i (pc := 860) (F := wM G c1) vL_97 rfl (tX10_shelve (Q := fun a b => a = r ∧ b = m1) (M1 _ ⟨rfl, rfl⟩)) rfl rfl (gz_b (by decide)) yw0 rfl (Nat.le_of_ble_eq_true rfl) ⟨Nat.le_of_ble_eq_true rfl, Nat.le_of_ble_eq_true rfl, Nat.le_add_left _ _, Nat.le_add_left _ _⟩ dL_law_860 (fun a b h => ?_)
  rw [h.1, h.2]
  refine go_icmp_eq_t (pc := 863) (tgt := 1393) dL_law_863 (by decide) rfl ?_
  exact go_w (show wM G c1 m1 = wX G m1 c1 from rfl) (kk c1 m1 (R1.mono (by omega)))
set_option maxRecDepth 100000 in
theorem law_20 {l : Launch} {G : gG} {T i : Nat} {c m : gMem} (hi : i + 6 ≤ G.2.2.2.2.2.2.1) (hL : G.2.2.2.2.2.2.1 ≤ 3072) (R : Rel T c m) (hT : T + 200000 < 2 ^ 28) (kk : ∀ c1 m1, Rel (T + 200000) c1 m1 → Go l G mL_law lawB 1393 (lvL G i) [] 84 146846 (wX G m1 c1)) : Go l G mL_law lawB 868 (lvL G i) [] 84 146846 (wX G m c) := by
  obtain ⟨r, c1, m1, X1, M1, R1⟩ := op_shelf (l1 := sc G (i + 1)) (l2 := sc G (i + 2)) R
  refine go_aload_n (pc := 868) dL_law_868 rfl rfl ?_
  refine go_aload_n (pc := 869) dL_law_869 rfl rfl ?_
  refine go_iload_n (pc := 870) dL_law_870 rfl rfl ?_
  refine go_iconst (pc := 871) (v := nI 1) dL_law_871 (by decide) ?_
  refine go_iadd (pc := 872) dL_law_872 ?_
  refine go_top (y := nI (i + 1)) (nI_add i 1) ?_
  refine go_sld (pc := 873) (vp_in_nI (by omega) (by omega)) dL_law_873 ?_
  refine go_top (y := sc G (i + 1)) (congrArg G.2.2.2.2.2.2.2 (nI_clamp (by omega))) ?_
  refine go_aload_n (pc := 874) dL_law_874 rfl rfl ?_
  refine go_iload_n (pc := 875) dL_law_875 rfl rfl ?_
  refine go_iconst (pc := 876) (v := nI 2) dL_law_876 (by decide) ?_
  refine go_iadd (pc := 877) dL_law_877 ?_
  refine go_top (y := nI (i + 2)) (nI_add i 2) ?_
  refine go_sld (pc := 878) (vp_in_nI (by omega) (by omega)) dL_law_878 ?_
  refine go_top (y := sc G (i + 2)) (congrArg G.2.2.2.2.2.2.2 (nI_clamp (by omega))) ?_
  refine gq_callV_i (pc := 879) (F := wX G m) vL_98 rfl (tX9_shelf (Q := fun a b => a = r ∧ b = c1) (X1 _ ⟨rfl, rfl⟩)) rfl rfl (gz_b (by decide)) xw0 rfl (Nat.le_of_ble_eq_true rfl) ⟨Nat.le_of_ble_eq_true rfl, Nat.le_of_ble_eq_true rfl, Nat.le_add_left _ _, Nat.le_add_left _ _⟩ dL_law_879 (fun a b h => ?_)
  rw [h.1, h.2]
  refine go_w (show wX G m c1 = wM G c1 m from rfl) ?_
  refine go_aload_n (pc := 882) dL_law_882 rfl rfl ?_
  refine go_aload_n (pc := 883) dL_law_883 rfl rfl ?_
  refine go_iload_n (pc := 884) dL_law_884 rfl rfl ?_
  refine go_iconst (pc := 885) (v := nI 1) dL_law_885 (by decide) ?_
  refine go_iadd (pc := 886) dL_law_886 ?_
  refine go_top (y := nI (i + 1)) (nI_add i 1) ?_
  refine go_sld (pc := 887) (vp_in_nI (by omega) (by omega)) dL_law_887 ?_
  refine go_top (y := sc G (i + 1)) (congrArg G.2.2.2.2.2.2.2 (nI_clamp (by omega))) ?_
  refine go_aload_n (pc := 888) dL_law_888 rfl rfl ?_
  refine go_iload_n (pc := 889) dL_law_889 rfl rfl ?_
  refine go_iconst (pc := 890) (v := nI 2) dL_law_890 (by decide) ?_
  refine go_iadd (pc := 891) dL_law_891 ?_
  refine go_top (y := nI (i + 2)) (nI_add i 2) ?_
  refine go_sld (pc := 892) (vp_in_nI (by omega) (by omega)) dL_law_892 ?_
  refine go_top (y := sc G (i + 2)) (congrArg G.2.2.2.2.2.2.2 (nI_clamp (by omega))) ?_
  refine gq_callV_i (pc := 893) (F := wM G c1) vL_101 rfl (tX10_shelf (Q := fun a b => a = r ∧ b = m1) (M1 _ ⟨rfl, rfl⟩)) rfl rfl (gz_b (by decide)) yw0 rfl (Nat.le_of_ble_eq_true rfl) ⟨Nat.le_of_ble_eq_true rfl, Nat.le_of_ble_eq_true rfl, Nat.le_add_left _ _, Nat.le_add_left _ _⟩ dL_law_893 (fun a b h => ?_)
  rw [h.1, h.2]
  refine go_icmp_eq_t (pc := 896) (tgt := 1393) dL_law_896 (by decide) rfl ?_
  exact go_w (show wM G c1 m1 = wX G m1 c1 from rfl) (kk c1 m1 (R1.mono (by omega)))
set_option maxRecDepth 100000 in
theorem law_21 {l : Launch} {G : gG} {T i : Nat} {c m : gMem} (hi : i + 6 ≤ G.2.2.2.2.2.2.1) (hL : G.2.2.2.2.2.2.1 ≤ 3072) (R : Rel T c m) (hT : T + 200000 < 2 ^ 28) (kk : ∀ c1 m1, Rel (T + 200000) c1 m1 → Go l G mL_law lawB 1393 (lvL G i) [] 84 146846 (wX G m1 c1)) : Go l G mL_law lawB 901 (lvL G i) [] 84 146846 (wX G m c) := by
  obtain ⟨r, c1, m1, X1, M1, R1⟩ := op_step (x := sc G (i + 1)) R (by omega)
  refine go_aload_n (pc := 901) dL_law_901 rfl rfl ?_
  refine go_aload_n (pc := 902) dL_law_902 rfl rfl ?_
  refine go_iload_n (pc := 903) dL_law_903 rfl rfl ?_
  refine go_iconst (pc := 904) (v := nI 1) dL_law_904 (by decide) ?_
  refine go_iadd (pc := 905) dL_law_905 ?_
  refine go_top (y := nI (i + 1)) (nI_add i 1) ?_
  refine go_sld (pc := 906) (vp_in_nI (by omega) (by omega)) dL_law_906 ?_
  refine go_top (y := sc G (i + 1)) (congrArg G.2.2.2.2.2.2.2 (nI_clamp (by omega))) ?_
  refine gq_callV_i (pc := 907) (F := wX G m) vL_102 rfl (tX9_step (Q := fun a b => a = r ∧ b = c1) (X1 _ ⟨rfl, rfl⟩)) rfl rfl (gz_b (by decide)) xw0 rfl (Nat.le_of_ble_eq_true rfl) ⟨Nat.le_of_ble_eq_true rfl, Nat.le_of_ble_eq_true rfl, Nat.le_add_left _ _, Nat.le_add_left _ _⟩ dL_law_907 (fun a b h => ?_)
  rw [h.1, h.2]
  refine go_w (show wX G m c1 = wM G c1 m from rfl) ?_
  refine go_aload_n (pc := 910) dL_law_910 rfl rfl ?_
  refine go_aload_n (pc := 911) dL_law_911 rfl rfl ?_
  refine go_iload_n (pc := 912) dL_law_912 rfl rfl ?_
  refine go_iconst (pc := 913) (v := nI 1) dL_law_913 (by decide) ?_
  refine go_iadd (pc := 914) dL_law_914 ?_
  refine go_top (y := nI (i + 1)) (nI_add i 1) ?_
  refine go_sld (pc := 915) (vp_in_nI (by omega) (by omega)) dL_law_915 ?_
  refine go_top (y := sc G (i + 1)) (congrArg G.2.2.2.2.2.2.2 (nI_clamp (by omega))) ?_
  refine gq_callV_i (pc := 916) (F := wM G c1) vL_105 rfl (tX10_step (Q := fun a b => a = r ∧ b = m1) (M1 _ ⟨rfl, rfl⟩)) rfl rfl (gz_b (by decide)) yw0 rfl (Nat.le_of_ble_eq_true rfl) ⟨Nat.le_of_ble_eq_true rfl, Nat.le_of_ble_eq_true rfl, Nat.le_add_left _ _, Nat.le_add_left _ _⟩ dL_law_916 (fun a b h => ?_)
  rw [h.1, h.2]
  refine go_icmp_eq_t (pc := 919) (tgt := 1393) dL_law_919 (by decide) rfl ?_
  exact go_w (show wM G c1 m1 = wX G m1 c1 from rfl) (kk c1 m1 (R1.mono (by omega)))
set_option maxRecDepth 100000 in
theorem law_22 {l : Launch} {G : gG} {T i : Nat} {c m : gMem} (hi : i + 6 ≤ G.2.2.2.2.2.2.1) (hL : G.2.2.2.2.2.2.1 ≤ 3072) (R : Rel T c m) (hT : T + 200000 < 2 ^ 28) (kk : ∀ c1 m1, Rel (T + 200000) c1 m1 → Go l G mL_law lawB 1393 (lvL G i) [] 84 146846 (wX G m1 c1)) : Go l G mL_law lawB 924 (lvL G i) [] 84 146846 (wX G m c) := by
  obtain ⟨r, c1, m1, X1, M1, R1⟩ := op_cycle R (by omega)
  refine go_aload_n (pc := 924) dL_law_924 rfl rfl ?_
  refine gq_callV_i (pc := 925) (F := wX G m) vL_106 rfl (tX9_cycle (Q := fun a b => a = r ∧ b = c1) (X1 _ ⟨rfl, rfl⟩)) rfl rfl (gz_b (by decide)) xw0 rfl (Nat.le_of_ble_eq_true rfl) ⟨Nat.le_of_ble_eq_true rfl, Nat.le_of_ble_eq_true rfl, Nat.le_add_left _ _, Nat.le_add_left _ _⟩ dL_law_925 (fun a b h => ?_)
  rw [h.1, h.2]
  refine go_w (show wX G m c1 = wM G c1 m from rfl) ?_
  refine go_aload_n (pc := 928) dL_law_928 rfl rfl ?_
  refine gq_callV_i (pc := 929) (F := wM G c1) vL_109 rfl (tX10_cycle (Q := fun a b => a = r ∧ b = m1) (M1 _ ⟨rfl, rfl⟩)) rfl rfl (gz_b (by decide)) yw0 rfl (Nat.le_of_ble_eq_true rfl) ⟨Nat.le_of_ble_eq_true rfl, Nat.le_of_ble_eq_true rfl, Nat.le_add_left _ _, Nat.le_add_left _ _⟩ dL_law_929 (fun a b h => ?_)
  rw [h.1, h.2]
  refine go_icmp_eq_t (pc := 932) (tgt := 1393) dL_law_932 (by decide) rfl ?_
  exact go_w (show wM G c1 m1 = wX G m1 c1 from rfl) (kk c1 m1 (R1.mono (by omega)))
set_option maxRecDepth 100000 in
theorem law_23 {l : Launch} {G : gG} {T i : Nat} {c m : gMem} (hi : i + 6 ≤ G.2.2.2.2.2.2.1) (hL : G.2.2.2.2.2.2.1 ≤ 3072) (R : Rel T c m) (hT : T + 200000 < 2 ^ 28) (kk : ∀ c1 m1, Rel (T + 200000) c1 m1 → Go l G mL_law lawB 1393 (lvL G i) [] 84 146846 (wX G m1 c1)) : Go l G mL_law lawB 937 (lvL G i) [] 84 146846 (wX G m c) := by
  obtain ⟨r, c1, m1, X1, M1, R1⟩ := op_phase R
  refine go_aload_n (pc := 937) dL_law_937 rfl rfl ?_
  refine gq_callV_i (pc := 938) (F := wX G m) vL_110 rfl (tX9_phase (Q := fun a b => a = r ∧ b = c1) (X1 _ ⟨rfl, rfl⟩)) rfl rfl (gz_b (by decide)) xw0 rfl (Nat.le_of_ble_eq_true rfl) ⟨Nat.le_of_ble_eq_true rfl, Nat.le_of_ble_eq_true rfl, Nat.le_add_left _ _, Nat.le_add_left _ _⟩ dL_law_938 (fun a b h => ?_)
  rw [h.1, h.2]
  refine go_w (show wX G m c1 = wM G c1 m from rfl) ?_
  refine go_aload_n (pc := 941) dL_law_941 rfl rfl ?_
  refine gq_callV_i (pc := 942) (F := wM G c1) vL_113 rfl (tX10_phase (Q := fun a b => a = r ∧ b = m1) (M1 _ ⟨rfl, rfl⟩)) rfl rfl (gz_b (by decide)) yw0 rfl (Nat.le_of_ble_eq_true rfl) ⟨Nat.le_of_ble_eq_true rfl, Nat.le_of_ble_eq_true rfl, Nat.le_add_left _ _, Nat.le_add_left _ _⟩ dL_law_942 (fun a b h => ?_)
  rw [h.1, h.2]
  refine go_icmp_eq_t (pc := 945) (tgt := 1393) dL_law_945 (by decide) rfl ?_
  exact go_w (show wM G c1 m1 = wX G m1 c1 from rfl) (kk c1 m1 (R1.mono (by omega)))
set_option maxRecDepth 100000 in
theorem law_24 {l : Launch} {G : gG} {T i : Nat} {c m : gMem} (hi : i + 6 ≤ G.2.2.2.2.2.2.1) (hL : G.2.2.2.2.2.2.1 ≤ 3072) (R : Rel T c m) (hT : T + 200000 < 2 ^ 28) (kk : ∀ c1 m1, Rel (T + 200000) c1 m1 → Go l G mL_law lawB 1393 (lvL G i) [] 84 146846 (wX G m1 c1)) : Go l G mL_law lawB 950 (lvL G i) [] 84 146846 (wX G m c) := by
  obtain ⟨r, c1, m1, X1, M1, R1⟩ := op_marked (l1 := sc G (i + 1)) R
  refine go_aload_n (pc := 950) dL_law_950 rfl rfl ?_
  refine go_aload_n (pc := 951) dL_law_951 rfl rfl ?_
  refine go_iload_n (pc := 952) dL_law_952 rfl rfl ?_
  refine go_iconst (pc := 953) (v := nI 1) dL_law_953 (by decide) ?_
  refine go_iadd (pc := 954) dL_law_954 ?_
  refine go_top (y := nI (i + 1)) (nI_add i 1) ?_
  refine go_sld (pc := 955) (vp_in_nI (by omega) (by omega)) dL_law_955 ?_
  refine go_top (y := sc G (i + 1)) (congrArg G.2.2.2.2.2.2.2 (nI_clamp (by omega))) ?_
  refine gq_callV_i (pc := 956) (F := wX G m) vL_114 rfl (tX9_marked (Q := fun a b => a = r ∧ b = c1) (X1 _ ⟨rfl, rfl⟩)) rfl rfl (gz_b (by decide)) xw0 rfl (Nat.le_of_ble_eq_true rfl) ⟨Nat.le_of_ble_eq_true rfl, Nat.le_of_ble_eq_true rfl, Nat.le_add_left _ _, Nat.le_add_left _ _⟩ dL_law_956 (fun a b h => ?_)
  rw [h.1, h.2]
  refine go_w (show wX G m c1 = wM G c1 m from rfl) ?_
  refine go_aload_n (pc := 959) dL_law_959 rfl rfl ?_
  refine go_aload_n (pc := 960) dL_law_960 rfl rfl ?_
  refine go_iload_n (pc := 961) dL_law_961 rfl rfl ?_
  refine go_iconst (pc := 962) (v := nI 1) dL_law_962 (by decide) ?_
  refine go_iadd (pc := 963) dL_law_963 ?_
  refine go_top (y := nI (i + 1)) (nI_add i 1) ?_
  refine go_sld (pc := 964) (vp_in_nI (by omega) (by omega)) dL_law_964 ?_
  refine go_top (y := sc G (i + 1)) (congrArg G.2.2.2.2.2.2.2 (nI_clamp (by omega))) ?_
  refine gq_callV_i (pc := 965) (F := wM G c1) vL_117 rfl (tX10_marked (Q := fun a b => a = r ∧ b = m1) (M1 _ ⟨rfl, rfl⟩)) rfl rfl (gz_b (by decide)) yw0 rfl (Nat.le_of_ble_eq_true rfl) ⟨Nat.le_of_ble_eq_true rfl, Nat.le_of_ble_eq_true rfl, Nat.le_add_left _ _, Nat.le_add_left _ _⟩ dL_law_965 (fun a b h => ?_)
  rw [h.1, h.2]
  refine go_icmp_eq_t (pc := 968) (tgt := 1393) dL_law_968 (by decide) rfl ?_
  exact go_w (show wM G c1 m1 = wX G m1 c1 from rfl) (kk c1 m1 (R1.mono (by omega)))
set_option maxRecDepth 100000 in
theorem law_25 {l : Launch} {G : gG} {T i : Nat} {c m : gMem} (hi : i + 6 ≤ G.2.2.2.2.2.2.1) (hL : G.2.2.2.2.2.2.1 ≤ 3072) (R : Rel T c m) (hT : T + 200000 < 2 ^ 28) (kk : ∀ c1 m1, Rel (T + 200000) c1 m1 → Go l G mL_law lawB 1393 (lvL G i) [] 84 146846 (wX G m1 c1)) : Go l G mL_law lawB 973 (lvL G i) [] 84 146846 (wX G m c) := by
  obtain ⟨r, c1, m1, X1, M1, R1⟩ := op_moved (l1 := sc G (i + 1)) R
  refine go_aload_n (pc := 973) dL_law_973 rfl rfl ?_
  refine go_aload_n (pc := 974) dL_law_974 rfl rfl ?_
  refine go_iload_n (pc := 975) dL_law_975 rfl rfl ?_
  refine go_iconst (pc := 976) (v := nI 1) dL_law_976 (by decide) ?_
  refine go_iadd (pc := 977) dL_law_977 ?_
  refine go_top (y := nI (i + 1)) (nI_add i 1) ?_
  refine go_sld (pc := 978) (vp_in_nI (by omega) (by omega)) dL_law_978 ?_
  refine go_top (y := sc G (i + 1)) (congrArg G.2.2.2.2.2.2.2 (nI_clamp (by omega))) ?_
  refine gq_callV_i (pc := 979) (F := wX G m) vL_118 rfl (tX9_moved (Q := fun a b => a = r ∧ b = c1) (X1 _ ⟨rfl, rfl⟩)) rfl rfl (gz_b (by decide)) xw0 rfl (Nat.le_of_ble_eq_true rfl) ⟨Nat.le_of_ble_eq_true rfl, Nat.le_of_ble_eq_true rfl, Nat.le_add_left _ _, Nat.le_add_left _ _⟩ dL_law_979 (fun a b h => ?_)
  rw [h.1, h.2]
  refine go_w (show wX G m c1 = wM G c1 m from rfl) ?_
  refine go_aload_n (pc := 982) dL_law_982 rfl rfl ?_
  refine go_aload_n (pc := 983) dL_law_983 rfl rfl ?_
  refine go_iload_n (pc := 984) dL_law_984 rfl rfl ?_
  refine go_iconst (pc := 985) (v := nI 1) dL_law_985 (by decide) ?_
  refine go_iadd (pc := 986) dL_law_986 ?_
  refine go_top (y := nI (i + 1)) (nI_add i 1) ?_
  refine go_sld (pc := 987) (vp_in_nI (by omega) (by omega)) dL_law_987 ?_
  refine go_top (y := sc G (i + 1)) (congrArg G.2.2.2.2.2.2.2 (nI_clamp (by omega))) ?_
  refine gq_callV_i (pc := 988) (F := wM G c1) vL_121 rfl (tX10_moved (Q := fun a b => a = r ∧ b = m1) (M1 _ ⟨rfl, rfl⟩)) rfl rfl (gz_b (by decide)) yw0 rfl (Nat.le_of_ble_eq_true rfl) ⟨Nat.le_of_ble_eq_true rfl, Nat.le_of_ble_eq_true rfl, Nat.le_add_left _ _, Nat.le_add_left _ _⟩ dL_law_988 (fun a b h => ?_)
  rw [h.1, h.2]
  refine go_icmp_eq_t (pc := 991) (tgt := 1393) dL_law_991 (by decide) rfl ?_
  exact go_w (show wM G c1 m1 = wX G m1 c1 from rfl) (kk c1 m1 (R1.mono (by omega)))
set_option maxRecDepth 100000 in
theorem law_26 {l : Launch} {G : gG} {T i : Nat} {c m : gMem} (hi : i + 6 ≤ G.2.2.2.2.2.2.1) (hL : G.2.2.2.2.2.2.1 ≤ 3072) (R : Rel T c m) (hT : T + 200000 < 2 ^ 28) (kk : ∀ c1 m1, Rel (T + 200000) c1 m1 → Go l G mL_law lawB 1393 (lvL G i) [] 84 146846 (wX G m1 c1)) : Go l G mL_law lawB 996 (lvL G i) [] 84 146846 (wX G m c) := by
  obtain ⟨r, c1, m1, X1, M1, R1⟩ := op_told (l1 := sc G (i + 1)) (l2 := sc G (i + 2)) R
  refine go_aload_n (pc := 996) dL_law_996 rfl rfl ?_
  refine go_aload_n (pc := 997) dL_law_997 rfl rfl ?_
  refine go_iload_n (pc := 998) dL_law_998 rfl rfl ?_
  refine go_iconst (pc := 999) (v := nI 1) dL_law_999 (by decide) ?_
  refine go_iadd (pc := 1000) dL_law_1000 ?_
  refine go_top (y := nI (i + 1)) (nI_add i 1) ?_
  refine go_sld (pc := 1001) (vp_in_nI (by omega) (by omega)) dL_law_1001 ?_
  refine go_top (y := sc G (i + 1)) (congrArg G.2.2.2.2.2.2.2 (nI_clamp (by omega))) ?_
  refine go_aload_n (pc := 1002) dL_law_1002 rfl rfl ?_
  refine go_iload_n (pc := 1003) dL_law_1003 rfl rfl ?_
  refine go_iconst (pc := 1004) (v := nI 2) dL_law_1004 (by decide) ?_
  refine go_iadd (pc := 1005) dL_law_1005 ?_
  refine go_top (y := nI (i + 2)) (nI_add i 2) ?_
  refine go_sld (pc := 1006) (vp_in_nI (by omega) (by omega)) dL_law_1006 ?_
  refine go_top (y := sc G (i + 2)) (congrArg G.2.2.2.2.2.2.2 (nI_clamp (by omega))) ?_
  refine gq_callV_i (pc := 1007) (F := wX G m) vL_122 rfl (tX9_told (Q := fun a b => a = r ∧ b = c1) (X1 _ ⟨rfl, rfl⟩)) rfl rfl (gz_b (by decide)) xw0 rfl (Nat.le_of_ble_eq_true rfl) ⟨Nat.le_of_ble_eq_true rfl, Nat.le_of_ble_eq_true rfl, Nat.le_add_left _ _, Nat.le_add_left _ _⟩ dL_law_1007 (fun a b h => ?_)
  rw [h.1, h.2]
  refine go_w (show wX G m c1 = wM G c1 m from rfl) ?_
  refine go_aload_n (pc := 1010) dL_law_1010 rfl rfl ?_
  refine go_aload_n (pc := 1011) dL_law_1011 rfl rfl ?_
  refine go_iload_n (pc := 1012) dL_law_1012 rfl rfl ?_
  refine go_iconst (pc := 1013) (v := nI 1) dL_law_1013 (by decide) ?_
  refine go_iadd (pc := 1014) dL_law_1014 ?_
  refine go_top (y := nI (i + 1)) (nI_add i 1) ?_
  refine go_sld (pc := 1015) (vp_in_nI (by omega) (by omega)) dL_law_1015 ?_
  refine go_top (y := sc G (i + 1)) (congrArg G.2.2.2.2.2.2.2 (nI_clamp (by omega))) ?_
  refine go_aload_n (pc := 1016) dL_law_1016 rfl rfl ?_
  refine go_iload_n (pc := 1017) dL_law_1017 rfl rfl ?_
  refine go_iconst (pc := 1018) (v := nI 2) dL_law_1018 (by decide) ?_
  refine go_iadd (pc := 1019) dL_law_1019 ?_
  refine go_top (y := nI (i + 2)) (nI_add i 2) ?_
  refine go_sld (pc := 1020) (vp_in_nI (by omega) (by omega)) dL_law_1020 ?_
  refine go_top (y := sc G (i + 2)) (congrArg G.2.2.2.2.2.2.2 (nI_clamp (by omega))) ?_
  refine gq_callV_i (pc := 1021) (F := wM G c1) vL_125 rfl (tX10_told (Q := fun a b => a = r ∧ b = m1) (M1 _ ⟨rfl, rfl⟩)) rfl rfl (gz_b (by decide)) yw0 rfl (Nat.le_of_ble_eq_true rfl) ⟨Nat.le_of_ble_eq_true rfl, Nat.le_of_ble_eq_true rfl, Nat.le_add_left _ _, Nat.le_add_left _ _⟩ dL_law_1021 (fun a b h => ?_)
  rw [h.1, h.2]
  refine go_icmp_eq_t (pc := 1024) (tgt := 1393) dL_law_1024 (by decide) rfl ?_
  exact go_w (show wM G c1 m1 = wX G m1 c1 from rfl) (kk c1 m1 (R1.mono (by omega)))
set_option maxRecDepth 100000 in
theorem law_27 {l : Launch} {G : gG} {T i : Nat} {c m : gMem} (hi : i + 6 ≤ G.2.2.2.2.2.2.1) (hL : G.2.2.2.2.2.2.1 ≤ 3072) (R : Rel T c m) (hT : T + 200000 < 2 ^ 28) (kk : ∀ c1 m1, Rel (T + 200000) c1 m1 → Go l G mL_law lawB 1393 (lvL G i) [] 84 146846 (wX G m1 c1)) : Go l G mL_law lawB 1029 (lvL G i) [] 84 146846 (wX G m c) := by
  obtain ⟨r, c1, m1, X1, M1, R1⟩ := op_about (l1 := sc G (i + 1)) R
  refine go_aload_n (pc := 1029) dL_law_1029 rfl rfl ?_
  refine go_aload_n (pc := 1030) dL_law_1030 rfl rfl ?_
  refine go_iload_n (pc := 1031) dL_law_1031 rfl rfl ?_
  refine go_iconst (pc := 1032) (v := nI 1) dL_law_1032 (by decide) ?_
  refine go_iadd (pc := 1033) dL_law_1033 ?_
  refine go_top (y := nI (i + 1)) (nI_add i 1) ?_
  refine go_sld (pc := 1034) (vp_in_nI (by omega) (by omega)) dL_law_1034 ?_
  refine go_top (y := sc G (i + 1)) (congrArg G.2.2.2.2.2.2.2 (nI_clamp (by omega))) ?_
  refine gq_callV_i (pc := 1035) (F := wX G m) vL_126 rfl (tX9_about (Q := fun a b => a = r ∧ b = c1) (X1 _ ⟨rfl, rfl⟩)) rfl rfl (gz_b (by decide)) xw0 rfl (Nat.le_of_ble_eq_true rfl) ⟨Nat.le_of_ble_eq_true rfl, Nat.le_of_ble_eq_true rfl, Nat.le_add_left _ _, Nat.le_add_left _ _⟩ dL_law_1035 (fun a b h => ?_)
  rw [h.1, h.2]
  refine go_w (show wX G m c1 = wM G c1 m from rfl) ?_
  refine go_aload_n (pc := 1038) dL_law_1038 rfl rfl ?_
  refine go_aload_n (pc := 1039) dL_law_1039 rfl rfl ?_
  refine go_iload_n (pc := 1040) dL_law_1040 rfl rfl ?_
  refine go_iconst (pc := 1041) (v := nI 1) dL_law_1041 (by decide) ?_
  refine go_iadd (pc := 1042) dL_law_1042 ?_
  refine go_top (y := nI (i + 1)) (nI_add i 1) ?_
  refine go_sld (pc := 1043) (vp_in_nI (by omega) (by omega)) dL_law_1043 ?_
  refine go_top (y := sc G (i + 1)) (congrArg G.2.2.2.2.2.2.2 (nI_clamp (by omega))) ?_
  refine gq_callV_i (pc := 1044) (F := wM G c1) vL_129 rfl (tX10_about (Q := fun a b => a = r ∧ b = m1) (M1 _ ⟨rfl, rfl⟩)) rfl rfl (gz_b (by decide)) yw0 rfl (Nat.le_of_ble_eq_true rfl) ⟨Nat.le_of_ble_eq_true rfl, Nat.le_of_ble_eq_true rfl, Nat.le_add_left _ _, Nat.le_add_left _ _⟩ dL_law_1044 (fun a b h => ?_)
  rw [h.1, h.2]
  refine go_icmp_eq_t (pc := 1047) (tgt := 1393) dL_law_1047 (by decide) rfl ?_
  exact go_w (show wM G c1 m1 = wX G m1 c1 from rfl) (kk c1 m1 (R1.mono (by omega)))
set_option maxRecDepth 100000 in
theorem law_28 {l : Launch} {G : gG} {T i : Nat} {c m : gMem} (hi : i + 6 ≤ G.2.2.2.2.2.2.1) (hL : G.2.2.2.2.2.2.1 ≤ 3072) (R : Rel T c m) (hT : T + 200000 < 2 ^ 28) (kk : ∀ c1 m1, Rel (T + 200000) c1 m1 → Go l G mL_law lawB 1393 (lvL G i) [] 84 146846 (wX G m1 c1)) : Go l G mL_law lawB 1052 (lvL G i) [] 84 146846 (wX G m c) := by
  obtain ⟨r, c1, m1, X1, M1, R1⟩ := op_word (l1 := sc G (i + 1)) R
  refine go_aload_n (pc := 1052) dL_law_1052 rfl rfl ?_
  refine go_aload_n (pc := 1053) dL_law_1053 rfl rfl ?_
  refine go_iload_n (pc := 1054) dL_law_1054 rfl rfl ?_
  refine go_iconst (pc := 1055) (v := nI 1) dL_law_1055 (by decide) ?_
  refine go_iadd (pc := 1056) dL_law_1056 ?_
  refine go_top (y := nI (i + 1)) (nI_add i 1) ?_
  refine go_sld (pc := 1057) (vp_in_nI (by omega) (by omega)) dL_law_1057 ?_
  refine go_top (y := sc G (i + 1)) (congrArg G.2.2.2.2.2.2.2 (nI_clamp (by omega))) ?_
  refine gq_callV_i (pc := 1058) (F := wX G m) vL_130 rfl (tX9_word (Q := fun a b => a = r ∧ b = c1) (X1 _ ⟨rfl, rfl⟩)) rfl rfl (gz_b (by decide)) xw0 rfl (Nat.le_of_ble_eq_true rfl) ⟨Nat.le_of_ble_eq_true rfl, Nat.le_of_ble_eq_true rfl, Nat.le_add_left _ _, Nat.le_add_left _ _⟩ dL_law_1058 (fun a b h => ?_)
  rw [h.1, h.2]
  refine go_w (show wX G m c1 = wM G c1 m from rfl) ?_
  refine go_aload_n (pc := 1061) dL_law_1061 rfl rfl ?_
  refine go_aload_n (pc := 1062) dL_law_1062 rfl rfl ?_
  refine go_iload_n (pc := 1063) dL_law_1063 rfl rfl ?_
  refine go_iconst (pc := 1064) (v := nI 1) dL_law_1064 (by decide) ?_
  refine go_iadd (pc := 1065) dL_law_1065 ?_
  refine go_top (y := nI (i + 1)) (nI_add i 1) ?_
  refine go_sld (pc := 1066) (vp_in_nI (by omega) (by omega)) dL_law_1066 ?_
  refine go_top (y := sc G (i + 1)) (congrArg G.2.2.2.2.2.2.2 (nI_clamp (by omega))) ?_
  refine gq_callV_i (pc := 1067) (F := wM G c1) vL_133 rfl (tX10_word (Q := fun a b => a = r ∧ b = m1) (M1 _ ⟨rfl, rfl⟩)) rfl rfl (gz_b (by decide)) yw0 rfl (Nat.le_of_ble_eq_true rfl) ⟨Nat.le_of_ble_eq_true rfl, Nat.le_of_ble_eq_true rfl, Nat.le_add_left _ _, Nat.le_add_left _ _⟩ dL_law_1067 (fun a b h => ?_)
  rw [h.1, h.2]
  refine go_icmp_eq_t (pc := 1070) (tgt := 1393) dL_law_1070 (by decide) rfl ?_
  exact go_w (show wM G c1 m1 = wX G m1 c1 from rfl) (kk c1 m1 (R1.mono (by omega)))
set_option maxRecDepth 100000 in
theorem law_29 {l : Launch} {G : gG} {T i : Nat} {c m : gMem} (hi : i + 6 ≤ G.2.2.2.2.2.2.1) (hL : G.2.2.2.2.2.2.1 ≤ 3072) (R : Rel T c m) (hT : T + 200000 < 2 ^ 28) (kk : ∀ c1 m1, Rel (T + 200000) c1 m1 → Go l G mL_law lawB 1393 (lvL G i) [] 84 146846 (wX G m1 c1)) : Go l G mL_law lawB 1075 (lvL G i) [] 84 146846 (wX G m c) := by
  obtain ⟨r, c1, m1, X1, M1, R1⟩ := op_digest R
  refine go_aload_n (pc := 1075) dL_law_1075 rfl rfl ?_
  refine gq_callV_i (pc := 1076) (F := wX G m) vL_134 rfl (tX9_digest (Q := fun a b => a = r ∧ b = c1) (X1 _ ⟨rfl, rfl⟩)) rfl rfl (gz_b (by decide)) xw0 rfl (Nat.le_of_ble_eq_true rfl) ⟨Nat.le_of_ble_eq_true rfl, Nat.le_of_ble_eq_true rfl, Nat.le_add_left _ _, Nat.le_add_left _ _⟩ dL_law_1076 (fun a b h => ?_)
  rw [h.1, h.2]
  refine go_w (show wX G m c1 = wM G c1 m from rfl) ?_
  refine go_aload_n (pc := 1079) dL_law_1079 rfl rfl ?_
  refine gq_callV_i (pc := 1080) (F := wM G c1) vL_137 rfl (tX10_digest (Q := fun a b => a = r ∧ b = m1) (M1 _ ⟨rfl, rfl⟩)) rfl rfl (gz_b (by decide)) yw0 rfl (Nat.le_of_ble_eq_true rfl) ⟨Nat.le_of_ble_eq_true rfl, Nat.le_of_ble_eq_true rfl, Nat.le_add_left _ _, Nat.le_add_left _ _⟩ dL_law_1080 (fun a b h => ?_)
  rw [h.1, h.2]
  refine go_icmp_eq_t (pc := 1083) (tgt := 1393) dL_law_1083 (by decide) rfl ?_
  exact go_w (show wM G c1 m1 = wX G m1 c1 from rfl) (kk c1 m1 (R1.mono (by omega)))
set_option maxRecDepth 100000 in
theorem law_30 {l : Launch} {G : gG} {T i : Nat} {c m : gMem} (hi : i + 6 ≤ G.2.2.2.2.2.2.1) (hL : G.2.2.2.2.2.2.1 ≤ 3072) (R : Rel T c m) (hT : T + 200000 < 2 ^ 28) (kk : ∀ c1 m1, Rel (T + 200000) c1 m1 → Go l G mL_law lawB 1393 (lvL G i) [] 84 146846 (wX G m1 c1)) : Go l G mL_law lawB 1088 (lvL G i) [] 84 146846 (wX G m c) := by
  obtain ⟨r, c1, m1, X1, M1, R1⟩ := op_rows R
  refine go_aload_n (pc := 1088) dL_law_1088 rfl rfl ?_
  refine gq_callV_i (pc := 1089) (F := wX G m) vL_138 rfl (tX9_rows (Q := fun a b => a = r ∧ b = c1) (X1 _ ⟨rfl, rfl⟩)) rfl rfl (gz_b (by decide)) xw0 rfl (Nat.le_of_ble_eq_true rfl) ⟨Nat.le_of_ble_eq_true rfl, Nat.le_of_ble_eq_true rfl, Nat.le_add_left _ _, Nat.le_add_left _ _⟩ dL_law_1089 (fun a b h => ?_)
  rw [h.1, h.2]
  refine go_w (show wX G m c1 = wM G c1 m from rfl) ?_
  refine go_aload_n (pc := 1092) dL_law_1092 rfl rfl ?_
  refine gq_callV_i (pc := 1093) (F := wM G c1) vL_141 rfl (tX10_rows (Q := fun a b => a = r ∧ b = m1) (M1 _ ⟨rfl, rfl⟩)) rfl rfl (gz_b (by decide)) yw0 rfl (Nat.le_of_ble_eq_true rfl) ⟨Nat.le_of_ble_eq_true rfl, Nat.le_of_ble_eq_true rfl, Nat.le_add_left _ _, Nat.le_add_left _ _⟩ dL_law_1093 (fun a b h => ?_)
  rw [h.1, h.2]
  refine go_icmp_eq_t (pc := 1096) (tgt := 1393) dL_law_1096 (by decide) rfl ?_
  exact go_w (show wM G c1 m1 = wX G m1 c1 from rfl) (kk c1 m1 (R1.mono (by omega)))
set_option maxRecDepth 100000 in
theorem law_31 {l : Launch} {G : gG} {T i : Nat} {c m : gMem} (hi : i + 6 ≤ G.2.2.2.2.2.2.1) (hL : G.2.2.2.2.2.2.1 ≤ 3072) (R : Rel T c m) (hT : T + 200000 < 2 ^ 28) (kk : ∀ c1 m1, Rel (T + 200000) c1 m1 → Go l G mL_law lawB 1393 (lvL G i) [] 84 146846 (wX G m1 c1)) : Go l G mL_law lawB 1101 (lvL G i) [] 84 146846 (wX G m c) := by
  obtain ⟨r, c1, m1, X1, M1, R1⟩ := op_row (l1 := sc G (i + 1)) R
  refine go_aload_n (pc := 1101) dL_law_1101 rfl rfl ?_
  refine go_aload_n (pc := 1102) dL_law_1102 rfl rfl ?_
  refine go_iload_n (pc := 1103) dL_law_1103 rfl rfl ?_
  refine go_iconst (pc := 1104) (v := nI 1) dL_law_1104 (by decide) ?_
  refine go_iadd (pc := 1105) dL_law_1105 ?_
  refine go_top (y := nI (i + 1)) (nI_add i 1) ?_
  refine go_sld (pc := 1106) (vp_in_nI (by omega) (by omega)) dL_law_1106 ?_
  refine go_top (y := sc G (i + 1)) (congrArg G.2.2.2.2.2.2.2 (nI_clamp (by omega))) ?_
  refine gq_callV_i (pc := 1107) (F := wX G m) vL_142 rfl (tX9_row (Q := fun a b => a = r ∧ b = c1) (X1 _ ⟨rfl, rfl⟩)) rfl rfl (gz_b (by decide)) xw0 rfl (Nat.le_of_ble_eq_true rfl) ⟨Nat.le_of_ble_eq_true rfl, Nat.le_of_ble_eq_true rfl, Nat.le_add_left _ _, Nat.le_add_left _ _⟩ dL_law_1107 (fun a b h => ?_)
  rw [h.1, h.2]
  refine go_w (show wX G m c1 = wM G c1 m from rfl) ?_
  refine go_aload_n (pc := 1110) dL_law_1110 rfl rfl ?_
  refine go_aload_n (pc := 1111) dL_law_1111 rfl rfl ?_
  refine go_iload_n (pc := 1112) dL_law_1112 rfl rfl ?_
  refine go_iconst (pc := 1113) (v := nI 1) dL_law_1113 (by decide) ?_
  refine go_iadd (pc := 1114) dL_law_1114 ?_
  refine go_top (y := nI (i + 1)) (nI_add i 1) ?_
  refine go_sld (pc := 1115) (vp_in_nI (by omega) (by omega)) dL_law_1115 ?_
  refine go_top (y := sc G (i + 1)) (congrArg G.2.2.2.2.2.2.2 (nI_clamp (by omega))) ?_
  refine gq_callV_i (pc := 1116) (F := wM G c1) vL_145 rfl (tX10_row (Q := fun a b => a = r ∧ b = m1) (M1 _ ⟨rfl, rfl⟩)) rfl rfl (gz_b (by decide)) yw0 rfl (Nat.le_of_ble_eq_true rfl) ⟨Nat.le_of_ble_eq_true rfl, Nat.le_of_ble_eq_true rfl, Nat.le_add_left _ _, Nat.le_add_left _ _⟩ dL_law_1116 (fun a b h => ?_)
  rw [h.1, h.2]
  refine go_icmp_eq_t (pc := 1119) (tgt := 1393) dL_law_1119 (by decide) rfl ?_
  exact go_w (show wM G c1 m1 = wX G m1 c1 from rfl) (kk c1 m1 (R1.mono (by omega)))
set_option maxRecDepth 100000 in
theorem law_32 {l : Launch} {G : gG} {T i : Nat} {c m : gMem} (hi : i + 6 ≤ G.2.2.2.2.2.2.1) (hL : G.2.2.2.2.2.2.1 ≤ 3072) (R : Rel T c m) (hT : T + 200000 < 2 ^ 28) (kk : ∀ c1 m1, Rel (T + 200000) c1 m1 → Go l G mL_law lawB 1393 (lvL G i) [] 84 146846 (wX G m1 c1)) : Go l G mL_law lawB 1124 (lvL G i) [] 84 146846 (wX G m c) := by
  obtain ⟨r, c1, m1, X1, M1, R1⟩ := op_forge (l1 := sc G (i + 1)) (l2 := sc G (i + 2)) R
  refine go_aload_n (pc := 1124) dL_law_1124 rfl rfl ?_
  refine go_aload_n (pc := 1125) dL_law_1125 rfl rfl ?_
  refine go_iload_n (pc := 1126) dL_law_1126 rfl rfl ?_
  refine go_iconst (pc := 1127) (v := nI 1) dL_law_1127 (by decide) ?_
  refine go_iadd (pc := 1128) dL_law_1128 ?_
  refine go_top (y := nI (i + 1)) (nI_add i 1) ?_
  refine go_sld (pc := 1129) (vp_in_nI (by omega) (by omega)) dL_law_1129 ?_
  refine go_top (y := sc G (i + 1)) (congrArg G.2.2.2.2.2.2.2 (nI_clamp (by omega))) ?_
  refine go_aload_n (pc := 1130) dL_law_1130 rfl rfl ?_
  refine go_iload_n (pc := 1131) dL_law_1131 rfl rfl ?_
  refine go_iconst (pc := 1132) (v := nI 2) dL_law_1132 (by decide) ?_
  refine go_iadd (pc := 1133) dL_law_1133 ?_
  refine go_top (y := nI (i + 2)) (nI_add i 2) ?_
  refine go_sld (pc := 1134) (vp_in_nI (by omega) (by omega)) dL_law_1134 ?_
  refine go_top (y := sc G (i + 2)) (congrArg G.2.2.2.2.2.2.2 (nI_clamp (by omega))) ?_
  refine gq_callV_i (pc := 1135) (F := wX G m) vL_146 rfl (tX9_forge (Q := fun a b => a = r ∧ b = c1) (X1 _ ⟨rfl, rfl⟩)) rfl rfl (gz_b (by decide)) xw0 rfl (Nat.le_of_ble_eq_true rfl) ⟨Nat.le_of_ble_eq_true rfl, Nat.le_of_ble_eq_true rfl, Nat.le_add_left _ _, Nat.le_add_left _ _⟩ dL_law_1135 (fun a b h => ?_)
  rw [h.1, h.2]
  refine go_w (show wX G m c1 = wM G c1 m from rfl) ?_
  refine go_aload_n (pc := 1138) dL_law_1138 rfl rfl ?_
  refine go_aload_n (pc := 1139) dL_law_1139 rfl rfl ?_
  refine go_iload_n (pc := 1140) dL_law_1140 rfl rfl ?_
  refine go_iconst (pc := 1141) (v := nI 1) dL_law_1141 (by decide) ?_
  refine go_iadd (pc := 1142) dL_law_1142 ?_
  refine go_top (y := nI (i + 1)) (nI_add i 1) ?_
  refine go_sld (pc := 1143) (vp_in_nI (by omega) (by omega)) dL_law_1143 ?_
  refine go_top (y := sc G (i + 1)) (congrArg G.2.2.2.2.2.2.2 (nI_clamp (by omega))) ?_
  refine go_aload_n (pc := 1144) dL_law_1144 rfl rfl ?_
  refine go_iload_n (pc := 1145) dL_law_1145 rfl rfl ?_
  refine go_iconst (pc := 1146) (v := nI 2) dL_law_1146 (by decide) ?_
  refine go_iadd (pc := 1147) dL_law_1147 ?_
  refine go_top (y := nI (i + 2)) (nI_add i 2) ?_
  refine go_sld (pc := 1148) (vp_in_nI (by omega) (by omega)) dL_law_1148 ?_
  refine go_top (y := sc G (i + 2)) (congrArg G.2.2.2.2.2.2.2 (nI_clamp (by omega))) ?_
  refine gq_callV_i (pc := 1149) (F := wM G c1) vL_149 rfl (tX10_forge (Q := fun a b => a = r ∧ b = m1) (M1 _ ⟨rfl, rfl⟩)) rfl rfl (gz_b (by decide)) yw0 rfl (Nat.le_of_ble_eq_true rfl) ⟨Nat.le_of_ble_eq_true rfl, Nat.le_of_ble_eq_true rfl, Nat.le_add_left _ _, Nat.le_add_left _ _⟩ dL_law_1149 (fun a b h => ?_)
  rw [h.1, h.2]
  refine go_icmp_eq_t (pc := 1152) (tgt := 1393) dL_law_1152 (by decide) rfl ?_
  exact go_w (show wM G c1 m1 = wX G m1 c1 from rfl) (kk c1 m1 (R1.mono (by omega)))
set_option maxRecDepth 100000 in
theorem law_33 {l : Launch} {G : gG} {T i : Nat} {c m : gMem} (hi : i + 6 ≤ G.2.2.2.2.2.2.1) (hL : G.2.2.2.2.2.2.1 ≤ 3072) (R : Rel T c m) (hT : T + 200000 < 2 ^ 28) (kk : ∀ c1 m1, Rel (T + 200000) c1 m1 → Go l G mL_law lawB 1393 (lvL G i) [] 84 146846 (wX G m1 c1)) : Go l G mL_law lawB 1157 (lvL G i) [] 84 146846 (wX G m c) := by
  obtain ⟨r, c1, m1, X1, M1, R1⟩ := op_plain R
  refine go_aload_n (pc := 1157) dL_law_1157 rfl rfl ?_
  refine gq_callV_i (pc := 1158) (F := wX G m) vL_150 rfl (tX9_plain (Q := fun a b => a = r ∧ b = c1) (X1 _ ⟨rfl, rfl⟩)) rfl rfl (gz_b (by decide)) xw0 rfl (Nat.le_of_ble_eq_true rfl) ⟨Nat.le_of_ble_eq_true rfl, Nat.le_of_ble_eq_true rfl, Nat.le_add_left _ _, Nat.le_add_left _ _⟩ dL_law_1158 (fun a b h => ?_)
  rw [h.1, h.2]
  refine go_w (show wX G m c1 = wM G c1 m from rfl) ?_
  refine go_aload_n (pc := 1161) dL_law_1161 rfl rfl ?_
  refine gq_callV_i (pc := 1162) (F := wM G c1) vL_153 rfl (tX10_plain (Q := fun a b => a = r ∧ b = m1) (M1 _ ⟨rfl, rfl⟩)) rfl rfl (gz_b (by decide)) yw0 rfl (Nat.le_of_ble_eq_true rfl) ⟨Nat.le_of_ble_eq_true rfl, Nat.le_of_ble_eq_true rfl, Nat.le_add_left _ _, Nat.le_add_left _ _⟩ dL_law_1162 (fun a b h => ?_)
  rw [h.1, h.2]
  refine go_icmp_eq_t (pc := 1165) (tgt := 1393) dL_law_1165 (by decide) rfl ?_
  exact go_w (show wM G c1 m1 = wX G m1 c1 from rfl) (kk c1 m1 (R1.mono (by omega)))
set_option maxRecDepth 100000 in
theorem law_34 {l : Launch} {G : gG} {T i : Nat} {c m : gMem} (hi : i + 6 ≤ G.2.2.2.2.2.2.1) (hL : G.2.2.2.2.2.2.1 ≤ 3072) (R : Rel T c m) (hT : T + 200000 < 2 ^ 28) (kk : ∀ c1 m1, Rel (T + 200000) c1 m1 → Go l G mL_law lawB 1393 (lvL G i) [] 84 146846 (wX G m1 c1)) : Go l G mL_law lawB 1170 (lvL G i) [] 84 146846 (wX G m c) := by
  obtain ⟨r, c1, m1, X1, M1, R1⟩ := op_check R
  refine go_aload_n (pc := 1170) dL_law_1170 rfl rfl ?_
  refine gq_callV_i (pc := 1171) (F := wX G m) vL_154 rfl (tX9_check (Q := fun a b => a = r ∧ b = c1) (X1 _ ⟨rfl, rfl⟩)) rfl rfl (gz_b (by decide)) xw0 rfl (Nat.le_of_ble_eq_true rfl) ⟨Nat.le_of_ble_eq_true rfl, Nat.le_of_ble_eq_true rfl, Nat.le_add_left _ _, Nat.le_add_left _ _⟩ dL_law_1171 (fun a b h => ?_)
  rw [h.1, h.2]
  refine go_w (show wX G m c1 = wM G c1 m from rfl) ?_
  refine go_aload_n (pc := 1174) dL_law_1174 rfl rfl ?_
  refine gq_callV_i (pc := 1175) (F := wM G c1) vL_157 rfl (tX10_check (Q := fun a b => a = r ∧ b = m1) (M1 _ ⟨rfl, rfl⟩)) rfl rfl (gz_b (by decide)) yw0 rfl (Nat.le_of_ble_eq_true rfl) ⟨Nat.le_of_ble_eq_true rfl, Nat.le_of_ble_eq_true rfl, Nat.le_add_left _ _, Nat.le_add_left _ _⟩ dL_law_1175 (fun a b h => ?_)
  rw [h.1, h.2]
  refine go_icmp_eq_t (pc := 1178) (tgt := 1393) dL_law_1178 (by decide) rfl ?_
  exact go_w (show wM G c1 m1 = wX G m1 c1 from rfl) (kk c1 m1 (R1.mono (by omega)))
set_option maxRecDepth 100000 in
theorem law_35 {l : Launch} {G : gG} {T i : Nat} {c m : gMem} (hi : i + 6 ≤ G.2.2.2.2.2.2.1) (hL : G.2.2.2.2.2.2.1 ≤ 3072) (R : Rel T c m) (hT : T + 200000 < 2 ^ 28) (kk : ∀ c1 m1, Rel (T + 200000) c1 m1 → Go l G mL_law lawB 1393 (lvL G i) [] 84 146846 (wX G m1 c1)) : Go l G mL_law lawB 1183 (lvL G i) [] 84 146846 (wX G m c) := by
  obtain ⟨r, c1, m1, X1, M1, R1⟩ := op_act (l1 := sc G (i + 1)) (l2 := sc G (i + 2)) (l3 := sc G (i + 3)) (l4 := sc G (i + 4)) (l5 := sc G (i + 5)) R
  refine go_aload_n (pc := 1183) dL_law_1183 rfl rfl ?_
  refine go_aload_n (pc := 1184) dL_law_1184 rfl rfl ?_
  refine go_iload_n (pc := 1185) dL_law_1185 rfl rfl ?_
  refine go_iconst (pc := 1186) (v := nI 1) dL_law_1186 (by decide) ?_
  refine go_iadd (pc := 1187) dL_law_1187 ?_
  refine go_top (y := nI (i + 1)) (nI_add i 1) ?_
  refine go_sld (pc := 1188) (vp_in_nI (by omega) (by omega)) dL_law_1188 ?_
  refine go_top (y := sc G (i + 1)) (congrArg G.2.2.2.2.2.2.2 (nI_clamp (by omega))) ?_
  refine go_aload_n (pc := 1189) dL_law_1189 rfl rfl ?_
  refine go_iload_n (pc := 1190) dL_law_1190 rfl rfl ?_
  refine go_iconst (pc := 1191) (v := nI 2) dL_law_1191 (by decide) ?_
  refine go_iadd (pc := 1192) dL_law_1192 ?_
  refine go_top (y := nI (i + 2)) (nI_add i 2) ?_
  refine go_sld (pc := 1193) (vp_in_nI (by omega) (by omega)) dL_law_1193 ?_
  refine go_top (y := sc G (i + 2)) (congrArg G.2.2.2.2.2.2.2 (nI_clamp (by omega))) ?_
  refine go_aload_n (pc := 1194) dL_law_1194 rfl rfl ?_
  refine go_iload_n (pc := 1195) dL_law_1195 rfl rfl ?_
  refine go_iconst (pc := 1196) (v := nI 3) dL_law_1196 (by decide) ?_
  refine go_iadd (pc := 1197) dL_law_1197 ?_
  refine go_top (y := nI (i + 3)) (nI_add i 3) ?_
  refine go_sld (pc := 1198) (vp_in_nI (by omega) (by omega)) dL_law_1198 ?_
  refine go_top (y := sc G (i + 3)) (congrArg G.2.2.2.2.2.2.2 (nI_clamp (by omega))) ?_
  refine go_aload_n (pc := 1199) dL_law_1199 rfl rfl ?_
  refine go_iload_n (pc := 1200) dL_law_1200 rfl rfl ?_
  refine go_iconst (pc := 1201) (v := nI 4) dL_law_1201 (by decide) ?_
  refine go_iadd (pc := 1202) dL_law_1202 ?_
  refine go_top (y := nI (i + 4)) (nI_add i 4) ?_
  refine go_sld (pc := 1203) (vp_in_nI (by omega) (by omega)) dL_law_1203 ?_
  refine go_top (y := sc G (i + 4)) (congrArg G.2.2.2.2.2.2.2 (nI_clamp (by omega))) ?_
  refine go_aload_n (pc := 1204) dL_law_1204 rfl rfl ?_
  refine go_iload_n (pc := 1205) dL_law_1205 rfl rfl ?_
  refine go_iconst (pc := 1206) (v := nI 5) dL_law_1206 (by decide) ?_
  refine go_iadd (pc := 1207) dL_law_1207 ?_
  refine go_top (y := nI (i + 5)) (nI_add i 5) ?_
  refine go_sld (pc := 1208) (vp_in_nI (by omega) (by omega)) dL_law_1208 ?_
  refine go_top (y := sc G (i + 5)) (congrArg G.2.2.2.2.2.2.2 (nI_clamp (by omega))) ?_
  refine gq_callV_i (pc := 1209) (F := wX G m) vL_158 rfl (tX9_act (Q := fun a b => a = r ∧ b = c1) (X1 _ ⟨rfl, rfl⟩)) rfl rfl (gz_b (by decide)) xw0 rfl (Nat.le_of_ble_eq_true rfl) ⟨Nat.le_of_ble_eq_true rfl, Nat.le_of_ble_eq_true rfl, Nat.le_add_left _ _, Nat.le_add_left _ _⟩ dL_law_1209 (fun a b h => ?_)
  rw [h.1, h.2]
  refine go_w (show wX G m c1 = wM G c1 m from rfl) ?_
  refine go_aload_n (pc := 1212) dL_law_1212 rfl rfl ?_
  refine go_aload_n (pc := 1213) dL_law_1213 rfl rfl ?_
  refine go_iload_n (pc := 1214) dL_law_1214 rfl rfl ?_
  refine go_iconst (pc := 1215) (v := nI 1) dL_law_1215 (by decide) ?_
  refine go_iadd (pc := 1216) dL_law_1216 ?_
  refine go_top (y := nI (i + 1)) (nI_add i 1) ?_
  refine go_sld (pc := 1217) (vp_in_nI (by omega) (by omega)) dL_law_1217 ?_
  refine go_top (y := sc G (i + 1)) (congrArg G.2.2.2.2.2.2.2 (nI_clamp (by omega))) ?_
  refine go_aload_n (pc := 1218) dL_law_1218 rfl rfl ?_
  refine go_iload_n (pc := 1219) dL_law_1219 rfl rfl ?_
  refine go_iconst (pc := 1220) (v := nI 2) dL_law_1220 (by decide) ?_
  refine go_iadd (pc := 1221) dL_law_1221 ?_
  refine go_top (y := nI (i + 2)) (nI_add i 2) ?_
  refine go_sld (pc := 1222) (vp_in_nI (by omega) (by omega)) dL_law_1222 ?_
  refine go_top (y := sc G (i + 2)) (congrArg G.2.2.2.2.2.2.2 (nI_clamp (by omega))) ?_
  refine go_aload_n (pc := 1223) dL_law_1223 rfl rfl ?_
  refine go_iload_n (pc := 1224) dL_law_1224 rfl rfl ?_
  refine go_iconst (pc := 1225) (v := nI 3) dL_law_1225 (by decide) ?_
  refine go_iadd (pc := 1226) dL_law_1226 ?_
  refine go_top (y := nI (i + 3)) (nI_add i 3) ?_
  refine go_sld (pc := 1227) (vp_in_nI (by omega) (by omega)) dL_law_1227 ?_
  refine go_top (y := sc G (i + 3)) (congrArg G.2.2.2.2.2.2.2 (nI_clamp (by omega))) ?_
  refine go_aload_n (pc := 1228) dL_law_1228 rfl rfl ?_
  refine go_iload_n (pc := 1229) dL_law_1229 rfl rfl ?_
  refine go_iconst (pc := 1230) (v := nI 4) dL_law_1230 (by decide) ?_
  refine go_iadd (pc := 1231) dL_law_1231 ?_
  refine go_top (y := nI (i + 4)) (nI_add i 4) ?_
  refine go_sld (pc := 1232) (vp_in_nI (by omega) (by omega)) dL_law_1232 ?_
  refine go_top (y := sc G (i + 4)) (congrArg G.2.2.2.2.2.2.2 (nI_clamp (by omega))) ?_
  refine go_aload_n (pc := 1233) dL_law_1233 rfl rfl ?_
  refine go_iload_n (pc := 1234) dL_law_1234 rfl rfl ?_
  refine go_iconst (pc := 1235) (v := nI 5) dL_law_1235 (by decide) ?_
  refine go_iadd (pc := 1236) dL_law_1236 ?_
  refine go_top (y := nI (i + 5)) (nI_add i 5) ?_
  refine go_sld (pc := 1237) (vp_in_nI (by omega) (by omega)) dL_law_1237 ?_
  refine go_top (y := sc G (i + 5)) (congrArg G.2.2.2.2.2.2.2 (nI_clamp (by omega))) ?_
  refine gq_callV_i (pc := 1238) (F := wM G c1) vL_161 rfl (tX10_act (Q := fun a b => a = r ∧ b = m1) (M1 _ ⟨rfl, rfl⟩)) rfl rfl (gz_b (by decide)) yw0 rfl (Nat.le_of_ble_eq_true rfl) ⟨Nat.le_of_ble_eq_true rfl, Nat.le_of_ble_eq_true rfl, Nat.le_add_left _ _, Nat.le_add_left _ _⟩ dL_law_1238 (fun a b h => ?_)
  rw [h.1, h.2]
  refine go_icmp_eq_t (pc := 1241) (tgt := 1393) dL_law_1241 (by decide) rfl ?_
  exact go_w (show wM G c1 m1 = wX G m1 c1 from rfl) (kk c1 m1 (R1.mono (by omega)))
set_option maxRecDepth 100000 in
theorem law_36 {l : Launch} {G : gG} {T i : Nat} {c m : gMem} (hi : i + 6 ≤ G.2.2.2.2.2.2.1) (hL : G.2.2.2.2.2.2.1 ≤ 3072) (R : Rel T c m) (hT : T + 200000 < 2 ^ 28) (kk : ∀ c1 m1, Rel (T + 200000) c1 m1 → Go l G mL_law lawB 1393 (lvL G i) [] 84 146846 (wX G m1 c1)) : Go l G mL_law lawB 1246 (lvL G i) [] 84 146846 (wX G m c) := by
  obtain ⟨r, c1, m1, X1, M1, R1⟩ := op_clear R
  refine go_aload_n (pc := 1246) dL_law_1246 rfl rfl ?_
  refine gq_callV_i (pc := 1247) (F := wX G m) vL_162 rfl (tX9_clear (Q := fun a b => a = r ∧ b = c1) (X1 _ ⟨rfl, rfl⟩)) rfl rfl (gz_b (by decide)) xw0 rfl (Nat.le_of_ble_eq_true rfl) ⟨Nat.le_of_ble_eq_true rfl, Nat.le_of_ble_eq_true rfl, Nat.le_add_left _ _, Nat.le_add_left _ _⟩ dL_law_1247 (fun a b h => ?_)
  rw [h.1, h.2]
  refine go_w (show wX G m c1 = wM G c1 m from rfl) ?_
  refine go_aload_n (pc := 1250) dL_law_1250 rfl rfl ?_
  refine gq_callV_i (pc := 1251) (F := wM G c1) vL_165 rfl (tX10_clear (Q := fun a b => a = r ∧ b = m1) (M1 _ ⟨rfl, rfl⟩)) rfl rfl (gz_b (by decide)) yw0 rfl (Nat.le_of_ble_eq_true rfl) ⟨Nat.le_of_ble_eq_true rfl, Nat.le_of_ble_eq_true rfl, Nat.le_add_left _ _, Nat.le_add_left _ _⟩ dL_law_1251 (fun a b h => ?_)
  rw [h.1, h.2]
  refine go_icmp_eq_t (pc := 1254) (tgt := 1393) dL_law_1254 (by decide) rfl ?_
  exact go_w (show wM G c1 m1 = wX G m1 c1 from rfl) (kk c1 m1 (R1.mono (by omega)))
set_option maxRecDepth 100000 in
theorem law_37 {l : Launch} {G : gG} {T i : Nat} {c m : gMem} (hi : i + 6 ≤ G.2.2.2.2.2.2.1) (hL : G.2.2.2.2.2.2.1 ≤ 3072) (R : Rel T c m) (hT : T + 200000 < 2 ^ 28) (kk : ∀ c1 m1, Rel (T + 200000) c1 m1 → Go l G mL_law lawB 1393 (lvL G i) [] 84 146846 (wX G m1 c1)) : Go l G mL_law lawB 1259 (lvL G i) [] 84 146846 (wX G m c) := by
  obtain ⟨r, c1, m1, X1, M1, R1⟩ := op_run (x := sc G (i + 1)) R (by omega)
  refine go_aload_n (pc := 1259) dL_law_1259 rfl rfl ?_
  refine go_aload_n (pc := 1260) dL_law_1260 rfl rfl ?_
  refine go_iload_n (pc := 1261) dL_law_1261 rfl rfl ?_
  refine go_iconst (pc := 1262) (v := nI 1) dL_law_1262 (by decide) ?_
  refine go_iadd (pc := 1263) dL_law_1263 ?_
  refine go_top (y := nI (i + 1)) (nI_add i 1) ?_
  refine go_sld (pc := 1264) (vp_in_nI (by omega) (by omega)) dL_law_1264 ?_
  refine go_top (y := sc G (i + 1)) (congrArg G.2.2.2.2.2.2.2 (nI_clamp (by omega))) ?_
  refine gq_callV_i (pc := 1265) (F := wX G m) vL_166 rfl (tX9_run (Q := fun a b => a = r ∧ b = c1) (X1 _ ⟨rfl, rfl⟩)) rfl rfl (gz_b (by decide)) xw0 rfl (Nat.le_of_ble_eq_true rfl) ⟨Nat.le_of_ble_eq_true rfl, Nat.le_of_ble_eq_true rfl, Nat.le_add_left _ _, Nat.le_add_left _ _⟩ dL_law_1265 (fun a b h => ?_)
  rw [h.1, h.2]
  refine go_w (show wX G m c1 = wM G c1 m from rfl) ?_
  refine go_aload_n (pc := 1268) dL_law_1268 rfl rfl ?_
  refine go_aload_n (pc := 1269) dL_law_1269 rfl rfl ?_
  refine go_iload_n (pc := 1270) dL_law_1270 rfl rfl ?_
  refine go_iconst (pc := 1271) (v := nI 1) dL_law_1271 (by decide) ?_
  refine go_iadd (pc := 1272) dL_law_1272 ?_
  refine go_top (y := nI (i + 1)) (nI_add i 1) ?_
  refine go_sld (pc := 1273) (vp_in_nI (by omega) (by omega)) dL_law_1273 ?_
  refine go_top (y := sc G (i + 1)) (congrArg G.2.2.2.2.2.2.2 (nI_clamp (by omega))) ?_
  refine gq_callV_i (pc := 1274) (F := wM G c1) vL_169 rfl (tX10_run (Q := fun a b => a = r ∧ b = m1) (M1 _ ⟨rfl, rfl⟩)) rfl rfl (gz_b (by decide)) yw0 rfl (Nat.le_of_ble_eq_true rfl) ⟨Nat.le_of_ble_eq_true rfl, Nat.le_of_ble_eq_true rfl, Nat.le_add_left _ _, Nat.le_add_left _ _⟩ dL_law_1274 (fun a b h => ?_)
  rw [h.1, h.2]
  refine go_icmp_eq_t (pc := 1277) (tgt := 1393) dL_law_1277 (by decide) rfl ?_
  exact go_w (show wM G c1 m1 = wX G m1 c1 from rfl) (kk c1 m1 (R1.mono (by omega)))
set_option maxRecDepth 100000 in
theorem law_38 {l : Launch} {G : gG} {T i : Nat} {c m : gMem} (hi : i + 6 ≤ G.2.2.2.2.2.2.1) (hL : G.2.2.2.2.2.2.1 ≤ 3072) (R : Rel T c m) (hT : T + 200000 < 2 ^ 28) (kk : ∀ c1 m1, Rel (T + 200000) c1 m1 → Go l G mL_law lawB 1393 (lvL G i) [] 84 146846 (wX G m1 c1)) : Go l G mL_law lawB 1282 (lvL G i) [] 84 146846 (wX G m c) := by
  obtain ⟨r, c1, m1, X1, M1, R1⟩ := op_found R
  refine go_aload_n (pc := 1282) dL_law_1282 rfl rfl ?_
  refine gq_callV_i (pc := 1283) (F := wX G m) vL_170 rfl (tX9_found (Q := fun a b => a = r ∧ b = c1) (X1 _ ⟨rfl, rfl⟩)) rfl rfl (gz_b (by decide)) xw0 rfl (Nat.le_of_ble_eq_true rfl) ⟨Nat.le_of_ble_eq_true rfl, Nat.le_of_ble_eq_true rfl, Nat.le_add_left _ _, Nat.le_add_left _ _⟩ dL_law_1283 (fun a b h => ?_)
  rw [h.1, h.2]
  refine go_w (show wX G m c1 = wM G c1 m from rfl) ?_
  refine go_aload_n (pc := 1286) dL_law_1286 rfl rfl ?_
  refine gq_callV_i (pc := 1287) (F := wM G c1) vL_173 rfl (tX10_found (Q := fun a b => a = r ∧ b = m1) (M1 _ ⟨rfl, rfl⟩)) rfl rfl (gz_b (by decide)) yw0 rfl (Nat.le_of_ble_eq_true rfl) ⟨Nat.le_of_ble_eq_true rfl, Nat.le_of_ble_eq_true rfl, Nat.le_add_left _ _, Nat.le_add_left _ _⟩ dL_law_1287 (fun a b h => ?_)
  rw [h.1, h.2]
  refine go_icmp_eq_t (pc := 1290) (tgt := 1393) dL_law_1290 (by decide) rfl ?_
  exact go_w (show wM G c1 m1 = wX G m1 c1 from rfl) (kk c1 m1 (R1.mono (by omega)))
set_option maxRecDepth 100000 in
theorem law_39 {l : Launch} {G : gG} {T i : Nat} {c m : gMem} (hi : i + 6 ≤ G.2.2.2.2.2.2.1) (hL : G.2.2.2.2.2.2.1 ≤ 3072) (R : Rel T c m) (hT : T + 200000 < 2 ^ 28) (kk : ∀ c1 m1, Rel (T + 200000) c1 m1 → Go l G mL_law lawB 1393 (lvL G i) [] 84 146846 (wX G m1 c1)) : Go l G mL_law lawB 1295 (lvL G i) [] 84 146846 (wX G m c) := by
  obtain ⟨r, c1, m1, X1, M1, R1⟩ := op_register (l1 := sc G (i + 1)) R
  refine go_aload_n (pc := 1295) dL_law_1295 rfl rfl ?_
  refine go_aload_n (pc := 1296) dL_law_1296 rfl rfl ?_
  refine go_iload_n (pc := 1297) dL_law_1297 rfl rfl ?_
  refine go_iconst (pc := 1298) (v := nI 1) dL_law_1298 (by decide) ?_
  refine go_iadd (pc := 1299) dL_law_1299 ?_
  refine go_top (y := nI (i + 1)) (nI_add i 1) ?_
  refine go_sld (pc := 1300) (vp_in_nI (by omega) (by omega)) dL_law_1300 ?_
  refine go_top (y := sc G (i + 1)) (congrArg G.2.2.2.2.2.2.2 (nI_clamp (by omega))) ?_
  refine gq_callV_i (pc := 1301) (F := wX G m) vL_174 rfl (tX9_register (Q := fun a b => a = r ∧ b = c1) (X1 _ ⟨rfl, rfl⟩)) rfl rfl (gz_b (by decide)) xw0 rfl (Nat.le_of_ble_eq_true rfl) ⟨Nat.le_of_ble_eq_true rfl, Nat.le_of_ble_eq_true rfl, Nat.le_add_left _ _, Nat.le_add_left _ _⟩ dL_law_1301 (fun a b h => ?_)
  rw [h.1, h.2]
  refine go_w (show wX G m c1 = wM G c1 m from rfl) ?_
  refine go_aload_n (pc := 1304) dL_law_1304 rfl rfl ?_
  refine go_aload_n (pc := 1305) dL_law_1305 rfl rfl ?_
  refine go_iload_n (pc := 1306) dL_law_1306 rfl rfl ?_
  refine go_iconst (pc := 1307) (v := nI 1) dL_law_1307 (by decide) ?_
  refine go_iadd (pc := 1308) dL_law_1308 ?_
  refine go_top (y := nI (i + 1)) (nI_add i 1) ?_
  refine go_sld (pc := 1309) (vp_in_nI (by omega) (by omega)) dL_law_1309 ?_
  refine go_top (y := sc G (i + 1)) (congrArg G.2.2.2.2.2.2.2 (nI_clamp (by omega))) ?_
  refine gq_callV_i (pc := 1310) (F := wM G c1) vL_177 rfl (tX10_register (Q := fun a b => a = r ∧ b = m1) (M1 _ ⟨rfl, rfl⟩)) rfl rfl (gz_b (by decide)) yw0 rfl (Nat.le_of_ble_eq_true rfl) ⟨Nat.le_of_ble_eq_true rfl, Nat.le_of_ble_eq_true rfl, Nat.le_add_left _ _, Nat.le_add_left _ _⟩ dL_law_1310 (fun a b h => ?_)
  rw [h.1, h.2]
  refine go_icmp_eq_t (pc := 1313) (tgt := 1393) dL_law_1313 (by decide) rfl ?_
  exact go_w (show wM G c1 m1 = wX G m1 c1 from rfl) (kk c1 m1 (R1.mono (by omega)))
set_option maxRecDepth 100000 in
theorem law_40 {l : Launch} {G : gG} {T i : Nat} {c m : gMem} (hi : i + 6 ≤ G.2.2.2.2.2.2.1) (hL : G.2.2.2.2.2.2.1 ≤ 3072) (R : Rel T c m) (hT : T + 200000 < 2 ^ 28) (kk : ∀ c1 m1, Rel (T + 200000) c1 m1 → Go l G mL_law lawB 1393 (lvL G i) [] 84 146846 (wX G m1 c1)) : Go l G mL_law lawB 1318 (lvL G i) [] 84 146846 (wX G m c) := by
  obtain ⟨r, c1, m1, X1, M1, R1⟩ := op_image R
  refine go_aload_n (pc := 1318) dL_law_1318 rfl rfl ?_
  refine gq_callV_i (pc := 1319) (F := wX G m) vL_178 rfl (tX9_image (Q := fun a b => a = r ∧ b = c1) (X1 _ ⟨rfl, rfl⟩)) rfl rfl (gz_b (by decide)) xw0 rfl (Nat.le_of_ble_eq_true rfl) ⟨Nat.le_of_ble_eq_true rfl, Nat.le_of_ble_eq_true rfl, Nat.le_add_left _ _, Nat.le_add_left _ _⟩ dL_law_1319 (fun a b h => ?_)
  rw [h.1, h.2]
  refine go_w (show wX G m c1 = wM G c1 m from rfl) ?_
  refine go_aload_n (pc := 1322) dL_law_1322 rfl rfl ?_
  refine gq_callV_i (pc := 1323) (F := wM G c1) vL_181 rfl (tX10_image (Q := fun a b => a = r ∧ b = m1) (M1 _ ⟨rfl, rfl⟩)) rfl rfl (gz_b (by decide)) yw0 rfl (Nat.le_of_ble_eq_true rfl) ⟨Nat.le_of_ble_eq_true rfl, Nat.le_of_ble_eq_true rfl, Nat.le_add_left _ _, Nat.le_add_left _ _⟩ dL_law_1323 (fun a b h => ?_)
  rw [h.1, h.2]
  refine go_icmp_eq_t (pc := 1326) (tgt := 1393) dL_law_1326 (by decide) rfl ?_
  exact go_w (show wM G c1 m1 = wX G m1 c1 from rfl) (kk c1 m1 (R1.mono (by omega)))
set_option maxRecDepth 100000 in
theorem law_41 {l : Launch} {G : gG} {T i : Nat} {c m : gMem} (hi : i + 6 ≤ G.2.2.2.2.2.2.1) (hL : G.2.2.2.2.2.2.1 ≤ 3072) (R : Rel T c m) (hT : T + 200000 < 2 ^ 28) (kk : ∀ c1 m1, Rel (T + 200000) c1 m1 → Go l G mL_law lawB 1393 (lvL G i) [] 84 146846 (wX G m1 c1)) : Go l G mL_law lawB 1331 (lvL G i) [] 84 146846 (wX G m c) := by
  obtain ⟨r, c1, m1, X1, M1, R1⟩ := op_load R
  refine go_aload_n (pc := 1331) dL_law_1331 rfl rfl ?_
  refine gq_callV_i (pc := 1332) (F := wX G m) vL_182 rfl (tX9_load (Q := fun a b => a = r ∧ b = c1) (X1 _ ⟨rfl, rfl⟩)) rfl rfl (gz_b (by decide)) xw0 rfl (Nat.le_of_ble_eq_true rfl) ⟨Nat.le_of_ble_eq_true rfl, Nat.le_of_ble_eq_true rfl, Nat.le_add_left _ _, Nat.le_add_left _ _⟩ dL_law_1332 (fun a b h => ?_)
  rw [h.1, h.2]
  refine go_w (show wX G m c1 = wM G c1 m from rfl) ?_
  refine go_aload_n (pc := 1335) dL_law_1335 rfl rfl ?_
  refine gq_callV_i (pc := 1336) (F := wM G c1) vL_185 rfl (tX10_load (Q := fun a b => a = r ∧ b = m1) (M1 _ ⟨rfl, rfl⟩)) rfl rfl (gz_b (by decide)) yw0 rfl (Nat.le_of_ble_eq_true rfl) ⟨Nat.le_of_ble_eq_true rfl, Nat.le_of_ble_eq_true rfl, Nat.le_add_left _ _, Nat.le_add_left _ _⟩ dL_law_1336 (fun a b h => ?_)
  rw [h.1, h.2]
  refine go_icmp_eq_t (pc := 1339) (tgt := 1393) dL_law_1339 (by decide) rfl ?_
  exact go_w (show wM G c1 m1 = wX G m1 c1 from rfl) (kk c1 m1 (R1.mono (by omega)))
set_option maxRecDepth 100000 in
theorem law_42 {l : Launch} {G : gG} {T i : Nat} {c m : gMem} (hi : i + 6 ≤ G.2.2.2.2.2.2.1) (hL : G.2.2.2.2.2.2.1 ≤ 3072) (R : Rel T c m) (hT : T + 200000 < 2 ^ 28) (kk : ∀ c1 m1, Rel (T + 200000) c1 m1 → Go l G mL_law lawB 1393 (lvL G i) [] 84 146846 (wX G m1 c1)) : Go l G mL_law lawB 1344 (lvL G i) [] 84 146846 (wX G m c) := by
  obtain ⟨r, c1, m1, X1, M1, R1⟩ := op_undoStep R
  refine go_aload_n (pc := 1344) dL_law_1344 rfl rfl ?_
  refine gq_callV_i (pc := 1345) (F := wX G m) vL_186 rfl (tX9_undoStep (Q := fun a b => a = r ∧ b = c1) (X1 _ ⟨rfl, rfl⟩)) rfl rfl (gz_b (by decide)) xw0 rfl (Nat.le_of_ble_eq_true rfl) ⟨Nat.le_of_ble_eq_true rfl, Nat.le_of_ble_eq_true rfl, Nat.le_add_left _ _, Nat.le_add_left _ _⟩ dL_law_1345 (fun a b h => ?_)
  rw [h.1, h.2]
  refine go_w (show wX G m c1 = wM G c1 m from rfl) ?_
  refine go_aload_n (pc := 1348) dL_law_1348 rfl rfl ?_
  refine gq_callV_i (pc := 1349) (F := wM G c1) vL_189 rfl (tX10_undoStep (Q := fun a b => a = r ∧ b = m1) (M1 _ ⟨rfl, rfl⟩)) rfl rfl (gz_b (by decide)) yw0 rfl (Nat.le_of_ble_eq_true rfl) ⟨Nat.le_of_ble_eq_true rfl, Nat.le_of_ble_eq_true rfl, Nat.le_add_left _ _, Nat.le_add_left _ _⟩ dL_law_1349 (fun a b h => ?_)
  rw [h.1, h.2]
  refine go_icmp_eq_t (pc := 1352) (tgt := 1393) dL_law_1352 (by decide) rfl ?_
  exact go_w (show wM G c1 m1 = wX G m1 c1 from rfl) (kk c1 m1 (R1.mono (by omega)))
set_option maxRecDepth 100000 in
theorem law_43 {l : Launch} {G : gG} {T i : Nat} {c m : gMem} (hi : i + 6 ≤ G.2.2.2.2.2.2.1) (hL : G.2.2.2.2.2.2.1 ≤ 3072) (R : Rel T c m) (hT : T + 200000 < 2 ^ 28) (kk : ∀ c1 m1, Rel (T + 200000) c1 m1 → Go l G mL_law lawB 1393 (lvL G i) [] 84 146846 (wX G m1 c1)) : Go l G mL_law lawB 1357 (lvL G i) [] 84 146846 (wX G m c) := by
  obtain ⟨r, c1, m1, X1, M1, R1⟩ := op_finding R
  refine go_aload_n (pc := 1357) dL_law_1357 rfl rfl ?_
  refine gq_callV_i (pc := 1358) (F := wX G m) vL_190 rfl (tX9_finding (Q := fun a b => a = r ∧ b = c1) (X1 _ ⟨rfl, rfl⟩)) rfl rfl (gz_b (by decide)) xw0 rfl (Nat.le_of_ble_eq_true rfl) ⟨Nat.le_of_ble_eq_true rfl, Nat.le_of_ble_eq_true rfl, Nat.le_add_left _ _, Nat.le_add_left _ _⟩ dL_law_1358 (fun a b h => ?_)
  rw [h.1, h.2]
  refine go_w (show wX G m c1 = wM G c1 m from rfl) ?_
  refine go_aload_n (pc := 1361) dL_law_1361 rfl rfl ?_
  refine gq_callV_i (pc := 1362) (F := wM G c1) vL_193 rfl (tX10_finding (Q := fun a b => a = r ∧ b = m1) (M1 _ ⟨rfl, rfl⟩)) rfl rfl (gz_b (by decide)) yw0 rfl (Nat.le_of_ble_eq_true rfl) ⟨Nat.le_of_ble_eq_true rfl, Nat.le_of_ble_eq_true rfl, Nat.le_add_left _ _, Nat.le_add_left _ _⟩ dL_law_1362 (fun a b h => ?_)
  rw [h.1, h.2]
  refine go_icmp_eq_t (pc := 1365) (tgt := 1393) dL_law_1365 (by decide) rfl ?_
  exact go_w (show wM G c1 m1 = wX G m1 c1 from rfl) (kk c1 m1 (R1.mono (by omega)))
set_option maxRecDepth 100000 in
theorem law_44 {l : Launch} {G : gG} {T i : Nat} {c m : gMem} (hi : i + 6 ≤ G.2.2.2.2.2.2.1) (hL : G.2.2.2.2.2.2.1 ≤ 3072) (R : Rel T c m) (hT : T + 200000 < 2 ^ 28) (kk : ∀ c1 m1, Rel (T + 200000) c1 m1 → Go l G mL_law lawB 1393 (lvL G i) [] 84 146846 (wX G m1 c1)) : Go l G mL_law lawB 1370 (lvL G i) [] 84 146846 (wX G m c) := by
  obtain ⟨r, c1, m1, X1, M1, R1⟩ := op_trace (l1 := sc G (i + 1)) R
  refine go_aload_n (pc := 1370) dL_law_1370 rfl rfl ?_
  refine go_aload_n (pc := 1371) dL_law_1371 rfl rfl ?_
  refine go_iload_n (pc := 1372) dL_law_1372 rfl rfl ?_
  refine go_iconst (pc := 1373) (v := nI 1) dL_law_1373 (by decide) ?_
  refine go_iadd (pc := 1374) dL_law_1374 ?_
  refine go_top (y := nI (i + 1)) (nI_add i 1) ?_
  refine go_sld (pc := 1375) (vp_in_nI (by omega) (by omega)) dL_law_1375 ?_
  refine go_top (y := sc G (i + 1)) (congrArg G.2.2.2.2.2.2.2 (nI_clamp (by omega))) ?_
  refine gq_callV_i (pc := 1376) (F := wX G m) vL_194 rfl (tX9_trace (Q := fun a b => a = r ∧ b = c1) (X1 _ ⟨rfl, rfl⟩)) rfl rfl (gz_b (by decide)) xw0 rfl (Nat.le_of_ble_eq_true rfl) ⟨Nat.le_of_ble_eq_true rfl, Nat.le_of_ble_eq_true rfl, Nat.le_add_left _ _, Nat.le_add_left _ _⟩ dL_law_1376 (fun a b h => ?_)
  rw [h.1, h.2]
  refine go_w (show wX G m c1 = wM G c1 m from rfl) ?_
  refine go_aload_n (pc := 1379) dL_law_1379 rfl rfl ?_
  refine go_aload_n (pc := 1380) dL_law_1380 rfl rfl ?_
  refine go_iload_n (pc := 1381) dL_law_1381 rfl rfl ?_
  refine go_iconst (pc := 1382) (v := nI 1) dL_law_1382 (by decide) ?_
  refine go_iadd (pc := 1383) dL_law_1383 ?_
  refine go_top (y := nI (i + 1)) (nI_add i 1) ?_
  refine go_sld (pc := 1384) (vp_in_nI (by omega) (by omega)) dL_law_1384 ?_
  refine go_top (y := sc G (i + 1)) (congrArg G.2.2.2.2.2.2.2 (nI_clamp (by omega))) ?_
  refine gq_callV_i (pc := 1385) (F := wM G c1) vL_197 rfl (tX10_trace (Q := fun a b => a = r ∧ b = m1) (M1 _ ⟨rfl, rfl⟩)) rfl rfl (gz_b (by decide)) yw0 rfl (Nat.le_of_ble_eq_true rfl) ⟨Nat.le_of_ble_eq_true rfl, Nat.le_of_ble_eq_true rfl, Nat.le_add_left _ _, Nat.le_add_left _ _⟩ dL_law_1385 (fun a b h => ?_)
  rw [h.1, h.2]
  refine go_icmp_eq_t (pc := 1388) (tgt := 1393) dL_law_1388 (by decide) rfl ?_
  exact go_w (show wM G c1 m1 = wX G m1 c1 from rfl) (kk c1 m1 (R1.mono (by omega)))

/-! the law's cases -/
theorem law_0 {l : Launch} {G : gG} (hL : G.2.2.2.2.2.2.1 = 6) : Go l G mL_law lawB 228 [(3, .int 0), (2, .ref (G.2.1 + 32)), (1, .ref (G.2.1 + 0)), (0, .ref G.2.2.2.2.2.1)] [] 42 90324 (wl G.2.1 (LF G)) := by
  refine go_aload_n (pc := 228) dL_law_228 rfl rfl ?_
  refine go_aload_n (pc := 229) dL_law_229 rfl rfl ?_
  refine go_iload_n (pc := 230) dL_law_230 rfl rfl ?_
  refine go_iconst (pc := 231) (v := 1) dL_law_231 (by decide) ?_
  refine go_iadd (pc := 232) dL_law_232 ?_
  refine go_top (y := 1) (by decide) ?_
  refine go_sld (pc := 233) (by rw [hL]; exact gv_in (by decide)) dL_law_233 ?_
  refine go_top (y := sc G 1) rfl ?_
  obtain ⟨fr1, lc1, nn, kn, w1, g1, g2, g3, g4, g5, hf, hct⟩ := cx_size (l := l) (G := G) (sc G 1)
  refine go_callV_i (pc := 234) vL_13 rfl (hct) rfl rfl (gz_b (by decide)) (wl_at (i := 0) rfl) rfl (Nat.le_of_ble_eq_true rfl) ⟨(show fr1 + 1 ≤ 11 by omega), (show 8 + (2 + 11) + lc1 ≤ 422 by omega), (show nn ≤ 0 + 600000 by omega), (show kn ≤ 0 + 7302250 by omega)⟩ dL_law_234 ?_
  refine go_aload_n (pc := 237) dL_law_237 rfl rfl ?_
  refine go_aload_n (pc := 238) dL_law_238 rfl rfl ?_
  refine go_iload_n (pc := 239) dL_law_239 rfl rfl ?_
  refine go_iconst (pc := 240) (v := 1) dL_law_240 (by decide) ?_
  refine go_iadd (pc := 241) dL_law_241 ?_
  refine go_top (y := 1) (by decide) ?_
  refine go_sld (pc := 242) (by rw [hL]; exact gv_in (by decide)) dL_law_242 ?_
  refine go_top (y := sc G 1) rfl ?_
  obtain ⟨fr2, lc2, w2, q1, q2, hct2⟩ := cm_size (l := l) (G := G) (sc G 1) nn kn w1 g3 hf
  refine go_callV_i (pc := 243) vL_17 rfl (hct2) rfl rfl (gz_b (by omega)) ((hf 32 (by decide) (by decide)).trans (wl_at (i := 32) rfl)) rfl (Nat.le_of_ble_eq_true rfl) ⟨(show fr2 + 1 ≤ 11 by omega), (show 8 + (2 + 11) + lc2 ≤ 422 by omega), (show nn ≤ 0 + 600000 by omega), (show kn ≤ 0 + 7302250 by omega)⟩ dL_law_243 ?_
  refine go_icmp_eq_t (pc := 246) (tgt := 1393) dL_law_246 (by decide) (eq_size (sc G 1)) ?_
  exact law_next hL (by omega) (by omega)
theorem law_2 {l : Launch} {G : gG} (hL : G.2.2.2.2.2.2.1 = 6) : Go l G mL_law lawB 284 [(3, .int 0), (2, .ref (G.2.1 + 32)), (1, .ref (G.2.1 + 0)), (0, .ref G.2.2.2.2.2.1)] [] 42 90324 (wl G.2.1 (LF G)) := by
  refine go_aload_n (pc := 284) dL_law_284 rfl rfl ?_
  refine go_aload_n (pc := 285) dL_law_285 rfl rfl ?_
  refine go_iload_n (pc := 286) dL_law_286 rfl rfl ?_
  refine go_iconst (pc := 287) (v := 1) dL_law_287 (by decide) ?_
  refine go_iadd (pc := 288) dL_law_288 ?_
  refine go_top (y := 1) (by decide) ?_
  refine go_sld (pc := 289) (by rw [hL]; exact gv_in (by decide)) dL_law_289 ?_
  refine go_top (y := sc G 1) rfl ?_
  obtain ⟨fr1, lc1, nn, kn, w1, g1, g2, g3, g4, g5, hf, hct⟩ := cx_kind (l := l) (G := G) (sc G 1)
  refine go_callV_i (pc := 290) vL_23 rfl (hct) rfl rfl (gz_b (by decide)) (wl_at (i := 0) rfl) rfl (Nat.le_of_ble_eq_true rfl) ⟨(show fr1 + 1 ≤ 11 by omega), (show 8 + (2 + 11) + lc1 ≤ 422 by omega), (show nn ≤ 0 + 600000 by omega), (show kn ≤ 0 + 7302250 by omega)⟩ dL_law_290 ?_
  refine go_aload_n (pc := 293) dL_law_293 rfl rfl ?_
  refine go_aload_n (pc := 294) dL_law_294 rfl rfl ?_
  refine go_iload_n (pc := 295) dL_law_295 rfl rfl ?_
  refine go_iconst (pc := 296) (v := 1) dL_law_296 (by decide) ?_
  refine go_iadd (pc := 297) dL_law_297 ?_
  refine go_top (y := 1) (by decide) ?_
  refine go_sld (pc := 298) (by rw [hL]; exact gv_in (by decide)) dL_law_298 ?_
  refine go_top (y := sc G 1) rfl ?_
  obtain ⟨fr2, lc2, w2, q1, q2, hct2⟩ := cm_kind (l := l) (G := G) (sc G 1) nn kn w1 g3 hf
  refine go_callV_i (pc := 299) vL_26 rfl (hct2) rfl rfl (gz_b (by omega)) ((hf 32 (by decide) (by decide)).trans (wl_at (i := 32) rfl)) rfl (Nat.le_of_ble_eq_true rfl) ⟨(show fr2 + 1 ≤ 11 by omega), (show 8 + (2 + 11) + lc2 ≤ 422 by omega), (show nn ≤ 0 + 600000 by omega), (show kn ≤ 0 + 7302250 by omega)⟩ dL_law_299 ?_
  refine go_icmp_eq_t (pc := 302) (tgt := 1393) dL_law_302 (by decide) rfl ?_
  exact law_next hL (by omega) (by omega)
theorem law_3 {l : Launch} {G : gG} (hL : G.2.2.2.2.2.2.1 = 6) : Go l G mL_law lawB 307 [(3, .int 0), (2, .ref (G.2.1 + 32)), (1, .ref (G.2.1 + 0)), (0, .ref G.2.2.2.2.2.1)] [] 42 90324 (wl G.2.1 (LF G)) := by
  refine go_aload_n (pc := 307) dL_law_307 rfl rfl ?_
  refine go_aload_n (pc := 308) dL_law_308 rfl rfl ?_
  refine go_iload_n (pc := 309) dL_law_309 rfl rfl ?_
  refine go_iconst (pc := 310) (v := 1) dL_law_310 (by decide) ?_
  refine go_iadd (pc := 311) dL_law_311 ?_
  refine go_top (y := 1) (by decide) ?_
  refine go_sld (pc := 312) (by rw [hL]; exact gv_in (by decide)) dL_law_312 ?_
  refine go_top (y := sc G 1) rfl ?_
  obtain ⟨fr1, lc1, nn, kn, w1, g1, g2, g3, g4, g5, hf, hct⟩ := cx_place (l := l) (G := G) (sc G 1)
  refine go_callV_i (pc := 313) vL_27 rfl (hct) rfl rfl (gz_b (by decide)) (wl_at (i := 0) rfl) rfl (Nat.le_of_ble_eq_true rfl) ⟨(show fr1 + 1 ≤ 11 by omega), (show 8 + (2 + 11) + lc1 ≤ 422 by omega), (show nn ≤ 0 + 600000 by omega), (show kn ≤ 0 + 7302250 by omega)⟩ dL_law_313 ?_
  refine go_aload_n (pc := 316) dL_law_316 rfl rfl ?_
  refine go_aload_n (pc := 317) dL_law_317 rfl rfl ?_
  refine go_iload_n (pc := 318) dL_law_318 rfl rfl ?_
  refine go_iconst (pc := 319) (v := 1) dL_law_319 (by decide) ?_
  refine go_iadd (pc := 320) dL_law_320 ?_
  refine go_top (y := 1) (by decide) ?_
  refine go_sld (pc := 321) (by rw [hL]; exact gv_in (by decide)) dL_law_321 ?_
  refine go_top (y := sc G 1) rfl ?_
  obtain ⟨fr2, lc2, w2, q1, q2, hct2⟩ := cm_place (l := l) (G := G) (sc G 1) nn kn w1 g3 hf
  refine go_callV_i (pc := 322) vL_30 rfl (hct2) rfl rfl (gz_b (by omega)) ((hf 32 (by decide) (by decide)).trans (wl_at (i := 32) rfl)) rfl (Nat.le_of_ble_eq_true rfl) ⟨(show fr2 + 1 ≤ 11 by omega), (show 8 + (2 + 11) + lc2 ≤ 422 by omega), (show nn ≤ 0 + 600000 by omega), (show kn ≤ 0 + 7302250 by omega)⟩ dL_law_322 ?_
  refine go_icmp_eq_t (pc := 325) (tgt := 1393) dL_law_325 (by decide) rfl ?_
  exact law_next hL (by omega) (by omega)
theorem law_4 {l : Launch} {G : gG} (hL : G.2.2.2.2.2.2.1 = 6) : Go l G mL_law lawB 330 [(3, .int 0), (2, .ref (G.2.1 + 32)), (1, .ref (G.2.1 + 0)), (0, .ref G.2.2.2.2.2.1)] [] 42 90324 (wl G.2.1 (LF G)) := by
  refine go_aload_n (pc := 330) dL_law_330 rfl rfl ?_
  refine go_aload_n (pc := 331) dL_law_331 rfl rfl ?_
  refine go_iload_n (pc := 332) dL_law_332 rfl rfl ?_
  refine go_iconst (pc := 333) (v := 1) dL_law_333 (by decide) ?_
  refine go_iadd (pc := 334) dL_law_334 ?_
  refine go_top (y := 1) (by decide) ?_
  refine go_sld (pc := 335) (by rw [hL]; exact gv_in (by decide)) dL_law_335 ?_
  refine go_top (y := sc G 1) rfl ?_
  obtain ⟨fr1, lc1, nn, kn, w1, g1, g2, g3, g4, g5, hf, hct⟩ := cx_measure (l := l) (G := G) (sc G 1)
  refine go_callV_i (pc := 336) vL_31 rfl (hct) rfl rfl (gz_b (by decide)) (wl_at (i := 0) rfl) rfl (Nat.le_of_ble_eq_true rfl) ⟨(show fr1 + 1 ≤ 11 by omega), (show 8 + (3 + 11) + lc1 ≤ 422 by omega), (show nn ≤ 0 + 600000 by omega), (show kn ≤ 0 + 7302250 by omega)⟩ dL_law_336 ?_
  refine go_aload_n (pc := 339) dL_law_339 rfl rfl ?_
  refine go_aload_n (pc := 340) dL_law_340 rfl rfl ?_
  refine go_iload_n (pc := 341) dL_law_341 rfl rfl ?_
  refine go_iconst (pc := 342) (v := 1) dL_law_342 (by decide) ?_
  refine go_iadd (pc := 343) dL_law_343 ?_
  refine go_top (y := 1) (by decide) ?_
  refine go_sld (pc := 344) (by rw [hL]; exact gv_in (by decide)) dL_law_344 ?_
  refine go_top (y := sc G 1) rfl ?_
  obtain ⟨fr2, lc2, w2, q1, q2, hct2⟩ := cm_measure (l := l) (G := G) (sc G 1) nn kn w1 g3 hf
  refine go_callV_i (pc := 345) vL_34 rfl (hct2) rfl rfl (gz_b (by omega)) ((hf 32 (by decide) (by decide)).trans (wl_at (i := 32) rfl)) rfl (Nat.le_of_ble_eq_true rfl) ⟨(show fr2 + 1 ≤ 11 by omega), (show 8 + (3 + 11) + lc2 ≤ 422 by omega), (show nn ≤ 0 + 600000 by omega), (show kn ≤ 0 + 7302250 by omega)⟩ dL_law_345 ?_
  refine go_icmp_eq_t (pc := 348) (tgt := 1393) dL_law_348 (by decide) rfl ?_
  exact law_next hL (by omega) (by omega)
theorem law_5 {l : Launch} {G : gG} (hL : G.2.2.2.2.2.2.1 = 6) : Go l G mL_law lawB 353 [(3, .int 0), (2, .ref (G.2.1 + 32)), (1, .ref (G.2.1 + 0)), (0, .ref G.2.2.2.2.2.1)] [] 42 90324 (wl G.2.1 (LF G)) := by
  refine go_aload_n (pc := 353) dL_law_353 rfl rfl ?_
  refine go_aload_n (pc := 354) dL_law_354 rfl rfl ?_
  refine go_iload_n (pc := 355) dL_law_355 rfl rfl ?_
  refine go_iconst (pc := 356) (v := 1) dL_law_356 (by decide) ?_
  refine go_iadd (pc := 357) dL_law_357 ?_
  refine go_top (y := 1) (by decide) ?_
  refine go_sld (pc := 358) (by rw [hL]; exact gv_in (by decide)) dL_law_358 ?_
  refine go_top (y := sc G 1) rfl ?_
  obtain ⟨fr1, lc1, nn, kn, w1, g1, g2, g3, g4, g5, hf, hct⟩ := cx_links (l := l) (G := G) (sc G 1)
  refine go_callV_i (pc := 359) vL_35 rfl (hct) rfl rfl (gz_b (by decide)) (wl_at (i := 0) rfl) rfl (Nat.le_of_ble_eq_true rfl) ⟨(show fr1 + 1 ≤ 11 by omega), (show 8 + (3 + 11) + lc1 ≤ 422 by omega), (show nn ≤ 0 + 600000 by omega), (show kn ≤ 0 + 7302250 by omega)⟩ dL_law_359 ?_
  refine go_aload_n (pc := 362) dL_law_362 rfl rfl ?_
  refine go_aload_n (pc := 363) dL_law_363 rfl rfl ?_
  refine go_iload_n (pc := 364) dL_law_364 rfl rfl ?_
  refine go_iconst (pc := 365) (v := 1) dL_law_365 (by decide) ?_
  refine go_iadd (pc := 366) dL_law_366 ?_
  refine go_top (y := 1) (by decide) ?_
  refine go_sld (pc := 367) (by rw [hL]; exact gv_in (by decide)) dL_law_367 ?_
  refine go_top (y := sc G 1) rfl ?_
  obtain ⟨fr2, lc2, w2, q1, q2, hct2⟩ := cm_links (l := l) (G := G) (sc G 1) nn kn w1 g3 hf
  refine go_callV_i (pc := 368) vL_38 rfl (hct2) rfl rfl (gz_b (by omega)) ((hf 32 (by decide) (by decide)).trans (wl_at (i := 32) rfl)) rfl (Nat.le_of_ble_eq_true rfl) ⟨(show fr2 + 1 ≤ 11 by omega), (show 8 + (3 + 11) + lc2 ≤ 422 by omega), (show nn ≤ 0 + 600000 by omega), (show kn ≤ 0 + 7302250 by omega)⟩ dL_law_368 ?_
  refine go_icmp_eq_t (pc := 371) (tgt := 1393) dL_law_371 (by decide) rfl ?_
  exact law_next hL (by omega) (by omega)
theorem law_6 {l : Launch} {G : gG} (hL : G.2.2.2.2.2.2.1 = 6) : Go l G mL_law lawB 376 [(3, .int 0), (2, .ref (G.2.1 + 32)), (1, .ref (G.2.1 + 0)), (0, .ref G.2.2.2.2.2.1)] [] 42 90324 (wl G.2.1 (LF G)) := by
  refine go_aload_n (pc := 376) dL_law_376 rfl rfl ?_
  refine go_aload_n (pc := 377) dL_law_377 rfl rfl ?_
  refine go_iload_n (pc := 378) dL_law_378 rfl rfl ?_
  refine go_iconst (pc := 379) (v := 1) dL_law_379 (by decide) ?_
  refine go_iadd (pc := 380) dL_law_380 ?_
  refine go_top (y := 1) (by decide) ?_
  refine go_sld (pc := 381) (by rw [hL]; exact gv_in (by decide)) dL_law_381 ?_
  refine go_top (y := sc G 1) rfl ?_
  refine go_aload_n (pc := 382) dL_law_382 rfl rfl ?_
  refine go_iload_n (pc := 383) dL_law_383 rfl rfl ?_
  refine go_iconst (pc := 384) (v := 2) dL_law_384 (by decide) ?_
  refine go_iadd (pc := 385) dL_law_385 ?_
  refine go_top (y := 2) (by decide) ?_
  refine go_sld (pc := 386) (by rw [hL]; exact gv_in (by decide)) dL_law_386 ?_
  refine go_top (y := sc G 2) rfl ?_
  refine go_aload_n (pc := 387) dL_law_387 rfl rfl ?_
  refine go_iload_n (pc := 388) dL_law_388 rfl rfl ?_
  refine go_iconst (pc := 389) (v := 3) dL_law_389 (by decide) ?_
  refine go_iadd (pc := 390) dL_law_390 ?_
  refine go_top (y := 3) (by decide) ?_
  refine go_sld (pc := 391) (by rw [hL]; exact gv_in (by decide)) dL_law_391 ?_
  refine go_top (y := sc G 3) rfl ?_
  obtain ⟨fr1, lc1, nn, kn, w1, g1, g2, g3, g4, g5, hf, hct⟩ := cx_link (l := l) (G := G) (sc G 1) (sc G 2) (sc G 3)
  refine go_callV_i (pc := 392) vL_39 rfl (hct) rfl rfl (gz_b (by decide)) (wl_at (i := 0) rfl) rfl (Nat.le_of_ble_eq_true rfl) ⟨(show fr1 + 1 ≤ 11 by omega), (show 8 + (4 + 11) + lc1 ≤ 422 by omega), (show nn ≤ 0 + 600000 by omega), (show kn ≤ 0 + 7302250 by omega)⟩ dL_law_392 ?_
  refine go_aload_n (pc := 395) dL_law_395 rfl rfl ?_
  refine go_aload_n (pc := 396) dL_law_396 rfl rfl ?_
  refine go_iload_n (pc := 397) dL_law_397 rfl rfl ?_
  refine go_iconst (pc := 398) (v := 1) dL_law_398 (by decide) ?_
  refine go_iadd (pc := 399) dL_law_399 ?_
  refine go_top (y := 1) (by decide) ?_
  refine go_sld (pc := 400) (by rw [hL]; exact gv_in (by decide)) dL_law_400 ?_
  refine go_top (y := sc G 1) rfl ?_
  refine go_aload_n (pc := 401) dL_law_401 rfl rfl ?_
  refine go_iload_n (pc := 402) dL_law_402 rfl rfl ?_
  refine go_iconst (pc := 403) (v := 2) dL_law_403 (by decide) ?_
  refine go_iadd (pc := 404) dL_law_404 ?_
  refine go_top (y := 2) (by decide) ?_
  refine go_sld (pc := 405) (by rw [hL]; exact gv_in (by decide)) dL_law_405 ?_
  refine go_top (y := sc G 2) rfl ?_
  refine go_aload_n (pc := 406) dL_law_406 rfl rfl ?_
  refine go_iload_n (pc := 407) dL_law_407 rfl rfl ?_
  refine go_iconst (pc := 408) (v := 3) dL_law_408 (by decide) ?_
  refine go_iadd (pc := 409) dL_law_409 ?_
  refine go_top (y := 3) (by decide) ?_
  refine go_sld (pc := 410) (by rw [hL]; exact gv_in (by decide)) dL_law_410 ?_
  refine go_top (y := sc G 3) rfl ?_
  obtain ⟨fr2, lc2, w2, q1, q2, hct2⟩ := cm_link (l := l) (G := G) (sc G 1) (sc G 2) (sc G 3) nn kn w1 g3 hf
  refine go_callV_i (pc := 411) vL_43 rfl (hct2) rfl rfl (gz_b (by omega)) ((hf 32 (by decide) (by decide)).trans (wl_at (i := 32) rfl)) rfl (Nat.le_of_ble_eq_true rfl) ⟨(show fr2 + 1 ≤ 11 by omega), (show 8 + (4 + 11) + lc2 ≤ 422 by omega), (show nn ≤ 0 + 600000 by omega), (show kn ≤ 0 + 7302250 by omega)⟩ dL_law_411 ?_
  refine go_icmp_eq_t (pc := 414) (tgt := 1393) dL_law_414 (by decide) rfl ?_
  exact law_next hL (by omega) (by omega)
theorem law_7 {l : Launch} {G : gG} (hL : G.2.2.2.2.2.2.1 = 6) : Go l G mL_law lawB 419 [(3, .int 0), (2, .ref (G.2.1 + 32)), (1, .ref (G.2.1 + 0)), (0, .ref G.2.2.2.2.2.1)] [] 42 90324 (wl G.2.1 (LF G)) := by
  refine go_aload_n (pc := 419) dL_law_419 rfl rfl ?_
  refine go_aload_n (pc := 420) dL_law_420 rfl rfl ?_
  refine go_iload_n (pc := 421) dL_law_421 rfl rfl ?_
  refine go_iconst (pc := 422) (v := 1) dL_law_422 (by decide) ?_
  refine go_iadd (pc := 423) dL_law_423 ?_
  refine go_top (y := 1) (by decide) ?_
  refine go_sld (pc := 424) (by rw [hL]; exact gv_in (by decide)) dL_law_424 ?_
  refine go_top (y := sc G 1) rfl ?_
  refine go_aload_n (pc := 425) dL_law_425 rfl rfl ?_
  refine go_iload_n (pc := 426) dL_law_426 rfl rfl ?_
  refine go_iconst (pc := 427) (v := 2) dL_law_427 (by decide) ?_
  refine go_iadd (pc := 428) dL_law_428 ?_
  refine go_top (y := 2) (by decide) ?_
  refine go_sld (pc := 429) (by rw [hL]; exact gv_in (by decide)) dL_law_429 ?_
  refine go_top (y := sc G 2) rfl ?_
  obtain ⟨fr1, lc1, nn, kn, w1, g1, g2, g3, g4, g5, hf, hct⟩ := cx_get (l := l) (G := G) (sc G 1) (sc G 2)
  refine go_callV_i (pc := 430) vL_44 rfl (hct) rfl rfl (gz_b (by decide)) (wl_at (i := 0) rfl) rfl (Nat.le_of_ble_eq_true rfl) ⟨(show fr1 + 1 ≤ 11 by omega), (show 8 + (3 + 11) + lc1 ≤ 422 by omega), (show nn ≤ 0 + 600000 by omega), (show kn ≤ 0 + 7302250 by omega)⟩ dL_law_430 ?_
  refine go_aload_n (pc := 433) dL_law_433 rfl rfl ?_
  refine go_aload_n (pc := 434) dL_law_434 rfl rfl ?_
  refine go_iload_n (pc := 435) dL_law_435 rfl rfl ?_
  refine go_iconst (pc := 436) (v := 1) dL_law_436 (by decide) ?_
  refine go_iadd (pc := 437) dL_law_437 ?_
  refine go_top (y := 1) (by decide) ?_
  refine go_sld (pc := 438) (by rw [hL]; exact gv_in (by decide)) dL_law_438 ?_
  refine go_top (y := sc G 1) rfl ?_
  refine go_aload_n (pc := 439) dL_law_439 rfl rfl ?_
  refine go_iload_n (pc := 440) dL_law_440 rfl rfl ?_
  refine go_iconst (pc := 441) (v := 2) dL_law_441 (by decide) ?_
  refine go_iadd (pc := 442) dL_law_442 ?_
  refine go_top (y := 2) (by decide) ?_
  refine go_sld (pc := 443) (by rw [hL]; exact gv_in (by decide)) dL_law_443 ?_
  refine go_top (y := sc G 2) rfl ?_
  obtain ⟨fr2, lc2, w2, q1, q2, hct2⟩ := cm_get (l := l) (G := G) (sc G 1) (sc G 2) nn kn w1 g3 hf
  refine go_callV_i (pc := 444) vL_47 rfl (hct2) rfl rfl (gz_b (by omega)) ((hf 32 (by decide) (by decide)).trans (wl_at (i := 32) rfl)) rfl (Nat.le_of_ble_eq_true rfl) ⟨(show fr2 + 1 ≤ 11 by omega), (show 8 + (3 + 11) + lc2 ≤ 422 by omega), (show nn ≤ 0 + 600000 by omega), (show kn ≤ 0 + 7302250 by omega)⟩ dL_law_444 ?_
  refine go_icmp_eq_t (pc := 447) (tgt := 1393) dL_law_447 (by decide) rfl ?_
  exact law_next hL (by omega) (by omega)
theorem law_8 {l : Launch} {G : gG} (hL : G.2.2.2.2.2.2.1 = 6) : Go l G mL_law lawB 452 [(3, .int 0), (2, .ref (G.2.1 + 32)), (1, .ref (G.2.1 + 0)), (0, .ref G.2.2.2.2.2.1)] [] 42 90324 (wl G.2.1 (LF G)) := by
  refine go_aload_n (pc := 452) dL_law_452 rfl rfl ?_
  refine go_aload_n (pc := 453) dL_law_453 rfl rfl ?_
  refine go_iload_n (pc := 454) dL_law_454 rfl rfl ?_
  refine go_iconst (pc := 455) (v := 1) dL_law_455 (by decide) ?_
  refine go_iadd (pc := 456) dL_law_456 ?_
  refine go_top (y := 1) (by decide) ?_
  refine go_sld (pc := 457) (by rw [hL]; exact gv_in (by decide)) dL_law_457 ?_
  refine go_top (y := sc G 1) rfl ?_
  refine go_aload_n (pc := 458) dL_law_458 rfl rfl ?_
  refine go_iload_n (pc := 459) dL_law_459 rfl rfl ?_
  refine go_iconst (pc := 460) (v := 2) dL_law_460 (by decide) ?_
  refine go_iadd (pc := 461) dL_law_461 ?_
  refine go_top (y := 2) (by decide) ?_
  refine go_sld (pc := 462) (by rw [hL]; exact gv_in (by decide)) dL_law_462 ?_
  refine go_top (y := sc G 2) rfl ?_
  obtain ⟨fr1, lc1, nn, kn, w1, g1, g2, g3, g4, g5, hf, hct⟩ := cx_weaken (l := l) (G := G) (sc G 1) (sc G 2)
  refine go_callV_i (pc := 463) vL_48 rfl (hct) rfl rfl (gz_b (by decide)) (wl_at (i := 0) rfl) rfl (Nat.le_of_ble_eq_true rfl) ⟨(show fr1 + 1 ≤ 11 by omega), (show 8 + (3 + 11) + lc1 ≤ 422 by omega), (show nn ≤ 0 + 600000 by omega), (show kn ≤ 0 + 7302250 by omega)⟩ dL_law_463 ?_
  refine go_aload_n (pc := 466) dL_law_466 rfl rfl ?_
  refine go_aload_n (pc := 467) dL_law_467 rfl rfl ?_
  refine go_iload_n (pc := 468) dL_law_468 rfl rfl ?_
  refine go_iconst (pc := 469) (v := 1) dL_law_469 (by decide) ?_
  refine go_iadd (pc := 470) dL_law_470 ?_
  refine go_top (y := 1) (by decide) ?_
  refine go_sld (pc := 471) (by rw [hL]; exact gv_in (by decide)) dL_law_471 ?_
  refine go_top (y := sc G 1) rfl ?_
  refine go_aload_n (pc := 472) dL_law_472 rfl rfl ?_
  refine go_iload_n (pc := 473) dL_law_473 rfl rfl ?_
  refine go_iconst (pc := 474) (v := 2) dL_law_474 (by decide) ?_
  refine go_iadd (pc := 475) dL_law_475 ?_
  refine go_top (y := 2) (by decide) ?_
  refine go_sld (pc := 476) (by rw [hL]; exact gv_in (by decide)) dL_law_476 ?_
  refine go_top (y := sc G 2) rfl ?_
  obtain ⟨fr2, lc2, w2, q1, q2, hct2⟩ := cm_weaken (l := l) (G := G) (sc G 1) (sc G 2) nn kn w1 g3 hf
  refine go_callV_i (pc := 477) vL_51 rfl (hct2) rfl rfl (gz_b (by omega)) ((hf 32 (by decide) (by decide)).trans (wl_at (i := 32) rfl)) rfl (Nat.le_of_ble_eq_true rfl) ⟨(show fr2 + 1 ≤ 11 by omega), (show 8 + (3 + 11) + lc2 ≤ 422 by omega), (show nn ≤ 0 + 600000 by omega), (show kn ≤ 0 + 7302250 by omega)⟩ dL_law_477 ?_
  refine go_icmp_eq_t (pc := 480) (tgt := 1393) dL_law_480 (by decide) rfl ?_
  exact law_next hL (by omega) (by omega)
theorem law_9 {l : Launch} {G : gG} (hL : G.2.2.2.2.2.2.1 = 6) : Go l G mL_law lawB 485 [(3, .int 0), (2, .ref (G.2.1 + 32)), (1, .ref (G.2.1 + 0)), (0, .ref G.2.2.2.2.2.1)] [] 42 90324 (wl G.2.1 (LF G)) := by
  refine go_aload_n (pc := 485) dL_law_485 rfl rfl ?_
  refine go_aload_n (pc := 486) dL_law_486 rfl rfl ?_
  refine go_iload_n (pc := 487) dL_law_487 rfl rfl ?_
  refine go_iconst (pc := 488) (v := 1) dL_law_488 (by decide) ?_
  refine go_iadd (pc := 489) dL_law_489 ?_
  refine go_top (y := 1) (by decide) ?_
  refine go_sld (pc := 490) (by rw [hL]; exact gv_in (by decide)) dL_law_490 ?_
  refine go_top (y := sc G 1) rfl ?_
  obtain ⟨fr1, lc1, nn, kn, w1, g1, g2, g3, g4, g5, hf, hct⟩ := cx_look (l := l) (G := G) (sc G 1)
  refine go_callV_i (pc := 491) vL_52 rfl (hct) rfl rfl (gz_b (by decide)) (wl_at (i := 0) rfl) rfl (Nat.le_of_ble_eq_true rfl) ⟨(show fr1 + 1 ≤ 11 by omega), (show 8 + (2 + 11) + lc1 ≤ 422 by omega), (show nn ≤ 0 + 600000 by omega), (show kn ≤ 0 + 7302250 by omega)⟩ dL_law_491 ?_
  refine go_aload_n (pc := 494) dL_law_494 rfl rfl ?_
  refine go_aload_n (pc := 495) dL_law_495 rfl rfl ?_
  refine go_iload_n (pc := 496) dL_law_496 rfl rfl ?_
  refine go_iconst (pc := 497) (v := 1) dL_law_497 (by decide) ?_
  refine go_iadd (pc := 498) dL_law_498 ?_
  refine go_top (y := 1) (by decide) ?_
  refine go_sld (pc := 499) (by rw [hL]; exact gv_in (by decide)) dL_law_499 ?_
  refine go_top (y := sc G 1) rfl ?_
  obtain ⟨fr2, lc2, w2, q1, q2, hct2⟩ := cm_look (l := l) (G := G) (sc G 1) nn kn w1 g3 hf
  refine go_callV_i (pc := 500) vL_55 rfl (hct2) rfl rfl (gz_b (by omega)) ((hf 32 (by decide) (by decide)).trans (wl_at (i := 32) rfl)) rfl (Nat.le_of_ble_eq_true rfl) ⟨(show fr2 + 1 ≤ 11 by omega), (show 8 + (2 + 11) + lc2 ≤ 422 by omega), (show nn ≤ 0 + 600000 by omega), (show kn ≤ 0 + 7302250 by omega)⟩ dL_law_500 ?_
  refine go_icmp_eq_t (pc := 503) (tgt := 1393) dL_law_503 (by decide) rfl ?_
  exact law_next hL (by omega) (by omega)
theorem law_10 {l : Launch} {G : gG} (hL : G.2.2.2.2.2.2.1 = 6) : Go l G mL_law lawB 508 [(3, .int 0), (2, .ref (G.2.1 + 32)), (1, .ref (G.2.1 + 0)), (0, .ref G.2.2.2.2.2.1)] [] 42 90324 (wl G.2.1 (LF G)) := by
  refine go_aload_n (pc := 508) dL_law_508 rfl rfl ?_
  refine go_aload_n (pc := 509) dL_law_509 rfl rfl ?_
  refine go_iload_n (pc := 510) dL_law_510 rfl rfl ?_
  refine go_iconst (pc := 511) (v := 1) dL_law_511 (by decide) ?_
  refine go_iadd (pc := 512) dL_law_512 ?_
  refine go_top (y := 1) (by decide) ?_
  refine go_sld (pc := 513) (by rw [hL]; exact gv_in (by decide)) dL_law_513 ?_
  refine go_top (y := sc G 1) rfl ?_
  refine go_aload_n (pc := 514) dL_law_514 rfl rfl ?_
  refine go_iload_n (pc := 515) dL_law_515 rfl rfl ?_
  refine go_iconst (pc := 516) (v := 2) dL_law_516 (by decide) ?_
  refine go_iadd (pc := 517) dL_law_517 ?_
  refine go_top (y := 2) (by decide) ?_
  refine go_sld (pc := 518) (by rw [hL]; exact gv_in (by decide)) dL_law_518 ?_
  refine go_top (y := sc G 2) rfl ?_
  obtain ⟨fr1, lc1, nn, kn, w1, g1, g2, g3, g4, g5, hf, hct⟩ := cx_number (l := l) (G := G) (sc G 1) (sc G 2)
  refine go_callV_i (pc := 519) vL_56 rfl (hct) rfl rfl (gz_b (by decide)) (wl_at (i := 0) rfl) rfl (Nat.le_of_ble_eq_true rfl) ⟨(show fr1 + 1 ≤ 11 by omega), (show 8 + (4 + 11) + lc1 ≤ 422 by omega), (show nn ≤ 0 + 600000 by omega), (show kn ≤ 0 + 7302250 by omega)⟩ dL_law_519 ?_
  refine go_aload_n (pc := 522) dL_law_522 rfl rfl ?_
  refine go_aload_n (pc := 523) dL_law_523 rfl rfl ?_
  refine go_iload_n (pc := 524) dL_law_524 rfl rfl ?_
  refine go_iconst (pc := 525) (v := 1) dL_law_525 (by decide) ?_
  refine go_iadd (pc := 526) dL_law_526 ?_
  refine go_top (y := 1) (by decide) ?_
  refine go_sld (pc := 527) (by rw [hL]; exact gv_in (by decide)) dL_law_527 ?_
  refine go_top (y := sc G 1) rfl ?_
  refine go_aload_n (pc := 528) dL_law_528 rfl rfl ?_
  refine go_iload_n (pc := 529) dL_law_529 rfl rfl ?_
  refine go_iconst (pc := 530) (v := 2) dL_law_530 (by decide) ?_
  refine go_iadd (pc := 531) dL_law_531 ?_
  refine go_top (y := 2) (by decide) ?_
  refine go_sld (pc := 532) (by rw [hL]; exact gv_in (by decide)) dL_law_532 ?_
  refine go_top (y := sc G 2) rfl ?_
  obtain ⟨fr2, lc2, w2, q1, q2, hct2⟩ := cm_number (l := l) (G := G) (sc G 1) (sc G 2) nn kn w1 g3 hf
  refine go_callV_i (pc := 533) vL_59 rfl (hct2) rfl rfl (gz_b (by omega)) ((hf 32 (by decide) (by decide)).trans (wl_at (i := 32) rfl)) rfl (Nat.le_of_ble_eq_true rfl) ⟨(show fr2 + 1 ≤ 11 by omega), (show 8 + (4 + 11) + lc2 ≤ 422 by omega), (show nn ≤ 0 + 600000 by omega), (show kn ≤ 0 + 7302250 by omega)⟩ dL_law_533 ?_
  refine go_icmp_eq_t (pc := 536) (tgt := 1393) dL_law_536 (by decide) rfl ?_
  exact law_next hL (by omega) (by omega)
theorem law_11 {l : Launch} {G : gG} (hL : G.2.2.2.2.2.2.1 = 6) : Go l G mL_law lawB 541 [(3, .int 0), (2, .ref (G.2.1 + 32)), (1, .ref (G.2.1 + 0)), (0, .ref G.2.2.2.2.2.1)] [] 42 90324 (wl G.2.1 (LF G)) := by
  refine go_aload_n (pc := 541) dL_law_541 rfl rfl ?_
  refine go_aload_n (pc := 542) dL_law_542 rfl rfl ?_
  refine go_iload_n (pc := 543) dL_law_543 rfl rfl ?_
  refine go_iconst (pc := 544) (v := 1) dL_law_544 (by decide) ?_
  refine go_iadd (pc := 545) dL_law_545 ?_
  refine go_top (y := 1) (by decide) ?_
  refine go_sld (pc := 546) (by rw [hL]; exact gv_in (by decide)) dL_law_546 ?_
  refine go_top (y := sc G 1) rfl ?_
  refine go_aload_n (pc := 547) dL_law_547 rfl rfl ?_
  refine go_iload_n (pc := 548) dL_law_548 rfl rfl ?_
  refine go_iconst (pc := 549) (v := 2) dL_law_549 (by decide) ?_
  refine go_iadd (pc := 550) dL_law_550 ?_
  refine go_top (y := 2) (by decide) ?_
  refine go_sld (pc := 551) (by rw [hL]; exact gv_in (by decide)) dL_law_551 ?_
  refine go_top (y := sc G 2) rfl ?_
  refine go_aload_n (pc := 552) dL_law_552 rfl rfl ?_
  refine go_iload_n (pc := 553) dL_law_553 rfl rfl ?_
  refine go_iconst (pc := 554) (v := 3) dL_law_554 (by decide) ?_
  refine go_iadd (pc := 555) dL_law_555 ?_
  refine go_top (y := 3) (by decide) ?_
  refine go_sld (pc := 556) (by rw [hL]; exact gv_in (by decide)) dL_law_556 ?_
  refine go_top (y := sc G 3) rfl ?_
  obtain ⟨fr1, lc1, nn, kn, w1, g1, g2, g3, g4, g5, hf, hct⟩ := cx_put (l := l) (G := G) (sc G 1) (sc G 2) (sc G 3)
  refine go_callV_i (pc := 557) vL_60 rfl (hct) rfl rfl (gz_b (by decide)) (wl_at (i := 0) rfl) rfl (Nat.le_of_ble_eq_true rfl) ⟨(show fr1 + 1 ≤ 11 by omega), (show 8 + (4 + 11) + lc1 ≤ 422 by omega), (show nn ≤ 0 + 600000 by omega), (show kn ≤ 0 + 7302250 by omega)⟩ dL_law_557 ?_
  refine go_aload_n (pc := 560) dL_law_560 rfl rfl ?_
  refine go_aload_n (pc := 561) dL_law_561 rfl rfl ?_
  refine go_iload_n (pc := 562) dL_law_562 rfl rfl ?_
  refine go_iconst (pc := 563) (v := 1) dL_law_563 (by decide) ?_
  refine go_iadd (pc := 564) dL_law_564 ?_
  refine go_top (y := 1) (by decide) ?_
  refine go_sld (pc := 565) (by rw [hL]; exact gv_in (by decide)) dL_law_565 ?_
  refine go_top (y := sc G 1) rfl ?_
  refine go_aload_n (pc := 566) dL_law_566 rfl rfl ?_
  refine go_iload_n (pc := 567) dL_law_567 rfl rfl ?_
  refine go_iconst (pc := 568) (v := 2) dL_law_568 (by decide) ?_
  refine go_iadd (pc := 569) dL_law_569 ?_
  refine go_top (y := 2) (by decide) ?_
  refine go_sld (pc := 570) (by rw [hL]; exact gv_in (by decide)) dL_law_570 ?_
  refine go_top (y := sc G 2) rfl ?_
  refine go_aload_n (pc := 571) dL_law_571 rfl rfl ?_
  refine go_iload_n (pc := 572) dL_law_572 rfl rfl ?_
  refine go_iconst (pc := 573) (v := 3) dL_law_573 (by decide) ?_
  refine go_iadd (pc := 574) dL_law_574 ?_
  refine go_top (y := 3) (by decide) ?_
  refine go_sld (pc := 575) (by rw [hL]; exact gv_in (by decide)) dL_law_575 ?_
  refine go_top (y := sc G 3) rfl ?_
  obtain ⟨fr2, lc2, w2, q1, q2, hct2⟩ := cm_put (l := l) (G := G) (sc G 1) (sc G 2) (sc G 3) nn kn w1 g3 hf
  refine go_callV_i (pc := 576) vL_63 rfl (hct2) rfl rfl (gz_b (by omega)) ((hf 32 (by decide) (by decide)).trans (wl_at (i := 32) rfl)) rfl (Nat.le_of_ble_eq_true rfl) ⟨(show fr2 + 1 ≤ 11 by omega), (show 8 + (4 + 11) + lc2 ≤ 422 by omega), (show nn ≤ 0 + 600000 by omega), (show kn ≤ 0 + 7302250 by omega)⟩ dL_law_576 ?_
  refine go_icmp_eq_t (pc := 579) (tgt := 1393) dL_law_579 (by decide) rfl ?_
  exact law_next hL (by omega) (by omega)
theorem law_12 {l : Launch} {G : gG} (hL : G.2.2.2.2.2.2.1 = 6) : Go l G mL_law lawB 584 [(3, .int 0), (2, .ref (G.2.1 + 32)), (1, .ref (G.2.1 + 0)), (0, .ref G.2.2.2.2.2.1)] [] 42 90324 (wl G.2.1 (LF G)) := by
  refine go_aload_n (pc := 584) dL_law_584 rfl rfl ?_
  refine go_aload_n (pc := 585) dL_law_585 rfl rfl ?_
  refine go_iload_n (pc := 586) dL_law_586 rfl rfl ?_
  refine go_iconst (pc := 587) (v := 1) dL_law_587 (by decide) ?_
  refine go_iadd (pc := 588) dL_law_588 ?_
  refine go_top (y := 1) (by decide) ?_
  refine go_sld (pc := 589) (by rw [hL]; exact gv_in (by decide)) dL_law_589 ?_
  refine go_top (y := sc G 1) rfl ?_
  refine go_aload_n (pc := 590) dL_law_590 rfl rfl ?_
  refine go_iload_n (pc := 591) dL_law_591 rfl rfl ?_
  refine go_iconst (pc := 592) (v := 2) dL_law_592 (by decide) ?_
  refine go_iadd (pc := 593) dL_law_593 ?_
  refine go_top (y := 2) (by decide) ?_
  refine go_sld (pc := 594) (by rw [hL]; exact gv_in (by decide)) dL_law_594 ?_
  refine go_top (y := sc G 2) rfl ?_
  obtain ⟨fr1, lc1, nn, kn, w1, g1, g2, g3, g4, g5, hf, hct⟩ := cx_byteAt (l := l) (G := G) (sc G 1) (sc G 2)
  refine go_callV_i (pc := 595) vL_64 rfl (hct) rfl rfl (gz_b (by decide)) (wl_at (i := 0) rfl) rfl (Nat.le_of_ble_eq_true rfl) ⟨(show fr1 + 1 ≤ 11 by omega), (show 8 + (3 + 11) + lc1 ≤ 422 by omega), (show nn ≤ 0 + 600000 by omega), (show kn ≤ 0 + 7302250 by omega)⟩ dL_law_595 ?_
  refine go_aload_n (pc := 598) dL_law_598 rfl rfl ?_
  refine go_aload_n (pc := 599) dL_law_599 rfl rfl ?_
  refine go_iload_n (pc := 600) dL_law_600 rfl rfl ?_
  refine go_iconst (pc := 601) (v := 1) dL_law_601 (by decide) ?_
  refine go_iadd (pc := 602) dL_law_602 ?_
  refine go_top (y := 1) (by decide) ?_
  refine go_sld (pc := 603) (by rw [hL]; exact gv_in (by decide)) dL_law_603 ?_
  refine go_top (y := sc G 1) rfl ?_
  refine go_aload_n (pc := 604) dL_law_604 rfl rfl ?_
  refine go_iload_n (pc := 605) dL_law_605 rfl rfl ?_
  refine go_iconst (pc := 606) (v := 2) dL_law_606 (by decide) ?_
  refine go_iadd (pc := 607) dL_law_607 ?_
  refine go_top (y := 2) (by decide) ?_
  refine go_sld (pc := 608) (by rw [hL]; exact gv_in (by decide)) dL_law_608 ?_
  refine go_top (y := sc G 2) rfl ?_
  obtain ⟨fr2, lc2, w2, q1, q2, hct2⟩ := cm_byteAt (l := l) (G := G) (sc G 1) (sc G 2) nn kn w1 g3 hf
  refine go_callV_i (pc := 609) vL_67 rfl (hct2) rfl rfl (gz_b (by omega)) ((hf 32 (by decide) (by decide)).trans (wl_at (i := 32) rfl)) rfl (Nat.le_of_ble_eq_true rfl) ⟨(show fr2 + 1 ≤ 11 by omega), (show 8 + (4 + 11) + lc2 ≤ 422 by omega), (show nn ≤ 0 + 600000 by omega), (show kn ≤ 0 + 7302250 by omega)⟩ dL_law_609 ?_
  refine go_icmp_eq_t (pc := 612) (tgt := 1393) dL_law_612 (by decide) rfl ?_
  exact law_next hL (by omega) (by omega)
theorem law_13 {l : Launch} {G : gG} (hL : G.2.2.2.2.2.2.1 = 6) : Go l G mL_law lawB 617 [(3, .int 0), (2, .ref (G.2.1 + 32)), (1, .ref (G.2.1 + 0)), (0, .ref G.2.2.2.2.2.1)] [] 42 90324 (wl G.2.1 (LF G)) := by
  refine go_aload_n (pc := 617) dL_law_617 rfl rfl ?_
  refine go_aload_n (pc := 618) dL_law_618 rfl rfl ?_
  refine go_iload_n (pc := 619) dL_law_619 rfl rfl ?_
  refine go_iconst (pc := 620) (v := 1) dL_law_620 (by decide) ?_
  refine go_iadd (pc := 621) dL_law_621 ?_
  refine go_top (y := 1) (by decide) ?_
  refine go_sld (pc := 622) (by rw [hL]; exact gv_in (by decide)) dL_law_622 ?_
  refine go_top (y := sc G 1) rfl ?_
  refine go_aload_n (pc := 623) dL_law_623 rfl rfl ?_
  refine go_iload_n (pc := 624) dL_law_624 rfl rfl ?_
  refine go_iconst (pc := 625) (v := 2) dL_law_625 (by decide) ?_
  refine go_iadd (pc := 626) dL_law_626 ?_
  refine go_top (y := 2) (by decide) ?_
  refine go_sld (pc := 627) (by rw [hL]; exact gv_in (by decide)) dL_law_627 ?_
  refine go_top (y := sc G 2) rfl ?_
  refine go_aload_n (pc := 628) dL_law_628 rfl rfl ?_
  refine go_iload_n (pc := 629) dL_law_629 rfl rfl ?_
  refine go_iconst (pc := 630) (v := 3) dL_law_630 (by decide) ?_
  refine go_iadd (pc := 631) dL_law_631 ?_
  refine go_top (y := 3) (by decide) ?_
  refine go_sld (pc := 632) (by rw [hL]; exact gv_in (by decide)) dL_law_632 ?_
  refine go_top (y := sc G 3) rfl ?_
  obtain ⟨fr1, lc1, nn, kn, w1, g1, g2, g3, g4, g5, hf, hct⟩ := cx_key (l := l) (G := G) (sc G 1) (sc G 2) (sc G 3)
  refine go_callV_i (pc := 633) vL_68 rfl (hct) rfl rfl (gz_b (by decide)) (wl_at (i := 0) rfl) rfl (Nat.le_of_ble_eq_true rfl) ⟨(show fr1 + 1 ≤ 11 by omega), (show 8 + (4 + 11) + lc1 ≤ 422 by omega), (show nn ≤ 0 + 600000 by omega), (show kn ≤ 0 + 7302250 by omega)⟩ dL_law_633 ?_
  refine go_aload_n (pc := 636) dL_law_636 rfl rfl ?_
  refine go_aload_n (pc := 637) dL_law_637 rfl rfl ?_
  refine go_iload_n (pc := 638) dL_law_638 rfl rfl ?_
  refine go_iconst (pc := 639) (v := 1) dL_law_639 (by decide) ?_
  refine go_iadd (pc := 640) dL_law_640 ?_
  refine go_top (y := 1) (by decide) ?_
  refine go_sld (pc := 641) (by rw [hL]; exact gv_in (by decide)) dL_law_641 ?_
  refine go_top (y := sc G 1) rfl ?_
  refine go_aload_n (pc := 642) dL_law_642 rfl rfl ?_
  refine go_iload_n (pc := 643) dL_law_643 rfl rfl ?_
  refine go_iconst (pc := 644) (v := 2) dL_law_644 (by decide) ?_
  refine go_iadd (pc := 645) dL_law_645 ?_
  refine go_top (y := 2) (by decide) ?_
  refine go_sld (pc := 646) (by rw [hL]; exact gv_in (by decide)) dL_law_646 ?_
  refine go_top (y := sc G 2) rfl ?_
  refine go_aload_n (pc := 647) dL_law_647 rfl rfl ?_
  refine go_iload_n (pc := 648) dL_law_648 rfl rfl ?_
  refine go_iconst (pc := 649) (v := 3) dL_law_649 (by decide) ?_
  refine go_iadd (pc := 650) dL_law_650 ?_
  refine go_top (y := 3) (by decide) ?_
  refine go_sld (pc := 651) (by rw [hL]; exact gv_in (by decide)) dL_law_651 ?_
  refine go_top (y := sc G 3) rfl ?_
  obtain ⟨fr2, lc2, w2, q1, q2, hct2⟩ := cm_key (l := l) (G := G) (sc G 1) (sc G 2) (sc G 3) nn kn w1 g3 hf
  refine go_callV_i (pc := 652) vL_71 rfl (hct2) rfl rfl (gz_b (by omega)) ((hf 32 (by decide) (by decide)).trans (wl_at (i := 32) rfl)) rfl (Nat.le_of_ble_eq_true rfl) ⟨(show fr2 + 1 ≤ 11 by omega), (show 8 + (5 + 11) + lc2 ≤ 422 by omega), (show nn ≤ 0 + 600000 by omega), (show kn ≤ 0 + 7302250 by omega)⟩ dL_law_652 ?_
  refine go_icmp_eq_t (pc := 655) (tgt := 1393) dL_law_655 (by decide) rfl ?_
  exact law_next hL (by omega) (by omega)
theorem law_14 {l : Launch} {G : gG} (hL : G.2.2.2.2.2.2.1 = 6) : Go l G mL_law lawB 660 [(3, .int 0), (2, .ref (G.2.1 + 32)), (1, .ref (G.2.1 + 0)), (0, .ref G.2.2.2.2.2.1)] [] 42 90324 (wl G.2.1 (LF G)) := by
  refine go_aload_n (pc := 660) dL_law_660 rfl rfl ?_
  refine go_aload_n (pc := 661) dL_law_661 rfl rfl ?_
  refine go_iload_n (pc := 662) dL_law_662 rfl rfl ?_
  refine go_iconst (pc := 663) (v := 1) dL_law_663 (by decide) ?_
  refine go_iadd (pc := 664) dL_law_664 ?_
  refine go_top (y := 1) (by decide) ?_
  refine go_sld (pc := 665) (by rw [hL]; exact gv_in (by decide)) dL_law_665 ?_
  refine go_top (y := sc G 1) rfl ?_
  refine go_aload_n (pc := 666) dL_law_666 rfl rfl ?_
  refine go_iload_n (pc := 667) dL_law_667 rfl rfl ?_
  refine go_iconst (pc := 668) (v := 2) dL_law_668 (by decide) ?_
  refine go_iadd (pc := 669) dL_law_669 ?_
  refine go_top (y := 2) (by decide) ?_
  refine go_sld (pc := 670) (by rw [hL]; exact gv_in (by decide)) dL_law_670 ?_
  refine go_top (y := sc G 2) rfl ?_
  obtain ⟨fr1, lc1, nn, kn, w1, g1, g2, g3, g4, g5, hf, hct⟩ := cx_find (l := l) (G := G) (sc G 1) (sc G 2)
  refine go_callV_i (pc := 671) vL_72 rfl (hct) rfl rfl (gz_b (by decide)) (wl_at (i := 0) rfl) rfl (Nat.le_of_ble_eq_true rfl) ⟨(show fr1 + 1 ≤ 11 by omega), (show 8 + (3 + 11) + lc1 ≤ 422 by omega), (show nn ≤ 0 + 600000 by omega), (show kn ≤ 0 + 7302250 by omega)⟩ dL_law_671 ?_
  refine go_aload_n (pc := 674) dL_law_674 rfl rfl ?_
  refine go_aload_n (pc := 675) dL_law_675 rfl rfl ?_
  refine go_iload_n (pc := 676) dL_law_676 rfl rfl ?_
  refine go_iconst (pc := 677) (v := 1) dL_law_677 (by decide) ?_
  refine go_iadd (pc := 678) dL_law_678 ?_
  refine go_top (y := 1) (by decide) ?_
  refine go_sld (pc := 679) (by rw [hL]; exact gv_in (by decide)) dL_law_679 ?_
  refine go_top (y := sc G 1) rfl ?_
  refine go_aload_n (pc := 680) dL_law_680 rfl rfl ?_
  refine go_iload_n (pc := 681) dL_law_681 rfl rfl ?_
  refine go_iconst (pc := 682) (v := 2) dL_law_682 (by decide) ?_
  refine go_iadd (pc := 683) dL_law_683 ?_
  refine go_top (y := 2) (by decide) ?_
  refine go_sld (pc := 684) (by rw [hL]; exact gv_in (by decide)) dL_law_684 ?_
  refine go_top (y := sc G 2) rfl ?_
  obtain ⟨fr2, lc2, w2, q1, q2, hct2⟩ := cm_find (l := l) (G := G) (sc G 1) (sc G 2) nn kn w1 g3 hf
  refine go_callV_i (pc := 685) vL_75 rfl (hct2) rfl rfl (gz_b (by omega)) ((hf 32 (by decide) (by decide)).trans (wl_at (i := 32) rfl)) rfl (Nat.le_of_ble_eq_true rfl) ⟨(show fr2 + 1 ≤ 11 by omega), (show 8 + (5 + 11) + lc2 ≤ 422 by omega), (show nn ≤ 0 + 600000 by omega), (show kn ≤ 0 + 7302250 by omega)⟩ dL_law_685 ?_
  refine go_icmp_eq_t (pc := 688) (tgt := 1393) dL_law_688 (by decide) rfl ?_
  exact law_next hL (by omega) (by omega)
theorem law_15 {l : Launch} {G : gG} (hL : G.2.2.2.2.2.2.1 = 6) : Go l G mL_law lawB 693 [(3, .int 0), (2, .ref (G.2.1 + 32)), (1, .ref (G.2.1 + 0)), (0, .ref G.2.2.2.2.2.1)] [] 42 90324 (wl G.2.1 (LF G)) := by
  refine go_aload_n (pc := 693) dL_law_693 rfl rfl ?_
  refine go_aload_n (pc := 694) dL_law_694 rfl rfl ?_
  refine go_iload_n (pc := 695) dL_law_695 rfl rfl ?_
  refine go_iconst (pc := 696) (v := 1) dL_law_696 (by decide) ?_
  refine go_iadd (pc := 697) dL_law_697 ?_
  refine go_top (y := 1) (by decide) ?_
  refine go_sld (pc := 698) (by rw [hL]; exact gv_in (by decide)) dL_law_698 ?_
  refine go_top (y := sc G 1) rfl ?_
  refine go_aload_n (pc := 699) dL_law_699 rfl rfl ?_
  refine go_iload_n (pc := 700) dL_law_700 rfl rfl ?_
  refine go_iconst (pc := 701) (v := 2) dL_law_701 (by decide) ?_
  refine go_iadd (pc := 702) dL_law_702 ?_
  refine go_top (y := 2) (by decide) ?_
  refine go_sld (pc := 703) (by rw [hL]; exact gv_in (by decide)) dL_law_703 ?_
  refine go_top (y := sc G 2) rfl ?_
  obtain ⟨fr1, lc1, nn, kn, w1, g1, g2, g3, g4, g5, hf, hct⟩ := cx_root (l := l) (G := G) (sc G 1) (sc G 2)
  refine go_callV_i (pc := 704) vL_76 rfl (hct) rfl rfl (gz_b (by decide)) (wl_at (i := 0) rfl) rfl (Nat.le_of_ble_eq_true rfl) ⟨(show fr1 + 1 ≤ 11 by omega), (show 8 + (3 + 11) + lc1 ≤ 422 by omega), (show nn ≤ 0 + 600000 by omega), (show kn ≤ 0 + 7302250 by omega)⟩ dL_law_704 ?_
  refine go_aload_n (pc := 707) dL_law_707 rfl rfl ?_
  refine go_aload_n (pc := 708) dL_law_708 rfl rfl ?_
  refine go_iload_n (pc := 709) dL_law_709 rfl rfl ?_
  refine go_iconst (pc := 710) (v := 1) dL_law_710 (by decide) ?_
  refine go_iadd (pc := 711) dL_law_711 ?_
  refine go_top (y := 1) (by decide) ?_
  refine go_sld (pc := 712) (by rw [hL]; exact gv_in (by decide)) dL_law_712 ?_
  refine go_top (y := sc G 1) rfl ?_
  refine go_aload_n (pc := 713) dL_law_713 rfl rfl ?_
  refine go_iload_n (pc := 714) dL_law_714 rfl rfl ?_
  refine go_iconst (pc := 715) (v := 2) dL_law_715 (by decide) ?_
  refine go_iadd (pc := 716) dL_law_716 ?_
  refine go_top (y := 2) (by decide) ?_
  refine go_sld (pc := 717) (by rw [hL]; exact gv_in (by decide)) dL_law_717 ?_
  refine go_top (y := sc G 2) rfl ?_
  obtain ⟨fr2, lc2, w2, q1, q2, hct2⟩ := cm_root (l := l) (G := G) (sc G 1) (sc G 2) nn kn w1 g3 hf
  refine go_callV_i (pc := 718) vL_79 rfl (hct2) rfl rfl (gz_b (by omega)) ((hf 32 (by decide) (by decide)).trans (wl_at (i := 32) rfl)) rfl (Nat.le_of_ble_eq_true rfl) ⟨(show fr2 + 1 ≤ 11 by omega), (show 8 + (3 + 11) + lc2 ≤ 422 by omega), (show nn ≤ 0 + 600000 by omega), (show kn ≤ 0 + 7302250 by omega)⟩ dL_law_718 ?_
  refine go_icmp_eq_t (pc := 721) (tgt := 1393) dL_law_721 (by decide) (eq_root (sc G 1) (sc G 2)) ?_
  exact law_next hL (by omega) (by omega)
theorem law_16 {l : Launch} {G : gG} (hL : G.2.2.2.2.2.2.1 = 6) : Go l G mL_law lawB 726 [(3, .int 0), (2, .ref (G.2.1 + 32)), (1, .ref (G.2.1 + 0)), (0, .ref G.2.2.2.2.2.1)] [] 42 90324 (wl G.2.1 (LF G)) := by
  refine go_aload_n (pc := 726) dL_law_726 rfl rfl ?_
  refine go_aload_n (pc := 727) dL_law_727 rfl rfl ?_
  refine go_iload_n (pc := 728) dL_law_728 rfl rfl ?_
  refine go_iconst (pc := 729) (v := 1) dL_law_729 (by decide) ?_
  refine go_iadd (pc := 730) dL_law_730 ?_
  refine go_top (y := 1) (by decide) ?_
  refine go_sld (pc := 731) (by rw [hL]; exact gv_in (by decide)) dL_law_731 ?_
  refine go_top (y := sc G 1) rfl ?_
  obtain ⟨fr1, lc1, nn, kn, w1, g1, g2, g3, g4, g5, hf, hct⟩ := cx_rootOf (l := l) (G := G) (sc G 1)
  refine go_callV_i (pc := 732) vL_80 rfl (hct) rfl rfl (gz_b (by decide)) (wl_at (i := 0) rfl) rfl (Nat.le_of_ble_eq_true rfl) ⟨(show fr1 + 1 ≤ 11 by omega), (show 8 + (2 + 11) + lc1 ≤ 422 by omega), (show nn ≤ 0 + 600000 by omega), (show kn ≤ 0 + 7302250 by omega)⟩ dL_law_732 ?_
  refine go_aload_n (pc := 735) dL_law_735 rfl rfl ?_
  refine go_aload_n (pc := 736) dL_law_736 rfl rfl ?_
  refine go_iload_n (pc := 737) dL_law_737 rfl rfl ?_
  refine go_iconst (pc := 738) (v := 1) dL_law_738 (by decide) ?_
  refine go_iadd (pc := 739) dL_law_739 ?_
  refine go_top (y := 1) (by decide) ?_
  refine go_sld (pc := 740) (by rw [hL]; exact gv_in (by decide)) dL_law_740 ?_
  refine go_top (y := sc G 1) rfl ?_
  obtain ⟨fr2, lc2, w2, q1, q2, hct2⟩ := cm_rootOf (l := l) (G := G) (sc G 1) nn kn w1 g3 hf
  refine go_callV_i (pc := 741) vL_83 rfl (hct2) rfl rfl (gz_b (by omega)) ((hf 32 (by decide) (by decide)).trans (wl_at (i := 32) rfl)) rfl (Nat.le_of_ble_eq_true rfl) ⟨(show fr2 + 1 ≤ 11 by omega), (show 8 + (2 + 11) + lc2 ≤ 422 by omega), (show nn ≤ 0 + 600000 by omega), (show kn ≤ 0 + 7302250 by omega)⟩ dL_law_741 ?_
  refine go_icmp_eq_t (pc := 744) (tgt := 1393) dL_law_744 (by decide) (eq_rootOf (sc G 1)) ?_
  exact law_next hL (by omega) (by omega)
theorem law_17 {l : Launch} {G : gG} (hL : G.2.2.2.2.2.2.1 = 6) : Go l G mL_law lawB 749 [(3, .int 0), (2, .ref (G.2.1 + 32)), (1, .ref (G.2.1 + 0)), (0, .ref G.2.2.2.2.2.1)] [] 42 90324 (wl G.2.1 (LF G)) := by
  refine go_aload_n (pc := 749) dL_law_749 rfl rfl ?_
  refine go_aload_n (pc := 750) dL_law_750 rfl rfl ?_
  refine go_iload_n (pc := 751) dL_law_751 rfl rfl ?_
  refine go_iconst (pc := 752) (v := 1) dL_law_752 (by decide) ?_
  refine go_iadd (pc := 753) dL_law_753 ?_
  refine go_top (y := 1) (by decide) ?_
  refine go_sld (pc := 754) (by rw [hL]; exact gv_in (by decide)) dL_law_754 ?_
  refine go_top (y := sc G 1) rfl ?_
  refine go_aload_n (pc := 755) dL_law_755 rfl rfl ?_
  refine go_iload_n (pc := 756) dL_law_756 rfl rfl ?_
  refine go_iconst (pc := 757) (v := 2) dL_law_757 (by decide) ?_
  refine go_iadd (pc := 758) dL_law_758 ?_
  refine go_top (y := 2) (by decide) ?_
  refine go_sld (pc := 759) (by rw [hL]; exact gv_in (by decide)) dL_law_759 ?_
  refine go_top (y := sc G 2) rfl ?_
  refine go_aload_n (pc := 760) dL_law_760 rfl rfl ?_
  refine go_iload_n (pc := 761) dL_law_761 rfl rfl ?_
  refine go_iconst (pc := 762) (v := 3) dL_law_762 (by decide) ?_
  refine go_iadd (pc := 763) dL_law_763 ?_
  refine go_top (y := 3) (by decide) ?_
  refine go_sld (pc := 764) (by rw [hL]; exact gv_in (by decide)) dL_law_764 ?_
  refine go_top (y := sc G 3) rfl ?_
  refine go_aload_n (pc := 765) dL_law_765 rfl rfl ?_
  refine go_iload_n (pc := 766) dL_law_766 rfl rfl ?_
  refine go_iconst (pc := 767) (v := 4) dL_law_767 (by decide) ?_
  refine go_iadd (pc := 768) dL_law_768 ?_
  refine go_top (y := 4) (by decide) ?_
  refine go_sld (pc := 769) (by rw [hL]; exact gv_in (by decide)) dL_law_769 ?_
  refine go_top (y := sc G 4) rfl ?_
  refine go_aload_n (pc := 770) dL_law_770 rfl rfl ?_
  refine go_iload_n (pc := 771) dL_law_771 rfl rfl ?_
  refine go_iconst (pc := 772) (v := 5) dL_law_772 (by decide) ?_
  refine go_iadd (pc := 773) dL_law_773 ?_
  refine go_top (y := 5) (by decide) ?_
  refine go_sld (pc := 774) (by rw [hL]; exact gv_in (by decide)) dL_law_774 ?_
  refine go_top (y := sc G 5) rfl ?_
  obtain ⟨fr1, lc1, nn, kn, w1, g1, g2, g3, g4, g5, hf, hct⟩ := cx_copy (l := l) (G := G) (sc G 1) (sc G 2) (sc G 3) (sc G 4) (sc G 5)
  refine go_callV_i (pc := 775) vL_84 rfl (hct) rfl rfl (gz_b (by decide)) (wl_at (i := 0) rfl) rfl (Nat.le_of_ble_eq_true rfl) ⟨(show fr1 + 1 ≤ 11 by omega), (show 8 + (6 + 11) + lc1 ≤ 422 by omega), (show nn ≤ 0 + 600000 by omega), (show kn ≤ 0 + 7302250 by omega)⟩ dL_law_775 ?_
  refine go_aload_n (pc := 778) dL_law_778 rfl rfl ?_
  refine go_aload_n (pc := 779) dL_law_779 rfl rfl ?_
  refine go_iload_n (pc := 780) dL_law_780 rfl rfl ?_
  refine go_iconst (pc := 781) (v := 1) dL_law_781 (by decide) ?_
  refine go_iadd (pc := 782) dL_law_782 ?_
  refine go_top (y := 1) (by decide) ?_
  refine go_sld (pc := 783) (by rw [hL]; exact gv_in (by decide)) dL_law_783 ?_
  refine go_top (y := sc G 1) rfl ?_
  refine go_aload_n (pc := 784) dL_law_784 rfl rfl ?_
  refine go_iload_n (pc := 785) dL_law_785 rfl rfl ?_
  refine go_iconst (pc := 786) (v := 2) dL_law_786 (by decide) ?_
  refine go_iadd (pc := 787) dL_law_787 ?_
  refine go_top (y := 2) (by decide) ?_
  refine go_sld (pc := 788) (by rw [hL]; exact gv_in (by decide)) dL_law_788 ?_
  refine go_top (y := sc G 2) rfl ?_
  refine go_aload_n (pc := 789) dL_law_789 rfl rfl ?_
  refine go_iload_n (pc := 790) dL_law_790 rfl rfl ?_
  refine go_iconst (pc := 791) (v := 3) dL_law_791 (by decide) ?_
  refine go_iadd (pc := 792) dL_law_792 ?_
  refine go_top (y := 3) (by decide) ?_
  refine go_sld (pc := 793) (by rw [hL]; exact gv_in (by decide)) dL_law_793 ?_
  refine go_top (y := sc G 3) rfl ?_
  refine go_aload_n (pc := 794) dL_law_794 rfl rfl ?_
  refine go_iload_n (pc := 795) dL_law_795 rfl rfl ?_
  refine go_iconst (pc := 796) (v := 4) dL_law_796 (by decide) ?_
  refine go_iadd (pc := 797) dL_law_797 ?_
  refine go_top (y := 4) (by decide) ?_
  refine go_sld (pc := 798) (by rw [hL]; exact gv_in (by decide)) dL_law_798 ?_
  refine go_top (y := sc G 4) rfl ?_
  refine go_aload_n (pc := 799) dL_law_799 rfl rfl ?_
  refine go_iload_n (pc := 800) dL_law_800 rfl rfl ?_
  refine go_iconst (pc := 801) (v := 5) dL_law_801 (by decide) ?_
  refine go_iadd (pc := 802) dL_law_802 ?_
  refine go_top (y := 5) (by decide) ?_
  refine go_sld (pc := 803) (by rw [hL]; exact gv_in (by decide)) dL_law_803 ?_
  refine go_top (y := sc G 5) rfl ?_
  obtain ⟨fr2, lc2, w2, q1, q2, hct2⟩ := cm_copy (l := l) (G := G) (sc G 1) (sc G 2) (sc G 3) (sc G 4) (sc G 5) nn kn w1 g3 hf
  refine go_callV_i (pc := 804) vL_88 rfl (hct2) rfl rfl (gz_b (by omega)) ((hf 32 (by decide) (by decide)).trans (wl_at (i := 32) rfl)) rfl (Nat.le_of_ble_eq_true rfl) ⟨(show fr2 + 1 ≤ 11 by omega), (show 8 + (7 + 11) + lc2 ≤ 422 by omega), (show nn ≤ 0 + 600000 by omega), (show kn ≤ 0 + 7302250 by omega)⟩ dL_law_804 ?_
  refine go_icmp_eq_t (pc := 807) (tgt := 1393) dL_law_807 (by decide) rfl ?_
  exact law_next hL (by omega) (by omega)
theorem law_18 {l : Launch} {G : gG} (hL : G.2.2.2.2.2.2.1 = 6) : Go l G mL_law lawB 812 [(3, .int 0), (2, .ref (G.2.1 + 32)), (1, .ref (G.2.1 + 0)), (0, .ref G.2.2.2.2.2.1)] [] 42 90324 (wl G.2.1 (LF G)) := by
  refine go_aload_n (pc := 812) dL_law_812 rfl rfl ?_
  obtain ⟨fr1, lc1, nn, kn, w1, g1, g2, g3, g4, g5, hf, hct⟩ := cx_copied (l := l) (G := G)
  refine go_callV_i (pc := 813) vL_89 rfl (hct) rfl rfl (gz_b (by decide)) (wl_at (i := 0) rfl) rfl (Nat.le_of_ble_eq_true rfl) ⟨(show fr1 + 1 ≤ 11 by omega), (show 8 + (1 + 11) + lc1 ≤ 422 by omega), (show nn ≤ 0 + 600000 by omega), (show kn ≤ 0 + 7302250 by omega)⟩ dL_law_813 ?_
  refine go_aload_n (pc := 816) dL_law_816 rfl rfl ?_
  obtain ⟨fr2, lc2, w2, q1, q2, hct2⟩ := cm_copied (l := l) (G := G) nn kn w1 g3 hf
  refine go_callV_i (pc := 817) vL_93 rfl (hct2) rfl rfl (gz_b (by omega)) ((hf 32 (by decide) (by decide)).trans (wl_at (i := 32) rfl)) rfl (Nat.le_of_ble_eq_true rfl) ⟨(show fr2 + 1 ≤ 11 by omega), (show 8 + (1 + 11) + lc2 ≤ 422 by omega), (show nn ≤ 0 + 600000 by omega), (show kn ≤ 0 + 7302250 by omega)⟩ dL_law_817 ?_
  refine go_icmp_eq_t (pc := 820) (tgt := 1393) dL_law_820 (by decide) rfl ?_
  exact law_next hL (by omega) (by omega)
theorem law_19 {l : Launch} {G : gG} (hL : G.2.2.2.2.2.2.1 = 6) : Go l G mL_law lawB 825 [(3, .int 0), (2, .ref (G.2.1 + 32)), (1, .ref (G.2.1 + 0)), (0, .ref G.2.2.2.2.2.1)] [] 42 90324 (wl G.2.1 (LF G)) := by
  refine go_aload_n (pc := 825) dL_law_825 rfl rfl ?_
  refine go_aload_n (pc := 826) dL_law_826 rfl rfl ?_
  refine go_iload_n (pc := 827) dL_law_827 rfl rfl ?_
  refine go_iconst (pc := 828) (v := 1) dL_law_828 (by decide) ?_
  refine go_iadd (pc := 829) dL_law_829 ?_
  refine go_top (y := 1) (by decide) ?_
  refine go_sld (pc := 830) (by rw [hL]; exact gv_in (by decide)) dL_law_830 ?_
  refine go_top (y := sc G 1) rfl ?_
  refine go_aload_n (pc := 831) dL_law_831 rfl rfl ?_
  refine go_iload_n (pc := 832) dL_law_832 rfl rfl ?_
  refine go_iconst (pc := 833) (v := 2) dL_law_833 (by decide) ?_
  refine go_iadd (pc := 834) dL_law_834 ?_
  refine go_top (y := 2) (by decide) ?_
  refine go_sld (pc := 835) (by rw [hL]; exact gv_in (by decide)) dL_law_835 ?_
  refine go_top (y := sc G 2) rfl ?_
  refine go_aload_n (pc := 836) dL_law_836 rfl rfl ?_
  refine go_iload_n (pc := 837) dL_law_837 rfl rfl ?_
  refine go_iconst (pc := 838) (v := 3) dL_law_838 (by decide) ?_
  refine go_iadd (pc := 839) dL_law_839 ?_
  refine go_top (y := 3) (by decide) ?_
  refine go_sld (pc := 840) (by rw [hL]; exact gv_in (by decide)) dL_law_840 ?_
  refine go_top (y := sc G 3) rfl ?_
  obtain ⟨fr1, lc1, nn, kn, w1, g1, g2, g3, g4, g5, hf, hct⟩ := cx_shelve (l := l) (G := G) (sc G 1) (sc G 2) (sc G 3)
  refine go_callV_i (pc := 841) vL_94 rfl (hct) rfl rfl (gz_b (by decide)) (wl_at (i := 0) rfl) rfl (Nat.le_of_ble_eq_true rfl) ⟨(show fr1 + 1 ≤ 11 by omega), (show 8 + (4 + 11) + lc1 ≤ 422 by omega), (show nn ≤ 0 + 600000 by omega), (show kn ≤ 0 + 7302250 by omega)⟩ dL_law_841 ?_
  refine go_aload_n (pc := 844) dL_law_844 rfl rfl ?_
  refine go_aload_n (pc := 845) dL_law_845 rfl rfl ?_
  refine go_iload_n (pc := 846) dL_law_846 rfl rfl ?_
  refine go_iconst (pc := 847) (v := 1) dL_law_847 (by decide) ?_
  refine go_iadd (pc := 848) dL_law_848 ?_
  refine go_top (y := 1) (by decide) ?_
  refine go_sld (pc := 849) (by rw [hL]; exact gv_in (by decide)) dL_law_849 ?_
  refine go_top (y := sc G 1) rfl ?_
  refine go_aload_n (pc := 850) dL_law_850 rfl rfl ?_
  refine go_iload_n (pc := 851) dL_law_851 rfl rfl ?_
  refine go_iconst (pc := 852) (v := 2) dL_law_852 (by decide) ?_
  refine go_iadd (pc := 853) dL_law_853 ?_
  refine go_top (y := 2) (by decide) ?_
  refine go_sld (pc := 854) (by rw [hL]; exact gv_in (by decide)) dL_law_854 ?_
  refine go_top (y := sc G 2) rfl ?_
  refine go_aload_n (pc := 855) dL_law_855 rfl rfl ?_
  refine go_iload_n (pc := 856) dL_law_856 rfl rfl ?_
  refine go_iconst (pc := 857) (v := 3) dL_law_857 (by decide) ?_
  refine go_iadd (pc := 858) dL_law_858 ?_
  refine go_top (y := 3) (by decide) ?_
  refine go_sld (pc := 859) (by rw [hL]; exact gv_in (by decide)) dL_law_859 ?_
  refine go_top (y := sc G 3) rfl ?_
  obtain ⟨fr2, lc2, w2, q1, q2, hct2⟩ := cm_shelve (l := l) (G := G) (sc G 1) (sc G 2) (sc G 3) nn kn w1 g3 hf
  refine go_callV_i (pc := 860) vL_97 rfl (hct2) rfl rfl (gz_b (by omega)) ((hf 32 (by decide) (by decide)).trans (wl_at (i := 32) rfl)) rfl (Nat.le_of_ble_eq_true rfl) ⟨(show fr2 + 1 ≤ 11 by omega), (show 8 + (4 + 11) + lc2 ≤ 422 by omega), (show nn ≤ 0 + 600000 by omega), (show kn ≤ 0 + 7302250 by omega)⟩ dL_law_860 ?_
  refine go_icmp_eq_t (pc := 863) (tgt := 1393) dL_law_863 (by decide) (eq_shelve (sc G 1) (sc G 2) (sc G 3)) ?_
  exact law_next hL (by omega) (by omega)
theorem law_20 {l : Launch} {G : gG} (hL : G.2.2.2.2.2.2.1 = 6) : Go l G mL_law lawB 868 [(3, .int 0), (2, .ref (G.2.1 + 32)), (1, .ref (G.2.1 + 0)), (0, .ref G.2.2.2.2.2.1)] [] 42 90324 (wl G.2.1 (LF G)) := by
  refine go_aload_n (pc := 868) dL_law_868 rfl rfl ?_
  refine go_aload_n (pc := 869) dL_law_869 rfl rfl ?_
  refine go_iload_n (pc := 870) dL_law_870 rfl rfl ?_
  refine go_iconst (pc := 871) (v := 1) dL_law_871 (by decide) ?_
  refine go_iadd (pc := 872) dL_law_872 ?_
  refine go_top (y := 1) (by decide) ?_
  refine go_sld (pc := 873) (by rw [hL]; exact gv_in (by decide)) dL_law_873 ?_
  refine go_top (y := sc G 1) rfl ?_
  refine go_aload_n (pc := 874) dL_law_874 rfl rfl ?_
  refine go_iload_n (pc := 875) dL_law_875 rfl rfl ?_
  refine go_iconst (pc := 876) (v := 2) dL_law_876 (by decide) ?_
  refine go_iadd (pc := 877) dL_law_877 ?_
  refine go_top (y := 2) (by decide) ?_
  refine go_sld (pc := 878) (by rw [hL]; exact gv_in (by decide)) dL_law_878 ?_
  refine go_top (y := sc G 2) rfl ?_
  obtain ⟨fr1, lc1, nn, kn, w1, g1, g2, g3, g4, g5, hf, hct⟩ := cx_shelf (l := l) (G := G) (sc G 1) (sc G 2)
  refine go_callV_i (pc := 879) vL_98 rfl (hct) rfl rfl (gz_b (by decide)) (wl_at (i := 0) rfl) rfl (Nat.le_of_ble_eq_true rfl) ⟨(show fr1 + 1 ≤ 11 by omega), (show 8 + (3 + 11) + lc1 ≤ 422 by omega), (show nn ≤ 0 + 600000 by omega), (show kn ≤ 0 + 7302250 by omega)⟩ dL_law_879 ?_
  refine go_aload_n (pc := 882) dL_law_882 rfl rfl ?_
  refine go_aload_n (pc := 883) dL_law_883 rfl rfl ?_
  refine go_iload_n (pc := 884) dL_law_884 rfl rfl ?_
  refine go_iconst (pc := 885) (v := 1) dL_law_885 (by decide) ?_
  refine go_iadd (pc := 886) dL_law_886 ?_
  refine go_top (y := 1) (by decide) ?_
  refine go_sld (pc := 887) (by rw [hL]; exact gv_in (by decide)) dL_law_887 ?_
  refine go_top (y := sc G 1) rfl ?_
  refine go_aload_n (pc := 888) dL_law_888 rfl rfl ?_
  refine go_iload_n (pc := 889) dL_law_889 rfl rfl ?_
  refine go_iconst (pc := 890) (v := 2) dL_law_890 (by decide) ?_
  refine go_iadd (pc := 891) dL_law_891 ?_
  refine go_top (y := 2) (by decide) ?_
  refine go_sld (pc := 892) (by rw [hL]; exact gv_in (by decide)) dL_law_892 ?_
  refine go_top (y := sc G 2) rfl ?_
  obtain ⟨fr2, lc2, w2, q1, q2, hct2⟩ := cm_shelf (l := l) (G := G) (sc G 1) (sc G 2) nn kn w1 g3 hf
  refine go_callV_i (pc := 893) vL_101 rfl (hct2) rfl rfl (gz_b (by omega)) ((hf 32 (by decide) (by decide)).trans (wl_at (i := 32) rfl)) rfl (Nat.le_of_ble_eq_true rfl) ⟨(show fr2 + 1 ≤ 11 by omega), (show 8 + (4 + 11) + lc2 ≤ 422 by omega), (show nn ≤ 0 + 600000 by omega), (show kn ≤ 0 + 7302250 by omega)⟩ dL_law_893 ?_
  refine go_icmp_eq_t (pc := 896) (tgt := 1393) dL_law_896 (by decide) (eq_shelf (sc G 1) (sc G 2)) ?_
  exact law_next hL (by omega) (by omega)
theorem law_21 {l : Launch} {G : gG} (hL : G.2.2.2.2.2.2.1 = 6) : Go l G mL_law lawB 901 [(3, .int 0), (2, .ref (G.2.1 + 32)), (1, .ref (G.2.1 + 0)), (0, .ref G.2.2.2.2.2.1)] [] 42 90324 (wl G.2.1 (LF G)) := by
  refine go_aload_n (pc := 901) dL_law_901 rfl rfl ?_
  refine go_aload_n (pc := 902) dL_law_902 rfl rfl ?_
  refine go_iload_n (pc := 903) dL_law_903 rfl rfl ?_
  refine go_iconst (pc := 904) (v := 1) dL_law_904 (by decide) ?_
  refine go_iadd (pc := 905) dL_law_905 ?_
  refine go_top (y := 1) (by decide) ?_
  refine go_sld (pc := 906) (by rw [hL]; exact gv_in (by decide)) dL_law_906 ?_
  refine go_top (y := sc G 1) rfl ?_
  obtain ⟨fr1, lc1, nn, kn, w1, g1, g2, g3, g4, g5, hf, hct⟩ := cx_step (l := l) (G := G) (sc G 1)
  refine go_callV_i (pc := 907) vL_102 rfl (hct) rfl rfl (gz_b (by decide)) (wl_at (i := 0) rfl) rfl (Nat.le_of_ble_eq_true rfl) ⟨(show fr1 + 1 ≤ 11 by omega), (show 8 + (2 + 11) + lc1 ≤ 422 by omega), (show nn ≤ 0 + 600000 by omega), (show kn ≤ 0 + 7302250 by omega)⟩ dL_law_907 ?_
  refine go_aload_n (pc := 910) dL_law_910 rfl rfl ?_
  refine go_aload_n (pc := 911) dL_law_911 rfl rfl ?_
  refine go_iload_n (pc := 912) dL_law_912 rfl rfl ?_
  refine go_iconst (pc := 913) (v := 1) dL_law_913 (by decide) ?_
  refine go_iadd (pc := 914) dL_law_914 ?_
  refine go_top (y := 1) (by decide) ?_
  refine go_sld (pc := 915) (by rw [hL]; exact gv_in (by decide)) dL_law_915 ?_
  refine go_top (y := sc G 1) rfl ?_
  obtain ⟨fr2, lc2, w2, q1, q2, hct2⟩ := cm_step (l := l) (G := G) (sc G 1) nn kn w1 g3 hf
  refine go_callV_i (pc := 916) vL_105 rfl (hct2) rfl rfl (gz_b (by omega)) ((hf 32 (by decide) (by decide)).trans (wl_at (i := 32) rfl)) rfl (Nat.le_of_ble_eq_true rfl) ⟨(show fr2 + 1 ≤ 11 by omega), (show 8 + (2 + 11) + lc2 ≤ 422 by omega), (show nn ≤ 0 + 600000 by omega), (show kn ≤ 0 + 7302250 by omega)⟩ dL_law_916 ?_
  refine go_icmp_eq_t (pc := 919) (tgt := 1393) dL_law_919 (by decide) (eq_step (sc G 1)) ?_
  exact law_next hL (by omega) (by omega)
theorem law_22 {l : Launch} {G : gG} (hL : G.2.2.2.2.2.2.1 = 6) : Go l G mL_law lawB 924 [(3, .int 0), (2, .ref (G.2.1 + 32)), (1, .ref (G.2.1 + 0)), (0, .ref G.2.2.2.2.2.1)] [] 42 90324 (wl G.2.1 (LF G)) := by
  refine go_aload_n (pc := 924) dL_law_924 rfl rfl ?_
  obtain ⟨fr1, lc1, nn, kn, w1, g1, g2, g3, g4, g5, hf, hct⟩ := cx_cycle (l := l) (G := G)
  refine go_callV_i (pc := 925) vL_106 rfl (hct) rfl rfl (gz_b (by decide)) (wl_at (i := 0) rfl) rfl (Nat.le_of_ble_eq_true rfl) ⟨(show fr1 + 1 ≤ 11 by omega), (show 8 + (1 + 11) + lc1 ≤ 422 by omega), (show nn ≤ 0 + 600000 by omega), (show kn ≤ 0 + 7302250 by omega)⟩ dL_law_925 ?_
  refine go_aload_n (pc := 928) dL_law_928 rfl rfl ?_
  obtain ⟨fr2, lc2, w2, q1, q2, hct2⟩ := cm_cycle (l := l) (G := G) nn kn w1 g3 hf
  refine go_callV_i (pc := 929) vL_109 rfl (hct2) rfl rfl (gz_b (by omega)) ((hf 32 (by decide) (by decide)).trans (wl_at (i := 32) rfl)) rfl (Nat.le_of_ble_eq_true rfl) ⟨(show fr2 + 1 ≤ 11 by omega), (show 8 + (1 + 11) + lc2 ≤ 422 by omega), (show nn ≤ 0 + 600000 by omega), (show kn ≤ 0 + 7302250 by omega)⟩ dL_law_929 ?_
  refine go_icmp_eq_t (pc := 932) (tgt := 1393) dL_law_932 (by decide) rfl ?_
  exact law_next hL (by omega) (by omega)
theorem law_23 {l : Launch} {G : gG} (hL : G.2.2.2.2.2.2.1 = 6) : Go l G mL_law lawB 937 [(3, .int 0), (2, .ref (G.2.1 + 32)), (1, .ref (G.2.1 + 0)), (0, .ref G.2.2.2.2.2.1)] [] 42 90324 (wl G.2.1 (LF G)) := by
  refine go_aload_n (pc := 937) dL_law_937 rfl rfl ?_
  obtain ⟨fr1, lc1, nn, kn, w1, g1, g2, g3, g4, g5, hf, hct⟩ := cx_phase (l := l) (G := G)
  refine go_callV_i (pc := 938) vL_110 rfl (hct) rfl rfl (gz_b (by decide)) (wl_at (i := 0) rfl) rfl (Nat.le_of_ble_eq_true rfl) ⟨(show fr1 + 1 ≤ 11 by omega), (show 8 + (1 + 11) + lc1 ≤ 422 by omega), (show nn ≤ 0 + 600000 by omega), (show kn ≤ 0 + 7302250 by omega)⟩ dL_law_938 ?_
  refine go_aload_n (pc := 941) dL_law_941 rfl rfl ?_
  obtain ⟨fr2, lc2, w2, q1, q2, hct2⟩ := cm_phase (l := l) (G := G) nn kn w1 g3 hf
  refine go_callV_i (pc := 942) vL_113 rfl (hct2) rfl rfl (gz_b (by omega)) ((hf 32 (by decide) (by decide)).trans (wl_at (i := 32) rfl)) rfl (Nat.le_of_ble_eq_true rfl) ⟨(show fr2 + 1 ≤ 11 by omega), (show 8 + (1 + 11) + lc2 ≤ 422 by omega), (show nn ≤ 0 + 600000 by omega), (show kn ≤ 0 + 7302250 by omega)⟩ dL_law_942 ?_
  refine go_icmp_eq_t (pc := 945) (tgt := 1393) dL_law_945 (by decide) rfl ?_
  exact law_next hL (by omega) (by omega)
theorem law_24 {l : Launch} {G : gG} (hL : G.2.2.2.2.2.2.1 = 6) : Go l G mL_law lawB 950 [(3, .int 0), (2, .ref (G.2.1 + 32)), (1, .ref (G.2.1 + 0)), (0, .ref G.2.2.2.2.2.1)] [] 42 90324 (wl G.2.1 (LF G)) := by
  refine go_aload_n (pc := 950) dL_law_950 rfl rfl ?_
  refine go_aload_n (pc := 951) dL_law_951 rfl rfl ?_
  refine go_iload_n (pc := 952) dL_law_952 rfl rfl ?_
  refine go_iconst (pc := 953) (v := 1) dL_law_953 (by decide) ?_
  refine go_iadd (pc := 954) dL_law_954 ?_
  refine go_top (y := 1) (by decide) ?_
  refine go_sld (pc := 955) (by rw [hL]; exact gv_in (by decide)) dL_law_955 ?_
  refine go_top (y := sc G 1) rfl ?_
  obtain ⟨fr1, lc1, nn, kn, w1, g1, g2, g3, g4, g5, hf, hct⟩ := cx_marked (l := l) (G := G) (sc G 1)
  refine go_callV_i (pc := 956) vL_114 rfl (hct) rfl rfl (gz_b (by decide)) (wl_at (i := 0) rfl) rfl (Nat.le_of_ble_eq_true rfl) ⟨(show fr1 + 1 ≤ 11 by omega), (show 8 + (2 + 11) + lc1 ≤ 422 by omega), (show nn ≤ 0 + 600000 by omega), (show kn ≤ 0 + 7302250 by omega)⟩ dL_law_956 ?_
  refine go_aload_n (pc := 959) dL_law_959 rfl rfl ?_
  refine go_aload_n (pc := 960) dL_law_960 rfl rfl ?_
  refine go_iload_n (pc := 961) dL_law_961 rfl rfl ?_
  refine go_iconst (pc := 962) (v := 1) dL_law_962 (by decide) ?_
  refine go_iadd (pc := 963) dL_law_963 ?_
  refine go_top (y := 1) (by decide) ?_
  refine go_sld (pc := 964) (by rw [hL]; exact gv_in (by decide)) dL_law_964 ?_
  refine go_top (y := sc G 1) rfl ?_
  obtain ⟨fr2, lc2, w2, q1, q2, hct2⟩ := cm_marked (l := l) (G := G) (sc G 1) nn kn w1 g3 hf
  refine go_callV_i (pc := 965) vL_117 rfl (hct2) rfl rfl (gz_b (by omega)) ((hf 32 (by decide) (by decide)).trans (wl_at (i := 32) rfl)) rfl (Nat.le_of_ble_eq_true rfl) ⟨(show fr2 + 1 ≤ 11 by omega), (show 8 + (2 + 11) + lc2 ≤ 422 by omega), (show nn ≤ 0 + 600000 by omega), (show kn ≤ 0 + 7302250 by omega)⟩ dL_law_965 ?_
  refine go_icmp_eq_t (pc := 968) (tgt := 1393) dL_law_968 (by decide) rfl ?_
  exact law_next hL (by omega) (by omega)
theorem law_25 {l : Launch} {G : gG} (hL : G.2.2.2.2.2.2.1 = 6) : Go l G mL_law lawB 973 [(3, .int 0), (2, .ref (G.2.1 + 32)), (1, .ref (G.2.1 + 0)), (0, .ref G.2.2.2.2.2.1)] [] 42 90324 (wl G.2.1 (LF G)) := by
  refine go_aload_n (pc := 973) dL_law_973 rfl rfl ?_
  refine go_aload_n (pc := 974) dL_law_974 rfl rfl ?_
  refine go_iload_n (pc := 975) dL_law_975 rfl rfl ?_
  refine go_iconst (pc := 976) (v := 1) dL_law_976 (by decide) ?_
  refine go_iadd (pc := 977) dL_law_977 ?_
  refine go_top (y := 1) (by decide) ?_
  refine go_sld (pc := 978) (by rw [hL]; exact gv_in (by decide)) dL_law_978 ?_
  refine go_top (y := sc G 1) rfl ?_
  obtain ⟨fr1, lc1, nn, kn, w1, g1, g2, g3, g4, g5, hf, hct⟩ := cx_moved (l := l) (G := G) (sc G 1)
  refine go_callV_i (pc := 979) vL_118 rfl (hct) rfl rfl (gz_b (by decide)) (wl_at (i := 0) rfl) rfl (Nat.le_of_ble_eq_true rfl) ⟨(show fr1 + 1 ≤ 11 by omega), (show 8 + (2 + 11) + lc1 ≤ 422 by omega), (show nn ≤ 0 + 600000 by omega), (show kn ≤ 0 + 7302250 by omega)⟩ dL_law_979 ?_
  refine go_aload_n (pc := 982) dL_law_982 rfl rfl ?_
  refine go_aload_n (pc := 983) dL_law_983 rfl rfl ?_
  refine go_iload_n (pc := 984) dL_law_984 rfl rfl ?_
  refine go_iconst (pc := 985) (v := 1) dL_law_985 (by decide) ?_
  refine go_iadd (pc := 986) dL_law_986 ?_
  refine go_top (y := 1) (by decide) ?_
  refine go_sld (pc := 987) (by rw [hL]; exact gv_in (by decide)) dL_law_987 ?_
  refine go_top (y := sc G 1) rfl ?_
  obtain ⟨fr2, lc2, w2, q1, q2, hct2⟩ := cm_moved (l := l) (G := G) (sc G 1) nn kn w1 g3 hf
  refine go_callV_i (pc := 988) vL_121 rfl (hct2) rfl rfl (gz_b (by omega)) ((hf 32 (by decide) (by decide)).trans (wl_at (i := 32) rfl)) rfl (Nat.le_of_ble_eq_true rfl) ⟨(show fr2 + 1 ≤ 11 by omega), (show 8 + (2 + 11) + lc2 ≤ 422 by omega), (show nn ≤ 0 + 600000 by omega), (show kn ≤ 0 + 7302250 by omega)⟩ dL_law_988 ?_
  refine go_icmp_eq_t (pc := 991) (tgt := 1393) dL_law_991 (by decide) rfl ?_
  exact law_next hL (by omega) (by omega)
theorem law_26 {l : Launch} {G : gG} (hL : G.2.2.2.2.2.2.1 = 6) : Go l G mL_law lawB 996 [(3, .int 0), (2, .ref (G.2.1 + 32)), (1, .ref (G.2.1 + 0)), (0, .ref G.2.2.2.2.2.1)] [] 42 90324 (wl G.2.1 (LF G)) := by
  refine go_aload_n (pc := 996) dL_law_996 rfl rfl ?_
  refine go_aload_n (pc := 997) dL_law_997 rfl rfl ?_
  refine go_iload_n (pc := 998) dL_law_998 rfl rfl ?_
  refine go_iconst (pc := 999) (v := 1) dL_law_999 (by decide) ?_
  refine go_iadd (pc := 1000) dL_law_1000 ?_
  refine go_top (y := 1) (by decide) ?_
  refine go_sld (pc := 1001) (by rw [hL]; exact gv_in (by decide)) dL_law_1001 ?_
  refine go_top (y := sc G 1) rfl ?_
  refine go_aload_n (pc := 1002) dL_law_1002 rfl rfl ?_
  refine go_iload_n (pc := 1003) dL_law_1003 rfl rfl ?_
  refine go_iconst (pc := 1004) (v := 2) dL_law_1004 (by decide) ?_
  refine go_iadd (pc := 1005) dL_law_1005 ?_
  refine go_top (y := 2) (by decide) ?_
  refine go_sld (pc := 1006) (by rw [hL]; exact gv_in (by decide)) dL_law_1006 ?_
  refine go_top (y := sc G 2) rfl ?_
  obtain ⟨fr1, lc1, nn, kn, w1, g1, g2, g3, g4, g5, hf, hct⟩ := cx_told (l := l) (G := G) (sc G 1) (sc G 2)
  refine go_callV_i (pc := 1007) vL_122 rfl (hct) rfl rfl (gz_b (by decide)) (wl_at (i := 0) rfl) rfl (Nat.le_of_ble_eq_true rfl) ⟨(show fr1 + 1 ≤ 11 by omega), (show 8 + (3 + 11) + lc1 ≤ 422 by omega), (show nn ≤ 0 + 600000 by omega), (show kn ≤ 0 + 7302250 by omega)⟩ dL_law_1007 ?_
  refine go_aload_n (pc := 1010) dL_law_1010 rfl rfl ?_
  refine go_aload_n (pc := 1011) dL_law_1011 rfl rfl ?_
  refine go_iload_n (pc := 1012) dL_law_1012 rfl rfl ?_
  refine go_iconst (pc := 1013) (v := 1) dL_law_1013 (by decide) ?_
  refine go_iadd (pc := 1014) dL_law_1014 ?_
  refine go_top (y := 1) (by decide) ?_
  refine go_sld (pc := 1015) (by rw [hL]; exact gv_in (by decide)) dL_law_1015 ?_
  refine go_top (y := sc G 1) rfl ?_
  refine go_aload_n (pc := 1016) dL_law_1016 rfl rfl ?_
  refine go_iload_n (pc := 1017) dL_law_1017 rfl rfl ?_
  refine go_iconst (pc := 1018) (v := 2) dL_law_1018 (by decide) ?_
  refine go_iadd (pc := 1019) dL_law_1019 ?_
  refine go_top (y := 2) (by decide) ?_
  refine go_sld (pc := 1020) (by rw [hL]; exact gv_in (by decide)) dL_law_1020 ?_
  refine go_top (y := sc G 2) rfl ?_
  obtain ⟨fr2, lc2, w2, q1, q2, hct2⟩ := cm_told (l := l) (G := G) (sc G 1) (sc G 2) nn kn w1 g3 hf
  refine go_callV_i (pc := 1021) vL_125 rfl (hct2) rfl rfl (gz_b (by omega)) ((hf 32 (by decide) (by decide)).trans (wl_at (i := 32) rfl)) rfl (Nat.le_of_ble_eq_true rfl) ⟨(show fr2 + 1 ≤ 11 by omega), (show 8 + (4 + 11) + lc2 ≤ 422 by omega), (show nn ≤ 0 + 600000 by omega), (show kn ≤ 0 + 7302250 by omega)⟩ dL_law_1021 ?_
  refine go_icmp_eq_t (pc := 1024) (tgt := 1393) dL_law_1024 (by decide) (eq_told (sc G 2)) ?_
  exact law_next hL (by omega) (by omega)
theorem law_28 {l : Launch} {G : gG} (hL : G.2.2.2.2.2.2.1 = 6) : Go l G mL_law lawB 1052 [(3, .int 0), (2, .ref (G.2.1 + 32)), (1, .ref (G.2.1 + 0)), (0, .ref G.2.2.2.2.2.1)] [] 42 90324 (wl G.2.1 (LF G)) := by
  refine go_aload_n (pc := 1052) dL_law_1052 rfl rfl ?_
  refine go_aload_n (pc := 1053) dL_law_1053 rfl rfl ?_
  refine go_iload_n (pc := 1054) dL_law_1054 rfl rfl ?_
  refine go_iconst (pc := 1055) (v := 1) dL_law_1055 (by decide) ?_
  refine go_iadd (pc := 1056) dL_law_1056 ?_
  refine go_top (y := 1) (by decide) ?_
  refine go_sld (pc := 1057) (by rw [hL]; exact gv_in (by decide)) dL_law_1057 ?_
  refine go_top (y := sc G 1) rfl ?_
  obtain ⟨fr1, lc1, nn, kn, w1, g1, g2, g3, g4, g5, hf, hct⟩ := cx_word (l := l) (G := G) (sc G 1)
  refine go_callV_i (pc := 1058) vL_130 rfl (hct) rfl rfl (gz_b (by decide)) (wl_at (i := 0) rfl) rfl (Nat.le_of_ble_eq_true rfl) ⟨(show fr1 + 1 ≤ 11 by omega), (show 8 + (2 + 11) + lc1 ≤ 422 by omega), (show nn ≤ 0 + 600000 by omega), (show kn ≤ 0 + 7302250 by omega)⟩ dL_law_1058 ?_
  refine go_aload_n (pc := 1061) dL_law_1061 rfl rfl ?_
  refine go_aload_n (pc := 1062) dL_law_1062 rfl rfl ?_
  refine go_iload_n (pc := 1063) dL_law_1063 rfl rfl ?_
  refine go_iconst (pc := 1064) (v := 1) dL_law_1064 (by decide) ?_
  refine go_iadd (pc := 1065) dL_law_1065 ?_
  refine go_top (y := 1) (by decide) ?_
  refine go_sld (pc := 1066) (by rw [hL]; exact gv_in (by decide)) dL_law_1066 ?_
  refine go_top (y := sc G 1) rfl ?_
  obtain ⟨fr2, lc2, w2, q1, q2, hct2⟩ := cm_word (l := l) (G := G) (sc G 1) nn kn w1 g3 hf
  refine go_callV_i (pc := 1067) vL_133 rfl (hct2) rfl rfl (gz_b (by omega)) ((hf 32 (by decide) (by decide)).trans (wl_at (i := 32) rfl)) rfl (Nat.le_of_ble_eq_true rfl) ⟨(show fr2 + 1 ≤ 11 by omega), (show 8 + (2 + 11) + lc2 ≤ 422 by omega), (show nn ≤ 0 + 600000 by omega), (show kn ≤ 0 + 7302250 by omega)⟩ dL_law_1067 ?_
  refine go_icmp_eq_t (pc := 1070) (tgt := 1393) dL_law_1070 (by decide) (eq_word (sc G 1)) ?_
  exact law_next hL (by omega) (by omega)
theorem law_29 {l : Launch} {G : gG} (hL : G.2.2.2.2.2.2.1 = 6) : Go l G mL_law lawB 1075 [(3, .int 0), (2, .ref (G.2.1 + 32)), (1, .ref (G.2.1 + 0)), (0, .ref G.2.2.2.2.2.1)] [] 42 90324 (wl G.2.1 (LF G)) := by
  refine go_aload_n (pc := 1075) dL_law_1075 rfl rfl ?_
  obtain ⟨fr1, lc1, nn, kn, w1, g1, g2, g3, g4, g5, hf, hct⟩ := cx_digest (l := l) (G := G)
  refine go_callV_i (pc := 1076) vL_134 rfl (hct) rfl rfl (gz_b (by decide)) (wl_at (i := 0) rfl) rfl (Nat.le_of_ble_eq_true rfl) ⟨(show fr1 + 1 ≤ 11 by omega), (show 8 + (3 + 11) + lc1 ≤ 422 by omega), (show nn ≤ 0 + 600000 by omega), (show kn ≤ 0 + 7302250 by omega)⟩ dL_law_1076 ?_
  refine go_aload_n (pc := 1079) dL_law_1079 rfl rfl ?_
  obtain ⟨fr2, lc2, w2, q1, q2, hct2⟩ := cm_digest (l := l) (G := G) nn kn w1 g3 hf
  refine go_callV_i (pc := 1080) vL_137 rfl (hct2) rfl rfl (gz_b (by omega)) ((hf 32 (by decide) (by decide)).trans (wl_at (i := 32) rfl)) rfl (Nat.le_of_ble_eq_true rfl) ⟨(show fr2 + 1 ≤ 11 by omega), (show 8 + (3 + 11) + lc2 ≤ 422 by omega), (show nn ≤ 0 + 600000 by omega), (show kn ≤ 0 + 7302250 by omega)⟩ dL_law_1080 ?_
  refine go_icmp_eq_t (pc := 1083) (tgt := 1393) dL_law_1083 (by decide) rfl ?_
  exact law_next hL (by omega) (by omega)
theorem law_30 {l : Launch} {G : gG} (hL : G.2.2.2.2.2.2.1 = 6) : Go l G mL_law lawB 1088 [(3, .int 0), (2, .ref (G.2.1 + 32)), (1, .ref (G.2.1 + 0)), (0, .ref G.2.2.2.2.2.1)] [] 42 90324 (wl G.2.1 (LF G)) := by
  refine go_aload_n (pc := 1088) dL_law_1088 rfl rfl ?_
  obtain ⟨fr1, lc1, nn, kn, w1, g1, g2, g3, g4, g5, hf, hct⟩ := cx_rows (l := l) (G := G)
  refine go_callV_i (pc := 1089) vL_138 rfl (hct) rfl rfl (gz_b (by decide)) (wl_at (i := 0) rfl) rfl (Nat.le_of_ble_eq_true rfl) ⟨(show fr1 + 1 ≤ 11 by omega), (show 8 + (1 + 11) + lc1 ≤ 422 by omega), (show nn ≤ 0 + 600000 by omega), (show kn ≤ 0 + 7302250 by omega)⟩ dL_law_1089 ?_
  refine go_aload_n (pc := 1092) dL_law_1092 rfl rfl ?_
  obtain ⟨fr2, lc2, w2, q1, q2, hct2⟩ := cm_rows (l := l) (G := G) nn kn w1 g3 hf
  refine go_callV_i (pc := 1093) vL_141 rfl (hct2) rfl rfl (gz_b (by omega)) ((hf 32 (by decide) (by decide)).trans (wl_at (i := 32) rfl)) rfl (Nat.le_of_ble_eq_true rfl) ⟨(show fr2 + 1 ≤ 11 by omega), (show 8 + (1 + 11) + lc2 ≤ 422 by omega), (show nn ≤ 0 + 600000 by omega), (show kn ≤ 0 + 7302250 by omega)⟩ dL_law_1093 ?_
  refine go_icmp_eq_t (pc := 1096) (tgt := 1393) dL_law_1096 (by decide) rfl ?_
  exact law_next hL (by omega) (by omega)
theorem law_31 {l : Launch} {G : gG} (hL : G.2.2.2.2.2.2.1 = 6) : Go l G mL_law lawB 1101 [(3, .int 0), (2, .ref (G.2.1 + 32)), (1, .ref (G.2.1 + 0)), (0, .ref G.2.2.2.2.2.1)] [] 42 90324 (wl G.2.1 (LF G)) := by
  refine go_aload_n (pc := 1101) dL_law_1101 rfl rfl ?_
  refine go_aload_n (pc := 1102) dL_law_1102 rfl rfl ?_
  refine go_iload_n (pc := 1103) dL_law_1103 rfl rfl ?_
  refine go_iconst (pc := 1104) (v := 1) dL_law_1104 (by decide) ?_
  refine go_iadd (pc := 1105) dL_law_1105 ?_
  refine go_top (y := 1) (by decide) ?_
  refine go_sld (pc := 1106) (by rw [hL]; exact gv_in (by decide)) dL_law_1106 ?_
  refine go_top (y := sc G 1) rfl ?_
  obtain ⟨fr1, lc1, nn, kn, w1, g1, g2, g3, g4, g5, hf, hct⟩ := cx_row (l := l) (G := G) (sc G 1)
  refine go_callV_i (pc := 1107) vL_142 rfl (hct) rfl rfl (gz_b (by decide)) (wl_at (i := 0) rfl) rfl (Nat.le_of_ble_eq_true rfl) ⟨(show fr1 + 1 ≤ 11 by omega), (show 8 + (2 + 11) + lc1 ≤ 422 by omega), (show nn ≤ 0 + 600000 by omega), (show kn ≤ 0 + 7302250 by omega)⟩ dL_law_1107 ?_
  refine go_aload_n (pc := 1110) dL_law_1110 rfl rfl ?_
  refine go_aload_n (pc := 1111) dL_law_1111 rfl rfl ?_
  refine go_iload_n (pc := 1112) dL_law_1112 rfl rfl ?_
  refine go_iconst (pc := 1113) (v := 1) dL_law_1113 (by decide) ?_
  refine go_iadd (pc := 1114) dL_law_1114 ?_
  refine go_top (y := 1) (by decide) ?_
  refine go_sld (pc := 1115) (by rw [hL]; exact gv_in (by decide)) dL_law_1115 ?_
  refine go_top (y := sc G 1) rfl ?_
  obtain ⟨fr2, lc2, w2, q1, q2, hct2⟩ := cm_row (l := l) (G := G) (sc G 1) nn kn w1 g3 hf
  refine go_callV_i (pc := 1116) vL_145 rfl (hct2) rfl rfl (gz_b (by omega)) ((hf 32 (by decide) (by decide)).trans (wl_at (i := 32) rfl)) rfl (Nat.le_of_ble_eq_true rfl) ⟨(show fr2 + 1 ≤ 11 by omega), (show 8 + (2 + 11) + lc2 ≤ 422 by omega), (show nn ≤ 0 + 600000 by omega), (show kn ≤ 0 + 7302250 by omega)⟩ dL_law_1116 ?_
  refine go_icmp_eq_t (pc := 1119) (tgt := 1393) dL_law_1119 (by decide) rfl ?_
  exact law_next hL (by omega) (by omega)
theorem law_32 {l : Launch} {G : gG} (hL : G.2.2.2.2.2.2.1 = 6) : Go l G mL_law lawB 1124 [(3, .int 0), (2, .ref (G.2.1 + 32)), (1, .ref (G.2.1 + 0)), (0, .ref G.2.2.2.2.2.1)] [] 42 90324 (wl G.2.1 (LF G)) := by
  refine go_aload_n (pc := 1124) dL_law_1124 rfl rfl ?_
  refine go_aload_n (pc := 1125) dL_law_1125 rfl rfl ?_
  refine go_iload_n (pc := 1126) dL_law_1126 rfl rfl ?_
  refine go_iconst (pc := 1127) (v := 1) dL_law_1127 (by decide) ?_
  refine go_iadd (pc := 1128) dL_law_1128 ?_
  refine go_top (y := 1) (by decide) ?_
  refine go_sld (pc := 1129) (by rw [hL]; exact gv_in (by decide)) dL_law_1129 ?_
  refine go_top (y := sc G 1) rfl ?_
  refine go_aload_n (pc := 1130) dL_law_1130 rfl rfl ?_
  refine go_iload_n (pc := 1131) dL_law_1131 rfl rfl ?_
  refine go_iconst (pc := 1132) (v := 2) dL_law_1132 (by decide) ?_
  refine go_iadd (pc := 1133) dL_law_1133 ?_
  refine go_top (y := 2) (by decide) ?_
  refine go_sld (pc := 1134) (by rw [hL]; exact gv_in (by decide)) dL_law_1134 ?_
  refine go_top (y := sc G 2) rfl ?_
  obtain ⟨fr1, lc1, nn, kn, w1, g1, g2, g3, g4, g5, hf, hct⟩ := cx_forge (l := l) (G := G) (sc G 1) (sc G 2)
  refine go_callV_i (pc := 1135) vL_146 rfl (hct) rfl rfl (gz_b (by decide)) (wl_at (i := 0) rfl) rfl (Nat.le_of_ble_eq_true rfl) ⟨(show fr1 + 1 ≤ 11 by omega), (show 8 + (4 + 11) + lc1 ≤ 422 by omega), (show nn ≤ 0 + 600000 by omega), (show kn ≤ 0 + 7302250 by omega)⟩ dL_law_1135 ?_
  refine go_aload_n (pc := 1138) dL_law_1138 rfl rfl ?_
  refine go_aload_n (pc := 1139) dL_law_1139 rfl rfl ?_
  refine go_iload_n (pc := 1140) dL_law_1140 rfl rfl ?_
  refine go_iconst (pc := 1141) (v := 1) dL_law_1141 (by decide) ?_
  refine go_iadd (pc := 1142) dL_law_1142 ?_
  refine go_top (y := 1) (by decide) ?_
  refine go_sld (pc := 1143) (by rw [hL]; exact gv_in (by decide)) dL_law_1143 ?_
  refine go_top (y := sc G 1) rfl ?_
  refine go_aload_n (pc := 1144) dL_law_1144 rfl rfl ?_
  refine go_iload_n (pc := 1145) dL_law_1145 rfl rfl ?_
  refine go_iconst (pc := 1146) (v := 2) dL_law_1146 (by decide) ?_
  refine go_iadd (pc := 1147) dL_law_1147 ?_
  refine go_top (y := 2) (by decide) ?_
  refine go_sld (pc := 1148) (by rw [hL]; exact gv_in (by decide)) dL_law_1148 ?_
  refine go_top (y := sc G 2) rfl ?_
  obtain ⟨fr2, lc2, w2, q1, q2, hct2⟩ := cm_forge (l := l) (G := G) (sc G 1) (sc G 2) nn kn w1 g3 hf
  refine go_callV_i (pc := 1149) vL_149 rfl (hct2) rfl rfl (gz_b (by omega)) ((hf 32 (by decide) (by decide)).trans (wl_at (i := 32) rfl)) rfl (Nat.le_of_ble_eq_true rfl) ⟨(show fr2 + 1 ≤ 11 by omega), (show 8 + (4 + 11) + lc2 ≤ 422 by omega), (show nn ≤ 0 + 600000 by omega), (show kn ≤ 0 + 7302250 by omega)⟩ dL_law_1149 ?_
  refine go_icmp_eq_t (pc := 1152) (tgt := 1393) dL_law_1152 (by decide) rfl ?_
  exact law_next hL (by omega) (by omega)
theorem law_33 {l : Launch} {G : gG} (hL : G.2.2.2.2.2.2.1 = 6) : Go l G mL_law lawB 1157 [(3, .int 0), (2, .ref (G.2.1 + 32)), (1, .ref (G.2.1 + 0)), (0, .ref G.2.2.2.2.2.1)] [] 42 90324 (wl G.2.1 (LF G)) := by
  refine go_aload_n (pc := 1157) dL_law_1157 rfl rfl ?_
  obtain ⟨fr1, lc1, nn, kn, w1, g1, g2, g3, g4, g5, hf, hct⟩ := cx_plain (l := l) (G := G)
  refine go_callV_i (pc := 1158) vL_150 rfl (hct) rfl rfl (gz_b (by decide)) (wl_at (i := 0) rfl) rfl (Nat.le_of_ble_eq_true rfl) ⟨(show fr1 + 1 ≤ 11 by omega), (show 8 + (1 + 11) + lc1 ≤ 422 by omega), (show nn ≤ 0 + 600000 by omega), (show kn ≤ 0 + 7302250 by omega)⟩ dL_law_1158 ?_
  refine go_aload_n (pc := 1161) dL_law_1161 rfl rfl ?_
  obtain ⟨fr2, lc2, w2, q1, q2, hct2⟩ := cm_plain (l := l) (G := G) nn kn w1 g3 hf
  refine go_callV_i (pc := 1162) vL_153 rfl (hct2) rfl rfl (gz_b (by omega)) ((hf 32 (by decide) (by decide)).trans (wl_at (i := 32) rfl)) rfl (Nat.le_of_ble_eq_true rfl) ⟨(show fr2 + 1 ≤ 11 by omega), (show 8 + (3 + 11) + lc2 ≤ 422 by omega), (show nn ≤ 0 + 600000 by omega), (show kn ≤ 0 + 7302250 by omega)⟩ dL_law_1162 ?_
  refine go_icmp_eq_t (pc := 1165) (tgt := 1393) dL_law_1165 (by decide) rfl ?_
  exact law_next hL (by omega) (by omega)
theorem law_34 {l : Launch} {G : gG} (hL : G.2.2.2.2.2.2.1 = 6) : Go l G mL_law lawB 1170 [(3, .int 0), (2, .ref (G.2.1 + 32)), (1, .ref (G.2.1 + 0)), (0, .ref G.2.2.2.2.2.1)] [] 42 90324 (wl G.2.1 (LF G)) := by
  refine go_aload_n (pc := 1170) dL_law_1170 rfl rfl ?_
  obtain ⟨fr1, lc1, nn, kn, w1, g1, g2, g3, g4, g5, hf, hct⟩ := cx_check (l := l) (G := G)
  refine go_callV_i (pc := 1171) vL_154 rfl (hct) rfl rfl (gz_b (by decide)) (wl_at (i := 0) rfl) rfl (Nat.le_of_ble_eq_true rfl) ⟨(show fr1 + 1 ≤ 11 by omega), (show 8 + (1 + 11) + lc1 ≤ 422 by omega), (show nn ≤ 0 + 600000 by omega), (show kn ≤ 0 + 7302250 by omega)⟩ dL_law_1171 ?_
  refine go_aload_n (pc := 1174) dL_law_1174 rfl rfl ?_
  obtain ⟨fr2, lc2, w2, q1, q2, hct2⟩ := cm_check (l := l) (G := G) nn kn w1 g3 hf
  refine go_callV_i (pc := 1175) vL_157 rfl (hct2) rfl rfl (gz_b (by omega)) ((hf 32 (by decide) (by decide)).trans (wl_at (i := 32) rfl)) rfl (Nat.le_of_ble_eq_true rfl) ⟨(show fr2 + 1 ≤ 11 by omega), (show 8 + (4 + 11) + lc2 ≤ 422 by omega), (show nn ≤ 0 + 600000 by omega), (show kn ≤ 0 + 7302250 by omega)⟩ dL_law_1175 ?_
  refine go_icmp_eq_t (pc := 1178) (tgt := 1393) dL_law_1178 (by decide) rfl ?_
  exact law_next hL (by omega) (by omega)
theorem law_36 {l : Launch} {G : gG} (hL : G.2.2.2.2.2.2.1 = 6) : Go l G mL_law lawB 1246 [(3, .int 0), (2, .ref (G.2.1 + 32)), (1, .ref (G.2.1 + 0)), (0, .ref G.2.2.2.2.2.1)] [] 42 90324 (wl G.2.1 (LF G)) := by
  refine go_aload_n (pc := 1246) dL_law_1246 rfl rfl ?_
  obtain ⟨fr1, lc1, nn, kn, w1, g1, g2, g3, g4, g5, hf, hct⟩ := cx_clear (l := l) (G := G)
  refine go_callV_i (pc := 1247) vL_162 rfl (hct) rfl rfl (gz_b (by decide)) (wl_at (i := 0) rfl) rfl (Nat.le_of_ble_eq_true rfl) ⟨(show fr1 + 1 ≤ 11 by omega), (show 8 + (2 + 11) + lc1 ≤ 422 by omega), (show nn ≤ 0 + 600000 by omega), (show kn ≤ 0 + 7302250 by omega)⟩ dL_law_1247 ?_
  refine go_aload_n (pc := 1250) dL_law_1250 rfl rfl ?_
  obtain ⟨fr2, lc2, w2, q1, q2, hct2⟩ := cm_clear (l := l) (G := G) nn kn w1 g3 hf
  refine go_callV_i (pc := 1251) vL_165 rfl (hct2) rfl rfl (gz_b (by omega)) ((hf 32 (by decide) (by decide)).trans (wl_at (i := 32) rfl)) rfl (Nat.le_of_ble_eq_true rfl) ⟨(show fr2 + 1 ≤ 11 by omega), (show 8 + (2 + 11) + lc2 ≤ 422 by omega), (show nn ≤ 0 + 600000 by omega), (show kn ≤ 0 + 7302250 by omega)⟩ dL_law_1251 ?_
  refine go_icmp_eq_t (pc := 1254) (tgt := 1393) dL_law_1254 (by decide) rfl ?_
  exact law_next hL (by omega) (by omega)
theorem law_37 {l : Launch} {G : gG} (hL : G.2.2.2.2.2.2.1 = 6) : Go l G mL_law lawB 1259 [(3, .int 0), (2, .ref (G.2.1 + 32)), (1, .ref (G.2.1 + 0)), (0, .ref G.2.2.2.2.2.1)] [] 42 90324 (wl G.2.1 (LF G)) := by
  refine go_aload_n (pc := 1259) dL_law_1259 rfl rfl ?_
  refine go_aload_n (pc := 1260) dL_law_1260 rfl rfl ?_
  refine go_iload_n (pc := 1261) dL_law_1261 rfl rfl ?_
  refine go_iconst (pc := 1262) (v := 1) dL_law_1262 (by decide) ?_
  refine go_iadd (pc := 1263) dL_law_1263 ?_
  refine go_top (y := 1) (by decide) ?_
  refine go_sld (pc := 1264) (by rw [hL]; exact gv_in (by decide)) dL_law_1264 ?_
  refine go_top (y := sc G 1) rfl ?_
  obtain ⟨fr1, lc1, nn, kn, w1, g1, g2, g3, g4, g5, hf, hct⟩ := cx_run (l := l) (G := G) (sc G 1)
  refine go_callV_i (pc := 1265) vL_166 rfl (hct) rfl rfl (gz_b (by decide)) (wl_at (i := 0) rfl) rfl (Nat.le_of_ble_eq_true rfl) ⟨(show fr1 + 1 ≤ 11 by omega), (show 8 + (7 + 11) + lc1 ≤ 422 by omega), (show nn ≤ 0 + 600000 by omega), (show kn ≤ 0 + 7302250 by omega)⟩ dL_law_1265 ?_
  refine go_aload_n (pc := 1268) dL_law_1268 rfl rfl ?_
  refine go_aload_n (pc := 1269) dL_law_1269 rfl rfl ?_
  refine go_iload_n (pc := 1270) dL_law_1270 rfl rfl ?_
  refine go_iconst (pc := 1271) (v := 1) dL_law_1271 (by decide) ?_
  refine go_iadd (pc := 1272) dL_law_1272 ?_
  refine go_top (y := 1) (by decide) ?_
  refine go_sld (pc := 1273) (by rw [hL]; exact gv_in (by decide)) dL_law_1273 ?_
  refine go_top (y := sc G 1) rfl ?_
  obtain ⟨fr2, lc2, w2, q1, q2, hct2⟩ := cm_run (l := l) (G := G) (sc G 1) nn kn w1 g3 hf
  refine go_callV_i (pc := 1274) vL_169 rfl (hct2) rfl rfl (gz_b (by omega)) ((hf 32 (by decide) (by decide)).trans (wl_at (i := 32) rfl)) rfl (Nat.le_of_ble_eq_true rfl) ⟨(show fr2 + 1 ≤ 11 by omega), (show 8 + (4 + 11) + lc2 ≤ 422 by omega), (show nn ≤ 0 + 600000 by omega), (show kn ≤ 0 + 7302250 by omega)⟩ dL_law_1274 ?_
  refine go_icmp_eq_t (pc := 1277) (tgt := 1393) dL_law_1277 (by decide) (eq_run (sc G 1)) ?_
  exact law_next hL (by omega) (by omega)
theorem law_38 {l : Launch} {G : gG} (hL : G.2.2.2.2.2.2.1 = 6) : Go l G mL_law lawB 1282 [(3, .int 0), (2, .ref (G.2.1 + 32)), (1, .ref (G.2.1 + 0)), (0, .ref G.2.2.2.2.2.1)] [] 42 90324 (wl G.2.1 (LF G)) := by
  refine go_aload_n (pc := 1282) dL_law_1282 rfl rfl ?_
  obtain ⟨fr1, lc1, nn, kn, w1, g1, g2, g3, g4, g5, hf, hct⟩ := cx_found (l := l) (G := G)
  refine go_callV_i (pc := 1283) vL_170 rfl (hct) rfl rfl (gz_b (by decide)) (wl_at (i := 0) rfl) rfl (Nat.le_of_ble_eq_true rfl) ⟨(show fr1 + 1 ≤ 11 by omega), (show 8 + (1 + 11) + lc1 ≤ 422 by omega), (show nn ≤ 0 + 600000 by omega), (show kn ≤ 0 + 7302250 by omega)⟩ dL_law_1283 ?_
  refine go_aload_n (pc := 1286) dL_law_1286 rfl rfl ?_
  obtain ⟨fr2, lc2, w2, q1, q2, hct2⟩ := cm_found (l := l) (G := G) nn kn w1 g3 hf
  refine go_callV_i (pc := 1287) vL_173 rfl (hct2) rfl rfl (gz_b (by omega)) ((hf 32 (by decide) (by decide)).trans (wl_at (i := 32) rfl)) rfl (Nat.le_of_ble_eq_true rfl) ⟨(show fr2 + 1 ≤ 11 by omega), (show 8 + (1 + 11) + lc2 ≤ 422 by omega), (show nn ≤ 0 + 600000 by omega), (show kn ≤ 0 + 7302250 by omega)⟩ dL_law_1287 ?_
  refine go_icmp_eq_t (pc := 1290) (tgt := 1393) dL_law_1290 (by decide) rfl ?_
  exact law_next hL (by omega) (by omega)
theorem law_39 {l : Launch} {G : gG} (hL : G.2.2.2.2.2.2.1 = 6) : Go l G mL_law lawB 1295 [(3, .int 0), (2, .ref (G.2.1 + 32)), (1, .ref (G.2.1 + 0)), (0, .ref G.2.2.2.2.2.1)] [] 42 90324 (wl G.2.1 (LF G)) := by
  refine go_aload_n (pc := 1295) dL_law_1295 rfl rfl ?_
  refine go_aload_n (pc := 1296) dL_law_1296 rfl rfl ?_
  refine go_iload_n (pc := 1297) dL_law_1297 rfl rfl ?_
  refine go_iconst (pc := 1298) (v := 1) dL_law_1298 (by decide) ?_
  refine go_iadd (pc := 1299) dL_law_1299 ?_
  refine go_top (y := 1) (by decide) ?_
  refine go_sld (pc := 1300) (by rw [hL]; exact gv_in (by decide)) dL_law_1300 ?_
  refine go_top (y := sc G 1) rfl ?_
  obtain ⟨fr1, lc1, nn, kn, w1, g1, g2, g3, g4, g5, hf, hct⟩ := cx_register (l := l) (G := G) (sc G 1)
  refine go_callV_i (pc := 1301) vL_174 rfl (hct) rfl rfl (gz_b (by decide)) (wl_at (i := 0) rfl) rfl (Nat.le_of_ble_eq_true rfl) ⟨(show fr1 + 1 ≤ 11 by omega), (show 8 + (2 + 11) + lc1 ≤ 422 by omega), (show nn ≤ 0 + 600000 by omega), (show kn ≤ 0 + 7302250 by omega)⟩ dL_law_1301 ?_
  refine go_aload_n (pc := 1304) dL_law_1304 rfl rfl ?_
  refine go_aload_n (pc := 1305) dL_law_1305 rfl rfl ?_
  refine go_iload_n (pc := 1306) dL_law_1306 rfl rfl ?_
  refine go_iconst (pc := 1307) (v := 1) dL_law_1307 (by decide) ?_
  refine go_iadd (pc := 1308) dL_law_1308 ?_
  refine go_top (y := 1) (by decide) ?_
  refine go_sld (pc := 1309) (by rw [hL]; exact gv_in (by decide)) dL_law_1309 ?_
  refine go_top (y := sc G 1) rfl ?_
  obtain ⟨fr2, lc2, w2, q1, q2, hct2⟩ := cm_register (l := l) (G := G) (sc G 1) nn kn w1 g3 hf
  refine go_callV_i (pc := 1310) vL_177 rfl (hct2) rfl rfl (gz_b (by omega)) ((hf 32 (by decide) (by decide)).trans (wl_at (i := 32) rfl)) rfl (Nat.le_of_ble_eq_true rfl) ⟨(show fr2 + 1 ≤ 11 by omega), (show 8 + (2 + 11) + lc2 ≤ 422 by omega), (show nn ≤ 0 + 600000 by omega), (show kn ≤ 0 + 7302250 by omega)⟩ dL_law_1310 ?_
  refine go_icmp_eq_t (pc := 1313) (tgt := 1393) dL_law_1313 (by decide) (eq_register (sc G 1)) ?_
  exact law_next hL (by omega) (by omega)
theorem law_40 {l : Launch} {G : gG} (hL : G.2.2.2.2.2.2.1 = 6) : Go l G mL_law lawB 1318 [(3, .int 0), (2, .ref (G.2.1 + 32)), (1, .ref (G.2.1 + 0)), (0, .ref G.2.2.2.2.2.1)] [] 42 90324 (wl G.2.1 (LF G)) := by
  refine go_aload_n (pc := 1318) dL_law_1318 rfl rfl ?_
  obtain ⟨fr1, lc1, nn, kn, w1, g1, g2, g3, g4, g5, hf, hct⟩ := cx_image (l := l) (G := G)
  refine go_callV_i (pc := 1319) vL_178 rfl (hct) rfl rfl (gz_b (by decide)) (wl_at (i := 0) rfl) rfl (Nat.le_of_ble_eq_true rfl) ⟨(show fr1 + 1 ≤ 11 by omega), (show 8 + (1 + 11) + lc1 ≤ 422 by omega), (show nn ≤ 0 + 600000 by omega), (show kn ≤ 0 + 7302250 by omega)⟩ dL_law_1319 ?_
  refine go_aload_n (pc := 1322) dL_law_1322 rfl rfl ?_
  obtain ⟨fr2, lc2, w2, q1, q2, hct2⟩ := cm_image (l := l) (G := G) nn kn w1 g3 hf
  refine go_callV_i (pc := 1323) vL_181 rfl (hct2) rfl rfl (gz_b (by omega)) ((hf 32 (by decide) (by decide)).trans (wl_at (i := 32) rfl)) rfl (Nat.le_of_ble_eq_true rfl) ⟨(show fr2 + 1 ≤ 11 by omega), (show 8 + (1 + 11) + lc2 ≤ 422 by omega), (show nn ≤ 0 + 600000 by omega), (show kn ≤ 0 + 7302250 by omega)⟩ dL_law_1323 ?_
  refine go_icmp_eq_t (pc := 1326) (tgt := 1393) dL_law_1326 (by decide) rfl ?_
  exact law_next hL (by omega) (by omega)
theorem law_41 {l : Launch} {G : gG} (hL : G.2.2.2.2.2.2.1 = 6) : Go l G mL_law lawB 1331 [(3, .int 0), (2, .ref (G.2.1 + 32)), (1, .ref (G.2.1 + 0)), (0, .ref G.2.2.2.2.2.1)] [] 42 90324 (wl G.2.1 (LF G)) := by
  refine go_aload_n (pc := 1331) dL_law_1331 rfl rfl ?_
  obtain ⟨fr1, lc1, nn, kn, w1, g1, g2, g3, g4, g5, hf, hct⟩ := cx_load (l := l) (G := G)
  refine go_callV_i (pc := 1332) vL_182 rfl (hct) rfl rfl (gz_b (by decide)) (wl_at (i := 0) rfl) rfl (Nat.le_of_ble_eq_true rfl) ⟨(show fr1 + 1 ≤ 11 by omega), (show 8 + (1 + 11) + lc1 ≤ 422 by omega), (show nn ≤ 0 + 600000 by omega), (show kn ≤ 0 + 7302250 by omega)⟩ dL_law_1332 ?_
  refine go_aload_n (pc := 1335) dL_law_1335 rfl rfl ?_
  obtain ⟨fr2, lc2, w2, q1, q2, hct2⟩ := cm_load (l := l) (G := G) nn kn w1 g3 hf
  refine go_callV_i (pc := 1336) vL_185 rfl (hct2) rfl rfl (gz_b (by omega)) ((hf 32 (by decide) (by decide)).trans (wl_at (i := 32) rfl)) rfl (Nat.le_of_ble_eq_true rfl) ⟨(show fr2 + 1 ≤ 11 by omega), (show 8 + (1 + 11) + lc2 ≤ 422 by omega), (show nn ≤ 0 + 600000 by omega), (show kn ≤ 0 + 7302250 by omega)⟩ dL_law_1336 ?_
  refine go_icmp_eq_t (pc := 1339) (tgt := 1393) dL_law_1339 (by decide) rfl ?_
  exact law_next hL (by omega) (by omega)
theorem law_42 {l : Launch} {G : gG} (hL : G.2.2.2.2.2.2.1 = 6) : Go l G mL_law lawB 1344 [(3, .int 0), (2, .ref (G.2.1 + 32)), (1, .ref (G.2.1 + 0)), (0, .ref G.2.2.2.2.2.1)] [] 42 90324 (wl G.2.1 (LF G)) := by
  refine go_aload_n (pc := 1344) dL_law_1344 rfl rfl ?_
  obtain ⟨fr1, lc1, nn, kn, w1, g1, g2, g3, g4, g5, hf, hct⟩ := cx_undoStep (l := l) (G := G)
  refine go_callV_i (pc := 1345) vL_186 rfl (hct) rfl rfl (gz_b (by decide)) (wl_at (i := 0) rfl) rfl (Nat.le_of_ble_eq_true rfl) ⟨(show fr1 + 1 ≤ 11 by omega), (show 8 + (1 + 11) + lc1 ≤ 422 by omega), (show nn ≤ 0 + 600000 by omega), (show kn ≤ 0 + 7302250 by omega)⟩ dL_law_1345 ?_
  refine go_aload_n (pc := 1348) dL_law_1348 rfl rfl ?_
  obtain ⟨fr2, lc2, w2, q1, q2, hct2⟩ := cm_undoStep (l := l) (G := G) nn kn w1 g3 hf
  refine go_callV_i (pc := 1349) vL_189 rfl (hct2) rfl rfl (gz_b (by omega)) ((hf 32 (by decide) (by decide)).trans (wl_at (i := 32) rfl)) rfl (Nat.le_of_ble_eq_true rfl) ⟨(show fr2 + 1 ≤ 11 by omega), (show 8 + (1 + 11) + lc2 ≤ 422 by omega), (show nn ≤ 0 + 600000 by omega), (show kn ≤ 0 + 7302250 by omega)⟩ dL_law_1349 ?_
  refine go_icmp_eq_t (pc := 1352) (tgt := 1393) dL_law_1352 (by decide) rfl ?_
  exact law_next hL (by omega) (by omega)
theorem law_43 {l : Launch} {G : gG} (hL : G.2.2.2.2.2.2.1 = 6) : Go l G mL_law lawB 1357 [(3, .int 0), (2, .ref (G.2.1 + 32)), (1, .ref (G.2.1 + 0)), (0, .ref G.2.2.2.2.2.1)] [] 42 90324 (wl G.2.1 (LF G)) := by
  refine go_aload_n (pc := 1357) dL_law_1357 rfl rfl ?_
  obtain ⟨fr1, lc1, nn, kn, w1, g1, g2, g3, g4, g5, hf, hct⟩ := cx_finding (l := l) (G := G)
  refine go_callV_i (pc := 1358) vL_190 rfl (hct) rfl rfl (gz_b (by decide)) (wl_at (i := 0) rfl) rfl (Nat.le_of_ble_eq_true rfl) ⟨(show fr1 + 1 ≤ 11 by omega), (show 8 + (1 + 11) + lc1 ≤ 422 by omega), (show nn ≤ 0 + 600000 by omega), (show kn ≤ 0 + 7302250 by omega)⟩ dL_law_1358 ?_
  refine go_aload_n (pc := 1361) dL_law_1361 rfl rfl ?_
  obtain ⟨fr2, lc2, w2, q1, q2, hct2⟩ := cm_finding (l := l) (G := G) nn kn w1 g3 hf
  refine go_callV_i (pc := 1362) vL_193 rfl (hct2) rfl rfl (gz_b (by omega)) ((hf 32 (by decide) (by decide)).trans (wl_at (i := 32) rfl)) rfl (Nat.le_of_ble_eq_true rfl) ⟨(show fr2 + 1 ≤ 11 by omega), (show 8 + (1 + 11) + lc2 ≤ 422 by omega), (show nn ≤ 0 + 600000 by omega), (show kn ≤ 0 + 7302250 by omega)⟩ dL_law_1362 ?_
  refine go_icmp_eq_t (pc := 1365) (tgt := 1393) dL_law_1365 (by decide) rfl ?_
  exact law_next hL (by omega) (by omega)
theorem law_44 {l : Launch} {G : gG} (hL : G.2.2.2.2.2.2.1 = 6) : Go l G mL_law lawB 1370 [(3, .int 0), (2, .ref (G.2.1 + 32)), (1, .ref (G.2.1 + 0)), (0, .ref G.2.2.2.2.2.1)] [] 42 90324 (wl G.2.1 (LF G)) := by
  refine go_aload_n (pc := 1370) dL_law_1370 rfl rfl ?_
  refine go_aload_n (pc := 1371) dL_law_1371 rfl rfl ?_
  refine go_iload_n (pc := 1372) dL_law_1372 rfl rfl ?_
  refine go_iconst (pc := 1373) (v := 1) dL_law_1373 (by decide) ?_
  refine go_iadd (pc := 1374) dL_law_1374 ?_
  refine go_top (y := 1) (by decide) ?_
  refine go_sld (pc := 1375) (by rw [hL]; exact gv_in (by decide)) dL_law_1375 ?_
  refine go_top (y := sc G 1) rfl ?_
  obtain ⟨fr1, lc1, nn, kn, w1, g1, g2, g3, g4, g5, hf, hct⟩ := cx_trace (l := l) (G := G) (sc G 1)
  refine go_callV_i (pc := 1376) vL_194 rfl (hct) rfl rfl (gz_b (by decide)) (wl_at (i := 0) rfl) rfl (Nat.le_of_ble_eq_true rfl) ⟨(show fr1 + 1 ≤ 11 by omega), (show 8 + (2 + 11) + lc1 ≤ 422 by omega), (show nn ≤ 0 + 600000 by omega), (show kn ≤ 0 + 7302250 by omega)⟩ dL_law_1376 ?_
  refine go_aload_n (pc := 1379) dL_law_1379 rfl rfl ?_
  refine go_aload_n (pc := 1380) dL_law_1380 rfl rfl ?_
  refine go_iload_n (pc := 1381) dL_law_1381 rfl rfl ?_
  refine go_iconst (pc := 1382) (v := 1) dL_law_1382 (by decide) ?_
  refine go_iadd (pc := 1383) dL_law_1383 ?_
  refine go_top (y := 1) (by decide) ?_
  refine go_sld (pc := 1384) (by rw [hL]; exact gv_in (by decide)) dL_law_1384 ?_
  refine go_top (y := sc G 1) rfl ?_
  obtain ⟨fr2, lc2, w2, q1, q2, hct2⟩ := cm_trace (l := l) (G := G) (sc G 1) nn kn w1 g3 hf
  refine go_callV_i (pc := 1385) vL_197 rfl (hct2) rfl rfl (gz_b (by omega)) ((hf 32 (by decide) (by decide)).trans (wl_at (i := 32) rfl)) rfl (Nat.le_of_ble_eq_true rfl) ⟨(show fr2 + 1 ≤ 11 by omega), (show 8 + (2 + 11) + lc2 ≤ 422 by omega), (show nn ≤ 0 + 600000 by omega), (show kn ≤ 0 + 7302250 by omega)⟩ dL_law_1385 ?_
  refine go_icmp_eq_t (pc := 1388) (tgt := 1393) dL_law_1388 (by decide) (eq_trace (sc G 1)) ?_
  exact law_next hL (by omega) (by omega)
theorem law_27_0 {l : Launch} {G : gG} (hL : G.2.2.2.2.2.2.1 = 6) (h : sc G 1 = 0) : Go l G mL_law lawB 1029 [(3, .int 0), (2, .ref (G.2.1 + 32)), (1, .ref (G.2.1 + 0)), (0, .ref G.2.2.2.2.2.1)] [] 42 90324 (wl G.2.1 (LF G)) := by
  refine go_aload_n (pc := 1029) dL_law_1029 rfl rfl ?_
  refine go_aload_n (pc := 1030) dL_law_1030 rfl rfl ?_
  refine go_iload_n (pc := 1031) dL_law_1031 rfl rfl ?_
  refine go_iconst (pc := 1032) (v := 1) dL_law_1032 (by decide) ?_
  refine go_iadd (pc := 1033) dL_law_1033 ?_
  refine go_top (y := 1) (by decide) ?_
  refine go_sld (pc := 1034) (by rw [hL]; exact gv_in (by decide)) dL_law_1034 ?_
  refine go_top (y := sc G 1) rfl ?_
  refine go_top (y := 0) h ?_
  obtain ⟨fr1, lc1, nn, kn, w1, g1, g2, g3, g4, g5, hf, hct⟩ := cx_about_0 (l := l) (G := G)
  refine go_callV_i (pc := 1035) vL_126 rfl (hct) rfl rfl (gz_b (by decide)) (wl_at (i := 0) rfl) rfl (Nat.le_of_ble_eq_true rfl) ⟨(show fr1 + 1 ≤ 11 by omega), (show 8 + (2 + 11) + lc1 ≤ 422 by omega), (show nn ≤ 0 + 600000 by omega), (show kn ≤ 0 + 7302250 by omega)⟩ dL_law_1035 ?_
  refine go_aload_n (pc := 1038) dL_law_1038 rfl rfl ?_
  refine go_aload_n (pc := 1039) dL_law_1039 rfl rfl ?_
  refine go_iload_n (pc := 1040) dL_law_1040 rfl rfl ?_
  refine go_iconst (pc := 1041) (v := 1) dL_law_1041 (by decide) ?_
  refine go_iadd (pc := 1042) dL_law_1042 ?_
  refine go_top (y := 1) (by decide) ?_
  refine go_sld (pc := 1043) (by rw [hL]; exact gv_in (by decide)) dL_law_1043 ?_
  refine go_top (y := sc G 1) rfl ?_
  refine go_top (y := 0) h ?_
  obtain ⟨fr2, lc2, w2, q1, q2, hct2⟩ := cm_about_0 (l := l) (G := G) nn kn w1 g3 hf
  refine go_callV_i (pc := 1044) vL_129 rfl (hct2) rfl rfl (gz_b (by omega)) ((hf 32 (by decide) (by decide)).trans (wl_at (i := 32) rfl)) rfl (Nat.le_of_ble_eq_true rfl) ⟨(show fr2 + 1 ≤ 11 by omega), (show 8 + (2 + 11) + lc2 ≤ 422 by omega), (show nn ≤ 0 + 600000 by omega), (show kn ≤ 0 + 7302250 by omega)⟩ dL_law_1044 ?_
  refine go_icmp_eq_t (pc := 1047) (tgt := 1393) dL_law_1047 (by decide) rfl ?_
  exact law_next hL (by omega) (by omega)
theorem law_27_1 {l : Launch} {G : gG} (hL : G.2.2.2.2.2.2.1 = 6) (h : sc G 1 = 1) : Go l G mL_law lawB 1029 [(3, .int 0), (2, .ref (G.2.1 + 32)), (1, .ref (G.2.1 + 0)), (0, .ref G.2.2.2.2.2.1)] [] 42 90324 (wl G.2.1 (LF G)) := by
  refine go_aload_n (pc := 1029) dL_law_1029 rfl rfl ?_
  refine go_aload_n (pc := 1030) dL_law_1030 rfl rfl ?_
  refine go_iload_n (pc := 1031) dL_law_1031 rfl rfl ?_
  refine go_iconst (pc := 1032) (v := 1) dL_law_1032 (by decide) ?_
  refine go_iadd (pc := 1033) dL_law_1033 ?_
  refine go_top (y := 1) (by decide) ?_
  refine go_sld (pc := 1034) (by rw [hL]; exact gv_in (by decide)) dL_law_1034 ?_
  refine go_top (y := sc G 1) rfl ?_
  refine go_top (y := 1) h ?_
  obtain ⟨fr1, lc1, nn, kn, w1, g1, g2, g3, g4, g5, hf, hct⟩ := cx_about_1 (l := l) (G := G)
  refine go_callV_i (pc := 1035) vL_126 rfl (hct) rfl rfl (gz_b (by decide)) (wl_at (i := 0) rfl) rfl (Nat.le_of_ble_eq_true rfl) ⟨(show fr1 + 1 ≤ 11 by omega), (show 8 + (2 + 11) + lc1 ≤ 422 by omega), (show nn ≤ 0 + 600000 by omega), (show kn ≤ 0 + 7302250 by omega)⟩ dL_law_1035 ?_
  refine go_aload_n (pc := 1038) dL_law_1038 rfl rfl ?_
  refine go_aload_n (pc := 1039) dL_law_1039 rfl rfl ?_
  refine go_iload_n (pc := 1040) dL_law_1040 rfl rfl ?_
  refine go_iconst (pc := 1041) (v := 1) dL_law_1041 (by decide) ?_
  refine go_iadd (pc := 1042) dL_law_1042 ?_
  refine go_top (y := 1) (by decide) ?_
  refine go_sld (pc := 1043) (by rw [hL]; exact gv_in (by decide)) dL_law_1043 ?_
  refine go_top (y := sc G 1) rfl ?_
  refine go_top (y := 1) h ?_
  obtain ⟨fr2, lc2, w2, q1, q2, hct2⟩ := cm_about_1 (l := l) (G := G) nn kn w1 g3 hf
  refine go_callV_i (pc := 1044) vL_129 rfl (hct2) rfl rfl (gz_b (by omega)) ((hf 32 (by decide) (by decide)).trans (wl_at (i := 32) rfl)) rfl (Nat.le_of_ble_eq_true rfl) ⟨(show fr2 + 1 ≤ 11 by omega), (show 8 + (2 + 11) + lc2 ≤ 422 by omega), (show nn ≤ 0 + 600000 by omega), (show kn ≤ 0 + 7302250 by omega)⟩ dL_law_1044 ?_
  refine go_icmp_eq_t (pc := 1047) (tgt := 1393) dL_law_1047 (by decide) rfl ?_
  exact law_next hL (by omega) (by omega)
theorem law_27_2 {l : Launch} {G : gG} (hL : G.2.2.2.2.2.2.1 = 6) (h : sc G 1 = 2) : Go l G mL_law lawB 1029 [(3, .int 0), (2, .ref (G.2.1 + 32)), (1, .ref (G.2.1 + 0)), (0, .ref G.2.2.2.2.2.1)] [] 42 90324 (wl G.2.1 (LF G)) := by
  refine go_aload_n (pc := 1029) dL_law_1029 rfl rfl ?_
  refine go_aload_n (pc := 1030) dL_law_1030 rfl rfl ?_
  refine go_iload_n (pc := 1031) dL_law_1031 rfl rfl ?_
  refine go_iconst (pc := 1032) (v := 1) dL_law_1032 (by decide) ?_
  refine go_iadd (pc := 1033) dL_law_1033 ?_
  refine go_top (y := 1) (by decide) ?_
  refine go_sld (pc := 1034) (by rw [hL]; exact gv_in (by decide)) dL_law_1034 ?_
  refine go_top (y := sc G 1) rfl ?_
  refine go_top (y := 2) h ?_
  obtain ⟨fr1, lc1, nn, kn, w1, g1, g2, g3, g4, g5, hf, hct⟩ := cx_about_2 (l := l) (G := G)
  refine go_callV_i (pc := 1035) vL_126 rfl (hct) rfl rfl (gz_b (by decide)) (wl_at (i := 0) rfl) rfl (Nat.le_of_ble_eq_true rfl) ⟨(show fr1 + 1 ≤ 11 by omega), (show 8 + (2 + 11) + lc1 ≤ 422 by omega), (show nn ≤ 0 + 600000 by omega), (show kn ≤ 0 + 7302250 by omega)⟩ dL_law_1035 ?_
  refine go_aload_n (pc := 1038) dL_law_1038 rfl rfl ?_
  refine go_aload_n (pc := 1039) dL_law_1039 rfl rfl ?_
  refine go_iload_n (pc := 1040) dL_law_1040 rfl rfl ?_
  refine go_iconst (pc := 1041) (v := 1) dL_law_1041 (by decide) ?_
  refine go_iadd (pc := 1042) dL_law_1042 ?_
  refine go_top (y := 1) (by decide) ?_
  refine go_sld (pc := 1043) (by rw [hL]; exact gv_in (by decide)) dL_law_1043 ?_
  refine go_top (y := sc G 1) rfl ?_
  refine go_top (y := 2) h ?_
  obtain ⟨fr2, lc2, w2, q1, q2, hct2⟩ := cm_about_2 (l := l) (G := G) nn kn w1 g3 hf
  refine go_callV_i (pc := 1044) vL_129 rfl (hct2) rfl rfl (gz_b (by omega)) ((hf 32 (by decide) (by decide)).trans (wl_at (i := 32) rfl)) rfl (Nat.le_of_ble_eq_true rfl) ⟨(show fr2 + 1 ≤ 11 by omega), (show 8 + (2 + 11) + lc2 ≤ 422 by omega), (show nn ≤ 0 + 600000 by omega), (show kn ≤ 0 + 7302250 by omega)⟩ dL_law_1044 ?_
  refine go_icmp_eq_t (pc := 1047) (tgt := 1393) dL_law_1047 (by decide) rfl ?_
  exact law_next hL (by omega) (by omega)
theorem law_27_3 {l : Launch} {G : gG} (hL : G.2.2.2.2.2.2.1 = 6) (h : sc G 1 = 3) : Go l G mL_law lawB 1029 [(3, .int 0), (2, .ref (G.2.1 + 32)), (1, .ref (G.2.1 + 0)), (0, .ref G.2.2.2.2.2.1)] [] 42 90324 (wl G.2.1 (LF G)) := by
  refine go_aload_n (pc := 1029) dL_law_1029 rfl rfl ?_
  refine go_aload_n (pc := 1030) dL_law_1030 rfl rfl ?_
  refine go_iload_n (pc := 1031) dL_law_1031 rfl rfl ?_
  refine go_iconst (pc := 1032) (v := 1) dL_law_1032 (by decide) ?_
  refine go_iadd (pc := 1033) dL_law_1033 ?_
  refine go_top (y := 1) (by decide) ?_
  refine go_sld (pc := 1034) (by rw [hL]; exact gv_in (by decide)) dL_law_1034 ?_
  refine go_top (y := sc G 1) rfl ?_
  refine go_top (y := 3) h ?_
  obtain ⟨fr1, lc1, nn, kn, w1, g1, g2, g3, g4, g5, hf, hct⟩ := cx_about_3 (l := l) (G := G)
  refine go_callV_i (pc := 1035) vL_126 rfl (hct) rfl rfl (gz_b (by decide)) (wl_at (i := 0) rfl) rfl (Nat.le_of_ble_eq_true rfl) ⟨(show fr1 + 1 ≤ 11 by omega), (show 8 + (2 + 11) + lc1 ≤ 422 by omega), (show nn ≤ 0 + 600000 by omega), (show kn ≤ 0 + 7302250 by omega)⟩ dL_law_1035 ?_
  refine go_aload_n (pc := 1038) dL_law_1038 rfl rfl ?_
  refine go_aload_n (pc := 1039) dL_law_1039 rfl rfl ?_
  refine go_iload_n (pc := 1040) dL_law_1040 rfl rfl ?_
  refine go_iconst (pc := 1041) (v := 1) dL_law_1041 (by decide) ?_
  refine go_iadd (pc := 1042) dL_law_1042 ?_
  refine go_top (y := 1) (by decide) ?_
  refine go_sld (pc := 1043) (by rw [hL]; exact gv_in (by decide)) dL_law_1043 ?_
  refine go_top (y := sc G 1) rfl ?_
  refine go_top (y := 3) h ?_
  obtain ⟨fr2, lc2, w2, q1, q2, hct2⟩ := cm_about_3 (l := l) (G := G) nn kn w1 g3 hf
  refine go_callV_i (pc := 1044) vL_129 rfl (hct2) rfl rfl (gz_b (by omega)) ((hf 32 (by decide) (by decide)).trans (wl_at (i := 32) rfl)) rfl (Nat.le_of_ble_eq_true rfl) ⟨(show fr2 + 1 ≤ 11 by omega), (show 8 + (2 + 11) + lc2 ≤ 422 by omega), (show nn ≤ 0 + 600000 by omega), (show kn ≤ 0 + 7302250 by omega)⟩ dL_law_1044 ?_
  refine go_icmp_eq_t (pc := 1047) (tgt := 1393) dL_law_1047 (by decide) rfl ?_
  exact law_next hL (by omega) (by omega)
theorem law_27_4 {l : Launch} {G : gG} (hL : G.2.2.2.2.2.2.1 = 6) (h : sc G 1 = 4) : Go l G mL_law lawB 1029 [(3, .int 0), (2, .ref (G.2.1 + 32)), (1, .ref (G.2.1 + 0)), (0, .ref G.2.2.2.2.2.1)] [] 42 90324 (wl G.2.1 (LF G)) := by
  refine go_aload_n (pc := 1029) dL_law_1029 rfl rfl ?_
  refine go_aload_n (pc := 1030) dL_law_1030 rfl rfl ?_
  refine go_iload_n (pc := 1031) dL_law_1031 rfl rfl ?_
  refine go_iconst (pc := 1032) (v := 1) dL_law_1032 (by decide) ?_
  refine go_iadd (pc := 1033) dL_law_1033 ?_
  refine go_top (y := 1) (by decide) ?_
  refine go_sld (pc := 1034) (by rw [hL]; exact gv_in (by decide)) dL_law_1034 ?_
  refine go_top (y := sc G 1) rfl ?_
  refine go_top (y := 4) h ?_
  obtain ⟨fr1, lc1, nn, kn, w1, g1, g2, g3, g4, g5, hf, hct⟩ := cx_about_4 (l := l) (G := G)
  refine go_callV_i (pc := 1035) vL_126 rfl (hct) rfl rfl (gz_b (by decide)) (wl_at (i := 0) rfl) rfl (Nat.le_of_ble_eq_true rfl) ⟨(show fr1 + 1 ≤ 11 by omega), (show 8 + (2 + 11) + lc1 ≤ 422 by omega), (show nn ≤ 0 + 600000 by omega), (show kn ≤ 0 + 7302250 by omega)⟩ dL_law_1035 ?_
  refine go_aload_n (pc := 1038) dL_law_1038 rfl rfl ?_
  refine go_aload_n (pc := 1039) dL_law_1039 rfl rfl ?_
  refine go_iload_n (pc := 1040) dL_law_1040 rfl rfl ?_
  refine go_iconst (pc := 1041) (v := 1) dL_law_1041 (by decide) ?_
  refine go_iadd (pc := 1042) dL_law_1042 ?_
  refine go_top (y := 1) (by decide) ?_
  refine go_sld (pc := 1043) (by rw [hL]; exact gv_in (by decide)) dL_law_1043 ?_
  refine go_top (y := sc G 1) rfl ?_
  refine go_top (y := 4) h ?_
  obtain ⟨fr2, lc2, w2, q1, q2, hct2⟩ := cm_about_4 (l := l) (G := G) nn kn w1 g3 hf
  refine go_callV_i (pc := 1044) vL_129 rfl (hct2) rfl rfl (gz_b (by omega)) ((hf 32 (by decide) (by decide)).trans (wl_at (i := 32) rfl)) rfl (Nat.le_of_ble_eq_true rfl) ⟨(show fr2 + 1 ≤ 11 by omega), (show 8 + (2 + 11) + lc2 ≤ 422 by omega), (show nn ≤ 0 + 600000 by omega), (show kn ≤ 0 + 7302250 by omega)⟩ dL_law_1044 ?_
  refine go_icmp_eq_t (pc := 1047) (tgt := 1393) dL_law_1047 (by decide) rfl ?_
  exact law_next hL (by omega) (by omega)
theorem law_27_5 {l : Launch} {G : gG} (hL : G.2.2.2.2.2.2.1 = 6) (h : sc G 1 = 5) : Go l G mL_law lawB 1029 [(3, .int 0), (2, .ref (G.2.1 + 32)), (1, .ref (G.2.1 + 0)), (0, .ref G.2.2.2.2.2.1)] [] 42 90324 (wl G.2.1 (LF G)) := by
  refine go_aload_n (pc := 1029) dL_law_1029 rfl rfl ?_
  refine go_aload_n (pc := 1030) dL_law_1030 rfl rfl ?_
  refine go_iload_n (pc := 1031) dL_law_1031 rfl rfl ?_
  refine go_iconst (pc := 1032) (v := 1) dL_law_1032 (by decide) ?_
  refine go_iadd (pc := 1033) dL_law_1033 ?_
  refine go_top (y := 1) (by decide) ?_
  refine go_sld (pc := 1034) (by rw [hL]; exact gv_in (by decide)) dL_law_1034 ?_
  refine go_top (y := sc G 1) rfl ?_
  refine go_top (y := 5) h ?_
  obtain ⟨fr1, lc1, nn, kn, w1, g1, g2, g3, g4, g5, hf, hct⟩ := cx_about_5 (l := l) (G := G)
  refine go_callV_i (pc := 1035) vL_126 rfl (hct) rfl rfl (gz_b (by decide)) (wl_at (i := 0) rfl) rfl (Nat.le_of_ble_eq_true rfl) ⟨(show fr1 + 1 ≤ 11 by omega), (show 8 + (2 + 11) + lc1 ≤ 422 by omega), (show nn ≤ 0 + 600000 by omega), (show kn ≤ 0 + 7302250 by omega)⟩ dL_law_1035 ?_
  refine go_aload_n (pc := 1038) dL_law_1038 rfl rfl ?_
  refine go_aload_n (pc := 1039) dL_law_1039 rfl rfl ?_
  refine go_iload_n (pc := 1040) dL_law_1040 rfl rfl ?_
  refine go_iconst (pc := 1041) (v := 1) dL_law_1041 (by decide) ?_
  refine go_iadd (pc := 1042) dL_law_1042 ?_
  refine go_top (y := 1) (by decide) ?_
  refine go_sld (pc := 1043) (by rw [hL]; exact gv_in (by decide)) dL_law_1043 ?_
  refine go_top (y := sc G 1) rfl ?_
  refine go_top (y := 5) h ?_
  obtain ⟨fr2, lc2, w2, q1, q2, hct2⟩ := cm_about_5 (l := l) (G := G) nn kn w1 g3 hf
  refine go_callV_i (pc := 1044) vL_129 rfl (hct2) rfl rfl (gz_b (by omega)) ((hf 32 (by decide) (by decide)).trans (wl_at (i := 32) rfl)) rfl (Nat.le_of_ble_eq_true rfl) ⟨(show fr2 + 1 ≤ 11 by omega), (show 8 + (2 + 11) + lc2 ≤ 422 by omega), (show nn ≤ 0 + 600000 by omega), (show kn ≤ 0 + 7302250 by omega)⟩ dL_law_1044 ?_
  refine go_icmp_eq_t (pc := 1047) (tgt := 1393) dL_law_1047 (by decide) rfl ?_
  exact law_next hL (by omega) (by omega)
theorem law_27_6 {l : Launch} {G : gG} (hL : G.2.2.2.2.2.2.1 = 6) (h : sc G 1 = 6) : Go l G mL_law lawB 1029 [(3, .int 0), (2, .ref (G.2.1 + 32)), (1, .ref (G.2.1 + 0)), (0, .ref G.2.2.2.2.2.1)] [] 42 90324 (wl G.2.1 (LF G)) := by
  refine go_aload_n (pc := 1029) dL_law_1029 rfl rfl ?_
  refine go_aload_n (pc := 1030) dL_law_1030 rfl rfl ?_
  refine go_iload_n (pc := 1031) dL_law_1031 rfl rfl ?_
  refine go_iconst (pc := 1032) (v := 1) dL_law_1032 (by decide) ?_
  refine go_iadd (pc := 1033) dL_law_1033 ?_
  refine go_top (y := 1) (by decide) ?_
  refine go_sld (pc := 1034) (by rw [hL]; exact gv_in (by decide)) dL_law_1034 ?_
  refine go_top (y := sc G 1) rfl ?_
  refine go_top (y := 6) h ?_
  obtain ⟨fr1, lc1, nn, kn, w1, g1, g2, g3, g4, g5, hf, hct⟩ := cx_about_6 (l := l) (G := G)
  refine go_callV_i (pc := 1035) vL_126 rfl (hct) rfl rfl (gz_b (by decide)) (wl_at (i := 0) rfl) rfl (Nat.le_of_ble_eq_true rfl) ⟨(show fr1 + 1 ≤ 11 by omega), (show 8 + (2 + 11) + lc1 ≤ 422 by omega), (show nn ≤ 0 + 600000 by omega), (show kn ≤ 0 + 7302250 by omega)⟩ dL_law_1035 ?_
  refine go_aload_n (pc := 1038) dL_law_1038 rfl rfl ?_
  refine go_aload_n (pc := 1039) dL_law_1039 rfl rfl ?_
  refine go_iload_n (pc := 1040) dL_law_1040 rfl rfl ?_
  refine go_iconst (pc := 1041) (v := 1) dL_law_1041 (by decide) ?_
  refine go_iadd (pc := 1042) dL_law_1042 ?_
  refine go_top (y := 1) (by decide) ?_
  refine go_sld (pc := 1043) (by rw [hL]; exact gv_in (by decide)) dL_law_1043 ?_
  refine go_top (y := sc G 1) rfl ?_
  refine go_top (y := 6) h ?_
  obtain ⟨fr2, lc2, w2, q1, q2, hct2⟩ := cm_about_6 (l := l) (G := G) nn kn w1 g3 hf
  refine go_callV_i (pc := 1044) vL_129 rfl (hct2) rfl rfl (gz_b (by omega)) ((hf 32 (by decide) (by decide)).trans (wl_at (i := 32) rfl)) rfl (Nat.le_of_ble_eq_true rfl) ⟨(show fr2 + 1 ≤ 11 by omega), (show 8 + (2 + 11) + lc2 ≤ 422 by omega), (show nn ≤ 0 + 600000 by omega), (show kn ≤ 0 + 7302250 by omega)⟩ dL_law_1044 ?_
  refine go_icmp_eq_t (pc := 1047) (tgt := 1393) dL_law_1047 (by decide) rfl ?_
  exact law_next hL (by omega) (by omega)
theorem law_27_7 {l : Launch} {G : gG} (hL : G.2.2.2.2.2.2.1 = 6) (h : sc G 1 = 7) : Go l G mL_law lawB 1029 [(3, .int 0), (2, .ref (G.2.1 + 32)), (1, .ref (G.2.1 + 0)), (0, .ref G.2.2.2.2.2.1)] [] 42 90324 (wl G.2.1 (LF G)) := by
  refine go_aload_n (pc := 1029) dL_law_1029 rfl rfl ?_
  refine go_aload_n (pc := 1030) dL_law_1030 rfl rfl ?_
  refine go_iload_n (pc := 1031) dL_law_1031 rfl rfl ?_
  refine go_iconst (pc := 1032) (v := 1) dL_law_1032 (by decide) ?_
  refine go_iadd (pc := 1033) dL_law_1033 ?_
  refine go_top (y := 1) (by decide) ?_
  refine go_sld (pc := 1034) (by rw [hL]; exact gv_in (by decide)) dL_law_1034 ?_
  refine go_top (y := sc G 1) rfl ?_
  refine go_top (y := 7) h ?_
  obtain ⟨fr1, lc1, nn, kn, w1, g1, g2, g3, g4, g5, hf, hct⟩ := cx_about_7 (l := l) (G := G)
  refine go_callV_i (pc := 1035) vL_126 rfl (hct) rfl rfl (gz_b (by decide)) (wl_at (i := 0) rfl) rfl (Nat.le_of_ble_eq_true rfl) ⟨(show fr1 + 1 ≤ 11 by omega), (show 8 + (2 + 11) + lc1 ≤ 422 by omega), (show nn ≤ 0 + 600000 by omega), (show kn ≤ 0 + 7302250 by omega)⟩ dL_law_1035 ?_
  refine go_aload_n (pc := 1038) dL_law_1038 rfl rfl ?_
  refine go_aload_n (pc := 1039) dL_law_1039 rfl rfl ?_
  refine go_iload_n (pc := 1040) dL_law_1040 rfl rfl ?_
  refine go_iconst (pc := 1041) (v := 1) dL_law_1041 (by decide) ?_
  refine go_iadd (pc := 1042) dL_law_1042 ?_
  refine go_top (y := 1) (by decide) ?_
  refine go_sld (pc := 1043) (by rw [hL]; exact gv_in (by decide)) dL_law_1043 ?_
  refine go_top (y := sc G 1) rfl ?_
  refine go_top (y := 7) h ?_
  obtain ⟨fr2, lc2, w2, q1, q2, hct2⟩ := cm_about_7 (l := l) (G := G) nn kn w1 g3 hf
  refine go_callV_i (pc := 1044) vL_129 rfl (hct2) rfl rfl (gz_b (by omega)) ((hf 32 (by decide) (by decide)).trans (wl_at (i := 32) rfl)) rfl (Nat.le_of_ble_eq_true rfl) ⟨(show fr2 + 1 ≤ 11 by omega), (show 8 + (2 + 11) + lc2 ≤ 422 by omega), (show nn ≤ 0 + 600000 by omega), (show kn ≤ 0 + 7302250 by omega)⟩ dL_law_1044 ?_
  refine go_icmp_eq_t (pc := 1047) (tgt := 1393) dL_law_1047 (by decide) rfl ?_
  exact law_next hL (by omega) (by omega)
theorem law_27_8 {l : Launch} {G : gG} (hL : G.2.2.2.2.2.2.1 = 6) (h : sc G 1 = 8) : Go l G mL_law lawB 1029 [(3, .int 0), (2, .ref (G.2.1 + 32)), (1, .ref (G.2.1 + 0)), (0, .ref G.2.2.2.2.2.1)] [] 42 90324 (wl G.2.1 (LF G)) := by
  refine go_aload_n (pc := 1029) dL_law_1029 rfl rfl ?_
  refine go_aload_n (pc := 1030) dL_law_1030 rfl rfl ?_
  refine go_iload_n (pc := 1031) dL_law_1031 rfl rfl ?_
  refine go_iconst (pc := 1032) (v := 1) dL_law_1032 (by decide) ?_
  refine go_iadd (pc := 1033) dL_law_1033 ?_
  refine go_top (y := 1) (by decide) ?_
  refine go_sld (pc := 1034) (by rw [hL]; exact gv_in (by decide)) dL_law_1034 ?_
  refine go_top (y := sc G 1) rfl ?_
  refine go_top (y := 8) h ?_
  obtain ⟨fr1, lc1, nn, kn, w1, g1, g2, g3, g4, g5, hf, hct⟩ := cx_about_8 (l := l) (G := G)
  refine go_callV_i (pc := 1035) vL_126 rfl (hct) rfl rfl (gz_b (by decide)) (wl_at (i := 0) rfl) rfl (Nat.le_of_ble_eq_true rfl) ⟨(show fr1 + 1 ≤ 11 by omega), (show 8 + (2 + 11) + lc1 ≤ 422 by omega), (show nn ≤ 0 + 600000 by omega), (show kn ≤ 0 + 7302250 by omega)⟩ dL_law_1035 ?_
  refine go_aload_n (pc := 1038) dL_law_1038 rfl rfl ?_
  refine go_aload_n (pc := 1039) dL_law_1039 rfl rfl ?_
  refine go_iload_n (pc := 1040) dL_law_1040 rfl rfl ?_
  refine go_iconst (pc := 1041) (v := 1) dL_law_1041 (by decide) ?_
  refine go_iadd (pc := 1042) dL_law_1042 ?_
  refine go_top (y := 1) (by decide) ?_
  refine go_sld (pc := 1043) (by rw [hL]; exact gv_in (by decide)) dL_law_1043 ?_
  refine go_top (y := sc G 1) rfl ?_
  refine go_top (y := 8) h ?_
  obtain ⟨fr2, lc2, w2, q1, q2, hct2⟩ := cm_about_8 (l := l) (G := G) nn kn w1 g3 hf
  refine go_callV_i (pc := 1044) vL_129 rfl (hct2) rfl rfl (gz_b (by omega)) ((hf 32 (by decide) (by decide)).trans (wl_at (i := 32) rfl)) rfl (Nat.le_of_ble_eq_true rfl) ⟨(show fr2 + 1 ≤ 11 by omega), (show 8 + (2 + 11) + lc2 ≤ 422 by omega), (show nn ≤ 0 + 600000 by omega), (show kn ≤ 0 + 7302250 by omega)⟩ dL_law_1044 ?_
  refine go_icmp_eq_t (pc := 1047) (tgt := 1393) dL_law_1047 (by decide) rfl ?_
  exact law_next hL (by omega) (by omega)
theorem law_27_9 {l : Launch} {G : gG} (hL : G.2.2.2.2.2.2.1 = 6) (h : sc G 1 = 9) : Go l G mL_law lawB 1029 [(3, .int 0), (2, .ref (G.2.1 + 32)), (1, .ref (G.2.1 + 0)), (0, .ref G.2.2.2.2.2.1)] [] 42 90324 (wl G.2.1 (LF G)) := by
  refine go_aload_n (pc := 1029) dL_law_1029 rfl rfl ?_
  refine go_aload_n (pc := 1030) dL_law_1030 rfl rfl ?_
  refine go_iload_n (pc := 1031) dL_law_1031 rfl rfl ?_
  refine go_iconst (pc := 1032) (v := 1) dL_law_1032 (by decide) ?_
  refine go_iadd (pc := 1033) dL_law_1033 ?_
  refine go_top (y := 1) (by decide) ?_
  refine go_sld (pc := 1034) (by rw [hL]; exact gv_in (by decide)) dL_law_1034 ?_
  refine go_top (y := sc G 1) rfl ?_
  refine go_top (y := 9) h ?_
  obtain ⟨fr1, lc1, nn, kn, w1, g1, g2, g3, g4, g5, hf, hct⟩ := cx_about_9 (l := l) (G := G)
  refine go_callV_i (pc := 1035) vL_126 rfl (hct) rfl rfl (gz_b (by decide)) (wl_at (i := 0) rfl) rfl (Nat.le_of_ble_eq_true rfl) ⟨(show fr1 + 1 ≤ 11 by omega), (show 8 + (2 + 11) + lc1 ≤ 422 by omega), (show nn ≤ 0 + 600000 by omega), (show kn ≤ 0 + 7302250 by omega)⟩ dL_law_1035 ?_
  refine go_aload_n (pc := 1038) dL_law_1038 rfl rfl ?_
  refine go_aload_n (pc := 1039) dL_law_1039 rfl rfl ?_
  refine go_iload_n (pc := 1040) dL_law_1040 rfl rfl ?_
  refine go_iconst (pc := 1041) (v := 1) dL_law_1041 (by decide) ?_
  refine go_iadd (pc := 1042) dL_law_1042 ?_
  refine go_top (y := 1) (by decide) ?_
  refine go_sld (pc := 1043) (by rw [hL]; exact gv_in (by decide)) dL_law_1043 ?_
  refine go_top (y := sc G 1) rfl ?_
  refine go_top (y := 9) h ?_
  obtain ⟨fr2, lc2, w2, q1, q2, hct2⟩ := cm_about_9 (l := l) (G := G) nn kn w1 g3 hf
  refine go_callV_i (pc := 1044) vL_129 rfl (hct2) rfl rfl (gz_b (by omega)) ((hf 32 (by decide) (by decide)).trans (wl_at (i := 32) rfl)) rfl (Nat.le_of_ble_eq_true rfl) ⟨(show fr2 + 1 ≤ 11 by omega), (show 8 + (2 + 11) + lc2 ≤ 422 by omega), (show nn ≤ 0 + 600000 by omega), (show kn ≤ 0 + 7302250 by omega)⟩ dL_law_1044 ?_
  refine go_icmp_eq_t (pc := 1047) (tgt := 1393) dL_law_1047 (by decide) rfl ?_
  exact law_next hL (by omega) (by omega)
theorem law_27_10 {l : Launch} {G : gG} (hL : G.2.2.2.2.2.2.1 = 6) (h : sc G 1 = 10) : Go l G mL_law lawB 1029 [(3, .int 0), (2, .ref (G.2.1 + 32)), (1, .ref (G.2.1 + 0)), (0, .ref G.2.2.2.2.2.1)] [] 42 90324 (wl G.2.1 (LF G)) := by
  refine go_aload_n (pc := 1029) dL_law_1029 rfl rfl ?_
  refine go_aload_n (pc := 1030) dL_law_1030 rfl rfl ?_
  refine go_iload_n (pc := 1031) dL_law_1031 rfl rfl ?_
  refine go_iconst (pc := 1032) (v := 1) dL_law_1032 (by decide) ?_
  refine go_iadd (pc := 1033) dL_law_1033 ?_
  refine go_top (y := 1) (by decide) ?_
  refine go_sld (pc := 1034) (by rw [hL]; exact gv_in (by decide)) dL_law_1034 ?_
  refine go_top (y := sc G 1) rfl ?_
  refine go_top (y := 10) h ?_
  obtain ⟨fr1, lc1, nn, kn, w1, g1, g2, g3, g4, g5, hf, hct⟩ := cx_about_10 (l := l) (G := G)
  refine go_callV_i (pc := 1035) vL_126 rfl (hct) rfl rfl (gz_b (by decide)) (wl_at (i := 0) rfl) rfl (Nat.le_of_ble_eq_true rfl) ⟨(show fr1 + 1 ≤ 11 by omega), (show 8 + (2 + 11) + lc1 ≤ 422 by omega), (show nn ≤ 0 + 600000 by omega), (show kn ≤ 0 + 7302250 by omega)⟩ dL_law_1035 ?_
  refine go_aload_n (pc := 1038) dL_law_1038 rfl rfl ?_
  refine go_aload_n (pc := 1039) dL_law_1039 rfl rfl ?_
  refine go_iload_n (pc := 1040) dL_law_1040 rfl rfl ?_
  refine go_iconst (pc := 1041) (v := 1) dL_law_1041 (by decide) ?_
  refine go_iadd (pc := 1042) dL_law_1042 ?_
  refine go_top (y := 1) (by decide) ?_
  refine go_sld (pc := 1043) (by rw [hL]; exact gv_in (by decide)) dL_law_1043 ?_
  refine go_top (y := sc G 1) rfl ?_
  refine go_top (y := 10) h ?_
  obtain ⟨fr2, lc2, w2, q1, q2, hct2⟩ := cm_about_10 (l := l) (G := G) nn kn w1 g3 hf
  refine go_callV_i (pc := 1044) vL_129 rfl (hct2) rfl rfl (gz_b (by omega)) ((hf 32 (by decide) (by decide)).trans (wl_at (i := 32) rfl)) rfl (Nat.le_of_ble_eq_true rfl) ⟨(show fr2 + 1 ≤ 11 by omega), (show 8 + (2 + 11) + lc2 ≤ 422 by omega), (show nn ≤ 0 + 600000 by omega), (show kn ≤ 0 + 7302250 by omega)⟩ dL_law_1044 ?_
  refine go_icmp_eq_t (pc := 1047) (tgt := 1393) dL_law_1047 (by decide) rfl ?_
  exact law_next hL (by omega) (by omega)
theorem law_27_11 {l : Launch} {G : gG} (hL : G.2.2.2.2.2.2.1 = 6) (h : sc G 1 = 11) : Go l G mL_law lawB 1029 [(3, .int 0), (2, .ref (G.2.1 + 32)), (1, .ref (G.2.1 + 0)), (0, .ref G.2.2.2.2.2.1)] [] 42 90324 (wl G.2.1 (LF G)) := by
  refine go_aload_n (pc := 1029) dL_law_1029 rfl rfl ?_
  refine go_aload_n (pc := 1030) dL_law_1030 rfl rfl ?_
  refine go_iload_n (pc := 1031) dL_law_1031 rfl rfl ?_
  refine go_iconst (pc := 1032) (v := 1) dL_law_1032 (by decide) ?_
  refine go_iadd (pc := 1033) dL_law_1033 ?_
  refine go_top (y := 1) (by decide) ?_
  refine go_sld (pc := 1034) (by rw [hL]; exact gv_in (by decide)) dL_law_1034 ?_
  refine go_top (y := sc G 1) rfl ?_
  refine go_top (y := 11) h ?_
  obtain ⟨fr1, lc1, nn, kn, w1, g1, g2, g3, g4, g5, hf, hct⟩ := cx_about_11 (l := l) (G := G)
  refine go_callV_i (pc := 1035) vL_126 rfl (hct) rfl rfl (gz_b (by decide)) (wl_at (i := 0) rfl) rfl (Nat.le_of_ble_eq_true rfl) ⟨(show fr1 + 1 ≤ 11 by omega), (show 8 + (2 + 11) + lc1 ≤ 422 by omega), (show nn ≤ 0 + 600000 by omega), (show kn ≤ 0 + 7302250 by omega)⟩ dL_law_1035 ?_
  refine go_aload_n (pc := 1038) dL_law_1038 rfl rfl ?_
  refine go_aload_n (pc := 1039) dL_law_1039 rfl rfl ?_
  refine go_iload_n (pc := 1040) dL_law_1040 rfl rfl ?_
  refine go_iconst (pc := 1041) (v := 1) dL_law_1041 (by decide) ?_
  refine go_iadd (pc := 1042) dL_law_1042 ?_
  refine go_top (y := 1) (by decide) ?_
  refine go_sld (pc := 1043) (by rw [hL]; exact gv_in (by decide)) dL_law_1043 ?_
  refine go_top (y := sc G 1) rfl ?_
  refine go_top (y := 11) h ?_
  obtain ⟨fr2, lc2, w2, q1, q2, hct2⟩ := cm_about_11 (l := l) (G := G) nn kn w1 g3 hf
  refine go_callV_i (pc := 1044) vL_129 rfl (hct2) rfl rfl (gz_b (by omega)) ((hf 32 (by decide) (by decide)).trans (wl_at (i := 32) rfl)) rfl (Nat.le_of_ble_eq_true rfl) ⟨(show fr2 + 1 ≤ 11 by omega), (show 8 + (2 + 11) + lc2 ≤ 422 by omega), (show nn ≤ 0 + 600000 by omega), (show kn ≤ 0 + 7302250 by omega)⟩ dL_law_1044 ?_
  refine go_icmp_eq_t (pc := 1047) (tgt := 1393) dL_law_1047 (by decide) rfl ?_
  exact law_next hL (by omega) (by omega)
theorem law_27_12 {l : Launch} {G : gG} (hL : G.2.2.2.2.2.2.1 = 6) (h : sc G 1 = 12) : Go l G mL_law lawB 1029 [(3, .int 0), (2, .ref (G.2.1 + 32)), (1, .ref (G.2.1 + 0)), (0, .ref G.2.2.2.2.2.1)] [] 42 90324 (wl G.2.1 (LF G)) := by
  refine go_aload_n (pc := 1029) dL_law_1029 rfl rfl ?_
  refine go_aload_n (pc := 1030) dL_law_1030 rfl rfl ?_
  refine go_iload_n (pc := 1031) dL_law_1031 rfl rfl ?_
  refine go_iconst (pc := 1032) (v := 1) dL_law_1032 (by decide) ?_
  refine go_iadd (pc := 1033) dL_law_1033 ?_
  refine go_top (y := 1) (by decide) ?_
  refine go_sld (pc := 1034) (by rw [hL]; exact gv_in (by decide)) dL_law_1034 ?_
  refine go_top (y := sc G 1) rfl ?_
  refine go_top (y := 12) h ?_
  obtain ⟨fr1, lc1, nn, kn, w1, g1, g2, g3, g4, g5, hf, hct⟩ := cx_about_12 (l := l) (G := G)
  refine go_callV_i (pc := 1035) vL_126 rfl (hct) rfl rfl (gz_b (by decide)) (wl_at (i := 0) rfl) rfl (Nat.le_of_ble_eq_true rfl) ⟨(show fr1 + 1 ≤ 11 by omega), (show 8 + (2 + 11) + lc1 ≤ 422 by omega), (show nn ≤ 0 + 600000 by omega), (show kn ≤ 0 + 7302250 by omega)⟩ dL_law_1035 ?_
  refine go_aload_n (pc := 1038) dL_law_1038 rfl rfl ?_
  refine go_aload_n (pc := 1039) dL_law_1039 rfl rfl ?_
  refine go_iload_n (pc := 1040) dL_law_1040 rfl rfl ?_
  refine go_iconst (pc := 1041) (v := 1) dL_law_1041 (by decide) ?_
  refine go_iadd (pc := 1042) dL_law_1042 ?_
  refine go_top (y := 1) (by decide) ?_
  refine go_sld (pc := 1043) (by rw [hL]; exact gv_in (by decide)) dL_law_1043 ?_
  refine go_top (y := sc G 1) rfl ?_
  refine go_top (y := 12) h ?_
  obtain ⟨fr2, lc2, w2, q1, q2, hct2⟩ := cm_about_12 (l := l) (G := G) nn kn w1 g3 hf
  refine go_callV_i (pc := 1044) vL_129 rfl (hct2) rfl rfl (gz_b (by omega)) ((hf 32 (by decide) (by decide)).trans (wl_at (i := 32) rfl)) rfl (Nat.le_of_ble_eq_true rfl) ⟨(show fr2 + 1 ≤ 11 by omega), (show 8 + (2 + 11) + lc2 ≤ 422 by omega), (show nn ≤ 0 + 600000 by omega), (show kn ≤ 0 + 7302250 by omega)⟩ dL_law_1044 ?_
  refine go_icmp_eq_t (pc := 1047) (tgt := 1393) dL_law_1047 (by decide) rfl ?_
  exact law_next hL (by omega) (by omega)
theorem law_27_13 {l : Launch} {G : gG} (hL : G.2.2.2.2.2.2.1 = 6) (h : sc G 1 = 13) : Go l G mL_law lawB 1029 [(3, .int 0), (2, .ref (G.2.1 + 32)), (1, .ref (G.2.1 + 0)), (0, .ref G.2.2.2.2.2.1)] [] 42 90324 (wl G.2.1 (LF G)) := by
  refine go_aload_n (pc := 1029) dL_law_1029 rfl rfl ?_
  refine go_aload_n (pc := 1030) dL_law_1030 rfl rfl ?_
  refine go_iload_n (pc := 1031) dL_law_1031 rfl rfl ?_
  refine go_iconst (pc := 1032) (v := 1) dL_law_1032 (by decide) ?_
  refine go_iadd (pc := 1033) dL_law_1033 ?_
  refine go_top (y := 1) (by decide) ?_
  refine go_sld (pc := 1034) (by rw [hL]; exact gv_in (by decide)) dL_law_1034 ?_
  refine go_top (y := sc G 1) rfl ?_
  refine go_top (y := 13) h ?_
  obtain ⟨fr1, lc1, nn, kn, w1, g1, g2, g3, g4, g5, hf, hct⟩ := cx_about_13 (l := l) (G := G)
  refine go_callV_i (pc := 1035) vL_126 rfl (hct) rfl rfl (gz_b (by decide)) (wl_at (i := 0) rfl) rfl (Nat.le_of_ble_eq_true rfl) ⟨(show fr1 + 1 ≤ 11 by omega), (show 8 + (2 + 11) + lc1 ≤ 422 by omega), (show nn ≤ 0 + 600000 by omega), (show kn ≤ 0 + 7302250 by omega)⟩ dL_law_1035 ?_
  refine go_aload_n (pc := 1038) dL_law_1038 rfl rfl ?_
  refine go_aload_n (pc := 1039) dL_law_1039 rfl rfl ?_
  refine go_iload_n (pc := 1040) dL_law_1040 rfl rfl ?_
  refine go_iconst (pc := 1041) (v := 1) dL_law_1041 (by decide) ?_
  refine go_iadd (pc := 1042) dL_law_1042 ?_
  refine go_top (y := 1) (by decide) ?_
  refine go_sld (pc := 1043) (by rw [hL]; exact gv_in (by decide)) dL_law_1043 ?_
  refine go_top (y := sc G 1) rfl ?_
  refine go_top (y := 13) h ?_
  obtain ⟨fr2, lc2, w2, q1, q2, hct2⟩ := cm_about_13 (l := l) (G := G) nn kn w1 g3 hf
  refine go_callV_i (pc := 1044) vL_129 rfl (hct2) rfl rfl (gz_b (by omega)) ((hf 32 (by decide) (by decide)).trans (wl_at (i := 32) rfl)) rfl (Nat.le_of_ble_eq_true rfl) ⟨(show fr2 + 1 ≤ 11 by omega), (show 8 + (2 + 11) + lc2 ≤ 422 by omega), (show nn ≤ 0 + 600000 by omega), (show kn ≤ 0 + 7302250 by omega)⟩ dL_law_1044 ?_
  refine go_icmp_eq_t (pc := 1047) (tgt := 1393) dL_law_1047 (by decide) rfl ?_
  exact law_next hL (by omega) (by omega)
theorem law_27_14 {l : Launch} {G : gG} (hL : G.2.2.2.2.2.2.1 = 6) (h : sc G 1 = 14) : Go l G mL_law lawB 1029 [(3, .int 0), (2, .ref (G.2.1 + 32)), (1, .ref (G.2.1 + 0)), (0, .ref G.2.2.2.2.2.1)] [] 42 90324 (wl G.2.1 (LF G)) := by
  refine go_aload_n (pc := 1029) dL_law_1029 rfl rfl ?_
  refine go_aload_n (pc := 1030) dL_law_1030 rfl rfl ?_
  refine go_iload_n (pc := 1031) dL_law_1031 rfl rfl ?_
  refine go_iconst (pc := 1032) (v := 1) dL_law_1032 (by decide) ?_
  refine go_iadd (pc := 1033) dL_law_1033 ?_
  refine go_top (y := 1) (by decide) ?_
  refine go_sld (pc := 1034) (by rw [hL]; exact gv_in (by decide)) dL_law_1034 ?_
  refine go_top (y := sc G 1) rfl ?_
  refine go_top (y := 14) h ?_
  obtain ⟨fr1, lc1, nn, kn, w1, g1, g2, g3, g4, g5, hf, hct⟩ := cx_about_14 (l := l) (G := G)
  refine go_callV_i (pc := 1035) vL_126 rfl (hct) rfl rfl (gz_b (by decide)) (wl_at (i := 0) rfl) rfl (Nat.le_of_ble_eq_true rfl) ⟨(show fr1 + 1 ≤ 11 by omega), (show 8 + (2 + 11) + lc1 ≤ 422 by omega), (show nn ≤ 0 + 600000 by omega), (show kn ≤ 0 + 7302250 by omega)⟩ dL_law_1035 ?_
  refine go_aload_n (pc := 1038) dL_law_1038 rfl rfl ?_
  refine go_aload_n (pc := 1039) dL_law_1039 rfl rfl ?_
  refine go_iload_n (pc := 1040) dL_law_1040 rfl rfl ?_
  refine go_iconst (pc := 1041) (v := 1) dL_law_1041 (by decide) ?_
  refine go_iadd (pc := 1042) dL_law_1042 ?_
  refine go_top (y := 1) (by decide) ?_
  refine go_sld (pc := 1043) (by rw [hL]; exact gv_in (by decide)) dL_law_1043 ?_
  refine go_top (y := sc G 1) rfl ?_
  refine go_top (y := 14) h ?_
  obtain ⟨fr2, lc2, w2, q1, q2, hct2⟩ := cm_about_14 (l := l) (G := G) nn kn w1 g3 hf
  refine go_callV_i (pc := 1044) vL_129 rfl (hct2) rfl rfl (gz_b (by omega)) ((hf 32 (by decide) (by decide)).trans (wl_at (i := 32) rfl)) rfl (Nat.le_of_ble_eq_true rfl) ⟨(show fr2 + 1 ≤ 11 by omega), (show 8 + (2 + 11) + lc2 ≤ 422 by omega), (show nn ≤ 0 + 600000 by omega), (show kn ≤ 0 + 7302250 by omega)⟩ dL_law_1044 ?_
  refine go_icmp_eq_t (pc := 1047) (tgt := 1393) dL_law_1047 (by decide) rfl ?_
  exact law_next hL (by omega) (by omega)
theorem law_27_15 {l : Launch} {G : gG} (hL : G.2.2.2.2.2.2.1 = 6) (h : sc G 1 = 15) : Go l G mL_law lawB 1029 [(3, .int 0), (2, .ref (G.2.1 + 32)), (1, .ref (G.2.1 + 0)), (0, .ref G.2.2.2.2.2.1)] [] 42 90324 (wl G.2.1 (LF G)) := by
  refine go_aload_n (pc := 1029) dL_law_1029 rfl rfl ?_
  refine go_aload_n (pc := 1030) dL_law_1030 rfl rfl ?_
  refine go_iload_n (pc := 1031) dL_law_1031 rfl rfl ?_
  refine go_iconst (pc := 1032) (v := 1) dL_law_1032 (by decide) ?_
  refine go_iadd (pc := 1033) dL_law_1033 ?_
  refine go_top (y := 1) (by decide) ?_
  refine go_sld (pc := 1034) (by rw [hL]; exact gv_in (by decide)) dL_law_1034 ?_
  refine go_top (y := sc G 1) rfl ?_
  refine go_top (y := 15) h ?_
  obtain ⟨fr1, lc1, nn, kn, w1, g1, g2, g3, g4, g5, hf, hct⟩ := cx_about_15 (l := l) (G := G)
  refine go_callV_i (pc := 1035) vL_126 rfl (hct) rfl rfl (gz_b (by decide)) (wl_at (i := 0) rfl) rfl (Nat.le_of_ble_eq_true rfl) ⟨(show fr1 + 1 ≤ 11 by omega), (show 8 + (2 + 11) + lc1 ≤ 422 by omega), (show nn ≤ 0 + 600000 by omega), (show kn ≤ 0 + 7302250 by omega)⟩ dL_law_1035 ?_
  refine go_aload_n (pc := 1038) dL_law_1038 rfl rfl ?_
  refine go_aload_n (pc := 1039) dL_law_1039 rfl rfl ?_
  refine go_iload_n (pc := 1040) dL_law_1040 rfl rfl ?_
  refine go_iconst (pc := 1041) (v := 1) dL_law_1041 (by decide) ?_
  refine go_iadd (pc := 1042) dL_law_1042 ?_
  refine go_top (y := 1) (by decide) ?_
  refine go_sld (pc := 1043) (by rw [hL]; exact gv_in (by decide)) dL_law_1043 ?_
  refine go_top (y := sc G 1) rfl ?_
  refine go_top (y := 15) h ?_
  obtain ⟨fr2, lc2, w2, q1, q2, hct2⟩ := cm_about_15 (l := l) (G := G) nn kn w1 g3 hf
  refine go_callV_i (pc := 1044) vL_129 rfl (hct2) rfl rfl (gz_b (by omega)) ((hf 32 (by decide) (by decide)).trans (wl_at (i := 32) rfl)) rfl (Nat.le_of_ble_eq_true rfl) ⟨(show fr2 + 1 ≤ 11 by omega), (show 8 + (2 + 11) + lc2 ≤ 422 by omega), (show nn ≤ 0 + 600000 by omega), (show kn ≤ 0 + 7302250 by omega)⟩ dL_law_1044 ?_
  refine go_icmp_eq_t (pc := 1047) (tgt := 1393) dL_law_1047 (by decide) rfl ?_
  exact law_next hL (by omega) (by omega)
theorem law_27_lo {l : Launch} {G : gG} (hL : G.2.2.2.2.2.2.1 = 6) (k0 : sc G 1 < 0) : Go l G mL_law lawB 1029 [(3, .int 0), (2, .ref (G.2.1 + 32)), (1, .ref (G.2.1 + 0)), (0, .ref G.2.2.2.2.2.1)] [] 42 90324 (wl G.2.1 (LF G)) := by
  refine go_aload_n (pc := 1029) dL_law_1029 rfl rfl ?_
  refine go_aload_n (pc := 1030) dL_law_1030 rfl rfl ?_
  refine go_iload_n (pc := 1031) dL_law_1031 rfl rfl ?_
  refine go_iconst (pc := 1032) (v := 1) dL_law_1032 (by decide) ?_
  refine go_iadd (pc := 1033) dL_law_1033 ?_
  refine go_top (y := 1) (by decide) ?_
  refine go_sld (pc := 1034) (by rw [hL]; exact gv_in (by decide)) dL_law_1034 ?_
  refine go_top (y := sc G 1) rfl ?_
  obtain ⟨fr1, lc1, nn, kn, w1, g1, g2, g3, g4, g5, hf, hct⟩ := cx_about_lo (l := l) (G := G) (sc G 1) k0
  refine go_callV_i (pc := 1035) vL_126 rfl (hct) rfl rfl (gz_b (by decide)) (wl_at (i := 0) rfl) rfl (Nat.le_of_ble_eq_true rfl) ⟨(show fr1 + 1 ≤ 11 by omega), (show 8 + (2 + 11) + lc1 ≤ 422 by omega), (show nn ≤ 0 + 600000 by omega), (show kn ≤ 0 + 7302250 by omega)⟩ dL_law_1035 ?_
  refine go_aload_n (pc := 1038) dL_law_1038 rfl rfl ?_
  refine go_aload_n (pc := 1039) dL_law_1039 rfl rfl ?_
  refine go_iload_n (pc := 1040) dL_law_1040 rfl rfl ?_
  refine go_iconst (pc := 1041) (v := 1) dL_law_1041 (by decide) ?_
  refine go_iadd (pc := 1042) dL_law_1042 ?_
  refine go_top (y := 1) (by decide) ?_
  refine go_sld (pc := 1043) (by rw [hL]; exact gv_in (by decide)) dL_law_1043 ?_
  refine go_top (y := sc G 1) rfl ?_
  obtain ⟨fr2, lc2, w2, q1, q2, hct2⟩ := cm_about_lo (l := l) (G := G) (sc G 1) k0 nn kn w1 g3 hf
  refine go_callV_i (pc := 1044) vL_129 rfl (hct2) rfl rfl (gz_b (by omega)) ((hf 32 (by decide) (by decide)).trans (wl_at (i := 32) rfl)) rfl (Nat.le_of_ble_eq_true rfl) ⟨(show fr2 + 1 ≤ 11 by omega), (show 8 + (2 + 11) + lc2 ≤ 422 by omega), (show nn ≤ 0 + 600000 by omega), (show kn ≤ 0 + 7302250 by omega)⟩ dL_law_1044 ?_
  refine go_icmp_eq_t (pc := 1047) (tgt := 1393) dL_law_1047 (by decide) rfl ?_
  exact law_next hL (by omega) (by omega)
theorem law_27_hi {l : Launch} {G : gG} (hL : G.2.2.2.2.2.2.1 = 6) (k0 : 15 < sc G 1) : Go l G mL_law lawB 1029 [(3, .int 0), (2, .ref (G.2.1 + 32)), (1, .ref (G.2.1 + 0)), (0, .ref G.2.2.2.2.2.1)] [] 42 90324 (wl G.2.1 (LF G)) := by
  refine go_aload_n (pc := 1029) dL_law_1029 rfl rfl ?_
  refine go_aload_n (pc := 1030) dL_law_1030 rfl rfl ?_
  refine go_iload_n (pc := 1031) dL_law_1031 rfl rfl ?_
  refine go_iconst (pc := 1032) (v := 1) dL_law_1032 (by decide) ?_
  refine go_iadd (pc := 1033) dL_law_1033 ?_
  refine go_top (y := 1) (by decide) ?_
  refine go_sld (pc := 1034) (by rw [hL]; exact gv_in (by decide)) dL_law_1034 ?_
  refine go_top (y := sc G 1) rfl ?_
  obtain ⟨fr1, lc1, nn, kn, w1, g1, g2, g3, g4, g5, hf, hct⟩ := cx_about_hi (l := l) (G := G) (sc G 1) k0
  refine go_callV_i (pc := 1035) vL_126 rfl (hct) rfl rfl (gz_b (by decide)) (wl_at (i := 0) rfl) rfl (Nat.le_of_ble_eq_true rfl) ⟨(show fr1 + 1 ≤ 11 by omega), (show 8 + (2 + 11) + lc1 ≤ 422 by omega), (show nn ≤ 0 + 600000 by omega), (show kn ≤ 0 + 7302250 by omega)⟩ dL_law_1035 ?_
  refine go_aload_n (pc := 1038) dL_law_1038 rfl rfl ?_
  refine go_aload_n (pc := 1039) dL_law_1039 rfl rfl ?_
  refine go_iload_n (pc := 1040) dL_law_1040 rfl rfl ?_
  refine go_iconst (pc := 1041) (v := 1) dL_law_1041 (by decide) ?_
  refine go_iadd (pc := 1042) dL_law_1042 ?_
  refine go_top (y := 1) (by decide) ?_
  refine go_sld (pc := 1043) (by rw [hL]; exact gv_in (by decide)) dL_law_1043 ?_
  refine go_top (y := sc G 1) rfl ?_
  obtain ⟨fr2, lc2, w2, q1, q2, hct2⟩ := cm_about_hi (l := l) (G := G) (sc G 1) k0 nn kn w1 g3 hf
  refine go_callV_i (pc := 1044) vL_129 rfl (hct2) rfl rfl (gz_b (by omega)) ((hf 32 (by decide) (by decide)).trans (wl_at (i := 32) rfl)) rfl (Nat.le_of_ble_eq_true rfl) ⟨(show fr2 + 1 ≤ 11 by omega), (show 8 + (2 + 11) + lc2 ≤ 422 by omega), (show nn ≤ 0 + 600000 by omega), (show kn ≤ 0 + 7302250 by omega)⟩ dL_law_1044 ?_
  refine go_icmp_eq_t (pc := 1047) (tgt := 1393) dL_law_1047 (by decide) rfl ?_
  exact law_next hL (by omega) (by omega)
theorem law_27 {l : Launch} {G : gG} (hL : G.2.2.2.2.2.2.1 = 6) : Go l G mL_law lawB 1029 [(3, .int 0), (2, .ref (G.2.1 + 32)), (1, .ref (G.2.1 + 0)), (0, .ref G.2.2.2.2.2.1)] [] 42 90324 (wl G.2.1 (LF G)) := by
  by_cases k0 : sc G 1 < 0
  · exact law_27_lo hL k0
  by_cases k1 : 15 < sc G 1
  · exact law_27_hi hL k1
  obtain ⟨q, hq, e⟩ := nI_of2 (M := 15) (n := 15) (by decide) k0 (Int32.not_lt.mp k1)
  match q, hq, e with
  | 0, _, e => exact law_27_0 hL e
  | 1, _, e => exact law_27_1 hL e
  | 2, _, e => exact law_27_2 hL e
  | 3, _, e => exact law_27_3 hL e
  | 4, _, e => exact law_27_4 hL e
  | 5, _, e => exact law_27_5 hL e
  | 6, _, e => exact law_27_6 hL e
  | 7, _, e => exact law_27_7 hL e
  | 8, _, e => exact law_27_8 hL e
  | 9, _, e => exact law_27_9 hL e
  | 10, _, e => exact law_27_10 hL e
  | 11, _, e => exact law_27_11 hL e
  | 12, _, e => exact law_27_12 hL e
  | 13, _, e => exact law_27_13 hL e
  | 14, _, e => exact law_27_14 hL e
  | 15, _, e => exact law_27_15 hL e
  | q + 16, h, _ => exact absurd h (by omega)
theorem law_35_0 {l : Launch} {G : gG} (hL : G.2.2.2.2.2.2.1 = 6) (h : sc G 1 = 0) : Go l G mL_law lawB 1183 [(3, .int 0), (2, .ref (G.2.1 + 32)), (1, .ref (G.2.1 + 0)), (0, .ref G.2.2.2.2.2.1)] [] 42 90324 (wl G.2.1 (LF G)) := by
  refine go_aload_n (pc := 1183) dL_law_1183 rfl rfl ?_
  refine go_aload_n (pc := 1184) dL_law_1184 rfl rfl ?_
  refine go_iload_n (pc := 1185) dL_law_1185 rfl rfl ?_
  refine go_iconst (pc := 1186) (v := 1) dL_law_1186 (by decide) ?_
  refine go_iadd (pc := 1187) dL_law_1187 ?_
  refine go_top (y := 1) (by decide) ?_
  refine go_sld (pc := 1188) (by rw [hL]; exact gv_in (by decide)) dL_law_1188 ?_
  refine go_top (y := sc G 1) rfl ?_
  refine go_top (y := 0) h ?_
  refine go_aload_n (pc := 1189) dL_law_1189 rfl rfl ?_
  refine go_iload_n (pc := 1190) dL_law_1190 rfl rfl ?_
  refine go_iconst (pc := 1191) (v := 2) dL_law_1191 (by decide) ?_
  refine go_iadd (pc := 1192) dL_law_1192 ?_
  refine go_top (y := 2) (by decide) ?_
  refine go_sld (pc := 1193) (by rw [hL]; exact gv_in (by decide)) dL_law_1193 ?_
  refine go_top (y := sc G 2) rfl ?_
  refine go_aload_n (pc := 1194) dL_law_1194 rfl rfl ?_
  refine go_iload_n (pc := 1195) dL_law_1195 rfl rfl ?_
  refine go_iconst (pc := 1196) (v := 3) dL_law_1196 (by decide) ?_
  refine go_iadd (pc := 1197) dL_law_1197 ?_
  refine go_top (y := 3) (by decide) ?_
  refine go_sld (pc := 1198) (by rw [hL]; exact gv_in (by decide)) dL_law_1198 ?_
  refine go_top (y := sc G 3) rfl ?_
  refine go_aload_n (pc := 1199) dL_law_1199 rfl rfl ?_
  refine go_iload_n (pc := 1200) dL_law_1200 rfl rfl ?_
  refine go_iconst (pc := 1201) (v := 4) dL_law_1201 (by decide) ?_
  refine go_iadd (pc := 1202) dL_law_1202 ?_
  refine go_top (y := 4) (by decide) ?_
  refine go_sld (pc := 1203) (by rw [hL]; exact gv_in (by decide)) dL_law_1203 ?_
  refine go_top (y := sc G 4) rfl ?_
  refine go_aload_n (pc := 1204) dL_law_1204 rfl rfl ?_
  refine go_iload_n (pc := 1205) dL_law_1205 rfl rfl ?_
  refine go_iconst (pc := 1206) (v := 5) dL_law_1206 (by decide) ?_
  refine go_iadd (pc := 1207) dL_law_1207 ?_
  refine go_top (y := 5) (by decide) ?_
  refine go_sld (pc := 1208) (by rw [hL]; exact gv_in (by decide)) dL_law_1208 ?_
  refine go_top (y := sc G 5) rfl ?_
  obtain ⟨fr1, lc1, nn, kn, w1, g1, g2, g3, g4, g5, hf, hct⟩ := cx_act_0 (l := l) (G := G) (sc G 2) (sc G 3) (sc G 4) (sc G 5)
  refine go_callV_i (pc := 1209) vL_158 rfl (hct) rfl rfl (gz_b (by decide)) (wl_at (i := 0) rfl) rfl (Nat.le_of_ble_eq_true rfl) ⟨(show fr1 + 1 ≤ 11 by omega), (show 8 + (6 + 11) + lc1 ≤ 422 by omega), (show nn ≤ 0 + 600000 by omega), (show kn ≤ 0 + 7302250 by omega)⟩ dL_law_1209 ?_
  refine go_aload_n (pc := 1212) dL_law_1212 rfl rfl ?_
  refine go_aload_n (pc := 1213) dL_law_1213 rfl rfl ?_
  refine go_iload_n (pc := 1214) dL_law_1214 rfl rfl ?_
  refine go_iconst (pc := 1215) (v := 1) dL_law_1215 (by decide) ?_
  refine go_iadd (pc := 1216) dL_law_1216 ?_
  refine go_top (y := 1) (by decide) ?_
  refine go_sld (pc := 1217) (by rw [hL]; exact gv_in (by decide)) dL_law_1217 ?_
  refine go_top (y := sc G 1) rfl ?_
  refine go_top (y := 0) h ?_
  refine go_aload_n (pc := 1218) dL_law_1218 rfl rfl ?_
  refine go_iload_n (pc := 1219) dL_law_1219 rfl rfl ?_
  refine go_iconst (pc := 1220) (v := 2) dL_law_1220 (by decide) ?_
  refine go_iadd (pc := 1221) dL_law_1221 ?_
  refine go_top (y := 2) (by decide) ?_
  refine go_sld (pc := 1222) (by rw [hL]; exact gv_in (by decide)) dL_law_1222 ?_
  refine go_top (y := sc G 2) rfl ?_
  refine go_aload_n (pc := 1223) dL_law_1223 rfl rfl ?_
  refine go_iload_n (pc := 1224) dL_law_1224 rfl rfl ?_
  refine go_iconst (pc := 1225) (v := 3) dL_law_1225 (by decide) ?_
  refine go_iadd (pc := 1226) dL_law_1226 ?_
  refine go_top (y := 3) (by decide) ?_
  refine go_sld (pc := 1227) (by rw [hL]; exact gv_in (by decide)) dL_law_1227 ?_
  refine go_top (y := sc G 3) rfl ?_
  refine go_aload_n (pc := 1228) dL_law_1228 rfl rfl ?_
  refine go_iload_n (pc := 1229) dL_law_1229 rfl rfl ?_
  refine go_iconst (pc := 1230) (v := 4) dL_law_1230 (by decide) ?_
  refine go_iadd (pc := 1231) dL_law_1231 ?_
  refine go_top (y := 4) (by decide) ?_
  refine go_sld (pc := 1232) (by rw [hL]; exact gv_in (by decide)) dL_law_1232 ?_
  refine go_top (y := sc G 4) rfl ?_
  refine go_aload_n (pc := 1233) dL_law_1233 rfl rfl ?_
  refine go_iload_n (pc := 1234) dL_law_1234 rfl rfl ?_
  refine go_iconst (pc := 1235) (v := 5) dL_law_1235 (by decide) ?_
  refine go_iadd (pc := 1236) dL_law_1236 ?_
  refine go_top (y := 5) (by decide) ?_
  refine go_sld (pc := 1237) (by rw [hL]; exact gv_in (by decide)) dL_law_1237 ?_
  refine go_top (y := sc G 5) rfl ?_
  obtain ⟨fr2, lc2, w2, q1, q2, hct2⟩ := cm_act_0 (l := l) (G := G) (sc G 2) (sc G 3) (sc G 4) (sc G 5) nn kn w1 g3 hf
  refine go_callV_i (pc := 1238) vL_161 rfl (hct2) rfl rfl (gz_b (by omega)) ((hf 32 (by decide) (by decide)).trans (wl_at (i := 32) rfl)) rfl (Nat.le_of_ble_eq_true rfl) ⟨(show fr2 + 1 ≤ 11 by omega), (show 8 + (7 + 11) + lc2 ≤ 422 by omega), (show nn ≤ 0 + 600000 by omega), (show kn ≤ 0 + 7302250 by omega)⟩ dL_law_1238 ?_
  refine go_icmp_eq_t (pc := 1241) (tgt := 1393) dL_law_1241 (by decide) (eq_act_0 (sc G 2) (sc G 3) (sc G 4)) ?_
  exact law_next hL (by omega) (by omega)
theorem law_35_1 {l : Launch} {G : gG} (hL : G.2.2.2.2.2.2.1 = 6) (h : sc G 1 = 1) : Go l G mL_law lawB 1183 [(3, .int 0), (2, .ref (G.2.1 + 32)), (1, .ref (G.2.1 + 0)), (0, .ref G.2.2.2.2.2.1)] [] 42 90324 (wl G.2.1 (LF G)) := by
  refine go_aload_n (pc := 1183) dL_law_1183 rfl rfl ?_
  refine go_aload_n (pc := 1184) dL_law_1184 rfl rfl ?_
  refine go_iload_n (pc := 1185) dL_law_1185 rfl rfl ?_
  refine go_iconst (pc := 1186) (v := 1) dL_law_1186 (by decide) ?_
  refine go_iadd (pc := 1187) dL_law_1187 ?_
  refine go_top (y := 1) (by decide) ?_
  refine go_sld (pc := 1188) (by rw [hL]; exact gv_in (by decide)) dL_law_1188 ?_
  refine go_top (y := sc G 1) rfl ?_
  refine go_top (y := 1) h ?_
  refine go_aload_n (pc := 1189) dL_law_1189 rfl rfl ?_
  refine go_iload_n (pc := 1190) dL_law_1190 rfl rfl ?_
  refine go_iconst (pc := 1191) (v := 2) dL_law_1191 (by decide) ?_
  refine go_iadd (pc := 1192) dL_law_1192 ?_
  refine go_top (y := 2) (by decide) ?_
  refine go_sld (pc := 1193) (by rw [hL]; exact gv_in (by decide)) dL_law_1193 ?_
  refine go_top (y := sc G 2) rfl ?_
  refine go_aload_n (pc := 1194) dL_law_1194 rfl rfl ?_
  refine go_iload_n (pc := 1195) dL_law_1195 rfl rfl ?_
  refine go_iconst (pc := 1196) (v := 3) dL_law_1196 (by decide) ?_
  refine go_iadd (pc := 1197) dL_law_1197 ?_
  refine go_top (y := 3) (by decide) ?_
  refine go_sld (pc := 1198) (by rw [hL]; exact gv_in (by decide)) dL_law_1198 ?_
  refine go_top (y := sc G 3) rfl ?_
  refine go_aload_n (pc := 1199) dL_law_1199 rfl rfl ?_
  refine go_iload_n (pc := 1200) dL_law_1200 rfl rfl ?_
  refine go_iconst (pc := 1201) (v := 4) dL_law_1201 (by decide) ?_
  refine go_iadd (pc := 1202) dL_law_1202 ?_
  refine go_top (y := 4) (by decide) ?_
  refine go_sld (pc := 1203) (by rw [hL]; exact gv_in (by decide)) dL_law_1203 ?_
  refine go_top (y := sc G 4) rfl ?_
  refine go_aload_n (pc := 1204) dL_law_1204 rfl rfl ?_
  refine go_iload_n (pc := 1205) dL_law_1205 rfl rfl ?_
  refine go_iconst (pc := 1206) (v := 5) dL_law_1206 (by decide) ?_
  refine go_iadd (pc := 1207) dL_law_1207 ?_
  refine go_top (y := 5) (by decide) ?_
  refine go_sld (pc := 1208) (by rw [hL]; exact gv_in (by decide)) dL_law_1208 ?_
  refine go_top (y := sc G 5) rfl ?_
  obtain ⟨fr1, lc1, nn, kn, w1, g1, g2, g3, g4, g5, hf, hct⟩ := cx_act_1 (l := l) (G := G) (sc G 2) (sc G 3) (sc G 4) (sc G 5)
  refine go_callV_i (pc := 1209) vL_158 rfl (hct) rfl rfl (gz_b (by decide)) (wl_at (i := 0) rfl) rfl (Nat.le_of_ble_eq_true rfl) ⟨(show fr1 + 1 ≤ 11 by omega), (show 8 + (6 + 11) + lc1 ≤ 422 by omega), (show nn ≤ 0 + 600000 by omega), (show kn ≤ 0 + 7302250 by omega)⟩ dL_law_1209 ?_
  refine go_aload_n (pc := 1212) dL_law_1212 rfl rfl ?_
  refine go_aload_n (pc := 1213) dL_law_1213 rfl rfl ?_
  refine go_iload_n (pc := 1214) dL_law_1214 rfl rfl ?_
  refine go_iconst (pc := 1215) (v := 1) dL_law_1215 (by decide) ?_
  refine go_iadd (pc := 1216) dL_law_1216 ?_
  refine go_top (y := 1) (by decide) ?_
  refine go_sld (pc := 1217) (by rw [hL]; exact gv_in (by decide)) dL_law_1217 ?_
  refine go_top (y := sc G 1) rfl ?_
  refine go_top (y := 1) h ?_
  refine go_aload_n (pc := 1218) dL_law_1218 rfl rfl ?_
  refine go_iload_n (pc := 1219) dL_law_1219 rfl rfl ?_
  refine go_iconst (pc := 1220) (v := 2) dL_law_1220 (by decide) ?_
  refine go_iadd (pc := 1221) dL_law_1221 ?_
  refine go_top (y := 2) (by decide) ?_
  refine go_sld (pc := 1222) (by rw [hL]; exact gv_in (by decide)) dL_law_1222 ?_
  refine go_top (y := sc G 2) rfl ?_
  refine go_aload_n (pc := 1223) dL_law_1223 rfl rfl ?_
  refine go_iload_n (pc := 1224) dL_law_1224 rfl rfl ?_
  refine go_iconst (pc := 1225) (v := 3) dL_law_1225 (by decide) ?_
  refine go_iadd (pc := 1226) dL_law_1226 ?_
  refine go_top (y := 3) (by decide) ?_
  refine go_sld (pc := 1227) (by rw [hL]; exact gv_in (by decide)) dL_law_1227 ?_
  refine go_top (y := sc G 3) rfl ?_
  refine go_aload_n (pc := 1228) dL_law_1228 rfl rfl ?_
  refine go_iload_n (pc := 1229) dL_law_1229 rfl rfl ?_
  refine go_iconst (pc := 1230) (v := 4) dL_law_1230 (by decide) ?_
  refine go_iadd (pc := 1231) dL_law_1231 ?_
  refine go_top (y := 4) (by decide) ?_
  refine go_sld (pc := 1232) (by rw [hL]; exact gv_in (by decide)) dL_law_1232 ?_
  refine go_top (y := sc G 4) rfl ?_
  refine go_aload_n (pc := 1233) dL_law_1233 rfl rfl ?_
  refine go_iload_n (pc := 1234) dL_law_1234 rfl rfl ?_
  refine go_iconst (pc := 1235) (v := 5) dL_law_1235 (by decide) ?_
  refine go_iadd (pc := 1236) dL_law_1236 ?_
  refine go_top (y := 5) (by decide) ?_
  refine go_sld (pc := 1237) (by rw [hL]; exact gv_in (by decide)) dL_law_1237 ?_
  refine go_top (y := sc G 5) rfl ?_
  obtain ⟨fr2, lc2, w2, q1, q2, hct2⟩ := cm_act_1 (l := l) (G := G) (sc G 2) (sc G 3) (sc G 4) (sc G 5) nn kn w1 g3 hf
  refine go_callV_i (pc := 1238) vL_161 rfl (hct2) rfl rfl (gz_b (by omega)) ((hf 32 (by decide) (by decide)).trans (wl_at (i := 32) rfl)) rfl (Nat.le_of_ble_eq_true rfl) ⟨(show fr2 + 1 ≤ 11 by omega), (show 8 + (7 + 11) + lc2 ≤ 422 by omega), (show nn ≤ 0 + 600000 by omega), (show kn ≤ 0 + 7302250 by omega)⟩ dL_law_1238 ?_
  refine go_icmp_eq_t (pc := 1241) (tgt := 1393) dL_law_1241 (by decide) (eq_act_1 (sc G 2) (sc G 4)) ?_
  exact law_next hL (by omega) (by omega)
theorem law_35_2 {l : Launch} {G : gG} (hL : G.2.2.2.2.2.2.1 = 6) (h : sc G 1 = 2) : Go l G mL_law lawB 1183 [(3, .int 0), (2, .ref (G.2.1 + 32)), (1, .ref (G.2.1 + 0)), (0, .ref G.2.2.2.2.2.1)] [] 42 90324 (wl G.2.1 (LF G)) := by
  refine go_aload_n (pc := 1183) dL_law_1183 rfl rfl ?_
  refine go_aload_n (pc := 1184) dL_law_1184 rfl rfl ?_
  refine go_iload_n (pc := 1185) dL_law_1185 rfl rfl ?_
  refine go_iconst (pc := 1186) (v := 1) dL_law_1186 (by decide) ?_
  refine go_iadd (pc := 1187) dL_law_1187 ?_
  refine go_top (y := 1) (by decide) ?_
  refine go_sld (pc := 1188) (by rw [hL]; exact gv_in (by decide)) dL_law_1188 ?_
  refine go_top (y := sc G 1) rfl ?_
  refine go_top (y := 2) h ?_
  refine go_aload_n (pc := 1189) dL_law_1189 rfl rfl ?_
  refine go_iload_n (pc := 1190) dL_law_1190 rfl rfl ?_
  refine go_iconst (pc := 1191) (v := 2) dL_law_1191 (by decide) ?_
  refine go_iadd (pc := 1192) dL_law_1192 ?_
  refine go_top (y := 2) (by decide) ?_
  refine go_sld (pc := 1193) (by rw [hL]; exact gv_in (by decide)) dL_law_1193 ?_
  refine go_top (y := sc G 2) rfl ?_
  refine go_aload_n (pc := 1194) dL_law_1194 rfl rfl ?_
  refine go_iload_n (pc := 1195) dL_law_1195 rfl rfl ?_
  refine go_iconst (pc := 1196) (v := 3) dL_law_1196 (by decide) ?_
  refine go_iadd (pc := 1197) dL_law_1197 ?_
  refine go_top (y := 3) (by decide) ?_
  refine go_sld (pc := 1198) (by rw [hL]; exact gv_in (by decide)) dL_law_1198 ?_
  refine go_top (y := sc G 3) rfl ?_
  refine go_aload_n (pc := 1199) dL_law_1199 rfl rfl ?_
  refine go_iload_n (pc := 1200) dL_law_1200 rfl rfl ?_
  refine go_iconst (pc := 1201) (v := 4) dL_law_1201 (by decide) ?_
  refine go_iadd (pc := 1202) dL_law_1202 ?_
  refine go_top (y := 4) (by decide) ?_
  refine go_sld (pc := 1203) (by rw [hL]; exact gv_in (by decide)) dL_law_1203 ?_
  refine go_top (y := sc G 4) rfl ?_
  refine go_aload_n (pc := 1204) dL_law_1204 rfl rfl ?_
  refine go_iload_n (pc := 1205) dL_law_1205 rfl rfl ?_
  refine go_iconst (pc := 1206) (v := 5) dL_law_1206 (by decide) ?_
  refine go_iadd (pc := 1207) dL_law_1207 ?_
  refine go_top (y := 5) (by decide) ?_
  refine go_sld (pc := 1208) (by rw [hL]; exact gv_in (by decide)) dL_law_1208 ?_
  refine go_top (y := sc G 5) rfl ?_
  obtain ⟨fr1, lc1, nn, kn, w1, g1, g2, g3, g4, g5, hf, hct⟩ := cx_act_2 (l := l) (G := G) (sc G 2) (sc G 3) (sc G 4) (sc G 5)
  refine go_callV_i (pc := 1209) vL_158 rfl (hct) rfl rfl (gz_b (by decide)) (wl_at (i := 0) rfl) rfl (Nat.le_of_ble_eq_true rfl) ⟨(show fr1 + 1 ≤ 11 by omega), (show 8 + (6 + 11) + lc1 ≤ 422 by omega), (show nn ≤ 0 + 600000 by omega), (show kn ≤ 0 + 7302250 by omega)⟩ dL_law_1209 ?_
  refine go_aload_n (pc := 1212) dL_law_1212 rfl rfl ?_
  refine go_aload_n (pc := 1213) dL_law_1213 rfl rfl ?_
  refine go_iload_n (pc := 1214) dL_law_1214 rfl rfl ?_
  refine go_iconst (pc := 1215) (v := 1) dL_law_1215 (by decide) ?_
  refine go_iadd (pc := 1216) dL_law_1216 ?_
  refine go_top (y := 1) (by decide) ?_
  refine go_sld (pc := 1217) (by rw [hL]; exact gv_in (by decide)) dL_law_1217 ?_
  refine go_top (y := sc G 1) rfl ?_
  refine go_top (y := 2) h ?_
  refine go_aload_n (pc := 1218) dL_law_1218 rfl rfl ?_
  refine go_iload_n (pc := 1219) dL_law_1219 rfl rfl ?_
  refine go_iconst (pc := 1220) (v := 2) dL_law_1220 (by decide) ?_
  refine go_iadd (pc := 1221) dL_law_1221 ?_
  refine go_top (y := 2) (by decide) ?_
  refine go_sld (pc := 1222) (by rw [hL]; exact gv_in (by decide)) dL_law_1222 ?_
  refine go_top (y := sc G 2) rfl ?_
  refine go_aload_n (pc := 1223) dL_law_1223 rfl rfl ?_
  refine go_iload_n (pc := 1224) dL_law_1224 rfl rfl ?_
  refine go_iconst (pc := 1225) (v := 3) dL_law_1225 (by decide) ?_
  refine go_iadd (pc := 1226) dL_law_1226 ?_
  refine go_top (y := 3) (by decide) ?_
  refine go_sld (pc := 1227) (by rw [hL]; exact gv_in (by decide)) dL_law_1227 ?_
  refine go_top (y := sc G 3) rfl ?_
  refine go_aload_n (pc := 1228) dL_law_1228 rfl rfl ?_
  refine go_iload_n (pc := 1229) dL_law_1229 rfl rfl ?_
  refine go_iconst (pc := 1230) (v := 4) dL_law_1230 (by decide) ?_
  refine go_iadd (pc := 1231) dL_law_1231 ?_
  refine go_top (y := 4) (by decide) ?_
  refine go_sld (pc := 1232) (by rw [hL]; exact gv_in (by decide)) dL_law_1232 ?_
  refine go_top (y := sc G 4) rfl ?_
  refine go_aload_n (pc := 1233) dL_law_1233 rfl rfl ?_
  refine go_iload_n (pc := 1234) dL_law_1234 rfl rfl ?_
  refine go_iconst (pc := 1235) (v := 5) dL_law_1235 (by decide) ?_
  refine go_iadd (pc := 1236) dL_law_1236 ?_
  refine go_top (y := 5) (by decide) ?_
  refine go_sld (pc := 1237) (by rw [hL]; exact gv_in (by decide)) dL_law_1237 ?_
  refine go_top (y := sc G 5) rfl ?_
  obtain ⟨fr2, lc2, w2, q1, q2, hct2⟩ := cm_act_2 (l := l) (G := G) (sc G 2) (sc G 3) (sc G 4) (sc G 5) nn kn w1 g3 hf
  refine go_callV_i (pc := 1238) vL_161 rfl (hct2) rfl rfl (gz_b (by omega)) ((hf 32 (by decide) (by decide)).trans (wl_at (i := 32) rfl)) rfl (Nat.le_of_ble_eq_true rfl) ⟨(show fr2 + 1 ≤ 11 by omega), (show 8 + (7 + 11) + lc2 ≤ 422 by omega), (show nn ≤ 0 + 600000 by omega), (show kn ≤ 0 + 7302250 by omega)⟩ dL_law_1238 ?_
  refine go_icmp_eq_t (pc := 1241) (tgt := 1393) dL_law_1241 (by decide) (eq_act_2 (sc G 2) (sc G 4)) ?_
  exact law_next hL (by omega) (by omega)
theorem law_35_3 {l : Launch} {G : gG} (hL : G.2.2.2.2.2.2.1 = 6) (h : sc G 1 = 3) : Go l G mL_law lawB 1183 [(3, .int 0), (2, .ref (G.2.1 + 32)), (1, .ref (G.2.1 + 0)), (0, .ref G.2.2.2.2.2.1)] [] 42 90324 (wl G.2.1 (LF G)) := by
  refine go_aload_n (pc := 1183) dL_law_1183 rfl rfl ?_
  refine go_aload_n (pc := 1184) dL_law_1184 rfl rfl ?_
  refine go_iload_n (pc := 1185) dL_law_1185 rfl rfl ?_
  refine go_iconst (pc := 1186) (v := 1) dL_law_1186 (by decide) ?_
  refine go_iadd (pc := 1187) dL_law_1187 ?_
  refine go_top (y := 1) (by decide) ?_
  refine go_sld (pc := 1188) (by rw [hL]; exact gv_in (by decide)) dL_law_1188 ?_
  refine go_top (y := sc G 1) rfl ?_
  refine go_top (y := 3) h ?_
  refine go_aload_n (pc := 1189) dL_law_1189 rfl rfl ?_
  refine go_iload_n (pc := 1190) dL_law_1190 rfl rfl ?_
  refine go_iconst (pc := 1191) (v := 2) dL_law_1191 (by decide) ?_
  refine go_iadd (pc := 1192) dL_law_1192 ?_
  refine go_top (y := 2) (by decide) ?_
  refine go_sld (pc := 1193) (by rw [hL]; exact gv_in (by decide)) dL_law_1193 ?_
  refine go_top (y := sc G 2) rfl ?_
  refine go_aload_n (pc := 1194) dL_law_1194 rfl rfl ?_
  refine go_iload_n (pc := 1195) dL_law_1195 rfl rfl ?_
  refine go_iconst (pc := 1196) (v := 3) dL_law_1196 (by decide) ?_
  refine go_iadd (pc := 1197) dL_law_1197 ?_
  refine go_top (y := 3) (by decide) ?_
  refine go_sld (pc := 1198) (by rw [hL]; exact gv_in (by decide)) dL_law_1198 ?_
  refine go_top (y := sc G 3) rfl ?_
  refine go_aload_n (pc := 1199) dL_law_1199 rfl rfl ?_
  refine go_iload_n (pc := 1200) dL_law_1200 rfl rfl ?_
  refine go_iconst (pc := 1201) (v := 4) dL_law_1201 (by decide) ?_
  refine go_iadd (pc := 1202) dL_law_1202 ?_
  refine go_top (y := 4) (by decide) ?_
  refine go_sld (pc := 1203) (by rw [hL]; exact gv_in (by decide)) dL_law_1203 ?_
  refine go_top (y := sc G 4) rfl ?_
  refine go_aload_n (pc := 1204) dL_law_1204 rfl rfl ?_
  refine go_iload_n (pc := 1205) dL_law_1205 rfl rfl ?_
  refine go_iconst (pc := 1206) (v := 5) dL_law_1206 (by decide) ?_
  refine go_iadd (pc := 1207) dL_law_1207 ?_
  refine go_top (y := 5) (by decide) ?_
  refine go_sld (pc := 1208) (by rw [hL]; exact gv_in (by decide)) dL_law_1208 ?_
  refine go_top (y := sc G 5) rfl ?_
  obtain ⟨fr1, lc1, nn, kn, w1, g1, g2, g3, g4, g5, hf, hct⟩ := cx_act_3 (l := l) (G := G) (sc G 2) (sc G 3) (sc G 4) (sc G 5)
  refine go_callV_i (pc := 1209) vL_158 rfl (hct) rfl rfl (gz_b (by decide)) (wl_at (i := 0) rfl) rfl (Nat.le_of_ble_eq_true rfl) ⟨(show fr1 + 1 ≤ 11 by omega), (show 8 + (6 + 11) + lc1 ≤ 422 by omega), (show nn ≤ 0 + 600000 by omega), (show kn ≤ 0 + 7302250 by omega)⟩ dL_law_1209 ?_
  refine go_aload_n (pc := 1212) dL_law_1212 rfl rfl ?_
  refine go_aload_n (pc := 1213) dL_law_1213 rfl rfl ?_
  refine go_iload_n (pc := 1214) dL_law_1214 rfl rfl ?_
  refine go_iconst (pc := 1215) (v := 1) dL_law_1215 (by decide) ?_
  refine go_iadd (pc := 1216) dL_law_1216 ?_
  refine go_top (y := 1) (by decide) ?_
  refine go_sld (pc := 1217) (by rw [hL]; exact gv_in (by decide)) dL_law_1217 ?_
  refine go_top (y := sc G 1) rfl ?_
  refine go_top (y := 3) h ?_
  refine go_aload_n (pc := 1218) dL_law_1218 rfl rfl ?_
  refine go_iload_n (pc := 1219) dL_law_1219 rfl rfl ?_
  refine go_iconst (pc := 1220) (v := 2) dL_law_1220 (by decide) ?_
  refine go_iadd (pc := 1221) dL_law_1221 ?_
  refine go_top (y := 2) (by decide) ?_
  refine go_sld (pc := 1222) (by rw [hL]; exact gv_in (by decide)) dL_law_1222 ?_
  refine go_top (y := sc G 2) rfl ?_
  refine go_aload_n (pc := 1223) dL_law_1223 rfl rfl ?_
  refine go_iload_n (pc := 1224) dL_law_1224 rfl rfl ?_
  refine go_iconst (pc := 1225) (v := 3) dL_law_1225 (by decide) ?_
  refine go_iadd (pc := 1226) dL_law_1226 ?_
  refine go_top (y := 3) (by decide) ?_
  refine go_sld (pc := 1227) (by rw [hL]; exact gv_in (by decide)) dL_law_1227 ?_
  refine go_top (y := sc G 3) rfl ?_
  refine go_aload_n (pc := 1228) dL_law_1228 rfl rfl ?_
  refine go_iload_n (pc := 1229) dL_law_1229 rfl rfl ?_
  refine go_iconst (pc := 1230) (v := 4) dL_law_1230 (by decide) ?_
  refine go_iadd (pc := 1231) dL_law_1231 ?_
  refine go_top (y := 4) (by decide) ?_
  refine go_sld (pc := 1232) (by rw [hL]; exact gv_in (by decide)) dL_law_1232 ?_
  refine go_top (y := sc G 4) rfl ?_
  refine go_aload_n (pc := 1233) dL_law_1233 rfl rfl ?_
  refine go_iload_n (pc := 1234) dL_law_1234 rfl rfl ?_
  refine go_iconst (pc := 1235) (v := 5) dL_law_1235 (by decide) ?_
  refine go_iadd (pc := 1236) dL_law_1236 ?_
  refine go_top (y := 5) (by decide) ?_
  refine go_sld (pc := 1237) (by rw [hL]; exact gv_in (by decide)) dL_law_1237 ?_
  refine go_top (y := sc G 5) rfl ?_
  obtain ⟨fr2, lc2, w2, q1, q2, hct2⟩ := cm_act_3 (l := l) (G := G) (sc G 2) (sc G 3) (sc G 4) (sc G 5) nn kn w1 g3 hf
  refine go_callV_i (pc := 1238) vL_161 rfl (hct2) rfl rfl (gz_b (by omega)) ((hf 32 (by decide) (by decide)).trans (wl_at (i := 32) rfl)) rfl (Nat.le_of_ble_eq_true rfl) ⟨(show fr2 + 1 ≤ 11 by omega), (show 8 + (7 + 11) + lc2 ≤ 422 by omega), (show nn ≤ 0 + 600000 by omega), (show kn ≤ 0 + 7302250 by omega)⟩ dL_law_1238 ?_
  refine go_icmp_eq_t (pc := 1241) (tgt := 1393) dL_law_1241 (by decide) (eq_act_3 (sc G 2) (sc G 3)) ?_
  exact law_next hL (by omega) (by omega)
theorem law_35_4 {l : Launch} {G : gG} (hL : G.2.2.2.2.2.2.1 = 6) (h : sc G 1 = 4) : Go l G mL_law lawB 1183 [(3, .int 0), (2, .ref (G.2.1 + 32)), (1, .ref (G.2.1 + 0)), (0, .ref G.2.2.2.2.2.1)] [] 42 90324 (wl G.2.1 (LF G)) := by
  refine go_aload_n (pc := 1183) dL_law_1183 rfl rfl ?_
  refine go_aload_n (pc := 1184) dL_law_1184 rfl rfl ?_
  refine go_iload_n (pc := 1185) dL_law_1185 rfl rfl ?_
  refine go_iconst (pc := 1186) (v := 1) dL_law_1186 (by decide) ?_
  refine go_iadd (pc := 1187) dL_law_1187 ?_
  refine go_top (y := 1) (by decide) ?_
  refine go_sld (pc := 1188) (by rw [hL]; exact gv_in (by decide)) dL_law_1188 ?_
  refine go_top (y := sc G 1) rfl ?_
  refine go_top (y := 4) h ?_
  refine go_aload_n (pc := 1189) dL_law_1189 rfl rfl ?_
  refine go_iload_n (pc := 1190) dL_law_1190 rfl rfl ?_
  refine go_iconst (pc := 1191) (v := 2) dL_law_1191 (by decide) ?_
  refine go_iadd (pc := 1192) dL_law_1192 ?_
  refine go_top (y := 2) (by decide) ?_
  refine go_sld (pc := 1193) (by rw [hL]; exact gv_in (by decide)) dL_law_1193 ?_
  refine go_top (y := sc G 2) rfl ?_
  refine go_aload_n (pc := 1194) dL_law_1194 rfl rfl ?_
  refine go_iload_n (pc := 1195) dL_law_1195 rfl rfl ?_
  refine go_iconst (pc := 1196) (v := 3) dL_law_1196 (by decide) ?_
  refine go_iadd (pc := 1197) dL_law_1197 ?_
  refine go_top (y := 3) (by decide) ?_
  refine go_sld (pc := 1198) (by rw [hL]; exact gv_in (by decide)) dL_law_1198 ?_
  refine go_top (y := sc G 3) rfl ?_
  refine go_aload_n (pc := 1199) dL_law_1199 rfl rfl ?_
  refine go_iload_n (pc := 1200) dL_law_1200 rfl rfl ?_
  refine go_iconst (pc := 1201) (v := 4) dL_law_1201 (by decide) ?_
  refine go_iadd (pc := 1202) dL_law_1202 ?_
  refine go_top (y := 4) (by decide) ?_
  refine go_sld (pc := 1203) (by rw [hL]; exact gv_in (by decide)) dL_law_1203 ?_
  refine go_top (y := sc G 4) rfl ?_
  refine go_aload_n (pc := 1204) dL_law_1204 rfl rfl ?_
  refine go_iload_n (pc := 1205) dL_law_1205 rfl rfl ?_
  refine go_iconst (pc := 1206) (v := 5) dL_law_1206 (by decide) ?_
  refine go_iadd (pc := 1207) dL_law_1207 ?_
  refine go_top (y := 5) (by decide) ?_
  refine go_sld (pc := 1208) (by rw [hL]; exact gv_in (by decide)) dL_law_1208 ?_
  refine go_top (y := sc G 5) rfl ?_
  obtain ⟨fr1, lc1, nn, kn, w1, g1, g2, g3, g4, g5, hf, hct⟩ := cx_act_4 (l := l) (G := G) (sc G 2) (sc G 3) (sc G 4) (sc G 5)
  refine go_callV_i (pc := 1209) vL_158 rfl (hct) rfl rfl (gz_b (by decide)) (wl_at (i := 0) rfl) rfl (Nat.le_of_ble_eq_true rfl) ⟨(show fr1 + 1 ≤ 11 by omega), (show 8 + (6 + 11) + lc1 ≤ 422 by omega), (show nn ≤ 0 + 600000 by omega), (show kn ≤ 0 + 7302250 by omega)⟩ dL_law_1209 ?_
  refine go_aload_n (pc := 1212) dL_law_1212 rfl rfl ?_
  refine go_aload_n (pc := 1213) dL_law_1213 rfl rfl ?_
  refine go_iload_n (pc := 1214) dL_law_1214 rfl rfl ?_
  refine go_iconst (pc := 1215) (v := 1) dL_law_1215 (by decide) ?_
  refine go_iadd (pc := 1216) dL_law_1216 ?_
  refine go_top (y := 1) (by decide) ?_
  refine go_sld (pc := 1217) (by rw [hL]; exact gv_in (by decide)) dL_law_1217 ?_
  refine go_top (y := sc G 1) rfl ?_
  refine go_top (y := 4) h ?_
  refine go_aload_n (pc := 1218) dL_law_1218 rfl rfl ?_
  refine go_iload_n (pc := 1219) dL_law_1219 rfl rfl ?_
  refine go_iconst (pc := 1220) (v := 2) dL_law_1220 (by decide) ?_
  refine go_iadd (pc := 1221) dL_law_1221 ?_
  refine go_top (y := 2) (by decide) ?_
  refine go_sld (pc := 1222) (by rw [hL]; exact gv_in (by decide)) dL_law_1222 ?_
  refine go_top (y := sc G 2) rfl ?_
  refine go_aload_n (pc := 1223) dL_law_1223 rfl rfl ?_
  refine go_iload_n (pc := 1224) dL_law_1224 rfl rfl ?_
  refine go_iconst (pc := 1225) (v := 3) dL_law_1225 (by decide) ?_
  refine go_iadd (pc := 1226) dL_law_1226 ?_
  refine go_top (y := 3) (by decide) ?_
  refine go_sld (pc := 1227) (by rw [hL]; exact gv_in (by decide)) dL_law_1227 ?_
  refine go_top (y := sc G 3) rfl ?_
  refine go_aload_n (pc := 1228) dL_law_1228 rfl rfl ?_
  refine go_iload_n (pc := 1229) dL_law_1229 rfl rfl ?_
  refine go_iconst (pc := 1230) (v := 4) dL_law_1230 (by decide) ?_
  refine go_iadd (pc := 1231) dL_law_1231 ?_
  refine go_top (y := 4) (by decide) ?_
  refine go_sld (pc := 1232) (by rw [hL]; exact gv_in (by decide)) dL_law_1232 ?_
  refine go_top (y := sc G 4) rfl ?_
  refine go_aload_n (pc := 1233) dL_law_1233 rfl rfl ?_
  refine go_iload_n (pc := 1234) dL_law_1234 rfl rfl ?_
  refine go_iconst (pc := 1235) (v := 5) dL_law_1235 (by decide) ?_
  refine go_iadd (pc := 1236) dL_law_1236 ?_
  refine go_top (y := 5) (by decide) ?_
  refine go_sld (pc := 1237) (by rw [hL]; exact gv_in (by decide)) dL_law_1237 ?_
  refine go_top (y := sc G 5) rfl ?_
  obtain ⟨fr2, lc2, w2, q1, q2, hct2⟩ := cm_act_4 (l := l) (G := G) (sc G 2) (sc G 3) (sc G 4) (sc G 5) nn kn w1 g3 hf
  refine go_callV_i (pc := 1238) vL_161 rfl (hct2) rfl rfl (gz_b (by omega)) ((hf 32 (by decide) (by decide)).trans (wl_at (i := 32) rfl)) rfl (Nat.le_of_ble_eq_true rfl) ⟨(show fr2 + 1 ≤ 11 by omega), (show 8 + (7 + 11) + lc2 ≤ 422 by omega), (show nn ≤ 0 + 600000 by omega), (show kn ≤ 0 + 7302250 by omega)⟩ dL_law_1238 ?_
  refine go_icmp_eq_t (pc := 1241) (tgt := 1393) dL_law_1241 (by decide) (eq_act_4 (sc G 2) (sc G 3)) ?_
  exact law_next hL (by omega) (by omega)
theorem law_35_5 {l : Launch} {G : gG} (hL : G.2.2.2.2.2.2.1 = 6) (h : sc G 1 = 5) : Go l G mL_law lawB 1183 [(3, .int 0), (2, .ref (G.2.1 + 32)), (1, .ref (G.2.1 + 0)), (0, .ref G.2.2.2.2.2.1)] [] 42 90324 (wl G.2.1 (LF G)) := by
  refine go_aload_n (pc := 1183) dL_law_1183 rfl rfl ?_
  refine go_aload_n (pc := 1184) dL_law_1184 rfl rfl ?_
  refine go_iload_n (pc := 1185) dL_law_1185 rfl rfl ?_
  refine go_iconst (pc := 1186) (v := 1) dL_law_1186 (by decide) ?_
  refine go_iadd (pc := 1187) dL_law_1187 ?_
  refine go_top (y := 1) (by decide) ?_
  refine go_sld (pc := 1188) (by rw [hL]; exact gv_in (by decide)) dL_law_1188 ?_
  refine go_top (y := sc G 1) rfl ?_
  refine go_top (y := 5) h ?_
  refine go_aload_n (pc := 1189) dL_law_1189 rfl rfl ?_
  refine go_iload_n (pc := 1190) dL_law_1190 rfl rfl ?_
  refine go_iconst (pc := 1191) (v := 2) dL_law_1191 (by decide) ?_
  refine go_iadd (pc := 1192) dL_law_1192 ?_
  refine go_top (y := 2) (by decide) ?_
  refine go_sld (pc := 1193) (by rw [hL]; exact gv_in (by decide)) dL_law_1193 ?_
  refine go_top (y := sc G 2) rfl ?_
  refine go_aload_n (pc := 1194) dL_law_1194 rfl rfl ?_
  refine go_iload_n (pc := 1195) dL_law_1195 rfl rfl ?_
  refine go_iconst (pc := 1196) (v := 3) dL_law_1196 (by decide) ?_
  refine go_iadd (pc := 1197) dL_law_1197 ?_
  refine go_top (y := 3) (by decide) ?_
  refine go_sld (pc := 1198) (by rw [hL]; exact gv_in (by decide)) dL_law_1198 ?_
  refine go_top (y := sc G 3) rfl ?_
  refine go_aload_n (pc := 1199) dL_law_1199 rfl rfl ?_
  refine go_iload_n (pc := 1200) dL_law_1200 rfl rfl ?_
  refine go_iconst (pc := 1201) (v := 4) dL_law_1201 (by decide) ?_
  refine go_iadd (pc := 1202) dL_law_1202 ?_
  refine go_top (y := 4) (by decide) ?_
  refine go_sld (pc := 1203) (by rw [hL]; exact gv_in (by decide)) dL_law_1203 ?_
  refine go_top (y := sc G 4) rfl ?_
  refine go_aload_n (pc := 1204) dL_law_1204 rfl rfl ?_
  refine go_iload_n (pc := 1205) dL_law_1205 rfl rfl ?_
  refine go_iconst (pc := 1206) (v := 5) dL_law_1206 (by decide) ?_
  refine go_iadd (pc := 1207) dL_law_1207 ?_
  refine go_top (y := 5) (by decide) ?_
  refine go_sld (pc := 1208) (by rw [hL]; exact gv_in (by decide)) dL_law_1208 ?_
  refine go_top (y := sc G 5) rfl ?_
  obtain ⟨fr1, lc1, nn, kn, w1, g1, g2, g3, g4, g5, hf, hct⟩ := cx_act_5 (l := l) (G := G) (sc G 2) (sc G 3) (sc G 4) (sc G 5)
  refine go_callV_i (pc := 1209) vL_158 rfl (hct) rfl rfl (gz_b (by decide)) (wl_at (i := 0) rfl) rfl (Nat.le_of_ble_eq_true rfl) ⟨(show fr1 + 1 ≤ 11 by omega), (show 8 + (6 + 11) + lc1 ≤ 422 by omega), (show nn ≤ 0 + 600000 by omega), (show kn ≤ 0 + 7302250 by omega)⟩ dL_law_1209 ?_
  refine go_aload_n (pc := 1212) dL_law_1212 rfl rfl ?_
  refine go_aload_n (pc := 1213) dL_law_1213 rfl rfl ?_
  refine go_iload_n (pc := 1214) dL_law_1214 rfl rfl ?_
  refine go_iconst (pc := 1215) (v := 1) dL_law_1215 (by decide) ?_
  refine go_iadd (pc := 1216) dL_law_1216 ?_
  refine go_top (y := 1) (by decide) ?_
  refine go_sld (pc := 1217) (by rw [hL]; exact gv_in (by decide)) dL_law_1217 ?_
  refine go_top (y := sc G 1) rfl ?_
  refine go_top (y := 5) h ?_
  refine go_aload_n (pc := 1218) dL_law_1218 rfl rfl ?_
  refine go_iload_n (pc := 1219) dL_law_1219 rfl rfl ?_
  refine go_iconst (pc := 1220) (v := 2) dL_law_1220 (by decide) ?_
  refine go_iadd (pc := 1221) dL_law_1221 ?_
  refine go_top (y := 2) (by decide) ?_
  refine go_sld (pc := 1222) (by rw [hL]; exact gv_in (by decide)) dL_law_1222 ?_
  refine go_top (y := sc G 2) rfl ?_
  refine go_aload_n (pc := 1223) dL_law_1223 rfl rfl ?_
  refine go_iload_n (pc := 1224) dL_law_1224 rfl rfl ?_
  refine go_iconst (pc := 1225) (v := 3) dL_law_1225 (by decide) ?_
  refine go_iadd (pc := 1226) dL_law_1226 ?_
  refine go_top (y := 3) (by decide) ?_
  refine go_sld (pc := 1227) (by rw [hL]; exact gv_in (by decide)) dL_law_1227 ?_
  refine go_top (y := sc G 3) rfl ?_
  refine go_aload_n (pc := 1228) dL_law_1228 rfl rfl ?_
  refine go_iload_n (pc := 1229) dL_law_1229 rfl rfl ?_
  refine go_iconst (pc := 1230) (v := 4) dL_law_1230 (by decide) ?_
  refine go_iadd (pc := 1231) dL_law_1231 ?_
  refine go_top (y := 4) (by decide) ?_
  refine go_sld (pc := 1232) (by rw [hL]; exact gv_in (by decide)) dL_law_1232 ?_
  refine go_top (y := sc G 4) rfl ?_
  refine go_aload_n (pc := 1233) dL_law_1233 rfl rfl ?_
  refine go_iload_n (pc := 1234) dL_law_1234 rfl rfl ?_
  refine go_iconst (pc := 1235) (v := 5) dL_law_1235 (by decide) ?_
  refine go_iadd (pc := 1236) dL_law_1236 ?_
  refine go_top (y := 5) (by decide) ?_
  refine go_sld (pc := 1237) (by rw [hL]; exact gv_in (by decide)) dL_law_1237 ?_
  refine go_top (y := sc G 5) rfl ?_
  obtain ⟨fr2, lc2, w2, q1, q2, hct2⟩ := cm_act_5 (l := l) (G := G) (sc G 2) (sc G 3) (sc G 4) (sc G 5) nn kn w1 g3 hf
  refine go_callV_i (pc := 1238) vL_161 rfl (hct2) rfl rfl (gz_b (by omega)) ((hf 32 (by decide) (by decide)).trans (wl_at (i := 32) rfl)) rfl (Nat.le_of_ble_eq_true rfl) ⟨(show fr2 + 1 ≤ 11 by omega), (show 8 + (7 + 11) + lc2 ≤ 422 by omega), (show nn ≤ 0 + 600000 by omega), (show kn ≤ 0 + 7302250 by omega)⟩ dL_law_1238 ?_
  refine go_icmp_eq_t (pc := 1241) (tgt := 1393) dL_law_1241 (by decide) (eq_act_5 (sc G 2) (sc G 3)) ?_
  exact law_next hL (by omega) (by omega)
theorem law_35_6 {l : Launch} {G : gG} (hL : G.2.2.2.2.2.2.1 = 6) (h : sc G 1 = 6) : Go l G mL_law lawB 1183 [(3, .int 0), (2, .ref (G.2.1 + 32)), (1, .ref (G.2.1 + 0)), (0, .ref G.2.2.2.2.2.1)] [] 42 90324 (wl G.2.1 (LF G)) := by
  refine go_aload_n (pc := 1183) dL_law_1183 rfl rfl ?_
  refine go_aload_n (pc := 1184) dL_law_1184 rfl rfl ?_
  refine go_iload_n (pc := 1185) dL_law_1185 rfl rfl ?_
  refine go_iconst (pc := 1186) (v := 1) dL_law_1186 (by decide) ?_
  refine go_iadd (pc := 1187) dL_law_1187 ?_
  refine go_top (y := 1) (by decide) ?_
  refine go_sld (pc := 1188) (by rw [hL]; exact gv_in (by decide)) dL_law_1188 ?_
  refine go_top (y := sc G 1) rfl ?_
  refine go_top (y := 6) h ?_
  refine go_aload_n (pc := 1189) dL_law_1189 rfl rfl ?_
  refine go_iload_n (pc := 1190) dL_law_1190 rfl rfl ?_
  refine go_iconst (pc := 1191) (v := 2) dL_law_1191 (by decide) ?_
  refine go_iadd (pc := 1192) dL_law_1192 ?_
  refine go_top (y := 2) (by decide) ?_
  refine go_sld (pc := 1193) (by rw [hL]; exact gv_in (by decide)) dL_law_1193 ?_
  refine go_top (y := sc G 2) rfl ?_
  refine go_aload_n (pc := 1194) dL_law_1194 rfl rfl ?_
  refine go_iload_n (pc := 1195) dL_law_1195 rfl rfl ?_
  refine go_iconst (pc := 1196) (v := 3) dL_law_1196 (by decide) ?_
  refine go_iadd (pc := 1197) dL_law_1197 ?_
  refine go_top (y := 3) (by decide) ?_
  refine go_sld (pc := 1198) (by rw [hL]; exact gv_in (by decide)) dL_law_1198 ?_
  refine go_top (y := sc G 3) rfl ?_
  refine go_aload_n (pc := 1199) dL_law_1199 rfl rfl ?_
  refine go_iload_n (pc := 1200) dL_law_1200 rfl rfl ?_
  refine go_iconst (pc := 1201) (v := 4) dL_law_1201 (by decide) ?_
  refine go_iadd (pc := 1202) dL_law_1202 ?_
  refine go_top (y := 4) (by decide) ?_
  refine go_sld (pc := 1203) (by rw [hL]; exact gv_in (by decide)) dL_law_1203 ?_
  refine go_top (y := sc G 4) rfl ?_
  refine go_aload_n (pc := 1204) dL_law_1204 rfl rfl ?_
  refine go_iload_n (pc := 1205) dL_law_1205 rfl rfl ?_
  refine go_iconst (pc := 1206) (v := 5) dL_law_1206 (by decide) ?_
  refine go_iadd (pc := 1207) dL_law_1207 ?_
  refine go_top (y := 5) (by decide) ?_
  refine go_sld (pc := 1208) (by rw [hL]; exact gv_in (by decide)) dL_law_1208 ?_
  refine go_top (y := sc G 5) rfl ?_
  obtain ⟨fr1, lc1, nn, kn, w1, g1, g2, g3, g4, g5, hf, hct⟩ := cx_act_6 (l := l) (G := G) (sc G 2) (sc G 3) (sc G 4) (sc G 5)
  refine go_callV_i (pc := 1209) vL_158 rfl (hct) rfl rfl (gz_b (by decide)) (wl_at (i := 0) rfl) rfl (Nat.le_of_ble_eq_true rfl) ⟨(show fr1 + 1 ≤ 11 by omega), (show 8 + (6 + 11) + lc1 ≤ 422 by omega), (show nn ≤ 0 + 600000 by omega), (show kn ≤ 0 + 7302250 by omega)⟩ dL_law_1209 ?_
  refine go_aload_n (pc := 1212) dL_law_1212 rfl rfl ?_
  refine go_aload_n (pc := 1213) dL_law_1213 rfl rfl ?_
  refine go_iload_n (pc := 1214) dL_law_1214 rfl rfl ?_
  refine go_iconst (pc := 1215) (v := 1) dL_law_1215 (by decide) ?_
  refine go_iadd (pc := 1216) dL_law_1216 ?_
  refine go_top (y := 1) (by decide) ?_
  refine go_sld (pc := 1217) (by rw [hL]; exact gv_in (by decide)) dL_law_1217 ?_
  refine go_top (y := sc G 1) rfl ?_
  refine go_top (y := 6) h ?_
  refine go_aload_n (pc := 1218) dL_law_1218 rfl rfl ?_
  refine go_iload_n (pc := 1219) dL_law_1219 rfl rfl ?_
  refine go_iconst (pc := 1220) (v := 2) dL_law_1220 (by decide) ?_
  refine go_iadd (pc := 1221) dL_law_1221 ?_
  refine go_top (y := 2) (by decide) ?_
  refine go_sld (pc := 1222) (by rw [hL]; exact gv_in (by decide)) dL_law_1222 ?_
  refine go_top (y := sc G 2) rfl ?_
  refine go_aload_n (pc := 1223) dL_law_1223 rfl rfl ?_
  refine go_iload_n (pc := 1224) dL_law_1224 rfl rfl ?_
  refine go_iconst (pc := 1225) (v := 3) dL_law_1225 (by decide) ?_
  refine go_iadd (pc := 1226) dL_law_1226 ?_
  refine go_top (y := 3) (by decide) ?_
  refine go_sld (pc := 1227) (by rw [hL]; exact gv_in (by decide)) dL_law_1227 ?_
  refine go_top (y := sc G 3) rfl ?_
  refine go_aload_n (pc := 1228) dL_law_1228 rfl rfl ?_
  refine go_iload_n (pc := 1229) dL_law_1229 rfl rfl ?_
  refine go_iconst (pc := 1230) (v := 4) dL_law_1230 (by decide) ?_
  refine go_iadd (pc := 1231) dL_law_1231 ?_
  refine go_top (y := 4) (by decide) ?_
  refine go_sld (pc := 1232) (by rw [hL]; exact gv_in (by decide)) dL_law_1232 ?_
  refine go_top (y := sc G 4) rfl ?_
  refine go_aload_n (pc := 1233) dL_law_1233 rfl rfl ?_
  refine go_iload_n (pc := 1234) dL_law_1234 rfl rfl ?_
  refine go_iconst (pc := 1235) (v := 5) dL_law_1235 (by decide) ?_
  refine go_iadd (pc := 1236) dL_law_1236 ?_
  refine go_top (y := 5) (by decide) ?_
  refine go_sld (pc := 1237) (by rw [hL]; exact gv_in (by decide)) dL_law_1237 ?_
  refine go_top (y := sc G 5) rfl ?_
  obtain ⟨fr2, lc2, w2, q1, q2, hct2⟩ := cm_act_6 (l := l) (G := G) (sc G 2) (sc G 3) (sc G 4) (sc G 5) nn kn w1 g3 hf
  refine go_callV_i (pc := 1238) vL_161 rfl (hct2) rfl rfl (gz_b (by omega)) ((hf 32 (by decide) (by decide)).trans (wl_at (i := 32) rfl)) rfl (Nat.le_of_ble_eq_true rfl) ⟨(show fr2 + 1 ≤ 11 by omega), (show 8 + (7 + 11) + lc2 ≤ 422 by omega), (show nn ≤ 0 + 600000 by omega), (show kn ≤ 0 + 7302250 by omega)⟩ dL_law_1238 ?_
  refine go_icmp_eq_t (pc := 1241) (tgt := 1393) dL_law_1241 (by decide) (eq_act_6 (sc G 2) (sc G 3)) ?_
  exact law_next hL (by omega) (by omega)
theorem law_35_7 {l : Launch} {G : gG} (hL : G.2.2.2.2.2.2.1 = 6) (h : sc G 1 = 7) : Go l G mL_law lawB 1183 [(3, .int 0), (2, .ref (G.2.1 + 32)), (1, .ref (G.2.1 + 0)), (0, .ref G.2.2.2.2.2.1)] [] 42 90324 (wl G.2.1 (LF G)) := by
  refine go_aload_n (pc := 1183) dL_law_1183 rfl rfl ?_
  refine go_aload_n (pc := 1184) dL_law_1184 rfl rfl ?_
  refine go_iload_n (pc := 1185) dL_law_1185 rfl rfl ?_
  refine go_iconst (pc := 1186) (v := 1) dL_law_1186 (by decide) ?_
  refine go_iadd (pc := 1187) dL_law_1187 ?_
  refine go_top (y := 1) (by decide) ?_
  refine go_sld (pc := 1188) (by rw [hL]; exact gv_in (by decide)) dL_law_1188 ?_
  refine go_top (y := sc G 1) rfl ?_
  refine go_top (y := 7) h ?_
  refine go_aload_n (pc := 1189) dL_law_1189 rfl rfl ?_
  refine go_iload_n (pc := 1190) dL_law_1190 rfl rfl ?_
  refine go_iconst (pc := 1191) (v := 2) dL_law_1191 (by decide) ?_
  refine go_iadd (pc := 1192) dL_law_1192 ?_
  refine go_top (y := 2) (by decide) ?_
  refine go_sld (pc := 1193) (by rw [hL]; exact gv_in (by decide)) dL_law_1193 ?_
  refine go_top (y := sc G 2) rfl ?_
  refine go_aload_n (pc := 1194) dL_law_1194 rfl rfl ?_
  refine go_iload_n (pc := 1195) dL_law_1195 rfl rfl ?_
  refine go_iconst (pc := 1196) (v := 3) dL_law_1196 (by decide) ?_
  refine go_iadd (pc := 1197) dL_law_1197 ?_
  refine go_top (y := 3) (by decide) ?_
  refine go_sld (pc := 1198) (by rw [hL]; exact gv_in (by decide)) dL_law_1198 ?_
  refine go_top (y := sc G 3) rfl ?_
  refine go_aload_n (pc := 1199) dL_law_1199 rfl rfl ?_
  refine go_iload_n (pc := 1200) dL_law_1200 rfl rfl ?_
  refine go_iconst (pc := 1201) (v := 4) dL_law_1201 (by decide) ?_
  refine go_iadd (pc := 1202) dL_law_1202 ?_
  refine go_top (y := 4) (by decide) ?_
  refine go_sld (pc := 1203) (by rw [hL]; exact gv_in (by decide)) dL_law_1203 ?_
  refine go_top (y := sc G 4) rfl ?_
  refine go_aload_n (pc := 1204) dL_law_1204 rfl rfl ?_
  refine go_iload_n (pc := 1205) dL_law_1205 rfl rfl ?_
  refine go_iconst (pc := 1206) (v := 5) dL_law_1206 (by decide) ?_
  refine go_iadd (pc := 1207) dL_law_1207 ?_
  refine go_top (y := 5) (by decide) ?_
  refine go_sld (pc := 1208) (by rw [hL]; exact gv_in (by decide)) dL_law_1208 ?_
  refine go_top (y := sc G 5) rfl ?_
  obtain ⟨fr1, lc1, nn, kn, w1, g1, g2, g3, g4, g5, hf, hct⟩ := cx_act_7 (l := l) (G := G) (sc G 2) (sc G 3) (sc G 4) (sc G 5)
  refine go_callV_i (pc := 1209) vL_158 rfl (hct) rfl rfl (gz_b (by decide)) (wl_at (i := 0) rfl) rfl (Nat.le_of_ble_eq_true rfl) ⟨(show fr1 + 1 ≤ 11 by omega), (show 8 + (6 + 11) + lc1 ≤ 422 by omega), (show nn ≤ 0 + 600000 by omega), (show kn ≤ 0 + 7302250 by omega)⟩ dL_law_1209 ?_
  refine go_aload_n (pc := 1212) dL_law_1212 rfl rfl ?_
  refine go_aload_n (pc := 1213) dL_law_1213 rfl rfl ?_
  refine go_iload_n (pc := 1214) dL_law_1214 rfl rfl ?_
  refine go_iconst (pc := 1215) (v := 1) dL_law_1215 (by decide) ?_
  refine go_iadd (pc := 1216) dL_law_1216 ?_
  refine go_top (y := 1) (by decide) ?_
  refine go_sld (pc := 1217) (by rw [hL]; exact gv_in (by decide)) dL_law_1217 ?_
  refine go_top (y := sc G 1) rfl ?_
  refine go_top (y := 7) h ?_
  refine go_aload_n (pc := 1218) dL_law_1218 rfl rfl ?_
  refine go_iload_n (pc := 1219) dL_law_1219 rfl rfl ?_
  refine go_iconst (pc := 1220) (v := 2) dL_law_1220 (by decide) ?_
  refine go_iadd (pc := 1221) dL_law_1221 ?_
  refine go_top (y := 2) (by decide) ?_
  refine go_sld (pc := 1222) (by rw [hL]; exact gv_in (by decide)) dL_law_1222 ?_
  refine go_top (y := sc G 2) rfl ?_
  refine go_aload_n (pc := 1223) dL_law_1223 rfl rfl ?_
  refine go_iload_n (pc := 1224) dL_law_1224 rfl rfl ?_
  refine go_iconst (pc := 1225) (v := 3) dL_law_1225 (by decide) ?_
  refine go_iadd (pc := 1226) dL_law_1226 ?_
  refine go_top (y := 3) (by decide) ?_
  refine go_sld (pc := 1227) (by rw [hL]; exact gv_in (by decide)) dL_law_1227 ?_
  refine go_top (y := sc G 3) rfl ?_
  refine go_aload_n (pc := 1228) dL_law_1228 rfl rfl ?_
  refine go_iload_n (pc := 1229) dL_law_1229 rfl rfl ?_
  refine go_iconst (pc := 1230) (v := 4) dL_law_1230 (by decide) ?_
  refine go_iadd (pc := 1231) dL_law_1231 ?_
  refine go_top (y := 4) (by decide) ?_
  refine go_sld (pc := 1232) (by rw [hL]; exact gv_in (by decide)) dL_law_1232 ?_
  refine go_top (y := sc G 4) rfl ?_
  refine go_aload_n (pc := 1233) dL_law_1233 rfl rfl ?_
  refine go_iload_n (pc := 1234) dL_law_1234 rfl rfl ?_
  refine go_iconst (pc := 1235) (v := 5) dL_law_1235 (by decide) ?_
  refine go_iadd (pc := 1236) dL_law_1236 ?_
  refine go_top (y := 5) (by decide) ?_
  refine go_sld (pc := 1237) (by rw [hL]; exact gv_in (by decide)) dL_law_1237 ?_
  refine go_top (y := sc G 5) rfl ?_
  obtain ⟨fr2, lc2, w2, q1, q2, hct2⟩ := cm_act_7 (l := l) (G := G) (sc G 2) (sc G 3) (sc G 4) (sc G 5) nn kn w1 g3 hf
  refine go_callV_i (pc := 1238) vL_161 rfl (hct2) rfl rfl (gz_b (by omega)) ((hf 32 (by decide) (by decide)).trans (wl_at (i := 32) rfl)) rfl (Nat.le_of_ble_eq_true rfl) ⟨(show fr2 + 1 ≤ 11 by omega), (show 8 + (7 + 11) + lc2 ≤ 422 by omega), (show nn ≤ 0 + 600000 by omega), (show kn ≤ 0 + 7302250 by omega)⟩ dL_law_1238 ?_
  refine go_icmp_eq_t (pc := 1241) (tgt := 1393) dL_law_1241 (by decide) (eq_act_7 (sc G 2) (sc G 4)) ?_
  exact law_next hL (by omega) (by omega)
theorem law_35_8 {l : Launch} {G : gG} (hL : G.2.2.2.2.2.2.1 = 6) (h : sc G 1 = 8) : Go l G mL_law lawB 1183 [(3, .int 0), (2, .ref (G.2.1 + 32)), (1, .ref (G.2.1 + 0)), (0, .ref G.2.2.2.2.2.1)] [] 42 90324 (wl G.2.1 (LF G)) := by
  refine go_aload_n (pc := 1183) dL_law_1183 rfl rfl ?_
  refine go_aload_n (pc := 1184) dL_law_1184 rfl rfl ?_
  refine go_iload_n (pc := 1185) dL_law_1185 rfl rfl ?_
  refine go_iconst (pc := 1186) (v := 1) dL_law_1186 (by decide) ?_
  refine go_iadd (pc := 1187) dL_law_1187 ?_
  refine go_top (y := 1) (by decide) ?_
  refine go_sld (pc := 1188) (by rw [hL]; exact gv_in (by decide)) dL_law_1188 ?_
  refine go_top (y := sc G 1) rfl ?_
  refine go_top (y := 8) h ?_
  refine go_aload_n (pc := 1189) dL_law_1189 rfl rfl ?_
  refine go_iload_n (pc := 1190) dL_law_1190 rfl rfl ?_
  refine go_iconst (pc := 1191) (v := 2) dL_law_1191 (by decide) ?_
  refine go_iadd (pc := 1192) dL_law_1192 ?_
  refine go_top (y := 2) (by decide) ?_
  refine go_sld (pc := 1193) (by rw [hL]; exact gv_in (by decide)) dL_law_1193 ?_
  refine go_top (y := sc G 2) rfl ?_
  refine go_aload_n (pc := 1194) dL_law_1194 rfl rfl ?_
  refine go_iload_n (pc := 1195) dL_law_1195 rfl rfl ?_
  refine go_iconst (pc := 1196) (v := 3) dL_law_1196 (by decide) ?_
  refine go_iadd (pc := 1197) dL_law_1197 ?_
  refine go_top (y := 3) (by decide) ?_
  refine go_sld (pc := 1198) (by rw [hL]; exact gv_in (by decide)) dL_law_1198 ?_
  refine go_top (y := sc G 3) rfl ?_
  refine go_aload_n (pc := 1199) dL_law_1199 rfl rfl ?_
  refine go_iload_n (pc := 1200) dL_law_1200 rfl rfl ?_
  refine go_iconst (pc := 1201) (v := 4) dL_law_1201 (by decide) ?_
  refine go_iadd (pc := 1202) dL_law_1202 ?_
  refine go_top (y := 4) (by decide) ?_
  refine go_sld (pc := 1203) (by rw [hL]; exact gv_in (by decide)) dL_law_1203 ?_
  refine go_top (y := sc G 4) rfl ?_
  refine go_aload_n (pc := 1204) dL_law_1204 rfl rfl ?_
  refine go_iload_n (pc := 1205) dL_law_1205 rfl rfl ?_
  refine go_iconst (pc := 1206) (v := 5) dL_law_1206 (by decide) ?_
  refine go_iadd (pc := 1207) dL_law_1207 ?_
  refine go_top (y := 5) (by decide) ?_
  refine go_sld (pc := 1208) (by rw [hL]; exact gv_in (by decide)) dL_law_1208 ?_
  refine go_top (y := sc G 5) rfl ?_
  obtain ⟨fr1, lc1, nn, kn, w1, g1, g2, g3, g4, g5, hf, hct⟩ := cx_act_8 (l := l) (G := G) (sc G 2) (sc G 3) (sc G 4) (sc G 5)
  refine go_callV_i (pc := 1209) vL_158 rfl (hct) rfl rfl (gz_b (by decide)) (wl_at (i := 0) rfl) rfl (Nat.le_of_ble_eq_true rfl) ⟨(show fr1 + 1 ≤ 11 by omega), (show 8 + (6 + 11) + lc1 ≤ 422 by omega), (show nn ≤ 0 + 600000 by omega), (show kn ≤ 0 + 7302250 by omega)⟩ dL_law_1209 ?_
  refine go_aload_n (pc := 1212) dL_law_1212 rfl rfl ?_
  refine go_aload_n (pc := 1213) dL_law_1213 rfl rfl ?_
  refine go_iload_n (pc := 1214) dL_law_1214 rfl rfl ?_
  refine go_iconst (pc := 1215) (v := 1) dL_law_1215 (by decide) ?_
  refine go_iadd (pc := 1216) dL_law_1216 ?_
  refine go_top (y := 1) (by decide) ?_
  refine go_sld (pc := 1217) (by rw [hL]; exact gv_in (by decide)) dL_law_1217 ?_
  refine go_top (y := sc G 1) rfl ?_
  refine go_top (y := 8) h ?_
  refine go_aload_n (pc := 1218) dL_law_1218 rfl rfl ?_
  refine go_iload_n (pc := 1219) dL_law_1219 rfl rfl ?_
  refine go_iconst (pc := 1220) (v := 2) dL_law_1220 (by decide) ?_
  refine go_iadd (pc := 1221) dL_law_1221 ?_
  refine go_top (y := 2) (by decide) ?_
  refine go_sld (pc := 1222) (by rw [hL]; exact gv_in (by decide)) dL_law_1222 ?_
  refine go_top (y := sc G 2) rfl ?_
  refine go_aload_n (pc := 1223) dL_law_1223 rfl rfl ?_
  refine go_iload_n (pc := 1224) dL_law_1224 rfl rfl ?_
  refine go_iconst (pc := 1225) (v := 3) dL_law_1225 (by decide) ?_
  refine go_iadd (pc := 1226) dL_law_1226 ?_
  refine go_top (y := 3) (by decide) ?_
  refine go_sld (pc := 1227) (by rw [hL]; exact gv_in (by decide)) dL_law_1227 ?_
  refine go_top (y := sc G 3) rfl ?_
  refine go_aload_n (pc := 1228) dL_law_1228 rfl rfl ?_
  refine go_iload_n (pc := 1229) dL_law_1229 rfl rfl ?_
  refine go_iconst (pc := 1230) (v := 4) dL_law_1230 (by decide) ?_
  refine go_iadd (pc := 1231) dL_law_1231 ?_
  refine go_top (y := 4) (by decide) ?_
  refine go_sld (pc := 1232) (by rw [hL]; exact gv_in (by decide)) dL_law_1232 ?_
  refine go_top (y := sc G 4) rfl ?_
  refine go_aload_n (pc := 1233) dL_law_1233 rfl rfl ?_
  refine go_iload_n (pc := 1234) dL_law_1234 rfl rfl ?_
  refine go_iconst (pc := 1235) (v := 5) dL_law_1235 (by decide) ?_
  refine go_iadd (pc := 1236) dL_law_1236 ?_
  refine go_top (y := 5) (by decide) ?_
  refine go_sld (pc := 1237) (by rw [hL]; exact gv_in (by decide)) dL_law_1237 ?_
  refine go_top (y := sc G 5) rfl ?_
  obtain ⟨fr2, lc2, w2, q1, q2, hct2⟩ := cm_act_8 (l := l) (G := G) (sc G 2) (sc G 3) (sc G 4) (sc G 5) nn kn w1 g3 hf
  refine go_callV_i (pc := 1238) vL_161 rfl (hct2) rfl rfl (gz_b (by omega)) ((hf 32 (by decide) (by decide)).trans (wl_at (i := 32) rfl)) rfl (Nat.le_of_ble_eq_true rfl) ⟨(show fr2 + 1 ≤ 11 by omega), (show 8 + (7 + 11) + lc2 ≤ 422 by omega), (show nn ≤ 0 + 600000 by omega), (show kn ≤ 0 + 7302250 by omega)⟩ dL_law_1238 ?_
  refine go_icmp_eq_t (pc := 1241) (tgt := 1393) dL_law_1241 (by decide) (eq_act_8 (sc G 2)) ?_
  exact law_next hL (by omega) (by omega)
theorem law_35_9 {l : Launch} {G : gG} (hL : G.2.2.2.2.2.2.1 = 6) (h : sc G 1 = 9) : Go l G mL_law lawB 1183 [(3, .int 0), (2, .ref (G.2.1 + 32)), (1, .ref (G.2.1 + 0)), (0, .ref G.2.2.2.2.2.1)] [] 42 90324 (wl G.2.1 (LF G)) := by
  refine go_aload_n (pc := 1183) dL_law_1183 rfl rfl ?_
  refine go_aload_n (pc := 1184) dL_law_1184 rfl rfl ?_
  refine go_iload_n (pc := 1185) dL_law_1185 rfl rfl ?_
  refine go_iconst (pc := 1186) (v := 1) dL_law_1186 (by decide) ?_
  refine go_iadd (pc := 1187) dL_law_1187 ?_
  refine go_top (y := 1) (by decide) ?_
  refine go_sld (pc := 1188) (by rw [hL]; exact gv_in (by decide)) dL_law_1188 ?_
  refine go_top (y := sc G 1) rfl ?_
  refine go_top (y := 9) h ?_
  refine go_aload_n (pc := 1189) dL_law_1189 rfl rfl ?_
  refine go_iload_n (pc := 1190) dL_law_1190 rfl rfl ?_
  refine go_iconst (pc := 1191) (v := 2) dL_law_1191 (by decide) ?_
  refine go_iadd (pc := 1192) dL_law_1192 ?_
  refine go_top (y := 2) (by decide) ?_
  refine go_sld (pc := 1193) (by rw [hL]; exact gv_in (by decide)) dL_law_1193 ?_
  refine go_top (y := sc G 2) rfl ?_
  refine go_aload_n (pc := 1194) dL_law_1194 rfl rfl ?_
  refine go_iload_n (pc := 1195) dL_law_1195 rfl rfl ?_
  refine go_iconst (pc := 1196) (v := 3) dL_law_1196 (by decide) ?_
  refine go_iadd (pc := 1197) dL_law_1197 ?_
  refine go_top (y := 3) (by decide) ?_
  refine go_sld (pc := 1198) (by rw [hL]; exact gv_in (by decide)) dL_law_1198 ?_
  refine go_top (y := sc G 3) rfl ?_
  refine go_aload_n (pc := 1199) dL_law_1199 rfl rfl ?_
  refine go_iload_n (pc := 1200) dL_law_1200 rfl rfl ?_
  refine go_iconst (pc := 1201) (v := 4) dL_law_1201 (by decide) ?_
  refine go_iadd (pc := 1202) dL_law_1202 ?_
  refine go_top (y := 4) (by decide) ?_
  refine go_sld (pc := 1203) (by rw [hL]; exact gv_in (by decide)) dL_law_1203 ?_
  refine go_top (y := sc G 4) rfl ?_
  refine go_aload_n (pc := 1204) dL_law_1204 rfl rfl ?_
  refine go_iload_n (pc := 1205) dL_law_1205 rfl rfl ?_
  refine go_iconst (pc := 1206) (v := 5) dL_law_1206 (by decide) ?_
  refine go_iadd (pc := 1207) dL_law_1207 ?_
  refine go_top (y := 5) (by decide) ?_
  refine go_sld (pc := 1208) (by rw [hL]; exact gv_in (by decide)) dL_law_1208 ?_
  refine go_top (y := sc G 5) rfl ?_
  obtain ⟨fr1, lc1, nn, kn, w1, g1, g2, g3, g4, g5, hf, hct⟩ := cx_act_9 (l := l) (G := G) (sc G 2) (sc G 3) (sc G 4) (sc G 5)
  refine go_callV_i (pc := 1209) vL_158 rfl (hct) rfl rfl (gz_b (by decide)) (wl_at (i := 0) rfl) rfl (Nat.le_of_ble_eq_true rfl) ⟨(show fr1 + 1 ≤ 11 by omega), (show 8 + (6 + 11) + lc1 ≤ 422 by omega), (show nn ≤ 0 + 600000 by omega), (show kn ≤ 0 + 7302250 by omega)⟩ dL_law_1209 ?_
  refine go_aload_n (pc := 1212) dL_law_1212 rfl rfl ?_
  refine go_aload_n (pc := 1213) dL_law_1213 rfl rfl ?_
  refine go_iload_n (pc := 1214) dL_law_1214 rfl rfl ?_
  refine go_iconst (pc := 1215) (v := 1) dL_law_1215 (by decide) ?_
  refine go_iadd (pc := 1216) dL_law_1216 ?_
  refine go_top (y := 1) (by decide) ?_
  refine go_sld (pc := 1217) (by rw [hL]; exact gv_in (by decide)) dL_law_1217 ?_
  refine go_top (y := sc G 1) rfl ?_
  refine go_top (y := 9) h ?_
  refine go_aload_n (pc := 1218) dL_law_1218 rfl rfl ?_
  refine go_iload_n (pc := 1219) dL_law_1219 rfl rfl ?_
  refine go_iconst (pc := 1220) (v := 2) dL_law_1220 (by decide) ?_
  refine go_iadd (pc := 1221) dL_law_1221 ?_
  refine go_top (y := 2) (by decide) ?_
  refine go_sld (pc := 1222) (by rw [hL]; exact gv_in (by decide)) dL_law_1222 ?_
  refine go_top (y := sc G 2) rfl ?_
  refine go_aload_n (pc := 1223) dL_law_1223 rfl rfl ?_
  refine go_iload_n (pc := 1224) dL_law_1224 rfl rfl ?_
  refine go_iconst (pc := 1225) (v := 3) dL_law_1225 (by decide) ?_
  refine go_iadd (pc := 1226) dL_law_1226 ?_
  refine go_top (y := 3) (by decide) ?_
  refine go_sld (pc := 1227) (by rw [hL]; exact gv_in (by decide)) dL_law_1227 ?_
  refine go_top (y := sc G 3) rfl ?_
  refine go_aload_n (pc := 1228) dL_law_1228 rfl rfl ?_
  refine go_iload_n (pc := 1229) dL_law_1229 rfl rfl ?_
  refine go_iconst (pc := 1230) (v := 4) dL_law_1230 (by decide) ?_
  refine go_iadd (pc := 1231) dL_law_1231 ?_
  refine go_top (y := 4) (by decide) ?_
  refine go_sld (pc := 1232) (by rw [hL]; exact gv_in (by decide)) dL_law_1232 ?_
  refine go_top (y := sc G 4) rfl ?_
  refine go_aload_n (pc := 1233) dL_law_1233 rfl rfl ?_
  refine go_iload_n (pc := 1234) dL_law_1234 rfl rfl ?_
  refine go_iconst (pc := 1235) (v := 5) dL_law_1235 (by decide) ?_
  refine go_iadd (pc := 1236) dL_law_1236 ?_
  refine go_top (y := 5) (by decide) ?_
  refine go_sld (pc := 1237) (by rw [hL]; exact gv_in (by decide)) dL_law_1237 ?_
  refine go_top (y := sc G 5) rfl ?_
  obtain ⟨fr2, lc2, w2, q1, q2, hct2⟩ := cm_act_9 (l := l) (G := G) (sc G 2) (sc G 3) (sc G 4) (sc G 5) nn kn w1 g3 hf
  refine go_callV_i (pc := 1238) vL_161 rfl (hct2) rfl rfl (gz_b (by omega)) ((hf 32 (by decide) (by decide)).trans (wl_at (i := 32) rfl)) rfl (Nat.le_of_ble_eq_true rfl) ⟨(show fr2 + 1 ≤ 11 by omega), (show 8 + (7 + 11) + lc2 ≤ 422 by omega), (show nn ≤ 0 + 600000 by omega), (show kn ≤ 0 + 7302250 by omega)⟩ dL_law_1238 ?_
  refine go_icmp_eq_t (pc := 1241) (tgt := 1393) dL_law_1241 (by decide) (eq_act_9 (sc G 2)) ?_
  exact law_next hL (by omega) (by omega)
theorem law_35_10 {l : Launch} {G : gG} (hL : G.2.2.2.2.2.2.1 = 6) (h : sc G 1 = 10) : Go l G mL_law lawB 1183 [(3, .int 0), (2, .ref (G.2.1 + 32)), (1, .ref (G.2.1 + 0)), (0, .ref G.2.2.2.2.2.1)] [] 42 90324 (wl G.2.1 (LF G)) := by
  refine go_aload_n (pc := 1183) dL_law_1183 rfl rfl ?_
  refine go_aload_n (pc := 1184) dL_law_1184 rfl rfl ?_
  refine go_iload_n (pc := 1185) dL_law_1185 rfl rfl ?_
  refine go_iconst (pc := 1186) (v := 1) dL_law_1186 (by decide) ?_
  refine go_iadd (pc := 1187) dL_law_1187 ?_
  refine go_top (y := 1) (by decide) ?_
  refine go_sld (pc := 1188) (by rw [hL]; exact gv_in (by decide)) dL_law_1188 ?_
  refine go_top (y := sc G 1) rfl ?_
  refine go_top (y := 10) h ?_
  refine go_aload_n (pc := 1189) dL_law_1189 rfl rfl ?_
  refine go_iload_n (pc := 1190) dL_law_1190 rfl rfl ?_
  refine go_iconst (pc := 1191) (v := 2) dL_law_1191 (by decide) ?_
  refine go_iadd (pc := 1192) dL_law_1192 ?_
  refine go_top (y := 2) (by decide) ?_
  refine go_sld (pc := 1193) (by rw [hL]; exact gv_in (by decide)) dL_law_1193 ?_
  refine go_top (y := sc G 2) rfl ?_
  refine go_aload_n (pc := 1194) dL_law_1194 rfl rfl ?_
  refine go_iload_n (pc := 1195) dL_law_1195 rfl rfl ?_
  refine go_iconst (pc := 1196) (v := 3) dL_law_1196 (by decide) ?_
  refine go_iadd (pc := 1197) dL_law_1197 ?_
  refine go_top (y := 3) (by decide) ?_
  refine go_sld (pc := 1198) (by rw [hL]; exact gv_in (by decide)) dL_law_1198 ?_
  refine go_top (y := sc G 3) rfl ?_
  refine go_aload_n (pc := 1199) dL_law_1199 rfl rfl ?_
  refine go_iload_n (pc := 1200) dL_law_1200 rfl rfl ?_
  refine go_iconst (pc := 1201) (v := 4) dL_law_1201 (by decide) ?_
  refine go_iadd (pc := 1202) dL_law_1202 ?_
  refine go_top (y := 4) (by decide) ?_
  refine go_sld (pc := 1203) (by rw [hL]; exact gv_in (by decide)) dL_law_1203 ?_
  refine go_top (y := sc G 4) rfl ?_
  refine go_aload_n (pc := 1204) dL_law_1204 rfl rfl ?_
  refine go_iload_n (pc := 1205) dL_law_1205 rfl rfl ?_
  refine go_iconst (pc := 1206) (v := 5) dL_law_1206 (by decide) ?_
  refine go_iadd (pc := 1207) dL_law_1207 ?_
  refine go_top (y := 5) (by decide) ?_
  refine go_sld (pc := 1208) (by rw [hL]; exact gv_in (by decide)) dL_law_1208 ?_
  refine go_top (y := sc G 5) rfl ?_
  obtain ⟨fr1, lc1, nn, kn, w1, g1, g2, g3, g4, g5, hf, hct⟩ := cx_act_10 (l := l) (G := G) (sc G 2) (sc G 3) (sc G 4) (sc G 5)
  refine go_callV_i (pc := 1209) vL_158 rfl (hct) rfl rfl (gz_b (by decide)) (wl_at (i := 0) rfl) rfl (Nat.le_of_ble_eq_true rfl) ⟨(show fr1 + 1 ≤ 11 by omega), (show 8 + (6 + 11) + lc1 ≤ 422 by omega), (show nn ≤ 0 + 600000 by omega), (show kn ≤ 0 + 7302250 by omega)⟩ dL_law_1209 ?_
  refine go_aload_n (pc := 1212) dL_law_1212 rfl rfl ?_
  refine go_aload_n (pc := 1213) dL_law_1213 rfl rfl ?_
  refine go_iload_n (pc := 1214) dL_law_1214 rfl rfl ?_
  refine go_iconst (pc := 1215) (v := 1) dL_law_1215 (by decide) ?_
  refine go_iadd (pc := 1216) dL_law_1216 ?_
  refine go_top (y := 1) (by decide) ?_
  refine go_sld (pc := 1217) (by rw [hL]; exact gv_in (by decide)) dL_law_1217 ?_
  refine go_top (y := sc G 1) rfl ?_
  refine go_top (y := 10) h ?_
  refine go_aload_n (pc := 1218) dL_law_1218 rfl rfl ?_
  refine go_iload_n (pc := 1219) dL_law_1219 rfl rfl ?_
  refine go_iconst (pc := 1220) (v := 2) dL_law_1220 (by decide) ?_
  refine go_iadd (pc := 1221) dL_law_1221 ?_
  refine go_top (y := 2) (by decide) ?_
  refine go_sld (pc := 1222) (by rw [hL]; exact gv_in (by decide)) dL_law_1222 ?_
  refine go_top (y := sc G 2) rfl ?_
  refine go_aload_n (pc := 1223) dL_law_1223 rfl rfl ?_
  refine go_iload_n (pc := 1224) dL_law_1224 rfl rfl ?_
  refine go_iconst (pc := 1225) (v := 3) dL_law_1225 (by decide) ?_
  refine go_iadd (pc := 1226) dL_law_1226 ?_
  refine go_top (y := 3) (by decide) ?_
  refine go_sld (pc := 1227) (by rw [hL]; exact gv_in (by decide)) dL_law_1227 ?_
  refine go_top (y := sc G 3) rfl ?_
  refine go_aload_n (pc := 1228) dL_law_1228 rfl rfl ?_
  refine go_iload_n (pc := 1229) dL_law_1229 rfl rfl ?_
  refine go_iconst (pc := 1230) (v := 4) dL_law_1230 (by decide) ?_
  refine go_iadd (pc := 1231) dL_law_1231 ?_
  refine go_top (y := 4) (by decide) ?_
  refine go_sld (pc := 1232) (by rw [hL]; exact gv_in (by decide)) dL_law_1232 ?_
  refine go_top (y := sc G 4) rfl ?_
  refine go_aload_n (pc := 1233) dL_law_1233 rfl rfl ?_
  refine go_iload_n (pc := 1234) dL_law_1234 rfl rfl ?_
  refine go_iconst (pc := 1235) (v := 5) dL_law_1235 (by decide) ?_
  refine go_iadd (pc := 1236) dL_law_1236 ?_
  refine go_top (y := 5) (by decide) ?_
  refine go_sld (pc := 1237) (by rw [hL]; exact gv_in (by decide)) dL_law_1237 ?_
  refine go_top (y := sc G 5) rfl ?_
  obtain ⟨fr2, lc2, w2, q1, q2, hct2⟩ := cm_act_10 (l := l) (G := G) (sc G 2) (sc G 3) (sc G 4) (sc G 5) nn kn w1 g3 hf
  refine go_callV_i (pc := 1238) vL_161 rfl (hct2) rfl rfl (gz_b (by omega)) ((hf 32 (by decide) (by decide)).trans (wl_at (i := 32) rfl)) rfl (Nat.le_of_ble_eq_true rfl) ⟨(show fr2 + 1 ≤ 11 by omega), (show 8 + (7 + 11) + lc2 ≤ 422 by omega), (show nn ≤ 0 + 600000 by omega), (show kn ≤ 0 + 7302250 by omega)⟩ dL_law_1238 ?_
  refine go_icmp_eq_t (pc := 1241) (tgt := 1393) dL_law_1241 (by decide) rfl ?_
  exact law_next hL (by omega) (by omega)
theorem law_35_11 {l : Launch} {G : gG} (hL : G.2.2.2.2.2.2.1 = 6) (h : sc G 1 = 11) : Go l G mL_law lawB 1183 [(3, .int 0), (2, .ref (G.2.1 + 32)), (1, .ref (G.2.1 + 0)), (0, .ref G.2.2.2.2.2.1)] [] 42 90324 (wl G.2.1 (LF G)) := by
  refine go_aload_n (pc := 1183) dL_law_1183 rfl rfl ?_
  refine go_aload_n (pc := 1184) dL_law_1184 rfl rfl ?_
  refine go_iload_n (pc := 1185) dL_law_1185 rfl rfl ?_
  refine go_iconst (pc := 1186) (v := 1) dL_law_1186 (by decide) ?_
  refine go_iadd (pc := 1187) dL_law_1187 ?_
  refine go_top (y := 1) (by decide) ?_
  refine go_sld (pc := 1188) (by rw [hL]; exact gv_in (by decide)) dL_law_1188 ?_
  refine go_top (y := sc G 1) rfl ?_
  refine go_top (y := 11) h ?_
  refine go_aload_n (pc := 1189) dL_law_1189 rfl rfl ?_
  refine go_iload_n (pc := 1190) dL_law_1190 rfl rfl ?_
  refine go_iconst (pc := 1191) (v := 2) dL_law_1191 (by decide) ?_
  refine go_iadd (pc := 1192) dL_law_1192 ?_
  refine go_top (y := 2) (by decide) ?_
  refine go_sld (pc := 1193) (by rw [hL]; exact gv_in (by decide)) dL_law_1193 ?_
  refine go_top (y := sc G 2) rfl ?_
  refine go_aload_n (pc := 1194) dL_law_1194 rfl rfl ?_
  refine go_iload_n (pc := 1195) dL_law_1195 rfl rfl ?_
  refine go_iconst (pc := 1196) (v := 3) dL_law_1196 (by decide) ?_
  refine go_iadd (pc := 1197) dL_law_1197 ?_
  refine go_top (y := 3) (by decide) ?_
  refine go_sld (pc := 1198) (by rw [hL]; exact gv_in (by decide)) dL_law_1198 ?_
  refine go_top (y := sc G 3) rfl ?_
  refine go_aload_n (pc := 1199) dL_law_1199 rfl rfl ?_
  refine go_iload_n (pc := 1200) dL_law_1200 rfl rfl ?_
  refine go_iconst (pc := 1201) (v := 4) dL_law_1201 (by decide) ?_
  refine go_iadd (pc := 1202) dL_law_1202 ?_
  refine go_top (y := 4) (by decide) ?_
  refine go_sld (pc := 1203) (by rw [hL]; exact gv_in (by decide)) dL_law_1203 ?_
  refine go_top (y := sc G 4) rfl ?_
  refine go_aload_n (pc := 1204) dL_law_1204 rfl rfl ?_
  refine go_iload_n (pc := 1205) dL_law_1205 rfl rfl ?_
  refine go_iconst (pc := 1206) (v := 5) dL_law_1206 (by decide) ?_
  refine go_iadd (pc := 1207) dL_law_1207 ?_
  refine go_top (y := 5) (by decide) ?_
  refine go_sld (pc := 1208) (by rw [hL]; exact gv_in (by decide)) dL_law_1208 ?_
  refine go_top (y := sc G 5) rfl ?_
  obtain ⟨fr1, lc1, nn, kn, w1, g1, g2, g3, g4, g5, hf, hct⟩ := cx_act_11 (l := l) (G := G) (sc G 2) (sc G 3) (sc G 4) (sc G 5)
  refine go_callV_i (pc := 1209) vL_158 rfl (hct) rfl rfl (gz_b (by decide)) (wl_at (i := 0) rfl) rfl (Nat.le_of_ble_eq_true rfl) ⟨(show fr1 + 1 ≤ 11 by omega), (show 8 + (6 + 11) + lc1 ≤ 422 by omega), (show nn ≤ 0 + 600000 by omega), (show kn ≤ 0 + 7302250 by omega)⟩ dL_law_1209 ?_
  refine go_aload_n (pc := 1212) dL_law_1212 rfl rfl ?_
  refine go_aload_n (pc := 1213) dL_law_1213 rfl rfl ?_
  refine go_iload_n (pc := 1214) dL_law_1214 rfl rfl ?_
  refine go_iconst (pc := 1215) (v := 1) dL_law_1215 (by decide) ?_
  refine go_iadd (pc := 1216) dL_law_1216 ?_
  refine go_top (y := 1) (by decide) ?_
  refine go_sld (pc := 1217) (by rw [hL]; exact gv_in (by decide)) dL_law_1217 ?_
  refine go_top (y := sc G 1) rfl ?_
  refine go_top (y := 11) h ?_
  refine go_aload_n (pc := 1218) dL_law_1218 rfl rfl ?_
  refine go_iload_n (pc := 1219) dL_law_1219 rfl rfl ?_
  refine go_iconst (pc := 1220) (v := 2) dL_law_1220 (by decide) ?_
  refine go_iadd (pc := 1221) dL_law_1221 ?_
  refine go_top (y := 2) (by decide) ?_
  refine go_sld (pc := 1222) (by rw [hL]; exact gv_in (by decide)) dL_law_1222 ?_
  refine go_top (y := sc G 2) rfl ?_
  refine go_aload_n (pc := 1223) dL_law_1223 rfl rfl ?_
  refine go_iload_n (pc := 1224) dL_law_1224 rfl rfl ?_
  refine go_iconst (pc := 1225) (v := 3) dL_law_1225 (by decide) ?_
  refine go_iadd (pc := 1226) dL_law_1226 ?_
  refine go_top (y := 3) (by decide) ?_
  refine go_sld (pc := 1227) (by rw [hL]; exact gv_in (by decide)) dL_law_1227 ?_
  refine go_top (y := sc G 3) rfl ?_
  refine go_aload_n (pc := 1228) dL_law_1228 rfl rfl ?_
  refine go_iload_n (pc := 1229) dL_law_1229 rfl rfl ?_
  refine go_iconst (pc := 1230) (v := 4) dL_law_1230 (by decide) ?_
  refine go_iadd (pc := 1231) dL_law_1231 ?_
  refine go_top (y := 4) (by decide) ?_
  refine go_sld (pc := 1232) (by rw [hL]; exact gv_in (by decide)) dL_law_1232 ?_
  refine go_top (y := sc G 4) rfl ?_
  refine go_aload_n (pc := 1233) dL_law_1233 rfl rfl ?_
  refine go_iload_n (pc := 1234) dL_law_1234 rfl rfl ?_
  refine go_iconst (pc := 1235) (v := 5) dL_law_1235 (by decide) ?_
  refine go_iadd (pc := 1236) dL_law_1236 ?_
  refine go_top (y := 5) (by decide) ?_
  refine go_sld (pc := 1237) (by rw [hL]; exact gv_in (by decide)) dL_law_1237 ?_
  refine go_top (y := sc G 5) rfl ?_
  obtain ⟨fr2, lc2, w2, q1, q2, hct2⟩ := cm_act_11 (l := l) (G := G) (sc G 2) (sc G 3) (sc G 4) (sc G 5) nn kn w1 g3 hf
  refine go_callV_i (pc := 1238) vL_161 rfl (hct2) rfl rfl (gz_b (by omega)) ((hf 32 (by decide) (by decide)).trans (wl_at (i := 32) rfl)) rfl (Nat.le_of_ble_eq_true rfl) ⟨(show fr2 + 1 ≤ 11 by omega), (show 8 + (7 + 11) + lc2 ≤ 422 by omega), (show nn ≤ 0 + 600000 by omega), (show kn ≤ 0 + 7302250 by omega)⟩ dL_law_1238 ?_
  refine go_icmp_eq_t (pc := 1241) (tgt := 1393) dL_law_1241 (by decide) (eq_act_11 (sc G 2)) ?_
  exact law_next hL (by omega) (by omega)
theorem law_35_12 {l : Launch} {G : gG} (hL : G.2.2.2.2.2.2.1 = 6) (h : sc G 1 = 12) : Go l G mL_law lawB 1183 [(3, .int 0), (2, .ref (G.2.1 + 32)), (1, .ref (G.2.1 + 0)), (0, .ref G.2.2.2.2.2.1)] [] 42 90324 (wl G.2.1 (LF G)) := by
  refine go_aload_n (pc := 1183) dL_law_1183 rfl rfl ?_
  refine go_aload_n (pc := 1184) dL_law_1184 rfl rfl ?_
  refine go_iload_n (pc := 1185) dL_law_1185 rfl rfl ?_
  refine go_iconst (pc := 1186) (v := 1) dL_law_1186 (by decide) ?_
  refine go_iadd (pc := 1187) dL_law_1187 ?_
  refine go_top (y := 1) (by decide) ?_
  refine go_sld (pc := 1188) (by rw [hL]; exact gv_in (by decide)) dL_law_1188 ?_
  refine go_top (y := sc G 1) rfl ?_
  refine go_top (y := 12) h ?_
  refine go_aload_n (pc := 1189) dL_law_1189 rfl rfl ?_
  refine go_iload_n (pc := 1190) dL_law_1190 rfl rfl ?_
  refine go_iconst (pc := 1191) (v := 2) dL_law_1191 (by decide) ?_
  refine go_iadd (pc := 1192) dL_law_1192 ?_
  refine go_top (y := 2) (by decide) ?_
  refine go_sld (pc := 1193) (by rw [hL]; exact gv_in (by decide)) dL_law_1193 ?_
  refine go_top (y := sc G 2) rfl ?_
  refine go_aload_n (pc := 1194) dL_law_1194 rfl rfl ?_
  refine go_iload_n (pc := 1195) dL_law_1195 rfl rfl ?_
  refine go_iconst (pc := 1196) (v := 3) dL_law_1196 (by decide) ?_
  refine go_iadd (pc := 1197) dL_law_1197 ?_
  refine go_top (y := 3) (by decide) ?_
  refine go_sld (pc := 1198) (by rw [hL]; exact gv_in (by decide)) dL_law_1198 ?_
  refine go_top (y := sc G 3) rfl ?_
  refine go_aload_n (pc := 1199) dL_law_1199 rfl rfl ?_
  refine go_iload_n (pc := 1200) dL_law_1200 rfl rfl ?_
  refine go_iconst (pc := 1201) (v := 4) dL_law_1201 (by decide) ?_
  refine go_iadd (pc := 1202) dL_law_1202 ?_
  refine go_top (y := 4) (by decide) ?_
  refine go_sld (pc := 1203) (by rw [hL]; exact gv_in (by decide)) dL_law_1203 ?_
  refine go_top (y := sc G 4) rfl ?_
  refine go_aload_n (pc := 1204) dL_law_1204 rfl rfl ?_
  refine go_iload_n (pc := 1205) dL_law_1205 rfl rfl ?_
  refine go_iconst (pc := 1206) (v := 5) dL_law_1206 (by decide) ?_
  refine go_iadd (pc := 1207) dL_law_1207 ?_
  refine go_top (y := 5) (by decide) ?_
  refine go_sld (pc := 1208) (by rw [hL]; exact gv_in (by decide)) dL_law_1208 ?_
  refine go_top (y := sc G 5) rfl ?_
  obtain ⟨fr1, lc1, nn, kn, w1, g1, g2, g3, g4, g5, hf, hct⟩ := cx_act_12 (l := l) (G := G) (sc G 2) (sc G 3) (sc G 4) (sc G 5)
  refine go_callV_i (pc := 1209) vL_158 rfl (hct) rfl rfl (gz_b (by decide)) (wl_at (i := 0) rfl) rfl (Nat.le_of_ble_eq_true rfl) ⟨(show fr1 + 1 ≤ 11 by omega), (show 8 + (6 + 11) + lc1 ≤ 422 by omega), (show nn ≤ 0 + 600000 by omega), (show kn ≤ 0 + 7302250 by omega)⟩ dL_law_1209 ?_
  refine go_aload_n (pc := 1212) dL_law_1212 rfl rfl ?_
  refine go_aload_n (pc := 1213) dL_law_1213 rfl rfl ?_
  refine go_iload_n (pc := 1214) dL_law_1214 rfl rfl ?_
  refine go_iconst (pc := 1215) (v := 1) dL_law_1215 (by decide) ?_
  refine go_iadd (pc := 1216) dL_law_1216 ?_
  refine go_top (y := 1) (by decide) ?_
  refine go_sld (pc := 1217) (by rw [hL]; exact gv_in (by decide)) dL_law_1217 ?_
  refine go_top (y := sc G 1) rfl ?_
  refine go_top (y := 12) h ?_
  refine go_aload_n (pc := 1218) dL_law_1218 rfl rfl ?_
  refine go_iload_n (pc := 1219) dL_law_1219 rfl rfl ?_
  refine go_iconst (pc := 1220) (v := 2) dL_law_1220 (by decide) ?_
  refine go_iadd (pc := 1221) dL_law_1221 ?_
  refine go_top (y := 2) (by decide) ?_
  refine go_sld (pc := 1222) (by rw [hL]; exact gv_in (by decide)) dL_law_1222 ?_
  refine go_top (y := sc G 2) rfl ?_
  refine go_aload_n (pc := 1223) dL_law_1223 rfl rfl ?_
  refine go_iload_n (pc := 1224) dL_law_1224 rfl rfl ?_
  refine go_iconst (pc := 1225) (v := 3) dL_law_1225 (by decide) ?_
  refine go_iadd (pc := 1226) dL_law_1226 ?_
  refine go_top (y := 3) (by decide) ?_
  refine go_sld (pc := 1227) (by rw [hL]; exact gv_in (by decide)) dL_law_1227 ?_
  refine go_top (y := sc G 3) rfl ?_
  refine go_aload_n (pc := 1228) dL_law_1228 rfl rfl ?_
  refine go_iload_n (pc := 1229) dL_law_1229 rfl rfl ?_
  refine go_iconst (pc := 1230) (v := 4) dL_law_1230 (by decide) ?_
  refine go_iadd (pc := 1231) dL_law_1231 ?_
  refine go_top (y := 4) (by decide) ?_
  refine go_sld (pc := 1232) (by rw [hL]; exact gv_in (by decide)) dL_law_1232 ?_
  refine go_top (y := sc G 4) rfl ?_
  refine go_aload_n (pc := 1233) dL_law_1233 rfl rfl ?_
  refine go_iload_n (pc := 1234) dL_law_1234 rfl rfl ?_
  refine go_iconst (pc := 1235) (v := 5) dL_law_1235 (by decide) ?_
  refine go_iadd (pc := 1236) dL_law_1236 ?_
  refine go_top (y := 5) (by decide) ?_
  refine go_sld (pc := 1237) (by rw [hL]; exact gv_in (by decide)) dL_law_1237 ?_
  refine go_top (y := sc G 5) rfl ?_
  obtain ⟨fr2, lc2, w2, q1, q2, hct2⟩ := cm_act_12 (l := l) (G := G) (sc G 2) (sc G 3) (sc G 4) (sc G 5) nn kn w1 g3 hf
  refine go_callV_i (pc := 1238) vL_161 rfl (hct2) rfl rfl (gz_b (by omega)) ((hf 32 (by decide) (by decide)).trans (wl_at (i := 32) rfl)) rfl (Nat.le_of_ble_eq_true rfl) ⟨(show fr2 + 1 ≤ 11 by omega), (show 8 + (7 + 11) + lc2 ≤ 422 by omega), (show nn ≤ 0 + 600000 by omega), (show kn ≤ 0 + 7302250 by omega)⟩ dL_law_1238 ?_
  refine go_icmp_eq_t (pc := 1241) (tgt := 1393) dL_law_1241 (by decide) (eq_act_12 (sc G 2) (sc G 4)) ?_
  exact law_next hL (by omega) (by omega)
theorem law_35_lo {l : Launch} {G : gG} (hL : G.2.2.2.2.2.2.1 = 6) (k0 : sc G 1 < 0) (k2 : (if 0 ≤ sc G 1 ∧ sc G 1 ≤ 12 then (1 : Int32) else 0) = 0) : Go l G mL_law lawB 1183 [(3, .int 0), (2, .ref (G.2.1 + 32)), (1, .ref (G.2.1 + 0)), (0, .ref G.2.2.2.2.2.1)] [] 42 90324 (wl G.2.1 (LF G)) := by
  refine go_aload_n (pc := 1183) dL_law_1183 rfl rfl ?_
  refine go_aload_n (pc := 1184) dL_law_1184 rfl rfl ?_
  refine go_iload_n (pc := 1185) dL_law_1185 rfl rfl ?_
  refine go_iconst (pc := 1186) (v := 1) dL_law_1186 (by decide) ?_
  refine go_iadd (pc := 1187) dL_law_1187 ?_
  refine go_top (y := 1) (by decide) ?_
  refine go_sld (pc := 1188) (by rw [hL]; exact gv_in (by decide)) dL_law_1188 ?_
  refine go_top (y := sc G 1) rfl ?_
  refine go_aload_n (pc := 1189) dL_law_1189 rfl rfl ?_
  refine go_iload_n (pc := 1190) dL_law_1190 rfl rfl ?_
  refine go_iconst (pc := 1191) (v := 2) dL_law_1191 (by decide) ?_
  refine go_iadd (pc := 1192) dL_law_1192 ?_
  refine go_top (y := 2) (by decide) ?_
  refine go_sld (pc := 1193) (by rw [hL]; exact gv_in (by decide)) dL_law_1193 ?_
  refine go_top (y := sc G 2) rfl ?_
  refine go_aload_n (pc := 1194) dL_law_1194 rfl rfl ?_
  refine go_iload_n (pc := 1195) dL_law_1195 rfl rfl ?_
  refine go_iconst (pc := 1196) (v := 3) dL_law_1196 (by decide) ?_
  refine go_iadd (pc := 1197) dL_law_1197 ?_
  refine go_top (y := 3) (by decide) ?_
  refine go_sld (pc := 1198) (by rw [hL]; exact gv_in (by decide)) dL_law_1198 ?_
  refine go_top (y := sc G 3) rfl ?_
  refine go_aload_n (pc := 1199) dL_law_1199 rfl rfl ?_
  refine go_iload_n (pc := 1200) dL_law_1200 rfl rfl ?_
  refine go_iconst (pc := 1201) (v := 4) dL_law_1201 (by decide) ?_
  refine go_iadd (pc := 1202) dL_law_1202 ?_
  refine go_top (y := 4) (by decide) ?_
  refine go_sld (pc := 1203) (by rw [hL]; exact gv_in (by decide)) dL_law_1203 ?_
  refine go_top (y := sc G 4) rfl ?_
  refine go_aload_n (pc := 1204) dL_law_1204 rfl rfl ?_
  refine go_iload_n (pc := 1205) dL_law_1205 rfl rfl ?_
  refine go_iconst (pc := 1206) (v := 5) dL_law_1206 (by decide) ?_
  refine go_iadd (pc := 1207) dL_law_1207 ?_
  refine go_top (y := 5) (by decide) ?_
  refine go_sld (pc := 1208) (by rw [hL]; exact gv_in (by decide)) dL_law_1208 ?_
  refine go_top (y := sc G 5) rfl ?_
  obtain ⟨fr1, lc1, nn, kn, w1, g1, g2, g3, g4, g5, hf, hct⟩ := cx_act_lo (l := l) (G := G) (sc G 1) (sc G 2) (sc G 3) (sc G 4) (sc G 5) k0 k2
  refine go_callV_i (pc := 1209) vL_158 rfl (hct) rfl rfl (gz_b (by decide)) (wl_at (i := 0) rfl) rfl (Nat.le_of_ble_eq_true rfl) ⟨(show fr1 + 1 ≤ 11 by omega), (show 8 + (6 + 11) + lc1 ≤ 422 by omega), (show nn ≤ 0 + 600000 by omega), (show kn ≤ 0 + 7302250 by omega)⟩ dL_law_1209 ?_
  refine go_aload_n (pc := 1212) dL_law_1212 rfl rfl ?_
  refine go_aload_n (pc := 1213) dL_law_1213 rfl rfl ?_
  refine go_iload_n (pc := 1214) dL_law_1214 rfl rfl ?_
  refine go_iconst (pc := 1215) (v := 1) dL_law_1215 (by decide) ?_
  refine go_iadd (pc := 1216) dL_law_1216 ?_
  refine go_top (y := 1) (by decide) ?_
  refine go_sld (pc := 1217) (by rw [hL]; exact gv_in (by decide)) dL_law_1217 ?_
  refine go_top (y := sc G 1) rfl ?_
  refine go_aload_n (pc := 1218) dL_law_1218 rfl rfl ?_
  refine go_iload_n (pc := 1219) dL_law_1219 rfl rfl ?_
  refine go_iconst (pc := 1220) (v := 2) dL_law_1220 (by decide) ?_
  refine go_iadd (pc := 1221) dL_law_1221 ?_
  refine go_top (y := 2) (by decide) ?_
  refine go_sld (pc := 1222) (by rw [hL]; exact gv_in (by decide)) dL_law_1222 ?_
  refine go_top (y := sc G 2) rfl ?_
  refine go_aload_n (pc := 1223) dL_law_1223 rfl rfl ?_
  refine go_iload_n (pc := 1224) dL_law_1224 rfl rfl ?_
  refine go_iconst (pc := 1225) (v := 3) dL_law_1225 (by decide) ?_
  refine go_iadd (pc := 1226) dL_law_1226 ?_
  refine go_top (y := 3) (by decide) ?_
  refine go_sld (pc := 1227) (by rw [hL]; exact gv_in (by decide)) dL_law_1227 ?_
  refine go_top (y := sc G 3) rfl ?_
  refine go_aload_n (pc := 1228) dL_law_1228 rfl rfl ?_
  refine go_iload_n (pc := 1229) dL_law_1229 rfl rfl ?_
  refine go_iconst (pc := 1230) (v := 4) dL_law_1230 (by decide) ?_
  refine go_iadd (pc := 1231) dL_law_1231 ?_
  refine go_top (y := 4) (by decide) ?_
  refine go_sld (pc := 1232) (by rw [hL]; exact gv_in (by decide)) dL_law_1232 ?_
  refine go_top (y := sc G 4) rfl ?_
  refine go_aload_n (pc := 1233) dL_law_1233 rfl rfl ?_
  refine go_iload_n (pc := 1234) dL_law_1234 rfl rfl ?_
  refine go_iconst (pc := 1235) (v := 5) dL_law_1235 (by decide) ?_
  refine go_iadd (pc := 1236) dL_law_1236 ?_
  refine go_top (y := 5) (by decide) ?_
  refine go_sld (pc := 1237) (by rw [hL]; exact gv_in (by decide)) dL_law_1237 ?_
  refine go_top (y := sc G 5) rfl ?_
  obtain ⟨fr2, lc2, w2, q1, q2, hct2⟩ := cm_act_lo (l := l) (G := G) (sc G 1) (sc G 2) (sc G 3) (sc G 4) (sc G 5) k0 k2 nn kn w1 g3 hf
  refine go_callV_i (pc := 1238) vL_161 rfl (hct2) rfl rfl (gz_b (by omega)) ((hf 32 (by decide) (by decide)).trans (wl_at (i := 32) rfl)) rfl (Nat.le_of_ble_eq_true rfl) ⟨(show fr2 + 1 ≤ 11 by omega), (show 8 + (7 + 11) + lc2 ≤ 422 by omega), (show nn ≤ 0 + 600000 by omega), (show kn ≤ 0 + 7302250 by omega)⟩ dL_law_1238 ?_
  refine go_icmp_eq_t (pc := 1241) (tgt := 1393) dL_law_1241 (by decide) rfl ?_
  exact law_next hL (by omega) (by omega)
theorem law_35_hi {l : Launch} {G : gG} (hL : G.2.2.2.2.2.2.1 = 6) (k0 : ¬ sc G 1 < 0) (k1 : ¬ sc G 1 ≤ 12) (k2 : (if 0 ≤ sc G 1 ∧ sc G 1 ≤ 12 then (1 : Int32) else 0) = 0) : Go l G mL_law lawB 1183 [(3, .int 0), (2, .ref (G.2.1 + 32)), (1, .ref (G.2.1 + 0)), (0, .ref G.2.2.2.2.2.1)] [] 42 90324 (wl G.2.1 (LF G)) := by
  refine go_aload_n (pc := 1183) dL_law_1183 rfl rfl ?_
  refine go_aload_n (pc := 1184) dL_law_1184 rfl rfl ?_
  refine go_iload_n (pc := 1185) dL_law_1185 rfl rfl ?_
  refine go_iconst (pc := 1186) (v := 1) dL_law_1186 (by decide) ?_
  refine go_iadd (pc := 1187) dL_law_1187 ?_
  refine go_top (y := 1) (by decide) ?_
  refine go_sld (pc := 1188) (by rw [hL]; exact gv_in (by decide)) dL_law_1188 ?_
  refine go_top (y := sc G 1) rfl ?_
  refine go_aload_n (pc := 1189) dL_law_1189 rfl rfl ?_
  refine go_iload_n (pc := 1190) dL_law_1190 rfl rfl ?_
  refine go_iconst (pc := 1191) (v := 2) dL_law_1191 (by decide) ?_
  refine go_iadd (pc := 1192) dL_law_1192 ?_
  refine go_top (y := 2) (by decide) ?_
  refine go_sld (pc := 1193) (by rw [hL]; exact gv_in (by decide)) dL_law_1193 ?_
  refine go_top (y := sc G 2) rfl ?_
  refine go_aload_n (pc := 1194) dL_law_1194 rfl rfl ?_
  refine go_iload_n (pc := 1195) dL_law_1195 rfl rfl ?_
  refine go_iconst (pc := 1196) (v := 3) dL_law_1196 (by decide) ?_
  refine go_iadd (pc := 1197) dL_law_1197 ?_
  refine go_top (y := 3) (by decide) ?_
  refine go_sld (pc := 1198) (by rw [hL]; exact gv_in (by decide)) dL_law_1198 ?_
  refine go_top (y := sc G 3) rfl ?_
  refine go_aload_n (pc := 1199) dL_law_1199 rfl rfl ?_
  refine go_iload_n (pc := 1200) dL_law_1200 rfl rfl ?_
  refine go_iconst (pc := 1201) (v := 4) dL_law_1201 (by decide) ?_
  refine go_iadd (pc := 1202) dL_law_1202 ?_
  refine go_top (y := 4) (by decide) ?_
  refine go_sld (pc := 1203) (by rw [hL]; exact gv_in (by decide)) dL_law_1203 ?_
  refine go_top (y := sc G 4) rfl ?_
  refine go_aload_n (pc := 1204) dL_law_1204 rfl rfl ?_
  refine go_iload_n (pc := 1205) dL_law_1205 rfl rfl ?_
  refine go_iconst (pc := 1206) (v := 5) dL_law_1206 (by decide) ?_
  refine go_iadd (pc := 1207) dL_law_1207 ?_
  refine go_top (y := 5) (by decide) ?_
  refine go_sld (pc := 1208) (by rw [hL]; exact gv_in (by decide)) dL_law_1208 ?_
  refine go_top (y := sc G 5) rfl ?_
  obtain ⟨fr1, lc1, nn, kn, w1, g1, g2, g3, g4, g5, hf, hct⟩ := cx_act_hi (l := l) (G := G) (sc G 1) (sc G 2) (sc G 3) (sc G 4) (sc G 5) k0 k1 k2
  refine go_callV_i (pc := 1209) vL_158 rfl (hct) rfl rfl (gz_b (by decide)) (wl_at (i := 0) rfl) rfl (Nat.le_of_ble_eq_true rfl) ⟨(show fr1 + 1 ≤ 11 by omega), (show 8 + (6 + 11) + lc1 ≤ 422 by omega), (show nn ≤ 0 + 600000 by omega), (show kn ≤ 0 + 7302250 by omega)⟩ dL_law_1209 ?_
  refine go_aload_n (pc := 1212) dL_law_1212 rfl rfl ?_
  refine go_aload_n (pc := 1213) dL_law_1213 rfl rfl ?_
  refine go_iload_n (pc := 1214) dL_law_1214 rfl rfl ?_
  refine go_iconst (pc := 1215) (v := 1) dL_law_1215 (by decide) ?_
  refine go_iadd (pc := 1216) dL_law_1216 ?_
  refine go_top (y := 1) (by decide) ?_
  refine go_sld (pc := 1217) (by rw [hL]; exact gv_in (by decide)) dL_law_1217 ?_
  refine go_top (y := sc G 1) rfl ?_
  refine go_aload_n (pc := 1218) dL_law_1218 rfl rfl ?_
  refine go_iload_n (pc := 1219) dL_law_1219 rfl rfl ?_
  refine go_iconst (pc := 1220) (v := 2) dL_law_1220 (by decide) ?_
  refine go_iadd (pc := 1221) dL_law_1221 ?_
  refine go_top (y := 2) (by decide) ?_
  refine go_sld (pc := 1222) (by rw [hL]; exact gv_in (by decide)) dL_law_1222 ?_
  refine go_top (y := sc G 2) rfl ?_
  refine go_aload_n (pc := 1223) dL_law_1223 rfl rfl ?_
  refine go_iload_n (pc := 1224) dL_law_1224 rfl rfl ?_
  refine go_iconst (pc := 1225) (v := 3) dL_law_1225 (by decide) ?_
  refine go_iadd (pc := 1226) dL_law_1226 ?_
  refine go_top (y := 3) (by decide) ?_
  refine go_sld (pc := 1227) (by rw [hL]; exact gv_in (by decide)) dL_law_1227 ?_
  refine go_top (y := sc G 3) rfl ?_
  refine go_aload_n (pc := 1228) dL_law_1228 rfl rfl ?_
  refine go_iload_n (pc := 1229) dL_law_1229 rfl rfl ?_
  refine go_iconst (pc := 1230) (v := 4) dL_law_1230 (by decide) ?_
  refine go_iadd (pc := 1231) dL_law_1231 ?_
  refine go_top (y := 4) (by decide) ?_
  refine go_sld (pc := 1232) (by rw [hL]; exact gv_in (by decide)) dL_law_1232 ?_
  refine go_top (y := sc G 4) rfl ?_
  refine go_aload_n (pc := 1233) dL_law_1233 rfl rfl ?_
  refine go_iload_n (pc := 1234) dL_law_1234 rfl rfl ?_
  refine go_iconst (pc := 1235) (v := 5) dL_law_1235 (by decide) ?_
  refine go_iadd (pc := 1236) dL_law_1236 ?_
  refine go_top (y := 5) (by decide) ?_
  refine go_sld (pc := 1237) (by rw [hL]; exact gv_in (by decide)) dL_law_1237 ?_
  refine go_top (y := sc G 5) rfl ?_
  obtain ⟨fr2, lc2, w2, q1, q2, hct2⟩ := cm_act_hi (l := l) (G := G) (sc G 1) (sc G 2) (sc G 3) (sc G 4) (sc G 5) k0 k1 k2 nn kn w1 g3 hf
  refine go_callV_i (pc := 1238) vL_161 rfl (hct2) rfl rfl (gz_b (by omega)) ((hf 32 (by decide) (by decide)).trans (wl_at (i := 32) rfl)) rfl (Nat.le_of_ble_eq_true rfl) ⟨(show fr2 + 1 ≤ 11 by omega), (show 8 + (7 + 11) + lc2 ≤ 422 by omega), (show nn ≤ 0 + 600000 by omega), (show kn ≤ 0 + 7302250 by omega)⟩ dL_law_1238 ?_
  refine go_icmp_eq_t (pc := 1241) (tgt := 1393) dL_law_1241 (by decide) rfl ?_
  exact law_next hL (by omega) (by omega)
theorem law_35 {l : Launch} {G : gG} (hL : G.2.2.2.2.2.2.1 = 6) : Go l G mL_law lawB 1183 [(3, .int 0), (2, .ref (G.2.1 + 32)), (1, .ref (G.2.1 + 0)), (0, .ref G.2.2.2.2.2.1)] [] 42 90324 (wl G.2.1 (LF G)) := by
  by_cases k0 : sc G 1 < 0
  · exact law_35_lo hL k0 (if_neg (fun q => absurd k0 (Int32.not_lt.mpr q.1)))
  by_cases k1 : 12 < sc G 1
  · exact law_35_hi hL k0 (Int32.not_le.mpr k1) (if_neg (fun q => absurd k1 (Int32.not_lt.mpr q.2)))
  obtain ⟨q, hq, e⟩ := nI_of2 (M := 12) (n := 12) (by decide) k0 (Int32.not_lt.mp k1)
  match q, hq, e with
  | 0, _, e => exact law_35_0 hL e
  | 1, _, e => exact law_35_1 hL e
  | 2, _, e => exact law_35_2 hL e
  | 3, _, e => exact law_35_3 hL e
  | 4, _, e => exact law_35_4 hL e
  | 5, _, e => exact law_35_5 hL e
  | 6, _, e => exact law_35_6 hL e
  | 7, _, e => exact law_35_7 hL e
  | 8, _, e => exact law_35_8 hL e
  | 9, _, e => exact law_35_9 hL e
  | 10, _, e => exact law_35_10 hL e
  | 11, _, e => exact law_35_11 hL e
  | 12, _, e => exact law_35_12 hL e
  | q + 13, h, _ => exact absurd h (by omega)
theorem law_1_0 {l : Launch} {G : gG} (hL : G.2.2.2.2.2.2.1 = 6) (h : sc G 1 = 0) : Go l G mL_law lawB 251 [(3, .int 0), (2, .ref (G.2.1 + 32)), (1, .ref (G.2.1 + 0)), (0, .ref G.2.2.2.2.2.1)] [] 42 90324 (wl G.2.1 (LF G)) := by
  refine go_aload_n (pc := 251) dL_law_251 rfl rfl ?_
  refine go_aload_n (pc := 252) dL_law_252 rfl rfl ?_
  refine go_iload_n (pc := 253) dL_law_253 rfl rfl ?_
  refine go_iconst (pc := 254) (v := 1) dL_law_254 (by decide) ?_
  refine go_iadd (pc := 255) dL_law_255 ?_
  refine go_top (y := 1) (by decide) ?_
  refine go_sld (pc := 256) (by rw [hL]; exact gv_in (by decide)) dL_law_256 ?_
  refine go_top (y := sc G 1) rfl ?_
  refine go_top (y := 0) h ?_
  refine go_aload_n (pc := 257) dL_law_257 rfl rfl ?_
  refine go_iload_n (pc := 258) dL_law_258 rfl rfl ?_
  refine go_iconst (pc := 259) (v := 2) dL_law_259 (by decide) ?_
  refine go_iadd (pc := 260) dL_law_260 ?_
  refine go_top (y := 2) (by decide) ?_
  refine go_sld (pc := 261) (by rw [hL]; exact gv_in (by decide)) dL_law_261 ?_
  refine go_top (y := sc G 2) rfl ?_
  obtain ⟨fr1, lc1, nn, kn, w1, g1, g2, g3, g4, g5, hf, hct⟩ := cx_make_0 (l := l) (G := G) (sc G 2)
  refine go_callV_i (pc := 262) vL_18 rfl (hct) rfl rfl (gz_b (by decide)) (wl_at (i := 0) rfl) rfl (Nat.le_of_ble_eq_true rfl) ⟨(show fr1 + 1 ≤ 11 by omega), (show 8 + (3 + 11) + lc1 ≤ 422 by omega), (show nn ≤ 0 + 600000 by omega), (show kn ≤ 0 + 7302250 by omega)⟩ dL_law_262 ?_
  refine go_aload_n (pc := 265) dL_law_265 rfl rfl ?_
  refine go_aload_n (pc := 266) dL_law_266 rfl rfl ?_
  refine go_iload_n (pc := 267) dL_law_267 rfl rfl ?_
  refine go_iconst (pc := 268) (v := 1) dL_law_268 (by decide) ?_
  refine go_iadd (pc := 269) dL_law_269 ?_
  refine go_top (y := 1) (by decide) ?_
  refine go_sld (pc := 270) (by rw [hL]; exact gv_in (by decide)) dL_law_270 ?_
  refine go_top (y := sc G 1) rfl ?_
  refine go_top (y := 0) h ?_
  refine go_aload_n (pc := 271) dL_law_271 rfl rfl ?_
  refine go_iload_n (pc := 272) dL_law_272 rfl rfl ?_
  refine go_iconst (pc := 273) (v := 2) dL_law_273 (by decide) ?_
  refine go_iadd (pc := 274) dL_law_274 ?_
  refine go_top (y := 2) (by decide) ?_
  refine go_sld (pc := 275) (by rw [hL]; exact gv_in (by decide)) dL_law_275 ?_
  refine go_top (y := sc G 2) rfl ?_
  obtain ⟨fr2, lc2, w2, q1, q2, hct2⟩ := cm_make_0 (l := l) (G := G) (sc G 2) nn kn w1 g3 hf
  refine go_callV_i (pc := 276) vL_22 rfl (hct2) rfl rfl (gz_b (by omega)) ((hf 32 (by decide) (by decide)).trans (wl_at (i := 32) rfl)) rfl (Nat.le_of_ble_eq_true rfl) ⟨(show fr2 + 1 ≤ 11 by omega), (show 8 + (3 + 11) + lc2 ≤ 422 by omega), (show nn ≤ 0 + 600000 by omega), (show kn ≤ 0 + 7302250 by omega)⟩ dL_law_276 ?_
  refine go_icmp_eq_t (pc := 279) (tgt := 1393) dL_law_279 (by decide) rfl ?_
  exact law_next hL (by omega) (by omega)
theorem law_1_3 {l : Launch} {G : gG} (hL : G.2.2.2.2.2.2.1 = 6) (h : sc G 1 = 3) : Go l G mL_law lawB 251 [(3, .int 0), (2, .ref (G.2.1 + 32)), (1, .ref (G.2.1 + 0)), (0, .ref G.2.2.2.2.2.1)] [] 42 90324 (wl G.2.1 (LF G)) := by
  refine go_aload_n (pc := 251) dL_law_251 rfl rfl ?_
  refine go_aload_n (pc := 252) dL_law_252 rfl rfl ?_
  refine go_iload_n (pc := 253) dL_law_253 rfl rfl ?_
  refine go_iconst (pc := 254) (v := 1) dL_law_254 (by decide) ?_
  refine go_iadd (pc := 255) dL_law_255 ?_
  refine go_top (y := 1) (by decide) ?_
  refine go_sld (pc := 256) (by rw [hL]; exact gv_in (by decide)) dL_law_256 ?_
  refine go_top (y := sc G 1) rfl ?_
  refine go_top (y := 3) h ?_
  refine go_aload_n (pc := 257) dL_law_257 rfl rfl ?_
  refine go_iload_n (pc := 258) dL_law_258 rfl rfl ?_
  refine go_iconst (pc := 259) (v := 2) dL_law_259 (by decide) ?_
  refine go_iadd (pc := 260) dL_law_260 ?_
  refine go_top (y := 2) (by decide) ?_
  refine go_sld (pc := 261) (by rw [hL]; exact gv_in (by decide)) dL_law_261 ?_
  refine go_top (y := sc G 2) rfl ?_
  obtain ⟨fr1, lc1, nn, kn, w1, g1, g2, g3, g4, g5, hf, hct⟩ := cx_make_3 (l := l) (G := G) (sc G 2)
  refine go_callV_i (pc := 262) vL_18 rfl (hct) rfl rfl (gz_b (by decide)) (wl_at (i := 0) rfl) rfl (Nat.le_of_ble_eq_true rfl) ⟨(show fr1 + 1 ≤ 11 by omega), (show 8 + (3 + 11) + lc1 ≤ 422 by omega), (show nn ≤ 0 + 600000 by omega), (show kn ≤ 0 + 7302250 by omega)⟩ dL_law_262 ?_
  refine go_aload_n (pc := 265) dL_law_265 rfl rfl ?_
  refine go_aload_n (pc := 266) dL_law_266 rfl rfl ?_
  refine go_iload_n (pc := 267) dL_law_267 rfl rfl ?_
  refine go_iconst (pc := 268) (v := 1) dL_law_268 (by decide) ?_
  refine go_iadd (pc := 269) dL_law_269 ?_
  refine go_top (y := 1) (by decide) ?_
  refine go_sld (pc := 270) (by rw [hL]; exact gv_in (by decide)) dL_law_270 ?_
  refine go_top (y := sc G 1) rfl ?_
  refine go_top (y := 3) h ?_
  refine go_aload_n (pc := 271) dL_law_271 rfl rfl ?_
  refine go_iload_n (pc := 272) dL_law_272 rfl rfl ?_
  refine go_iconst (pc := 273) (v := 2) dL_law_273 (by decide) ?_
  refine go_iadd (pc := 274) dL_law_274 ?_
  refine go_top (y := 2) (by decide) ?_
  refine go_sld (pc := 275) (by rw [hL]; exact gv_in (by decide)) dL_law_275 ?_
  refine go_top (y := sc G 2) rfl ?_
  obtain ⟨fr2, lc2, w2, q1, q2, hct2⟩ := cm_make_3 (l := l) (G := G) (sc G 2) nn kn w1 g3 hf
  refine go_callV_i (pc := 276) vL_22 rfl (hct2) rfl rfl (gz_b (by omega)) ((hf 32 (by decide) (by decide)).trans (wl_at (i := 32) rfl)) rfl (Nat.le_of_ble_eq_true rfl) ⟨(show fr2 + 1 ≤ 11 by omega), (show 8 + (3 + 11) + lc2 ≤ 422 by omega), (show nn ≤ 0 + 600000 by omega), (show kn ≤ 0 + 7302250 by omega)⟩ dL_law_276 ?_
  refine go_icmp_eq_t (pc := 279) (tgt := 1393) dL_law_279 (by decide) rfl ?_
  exact law_next hL (by omega) (by omega)
theorem law_1_4 {l : Launch} {G : gG} (hL : G.2.2.2.2.2.2.1 = 6) (h : sc G 1 = 4) : Go l G mL_law lawB 251 [(3, .int 0), (2, .ref (G.2.1 + 32)), (1, .ref (G.2.1 + 0)), (0, .ref G.2.2.2.2.2.1)] [] 42 90324 (wl G.2.1 (LF G)) := by
  refine go_aload_n (pc := 251) dL_law_251 rfl rfl ?_
  refine go_aload_n (pc := 252) dL_law_252 rfl rfl ?_
  refine go_iload_n (pc := 253) dL_law_253 rfl rfl ?_
  refine go_iconst (pc := 254) (v := 1) dL_law_254 (by decide) ?_
  refine go_iadd (pc := 255) dL_law_255 ?_
  refine go_top (y := 1) (by decide) ?_
  refine go_sld (pc := 256) (by rw [hL]; exact gv_in (by decide)) dL_law_256 ?_
  refine go_top (y := sc G 1) rfl ?_
  refine go_top (y := 4) h ?_
  refine go_aload_n (pc := 257) dL_law_257 rfl rfl ?_
  refine go_iload_n (pc := 258) dL_law_258 rfl rfl ?_
  refine go_iconst (pc := 259) (v := 2) dL_law_259 (by decide) ?_
  refine go_iadd (pc := 260) dL_law_260 ?_
  refine go_top (y := 2) (by decide) ?_
  refine go_sld (pc := 261) (by rw [hL]; exact gv_in (by decide)) dL_law_261 ?_
  refine go_top (y := sc G 2) rfl ?_
  obtain ⟨fr1, lc1, nn, kn, w1, g1, g2, g3, g4, g5, hf, hct⟩ := cx_make_4 (l := l) (G := G) (sc G 2)
  refine go_callV_i (pc := 262) vL_18 rfl (hct) rfl rfl (gz_b (by decide)) (wl_at (i := 0) rfl) rfl (Nat.le_of_ble_eq_true rfl) ⟨(show fr1 + 1 ≤ 11 by omega), (show 8 + (3 + 11) + lc1 ≤ 422 by omega), (show nn ≤ 0 + 600000 by omega), (show kn ≤ 0 + 7302250 by omega)⟩ dL_law_262 ?_
  refine go_aload_n (pc := 265) dL_law_265 rfl rfl ?_
  refine go_aload_n (pc := 266) dL_law_266 rfl rfl ?_
  refine go_iload_n (pc := 267) dL_law_267 rfl rfl ?_
  refine go_iconst (pc := 268) (v := 1) dL_law_268 (by decide) ?_
  refine go_iadd (pc := 269) dL_law_269 ?_
  refine go_top (y := 1) (by decide) ?_
  refine go_sld (pc := 270) (by rw [hL]; exact gv_in (by decide)) dL_law_270 ?_
  refine go_top (y := sc G 1) rfl ?_
  refine go_top (y := 4) h ?_
  refine go_aload_n (pc := 271) dL_law_271 rfl rfl ?_
  refine go_iload_n (pc := 272) dL_law_272 rfl rfl ?_
  refine go_iconst (pc := 273) (v := 2) dL_law_273 (by decide) ?_
  refine go_iadd (pc := 274) dL_law_274 ?_
  refine go_top (y := 2) (by decide) ?_
  refine go_sld (pc := 275) (by rw [hL]; exact gv_in (by decide)) dL_law_275 ?_
  refine go_top (y := sc G 2) rfl ?_
  obtain ⟨fr2, lc2, w2, q1, q2, hct2⟩ := cm_make_4 (l := l) (G := G) (sc G 2) nn kn w1 g3 hf
  refine go_callV_i (pc := 276) vL_22 rfl (hct2) rfl rfl (gz_b (by omega)) ((hf 32 (by decide) (by decide)).trans (wl_at (i := 32) rfl)) rfl (Nat.le_of_ble_eq_true rfl) ⟨(show fr2 + 1 ≤ 11 by omega), (show 8 + (3 + 11) + lc2 ≤ 422 by omega), (show nn ≤ 0 + 600000 by omega), (show kn ≤ 0 + 7302250 by omega)⟩ dL_law_276 ?_
  refine go_icmp_eq_t (pc := 279) (tgt := 1393) dL_law_279 (by decide) rfl ?_
  exact law_next hL (by omega) (by omega)
theorem law_1_lo {l : Launch} {G : gG} (hL : G.2.2.2.2.2.2.1 = 6) (k0 : sc G 1 < 0) (k2 : (if 0 ≤ sc G 1 ∧ sc G 1 ≤ 5 then (1 : Int32) else 0) = 0) : Go l G mL_law lawB 251 [(3, .int 0), (2, .ref (G.2.1 + 32)), (1, .ref (G.2.1 + 0)), (0, .ref G.2.2.2.2.2.1)] [] 42 90324 (wl G.2.1 (LF G)) := by
  refine go_aload_n (pc := 251) dL_law_251 rfl rfl ?_
  refine go_aload_n (pc := 252) dL_law_252 rfl rfl ?_
  refine go_iload_n (pc := 253) dL_law_253 rfl rfl ?_
  refine go_iconst (pc := 254) (v := 1) dL_law_254 (by decide) ?_
  refine go_iadd (pc := 255) dL_law_255 ?_
  refine go_top (y := 1) (by decide) ?_
  refine go_sld (pc := 256) (by rw [hL]; exact gv_in (by decide)) dL_law_256 ?_
  refine go_top (y := sc G 1) rfl ?_
  refine go_aload_n (pc := 257) dL_law_257 rfl rfl ?_
  refine go_iload_n (pc := 258) dL_law_258 rfl rfl ?_
  refine go_iconst (pc := 259) (v := 2) dL_law_259 (by decide) ?_
  refine go_iadd (pc := 260) dL_law_260 ?_
  refine go_top (y := 2) (by decide) ?_
  refine go_sld (pc := 261) (by rw [hL]; exact gv_in (by decide)) dL_law_261 ?_
  refine go_top (y := sc G 2) rfl ?_
  obtain ⟨fr1, lc1, nn, kn, w1, g1, g2, g3, g4, g5, hf, hct⟩ := cx_make_lo (l := l) (G := G) (sc G 1) (sc G 2) k0 k2
  refine go_callV_i (pc := 262) vL_18 rfl (hct) rfl rfl (gz_b (by decide)) (wl_at (i := 0) rfl) rfl (Nat.le_of_ble_eq_true rfl) ⟨(show fr1 + 1 ≤ 11 by omega), (show 8 + (3 + 11) + lc1 ≤ 422 by omega), (show nn ≤ 0 + 600000 by omega), (show kn ≤ 0 + 7302250 by omega)⟩ dL_law_262 ?_
  refine go_aload_n (pc := 265) dL_law_265 rfl rfl ?_
  refine go_aload_n (pc := 266) dL_law_266 rfl rfl ?_
  refine go_iload_n (pc := 267) dL_law_267 rfl rfl ?_
  refine go_iconst (pc := 268) (v := 1) dL_law_268 (by decide) ?_
  refine go_iadd (pc := 269) dL_law_269 ?_
  refine go_top (y := 1) (by decide) ?_
  refine go_sld (pc := 270) (by rw [hL]; exact gv_in (by decide)) dL_law_270 ?_
  refine go_top (y := sc G 1) rfl ?_
  refine go_aload_n (pc := 271) dL_law_271 rfl rfl ?_
  refine go_iload_n (pc := 272) dL_law_272 rfl rfl ?_
  refine go_iconst (pc := 273) (v := 2) dL_law_273 (by decide) ?_
  refine go_iadd (pc := 274) dL_law_274 ?_
  refine go_top (y := 2) (by decide) ?_
  refine go_sld (pc := 275) (by rw [hL]; exact gv_in (by decide)) dL_law_275 ?_
  refine go_top (y := sc G 2) rfl ?_
  obtain ⟨fr2, lc2, w2, q1, q2, hct2⟩ := cm_make_lo (l := l) (G := G) (sc G 1) (sc G 2) k0 k2 nn kn w1 g3 hf
  refine go_callV_i (pc := 276) vL_22 rfl (hct2) rfl rfl (gz_b (by omega)) ((hf 32 (by decide) (by decide)).trans (wl_at (i := 32) rfl)) rfl (Nat.le_of_ble_eq_true rfl) ⟨(show fr2 + 1 ≤ 11 by omega), (show 8 + (3 + 11) + lc2 ≤ 422 by omega), (show nn ≤ 0 + 600000 by omega), (show kn ≤ 0 + 7302250 by omega)⟩ dL_law_276 ?_
  refine go_icmp_eq_t (pc := 279) (tgt := 1393) dL_law_279 (by decide) rfl ?_
  exact law_next hL (by omega) (by omega)
theorem law_1_hi {l : Launch} {G : gG} (hL : G.2.2.2.2.2.2.1 = 6) (k0 : ¬ sc G 1 < 0) (k1 : 6 ≤ sc G 1) (k2 : (if 0 ≤ sc G 1 ∧ sc G 1 ≤ 5 then (1 : Int32) else 0) = 0) : Go l G mL_law lawB 251 [(3, .int 0), (2, .ref (G.2.1 + 32)), (1, .ref (G.2.1 + 0)), (0, .ref G.2.2.2.2.2.1)] [] 42 90324 (wl G.2.1 (LF G)) := by
  refine go_aload_n (pc := 251) dL_law_251 rfl rfl ?_
  refine go_aload_n (pc := 252) dL_law_252 rfl rfl ?_
  refine go_iload_n (pc := 253) dL_law_253 rfl rfl ?_
  refine go_iconst (pc := 254) (v := 1) dL_law_254 (by decide) ?_
  refine go_iadd (pc := 255) dL_law_255 ?_
  refine go_top (y := 1) (by decide) ?_
  refine go_sld (pc := 256) (by rw [hL]; exact gv_in (by decide)) dL_law_256 ?_
  refine go_top (y := sc G 1) rfl ?_
  refine go_aload_n (pc := 257) dL_law_257 rfl rfl ?_
  refine go_iload_n (pc := 258) dL_law_258 rfl rfl ?_
  refine go_iconst (pc := 259) (v := 2) dL_law_259 (by decide) ?_
  refine go_iadd (pc := 260) dL_law_260 ?_
  refine go_top (y := 2) (by decide) ?_
  refine go_sld (pc := 261) (by rw [hL]; exact gv_in (by decide)) dL_law_261 ?_
  refine go_top (y := sc G 2) rfl ?_
  obtain ⟨fr1, lc1, nn, kn, w1, g1, g2, g3, g4, g5, hf, hct⟩ := cx_make_hi (l := l) (G := G) (sc G 1) (sc G 2) k0 k1 k2
  refine go_callV_i (pc := 262) vL_18 rfl (hct) rfl rfl (gz_b (by decide)) (wl_at (i := 0) rfl) rfl (Nat.le_of_ble_eq_true rfl) ⟨(show fr1 + 1 ≤ 11 by omega), (show 8 + (3 + 11) + lc1 ≤ 422 by omega), (show nn ≤ 0 + 600000 by omega), (show kn ≤ 0 + 7302250 by omega)⟩ dL_law_262 ?_
  refine go_aload_n (pc := 265) dL_law_265 rfl rfl ?_
  refine go_aload_n (pc := 266) dL_law_266 rfl rfl ?_
  refine go_iload_n (pc := 267) dL_law_267 rfl rfl ?_
  refine go_iconst (pc := 268) (v := 1) dL_law_268 (by decide) ?_
  refine go_iadd (pc := 269) dL_law_269 ?_
  refine go_top (y := 1) (by decide) ?_
  refine go_sld (pc := 270) (by rw [hL]; exact gv_in (by decide)) dL_law_270 ?_
  refine go_top (y := sc G 1) rfl ?_
  refine go_aload_n (pc := 271) dL_law_271 rfl rfl ?_
  refine go_iload_n (pc := 272) dL_law_272 rfl rfl ?_
  refine go_iconst (pc := 273) (v := 2) dL_law_273 (by decide) ?_
  refine go_iadd (pc := 274) dL_law_274 ?_
  refine go_top (y := 2) (by decide) ?_
  refine go_sld (pc := 275) (by rw [hL]; exact gv_in (by decide)) dL_law_275 ?_
  refine go_top (y := sc G 2) rfl ?_
  obtain ⟨fr2, lc2, w2, q1, q2, hct2⟩ := cm_make_hi (l := l) (G := G) (sc G 1) (sc G 2) k0 k1 k2 nn kn w1 g3 hf
  refine go_callV_i (pc := 276) vL_22 rfl (hct2) rfl rfl (gz_b (by omega)) ((hf 32 (by decide) (by decide)).trans (wl_at (i := 32) rfl)) rfl (Nat.le_of_ble_eq_true rfl) ⟨(show fr2 + 1 ≤ 11 by omega), (show 8 + (3 + 11) + lc2 ≤ 422 by omega), (show nn ≤ 0 + 600000 by omega), (show kn ≤ 0 + 7302250 by omega)⟩ dL_law_276 ?_
  refine go_icmp_eq_t (pc := 279) (tgt := 1393) dL_law_279 (by decide) rfl ?_
  exact law_next hL (by omega) (by omega)
theorem law_1_1a {l : Launch} {G : gG} (hL : G.2.2.2.2.2.2.1 = 6) (h : sc G 1 = 1) (k0 : ¬ sc G 2 ≤ 300) : Go l G mL_law lawB 251 [(3, .int 0), (2, .ref (G.2.1 + 32)), (1, .ref (G.2.1 + 0)), (0, .ref G.2.2.2.2.2.1)] [] 42 90324 (wl G.2.1 (LF G)) := by
  refine go_aload_n (pc := 251) dL_law_251 rfl rfl ?_
  refine go_aload_n (pc := 252) dL_law_252 rfl rfl ?_
  refine go_iload_n (pc := 253) dL_law_253 rfl rfl ?_
  refine go_iconst (pc := 254) (v := 1) dL_law_254 (by decide) ?_
  refine go_iadd (pc := 255) dL_law_255 ?_
  refine go_top (y := 1) (by decide) ?_
  refine go_sld (pc := 256) (by rw [hL]; exact gv_in (by decide)) dL_law_256 ?_
  refine go_top (y := sc G 1) rfl ?_
  refine go_top (y := 1) h ?_
  refine go_aload_n (pc := 257) dL_law_257 rfl rfl ?_
  refine go_iload_n (pc := 258) dL_law_258 rfl rfl ?_
  refine go_iconst (pc := 259) (v := 2) dL_law_259 (by decide) ?_
  refine go_iadd (pc := 260) dL_law_260 ?_
  refine go_top (y := 2) (by decide) ?_
  refine go_sld (pc := 261) (by rw [hL]; exact gv_in (by decide)) dL_law_261 ?_
  refine go_top (y := sc G 2) rfl ?_
  obtain ⟨fr1, lc1, nn, kn, w1, g1, g2, g3, g4, g5, hf, hct⟩ := cx_make_1a (l := l) (G := G) (sc G 2) k0
  refine go_callV_i (pc := 262) vL_18 rfl (hct) rfl rfl (gz_b (by decide)) (wl_at (i := 0) rfl) rfl (Nat.le_of_ble_eq_true rfl) ⟨(show fr1 + 1 ≤ 11 by omega), (show 8 + (3 + 11) + lc1 ≤ 422 by omega), (show nn ≤ 0 + 600000 by omega), (show kn ≤ 0 + 7302250 by omega)⟩ dL_law_262 ?_
  refine go_aload_n (pc := 265) dL_law_265 rfl rfl ?_
  refine go_aload_n (pc := 266) dL_law_266 rfl rfl ?_
  refine go_iload_n (pc := 267) dL_law_267 rfl rfl ?_
  refine go_iconst (pc := 268) (v := 1) dL_law_268 (by decide) ?_
  refine go_iadd (pc := 269) dL_law_269 ?_
  refine go_top (y := 1) (by decide) ?_
  refine go_sld (pc := 270) (by rw [hL]; exact gv_in (by decide)) dL_law_270 ?_
  refine go_top (y := sc G 1) rfl ?_
  refine go_top (y := 1) h ?_
  refine go_aload_n (pc := 271) dL_law_271 rfl rfl ?_
  refine go_iload_n (pc := 272) dL_law_272 rfl rfl ?_
  refine go_iconst (pc := 273) (v := 2) dL_law_273 (by decide) ?_
  refine go_iadd (pc := 274) dL_law_274 ?_
  refine go_top (y := 2) (by decide) ?_
  refine go_sld (pc := 275) (by rw [hL]; exact gv_in (by decide)) dL_law_275 ?_
  refine go_top (y := sc G 2) rfl ?_
  obtain ⟨fr2, lc2, w2, q1, q2, hct2⟩ := cm_make_1a (l := l) (G := G) (sc G 2) k0 nn kn w1 g3 hf
  refine go_callV_i (pc := 276) vL_22 rfl (hct2) rfl rfl (gz_b (by omega)) ((hf 32 (by decide) (by decide)).trans (wl_at (i := 32) rfl)) rfl (Nat.le_of_ble_eq_true rfl) ⟨(show fr2 + 1 ≤ 11 by omega), (show 8 + (3 + 11) + lc2 ≤ 422 by omega), (show nn ≤ 0 + 600000 by omega), (show kn ≤ 0 + 7302250 by omega)⟩ dL_law_276 ?_
  refine go_icmp_eq_t (pc := 279) (tgt := 1393) dL_law_279 (by decide) rfl ?_
  exact law_next hL (by omega) (by omega)
theorem law_1_1b {l : Launch} {G : gG} (hL : G.2.2.2.2.2.2.1 = 6) (h : sc G 1 = 1) (k0 : sc G 2 ≤ 300) (k1 : ¬ 0 ≤ sc G 2) (k4 : sc G 2 < 0) : Go l G mL_law lawB 251 [(3, .int 0), (2, .ref (G.2.1 + 32)), (1, .ref (G.2.1 + 0)), (0, .ref G.2.2.2.2.2.1)] [] 42 90324 (wl G.2.1 (LF G)) := by
  refine go_aload_n (pc := 251) dL_law_251 rfl rfl ?_
  refine go_aload_n (pc := 252) dL_law_252 rfl rfl ?_
  refine go_iload_n (pc := 253) dL_law_253 rfl rfl ?_
  refine go_iconst (pc := 254) (v := 1) dL_law_254 (by decide) ?_
  refine go_iadd (pc := 255) dL_law_255 ?_
  refine go_top (y := 1) (by decide) ?_
  refine go_sld (pc := 256) (by rw [hL]; exact gv_in (by decide)) dL_law_256 ?_
  refine go_top (y := sc G 1) rfl ?_
  refine go_top (y := 1) h ?_
  refine go_aload_n (pc := 257) dL_law_257 rfl rfl ?_
  refine go_iload_n (pc := 258) dL_law_258 rfl rfl ?_
  refine go_iconst (pc := 259) (v := 2) dL_law_259 (by decide) ?_
  refine go_iadd (pc := 260) dL_law_260 ?_
  refine go_top (y := 2) (by decide) ?_
  refine go_sld (pc := 261) (by rw [hL]; exact gv_in (by decide)) dL_law_261 ?_
  refine go_top (y := sc G 2) rfl ?_
  obtain ⟨fr1, lc1, nn, kn, w1, g1, g2, g3, g4, g5, hf, hct⟩ := cx_make_1b (l := l) (G := G) (sc G 2) k0 k1 k4
  refine go_callV_i (pc := 262) vL_18 rfl (hct) rfl rfl (gz_b (by decide)) (wl_at (i := 0) rfl) rfl (Nat.le_of_ble_eq_true rfl) ⟨(show fr1 + 1 ≤ 11 by omega), (show 8 + (3 + 11) + lc1 ≤ 422 by omega), (show nn ≤ 0 + 600000 by omega), (show kn ≤ 0 + 7302250 by omega)⟩ dL_law_262 ?_
  refine go_aload_n (pc := 265) dL_law_265 rfl rfl ?_
  refine go_aload_n (pc := 266) dL_law_266 rfl rfl ?_
  refine go_iload_n (pc := 267) dL_law_267 rfl rfl ?_
  refine go_iconst (pc := 268) (v := 1) dL_law_268 (by decide) ?_
  refine go_iadd (pc := 269) dL_law_269 ?_
  refine go_top (y := 1) (by decide) ?_
  refine go_sld (pc := 270) (by rw [hL]; exact gv_in (by decide)) dL_law_270 ?_
  refine go_top (y := sc G 1) rfl ?_
  refine go_top (y := 1) h ?_
  refine go_aload_n (pc := 271) dL_law_271 rfl rfl ?_
  refine go_iload_n (pc := 272) dL_law_272 rfl rfl ?_
  refine go_iconst (pc := 273) (v := 2) dL_law_273 (by decide) ?_
  refine go_iadd (pc := 274) dL_law_274 ?_
  refine go_top (y := 2) (by decide) ?_
  refine go_sld (pc := 275) (by rw [hL]; exact gv_in (by decide)) dL_law_275 ?_
  refine go_top (y := sc G 2) rfl ?_
  obtain ⟨fr2, lc2, w2, q1, q2, hct2⟩ := cm_make_1b (l := l) (G := G) (sc G 2) k0 k1 k4 nn kn w1 g3 hf
  refine go_callV_i (pc := 276) vL_22 rfl (hct2) rfl rfl (gz_b (by omega)) ((hf 32 (by decide) (by decide)).trans (wl_at (i := 32) rfl)) rfl (Nat.le_of_ble_eq_true rfl) ⟨(show fr2 + 1 ≤ 11 by omega), (show 8 + (3 + 11) + lc2 ≤ 422 by omega), (show nn ≤ 0 + 600000 by omega), (show kn ≤ 0 + 7302250 by omega)⟩ dL_law_276 ?_
  refine go_icmp_eq_t (pc := 279) (tgt := 1393) dL_law_279 (by decide) rfl ?_
  exact law_next hL (by omega) (by omega)
theorem law_1_1c {l : Launch} {G : gG} (hL : G.2.2.2.2.2.2.1 = 6) (h : sc G 1 = 1) (k0 : sc G 2 ≤ 300) (k1 : 0 ≤ sc G 2) (k4 : ¬ sc G 2 < 0) (k2 : ¬ 2 + (sc G 2) ≤ 256) (k3 : ¬ 0 + (2 + (sc G 2)) ≤ 256) : Go l G mL_law lawB 251 [(3, .int 0), (2, .ref (G.2.1 + 32)), (1, .ref (G.2.1 + 0)), (0, .ref G.2.2.2.2.2.1)] [] 42 90324 (wl G.2.1 (LF G)) := by
  refine go_aload_n (pc := 251) dL_law_251 rfl rfl ?_
  refine go_aload_n (pc := 252) dL_law_252 rfl rfl ?_
  refine go_iload_n (pc := 253) dL_law_253 rfl rfl ?_
  refine go_iconst (pc := 254) (v := 1) dL_law_254 (by decide) ?_
  refine go_iadd (pc := 255) dL_law_255 ?_
  refine go_top (y := 1) (by decide) ?_
  refine go_sld (pc := 256) (by rw [hL]; exact gv_in (by decide)) dL_law_256 ?_
  refine go_top (y := sc G 1) rfl ?_
  refine go_top (y := 1) h ?_
  refine go_aload_n (pc := 257) dL_law_257 rfl rfl ?_
  refine go_iload_n (pc := 258) dL_law_258 rfl rfl ?_
  refine go_iconst (pc := 259) (v := 2) dL_law_259 (by decide) ?_
  refine go_iadd (pc := 260) dL_law_260 ?_
  refine go_top (y := 2) (by decide) ?_
  refine go_sld (pc := 261) (by rw [hL]; exact gv_in (by decide)) dL_law_261 ?_
  refine go_top (y := sc G 2) rfl ?_
  obtain ⟨fr1, lc1, nn, kn, w1, g1, g2, g3, g4, g5, hf, hct⟩ := cx_make_1c (l := l) (G := G) (sc G 2) k0 k1 k4 k2 k3
  refine go_callV_i (pc := 262) vL_18 rfl (hct) rfl rfl (gz_b (by decide)) (wl_at (i := 0) rfl) rfl (Nat.le_of_ble_eq_true rfl) ⟨(show fr1 + 1 ≤ 11 by omega), (show 8 + (3 + 11) + lc1 ≤ 422 by omega), (show nn ≤ 0 + 600000 by omega), (show kn ≤ 0 + 7302250 by omega)⟩ dL_law_262 ?_
  refine go_aload_n (pc := 265) dL_law_265 rfl rfl ?_
  refine go_aload_n (pc := 266) dL_law_266 rfl rfl ?_
  refine go_iload_n (pc := 267) dL_law_267 rfl rfl ?_
  refine go_iconst (pc := 268) (v := 1) dL_law_268 (by decide) ?_
  refine go_iadd (pc := 269) dL_law_269 ?_
  refine go_top (y := 1) (by decide) ?_
  refine go_sld (pc := 270) (by rw [hL]; exact gv_in (by decide)) dL_law_270 ?_
  refine go_top (y := sc G 1) rfl ?_
  refine go_top (y := 1) h ?_
  refine go_aload_n (pc := 271) dL_law_271 rfl rfl ?_
  refine go_iload_n (pc := 272) dL_law_272 rfl rfl ?_
  refine go_iconst (pc := 273) (v := 2) dL_law_273 (by decide) ?_
  refine go_iadd (pc := 274) dL_law_274 ?_
  refine go_top (y := 2) (by decide) ?_
  refine go_sld (pc := 275) (by rw [hL]; exact gv_in (by decide)) dL_law_275 ?_
  refine go_top (y := sc G 2) rfl ?_
  obtain ⟨fr2, lc2, w2, q1, q2, hct2⟩ := cm_make_1c (l := l) (G := G) (sc G 2) k0 k1 k4 k2 k3 nn kn w1 g3 hf
  refine go_callV_i (pc := 276) vL_22 rfl (hct2) rfl rfl (gz_b (by omega)) ((hf 32 (by decide) (by decide)).trans (wl_at (i := 32) rfl)) rfl (Nat.le_of_ble_eq_true rfl) ⟨(show fr2 + 1 ≤ 11 by omega), (show 8 + (3 + 11) + lc2 ≤ 422 by omega), (show nn ≤ 0 + 600000 by omega), (show kn ≤ 0 + 7302250 by omega)⟩ dL_law_276 ?_
  refine go_icmp_eq_t (pc := 279) (tgt := 1393) dL_law_279 (by decide) rfl ?_
  exact law_next hL (by omega) (by omega)
theorem law_1_1d {l : Launch} {G : gG} (hL : G.2.2.2.2.2.2.1 = 6) (h : sc G 1 = 1) (q : Nat) (hq : q ≤ 254) (e : sc G 2 = nI q) (k0 : nI q ≤ 300) (k1 : 0 ≤ nI q) (k4 : ¬ nI q < 0) (k2 : 2 + (nI q) ≤ 256) : Go l G mL_law lawB 251 [(3, .int 0), (2, .ref (G.2.1 + 32)), (1, .ref (G.2.1 + 0)), (0, .ref G.2.2.2.2.2.1)] [] 42 90324 (wl G.2.1 (LF G)) := by
  refine go_aload_n (pc := 251) dL_law_251 rfl rfl ?_
  refine go_aload_n (pc := 252) dL_law_252 rfl rfl ?_
  refine go_iload_n (pc := 253) dL_law_253 rfl rfl ?_
  refine go_iconst (pc := 254) (v := 1) dL_law_254 (by decide) ?_
  refine go_iadd (pc := 255) dL_law_255 ?_
  refine go_top (y := 1) (by decide) ?_
  refine go_sld (pc := 256) (by rw [hL]; exact gv_in (by decide)) dL_law_256 ?_
  refine go_top (y := sc G 1) rfl ?_
  refine go_top (y := 1) h ?_
  refine go_aload_n (pc := 257) dL_law_257 rfl rfl ?_
  refine go_iload_n (pc := 258) dL_law_258 rfl rfl ?_
  refine go_iconst (pc := 259) (v := 2) dL_law_259 (by decide) ?_
  refine go_iadd (pc := 260) dL_law_260 ?_
  refine go_top (y := 2) (by decide) ?_
  refine go_sld (pc := 261) (by rw [hL]; exact gv_in (by decide)) dL_law_261 ?_
  refine go_top (y := sc G 2) rfl ?_
  refine go_top (y := nI q) e ?_
  obtain ⟨fr1, lc1, nn, kn, w1, g1, g2, g3, g4, g5, hf, hct⟩ := cx_make_1d (l := l) (G := G) q hq k0 k1 k4 k2
  refine go_callV_i (pc := 262) vL_18 rfl (hct) rfl rfl (gz_b (by decide)) (wl_at (i := 0) rfl) rfl (Nat.le_of_ble_eq_true rfl) ⟨(show fr1 + 1 ≤ 11 by omega), (show 8 + (3 + 11) + lc1 ≤ 422 by omega), (show nn ≤ 0 + 600000 by omega), (show kn ≤ 0 + 7302250 by omega)⟩ dL_law_262 ?_
  refine go_aload_n (pc := 265) dL_law_265 rfl rfl ?_
  refine go_aload_n (pc := 266) dL_law_266 rfl rfl ?_
  refine go_iload_n (pc := 267) dL_law_267 rfl rfl ?_
  refine go_iconst (pc := 268) (v := 1) dL_law_268 (by decide) ?_
  refine go_iadd (pc := 269) dL_law_269 ?_
  refine go_top (y := 1) (by decide) ?_
  refine go_sld (pc := 270) (by rw [hL]; exact gv_in (by decide)) dL_law_270 ?_
  refine go_top (y := sc G 1) rfl ?_
  refine go_top (y := 1) h ?_
  refine go_aload_n (pc := 271) dL_law_271 rfl rfl ?_
  refine go_iload_n (pc := 272) dL_law_272 rfl rfl ?_
  refine go_iconst (pc := 273) (v := 2) dL_law_273 (by decide) ?_
  refine go_iadd (pc := 274) dL_law_274 ?_
  refine go_top (y := 2) (by decide) ?_
  refine go_sld (pc := 275) (by rw [hL]; exact gv_in (by decide)) dL_law_275 ?_
  refine go_top (y := sc G 2) rfl ?_
  refine go_top (y := nI q) e ?_
  obtain ⟨fr2, lc2, w2, q1, q2, hct2⟩ := cm_make_1d (l := l) (G := G) q hq k0 k1 k4 k2 nn kn w1 g3 hf
  refine go_callV_i (pc := 276) vL_22 rfl (hct2) rfl rfl (gz_b (by omega)) ((hf 32 (by decide) (by decide)).trans (wl_at (i := 32) rfl)) rfl (Nat.le_of_ble_eq_true rfl) ⟨(show fr2 + 1 ≤ 11 by omega), (show 8 + (3 + 11) + lc2 ≤ 422 by omega), (show nn ≤ 0 + 600000 by omega), (show kn ≤ 0 + 7302250 by omega)⟩ dL_law_276 ?_
  refine go_icmp_eq_t (pc := 279) (tgt := 1393) dL_law_279 (by decide) rfl ?_
  exact law_next hL (by omega) (by omega)
theorem law_1_1 {l : Launch} {G : gG} (hL : G.2.2.2.2.2.2.1 = 6) (h : sc G 1 = 1) : Go l G mL_law lawB 251 [(3, .int 0), (2, .ref (G.2.1 + 32)), (1, .ref (G.2.1 + 0)), (0, .ref G.2.2.2.2.2.1)] [] 42 90324 (wl G.2.1 (LF G)) := by
  by_cases k0 : sc G 2 ≤ 300
  · by_cases k1 : 0 ≤ sc G 2
    · have k4 : ¬ sc G 2 < 0 := Int32.not_lt.mpr k1
      by_cases k2 : 2 + (sc G 2) ≤ 256
      · obtain ⟨q, hq0, e⟩ := nI_of2 (M := 300) (n := 300) (by decide) k4 k0
        rw [e] at k0 k1 k4 k2
        have hq : q ≤ 254 := gj_row hq0 k2
        exact law_1_1d hL h q hq e k0 k1 k4 k2
      · exact law_1_1c hL h k0 k1 k4 k2 (by rw [gj_zero]; exact k2)
    · exact law_1_1b hL h k0 k1 (Int32.not_le.mp k1)
  · exact law_1_1a hL h k0
theorem law_1_2a {l : Launch} {G : gG} (hL : G.2.2.2.2.2.2.1 = 6) (h : sc G 1 = 2) (k0 : ¬ sc G 2 ≤ 300) : Go l G mL_law lawB 251 [(3, .int 0), (2, .ref (G.2.1 + 32)), (1, .ref (G.2.1 + 0)), (0, .ref G.2.2.2.2.2.1)] [] 42 90324 (wl G.2.1 (LF G)) := by
  refine go_aload_n (pc := 251) dL_law_251 rfl rfl ?_
  refine go_aload_n (pc := 252) dL_law_252 rfl rfl ?_
  refine go_iload_n (pc := 253) dL_law_253 rfl rfl ?_
  refine go_iconst (pc := 254) (v := 1) dL_law_254 (by decide) ?_
  refine go_iadd (pc := 255) dL_law_255 ?_
  refine go_top (y := 1) (by decide) ?_
  refine go_sld (pc := 256) (by rw [hL]; exact gv_in (by decide)) dL_law_256 ?_
  refine go_top (y := sc G 1) rfl ?_
  refine go_top (y := 2) h ?_
  refine go_aload_n (pc := 257) dL_law_257 rfl rfl ?_
  refine go_iload_n (pc := 258) dL_law_258 rfl rfl ?_
  refine go_iconst (pc := 259) (v := 2) dL_law_259 (by decide) ?_
  refine go_iadd (pc := 260) dL_law_260 ?_
  refine go_top (y := 2) (by decide) ?_
  refine go_sld (pc := 261) (by rw [hL]; exact gv_in (by decide)) dL_law_261 ?_
  refine go_top (y := sc G 2) rfl ?_
  obtain ⟨fr1, lc1, nn, kn, w1, g1, g2, g3, g4, g5, hf, hct⟩ := cx_make_2a (l := l) (G := G) (sc G 2) k0
  refine go_callV_i (pc := 262) vL_18 rfl (hct) rfl rfl (gz_b (by decide)) (wl_at (i := 0) rfl) rfl (Nat.le_of_ble_eq_true rfl) ⟨(show fr1 + 1 ≤ 11 by omega), (show 8 + (3 + 11) + lc1 ≤ 422 by omega), (show nn ≤ 0 + 600000 by omega), (show kn ≤ 0 + 7302250 by omega)⟩ dL_law_262 ?_
  refine go_aload_n (pc := 265) dL_law_265 rfl rfl ?_
  refine go_aload_n (pc := 266) dL_law_266 rfl rfl ?_
  refine go_iload_n (pc := 267) dL_law_267 rfl rfl ?_
  refine go_iconst (pc := 268) (v := 1) dL_law_268 (by decide) ?_
  refine go_iadd (pc := 269) dL_law_269 ?_
  refine go_top (y := 1) (by decide) ?_
  refine go_sld (pc := 270) (by rw [hL]; exact gv_in (by decide)) dL_law_270 ?_
  refine go_top (y := sc G 1) rfl ?_
  refine go_top (y := 2) h ?_
  refine go_aload_n (pc := 271) dL_law_271 rfl rfl ?_
  refine go_iload_n (pc := 272) dL_law_272 rfl rfl ?_
  refine go_iconst (pc := 273) (v := 2) dL_law_273 (by decide) ?_
  refine go_iadd (pc := 274) dL_law_274 ?_
  refine go_top (y := 2) (by decide) ?_
  refine go_sld (pc := 275) (by rw [hL]; exact gv_in (by decide)) dL_law_275 ?_
  refine go_top (y := sc G 2) rfl ?_
  obtain ⟨fr2, lc2, w2, q1, q2, hct2⟩ := cm_make_2a (l := l) (G := G) (sc G 2) k0 nn kn w1 g3 hf
  refine go_callV_i (pc := 276) vL_22 rfl (hct2) rfl rfl (gz_b (by omega)) ((hf 32 (by decide) (by decide)).trans (wl_at (i := 32) rfl)) rfl (Nat.le_of_ble_eq_true rfl) ⟨(show fr2 + 1 ≤ 11 by omega), (show 8 + (3 + 11) + lc2 ≤ 422 by omega), (show nn ≤ 0 + 600000 by omega), (show kn ≤ 0 + 7302250 by omega)⟩ dL_law_276 ?_
  refine go_icmp_eq_t (pc := 279) (tgt := 1393) dL_law_279 (by decide) rfl ?_
  exact law_next hL (by omega) (by omega)
theorem law_1_2b {l : Launch} {G : gG} (hL : G.2.2.2.2.2.2.1 = 6) (h : sc G 1 = 2) (k0 : sc G 2 ≤ 300) (k1 : ¬ 0 ≤ sc G 2) (k4 : sc G 2 < 0) : Go l G mL_law lawB 251 [(3, .int 0), (2, .ref (G.2.1 + 32)), (1, .ref (G.2.1 + 0)), (0, .ref G.2.2.2.2.2.1)] [] 42 90324 (wl G.2.1 (LF G)) := by
  refine go_aload_n (pc := 251) dL_law_251 rfl rfl ?_
  refine go_aload_n (pc := 252) dL_law_252 rfl rfl ?_
  refine go_iload_n (pc := 253) dL_law_253 rfl rfl ?_
  refine go_iconst (pc := 254) (v := 1) dL_law_254 (by decide) ?_
  refine go_iadd (pc := 255) dL_law_255 ?_
  refine go_top (y := 1) (by decide) ?_
  refine go_sld (pc := 256) (by rw [hL]; exact gv_in (by decide)) dL_law_256 ?_
  refine go_top (y := sc G 1) rfl ?_
  refine go_top (y := 2) h ?_
  refine go_aload_n (pc := 257) dL_law_257 rfl rfl ?_
  refine go_iload_n (pc := 258) dL_law_258 rfl rfl ?_
  refine go_iconst (pc := 259) (v := 2) dL_law_259 (by decide) ?_
  refine go_iadd (pc := 260) dL_law_260 ?_
  refine go_top (y := 2) (by decide) ?_
  refine go_sld (pc := 261) (by rw [hL]; exact gv_in (by decide)) dL_law_261 ?_
  refine go_top (y := sc G 2) rfl ?_
  obtain ⟨fr1, lc1, nn, kn, w1, g1, g2, g3, g4, g5, hf, hct⟩ := cx_make_2b (l := l) (G := G) (sc G 2) k0 k1 k4
  refine go_callV_i (pc := 262) vL_18 rfl (hct) rfl rfl (gz_b (by decide)) (wl_at (i := 0) rfl) rfl (Nat.le_of_ble_eq_true rfl) ⟨(show fr1 + 1 ≤ 11 by omega), (show 8 + (3 + 11) + lc1 ≤ 422 by omega), (show nn ≤ 0 + 600000 by omega), (show kn ≤ 0 + 7302250 by omega)⟩ dL_law_262 ?_
  refine go_aload_n (pc := 265) dL_law_265 rfl rfl ?_
  refine go_aload_n (pc := 266) dL_law_266 rfl rfl ?_
  refine go_iload_n (pc := 267) dL_law_267 rfl rfl ?_
  refine go_iconst (pc := 268) (v := 1) dL_law_268 (by decide) ?_
  refine go_iadd (pc := 269) dL_law_269 ?_
  refine go_top (y := 1) (by decide) ?_
  refine go_sld (pc := 270) (by rw [hL]; exact gv_in (by decide)) dL_law_270 ?_
  refine go_top (y := sc G 1) rfl ?_
  refine go_top (y := 2) h ?_
  refine go_aload_n (pc := 271) dL_law_271 rfl rfl ?_
  refine go_iload_n (pc := 272) dL_law_272 rfl rfl ?_
  refine go_iconst (pc := 273) (v := 2) dL_law_273 (by decide) ?_
  refine go_iadd (pc := 274) dL_law_274 ?_
  refine go_top (y := 2) (by decide) ?_
  refine go_sld (pc := 275) (by rw [hL]; exact gv_in (by decide)) dL_law_275 ?_
  refine go_top (y := sc G 2) rfl ?_
  obtain ⟨fr2, lc2, w2, q1, q2, hct2⟩ := cm_make_2b (l := l) (G := G) (sc G 2) k0 k1 k4 nn kn w1 g3 hf
  refine go_callV_i (pc := 276) vL_22 rfl (hct2) rfl rfl (gz_b (by omega)) ((hf 32 (by decide) (by decide)).trans (wl_at (i := 32) rfl)) rfl (Nat.le_of_ble_eq_true rfl) ⟨(show fr2 + 1 ≤ 11 by omega), (show 8 + (3 + 11) + lc2 ≤ 422 by omega), (show nn ≤ 0 + 600000 by omega), (show kn ≤ 0 + 7302250 by omega)⟩ dL_law_276 ?_
  refine go_icmp_eq_t (pc := 279) (tgt := 1393) dL_law_279 (by decide) rfl ?_
  exact law_next hL (by omega) (by omega)
theorem law_1_2c {l : Launch} {G : gG} (hL : G.2.2.2.2.2.2.1 = 6) (h : sc G 1 = 2) (k0 : sc G 2 ≤ 300) (k1 : 0 ≤ sc G 2) (k4 : ¬ sc G 2 < 0) (k2 : ¬ 2 + (((sc G 2) + 3) / 4) ≤ 256) (k3 : ¬ 0 + (2 + (((sc G 2) + 3) / 4)) ≤ 256) : Go l G mL_law lawB 251 [(3, .int 0), (2, .ref (G.2.1 + 32)), (1, .ref (G.2.1 + 0)), (0, .ref G.2.2.2.2.2.1)] [] 42 90324 (wl G.2.1 (LF G)) := by
  refine go_aload_n (pc := 251) dL_law_251 rfl rfl ?_
  refine go_aload_n (pc := 252) dL_law_252 rfl rfl ?_
  refine go_iload_n (pc := 253) dL_law_253 rfl rfl ?_
  refine go_iconst (pc := 254) (v := 1) dL_law_254 (by decide) ?_
  refine go_iadd (pc := 255) dL_law_255 ?_
  refine go_top (y := 1) (by decide) ?_
  refine go_sld (pc := 256) (by rw [hL]; exact gv_in (by decide)) dL_law_256 ?_
  refine go_top (y := sc G 1) rfl ?_
  refine go_top (y := 2) h ?_
  refine go_aload_n (pc := 257) dL_law_257 rfl rfl ?_
  refine go_iload_n (pc := 258) dL_law_258 rfl rfl ?_
  refine go_iconst (pc := 259) (v := 2) dL_law_259 (by decide) ?_
  refine go_iadd (pc := 260) dL_law_260 ?_
  refine go_top (y := 2) (by decide) ?_
  refine go_sld (pc := 261) (by rw [hL]; exact gv_in (by decide)) dL_law_261 ?_
  refine go_top (y := sc G 2) rfl ?_
  obtain ⟨fr1, lc1, nn, kn, w1, g1, g2, g3, g4, g5, hf, hct⟩ := cx_make_2c (l := l) (G := G) (sc G 2) k0 k1 k4 k2 k3
  refine go_callV_i (pc := 262) vL_18 rfl (hct) rfl rfl (gz_b (by decide)) (wl_at (i := 0) rfl) rfl (Nat.le_of_ble_eq_true rfl) ⟨(show fr1 + 1 ≤ 11 by omega), (show 8 + (3 + 11) + lc1 ≤ 422 by omega), (show nn ≤ 0 + 600000 by omega), (show kn ≤ 0 + 7302250 by omega)⟩ dL_law_262 ?_
  refine go_aload_n (pc := 265) dL_law_265 rfl rfl ?_
  refine go_aload_n (pc := 266) dL_law_266 rfl rfl ?_
  refine go_iload_n (pc := 267) dL_law_267 rfl rfl ?_
  refine go_iconst (pc := 268) (v := 1) dL_law_268 (by decide) ?_
  refine go_iadd (pc := 269) dL_law_269 ?_
  refine go_top (y := 1) (by decide) ?_
  refine go_sld (pc := 270) (by rw [hL]; exact gv_in (by decide)) dL_law_270 ?_
  refine go_top (y := sc G 1) rfl ?_
  refine go_top (y := 2) h ?_
  refine go_aload_n (pc := 271) dL_law_271 rfl rfl ?_
  refine go_iload_n (pc := 272) dL_law_272 rfl rfl ?_
  refine go_iconst (pc := 273) (v := 2) dL_law_273 (by decide) ?_
  refine go_iadd (pc := 274) dL_law_274 ?_
  refine go_top (y := 2) (by decide) ?_
  refine go_sld (pc := 275) (by rw [hL]; exact gv_in (by decide)) dL_law_275 ?_
  refine go_top (y := sc G 2) rfl ?_
  obtain ⟨fr2, lc2, w2, q1, q2, hct2⟩ := cm_make_2c (l := l) (G := G) (sc G 2) k0 k1 k4 k2 k3 nn kn w1 g3 hf
  refine go_callV_i (pc := 276) vL_22 rfl (hct2) rfl rfl (gz_b (by omega)) ((hf 32 (by decide) (by decide)).trans (wl_at (i := 32) rfl)) rfl (Nat.le_of_ble_eq_true rfl) ⟨(show fr2 + 1 ≤ 11 by omega), (show 8 + (3 + 11) + lc2 ≤ 422 by omega), (show nn ≤ 0 + 600000 by omega), (show kn ≤ 0 + 7302250 by omega)⟩ dL_law_276 ?_
  refine go_icmp_eq_t (pc := 279) (tgt := 1393) dL_law_279 (by decide) rfl ?_
  exact law_next hL (by omega) (by omega)
theorem law_1_2d {l : Launch} {G : gG} (hL : G.2.2.2.2.2.2.1 = 6) (h : sc G 1 = 2) (k0 : sc G 2 ≤ 300) (k1 : 0 ≤ sc G 2) (k4 : ¬ sc G 2 < 0) (k2 : 2 + (((sc G 2) + 3) / 4) ≤ 256) : Go l G mL_law lawB 251 [(3, .int 0), (2, .ref (G.2.1 + 32)), (1, .ref (G.2.1 + 0)), (0, .ref G.2.2.2.2.2.1)] [] 42 90324 (wl G.2.1 (LF G)) := by
  refine go_aload_n (pc := 251) dL_law_251 rfl rfl ?_
  refine go_aload_n (pc := 252) dL_law_252 rfl rfl ?_
  refine go_iload_n (pc := 253) dL_law_253 rfl rfl ?_
  refine go_iconst (pc := 254) (v := 1) dL_law_254 (by decide) ?_
  refine go_iadd (pc := 255) dL_law_255 ?_
  refine go_top (y := 1) (by decide) ?_
  refine go_sld (pc := 256) (by rw [hL]; exact gv_in (by decide)) dL_law_256 ?_
  refine go_top (y := sc G 1) rfl ?_
  refine go_top (y := 2) h ?_
  refine go_aload_n (pc := 257) dL_law_257 rfl rfl ?_
  refine go_iload_n (pc := 258) dL_law_258 rfl rfl ?_
  refine go_iconst (pc := 259) (v := 2) dL_law_259 (by decide) ?_
  refine go_iadd (pc := 260) dL_law_260 ?_
  refine go_top (y := 2) (by decide) ?_
  refine go_sld (pc := 261) (by rw [hL]; exact gv_in (by decide)) dL_law_261 ?_
  refine go_top (y := sc G 2) rfl ?_
  obtain ⟨fr1, lc1, nn, kn, w1, g1, g2, g3, g4, g5, hf, hct⟩ := cx_make_2d (l := l) (G := G) (sc G 2) k0 k1 k4 k2
  refine go_callV_i (pc := 262) vL_18 rfl (hct) rfl rfl (gz_b (by decide)) (wl_at (i := 0) rfl) rfl (Nat.le_of_ble_eq_true rfl) ⟨(show fr1 + 1 ≤ 11 by omega), (show 8 + (3 + 11) + lc1 ≤ 422 by omega), (show nn ≤ 0 + 600000 by omega), (show kn ≤ 0 + 7302250 by omega)⟩ dL_law_262 ?_
  refine go_aload_n (pc := 265) dL_law_265 rfl rfl ?_
  refine go_aload_n (pc := 266) dL_law_266 rfl rfl ?_
  refine go_iload_n (pc := 267) dL_law_267 rfl rfl ?_
  refine go_iconst (pc := 268) (v := 1) dL_law_268 (by decide) ?_
  refine go_iadd (pc := 269) dL_law_269 ?_
  refine go_top (y := 1) (by decide) ?_
  refine go_sld (pc := 270) (by rw [hL]; exact gv_in (by decide)) dL_law_270 ?_
  refine go_top (y := sc G 1) rfl ?_
  refine go_top (y := 2) h ?_
  refine go_aload_n (pc := 271) dL_law_271 rfl rfl ?_
  refine go_iload_n (pc := 272) dL_law_272 rfl rfl ?_
  refine go_iconst (pc := 273) (v := 2) dL_law_273 (by decide) ?_
  refine go_iadd (pc := 274) dL_law_274 ?_
  refine go_top (y := 2) (by decide) ?_
  refine go_sld (pc := 275) (by rw [hL]; exact gv_in (by decide)) dL_law_275 ?_
  refine go_top (y := sc G 2) rfl ?_
  obtain ⟨fr2, lc2, w2, q1, q2, hct2⟩ := cm_make_2d (l := l) (G := G) (sc G 2) k0 k1 k4 k2 nn kn w1 g3 hf
  refine go_callV_i (pc := 276) vL_22 rfl (hct2) rfl rfl (gz_b (by omega)) ((hf 32 (by decide) (by decide)).trans (wl_at (i := 32) rfl)) rfl (Nat.le_of_ble_eq_true rfl) ⟨(show fr2 + 1 ≤ 11 by omega), (show 8 + (3 + 11) + lc2 ≤ 422 by omega), (show nn ≤ 0 + 600000 by omega), (show kn ≤ 0 + 7302250 by omega)⟩ dL_law_276 ?_
  refine go_icmp_eq_t (pc := 279) (tgt := 1393) dL_law_279 (by decide) rfl ?_
  exact law_next hL (by omega) (by omega)
theorem law_1_2 {l : Launch} {G : gG} (hL : G.2.2.2.2.2.2.1 = 6) (h : sc G 1 = 2) : Go l G mL_law lawB 251 [(3, .int 0), (2, .ref (G.2.1 + 32)), (1, .ref (G.2.1 + 0)), (0, .ref G.2.2.2.2.2.1)] [] 42 90324 (wl G.2.1 (LF G)) := by
  by_cases k0 : sc G 2 ≤ 300
  · by_cases k1 : 0 ≤ sc G 2
    · have k4 : ¬ sc G 2 < 0 := Int32.not_lt.mpr k1
      by_cases k2 : 2 + (((sc G 2) + 3) / 4) ≤ 256
      · exact law_1_2d hL h k0 k1 k4 k2
      · exact law_1_2c hL h k0 k1 k4 k2 (by rw [gj_zero]; exact k2)
    · exact law_1_2b hL h k0 k1 (Int32.not_le.mp k1)
  · exact law_1_2a hL h k0
theorem law_1_5a {l : Launch} {G : gG} (hL : G.2.2.2.2.2.2.1 = 6) (h : sc G 1 = 5) (k0 : ¬ sc G 2 ≤ 300) : Go l G mL_law lawB 251 [(3, .int 0), (2, .ref (G.2.1 + 32)), (1, .ref (G.2.1 + 0)), (0, .ref G.2.2.2.2.2.1)] [] 42 90324 (wl G.2.1 (LF G)) := by
  refine go_aload_n (pc := 251) dL_law_251 rfl rfl ?_
  refine go_aload_n (pc := 252) dL_law_252 rfl rfl ?_
  refine go_iload_n (pc := 253) dL_law_253 rfl rfl ?_
  refine go_iconst (pc := 254) (v := 1) dL_law_254 (by decide) ?_
  refine go_iadd (pc := 255) dL_law_255 ?_
  refine go_top (y := 1) (by decide) ?_
  refine go_sld (pc := 256) (by rw [hL]; exact gv_in (by decide)) dL_law_256 ?_
  refine go_top (y := sc G 1) rfl ?_
  refine go_top (y := 5) h ?_
  refine go_aload_n (pc := 257) dL_law_257 rfl rfl ?_
  refine go_iload_n (pc := 258) dL_law_258 rfl rfl ?_
  refine go_iconst (pc := 259) (v := 2) dL_law_259 (by decide) ?_
  refine go_iadd (pc := 260) dL_law_260 ?_
  refine go_top (y := 2) (by decide) ?_
  refine go_sld (pc := 261) (by rw [hL]; exact gv_in (by decide)) dL_law_261 ?_
  refine go_top (y := sc G 2) rfl ?_
  obtain ⟨fr1, lc1, nn, kn, w1, g1, g2, g3, g4, g5, hf, hct⟩ := cx_make_5a (l := l) (G := G) (sc G 2) k0
  refine go_callV_i (pc := 262) vL_18 rfl (hct) rfl rfl (gz_b (by decide)) (wl_at (i := 0) rfl) rfl (Nat.le_of_ble_eq_true rfl) ⟨(show fr1 + 1 ≤ 11 by omega), (show 8 + (3 + 11) + lc1 ≤ 422 by omega), (show nn ≤ 0 + 600000 by omega), (show kn ≤ 0 + 7302250 by omega)⟩ dL_law_262 ?_
  refine go_aload_n (pc := 265) dL_law_265 rfl rfl ?_
  refine go_aload_n (pc := 266) dL_law_266 rfl rfl ?_
  refine go_iload_n (pc := 267) dL_law_267 rfl rfl ?_
  refine go_iconst (pc := 268) (v := 1) dL_law_268 (by decide) ?_
  refine go_iadd (pc := 269) dL_law_269 ?_
  refine go_top (y := 1) (by decide) ?_
  refine go_sld (pc := 270) (by rw [hL]; exact gv_in (by decide)) dL_law_270 ?_
  refine go_top (y := sc G 1) rfl ?_
  refine go_top (y := 5) h ?_
  refine go_aload_n (pc := 271) dL_law_271 rfl rfl ?_
  refine go_iload_n (pc := 272) dL_law_272 rfl rfl ?_
  refine go_iconst (pc := 273) (v := 2) dL_law_273 (by decide) ?_
  refine go_iadd (pc := 274) dL_law_274 ?_
  refine go_top (y := 2) (by decide) ?_
  refine go_sld (pc := 275) (by rw [hL]; exact gv_in (by decide)) dL_law_275 ?_
  refine go_top (y := sc G 2) rfl ?_
  obtain ⟨fr2, lc2, w2, q1, q2, hct2⟩ := cm_make_5a (l := l) (G := G) (sc G 2) k0 nn kn w1 g3 hf
  refine go_callV_i (pc := 276) vL_22 rfl (hct2) rfl rfl (gz_b (by omega)) ((hf 32 (by decide) (by decide)).trans (wl_at (i := 32) rfl)) rfl (Nat.le_of_ble_eq_true rfl) ⟨(show fr2 + 1 ≤ 11 by omega), (show 8 + (3 + 11) + lc2 ≤ 422 by omega), (show nn ≤ 0 + 600000 by omega), (show kn ≤ 0 + 7302250 by omega)⟩ dL_law_276 ?_
  refine go_icmp_eq_t (pc := 279) (tgt := 1393) dL_law_279 (by decide) rfl ?_
  exact law_next hL (by omega) (by omega)
theorem law_1_5b {l : Launch} {G : gG} (hL : G.2.2.2.2.2.2.1 = 6) (h : sc G 1 = 5) (k0 : sc G 2 ≤ 300) (k1 : ¬ 0 ≤ sc G 2) (k4 : sc G 2 < 0) : Go l G mL_law lawB 251 [(3, .int 0), (2, .ref (G.2.1 + 32)), (1, .ref (G.2.1 + 0)), (0, .ref G.2.2.2.2.2.1)] [] 42 90324 (wl G.2.1 (LF G)) := by
  refine go_aload_n (pc := 251) dL_law_251 rfl rfl ?_
  refine go_aload_n (pc := 252) dL_law_252 rfl rfl ?_
  refine go_iload_n (pc := 253) dL_law_253 rfl rfl ?_
  refine go_iconst (pc := 254) (v := 1) dL_law_254 (by decide) ?_
  refine go_iadd (pc := 255) dL_law_255 ?_
  refine go_top (y := 1) (by decide) ?_
  refine go_sld (pc := 256) (by rw [hL]; exact gv_in (by decide)) dL_law_256 ?_
  refine go_top (y := sc G 1) rfl ?_
  refine go_top (y := 5) h ?_
  refine go_aload_n (pc := 257) dL_law_257 rfl rfl ?_
  refine go_iload_n (pc := 258) dL_law_258 rfl rfl ?_
  refine go_iconst (pc := 259) (v := 2) dL_law_259 (by decide) ?_
  refine go_iadd (pc := 260) dL_law_260 ?_
  refine go_top (y := 2) (by decide) ?_
  refine go_sld (pc := 261) (by rw [hL]; exact gv_in (by decide)) dL_law_261 ?_
  refine go_top (y := sc G 2) rfl ?_
  obtain ⟨fr1, lc1, nn, kn, w1, g1, g2, g3, g4, g5, hf, hct⟩ := cx_make_5b (l := l) (G := G) (sc G 2) k0 k1 k4
  refine go_callV_i (pc := 262) vL_18 rfl (hct) rfl rfl (gz_b (by decide)) (wl_at (i := 0) rfl) rfl (Nat.le_of_ble_eq_true rfl) ⟨(show fr1 + 1 ≤ 11 by omega), (show 8 + (3 + 11) + lc1 ≤ 422 by omega), (show nn ≤ 0 + 600000 by omega), (show kn ≤ 0 + 7302250 by omega)⟩ dL_law_262 ?_
  refine go_aload_n (pc := 265) dL_law_265 rfl rfl ?_
  refine go_aload_n (pc := 266) dL_law_266 rfl rfl ?_
  refine go_iload_n (pc := 267) dL_law_267 rfl rfl ?_
  refine go_iconst (pc := 268) (v := 1) dL_law_268 (by decide) ?_
  refine go_iadd (pc := 269) dL_law_269 ?_
  refine go_top (y := 1) (by decide) ?_
  refine go_sld (pc := 270) (by rw [hL]; exact gv_in (by decide)) dL_law_270 ?_
  refine go_top (y := sc G 1) rfl ?_
  refine go_top (y := 5) h ?_
  refine go_aload_n (pc := 271) dL_law_271 rfl rfl ?_
  refine go_iload_n (pc := 272) dL_law_272 rfl rfl ?_
  refine go_iconst (pc := 273) (v := 2) dL_law_273 (by decide) ?_
  refine go_iadd (pc := 274) dL_law_274 ?_
  refine go_top (y := 2) (by decide) ?_
  refine go_sld (pc := 275) (by rw [hL]; exact gv_in (by decide)) dL_law_275 ?_
  refine go_top (y := sc G 2) rfl ?_
  obtain ⟨fr2, lc2, w2, q1, q2, hct2⟩ := cm_make_5b (l := l) (G := G) (sc G 2) k0 k1 k4 nn kn w1 g3 hf
  refine go_callV_i (pc := 276) vL_22 rfl (hct2) rfl rfl (gz_b (by omega)) ((hf 32 (by decide) (by decide)).trans (wl_at (i := 32) rfl)) rfl (Nat.le_of_ble_eq_true rfl) ⟨(show fr2 + 1 ≤ 11 by omega), (show 8 + (3 + 11) + lc2 ≤ 422 by omega), (show nn ≤ 0 + 600000 by omega), (show kn ≤ 0 + 7302250 by omega)⟩ dL_law_276 ?_
  refine go_icmp_eq_t (pc := 279) (tgt := 1393) dL_law_279 (by decide) rfl ?_
  exact law_next hL (by omega) (by omega)
theorem law_1_5c {l : Launch} {G : gG} (hL : G.2.2.2.2.2.2.1 = 6) (h : sc G 1 = 5) (k0 : sc G 2 ≤ 300) (k1 : 0 ≤ sc G 2) (k4 : ¬ sc G 2 < 0) (k2 : ¬ 2 + (2 * (sc G 2)) ≤ 256) (k3 : ¬ 0 + (2 + (2 * (sc G 2))) ≤ 256) : Go l G mL_law lawB 251 [(3, .int 0), (2, .ref (G.2.1 + 32)), (1, .ref (G.2.1 + 0)), (0, .ref G.2.2.2.2.2.1)] [] 42 90324 (wl G.2.1 (LF G)) := by
  refine go_aload_n (pc := 251) dL_law_251 rfl rfl ?_
  refine go_aload_n (pc := 252) dL_law_252 rfl rfl ?_
  refine go_iload_n (pc := 253) dL_law_253 rfl rfl ?_
  refine go_iconst (pc := 254) (v := 1) dL_law_254 (by decide) ?_
  refine go_iadd (pc := 255) dL_law_255 ?_
  refine go_top (y := 1) (by decide) ?_
  refine go_sld (pc := 256) (by rw [hL]; exact gv_in (by decide)) dL_law_256 ?_
  refine go_top (y := sc G 1) rfl ?_
  refine go_top (y := 5) h ?_
  refine go_aload_n (pc := 257) dL_law_257 rfl rfl ?_
  refine go_iload_n (pc := 258) dL_law_258 rfl rfl ?_
  refine go_iconst (pc := 259) (v := 2) dL_law_259 (by decide) ?_
  refine go_iadd (pc := 260) dL_law_260 ?_
  refine go_top (y := 2) (by decide) ?_
  refine go_sld (pc := 261) (by rw [hL]; exact gv_in (by decide)) dL_law_261 ?_
  refine go_top (y := sc G 2) rfl ?_
  obtain ⟨fr1, lc1, nn, kn, w1, g1, g2, g3, g4, g5, hf, hct⟩ := cx_make_5c (l := l) (G := G) (sc G 2) k0 k1 k4 k2 k3
  refine go_callV_i (pc := 262) vL_18 rfl (hct) rfl rfl (gz_b (by decide)) (wl_at (i := 0) rfl) rfl (Nat.le_of_ble_eq_true rfl) ⟨(show fr1 + 1 ≤ 11 by omega), (show 8 + (3 + 11) + lc1 ≤ 422 by omega), (show nn ≤ 0 + 600000 by omega), (show kn ≤ 0 + 7302250 by omega)⟩ dL_law_262 ?_
  refine go_aload_n (pc := 265) dL_law_265 rfl rfl ?_
  refine go_aload_n (pc := 266) dL_law_266 rfl rfl ?_
  refine go_iload_n (pc := 267) dL_law_267 rfl rfl ?_
  refine go_iconst (pc := 268) (v := 1) dL_law_268 (by decide) ?_
  refine go_iadd (pc := 269) dL_law_269 ?_
  refine go_top (y := 1) (by decide) ?_
  refine go_sld (pc := 270) (by rw [hL]; exact gv_in (by decide)) dL_law_270 ?_
  refine go_top (y := sc G 1) rfl ?_
  refine go_top (y := 5) h ?_
  refine go_aload_n (pc := 271) dL_law_271 rfl rfl ?_
  refine go_iload_n (pc := 272) dL_law_272 rfl rfl ?_
  refine go_iconst (pc := 273) (v := 2) dL_law_273 (by decide) ?_
  refine go_iadd (pc := 274) dL_law_274 ?_
  refine go_top (y := 2) (by decide) ?_
  refine go_sld (pc := 275) (by rw [hL]; exact gv_in (by decide)) dL_law_275 ?_
  refine go_top (y := sc G 2) rfl ?_
  obtain ⟨fr2, lc2, w2, q1, q2, hct2⟩ := cm_make_5c (l := l) (G := G) (sc G 2) k0 k1 k4 k2 k3 nn kn w1 g3 hf
  refine go_callV_i (pc := 276) vL_22 rfl (hct2) rfl rfl (gz_b (by omega)) ((hf 32 (by decide) (by decide)).trans (wl_at (i := 32) rfl)) rfl (Nat.le_of_ble_eq_true rfl) ⟨(show fr2 + 1 ≤ 11 by omega), (show 8 + (3 + 11) + lc2 ≤ 422 by omega), (show nn ≤ 0 + 600000 by omega), (show kn ≤ 0 + 7302250 by omega)⟩ dL_law_276 ?_
  refine go_icmp_eq_t (pc := 279) (tgt := 1393) dL_law_279 (by decide) rfl ?_
  exact law_next hL (by omega) (by omega)
theorem law_1_5d {l : Launch} {G : gG} (hL : G.2.2.2.2.2.2.1 = 6) (h : sc G 1 = 5) (q : Nat) (hq : q ≤ 254) (e : sc G 2 = nI q) (k0 : nI q ≤ 300) (k1 : 0 ≤ nI q) (k4 : ¬ nI q < 0) (k2 : 2 + (2 * (nI q)) ≤ 256) : Go l G mL_law lawB 251 [(3, .int 0), (2, .ref (G.2.1 + 32)), (1, .ref (G.2.1 + 0)), (0, .ref G.2.2.2.2.2.1)] [] 42 90324 (wl G.2.1 (LF G)) := by
  refine go_aload_n (pc := 251) dL_law_251 rfl rfl ?_
  refine go_aload_n (pc := 252) dL_law_252 rfl rfl ?_
  refine go_iload_n (pc := 253) dL_law_253 rfl rfl ?_
  refine go_iconst (pc := 254) (v := 1) dL_law_254 (by decide) ?_
  refine go_iadd (pc := 255) dL_law_255 ?_
  refine go_top (y := 1) (by decide) ?_
  refine go_sld (pc := 256) (by rw [hL]; exact gv_in (by decide)) dL_law_256 ?_
  refine go_top (y := sc G 1) rfl ?_
  refine go_top (y := 5) h ?_
  refine go_aload_n (pc := 257) dL_law_257 rfl rfl ?_
  refine go_iload_n (pc := 258) dL_law_258 rfl rfl ?_
  refine go_iconst (pc := 259) (v := 2) dL_law_259 (by decide) ?_
  refine go_iadd (pc := 260) dL_law_260 ?_
  refine go_top (y := 2) (by decide) ?_
  refine go_sld (pc := 261) (by rw [hL]; exact gv_in (by decide)) dL_law_261 ?_
  refine go_top (y := sc G 2) rfl ?_
  refine go_top (y := nI q) e ?_
  obtain ⟨fr1, lc1, nn, kn, w1, g1, g2, g3, g4, g5, hf, hct⟩ := cx_make_5d (l := l) (G := G) q hq k0 k1 k4 k2
  refine go_callV_i (pc := 262) vL_18 rfl (hct) rfl rfl (gz_b (by decide)) (wl_at (i := 0) rfl) rfl (Nat.le_of_ble_eq_true rfl) ⟨(show fr1 + 1 ≤ 11 by omega), (show 8 + (3 + 11) + lc1 ≤ 422 by omega), (show nn ≤ 0 + 600000 by omega), (show kn ≤ 0 + 7302250 by omega)⟩ dL_law_262 ?_
  refine go_aload_n (pc := 265) dL_law_265 rfl rfl ?_
  refine go_aload_n (pc := 266) dL_law_266 rfl rfl ?_
  refine go_iload_n (pc := 267) dL_law_267 rfl rfl ?_
  refine go_iconst (pc := 268) (v := 1) dL_law_268 (by decide) ?_
  refine go_iadd (pc := 269) dL_law_269 ?_
  refine go_top (y := 1) (by decide) ?_
  refine go_sld (pc := 270) (by rw [hL]; exact gv_in (by decide)) dL_law_270 ?_
  refine go_top (y := sc G 1) rfl ?_
  refine go_top (y := 5) h ?_
  refine go_aload_n (pc := 271) dL_law_271 rfl rfl ?_
  refine go_iload_n (pc := 272) dL_law_272 rfl rfl ?_
  refine go_iconst (pc := 273) (v := 2) dL_law_273 (by decide) ?_
  refine go_iadd (pc := 274) dL_law_274 ?_
  refine go_top (y := 2) (by decide) ?_
  refine go_sld (pc := 275) (by rw [hL]; exact gv_in (by decide)) dL_law_275 ?_
  refine go_top (y := sc G 2) rfl ?_
  refine go_top (y := nI q) e ?_
  obtain ⟨fr2, lc2, w2, q1, q2, hct2⟩ := cm_make_5d (l := l) (G := G) q hq k0 k1 k4 k2 nn kn w1 g3 hf
  refine go_callV_i (pc := 276) vL_22 rfl (hct2) rfl rfl (gz_b (by omega)) ((hf 32 (by decide) (by decide)).trans (wl_at (i := 32) rfl)) rfl (Nat.le_of_ble_eq_true rfl) ⟨(show fr2 + 1 ≤ 11 by omega), (show 8 + (3 + 11) + lc2 ≤ 422 by omega), (show nn ≤ 0 + 600000 by omega), (show kn ≤ 0 + 7302250 by omega)⟩ dL_law_276 ?_
  refine go_icmp_eq_t (pc := 279) (tgt := 1393) dL_law_279 (by decide) rfl ?_
  exact law_next hL (by omega) (by omega)
theorem law_1_5 {l : Launch} {G : gG} (hL : G.2.2.2.2.2.2.1 = 6) (h : sc G 1 = 5) : Go l G mL_law lawB 251 [(3, .int 0), (2, .ref (G.2.1 + 32)), (1, .ref (G.2.1 + 0)), (0, .ref G.2.2.2.2.2.1)] [] 42 90324 (wl G.2.1 (LF G)) := by
  by_cases k0 : sc G 2 ≤ 300
  · by_cases k1 : 0 ≤ sc G 2
    · have k4 : ¬ sc G 2 < 0 := Int32.not_lt.mpr k1
      by_cases k2 : 2 + (2 * (sc G 2)) ≤ 256
      · obtain ⟨q, hq0, e⟩ := nI_of2 (M := 300) (n := 300) (by decide) k4 k0
        rw [e] at k0 k1 k4 k2
        have hq : q ≤ 254 := gj_tab hq0 k2
        exact law_1_5d hL h q hq e k0 k1 k4 k2
      · exact law_1_5c hL h k0 k1 k4 k2 (by rw [gj_zero]; exact k2)
    · exact law_1_5b hL h k0 k1 (Int32.not_le.mp k1)
  · exact law_1_5a hL h k0
theorem law_1 {l : Launch} {G : gG} (hL : G.2.2.2.2.2.2.1 = 6) : Go l G mL_law lawB 251 [(3, .int 0), (2, .ref (G.2.1 + 32)), (1, .ref (G.2.1 + 0)), (0, .ref G.2.2.2.2.2.1)] [] 42 90324 (wl G.2.1 (LF G)) := by
  by_cases k0 : sc G 1 < 0
  · exact law_1_lo hL k0 (if_neg (fun q => absurd k0 (Int32.not_lt.mpr q.1)))
  by_cases k1 : 5 < sc G 1
  · exact law_1_hi hL k0 (gj_six k1) (if_neg (fun q => absurd k1 (Int32.not_lt.mpr q.2)))
  obtain ⟨q, hq, e⟩ := nI_of2 (M := 5) (n := 5) (by decide) k0 (Int32.not_lt.mp k1)
  match q, hq, e with
  | 0, _, e => exact law_1_0 hL e
  | 1, _, e => exact law_1_1 hL e
  | 2, _, e => exact law_1_2 hL e
  | 3, _, e => exact law_1_3 hL e
  | 4, _, e => exact law_1_4 hL e
  | 5, _, e => exact law_1_5 hL e
  | q + 6, h, _ => exact absurd h (by omega)

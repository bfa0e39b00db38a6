/-! the law from its start -/
theorem law_lt {L i : Nat} (h : L < i + 6) (hL : L < 2 ^ 20) (hi : i < 2 ^ 20) : nI L - 6 < nI i := by
  rw [Int32.lt_iff_toInt_lt, show (6 : Int32) = nI 6 from rfl, pk_sub_toInt (by omega) (by decide), nI_toInt (by omega)]
  omega
theorem law_ge {L i : Nat} (h : i + 6 ≤ L) (hL : L < 2 ^ 20) : ¬ nI L - 6 < nI i := by
  rw [Int32.lt_iff_toInt_lt, show (6 : Int32) = nI 6 from rfl, pk_sub_toInt (by omega) (by decide), nI_toInt (by omega)]
  omega
set_option maxRecDepth 100000 in
theorem law_loop {l : Launch} {G : gG} (hL : G.2.2.2.2.2.2.1 ≤ 3072) : ∀ (d q : Nat) (c m : gMem), G.2.2.2.2.2.2.1 < 6 * q + 6 * d + 6 → 6 * q ≤ 3072 → Rel (200000 * q) c m → Go l G mL_law lawB 18 (lvL G (6 * q)) [] 84 146846 (wX G m c) := by
  intro d
  induction d with
  | zero =>
    intro q c m hd hq R
    exact law_over (by decide) (by decide) (i := nI (6 * q)) rfl rfl (law_lt (by omega) (by omega) (by omega))
  | succ d ih =>
    intro q c m hd hq R
    rcases Nat.lt_or_ge G.2.2.2.2.2.2.1 (6 * q + 6) with hi | hi
    · exact law_over (by decide) (by decide) (i := nI (6 * q)) rfl rfl (law_lt (by omega) (by omega) (by omega))
    have hT : 200000 * q + 200000 < 2 ^ 28 := by omega
    have nx : ∀ c1 m1, Rel (200000 * q + 200000) c1 m1 → Go l G mL_law lawB 1393 (lvL G (6 * q)) [] 84 146846 (wX G m1 c1) := fun c1 m1 R1 => law_next (by
      have := ih (q + 1) c1 m1 (by omega) (by omega) (R1.mono (by omega))
      exact this)
    refine go_iload_n (pc := 18) dL_law_18 rfl rfl ?_
    refine go_aload_n (pc := 19) dL_law_19 rfl rfl ?_
    refine go_slen (pc := 20) dL_law_20 ?_
    refine go_bipush (pc := 21) (v := 6) dL_law_21 (by decide) ?_
    refine go_isub (pc := 23) dL_law_23 ?_
    refine go_icmp_gt_f (pc := 24) (tgt := 1399) dL_law_24 (by decide) (law_ge hi (by omega)) ?_
    refine go_aload_n (pc := 27) dL_law_27 rfl rfl ?_
    refine go_iload_n (pc := 28) dL_law_28 rfl rfl ?_
    refine go_sld (pc := 29) (vp_in_nI (by omega) (by omega)) dL_law_29 ?_
    refine go_bipush (pc := 30) (v := 63) dL_law_30 (by decide) ?_
    refine go_iand (pc := 32) dL_law_32 ?_
    obtain ⟨j, hj, e⟩ := pk_andE (G.2.2.2.2.2.2.2 (nI (6 * q)).toNatClampNeg) (m := 63) 6 (by decide)
    have hj2 : j < 64 := hj
    clear hj
    match j, hj2, e with
    | 0, _, e => exact go_top (y := 0) (e.trans (by decide)) (go_tableIn (pc := 33) (off := 195) (tgt := 228) dL_law_33 (by decide) (by decide) (by decide) (by decide) (law_0 hi hL R hT nx))
    | 1, _, e => exact go_top (y := 1) (e.trans (by decide)) (go_tableIn (pc := 33) (off := 218) (tgt := 251) dL_law_33 (by decide) (by decide) (by decide) (by decide) (law_1 hi hL R hT nx))
    | 2, _, e => exact go_top (y := 2) (e.trans (by decide)) (go_tableIn (pc := 33) (off := 251) (tgt := 284) dL_law_33 (by decide) (by decide) (by decide) (by decide) (law_2 hi hL R hT nx))
    | 3, _, e => exact go_top (y := 3) (e.trans (by decide)) (go_tableIn (pc := 33) (off := 274) (tgt := 307) dL_law_33 (by decide) (by decide) (by decide) (by decide) (law_3 hi hL R hT nx))
    | 4, _, e => exact go_top (y := 4) (e.trans (by decide)) (go_tableIn (pc := 33) (off := 297) (tgt := 330) dL_law_33 (by decide) (by decide) (by decide) (by decide) (law_4 hi hL R hT nx))
    | 5, _, e => exact go_top (y := 5) (e.trans (by decide)) (go_tableIn (pc := 33) (off := 320) (tgt := 353) dL_law_33 (by decide) (by decide) (by decide) (by decide) (law_5 hi hL R hT nx))
    | 6, _, e => exact go_top (y := 6) (e.trans (by decide)) (go_tableIn (pc := 33) (off := 343) (tgt := 376) dL_law_33 (by decide) (by decide) (by decide) (by decide) (law_6 hi hL R hT nx))
    | 7, _, e => exact go_top (y := 7) (e.trans (by decide)) (go_tableIn (pc := 33) (off := 386) (tgt := 419) dL_law_33 (by decide) (by decide) (by decide) (by decide) (law_7 hi hL R hT nx))
    | 8, _, e => exact go_top (y := 8) (e.trans (by decide)) (go_tableIn (pc := 33) (off := 419) (tgt := 452) dL_law_33 (by decide) (by decide) (by decide) (by decide) (law_8 hi hL R hT nx))
    | 9, _, e => exact go_top (y := 9) (e.trans (by decide)) (go_tableIn (pc := 33) (off := 452) (tgt := 485) dL_law_33 (by decide) (by decide) (by decide) (by decide) (law_9 hi hL R hT nx))
    | 10, _, e => exact go_top (y := 10) (e.trans (by decide)) (go_tableIn (pc := 33) (off := 475) (tgt := 508) dL_law_33 (by decide) (by decide) (by decide) (by decide) (law_10 hi hL R hT nx))
    | 11, _, e => exact go_top (y := 11) (e.trans (by decide)) (go_tableIn (pc := 33) (off := 508) (tgt := 541) dL_law_33 (by decide) (by decide) (by decide) (by decide) (law_11 hi hL R hT nx))
    | 12, _, e => exact go_top (y := 12) (e.trans (by decide)) (go_tableIn (pc := 33) (off := 551) (tgt := 584) dL_law_33 (by decide) (by decide) (by decide) (by decide) (law_12 hi hL R hT nx))
    | 13, _, e => exact go_top (y := 13) (e.trans (by decide)) (go_tableIn (pc := 33) (off := 584) (tgt := 617) dL_law_33 (by decide) (by decide) (by decide) (by decide) (law_13 hi hL R hT nx))
    | 14, _, e => exact go_top (y := 14) (e.trans (by decide)) (go_tableIn (pc := 33) (off := 627) (tgt := 660) dL_law_33 (by decide) (by decide) (by decide) (by decide) (law_14 hi hL R hT nx))
    | 15, _, e => exact go_top (y := 15) (e.trans (by decide)) (go_tableIn (pc := 33) (off := 660) (tgt := 693) dL_law_33 (by decide) (by decide) (by decide) (by decide) (law_15 hi hL R hT nx))
    | 16, _, e => exact go_top (y := 16) (e.trans (by decide)) (go_tableIn (pc := 33) (off := 693) (tgt := 726) dL_law_33 (by decide) (by decide) (by decide) (by decide) (law_16 hi hL R hT nx))
    | 17, _, e => exact go_top (y := 17) (e.trans (by decide)) (go_tableIn (pc := 33) (off := 716) (tgt := 749) dL_law_33 (by decide) (by decide) (by decide) (by decide) (law_17 hi hL R hT nx))
    | 18, _, e => exact go_top (y := 18) (e.trans (by decide)) (go_tableIn (pc := 33) (off := 779) (tgt := 812) dL_law_33 (by decide) (by decide) (by decide) (by decide) (law_18 hi hL R hT nx))
    | 19, _, e => exact go_top (y := 19) (e.trans (by decide)) (go_tableIn (pc := 33) (off := 792) (tgt := 825) dL_law_33 (by decide) (by decide) (by decide) (by decide) (law_19 hi hL R hT nx))
    | 20, _, e => exact go_top (y := 20) (e.trans (by decide)) (go_tableIn (pc := 33) (off := 835) (tgt := 868) dL_law_33 (by decide) (by decide) (by decide) (by decide) (law_20 hi hL R hT nx))
    | 21, _, e => exact go_top (y := 21) (e.trans (by decide)) (go_tableIn (pc := 33) (off := 868) (tgt := 901) dL_law_33 (by decide) (by decide) (by decide) (by decide) (law_21 hi hL R hT nx))
    | 22, _, e => exact go_top (y := 22) (e.trans (by decide)) (go_tableIn (pc := 33) (off := 891) (tgt := 924) dL_law_33 (by decide) (by decide) (by decide) (by decide) (law_22 hi hL R hT nx))
    | 23, _, e => exact go_top (y := 23) (e.trans (by decide)) (go_tableIn (pc := 33) (off := 904) (tgt := 937) dL_law_33 (by decide) (by decide) (by decide) (by decide) (law_23 hi hL R hT nx))
    | 24, _, e => exact go_top (y := 24) (e.trans (by decide)) (go_tableIn (pc := 33) (off := 917) (tgt := 950) dL_law_33 (by decide) (by decide) (by decide) (by decide) (law_24 hi hL R hT nx))
    | 25, _, e => exact go_top (y := 25) (e.trans (by decide)) (go_tableIn (pc := 33) (off := 940) (tgt := 973) dL_law_33 (by decide) (by decide) (by decide) (by decide) (law_25 hi hL R hT nx))
    | 26, _, e => exact go_top (y := 26) (e.trans (by decide)) (go_tableIn (pc := 33) (off := 963) (tgt := 996) dL_law_33 (by decide) (by decide) (by decide) (by decide) (law_26 hi hL R hT nx))
    | 27, _, e => exact go_top (y := 27) (e.trans (by decide)) (go_tableIn (pc := 33) (off := 996) (tgt := 1029) dL_law_33 (by decide) (by decide) (by decide) (by decide) (law_27 hi hL R hT nx))
    | 28, _, e => exact go_top (y := 28) (e.trans (by decide)) (go_tableIn (pc := 33) (off := 1019) (tgt := 1052) dL_law_33 (by decide) (by decide) (by decide) (by decide) (law_28 hi hL R hT nx))
    | 29, _, e => exact go_top (y := 29) (e.trans (by decide)) (go_tableIn (pc := 33) (off := 1042) (tgt := 1075) dL_law_33 (by decide) (by decide) (by decide) (by decide) (law_29 hi hL R hT nx))
    | 30, _, e => exact go_top (y := 30) (e.trans (by decide)) (go_tableIn (pc := 33) (off := 1055) (tgt := 1088) dL_law_33 (by decide) (by decide) (by decide) (by decide) (law_30 hi hL R hT nx))
    | 31, _, e => exact go_top (y := 31) (e.trans (by decide)) (go_tableIn (pc := 33) (off := 1068) (tgt := 1101) dL_law_33 (by decide) (by decide) (by decide) (by decide) (law_31 hi hL R hT nx))
    | 32, _, e => exact go_top (y := 32) (e.trans (by decide)) (go_tableIn (pc := 33) (off := 1091) (tgt := 1124) dL_law_33 (by decide) (by decide) (by decide) (by decide) (law_32 hi hL R hT nx))
    | 33, _, e => exact go_top (y := 33) (e.trans (by decide)) (go_tableIn (pc := 33) (off := 1124) (tgt := 1157) dL_law_33 (by decide) (by decide) (by decide) (by decide) (law_33 hi hL R hT nx))
    | 34, _, e => exact go_top (y := 34) (e.trans (by decide)) (go_tableIn (pc := 33) (off := 1137) (tgt := 1170) dL_law_33 (by decide) (by decide) (by decide) (by decide) (law_34 hi hL R hT nx))
    | 35, _, e => exact go_top (y := 35) (e.trans (by decide)) (go_tableIn (pc := 33) (off := 1150) (tgt := 1183) dL_law_33 (by decide) (by decide) (by decide) (by decide) (law_35 hi hL R hT nx))
    | 36, _, e => exact go_top (y := 36) (e.trans (by decide)) (go_tableIn (pc := 33) (off := 1213) (tgt := 1246) dL_law_33 (by decide) (by decide) (by decide) (by decide) (law_36 hi hL R hT nx))
    | 37, _, e => exact go_top (y := 37) (e.trans (by decide)) (go_tableIn (pc := 33) (off := 1226) (tgt := 1259) dL_law_33 (by decide) (by decide) (by decide) (by decide) (law_37 hi hL R hT nx))
    | 38, _, e => exact go_top (y := 38) (e.trans (by decide)) (go_tableIn (pc := 33) (off := 1249) (tgt := 1282) dL_law_33 (by decide) (by decide) (by decide) (by decide) (law_38 hi hL R hT nx))
    | 39, _, e => exact go_top (y := 39) (e.trans (by decide)) (go_tableIn (pc := 33) (off := 1262) (tgt := 1295) dL_law_33 (by decide) (by decide) (by decide) (by decide) (law_39 hi hL R hT nx))
    | 40, _, e => exact go_top (y := 40) (e.trans (by decide)) (go_tableIn (pc := 33) (off := 1285) (tgt := 1318) dL_law_33 (by decide) (by decide) (by decide) (by decide) (law_40 hi hL R hT nx))
    | 41, _, e => exact go_top (y := 41) (e.trans (by decide)) (go_tableIn (pc := 33) (off := 1298) (tgt := 1331) dL_law_33 (by decide) (by decide) (by decide) (by decide) (law_41 hi hL R hT nx))
    | 42, _, e => exact go_top (y := 42) (e.trans (by decide)) (go_tableIn (pc := 33) (off := 1311) (tgt := 1344) dL_law_33 (by decide) (by decide) (by decide) (by decide) (law_42 hi hL R hT nx))
    | 43, _, e => exact go_top (y := 43) (e.trans (by decide)) (go_tableIn (pc := 33) (off := 1324) (tgt := 1357) dL_law_33 (by decide) (by decide) (by decide) (by decide) (law_43 hi hL R hT nx))
    | 44, _, e => exact go_top (y := 44) (e.trans (by decide)) (go_tableIn (pc := 33) (off := 1337) (tgt := 1370) dL_law_33 (by decide) (by decide) (by decide) (by decide) (law_44 hi hL R hT nx))
    | 45, _, e => exact go_top (y := 45) (e.trans (by decide)) (go_tableOut (pc := 33) (tgt := 1393) dL_law_33 (by decide) (by decide) (nx c m (R.mono (by omega))))
    | 46, _, e => exact go_top (y := 46) (e.trans (by decide)) (go_tableOut (pc := 33) (tgt := 1393) dL_law_33 (by decide) (by decide) (nx c m (R.mono (by omega))))
    | 47, _, e => exact go_top (y := 47) (e.trans (by decide)) (go_tableOut (pc := 33) (tgt := 1393) dL_law_33 (by decide) (by decide) (nx c m (R.mono (by omega))))
    | 48, _, e => exact go_top (y := 48) (e.trans (by decide)) (go_tableOut (pc := 33) (tgt := 1393) dL_law_33 (by decide) (by decide) (nx c m (R.mono (by omega))))
    | 49, _, e => exact go_top (y := 49) (e.trans (by decide)) (go_tableOut (pc := 33) (tgt := 1393) dL_law_33 (by decide) (by decide) (nx c m (R.mono (by omega))))
    | 50, _, e => exact go_top (y := 50) (e.trans (by decide)) (go_tableOut (pc := 33) (tgt := 1393) dL_law_33 (by decide) (by decide) (nx c m (R.mono (by omega))))
    | 51, _, e => exact go_top (y := 51) (e.trans (by decide)) (go_tableOut (pc := 33) (tgt := 1393) dL_law_33 (by decide) (by decide) (nx c m (R.mono (by omega))))
    | 52, _, e => exact go_top (y := 52) (e.trans (by decide)) (go_tableOut (pc := 33) (tgt := 1393) dL_law_33 (by decide) (by decide) (nx c m (R.mono (by omega))))
    | 53, _, e => exact go_top (y := 53) (e.trans (by decide)) (go_tableOut (pc := 33) (tgt := 1393) dL_law_33 (by decide) (by decide) (nx c m (R.mono (by omega))))
    | 54, _, e => exact go_top (y := 54) (e.trans (by decide)) (go_tableOut (pc := 33) (tgt := 1393) dL_law_33 (by decide) (by decide) (nx c m (R.mono (by omega))))
    | 55, _, e => exact go_top (y := 55) (e.trans (by decide)) (go_tableOut (pc := 33) (tgt := 1393) dL_law_33 (by decide) (by decide) (nx c m (R.mono (by omega))))
    | 56, _, e => exact go_top (y := 56) (e.trans (by decide)) (go_tableOut (pc := 33) (tgt := 1393) dL_law_33 (by decide) (by decide) (nx c m (R.mono (by omega))))
    | 57, _, e => exact go_top (y := 57) (e.trans (by decide)) (go_tableOut (pc := 33) (tgt := 1393) dL_law_33 (by decide) (by decide) (nx c m (R.mono (by omega))))
    | 58, _, e => exact go_top (y := 58) (e.trans (by decide)) (go_tableOut (pc := 33) (tgt := 1393) dL_law_33 (by decide) (by decide) (nx c m (R.mono (by omega))))
    | 59, _, e => exact go_top (y := 59) (e.trans (by decide)) (go_tableOut (pc := 33) (tgt := 1393) dL_law_33 (by decide) (by decide) (nx c m (R.mono (by omega))))
    | 60, _, e => exact go_top (y := 60) (e.trans (by decide)) (go_tableOut (pc := 33) (tgt := 1393) dL_law_33 (by decide) (by decide) (nx c m (R.mono (by omega))))
    | 61, _, e => exact go_top (y := 61) (e.trans (by decide)) (go_tableOut (pc := 33) (tgt := 1393) dL_law_33 (by decide) (by decide) (nx c m (R.mono (by omega))))
    | 62, _, e => exact go_top (y := 62) (e.trans (by decide)) (go_tableOut (pc := 33) (tgt := 1393) dL_law_33 (by decide) (by decide) (nx c m (R.mono (by omega))))
    | 63, _, e => exact go_top (y := 63) (e.trans (by decide)) (go_tableOut (pc := 33) (tgt := 1393) dL_law_33 (by decide) (by decide) (nx c m (R.mono (by omega))))
    | q + 64, h, _ => exact absurd h (by omega)
set_option maxRecDepth 100000 in
theorem law_go {l : Launch} {G : gG} (hL : G.2.2.2.2.2.2.1 ≤ 3072) : Go l G mL_law lawB 0 [(0, .ref G.2.2.2.2.2.1)] [] 0 0 (wl G.2.1 []) := by
  refine go_newE (pc := 0) (n1 := 1) (k1 := 11) nL_7 rfl rfl rfl (show 1 ≤ 0 + 84 by decide) (show 11 ≤ 0 + 146846 by decide) dL_law_0 ?_
  refine go_ext (wl_push (n := 0) rfl) ?_
  refine go_dup (pc := 3) dL_law_3 rfl ?_
  refine go_callI_v (pc := 4) iL_9 rfl ct_ctorX rfl rfl (Nat.le_of_ble_eq_true rfl) ⟨Nat.le_of_ble_eq_true rfl, Nat.le_of_ble_eq_true rfl, (show 74 ≤ 0 + 84 by decide), (show 66015 ≤ 0 + 146846 by decide)⟩ dL_law_4 ?_
  refine go_astore_n (pc := 7) dL_law_7 rfl (by decide) rfl ?_
  refine go_newE (pc := 8) (n1 := 75) (k1 := 66031) nL_10 rfl rfl rfl (show 75 ≤ 0 + 84 by decide) (show 66031 ≤ 0 + 146846 by decide) dL_law_8 ?_
  refine go_ext (wl_push (n := 74) rfl) ?_
  refine go_dup (pc := 11) dL_law_11 rfl ?_
  refine go_callI_v (pc := 12) iL_12 rfl ct_ctorM rfl rfl (Nat.le_of_ble_eq_true rfl) ⟨Nat.le_of_ble_eq_true rfl, Nat.le_of_ble_eq_true rfl, (show 84 ≤ 0 + 84 by decide), (show 146846 ≤ 0 + 146846 by decide)⟩ dL_law_12 ?_
  refine go_ext w0_eq ?_
  refine go_astore_n (pc := 15) dL_law_15 rfl (by decide) rfl ?_
  refine go_iconst (pc := 16) (v := nI 0) dL_law_16 (by decide) ?_
  refine go_istore_n (pc := 17) dL_law_17 rfl (by decide) rfl ?_
  exact law_loop hL 512 0 c0 m0 (by omega) (by decide) rel0
theorem whole_start {p : Program} {e : Env} {s : State} {m : MethodId} {below : List Frame} {meth : Method} {c : Code} (l : Launch) {b L : Nat} {xs : Nat → Int32} (hL : L ≤ 3072) (hnm : meth.name = mL_law.1.name) (C0 : lw_At p s m meth c b L xs) : W p l e room_1 s m #[Value.ref b] below meth c s.heap [] 0 0 (lw_Z below #[Value.ref b] s) (entryFrame m ([Value.ref b] : List Value).toArray 4) := by
  obtain ⟨hx, hbc, hr, hml, hown, hts, hX, hbl, hlk, hgv⟩ := C0
  have hs := flat_of_before _ hgv
  obtain ⟨D, cI, cZ, hK⟩ := st_K hts
  obtain ⟨t0, h0⟩ := st_s0 hs hts
  obtain ⟨t1, h1⟩ := st_s1 hs hts
  obtain ⟨t2, h2⟩ := st_s2 hs hts
  obtain ⟨t3, h3⟩ := st_s3 hs hts
  obtain ⟨t4, h4⟩ := st_s4 hs hts
  obtain ⟨t5, h5⟩ := st_s5 hs hts
  obtain ⟨t6, h6⟩ := st_s6 hs hts
  obtain ⟨t7, h7⟩ := st_s7 hs hts
  have hE : ga_E (D, s.heap.size, cI, cZ, (fun k => match k with | 0 => t0 | 1 => t1 | 2 => t2 | 3 => t3 | 4 => t4 | 5 => t5 | 6 => t6 | _ => t7), b, L, xs) s := by
    refine ⟨hK, fun w hw => ?_, fun k hk => ?_, hX, hbl, Nat.le_refl _⟩
    · have hw1 := (List.mem_filter.mp hw).1
      have hw2 := (List.mem_filter.mp hw).2
      have hw3 := hts w hw1
      unfold gn_is at hw2
      split at hw2
      · exact va_Nw.of rfl hw3
      · exact va_Nw.of rfl hw3
      · cases hw2
    · match k, hk with
      | 0, _ => exact h0
      | 1, _ => exact h1
      | 2, _ => exact h2
      | 3, _ => exact h3
      | 4, _ => exact h4
      | 5, _ => exact h5
      | 6, _ => exact h6
      | 7, _ => exact h7
      | q + 8, h => exact absurd h (by omega)
  have hl := lv_entry [Value.ref b] (n := 4) (Nat.le_of_ble_eq_true rfl)
  rw [lg_entry_eq]
  generalize (lg_sl [Value.ref b] ++ List.replicate (4 - (lg_sl [Value.ref b]).length) Slot.unset).toArray = ls at hl ⊢
  exact law_go (l := l) (G := (D, s.heap.size, cI, cZ, (fun k => match k with | 0 => t0 | 1 => t1 | 2 => t2 | 3 => t3 | 4 => t4 | 5 => t5 | 6 => t6 | _ => t7), b, L, xs)) hL p e room_1 s m #[Value.ref b] below meth c s.heap [] ls ⟨hx, hbc, hml, hr, hlk, hown, hnm, fun w hw => hts w (List.mem_filter.mp hw).1, hE, by decide, by decide, by decide, by decide, rfl⟩ ⟨Nat.le_refl _, Nat.le_refl _, ⟨rfl, fun k q hq => by simp [ga_L] at hq⟩, va_S.rf, hl⟩

/-! java.util.Arrays.fill of ints -/
theorem va_up_up (w : Nat → va_E) (a : Nat) (e e' : va_E) : va_up (va_up w a e) a e' = va_up w a e' := bx_uu w a e e'
section FILL
variable {l : Launch} {G : gG} {n k : Nat} {w : Nat → va_E}
theorem fill_loop {B : gB} {a N : Nat} {x : Int32} (hN : N < 2 ^ 31) (ha : G.2.1 ≤ a ∧ a < G.2.1 + n) (f : Nat → Int32)
    (kk : Go l G mJ7_fill_53178 B 20 [(3, .int (nI N)), (2, .int (nI N)), (0, .ref a), (1, .int x)] [] n k (va_up w a (ai G N (fun j => if j < N then x else f j)))) :
    ∀ (d i : Nat), N - i = d → i ≤ N → Go l G mJ7_fill_53178 B 5 [(3, .int (nI N)), (2, .int (nI i)), (0, .ref a), (1, .int x)] [] n k (va_up w a (ai G N (fun j => if j < i then x else f j))) := by
  intro d
  induction d with
  | zero =>
    intro i hd hi
    have hiN : i = N := by omega
    subst hiN
    refine go_iload_n dJ7_fill_53178_5 rfl rfl ?_
    refine go_iload_n dJ7_fill_53178_6 rfl rfl ?_
    exact go_icmp_ge_t (tgt := 20) dJ7_fill_53178_7 (by decide) (nI_le (Nat.le_refl _) hN) kk
  | succ d ih =>
    intro i hd hi
    have hlt : i < N := by omega
    refine go_iload_n dJ7_fill_53178_5 rfl rfl ?_
    refine go_iload_n dJ7_fill_53178_6 rfl rfl ?_
    refine go_icmp_ge_f (tgt := 20) dJ7_fill_53178_7 (by decide) (nI_ge hlt hN) ?_
    refine go_aload_n dJ7_fill_53178_10 rfl rfl ?_
    refine go_iload_n dJ7_fill_53178_11 rfl rfl ?_
    refine go_iload_n dJ7_fill_53178_12 rfl rfl ?_
    refine go_iast ha (va_up_self _ _ _) (vp_in_nI hlt hN) dJ7_fill_53178_13 ?_
    rw [va_up_up, nI_clamp (by omega)]
    refine go_iinc (v := nI (i + 1)) (lv' := [(2, .int (nI (i + 1))), (3, .int (nI N)), (0, .ref a), (1, .int x)]) dJ7_fill_53178_14 1 rfl (nI_1 i) (by decide) rfl ?_
    refine go_goto (tgt := 5) dJ7_fill_53178_17 (by decide) ?_
    refine go_lv [1, 0, 2, 3] rfl ?_
    refine go_arr (g := fun j => if j < i + 1 then x else f j) (fun j _ => ?_) (ih (i + 1) (by omega) (by omega))
    by_cases h : j = i
    · subst h; simp [upd]
    · simp only [upd, if_neg h]
      by_cases h2 : j < i
      · rw [if_pos h2, if_pos (by omega)]
      · rw [if_neg h2, if_neg (by omega)]
/-- fill(a, x): every place becomes x -/
theorem ct_fill {a N : Nat} {f : Nat → Int32} (x : Int32) (hN : N < 2 ^ 31) (ha : G.2.1 ≤ a ∧ a < G.2.1 + n) (hw : w a = ai G N f) : Ct l G mJ7_fill_53178 0 0 [.ref a, .int x] n k w (none, n, k, va_up w a (ai G N (fun _ => x))) := by
  refine Ct.of (by decide) (Nat.le_of_ble_eq_true rfl) ⟨Nat.le_refl _, Nat.le_refl _⟩ ?_
  show Go l G mJ7_fill_53178 _ 0 [(0, .ref a), (1, .int x)] [] n k w
  refine go_iconst (v := nI 0) dJ7_fill_53178_0 rfl ?_
  refine go_istore_n (lv' := [(2, .int (nI 0)), (0, .ref a), (1, .int x)]) dJ7_fill_53178_1 rfl (by decide) rfl ?_
  refine go_aload_n dJ7_fill_53178_2 rfl rfl ?_
  refine go_alen ha hw dJ7_fill_53178_3 ?_
  refine go_istore_n (lv' := [(3, .int (nI N)), (2, .int (nI 0)), (0, .ref a), (1, .int x)]) dJ7_fill_53178_4 rfl (by decide) rfl ?_
  refine go_ext (w' := va_up w a (ai G N (fun j => if j < 0 then x else f j))) (fun i _ => ?_) (fill_loop hN ha f ?_ N 0 (Nat.sub_zero N) (Nat.zero_le N))
  · by_cases hi : G.2.1 + i = a
    · rw [hi, va_up_self, hw]; simp
    · rw [va_up_ne _ _ hi]
  · refine go_arr (g := fun _ => x) (fun j hj => if_pos hj) ?_
    exact go_vret rfl dJ7_fill_53178_20
theorem ct_rangeCheck {len fr to : Int32} (h1 : fr ≤ to) (h2 : 0 ≤ fr) (h3 : to ≤ len) : Ct l G mJ7_rangeCheck_23922 0 0 [.int len, .int fr, .int to] n k w (none, n, k, w) := by
  refine Ct.of (by decide) (Nat.le_of_ble_eq_true rfl) ⟨Nat.le_refl _, Nat.le_refl _⟩ ?_
  show Go l G mJ7_rangeCheck_23922 _ 0 [(0, .int len), (1, .int fr), (2, .int to)] [] n k w
  refine go_iload_n dJ7_rangeCheck_23922_0 rfl rfl ?_
  refine go_iload_n dJ7_rangeCheck_23922_1 rfl rfl ?_
  refine go_icmp_le_t (tgt := 46) dJ7_rangeCheck_23922_2 (by decide) h1 ?_
  refine go_iload_n dJ7_rangeCheck_23922_46 rfl rfl ?_
  refine go_if_ge_t (tgt := 59) dJ7_rangeCheck_23922_47 (by decide) h2 ?_
  refine go_iload_n dJ7_rangeCheck_23922_59 rfl rfl ?_
  refine go_iload_n dJ7_rangeCheck_23922_60 rfl rfl ?_
  refine go_icmp_le_t (tgt := 73) dJ7_rangeCheck_23922_61 (by decide) h3 ?_
  exact go_vret rfl dJ7_rangeCheck_23922_73
theorem fillr_loop {B : gB} {a N : Nat} {x p : Int32} (f : Nat → Int32) {fr to : Nat} (hto : to ≤ N) (hN : N < 2 ^ 31) (ha : G.2.1 ≤ a ∧ a < G.2.1 + n)
    (kk : Go l G mJ7_fill_fda19 B 27 [(4, .int (nI to)), (0, .ref a), (1, .int p), (2, .int (nI to)), (3, .int x)] [] n k (va_up w a (ai G N (fun j => if fr ≤ j ∧ j < to then x else f j)))) :
    ∀ (d i : Nat), to - i = d → fr ≤ i → i ≤ to → Go l G mJ7_fill_fda19 B 10 [(4, .int (nI i)), (0, .ref a), (1, .int p), (2, .int (nI to)), (3, .int x)] [] n k (va_up w a (ai G N (fun j => if fr ≤ j ∧ j < i then x else f j))) := by
  intro d
  induction d with
  | zero =>
    intro i hd hf hi
    have hiN : i = to := by omega
    subst hiN
    refine go_iload dJ7_fill_fda19_10 rfl ?_
    refine go_iload_n dJ7_fill_fda19_12 rfl rfl ?_
    exact go_icmp_ge_t (tgt := 27) dJ7_fill_fda19_13 (by decide) (nI_le (Nat.le_refl _) (by omega)) kk
  | succ d ih =>
    intro i hd hf hi
    have hlt : i < to := by omega
    refine go_iload dJ7_fill_fda19_10 rfl ?_
    refine go_iload_n dJ7_fill_fda19_12 rfl rfl ?_
    refine go_icmp_ge_f (tgt := 27) dJ7_fill_fda19_13 (by decide) (nI_ge hlt (by omega)) ?_
    refine go_aload_n dJ7_fill_fda19_16 rfl rfl ?_
    refine go_iload dJ7_fill_fda19_17 rfl ?_
    refine go_iload_n dJ7_fill_fda19_19 rfl rfl ?_
    refine go_iast ha (va_up_self _ _ _) (vp_in_nI (by omega) hN) dJ7_fill_fda19_20 ?_
    rw [va_up_up, nI_clamp (by omega)]
    refine go_iinc (v := nI (i + 1)) (lv' := [(4, .int (nI (i + 1))), (0, .ref a), (1, .int p), (2, .int (nI to)), (3, .int x)]) dJ7_fill_fda19_21 0 rfl (nI_1 i) (by decide) rfl ?_
    refine go_goto (tgt := 10) dJ7_fill_fda19_24 (by decide) ?_
    refine go_arr (g := fun j => if fr ≤ j ∧ j < i + 1 then x else f j) (fun j _ => ?_) (ih (i + 1) (by omega) (by omega) (by omega))
    by_cases h : j = i
    · subst h; simp [upd, hf]
    · simp only [upd, if_neg h]
      by_cases h2 : fr ≤ j ∧ j < i
      · rw [if_pos h2, if_pos (by omega)]
      · rw [if_neg h2, if_neg (by omega)]
/-- fill(a, fr, to, x): the places from fr on, below to, become x -/
theorem ct_fillr {a N : Nat} {f : Nat → Int32} (x : Int32) {fr to : Nat} (hf : fr ≤ to) (hto : to ≤ N) (hN : N < 2 ^ 31) (ha : G.2.1 ≤ a ∧ a < G.2.1 + n) (hw : w a = ai G N f) : Ct l G mJ7_fill_fda19 1 22 [.ref a, .int (nI fr), .int (nI to), .int x] n k w (none, n, k, va_up w a (ai G N (fun j => if fr ≤ j ∧ j < to then x else f j))) := by
  refine Ct.of (by decide) (Nat.le_of_ble_eq_true rfl) ⟨Nat.le_refl _, Nat.le_refl _⟩ ?_
  show Go l G mJ7_fill_fda19 _ 0 [(0, .ref a), (1, .int (nI fr)), (2, .int (nI to)), (3, .int x)] [] n k w
  refine go_aload_n dJ7_fill_fda19_0 rfl rfl ?_
  refine go_alen ha hw dJ7_fill_fda19_1 ?_
  refine go_iload_n dJ7_fill_fda19_2 rfl rfl ?_
  refine go_iload_n dJ7_fill_fda19_3 rfl rfl ?_
  refine go_callS_v sJ7_13 rfl (ct_rangeCheck (nI_le hf (by omega)) (nI_pos' (by omega)) (nI_le hto hN)) rfl rfl (Nat.le_of_ble_eq_true rfl) ⟨Nat.le_of_ble_eq_true rfl, Nat.le_of_ble_eq_true rfl, Nat.le_add_right _ _, Nat.le_add_right _ _⟩ dJ7_fill_fda19_4 ?_
  refine go_iload_n dJ7_fill_fda19_7 rfl rfl ?_
  refine go_istore (lv' := [(4, .int (nI fr)), (0, .ref a), (1, .int (nI fr)), (2, .int (nI to)), (3, .int x)]) dJ7_fill_fda19_8 (by decide) rfl ?_
  refine go_ext (w' := va_up w a (ai G N (fun j => if fr ≤ j ∧ j < fr then x else f j))) (fun i _ => ?_) (fillr_loop f hto hN ha ?_ (to - fr) fr rfl (Nat.le_refl _) hf)
  · by_cases hi : G.2.1 + i = a
    · rw [hi, va_up_self, hw]
      have : (fun j => if fr ≤ j ∧ j < fr then x else f j) = f := by
        funext j
        rw [if_neg (by omega)]
      rw [this]
    · rw [va_up_ne _ _ hi]
  · exact go_vret rfl dJ7_fill_fda19_27
end FILL

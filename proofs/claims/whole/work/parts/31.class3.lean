def cs1 (k i : Nat) (r : Nat → Nat) : Nat → Nat := if (r i).testBit k then jfu r i (r i ||| r k) else r
def csI (k : Nat) (r : Nat → Nat) : Nat → (Nat → Nat)
  | 0 => r
  | i + 1 => cs1 k i (csI k r i)
def csK (m : Nat) (r : Nat → Nat) : Nat → (Nat → Nat)
  | 0 => r
  | k + 1 => csI k (csK m r k) m
def tclo (A : jT) : jT := (A.1, fun i => if i < A.1 then csK A.1 A.2 A.1 i else 0)
theorem csI_lt {k : Nat} {r : Nat → Nat} (h : ∀ i, r i < 4096) : ∀ i z, csI k r i z < 4096
  | 0 => h
  | i + 1 => fun z => by
    have ih := csI_lt h (k := k) i
    unfold csI cs1
    split
    · simp only [jfu]
      split
      · exact Nat.or_lt_two_pow (n := 12) (ih _) (ih _)
      · exact ih z
    · exact ih z
theorem csK_lt {m : Nat} {r : Nat → Nat} (h : ∀ i, r i < 4096) : ∀ k z, csK m r k z < 4096
  | 0 => h
  | k + 1 => csI_lt (csK_lt h k) m
theorem x_close {n : jN} {h : jH} {t : Nat} (ht : isT t) {T : jT} (hr : rep h t T) (hT : tw T) : jC n 1 jy_Table_close jc_Table_close 3 none [.ref t] h none (sT h t (tclo T)) := by
  have hn12 := hT.1
  refine jC_of jm_Table_close (L := [some (.ref t), none, none]) (Nat.le_of_ble_eq_true rfl) rfl trivial ?_
  generalize hres : ((none, sT h t (tclo T)) : Option Value × jH) = res
  refine j_heap (h' := pT h t T.1 (h (t + 1))) (pT_0 hr.1) ?_
  refine j_heap (h' := pT h t T.1 (fun z => if z < T.1 then nI (csK T.1 T.2 0 z) else h (t + 1) z)) (pT_cg rfl (fun z => by by_cases e : z < T.1; (rw [if_pos e]; exact hr.2 z e); (rw [if_neg e]))) ?_
  refine j_iconst (v := nI 0) d_Table_close_0 rfl ?_
  refine j_istore_n (L' := [some (.ref t), some (.int (nI 0)), none]) d_Table_close_1 (by decide) rfl rfl ?_
  refine j_loop (P := fun k => jJ n 1 jc_Table_close 3 "YesNoPowers$Table" 2 [some (.ref t), some (.int (nI k)), none] [] (pT h t T.1 (fun z => if z < T.1 then nI (csK T.1 T.2 k z) else h (t + 1) z)) res) (m := T.1) ?_ (fun k hk ihk => ?_)
  · refine j_iload_n d_Table_close_2 rfl ?_
    refine j_aload_n d_Table_close_3 rfl ?_
    refine j_getv (v := nI T.1) d_Table_close_4 jf_Table_15 ht.1 rfl pT_n ?_
    refine j_icmp_geN_t (tgt := 57) d_Table_close_7 (by decide) (by omega) (by omega) (Nat.le_refl _) ?_
    subst hres
    exact j_retv d_Table_close_57 (pT_cg rfl (fun z => by by_cases e : z < T.1; (rw [if_pos e, if_pos (show z < (tclo T).1 from e), show (tclo T).2 z = csK T.1 T.2 T.1 z from if_pos e]); (rw [if_neg e, if_neg (show ¬ z < (tclo T).1 from e)])))
  · refine j_iload_n d_Table_close_2 rfl ?_
    refine j_aload_n d_Table_close_3 rfl ?_
    refine j_getv (v := nI T.1) d_Table_close_4 jf_Table_15 ht.1 rfl pT_n ?_
    refine j_icmp_geN_f (tgt := 57) d_Table_close_7 (by decide) (by omega) (by omega) (Nat.not_le.mpr hk) ?_
    refine j_iconst (v := nI 0) d_Table_close_10 rfl ?_
    refine j_istore_n (L' := [some (.ref t), some (.int (nI k)), some (.int (nI 0))]) d_Table_close_11 (by decide) rfl rfl ?_
    refine j_heap (h' := pT h t T.1 (fun z => if z < T.1 then nI (csI k (csK T.1 T.2 k) 0 z) else h (t + 1) z)) rfl ?_
    refine j_loop (P := fun i => jJ n 1 jc_Table_close 3 "YesNoPowers$Table" 12 [some (.ref t), some (.int (nI k)), some (.int (nI i))] [] (pT h t T.1 (fun z => if z < T.1 then nI (csI k (csK T.1 T.2 k) i z) else h (t + 1) z)) res) (m := T.1) ?_ (fun i hi ihi => ?_)
    · refine j_iload_n d_Table_close_12 rfl ?_
      refine j_aload_n d_Table_close_13 rfl ?_
      refine j_getv (v := nI T.1) d_Table_close_14 jf_Table_15 ht.1 rfl pT_n ?_
      refine j_icmp_geN_t (tgt := 51) d_Table_close_17 (by decide) (by omega) (by omega) (Nat.le_refl _) ?_
      refine j_iincN (x := k) (L' := [some (.ref t), some (.int (nI (k + 1))), some (.int (nI T.1))]) d_Table_close_51 rfl (by decide) rfl rfl ?_
      refine j_goto (tgt := 2) d_Table_close_54 (by decide) ?_
      exact j_forget (i := 2) rfl ihk
    · have hlt : ∀ z, csI k (csK T.1 T.2 k) i z < 4096 := csI_lt (csK_lt hT.2.1 k) i
      refine j_iload_n d_Table_close_12 rfl ?_
      refine j_aload_n d_Table_close_13 rfl ?_
      refine j_getv (v := nI T.1) d_Table_close_14 jf_Table_15 ht.1 rfl pT_n ?_
      refine j_icmp_geN_f (tgt := 51) d_Table_close_17 (by decide) (by omega) (by omega) (Nat.not_le.mpr hi) ?_
      refine j_aload_n d_Table_close_20 rfl ?_
      refine j_iload_n d_Table_close_21 rfl ?_
      refine j_iload_n d_Table_close_22 rfl ?_
      refine j_callVs (As := [.int (nI i), .int (nI k)]) (st := []) (x_entry (r := csI k (csK T.1 T.2 k) i i) ht (by omega) (by omega) (pT_r.trans (if_pos hi)) (Nat.lt_trans (hlt i) (by omega))) d_Table_close_23 (by decide) jm_Table_entry jk_Table_23 ji_Table_entry js_Table_entry ht.1 (by decide) rfl rfl (Nat.le_of_ble_eq_true rfl) rfl ?_
      refine j_iconst (v := nI 1) d_Table_close_26 rfl ?_
      refine j_icmp_neB (tgt := 45) d_Table_close_27 (by decide) (fun c => ?_) (fun c => ?_)
      · have hs : csI k (csK T.1 T.2 k) (i + 1) = csI k (csK T.1 T.2 k) i := by rw [csI, cs1, if_neg (by rw [c]; decide)]
        rw [hs] at ihi
        refine j_iincN (x := i) (L' := [some (.ref t), some (.int (nI k)), some (.int (nI (i + 1)))]) d_Table_close_45 rfl (by decide) rfl rfl ?_
        refine j_goto (tgt := 12) d_Table_close_48 (by decide) ?_
        exact ihi
      · have hs : csI k (csK T.1 T.2 k) (i + 1) = jfu (csI k (csK T.1 T.2 k) i) i (csI k (csK T.1 T.2 k) i i ||| csI k (csK T.1 T.2 k) i k) := by rw [csI, cs1, if_pos c]
        rw [hs] at ihi
        refine j_aload_n d_Table_close_30 rfl ?_
        refine j_getr (b := t + 1) d_Table_close_31 jf_Table_11 ht.1 rfl ht.2.1 ht.2.2.2 ?_
        refine j_iload_n d_Table_close_34 rfl ?_
        refine j_dup2 d_Table_close_35 rfl rfl ?_
        refine j_ialdN (v := nI (csI k (csK T.1 T.2 k) i i)) d_Table_close_36 ht.2.2.1 (by omega) (by decide) (pT_r.trans (if_pos hi)) ?_
        refine j_aload_n d_Table_close_37 rfl ?_
        refine j_getr (b := t + 1) d_Table_close_38 jf_Table_11 ht.1 rfl ht.2.1 ht.2.2.2 ?_
        refine j_iload_n d_Table_close_41 rfl ?_
        refine j_ialdN (v := nI (csI k (csK T.1 T.2 k) i k)) d_Table_close_42 ht.2.2.1 (by omega) (by decide) (pT_r.trans (if_pos hk)) ?_
        refine j_iorN d_Table_close_43 ?_
        refine j_iastN (h' := pT h t T.1 (jfu (fun z => if z < T.1 then nI (csI k (csK T.1 T.2 k) i z) else h (t + 1) z) i (nI ((csI k (csK T.1 T.2 k) i i) ||| (csI k (csK T.1 T.2 k) i k))))) d_Table_close_44 ht.2.2.1 (by omega) (by decide) pT_sr ?_
        refine j_iincN (x := i) (L' := [some (.ref t), some (.int (nI k)), some (.int (nI (i + 1)))]) d_Table_close_45 rfl (by decide) rfl rfl ?_
        refine j_goto (tgt := 12) d_Table_close_48 (by decide) ?_
        refine j_heap (h' := pT h t T.1 (fun z => if z < T.1 then nI (jfu (csI k (csK T.1 T.2 k) i) i (csI k (csK T.1 T.2 k) i i ||| csI k (csK T.1 T.2 k) i k) z) else h (t + 1) z)) (pT_cg rfl (fun z => by simp only [jfu]; by_cases e : z = i; (rw [if_pos e, if_pos (show z < T.1 by omega), if_pos e]); (rw [if_neg e, if_neg e]))) ?_
        exact ihi
def tno (A : jT) (k : Nat) : Nat := jor k (fun i => A.2 i * 2 ^ (A.1 * i))
theorem x_number {n : jN} {h : jH} {t : Nat} (ht : isT t) {T : jT} (hr : rep h t T) (hT : tw T) (hm4 : T.1 ≤ 4) : jC n 0 jy_Table_number jc_Table_number 3 (some .int) [.ref t] h (some (.int (nI (tno T T.1)))) h := by
  have hn12 := hT.1
  refine jC_of jm_Table_number (L := [some (.ref t), none, none]) (Nat.le_of_ble_eq_true rfl) rfl trivial ?_
  generalize hres : (((some (.int (nI (tno T T.1)))), h) : Option Value × jH) = res
  refine j_iconst (v := nI 0) d_Table_number_0 rfl ?_
  refine j_istore_n (L' := [some (.ref t), some (.int (nI 0)), none]) d_Table_number_1 (by decide) rfl rfl ?_
  refine j_iconst (v := nI 0) d_Table_number_2 rfl ?_
  refine j_istore_n (L' := [some (.ref t), some (.int (nI 0)), some (.int (nI 0))]) d_Table_number_3 (by decide) rfl rfl ?_
  refine j_loop (P := fun k => jJ n 0 jc_Table_number 3 "YesNoPowers$Table" 4 [some (.ref t), some (.int (nI (tno T k))), some (.int (nI k))] [] h res) (m := T.1) ?_ (fun k hk ih => ?_)
  · refine j_iload_n d_Table_number_4 rfl ?_
    refine j_aload_n d_Table_number_5 rfl ?_
    refine j_getv (v := nI T.1) d_Table_number_6 jf_Table_15 ht.1 rfl hr.1 ?_
    refine j_icmp_geN_t (tgt := 39) d_Table_number_9 (by decide) (by omega) (by omega) (Nat.le_refl _) ?_
    refine j_iload_n d_Table_number_39 rfl ?_
    subst hres
    exact j_reti d_Table_number_40 rfl rfl
  · have hmk : T.1 * k ≤ 4 * 3 := Nat.mul_le_mul hm4 (by omega)
    refine j_iload_n d_Table_number_4 rfl ?_
    refine j_aload_n d_Table_number_5 rfl ?_
    refine j_getv (v := nI T.1) d_Table_number_6 jf_Table_15 ht.1 rfl hr.1 ?_
    refine j_icmp_geN_f (tgt := 39) d_Table_number_9 (by decide) (by omega) (by omega) (Nat.not_le.mpr hk) ?_
    refine j_iload_n d_Table_number_12 rfl ?_
    refine j_iconst (v := nI 4) d_Table_number_13 rfl ?_
    refine j_icmp_geN_f (tgt := 39) d_Table_number_14 (by decide) (by omega) (by omega) (by omega) ?_
    refine j_iload_n d_Table_number_17 rfl ?_
    refine j_aload_n d_Table_number_18 rfl ?_
    refine j_getr (b := t + 1) d_Table_number_19 jf_Table_11 ht.1 rfl ht.2.1 ht.2.2.2 ?_
    refine j_iload_n d_Table_number_22 rfl ?_
    refine j_ialdN (v := nI (T.2 k)) d_Table_number_23 ht.2.2.1 (by omega) (by decide) (hr.2 _ (by omega)) ?_
    refine j_aload_n d_Table_number_24 rfl ?_
    refine j_getv (v := nI T.1) d_Table_number_25 jf_Table_15 ht.1 rfl hr.1 ?_
    refine j_iload_n d_Table_number_28 rfl ?_
    refine j_imulN d_Table_number_29 ?_
    refine j_ishlN d_Table_number_30 (by omega) (Nat.lt_of_le_of_lt (Nat.mul_le_mul (Nat.le_of_lt (hT.2.1 k)) (Nat.pow_le_pow_right (by omega) hmk)) (by decide)) ?_
    refine j_iorN d_Table_number_31 ?_
    refine j_top (w := nI (tno T (k + 1))) rfl ?_
    refine j_istore_n (L' := [some (.ref t), some (.int (nI (tno T (k + 1)))), some (.int (nI k))]) d_Table_number_32 (by decide) rfl rfl ?_
    refine j_iincN (x := k) (L' := [some (.ref t), some (.int (nI (tno T (k + 1)))), some (.int (nI (k + 1)))]) d_Table_number_33 rfl (by decide) rfl rfl ?_
    refine j_goto (tgt := 4) d_Table_number_36 (by decide) ?_
    exact ih
theorem x_becomeNumbered {n : jN} {h : jH} {t : Nat} (ht : isT t) {m x : Nat} (hm : m ≤ 4) (hx : x < 65536) : jC n 1 jy_Table_becomeNumbered jc_Table_becomeNumbered 4 none [.ref t, .int (nI m), .int (nI x)] h none (sT h t (tnum m x)) := by
  refine jC_of jm_Table_becomeNumbered (L := [some (.ref t), some (.int (nI m)), some (.int (nI x)), none]) (Nat.le_of_ble_eq_true rfl) rfl trivial ?_
  generalize hres : ((none, sT h t (tnum m x)) : Option Value × jH) = res
  have h2p : 0 < 2 ^ m := Nat.two_pow_pos m
  refine j_aload_n d_Table_becomeNumbered_0 rfl ?_
  refine j_iload_n d_Table_becomeNumbered_1 rfl ?_
  refine j_putv (h' := pT h t m (h (t + 1))) d_Table_becomeNumbered_2 jf_Table_15 ht.1 rfl pT_1 ?_
  refine j_iconst (v := nI 0) d_Table_becomeNumbered_5 rfl ?_
  refine j_istore_n (L' := [some (.ref t), some (.int (nI m)), some (.int (nI x)), some (.int (nI 0))]) d_Table_becomeNumbered_6 (by decide) rfl rfl ?_
  refine j_heap (h' := pT h t m (fun z => if z < 0 then nI (x / 2 ^ (m * z) &&& (2 ^ m - 1)) else h (t + 1) z)) (pT_cg rfl (fun k => by rw [if_neg (by omega)])) ?_
  refine j_loop (P := fun k => jJ n 1 jc_Table_becomeNumbered 4 "YesNoPowers$Table" 7 [some (.ref t), some (.int (nI m)), some (.int (nI x)), some (.int (nI k))] [] (pT h t m (fun z => if z < k then nI (x / 2 ^ (m * z) &&& (2 ^ m - 1)) else h (t + 1) z)) res) (m := m) ?_ (fun k hk ih => ?_)
  · refine j_iload_n d_Table_becomeNumbered_7 rfl ?_
    refine j_aload_n d_Table_becomeNumbered_8 rfl ?_
    refine j_getv (v := nI m) d_Table_becomeNumbered_9 jf_Table_15 ht.1 rfl pT_n ?_
    refine j_icmp_geN_t (tgt := 45) d_Table_becomeNumbered_12 (by decide) (by omega) (by omega) (Nat.le_refl _) ?_
    subst hres
    exact j_retv d_Table_becomeNumbered_45 (pT_cg rfl (fun k => by by_cases e : k < m; (rw [if_pos e, if_pos (show k < (tnum m x).1 from e), show (tnum m x).2 k = x / 2 ^ (m * k) &&& (2 ^ m - 1) from if_pos e]); (rw [if_neg e, if_neg (show ¬ k < (tnum m x).1 from e)])))
  · have hmk : m * k ≤ 4 * 3 := Nat.mul_le_mul hm (by omega)
    refine j_iload_n d_Table_becomeNumbered_7 rfl ?_
    refine j_aload_n d_Table_becomeNumbered_8 rfl ?_
    refine j_getv (v := nI m) d_Table_becomeNumbered_9 jf_Table_15 ht.1 rfl pT_n ?_
    refine j_icmp_geN_f (tgt := 45) d_Table_becomeNumbered_12 (by decide) (by omega) (by omega) (Nat.not_le.mpr hk) ?_
    refine j_iload_n d_Table_becomeNumbered_15 rfl ?_
    refine j_iconst (v := nI 4) d_Table_becomeNumbered_16 rfl ?_
    refine j_icmp_geN_f (tgt := 45) d_Table_becomeNumbered_17 (by decide) (by omega) (by omega) (by omega) ?_
    refine j_aload_n d_Table_becomeNumbered_20 rfl ?_
    refine j_getr (b := t + 1) d_Table_becomeNumbered_21 jf_Table_11 ht.1 rfl ht.2.1 ht.2.2.2 ?_
    refine j_iload_n d_Table_becomeNumbered_24 rfl ?_
    refine j_iload_n d_Table_becomeNumbered_25 rfl ?_
    refine j_aload_n d_Table_becomeNumbered_26 rfl ?_
    refine j_getv (v := nI m) d_Table_becomeNumbered_27 jf_Table_15 ht.1 rfl pT_n ?_
    refine j_iload_n d_Table_becomeNumbered_30 rfl ?_
    refine j_imulN d_Table_becomeNumbered_31 ?_
    refine j_ishrN d_Table_becomeNumbered_32 (by omega) (by omega) ?_
    refine j_aload_n d_Table_becomeNumbered_33 rfl ?_
    refine j_callVs (As := []) (st := [.int (nI (x / (2 ^ (m * k)))), .int (nI k), .ref (t + 1)]) (x_allColumns ht pT_n (by omega)) d_Table_becomeNumbered_34 (by decide) jm_Table_allColumns jk_Table_19 ji_Table_allColumns js_Table_allColumns ht.1 (by decide) rfl rfl (Nat.le_of_ble_eq_true rfl) rfl ?_
    refine j_iandN d_Table_becomeNumbered_37 ?_
    refine j_iastN (h' := pT h t m (jfu (fun z => if z < k then nI (x / 2 ^ (m * z) &&& (2 ^ m - 1)) else h (t + 1) z) k (nI ((x / (2 ^ (m * k))) &&& (2 ^ m - 1))))) d_Table_becomeNumbered_38 ht.2.2.1 (by omega) (by decide) pT_sr ?_
    refine j_iincN (x := k) (L' := [some (.ref t), some (.int (nI m)), some (.int (nI x)), some (.int (nI (k + 1)))]) d_Table_becomeNumbered_39 rfl (by decide) rfl rfl ?_
    refine j_goto (tgt := 7) d_Table_becomeNumbered_42 (by decide) ?_
    refine j_heap (h' := pT h t m (fun z => if z < k + 1 then nI (x / 2 ^ (m * z) &&& (2 ^ m - 1)) else h (t + 1) z)) (pT_cg rfl (fun k => by simp only [jfu]; (repeat' split); all_goals first | rfl | omega | (subst_vars; rfl))) ?_
    exact ih
def plr (m w i : Nat) : Nat := if w = 0 then 0 else if w = 1 then 2 ^ m - 1 else if w = 2 then 2 ^ i else 2 ^ (if i = m - 1 then 0 else i + 1)
theorem plr_mkr {m w i : Nat} (hm : 0 < m) (hi : i < m) (hw : w ≤ 4) : (if w = 4 ∧ i = m - 1 then plr m w i ||| 2 else plr m w i) = mkr m w i := by
  have e : (i + 1) % m = if i = m - 1 then 0 else i + 1 := by
    split
    · rename_i h
      rw [show i + 1 = m by omega, Nat.mod_self]
    · exact Nat.mod_eq_of_lt (by omega)
  unfold plr mkr
  rw [e]
  by_cases h0 : w = 0
  · simp [h0]
  · by_cases h1 : w = 1
    · simp [h1]
    · by_cases h2 : w = 2
      · simp [h2]
      · by_cases h4 : w = 4 ∧ i = m - 1
        · simp [h4]
        · simp [h0, h1, h2, h4]
theorem x_becomePlain {n : jN} {h : jH} {t : Nat} (ht : isT t) {m w : Nat} (hm0 : 0 < m) (hm : m ≤ 12) (hw4 : w ≤ 4) (h41 : ¬ (w = 4 ∧ m = 1)) : jC n 1 jy_Table_becomePlain jc_Table_becomePlain 5 none [.ref t, .int (nI m), .int (nI w)] h none (sT h t (tmk m w)) := by
  refine jC_of jm_Table_becomePlain (L := [some (.ref t), some (.int (nI m)), some (.int (nI w)), none, none]) (Nat.le_of_ble_eq_true rfl) rfl trivial ?_
  generalize hres : ((none, sT h t (tmk m w)) : Option Value × jH) = res
  have h2p : 0 < 2 ^ m := Nat.two_pow_pos m
  refine j_aload_n d_Table_becomePlain_0 rfl ?_
  refine j_iload_n d_Table_becomePlain_1 rfl ?_
  refine j_putv (h' := pT h t m (h (t + 1))) d_Table_becomePlain_2 jf_Table_15 ht.1 rfl pT_1 ?_
  refine j_iconst (v := nI 0) d_Table_becomePlain_5 rfl ?_
  refine j_istore_n (L' := [some (.ref t), some (.int (nI m)), some (.int (nI w)), some (.int (nI 0)), none]) d_Table_becomePlain_6 (by decide) rfl rfl ?_
  refine j_heap (h' := pT h t m (fun z => if z < 0 then nI (plr m w z) else h (t + 1) z)) (pT_cg rfl (fun k => by rw [if_neg (by omega)])) ?_
  refine j_loop (P := fun k => jJ n 1 jc_Table_becomePlain 5 "YesNoPowers$Table" 7 [some (.ref t), some (.int (nI m)), some (.int (nI w)), some (.int (nI k)), none] [] (pT h t m (fun z => if z < k then nI (plr m w z) else h (t + 1) z)) res) (m := m) ?_ (fun k hk ih => ?_)
  · refine j_iload_n d_Table_becomePlain_7 rfl ?_
    refine j_aload_n d_Table_becomePlain_8 rfl ?_
    refine j_getv (v := nI m) d_Table_becomePlain_9 jf_Table_15 ht.1 rfl pT_n ?_
    refine j_icmp_geN_t (tgt := 81) d_Table_becomePlain_12 (by decide) (by omega) (by omega) (Nat.le_refl _) ?_
    refine j_iload_n d_Table_becomePlain_81 rfl ?_
    refine j_iconst (v := nI 4) d_Table_becomePlain_82 rfl ?_
    refine j_icmp_neN (tgt := 109) d_Table_becomePlain_83 (by decide) (by omega) (by omega) (fun d1 => ?_) (fun d1 => ?_)
    · subst hres
      exact j_retv d_Table_becomePlain_109 (pT_cg rfl (fun z => by by_cases e : z < m; (rw [if_pos (show z < (tmk m w).1 from e), show (tmk m w).2 z = mkr m w z from if_pos e, ← plr_mkr hm0 e hw4]; rw [if_pos e, if_neg (by omega)]); (rw [if_neg (show ¬ z < (tmk m w).1 from e)]; rw [if_neg e])))
    · refine j_aload_n d_Table_becomePlain_86 rfl ?_
      refine j_getv (v := nI m) d_Table_becomePlain_87 jf_Table_15 ht.1 rfl pT_n ?_
      refine j_iconst (v := nI 1) d_Table_becomePlain_90 rfl ?_
      refine j_icmp_leN (tgt := 109) d_Table_becomePlain_91 (by decide) (by omega) (by omega) (fun d2 => ?_) (fun d2 => ?_)
      · exact absurd ⟨d1, by omega⟩ h41
      · refine j_aload_n d_Table_becomePlain_94 rfl ?_
        refine j_getr (b := t + 1) d_Table_becomePlain_95 jf_Table_11 ht.1 rfl ht.2.1 ht.2.2.2 ?_
        refine j_aload_n d_Table_becomePlain_98 rfl ?_
        refine j_getv (v := nI m) d_Table_becomePlain_99 jf_Table_15 ht.1 rfl pT_n ?_
        refine j_iconst (v := nI 1) d_Table_becomePlain_102 rfl ?_
        refine j_isubN d_Table_becomePlain_103 (by omega) ?_
        refine j_dup2 d_Table_becomePlain_104 rfl rfl ?_
        refine j_ialdN (v := nI (plr m w (m - 1))) d_Table_becomePlain_105 ht.2.2.1 (by omega) (by decide) (pT_r.trans (if_pos (by omega))) ?_
        refine j_iconst (v := nI 2) d_Table_becomePlain_106 rfl ?_
        refine j_iorN d_Table_becomePlain_107 ?_
        refine j_iastN (h' := pT h t m (jfu (fun z => if z < m then nI (plr m w z) else h (t + 1) z) (m - 1) (nI ((plr m w (m - 1)) ||| 2)))) d_Table_becomePlain_108 ht.2.2.1 (by omega) (by decide) pT_sr ?_
        subst hres
        exact j_retv d_Table_becomePlain_109 (pT_cg rfl (fun z => by by_cases e : z < m; (rw [if_pos (show z < (tmk m w).1 from e), show (tmk m w).2 z = mkr m w z from if_pos e, ← plr_mkr hm0 e hw4]; simp only [jfu]; by_cases e2 : z = m - 1; (rw [if_pos e2, if_pos ⟨d1, e2⟩, e2]); (rw [if_neg e2, if_pos e, if_neg (by omega)])); (rw [if_neg (show ¬ z < (tmk m w).1 from e)]; simp only [jfu]; rw [if_neg (by omega), if_neg e])))
  · refine j_iload_n d_Table_becomePlain_7 rfl ?_
    refine j_aload_n d_Table_becomePlain_8 rfl ?_
    refine j_getv (v := nI m) d_Table_becomePlain_9 jf_Table_15 ht.1 rfl pT_n ?_
    refine j_icmp_geN_f (tgt := 81) d_Table_becomePlain_12 (by decide) (by omega) (by omega) (Nat.not_le.mpr hk) ?_
    refine j_iload_n d_Table_becomePlain_15 rfl ?_
    refine j_aload_n d_Table_becomePlain_16 rfl ?_
    refine j_getv (v := nI m) d_Table_becomePlain_17 jf_Table_15 ht.1 rfl pT_n ?_
    refine j_iconst (v := nI 1) d_Table_becomePlain_20 rfl ?_
    refine j_isubN d_Table_becomePlain_21 (by omega) ?_
    refine j_icmp_neN (tgt := 29) d_Table_becomePlain_22 (by decide) (by omega) (by omega) (fun c0 => ?_) (fun c0 => ?_)
    · refine j_iload_n d_Table_becomePlain_29 rfl ?_
      refine j_iconst (v := nI 1) d_Table_becomePlain_30 rfl ?_
      refine j_iaddN d_Table_becomePlain_31 ?_
      refine j_istore (L' := [some (.ref t), some (.int (nI m)), some (.int (nI w)), some (.int (nI k)), some (.int (nI (k + 1)))]) d_Table_becomePlain_32 (by decide) rfl rfl ?_
      refine j_aload_n d_Table_becomePlain_34 rfl ?_
      refine j_getr (b := t + 1) d_Table_becomePlain_35 jf_Table_11 ht.1 rfl ht.2.1 ht.2.2.2 ?_
      refine j_iload_n d_Table_becomePlain_38 rfl ?_
      refine j_iload_n d_Table_becomePlain_39 rfl ?_
      refine j_if_neN (tgt := 47) d_Table_becomePlain_40 (by decide) (by omega) (fun e0 => ?_) (fun e0 => ?_)
      · refine j_iload_n d_Table_becomePlain_47 rfl ?_
        refine j_iconst (v := nI 1) d_Table_becomePlain_48 rfl ?_
        refine j_icmp_neN (tgt := 59) d_Table_becomePlain_49 (by decide) (by omega) (by omega) (fun e1 => ?_) (fun e1 => ?_)
        · refine j_iload_n d_Table_becomePlain_59 rfl ?_
          refine j_iconst (v := nI 2) d_Table_becomePlain_60 rfl ?_
          refine j_icmp_neN (tgt := 70) d_Table_becomePlain_61 (by decide) (by omega) (by omega) (fun e2 => ?_) (fun e2 => ?_)
          · refine j_iconst (v := nI 1) d_Table_becomePlain_70 rfl ?_
            refine j_iload d_Table_becomePlain_71 rfl ?_
            refine j_shl1N d_Table_becomePlain_73 (by omega) ?_
            refine j_top (w := nI (plr m w k)) (by first | (exfalso; omega) | simp [plr, c0, e0, e1, e2]) ?_
            refine j_iastN (h' := pT h t m (jfu (fun z => if z < k then nI (plr m w z) else h (t + 1) z) k (nI (plr m w k)))) d_Table_becomePlain_74 ht.2.2.1 (by omega) (by decide) pT_sr ?_
            refine j_heap (h' := pT h t m (fun z => if z < k + 1 then nI (plr m w z) else h (t + 1) z)) (pT_cg rfl (fun k => by simp only [jfu]; (repeat' split); all_goals first | rfl | omega | (subst_vars; rfl))) ?_
            refine j_iincN (x := k) (L' := [some (.ref t), some (.int (nI m)), some (.int (nI w)), some (.int (nI (k + 1))), some (.int (nI (k + 1)))]) d_Table_becomePlain_75 rfl (by decide) rfl rfl ?_
            refine j_goto (tgt := 7) d_Table_becomePlain_78 (by decide) ?_
            exact j_forget (i := 4) rfl ih
          · refine j_iconst (v := nI 1) d_Table_becomePlain_64 rfl ?_
            refine j_iload_n d_Table_becomePlain_65 rfl ?_
            refine j_shl1N d_Table_becomePlain_66 (by omega) ?_
            refine j_goto (tgt := 74) d_Table_becomePlain_67 (by decide) ?_
            refine j_top (w := nI (plr m w k)) (by first | (exfalso; omega) | simp [plr, c0, e0, e1, e2]) ?_
            refine j_iastN (h' := pT h t m (jfu (fun z => if z < k then nI (plr m w z) else h (t + 1) z) k (nI (plr m w k)))) d_Table_becomePlain_74 ht.2.2.1 (by omega) (by decide) pT_sr ?_
            refine j_heap (h' := pT h t m (fun z => if z < k + 1 then nI (plr m w z) else h (t + 1) z)) (pT_cg rfl (fun k => by simp only [jfu]; (repeat' split); all_goals first | rfl | omega | (subst_vars; rfl))) ?_
            refine j_iincN (x := k) (L' := [some (.ref t), some (.int (nI m)), some (.int (nI w)), some (.int (nI (k + 1))), some (.int (nI (k + 1)))]) d_Table_becomePlain_75 rfl (by decide) rfl rfl ?_
            refine j_goto (tgt := 7) d_Table_becomePlain_78 (by decide) ?_
            exact j_forget (i := 4) rfl ih
        · refine j_aload_n d_Table_becomePlain_52 rfl ?_
          refine j_callVs (As := []) (st := [.int (nI k), .ref (t + 1)]) (x_allColumns ht pT_n (by omega)) d_Table_becomePlain_53 (by decide) jm_Table_allColumns jk_Table_19 ji_Table_allColumns js_Table_allColumns ht.1 (by decide) rfl rfl (Nat.le_of_ble_eq_true rfl) rfl ?_
          refine j_goto (tgt := 74) d_Table_becomePlain_56 (by decide) ?_
          refine j_top (w := nI (plr m w k)) (by first | (exfalso; omega) | simp [plr, c0, e0, e1]) ?_
          refine j_iastN (h' := pT h t m (jfu (fun z => if z < k then nI (plr m w z) else h (t + 1) z) k (nI (plr m w k)))) d_Table_becomePlain_74 ht.2.2.1 (by omega) (by decide) pT_sr ?_
          refine j_heap (h' := pT h t m (fun z => if z < k + 1 then nI (plr m w z) else h (t + 1) z)) (pT_cg rfl (fun k => by simp only [jfu]; (repeat' split); all_goals first | rfl | omega | (subst_vars; rfl))) ?_
          refine j_iincN (x := k) (L' := [some (.ref t), some (.int (nI m)), some (.int (nI w)), some (.int (nI (k + 1))), some (.int (nI (k + 1)))]) d_Table_becomePlain_75 rfl (by decide) rfl rfl ?_
          refine j_goto (tgt := 7) d_Table_becomePlain_78 (by decide) ?_
          exact j_forget (i := 4) rfl ih
      · refine j_iconst (v := nI 0) d_Table_becomePlain_43 rfl ?_
        refine j_goto (tgt := 74) d_Table_becomePlain_44 (by decide) ?_
        refine j_top (w := nI (plr m w k)) (by first | (exfalso; omega) | simp [plr, c0, e0]) ?_
        refine j_iastN (h' := pT h t m (jfu (fun z => if z < k then nI (plr m w z) else h (t + 1) z) k (nI (plr m w k)))) d_Table_becomePlain_74 ht.2.2.1 (by omega) (by decide) pT_sr ?_
        refine j_heap (h' := pT h t m (fun z => if z < k + 1 then nI (plr m w z) else h (t + 1) z)) (pT_cg rfl (fun k => by simp only [jfu]; (repeat' split); all_goals first | rfl | omega | (subst_vars; rfl))) ?_
        refine j_iincN (x := k) (L' := [some (.ref t), some (.int (nI m)), some (.int (nI w)), some (.int (nI (k + 1))), some (.int (nI (k + 1)))]) d_Table_becomePlain_75 rfl (by decide) rfl rfl ?_
        refine j_goto (tgt := 7) d_Table_becomePlain_78 (by decide) ?_
        exact j_forget (i := 4) rfl ih
    · refine j_iconst (v := nI 0) d_Table_becomePlain_25 rfl ?_
      refine j_goto (tgt := 32) d_Table_becomePlain_26 (by decide) ?_
      refine j_istore (L' := [some (.ref t), some (.int (nI m)), some (.int (nI w)), some (.int (nI k)), some (.int (nI 0))]) d_Table_becomePlain_32 (by decide) rfl rfl ?_
      refine j_aload_n d_Table_becomePlain_34 rfl ?_
      refine j_getr (b := t + 1) d_Table_becomePlain_35 jf_Table_11 ht.1 rfl ht.2.1 ht.2.2.2 ?_
      refine j_iload_n d_Table_becomePlain_38 rfl ?_
      refine j_iload_n d_Table_becomePlain_39 rfl ?_
      refine j_if_neN (tgt := 47) d_Table_becomePlain_40 (by decide) (by omega) (fun e0 => ?_) (fun e0 => ?_)
      · refine j_iload_n d_Table_becomePlain_47 rfl ?_
        refine j_iconst (v := nI 1) d_Table_becomePlain_48 rfl ?_
        refine j_icmp_neN (tgt := 59) d_Table_becomePlain_49 (by decide) (by omega) (by omega) (fun e1 => ?_) (fun e1 => ?_)
        · refine j_iload_n d_Table_becomePlain_59 rfl ?_
          refine j_iconst (v := nI 2) d_Table_becomePlain_60 rfl ?_
          refine j_icmp_neN (tgt := 70) d_Table_becomePlain_61 (by decide) (by omega) (by omega) (fun e2 => ?_) (fun e2 => ?_)
          · refine j_iconst (v := nI 1) d_Table_becomePlain_70 rfl ?_
            refine j_iload d_Table_becomePlain_71 rfl ?_
            refine j_shl1N d_Table_becomePlain_73 (by omega) ?_
            refine j_top (w := nI (plr m w k)) (by first | (exfalso; omega) | simp [plr, c0, e0, e1, e2]) ?_
            refine j_iastN (h' := pT h t m (jfu (fun z => if z < k then nI (plr m w z) else h (t + 1) z) k (nI (plr m w k)))) d_Table_becomePlain_74 ht.2.2.1 (by omega) (by decide) pT_sr ?_
            refine j_heap (h' := pT h t m (fun z => if z < k + 1 then nI (plr m w z) else h (t + 1) z)) (pT_cg rfl (fun k => by simp only [jfu]; (repeat' split); all_goals first | rfl | omega | (subst_vars; rfl))) ?_
            refine j_iincN (x := k) (L' := [some (.ref t), some (.int (nI m)), some (.int (nI w)), some (.int (nI (k + 1))), some (.int (nI 0))]) d_Table_becomePlain_75 rfl (by decide) rfl rfl ?_
            refine j_goto (tgt := 7) d_Table_becomePlain_78 (by decide) ?_
            exact j_forget (i := 4) rfl ih
          · refine j_iconst (v := nI 1) d_Table_becomePlain_64 rfl ?_
            refine j_iload_n d_Table_becomePlain_65 rfl ?_
            refine j_shl1N d_Table_becomePlain_66 (by omega) ?_
            refine j_goto (tgt := 74) d_Table_becomePlain_67 (by decide) ?_
            refine j_top (w := nI (plr m w k)) (by first | (exfalso; omega) | simp [plr, c0, e0, e1, e2]) ?_
            refine j_iastN (h' := pT h t m (jfu (fun z => if z < k then nI (plr m w z) else h (t + 1) z) k (nI (plr m w k)))) d_Table_becomePlain_74 ht.2.2.1 (by omega) (by decide) pT_sr ?_
            refine j_heap (h' := pT h t m (fun z => if z < k + 1 then nI (plr m w z) else h (t + 1) z)) (pT_cg rfl (fun k => by simp only [jfu]; (repeat' split); all_goals first | rfl | omega | (subst_vars; rfl))) ?_
            refine j_iincN (x := k) (L' := [some (.ref t), some (.int (nI m)), some (.int (nI w)), some (.int (nI (k + 1))), some (.int (nI 0))]) d_Table_becomePlain_75 rfl (by decide) rfl rfl ?_
            refine j_goto (tgt := 7) d_Table_becomePlain_78 (by decide) ?_
            exact j_forget (i := 4) rfl ih
        · refine j_aload_n d_Table_becomePlain_52 rfl ?_
          refine j_callVs (As := []) (st := [.int (nI k), .ref (t + 1)]) (x_allColumns ht pT_n (by omega)) d_Table_becomePlain_53 (by decide) jm_Table_allColumns jk_Table_19 ji_Table_allColumns js_Table_allColumns ht.1 (by decide) rfl rfl (Nat.le_of_ble_eq_true rfl) rfl ?_
          refine j_goto (tgt := 74) d_Table_becomePlain_56 (by decide) ?_
          refine j_top (w := nI (plr m w k)) (by first | (exfalso; omega) | simp [plr, c0, e0, e1]) ?_
          refine j_iastN (h' := pT h t m (jfu (fun z => if z < k then nI (plr m w z) else h (t + 1) z) k (nI (plr m w k)))) d_Table_becomePlain_74 ht.2.2.1 (by omega) (by decide) pT_sr ?_
          refine j_heap (h' := pT h t m (fun z => if z < k + 1 then nI (plr m w z) else h (t + 1) z)) (pT_cg rfl (fun k => by simp only [jfu]; (repeat' split); all_goals first | rfl | omega | (subst_vars; rfl))) ?_
          refine j_iincN (x := k) (L' := [some (.ref t), some (.int (nI m)), some (.int (nI w)), some (.int (nI (k + 1))), some (.int (nI 0))]) d_Table_becomePlain_75 rfl (by decide) rfl rfl ?_
          refine j_goto (tgt := 7) d_Table_becomePlain_78 (by decide) ?_
          exact j_forget (i := 4) rfl ih
      · refine j_iconst (v := nI 0) d_Table_becomePlain_43 rfl ?_
        refine j_goto (tgt := 74) d_Table_becomePlain_44 (by decide) ?_
        refine j_top (w := nI (plr m w k)) (by first | (exfalso; omega) | simp [plr, c0, e0]) ?_
        refine j_iastN (h' := pT h t m (jfu (fun z => if z < k then nI (plr m w z) else h (t + 1) z) k (nI (plr m w k)))) d_Table_becomePlain_74 ht.2.2.1 (by omega) (by decide) pT_sr ?_
        refine j_heap (h' := pT h t m (fun z => if z < k + 1 then nI (plr m w z) else h (t + 1) z)) (pT_cg rfl (fun k => by simp only [jfu]; (repeat' split); all_goals first | rfl | omega | (subst_vars; rfl))) ?_
        refine j_iincN (x := k) (L' := [some (.ref t), some (.int (nI m)), some (.int (nI w)), some (.int (nI (k + 1))), some (.int (nI 0))]) d_Table_becomePlain_75 rfl (by decide) rfl rfl ?_
        refine j_goto (tgt := 7) d_Table_becomePlain_78 (by decide) ?_
        exact j_forget (i := 4) rfl ih

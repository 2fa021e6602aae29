theorem c_row {n : jN} {h : jH} {P : jP} {p i : Nat} (hp : p < 38) (hi : i < 12) : jC n 0 jy_Model_row jc_Model_row 3 (some .int) [.ref 135, .int (nI p), .int (nI i)] (jM h P) (some (.int (nI ((P p).2 i)))) (jM h P) := by
  refine jC_of jm_Model_row (L := [some (.ref 135), some (.int (nI p)), some (.int (nI i))]) (Nat.le_of_ble_eq_true rfl) rfl trivial ?_
  generalize hres : (((some (.int (nI ((P p).2 i)))), jM h P) : Option Value × jH) = res
  refine j_aload_n d_Model_row_0 rfl ?_
  refine j_getr (b := 136) d_Model_row_1 jf_Model_7 rfl rfl rfl (by decide) ?_
  refine j_bipush (v := nI 12) d_Model_row_4 (by decide) ?_
  refine j_iload_n d_Model_row_6 rfl ?_
  refine j_imulN d_Model_row_7 ?_
  refine j_iload_n d_Model_row_8 rfl ?_
  refine j_iaddN d_Model_row_9 ?_
  refine j_ialdN (v := nI ((P p).2 i)) d_Model_row_10 rfl (by omega) (by decide) (jM_row (by omega)) ?_
  subst hres
  exact j_reti d_Model_row_11 rfl rfl
theorem c_row_ne {n : jN} {h : jH} {P : jP} {p q i : Nat} {T : jT} (hp : q < 38) (hi : i < 12) (hq : q ≠ p) : jC n 0 jy_Model_row jc_Model_row 3 (some .int) [.ref 135, .int (nI q), .int (nI i)] (jM h (jset P p T)) (some (.int (nI ((P q).2 i)))) (jM h (jset P p T)) := by
  have := c_row (n := n) (h := h) (P := jset P p T) hp hi
  rwa [jset_ne hq] at this
theorem c_row_p {n : jN} {h : jH} {P : jP} {p i m : Nat} {F : Nat → Nat} (hp : p < 38) (hi : i < 12) : jC n 0 jy_Model_row jc_Model_row 3 (some .int) [.ref 135, .int (nI p), .int (nI i)] (jM h (jset P p (m, F))) (some (.int (nI (F i)))) (jM h (jset P p (m, F))) := by
  have := c_row (n := n) (h := h) (P := jset P p (m, F)) hp hi
  rwa [jset_eq] at this
theorem c_leads {n : jN} {h : jH} {P : jP} {p i j : Nat} (hp : p < 38) (hi : i < 12) (hj : j < 12) (hr : (P p).2 i < 2 ^ 31) : jC n 0 jy_Model_leads jc_Model_leads 4 (some .boolean) [.ref 135, .int (nI p), .int (nI i), .int (nI j)] (jM h P) (some (.int (jbo (((P p).2 i).testBit j)))) (jM h P) := by
  refine jC_of jm_Model_leads (L := [some (.ref 135), some (.int (nI p)), some (.int (nI i)), some (.int (nI j))]) (Nat.le_of_ble_eq_true rfl) rfl (jbo01 _) ?_
  generalize hres : (((some (.int (jbo (((P p).2 i).testBit j)))), jM h P) : Option Value × jH) = res
  refine j_aload_n d_Model_leads_0 rfl ?_
  refine j_getr (b := 136) d_Model_leads_1 jf_Model_7 rfl rfl rfl (by decide) ?_
  refine j_bipush (v := nI 12) d_Model_leads_4 (by decide) ?_
  refine j_iload_n d_Model_leads_6 rfl ?_
  refine j_imulN d_Model_leads_7 ?_
  refine j_iload_n d_Model_leads_8 rfl ?_
  refine j_iaddN d_Model_leads_9 ?_
  refine j_ialdN (v := nI ((P p).2 i)) d_Model_leads_10 rfl (by omega) (by decide) (jM_row (by omega)) ?_
  refine j_iload_n d_Model_leads_11 rfl ?_
  refine j_ishrN d_Model_leads_12 hr (by omega) ?_
  refine j_iconst (v := nI 1) d_Model_leads_13 rfl ?_
  refine j_iandN d_Model_leads_14 ?_
  refine j_top (w := jbo (((P p).2 i).testBit j)) (ni_bit _ _) ?_
  refine j_iconst (v := nI 1) d_Model_leads_15 rfl ?_
  refine j_icmp_neB (tgt := 23) d_Model_leads_16 (by decide) (fun c => ?_) (fun c => ?_)
  · refine j_iconst (v := nI 0) d_Model_leads_23 rfl ?_
    subst hres
    exact j_reti d_Model_leads_24 (by rw [c]; rfl) rfl
  · refine j_iconst (v := nI 1) d_Model_leads_19 rfl ?_
    refine j_goto (tgt := 24) d_Model_leads_20 (by decide) ?_
    subst hres
    exact j_reti d_Model_leads_24 (by rw [c]; rfl) rfl
theorem c_leads_ne {n : jN} {h : jH} {P : jP} {p q i j : Nat} {T : jT} (hp : q < 38) (hi : i < 12) (hj : j < 12) (hq : q ≠ p) (hr : (P q).2 i < 2 ^ 31) : jC n 0 jy_Model_leads jc_Model_leads 4 (some .boolean) [.ref 135, .int (nI q), .int (nI i), .int (nI j)] (jM h (jset P p T)) (some (.int (jbo (((P q).2 i).testBit j)))) (jM h (jset P p T)) := by
  have := c_leads (n := n) (h := h) (P := jset P p T) hp hi hj (by rw [jset_ne hq]; exact hr)
  rwa [jset_ne hq] at this
theorem c_column {n : jN} {h : jH} {P : jP} {p j : Nat} (hp : p < 38) (hj : j < 12) (hn : (P p).1 ≤ 12) (hr : ∀ i, (P p).2 i < 2 ^ 31) : jC n 1 jy_Model_column jc_Model_column 5 (some .int) [.ref 135, .int (nI p), .int (nI j)] (jM h P) (some (.int (nI (tcol (P p) j (P p).1)))) (jM h P) := by
  refine jC_of jm_Model_column (L := [some (.ref 135), some (.int (nI p)), some (.int (nI j)), none, none]) (Nat.le_of_ble_eq_true rfl) rfl trivial ?_
  generalize hres : (((some (.int (nI (tcol (P p) j (P p).1)))), jM h P) : Option Value × jH) = res
  refine j_iconst (v := nI 0) d_Model_column_0 rfl ?_
  refine j_istore_n (L' := [some (.ref 135), some (.int (nI p)), some (.int (nI j)), some (.int (nI 0)), none]) d_Model_column_1 (by decide) rfl rfl ?_
  refine j_iconst (v := nI 0) d_Model_column_2 rfl ?_
  refine j_istore (L' := [some (.ref 135), some (.int (nI p)), some (.int (nI j)), some (.int (nI 0)), some (.int (nI 0))]) d_Model_column_3 (by decide) rfl rfl ?_
  refine j_loop (P := fun k => jJ n 1 jc_Model_column 5 "YesNoPowersModel" 5 [some (.ref 135), some (.int (nI p)), some (.int (nI j)), some (.int (nI (tcol (P p) j k))), some (.int (nI k))] [] (jM h P) res) (m := (P p).1) ?_ (fun k hk ih => ?_)
  · refine j_iload d_Model_column_5 rfl ?_
    refine j_aload_n d_Model_column_7 rfl ?_
    refine j_getr (b := 137) d_Model_column_8 jf_Model_13 rfl rfl rfl (by decide) ?_
    refine j_iload_n d_Model_column_11 rfl ?_
    refine j_ialdN (v := nI ((P p).1)) d_Model_column_12 rfl (by omega) (by decide) rfl ?_
    refine j_icmp_geN_t (tgt := 44) d_Model_column_13 (by decide) (by omega) (by omega) (Nat.le_refl _) ?_
    refine j_iload_n d_Model_column_44 rfl ?_
    subst hres
    exact j_reti d_Model_column_45 rfl rfl
  · refine j_iload d_Model_column_5 rfl ?_
    refine j_aload_n d_Model_column_7 rfl ?_
    refine j_getr (b := 137) d_Model_column_8 jf_Model_13 rfl rfl rfl (by decide) ?_
    refine j_iload_n d_Model_column_11 rfl ?_
    refine j_ialdN (v := nI ((P p).1)) d_Model_column_12 rfl (by omega) (by decide) rfl ?_
    refine j_icmp_geN_f (tgt := 44) d_Model_column_13 (by decide) (by omega) (by omega) (Nat.not_le.mpr hk) ?_
    refine j_iload_n d_Model_column_16 rfl ?_
    refine j_aload_n d_Model_column_17 rfl ?_
    refine j_iload_n d_Model_column_18 rfl ?_
    refine j_iload d_Model_column_19 rfl ?_
    refine j_iload_n d_Model_column_21 rfl ?_
    refine j_callVs (As := [.int (nI p), .int (nI k), .int (nI j)]) (st := [.int (nI (tcol (P p) j k))]) (c_leads (by omega) (by omega) (by omega) (hr _)) d_Model_column_22 (by decide) jm_Model_leads jk_Model_67 ji_Model_leads js_Model_leads rfl (by decide) rfl rfl (Nat.le_of_ble_eq_true rfl) rfl ?_
    refine j_if_eqB (tgt := 35) d_Model_column_25 (by decide) (fun c => ?_) (fun c => ?_)
    · refine j_iconst (v := nI 0) d_Model_column_35 rfl ?_
      refine j_iorN d_Model_column_36 ?_
      refine j_top (w := nI (tcol (P p) j (k + 1))) (by rw [Nat.or_zero]; exact congrArg nI (jor_z (by simp [c]))) ?_
      refine j_istore_n (L' := [some (.ref 135), some (.int (nI p)), some (.int (nI j)), some (.int (nI (tcol (P p) j (k + 1)))), some (.int (nI k))]) d_Model_column_37 (by decide) rfl rfl ?_
      refine j_iincN (x := k) (L' := [some (.ref 135), some (.int (nI p)), some (.int (nI j)), some (.int (nI (tcol (P p) j (k + 1)))), some (.int (nI (k + 1)))]) d_Model_column_38 rfl (by decide) rfl rfl ?_
      refine j_goto (tgt := 5) d_Model_column_41 (by decide) ?_
      exact ih
    · refine j_iconst (v := nI 1) d_Model_column_28 rfl ?_
      refine j_iload d_Model_column_29 rfl ?_
      refine j_shl1N d_Model_column_31 (by omega) ?_
      refine j_goto (tgt := 36) d_Model_column_32 (by decide) ?_
      refine j_iorN d_Model_column_36 ?_
      refine j_top (w := nI (tcol (P p) j (k + 1))) (congrArg nI (jor_t (by simp [c]))) ?_
      refine j_istore_n (L' := [some (.ref 135), some (.int (nI p)), some (.int (nI j)), some (.int (nI (tcol (P p) j (k + 1)))), some (.int (nI k))]) d_Model_column_37 (by decide) rfl rfl ?_
      refine j_iincN (x := k) (L' := [some (.ref 135), some (.int (nI p)), some (.int (nI j)), some (.int (nI (tcol (P p) j (k + 1)))), some (.int (nI (k + 1)))]) d_Model_column_38 rfl (by decide) rfl rfl ?_
      refine j_goto (tgt := 5) d_Model_column_41 (by decide) ?_
      exact ih
theorem c_column_ne {n : jN} {h : jH} {P : jP} {p q j : Nat} {T : jT} (hp : q < 38) (hj : j < 12) (hq : q ≠ p) (hn : (P q).1 ≤ 12) (hr : ∀ i, (P q).2 i < 2 ^ 31) : jC n 1 jy_Model_column jc_Model_column 5 (some .int) [.ref 135, .int (nI q), .int (nI j)] (jM h (jset P p T)) (some (.int (nI (tcol (P q) j (P q).1)))) (jM h (jset P p T)) := by
  have := c_column (n := n) (h := h) (P := jset P p T) hp hj (by rw [jset_ne hq]; exact hn) (by rw [jset_ne hq]; exact hr)
  rwa [jset_ne hq] at this
theorem c_empty {n : jN} {h : jH} {P : jP} {p m : Nat} (hp : p < 38) : jC n 0 jy_Model_empty jc_Model_empty 4 none [.ref 135, .int (nI p), .int (nI m)] (jM h P) none (jM h (jset P p (m, fun _ => 0))) := by
  refine jC_of jm_Model_empty (L := [some (.ref 135), some (.int (nI p)), some (.int (nI m)), none]) (Nat.le_of_ble_eq_true rfl) rfl trivial ?_
  generalize hres : ((none, jM h (jset P p (m, fun _ => 0))) : Option Value × jH) = res
  refine j_aload_n d_Model_empty_0 rfl ?_
  refine j_getr (b := 137) d_Model_empty_1 jf_Model_13 rfl rfl rfl (by decide) ?_
  refine j_iload_n d_Model_empty_4 rfl ?_
  refine j_iload_n d_Model_empty_5 rfl ?_
  refine j_iastN (h' := jM h (jset P p (m, (P p).2))) d_Model_empty_6 rfl (by omega) (by decide) jM_set_size ?_
  refine j_iconst (v := nI 0) d_Model_empty_7 rfl ?_
  refine j_istore_n (L' := [some (.ref 135), some (.int (nI p)), some (.int (nI m)), some (.int (nI 0))]) d_Model_empty_8 (by decide) rfl rfl ?_
  refine j_heap (h' := jM h (jset P p (m, fun i => if i < 0 then 0 else (P p).2 i))) (jM_cg rfl (fun j hj => by simp)) ?_
  refine j_loop (P := fun k => jJ n 0 jc_Model_empty 4 "YesNoPowersModel" 9 [some (.ref 135), some (.int (nI p)), some (.int (nI m)), some (.int (nI k))] [] (jM h (jset P p (m, fun i => if i < k then 0 else (P p).2 i))) res) (m := 12) ?_ (fun k hk ih => ?_)
  · refine j_iload_n d_Model_empty_9 rfl ?_
    refine j_bipush (v := nI 12) d_Model_empty_10 (by decide) ?_
    refine j_icmp_geN_t (tgt := 33) d_Model_empty_12 (by decide) (by omega) (by omega) (Nat.le_refl _) ?_
    subst hres
    exact j_retv d_Model_empty_33 (jM_cg rfl (fun j hj => by simp [hj]))
  · refine j_iload_n d_Model_empty_9 rfl ?_
    refine j_bipush (v := nI 12) d_Model_empty_10 (by decide) ?_
    refine j_icmp_geN_f (tgt := 33) d_Model_empty_12 (by decide) (by omega) (by omega) (Nat.not_le.mpr hk) ?_
    refine j_aload_n d_Model_empty_15 rfl ?_
    refine j_getr (b := 136) d_Model_empty_16 jf_Model_7 rfl rfl rfl (by decide) ?_
    refine j_bipush (v := nI 12) d_Model_empty_19 (by decide) ?_
    refine j_iload_n d_Model_empty_21 rfl ?_
    refine j_imulN d_Model_empty_22 ?_
    refine j_iload_n d_Model_empty_23 rfl ?_
    refine j_iaddN d_Model_empty_24 ?_
    refine j_iconst (v := nI 0) d_Model_empty_25 rfl ?_
    refine j_iastN (h' := jM h (jset P p (m, fun zz => if zz = k then 0 else (fun i => if i < k then 0 else (P p).2 i) zz))) d_Model_empty_26 rfl (by omega) (by decide) (jM_set_row_p (by omega)) ?_
    refine j_iincN (x := k) (L' := [some (.ref 135), some (.int (nI p)), some (.int (nI m)), some (.int (nI (k + 1)))]) d_Model_empty_27 rfl (by decide) rfl rfl ?_
    refine j_goto (tgt := 9) d_Model_empty_30 (by decide) ?_
    refine j_heap (h' := jM h (jset P p (m, fun i => if i < (k + 1) then 0 else (P p).2 i))) (jM_cg rfl (fun j hj => by by_cases e : j = k; (simp [e]); (simp [e, jlt_s e]))) ?_
    exact ih
theorem jset_jset {P : jP} {p : Nat} {T T' : jT} : jset (jset P p T) p T' = jset P p T' := by
  funext q
  by_cases e : q = p <;> simp [jset, e]
theorem c_empty_p {n : jN} {h : jH} {P : jP} {p m : Nat} {T : jT} (hp : p < 38) : jC n 0 jy_Model_empty jc_Model_empty 4 none [.ref 135, .int (nI p), .int (nI m)] (jM h (jset P p T)) none (jM h (jset P p (m, fun _ => 0))) := by
  have := c_empty (n := n) (h := h) (P := jset P p T) (m := m) hp
  rwa [jset_jset] at this
theorem c_unit {n : jN} {h : jH} {P : jP} {p m : Nat} (hp : p < 38) (hm : m ≤ 12) : jC n 1 jy_Model_unit jc_Model_unit 4 none [.ref 135, .int (nI p), .int (nI m)] (jM h P) none (jM h (jset P p (tunit m))) := by
  refine jC_of jm_Model_unit (L := [some (.ref 135), some (.int (nI p)), some (.int (nI m)), none]) (Nat.le_of_ble_eq_true rfl) rfl trivial ?_
  generalize hres : ((none, jM h (jset P p (tunit m))) : Option Value × jH) = res
  refine j_aload_n d_Model_unit_0 rfl ?_
  refine j_iload_n d_Model_unit_1 rfl ?_
  refine j_iload_n d_Model_unit_2 rfl ?_
  refine j_callVn (As := [.int (nI p), .int (nI m)]) (st := []) (c_empty (by omega)) d_Model_unit_3 (by decide) jm_Model_empty jk_Model_75 ji_Model_empty js_Model_empty rfl (by decide) rfl rfl (Nat.le_of_ble_eq_true rfl) rfl ?_
  refine j_iconst (v := nI 0) d_Model_unit_6 rfl ?_
  refine j_istore_n (L' := [some (.ref 135), some (.int (nI p)), some (.int (nI m)), some (.int (nI 0))]) d_Model_unit_7 (by decide) rfl rfl ?_
  refine j_heap (h' := jM h (jset P p (m, fun i => if i < 0 then 2 ^ i else 0))) (jM_cg rfl (fun j hj => by simp)) ?_
  refine j_loop (P := fun k => jJ n 1 jc_Model_unit 4 "YesNoPowersModel" 8 [some (.ref 135), some (.int (nI p)), some (.int (nI m)), some (.int (nI k))] [] (jM h (jset P p (m, fun i => if i < k then 2 ^ i else 0))) res) (m := m) ?_ (fun k hk ih => ?_)
  · refine j_iload_n d_Model_unit_8 rfl ?_
    refine j_iload_n d_Model_unit_9 rfl ?_
    refine j_icmp_geN_t (tgt := 33) d_Model_unit_10 (by decide) (by omega) (by omega) (Nat.le_refl _) ?_
    subst hres
    exact j_retv d_Model_unit_33 rfl
  · refine j_iload_n d_Model_unit_8 rfl ?_
    refine j_iload_n d_Model_unit_9 rfl ?_
    refine j_icmp_geN_f (tgt := 33) d_Model_unit_10 (by decide) (by omega) (by omega) (Nat.not_le.mpr hk) ?_
    refine j_aload_n d_Model_unit_13 rfl ?_
    refine j_getr (b := 136) d_Model_unit_14 jf_Model_7 rfl rfl rfl (by decide) ?_
    refine j_bipush (v := nI 12) d_Model_unit_17 (by decide) ?_
    refine j_iload_n d_Model_unit_19 rfl ?_
    refine j_imulN d_Model_unit_20 ?_
    refine j_iload_n d_Model_unit_21 rfl ?_
    refine j_iaddN d_Model_unit_22 ?_
    refine j_iconst (v := nI 1) d_Model_unit_23 rfl ?_
    refine j_iload_n d_Model_unit_24 rfl ?_
    refine j_shl1N d_Model_unit_25 (by omega) ?_
    refine j_iastN (h' := jM h (jset P p (m, fun zz => if zz = k then 2 ^ k else (fun i => if i < k then 2 ^ i else 0) zz))) d_Model_unit_26 rfl (by omega) (by decide) (jM_set_row_p (by omega)) ?_
    refine j_iincN (x := k) (L' := [some (.ref 135), some (.int (nI p)), some (.int (nI m)), some (.int (nI (k + 1)))]) d_Model_unit_27 rfl (by decide) rfl rfl ?_
    refine j_goto (tgt := 8) d_Model_unit_30 (by decide) ?_
    refine j_heap (h' := jM h (jset P p (m, fun i => if i < (k + 1) then 2 ^ i else 0))) (jM_cg rfl (fun j hj => by by_cases e : j = k; (simp [e]); (simp [e, jlt_s e]))) ?_
    exact ih
theorem c_copyTo {n : jN} {h : jH} {P : jP} {p t : Nat} (hp : p < 38) (ht : t < 38) (hpt : p ≠ t) : jC n 0 jy_Model_copyTo jc_Model_copyTo 4 none [.ref 135, .int (nI p), .int (nI t)] (jM h P) none (jM h (jset P t (P p))) := by
  refine jC_of jm_Model_copyTo (L := [some (.ref 135), some (.int (nI p)), some (.int (nI t)), none]) (Nat.le_of_ble_eq_true rfl) rfl trivial ?_
  generalize hres : ((none, jM h (jset P t (P p))) : Option Value × jH) = res
  refine j_aload_n d_Model_copyTo_0 rfl ?_
  refine j_getr (b := 137) d_Model_copyTo_1 jf_Model_13 rfl rfl rfl (by decide) ?_
  refine j_iload_n d_Model_copyTo_4 rfl ?_
  refine j_aload_n d_Model_copyTo_5 rfl ?_
  refine j_getr (b := 137) d_Model_copyTo_6 jf_Model_13 rfl rfl rfl (by decide) ?_
  refine j_iload_n d_Model_copyTo_9 rfl ?_
  refine j_ialdN (v := nI ((P p).1)) d_Model_copyTo_10 rfl (by omega) (by decide) rfl ?_
  refine j_iastN (h' := jM h (jset P t ((P p).1, (P t).2))) d_Model_copyTo_11 rfl (by omega) (by decide) jM_set_size ?_
  refine j_iconst (v := nI 0) d_Model_copyTo_12 rfl ?_
  refine j_istore_n (L' := [some (.ref 135), some (.int (nI p)), some (.int (nI t)), some (.int (nI 0))]) d_Model_copyTo_13 (by decide) rfl rfl ?_
  refine j_heap (h' := jM h (jset P t ((P p).1, fun i => if i < 0 then (P p).2 i else (P t).2 i))) (jM_cg rfl (fun j hj => by simp)) ?_
  refine j_loop (P := fun k => jJ n 0 jc_Model_copyTo 4 "YesNoPowersModel" 14 [some (.ref 135), some (.int (nI p)), some (.int (nI t)), some (.int (nI k))] [] (jM h (jset P t ((P p).1, fun i => if i < k then (P p).2 i else (P t).2 i))) res) (m := 12) ?_ (fun k hk ih => ?_)
  · refine j_iload_n d_Model_copyTo_14 rfl ?_
    refine j_bipush (v := nI 12) d_Model_copyTo_15 (by decide) ?_
    refine j_icmp_geN_t (tgt := 48) d_Model_copyTo_17 (by decide) (by omega) (by omega) (Nat.le_refl _) ?_
    subst hres
    exact j_retv d_Model_copyTo_48 (jM_cg (m := (P p).1) (m' := (P p).1) (F' := (P p).2) rfl (fun j hj => by simp [hj]))
  · refine j_iload_n d_Model_copyTo_14 rfl ?_
    refine j_bipush (v := nI 12) d_Model_copyTo_15 (by decide) ?_
    refine j_icmp_geN_f (tgt := 48) d_Model_copyTo_17 (by decide) (by omega) (by omega) (Nat.not_le.mpr hk) ?_
    refine j_aload_n d_Model_copyTo_20 rfl ?_
    refine j_getr (b := 136) d_Model_copyTo_21 jf_Model_7 rfl rfl rfl (by decide) ?_
    refine j_bipush (v := nI 12) d_Model_copyTo_24 (by decide) ?_
    refine j_iload_n d_Model_copyTo_26 rfl ?_
    refine j_imulN d_Model_copyTo_27 ?_
    refine j_iload_n d_Model_copyTo_28 rfl ?_
    refine j_iaddN d_Model_copyTo_29 ?_
    refine j_aload_n d_Model_copyTo_30 rfl ?_
    refine j_getr (b := 136) d_Model_copyTo_31 jf_Model_7 rfl rfl rfl (by decide) ?_
    refine j_bipush (v := nI 12) d_Model_copyTo_34 (by decide) ?_
    refine j_iload_n d_Model_copyTo_36 rfl ?_
    refine j_imulN d_Model_copyTo_37 ?_
    refine j_iload_n d_Model_copyTo_38 rfl ?_
    refine j_iaddN d_Model_copyTo_39 ?_
    refine j_ialdN (v := nI ((P p).2 k)) d_Model_copyTo_40 rfl (by omega) (by decide) (jM_row_ne (by omega) (by omega)) ?_
    refine j_iastN (h' := jM h (jset P t ((P p).1, fun zz => if zz = k then (P p).2 k else (fun i => if i < k then (P p).2 i else (P t).2 i) zz))) d_Model_copyTo_41 rfl (by omega) (by decide) (jM_set_row_p (by omega)) ?_
    refine j_iincN (x := k) (L' := [some (.ref 135), some (.int (nI p)), some (.int (nI t)), some (.int (nI (k + 1)))]) d_Model_copyTo_42 rfl (by decide) rfl rfl ?_
    refine j_goto (tgt := 14) d_Model_copyTo_45 (by decide) ?_
    refine j_heap (h' := jM h (jset P t ((P p).1, fun i => if i < (k + 1) then (P p).2 i else (P t).2 i))) (jM_cg rfl (fun j hj => by by_cases e : j = k; (simp [e]); (simp [e, jlt_s e]))) ?_
    exact ih
theorem c_multiply {n : jN} {h : jH} {P : jP} {a b t : Nat} (hpa : a < 38) (hpb : b < 38) (hpt : t < 38) (hat : a ≠ t) (hbt : b ≠ t) (hw : ∀ q, tw (P q)) : jC n 1 jy_Model_multiply jc_Model_multiply 7 none [.ref 135, .int (nI a), .int (nI b), .int (nI t)] (jM h P) none (jM h (jset P t (tmul (P a) (P b)))) := by
  have hna := (hw a).1
  refine jC_of jm_Model_multiply (L := [some (.ref 135), some (.int (nI a)), some (.int (nI b)), some (.int (nI t)), none, none, none]) (Nat.le_of_ble_eq_true rfl) rfl trivial ?_
  generalize hres : ((none, jM h (jset P t (tmul (P a) (P b)))) : Option Value × jH) = res
  refine j_aload_n d_Model_multiply_0 rfl ?_
  refine j_getr (b := 137) d_Model_multiply_1 jf_Model_13 rfl rfl rfl (by decide) ?_
  refine j_iload_n d_Model_multiply_4 rfl ?_
  refine j_ialdN (v := nI ((P a).1)) d_Model_multiply_5 rfl (by omega) (by decide) rfl ?_
  refine j_istore (L' := [some (.ref 135), some (.int (nI a)), some (.int (nI b)), some (.int (nI t)), some (.int (nI ((P a).1))), none, none]) d_Model_multiply_6 (by decide) rfl rfl ?_
  refine j_aload_n d_Model_multiply_8 rfl ?_
  refine j_iload_n d_Model_multiply_9 rfl ?_
  refine j_iload d_Model_multiply_10 rfl ?_
  refine j_callVn (As := [.int (nI t), .int (nI ((P a).1))]) (st := []) (c_empty (by omega)) d_Model_multiply_12 (by decide) jm_Model_empty jk_Model_75 ji_Model_empty js_Model_empty rfl (by decide) rfl rfl (Nat.le_of_ble_eq_true rfl) rfl ?_
  refine j_iconst (v := nI 0) d_Model_multiply_15 rfl ?_
  refine j_istore (L' := [some (.ref 135), some (.int (nI a)), some (.int (nI b)), some (.int (nI t)), some (.int (nI ((P a).1))), some (.int (nI 0)), none]) d_Model_multiply_16 (by decide) rfl rfl ?_
  refine j_heap (h' := jM h (jset P t ((P a).1, fun i => if i < 0 then trow (P a) (P b) i (P a).1 else 0))) (jM_cg rfl (fun j hj => by simp)) ?_
  refine j_loop (P := fun k => jJ n 1 jc_Model_multiply 7 "YesNoPowersModel" 18 [some (.ref 135), some (.int (nI a)), some (.int (nI b)), some (.int (nI t)), some (.int (nI ((P a).1))), some (.int (nI k)), none] [] (jM h (jset P t ((P a).1, fun i => if i < k then trow (P a) (P b) i (P a).1 else 0))) res) (m := (P a).1) ?_ (fun k hk ih => ?_)
  · refine j_iload d_Model_multiply_18 rfl ?_
    refine j_iload d_Model_multiply_20 rfl ?_
    refine j_icmp_geN_t (tgt := 85) d_Model_multiply_22 (by decide) (by omega) (by omega) (Nat.le_refl _) ?_
    subst hres
    exact j_retv d_Model_multiply_85 rfl
  · refine j_iload d_Model_multiply_18 rfl ?_
    refine j_iload d_Model_multiply_20 rfl ?_
    refine j_icmp_geN_f (tgt := 85) d_Model_multiply_22 (by decide) (by omega) (by omega) (Nat.not_le.mpr hk) ?_
    refine j_iconst (v := nI 0) d_Model_multiply_25 rfl ?_
    refine j_istore (L' := [some (.ref 135), some (.int (nI a)), some (.int (nI b)), some (.int (nI t)), some (.int (nI ((P a).1))), some (.int (nI k)), some (.int (nI 0))]) d_Model_multiply_26 (by decide) rfl rfl ?_
    refine j_heap (h' := jM h (jset P t ((P a).1, fun i => if i < k then trow (P a) (P b) i (P a).1 else if i = k then trow (P a) (P b) k 0 else 0))) (jM_cg rfl (fun j hj => by split <;> simp [trow, jor])) ?_
    refine j_loop (P := fun q => jJ n 1 jc_Model_multiply 7 "YesNoPowersModel" 28 [some (.ref 135), some (.int (nI a)), some (.int (nI b)), some (.int (nI t)), some (.int (nI ((P a).1))), some (.int (nI k)), some (.int (nI q))] [] (jM h (jset P t ((P a).1, fun i => if i < k then trow (P a) (P b) i (P a).1 else if i = k then trow (P a) (P b) k q else 0))) res) (m := (P a).1) ?_ (fun q hq ih2 => ?_)
    · refine j_iload d_Model_multiply_28 rfl ?_
      refine j_iload d_Model_multiply_30 rfl ?_
      refine j_icmp_geN_t (tgt := 79) d_Model_multiply_32 (by decide) (by omega) (by omega) (Nat.le_refl _) ?_
      refine j_heap (h' := jM h (jset P t ((P a).1, fun i => if i < (k + 1) then trow (P a) (P b) i (P a).1 else 0))) (jM_cg rfl (fun j hj => by by_cases e : j = k; (simp [e]); (simp [e, jlt_s e]))) ?_
      refine j_iincN (x := k) (L' := [some (.ref 135), some (.int (nI a)), some (.int (nI b)), some (.int (nI t)), some (.int (nI ((P a).1))), some (.int (nI (k + 1))), some (.int (nI ((P a).1)))]) d_Model_multiply_79 rfl (by decide) rfl rfl ?_
      refine j_goto (tgt := 18) d_Model_multiply_82 (by decide) ?_
      exact j_forget (i := 6) rfl ih
    · refine j_iload d_Model_multiply_28 rfl ?_
      refine j_iload d_Model_multiply_30 rfl ?_
      refine j_icmp_geN_f (tgt := 79) d_Model_multiply_32 (by decide) (by omega) (by omega) (Nat.not_le.mpr hq) ?_
      refine j_aload_n d_Model_multiply_35 rfl ?_
      refine j_getr (b := 136) d_Model_multiply_36 jf_Model_7 rfl rfl rfl (by decide) ?_
      refine j_bipush (v := nI 12) d_Model_multiply_39 (by decide) ?_
      refine j_iload_n d_Model_multiply_41 rfl ?_
      refine j_imulN d_Model_multiply_42 ?_
      refine j_iload d_Model_multiply_43 rfl ?_
      refine j_iaddN d_Model_multiply_45 ?_
      refine j_dup2 d_Model_multiply_46 rfl rfl ?_
      refine j_ialdN (v := nI (trow (P a) (P b) k q)) d_Model_multiply_47 rfl (by omega) (by decide) (by rw [jM_row_p (by omega)]; simp) ?_
      refine j_aload_n d_Model_multiply_48 rfl ?_
      refine j_iload_n d_Model_multiply_49 rfl ?_
      refine j_iload d_Model_multiply_50 rfl ?_
      refine j_iload d_Model_multiply_52 rfl ?_
      refine j_callVs (As := [.int (nI a), .int (nI k), .int (nI q)]) (st := [.int (nI (trow (P a) (P b) k q)), .int (nI ((12 * t) + k)), .ref 136]) (c_leads_ne (by omega) (by omega) (by omega) (by omega) (tw_lt (hw a) _)) d_Model_multiply_54 (by decide) jm_Model_leads jk_Model_67 ji_Model_leads js_Model_leads rfl (by decide) rfl rfl (Nat.le_of_ble_eq_true rfl) rfl ?_
      refine j_if_eqB (tgt := 70) d_Model_multiply_57 (by decide) (fun c => ?_) (fun c => ?_)
      · refine j_iconst (v := nI 0) d_Model_multiply_70 rfl ?_
        refine j_iorN d_Model_multiply_71 ?_
        refine j_top (w := nI (trow (P a) (P b) k (q + 1))) (by rw [Nat.or_zero]; exact congrArg nI (jor_z (by simp [c]))) ?_
        refine j_iastN (h' := jM h (jset P t ((P a).1, fun zz => if zz = k then trow (P a) (P b) k (q + 1) else (fun i => if i < k then trow (P a) (P b) i (P a).1 else if i = k then trow (P a) (P b) k q else 0) zz))) d_Model_multiply_72 rfl (by omega) (by decide) (jM_set_row_p (by omega)) ?_
        refine j_heap (h' := jM h (jset P t ((P a).1, fun i => if i < k then trow (P a) (P b) i (P a).1 else if i = k then trow (P a) (P b) k (q + 1) else 0))) (jM_cg rfl (fun j hj => by by_cases e : j = k <;> simp [e])) ?_
        refine j_iincN (x := q) (L' := [some (.ref 135), some (.int (nI a)), some (.int (nI b)), some (.int (nI t)), some (.int (nI ((P a).1))), some (.int (nI k)), some (.int (nI (q + 1)))]) d_Model_multiply_73 rfl (by decide) rfl rfl ?_
        refine j_goto (tgt := 28) d_Model_multiply_76 (by decide) ?_
        exact ih2
      · refine j_aload_n d_Model_multiply_60 rfl ?_
        refine j_iload_n d_Model_multiply_61 rfl ?_
        refine j_iload d_Model_multiply_62 rfl ?_
        refine j_callVs (As := [.int (nI b), .int (nI q)]) (st := [.int (nI (trow (P a) (P b) k q)), .int (nI ((12 * t) + k)), .ref 136]) (c_row_ne (by omega) (by omega) (by omega)) d_Model_multiply_64 (by decide) jm_Model_row jk_Model_71 ji_Model_row js_Model_row rfl (by decide) rfl rfl (Nat.le_of_ble_eq_true rfl) rfl ?_
        refine j_goto (tgt := 71) d_Model_multiply_67 (by decide) ?_
        refine j_iorN d_Model_multiply_71 ?_
        refine j_top (w := nI (trow (P a) (P b) k (q + 1))) (congrArg nI (jor_t (by simp [c]))) ?_
        refine j_iastN (h' := jM h (jset P t ((P a).1, fun zz => if zz = k then trow (P a) (P b) k (q + 1) else (fun i => if i < k then trow (P a) (P b) i (P a).1 else if i = k then trow (P a) (P b) k q else 0) zz))) d_Model_multiply_72 rfl (by omega) (by decide) (jM_set_row_p (by omega)) ?_
        refine j_heap (h' := jM h (jset P t ((P a).1, fun i => if i < k then trow (P a) (P b) i (P a).1 else if i = k then trow (P a) (P b) k (q + 1) else 0))) (jM_cg rfl (fun j hj => by by_cases e : j = k <;> simp [e])) ?_
        refine j_iincN (x := q) (L' := [some (.ref 135), some (.int (nI a)), some (.int (nI b)), some (.int (nI t)), some (.int (nI ((P a).1))), some (.int (nI k)), some (.int (nI (q + 1)))]) d_Model_multiply_73 rfl (by decide) rfl rfl ?_
        refine j_goto (tgt := 28) d_Model_multiply_76 (by decide) ?_
        exact ih2

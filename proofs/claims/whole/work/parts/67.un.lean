theorem c_times_un {n : jN} {h : jH} {P : jP} {a b t : Nat} (hw : ∀ q, tw (P q)) (ha : a < 6) (h0a : 0 < (P a).1) (hb : b < 6) (h0b : 0 < (P b).1) (ht : t < 6) (he : ¬ (P a).1 = (P b).1) : jC n 3 jy_Model_times jc_Model_times 4 (some .int) [.ref 135, .int (nI a), .int (nI b), .int (nI t)] (jM h P) (some (.int (-3))) (jM h P) := by
  have hna := (hw a).1
  have hnb := (hw b).1
  refine jC_of jm_Model_times (L := [some (.ref 135), some (.int (nI a)), some (.int (nI b)), some (.int (nI t))]) (Nat.le_of_ble_eq_true rfl) rfl trivial ?_
  generalize hres : (((some (.int (-3))), jM h P) : Option Value × jH) = res
  refine j_aload_n d_Model_times_0 rfl ?_
  refine j_iload_n d_Model_times_1 rfl ?_
  refine j_callVs (As := [.int (nI a)]) (st := []) (c_holds hw) d_Model_times_2 (by decide) jm_Model_holds jk_Model_117 ji_Model_holds js_Model_holds rfl (by decide) rfl rfl (Nat.le_of_ble_eq_true rfl) rfl ?_
  refine j_if_eqB_f (tgt := 23) d_Model_times_5 (by decide) (jho_y ha h0a) ?_
  refine j_aload_n d_Model_times_8 rfl ?_
  refine j_iload_n d_Model_times_9 rfl ?_
  refine j_callVs (As := [.int (nI b)]) (st := []) (c_holds hw) d_Model_times_10 (by decide) jm_Model_holds jk_Model_117 ji_Model_holds js_Model_holds rfl (by decide) rfl rfl (Nat.le_of_ble_eq_true rfl) rfl ?_
  refine j_if_eqB_f (tgt := 23) d_Model_times_13 (by decide) (jho_y hb h0b) ?_
  refine j_iload_n d_Model_times_16 rfl ?_
  refine j_callSs (As := [.int (nI t)]) (st := []) c_isSlot d_Model_times_17 (by decide) jm_Model_isSlot jk_Model_63 js_Model_isSlot rfl (Nat.le_of_ble_eq_true rfl) rfl ?_
  refine j_if_neB_t (tgt := 25) d_Model_times_20 (by decide) (jsl_N ht) ?_
  refine j_aload_n d_Model_times_25 rfl ?_
  refine j_getr (b := 137) d_Model_times_26 jf_Model_13 rfl rfl rfl (by decide) ?_
  refine j_iload_n d_Model_times_29 rfl ?_
  refine j_ialdN (v := nI ((P a).1)) d_Model_times_30 rfl (by omega) (by decide) rfl ?_
  refine j_aload_n d_Model_times_31 rfl ?_
  refine j_getr (b := 137) d_Model_times_32 jf_Model_13 rfl rfl rfl (by decide) ?_
  refine j_iload_n d_Model_times_35 rfl ?_
  refine j_ialdN (v := nI ((P b).1)) d_Model_times_36 rfl (by omega) (by decide) rfl ?_
  refine j_icmp_eqN_f (tgt := 43) d_Model_times_37 (by decide) (by omega) (by omega) he ?_
  refine j_bipush (v := -3) d_Model_times_40 (by decide) ?_
  subst hres
  exact j_reti d_Model_times_42 rfl rfl
theorem c_plus_un {n : jN} {h : jH} {P : jP} {a b t : Nat} (hw : ∀ q, tw (P q)) (ha : a < 6) (h0a : 0 < (P a).1) (hb : b < 6) (h0b : 0 < (P b).1) (ht : t < 6) (he : ¬ (P a).1 = (P b).1) : jC n 3 jy_Model_plus jc_Model_plus 4 (some .int) [.ref 135, .int (nI a), .int (nI b), .int (nI t)] (jM h P) (some (.int (-3))) (jM h P) := by
  have hna := (hw a).1
  have hnb := (hw b).1
  refine jC_of jm_Model_plus (L := [some (.ref 135), some (.int (nI a)), some (.int (nI b)), some (.int (nI t))]) (Nat.le_of_ble_eq_true rfl) rfl trivial ?_
  generalize hres : (((some (.int (-3))), jM h P) : Option Value × jH) = res
  refine j_aload_n d_Model_plus_0 rfl ?_
  refine j_iload_n d_Model_plus_1 rfl ?_
  refine j_callVs (As := [.int (nI a)]) (st := []) (c_holds hw) d_Model_plus_2 (by decide) jm_Model_holds jk_Model_117 ji_Model_holds js_Model_holds rfl (by decide) rfl rfl (Nat.le_of_ble_eq_true rfl) rfl ?_
  refine j_if_eqB_f (tgt := 23) d_Model_plus_5 (by decide) (jho_y ha h0a) ?_
  refine j_aload_n d_Model_plus_8 rfl ?_
  refine j_iload_n d_Model_plus_9 rfl ?_
  refine j_callVs (As := [.int (nI b)]) (st := []) (c_holds hw) d_Model_plus_10 (by decide) jm_Model_holds jk_Model_117 ji_Model_holds js_Model_holds rfl (by decide) rfl rfl (Nat.le_of_ble_eq_true rfl) rfl ?_
  refine j_if_eqB_f (tgt := 23) d_Model_plus_13 (by decide) (jho_y hb h0b) ?_
  refine j_iload_n d_Model_plus_16 rfl ?_
  refine j_callSs (As := [.int (nI t)]) (st := []) c_isSlot d_Model_plus_17 (by decide) jm_Model_isSlot jk_Model_63 js_Model_isSlot rfl (Nat.le_of_ble_eq_true rfl) rfl ?_
  refine j_if_neB_t (tgt := 25) d_Model_plus_20 (by decide) (jsl_N ht) ?_
  refine j_aload_n d_Model_plus_25 rfl ?_
  refine j_getr (b := 137) d_Model_plus_26 jf_Model_13 rfl rfl rfl (by decide) ?_
  refine j_iload_n d_Model_plus_29 rfl ?_
  refine j_ialdN (v := nI ((P a).1)) d_Model_plus_30 rfl (by omega) (by decide) rfl ?_
  refine j_aload_n d_Model_plus_31 rfl ?_
  refine j_getr (b := 137) d_Model_plus_32 jf_Model_13 rfl rfl rfl (by decide) ?_
  refine j_iload_n d_Model_plus_35 rfl ?_
  refine j_ialdN (v := nI ((P b).1)) d_Model_plus_36 rfl (by omega) (by decide) rfl ?_
  refine j_icmp_eqN_f (tgt := 43) d_Model_plus_37 (by decide) (by omega) (by omega) he ?_
  refine j_bipush (v := -3) d_Model_plus_40 (by decide) ?_
  subst hres
  exact j_reti d_Model_plus_42 rfl rfl
theorem c_reaches_un {n : jN} {h : jH} {P : jP} {a b : Nat} (hw : ∀ q, tw (P q)) (ha : a < 6) (h0a : 0 < (P a).1) (hb : b < 6) (h0b : 0 < (P b).1)  (he : ¬ (P a).1 = (P b).1) : jC n 4 jy_Model_reaches jc_Model_reaches 4 (some .int) [.ref 135, .int (nI a), .int (nI b)] (jM h P) (some (.int (-3))) (jM h P) := by
  have hna := (hw a).1
  have hnb := (hw b).1
  refine jC_of jm_Model_reaches (L := [some (.ref 135), some (.int (nI a)), some (.int (nI b)), none]) (Nat.le_of_ble_eq_true rfl) rfl trivial ?_
  generalize hres : (((some (.int (-3))), jM h P) : Option Value × jH) = res
  refine j_aload_n d_Model_reaches_0 rfl ?_
  refine j_iload_n d_Model_reaches_1 rfl ?_
  refine j_callVs (As := [.int (nI a)]) (st := []) (c_holds hw) d_Model_reaches_2 (by decide) jm_Model_holds jk_Model_117 ji_Model_holds js_Model_holds rfl (by decide) rfl rfl (Nat.le_of_ble_eq_true rfl) rfl ?_
  refine j_if_eqB_f (tgt := 16) d_Model_reaches_5 (by decide) (jho_y ha h0a) ?_
  refine j_aload_n d_Model_reaches_8 rfl ?_
  refine j_iload_n d_Model_reaches_9 rfl ?_
  refine j_callVs (As := [.int (nI b)]) (st := []) (c_holds hw) d_Model_reaches_10 (by decide) jm_Model_holds jk_Model_117 ji_Model_holds js_Model_holds rfl (by decide) rfl rfl (Nat.le_of_ble_eq_true rfl) rfl ?_
  refine j_if_neB_t (tgt := 18) d_Model_reaches_13 (by decide) (jho_y hb h0b) ?_
  refine j_aload_n d_Model_reaches_18 rfl ?_
  refine j_getr (b := 137) d_Model_reaches_19 jf_Model_13 rfl rfl rfl (by decide) ?_
  refine j_iload_n d_Model_reaches_22 rfl ?_
  refine j_ialdN (v := nI ((P a).1)) d_Model_reaches_23 rfl (by omega) (by decide) rfl ?_
  refine j_aload_n d_Model_reaches_24 rfl ?_
  refine j_getr (b := 137) d_Model_reaches_25 jf_Model_13 rfl rfl rfl (by decide) ?_
  refine j_iload_n d_Model_reaches_28 rfl ?_
  refine j_ialdN (v := nI ((P b).1)) d_Model_reaches_29 rfl (by omega) (by decide) rfl ?_
  refine j_icmp_eqN_f (tgt := 36) d_Model_reaches_30 (by decide) (by omega) (by omega) he ?_
  refine j_bipush (v := -3) d_Model_reaches_33 (by decide) ?_
  subst hres
  exact j_reti d_Model_reaches_35 rfl rfl
theorem c_alike_un {n : jN} {h : jH} {P : jP} {a b w : Nat} (hw : ∀ q, tw (P q)) (ha : a < 6) (h0a : 0 < (P a).1) (hb : b < 6) (h0b : 0 < (P b).1) (hw2 : w < 2) (he : ¬ (P a).1 = (P b).1) : jC n 3 jy_Model_alike jc_Model_alike 4 (some .int) [.ref 135, .int (nI a), .int (nI b), .int (nI w)] (jM h P) (some (.int (-3))) (jM h P) := by
  have hna := (hw a).1
  have hnb := (hw b).1
  refine jC_of jm_Model_alike (L := [some (.ref 135), some (.int (nI a)), some (.int (nI b)), some (.int (nI w))]) (Nat.le_of_ble_eq_true rfl) rfl trivial ?_
  generalize hres : (((some (.int (-3))), jM h P) : Option Value × jH) = res
  refine j_aload_n d_Model_alike_0 rfl ?_
  refine j_iload_n d_Model_alike_1 rfl ?_
  refine j_callVs (As := [.int (nI a)]) (st := []) (c_holds hw) d_Model_alike_2 (by decide) jm_Model_holds jk_Model_117 ji_Model_holds js_Model_holds rfl (by decide) rfl rfl (Nat.le_of_ble_eq_true rfl) rfl ?_
  refine j_if_eqB_f (tgt := 26) d_Model_alike_5 (by decide) (jho_y ha h0a) ?_
  refine j_aload_n d_Model_alike_8 rfl ?_
  refine j_iload_n d_Model_alike_9 rfl ?_
  refine j_callVs (As := [.int (nI b)]) (st := []) (c_holds hw) d_Model_alike_10 (by decide) jm_Model_holds jk_Model_117 ji_Model_holds js_Model_holds rfl (by decide) rfl rfl (Nat.le_of_ble_eq_true rfl) rfl ?_
  refine j_if_eqB_f (tgt := 26) d_Model_alike_13 (by decide) (jho_y hb h0b) ?_
  refine j_iload_n d_Model_alike_16 rfl ?_
  refine j_i2l d_Model_alike_17 ?_
  refine j_lconst (v := 0) d_Model_alike_18 rfl ?_
  refine j_lconst (v := 1) d_Model_alike_19 rfl ?_
  refine j_callSs (As := [.long ((nI w).toInt64), .long 0, .long 1]) (st := []) (c_in (x := (nI w)) (lo := 0) (hi := 1) rfl rfl rfl) d_Model_alike_20 (by decide) jm_Model_in jk_Model_107 js_Model_in rfl (Nat.le_of_ble_eq_true rfl) rfl ?_
  refine j_if_neB_t (tgt := 28) d_Model_alike_23 (by decide) (jin_y (by omega) (by omega) (by omega)) ?_
  refine j_aload_n d_Model_alike_28 rfl ?_
  refine j_getr (b := 137) d_Model_alike_29 jf_Model_13 rfl rfl rfl (by decide) ?_
  refine j_iload_n d_Model_alike_32 rfl ?_
  refine j_ialdN (v := nI ((P a).1)) d_Model_alike_33 rfl (by omega) (by decide) rfl ?_
  refine j_aload_n d_Model_alike_34 rfl ?_
  refine j_getr (b := 137) d_Model_alike_35 jf_Model_13 rfl rfl rfl (by decide) ?_
  refine j_iload_n d_Model_alike_38 rfl ?_
  refine j_ialdN (v := nI ((P b).1)) d_Model_alike_39 rfl (by omega) (by decide) rfl ?_
  refine j_icmp_eqN_f (tgt := 46) d_Model_alike_40 (by decide) (by omega) (by omega) he ?_
  refine j_bipush (v := -3) d_Model_alike_43 (by decide) ?_
  subst hres
  exact j_reti d_Model_alike_45 rfl rfl

theorem c_row {n : jN} {h : jH} {P : jP} {p i : Nat} (hp : p < 38) (hi : i < 12) : jC n 0 jy_Model_row jc_Model_row 3 (some .int) [.ref 130, .int (nI p), .int (nI i)] (jM h P) (some (.int (nI ((P p).2 i)))) (jM h P) := by
  refine jC_of jm_Model_row (L := [some (.ref 130), some (.int (nI p)), some (.int (nI i))]) (Nat.le_of_ble_eq_true rfl) rfl trivial ?_
  generalize hres : (((some (.int (nI ((P p).2 i)))), jM h P) : Option Value × jH) = res
  refine j_aload_n d_Model_row_0 rfl ?_
  refine j_getr (b := 131) d_Model_row_1 jf_Model_7 rfl rfl rfl (by decide) ?_
  refine j_bipush (v := nI 12) d_Model_row_4 (by decide) ?_
  refine j_iload_n d_Model_row_6 rfl ?_
  refine j_imulN d_Model_row_7 ?_
  refine j_iload_n d_Model_row_8 rfl ?_
  refine j_iaddN d_Model_row_9 ?_
  refine j_ialdN (v := nI ((P p).2 i)) d_Model_row_10 rfl (by omega) (by decide) (jM_row (by omega)) ?_
  subst hres
  exact j_reti d_Model_row_11 rfl rfl
theorem c_leads {n : jN} {h : jH} {P : jP} {p i j : Nat} (hp : p < 38) (hi : i < 12) (hj : j < 12) (hr : (P p).2 i < 2 ^ 31) : jC n 0 jy_Model_leads jc_Model_leads 4 (some .boolean) [.ref 130, .int (nI p), .int (nI i), .int (nI j)] (jM h P) (some (.int (jbo (((P p).2 i).testBit j)))) (jM h P) := by
  refine jC_of jm_Model_leads (L := [some (.ref 130), some (.int (nI p)), some (.int (nI i)), some (.int (nI j))]) (Nat.le_of_ble_eq_true rfl) rfl (jbo01 _) ?_
  generalize hres : (((some (.int (jbo (((P p).2 i).testBit j)))), jM h P) : Option Value × jH) = res
  refine j_aload_n d_Model_leads_0 rfl ?_
  refine j_getr (b := 131) d_Model_leads_1 jf_Model_7 rfl rfl rfl (by decide) ?_
  refine j_bipush (v := nI 12) d_Model_leads_4 (by decide) ?_
  refine j_iload_n d_Model_leads_6 rfl ?_
  refine j_imulN d_Model_leads_7 ?_
  refine j_iload_n d_Model_leads_8 rfl ?_
  refine j_iaddN d_Model_leads_9 ?_
  refine j_ialdN (v := nI ((P p).2 i)) d_Model_leads_10 rfl (by omega) (by decide) (jM_row (by omega)) ?_
  refine j_iload_n d_Model_leads_11 rfl ?_
  refine j_ishrN d_Model_leads_12 hr (by omega) ?_
  refine j_iconst (v := nI 1) d_Model_leads_13 rfl ?_
  refine j_iandN d_Model_leads_14 ?_
  refine j_top (w := jbo (((P p).2 i).testBit j)) (ni_bit _ _) ?_
  refine j_iconst (v := nI 1) d_Model_leads_15 rfl ?_
  refine j_icmp_neB (tgt := 23) d_Model_leads_16 (by decide) (fun c => ?_) (fun c => ?_)
  · refine j_iconst (v := nI 0) d_Model_leads_23 rfl ?_
    subst hres
    exact j_reti d_Model_leads_24 (by rw [c]; rfl) rfl
  · refine j_iconst (v := nI 1) d_Model_leads_19 rfl ?_
    refine j_goto (tgt := 24) d_Model_leads_20 (by decide) ?_
    subst hres
    exact j_reti d_Model_leads_24 (by rw [c]; rfl) rfl
theorem c_column {n : jN} {h : jH} {P : jP} {p j : Nat} (hp : p < 38) (hj : j < 12) (hn : (P p).1 ≤ 12) (hr : ∀ i, (P p).2 i < 2 ^ 31) : jC n 1 jy_Model_column jc_Model_column 5 (some .int) [.ref 130, .int (nI p), .int (nI j)] (jM h P) (some (.int (nI (jor (P p).1 (fun i => if ((P p).2 i).testBit j then 2 ^ i else 0))))) (jM h P) := by
  refine jC_of jm_Model_column (L := [some (.ref 130), some (.int (nI p)), some (.int (nI j)), none, none]) (Nat.le_of_ble_eq_true rfl) rfl trivial ?_
  generalize hres : (((some (.int (nI (jor (P p).1 (fun i => if ((P p).2 i).testBit j then 2 ^ i else 0))))), jM h P) : Option Value × jH) = res
  refine j_iconst (v := nI 0) d_Model_column_0 rfl ?_
  refine j_istore_n (L' := [some (.ref 130), some (.int (nI p)), some (.int (nI j)), some (.int (nI 0)), none]) d_Model_column_1 (by decide) rfl rfl ?_
  refine j_iconst (v := nI 0) d_Model_column_2 rfl ?_
  refine j_istore (L' := [some (.ref 130), some (.int (nI p)), some (.int (nI j)), some (.int (nI 0)), some (.int (nI 0))]) d_Model_column_3 (by decide) rfl rfl ?_
  refine j_loop (P := fun k => jJ n 1 jc_Model_column 5 "YesNoPowersModel" 5 [some (.ref 130), some (.int (nI p)), some (.int (nI j)), some (.int (nI (jor k (fun i => if ((P p).2 i).testBit j then 2 ^ i else 0)))), some (.int (nI k))] [] (jM h P) res) (m := (P p).1) ?_ (fun k hk ih => ?_)
  · refine j_iload d_Model_column_5 rfl ?_
    refine j_aload_n d_Model_column_7 rfl ?_
    refine j_getr (b := 132) d_Model_column_8 jf_Model_13 rfl rfl rfl (by decide) ?_
    refine j_iload_n d_Model_column_11 rfl ?_
    refine j_ialdN (v := nI ((P p).1)) d_Model_column_12 rfl (by omega) (by decide) rfl ?_
    refine j_icmp_geN_t (tgt := 44) d_Model_column_13 (by decide) (by omega) (by omega) (Nat.le_refl _) ?_
    refine j_iload_n d_Model_column_44 rfl ?_
    subst hres
    exact j_reti d_Model_column_45 rfl rfl
  · refine j_iload d_Model_column_5 rfl ?_
    refine j_aload_n d_Model_column_7 rfl ?_
    refine j_getr (b := 132) d_Model_column_8 jf_Model_13 rfl rfl rfl (by decide) ?_
    refine j_iload_n d_Model_column_11 rfl ?_
    refine j_ialdN (v := nI ((P p).1)) d_Model_column_12 rfl (by omega) (by decide) rfl ?_
    refine j_icmp_geN_f (tgt := 44) d_Model_column_13 (by decide) (by omega) (by omega) (Nat.not_le.mpr hk) ?_
    refine j_iload_n d_Model_column_16 rfl ?_
    refine j_aload_n d_Model_column_17 rfl ?_
    refine j_iload_n d_Model_column_18 rfl ?_
    refine j_iload d_Model_column_19 rfl ?_
    refine j_iload_n d_Model_column_21 rfl ?_
    refine j_callVs (As := [.int (nI p), .int (nI k), .int (nI j)]) (st := [.int (nI (jor k (fun i => if ((P p).2 i).testBit j then 2 ^ i else 0)))]) (c_leads (by omega) (by omega) (by omega) (hr _)) d_Model_column_22 (by decide) jm_Model_leads jk_Model_67 ji_Model_leads js_Model_leads rfl (by decide) rfl rfl (Nat.le_of_ble_eq_true rfl) rfl ?_
    refine j_if_eqB (tgt := 35) d_Model_column_25 (by decide) (fun c => ?_) (fun c => ?_)
    · refine j_iconst (v := nI 0) d_Model_column_35 rfl ?_
      refine j_iorN d_Model_column_36 ?_
      refine j_top (w := nI (jor (k + 1) (fun i => if ((P p).2 i).testBit j then 2 ^ i else 0))) (by rw [Nat.or_zero]; exact congrArg nI (jor_z (by simp [c]))) ?_
      refine j_istore_n (L' := [some (.ref 130), some (.int (nI p)), some (.int (nI j)), some (.int (nI (jor (k + 1) (fun i => if ((P p).2 i).testBit j then 2 ^ i else 0)))), some (.int (nI k))]) d_Model_column_37 (by decide) rfl rfl ?_
      refine j_iincN (x := k) (L' := [some (.ref 130), some (.int (nI p)), some (.int (nI j)), some (.int (nI (jor (k + 1) (fun i => if ((P p).2 i).testBit j then 2 ^ i else 0)))), some (.int (nI (k + 1)))]) d_Model_column_38 rfl (by decide) rfl rfl ?_
      refine j_goto (tgt := 5) d_Model_column_41 (by decide) ?_
      exact ih
    · refine j_iconst (v := nI 1) d_Model_column_28 rfl ?_
      refine j_iload d_Model_column_29 rfl ?_
      refine j_shl1N d_Model_column_31 (by omega) ?_
      refine j_goto (tgt := 36) d_Model_column_32 (by decide) ?_
      refine j_iorN d_Model_column_36 ?_
      refine j_top (w := nI (jor (k + 1) (fun i => if ((P p).2 i).testBit j then 2 ^ i else 0))) (congrArg nI (jor_t (by simp [c]))) ?_
      refine j_istore_n (L' := [some (.ref 130), some (.int (nI p)), some (.int (nI j)), some (.int (nI (jor (k + 1) (fun i => if ((P p).2 i).testBit j then 2 ^ i else 0)))), some (.int (nI k))]) d_Model_column_37 (by decide) rfl rfl ?_
      refine j_iincN (x := k) (L' := [some (.ref 130), some (.int (nI p)), some (.int (nI j)), some (.int (nI (jor (k + 1) (fun i => if ((P p).2 i).testBit j then 2 ^ i else 0)))), some (.int (nI (k + 1)))]) d_Model_column_38 rfl (by decide) rfl rfl ?_
      refine j_goto (tgt := 5) d_Model_column_41 (by decide) ?_
      exact ih

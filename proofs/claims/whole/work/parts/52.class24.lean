theorem x_space_bad {n : jN} {h : jH} {P : jP} (hw : ∀ q, tw (P q)) (hP : slo h P) {s w : Int32} (hb : jokSpace P s w = false) : jC n 5 jy_Main_space jc_Main_space 4 (some .int) [.ref 0, .int s, .int w] h (some (.int (-1))) h := by
  refine jC_of jm_Main_space (L := [some (.ref 0), some (.int s), some (.int w), none]) (Nat.le_of_ble_eq_true rfl) rfl trivial ?_
  generalize hres : (((some (.int (-1))), h) : Option Value × jH) = res
  refine j_aload_n d_Main_space_0 rfl ?_
  refine j_iload_n d_Main_space_1 rfl ?_
  refine j_callVs (As := [.int s]) (st := []) (x_noTable hw hP) d_Main_space_2 (by decide) jm_Main_noTable jk_Main_103 ji_Main_noTable js_Main_noTable rfl (by decide) rfl rfl (Nat.le_of_ble_eq_true rfl) rfl ?_
  refine j_if_neB (tgt := 17) d_Main_space_5 (by decide) (fun c1 => ?_) (fun c1 => ?_)
  · refine j_iconst (v := -1) d_Main_space_17 rfl ?_
    subst hres
    exact j_reti d_Main_space_18 rfl rfl
  · refine j_iload_n d_Main_space_8 rfl ?_
    refine j_iconst (v := nI 0) d_Main_space_9 rfl ?_
    refine j_iconst (v := nI 4) d_Main_space_10 rfl ?_
    refine j_callSs (As := [.int w, .int (nI 0), .int (nI 4)]) (st := []) x_outOf d_Main_space_11 (by decide) jm_Main_outOf jk_Main_69 js_Main_outOf rfl (Nat.le_of_ble_eq_true rfl) rfl ?_
    refine j_if_eqB (tgt := 19) d_Main_space_14 (by decide) (fun c2 => ?_) (fun c2 => ?_)
    · rw [oo_jin (by omega) (by omega)] at c2
      exact absurd hb (by simp_all [jokSpace])
    · refine j_iconst (v := -1) d_Main_space_17 rfl ?_
      subst hres
      exact j_reti d_Main_space_18 rfl rfl
theorem x_space0 {n : jN} {h : jH} {P : jP} (hw : ∀ q, tw (P q)) (hP : slo h P) {s : Nat} (hs : s < 6) (h0 : 0 < (P s).1) : jC n 5 jy_Main_space jc_Main_space 4 (some .int) [.ref 0, .int (nI s), .int (nI 0)] h (some (.int (nI (unc (P s) (2 ^ (P s).1))))) (sT h 113 (P s)) := by
  refine jC_of jm_Main_space (L := [some (.ref 0), some (.int (nI s)), some (.int (nI 0)), none]) (Nat.le_of_ble_eq_true rfl) rfl trivial ?_
  generalize hres : (((some (.int (nI (unc (P s) (2 ^ (P s).1))))), sT h 113 (P s)) : Option Value × jH) = res
  have hn12 := (hw s).1
  refine j_aload_n d_Main_space_0 rfl ?_
  refine j_iload_n d_Main_space_1 rfl ?_
  refine j_callVs (As := [.int (nI s)]) (st := []) (x_noTable hw hP) d_Main_space_2 (by decide) jm_Main_noTable jk_Main_103 ji_Main_noTable js_Main_noTable rfl (by decide) rfl rfl (Nat.le_of_ble_eq_true rfl) rfl ?_
  refine j_if_neB_f (tgt := 17) d_Main_space_5 (by decide) (ho_n hs h0) ?_
  refine j_iload_n d_Main_space_8 rfl ?_
  refine j_iconst (v := nI 0) d_Main_space_9 rfl ?_
  refine j_iconst (v := nI 4) d_Main_space_10 rfl ?_
  refine j_callSs (As := [.int (nI 0), .int (nI 0), .int (nI 4)]) (st := []) x_outOf d_Main_space_11 (by decide) jm_Main_outOf jk_Main_69 js_Main_outOf rfl (Nat.le_of_ble_eq_true rfl) rfl ?_
  refine j_if_eqB_t (tgt := 19) d_Main_space_14 (by decide) (oo_n (by omega) (by omega) (by omega)) ?_
  refine j_aload_n d_Main_space_19 rfl ?_
  refine j_getr (b := 1) d_Main_space_20 jf_Main_11 rfl rfl rfl (by decide) ?_
  refine j_iload_n d_Main_space_23 rfl ?_
  refine j_aaldN (b := 115 + 2 * s) d_Main_space_24 rfl (by decide) (by omega) (by decide) (jrf_slot _ (by omega)) (by omega) ?_
  refine j_astore_n (L' := [some (.ref 0), some (.int (nI s)), some (.int (nI 0)), some (.ref (115 + 2 * s))]) d_Main_space_25 (by decide) rfl rfl ?_
  refine j_iload_n d_Main_space_26 rfl ?_
  refine j_iconst (v := nI 4) d_Main_space_27 rfl ?_
  refine j_icmp_neN_t (tgt := 48) d_Main_space_28 (by decide) (by omega) (by omega) (by decide) ?_
  refine j_aload_n d_Main_space_48 rfl ?_
  refine j_getr (b := 113) d_Main_space_49 jf_Main_57 rfl rfl rfl (by decide) ?_
  refine j_aload_n d_Main_space_52 rfl ?_
  refine j_callVn (As := [.ref (115 + 2 * s)]) (st := []) (x_become isT_108 (isT_slot s (by omega)) (by omega) (hP s (by omega)) (hw s)) d_Main_space_53 (by decide) jm_Table_become jk_Main_85 ji_Table_become js_Table_become rfl (by decide) rfl rfl (Nat.le_of_ble_eq_true rfl) rfl ?_
  refine j_iload_n d_Main_space_56 rfl ?_
  refine j_iconst (v := nI 1) d_Main_space_57 rfl ?_
  refine j_icmp_leN_t (tgt := 69) d_Main_space_58 (by decide) (by omega) (by omega) (by decide) ?_
  refine j_iload_n d_Main_space_69 rfl ?_
  refine j_if_eqN_t (tgt := 78) d_Main_space_70 (by decide) (by omega) (by decide) ?_
  refine j_aload_n d_Main_space_78 rfl ?_
  refine j_getr (b := 64) d_Main_space_79 jf_Main_45 rfl rfl rfl (by decide) ?_
  refine j_aload_n d_Main_space_82 rfl ?_
  refine j_getr (b := 113) d_Main_space_83 jf_Main_57 rfl rfl rfl (by decide) ?_
  refine j_callVs (As := [.ref 113]) (st := []) (x_unionsOf isT_108 rep_sT (hw s)) d_Main_space_86 (by decide) jm_Spaces_unionsOf jk_Main_238 ji_Spaces_unionsOf js_Spaces_unionsOf rfl (by decide) rfl rfl (Nat.le_of_ble_eq_true rfl) rfl ?_
  refine j_goto (tgt := 103) d_Main_space_89 (by decide) ?_
  subst hres
  exact j_reti d_Main_space_103 rfl rfl
theorem x_space1 {n : jN} {h : jH} {P : jP} (hw : ∀ q, tw (P q)) (hP : slo h P) {s : Nat} (hs : s < 6) (h0 : 0 < (P s).1) {q : Nat} (hq : q ≤ 12) (hq1 : ∀ j, j < q → ¬ bsr (P s) j = 0) (hq2 : bsr (P s) q = 0 ∨ q = 12) : jC n 5 jy_Main_space jc_Main_space 4 (some .int) [.ref 0, .int (nI s), .int (nI 1)] h (some (.int (nI q))) (sT h 113 (P s)) := by
  refine jC_of jm_Main_space (L := [some (.ref 0), some (.int (nI s)), some (.int (nI 1)), none]) (Nat.le_of_ble_eq_true rfl) rfl trivial ?_
  generalize hres : (((some (.int (nI q))), sT h 113 (P s)) : Option Value × jH) = res
  have hn12 := (hw s).1
  refine j_aload_n d_Main_space_0 rfl ?_
  refine j_iload_n d_Main_space_1 rfl ?_
  refine j_callVs (As := [.int (nI s)]) (st := []) (x_noTable hw hP) d_Main_space_2 (by decide) jm_Main_noTable jk_Main_103 ji_Main_noTable js_Main_noTable rfl (by decide) rfl rfl (Nat.le_of_ble_eq_true rfl) rfl ?_
  refine j_if_neB_f (tgt := 17) d_Main_space_5 (by decide) (ho_n hs h0) ?_
  refine j_iload_n d_Main_space_8 rfl ?_
  refine j_iconst (v := nI 0) d_Main_space_9 rfl ?_
  refine j_iconst (v := nI 4) d_Main_space_10 rfl ?_
  refine j_callSs (As := [.int (nI 1), .int (nI 0), .int (nI 4)]) (st := []) x_outOf d_Main_space_11 (by decide) jm_Main_outOf jk_Main_69 js_Main_outOf rfl (Nat.le_of_ble_eq_true rfl) rfl ?_
  refine j_if_eqB_t (tgt := 19) d_Main_space_14 (by decide) (oo_n (by omega) (by omega) (by omega)) ?_
  refine j_aload_n d_Main_space_19 rfl ?_
  refine j_getr (b := 1) d_Main_space_20 jf_Main_11 rfl rfl rfl (by decide) ?_
  refine j_iload_n d_Main_space_23 rfl ?_
  refine j_aaldN (b := 115 + 2 * s) d_Main_space_24 rfl (by decide) (by omega) (by decide) (jrf_slot _ (by omega)) (by omega) ?_
  refine j_astore_n (L' := [some (.ref 0), some (.int (nI s)), some (.int (nI 1)), some (.ref (115 + 2 * s))]) d_Main_space_25 (by decide) rfl rfl ?_
  refine j_iload_n d_Main_space_26 rfl ?_
  refine j_iconst (v := nI 4) d_Main_space_27 rfl ?_
  refine j_icmp_neN_t (tgt := 48) d_Main_space_28 (by decide) (by omega) (by omega) (by decide) ?_
  refine j_aload_n d_Main_space_48 rfl ?_
  refine j_getr (b := 113) d_Main_space_49 jf_Main_57 rfl rfl rfl (by decide) ?_
  refine j_aload_n d_Main_space_52 rfl ?_
  refine j_callVn (As := [.ref (115 + 2 * s)]) (st := []) (x_become isT_108 (isT_slot s (by omega)) (by omega) (hP s (by omega)) (hw s)) d_Main_space_53 (by decide) jm_Table_become jk_Main_85 ji_Table_become js_Table_become rfl (by decide) rfl rfl (Nat.le_of_ble_eq_true rfl) rfl ?_
  refine j_iload_n d_Main_space_56 rfl ?_
  refine j_iconst (v := nI 1) d_Main_space_57 rfl ?_
  refine j_icmp_leN_t (tgt := 69) d_Main_space_58 (by decide) (by omega) (by omega) (by decide) ?_
  refine j_iload_n d_Main_space_69 rfl ?_
  refine j_if_eqN_f (tgt := 78) d_Main_space_70 (by decide) (by omega) (by decide) ?_
  refine j_iload_n d_Main_space_73 rfl ?_
  refine j_iconst (v := nI 2) d_Main_space_74 rfl ?_
  refine j_icmp_neN_t (tgt := 92) d_Main_space_75 (by decide) (by omega) (by omega) (by decide) ?_
  refine j_aload_n d_Main_space_92 rfl ?_
  refine j_getr (b := 64) d_Main_space_93 jf_Main_45 rfl rfl rfl (by decide) ?_
  refine j_aload_n d_Main_space_96 rfl ?_
  refine j_getr (b := 113) d_Main_space_97 jf_Main_57 rfl rfl rfl (by decide) ?_
  refine j_callVs (As := [.ref 113]) (st := []) (x_basisSize isT_108 rep_sT (hw s) hq hq1 hq2) d_Main_space_100 (by decide) jm_Spaces_basisSize jk_Main_241 ji_Spaces_basisSize js_Spaces_basisSize rfl (by decide) rfl rfl (Nat.le_of_ble_eq_true rfl) rfl ?_
  subst hres
  exact j_reti d_Main_space_103 rfl rfl
theorem x_space2 {n : jN} {h : jH} {P : jP} (hw : ∀ q, tw (P q)) (hP : slo h P) {s : Nat} (hs : s < 6) (h0 : 0 < (P s).1) : jC n 5 jy_Main_space jc_Main_space 4 (some .int) [.ref 0, .int (nI s), .int (nI 2)] h (some (.int (nI (unc (ttr (P s)) (2 ^ (ttr (P s)).1))))) (sT (sT h 113 (P s)) 113 (ttr (P s))) := by
  refine jC_of jm_Main_space (L := [some (.ref 0), some (.int (nI s)), some (.int (nI 2)), none]) (Nat.le_of_ble_eq_true rfl) rfl trivial ?_
  generalize hres : (((some (.int (nI (unc (ttr (P s)) (2 ^ (ttr (P s)).1))))), sT (sT h 113 (P s)) 113 (ttr (P s))) : Option Value × jH) = res
  have hn12 := (hw s).1
  refine j_aload_n d_Main_space_0 rfl ?_
  refine j_iload_n d_Main_space_1 rfl ?_
  refine j_callVs (As := [.int (nI s)]) (st := []) (x_noTable hw hP) d_Main_space_2 (by decide) jm_Main_noTable jk_Main_103 ji_Main_noTable js_Main_noTable rfl (by decide) rfl rfl (Nat.le_of_ble_eq_true rfl) rfl ?_
  refine j_if_neB_f (tgt := 17) d_Main_space_5 (by decide) (ho_n hs h0) ?_
  refine j_iload_n d_Main_space_8 rfl ?_
  refine j_iconst (v := nI 0) d_Main_space_9 rfl ?_
  refine j_iconst (v := nI 4) d_Main_space_10 rfl ?_
  refine j_callSs (As := [.int (nI 2), .int (nI 0), .int (nI 4)]) (st := []) x_outOf d_Main_space_11 (by decide) jm_Main_outOf jk_Main_69 js_Main_outOf rfl (Nat.le_of_ble_eq_true rfl) rfl ?_
  refine j_if_eqB_t (tgt := 19) d_Main_space_14 (by decide) (oo_n (by omega) (by omega) (by omega)) ?_
  refine j_aload_n d_Main_space_19 rfl ?_
  refine j_getr (b := 1) d_Main_space_20 jf_Main_11 rfl rfl rfl (by decide) ?_
  refine j_iload_n d_Main_space_23 rfl ?_
  refine j_aaldN (b := 115 + 2 * s) d_Main_space_24 rfl (by decide) (by omega) (by decide) (jrf_slot _ (by omega)) (by omega) ?_
  refine j_astore_n (L' := [some (.ref 0), some (.int (nI s)), some (.int (nI 2)), some (.ref (115 + 2 * s))]) d_Main_space_25 (by decide) rfl rfl ?_
  refine j_iload_n d_Main_space_26 rfl ?_
  refine j_iconst (v := nI 4) d_Main_space_27 rfl ?_
  refine j_icmp_neN_t (tgt := 48) d_Main_space_28 (by decide) (by omega) (by omega) (by decide) ?_
  refine j_aload_n d_Main_space_48 rfl ?_
  refine j_getr (b := 113) d_Main_space_49 jf_Main_57 rfl rfl rfl (by decide) ?_
  refine j_aload_n d_Main_space_52 rfl ?_
  refine j_callVn (As := [.ref (115 + 2 * s)]) (st := []) (x_become isT_108 (isT_slot s (by omega)) (by omega) (hP s (by omega)) (hw s)) d_Main_space_53 (by decide) jm_Table_become jk_Main_85 ji_Table_become js_Table_become rfl (by decide) rfl rfl (Nat.le_of_ble_eq_true rfl) rfl ?_
  refine j_iload_n d_Main_space_56 rfl ?_
  refine j_iconst (v := nI 1) d_Main_space_57 rfl ?_
  refine j_icmp_leN_f (tgt := 69) d_Main_space_58 (by decide) (by omega) (by omega) (by decide) ?_
  refine j_aload_n d_Main_space_61 rfl ?_
  refine j_getr (b := 113) d_Main_space_62 jf_Main_57 rfl rfl rfl (by decide) ?_
  refine j_aload_n d_Main_space_65 rfl ?_
  refine j_callVn (As := [.ref (115 + 2 * s)]) (st := []) (x_turn isT_108 (isT_slot s (by omega)) (by omega) (rep_o isT_108 (isT_slot s (by omega)) (by omega) (hP s (by omega))) (hw s)) d_Main_space_66 (by decide) jm_Table_turn jk_Main_121 ji_Table_turn js_Table_turn rfl (by decide) rfl rfl (Nat.le_of_ble_eq_true rfl) rfl ?_
  refine j_iload_n d_Main_space_69 rfl ?_
  refine j_if_eqN_f (tgt := 78) d_Main_space_70 (by decide) (by omega) (by decide) ?_
  refine j_iload_n d_Main_space_73 rfl ?_
  refine j_iconst (v := nI 2) d_Main_space_74 rfl ?_
  refine j_icmp_neN_f (tgt := 92) d_Main_space_75 (by decide) (by omega) (by omega) (by decide) ?_
  refine j_aload_n d_Main_space_78 rfl ?_
  refine j_getr (b := 64) d_Main_space_79 jf_Main_45 rfl rfl rfl (by decide) ?_
  refine j_aload_n d_Main_space_82 rfl ?_
  refine j_getr (b := 113) d_Main_space_83 jf_Main_57 rfl rfl rfl (by decide) ?_
  refine j_callVs (As := [.ref 113]) (st := []) (x_unionsOf isT_108 rep_sT (tw_tr (hw s))) d_Main_space_86 (by decide) jm_Spaces_unionsOf jk_Main_238 ji_Spaces_unionsOf js_Spaces_unionsOf rfl (by decide) rfl rfl (Nat.le_of_ble_eq_true rfl) rfl ?_
  refine j_goto (tgt := 103) d_Main_space_89 (by decide) ?_
  subst hres
  exact j_reti d_Main_space_103 rfl rfl
theorem x_space3 {n : jN} {h : jH} {P : jP} (hw : ∀ q, tw (P q)) (hP : slo h P) {s : Nat} (hs : s < 6) (h0 : 0 < (P s).1) {q : Nat} (hq : q ≤ 12) (hq1 : ∀ j, j < q → ¬ bsr (ttr (P s)) j = 0) (hq2 : bsr (ttr (P s)) q = 0 ∨ q = 12) : jC n 5 jy_Main_space jc_Main_space 4 (some .int) [.ref 0, .int (nI s), .int (nI 3)] h (some (.int (nI q))) (sT (sT h 113 (P s)) 113 (ttr (P s))) := by
  refine jC_of jm_Main_space (L := [some (.ref 0), some (.int (nI s)), some (.int (nI 3)), none]) (Nat.le_of_ble_eq_true rfl) rfl trivial ?_
  generalize hres : (((some (.int (nI q))), sT (sT h 113 (P s)) 113 (ttr (P s))) : Option Value × jH) = res
  have hn12 := (hw s).1
  refine j_aload_n d_Main_space_0 rfl ?_
  refine j_iload_n d_Main_space_1 rfl ?_
  refine j_callVs (As := [.int (nI s)]) (st := []) (x_noTable hw hP) d_Main_space_2 (by decide) jm_Main_noTable jk_Main_103 ji_Main_noTable js_Main_noTable rfl (by decide) rfl rfl (Nat.le_of_ble_eq_true rfl) rfl ?_
  refine j_if_neB_f (tgt := 17) d_Main_space_5 (by decide) (ho_n hs h0) ?_
  refine j_iload_n d_Main_space_8 rfl ?_
  refine j_iconst (v := nI 0) d_Main_space_9 rfl ?_
  refine j_iconst (v := nI 4) d_Main_space_10 rfl ?_
  refine j_callSs (As := [.int (nI 3), .int (nI 0), .int (nI 4)]) (st := []) x_outOf d_Main_space_11 (by decide) jm_Main_outOf jk_Main_69 js_Main_outOf rfl (Nat.le_of_ble_eq_true rfl) rfl ?_
  refine j_if_eqB_t (tgt := 19) d_Main_space_14 (by decide) (oo_n (by omega) (by omega) (by omega)) ?_
  refine j_aload_n d_Main_space_19 rfl ?_
  refine j_getr (b := 1) d_Main_space_20 jf_Main_11 rfl rfl rfl (by decide) ?_
  refine j_iload_n d_Main_space_23 rfl ?_
  refine j_aaldN (b := 115 + 2 * s) d_Main_space_24 rfl (by decide) (by omega) (by decide) (jrf_slot _ (by omega)) (by omega) ?_
  refine j_astore_n (L' := [some (.ref 0), some (.int (nI s)), some (.int (nI 3)), some (.ref (115 + 2 * s))]) d_Main_space_25 (by decide) rfl rfl ?_
  refine j_iload_n d_Main_space_26 rfl ?_
  refine j_iconst (v := nI 4) d_Main_space_27 rfl ?_
  refine j_icmp_neN_t (tgt := 48) d_Main_space_28 (by decide) (by omega) (by omega) (by decide) ?_
  refine j_aload_n d_Main_space_48 rfl ?_
  refine j_getr (b := 113) d_Main_space_49 jf_Main_57 rfl rfl rfl (by decide) ?_
  refine j_aload_n d_Main_space_52 rfl ?_
  refine j_callVn (As := [.ref (115 + 2 * s)]) (st := []) (x_become isT_108 (isT_slot s (by omega)) (by omega) (hP s (by omega)) (hw s)) d_Main_space_53 (by decide) jm_Table_become jk_Main_85 ji_Table_become js_Table_become rfl (by decide) rfl rfl (Nat.le_of_ble_eq_true rfl) rfl ?_
  refine j_iload_n d_Main_space_56 rfl ?_
  refine j_iconst (v := nI 1) d_Main_space_57 rfl ?_
  refine j_icmp_leN_f (tgt := 69) d_Main_space_58 (by decide) (by omega) (by omega) (by decide) ?_
  refine j_aload_n d_Main_space_61 rfl ?_
  refine j_getr (b := 113) d_Main_space_62 jf_Main_57 rfl rfl rfl (by decide) ?_
  refine j_aload_n d_Main_space_65 rfl ?_
  refine j_callVn (As := [.ref (115 + 2 * s)]) (st := []) (x_turn isT_108 (isT_slot s (by omega)) (by omega) (rep_o isT_108 (isT_slot s (by omega)) (by omega) (hP s (by omega))) (hw s)) d_Main_space_66 (by decide) jm_Table_turn jk_Main_121 ji_Table_turn js_Table_turn rfl (by decide) rfl rfl (Nat.le_of_ble_eq_true rfl) rfl ?_
  refine j_iload_n d_Main_space_69 rfl ?_
  refine j_if_eqN_f (tgt := 78) d_Main_space_70 (by decide) (by omega) (by decide) ?_
  refine j_iload_n d_Main_space_73 rfl ?_
  refine j_iconst (v := nI 2) d_Main_space_74 rfl ?_
  refine j_icmp_neN_t (tgt := 92) d_Main_space_75 (by decide) (by omega) (by omega) (by decide) ?_
  refine j_aload_n d_Main_space_92 rfl ?_
  refine j_getr (b := 64) d_Main_space_93 jf_Main_45 rfl rfl rfl (by decide) ?_
  refine j_aload_n d_Main_space_96 rfl ?_
  refine j_getr (b := 113) d_Main_space_97 jf_Main_57 rfl rfl rfl (by decide) ?_
  refine j_callVs (As := [.ref 113]) (st := []) (x_basisSize isT_108 rep_sT (tw_tr (hw s)) hq hq1 hq2) d_Main_space_100 (by decide) jm_Spaces_basisSize jk_Main_241 ji_Spaces_basisSize js_Spaces_basisSize rfl (by decide) rfl rfl (Nat.le_of_ble_eq_true rfl) rfl ?_
  subst hres
  exact j_reti d_Main_space_103 rfl rfl
theorem x_space4 {n : jN} {h : jH} {P : jP} (hw : ∀ q, tw (P q)) (hP : slo h P) {s : Nat} (hs : s < 6) (h0 : 0 < (P s).1) : jC n 5 jy_Main_space jc_Main_space 4 (some .int) [.ref 0, .int (nI s), .int (nI 4)] h (some (.int (jbo (tlik (tmul (tmul (P s) (tgr (P s))) (P s)) (P s))))) (sT (sT (sT (fgH h (115 + 2 * s) 71 (P s)) 73 (P s)) 73 (tmul (P s) (tgr (P s)))) 73 (tmul (tmul (P s) (tgr (P s))) (P s))) := by
  refine jC_of jm_Main_space (L := [some (.ref 0), some (.int (nI s)), some (.int (nI 4)), none]) (Nat.le_of_ble_eq_true rfl) rfl trivial ?_
  generalize hres : (((some (.int (jbo (tlik (tmul (tmul (P s) (tgr (P s))) (P s)) (P s))))), sT (sT (sT (fgH h (115 + 2 * s) 71 (P s)) 73 (P s)) 73 (tmul (P s) (tgr (P s)))) 73 (tmul (tmul (P s) (tgr (P s))) (P s))) : Option Value × jH) = res
  have hn12 := (hw s).1
  refine j_aload_n d_Main_space_0 rfl ?_
  refine j_iload_n d_Main_space_1 rfl ?_
  refine j_callVs (As := [.int (nI s)]) (st := []) (x_noTable hw hP) d_Main_space_2 (by decide) jm_Main_noTable jk_Main_103 ji_Main_noTable js_Main_noTable rfl (by decide) rfl rfl (Nat.le_of_ble_eq_true rfl) rfl ?_
  refine j_if_neB_f (tgt := 17) d_Main_space_5 (by decide) (ho_n hs h0) ?_
  refine j_iload_n d_Main_space_8 rfl ?_
  refine j_iconst (v := nI 0) d_Main_space_9 rfl ?_
  refine j_iconst (v := nI 4) d_Main_space_10 rfl ?_
  refine j_callSs (As := [.int (nI 4), .int (nI 0), .int (nI 4)]) (st := []) x_outOf d_Main_space_11 (by decide) jm_Main_outOf jk_Main_69 js_Main_outOf rfl (Nat.le_of_ble_eq_true rfl) rfl ?_
  refine j_if_eqB_t (tgt := 19) d_Main_space_14 (by decide) (oo_n (by omega) (by omega) (by omega)) ?_
  refine j_aload_n d_Main_space_19 rfl ?_
  refine j_getr (b := 1) d_Main_space_20 jf_Main_11 rfl rfl rfl (by decide) ?_
  refine j_iload_n d_Main_space_23 rfl ?_
  refine j_aaldN (b := 115 + 2 * s) d_Main_space_24 rfl (by decide) (by omega) (by decide) (jrf_slot _ (by omega)) (by omega) ?_
  refine j_astore_n (L' := [some (.ref 0), some (.int (nI s)), some (.int (nI 4)), some (.ref (115 + 2 * s))]) d_Main_space_25 (by decide) rfl rfl ?_
  refine j_iload_n d_Main_space_26 rfl ?_
  refine j_iconst (v := nI 4) d_Main_space_27 rfl ?_
  refine j_icmp_neN_f (tgt := 48) d_Main_space_28 (by decide) (by omega) (by omega) (by decide) ?_
  refine j_aload_n d_Main_space_31 rfl ?_
  refine j_getr (b := 64) d_Main_space_32 jf_Main_45 rfl rfl rfl (by decide) ?_
  refine j_aload_n d_Main_space_35 rfl ?_
  refine j_callVs (As := [.ref (115 + 2 * s)]) (st := []) (x_isRegular (isT_slot s hs) (hP s hs) (hw s) (by omega)) d_Main_space_36 (by decide) jm_Spaces_isRegular jk_Main_235 ji_Spaces_isRegular js_Spaces_isRegular rfl (by decide) rfl rfl (Nat.le_of_ble_eq_true rfl) rfl ?_
  refine j_if_eqB (tgt := 46) d_Main_space_39 (by decide) (fun c => ?_) (fun c => ?_)
  · refine j_iconst (v := nI 0) d_Main_space_46 rfl ?_
    subst hres
    exact j_reti d_Main_space_47 (by rw [c]; rfl) rfl
  · refine j_iconst (v := nI 1) d_Main_space_42 rfl ?_
    refine j_goto (tgt := 47) d_Main_space_43 (by decide) ?_
    subst hres
    exact j_reti d_Main_space_47 (by rw [c]; rfl) rfl
theorem x_basis_bad {n : jN} {h : jH} {P : jP} (hw : ∀ q, tw (P q)) (hP : slo h P) {s i : Int32} (hb : jho P s = false) : jC n 4 jy_Main_basis jc_Main_basis 5 (some .int) [.ref 0, .int s, .int i] h (some (.int (-1))) h := by
  refine jC_of jm_Main_basis (L := [some (.ref 0), some (.int s), some (.int i), none, none]) (Nat.le_of_ble_eq_true rfl) rfl trivial ?_
  generalize hres : (((some (.int (-1))), h) : Option Value × jH) = res
  refine j_aload_n d_Main_basis_0 rfl ?_
  refine j_iload_n d_Main_basis_1 rfl ?_
  refine j_callVs (As := [.int s]) (st := []) (x_noTable hw hP) d_Main_basis_2 (by decide) jm_Main_noTable jk_Main_103 ji_Main_noTable js_Main_noTable rfl (by decide) rfl rfl (Nat.le_of_ble_eq_true rfl) rfl ?_
  refine j_if_eqB (tgt := 10) d_Main_basis_5 (by decide) (fun c1 => ?_) (fun c1 => ?_)
  · exact absurd hb (by simp_all)
  · refine j_iconst (v := -1) d_Main_basis_8 rfl ?_
    subst hres
    exact j_reti d_Main_basis_9 rfl rfl
theorem x_basis_none {n : jN} {h : jH} {P : jP} (hw : ∀ q, tw (P q)) (hP : slo h P) {s : Nat} (hs : s < 6) (h0 : 0 < (P s).1) {q : Nat} (hq : q ≤ 12) (hq1 : ∀ j, j < q → ¬ bsr (P s) j = 0) (hq2 : bsr (P s) q = 0 ∨ q = 12) {i : Int32} (hb : (decide (0 ≤ i) && decide (i < nI q)) = false) : jC n 4 jy_Main_basis jc_Main_basis 5 (some .int) [.ref 0, .int (nI s), .int i] h (some (.int (-2))) h := by
  refine jC_of jm_Main_basis (L := [some (.ref 0), some (.int (nI s)), some (.int i), none, none]) (Nat.le_of_ble_eq_true rfl) rfl trivial ?_
  generalize hres : (((some (.int (-2))), h) : Option Value × jH) = res
  have hn12 := (hw s).1
  refine j_aload_n d_Main_basis_0 rfl ?_
  refine j_iload_n d_Main_basis_1 rfl ?_
  refine j_callVs (As := [.int (nI s)]) (st := []) (x_noTable hw hP) d_Main_basis_2 (by decide) jm_Main_noTable jk_Main_103 ji_Main_noTable js_Main_noTable rfl (by decide) rfl rfl (Nat.le_of_ble_eq_true rfl) rfl ?_
  refine j_if_eqB_t (tgt := 10) d_Main_basis_5 (by decide) (ho_n hs h0) ?_
  refine j_iload_n d_Main_basis_10 rfl ?_
  refine j_if_lt (tgt := 31) d_Main_basis_11 (by decide) (fun c1 => ?_) (fun c1 => ?_)
  · refine j_bipush (v := -2) d_Main_basis_31 (by decide) ?_
    subst hres
    exact j_reti d_Main_basis_33 rfl rfl
  · refine j_iload_n d_Main_basis_14 rfl ?_
    refine j_aload_n d_Main_basis_15 rfl ?_
    refine j_getr (b := 64) d_Main_basis_16 jf_Main_45 rfl rfl rfl (by decide) ?_
    refine j_aload_n d_Main_basis_19 rfl ?_
    refine j_getr (b := 1) d_Main_basis_20 jf_Main_11 rfl rfl rfl (by decide) ?_
    refine j_iload_n d_Main_basis_23 rfl ?_
    refine j_aaldN (b := 115 + 2 * s) d_Main_basis_24 rfl (by decide) (by omega) (by decide) (jrf_slot _ (by omega)) (by omega) ?_
    refine j_callVs (As := [.ref (115 + 2 * s)]) (st := [.int i]) (x_basisSize (isT_slot s (by omega)) (hP s (by omega)) (hw s) hq hq1 hq2) d_Main_basis_25 (by decide) jm_Spaces_basisSize jk_Main_241 ji_Spaces_basisSize js_Spaces_basisSize rfl (by decide) rfl rfl (Nat.le_of_ble_eq_true rfl) rfl ?_
    refine j_icmp_lt (tgt := 34) d_Main_basis_28 (by decide) (fun c2 => ?_) (fun c2 => ?_)
    · exact absurd hb (by rw [decide_eq_true (show 0 ≤ i from by first | exact c1 | exact Int32.not_lt.mp c1), decide_eq_true c2]; decide)
    · refine j_bipush (v := -2) d_Main_basis_31 (by decide) ?_
      subst hres
      exact j_reti d_Main_basis_33 rfl rfl
def bsq (T : jT) : Nat → Nat
  | 0 => 0
  | j + 1 => nbs T (bsq T j) T.1
theorem bsq_lt {T : jT} (hT : tw T) : ∀ j, bsq T j < 4096
  | 0 => by show 0 < 4096; omega
  | j + 1 => nbs_lt hT _
theorem bsq_r (T : jT) : ∀ j, bsr T j = bsq T (j + 1)
  | 0 => rfl
  | j + 1 => by
    show nbs T (bsr T j) T.1 = nbs T (bsq T (j + 1)) T.1
    rw [bsq_r T j]
theorem x_basis {n : jN} {h : jH} {P : jP} (hw : ∀ q, tw (P q)) (hP : slo h P) {s : Nat} (hs : s < 6) (h0 : 0 < (P s).1) {q : Nat} (hq : q ≤ 12) (hq1 : ∀ j, j < q → ¬ bsr (P s) j = 0) (hq2 : bsr (P s) q = 0 ∨ q = 12) {i : Nat} (hi : i < q) : jC n 4 jy_Main_basis jc_Main_basis 5 (some .int) [.ref 0, .int (nI s), .int (nI i)] h (some (.int (nI (bsq (P s) (i + 1))))) h := by
  refine jC_of jm_Main_basis (L := [some (.ref 0), some (.int (nI s)), some (.int (nI i)), none, none]) (Nat.le_of_ble_eq_true rfl) rfl trivial ?_
  generalize hres : (((some (.int (nI (bsq (P s) (i + 1))))), h) : Option Value × jH) = res
  have hn12 := (hw s).1
  refine j_aload_n d_Main_basis_0 rfl ?_
  refine j_iload_n d_Main_basis_1 rfl ?_
  refine j_callVs (As := [.int (nI s)]) (st := []) (x_noTable hw hP) d_Main_basis_2 (by decide) jm_Main_noTable jk_Main_103 ji_Main_noTable js_Main_noTable rfl (by decide) rfl rfl (Nat.le_of_ble_eq_true rfl) rfl ?_
  refine j_if_eqB_t (tgt := 10) d_Main_basis_5 (by decide) (ho_n hs h0) ?_
  refine j_iload_n d_Main_basis_10 rfl ?_
  refine j_if_ltN_f (tgt := 31) d_Main_basis_11 (by decide) (by omega) trivial ?_
  refine j_iload_n d_Main_basis_14 rfl ?_
  refine j_aload_n d_Main_basis_15 rfl ?_
  refine j_getr (b := 64) d_Main_basis_16 jf_Main_45 rfl rfl rfl (by decide) ?_
  refine j_aload_n d_Main_basis_19 rfl ?_
  refine j_getr (b := 1) d_Main_basis_20 jf_Main_11 rfl rfl rfl (by decide) ?_
  refine j_iload_n d_Main_basis_23 rfl ?_
  refine j_aaldN (b := 115 + 2 * s) d_Main_basis_24 rfl (by decide) (by omega) (by decide) (jrf_slot _ (by omega)) (by omega) ?_
  refine j_callVs (As := [.ref (115 + 2 * s)]) (st := [.int (nI i)]) (x_basisSize (isT_slot s (by omega)) (hP s (by omega)) (hw s) hq hq1 hq2) d_Main_basis_25 (by decide) jm_Spaces_basisSize jk_Main_241 ji_Spaces_basisSize js_Spaces_basisSize rfl (by decide) rfl rfl (Nat.le_of_ble_eq_true rfl) rfl ?_
  refine j_icmp_ltN_t (tgt := 34) d_Main_basis_28 (by decide) (by omega) (by omega) hi ?_
  refine j_iconst (v := nI 0) d_Main_basis_34 rfl ?_
  refine j_istore_n (L' := [some (.ref 0), some (.int (nI s)), some (.int (nI i)), some (.int (nI 0)), none]) d_Main_basis_35 (by decide) rfl rfl ?_
  refine j_iconst (v := nI 0) d_Main_basis_36 rfl ?_
  refine j_istore (L' := [some (.ref 0), some (.int (nI s)), some (.int (nI i)), some (.int (nI 0)), some (.int (nI 0))]) d_Main_basis_37 (by decide) rfl rfl ?_
  refine j_loop (P := fun j => jJ n 4 jc_Main_basis 5 "YesNoPowers" 39 [some (.ref 0), some (.int (nI s)), some (.int (nI i)), some (.int (nI (bsq (P s) j))), some (.int (nI j))] [] h res) (m := i + 1) ?_ (fun j hj ih => ?_)
  · have hbl := bsq_lt (hw s) (i + 1)
    refine j_iload d_Main_basis_39 rfl ?_
    refine j_iload_n d_Main_basis_41 rfl ?_
    refine j_icmp_gtN_t (tgt := 66) d_Main_basis_42 (by decide) (by omega) (by omega) (by omega) ?_
    refine j_iload_n d_Main_basis_66 rfl ?_
    subst hres
    exact j_reti d_Main_basis_67 rfl rfl
  · refine j_iload d_Main_basis_39 rfl ?_
    refine j_iload_n d_Main_basis_41 rfl ?_
    refine j_icmp_gtN_f (tgt := 66) d_Main_basis_42 (by decide) (by omega) (by omega) (by omega) ?_
    refine j_aload_n d_Main_basis_45 rfl ?_
    refine j_getr (b := 64) d_Main_basis_46 jf_Main_45 rfl rfl rfl (by decide) ?_
    refine j_aload_n d_Main_basis_49 rfl ?_
    refine j_getr (b := 1) d_Main_basis_50 jf_Main_11 rfl rfl rfl (by decide) ?_
    refine j_iload_n d_Main_basis_53 rfl ?_
    refine j_aaldN (b := 115 + 2 * s) d_Main_basis_54 rfl (by decide) (by omega) (by decide) (jrf_slot _ (by omega)) (by omega) ?_
    refine j_iload_n d_Main_basis_55 rfl ?_
    refine j_callVs (As := [.ref (115 + 2 * s), .int (nI (bsq (P s) j))]) (st := []) (x_nextOfBasis (isT_slot s (by omega)) (hP s (by omega)) (hw s) (bsq_lt (hw s) _)) d_Main_basis_56 (by decide) jm_Spaces_nextOfBasis jk_Main_244 ji_Spaces_nextOfBasis js_Spaces_nextOfBasis rfl (by decide) rfl rfl (Nat.le_of_ble_eq_true rfl) rfl ?_
    refine j_istore_n (L' := [some (.ref 0), some (.int (nI s)), some (.int (nI i)), some (.int (nI (nbs (P s) (bsq (P s) j) ((P s)).1))), some (.int (nI j))]) d_Main_basis_59 (by decide) rfl rfl ?_
    refine j_iincN (x := j) (L' := [some (.ref 0), some (.int (nI s)), some (.int (nI i)), some (.int (nI (nbs (P s) (bsq (P s) j) ((P s)).1))), some (.int (nI (j + 1)))]) d_Main_basis_60 rfl (by decide) rfl rfl ?_
    refine j_goto (tgt := 39) d_Main_basis_63 (by decide) ?_
    exact ih
theorem x_spans_bad {n : jN} {h : jH} {P : jP} (hw : ∀ q, tw (P q)) (hP : slo h P) {s v : Int32} (hb : jokSpans P s v = false) : jC n 4 jy_Main_spans jc_Main_spans 3 (some .int) [.ref 0, .int s, .int v] h (some (.int (-1))) h := by
  refine jC_of jm_Main_spans (L := [some (.ref 0), some (.int s), some (.int v)]) (Nat.le_of_ble_eq_true rfl) rfl trivial ?_
  generalize hres : (((some (.int (-1))), h) : Option Value × jH) = res
  refine j_aload_n d_Main_spans_0 rfl ?_
  refine j_iload_n d_Main_spans_1 rfl ?_
  refine j_callVs (As := [.int s]) (st := []) (x_noTable hw hP) d_Main_spans_2 (by decide) jm_Main_noTable jk_Main_103 ji_Main_noTable js_Main_noTable rfl (by decide) rfl rfl (Nat.le_of_ble_eq_true rfl) rfl ?_
  refine j_if_neB (tgt := 21) d_Main_spans_5 (by decide) (fun c1 => ?_) (fun c1 => ?_)
  · refine j_iconst (v := -1) d_Main_spans_21 rfl ?_
    subst hres
    exact j_reti d_Main_spans_22 rfl rfl
  · obtain ⟨k, hk, hk0, rfl⟩ := jho_t (P := P) (s := s) (by simpa using c1)
    have hck : (nI k).toNatClampNeg = k := nI_clamp (by omega)
    have hnk := (hw k).1
    refine j_aload_n d_Main_spans_8 rfl ?_
    refine j_getr (b := 1) d_Main_spans_9 jf_Main_11 rfl rfl rfl (by decide) ?_
    refine j_iload_n d_Main_spans_12 rfl ?_
    refine j_aaldN (b := 115 + 2 * k) d_Main_spans_13 rfl (by decide) (by omega) (by decide) (jrf_slot _ (by omega)) (by omega) ?_
    refine j_iload_n d_Main_spans_14 rfl ?_
    refine j_callVs (As := [.int v]) (st := []) (x_lacks (isT_slot k (by omega)) (hP k (by omega)).1 (hw k).1) d_Main_spans_15 (by decide) jm_Table_lacksColumnOf jk_Main_100 ji_Table_lacksColumnOf js_Table_lacksColumnOf (isT_slot k (by omega)).1 (by decide) rfl rfl (Nat.le_of_ble_eq_true rfl) rfl ?_
    refine j_if_eqB (tgt := 23) d_Main_spans_18 (by decide) (fun c2 => ?_) (fun c2 => ?_)
    · exact absurd hb (by simp_all [jokSpans])
    · refine j_iconst (v := -1) d_Main_spans_21 rfl ?_
      subst hres
      exact j_reti d_Main_spans_22 rfl rfl
theorem x_spans {n : jN} {h : jH} {P : jP} (hw : ∀ q, tw (P q)) (hP : slo h P) {s : Nat} (hs : s < 6) (h0 : 0 < (P s).1) {v : Nat} (hv : v < 2 ^ (P s).1) : jC n 4 jy_Main_spans jc_Main_spans 3 (some .int) [.ref 0, .int (nI s), .int (nI v)] h (some (.int (jbo (hun (P s) v (P s).1 == v)))) h := by
  refine jC_of jm_Main_spans (L := [some (.ref 0), some (.int (nI s)), some (.int (nI v))]) (Nat.le_of_ble_eq_true rfl) rfl trivial ?_
  generalize hres : (((some (.int (jbo (hun (P s) v (P s).1 == v)))), h) : Option Value × jH) = res
  have hn12 := (hw s).1
  have h2m : 2 ^ (P s).1 ≤ 2 ^ 12 := Nat.pow_le_pow_right (by omega) hn12
  refine j_aload_n d_Main_spans_0 rfl ?_
  refine j_iload_n d_Main_spans_1 rfl ?_
  refine j_callVs (As := [.int (nI s)]) (st := []) (x_noTable hw hP) d_Main_spans_2 (by decide) jm_Main_noTable jk_Main_103 ji_Main_noTable js_Main_noTable rfl (by decide) rfl rfl (Nat.le_of_ble_eq_true rfl) rfl ?_
  refine j_if_neB_f (tgt := 21) d_Main_spans_5 (by decide) (ho_n hs h0) ?_
  refine j_aload_n d_Main_spans_8 rfl ?_
  refine j_getr (b := 1) d_Main_spans_9 jf_Main_11 rfl rfl rfl (by decide) ?_
  refine j_iload_n d_Main_spans_12 rfl ?_
  refine j_aaldN (b := 115 + 2 * s) d_Main_spans_13 rfl (by decide) (by omega) (by decide) (jrf_slot _ (by omega)) (by omega) ?_
  refine j_iload_n d_Main_spans_14 rfl ?_
  refine j_callVs (As := [.int (nI v)]) (st := []) (x_lacks (isT_slot s (by omega)) (hP s (by omega)).1 (hw s).1) d_Main_spans_15 (by decide) jm_Table_lacksColumnOf jk_Main_100 ji_Table_lacksColumnOf js_Table_lacksColumnOf (isT_slot s (by omega)).1 (by decide) rfl rfl (Nat.le_of_ble_eq_true rfl) rfl ?_
  refine j_if_eqB_t (tgt := 23) d_Main_spans_18 (by decide) (se_n hn12 hv) ?_
  refine j_aload_n d_Main_spans_23 rfl ?_
  refine j_getr (b := 64) d_Main_spans_24 jf_Main_45 rfl rfl rfl (by decide) ?_
  refine j_aload_n d_Main_spans_27 rfl ?_
  refine j_getr (b := 1) d_Main_spans_28 jf_Main_11 rfl rfl rfl (by decide) ?_
  refine j_iload_n d_Main_spans_31 rfl ?_
  refine j_aaldN (b := 115 + 2 * s) d_Main_spans_32 rfl (by decide) (by omega) (by decide) (jrf_slot _ (by omega)) (by omega) ?_
  refine j_iload_n d_Main_spans_33 rfl ?_
  refine j_callVs (As := [.ref (115 + 2 * s), .int (nI v)]) (st := []) (x_hasUnion (isT_slot s (by omega)) (hP s (by omega)) (hw s) (by omega)) d_Main_spans_34 (by decide) jm_Spaces_hasUnion jk_Main_248 ji_Spaces_hasUnion js_Spaces_hasUnion rfl (by decide) rfl rfl (Nat.le_of_ble_eq_true rfl) rfl ?_
  refine j_if_eqB (tgt := 44) d_Main_spans_37 (by decide) (fun c => ?_) (fun c => ?_)
  · refine j_iconst (v := nI 0) d_Main_spans_44 rfl ?_
    subst hres
    exact j_reti d_Main_spans_45 (by rw [c]; rfl) rfl
  · refine j_iconst (v := nI 1) d_Main_spans_40 rfl ?_
    refine j_goto (tgt := 45) d_Main_spans_41 (by decide) ?_
    subst hres
    exact j_reti d_Main_spans_45 (by rw [c]; rfl) rfl
theorem x_alike_bad {n : jN} {h : jH} {P : jP} (hw : ∀ q, tw (P q)) (hP : slo h P) {a b w : Int32} (hb : jokAl P a b w = false) : jC n 4 jy_Main_alike jc_Main_alike 4 (some .int) [.ref 0, .int a, .int b, .int w] h (some (.int (-1))) h := by
  refine jC_of jm_Main_alike (L := [some (.ref 0), some (.int a), some (.int b), some (.int w)]) (Nat.le_of_ble_eq_true rfl) rfl trivial ?_
  generalize hres : (((some (.int (-1))), h) : Option Value × jH) = res
  refine j_aload_n d_Main_alike_0 rfl ?_
  refine j_iload_n d_Main_alike_1 rfl ?_
  refine j_callVs (As := [.int a]) (st := []) (x_noTable hw hP) d_Main_alike_2 (by decide) jm_Main_noTable jk_Main_103 ji_Main_noTable js_Main_noTable rfl (by decide) rfl rfl (Nat.le_of_ble_eq_true rfl) rfl ?_
  refine j_if_neB (tgt := 25) d_Main_alike_5 (by decide) (fun c1 => ?_) (fun c1 => ?_)
  · refine j_iconst (v := -1) d_Main_alike_25 rfl ?_
    subst hres
    exact j_reti d_Main_alike_26 rfl rfl
  · refine j_aload_n d_Main_alike_8 rfl ?_
    refine j_iload_n d_Main_alike_9 rfl ?_
    refine j_callVs (As := [.int b]) (st := []) (x_noTable hw hP) d_Main_alike_10 (by decide) jm_Main_noTable jk_Main_103 ji_Main_noTable js_Main_noTable rfl (by decide) rfl rfl (Nat.le_of_ble_eq_true rfl) rfl ?_
    refine j_if_neB (tgt := 25) d_Main_alike_13 (by decide) (fun c2 => ?_) (fun c2 => ?_)
    · refine j_iconst (v := -1) d_Main_alike_25 rfl ?_
      subst hres
      exact j_reti d_Main_alike_26 rfl rfl
    · refine j_iload_n d_Main_alike_16 rfl ?_
      refine j_iconst (v := nI 0) d_Main_alike_17 rfl ?_
      refine j_iconst (v := nI 1) d_Main_alike_18 rfl ?_
      refine j_callSs (As := [.int w, .int (nI 0), .int (nI 1)]) (st := []) x_outOf d_Main_alike_19 (by decide) jm_Main_outOf jk_Main_69 js_Main_outOf rfl (Nat.le_of_ble_eq_true rfl) rfl ?_
      refine j_if_eqB (tgt := 27) d_Main_alike_22 (by decide) (fun c3 => ?_) (fun c3 => ?_)
      · rw [oo_jin (by omega) (by omega)] at c3
        exact absurd hb (by simp_all [jokAl])
      · refine j_iconst (v := -1) d_Main_alike_25 rfl ?_
        subst hres
        exact j_reti d_Main_alike_26 rfl rfl
theorem x_alike_un {n : jN} {h : jH} {P : jP} (hw : ∀ q, tw (P q)) (hP : slo h P) {a b : Nat} (ha : a < 6) (h0a : 0 < (P a).1) (hb : b < 6) (h0b : 0 < (P b).1) {w : Nat} (hw2 : w < 2) (he : ¬ (P a).1 = (P b).1) : jC n 4 jy_Main_alike jc_Main_alike 4 (some .int) [.ref 0, .int (nI a), .int (nI b), .int (nI w)] h (some (.int (-3))) h := by
  have hna := (hw a).1
  have hnb := (hw b).1
  refine jC_of jm_Main_alike (L := [some (.ref 0), some (.int (nI a)), some (.int (nI b)), some (.int (nI w))]) (Nat.le_of_ble_eq_true rfl) rfl trivial ?_
  generalize hres : (((some (.int (-3))), h) : Option Value × jH) = res
  refine j_aload_n d_Main_alike_0 rfl ?_
  refine j_iload_n d_Main_alike_1 rfl ?_
  refine j_callVs (As := [.int (nI a)]) (st := []) (x_noTable hw hP) d_Main_alike_2 (by decide) jm_Main_noTable jk_Main_103 ji_Main_noTable js_Main_noTable rfl (by decide) rfl rfl (Nat.le_of_ble_eq_true rfl) rfl ?_
  refine j_if_neB_f (tgt := 25) d_Main_alike_5 (by decide) (ho_n ha h0a) ?_
  refine j_aload_n d_Main_alike_8 rfl ?_
  refine j_iload_n d_Main_alike_9 rfl ?_
  refine j_callVs (As := [.int (nI b)]) (st := []) (x_noTable hw hP) d_Main_alike_10 (by decide) jm_Main_noTable jk_Main_103 ji_Main_noTable js_Main_noTable rfl (by decide) rfl rfl (Nat.le_of_ble_eq_true rfl) rfl ?_
  refine j_if_neB_f (tgt := 25) d_Main_alike_13 (by decide) (ho_n hb h0b) ?_
  refine j_iload_n d_Main_alike_16 rfl ?_
  refine j_iconst (v := nI 0) d_Main_alike_17 rfl ?_
  refine j_iconst (v := nI 1) d_Main_alike_18 rfl ?_
  refine j_callSs (As := [.int (nI w), .int (nI 0), .int (nI 1)]) (st := []) x_outOf d_Main_alike_19 (by decide) jm_Main_outOf jk_Main_69 js_Main_outOf rfl (Nat.le_of_ble_eq_true rfl) rfl ?_
  refine j_if_eqB_t (tgt := 27) d_Main_alike_22 (by decide) (oo_n (by omega) (by omega) (by omega)) ?_
  refine j_aload_n d_Main_alike_27 rfl ?_
  refine j_getr (b := 1) d_Main_alike_28 jf_Main_11 rfl rfl rfl (by decide) ?_
  refine j_iload_n d_Main_alike_31 rfl ?_
  refine j_aaldN (b := 115 + 2 * a) d_Main_alike_32 rfl (by decide) (by omega) (by decide) (jrf_slot _ (by omega)) (by omega) ?_
  refine j_getv (v := nI ((P a).1)) d_Main_alike_33 jf_Main_106 (isT_slot a (by omega)).1 rfl (hP a (by omega)).1 ?_
  refine j_aload_n d_Main_alike_36 rfl ?_
  refine j_getr (b := 1) d_Main_alike_37 jf_Main_11 rfl rfl rfl (by decide) ?_
  refine j_iload_n d_Main_alike_40 rfl ?_
  refine j_aaldN (b := 115 + 2 * b) d_Main_alike_41 rfl (by decide) (by omega) (by decide) (jrf_slot _ (by omega)) (by omega) ?_
  refine j_getv (v := nI ((P b).1)) d_Main_alike_42 jf_Main_106 (isT_slot b (by omega)).1 rfl (hP b (by omega)).1 ?_
  refine j_icmp_eqN_f (tgt := 51) d_Main_alike_45 (by decide) (by omega) (by omega) he ?_
  refine j_bipush (v := -3) d_Main_alike_48 (by decide) ?_
  subst hres
  exact j_reti d_Main_alike_50 rfl rfl
theorem x_alike0 {n : jN} {h : jH} {P : jP} (hw : ∀ q, tw (P q)) (hP : slo h P) {a b : Nat} (ha : a < 6) (h0a : 0 < (P a).1) (hb : b < 6) (h0b : 0 < (P b).1) (he : (P a).1 = (P b).1) : jC n 4 jy_Main_alike jc_Main_alike 4 (some .int) [.ref 0, .int (nI a), .int (nI b), .int (nI 0)] h (some (.int (jbo (spr (P a) (P b) (P b).1 && spr (P b) (P a) (P a).1)))) (sT (sT h 65 (P a)) 67 (P b)) := by
  have hna := (hw a).1
  have hnb := (hw b).1
  refine jC_of jm_Main_alike (L := [some (.ref 0), some (.int (nI a)), some (.int (nI b)), some (.int (nI 0))]) (Nat.le_of_ble_eq_true rfl) rfl trivial ?_
  generalize hres : (((some (.int (jbo (spr (P a) (P b) (P b).1 && spr (P b) (P a) (P a).1)))), sT (sT h 65 (P a)) 67 (P b)) : Option Value × jH) = res
  refine j_aload_n d_Main_alike_0 rfl ?_
  refine j_iload_n d_Main_alike_1 rfl ?_
  refine j_callVs (As := [.int (nI a)]) (st := []) (x_noTable hw hP) d_Main_alike_2 (by decide) jm_Main_noTable jk_Main_103 ji_Main_noTable js_Main_noTable rfl (by decide) rfl rfl (Nat.le_of_ble_eq_true rfl) rfl ?_
  refine j_if_neB_f (tgt := 25) d_Main_alike_5 (by decide) (ho_n ha h0a) ?_
  refine j_aload_n d_Main_alike_8 rfl ?_
  refine j_iload_n d_Main_alike_9 rfl ?_
  refine j_callVs (As := [.int (nI b)]) (st := []) (x_noTable hw hP) d_Main_alike_10 (by decide) jm_Main_noTable jk_Main_103 ji_Main_noTable js_Main_noTable rfl (by decide) rfl rfl (Nat.le_of_ble_eq_true rfl) rfl ?_
  refine j_if_neB_f (tgt := 25) d_Main_alike_13 (by decide) (ho_n hb h0b) ?_
  refine j_iload_n d_Main_alike_16 rfl ?_
  refine j_iconst (v := nI 0) d_Main_alike_17 rfl ?_
  refine j_iconst (v := nI 1) d_Main_alike_18 rfl ?_
  refine j_callSs (As := [.int (nI 0), .int (nI 0), .int (nI 1)]) (st := []) x_outOf d_Main_alike_19 (by decide) jm_Main_outOf jk_Main_69 js_Main_outOf rfl (Nat.le_of_ble_eq_true rfl) rfl ?_
  refine j_if_eqB_t (tgt := 27) d_Main_alike_22 (by decide) (oo_n (by omega) (by omega) (by omega)) ?_
  refine j_aload_n d_Main_alike_27 rfl ?_
  refine j_getr (b := 1) d_Main_alike_28 jf_Main_11 rfl rfl rfl (by decide) ?_
  refine j_iload_n d_Main_alike_31 rfl ?_
  refine j_aaldN (b := 115 + 2 * a) d_Main_alike_32 rfl (by decide) (by omega) (by decide) (jrf_slot _ (by omega)) (by omega) ?_
  refine j_getv (v := nI ((P a).1)) d_Main_alike_33 jf_Main_106 (isT_slot a (by omega)).1 rfl (hP a (by omega)).1 ?_
  refine j_aload_n d_Main_alike_36 rfl ?_
  refine j_getr (b := 1) d_Main_alike_37 jf_Main_11 rfl rfl rfl (by decide) ?_
  refine j_iload_n d_Main_alike_40 rfl ?_
  refine j_aaldN (b := 115 + 2 * b) d_Main_alike_41 rfl (by decide) (by omega) (by decide) (jrf_slot _ (by omega)) (by omega) ?_
  refine j_getv (v := nI ((P b).1)) d_Main_alike_42 jf_Main_106 (isT_slot b (by omega)).1 rfl (hP b (by omega)).1 ?_
  refine j_icmp_eqN_t (tgt := 51) d_Main_alike_45 (by decide) (by omega) (by omega) he ?_
  refine j_aload_n d_Main_alike_51 rfl ?_
  refine j_getr (b := 64) d_Main_alike_52 jf_Main_45 rfl rfl rfl (by decide) ?_
  refine j_aload_n d_Main_alike_55 rfl ?_
  refine j_getr (b := 1) d_Main_alike_56 jf_Main_11 rfl rfl rfl (by decide) ?_
  refine j_iload_n d_Main_alike_59 rfl ?_
  refine j_aaldN (b := 115 + 2 * a) d_Main_alike_60 rfl (by decide) (by omega) (by decide) (jrf_slot _ (by omega)) (by omega) ?_
  refine j_aload_n d_Main_alike_61 rfl ?_
  refine j_getr (b := 1) d_Main_alike_62 jf_Main_11 rfl rfl rfl (by decide) ?_
  refine j_iload_n d_Main_alike_65 rfl ?_
  refine j_aaldN (b := 115 + 2 * b) d_Main_alike_66 rfl (by decide) (by omega) (by decide) (jrf_slot _ (by omega)) (by omega) ?_
  refine j_iload_n d_Main_alike_67 rfl ?_
  refine j_iconst (v := nI 1) d_Main_alike_68 rfl ?_
  refine j_icmp_neN_t (tgt := 76) d_Main_alike_69 (by decide) (by omega) (by omega) (by decide) ?_
  refine j_iconst (v := nI 0) d_Main_alike_76 rfl ?_
  refine j_callVs (As := [.ref (115 + 2 * a), .ref (115 + 2 * b), .int (nI 0)]) (st := []) (x_areAlike0 (isT_slot a ha) (isT_slot b hb) (hP a ha) (hw a) (hP b hb) (hw b) (by omega) (by omega)) d_Main_alike_77 (by decide) jm_Spaces_areAlike jk_Main_252 ji_Spaces_areAlike js_Spaces_areAlike rfl (by decide) rfl rfl (Nat.le_of_ble_eq_true rfl) rfl ?_
  refine j_if_eqB (tgt := 87) d_Main_alike_80 (by decide) (fun c => ?_) (fun c => ?_)
  · refine j_iconst (v := nI 0) d_Main_alike_87 rfl ?_
    subst hres
    exact j_reti d_Main_alike_88 (by rw [c]; rfl) rfl
  · refine j_iconst (v := nI 1) d_Main_alike_83 rfl ?_
    refine j_goto (tgt := 88) d_Main_alike_84 (by decide) ?_
    subst hres
    exact j_reti d_Main_alike_88 (by rw [c]; rfl) rfl
theorem x_alike1 {n : jN} {h : jH} {P : jP} (hw : ∀ q, tw (P q)) (hP : slo h P) {a b : Nat} (ha : a < 6) (h0a : 0 < (P a).1) (hb : b < 6) (h0b : 0 < (P b).1) (he : (P a).1 = (P b).1) : jC n 4 jy_Main_alike jc_Main_alike 4 (some .int) [.ref 0, .int (nI a), .int (nI b), .int (nI 1)] h (some (.int (jbo (spr (ttr (P a)) (ttr (P b)) (ttr (P b)).1 && spr (ttr (P b)) (ttr (P a)) (ttr (P a)).1)))) (sT (sT (sT (sT h 65 (P a)) 67 (P b)) 65 (ttr (P a))) 67 (ttr (P b))) := by
  have hna := (hw a).1
  have hnb := (hw b).1
  refine jC_of jm_Main_alike (L := [some (.ref 0), some (.int (nI a)), some (.int (nI b)), some (.int (nI 1))]) (Nat.le_of_ble_eq_true rfl) rfl trivial ?_
  generalize hres : (((some (.int (jbo (spr (ttr (P a)) (ttr (P b)) (ttr (P b)).1 && spr (ttr (P b)) (ttr (P a)) (ttr (P a)).1)))), sT (sT (sT (sT h 65 (P a)) 67 (P b)) 65 (ttr (P a))) 67 (ttr (P b))) : Option Value × jH) = res
  refine j_aload_n d_Main_alike_0 rfl ?_
  refine j_iload_n d_Main_alike_1 rfl ?_
  refine j_callVs (As := [.int (nI a)]) (st := []) (x_noTable hw hP) d_Main_alike_2 (by decide) jm_Main_noTable jk_Main_103 ji_Main_noTable js_Main_noTable rfl (by decide) rfl rfl (Nat.le_of_ble_eq_true rfl) rfl ?_
  refine j_if_neB_f (tgt := 25) d_Main_alike_5 (by decide) (ho_n ha h0a) ?_
  refine j_aload_n d_Main_alike_8 rfl ?_
  refine j_iload_n d_Main_alike_9 rfl ?_
  refine j_callVs (As := [.int (nI b)]) (st := []) (x_noTable hw hP) d_Main_alike_10 (by decide) jm_Main_noTable jk_Main_103 ji_Main_noTable js_Main_noTable rfl (by decide) rfl rfl (Nat.le_of_ble_eq_true rfl) rfl ?_
  refine j_if_neB_f (tgt := 25) d_Main_alike_13 (by decide) (ho_n hb h0b) ?_
  refine j_iload_n d_Main_alike_16 rfl ?_
  refine j_iconst (v := nI 0) d_Main_alike_17 rfl ?_
  refine j_iconst (v := nI 1) d_Main_alike_18 rfl ?_
  refine j_callSs (As := [.int (nI 1), .int (nI 0), .int (nI 1)]) (st := []) x_outOf d_Main_alike_19 (by decide) jm_Main_outOf jk_Main_69 js_Main_outOf rfl (Nat.le_of_ble_eq_true rfl) rfl ?_
  refine j_if_eqB_t (tgt := 27) d_Main_alike_22 (by decide) (oo_n (by omega) (by omega) (by omega)) ?_
  refine j_aload_n d_Main_alike_27 rfl ?_
  refine j_getr (b := 1) d_Main_alike_28 jf_Main_11 rfl rfl rfl (by decide) ?_
  refine j_iload_n d_Main_alike_31 rfl ?_
  refine j_aaldN (b := 115 + 2 * a) d_Main_alike_32 rfl (by decide) (by omega) (by decide) (jrf_slot _ (by omega)) (by omega) ?_
  refine j_getv (v := nI ((P a).1)) d_Main_alike_33 jf_Main_106 (isT_slot a (by omega)).1 rfl (hP a (by omega)).1 ?_
  refine j_aload_n d_Main_alike_36 rfl ?_
  refine j_getr (b := 1) d_Main_alike_37 jf_Main_11 rfl rfl rfl (by decide) ?_
  refine j_iload_n d_Main_alike_40 rfl ?_
  refine j_aaldN (b := 115 + 2 * b) d_Main_alike_41 rfl (by decide) (by omega) (by decide) (jrf_slot _ (by omega)) (by omega) ?_
  refine j_getv (v := nI ((P b).1)) d_Main_alike_42 jf_Main_106 (isT_slot b (by omega)).1 rfl (hP b (by omega)).1 ?_
  refine j_icmp_eqN_t (tgt := 51) d_Main_alike_45 (by decide) (by omega) (by omega) he ?_
  refine j_aload_n d_Main_alike_51 rfl ?_
  refine j_getr (b := 64) d_Main_alike_52 jf_Main_45 rfl rfl rfl (by decide) ?_
  refine j_aload_n d_Main_alike_55 rfl ?_
  refine j_getr (b := 1) d_Main_alike_56 jf_Main_11 rfl rfl rfl (by decide) ?_
  refine j_iload_n d_Main_alike_59 rfl ?_
  refine j_aaldN (b := 115 + 2 * a) d_Main_alike_60 rfl (by decide) (by omega) (by decide) (jrf_slot _ (by omega)) (by omega) ?_
  refine j_aload_n d_Main_alike_61 rfl ?_
  refine j_getr (b := 1) d_Main_alike_62 jf_Main_11 rfl rfl rfl (by decide) ?_
  refine j_iload_n d_Main_alike_65 rfl ?_
  refine j_aaldN (b := 115 + 2 * b) d_Main_alike_66 rfl (by decide) (by omega) (by decide) (jrf_slot _ (by omega)) (by omega) ?_
  refine j_iload_n d_Main_alike_67 rfl ?_
  refine j_iconst (v := nI 1) d_Main_alike_68 rfl ?_
  refine j_icmp_neN_f (tgt := 76) d_Main_alike_69 (by decide) (by omega) (by omega) (by decide) ?_
  refine j_iconst (v := nI 1) d_Main_alike_72 rfl ?_
  refine j_goto (tgt := 77) d_Main_alike_73 (by decide) ?_
  refine j_callVs (As := [.ref (115 + 2 * a), .ref (115 + 2 * b), .int (nI 1)]) (st := []) (x_areAlike1 (isT_slot a ha) (isT_slot b hb) (hP a ha) (hw a) (hP b hb) (hw b) (by omega) (by omega)) d_Main_alike_77 (by decide) jm_Spaces_areAlike jk_Main_252 ji_Spaces_areAlike js_Spaces_areAlike rfl (by decide) rfl rfl (Nat.le_of_ble_eq_true rfl) rfl ?_
  refine j_if_eqB (tgt := 87) d_Main_alike_80 (by decide) (fun c => ?_) (fun c => ?_)
  · refine j_iconst (v := nI 0) d_Main_alike_87 rfl ?_
    subst hres
    exact j_reti d_Main_alike_88 (by rw [c]; rfl) rfl
  · refine j_iconst (v := nI 1) d_Main_alike_83 rfl ?_
    refine j_goto (tgt := 88) d_Main_alike_84 (by decide) ?_
    subst hres
    exact j_reti d_Main_alike_88 (by rw [c]; rfl) rfl
theorem x_roots_bad {n : jN} {h : jH} {P : jP} (hw : ∀ q, tw (P q)) (hP : slo h P) {s d : Int32} (hb : jokRt P s d = false) : jC n 20 jy_Main_roots jc_Main_roots 4 (some .int) [.ref 0, .int s, .int d] h (some (.int (-1))) h := by
  refine jC_of jm_Main_roots (L := [some (.ref 0), some (.int s), some (.int d), none]) (Nat.le_of_ble_eq_true rfl) rfl trivial ?_
  generalize hres : (((some (.int (-1))), h) : Option Value × jH) = res
  refine j_aload_n d_Main_roots_0 rfl ?_
  refine j_iload_n d_Main_roots_1 rfl ?_
  refine j_callVs (As := [.int s]) (st := []) (x_noTable hw hP) d_Main_roots_2 (by decide) jm_Main_noTable jk_Main_103 ji_Main_noTable js_Main_noTable rfl (by decide) rfl rfl (Nat.le_of_ble_eq_true rfl) rfl ?_
  refine j_if_neB (tgt := 18) d_Main_roots_5 (by decide) (fun c1 => ?_) (fun c1 => ?_)
  · refine j_iconst (v := -1) d_Main_roots_18 rfl ?_
    subst hres
    exact j_reti d_Main_roots_19 rfl rfl
  · refine j_iload_n d_Main_roots_8 rfl ?_
    refine j_iconst (v := nI 2) d_Main_roots_9 rfl ?_
    refine j_bipush (v := nI 8) d_Main_roots_10 (by decide) ?_
    refine j_callSs (As := [.int d, .int (nI 2), .int (nI 8)]) (st := []) x_outOf d_Main_roots_12 (by decide) jm_Main_outOf jk_Main_69 js_Main_outOf rfl (Nat.le_of_ble_eq_true rfl) rfl ?_
    refine j_if_eqB (tgt := 20) d_Main_roots_15 (by decide) (fun c2 => ?_) (fun c2 => ?_)
    · rw [oo_jin (by omega) (by omega)] at c2
      exact absurd hb (by simp_all [jokRt])
    · refine j_iconst (v := -1) d_Main_roots_18 rfl ?_
      subst hres
      exact j_reti d_Main_roots_19 rfl rfl
theorem x_root_bad {n : jN} {h : jH} {P : jP} (hw : ∀ q, tw (P q)) (hP : slo h P) {s d t : Int32} (hb : jokRt2 P s d t = false) : jC n 20 jy_Main_root jc_Main_root 6 (some .int) [.ref 0, .int s, .int d, .int t] h (some (.int (-1))) h := by
  refine jC_of jm_Main_root (L := [some (.ref 0), some (.int s), some (.int d), some (.int t), none, none]) (Nat.le_of_ble_eq_true rfl) rfl trivial ?_
  generalize hres : (((some (.int (-1))), h) : Option Value × jH) = res
  refine j_aload_n d_Main_root_0 rfl ?_
  refine j_iload_n d_Main_root_1 rfl ?_
  refine j_callVs (As := [.int s]) (st := []) (x_noTable hw hP) d_Main_root_2 (by decide) jm_Main_noTable jk_Main_103 ji_Main_noTable js_Main_noTable rfl (by decide) rfl rfl (Nat.le_of_ble_eq_true rfl) rfl ?_
  refine j_if_neB (tgt := 25) d_Main_root_5 (by decide) (fun c1 => ?_) (fun c1 => ?_)
  · refine j_iconst (v := -1) d_Main_root_25 rfl ?_
    subst hres
    exact j_reti d_Main_root_26 rfl rfl
  · refine j_iload_n d_Main_root_8 rfl ?_
    refine j_iconst (v := nI 2) d_Main_root_9 rfl ?_
    refine j_bipush (v := nI 8) d_Main_root_10 (by decide) ?_
    refine j_callSs (As := [.int d, .int (nI 2), .int (nI 8)]) (st := []) x_outOf d_Main_root_12 (by decide) jm_Main_outOf jk_Main_69 js_Main_outOf rfl (Nat.le_of_ble_eq_true rfl) rfl ?_
    refine j_if_neB (tgt := 25) d_Main_root_15 (by decide) (fun c2 => ?_) (fun c2 => ?_)
    · refine j_iconst (v := -1) d_Main_root_25 rfl ?_
      subst hres
      exact j_reti d_Main_root_26 rfl rfl
    · rw [oo_jin (by omega) (by omega)] at c2
      refine j_iload_n d_Main_root_18 rfl ?_
      refine j_callSs (As := [.int t]) (st := []) x_noSlot d_Main_root_19 (by decide) jm_Main_noSlot jk_Main_62 js_Main_noSlot rfl (Nat.le_of_ble_eq_true rfl) rfl ?_
      refine j_if_eqB (tgt := 27) d_Main_root_22 (by decide) (fun c3 => ?_) (fun c3 => ?_)
      · exact absurd hb (by simp_all [jokRt2])
      · refine j_iconst (v := -1) d_Main_root_25 rfl ?_
        subst hres
        exact j_reti d_Main_root_26 rfl rfl
theorem tno_lt {T : jT} (hT : tw T) (h4 : T.1 ≤ 4) (k : Nat) (hk : k ≤ T.1) : tno T k < 2 ^ 31 := jor_lt (m := 31) fun i hi => by
  have h1 : T.1 * i ≤ 4 * 3 := Nat.mul_le_mul h4 (by omega)
  have h2 : T.2 i * 2 ^ (T.1 * i) ≤ 4096 * 2 ^ 12 := Nat.mul_le_mul (Nat.le_of_lt (hT.2.1 i)) (Nat.pow_le_pow_right (by omega) h1)
  exact Nat.lt_of_le_of_lt h2 (by decide)
theorem x_roots_large {n : jN} {h : jH} {P : jP} (hw : ∀ q, tw (P q)) (hP : slo h P) {s d : Nat} (hs : s < 6) (h0 : 0 < (P s).1) (hd : 2 ≤ d) (hd8 : d ≤ 8) (hm : 4 < (P s).1) : jC n 20 jy_Main_roots jc_Main_roots 4 (some .int) [.ref 0, .int (nI s), .int (nI d)] h (some (.int (-5))) h := by
  refine jC_of jm_Main_roots (L := [some (.ref 0), some (.int (nI s)), some (.int (nI d)), none]) (Nat.le_of_ble_eq_true rfl) rfl trivial ?_
  generalize hres : (((some (.int (-5))), h) : Option Value × jH) = res
  have hn12 := (hw s).1
  refine j_aload_n d_Main_roots_0 rfl ?_
  refine j_iload_n d_Main_roots_1 rfl ?_
  refine j_callVs (As := [.int (nI s)]) (st := []) (x_noTable hw hP) d_Main_roots_2 (by decide) jm_Main_noTable jk_Main_103 ji_Main_noTable js_Main_noTable rfl (by decide) rfl rfl (Nat.le_of_ble_eq_true rfl) rfl ?_
  refine j_if_neB_f (tgt := 18) d_Main_roots_5 (by decide) (ho_n hs h0) ?_
  refine j_iload_n d_Main_roots_8 rfl ?_
  refine j_iconst (v := nI 2) d_Main_roots_9 rfl ?_
  refine j_bipush (v := nI 8) d_Main_roots_10 (by decide) ?_
  refine j_callSs (As := [.int (nI d), .int (nI 2), .int (nI 8)]) (st := []) x_outOf d_Main_roots_12 (by decide) jm_Main_outOf jk_Main_69 js_Main_outOf rfl (Nat.le_of_ble_eq_true rfl) rfl ?_
  refine j_if_eqB_t (tgt := 20) d_Main_roots_15 (by decide) (oo_n (by omega) (by omega) (by omega)) ?_
  refine j_aload_n d_Main_roots_20 rfl ?_
  refine j_getr (b := 1) d_Main_roots_21 jf_Main_11 rfl rfl rfl (by decide) ?_
  refine j_iload_n d_Main_roots_24 rfl ?_
  refine j_aaldN (b := 115 + 2 * s) d_Main_roots_25 rfl (by decide) (by omega) (by decide) (jrf_slot _ (by omega)) (by omega) ?_
  refine j_astore_n (L' := [some (.ref 0), some (.int (nI s)), some (.int (nI d)), some (.ref (115 + 2 * s))]) d_Main_roots_26 (by decide) rfl rfl ?_
  refine j_aload_n d_Main_roots_27 rfl ?_
  refine j_getv (v := nI ((P s).1)) d_Main_roots_28 jf_Main_106 (isT_slot s (by omega)).1 rfl (hP s (by omega)).1 ?_
  refine j_iconst (v := nI 4) d_Main_roots_31 rfl ?_
  refine j_icmp_leN_f (tgt := 38) d_Main_roots_32 (by decide) (by omega) (by omega) (by omega) ?_
  refine j_bipush (v := -5) d_Main_roots_35 (by decide) ?_
  subst hres
  exact j_reti d_Main_roots_37 rfl rfl
theorem x_roots {n : jN} {h : jH} {P : jP} (hw : ∀ q, tw (P q)) (hP : slo h P) {s d : Nat} (hs : s < 6) (h0 : 0 < (P s).1) (hd : 2 ≤ d) (hd8 : d ≤ 8) (hm4 : (P s).1 ≤ 4) : jC n 20 jy_Main_roots jc_Main_roots 4 (some .int) [.ref 0, .int (nI s), .int (nI d)] h (some (.int (nI (cbl (P s).1 d (tno (P s) (P s).1) ((P s).1 * (P s).1) 0)))) h := by
  refine jC_of jm_Main_roots (L := [some (.ref 0), some (.int (nI s)), some (.int (nI d)), none]) (Nat.le_of_ble_eq_true rfl) rfl trivial ?_
  generalize hres : (((some (.int (nI (cbl (P s).1 d (tno (P s) (P s).1) ((P s).1 * (P s).1) 0)))), h) : Option Value × jH) = res
  have hn12 := (hw s).1
  refine j_aload_n d_Main_roots_0 rfl ?_
  refine j_iload_n d_Main_roots_1 rfl ?_
  refine j_callVs (As := [.int (nI s)]) (st := []) (x_noTable hw hP) d_Main_roots_2 (by decide) jm_Main_noTable jk_Main_103 ji_Main_noTable js_Main_noTable rfl (by decide) rfl rfl (Nat.le_of_ble_eq_true rfl) rfl ?_
  refine j_if_neB_f (tgt := 18) d_Main_roots_5 (by decide) (ho_n hs h0) ?_
  refine j_iload_n d_Main_roots_8 rfl ?_
  refine j_iconst (v := nI 2) d_Main_roots_9 rfl ?_
  refine j_bipush (v := nI 8) d_Main_roots_10 (by decide) ?_
  refine j_callSs (As := [.int (nI d), .int (nI 2), .int (nI 8)]) (st := []) x_outOf d_Main_roots_12 (by decide) jm_Main_outOf jk_Main_69 js_Main_outOf rfl (Nat.le_of_ble_eq_true rfl) rfl ?_
  refine j_if_eqB_t (tgt := 20) d_Main_roots_15 (by decide) (oo_n (by omega) (by omega) (by omega)) ?_
  refine j_aload_n d_Main_roots_20 rfl ?_
  refine j_getr (b := 1) d_Main_roots_21 jf_Main_11 rfl rfl rfl (by decide) ?_
  refine j_iload_n d_Main_roots_24 rfl ?_
  refine j_aaldN (b := 115 + 2 * s) d_Main_roots_25 rfl (by decide) (by omega) (by decide) (jrf_slot _ (by omega)) (by omega) ?_
  refine j_astore_n (L' := [some (.ref 0), some (.int (nI s)), some (.int (nI d)), some (.ref (115 + 2 * s))]) d_Main_roots_26 (by decide) rfl rfl ?_
  refine j_aload_n d_Main_roots_27 rfl ?_
  refine j_getv (v := nI ((P s).1)) d_Main_roots_28 jf_Main_106 (isT_slot s (by omega)).1 rfl (hP s (by omega)).1 ?_
  refine j_iconst (v := nI 4) d_Main_roots_31 rfl ?_
  have hno := tno_lt (hw s) hm4 (P s).1 (Nat.le_refl _)
  refine j_icmp_leN_t (tgt := 38) d_Main_roots_32 (by decide) (by omega) (by omega) (by omega) ?_
  refine j_aload_n d_Main_roots_38 rfl ?_
  refine j_getv (v := nI ((P s).1)) d_Main_roots_39 jf_Main_106 (isT_slot s (by omega)).1 rfl (hP s (by omega)).1 ?_
  refine j_iload_n d_Main_roots_42 rfl ?_
  refine j_aload_n d_Main_roots_43 rfl ?_
  refine j_callVs (As := []) (st := [.int (nI d), .int (nI ((P s).1))]) (x_number (isT_slot s hs) (hP s hs) (hw s) hm4) d_Main_roots_44 (by decide) jm_Table_number jk_Main_256 ji_Table_number js_Table_number (isT_slot s (by omega)).1 (by decide) rfl rfl (Nat.le_of_ble_eq_true rfl) rfl ?_
  refine j_callSs (As := [.int (nI ((P s).1)), .int (nI d), .int (nI (tno (P s) (P s).1))]) (st := []) (x_countOf hm4 hd hd8 hno) d_Main_roots_47 (by decide) jm_Roots_countOf jk_Main_258 js_Roots_countOf rfl (Nat.le_of_ble_eq_true rfl) rfl ?_
  subst hres
  exact j_reti d_Main_roots_50 rfl rfl
theorem x_root_large {n : jN} {h : jH} {P : jP} (hw : ∀ q, tw (P q)) (hP : slo h P) {s d : Nat} (hs : s < 6) (h0 : 0 < (P s).1) (hd : 2 ≤ d) (hd8 : d ≤ 8) {t : Nat} (ht : t < 6) (hm : 4 < (P s).1) : jC n 20 jy_Main_root jc_Main_root 6 (some .int) [.ref 0, .int (nI s), .int (nI d), .int (nI t)] h (some (.int (-5))) h := by
  refine jC_of jm_Main_root (L := [some (.ref 0), some (.int (nI s)), some (.int (nI d)), some (.int (nI t)), none, none]) (Nat.le_of_ble_eq_true rfl) rfl trivial ?_
  generalize hres : (((some (.int (-5))), h) : Option Value × jH) = res
  have hn12 := (hw s).1
  refine j_aload_n d_Main_root_0 rfl ?_
  refine j_iload_n d_Main_root_1 rfl ?_
  refine j_callVs (As := [.int (nI s)]) (st := []) (x_noTable hw hP) d_Main_root_2 (by decide) jm_Main_noTable jk_Main_103 ji_Main_noTable js_Main_noTable rfl (by decide) rfl rfl (Nat.le_of_ble_eq_true rfl) rfl ?_
  refine j_if_neB_f (tgt := 25) d_Main_root_5 (by decide) (ho_n hs h0) ?_
  refine j_iload_n d_Main_root_8 rfl ?_
  refine j_iconst (v := nI 2) d_Main_root_9 rfl ?_
  refine j_bipush (v := nI 8) d_Main_root_10 (by decide) ?_
  refine j_callSs (As := [.int (nI d), .int (nI 2), .int (nI 8)]) (st := []) x_outOf d_Main_root_12 (by decide) jm_Main_outOf jk_Main_69 js_Main_outOf rfl (Nat.le_of_ble_eq_true rfl) rfl ?_
  refine j_if_neB_f (tgt := 25) d_Main_root_15 (by decide) (oo_n (by omega) (by omega) (by omega)) ?_
  refine j_iload_n d_Main_root_18 rfl ?_
  refine j_callSs (As := [.int (nI t)]) (st := []) x_noSlot d_Main_root_19 (by decide) jm_Main_noSlot jk_Main_62 js_Main_noSlot rfl (Nat.le_of_ble_eq_true rfl) rfl ?_
  refine j_if_eqB_t (tgt := 27) d_Main_root_22 (by decide) (sl_n ht) ?_
  refine j_aload_n d_Main_root_27 rfl ?_
  refine j_getr (b := 1) d_Main_root_28 jf_Main_11 rfl rfl rfl (by decide) ?_
  refine j_iload_n d_Main_root_31 rfl ?_
  refine j_aaldN (b := 115 + 2 * s) d_Main_root_32 rfl (by decide) (by omega) (by decide) (jrf_slot _ (by omega)) (by omega) ?_
  refine j_astore (L' := [some (.ref 0), some (.int (nI s)), some (.int (nI d)), some (.int (nI t)), some (.ref (115 + 2 * s)), none]) d_Main_root_33 (by decide) rfl rfl ?_
  refine j_aload d_Main_root_35 rfl ?_
  refine j_getv (v := nI ((P s).1)) d_Main_root_37 jf_Main_106 (isT_slot s (by omega)).1 rfl (hP s (by omega)).1 ?_
  refine j_iconst (v := nI 4) d_Main_root_40 rfl ?_
  refine j_icmp_leN_f (tgt := 47) d_Main_root_41 (by decide) (by omega) (by omega) (by omega) ?_
  refine j_bipush (v := -5) d_Main_root_44 (by decide) ?_
  subst hres
  exact j_reti d_Main_root_46 rfl rfl
theorem x_root_none {n : jN} {h : jH} {P : jP} (hw : ∀ q, tw (P q)) (hP : slo h P) {s d : Nat} (hs : s < 6) (h0 : 0 < (P s).1) (hd : 2 ≤ d) (hd8 : d ≤ 8) {t : Nat} (ht : t < 6) (hm4 : (P s).1 ≤ 4) (hlb : lbl (P s).1 d (tno (P s) (P s).1) ((P s).1 * (P s).1) 0 = none) : jC n 20 jy_Main_root jc_Main_root 6 (some .int) [.ref 0, .int (nI s), .int (nI d), .int (nI t)] h (some (.int (-2))) h := by
  refine jC_of jm_Main_root (L := [some (.ref 0), some (.int (nI s)), some (.int (nI d)), some (.int (nI t)), none, none]) (Nat.le_of_ble_eq_true rfl) rfl trivial ?_
  generalize hres : (((some (.int (-2))), h) : Option Value × jH) = res
  have hn12 := (hw s).1
  refine j_aload_n d_Main_root_0 rfl ?_
  refine j_iload_n d_Main_root_1 rfl ?_
  refine j_callVs (As := [.int (nI s)]) (st := []) (x_noTable hw hP) d_Main_root_2 (by decide) jm_Main_noTable jk_Main_103 ji_Main_noTable js_Main_noTable rfl (by decide) rfl rfl (Nat.le_of_ble_eq_true rfl) rfl ?_
  refine j_if_neB_f (tgt := 25) d_Main_root_5 (by decide) (ho_n hs h0) ?_
  refine j_iload_n d_Main_root_8 rfl ?_
  refine j_iconst (v := nI 2) d_Main_root_9 rfl ?_
  refine j_bipush (v := nI 8) d_Main_root_10 (by decide) ?_
  refine j_callSs (As := [.int (nI d), .int (nI 2), .int (nI 8)]) (st := []) x_outOf d_Main_root_12 (by decide) jm_Main_outOf jk_Main_69 js_Main_outOf rfl (Nat.le_of_ble_eq_true rfl) rfl ?_
  refine j_if_neB_f (tgt := 25) d_Main_root_15 (by decide) (oo_n (by omega) (by omega) (by omega)) ?_
  refine j_iload_n d_Main_root_18 rfl ?_
  refine j_callSs (As := [.int (nI t)]) (st := []) x_noSlot d_Main_root_19 (by decide) jm_Main_noSlot jk_Main_62 js_Main_noSlot rfl (Nat.le_of_ble_eq_true rfl) rfl ?_
  refine j_if_eqB_t (tgt := 27) d_Main_root_22 (by decide) (sl_n ht) ?_
  refine j_aload_n d_Main_root_27 rfl ?_
  refine j_getr (b := 1) d_Main_root_28 jf_Main_11 rfl rfl rfl (by decide) ?_
  refine j_iload_n d_Main_root_31 rfl ?_
  refine j_aaldN (b := 115 + 2 * s) d_Main_root_32 rfl (by decide) (by omega) (by decide) (jrf_slot _ (by omega)) (by omega) ?_
  refine j_astore (L' := [some (.ref 0), some (.int (nI s)), some (.int (nI d)), some (.int (nI t)), some (.ref (115 + 2 * s)), none]) d_Main_root_33 (by decide) rfl rfl ?_
  refine j_aload d_Main_root_35 rfl ?_
  refine j_getv (v := nI ((P s).1)) d_Main_root_37 jf_Main_106 (isT_slot s (by omega)).1 rfl (hP s (by omega)).1 ?_
  refine j_iconst (v := nI 4) d_Main_root_40 rfl ?_
  have hno := tno_lt (hw s) hm4 (P s).1 (Nat.le_refl _)
  refine j_icmp_leN_t (tgt := 47) d_Main_root_41 (by decide) (by omega) (by omega) (by omega) ?_
  refine j_aload d_Main_root_47 rfl ?_
  refine j_getv (v := nI ((P s).1)) d_Main_root_49 jf_Main_106 (isT_slot s (by omega)).1 rfl (hP s (by omega)).1 ?_
  refine j_iload_n d_Main_root_52 rfl ?_
  refine j_aload d_Main_root_53 rfl ?_
  refine j_callVs (As := []) (st := [.int (nI d), .int (nI ((P s).1))]) (x_number (isT_slot s hs) (hP s hs) (hw s) hm4) d_Main_root_55 (by decide) jm_Table_number jk_Main_256 ji_Table_number js_Table_number (isT_slot s (by omega)).1 (by decide) rfl rfl (Nat.le_of_ble_eq_true rfl) rfl ?_
  refine j_callSs (As := [.int (nI ((P s).1)), .int (nI d), .int (nI (tno (P s) (P s).1))]) (st := []) (hlb ▸ x_leastOf hm4 hd hd8 hno : jC n 19 jy_Roots_leastOf jc_Roots_leastOf 3 (some .int) [.int (nI (P s).1), .int (nI d), .int (nI (tno (P s) (P s).1))] h (some (.int (lbr none))) h) d_Main_root_58 (by decide) jm_Roots_leastOf jk_Main_264 js_Roots_leastOf rfl (Nat.le_of_ble_eq_true rfl) rfl ?_
  refine j_istore (L' := [some (.ref 0), some (.int (nI s)), some (.int (nI d)), some (.int (nI t)), some (.ref (115 + 2 * s)), some (.int (-1))]) d_Main_root_61 (by decide) rfl rfl ?_
  refine j_iload d_Main_root_63 rfl ?_
  refine j_if_ge_f (tgt := 71) d_Main_root_65 (by decide) (by decide) ?_
  refine j_bipush (v := -2) d_Main_root_68 (by decide) ?_
  subst hres
  exact j_reti d_Main_root_70 rfl rfl
theorem x_root_some {n : jN} {h : jH} {P : jP} (hw : ∀ q, tw (P q)) (hP : slo h P) {nx sz : Nat} (hnx : h 3 1 = nI nx) (hn : nx < 20) (hsz : h 3 0 = nI sz) (hs1 : sz ≤ 20) {s d : Nat} (hs : s < 6) (h0 : 0 < (P s).1) (hd : 2 ≤ d) (hd8 : d ≤ 8) {t : Nat} (ht : t < 6) (hm4 : (P s).1 ≤ 4) {x0 : Nat} (hlb : lbl (P s).1 d (tno (P s) (P s).1) ((P s).1 * (P s).1) 0 = some x0) : jC n 20 jy_Main_root jc_Main_root 6 (some .int) [.ref 0, .int (nI s), .int (nI d), .int (nI t)] h (some (.int (nI x0))) (holdH (sT h 113 (tnum (P s).1 x0)) t nx sz (P t) (tnum (P s).1 x0)) := by
  refine jC_of jm_Main_root (L := [some (.ref 0), some (.int (nI s)), some (.int (nI d)), some (.int (nI t)), none, none]) (Nat.le_of_ble_eq_true rfl) rfl trivial ?_
  generalize hres : (((some (.int (nI x0))), holdH (sT h 113 (tnum (P s).1 x0)) t nx sz (P t) (tnum (P s).1 x0)) : Option Value × jH) = res
  have hn12 := (hw s).1
  refine j_aload_n d_Main_root_0 rfl ?_
  refine j_iload_n d_Main_root_1 rfl ?_
  refine j_callVs (As := [.int (nI s)]) (st := []) (x_noTable hw hP) d_Main_root_2 (by decide) jm_Main_noTable jk_Main_103 ji_Main_noTable js_Main_noTable rfl (by decide) rfl rfl (Nat.le_of_ble_eq_true rfl) rfl ?_
  refine j_if_neB_f (tgt := 25) d_Main_root_5 (by decide) (ho_n hs h0) ?_
  refine j_iload_n d_Main_root_8 rfl ?_
  refine j_iconst (v := nI 2) d_Main_root_9 rfl ?_
  refine j_bipush (v := nI 8) d_Main_root_10 (by decide) ?_
  refine j_callSs (As := [.int (nI d), .int (nI 2), .int (nI 8)]) (st := []) x_outOf d_Main_root_12 (by decide) jm_Main_outOf jk_Main_69 js_Main_outOf rfl (Nat.le_of_ble_eq_true rfl) rfl ?_
  refine j_if_neB_f (tgt := 25) d_Main_root_15 (by decide) (oo_n (by omega) (by omega) (by omega)) ?_
  refine j_iload_n d_Main_root_18 rfl ?_
  refine j_callSs (As := [.int (nI t)]) (st := []) x_noSlot d_Main_root_19 (by decide) jm_Main_noSlot jk_Main_62 js_Main_noSlot rfl (Nat.le_of_ble_eq_true rfl) rfl ?_
  refine j_if_eqB_t (tgt := 27) d_Main_root_22 (by decide) (sl_n ht) ?_
  refine j_aload_n d_Main_root_27 rfl ?_
  refine j_getr (b := 1) d_Main_root_28 jf_Main_11 rfl rfl rfl (by decide) ?_
  refine j_iload_n d_Main_root_31 rfl ?_
  refine j_aaldN (b := 115 + 2 * s) d_Main_root_32 rfl (by decide) (by omega) (by decide) (jrf_slot _ (by omega)) (by omega) ?_
  refine j_astore (L' := [some (.ref 0), some (.int (nI s)), some (.int (nI d)), some (.int (nI t)), some (.ref (115 + 2 * s)), none]) d_Main_root_33 (by decide) rfl rfl ?_
  refine j_aload d_Main_root_35 rfl ?_
  refine j_getv (v := nI ((P s).1)) d_Main_root_37 jf_Main_106 (isT_slot s (by omega)).1 rfl (hP s (by omega)).1 ?_
  refine j_iconst (v := nI 4) d_Main_root_40 rfl ?_
  have hno := tno_lt (hw s) hm4 (P s).1 (Nat.le_refl _)
  refine j_icmp_leN_t (tgt := 47) d_Main_root_41 (by decide) (by omega) (by omega) (by omega) ?_
  have hx16 : x0 < 65536 := lbl_lt _ 0 (by omega) (sq_le hm4) hlb
  refine j_aload d_Main_root_47 rfl ?_
  refine j_getv (v := nI ((P s).1)) d_Main_root_49 jf_Main_106 (isT_slot s (by omega)).1 rfl (hP s (by omega)).1 ?_
  refine j_iload_n d_Main_root_52 rfl ?_
  refine j_aload d_Main_root_53 rfl ?_
  refine j_callVs (As := []) (st := [.int (nI d), .int (nI ((P s).1))]) (x_number (isT_slot s hs) (hP s hs) (hw s) hm4) d_Main_root_55 (by decide) jm_Table_number jk_Main_256 ji_Table_number js_Table_number (isT_slot s (by omega)).1 (by decide) rfl rfl (Nat.le_of_ble_eq_true rfl) rfl ?_
  refine j_callSs (As := [.int (nI ((P s).1)), .int (nI d), .int (nI (tno (P s) (P s).1))]) (st := []) (hlb ▸ x_leastOf hm4 hd hd8 hno : jC n 19 jy_Roots_leastOf jc_Roots_leastOf 3 (some .int) [.int (nI (P s).1), .int (nI d), .int (nI (tno (P s) (P s).1))] h (some (.int (lbr (some x0)))) h) d_Main_root_58 (by decide) jm_Roots_leastOf jk_Main_264 js_Roots_leastOf rfl (Nat.le_of_ble_eq_true rfl) rfl ?_
  refine j_istore (L' := [some (.ref 0), some (.int (nI s)), some (.int (nI d)), some (.int (nI t)), some (.ref (115 + 2 * s)), some (.int (nI x0))]) d_Main_root_61 (by decide) rfl rfl ?_
  refine j_iload d_Main_root_63 rfl ?_
  refine j_if_geN_t (tgt := 71) d_Main_root_65 (by decide) (by omega) trivial ?_
  refine j_aload_n d_Main_root_71 rfl ?_
  refine j_getr (b := 113) d_Main_root_72 jf_Main_57 rfl rfl rfl (by decide) ?_
  refine j_aload d_Main_root_75 rfl ?_
  refine j_getv (v := nI ((P s).1)) d_Main_root_77 jf_Main_106 (isT_slot s (by omega)).1 rfl (hP s (by omega)).1 ?_
  refine j_iload d_Main_root_80 rfl ?_
  refine j_callVn (As := [.int (nI ((P s).1)), .int (nI x0)]) (st := []) (x_becomeNumbered isT_108 hm4 hx16) d_Main_root_82 (by decide) jm_Table_becomeNumbered jk_Main_267 ji_Table_becomeNumbered js_Table_becomeNumbered rfl (by decide) rfl rfl (Nat.le_of_ble_eq_true rfl) rfl ?_
  refine j_aload_n d_Main_root_85 rfl ?_
  refine j_iload_n d_Main_root_86 rfl ?_
  refine j_callVs (As := [.int (nI t)]) (st := []) (x_holdX hw hP hnx hn hsz hs1 (fun zz hz => ((sT_f (by omega) (by omega)).trans rfl)) (by omega) rep_sT (tw_num hn12)) d_Main_root_87 (by decide) jm_Main_hold jk_Main_77 ji_Main_hold js_Main_hold rfl (by decide) rfl rfl (Nat.le_of_ble_eq_true rfl) rfl ?_
  refine j_pop d_Main_root_90 rfl ?_
  refine j_iload d_Main_root_91 rfl ?_
  subst hres
  exact j_reti d_Main_root_93 rfl rfl

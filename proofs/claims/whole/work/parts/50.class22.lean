theorem x_isOwnSquare {n : jN} {h : jH} {P : jP} (hw : ∀ q, tw (P q)) (hP : slo h P) {s : Nat} (hs : s < 6) : jC n 3 jy_Main_isOwnSquare jc_Main_isOwnSquare 2 (some .boolean) [.ref 0, .ref (115 + 2 * s)] h (some (.int (jbo (tlik (tmul (P s) (P s)) (P s))))) (sT (sT h 113 (P s)) 113 (tmul (P s) (P s))) := by
  refine jC_of jm_Main_isOwnSquare (L := [some (.ref 0), some (.ref (115 + 2 * s))]) (Nat.le_of_ble_eq_true rfl) rfl (jbo01 _) ?_
  generalize hres : (((some (.int (jbo (tlik (tmul (P s) (P s)) (P s))))), sT (sT h 113 (P s)) 113 (tmul (P s) (P s))) : Option Value × jH) = res
  refine j_aload_n d_Main_isOwnSquare_0 rfl ?_
  refine j_getr (b := 113) d_Main_isOwnSquare_1 jf_Main_57 rfl rfl rfl (by decide) ?_
  refine j_aload_n d_Main_isOwnSquare_4 rfl ?_
  refine j_callVn (As := [.ref (115 + 2 * s)]) (st := []) (x_become isT_108 (isT_slot s (by omega)) (by omega) (hP s (by omega)) (hw s)) d_Main_isOwnSquare_5 (by decide) jm_Table_become jk_Main_85 ji_Table_become js_Table_become rfl (by decide) rfl rfl (Nat.le_of_ble_eq_true rfl) rfl ?_
  refine j_aload_n d_Main_isOwnSquare_8 rfl ?_
  refine j_getr (b := 113) d_Main_isOwnSquare_9 jf_Main_57 rfl rfl rfl (by decide) ?_
  refine j_aload_n d_Main_isOwnSquare_12 rfl ?_
  refine j_callVn (As := [.ref (115 + 2 * s)]) (st := []) (x_multiplyBy isT_108 (isT_slot s (by omega)) (by omega) rep_sT (hw s) (rep_o isT_108 (isT_slot s (by omega)) (by omega) (hP s (by omega))) (hw s) rfl) d_Main_isOwnSquare_13 (by decide) jm_Table_multiplyBy jk_Main_110 ji_Table_multiplyBy js_Table_multiplyBy rfl (by decide) rfl rfl (Nat.le_of_ble_eq_true rfl) rfl ?_
  refine j_aload_n d_Main_isOwnSquare_16 rfl ?_
  refine j_getr (b := 113) d_Main_isOwnSquare_17 jf_Main_57 rfl rfl rfl (by decide) ?_
  refine j_aload_n d_Main_isOwnSquare_20 rfl ?_
  refine j_callVs (As := [.ref (115 + 2 * s)]) (st := []) (x_isLike isT_108 (isT_slot s (by omega)) rep_sT (tw_mul (hw s) (hw s)) (rep_o isT_108 (isT_slot s (by omega)) (by omega) (rep_o isT_108 (isT_slot s (by omega)) (by omega) (hP s (by omega)))) (hw s)) d_Main_isOwnSquare_21 (by decide) jm_Table_isLike jk_Main_134 ji_Table_isLike js_Table_isLike rfl (by decide) rfl rfl (Nat.le_of_ble_eq_true rfl) rfl ?_
  subst hres
  exact j_reti d_Main_isOwnSquare_24 rfl rfl
theorem x_isOwnTranspose {n : jN} {h : jH} {P : jP} (hw : ∀ q, tw (P q)) (hP : slo h P) {s : Nat} (hs : s < 6) : jC n 3 jy_Main_isOwnTranspose jc_Main_isOwnTranspose 2 (some .boolean) [.ref 0, .ref (115 + 2 * s)] h (some (.int (jbo (tlik (ttr (P s)) (P s))))) (sT h 113 (ttr (P s))) := by
  refine jC_of jm_Main_isOwnTranspose (L := [some (.ref 0), some (.ref (115 + 2 * s))]) (Nat.le_of_ble_eq_true rfl) rfl (jbo01 _) ?_
  generalize hres : (((some (.int (jbo (tlik (ttr (P s)) (P s))))), sT h 113 (ttr (P s))) : Option Value × jH) = res
  refine j_aload_n d_Main_isOwnTranspose_0 rfl ?_
  refine j_getr (b := 113) d_Main_isOwnTranspose_1 jf_Main_57 rfl rfl rfl (by decide) ?_
  refine j_aload_n d_Main_isOwnTranspose_4 rfl ?_
  refine j_callVn (As := [.ref (115 + 2 * s)]) (st := []) (x_turn isT_108 (isT_slot s (by omega)) (by omega) (hP s (by omega)) (hw s)) d_Main_isOwnTranspose_5 (by decide) jm_Table_turn jk_Main_121 ji_Table_turn js_Table_turn rfl (by decide) rfl rfl (Nat.le_of_ble_eq_true rfl) rfl ?_
  refine j_aload_n d_Main_isOwnTranspose_8 rfl ?_
  refine j_getr (b := 113) d_Main_isOwnTranspose_9 jf_Main_57 rfl rfl rfl (by decide) ?_
  refine j_aload_n d_Main_isOwnTranspose_12 rfl ?_
  refine j_callVs (As := [.ref (115 + 2 * s)]) (st := []) (x_isLike isT_108 (isT_slot s (by omega)) rep_sT (tw_tr (hw s)) (rep_o isT_108 (isT_slot s (by omega)) (by omega) (hP s (by omega))) (hw s)) d_Main_isOwnTranspose_13 (by decide) jm_Table_isLike jk_Main_134 ji_Table_isLike js_Table_isLike rfl (by decide) rfl rfl (Nat.le_of_ble_eq_true rfl) rfl ?_
  subst hres
  exact j_reti d_Main_isOwnTranspose_16 rfl rfl
theorem x_told_bad {n : jN} {h : jH} {P : jP} (hw : ∀ q, tw (P q)) (hP : slo h P) {s w : Int32} (hb : jokTold P s w = false) : jC n 4 jy_Main_told jc_Main_told 4 (some .int) [.ref 0, .int s, .int w] h (some (.int (-1))) h := by
  refine jC_of jm_Main_told (L := [some (.ref 0), some (.int s), some (.int w), none]) (Nat.le_of_ble_eq_true rfl) rfl trivial ?_
  generalize hres : (((some (.int (-1))), h) : Option Value × jH) = res
  refine j_iload_n d_Main_told_0 rfl ?_
  refine j_callSs (As := [.int s]) (st := []) x_noSlot d_Main_told_1 (by decide) jm_Main_noSlot jk_Main_62 js_Main_noSlot rfl (Nat.le_of_ble_eq_true rfl) rfl ?_
  refine j_if_neB (tgt := 17) d_Main_told_4 (by decide) (fun c1 => ?_) (fun c1 => ?_)
  · refine j_iconst (v := -1) d_Main_told_17 rfl ?_
    subst hres
    exact j_reti d_Main_told_18 rfl rfl
  · refine j_iload_n d_Main_told_7 rfl ?_
    refine j_iconst (v := nI 0) d_Main_told_8 rfl ?_
    refine j_bipush (v := nI 7) d_Main_told_9 (by decide) ?_
    refine j_callSs (As := [.int w, .int (nI 0), .int (nI 7)]) (st := []) x_outOf d_Main_told_11 (by decide) jm_Main_outOf jk_Main_69 js_Main_outOf rfl (Nat.le_of_ble_eq_true rfl) rfl ?_
    refine j_if_eqB (tgt := 19) d_Main_told_14 (by decide) (fun c2 => ?_) (fun c2 => ?_)
    · rw [oo_jin (by omega) (by omega)] at c2
      obtain ⟨s0, hs, rfl⟩ := jsl_t (s := s) (by simpa using c1)
      have hcs : (nI s0).toNatClampNeg = s0 := nI_clamp (by omega)
      have hns := (hw s0).1
      obtain ⟨w0, hw0, hw1, hw2, rfl⟩ := jin_k (x := w) (lo := ((0 : Nat) : Int)) (hi := ((7 : Nat) : Int)) (by omega) (by simpa using c2)
      refine j_aload_n d_Main_told_19 rfl ?_
      refine j_getr (b := 1) d_Main_told_20 jf_Main_11 rfl rfl rfl (by decide) ?_
      refine j_iload_n d_Main_told_23 rfl ?_
      refine j_aaldN (b := 115 + 2 * s0) d_Main_told_24 rfl (by decide) (by omega) (by decide) (jrf_slot _ (by omega)) (by omega) ?_
      refine j_astore_n (L' := [some (.ref 0), some (.int (nI s0)), some (.int (nI w0)), some (.ref (115 + 2 * s0))]) d_Main_told_25 (by decide) rfl rfl ?_
      refine j_iload_n d_Main_told_26 rfl ?_
      refine j_if_neN (tgt := 35) d_Main_told_27 (by decide) (by omega) (fun c3 => ?_) (fun c3 => ?_)
      · refine j_aload_n d_Main_told_35 rfl ?_
        refine j_getv (v := nI ((P s0).1)) d_Main_told_36 jf_Main_106 (isT_slot s0 (by omega)).1 rfl (hP s0 (by omega)).1 ?_
        refine j_if_neN (tgt := 44) d_Main_told_39 (by decide) (by omega) (fun c4 => ?_) (fun c4 => ?_)
        · exact absurd hb (by have h5 : jin (nI w0) 0 7 = true := jin_y (by omega) (by omega) (by omega); simp [jokTold, jsl_N hs, hcs, h5]; omega)
        · refine j_iconst (v := -1) d_Main_told_42 rfl ?_
          subst hres
          exact j_reti d_Main_told_43 rfl rfl
      · subst c3
        exact absurd hb (by simp [jokTold, jsl_N hs, show jin (nI 0) 0 7 = true from rfl, show (nI 0 : Int32) ≤ 0 from Int32.le_refl _])
    · refine j_iconst (v := -1) d_Main_told_17 rfl ?_
      subst hres
      exact j_reti d_Main_told_18 rfl rfl
theorem x_told0 {n : jN} {h : jH} {P : jP} (hw : ∀ q, tw (P q)) (hP : slo h P) {s : Nat} (hs : s < 6) : jC n 4 jy_Main_told jc_Main_told 4 (some .int) [.ref 0, .int (nI s), .int (nI 0)] h (some (.int (nI ((P s).1)))) h := by
  refine jC_of jm_Main_told (L := [some (.ref 0), some (.int (nI s)), some (.int (nI 0)), none]) (Nat.le_of_ble_eq_true rfl) rfl trivial ?_
  generalize hres : (((some (.int (nI ((P s).1)))), h) : Option Value × jH) = res
  have hn12 := (hw s).1
  have hsq : ((P s).1 - 1) * ((P s).1 - 1) ≤ 11 * 11 := Nat.mul_le_mul (by omega) (by omega)
  refine j_iload_n d_Main_told_0 rfl ?_
  refine j_callSs (As := [.int (nI s)]) (st := []) x_noSlot d_Main_told_1 (by decide) jm_Main_noSlot jk_Main_62 js_Main_noSlot rfl (Nat.le_of_ble_eq_true rfl) rfl ?_
  refine j_if_neB_f (tgt := 17) d_Main_told_4 (by decide) (sl_n hs) ?_
  refine j_iload_n d_Main_told_7 rfl ?_
  refine j_iconst (v := nI 0) d_Main_told_8 rfl ?_
  refine j_bipush (v := nI 7) d_Main_told_9 (by decide) ?_
  refine j_callSs (As := [.int (nI 0), .int (nI 0), .int (nI 7)]) (st := []) x_outOf d_Main_told_11 (by decide) jm_Main_outOf jk_Main_69 js_Main_outOf rfl (Nat.le_of_ble_eq_true rfl) rfl ?_
  refine j_if_eqB_t (tgt := 19) d_Main_told_14 (by decide) (oo_n (by omega) (by omega) (by omega)) ?_
  refine j_aload_n d_Main_told_19 rfl ?_
  refine j_getr (b := 1) d_Main_told_20 jf_Main_11 rfl rfl rfl (by decide) ?_
  refine j_iload_n d_Main_told_23 rfl ?_
  refine j_aaldN (b := 115 + 2 * s) d_Main_told_24 rfl (by decide) (by omega) (by decide) (jrf_slot _ (by omega)) (by omega) ?_
  refine j_astore_n (L' := [some (.ref 0), some (.int (nI s)), some (.int (nI 0)), some (.ref (115 + 2 * s))]) d_Main_told_25 (by decide) rfl rfl ?_
  refine j_iload_n d_Main_told_26 rfl ?_
  refine j_if_neN_f (tgt := 35) d_Main_told_27 (by decide) (by omega) (by decide) ?_
  refine j_aload_n d_Main_told_30 rfl ?_
  refine j_getv (v := nI ((P s).1)) d_Main_told_31 jf_Main_106 (isT_slot s (by omega)).1 rfl (hP s (by omega)).1 ?_
  subst hres
  exact j_reti d_Main_told_34 rfl rfl
theorem x_told1 {n : jN} {h : jH} {P : jP} (hw : ∀ q, tw (P q)) (hP : slo h P) {s : Nat} (hs : s < 6) (h0 : 0 < (P s).1) {j0 p i0 : Nat} (hj0 : j0 + 2 < 1000) (hl : tlik (tpo (P s) (j0 + 1)) (tpo (P s) (mkd j0 - 1)) = true) (hn : ∀ j, j < j0 → tlik (tpo (P s) (j + 1)) (tpo (P s) (mkd j - 1)) = false) (hp : j0 + 2 - mkd j0 = p) (hi0 : i0 + 1 < 1000) (hl2 : tlik (tpo (P s) (p + i0)) (tpo (P s) i0) = true) (hn2 : ∀ j, j < i0 → tlik (tpo (P s) (p + j)) (tpo (P s) j) = false) : jC n 4 jy_Main_told jc_Main_told 4 (some .int) [.ref 0, .int (nI s), .int (nI 1)] h (some (.int (nI (i0 + 1)))) (fcH h (P s) j0 p i0) := by
  refine jC_of jm_Main_told (L := [some (.ref 0), some (.int (nI s)), some (.int (nI 1)), none]) (Nat.le_of_ble_eq_true rfl) rfl trivial ?_
  generalize hres : (((some (.int (nI (i0 + 1)))), fcH h (P s) j0 p i0) : Option Value × jH) = res
  have hn12 := (hw s).1
  have hsq : ((P s).1 - 1) * ((P s).1 - 1) ≤ 11 * 11 := Nat.mul_le_mul (by omega) (by omega)
  refine j_iload_n d_Main_told_0 rfl ?_
  refine j_callSs (As := [.int (nI s)]) (st := []) x_noSlot d_Main_told_1 (by decide) jm_Main_noSlot jk_Main_62 js_Main_noSlot rfl (Nat.le_of_ble_eq_true rfl) rfl ?_
  refine j_if_neB_f (tgt := 17) d_Main_told_4 (by decide) (sl_n hs) ?_
  refine j_iload_n d_Main_told_7 rfl ?_
  refine j_iconst (v := nI 0) d_Main_told_8 rfl ?_
  refine j_bipush (v := nI 7) d_Main_told_9 (by decide) ?_
  refine j_callSs (As := [.int (nI 1), .int (nI 0), .int (nI 7)]) (st := []) x_outOf d_Main_told_11 (by decide) jm_Main_outOf jk_Main_69 js_Main_outOf rfl (Nat.le_of_ble_eq_true rfl) rfl ?_
  refine j_if_eqB_t (tgt := 19) d_Main_told_14 (by decide) (oo_n (by omega) (by omega) (by omega)) ?_
  refine j_aload_n d_Main_told_19 rfl ?_
  refine j_getr (b := 1) d_Main_told_20 jf_Main_11 rfl rfl rfl (by decide) ?_
  refine j_iload_n d_Main_told_23 rfl ?_
  refine j_aaldN (b := 115 + 2 * s) d_Main_told_24 rfl (by decide) (by omega) (by decide) (jrf_slot _ (by omega)) (by omega) ?_
  refine j_astore_n (L' := [some (.ref 0), some (.int (nI s)), some (.int (nI 1)), some (.ref (115 + 2 * s))]) d_Main_told_25 (by decide) rfl rfl ?_
  refine j_iload_n d_Main_told_26 rfl ?_
  refine j_if_neN_t (tgt := 35) d_Main_told_27 (by decide) (by omega) (by decide) ?_
  refine j_aload_n d_Main_told_35 rfl ?_
  refine j_getv (v := nI ((P s).1)) d_Main_told_36 jf_Main_106 (isT_slot s (by omega)).1 rfl (hP s (by omega)).1 ?_
  refine j_if_neN_t (tgt := 44) d_Main_told_39 (by decide) (by omega) (by omega) ?_
  refine j_iload_n d_Main_told_44 rfl ?_
  refine j_iconst (v := nI 4) d_Main_told_45 rfl ?_
  refine j_icmp_neN_t (tgt := 58) d_Main_told_46 (by decide) (by omega) (by omega) (by decide) ?_
  refine j_iload_n d_Main_told_58 rfl ?_
  refine j_iconst (v := nI 5) d_Main_told_59 rfl ?_
  refine j_icmp_neN_t (tgt := 68) d_Main_told_60 (by decide) (by omega) (by omega) (by decide) ?_
  refine j_iload_n d_Main_told_68 rfl ?_
  refine j_bipush (v := nI 6) d_Main_told_69 (by decide) ?_
  refine j_icmp_neN_t (tgt := 88) d_Main_told_71 (by decide) (by omega) (by omega) (by decide) ?_
  refine j_iload_n d_Main_told_88 rfl ?_
  refine j_bipush (v := nI 7) d_Main_told_89 (by decide) ?_
  refine j_icmp_neN_t (tgt := 108) d_Main_told_91 (by decide) (by omega) (by omega) (by decide) ?_
  refine j_aload_n d_Main_told_108 rfl ?_
  refine j_getr (b := 46) d_Main_told_109 jf_Main_31 rfl rfl rfl (by decide) ?_
  refine j_aload_n d_Main_told_112 rfl ?_
  refine j_callVn (As := [.ref (115 + 2 * s)]) (st := []) (x_findCycle (isT_slot s hs) (hP s hs) (hw s) (by omega) hj0 hl hn hp hi0 hl2 hn2) d_Main_told_113 (by decide) jm_Powers_findCycle jk_Main_176 ji_Powers_findCycle js_Powers_findCycle rfl (by decide) rfl rfl (Nat.le_of_ble_eq_true rfl) rfl ?_
  refine j_iload_n d_Main_told_116 rfl ?_
  refine j_iconst (v := nI 1) d_Main_told_117 rfl ?_
  refine j_icmp_neN_f (tgt := 131) d_Main_told_118 (by decide) (by omega) (by omega) (by decide) ?_
  refine j_aload_n d_Main_told_121 rfl ?_
  refine j_getr (b := 46) d_Main_told_122 jf_Main_31 rfl rfl rfl (by decide) ?_
  refine j_getv (v := nI (i0 + 1)) d_Main_told_125 jf_Main_179 rfl rfl fcH_i ?_
  refine j_goto (tgt := 153) d_Main_told_128 (by decide) ?_
  subst hres
  exact j_reti d_Main_told_153 rfl rfl
theorem x_told2 {n : jN} {h : jH} {P : jP} (hw : ∀ q, tw (P q)) (hP : slo h P) {s : Nat} (hs : s < 6) (h0 : 0 < (P s).1) {j0 p i0 : Nat} (hj0 : j0 + 2 < 1000) (hl : tlik (tpo (P s) (j0 + 1)) (tpo (P s) (mkd j0 - 1)) = true) (hn : ∀ j, j < j0 → tlik (tpo (P s) (j + 1)) (tpo (P s) (mkd j - 1)) = false) (hp : j0 + 2 - mkd j0 = p) (hi0 : i0 + 1 < 1000) (hl2 : tlik (tpo (P s) (p + i0)) (tpo (P s) i0) = true) (hn2 : ∀ j, j < i0 → tlik (tpo (P s) (p + j)) (tpo (P s) j) = false) : jC n 4 jy_Main_told jc_Main_told 4 (some .int) [.ref 0, .int (nI s), .int (nI 2)] h (some (.int (nI p))) (fcH h (P s) j0 p i0) := by
  refine jC_of jm_Main_told (L := [some (.ref 0), some (.int (nI s)), some (.int (nI 2)), none]) (Nat.le_of_ble_eq_true rfl) rfl trivial ?_
  generalize hres : (((some (.int (nI p))), fcH h (P s) j0 p i0) : Option Value × jH) = res
  have hn12 := (hw s).1
  have hsq : ((P s).1 - 1) * ((P s).1 - 1) ≤ 11 * 11 := Nat.mul_le_mul (by omega) (by omega)
  refine j_iload_n d_Main_told_0 rfl ?_
  refine j_callSs (As := [.int (nI s)]) (st := []) x_noSlot d_Main_told_1 (by decide) jm_Main_noSlot jk_Main_62 js_Main_noSlot rfl (Nat.le_of_ble_eq_true rfl) rfl ?_
  refine j_if_neB_f (tgt := 17) d_Main_told_4 (by decide) (sl_n hs) ?_
  refine j_iload_n d_Main_told_7 rfl ?_
  refine j_iconst (v := nI 0) d_Main_told_8 rfl ?_
  refine j_bipush (v := nI 7) d_Main_told_9 (by decide) ?_
  refine j_callSs (As := [.int (nI 2), .int (nI 0), .int (nI 7)]) (st := []) x_outOf d_Main_told_11 (by decide) jm_Main_outOf jk_Main_69 js_Main_outOf rfl (Nat.le_of_ble_eq_true rfl) rfl ?_
  refine j_if_eqB_t (tgt := 19) d_Main_told_14 (by decide) (oo_n (by omega) (by omega) (by omega)) ?_
  refine j_aload_n d_Main_told_19 rfl ?_
  refine j_getr (b := 1) d_Main_told_20 jf_Main_11 rfl rfl rfl (by decide) ?_
  refine j_iload_n d_Main_told_23 rfl ?_
  refine j_aaldN (b := 115 + 2 * s) d_Main_told_24 rfl (by decide) (by omega) (by decide) (jrf_slot _ (by omega)) (by omega) ?_
  refine j_astore_n (L' := [some (.ref 0), some (.int (nI s)), some (.int (nI 2)), some (.ref (115 + 2 * s))]) d_Main_told_25 (by decide) rfl rfl ?_
  refine j_iload_n d_Main_told_26 rfl ?_
  refine j_if_neN_t (tgt := 35) d_Main_told_27 (by decide) (by omega) (by decide) ?_
  refine j_aload_n d_Main_told_35 rfl ?_
  refine j_getv (v := nI ((P s).1)) d_Main_told_36 jf_Main_106 (isT_slot s (by omega)).1 rfl (hP s (by omega)).1 ?_
  refine j_if_neN_t (tgt := 44) d_Main_told_39 (by decide) (by omega) (by omega) ?_
  refine j_iload_n d_Main_told_44 rfl ?_
  refine j_iconst (v := nI 4) d_Main_told_45 rfl ?_
  refine j_icmp_neN_t (tgt := 58) d_Main_told_46 (by decide) (by omega) (by omega) (by decide) ?_
  refine j_iload_n d_Main_told_58 rfl ?_
  refine j_iconst (v := nI 5) d_Main_told_59 rfl ?_
  refine j_icmp_neN_t (tgt := 68) d_Main_told_60 (by decide) (by omega) (by omega) (by decide) ?_
  refine j_iload_n d_Main_told_68 rfl ?_
  refine j_bipush (v := nI 6) d_Main_told_69 (by decide) ?_
  refine j_icmp_neN_t (tgt := 88) d_Main_told_71 (by decide) (by omega) (by omega) (by decide) ?_
  refine j_iload_n d_Main_told_88 rfl ?_
  refine j_bipush (v := nI 7) d_Main_told_89 (by decide) ?_
  refine j_icmp_neN_t (tgt := 108) d_Main_told_91 (by decide) (by omega) (by omega) (by decide) ?_
  refine j_aload_n d_Main_told_108 rfl ?_
  refine j_getr (b := 46) d_Main_told_109 jf_Main_31 rfl rfl rfl (by decide) ?_
  refine j_aload_n d_Main_told_112 rfl ?_
  refine j_callVn (As := [.ref (115 + 2 * s)]) (st := []) (x_findCycle (isT_slot s hs) (hP s hs) (hw s) (by omega) hj0 hl hn hp hi0 hl2 hn2) d_Main_told_113 (by decide) jm_Powers_findCycle jk_Main_176 ji_Powers_findCycle js_Powers_findCycle rfl (by decide) rfl rfl (Nat.le_of_ble_eq_true rfl) rfl ?_
  refine j_iload_n d_Main_told_116 rfl ?_
  refine j_iconst (v := nI 1) d_Main_told_117 rfl ?_
  refine j_icmp_neN_t (tgt := 131) d_Main_told_118 (by decide) (by omega) (by omega) (by decide) ?_
  refine j_iload_n d_Main_told_131 rfl ?_
  refine j_iconst (v := nI 2) d_Main_told_132 rfl ?_
  refine j_icmp_neN_f (tgt := 146) d_Main_told_133 (by decide) (by omega) (by omega) (by decide) ?_
  refine j_aload_n d_Main_told_136 rfl ?_
  refine j_getr (b := 46) d_Main_told_137 jf_Main_31 rfl rfl rfl (by decide) ?_
  refine j_getv (v := nI p) d_Main_told_140 jf_Main_182 rfl rfl fcH_p ?_
  refine j_goto (tgt := 153) d_Main_told_143 (by decide) ?_
  subst hres
  exact j_reti d_Main_told_153 rfl rfl
theorem x_told3 {n : jN} {h : jH} {P : jP} (hw : ∀ q, tw (P q)) (hP : slo h P) {s : Nat} (hs : s < 6) (h0 : 0 < (P s).1) {j0 p i0 : Nat} (hj0 : j0 + 2 < 1000) (hl : tlik (tpo (P s) (j0 + 1)) (tpo (P s) (mkd j0 - 1)) = true) (hn : ∀ j, j < j0 → tlik (tpo (P s) (j + 1)) (tpo (P s) (mkd j - 1)) = false) (hp : j0 + 2 - mkd j0 = p) (hi0 : i0 + 1 < 1000) (hl2 : tlik (tpo (P s) (p + i0)) (tpo (P s) i0) = true) (hn2 : ∀ j, j < i0 → tlik (tpo (P s) (p + j)) (tpo (P s) j) = false) {q : Nat} (hp1 : p ≤ 1000) (hq : q < 1000) (h1 : ∀ j, j < q → p + p * j < i0 + 1) (h2 : i0 + 1 ≤ p + p * q) : jC n 4 jy_Main_told jc_Main_told 4 (some .int) [.ref 0, .int (nI s), .int (nI 3)] h (some (.int (nI (p + p * q)))) (fcH h (P s) j0 p i0) := by
  refine jC_of jm_Main_told (L := [some (.ref 0), some (.int (nI s)), some (.int (nI 3)), none]) (Nat.le_of_ble_eq_true rfl) rfl trivial ?_
  generalize hres : (((some (.int (nI (p + p * q)))), fcH h (P s) j0 p i0) : Option Value × jH) = res
  have hn12 := (hw s).1
  have hsq : ((P s).1 - 1) * ((P s).1 - 1) ≤ 11 * 11 := Nat.mul_le_mul (by omega) (by omega)
  refine j_iload_n d_Main_told_0 rfl ?_
  refine j_callSs (As := [.int (nI s)]) (st := []) x_noSlot d_Main_told_1 (by decide) jm_Main_noSlot jk_Main_62 js_Main_noSlot rfl (Nat.le_of_ble_eq_true rfl) rfl ?_
  refine j_if_neB_f (tgt := 17) d_Main_told_4 (by decide) (sl_n hs) ?_
  refine j_iload_n d_Main_told_7 rfl ?_
  refine j_iconst (v := nI 0) d_Main_told_8 rfl ?_
  refine j_bipush (v := nI 7) d_Main_told_9 (by decide) ?_
  refine j_callSs (As := [.int (nI 3), .int (nI 0), .int (nI 7)]) (st := []) x_outOf d_Main_told_11 (by decide) jm_Main_outOf jk_Main_69 js_Main_outOf rfl (Nat.le_of_ble_eq_true rfl) rfl ?_
  refine j_if_eqB_t (tgt := 19) d_Main_told_14 (by decide) (oo_n (by omega) (by omega) (by omega)) ?_
  refine j_aload_n d_Main_told_19 rfl ?_
  refine j_getr (b := 1) d_Main_told_20 jf_Main_11 rfl rfl rfl (by decide) ?_
  refine j_iload_n d_Main_told_23 rfl ?_
  refine j_aaldN (b := 115 + 2 * s) d_Main_told_24 rfl (by decide) (by omega) (by decide) (jrf_slot _ (by omega)) (by omega) ?_
  refine j_astore_n (L' := [some (.ref 0), some (.int (nI s)), some (.int (nI 3)), some (.ref (115 + 2 * s))]) d_Main_told_25 (by decide) rfl rfl ?_
  refine j_iload_n d_Main_told_26 rfl ?_
  refine j_if_neN_t (tgt := 35) d_Main_told_27 (by decide) (by omega) (by decide) ?_
  refine j_aload_n d_Main_told_35 rfl ?_
  refine j_getv (v := nI ((P s).1)) d_Main_told_36 jf_Main_106 (isT_slot s (by omega)).1 rfl (hP s (by omega)).1 ?_
  refine j_if_neN_t (tgt := 44) d_Main_told_39 (by decide) (by omega) (by omega) ?_
  refine j_iload_n d_Main_told_44 rfl ?_
  refine j_iconst (v := nI 4) d_Main_told_45 rfl ?_
  refine j_icmp_neN_t (tgt := 58) d_Main_told_46 (by decide) (by omega) (by omega) (by decide) ?_
  refine j_iload_n d_Main_told_58 rfl ?_
  refine j_iconst (v := nI 5) d_Main_told_59 rfl ?_
  refine j_icmp_neN_t (tgt := 68) d_Main_told_60 (by decide) (by omega) (by omega) (by decide) ?_
  refine j_iload_n d_Main_told_68 rfl ?_
  refine j_bipush (v := nI 6) d_Main_told_69 (by decide) ?_
  refine j_icmp_neN_t (tgt := 88) d_Main_told_71 (by decide) (by omega) (by omega) (by decide) ?_
  refine j_iload_n d_Main_told_88 rfl ?_
  refine j_bipush (v := nI 7) d_Main_told_89 (by decide) ?_
  refine j_icmp_neN_t (tgt := 108) d_Main_told_91 (by decide) (by omega) (by omega) (by decide) ?_
  refine j_aload_n d_Main_told_108 rfl ?_
  refine j_getr (b := 46) d_Main_told_109 jf_Main_31 rfl rfl rfl (by decide) ?_
  refine j_aload_n d_Main_told_112 rfl ?_
  refine j_callVn (As := [.ref (115 + 2 * s)]) (st := []) (x_findCycle (isT_slot s hs) (hP s hs) (hw s) (by omega) hj0 hl hn hp hi0 hl2 hn2) d_Main_told_113 (by decide) jm_Powers_findCycle jk_Main_176 ji_Powers_findCycle js_Powers_findCycle rfl (by decide) rfl rfl (Nat.le_of_ble_eq_true rfl) rfl ?_
  refine j_iload_n d_Main_told_116 rfl ?_
  refine j_iconst (v := nI 1) d_Main_told_117 rfl ?_
  refine j_icmp_neN_t (tgt := 131) d_Main_told_118 (by decide) (by omega) (by omega) (by decide) ?_
  refine j_iload_n d_Main_told_131 rfl ?_
  refine j_iconst (v := nI 2) d_Main_told_132 rfl ?_
  refine j_icmp_neN_t (tgt := 146) d_Main_told_133 (by decide) (by omega) (by omega) (by decide) ?_
  refine j_aload_n d_Main_told_146 rfl ?_
  refine j_getr (b := 46) d_Main_told_147 jf_Main_31 rfl rfl rfl (by decide) ?_
  refine j_callVs (As := []) (st := []) (x_idempotent fcH_i fcH_p hp1 (by omega) hq h1 h2) d_Main_told_150 (by decide) jm_Powers_idempotent jk_Main_185 ji_Powers_idempotent js_Powers_idempotent rfl (by decide) rfl rfl (Nat.le_of_ble_eq_true rfl) rfl ?_
  subst hres
  exact j_reti d_Main_told_153 rfl rfl
theorem x_told4_some {n : jN} {h : jH} {P : jP} (hw : ∀ q, tw (P q)) (hP : slo h P) {s : Nat} (hs : s < 6) (h0 : 0 < (P s).1) {e : Nat} (he1 : e < ((P s).1 - 1) * ((P s).1 - 1) + 1) (he2 : tful (tpo (P s) e) (tpo (P s) e).1 (tpo (P s) e).1 = true) (hn : ∀ j, j < e → tful (tpo (P s) j) (tpo (P s) j).1 (tpo (P s) j).1 = false) : jC n 4 jy_Main_told jc_Main_told 4 (some .int) [.ref 0, .int (nI s), .int (nI 4)] h (some (.int (nI (e + 1)))) (exH h (P s) e) := by
  refine jC_of jm_Main_told (L := [some (.ref 0), some (.int (nI s)), some (.int (nI 4)), none]) (Nat.le_of_ble_eq_true rfl) rfl trivial ?_
  generalize hres : (((some (.int (nI (e + 1)))), exH h (P s) e) : Option Value × jH) = res
  have hn12 := (hw s).1
  have hsq : ((P s).1 - 1) * ((P s).1 - 1) ≤ 11 * 11 := Nat.mul_le_mul (by omega) (by omega)
  refine j_iload_n d_Main_told_0 rfl ?_
  refine j_callSs (As := [.int (nI s)]) (st := []) x_noSlot d_Main_told_1 (by decide) jm_Main_noSlot jk_Main_62 js_Main_noSlot rfl (Nat.le_of_ble_eq_true rfl) rfl ?_
  refine j_if_neB_f (tgt := 17) d_Main_told_4 (by decide) (sl_n hs) ?_
  refine j_iload_n d_Main_told_7 rfl ?_
  refine j_iconst (v := nI 0) d_Main_told_8 rfl ?_
  refine j_bipush (v := nI 7) d_Main_told_9 (by decide) ?_
  refine j_callSs (As := [.int (nI 4), .int (nI 0), .int (nI 7)]) (st := []) x_outOf d_Main_told_11 (by decide) jm_Main_outOf jk_Main_69 js_Main_outOf rfl (Nat.le_of_ble_eq_true rfl) rfl ?_
  refine j_if_eqB_t (tgt := 19) d_Main_told_14 (by decide) (oo_n (by omega) (by omega) (by omega)) ?_
  refine j_aload_n d_Main_told_19 rfl ?_
  refine j_getr (b := 1) d_Main_told_20 jf_Main_11 rfl rfl rfl (by decide) ?_
  refine j_iload_n d_Main_told_23 rfl ?_
  refine j_aaldN (b := 115 + 2 * s) d_Main_told_24 rfl (by decide) (by omega) (by decide) (jrf_slot _ (by omega)) (by omega) ?_
  refine j_astore_n (L' := [some (.ref 0), some (.int (nI s)), some (.int (nI 4)), some (.ref (115 + 2 * s))]) d_Main_told_25 (by decide) rfl rfl ?_
  refine j_iload_n d_Main_told_26 rfl ?_
  refine j_if_neN_t (tgt := 35) d_Main_told_27 (by decide) (by omega) (by decide) ?_
  refine j_aload_n d_Main_told_35 rfl ?_
  refine j_getv (v := nI ((P s).1)) d_Main_told_36 jf_Main_106 (isT_slot s (by omega)).1 rfl (hP s (by omega)).1 ?_
  refine j_if_neN_t (tgt := 44) d_Main_told_39 (by decide) (by omega) (by omega) ?_
  refine j_iload_n d_Main_told_44 rfl ?_
  refine j_iconst (v := nI 4) d_Main_told_45 rfl ?_
  refine j_icmp_neN_f (tgt := 58) d_Main_told_46 (by decide) (by omega) (by omega) (by decide) ?_
  refine j_aload_n d_Main_told_49 rfl ?_
  refine j_getr (b := 46) d_Main_told_50 jf_Main_31 rfl rfl rfl (by decide) ?_
  refine j_aload_n d_Main_told_53 rfl ?_
  refine j_callVs (As := [.ref (115 + 2 * s)]) (st := []) (x_exponent_some (isT_slot s hs) (hP s hs) (hw s) h0 (by omega) he1 he2 hn) d_Main_told_54 (by decide) jm_Powers_exponent jk_Main_162 ji_Powers_exponent js_Powers_exponent rfl (by decide) rfl rfl (Nat.le_of_ble_eq_true rfl) rfl ?_
  subst hres
  exact j_reti d_Main_told_57 rfl rfl
theorem x_told4_none {n : jN} {h : jH} {P : jP} (hw : ∀ q, tw (P q)) (hP : slo h P) {s : Nat} (hs : s < 6) (h0 : 0 < (P s).1) (hn : ∀ j, j < ((P s).1 - 1) * ((P s).1 - 1) + 1 → tful (tpo (P s) j) (tpo (P s) j).1 (tpo (P s) j).1 = false) : jC n 4 jy_Main_told jc_Main_told 4 (some .int) [.ref 0, .int (nI s), .int (nI 4)] h (some (.int (nI 0))) (exH h (P s) (((P s).1 - 1) * ((P s).1 - 1) + 1)) := by
  refine jC_of jm_Main_told (L := [some (.ref 0), some (.int (nI s)), some (.int (nI 4)), none]) (Nat.le_of_ble_eq_true rfl) rfl trivial ?_
  generalize hres : (((some (.int (nI 0))), exH h (P s) (((P s).1 - 1) * ((P s).1 - 1) + 1)) : Option Value × jH) = res
  have hn12 := (hw s).1
  have hsq : ((P s).1 - 1) * ((P s).1 - 1) ≤ 11 * 11 := Nat.mul_le_mul (by omega) (by omega)
  refine j_iload_n d_Main_told_0 rfl ?_
  refine j_callSs (As := [.int (nI s)]) (st := []) x_noSlot d_Main_told_1 (by decide) jm_Main_noSlot jk_Main_62 js_Main_noSlot rfl (Nat.le_of_ble_eq_true rfl) rfl ?_
  refine j_if_neB_f (tgt := 17) d_Main_told_4 (by decide) (sl_n hs) ?_
  refine j_iload_n d_Main_told_7 rfl ?_
  refine j_iconst (v := nI 0) d_Main_told_8 rfl ?_
  refine j_bipush (v := nI 7) d_Main_told_9 (by decide) ?_
  refine j_callSs (As := [.int (nI 4), .int (nI 0), .int (nI 7)]) (st := []) x_outOf d_Main_told_11 (by decide) jm_Main_outOf jk_Main_69 js_Main_outOf rfl (Nat.le_of_ble_eq_true rfl) rfl ?_
  refine j_if_eqB_t (tgt := 19) d_Main_told_14 (by decide) (oo_n (by omega) (by omega) (by omega)) ?_
  refine j_aload_n d_Main_told_19 rfl ?_
  refine j_getr (b := 1) d_Main_told_20 jf_Main_11 rfl rfl rfl (by decide) ?_
  refine j_iload_n d_Main_told_23 rfl ?_
  refine j_aaldN (b := 115 + 2 * s) d_Main_told_24 rfl (by decide) (by omega) (by decide) (jrf_slot _ (by omega)) (by omega) ?_
  refine j_astore_n (L' := [some (.ref 0), some (.int (nI s)), some (.int (nI 4)), some (.ref (115 + 2 * s))]) d_Main_told_25 (by decide) rfl rfl ?_
  refine j_iload_n d_Main_told_26 rfl ?_
  refine j_if_neN_t (tgt := 35) d_Main_told_27 (by decide) (by omega) (by decide) ?_
  refine j_aload_n d_Main_told_35 rfl ?_
  refine j_getv (v := nI ((P s).1)) d_Main_told_36 jf_Main_106 (isT_slot s (by omega)).1 rfl (hP s (by omega)).1 ?_
  refine j_if_neN_t (tgt := 44) d_Main_told_39 (by decide) (by omega) (by omega) ?_
  refine j_iload_n d_Main_told_44 rfl ?_
  refine j_iconst (v := nI 4) d_Main_told_45 rfl ?_
  refine j_icmp_neN_f (tgt := 58) d_Main_told_46 (by decide) (by omega) (by omega) (by decide) ?_
  refine j_aload_n d_Main_told_49 rfl ?_
  refine j_getr (b := 46) d_Main_told_50 jf_Main_31 rfl rfl rfl (by decide) ?_
  refine j_aload_n d_Main_told_53 rfl ?_
  refine j_callVs (As := [.ref (115 + 2 * s)]) (st := []) (x_exponent_none (isT_slot s hs) (hP s hs) (hw s) h0 (by omega) hn) d_Main_told_54 (by decide) jm_Powers_exponent jk_Main_162 ji_Powers_exponent js_Powers_exponent rfl (by decide) rfl rfl (Nat.le_of_ble_eq_true rfl) rfl ?_
  subst hres
  exact j_reti d_Main_told_57 rfl rfl
theorem x_told5 {n : jN} {h : jH} {P : jP} (hw : ∀ q, tw (P q)) (hP : slo h P) {s : Nat} (hs : s < 6) (h0 : 0 < (P s).1) : jC n 4 jy_Main_told jc_Main_told 4 (some .int) [.ref 0, .int (nI s), .int (nI 5)] h (some (.int (nI (tones (P s) (P s).1)))) h := by
  refine jC_of jm_Main_told (L := [some (.ref 0), some (.int (nI s)), some (.int (nI 5)), none]) (Nat.le_of_ble_eq_true rfl) rfl trivial ?_
  generalize hres : (((some (.int (nI (tones (P s) (P s).1)))), h) : Option Value × jH) = res
  have hn12 := (hw s).1
  have hsq : ((P s).1 - 1) * ((P s).1 - 1) ≤ 11 * 11 := Nat.mul_le_mul (by omega) (by omega)
  refine j_iload_n d_Main_told_0 rfl ?_
  refine j_callSs (As := [.int (nI s)]) (st := []) x_noSlot d_Main_told_1 (by decide) jm_Main_noSlot jk_Main_62 js_Main_noSlot rfl (Nat.le_of_ble_eq_true rfl) rfl ?_
  refine j_if_neB_f (tgt := 17) d_Main_told_4 (by decide) (sl_n hs) ?_
  refine j_iload_n d_Main_told_7 rfl ?_
  refine j_iconst (v := nI 0) d_Main_told_8 rfl ?_
  refine j_bipush (v := nI 7) d_Main_told_9 (by decide) ?_
  refine j_callSs (As := [.int (nI 5), .int (nI 0), .int (nI 7)]) (st := []) x_outOf d_Main_told_11 (by decide) jm_Main_outOf jk_Main_69 js_Main_outOf rfl (Nat.le_of_ble_eq_true rfl) rfl ?_
  refine j_if_eqB_t (tgt := 19) d_Main_told_14 (by decide) (oo_n (by omega) (by omega) (by omega)) ?_
  refine j_aload_n d_Main_told_19 rfl ?_
  refine j_getr (b := 1) d_Main_told_20 jf_Main_11 rfl rfl rfl (by decide) ?_
  refine j_iload_n d_Main_told_23 rfl ?_
  refine j_aaldN (b := 115 + 2 * s) d_Main_told_24 rfl (by decide) (by omega) (by decide) (jrf_slot _ (by omega)) (by omega) ?_
  refine j_astore_n (L' := [some (.ref 0), some (.int (nI s)), some (.int (nI 5)), some (.ref (115 + 2 * s))]) d_Main_told_25 (by decide) rfl rfl ?_
  refine j_iload_n d_Main_told_26 rfl ?_
  refine j_if_neN_t (tgt := 35) d_Main_told_27 (by decide) (by omega) (by decide) ?_
  refine j_aload_n d_Main_told_35 rfl ?_
  refine j_getv (v := nI ((P s).1)) d_Main_told_36 jf_Main_106 (isT_slot s (by omega)).1 rfl (hP s (by omega)).1 ?_
  refine j_if_neN_t (tgt := 44) d_Main_told_39 (by decide) (by omega) (by omega) ?_
  refine j_iload_n d_Main_told_44 rfl ?_
  refine j_iconst (v := nI 4) d_Main_told_45 rfl ?_
  refine j_icmp_neN_t (tgt := 58) d_Main_told_46 (by decide) (by omega) (by omega) (by decide) ?_
  refine j_iload_n d_Main_told_58 rfl ?_
  refine j_iconst (v := nI 5) d_Main_told_59 rfl ?_
  refine j_icmp_neN_f (tgt := 68) d_Main_told_60 (by decide) (by omega) (by omega) (by decide) ?_
  refine j_aload_n d_Main_told_63 rfl ?_
  refine j_callVs (As := []) (st := []) (x_ones (isT_slot s (by omega)) (hP s (by omega)) (hw s)) d_Main_told_64 (by decide) jm_Table_ones jk_Main_166 ji_Table_ones js_Table_ones (isT_slot s (by omega)).1 (by decide) rfl rfl (Nat.le_of_ble_eq_true rfl) rfl ?_
  subst hres
  exact j_reti d_Main_told_67 rfl rfl
theorem x_told6 {n : jN} {h : jH} {P : jP} (hw : ∀ q, tw (P q)) (hP : slo h P) {s : Nat} (hs : s < 6) (h0 : 0 < (P s).1) : jC n 4 jy_Main_told jc_Main_told 4 (some .int) [.ref 0, .int (nI s), .int (nI 6)] h (some (.int (jbo (tlik (tmul (P s) (P s)) (P s))))) (sT (sT h 113 (P s)) 113 (tmul (P s) (P s))) := by
  refine jC_of jm_Main_told (L := [some (.ref 0), some (.int (nI s)), some (.int (nI 6)), none]) (Nat.le_of_ble_eq_true rfl) rfl trivial ?_
  generalize hres : (((some (.int (jbo (tlik (tmul (P s) (P s)) (P s))))), sT (sT h 113 (P s)) 113 (tmul (P s) (P s))) : Option Value × jH) = res
  have hn12 := (hw s).1
  have hsq : ((P s).1 - 1) * ((P s).1 - 1) ≤ 11 * 11 := Nat.mul_le_mul (by omega) (by omega)
  refine j_iload_n d_Main_told_0 rfl ?_
  refine j_callSs (As := [.int (nI s)]) (st := []) x_noSlot d_Main_told_1 (by decide) jm_Main_noSlot jk_Main_62 js_Main_noSlot rfl (Nat.le_of_ble_eq_true rfl) rfl ?_
  refine j_if_neB_f (tgt := 17) d_Main_told_4 (by decide) (sl_n hs) ?_
  refine j_iload_n d_Main_told_7 rfl ?_
  refine j_iconst (v := nI 0) d_Main_told_8 rfl ?_
  refine j_bipush (v := nI 7) d_Main_told_9 (by decide) ?_
  refine j_callSs (As := [.int (nI 6), .int (nI 0), .int (nI 7)]) (st := []) x_outOf d_Main_told_11 (by decide) jm_Main_outOf jk_Main_69 js_Main_outOf rfl (Nat.le_of_ble_eq_true rfl) rfl ?_
  refine j_if_eqB_t (tgt := 19) d_Main_told_14 (by decide) (oo_n (by omega) (by omega) (by omega)) ?_
  refine j_aload_n d_Main_told_19 rfl ?_
  refine j_getr (b := 1) d_Main_told_20 jf_Main_11 rfl rfl rfl (by decide) ?_
  refine j_iload_n d_Main_told_23 rfl ?_
  refine j_aaldN (b := 115 + 2 * s) d_Main_told_24 rfl (by decide) (by omega) (by decide) (jrf_slot _ (by omega)) (by omega) ?_
  refine j_astore_n (L' := [some (.ref 0), some (.int (nI s)), some (.int (nI 6)), some (.ref (115 + 2 * s))]) d_Main_told_25 (by decide) rfl rfl ?_
  refine j_iload_n d_Main_told_26 rfl ?_
  refine j_if_neN_t (tgt := 35) d_Main_told_27 (by decide) (by omega) (by decide) ?_
  refine j_aload_n d_Main_told_35 rfl ?_
  refine j_getv (v := nI ((P s).1)) d_Main_told_36 jf_Main_106 (isT_slot s (by omega)).1 rfl (hP s (by omega)).1 ?_
  refine j_if_neN_t (tgt := 44) d_Main_told_39 (by decide) (by omega) (by omega) ?_
  refine j_iload_n d_Main_told_44 rfl ?_
  refine j_iconst (v := nI 4) d_Main_told_45 rfl ?_
  refine j_icmp_neN_t (tgt := 58) d_Main_told_46 (by decide) (by omega) (by omega) (by decide) ?_
  refine j_iload_n d_Main_told_58 rfl ?_
  refine j_iconst (v := nI 5) d_Main_told_59 rfl ?_
  refine j_icmp_neN_t (tgt := 68) d_Main_told_60 (by decide) (by omega) (by omega) (by decide) ?_
  refine j_iload_n d_Main_told_68 rfl ?_
  refine j_bipush (v := nI 6) d_Main_told_69 (by decide) ?_
  refine j_icmp_neN_f (tgt := 88) d_Main_told_71 (by decide) (by omega) (by omega) (by decide) ?_
  refine j_aload_n d_Main_told_74 rfl ?_
  refine j_aload_n d_Main_told_75 rfl ?_
  refine j_callVs (As := [.ref (115 + 2 * s)]) (st := []) (x_isOwnSquare hw hP hs) d_Main_told_76 (by decide) jm_Main_isOwnSquare jk_Main_170 ji_Main_isOwnSquare js_Main_isOwnSquare rfl (by decide) rfl rfl (Nat.le_of_ble_eq_true rfl) rfl ?_
  refine j_if_eqB (tgt := 86) d_Main_told_79 (by decide) (fun c => ?_) (fun c => ?_)
  · refine j_iconst (v := nI 0) d_Main_told_86 rfl ?_
    subst hres
    exact j_reti d_Main_told_87 (by rw [c]; rfl) rfl
  · refine j_iconst (v := nI 1) d_Main_told_82 rfl ?_
    refine j_goto (tgt := 87) d_Main_told_83 (by decide) ?_
    subst hres
    exact j_reti d_Main_told_87 (by rw [c]; rfl) rfl
theorem x_told7 {n : jN} {h : jH} {P : jP} (hw : ∀ q, tw (P q)) (hP : slo h P) {s : Nat} (hs : s < 6) (h0 : 0 < (P s).1) : jC n 4 jy_Main_told jc_Main_told 4 (some .int) [.ref 0, .int (nI s), .int (nI 7)] h (some (.int (jbo (tlik (ttr (P s)) (P s))))) (sT h 113 (ttr (P s))) := by
  refine jC_of jm_Main_told (L := [some (.ref 0), some (.int (nI s)), some (.int (nI 7)), none]) (Nat.le_of_ble_eq_true rfl) rfl trivial ?_
  generalize hres : (((some (.int (jbo (tlik (ttr (P s)) (P s))))), sT h 113 (ttr (P s))) : Option Value × jH) = res
  have hn12 := (hw s).1
  have hsq : ((P s).1 - 1) * ((P s).1 - 1) ≤ 11 * 11 := Nat.mul_le_mul (by omega) (by omega)
  refine j_iload_n d_Main_told_0 rfl ?_
  refine j_callSs (As := [.int (nI s)]) (st := []) x_noSlot d_Main_told_1 (by decide) jm_Main_noSlot jk_Main_62 js_Main_noSlot rfl (Nat.le_of_ble_eq_true rfl) rfl ?_
  refine j_if_neB_f (tgt := 17) d_Main_told_4 (by decide) (sl_n hs) ?_
  refine j_iload_n d_Main_told_7 rfl ?_
  refine j_iconst (v := nI 0) d_Main_told_8 rfl ?_
  refine j_bipush (v := nI 7) d_Main_told_9 (by decide) ?_
  refine j_callSs (As := [.int (nI 7), .int (nI 0), .int (nI 7)]) (st := []) x_outOf d_Main_told_11 (by decide) jm_Main_outOf jk_Main_69 js_Main_outOf rfl (Nat.le_of_ble_eq_true rfl) rfl ?_
  refine j_if_eqB_t (tgt := 19) d_Main_told_14 (by decide) (oo_n (by omega) (by omega) (by omega)) ?_
  refine j_aload_n d_Main_told_19 rfl ?_
  refine j_getr (b := 1) d_Main_told_20 jf_Main_11 rfl rfl rfl (by decide) ?_
  refine j_iload_n d_Main_told_23 rfl ?_
  refine j_aaldN (b := 115 + 2 * s) d_Main_told_24 rfl (by decide) (by omega) (by decide) (jrf_slot _ (by omega)) (by omega) ?_
  refine j_astore_n (L' := [some (.ref 0), some (.int (nI s)), some (.int (nI 7)), some (.ref (115 + 2 * s))]) d_Main_told_25 (by decide) rfl rfl ?_
  refine j_iload_n d_Main_told_26 rfl ?_
  refine j_if_neN_t (tgt := 35) d_Main_told_27 (by decide) (by omega) (by decide) ?_
  refine j_aload_n d_Main_told_35 rfl ?_
  refine j_getv (v := nI ((P s).1)) d_Main_told_36 jf_Main_106 (isT_slot s (by omega)).1 rfl (hP s (by omega)).1 ?_
  refine j_if_neN_t (tgt := 44) d_Main_told_39 (by decide) (by omega) (by omega) ?_
  refine j_iload_n d_Main_told_44 rfl ?_
  refine j_iconst (v := nI 4) d_Main_told_45 rfl ?_
  refine j_icmp_neN_t (tgt := 58) d_Main_told_46 (by decide) (by omega) (by omega) (by decide) ?_
  refine j_iload_n d_Main_told_58 rfl ?_
  refine j_iconst (v := nI 5) d_Main_told_59 rfl ?_
  refine j_icmp_neN_t (tgt := 68) d_Main_told_60 (by decide) (by omega) (by omega) (by decide) ?_
  refine j_iload_n d_Main_told_68 rfl ?_
  refine j_bipush (v := nI 6) d_Main_told_69 (by decide) ?_
  refine j_icmp_neN_t (tgt := 88) d_Main_told_71 (by decide) (by omega) (by omega) (by decide) ?_
  refine j_iload_n d_Main_told_88 rfl ?_
  refine j_bipush (v := nI 7) d_Main_told_89 (by decide) ?_
  refine j_icmp_neN_f (tgt := 108) d_Main_told_91 (by decide) (by omega) (by omega) (by decide) ?_
  refine j_aload_n d_Main_told_94 rfl ?_
  refine j_aload_n d_Main_told_95 rfl ?_
  refine j_callVs (As := [.ref (115 + 2 * s)]) (st := []) (x_isOwnTranspose hw hP hs) d_Main_told_96 (by decide) jm_Main_isOwnTranspose jk_Main_173 ji_Main_isOwnTranspose js_Main_isOwnTranspose rfl (by decide) rfl rfl (Nat.le_of_ble_eq_true rfl) rfl ?_
  refine j_if_eqB (tgt := 106) d_Main_told_99 (by decide) (fun c => ?_) (fun c => ?_)
  · refine j_iconst (v := nI 0) d_Main_told_106 rfl ?_
    subst hres
    exact j_reti d_Main_told_107 (by rw [c]; rfl) rfl
  · refine j_iconst (v := nI 1) d_Main_told_102 rfl ?_
    refine j_goto (tgt := 107) d_Main_told_103 (by decide) ?_
    subst hres
    exact j_reti d_Main_told_107 (by rw [c]; rfl) rfl
theorem x_reaches_bad {n : jN} {h : jH} {P : jP} (hw : ∀ q, tw (P q)) (hP : slo h P) {a b : Int32} (hb : (jho P a && jho P b) = false) : jC n 3 jy_Main_reaches jc_Main_reaches 4 (some .int) [.ref 0, .int a, .int b] h (some (.int (-1))) h := by
  refine jC_of jm_Main_reaches (L := [some (.ref 0), some (.int a), some (.int b), none]) (Nat.le_of_ble_eq_true rfl) rfl trivial ?_
  generalize hres : (((some (.int (-1))), h) : Option Value × jH) = res
  refine j_aload_n d_Main_reaches_0 rfl ?_
  refine j_iload_n d_Main_reaches_1 rfl ?_
  refine j_callVs (As := [.int a]) (st := []) (x_noTable hw hP) d_Main_reaches_2 (by decide) jm_Main_noTable jk_Main_103 ji_Main_noTable js_Main_noTable rfl (by decide) rfl rfl (Nat.le_of_ble_eq_true rfl) rfl ?_
  refine j_if_neB (tgt := 16) d_Main_reaches_5 (by decide) (fun c1 => ?_) (fun c1 => ?_)
  · refine j_iconst (v := -1) d_Main_reaches_16 rfl ?_
    subst hres
    exact j_reti d_Main_reaches_17 rfl rfl
  · refine j_aload_n d_Main_reaches_8 rfl ?_
    refine j_iload_n d_Main_reaches_9 rfl ?_
    refine j_callVs (As := [.int b]) (st := []) (x_noTable hw hP) d_Main_reaches_10 (by decide) jm_Main_noTable jk_Main_103 ji_Main_noTable js_Main_noTable rfl (by decide) rfl rfl (Nat.le_of_ble_eq_true rfl) rfl ?_
    refine j_if_eqB (tgt := 18) d_Main_reaches_13 (by decide) (fun c2 => ?_) (fun c2 => ?_)
    · exact absurd hb (by simp_all)
    · refine j_iconst (v := -1) d_Main_reaches_16 rfl ?_
      subst hres
      exact j_reti d_Main_reaches_17 rfl rfl
theorem x_reaches_un {n : jN} {h : jH} {P : jP} (hw : ∀ q, tw (P q)) (hP : slo h P) {s b : Nat} (hs : s < 6) (h0 : 0 < (P s).1) (hb : b < 6) (h0b : 0 < (P b).1) (he : ¬ (P s).1 = (P b).1) : jC n 3 jy_Main_reaches jc_Main_reaches 4 (some .int) [.ref 0, .int (nI s), .int (nI b)] h (some (.int (-3))) h := by
  have hna := (hw s).1
  have hnb := (hw b).1
  refine jC_of jm_Main_reaches (L := [some (.ref 0), some (.int (nI s)), some (.int (nI b)), none]) (Nat.le_of_ble_eq_true rfl) rfl trivial ?_
  generalize hres : (((some (.int (-3))), h) : Option Value × jH) = res
  refine j_aload_n d_Main_reaches_0 rfl ?_
  refine j_iload_n d_Main_reaches_1 rfl ?_
  refine j_callVs (As := [.int (nI s)]) (st := []) (x_noTable hw hP) d_Main_reaches_2 (by decide) jm_Main_noTable jk_Main_103 ji_Main_noTable js_Main_noTable rfl (by decide) rfl rfl (Nat.le_of_ble_eq_true rfl) rfl ?_
  refine j_if_neB_f (tgt := 16) d_Main_reaches_5 (by decide) (ho_n hs h0) ?_
  refine j_aload_n d_Main_reaches_8 rfl ?_
  refine j_iload_n d_Main_reaches_9 rfl ?_
  refine j_callVs (As := [.int (nI b)]) (st := []) (x_noTable hw hP) d_Main_reaches_10 (by decide) jm_Main_noTable jk_Main_103 ji_Main_noTable js_Main_noTable rfl (by decide) rfl rfl (Nat.le_of_ble_eq_true rfl) rfl ?_
  refine j_if_eqB_t (tgt := 18) d_Main_reaches_13 (by decide) (ho_n hb h0b) ?_
  refine j_aload_n d_Main_reaches_18 rfl ?_
  refine j_getr (b := 1) d_Main_reaches_19 jf_Main_11 rfl rfl rfl (by decide) ?_
  refine j_iload_n d_Main_reaches_22 rfl ?_
  refine j_aaldN (b := 115 + 2 * s) d_Main_reaches_23 rfl (by decide) (by omega) (by decide) (jrf_slot _ (by omega)) (by omega) ?_
  refine j_getv (v := nI ((P s).1)) d_Main_reaches_24 jf_Main_106 (isT_slot s (by omega)).1 rfl (hP s (by omega)).1 ?_
  refine j_aload_n d_Main_reaches_27 rfl ?_
  refine j_getr (b := 1) d_Main_reaches_28 jf_Main_11 rfl rfl rfl (by decide) ?_
  refine j_iload_n d_Main_reaches_31 rfl ?_
  refine j_aaldN (b := 115 + 2 * b) d_Main_reaches_32 rfl (by decide) (by omega) (by decide) (jrf_slot _ (by omega)) (by omega) ?_
  refine j_getv (v := nI ((P b).1)) d_Main_reaches_33 jf_Main_106 (isT_slot b (by omega)).1 rfl (hP b (by omega)).1 ?_
  refine j_icmp_eqN_f (tgt := 42) d_Main_reaches_36 (by decide) (by omega) (by omega) he ?_
  refine j_bipush (v := -3) d_Main_reaches_39 (by decide) ?_
  subst hres
  exact j_reti d_Main_reaches_41 rfl rfl
theorem x_reaches_some {n : jN} {h : jH} {P : jP} (hw : ∀ q, tw (P q)) (hP : slo h P) {s b : Nat} (hs : s < 6) (h0 : 0 < (P s).1) (hb : b < 6) (h0b : 0 < (P b).1) (hab : (P s).1 = (P b).1) {e : Nat} (he : e < 1000) (hl : tlik (tpo (P s) e) (P b) = true) (hn : ∀ j, j < e → tlik (tpo (P s) j) (P b) = false) (hc : ∀ j, j < e → ¬ (mkf j < j + 1 ∧ tlik (tpo (P s) j) (tpo (P s) (mkf j - 1)) = true)) : jC n 3 jy_Main_reaches jc_Main_reaches 4 (some .int) [.ref 0, .int (nI s), .int (nI b)] h (some (.int (nI (e + 1)))) (flH h (P s) e) := by
  have hna := (hw s).1
  have hnb := (hw b).1
  refine jC_of jm_Main_reaches (L := [some (.ref 0), some (.int (nI s)), some (.int (nI b)), none]) (Nat.le_of_ble_eq_true rfl) rfl trivial ?_
  generalize hres : (((some (.int (nI (e + 1)))), flH h (P s) e) : Option Value × jH) = res
  refine j_aload_n d_Main_reaches_0 rfl ?_
  refine j_iload_n d_Main_reaches_1 rfl ?_
  refine j_callVs (As := [.int (nI s)]) (st := []) (x_noTable hw hP) d_Main_reaches_2 (by decide) jm_Main_noTable jk_Main_103 ji_Main_noTable js_Main_noTable rfl (by decide) rfl rfl (Nat.le_of_ble_eq_true rfl) rfl ?_
  refine j_if_neB_f (tgt := 16) d_Main_reaches_5 (by decide) (ho_n hs h0) ?_
  refine j_aload_n d_Main_reaches_8 rfl ?_
  refine j_iload_n d_Main_reaches_9 rfl ?_
  refine j_callVs (As := [.int (nI b)]) (st := []) (x_noTable hw hP) d_Main_reaches_10 (by decide) jm_Main_noTable jk_Main_103 ji_Main_noTable js_Main_noTable rfl (by decide) rfl rfl (Nat.le_of_ble_eq_true rfl) rfl ?_
  refine j_if_eqB_t (tgt := 18) d_Main_reaches_13 (by decide) (ho_n hb h0b) ?_
  refine j_aload_n d_Main_reaches_18 rfl ?_
  refine j_getr (b := 1) d_Main_reaches_19 jf_Main_11 rfl rfl rfl (by decide) ?_
  refine j_iload_n d_Main_reaches_22 rfl ?_
  refine j_aaldN (b := 115 + 2 * s) d_Main_reaches_23 rfl (by decide) (by omega) (by decide) (jrf_slot _ (by omega)) (by omega) ?_
  refine j_getv (v := nI ((P s).1)) d_Main_reaches_24 jf_Main_106 (isT_slot s (by omega)).1 rfl (hP s (by omega)).1 ?_
  refine j_aload_n d_Main_reaches_27 rfl ?_
  refine j_getr (b := 1) d_Main_reaches_28 jf_Main_11 rfl rfl rfl (by decide) ?_
  refine j_iload_n d_Main_reaches_31 rfl ?_
  refine j_aaldN (b := 115 + 2 * b) d_Main_reaches_32 rfl (by decide) (by omega) (by decide) (jrf_slot _ (by omega)) (by omega) ?_
  refine j_getv (v := nI ((P b).1)) d_Main_reaches_33 jf_Main_106 (isT_slot b (by omega)).1 rfl (hP b (by omega)).1 ?_
  refine j_icmp_eqN_t (tgt := 42) d_Main_reaches_36 (by decide) (by omega) (by omega) hab ?_
  refine j_aload_n d_Main_reaches_42 rfl ?_
  refine j_getr (b := 46) d_Main_reaches_43 jf_Main_31 rfl rfl rfl (by decide) ?_
  refine j_aload_n d_Main_reaches_46 rfl ?_
  refine j_getr (b := 1) d_Main_reaches_47 jf_Main_11 rfl rfl rfl (by decide) ?_
  refine j_iload_n d_Main_reaches_50 rfl ?_
  refine j_aaldN (b := 115 + 2 * s) d_Main_reaches_51 rfl (by decide) (by omega) (by decide) (jrf_slot _ (by omega)) (by omega) ?_
  refine j_aload_n d_Main_reaches_52 rfl ?_
  refine j_getr (b := 1) d_Main_reaches_53 jf_Main_11 rfl rfl rfl (by decide) ?_
  refine j_iload_n d_Main_reaches_56 rfl ?_
  refine j_aaldN (b := 115 + 2 * b) d_Main_reaches_57 rfl (by decide) (by omega) (by decide) (jrf_slot _ (by omega)) (by omega) ?_
  refine j_sipush (v := nI 1000) d_Main_reaches_58 (by decide) ?_
  refine j_callVs (As := [.ref (115 + 2 * s), .ref (115 + 2 * b), .int (nI 1000)]) (st := []) (x_firstLike_some (isT_slot s hs) (isT_slot b hb) (hP s hs) (hw s) (hP b hb) (hw b) (by omega) (by omega) he hl hn hc) d_Main_reaches_61 (by decide) jm_Powers_firstLike jk_Main_188 ji_Powers_firstLike js_Powers_firstLike rfl (by decide) rfl rfl (Nat.le_of_ble_eq_true rfl) rfl ?_
  refine j_istore_n (L' := [some (.ref 0), some (.int (nI s)), some (.int (nI b)), some (.int (nI (e + 1)))]) d_Main_reaches_64 (by decide) rfl rfl ?_
  refine j_iload_n d_Main_reaches_65 rfl ?_
  refine j_if_neN_t (tgt := 74) d_Main_reaches_66 (by decide) (by omega) (by omega) ?_
  refine j_iload_n d_Main_reaches_74 rfl ?_
  subst hres
  exact j_reti d_Main_reaches_75 rfl rfl
theorem x_reaches_none {n : jN} {h : jH} {P : jP} (hw : ∀ q, tw (P q)) (hP : slo h P) {s b : Nat} (hs : s < 6) (h0 : 0 < (P s).1) (hb : b < 6) (h0b : 0 < (P b).1) (hab : (P s).1 = (P b).1) {e : Nat} (he : e < 1000) (hn : ∀ j, j ≤ e → tlik (tpo (P s) j) (P b) = false) (hc1 : mkf e < e + 1) (hc2 : tlik (tpo (P s) e) (tpo (P s) (mkf e - 1)) = true) (hc : ∀ j, j < e → ¬ (mkf j < j + 1 ∧ tlik (tpo (P s) j) (tpo (P s) (mkf j - 1)) = true)) : jC n 3 jy_Main_reaches jc_Main_reaches 4 (some .int) [.ref 0, .int (nI s), .int (nI b)] h (some (.int (-2))) (flH h (P s) e) := by
  have hna := (hw s).1
  have hnb := (hw b).1
  refine jC_of jm_Main_reaches (L := [some (.ref 0), some (.int (nI s)), some (.int (nI b)), none]) (Nat.le_of_ble_eq_true rfl) rfl trivial ?_
  generalize hres : (((some (.int (-2))), flH h (P s) e) : Option Value × jH) = res
  refine j_aload_n d_Main_reaches_0 rfl ?_
  refine j_iload_n d_Main_reaches_1 rfl ?_
  refine j_callVs (As := [.int (nI s)]) (st := []) (x_noTable hw hP) d_Main_reaches_2 (by decide) jm_Main_noTable jk_Main_103 ji_Main_noTable js_Main_noTable rfl (by decide) rfl rfl (Nat.le_of_ble_eq_true rfl) rfl ?_
  refine j_if_neB_f (tgt := 16) d_Main_reaches_5 (by decide) (ho_n hs h0) ?_
  refine j_aload_n d_Main_reaches_8 rfl ?_
  refine j_iload_n d_Main_reaches_9 rfl ?_
  refine j_callVs (As := [.int (nI b)]) (st := []) (x_noTable hw hP) d_Main_reaches_10 (by decide) jm_Main_noTable jk_Main_103 ji_Main_noTable js_Main_noTable rfl (by decide) rfl rfl (Nat.le_of_ble_eq_true rfl) rfl ?_
  refine j_if_eqB_t (tgt := 18) d_Main_reaches_13 (by decide) (ho_n hb h0b) ?_
  refine j_aload_n d_Main_reaches_18 rfl ?_
  refine j_getr (b := 1) d_Main_reaches_19 jf_Main_11 rfl rfl rfl (by decide) ?_
  refine j_iload_n d_Main_reaches_22 rfl ?_
  refine j_aaldN (b := 115 + 2 * s) d_Main_reaches_23 rfl (by decide) (by omega) (by decide) (jrf_slot _ (by omega)) (by omega) ?_
  refine j_getv (v := nI ((P s).1)) d_Main_reaches_24 jf_Main_106 (isT_slot s (by omega)).1 rfl (hP s (by omega)).1 ?_
  refine j_aload_n d_Main_reaches_27 rfl ?_
  refine j_getr (b := 1) d_Main_reaches_28 jf_Main_11 rfl rfl rfl (by decide) ?_
  refine j_iload_n d_Main_reaches_31 rfl ?_
  refine j_aaldN (b := 115 + 2 * b) d_Main_reaches_32 rfl (by decide) (by omega) (by decide) (jrf_slot _ (by omega)) (by omega) ?_
  refine j_getv (v := nI ((P b).1)) d_Main_reaches_33 jf_Main_106 (isT_slot b (by omega)).1 rfl (hP b (by omega)).1 ?_
  refine j_icmp_eqN_t (tgt := 42) d_Main_reaches_36 (by decide) (by omega) (by omega) hab ?_
  refine j_aload_n d_Main_reaches_42 rfl ?_
  refine j_getr (b := 46) d_Main_reaches_43 jf_Main_31 rfl rfl rfl (by decide) ?_
  refine j_aload_n d_Main_reaches_46 rfl ?_
  refine j_getr (b := 1) d_Main_reaches_47 jf_Main_11 rfl rfl rfl (by decide) ?_
  refine j_iload_n d_Main_reaches_50 rfl ?_
  refine j_aaldN (b := 115 + 2 * s) d_Main_reaches_51 rfl (by decide) (by omega) (by decide) (jrf_slot _ (by omega)) (by omega) ?_
  refine j_aload_n d_Main_reaches_52 rfl ?_
  refine j_getr (b := 1) d_Main_reaches_53 jf_Main_11 rfl rfl rfl (by decide) ?_
  refine j_iload_n d_Main_reaches_56 rfl ?_
  refine j_aaldN (b := 115 + 2 * b) d_Main_reaches_57 rfl (by decide) (by omega) (by decide) (jrf_slot _ (by omega)) (by omega) ?_
  refine j_sipush (v := nI 1000) d_Main_reaches_58 (by decide) ?_
  refine j_callVs (As := [.ref (115 + 2 * s), .ref (115 + 2 * b), .int (nI 1000)]) (st := []) (x_firstLike_none (isT_slot s hs) (isT_slot b hb) (hP s hs) (hw s) (hP b hb) (hw b) (by omega) (by omega) he hn hc1 hc2 hc) d_Main_reaches_61 (by decide) jm_Powers_firstLike jk_Main_188 ji_Powers_firstLike js_Powers_firstLike rfl (by decide) rfl rfl (Nat.le_of_ble_eq_true rfl) rfl ?_
  refine j_istore_n (L' := [some (.ref 0), some (.int (nI s)), some (.int (nI b)), some (.int (nI 0))]) d_Main_reaches_64 (by decide) rfl rfl ?_
  refine j_iload_n d_Main_reaches_65 rfl ?_
  refine j_if_neN_f (tgt := 74) d_Main_reaches_66 (by decide) (by omega) (by decide) ?_
  refine j_bipush (v := -2) d_Main_reaches_69 (by decide) ?_
  refine j_goto (tgt := 75) d_Main_reaches_71 (by decide) ?_
  subst hres
  exact j_reti d_Main_reaches_75 rfl rfl
theorem x_bound_bad {n : jN} {h : jH} {P : jP} (hw : ∀ q, tw (P q)) (hP : slo h P) {s w : Int32} (hb : jokBound P s w = false) : jC n 4 jy_Main_bound jc_Main_bound 6 (some .int) [.ref 0, .int s, .int w] h (some (.int (-1))) h := by
  refine jC_of jm_Main_bound (L := [some (.ref 0), some (.int s), some (.int w), none, none, none]) (Nat.le_of_ble_eq_true rfl) rfl trivial ?_
  generalize hres : (((some (.int (-1))), h) : Option Value × jH) = res
  refine j_aload_n d_Main_bound_0 rfl ?_
  refine j_iload_n d_Main_bound_1 rfl ?_
  refine j_callVs (As := [.int s]) (st := []) (x_noTable hw hP) d_Main_bound_2 (by decide) jm_Main_noTable jk_Main_103 ji_Main_noTable js_Main_noTable rfl (by decide) rfl rfl (Nat.le_of_ble_eq_true rfl) rfl ?_
  refine j_if_neB (tgt := 17) d_Main_bound_5 (by decide) (fun c1 => ?_) (fun c1 => ?_)
  · refine j_iconst (v := -1) d_Main_bound_17 rfl ?_
    subst hres
    exact j_reti d_Main_bound_18 rfl rfl
  · refine j_iload_n d_Main_bound_8 rfl ?_
    refine j_iconst (v := nI 0) d_Main_bound_9 rfl ?_
    refine j_iconst (v := nI 3) d_Main_bound_10 rfl ?_
    refine j_callSs (As := [.int w, .int (nI 0), .int (nI 3)]) (st := []) x_outOf d_Main_bound_11 (by decide) jm_Main_outOf jk_Main_69 js_Main_outOf rfl (Nat.le_of_ble_eq_true rfl) rfl ?_
    refine j_if_eqB (tgt := 19) d_Main_bound_14 (by decide) (fun c2 => ?_) (fun c2 => ?_)
    · rw [oo_jin (by omega) (by omega)] at c2
      exact absurd hb (by simp_all [jokBound])
    · refine j_iconst (v := -1) d_Main_bound_17 rfl ?_
      subst hres
      exact j_reti d_Main_bound_18 rfl rfl
theorem x_bound_none {n : jN} {h : jH} {P : jP} (hw : ∀ q, tw (P q)) (hP : slo h P) {s : Nat} (hs : s < 6) (h0 : 0 < (P s).1) {w : Nat} (hw4 : w < 4) (hn : ∀ j, j < ((P s).1 - 1) * ((P s).1 - 1) + 1 → tful (tpo (P s) j) (tpo (P s) j).1 (tpo (P s) j).1 = false) : jC n 4 jy_Main_bound jc_Main_bound 6 (some .int) [.ref 0, .int (nI s), .int (nI w)] h (some (.int (-2))) (exH h (P s) (((P s).1 - 1) * ((P s).1 - 1) + 1)) := by
  refine jC_of jm_Main_bound (L := [some (.ref 0), some (.int (nI s)), some (.int (nI w)), none, none, none]) (Nat.le_of_ble_eq_true rfl) rfl trivial ?_
  generalize hres : (((some (.int (-2))), exH h (P s) (((P s).1 - 1) * ((P s).1 - 1) + 1)) : Option Value × jH) = res
  have hn12 := (hw s).1
  have hsq : ((P s).1 - 1) * ((P s).1 - 1) ≤ 11 * 11 := Nat.mul_le_mul (by omega) (by omega)
  refine j_aload_n d_Main_bound_0 rfl ?_
  refine j_iload_n d_Main_bound_1 rfl ?_
  refine j_callVs (As := [.int (nI s)]) (st := []) (x_noTable hw hP) d_Main_bound_2 (by decide) jm_Main_noTable jk_Main_103 ji_Main_noTable js_Main_noTable rfl (by decide) rfl rfl (Nat.le_of_ble_eq_true rfl) rfl ?_
  refine j_if_neB_f (tgt := 17) d_Main_bound_5 (by decide) (ho_n hs h0) ?_
  refine j_iload_n d_Main_bound_8 rfl ?_
  refine j_iconst (v := nI 0) d_Main_bound_9 rfl ?_
  refine j_iconst (v := nI 3) d_Main_bound_10 rfl ?_
  refine j_callSs (As := [.int (nI w), .int (nI 0), .int (nI 3)]) (st := []) x_outOf d_Main_bound_11 (by decide) jm_Main_outOf jk_Main_69 js_Main_outOf rfl (Nat.le_of_ble_eq_true rfl) rfl ?_
  refine j_if_eqB_t (tgt := 19) d_Main_bound_14 (by decide) (oo_n (by omega) (by omega) (by omega)) ?_
  refine j_aload_n d_Main_bound_19 rfl ?_
  refine j_getr (b := 1) d_Main_bound_20 jf_Main_11 rfl rfl rfl (by decide) ?_
  refine j_iload_n d_Main_bound_23 rfl ?_
  refine j_aaldN (b := 115 + 2 * s) d_Main_bound_24 rfl (by decide) (by omega) (by decide) (jrf_slot _ (by omega)) (by omega) ?_
  refine j_astore_n (L' := [some (.ref 0), some (.int (nI s)), some (.int (nI w)), some (.ref (115 + 2 * s)), none, none]) d_Main_bound_25 (by decide) rfl rfl ?_
  refine j_aload_n d_Main_bound_26 rfl ?_
  refine j_getv (v := nI ((P s).1)) d_Main_bound_27 jf_Main_106 (isT_slot s (by omega)).1 rfl (hP s (by omega)).1 ?_
  refine j_istore (L' := [some (.ref 0), some (.int (nI s)), some (.int (nI w)), some (.ref (115 + 2 * s)), some (.int (nI ((P s).1))), none]) d_Main_bound_30 (by decide) rfl rfl ?_
  refine j_aload_n d_Main_bound_32 rfl ?_
  refine j_getr (b := 46) d_Main_bound_33 jf_Main_31 rfl rfl rfl (by decide) ?_
  refine j_aload_n d_Main_bound_36 rfl ?_
  refine j_callVs (As := [.ref (115 + 2 * s)]) (st := []) (x_exponent_none (isT_slot s hs) (hP s hs) (hw s) h0 (by omega) hn) d_Main_bound_37 (by decide) jm_Powers_exponent jk_Main_162 ji_Powers_exponent js_Powers_exponent rfl (by decide) rfl rfl (Nat.le_of_ble_eq_true rfl) rfl ?_
  refine j_if_neN_f (tgt := 46) d_Main_bound_40 (by decide) (by omega) (by decide) ?_
  refine j_bipush (v := -2) d_Main_bound_43 (by decide) ?_
  subst hres
  exact j_reti d_Main_bound_45 rfl rfl
theorem x_bound0 {n : jN} {h : jH} {P : jP} (hw : ∀ q, tw (P q)) (hP : slo h P) {s : Nat} (hs : s < 6) (h0 : 0 < (P s).1) {e : Nat} (he1 : e < ((P s).1 - 1) * ((P s).1 - 1) + 1) (he2 : tful (tpo (P s) e) (tpo (P s) e).1 (tpo (P s) e).1 = true) (hn : ∀ j, j < e → tful (tpo (P s) j) (tpo (P s) j).1 (tpo (P s) j).1 = false) : jC n 4 jy_Main_bound jc_Main_bound 6 (some .int) [.ref 0, .int (nI s), .int (nI 0)] h (some (.int (nI (((P s).1 - 1) * ((P s).1 - 1) + 1)))) (exH h (P s) e) := by
  refine jC_of jm_Main_bound (L := [some (.ref 0), some (.int (nI s)), some (.int (nI 0)), none, none, none]) (Nat.le_of_ble_eq_true rfl) rfl trivial ?_
  generalize hres : (((some (.int (nI (((P s).1 - 1) * ((P s).1 - 1) + 1)))), exH h (P s) e) : Option Value × jH) = res
  have hn12 := (hw s).1
  have hsq : ((P s).1 - 1) * ((P s).1 - 1) ≤ 11 * 11 := Nat.mul_le_mul (by omega) (by omega)
  refine j_aload_n d_Main_bound_0 rfl ?_
  refine j_iload_n d_Main_bound_1 rfl ?_
  refine j_callVs (As := [.int (nI s)]) (st := []) (x_noTable hw hP) d_Main_bound_2 (by decide) jm_Main_noTable jk_Main_103 ji_Main_noTable js_Main_noTable rfl (by decide) rfl rfl (Nat.le_of_ble_eq_true rfl) rfl ?_
  refine j_if_neB_f (tgt := 17) d_Main_bound_5 (by decide) (ho_n hs h0) ?_
  refine j_iload_n d_Main_bound_8 rfl ?_
  refine j_iconst (v := nI 0) d_Main_bound_9 rfl ?_
  refine j_iconst (v := nI 3) d_Main_bound_10 rfl ?_
  refine j_callSs (As := [.int (nI 0), .int (nI 0), .int (nI 3)]) (st := []) x_outOf d_Main_bound_11 (by decide) jm_Main_outOf jk_Main_69 js_Main_outOf rfl (Nat.le_of_ble_eq_true rfl) rfl ?_
  refine j_if_eqB_t (tgt := 19) d_Main_bound_14 (by decide) (oo_n (by omega) (by omega) (by omega)) ?_
  refine j_aload_n d_Main_bound_19 rfl ?_
  refine j_getr (b := 1) d_Main_bound_20 jf_Main_11 rfl rfl rfl (by decide) ?_
  refine j_iload_n d_Main_bound_23 rfl ?_
  refine j_aaldN (b := 115 + 2 * s) d_Main_bound_24 rfl (by decide) (by omega) (by decide) (jrf_slot _ (by omega)) (by omega) ?_
  refine j_astore_n (L' := [some (.ref 0), some (.int (nI s)), some (.int (nI 0)), some (.ref (115 + 2 * s)), none, none]) d_Main_bound_25 (by decide) rfl rfl ?_
  refine j_aload_n d_Main_bound_26 rfl ?_
  refine j_getv (v := nI ((P s).1)) d_Main_bound_27 jf_Main_106 (isT_slot s (by omega)).1 rfl (hP s (by omega)).1 ?_
  refine j_istore (L' := [some (.ref 0), some (.int (nI s)), some (.int (nI 0)), some (.ref (115 + 2 * s)), some (.int (nI ((P s).1))), none]) d_Main_bound_30 (by decide) rfl rfl ?_
  refine j_aload_n d_Main_bound_32 rfl ?_
  refine j_getr (b := 46) d_Main_bound_33 jf_Main_31 rfl rfl rfl (by decide) ?_
  refine j_aload_n d_Main_bound_36 rfl ?_
  refine j_callVs (As := [.ref (115 + 2 * s)]) (st := []) (x_exponent_some (isT_slot s hs) (hP s hs) (hw s) h0 (by omega) he1 he2 hn) d_Main_bound_37 (by decide) jm_Powers_exponent jk_Main_162 ji_Powers_exponent js_Powers_exponent rfl (by decide) rfl rfl (Nat.le_of_ble_eq_true rfl) rfl ?_
  refine j_if_neN_t (tgt := 46) d_Main_bound_40 (by decide) (by omega) (by omega) ?_
  refine j_iload_n d_Main_bound_46 rfl ?_
  refine j_if_neN_f (tgt := 62) d_Main_bound_47 (by decide) (by omega) (by decide) ?_
  refine j_iload d_Main_bound_50 rfl ?_
  refine j_iconst (v := nI 1) d_Main_bound_52 rfl ?_
  refine j_isubN d_Main_bound_53 (by omega) ?_
  refine j_iload d_Main_bound_54 rfl ?_
  refine j_iconst (v := nI 1) d_Main_bound_56 rfl ?_
  refine j_isubN d_Main_bound_57 (by omega) ?_
  refine j_imulN d_Main_bound_58 ?_
  refine j_iconst (v := nI 1) d_Main_bound_59 rfl ?_
  refine j_iaddN d_Main_bound_60 ?_
  subst hres
  exact j_reti d_Main_bound_61 rfl rfl
theorem x_bound1 {n : jN} {h : jH} {P : jP} (hw : ∀ q, tw (P q)) (hP : slo h P) {s : Nat} (hs : s < 6) (h0 : 0 < (P s).1) {e : Nat} (he1 : e < ((P s).1 - 1) * ((P s).1 - 1) + 1) (he2 : tful (tpo (P s) e) (tpo (P s) e).1 (tpo (P s) e).1 = true) (hn : ∀ j, j < e → tful (tpo (P s) j) (tpo (P s) j).1 (tpo (P s) j).1 = false) (okr : okR (P s)) (hnb : 0 < rNb (P s)) : jC n 4 jy_Main_bound jc_Main_bound 6 (some .int) [.ref 0, .int (nI s), .int (nI 1)] h (some (.int (nI (P s).1 + nI (grO (P s) (rHm (P s)) (P s).1 0) * (nI (P s).1 - nI 2)))) (rdK (exH h (P s) e) (P s) (rNb (P s))) := by
  refine jC_of jm_Main_bound (L := [some (.ref 0), some (.int (nI s)), some (.int (nI 1)), none, none, none]) (Nat.le_of_ble_eq_true rfl) rfl trivial ?_
  generalize hres : (((some (.int (nI (P s).1 + nI (grO (P s) (rHm (P s)) (P s).1 0) * (nI (P s).1 - nI 2)))), rdK (exH h (P s) e) (P s) (rNb (P s))) : Option Value × jH) = res
  obtain ⟨g1, g2, g3, g4, g5, g6, g7, g8⟩ := rdK_rgs (h := exH h (P s) e) (hw s) okr
  have hn12 := (hw s).1
  have hsq : ((P s).1 - 1) * ((P s).1 - 1) ≤ 11 * 11 := Nat.mul_le_mul (by omega) (by omega)
  refine j_aload_n d_Main_bound_0 rfl ?_
  refine j_iload_n d_Main_bound_1 rfl ?_
  refine j_callVs (As := [.int (nI s)]) (st := []) (x_noTable hw hP) d_Main_bound_2 (by decide) jm_Main_noTable jk_Main_103 ji_Main_noTable js_Main_noTable rfl (by decide) rfl rfl (Nat.le_of_ble_eq_true rfl) rfl ?_
  refine j_if_neB_f (tgt := 17) d_Main_bound_5 (by decide) (ho_n hs h0) ?_
  refine j_iload_n d_Main_bound_8 rfl ?_
  refine j_iconst (v := nI 0) d_Main_bound_9 rfl ?_
  refine j_iconst (v := nI 3) d_Main_bound_10 rfl ?_
  refine j_callSs (As := [.int (nI 1), .int (nI 0), .int (nI 3)]) (st := []) x_outOf d_Main_bound_11 (by decide) jm_Main_outOf jk_Main_69 js_Main_outOf rfl (Nat.le_of_ble_eq_true rfl) rfl ?_
  refine j_if_eqB_t (tgt := 19) d_Main_bound_14 (by decide) (oo_n (by omega) (by omega) (by omega)) ?_
  refine j_aload_n d_Main_bound_19 rfl ?_
  refine j_getr (b := 1) d_Main_bound_20 jf_Main_11 rfl rfl rfl (by decide) ?_
  refine j_iload_n d_Main_bound_23 rfl ?_
  refine j_aaldN (b := 115 + 2 * s) d_Main_bound_24 rfl (by decide) (by omega) (by decide) (jrf_slot _ (by omega)) (by omega) ?_
  refine j_astore_n (L' := [some (.ref 0), some (.int (nI s)), some (.int (nI 1)), some (.ref (115 + 2 * s)), none, none]) d_Main_bound_25 (by decide) rfl rfl ?_
  refine j_aload_n d_Main_bound_26 rfl ?_
  refine j_getv (v := nI ((P s).1)) d_Main_bound_27 jf_Main_106 (isT_slot s (by omega)).1 rfl (hP s (by omega)).1 ?_
  refine j_istore (L' := [some (.ref 0), some (.int (nI s)), some (.int (nI 1)), some (.ref (115 + 2 * s)), some (.int (nI ((P s).1))), none]) d_Main_bound_30 (by decide) rfl rfl ?_
  refine j_aload_n d_Main_bound_32 rfl ?_
  refine j_getr (b := 46) d_Main_bound_33 jf_Main_31 rfl rfl rfl (by decide) ?_
  refine j_aload_n d_Main_bound_36 rfl ?_
  refine j_callVs (As := [.ref (115 + 2 * s)]) (st := []) (x_exponent_some (isT_slot s hs) (hP s hs) (hw s) h0 (by omega) he1 he2 hn) d_Main_bound_37 (by decide) jm_Powers_exponent jk_Main_162 ji_Powers_exponent js_Powers_exponent rfl (by decide) rfl rfl (Nat.le_of_ble_eq_true rfl) rfl ?_
  refine j_if_neN_t (tgt := 46) d_Main_bound_40 (by decide) (by omega) (by omega) ?_
  refine j_iload_n d_Main_bound_46 rfl ?_
  refine j_if_neN_t (tgt := 62) d_Main_bound_47 (by decide) (by omega) (by decide) ?_
  refine j_iload_n d_Main_bound_62 rfl ?_
  refine j_iconst (v := nI 1) d_Main_bound_63 rfl ?_
  refine j_icmp_neN_f (tgt := 93) d_Main_bound_64 (by decide) (by omega) (by omega) (by decide) ?_
  refine j_aload_n d_Main_bound_67 rfl ?_
  refine j_getr (b := 51) d_Main_bound_68 jf_Main_38 rfl rfl rfl (by decide) ?_
  refine j_aload_n d_Main_bound_71 rfl ?_
  refine j_callVn (As := [.ref (115 + 2 * s)]) (st := []) (x_readC (isT_slot s hs) (rep_of (exH_f (by omega) _) (exH_f (by omega) _) (hP s hs)) (hw s) (by omega) okr) d_Main_bound_72 (by decide) jm_Rings_read jk_Main_192 ji_Rings_read js_Rings_read rfl (by decide) rfl rfl (Nat.le_of_ble_eq_true rfl) rfl ?_
  refine j_iload d_Main_bound_75 rfl ?_
  refine j_aload_n d_Main_bound_77 rfl ?_
  refine j_getr (b := 51) d_Main_bound_78 jf_Main_38 rfl rfl rfl (by decide) ?_
  refine j_getr (b := 55) d_Main_bound_81 jf_Main_195 rfl rfl rfl (by decide) ?_
  refine j_iconst (v := nI 0) d_Main_bound_84 rfl ?_
  refine j_ialdN (v := nI (grO (P s) (rHm (P s)) (P s).1 0)) d_Main_bound_85 rfl (by omega) (by decide) (g4 0 hnb) ?_
  refine j_iload d_Main_bound_86 rfl ?_
  refine j_iconst (v := nI 2) d_Main_bound_88 rfl ?_
  refine j_isub d_Main_bound_89 ?_
  refine j_imul d_Main_bound_90 ?_
  refine j_iadd d_Main_bound_91 ?_
  subst hres
  exact j_reti d_Main_bound_92 rfl rfl
theorem x_bound2_0 {n : jN} {h : jH} {P : jP} (hw : ∀ q, tw (P q)) (hP : slo h P) {s : Nat} (hs : s < 6) (h0 : 0 < (P s).1) {e : Nat} (he1 : e < ((P s).1 - 1) * ((P s).1 - 1) + 1) (he2 : tful (tpo (P s) e) (tpo (P s) e).1 (tpo (P s) e).1 = true) (hn : ∀ j, j < e → tful (tpo (P s) j) (tpo (P s) j).1 (tpo (P s) j).1 = false) (ho : own (P s) (P s).1 = 0) : jC n 4 jy_Main_bound jc_Main_bound 6 (some .int) [.ref 0, .int (nI s), .int (nI 2)] h (some (.int (-2))) (exH h (P s) e) := by
  refine jC_of jm_Main_bound (L := [some (.ref 0), some (.int (nI s)), some (.int (nI 2)), none, none, none]) (Nat.le_of_ble_eq_true rfl) rfl trivial ?_
  generalize hres : (((some (.int (-2))), exH h (P s) e) : Option Value × jH) = res
  have hol := own_le (P s) (P s).1
  have hn12 := (hw s).1
  have hsq : ((P s).1 - 1) * ((P s).1 - 1) ≤ 11 * 11 := Nat.mul_le_mul (by omega) (by omega)
  refine j_aload_n d_Main_bound_0 rfl ?_
  refine j_iload_n d_Main_bound_1 rfl ?_
  refine j_callVs (As := [.int (nI s)]) (st := []) (x_noTable hw hP) d_Main_bound_2 (by decide) jm_Main_noTable jk_Main_103 ji_Main_noTable js_Main_noTable rfl (by decide) rfl rfl (Nat.le_of_ble_eq_true rfl) rfl ?_
  refine j_if_neB_f (tgt := 17) d_Main_bound_5 (by decide) (ho_n hs h0) ?_
  refine j_iload_n d_Main_bound_8 rfl ?_
  refine j_iconst (v := nI 0) d_Main_bound_9 rfl ?_
  refine j_iconst (v := nI 3) d_Main_bound_10 rfl ?_
  refine j_callSs (As := [.int (nI 2), .int (nI 0), .int (nI 3)]) (st := []) x_outOf d_Main_bound_11 (by decide) jm_Main_outOf jk_Main_69 js_Main_outOf rfl (Nat.le_of_ble_eq_true rfl) rfl ?_
  refine j_if_eqB_t (tgt := 19) d_Main_bound_14 (by decide) (oo_n (by omega) (by omega) (by omega)) ?_
  refine j_aload_n d_Main_bound_19 rfl ?_
  refine j_getr (b := 1) d_Main_bound_20 jf_Main_11 rfl rfl rfl (by decide) ?_
  refine j_iload_n d_Main_bound_23 rfl ?_
  refine j_aaldN (b := 115 + 2 * s) d_Main_bound_24 rfl (by decide) (by omega) (by decide) (jrf_slot _ (by omega)) (by omega) ?_
  refine j_astore_n (L' := [some (.ref 0), some (.int (nI s)), some (.int (nI 2)), some (.ref (115 + 2 * s)), none, none]) d_Main_bound_25 (by decide) rfl rfl ?_
  refine j_aload_n d_Main_bound_26 rfl ?_
  refine j_getv (v := nI ((P s).1)) d_Main_bound_27 jf_Main_106 (isT_slot s (by omega)).1 rfl (hP s (by omega)).1 ?_
  refine j_istore (L' := [some (.ref 0), some (.int (nI s)), some (.int (nI 2)), some (.ref (115 + 2 * s)), some (.int (nI ((P s).1))), none]) d_Main_bound_30 (by decide) rfl rfl ?_
  refine j_aload_n d_Main_bound_32 rfl ?_
  refine j_getr (b := 46) d_Main_bound_33 jf_Main_31 rfl rfl rfl (by decide) ?_
  refine j_aload_n d_Main_bound_36 rfl ?_
  refine j_callVs (As := [.ref (115 + 2 * s)]) (st := []) (x_exponent_some (isT_slot s hs) (hP s hs) (hw s) h0 (by omega) he1 he2 hn) d_Main_bound_37 (by decide) jm_Powers_exponent jk_Main_162 ji_Powers_exponent js_Powers_exponent rfl (by decide) rfl rfl (Nat.le_of_ble_eq_true rfl) rfl ?_
  refine j_if_neN_t (tgt := 46) d_Main_bound_40 (by decide) (by omega) (by omega) ?_
  refine j_iload_n d_Main_bound_46 rfl ?_
  refine j_if_neN_t (tgt := 62) d_Main_bound_47 (by decide) (by omega) (by decide) ?_
  refine j_iload_n d_Main_bound_62 rfl ?_
  refine j_iconst (v := nI 1) d_Main_bound_63 rfl ?_
  refine j_icmp_neN_t (tgt := 93) d_Main_bound_64 (by decide) (by omega) (by omega) (by decide) ?_
  refine j_iload_n d_Main_bound_93 rfl ?_
  refine j_iconst (v := nI 2) d_Main_bound_94 rfl ?_
  refine j_icmp_neN_f (tgt := 124) d_Main_bound_95 (by decide) (by omega) (by omega) (by decide) ?_
  refine j_aload_n d_Main_bound_98 rfl ?_
  refine j_callVs (As := []) (st := []) (x_loops (isT_slot s hs) (rep_of (exH_f (by omega) _) (exH_f (by omega) _) (hP s hs)) (hw s)) d_Main_bound_99 (by decide) jm_Table_loops jk_Main_198 ji_Table_loops js_Table_loops (isT_slot s (by omega)).1 (by decide) rfl rfl (Nat.le_of_ble_eq_true rfl) rfl ?_
  refine j_istore (L' := [some (.ref 0), some (.int (nI s)), some (.int (nI 2)), some (.ref (115 + 2 * s)), some (.int (nI ((P s).1))), some (.int (nI (own (P s) ((P s)).1)))]) d_Main_bound_102 (by decide) rfl rfl ?_
  refine j_iload d_Main_bound_104 rfl ?_
  refine j_if_neN_f (tgt := 114) d_Main_bound_106 (by decide) (by omega) ho ?_
  refine j_bipush (v := -2) d_Main_bound_109 (by decide) ?_
  refine j_goto (tgt := 123) d_Main_bound_111 (by decide) ?_
  subst hres
  exact j_reti d_Main_bound_123 rfl rfl
theorem x_bound2_1 {n : jN} {h : jH} {P : jP} (hw : ∀ q, tw (P q)) (hP : slo h P) {s : Nat} (hs : s < 6) (h0 : 0 < (P s).1) {e : Nat} (he1 : e < ((P s).1 - 1) * ((P s).1 - 1) + 1) (he2 : tful (tpo (P s) e) (tpo (P s) e).1 (tpo (P s) e).1 = true) (hn : ∀ j, j < e → tful (tpo (P s) j) (tpo (P s) j).1 (tpo (P s) j).1 = false) (ho : ¬ own (P s) (P s).1 = 0) : jC n 4 jy_Main_bound jc_Main_bound 6 (some .int) [.ref 0, .int (nI s), .int (nI 2)] h (some (.int (nI (2 * (P s).1 - own (P s) (P s).1 - 1)))) (exH h (P s) e) := by
  refine jC_of jm_Main_bound (L := [some (.ref 0), some (.int (nI s)), some (.int (nI 2)), none, none, none]) (Nat.le_of_ble_eq_true rfl) rfl trivial ?_
  generalize hres : (((some (.int (nI (2 * (P s).1 - own (P s) (P s).1 - 1)))), exH h (P s) e) : Option Value × jH) = res
  have hol := own_le (P s) (P s).1
  have hn12 := (hw s).1
  have hsq : ((P s).1 - 1) * ((P s).1 - 1) ≤ 11 * 11 := Nat.mul_le_mul (by omega) (by omega)
  refine j_aload_n d_Main_bound_0 rfl ?_
  refine j_iload_n d_Main_bound_1 rfl ?_
  refine j_callVs (As := [.int (nI s)]) (st := []) (x_noTable hw hP) d_Main_bound_2 (by decide) jm_Main_noTable jk_Main_103 ji_Main_noTable js_Main_noTable rfl (by decide) rfl rfl (Nat.le_of_ble_eq_true rfl) rfl ?_
  refine j_if_neB_f (tgt := 17) d_Main_bound_5 (by decide) (ho_n hs h0) ?_
  refine j_iload_n d_Main_bound_8 rfl ?_
  refine j_iconst (v := nI 0) d_Main_bound_9 rfl ?_
  refine j_iconst (v := nI 3) d_Main_bound_10 rfl ?_
  refine j_callSs (As := [.int (nI 2), .int (nI 0), .int (nI 3)]) (st := []) x_outOf d_Main_bound_11 (by decide) jm_Main_outOf jk_Main_69 js_Main_outOf rfl (Nat.le_of_ble_eq_true rfl) rfl ?_
  refine j_if_eqB_t (tgt := 19) d_Main_bound_14 (by decide) (oo_n (by omega) (by omega) (by omega)) ?_
  refine j_aload_n d_Main_bound_19 rfl ?_
  refine j_getr (b := 1) d_Main_bound_20 jf_Main_11 rfl rfl rfl (by decide) ?_
  refine j_iload_n d_Main_bound_23 rfl ?_
  refine j_aaldN (b := 115 + 2 * s) d_Main_bound_24 rfl (by decide) (by omega) (by decide) (jrf_slot _ (by omega)) (by omega) ?_
  refine j_astore_n (L' := [some (.ref 0), some (.int (nI s)), some (.int (nI 2)), some (.ref (115 + 2 * s)), none, none]) d_Main_bound_25 (by decide) rfl rfl ?_
  refine j_aload_n d_Main_bound_26 rfl ?_
  refine j_getv (v := nI ((P s).1)) d_Main_bound_27 jf_Main_106 (isT_slot s (by omega)).1 rfl (hP s (by omega)).1 ?_
  refine j_istore (L' := [some (.ref 0), some (.int (nI s)), some (.int (nI 2)), some (.ref (115 + 2 * s)), some (.int (nI ((P s).1))), none]) d_Main_bound_30 (by decide) rfl rfl ?_
  refine j_aload_n d_Main_bound_32 rfl ?_
  refine j_getr (b := 46) d_Main_bound_33 jf_Main_31 rfl rfl rfl (by decide) ?_
  refine j_aload_n d_Main_bound_36 rfl ?_
  refine j_callVs (As := [.ref (115 + 2 * s)]) (st := []) (x_exponent_some (isT_slot s hs) (hP s hs) (hw s) h0 (by omega) he1 he2 hn) d_Main_bound_37 (by decide) jm_Powers_exponent jk_Main_162 ji_Powers_exponent js_Powers_exponent rfl (by decide) rfl rfl (Nat.le_of_ble_eq_true rfl) rfl ?_
  refine j_if_neN_t (tgt := 46) d_Main_bound_40 (by decide) (by omega) (by omega) ?_
  refine j_iload_n d_Main_bound_46 rfl ?_
  refine j_if_neN_t (tgt := 62) d_Main_bound_47 (by decide) (by omega) (by decide) ?_
  refine j_iload_n d_Main_bound_62 rfl ?_
  refine j_iconst (v := nI 1) d_Main_bound_63 rfl ?_
  refine j_icmp_neN_t (tgt := 93) d_Main_bound_64 (by decide) (by omega) (by omega) (by decide) ?_
  refine j_iload_n d_Main_bound_93 rfl ?_
  refine j_iconst (v := nI 2) d_Main_bound_94 rfl ?_
  refine j_icmp_neN_f (tgt := 124) d_Main_bound_95 (by decide) (by omega) (by omega) (by decide) ?_
  refine j_aload_n d_Main_bound_98 rfl ?_
  refine j_callVs (As := []) (st := []) (x_loops (isT_slot s hs) (rep_of (exH_f (by omega) _) (exH_f (by omega) _) (hP s hs)) (hw s)) d_Main_bound_99 (by decide) jm_Table_loops jk_Main_198 ji_Table_loops js_Table_loops (isT_slot s (by omega)).1 (by decide) rfl rfl (Nat.le_of_ble_eq_true rfl) rfl ?_
  refine j_istore (L' := [some (.ref 0), some (.int (nI s)), some (.int (nI 2)), some (.ref (115 + 2 * s)), some (.int (nI ((P s).1))), some (.int (nI (own (P s) ((P s)).1)))]) d_Main_bound_102 (by decide) rfl rfl ?_
  refine j_iload d_Main_bound_104 rfl ?_
  refine j_if_neN_t (tgt := 114) d_Main_bound_106 (by decide) (by omega) ho ?_
  refine j_iconst (v := nI 2) d_Main_bound_114 rfl ?_
  refine j_iload d_Main_bound_115 rfl ?_
  refine j_imulN d_Main_bound_117 ?_
  refine j_iload d_Main_bound_118 rfl ?_
  refine j_isubN d_Main_bound_120 (by omega) ?_
  refine j_iconst (v := nI 1) d_Main_bound_121 rfl ?_
  refine j_isubN d_Main_bound_122 (by omega) ?_
  subst hres
  exact j_reti d_Main_bound_123 rfl rfl
def xnd3 (T : jT) : Int32 := if tlik (ttr T) T = true then (if T.1 = 1 then nI 1 else nI (2 * T.1 - 2)) else -2
theorem x_bound3 {n : jN} {h : jH} {P : jP} (hw : ∀ q, tw (P q)) (hP : slo h P) {s : Nat} (hs : s < 6) (h0 : 0 < (P s).1) {e : Nat} (he1 : e < ((P s).1 - 1) * ((P s).1 - 1) + 1) (he2 : tful (tpo (P s) e) (tpo (P s) e).1 (tpo (P s) e).1 = true) (hn : ∀ j, j < e → tful (tpo (P s) j) (tpo (P s) j).1 (tpo (P s) j).1 = false) : jC n 4 jy_Main_bound jc_Main_bound 6 (some .int) [.ref 0, .int (nI s), .int (nI 3)] h (some (.int (xnd3 (P s)))) (sT (exH h (P s) e) 113 (ttr (P s))) := by
  refine jC_of jm_Main_bound (L := [some (.ref 0), some (.int (nI s)), some (.int (nI 3)), none, none, none]) (Nat.le_of_ble_eq_true rfl) rfl trivial ?_
  generalize hres : (((some (.int (xnd3 (P s)))), sT (exH h (P s) e) 113 (ttr (P s))) : Option Value × jH) = res
  have hP2 : slo (exH h (P s) e) P := fun q hq => rep_of (exH_f (by omega) _) (exH_f (by omega) _) (hP q hq)
  have hn12 := (hw s).1
  have hsq : ((P s).1 - 1) * ((P s).1 - 1) ≤ 11 * 11 := Nat.mul_le_mul (by omega) (by omega)
  refine j_aload_n d_Main_bound_0 rfl ?_
  refine j_iload_n d_Main_bound_1 rfl ?_
  refine j_callVs (As := [.int (nI s)]) (st := []) (x_noTable hw hP) d_Main_bound_2 (by decide) jm_Main_noTable jk_Main_103 ji_Main_noTable js_Main_noTable rfl (by decide) rfl rfl (Nat.le_of_ble_eq_true rfl) rfl ?_
  refine j_if_neB_f (tgt := 17) d_Main_bound_5 (by decide) (ho_n hs h0) ?_
  refine j_iload_n d_Main_bound_8 rfl ?_
  refine j_iconst (v := nI 0) d_Main_bound_9 rfl ?_
  refine j_iconst (v := nI 3) d_Main_bound_10 rfl ?_
  refine j_callSs (As := [.int (nI 3), .int (nI 0), .int (nI 3)]) (st := []) x_outOf d_Main_bound_11 (by decide) jm_Main_outOf jk_Main_69 js_Main_outOf rfl (Nat.le_of_ble_eq_true rfl) rfl ?_
  refine j_if_eqB_t (tgt := 19) d_Main_bound_14 (by decide) (oo_n (by omega) (by omega) (by omega)) ?_
  refine j_aload_n d_Main_bound_19 rfl ?_
  refine j_getr (b := 1) d_Main_bound_20 jf_Main_11 rfl rfl rfl (by decide) ?_
  refine j_iload_n d_Main_bound_23 rfl ?_
  refine j_aaldN (b := 115 + 2 * s) d_Main_bound_24 rfl (by decide) (by omega) (by decide) (jrf_slot _ (by omega)) (by omega) ?_
  refine j_astore_n (L' := [some (.ref 0), some (.int (nI s)), some (.int (nI 3)), some (.ref (115 + 2 * s)), none, none]) d_Main_bound_25 (by decide) rfl rfl ?_
  refine j_aload_n d_Main_bound_26 rfl ?_
  refine j_getv (v := nI ((P s).1)) d_Main_bound_27 jf_Main_106 (isT_slot s (by omega)).1 rfl (hP s (by omega)).1 ?_
  refine j_istore (L' := [some (.ref 0), some (.int (nI s)), some (.int (nI 3)), some (.ref (115 + 2 * s)), some (.int (nI ((P s).1))), none]) d_Main_bound_30 (by decide) rfl rfl ?_
  refine j_aload_n d_Main_bound_32 rfl ?_
  refine j_getr (b := 46) d_Main_bound_33 jf_Main_31 rfl rfl rfl (by decide) ?_
  refine j_aload_n d_Main_bound_36 rfl ?_
  refine j_callVs (As := [.ref (115 + 2 * s)]) (st := []) (x_exponent_some (isT_slot s hs) (hP s hs) (hw s) h0 (by omega) he1 he2 hn) d_Main_bound_37 (by decide) jm_Powers_exponent jk_Main_162 ji_Powers_exponent js_Powers_exponent rfl (by decide) rfl rfl (Nat.le_of_ble_eq_true rfl) rfl ?_
  refine j_if_neN_t (tgt := 46) d_Main_bound_40 (by decide) (by omega) (by omega) ?_
  refine j_iload_n d_Main_bound_46 rfl ?_
  refine j_if_neN_t (tgt := 62) d_Main_bound_47 (by decide) (by omega) (by decide) ?_
  refine j_iload_n d_Main_bound_62 rfl ?_
  refine j_iconst (v := nI 1) d_Main_bound_63 rfl ?_
  refine j_icmp_neN_t (tgt := 93) d_Main_bound_64 (by decide) (by omega) (by omega) (by decide) ?_
  refine j_iload_n d_Main_bound_93 rfl ?_
  refine j_iconst (v := nI 2) d_Main_bound_94 rfl ?_
  refine j_icmp_neN_t (tgt := 124) d_Main_bound_95 (by decide) (by omega) (by omega) (by decide) ?_
  refine j_aload_n d_Main_bound_124 rfl ?_
  refine j_aload_n d_Main_bound_125 rfl ?_
  refine j_callVs (As := [.ref (115 + 2 * s)]) (st := []) (x_isOwnTranspose hw hP2 hs) d_Main_bound_126 (by decide) jm_Main_isOwnTranspose jk_Main_173 ji_Main_isOwnTranspose js_Main_isOwnTranspose rfl (by decide) rfl rfl (Nat.le_of_ble_eq_true rfl) rfl ?_
  refine j_if_neB (tgt := 135) d_Main_bound_129 (by decide) (fun c => ?_) (fun c => ?_)
  · refine j_iload d_Main_bound_135 rfl ?_
    refine j_iconst (v := nI 1) d_Main_bound_137 rfl ?_
    refine j_icmp_neN (tgt := 145) d_Main_bound_138 (by decide) (by omega) (by omega) (fun c2 => ?_) (fun c2 => ?_)
    · refine j_iconst (v := nI 2) d_Main_bound_145 rfl ?_
      refine j_iload d_Main_bound_146 rfl ?_
      refine j_imulN d_Main_bound_148 ?_
      refine j_iconst (v := nI 2) d_Main_bound_149 rfl ?_
      refine j_isubN d_Main_bound_150 (by omega) ?_
      subst hres
      exact j_reti d_Main_bound_151 (by rw [xnd3, if_pos c]; first | rw [if_pos c2] | rw [if_neg c2]) rfl
    · refine j_iconst (v := nI 1) d_Main_bound_141 rfl ?_
      refine j_goto (tgt := 151) d_Main_bound_142 (by decide) ?_
      subst hres
      exact j_reti d_Main_bound_151 (by rw [xnd3, if_pos c]; first | rw [if_pos c2] | rw [if_neg c2]) rfl
  · refine j_bipush (v := -2) d_Main_bound_132 (by decide) ?_
    subst hres
    exact j_reti d_Main_bound_134 (by rw [xnd3, if_neg (by rw [c]; decide)]) rfl

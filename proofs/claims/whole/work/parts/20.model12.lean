def jokTold (P : jP) (s w : Int32) : Bool := jsl s && jin w 0 7 && (decide (w ≤ 0) || decide (0 < (P s.toNatClampNeg).1))
abbrev lyH (h : jH) (T : jT) (ix pr : Nat) : jH := jup2 (jPw h T (12 * (ix + pr)) ix) 135 12 (nI pr)
theorem lyH_pw {h : jH} {T : jT} {ix pr : Nat} : ∀ k i, 1 ≤ k → k < ix + pr → i < 12 → lyH h T ix pr 142 (12 * k + i) = nI ((tpo T (k - 1)).2 i) := by
  intro k i hk hk2 hi
  have h1 : (12 * k + i) / 12 = k := by omega
  have h2 : (12 * k + i) % 12 = i := by omega
  have h3 : 12 ≤ 12 * k + i ∧ 12 * k + i < 12 * (ix + pr) := by omega
  simp [lyH, jup2, jPw, h1, h2, h3]
theorem c_told_bad {n : jN} {h : jH} {P : jP} {s w : Int32} (hw : ∀ q, tw (P q)) (hb : jokTold P s w = false) : jC n 4 jy_Model_told jc_Model_told 4 (some .int) [.ref 135, .int s, .int w] (jM h P) (some (.int (-1))) (jM h P) := by
  refine jC_of jm_Model_told (L := [some (.ref 135), some (.int s), some (.int w), none]) (Nat.le_of_ble_eq_true rfl) rfl trivial ?_
  generalize hres : (((some (.int (-1))), jM h P) : Option Value × jH) = res
  refine j_iload_n d_Model_told_0 rfl ?_
  refine j_callSs (As := [.int s]) (st := []) c_isSlot d_Model_told_1 (by decide) jm_Model_isSlot jk_Model_63 js_Model_isSlot rfl (Nat.le_of_ble_eq_true rfl) rfl ?_
  refine j_if_eqB (tgt := 32) d_Model_told_4 (by decide) (fun c1 => ?_) (fun c1 => ?_)
  · refine j_iconst (v := -1) d_Model_told_32 rfl ?_
    subst hres
    exact j_reti d_Model_told_33 rfl rfl
  · refine j_iload_n d_Model_told_7 rfl ?_
    refine j_i2l d_Model_told_8 ?_
    refine j_lconst (v := 0) d_Model_told_9 rfl ?_
    refine j_ldc2 (v := 7) d_Model_told_10 jk_Model_162 ?_
    refine j_callSs (As := [.long w.toInt64, .long 0, .long 7]) (st := []) (c_in (x := w) (lo := 0) (hi := 7) rfl rfl rfl) d_Model_told_13 (by decide) jm_Model_in jk_Model_107 js_Model_in rfl (Nat.le_of_ble_eq_true rfl) rfl ?_
    refine j_if_eqB (tgt := 32) d_Model_told_16 (by decide) (fun c2 => ?_) (fun c2 => ?_)
    · refine j_iconst (v := -1) d_Model_told_32 rfl ?_
      subst hres
      exact j_reti d_Model_told_33 rfl rfl
    · obtain ⟨s0, hs0, rfl⟩ := jsl_t c1
      have hn0 := (hw s0).1
      refine j_iload_n d_Model_told_19 rfl ?_
      refine j_if_le (tgt := 34) d_Model_told_20 (by decide) (fun c3 => ?_) (fun c3 => ?_)
      · exact absurd hb (by simp [jokTold, c1, c2, c3])
      · refine j_aload_n d_Model_told_23 rfl ?_
        refine j_getr (b := 137) d_Model_told_24 jf_Model_13 rfl rfl rfl (by decide) ?_
        refine j_iload_n d_Model_told_27 rfl ?_
        refine j_ialdN (v := nI ((P s0).1)) d_Model_told_28 rfl (by omega) (by decide) rfl ?_
        refine j_if_neN (tgt := 34) d_Model_told_29 (by decide) (by omega) (fun c4 => ?_) (fun c4 => ?_)
        · exact absurd hb (by simp [jokTold, c1, c2, nI_clamp (show s0 < 2 ^ 31 by omega)]; omega)
        · refine j_iconst (v := -1) d_Model_told_32 rfl ?_
          subst hres
          exact j_reti d_Model_told_33 rfl rfl
theorem c_told0 {n : jN} {h : jH} {P : jP} {s : Nat} (hw : ∀ q, tw (P q)) (hs : s < 6) : jC n 4 jy_Model_told jc_Model_told 4 (some .int) [.ref 135, .int (nI s), .int (nI 0)] (jM h P) (some (.int (nI ((P s).1)))) (jM h P) := by
  have hn := (hw s).1
  refine jC_of jm_Model_told (L := [some (.ref 135), some (.int (nI s)), some (.int (nI 0)), none]) (Nat.le_of_ble_eq_true rfl) rfl trivial ?_
  generalize hres : (((some (.int (nI ((P s).1)))), jM h P) : Option Value × jH) = res
  refine j_iload_n d_Model_told_0 rfl ?_
  refine j_callSs (As := [.int (nI s)]) (st := []) c_isSlot d_Model_told_1 (by decide) jm_Model_isSlot jk_Model_63 js_Model_isSlot rfl (Nat.le_of_ble_eq_true rfl) rfl ?_
  refine j_if_eqB_f (tgt := 32) d_Model_told_4 (by decide) (jsl_N hs) ?_
  refine j_iload_n d_Model_told_7 rfl ?_
  refine j_i2l d_Model_told_8 ?_
  refine j_lconst (v := 0) d_Model_told_9 rfl ?_
  refine j_ldc2 (v := 7) d_Model_told_10 jk_Model_162 ?_
  refine j_callSs (As := [.long ((nI 0).toInt64), .long 0, .long 7]) (st := []) (c_in (x := (nI 0)) (lo := 0) (hi := 7) rfl rfl rfl) d_Model_told_13 (by decide) jm_Model_in jk_Model_107 js_Model_in rfl (Nat.le_of_ble_eq_true rfl) rfl ?_
  refine j_if_eqB_f (tgt := 32) d_Model_told_16 (by decide) (jin_y (by omega) (by omega) (by omega)) ?_
  refine j_iload_n d_Model_told_19 rfl ?_
  refine j_if_leN_t (tgt := 34) d_Model_told_20 (by decide) (by omega) (by decide) ?_
  refine j_iload_n d_Model_told_34 rfl ?_
  refine j_if_neN_f (tgt := 45) d_Model_told_35 (by decide) (by omega) (by decide) ?_
  refine j_aload_n d_Model_told_38 rfl ?_
  refine j_getr (b := 137) d_Model_told_39 jf_Model_13 rfl rfl rfl (by decide) ?_
  refine j_iload_n d_Model_told_42 rfl ?_
  refine j_ialdN (v := nI ((P s).1)) d_Model_told_43 rfl (by omega) (by decide) rfl ?_
  subst hres
  exact j_reti d_Model_told_44 rfl rfl
theorem c_told1 {n : jN} {h : jH} {P : jP} {s ix pr : Nat} (hw : ∀ q, tw (P q)) (hs : s < 6) (h0 : 0 < (P s).1) (h1 : 1 ≤ ix) (h2 : 1 ≤ pr) (hb : ix + pr ≤ 300) (hd : ∀ i j, 1 ≤ i → i < j → j < ix + pr → jeq (tpo (P s) (i - 1)).2 (tpo (P s) (j - 1)).2 12 = false) (hd2 : ∀ i, 1 ≤ i → i < ix → jeq (tpo (P s) (i - 1)).2 (tpo (P s) (ix + pr - 1)).2 12 = false) (he : jeq (tpo (P s) (ix - 1)).2 (tpo (P s) (ix + pr - 1)).2 12 = true) : jC n 4 jy_Model_told jc_Model_told 4 (some .int) [.ref 135, .int (nI s), .int (nI 1)] (jM h P) (some (.int (nI ix))) (jM (lyH h (P s) ix pr) (lyP P (P s) (ix + pr))) := by
  have hn := (hw s).1
  refine jC_of jm_Model_told (L := [some (.ref 135), some (.int (nI s)), some (.int (nI 1)), none]) (Nat.le_of_ble_eq_true rfl) rfl trivial ?_
  generalize hres : (((some (.int (nI ix))), jM (lyH h (P s) ix pr) (lyP P (P s) (ix + pr))) : Option Value × jH) = res
  refine j_iload_n d_Model_told_0 rfl ?_
  refine j_callSs (As := [.int (nI s)]) (st := []) c_isSlot d_Model_told_1 (by decide) jm_Model_isSlot jk_Model_63 js_Model_isSlot rfl (Nat.le_of_ble_eq_true rfl) rfl ?_
  refine j_if_eqB_f (tgt := 32) d_Model_told_4 (by decide) (jsl_N hs) ?_
  refine j_iload_n d_Model_told_7 rfl ?_
  refine j_i2l d_Model_told_8 ?_
  refine j_lconst (v := 0) d_Model_told_9 rfl ?_
  refine j_ldc2 (v := 7) d_Model_told_10 jk_Model_162 ?_
  refine j_callSs (As := [.long ((nI 1).toInt64), .long 0, .long 7]) (st := []) (c_in (x := (nI 1)) (lo := 0) (hi := 7) rfl rfl rfl) d_Model_told_13 (by decide) jm_Model_in jk_Model_107 js_Model_in rfl (Nat.le_of_ble_eq_true rfl) rfl ?_
  refine j_if_eqB_f (tgt := 32) d_Model_told_16 (by decide) (jin_y (by omega) (by omega) (by omega)) ?_
  refine j_iload_n d_Model_told_19 rfl ?_
  refine j_if_leN_f (tgt := 34) d_Model_told_20 (by decide) (by omega) (by decide) ?_
  refine j_aload_n d_Model_told_23 rfl ?_
  refine j_getr (b := 137) d_Model_told_24 jf_Model_13 rfl rfl rfl (by decide) ?_
  refine j_iload_n d_Model_told_27 rfl ?_
  refine j_ialdN (v := nI ((P s).1)) d_Model_told_28 rfl (by omega) (by decide) rfl ?_
  refine j_if_neN_t (tgt := 34) d_Model_told_29 (by decide) (by omega) (by omega) ?_
  refine j_iload_n d_Model_told_34 rfl ?_
  refine j_if_neN_t (tgt := 45) d_Model_told_35 (by decide) (by omega) (by decide) ?_
  refine j_iload_n d_Model_told_45 rfl ?_
  refine j_iconst (v := nI 5) d_Model_told_46 rfl ?_
  refine j_icmp_geN_f (tgt := 102) d_Model_told_47 (by decide) (by omega) (by omega) (by decide) ?_
  refine j_aload_n d_Model_told_50 rfl ?_
  refine j_iload_n d_Model_told_51 rfl ?_
  refine j_callVn (As := [.int (nI s)]) (st := []) (c_layPowers hw hs rfl h1 h2 hb hd hd2 he) d_Model_told_52 (by decide) jm_Model_layPowers jk_Model_164 ji_Model_layPowers js_Model_layPowers rfl (by decide) rfl rfl (Nat.le_of_ble_eq_true rfl) rfl ?_
  refine j_iload_n d_Model_told_55 rfl ?_
  refine j_iconst (v := nI 1) d_Model_told_56 rfl ?_
  refine j_icmp_neN_f (tgt := 67) d_Model_told_57 (by decide) (by omega) (by omega) (by decide) ?_
  refine j_aload_n d_Model_told_60 rfl ?_
  refine j_getv (v := nI ix) d_Model_told_61 jf_Model_147 rfl rfl rfl ?_
  refine j_goto (tgt := 101) d_Model_told_64 (by decide) ?_
  subst hres
  exact j_reti d_Model_told_101 rfl rfl
theorem c_told2 {n : jN} {h : jH} {P : jP} {s ix pr : Nat} (hw : ∀ q, tw (P q)) (hs : s < 6) (h0 : 0 < (P s).1) (h1 : 1 ≤ ix) (h2 : 1 ≤ pr) (hb : ix + pr ≤ 300) (hd : ∀ i j, 1 ≤ i → i < j → j < ix + pr → jeq (tpo (P s) (i - 1)).2 (tpo (P s) (j - 1)).2 12 = false) (hd2 : ∀ i, 1 ≤ i → i < ix → jeq (tpo (P s) (i - 1)).2 (tpo (P s) (ix + pr - 1)).2 12 = false) (he : jeq (tpo (P s) (ix - 1)).2 (tpo (P s) (ix + pr - 1)).2 12 = true) : jC n 4 jy_Model_told jc_Model_told 4 (some .int) [.ref 135, .int (nI s), .int (nI 2)] (jM h P) (some (.int (nI pr))) (jM (lyH h (P s) ix pr) (lyP P (P s) (ix + pr))) := by
  have hn := (hw s).1
  refine jC_of jm_Model_told (L := [some (.ref 135), some (.int (nI s)), some (.int (nI 2)), none]) (Nat.le_of_ble_eq_true rfl) rfl trivial ?_
  generalize hres : (((some (.int (nI pr))), jM (lyH h (P s) ix pr) (lyP P (P s) (ix + pr))) : Option Value × jH) = res
  refine j_iload_n d_Model_told_0 rfl ?_
  refine j_callSs (As := [.int (nI s)]) (st := []) c_isSlot d_Model_told_1 (by decide) jm_Model_isSlot jk_Model_63 js_Model_isSlot rfl (Nat.le_of_ble_eq_true rfl) rfl ?_
  refine j_if_eqB_f (tgt := 32) d_Model_told_4 (by decide) (jsl_N hs) ?_
  refine j_iload_n d_Model_told_7 rfl ?_
  refine j_i2l d_Model_told_8 ?_
  refine j_lconst (v := 0) d_Model_told_9 rfl ?_
  refine j_ldc2 (v := 7) d_Model_told_10 jk_Model_162 ?_
  refine j_callSs (As := [.long ((nI 2).toInt64), .long 0, .long 7]) (st := []) (c_in (x := (nI 2)) (lo := 0) (hi := 7) rfl rfl rfl) d_Model_told_13 (by decide) jm_Model_in jk_Model_107 js_Model_in rfl (Nat.le_of_ble_eq_true rfl) rfl ?_
  refine j_if_eqB_f (tgt := 32) d_Model_told_16 (by decide) (jin_y (by omega) (by omega) (by omega)) ?_
  refine j_iload_n d_Model_told_19 rfl ?_
  refine j_if_leN_f (tgt := 34) d_Model_told_20 (by decide) (by omega) (by decide) ?_
  refine j_aload_n d_Model_told_23 rfl ?_
  refine j_getr (b := 137) d_Model_told_24 jf_Model_13 rfl rfl rfl (by decide) ?_
  refine j_iload_n d_Model_told_27 rfl ?_
  refine j_ialdN (v := nI ((P s).1)) d_Model_told_28 rfl (by omega) (by decide) rfl ?_
  refine j_if_neN_t (tgt := 34) d_Model_told_29 (by decide) (by omega) (by omega) ?_
  refine j_iload_n d_Model_told_34 rfl ?_
  refine j_if_neN_t (tgt := 45) d_Model_told_35 (by decide) (by omega) (by decide) ?_
  refine j_iload_n d_Model_told_45 rfl ?_
  refine j_iconst (v := nI 5) d_Model_told_46 rfl ?_
  refine j_icmp_geN_f (tgt := 102) d_Model_told_47 (by decide) (by omega) (by omega) (by decide) ?_
  refine j_aload_n d_Model_told_50 rfl ?_
  refine j_iload_n d_Model_told_51 rfl ?_
  refine j_callVn (As := [.int (nI s)]) (st := []) (c_layPowers hw hs rfl h1 h2 hb hd hd2 he) d_Model_told_52 (by decide) jm_Model_layPowers jk_Model_164 ji_Model_layPowers js_Model_layPowers rfl (by decide) rfl rfl (Nat.le_of_ble_eq_true rfl) rfl ?_
  refine j_iload_n d_Model_told_55 rfl ?_
  refine j_iconst (v := nI 1) d_Model_told_56 rfl ?_
  refine j_icmp_neN_t (tgt := 67) d_Model_told_57 (by decide) (by omega) (by omega) (by decide) ?_
  refine j_iload_n d_Model_told_67 rfl ?_
  refine j_iconst (v := nI 2) d_Model_told_68 rfl ?_
  refine j_icmp_neN_f (tgt := 79) d_Model_told_69 (by decide) (by omega) (by omega) (by decide) ?_
  refine j_aload_n d_Model_told_72 rfl ?_
  refine j_getv (v := nI pr) d_Model_told_73 jf_Model_153 rfl rfl rfl ?_
  refine j_goto (tgt := 101) d_Model_told_76 (by decide) ?_
  subst hres
  exact j_reti d_Model_told_101 rfl rfl
theorem c_told3 {n : jN} {h : jH} {P : jP} {s ix pr : Nat} (hw : ∀ q, tw (P q)) (hs : s < 6) (h0 : 0 < (P s).1) (h1 : 1 ≤ ix) (h2 : 1 ≤ pr) (hb : ix + pr ≤ 300) (hd : ∀ i j, 1 ≤ i → i < j → j < ix + pr → jeq (tpo (P s) (i - 1)).2 (tpo (P s) (j - 1)).2 12 = false) (hd2 : ∀ i, 1 ≤ i → i < ix → jeq (tpo (P s) (i - 1)).2 (tpo (P s) (ix + pr - 1)).2 12 = false) (he : jeq (tpo (P s) (ix - 1)).2 (tpo (P s) (ix + pr - 1)).2 12 = true) {q : Nat} (hq1 : q ≤ 1000) (hq : jspot ix pr (2 * (q + 1)) = q + 1) (hn : ∀ k, k < q → ¬ jspot ix pr (2 * (k + 1)) = k + 1) : jC n 4 jy_Model_told jc_Model_told 4 (some .int) [.ref 135, .int (nI s), .int (nI 3)] (jM h P) (some (.int (nI (q + 1)))) (jM (lyH h (P s) ix pr) (lyP P (P s) (ix + pr))) := by
  have hns := (hw s).1
  refine jC_of jm_Model_told (L := [some (.ref 135), some (.int (nI s)), some (.int (nI 3)), none]) (Nat.le_of_ble_eq_true rfl) rfl trivial ?_
  generalize hres : (((some (.int (nI (q + 1)))), jM (lyH h (P s) ix pr) (lyP P (P s) (ix + pr))) : Option Value × jH) = res
  refine j_iload_n d_Model_told_0 rfl ?_
  refine j_callSs (As := [.int (nI s)]) (st := []) c_isSlot d_Model_told_1 (by decide) jm_Model_isSlot jk_Model_63 js_Model_isSlot rfl (Nat.le_of_ble_eq_true rfl) rfl ?_
  refine j_if_eqB_f (tgt := 32) d_Model_told_4 (by decide) (jsl_N hs) ?_
  refine j_iload_n d_Model_told_7 rfl ?_
  refine j_i2l d_Model_told_8 ?_
  refine j_lconst (v := 0) d_Model_told_9 rfl ?_
  refine j_ldc2 (v := 7) d_Model_told_10 jk_Model_162 ?_
  refine j_callSs (As := [.long ((nI 3).toInt64), .long 0, .long 7]) (st := []) (c_in (x := (nI 3)) (lo := 0) (hi := 7) rfl rfl rfl) d_Model_told_13 (by decide) jm_Model_in jk_Model_107 js_Model_in rfl (Nat.le_of_ble_eq_true rfl) rfl ?_
  refine j_if_eqB_f (tgt := 32) d_Model_told_16 (by decide) (jin_y (by omega) (by omega) (by omega)) ?_
  refine j_iload_n d_Model_told_19 rfl ?_
  refine j_if_leN_f (tgt := 34) d_Model_told_20 (by decide) (by omega) (by decide) ?_
  refine j_aload_n d_Model_told_23 rfl ?_
  refine j_getr (b := 137) d_Model_told_24 jf_Model_13 rfl rfl rfl (by decide) ?_
  refine j_iload_n d_Model_told_27 rfl ?_
  refine j_ialdN (v := nI ((P s).1)) d_Model_told_28 rfl (by omega) (by decide) rfl ?_
  refine j_if_neN_t (tgt := 34) d_Model_told_29 (by decide) (by omega) (by omega) ?_
  refine j_iload_n d_Model_told_34 rfl ?_
  refine j_if_neN_t (tgt := 45) d_Model_told_35 (by decide) (by omega) (by decide) ?_
  refine j_iload_n d_Model_told_45 rfl ?_
  refine j_iconst (v := nI 5) d_Model_told_46 rfl ?_
  refine j_icmp_geN_f (tgt := 102) d_Model_told_47 (by decide) (by omega) (by omega) (by decide) ?_
  refine j_aload_n d_Model_told_50 rfl ?_
  refine j_iload_n d_Model_told_51 rfl ?_
  refine j_callVn (As := [.int (nI s)]) (st := []) (c_layPowers hw hs rfl h1 h2 hb hd hd2 he) d_Model_told_52 (by decide) jm_Model_layPowers jk_Model_164 ji_Model_layPowers js_Model_layPowers rfl (by decide) rfl rfl (Nat.le_of_ble_eq_true rfl) rfl ?_
  refine j_iload_n d_Model_told_55 rfl ?_
  refine j_iconst (v := nI 1) d_Model_told_56 rfl ?_
  refine j_icmp_neN_t (tgt := 67) d_Model_told_57 (by decide) (by omega) (by omega) (by decide) ?_
  refine j_iload_n d_Model_told_67 rfl ?_
  refine j_iconst (v := nI 2) d_Model_told_68 rfl ?_
  refine j_icmp_neN_t (tgt := 79) d_Model_told_69 (by decide) (by omega) (by omega) (by decide) ?_
  refine j_iload_n d_Model_told_79 rfl ?_
  refine j_iconst (v := nI 3) d_Model_told_80 rfl ?_
  refine j_icmp_neN_f (tgt := 91) d_Model_told_81 (by decide) (by omega) (by omega) (by decide) ?_
  refine j_aload_n d_Model_told_84 rfl ?_
  refine j_callVs (As := []) (st := []) (c_idempotent (ix := ix) (pr := pr) rfl rfl h2 hb hq1 hq hn) d_Model_told_85 (by decide) jm_Model_idempotent jk_Model_167 ji_Model_idempotent js_Model_idempotent rfl (by decide) rfl rfl (Nat.le_of_ble_eq_true rfl) rfl ?_
  refine j_goto (tgt := 101) d_Model_told_88 (by decide) ?_
  subst hres
  exact j_reti d_Model_told_101 rfl rfl
theorem c_told4_none {n : jN} {h : jH} {P : jP} {s ix pr : Nat} (hw : ∀ q, tw (P q)) (hs : s < 6) (h0 : 0 < (P s).1) (h1 : 1 ≤ ix) (h2 : 1 ≤ pr) (hb : ix + pr ≤ 300) (hd : ∀ i j, 1 ≤ i → i < j → j < ix + pr → jeq (tpo (P s) (i - 1)).2 (tpo (P s) (j - 1)).2 12 = false) (hd2 : ∀ i, 1 ≤ i → i < ix → jeq (tpo (P s) (i - 1)).2 (tpo (P s) (ix + pr - 1)).2 12 = false) (he : jeq (tpo (P s) (ix - 1)).2 (tpo (P s) (ix + pr - 1)).2 12 = true) (hn : ∀ k, k < ix + pr - 1 → tful (tpo (P s) (k + 1 - 1)) (P s).1 (P s).1 = false) : jC n 4 jy_Model_told jc_Model_told 4 (some .int) [.ref 135, .int (nI s), .int (nI 4)] (jM h P) (some (.int (nI 0))) (jM (lyH h (P s) ix pr) (lyP P (P s) (ix + pr))) := by
  have hns := (hw s).1
  refine jC_of jm_Model_told (L := [some (.ref 135), some (.int (nI s)), some (.int (nI 4)), none]) (Nat.le_of_ble_eq_true rfl) rfl trivial ?_
  generalize hres : (((some (.int (nI 0))), jM (lyH h (P s) ix pr) (lyP P (P s) (ix + pr))) : Option Value × jH) = res
  refine j_iload_n d_Model_told_0 rfl ?_
  refine j_callSs (As := [.int (nI s)]) (st := []) c_isSlot d_Model_told_1 (by decide) jm_Model_isSlot jk_Model_63 js_Model_isSlot rfl (Nat.le_of_ble_eq_true rfl) rfl ?_
  refine j_if_eqB_f (tgt := 32) d_Model_told_4 (by decide) (jsl_N hs) ?_
  refine j_iload_n d_Model_told_7 rfl ?_
  refine j_i2l d_Model_told_8 ?_
  refine j_lconst (v := 0) d_Model_told_9 rfl ?_
  refine j_ldc2 (v := 7) d_Model_told_10 jk_Model_162 ?_
  refine j_callSs (As := [.long ((nI 4).toInt64), .long 0, .long 7]) (st := []) (c_in (x := (nI 4)) (lo := 0) (hi := 7) rfl rfl rfl) d_Model_told_13 (by decide) jm_Model_in jk_Model_107 js_Model_in rfl (Nat.le_of_ble_eq_true rfl) rfl ?_
  refine j_if_eqB_f (tgt := 32) d_Model_told_16 (by decide) (jin_y (by omega) (by omega) (by omega)) ?_
  refine j_iload_n d_Model_told_19 rfl ?_
  refine j_if_leN_f (tgt := 34) d_Model_told_20 (by decide) (by omega) (by decide) ?_
  refine j_aload_n d_Model_told_23 rfl ?_
  refine j_getr (b := 137) d_Model_told_24 jf_Model_13 rfl rfl rfl (by decide) ?_
  refine j_iload_n d_Model_told_27 rfl ?_
  refine j_ialdN (v := nI ((P s).1)) d_Model_told_28 rfl (by omega) (by decide) rfl ?_
  refine j_if_neN_t (tgt := 34) d_Model_told_29 (by decide) (by omega) (by omega) ?_
  refine j_iload_n d_Model_told_34 rfl ?_
  refine j_if_neN_t (tgt := 45) d_Model_told_35 (by decide) (by omega) (by decide) ?_
  refine j_iload_n d_Model_told_45 rfl ?_
  refine j_iconst (v := nI 5) d_Model_told_46 rfl ?_
  refine j_icmp_geN_f (tgt := 102) d_Model_told_47 (by decide) (by omega) (by omega) (by decide) ?_
  refine j_aload_n d_Model_told_50 rfl ?_
  refine j_iload_n d_Model_told_51 rfl ?_
  refine j_callVn (As := [.int (nI s)]) (st := []) (c_layPowers hw hs rfl h1 h2 hb hd hd2 he) d_Model_told_52 (by decide) jm_Model_layPowers jk_Model_164 ji_Model_layPowers js_Model_layPowers rfl (by decide) rfl rfl (Nat.le_of_ble_eq_true rfl) rfl ?_
  refine j_iload_n d_Model_told_55 rfl ?_
  refine j_iconst (v := nI 1) d_Model_told_56 rfl ?_
  refine j_icmp_neN_t (tgt := 67) d_Model_told_57 (by decide) (by omega) (by omega) (by decide) ?_
  refine j_iload_n d_Model_told_67 rfl ?_
  refine j_iconst (v := nI 2) d_Model_told_68 rfl ?_
  refine j_icmp_neN_t (tgt := 79) d_Model_told_69 (by decide) (by omega) (by omega) (by decide) ?_
  refine j_iload_n d_Model_told_79 rfl ?_
  refine j_iconst (v := nI 3) d_Model_told_80 rfl ?_
  refine j_icmp_neN_t (tgt := 91) d_Model_told_81 (by decide) (by omega) (by omega) (by decide) ?_
  refine j_aload_n d_Model_told_91 rfl ?_
  refine j_aload_n d_Model_told_92 rfl ?_
  refine j_getr (b := 137) d_Model_told_93 jf_Model_13 rfl rfl rfl (by decide) ?_
  refine j_iload_n d_Model_told_96 rfl ?_
  refine j_ialdN (v := nI ((P s).1)) d_Model_told_97 rfl (by omega) (by decide) (by show nI (lyP P (P s) (ix + pr) s).1 = _; rw [lyP_o (by omega) (by omega)]) ?_
  refine j_callVs (As := [.int (nI ((P s).1))]) (st := []) (c_exponent_none (ix := ix) (pr := pr) (T := P s) rfl rfl h2 hb lyH_pw (hw s) hns hn) d_Model_told_98 (by decide) jm_Model_exponent jk_Model_171 ji_Model_exponent js_Model_exponent rfl (by decide) rfl rfl (Nat.le_of_ble_eq_true rfl) rfl ?_
  subst hres
  exact j_reti d_Model_told_101 rfl rfl
theorem c_told4_some {n : jN} {h : jH} {P : jP} {s ix pr : Nat} (hw : ∀ q, tw (P q)) (hs : s < 6) (h0 : 0 < (P s).1) (h1 : 1 ≤ ix) (h2 : 1 ≤ pr) (hb : ix + pr ≤ 300) (hd : ∀ i j, 1 ≤ i → i < j → j < ix + pr → jeq (tpo (P s) (i - 1)).2 (tpo (P s) (j - 1)).2 12 = false) (hd2 : ∀ i, 1 ≤ i → i < ix → jeq (tpo (P s) (i - 1)).2 (tpo (P s) (ix + pr - 1)).2 12 = false) (he : jeq (tpo (P s) (ix - 1)).2 (tpo (P s) (ix + pr - 1)).2 12 = true) {e : Nat} (he1 : e + 1 < ix + pr) (he2 : tful (tpo (P s) (e + 1 - 1)) (P s).1 (P s).1 = true) (hn : ∀ k, k < e → tful (tpo (P s) (k + 1 - 1)) (P s).1 (P s).1 = false) : jC n 4 jy_Model_told jc_Model_told 4 (some .int) [.ref 135, .int (nI s), .int (nI 4)] (jM h P) (some (.int (nI (e + 1)))) (jM (lyH h (P s) ix pr) (lyP P (P s) (ix + pr))) := by
  have hns := (hw s).1
  refine jC_of jm_Model_told (L := [some (.ref 135), some (.int (nI s)), some (.int (nI 4)), none]) (Nat.le_of_ble_eq_true rfl) rfl trivial ?_
  generalize hres : (((some (.int (nI (e + 1)))), jM (lyH h (P s) ix pr) (lyP P (P s) (ix + pr))) : Option Value × jH) = res
  refine j_iload_n d_Model_told_0 rfl ?_
  refine j_callSs (As := [.int (nI s)]) (st := []) c_isSlot d_Model_told_1 (by decide) jm_Model_isSlot jk_Model_63 js_Model_isSlot rfl (Nat.le_of_ble_eq_true rfl) rfl ?_
  refine j_if_eqB_f (tgt := 32) d_Model_told_4 (by decide) (jsl_N hs) ?_
  refine j_iload_n d_Model_told_7 rfl ?_
  refine j_i2l d_Model_told_8 ?_
  refine j_lconst (v := 0) d_Model_told_9 rfl ?_
  refine j_ldc2 (v := 7) d_Model_told_10 jk_Model_162 ?_
  refine j_callSs (As := [.long ((nI 4).toInt64), .long 0, .long 7]) (st := []) (c_in (x := (nI 4)) (lo := 0) (hi := 7) rfl rfl rfl) d_Model_told_13 (by decide) jm_Model_in jk_Model_107 js_Model_in rfl (Nat.le_of_ble_eq_true rfl) rfl ?_
  refine j_if_eqB_f (tgt := 32) d_Model_told_16 (by decide) (jin_y (by omega) (by omega) (by omega)) ?_
  refine j_iload_n d_Model_told_19 rfl ?_
  refine j_if_leN_f (tgt := 34) d_Model_told_20 (by decide) (by omega) (by decide) ?_
  refine j_aload_n d_Model_told_23 rfl ?_
  refine j_getr (b := 137) d_Model_told_24 jf_Model_13 rfl rfl rfl (by decide) ?_
  refine j_iload_n d_Model_told_27 rfl ?_
  refine j_ialdN (v := nI ((P s).1)) d_Model_told_28 rfl (by omega) (by decide) rfl ?_
  refine j_if_neN_t (tgt := 34) d_Model_told_29 (by decide) (by omega) (by omega) ?_
  refine j_iload_n d_Model_told_34 rfl ?_
  refine j_if_neN_t (tgt := 45) d_Model_told_35 (by decide) (by omega) (by decide) ?_
  refine j_iload_n d_Model_told_45 rfl ?_
  refine j_iconst (v := nI 5) d_Model_told_46 rfl ?_
  refine j_icmp_geN_f (tgt := 102) d_Model_told_47 (by decide) (by omega) (by omega) (by decide) ?_
  refine j_aload_n d_Model_told_50 rfl ?_
  refine j_iload_n d_Model_told_51 rfl ?_
  refine j_callVn (As := [.int (nI s)]) (st := []) (c_layPowers hw hs rfl h1 h2 hb hd hd2 he) d_Model_told_52 (by decide) jm_Model_layPowers jk_Model_164 ji_Model_layPowers js_Model_layPowers rfl (by decide) rfl rfl (Nat.le_of_ble_eq_true rfl) rfl ?_
  refine j_iload_n d_Model_told_55 rfl ?_
  refine j_iconst (v := nI 1) d_Model_told_56 rfl ?_
  refine j_icmp_neN_t (tgt := 67) d_Model_told_57 (by decide) (by omega) (by omega) (by decide) ?_
  refine j_iload_n d_Model_told_67 rfl ?_
  refine j_iconst (v := nI 2) d_Model_told_68 rfl ?_
  refine j_icmp_neN_t (tgt := 79) d_Model_told_69 (by decide) (by omega) (by omega) (by decide) ?_
  refine j_iload_n d_Model_told_79 rfl ?_
  refine j_iconst (v := nI 3) d_Model_told_80 rfl ?_
  refine j_icmp_neN_t (tgt := 91) d_Model_told_81 (by decide) (by omega) (by omega) (by decide) ?_
  refine j_aload_n d_Model_told_91 rfl ?_
  refine j_aload_n d_Model_told_92 rfl ?_
  refine j_getr (b := 137) d_Model_told_93 jf_Model_13 rfl rfl rfl (by decide) ?_
  refine j_iload_n d_Model_told_96 rfl ?_
  refine j_ialdN (v := nI ((P s).1)) d_Model_told_97 rfl (by omega) (by decide) (by show nI (lyP P (P s) (ix + pr) s).1 = _; rw [lyP_o (by omega) (by omega)]) ?_
  refine j_callVs (As := [.int (nI ((P s).1))]) (st := []) (c_exponent_some (ix := ix) (pr := pr) (T := P s) rfl rfl h2 hb lyH_pw (hw s) hns he1 he2 hn) d_Model_told_98 (by decide) jm_Model_exponent jk_Model_171 ji_Model_exponent js_Model_exponent rfl (by decide) rfl rfl (Nat.le_of_ble_eq_true rfl) rfl ?_
  subst hres
  exact j_reti d_Model_told_101 rfl rfl
theorem c_told5 {n : jN} {h : jH} {P : jP} {s : Nat} (hw : ∀ q, tw (P q)) (hs : s < 6) (h0 : 0 < (P s).1) : jC n 4 jy_Model_told jc_Model_told 4 (some .int) [.ref 135, .int (nI s), .int (nI 5)] (jM h P) (some (.int (nI (tones (P s) (P s).1)))) (jM h (jset P 35 (ttr (P s)))) := by
  have hns := (hw s).1
  refine jC_of jm_Model_told (L := [some (.ref 135), some (.int (nI s)), some (.int (nI 5)), none]) (Nat.le_of_ble_eq_true rfl) rfl trivial ?_
  generalize hres : (((some (.int (nI (tones (P s) (P s).1)))), jM h (jset P 35 (ttr (P s)))) : Option Value × jH) = res
  refine j_iload_n d_Model_told_0 rfl ?_
  refine j_callSs (As := [.int (nI s)]) (st := []) c_isSlot d_Model_told_1 (by decide) jm_Model_isSlot jk_Model_63 js_Model_isSlot rfl (Nat.le_of_ble_eq_true rfl) rfl ?_
  refine j_if_eqB_f (tgt := 32) d_Model_told_4 (by decide) (jsl_N hs) ?_
  refine j_iload_n d_Model_told_7 rfl ?_
  refine j_i2l d_Model_told_8 ?_
  refine j_lconst (v := 0) d_Model_told_9 rfl ?_
  refine j_ldc2 (v := 7) d_Model_told_10 jk_Model_162 ?_
  refine j_callSs (As := [.long ((nI 5).toInt64), .long 0, .long 7]) (st := []) (c_in (x := (nI 5)) (lo := 0) (hi := 7) rfl rfl rfl) d_Model_told_13 (by decide) jm_Model_in jk_Model_107 js_Model_in rfl (Nat.le_of_ble_eq_true rfl) rfl ?_
  refine j_if_eqB_f (tgt := 32) d_Model_told_16 (by decide) (jin_y (by omega) (by omega) (by omega)) ?_
  refine j_iload_n d_Model_told_19 rfl ?_
  refine j_if_leN_f (tgt := 34) d_Model_told_20 (by decide) (by omega) (by decide) ?_
  refine j_aload_n d_Model_told_23 rfl ?_
  refine j_getr (b := 137) d_Model_told_24 jf_Model_13 rfl rfl rfl (by decide) ?_
  refine j_iload_n d_Model_told_27 rfl ?_
  refine j_ialdN (v := nI ((P s).1)) d_Model_told_28 rfl (by omega) (by decide) rfl ?_
  refine j_if_neN_t (tgt := 34) d_Model_told_29 (by decide) (by omega) (by omega) ?_
  refine j_iload_n d_Model_told_34 rfl ?_
  refine j_if_neN_t (tgt := 45) d_Model_told_35 (by decide) (by omega) (by decide) ?_
  refine j_iload_n d_Model_told_45 rfl ?_
  refine j_iconst (v := nI 5) d_Model_told_46 rfl ?_
  refine j_icmp_geN_t (tgt := 102) d_Model_told_47 (by decide) (by omega) (by omega) (by decide) ?_
  refine j_iload_n d_Model_told_102 rfl ?_
  refine j_bipush (v := nI 6) d_Model_told_103 (by decide) ?_
  refine j_icmp_neN_t (tgt := 116) d_Model_told_105 (by decide) (by omega) (by omega) (by decide) ?_
  refine j_aload_n d_Model_told_116 rfl ?_
  refine j_iload_n d_Model_told_117 rfl ?_
  refine j_callVs (As := [.int (nI s)]) (st := []) (c_isTurned hw (by omega)) d_Model_told_118 (by decide) jm_Model_isTurned jk_Model_177 ji_Model_isTurned js_Model_isTurned rfl (by decide) rfl rfl (Nat.le_of_ble_eq_true rfl) rfl ?_
  refine j_istore_n (L' := [some (.ref 135), some (.int (nI s)), some (.int (nI 5)), some (.int (jbo (tsam (P s) (ttr (P s)) 12)))]) d_Model_told_121 (by decide) rfl rfl ?_
  refine j_iload_n d_Model_told_122 rfl ?_
  refine j_iconst (v := nI 5) d_Model_told_123 rfl ?_
  refine j_icmp_neN_f (tgt := 135) d_Model_told_124 (by decide) (by omega) (by omega) (by decide) ?_
  refine j_aload_n d_Model_told_127 rfl ?_
  refine j_iload_n d_Model_told_128 rfl ?_
  refine j_callVs (As := [.int (nI s)]) (st := []) (c_onesIn (by omega) (tws hw (tw_tr (hw s)))) d_Model_told_129 (by decide) jm_Model_onesIn jk_Model_180 ji_Model_onesIn js_Model_onesIn rfl (by decide) rfl rfl (Nat.le_of_ble_eq_true rfl) rfl ?_
  refine j_goto (tgt := 144) d_Model_told_132 (by decide) ?_
  subst hres
  exact j_reti d_Model_told_144 (by rw [jset_ne (by omega)]) rfl
theorem c_told6 {n : jN} {h : jH} {P : jP} {s : Nat} (hw : ∀ q, tw (P q)) (hs : s < 6) (h0 : 0 < (P s).1) : jC n 4 jy_Model_told jc_Model_told 4 (some .int) [.ref 135, .int (nI s), .int (nI 6)] (jM h P) (some (.int (jbo (tsam (P s) (tmul (P s) (P s)) 12)))) (jM h (jset P 35 (tmul (P s) (P s)))) := by
  have hns := (hw s).1
  refine jC_of jm_Model_told (L := [some (.ref 135), some (.int (nI s)), some (.int (nI 6)), none]) (Nat.le_of_ble_eq_true rfl) rfl trivial ?_
  generalize hres : (((some (.int (jbo (tsam (P s) (tmul (P s) (P s)) 12)))), jM h (jset P 35 (tmul (P s) (P s)))) : Option Value × jH) = res
  refine j_iload_n d_Model_told_0 rfl ?_
  refine j_callSs (As := [.int (nI s)]) (st := []) c_isSlot d_Model_told_1 (by decide) jm_Model_isSlot jk_Model_63 js_Model_isSlot rfl (Nat.le_of_ble_eq_true rfl) rfl ?_
  refine j_if_eqB_f (tgt := 32) d_Model_told_4 (by decide) (jsl_N hs) ?_
  refine j_iload_n d_Model_told_7 rfl ?_
  refine j_i2l d_Model_told_8 ?_
  refine j_lconst (v := 0) d_Model_told_9 rfl ?_
  refine j_ldc2 (v := 7) d_Model_told_10 jk_Model_162 ?_
  refine j_callSs (As := [.long ((nI 6).toInt64), .long 0, .long 7]) (st := []) (c_in (x := (nI 6)) (lo := 0) (hi := 7) rfl rfl rfl) d_Model_told_13 (by decide) jm_Model_in jk_Model_107 js_Model_in rfl (Nat.le_of_ble_eq_true rfl) rfl ?_
  refine j_if_eqB_f (tgt := 32) d_Model_told_16 (by decide) (jin_y (by omega) (by omega) (by omega)) ?_
  refine j_iload_n d_Model_told_19 rfl ?_
  refine j_if_leN_f (tgt := 34) d_Model_told_20 (by decide) (by omega) (by decide) ?_
  refine j_aload_n d_Model_told_23 rfl ?_
  refine j_getr (b := 137) d_Model_told_24 jf_Model_13 rfl rfl rfl (by decide) ?_
  refine j_iload_n d_Model_told_27 rfl ?_
  refine j_ialdN (v := nI ((P s).1)) d_Model_told_28 rfl (by omega) (by decide) rfl ?_
  refine j_if_neN_t (tgt := 34) d_Model_told_29 (by decide) (by omega) (by omega) ?_
  refine j_iload_n d_Model_told_34 rfl ?_
  refine j_if_neN_t (tgt := 45) d_Model_told_35 (by decide) (by omega) (by decide) ?_
  refine j_iload_n d_Model_told_45 rfl ?_
  refine j_iconst (v := nI 5) d_Model_told_46 rfl ?_
  refine j_icmp_geN_t (tgt := 102) d_Model_told_47 (by decide) (by omega) (by omega) (by decide) ?_
  refine j_iload_n d_Model_told_102 rfl ?_
  refine j_bipush (v := nI 6) d_Model_told_103 (by decide) ?_
  refine j_icmp_neN_f (tgt := 116) d_Model_told_105 (by decide) (by omega) (by omega) (by decide) ?_
  refine j_aload_n d_Model_told_108 rfl ?_
  refine j_iload_n d_Model_told_109 rfl ?_
  refine j_callVs (As := [.int (nI s)]) (st := []) (c_isOwnSquare hw (by omega)) d_Model_told_110 (by decide) jm_Model_isOwnSquare jk_Model_174 ji_Model_isOwnSquare js_Model_isOwnSquare rfl (by decide) rfl rfl (Nat.le_of_ble_eq_true rfl) rfl ?_
  refine j_goto (tgt := 121) d_Model_told_113 (by decide) ?_
  refine j_istore_n (L' := [some (.ref 135), some (.int (nI s)), some (.int (nI 6)), some (.int (jbo (tsam (P s) (tmul (P s) (P s)) 12)))]) d_Model_told_121 (by decide) rfl rfl ?_
  refine j_iload_n d_Model_told_122 rfl ?_
  refine j_iconst (v := nI 5) d_Model_told_123 rfl ?_
  refine j_icmp_neN_t (tgt := 135) d_Model_told_124 (by decide) (by omega) (by omega) (by decide) ?_
  refine j_iload_n d_Model_told_135 rfl ?_
  refine j_if_eqB (tgt := 143) d_Model_told_136 (by decide) (fun c => ?_) (fun c => ?_)
  · refine j_iconst (v := nI 0) d_Model_told_143 rfl ?_
    subst hres
    exact j_reti d_Model_told_144 (by rw [c]; rfl) rfl
  · refine j_iconst (v := nI 1) d_Model_told_139 rfl ?_
    refine j_goto (tgt := 144) d_Model_told_140 (by decide) ?_
    subst hres
    exact j_reti d_Model_told_144 (by rw [c]; rfl) rfl
theorem c_told7 {n : jN} {h : jH} {P : jP} {s : Nat} (hw : ∀ q, tw (P q)) (hs : s < 6) (h0 : 0 < (P s).1) : jC n 4 jy_Model_told jc_Model_told 4 (some .int) [.ref 135, .int (nI s), .int (nI 7)] (jM h P) (some (.int (jbo (tsam (P s) (ttr (P s)) 12)))) (jM h (jset P 35 (ttr (P s)))) := by
  have hns := (hw s).1
  refine jC_of jm_Model_told (L := [some (.ref 135), some (.int (nI s)), some (.int (nI 7)), none]) (Nat.le_of_ble_eq_true rfl) rfl trivial ?_
  generalize hres : (((some (.int (jbo (tsam (P s) (ttr (P s)) 12)))), jM h (jset P 35 (ttr (P s)))) : Option Value × jH) = res
  refine j_iload_n d_Model_told_0 rfl ?_
  refine j_callSs (As := [.int (nI s)]) (st := []) c_isSlot d_Model_told_1 (by decide) jm_Model_isSlot jk_Model_63 js_Model_isSlot rfl (Nat.le_of_ble_eq_true rfl) rfl ?_
  refine j_if_eqB_f (tgt := 32) d_Model_told_4 (by decide) (jsl_N hs) ?_
  refine j_iload_n d_Model_told_7 rfl ?_
  refine j_i2l d_Model_told_8 ?_
  refine j_lconst (v := 0) d_Model_told_9 rfl ?_
  refine j_ldc2 (v := 7) d_Model_told_10 jk_Model_162 ?_
  refine j_callSs (As := [.long ((nI 7).toInt64), .long 0, .long 7]) (st := []) (c_in (x := (nI 7)) (lo := 0) (hi := 7) rfl rfl rfl) d_Model_told_13 (by decide) jm_Model_in jk_Model_107 js_Model_in rfl (Nat.le_of_ble_eq_true rfl) rfl ?_
  refine j_if_eqB_f (tgt := 32) d_Model_told_16 (by decide) (jin_y (by omega) (by omega) (by omega)) ?_
  refine j_iload_n d_Model_told_19 rfl ?_
  refine j_if_leN_f (tgt := 34) d_Model_told_20 (by decide) (by omega) (by decide) ?_
  refine j_aload_n d_Model_told_23 rfl ?_
  refine j_getr (b := 137) d_Model_told_24 jf_Model_13 rfl rfl rfl (by decide) ?_
  refine j_iload_n d_Model_told_27 rfl ?_
  refine j_ialdN (v := nI ((P s).1)) d_Model_told_28 rfl (by omega) (by decide) rfl ?_
  refine j_if_neN_t (tgt := 34) d_Model_told_29 (by decide) (by omega) (by omega) ?_
  refine j_iload_n d_Model_told_34 rfl ?_
  refine j_if_neN_t (tgt := 45) d_Model_told_35 (by decide) (by omega) (by decide) ?_
  refine j_iload_n d_Model_told_45 rfl ?_
  refine j_iconst (v := nI 5) d_Model_told_46 rfl ?_
  refine j_icmp_geN_t (tgt := 102) d_Model_told_47 (by decide) (by omega) (by omega) (by decide) ?_
  refine j_iload_n d_Model_told_102 rfl ?_
  refine j_bipush (v := nI 6) d_Model_told_103 (by decide) ?_
  refine j_icmp_neN_t (tgt := 116) d_Model_told_105 (by decide) (by omega) (by omega) (by decide) ?_
  refine j_aload_n d_Model_told_116 rfl ?_
  refine j_iload_n d_Model_told_117 rfl ?_
  refine j_callVs (As := [.int (nI s)]) (st := []) (c_isTurned hw (by omega)) d_Model_told_118 (by decide) jm_Model_isTurned jk_Model_177 ji_Model_isTurned js_Model_isTurned rfl (by decide) rfl rfl (Nat.le_of_ble_eq_true rfl) rfl ?_
  refine j_istore_n (L' := [some (.ref 135), some (.int (nI s)), some (.int (nI 7)), some (.int (jbo (tsam (P s) (ttr (P s)) 12)))]) d_Model_told_121 (by decide) rfl rfl ?_
  refine j_iload_n d_Model_told_122 rfl ?_
  refine j_iconst (v := nI 5) d_Model_told_123 rfl ?_
  refine j_icmp_neN_t (tgt := 135) d_Model_told_124 (by decide) (by omega) (by omega) (by decide) ?_
  refine j_iload_n d_Model_told_135 rfl ?_
  refine j_if_eqB (tgt := 143) d_Model_told_136 (by decide) (fun c => ?_) (fun c => ?_)
  · refine j_iconst (v := nI 0) d_Model_told_143 rfl ?_
    subst hres
    exact j_reti d_Model_told_144 (by rw [c]; rfl) rfl
  · refine j_iconst (v := nI 1) d_Model_told_139 rfl ?_
    refine j_goto (tgt := 144) d_Model_told_140 (by decide) ?_
    subst hres
    exact j_reti d_Model_told_144 (by rw [c]; rfl) rfl
def jbRe (P : jP) (a b : Int32) : Int32 := if jho P a && jho P b then -3 else -1
theorem c_reaches_bad {n : jN} {h : jH} {P : jP} {a b : Int32} (hw : ∀ q, tw (P q)) (hb : ∀ a0 b0, a = nI a0 → b = nI b0 → ¬ (P a0).1 = (P b0).1) : jC n 4 jy_Model_reaches jc_Model_reaches 4 (some .int) [.ref 135, .int a, .int b] (jM h P) (some (.int (jbRe P a b))) (jM h P) := by
  refine jC_of jm_Model_reaches (L := [some (.ref 135), some (.int a), some (.int b), none]) (Nat.le_of_ble_eq_true rfl) rfl trivial ?_
  generalize hres : (((some (.int (jbRe P a b))), jM h P) : Option Value × jH) = res
  refine j_aload_n d_Model_reaches_0 rfl ?_
  refine j_iload_n d_Model_reaches_1 rfl ?_
  refine j_callVs (As := [.int a]) (st := []) (c_holds hw) d_Model_reaches_2 (by decide) jm_Model_holds jk_Model_117 ji_Model_holds js_Model_holds rfl (by decide) rfl rfl (Nat.le_of_ble_eq_true rfl) rfl ?_
  refine j_if_eqB (tgt := 16) d_Model_reaches_5 (by decide) (fun c1 => ?_) (fun c1 => ?_)
  · refine j_iconst (v := -1) d_Model_reaches_16 rfl ?_
    subst hres
    exact j_reti d_Model_reaches_17 (by simp [jbRe, c1]) rfl
  · obtain ⟨a0, ha0, ha00, rfl⟩ := jho_t c1
    have hna0 := (hw a0).1
    refine j_aload_n d_Model_reaches_8 rfl ?_
    refine j_iload_n d_Model_reaches_9 rfl ?_
    refine j_callVs (As := [.int b]) (st := []) (c_holds hw) d_Model_reaches_10 (by decide) jm_Model_holds jk_Model_117 ji_Model_holds js_Model_holds rfl (by decide) rfl rfl (Nat.le_of_ble_eq_true rfl) rfl ?_
    refine j_if_neB (tgt := 18) d_Model_reaches_13 (by decide) (fun c2 => ?_) (fun c2 => ?_)
    · obtain ⟨b0, hb0, hb00, rfl⟩ := jho_t c2
      have hnb0 := (hw b0).1
      refine j_aload_n d_Model_reaches_18 rfl ?_
      refine j_getr (b := 137) d_Model_reaches_19 jf_Model_13 rfl rfl rfl (by decide) ?_
      refine j_iload_n d_Model_reaches_22 rfl ?_
      refine j_ialdN (v := nI ((P a0).1)) d_Model_reaches_23 rfl (by omega) (by decide) rfl ?_
      refine j_aload_n d_Model_reaches_24 rfl ?_
      refine j_getr (b := 137) d_Model_reaches_25 jf_Model_13 rfl rfl rfl (by decide) ?_
      refine j_iload_n d_Model_reaches_28 rfl ?_
      refine j_ialdN (v := nI ((P b0).1)) d_Model_reaches_29 rfl (by omega) (by decide) rfl ?_
      refine j_icmp_eqN (tgt := 36) d_Model_reaches_30 (by decide) (by omega) (by omega) (fun c4 => ?_) (fun c4 => ?_)
      · exact absurd c4 (hb a0 b0 rfl rfl)
      · refine j_bipush (v := -3) d_Model_reaches_33 (by decide) ?_
        subst hres
        exact j_reti d_Model_reaches_35 (by simp [jbRe, c1, c2]) rfl
    · refine j_iconst (v := -1) d_Model_reaches_16 rfl ?_
      subst hres
      exact j_reti d_Model_reaches_17 (by simp [jbRe, c1, c2]) rfl
theorem c_reaches_bad1 {n : jN} {h : jH} {P : jP} {a b : Int32} (hw : ∀ q, tw (P q)) (hb : (jho P a && jho P b) = false) : jC n 4 jy_Model_reaches jc_Model_reaches 4 (some .int) [.ref 135, .int a, .int b] (jM h P) (some (.int (jbRe P a b))) (jM h P) := by
  refine jC_of jm_Model_reaches (L := [some (.ref 135), some (.int a), some (.int b), none]) (Nat.le_of_ble_eq_true rfl) rfl trivial ?_
  generalize hres : (((some (.int (jbRe P a b))), jM h P) : Option Value × jH) = res
  refine j_aload_n d_Model_reaches_0 rfl ?_
  refine j_iload_n d_Model_reaches_1 rfl ?_
  refine j_callVs (As := [.int a]) (st := []) (c_holds hw) d_Model_reaches_2 (by decide) jm_Model_holds jk_Model_117 ji_Model_holds js_Model_holds rfl (by decide) rfl rfl (Nat.le_of_ble_eq_true rfl) rfl ?_
  refine j_if_eqB (tgt := 16) d_Model_reaches_5 (by decide) (fun c1 => ?_) (fun c1 => ?_)
  · refine j_iconst (v := -1) d_Model_reaches_16 rfl ?_
    subst hres
    exact j_reti d_Model_reaches_17 (by simp [jbRe, c1]) rfl
  · refine j_aload_n d_Model_reaches_8 rfl ?_
    refine j_iload_n d_Model_reaches_9 rfl ?_
    refine j_callVs (As := [.int b]) (st := []) (c_holds hw) d_Model_reaches_10 (by decide) jm_Model_holds jk_Model_117 ji_Model_holds js_Model_holds rfl (by decide) rfl rfl (Nat.le_of_ble_eq_true rfl) rfl ?_
    refine j_if_neB (tgt := 18) d_Model_reaches_13 (by decide) (fun c2 => ?_) (fun c2 => ?_)
    · exact absurd hb (by simp [c1, c2])
    · refine j_iconst (v := -1) d_Model_reaches_16 rfl ?_
      subst hres
      exact j_reti d_Model_reaches_17 (by simp [jbRe, c1, c2]) rfl
theorem c_reaches_none {n : jN} {h : jH} {P : jP} {s b ix pr : Nat} (hw : ∀ q, tw (P q)) (hs : s < 6) (h0 : 0 < (P s).1) (hb0 : b < 6) (h0b : 0 < (P b).1) (hab : (P s).1 = (P b).1) (h1 : 1 ≤ ix) (h2 : 1 ≤ pr) (hb : ix + pr ≤ 300) (hd : ∀ i j, 1 ≤ i → i < j → j < ix + pr → jeq (tpo (P s) (i - 1)).2 (tpo (P s) (j - 1)).2 12 = false) (hd2 : ∀ i, 1 ≤ i → i < ix → jeq (tpo (P s) (i - 1)).2 (tpo (P s) (ix + pr - 1)).2 12 = false) (he : jeq (tpo (P s) (ix - 1)).2 (tpo (P s) (ix + pr - 1)).2 12 = true) (hn : ∀ k, k < ix + pr - 1 → jeq (tpo (P s) (k + 1 - 1)).2 (P b).2 12 = false) : jC n 4 jy_Model_reaches jc_Model_reaches 4 (some .int) [.ref 135, .int (nI s), .int (nI b)] (jM h P) (some (.int (-2))) (jM (lyH h (P s) ix pr) (lyP P (P s) (ix + pr))) := by
  have hns := (hw s).1
  have hnb := (hw b).1
  refine jC_of jm_Model_reaches (L := [some (.ref 135), some (.int (nI s)), some (.int (nI b)), none]) (Nat.le_of_ble_eq_true rfl) rfl trivial ?_
  generalize hres : (((some (.int (-2))), jM (lyH h (P s) ix pr) (lyP P (P s) (ix + pr))) : Option Value × jH) = res
  have hb35 : ∀ q, q < 6 → lyP P (P s) (ix + pr) q = P q := fun q hq => lyP_o (by omega) (by omega)
  refine j_aload_n d_Model_reaches_0 rfl ?_
  refine j_iload_n d_Model_reaches_1 rfl ?_
  refine j_callVs (As := [.int (nI s)]) (st := []) (c_holds hw) d_Model_reaches_2 (by decide) jm_Model_holds jk_Model_117 ji_Model_holds js_Model_holds rfl (by decide) rfl rfl (Nat.le_of_ble_eq_true rfl) rfl ?_
  refine j_if_eqB_f (tgt := 16) d_Model_reaches_5 (by decide) (jho_y hs h0) ?_
  refine j_aload_n d_Model_reaches_8 rfl ?_
  refine j_iload_n d_Model_reaches_9 rfl ?_
  refine j_callVs (As := [.int (nI b)]) (st := []) (c_holds hw) d_Model_reaches_10 (by decide) jm_Model_holds jk_Model_117 ji_Model_holds js_Model_holds rfl (by decide) rfl rfl (Nat.le_of_ble_eq_true rfl) rfl ?_
  refine j_if_neB_t (tgt := 18) d_Model_reaches_13 (by decide) (jho_y hb0 h0b) ?_
  refine j_aload_n d_Model_reaches_18 rfl ?_
  refine j_getr (b := 137) d_Model_reaches_19 jf_Model_13 rfl rfl rfl (by decide) ?_
  refine j_iload_n d_Model_reaches_22 rfl ?_
  refine j_ialdN (v := nI ((P s).1)) d_Model_reaches_23 rfl (by omega) (by decide) rfl ?_
  refine j_aload_n d_Model_reaches_24 rfl ?_
  refine j_getr (b := 137) d_Model_reaches_25 jf_Model_13 rfl rfl rfl (by decide) ?_
  refine j_iload_n d_Model_reaches_28 rfl ?_
  refine j_ialdN (v := nI ((P b).1)) d_Model_reaches_29 rfl (by omega) (by decide) rfl ?_
  refine j_icmp_eqN_t (tgt := 36) d_Model_reaches_30 (by decide) (by omega) (by omega) hab ?_
  refine j_aload_n d_Model_reaches_36 rfl ?_
  refine j_iload_n d_Model_reaches_37 rfl ?_
  refine j_callVn (As := [.int (nI s)]) (st := []) (c_layPowers hw hs rfl h1 h2 hb hd hd2 he) d_Model_reaches_38 (by decide) jm_Model_layPowers jk_Model_164 ji_Model_layPowers js_Model_layPowers rfl (by decide) rfl rfl (Nat.le_of_ble_eq_true rfl) rfl ?_
  refine j_iconst (v := nI 1) d_Model_reaches_41 rfl ?_
  refine j_istore_n (L' := [some (.ref 135), some (.int (nI s)), some (.int (nI b)), some (.int (nI 1))]) d_Model_reaches_42 (by decide) rfl rfl ?_
  refine j_loop (P := fun k => jJ n 4 jc_Model_reaches 4 "YesNoPowersModel" 43 [some (.ref 135), some (.int (nI s)), some (.int (nI b)), some (.int (nI (k + 1)))] [] (jM (lyH h (P s) ix pr) (lyP P (P s) (ix + pr))) res) (m := ix + pr - 1) ?_ (fun k hk ih => ?_)
  · refine j_iload_n d_Model_reaches_43 rfl ?_
    refine j_aload_n d_Model_reaches_44 rfl ?_
    refine j_getv (v := nI ix) d_Model_reaches_45 jf_Model_147 rfl rfl rfl ?_
    refine j_aload_n d_Model_reaches_48 rfl ?_
    refine j_getv (v := nI pr) d_Model_reaches_49 jf_Model_153 rfl rfl rfl ?_
    refine j_iaddN d_Model_reaches_52 ?_
    refine j_icmp_geN_t (tgt := 73) d_Model_reaches_53 (by decide) (by omega) (by omega) (by omega) ?_
    refine j_bipush (v := -2) d_Model_reaches_73 (by decide) ?_
    subst hres
    exact j_reti d_Model_reaches_75 rfl rfl
  · refine j_iload_n d_Model_reaches_43 rfl ?_
    refine j_aload_n d_Model_reaches_44 rfl ?_
    refine j_getv (v := nI ix) d_Model_reaches_45 jf_Model_147 rfl rfl rfl ?_
    refine j_aload_n d_Model_reaches_48 rfl ?_
    refine j_getv (v := nI pr) d_Model_reaches_49 jf_Model_153 rfl rfl rfl ?_
    refine j_iaddN d_Model_reaches_52 ?_
    refine j_icmp_geN_f (tgt := 73) d_Model_reaches_53 (by decide) (by omega) (by omega) (by omega) ?_
    refine j_aload_n d_Model_reaches_56 rfl ?_
    refine j_iload_n d_Model_reaches_57 rfl ?_
    refine j_iload_n d_Model_reaches_58 rfl ?_
    refine j_callVs (As := [.int (nI (k + 1)), .int (nI b)]) (st := []) (c_isPower (r := (tpo (P s) (k + 1 - 1)).2) (lyP_w hw (hw s) _) (by omega) (by omega) (fun i hi => lyH_pw (k + 1) i (by omega) (by omega) hi) (fun i _ => tw_lt (tw_po (hw s) _) i)) d_Model_reaches_59 (by decide) jm_Model_isPower jk_Model_150 ji_Model_isPower js_Model_isPower rfl (by decide) rfl rfl (Nat.le_of_ble_eq_true rfl) rfl ?_
    refine j_if_eqB_t (tgt := 67) d_Model_reaches_62 (by decide) (by rw [hb35 b hb0]; exact hn k hk) ?_
    refine j_iincN (x := k + 1) (L' := [some (.ref 135), some (.int (nI s)), some (.int (nI b)), some (.int (nI ((k + 1) + 1)))]) d_Model_reaches_67 rfl (by decide) rfl rfl ?_
    refine j_goto (tgt := 43) d_Model_reaches_70 (by decide) ?_
    exact ih
theorem c_reaches_some {n : jN} {h : jH} {P : jP} {s b ix pr : Nat} (hw : ∀ q, tw (P q)) (hs : s < 6) (h0 : 0 < (P s).1) (hb0 : b < 6) (h0b : 0 < (P b).1) (hab : (P s).1 = (P b).1) (h1 : 1 ≤ ix) (h2 : 1 ≤ pr) (hb : ix + pr ≤ 300) (hd : ∀ i j, 1 ≤ i → i < j → j < ix + pr → jeq (tpo (P s) (i - 1)).2 (tpo (P s) (j - 1)).2 12 = false) (hd2 : ∀ i, 1 ≤ i → i < ix → jeq (tpo (P s) (i - 1)).2 (tpo (P s) (ix + pr - 1)).2 12 = false) (he : jeq (tpo (P s) (ix - 1)).2 (tpo (P s) (ix + pr - 1)).2 12 = true) {e : Nat} (he1 : e + 1 < ix + pr) (he2 : jeq (tpo (P s) (e + 1 - 1)).2 (P b).2 12 = true) (hn : ∀ k, k < e → jeq (tpo (P s) (k + 1 - 1)).2 (P b).2 12 = false) : jC n 4 jy_Model_reaches jc_Model_reaches 4 (some .int) [.ref 135, .int (nI s), .int (nI b)] (jM h P) (some (.int (nI (e + 1)))) (jM (lyH h (P s) ix pr) (lyP P (P s) (ix + pr))) := by
  have hns := (hw s).1
  have hnb := (hw b).1
  refine jC_of jm_Model_reaches (L := [some (.ref 135), some (.int (nI s)), some (.int (nI b)), none]) (Nat.le_of_ble_eq_true rfl) rfl trivial ?_
  generalize hres : (((some (.int (nI (e + 1)))), jM (lyH h (P s) ix pr) (lyP P (P s) (ix + pr))) : Option Value × jH) = res
  have hb35 : ∀ q, q < 6 → lyP P (P s) (ix + pr) q = P q := fun q hq => lyP_o (by omega) (by omega)
  refine j_aload_n d_Model_reaches_0 rfl ?_
  refine j_iload_n d_Model_reaches_1 rfl ?_
  refine j_callVs (As := [.int (nI s)]) (st := []) (c_holds hw) d_Model_reaches_2 (by decide) jm_Model_holds jk_Model_117 ji_Model_holds js_Model_holds rfl (by decide) rfl rfl (Nat.le_of_ble_eq_true rfl) rfl ?_
  refine j_if_eqB_f (tgt := 16) d_Model_reaches_5 (by decide) (jho_y hs h0) ?_
  refine j_aload_n d_Model_reaches_8 rfl ?_
  refine j_iload_n d_Model_reaches_9 rfl ?_
  refine j_callVs (As := [.int (nI b)]) (st := []) (c_holds hw) d_Model_reaches_10 (by decide) jm_Model_holds jk_Model_117 ji_Model_holds js_Model_holds rfl (by decide) rfl rfl (Nat.le_of_ble_eq_true rfl) rfl ?_
  refine j_if_neB_t (tgt := 18) d_Model_reaches_13 (by decide) (jho_y hb0 h0b) ?_
  refine j_aload_n d_Model_reaches_18 rfl ?_
  refine j_getr (b := 137) d_Model_reaches_19 jf_Model_13 rfl rfl rfl (by decide) ?_
  refine j_iload_n d_Model_reaches_22 rfl ?_
  refine j_ialdN (v := nI ((P s).1)) d_Model_reaches_23 rfl (by omega) (by decide) rfl ?_
  refine j_aload_n d_Model_reaches_24 rfl ?_
  refine j_getr (b := 137) d_Model_reaches_25 jf_Model_13 rfl rfl rfl (by decide) ?_
  refine j_iload_n d_Model_reaches_28 rfl ?_
  refine j_ialdN (v := nI ((P b).1)) d_Model_reaches_29 rfl (by omega) (by decide) rfl ?_
  refine j_icmp_eqN_t (tgt := 36) d_Model_reaches_30 (by decide) (by omega) (by omega) hab ?_
  refine j_aload_n d_Model_reaches_36 rfl ?_
  refine j_iload_n d_Model_reaches_37 rfl ?_
  refine j_callVn (As := [.int (nI s)]) (st := []) (c_layPowers hw hs rfl h1 h2 hb hd hd2 he) d_Model_reaches_38 (by decide) jm_Model_layPowers jk_Model_164 ji_Model_layPowers js_Model_layPowers rfl (by decide) rfl rfl (Nat.le_of_ble_eq_true rfl) rfl ?_
  refine j_iconst (v := nI 1) d_Model_reaches_41 rfl ?_
  refine j_istore_n (L' := [some (.ref 135), some (.int (nI s)), some (.int (nI b)), some (.int (nI 1))]) d_Model_reaches_42 (by decide) rfl rfl ?_
  refine j_loop (P := fun k => jJ n 4 jc_Model_reaches 4 "YesNoPowersModel" 43 [some (.ref 135), some (.int (nI s)), some (.int (nI b)), some (.int (nI (k + 1)))] [] (jM (lyH h (P s) ix pr) (lyP P (P s) (ix + pr))) res) (m := e) ?_ (fun k hk ih => ?_)
  · refine j_iload_n d_Model_reaches_43 rfl ?_
    refine j_aload_n d_Model_reaches_44 rfl ?_
    refine j_getv (v := nI ix) d_Model_reaches_45 jf_Model_147 rfl rfl rfl ?_
    refine j_aload_n d_Model_reaches_48 rfl ?_
    refine j_getv (v := nI pr) d_Model_reaches_49 jf_Model_153 rfl rfl rfl ?_
    refine j_iaddN d_Model_reaches_52 ?_
    refine j_icmp_geN_f (tgt := 73) d_Model_reaches_53 (by decide) (by omega) (by omega) (by omega) ?_
    refine j_aload_n d_Model_reaches_56 rfl ?_
    refine j_iload_n d_Model_reaches_57 rfl ?_
    refine j_iload_n d_Model_reaches_58 rfl ?_
    refine j_callVs (As := [.int (nI (e + 1)), .int (nI b)]) (st := []) (c_isPower (r := (tpo (P s) (e + 1 - 1)).2) (lyP_w hw (hw s) _) (by omega) (by omega) (fun i hi => lyH_pw (e + 1) i (by omega) (by omega) hi) (fun i _ => tw_lt (tw_po (hw s) _) i)) d_Model_reaches_59 (by decide) jm_Model_isPower jk_Model_150 ji_Model_isPower js_Model_isPower rfl (by decide) rfl rfl (Nat.le_of_ble_eq_true rfl) rfl ?_
    refine j_if_eqB_f (tgt := 67) d_Model_reaches_62 (by decide) (by rw [hb35 b hb0]; exact he2) ?_
    refine j_iload_n d_Model_reaches_65 rfl ?_
    subst hres
    exact j_reti d_Model_reaches_66 rfl rfl
  · refine j_iload_n d_Model_reaches_43 rfl ?_
    refine j_aload_n d_Model_reaches_44 rfl ?_
    refine j_getv (v := nI ix) d_Model_reaches_45 jf_Model_147 rfl rfl rfl ?_
    refine j_aload_n d_Model_reaches_48 rfl ?_
    refine j_getv (v := nI pr) d_Model_reaches_49 jf_Model_153 rfl rfl rfl ?_
    refine j_iaddN d_Model_reaches_52 ?_
    refine j_icmp_geN_f (tgt := 73) d_Model_reaches_53 (by decide) (by omega) (by omega) (by omega) ?_
    refine j_aload_n d_Model_reaches_56 rfl ?_
    refine j_iload_n d_Model_reaches_57 rfl ?_
    refine j_iload_n d_Model_reaches_58 rfl ?_
    refine j_callVs (As := [.int (nI (k + 1)), .int (nI b)]) (st := []) (c_isPower (r := (tpo (P s) (k + 1 - 1)).2) (lyP_w hw (hw s) _) (by omega) (by omega) (fun i hi => lyH_pw (k + 1) i (by omega) (by omega) hi) (fun i _ => tw_lt (tw_po (hw s) _) i)) d_Model_reaches_59 (by decide) jm_Model_isPower jk_Model_150 ji_Model_isPower js_Model_isPower rfl (by decide) rfl rfl (Nat.le_of_ble_eq_true rfl) rfl ?_
    refine j_if_eqB_t (tgt := 67) d_Model_reaches_62 (by decide) (by rw [hb35 b hb0]; exact hn k hk) ?_
    refine j_iincN (x := k + 1) (L' := [some (.ref 135), some (.int (nI s)), some (.int (nI b)), some (.int (nI ((k + 1) + 1)))]) d_Model_reaches_67 rfl (by decide) rfl rfl ?_
    refine j_goto (tgt := 43) d_Model_reaches_70 (by decide) ?_
    exact ih

def rg1 (a : Nat) (P : jP) : jP := jset (gr7 a 35 P) 36 (tmul (gr7 a 35 P a) (gr7 a 35 P 35))
def rg2 (a : Nat) (P : jP) : jP := jset (rg1 a P) 37 (tmul (rg1 a P 36) (rg1 a P a))
theorem rg1_w {a : Nat} {P : jP} (hw : ∀ q, tw (P q)) : ∀ q, tw (rg1 a P q) := tws (gr7_w hw) (tw_mul (gr7_w hw a) (gr7_w hw 35))
theorem rg2_w {a : Nat} {P : jP} (hw : ∀ q, tw (P q)) : ∀ q, tw (rg2 a P q) := tws (rg1_w hw) (tw_mul (rg1_w hw 36) (rg1_w hw a))
def jokSpace (P : jP) (s w : Int32) : Bool := jho P s && jin w 0 4
theorem c_isRegular {n : jN} {h : jH} {P : jP} {s : Nat} (hw : ∀ q, tw (P q)) (hs : s < 6) : jC n 4 jy_Model_isRegular jc_Model_isRegular 2 (some .boolean) [.ref 135, .int (nI s)] (jM h P) (some (.int (jbo (tsam (rg2 s P s) (rg2 s P 37) 12)))) (jM h (rg2 s P)) := by
  refine jC_of jm_Model_isRegular (L := [some (.ref 135), some (.int (nI s))]) (Nat.le_of_ble_eq_true rfl) rfl (jbo01 _) ?_
  generalize hres : (((some (.int (jbo (tsam (rg2 s P s) (rg2 s P 37) 12)))), jM h (rg2 s P)) : Option Value × jH) = res
  refine j_aload_n d_Model_isRegular_0 rfl ?_
  refine j_iload_n d_Model_isRegular_1 rfl ?_
  refine j_bipush (v := nI 35) d_Model_isRegular_2 (by decide) ?_
  refine j_callVn (As := [.int (nI s), .int (nI 35)]) (st := []) (c_greatestTo (by omega) (by omega) (by omega) hw) d_Model_isRegular_4 (by decide) jm_Model_greatestTo jk_Model_135 ji_Model_greatestTo js_Model_greatestTo rfl (by decide) rfl rfl (Nat.le_of_ble_eq_true rfl) rfl ?_
  refine j_aload_n d_Model_isRegular_7 rfl ?_
  refine j_iload_n d_Model_isRegular_8 rfl ?_
  refine j_bipush (v := nI 35) d_Model_isRegular_9 (by decide) ?_
  refine j_bipush (v := nI 36) d_Model_isRegular_11 (by decide) ?_
  refine j_callVn (As := [.int (nI s), .int (nI 35), .int (nI 36)]) (st := []) (c_multiply (by omega) (by omega) (by omega) (by omega) (by omega) (gr7_w hw)) d_Model_isRegular_13 (by decide) jm_Model_multiply jk_Model_88 ji_Model_multiply js_Model_multiply rfl (by decide) rfl rfl (Nat.le_of_ble_eq_true rfl) rfl ?_
  refine j_aload_n d_Model_isRegular_16 rfl ?_
  refine j_bipush (v := nI 36) d_Model_isRegular_17 (by decide) ?_
  refine j_iload_n d_Model_isRegular_19 rfl ?_
  refine j_bipush (v := nI 37) d_Model_isRegular_20 (by decide) ?_
  refine j_callVn (As := [.int (nI 36), .int (nI s), .int (nI 37)]) (st := []) (c_multiply (by omega) (by omega) (by omega) (by omega) (by omega) (rg1_w hw)) d_Model_isRegular_22 (by decide) jm_Model_multiply jk_Model_88 ji_Model_multiply js_Model_multiply rfl (by decide) rfl rfl (Nat.le_of_ble_eq_true rfl) rfl ?_
  refine j_aload_n d_Model_isRegular_25 rfl ?_
  refine j_iload_n d_Model_isRegular_26 rfl ?_
  refine j_bipush (v := nI 37) d_Model_isRegular_27 (by decide) ?_
  refine j_callVs (As := [.int (nI s), .int (nI 37)]) (st := []) (c_areSame (by omega) (by omega) (rg2_w hw)) d_Model_isRegular_29 (by decide) jm_Model_areSame jk_Model_138 ji_Model_areSame js_Model_areSame rfl (by decide) rfl rfl (Nat.le_of_ble_eq_true rfl) rfl ?_
  subst hres
  exact j_reti d_Model_isRegular_32 rfl rfl
theorem c_space_bad {n : jN} {h : jH} {P : jP} {s w : Int32} (hw : ∀ q, tw (P q)) (hb : jokSpace P s w = false) : jC n 5 jy_Model_space jc_Model_space 3 (some .int) [.ref 135, .int s, .int w] (jM h P) (some (.int (-1))) (jM h P) := by
  refine jC_of jm_Model_space (L := [some (.ref 135), some (.int s), some (.int w)]) (Nat.le_of_ble_eq_true rfl) rfl trivial ?_
  generalize hres : (((some (.int (-1))), jM h P) : Option Value × jH) = res
  refine j_aload_n d_Model_space_0 rfl ?_
  refine j_iload_n d_Model_space_1 rfl ?_
  refine j_callVs (As := [.int s]) (st := []) (c_holds hw) d_Model_space_2 (by decide) jm_Model_holds jk_Model_117 ji_Model_holds js_Model_holds rfl (by decide) rfl rfl (Nat.le_of_ble_eq_true rfl) rfl ?_
  refine j_if_eqB (tgt := 20) d_Model_space_5 (by decide) (fun c1 => ?_) (fun c1 => ?_)
  · refine j_iconst (v := -1) d_Model_space_20 rfl ?_
    subst hres
    exact j_reti d_Model_space_21 rfl rfl
  · refine j_iload_n d_Model_space_8 rfl ?_
    refine j_i2l d_Model_space_9 ?_
    refine j_lconst (v := 0) d_Model_space_10 rfl ?_
    refine j_ldc2 (v := 4) d_Model_space_11 jk_Model_111 ?_
    refine j_callSs (As := [.long w.toInt64, .long 0, .long 4]) (st := []) (c_in (x := w) (lo := 0) (hi := 4) rfl rfl rfl) d_Model_space_14 (by decide) jm_Model_in jk_Model_107 js_Model_in rfl (Nat.le_of_ble_eq_true rfl) rfl ?_
    refine j_if_neB (tgt := 22) d_Model_space_17 (by decide) (fun c2 => ?_) (fun c2 => ?_)
    · exact absurd hb (by simp [jokSpace, c1, c2])
    · refine j_iconst (v := -1) d_Model_space_20 rfl ?_
      subst hres
      exact j_reti d_Model_space_21 rfl rfl
theorem c_space4 {n : jN} {h : jH} {P : jP} {s : Nat} (hw : ∀ q, tw (P q)) (hs : s < 6) (h0 : 0 < (P s).1)  : jC n 5 jy_Model_space jc_Model_space 3 (some .int) [.ref 135, .int (nI s), .int (nI 4)] (jM h P) (some (.int (jbo (tsam (rg2 s P s) (rg2 s P 37) 12)))) (jM h (rg2 s P)) := by
  have hns := (hw s).1
  refine jC_of jm_Model_space (L := [some (.ref 135), some (.int (nI s)), some (.int (nI 4))]) (Nat.le_of_ble_eq_true rfl) rfl trivial ?_
  generalize hres : (((some (.int (jbo (tsam (rg2 s P s) (rg2 s P 37) 12)))), jM h (rg2 s P)) : Option Value × jH) = res
  refine j_aload_n d_Model_space_0 rfl ?_
  refine j_iload_n d_Model_space_1 rfl ?_
  refine j_callVs (As := [.int (nI s)]) (st := []) (c_holds hw) d_Model_space_2 (by decide) jm_Model_holds jk_Model_117 ji_Model_holds js_Model_holds rfl (by decide) rfl rfl (Nat.le_of_ble_eq_true rfl) rfl ?_
  refine j_if_eqB_f (tgt := 20) d_Model_space_5 (by decide) (jho_y hs h0) ?_
  refine j_iload_n d_Model_space_8 rfl ?_
  refine j_i2l d_Model_space_9 ?_
  refine j_lconst (v := 0) d_Model_space_10 rfl ?_
  refine j_ldc2 (v := 4) d_Model_space_11 jk_Model_111 ?_
  refine j_callSs (As := [.long ((nI 4).toInt64), .long 0, .long 4]) (st := []) (c_in (x := (nI 4)) (lo := 0) (hi := 4) rfl rfl rfl) d_Model_space_14 (by decide) jm_Model_in jk_Model_107 js_Model_in rfl (Nat.le_of_ble_eq_true rfl) rfl ?_
  refine j_if_neB_t (tgt := 22) d_Model_space_17 (by decide) (jin_y (by omega) (by omega) (by omega)) ?_
  refine j_iload_n d_Model_space_22 rfl ?_
  refine j_iconst (v := nI 4) d_Model_space_23 rfl ?_
  refine j_icmp_neN_f (tgt := 41) d_Model_space_24 (by decide) (by omega) (by omega) (by decide) ?_
  refine j_aload_n d_Model_space_27 rfl ?_
  refine j_iload_n d_Model_space_28 rfl ?_
  refine j_callVs (As := [.int (nI s)]) (st := []) (c_isRegular hw (by omega)) d_Model_space_29 (by decide) jm_Model_isRegular jk_Model_222 ji_Model_isRegular js_Model_isRegular rfl (by decide) rfl rfl (Nat.le_of_ble_eq_true rfl) rfl ?_
  refine j_if_eqB (tgt := 39) d_Model_space_32 (by decide) (fun c => ?_) (fun c => ?_)
  · refine j_iconst (v := nI 0) d_Model_space_39 rfl ?_
    subst hres
    exact j_reti d_Model_space_40 (by rw [c]; rfl) rfl
  · refine j_iconst (v := nI 1) d_Model_space_35 rfl ?_
    refine j_goto (tgt := 40) d_Model_space_36 (by decide) ?_
    subst hres
    exact j_reti d_Model_space_40 (by rw [c]; rfl) rfl
theorem c_space0 {n : jN} {h : jH} {P : jP} {s : Nat} (hw : ∀ q, tw (P q)) (hs : s < 6) (h0 : 0 < (P s).1) (hbn : ∀ v, v + 1 < 2 ^ (P s).1 → isb (P s) (v + 1) = true → (bsF (P s) v).2 < 12) : jC n 5 jy_Model_space jc_Model_space 3 (some .int) [.ref 135, .int (nI s), .int (nI 0)] (jM h P) (some (.int (nI (ucn (P s) (2 ^ (P s).1))))) (jM (jU (jBa h (fun z => if z < (bsF (P s) (2 ^ (P s).1 - 1)).2 then nI ((bsF (P s) (2 ^ (P s).1 - 1)).1 z) else h 148 z) ((bsF (P s) (2 ^ (P s).1 - 1)).2)) (fun z => if z < 4096 then jbo (seen (P s) (2 ^ (P s).1) z) else (jBa h (fun z => if z < (bsF (P s) (2 ^ (P s).1 - 1)).2 then nI ((bsF (P s) (2 ^ (P s).1 - 1)).1 z) else h 148 z) ((bsF (P s) (2 ^ (P s).1 - 1)).2)) 147 z)) (jset P 34 (P s))) := by
  have hns := (hw s).1
  refine jC_of jm_Model_space (L := [some (.ref 135), some (.int (nI s)), some (.int (nI 0))]) (Nat.le_of_ble_eq_true rfl) rfl trivial ?_
  generalize hres : (((some (.int (nI (ucn (P s) (2 ^ (P s).1))))), jM (jU (jBa h (fun z => if z < (bsF (P s) (2 ^ (P s).1 - 1)).2 then nI ((bsF (P s) (2 ^ (P s).1 - 1)).1 z) else h 148 z) ((bsF (P s) (2 ^ (P s).1 - 1)).2)) (fun z => if z < 4096 then jbo (seen (P s) (2 ^ (P s).1) z) else (jBa h (fun z => if z < (bsF (P s) (2 ^ (P s).1 - 1)).2 then nI ((bsF (P s) (2 ^ (P s).1 - 1)).1 z) else h 148 z) ((bsF (P s) (2 ^ (P s).1 - 1)).2)) 147 z)) (jset P 34 (P s))) : Option Value × jH) = res
  refine j_aload_n d_Model_space_0 rfl ?_
  refine j_iload_n d_Model_space_1 rfl ?_
  refine j_callVs (As := [.int (nI s)]) (st := []) (c_holds hw) d_Model_space_2 (by decide) jm_Model_holds jk_Model_117 ji_Model_holds js_Model_holds rfl (by decide) rfl rfl (Nat.le_of_ble_eq_true rfl) rfl ?_
  refine j_if_eqB_f (tgt := 20) d_Model_space_5 (by decide) (jho_y hs h0) ?_
  refine j_iload_n d_Model_space_8 rfl ?_
  refine j_i2l d_Model_space_9 ?_
  refine j_lconst (v := 0) d_Model_space_10 rfl ?_
  refine j_ldc2 (v := 4) d_Model_space_11 jk_Model_111 ?_
  refine j_callSs (As := [.long ((nI 0).toInt64), .long 0, .long 4]) (st := []) (c_in (x := (nI 0)) (lo := 0) (hi := 4) rfl rfl rfl) d_Model_space_14 (by decide) jm_Model_in jk_Model_107 js_Model_in rfl (Nat.le_of_ble_eq_true rfl) rfl ?_
  refine j_if_neB_t (tgt := 22) d_Model_space_17 (by decide) (jin_y (by omega) (by omega) (by omega)) ?_
  refine j_iload_n d_Model_space_22 rfl ?_
  refine j_iconst (v := nI 4) d_Model_space_23 rfl ?_
  refine j_icmp_neN_t (tgt := 41) d_Model_space_24 (by decide) (by omega) (by omega) (by decide) ?_
  refine j_iload_n d_Model_space_41 rfl ?_
  refine j_iconst (v := nI 2) d_Model_space_42 rfl ?_
  refine j_icmp_geN_f (tgt := 56) d_Model_space_43 (by decide) (by omega) (by omega) (by decide) ?_
  refine j_aload_n d_Model_space_46 rfl ?_
  refine j_iload_n d_Model_space_47 rfl ?_
  refine j_bipush (v := nI 34) d_Model_space_48 (by decide) ?_
  refine j_callVn (As := [.int (nI s), .int (nI 34)]) (st := []) (c_copyTo (by omega) (by omega) (by omega)) d_Model_space_50 (by decide) jm_Model_copyTo jk_Model_85 ji_Model_copyTo js_Model_copyTo rfl (by decide) rfl rfl (Nat.le_of_ble_eq_true rfl) rfl ?_
  refine j_goto (tgt := 63) d_Model_space_53 (by decide) ?_
  refine j_aload_n d_Model_space_63 rfl ?_
  refine j_bipush (v := nI 34) d_Model_space_64 (by decide) ?_
  refine j_callVn (As := [.int (nI 34)]) (st := []) (by have := c_layBasis (n := n) (h := h) (P := jset P 34 (P s)) (a := 34) (tws hw (hw s)) (by omega) (by rw [jset_eq]; exact hbn); rwa [jset_eq] at this) d_Model_space_66 (by decide) jm_Model_layBasis jk_Model_225 ji_Model_layBasis js_Model_layBasis rfl (by decide) rfl rfl (Nat.le_of_ble_eq_true rfl) rfl ?_
  refine j_iload_n d_Model_space_69 rfl ?_
  refine j_iconst (v := nI 2) d_Model_space_70 rfl ?_
  refine j_iremN d_Model_space_71 (by omega) (by omega) (by omega) ?_
  refine j_top (w := nI 0) rfl ?_
  refine j_if_neN_f (tgt := 84) d_Model_space_72 (by decide) (by omega) (by decide) ?_
  refine j_aload_n d_Model_space_75 rfl ?_
  refine j_bipush (v := nI 34) d_Model_space_76 (by decide) ?_
  refine j_callVs (As := [.int (nI 34)]) (st := []) (by have := c_layUnions (n := n) (h := jBa h (fun z => if z < (bsF (P s) (2 ^ (P s).1 - 1)).2 then nI ((bsF (P s) (2 ^ (P s).1 - 1)).1 z) else h 148 z) ((bsF (P s) (2 ^ (P s).1 - 1)).2)) (P := jset P 34 (P s)) (a := 34) (tws hw (hw s)) (by omega); rwa [jset_eq] at this) d_Model_space_78 (by decide) jm_Model_layUnions jk_Model_228 ji_Model_layUnions js_Model_layUnions rfl (by decide) rfl rfl (Nat.le_of_ble_eq_true rfl) rfl ?_
  refine j_goto (tgt := 88) d_Model_space_81 (by decide) ?_
  subst hres
  exact j_reti d_Model_space_88 rfl rfl
theorem c_space1 {n : jN} {h : jH} {P : jP} {s : Nat} (hw : ∀ q, tw (P q)) (hs : s < 6) (h0 : 0 < (P s).1) (hbn : ∀ v, v + 1 < 2 ^ (P s).1 → isb (P s) (v + 1) = true → (bsF (P s) v).2 < 12) : jC n 5 jy_Model_space jc_Model_space 3 (some .int) [.ref 135, .int (nI s), .int (nI 1)] (jM h P) (some (.int (nI ((bsF (P s) (2 ^ (P s).1 - 1)).2)))) (jM (jBa h (fun z => if z < (bsF (P s) (2 ^ (P s).1 - 1)).2 then nI ((bsF (P s) (2 ^ (P s).1 - 1)).1 z) else h 148 z) ((bsF (P s) (2 ^ (P s).1 - 1)).2)) (jset P 34 (P s))) := by
  have hns := (hw s).1
  refine jC_of jm_Model_space (L := [some (.ref 135), some (.int (nI s)), some (.int (nI 1))]) (Nat.le_of_ble_eq_true rfl) rfl trivial ?_
  generalize hres : (((some (.int (nI ((bsF (P s) (2 ^ (P s).1 - 1)).2)))), jM (jBa h (fun z => if z < (bsF (P s) (2 ^ (P s).1 - 1)).2 then nI ((bsF (P s) (2 ^ (P s).1 - 1)).1 z) else h 148 z) ((bsF (P s) (2 ^ (P s).1 - 1)).2)) (jset P 34 (P s))) : Option Value × jH) = res
  refine j_aload_n d_Model_space_0 rfl ?_
  refine j_iload_n d_Model_space_1 rfl ?_
  refine j_callVs (As := [.int (nI s)]) (st := []) (c_holds hw) d_Model_space_2 (by decide) jm_Model_holds jk_Model_117 ji_Model_holds js_Model_holds rfl (by decide) rfl rfl (Nat.le_of_ble_eq_true rfl) rfl ?_
  refine j_if_eqB_f (tgt := 20) d_Model_space_5 (by decide) (jho_y hs h0) ?_
  refine j_iload_n d_Model_space_8 rfl ?_
  refine j_i2l d_Model_space_9 ?_
  refine j_lconst (v := 0) d_Model_space_10 rfl ?_
  refine j_ldc2 (v := 4) d_Model_space_11 jk_Model_111 ?_
  refine j_callSs (As := [.long ((nI 1).toInt64), .long 0, .long 4]) (st := []) (c_in (x := (nI 1)) (lo := 0) (hi := 4) rfl rfl rfl) d_Model_space_14 (by decide) jm_Model_in jk_Model_107 js_Model_in rfl (Nat.le_of_ble_eq_true rfl) rfl ?_
  refine j_if_neB_t (tgt := 22) d_Model_space_17 (by decide) (jin_y (by omega) (by omega) (by omega)) ?_
  refine j_iload_n d_Model_space_22 rfl ?_
  refine j_iconst (v := nI 4) d_Model_space_23 rfl ?_
  refine j_icmp_neN_t (tgt := 41) d_Model_space_24 (by decide) (by omega) (by omega) (by decide) ?_
  refine j_iload_n d_Model_space_41 rfl ?_
  refine j_iconst (v := nI 2) d_Model_space_42 rfl ?_
  refine j_icmp_geN_f (tgt := 56) d_Model_space_43 (by decide) (by omega) (by omega) (by decide) ?_
  refine j_aload_n d_Model_space_46 rfl ?_
  refine j_iload_n d_Model_space_47 rfl ?_
  refine j_bipush (v := nI 34) d_Model_space_48 (by decide) ?_
  refine j_callVn (As := [.int (nI s), .int (nI 34)]) (st := []) (c_copyTo (by omega) (by omega) (by omega)) d_Model_space_50 (by decide) jm_Model_copyTo jk_Model_85 ji_Model_copyTo js_Model_copyTo rfl (by decide) rfl rfl (Nat.le_of_ble_eq_true rfl) rfl ?_
  refine j_goto (tgt := 63) d_Model_space_53 (by decide) ?_
  refine j_aload_n d_Model_space_63 rfl ?_
  refine j_bipush (v := nI 34) d_Model_space_64 (by decide) ?_
  refine j_callVn (As := [.int (nI 34)]) (st := []) (by have := c_layBasis (n := n) (h := h) (P := jset P 34 (P s)) (a := 34) (tws hw (hw s)) (by omega) (by rw [jset_eq]; exact hbn); rwa [jset_eq] at this) d_Model_space_66 (by decide) jm_Model_layBasis jk_Model_225 ji_Model_layBasis js_Model_layBasis rfl (by decide) rfl rfl (Nat.le_of_ble_eq_true rfl) rfl ?_
  refine j_iload_n d_Model_space_69 rfl ?_
  refine j_iconst (v := nI 2) d_Model_space_70 rfl ?_
  refine j_iremN d_Model_space_71 (by omega) (by omega) (by omega) ?_
  refine j_top (w := nI 1) rfl ?_
  refine j_if_neN_t (tgt := 84) d_Model_space_72 (by decide) (by omega) (by decide) ?_
  refine j_aload_n d_Model_space_84 rfl ?_
  refine j_getv (v := nI ((bsF (P s) (2 ^ (P s).1 - 1)).2)) d_Model_space_85 jf_Model_219 rfl rfl rfl ?_
  subst hres
  exact j_reti d_Model_space_88 rfl rfl
theorem c_space2 {n : jN} {h : jH} {P : jP} {s : Nat} (hw : ∀ q, tw (P q)) (hs : s < 6) (h0 : 0 < (P s).1) (hbn : ∀ v, v + 1 < 2 ^ (ttr (P s)).1 → isb (ttr (P s)) (v + 1) = true → (bsF (ttr (P s)) v).2 < 12) : jC n 5 jy_Model_space jc_Model_space 3 (some .int) [.ref 135, .int (nI s), .int (nI 2)] (jM h P) (some (.int (nI (ucn (ttr (P s)) (2 ^ (ttr (P s)).1))))) (jM (jU (jBa h (fun z => if z < (bsF (ttr (P s)) (2 ^ (ttr (P s)).1 - 1)).2 then nI ((bsF (ttr (P s)) (2 ^ (ttr (P s)).1 - 1)).1 z) else h 148 z) ((bsF (ttr (P s)) (2 ^ (ttr (P s)).1 - 1)).2)) (fun z => if z < 4096 then jbo (seen (ttr (P s)) (2 ^ (ttr (P s)).1) z) else (jBa h (fun z => if z < (bsF (ttr (P s)) (2 ^ (ttr (P s)).1 - 1)).2 then nI ((bsF (ttr (P s)) (2 ^ (ttr (P s)).1 - 1)).1 z) else h 148 z) ((bsF (ttr (P s)) (2 ^ (ttr (P s)).1 - 1)).2)) 147 z)) (jset P 34 (ttr (P s)))) := by
  have hns := (hw s).1
  refine jC_of jm_Model_space (L := [some (.ref 135), some (.int (nI s)), some (.int (nI 2))]) (Nat.le_of_ble_eq_true rfl) rfl trivial ?_
  generalize hres : (((some (.int (nI (ucn (ttr (P s)) (2 ^ (ttr (P s)).1))))), jM (jU (jBa h (fun z => if z < (bsF (ttr (P s)) (2 ^ (ttr (P s)).1 - 1)).2 then nI ((bsF (ttr (P s)) (2 ^ (ttr (P s)).1 - 1)).1 z) else h 148 z) ((bsF (ttr (P s)) (2 ^ (ttr (P s)).1 - 1)).2)) (fun z => if z < 4096 then jbo (seen (ttr (P s)) (2 ^ (ttr (P s)).1) z) else (jBa h (fun z => if z < (bsF (ttr (P s)) (2 ^ (ttr (P s)).1 - 1)).2 then nI ((bsF (ttr (P s)) (2 ^ (ttr (P s)).1 - 1)).1 z) else h 148 z) ((bsF (ttr (P s)) (2 ^ (ttr (P s)).1 - 1)).2)) 147 z)) (jset P 34 (ttr (P s)))) : Option Value × jH) = res
  refine j_aload_n d_Model_space_0 rfl ?_
  refine j_iload_n d_Model_space_1 rfl ?_
  refine j_callVs (As := [.int (nI s)]) (st := []) (c_holds hw) d_Model_space_2 (by decide) jm_Model_holds jk_Model_117 ji_Model_holds js_Model_holds rfl (by decide) rfl rfl (Nat.le_of_ble_eq_true rfl) rfl ?_
  refine j_if_eqB_f (tgt := 20) d_Model_space_5 (by decide) (jho_y hs h0) ?_
  refine j_iload_n d_Model_space_8 rfl ?_
  refine j_i2l d_Model_space_9 ?_
  refine j_lconst (v := 0) d_Model_space_10 rfl ?_
  refine j_ldc2 (v := 4) d_Model_space_11 jk_Model_111 ?_
  refine j_callSs (As := [.long ((nI 2).toInt64), .long 0, .long 4]) (st := []) (c_in (x := (nI 2)) (lo := 0) (hi := 4) rfl rfl rfl) d_Model_space_14 (by decide) jm_Model_in jk_Model_107 js_Model_in rfl (Nat.le_of_ble_eq_true rfl) rfl ?_
  refine j_if_neB_t (tgt := 22) d_Model_space_17 (by decide) (jin_y (by omega) (by omega) (by omega)) ?_
  refine j_iload_n d_Model_space_22 rfl ?_
  refine j_iconst (v := nI 4) d_Model_space_23 rfl ?_
  refine j_icmp_neN_t (tgt := 41) d_Model_space_24 (by decide) (by omega) (by omega) (by decide) ?_
  refine j_iload_n d_Model_space_41 rfl ?_
  refine j_iconst (v := nI 2) d_Model_space_42 rfl ?_
  refine j_icmp_geN_t (tgt := 56) d_Model_space_43 (by decide) (by omega) (by omega) (by decide) ?_
  refine j_aload_n d_Model_space_56 rfl ?_
  refine j_iload_n d_Model_space_57 rfl ?_
  refine j_bipush (v := nI 34) d_Model_space_58 (by decide) ?_
  refine j_callVn (As := [.int (nI s), .int (nI 34)]) (st := []) (c_transpose (by omega) (by omega) (by omega) hw) d_Model_space_60 (by decide) jm_Model_transpose jk_Model_95 ji_Model_transpose js_Model_transpose rfl (by decide) rfl rfl (Nat.le_of_ble_eq_true rfl) rfl ?_
  refine j_aload_n d_Model_space_63 rfl ?_
  refine j_bipush (v := nI 34) d_Model_space_64 (by decide) ?_
  refine j_callVn (As := [.int (nI 34)]) (st := []) (by have := c_layBasis (n := n) (h := h) (P := jset P 34 (ttr (P s))) (a := 34) (tws hw (tw_tr (hw s))) (by omega) (by rw [jset_eq]; exact hbn); rwa [jset_eq] at this) d_Model_space_66 (by decide) jm_Model_layBasis jk_Model_225 ji_Model_layBasis js_Model_layBasis rfl (by decide) rfl rfl (Nat.le_of_ble_eq_true rfl) rfl ?_
  refine j_iload_n d_Model_space_69 rfl ?_
  refine j_iconst (v := nI 2) d_Model_space_70 rfl ?_
  refine j_iremN d_Model_space_71 (by omega) (by omega) (by omega) ?_
  refine j_top (w := nI 0) rfl ?_
  refine j_if_neN_f (tgt := 84) d_Model_space_72 (by decide) (by omega) (by decide) ?_
  refine j_aload_n d_Model_space_75 rfl ?_
  refine j_bipush (v := nI 34) d_Model_space_76 (by decide) ?_
  refine j_callVs (As := [.int (nI 34)]) (st := []) (by have := c_layUnions (n := n) (h := jBa h (fun z => if z < (bsF (ttr (P s)) (2 ^ (ttr (P s)).1 - 1)).2 then nI ((bsF (ttr (P s)) (2 ^ (ttr (P s)).1 - 1)).1 z) else h 148 z) ((bsF (ttr (P s)) (2 ^ (ttr (P s)).1 - 1)).2)) (P := jset P 34 (ttr (P s))) (a := 34) (tws hw (tw_tr (hw s))) (by omega); rwa [jset_eq] at this) d_Model_space_78 (by decide) jm_Model_layUnions jk_Model_228 ji_Model_layUnions js_Model_layUnions rfl (by decide) rfl rfl (Nat.le_of_ble_eq_true rfl) rfl ?_
  refine j_goto (tgt := 88) d_Model_space_81 (by decide) ?_
  subst hres
  exact j_reti d_Model_space_88 rfl rfl
theorem c_space3 {n : jN} {h : jH} {P : jP} {s : Nat} (hw : ∀ q, tw (P q)) (hs : s < 6) (h0 : 0 < (P s).1) (hbn : ∀ v, v + 1 < 2 ^ (ttr (P s)).1 → isb (ttr (P s)) (v + 1) = true → (bsF (ttr (P s)) v).2 < 12) : jC n 5 jy_Model_space jc_Model_space 3 (some .int) [.ref 135, .int (nI s), .int (nI 3)] (jM h P) (some (.int (nI ((bsF (ttr (P s)) (2 ^ (ttr (P s)).1 - 1)).2)))) (jM (jBa h (fun z => if z < (bsF (ttr (P s)) (2 ^ (ttr (P s)).1 - 1)).2 then nI ((bsF (ttr (P s)) (2 ^ (ttr (P s)).1 - 1)).1 z) else h 148 z) ((bsF (ttr (P s)) (2 ^ (ttr (P s)).1 - 1)).2)) (jset P 34 (ttr (P s)))) := by
  have hns := (hw s).1
  refine jC_of jm_Model_space (L := [some (.ref 135), some (.int (nI s)), some (.int (nI 3))]) (Nat.le_of_ble_eq_true rfl) rfl trivial ?_
  generalize hres : (((some (.int (nI ((bsF (ttr (P s)) (2 ^ (ttr (P s)).1 - 1)).2)))), jM (jBa h (fun z => if z < (bsF (ttr (P s)) (2 ^ (ttr (P s)).1 - 1)).2 then nI ((bsF (ttr (P s)) (2 ^ (ttr (P s)).1 - 1)).1 z) else h 148 z) ((bsF (ttr (P s)) (2 ^ (ttr (P s)).1 - 1)).2)) (jset P 34 (ttr (P s)))) : Option Value × jH) = res
  refine j_aload_n d_Model_space_0 rfl ?_
  refine j_iload_n d_Model_space_1 rfl ?_
  refine j_callVs (As := [.int (nI s)]) (st := []) (c_holds hw) d_Model_space_2 (by decide) jm_Model_holds jk_Model_117 ji_Model_holds js_Model_holds rfl (by decide) rfl rfl (Nat.le_of_ble_eq_true rfl) rfl ?_
  refine j_if_eqB_f (tgt := 20) d_Model_space_5 (by decide) (jho_y hs h0) ?_
  refine j_iload_n d_Model_space_8 rfl ?_
  refine j_i2l d_Model_space_9 ?_
  refine j_lconst (v := 0) d_Model_space_10 rfl ?_
  refine j_ldc2 (v := 4) d_Model_space_11 jk_Model_111 ?_
  refine j_callSs (As := [.long ((nI 3).toInt64), .long 0, .long 4]) (st := []) (c_in (x := (nI 3)) (lo := 0) (hi := 4) rfl rfl rfl) d_Model_space_14 (by decide) jm_Model_in jk_Model_107 js_Model_in rfl (Nat.le_of_ble_eq_true rfl) rfl ?_
  refine j_if_neB_t (tgt := 22) d_Model_space_17 (by decide) (jin_y (by omega) (by omega) (by omega)) ?_
  refine j_iload_n d_Model_space_22 rfl ?_
  refine j_iconst (v := nI 4) d_Model_space_23 rfl ?_
  refine j_icmp_neN_t (tgt := 41) d_Model_space_24 (by decide) (by omega) (by omega) (by decide) ?_
  refine j_iload_n d_Model_space_41 rfl ?_
  refine j_iconst (v := nI 2) d_Model_space_42 rfl ?_
  refine j_icmp_geN_t (tgt := 56) d_Model_space_43 (by decide) (by omega) (by omega) (by decide) ?_
  refine j_aload_n d_Model_space_56 rfl ?_
  refine j_iload_n d_Model_space_57 rfl ?_
  refine j_bipush (v := nI 34) d_Model_space_58 (by decide) ?_
  refine j_callVn (As := [.int (nI s), .int (nI 34)]) (st := []) (c_transpose (by omega) (by omega) (by omega) hw) d_Model_space_60 (by decide) jm_Model_transpose jk_Model_95 ji_Model_transpose js_Model_transpose rfl (by decide) rfl rfl (Nat.le_of_ble_eq_true rfl) rfl ?_
  refine j_aload_n d_Model_space_63 rfl ?_
  refine j_bipush (v := nI 34) d_Model_space_64 (by decide) ?_
  refine j_callVn (As := [.int (nI 34)]) (st := []) (by have := c_layBasis (n := n) (h := h) (P := jset P 34 (ttr (P s))) (a := 34) (tws hw (tw_tr (hw s))) (by omega) (by rw [jset_eq]; exact hbn); rwa [jset_eq] at this) d_Model_space_66 (by decide) jm_Model_layBasis jk_Model_225 ji_Model_layBasis js_Model_layBasis rfl (by decide) rfl rfl (Nat.le_of_ble_eq_true rfl) rfl ?_
  refine j_iload_n d_Model_space_69 rfl ?_
  refine j_iconst (v := nI 2) d_Model_space_70 rfl ?_
  refine j_iremN d_Model_space_71 (by omega) (by omega) (by omega) ?_
  refine j_top (w := nI 1) rfl ?_
  refine j_if_neN_t (tgt := 84) d_Model_space_72 (by decide) (by omega) (by decide) ?_
  refine j_aload_n d_Model_space_84 rfl ?_
  refine j_getv (v := nI ((bsF (ttr (P s)) (2 ^ (ttr (P s)).1 - 1)).2)) d_Model_space_85 jf_Model_219 rfl rfl rfl ?_
  subst hres
  exact j_reti d_Model_space_88 rfl rfl
theorem c_basis_bad {n : jN} {h : jH} {P : jP} {s i : Int32} (hw : ∀ q, tw (P q)) (hb : jho P s = false) : jC n 2 jy_Model_basis jc_Model_basis 3 (some .int) [.ref 135, .int s, .int i] (jM h P) (some (.int (-1))) (jM h P) := by
  refine jC_of jm_Model_basis (L := [some (.ref 135), some (.int s), some (.int i)]) (Nat.le_of_ble_eq_true rfl) rfl trivial ?_
  generalize hres : (((some (.int (-1))), jM h P) : Option Value × jH) = res
  refine j_aload_n d_Model_basis_0 rfl ?_
  refine j_iload_n d_Model_basis_1 rfl ?_
  refine j_callVs (As := [.int s]) (st := []) (c_holds hw) d_Model_basis_2 (by decide) jm_Model_holds jk_Model_117 ji_Model_holds js_Model_holds rfl (by decide) rfl rfl (Nat.le_of_ble_eq_true rfl) rfl ?_
  refine j_if_neB (tgt := 10) d_Model_basis_5 (by decide) (fun c1 => ?_) (fun c1 => ?_)
  · exact absurd c1 (by rw [hb]; decide)
  · refine j_iconst (v := -1) d_Model_basis_8 rfl ?_
    subst hres
    exact j_reti d_Model_basis_9 rfl rfl
theorem c_basis_none {n : jN} {h : jH} {P : jP} {s : Nat} (hw : ∀ q, tw (P q)) (hs : s < 6) (h0 : 0 < (P s).1) (hbn : ∀ v, v + 1 < 2 ^ (P s).1 → isb (P s) (v + 1) = true → (bsF (P s) v).2 < 12) (hbm : (bsF (P s) (2 ^ (P s).1 - 1)).2 ≤ 12 + 28) {i : Int32} (hb : jin i 0 (((bsF (P s) (2 ^ (P s).1 - 1)).2 : Int) - 1) = false) : jC n 2 jy_Model_basis jc_Model_basis 3 (some .int) [.ref 135, .int (nI s), .int i] (jM h P) (some (.int (-2))) (jM (jBa h (fun z => if z < (bsF (P s) (2 ^ (P s).1 - 1)).2 then nI ((bsF (P s) (2 ^ (P s).1 - 1)).1 z) else h 148 z) ((bsF (P s) (2 ^ (P s).1 - 1)).2)) P) := by
  have hns := (hw s).1
  refine jC_of jm_Model_basis (L := [some (.ref 135), some (.int (nI s)), some (.int i)]) (Nat.le_of_ble_eq_true rfl) rfl trivial ?_
  generalize hres : (((some (.int (-2))), jM (jBa h (fun z => if z < (bsF (P s) (2 ^ (P s).1 - 1)).2 then nI ((bsF (P s) (2 ^ (P s).1 - 1)).1 z) else h 148 z) ((bsF (P s) (2 ^ (P s).1 - 1)).2)) P) : Option Value × jH) = res
  refine j_aload_n d_Model_basis_0 rfl ?_
  refine j_iload_n d_Model_basis_1 rfl ?_
  refine j_callVs (As := [.int (nI s)]) (st := []) (c_holds hw) d_Model_basis_2 (by decide) jm_Model_holds jk_Model_117 ji_Model_holds js_Model_holds rfl (by decide) rfl rfl (Nat.le_of_ble_eq_true rfl) rfl ?_
  refine j_if_neB_t (tgt := 10) d_Model_basis_5 (by decide) (jho_y hs h0) ?_
  refine j_aload_n d_Model_basis_10 rfl ?_
  refine j_iload_n d_Model_basis_11 rfl ?_
  refine j_callVn (As := [.int (nI s)]) (st := []) (c_layBasis hw (by omega) hbn) d_Model_basis_12 (by decide) jm_Model_layBasis jk_Model_225 ji_Model_layBasis js_Model_layBasis rfl (by decide) rfl rfl (Nat.le_of_ble_eq_true rfl) rfl ?_
  refine j_iload_n d_Model_basis_15 rfl ?_
  refine j_i2l d_Model_basis_16 ?_
  refine j_lconst (v := 0) d_Model_basis_17 rfl ?_
  refine j_aload_n d_Model_basis_18 rfl ?_
  refine j_getv (v := nI ((bsF (P s) (2 ^ (P s).1 - 1)).2)) d_Model_basis_19 jf_Model_219 rfl rfl rfl ?_
  refine j_iconst (v := nI 1) d_Model_basis_22 rfl ?_
  refine j_isub d_Model_basis_23 ?_
  refine j_i2l d_Model_basis_24 ?_
  refine j_callSs (As := [.long i.toInt64, .long 0, .long (((nI ((bsF (P s) (2 ^ (P s).1 - 1)).2)) - (nI 1)).toInt64)]) (st := []) (c_in (x := i) (lo := 0) (hi := ((nI ((bsF (P s) (2 ^ (P s).1 - 1)).2)) - (nI 1)).toInt) rfl rfl (Int32.toInt_toInt64 _)) d_Model_basis_25 (by decide) jm_Model_in jk_Model_107 js_Model_in rfl (Nat.le_of_ble_eq_true rfl) rfl ?_
  refine j_if_eqB (tgt := 40) d_Model_basis_28 (by decide) (fun c1 => ?_) (fun c1 => ?_)
  · refine j_bipush (v := -2) d_Model_basis_40 (by decide) ?_
    subst hres
    exact j_reti d_Model_basis_42 rfl rfl
  · rw [nI_s1 hbm] at c1
    exact absurd c1 (by rw [hb]; decide)
theorem c_basis_some {n : jN} {h : jH} {P : jP} {s : Nat} (hw : ∀ q, tw (P q)) (hs : s < 6) (h0 : 0 < (P s).1) (hbn : ∀ v, v + 1 < 2 ^ (P s).1 → isb (P s) (v + 1) = true → (bsF (P s) v).2 < 12) (hbm : (bsF (P s) (2 ^ (P s).1 - 1)).2 ≤ 12 + 28) {i : Nat} (hi : i < (bsF (P s) (2 ^ (P s).1 - 1)).2) (hi12 : i < 12) : jC n 2 jy_Model_basis jc_Model_basis 3 (some .int) [.ref 135, .int (nI s), .int (nI i)] (jM h P) (some (.int (nI ((bsF (P s) (2 ^ (P s).1 - 1)).1 i)))) (jM (jBa h (fun z => if z < (bsF (P s) (2 ^ (P s).1 - 1)).2 then nI ((bsF (P s) (2 ^ (P s).1 - 1)).1 z) else h 148 z) ((bsF (P s) (2 ^ (P s).1 - 1)).2)) P) := by
  have hns := (hw s).1
  refine jC_of jm_Model_basis (L := [some (.ref 135), some (.int (nI s)), some (.int (nI i))]) (Nat.le_of_ble_eq_true rfl) rfl trivial ?_
  generalize hres : (((some (.int (nI ((bsF (P s) (2 ^ (P s).1 - 1)).1 i)))), jM (jBa h (fun z => if z < (bsF (P s) (2 ^ (P s).1 - 1)).2 then nI ((bsF (P s) (2 ^ (P s).1 - 1)).1 z) else h 148 z) ((bsF (P s) (2 ^ (P s).1 - 1)).2)) P) : Option Value × jH) = res
  refine j_aload_n d_Model_basis_0 rfl ?_
  refine j_iload_n d_Model_basis_1 rfl ?_
  refine j_callVs (As := [.int (nI s)]) (st := []) (c_holds hw) d_Model_basis_2 (by decide) jm_Model_holds jk_Model_117 ji_Model_holds js_Model_holds rfl (by decide) rfl rfl (Nat.le_of_ble_eq_true rfl) rfl ?_
  refine j_if_neB_t (tgt := 10) d_Model_basis_5 (by decide) (jho_y hs h0) ?_
  refine j_aload_n d_Model_basis_10 rfl ?_
  refine j_iload_n d_Model_basis_11 rfl ?_
  refine j_callVn (As := [.int (nI s)]) (st := []) (c_layBasis hw (by omega) hbn) d_Model_basis_12 (by decide) jm_Model_layBasis jk_Model_225 ji_Model_layBasis js_Model_layBasis rfl (by decide) rfl rfl (Nat.le_of_ble_eq_true rfl) rfl ?_
  refine j_iload_n d_Model_basis_15 rfl ?_
  refine j_i2l d_Model_basis_16 ?_
  refine j_lconst (v := 0) d_Model_basis_17 rfl ?_
  refine j_aload_n d_Model_basis_18 rfl ?_
  refine j_getv (v := nI ((bsF (P s) (2 ^ (P s).1 - 1)).2)) d_Model_basis_19 jf_Model_219 rfl rfl rfl ?_
  refine j_iconst (v := nI 1) d_Model_basis_22 rfl ?_
  refine j_isub d_Model_basis_23 ?_
  refine j_i2l d_Model_basis_24 ?_
  refine j_callSs (As := [.long ((nI i).toInt64), .long 0, .long (((nI ((bsF (P s) (2 ^ (P s).1 - 1)).2)) - (nI 1)).toInt64)]) (st := []) (c_in (x := (nI i)) (lo := 0) (hi := ((nI ((bsF (P s) (2 ^ (P s).1 - 1)).2)) - (nI 1)).toInt) rfl rfl (Int32.toInt_toInt64 _)) d_Model_basis_25 (by decide) jm_Model_in jk_Model_107 js_Model_in rfl (Nat.le_of_ble_eq_true rfl) rfl ?_
  refine j_if_eqB_f (tgt := 40) d_Model_basis_28 (by decide) (jin_y (by omega) (by omega) (by rw [nI_s1 hbm]; omega)) ?_
  refine j_aload_n d_Model_basis_31 rfl ?_
  refine j_getr (b := 148) d_Model_basis_32 jf_Model_47 rfl rfl rfl (by decide) ?_
  refine j_iload_n d_Model_basis_35 rfl ?_
  refine j_ialdN (v := nI ((bsF (P s) (2 ^ (P s).1 - 1)).1 i)) d_Model_basis_36 rfl (by omega) (by decide) (if_pos hi) ?_
  refine j_goto (tgt := 42) d_Model_basis_37 (by decide) ?_
  subst hres
  exact j_reti d_Model_basis_42 rfl rfl
def jokSpans (P : jP) (s v : Int32) : Bool := jho P s && jse (P s.toNatClampNeg).1 v
theorem c_spans_bad {n : jN} {h : jH} {P : jP} {s v : Int32} (hw : ∀ q, tw (P q)) (hb : jokSpans P s v = false) : jC n 2 jy_Model_spans jc_Model_spans 4 (some .int) [.ref 135, .int s, .int v] (jM h P) (some (.int (-1))) (jM h P) := by
  refine jC_of jm_Model_spans (L := [some (.ref 135), some (.int s), some (.int v), none]) (Nat.le_of_ble_eq_true rfl) rfl trivial ?_
  generalize hres : (((some (.int (-1))), jM h P) : Option Value × jH) = res
  refine j_aload_n d_Model_spans_0 rfl ?_
  refine j_iload_n d_Model_spans_1 rfl ?_
  refine j_callVs (As := [.int s]) (st := []) (c_holds hw) d_Model_spans_2 (by decide) jm_Model_holds jk_Model_117 ji_Model_holds js_Model_holds rfl (by decide) rfl rfl (Nat.le_of_ble_eq_true rfl) rfl ?_
  refine j_if_eqB (tgt := 17) d_Model_spans_5 (by decide) (fun c1 => ?_) (fun c1 => ?_)
  · refine j_iconst (v := -1) d_Model_spans_17 rfl ?_
    subst hres
    exact j_reti d_Model_spans_18 rfl rfl
  · obtain ⟨s0, hs0, hs00, rfl⟩ := jho_t c1
    have hns0 := (hw s0).1
    refine j_aload_n d_Model_spans_8 rfl ?_
    refine j_iload_n d_Model_spans_9 rfl ?_
    refine j_iload_n d_Model_spans_10 rfl ?_
    refine j_callVs (As := [.int (nI s0), .int v]) (st := []) (c_isSet (by omega) (hw s0).1) d_Model_spans_11 (by decide) jm_Model_isSet jk_Model_124 ji_Model_isSet js_Model_isSet rfl (by decide) rfl rfl (Nat.le_of_ble_eq_true rfl) rfl ?_
    refine j_if_neB (tgt := 19) d_Model_spans_14 (by decide) (fun c2 => ?_) (fun c2 => ?_)
    · exact absurd hb (by simp [jokSpans, c1, c2, nI_clamp (show s0 < 2 ^ 31 by omega)])
    · refine j_iconst (v := -1) d_Model_spans_17 rfl ?_
      subst hres
      exact j_reti d_Model_spans_18 rfl rfl
theorem c_spans {n : jN} {h : jH} {P : jP} {s : Nat} (hw : ∀ q, tw (P q)) (hs : s < 6) (h0 : 0 < (P s).1) {v : Nat} (hv : v < 2 ^ (P s).1) : jC n 2 jy_Model_spans jc_Model_spans 4 (some .int) [.ref 135, .int (nI s), .int (nI v)] (jM h P) (some (.int (jbo (seen (P s) (2 ^ (P s).1) v)))) (jM (jU h (fun z => if z < 4096 then jbo (seen (P s) (2 ^ (P s).1) z) else h 147 z)) P) := by
  have hns := (hw s).1
  refine jC_of jm_Model_spans (L := [some (.ref 135), some (.int (nI s)), some (.int (nI v)), none]) (Nat.le_of_ble_eq_true rfl) rfl trivial ?_
  generalize hres : (((some (.int (jbo (seen (P s) (2 ^ (P s).1) v)))), jM (jU h (fun z => if z < 4096 then jbo (seen (P s) (2 ^ (P s).1) z) else h 147 z)) P) : Option Value × jH) = res
  have h2m : 2 ^ (P s).1 ≤ 2 ^ 12 := Nat.pow_le_pow_right (by omega) hns
  refine j_aload_n d_Model_spans_0 rfl ?_
  refine j_iload_n d_Model_spans_1 rfl ?_
  refine j_callVs (As := [.int (nI s)]) (st := []) (c_holds hw) d_Model_spans_2 (by decide) jm_Model_holds jk_Model_117 ji_Model_holds js_Model_holds rfl (by decide) rfl rfl (Nat.le_of_ble_eq_true rfl) rfl ?_
  refine j_if_eqB_f (tgt := 17) d_Model_spans_5 (by decide) (jho_y hs h0) ?_
  refine j_aload_n d_Model_spans_8 rfl ?_
  refine j_iload_n d_Model_spans_9 rfl ?_
  refine j_iload_n d_Model_spans_10 rfl ?_
  refine j_callVs (As := [.int (nI s), .int (nI v)]) (st := []) (c_isSet (by omega) (hw s).1) d_Model_spans_11 (by decide) jm_Model_isSet jk_Model_124 ji_Model_isSet js_Model_isSet rfl (by decide) rfl rfl (Nat.le_of_ble_eq_true rfl) rfl ?_
  refine j_if_neB_t (tgt := 19) d_Model_spans_14 (by decide) (jse_y hns hv) ?_
  refine j_aload_n d_Model_spans_19 rfl ?_
  refine j_iload_n d_Model_spans_20 rfl ?_
  refine j_callVs (As := [.int (nI s)]) (st := []) (c_layUnions hw (by omega)) d_Model_spans_21 (by decide) jm_Model_layUnions jk_Model_228 ji_Model_layUnions js_Model_layUnions rfl (by decide) rfl rfl (Nat.le_of_ble_eq_true rfl) rfl ?_
  refine j_istore_n (L' := [some (.ref 135), some (.int (nI s)), some (.int (nI v)), some (.int (nI (ucn (P s) (2 ^ (P s).1))))]) d_Model_spans_24 (by decide) rfl rfl ?_
  refine j_aload_n d_Model_spans_25 rfl ?_
  refine j_getr (b := 147) d_Model_spans_26 jf_Model_43 rfl rfl rfl (by decide) ?_
  refine j_iload_n d_Model_spans_29 rfl ?_
  refine j_zaldN (v := jbo (seen (P s) (2 ^ (P s).1) v)) d_Model_spans_30 rfl (by omega) (by decide) (if_pos (by omega)) ?_
  refine j_if_eqB (tgt := 38) d_Model_spans_31 (by decide) (fun c => ?_) (fun c => ?_)
  · refine j_iconst (v := nI 0) d_Model_spans_38 rfl ?_
    subst hres
    exact j_reti d_Model_spans_39 (by rw [c]; rfl) rfl
  · refine j_iconst (v := nI 1) d_Model_spans_34 rfl ?_
    refine j_goto (tgt := 39) d_Model_spans_35 (by decide) ?_
    subst hres
    exact j_reti d_Model_spans_39 (by rw [c]; rfl) rfl
def wth (A Bt : jT) (k : Nat) : Bool := jall k (fun i => seen Bt (2 ^ Bt.1) (A.2 i))
theorem c_isWithin {n : jN} {h : jH} {P : jP} {a b : Nat} (hw : ∀ q, tw (P q)) (ha : a < 38) (hb : b < 38) : jC n 2 jy_Model_isWithin jc_Model_isWithin 6 (some .boolean) [.ref 135, .int (nI a), .int (nI b)] (jM h P) (some (.int (jbo (wth (P a) (P b) (P a).1)))) (jM (jU h (fun z => if z < 4096 then jbo (seen (P b) (2 ^ (P b).1) z) else h 147 z)) P) := by
  have hna := (hw a).1
  refine jC_of jm_Model_isWithin (L := [some (.ref 135), some (.int (nI a)), some (.int (nI b)), none, none, none]) (Nat.le_of_ble_eq_true rfl) rfl (jbo01 _) ?_
  generalize hres : (((some (.int (jbo (wth (P a) (P b) (P a).1)))), jM (jU h (fun z => if z < 4096 then jbo (seen (P b) (2 ^ (P b).1) z) else h 147 z)) P) : Option Value × jH) = res
  refine j_aload_n d_Model_isWithin_0 rfl ?_
  refine j_iload_n d_Model_isWithin_1 rfl ?_
  refine j_callVs (As := [.int (nI b)]) (st := []) (c_layUnions hw (by omega)) d_Model_isWithin_2 (by decide) jm_Model_layUnions jk_Model_228 ji_Model_layUnions js_Model_layUnions rfl (by decide) rfl rfl (Nat.le_of_ble_eq_true rfl) rfl ?_
  refine j_istore_n (L' := [some (.ref 135), some (.int (nI a)), some (.int (nI b)), some (.int (nI (ucn (P b) (2 ^ (P b).1)))), none, none]) d_Model_isWithin_5 (by decide) rfl rfl ?_
  refine j_iconst (v := nI 1) d_Model_isWithin_6 rfl ?_
  refine j_istore (L' := [some (.ref 135), some (.int (nI a)), some (.int (nI b)), some (.int (nI (ucn (P b) (2 ^ (P b).1)))), some (.int (nI 1)), none]) d_Model_isWithin_7 (by decide) rfl rfl ?_
  refine j_iconst (v := nI 0) d_Model_isWithin_9 rfl ?_
  refine j_istore (L' := [some (.ref 135), some (.int (nI a)), some (.int (nI b)), some (.int (nI (ucn (P b) (2 ^ (P b).1)))), some (.int (nI 1)), some (.int (nI 0))]) d_Model_isWithin_10 (by decide) rfl rfl ?_
  refine j_locs (L' := [some (.ref 135), some (.int (nI a)), some (.int (nI b)), some (.int (nI (ucn (P b) (2 ^ (P b).1)))), some (.int (jbo (wth (P a) (P b) 0))), some (.int (nI 0))]) rfl ?_
  refine j_loop (P := fun k => jJ n 2 jc_Model_isWithin 6 "YesNoPowersModel" 12 [some (.ref 135), some (.int (nI a)), some (.int (nI b)), some (.int (nI (ucn (P b) (2 ^ (P b).1)))), some (.int (jbo (wth (P a) (P b) k))), some (.int (nI k))] [] (jM (jU h (fun z => if z < 4096 then jbo (seen (P b) (2 ^ (P b).1) z) else h 147 z)) P) res) (m := (P a).1) ?_ (fun k hk ih => ?_)
  · refine j_iload d_Model_isWithin_12 rfl ?_
    refine j_aload_n d_Model_isWithin_14 rfl ?_
    refine j_getr (b := 137) d_Model_isWithin_15 jf_Model_13 rfl rfl rfl (by decide) ?_
    refine j_iload_n d_Model_isWithin_18 rfl ?_
    refine j_ialdN (v := nI ((P a).1)) d_Model_isWithin_19 rfl (by omega) (by decide) rfl ?_
    refine j_icmp_geN_t (tgt := 56) d_Model_isWithin_20 (by decide) (by omega) (by omega) (Nat.le_refl _) ?_
    refine j_iload d_Model_isWithin_56 rfl ?_
    subst hres
    exact j_reti d_Model_isWithin_58 rfl rfl
  · have hra := (hw a).2.1 k
    refine j_iload d_Model_isWithin_12 rfl ?_
    refine j_aload_n d_Model_isWithin_14 rfl ?_
    refine j_getr (b := 137) d_Model_isWithin_15 jf_Model_13 rfl rfl rfl (by decide) ?_
    refine j_iload_n d_Model_isWithin_18 rfl ?_
    refine j_ialdN (v := nI ((P a).1)) d_Model_isWithin_19 rfl (by omega) (by decide) rfl ?_
    refine j_icmp_geN_f (tgt := 56) d_Model_isWithin_20 (by decide) (by omega) (by omega) (Nat.not_le.mpr hk) ?_
    refine j_iload d_Model_isWithin_23 rfl ?_
    refine j_if_eqB (tgt := 47) d_Model_isWithin_25 (by decide) (fun c1 => ?_) (fun c1 => ?_)
    · refine j_iconst (v := nI 0) d_Model_isWithin_47 rfl ?_
      refine j_top (w := jbo (wth (P a) (P b) (k + 1))) (by rw [show wth (P a) (P b) (k + 1) = false from by simp_all [wth, jall]]; rfl) ?_
      refine j_istore (L' := [some (.ref 135), some (.int (nI a)), some (.int (nI b)), some (.int (nI (ucn (P b) (2 ^ (P b).1)))), some (.int (jbo (wth (P a) (P b) (k + 1)))), some (.int (nI k))]) d_Model_isWithin_48 (by decide) rfl rfl ?_
      refine j_iincN (x := k) (L' := [some (.ref 135), some (.int (nI a)), some (.int (nI b)), some (.int (nI (ucn (P b) (2 ^ (P b).1)))), some (.int (jbo (wth (P a) (P b) (k + 1)))), some (.int (nI (k + 1)))]) d_Model_isWithin_50 rfl (by decide) rfl rfl ?_
      refine j_goto (tgt := 12) d_Model_isWithin_53 (by decide) ?_
      exact ih
    · refine j_aload_n d_Model_isWithin_28 rfl ?_
      refine j_getr (b := 147) d_Model_isWithin_29 jf_Model_43 rfl rfl rfl (by decide) ?_
      refine j_aload_n d_Model_isWithin_32 rfl ?_
      refine j_iload_n d_Model_isWithin_33 rfl ?_
      refine j_iload d_Model_isWithin_34 rfl ?_
      refine j_callVs (As := [.int (nI a), .int (nI k)]) (st := [.ref 147]) (c_row (by omega) (by omega)) d_Model_isWithin_36 (by decide) jm_Model_row jk_Model_71 ji_Model_row js_Model_row rfl (by decide) rfl rfl (Nat.le_of_ble_eq_true rfl) rfl ?_
      refine j_zaldN (v := jbo (seen (P b) (2 ^ (P b).1) ((P a).2 k))) d_Model_isWithin_39 rfl (by omega) (by decide) (if_pos hra) ?_
      refine j_if_eqB (tgt := 47) d_Model_isWithin_40 (by decide) (fun c2 => ?_) (fun c2 => ?_)
      · refine j_iconst (v := nI 0) d_Model_isWithin_47 rfl ?_
        refine j_top (w := jbo (wth (P a) (P b) (k + 1))) (by rw [show wth (P a) (P b) (k + 1) = false from by simp_all [wth, jall]]; rfl) ?_
        refine j_istore (L' := [some (.ref 135), some (.int (nI a)), some (.int (nI b)), some (.int (nI (ucn (P b) (2 ^ (P b).1)))), some (.int (jbo (wth (P a) (P b) (k + 1)))), some (.int (nI k))]) d_Model_isWithin_48 (by decide) rfl rfl ?_
        refine j_iincN (x := k) (L' := [some (.ref 135), some (.int (nI a)), some (.int (nI b)), some (.int (nI (ucn (P b) (2 ^ (P b).1)))), some (.int (jbo (wth (P a) (P b) (k + 1)))), some (.int (nI (k + 1)))]) d_Model_isWithin_50 rfl (by decide) rfl rfl ?_
        refine j_goto (tgt := 12) d_Model_isWithin_53 (by decide) ?_
        exact ih
      · refine j_iconst (v := nI 1) d_Model_isWithin_43 rfl ?_
        refine j_goto (tgt := 48) d_Model_isWithin_44 (by decide) ?_
        refine j_top (w := jbo (wth (P a) (P b) (k + 1))) (by rw [show wth (P a) (P b) (k + 1) = true from by simp_all [wth, jall]]; rfl) ?_
        refine j_istore (L' := [some (.ref 135), some (.int (nI a)), some (.int (nI b)), some (.int (nI (ucn (P b) (2 ^ (P b).1)))), some (.int (jbo (wth (P a) (P b) (k + 1)))), some (.int (nI k))]) d_Model_isWithin_48 (by decide) rfl rfl ?_
        refine j_iincN (x := k) (L' := [some (.ref 135), some (.int (nI a)), some (.int (nI b)), some (.int (nI (ucn (P b) (2 ^ (P b).1)))), some (.int (jbo (wth (P a) (P b) (k + 1)))), some (.int (nI (k + 1)))]) d_Model_isWithin_50 rfl (by decide) rfl rfl ?_
        refine j_goto (tgt := 12) d_Model_isWithin_53 (by decide) ?_
        exact ih
def jokAl (P : jP) (a b w : Int32) : Bool := jho P a && jho P b && jin w 0 1
def jbAl (P : jP) (a b w : Int32) : Int32 := if jokAl P a b w then -3 else -1
theorem c_alike_bad {n : jN} {h : jH} {P : jP} {a b w : Int32} (hw : ∀ q, tw (P q)) (hb : ∀ a0 b0, a = nI a0 → b = nI b0 → ¬ (P a0).1 = (P b0).1) : jC n 3 jy_Model_alike jc_Model_alike 4 (some .int) [.ref 135, .int a, .int b, .int w] (jM h P) (some (.int (jbAl P a b w))) (jM h P) := by
  refine jC_of jm_Model_alike (L := [some (.ref 135), some (.int a), some (.int b), some (.int w)]) (Nat.le_of_ble_eq_true rfl) rfl trivial ?_
  generalize hres : (((some (.int (jbAl P a b w))), jM h P) : Option Value × jH) = res
  refine j_aload_n d_Model_alike_0 rfl ?_
  refine j_iload_n d_Model_alike_1 rfl ?_
  refine j_callVs (As := [.int a]) (st := []) (c_holds hw) d_Model_alike_2 (by decide) jm_Model_holds jk_Model_117 ji_Model_holds js_Model_holds rfl (by decide) rfl rfl (Nat.le_of_ble_eq_true rfl) rfl ?_
  refine j_if_eqB (tgt := 26) d_Model_alike_5 (by decide) (fun c1 => ?_) (fun c1 => ?_)
  · refine j_iconst (v := -1) d_Model_alike_26 rfl ?_
    subst hres
    exact j_reti d_Model_alike_27 (by simp [jbAl, jokAl, c1]) rfl
  · obtain ⟨a0, ha0, ha00, rfl⟩ := jho_t c1
    have hna0 := (hw a0).1
    refine j_aload_n d_Model_alike_8 rfl ?_
    refine j_iload_n d_Model_alike_9 rfl ?_
    refine j_callVs (As := [.int b]) (st := []) (c_holds hw) d_Model_alike_10 (by decide) jm_Model_holds jk_Model_117 ji_Model_holds js_Model_holds rfl (by decide) rfl rfl (Nat.le_of_ble_eq_true rfl) rfl ?_
    refine j_if_eqB (tgt := 26) d_Model_alike_13 (by decide) (fun c2 => ?_) (fun c2 => ?_)
    · refine j_iconst (v := -1) d_Model_alike_26 rfl ?_
      subst hres
      exact j_reti d_Model_alike_27 (by simp [jbAl, jokAl, c1, c2]) rfl
    · obtain ⟨b0, hb0, hb00, rfl⟩ := jho_t c2
      have hnb0 := (hw b0).1
      refine j_iload_n d_Model_alike_16 rfl ?_
      refine j_i2l d_Model_alike_17 ?_
      refine j_lconst (v := 0) d_Model_alike_18 rfl ?_
      refine j_lconst (v := 1) d_Model_alike_19 rfl ?_
      refine j_callSs (As := [.long w.toInt64, .long 0, .long 1]) (st := []) (c_in (x := w) (lo := 0) (hi := 1) rfl rfl rfl) d_Model_alike_20 (by decide) jm_Model_in jk_Model_107 js_Model_in rfl (Nat.le_of_ble_eq_true rfl) rfl ?_
      refine j_if_neB (tgt := 28) d_Model_alike_23 (by decide) (fun c3 => ?_) (fun c3 => ?_)
      · refine j_aload_n d_Model_alike_28 rfl ?_
        refine j_getr (b := 137) d_Model_alike_29 jf_Model_13 rfl rfl rfl (by decide) ?_
        refine j_iload_n d_Model_alike_32 rfl ?_
        refine j_ialdN (v := nI ((P a0).1)) d_Model_alike_33 rfl (by omega) (by decide) rfl ?_
        refine j_aload_n d_Model_alike_34 rfl ?_
        refine j_getr (b := 137) d_Model_alike_35 jf_Model_13 rfl rfl rfl (by decide) ?_
        refine j_iload_n d_Model_alike_38 rfl ?_
        refine j_ialdN (v := nI ((P b0).1)) d_Model_alike_39 rfl (by omega) (by decide) rfl ?_
        refine j_icmp_eqN (tgt := 46) d_Model_alike_40 (by decide) (by omega) (by omega) (fun c4 => ?_) (fun c4 => ?_)
        · exact absurd c4 (hb a0 b0 rfl rfl)
        · refine j_bipush (v := -3) d_Model_alike_43 (by decide) ?_
          subst hres
          exact j_reti d_Model_alike_45 (by simp [jbAl, jokAl, c1, c2, c3]) rfl
      · refine j_iconst (v := -1) d_Model_alike_26 rfl ?_
        subst hres
        exact j_reti d_Model_alike_27 (by simp [jbAl, jokAl, c1, c2, c3]) rfl
theorem c_alike_bad1 {n : jN} {h : jH} {P : jP} {a b w : Int32} (hw : ∀ q, tw (P q)) (hb : jokAl P a b w = false) : jC n 3 jy_Model_alike jc_Model_alike 4 (some .int) [.ref 135, .int a, .int b, .int w] (jM h P) (some (.int (jbAl P a b w))) (jM h P) := by
  refine jC_of jm_Model_alike (L := [some (.ref 135), some (.int a), some (.int b), some (.int w)]) (Nat.le_of_ble_eq_true rfl) rfl trivial ?_
  generalize hres : (((some (.int (jbAl P a b w))), jM h P) : Option Value × jH) = res
  refine j_aload_n d_Model_alike_0 rfl ?_
  refine j_iload_n d_Model_alike_1 rfl ?_
  refine j_callVs (As := [.int a]) (st := []) (c_holds hw) d_Model_alike_2 (by decide) jm_Model_holds jk_Model_117 ji_Model_holds js_Model_holds rfl (by decide) rfl rfl (Nat.le_of_ble_eq_true rfl) rfl ?_
  refine j_if_eqB (tgt := 26) d_Model_alike_5 (by decide) (fun c1 => ?_) (fun c1 => ?_)
  · refine j_iconst (v := -1) d_Model_alike_26 rfl ?_
    subst hres
    exact j_reti d_Model_alike_27 (by simp [jbAl, jokAl, c1]) rfl
  · refine j_aload_n d_Model_alike_8 rfl ?_
    refine j_iload_n d_Model_alike_9 rfl ?_
    refine j_callVs (As := [.int b]) (st := []) (c_holds hw) d_Model_alike_10 (by decide) jm_Model_holds jk_Model_117 ji_Model_holds js_Model_holds rfl (by decide) rfl rfl (Nat.le_of_ble_eq_true rfl) rfl ?_
    refine j_if_eqB (tgt := 26) d_Model_alike_13 (by decide) (fun c2 => ?_) (fun c2 => ?_)
    · refine j_iconst (v := -1) d_Model_alike_26 rfl ?_
      subst hres
      exact j_reti d_Model_alike_27 (by simp [jbAl, jokAl, c1, c2]) rfl
    · refine j_iload_n d_Model_alike_16 rfl ?_
      refine j_i2l d_Model_alike_17 ?_
      refine j_lconst (v := 0) d_Model_alike_18 rfl ?_
      refine j_lconst (v := 1) d_Model_alike_19 rfl ?_
      refine j_callSs (As := [.long w.toInt64, .long 0, .long 1]) (st := []) (c_in (x := w) (lo := 0) (hi := 1) rfl rfl rfl) d_Model_alike_20 (by decide) jm_Model_in jk_Model_107 js_Model_in rfl (Nat.le_of_ble_eq_true rfl) rfl ?_
      refine j_if_neB (tgt := 28) d_Model_alike_23 (by decide) (fun c3 => ?_) (fun c3 => ?_)
      · exact absurd hb (by simp [jokAl, c1, c2, c3])
      · refine j_iconst (v := -1) d_Model_alike_26 rfl ?_
        subst hres
        exact j_reti d_Model_alike_27 (by simp [jbAl, jokAl, c1, c2, c3]) rfl
theorem c_alike0_f {n : jN} {h : jH} {P : jP} {a b : Nat} (hw : ∀ q, tw (P q)) (ha : a < 6) (h0a : 0 < (P a).1) (hb : b < 6) (h0b : 0 < (P b).1) (he : (P a).1 = (P b).1) (hf : wth ((P) a) ((P) b) ((P) a).1 = false) : jC n 3 jy_Model_alike jc_Model_alike 4 (some .int) [.ref 135, .int (nI a), .int (nI b), .int (nI 0)] (jM h P) (some (.int (nI 0))) (jM (jU h (fun z => if z < 4096 then jbo (seen ((P) b) (2 ^ ((P) b).1) z) else h 147 z)) P) := by
  have hna := (hw a).1
  have hnb := (hw b).1
  refine jC_of jm_Model_alike (L := [some (.ref 135), some (.int (nI a)), some (.int (nI b)), some (.int (nI 0))]) (Nat.le_of_ble_eq_true rfl) rfl trivial ?_
  generalize hres : (((some (.int (nI 0))), jM (jU h (fun z => if z < 4096 then jbo (seen ((P) b) (2 ^ ((P) b).1) z) else h 147 z)) P) : Option Value × jH) = res
  refine j_aload_n d_Model_alike_0 rfl ?_
  refine j_iload_n d_Model_alike_1 rfl ?_
  refine j_callVs (As := [.int (nI a)]) (st := []) (c_holds hw) d_Model_alike_2 (by decide) jm_Model_holds jk_Model_117 ji_Model_holds js_Model_holds rfl (by decide) rfl rfl (Nat.le_of_ble_eq_true rfl) rfl ?_
  refine j_if_eqB_f (tgt := 26) d_Model_alike_5 (by decide) (jho_y ha h0a) ?_
  refine j_aload_n d_Model_alike_8 rfl ?_
  refine j_iload_n d_Model_alike_9 rfl ?_
  refine j_callVs (As := [.int (nI b)]) (st := []) (c_holds hw) d_Model_alike_10 (by decide) jm_Model_holds jk_Model_117 ji_Model_holds js_Model_holds rfl (by decide) rfl rfl (Nat.le_of_ble_eq_true rfl) rfl ?_
  refine j_if_eqB_f (tgt := 26) d_Model_alike_13 (by decide) (jho_y hb h0b) ?_
  refine j_iload_n d_Model_alike_16 rfl ?_
  refine j_i2l d_Model_alike_17 ?_
  refine j_lconst (v := 0) d_Model_alike_18 rfl ?_
  refine j_lconst (v := 1) d_Model_alike_19 rfl ?_
  refine j_callSs (As := [.long ((nI 0).toInt64), .long 0, .long 1]) (st := []) (c_in (x := (nI 0)) (lo := 0) (hi := 1) rfl rfl rfl) d_Model_alike_20 (by decide) jm_Model_in jk_Model_107 js_Model_in rfl (Nat.le_of_ble_eq_true rfl) rfl ?_
  refine j_if_neB_t (tgt := 28) d_Model_alike_23 (by decide) (jin_y (by omega) (by omega) (by omega)) ?_
  refine j_aload_n d_Model_alike_28 rfl ?_
  refine j_getr (b := 137) d_Model_alike_29 jf_Model_13 rfl rfl rfl (by decide) ?_
  refine j_iload_n d_Model_alike_32 rfl ?_
  refine j_ialdN (v := nI ((P a).1)) d_Model_alike_33 rfl (by omega) (by decide) rfl ?_
  refine j_aload_n d_Model_alike_34 rfl ?_
  refine j_getr (b := 137) d_Model_alike_35 jf_Model_13 rfl rfl rfl (by decide) ?_
  refine j_iload_n d_Model_alike_38 rfl ?_
  refine j_ialdN (v := nI ((P b).1)) d_Model_alike_39 rfl (by omega) (by decide) rfl ?_
  refine j_icmp_eqN_t (tgt := 46) d_Model_alike_40 (by decide) (by omega) (by omega) he ?_
  refine j_iload_n d_Model_alike_46 rfl ?_
  refine j_if_neN_f (tgt := 74) d_Model_alike_47 (by decide) (by omega) (by decide) ?_
  refine j_aload_n d_Model_alike_50 rfl ?_
  refine j_iload_n d_Model_alike_51 rfl ?_
  refine j_iload_n d_Model_alike_52 rfl ?_
  refine j_callVs (As := [.int (nI a), .int (nI b)]) (st := []) (c_isWithin (P := P) hw (by omega) (by omega)) d_Model_alike_53 (by decide) jm_Model_isWithin jk_Model_231 ji_Model_isWithin js_Model_isWithin rfl (by decide) rfl rfl (Nat.le_of_ble_eq_true rfl) rfl ?_
  refine j_if_eqB_t (tgt := 72) d_Model_alike_56 (by decide) hf ?_
  refine j_iconst (v := nI 0) d_Model_alike_72 rfl ?_
  subst hres
  exact j_reti d_Model_alike_73 rfl rfl
theorem c_alike0_t {n : jN} {h : jH} {P : jP} {a b : Nat} (hw : ∀ q, tw (P q)) (ha : a < 6) (h0a : 0 < (P a).1) (hb : b < 6) (h0b : 0 < (P b).1) (he : (P a).1 = (P b).1) (hf : wth ((P) a) ((P) b) ((P) a).1 = true) : jC n 3 jy_Model_alike jc_Model_alike 4 (some .int) [.ref 135, .int (nI a), .int (nI b), .int (nI 0)] (jM h P) (some (.int (jbo (wth ((P) b) ((P) a) ((P) b).1)))) (jM (jU (jU h (fun z => if z < 4096 then jbo (seen ((P) b) (2 ^ ((P) b).1) z) else h 147 z)) (fun z => if z < 4096 then jbo (seen ((P) a) (2 ^ ((P) a).1) z) else (jU h (fun z => if z < 4096 then jbo (seen ((P) b) (2 ^ ((P) b).1) z) else h 147 z)) 147 z)) P) := by
  have hna := (hw a).1
  have hnb := (hw b).1
  refine jC_of jm_Model_alike (L := [some (.ref 135), some (.int (nI a)), some (.int (nI b)), some (.int (nI 0))]) (Nat.le_of_ble_eq_true rfl) rfl trivial ?_
  generalize hres : (((some (.int (jbo (wth ((P) b) ((P) a) ((P) b).1)))), jM (jU (jU h (fun z => if z < 4096 then jbo (seen ((P) b) (2 ^ ((P) b).1) z) else h 147 z)) (fun z => if z < 4096 then jbo (seen ((P) a) (2 ^ ((P) a).1) z) else (jU h (fun z => if z < 4096 then jbo (seen ((P) b) (2 ^ ((P) b).1) z) else h 147 z)) 147 z)) P) : Option Value × jH) = res
  refine j_aload_n d_Model_alike_0 rfl ?_
  refine j_iload_n d_Model_alike_1 rfl ?_
  refine j_callVs (As := [.int (nI a)]) (st := []) (c_holds hw) d_Model_alike_2 (by decide) jm_Model_holds jk_Model_117 ji_Model_holds js_Model_holds rfl (by decide) rfl rfl (Nat.le_of_ble_eq_true rfl) rfl ?_
  refine j_if_eqB_f (tgt := 26) d_Model_alike_5 (by decide) (jho_y ha h0a) ?_
  refine j_aload_n d_Model_alike_8 rfl ?_
  refine j_iload_n d_Model_alike_9 rfl ?_
  refine j_callVs (As := [.int (nI b)]) (st := []) (c_holds hw) d_Model_alike_10 (by decide) jm_Model_holds jk_Model_117 ji_Model_holds js_Model_holds rfl (by decide) rfl rfl (Nat.le_of_ble_eq_true rfl) rfl ?_
  refine j_if_eqB_f (tgt := 26) d_Model_alike_13 (by decide) (jho_y hb h0b) ?_
  refine j_iload_n d_Model_alike_16 rfl ?_
  refine j_i2l d_Model_alike_17 ?_
  refine j_lconst (v := 0) d_Model_alike_18 rfl ?_
  refine j_lconst (v := 1) d_Model_alike_19 rfl ?_
  refine j_callSs (As := [.long ((nI 0).toInt64), .long 0, .long 1]) (st := []) (c_in (x := (nI 0)) (lo := 0) (hi := 1) rfl rfl rfl) d_Model_alike_20 (by decide) jm_Model_in jk_Model_107 js_Model_in rfl (Nat.le_of_ble_eq_true rfl) rfl ?_
  refine j_if_neB_t (tgt := 28) d_Model_alike_23 (by decide) (jin_y (by omega) (by omega) (by omega)) ?_
  refine j_aload_n d_Model_alike_28 rfl ?_
  refine j_getr (b := 137) d_Model_alike_29 jf_Model_13 rfl rfl rfl (by decide) ?_
  refine j_iload_n d_Model_alike_32 rfl ?_
  refine j_ialdN (v := nI ((P a).1)) d_Model_alike_33 rfl (by omega) (by decide) rfl ?_
  refine j_aload_n d_Model_alike_34 rfl ?_
  refine j_getr (b := 137) d_Model_alike_35 jf_Model_13 rfl rfl rfl (by decide) ?_
  refine j_iload_n d_Model_alike_38 rfl ?_
  refine j_ialdN (v := nI ((P b).1)) d_Model_alike_39 rfl (by omega) (by decide) rfl ?_
  refine j_icmp_eqN_t (tgt := 46) d_Model_alike_40 (by decide) (by omega) (by omega) he ?_
  refine j_iload_n d_Model_alike_46 rfl ?_
  refine j_if_neN_f (tgt := 74) d_Model_alike_47 (by decide) (by omega) (by decide) ?_
  refine j_aload_n d_Model_alike_50 rfl ?_
  refine j_iload_n d_Model_alike_51 rfl ?_
  refine j_iload_n d_Model_alike_52 rfl ?_
  refine j_callVs (As := [.int (nI a), .int (nI b)]) (st := []) (c_isWithin (P := P) hw (by omega) (by omega)) d_Model_alike_53 (by decide) jm_Model_isWithin jk_Model_231 ji_Model_isWithin js_Model_isWithin rfl (by decide) rfl rfl (Nat.le_of_ble_eq_true rfl) rfl ?_
  refine j_if_eqB_f (tgt := 72) d_Model_alike_56 (by decide) hf ?_
  refine j_aload_n d_Model_alike_59 rfl ?_
  refine j_iload_n d_Model_alike_60 rfl ?_
  refine j_iload_n d_Model_alike_61 rfl ?_
  refine j_callVs (As := [.int (nI b), .int (nI a)]) (st := []) (c_isWithin (P := P) hw (by omega) (by omega)) d_Model_alike_62 (by decide) jm_Model_isWithin jk_Model_231 ji_Model_isWithin js_Model_isWithin rfl (by decide) rfl rfl (Nat.le_of_ble_eq_true rfl) rfl ?_
  refine j_if_eqB (tgt := 72) d_Model_alike_65 (by decide) (fun c => ?_) (fun c => ?_)
  · refine j_iconst (v := nI 0) d_Model_alike_72 rfl ?_
    subst hres
    exact j_reti d_Model_alike_73 (by rw [c]; rfl) rfl
  · refine j_iconst (v := nI 1) d_Model_alike_68 rfl ?_
    refine j_goto (tgt := 73) d_Model_alike_69 (by decide) ?_
    subst hres
    exact j_reti d_Model_alike_73 (by rw [c]; rfl) rfl
theorem c_alike1_f {n : jN} {h : jH} {P : jP} {a b : Nat} (hw : ∀ q, tw (P q)) (ha : a < 6) (h0a : 0 < (P a).1) (hb : b < 6) (h0b : 0 < (P b).1) (he : (P a).1 = (P b).1) (hf : wth ((jset (jset P 34 (ttr (P a))) 35 (ttr (jset P 34 (ttr (P a)) b))) 34) ((jset (jset P 34 (ttr (P a))) 35 (ttr (jset P 34 (ttr (P a)) b))) 35) ((jset (jset P 34 (ttr (P a))) 35 (ttr (jset P 34 (ttr (P a)) b))) 34).1 = false) : jC n 3 jy_Model_alike jc_Model_alike 4 (some .int) [.ref 135, .int (nI a), .int (nI b), .int (nI 1)] (jM h P) (some (.int (nI 0))) (jM (jU h (fun z => if z < 4096 then jbo (seen ((jset (jset P 34 (ttr (P a))) 35 (ttr (jset P 34 (ttr (P a)) b))) 35) (2 ^ ((jset (jset P 34 (ttr (P a))) 35 (ttr (jset P 34 (ttr (P a)) b))) 35).1) z) else h 147 z)) (jset (jset P 34 (ttr (P a))) 35 (ttr (jset P 34 (ttr (P a)) b)))) := by
  have hna := (hw a).1
  have hnb := (hw b).1
  refine jC_of jm_Model_alike (L := [some (.ref 135), some (.int (nI a)), some (.int (nI b)), some (.int (nI 1))]) (Nat.le_of_ble_eq_true rfl) rfl trivial ?_
  generalize hres : (((some (.int (nI 0))), jM (jU h (fun z => if z < 4096 then jbo (seen ((jset (jset P 34 (ttr (P a))) 35 (ttr (jset P 34 (ttr (P a)) b))) 35) (2 ^ ((jset (jset P 34 (ttr (P a))) 35 (ttr (jset P 34 (ttr (P a)) b))) 35).1) z) else h 147 z)) (jset (jset P 34 (ttr (P a))) 35 (ttr (jset P 34 (ttr (P a)) b)))) : Option Value × jH) = res
  refine j_aload_n d_Model_alike_0 rfl ?_
  refine j_iload_n d_Model_alike_1 rfl ?_
  refine j_callVs (As := [.int (nI a)]) (st := []) (c_holds hw) d_Model_alike_2 (by decide) jm_Model_holds jk_Model_117 ji_Model_holds js_Model_holds rfl (by decide) rfl rfl (Nat.le_of_ble_eq_true rfl) rfl ?_
  refine j_if_eqB_f (tgt := 26) d_Model_alike_5 (by decide) (jho_y ha h0a) ?_
  refine j_aload_n d_Model_alike_8 rfl ?_
  refine j_iload_n d_Model_alike_9 rfl ?_
  refine j_callVs (As := [.int (nI b)]) (st := []) (c_holds hw) d_Model_alike_10 (by decide) jm_Model_holds jk_Model_117 ji_Model_holds js_Model_holds rfl (by decide) rfl rfl (Nat.le_of_ble_eq_true rfl) rfl ?_
  refine j_if_eqB_f (tgt := 26) d_Model_alike_13 (by decide) (jho_y hb h0b) ?_
  refine j_iload_n d_Model_alike_16 rfl ?_
  refine j_i2l d_Model_alike_17 ?_
  refine j_lconst (v := 0) d_Model_alike_18 rfl ?_
  refine j_lconst (v := 1) d_Model_alike_19 rfl ?_
  refine j_callSs (As := [.long ((nI 1).toInt64), .long 0, .long 1]) (st := []) (c_in (x := (nI 1)) (lo := 0) (hi := 1) rfl rfl rfl) d_Model_alike_20 (by decide) jm_Model_in jk_Model_107 js_Model_in rfl (Nat.le_of_ble_eq_true rfl) rfl ?_
  refine j_if_neB_t (tgt := 28) d_Model_alike_23 (by decide) (jin_y (by omega) (by omega) (by omega)) ?_
  refine j_aload_n d_Model_alike_28 rfl ?_
  refine j_getr (b := 137) d_Model_alike_29 jf_Model_13 rfl rfl rfl (by decide) ?_
  refine j_iload_n d_Model_alike_32 rfl ?_
  refine j_ialdN (v := nI ((P a).1)) d_Model_alike_33 rfl (by omega) (by decide) rfl ?_
  refine j_aload_n d_Model_alike_34 rfl ?_
  refine j_getr (b := 137) d_Model_alike_35 jf_Model_13 rfl rfl rfl (by decide) ?_
  refine j_iload_n d_Model_alike_38 rfl ?_
  refine j_ialdN (v := nI ((P b).1)) d_Model_alike_39 rfl (by omega) (by decide) rfl ?_
  refine j_icmp_eqN_t (tgt := 46) d_Model_alike_40 (by decide) (by omega) (by omega) he ?_
  refine j_iload_n d_Model_alike_46 rfl ?_
  refine j_if_neN_t (tgt := 74) d_Model_alike_47 (by decide) (by omega) (by decide) ?_
  refine j_aload_n d_Model_alike_74 rfl ?_
  refine j_iload_n d_Model_alike_75 rfl ?_
  refine j_bipush (v := nI 34) d_Model_alike_76 (by decide) ?_
  refine j_callVn (As := [.int (nI a), .int (nI 34)]) (st := []) (c_transpose (by omega) (by omega) (by omega) hw) d_Model_alike_78 (by decide) jm_Model_transpose jk_Model_95 ji_Model_transpose js_Model_transpose rfl (by decide) rfl rfl (Nat.le_of_ble_eq_true rfl) rfl ?_
  refine j_aload_n d_Model_alike_81 rfl ?_
  refine j_iload_n d_Model_alike_82 rfl ?_
  refine j_bipush (v := nI 35) d_Model_alike_83 (by decide) ?_
  refine j_callVn (As := [.int (nI b), .int (nI 35)]) (st := []) (c_transpose (by omega) (by omega) (by omega) (tws hw (tw_tr (hw a)))) d_Model_alike_85 (by decide) jm_Model_transpose jk_Model_95 ji_Model_transpose js_Model_transpose rfl (by decide) rfl rfl (Nat.le_of_ble_eq_true rfl) rfl ?_
  refine j_aload_n d_Model_alike_88 rfl ?_
  refine j_bipush (v := nI 34) d_Model_alike_89 (by decide) ?_
  refine j_bipush (v := nI 35) d_Model_alike_91 (by decide) ?_
  refine j_callVs (As := [.int (nI 34), .int (nI 35)]) (st := []) (c_isWithin (P := jset (jset P 34 (ttr (P a))) 35 (ttr (jset P 34 (ttr (P a)) b))) (tws (tws hw (tw_tr (hw a))) (tw_tr (tws (p := 34) hw (tw_tr (hw a)) b))) (by omega) (by omega)) d_Model_alike_93 (by decide) jm_Model_isWithin jk_Model_231 ji_Model_isWithin js_Model_isWithin rfl (by decide) rfl rfl (Nat.le_of_ble_eq_true rfl) rfl ?_
  refine j_if_eqB_t (tgt := 114) d_Model_alike_96 (by decide) hf ?_
  refine j_iconst (v := nI 0) d_Model_alike_114 rfl ?_
  subst hres
  exact j_reti d_Model_alike_115 rfl rfl
theorem c_alike1_t {n : jN} {h : jH} {P : jP} {a b : Nat} (hw : ∀ q, tw (P q)) (ha : a < 6) (h0a : 0 < (P a).1) (hb : b < 6) (h0b : 0 < (P b).1) (he : (P a).1 = (P b).1) (hf : wth ((jset (jset P 34 (ttr (P a))) 35 (ttr (jset P 34 (ttr (P a)) b))) 34) ((jset (jset P 34 (ttr (P a))) 35 (ttr (jset P 34 (ttr (P a)) b))) 35) ((jset (jset P 34 (ttr (P a))) 35 (ttr (jset P 34 (ttr (P a)) b))) 34).1 = true) : jC n 3 jy_Model_alike jc_Model_alike 4 (some .int) [.ref 135, .int (nI a), .int (nI b), .int (nI 1)] (jM h P) (some (.int (jbo (wth ((jset (jset P 34 (ttr (P a))) 35 (ttr (jset P 34 (ttr (P a)) b))) 35) ((jset (jset P 34 (ttr (P a))) 35 (ttr (jset P 34 (ttr (P a)) b))) 34) ((jset (jset P 34 (ttr (P a))) 35 (ttr (jset P 34 (ttr (P a)) b))) 35).1)))) (jM (jU (jU h (fun z => if z < 4096 then jbo (seen ((jset (jset P 34 (ttr (P a))) 35 (ttr (jset P 34 (ttr (P a)) b))) 35) (2 ^ ((jset (jset P 34 (ttr (P a))) 35 (ttr (jset P 34 (ttr (P a)) b))) 35).1) z) else h 147 z)) (fun z => if z < 4096 then jbo (seen ((jset (jset P 34 (ttr (P a))) 35 (ttr (jset P 34 (ttr (P a)) b))) 34) (2 ^ ((jset (jset P 34 (ttr (P a))) 35 (ttr (jset P 34 (ttr (P a)) b))) 34).1) z) else (jU h (fun z => if z < 4096 then jbo (seen ((jset (jset P 34 (ttr (P a))) 35 (ttr (jset P 34 (ttr (P a)) b))) 35) (2 ^ ((jset (jset P 34 (ttr (P a))) 35 (ttr (jset P 34 (ttr (P a)) b))) 35).1) z) else h 147 z)) 147 z)) (jset (jset P 34 (ttr (P a))) 35 (ttr (jset P 34 (ttr (P a)) b)))) := by
  have hna := (hw a).1
  have hnb := (hw b).1
  refine jC_of jm_Model_alike (L := [some (.ref 135), some (.int (nI a)), some (.int (nI b)), some (.int (nI 1))]) (Nat.le_of_ble_eq_true rfl) rfl trivial ?_
  generalize hres : (((some (.int (jbo (wth ((jset (jset P 34 (ttr (P a))) 35 (ttr (jset P 34 (ttr (P a)) b))) 35) ((jset (jset P 34 (ttr (P a))) 35 (ttr (jset P 34 (ttr (P a)) b))) 34) ((jset (jset P 34 (ttr (P a))) 35 (ttr (jset P 34 (ttr (P a)) b))) 35).1)))), jM (jU (jU h (fun z => if z < 4096 then jbo (seen ((jset (jset P 34 (ttr (P a))) 35 (ttr (jset P 34 (ttr (P a)) b))) 35) (2 ^ ((jset (jset P 34 (ttr (P a))) 35 (ttr (jset P 34 (ttr (P a)) b))) 35).1) z) else h 147 z)) (fun z => if z < 4096 then jbo (seen ((jset (jset P 34 (ttr (P a))) 35 (ttr (jset P 34 (ttr (P a)) b))) 34) (2 ^ ((jset (jset P 34 (ttr (P a))) 35 (ttr (jset P 34 (ttr (P a)) b))) 34).1) z) else (jU h (fun z => if z < 4096 then jbo (seen ((jset (jset P 34 (ttr (P a))) 35 (ttr (jset P 34 (ttr (P a)) b))) 35) (2 ^ ((jset (jset P 34 (ttr (P a))) 35 (ttr (jset P 34 (ttr (P a)) b))) 35).1) z) else h 147 z)) 147 z)) (jset (jset P 34 (ttr (P a))) 35 (ttr (jset P 34 (ttr (P a)) b)))) : Option Value × jH) = res
  refine j_aload_n d_Model_alike_0 rfl ?_
  refine j_iload_n d_Model_alike_1 rfl ?_
  refine j_callVs (As := [.int (nI a)]) (st := []) (c_holds hw) d_Model_alike_2 (by decide) jm_Model_holds jk_Model_117 ji_Model_holds js_Model_holds rfl (by decide) rfl rfl (Nat.le_of_ble_eq_true rfl) rfl ?_
  refine j_if_eqB_f (tgt := 26) d_Model_alike_5 (by decide) (jho_y ha h0a) ?_
  refine j_aload_n d_Model_alike_8 rfl ?_
  refine j_iload_n d_Model_alike_9 rfl ?_
  refine j_callVs (As := [.int (nI b)]) (st := []) (c_holds hw) d_Model_alike_10 (by decide) jm_Model_holds jk_Model_117 ji_Model_holds js_Model_holds rfl (by decide) rfl rfl (Nat.le_of_ble_eq_true rfl) rfl ?_
  refine j_if_eqB_f (tgt := 26) d_Model_alike_13 (by decide) (jho_y hb h0b) ?_
  refine j_iload_n d_Model_alike_16 rfl ?_
  refine j_i2l d_Model_alike_17 ?_
  refine j_lconst (v := 0) d_Model_alike_18 rfl ?_
  refine j_lconst (v := 1) d_Model_alike_19 rfl ?_
  refine j_callSs (As := [.long ((nI 1).toInt64), .long 0, .long 1]) (st := []) (c_in (x := (nI 1)) (lo := 0) (hi := 1) rfl rfl rfl) d_Model_alike_20 (by decide) jm_Model_in jk_Model_107 js_Model_in rfl (Nat.le_of_ble_eq_true rfl) rfl ?_
  refine j_if_neB_t (tgt := 28) d_Model_alike_23 (by decide) (jin_y (by omega) (by omega) (by omega)) ?_
  refine j_aload_n d_Model_alike_28 rfl ?_
  refine j_getr (b := 137) d_Model_alike_29 jf_Model_13 rfl rfl rfl (by decide) ?_
  refine j_iload_n d_Model_alike_32 rfl ?_
  refine j_ialdN (v := nI ((P a).1)) d_Model_alike_33 rfl (by omega) (by decide) rfl ?_
  refine j_aload_n d_Model_alike_34 rfl ?_
  refine j_getr (b := 137) d_Model_alike_35 jf_Model_13 rfl rfl rfl (by decide) ?_
  refine j_iload_n d_Model_alike_38 rfl ?_
  refine j_ialdN (v := nI ((P b).1)) d_Model_alike_39 rfl (by omega) (by decide) rfl ?_
  refine j_icmp_eqN_t (tgt := 46) d_Model_alike_40 (by decide) (by omega) (by omega) he ?_
  refine j_iload_n d_Model_alike_46 rfl ?_
  refine j_if_neN_t (tgt := 74) d_Model_alike_47 (by decide) (by omega) (by decide) ?_
  refine j_aload_n d_Model_alike_74 rfl ?_
  refine j_iload_n d_Model_alike_75 rfl ?_
  refine j_bipush (v := nI 34) d_Model_alike_76 (by decide) ?_
  refine j_callVn (As := [.int (nI a), .int (nI 34)]) (st := []) (c_transpose (by omega) (by omega) (by omega) hw) d_Model_alike_78 (by decide) jm_Model_transpose jk_Model_95 ji_Model_transpose js_Model_transpose rfl (by decide) rfl rfl (Nat.le_of_ble_eq_true rfl) rfl ?_
  refine j_aload_n d_Model_alike_81 rfl ?_
  refine j_iload_n d_Model_alike_82 rfl ?_
  refine j_bipush (v := nI 35) d_Model_alike_83 (by decide) ?_
  refine j_callVn (As := [.int (nI b), .int (nI 35)]) (st := []) (c_transpose (by omega) (by omega) (by omega) (tws hw (tw_tr (hw a)))) d_Model_alike_85 (by decide) jm_Model_transpose jk_Model_95 ji_Model_transpose js_Model_transpose rfl (by decide) rfl rfl (Nat.le_of_ble_eq_true rfl) rfl ?_
  refine j_aload_n d_Model_alike_88 rfl ?_
  refine j_bipush (v := nI 34) d_Model_alike_89 (by decide) ?_
  refine j_bipush (v := nI 35) d_Model_alike_91 (by decide) ?_
  refine j_callVs (As := [.int (nI 34), .int (nI 35)]) (st := []) (c_isWithin (P := jset (jset P 34 (ttr (P a))) 35 (ttr (jset P 34 (ttr (P a)) b))) (tws (tws hw (tw_tr (hw a))) (tw_tr (tws (p := 34) hw (tw_tr (hw a)) b))) (by omega) (by omega)) d_Model_alike_93 (by decide) jm_Model_isWithin jk_Model_231 ji_Model_isWithin js_Model_isWithin rfl (by decide) rfl rfl (Nat.le_of_ble_eq_true rfl) rfl ?_
  refine j_if_eqB_f (tgt := 114) d_Model_alike_96 (by decide) hf ?_
  refine j_aload_n d_Model_alike_99 rfl ?_
  refine j_bipush (v := nI 35) d_Model_alike_100 (by decide) ?_
  refine j_bipush (v := nI 34) d_Model_alike_102 (by decide) ?_
  refine j_callVs (As := [.int (nI 35), .int (nI 34)]) (st := []) (c_isWithin (P := jset (jset P 34 (ttr (P a))) 35 (ttr (jset P 34 (ttr (P a)) b))) (tws (tws hw (tw_tr (hw a))) (tw_tr (tws (p := 34) hw (tw_tr (hw a)) b))) (by omega) (by omega)) d_Model_alike_104 (by decide) jm_Model_isWithin jk_Model_231 ji_Model_isWithin js_Model_isWithin rfl (by decide) rfl rfl (Nat.le_of_ble_eq_true rfl) rfl ?_
  refine j_if_eqB (tgt := 114) d_Model_alike_107 (by decide) (fun c => ?_) (fun c => ?_)
  · refine j_iconst (v := nI 0) d_Model_alike_114 rfl ?_
    subst hres
    exact j_reti d_Model_alike_115 (by rw [c]; rfl) rfl
  · refine j_iconst (v := nI 1) d_Model_alike_110 rfl ?_
    refine j_goto (tgt := 115) d_Model_alike_111 (by decide) ?_
    subst hres
    exact j_reti d_Model_alike_115 (by rw [c]; rfl) rfl

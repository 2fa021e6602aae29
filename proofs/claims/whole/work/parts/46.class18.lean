theorem x_isFull {n : jN} {h : jH} {c : Nat} (hc0 : h 75 0 = nI c) (hc : c ≤ 8) : jC n 0 jy_Chain_isFull jc_Chain_isFull 1 (some .boolean) [.ref 75] h (some (.int (jbo (decide (8 ≤ c))))) h := by
  refine jC_of jm_Chain_isFull (L := [some (.ref 75)]) (Nat.le_of_ble_eq_true rfl) rfl (jbo01 _) ?_
  generalize hres : (((some (.int (jbo (decide (8 ≤ c))))), h) : Option Value × jH) = res
  refine j_aload_n d_Chain_isFull_0 rfl ?_
  refine j_getv (v := nI c) d_Chain_isFull_1 jf_Chain_43 rfl rfl hc0 ?_
  refine j_bipush (v := nI 8) d_Chain_isFull_4 (by decide) ?_
  refine j_icmp_ltN (tgt := 13) d_Chain_isFull_6 (by decide) (by omega) (by omega) (fun c1 => ?_) (fun c1 => ?_)
  · refine j_iconst (v := nI 0) d_Chain_isFull_13 rfl ?_
    subst hres
    exact j_reti d_Chain_isFull_14 (by first | (rw [show decide (8 ≤ c) = true from decide_eq_true (by omega)]; rfl) | (rw [show decide (8 ≤ c) = false from decide_eq_false (by omega)]; rfl)) rfl
  · refine j_iconst (v := nI 1) d_Chain_isFull_9 rfl ?_
    refine j_goto (tgt := 14) d_Chain_isFull_10 (by decide) ?_
    subst hres
    exact j_reti d_Chain_isFull_14 (by first | (rw [show decide (8 ≤ c) = true from decide_eq_true (by omega)]; rfl) | (rw [show decide (8 ≤ c) = false from decide_eq_false (by omega)]; rfl)) rfl
theorem x_append0 {n : jN} {h : jH} {c kd : Nat} {m : Int32} (hc0 : h 75 0 = nI c) (hc : c < 8) (hk2 : ¬ kd = 2) (hk6 : ¬ kd = 6) (hk7 : kd < 7) : jC n 1 jy_Chain_append jc_Chain_append 5 none [.ref 75, .int (nI kd), .int m, .ref 1] h none (jup2 (jup2 (jup2 h (89 + 3 * c) 0 (nI kd)) (89 + 3 * c) 1 m) 75 0 (nI (c + 1))) := by
  refine jC_of jm_Chain_append (L := [some (.ref 75), some (.int (nI kd)), some (.int m), some (.ref 1), none]) (Nat.le_of_ble_eq_true rfl) rfl trivial ?_
  generalize hres : ((none, jup2 (jup2 (jup2 h (89 + 3 * c) 0 (nI kd)) (89 + 3 * c) 1 m) 75 0 (nI (c + 1))) : Option Value × jH) = res
  refine j_aload_n d_Chain_append_0 rfl ?_
  refine j_callVs (As := []) (st := []) (x_isFull hc0 (by omega)) d_Chain_append_1 (by decide) jm_Chain_isFull jk_Chain_47 ji_Chain_isFull js_Chain_isFull rfl (by decide) rfl rfl (Nat.le_of_ble_eq_true rfl) rfl ?_
  refine j_if_eqB_t (tgt := 8) d_Chain_append_4 (by decide) (decide_eq_false (by omega)) ?_
  refine j_aload_n d_Chain_append_8 rfl ?_
  refine j_getr (b := 82) d_Chain_append_9 jf_Chain_28 rfl rfl rfl (by decide) ?_
  refine j_aload_n d_Chain_append_12 rfl ?_
  refine j_getv (v := nI c) d_Chain_append_13 jf_Chain_43 rfl rfl hc0 ?_
  refine j_aaldN (b := 89 + 3 * c) d_Chain_append_16 rfl (by decide) (by omega) (by decide) (jrf_link _ hc) (by omega) ?_
  refine j_astore (L' := [some (.ref 75), some (.int (nI kd)), some (.int m), some (.ref 1), some (.ref (89 + 3 * c))]) d_Chain_append_17 (by decide) rfl rfl ?_
  refine j_aload d_Chain_append_19 rfl ?_
  refine j_iload_n d_Chain_append_21 rfl ?_
  refine j_putv (h' := jup2 h (89 + 3 * c) 0 (nI kd)) d_Chain_append_22 jf_Chain_51 (jsh_link c hc) rfl rfl ?_
  refine j_aload d_Chain_append_25 rfl ?_
  refine j_iload_n d_Chain_append_27 rfl ?_
  refine j_putv (h' := jup2 (jup2 h (89 + 3 * c) 0 (nI kd)) (89 + 3 * c) 1 m) d_Chain_append_28 jf_Chain_54 (jsh_link c hc) rfl rfl ?_
  refine j_iload_n d_Chain_append_31 rfl ?_
  refine j_iconst (v := nI 2) d_Chain_append_32 rfl ?_
  refine j_icmp_eqN (tgt := 42) d_Chain_append_33 (by decide) (by omega) (by omega) (fun c1 => ?_) (fun c1 => ?_)
  · exact absurd c1 hk2
  · refine j_iload_n d_Chain_append_36 rfl ?_
    refine j_bipush (v := nI 6) d_Chain_append_37 (by decide) ?_
    refine j_icmp_neN (tgt := 53) d_Chain_append_39 (by decide) (by omega) (by omega) (fun c2 => ?_) (fun c2 => ?_)
    · refine j_aload_n d_Chain_append_53 rfl ?_
      refine j_dup d_Chain_append_54 rfl ?_
      refine j_getv (v := nI c) d_Chain_append_55 jf_Chain_43 rfl rfl ((congrFun (jup2_f (by omega)) _).trans ((congrFun (jup2_f (by omega)) _).trans hc0)) ?_
      refine j_iconst (v := nI 1) d_Chain_append_58 rfl ?_
      refine j_iaddN d_Chain_append_59 ?_
      refine j_putv (h' := jup2 (jup2 (jup2 h (89 + 3 * c) 0 (nI kd)) (89 + 3 * c) 1 m) 75 0 (nI (c + 1))) d_Chain_append_60 jf_Chain_43 rfl rfl rfl ?_
      subst hres
      exact j_retv d_Chain_append_63 rfl
    · exact absurd c2 hk6
theorem x_append1 {n : jN} {h : jH} {P : jP} {c kd m : Nat} (hw : ∀ q, tw (P q)) (hP : slo h P) (hm : m < 6) (hc0 : h 75 0 = nI c) (hc : c < 8) (hk26 : kd = 2 ∨ kd = 6) : jC n 1 jy_Chain_append jc_Chain_append 5 none [.ref 75, .int (nI kd), .int (nI m), .ref 1] h none (jup2 (sT (jup2 (jup2 h (89 + 3 * c) 0 (nI kd)) (89 + 3 * c) 1 (nI m)) (90 + 3 * c) (P m)) 75 0 (nI (c + 1))) := by
  refine jC_of jm_Chain_append (L := [some (.ref 75), some (.int (nI kd)), some (.int (nI m)), some (.ref 1), none]) (Nat.le_of_ble_eq_true rfl) rfl trivial ?_
  generalize hres : ((none, jup2 (sT (jup2 (jup2 h (89 + 3 * c) 0 (nI kd)) (89 + 3 * c) 1 (nI m)) (90 + 3 * c) (P m)) 75 0 (nI (c + 1))) : Option Value × jH) = res
  refine j_aload_n d_Chain_append_0 rfl ?_
  refine j_callVs (As := []) (st := []) (x_isFull hc0 (by omega)) d_Chain_append_1 (by decide) jm_Chain_isFull jk_Chain_47 ji_Chain_isFull js_Chain_isFull rfl (by decide) rfl rfl (Nat.le_of_ble_eq_true rfl) rfl ?_
  refine j_if_eqB_t (tgt := 8) d_Chain_append_4 (by decide) (decide_eq_false (by omega)) ?_
  have hth := isT_held c hc
  refine j_aload_n d_Chain_append_8 rfl ?_
  refine j_getr (b := 82) d_Chain_append_9 jf_Chain_28 rfl rfl rfl (by decide) ?_
  refine j_aload_n d_Chain_append_12 rfl ?_
  refine j_getv (v := nI c) d_Chain_append_13 jf_Chain_43 rfl rfl hc0 ?_
  refine j_aaldN (b := 89 + 3 * c) d_Chain_append_16 rfl (by decide) (by omega) (by decide) (jrf_link _ hc) (by omega) ?_
  refine j_astore (L' := [some (.ref 75), some (.int (nI kd)), some (.int (nI m)), some (.ref 1), some (.ref (89 + 3 * c))]) d_Chain_append_17 (by decide) rfl rfl ?_
  refine j_aload d_Chain_append_19 rfl ?_
  refine j_iload_n d_Chain_append_21 rfl ?_
  refine j_putv (h' := jup2 h (89 + 3 * c) 0 (nI kd)) d_Chain_append_22 jf_Chain_51 (jsh_link c hc) rfl rfl ?_
  refine j_aload d_Chain_append_25 rfl ?_
  refine j_iload_n d_Chain_append_27 rfl ?_
  refine j_putv (h' := jup2 (jup2 h (89 + 3 * c) 0 (nI kd)) (89 + 3 * c) 1 (nI m)) d_Chain_append_28 jf_Chain_54 (jsh_link c hc) rfl rfl ?_
  refine j_iload_n d_Chain_append_31 rfl ?_
  refine j_iconst (v := nI 2) d_Chain_append_32 rfl ?_
  refine j_icmp_eqN (tgt := 42) d_Chain_append_33 (by decide) (by omega) (by omega) (fun c1 => ?_) (fun c1 => ?_)
  · refine j_aload d_Chain_append_42 rfl ?_
    refine j_getr (b := 90 + 3 * c) d_Chain_append_44 jf_Chain_57 (jsh_link c hc) rfl (jrf_held c hc) (by omega) ?_
    refine j_aload_n d_Chain_append_47 rfl ?_
    refine j_iload_n d_Chain_append_48 rfl ?_
    refine j_aaldN (b := 115 + 2 * m) d_Chain_append_49 rfl (by decide) (by omega) (by decide) (jrf_slot _ (by omega)) (by omega) ?_
    refine j_callVn (As := [.ref (115 + 2 * m)]) (st := []) (x_become hth (isT_slot m hm) (by omega) (rep_of (jup2_f (by omega)) (jup2_f (by omega)) (rep_of (jup2_f (by omega)) (jup2_f (by omega)) (hP m hm))) (hw m)) d_Chain_append_50 (by decide) jm_Table_become jk_Chain_60 ji_Table_become js_Table_become (isT_held c hc).1 (by decide) rfl rfl (Nat.le_of_ble_eq_true rfl) rfl ?_
    refine j_aload_n d_Chain_append_53 rfl ?_
    refine j_dup d_Chain_append_54 rfl ?_
    refine j_getv (v := nI c) d_Chain_append_55 jf_Chain_43 rfl rfl ((congrFun (sT_f (by omega) (by omega)) _).trans ((congrFun (jup2_f (by omega)) _).trans ((congrFun (jup2_f (by omega)) _).trans hc0))) ?_
    refine j_iconst (v := nI 1) d_Chain_append_58 rfl ?_
    refine j_iaddN d_Chain_append_59 ?_
    refine j_putv (h' := jup2 (sT (jup2 (jup2 h (89 + 3 * c) 0 (nI kd)) (89 + 3 * c) 1 (nI m)) (90 + 3 * c) (P m)) 75 0 (nI (c + 1))) d_Chain_append_60 jf_Chain_43 rfl rfl rfl ?_
    subst hres
    exact j_retv d_Chain_append_63 rfl
  · refine j_iload_n d_Chain_append_36 rfl ?_
    refine j_bipush (v := nI 6) d_Chain_append_37 (by decide) ?_
    refine j_icmp_neN (tgt := 53) d_Chain_append_39 (by decide) (by omega) (by omega) (fun c2 => ?_) (fun c2 => ?_)
    · exact absurd hk26 (by omega)
    · refine j_aload d_Chain_append_42 rfl ?_
      refine j_getr (b := 90 + 3 * c) d_Chain_append_44 jf_Chain_57 (jsh_link c hc) rfl (jrf_held c hc) (by omega) ?_
      refine j_aload_n d_Chain_append_47 rfl ?_
      refine j_iload_n d_Chain_append_48 rfl ?_
      refine j_aaldN (b := 115 + 2 * m) d_Chain_append_49 rfl (by decide) (by omega) (by decide) (jrf_slot _ (by omega)) (by omega) ?_
      refine j_callVn (As := [.ref (115 + 2 * m)]) (st := []) (x_become hth (isT_slot m hm) (by omega) (rep_of (jup2_f (by omega)) (jup2_f (by omega)) (rep_of (jup2_f (by omega)) (jup2_f (by omega)) (hP m hm))) (hw m)) d_Chain_append_50 (by decide) jm_Table_become jk_Chain_60 ji_Table_become js_Table_become (isT_held c hc).1 (by decide) rfl rfl (Nat.le_of_ble_eq_true rfl) rfl ?_
      refine j_aload_n d_Chain_append_53 rfl ?_
      refine j_dup d_Chain_append_54 rfl ?_
      refine j_getv (v := nI c) d_Chain_append_55 jf_Chain_43 rfl rfl ((congrFun (sT_f (by omega) (by omega)) _).trans ((congrFun (jup2_f (by omega)) _).trans ((congrFun (jup2_f (by omega)) _).trans hc0))) ?_
      refine j_iconst (v := nI 1) d_Chain_append_58 rfl ?_
      refine j_iaddN d_Chain_append_59 ?_
      refine j_putv (h' := jup2 (sT (jup2 (jup2 h (89 + 3 * c) 0 (nI kd)) (89 + 3 * c) 1 (nI m)) (90 + 3 * c) (P m)) 75 0 (nI (c + 1))) d_Chain_append_60 jf_Chain_43 rfl rfl rfl ?_
      subst hres
      exact j_retv d_Chain_append_63 rfl
/-- where the other table of a link stands -/
def ptc (kd o l : Nat) : Nat := if kd = 2 ∨ kd = 6 then 90 + 3 * l else if kd = 3 then 115 + 2 * o else 78
theorem isT_ptc {kd o l : Nat} (hl : l < 8) (ho : kd = 3 → o < 6) : isT (ptc kd o l) := by
  unfold ptc
  split
  · exact isT_held l hl
  · split
    · exact isT_slot o (ho (by assumption))
    · exact isT_78
theorem x_partner {n : jN} {h : jH} {kd o l : Nat} (hl : l < 8) (hk0 : h (89 + 3 * l) 0 = nI kd) (hk7 : kd < 7) (hm1 : kd = 3 → h (89 + 3 * l) 1 = nI o) (ho3 : kd = 3 → o < 6) : jC n 0 jy_Chain_partner jc_Chain_partner 3 (some (.object "YesNoPowers$Table")) [.ref 75, .ref (89 + 3 * l), .ref 1] h (some (.ref (ptc kd o l))) h := by
  refine jC_of jm_Chain_partner (L := [some (.ref 75), some (.ref (89 + 3 * l)), some (.ref 1)]) (Nat.le_of_ble_eq_true rfl) rfl trivial ?_
  generalize hres : (((some (.ref (ptc kd o l))), h) : Option Value × jH) = res
  refine j_aload_n d_Chain_partner_0 rfl ?_
  refine j_getv (v := nI kd) d_Chain_partner_1 jf_Chain_51 (jsh_link l hl) rfl hk0 ?_
  refine j_iconst (v := nI 2) d_Chain_partner_4 rfl ?_
  refine j_icmp_eqN (tgt := 17) d_Chain_partner_5 (by decide) (by omega) (by omega) (fun c1 => ?_) (fun c1 => ?_)
  · refine j_aload_n d_Chain_partner_17 rfl ?_
    refine j_getr (b := 90 + 3 * l) d_Chain_partner_18 jf_Chain_57 (jsh_link l hl) rfl (jrf_held l hl) (by omega) ?_
    subst hres
    exact j_reta d_Chain_partner_21 (by unfold ptc; (repeat' split); all_goals first | rfl | omega) rfl
  · refine j_aload_n d_Chain_partner_8 rfl ?_
    refine j_getv (v := nI kd) d_Chain_partner_9 jf_Chain_51 (jsh_link l hl) rfl hk0 ?_
    refine j_bipush (v := nI 6) d_Chain_partner_12 (by decide) ?_
    refine j_icmp_neN (tgt := 22) d_Chain_partner_14 (by decide) (by omega) (by omega) (fun c2 => ?_) (fun c2 => ?_)
    · refine j_aload_n d_Chain_partner_22 rfl ?_
      refine j_getv (v := nI kd) d_Chain_partner_23 jf_Chain_51 (jsh_link l hl) rfl hk0 ?_
      refine j_iconst (v := nI 3) d_Chain_partner_26 rfl ?_
      refine j_icmp_neN (tgt := 39) d_Chain_partner_27 (by decide) (by omega) (by omega) (fun c3 => ?_) (fun c3 => ?_)
      · refine j_aload_n d_Chain_partner_39 rfl ?_
        refine j_getr (b := 78) d_Chain_partner_40 jf_Chain_19 rfl rfl rfl (by decide) ?_
        subst hres
        exact j_reta d_Chain_partner_43 (by unfold ptc; (repeat' split); all_goals first | rfl | omega) rfl
      · have ho6 := ho3 c3
        refine j_aload_n d_Chain_partner_30 rfl ?_
        refine j_aload_n d_Chain_partner_31 rfl ?_
        refine j_getv (v := nI o) d_Chain_partner_32 jf_Chain_54 (jsh_link l hl) rfl (hm1 c3) ?_
        refine j_aaldN (b := 115 + 2 * o) d_Chain_partner_35 rfl (by decide) (by omega) (by decide) (jrf_slot _ (by omega)) (by omega) ?_
        refine j_goto (tgt := 43) d_Chain_partner_36 (by decide) ?_
        subst hres
        exact j_reta d_Chain_partner_43 (by unfold ptc; (repeat' split); all_goals first | rfl | omega) rfl
    · refine j_aload_n d_Chain_partner_17 rfl ?_
      refine j_getr (b := 90 + 3 * l) d_Chain_partner_18 jf_Chain_57 (jsh_link l hl) rfl (jrf_held l hl) (by omega) ?_
      subst hres
      exact j_reta d_Chain_partner_21 (by unfold ptc; (repeat' split); all_goals first | rfl | omega) rfl
def chT (kd o : Nat) (M O : jT) : jT := if kd = 0 then ttr M else if kd = 1 then tco M else if kd = 2 then tmul M O else if kd = 3 then tadd M O else if kd = 4 then rq M o 20 else if kd = 5 then tclo M else tmeet M O
def chH (h : jH) (kd o : Nat) (M O : jT) : jH := if kd = 0 then sT (sT h 80 (ttr M)) 78 (ttr M) else if kd = 4 then sT (rcH h 80 o M 20) 78 (rq M o 20) else sT h 78 (chT kd o M O)
theorem chT_n {kd o : Nat} {M O : jT} : (chT kd o M O).1 = M.1 := by
  unfold chT
  (repeat' split) <;> first | rfl | exact rq_n _ _ _
theorem tw_chT {kd o : Nat} {M O : jT} (hM : tw M) (hO : kd = 2 ∨ kd = 3 ∨ kd = 6 → tw O) (h7 : kd < 7) : tw (chT kd o M O) := by
  unfold chT
  split
  · exact tw_tr hM
  split
  · exact tw_co hM
  split
  · exact tw_mul hM (hO (by omega))
  split
  · exact tw_add hM (hO (by omega))
  split
  · exact tw_rq hM 20
  split
  · exact tw_clo hM
  · exact tw_meet hM (hO (by omega))
theorem chH_f {h : jH} {kd o a : Nat} {M O : jT} (h1 : a < 85 ∨ 88 < a) (h2 : a < 78 ∨ 81 < a) : chH h kd o M O a = h a := by
  unfold chH
  split
  · rw [sT_f (by omega) (by omega), sT_f (by omega) (by omega)]
  split
  · rw [sT_f (by omega) (by omega), rcH_f (by omega) (by omega) (by omega)]
  · rw [sT_f (by omega) (by omega)]
theorem chH_r {h : jH} {kd o : Nat} {M O : jT} : rep (chH h kd o M O) 78 (chT kd o M O) := by
  by_cases e0 : kd = 0
  · rw [chH, if_pos e0, chT, if_pos e0]
    exact rep_sT
  · by_cases e4 : kd = 4
    · subst e4
      exact rep_sT
    · rw [chH, if_neg e0, if_neg e4]
      exact rep_sT
theorem x_change0 {n : jN} {h : jH} {l o : Nat} {M O : jT} {q : Nat} (hl : l < 8) (hk0 : h (89 + 3 * l) 0 = nI 0) (hr : rep h 78 M) (hM : tw M) : jC n 3 jy_Chain_change jc_Chain_change 3 none [.ref 75, .ref (89 + 3 * l), .ref q] h none (chH h 0 o M O) := by
  have hn12 := hM.1
  refine jC_of jm_Chain_change (L := [some (.ref 75), some (.ref (89 + 3 * l)), some (.ref q)]) (Nat.le_of_ble_eq_true rfl) rfl trivial ?_
  generalize hres : ((none, chH h 0 o M O) : Option Value × jH) = res
  refine j_aload_n d_Chain_change_0 rfl ?_
  refine j_getv (v := nI 0) d_Chain_change_1 jf_Chain_51 (jsh_link l hl) rfl hk0 ?_
  refine j_swIn (off := 40) (tgt := 44) d_Chain_change_4 (by decide) (by decide) rfl (by decide) ?_
  refine j_aload_n d_Chain_change_44 rfl ?_
  refine j_getr (b := 80) d_Chain_change_45 jf_Chain_23 rfl rfl rfl (by decide) ?_
  refine j_aload_n d_Chain_change_48 rfl ?_
  refine j_getr (b := 78) d_Chain_change_49 jf_Chain_19 rfl rfl rfl (by decide) ?_
  refine j_callVn (As := [.ref 78]) (st := []) (x_turn isT_80 isT_78 (by decide) hr hM) d_Chain_change_52 (by decide) jm_Table_turn jk_Chain_91 ji_Table_turn js_Table_turn rfl (by decide) rfl rfl (Nat.le_of_ble_eq_true rfl) rfl ?_
  refine j_aload_n d_Chain_change_55 rfl ?_
  refine j_getr (b := 78) d_Chain_change_56 jf_Chain_19 rfl rfl rfl (by decide) ?_
  refine j_aload_n d_Chain_change_59 rfl ?_
  refine j_getr (b := 80) d_Chain_change_60 jf_Chain_23 rfl rfl rfl (by decide) ?_
  refine j_callVn (As := [.ref 80]) (st := []) (x_become isT_78 isT_80 (by decide) rep_sT (tw_tr hM)) d_Chain_change_63 (by decide) jm_Table_become jk_Chain_60 ji_Table_become js_Table_become rfl (by decide) rfl rfl (Nat.le_of_ble_eq_true rfl) rfl ?_
  refine j_goto (tgt := 152) d_Chain_change_66 (by decide) ?_
  subst hres
  exact j_retv d_Chain_change_152 (by simp [chH, chT])
theorem x_change1 {n : jN} {h : jH} {l o : Nat} {M O : jT} {q : Nat} (hl : l < 8) (hk0 : h (89 + 3 * l) 0 = nI 1) (hr : rep h 78 M) (hM : tw M) : jC n 3 jy_Chain_change jc_Chain_change 3 none [.ref 75, .ref (89 + 3 * l), .ref q] h none (chH h 1 o M O) := by
  have hn12 := hM.1
  refine jC_of jm_Chain_change (L := [some (.ref 75), some (.ref (89 + 3 * l)), some (.ref q)]) (Nat.le_of_ble_eq_true rfl) rfl trivial ?_
  generalize hres : ((none, chH h 1 o M O) : Option Value × jH) = res
  refine j_aload_n d_Chain_change_0 rfl ?_
  refine j_getv (v := nI 1) d_Chain_change_1 jf_Chain_51 (jsh_link l hl) rfl hk0 ?_
  refine j_swIn (off := 65) (tgt := 69) d_Chain_change_4 (by decide) (by decide) rfl (by decide) ?_
  refine j_aload_n d_Chain_change_69 rfl ?_
  refine j_getr (b := 78) d_Chain_change_70 jf_Chain_19 rfl rfl rfl (by decide) ?_
  refine j_callVn (As := []) (st := []) (x_negate isT_78 hr hM) d_Chain_change_73 (by decide) jm_Table_negate jk_Chain_94 ji_Table_negate js_Table_negate rfl (by decide) rfl rfl (Nat.le_of_ble_eq_true rfl) rfl ?_
  refine j_goto (tgt := 152) d_Chain_change_76 (by decide) ?_
  subst hres
  exact j_retv d_Chain_change_152 (by simp [chH, chT])
theorem x_change2 {n : jN} {h : jH} {l o : Nat} {M O : jT} {q : Nat} (hq : isT q) (hl : l < 8) (hk0 : h (89 + 3 * l) 0 = nI 2) (hr : rep h 78 M) (hM : tw M) (hrq : rep h q O) (hO : tw O) (hMO : M.1 = O.1) (hq78 : q ≠ 78) : jC n 3 jy_Chain_change jc_Chain_change 3 none [.ref 75, .ref (89 + 3 * l), .ref q] h none (chH h 2 o M O) := by
  have hn12 := hM.1
  refine jC_of jm_Chain_change (L := [some (.ref 75), some (.ref (89 + 3 * l)), some (.ref q)]) (Nat.le_of_ble_eq_true rfl) rfl trivial ?_
  generalize hres : ((none, chH h 2 o M O) : Option Value × jH) = res
  refine j_aload_n d_Chain_change_0 rfl ?_
  refine j_getv (v := nI 2) d_Chain_change_1 jf_Chain_51 (jsh_link l hl) rfl hk0 ?_
  refine j_swIn (off := 75) (tgt := 79) d_Chain_change_4 (by decide) (by decide) rfl (by decide) ?_
  refine j_aload_n d_Chain_change_79 rfl ?_
  refine j_getr (b := 78) d_Chain_change_80 jf_Chain_19 rfl rfl rfl (by decide) ?_
  refine j_aload_n d_Chain_change_83 rfl ?_
  refine j_callVn (As := [.ref q]) (st := []) (x_multiplyBy isT_78 hq (by omega) hr hM hrq hO hMO) d_Chain_change_84 (by decide) jm_Table_multiplyBy jk_Chain_97 ji_Table_multiplyBy js_Table_multiplyBy rfl (by decide) rfl rfl (Nat.le_of_ble_eq_true rfl) rfl ?_
  refine j_goto (tgt := 152) d_Chain_change_87 (by decide) ?_
  subst hres
  exact j_retv d_Chain_change_152 (by simp [chH, chT])
theorem x_change3 {n : jN} {h : jH} {l o : Nat} {M O : jT} {q : Nat} (hq : isT q) (hl : l < 8) (hk0 : h (89 + 3 * l) 0 = nI 3) (hr : rep h 78 M) (hM : tw M) (hrq : rep h q O) (hO : tw O) (hMO : M.1 = O.1) (hq78 : q ≠ 78) : jC n 3 jy_Chain_change jc_Chain_change 3 none [.ref 75, .ref (89 + 3 * l), .ref q] h none (chH h 3 o M O) := by
  have hn12 := hM.1
  refine jC_of jm_Chain_change (L := [some (.ref 75), some (.ref (89 + 3 * l)), some (.ref q)]) (Nat.le_of_ble_eq_true rfl) rfl trivial ?_
  generalize hres : ((none, chH h 3 o M O) : Option Value × jH) = res
  refine j_aload_n d_Chain_change_0 rfl ?_
  refine j_getv (v := nI 3) d_Chain_change_1 jf_Chain_51 (jsh_link l hl) rfl hk0 ?_
  refine j_swIn (off := 86) (tgt := 90) d_Chain_change_4 (by decide) (by decide) rfl (by decide) ?_
  refine j_aload_n d_Chain_change_90 rfl ?_
  refine j_getr (b := 78) d_Chain_change_91 jf_Chain_19 rfl rfl rfl (by decide) ?_
  refine j_aload_n d_Chain_change_94 rfl ?_
  refine j_callVn (As := [.ref q]) (st := []) (x_join isT_78 hq (by omega) hr hM hrq hO hMO) d_Chain_change_95 (by decide) jm_Table_join jk_Chain_100 ji_Table_join js_Table_join rfl (by decide) rfl rfl (Nat.le_of_ble_eq_true rfl) rfl ?_
  refine j_goto (tgt := 152) d_Chain_change_98 (by decide) ?_
  subst hres
  exact j_retv d_Chain_change_152 (by simp [chH, chT])
theorem x_change4 {n : jN} {h : jH} {l o : Nat} {M O : jT} {q : Nat} (hl : l < 8) (hk0 : h (89 + 3 * l) 0 = nI 4) (hm1 : h (89 + 3 * l) 1 = nI o) (ho : o < 2 ^ 31) (h0 : 0 < M.1) (hr : rep h 78 M) (hM : tw M) : jC n 3 jy_Chain_change jc_Chain_change 3 none [.ref 75, .ref (89 + 3 * l), .ref q] h none (chH h 4 o M O) := by
  have hn12 := hM.1
  refine jC_of jm_Chain_change (L := [some (.ref 75), some (.ref (89 + 3 * l)), some (.ref q)]) (Nat.le_of_ble_eq_true rfl) rfl trivial ?_
  generalize hres : ((none, chH h 4 o M O) : Option Value × jH) = res
  refine j_aload_n d_Chain_change_0 rfl ?_
  refine j_getv (v := nI 4) d_Chain_change_1 jf_Chain_51 (jsh_link l hl) rfl hk0 ?_
  refine j_swIn (off := 97) (tgt := 101) d_Chain_change_4 (by decide) (by decide) rfl (by decide) ?_
  refine j_aload_n d_Chain_change_101 rfl ?_
  refine j_getr (b := 84) d_Chain_change_102 jf_Chain_38 rfl rfl rfl (by decide) ?_
  refine j_aload_n d_Chain_change_105 rfl ?_
  refine j_getr (b := 78) d_Chain_change_106 jf_Chain_19 rfl rfl rfl (by decide) ?_
  refine j_aload_n d_Chain_change_109 rfl ?_
  refine j_getv (v := nI o) d_Chain_change_110 jf_Chain_54 (jsh_link l hl) rfl hm1 ?_
  refine j_aload_n d_Chain_change_113 rfl ?_
  refine j_getr (b := 80) d_Chain_change_114 jf_Chain_23 rfl rfl rfl (by decide) ?_
  refine j_callVn (As := [.ref 78, .int (nI o), .ref 80]) (st := []) (x_raise2 isT_78 isT_80 hr hM h0 (by omega) (by decide) (by decide) (by decide) (by decide) (by decide)) d_Chain_change_117 (by decide) jm_Powers_raise jk_Chain_103 ji_Powers_raise js_Powers_raise rfl (by decide) rfl rfl (Nat.le_of_ble_eq_true rfl) rfl ?_
  refine j_aload_n d_Chain_change_120 rfl ?_
  refine j_getr (b := 78) d_Chain_change_121 jf_Chain_19 rfl rfl rfl (by decide) ?_
  refine j_aload_n d_Chain_change_124 rfl ?_
  refine j_getr (b := 80) d_Chain_change_125 jf_Chain_23 rfl rfl rfl (by decide) ?_
  refine j_callVn (As := [.ref 80]) (st := []) (x_become isT_78 isT_80 (by decide) (rcH_r isT_80 (by decide) 20) (tw_rq hM 20)) d_Chain_change_128 (by decide) jm_Table_become jk_Chain_60 ji_Table_become js_Table_become rfl (by decide) rfl rfl (Nat.le_of_ble_eq_true rfl) rfl ?_
  refine j_goto (tgt := 152) d_Chain_change_131 (by decide) ?_
  subst hres
  exact j_retv d_Chain_change_152 (by simp [chH, chT])
theorem x_change5 {n : jN} {h : jH} {l o : Nat} {M O : jT} {q : Nat} (hl : l < 8) (hk0 : h (89 + 3 * l) 0 = nI 5) (hr : rep h 78 M) (hM : tw M) : jC n 3 jy_Chain_change jc_Chain_change 3 none [.ref 75, .ref (89 + 3 * l), .ref q] h none (chH h 5 o M O) := by
  have hn12 := hM.1
  refine jC_of jm_Chain_change (L := [some (.ref 75), some (.ref (89 + 3 * l)), some (.ref q)]) (Nat.le_of_ble_eq_true rfl) rfl trivial ?_
  generalize hres : ((none, chH h 5 o M O) : Option Value × jH) = res
  refine j_aload_n d_Chain_change_0 rfl ?_
  refine j_getv (v := nI 5) d_Chain_change_1 jf_Chain_51 (jsh_link l hl) rfl hk0 ?_
  refine j_swIn (off := 130) (tgt := 134) d_Chain_change_4 (by decide) (by decide) rfl (by decide) ?_
  refine j_aload_n d_Chain_change_134 rfl ?_
  refine j_getr (b := 78) d_Chain_change_135 jf_Chain_19 rfl rfl rfl (by decide) ?_
  refine j_callVn (As := []) (st := []) (x_close isT_78 hr hM) d_Chain_change_138 (by decide) jm_Table_close jk_Chain_107 ji_Table_close js_Table_close rfl (by decide) rfl rfl (Nat.le_of_ble_eq_true rfl) rfl ?_
  refine j_goto (tgt := 152) d_Chain_change_141 (by decide) ?_
  subst hres
  exact j_retv d_Chain_change_152 (by simp [chH, chT])
theorem x_change6 {n : jN} {h : jH} {l o : Nat} {M O : jT} {q : Nat} (hq : isT q) (hl : l < 8) (hk0 : h (89 + 3 * l) 0 = nI 6) (hr : rep h 78 M) (hM : tw M) (hrq : rep h q O) (hO : tw O) (hMO : M.1 = O.1) (hq78 : q ≠ 78) : jC n 3 jy_Chain_change jc_Chain_change 3 none [.ref 75, .ref (89 + 3 * l), .ref q] h none (chH h 6 o M O) := by
  have hn12 := hM.1
  refine jC_of jm_Chain_change (L := [some (.ref 75), some (.ref (89 + 3 * l)), some (.ref q)]) (Nat.le_of_ble_eq_true rfl) rfl trivial ?_
  generalize hres : ((none, chH h 6 o M O) : Option Value × jH) = res
  refine j_aload_n d_Chain_change_0 rfl ?_
  refine j_getv (v := nI 6) d_Chain_change_1 jf_Chain_51 (jsh_link l hl) rfl hk0 ?_
  refine j_swOut (tgt := 144) d_Chain_change_4 (by decide) (by decide) ?_
  refine j_aload_n d_Chain_change_144 rfl ?_
  refine j_getr (b := 78) d_Chain_change_145 jf_Chain_19 rfl rfl rfl (by decide) ?_
  refine j_aload_n d_Chain_change_148 rfl ?_
  refine j_callVn (As := [.ref q]) (st := []) (x_meet isT_78 hq (by omega) hr hM hrq hO hMO) d_Chain_change_149 (by decide) jm_Table_meet jk_Chain_110 ji_Table_meet js_Table_meet rfl (by decide) rfl rfl (Nat.le_of_ble_eq_true rfl) rfl ?_
  subst hres
  exact j_retv d_Chain_change_152 (by simp [chH, chT])
theorem x_change {n : jN} {h : jH} {l o kd q : Nat} {M O : jT} (hq : isT q) (hl : l < 8) (hk7 : kd < 7) (hk0 : h (89 + 3 * l) 0 = nI kd) (hm1 : kd = 4 → h (89 + 3 * l) 1 = nI o) (ho : o < 2 ^ 31) (h0 : 0 < M.1) (hr : rep h 78 M) (hM : tw M) (h236 : kd = 2 ∨ kd = 3 ∨ kd = 6 → rep h q O ∧ tw O ∧ M.1 = O.1 ∧ q ≠ 78) : jC n 3 jy_Chain_change jc_Chain_change 3 none [.ref 75, .ref (89 + 3 * l), .ref q] h none (chH h kd o M O) := by
  rcases (show kd = 0 ∨ kd = 1 ∨ kd = 2 ∨ kd = 3 ∨ kd = 4 ∨ kd = 5 ∨ kd = 6 by omega) with e | e | e | e | e | e | e <;> subst e
  · exact x_change0 hl hk0 hr hM
  · exact x_change1 hl hk0 hr hM
  · obtain ⟨h1, h2, h3, h4⟩ := h236 (Or.inl rfl)
    exact x_change2 hq hl hk0 hr hM h1 h2 h3 h4
  · obtain ⟨h1, h2, h3, h4⟩ := h236 (Or.inr (Or.inl rfl))
    exact x_change3 hq hl hk0 hr hM h1 h2 h3 h4
  · exact x_change4 hl hk0 (hm1 rfl) ho h0 hr hM
  · exact x_change5 hl hk0 hr hM
  · obtain ⟨h1, h2, h3, h4⟩ := h236 (Or.inr (Or.inr rfl))
    exact x_change6 hq hl hk0 hr hM h1 h2 h3 h4
def rsnW (o m : Nat) : Nat := if m = 0 then 100 + o else m
theorem x_giveReasons {n : jN} {h : jH} {l kd o : Nat} {O : jT} {q : Nat} (hq : isT q) (hl : l < 8) (hk0 : h (89 + 3 * l) 0 = nI kd) (hm1 : h (89 + 3 * l) 1 = nI o) (ho : o < 100) (hrq : rep h q O) (hO : tw O) (hq3 : q < 75 ∨ 77 < q) : jC n 0 jy_Chain_giveReasons jc_Chain_giveReasons 4 none [.ref 75, .int (nI l), .ref q] h none (jup2 (jup2 (jup2 (jup2 h 77 0 (nI l)) 77 1 (nI kd)) 77 2 (nI (rsnW o O.1))) 75 3 (nI 3)) := by
  refine jC_of jm_Chain_giveReasons (L := [some (.ref 75), some (.int (nI l)), some (.ref q), none]) (Nat.le_of_ble_eq_true rfl) rfl trivial ?_
  generalize hres : ((none, jup2 (jup2 (jup2 (jup2 h 77 0 (nI l)) 77 1 (nI kd)) 77 2 (nI (rsnW o O.1))) 75 3 (nI 3)) : Option Value × jH) = res
  have hO12 := hO.1
  refine j_aload_n d_Chain_giveReasons_0 rfl ?_
  refine j_getr (b := 82) d_Chain_giveReasons_1 jf_Chain_28 rfl rfl rfl (by decide) ?_
  refine j_iload_n d_Chain_giveReasons_4 rfl ?_
  refine j_aaldN (b := 89 + 3 * l) d_Chain_giveReasons_5 rfl (by decide) (by omega) (by decide) (jrf_link _ hl) (by omega) ?_
  refine j_astore_n (L' := [some (.ref 75), some (.int (nI l)), some (.ref q), some (.ref (89 + 3 * l))]) d_Chain_giveReasons_6 (by decide) rfl rfl ?_
  refine j_aload_n d_Chain_giveReasons_7 rfl ?_
  refine j_getr (b := 77) d_Chain_giveReasons_8 jf_Chain_13 rfl rfl rfl (by decide) ?_
  refine j_iconst (v := nI 0) d_Chain_giveReasons_11 rfl ?_
  refine j_iload_n d_Chain_giveReasons_12 rfl ?_
  refine j_iastN (h' := jup2 h 77 0 (nI l)) d_Chain_giveReasons_13 rfl (by omega) (by decide) rfl ?_
  refine j_aload_n d_Chain_giveReasons_14 rfl ?_
  refine j_getr (b := 77) d_Chain_giveReasons_15 jf_Chain_13 rfl rfl rfl (by decide) ?_
  refine j_iconst (v := nI 1) d_Chain_giveReasons_18 rfl ?_
  refine j_aload_n d_Chain_giveReasons_19 rfl ?_
  refine j_getv (v := nI kd) d_Chain_giveReasons_20 jf_Chain_51 (jsh_link l hl) rfl ((congrFun (jup2_f (by omega)) _).trans hk0) ?_
  refine j_iastN (h' := jup2 (jup2 h 77 0 (nI l)) 77 1 (nI kd)) d_Chain_giveReasons_23 rfl (by omega) (by decide) rfl ?_
  refine j_aload_n d_Chain_giveReasons_24 rfl ?_
  refine j_getr (b := 77) d_Chain_giveReasons_25 jf_Chain_13 rfl rfl rfl (by decide) ?_
  refine j_iconst (v := nI 2) d_Chain_giveReasons_28 rfl ?_
  refine j_aload_n d_Chain_giveReasons_29 rfl ?_
  refine j_getv (v := nI O.1) d_Chain_giveReasons_30 jf_Chain_77 hq.1 rfl (rep_of (jup2_f (by omega)) (jup2_f (by omega)) (rep_of (jup2_f (by omega)) (jup2_f (by omega)) hrq)).1 ?_
  refine j_if_neN (tgt := 46) d_Chain_giveReasons_33 (by decide) (by omega) (fun c => ?_) (fun c => ?_)
  · refine j_aload_n d_Chain_giveReasons_46 rfl ?_
    refine j_getv (v := nI O.1) d_Chain_giveReasons_47 jf_Chain_77 hq.1 rfl (rep_of (jup2_f (by omega)) (jup2_f (by omega)) (rep_of (jup2_f (by omega)) (jup2_f (by omega)) hrq)).1 ?_
    refine j_top (w := nI (rsnW o O.1)) (congrArg nI (if_neg c).symm) ?_
    refine j_iastN (h' := jup2 (jup2 (jup2 h 77 0 (nI l)) 77 1 (nI kd)) 77 2 (nI (rsnW o O.1))) d_Chain_giveReasons_50 rfl (by omega) (by decide) rfl ?_
    refine j_aload_n d_Chain_giveReasons_51 rfl ?_
    refine j_iconst (v := nI 3) d_Chain_giveReasons_52 rfl ?_
    refine j_putv (h' := jup2 (jup2 (jup2 (jup2 h 77 0 (nI l)) 77 1 (nI kd)) 77 2 (nI (rsnW o O.1))) 75 3 (nI 3)) d_Chain_giveReasons_53 jf_Chain_67 rfl rfl rfl ?_
    subst hres
    exact j_retv d_Chain_giveReasons_56 rfl
  · refine j_bipush (v := nI 100) d_Chain_giveReasons_36 (by decide) ?_
    refine j_aload_n d_Chain_giveReasons_38 rfl ?_
    refine j_getv (v := nI o) d_Chain_giveReasons_39 jf_Chain_54 (jsh_link l hl) rfl ((congrFun (jup2_f (by omega)) _).trans ((congrFun (jup2_f (by omega)) _).trans hm1)) ?_
    refine j_iaddN d_Chain_giveReasons_42 ?_
    refine j_goto (tgt := 50) d_Chain_giveReasons_43 (by decide) ?_
    refine j_top (w := nI (rsnW o O.1)) (congrArg nI (if_pos c).symm) ?_
    refine j_iastN (h' := jup2 (jup2 (jup2 h 77 0 (nI l)) 77 1 (nI kd)) 77 2 (nI (rsnW o O.1))) d_Chain_giveReasons_50 rfl (by omega) (by decide) rfl ?_
    refine j_aload_n d_Chain_giveReasons_51 rfl ?_
    refine j_iconst (v := nI 3) d_Chain_giveReasons_52 rfl ?_
    refine j_putv (h' := jup2 (jup2 (jup2 (jup2 h 77 0 (nI l)) 77 1 (nI kd)) 77 2 (nI (rsnW o O.1))) 75 3 (nI 3)) d_Chain_giveReasons_53 jf_Chain_67 rfl rfl rfl ?_
    subst hres
    exact j_retv d_Chain_giveReasons_56 rfl
def gbH (h : jH) (b : Nat) : Nat → jH
  | 0 => h
  | j + 1 => jup2 (jup2 (jup2 (gbH h b j) 76 j (nI (b - j - 1))) 75 2 (nI (j + 1))) 75 1 (nI (b - (j + 1)))
theorem gbH_f {h : jH} {b a : Nat} (h1 : a ≠ 75) (h2 : a ≠ 76) : ∀ j, gbH h b j a = h a
  | 0 => rfl
  | j + 1 => by rw [gbH, jup2_f h1, jup2_f h1, jup2_f h2, gbH_f h1 h2 j]
theorem gbH_v {h : jH} {b : Nat} (h1 : h 75 1 = nI b) (h2 : h 75 2 = nI 0) : ∀ j, j ≤ b → gbH h b j 75 1 = nI (b - j) ∧ gbH h b j 75 2 = nI j ∧ gbH h b j 75 0 = h 75 0 ∧ gbH h b j 75 3 = h 75 3 ∧ ∀ z, z < j → gbH h b j 76 z = nI (b - 1 - z)
  | 0, _ => ⟨h1, h2, rfl, rfl, fun z hz => absurd hz (Nat.not_lt_zero z)⟩
  | j + 1, hj => by
    obtain ⟨i1, i2, i3, i4, i5⟩ := gbH_v h1 h2 j (by omega)
    refine ⟨by simp [gbH, jup2], by simp [gbH, jup2], ?_, ?_, fun z hz => ?_⟩
    · rw [← i3]
      simp [gbH, jup2]
    · rw [← i4]
      simp [gbH, jup2]
    · rw [gbH, jup2_f (by decide), jup2_f (by decide)]
      simp only [jup2]
      by_cases e : z = j
      · rw [if_pos trivial, if_pos e, e]
        congr 1
        omega
      · rw [if_pos trivial, if_neg e]
        exact i5 z (by omega)
theorem nI_dec {x : Nat} : nI x + (-1) = nI x - nI 1 := (Int32.sub_eq_add_neg (nI x) (nI 1)).symm
theorem x_giveBack {n : jN} {h : jH} {b : Nat} (hb : b ≤ 8) (h1 : h 75 1 = nI b) (h2 : h 75 2 = nI 0) (h83 : ∀ z, z < b → h 83 z = nI z) : jC n 0 jy_Chain_giveBack jc_Chain_giveBack 2 none [.ref 75] h none (gbH h b b) := by
  refine jC_of jm_Chain_giveBack (L := [some (.ref 75), none]) (Nat.le_of_ble_eq_true rfl) rfl trivial ?_
  generalize hres : ((none, gbH h b b) : Option Value × jH) = res
  refine j_aload_n d_Chain_giveBack_0 rfl ?_
  refine j_getv (v := nI b) d_Chain_giveBack_1 jf_Chain_70 rfl rfl h1 ?_
  refine j_iconst (v := nI 1) d_Chain_giveBack_4 rfl ?_
  refine j_isub d_Chain_giveBack_5 ?_
  refine j_istore_n (L' := [some (.ref 75), some (.int ((nI b) - (nI 1)))]) d_Chain_giveBack_6 (by decide) rfl rfl ?_
  refine j_locs (L' := [some (.ref 75), some (.int (nI (b - 0) - nI 1))]) rfl ?_
  refine j_loop (P := fun j => jJ n 0 jc_Chain_giveBack 2 "YesNoPowers$Chain" 7 [some (.ref 75), some (.int (nI (b - j) - nI 1))] [] (gbH h b j) res) (m := b) ?_ (fun j hj ih => ?_)
  · rw [Nat.sub_self]
    refine j_iload_n d_Chain_giveBack_7 rfl ?_
    refine j_if_lt_t (tgt := 52) d_Chain_giveBack_8 (by decide) (by decide) ?_
    subst hres
    exact j_retv d_Chain_giveBack_52 rfl
  · obtain ⟨g1, g2, g3, g4, g5⟩ := gbH_v h1 h2 j (by omega)
    refine j_locs (L' := [some (.ref 75), some (.int (nI (b - j - 1)))]) (by rw [ni_sub (show 1 ≤ b - j by omega)]) ?_
    have hbj : h 83 (b - j - 1) = nI (b - j - 1) := h83 _ (by omega)
    refine j_iload_n d_Chain_giveBack_7 rfl ?_
    refine j_if_ltN_f (tgt := 52) d_Chain_giveBack_8 (by decide) (by omega) trivial ?_
    refine j_aload_n d_Chain_giveBack_11 rfl ?_
    refine j_getr (b := 76) d_Chain_giveBack_12 jf_Chain_9 rfl rfl rfl (by decide) ?_
    refine j_aload_n d_Chain_giveBack_15 rfl ?_
    refine j_getv (v := nI j) d_Chain_giveBack_16 jf_Chain_64 rfl rfl g2 ?_
    refine j_aload_n d_Chain_giveBack_19 rfl ?_
    refine j_getr (b := 83) d_Chain_giveBack_20 jf_Chain_32 rfl rfl rfl (by decide) ?_
    refine j_iload_n d_Chain_giveBack_23 rfl ?_
    refine j_ialdN (v := nI (b - j - 1)) d_Chain_giveBack_24 rfl (by omega) (by decide) ((congrFun (gbH_f (by decide) (by decide) j) _).trans hbj) ?_
    refine j_iastN (h' := jup2 (gbH h b j) 76 j (nI (b - j - 1))) d_Chain_giveBack_25 rfl (by omega) (by decide) rfl ?_
    refine j_aload_n d_Chain_giveBack_26 rfl ?_
    refine j_dup d_Chain_giveBack_27 rfl ?_
    refine j_getv (v := nI j) d_Chain_giveBack_28 jf_Chain_64 rfl rfl ((congrFun (jup2_f (by decide)) _).trans g2) ?_
    refine j_iconst (v := nI 1) d_Chain_giveBack_31 rfl ?_
    refine j_iaddN d_Chain_giveBack_32 ?_
    refine j_putv (h' := jup2 (jup2 (gbH h b j) 76 j (nI (b - j - 1))) 75 2 (nI (j + 1))) d_Chain_giveBack_33 jf_Chain_64 rfl rfl rfl ?_
    refine j_aload_n d_Chain_giveBack_36 rfl ?_
    refine j_dup d_Chain_giveBack_37 rfl ?_
    refine j_getv (v := nI (b - j)) d_Chain_giveBack_38 jf_Chain_70 rfl rfl ((jup2_o (by decide)).trans ((congrFun (jup2_f (by decide)) _).trans g1)) ?_
    refine j_iconst (v := nI 1) d_Chain_giveBack_41 rfl ?_
    refine j_isubN d_Chain_giveBack_42 (by omega) ?_
    refine j_putv (h' := jup2 (jup2 (jup2 (gbH h b j) 76 j (nI (b - j - 1))) 75 2 (nI (j + 1))) 75 1 (nI ((b - j) - 1))) d_Chain_giveBack_43 jf_Chain_70 rfl rfl rfl ?_
    refine j_iinc (v := (nI (b - j - 1)) + (-1)) (L' := [some (.ref 75), some (.int ((nI (b - j - 1)) + (-1)))]) d_Chain_giveBack_46 rfl rfl (by decide) rfl rfl ?_
    refine j_goto (tgt := 7) d_Chain_giveBack_49 (by decide) ?_
    refine j_locs (L' := [some (.ref 75), some (.int (nI (b - (j + 1)) - nI 1))]) (by rw [nI_dec]; rfl) ?_
    exact ih

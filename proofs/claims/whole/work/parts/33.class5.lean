theorem jrf_log : ∀ k, k < 20 → jrf 5 k = 6 + 2 * k := by decide
theorem jrf_slot : ∀ k, k < 6 → jrf 1 k = 115 + 2 * k := by decide
theorem jrf_sheet : ∀ k, k < 4 → jrf 2 k = 127 + 2 * k := by decide
theorem jrf_link : ∀ k, k < 8 → jrf 82 k = 89 + 3 * k := by decide
theorem jrf_held : ∀ k, k < 8 → jrf (89 + 3 * k) 2 = 90 + 3 * k := by decide
theorem jsh_link : ∀ k, k < 8 → jsh (89 + 3 * k) = (1, 3) := by decide
theorem isT_log : ∀ k, k < 20 → isT (6 + 2 * k) := by unfold isT; decide
theorem isT_slot : ∀ k, k < 6 → isT (115 + 2 * k) := by unfold isT; decide
theorem isT_held : ∀ k, k < 8 → isT (90 + 3 * k) := by unfold isT; decide
theorem isU_sheet : ∀ k, k < 4 → isU (127 + 2 * k) := by unfold isU; decide
theorem isT_47 : isT 47 := by unfold isT; decide
theorem isT_49 : isT 49 := by unfold isT; decide
theorem isT_60 : isT 60 := by unfold isT; decide
theorem isT_62 : isT 62 := by unfold isT; decide
theorem isT_65 : isT 65 := by unfold isT; decide
theorem isT_67 : isT 67 := by unfold isT; decide
theorem isT_69 : isT 69 := by unfold isT; decide
theorem isT_71 : isT 71 := by unfold isT; decide
theorem isT_73 : isT 73 := by unfold isT; decide
theorem isT_78 : isT 78 := by unfold isT; decide
theorem isT_80 : isT 80 := by unfold isT; decide
theorem isT_108 : isT 113 := by unfold isT; decide
theorem isT_1085 : isT 85 := by unfold isT; decide
theorem isT_1087 : isT 87 := by unfold isT; decide
theorem x_min {n : jN} {h : jH} {a b : Nat} (ha : a < 2 ^ 31) (hb : b < 2 ^ 31) : jC n 0 jy_J_min jc_J_min 2 (some .int) [.int (nI a), .int (nI b)] h (some (.int (nI (min a b)))) h := by
  refine jC_of jm_J_min (L := [some (.int (nI a)), some (.int (nI b))]) (Nat.le_of_ble_eq_true rfl) rfl trivial ?_
  generalize hres : (((some (.int (nI (min a b)))), h) : Option Value × jH) = res
  refine j_iload_n d_J_min_0 rfl ?_
  refine j_iload_n d_J_min_1 rfl ?_
  refine j_icmp_gtN (tgt := 9) d_J_min_2 (by decide) (by omega) (by omega) (fun c => ?_) (fun c => ?_)
  · refine j_iload_n d_J_min_9 rfl ?_
    subst hres
    exact j_reti d_J_min_10 (congrArg nI (by omega)) rfl
  · refine j_iload_n d_J_min_5 rfl ?_
    refine j_goto (tgt := 10) d_J_min_6 (by decide) ?_
    subst hres
    exact j_reti d_J_min_10 (congrArg nI (by omega)) rfl
def lat (nx : Nat) : Nat := if nx = 0 then 19 else nx - 1
theorem lat_lt {nx : Nat} (h : nx < 20) : lat nx < 20 := by unfold lat; split <;> omega
theorem x_latest {n : jN} {h : jH} {nx : Nat} (hnx : h 3 1 = nI nx) (hn : nx < 20) : jC n 0 jy_Log_latest jc_Log_latest 1 (some .int) [.ref 3] h (some (.int (nI (lat nx)))) h := by
  refine jC_of jm_Log_latest (L := [some (.ref 3)]) (Nat.le_of_ble_eq_true rfl) rfl trivial ?_
  generalize hres : (((some (.int (nI (lat nx)))), h) : Option Value × jH) = res
  refine j_aload_n d_Log_latest_0 rfl ?_
  refine j_getv (v := nI nx) d_Log_latest_1 jf_Log_20 rfl rfl hnx ?_
  refine j_if_neN (tgt := 12) d_Log_latest_4 (by decide) (by omega) (fun c => ?_) (fun c => ?_)
  · refine j_aload_n d_Log_latest_12 rfl ?_
    refine j_getv (v := nI nx) d_Log_latest_13 jf_Log_20 rfl rfl hnx ?_
    refine j_iconst (v := nI 1) d_Log_latest_16 rfl ?_
    refine j_isubN d_Log_latest_17 (by omega) ?_
    subst hres
    exact j_reti d_Log_latest_18 (by first | rw [lat, if_pos (by omega)] | rw [lat, if_neg (by omega)]) rfl
  · refine j_bipush (v := nI 19) d_Log_latest_7 (by decide) ?_
    refine j_goto (tgt := 18) d_Log_latest_9 (by decide) ?_
    subst hres
    exact j_reti d_Log_latest_18 (by first | rw [lat, if_pos (by omega)] | rw [lat, if_neg (by omega)]) rfl
theorem x_latestSlot {n : jN} {h : jH} {nx : Nat} (hnx : h 3 1 = nI nx) (hn : nx < 20) : jC n 1 jy_Log_latestSlot jc_Log_latestSlot 1 (some .int) [.ref 3] h (some (.int (h 4 (lat nx)))) h := by
  refine jC_of jm_Log_latestSlot (L := [some (.ref 3)]) (Nat.le_of_ble_eq_true rfl) rfl trivial ?_
  generalize hres : (((some (.int (h 4 (lat nx)))), h) : Option Value × jH) = res
  have hla := lat_lt hn
  refine j_aload_n d_Log_latestSlot_0 rfl ?_
  refine j_getr (b := 4) d_Log_latestSlot_1 jf_Log_9 rfl rfl rfl (by decide) ?_
  refine j_aload_n d_Log_latestSlot_4 rfl ?_
  refine j_callVs (As := []) (st := [.ref 4]) (x_latest hnx hn) d_Log_latestSlot_5 (by decide) jm_Log_latest jk_Log_37 ji_Log_latest js_Log_latest rfl (by decide) rfl rfl (Nat.le_of_ble_eq_true rfl) rfl ?_
  refine j_ialdN (v := h 4 (lat nx)) d_Log_latestSlot_8 rfl (by omega) (by decide) rfl ?_
  subst hres
  exact j_reti d_Log_latestSlot_9 rfl rfl
theorem x_latestTable {n : jN} {h : jH} {nx : Nat} (hnx : h 3 1 = nI nx) (hn : nx < 20) : jC n 1 jy_Log_latestTable jc_Log_latestTable 1 (some (.object "YesNoPowers$Table")) [.ref 3] h (some (.ref (6 + 2 * lat nx))) h := by
  refine jC_of jm_Log_latestTable (L := [some (.ref 3)]) (Nat.le_of_ble_eq_true rfl) rfl trivial ?_
  generalize hres : (((some (.ref (6 + 2 * lat nx))), h) : Option Value × jH) = res
  have hla := lat_lt hn
  refine j_aload_n d_Log_latestTable_0 rfl ?_
  refine j_getr (b := 5) d_Log_latestTable_1 jf_Log_15 rfl rfl rfl (by decide) ?_
  refine j_aload_n d_Log_latestTable_4 rfl ?_
  refine j_callVs (As := []) (st := [.ref 5]) (x_latest hnx hn) d_Log_latestTable_5 (by decide) jm_Log_latest jk_Log_37 ji_Log_latest js_Log_latest rfl (by decide) rfl rfl (Nat.le_of_ble_eq_true rfl) rfl ?_
  refine j_aaldN (b := 6 + 2 * lat nx) d_Log_latestTable_8 rfl (by decide) (by omega) (by decide) (jrf_log _ hla) (by omega) ?_
  subst hres
  exact j_reta d_Log_latestTable_9 rfl rfl
theorem x_dropLatest {n : jN} {h : jH} {nx sz : Nat} (hnx : h 3 1 = nI nx) (hn : nx < 20) (hsz : h 3 0 = nI sz) (hs0 : 0 < sz) (hs1 : sz ≤ 20) : jC n 1 jy_Log_dropLatest jc_Log_dropLatest 1 none [.ref 3] h none (jup2 (jup2 h 3 1 (nI (lat nx))) 3 0 (nI (sz - 1))) := by
  refine jC_of jm_Log_dropLatest (L := [some (.ref 3)]) (Nat.le_of_ble_eq_true rfl) rfl trivial ?_
  generalize hres : ((none, jup2 (jup2 h 3 1 (nI (lat nx))) 3 0 (nI (sz - 1))) : Option Value × jH) = res
  have hla := lat_lt hn
  refine j_aload_n d_Log_dropLatest_0 rfl ?_
  refine j_getv (v := nI sz) d_Log_dropLatest_1 jf_Log_28 rfl rfl hsz ?_
  refine j_if_leN_f (tgt := 25) d_Log_dropLatest_4 (by decide) (by omega) (by omega) ?_
  refine j_aload_n d_Log_dropLatest_7 rfl ?_
  refine j_aload_n d_Log_dropLatest_8 rfl ?_
  refine j_callVs (As := []) (st := [.ref 3]) (x_latest hnx hn) d_Log_dropLatest_9 (by decide) jm_Log_latest jk_Log_37 ji_Log_latest js_Log_latest rfl (by decide) rfl rfl (Nat.le_of_ble_eq_true rfl) rfl ?_
  refine j_putv (h' := jup2 h 3 1 (nI (lat nx))) d_Log_dropLatest_12 jf_Log_20 rfl rfl rfl ?_
  refine j_aload_n d_Log_dropLatest_15 rfl ?_
  refine j_dup d_Log_dropLatest_16 rfl ?_
  refine j_getv (v := nI sz) d_Log_dropLatest_17 jf_Log_28 rfl rfl (by simp [jup2]; exact hsz) ?_
  refine j_iconst (v := nI 1) d_Log_dropLatest_20 rfl ?_
  refine j_isubN d_Log_dropLatest_21 (by omega) ?_
  refine j_putv (h' := jup2 (jup2 h 3 1 (nI (lat nx))) 3 0 (nI (sz - 1))) d_Log_dropLatest_22 jf_Log_28 rfl rfl rfl ?_
  subst hres
  exact j_retv d_Log_dropLatest_25 rfl
def nxt (nx : Nat) : Nat := if nx = 19 then 0 else nx + 1
def noteH (h : jH) (s nx sz : Nat) (T : jT) : jH := jup2 (jup2 (sT (jup2 h 4 nx (nI s)) (6 + 2 * nx) T) 3 1 (nI (nxt nx))) 3 0 (nI (min (sz + 1) 20))
theorem x_note {n : jN} {h : jH} {s nx sz o : Nat} {T : jT} (ho : isT o) (hnx : h 3 1 = nI nx) (hn : nx < 20) (hsz : h 3 0 = nI sz) (hs1 : sz ≤ 20) (hr : rep h o T) (hT : tw T) (hne : o ≠ 6 + 2 * nx) (ho4 : o ≠ 4) (ho5 : o + 1 ≠ 4) : jC n 1 jy_Log_note jc_Log_note 3 none [.ref 3, .int (nI s), .ref o] h none (noteH h s nx sz T) := by
  refine jC_of jm_Log_note (L := [some (.ref 3), some (.int (nI s)), some (.ref o)]) (Nat.le_of_ble_eq_true rfl) rfl trivial ?_
  generalize hres : ((none, noteH h s nx sz T) : Option Value × jH) = res
  have htn := isT_log nx hn
  have ho3 : (3 : Nat) ≠ 6 + 2 * nx ∧ (3 : Nat) ≠ 6 + 2 * nx + 1 := by omega
  have hr2 : rep (jup2 h 4 nx (nI s)) o T := ⟨by simp only [jup2]; rw [if_neg ho4]; exact hr.1, fun i hi => by simp only [jup2]; rw [if_neg ho5]; exact hr.2 i hi⟩
  have hs3 : ∀ k, (sT (jup2 h 4 nx (nI s)) (6 + 2 * nx) T) 3 k = h 3 k := fun k => by rw [sT_f ho3.1 ho3.2]; rfl
  refine j_aload_n d_Log_note_0 rfl ?_
  refine j_getr (b := 4) d_Log_note_1 jf_Log_9 rfl rfl rfl (by decide) ?_
  refine j_aload_n d_Log_note_4 rfl ?_
  refine j_getv (v := nI nx) d_Log_note_5 jf_Log_20 rfl rfl hnx ?_
  refine j_iload_n d_Log_note_8 rfl ?_
  refine j_iastN (h' := jup2 h 4 nx (nI s)) d_Log_note_9 rfl (by omega) (by decide) rfl ?_
  refine j_aload_n d_Log_note_10 rfl ?_
  refine j_getr (b := 5) d_Log_note_11 jf_Log_15 rfl rfl rfl (by decide) ?_
  refine j_aload_n d_Log_note_14 rfl ?_
  refine j_getv (v := nI nx) d_Log_note_15 jf_Log_20 rfl rfl (by exact hnx) ?_
  refine j_aaldN (b := 6 + 2 * nx) d_Log_note_18 rfl (by decide) (by omega) (by decide) (jrf_log _ hn) (by omega) ?_
  refine j_aload_n d_Log_note_19 rfl ?_
  refine j_callVn (As := [.ref o]) (st := []) (x_become htn ho hne hr2 hT) d_Log_note_20 (by decide) jm_Table_become jk_Log_24 ji_Table_become js_Table_become htn.1 (by decide) rfl rfl (Nat.le_of_ble_eq_true rfl) rfl ?_
  refine j_aload_n d_Log_note_23 rfl ?_
  refine j_aload_n d_Log_note_24 rfl ?_
  refine j_getv (v := nI nx) d_Log_note_25 jf_Log_20 rfl rfl ((hs3 1).trans hnx) ?_
  refine j_bipush (v := nI 19) d_Log_note_28 (by decide) ?_
  refine j_icmp_neN (tgt := 37) d_Log_note_30 (by decide) (by omega) (by omega) (fun c => ?_) (fun c => ?_)
  · refine j_aload_n d_Log_note_37 rfl ?_
    refine j_getv (v := nI nx) d_Log_note_38 jf_Log_20 rfl rfl ((hs3 1).trans hnx) ?_
    refine j_iconst (v := nI 1) d_Log_note_41 rfl ?_
    refine j_iaddN d_Log_note_42 ?_
    refine j_top (w := nI (nxt nx)) (congrArg nI (by first | rw [nxt, if_pos (by omega)] | rw [nxt, if_neg (by omega)])) ?_
    refine j_putv (h' := jup2 (sT (jup2 h 4 nx (nI s)) (6 + 2 * nx) T) 3 1 (nI (nxt nx))) d_Log_note_43 jf_Log_20 rfl rfl rfl ?_
    refine j_aload_n d_Log_note_46 rfl ?_
    refine j_aload_n d_Log_note_47 rfl ?_
    refine j_getv (v := nI sz) d_Log_note_48 jf_Log_28 rfl rfl (show jup2 (sT (jup2 h 4 nx (nI s)) (6 + 2 * nx) T) 3 1 (nI (nxt nx)) 3 0 = nI sz from (hs3 0).trans hsz) ?_
    refine j_iconst (v := nI 1) d_Log_note_51 rfl ?_
    refine j_iaddN d_Log_note_52 ?_
    refine j_bipush (v := nI 20) d_Log_note_53 (by decide) ?_
    refine j_callSs (As := [.int (nI (sz + 1)), .int (nI 20)]) (st := [.ref 3]) (x_min (by omega) (by omega)) d_Log_note_55 (by decide) jm_J_min jk_Log_31 js_J_min rfl (Nat.le_of_ble_eq_true rfl) rfl ?_
    refine j_putv (h' := jup2 (jup2 (sT (jup2 h 4 nx (nI s)) (6 + 2 * nx) T) 3 1 (nI (nxt nx))) 3 0 (nI (min (sz + 1) 20))) d_Log_note_58 jf_Log_28 rfl rfl rfl ?_
    subst hres
    exact j_retv d_Log_note_61 rfl
  · refine j_iconst (v := nI 0) d_Log_note_33 rfl ?_
    refine j_goto (tgt := 43) d_Log_note_34 (by decide) ?_
    refine j_top (w := nI (nxt nx)) (congrArg nI (by first | rw [nxt, if_pos (by omega)] | rw [nxt, if_neg (by omega)])) ?_
    refine j_putv (h' := jup2 (sT (jup2 h 4 nx (nI s)) (6 + 2 * nx) T) 3 1 (nI (nxt nx))) d_Log_note_43 jf_Log_20 rfl rfl rfl ?_
    refine j_aload_n d_Log_note_46 rfl ?_
    refine j_aload_n d_Log_note_47 rfl ?_
    refine j_getv (v := nI sz) d_Log_note_48 jf_Log_28 rfl rfl (show jup2 (sT (jup2 h 4 nx (nI s)) (6 + 2 * nx) T) 3 1 (nI (nxt nx)) 3 0 = nI sz from (hs3 0).trans hsz) ?_
    refine j_iconst (v := nI 1) d_Log_note_51 rfl ?_
    refine j_iaddN d_Log_note_52 ?_
    refine j_bipush (v := nI 20) d_Log_note_53 (by decide) ?_
    refine j_callSs (As := [.int (nI (sz + 1)), .int (nI 20)]) (st := [.ref 3]) (x_min (by omega) (by omega)) d_Log_note_55 (by decide) jm_J_min jk_Log_31 js_J_min rfl (Nat.le_of_ble_eq_true rfl) rfl ?_
    refine j_putv (h' := jup2 (jup2 (sT (jup2 h 4 nx (nI s)) (6 + 2 * nx) T) 3 1 (nI (nxt nx))) 3 0 (nI (min (sz + 1) 20))) d_Log_note_58 jf_Log_28 rfl rfl rfl ?_
    subst hres
    exact j_retv d_Log_note_61 rfl

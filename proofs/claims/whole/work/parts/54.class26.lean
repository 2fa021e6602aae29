theorem jsort {t : Int32} (h : jin t (-1) 1 = true) : t = -1 ∨ t = nI 0 ∨ t = nI 1 := by
  simp only [jin, decide_eq_true_eq] at h
  have h2 : t.toInt = -1 ∨ t.toInt = 0 ∨ t.toInt = 1 := by omega
  rcases h2 with e | e | e
  · left
    exact Int32.toInt_inj.mp e
  · right; left
    exact Int32.toInt_inj.mp e
  · right; right
    exact Int32.toInt_inj.mp e
theorem jout_s (t : Int32) : decide (t < -1 ∨ nI 1 < t) = !(jin t (-1) 1) := jin_out rfl rfl
theorem x_sheet_bad {n : jN} {h : jH} {s t m : Int32} (hb : jokSheet s t m = false) : jC n 2 jy_Main_sheet jc_Main_sheet 4 (some .int) [.ref 0, .int s, .int t, .int m] h (some (.int (jbSheet s t m))) h := by
  refine jC_of jm_Main_sheet (L := [some (.ref 0), some (.int s), some (.int t), some (.int m)]) (Nat.le_of_ble_eq_true rfl) rfl trivial ?_
  generalize hres : (((some (.int (jbSheet s t m))), h) : Option Value × jH) = res
  refine j_iload_n d_Main_sheet_0 rfl ?_
  refine j_callSs (As := [.int s]) (st := []) x_noSheet d_Main_sheet_1 (by decide) jm_Main_noSheet jk_Main_138 js_Main_noSheet rfl (Nat.le_of_ble_eq_true rfl) rfl ?_
  refine j_if_neB (tgt := 16) d_Main_sheet_4 (by decide) (fun c1 => ?_) (fun c1 => ?_)
  · refine j_iconst (v := -1) d_Main_sheet_16 rfl ?_
    subst hres
    exact j_reti d_Main_sheet_17 (by rw [jbSheet, show js4 s = false from by simpa using c1]; rfl) rfl
  · refine j_iload_n d_Main_sheet_7 rfl ?_
    refine j_iconst (v := -1) d_Main_sheet_8 rfl ?_
    refine j_iconst (v := nI 1) d_Main_sheet_9 rfl ?_
    refine j_callSs (As := [.int t, .int (-1), .int (nI 1)]) (st := []) x_outOf d_Main_sheet_10 (by decide) jm_Main_outOf jk_Main_69 js_Main_outOf rfl (Nat.le_of_ble_eq_true rfl) rfl ?_
    refine j_if_eqB (tgt := 18) d_Main_sheet_13 (by decide) (fun c2 => ?_) (fun c2 => ?_)
    · rw [jout_s] at c2
      have c2b : jin t (-1) 1 = true := by simpa using c2
      have c1b : js4 s = true := by simpa using c1
      refine j_iload_n d_Main_sheet_18 rfl ?_
      refine j_iconst (v := -1) d_Main_sheet_19 rfl ?_
      refine j_icmp_ne (tgt := 36) d_Main_sheet_20 (by decide) (fun c3 => ?_) (fun c3 => ?_)
      · have ht0 : decide (t < 0) = false := by rcases jsort c2b with e | e | e; exact absurd e c3; rw [e]; decide; rw [e]; decide
        refine j_iload_n d_Main_sheet_36 rfl ?_
        refine j_bipush (v := nI 40) d_Main_sheet_37 (by decide) ?_
        refine j_icmp_le (tgt := 44) d_Main_sheet_39 (by decide) (fun c4 => ?_) (fun c4 => ?_)
        · have h40 : ¬ nI 40 < m := by first | exact c4 | exact Int32.not_lt.mpr c4
          refine j_iload_n d_Main_sheet_44 rfl ?_
          refine j_if_ge (tgt := 51) d_Main_sheet_45 (by decide) (fun c5 => ?_) (fun c5 => ?_)
          · have hm0 : 0 ≤ m := by first | exact c5 | exact Int32.not_lt.mp c5
            exact absurd hb (by rw [jokSheet, c1b, c2b, ht0, decide_eq_false h40, decide_eq_true hm0]; decide)
          · have hm0 : ¬ 0 ≤ m := by first | exact c5 | exact Int32.not_le.mpr c5
            refine j_bipush (v := -14) d_Main_sheet_48 (by decide) ?_
            subst hres
            exact j_reti d_Main_sheet_50 (by rw [jbSheet, c1b, c2b, ht0, decide_eq_false h40]; rfl) rfl
        · have h40 : nI 40 < m := by first | exact c4 | exact Int32.not_le.mp c4
          refine j_iconst (v := -1) d_Main_sheet_42 rfl ?_
          subst hres
          exact j_reti d_Main_sheet_43 (by rw [jbSheet, c1b, c2b, ht0, decide_eq_true h40]; rfl) rfl
      · subst c3
        exact absurd hb (by rw [jokSheet, c1b, c2b, show decide ((-1 : Int32) < 0) = true from rfl]; simp)
    · refine j_iconst (v := -1) d_Main_sheet_16 rfl ?_
      subst hres
      exact j_reti d_Main_sheet_17 (by rw [jout_s] at c2; rw [jbSheet, show jin t (-1) 1 = false from by simpa using c2]; cases js4 s <;> rfl) rfl
theorem x_sheetA {n : jN} {h : jH} {s : Nat} {m : Int32} (hs : s < 4) : jC n 2 jy_Main_sheet jc_Main_sheet 4 (some .int) [.ref 0, .int (nI s), .int (-1), .int m] h (some (.int (nI 1))) (sSh h (127 + 2 * s) (-1) 0 (fun z => if z < 0 then 0 else h (127 + 2 * s + 1) z)) := by
  refine jC_of jm_Main_sheet (L := [some (.ref 0), some (.int (nI s)), some (.int (-1)), some (.int m)]) (Nat.le_of_ble_eq_true rfl) rfl trivial ?_
  generalize hres : (((some (.int (nI 1))), sSh h (127 + 2 * s) (-1) 0 (fun z => if z < 0 then 0 else h (127 + 2 * s + 1) z)) : Option Value × jH) = res
  refine j_iload_n d_Main_sheet_0 rfl ?_
  refine j_callSs (As := [.int (nI s)]) (st := []) x_noSheet d_Main_sheet_1 (by decide) jm_Main_noSheet jk_Main_138 js_Main_noSheet rfl (Nat.le_of_ble_eq_true rfl) rfl ?_
  refine j_if_neB_f (tgt := 16) d_Main_sheet_4 (by decide) (s4_n hs) ?_
  refine j_iload_n d_Main_sheet_7 rfl ?_
  refine j_iconst (v := -1) d_Main_sheet_8 rfl ?_
  refine j_iconst (v := nI 1) d_Main_sheet_9 rfl ?_
  refine j_callSs (As := [.int (-1), .int (-1), .int (nI 1)]) (st := []) x_outOf d_Main_sheet_10 (by decide) jm_Main_outOf jk_Main_69 js_Main_outOf rfl (Nat.le_of_ble_eq_true rfl) rfl ?_
  refine j_if_eqB_t (tgt := 18) d_Main_sheet_13 (by decide) (by decide) ?_
  refine j_iload_n d_Main_sheet_18 rfl ?_
  refine j_iconst (v := -1) d_Main_sheet_19 rfl ?_
  refine j_icmp_ne_f (tgt := 36) d_Main_sheet_20 (by decide) rfl ?_
  refine j_aload_n d_Main_sheet_23 rfl ?_
  refine j_getr (b := 2) d_Main_sheet_24 jf_Main_17 rfl rfl rfl (by decide) ?_
  refine j_iload_n d_Main_sheet_27 rfl ?_
  refine j_aaldN (b := 127 + 2 * s) d_Main_sheet_28 rfl (by decide) (by omega) (by decide) (jrf_sheet _ (by omega)) (by omega) ?_
  refine j_iconst (v := -1) d_Main_sheet_29 rfl ?_
  refine j_iconst (v := nI 0) d_Main_sheet_30 rfl ?_
  refine j_callVn (As := [.int (-1), .int (nI 0)]) (st := []) (x_begin (so := -1) (m := 0) (isU_sheet s hs) (by omega)) d_Main_sheet_31 (by decide) jm_Sheet_begin jk_Main_313 ji_Sheet_begin js_Sheet_begin (isU_sheet s (by omega)).1 (by decide) rfl rfl (Nat.le_of_ble_eq_true rfl) rfl ?_
  refine j_iconst (v := nI 1) d_Main_sheet_34 rfl ?_
  subst hres
  exact j_reti d_Main_sheet_35 rfl rfl
theorem x_sheetB {n : jN} {h : jH} {s t m : Nat} (hs : s < 4) (ht : t < 2) (hm : m ≤ 40) : jC n 2 jy_Main_sheet jc_Main_sheet 4 (some .int) [.ref 0, .int (nI s), .int (nI t), .int (nI m)] h (some (.int (nI 1))) (sSh h (127 + 2 * s) (nI t) m (fun z => if z < m then 0 else h (127 + 2 * s + 1) z)) := by
  refine jC_of jm_Main_sheet (L := [some (.ref 0), some (.int (nI s)), some (.int (nI t)), some (.int (nI m))]) (Nat.le_of_ble_eq_true rfl) rfl trivial ?_
  generalize hres : (((some (.int (nI 1))), sSh h (127 + 2 * s) (nI t) m (fun z => if z < m then 0 else h (127 + 2 * s + 1) z)) : Option Value × jH) = res
  have ht3 : decide (nI t < -1 ∨ nI 1 < nI t) = false := by rcases (show t = 0 ∨ t = 1 by omega) with e | e <;> subst e <;> decide
  have ht4 : ¬ nI t = -1 := by rcases (show t = 0 ∨ t = 1 by omega) with e | e <;> subst e <;> decide
  refine j_iload_n d_Main_sheet_0 rfl ?_
  refine j_callSs (As := [.int (nI s)]) (st := []) x_noSheet d_Main_sheet_1 (by decide) jm_Main_noSheet jk_Main_138 js_Main_noSheet rfl (Nat.le_of_ble_eq_true rfl) rfl ?_
  refine j_if_neB_f (tgt := 16) d_Main_sheet_4 (by decide) (s4_n hs) ?_
  refine j_iload_n d_Main_sheet_7 rfl ?_
  refine j_iconst (v := -1) d_Main_sheet_8 rfl ?_
  refine j_iconst (v := nI 1) d_Main_sheet_9 rfl ?_
  refine j_callSs (As := [.int (nI t), .int (-1), .int (nI 1)]) (st := []) x_outOf d_Main_sheet_10 (by decide) jm_Main_outOf jk_Main_69 js_Main_outOf rfl (Nat.le_of_ble_eq_true rfl) rfl ?_
  refine j_if_eqB_t (tgt := 18) d_Main_sheet_13 (by decide) ht3 ?_
  refine j_iload_n d_Main_sheet_18 rfl ?_
  refine j_iconst (v := -1) d_Main_sheet_19 rfl ?_
  refine j_icmp_ne_t (tgt := 36) d_Main_sheet_20 (by decide) ht4 ?_
  refine j_iload_n d_Main_sheet_36 rfl ?_
  refine j_bipush (v := nI 40) d_Main_sheet_37 (by decide) ?_
  refine j_icmp_leN_t (tgt := 44) d_Main_sheet_39 (by decide) (by omega) (by omega) (by omega) ?_
  refine j_iload_n d_Main_sheet_44 rfl ?_
  refine j_if_geN_t (tgt := 51) d_Main_sheet_45 (by decide) (by omega) trivial ?_
  refine j_aload_n d_Main_sheet_51 rfl ?_
  refine j_getr (b := 2) d_Main_sheet_52 jf_Main_17 rfl rfl rfl (by decide) ?_
  refine j_iload_n d_Main_sheet_55 rfl ?_
  refine j_aaldN (b := 127 + 2 * s) d_Main_sheet_56 rfl (by decide) (by omega) (by decide) (jrf_sheet _ (by omega)) (by omega) ?_
  refine j_iload_n d_Main_sheet_57 rfl ?_
  refine j_iload_n d_Main_sheet_58 rfl ?_
  refine j_callVn (As := [.int (nI t), .int (nI m)]) (st := []) (x_begin (so := nI t) (m := m) (isU_sheet s hs) hm) d_Main_sheet_59 (by decide) jm_Sheet_begin jk_Main_313 ji_Sheet_begin js_Sheet_begin (isU_sheet s (by omega)).1 (by decide) rfl rfl (Nat.le_of_ble_eq_true rfl) rfl ?_
  refine j_iconst (v := nI 1) d_Main_sheet_62 rfl ?_
  subst hres
  exact j_reti d_Main_sheet_63 rfl rfl
theorem x_cell_bad {n : jN} {h : jH} {s i : Int32} {v : Int32} (hb : js4 s = false) : jC n 2 jy_Main_cell jc_Main_cell 4 (some .int) [.ref 0, .int s, .int i, .int v] h (some (.int (-1))) h := by
  refine jC_of jm_Main_cell (L := [some (.ref 0), some (.int s), some (.int i), some (.int v)]) (Nat.le_of_ble_eq_true rfl) rfl trivial ?_
  generalize hres : (((some (.int (-1))), h) : Option Value × jH) = res
  refine j_iload_n d_Main_cell_0 rfl ?_
  refine j_callSs (As := [.int s]) (st := []) x_noSheet d_Main_cell_1 (by decide) jm_Main_noSheet jk_Main_138 js_Main_noSheet rfl (Nat.le_of_ble_eq_true rfl) rfl ?_
  refine j_if_eqB_f (tgt := 9) d_Main_cell_4 (by decide) (by rw [hb]; rfl) ?_
  refine j_iconst (v := -1) d_Main_cell_7 rfl ?_
  subst hres
  exact j_reti d_Main_cell_8 rfl rfl
theorem x_cell_miss {n : jN} {h : jH} {So : Nat → Int32} {Sz : Nat → Nat} {Nu : Nat → Nat → Int32} (hsh : shl h So Sz Nu) {s : Nat} {i : Int32} {v : Int32} (hs : s < 4) (hso : So s = -1) : jC n 2 jy_Main_cell jc_Main_cell 4 (some .int) [.ref 0, .int (nI s), .int i, .int v] h (some (.int (-11))) h := by
  refine jC_of jm_Main_cell (L := [some (.ref 0), some (.int (nI s)), some (.int i), some (.int v)]) (Nat.le_of_ble_eq_true rfl) rfl trivial ?_
  generalize hres : (((some (.int (-11))), h) : Option Value × jH) = res
  obtain ⟨hsh1, hsh2, hsh3, hsh4, hsh5⟩ := hsh s (by omega)
  refine j_iload_n d_Main_cell_0 rfl ?_
  refine j_callSs (As := [.int (nI s)]) (st := []) x_noSheet d_Main_cell_1 (by decide) jm_Main_noSheet jk_Main_138 js_Main_noSheet rfl (Nat.le_of_ble_eq_true rfl) rfl ?_
  refine j_if_eqB_t (tgt := 9) d_Main_cell_4 (by decide) (s4_n hs) ?_
  refine j_aload_n d_Main_cell_9 rfl ?_
  refine j_getr (b := 2) d_Main_cell_10 jf_Main_17 rfl rfl rfl (by decide) ?_
  refine j_iload_n d_Main_cell_13 rfl ?_
  refine j_aaldN (b := 127 + 2 * s) d_Main_cell_14 rfl (by decide) (by omega) (by decide) (jrf_sheet _ (by omega)) (by omega) ?_
  refine j_callVs (As := []) (st := []) (x_isMissingV (isU_sheet s (by omega)) hsh1) d_Main_cell_15 (by decide) jm_Sheet_isMissing jk_Main_141 ji_Sheet_isMissing js_Sheet_isMissing (isU_sheet s (by omega)).1 (by decide) rfl rfl (Nat.le_of_ble_eq_true rfl) rfl ?_
  refine j_if_eqB_f (tgt := 24) d_Main_cell_18 (by decide) (decide_eq_true hso) ?_
  refine j_bipush (v := -11) d_Main_cell_21 (by decide) ?_
  subst hres
  exact j_reti d_Main_cell_23 rfl rfl
theorem x_cell_out {n : jN} {h : jH} {So : Nat → Int32} {Sz : Nat → Nat} {Nu : Nat → Nat → Int32} (hsh : shl h So Sz Nu) {s : Nat} {i : Int32} {v : Int32} (hs : s < 4) (hso : ¬ So s = -1) (hb : jhas (Sz s) i (nI 1) = false) : jC n 2 jy_Main_cell jc_Main_cell 4 (some .int) [.ref 0, .int (nI s), .int i, .int v] h (some (.int (-12))) h := by
  refine jC_of jm_Main_cell (L := [some (.ref 0), some (.int (nI s)), some (.int i), some (.int v)]) (Nat.le_of_ble_eq_true rfl) rfl trivial ?_
  generalize hres : (((some (.int (-12))), h) : Option Value × jH) = res
  obtain ⟨hsh1, hsh2, hsh3, hsh4, hsh5⟩ := hsh s (by omega)
  refine j_iload_n d_Main_cell_0 rfl ?_
  refine j_callSs (As := [.int (nI s)]) (st := []) x_noSheet d_Main_cell_1 (by decide) jm_Main_noSheet jk_Main_138 js_Main_noSheet rfl (Nat.le_of_ble_eq_true rfl) rfl ?_
  refine j_if_eqB_t (tgt := 9) d_Main_cell_4 (by decide) (s4_n hs) ?_
  refine j_aload_n d_Main_cell_9 rfl ?_
  refine j_getr (b := 2) d_Main_cell_10 jf_Main_17 rfl rfl rfl (by decide) ?_
  refine j_iload_n d_Main_cell_13 rfl ?_
  refine j_aaldN (b := 127 + 2 * s) d_Main_cell_14 rfl (by decide) (by omega) (by decide) (jrf_sheet _ (by omega)) (by omega) ?_
  refine j_callVs (As := []) (st := []) (x_isMissingV (isU_sheet s (by omega)) hsh1) d_Main_cell_15 (by decide) jm_Sheet_isMissing jk_Main_141 ji_Sheet_isMissing js_Sheet_isMissing (isU_sheet s (by omega)).1 (by decide) rfl rfl (Nat.le_of_ble_eq_true rfl) rfl ?_
  refine j_if_eqB_t (tgt := 24) d_Main_cell_18 (by decide) (decide_eq_false hso) ?_
  refine j_aload_n d_Main_cell_24 rfl ?_
  refine j_getr (b := 2) d_Main_cell_25 jf_Main_17 rfl rfl rfl (by decide) ?_
  refine j_iload_n d_Main_cell_28 rfl ?_
  refine j_aaldN (b := 127 + 2 * s) d_Main_cell_29 rfl (by decide) (by omega) (by decide) (jrf_sheet _ (by omega)) (by omega) ?_
  refine j_iload_n d_Main_cell_30 rfl ?_
  refine j_iconst (v := nI 1) d_Main_cell_31 rfl ?_
  refine j_callVs (As := [.int i, .int (nI 1)]) (st := []) (x_lacks4 (isU_sheet s (by omega)) hsh2) d_Main_cell_32 (by decide) jm_Sheet_lacks jk_Main_145 ji_Sheet_lacks js_Sheet_lacks (isU_sheet s (by omega)).1 (by decide) rfl rfl (Nat.le_of_ble_eq_true rfl) rfl ?_
  refine j_if_eqB_f (tgt := 41) d_Main_cell_35 (by decide) (by rw [hb]; rfl) ?_
  refine j_bipush (v := -12) d_Main_cell_38 (by decide) ?_
  subst hres
  exact j_reti d_Main_cell_40 rfl rfl
theorem x_cell {n : jN} {h : jH} {So : Nat → Int32} {Sz : Nat → Nat} {Nu : Nat → Nat → Int32} (hsh : shl h So Sz Nu) {s i : Nat} {v : Int32} (hs : s < 4) (hso : ¬ So s = -1) (hi : i < Sz s) : jC n 2 jy_Main_cell jc_Main_cell 4 (some .int) [.ref 0, .int (nI s), .int (nI i), .int v] h (some (.int (nI 1))) (jup2 h (127 + 2 * s + 1) i (jlow (So s) v)) := by
  refine jC_of jm_Main_cell (L := [some (.ref 0), some (.int (nI s)), some (.int (nI i)), some (.int v)]) (Nat.le_of_ble_eq_true rfl) rfl trivial ?_
  generalize hres : (((some (.int (nI 1))), jup2 h (127 + 2 * s + 1) i (jlow (So s) v)) : Option Value × jH) = res
  obtain ⟨hsh1, hsh2, hsh3, hsh4, hsh5⟩ := hsh s (by omega)
  refine j_iload_n d_Main_cell_0 rfl ?_
  refine j_callSs (As := [.int (nI s)]) (st := []) x_noSheet d_Main_cell_1 (by decide) jm_Main_noSheet jk_Main_138 js_Main_noSheet rfl (Nat.le_of_ble_eq_true rfl) rfl ?_
  refine j_if_eqB_t (tgt := 9) d_Main_cell_4 (by decide) (s4_n hs) ?_
  refine j_aload_n d_Main_cell_9 rfl ?_
  refine j_getr (b := 2) d_Main_cell_10 jf_Main_17 rfl rfl rfl (by decide) ?_
  refine j_iload_n d_Main_cell_13 rfl ?_
  refine j_aaldN (b := 127 + 2 * s) d_Main_cell_14 rfl (by decide) (by omega) (by decide) (jrf_sheet _ (by omega)) (by omega) ?_
  refine j_callVs (As := []) (st := []) (x_isMissingV (isU_sheet s (by omega)) hsh1) d_Main_cell_15 (by decide) jm_Sheet_isMissing jk_Main_141 ji_Sheet_isMissing js_Sheet_isMissing (isU_sheet s (by omega)).1 (by decide) rfl rfl (Nat.le_of_ble_eq_true rfl) rfl ?_
  refine j_if_eqB_t (tgt := 24) d_Main_cell_18 (by decide) (decide_eq_false hso) ?_
  refine j_aload_n d_Main_cell_24 rfl ?_
  refine j_getr (b := 2) d_Main_cell_25 jf_Main_17 rfl rfl rfl (by decide) ?_
  refine j_iload_n d_Main_cell_28 rfl ?_
  refine j_aaldN (b := 127 + 2 * s) d_Main_cell_29 rfl (by decide) (by omega) (by decide) (jrf_sheet _ (by omega)) (by omega) ?_
  refine j_iload_n d_Main_cell_30 rfl ?_
  refine j_iconst (v := nI 1) d_Main_cell_31 rfl ?_
  refine j_callVs (As := [.int (nI i), .int (nI 1)]) (st := []) (x_lacks4 (isU_sheet s (by omega)) hsh2) d_Main_cell_32 (by decide) jm_Sheet_lacks jk_Main_145 ji_Sheet_lacks js_Sheet_lacks (isU_sheet s (by omega)).1 (by decide) rfl rfl (Nat.le_of_ble_eq_true rfl) rfl ?_
  refine j_if_eqB_t (tgt := 41) d_Main_cell_35 (by decide) (jhas_y hsh4 (by omega)) ?_
  refine j_aload_n d_Main_cell_41 rfl ?_
  refine j_getr (b := 2) d_Main_cell_42 jf_Main_17 rfl rfl rfl (by decide) ?_
  refine j_iload_n d_Main_cell_45 rfl ?_
  refine j_aaldN (b := 127 + 2 * s) d_Main_cell_46 rfl (by decide) (by omega) (by decide) (jrf_sheet _ (by omega)) (by omega) ?_
  refine j_iload_n d_Main_cell_47 rfl ?_
  refine j_iload_n d_Main_cell_48 rfl ?_
  refine j_callVn (As := [.int (nI i), .int v]) (st := []) (x_writeV (isU_sheet s hs) (by omega) hsh1) d_Main_cell_49 (by decide) jm_Sheet_write jk_Main_159 ji_Sheet_write js_Sheet_write (isU_sheet s (by omega)).1 (by decide) rfl rfl (Nat.le_of_ble_eq_true rfl) rfl ?_
  refine j_iconst (v := nI 1) d_Main_cell_52 rfl ?_
  subst hres
  exact j_reti d_Main_cell_53 rfl rfl
theorem x_item_bad {n : jN} {h : jH} {s i : Int32} (hb : js4 s = false) : jC n 2 jy_Main_item jc_Main_item 3 (some .long) [.ref 0, .int s, .int i] h (some (.long (-9223372036854775808))) h := by
  refine jC_of jm_Main_item (L := [some (.ref 0), some (.int s), some (.int i)]) (Nat.le_of_ble_eq_true rfl) rfl trivial ?_
  generalize hres : (((some (.long (-9223372036854775808))), h) : Option Value × jH) = res
  refine j_iload_n d_Main_item_0 rfl ?_
  refine j_callSs (As := [.int s]) (st := []) x_noSheet d_Main_item_1 (by decide) jm_Main_noSheet jk_Main_138 js_Main_noSheet rfl (Nat.le_of_ble_eq_true rfl) rfl ?_
  refine j_if_neB_t (tgt := 33) d_Main_item_4 (by decide) (by rw [hb]; rfl) ?_
  refine j_ldc2 (v := -9223372036854775808) d_Main_item_33 jk_Main_316 ?_
  subst hres
  exact j_retl d_Main_item_36 rfl rfl
theorem x_item_miss {n : jN} {h : jH} {So : Nat → Int32} {Sz : Nat → Nat} {Nu : Nat → Nat → Int32} (hsh : shl h So Sz Nu) {s : Nat} {i : Int32} (hs : s < 4) (hso : So s = -1) : jC n 2 jy_Main_item jc_Main_item 3 (some .long) [.ref 0, .int (nI s), .int i] h (some (.long (-9223372036854775808))) h := by
  refine jC_of jm_Main_item (L := [some (.ref 0), some (.int (nI s)), some (.int i)]) (Nat.le_of_ble_eq_true rfl) rfl trivial ?_
  generalize hres : (((some (.long (-9223372036854775808))), h) : Option Value × jH) = res
  obtain ⟨hsh1, hsh2, hsh3, hsh4, hsh5⟩ := hsh s (by omega)
  refine j_iload_n d_Main_item_0 rfl ?_
  refine j_callSs (As := [.int (nI s)]) (st := []) x_noSheet d_Main_item_1 (by decide) jm_Main_noSheet jk_Main_138 js_Main_noSheet rfl (Nat.le_of_ble_eq_true rfl) rfl ?_
  refine j_if_neB_f (tgt := 33) d_Main_item_4 (by decide) (s4_n hs) ?_
  refine j_aload_n d_Main_item_7 rfl ?_
  refine j_getr (b := 2) d_Main_item_8 jf_Main_17 rfl rfl rfl (by decide) ?_
  refine j_iload_n d_Main_item_11 rfl ?_
  refine j_aaldN (b := 127 + 2 * s) d_Main_item_12 rfl (by decide) (by omega) (by decide) (jrf_sheet _ (by omega)) (by omega) ?_
  refine j_callVs (As := []) (st := []) (x_isMissingV (isU_sheet s (by omega)) hsh1) d_Main_item_13 (by decide) jm_Sheet_isMissing jk_Main_141 ji_Sheet_isMissing js_Sheet_isMissing (isU_sheet s (by omega)).1 (by decide) rfl rfl (Nat.le_of_ble_eq_true rfl) rfl ?_
  refine j_if_neB_t (tgt := 33) d_Main_item_16 (by decide) (decide_eq_true hso) ?_
  refine j_ldc2 (v := -9223372036854775808) d_Main_item_33 jk_Main_316 ?_
  subst hres
  exact j_retl d_Main_item_36 rfl rfl
theorem x_item_out {n : jN} {h : jH} {So : Nat → Int32} {Sz : Nat → Nat} {Nu : Nat → Nat → Int32} (hsh : shl h So Sz Nu) {s : Nat} {i : Int32} (hs : s < 4) (hso : ¬ So s = -1) (hb : jhas (Sz s) i (nI 1) = false) : jC n 2 jy_Main_item jc_Main_item 3 (some .long) [.ref 0, .int (nI s), .int i] h (some (.long (-9223372036854775808))) h := by
  refine jC_of jm_Main_item (L := [some (.ref 0), some (.int (nI s)), some (.int i)]) (Nat.le_of_ble_eq_true rfl) rfl trivial ?_
  generalize hres : (((some (.long (-9223372036854775808))), h) : Option Value × jH) = res
  obtain ⟨hsh1, hsh2, hsh3, hsh4, hsh5⟩ := hsh s (by omega)
  refine j_iload_n d_Main_item_0 rfl ?_
  refine j_callSs (As := [.int (nI s)]) (st := []) x_noSheet d_Main_item_1 (by decide) jm_Main_noSheet jk_Main_138 js_Main_noSheet rfl (Nat.le_of_ble_eq_true rfl) rfl ?_
  refine j_if_neB_f (tgt := 33) d_Main_item_4 (by decide) (s4_n hs) ?_
  refine j_aload_n d_Main_item_7 rfl ?_
  refine j_getr (b := 2) d_Main_item_8 jf_Main_17 rfl rfl rfl (by decide) ?_
  refine j_iload_n d_Main_item_11 rfl ?_
  refine j_aaldN (b := 127 + 2 * s) d_Main_item_12 rfl (by decide) (by omega) (by decide) (jrf_sheet _ (by omega)) (by omega) ?_
  refine j_callVs (As := []) (st := []) (x_isMissingV (isU_sheet s (by omega)) hsh1) d_Main_item_13 (by decide) jm_Sheet_isMissing jk_Main_141 ji_Sheet_isMissing js_Sheet_isMissing (isU_sheet s (by omega)).1 (by decide) rfl rfl (Nat.le_of_ble_eq_true rfl) rfl ?_
  refine j_if_neB_f (tgt := 33) d_Main_item_16 (by decide) (decide_eq_false hso) ?_
  refine j_aload_n d_Main_item_19 rfl ?_
  refine j_getr (b := 2) d_Main_item_20 jf_Main_17 rfl rfl rfl (by decide) ?_
  refine j_iload_n d_Main_item_23 rfl ?_
  refine j_aaldN (b := 127 + 2 * s) d_Main_item_24 rfl (by decide) (by omega) (by decide) (jrf_sheet _ (by omega)) (by omega) ?_
  refine j_iload_n d_Main_item_25 rfl ?_
  refine j_iconst (v := nI 1) d_Main_item_26 rfl ?_
  refine j_callVs (As := [.int i, .int (nI 1)]) (st := []) (x_lacks4 (isU_sheet s (by omega)) hsh2) d_Main_item_27 (by decide) jm_Sheet_lacks jk_Main_145 ji_Sheet_lacks js_Sheet_lacks (isU_sheet s (by omega)).1 (by decide) rfl rfl (Nat.le_of_ble_eq_true rfl) rfl ?_
  refine j_if_eqB_f (tgt := 37) d_Main_item_30 (by decide) (by rw [hb]; rfl) ?_
  refine j_ldc2 (v := -9223372036854775808) d_Main_item_33 jk_Main_316 ?_
  subst hres
  exact j_retl d_Main_item_36 rfl rfl
theorem x_item {n : jN} {h : jH} {So : Nat → Int32} {Sz : Nat → Nat} {Nu : Nat → Nat → Int32} (hsh : shl h So Sz Nu) {s i : Nat} (hs : s < 4) (hso : ¬ So s = -1) (hi : i < Sz s) : jC n 2 jy_Main_item jc_Main_item 3 (some .long) [.ref 0, .int (nI s), .int (nI i)] h (some (.long ((Nu s i).toInt64))) h := by
  refine jC_of jm_Main_item (L := [some (.ref 0), some (.int (nI s)), some (.int (nI i))]) (Nat.le_of_ble_eq_true rfl) rfl trivial ?_
  generalize hres : (((some (.long ((Nu s i).toInt64))), h) : Option Value × jH) = res
  obtain ⟨hsh1, hsh2, hsh3, hsh4, hsh5⟩ := hsh s (by omega)
  refine j_iload_n d_Main_item_0 rfl ?_
  refine j_callSs (As := [.int (nI s)]) (st := []) x_noSheet d_Main_item_1 (by decide) jm_Main_noSheet jk_Main_138 js_Main_noSheet rfl (Nat.le_of_ble_eq_true rfl) rfl ?_
  refine j_if_neB_f (tgt := 33) d_Main_item_4 (by decide) (s4_n hs) ?_
  refine j_aload_n d_Main_item_7 rfl ?_
  refine j_getr (b := 2) d_Main_item_8 jf_Main_17 rfl rfl rfl (by decide) ?_
  refine j_iload_n d_Main_item_11 rfl ?_
  refine j_aaldN (b := 127 + 2 * s) d_Main_item_12 rfl (by decide) (by omega) (by decide) (jrf_sheet _ (by omega)) (by omega) ?_
  refine j_callVs (As := []) (st := []) (x_isMissingV (isU_sheet s (by omega)) hsh1) d_Main_item_13 (by decide) jm_Sheet_isMissing jk_Main_141 ji_Sheet_isMissing js_Sheet_isMissing (isU_sheet s (by omega)).1 (by decide) rfl rfl (Nat.le_of_ble_eq_true rfl) rfl ?_
  refine j_if_neB_f (tgt := 33) d_Main_item_16 (by decide) (decide_eq_false hso) ?_
  refine j_aload_n d_Main_item_19 rfl ?_
  refine j_getr (b := 2) d_Main_item_20 jf_Main_17 rfl rfl rfl (by decide) ?_
  refine j_iload_n d_Main_item_23 rfl ?_
  refine j_aaldN (b := 127 + 2 * s) d_Main_item_24 rfl (by decide) (by omega) (by decide) (jrf_sheet _ (by omega)) (by omega) ?_
  refine j_iload_n d_Main_item_25 rfl ?_
  refine j_iconst (v := nI 1) d_Main_item_26 rfl ?_
  refine j_callVs (As := [.int (nI i), .int (nI 1)]) (st := []) (x_lacks4 (isU_sheet s (by omega)) hsh2) d_Main_item_27 (by decide) jm_Sheet_lacks jk_Main_145 ji_Sheet_lacks js_Sheet_lacks (isU_sheet s (by omega)).1 (by decide) rfl rfl (Nat.le_of_ble_eq_true rfl) rfl ?_
  refine j_if_eqB_t (tgt := 37) d_Main_item_30 (by decide) (jhas_y hsh4 (by omega)) ?_
  refine j_aload_n d_Main_item_37 rfl ?_
  refine j_getr (b := 2) d_Main_item_38 jf_Main_17 rfl rfl rfl (by decide) ?_
  refine j_iload_n d_Main_item_41 rfl ?_
  refine j_aaldN (b := 127 + 2 * s) d_Main_item_42 rfl (by decide) (by omega) (by decide) (jrf_sheet _ (by omega)) (by omega) ?_
  refine j_getr (b := 127 + 2 * s + 1) d_Main_item_43 jf_Main_318 (isU_sheet s (by omega)).1 rfl (isU_sheet s (by omega)).2.1 (isU_sheet s (by omega)).2.2.2 ?_
  refine j_iload_n d_Main_item_46 rfl ?_
  refine j_ialdN (v := Nu s i) d_Main_item_47 (isU_sheet s (by omega)).2.2.1 (by omega) (by decide) (hsh3 i hi) ?_
  refine j_i2l d_Main_item_48 ?_
  subst hres
  exact j_retl d_Main_item_49 rfl rfl
theorem x_shift_bad {n : jN} {h : jH} {a i b j m : Int32} (hb : (js4 a && js4 b) = false) : jC n 2 jy_Main_shift jc_Main_shift 8 (some .int) [.ref 0, .int a, .int i, .int b, .int j, .int m] h (some (.int (-1))) h := by
  refine jC_of jm_Main_shift (L := [some (.ref 0), some (.int a), some (.int i), some (.int b), some (.int j), some (.int m), none, none]) (Nat.le_of_ble_eq_true rfl) rfl trivial ?_
  generalize hres : (((some (.int (-1))), h) : Option Value × jH) = res
  refine j_iload_n d_Main_shift_0 rfl ?_
  refine j_callSs (As := [.int a]) (st := []) x_noSheet d_Main_shift_1 (by decide) jm_Main_noSheet jk_Main_138 js_Main_noSheet rfl (Nat.le_of_ble_eq_true rfl) rfl ?_
  refine j_if_neB (tgt := 14) d_Main_shift_4 (by decide) (fun c1 => ?_) (fun c1 => ?_)
  · refine j_iconst (v := -1) d_Main_shift_14 rfl ?_
    subst hres
    exact j_reti d_Main_shift_15 rfl rfl
  · refine j_iload_n d_Main_shift_7 rfl ?_
    refine j_callSs (As := [.int b]) (st := []) x_noSheet d_Main_shift_8 (by decide) jm_Main_noSheet jk_Main_138 js_Main_noSheet rfl (Nat.le_of_ble_eq_true rfl) rfl ?_
    refine j_if_eqB (tgt := 16) d_Main_shift_11 (by decide) (fun c2 => ?_) (fun c2 => ?_)
    · exact absurd hb (by simp_all)
    · refine j_iconst (v := -1) d_Main_shift_14 rfl ?_
      subst hres
      exact j_reti d_Main_shift_15 rfl rfl
theorem x_shift_miss {n : jN} {h : jH} {So : Nat → Int32} {Sz : Nat → Nat} {Nu : Nat → Nat → Int32} (hsh : shl h So Sz Nu) {a b : Nat} (ha : a < 4) (hb : b < 4) {i j m : Int32} (hso : So a = -1 ∨ So b = -1) : jC n 2 jy_Main_shift jc_Main_shift 8 (some .int) [.ref 0, .int (nI a), .int i, .int (nI b), .int j, .int m] h (some (.int (-11))) h := by
  refine jC_of jm_Main_shift (L := [some (.ref 0), some (.int (nI a)), some (.int i), some (.int (nI b)), some (.int j), some (.int m), none, none]) (Nat.le_of_ble_eq_true rfl) rfl trivial ?_
  generalize hres : (((some (.int (-11))), h) : Option Value × jH) = res
  obtain ⟨ha1, ha2, ha3, ha4, ha5⟩ := hsh a ha
  obtain ⟨hb1, hb2, hb3, hb4, hb5⟩ := hsh b hb
  refine j_iload_n d_Main_shift_0 rfl ?_
  refine j_callSs (As := [.int (nI a)]) (st := []) x_noSheet d_Main_shift_1 (by decide) jm_Main_noSheet jk_Main_138 js_Main_noSheet rfl (Nat.le_of_ble_eq_true rfl) rfl ?_
  refine j_if_neB_f (tgt := 14) d_Main_shift_4 (by decide) (s4_n ha) ?_
  refine j_iload_n d_Main_shift_7 rfl ?_
  refine j_callSs (As := [.int (nI b)]) (st := []) x_noSheet d_Main_shift_8 (by decide) jm_Main_noSheet jk_Main_138 js_Main_noSheet rfl (Nat.le_of_ble_eq_true rfl) rfl ?_
  refine j_if_eqB_t (tgt := 16) d_Main_shift_11 (by decide) (s4_n hb) ?_
  refine j_aload_n d_Main_shift_16 rfl ?_
  refine j_getr (b := 2) d_Main_shift_17 jf_Main_17 rfl rfl rfl (by decide) ?_
  refine j_iload_n d_Main_shift_20 rfl ?_
  refine j_aaldN (b := 127 + 2 * a) d_Main_shift_21 rfl (by decide) (by omega) (by decide) (jrf_sheet _ (by omega)) (by omega) ?_
  refine j_astore (L' := [some (.ref 0), some (.int (nI a)), some (.int i), some (.int (nI b)), some (.int j), some (.int m), some (.ref (127 + 2 * a)), none]) d_Main_shift_22 (by decide) rfl rfl ?_
  refine j_aload_n d_Main_shift_24 rfl ?_
  refine j_getr (b := 2) d_Main_shift_25 jf_Main_17 rfl rfl rfl (by decide) ?_
  refine j_iload_n d_Main_shift_28 rfl ?_
  refine j_aaldN (b := 127 + 2 * b) d_Main_shift_29 rfl (by decide) (by omega) (by decide) (jrf_sheet _ (by omega)) (by omega) ?_
  refine j_astore (L' := [some (.ref 0), some (.int (nI a)), some (.int i), some (.int (nI b)), some (.int j), some (.int m), some (.ref (127 + 2 * a)), some (.ref (127 + 2 * b))]) d_Main_shift_30 (by decide) rfl rfl ?_
  refine j_aload d_Main_shift_32 rfl ?_
  refine j_callVs (As := []) (st := []) (x_isMissingV (isU_sheet a (by omega)) ha1) d_Main_shift_34 (by decide) jm_Sheet_isMissing jk_Main_141 ji_Sheet_isMissing js_Sheet_isMissing (isU_sheet a (by omega)).1 (by decide) rfl rfl (Nat.le_of_ble_eq_true rfl) rfl ?_
  refine j_if_neB (tgt := 48) d_Main_shift_37 (by decide) (fun c1 => ?_) (fun c1 => ?_)
  · refine j_bipush (v := -11) d_Main_shift_48 (by decide) ?_
    subst hres
    exact j_reti d_Main_shift_50 rfl rfl
  · refine j_aload d_Main_shift_40 rfl ?_
    refine j_callVs (As := []) (st := []) (x_isMissingV (isU_sheet b (by omega)) hb1) d_Main_shift_42 (by decide) jm_Sheet_isMissing jk_Main_141 ji_Sheet_isMissing js_Sheet_isMissing (isU_sheet b (by omega)).1 (by decide) rfl rfl (Nat.le_of_ble_eq_true rfl) rfl ?_
    refine j_if_eqB_f (tgt := 51) d_Main_shift_45 (by decide) (decide_eq_true (hso.resolve_left (of_decide_eq_false c1))) ?_
    refine j_bipush (v := -11) d_Main_shift_48 (by decide) ?_
    subst hres
    exact j_reti d_Main_shift_50 rfl rfl
theorem x_shift_sort {n : jN} {h : jH} {So : Nat → Int32} {Sz : Nat → Nat} {Nu : Nat → Nat → Int32} (hsh : shl h So Sz Nu) {a b : Nat} (ha : a < 4) (hb : b < 4) {i j m : Int32} (hsa : ¬ So a = -1) (hsb : ¬ So b = -1) (he : ¬ So a = So b) : jC n 2 jy_Main_shift jc_Main_shift 8 (some .int) [.ref 0, .int (nI a), .int i, .int (nI b), .int j, .int m] h (some (.int (-13))) h := by
  refine jC_of jm_Main_shift (L := [some (.ref 0), some (.int (nI a)), some (.int i), some (.int (nI b)), some (.int j), some (.int m), none, none]) (Nat.le_of_ble_eq_true rfl) rfl trivial ?_
  generalize hres : (((some (.int (-13))), h) : Option Value × jH) = res
  obtain ⟨ha1, ha2, ha3, ha4, ha5⟩ := hsh a ha
  obtain ⟨hb1, hb2, hb3, hb4, hb5⟩ := hsh b hb
  refine j_iload_n d_Main_shift_0 rfl ?_
  refine j_callSs (As := [.int (nI a)]) (st := []) x_noSheet d_Main_shift_1 (by decide) jm_Main_noSheet jk_Main_138 js_Main_noSheet rfl (Nat.le_of_ble_eq_true rfl) rfl ?_
  refine j_if_neB_f (tgt := 14) d_Main_shift_4 (by decide) (s4_n ha) ?_
  refine j_iload_n d_Main_shift_7 rfl ?_
  refine j_callSs (As := [.int (nI b)]) (st := []) x_noSheet d_Main_shift_8 (by decide) jm_Main_noSheet jk_Main_138 js_Main_noSheet rfl (Nat.le_of_ble_eq_true rfl) rfl ?_
  refine j_if_eqB_t (tgt := 16) d_Main_shift_11 (by decide) (s4_n hb) ?_
  refine j_aload_n d_Main_shift_16 rfl ?_
  refine j_getr (b := 2) d_Main_shift_17 jf_Main_17 rfl rfl rfl (by decide) ?_
  refine j_iload_n d_Main_shift_20 rfl ?_
  refine j_aaldN (b := 127 + 2 * a) d_Main_shift_21 rfl (by decide) (by omega) (by decide) (jrf_sheet _ (by omega)) (by omega) ?_
  refine j_astore (L' := [some (.ref 0), some (.int (nI a)), some (.int i), some (.int (nI b)), some (.int j), some (.int m), some (.ref (127 + 2 * a)), none]) d_Main_shift_22 (by decide) rfl rfl ?_
  refine j_aload_n d_Main_shift_24 rfl ?_
  refine j_getr (b := 2) d_Main_shift_25 jf_Main_17 rfl rfl rfl (by decide) ?_
  refine j_iload_n d_Main_shift_28 rfl ?_
  refine j_aaldN (b := 127 + 2 * b) d_Main_shift_29 rfl (by decide) (by omega) (by decide) (jrf_sheet _ (by omega)) (by omega) ?_
  refine j_astore (L' := [some (.ref 0), some (.int (nI a)), some (.int i), some (.int (nI b)), some (.int j), some (.int m), some (.ref (127 + 2 * a)), some (.ref (127 + 2 * b))]) d_Main_shift_30 (by decide) rfl rfl ?_
  refine j_aload d_Main_shift_32 rfl ?_
  refine j_callVs (As := []) (st := []) (x_isMissingV (isU_sheet a (by omega)) ha1) d_Main_shift_34 (by decide) jm_Sheet_isMissing jk_Main_141 ji_Sheet_isMissing js_Sheet_isMissing (isU_sheet a (by omega)).1 (by decide) rfl rfl (Nat.le_of_ble_eq_true rfl) rfl ?_
  refine j_if_neB_f (tgt := 48) d_Main_shift_37 (by decide) (decide_eq_false hsa) ?_
  refine j_aload d_Main_shift_40 rfl ?_
  refine j_callVs (As := []) (st := []) (x_isMissingV (isU_sheet b (by omega)) hb1) d_Main_shift_42 (by decide) jm_Sheet_isMissing jk_Main_141 ji_Sheet_isMissing js_Sheet_isMissing (isU_sheet b (by omega)).1 (by decide) rfl rfl (Nat.le_of_ble_eq_true rfl) rfl ?_
  refine j_if_eqB_t (tgt := 51) d_Main_shift_45 (by decide) (decide_eq_false hsb) ?_
  refine j_aload d_Main_shift_51 rfl ?_
  refine j_getv (v := So a) d_Main_shift_53 jf_Main_321 (isU_sheet a (by omega)).1 rfl ha1 ?_
  refine j_aload d_Main_shift_56 rfl ?_
  refine j_getv (v := So b) d_Main_shift_58 jf_Main_321 (isU_sheet b (by omega)).1 rfl hb1 ?_
  refine j_icmp_eq_f (tgt := 67) d_Main_shift_61 (by decide) he ?_
  refine j_bipush (v := -13) d_Main_shift_64 (by decide) ?_
  subst hres
  exact j_reti d_Main_shift_66 rfl rfl
theorem x_shift_out {n : jN} {h : jH} {So : Nat → Int32} {Sz : Nat → Nat} {Nu : Nat → Nat → Int32} (hsh : shl h So Sz Nu) {a b : Nat} (ha : a < 4) (hb : b < 4) {i j m : Int32} (hsa : ¬ So a = -1) (hsb : ¬ So b = -1) (he : So a = So b) (ho : (jhas (Sz a) i m && jhas (Sz b) j m) = false) : jC n 2 jy_Main_shift jc_Main_shift 8 (some .int) [.ref 0, .int (nI a), .int i, .int (nI b), .int j, .int m] h (some (.int (-12))) h := by
  refine jC_of jm_Main_shift (L := [some (.ref 0), some (.int (nI a)), some (.int i), some (.int (nI b)), some (.int j), some (.int m), none, none]) (Nat.le_of_ble_eq_true rfl) rfl trivial ?_
  generalize hres : (((some (.int (-12))), h) : Option Value × jH) = res
  obtain ⟨ha1, ha2, ha3, ha4, ha5⟩ := hsh a ha
  obtain ⟨hb1, hb2, hb3, hb4, hb5⟩ := hsh b hb
  refine j_iload_n d_Main_shift_0 rfl ?_
  refine j_callSs (As := [.int (nI a)]) (st := []) x_noSheet d_Main_shift_1 (by decide) jm_Main_noSheet jk_Main_138 js_Main_noSheet rfl (Nat.le_of_ble_eq_true rfl) rfl ?_
  refine j_if_neB_f (tgt := 14) d_Main_shift_4 (by decide) (s4_n ha) ?_
  refine j_iload_n d_Main_shift_7 rfl ?_
  refine j_callSs (As := [.int (nI b)]) (st := []) x_noSheet d_Main_shift_8 (by decide) jm_Main_noSheet jk_Main_138 js_Main_noSheet rfl (Nat.le_of_ble_eq_true rfl) rfl ?_
  refine j_if_eqB_t (tgt := 16) d_Main_shift_11 (by decide) (s4_n hb) ?_
  refine j_aload_n d_Main_shift_16 rfl ?_
  refine j_getr (b := 2) d_Main_shift_17 jf_Main_17 rfl rfl rfl (by decide) ?_
  refine j_iload_n d_Main_shift_20 rfl ?_
  refine j_aaldN (b := 127 + 2 * a) d_Main_shift_21 rfl (by decide) (by omega) (by decide) (jrf_sheet _ (by omega)) (by omega) ?_
  refine j_astore (L' := [some (.ref 0), some (.int (nI a)), some (.int i), some (.int (nI b)), some (.int j), some (.int m), some (.ref (127 + 2 * a)), none]) d_Main_shift_22 (by decide) rfl rfl ?_
  refine j_aload_n d_Main_shift_24 rfl ?_
  refine j_getr (b := 2) d_Main_shift_25 jf_Main_17 rfl rfl rfl (by decide) ?_
  refine j_iload_n d_Main_shift_28 rfl ?_
  refine j_aaldN (b := 127 + 2 * b) d_Main_shift_29 rfl (by decide) (by omega) (by decide) (jrf_sheet _ (by omega)) (by omega) ?_
  refine j_astore (L' := [some (.ref 0), some (.int (nI a)), some (.int i), some (.int (nI b)), some (.int j), some (.int m), some (.ref (127 + 2 * a)), some (.ref (127 + 2 * b))]) d_Main_shift_30 (by decide) rfl rfl ?_
  refine j_aload d_Main_shift_32 rfl ?_
  refine j_callVs (As := []) (st := []) (x_isMissingV (isU_sheet a (by omega)) ha1) d_Main_shift_34 (by decide) jm_Sheet_isMissing jk_Main_141 ji_Sheet_isMissing js_Sheet_isMissing (isU_sheet a (by omega)).1 (by decide) rfl rfl (Nat.le_of_ble_eq_true rfl) rfl ?_
  refine j_if_neB_f (tgt := 48) d_Main_shift_37 (by decide) (decide_eq_false hsa) ?_
  refine j_aload d_Main_shift_40 rfl ?_
  refine j_callVs (As := []) (st := []) (x_isMissingV (isU_sheet b (by omega)) hb1) d_Main_shift_42 (by decide) jm_Sheet_isMissing jk_Main_141 ji_Sheet_isMissing js_Sheet_isMissing (isU_sheet b (by omega)).1 (by decide) rfl rfl (Nat.le_of_ble_eq_true rfl) rfl ?_
  refine j_if_eqB_t (tgt := 51) d_Main_shift_45 (by decide) (decide_eq_false hsb) ?_
  refine j_aload d_Main_shift_51 rfl ?_
  refine j_getv (v := So a) d_Main_shift_53 jf_Main_321 (isU_sheet a (by omega)).1 rfl ha1 ?_
  refine j_aload d_Main_shift_56 rfl ?_
  refine j_getv (v := So b) d_Main_shift_58 jf_Main_321 (isU_sheet b (by omega)).1 rfl hb1 ?_
  refine j_icmp_eq_t (tgt := 67) d_Main_shift_61 (by decide) he ?_
  refine j_aload d_Main_shift_67 rfl ?_
  refine j_iload_n d_Main_shift_69 rfl ?_
  refine j_iload d_Main_shift_70 rfl ?_
  refine j_callVs (As := [.int i, .int m]) (st := []) (x_lacks4 (isU_sheet a (by omega)) ha2) d_Main_shift_72 (by decide) jm_Sheet_lacks jk_Main_145 ji_Sheet_lacks js_Sheet_lacks (isU_sheet a (by omega)).1 (by decide) rfl rfl (Nat.le_of_ble_eq_true rfl) rfl ?_
  refine j_if_neB (tgt := 90) d_Main_shift_75 (by decide) (fun c1 => ?_) (fun c1 => ?_)
  · refine j_bipush (v := -12) d_Main_shift_90 (by decide) ?_
    subst hres
    exact j_reti d_Main_shift_92 rfl rfl
  · refine j_aload d_Main_shift_78 rfl ?_
    refine j_iload d_Main_shift_80 rfl ?_
    refine j_iload d_Main_shift_82 rfl ?_
    refine j_callVs (As := [.int j, .int m]) (st := []) (x_lacks4 (isU_sheet b (by omega)) hb2) d_Main_shift_84 (by decide) jm_Sheet_lacks jk_Main_145 ji_Sheet_lacks js_Sheet_lacks (isU_sheet b (by omega)).1 (by decide) rfl rfl (Nat.le_of_ble_eq_true rfl) rfl ?_
    refine j_if_eqB_f (tgt := 93) d_Main_shift_87 (by decide) (by rw [show jhas (Sz a) i m = true from by simpa using c1] at ho; rw [show jhas (Sz b) j m = false from by simpa using ho]; rfl) ?_
    refine j_bipush (v := -12) d_Main_shift_90 (by decide) ?_
    subst hres
    exact j_reti d_Main_shift_92 rfl rfl
theorem jcpn : Cond.native arraycopyName ∈ jtbl := jmem_4 74 (by decide +kernel) rfl
theorem jcps : Cond.static arraycopyName ∈ jtbl := jmem_4 73 (by decide +kernel) rfl
theorem jcpi : Cond.initialized "java/lang/System" ∈ jtbl := jmem_1 14 (by decide +kernel) rfl
theorem x_shift {n : jN} {h : jH} {So : Nat → Int32} {Sz : Nat → Nat} {Nu : Nat → Nat → Int32} (hsh : shl h So Sz Nu) {a b : Nat} (ha : a < 4) (hb : b < 4) {i j m : Nat} (hsa : ¬ So a = -1) (hsb : ¬ So b = -1) (he : So a = So b) (him : i + m ≤ Sz a) (hjm : j + m ≤ Sz b) : jC n 2 jy_Main_shift jc_Main_shift 8 (some .int) [.ref 0, .int (nI a), .int (nI i), .int (nI b), .int (nI j), .int (nI m)] h (some (.int (nI m))) (jcp h (127 + 2 * a + 1) (127 + 2 * b + 1) i j m) := by
  refine jC_of jm_Main_shift (L := [some (.ref 0), some (.int (nI a)), some (.int (nI i)), some (.int (nI b)), some (.int (nI j)), some (.int (nI m)), none, none]) (Nat.le_of_ble_eq_true rfl) rfl trivial ?_
  generalize hres : (((some (.int (nI m))), jcp h (127 + 2 * a + 1) (127 + 2 * b + 1) i j m) : Option Value × jH) = res
  obtain ⟨ha1, ha2, ha3, ha4, ha5⟩ := hsh a ha
  obtain ⟨hb1, hb2, hb3, hb4, hb5⟩ := hsh b hb
  refine j_iload_n d_Main_shift_0 rfl ?_
  refine j_callSs (As := [.int (nI a)]) (st := []) x_noSheet d_Main_shift_1 (by decide) jm_Main_noSheet jk_Main_138 js_Main_noSheet rfl (Nat.le_of_ble_eq_true rfl) rfl ?_
  refine j_if_neB_f (tgt := 14) d_Main_shift_4 (by decide) (s4_n ha) ?_
  refine j_iload_n d_Main_shift_7 rfl ?_
  refine j_callSs (As := [.int (nI b)]) (st := []) x_noSheet d_Main_shift_8 (by decide) jm_Main_noSheet jk_Main_138 js_Main_noSheet rfl (Nat.le_of_ble_eq_true rfl) rfl ?_
  refine j_if_eqB_t (tgt := 16) d_Main_shift_11 (by decide) (s4_n hb) ?_
  refine j_aload_n d_Main_shift_16 rfl ?_
  refine j_getr (b := 2) d_Main_shift_17 jf_Main_17 rfl rfl rfl (by decide) ?_
  refine j_iload_n d_Main_shift_20 rfl ?_
  refine j_aaldN (b := 127 + 2 * a) d_Main_shift_21 rfl (by decide) (by omega) (by decide) (jrf_sheet _ (by omega)) (by omega) ?_
  refine j_astore (L' := [some (.ref 0), some (.int (nI a)), some (.int (nI i)), some (.int (nI b)), some (.int (nI j)), some (.int (nI m)), some (.ref (127 + 2 * a)), none]) d_Main_shift_22 (by decide) rfl rfl ?_
  refine j_aload_n d_Main_shift_24 rfl ?_
  refine j_getr (b := 2) d_Main_shift_25 jf_Main_17 rfl rfl rfl (by decide) ?_
  refine j_iload_n d_Main_shift_28 rfl ?_
  refine j_aaldN (b := 127 + 2 * b) d_Main_shift_29 rfl (by decide) (by omega) (by decide) (jrf_sheet _ (by omega)) (by omega) ?_
  refine j_astore (L' := [some (.ref 0), some (.int (nI a)), some (.int (nI i)), some (.int (nI b)), some (.int (nI j)), some (.int (nI m)), some (.ref (127 + 2 * a)), some (.ref (127 + 2 * b))]) d_Main_shift_30 (by decide) rfl rfl ?_
  refine j_aload d_Main_shift_32 rfl ?_
  refine j_callVs (As := []) (st := []) (x_isMissingV (isU_sheet a (by omega)) ha1) d_Main_shift_34 (by decide) jm_Sheet_isMissing jk_Main_141 ji_Sheet_isMissing js_Sheet_isMissing (isU_sheet a (by omega)).1 (by decide) rfl rfl (Nat.le_of_ble_eq_true rfl) rfl ?_
  refine j_if_neB_f (tgt := 48) d_Main_shift_37 (by decide) (decide_eq_false hsa) ?_
  refine j_aload d_Main_shift_40 rfl ?_
  refine j_callVs (As := []) (st := []) (x_isMissingV (isU_sheet b (by omega)) hb1) d_Main_shift_42 (by decide) jm_Sheet_isMissing jk_Main_141 ji_Sheet_isMissing js_Sheet_isMissing (isU_sheet b (by omega)).1 (by decide) rfl rfl (Nat.le_of_ble_eq_true rfl) rfl ?_
  refine j_if_eqB_t (tgt := 51) d_Main_shift_45 (by decide) (decide_eq_false hsb) ?_
  refine j_aload d_Main_shift_51 rfl ?_
  refine j_getv (v := So a) d_Main_shift_53 jf_Main_321 (isU_sheet a (by omega)).1 rfl ha1 ?_
  refine j_aload d_Main_shift_56 rfl ?_
  refine j_getv (v := So b) d_Main_shift_58 jf_Main_321 (isU_sheet b (by omega)).1 rfl hb1 ?_
  refine j_icmp_eq_t (tgt := 67) d_Main_shift_61 (by decide) he ?_
  refine j_aload d_Main_shift_67 rfl ?_
  refine j_iload_n d_Main_shift_69 rfl ?_
  refine j_iload d_Main_shift_70 rfl ?_
  refine j_callVs (As := [.int (nI i), .int (nI m)]) (st := []) (x_lacks4 (isU_sheet a (by omega)) ha2) d_Main_shift_72 (by decide) jm_Sheet_lacks jk_Main_145 ji_Sheet_lacks js_Sheet_lacks (isU_sheet a (by omega)).1 (by decide) rfl rfl (Nat.le_of_ble_eq_true rfl) rfl ?_
  refine j_if_neB_f (tgt := 90) d_Main_shift_75 (by decide) (jhas_y ha4 him) ?_
  refine j_aload d_Main_shift_78 rfl ?_
  refine j_iload d_Main_shift_80 rfl ?_
  refine j_iload d_Main_shift_82 rfl ?_
  refine j_callVs (As := [.int (nI j), .int (nI m)]) (st := []) (x_lacks4 (isU_sheet b (by omega)) hb2) d_Main_shift_84 (by decide) jm_Sheet_lacks jk_Main_145 ji_Sheet_lacks js_Sheet_lacks (isU_sheet b (by omega)).1 (by decide) rfl rfl (Nat.le_of_ble_eq_true rfl) rfl ?_
  refine j_if_eqB_t (tgt := 93) d_Main_shift_87 (by decide) (jhas_y hb4 hjm) ?_
  have ci := nI_clamp (n := i) (by omega)
  have cj := nI_clamp (n := j) (by omega)
  have cm := nI_clamp (n := m) (by omega)
  refine j_aload d_Main_shift_93 rfl ?_
  refine j_getr (b := 127 + 2 * a + 1) d_Main_shift_95 jf_Main_318 (isU_sheet a (by omega)).1 rfl (isU_sheet a (by omega)).2.1 (isU_sheet a (by omega)).2.2.2 ?_
  refine j_iload_n d_Main_shift_98 rfl ?_
  refine j_aload d_Main_shift_99 rfl ?_
  refine j_getr (b := 127 + 2 * b + 1) d_Main_shift_101 jf_Main_318 (isU_sheet b (by omega)).1 rfl (isU_sheet b (by omega)).2.1 (isU_sheet b (by omega)).2.2.2 ?_
  refine j_iload d_Main_shift_104 rfl ?_
  refine j_iload d_Main_shift_106 rfl ?_
  refine j_copy d_Main_shift_108 jk_Main_324 jcpn jcps jcpi (Nat.le_of_ble_eq_true rfl) (isU_sheet a ha).2.2.1 (isU_sheet b hb).2.2.1 (fun q => nI_pos (by omega) q) (fun q => nI_pos (by omega) q) (fun q => nI_pos (by omega) q) (by rw [ci, cm]; omega) (by rw [cj, cm]; omega) ?_
  rw [ci, cj, cm]
  refine j_iload d_Main_shift_111 rfl ?_
  subst hres
  exact j_reti d_Main_shift_113 rfl rfl
theorem x_heldTables {n : jN} {h : jH} {P : jP} (hw : ∀ q, tw (P q)) (hP : slo h P) : jC n 0 jy_Main_heldTables jc_Main_heldTables 3 (some .int) [.ref 0] h (some (.int (nI (cnt0 P 6)))) h := by
  refine jC_of jm_Main_heldTables (L := [some (.ref 0), none, none]) (Nat.le_of_ble_eq_true rfl) rfl trivial ?_
  generalize hres : (((some (.int (nI (cnt0 P 6)))), h) : Option Value × jH) = res
  refine j_iconst (v := nI 0) d_Main_heldTables_0 rfl ?_
  refine j_istore_n (L' := [some (.ref 0), some (.int (nI 0)), none]) d_Main_heldTables_1 (by decide) rfl rfl ?_
  refine j_iconst (v := nI 0) d_Main_heldTables_2 rfl ?_
  refine j_istore_n (L' := [some (.ref 0), some (.int (nI 0)), some (.int (nI 0))]) d_Main_heldTables_3 (by decide) rfl rfl ?_
  refine j_loop (P := fun k => jJ n 0 jc_Main_heldTables 3 "YesNoPowers" 4 [some (.ref 0), some (.int (nI (cnt0 P k))), some (.int (nI k))] [] h res) (m := 6) ?_ (fun k hk ih => ?_)
  · refine j_iload_n d_Main_heldTables_4 rfl ?_
    refine j_bipush (v := nI 6) d_Main_heldTables_5 (by decide) ?_
    refine j_icmp_geN_t (tgt := 31) d_Main_heldTables_7 (by decide) (by omega) (by omega) (by omega) ?_
    refine j_iload_n d_Main_heldTables_31 rfl ?_
    subst hres
    exact j_reti d_Main_heldTables_32 rfl rfl
  · have hwk := (hw k).1
    refine j_iload_n d_Main_heldTables_4 rfl ?_
    refine j_bipush (v := nI 6) d_Main_heldTables_5 (by decide) ?_
    refine j_icmp_geN_f (tgt := 31) d_Main_heldTables_7 (by decide) (by omega) (by omega) (Nat.not_le.mpr hk) ?_
    refine j_aload_n d_Main_heldTables_10 rfl ?_
    refine j_getr (b := 1) d_Main_heldTables_11 jf_Main_11 rfl rfl rfl (by decide) ?_
    refine j_iload_n d_Main_heldTables_14 rfl ?_
    refine j_aaldN (b := 115 + 2 * k) d_Main_heldTables_15 rfl (by decide) (by omega) (by decide) (jrf_slot _ (by omega)) (by omega) ?_
    refine j_getv (v := nI ((P k).1)) d_Main_heldTables_16 jf_Main_106 (isT_slot k (by omega)).1 rfl (hP k (by omega)).1 ?_
    refine j_if_leN (tgt := 25) d_Main_heldTables_19 (by decide) (by omega) (fun c => ?_) (fun c => ?_)
    · have hz : cnt0 P (k + 1) = cnt0 P k := by simp only [cnt0, jsum]; rw [if_neg (by omega)]; rfl
      rw [hz] at ih
      refine j_iincN (x := k) (L' := [some (.ref 0), some (.int (nI (cnt0 P k))), some (.int (nI (k + 1)))]) d_Main_heldTables_25 rfl (by decide) rfl rfl ?_
      refine j_goto (tgt := 4) d_Main_heldTables_28 (by decide) ?_
      exact ih
    · have hz : cnt0 P (k + 1) = cnt0 P k + 1 := by simp only [cnt0, jsum]; rw [if_pos (by omega)]
      rw [hz] at ih
      refine j_iincN (x := cnt0 P k) (L' := [some (.ref 0), some (.int (nI ((cnt0 P k) + 1))), some (.int (nI k))]) d_Main_heldTables_22 rfl (by decide) rfl rfl ?_
      refine j_iincN (x := k) (L' := [some (.ref 0), some (.int (nI ((cnt0 P k) + 1))), some (.int (nI (k + 1)))]) d_Main_heldTables_25 rfl (by decide) rfl rfl ?_
      refine j_goto (tgt := 4) d_Main_heldTables_28 (by decide) ?_
      exact ih
def cn3 (So : Nat → Int32) (k : Nat) : Nat := jsum k (fun s => if So s = -1 then 0 else 1)
theorem x_presentSheets {n : jN} {h : jH} {So : Nat → Int32} {Sz : Nat → Nat} {Nu : Nat → Nat → Int32} (hsh : shl h So Sz Nu) : jC n 1 jy_Main_presentSheets jc_Main_presentSheets 3 (some .int) [.ref 0] h (some (.int (nI (cn3 So 4)))) h := by
  refine jC_of jm_Main_presentSheets (L := [some (.ref 0), none, none]) (Nat.le_of_ble_eq_true rfl) rfl trivial ?_
  generalize hres : (((some (.int (nI (cn3 So 4)))), h) : Option Value × jH) = res
  refine j_iconst (v := nI 0) d_Main_presentSheets_0 rfl ?_
  refine j_istore_n (L' := [some (.ref 0), some (.int (nI 0)), none]) d_Main_presentSheets_1 (by decide) rfl rfl ?_
  refine j_iconst (v := nI 0) d_Main_presentSheets_2 rfl ?_
  refine j_istore_n (L' := [some (.ref 0), some (.int (nI 0)), some (.int (nI 0))]) d_Main_presentSheets_3 (by decide) rfl rfl ?_
  refine j_loop (P := fun k => jJ n 1 jc_Main_presentSheets 3 "YesNoPowers" 4 [some (.ref 0), some (.int (nI (cn3 So k))), some (.int (nI k))] [] h res) (m := 4) ?_ (fun k hk ih => ?_)
  · refine j_iload_n d_Main_presentSheets_4 rfl ?_
    refine j_iconst (v := nI 4) d_Main_presentSheets_5 rfl ?_
    refine j_icmp_geN_t (tgt := 30) d_Main_presentSheets_6 (by decide) (by omega) (by omega) (by omega) ?_
    refine j_iload_n d_Main_presentSheets_30 rfl ?_
    subst hres
    exact j_reti d_Main_presentSheets_31 rfl rfl
  · obtain ⟨hsh1, hsh2, hsh3, hsh4, hsh5⟩ := hsh k (by omega)
    refine j_iload_n d_Main_presentSheets_4 rfl ?_
    refine j_iconst (v := nI 4) d_Main_presentSheets_5 rfl ?_
    refine j_icmp_geN_f (tgt := 30) d_Main_presentSheets_6 (by decide) (by omega) (by omega) (Nat.not_le.mpr hk) ?_
    refine j_aload_n d_Main_presentSheets_9 rfl ?_
    refine j_getr (b := 2) d_Main_presentSheets_10 jf_Main_17 rfl rfl rfl (by decide) ?_
    refine j_iload_n d_Main_presentSheets_13 rfl ?_
    refine j_aaldN (b := 127 + 2 * k) d_Main_presentSheets_14 rfl (by decide) (by omega) (by decide) (jrf_sheet _ (by omega)) (by omega) ?_
    refine j_callVs (As := []) (st := []) (x_isMissingV (isU_sheet k (by omega)) hsh1) d_Main_presentSheets_15 (by decide) jm_Sheet_isMissing jk_Main_141 ji_Sheet_isMissing js_Sheet_isMissing (isU_sheet k (by omega)).1 (by decide) rfl rfl (Nat.le_of_ble_eq_true rfl) rfl ?_
    refine j_if_neB (tgt := 24) d_Main_presentSheets_18 (by decide) (fun c => ?_) (fun c => ?_)
    · have hz : cn3 So (k + 1) = cn3 So k := by simp only [cn3, jsum]; rw [if_pos (of_decide_eq_true c)]; rfl
      rw [hz] at ih
      refine j_iincN (x := k) (L' := [some (.ref 0), some (.int (nI (cn3 So k))), some (.int (nI (k + 1)))]) d_Main_presentSheets_24 rfl (by decide) rfl rfl ?_
      refine j_goto (tgt := 4) d_Main_presentSheets_27 (by decide) ?_
      exact ih
    · have hz : cn3 So (k + 1) = cn3 So k + 1 := by simp only [cn3, jsum]; rw [if_neg (of_decide_eq_false c)]
      rw [hz] at ih
      refine j_iincN (x := cn3 So k) (L' := [some (.ref 0), some (.int (nI ((cn3 So k) + 1))), some (.int (nI k))]) d_Main_presentSheets_21 rfl (by decide) rfl rfl ?_
      refine j_iincN (x := k) (L' := [some (.ref 0), some (.int (nI ((cn3 So k) + 1))), some (.int (nI (k + 1)))]) d_Main_presentSheets_24 rfl (by decide) rfl rfl ?_
      refine j_goto (tgt := 4) d_Main_presentSheets_27 (by decide) ?_
      exact ih
theorem x_count0 {n : jN} {h : jH} {P : jP} (hw : ∀ q, tw (P q)) (hP : slo h P) : jC n 2 jy_Main_count jc_Main_count 2 (some .int) [.ref 0, .int (nI 0)] h (some (.int (nI (cnt0 P 6)))) h := by
  refine jC_of jm_Main_count (L := [some (.ref 0), some (.int (nI 0))]) (Nat.le_of_ble_eq_true rfl) rfl trivial ?_
  generalize hres : (((some (.int (nI (cnt0 P 6)))), h) : Option Value × jH) = res
  refine j_iload_n d_Main_count_0 rfl ?_
  refine j_swIn (off := 35) (tgt := 36) d_Main_count_1 (by decide) (by decide) rfl (by decide) ?_
  refine j_aload_n d_Main_count_36 rfl ?_
  refine j_callVs (As := []) (st := []) (x_heldTables hw hP) d_Main_count_37 (by decide) jm_Main_heldTables jk_Main_330 ji_Main_heldTables js_Main_heldTables rfl (by decide) rfl rfl (Nat.le_of_ble_eq_true rfl) rfl ?_
  subst hres
  exact j_reti d_Main_count_40 rfl rfl
theorem x_count1 {n : jN} {h : jH} {c : Nat} (hc : h 75 0 = nI c) : jC n 2 jy_Main_count jc_Main_count 2 (some .int) [.ref 0, .int (nI 1)] h (some (.int (nI c))) h := by
  refine jC_of jm_Main_count (L := [some (.ref 0), some (.int (nI 1))]) (Nat.le_of_ble_eq_true rfl) rfl trivial ?_
  generalize hres : (((some (.int (nI c))), h) : Option Value × jH) = res
  refine j_iload_n d_Main_count_0 rfl ?_
  refine j_swIn (off := 40) (tgt := 41) d_Main_count_1 (by decide) (by decide) rfl (by decide) ?_
  refine j_aload_n d_Main_count_41 rfl ?_
  refine j_getr (b := 75) d_Main_count_42 jf_Main_52 rfl rfl rfl (by decide) ?_
  refine j_getv (v := nI c) d_Main_count_45 jf_Main_280 rfl rfl hc ?_
  subst hres
  exact j_reti d_Main_count_48 rfl rfl
theorem x_count2 {n : jN} {h : jH} {c : Nat} (hc : h 3 0 = nI c) : jC n 2 jy_Main_count jc_Main_count 2 (some .int) [.ref 0, .int (nI 2)] h (some (.int (nI c))) h := by
  refine jC_of jm_Main_count (L := [some (.ref 0), some (.int (nI 2))]) (Nat.le_of_ble_eq_true rfl) rfl trivial ?_
  generalize hres : (((some (.int (nI c))), h) : Option Value × jH) = res
  refine j_iload_n d_Main_count_0 rfl ?_
  refine j_swIn (off := 48) (tgt := 49) d_Main_count_1 (by decide) (by decide) rfl (by decide) ?_
  refine j_aload_n d_Main_count_49 rfl ?_
  refine j_getr (b := 3) d_Main_count_50 jf_Main_24 rfl rfl rfl (by decide) ?_
  refine j_getv (v := nI c) d_Main_count_53 jf_Main_300 rfl rfl hc ?_
  subst hres
  exact j_reti d_Main_count_56 rfl rfl
theorem x_count3 {n : jN} {h : jH} {So : Nat → Int32} {Sz : Nat → Nat} {Nu : Nat → Nat → Int32} (hsh : shl h So Sz Nu) : jC n 2 jy_Main_count jc_Main_count 2 (some .int) [.ref 0, .int (nI 3)] h (some (.int (nI (cn3 So 4)))) h := by
  refine jC_of jm_Main_count (L := [some (.ref 0), some (.int (nI 3))]) (Nat.le_of_ble_eq_true rfl) rfl trivial ?_
  generalize hres : (((some (.int (nI (cn3 So 4)))), h) : Option Value × jH) = res
  refine j_iload_n d_Main_count_0 rfl ?_
  refine j_swIn (off := 56) (tgt := 57) d_Main_count_1 (by decide) (by decide) rfl (by decide) ?_
  refine j_aload_n d_Main_count_57 rfl ?_
  refine j_callVs (As := []) (st := []) (x_presentSheets hsh) d_Main_count_58 (by decide) jm_Main_presentSheets jk_Main_333 ji_Main_presentSheets js_Main_presentSheets rfl (by decide) rfl rfl (Nat.le_of_ble_eq_true rfl) rfl ?_
  subst hres
  exact j_reti d_Main_count_61 rfl rfl
theorem x_count4 {n : jN} {h : jH} {c : Nat} (hc : h 75 1 = nI c) : jC n 2 jy_Main_count jc_Main_count 2 (some .int) [.ref 0, .int (nI 4)] h (some (.int (nI c))) h := by
  refine jC_of jm_Main_count (L := [some (.ref 0), some (.int (nI 4))]) (Nat.le_of_ble_eq_true rfl) rfl trivial ?_
  generalize hres : (((some (.int (nI c))), h) : Option Value × jH) = res
  refine j_iload_n d_Main_count_0 rfl ?_
  refine j_swIn (off := 61) (tgt := 62) d_Main_count_1 (by decide) (by decide) rfl (by decide) ?_
  refine j_aload_n d_Main_count_62 rfl ?_
  refine j_getr (b := 75) d_Main_count_63 jf_Main_52 rfl rfl rfl (by decide) ?_
  refine j_getv (v := nI c) d_Main_count_66 jf_Main_336 rfl rfl hc ?_
  subst hres
  exact j_reti d_Main_count_69 rfl rfl
theorem x_count_bad {n : jN} {h : jH} {w : Int32} (hb : jin w 0 4 = false) : jC n 2 jy_Main_count jc_Main_count 2 (some .int) [.ref 0, .int w] h (some (.int (-1))) h := by
  refine jC_of jm_Main_count (L := [some (.ref 0), some (.int w)]) (Nat.le_of_ble_eq_true rfl) rfl trivial ?_
  generalize hres : (((some (.int (-1))), h) : Option Value × jH) = res
  refine j_iload_n d_Main_count_0 rfl ?_
  refine j_swOut (tgt := 70) d_Main_count_1 (by simp [jin] at hb; omega) (by decide) ?_
  refine j_iconst (v := -1) d_Main_count_70 rfl ?_
  subst hres
  exact j_reti d_Main_count_71 rfl rfl

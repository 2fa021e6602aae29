theorem rep_of {h h' : jH} {t : Nat} {T : jT} (h1 : h' t = h t) (h2 : h' (t + 1) = h (t + 1)) (hr : rep h t T) : rep h' t T := ⟨by rw [h1]; exact hr.1, fun i hi => by rw [h2]; exact hr.2 i hi⟩
theorem jup2_f {h : jH} {a b k : Nat} {v : Int32} (h1 : b ≠ a) : jup2 h a k v b = h b := by funext j; simp [jup2, h1]
theorem noteH_f {h : jH} {s nx sz a : Nat} {T : jT} (h1 : a ≠ 3) (h2 : a ≠ 4) (h3 : a ≠ 6 + 2 * nx) (h4 : a ≠ 6 + 2 * nx + 1) : noteH h s nx sz T a = h a := by
  rw [noteH, jup2_f h1, jup2_f h1, sT_f h3 h4, jup2_f h2]
/-- what hold(s) leaves: the log's row, and slot s holds M -/
def holdH (h : jH) (s nx sz : Nat) (T M : jT) : jH := sT (noteH h s nx sz T) (115 + 2 * s) M
theorem holdH_f {h : jH} {s nx sz a : Nat} {T M : jT} (h1 : a ≠ 3) (h2 : a ≠ 4) (h3 : a ≠ 6 + 2 * nx) (h4 : a ≠ 6 + 2 * nx + 1) (h5 : a ≠ 115 + 2 * s) (h6 : a ≠ 115 + 2 * s + 1) : holdH h s nx sz T M a = h a := by
  rw [holdH, sT_f h5 h6, noteH_f h1 h2 h3 h4]
theorem x_hold {n : jN} {h : jH} {P : jP} {s nx sz : Nat} {M : jT} (hw : ∀ q, tw (P q)) (hP : slo h P) (hnx : h 3 1 = nI nx) (hn : nx < 20) (hsz : h 3 0 = nI sz) (hs1 : sz ≤ 20) (hs : s < 6) (hr : rep h 113 M) (hM : tw M) : jC n 2 jy_Main_hold jc_Main_hold 2 (some .int) [.ref 0, .int (nI s)] h (some (.int (nI M.1))) (holdH h s nx sz (P s) M) := by
  refine jC_of jm_Main_hold (L := [some (.ref 0), some (.int (nI s))]) (Nat.le_of_ble_eq_true rfl) rfl trivial ?_
  generalize hres : (((some (.int (nI M.1))), holdH h s nx sz (P s) M) : Option Value × jH) = res
  have hts := isT_slot s hs
  have hrm : rep (noteH h s nx sz (P s)) 113 M := rep_of (noteH_f (by omega) (by omega) (by omega) (by omega)) (noteH_f (by omega) (by omega) (by omega) (by omega)) hr
  have hrm2 : rep (holdH h s nx sz (P s) M) 113 M := rep_of (by rw [holdH_f (by omega) (by omega) (by omega) (by omega) (by omega) (by omega)]) (by rw [holdH_f (by omega) (by omega) (by omega) (by omega) (by omega) (by omega)]) hr
  refine j_aload_n d_Main_hold_0 rfl ?_
  refine j_getr (b := 3) d_Main_hold_1 jf_Main_24 rfl rfl rfl (by decide) ?_
  refine j_iload_n d_Main_hold_4 rfl ?_
  refine j_aload_n d_Main_hold_5 rfl ?_
  refine j_getr (b := 1) d_Main_hold_6 jf_Main_11 rfl rfl rfl (by decide) ?_
  refine j_iload_n d_Main_hold_9 rfl ?_
  refine j_aaldN (b := 115 + 2 * s) d_Main_hold_10 rfl (by decide) (by omega) (by decide) (jrf_slot _ (by omega)) (by omega) ?_
  refine j_callVn (As := [.int (nI s), .ref (115 + 2 * s)]) (st := []) (x_note hts hnx hn hsz hs1 (hP s hs) (hw s) (by omega) (by omega) (by omega)) d_Main_hold_11 (by decide) jm_Log_note jk_Main_339 ji_Log_note js_Log_note rfl (by decide) rfl rfl (Nat.le_of_ble_eq_true rfl) rfl ?_
  refine j_aload_n d_Main_hold_14 rfl ?_
  refine j_getr (b := 1) d_Main_hold_15 jf_Main_11 rfl rfl rfl (by decide) ?_
  refine j_iload_n d_Main_hold_18 rfl ?_
  refine j_aaldN (b := 115 + 2 * s) d_Main_hold_19 rfl (by decide) (by omega) (by decide) (jrf_slot _ (by omega)) (by omega) ?_
  refine j_aload_n d_Main_hold_20 rfl ?_
  refine j_getr (b := 113) d_Main_hold_21 jf_Main_57 rfl rfl rfl (by decide) ?_
  refine j_callVn (As := [.ref 113]) (st := []) (x_become hts isT_108 (by omega) hrm hM) d_Main_hold_24 (by decide) jm_Table_become jk_Main_85 ji_Table_become js_Table_become (isT_slot s (by omega)).1 (by decide) rfl rfl (Nat.le_of_ble_eq_true rfl) rfl ?_
  refine j_aload_n d_Main_hold_27 rfl ?_
  refine j_getr (b := 113) d_Main_hold_28 jf_Main_57 rfl rfl rfl (by decide) ?_
  refine j_getv (v := nI M.1) d_Main_hold_31 jf_Main_106 rfl rfl hrm2.1 ?_
  subst hres
  exact j_reti d_Main_hold_34 rfl rfl
def rpr (m a b k : Nat) : Nat := jor k (fun i => (a / 2 ^ i &&& ([0, 1, 5, 73, 4369] : List Nat).getD m 0) * (b / 2 ^ (m * i) &&& (2 ^ m - 1)))
theorem x_product {n : jN} {h : jH} {m a b : Nat} (hm : m ≤ 4) (ha : a < 2 ^ 31) (hb : b < 2 ^ 31) : jC n 0 jy_Roots_product jc_Roots_product 6 (some .int) [.int (nI m), .int (nI a), .int (nI b)] h (some (.int (nI (rpr m a b m)))) h := by
  refine jC_of jm_Roots_product (L := [some (.int (nI m)), some (.int (nI a)), some (.int (nI b)), none, none, none]) (Nat.le_of_ble_eq_true rfl) rfl trivial ?_
  generalize hres : (((some (.int (nI (rpr m a b m)))), h) : Option Value × jH) = res
  have h2p : 0 < 2 ^ m := Nat.two_pow_pos m
  have h2m : 2 ^ m ≤ 2 ^ 4 := Nat.pow_le_pow_right (by omega) hm
  have hrs : ([0, 1, 5, 73, 4369] : List Int32).getD m 0 = nI (([0, 1, 5, 73, 4369] : List Nat).getD m 0) := by rcases (show m = 0 ∨ m = 1 ∨ m = 2 ∨ m = 3 ∨ m = 4 by omega) with e | e | e | e | e <;> rw [e] <;> rfl
  refine j_iconst (v := nI 1) d_Roots_product_0 rfl ?_
  refine j_iload_n d_Roots_product_1 rfl ?_
  refine j_shl1N d_Roots_product_2 (by omega) ?_
  refine j_iconst (v := nI 1) d_Roots_product_3 rfl ?_
  refine j_isubN d_Roots_product_4 Nat.one_le_two_pow ?_
  refine j_istore_n (L' := [some (.int (nI m)), some (.int (nI a)), some (.int (nI b)), some (.int (nI ((2 ^ m) - 1))), none, none]) d_Roots_product_5 (by decide) rfl rfl ?_
  refine j_iconst (v := nI 0) d_Roots_product_6 rfl ?_
  refine j_istore (L' := [some (.int (nI m)), some (.int (nI a)), some (.int (nI b)), some (.int (nI ((2 ^ m) - 1))), some (.int (nI 0)), none]) d_Roots_product_7 (by decide) rfl rfl ?_
  refine j_iconst (v := nI 0) d_Roots_product_9 rfl ?_
  refine j_istore (L' := [some (.int (nI m)), some (.int (nI a)), some (.int (nI b)), some (.int (nI ((2 ^ m) - 1))), some (.int (nI 0)), some (.int (nI 0))]) d_Roots_product_10 (by decide) rfl rfl ?_
  refine j_loop (P := fun k => jJ n 0 jc_Roots_product 6 "YesNoPowers$Roots" 12 [some (.int (nI m)), some (.int (nI a)), some (.int (nI b)), some (.int (nI (2 ^ m - 1))), some (.int (nI (rpr m a b k))), some (.int (nI k))] [] h res) (m := m) ?_ (fun k hk ih => ?_)
  · refine j_iload d_Roots_product_12 rfl ?_
    refine j_iload_n d_Roots_product_14 rfl ?_
    refine j_icmp_geN_t (tgt := 48) d_Roots_product_15 (by decide) (by omega) (by omega) (Nat.le_refl _) ?_
    refine j_iload d_Roots_product_48 rfl ?_
    subst hres
    exact j_reti d_Roots_product_50 rfl rfl
  · have hmk : m * k ≤ 4 * 3 := Nat.mul_le_mul hm (by omega)
    refine j_iload d_Roots_product_12 rfl ?_
    refine j_iload_n d_Roots_product_14 rfl ?_
    refine j_icmp_geN_f (tgt := 48) d_Roots_product_15 (by decide) (by omega) (by omega) (Nat.not_le.mpr hk) ?_
    refine j_iload d_Roots_product_18 rfl ?_
    refine j_iload_n d_Roots_product_20 rfl ?_
    refine j_iload d_Roots_product_21 rfl ?_
    refine j_ishrN d_Roots_product_23 (by omega) (by omega) ?_
    refine j_gets d_Roots_product_24 jk_Roots_23 ?_
    refine j_iload_n d_Roots_product_27 rfl ?_
    refine j_rldN (v := nI (([0, 1, 5, 73, 4369] : List Nat).getD m 0)) d_Roots_product_28 (by omega) hrs ?_
    refine j_iandN d_Roots_product_29 ?_
    refine j_iload_n d_Roots_product_30 rfl ?_
    refine j_iload_n d_Roots_product_31 rfl ?_
    refine j_iload d_Roots_product_32 rfl ?_
    refine j_imulN d_Roots_product_34 ?_
    refine j_ishrN d_Roots_product_35 (by omega) (by omega) ?_
    refine j_iload_n d_Roots_product_36 rfl ?_
    refine j_iandN d_Roots_product_37 ?_
    refine j_imulN d_Roots_product_38 ?_
    refine j_iorN d_Roots_product_39 ?_
    refine j_top (w := nI (rpr m a b (k + 1))) rfl ?_
    refine j_istore (L' := [some (.int (nI m)), some (.int (nI a)), some (.int (nI b)), some (.int (nI (2 ^ m - 1))), some (.int (nI (rpr m a b (k + 1)))), some (.int (nI k))]) d_Roots_product_40 (by decide) rfl rfl ?_
    refine j_iincN (x := k) (L' := [some (.int (nI m)), some (.int (nI a)), some (.int (nI b)), some (.int (nI (2 ^ m - 1))), some (.int (nI (rpr m a b (k + 1)))), some (.int (nI (k + 1)))]) d_Roots_product_42 rfl (by decide) rfl rfl ?_
    refine j_goto (tgt := 12) d_Roots_product_45 (by decide) ?_
    exact ih

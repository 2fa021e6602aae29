abbrev Cl (T : jT) : Nat → Nat := (clF (rc T T.1) T.1).1
abbrev Mn (T : jT) : Nat := (clF (rc T T.1) T.1).2
abbrev wkH (h : jH) (T : jT) : jH := jW h (fun z => if z < T.1 then nI (Cl T z) else h 143 z) (fun z => if z < T.1 then nI (rc T T.1 z) else h 144 z) (fun z => if z % 12 < T.1 ∧ z / 12 < T.1 + 1 then nI (wk T (z / 12) (z % 12)) else h 145 z) (Mn T)
theorem jko_W {h : jH} {T : jT} (hT : tw T) : jko (wkH h T) T.1 (Cl T) (rc T T.1) (wk T) (Mn T) := by
  have hn := hT.1
  refine ⟨fun i hi => ?_, fun i hi => clF_lt _ _ i hi, fun i hi => ?_, fun i hi => rc_lt hT _ i (by omega), fun q i hq hi => ?_, fun q i hq hi => wk_lt hT q i (by omega), ?_, Nat.le_trans (clF_le _ _) hn⟩
  · show (if _ then _ else _) = _
    rw [if_pos hi]
  · show (if _ then _ else _) = _
    rw [if_pos hi]
  · show (if _ then _ else _) = _
    have h1 : (12 * q + i) / 12 = q := by omega
    have h2 : (12 * q + i) % 12 = i := by omega
    rw [h1, h2, if_pos (by omega)]
  · simp [wkH, jW]
theorem c_classes_bad {n : jN} {h : jH} {P : jP} {s : Int32} (hw : ∀ q, tw (P q)) (hb : jho P s = false) : jC n 2 jy_Model_classes jc_Model_classes 2 (some .int) [.ref 135, .int s] (jM h P) (some (.int (-1))) (jM h P) := by
  refine jC_of jm_Model_classes (L := [some (.ref 135), some (.int s)]) (Nat.le_of_ble_eq_true rfl) rfl trivial ?_
  generalize hres : (((some (.int (-1))), jM h P) : Option Value × jH) = res
  refine j_aload_n d_Model_classes_0 rfl ?_
  refine j_iload_n d_Model_classes_1 rfl ?_
  refine j_callVs (As := [.int s]) (st := []) (c_holds hw) d_Model_classes_2 (by decide) jm_Model_holds jk_Model_117 ji_Model_holds js_Model_holds rfl (by decide) rfl rfl (Nat.le_of_ble_eq_true rfl) rfl ?_
  refine j_if_neB (tgt := 10) d_Model_classes_5 (by decide) (fun c1 => ?_) (fun c1 => ?_)
  · exact absurd c1 (by rw [hb]; decide)
  · refine j_iconst (v := -1) d_Model_classes_8 rfl ?_
    subst hres
    exact j_reti d_Model_classes_9 rfl rfl
theorem c_classes {n : jN} {h : jH} {P : jP} {s my : Nat} (hw : ∀ q, tw (P q)) (hs : s < 6) (h0 : 0 < (P s).1) (hmy : h 135 13 = nI my)  : jC n 2 jy_Model_classes jc_Model_classes 2 (some .int) [.ref 135, .int (nI s)] (jM h P) (some (.int (nI (Mn (P s))))) (jM (wkH h (P s)) P) := by
  have hns := (hw s).1
  have hMle : Mn (P s) ≤ 12 := Nat.le_trans (clF_le _ _) hns
  refine jC_of jm_Model_classes (L := [some (.ref 135), some (.int (nI s))]) (Nat.le_of_ble_eq_true rfl) rfl trivial ?_
  generalize hres : (((some (.int (nI (Mn (P s))))), jM (wkH h (P s)) P) : Option Value × jH) = res
  refine j_aload_n d_Model_classes_0 rfl ?_
  refine j_iload_n d_Model_classes_1 rfl ?_
  refine j_callVs (As := [.int (nI s)]) (st := []) (c_holds hw) d_Model_classes_2 (by decide) jm_Model_holds jk_Model_117 ji_Model_holds js_Model_holds rfl (by decide) rfl rfl (Nat.le_of_ble_eq_true rfl) rfl ?_
  refine j_if_neB_t (tgt := 10) d_Model_classes_5 (by decide) (jho_y hs h0) ?_
  refine j_aload_n d_Model_classes_10 rfl ?_
  refine j_iload_n d_Model_classes_11 rfl ?_
  refine j_callVn (As := [.int (nI s)]) (st := []) (c_layWalks hw (by omega) hmy) d_Model_classes_12 (by decide) jm_Model_layWalks jk_Model_192 ji_Model_layWalks js_Model_layWalks rfl (by decide) rfl rfl (Nat.le_of_ble_eq_true rfl) rfl ?_
  refine j_aload_n d_Model_classes_15 rfl ?_
  refine j_getv (v := nI (Mn (P s))) d_Model_classes_16 jf_Model_183 rfl rfl rfl ?_
  subst hres
  exact j_reti d_Model_classes_19 rfl rfl
def jokMem (P : jP) (s i : Int32) : Bool := jho P s && jmb (P s.toNatClampNeg).1 i
theorem c_classOf_bad {n : jN} {h : jH} {P : jP} {s i : Int32} (hw : ∀ q, tw (P q)) (hb : jokMem P s i = false) : jC n 2 jy_Model_classOf jc_Model_classOf 3 (some .int) [.ref 135, .int s, .int i] (jM h P) (some (.int (-1))) (jM h P) := by
  refine jC_of jm_Model_classOf (L := [some (.ref 135), some (.int s), some (.int i)]) (Nat.le_of_ble_eq_true rfl) rfl trivial ?_
  generalize hres : (((some (.int (-1))), jM h P) : Option Value × jH) = res
  refine j_aload_n d_Model_classOf_0 rfl ?_
  refine j_iload_n d_Model_classOf_1 rfl ?_
  refine j_callVs (As := [.int s]) (st := []) (c_holds hw) d_Model_classOf_2 (by decide) jm_Model_holds jk_Model_117 ji_Model_holds js_Model_holds rfl (by decide) rfl rfl (Nat.le_of_ble_eq_true rfl) rfl ?_
  refine j_if_eqB (tgt := 17) d_Model_classOf_5 (by decide) (fun c1 => ?_) (fun c1 => ?_)
  · refine j_iconst (v := -1) d_Model_classOf_17 rfl ?_
    subst hres
    exact j_reti d_Model_classOf_18 rfl rfl
  · obtain ⟨s0, hs0, hs00, rfl⟩ := jho_t c1
    have hns0 := (hw s0).1
    refine j_aload_n d_Model_classOf_8 rfl ?_
    refine j_iload_n d_Model_classOf_9 rfl ?_
    refine j_iload_n d_Model_classOf_10 rfl ?_
    refine j_callVs (As := [.int (nI s0), .int i]) (st := []) (c_isMember (by omega)) d_Model_classOf_11 (by decide) jm_Model_isMember jk_Model_120 ji_Model_isMember js_Model_isMember rfl (by decide) rfl rfl (Nat.le_of_ble_eq_true rfl) rfl ?_
    refine j_if_neB (tgt := 19) d_Model_classOf_14 (by decide) (fun c2 => ?_) (fun c2 => ?_)
    · exact absurd hb (by simp [jokMem, c1, c2, nI_clamp (show s0 < 2 ^ 31 by omega)])
    · refine j_iconst (v := -1) d_Model_classOf_17 rfl ?_
      subst hres
      exact j_reti d_Model_classOf_18 rfl rfl
theorem c_part_bad {n : jN} {h : jH} {P : jP} {s i : Int32} (hw : ∀ q, tw (P q)) (hb : jokMem P s i = false) : jC n 2 jy_Model_part jc_Model_part 4 (some .int) [.ref 135, .int s, .int i] (jM h P) (some (.int (-1))) (jM h P) := by
  refine jC_of jm_Model_part (L := [some (.ref 135), some (.int s), some (.int i), none]) (Nat.le_of_ble_eq_true rfl) rfl trivial ?_
  generalize hres : (((some (.int (-1))), jM h P) : Option Value × jH) = res
  refine j_aload_n d_Model_part_0 rfl ?_
  refine j_iload_n d_Model_part_1 rfl ?_
  refine j_callVs (As := [.int s]) (st := []) (c_holds hw) d_Model_part_2 (by decide) jm_Model_holds jk_Model_117 ji_Model_holds js_Model_holds rfl (by decide) rfl rfl (Nat.le_of_ble_eq_true rfl) rfl ?_
  refine j_if_eqB (tgt := 17) d_Model_part_5 (by decide) (fun c1 => ?_) (fun c1 => ?_)
  · refine j_iconst (v := -1) d_Model_part_17 rfl ?_
    subst hres
    exact j_reti d_Model_part_18 rfl rfl
  · obtain ⟨s0, hs0, hs00, rfl⟩ := jho_t c1
    have hns0 := (hw s0).1
    refine j_aload_n d_Model_part_8 rfl ?_
    refine j_iload_n d_Model_part_9 rfl ?_
    refine j_iload_n d_Model_part_10 rfl ?_
    refine j_callVs (As := [.int (nI s0), .int i]) (st := []) (c_isMember (by omega)) d_Model_part_11 (by decide) jm_Model_isMember jk_Model_120 ji_Model_isMember js_Model_isMember rfl (by decide) rfl rfl (Nat.le_of_ble_eq_true rfl) rfl ?_
    refine j_if_neB (tgt := 19) d_Model_part_14 (by decide) (fun c2 => ?_) (fun c2 => ?_)
    · exact absurd hb (by simp [jokMem, c1, c2, nI_clamp (show s0 < 2 ^ 31 by omega)])
    · refine j_iconst (v := -1) d_Model_part_17 rfl ?_
      subst hres
      exact j_reti d_Model_part_18 rfl rfl
theorem c_classOf {n : jN} {h : jH} {P : jP} {s my : Nat} (hw : ∀ q, tw (P q)) (hs : s < 6) (h0 : 0 < (P s).1) (hmy : h 135 13 = nI my) {i : Nat} (hi : i < (P s).1) : jC n 2 jy_Model_classOf jc_Model_classOf 3 (some .int) [.ref 135, .int (nI s), .int (nI i)] (jM h P) (some (.int (nI (Cl (P s) i)))) (jM (wkH h (P s)) P) := by
  have hns := (hw s).1
  have hMle : Mn (P s) ≤ 12 := Nat.le_trans (clF_le _ _) hns
  refine jC_of jm_Model_classOf (L := [some (.ref 135), some (.int (nI s)), some (.int (nI i))]) (Nat.le_of_ble_eq_true rfl) rfl trivial ?_
  generalize hres : (((some (.int (nI (Cl (P s) i)))), jM (wkH h (P s)) P) : Option Value × jH) = res
  refine j_aload_n d_Model_classOf_0 rfl ?_
  refine j_iload_n d_Model_classOf_1 rfl ?_
  refine j_callVs (As := [.int (nI s)]) (st := []) (c_holds hw) d_Model_classOf_2 (by decide) jm_Model_holds jk_Model_117 ji_Model_holds js_Model_holds rfl (by decide) rfl rfl (Nat.le_of_ble_eq_true rfl) rfl ?_
  refine j_if_eqB_f (tgt := 17) d_Model_classOf_5 (by decide) (jho_y hs h0) ?_
  refine j_aload_n d_Model_classOf_8 rfl ?_
  refine j_iload_n d_Model_classOf_9 rfl ?_
  refine j_iload_n d_Model_classOf_10 rfl ?_
  refine j_callVs (As := [.int (nI s), .int (nI i)]) (st := []) (c_isMember (by omega)) d_Model_classOf_11 (by decide) jm_Model_isMember jk_Model_120 ji_Model_isMember js_Model_isMember rfl (by decide) rfl rfl (Nat.le_of_ble_eq_true rfl) rfl ?_
  refine j_if_neB_t (tgt := 19) d_Model_classOf_14 (by decide) (jmb_y hns hi) ?_
  refine j_aload_n d_Model_classOf_19 rfl ?_
  refine j_iload_n d_Model_classOf_20 rfl ?_
  refine j_callVn (As := [.int (nI s)]) (st := []) (c_layWalks hw (by omega) hmy) d_Model_classOf_21 (by decide) jm_Model_layWalks jk_Model_192 ji_Model_layWalks js_Model_layWalks rfl (by decide) rfl rfl (Nat.le_of_ble_eq_true rfl) rfl ?_
  refine j_aload_n d_Model_classOf_24 rfl ?_
  refine j_getr (b := 143) d_Model_classOf_25 jf_Model_31 rfl rfl rfl (by decide) ?_
  refine j_iload_n d_Model_classOf_28 rfl ?_
  refine j_ialdN (v := nI (Cl (P s) i)) d_Model_classOf_29 rfl (by omega) (by decide) ((jko_W (hw s)).1 _ (by omega)) ?_
  subst hres
  exact j_reti d_Model_classOf_30 rfl rfl
theorem c_part0 {n : jN} {h : jH} {P : jP} {s my : Nat} (hw : ∀ q, tw (P q)) (hs : s < 6) (h0 : 0 < (P s).1) (hmy : h 135 13 = nI my) {i : Nat} (hi : i < (P s).1) (hp0 : dvO (rou (Cl (P s)) (wk (P s)) (Cl (P s) i)) (P s).1 (P s).1 = 0) : jC n 2 jy_Model_part jc_Model_part 4 (some .int) [.ref 135, .int (nI s), .int (nI i)] (jM h P) (some (.int (-15))) (jM (wkH h (P s)) P) := by
  have hns := (hw s).1
  have hMle : Mn (P s) ≤ 12 := Nat.le_trans (clF_le _ _) hns
  refine jC_of jm_Model_part (L := [some (.ref 135), some (.int (nI s)), some (.int (nI i)), none]) (Nat.le_of_ble_eq_true rfl) rfl trivial ?_
  generalize hres : (((some (.int (-15))), jM (wkH h (P s)) P) : Option Value × jH) = res
  refine j_aload_n d_Model_part_0 rfl ?_
  refine j_iload_n d_Model_part_1 rfl ?_
  refine j_callVs (As := [.int (nI s)]) (st := []) (c_holds hw) d_Model_part_2 (by decide) jm_Model_holds jk_Model_117 ji_Model_holds js_Model_holds rfl (by decide) rfl rfl (Nat.le_of_ble_eq_true rfl) rfl ?_
  refine j_if_eqB_f (tgt := 17) d_Model_part_5 (by decide) (jho_y hs h0) ?_
  refine j_aload_n d_Model_part_8 rfl ?_
  refine j_iload_n d_Model_part_9 rfl ?_
  refine j_iload_n d_Model_part_10 rfl ?_
  refine j_callVs (As := [.int (nI s), .int (nI i)]) (st := []) (c_isMember (by omega)) d_Model_part_11 (by decide) jm_Model_isMember jk_Model_120 ji_Model_isMember js_Model_isMember rfl (by decide) rfl rfl (Nat.le_of_ble_eq_true rfl) rfl ?_
  refine j_if_neB_t (tgt := 19) d_Model_part_14 (by decide) (jmb_y hns hi) ?_
  have hcm : Cl (P s) i < Mn (P s) := clF_lt _ _ i hi
  have hdv : dvO (rou (Cl (P s)) (wk (P s)) (Cl (P s) i)) (P s).1 (P s).1 ≤ 12 := dvO_le _ (by omega)
  refine j_aload_n d_Model_part_19 rfl ?_
  refine j_iload_n d_Model_part_20 rfl ?_
  refine j_callVn (As := [.int (nI s)]) (st := []) (c_layWalks hw (by omega) hmy) d_Model_part_21 (by decide) jm_Model_layWalks jk_Model_192 ji_Model_layWalks js_Model_layWalks rfl (by decide) rfl rfl (Nat.le_of_ble_eq_true rfl) rfl ?_
  refine j_aload_n d_Model_part_24 rfl ?_
  refine j_iload_n d_Model_part_25 rfl ?_
  refine j_aload_n d_Model_part_26 rfl ?_
  refine j_getr (b := 143) d_Model_part_27 jf_Model_31 rfl rfl rfl (by decide) ?_
  refine j_iload_n d_Model_part_30 rfl ?_
  refine j_ialdN (v := nI (Cl (P s) i)) d_Model_part_31 rfl (by omega) (by decide) ((jko_W (hw s)).1 _ (by omega)) ?_
  refine j_iconst (v := nI 0) d_Model_part_32 rfl ?_
  refine j_callVs (As := [.int (nI s), .int (nI (Cl (P s) i)), .int (nI 0)]) (st := []) (c_roundsOf0 hw hs (jko_W (hw s)) (by omega)) d_Model_part_33 (by decide) jm_Model_roundsOf jk_Model_201 ji_Model_roundsOf js_Model_roundsOf rfl (by decide) rfl rfl (Nat.le_of_ble_eq_true rfl) rfl ?_
  refine j_istore_n (L' := [some (.ref 135), some (.int (nI s)), some (.int (nI i)), some (.int (nI (dvO (rou (Cl (P s)) (wk (P s)) (Cl (P s) i)) (P s).1 (P s).1)))]) d_Model_part_36 (by decide) rfl rfl ?_
  refine j_iload_n d_Model_part_37 rfl ?_
  refine j_if_neN_f (tgt := 46) d_Model_part_38 (by decide) (by omega) hp0 ?_
  refine j_bipush (v := -15) d_Model_part_41 (by decide) ?_
  refine j_goto (tgt := 52) d_Model_part_43 (by decide) ?_
  subst hres
  exact j_reti d_Model_part_52 rfl rfl
theorem c_part {n : jN} {h : jH} {P : jP} {s my : Nat} (hw : ∀ q, tw (P q)) (hs : s < 6) (h0 : 0 < (P s).1) (hmy : h 135 13 = nI my) {i : Nat} (hi : i < (P s).1) {l t : Nat} (hl : l < (P s).1) (hl1 : Cl (P s) l = Cl (P s) i) (hl2 : ∀ j, j < l → ¬ Cl (P s) j = Cl (P s) i) (ht : t ≤ (P s).1) (ht1 : (wk (P s) t l).testBit i = true) (ht2 : ∀ m, m < t → (wk (P s) m l).testBit i = false) (hp0 : ¬ dvO (rou (Cl (P s)) (wk (P s)) (Cl (P s) i)) (P s).1 (P s).1 = 0) : jC n 2 jy_Model_part jc_Model_part 4 (some .int) [.ref 135, .int (nI s), .int (nI i)] (jM h P) (some (.int (nI (t % dvO (rou (Cl (P s)) (wk (P s)) (Cl (P s) i)) (P s).1 (P s).1)))) (jM (wkH h (P s)) P) := by
  have hns := (hw s).1
  have hMle : Mn (P s) ≤ 12 := Nat.le_trans (clF_le _ _) hns
  refine jC_of jm_Model_part (L := [some (.ref 135), some (.int (nI s)), some (.int (nI i)), none]) (Nat.le_of_ble_eq_true rfl) rfl trivial ?_
  generalize hres : (((some (.int (nI (t % dvO (rou (Cl (P s)) (wk (P s)) (Cl (P s) i)) (P s).1 (P s).1)))), jM (wkH h (P s)) P) : Option Value × jH) = res
  refine j_aload_n d_Model_part_0 rfl ?_
  refine j_iload_n d_Model_part_1 rfl ?_
  refine j_callVs (As := [.int (nI s)]) (st := []) (c_holds hw) d_Model_part_2 (by decide) jm_Model_holds jk_Model_117 ji_Model_holds js_Model_holds rfl (by decide) rfl rfl (Nat.le_of_ble_eq_true rfl) rfl ?_
  refine j_if_eqB_f (tgt := 17) d_Model_part_5 (by decide) (jho_y hs h0) ?_
  refine j_aload_n d_Model_part_8 rfl ?_
  refine j_iload_n d_Model_part_9 rfl ?_
  refine j_iload_n d_Model_part_10 rfl ?_
  refine j_callVs (As := [.int (nI s), .int (nI i)]) (st := []) (c_isMember (by omega)) d_Model_part_11 (by decide) jm_Model_isMember jk_Model_120 ji_Model_isMember js_Model_isMember rfl (by decide) rfl rfl (Nat.le_of_ble_eq_true rfl) rfl ?_
  refine j_if_neB_t (tgt := 19) d_Model_part_14 (by decide) (jmb_y hns hi) ?_
  have hcm : Cl (P s) i < Mn (P s) := clF_lt _ _ i hi
  have hdv : dvO (rou (Cl (P s)) (wk (P s)) (Cl (P s) i)) (P s).1 (P s).1 ≤ 12 := dvO_le _ (by omega)
  refine j_aload_n d_Model_part_19 rfl ?_
  refine j_iload_n d_Model_part_20 rfl ?_
  refine j_callVn (As := [.int (nI s)]) (st := []) (c_layWalks hw (by omega) hmy) d_Model_part_21 (by decide) jm_Model_layWalks jk_Model_192 ji_Model_layWalks js_Model_layWalks rfl (by decide) rfl rfl (Nat.le_of_ble_eq_true rfl) rfl ?_
  refine j_aload_n d_Model_part_24 rfl ?_
  refine j_iload_n d_Model_part_25 rfl ?_
  refine j_aload_n d_Model_part_26 rfl ?_
  refine j_getr (b := 143) d_Model_part_27 jf_Model_31 rfl rfl rfl (by decide) ?_
  refine j_iload_n d_Model_part_30 rfl ?_
  refine j_ialdN (v := nI (Cl (P s) i)) d_Model_part_31 rfl (by omega) (by decide) ((jko_W (hw s)).1 _ (by omega)) ?_
  refine j_iconst (v := nI 0) d_Model_part_32 rfl ?_
  refine j_callVs (As := [.int (nI s), .int (nI (Cl (P s) i)), .int (nI 0)]) (st := []) (c_roundsOf0 hw hs (jko_W (hw s)) (by omega)) d_Model_part_33 (by decide) jm_Model_roundsOf jk_Model_201 ji_Model_roundsOf js_Model_roundsOf rfl (by decide) rfl rfl (Nat.le_of_ble_eq_true rfl) rfl ?_
  refine j_istore_n (L' := [some (.ref 135), some (.int (nI s)), some (.int (nI i)), some (.int (nI (dvO (rou (Cl (P s)) (wk (P s)) (Cl (P s) i)) (P s).1 (P s).1)))]) d_Model_part_36 (by decide) rfl rfl ?_
  refine j_iload_n d_Model_part_37 rfl ?_
  refine j_if_neN_t (tgt := 46) d_Model_part_38 (by decide) (by omega) hp0 ?_
  refine j_aload_n d_Model_part_46 rfl ?_
  refine j_iload_n d_Model_part_47 rfl ?_
  refine j_iload_n d_Model_part_48 rfl ?_
  refine j_callVs (As := [.int (nI i), .int (nI (dvO (rou (Cl (P s)) (wk (P s)) (Cl (P s) i)) (P s).1 (P s).1))]) (st := []) (c_partBy hw hs (jko_W (hw s)) hi hl hl1 hl2 (Nat.pos_of_ne_zero hp0) (by omega) ht ht1 ht2) d_Model_part_49 (by decide) jm_Model_partBy jk_Model_211 ji_Model_partBy js_Model_partBy rfl (by decide) rfl rfl (Nat.le_of_ble_eq_true rfl) rfl ?_
  subst hres
  exact j_reti d_Model_part_52 rfl rfl
theorem c_isClass_bad {n : jN} {h : jH} {P : jP} {s k : Int32} (hw : ∀ q, tw (P q)) (hb : jho P s = false) : jC n 2 jy_Model_isClass jc_Model_isClass 3 (some .boolean) [.ref 135, .int s, .int k] (jM h P) (some (.int (nI 0))) (jM h P) := by
  refine jC_of jm_Model_isClass (L := [some (.ref 135), some (.int s), some (.int k)]) (Nat.le_of_ble_eq_true rfl) rfl (Or.inl rfl) ?_
  generalize hres : (((some (.int (nI 0))), jM h P) : Option Value × jH) = res
  refine j_aload_n d_Model_isClass_0 rfl ?_
  refine j_iload_n d_Model_isClass_1 rfl ?_
  refine j_callVs (As := [.int s]) (st := []) (c_holds hw) d_Model_isClass_2 (by decide) jm_Model_holds jk_Model_117 ji_Model_holds js_Model_holds rfl (by decide) rfl rfl (Nat.le_of_ble_eq_true rfl) rfl ?_
  refine j_if_neB (tgt := 10) d_Model_isClass_5 (by decide) (fun c1 => ?_) (fun c1 => ?_)
  · exact absurd c1 (by rw [hb]; decide)
  · refine j_iconst (v := nI 0) d_Model_isClass_8 rfl ?_
    subst hres
    exact j_reti d_Model_isClass_9 rfl rfl
theorem c_isClass {n : jN} {h : jH} {P : jP} {s my : Nat} (hw : ∀ q, tw (P q)) (hs : s < 6) (h0 : 0 < (P s).1) (hmy : h 135 13 = nI my) {k : Int32} : jC n 2 jy_Model_isClass jc_Model_isClass 3 (some .boolean) [.ref 135, .int (nI s), .int k] (jM h P) (some (.int (jbo (jmb (Mn (P s)) k)))) (jM (wkH h (P s)) P) := by
  have hns := (hw s).1
  have hMle : Mn (P s) ≤ 12 := Nat.le_trans (clF_le _ _) hns
  refine jC_of jm_Model_isClass (L := [some (.ref 135), some (.int (nI s)), some (.int k)]) (Nat.le_of_ble_eq_true rfl) rfl (jbo01 _) ?_
  generalize hres : (((some (.int (jbo (jmb (Mn (P s)) k)))), jM (wkH h (P s)) P) : Option Value × jH) = res
  refine j_aload_n d_Model_isClass_0 rfl ?_
  refine j_iload_n d_Model_isClass_1 rfl ?_
  refine j_callVs (As := [.int (nI s)]) (st := []) (c_holds hw) d_Model_isClass_2 (by decide) jm_Model_holds jk_Model_117 ji_Model_holds js_Model_holds rfl (by decide) rfl rfl (Nat.le_of_ble_eq_true rfl) rfl ?_
  refine j_if_neB_t (tgt := 10) d_Model_isClass_5 (by decide) (jho_y hs h0) ?_
  refine j_aload_n d_Model_isClass_10 rfl ?_
  refine j_iload_n d_Model_isClass_11 rfl ?_
  refine j_callVn (As := [.int (nI s)]) (st := []) (c_layWalks hw (by omega) hmy) d_Model_isClass_12 (by decide) jm_Model_layWalks jk_Model_192 ji_Model_layWalks js_Model_layWalks rfl (by decide) rfl rfl (Nat.le_of_ble_eq_true rfl) rfl ?_
  refine j_iload_n d_Model_isClass_15 rfl ?_
  refine j_if_lt (tgt := 31) d_Model_isClass_16 (by decide) (fun c => ?_) (fun c => ?_)
  · refine j_iconst (v := nI 0) d_Model_isClass_31 rfl ?_
    subst hres
    exact j_reti d_Model_isClass_32 (by rw [show jmb (Mn (P s)) k = false from by simp only [jmb, decide_eq_false_iff_not]; exact fun z => absurd z.1 (Int32.not_le.mpr c)]; rfl) rfl
  · refine j_iload_n d_Model_isClass_19 rfl ?_
    refine j_aload_n d_Model_isClass_20 rfl ?_
    refine j_getv (v := nI (Mn (P s))) d_Model_isClass_21 jf_Model_183 rfl rfl rfl ?_
    refine j_icmp_ge (tgt := 31) d_Model_isClass_24 (by decide) (fun c2 => ?_) (fun c2 => ?_)
    · refine j_iconst (v := nI 0) d_Model_isClass_31 rfl ?_
      subst hres
      exact j_reti d_Model_isClass_32 (by rw [show jmb (Mn (P s)) k = false from by simp only [jmb, decide_eq_false_iff_not]; exact fun z => absurd z.2 (Int32.not_lt.mpr c2)]; rfl) rfl
    · refine j_iconst (v := nI 1) d_Model_isClass_27 rfl ?_
      refine j_goto (tgt := 32) d_Model_isClass_28 (by decide) ?_
      subst hres
      exact j_reti d_Model_isClass_32 (by rw [show jmb (Mn (P s)) k = true from by simp only [jmb, decide_eq_true_eq]; exact ⟨Int32.not_lt.mp c, Int32.not_le.mp c2⟩]; rfl) rfl
theorem c_ofClass_bad {n : jN} {h : jH} {P : jP} {s k w : Int32} (hw : ∀ q, tw (P q)) (hb : jho P s = false) : jC n 3 jy_Model_ofClass jc_Model_ofClass 4 (some .int) [.ref 135, .int s, .int k, .int w] (jM h P) (some (.int (-1))) (jM h P) := by
  refine jC_of jm_Model_ofClass (L := [some (.ref 135), some (.int s), some (.int k), some (.int w)]) (Nat.le_of_ble_eq_true rfl) rfl trivial ?_
  generalize hres : (((some (.int (-1))), jM h P) : Option Value × jH) = res
  refine j_aload_n d_Model_ofClass_0 rfl ?_
  refine j_iload_n d_Model_ofClass_1 rfl ?_
  refine j_iload_n d_Model_ofClass_2 rfl ?_
  refine j_callVs (As := [.int s, .int k]) (st := []) (c_isClass_bad hw hb) d_Model_ofClass_3 (by decide) jm_Model_isClass jk_Model_195 ji_Model_isClass js_Model_isClass rfl (by decide) rfl rfl (Nat.le_of_ble_eq_true rfl) rfl ?_
  refine j_if_eqN_t (tgt := 21) d_Model_ofClass_6 (by decide) (by omega) (by decide) ?_
  refine j_iconst (v := -1) d_Model_ofClass_21 rfl ?_
  subst hres
  exact j_reti d_Model_ofClass_22 rfl rfl
theorem c_ofClass_bad1 {n : jN} {h : jH} {P : jP} {s my : Nat} (hw : ∀ q, tw (P q)) (hs : s < 6) (h0 : 0 < (P s).1) (hmy : h 135 13 = nI my) {k w : Int32} (hb : (jmb (Mn (P s)) k && jin w 0 7) = false) : jC n 3 jy_Model_ofClass jc_Model_ofClass 4 (some .int) [.ref 135, .int (nI s), .int k, .int w] (jM h P) (some (.int (-1))) (jM (wkH h (P s)) P) := by
  have hns := (hw s).1
  have hMle : Mn (P s) ≤ 12 := Nat.le_trans (clF_le _ _) hns
  refine jC_of jm_Model_ofClass (L := [some (.ref 135), some (.int (nI s)), some (.int k), some (.int w)]) (Nat.le_of_ble_eq_true rfl) rfl trivial ?_
  generalize hres : (((some (.int (-1))), jM (wkH h (P s)) P) : Option Value × jH) = res
  refine j_aload_n d_Model_ofClass_0 rfl ?_
  refine j_iload_n d_Model_ofClass_1 rfl ?_
  refine j_iload_n d_Model_ofClass_2 rfl ?_
  refine j_callVs (As := [.int (nI s), .int k]) (st := []) (c_isClass hw hs h0 hmy) d_Model_ofClass_3 (by decide) jm_Model_isClass jk_Model_195 ji_Model_isClass js_Model_isClass rfl (by decide) rfl rfl (Nat.le_of_ble_eq_true rfl) rfl ?_
  refine j_if_eqB (tgt := 21) d_Model_ofClass_6 (by decide) (fun c1 => ?_) (fun c1 => ?_)
  · refine j_iconst (v := -1) d_Model_ofClass_21 rfl ?_
    subst hres
    exact j_reti d_Model_ofClass_22 rfl rfl
  · refine j_iload_n d_Model_ofClass_9 rfl ?_
    refine j_i2l d_Model_ofClass_10 ?_
    refine j_lconst (v := 0) d_Model_ofClass_11 rfl ?_
    refine j_ldc2 (v := 7) d_Model_ofClass_12 jk_Model_162 ?_
    refine j_callSs (As := [.long w.toInt64, .long 0, .long 7]) (st := []) (c_in (x := w) (lo := 0) (hi := 7) rfl rfl rfl) d_Model_ofClass_15 (by decide) jm_Model_in jk_Model_107 js_Model_in rfl (Nat.le_of_ble_eq_true rfl) rfl ?_
    refine j_if_neB (tgt := 23) d_Model_ofClass_18 (by decide) (fun c2 => ?_) (fun c2 => ?_)
    · exact absurd hb (by simp [c1, c2])
    · refine j_iconst (v := -1) d_Model_ofClass_21 rfl ?_
      subst hres
      exact j_reti d_Model_ofClass_22 rfl rfl
theorem c_parts_bad {n : jN} {h : jH} {P : jP} {s k w : Int32} (hw : ∀ q, tw (P q)) (hb : jho P s = false) : jC n 3 jy_Model_parts jc_Model_parts 7 (some .int) [.ref 135, .int s, .int k, .int w] (jM h P) (some (.int (-1))) (jM h P) := by
  refine jC_of jm_Model_parts (L := [some (.ref 135), some (.int s), some (.int k), some (.int w), none, none, none]) (Nat.le_of_ble_eq_true rfl) rfl trivial ?_
  generalize hres : (((some (.int (-1))), jM h P) : Option Value × jH) = res
  refine j_aload_n d_Model_parts_0 rfl ?_
  refine j_iload_n d_Model_parts_1 rfl ?_
  refine j_iload_n d_Model_parts_2 rfl ?_
  refine j_callVs (As := [.int s, .int k]) (st := []) (c_isClass_bad hw hb) d_Model_parts_3 (by decide) jm_Model_isClass jk_Model_195 ji_Model_isClass js_Model_isClass rfl (by decide) rfl rfl (Nat.le_of_ble_eq_true rfl) rfl ?_
  refine j_if_neN_f (tgt := 11) d_Model_parts_6 (by decide) (by omega) (by decide) ?_
  refine j_iconst (v := -1) d_Model_parts_9 rfl ?_
  subst hres
  exact j_reti d_Model_parts_10 rfl rfl
theorem c_parts_bad1 {n : jN} {h : jH} {P : jP} {s my : Nat} (hw : ∀ q, tw (P q)) (hs : s < 6) (h0 : 0 < (P s).1) (hmy : h 135 13 = nI my) {k w : Int32} (hb : jmb (Mn (P s)) k = false) : jC n 3 jy_Model_parts jc_Model_parts 7 (some .int) [.ref 135, .int (nI s), .int k, .int w] (jM h P) (some (.int (-1))) (jM (wkH h (P s)) P) := by
  have hns := (hw s).1
  have hMle : Mn (P s) ≤ 12 := Nat.le_trans (clF_le _ _) hns
  refine jC_of jm_Model_parts (L := [some (.ref 135), some (.int (nI s)), some (.int k), some (.int w), none, none, none]) (Nat.le_of_ble_eq_true rfl) rfl trivial ?_
  generalize hres : (((some (.int (-1))), jM (wkH h (P s)) P) : Option Value × jH) = res
  refine j_aload_n d_Model_parts_0 rfl ?_
  refine j_iload_n d_Model_parts_1 rfl ?_
  refine j_iload_n d_Model_parts_2 rfl ?_
  refine j_callVs (As := [.int (nI s), .int k]) (st := []) (c_isClass hw hs h0 hmy) d_Model_parts_3 (by decide) jm_Model_isClass jk_Model_195 ji_Model_isClass js_Model_isClass rfl (by decide) rfl rfl (Nat.le_of_ble_eq_true rfl) rfl ?_
  refine j_if_neB (tgt := 11) d_Model_parts_6 (by decide) (fun c1 => ?_) (fun c1 => ?_)
  · exact absurd c1 (by rw [hb]; decide)
  · refine j_iconst (v := -1) d_Model_parts_9 rfl ?_
    subst hres
    exact j_reti d_Model_parts_10 rfl rfl
theorem c_rest_bad {n : jN} {h : jH} {P : jP} {s k w : Int32} (hw : ∀ q, tw (P q)) (hb : jho P s = false) : jC n 3 jy_Model_rest jc_Model_rest 6 (some .int) [.ref 135, .int s, .int k, .int w] (jM h P) (some (.int (-1))) (jM h P) := by
  refine jC_of jm_Model_rest (L := [some (.ref 135), some (.int s), some (.int k), some (.int w), none, none]) (Nat.le_of_ble_eq_true rfl) rfl trivial ?_
  generalize hres : (((some (.int (-1))), jM h P) : Option Value × jH) = res
  refine j_aload_n d_Model_rest_0 rfl ?_
  refine j_iload_n d_Model_rest_1 rfl ?_
  refine j_iload_n d_Model_rest_2 rfl ?_
  refine j_callVs (As := [.int s, .int k]) (st := []) (c_isClass_bad hw hb) d_Model_rest_3 (by decide) jm_Model_isClass jk_Model_195 ji_Model_isClass js_Model_isClass rfl (by decide) rfl rfl (Nat.le_of_ble_eq_true rfl) rfl ?_
  refine j_if_neN_f (tgt := 11) d_Model_rest_6 (by decide) (by omega) (by decide) ?_
  refine j_iconst (v := -1) d_Model_rest_9 rfl ?_
  subst hres
  exact j_reti d_Model_rest_10 rfl rfl
theorem c_rest_bad1 {n : jN} {h : jH} {P : jP} {s my : Nat} (hw : ∀ q, tw (P q)) (hs : s < 6) (h0 : 0 < (P s).1) (hmy : h 135 13 = nI my) {k w : Int32} (hb : jmb (Mn (P s)) k = false) : jC n 3 jy_Model_rest jc_Model_rest 6 (some .int) [.ref 135, .int (nI s), .int k, .int w] (jM h P) (some (.int (-1))) (jM (wkH h (P s)) P) := by
  have hns := (hw s).1
  have hMle : Mn (P s) ≤ 12 := Nat.le_trans (clF_le _ _) hns
  refine jC_of jm_Model_rest (L := [some (.ref 135), some (.int (nI s)), some (.int k), some (.int w), none, none]) (Nat.le_of_ble_eq_true rfl) rfl trivial ?_
  generalize hres : (((some (.int (-1))), jM (wkH h (P s)) P) : Option Value × jH) = res
  refine j_aload_n d_Model_rest_0 rfl ?_
  refine j_iload_n d_Model_rest_1 rfl ?_
  refine j_iload_n d_Model_rest_2 rfl ?_
  refine j_callVs (As := [.int (nI s), .int k]) (st := []) (c_isClass hw hs h0 hmy) d_Model_rest_3 (by decide) jm_Model_isClass jk_Model_195 ji_Model_isClass js_Model_isClass rfl (by decide) rfl rfl (Nat.le_of_ble_eq_true rfl) rfl ?_
  refine j_if_neB (tgt := 11) d_Model_rest_6 (by decide) (fun c1 => ?_) (fun c1 => ?_)
  · exact absurd c1 (by rw [hb]; decide)
  · refine j_iconst (v := -1) d_Model_rest_9 rfl ?_
    subst hres
    exact j_reti d_Model_rest_10 rfl rfl
theorem c_ofClass0 {n : jN} {h : jH} {P : jP} {s my : Nat} (hw : ∀ q, tw (P q)) (hs : s < 6) (h0 : 0 < (P s).1) (hmy : h 135 13 = nI my) {k : Nat} (hk : k < Mn (P s)) {l : Nat} (hl : l < (P s).1) (hl1 : Cl (P s) l = k) (hl2 : ∀ i, i < l → ¬ Cl (P s) i = k) : jC n 3 jy_Model_ofClass jc_Model_ofClass 4 (some .int) [.ref 135, .int (nI s), .int (nI k), .int (nI 0)] (jM h P) (some (.int (nI l))) (jM (wkH h (P s)) P) := by
  have hns := (hw s).1
  have hMle : Mn (P s) ≤ 12 := Nat.le_trans (clF_le _ _) hns
  refine jC_of jm_Model_ofClass (L := [some (.ref 135), some (.int (nI s)), some (.int (nI k)), some (.int (nI 0))]) (Nat.le_of_ble_eq_true rfl) rfl trivial ?_
  generalize hres : (((some (.int (nI l))), jM (wkH h (P s)) P) : Option Value × jH) = res
  refine j_aload_n d_Model_ofClass_0 rfl ?_
  refine j_iload_n d_Model_ofClass_1 rfl ?_
  refine j_iload_n d_Model_ofClass_2 rfl ?_
  refine j_callVs (As := [.int (nI s), .int (nI k)]) (st := []) (c_isClass hw hs h0 hmy) d_Model_ofClass_3 (by decide) jm_Model_isClass jk_Model_195 ji_Model_isClass js_Model_isClass rfl (by decide) rfl rfl (Nat.le_of_ble_eq_true rfl) rfl ?_
  refine j_if_eqB_f (tgt := 21) d_Model_ofClass_6 (by decide) (jmb_y hMle hk) ?_
  refine j_iload_n d_Model_ofClass_9 rfl ?_
  refine j_i2l d_Model_ofClass_10 ?_
  refine j_lconst (v := 0) d_Model_ofClass_11 rfl ?_
  refine j_ldc2 (v := 7) d_Model_ofClass_12 jk_Model_162 ?_
  refine j_callSs (As := [.long ((nI 0).toInt64), .long 0, .long 7]) (st := []) (c_in (x := (nI 0)) (lo := 0) (hi := 7) rfl rfl rfl) d_Model_ofClass_15 (by decide) jm_Model_in jk_Model_107 js_Model_in rfl (Nat.le_of_ble_eq_true rfl) rfl ?_
  refine j_if_neB_t (tgt := 23) d_Model_ofClass_18 (by decide) (jin_y (by omega) (by omega) (by omega)) ?_
  refine j_iload_n d_Model_ofClass_23 rfl ?_
  refine j_swIn (off := 44) (tgt := 68) d_Model_ofClass_24 (by decide) (by decide) rfl (by decide) ?_
  refine j_aload_n d_Model_ofClass_68 rfl ?_
  refine j_iload_n d_Model_ofClass_69 rfl ?_
  refine j_callVs (As := [.int (nI k)]) (st := []) (c_leastOf hw hs (jko_W (hw s)) (by omega) hl hl1 hl2) d_Model_ofClass_70 (by decide) jm_Model_leastOf jk_Model_189 ji_Model_leastOf js_Model_leastOf rfl (by decide) rfl rfl (Nat.le_of_ble_eq_true rfl) rfl ?_
  subst hres
  exact j_reti d_Model_ofClass_73 rfl rfl
theorem c_ofClass1 {n : jN} {h : jH} {P : jP} {s my : Nat} (hw : ∀ q, tw (P q)) (hs : s < 6) (h0 : 0 < (P s).1) (hmy : h 135 13 = nI my) {k : Nat} (hk : k < Mn (P s))  : jC n 3 jy_Model_ofClass jc_Model_ofClass 4 (some .int) [.ref 135, .int (nI s), .int (nI k), .int (nI 1)] (jM h P) (some (.int (nI (jpc (memb (Cl (P s)) k (P s).1))))) (jM (wkH h (P s)) P) := by
  have hns := (hw s).1
  have hMle : Mn (P s) ≤ 12 := Nat.le_trans (clF_le _ _) hns
  refine jC_of jm_Model_ofClass (L := [some (.ref 135), some (.int (nI s)), some (.int (nI k)), some (.int (nI 1))]) (Nat.le_of_ble_eq_true rfl) rfl trivial ?_
  generalize hres : (((some (.int (nI (jpc (memb (Cl (P s)) k (P s).1))))), jM (wkH h (P s)) P) : Option Value × jH) = res
  refine j_aload_n d_Model_ofClass_0 rfl ?_
  refine j_iload_n d_Model_ofClass_1 rfl ?_
  refine j_iload_n d_Model_ofClass_2 rfl ?_
  refine j_callVs (As := [.int (nI s), .int (nI k)]) (st := []) (c_isClass hw hs h0 hmy) d_Model_ofClass_3 (by decide) jm_Model_isClass jk_Model_195 ji_Model_isClass js_Model_isClass rfl (by decide) rfl rfl (Nat.le_of_ble_eq_true rfl) rfl ?_
  refine j_if_eqB_f (tgt := 21) d_Model_ofClass_6 (by decide) (jmb_y hMle hk) ?_
  refine j_iload_n d_Model_ofClass_9 rfl ?_
  refine j_i2l d_Model_ofClass_10 ?_
  refine j_lconst (v := 0) d_Model_ofClass_11 rfl ?_
  refine j_ldc2 (v := 7) d_Model_ofClass_12 jk_Model_162 ?_
  refine j_callSs (As := [.long ((nI 1).toInt64), .long 0, .long 7]) (st := []) (c_in (x := (nI 1)) (lo := 0) (hi := 7) rfl rfl rfl) d_Model_ofClass_15 (by decide) jm_Model_in jk_Model_107 js_Model_in rfl (Nat.le_of_ble_eq_true rfl) rfl ?_
  refine j_if_neB_t (tgt := 23) d_Model_ofClass_18 (by decide) (jin_y (by omega) (by omega) (by omega)) ?_
  refine j_iload_n d_Model_ofClass_23 rfl ?_
  refine j_swIn (off := 50) (tgt := 74) d_Model_ofClass_24 (by decide) (by decide) rfl (by decide) ?_
  refine j_aload_n d_Model_ofClass_74 rfl ?_
  refine j_iload_n d_Model_ofClass_75 rfl ?_
  refine j_iload_n d_Model_ofClass_76 rfl ?_
  refine j_callVs (As := [.int (nI s), .int (nI k)]) (st := []) (c_membersOf hw hs (jko_W (hw s)) (by omega)) d_Model_ofClass_77 (by decide) jm_Model_membersOf jk_Model_198 ji_Model_membersOf js_Model_membersOf rfl (by decide) rfl rfl (Nat.le_of_ble_eq_true rfl) rfl ?_
  refine j_callSs (As := [.int (nI (memb (Cl (P s)) k (P s).1))]) (st := []) (c_bits (by first | exact jor_lt (m := 12) (fun i hi => by split; exact p2_lt (by omega); omega) | exact jor_lt (m := 12) (fun i hi => by split; exact p2_lt (Nat.lt_of_lt_of_le (clF_lt _ _ i hi) hMle); omega))) d_Model_ofClass_80 (by decide) jm_Model_bits jk_Model_159 js_Model_bits rfl (Nat.le_of_ble_eq_true rfl) rfl ?_
  subst hres
  exact j_reti d_Model_ofClass_83 rfl rfl
theorem c_ofClass2 {n : jN} {h : jH} {P : jP} {s my : Nat} (hw : ∀ q, tw (P q)) (hs : s < 6) (h0 : 0 < (P s).1) (hmy : h 135 13 = nI my) {k : Nat} (hk : k < Mn (P s))  : jC n 3 jy_Model_ofClass jc_Model_ofClass 4 (some .int) [.ref 135, .int (nI s), .int (nI k), .int (nI 2)] (jM h P) (some (.int (nI (dvO (rou (Cl (P s)) (wk (P s)) k) (P s).1 (P s).1)))) (jM (wkH h (P s)) P) := by
  have hns := (hw s).1
  have hMle : Mn (P s) ≤ 12 := Nat.le_trans (clF_le _ _) hns
  refine jC_of jm_Model_ofClass (L := [some (.ref 135), some (.int (nI s)), some (.int (nI k)), some (.int (nI 2))]) (Nat.le_of_ble_eq_true rfl) rfl trivial ?_
  generalize hres : (((some (.int (nI (dvO (rou (Cl (P s)) (wk (P s)) k) (P s).1 (P s).1)))), jM (wkH h (P s)) P) : Option Value × jH) = res
  refine j_aload_n d_Model_ofClass_0 rfl ?_
  refine j_iload_n d_Model_ofClass_1 rfl ?_
  refine j_iload_n d_Model_ofClass_2 rfl ?_
  refine j_callVs (As := [.int (nI s), .int (nI k)]) (st := []) (c_isClass hw hs h0 hmy) d_Model_ofClass_3 (by decide) jm_Model_isClass jk_Model_195 ji_Model_isClass js_Model_isClass rfl (by decide) rfl rfl (Nat.le_of_ble_eq_true rfl) rfl ?_
  refine j_if_eqB_f (tgt := 21) d_Model_ofClass_6 (by decide) (jmb_y hMle hk) ?_
  refine j_iload_n d_Model_ofClass_9 rfl ?_
  refine j_i2l d_Model_ofClass_10 ?_
  refine j_lconst (v := 0) d_Model_ofClass_11 rfl ?_
  refine j_ldc2 (v := 7) d_Model_ofClass_12 jk_Model_162 ?_
  refine j_callSs (As := [.long ((nI 2).toInt64), .long 0, .long 7]) (st := []) (c_in (x := (nI 2)) (lo := 0) (hi := 7) rfl rfl rfl) d_Model_ofClass_15 (by decide) jm_Model_in jk_Model_107 js_Model_in rfl (Nat.le_of_ble_eq_true rfl) rfl ?_
  refine j_if_neB_t (tgt := 23) d_Model_ofClass_18 (by decide) (jin_y (by omega) (by omega) (by omega)) ?_
  refine j_iload_n d_Model_ofClass_23 rfl ?_
  refine j_swIn (off := 60) (tgt := 84) d_Model_ofClass_24 (by decide) (by decide) rfl (by decide) ?_
  refine j_aload_n d_Model_ofClass_84 rfl ?_
  refine j_iload_n d_Model_ofClass_85 rfl ?_
  refine j_iload_n d_Model_ofClass_86 rfl ?_
  refine j_iconst (v := nI 0) d_Model_ofClass_87 rfl ?_
  refine j_callVs (As := [.int (nI s), .int (nI k), .int (nI 0)]) (st := []) (c_roundsOf0 hw hs (jko_W (hw s)) (by omega)) d_Model_ofClass_88 (by decide) jm_Model_roundsOf jk_Model_201 ji_Model_roundsOf js_Model_roundsOf rfl (by decide) rfl rfl (Nat.le_of_ble_eq_true rfl) rfl ?_
  subst hres
  exact j_reti d_Model_ofClass_91 rfl rfl
theorem c_ofClass3 {n : jN} {h : jH} {P : jP} {s my : Nat} (hw : ∀ q, tw (P q)) (hs : s < 6) (h0 : 0 < (P s).1) (hmy : h 135 13 = nI my) {k : Nat} (hk : k < Mn (P s))  : jC n 3 jy_Model_ofClass jc_Model_ofClass 4 (some .int) [.ref 135, .int (nI s), .int (nI k), .int (nI 3)] (jM h P) (some (.int (nI (fiO (rou (Cl (P s)) (wk (P s)) k) (P s).1 (P s).1)))) (jM (wkH h (P s)) P) := by
  have hns := (hw s).1
  have hMle : Mn (P s) ≤ 12 := Nat.le_trans (clF_le _ _) hns
  refine jC_of jm_Model_ofClass (L := [some (.ref 135), some (.int (nI s)), some (.int (nI k)), some (.int (nI 3))]) (Nat.le_of_ble_eq_true rfl) rfl trivial ?_
  generalize hres : (((some (.int (nI (fiO (rou (Cl (P s)) (wk (P s)) k) (P s).1 (P s).1)))), jM (wkH h (P s)) P) : Option Value × jH) = res
  refine j_aload_n d_Model_ofClass_0 rfl ?_
  refine j_iload_n d_Model_ofClass_1 rfl ?_
  refine j_iload_n d_Model_ofClass_2 rfl ?_
  refine j_callVs (As := [.int (nI s), .int (nI k)]) (st := []) (c_isClass hw hs h0 hmy) d_Model_ofClass_3 (by decide) jm_Model_isClass jk_Model_195 ji_Model_isClass js_Model_isClass rfl (by decide) rfl rfl (Nat.le_of_ble_eq_true rfl) rfl ?_
  refine j_if_eqB_f (tgt := 21) d_Model_ofClass_6 (by decide) (jmb_y hMle hk) ?_
  refine j_iload_n d_Model_ofClass_9 rfl ?_
  refine j_i2l d_Model_ofClass_10 ?_
  refine j_lconst (v := 0) d_Model_ofClass_11 rfl ?_
  refine j_ldc2 (v := 7) d_Model_ofClass_12 jk_Model_162 ?_
  refine j_callSs (As := [.long ((nI 3).toInt64), .long 0, .long 7]) (st := []) (c_in (x := (nI 3)) (lo := 0) (hi := 7) rfl rfl rfl) d_Model_ofClass_15 (by decide) jm_Model_in jk_Model_107 js_Model_in rfl (Nat.le_of_ble_eq_true rfl) rfl ?_
  refine j_if_neB_t (tgt := 23) d_Model_ofClass_18 (by decide) (jin_y (by omega) (by omega) (by omega)) ?_
  refine j_iload_n d_Model_ofClass_23 rfl ?_
  refine j_swIn (off := 68) (tgt := 92) d_Model_ofClass_24 (by decide) (by decide) rfl (by decide) ?_
  refine j_aload_n d_Model_ofClass_92 rfl ?_
  refine j_iload_n d_Model_ofClass_93 rfl ?_
  refine j_iload_n d_Model_ofClass_94 rfl ?_
  refine j_iconst (v := nI 1) d_Model_ofClass_95 rfl ?_
  refine j_callVs (As := [.int (nI s), .int (nI k), .int (nI 1)]) (st := []) (c_roundsOf1 hw hs (jko_W (hw s)) (by omega)) d_Model_ofClass_96 (by decide) jm_Model_roundsOf jk_Model_201 ji_Model_roundsOf js_Model_roundsOf rfl (by decide) rfl rfl (Nat.le_of_ble_eq_true rfl) rfl ?_
  subst hres
  exact j_reti d_Model_ofClass_99 rfl rfl
theorem c_ofClass4 {n : jN} {h : jH} {P : jP} {s my : Nat} (hw : ∀ q, tw (P q)) (hs : s < 6) (h0 : 0 < (P s).1) (hmy : h 135 13 = nI my) {k : Nat} (hk : k < Mn (P s)) {t0 : Nat} (hf : (lvT (P s) (Cl (P s)) t0).2 = false) (hg : ∀ t, t < t0 → (lvT (P s) (Cl (P s)) t).2 = true) (hlb : ∀ t e x, t < t0 → e < (P s).1 * (P s).1 → (lvF (P s) (Cl (P s)) e ((lvT (P s) (Cl (P s)) t).1, false)).1 x ≤ 1000) (hlb2 : ∀ x, (lvT (P s) (Cl (P s)) t0).1 x ≤ 1000) : jC n 3 jy_Model_ofClass jc_Model_ofClass 4 (some .int) [.ref 135, .int (nI s), .int (nI k), .int (nI 4)] (jM h P) (some (.int (nI ((lvT (P s) (Cl (P s)) t0).1 k)))) (jM (jV (wkH h (P s)) (fun z => if z < Mn (P s) then nI ((lvT (P s) (Cl (P s)) t0).1 z) else (wkH h (P s)) 146 z)) P) := by
  have hns := (hw s).1
  have hMle : Mn (P s) ≤ 12 := Nat.le_trans (clF_le _ _) hns
  refine jC_of jm_Model_ofClass (L := [some (.ref 135), some (.int (nI s)), some (.int (nI k)), some (.int (nI 4))]) (Nat.le_of_ble_eq_true rfl) rfl trivial ?_
  generalize hres : (((some (.int (nI ((lvT (P s) (Cl (P s)) t0).1 k)))), jM (jV (wkH h (P s)) (fun z => if z < Mn (P s) then nI ((lvT (P s) (Cl (P s)) t0).1 z) else (wkH h (P s)) 146 z)) P) : Option Value × jH) = res
  refine j_aload_n d_Model_ofClass_0 rfl ?_
  refine j_iload_n d_Model_ofClass_1 rfl ?_
  refine j_iload_n d_Model_ofClass_2 rfl ?_
  refine j_callVs (As := [.int (nI s), .int (nI k)]) (st := []) (c_isClass hw hs h0 hmy) d_Model_ofClass_3 (by decide) jm_Model_isClass jk_Model_195 ji_Model_isClass js_Model_isClass rfl (by decide) rfl rfl (Nat.le_of_ble_eq_true rfl) rfl ?_
  refine j_if_eqB_f (tgt := 21) d_Model_ofClass_6 (by decide) (jmb_y hMle hk) ?_
  refine j_iload_n d_Model_ofClass_9 rfl ?_
  refine j_i2l d_Model_ofClass_10 ?_
  refine j_lconst (v := 0) d_Model_ofClass_11 rfl ?_
  refine j_ldc2 (v := 7) d_Model_ofClass_12 jk_Model_162 ?_
  refine j_callSs (As := [.long ((nI 4).toInt64), .long 0, .long 7]) (st := []) (c_in (x := (nI 4)) (lo := 0) (hi := 7) rfl rfl rfl) d_Model_ofClass_15 (by decide) jm_Model_in jk_Model_107 js_Model_in rfl (Nat.le_of_ble_eq_true rfl) rfl ?_
  refine j_if_neB_t (tgt := 23) d_Model_ofClass_18 (by decide) (jin_y (by omega) (by omega) (by omega)) ?_
  refine j_iload_n d_Model_ofClass_23 rfl ?_
  refine j_swIn (off := 76) (tgt := 100) d_Model_ofClass_24 (by decide) (by decide) rfl (by decide) ?_
  refine j_aload_n d_Model_ofClass_100 rfl ?_
  refine j_iload_n d_Model_ofClass_101 rfl ?_
  refine j_iload_n d_Model_ofClass_102 rfl ?_
  refine j_callVs (As := [.int (nI s), .int (nI k)]) (st := []) (c_levelOf hw hs (jko_W (hw s)) h0 hk hf hg hlb hlb2) d_Model_ofClass_103 (by decide) jm_Model_levelOf jk_Model_205 ji_Model_levelOf js_Model_levelOf rfl (by decide) rfl rfl (Nat.le_of_ble_eq_true rfl) rfl ?_
  subst hres
  exact j_reti d_Model_ofClass_106 rfl rfl
theorem c_ofClass5 {n : jN} {h : jH} {P : jP} {s my : Nat} (hw : ∀ q, tw (P q)) (hs : s < 6) (h0 : 0 < (P s).1) (hmy : h 135 13 = nI my) {k : Nat} (hk : k < Mn (P s))  : jC n 3 jy_Model_ofClass jc_Model_ofClass 4 (some .int) [.ref 135, .int (nI s), .int (nI k), .int (nI 5)] (jM h P) (some (.int (nI (memb (Cl (P s)) k (P s).1)))) (jM (wkH h (P s)) P) := by
  have hns := (hw s).1
  have hMle : Mn (P s) ≤ 12 := Nat.le_trans (clF_le _ _) hns
  refine jC_of jm_Model_ofClass (L := [some (.ref 135), some (.int (nI s)), some (.int (nI k)), some (.int (nI 5))]) (Nat.le_of_ble_eq_true rfl) rfl trivial ?_
  generalize hres : (((some (.int (nI (memb (Cl (P s)) k (P s).1)))), jM (wkH h (P s)) P) : Option Value × jH) = res
  refine j_aload_n d_Model_ofClass_0 rfl ?_
  refine j_iload_n d_Model_ofClass_1 rfl ?_
  refine j_iload_n d_Model_ofClass_2 rfl ?_
  refine j_callVs (As := [.int (nI s), .int (nI k)]) (st := []) (c_isClass hw hs h0 hmy) d_Model_ofClass_3 (by decide) jm_Model_isClass jk_Model_195 ji_Model_isClass js_Model_isClass rfl (by decide) rfl rfl (Nat.le_of_ble_eq_true rfl) rfl ?_
  refine j_if_eqB_f (tgt := 21) d_Model_ofClass_6 (by decide) (jmb_y hMle hk) ?_
  refine j_iload_n d_Model_ofClass_9 rfl ?_
  refine j_i2l d_Model_ofClass_10 ?_
  refine j_lconst (v := 0) d_Model_ofClass_11 rfl ?_
  refine j_ldc2 (v := 7) d_Model_ofClass_12 jk_Model_162 ?_
  refine j_callSs (As := [.long ((nI 5).toInt64), .long 0, .long 7]) (st := []) (c_in (x := (nI 5)) (lo := 0) (hi := 7) rfl rfl rfl) d_Model_ofClass_15 (by decide) jm_Model_in jk_Model_107 js_Model_in rfl (Nat.le_of_ble_eq_true rfl) rfl ?_
  refine j_if_neB_t (tgt := 23) d_Model_ofClass_18 (by decide) (jin_y (by omega) (by omega) (by omega)) ?_
  refine j_iload_n d_Model_ofClass_23 rfl ?_
  refine j_swIn (off := 83) (tgt := 107) d_Model_ofClass_24 (by decide) (by decide) rfl (by decide) ?_
  refine j_aload_n d_Model_ofClass_107 rfl ?_
  refine j_iload_n d_Model_ofClass_108 rfl ?_
  refine j_iload_n d_Model_ofClass_109 rfl ?_
  refine j_callVs (As := [.int (nI s), .int (nI k)]) (st := []) (c_membersOf hw hs (jko_W (hw s)) (by omega)) d_Model_ofClass_110 (by decide) jm_Model_membersOf jk_Model_198 ji_Model_membersOf js_Model_membersOf rfl (by decide) rfl rfl (Nat.le_of_ble_eq_true rfl) rfl ?_
  subst hres
  exact j_reti d_Model_ofClass_113 rfl rfl
theorem c_ofClass6 {n : jN} {h : jH} {P : jP} {s my : Nat} (hw : ∀ q, tw (P q)) (hs : s < 6) (h0 : 0 < (P s).1) (hmy : h 135 13 = nI my) {k : Nat} (hk : k < Mn (P s)) {l : Nat} (hl : l < (P s).1) (hl1 : Cl (P s) l = k) (hl2 : ∀ i, i < l → ¬ Cl (P s) i = k) : jC n 3 jy_Model_ofClass jc_Model_ofClass 4 (some .int) [.ref 135, .int (nI s), .int (nI k), .int (nI 6)] (jM h P) (some (.int (nI (jpc (blw (Cl (P s)) (rc (P s) (P s).1 l) k (P s).1))))) (jM (wkH h (P s)) P) := by
  have hns := (hw s).1
  have hMle : Mn (P s) ≤ 12 := Nat.le_trans (clF_le _ _) hns
  refine jC_of jm_Model_ofClass (L := [some (.ref 135), some (.int (nI s)), some (.int (nI k)), some (.int (nI 6))]) (Nat.le_of_ble_eq_true rfl) rfl trivial ?_
  generalize hres : (((some (.int (nI (jpc (blw (Cl (P s)) (rc (P s) (P s).1 l) k (P s).1))))), jM (wkH h (P s)) P) : Option Value × jH) = res
  refine j_aload_n d_Model_ofClass_0 rfl ?_
  refine j_iload_n d_Model_ofClass_1 rfl ?_
  refine j_iload_n d_Model_ofClass_2 rfl ?_
  refine j_callVs (As := [.int (nI s), .int (nI k)]) (st := []) (c_isClass hw hs h0 hmy) d_Model_ofClass_3 (by decide) jm_Model_isClass jk_Model_195 ji_Model_isClass js_Model_isClass rfl (by decide) rfl rfl (Nat.le_of_ble_eq_true rfl) rfl ?_
  refine j_if_eqB_f (tgt := 21) d_Model_ofClass_6 (by decide) (jmb_y hMle hk) ?_
  refine j_iload_n d_Model_ofClass_9 rfl ?_
  refine j_i2l d_Model_ofClass_10 ?_
  refine j_lconst (v := 0) d_Model_ofClass_11 rfl ?_
  refine j_ldc2 (v := 7) d_Model_ofClass_12 jk_Model_162 ?_
  refine j_callSs (As := [.long ((nI 6).toInt64), .long 0, .long 7]) (st := []) (c_in (x := (nI 6)) (lo := 0) (hi := 7) rfl rfl rfl) d_Model_ofClass_15 (by decide) jm_Model_in jk_Model_107 js_Model_in rfl (Nat.le_of_ble_eq_true rfl) rfl ?_
  refine j_if_neB_t (tgt := 23) d_Model_ofClass_18 (by decide) (jin_y (by omega) (by omega) (by omega)) ?_
  refine j_iload_n d_Model_ofClass_23 rfl ?_
  refine j_swIn (off := 90) (tgt := 114) d_Model_ofClass_24 (by decide) (by decide) rfl (by decide) ?_
  refine j_aload_n d_Model_ofClass_114 rfl ?_
  refine j_iload_n d_Model_ofClass_115 rfl ?_
  refine j_iload_n d_Model_ofClass_116 rfl ?_
  refine j_callVs (As := [.int (nI s), .int (nI k)]) (st := []) (c_belowOf hw hs (jko_W (hw s)) (by omega) hl hl1 hl2) d_Model_ofClass_117 (by decide) jm_Model_belowOf jk_Model_208 ji_Model_belowOf js_Model_belowOf rfl (by decide) rfl rfl (Nat.le_of_ble_eq_true rfl) rfl ?_
  refine j_callSs (As := [.int (nI (blw (Cl (P s)) (rc (P s) (P s).1 l) k (P s).1))]) (st := []) (c_bits (by first | exact jor_lt (m := 12) (fun i hi => by split; exact p2_lt (by omega); omega) | exact jor_lt (m := 12) (fun i hi => by split; exact p2_lt (Nat.lt_of_lt_of_le (clF_lt _ _ i hi) hMle); omega))) d_Model_ofClass_120 (by decide) jm_Model_bits jk_Model_159 js_Model_bits rfl (Nat.le_of_ble_eq_true rfl) rfl ?_
  subst hres
  exact j_reti d_Model_ofClass_123 rfl rfl
theorem c_ofClass7 {n : jN} {h : jH} {P : jP} {s my : Nat} (hw : ∀ q, tw (P q)) (hs : s < 6) (h0 : 0 < (P s).1) (hmy : h 135 13 = nI my) {k : Nat} (hk : k < Mn (P s)) {l : Nat} (hl : l < (P s).1) (hl1 : Cl (P s) l = k) (hl2 : ∀ i, i < l → ¬ Cl (P s) i = k) : jC n 3 jy_Model_ofClass jc_Model_ofClass 4 (some .int) [.ref 135, .int (nI s), .int (nI k), .int (nI 7)] (jM h P) (some (.int (nI (blw (Cl (P s)) (rc (P s) (P s).1 l) k (P s).1)))) (jM (wkH h (P s)) P) := by
  have hns := (hw s).1
  have hMle : Mn (P s) ≤ 12 := Nat.le_trans (clF_le _ _) hns
  refine jC_of jm_Model_ofClass (L := [some (.ref 135), some (.int (nI s)), some (.int (nI k)), some (.int (nI 7))]) (Nat.le_of_ble_eq_true rfl) rfl trivial ?_
  generalize hres : (((some (.int (nI (blw (Cl (P s)) (rc (P s) (P s).1 l) k (P s).1)))), jM (wkH h (P s)) P) : Option Value × jH) = res
  refine j_aload_n d_Model_ofClass_0 rfl ?_
  refine j_iload_n d_Model_ofClass_1 rfl ?_
  refine j_iload_n d_Model_ofClass_2 rfl ?_
  refine j_callVs (As := [.int (nI s), .int (nI k)]) (st := []) (c_isClass hw hs h0 hmy) d_Model_ofClass_3 (by decide) jm_Model_isClass jk_Model_195 ji_Model_isClass js_Model_isClass rfl (by decide) rfl rfl (Nat.le_of_ble_eq_true rfl) rfl ?_
  refine j_if_eqB_f (tgt := 21) d_Model_ofClass_6 (by decide) (jmb_y hMle hk) ?_
  refine j_iload_n d_Model_ofClass_9 rfl ?_
  refine j_i2l d_Model_ofClass_10 ?_
  refine j_lconst (v := 0) d_Model_ofClass_11 rfl ?_
  refine j_ldc2 (v := 7) d_Model_ofClass_12 jk_Model_162 ?_
  refine j_callSs (As := [.long ((nI 7).toInt64), .long 0, .long 7]) (st := []) (c_in (x := (nI 7)) (lo := 0) (hi := 7) rfl rfl rfl) d_Model_ofClass_15 (by decide) jm_Model_in jk_Model_107 js_Model_in rfl (Nat.le_of_ble_eq_true rfl) rfl ?_
  refine j_if_neB_t (tgt := 23) d_Model_ofClass_18 (by decide) (jin_y (by omega) (by omega) (by omega)) ?_
  refine j_iload_n d_Model_ofClass_23 rfl ?_
  refine j_swOut (tgt := 124) d_Model_ofClass_24 (by decide) (by decide) ?_
  refine j_aload_n d_Model_ofClass_124 rfl ?_
  refine j_iload_n d_Model_ofClass_125 rfl ?_
  refine j_iload_n d_Model_ofClass_126 rfl ?_
  refine j_callVs (As := [.int (nI s), .int (nI k)]) (st := []) (c_belowOf hw hs (jko_W (hw s)) (by omega) hl hl1 hl2) d_Model_ofClass_127 (by decide) jm_Model_belowOf jk_Model_208 ji_Model_belowOf js_Model_belowOf rfl (by decide) rfl rfl (Nat.le_of_ble_eq_true rfl) rfl ?_
  subst hres
  exact j_reti d_Model_ofClass_130 rfl rfl
theorem c_rest0 {n : jN} {h : jH} {P : jP} {s my : Nat} (hw : ∀ q, tw (P q)) (hs : s < 6) (h0 : 0 < (P s).1) (hmy : h 135 13 = nI my) {k : Nat} {d : Int32} (hk : k < Mn (P s)) (hp0 : dvO (rou (Cl (P s)) (wk (P s)) k) (P s).1 (P s).1 = 0) : jC n 3 jy_Model_rest jc_Model_rest 6 (some .int) [.ref 135, .int (nI s), .int (nI k), .int d] (jM h P) (some (.int (-15))) (jM (wkH h (P s)) P) := by
  have hns := (hw s).1
  have hMle : Mn (P s) ≤ 12 := Nat.le_trans (clF_le _ _) hns
  refine jC_of jm_Model_rest (L := [some (.ref 135), some (.int (nI s)), some (.int (nI k)), some (.int d), none, none]) (Nat.le_of_ble_eq_true rfl) rfl trivial ?_
  generalize hres : (((some (.int (-15))), jM (wkH h (P s)) P) : Option Value × jH) = res
  have hdv : dvO (rou (Cl (P s)) (wk (P s)) k) (P s).1 (P s).1 ≤ 12 := dvO_le _ (by omega)
  refine j_aload_n d_Model_rest_0 rfl ?_
  refine j_iload_n d_Model_rest_1 rfl ?_
  refine j_iload_n d_Model_rest_2 rfl ?_
  refine j_callVs (As := [.int (nI s), .int (nI k)]) (st := []) (c_isClass hw hs h0 hmy) d_Model_rest_3 (by decide) jm_Model_isClass jk_Model_195 ji_Model_isClass js_Model_isClass rfl (by decide) rfl rfl (Nat.le_of_ble_eq_true rfl) rfl ?_
  refine j_if_neB_t (tgt := 11) d_Model_rest_6 (by decide) (jmb_y hMle hk) ?_
  refine j_aload_n d_Model_rest_11 rfl ?_
  refine j_iload_n d_Model_rest_12 rfl ?_
  refine j_iload_n d_Model_rest_13 rfl ?_
  refine j_iconst (v := nI 0) d_Model_rest_14 rfl ?_
  refine j_callVs (As := [.int (nI s), .int (nI k), .int (nI 0)]) (st := []) (c_roundsOf0 hw hs (jko_W (hw s)) (by omega)) d_Model_rest_15 (by decide) jm_Model_roundsOf jk_Model_201 ji_Model_roundsOf js_Model_roundsOf rfl (by decide) rfl rfl (Nat.le_of_ble_eq_true rfl) rfl ?_
  refine j_istore (L' := [some (.ref 135), some (.int (nI s)), some (.int (nI k)), some (.int d), some (.int (nI (dvO (rou (Cl (P s)) (wk (P s)) k) (P s).1 (P s).1))), none]) d_Model_rest_18 (by decide) rfl rfl ?_
  refine j_iload d_Model_rest_20 rfl ?_
  refine j_if_neN_f (tgt := 28) d_Model_rest_22 (by decide) (by omega) hp0 ?_
  refine j_bipush (v := -15) d_Model_rest_25 (by decide) ?_
  subst hres
  exact j_reti d_Model_rest_27 rfl rfl
theorem c_parts0 {n : jN} {h : jH} {P : jP} {s my : Nat} (hw : ∀ q, tw (P q)) (hs : s < 6) (h0 : 0 < (P s).1) (hmy : h 135 13 = nI my) {k : Nat} {d : Int32} (hk : k < Mn (P s)) (hp0 : dvO (rou (Cl (P s)) (wk (P s)) k) (P s).1 (P s).1 = 0) : jC n 3 jy_Model_parts jc_Model_parts 7 (some .int) [.ref 135, .int (nI s), .int (nI k), .int d] (jM h P) (some (.int (-15))) (jM (wkH h (P s)) P) := by
  have hns := (hw s).1
  have hMle : Mn (P s) ≤ 12 := Nat.le_trans (clF_le _ _) hns
  refine jC_of jm_Model_parts (L := [some (.ref 135), some (.int (nI s)), some (.int (nI k)), some (.int d), none, none, none]) (Nat.le_of_ble_eq_true rfl) rfl trivial ?_
  generalize hres : (((some (.int (-15))), jM (wkH h (P s)) P) : Option Value × jH) = res
  have hdv : dvO (rou (Cl (P s)) (wk (P s)) k) (P s).1 (P s).1 ≤ 12 := dvO_le _ (by omega)
  refine j_aload_n d_Model_parts_0 rfl ?_
  refine j_iload_n d_Model_parts_1 rfl ?_
  refine j_iload_n d_Model_parts_2 rfl ?_
  refine j_callVs (As := [.int (nI s), .int (nI k)]) (st := []) (c_isClass hw hs h0 hmy) d_Model_parts_3 (by decide) jm_Model_isClass jk_Model_195 ji_Model_isClass js_Model_isClass rfl (by decide) rfl rfl (Nat.le_of_ble_eq_true rfl) rfl ?_
  refine j_if_neB_t (tgt := 11) d_Model_parts_6 (by decide) (jmb_y hMle hk) ?_
  refine j_aload_n d_Model_parts_11 rfl ?_
  refine j_iload_n d_Model_parts_12 rfl ?_
  refine j_iload_n d_Model_parts_13 rfl ?_
  refine j_iconst (v := nI 0) d_Model_parts_14 rfl ?_
  refine j_callVs (As := [.int (nI s), .int (nI k), .int (nI 0)]) (st := []) (c_roundsOf0 hw hs (jko_W (hw s)) (by omega)) d_Model_parts_15 (by decide) jm_Model_roundsOf jk_Model_201 ji_Model_roundsOf js_Model_roundsOf rfl (by decide) rfl rfl (Nat.le_of_ble_eq_true rfl) rfl ?_
  refine j_istore (L' := [some (.ref 135), some (.int (nI s)), some (.int (nI k)), some (.int d), some (.int (nI (dvO (rou (Cl (P s)) (wk (P s)) k) (P s).1 (P s).1))), none, none]) d_Model_parts_18 (by decide) rfl rfl ?_
  refine j_iload d_Model_parts_20 rfl ?_
  refine j_if_neN_f (tgt := 28) d_Model_parts_22 (by decide) (by omega) hp0 ?_
  refine j_bipush (v := -15) d_Model_parts_25 (by decide) ?_
  subst hres
  exact j_reti d_Model_parts_27 rfl rfl
def jrem (d p : Int32) : Int32 := if d - d / p * p < 0 then d - d / p * p + p else d - d / p * p
theorem c_rest {n : jN} {h : jH} {P : jP} {s my : Nat} (hw : ∀ q, tw (P q)) (hs : s < 6) (h0 : 0 < (P s).1) (hmy : h 135 13 = nI my) {k : Nat} {d : Int32} (hk : k < Mn (P s)) (hp0 : ¬ dvO (rou (Cl (P s)) (wk (P s)) k) (P s).1 (P s).1 = 0) : jC n 3 jy_Model_rest jc_Model_rest 6 (some .int) [.ref 135, .int (nI s), .int (nI k), .int d] (jM h P) (some (.int (jrem d (nI (dvO (rou (Cl (P s)) (wk (P s)) k) (P s).1 (P s).1))))) (jM (wkH h (P s)) P) := by
  have hns := (hw s).1
  have hMle : Mn (P s) ≤ 12 := Nat.le_trans (clF_le _ _) hns
  refine jC_of jm_Model_rest (L := [some (.ref 135), some (.int (nI s)), some (.int (nI k)), some (.int d), none, none]) (Nat.le_of_ble_eq_true rfl) rfl trivial ?_
  generalize hres : (((some (.int (jrem d (nI (dvO (rou (Cl (P s)) (wk (P s)) k) (P s).1 (P s).1))))), jM (wkH h (P s)) P) : Option Value × jH) = res
  have hdv : dvO (rou (Cl (P s)) (wk (P s)) k) (P s).1 (P s).1 ≤ 12 := dvO_le _ (by omega)
  refine j_aload_n d_Model_rest_0 rfl ?_
  refine j_iload_n d_Model_rest_1 rfl ?_
  refine j_iload_n d_Model_rest_2 rfl ?_
  refine j_callVs (As := [.int (nI s), .int (nI k)]) (st := []) (c_isClass hw hs h0 hmy) d_Model_rest_3 (by decide) jm_Model_isClass jk_Model_195 ji_Model_isClass js_Model_isClass rfl (by decide) rfl rfl (Nat.le_of_ble_eq_true rfl) rfl ?_
  refine j_if_neB_t (tgt := 11) d_Model_rest_6 (by decide) (jmb_y hMle hk) ?_
  refine j_aload_n d_Model_rest_11 rfl ?_
  refine j_iload_n d_Model_rest_12 rfl ?_
  refine j_iload_n d_Model_rest_13 rfl ?_
  refine j_iconst (v := nI 0) d_Model_rest_14 rfl ?_
  refine j_callVs (As := [.int (nI s), .int (nI k), .int (nI 0)]) (st := []) (c_roundsOf0 hw hs (jko_W (hw s)) (by omega)) d_Model_rest_15 (by decide) jm_Model_roundsOf jk_Model_201 ji_Model_roundsOf js_Model_roundsOf rfl (by decide) rfl rfl (Nat.le_of_ble_eq_true rfl) rfl ?_
  refine j_istore (L' := [some (.ref 135), some (.int (nI s)), some (.int (nI k)), some (.int d), some (.int (nI (dvO (rou (Cl (P s)) (wk (P s)) k) (P s).1 (P s).1))), none]) d_Model_rest_18 (by decide) rfl rfl ?_
  refine j_iload d_Model_rest_20 rfl ?_
  refine j_if_neN_t (tgt := 28) d_Model_rest_22 (by decide) (by omega) hp0 ?_
  refine j_iload_n d_Model_rest_28 rfl ?_
  refine j_iload d_Model_rest_29 rfl ?_
  refine j_irem d_Model_rest_31 (nI_ne0 (Nat.pos_of_ne_zero hp0) (by omega)) ?_
  refine j_istore (L' := [some (.ref 135), some (.int (nI s)), some (.int (nI k)), some (.int d), some (.int (nI (dvO (rou (Cl (P s)) (wk (P s)) k) (P s).1 (P s).1))), some (.int (d - d / (nI (dvO (rou (Cl (P s)) (wk (P s)) k) (P s).1 (P s).1)) * (nI (dvO (rou (Cl (P s)) (wk (P s)) k) (P s).1 (P s).1))))]) d_Model_rest_32 (by decide) rfl rfl ?_
  refine j_iload d_Model_rest_34 rfl ?_
  refine j_if_ge (tgt := 47) d_Model_rest_36 (by decide) (fun c => ?_) (fun c => ?_)
  · refine j_iload d_Model_rest_47 rfl ?_
    subst hres
    exact j_reti d_Model_rest_49 (by first | simp [jrem, Int32.not_lt.mpr c] | simp [jrem, Int32.not_le.mp c]) rfl
  · refine j_iload d_Model_rest_39 rfl ?_
    refine j_iload d_Model_rest_41 rfl ?_
    refine j_iadd d_Model_rest_43 ?_
    refine j_goto (tgt := 49) d_Model_rest_44 (by decide) ?_
    subst hres
    exact j_reti d_Model_rest_49 (by first | simp [jrem, Int32.not_lt.mpr c] | simp [jrem, Int32.not_le.mp c]) rfl
theorem c_parts_bad2 {n : jN} {h : jH} {P : jP} {s my : Nat} (hw : ∀ q, tw (P q)) (hs : s < 6) (h0 : 0 < (P s).1) (hmy : h 135 13 = nI my) {k : Nat} {d : Int32} (hk : k < Mn (P s)) (hp0 : ¬ dvO (rou (Cl (P s)) (wk (P s)) k) (P s).1 (P s).1 = 0) (hb : jin d 0 ((dvO (rou (Cl (P s)) (wk (P s)) k) (P s).1 (P s).1 - 1 : Nat) : Int) = false) : jC n 3 jy_Model_parts jc_Model_parts 7 (some .int) [.ref 135, .int (nI s), .int (nI k), .int d] (jM h P) (some (.int (-1))) (jM (wkH h (P s)) P) := by
  have hns := (hw s).1
  have hMle : Mn (P s) ≤ 12 := Nat.le_trans (clF_le _ _) hns
  refine jC_of jm_Model_parts (L := [some (.ref 135), some (.int (nI s)), some (.int (nI k)), some (.int d), none, none, none]) (Nat.le_of_ble_eq_true rfl) rfl trivial ?_
  generalize hres : (((some (.int (-1))), jM (wkH h (P s)) P) : Option Value × jH) = res
  have hdv : dvO (rou (Cl (P s)) (wk (P s)) k) (P s).1 (P s).1 ≤ 12 := dvO_le _ (by omega)
  refine j_aload_n d_Model_parts_0 rfl ?_
  refine j_iload_n d_Model_parts_1 rfl ?_
  refine j_iload_n d_Model_parts_2 rfl ?_
  refine j_callVs (As := [.int (nI s), .int (nI k)]) (st := []) (c_isClass hw hs h0 hmy) d_Model_parts_3 (by decide) jm_Model_isClass jk_Model_195 ji_Model_isClass js_Model_isClass rfl (by decide) rfl rfl (Nat.le_of_ble_eq_true rfl) rfl ?_
  refine j_if_neB_t (tgt := 11) d_Model_parts_6 (by decide) (jmb_y hMle hk) ?_
  refine j_aload_n d_Model_parts_11 rfl ?_
  refine j_iload_n d_Model_parts_12 rfl ?_
  refine j_iload_n d_Model_parts_13 rfl ?_
  refine j_iconst (v := nI 0) d_Model_parts_14 rfl ?_
  refine j_callVs (As := [.int (nI s), .int (nI k), .int (nI 0)]) (st := []) (c_roundsOf0 hw hs (jko_W (hw s)) (by omega)) d_Model_parts_15 (by decide) jm_Model_roundsOf jk_Model_201 ji_Model_roundsOf js_Model_roundsOf rfl (by decide) rfl rfl (Nat.le_of_ble_eq_true rfl) rfl ?_
  refine j_istore (L' := [some (.ref 135), some (.int (nI s)), some (.int (nI k)), some (.int d), some (.int (nI (dvO (rou (Cl (P s)) (wk (P s)) k) (P s).1 (P s).1))), none, none]) d_Model_parts_18 (by decide) rfl rfl ?_
  refine j_iload d_Model_parts_20 rfl ?_
  refine j_if_neN_t (tgt := 28) d_Model_parts_22 (by decide) (by omega) hp0 ?_
  refine j_iload_n d_Model_parts_28 rfl ?_
  refine j_i2l d_Model_parts_29 ?_
  refine j_lconst (v := 0) d_Model_parts_30 rfl ?_
  refine j_iload d_Model_parts_31 rfl ?_
  refine j_iconst (v := nI 1) d_Model_parts_33 rfl ?_
  refine j_isubN d_Model_parts_34 (by omega) ?_
  refine j_i2l d_Model_parts_35 ?_
  refine j_callSs (As := [.long d.toInt64, .long 0, .long ((nI ((dvO (rou (Cl (P s)) (wk (P s)) k) (P s).1 (P s).1) - 1)).toInt64)]) (st := []) (c_in (x := d) (lo := 0) (hi := (nI ((dvO (rou (Cl (P s)) (wk (P s)) k) (P s).1 (P s).1) - 1)).toInt) rfl rfl (Int32.toInt_toInt64 _)) d_Model_parts_36 (by decide) jm_Model_in jk_Model_107 js_Model_in rfl (Nat.le_of_ble_eq_true rfl) rfl ?_
  refine j_if_neB (tgt := 44) d_Model_parts_39 (by decide) (fun c3 => ?_) (fun c3 => ?_)
  · rw [nI_toInt (by omega)] at c3
    exact absurd c3 (by rw [hb]; decide)
  · refine j_iconst (v := -1) d_Model_parts_42 rfl ?_
    subst hres
    exact j_reti d_Model_parts_43 rfl rfl
def prs (C D : Nat → Nat) (k p q m : Nat) : Nat := jor m (fun i => if C i = k ∧ D i % p = q then 2 ^ i else 0)
theorem c_parts {n : jN} {h : jH} {P : jP} {s my : Nat} (hw : ∀ q, tw (P q)) (hs : s < 6) (h0 : 0 < (P s).1) (hmy : h 135 13 = nI my) {k q : Nat} (hk : k < Mn (P s)) (hp0 : ¬ dvO (rou (Cl (P s)) (wk (P s)) k) (P s).1 (P s).1 = 0) (hq : q < dvO (rou (Cl (P s)) (wk (P s)) k) (P s).1 (P s).1) {l : Nat} (hl : l < (P s).1) (hl1 : Cl (P s) l = k) (hl2 : ∀ i, i < l → ¬ Cl (P s) i = k) {D : Nat → Nat} (hD : ∀ i, i < (P s).1 → Cl (P s) i = k → D i ≤ (P s).1 ∧ (wk (P s) (D i) l).testBit i = true ∧ ∀ m, m < D i → (wk (P s) m l).testBit i = false) : jC n 3 jy_Model_parts jc_Model_parts 7 (some .int) [.ref 135, .int (nI s), .int (nI k), .int (nI q)] (jM h P) (some (.int (nI (prs (Cl (P s)) D k (dvO (rou (Cl (P s)) (wk (P s)) k) (P s).1 (P s).1) q (P s).1)))) (jM (wkH h (P s)) P) := by
  have hns := (hw s).1
  have hMle : Mn (P s) ≤ 12 := Nat.le_trans (clF_le _ _) hns
  refine jC_of jm_Model_parts (L := [some (.ref 135), some (.int (nI s)), some (.int (nI k)), some (.int (nI q)), none, none, none]) (Nat.le_of_ble_eq_true rfl) rfl trivial ?_
  generalize hres : (((some (.int (nI (prs (Cl (P s)) D k (dvO (rou (Cl (P s)) (wk (P s)) k) (P s).1 (P s).1) q (P s).1)))), jM (wkH h (P s)) P) : Option Value × jH) = res
  have hdv : dvO (rou (Cl (P s)) (wk (P s)) k) (P s).1 (P s).1 ≤ 12 := dvO_le _ (by omega)
  refine j_aload_n d_Model_parts_0 rfl ?_
  refine j_iload_n d_Model_parts_1 rfl ?_
  refine j_iload_n d_Model_parts_2 rfl ?_
  refine j_callVs (As := [.int (nI s), .int (nI k)]) (st := []) (c_isClass hw hs h0 hmy) d_Model_parts_3 (by decide) jm_Model_isClass jk_Model_195 ji_Model_isClass js_Model_isClass rfl (by decide) rfl rfl (Nat.le_of_ble_eq_true rfl) rfl ?_
  refine j_if_neB_t (tgt := 11) d_Model_parts_6 (by decide) (jmb_y hMle hk) ?_
  refine j_aload_n d_Model_parts_11 rfl ?_
  refine j_iload_n d_Model_parts_12 rfl ?_
  refine j_iload_n d_Model_parts_13 rfl ?_
  refine j_iconst (v := nI 0) d_Model_parts_14 rfl ?_
  refine j_callVs (As := [.int (nI s), .int (nI k), .int (nI 0)]) (st := []) (c_roundsOf0 hw hs (jko_W (hw s)) (by omega)) d_Model_parts_15 (by decide) jm_Model_roundsOf jk_Model_201 ji_Model_roundsOf js_Model_roundsOf rfl (by decide) rfl rfl (Nat.le_of_ble_eq_true rfl) rfl ?_
  refine j_istore (L' := [some (.ref 135), some (.int (nI s)), some (.int (nI k)), some (.int (nI q)), some (.int (nI (dvO (rou (Cl (P s)) (wk (P s)) k) (P s).1 (P s).1))), none, none]) d_Model_parts_18 (by decide) rfl rfl ?_
  refine j_iload d_Model_parts_20 rfl ?_
  refine j_if_neN_t (tgt := 28) d_Model_parts_22 (by decide) (by omega) hp0 ?_
  refine j_iload_n d_Model_parts_28 rfl ?_
  refine j_i2l d_Model_parts_29 ?_
  refine j_lconst (v := 0) d_Model_parts_30 rfl ?_
  refine j_iload d_Model_parts_31 rfl ?_
  refine j_iconst (v := nI 1) d_Model_parts_33 rfl ?_
  refine j_isubN d_Model_parts_34 (by omega) ?_
  refine j_i2l d_Model_parts_35 ?_
  refine j_callSs (As := [.long ((nI q).toInt64), .long 0, .long ((nI ((dvO (rou (Cl (P s)) (wk (P s)) k) (P s).1 (P s).1) - 1)).toInt64)]) (st := []) (c_in (x := (nI q)) (lo := 0) (hi := (nI ((dvO (rou (Cl (P s)) (wk (P s)) k) (P s).1 (P s).1) - 1)).toInt) rfl rfl (Int32.toInt_toInt64 _)) d_Model_parts_36 (by decide) jm_Model_in jk_Model_107 js_Model_in rfl (Nat.le_of_ble_eq_true rfl) rfl ?_
  refine j_if_neB_t (tgt := 44) d_Model_parts_39 (by decide) (jin_y (by omega) (by omega) (by rw [nI_toInt (by omega)]; omega)) ?_
  refine j_iconst (v := nI 0) d_Model_parts_44 rfl ?_
  refine j_istore (L' := [some (.ref 135), some (.int (nI s)), some (.int (nI k)), some (.int (nI q)), some (.int (nI (dvO (rou (Cl (P s)) (wk (P s)) k) (P s).1 (P s).1))), some (.int (nI 0)), none]) d_Model_parts_45 (by decide) rfl rfl ?_
  refine j_iconst (v := nI 0) d_Model_parts_47 rfl ?_
  refine j_istore (L' := [some (.ref 135), some (.int (nI s)), some (.int (nI k)), some (.int (nI q)), some (.int (nI (dvO (rou (Cl (P s)) (wk (P s)) k) (P s).1 (P s).1))), some (.int (nI 0)), some (.int (nI 0))]) d_Model_parts_48 (by decide) rfl rfl ?_
  refine j_loop (P := fun i => jJ n 3 jc_Model_parts 7 "YesNoPowersModel" 50 [some (.ref 135), some (.int (nI s)), some (.int (nI k)), some (.int (nI q)), some (.int (nI (dvO (rou (Cl (P s)) (wk (P s)) k) (P s).1 (P s).1))), some (.int (nI (prs (Cl (P s)) D k (dvO (rou (Cl (P s)) (wk (P s)) k) (P s).1 (P s).1) q i))), some (.int (nI i))] [] (jM (wkH h (P s)) P) res) (m := (P s).1) ?_ (fun i hi ih => ?_)
  · refine j_iload d_Model_parts_50 rfl ?_
    refine j_aload_n d_Model_parts_52 rfl ?_
    refine j_getr (b := 137) d_Model_parts_53 jf_Model_13 rfl rfl rfl (by decide) ?_
    refine j_iload_n d_Model_parts_56 rfl ?_
    refine j_ialdN (v := nI ((P s).1)) d_Model_parts_57 rfl (by omega) (by decide) rfl ?_
    refine j_icmp_geN_t (tgt := 103) d_Model_parts_58 (by decide) (by omega) (by omega) (Nat.le_refl _) ?_
    refine j_iload d_Model_parts_103 rfl ?_
    subst hres
    exact j_reti d_Model_parts_105 rfl rfl
  · have hcm : Cl (P s) i < Mn (P s) := clF_lt _ _ i hi
    have hdm := Nat.mod_lt (D i) (Nat.pos_of_ne_zero hp0)
    refine j_iload d_Model_parts_50 rfl ?_
    refine j_aload_n d_Model_parts_52 rfl ?_
    refine j_getr (b := 137) d_Model_parts_53 jf_Model_13 rfl rfl rfl (by decide) ?_
    refine j_iload_n d_Model_parts_56 rfl ?_
    refine j_ialdN (v := nI ((P s).1)) d_Model_parts_57 rfl (by omega) (by decide) rfl ?_
    refine j_icmp_geN_f (tgt := 103) d_Model_parts_58 (by decide) (by omega) (by omega) (Nat.not_le.mpr hi) ?_
    refine j_iload d_Model_parts_61 rfl ?_
    refine j_aload_n d_Model_parts_63 rfl ?_
    refine j_getr (b := 143) d_Model_parts_64 jf_Model_31 rfl rfl rfl (by decide) ?_
    refine j_iload d_Model_parts_67 rfl ?_
    refine j_ialdN (v := nI (Cl (P s) i)) d_Model_parts_69 rfl (by omega) (by decide) ((jko_W (hw s)).1 _ (by omega)) ?_
    refine j_iload_n d_Model_parts_70 rfl ?_
    refine j_icmp_neN (tgt := 93) d_Model_parts_71 (by decide) (by omega) (by omega) (fun c1 => ?_) (fun c1 => ?_)
    · refine j_iconst (v := nI 0) d_Model_parts_93 rfl ?_
      refine j_iorN d_Model_parts_94 ?_
      refine j_top (w := nI (prs (Cl (P s)) D k (dvO (rou (Cl (P s)) (wk (P s)) k) (P s).1 (P s).1) q (i + 1))) (by rw [Nat.or_zero]; exact congrArg nI (jor_z (by simp [c1]))) ?_
      refine j_istore (L' := [some (.ref 135), some (.int (nI s)), some (.int (nI k)), some (.int (nI q)), some (.int (nI (dvO (rou (Cl (P s)) (wk (P s)) k) (P s).1 (P s).1))), some (.int (nI (prs (Cl (P s)) D k (dvO (rou (Cl (P s)) (wk (P s)) k) (P s).1 (P s).1) q (i + 1)))), some (.int (nI i))]) d_Model_parts_95 (by decide) rfl rfl ?_
      refine j_iincN (x := i) (L' := [some (.ref 135), some (.int (nI s)), some (.int (nI k)), some (.int (nI q)), some (.int (nI (dvO (rou (Cl (P s)) (wk (P s)) k) (P s).1 (P s).1))), some (.int (nI (prs (Cl (P s)) D k (dvO (rou (Cl (P s)) (wk (P s)) k) (P s).1 (P s).1) q (i + 1)))), some (.int (nI (i + 1)))]) d_Model_parts_97 rfl (by decide) rfl rfl ?_
      refine j_goto (tgt := 50) d_Model_parts_100 (by decide) ?_
      exact ih
    · refine j_aload_n d_Model_parts_74 rfl ?_
      refine j_iload d_Model_parts_75 rfl ?_
      refine j_iload d_Model_parts_77 rfl ?_
      refine j_callVs (As := [.int (nI i), .int (nI (dvO (rou (Cl (P s)) (wk (P s)) k) (P s).1 (P s).1))]) (st := [.int (nI (prs (Cl (P s)) D k (dvO (rou (Cl (P s)) (wk (P s)) k) (P s).1 (P s).1) q i))]) (c_partBy hw hs (jko_W (hw s)) hi hl (hl1.trans c1.symm) (fun j hj e => hl2 j hj (e.trans c1)) (Nat.pos_of_ne_zero hp0) (by omega) (hD i hi c1).1 (hD i hi c1).2.1 (hD i hi c1).2.2) d_Model_parts_79 (by decide) jm_Model_partBy jk_Model_211 ji_Model_partBy js_Model_partBy rfl (by decide) rfl rfl (Nat.le_of_ble_eq_true rfl) rfl ?_
      refine j_iload_n d_Model_parts_82 rfl ?_
      refine j_icmp_neN (tgt := 93) d_Model_parts_83 (by decide) (by omega) (by omega) (fun c2 => ?_) (fun c2 => ?_)
      · refine j_iconst (v := nI 0) d_Model_parts_93 rfl ?_
        refine j_iorN d_Model_parts_94 ?_
        refine j_top (w := nI (prs (Cl (P s)) D k (dvO (rou (Cl (P s)) (wk (P s)) k) (P s).1 (P s).1) q (i + 1))) (by rw [Nat.or_zero]; exact congrArg nI (jor_z (by simp [c1, c2]))) ?_
        refine j_istore (L' := [some (.ref 135), some (.int (nI s)), some (.int (nI k)), some (.int (nI q)), some (.int (nI (dvO (rou (Cl (P s)) (wk (P s)) k) (P s).1 (P s).1))), some (.int (nI (prs (Cl (P s)) D k (dvO (rou (Cl (P s)) (wk (P s)) k) (P s).1 (P s).1) q (i + 1)))), some (.int (nI i))]) d_Model_parts_95 (by decide) rfl rfl ?_
        refine j_iincN (x := i) (L' := [some (.ref 135), some (.int (nI s)), some (.int (nI k)), some (.int (nI q)), some (.int (nI (dvO (rou (Cl (P s)) (wk (P s)) k) (P s).1 (P s).1))), some (.int (nI (prs (Cl (P s)) D k (dvO (rou (Cl (P s)) (wk (P s)) k) (P s).1 (P s).1) q (i + 1)))), some (.int (nI (i + 1)))]) d_Model_parts_97 rfl (by decide) rfl rfl ?_
        refine j_goto (tgt := 50) d_Model_parts_100 (by decide) ?_
        exact ih
      · refine j_iconst (v := nI 1) d_Model_parts_86 rfl ?_
        refine j_iload d_Model_parts_87 rfl ?_
        refine j_shl1N d_Model_parts_89 (by omega) ?_
        refine j_goto (tgt := 94) d_Model_parts_90 (by decide) ?_
        refine j_iorN d_Model_parts_94 ?_
        refine j_top (w := nI (prs (Cl (P s)) D k (dvO (rou (Cl (P s)) (wk (P s)) k) (P s).1 (P s).1) q (i + 1))) (congrArg nI (jor_t (by simp [c1, c2]))) ?_
        refine j_istore (L' := [some (.ref 135), some (.int (nI s)), some (.int (nI k)), some (.int (nI q)), some (.int (nI (dvO (rou (Cl (P s)) (wk (P s)) k) (P s).1 (P s).1))), some (.int (nI (prs (Cl (P s)) D k (dvO (rou (Cl (P s)) (wk (P s)) k) (P s).1 (P s).1) q (i + 1)))), some (.int (nI i))]) d_Model_parts_95 (by decide) rfl rfl ?_
        refine j_iincN (x := i) (L' := [some (.ref 135), some (.int (nI s)), some (.int (nI k)), some (.int (nI q)), some (.int (nI (dvO (rou (Cl (P s)) (wk (P s)) k) (P s).1 (P s).1))), some (.int (nI (prs (Cl (P s)) D k (dvO (rou (Cl (P s)) (wk (P s)) k) (P s).1 (P s).1) q (i + 1)))), some (.int (nI (i + 1)))]) d_Model_parts_97 rfl (by decide) rfl rfl ?_
        refine j_goto (tgt := 50) d_Model_parts_100 (by decide) ?_
        exact ih

theorem x_classes_bad {n : jN} {h : jH} {P : jP} (hw : ∀ q, tw (P q)) (hP : slo h P) {s : Int32} (hb : jho P s = false) : jC n 4 jy_Main_classes jc_Main_classes 2 (some .int) [.ref 0, .int s] h (some (.int (-1))) h := by
  refine jC_of jm_Main_classes (L := [some (.ref 0), some (.int s)]) (Nat.le_of_ble_eq_true rfl) rfl trivial ?_
  generalize hres : (((some (.int (-1))), h) : Option Value × jH) = res
  refine j_aload_n d_Main_classes_0 rfl ?_
  refine j_iload_n d_Main_classes_1 rfl ?_
  refine j_callVs (As := [.int s]) (st := []) (x_noTable hw hP) d_Main_classes_2 (by decide) jm_Main_noTable jk_Main_103 ji_Main_noTable js_Main_noTable rfl (by decide) rfl rfl (Nat.le_of_ble_eq_true rfl) rfl ?_
  refine j_if_eqB (tgt := 10) d_Main_classes_5 (by decide) (fun c1 => ?_) (fun c1 => ?_)
  · exact absurd hb (by simp_all)
  · refine j_iconst (v := -1) d_Main_classes_8 rfl ?_
    subst hres
    exact j_reti d_Main_classes_9 rfl rfl
theorem x_classes {n : jN} {h : jH} {P : jP} (hw : ∀ q, tw (P q)) (hP : slo h P) {s : Nat} (hs : s < 6) (h0 : 0 < (P s).1) (okr : okR (P s)) : jC n 4 jy_Main_classes jc_Main_classes 2 (some .int) [.ref 0, .int (nI s)] h (some (.int (nI (rNb (P s))))) (rdK h (P s) (rNb (P s))) := by
  refine jC_of jm_Main_classes (L := [some (.ref 0), some (.int (nI s))]) (Nat.le_of_ble_eq_true rfl) rfl trivial ?_
  generalize hres : (((some (.int (nI (rNb (P s))))), rdK h (P s) (rNb (P s))) : Option Value × jH) = res
  have hrg : rgs (rdK h (P s) (rNb (P s))) (P s) := rdK_rgs (h := h) (hw s) okr
  obtain ⟨g1, g2, g3, g4, g5, g6, g7, g8⟩ := id hrg
  have hnb12 := g1.2.1
  have hn12 := (hw s).1
  refine j_aload_n d_Main_classes_0 rfl ?_
  refine j_iload_n d_Main_classes_1 rfl ?_
  refine j_callVs (As := [.int (nI s)]) (st := []) (x_noTable hw hP) d_Main_classes_2 (by decide) jm_Main_noTable jk_Main_103 ji_Main_noTable js_Main_noTable rfl (by decide) rfl rfl (Nat.le_of_ble_eq_true rfl) rfl ?_
  refine j_if_eqB_t (tgt := 10) d_Main_classes_5 (by decide) (ho_n hs h0) ?_
  refine j_aload_n d_Main_classes_10 rfl ?_
  refine j_getr (b := 51) d_Main_classes_11 jf_Main_38 rfl rfl rfl (by decide) ?_
  refine j_aload_n d_Main_classes_14 rfl ?_
  refine j_getr (b := 1) d_Main_classes_15 jf_Main_11 rfl rfl rfl (by decide) ?_
  refine j_iload_n d_Main_classes_18 rfl ?_
  refine j_aaldN (b := 115 + 2 * s) d_Main_classes_19 rfl (by decide) (by omega) (by decide) (jrf_slot _ (by omega)) (by omega) ?_
  refine j_callVn (As := [.ref (115 + 2 * s)]) (st := []) (x_readC (isT_slot s hs) (hP s hs) (hw s) (by omega) okr) d_Main_classes_20 (by decide) jm_Rings_read jk_Main_192 ji_Rings_read js_Rings_read rfl (by decide) rfl rfl (Nat.le_of_ble_eq_true rfl) rfl ?_
  refine j_aload_n d_Main_classes_23 rfl ?_
  refine j_getr (b := 51) d_Main_classes_24 jf_Main_38 rfl rfl rfl (by decide) ?_
  refine j_getv (v := nI (rNb (P s))) d_Main_classes_27 jf_Main_201 rfl rfl g1.1 ?_
  subst hres
  exact j_reti d_Main_classes_30 rfl rfl
theorem x_classOf_bad {n : jN} {h : jH} {P : jP} (hw : ∀ q, tw (P q)) (hP : slo h P) {s i : Int32} (hb : jokMem P s i = false) : jC n 4 jy_Main_classOf jc_Main_classOf 3 (some .int) [.ref 0, .int s, .int i] h (some (.int (-1))) h := by
  refine jC_of jm_Main_classOf (L := [some (.ref 0), some (.int s), some (.int i)]) (Nat.le_of_ble_eq_true rfl) rfl trivial ?_
  generalize hres : (((some (.int (-1))), h) : Option Value × jH) = res
  refine j_aload_n d_Main_classOf_0 rfl ?_
  refine j_iload_n d_Main_classOf_1 rfl ?_
  refine j_iload_n d_Main_classOf_2 rfl ?_
  refine j_callVs (As := [.int s, .int i]) (st := []) (x_noMember hw hP) d_Main_classOf_3 (by decide) jm_Main_noMember jk_Main_81 ji_Main_noMember js_Main_noMember rfl (by decide) rfl rfl (Nat.le_of_ble_eq_true rfl) rfl ?_
  refine j_if_eqB (tgt := 11) d_Main_classOf_6 (by decide) (fun c1 => ?_) (fun c1 => ?_)
  · exact absurd hb (by simp_all)
  · refine j_iconst (v := -1) d_Main_classOf_9 rfl ?_
    subst hres
    exact j_reti d_Main_classOf_10 rfl rfl
theorem x_part_bad {n : jN} {h : jH} {P : jP} (hw : ∀ q, tw (P q)) (hP : slo h P) {s i : Int32} (hb : jokMem P s i = false) : jC n 4 jy_Main_part jc_Main_part 3 (some .int) [.ref 0, .int s, .int i] h (some (.int (-1))) h := by
  refine jC_of jm_Main_part (L := [some (.ref 0), some (.int s), some (.int i)]) (Nat.le_of_ble_eq_true rfl) rfl trivial ?_
  generalize hres : (((some (.int (-1))), h) : Option Value × jH) = res
  refine j_aload_n d_Main_part_0 rfl ?_
  refine j_iload_n d_Main_part_1 rfl ?_
  refine j_iload_n d_Main_part_2 rfl ?_
  refine j_callVs (As := [.int s, .int i]) (st := []) (x_noMember hw hP) d_Main_part_3 (by decide) jm_Main_noMember jk_Main_81 ji_Main_noMember js_Main_noMember rfl (by decide) rfl rfl (Nat.le_of_ble_eq_true rfl) rfl ?_
  refine j_if_eqB (tgt := 11) d_Main_part_6 (by decide) (fun c1 => ?_) (fun c1 => ?_)
  · exact absurd hb (by simp_all)
  · refine j_iconst (v := -1) d_Main_part_9 rfl ?_
    subst hres
    exact j_reti d_Main_part_10 rfl rfl
theorem x_classOf {n : jN} {h : jH} {P : jP} (hw : ∀ q, tw (P q)) (hP : slo h P) {s i : Nat} (hs : s < 6) (h0 : 0 < (P s).1) (hi : i < (P s).1) (okr : okR (P s)) : jC n 4 jy_Main_classOf jc_Main_classOf 3 (some .int) [.ref 0, .int (nI s), .int (nI i)] h (some (.int (nI (rHm (P s) i)))) (rdK h (P s) (rNb (P s))) := by
  refine jC_of jm_Main_classOf (L := [some (.ref 0), some (.int (nI s)), some (.int (nI i))]) (Nat.le_of_ble_eq_true rfl) rfl trivial ?_
  generalize hres : (((some (.int (nI (rHm (P s) i)))), rdK h (P s) (rNb (P s))) : Option Value × jH) = res
  have hrg : rgs (rdK h (P s) (rNb (P s))) (P s) := rdK_rgs (h := h) (hw s) okr
  obtain ⟨g1, g2, g3, g4, g5, g6, g7, g8⟩ := id hrg
  have hnb12 := g1.2.1
  have hn12 := (hw s).1
  refine j_aload_n d_Main_classOf_0 rfl ?_
  refine j_iload_n d_Main_classOf_1 rfl ?_
  refine j_iload_n d_Main_classOf_2 rfl ?_
  refine j_callVs (As := [.int (nI s), .int (nI i)]) (st := []) (x_noMember hw hP) d_Main_classOf_3 (by decide) jm_Main_noMember jk_Main_81 ji_Main_noMember js_Main_noMember rfl (by decide) rfl rfl (Nat.le_of_ble_eq_true rfl) rfl ?_
  refine j_if_eqB_t (tgt := 11) d_Main_classOf_6 (by decide) (km_n hs hn12 hi) ?_
  refine j_aload_n d_Main_classOf_11 rfl ?_
  refine j_getr (b := 51) d_Main_classOf_12 jf_Main_38 rfl rfl rfl (by decide) ?_
  refine j_aload_n d_Main_classOf_15 rfl ?_
  refine j_getr (b := 1) d_Main_classOf_16 jf_Main_11 rfl rfl rfl (by decide) ?_
  refine j_iload_n d_Main_classOf_19 rfl ?_
  refine j_aaldN (b := 115 + 2 * s) d_Main_classOf_20 rfl (by decide) (by omega) (by decide) (jrf_slot _ (by omega)) (by omega) ?_
  refine j_callVn (As := [.ref (115 + 2 * s)]) (st := []) (x_readC (isT_slot s hs) (hP s hs) (hw s) (by omega) okr) d_Main_classOf_21 (by decide) jm_Rings_read jk_Main_192 ji_Rings_read js_Rings_read rfl (by decide) rfl rfl (Nat.le_of_ble_eq_true rfl) rfl ?_
  refine j_aload_n d_Main_classOf_24 rfl ?_
  refine j_getr (b := 51) d_Main_classOf_25 jf_Main_38 rfl rfl rfl (by decide) ?_
  refine j_getr (b := 52) d_Main_classOf_28 jf_Main_204 rfl rfl rfl (by decide) ?_
  refine j_iload_n d_Main_classOf_31 rfl ?_
  refine j_ialdN (v := nI (rHm (P s) i)) d_Main_classOf_32 rfl (by omega) (by decide) (g1.2.2.1 i hi) ?_
  subst hres
  exact j_reti d_Main_classOf_33 rfl rfl
theorem x_part0 {n : jN} {h : jH} {P : jP} (hw : ∀ q, tw (P q)) (hP : slo h P) {s i : Nat} (hs : s < 6) (h0 : 0 < (P s).1) (hi : i < (P s).1) (okr : okR (P s)) (hp0 : rPe (P s) (rHm (P s) i) = 0) : jC n 4 jy_Main_part jc_Main_part 3 (some .int) [.ref 0, .int (nI s), .int (nI i)] h (some (.int (-15))) (rdK h (P s) (rNb (P s))) := by
  refine jC_of jm_Main_part (L := [some (.ref 0), some (.int (nI s)), some (.int (nI i))]) (Nat.le_of_ble_eq_true rfl) rfl trivial ?_
  generalize hres : (((some (.int (-15))), rdK h (P s) (rNb (P s))) : Option Value × jH) = res
  have hrg : rgs (rdK h (P s) (rNb (P s))) (P s) := rdK_rgs (h := h) (hw s) okr
  obtain ⟨g1, g2, g3, g4, g5, g6, g7, g8⟩ := id hrg
  have hnb12 := g1.2.1
  have hn12 := (hw s).1
  have hmi := g1.2.2.2 i hi
  have hpl := rPe_lt (hw s) (rHm (P s) i)
  refine j_aload_n d_Main_part_0 rfl ?_
  refine j_iload_n d_Main_part_1 rfl ?_
  refine j_iload_n d_Main_part_2 rfl ?_
  refine j_callVs (As := [.int (nI s), .int (nI i)]) (st := []) (x_noMember hw hP) d_Main_part_3 (by decide) jm_Main_noMember jk_Main_81 ji_Main_noMember js_Main_noMember rfl (by decide) rfl rfl (Nat.le_of_ble_eq_true rfl) rfl ?_
  refine j_if_eqB_t (tgt := 11) d_Main_part_6 (by decide) (km_n hs hn12 hi) ?_
  refine j_aload_n d_Main_part_11 rfl ?_
  refine j_getr (b := 51) d_Main_part_12 jf_Main_38 rfl rfl rfl (by decide) ?_
  refine j_aload_n d_Main_part_15 rfl ?_
  refine j_getr (b := 1) d_Main_part_16 jf_Main_11 rfl rfl rfl (by decide) ?_
  refine j_iload_n d_Main_part_19 rfl ?_
  refine j_aaldN (b := 115 + 2 * s) d_Main_part_20 rfl (by decide) (by omega) (by decide) (jrf_slot _ (by omega)) (by omega) ?_
  refine j_callVn (As := [.ref (115 + 2 * s)]) (st := []) (x_readC (isT_slot s hs) (hP s hs) (hw s) (by omega) okr) d_Main_part_21 (by decide) jm_Rings_read jk_Main_192 ji_Rings_read js_Rings_read rfl (by decide) rfl rfl (Nat.le_of_ble_eq_true rfl) rfl ?_
  refine j_aload_n d_Main_part_24 rfl ?_
  refine j_getr (b := 51) d_Main_part_25 jf_Main_38 rfl rfl rfl (by decide) ?_
  refine j_getr (b := 56) d_Main_part_28 jf_Main_221 rfl rfl rfl (by decide) ?_
  refine j_aload_n d_Main_part_31 rfl ?_
  refine j_getr (b := 51) d_Main_part_32 jf_Main_38 rfl rfl rfl (by decide) ?_
  refine j_getr (b := 52) d_Main_part_35 jf_Main_204 rfl rfl rfl (by decide) ?_
  refine j_iload_n d_Main_part_38 rfl ?_
  refine j_ialdN (v := nI (rHm (P s) i)) d_Main_part_39 rfl (by omega) (by decide) (g1.2.2.1 i hi) ?_
  refine j_ialdN (v := nI (rPe (P s) (rHm (P s) i))) d_Main_part_40 rfl (by omega) (by decide) (g5 _ hmi) ?_
  refine j_if_neN_f (tgt := 47) d_Main_part_41 (by decide) (by omega) hp0 ?_
  refine j_bipush (v := -15) d_Main_part_44 (by decide) ?_
  subst hres
  exact j_reti d_Main_part_46 rfl rfl
theorem x_part1 {n : jN} {h : jH} {P : jP} (hw : ∀ q, tw (P q)) (hP : slo h P) {s i : Nat} (hs : s < 6) (h0 : 0 < (P s).1) (hi : i < (P s).1) (okr : okR (P s)) (hp0 : ¬ rPe (P s) (rHm (P s) i) = 0) : jC n 4 jy_Main_part jc_Main_part 3 (some .int) [.ref 0, .int (nI s), .int (nI i)] h (some (.int (nI (rPa (P s) i)))) (rdK h (P s) (rNb (P s))) := by
  refine jC_of jm_Main_part (L := [some (.ref 0), some (.int (nI s)), some (.int (nI i))]) (Nat.le_of_ble_eq_true rfl) rfl trivial ?_
  generalize hres : (((some (.int (nI (rPa (P s) i)))), rdK h (P s) (rNb (P s))) : Option Value × jH) = res
  have hrg : rgs (rdK h (P s) (rNb (P s))) (P s) := rdK_rgs (h := h) (hw s) okr
  obtain ⟨g1, g2, g3, g4, g5, g6, g7, g8⟩ := id hrg
  have hnb12 := g1.2.1
  have hn12 := (hw s).1
  have hmi := g1.2.2.2 i hi
  have hpl := rPe_lt (hw s) (rHm (P s) i)
  refine j_aload_n d_Main_part_0 rfl ?_
  refine j_iload_n d_Main_part_1 rfl ?_
  refine j_iload_n d_Main_part_2 rfl ?_
  refine j_callVs (As := [.int (nI s), .int (nI i)]) (st := []) (x_noMember hw hP) d_Main_part_3 (by decide) jm_Main_noMember jk_Main_81 ji_Main_noMember js_Main_noMember rfl (by decide) rfl rfl (Nat.le_of_ble_eq_true rfl) rfl ?_
  refine j_if_eqB_t (tgt := 11) d_Main_part_6 (by decide) (km_n hs hn12 hi) ?_
  refine j_aload_n d_Main_part_11 rfl ?_
  refine j_getr (b := 51) d_Main_part_12 jf_Main_38 rfl rfl rfl (by decide) ?_
  refine j_aload_n d_Main_part_15 rfl ?_
  refine j_getr (b := 1) d_Main_part_16 jf_Main_11 rfl rfl rfl (by decide) ?_
  refine j_iload_n d_Main_part_19 rfl ?_
  refine j_aaldN (b := 115 + 2 * s) d_Main_part_20 rfl (by decide) (by omega) (by decide) (jrf_slot _ (by omega)) (by omega) ?_
  refine j_callVn (As := [.ref (115 + 2 * s)]) (st := []) (x_readC (isT_slot s hs) (hP s hs) (hw s) (by omega) okr) d_Main_part_21 (by decide) jm_Rings_read jk_Main_192 ji_Rings_read js_Rings_read rfl (by decide) rfl rfl (Nat.le_of_ble_eq_true rfl) rfl ?_
  refine j_aload_n d_Main_part_24 rfl ?_
  refine j_getr (b := 51) d_Main_part_25 jf_Main_38 rfl rfl rfl (by decide) ?_
  refine j_getr (b := 56) d_Main_part_28 jf_Main_221 rfl rfl rfl (by decide) ?_
  refine j_aload_n d_Main_part_31 rfl ?_
  refine j_getr (b := 51) d_Main_part_32 jf_Main_38 rfl rfl rfl (by decide) ?_
  refine j_getr (b := 52) d_Main_part_35 jf_Main_204 rfl rfl rfl (by decide) ?_
  refine j_iload_n d_Main_part_38 rfl ?_
  refine j_ialdN (v := nI (rHm (P s) i)) d_Main_part_39 rfl (by omega) (by decide) (g1.2.2.1 i hi) ?_
  refine j_ialdN (v := nI (rPe (P s) (rHm (P s) i))) d_Main_part_40 rfl (by omega) (by decide) (g5 _ hmi) ?_
  refine j_if_neN_t (tgt := 47) d_Main_part_41 (by decide) (by omega) hp0 ?_
  refine j_aload_n d_Main_part_47 rfl ?_
  refine j_getr (b := 51) d_Main_part_48 jf_Main_38 rfl rfl rfl (by decide) ?_
  refine j_iload_n d_Main_part_51 rfl ?_
  refine j_callVs (As := [.int (nI i)]) (st := []) (x_partOf (hw s) hrg hi) d_Main_part_52 (by decide) jm_Rings_partOf jk_Main_229 ji_Rings_partOf js_Rings_partOf rfl (by decide) rfl rfl (Nat.le_of_ble_eq_true rfl) rfl ?_
  subst hres
  exact j_reti d_Main_part_55 rfl rfl
theorem x_reads_bad {n : jN} {h : jH} {P : jP} (hw : ∀ q, tw (P q)) (hP : slo h P) {s k : Int32} (hb : jho P s = false) : jC n 4 jy_Main_readsClass jc_Main_readsClass 3 (some .boolean) [.ref 0, .int s, .int k] h (some (.int (nI 0))) h := by
  refine jC_of jm_Main_readsClass (L := [some (.ref 0), some (.int s), some (.int k)]) (Nat.le_of_ble_eq_true rfl) rfl (Or.inl rfl) ?_
  generalize hres : (((some (.int (nI 0))), h) : Option Value × jH) = res
  refine j_aload_n d_Main_readsClass_0 rfl ?_
  refine j_iload_n d_Main_readsClass_1 rfl ?_
  refine j_callVs (As := [.int s]) (st := []) (x_noTable hw hP) d_Main_readsClass_2 (by decide) jm_Main_noTable jk_Main_103 ji_Main_noTable js_Main_noTable rfl (by decide) rfl rfl (Nat.le_of_ble_eq_true rfl) rfl ?_
  refine j_if_eqB (tgt := 10) d_Main_readsClass_5 (by decide) (fun c1 => ?_) (fun c1 => ?_)
  · exact absurd hb (by simp_all)
  · refine j_iconst (v := nI 0) d_Main_readsClass_8 rfl ?_
    subst hres
    exact j_reti d_Main_readsClass_9 rfl rfl
theorem x_reads {n : jN} {h : jH} {P : jP} (hw : ∀ q, tw (P q)) (hP : slo h P) {s : Nat} (hs : s < 6) (h0 : 0 < (P s).1) {k : Int32} (okr : okR (P s)) : jC n 4 jy_Main_readsClass jc_Main_readsClass 3 (some .boolean) [.ref 0, .int (nI s), .int k] h (some (.int (jbo (jmb (rNb (P s)) k)))) (rdK h (P s) (rNb (P s))) := by
  refine jC_of jm_Main_readsClass (L := [some (.ref 0), some (.int (nI s)), some (.int k)]) (Nat.le_of_ble_eq_true rfl) rfl (jbo01 _) ?_
  generalize hres : (((some (.int (jbo (jmb (rNb (P s)) k)))), rdK h (P s) (rNb (P s))) : Option Value × jH) = res
  have hrg : rgs (rdK h (P s) (rNb (P s))) (P s) := rdK_rgs (h := h) (hw s) okr
  obtain ⟨g1, g2, g3, g4, g5, g6, g7, g8⟩ := id hrg
  have hnb12 := g1.2.1
  have hn12 := (hw s).1
  refine j_aload_n d_Main_readsClass_0 rfl ?_
  refine j_iload_n d_Main_readsClass_1 rfl ?_
  refine j_callVs (As := [.int (nI s)]) (st := []) (x_noTable hw hP) d_Main_readsClass_2 (by decide) jm_Main_noTable jk_Main_103 ji_Main_noTable js_Main_noTable rfl (by decide) rfl rfl (Nat.le_of_ble_eq_true rfl) rfl ?_
  refine j_if_eqB_t (tgt := 10) d_Main_readsClass_5 (by decide) (ho_n hs h0) ?_
  refine j_aload_n d_Main_readsClass_10 rfl ?_
  refine j_getr (b := 51) d_Main_readsClass_11 jf_Main_38 rfl rfl rfl (by decide) ?_
  refine j_aload_n d_Main_readsClass_14 rfl ?_
  refine j_getr (b := 1) d_Main_readsClass_15 jf_Main_11 rfl rfl rfl (by decide) ?_
  refine j_iload_n d_Main_readsClass_18 rfl ?_
  refine j_aaldN (b := 115 + 2 * s) d_Main_readsClass_19 rfl (by decide) (by omega) (by decide) (jrf_slot _ (by omega)) (by omega) ?_
  refine j_callVn (As := [.ref (115 + 2 * s)]) (st := []) (x_readC (isT_slot s hs) (hP s hs) (hw s) (by omega) okr) d_Main_readsClass_20 (by decide) jm_Rings_read jk_Main_192 ji_Rings_read js_Rings_read rfl (by decide) rfl rfl (Nat.le_of_ble_eq_true rfl) rfl ?_
  refine j_iload_n d_Main_readsClass_23 rfl ?_
  refine j_if_lt (tgt := 42) d_Main_readsClass_24 (by decide) (fun c1 => ?_) (fun c1 => ?_)
  · refine j_iconst (v := nI 0) d_Main_readsClass_42 rfl ?_
    subst hres
    exact j_reti d_Main_readsClass_43 (by first | (rw [show jmb (rNb (P s)) k = false from decide_eq_false (fun z => absurd z.1 (Int32.not_le.mpr c1))]; rfl) | (rw [show jmb (rNb (P s)) k = false from decide_eq_false (fun z => absurd z.2 (Int32.not_lt.mpr c2))]; rfl) | (rw [show jmb (rNb (P s)) k = true from decide_eq_true ⟨Int32.not_lt.mp c1, Int32.not_le.mp c2⟩]; rfl)) rfl
  · refine j_iload_n d_Main_readsClass_27 rfl ?_
    refine j_aload_n d_Main_readsClass_28 rfl ?_
    refine j_getr (b := 51) d_Main_readsClass_29 jf_Main_38 rfl rfl rfl (by decide) ?_
    refine j_getv (v := nI (rNb (P s))) d_Main_readsClass_32 jf_Main_201 rfl rfl g1.1 ?_
    refine j_icmp_ge (tgt := 42) d_Main_readsClass_35 (by decide) (fun c2 => ?_) (fun c2 => ?_)
    · refine j_iconst (v := nI 0) d_Main_readsClass_42 rfl ?_
      subst hres
      exact j_reti d_Main_readsClass_43 (by first | (rw [show jmb (rNb (P s)) k = false from decide_eq_false (fun z => absurd z.1 (Int32.not_le.mpr c1))]; rfl) | (rw [show jmb (rNb (P s)) k = false from decide_eq_false (fun z => absurd z.2 (Int32.not_lt.mpr c2))]; rfl) | (rw [show jmb (rNb (P s)) k = true from decide_eq_true ⟨Int32.not_lt.mp c1, Int32.not_le.mp c2⟩]; rfl)) rfl
    · refine j_iconst (v := nI 1) d_Main_readsClass_38 rfl ?_
      refine j_goto (tgt := 43) d_Main_readsClass_39 (by decide) ?_
      subst hres
      exact j_reti d_Main_readsClass_43 (by first | (rw [show jmb (rNb (P s)) k = false from decide_eq_false (fun z => absurd z.1 (Int32.not_le.mpr c1))]; rfl) | (rw [show jmb (rNb (P s)) k = false from decide_eq_false (fun z => absurd z.2 (Int32.not_lt.mpr c2))]; rfl) | (rw [show jmb (rNb (P s)) k = true from decide_eq_true ⟨Int32.not_lt.mp c1, Int32.not_le.mp c2⟩]; rfl)) rfl
theorem x_ofClass_bad {n : jN} {h : jH} {P : jP} (hw : ∀ q, tw (P q)) (hP : slo h P) {s k w : Int32} (hb : jin w 0 7 = false) : jC n 5 jy_Main_ofClass jc_Main_ofClass 4 (some .int) [.ref 0, .int s, .int k, .int w] h (some (.int (-1))) h := by
  refine jC_of jm_Main_ofClass (L := [some (.ref 0), some (.int s), some (.int k), some (.int w)]) (Nat.le_of_ble_eq_true rfl) rfl trivial ?_
  generalize hres : (((some (.int (-1))), h) : Option Value × jH) = res
  refine j_iload_n d_Main_ofClass_0 rfl ?_
  refine j_iconst (v := nI 0) d_Main_ofClass_1 rfl ?_
  refine j_bipush (v := nI 7) d_Main_ofClass_2 (by decide) ?_
  refine j_callSs (As := [.int w, .int (nI 0), .int (nI 7)]) (st := []) x_outOf d_Main_ofClass_4 (by decide) jm_Main_outOf jk_Main_69 js_Main_outOf rfl (Nat.le_of_ble_eq_true rfl) rfl ?_
  refine j_if_neB (tgt := 19) d_Main_ofClass_7 (by decide) (fun c1 => ?_) (fun c1 => ?_)
  · refine j_iconst (v := -1) d_Main_ofClass_19 rfl ?_
    subst hres
    exact j_reti d_Main_ofClass_20 rfl rfl
  · rw [oo_jin (by omega) (by omega)] at c1
    exact absurd hb (by simp_all)
theorem x_ofClass_bad1 {n : jN} {h : jH} {P : jP} (hw : ∀ q, tw (P q)) (hP : slo h P) {s k : Int32} {w : Nat} (hw8 : w < 8) (hb : jho P s = false) : jC n 5 jy_Main_ofClass jc_Main_ofClass 4 (some .int) [.ref 0, .int s, .int k, .int (nI w)] h (some (.int (-1))) h := by
  refine jC_of jm_Main_ofClass (L := [some (.ref 0), some (.int s), some (.int k), some (.int (nI w))]) (Nat.le_of_ble_eq_true rfl) rfl trivial ?_
  generalize hres : (((some (.int (-1))), h) : Option Value × jH) = res
  refine j_iload_n d_Main_ofClass_0 rfl ?_
  refine j_iconst (v := nI 0) d_Main_ofClass_1 rfl ?_
  refine j_bipush (v := nI 7) d_Main_ofClass_2 (by decide) ?_
  refine j_callSs (As := [.int (nI w), .int (nI 0), .int (nI 7)]) (st := []) x_outOf d_Main_ofClass_4 (by decide) jm_Main_outOf jk_Main_69 js_Main_outOf rfl (Nat.le_of_ble_eq_true rfl) rfl ?_
  refine j_if_neB_f (tgt := 19) d_Main_ofClass_7 (by decide) (oo_n (by omega) (by omega) (by omega)) ?_
  refine j_aload_n d_Main_ofClass_10 rfl ?_
  refine j_iload_n d_Main_ofClass_11 rfl ?_
  refine j_iload_n d_Main_ofClass_12 rfl ?_
  refine j_callVs (As := [.int s, .int k]) (st := []) (x_reads_bad hw hP hb) d_Main_ofClass_13 (by decide) jm_Main_readsClass jk_Main_207 ji_Main_readsClass js_Main_readsClass rfl (by decide) rfl rfl (Nat.le_of_ble_eq_true rfl) rfl ?_
  refine j_if_neN_f (tgt := 21) d_Main_ofClass_16 (by decide) (by omega) (by decide) ?_
  refine j_iconst (v := -1) d_Main_ofClass_19 rfl ?_
  subst hres
  exact j_reti d_Main_ofClass_20 rfl rfl
theorem x_ofClass_bad2 {n : jN} {h : jH} {P : jP} (hw : ∀ q, tw (P q)) (hP : slo h P) {s : Nat} (hs : s < 6) (h0 : 0 < (P s).1) (okr : okR (P s)) {k : Int32} {w : Nat} (hw8 : w < 8) (hb : jmb (rNb (P s)) k = false) : jC n 5 jy_Main_ofClass jc_Main_ofClass 4 (some .int) [.ref 0, .int (nI s), .int k, .int (nI w)] h (some (.int (-1))) (rdK h (P s) (rNb (P s))) := by
  refine jC_of jm_Main_ofClass (L := [some (.ref 0), some (.int (nI s)), some (.int k), some (.int (nI w))]) (Nat.le_of_ble_eq_true rfl) rfl trivial ?_
  generalize hres : (((some (.int (-1))), rdK h (P s) (rNb (P s))) : Option Value × jH) = res
  have hrg : rgs (rdK h (P s) (rNb (P s))) (P s) := rdK_rgs (h := h) (hw s) okr
  obtain ⟨g1, g2, g3, g4, g5, g6, g7, g8⟩ := id hrg
  have hnb12 := g1.2.1
  have hn12 := (hw s).1
  refine j_iload_n d_Main_ofClass_0 rfl ?_
  refine j_iconst (v := nI 0) d_Main_ofClass_1 rfl ?_
  refine j_bipush (v := nI 7) d_Main_ofClass_2 (by decide) ?_
  refine j_callSs (As := [.int (nI w), .int (nI 0), .int (nI 7)]) (st := []) x_outOf d_Main_ofClass_4 (by decide) jm_Main_outOf jk_Main_69 js_Main_outOf rfl (Nat.le_of_ble_eq_true rfl) rfl ?_
  refine j_if_neB_f (tgt := 19) d_Main_ofClass_7 (by decide) (oo_n (by omega) (by omega) (by omega)) ?_
  refine j_aload_n d_Main_ofClass_10 rfl ?_
  refine j_iload_n d_Main_ofClass_11 rfl ?_
  refine j_iload_n d_Main_ofClass_12 rfl ?_
  refine j_callVs (As := [.int (nI s), .int k]) (st := []) (x_reads hw hP hs h0 okr) d_Main_ofClass_13 (by decide) jm_Main_readsClass jk_Main_207 ji_Main_readsClass js_Main_readsClass rfl (by decide) rfl rfl (Nat.le_of_ble_eq_true rfl) rfl ?_
  refine j_if_neB_f (tgt := 21) d_Main_ofClass_16 (by decide) hb ?_
  refine j_iconst (v := -1) d_Main_ofClass_19 rfl ?_
  subst hres
  exact j_reti d_Main_ofClass_20 rfl rfl
theorem bwF_lt {T : jT} {ls : Nat → Nat} {k m : Nat} (hm : m ≤ 12) : bwF T ls k m < 4096 := jor_lt (m := 12) fun i hi => by
  split
  · exact p2_lt (by omega)
  · omega
theorem x_ofClass0 {n : jN} {h : jH} {P : jP} (hw : ∀ q, tw (P q)) (hP : slo h P) {s k : Nat} (hs : s < 6) (h0 : 0 < (P s).1) (okr : okR (P s)) (hk : k < rNb (P s)) : jC n 5 jy_Main_ofClass jc_Main_ofClass 4 (some .int) [.ref 0, .int (nI s), .int (nI k), .int (nI 0)] h (some (.int (nI (rLs (P s) k)))) (rdK h (P s) (rNb (P s))) := by
  refine jC_of jm_Main_ofClass (L := [some (.ref 0), some (.int (nI s)), some (.int (nI k)), some (.int (nI 0))]) (Nat.le_of_ble_eq_true rfl) rfl trivial ?_
  generalize hres : (((some (.int (nI (rLs (P s) k)))), rdK h (P s) (rNb (P s))) : Option Value × jH) = res
  have hrg : rgs (rdK h (P s) (rNb (P s))) (P s) := rdK_rgs (h := h) (hw s) okr
  obtain ⟨g1, g2, g3, g4, g5, g6, g7, g8⟩ := id hrg
  have hnb12 := g1.2.1
  have hn12 := (hw s).1
  refine j_iload_n d_Main_ofClass_0 rfl ?_
  refine j_iconst (v := nI 0) d_Main_ofClass_1 rfl ?_
  refine j_bipush (v := nI 7) d_Main_ofClass_2 (by decide) ?_
  refine j_callSs (As := [.int (nI 0), .int (nI 0), .int (nI 7)]) (st := []) x_outOf d_Main_ofClass_4 (by decide) jm_Main_outOf jk_Main_69 js_Main_outOf rfl (Nat.le_of_ble_eq_true rfl) rfl ?_
  refine j_if_neB_f (tgt := 19) d_Main_ofClass_7 (by decide) (oo_n (by omega) (by omega) (by omega)) ?_
  refine j_aload_n d_Main_ofClass_10 rfl ?_
  refine j_iload_n d_Main_ofClass_11 rfl ?_
  refine j_iload_n d_Main_ofClass_12 rfl ?_
  refine j_callVs (As := [.int (nI s), .int (nI k)]) (st := []) (x_reads hw hP hs h0 okr) d_Main_ofClass_13 (by decide) jm_Main_readsClass jk_Main_207 ji_Main_readsClass js_Main_readsClass rfl (by decide) rfl rfl (Nat.le_of_ble_eq_true rfl) rfl ?_
  refine j_if_neB_t (tgt := 21) d_Main_ofClass_16 (by decide) (jmb_y hnb12 hk) ?_
  refine j_iload_n d_Main_ofClass_21 rfl ?_
  refine j_swIn (off := 42) (tgt := 64) d_Main_ofClass_22 (by decide) (by decide) rfl (by decide) ?_
  refine j_aload_n d_Main_ofClass_64 rfl ?_
  refine j_getr (b := 51) d_Main_ofClass_65 jf_Main_38 rfl rfl rfl (by decide) ?_
  refine j_getr (b := 54) d_Main_ofClass_68 jf_Main_210 rfl rfl rfl (by decide) ?_
  refine j_iload_n d_Main_ofClass_71 rfl ?_
  refine j_ialdN (v := nI (rLs (P s) k)) d_Main_ofClass_72 rfl (by omega) (by decide) (g3 k hk) ?_
  subst hres
  exact j_reti d_Main_ofClass_73 rfl rfl
theorem x_ofClass1 {n : jN} {h : jH} {P : jP} (hw : ∀ q, tw (P q)) (hP : slo h P) {s k : Nat} (hs : s < 6) (h0 : 0 < (P s).1) (okr : okR (P s)) (hk : k < rNb (P s)) : jC n 5 jy_Main_ofClass jc_Main_ofClass 4 (some .int) [.ref 0, .int (nI s), .int (nI k), .int (nI 1)] h (some (.int (nI (jpc (rMb (P s) k))))) (rdK h (P s) (rNb (P s))) := by
  refine jC_of jm_Main_ofClass (L := [some (.ref 0), some (.int (nI s)), some (.int (nI k)), some (.int (nI 1))]) (Nat.le_of_ble_eq_true rfl) rfl trivial ?_
  generalize hres : (((some (.int (nI (jpc (rMb (P s) k))))), rdK h (P s) (rNb (P s))) : Option Value × jH) = res
  have hrg : rgs (rdK h (P s) (rNb (P s))) (P s) := rdK_rgs (h := h) (hw s) okr
  obtain ⟨g1, g2, g3, g4, g5, g6, g7, g8⟩ := id hrg
  have hnb12 := g1.2.1
  have hn12 := (hw s).1
  refine j_iload_n d_Main_ofClass_0 rfl ?_
  refine j_iconst (v := nI 0) d_Main_ofClass_1 rfl ?_
  refine j_bipush (v := nI 7) d_Main_ofClass_2 (by decide) ?_
  refine j_callSs (As := [.int (nI 1), .int (nI 0), .int (nI 7)]) (st := []) x_outOf d_Main_ofClass_4 (by decide) jm_Main_outOf jk_Main_69 js_Main_outOf rfl (Nat.le_of_ble_eq_true rfl) rfl ?_
  refine j_if_neB_f (tgt := 19) d_Main_ofClass_7 (by decide) (oo_n (by omega) (by omega) (by omega)) ?_
  refine j_aload_n d_Main_ofClass_10 rfl ?_
  refine j_iload_n d_Main_ofClass_11 rfl ?_
  refine j_iload_n d_Main_ofClass_12 rfl ?_
  refine j_callVs (As := [.int (nI s), .int (nI k)]) (st := []) (x_reads hw hP hs h0 okr) d_Main_ofClass_13 (by decide) jm_Main_readsClass jk_Main_207 ji_Main_readsClass js_Main_readsClass rfl (by decide) rfl rfl (Nat.le_of_ble_eq_true rfl) rfl ?_
  refine j_if_neB_t (tgt := 21) d_Main_ofClass_16 (by decide) (jmb_y hnb12 hk) ?_
  refine j_iload_n d_Main_ofClass_21 rfl ?_
  refine j_swIn (off := 52) (tgt := 74) d_Main_ofClass_22 (by decide) (by decide) rfl (by decide) ?_
  refine j_aload_n d_Main_ofClass_74 rfl ?_
  refine j_getr (b := 51) d_Main_ofClass_75 jf_Main_38 rfl rfl rfl (by decide) ?_
  refine j_getr (b := 53) d_Main_ofClass_78 jf_Main_213 rfl rfl rfl (by decide) ?_
  refine j_iload_n d_Main_ofClass_81 rfl ?_
  refine j_ialdN (v := nI (rMb (P s) k)) d_Main_ofClass_82 rfl (by omega) (by decide) (g2 k hk) ?_
  refine j_callSs (As := [.int (nI (rMb (P s) k))]) (st := []) (x_bitCount (((fcS_b (hw s) (P s).1 (Nat.le_refl _)).2.2.1 k hk).2)) d_Main_ofClass_83 (by decide) jm_J_bitCount jk_Main_216 js_J_bitCount rfl (Nat.le_of_ble_eq_true rfl) rfl ?_
  subst hres
  exact j_reti d_Main_ofClass_86 rfl rfl
theorem x_ofClass2 {n : jN} {h : jH} {P : jP} (hw : ∀ q, tw (P q)) (hP : slo h P) {s k : Nat} (hs : s < 6) (h0 : 0 < (P s).1) (okr : okR (P s)) (hk : k < rNb (P s)) : jC n 5 jy_Main_ofClass jc_Main_ofClass 4 (some .int) [.ref 0, .int (nI s), .int (nI k), .int (nI 2)] h (some (.int (nI (rPe (P s) k)))) (rdK h (P s) (rNb (P s))) := by
  refine jC_of jm_Main_ofClass (L := [some (.ref 0), some (.int (nI s)), some (.int (nI k)), some (.int (nI 2))]) (Nat.le_of_ble_eq_true rfl) rfl trivial ?_
  generalize hres : (((some (.int (nI (rPe (P s) k)))), rdK h (P s) (rNb (P s))) : Option Value × jH) = res
  have hrg : rgs (rdK h (P s) (rNb (P s))) (P s) := rdK_rgs (h := h) (hw s) okr
  obtain ⟨g1, g2, g3, g4, g5, g6, g7, g8⟩ := id hrg
  have hnb12 := g1.2.1
  have hn12 := (hw s).1
  refine j_iload_n d_Main_ofClass_0 rfl ?_
  refine j_iconst (v := nI 0) d_Main_ofClass_1 rfl ?_
  refine j_bipush (v := nI 7) d_Main_ofClass_2 (by decide) ?_
  refine j_callSs (As := [.int (nI 2), .int (nI 0), .int (nI 7)]) (st := []) x_outOf d_Main_ofClass_4 (by decide) jm_Main_outOf jk_Main_69 js_Main_outOf rfl (Nat.le_of_ble_eq_true rfl) rfl ?_
  refine j_if_neB_f (tgt := 19) d_Main_ofClass_7 (by decide) (oo_n (by omega) (by omega) (by omega)) ?_
  refine j_aload_n d_Main_ofClass_10 rfl ?_
  refine j_iload_n d_Main_ofClass_11 rfl ?_
  refine j_iload_n d_Main_ofClass_12 rfl ?_
  refine j_callVs (As := [.int (nI s), .int (nI k)]) (st := []) (x_reads hw hP hs h0 okr) d_Main_ofClass_13 (by decide) jm_Main_readsClass jk_Main_207 ji_Main_readsClass js_Main_readsClass rfl (by decide) rfl rfl (Nat.le_of_ble_eq_true rfl) rfl ?_
  refine j_if_neB_t (tgt := 21) d_Main_ofClass_16 (by decide) (jmb_y hnb12 hk) ?_
  refine j_iload_n d_Main_ofClass_21 rfl ?_
  refine j_swIn (off := 65) (tgt := 87) d_Main_ofClass_22 (by decide) (by decide) rfl (by decide) ?_
  refine j_aload_n d_Main_ofClass_87 rfl ?_
  refine j_getr (b := 51) d_Main_ofClass_88 jf_Main_38 rfl rfl rfl (by decide) ?_
  refine j_getr (b := 56) d_Main_ofClass_91 jf_Main_221 rfl rfl rfl (by decide) ?_
  refine j_iload_n d_Main_ofClass_94 rfl ?_
  refine j_ialdN (v := nI (rPe (P s) k)) d_Main_ofClass_95 rfl (by omega) (by decide) (g5 k hk) ?_
  subst hres
  exact j_reti d_Main_ofClass_96 rfl rfl
theorem x_ofClass3 {n : jN} {h : jH} {P : jP} (hw : ∀ q, tw (P q)) (hP : slo h P) {s k : Nat} (hs : s < 6) (h0 : 0 < (P s).1) (okr : okR (P s)) (hk : k < rNb (P s)) : jC n 5 jy_Main_ofClass jc_Main_ofClass 4 (some .int) [.ref 0, .int (nI s), .int (nI k), .int (nI 3)] h (some (.int (nI (grO (P s) (rHm (P s)) (P s).1 k)))) (rdK h (P s) (rNb (P s))) := by
  refine jC_of jm_Main_ofClass (L := [some (.ref 0), some (.int (nI s)), some (.int (nI k)), some (.int (nI 3))]) (Nat.le_of_ble_eq_true rfl) rfl trivial ?_
  generalize hres : (((some (.int (nI (grO (P s) (rHm (P s)) (P s).1 k)))), rdK h (P s) (rNb (P s))) : Option Value × jH) = res
  have hrg : rgs (rdK h (P s) (rNb (P s))) (P s) := rdK_rgs (h := h) (hw s) okr
  obtain ⟨g1, g2, g3, g4, g5, g6, g7, g8⟩ := id hrg
  have hnb12 := g1.2.1
  have hn12 := (hw s).1
  refine j_iload_n d_Main_ofClass_0 rfl ?_
  refine j_iconst (v := nI 0) d_Main_ofClass_1 rfl ?_
  refine j_bipush (v := nI 7) d_Main_ofClass_2 (by decide) ?_
  refine j_callSs (As := [.int (nI 3), .int (nI 0), .int (nI 7)]) (st := []) x_outOf d_Main_ofClass_4 (by decide) jm_Main_outOf jk_Main_69 js_Main_outOf rfl (Nat.le_of_ble_eq_true rfl) rfl ?_
  refine j_if_neB_f (tgt := 19) d_Main_ofClass_7 (by decide) (oo_n (by omega) (by omega) (by omega)) ?_
  refine j_aload_n d_Main_ofClass_10 rfl ?_
  refine j_iload_n d_Main_ofClass_11 rfl ?_
  refine j_iload_n d_Main_ofClass_12 rfl ?_
  refine j_callVs (As := [.int (nI s), .int (nI k)]) (st := []) (x_reads hw hP hs h0 okr) d_Main_ofClass_13 (by decide) jm_Main_readsClass jk_Main_207 ji_Main_readsClass js_Main_readsClass rfl (by decide) rfl rfl (Nat.le_of_ble_eq_true rfl) rfl ?_
  refine j_if_neB_t (tgt := 21) d_Main_ofClass_16 (by decide) (jmb_y hnb12 hk) ?_
  refine j_iload_n d_Main_ofClass_21 rfl ?_
  refine j_swIn (off := 75) (tgt := 97) d_Main_ofClass_22 (by decide) (by decide) rfl (by decide) ?_
  refine j_aload_n d_Main_ofClass_97 rfl ?_
  refine j_getr (b := 51) d_Main_ofClass_98 jf_Main_38 rfl rfl rfl (by decide) ?_
  refine j_getr (b := 55) d_Main_ofClass_101 jf_Main_195 rfl rfl rfl (by decide) ?_
  refine j_iload_n d_Main_ofClass_104 rfl ?_
  refine j_ialdN (v := nI (grO (P s) (rHm (P s)) (P s).1 k)) d_Main_ofClass_105 rfl (by omega) (by decide) (g4 k hk) ?_
  subst hres
  exact j_reti d_Main_ofClass_106 rfl rfl
theorem x_ofClass4 {n : jN} {h : jH} {P : jP} (hw : ∀ q, tw (P q)) (hP : slo h P) {s k : Nat} (hs : s < 6) (h0 : 0 < (P s).1) (okr : okR (P s)) (hk : k < rNb (P s)) : jC n 5 jy_Main_ofClass jc_Main_ofClass 4 (some .int) [.ref 0, .int (nI s), .int (nI k), .int (nI 4)] h (some (.int (nI (lvR (P s) (rHm (P s)) (rNb (P s)) k)))) (rdK h (P s) (rNb (P s))) := by
  refine jC_of jm_Main_ofClass (L := [some (.ref 0), some (.int (nI s)), some (.int (nI k)), some (.int (nI 4))]) (Nat.le_of_ble_eq_true rfl) rfl trivial ?_
  generalize hres : (((some (.int (nI (lvR (P s) (rHm (P s)) (rNb (P s)) k)))), rdK h (P s) (rNb (P s))) : Option Value × jH) = res
  have hrg : rgs (rdK h (P s) (rNb (P s))) (P s) := rdK_rgs (h := h) (hw s) okr
  obtain ⟨g1, g2, g3, g4, g5, g6, g7, g8⟩ := id hrg
  have hnb12 := g1.2.1
  have hn12 := (hw s).1
  refine j_iload_n d_Main_ofClass_0 rfl ?_
  refine j_iconst (v := nI 0) d_Main_ofClass_1 rfl ?_
  refine j_bipush (v := nI 7) d_Main_ofClass_2 (by decide) ?_
  refine j_callSs (As := [.int (nI 4), .int (nI 0), .int (nI 7)]) (st := []) x_outOf d_Main_ofClass_4 (by decide) jm_Main_outOf jk_Main_69 js_Main_outOf rfl (Nat.le_of_ble_eq_true rfl) rfl ?_
  refine j_if_neB_f (tgt := 19) d_Main_ofClass_7 (by decide) (oo_n (by omega) (by omega) (by omega)) ?_
  refine j_aload_n d_Main_ofClass_10 rfl ?_
  refine j_iload_n d_Main_ofClass_11 rfl ?_
  refine j_iload_n d_Main_ofClass_12 rfl ?_
  refine j_callVs (As := [.int (nI s), .int (nI k)]) (st := []) (x_reads hw hP hs h0 okr) d_Main_ofClass_13 (by decide) jm_Main_readsClass jk_Main_207 ji_Main_readsClass js_Main_readsClass rfl (by decide) rfl rfl (Nat.le_of_ble_eq_true rfl) rfl ?_
  refine j_if_neB_t (tgt := 21) d_Main_ofClass_16 (by decide) (jmb_y hnb12 hk) ?_
  refine j_iload_n d_Main_ofClass_21 rfl ?_
  refine j_swIn (off := 85) (tgt := 107) d_Main_ofClass_22 (by decide) (by decide) rfl (by decide) ?_
  refine j_aload_n d_Main_ofClass_107 rfl ?_
  refine j_getr (b := 51) d_Main_ofClass_108 jf_Main_38 rfl rfl rfl (by decide) ?_
  refine j_getr (b := 57) d_Main_ofClass_111 jf_Main_223 rfl rfl rfl (by decide) ?_
  refine j_iload_n d_Main_ofClass_114 rfl ?_
  refine j_ialdN (v := nI (lvR (P s) (rHm (P s)) (rNb (P s)) k)) d_Main_ofClass_115 rfl (by omega) (by decide) (g6 k hk) ?_
  subst hres
  exact j_reti d_Main_ofClass_116 rfl rfl
theorem x_ofClass5 {n : jN} {h : jH} {P : jP} (hw : ∀ q, tw (P q)) (hP : slo h P) {s k : Nat} (hs : s < 6) (h0 : 0 < (P s).1) (okr : okR (P s)) (hk : k < rNb (P s)) : jC n 5 jy_Main_ofClass jc_Main_ofClass 4 (some .int) [.ref 0, .int (nI s), .int (nI k), .int (nI 5)] h (some (.int (nI (rMb (P s) k)))) (rdK h (P s) (rNb (P s))) := by
  refine jC_of jm_Main_ofClass (L := [some (.ref 0), some (.int (nI s)), some (.int (nI k)), some (.int (nI 5))]) (Nat.le_of_ble_eq_true rfl) rfl trivial ?_
  generalize hres : (((some (.int (nI (rMb (P s) k)))), rdK h (P s) (rNb (P s))) : Option Value × jH) = res
  have hrg : rgs (rdK h (P s) (rNb (P s))) (P s) := rdK_rgs (h := h) (hw s) okr
  obtain ⟨g1, g2, g3, g4, g5, g6, g7, g8⟩ := id hrg
  have hnb12 := g1.2.1
  have hn12 := (hw s).1
  refine j_iload_n d_Main_ofClass_0 rfl ?_
  refine j_iconst (v := nI 0) d_Main_ofClass_1 rfl ?_
  refine j_bipush (v := nI 7) d_Main_ofClass_2 (by decide) ?_
  refine j_callSs (As := [.int (nI 5), .int (nI 0), .int (nI 7)]) (st := []) x_outOf d_Main_ofClass_4 (by decide) jm_Main_outOf jk_Main_69 js_Main_outOf rfl (Nat.le_of_ble_eq_true rfl) rfl ?_
  refine j_if_neB_f (tgt := 19) d_Main_ofClass_7 (by decide) (oo_n (by omega) (by omega) (by omega)) ?_
  refine j_aload_n d_Main_ofClass_10 rfl ?_
  refine j_iload_n d_Main_ofClass_11 rfl ?_
  refine j_iload_n d_Main_ofClass_12 rfl ?_
  refine j_callVs (As := [.int (nI s), .int (nI k)]) (st := []) (x_reads hw hP hs h0 okr) d_Main_ofClass_13 (by decide) jm_Main_readsClass jk_Main_207 ji_Main_readsClass js_Main_readsClass rfl (by decide) rfl rfl (Nat.le_of_ble_eq_true rfl) rfl ?_
  refine j_if_neB_t (tgt := 21) d_Main_ofClass_16 (by decide) (jmb_y hnb12 hk) ?_
  refine j_iload_n d_Main_ofClass_21 rfl ?_
  refine j_swIn (off := 95) (tgt := 117) d_Main_ofClass_22 (by decide) (by decide) rfl (by decide) ?_
  refine j_aload_n d_Main_ofClass_117 rfl ?_
  refine j_getr (b := 51) d_Main_ofClass_118 jf_Main_38 rfl rfl rfl (by decide) ?_
  refine j_getr (b := 53) d_Main_ofClass_121 jf_Main_213 rfl rfl rfl (by decide) ?_
  refine j_iload_n d_Main_ofClass_124 rfl ?_
  refine j_ialdN (v := nI (rMb (P s) k)) d_Main_ofClass_125 rfl (by omega) (by decide) (g2 k hk) ?_
  subst hres
  exact j_reti d_Main_ofClass_126 rfl rfl
theorem x_ofClass6 {n : jN} {h : jH} {P : jP} (hw : ∀ q, tw (P q)) (hP : slo h P) {s k : Nat} (hs : s < 6) (h0 : 0 < (P s).1) (okr : okR (P s)) (hk : k < rNb (P s)) : jC n 5 jy_Main_ofClass jc_Main_ofClass 4 (some .int) [.ref 0, .int (nI s), .int (nI k), .int (nI 6)] h (some (.int (nI (jpc (bwF (P s) (rLs (P s)) k (rNb (P s))))))) (rdK h (P s) (rNb (P s))) := by
  refine jC_of jm_Main_ofClass (L := [some (.ref 0), some (.int (nI s)), some (.int (nI k)), some (.int (nI 6))]) (Nat.le_of_ble_eq_true rfl) rfl trivial ?_
  generalize hres : (((some (.int (nI (jpc (bwF (P s) (rLs (P s)) k (rNb (P s))))))), rdK h (P s) (rNb (P s))) : Option Value × jH) = res
  have hrg : rgs (rdK h (P s) (rNb (P s))) (P s) := rdK_rgs (h := h) (hw s) okr
  obtain ⟨g1, g2, g3, g4, g5, g6, g7, g8⟩ := id hrg
  have hnb12 := g1.2.1
  have hn12 := (hw s).1
  refine j_iload_n d_Main_ofClass_0 rfl ?_
  refine j_iconst (v := nI 0) d_Main_ofClass_1 rfl ?_
  refine j_bipush (v := nI 7) d_Main_ofClass_2 (by decide) ?_
  refine j_callSs (As := [.int (nI 6), .int (nI 0), .int (nI 7)]) (st := []) x_outOf d_Main_ofClass_4 (by decide) jm_Main_outOf jk_Main_69 js_Main_outOf rfl (Nat.le_of_ble_eq_true rfl) rfl ?_
  refine j_if_neB_f (tgt := 19) d_Main_ofClass_7 (by decide) (oo_n (by omega) (by omega) (by omega)) ?_
  refine j_aload_n d_Main_ofClass_10 rfl ?_
  refine j_iload_n d_Main_ofClass_11 rfl ?_
  refine j_iload_n d_Main_ofClass_12 rfl ?_
  refine j_callVs (As := [.int (nI s), .int (nI k)]) (st := []) (x_reads hw hP hs h0 okr) d_Main_ofClass_13 (by decide) jm_Main_readsClass jk_Main_207 ji_Main_readsClass js_Main_readsClass rfl (by decide) rfl rfl (Nat.le_of_ble_eq_true rfl) rfl ?_
  refine j_if_neB_t (tgt := 21) d_Main_ofClass_16 (by decide) (jmb_y hnb12 hk) ?_
  refine j_iload_n d_Main_ofClass_21 rfl ?_
  refine j_swIn (off := 105) (tgt := 127) d_Main_ofClass_22 (by decide) (by decide) rfl (by decide) ?_
  refine j_aload_n d_Main_ofClass_127 rfl ?_
  refine j_getr (b := 51) d_Main_ofClass_128 jf_Main_38 rfl rfl rfl (by decide) ?_
  refine j_getr (b := 58) d_Main_ofClass_131 jf_Main_226 rfl rfl rfl (by decide) ?_
  refine j_iload_n d_Main_ofClass_134 rfl ?_
  refine j_ialdN (v := nI (bwF (P s) (rLs (P s)) k (rNb (P s)))) d_Main_ofClass_135 rfl (by omega) (by decide) (g7 k hk) ?_
  refine j_callSs (As := [.int (nI (bwF (P s) (rLs (P s)) k (rNb (P s))))]) (st := []) (x_bitCount (bwF_lt hnb12)) d_Main_ofClass_136 (by decide) jm_J_bitCount jk_Main_216 js_J_bitCount rfl (Nat.le_of_ble_eq_true rfl) rfl ?_
  subst hres
  exact j_reti d_Main_ofClass_139 rfl rfl
theorem x_ofClass7 {n : jN} {h : jH} {P : jP} (hw : ∀ q, tw (P q)) (hP : slo h P) {s k : Nat} (hs : s < 6) (h0 : 0 < (P s).1) (okr : okR (P s)) (hk : k < rNb (P s)) : jC n 5 jy_Main_ofClass jc_Main_ofClass 4 (some .int) [.ref 0, .int (nI s), .int (nI k), .int (nI 7)] h (some (.int (nI (bwF (P s) (rLs (P s)) k (rNb (P s)))))) (rdK h (P s) (rNb (P s))) := by
  refine jC_of jm_Main_ofClass (L := [some (.ref 0), some (.int (nI s)), some (.int (nI k)), some (.int (nI 7))]) (Nat.le_of_ble_eq_true rfl) rfl trivial ?_
  generalize hres : (((some (.int (nI (bwF (P s) (rLs (P s)) k (rNb (P s)))))), rdK h (P s) (rNb (P s))) : Option Value × jH) = res
  have hrg : rgs (rdK h (P s) (rNb (P s))) (P s) := rdK_rgs (h := h) (hw s) okr
  obtain ⟨g1, g2, g3, g4, g5, g6, g7, g8⟩ := id hrg
  have hnb12 := g1.2.1
  have hn12 := (hw s).1
  refine j_iload_n d_Main_ofClass_0 rfl ?_
  refine j_iconst (v := nI 0) d_Main_ofClass_1 rfl ?_
  refine j_bipush (v := nI 7) d_Main_ofClass_2 (by decide) ?_
  refine j_callSs (As := [.int (nI 7), .int (nI 0), .int (nI 7)]) (st := []) x_outOf d_Main_ofClass_4 (by decide) jm_Main_outOf jk_Main_69 js_Main_outOf rfl (Nat.le_of_ble_eq_true rfl) rfl ?_
  refine j_if_neB_f (tgt := 19) d_Main_ofClass_7 (by decide) (oo_n (by omega) (by omega) (by omega)) ?_
  refine j_aload_n d_Main_ofClass_10 rfl ?_
  refine j_iload_n d_Main_ofClass_11 rfl ?_
  refine j_iload_n d_Main_ofClass_12 rfl ?_
  refine j_callVs (As := [.int (nI s), .int (nI k)]) (st := []) (x_reads hw hP hs h0 okr) d_Main_ofClass_13 (by decide) jm_Main_readsClass jk_Main_207 ji_Main_readsClass js_Main_readsClass rfl (by decide) rfl rfl (Nat.le_of_ble_eq_true rfl) rfl ?_
  refine j_if_neB_t (tgt := 21) d_Main_ofClass_16 (by decide) (jmb_y hnb12 hk) ?_
  refine j_iload_n d_Main_ofClass_21 rfl ?_
  refine j_swOut (tgt := 140) d_Main_ofClass_22 (by decide) (by decide) ?_
  refine j_aload_n d_Main_ofClass_140 rfl ?_
  refine j_getr (b := 51) d_Main_ofClass_141 jf_Main_38 rfl rfl rfl (by decide) ?_
  refine j_getr (b := 58) d_Main_ofClass_144 jf_Main_226 rfl rfl rfl (by decide) ?_
  refine j_iload_n d_Main_ofClass_147 rfl ?_
  refine j_ialdN (v := nI (bwF (P s) (rLs (P s)) k (rNb (P s)))) d_Main_ofClass_148 rfl (by omega) (by decide) (g7 k hk) ?_
  subst hres
  exact j_reti d_Main_ofClass_149 rfl rfl
theorem x_rest_bad {n : jN} {h : jH} {P : jP} (hw : ∀ q, tw (P q)) (hP : slo h P) {s k d : Int32} (hb : jho P s = false) : jC n 5 jy_Main_rest jc_Main_rest 5 (some .int) [.ref 0, .int s, .int k, .int d] h (some (.int (-1))) h := by
  refine jC_of jm_Main_rest (L := [some (.ref 0), some (.int s), some (.int k), some (.int d), none]) (Nat.le_of_ble_eq_true rfl) rfl trivial ?_
  generalize hres : (((some (.int (-1))), h) : Option Value × jH) = res
  refine j_aload_n d_Main_rest_0 rfl ?_
  refine j_iload_n d_Main_rest_1 rfl ?_
  refine j_iload_n d_Main_rest_2 rfl ?_
  refine j_callVs (As := [.int s, .int k]) (st := []) (x_reads_bad hw hP hb) d_Main_rest_3 (by decide) jm_Main_readsClass jk_Main_207 ji_Main_readsClass js_Main_readsClass rfl (by decide) rfl rfl (Nat.le_of_ble_eq_true rfl) rfl ?_
  refine j_if_neN_f (tgt := 11) d_Main_rest_6 (by decide) (by omega) (by decide) ?_
  refine j_iconst (v := -1) d_Main_rest_9 rfl ?_
  subst hres
  exact j_reti d_Main_rest_10 rfl rfl
theorem x_rest_bad1 {n : jN} {h : jH} {P : jP} (hw : ∀ q, tw (P q)) (hP : slo h P) {s : Nat} (hs : s < 6) (h0 : 0 < (P s).1) (okr : okR (P s)) {k d : Int32} (hb : jmb (rNb (P s)) k = false) : jC n 5 jy_Main_rest jc_Main_rest 5 (some .int) [.ref 0, .int (nI s), .int k, .int d] h (some (.int (-1))) (rdK h (P s) (rNb (P s))) := by
  refine jC_of jm_Main_rest (L := [some (.ref 0), some (.int (nI s)), some (.int k), some (.int d), none]) (Nat.le_of_ble_eq_true rfl) rfl trivial ?_
  generalize hres : (((some (.int (-1))), rdK h (P s) (rNb (P s))) : Option Value × jH) = res
  have hrg : rgs (rdK h (P s) (rNb (P s))) (P s) := rdK_rgs (h := h) (hw s) okr
  obtain ⟨g1, g2, g3, g4, g5, g6, g7, g8⟩ := id hrg
  have hnb12 := g1.2.1
  have hn12 := (hw s).1
  refine j_aload_n d_Main_rest_0 rfl ?_
  refine j_iload_n d_Main_rest_1 rfl ?_
  refine j_iload_n d_Main_rest_2 rfl ?_
  refine j_callVs (As := [.int (nI s), .int k]) (st := []) (x_reads hw hP hs h0 okr) d_Main_rest_3 (by decide) jm_Main_readsClass jk_Main_207 ji_Main_readsClass js_Main_readsClass rfl (by decide) rfl rfl (Nat.le_of_ble_eq_true rfl) rfl ?_
  refine j_if_neB_f (tgt := 11) d_Main_rest_6 (by decide) hb ?_
  refine j_iconst (v := -1) d_Main_rest_9 rfl ?_
  subst hres
  exact j_reti d_Main_rest_10 rfl rfl
theorem x_rest0 {n : jN} {h : jH} {P : jP} (hw : ∀ q, tw (P q)) (hP : slo h P) {s k : Nat} (hs : s < 6) (h0 : 0 < (P s).1) (okr : okR (P s)) (hk : k < rNb (P s)) {d : Int32} (hp0 : rPe (P s) k = 0) : jC n 5 jy_Main_rest jc_Main_rest 5 (some .int) [.ref 0, .int (nI s), .int (nI k), .int d] h (some (.int (-15))) (rdK h (P s) (rNb (P s))) := by
  refine jC_of jm_Main_rest (L := [some (.ref 0), some (.int (nI s)), some (.int (nI k)), some (.int d), none]) (Nat.le_of_ble_eq_true rfl) rfl trivial ?_
  generalize hres : (((some (.int (-15))), rdK h (P s) (rNb (P s))) : Option Value × jH) = res
  have hrg : rgs (rdK h (P s) (rNb (P s))) (P s) := rdK_rgs (h := h) (hw s) okr
  obtain ⟨g1, g2, g3, g4, g5, g6, g7, g8⟩ := id hrg
  have hnb12 := g1.2.1
  have hn12 := (hw s).1
  have hpl := rPe_lt (hw s) k
  refine j_aload_n d_Main_rest_0 rfl ?_
  refine j_iload_n d_Main_rest_1 rfl ?_
  refine j_iload_n d_Main_rest_2 rfl ?_
  refine j_callVs (As := [.int (nI s), .int (nI k)]) (st := []) (x_reads hw hP hs h0 okr) d_Main_rest_3 (by decide) jm_Main_readsClass jk_Main_207 ji_Main_readsClass js_Main_readsClass rfl (by decide) rfl rfl (Nat.le_of_ble_eq_true rfl) rfl ?_
  refine j_if_neB_t (tgt := 11) d_Main_rest_6 (by decide) (jmb_y hnb12 hk) ?_
  refine j_aload_n d_Main_rest_11 rfl ?_
  refine j_getr (b := 51) d_Main_rest_12 jf_Main_38 rfl rfl rfl (by decide) ?_
  refine j_getr (b := 56) d_Main_rest_15 jf_Main_221 rfl rfl rfl (by decide) ?_
  refine j_iload_n d_Main_rest_18 rfl ?_
  refine j_ialdN (v := nI (rPe (P s) k)) d_Main_rest_19 rfl (by omega) (by decide) (g5 k hk) ?_
  refine j_istore (L' := [some (.ref 0), some (.int (nI s)), some (.int (nI k)), some (.int d), some (.int (nI (rPe (P s) k)))]) d_Main_rest_20 (by decide) rfl rfl ?_
  refine j_iload d_Main_rest_22 rfl ?_
  refine j_if_neN_f (tgt := 30) d_Main_rest_24 (by decide) (by omega) hp0 ?_
  refine j_bipush (v := -15) d_Main_rest_27 (by decide) ?_
  subst hres
  exact j_reti d_Main_rest_29 rfl rfl
theorem x_parts_bad {n : jN} {h : jH} {P : jP} (hw : ∀ q, tw (P q)) (hP : slo h P) {s k d : Int32} (hb : jho P s = false) : jC n 5 jy_Main_parts jc_Main_parts 7 (some .int) [.ref 0, .int s, .int k, .int d] h (some (.int (-1))) h := by
  refine jC_of jm_Main_parts (L := [some (.ref 0), some (.int s), some (.int k), some (.int d), none, none, none]) (Nat.le_of_ble_eq_true rfl) rfl trivial ?_
  generalize hres : (((some (.int (-1))), h) : Option Value × jH) = res
  refine j_aload_n d_Main_parts_0 rfl ?_
  refine j_iload_n d_Main_parts_1 rfl ?_
  refine j_iload_n d_Main_parts_2 rfl ?_
  refine j_callVs (As := [.int s, .int k]) (st := []) (x_reads_bad hw hP hb) d_Main_parts_3 (by decide) jm_Main_readsClass jk_Main_207 ji_Main_readsClass js_Main_readsClass rfl (by decide) rfl rfl (Nat.le_of_ble_eq_true rfl) rfl ?_
  refine j_if_neN_f (tgt := 11) d_Main_parts_6 (by decide) (by omega) (by decide) ?_
  refine j_iconst (v := -1) d_Main_parts_9 rfl ?_
  subst hres
  exact j_reti d_Main_parts_10 rfl rfl
theorem x_parts_bad1 {n : jN} {h : jH} {P : jP} (hw : ∀ q, tw (P q)) (hP : slo h P) {s : Nat} (hs : s < 6) (h0 : 0 < (P s).1) (okr : okR (P s)) {k d : Int32} (hb : jmb (rNb (P s)) k = false) : jC n 5 jy_Main_parts jc_Main_parts 7 (some .int) [.ref 0, .int (nI s), .int k, .int d] h (some (.int (-1))) (rdK h (P s) (rNb (P s))) := by
  refine jC_of jm_Main_parts (L := [some (.ref 0), some (.int (nI s)), some (.int k), some (.int d), none, none, none]) (Nat.le_of_ble_eq_true rfl) rfl trivial ?_
  generalize hres : (((some (.int (-1))), rdK h (P s) (rNb (P s))) : Option Value × jH) = res
  have hrg : rgs (rdK h (P s) (rNb (P s))) (P s) := rdK_rgs (h := h) (hw s) okr
  obtain ⟨g1, g2, g3, g4, g5, g6, g7, g8⟩ := id hrg
  have hnb12 := g1.2.1
  have hn12 := (hw s).1
  refine j_aload_n d_Main_parts_0 rfl ?_
  refine j_iload_n d_Main_parts_1 rfl ?_
  refine j_iload_n d_Main_parts_2 rfl ?_
  refine j_callVs (As := [.int (nI s), .int k]) (st := []) (x_reads hw hP hs h0 okr) d_Main_parts_3 (by decide) jm_Main_readsClass jk_Main_207 ji_Main_readsClass js_Main_readsClass rfl (by decide) rfl rfl (Nat.le_of_ble_eq_true rfl) rfl ?_
  refine j_if_neB_f (tgt := 11) d_Main_parts_6 (by decide) hb ?_
  refine j_iconst (v := -1) d_Main_parts_9 rfl ?_
  subst hres
  exact j_reti d_Main_parts_10 rfl rfl
theorem x_parts0 {n : jN} {h : jH} {P : jP} (hw : ∀ q, tw (P q)) (hP : slo h P) {s k : Nat} (hs : s < 6) (h0 : 0 < (P s).1) (okr : okR (P s)) (hk : k < rNb (P s)) {d : Int32} (hp0 : rPe (P s) k = 0) : jC n 5 jy_Main_parts jc_Main_parts 7 (some .int) [.ref 0, .int (nI s), .int (nI k), .int d] h (some (.int (-15))) (rdK h (P s) (rNb (P s))) := by
  refine jC_of jm_Main_parts (L := [some (.ref 0), some (.int (nI s)), some (.int (nI k)), some (.int d), none, none, none]) (Nat.le_of_ble_eq_true rfl) rfl trivial ?_
  generalize hres : (((some (.int (-15))), rdK h (P s) (rNb (P s))) : Option Value × jH) = res
  have hrg : rgs (rdK h (P s) (rNb (P s))) (P s) := rdK_rgs (h := h) (hw s) okr
  obtain ⟨g1, g2, g3, g4, g5, g6, g7, g8⟩ := id hrg
  have hnb12 := g1.2.1
  have hn12 := (hw s).1
  have hpl := rPe_lt (hw s) k
  refine j_aload_n d_Main_parts_0 rfl ?_
  refine j_iload_n d_Main_parts_1 rfl ?_
  refine j_iload_n d_Main_parts_2 rfl ?_
  refine j_callVs (As := [.int (nI s), .int (nI k)]) (st := []) (x_reads hw hP hs h0 okr) d_Main_parts_3 (by decide) jm_Main_readsClass jk_Main_207 ji_Main_readsClass js_Main_readsClass rfl (by decide) rfl rfl (Nat.le_of_ble_eq_true rfl) rfl ?_
  refine j_if_neB_t (tgt := 11) d_Main_parts_6 (by decide) (jmb_y hnb12 hk) ?_
  refine j_aload_n d_Main_parts_11 rfl ?_
  refine j_getr (b := 51) d_Main_parts_12 jf_Main_38 rfl rfl rfl (by decide) ?_
  refine j_getr (b := 56) d_Main_parts_15 jf_Main_221 rfl rfl rfl (by decide) ?_
  refine j_iload_n d_Main_parts_18 rfl ?_
  refine j_ialdN (v := nI (rPe (P s) k)) d_Main_parts_19 rfl (by omega) (by decide) (g5 k hk) ?_
  refine j_istore (L' := [some (.ref 0), some (.int (nI s)), some (.int (nI k)), some (.int d), some (.int (nI (rPe (P s) k))), none, none]) d_Main_parts_20 (by decide) rfl rfl ?_
  refine j_iload d_Main_parts_22 rfl ?_
  refine j_if_neN_f (tgt := 30) d_Main_parts_24 (by decide) (by omega) hp0 ?_
  refine j_bipush (v := -15) d_Main_parts_27 (by decide) ?_
  subst hres
  exact j_reti d_Main_parts_29 rfl rfl
def jflo (x y : Int32) : Int32 := if (x ^^^ y) < 0 ∧ ¬ (x - x / y * y = 0) then (x - x / y * y) + y else x - x / y * y
theorem x_floorMod {n : jN} {h : jH} {x y : Int32} (hy : y ≠ 0) : jC n 0 jy_J_floorMod jc_J_floorMod 3 (some .int) [.int x, .int y] h (some (.int (jflo x y))) h := by
  refine jC_of jm_J_floorMod (L := [some (.int x), some (.int y), none]) (Nat.le_of_ble_eq_true rfl) rfl trivial ?_
  generalize hres : (((some (.int (jflo x y))), h) : Option Value × jH) = res
  refine j_iload_n d_J_floorMod_0 rfl ?_
  refine j_iload_n d_J_floorMod_1 rfl ?_
  refine j_irem d_J_floorMod_2 hy ?_
  refine j_istore_n (L' := [some (.int x), some (.int y), some (.int (x - x / y * y))]) d_J_floorMod_3 (by decide) rfl rfl ?_
  refine j_iload_n d_J_floorMod_4 rfl ?_
  refine j_iload_n d_J_floorMod_5 rfl ?_
  refine j_ixor d_J_floorMod_6 ?_
  refine j_if_ge (tgt := 18) d_J_floorMod_7 (by decide) (fun c1 => ?_) (fun c1 => ?_)
  · refine j_iload_n d_J_floorMod_18 rfl ?_
    subst hres
    exact j_reti d_J_floorMod_19 (by first | exact (if_pos ⟨Int32.not_le.mp c1, c2⟩ : jflo x y = _).symm | exact (if_neg (fun z => absurd z.1 (Int32.not_lt.mpr c1)) : jflo x y = _).symm | exact (if_neg (fun z => z.2 c2) : jflo x y = _).symm) rfl
  · refine j_iload_n d_J_floorMod_10 rfl ?_
    refine j_if_eq (tgt := 18) d_J_floorMod_11 (by decide) (fun c2 => ?_) (fun c2 => ?_)
    · refine j_iload_n d_J_floorMod_18 rfl ?_
      subst hres
      exact j_reti d_J_floorMod_19 (by first | exact (if_pos ⟨Int32.not_le.mp c1, c2⟩ : jflo x y = _).symm | exact (if_neg (fun z => absurd z.1 (Int32.not_lt.mpr c1)) : jflo x y = _).symm | exact (if_neg (fun z => z.2 c2) : jflo x y = _).symm) rfl
    · refine j_iload_n d_J_floorMod_14 rfl ?_
      refine j_iload_n d_J_floorMod_15 rfl ?_
      refine j_iadd d_J_floorMod_16 ?_
      subst hres
      exact j_reti d_J_floorMod_17 (by first | exact (if_pos ⟨Int32.not_le.mp c1, c2⟩ : jflo x y = _).symm | exact (if_neg (fun z => absurd z.1 (Int32.not_lt.mpr c1)) : jflo x y = _).symm | exact (if_neg (fun z => z.2 c2) : jflo x y = _).symm) rfl
theorem x_rest {n : jN} {h : jH} {P : jP} (hw : ∀ q, tw (P q)) (hP : slo h P) {s k : Nat} (hs : s < 6) (h0 : 0 < (P s).1) (okr : okR (P s)) (hk : k < rNb (P s)) {d : Int32} (hp0 : ¬ rPe (P s) k = 0) : jC n 5 jy_Main_rest jc_Main_rest 5 (some .int) [.ref 0, .int (nI s), .int (nI k), .int d] h (some (.int (jflo d (nI (rPe (P s) k))))) (rdK h (P s) (rNb (P s))) := by
  refine jC_of jm_Main_rest (L := [some (.ref 0), some (.int (nI s)), some (.int (nI k)), some (.int d), none]) (Nat.le_of_ble_eq_true rfl) rfl trivial ?_
  generalize hres : (((some (.int (jflo d (nI (rPe (P s) k))))), rdK h (P s) (rNb (P s))) : Option Value × jH) = res
  have hrg : rgs (rdK h (P s) (rNb (P s))) (P s) := rdK_rgs (h := h) (hw s) okr
  obtain ⟨g1, g2, g3, g4, g5, g6, g7, g8⟩ := id hrg
  have hnb12 := g1.2.1
  have hn12 := (hw s).1
  have hpl := rPe_lt (hw s) k
  refine j_aload_n d_Main_rest_0 rfl ?_
  refine j_iload_n d_Main_rest_1 rfl ?_
  refine j_iload_n d_Main_rest_2 rfl ?_
  refine j_callVs (As := [.int (nI s), .int (nI k)]) (st := []) (x_reads hw hP hs h0 okr) d_Main_rest_3 (by decide) jm_Main_readsClass jk_Main_207 ji_Main_readsClass js_Main_readsClass rfl (by decide) rfl rfl (Nat.le_of_ble_eq_true rfl) rfl ?_
  refine j_if_neB_t (tgt := 11) d_Main_rest_6 (by decide) (jmb_y hnb12 hk) ?_
  refine j_aload_n d_Main_rest_11 rfl ?_
  refine j_getr (b := 51) d_Main_rest_12 jf_Main_38 rfl rfl rfl (by decide) ?_
  refine j_getr (b := 56) d_Main_rest_15 jf_Main_221 rfl rfl rfl (by decide) ?_
  refine j_iload_n d_Main_rest_18 rfl ?_
  refine j_ialdN (v := nI (rPe (P s) k)) d_Main_rest_19 rfl (by omega) (by decide) (g5 k hk) ?_
  refine j_istore (L' := [some (.ref 0), some (.int (nI s)), some (.int (nI k)), some (.int d), some (.int (nI (rPe (P s) k)))]) d_Main_rest_20 (by decide) rfl rfl ?_
  refine j_iload d_Main_rest_22 rfl ?_
  refine j_if_neN_t (tgt := 30) d_Main_rest_24 (by decide) (by omega) hp0 ?_
  refine j_iload_n d_Main_rest_30 rfl ?_
  refine j_iload d_Main_rest_31 rfl ?_
  refine j_callSs (As := [.int d, .int (nI (rPe (P s) k))]) (st := []) (x_floorMod (nI_ne0 (by omega) (by omega))) d_Main_rest_33 (by decide) jm_J_floorMod jk_Main_232 js_J_floorMod rfl (Nat.le_of_ble_eq_true rfl) rfl ?_
  subst hres
  exact j_reti d_Main_rest_36 rfl rfl
theorem x_parts_bad2 {n : jN} {h : jH} {P : jP} (hw : ∀ q, tw (P q)) (hP : slo h P) {s k : Nat} (hs : s < 6) (h0 : 0 < (P s).1) (okr : okR (P s)) (hk : k < rNb (P s)) {d : Int32} (hp0 : ¬ rPe (P s) k = 0) (hb : jin d ((0 : Nat) : Int) ((rPe (P s) k - 1 : Nat) : Int) = false) : jC n 5 jy_Main_parts jc_Main_parts 7 (some .int) [.ref 0, .int (nI s), .int (nI k), .int d] h (some (.int (-1))) (rdK h (P s) (rNb (P s))) := by
  refine jC_of jm_Main_parts (L := [some (.ref 0), some (.int (nI s)), some (.int (nI k)), some (.int d), none, none, none]) (Nat.le_of_ble_eq_true rfl) rfl trivial ?_
  generalize hres : (((some (.int (-1))), rdK h (P s) (rNb (P s))) : Option Value × jH) = res
  have hrg : rgs (rdK h (P s) (rNb (P s))) (P s) := rdK_rgs (h := h) (hw s) okr
  obtain ⟨g1, g2, g3, g4, g5, g6, g7, g8⟩ := id hrg
  have hnb12 := g1.2.1
  have hn12 := (hw s).1
  have hpl := rPe_lt (hw s) k
  refine j_aload_n d_Main_parts_0 rfl ?_
  refine j_iload_n d_Main_parts_1 rfl ?_
  refine j_iload_n d_Main_parts_2 rfl ?_
  refine j_callVs (As := [.int (nI s), .int (nI k)]) (st := []) (x_reads hw hP hs h0 okr) d_Main_parts_3 (by decide) jm_Main_readsClass jk_Main_207 ji_Main_readsClass js_Main_readsClass rfl (by decide) rfl rfl (Nat.le_of_ble_eq_true rfl) rfl ?_
  refine j_if_neB_t (tgt := 11) d_Main_parts_6 (by decide) (jmb_y hnb12 hk) ?_
  refine j_aload_n d_Main_parts_11 rfl ?_
  refine j_getr (b := 51) d_Main_parts_12 jf_Main_38 rfl rfl rfl (by decide) ?_
  refine j_getr (b := 56) d_Main_parts_15 jf_Main_221 rfl rfl rfl (by decide) ?_
  refine j_iload_n d_Main_parts_18 rfl ?_
  refine j_ialdN (v := nI (rPe (P s) k)) d_Main_parts_19 rfl (by omega) (by decide) (g5 k hk) ?_
  refine j_istore (L' := [some (.ref 0), some (.int (nI s)), some (.int (nI k)), some (.int d), some (.int (nI (rPe (P s) k))), none, none]) d_Main_parts_20 (by decide) rfl rfl ?_
  refine j_iload d_Main_parts_22 rfl ?_
  refine j_if_neN_t (tgt := 30) d_Main_parts_24 (by decide) (by omega) hp0 ?_
  refine j_iload_n d_Main_parts_30 rfl ?_
  refine j_iconst (v := nI 0) d_Main_parts_31 rfl ?_
  refine j_iload d_Main_parts_32 rfl ?_
  refine j_iconst (v := nI 1) d_Main_parts_34 rfl ?_
  refine j_isubN d_Main_parts_35 (by omega) ?_
  refine j_callSs (As := [.int d, .int (nI 0), .int (nI ((rPe (P s) k) - 1))]) (st := []) x_outOf d_Main_parts_36 (by decide) jm_Main_outOf jk_Main_69 js_Main_outOf rfl (Nat.le_of_ble_eq_true rfl) rfl ?_
  refine j_if_eqB_f (tgt := 44) d_Main_parts_39 (by decide) (by rw [oo_jin (by omega) (by omega), hb]; rfl) ?_
  refine j_iconst (v := -1) d_Main_parts_42 rfl ?_
  subst hres
  exact j_reti d_Main_parts_43 rfl rfl
def prF (T : jT) (k q m : Nat) : Nat := jor m (fun i => if rHm T i = k ∧ rPa T i = q then 2 ^ i else 0)
theorem x_parts {n : jN} {h : jH} {P : jP} (hw : ∀ q, tw (P q)) (hP : slo h P) {s k q : Nat} (hs : s < 6) (h0 : 0 < (P s).1) (okr : okR (P s)) (hk : k < rNb (P s)) (hp0 : ¬ rPe (P s) k = 0) (hq : q < rPe (P s) k) : jC n 5 jy_Main_parts jc_Main_parts 7 (some .int) [.ref 0, .int (nI s), .int (nI k), .int (nI q)] h (some (.int (nI (prF (P s) k q (P s).1)))) (rdK h (P s) (rNb (P s))) := by
  refine jC_of jm_Main_parts (L := [some (.ref 0), some (.int (nI s)), some (.int (nI k)), some (.int (nI q)), none, none, none]) (Nat.le_of_ble_eq_true rfl) rfl trivial ?_
  generalize hres : (((some (.int (nI (prF (P s) k q (P s).1)))), rdK h (P s) (rNb (P s))) : Option Value × jH) = res
  have hrg : rgs (rdK h (P s) (rNb (P s))) (P s) := rdK_rgs (h := h) (hw s) okr
  obtain ⟨g1, g2, g3, g4, g5, g6, g7, g8⟩ := id hrg
  have hnb12 := g1.2.1
  have hn12 := (hw s).1
  have hpl := rPe_lt (hw s) k
  refine j_aload_n d_Main_parts_0 rfl ?_
  refine j_iload_n d_Main_parts_1 rfl ?_
  refine j_iload_n d_Main_parts_2 rfl ?_
  refine j_callVs (As := [.int (nI s), .int (nI k)]) (st := []) (x_reads hw hP hs h0 okr) d_Main_parts_3 (by decide) jm_Main_readsClass jk_Main_207 ji_Main_readsClass js_Main_readsClass rfl (by decide) rfl rfl (Nat.le_of_ble_eq_true rfl) rfl ?_
  refine j_if_neB_t (tgt := 11) d_Main_parts_6 (by decide) (jmb_y hnb12 hk) ?_
  refine j_aload_n d_Main_parts_11 rfl ?_
  refine j_getr (b := 51) d_Main_parts_12 jf_Main_38 rfl rfl rfl (by decide) ?_
  refine j_getr (b := 56) d_Main_parts_15 jf_Main_221 rfl rfl rfl (by decide) ?_
  refine j_iload_n d_Main_parts_18 rfl ?_
  refine j_ialdN (v := nI (rPe (P s) k)) d_Main_parts_19 rfl (by omega) (by decide) (g5 k hk) ?_
  refine j_istore (L' := [some (.ref 0), some (.int (nI s)), some (.int (nI k)), some (.int (nI q)), some (.int (nI (rPe (P s) k))), none, none]) d_Main_parts_20 (by decide) rfl rfl ?_
  refine j_iload d_Main_parts_22 rfl ?_
  refine j_if_neN_t (tgt := 30) d_Main_parts_24 (by decide) (by omega) hp0 ?_
  refine j_iload_n d_Main_parts_30 rfl ?_
  refine j_iconst (v := nI 0) d_Main_parts_31 rfl ?_
  refine j_iload d_Main_parts_32 rfl ?_
  refine j_iconst (v := nI 1) d_Main_parts_34 rfl ?_
  refine j_isubN d_Main_parts_35 (by omega) ?_
  refine j_callSs (As := [.int (nI q), .int (nI 0), .int (nI ((rPe (P s) k) - 1))]) (st := []) x_outOf d_Main_parts_36 (by decide) jm_Main_outOf jk_Main_69 js_Main_outOf rfl (Nat.le_of_ble_eq_true rfl) rfl ?_
  refine j_if_eqB_t (tgt := 44) d_Main_parts_39 (by decide) (oo_n (by omega) (by omega) (by omega)) ?_
  refine j_iconst (v := nI 0) d_Main_parts_44 rfl ?_
  refine j_istore (L' := [some (.ref 0), some (.int (nI s)), some (.int (nI k)), some (.int (nI q)), some (.int (nI (rPe (P s) k))), some (.int (nI 0)), none]) d_Main_parts_45 (by decide) rfl rfl ?_
  refine j_iconst (v := nI 0) d_Main_parts_47 rfl ?_
  refine j_istore (L' := [some (.ref 0), some (.int (nI s)), some (.int (nI k)), some (.int (nI q)), some (.int (nI (rPe (P s) k))), some (.int (nI 0)), some (.int (nI 0))]) d_Main_parts_48 (by decide) rfl rfl ?_
  refine j_loop (P := fun i => jJ n 5 jc_Main_parts 7 "YesNoPowers" 50 [some (.ref 0), some (.int (nI s)), some (.int (nI k)), some (.int (nI q)), some (.int (nI (rPe (P s) k))), some (.int (nI (prF (P s) k q i))), some (.int (nI i))] [] (rdK h (P s) (rNb (P s))) res) (m := (P s).1) ?_ (fun i hi ih => ?_)
  · refine j_iload d_Main_parts_50 rfl ?_
    refine j_aload_n d_Main_parts_52 rfl ?_
    refine j_getr (b := 1) d_Main_parts_53 jf_Main_11 rfl rfl rfl (by decide) ?_
    refine j_iload_n d_Main_parts_56 rfl ?_
    refine j_aaldN (b := 115 + 2 * s) d_Main_parts_57 rfl (by decide) (by omega) (by decide) (jrf_slot _ (by omega)) (by omega) ?_
    refine j_getv (v := nI ((P s).1)) d_Main_parts_58 jf_Main_106 (isT_slot s (by omega)).1 rfl (rep_of (rdK_out (by omega) _) (rdK_out (by omega) _) (hP s hs)).1 ?_
    refine j_icmp_geN_t (tgt := 106) d_Main_parts_61 (by decide) (by omega) (by omega) (Nat.le_refl _) ?_
    refine j_iload d_Main_parts_106 rfl ?_
    subst hres
    exact j_reti d_Main_parts_108 rfl rfl
  · have hmi := g1.2.2.2 i hi
    have hpa : rPa (P s) i < 2 ^ 31 := by unfold rPa; split; omega; exact Nat.lt_of_le_of_lt (Nat.mod_le _ _) (Nat.lt_of_le_of_lt (rds_le (hw s) _ i) (by omega))
    refine j_iload d_Main_parts_50 rfl ?_
    refine j_aload_n d_Main_parts_52 rfl ?_
    refine j_getr (b := 1) d_Main_parts_53 jf_Main_11 rfl rfl rfl (by decide) ?_
    refine j_iload_n d_Main_parts_56 rfl ?_
    refine j_aaldN (b := 115 + 2 * s) d_Main_parts_57 rfl (by decide) (by omega) (by decide) (jrf_slot _ (by omega)) (by omega) ?_
    refine j_getv (v := nI ((P s).1)) d_Main_parts_58 jf_Main_106 (isT_slot s (by omega)).1 rfl (rep_of (rdK_out (by omega) _) (rdK_out (by omega) _) (hP s hs)).1 ?_
    refine j_icmp_geN_f (tgt := 106) d_Main_parts_61 (by decide) (by omega) (by omega) (Nat.not_le.mpr hi) ?_
    refine j_aload_n d_Main_parts_64 rfl ?_
    refine j_getr (b := 51) d_Main_parts_65 jf_Main_38 rfl rfl rfl (by decide) ?_
    refine j_getr (b := 52) d_Main_parts_68 jf_Main_204 rfl rfl rfl (by decide) ?_
    refine j_iload d_Main_parts_71 rfl ?_
    refine j_ialdN (v := nI (rHm (P s) i)) d_Main_parts_73 rfl (by omega) (by decide) (g1.2.2.1 i hi) ?_
    refine j_iload_n d_Main_parts_74 rfl ?_
    refine j_icmp_neN (tgt := 100) d_Main_parts_75 (by decide) (by omega) (by omega) (fun c => ?_) (fun c => ?_)
    · have hz : prF (P s) k q i = prF (P s) k q (i + 1) := jor_z (if_neg (fun z => c z.1))
      rw [← hz] at ih
      refine j_iincN (x := i) (L' := [some (.ref 0), some (.int (nI s)), some (.int (nI k)), some (.int (nI q)), some (.int (nI (rPe (P s) k))), some (.int (nI (prF (P s) k q i))), some (.int (nI (i + 1)))]) d_Main_parts_100 rfl (by decide) rfl rfl ?_
      refine j_goto (tgt := 50) d_Main_parts_103 (by decide) ?_
      exact ih
    · refine j_aload_n d_Main_parts_78 rfl ?_
      refine j_getr (b := 51) d_Main_parts_79 jf_Main_38 rfl rfl rfl (by decide) ?_
      refine j_iload d_Main_parts_82 rfl ?_
      refine j_callVs (As := [.int (nI i)]) (st := []) (x_partOf (hw s) hrg hi) d_Main_parts_84 (by decide) jm_Rings_partOf jk_Main_229 ji_Rings_partOf js_Rings_partOf rfl (by decide) rfl rfl (Nat.le_of_ble_eq_true rfl) rfl ?_
      refine j_iload_n d_Main_parts_87 rfl ?_
      refine j_icmp_neN (tgt := 100) d_Main_parts_88 (by decide) (by omega) (by omega) (fun c2 => ?_) (fun c2 => ?_)
      · have hz : prF (P s) k q i = prF (P s) k q (i + 1) := jor_z (if_neg (fun z => c2 z.2))
        rw [← hz] at ih
        refine j_iincN (x := i) (L' := [some (.ref 0), some (.int (nI s)), some (.int (nI k)), some (.int (nI q)), some (.int (nI (rPe (P s) k))), some (.int (nI (prF (P s) k q i))), some (.int (nI (i + 1)))]) d_Main_parts_100 rfl (by decide) rfl rfl ?_
        refine j_goto (tgt := 50) d_Main_parts_103 (by decide) ?_
        exact ih
      · refine j_iload d_Main_parts_91 rfl ?_
        refine j_iconst (v := nI 1) d_Main_parts_93 rfl ?_
        refine j_iload d_Main_parts_94 rfl ?_
        refine j_shl1N d_Main_parts_96 (by omega) ?_
        refine j_iorN d_Main_parts_97 ?_
        refine j_top (w := nI (prF (P s) k q (i + 1))) (congrArg nI (jor_t (if_pos ⟨c, c2⟩))) ?_
        refine j_istore (L' := [some (.ref 0), some (.int (nI s)), some (.int (nI k)), some (.int (nI q)), some (.int (nI (rPe (P s) k))), some (.int (nI (prF (P s) k q (i + 1)))), some (.int (nI i))]) d_Main_parts_98 (by decide) rfl rfl ?_
        refine j_iincN (x := i) (L' := [some (.ref 0), some (.int (nI s)), some (.int (nI k)), some (.int (nI q)), some (.int (nI (rPe (P s) k))), some (.int (nI (prF (P s) k q (i + 1)))), some (.int (nI (i + 1)))]) d_Main_parts_100 rfl (by decide) rfl rfl ?_
        refine j_goto (tgt := 50) d_Main_parts_103 (by decide) ?_
        exact ih

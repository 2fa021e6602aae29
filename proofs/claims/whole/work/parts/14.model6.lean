def jokSet (P : jP) (s i v : Int32) : Bool := jho P s && jmb (P s.toNatClampNeg).1 i && jse (P s.toNatClampNeg).1 v
theorem c_setRow_bad {n : jN} {h : jH} {P : jP} {slot i v : Int32} (hw : ∀ q, tw (P q)) (hb : jokSet P slot i v = false) : jC n 2 jy_Model_setRow jc_Model_setRow 5 (some .int) [.ref 135, .int slot, .int i, .int v] (jM h P) (some (.int (-1))) (jM h P) := by
  refine jC_of jm_Model_setRow (L := [some (.ref 135), some (.int slot), some (.int i), some (.int v), none]) (Nat.le_of_ble_eq_true rfl) rfl trivial ?_
  generalize hres : (((some (.int (-1))), jM h P) : Option Value × jH) = res
  refine j_aload_n d_Model_setRow_0 rfl ?_
  refine j_iload_n d_Model_setRow_1 rfl ?_
  refine j_callVs (As := [.int slot]) (st := []) (c_holds hw) d_Model_setRow_2 (by decide) jm_Model_holds jk_Model_117 ji_Model_holds js_Model_holds rfl (by decide) rfl rfl (Nat.le_of_ble_eq_true rfl) rfl ?_
  refine j_if_eqB (tgt := 26) d_Model_setRow_5 (by decide) (fun c1 => ?_) (fun c1 => ?_)
  · refine j_iconst (v := -1) d_Model_setRow_26 rfl ?_
    subst hres
    exact j_reti d_Model_setRow_27 rfl rfl
  · obtain ⟨s, hs, hs0, rfl⟩ := jho_t c1
    have hns := (hw s).1
    refine j_aload_n d_Model_setRow_8 rfl ?_
    refine j_iload_n d_Model_setRow_9 rfl ?_
    refine j_iload_n d_Model_setRow_10 rfl ?_
    refine j_callVs (As := [.int (nI s), .int i]) (st := []) (c_isMember (by omega)) d_Model_setRow_11 (by decide) jm_Model_isMember jk_Model_120 ji_Model_isMember js_Model_isMember rfl (by decide) rfl rfl (Nat.le_of_ble_eq_true rfl) rfl ?_
    refine j_if_eqB (tgt := 26) d_Model_setRow_14 (by decide) (fun c2 => ?_) (fun c2 => ?_)
    · refine j_iconst (v := -1) d_Model_setRow_26 rfl ?_
      subst hres
      exact j_reti d_Model_setRow_27 rfl rfl
    · refine j_aload_n d_Model_setRow_17 rfl ?_
      refine j_iload_n d_Model_setRow_18 rfl ?_
      refine j_iload_n d_Model_setRow_19 rfl ?_
      refine j_callVs (As := [.int (nI s), .int v]) (st := []) (c_isSet (by omega) (hw s).1) d_Model_setRow_20 (by decide) jm_Model_isSet jk_Model_124 ji_Model_isSet js_Model_isSet rfl (by decide) rfl rfl (Nat.le_of_ble_eq_true rfl) rfl ?_
      refine j_if_neB (tgt := 28) d_Model_setRow_23 (by decide) (fun c3 => ?_) (fun c3 => ?_)
      · exact absurd hb (by simp [jokSet, c1, c2, c3, nI_clamp (show s < 2 ^ 31 by omega)])
      · refine j_iconst (v := -1) d_Model_setRow_26 rfl ?_
        subst hres
        exact j_reti d_Model_setRow_27 rfl rfl
theorem c_setRow {n : jN} {h : jH} {ls : Nat → Nat} {lg : Nat} {P : jP} {s i v : Nat} (hl : lg ≤ 20) (hw : ∀ q, tw (P q)) (hs : s < 6) (h0 : 0 < (P s).1) (hi : i < (P s).1) (hv : v < 2 ^ (P s).1) : jC n 2 jy_Model_setRow jc_Model_setRow 5 (some .int) [.ref 135, .int (nI s), .int (nI i), .int (nI v)] (jM (jL h ls lg) P) (some (.int (nI ((P s).2 i)))) (jM (jL h (lgS ls lg s) (lgN lg)) (jset (lgP P lg s) s (trset (P s) i v))) := by
  have hn := (hw s).1
  refine jC_of jm_Model_setRow (L := [some (.ref 135), some (.int (nI s)), some (.int (nI i)), some (.int (nI v)), none]) (Nat.le_of_ble_eq_true rfl) rfl trivial ?_
  generalize hres : (((some (.int (nI ((P s).2 i)))), jM (jL h (lgS ls lg s) (lgN lg)) (jset (lgP P lg s) s (trset (P s) i v))) : Option Value × jH) = res
  refine j_aload_n d_Model_setRow_0 rfl ?_
  refine j_iload_n d_Model_setRow_1 rfl ?_
  refine j_callVs (As := [.int (nI s)]) (st := []) (c_holds hw) d_Model_setRow_2 (by decide) jm_Model_holds jk_Model_117 ji_Model_holds js_Model_holds rfl (by decide) rfl rfl (Nat.le_of_ble_eq_true rfl) rfl ?_
  refine j_if_eqB_f (tgt := 26) d_Model_setRow_5 (by decide) (jho_y hs h0) ?_
  refine j_aload_n d_Model_setRow_8 rfl ?_
  refine j_iload_n d_Model_setRow_9 rfl ?_
  refine j_iload_n d_Model_setRow_10 rfl ?_
  refine j_callVs (As := [.int (nI s), .int (nI i)]) (st := []) (c_isMember (by omega)) d_Model_setRow_11 (by decide) jm_Model_isMember jk_Model_120 ji_Model_isMember js_Model_isMember rfl (by decide) rfl rfl (Nat.le_of_ble_eq_true rfl) rfl ?_
  refine j_if_eqB_f (tgt := 26) d_Model_setRow_14 (by decide) (jmb_y hn hi) ?_
  refine j_aload_n d_Model_setRow_17 rfl ?_
  refine j_iload_n d_Model_setRow_18 rfl ?_
  refine j_iload_n d_Model_setRow_19 rfl ?_
  refine j_callVs (As := [.int (nI s), .int (nI v)]) (st := []) (c_isSet (by omega) (hw s).1) d_Model_setRow_20 (by decide) jm_Model_isSet jk_Model_124 ji_Model_isSet js_Model_isSet rfl (by decide) rfl rfl (Nat.le_of_ble_eq_true rfl) rfl ?_
  refine j_if_neB_t (tgt := 28) d_Model_setRow_23 (by decide) (jse_y hn hv) ?_
  refine j_aload_n d_Model_setRow_28 rfl ?_
  refine j_iload_n d_Model_setRow_29 rfl ?_
  refine j_iload_n d_Model_setRow_30 rfl ?_
  refine j_callVs (As := [.int (nI s), .int (nI i)]) (st := []) (c_row (by omega) (by omega)) d_Model_setRow_31 (by decide) jm_Model_row jk_Model_71 ji_Model_row js_Model_row rfl (by decide) rfl rfl (Nat.le_of_ble_eq_true rfl) rfl ?_
  refine j_istore (L' := [some (.ref 135), some (.int (nI s)), some (.int (nI i)), some (.int (nI v)), some (.int (nI ((P s).2 i)))]) d_Model_setRow_34 (by decide) rfl rfl ?_
  refine j_aload_n d_Model_setRow_36 rfl ?_
  refine j_iload_n d_Model_setRow_37 rfl ?_
  refine j_callVn (As := [.int (nI s)]) (st := []) (c_logs hl (by omega) hw) d_Model_setRow_38 (by decide) jm_Model_logs jk_Model_102 ji_Model_logs js_Model_logs rfl (by decide) rfl rfl (Nat.le_of_ble_eq_true rfl) rfl ?_
  refine j_aload_n d_Model_setRow_41 rfl ?_
  refine j_getr (b := 136) d_Model_setRow_42 jf_Model_7 rfl rfl rfl (by decide) ?_
  refine j_bipush (v := nI 12) d_Model_setRow_45 (by decide) ?_
  refine j_iload_n d_Model_setRow_47 rfl ?_
  refine j_imulN d_Model_setRow_48 ?_
  refine j_iload_n d_Model_setRow_49 rfl ?_
  refine j_iaddN d_Model_setRow_50 ?_
  refine j_iload_n d_Model_setRow_51 rfl ?_
  refine j_iastN (h' := jM (jL h (lgS ls lg s) (lgN lg)) (jset (lgP P lg s) s (((lgP P lg s) s).1, fun zz => if zz = i then v else ((lgP P lg s) s).2 zz))) d_Model_setRow_52 rfl (by omega) (by decide) (jM_set_row (by omega)) ?_
  refine j_iload d_Model_setRow_53 rfl ?_
  subst hres
  exact j_reti d_Model_setRow_55 rfl (jM_P (fun z => by simp only [jset, trset, lgP_ne (P := P) (s := s) hl (Or.inl hs)]))
def jokMake (s m w : Int32) : Bool := jsl s && jin m 1 12 && jin w 0 4 && !(w == 4 && m == 1)
def mkr (m w i : Nat) : Nat := if w = 0 then 0 else if w = 1 then 2 ^ m - 1 else if w = 2 then 2 ^ i else 2 ^ ((i + 1) % m) ||| (if w = 4 ∧ i = m - 1 then 2 else 0)
def tmk (m w : Nat) : jT := (m, fun i => if i < m then mkr m w i else 0)
theorem mkr_lt {m w i : Nat} (hm : m ≤ 12) (hi : i < m) : mkr m w i < 4096 := by
  unfold mkr
  have h1 : 2 ^ m ≤ 2 ^ 12 := Nat.pow_le_pow_right (by omega) hm
  have h2 : 0 < 2 ^ m := Nat.two_pow_pos m
  split
  · omega
  · split
    · omega
    · split
      · exact p2_lt (by omega)
      · refine Nat.or_lt_two_pow (n := 12) (p2_lt (Nat.lt_of_lt_of_le (Nat.mod_lt _ (by omega)) hm)) ?_
        split <;> omega
theorem tw_mk {m w : Nat} (hm : m ≤ 12) : tw (tmk m w) := by
  refine ⟨hm, fun i => ?_, fun i hi => ?_⟩
  · simp only [tmk]
    split
    · exact mkr_lt hm (by assumption)
    · omega
  · have : ¬ i < m := Nat.not_lt.mpr hi
    simp [tmk, this]
theorem c_make_bad {n : jN} {h : jH} {P : jP} {slot m w : Int32} (hb : jokMake slot m w = false) : jC n 3 jy_Model_make jc_Model_make 6 (some .int) [.ref 135, .int slot, .int m, .int w] (jM h P) (some (.int (-1))) (jM h P) := by
  refine jC_of jm_Model_make (L := [some (.ref 135), some (.int slot), some (.int m), some (.int w), none, none]) (Nat.le_of_ble_eq_true rfl) rfl trivial ?_
  generalize hres : (((some (.int (-1))), jM h P) : Option Value × jH) = res
  refine j_iload_n d_Model_make_0 rfl ?_
  refine j_callSs (As := [.int slot]) (st := []) c_isSlot d_Model_make_1 (by decide) jm_Model_isSlot jk_Model_63 js_Model_isSlot rfl (Nat.le_of_ble_eq_true rfl) rfl ?_
  refine j_if_eqB (tgt := 41) d_Model_make_4 (by decide) (fun c1 => ?_) (fun c1 => ?_)
  · refine j_iconst (v := -1) d_Model_make_41 rfl ?_
    subst hres
    exact j_reti d_Model_make_42 rfl rfl
  · refine j_iload_n d_Model_make_7 rfl ?_
    refine j_i2l d_Model_make_8 ?_
    refine j_lconst (v := 1) d_Model_make_9 rfl ?_
    refine j_ldc2 (v := 12) d_Model_make_10 jk_Model_105 ?_
    refine j_callSs (As := [.long m.toInt64, .long 1, .long 12]) (st := []) (c_in (x := m) (lo := 1) (hi := 12) rfl rfl rfl) d_Model_make_13 (by decide) jm_Model_in jk_Model_107 js_Model_in rfl (Nat.le_of_ble_eq_true rfl) rfl ?_
    refine j_if_eqB (tgt := 41) d_Model_make_16 (by decide) (fun c2 => ?_) (fun c2 => ?_)
    · refine j_iconst (v := -1) d_Model_make_41 rfl ?_
      subst hres
      exact j_reti d_Model_make_42 rfl rfl
    · refine j_iload_n d_Model_make_19 rfl ?_
      refine j_i2l d_Model_make_20 ?_
      refine j_lconst (v := 0) d_Model_make_21 rfl ?_
      refine j_ldc2 (v := 4) d_Model_make_22 jk_Model_111 ?_
      refine j_callSs (As := [.long w.toInt64, .long 0, .long 4]) (st := []) (c_in (x := w) (lo := 0) (hi := 4) rfl rfl rfl) d_Model_make_25 (by decide) jm_Model_in jk_Model_107 js_Model_in rfl (Nat.le_of_ble_eq_true rfl) rfl ?_
      refine j_if_eqB (tgt := 41) d_Model_make_28 (by decide) (fun c3 => ?_) (fun c3 => ?_)
      · refine j_iconst (v := -1) d_Model_make_41 rfl ?_
        subst hres
        exact j_reti d_Model_make_42 rfl rfl
      · obtain ⟨w0, hw0, hw1, hw2, rfl⟩ := jin_k (by omega) c3
        obtain ⟨m0, hm0, hm1, hm2, rfl⟩ := jin_k (by omega) c2
        refine j_iload_n d_Model_make_31 rfl ?_
        refine j_iconst (v := nI 4) d_Model_make_32 rfl ?_
        refine j_icmp_neN (tgt := 43) d_Model_make_33 (by decide) (by omega) (by omega) (fun c4 => ?_) (fun c4 => ?_)
        · have e1 : (nI w0 == 4) = false := by rw [beq_eq_false_iff_ne]; exact fun z => c4 ((nI_eq (b := 4) hw2 (by omega)).mp z)
          exact absurd hb (by simp [jokMake, c1, c2, c3, e1])
        · refine j_iload_n d_Model_make_36 rfl ?_
          refine j_iconst (v := nI 1) d_Model_make_37 rfl ?_
          refine j_icmp_neN (tgt := 43) d_Model_make_38 (by decide) (by omega) (by omega) (fun c5 => ?_) (fun c5 => ?_)
          · have e1 : (nI m0 == 1) = false := by rw [beq_eq_false_iff_ne]; exact fun z => c5 ((nI_eq (b := 1) hm2 (by omega)).mp z)
            exact absurd hb (by simp [jokMake, c1, c2, c3, e1])
          · refine j_iconst (v := -1) d_Model_make_41 rfl ?_
            subst hres
            exact j_reti d_Model_make_42 rfl rfl
theorem c_make {n : jN} {h : jH} {ls : Nat → Nat} {lg : Nat} {P : jP} {s m w : Nat} (hl : lg ≤ 20) (hw : ∀ q, tw (P q)) (hs : s < 6) (hm0 : 0 < m) (hm : m ≤ 12) (hw4 : w ≤ 4) (h41 : ¬ (w = 4 ∧ m = 1)) : jC n 3 jy_Model_make jc_Model_make 6 (some .int) [.ref 135, .int (nI s), .int (nI m), .int (nI w)] (jM (jL h ls lg) P) (some (.int (nI m))) (jM (jL h (lgS ls lg s) (lgN lg)) (jcome (jset P 35 (tmk m w)) lg s)) := by
  refine jC_of jm_Model_make (L := [some (.ref 135), some (.int (nI s)), some (.int (nI m)), some (.int (nI w)), none, none]) (Nat.le_of_ble_eq_true rfl) rfl trivial ?_
  generalize hres : (((some (.int (nI m))), jM (jL h (lgS ls lg s) (lgN lg)) (jcome (jset P 35 (tmk m w)) lg s)) : Option Value × jH) = res
  refine j_iload_n d_Model_make_0 rfl ?_
  refine j_callSs (As := [.int (nI s)]) (st := []) c_isSlot d_Model_make_1 (by decide) jm_Model_isSlot jk_Model_63 js_Model_isSlot rfl (Nat.le_of_ble_eq_true rfl) rfl ?_
  refine j_if_eqB_f (tgt := 41) d_Model_make_4 (by decide) (jsl_N hs) ?_
  refine j_iload_n d_Model_make_7 rfl ?_
  refine j_i2l d_Model_make_8 ?_
  refine j_lconst (v := 1) d_Model_make_9 rfl ?_
  refine j_ldc2 (v := 12) d_Model_make_10 jk_Model_105 ?_
  refine j_callSs (As := [.long ((nI m).toInt64), .long 1, .long 12]) (st := []) (c_in (x := (nI m)) (lo := 1) (hi := 12) rfl rfl rfl) d_Model_make_13 (by decide) jm_Model_in jk_Model_107 js_Model_in rfl (Nat.le_of_ble_eq_true rfl) rfl ?_
  refine j_if_eqB_f (tgt := 41) d_Model_make_16 (by decide) (jin_y (by omega) (by omega) (by omega)) ?_
  refine j_iload_n d_Model_make_19 rfl ?_
  refine j_i2l d_Model_make_20 ?_
  refine j_lconst (v := 0) d_Model_make_21 rfl ?_
  refine j_ldc2 (v := 4) d_Model_make_22 jk_Model_111 ?_
  refine j_callSs (As := [.long ((nI w).toInt64), .long 0, .long 4]) (st := []) (c_in (x := (nI w)) (lo := 0) (hi := 4) rfl rfl rfl) d_Model_make_25 (by decide) jm_Model_in jk_Model_107 js_Model_in rfl (Nat.le_of_ble_eq_true rfl) rfl ?_
  refine j_if_eqB_f (tgt := 41) d_Model_make_28 (by decide) (jin_y (by omega) (by omega) (by omega)) ?_
  have key : jJ n 3 jc_Model_make 6 "YesNoPowersModel" 53 [some (.ref 135), some (.int (nI s)), some (.int (nI m)), some (.int (nI w)), some (.int (nI 0)), none] [] (jM (jL h ls lg) (jset P 35 (m, fun i => if i < 0 then mkr m w i else 0))) res := by
    refine j_loop (P := fun k => jJ n 3 jc_Model_make 6 "YesNoPowersModel" 53 [some (.ref 135), some (.int (nI s)), some (.int (nI m)), some (.int (nI w)), some (.int (nI k)), none] [] (jM (jL h ls lg) (jset P 35 (m, fun i => if i < k then mkr m w i else 0))) res) (m := m) ?_ (fun k hk ih => ?_)
    · refine j_iload d_Model_make_53 rfl ?_
      refine j_iload_n d_Model_make_55 rfl ?_
      refine j_icmp_geN_t (tgt := 140) d_Model_make_56 (by decide) (by omega) (by omega) (Nat.le_refl _) ?_
      refine j_heap (h' := jM (jL h ls lg) (jset P 35 (tmk m w))) rfl ?_
      refine j_aload_n d_Model_make_140 rfl ?_
      refine j_iload_n d_Model_make_141 rfl ?_
      refine j_callVs (As := [.int (nI s)]) (st := []) (c_comes hl (by omega) (tws hw (tw_mk hm))) d_Model_make_142 (by decide) jm_Model_comes jk_Model_113 ji_Model_comes js_Model_comes rfl (by decide) rfl rfl (Nat.le_of_ble_eq_true rfl) rfl ?_
      subst hres
      exact j_reti d_Model_make_145 (by rw [jset_eq]; rfl) rfl
    · refine j_iload d_Model_make_53 rfl ?_
      refine j_iload_n d_Model_make_55 rfl ?_
      refine j_icmp_geN_f (tgt := 140) d_Model_make_56 (by decide) (by omega) (by omega) (Nat.not_le.mpr hk) ?_
      refine j_iconst (v := nI 1) d_Model_make_59 rfl ?_
      refine j_iload d_Model_make_60 rfl ?_
      refine j_iconst (v := nI 1) d_Model_make_62 rfl ?_
      refine j_iaddN d_Model_make_63 ?_
      refine j_iload_n d_Model_make_64 rfl ?_
      refine j_iremN d_Model_make_65 (by omega) (by omega) (by omega) ?_
      refine j_shl1N d_Model_make_66 (Nat.lt_of_lt_of_le (Nat.mod_lt _ (by omega)) (by omega)) ?_
      refine j_iload_n d_Model_make_67 rfl ?_
      refine j_iconst (v := nI 4) d_Model_make_68 rfl ?_
      refine j_icmp_neN (tgt := 84) d_Model_make_69 (by decide) (by omega) (by omega) (fun c4 => ?_) (fun c4 => ?_)
      · refine j_iconst (v := nI 0) d_Model_make_84 rfl ?_
        refine j_iorN d_Model_make_85 ?_
        refine j_istore (L' := [some (.ref 135), some (.int (nI s)), some (.int (nI m)), some (.int (nI w)), some (.int (nI k)), some (.int (nI ((2 ^ ((k + 1) % m)) ||| 0)))]) d_Model_make_86 (by decide) rfl rfl ?_
        refine j_aload_n d_Model_make_88 rfl ?_
        refine j_getr (b := 136) d_Model_make_89 jf_Model_7 rfl rfl rfl (by decide) ?_
        refine j_sipush (v := nI 420) d_Model_make_92 (by decide) ?_
        refine j_iload d_Model_make_95 rfl ?_
        refine j_iaddN d_Model_make_97 ?_
        refine j_iload_n d_Model_make_98 rfl ?_
        refine j_if_neN (tgt := 106) d_Model_make_99 (by decide) (by omega) (fun d0 => ?_) (fun d0 => ?_)
        · refine j_iload_n d_Model_make_106 rfl ?_
          refine j_iconst (v := nI 1) d_Model_make_107 rfl ?_
          refine j_icmp_neN (tgt := 119) d_Model_make_108 (by decide) (by omega) (by omega) (fun d1 => ?_) (fun d1 => ?_)
          · refine j_iload_n d_Model_make_119 rfl ?_
            refine j_iconst (v := nI 2) d_Model_make_120 rfl ?_
            refine j_icmp_neN (tgt := 131) d_Model_make_121 (by decide) (by omega) (by omega) (fun d2 => ?_) (fun d2 => ?_)
            · refine j_iload d_Model_make_131 rfl ?_
              refine j_top (w := nI (mkr m w k)) (by first | (exfalso; omega) | simp [mkr, c4, d0, d1, d2]) ?_
              refine j_iastN (h' := jM (jL h ls lg) (jset P 35 (m, fun zz => if zz = k then mkr m w k else (fun i => if i < k then mkr m w i else 0) zz))) d_Model_make_133 rfl (by omega) (by decide) (jM_set_row_p (p := 35) (by omega)) ?_
              refine j_heap (h' := jM (jL h ls lg) (jset P 35 (m, fun i => if i < k + 1 then mkr m w i else 0))) (jM_cg rfl (fun j hj => by by_cases e : j = k; (simp [e]); (simp [e, jlt_s e]))) ?_
              refine j_iincN (x := k) (L' := [some (.ref 135), some (.int (nI s)), some (.int (nI m)), some (.int (nI w)), some (.int (nI (k + 1))), some (.int (nI ((2 ^ ((k + 1) % m)) ||| 0)))]) d_Model_make_134 rfl (by decide) rfl rfl ?_
              refine j_goto (tgt := 53) d_Model_make_137 (by decide) ?_
              exact j_forget (i := 5) rfl ih
            · refine j_iconst (v := nI 1) d_Model_make_124 rfl ?_
              refine j_iload d_Model_make_125 rfl ?_
              refine j_shl1N d_Model_make_127 (by omega) ?_
              refine j_goto (tgt := 133) d_Model_make_128 (by decide) ?_
              refine j_top (w := nI (mkr m w k)) (by first | (exfalso; omega) | simp [mkr, c4, d0, d1, d2]) ?_
              refine j_iastN (h' := jM (jL h ls lg) (jset P 35 (m, fun zz => if zz = k then mkr m w k else (fun i => if i < k then mkr m w i else 0) zz))) d_Model_make_133 rfl (by omega) (by decide) (jM_set_row_p (p := 35) (by omega)) ?_
              refine j_heap (h' := jM (jL h ls lg) (jset P 35 (m, fun i => if i < k + 1 then mkr m w i else 0))) (jM_cg rfl (fun j hj => by by_cases e : j = k; (simp [e]); (simp [e, jlt_s e]))) ?_
              refine j_iincN (x := k) (L' := [some (.ref 135), some (.int (nI s)), some (.int (nI m)), some (.int (nI w)), some (.int (nI (k + 1))), some (.int (nI ((2 ^ ((k + 1) % m)) ||| 0)))]) d_Model_make_134 rfl (by decide) rfl rfl ?_
              refine j_goto (tgt := 53) d_Model_make_137 (by decide) ?_
              exact j_forget (i := 5) rfl ih
          · refine j_iconst (v := nI 1) d_Model_make_111 rfl ?_
            refine j_iload_n d_Model_make_112 rfl ?_
            refine j_shl1N d_Model_make_113 (by omega) ?_
            refine j_iconst (v := nI 1) d_Model_make_114 rfl ?_
            refine j_isubN d_Model_make_115 Nat.one_le_two_pow ?_
            refine j_goto (tgt := 133) d_Model_make_116 (by decide) ?_
            refine j_top (w := nI (mkr m w k)) (by first | (exfalso; omega) | simp [mkr, c4, d0, d1]) ?_
            refine j_iastN (h' := jM (jL h ls lg) (jset P 35 (m, fun zz => if zz = k then mkr m w k else (fun i => if i < k then mkr m w i else 0) zz))) d_Model_make_133 rfl (by omega) (by decide) (jM_set_row_p (p := 35) (by omega)) ?_
            refine j_heap (h' := jM (jL h ls lg) (jset P 35 (m, fun i => if i < k + 1 then mkr m w i else 0))) (jM_cg rfl (fun j hj => by by_cases e : j = k; (simp [e]); (simp [e, jlt_s e]))) ?_
            refine j_iincN (x := k) (L' := [some (.ref 135), some (.int (nI s)), some (.int (nI m)), some (.int (nI w)), some (.int (nI (k + 1))), some (.int (nI ((2 ^ ((k + 1) % m)) ||| 0)))]) d_Model_make_134 rfl (by decide) rfl rfl ?_
            refine j_goto (tgt := 53) d_Model_make_137 (by decide) ?_
            exact j_forget (i := 5) rfl ih
        · refine j_iconst (v := nI 0) d_Model_make_102 rfl ?_
          refine j_goto (tgt := 133) d_Model_make_103 (by decide) ?_
          refine j_top (w := nI (mkr m w k)) (by first | (exfalso; omega) | simp [mkr, c4, d0]) ?_
          refine j_iastN (h' := jM (jL h ls lg) (jset P 35 (m, fun zz => if zz = k then mkr m w k else (fun i => if i < k then mkr m w i else 0) zz))) d_Model_make_133 rfl (by omega) (by decide) (jM_set_row_p (p := 35) (by omega)) ?_
          refine j_heap (h' := jM (jL h ls lg) (jset P 35 (m, fun i => if i < k + 1 then mkr m w i else 0))) (jM_cg rfl (fun j hj => by by_cases e : j = k; (simp [e]); (simp [e, jlt_s e]))) ?_
          refine j_iincN (x := k) (L' := [some (.ref 135), some (.int (nI s)), some (.int (nI m)), some (.int (nI w)), some (.int (nI (k + 1))), some (.int (nI ((2 ^ ((k + 1) % m)) ||| 0)))]) d_Model_make_134 rfl (by decide) rfl rfl ?_
          refine j_goto (tgt := 53) d_Model_make_137 (by decide) ?_
          exact j_forget (i := 5) rfl ih
      · refine j_iload d_Model_make_72 rfl ?_
        refine j_iload_n d_Model_make_74 rfl ?_
        refine j_iconst (v := nI 1) d_Model_make_75 rfl ?_
        refine j_isubN d_Model_make_76 (by omega) ?_
        refine j_icmp_neN (tgt := 84) d_Model_make_77 (by decide) (by omega) (by omega) (fun c5 => ?_) (fun c5 => ?_)
        · refine j_iconst (v := nI 0) d_Model_make_84 rfl ?_
          refine j_iorN d_Model_make_85 ?_
          refine j_istore (L' := [some (.ref 135), some (.int (nI s)), some (.int (nI m)), some (.int (nI w)), some (.int (nI k)), some (.int (nI ((2 ^ ((k + 1) % m)) ||| 0)))]) d_Model_make_86 (by decide) rfl rfl ?_
          refine j_aload_n d_Model_make_88 rfl ?_
          refine j_getr (b := 136) d_Model_make_89 jf_Model_7 rfl rfl rfl (by decide) ?_
          refine j_sipush (v := nI 420) d_Model_make_92 (by decide) ?_
          refine j_iload d_Model_make_95 rfl ?_
          refine j_iaddN d_Model_make_97 ?_
          refine j_iload_n d_Model_make_98 rfl ?_
          refine j_if_neN (tgt := 106) d_Model_make_99 (by decide) (by omega) (fun d0 => ?_) (fun d0 => ?_)
          · refine j_iload_n d_Model_make_106 rfl ?_
            refine j_iconst (v := nI 1) d_Model_make_107 rfl ?_
            refine j_icmp_neN (tgt := 119) d_Model_make_108 (by decide) (by omega) (by omega) (fun d1 => ?_) (fun d1 => ?_)
            · refine j_iload_n d_Model_make_119 rfl ?_
              refine j_iconst (v := nI 2) d_Model_make_120 rfl ?_
              refine j_icmp_neN (tgt := 131) d_Model_make_121 (by decide) (by omega) (by omega) (fun d2 => ?_) (fun d2 => ?_)
              · refine j_iload d_Model_make_131 rfl ?_
                refine j_top (w := nI (mkr m w k)) (by first | (exfalso; omega) | simp [mkr, c4, c5, d0, d1, d2]) ?_
                refine j_iastN (h' := jM (jL h ls lg) (jset P 35 (m, fun zz => if zz = k then mkr m w k else (fun i => if i < k then mkr m w i else 0) zz))) d_Model_make_133 rfl (by omega) (by decide) (jM_set_row_p (p := 35) (by omega)) ?_
                refine j_heap (h' := jM (jL h ls lg) (jset P 35 (m, fun i => if i < k + 1 then mkr m w i else 0))) (jM_cg rfl (fun j hj => by by_cases e : j = k; (simp [e]); (simp [e, jlt_s e]))) ?_
                refine j_iincN (x := k) (L' := [some (.ref 135), some (.int (nI s)), some (.int (nI m)), some (.int (nI w)), some (.int (nI (k + 1))), some (.int (nI ((2 ^ ((k + 1) % m)) ||| 0)))]) d_Model_make_134 rfl (by decide) rfl rfl ?_
                refine j_goto (tgt := 53) d_Model_make_137 (by decide) ?_
                exact j_forget (i := 5) rfl ih
              · refine j_iconst (v := nI 1) d_Model_make_124 rfl ?_
                refine j_iload d_Model_make_125 rfl ?_
                refine j_shl1N d_Model_make_127 (by omega) ?_
                refine j_goto (tgt := 133) d_Model_make_128 (by decide) ?_
                refine j_top (w := nI (mkr m w k)) (by first | (exfalso; omega) | simp [mkr, c4, c5, d0, d1, d2]) ?_
                refine j_iastN (h' := jM (jL h ls lg) (jset P 35 (m, fun zz => if zz = k then mkr m w k else (fun i => if i < k then mkr m w i else 0) zz))) d_Model_make_133 rfl (by omega) (by decide) (jM_set_row_p (p := 35) (by omega)) ?_
                refine j_heap (h' := jM (jL h ls lg) (jset P 35 (m, fun i => if i < k + 1 then mkr m w i else 0))) (jM_cg rfl (fun j hj => by by_cases e : j = k; (simp [e]); (simp [e, jlt_s e]))) ?_
                refine j_iincN (x := k) (L' := [some (.ref 135), some (.int (nI s)), some (.int (nI m)), some (.int (nI w)), some (.int (nI (k + 1))), some (.int (nI ((2 ^ ((k + 1) % m)) ||| 0)))]) d_Model_make_134 rfl (by decide) rfl rfl ?_
                refine j_goto (tgt := 53) d_Model_make_137 (by decide) ?_
                exact j_forget (i := 5) rfl ih
            · refine j_iconst (v := nI 1) d_Model_make_111 rfl ?_
              refine j_iload_n d_Model_make_112 rfl ?_
              refine j_shl1N d_Model_make_113 (by omega) ?_
              refine j_iconst (v := nI 1) d_Model_make_114 rfl ?_
              refine j_isubN d_Model_make_115 Nat.one_le_two_pow ?_
              refine j_goto (tgt := 133) d_Model_make_116 (by decide) ?_
              refine j_top (w := nI (mkr m w k)) (by first | (exfalso; omega) | simp [mkr, c4, c5, d0, d1]) ?_
              refine j_iastN (h' := jM (jL h ls lg) (jset P 35 (m, fun zz => if zz = k then mkr m w k else (fun i => if i < k then mkr m w i else 0) zz))) d_Model_make_133 rfl (by omega) (by decide) (jM_set_row_p (p := 35) (by omega)) ?_
              refine j_heap (h' := jM (jL h ls lg) (jset P 35 (m, fun i => if i < k + 1 then mkr m w i else 0))) (jM_cg rfl (fun j hj => by by_cases e : j = k; (simp [e]); (simp [e, jlt_s e]))) ?_
              refine j_iincN (x := k) (L' := [some (.ref 135), some (.int (nI s)), some (.int (nI m)), some (.int (nI w)), some (.int (nI (k + 1))), some (.int (nI ((2 ^ ((k + 1) % m)) ||| 0)))]) d_Model_make_134 rfl (by decide) rfl rfl ?_
              refine j_goto (tgt := 53) d_Model_make_137 (by decide) ?_
              exact j_forget (i := 5) rfl ih
          · refine j_iconst (v := nI 0) d_Model_make_102 rfl ?_
            refine j_goto (tgt := 133) d_Model_make_103 (by decide) ?_
            refine j_top (w := nI (mkr m w k)) (by first | (exfalso; omega) | simp [mkr, c4, c5, d0]) ?_
            refine j_iastN (h' := jM (jL h ls lg) (jset P 35 (m, fun zz => if zz = k then mkr m w k else (fun i => if i < k then mkr m w i else 0) zz))) d_Model_make_133 rfl (by omega) (by decide) (jM_set_row_p (p := 35) (by omega)) ?_
            refine j_heap (h' := jM (jL h ls lg) (jset P 35 (m, fun i => if i < k + 1 then mkr m w i else 0))) (jM_cg rfl (fun j hj => by by_cases e : j = k; (simp [e]); (simp [e, jlt_s e]))) ?_
            refine j_iincN (x := k) (L' := [some (.ref 135), some (.int (nI s)), some (.int (nI m)), some (.int (nI w)), some (.int (nI (k + 1))), some (.int (nI ((2 ^ ((k + 1) % m)) ||| 0)))]) d_Model_make_134 rfl (by decide) rfl rfl ?_
            refine j_goto (tgt := 53) d_Model_make_137 (by decide) ?_
            exact j_forget (i := 5) rfl ih
        · refine j_iconst (v := nI 2) d_Model_make_80 rfl ?_
          refine j_goto (tgt := 85) d_Model_make_81 (by decide) ?_
          refine j_iorN d_Model_make_85 ?_
          refine j_istore (L' := [some (.ref 135), some (.int (nI s)), some (.int (nI m)), some (.int (nI w)), some (.int (nI k)), some (.int (nI ((2 ^ ((k + 1) % m)) ||| 2)))]) d_Model_make_86 (by decide) rfl rfl ?_
          refine j_aload_n d_Model_make_88 rfl ?_
          refine j_getr (b := 136) d_Model_make_89 jf_Model_7 rfl rfl rfl (by decide) ?_
          refine j_sipush (v := nI 420) d_Model_make_92 (by decide) ?_
          refine j_iload d_Model_make_95 rfl ?_
          refine j_iaddN d_Model_make_97 ?_
          refine j_iload_n d_Model_make_98 rfl ?_
          refine j_if_neN (tgt := 106) d_Model_make_99 (by decide) (by omega) (fun d0 => ?_) (fun d0 => ?_)
          · refine j_iload_n d_Model_make_106 rfl ?_
            refine j_iconst (v := nI 1) d_Model_make_107 rfl ?_
            refine j_icmp_neN (tgt := 119) d_Model_make_108 (by decide) (by omega) (by omega) (fun d1 => ?_) (fun d1 => ?_)
            · refine j_iload_n d_Model_make_119 rfl ?_
              refine j_iconst (v := nI 2) d_Model_make_120 rfl ?_
              refine j_icmp_neN (tgt := 131) d_Model_make_121 (by decide) (by omega) (by omega) (fun d2 => ?_) (fun d2 => ?_)
              · refine j_iload d_Model_make_131 rfl ?_
                refine j_top (w := nI (mkr m w k)) (by first | (exfalso; omega) | simp [mkr, c4, c5, d0, d1, d2]) ?_
                refine j_iastN (h' := jM (jL h ls lg) (jset P 35 (m, fun zz => if zz = k then mkr m w k else (fun i => if i < k then mkr m w i else 0) zz))) d_Model_make_133 rfl (by omega) (by decide) (jM_set_row_p (p := 35) (by omega)) ?_
                refine j_heap (h' := jM (jL h ls lg) (jset P 35 (m, fun i => if i < k + 1 then mkr m w i else 0))) (jM_cg rfl (fun j hj => by by_cases e : j = k; (simp [e]); (simp [e, jlt_s e]))) ?_
                refine j_iincN (x := k) (L' := [some (.ref 135), some (.int (nI s)), some (.int (nI m)), some (.int (nI w)), some (.int (nI (k + 1))), some (.int (nI ((2 ^ ((k + 1) % m)) ||| 2)))]) d_Model_make_134 rfl (by decide) rfl rfl ?_
                refine j_goto (tgt := 53) d_Model_make_137 (by decide) ?_
                exact j_forget (i := 5) rfl ih
              · refine j_iconst (v := nI 1) d_Model_make_124 rfl ?_
                refine j_iload d_Model_make_125 rfl ?_
                refine j_shl1N d_Model_make_127 (by omega) ?_
                refine j_goto (tgt := 133) d_Model_make_128 (by decide) ?_
                refine j_top (w := nI (mkr m w k)) (by first | (exfalso; omega) | simp [mkr, c4, c5, d0, d1, d2]) ?_
                refine j_iastN (h' := jM (jL h ls lg) (jset P 35 (m, fun zz => if zz = k then mkr m w k else (fun i => if i < k then mkr m w i else 0) zz))) d_Model_make_133 rfl (by omega) (by decide) (jM_set_row_p (p := 35) (by omega)) ?_
                refine j_heap (h' := jM (jL h ls lg) (jset P 35 (m, fun i => if i < k + 1 then mkr m w i else 0))) (jM_cg rfl (fun j hj => by by_cases e : j = k; (simp [e]); (simp [e, jlt_s e]))) ?_
                refine j_iincN (x := k) (L' := [some (.ref 135), some (.int (nI s)), some (.int (nI m)), some (.int (nI w)), some (.int (nI (k + 1))), some (.int (nI ((2 ^ ((k + 1) % m)) ||| 2)))]) d_Model_make_134 rfl (by decide) rfl rfl ?_
                refine j_goto (tgt := 53) d_Model_make_137 (by decide) ?_
                exact j_forget (i := 5) rfl ih
            · refine j_iconst (v := nI 1) d_Model_make_111 rfl ?_
              refine j_iload_n d_Model_make_112 rfl ?_
              refine j_shl1N d_Model_make_113 (by omega) ?_
              refine j_iconst (v := nI 1) d_Model_make_114 rfl ?_
              refine j_isubN d_Model_make_115 Nat.one_le_two_pow ?_
              refine j_goto (tgt := 133) d_Model_make_116 (by decide) ?_
              refine j_top (w := nI (mkr m w k)) (by first | (exfalso; omega) | simp [mkr, c4, c5, d0, d1]) ?_
              refine j_iastN (h' := jM (jL h ls lg) (jset P 35 (m, fun zz => if zz = k then mkr m w k else (fun i => if i < k then mkr m w i else 0) zz))) d_Model_make_133 rfl (by omega) (by decide) (jM_set_row_p (p := 35) (by omega)) ?_
              refine j_heap (h' := jM (jL h ls lg) (jset P 35 (m, fun i => if i < k + 1 then mkr m w i else 0))) (jM_cg rfl (fun j hj => by by_cases e : j = k; (simp [e]); (simp [e, jlt_s e]))) ?_
              refine j_iincN (x := k) (L' := [some (.ref 135), some (.int (nI s)), some (.int (nI m)), some (.int (nI w)), some (.int (nI (k + 1))), some (.int (nI ((2 ^ ((k + 1) % m)) ||| 2)))]) d_Model_make_134 rfl (by decide) rfl rfl ?_
              refine j_goto (tgt := 53) d_Model_make_137 (by decide) ?_
              exact j_forget (i := 5) rfl ih
          · refine j_iconst (v := nI 0) d_Model_make_102 rfl ?_
            refine j_goto (tgt := 133) d_Model_make_103 (by decide) ?_
            refine j_top (w := nI (mkr m w k)) (by first | (exfalso; omega) | simp [mkr, c4, c5, d0]) ?_
            refine j_iastN (h' := jM (jL h ls lg) (jset P 35 (m, fun zz => if zz = k then mkr m w k else (fun i => if i < k then mkr m w i else 0) zz))) d_Model_make_133 rfl (by omega) (by decide) (jM_set_row_p (p := 35) (by omega)) ?_
            refine j_heap (h' := jM (jL h ls lg) (jset P 35 (m, fun i => if i < k + 1 then mkr m w i else 0))) (jM_cg rfl (fun j hj => by by_cases e : j = k; (simp [e]); (simp [e, jlt_s e]))) ?_
            refine j_iincN (x := k) (L' := [some (.ref 135), some (.int (nI s)), some (.int (nI m)), some (.int (nI w)), some (.int (nI (k + 1))), some (.int (nI ((2 ^ ((k + 1) % m)) ||| 2)))]) d_Model_make_134 rfl (by decide) rfl rfl ?_
            refine j_goto (tgt := 53) d_Model_make_137 (by decide) ?_
            exact j_forget (i := 5) rfl ih
  refine j_iload_n d_Model_make_31 rfl ?_
  refine j_iconst (v := nI 4) d_Model_make_32 rfl ?_
  refine j_icmp_neN (tgt := 43) d_Model_make_33 (by decide) (by omega) (by omega) (fun g4 => ?_) (fun g4 => ?_)
  · refine j_aload_n d_Model_make_43 rfl ?_
    refine j_bipush (v := nI 35) d_Model_make_44 (by decide) ?_
    refine j_iload_n d_Model_make_46 rfl ?_
    refine j_callVn (As := [.int (nI 35), .int (nI m)]) (st := []) (c_empty (by omega)) d_Model_make_47 (by decide) jm_Model_empty jk_Model_75 ji_Model_empty js_Model_empty rfl (by decide) rfl rfl (Nat.le_of_ble_eq_true rfl) rfl ?_
    refine j_iconst (v := nI 0) d_Model_make_50 rfl ?_
    refine j_istore (L' := [some (.ref 135), some (.int (nI s)), some (.int (nI m)), some (.int (nI w)), some (.int (nI 0)), none]) d_Model_make_51 (by decide) rfl rfl ?_
    refine j_heap (h' := jM (jL h ls lg) (jset P 35 (m, fun i => if i < 0 then mkr m w i else 0))) (jM_cg rfl (fun j hj => by simp)) ?_
    exact key
  · refine j_iload_n d_Model_make_36 rfl ?_
    refine j_iconst (v := nI 1) d_Model_make_37 rfl ?_
    refine j_icmp_neN (tgt := 43) d_Model_make_38 (by decide) (by omega) (by omega) (fun g5 => ?_) (fun g5 => ?_)
    · refine j_aload_n d_Model_make_43 rfl ?_
      refine j_bipush (v := nI 35) d_Model_make_44 (by decide) ?_
      refine j_iload_n d_Model_make_46 rfl ?_
      refine j_callVn (As := [.int (nI 35), .int (nI m)]) (st := []) (c_empty (by omega)) d_Model_make_47 (by decide) jm_Model_empty jk_Model_75 ji_Model_empty js_Model_empty rfl (by decide) rfl rfl (Nat.le_of_ble_eq_true rfl) rfl ?_
      refine j_iconst (v := nI 0) d_Model_make_50 rfl ?_
      refine j_istore (L' := [some (.ref 135), some (.int (nI s)), some (.int (nI m)), some (.int (nI w)), some (.int (nI 0)), none]) d_Model_make_51 (by decide) rfl rfl ?_
      refine j_heap (h' := jM (jL h ls lg) (jset P 35 (m, fun i => if i < 0 then mkr m w i else 0))) (jM_cg rfl (fun j hj => by simp)) ?_
      exact key
    · exact absurd ⟨g4, g5⟩ h41
def jok2 (P : jP) (a b t : Int32) : Bool := jho P a && jho P b && jsl t
def jb2 (P : jP) (a b t : Int32) : Int32 := if jok2 P a b t then -3 else -1
theorem c_times_bad {n : jN} {h : jH} {P : jP} {a b t : Int32} (hw : ∀ q, tw (P q)) (hb : ∀ a0 b0, a = nI a0 → b = nI b0 → ¬ (P a0).1 = (P b0).1) : jC n 3 jy_Model_times jc_Model_times 4 (some .int) [.ref 135, .int a, .int b, .int t] (jM h P) (some (.int (jb2 P a b t))) (jM h P) := by
  refine jC_of jm_Model_times (L := [some (.ref 135), some (.int a), some (.int b), some (.int t)]) (Nat.le_of_ble_eq_true rfl) rfl trivial ?_
  generalize hres : (((some (.int (jb2 P a b t))), jM h P) : Option Value × jH) = res
  refine j_aload_n d_Model_times_0 rfl ?_
  refine j_iload_n d_Model_times_1 rfl ?_
  refine j_callVs (As := [.int a]) (st := []) (c_holds hw) d_Model_times_2 (by decide) jm_Model_holds jk_Model_117 ji_Model_holds js_Model_holds rfl (by decide) rfl rfl (Nat.le_of_ble_eq_true rfl) rfl ?_
  refine j_if_eqB (tgt := 23) d_Model_times_5 (by decide) (fun c1 => ?_) (fun c1 => ?_)
  · refine j_iconst (v := -1) d_Model_times_23 rfl ?_
    subst hres
    exact j_reti d_Model_times_24 (by simp [jb2, jok2, c1]) rfl
  · obtain ⟨a0, ha0, ha00, rfl⟩ := jho_t c1
    have hna0 := (hw a0).1
    refine j_aload_n d_Model_times_8 rfl ?_
    refine j_iload_n d_Model_times_9 rfl ?_
    refine j_callVs (As := [.int b]) (st := []) (c_holds hw) d_Model_times_10 (by decide) jm_Model_holds jk_Model_117 ji_Model_holds js_Model_holds rfl (by decide) rfl rfl (Nat.le_of_ble_eq_true rfl) rfl ?_
    refine j_if_eqB (tgt := 23) d_Model_times_13 (by decide) (fun c2 => ?_) (fun c2 => ?_)
    · refine j_iconst (v := -1) d_Model_times_23 rfl ?_
      subst hres
      exact j_reti d_Model_times_24 (by simp [jb2, jok2, c1, c2]) rfl
    · obtain ⟨b0, hb0, hb00, rfl⟩ := jho_t c2
      have hnb0 := (hw b0).1
      refine j_iload_n d_Model_times_16 rfl ?_
      refine j_callSs (As := [.int t]) (st := []) c_isSlot d_Model_times_17 (by decide) jm_Model_isSlot jk_Model_63 js_Model_isSlot rfl (Nat.le_of_ble_eq_true rfl) rfl ?_
      refine j_if_neB (tgt := 25) d_Model_times_20 (by decide) (fun c3 => ?_) (fun c3 => ?_)
      · obtain ⟨t0, ht0, rfl⟩ := jsl_t c3
        refine j_aload_n d_Model_times_25 rfl ?_
        refine j_getr (b := 137) d_Model_times_26 jf_Model_13 rfl rfl rfl (by decide) ?_
        refine j_iload_n d_Model_times_29 rfl ?_
        refine j_ialdN (v := nI ((P a0).1)) d_Model_times_30 rfl (by omega) (by decide) rfl ?_
        refine j_aload_n d_Model_times_31 rfl ?_
        refine j_getr (b := 137) d_Model_times_32 jf_Model_13 rfl rfl rfl (by decide) ?_
        refine j_iload_n d_Model_times_35 rfl ?_
        refine j_ialdN (v := nI ((P b0).1)) d_Model_times_36 rfl (by omega) (by decide) rfl ?_
        refine j_icmp_eqN (tgt := 43) d_Model_times_37 (by decide) (by omega) (by omega) (fun c4 => ?_) (fun c4 => ?_)
        · exact absurd c4 (hb a0 b0 rfl rfl)
        · refine j_bipush (v := -3) d_Model_times_40 (by decide) ?_
          subst hres
          exact j_reti d_Model_times_42 (by simp [jb2, jok2, c1, c2, c3]) rfl
      · refine j_iconst (v := -1) d_Model_times_23 rfl ?_
        subst hres
        exact j_reti d_Model_times_24 (by simp [jb2, jok2, c1, c2, c3]) rfl
theorem c_times_bad1 {n : jN} {h : jH} {P : jP} {a b t : Int32} (hw : ∀ q, tw (P q)) (hb : jok2 P a b t = false) : jC n 3 jy_Model_times jc_Model_times 4 (some .int) [.ref 135, .int a, .int b, .int t] (jM h P) (some (.int (jb2 P a b t))) (jM h P) := by
  refine jC_of jm_Model_times (L := [some (.ref 135), some (.int a), some (.int b), some (.int t)]) (Nat.le_of_ble_eq_true rfl) rfl trivial ?_
  generalize hres : (((some (.int (jb2 P a b t))), jM h P) : Option Value × jH) = res
  refine j_aload_n d_Model_times_0 rfl ?_
  refine j_iload_n d_Model_times_1 rfl ?_
  refine j_callVs (As := [.int a]) (st := []) (c_holds hw) d_Model_times_2 (by decide) jm_Model_holds jk_Model_117 ji_Model_holds js_Model_holds rfl (by decide) rfl rfl (Nat.le_of_ble_eq_true rfl) rfl ?_
  refine j_if_eqB (tgt := 23) d_Model_times_5 (by decide) (fun c1 => ?_) (fun c1 => ?_)
  · refine j_iconst (v := -1) d_Model_times_23 rfl ?_
    subst hres
    exact j_reti d_Model_times_24 (by simp [jb2, jok2, c1]) rfl
  · refine j_aload_n d_Model_times_8 rfl ?_
    refine j_iload_n d_Model_times_9 rfl ?_
    refine j_callVs (As := [.int b]) (st := []) (c_holds hw) d_Model_times_10 (by decide) jm_Model_holds jk_Model_117 ji_Model_holds js_Model_holds rfl (by decide) rfl rfl (Nat.le_of_ble_eq_true rfl) rfl ?_
    refine j_if_eqB (tgt := 23) d_Model_times_13 (by decide) (fun c2 => ?_) (fun c2 => ?_)
    · refine j_iconst (v := -1) d_Model_times_23 rfl ?_
      subst hres
      exact j_reti d_Model_times_24 (by simp [jb2, jok2, c1, c2]) rfl
    · refine j_iload_n d_Model_times_16 rfl ?_
      refine j_callSs (As := [.int t]) (st := []) c_isSlot d_Model_times_17 (by decide) jm_Model_isSlot jk_Model_63 js_Model_isSlot rfl (Nat.le_of_ble_eq_true rfl) rfl ?_
      refine j_if_neB (tgt := 25) d_Model_times_20 (by decide) (fun c3 => ?_) (fun c3 => ?_)
      · exact absurd hb (by simp [jok2, c1, c2, c3])
      · refine j_iconst (v := -1) d_Model_times_23 rfl ?_
        subst hres
        exact j_reti d_Model_times_24 (by simp [jb2, jok2, c1, c2, c3]) rfl
theorem c_times {n : jN} {h : jH} {ls : Nat → Nat} {lg : Nat} {P : jP} {a b t : Nat} (hl : lg ≤ 20) (hw : ∀ q, tw (P q)) (ha : a < 6) (h0a : 0 < (P a).1) (hb : b < 6) (h0b : 0 < (P b).1) (ht : t < 6) (he : (P a).1 = (P b).1) : jC n 3 jy_Model_times jc_Model_times 4 (some .int) [.ref 135, .int (nI a), .int (nI b), .int (nI t)] (jM (jL h ls lg) P) (some (.int (nI ((P a).1)))) (jM (jL h (lgS ls lg t) (lgN lg)) (jcome (jset P 35 (tmul (P a) (P b))) lg t)) := by
  have hna := (hw a).1
  have hnb := (hw b).1
  refine jC_of jm_Model_times (L := [some (.ref 135), some (.int (nI a)), some (.int (nI b)), some (.int (nI t))]) (Nat.le_of_ble_eq_true rfl) rfl trivial ?_
  generalize hres : (((some (.int (nI ((P a).1)))), jM (jL h (lgS ls lg t) (lgN lg)) (jcome (jset P 35 (tmul (P a) (P b))) lg t)) : Option Value × jH) = res
  refine j_aload_n d_Model_times_0 rfl ?_
  refine j_iload_n d_Model_times_1 rfl ?_
  refine j_callVs (As := [.int (nI a)]) (st := []) (c_holds hw) d_Model_times_2 (by decide) jm_Model_holds jk_Model_117 ji_Model_holds js_Model_holds rfl (by decide) rfl rfl (Nat.le_of_ble_eq_true rfl) rfl ?_
  refine j_if_eqB_f (tgt := 23) d_Model_times_5 (by decide) (jho_y ha h0a) ?_
  refine j_aload_n d_Model_times_8 rfl ?_
  refine j_iload_n d_Model_times_9 rfl ?_
  refine j_callVs (As := [.int (nI b)]) (st := []) (c_holds hw) d_Model_times_10 (by decide) jm_Model_holds jk_Model_117 ji_Model_holds js_Model_holds rfl (by decide) rfl rfl (Nat.le_of_ble_eq_true rfl) rfl ?_
  refine j_if_eqB_f (tgt := 23) d_Model_times_13 (by decide) (jho_y hb h0b) ?_
  refine j_iload_n d_Model_times_16 rfl ?_
  refine j_callSs (As := [.int (nI t)]) (st := []) c_isSlot d_Model_times_17 (by decide) jm_Model_isSlot jk_Model_63 js_Model_isSlot rfl (Nat.le_of_ble_eq_true rfl) rfl ?_
  refine j_if_neB_t (tgt := 25) d_Model_times_20 (by decide) (jsl_N ht) ?_
  refine j_aload_n d_Model_times_25 rfl ?_
  refine j_getr (b := 137) d_Model_times_26 jf_Model_13 rfl rfl rfl (by decide) ?_
  refine j_iload_n d_Model_times_29 rfl ?_
  refine j_ialdN (v := nI ((P a).1)) d_Model_times_30 rfl (by omega) (by decide) rfl ?_
  refine j_aload_n d_Model_times_31 rfl ?_
  refine j_getr (b := 137) d_Model_times_32 jf_Model_13 rfl rfl rfl (by decide) ?_
  refine j_iload_n d_Model_times_35 rfl ?_
  refine j_ialdN (v := nI ((P b).1)) d_Model_times_36 rfl (by omega) (by decide) rfl ?_
  refine j_icmp_eqN_t (tgt := 43) d_Model_times_37 (by decide) (by omega) (by omega) he ?_
  refine j_aload_n d_Model_times_43 rfl ?_
  refine j_iload_n d_Model_times_44 rfl ?_
  refine j_iload_n d_Model_times_45 rfl ?_
  refine j_bipush (v := nI 35) d_Model_times_46 (by decide) ?_
  refine j_callVn (As := [.int (nI a), .int (nI b), .int (nI 35)]) (st := []) (c_multiply (by omega) (by omega) (by omega) (by omega) (by omega) hw) d_Model_times_48 (by decide) jm_Model_multiply jk_Model_88 ji_Model_multiply js_Model_multiply rfl (by decide) rfl rfl (Nat.le_of_ble_eq_true rfl) rfl ?_
  refine j_aload_n d_Model_times_51 rfl ?_
  refine j_iload_n d_Model_times_52 rfl ?_
  refine j_callVs (As := [.int (nI t)]) (st := []) (c_comes hl (by omega) (tws hw (tw_mul (hw a) (hw b)))) d_Model_times_53 (by decide) jm_Model_comes jk_Model_113 ji_Model_comes js_Model_comes rfl (by decide) rfl rfl (Nat.le_of_ble_eq_true rfl) rfl ?_
  subst hres
  exact j_reti d_Model_times_56 (by rw [jset_eq]; rfl) rfl
theorem c_plus_bad {n : jN} {h : jH} {P : jP} {a b t : Int32} (hw : ∀ q, tw (P q)) (hb : ∀ a0 b0, a = nI a0 → b = nI b0 → ¬ (P a0).1 = (P b0).1) : jC n 3 jy_Model_plus jc_Model_plus 4 (some .int) [.ref 135, .int a, .int b, .int t] (jM h P) (some (.int (jb2 P a b t))) (jM h P) := by
  refine jC_of jm_Model_plus (L := [some (.ref 135), some (.int a), some (.int b), some (.int t)]) (Nat.le_of_ble_eq_true rfl) rfl trivial ?_
  generalize hres : (((some (.int (jb2 P a b t))), jM h P) : Option Value × jH) = res
  refine j_aload_n d_Model_plus_0 rfl ?_
  refine j_iload_n d_Model_plus_1 rfl ?_
  refine j_callVs (As := [.int a]) (st := []) (c_holds hw) d_Model_plus_2 (by decide) jm_Model_holds jk_Model_117 ji_Model_holds js_Model_holds rfl (by decide) rfl rfl (Nat.le_of_ble_eq_true rfl) rfl ?_
  refine j_if_eqB (tgt := 23) d_Model_plus_5 (by decide) (fun c1 => ?_) (fun c1 => ?_)
  · refine j_iconst (v := -1) d_Model_plus_23 rfl ?_
    subst hres
    exact j_reti d_Model_plus_24 (by simp [jb2, jok2, c1]) rfl
  · obtain ⟨a0, ha0, ha00, rfl⟩ := jho_t c1
    have hna0 := (hw a0).1
    refine j_aload_n d_Model_plus_8 rfl ?_
    refine j_iload_n d_Model_plus_9 rfl ?_
    refine j_callVs (As := [.int b]) (st := []) (c_holds hw) d_Model_plus_10 (by decide) jm_Model_holds jk_Model_117 ji_Model_holds js_Model_holds rfl (by decide) rfl rfl (Nat.le_of_ble_eq_true rfl) rfl ?_
    refine j_if_eqB (tgt := 23) d_Model_plus_13 (by decide) (fun c2 => ?_) (fun c2 => ?_)
    · refine j_iconst (v := -1) d_Model_plus_23 rfl ?_
      subst hres
      exact j_reti d_Model_plus_24 (by simp [jb2, jok2, c1, c2]) rfl
    · obtain ⟨b0, hb0, hb00, rfl⟩ := jho_t c2
      have hnb0 := (hw b0).1
      refine j_iload_n d_Model_plus_16 rfl ?_
      refine j_callSs (As := [.int t]) (st := []) c_isSlot d_Model_plus_17 (by decide) jm_Model_isSlot jk_Model_63 js_Model_isSlot rfl (Nat.le_of_ble_eq_true rfl) rfl ?_
      refine j_if_neB (tgt := 25) d_Model_plus_20 (by decide) (fun c3 => ?_) (fun c3 => ?_)
      · obtain ⟨t0, ht0, rfl⟩ := jsl_t c3
        refine j_aload_n d_Model_plus_25 rfl ?_
        refine j_getr (b := 137) d_Model_plus_26 jf_Model_13 rfl rfl rfl (by decide) ?_
        refine j_iload_n d_Model_plus_29 rfl ?_
        refine j_ialdN (v := nI ((P a0).1)) d_Model_plus_30 rfl (by omega) (by decide) rfl ?_
        refine j_aload_n d_Model_plus_31 rfl ?_
        refine j_getr (b := 137) d_Model_plus_32 jf_Model_13 rfl rfl rfl (by decide) ?_
        refine j_iload_n d_Model_plus_35 rfl ?_
        refine j_ialdN (v := nI ((P b0).1)) d_Model_plus_36 rfl (by omega) (by decide) rfl ?_
        refine j_icmp_eqN (tgt := 43) d_Model_plus_37 (by decide) (by omega) (by omega) (fun c4 => ?_) (fun c4 => ?_)
        · exact absurd c4 (hb a0 b0 rfl rfl)
        · refine j_bipush (v := -3) d_Model_plus_40 (by decide) ?_
          subst hres
          exact j_reti d_Model_plus_42 (by simp [jb2, jok2, c1, c2, c3]) rfl
      · refine j_iconst (v := -1) d_Model_plus_23 rfl ?_
        subst hres
        exact j_reti d_Model_plus_24 (by simp [jb2, jok2, c1, c2, c3]) rfl
theorem c_plus_bad1 {n : jN} {h : jH} {P : jP} {a b t : Int32} (hw : ∀ q, tw (P q)) (hb : jok2 P a b t = false) : jC n 3 jy_Model_plus jc_Model_plus 4 (some .int) [.ref 135, .int a, .int b, .int t] (jM h P) (some (.int (jb2 P a b t))) (jM h P) := by
  refine jC_of jm_Model_plus (L := [some (.ref 135), some (.int a), some (.int b), some (.int t)]) (Nat.le_of_ble_eq_true rfl) rfl trivial ?_
  generalize hres : (((some (.int (jb2 P a b t))), jM h P) : Option Value × jH) = res
  refine j_aload_n d_Model_plus_0 rfl ?_
  refine j_iload_n d_Model_plus_1 rfl ?_
  refine j_callVs (As := [.int a]) (st := []) (c_holds hw) d_Model_plus_2 (by decide) jm_Model_holds jk_Model_117 ji_Model_holds js_Model_holds rfl (by decide) rfl rfl (Nat.le_of_ble_eq_true rfl) rfl ?_
  refine j_if_eqB (tgt := 23) d_Model_plus_5 (by decide) (fun c1 => ?_) (fun c1 => ?_)
  · refine j_iconst (v := -1) d_Model_plus_23 rfl ?_
    subst hres
    exact j_reti d_Model_plus_24 (by simp [jb2, jok2, c1]) rfl
  · refine j_aload_n d_Model_plus_8 rfl ?_
    refine j_iload_n d_Model_plus_9 rfl ?_
    refine j_callVs (As := [.int b]) (st := []) (c_holds hw) d_Model_plus_10 (by decide) jm_Model_holds jk_Model_117 ji_Model_holds js_Model_holds rfl (by decide) rfl rfl (Nat.le_of_ble_eq_true rfl) rfl ?_
    refine j_if_eqB (tgt := 23) d_Model_plus_13 (by decide) (fun c2 => ?_) (fun c2 => ?_)
    · refine j_iconst (v := -1) d_Model_plus_23 rfl ?_
      subst hres
      exact j_reti d_Model_plus_24 (by simp [jb2, jok2, c1, c2]) rfl
    · refine j_iload_n d_Model_plus_16 rfl ?_
      refine j_callSs (As := [.int t]) (st := []) c_isSlot d_Model_plus_17 (by decide) jm_Model_isSlot jk_Model_63 js_Model_isSlot rfl (Nat.le_of_ble_eq_true rfl) rfl ?_
      refine j_if_neB (tgt := 25) d_Model_plus_20 (by decide) (fun c3 => ?_) (fun c3 => ?_)
      · exact absurd hb (by simp [jok2, c1, c2, c3])
      · refine j_iconst (v := -1) d_Model_plus_23 rfl ?_
        subst hres
        exact j_reti d_Model_plus_24 (by simp [jb2, jok2, c1, c2, c3]) rfl
theorem c_plus {n : jN} {h : jH} {ls : Nat → Nat} {lg : Nat} {P : jP} {a b t : Nat} (hl : lg ≤ 20) (hw : ∀ q, tw (P q)) (ha : a < 6) (h0a : 0 < (P a).1) (hb : b < 6) (h0b : 0 < (P b).1) (ht : t < 6) (he : (P a).1 = (P b).1) : jC n 3 jy_Model_plus jc_Model_plus 4 (some .int) [.ref 135, .int (nI a), .int (nI b), .int (nI t)] (jM (jL h ls lg) P) (some (.int (nI ((P a).1)))) (jM (jL h (lgS ls lg t) (lgN lg)) (jcome (jset P 35 (tadd (P a) (P b))) lg t)) := by
  have hna := (hw a).1
  have hnb := (hw b).1
  refine jC_of jm_Model_plus (L := [some (.ref 135), some (.int (nI a)), some (.int (nI b)), some (.int (nI t))]) (Nat.le_of_ble_eq_true rfl) rfl trivial ?_
  generalize hres : (((some (.int (nI ((P a).1)))), jM (jL h (lgS ls lg t) (lgN lg)) (jcome (jset P 35 (tadd (P a) (P b))) lg t)) : Option Value × jH) = res
  refine j_aload_n d_Model_plus_0 rfl ?_
  refine j_iload_n d_Model_plus_1 rfl ?_
  refine j_callVs (As := [.int (nI a)]) (st := []) (c_holds hw) d_Model_plus_2 (by decide) jm_Model_holds jk_Model_117 ji_Model_holds js_Model_holds rfl (by decide) rfl rfl (Nat.le_of_ble_eq_true rfl) rfl ?_
  refine j_if_eqB_f (tgt := 23) d_Model_plus_5 (by decide) (jho_y ha h0a) ?_
  refine j_aload_n d_Model_plus_8 rfl ?_
  refine j_iload_n d_Model_plus_9 rfl ?_
  refine j_callVs (As := [.int (nI b)]) (st := []) (c_holds hw) d_Model_plus_10 (by decide) jm_Model_holds jk_Model_117 ji_Model_holds js_Model_holds rfl (by decide) rfl rfl (Nat.le_of_ble_eq_true rfl) rfl ?_
  refine j_if_eqB_f (tgt := 23) d_Model_plus_13 (by decide) (jho_y hb h0b) ?_
  refine j_iload_n d_Model_plus_16 rfl ?_
  refine j_callSs (As := [.int (nI t)]) (st := []) c_isSlot d_Model_plus_17 (by decide) jm_Model_isSlot jk_Model_63 js_Model_isSlot rfl (Nat.le_of_ble_eq_true rfl) rfl ?_
  refine j_if_neB_t (tgt := 25) d_Model_plus_20 (by decide) (jsl_N ht) ?_
  refine j_aload_n d_Model_plus_25 rfl ?_
  refine j_getr (b := 137) d_Model_plus_26 jf_Model_13 rfl rfl rfl (by decide) ?_
  refine j_iload_n d_Model_plus_29 rfl ?_
  refine j_ialdN (v := nI ((P a).1)) d_Model_plus_30 rfl (by omega) (by decide) rfl ?_
  refine j_aload_n d_Model_plus_31 rfl ?_
  refine j_getr (b := 137) d_Model_plus_32 jf_Model_13 rfl rfl rfl (by decide) ?_
  refine j_iload_n d_Model_plus_35 rfl ?_
  refine j_ialdN (v := nI ((P b).1)) d_Model_plus_36 rfl (by omega) (by decide) rfl ?_
  refine j_icmp_eqN_t (tgt := 43) d_Model_plus_37 (by decide) (by omega) (by omega) he ?_
  refine j_aload_n d_Model_plus_43 rfl ?_
  refine j_iload_n d_Model_plus_44 rfl ?_
  refine j_bipush (v := nI 35) d_Model_plus_45 (by decide) ?_
  refine j_callVn (As := [.int (nI a), .int (nI 35)]) (st := []) (c_copyTo (by omega) (by omega) (by omega)) d_Model_plus_47 (by decide) jm_Model_copyTo jk_Model_85 ji_Model_copyTo js_Model_copyTo rfl (by decide) rfl rfl (Nat.le_of_ble_eq_true rfl) rfl ?_
  refine j_aload_n d_Model_plus_50 rfl ?_
  refine j_bipush (v := nI 35) d_Model_plus_51 (by decide) ?_
  refine j_iload_n d_Model_plus_53 rfl ?_
  refine j_callVn (As := [.int (nI 35), .int (nI b)]) (st := []) (c_addTo (by omega) (by omega) (by omega) (tws hw (hw a))) d_Model_plus_54 (by decide) jm_Model_addTo jk_Model_92 ji_Model_addTo js_Model_addTo rfl (by decide) rfl rfl (Nat.le_of_ble_eq_true rfl) rfl ?_
  refine j_aload_n d_Model_plus_57 rfl ?_
  refine j_iload_n d_Model_plus_58 rfl ?_
  refine j_callVs (As := [.int (nI t)]) (st := []) (c_comes hl (by omega) (tws (tws hw (hw a)) (tw_add ((tws hw (hw a)) 35) ((tws hw (hw a)) b)))) d_Model_plus_59 (by decide) jm_Model_comes jk_Model_113 ji_Model_comes js_Model_comes rfl (by decide) rfl rfl (Nat.le_of_ble_eq_true rfl) rfl ?_
  subst hres
  exact j_reti d_Model_plus_62 (by rw [jset_eq, jset_eq]; rfl) (by rw [jset_jset, jset_eq, jset_ne (by omega)])
def jokPow (P : jP) (a k t : Int32) : Bool := jho P a && jin k 0 1000000 && jsl t
theorem c_power_bad {n : jN} {h : jH} {P : jP} {a k t : Int32} (hw : ∀ q, tw (P q)) (hb : jokPow P a k t = false) : jC n 3 jy_Model_power jc_Model_power 4 (some .int) [.ref 135, .int a, .int k, .int t] (jM h P) (some (.int (-1))) (jM h P) := by
  refine jC_of jm_Model_power (L := [some (.ref 135), some (.int a), some (.int k), some (.int t)]) (Nat.le_of_ble_eq_true rfl) rfl trivial ?_
  generalize hres : (((some (.int (-1))), jM h P) : Option Value × jH) = res
  refine j_aload_n d_Model_power_0 rfl ?_
  refine j_iload_n d_Model_power_1 rfl ?_
  refine j_callVs (As := [.int a]) (st := []) (c_holds hw) d_Model_power_2 (by decide) jm_Model_holds jk_Model_117 ji_Model_holds js_Model_holds rfl (by decide) rfl rfl (Nat.le_of_ble_eq_true rfl) rfl ?_
  refine j_if_eqB (tgt := 27) d_Model_power_5 (by decide) (fun c1 => ?_) (fun c1 => ?_)
  · refine j_iconst (v := -1) d_Model_power_27 rfl ?_
    subst hres
    exact j_reti d_Model_power_28 rfl rfl
  · refine j_iload_n d_Model_power_8 rfl ?_
    refine j_i2l d_Model_power_9 ?_
    refine j_lconst (v := 0) d_Model_power_10 rfl ?_
    refine j_ldc2 (v := 1000000) d_Model_power_11 jk_Model_127 ?_
    refine j_callSs (As := [.long k.toInt64, .long 0, .long 1000000]) (st := []) (c_in (x := k) (lo := 0) (hi := 1000000) rfl rfl rfl) d_Model_power_14 (by decide) jm_Model_in jk_Model_107 js_Model_in rfl (Nat.le_of_ble_eq_true rfl) rfl ?_
    refine j_if_eqB (tgt := 27) d_Model_power_17 (by decide) (fun c2 => ?_) (fun c2 => ?_)
    · refine j_iconst (v := -1) d_Model_power_27 rfl ?_
      subst hres
      exact j_reti d_Model_power_28 rfl rfl
    · refine j_iload_n d_Model_power_20 rfl ?_
      refine j_callSs (As := [.int t]) (st := []) c_isSlot d_Model_power_21 (by decide) jm_Model_isSlot jk_Model_63 js_Model_isSlot rfl (Nat.le_of_ble_eq_true rfl) rfl ?_
      refine j_if_neB (tgt := 29) d_Model_power_24 (by decide) (fun c3 => ?_) (fun c3 => ?_)
      · exact absurd hb (by simp [jokPow, c1, c2, c3])
      · refine j_iconst (v := -1) d_Model_power_27 rfl ?_
        subst hres
        exact j_reti d_Model_power_28 rfl rfl
def pwP (P : jP) (a k : Nat) : jP := pwL 20 35 k (jset (jset P 35 (tunit (P a).1)) 36 (jset P 35 (tunit (P a).1) a))
theorem pwS_w {t left : Nat} {P : jP} (hw : ∀ q, tw (P q)) : ∀ q, tw (pwS t left P q) := by
  unfold pwS
  have h1 : ∀ q, tw ((if left % 2 = 1 then jset (jset P 37 (tmul (P t) (P 36))) t (jset P 37 (tmul (P t) (P 36)) 37) else P) q) := by
    split
    · have h := tws (p := 37) hw (tw_mul (hw t) (hw 36))
      exact tws h (h 37)
    · exact hw
  have h2 := tws (p := 37) h1 (tw_mul (h1 36) (h1 36))
  exact tws h2 (h2 37)
theorem pwL_w {t : Nat} : ∀ (f left : Nat) (P : jP), (∀ q, tw (P q)) → ∀ q, tw (pwL f t left P q)
  | 0, _, P, hw => hw
  | f + 1, left, P, hw => by
    unfold pwL
    split
    · exact hw
    · exact pwL_w f _ _ (pwS_w hw)
theorem pwP_w {P : jP} {a k : Nat} (hw : ∀ q, tw (P q)) : ∀ q, tw (pwP P a k q) := by
  have h := tws (p := 35) hw (tw_unit (hw a).1)
  exact pwL_w _ _ _ (tws h (h a))
theorem c_power {n : jN} {h : jH} {ls : Nat → Nat} {lg : Nat} {P : jP} {a k t : Nat} (hl : lg ≤ 20) (hw : ∀ q, tw (P q)) (ha : a < 6) (h0a : 0 < (P a).1) (hk : k ≤ 1000000) (ht : t < 6) : jC n 3 jy_Model_power jc_Model_power 4 (some .int) [.ref 135, .int (nI a), .int (nI k), .int (nI t)] (jM (jL h ls lg) P) (some (.int (nI ((pwP P a k 35).1)))) (jM (jL h (lgS ls lg t) (lgN lg)) (jcome (pwP P a k) lg t)) := by
  have hna := (hw a).1
  refine jC_of jm_Model_power (L := [some (.ref 135), some (.int (nI a)), some (.int (nI k)), some (.int (nI t))]) (Nat.le_of_ble_eq_true rfl) rfl trivial ?_
  generalize hres : (((some (.int (nI ((pwP P a k 35).1)))), jM (jL h (lgS ls lg t) (lgN lg)) (jcome (pwP P a k) lg t)) : Option Value × jH) = res
  refine j_aload_n d_Model_power_0 rfl ?_
  refine j_iload_n d_Model_power_1 rfl ?_
  refine j_callVs (As := [.int (nI a)]) (st := []) (c_holds hw) d_Model_power_2 (by decide) jm_Model_holds jk_Model_117 ji_Model_holds js_Model_holds rfl (by decide) rfl rfl (Nat.le_of_ble_eq_true rfl) rfl ?_
  refine j_if_eqB_f (tgt := 27) d_Model_power_5 (by decide) (jho_y ha h0a) ?_
  refine j_iload_n d_Model_power_8 rfl ?_
  refine j_i2l d_Model_power_9 ?_
  refine j_lconst (v := 0) d_Model_power_10 rfl ?_
  refine j_ldc2 (v := 1000000) d_Model_power_11 jk_Model_127 ?_
  refine j_callSs (As := [.long ((nI k).toInt64), .long 0, .long 1000000]) (st := []) (c_in (x := (nI k)) (lo := 0) (hi := 1000000) rfl rfl rfl) d_Model_power_14 (by decide) jm_Model_in jk_Model_107 js_Model_in rfl (Nat.le_of_ble_eq_true rfl) rfl ?_
  refine j_if_eqB_f (tgt := 27) d_Model_power_17 (by decide) (jin_y (by omega) (by omega) (by omega)) ?_
  refine j_iload_n d_Model_power_20 rfl ?_
  refine j_callSs (As := [.int (nI t)]) (st := []) c_isSlot d_Model_power_21 (by decide) jm_Model_isSlot jk_Model_63 js_Model_isSlot rfl (Nat.le_of_ble_eq_true rfl) rfl ?_
  refine j_if_neB_t (tgt := 29) d_Model_power_24 (by decide) (jsl_N ht) ?_
  refine j_aload_n d_Model_power_29 rfl ?_
  refine j_iload_n d_Model_power_30 rfl ?_
  refine j_iload_n d_Model_power_31 rfl ?_
  refine j_bipush (v := nI 35) d_Model_power_32 (by decide) ?_
  refine j_callVn (As := [.int (nI a), .int (nI k), .int (nI 35)]) (st := []) (c_powerTo (by omega) (by omega) (by omega) (by omega) hw) d_Model_power_34 (by decide) jm_Model_powerTo jk_Model_129 ji_Model_powerTo js_Model_powerTo rfl (by decide) rfl rfl (Nat.le_of_ble_eq_true rfl) rfl ?_
  refine j_aload_n d_Model_power_37 rfl ?_
  refine j_iload_n d_Model_power_38 rfl ?_
  refine j_callVs (As := [.int (nI t)]) (st := []) (c_comes hl (by omega) (pwP_w hw)) d_Model_power_39 (by decide) jm_Model_comes jk_Model_113 ji_Model_comes js_Model_comes rfl (by decide) rfl rfl (Nat.le_of_ble_eq_true rfl) rfl ?_
  subst hres
  exact j_reti d_Model_power_42 rfl rfl
theorem gr7_w {a t : Nat} {P : jP} (hw : ∀ q, tw (P q)) : ∀ q, tw (gr7 a t P q) :=
  let h1 := tws (p := 36) hw (tw_tr (hw a)); let h2 := tws (p := 37) h1 (h1 a); let h3 := tws (p := 37) h2 (tw_co (h2 37)); let h4 := tws (p := t) h3 (tw_mul (h3 36) (h3 37))
  let h5 := tws (p := 37) h4 (h4 t); let h6 := tws (p := t) h5 (tw_mul (h5 37) (h5 36)); tws (p := t) h6 (tw_co (h6 t))
def jokDer (P : jP) (a w t : Int32) : Bool := jho P a && jin w 0 4 && jsl t
def jder (w a : Nat) (P : jP) : jP := match w with
  | 0 => jset P 35 (P a)
  | 1 => jset P 35 (ttr (P a))
  | 2 => jset (jset P 35 (P a)) 35 (tco (jset P 35 (P a) 35))
  | 3 => jit (clS 35 a) (P a).1 (clO 35 a P)
  | _ => gr7 a 35 P
theorem c_derive_bad {n : jN} {h : jH} {P : jP} {a k t : Int32} (hw : ∀ q, tw (P q)) (hb : jokDer P a k t = false) : jC n 4 jy_Model_derive jc_Model_derive 4 (some .int) [.ref 135, .int a, .int k, .int t] (jM h P) (some (.int (-1))) (jM h P) := by
  refine jC_of jm_Model_derive (L := [some (.ref 135), some (.int a), some (.int k), some (.int t)]) (Nat.le_of_ble_eq_true rfl) rfl trivial ?_
  generalize hres : (((some (.int (-1))), jM h P) : Option Value × jH) = res
  refine j_aload_n d_Model_derive_0 rfl ?_
  refine j_iload_n d_Model_derive_1 rfl ?_
  refine j_callVs (As := [.int a]) (st := []) (c_holds hw) d_Model_derive_2 (by decide) jm_Model_holds jk_Model_117 ji_Model_holds js_Model_holds rfl (by decide) rfl rfl (Nat.le_of_ble_eq_true rfl) rfl ?_
  refine j_if_eqB (tgt := 27) d_Model_derive_5 (by decide) (fun c1 => ?_) (fun c1 => ?_)
  · refine j_iconst (v := -1) d_Model_derive_27 rfl ?_
    subst hres
    exact j_reti d_Model_derive_28 rfl rfl
  · refine j_iload_n d_Model_derive_8 rfl ?_
    refine j_i2l d_Model_derive_9 ?_
    refine j_lconst (v := 0) d_Model_derive_10 rfl ?_
    refine j_ldc2 (v := 4) d_Model_derive_11 jk_Model_111 ?_
    refine j_callSs (As := [.long k.toInt64, .long 0, .long 4]) (st := []) (c_in (x := k) (lo := 0) (hi := 4) rfl rfl rfl) d_Model_derive_14 (by decide) jm_Model_in jk_Model_107 js_Model_in rfl (Nat.le_of_ble_eq_true rfl) rfl ?_
    refine j_if_eqB (tgt := 27) d_Model_derive_17 (by decide) (fun c2 => ?_) (fun c2 => ?_)
    · refine j_iconst (v := -1) d_Model_derive_27 rfl ?_
      subst hres
      exact j_reti d_Model_derive_28 rfl rfl
    · refine j_iload_n d_Model_derive_20 rfl ?_
      refine j_callSs (As := [.int t]) (st := []) c_isSlot d_Model_derive_21 (by decide) jm_Model_isSlot jk_Model_63 js_Model_isSlot rfl (Nat.le_of_ble_eq_true rfl) rfl ?_
      refine j_if_neB (tgt := 29) d_Model_derive_24 (by decide) (fun c3 => ?_) (fun c3 => ?_)
      · exact absurd hb (by simp [jokDer, c1, c2, c3])
      · refine j_iconst (v := -1) d_Model_derive_27 rfl ?_
        subst hres
        exact j_reti d_Model_derive_28 rfl rfl
theorem c_derive0 {n : jN} {h : jH} {ls : Nat → Nat} {lg : Nat} {P : jP} {a t : Nat} (hl : lg ≤ 20) (hw : ∀ q, tw (P q)) (ha : a < 6) (h0a : 0 < (P a).1) (ht : t < 6) : jC n 4 jy_Model_derive jc_Model_derive 4 (some .int) [.ref 135, .int (nI a), .int (nI 0), .int (nI t)] (jM (jL h ls lg) P) (some (.int (nI ((jder 0 a P 35).1)))) (jM (jL h (lgS ls lg t) (lgN lg)) (jcome (jder 0 a P) lg t)) := by
  have hna := (hw a).1
  refine jC_of jm_Model_derive (L := [some (.ref 135), some (.int (nI a)), some (.int (nI 0)), some (.int (nI t))]) (Nat.le_of_ble_eq_true rfl) rfl trivial ?_
  generalize hres : (((some (.int (nI ((jder 0 a P 35).1)))), jM (jL h (lgS ls lg t) (lgN lg)) (jcome (jder 0 a P) lg t)) : Option Value × jH) = res
  refine j_aload_n d_Model_derive_0 rfl ?_
  refine j_iload_n d_Model_derive_1 rfl ?_
  refine j_callVs (As := [.int (nI a)]) (st := []) (c_holds hw) d_Model_derive_2 (by decide) jm_Model_holds jk_Model_117 ji_Model_holds js_Model_holds rfl (by decide) rfl rfl (Nat.le_of_ble_eq_true rfl) rfl ?_
  refine j_if_eqB_f (tgt := 27) d_Model_derive_5 (by decide) (jho_y ha h0a) ?_
  refine j_iload_n d_Model_derive_8 rfl ?_
  refine j_i2l d_Model_derive_9 ?_
  refine j_lconst (v := 0) d_Model_derive_10 rfl ?_
  refine j_ldc2 (v := 4) d_Model_derive_11 jk_Model_111 ?_
  refine j_callSs (As := [.long ((nI 0).toInt64), .long 0, .long 4]) (st := []) (c_in (x := (nI 0)) (lo := 0) (hi := 4) rfl rfl rfl) d_Model_derive_14 (by decide) jm_Model_in jk_Model_107 js_Model_in rfl (Nat.le_of_ble_eq_true rfl) rfl ?_
  refine j_if_eqB_f (tgt := 27) d_Model_derive_17 (by decide) (jin_y (by omega) (by omega) (by omega)) ?_
  refine j_iload_n d_Model_derive_20 rfl ?_
  refine j_callSs (As := [.int (nI t)]) (st := []) c_isSlot d_Model_derive_21 (by decide) jm_Model_isSlot jk_Model_63 js_Model_isSlot rfl (Nat.le_of_ble_eq_true rfl) rfl ?_
  refine j_if_neB_t (tgt := 29) d_Model_derive_24 (by decide) (jsl_N ht) ?_
  refine j_iload_n d_Model_derive_29 rfl ?_
  refine j_if_eqN_t (tgt := 38) d_Model_derive_30 (by decide) (by omega) (by decide) ?_
  refine j_aload_n d_Model_derive_38 rfl ?_
  refine j_iload_n d_Model_derive_39 rfl ?_
  refine j_bipush (v := nI 35) d_Model_derive_40 (by decide) ?_
  refine j_callVn (As := [.int (nI a), .int (nI 35)]) (st := []) (c_copyTo (by omega) (by omega) (by omega)) d_Model_derive_42 (by decide) jm_Model_copyTo jk_Model_85 ji_Model_copyTo js_Model_copyTo rfl (by decide) rfl rfl (Nat.le_of_ble_eq_true rfl) rfl ?_
  refine j_iload_n d_Model_derive_45 rfl ?_
  refine j_iconst (v := nI 1) d_Model_derive_46 rfl ?_
  refine j_icmp_neN_t (tgt := 60) d_Model_derive_47 (by decide) (by omega) (by omega) (by decide) ?_
  refine j_iload_n d_Model_derive_60 rfl ?_
  refine j_iconst (v := nI 2) d_Model_derive_61 rfl ?_
  refine j_icmp_neN_t (tgt := 74) d_Model_derive_62 (by decide) (by omega) (by omega) (by decide) ?_
  refine j_iload_n d_Model_derive_74 rfl ?_
  refine j_iconst (v := nI 3) d_Model_derive_75 rfl ?_
  refine j_icmp_neN_t (tgt := 89) d_Model_derive_76 (by decide) (by omega) (by omega) (by decide) ?_
  refine j_iload_n d_Model_derive_89 rfl ?_
  refine j_iconst (v := nI 4) d_Model_derive_90 rfl ?_
  refine j_icmp_neN_t (tgt := 101) d_Model_derive_91 (by decide) (by omega) (by omega) (by decide) ?_
  refine j_aload_n d_Model_derive_101 rfl ?_
  refine j_iload_n d_Model_derive_102 rfl ?_
  refine j_callVs (As := [.int (nI t)]) (st := []) (c_comes hl (by omega) (tws hw (hw a))) d_Model_derive_103 (by decide) jm_Model_comes jk_Model_113 ji_Model_comes js_Model_comes rfl (by decide) rfl rfl (Nat.le_of_ble_eq_true rfl) rfl ?_
  subst hres
  exact j_reti d_Model_derive_106 rfl rfl
theorem c_derive1 {n : jN} {h : jH} {ls : Nat → Nat} {lg : Nat} {P : jP} {a t : Nat} (hl : lg ≤ 20) (hw : ∀ q, tw (P q)) (ha : a < 6) (h0a : 0 < (P a).1) (ht : t < 6) : jC n 4 jy_Model_derive jc_Model_derive 4 (some .int) [.ref 135, .int (nI a), .int (nI 1), .int (nI t)] (jM (jL h ls lg) P) (some (.int (nI ((jder 1 a P 35).1)))) (jM (jL h (lgS ls lg t) (lgN lg)) (jcome (jder 1 a P) lg t)) := by
  have hna := (hw a).1
  refine jC_of jm_Model_derive (L := [some (.ref 135), some (.int (nI a)), some (.int (nI 1)), some (.int (nI t))]) (Nat.le_of_ble_eq_true rfl) rfl trivial ?_
  generalize hres : (((some (.int (nI ((jder 1 a P 35).1)))), jM (jL h (lgS ls lg t) (lgN lg)) (jcome (jder 1 a P) lg t)) : Option Value × jH) = res
  refine j_aload_n d_Model_derive_0 rfl ?_
  refine j_iload_n d_Model_derive_1 rfl ?_
  refine j_callVs (As := [.int (nI a)]) (st := []) (c_holds hw) d_Model_derive_2 (by decide) jm_Model_holds jk_Model_117 ji_Model_holds js_Model_holds rfl (by decide) rfl rfl (Nat.le_of_ble_eq_true rfl) rfl ?_
  refine j_if_eqB_f (tgt := 27) d_Model_derive_5 (by decide) (jho_y ha h0a) ?_
  refine j_iload_n d_Model_derive_8 rfl ?_
  refine j_i2l d_Model_derive_9 ?_
  refine j_lconst (v := 0) d_Model_derive_10 rfl ?_
  refine j_ldc2 (v := 4) d_Model_derive_11 jk_Model_111 ?_
  refine j_callSs (As := [.long ((nI 1).toInt64), .long 0, .long 4]) (st := []) (c_in (x := (nI 1)) (lo := 0) (hi := 4) rfl rfl rfl) d_Model_derive_14 (by decide) jm_Model_in jk_Model_107 js_Model_in rfl (Nat.le_of_ble_eq_true rfl) rfl ?_
  refine j_if_eqB_f (tgt := 27) d_Model_derive_17 (by decide) (jin_y (by omega) (by omega) (by omega)) ?_
  refine j_iload_n d_Model_derive_20 rfl ?_
  refine j_callSs (As := [.int (nI t)]) (st := []) c_isSlot d_Model_derive_21 (by decide) jm_Model_isSlot jk_Model_63 js_Model_isSlot rfl (Nat.le_of_ble_eq_true rfl) rfl ?_
  refine j_if_neB_t (tgt := 29) d_Model_derive_24 (by decide) (jsl_N ht) ?_
  refine j_iload_n d_Model_derive_29 rfl ?_
  refine j_if_eqN_f (tgt := 38) d_Model_derive_30 (by decide) (by omega) (by decide) ?_
  refine j_iload_n d_Model_derive_33 rfl ?_
  refine j_iconst (v := nI 2) d_Model_derive_34 rfl ?_
  refine j_icmp_neN_t (tgt := 45) d_Model_derive_35 (by decide) (by omega) (by omega) (by decide) ?_
  refine j_iload_n d_Model_derive_45 rfl ?_
  refine j_iconst (v := nI 1) d_Model_derive_46 rfl ?_
  refine j_icmp_neN_f (tgt := 60) d_Model_derive_47 (by decide) (by omega) (by omega) (by decide) ?_
  refine j_aload_n d_Model_derive_50 rfl ?_
  refine j_iload_n d_Model_derive_51 rfl ?_
  refine j_bipush (v := nI 35) d_Model_derive_52 (by decide) ?_
  refine j_callVn (As := [.int (nI a), .int (nI 35)]) (st := []) (c_transpose (by omega) (by omega) (by omega) hw) d_Model_derive_54 (by decide) jm_Model_transpose jk_Model_95 ji_Model_transpose js_Model_transpose rfl (by decide) rfl rfl (Nat.le_of_ble_eq_true rfl) rfl ?_
  refine j_goto (tgt := 101) d_Model_derive_57 (by decide) ?_
  refine j_aload_n d_Model_derive_101 rfl ?_
  refine j_iload_n d_Model_derive_102 rfl ?_
  refine j_callVs (As := [.int (nI t)]) (st := []) (c_comes hl (by omega) (tws hw (tw_tr (hw a)))) d_Model_derive_103 (by decide) jm_Model_comes jk_Model_113 ji_Model_comes js_Model_comes rfl (by decide) rfl rfl (Nat.le_of_ble_eq_true rfl) rfl ?_
  subst hres
  exact j_reti d_Model_derive_106 rfl rfl
theorem c_derive2 {n : jN} {h : jH} {ls : Nat → Nat} {lg : Nat} {P : jP} {a t : Nat} (hl : lg ≤ 20) (hw : ∀ q, tw (P q)) (ha : a < 6) (h0a : 0 < (P a).1) (ht : t < 6) : jC n 4 jy_Model_derive jc_Model_derive 4 (some .int) [.ref 135, .int (nI a), .int (nI 2), .int (nI t)] (jM (jL h ls lg) P) (some (.int (nI ((jder 2 a P 35).1)))) (jM (jL h (lgS ls lg t) (lgN lg)) (jcome (jder 2 a P) lg t)) := by
  have hna := (hw a).1
  refine jC_of jm_Model_derive (L := [some (.ref 135), some (.int (nI a)), some (.int (nI 2)), some (.int (nI t))]) (Nat.le_of_ble_eq_true rfl) rfl trivial ?_
  generalize hres : (((some (.int (nI ((jder 2 a P 35).1)))), jM (jL h (lgS ls lg t) (lgN lg)) (jcome (jder 2 a P) lg t)) : Option Value × jH) = res
  refine j_aload_n d_Model_derive_0 rfl ?_
  refine j_iload_n d_Model_derive_1 rfl ?_
  refine j_callVs (As := [.int (nI a)]) (st := []) (c_holds hw) d_Model_derive_2 (by decide) jm_Model_holds jk_Model_117 ji_Model_holds js_Model_holds rfl (by decide) rfl rfl (Nat.le_of_ble_eq_true rfl) rfl ?_
  refine j_if_eqB_f (tgt := 27) d_Model_derive_5 (by decide) (jho_y ha h0a) ?_
  refine j_iload_n d_Model_derive_8 rfl ?_
  refine j_i2l d_Model_derive_9 ?_
  refine j_lconst (v := 0) d_Model_derive_10 rfl ?_
  refine j_ldc2 (v := 4) d_Model_derive_11 jk_Model_111 ?_
  refine j_callSs (As := [.long ((nI 2).toInt64), .long 0, .long 4]) (st := []) (c_in (x := (nI 2)) (lo := 0) (hi := 4) rfl rfl rfl) d_Model_derive_14 (by decide) jm_Model_in jk_Model_107 js_Model_in rfl (Nat.le_of_ble_eq_true rfl) rfl ?_
  refine j_if_eqB_f (tgt := 27) d_Model_derive_17 (by decide) (jin_y (by omega) (by omega) (by omega)) ?_
  refine j_iload_n d_Model_derive_20 rfl ?_
  refine j_callSs (As := [.int (nI t)]) (st := []) c_isSlot d_Model_derive_21 (by decide) jm_Model_isSlot jk_Model_63 js_Model_isSlot rfl (Nat.le_of_ble_eq_true rfl) rfl ?_
  refine j_if_neB_t (tgt := 29) d_Model_derive_24 (by decide) (jsl_N ht) ?_
  refine j_iload_n d_Model_derive_29 rfl ?_
  refine j_if_eqN_f (tgt := 38) d_Model_derive_30 (by decide) (by omega) (by decide) ?_
  refine j_iload_n d_Model_derive_33 rfl ?_
  refine j_iconst (v := nI 2) d_Model_derive_34 rfl ?_
  refine j_icmp_neN_f (tgt := 45) d_Model_derive_35 (by decide) (by omega) (by omega) (by decide) ?_
  refine j_aload_n d_Model_derive_38 rfl ?_
  refine j_iload_n d_Model_derive_39 rfl ?_
  refine j_bipush (v := nI 35) d_Model_derive_40 (by decide) ?_
  refine j_callVn (As := [.int (nI a), .int (nI 35)]) (st := []) (c_copyTo (by omega) (by omega) (by omega)) d_Model_derive_42 (by decide) jm_Model_copyTo jk_Model_85 ji_Model_copyTo js_Model_copyTo rfl (by decide) rfl rfl (Nat.le_of_ble_eq_true rfl) rfl ?_
  refine j_iload_n d_Model_derive_45 rfl ?_
  refine j_iconst (v := nI 1) d_Model_derive_46 rfl ?_
  refine j_icmp_neN_t (tgt := 60) d_Model_derive_47 (by decide) (by omega) (by omega) (by decide) ?_
  refine j_iload_n d_Model_derive_60 rfl ?_
  refine j_iconst (v := nI 2) d_Model_derive_61 rfl ?_
  refine j_icmp_neN_f (tgt := 74) d_Model_derive_62 (by decide) (by omega) (by omega) (by decide) ?_
  refine j_aload_n d_Model_derive_65 rfl ?_
  refine j_bipush (v := nI 35) d_Model_derive_66 (by decide) ?_
  refine j_callVn (As := [.int (nI 35)]) (st := []) (c_complement (by omega) (tws hw (hw a))) d_Model_derive_68 (by decide) jm_Model_complement jk_Model_98 ji_Model_complement js_Model_complement rfl (by decide) rfl rfl (Nat.le_of_ble_eq_true rfl) rfl ?_
  refine j_goto (tgt := 101) d_Model_derive_71 (by decide) ?_
  refine j_aload_n d_Model_derive_101 rfl ?_
  refine j_iload_n d_Model_derive_102 rfl ?_
  refine j_callVs (As := [.int (nI t)]) (st := []) (c_comes hl (by omega) (tws (tws hw (hw a)) (tw_co ((tws hw (hw a)) 35)))) d_Model_derive_103 (by decide) jm_Model_comes jk_Model_113 ji_Model_comes js_Model_comes rfl (by decide) rfl rfl (Nat.le_of_ble_eq_true rfl) rfl ?_
  subst hres
  exact j_reti d_Model_derive_106 rfl rfl
theorem c_derive3 {n : jN} {h : jH} {ls : Nat → Nat} {lg : Nat} {P : jP} {a t : Nat} (hl : lg ≤ 20) (hw : ∀ q, tw (P q)) (ha : a < 6) (h0a : 0 < (P a).1) (ht : t < 6) : jC n 4 jy_Model_derive jc_Model_derive 4 (some .int) [.ref 135, .int (nI a), .int (nI 3), .int (nI t)] (jM (jL h ls lg) P) (some (.int (nI ((jder 3 a P 35).1)))) (jM (jL h (lgS ls lg t) (lgN lg)) (jcome (jder 3 a P) lg t)) := by
  have hna := (hw a).1
  refine jC_of jm_Model_derive (L := [some (.ref 135), some (.int (nI a)), some (.int (nI 3)), some (.int (nI t))]) (Nat.le_of_ble_eq_true rfl) rfl trivial ?_
  generalize hres : (((some (.int (nI ((jder 3 a P 35).1)))), jM (jL h (lgS ls lg t) (lgN lg)) (jcome (jder 3 a P) lg t)) : Option Value × jH) = res
  refine j_aload_n d_Model_derive_0 rfl ?_
  refine j_iload_n d_Model_derive_1 rfl ?_
  refine j_callVs (As := [.int (nI a)]) (st := []) (c_holds hw) d_Model_derive_2 (by decide) jm_Model_holds jk_Model_117 ji_Model_holds js_Model_holds rfl (by decide) rfl rfl (Nat.le_of_ble_eq_true rfl) rfl ?_
  refine j_if_eqB_f (tgt := 27) d_Model_derive_5 (by decide) (jho_y ha h0a) ?_
  refine j_iload_n d_Model_derive_8 rfl ?_
  refine j_i2l d_Model_derive_9 ?_
  refine j_lconst (v := 0) d_Model_derive_10 rfl ?_
  refine j_ldc2 (v := 4) d_Model_derive_11 jk_Model_111 ?_
  refine j_callSs (As := [.long ((nI 3).toInt64), .long 0, .long 4]) (st := []) (c_in (x := (nI 3)) (lo := 0) (hi := 4) rfl rfl rfl) d_Model_derive_14 (by decide) jm_Model_in jk_Model_107 js_Model_in rfl (Nat.le_of_ble_eq_true rfl) rfl ?_
  refine j_if_eqB_f (tgt := 27) d_Model_derive_17 (by decide) (jin_y (by omega) (by omega) (by omega)) ?_
  refine j_iload_n d_Model_derive_20 rfl ?_
  refine j_callSs (As := [.int (nI t)]) (st := []) c_isSlot d_Model_derive_21 (by decide) jm_Model_isSlot jk_Model_63 js_Model_isSlot rfl (Nat.le_of_ble_eq_true rfl) rfl ?_
  refine j_if_neB_t (tgt := 29) d_Model_derive_24 (by decide) (jsl_N ht) ?_
  refine j_iload_n d_Model_derive_29 rfl ?_
  refine j_if_eqN_f (tgt := 38) d_Model_derive_30 (by decide) (by omega) (by decide) ?_
  refine j_iload_n d_Model_derive_33 rfl ?_
  refine j_iconst (v := nI 2) d_Model_derive_34 rfl ?_
  refine j_icmp_neN_t (tgt := 45) d_Model_derive_35 (by decide) (by omega) (by omega) (by decide) ?_
  refine j_iload_n d_Model_derive_45 rfl ?_
  refine j_iconst (v := nI 1) d_Model_derive_46 rfl ?_
  refine j_icmp_neN_t (tgt := 60) d_Model_derive_47 (by decide) (by omega) (by omega) (by decide) ?_
  refine j_iload_n d_Model_derive_60 rfl ?_
  refine j_iconst (v := nI 2) d_Model_derive_61 rfl ?_
  refine j_icmp_neN_t (tgt := 74) d_Model_derive_62 (by decide) (by omega) (by omega) (by decide) ?_
  refine j_iload_n d_Model_derive_74 rfl ?_
  refine j_iconst (v := nI 3) d_Model_derive_75 rfl ?_
  refine j_icmp_neN_f (tgt := 89) d_Model_derive_76 (by decide) (by omega) (by omega) (by decide) ?_
  refine j_aload_n d_Model_derive_79 rfl ?_
  refine j_iload_n d_Model_derive_80 rfl ?_
  refine j_bipush (v := nI 35) d_Model_derive_81 (by decide) ?_
  refine j_callVn (As := [.int (nI a), .int (nI 35)]) (st := []) (c_closureTo (by omega) (by omega) (by omega) hw) d_Model_derive_83 (by decide) jm_Model_closureTo jk_Model_132 ji_Model_closureTo js_Model_closureTo rfl (by decide) rfl rfl (Nat.le_of_ble_eq_true rfl) rfl ?_
  refine j_goto (tgt := 101) d_Model_derive_86 (by decide) ?_
  refine j_aload_n d_Model_derive_101 rfl ?_
  refine j_iload_n d_Model_derive_102 rfl ?_
  refine j_callVs (As := [.int (nI t)]) (st := []) (c_comes hl (by omega) (jit_w (fun Q hq => clS_w hq) (clO_w hw) _)) d_Model_derive_103 (by decide) jm_Model_comes jk_Model_113 ji_Model_comes js_Model_comes rfl (by decide) rfl rfl (Nat.le_of_ble_eq_true rfl) rfl ?_
  subst hres
  exact j_reti d_Model_derive_106 rfl rfl
theorem c_derive4 {n : jN} {h : jH} {ls : Nat → Nat} {lg : Nat} {P : jP} {a t : Nat} (hl : lg ≤ 20) (hw : ∀ q, tw (P q)) (ha : a < 6) (h0a : 0 < (P a).1) (ht : t < 6) : jC n 4 jy_Model_derive jc_Model_derive 4 (some .int) [.ref 135, .int (nI a), .int (nI 4), .int (nI t)] (jM (jL h ls lg) P) (some (.int (nI ((jder 4 a P 35).1)))) (jM (jL h (lgS ls lg t) (lgN lg)) (jcome (jder 4 a P) lg t)) := by
  have hna := (hw a).1
  refine jC_of jm_Model_derive (L := [some (.ref 135), some (.int (nI a)), some (.int (nI 4)), some (.int (nI t))]) (Nat.le_of_ble_eq_true rfl) rfl trivial ?_
  generalize hres : (((some (.int (nI ((jder 4 a P 35).1)))), jM (jL h (lgS ls lg t) (lgN lg)) (jcome (jder 4 a P) lg t)) : Option Value × jH) = res
  refine j_aload_n d_Model_derive_0 rfl ?_
  refine j_iload_n d_Model_derive_1 rfl ?_
  refine j_callVs (As := [.int (nI a)]) (st := []) (c_holds hw) d_Model_derive_2 (by decide) jm_Model_holds jk_Model_117 ji_Model_holds js_Model_holds rfl (by decide) rfl rfl (Nat.le_of_ble_eq_true rfl) rfl ?_
  refine j_if_eqB_f (tgt := 27) d_Model_derive_5 (by decide) (jho_y ha h0a) ?_
  refine j_iload_n d_Model_derive_8 rfl ?_
  refine j_i2l d_Model_derive_9 ?_
  refine j_lconst (v := 0) d_Model_derive_10 rfl ?_
  refine j_ldc2 (v := 4) d_Model_derive_11 jk_Model_111 ?_
  refine j_callSs (As := [.long ((nI 4).toInt64), .long 0, .long 4]) (st := []) (c_in (x := (nI 4)) (lo := 0) (hi := 4) rfl rfl rfl) d_Model_derive_14 (by decide) jm_Model_in jk_Model_107 js_Model_in rfl (Nat.le_of_ble_eq_true rfl) rfl ?_
  refine j_if_eqB_f (tgt := 27) d_Model_derive_17 (by decide) (jin_y (by omega) (by omega) (by omega)) ?_
  refine j_iload_n d_Model_derive_20 rfl ?_
  refine j_callSs (As := [.int (nI t)]) (st := []) c_isSlot d_Model_derive_21 (by decide) jm_Model_isSlot jk_Model_63 js_Model_isSlot rfl (Nat.le_of_ble_eq_true rfl) rfl ?_
  refine j_if_neB_t (tgt := 29) d_Model_derive_24 (by decide) (jsl_N ht) ?_
  refine j_iload_n d_Model_derive_29 rfl ?_
  refine j_if_eqN_f (tgt := 38) d_Model_derive_30 (by decide) (by omega) (by decide) ?_
  refine j_iload_n d_Model_derive_33 rfl ?_
  refine j_iconst (v := nI 2) d_Model_derive_34 rfl ?_
  refine j_icmp_neN_t (tgt := 45) d_Model_derive_35 (by decide) (by omega) (by omega) (by decide) ?_
  refine j_iload_n d_Model_derive_45 rfl ?_
  refine j_iconst (v := nI 1) d_Model_derive_46 rfl ?_
  refine j_icmp_neN_t (tgt := 60) d_Model_derive_47 (by decide) (by omega) (by omega) (by decide) ?_
  refine j_iload_n d_Model_derive_60 rfl ?_
  refine j_iconst (v := nI 2) d_Model_derive_61 rfl ?_
  refine j_icmp_neN_t (tgt := 74) d_Model_derive_62 (by decide) (by omega) (by omega) (by decide) ?_
  refine j_iload_n d_Model_derive_74 rfl ?_
  refine j_iconst (v := nI 3) d_Model_derive_75 rfl ?_
  refine j_icmp_neN_t (tgt := 89) d_Model_derive_76 (by decide) (by omega) (by omega) (by decide) ?_
  refine j_iload_n d_Model_derive_89 rfl ?_
  refine j_iconst (v := nI 4) d_Model_derive_90 rfl ?_
  refine j_icmp_neN_f (tgt := 101) d_Model_derive_91 (by decide) (by omega) (by omega) (by decide) ?_
  refine j_aload_n d_Model_derive_94 rfl ?_
  refine j_iload_n d_Model_derive_95 rfl ?_
  refine j_bipush (v := nI 35) d_Model_derive_96 (by decide) ?_
  refine j_callVn (As := [.int (nI a), .int (nI 35)]) (st := []) (c_greatestTo (by omega) (by omega) (by omega) hw) d_Model_derive_98 (by decide) jm_Model_greatestTo jk_Model_135 ji_Model_greatestTo js_Model_greatestTo rfl (by decide) rfl rfl (Nat.le_of_ble_eq_true rfl) rfl ?_
  refine j_aload_n d_Model_derive_101 rfl ?_
  refine j_iload_n d_Model_derive_102 rfl ?_
  refine j_callVs (As := [.int (nI t)]) (st := []) (c_comes hl (by omega) (gr7_w hw)) d_Model_derive_103 (by decide) jm_Model_comes jk_Model_113 ji_Model_comes js_Model_comes rfl (by decide) rfl rfl (Nat.le_of_ble_eq_true rfl) rfl ?_
  subst hres
  exact j_reti d_Model_derive_106 rfl rfl
theorem c_clear_bad {n : jN} {h : jH} {P : jP} {a : Int32} (hb : jsl a = false) : jC n 2 jy_Model_clear jc_Model_clear 3 (some .int) [.ref 135, .int a] (jM h P) (some (.int (-1))) (jM h P) := by
  refine jC_of jm_Model_clear (L := [some (.ref 135), some (.int a), none]) (Nat.le_of_ble_eq_true rfl) rfl trivial ?_
  generalize hres : (((some (.int (-1))), jM h P) : Option Value × jH) = res
  refine j_iload_n d_Model_clear_0 rfl ?_
  refine j_callSs (As := [.int a]) (st := []) c_isSlot d_Model_clear_1 (by decide) jm_Model_isSlot jk_Model_63 js_Model_isSlot rfl (Nat.le_of_ble_eq_true rfl) rfl ?_
  refine j_if_neB (tgt := 9) d_Model_clear_4 (by decide) (fun c1 => ?_) (fun c1 => ?_)
  · exact absurd hb (by simp [c1])
  · refine j_iconst (v := -1) d_Model_clear_7 rfl ?_
    subst hres
    exact j_reti d_Model_clear_8 rfl rfl
theorem c_clear {n : jN} {h : jH} {ls : Nat → Nat} {lg : Nat} {P : jP} {a : Nat} (hl : lg ≤ 20) (hw : ∀ q, tw (P q)) (ha : a < 6) (h0a : 0 < (P a).1) : jC n 2 jy_Model_clear jc_Model_clear 3 (some .int) [.ref 135, .int (nI a)] (jM (jL h ls lg) P) (some (.int (nI ((P a).1)))) (jM (jL h (lgS ls lg a) (lgN lg)) (jset (lgP P lg a) a (tzero 0))) := by
  have hna := (hw a).1
  refine jC_of jm_Model_clear (L := [some (.ref 135), some (.int (nI a)), none]) (Nat.le_of_ble_eq_true rfl) rfl trivial ?_
  generalize hres : (((some (.int (nI ((P a).1)))), jM (jL h (lgS ls lg a) (lgN lg)) (jset (lgP P lg a) a (tzero 0))) : Option Value × jH) = res
  refine j_iload_n d_Model_clear_0 rfl ?_
  refine j_callSs (As := [.int (nI a)]) (st := []) c_isSlot d_Model_clear_1 (by decide) jm_Model_isSlot jk_Model_63 js_Model_isSlot rfl (Nat.le_of_ble_eq_true rfl) rfl ?_
  refine j_if_neB_t (tgt := 9) d_Model_clear_4 (by decide) (jsl_N ha) ?_
  refine j_aload_n d_Model_clear_9 rfl ?_
  refine j_getr (b := 137) d_Model_clear_10 jf_Model_13 rfl rfl rfl (by decide) ?_
  refine j_iload_n d_Model_clear_13 rfl ?_
  refine j_ialdN (v := nI ((P a).1)) d_Model_clear_14 rfl (by omega) (by decide) rfl ?_
  refine j_istore_n (L' := [some (.ref 135), some (.int (nI a)), some (.int (nI ((P a).1)))]) d_Model_clear_15 (by decide) rfl rfl ?_
  refine j_iload_n d_Model_clear_16 rfl ?_
  refine j_if_leN_f (tgt := 31) d_Model_clear_17 (by decide) (by omega) (by omega) ?_
  refine j_aload_n d_Model_clear_20 rfl ?_
  refine j_iload_n d_Model_clear_21 rfl ?_
  refine j_callVn (As := [.int (nI a)]) (st := []) (c_logs hl (by omega) hw) d_Model_clear_22 (by decide) jm_Model_logs jk_Model_102 ji_Model_logs js_Model_logs rfl (by decide) rfl rfl (Nat.le_of_ble_eq_true rfl) rfl ?_
  refine j_aload_n d_Model_clear_25 rfl ?_
  refine j_iload_n d_Model_clear_26 rfl ?_
  refine j_iconst (v := nI 0) d_Model_clear_27 rfl ?_
  refine j_callVn (As := [.int (nI a), .int (nI 0)]) (st := []) (c_empty (by omega)) d_Model_clear_28 (by decide) jm_Model_empty jk_Model_75 ji_Model_empty js_Model_empty rfl (by decide) rfl rfl (Nat.le_of_ble_eq_true rfl) rfl ?_
  refine j_iload_n d_Model_clear_31 rfl ?_
  subst hres
  exact j_reti d_Model_clear_32 rfl rfl
theorem c_clear0 {n : jN} {h : jH} {P : jP} {a : Nat} (ha : a < 6) (h0a : (P a).1 = 0) : jC n 2 jy_Model_clear jc_Model_clear 3 (some .int) [.ref 135, .int (nI a)] (jM h P) (some (.int (nI 0))) (jM h P) := by
  refine jC_of jm_Model_clear (L := [some (.ref 135), some (.int (nI a)), none]) (Nat.le_of_ble_eq_true rfl) rfl trivial ?_
  generalize hres : (((some (.int (nI 0))), jM h P) : Option Value × jH) = res
  refine j_iload_n d_Model_clear_0 rfl ?_
  refine j_callSs (As := [.int (nI a)]) (st := []) c_isSlot d_Model_clear_1 (by decide) jm_Model_isSlot jk_Model_63 js_Model_isSlot rfl (Nat.le_of_ble_eq_true rfl) rfl ?_
  refine j_if_neB_t (tgt := 9) d_Model_clear_4 (by decide) (jsl_N ha) ?_
  refine j_aload_n d_Model_clear_9 rfl ?_
  refine j_getr (b := 137) d_Model_clear_10 jf_Model_13 rfl rfl rfl (by decide) ?_
  refine j_iload_n d_Model_clear_13 rfl ?_
  refine j_ialdN (v := nI ((P a).1)) d_Model_clear_14 rfl (by omega) (by decide) rfl ?_
  refine j_istore_n (L' := [some (.ref 135), some (.int (nI a)), some (.int (nI ((P a).1)))]) d_Model_clear_15 (by decide) rfl rfl ?_
  refine j_iload_n d_Model_clear_16 rfl ?_
  refine j_if_leN_t (tgt := 31) d_Model_clear_17 (by decide) (by omega) h0a ?_
  refine j_iload_n d_Model_clear_31 rfl ?_
  subst hres
  exact j_reti d_Model_clear_32 (by rw [h0a]) rfl
theorem c_same_bad {n : jN} {h : jH} {P : jP} {a b : Int32} (hw : ∀ q, tw (P q)) (hb : (jho P a && jho P b) = false) : jC n 2 jy_Model_same jc_Model_same 3 (some .int) [.ref 135, .int a, .int b] (jM h P) (some (.int (-1))) (jM h P) := by
  refine jC_of jm_Model_same (L := [some (.ref 135), some (.int a), some (.int b)]) (Nat.le_of_ble_eq_true rfl) rfl trivial ?_
  generalize hres : (((some (.int (-1))), jM h P) : Option Value × jH) = res
  refine j_aload_n d_Model_same_0 rfl ?_
  refine j_iload_n d_Model_same_1 rfl ?_
  refine j_callVs (As := [.int a]) (st := []) (c_holds hw) d_Model_same_2 (by decide) jm_Model_holds jk_Model_117 ji_Model_holds js_Model_holds rfl (by decide) rfl rfl (Nat.le_of_ble_eq_true rfl) rfl ?_
  refine j_if_eqB (tgt := 16) d_Model_same_5 (by decide) (fun c1 => ?_) (fun c1 => ?_)
  · refine j_iconst (v := -1) d_Model_same_16 rfl ?_
    subst hres
    exact j_reti d_Model_same_17 rfl rfl
  · refine j_aload_n d_Model_same_8 rfl ?_
    refine j_iload_n d_Model_same_9 rfl ?_
    refine j_callVs (As := [.int b]) (st := []) (c_holds hw) d_Model_same_10 (by decide) jm_Model_holds jk_Model_117 ji_Model_holds js_Model_holds rfl (by decide) rfl rfl (Nat.le_of_ble_eq_true rfl) rfl ?_
    refine j_if_neB (tgt := 18) d_Model_same_13 (by decide) (fun c2 => ?_) (fun c2 => ?_)
    · exact absurd hb (by simp [c1, c2])
    · refine j_iconst (v := -1) d_Model_same_16 rfl ?_
      subst hres
      exact j_reti d_Model_same_17 rfl rfl
theorem c_same {n : jN} {h : jH} {P : jP} {a b : Nat} (hw : ∀ q, tw (P q)) (ha : a < 6) (h0a : 0 < (P a).1) (hb : b < 6) (h0b : 0 < (P b).1) : jC n 2 jy_Model_same jc_Model_same 3 (some .int) [.ref 135, .int (nI a), .int (nI b)] (jM h P) (some (.int (jbo (tsam (P a) (P b) 12)))) (jM h P) := by
  refine jC_of jm_Model_same (L := [some (.ref 135), some (.int (nI a)), some (.int (nI b))]) (Nat.le_of_ble_eq_true rfl) rfl trivial ?_
  generalize hres : (((some (.int (jbo (tsam (P a) (P b) 12)))), jM h P) : Option Value × jH) = res
  refine j_aload_n d_Model_same_0 rfl ?_
  refine j_iload_n d_Model_same_1 rfl ?_
  refine j_callVs (As := [.int (nI a)]) (st := []) (c_holds hw) d_Model_same_2 (by decide) jm_Model_holds jk_Model_117 ji_Model_holds js_Model_holds rfl (by decide) rfl rfl (Nat.le_of_ble_eq_true rfl) rfl ?_
  refine j_if_eqB_f (tgt := 16) d_Model_same_5 (by decide) (jho_y ha h0a) ?_
  refine j_aload_n d_Model_same_8 rfl ?_
  refine j_iload_n d_Model_same_9 rfl ?_
  refine j_callVs (As := [.int (nI b)]) (st := []) (c_holds hw) d_Model_same_10 (by decide) jm_Model_holds jk_Model_117 ji_Model_holds js_Model_holds rfl (by decide) rfl rfl (Nat.le_of_ble_eq_true rfl) rfl ?_
  refine j_if_neB_t (tgt := 18) d_Model_same_13 (by decide) (jho_y hb h0b) ?_
  refine j_aload_n d_Model_same_18 rfl ?_
  refine j_iload_n d_Model_same_19 rfl ?_
  refine j_iload_n d_Model_same_20 rfl ?_
  refine j_callVs (As := [.int (nI a), .int (nI b)]) (st := []) (c_areSame (by omega) (by omega) hw) d_Model_same_21 (by decide) jm_Model_areSame jk_Model_138 ji_Model_areSame js_Model_areSame rfl (by decide) rfl rfl (Nat.le_of_ble_eq_true rfl) rfl ?_
  refine j_if_eqB (tgt := 31) d_Model_same_24 (by decide) (fun c => ?_) (fun c => ?_)
  · refine j_iconst (v := nI 0) d_Model_same_31 rfl ?_
    subst hres
    exact j_reti d_Model_same_32 (by rw [c]; rfl) rfl
  · refine j_iconst (v := nI 1) d_Model_same_27 rfl ?_
    refine j_goto (tgt := 32) d_Model_same_28 (by decide) ?_
    subst hres
    exact j_reti d_Model_same_32 (by rw [c]; rfl) rfl
theorem c_undo0 {n : jN} {h : jH} {ls : Nat → Nat} {P : jP} : jC n 2 jy_Model_undo jc_Model_undo 1 (some .int) [.ref 135] (jM (jL h ls 0) P) (some (.int (-2))) (jM (jL h ls 0) P) := by
  refine jC_of jm_Model_undo (L := [some (.ref 135)]) (Nat.le_of_ble_eq_true rfl) rfl trivial ?_
  generalize hres : (((some (.int (-2))), jM (jL h ls 0) P) : Option Value × jH) = res
  refine j_aload_n d_Model_undo_0 rfl ?_
  refine j_getv (v := nI 0) d_Model_undo_1 jf_Model_59 rfl rfl rfl ?_
  refine j_if_neN_f (tgt := 10) d_Model_undo_4 (by decide) (by omega) (by decide) ?_
  refine j_bipush (v := -2) d_Model_undo_7 (by decide) ?_
  subst hres
  exact j_reti d_Model_undo_9 rfl rfl
theorem c_undo {n : jN} {h : jH} {ls : Nat → Nat} {lg : Nat} {P : jP} (hl : lg < 20) (hw : ∀ q, tw (P q)) (hs : ls lg < 6) : jC n 2 jy_Model_undo jc_Model_undo 1 (some .int) [.ref 135] (jM (jL h ls (lg + 1)) P) (some (.int (nI (ls lg)))) (jM (jL h ls lg) (jset P (ls lg) (P (6 + lg)))) := by
  refine jC_of jm_Model_undo (L := [some (.ref 135)]) (Nat.le_of_ble_eq_true rfl) rfl trivial ?_
  generalize hres : (((some (.int (nI (ls lg)))), jM (jL h ls lg) (jset P (ls lg) (P (6 + lg)))) : Option Value × jH) = res
  refine j_aload_n d_Model_undo_0 rfl ?_
  refine j_getv (v := nI (lg + 1)) d_Model_undo_1 jf_Model_59 rfl rfl rfl ?_
  refine j_if_neN_t (tgt := 10) d_Model_undo_4 (by decide) (by omega) (by omega) ?_
  refine j_aload_n d_Model_undo_10 rfl ?_
  refine j_dup d_Model_undo_11 rfl ?_
  refine j_getv (v := nI (lg + 1)) d_Model_undo_12 jf_Model_59 rfl rfl rfl ?_
  refine j_iconst (v := nI 1) d_Model_undo_15 rfl ?_
  refine j_isubN d_Model_undo_16 (by omega) ?_
  refine j_top (w := nI lg) rfl ?_
  refine j_putv (h' := jM (jL h ls lg) P) d_Model_undo_17 jf_Model_59 rfl rfl jML_n ?_
  refine j_aload_n d_Model_undo_20 rfl ?_
  refine j_bipush (v := nI 6) d_Model_undo_21 (by decide) ?_
  refine j_aload_n d_Model_undo_23 rfl ?_
  refine j_getv (v := nI lg) d_Model_undo_24 jf_Model_59 rfl rfl rfl ?_
  refine j_iaddN d_Model_undo_27 ?_
  refine j_aload_n d_Model_undo_28 rfl ?_
  refine j_getr (b := 138) d_Model_undo_29 jf_Model_16 rfl rfl rfl (by decide) ?_
  refine j_aload_n d_Model_undo_32 rfl ?_
  refine j_getv (v := nI lg) d_Model_undo_33 jf_Model_59 rfl rfl rfl ?_
  refine j_ialdN (v := nI (ls lg)) d_Model_undo_36 rfl (by omega) (by decide) rfl ?_
  refine j_callVn (As := [.int (nI (6 + lg)), .int (nI (ls lg))]) (st := []) (c_copyTo (by omega) (by omega) (by omega)) d_Model_undo_37 (by decide) jm_Model_copyTo jk_Model_85 ji_Model_copyTo js_Model_copyTo rfl (by decide) rfl rfl (Nat.le_of_ble_eq_true rfl) rfl ?_
  refine j_aload_n d_Model_undo_40 rfl ?_
  refine j_getr (b := 138) d_Model_undo_41 jf_Model_16 rfl rfl rfl (by decide) ?_
  refine j_aload_n d_Model_undo_44 rfl ?_
  refine j_getv (v := nI lg) d_Model_undo_45 jf_Model_59 rfl rfl rfl ?_
  refine j_ialdN (v := nI (ls lg)) d_Model_undo_48 rfl (by omega) (by decide) rfl ?_
  subst hres
  exact j_reti d_Model_undo_49 rfl rfl

def lrow (t v : Int32) : Int32 := if t = 0 then v &&& nI 255 else v
def jokLoad (s : Int32) (c : Int32) (m : Int32) : Bool := jsl s && js4 c && jin m 1 12
theorem c_load_bad {n : jN} {h : jH} {P : jP} {s c f m : Int32} (hb : jokLoad s c m = false) : jC n 3 jy_Model_load jc_Model_load 7 (some .int) [.ref 135, .int s, .int c, .int f, .int m] (jM h P) (some (.int (-1))) (jM h P) := by
  refine jC_of jm_Model_load (L := [some (.ref 135), some (.int s), some (.int c), some (.int f), some (.int m), none, none]) (Nat.le_of_ble_eq_true rfl) rfl trivial ?_
  generalize hres : (((some (.int (-1))), jM h P) : Option Value × jH) = res
  refine j_iload_n d_Model_load_0 rfl ?_
  refine j_callSs (As := [.int s]) (st := []) c_isSlot d_Model_load_1 (by decide) jm_Model_isSlot jk_Model_63 js_Model_isSlot rfl (Nat.le_of_ble_eq_true rfl) rfl ?_
  refine j_if_eqB (tgt := 27) d_Model_load_4 (by decide) (fun c1 => ?_) (fun c1 => ?_)
  · refine j_iconst (v := -1) d_Model_load_27 rfl ?_
    subst hres
    exact j_reti d_Model_load_28 rfl rfl
  · refine j_iload_n d_Model_load_7 rfl ?_
    refine j_callSs (As := [.int c]) (st := []) c_isSheet d_Model_load_8 (by decide) jm_Model_isSheet jk_Model_141 js_Model_isSheet rfl (Nat.le_of_ble_eq_true rfl) rfl ?_
    refine j_if_eqB (tgt := 27) d_Model_load_11 (by decide) (fun c2 => ?_) (fun c2 => ?_)
    · refine j_iconst (v := -1) d_Model_load_27 rfl ?_
      subst hres
      exact j_reti d_Model_load_28 rfl rfl
    · refine j_iload d_Model_load_14 rfl ?_
      refine j_i2l d_Model_load_16 ?_
      refine j_lconst (v := 1) d_Model_load_17 rfl ?_
      refine j_ldc2 (v := 12) d_Model_load_18 jk_Model_105 ?_
      refine j_callSs (As := [.long m.toInt64, .long 1, .long 12]) (st := []) (c_in (x := m) (lo := 1) (hi := 12) rfl rfl rfl) d_Model_load_21 (by decide) jm_Model_in jk_Model_107 js_Model_in rfl (Nat.le_of_ble_eq_true rfl) rfl ?_
      refine j_if_neB (tgt := 29) d_Model_load_24 (by decide) (fun c3 => ?_) (fun c3 => ?_)
      · exact absurd hb (by simp [jokLoad, c1, c2, c3])
      · refine j_iconst (v := -1) d_Model_load_27 rfl ?_
        subst hres
        exact j_reti d_Model_load_28 rfl rfl
theorem c_load_nothing {n : jN} {h : jH} {P : jP} {So : Nat → Int32} {Sz : Nat → Nat} {Nu : Nat → Nat → Int32} {s c m : Nat} {f : Int32} (hso : ∀ k, k < 4 → h 149 k = So k) (hsz : ∀ k, k < 4 → h 150 k = nI (Sz k)) (hnu : ∀ a k, a < 4 → k < 40 → h 151 (40 * a + k) = Nu a k) (hz : ∀ k, Sz k ≤ 40) (hs : s < 6) (hc : c < 4) (hm0 : 0 < m) (hm : m ≤ 12) (hlt : ¬ 0 ≤ So c) : jC n 3 jy_Model_load jc_Model_load 7 (some .int) [.ref 135, .int (nI s), .int (nI c), .int f, .int (nI m)] (jM h P) (some (.int (-11))) (jM h P) := by
  refine jC_of jm_Model_load (L := [some (.ref 135), some (.int (nI s)), some (.int (nI c)), some (.int f), some (.int (nI m)), none, none]) (Nat.le_of_ble_eq_true rfl) rfl trivial ?_
  generalize hres : (((some (.int (-11))), jM h P) : Option Value × jH) = res
  refine j_iload_n d_Model_load_0 rfl ?_
  refine j_callSs (As := [.int (nI s)]) (st := []) c_isSlot d_Model_load_1 (by decide) jm_Model_isSlot jk_Model_63 js_Model_isSlot rfl (Nat.le_of_ble_eq_true rfl) rfl ?_
  refine j_if_eqB_f (tgt := 27) d_Model_load_4 (by decide) (jsl_N hs) ?_
  refine j_iload_n d_Model_load_7 rfl ?_
  refine j_callSs (As := [.int (nI c)]) (st := []) c_isSheet d_Model_load_8 (by decide) jm_Model_isSheet jk_Model_141 js_Model_isSheet rfl (Nat.le_of_ble_eq_true rfl) rfl ?_
  refine j_if_eqB_f (tgt := 27) d_Model_load_11 (by decide) (js4_N hc) ?_
  refine j_iload d_Model_load_14 rfl ?_
  refine j_i2l d_Model_load_16 ?_
  refine j_lconst (v := 1) d_Model_load_17 rfl ?_
  refine j_ldc2 (v := 12) d_Model_load_18 jk_Model_105 ?_
  refine j_callSs (As := [.long ((nI m).toInt64), .long 1, .long 12]) (st := []) (c_in (x := (nI m)) (lo := 1) (hi := 12) rfl rfl rfl) d_Model_load_21 (by decide) jm_Model_in jk_Model_107 js_Model_in rfl (Nat.le_of_ble_eq_true rfl) rfl ?_
  refine j_if_neB_t (tgt := 29) d_Model_load_24 (by decide) (jin_y (by omega) (by omega) (by omega)) ?_
  refine j_aload_n d_Model_load_29 rfl ?_
  refine j_getr (b := 149) d_Model_load_30 jf_Model_50 rfl rfl rfl (by decide) ?_
  refine j_iload_n d_Model_load_33 rfl ?_
  refine j_ialdN (v := So c) d_Model_load_34 rfl (by omega) (by decide) (hso _ (by omega)) ?_
  refine j_if_ge_f (tgt := 41) d_Model_load_35 (by decide) hlt ?_
  refine j_bipush (v := -11) d_Model_load_38 (by decide) ?_
  subst hres
  exact j_reti d_Model_load_40 rfl rfl
theorem c_load_out {n : jN} {h : jH} {P : jP} {So : Nat → Int32} {Sz : Nat → Nat} {Nu : Nat → Nat → Int32} {s c m : Nat} {f : Int32} (hso : ∀ k, k < 4 → h 149 k = So k) (hsz : ∀ k, k < 4 → h 150 k = nI (Sz k)) (hnu : ∀ a k, a < 4 → k < 40 → h 151 (40 * a + k) = Nu a k) (hz : ∀ k, Sz k ≤ 40) (hs : s < 6) (hc : c < 4) (hm0 : 0 < m) (hm : m ≤ 12) (hlt : 0 ≤ So c) (hb : (decide (0 ≤ f) && decide (f ≤ nI (Sz c) - nI m)) = false) : jC n 3 jy_Model_load jc_Model_load 7 (some .int) [.ref 135, .int (nI s), .int (nI c), .int f, .int (nI m)] (jM h P) (some (.int (-12))) (jM h P) := by
  refine jC_of jm_Model_load (L := [some (.ref 135), some (.int (nI s)), some (.int (nI c)), some (.int f), some (.int (nI m)), none, none]) (Nat.le_of_ble_eq_true rfl) rfl trivial ?_
  generalize hres : (((some (.int (-12))), jM h P) : Option Value × jH) = res
  refine j_iload_n d_Model_load_0 rfl ?_
  refine j_callSs (As := [.int (nI s)]) (st := []) c_isSlot d_Model_load_1 (by decide) jm_Model_isSlot jk_Model_63 js_Model_isSlot rfl (Nat.le_of_ble_eq_true rfl) rfl ?_
  refine j_if_eqB_f (tgt := 27) d_Model_load_4 (by decide) (jsl_N hs) ?_
  refine j_iload_n d_Model_load_7 rfl ?_
  refine j_callSs (As := [.int (nI c)]) (st := []) c_isSheet d_Model_load_8 (by decide) jm_Model_isSheet jk_Model_141 js_Model_isSheet rfl (Nat.le_of_ble_eq_true rfl) rfl ?_
  refine j_if_eqB_f (tgt := 27) d_Model_load_11 (by decide) (js4_N hc) ?_
  refine j_iload d_Model_load_14 rfl ?_
  refine j_i2l d_Model_load_16 ?_
  refine j_lconst (v := 1) d_Model_load_17 rfl ?_
  refine j_ldc2 (v := 12) d_Model_load_18 jk_Model_105 ?_
  refine j_callSs (As := [.long ((nI m).toInt64), .long 1, .long 12]) (st := []) (c_in (x := (nI m)) (lo := 1) (hi := 12) rfl rfl rfl) d_Model_load_21 (by decide) jm_Model_in jk_Model_107 js_Model_in rfl (Nat.le_of_ble_eq_true rfl) rfl ?_
  refine j_if_neB_t (tgt := 29) d_Model_load_24 (by decide) (jin_y (by omega) (by omega) (by omega)) ?_
  refine j_aload_n d_Model_load_29 rfl ?_
  refine j_getr (b := 149) d_Model_load_30 jf_Model_50 rfl rfl rfl (by decide) ?_
  refine j_iload_n d_Model_load_33 rfl ?_
  refine j_ialdN (v := So c) d_Model_load_34 rfl (by omega) (by decide) (hso _ (by omega)) ?_
  refine j_if_ge_t (tgt := 41) d_Model_load_35 (by decide) hlt ?_
  refine j_iload_n d_Model_load_41 rfl ?_
  refine j_if_lt (tgt := 58) d_Model_load_42 (by decide) (fun c1 => ?_) (fun c1 => ?_)
  · refine j_bipush (v := -12) d_Model_load_58 (by decide) ?_
    subst hres
    exact j_reti d_Model_load_60 rfl rfl
  · refine j_iload_n d_Model_load_45 rfl ?_
    refine j_aload_n d_Model_load_46 rfl ?_
    refine j_getr (b := 150) d_Model_load_47 jf_Model_53 rfl rfl rfl (by decide) ?_
    refine j_iload_n d_Model_load_50 rfl ?_
    refine j_ialdN (v := nI (Sz c)) d_Model_load_51 rfl (by omega) (by decide) (hsz _ (by omega)) ?_
    refine j_iload d_Model_load_52 rfl ?_
    refine j_isub d_Model_load_54 ?_
    refine j_icmp_le (tgt := 61) d_Model_load_55 (by decide) (fun c2 => ?_) (fun c2 => ?_)
    · exact absurd hb (by simp [Int32.not_lt.mp c1, c2])
    · refine j_bipush (v := -12) d_Model_load_58 (by decide) ?_
      subst hres
      exact j_reti d_Model_load_60 rfl rfl
theorem c_isSet_p {n : jN} {h : jH} {P : jP} {p m : Nat} {F : Nat → Nat} {i : Int32} (hp : p < 38) (hn : m ≤ 12) : jC n 0 jy_Model_isSet jc_Model_isSet 3 (some .boolean) [.ref 135, .int (nI p), .int i] (jM h (jset P p (m, F))) (some (.int (jbo (jse m i)))) (jM h (jset P p (m, F))) := by
  have := c_isSet (n := n) (h := h) (P := jset P p (m, F)) (i := i) hp (by rw [jset_eq]; exact hn)
  rwa [jset_eq] at this
theorem c_load {n : jN} {h : jH} {ls : Nat → Nat} {lg : Nat} {P : jP} {So : Nat → Int32} {Sz : Nat → Nat} {Nu : Nat → Nat → Int32} {s c f m : Nat} {r : Nat → Nat} (hso : ∀ k, k < 4 → h 149 k = So k) (hsz : ∀ k, k < 4 → h 150 k = nI (Sz k)) (hnu : ∀ a k, a < 4 → k < 40 → h 151 (40 * a + k) = Nu a k) (hz : ∀ k, Sz k ≤ 40) (hl : lg ≤ 20) (hw : ∀ q, tw (P q)) (hs : s < 6) (hc : c < 4) (hm0 : 0 < m) (hm : m ≤ 12) (hlt : 0 ≤ So c) (hfm : f + m ≤ Sz c) (hr : ∀ i, i < m → lrow (So c) (Nu c (f + i)) = nI (r i)) (hr2 : ∀ i, i < m → r i < 2 ^ m) : jC n 3 jy_Model_load jc_Model_load 7 (some .int) [.ref 135, .int (nI s), .int (nI c), .int (nI f), .int (nI m)] (jM (jL h ls lg) P) (some (.int (nI m))) (jM (jL h (lgS ls lg s) (lgN lg)) (jcome (jset P 35 (m, fun i => if i < m then r i else 0)) lg s)) := by
  refine jC_of jm_Model_load (L := [some (.ref 135), some (.int (nI s)), some (.int (nI c)), some (.int (nI f)), some (.int (nI m)), none, none]) (Nat.le_of_ble_eq_true rfl) rfl trivial ?_
  generalize hres : (((some (.int (nI m))), jM (jL h (lgS ls lg s) (lgN lg)) (jcome (jset P 35 (m, fun i => if i < m then r i else 0)) lg s)) : Option Value × jH) = res
  have hzc := hz c
  refine j_iload_n d_Model_load_0 rfl ?_
  refine j_callSs (As := [.int (nI s)]) (st := []) c_isSlot d_Model_load_1 (by decide) jm_Model_isSlot jk_Model_63 js_Model_isSlot rfl (Nat.le_of_ble_eq_true rfl) rfl ?_
  refine j_if_eqB_f (tgt := 27) d_Model_load_4 (by decide) (jsl_N hs) ?_
  refine j_iload_n d_Model_load_7 rfl ?_
  refine j_callSs (As := [.int (nI c)]) (st := []) c_isSheet d_Model_load_8 (by decide) jm_Model_isSheet jk_Model_141 js_Model_isSheet rfl (Nat.le_of_ble_eq_true rfl) rfl ?_
  refine j_if_eqB_f (tgt := 27) d_Model_load_11 (by decide) (js4_N hc) ?_
  refine j_iload d_Model_load_14 rfl ?_
  refine j_i2l d_Model_load_16 ?_
  refine j_lconst (v := 1) d_Model_load_17 rfl ?_
  refine j_ldc2 (v := 12) d_Model_load_18 jk_Model_105 ?_
  refine j_callSs (As := [.long ((nI m).toInt64), .long 1, .long 12]) (st := []) (c_in (x := (nI m)) (lo := 1) (hi := 12) rfl rfl rfl) d_Model_load_21 (by decide) jm_Model_in jk_Model_107 js_Model_in rfl (Nat.le_of_ble_eq_true rfl) rfl ?_
  refine j_if_neB_t (tgt := 29) d_Model_load_24 (by decide) (jin_y (by omega) (by omega) (by omega)) ?_
  refine j_aload_n d_Model_load_29 rfl ?_
  refine j_getr (b := 149) d_Model_load_30 jf_Model_50 rfl rfl rfl (by decide) ?_
  refine j_iload_n d_Model_load_33 rfl ?_
  refine j_ialdN (v := So c) d_Model_load_34 rfl (by omega) (by decide) (hso _ (by omega)) ?_
  refine j_if_ge_t (tgt := 41) d_Model_load_35 (by decide) hlt ?_
  refine j_iload_n d_Model_load_41 rfl ?_
  refine j_if_ltN (tgt := 58) d_Model_load_42 (by decide) (by omega) (fun q => q.elim) (fun _ => ?_)
  refine j_iload_n d_Model_load_45 rfl ?_
  refine j_aload_n d_Model_load_46 rfl ?_
  refine j_getr (b := 150) d_Model_load_47 jf_Model_53 rfl rfl rfl (by decide) ?_
  refine j_iload_n d_Model_load_50 rfl ?_
  refine j_ialdN (v := nI (Sz c)) d_Model_load_51 rfl (by omega) (by decide) (hsz _ (by omega)) ?_
  refine j_iload d_Model_load_52 rfl ?_
  refine j_isubN d_Model_load_54 (by omega) ?_
  refine j_icmp_leN_t (tgt := 61) d_Model_load_55 (by decide) (by omega) (by omega) (by omega) ?_
  refine j_aload_n d_Model_load_61 rfl ?_
  refine j_bipush (v := nI 35) d_Model_load_62 (by decide) ?_
  refine j_iload d_Model_load_64 rfl ?_
  refine j_callVn (As := [.int (nI 35), .int (nI m)]) (st := []) (c_empty (by omega)) d_Model_load_66 (by decide) jm_Model_empty jk_Model_75 ji_Model_empty js_Model_empty rfl (by decide) rfl rfl (Nat.le_of_ble_eq_true rfl) rfl ?_
  refine j_iconst (v := nI 0) d_Model_load_69 rfl ?_
  refine j_istore (L' := [some (.ref 135), some (.int (nI s)), some (.int (nI c)), some (.int (nI f)), some (.int (nI m)), some (.int (nI 0)), none]) d_Model_load_70 (by decide) rfl rfl ?_
  refine j_heap (h' := jM (jL h ls lg) (jset P 35 (m, fun i => if i < 0 then r i else 0))) (jM_cg rfl (fun j hj => by simp)) ?_
  refine j_loop (P := fun k => jJ n 3 jc_Model_load 7 "YesNoPowersModel" 72 [some (.ref 135), some (.int (nI s)), some (.int (nI c)), some (.int (nI f)), some (.int (nI m)), some (.int (nI k)), none] [] (jM (jL h ls lg) (jset P 35 (m, fun i => if i < k then r i else 0))) res) (m := m) ?_ (fun k hk ih => ?_)
  · refine j_iload d_Model_load_72 rfl ?_
    refine j_iload d_Model_load_74 rfl ?_
    refine j_icmp_geN_t (tgt := 149) d_Model_load_76 (by decide) (by omega) (by omega) (Nat.le_refl _) ?_
    refine j_heap (h' := jM (jL h ls lg) (jset P 35 (m, fun i => if i < m then r i else 0))) rfl ?_
    refine j_aload_n d_Model_load_149 rfl ?_
    refine j_iload_n d_Model_load_150 rfl ?_
    refine j_callVs (As := [.int (nI s)]) (st := []) (c_comes hl (by omega) (tws hw ⟨hm, fun i => by dsimp only; split; exact Nat.lt_of_lt_of_le (hr2 i (by assumption)) (show 2 ^ m ≤ 2 ^ 12 from Nat.pow_le_pow_right (by omega) hm); omega, fun i hi => if_neg (Nat.not_lt.mpr hi)⟩)) d_Model_load_151 (by decide) jm_Model_comes jk_Model_113 ji_Model_comes js_Model_comes rfl (by decide) rfl rfl (Nat.le_of_ble_eq_true rfl) rfl ?_
    subst hres
    exact j_reti d_Model_load_154 (by rw [jset_eq]) rfl
  · refine j_iload d_Model_load_72 rfl ?_
    refine j_iload d_Model_load_74 rfl ?_
    refine j_icmp_geN_f (tgt := 149) d_Model_load_76 (by decide) (by omega) (by omega) (by omega) ?_
    refine j_aload_n d_Model_load_79 rfl ?_
    refine j_getr (b := 151) d_Model_load_80 jf_Model_56 rfl rfl rfl (by decide) ?_
    refine j_bipush (v := nI 40) d_Model_load_83 (by decide) ?_
    refine j_iload_n d_Model_load_85 rfl ?_
    refine j_imulN d_Model_load_86 ?_
    refine j_iload_n d_Model_load_87 rfl ?_
    refine j_iaddN d_Model_load_88 ?_
    refine j_iload d_Model_load_89 rfl ?_
    refine j_iaddN d_Model_load_91 ?_
    refine j_ialdN (v := Nu c (f + k)) d_Model_load_92 rfl (by omega) (by decide) (by rw [show ((40 * c) + f) + k = 40 * c + (f + k) by omega]; exact hnu _ _ (by omega) (by omega)) ?_
    refine j_istore (L' := [some (.ref 135), some (.int (nI s)), some (.int (nI c)), some (.int (nI f)), some (.int (nI m)), some (.int (nI k)), some (.int (Nu c (f + k)))]) d_Model_load_93 (by decide) rfl rfl ?_
    refine j_aload_n d_Model_load_95 rfl ?_
    refine j_getr (b := 149) d_Model_load_96 jf_Model_50 rfl rfl rfl (by decide) ?_
    refine j_iload_n d_Model_load_99 rfl ?_
    refine j_ialdN (v := So c) d_Model_load_100 rfl (by omega) (by decide) (hso _ (by omega)) ?_
    refine j_if_ne (tgt := 113) d_Model_load_101 (by decide) (fun c1 => ?_) (fun c1 => ?_)
    · refine j_iload d_Model_load_113 rfl ?_
      refine j_top (w := lrow (So c) (Nu c (f + k))) (by simp [lrow, c1]) ?_
      refine j_top (w := nI (r k)) (hr k (by omega)) ?_
      refine j_istore (L' := [some (.ref 135), some (.int (nI s)), some (.int (nI c)), some (.int (nI f)), some (.int (nI m)), some (.int (nI k)), some (.int (nI (r k)))]) d_Model_load_115 (by decide) rfl rfl ?_
      refine j_aload_n d_Model_load_117 rfl ?_
      refine j_bipush (v := nI 35) d_Model_load_118 (by decide) ?_
      refine j_iload d_Model_load_120 rfl ?_
      refine j_callVs (As := [.int (nI 35), .int (nI (r k))]) (st := []) (c_isSet_p (by omega) (by omega)) d_Model_load_122 (by decide) jm_Model_isSet jk_Model_124 ji_Model_isSet js_Model_isSet rfl (by decide) rfl rfl (Nat.le_of_ble_eq_true rfl) rfl ?_
      refine j_if_neB_t (tgt := 130) d_Model_load_125 (by decide) (jse_y hm (hr2 k (by omega))) ?_
      refine j_aload_n d_Model_load_130 rfl ?_
      refine j_getr (b := 136) d_Model_load_131 jf_Model_7 rfl rfl rfl (by decide) ?_
      refine j_sipush (v := nI 420) d_Model_load_134 (by decide) ?_
      refine j_iload d_Model_load_137 rfl ?_
      refine j_iaddN d_Model_load_139 ?_
      refine j_iload d_Model_load_140 rfl ?_
      refine j_iastN (h' := jM (jL h ls lg) (jset P 35 (m, fun zz => if zz = k then r k else (fun i => if i < k then r i else 0) zz))) d_Model_load_142 rfl (by omega) (by decide) (jM_set_row_p (p := 35) (by omega)) ?_
      refine j_iincN (x := k) (L' := [some (.ref 135), some (.int (nI s)), some (.int (nI c)), some (.int (nI f)), some (.int (nI m)), some (.int (nI (k + 1))), some (.int (nI (r k)))]) d_Model_load_143 rfl (by decide) rfl rfl ?_
      refine j_goto (tgt := 72) d_Model_load_146 (by decide) ?_
      refine j_heap (h' := jM (jL h ls lg) (jset P 35 (m, fun i => if i < (k + 1) then r i else 0))) (jM_cg rfl (fun j hj => by by_cases e : j = k; (simp [e]); (simp [e, jlt_s e]))) ?_
      exact j_forget (i := 6) rfl ih
    · refine j_iload d_Model_load_104 rfl ?_
      refine j_sipush (v := nI 255) d_Model_load_106 (by decide) ?_
      refine j_iand d_Model_load_109 ?_
      refine j_goto (tgt := 115) d_Model_load_110 (by decide) ?_
      refine j_top (w := lrow (So c) (Nu c (f + k))) (by simp [lrow, c1]) ?_
      refine j_top (w := nI (r k)) (hr k (by omega)) ?_
      refine j_istore (L' := [some (.ref 135), some (.int (nI s)), some (.int (nI c)), some (.int (nI f)), some (.int (nI m)), some (.int (nI k)), some (.int (nI (r k)))]) d_Model_load_115 (by decide) rfl rfl ?_
      refine j_aload_n d_Model_load_117 rfl ?_
      refine j_bipush (v := nI 35) d_Model_load_118 (by decide) ?_
      refine j_iload d_Model_load_120 rfl ?_
      refine j_callVs (As := [.int (nI 35), .int (nI (r k))]) (st := []) (c_isSet_p (by omega) (by omega)) d_Model_load_122 (by decide) jm_Model_isSet jk_Model_124 ji_Model_isSet js_Model_isSet rfl (by decide) rfl rfl (Nat.le_of_ble_eq_true rfl) rfl ?_
      refine j_if_neB_t (tgt := 130) d_Model_load_125 (by decide) (jse_y hm (hr2 k (by omega))) ?_
      refine j_aload_n d_Model_load_130 rfl ?_
      refine j_getr (b := 136) d_Model_load_131 jf_Model_7 rfl rfl rfl (by decide) ?_
      refine j_sipush (v := nI 420) d_Model_load_134 (by decide) ?_
      refine j_iload d_Model_load_137 rfl ?_
      refine j_iaddN d_Model_load_139 ?_
      refine j_iload d_Model_load_140 rfl ?_
      refine j_iastN (h' := jM (jL h ls lg) (jset P 35 (m, fun zz => if zz = k then r k else (fun i => if i < k then r i else 0) zz))) d_Model_load_142 rfl (by omega) (by decide) (jM_set_row_p (p := 35) (by omega)) ?_
      refine j_iincN (x := k) (L' := [some (.ref 135), some (.int (nI s)), some (.int (nI c)), some (.int (nI f)), some (.int (nI m)), some (.int (nI (k + 1))), some (.int (nI (r k)))]) d_Model_load_143 rfl (by decide) rfl rfl ?_
      refine j_goto (tgt := 72) d_Model_load_146 (by decide) ?_
      refine j_heap (h' := jM (jL h ls lg) (jset P 35 (m, fun i => if i < (k + 1) then r i else 0))) (jM_cg rfl (fun j hj => by by_cases e : j = k; (simp [e]); (simp [e, jlt_s e]))) ?_
      exact j_forget (i := 6) rfl ih
theorem c_load_row {n : jN} {h : jH} {ls : Nat → Nat} {lg : Nat} {P : jP} {So : Nat → Int32} {Sz : Nat → Nat} {Nu : Nat → Nat → Int32} {s c f m k0 : Nat} {r : Nat → Nat} (hso : ∀ k, k < 4 → h 149 k = So k) (hsz : ∀ k, k < 4 → h 150 k = nI (Sz k)) (hnu : ∀ a k, a < 4 → k < 40 → h 151 (40 * a + k) = Nu a k) (hz : ∀ k, Sz k ≤ 40) (hs : s < 6) (hc : c < 4) (hm0 : 0 < m) (hm : m ≤ 12) (hlt : 0 ≤ So c) (hfm : f + m ≤ Sz c) (hk0m : k0 < m) (hr : ∀ i, i < k0 → lrow (So c) (Nu c (f + i)) = nI (r i)) (hr2 : ∀ i, i < k0 → r i < 2 ^ m) (hk0 : jse m (lrow (So c) (Nu c (f + k0))) = false) : jC n 3 jy_Model_load jc_Model_load 7 (some .int) [.ref 135, .int (nI s), .int (nI c), .int (nI f), .int (nI m)] (jM (jL h ls lg) P) (some (.int (-1))) (jM (jL h ls lg) (jset P 35 (m, fun i => if i < k0 then r i else 0))) := by
  refine jC_of jm_Model_load (L := [some (.ref 135), some (.int (nI s)), some (.int (nI c)), some (.int (nI f)), some (.int (nI m)), none, none]) (Nat.le_of_ble_eq_true rfl) rfl trivial ?_
  generalize hres : (((some (.int (-1))), jM (jL h ls lg) (jset P 35 (m, fun i => if i < k0 then r i else 0))) : Option Value × jH) = res
  have hzc := hz c
  refine j_iload_n d_Model_load_0 rfl ?_
  refine j_callSs (As := [.int (nI s)]) (st := []) c_isSlot d_Model_load_1 (by decide) jm_Model_isSlot jk_Model_63 js_Model_isSlot rfl (Nat.le_of_ble_eq_true rfl) rfl ?_
  refine j_if_eqB_f (tgt := 27) d_Model_load_4 (by decide) (jsl_N hs) ?_
  refine j_iload_n d_Model_load_7 rfl ?_
  refine j_callSs (As := [.int (nI c)]) (st := []) c_isSheet d_Model_load_8 (by decide) jm_Model_isSheet jk_Model_141 js_Model_isSheet rfl (Nat.le_of_ble_eq_true rfl) rfl ?_
  refine j_if_eqB_f (tgt := 27) d_Model_load_11 (by decide) (js4_N hc) ?_
  refine j_iload d_Model_load_14 rfl ?_
  refine j_i2l d_Model_load_16 ?_
  refine j_lconst (v := 1) d_Model_load_17 rfl ?_
  refine j_ldc2 (v := 12) d_Model_load_18 jk_Model_105 ?_
  refine j_callSs (As := [.long ((nI m).toInt64), .long 1, .long 12]) (st := []) (c_in (x := (nI m)) (lo := 1) (hi := 12) rfl rfl rfl) d_Model_load_21 (by decide) jm_Model_in jk_Model_107 js_Model_in rfl (Nat.le_of_ble_eq_true rfl) rfl ?_
  refine j_if_neB_t (tgt := 29) d_Model_load_24 (by decide) (jin_y (by omega) (by omega) (by omega)) ?_
  refine j_aload_n d_Model_load_29 rfl ?_
  refine j_getr (b := 149) d_Model_load_30 jf_Model_50 rfl rfl rfl (by decide) ?_
  refine j_iload_n d_Model_load_33 rfl ?_
  refine j_ialdN (v := So c) d_Model_load_34 rfl (by omega) (by decide) (hso _ (by omega)) ?_
  refine j_if_ge_t (tgt := 41) d_Model_load_35 (by decide) hlt ?_
  refine j_iload_n d_Model_load_41 rfl ?_
  refine j_if_ltN (tgt := 58) d_Model_load_42 (by decide) (by omega) (fun q => q.elim) (fun _ => ?_)
  refine j_iload_n d_Model_load_45 rfl ?_
  refine j_aload_n d_Model_load_46 rfl ?_
  refine j_getr (b := 150) d_Model_load_47 jf_Model_53 rfl rfl rfl (by decide) ?_
  refine j_iload_n d_Model_load_50 rfl ?_
  refine j_ialdN (v := nI (Sz c)) d_Model_load_51 rfl (by omega) (by decide) (hsz _ (by omega)) ?_
  refine j_iload d_Model_load_52 rfl ?_
  refine j_isubN d_Model_load_54 (by omega) ?_
  refine j_icmp_leN_t (tgt := 61) d_Model_load_55 (by decide) (by omega) (by omega) (by omega) ?_
  refine j_aload_n d_Model_load_61 rfl ?_
  refine j_bipush (v := nI 35) d_Model_load_62 (by decide) ?_
  refine j_iload d_Model_load_64 rfl ?_
  refine j_callVn (As := [.int (nI 35), .int (nI m)]) (st := []) (c_empty (by omega)) d_Model_load_66 (by decide) jm_Model_empty jk_Model_75 ji_Model_empty js_Model_empty rfl (by decide) rfl rfl (Nat.le_of_ble_eq_true rfl) rfl ?_
  refine j_iconst (v := nI 0) d_Model_load_69 rfl ?_
  refine j_istore (L' := [some (.ref 135), some (.int (nI s)), some (.int (nI c)), some (.int (nI f)), some (.int (nI m)), some (.int (nI 0)), none]) d_Model_load_70 (by decide) rfl rfl ?_
  refine j_heap (h' := jM (jL h ls lg) (jset P 35 (m, fun i => if i < 0 then r i else 0))) (jM_cg rfl (fun j hj => by simp)) ?_
  refine j_loop (P := fun k => jJ n 3 jc_Model_load 7 "YesNoPowersModel" 72 [some (.ref 135), some (.int (nI s)), some (.int (nI c)), some (.int (nI f)), some (.int (nI m)), some (.int (nI k)), none] [] (jM (jL h ls lg) (jset P 35 (m, fun i => if i < k then r i else 0))) res) (m := k0) ?_ (fun k hk ih => ?_)
  · refine j_iload d_Model_load_72 rfl ?_
    refine j_iload d_Model_load_74 rfl ?_
    refine j_icmp_geN_f (tgt := 149) d_Model_load_76 (by decide) (by omega) (by omega) (by omega) ?_
    refine j_aload_n d_Model_load_79 rfl ?_
    refine j_getr (b := 151) d_Model_load_80 jf_Model_56 rfl rfl rfl (by decide) ?_
    refine j_bipush (v := nI 40) d_Model_load_83 (by decide) ?_
    refine j_iload_n d_Model_load_85 rfl ?_
    refine j_imulN d_Model_load_86 ?_
    refine j_iload_n d_Model_load_87 rfl ?_
    refine j_iaddN d_Model_load_88 ?_
    refine j_iload d_Model_load_89 rfl ?_
    refine j_iaddN d_Model_load_91 ?_
    refine j_ialdN (v := Nu c (f + k0)) d_Model_load_92 rfl (by omega) (by decide) (by rw [show ((40 * c) + f) + k0 = 40 * c + (f + k0) by omega]; exact hnu _ _ (by omega) (by omega)) ?_
    refine j_istore (L' := [some (.ref 135), some (.int (nI s)), some (.int (nI c)), some (.int (nI f)), some (.int (nI m)), some (.int (nI k0)), some (.int (Nu c (f + k0)))]) d_Model_load_93 (by decide) rfl rfl ?_
    refine j_aload_n d_Model_load_95 rfl ?_
    refine j_getr (b := 149) d_Model_load_96 jf_Model_50 rfl rfl rfl (by decide) ?_
    refine j_iload_n d_Model_load_99 rfl ?_
    refine j_ialdN (v := So c) d_Model_load_100 rfl (by omega) (by decide) (hso _ (by omega)) ?_
    refine j_if_ne (tgt := 113) d_Model_load_101 (by decide) (fun c1 => ?_) (fun c1 => ?_)
    · refine j_iload d_Model_load_113 rfl ?_
      refine j_top (w := lrow (So c) (Nu c (f + k0))) (by simp [lrow, c1]) ?_
      refine j_istore (L' := [some (.ref 135), some (.int (nI s)), some (.int (nI c)), some (.int (nI f)), some (.int (nI m)), some (.int (nI k0)), some (.int (lrow (So c) (Nu c (f + k0))))]) d_Model_load_115 (by decide) rfl rfl ?_
      refine j_aload_n d_Model_load_117 rfl ?_
      refine j_bipush (v := nI 35) d_Model_load_118 (by decide) ?_
      refine j_iload d_Model_load_120 rfl ?_
      refine j_callVs (As := [.int (nI 35), .int (lrow (So c) (Nu c (f + k0)))]) (st := []) (c_isSet_p (by omega) (by omega)) d_Model_load_122 (by decide) jm_Model_isSet jk_Model_124 ji_Model_isSet js_Model_isSet rfl (by decide) rfl rfl (Nat.le_of_ble_eq_true rfl) rfl ?_
      refine j_if_neB_f (tgt := 130) d_Model_load_125 (by decide) hk0 ?_
      refine j_iconst (v := -1) d_Model_load_128 rfl ?_
      subst hres
      exact j_reti d_Model_load_129 rfl (jM_cg rfl (fun j hj => by rfl))
    · refine j_iload d_Model_load_104 rfl ?_
      refine j_sipush (v := nI 255) d_Model_load_106 (by decide) ?_
      refine j_iand d_Model_load_109 ?_
      refine j_goto (tgt := 115) d_Model_load_110 (by decide) ?_
      refine j_top (w := lrow (So c) (Nu c (f + k0))) (by simp [lrow, c1]) ?_
      refine j_istore (L' := [some (.ref 135), some (.int (nI s)), some (.int (nI c)), some (.int (nI f)), some (.int (nI m)), some (.int (nI k0)), some (.int (lrow (So c) (Nu c (f + k0))))]) d_Model_load_115 (by decide) rfl rfl ?_
      refine j_aload_n d_Model_load_117 rfl ?_
      refine j_bipush (v := nI 35) d_Model_load_118 (by decide) ?_
      refine j_iload d_Model_load_120 rfl ?_
      refine j_callVs (As := [.int (nI 35), .int (lrow (So c) (Nu c (f + k0)))]) (st := []) (c_isSet_p (by omega) (by omega)) d_Model_load_122 (by decide) jm_Model_isSet jk_Model_124 ji_Model_isSet js_Model_isSet rfl (by decide) rfl rfl (Nat.le_of_ble_eq_true rfl) rfl ?_
      refine j_if_neB_f (tgt := 130) d_Model_load_125 (by decide) hk0 ?_
      refine j_iconst (v := -1) d_Model_load_128 rfl ?_
      subst hres
      exact j_reti d_Model_load_129 rfl (jM_cg rfl (fun j hj => by rfl))
  · refine j_iload d_Model_load_72 rfl ?_
    refine j_iload d_Model_load_74 rfl ?_
    refine j_icmp_geN_f (tgt := 149) d_Model_load_76 (by decide) (by omega) (by omega) (by omega) ?_
    refine j_aload_n d_Model_load_79 rfl ?_
    refine j_getr (b := 151) d_Model_load_80 jf_Model_56 rfl rfl rfl (by decide) ?_
    refine j_bipush (v := nI 40) d_Model_load_83 (by decide) ?_
    refine j_iload_n d_Model_load_85 rfl ?_
    refine j_imulN d_Model_load_86 ?_
    refine j_iload_n d_Model_load_87 rfl ?_
    refine j_iaddN d_Model_load_88 ?_
    refine j_iload d_Model_load_89 rfl ?_
    refine j_iaddN d_Model_load_91 ?_
    refine j_ialdN (v := Nu c (f + k)) d_Model_load_92 rfl (by omega) (by decide) (by rw [show ((40 * c) + f) + k = 40 * c + (f + k) by omega]; exact hnu _ _ (by omega) (by omega)) ?_
    refine j_istore (L' := [some (.ref 135), some (.int (nI s)), some (.int (nI c)), some (.int (nI f)), some (.int (nI m)), some (.int (nI k)), some (.int (Nu c (f + k)))]) d_Model_load_93 (by decide) rfl rfl ?_
    refine j_aload_n d_Model_load_95 rfl ?_
    refine j_getr (b := 149) d_Model_load_96 jf_Model_50 rfl rfl rfl (by decide) ?_
    refine j_iload_n d_Model_load_99 rfl ?_
    refine j_ialdN (v := So c) d_Model_load_100 rfl (by omega) (by decide) (hso _ (by omega)) ?_
    refine j_if_ne (tgt := 113) d_Model_load_101 (by decide) (fun c1 => ?_) (fun c1 => ?_)
    · refine j_iload d_Model_load_113 rfl ?_
      refine j_top (w := lrow (So c) (Nu c (f + k))) (by simp [lrow, c1]) ?_
      refine j_top (w := nI (r k)) (hr k (by omega)) ?_
      refine j_istore (L' := [some (.ref 135), some (.int (nI s)), some (.int (nI c)), some (.int (nI f)), some (.int (nI m)), some (.int (nI k)), some (.int (nI (r k)))]) d_Model_load_115 (by decide) rfl rfl ?_
      refine j_aload_n d_Model_load_117 rfl ?_
      refine j_bipush (v := nI 35) d_Model_load_118 (by decide) ?_
      refine j_iload d_Model_load_120 rfl ?_
      refine j_callVs (As := [.int (nI 35), .int (nI (r k))]) (st := []) (c_isSet_p (by omega) (by omega)) d_Model_load_122 (by decide) jm_Model_isSet jk_Model_124 ji_Model_isSet js_Model_isSet rfl (by decide) rfl rfl (Nat.le_of_ble_eq_true rfl) rfl ?_
      refine j_if_neB_t (tgt := 130) d_Model_load_125 (by decide) (jse_y hm (hr2 k (by omega))) ?_
      refine j_aload_n d_Model_load_130 rfl ?_
      refine j_getr (b := 136) d_Model_load_131 jf_Model_7 rfl rfl rfl (by decide) ?_
      refine j_sipush (v := nI 420) d_Model_load_134 (by decide) ?_
      refine j_iload d_Model_load_137 rfl ?_
      refine j_iaddN d_Model_load_139 ?_
      refine j_iload d_Model_load_140 rfl ?_
      refine j_iastN (h' := jM (jL h ls lg) (jset P 35 (m, fun zz => if zz = k then r k else (fun i => if i < k then r i else 0) zz))) d_Model_load_142 rfl (by omega) (by decide) (jM_set_row_p (p := 35) (by omega)) ?_
      refine j_iincN (x := k) (L' := [some (.ref 135), some (.int (nI s)), some (.int (nI c)), some (.int (nI f)), some (.int (nI m)), some (.int (nI (k + 1))), some (.int (nI (r k)))]) d_Model_load_143 rfl (by decide) rfl rfl ?_
      refine j_goto (tgt := 72) d_Model_load_146 (by decide) ?_
      refine j_heap (h' := jM (jL h ls lg) (jset P 35 (m, fun i => if i < (k + 1) then r i else 0))) (jM_cg rfl (fun j hj => by by_cases e : j = k; (simp [e]); (simp [e, jlt_s e]))) ?_
      exact j_forget (i := 6) rfl ih
    · refine j_iload d_Model_load_104 rfl ?_
      refine j_sipush (v := nI 255) d_Model_load_106 (by decide) ?_
      refine j_iand d_Model_load_109 ?_
      refine j_goto (tgt := 115) d_Model_load_110 (by decide) ?_
      refine j_top (w := lrow (So c) (Nu c (f + k))) (by simp [lrow, c1]) ?_
      refine j_top (w := nI (r k)) (hr k (by omega)) ?_
      refine j_istore (L' := [some (.ref 135), some (.int (nI s)), some (.int (nI c)), some (.int (nI f)), some (.int (nI m)), some (.int (nI k)), some (.int (nI (r k)))]) d_Model_load_115 (by decide) rfl rfl ?_
      refine j_aload_n d_Model_load_117 rfl ?_
      refine j_bipush (v := nI 35) d_Model_load_118 (by decide) ?_
      refine j_iload d_Model_load_120 rfl ?_
      refine j_callVs (As := [.int (nI 35), .int (nI (r k))]) (st := []) (c_isSet_p (by omega) (by omega)) d_Model_load_122 (by decide) jm_Model_isSet jk_Model_124 ji_Model_isSet js_Model_isSet rfl (by decide) rfl rfl (Nat.le_of_ble_eq_true rfl) rfl ?_
      refine j_if_neB_t (tgt := 130) d_Model_load_125 (by decide) (jse_y hm (hr2 k (by omega))) ?_
      refine j_aload_n d_Model_load_130 rfl ?_
      refine j_getr (b := 136) d_Model_load_131 jf_Model_7 rfl rfl rfl (by decide) ?_
      refine j_sipush (v := nI 420) d_Model_load_134 (by decide) ?_
      refine j_iload d_Model_load_137 rfl ?_
      refine j_iaddN d_Model_load_139 ?_
      refine j_iload d_Model_load_140 rfl ?_
      refine j_iastN (h' := jM (jL h ls lg) (jset P 35 (m, fun zz => if zz = k then r k else (fun i => if i < k then r i else 0) zz))) d_Model_load_142 rfl (by omega) (by decide) (jM_set_row_p (p := 35) (by omega)) ?_
      refine j_iincN (x := k) (L' := [some (.ref 135), some (.int (nI s)), some (.int (nI c)), some (.int (nI f)), some (.int (nI m)), some (.int (nI (k + 1))), some (.int (nI (r k)))]) d_Model_load_143 rfl (by decide) rfl rfl ?_
      refine j_goto (tgt := 72) d_Model_load_146 (by decide) ?_
      refine j_heap (h' := jM (jL h ls lg) (jset P 35 (m, fun i => if i < (k + 1) then r i else 0))) (jM_cg rfl (fun j hj => by by_cases e : j = k; (simp [e]); (simp [e, jlt_s e]))) ?_
      exact j_forget (i := 6) rfl ih
def jokSpill (P : jP) (So : Nat → Int32) (Sz : Nat → Nat) (s c f : Int32) : Bool := jho P s && js4 c && decide (0 ≤ So c.toNatClampNeg) && jin f 0 (Sz c.toNatClampNeg)
def jbSpill (P : jP) (So : Nat → Int32) (s c : Int32) : Int32 := if jho P s && js4 c then (if 0 ≤ So c.toNatClampNeg then -12 else -11) else -1
theorem c_spill_bad {n : jN} {h : jH} {So : Nat → Int32} {Sz : Nat → Nat} {Nu : Nat → Nat → Int32} {P : jP} {s c f : Int32} (hw : ∀ q, tw (P q)) (hz : ∀ k, Sz k ≤ 40) (hb : jokSpill P So Sz s c f = false) : jC n 2 jy_Model_spill jc_Model_spill 5 (some .int) [.ref 135, .int s, .int c, .int f] (jM (jS h So Sz Nu) P) (some (.int (jbSpill P So s c))) (jM (jS h So Sz Nu) P) := by
  refine jC_of jm_Model_spill (L := [some (.ref 135), some (.int s), some (.int c), some (.int f), none]) (Nat.le_of_ble_eq_true rfl) rfl trivial ?_
  generalize hres : (((some (.int (jbSpill P So s c))), jM (jS h So Sz Nu) P) : Option Value × jH) = res
  refine j_aload_n d_Model_spill_0 rfl ?_
  refine j_iload_n d_Model_spill_1 rfl ?_
  refine j_callVs (As := [.int s]) (st := []) (c_holds hw) d_Model_spill_2 (by decide) jm_Model_holds jk_Model_117 ji_Model_holds js_Model_holds rfl (by decide) rfl rfl (Nat.le_of_ble_eq_true rfl) rfl ?_
  refine j_if_eqB (tgt := 15) d_Model_spill_5 (by decide) (fun c1 => ?_) (fun c1 => ?_)
  · refine j_iconst (v := -1) d_Model_spill_15 rfl ?_
    subst hres
    exact j_reti d_Model_spill_16 (by simp [jbSpill, c1]) rfl
  · refine j_iload_n d_Model_spill_8 rfl ?_
    refine j_callSs (As := [.int c]) (st := []) c_isSheet d_Model_spill_9 (by decide) jm_Model_isSheet jk_Model_141 js_Model_isSheet rfl (Nat.le_of_ble_eq_true rfl) rfl ?_
    refine j_if_neB (tgt := 17) d_Model_spill_12 (by decide) (fun c2 => ?_) (fun c2 => ?_)
    · obtain ⟨c0, hc0, rfl⟩ := js4_t c2
      have hzc := hz c0
      refine j_aload_n d_Model_spill_17 rfl ?_
      refine j_getr (b := 149) d_Model_spill_18 jf_Model_50 rfl rfl rfl (by decide) ?_
      refine j_iload_n d_Model_spill_21 rfl ?_
      refine j_ialdN (v := So c0) d_Model_spill_22 rfl (by omega) (by decide) rfl ?_
      refine j_if_ge (tgt := 29) d_Model_spill_23 (by decide) (fun c3 => ?_) (fun c3 => ?_)
      · refine j_iload_n d_Model_spill_29 rfl ?_
        refine j_i2l d_Model_spill_30 ?_
        refine j_lconst (v := 0) d_Model_spill_31 rfl ?_
        refine j_aload_n d_Model_spill_32 rfl ?_
        refine j_getr (b := 150) d_Model_spill_33 jf_Model_53 rfl rfl rfl (by decide) ?_
        refine j_iload_n d_Model_spill_36 rfl ?_
        refine j_ialdN (v := nI (Sz c0)) d_Model_spill_37 rfl (by omega) (by decide) rfl ?_
        refine j_i2l d_Model_spill_38 ?_
        refine j_callSs (As := [.long f.toInt64, .long 0, .long ((nI (Sz c0)).toInt64)]) (st := []) (c_in (x := f) (lo := 0) (hi := (nI (Sz c0)).toInt) rfl rfl (Int32.toInt_toInt64 _)) d_Model_spill_39 (by decide) jm_Model_in jk_Model_107 js_Model_in rfl (Nat.le_of_ble_eq_true rfl) rfl ?_
        refine j_if_neB (tgt := 48) d_Model_spill_42 (by decide) (fun c4 => ?_) (fun c4 => ?_)
        · rw [nI_toInt (by omega)] at c4
          exact absurd hb (by simp [jokSpill, c1, c2, c3, c4, nI_clamp (show c0 < 2 ^ 31 by omega)])
        · refine j_bipush (v := -12) d_Model_spill_45 (by decide) ?_
          subst hres
          exact j_reti d_Model_spill_47 (by simp [jbSpill, c1, c2, c3, nI_clamp (show c0 < 2 ^ 31 by omega)]) rfl
      · refine j_bipush (v := -11) d_Model_spill_26 (by decide) ?_
        subst hres
        exact j_reti d_Model_spill_28 (by simp [jbSpill, c1, c2, c3, nI_clamp (show c0 < 2 ^ 31 by omega)]) rfl
    · refine j_iconst (v := -1) d_Model_spill_15 rfl ?_
      subst hres
      exact j_reti d_Model_spill_16 (by simp [jbSpill, c1, c2]) rfl
theorem c_spill {n : jN} {h : jH} {So : Nat → Int32} {Sz : Nat → Nat} {Nu : Nat → Nat → Int32} {P : jP} {s c f m : Nat} (hw : ∀ q, tw (P q)) (hz : ∀ k, Sz k ≤ 40) (hs : s < 6) (h0 : 0 < (P s).1) (hc : c < 4) (hso : 0 ≤ So c) (hf : f ≤ Sz c) (hm1 : m ≤ (P s).1) (hm2 : f + m ≤ Sz c) (hm3 : m = (P s).1 ∨ f + m = Sz c) : jC n 2 jy_Model_spill jc_Model_spill 5 (some .int) [.ref 135, .int (nI s), .int (nI c), .int (nI f)] (jM (jS h So Sz Nu) P) (some (.int (nI m))) (jM (jS h So Sz (fun a x => if a = c then (if f ≤ x ∧ x < f + m then jlow (So c) (nI ((P s).2 (x - f))) else Nu a x) else Nu a x)) P) := by
  have hn := (hw s).1
  refine jC_of jm_Model_spill (L := [some (.ref 135), some (.int (nI s)), some (.int (nI c)), some (.int (nI f)), none]) (Nat.le_of_ble_eq_true rfl) rfl trivial ?_
  generalize hres : (((some (.int (nI m))), jM (jS h So Sz (fun a x => if a = c then (if f ≤ x ∧ x < f + m then jlow (So c) (nI ((P s).2 (x - f))) else Nu a x) else Nu a x)) P) : Option Value × jH) = res
  have hzc := hz c
  refine j_aload_n d_Model_spill_0 rfl ?_
  refine j_iload_n d_Model_spill_1 rfl ?_
  refine j_callVs (As := [.int (nI s)]) (st := []) (c_holds hw) d_Model_spill_2 (by decide) jm_Model_holds jk_Model_117 ji_Model_holds js_Model_holds rfl (by decide) rfl rfl (Nat.le_of_ble_eq_true rfl) rfl ?_
  refine j_if_eqB_f (tgt := 15) d_Model_spill_5 (by decide) (jho_y hs h0) ?_
  refine j_iload_n d_Model_spill_8 rfl ?_
  refine j_callSs (As := [.int (nI c)]) (st := []) c_isSheet d_Model_spill_9 (by decide) jm_Model_isSheet jk_Model_141 js_Model_isSheet rfl (Nat.le_of_ble_eq_true rfl) rfl ?_
  refine j_if_neB_t (tgt := 17) d_Model_spill_12 (by decide) (js4_N hc) ?_
  refine j_aload_n d_Model_spill_17 rfl ?_
  refine j_getr (b := 149) d_Model_spill_18 jf_Model_50 rfl rfl rfl (by decide) ?_
  refine j_iload_n d_Model_spill_21 rfl ?_
  refine j_ialdN (v := So c) d_Model_spill_22 rfl (by omega) (by decide) rfl ?_
  refine j_if_ge_t (tgt := 29) d_Model_spill_23 (by decide) hso ?_
  refine j_iload_n d_Model_spill_29 rfl ?_
  refine j_i2l d_Model_spill_30 ?_
  refine j_lconst (v := 0) d_Model_spill_31 rfl ?_
  refine j_aload_n d_Model_spill_32 rfl ?_
  refine j_getr (b := 150) d_Model_spill_33 jf_Model_53 rfl rfl rfl (by decide) ?_
  refine j_iload_n d_Model_spill_36 rfl ?_
  refine j_ialdN (v := nI (Sz c)) d_Model_spill_37 rfl (by omega) (by decide) rfl ?_
  refine j_i2l d_Model_spill_38 ?_
  refine j_callSs (As := [.long ((nI f).toInt64), .long 0, .long ((nI (Sz c)).toInt64)]) (st := []) (c_in (x := (nI f)) (lo := 0) (hi := (nI (Sz c)).toInt) rfl rfl (Int32.toInt_toInt64 _)) d_Model_spill_39 (by decide) jm_Model_in jk_Model_107 js_Model_in rfl (Nat.le_of_ble_eq_true rfl) rfl ?_
  refine j_if_neB_t (tgt := 48) d_Model_spill_42 (by decide) (jin_y (by omega) (by omega) (by rw [nI_toInt (by omega)]; omega)) ?_
  refine j_iconst (v := nI 0) d_Model_spill_48 rfl ?_
  refine j_istore (L' := [some (.ref 135), some (.int (nI s)), some (.int (nI c)), some (.int (nI f)), some (.int (nI 0))]) d_Model_spill_49 (by decide) rfl rfl ?_
  refine j_heap (h' := jM (jS h So Sz (fun a x => if a = c then (if f ≤ x ∧ x < f + 0 then jlow (So c) (nI ((P s).2 (x - f))) else Nu a x) else Nu a x)) P) (jS_cg (fun _ => rfl) (fun _ => rfl) (fun a x hx => by split; (rw [if_neg (by omega)]); rfl)) ?_
  refine j_loop (P := fun k => jJ n 2 jc_Model_spill 5 "YesNoPowersModel" 51 [some (.ref 135), some (.int (nI s)), some (.int (nI c)), some (.int (nI f)), some (.int (nI k))] [] (jM (jS h So Sz (fun a x => if a = c then (if f ≤ x ∧ x < f + k then jlow (So c) (nI ((P s).2 (x - f))) else Nu a x) else Nu a x)) P) res) (m := m) ?_ (fun k hk ih => ?_)
  · refine j_iload d_Model_spill_51 rfl ?_
    refine j_aload_n d_Model_spill_53 rfl ?_
    refine j_getr (b := 137) d_Model_spill_54 jf_Model_13 rfl rfl rfl (by decide) ?_
    refine j_iload_n d_Model_spill_57 rfl ?_
    refine j_ialdN (v := nI ((P s).1)) d_Model_spill_58 rfl (by omega) (by decide) rfl ?_
    refine j_icmp_geN (tgt := 107) d_Model_spill_59 (by decide) (by omega) (by omega) (fun e1 => ?_) (fun e1 => ?_)
    · refine j_iload d_Model_spill_107 rfl ?_
      subst hres
      exact j_reti d_Model_spill_109 rfl rfl
    · refine j_iload_n d_Model_spill_62 rfl ?_
      refine j_iload d_Model_spill_63 rfl ?_
      refine j_iaddN d_Model_spill_65 ?_
      refine j_aload_n d_Model_spill_66 rfl ?_
      refine j_getr (b := 150) d_Model_spill_67 jf_Model_53 rfl rfl rfl (by decide) ?_
      refine j_iload_n d_Model_spill_70 rfl ?_
      refine j_ialdN (v := nI (Sz c)) d_Model_spill_71 rfl (by omega) (by decide) rfl ?_
      refine j_icmp_geN_t (tgt := 107) d_Model_spill_72 (by decide) (by omega) (by omega) (by omega) ?_
      refine j_iload d_Model_spill_107 rfl ?_
      subst hres
      exact j_reti d_Model_spill_109 rfl rfl
  · refine j_iload d_Model_spill_51 rfl ?_
    refine j_aload_n d_Model_spill_53 rfl ?_
    refine j_getr (b := 137) d_Model_spill_54 jf_Model_13 rfl rfl rfl (by decide) ?_
    refine j_iload_n d_Model_spill_57 rfl ?_
    refine j_ialdN (v := nI ((P s).1)) d_Model_spill_58 rfl (by omega) (by decide) rfl ?_
    refine j_icmp_geN_f (tgt := 107) d_Model_spill_59 (by decide) (by omega) (by omega) (by omega) ?_
    refine j_iload_n d_Model_spill_62 rfl ?_
    refine j_iload d_Model_spill_63 rfl ?_
    refine j_iaddN d_Model_spill_65 ?_
    refine j_aload_n d_Model_spill_66 rfl ?_
    refine j_getr (b := 150) d_Model_spill_67 jf_Model_53 rfl rfl rfl (by decide) ?_
    refine j_iload_n d_Model_spill_70 rfl ?_
    refine j_ialdN (v := nI (Sz c)) d_Model_spill_71 rfl (by omega) (by decide) rfl ?_
    refine j_icmp_geN_f (tgt := 107) d_Model_spill_72 (by decide) (by omega) (by omega) (by omega) ?_
    refine j_aload_n d_Model_spill_75 rfl ?_
    refine j_getr (b := 151) d_Model_spill_76 jf_Model_56 rfl rfl rfl (by decide) ?_
    refine j_bipush (v := nI 40) d_Model_spill_79 (by decide) ?_
    refine j_iload_n d_Model_spill_81 rfl ?_
    refine j_imulN d_Model_spill_82 ?_
    refine j_iload_n d_Model_spill_83 rfl ?_
    refine j_iaddN d_Model_spill_84 ?_
    refine j_iload d_Model_spill_85 rfl ?_
    refine j_iaddN d_Model_spill_87 ?_
    refine j_aload_n d_Model_spill_88 rfl ?_
    refine j_iload_n d_Model_spill_89 rfl ?_
    refine j_aload_n d_Model_spill_90 rfl ?_
    refine j_iload_n d_Model_spill_91 rfl ?_
    refine j_iload d_Model_spill_92 rfl ?_
    refine j_callVs (As := [.int (nI s), .int (nI k)]) (st := [.int (nI c), .ref 135, .int (nI (((40 * c) + f) + k)), .ref 151]) (c_row (by omega) (by omega)) d_Model_spill_94 (by decide) jm_Model_row jk_Model_71 ji_Model_row js_Model_row rfl (by decide) rfl rfl (Nat.le_of_ble_eq_true rfl) rfl ?_
    refine j_callVs (As := [.int (nI c), .int (nI ((P s).2 k))]) (st := [.int (nI (((40 * c) + f) + k)), .ref 151]) (c_lowest (by omega)) d_Model_spill_97 (by decide) jm_Model_lowest jk_Model_144 ji_Model_lowest js_Model_lowest rfl (by decide) rfl rfl (Nat.le_of_ble_eq_true rfl) rfl ?_
    refine j_iastN (h' := jM (jS h So Sz (jfu2 (fun a x => if a = c then (if f ≤ x ∧ x < f + k then jlow (So c) (nI ((P s).2 (x - f))) else Nu a x) else Nu a x) c (f + k) (jlow (So c) (nI ((P s).2 k))))) P) d_Model_spill_100 rfl (by omega) (by decide) (jS_nu (s := c) (i := f + k) (by omega) (by omega)) ?_
    refine j_iincN (x := k) (L' := [some (.ref 135), some (.int (nI s)), some (.int (nI c)), some (.int (nI f)), some (.int (nI (k + 1)))]) d_Model_spill_101 rfl (by decide) rfl rfl ?_
    refine j_goto (tgt := 51) d_Model_spill_104 (by decide) ?_
    refine j_heap (h' := jM (jS h So Sz (fun a x => if a = c then (if f ≤ x ∧ x < f + (k + 1) then jlow (So c) (nI ((P s).2 (x - f))) else Nu a x) else Nu a x)) P) (jS_cg (fun _ => rfl) (fun _ => rfl) (fun a x hx => by simp only [jfu2]; by_cases e1 : a = c; (by_cases e : x = f + k; (subst e; simp only [e1, if_true]; rw [if_pos (by omega), Nat.add_sub_cancel_left]); (simp only [e1, if_true, e, if_false]; (repeat' split) <;> first | rfl | omega)); (simp [e1]))) ?_
    exact ih

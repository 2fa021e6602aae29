def lgi (g : Nat → Nat) : Nat → Nat
  | 0 => 0
  | k + 1 => if 0 < g k ∧ (lgi g k = 0 ∨ g k < lgi g k) then g k else lgi g k
theorem lgi_le {g : Nat → Nat} (h : ∀ k, g k ≤ 12) : ∀ k, lgi g k ≤ 12
  | 0 => by simp [lgi]
  | k + 1 => by
    unfold lgi
    split
    · exact h k
    · exact lgi_le h k
abbrev Gi (T : jT) (k : Nat) : Nat := fiO (rou (Cl T) (wk T) k) T.1 T.1
theorem c_leastGirth {n : jN} {h : jH} {P : jP} {s : Nat} (hw : ∀ q, tw (P q)) (hs : s < 6) : jC n 2 jy_Model_leastGirth jc_Model_leastGirth 5 (some .int) [.ref 135, .int (nI s)] (jM (wkH h (P s)) P) (some (.int (nI (lgi (Gi (P s)) (Mn (P s)))))) (jM (wkH h (P s)) P) := by
  have hns := (hw s).1
  have hMle : Mn (P s) ≤ 12 := Nat.le_trans (clF_le _ _) hns
  refine jC_of jm_Model_leastGirth (L := [some (.ref 135), some (.int (nI s)), none, none, none]) (Nat.le_of_ble_eq_true rfl) rfl trivial ?_
  generalize hres : (((some (.int (nI (lgi (Gi (P s)) (Mn (P s)))))), jM (wkH h (P s)) P) : Option Value × jH) = res
  have hG : ∀ k, Gi (P s) k ≤ 12 := fun k => fiO_le _ hns
  refine j_iconst (v := nI 0) d_Model_leastGirth_0 rfl ?_
  refine j_istore_n (L' := [some (.ref 135), some (.int (nI s)), some (.int (nI 0)), none, none]) d_Model_leastGirth_1 (by decide) rfl rfl ?_
  refine j_iconst (v := nI 0) d_Model_leastGirth_2 rfl ?_
  refine j_istore_n (L' := [some (.ref 135), some (.int (nI s)), some (.int (nI 0)), some (.int (nI 0)), none]) d_Model_leastGirth_3 (by decide) rfl rfl ?_
  refine j_loop (P := fun k => jJ n 2 jc_Model_leastGirth 5 "YesNoPowersModel" 4 [some (.ref 135), some (.int (nI s)), some (.int (nI (lgi (Gi (P s)) k))), some (.int (nI k)), none] [] (jM (wkH h (P s)) P) res) (m := Mn (P s)) ?_ (fun k hk ih => ?_)
  · have hle := lgi_le hG (Mn (P s))
    refine j_iload_n d_Model_leastGirth_4 rfl ?_
    refine j_aload_n d_Model_leastGirth_5 rfl ?_
    refine j_getv (v := nI (Mn (P s))) d_Model_leastGirth_6 jf_Model_183 rfl rfl rfl ?_
    refine j_icmp_geN_t (tgt := 49) d_Model_leastGirth_9 (by decide) (by omega) (by omega) (Nat.le_refl _) ?_
    refine j_iload_n d_Model_leastGirth_49 rfl ?_
    subst hres
    exact j_reti d_Model_leastGirth_50 rfl rfl
  · have hle := lgi_le hG k
    have hgk := hG k
    have hlk : lgi (Gi (P s)) (k + 1) = if 0 < Gi (P s) k ∧ (lgi (Gi (P s)) k = 0 ∨ Gi (P s) k < lgi (Gi (P s)) k) then Gi (P s) k else lgi (Gi (P s)) k := rfl
    refine j_iload_n d_Model_leastGirth_4 rfl ?_
    refine j_aload_n d_Model_leastGirth_5 rfl ?_
    refine j_getv (v := nI (Mn (P s))) d_Model_leastGirth_6 jf_Model_183 rfl rfl rfl ?_
    refine j_icmp_geN_f (tgt := 49) d_Model_leastGirth_9 (by decide) (by omega) (by omega) (Nat.not_le.mpr hk) ?_
    refine j_aload_n d_Model_leastGirth_12 rfl ?_
    refine j_iload_n d_Model_leastGirth_13 rfl ?_
    refine j_iload_n d_Model_leastGirth_14 rfl ?_
    refine j_iconst (v := nI 1) d_Model_leastGirth_15 rfl ?_
    refine j_callVs (As := [.int (nI s), .int (nI k), .int (nI 1)]) (st := []) (c_roundsOf1 hw hs (jko_W (hw s)) (by omega)) d_Model_leastGirth_16 (by decide) jm_Model_roundsOf jk_Model_201 ji_Model_roundsOf js_Model_roundsOf rfl (by decide) rfl rfl (Nat.le_of_ble_eq_true rfl) rfl ?_
    refine j_istore (L' := [some (.ref 135), some (.int (nI s)), some (.int (nI (lgi (Gi (P s)) k))), some (.int (nI k)), some (.int (nI (Gi (P s) k)))]) d_Model_leastGirth_19 (by decide) rfl rfl ?_
    skip
    refine j_iload d_Model_leastGirth_21 rfl ?_
    refine j_if_leN (tgt := 41) d_Model_leastGirth_23 (by decide) (by omega) (fun c0 => ?_) (fun c0 => ?_)
    · refine j_iload_n d_Model_leastGirth_41 rfl ?_
      refine j_top (w := nI (lgi (Gi (P s)) (k + 1))) (by rw [hlk]; first | rw [if_pos (by omega)] | rw [if_neg (by omega)]) ?_
      refine j_istore_n (L' := [some (.ref 135), some (.int (nI s)), some (.int (nI (lgi (Gi (P s)) (k + 1)))), some (.int (nI k)), some (.int (nI (Gi (P s) k)))]) d_Model_leastGirth_42 (by decide) rfl rfl ?_
      refine j_iincN (x := k) (L' := [some (.ref 135), some (.int (nI s)), some (.int (nI (lgi (Gi (P s)) (k + 1)))), some (.int (nI (k + 1))), some (.int (nI (Gi (P s) k)))]) d_Model_leastGirth_43 rfl (by decide) rfl rfl ?_
      refine j_goto (tgt := 4) d_Model_leastGirth_46 (by decide) ?_
      exact j_forget (i := 4) rfl ih
    · refine j_iload_n d_Model_leastGirth_26 rfl ?_
      refine j_if_eqN (tgt := 36) d_Model_leastGirth_27 (by decide) (by omega) (fun c1 => ?_) (fun c1 => ?_)
      · refine j_iload d_Model_leastGirth_36 rfl ?_
        refine j_goto (tgt := 42) d_Model_leastGirth_38 (by decide) ?_
        refine j_top (w := nI (lgi (Gi (P s)) (k + 1))) (by rw [hlk]; first | rw [if_pos (by omega)] | rw [if_neg (by omega)]) ?_
        refine j_istore_n (L' := [some (.ref 135), some (.int (nI s)), some (.int (nI (lgi (Gi (P s)) (k + 1)))), some (.int (nI k)), some (.int (nI (Gi (P s) k)))]) d_Model_leastGirth_42 (by decide) rfl rfl ?_
        refine j_iincN (x := k) (L' := [some (.ref 135), some (.int (nI s)), some (.int (nI (lgi (Gi (P s)) (k + 1)))), some (.int (nI (k + 1))), some (.int (nI (Gi (P s) k)))]) d_Model_leastGirth_43 rfl (by decide) rfl rfl ?_
        refine j_goto (tgt := 4) d_Model_leastGirth_46 (by decide) ?_
        exact j_forget (i := 4) rfl ih
      · refine j_iload d_Model_leastGirth_30 rfl ?_
        refine j_iload_n d_Model_leastGirth_32 rfl ?_
        refine j_icmp_geN (tgt := 41) d_Model_leastGirth_33 (by decide) (by omega) (by omega) (fun c2 => ?_) (fun c2 => ?_)
        · refine j_iload_n d_Model_leastGirth_41 rfl ?_
          refine j_top (w := nI (lgi (Gi (P s)) (k + 1))) (by rw [hlk]; first | rw [if_pos (by omega)] | rw [if_neg (by omega)]) ?_
          refine j_istore_n (L' := [some (.ref 135), some (.int (nI s)), some (.int (nI (lgi (Gi (P s)) (k + 1)))), some (.int (nI k)), some (.int (nI (Gi (P s) k)))]) d_Model_leastGirth_42 (by decide) rfl rfl ?_
          refine j_iincN (x := k) (L' := [some (.ref 135), some (.int (nI s)), some (.int (nI (lgi (Gi (P s)) (k + 1)))), some (.int (nI (k + 1))), some (.int (nI (Gi (P s) k)))]) d_Model_leastGirth_43 rfl (by decide) rfl rfl ?_
          refine j_goto (tgt := 4) d_Model_leastGirth_46 (by decide) ?_
          exact j_forget (i := 4) rfl ih
        · refine j_iload d_Model_leastGirth_36 rfl ?_
          refine j_goto (tgt := 42) d_Model_leastGirth_38 (by decide) ?_
          refine j_top (w := nI (lgi (Gi (P s)) (k + 1))) (by rw [hlk]; first | rw [if_pos (by omega)] | rw [if_neg (by omega)]) ?_
          refine j_istore_n (L' := [some (.ref 135), some (.int (nI s)), some (.int (nI (lgi (Gi (P s)) (k + 1)))), some (.int (nI k)), some (.int (nI (Gi (P s) k)))]) d_Model_leastGirth_42 (by decide) rfl rfl ?_
          refine j_iincN (x := k) (L' := [some (.ref 135), some (.int (nI s)), some (.int (nI (lgi (Gi (P s)) (k + 1)))), some (.int (nI (k + 1))), some (.int (nI (Gi (P s) k)))]) d_Model_leastGirth_43 rfl (by decide) rfl rfl ?_
          refine j_goto (tgt := 4) d_Model_leastGirth_46 (by decide) ?_
          exact j_forget (i := 4) rfl ih
def jokBound (P : jP) (s w : Int32) : Bool := jho P s && jin w 0 3
def own (T : jT) (k : Nat) : Nat := jsum k (fun i => if (T.2 i).testBit i then 1 else 0)
theorem own_le (T : jT) : ∀ k, own T k ≤ k
  | 0 => Nat.le_refl _
  | k + 1 => by
    have := own_le T k
    have e : own T (k + 1) = own T k + (if (T.2 k).testBit k then 1 else 0) := rfl
    rw [e]
    split <;> omega
theorem c_bound_bad {n : jN} {h : jH} {P : jP} {s w : Int32} (hw : ∀ q, tw (P q)) (hb : jokBound P s w = false) : jC n 4 jy_Model_bound jc_Model_bound 6 (some .int) [.ref 135, .int s, .int w] (jM h P) (some (.int (-1))) (jM h P) := by
  refine jC_of jm_Model_bound (L := [some (.ref 135), some (.int s), some (.int w), none, none, none]) (Nat.le_of_ble_eq_true rfl) rfl trivial ?_
  generalize hres : (((some (.int (-1))), jM h P) : Option Value × jH) = res
  refine j_aload_n d_Model_bound_0 rfl ?_
  refine j_iload_n d_Model_bound_1 rfl ?_
  refine j_callVs (As := [.int s]) (st := []) (c_holds hw) d_Model_bound_2 (by decide) jm_Model_holds jk_Model_117 ji_Model_holds js_Model_holds rfl (by decide) rfl rfl (Nat.le_of_ble_eq_true rfl) rfl ?_
  refine j_if_eqB (tgt := 20) d_Model_bound_5 (by decide) (fun c1 => ?_) (fun c1 => ?_)
  · refine j_iconst (v := -1) d_Model_bound_20 rfl ?_
    subst hres
    exact j_reti d_Model_bound_21 rfl rfl
  · refine j_iload_n d_Model_bound_8 rfl ?_
    refine j_i2l d_Model_bound_9 ?_
    refine j_lconst (v := 0) d_Model_bound_10 rfl ?_
    refine j_ldc2 (v := 3) d_Model_bound_11 jk_Model_214 ?_
    refine j_callSs (As := [.long w.toInt64, .long 0, .long 3]) (st := []) (c_in (x := w) (lo := 0) (hi := 3) rfl rfl rfl) d_Model_bound_14 (by decide) jm_Model_in jk_Model_107 js_Model_in rfl (Nat.le_of_ble_eq_true rfl) rfl ?_
    refine j_if_neB (tgt := 22) d_Model_bound_17 (by decide) (fun c2 => ?_) (fun c2 => ?_)
    · exact absurd hb (by simp [jokBound, c1, c2])
    · refine j_iconst (v := -1) d_Model_bound_20 rfl ?_
      subst hres
      exact j_reti d_Model_bound_21 rfl rfl
theorem c_bound_none {n : jN} {h : jH} {P : jP} {s ix pr my : Nat} (hw : ∀ q, tw (P q)) (hs : s < 6) (h0 : 0 < (P s).1) (hmy : h 135 13 = nI my) (h1 : 1 ≤ ix) (h2 : 1 ≤ pr) (hb : ix + pr ≤ 300) (hd : ∀ i j, 1 ≤ i → i < j → j < ix + pr → jeq (tpo (P s) (i - 1)).2 (tpo (P s) (j - 1)).2 12 = false) (hd2 : ∀ i, 1 ≤ i → i < ix → jeq (tpo (P s) (i - 1)).2 (tpo (P s) (ix + pr - 1)).2 12 = false) (he : jeq (tpo (P s) (ix - 1)).2 (tpo (P s) (ix + pr - 1)).2 12 = true) {w : Nat} (hw4 : w < 4) (hn : ∀ k, k < ix + pr - 1 → tful (tpo (P s) (k + 1 - 1)) (P s).1 (P s).1 = false) : jC n 4 jy_Model_bound jc_Model_bound 6 (some .int) [.ref 135, .int (nI s), .int (nI w)] (jM h P) (some (.int (-2))) (jM (lyH h (P s) ix pr) (lyP P (P s) (ix + pr))) := by
  have hns := (hw s).1
  refine jC_of jm_Model_bound (L := [some (.ref 135), some (.int (nI s)), some (.int (nI w)), none, none, none]) (Nat.le_of_ble_eq_true rfl) rfl trivial ?_
  generalize hres : (((some (.int (-2))), jM (lyH h (P s) ix pr) (lyP P (P s) (ix + pr))) : Option Value × jH) = res
  refine j_aload_n d_Model_bound_0 rfl ?_
  refine j_iload_n d_Model_bound_1 rfl ?_
  refine j_callVs (As := [.int (nI s)]) (st := []) (c_holds hw) d_Model_bound_2 (by decide) jm_Model_holds jk_Model_117 ji_Model_holds js_Model_holds rfl (by decide) rfl rfl (Nat.le_of_ble_eq_true rfl) rfl ?_
  refine j_if_eqB_f (tgt := 20) d_Model_bound_5 (by decide) (jho_y hs h0) ?_
  refine j_iload_n d_Model_bound_8 rfl ?_
  refine j_i2l d_Model_bound_9 ?_
  refine j_lconst (v := 0) d_Model_bound_10 rfl ?_
  refine j_ldc2 (v := 3) d_Model_bound_11 jk_Model_214 ?_
  refine j_callSs (As := [.long ((nI w).toInt64), .long 0, .long 3]) (st := []) (c_in (x := (nI w)) (lo := 0) (hi := 3) rfl rfl rfl) d_Model_bound_14 (by decide) jm_Model_in jk_Model_107 js_Model_in rfl (Nat.le_of_ble_eq_true rfl) rfl ?_
  refine j_if_neB_t (tgt := 22) d_Model_bound_17 (by decide) (jin_y (by omega) (by omega) (by omega)) ?_
  refine j_aload_n d_Model_bound_22 rfl ?_
  refine j_getr (b := 137) d_Model_bound_23 jf_Model_13 rfl rfl rfl (by decide) ?_
  refine j_iload_n d_Model_bound_26 rfl ?_
  refine j_ialdN (v := nI ((P s).1)) d_Model_bound_27 rfl (by omega) (by decide) rfl ?_
  refine j_istore_n (L' := [some (.ref 135), some (.int (nI s)), some (.int (nI w)), some (.int (nI ((P s).1))), none, none]) d_Model_bound_28 (by decide) rfl rfl ?_
  refine j_aload_n d_Model_bound_29 rfl ?_
  refine j_iload_n d_Model_bound_30 rfl ?_
  refine j_callVn (As := [.int (nI s)]) (st := []) (c_layPowers hw hs rfl h1 h2 hb hd hd2 he) d_Model_bound_31 (by decide) jm_Model_layPowers jk_Model_164 ji_Model_layPowers js_Model_layPowers rfl (by decide) rfl rfl (Nat.le_of_ble_eq_true rfl) rfl ?_
  refine j_aload_n d_Model_bound_34 rfl ?_
  refine j_iload_n d_Model_bound_35 rfl ?_
  refine j_callVs (As := [.int (nI ((P s).1))]) (st := []) (c_exponent_none (ix := ix) (pr := pr) (T := P s) rfl rfl h2 hb lyH_pw (hw s) hns hn) d_Model_bound_36 (by decide) jm_Model_exponent jk_Model_171 ji_Model_exponent js_Model_exponent rfl (by decide) rfl rfl (Nat.le_of_ble_eq_true rfl) rfl ?_
  refine j_if_neN_f (tgt := 45) d_Model_bound_39 (by decide) (by omega) (by decide) ?_
  refine j_bipush (v := -2) d_Model_bound_42 (by decide) ?_
  subst hres
  exact j_reti d_Model_bound_44 rfl rfl
theorem c_bound0 {n : jN} {h : jH} {P : jP} {s ix pr my : Nat} (hw : ∀ q, tw (P q)) (hs : s < 6) (h0 : 0 < (P s).1) (hmy : h 135 13 = nI my) (h1 : 1 ≤ ix) (h2 : 1 ≤ pr) (hb : ix + pr ≤ 300) (hd : ∀ i j, 1 ≤ i → i < j → j < ix + pr → jeq (tpo (P s) (i - 1)).2 (tpo (P s) (j - 1)).2 12 = false) (hd2 : ∀ i, 1 ≤ i → i < ix → jeq (tpo (P s) (i - 1)).2 (tpo (P s) (ix + pr - 1)).2 12 = false) (he : jeq (tpo (P s) (ix - 1)).2 (tpo (P s) (ix + pr - 1)).2 12 = true) {e : Nat} (he1 : e + 1 < ix + pr) (he2 : tful (tpo (P s) (e + 1 - 1)) (P s).1 (P s).1 = true) (hn : ∀ k, k < e → tful (tpo (P s) (k + 1 - 1)) (P s).1 (P s).1 = false) : jC n 4 jy_Model_bound jc_Model_bound 6 (some .int) [.ref 135, .int (nI s), .int (nI 0)] (jM h P) (some (.int (nI (((P s).1 - 1) * ((P s).1 - 1) + 1)))) (jM (wkH (lyH h (P s) ix pr) (P s)) (lyP P (P s) (ix + pr))) := by
  have hns := (hw s).1
  refine jC_of jm_Model_bound (L := [some (.ref 135), some (.int (nI s)), some (.int (nI 0)), none, none, none]) (Nat.le_of_ble_eq_true rfl) rfl trivial ?_
  generalize hres : (((some (.int (nI (((P s).1 - 1) * ((P s).1 - 1) + 1)))), jM (wkH (lyH h (P s) ix pr) (P s)) (lyP P (P s) (ix + pr))) : Option Value × jH) = res
  have hQs : lyP P (P s) (ix + pr) s = P s := lyP_o (by omega) (by omega)
  have hQw : ∀ q, tw (lyP P (P s) (ix + pr) q) := lyP_w hw (hw s) _
  have how := own_le (P s)
  refine j_aload_n d_Model_bound_0 rfl ?_
  refine j_iload_n d_Model_bound_1 rfl ?_
  refine j_callVs (As := [.int (nI s)]) (st := []) (c_holds hw) d_Model_bound_2 (by decide) jm_Model_holds jk_Model_117 ji_Model_holds js_Model_holds rfl (by decide) rfl rfl (Nat.le_of_ble_eq_true rfl) rfl ?_
  refine j_if_eqB_f (tgt := 20) d_Model_bound_5 (by decide) (jho_y hs h0) ?_
  refine j_iload_n d_Model_bound_8 rfl ?_
  refine j_i2l d_Model_bound_9 ?_
  refine j_lconst (v := 0) d_Model_bound_10 rfl ?_
  refine j_ldc2 (v := 3) d_Model_bound_11 jk_Model_214 ?_
  refine j_callSs (As := [.long ((nI 0).toInt64), .long 0, .long 3]) (st := []) (c_in (x := (nI 0)) (lo := 0) (hi := 3) rfl rfl rfl) d_Model_bound_14 (by decide) jm_Model_in jk_Model_107 js_Model_in rfl (Nat.le_of_ble_eq_true rfl) rfl ?_
  refine j_if_neB_t (tgt := 22) d_Model_bound_17 (by decide) (jin_y (by omega) (by omega) (by omega)) ?_
  refine j_aload_n d_Model_bound_22 rfl ?_
  refine j_getr (b := 137) d_Model_bound_23 jf_Model_13 rfl rfl rfl (by decide) ?_
  refine j_iload_n d_Model_bound_26 rfl ?_
  refine j_ialdN (v := nI ((P s).1)) d_Model_bound_27 rfl (by omega) (by decide) rfl ?_
  refine j_istore_n (L' := [some (.ref 135), some (.int (nI s)), some (.int (nI 0)), some (.int (nI ((P s).1))), none, none]) d_Model_bound_28 (by decide) rfl rfl ?_
  refine j_aload_n d_Model_bound_29 rfl ?_
  refine j_iload_n d_Model_bound_30 rfl ?_
  refine j_callVn (As := [.int (nI s)]) (st := []) (c_layPowers hw hs rfl h1 h2 hb hd hd2 he) d_Model_bound_31 (by decide) jm_Model_layPowers jk_Model_164 ji_Model_layPowers js_Model_layPowers rfl (by decide) rfl rfl (Nat.le_of_ble_eq_true rfl) rfl ?_
  refine j_aload_n d_Model_bound_34 rfl ?_
  refine j_iload_n d_Model_bound_35 rfl ?_
  refine j_callVs (As := [.int (nI ((P s).1))]) (st := []) (c_exponent_some (ix := ix) (pr := pr) (T := P s) rfl rfl h2 hb lyH_pw (hw s) hns he1 he2 hn) d_Model_bound_36 (by decide) jm_Model_exponent jk_Model_171 ji_Model_exponent js_Model_exponent rfl (by decide) rfl rfl (Nat.le_of_ble_eq_true rfl) rfl ?_
  refine j_if_neN_t (tgt := 45) d_Model_bound_39 (by decide) (by omega) (by omega) ?_
  refine j_aload_n d_Model_bound_45 rfl ?_
  refine j_iload_n d_Model_bound_46 rfl ?_
  refine j_callVn (As := [.int (nI s)]) (st := []) (by have := c_layWalks (n := n) (h := lyH h (P s) ix pr) (P := lyP P (P s) (ix + pr)) (a := s) (my := my) hQw hs (by exact hmy); rwa [hQs] at this) d_Model_bound_47 (by decide) jm_Model_layWalks jk_Model_192 ji_Model_layWalks js_Model_layWalks rfl (by decide) rfl rfl (Nat.le_of_ble_eq_true rfl) rfl ?_
  refine j_iconst (v := nI 0) d_Model_bound_50 rfl ?_
  refine j_istore (L' := [some (.ref 135), some (.int (nI s)), some (.int (nI 0)), some (.int (nI ((P s).1))), some (.int (nI 0)), none]) d_Model_bound_51 (by decide) rfl rfl ?_
  refine j_iconst (v := nI 0) d_Model_bound_53 rfl ?_
  refine j_istore (L' := [some (.ref 135), some (.int (nI s)), some (.int (nI 0)), some (.int (nI ((P s).1))), some (.int (nI 0)), some (.int (nI 0))]) d_Model_bound_54 (by decide) rfl rfl ?_
  refine j_loop (P := fun k => jJ n 4 jc_Model_bound 6 "YesNoPowersModel" 56 [some (.ref 135), some (.int (nI s)), some (.int (nI 0)), some (.int (nI ((P s).1))), some (.int (nI (own (P s) k))), some (.int (nI k))] [] (jM (wkH (lyH h (P s) ix pr) (P s)) (lyP P (P s) (ix + pr))) res) (m := (P s).1) ?_ (fun k hk ih => ?_)
  · have how1 := how (P s).1
    refine j_iload d_Model_bound_56 rfl ?_
    refine j_iload_n d_Model_bound_58 rfl ?_
    refine j_icmp_geN_t (tgt := 90) d_Model_bound_59 (by decide) (by omega) (by omega) (Nat.le_refl _) ?_
    refine j_iload_n d_Model_bound_90 rfl ?_
    refine j_swIn (off := 25) (tgt := 116) d_Model_bound_91 (by decide) (by decide) rfl (by decide) ?_
    refine j_iload_n d_Model_bound_116 rfl ?_
    refine j_iconst (v := nI 1) d_Model_bound_117 rfl ?_
    refine j_isubN d_Model_bound_118 (by omega) ?_
    refine j_iload_n d_Model_bound_119 rfl ?_
    refine j_iconst (v := nI 1) d_Model_bound_120 rfl ?_
    refine j_isubN d_Model_bound_121 (by omega) ?_
    refine j_imulN d_Model_bound_122 ?_
    refine j_iconst (v := nI 1) d_Model_bound_123 rfl ?_
    refine j_iaddN d_Model_bound_124 ?_
    subst hres
    exact j_reti d_Model_bound_125 rfl rfl
  · refine j_iload d_Model_bound_56 rfl ?_
    refine j_iload_n d_Model_bound_58 rfl ?_
    refine j_icmp_geN_f (tgt := 90) d_Model_bound_59 (by decide) (by omega) (by omega) (Nat.not_le.mpr hk) ?_
    refine j_iload d_Model_bound_62 rfl ?_
    refine j_aload_n d_Model_bound_64 rfl ?_
    refine j_iload_n d_Model_bound_65 rfl ?_
    refine j_iload d_Model_bound_66 rfl ?_
    refine j_iload d_Model_bound_68 rfl ?_
    refine j_callVs (As := [.int (nI s), .int (nI k), .int (nI k)]) (st := [.int (nI (own (P s) k))]) (by have := c_leads (n := n) (h := wkH (lyH h (P s) ix pr) (P s)) (P := lyP P (P s) (ix + pr)) (p := s) (i := k) (j := k) (by omega) (by omega) (by omega) (tw_lt (hQw s) k); rwa [hQs] at this) d_Model_bound_70 (by decide) jm_Model_leads jk_Model_67 ji_Model_leads js_Model_leads rfl (by decide) rfl rfl (Nat.le_of_ble_eq_true rfl) rfl ?_
    refine j_if_eqB (tgt := 80) d_Model_bound_73 (by decide) (fun c => ?_) (fun c => ?_)
    · refine j_iconst (v := nI 0) d_Model_bound_80 rfl ?_
      refine j_iaddN d_Model_bound_81 ?_
      refine j_top (w := nI (own (P s) (k + 1))) (congrArg nI (by simp [own, jsum, c])) ?_
      refine j_istore (L' := [some (.ref 135), some (.int (nI s)), some (.int (nI 0)), some (.int (nI ((P s).1))), some (.int (nI (own (P s) (k + 1)))), some (.int (nI k))]) d_Model_bound_82 (by decide) rfl rfl ?_
      refine j_iincN (x := k) (L' := [some (.ref 135), some (.int (nI s)), some (.int (nI 0)), some (.int (nI ((P s).1))), some (.int (nI (own (P s) (k + 1)))), some (.int (nI (k + 1)))]) d_Model_bound_84 rfl (by decide) rfl rfl ?_
      refine j_goto (tgt := 56) d_Model_bound_87 (by decide) ?_
      exact ih
    · refine j_iconst (v := nI 1) d_Model_bound_76 rfl ?_
      refine j_goto (tgt := 81) d_Model_bound_77 (by decide) ?_
      refine j_iaddN d_Model_bound_81 ?_
      refine j_top (w := nI (own (P s) (k + 1))) (congrArg nI (by simp [own, jsum, c])) ?_
      refine j_istore (L' := [some (.ref 135), some (.int (nI s)), some (.int (nI 0)), some (.int (nI ((P s).1))), some (.int (nI (own (P s) (k + 1)))), some (.int (nI k))]) d_Model_bound_82 (by decide) rfl rfl ?_
      refine j_iincN (x := k) (L' := [some (.ref 135), some (.int (nI s)), some (.int (nI 0)), some (.int (nI ((P s).1))), some (.int (nI (own (P s) (k + 1)))), some (.int (nI (k + 1)))]) d_Model_bound_84 rfl (by decide) rfl rfl ?_
      refine j_goto (tgt := 56) d_Model_bound_87 (by decide) ?_
      exact ih
def bnd1 (T : jT) : Int32 := nI T.1 + nI (lgi (Gi T) (Mn T)) * (nI T.1 - nI 2)
theorem c_bound1 {n : jN} {h : jH} {P : jP} {s ix pr my : Nat} (hw : ∀ q, tw (P q)) (hs : s < 6) (h0 : 0 < (P s).1) (hmy : h 135 13 = nI my) (h1 : 1 ≤ ix) (h2 : 1 ≤ pr) (hb : ix + pr ≤ 300) (hd : ∀ i j, 1 ≤ i → i < j → j < ix + pr → jeq (tpo (P s) (i - 1)).2 (tpo (P s) (j - 1)).2 12 = false) (hd2 : ∀ i, 1 ≤ i → i < ix → jeq (tpo (P s) (i - 1)).2 (tpo (P s) (ix + pr - 1)).2 12 = false) (he : jeq (tpo (P s) (ix - 1)).2 (tpo (P s) (ix + pr - 1)).2 12 = true) {e : Nat} (he1 : e + 1 < ix + pr) (he2 : tful (tpo (P s) (e + 1 - 1)) (P s).1 (P s).1 = true) (hn : ∀ k, k < e → tful (tpo (P s) (k + 1 - 1)) (P s).1 (P s).1 = false) : jC n 4 jy_Model_bound jc_Model_bound 6 (some .int) [.ref 135, .int (nI s), .int (nI 1)] (jM h P) (some (.int (bnd1 (P s)))) (jM (wkH (lyH h (P s) ix pr) (P s)) (lyP P (P s) (ix + pr))) := by
  have hns := (hw s).1
  refine jC_of jm_Model_bound (L := [some (.ref 135), some (.int (nI s)), some (.int (nI 1)), none, none, none]) (Nat.le_of_ble_eq_true rfl) rfl trivial ?_
  generalize hres : (((some (.int (bnd1 (P s)))), jM (wkH (lyH h (P s) ix pr) (P s)) (lyP P (P s) (ix + pr))) : Option Value × jH) = res
  have hQs : lyP P (P s) (ix + pr) s = P s := lyP_o (by omega) (by omega)
  have hQw : ∀ q, tw (lyP P (P s) (ix + pr) q) := lyP_w hw (hw s) _
  have how := own_le (P s)
  refine j_aload_n d_Model_bound_0 rfl ?_
  refine j_iload_n d_Model_bound_1 rfl ?_
  refine j_callVs (As := [.int (nI s)]) (st := []) (c_holds hw) d_Model_bound_2 (by decide) jm_Model_holds jk_Model_117 ji_Model_holds js_Model_holds rfl (by decide) rfl rfl (Nat.le_of_ble_eq_true rfl) rfl ?_
  refine j_if_eqB_f (tgt := 20) d_Model_bound_5 (by decide) (jho_y hs h0) ?_
  refine j_iload_n d_Model_bound_8 rfl ?_
  refine j_i2l d_Model_bound_9 ?_
  refine j_lconst (v := 0) d_Model_bound_10 rfl ?_
  refine j_ldc2 (v := 3) d_Model_bound_11 jk_Model_214 ?_
  refine j_callSs (As := [.long ((nI 1).toInt64), .long 0, .long 3]) (st := []) (c_in (x := (nI 1)) (lo := 0) (hi := 3) rfl rfl rfl) d_Model_bound_14 (by decide) jm_Model_in jk_Model_107 js_Model_in rfl (Nat.le_of_ble_eq_true rfl) rfl ?_
  refine j_if_neB_t (tgt := 22) d_Model_bound_17 (by decide) (jin_y (by omega) (by omega) (by omega)) ?_
  refine j_aload_n d_Model_bound_22 rfl ?_
  refine j_getr (b := 137) d_Model_bound_23 jf_Model_13 rfl rfl rfl (by decide) ?_
  refine j_iload_n d_Model_bound_26 rfl ?_
  refine j_ialdN (v := nI ((P s).1)) d_Model_bound_27 rfl (by omega) (by decide) rfl ?_
  refine j_istore_n (L' := [some (.ref 135), some (.int (nI s)), some (.int (nI 1)), some (.int (nI ((P s).1))), none, none]) d_Model_bound_28 (by decide) rfl rfl ?_
  refine j_aload_n d_Model_bound_29 rfl ?_
  refine j_iload_n d_Model_bound_30 rfl ?_
  refine j_callVn (As := [.int (nI s)]) (st := []) (c_layPowers hw hs rfl h1 h2 hb hd hd2 he) d_Model_bound_31 (by decide) jm_Model_layPowers jk_Model_164 ji_Model_layPowers js_Model_layPowers rfl (by decide) rfl rfl (Nat.le_of_ble_eq_true rfl) rfl ?_
  refine j_aload_n d_Model_bound_34 rfl ?_
  refine j_iload_n d_Model_bound_35 rfl ?_
  refine j_callVs (As := [.int (nI ((P s).1))]) (st := []) (c_exponent_some (ix := ix) (pr := pr) (T := P s) rfl rfl h2 hb lyH_pw (hw s) hns he1 he2 hn) d_Model_bound_36 (by decide) jm_Model_exponent jk_Model_171 ji_Model_exponent js_Model_exponent rfl (by decide) rfl rfl (Nat.le_of_ble_eq_true rfl) rfl ?_
  refine j_if_neN_t (tgt := 45) d_Model_bound_39 (by decide) (by omega) (by omega) ?_
  refine j_aload_n d_Model_bound_45 rfl ?_
  refine j_iload_n d_Model_bound_46 rfl ?_
  refine j_callVn (As := [.int (nI s)]) (st := []) (by have := c_layWalks (n := n) (h := lyH h (P s) ix pr) (P := lyP P (P s) (ix + pr)) (a := s) (my := my) hQw hs (by exact hmy); rwa [hQs] at this) d_Model_bound_47 (by decide) jm_Model_layWalks jk_Model_192 ji_Model_layWalks js_Model_layWalks rfl (by decide) rfl rfl (Nat.le_of_ble_eq_true rfl) rfl ?_
  refine j_iconst (v := nI 0) d_Model_bound_50 rfl ?_
  refine j_istore (L' := [some (.ref 135), some (.int (nI s)), some (.int (nI 1)), some (.int (nI ((P s).1))), some (.int (nI 0)), none]) d_Model_bound_51 (by decide) rfl rfl ?_
  refine j_iconst (v := nI 0) d_Model_bound_53 rfl ?_
  refine j_istore (L' := [some (.ref 135), some (.int (nI s)), some (.int (nI 1)), some (.int (nI ((P s).1))), some (.int (nI 0)), some (.int (nI 0))]) d_Model_bound_54 (by decide) rfl rfl ?_
  refine j_loop (P := fun k => jJ n 4 jc_Model_bound 6 "YesNoPowersModel" 56 [some (.ref 135), some (.int (nI s)), some (.int (nI 1)), some (.int (nI ((P s).1))), some (.int (nI (own (P s) k))), some (.int (nI k))] [] (jM (wkH (lyH h (P s) ix pr) (P s)) (lyP P (P s) (ix + pr))) res) (m := (P s).1) ?_ (fun k hk ih => ?_)
  · have how1 := how (P s).1
    refine j_iload d_Model_bound_56 rfl ?_
    refine j_iload_n d_Model_bound_58 rfl ?_
    refine j_icmp_geN_t (tgt := 90) d_Model_bound_59 (by decide) (by omega) (by omega) (Nat.le_refl _) ?_
    refine j_iload_n d_Model_bound_90 rfl ?_
    refine j_swIn (off := 35) (tgt := 126) d_Model_bound_91 (by decide) (by decide) rfl (by decide) ?_
    refine j_iload_n d_Model_bound_126 rfl ?_
    refine j_aload_n d_Model_bound_127 rfl ?_
    refine j_iload_n d_Model_bound_128 rfl ?_
    refine j_callVs (As := [.int (nI s)]) (st := [.int (nI ((P s).1))]) (by have := c_leastGirth (n := n) (h := lyH h (P s) ix pr) (P := lyP P (P s) (ix + pr)) (s := s) hQw hs; rwa [hQs] at this) d_Model_bound_129 (by decide) jm_Model_leastGirth jk_Model_216 ji_Model_leastGirth js_Model_leastGirth rfl (by decide) rfl rfl (Nat.le_of_ble_eq_true rfl) rfl ?_
    refine j_iload_n d_Model_bound_132 rfl ?_
    refine j_iconst (v := nI 2) d_Model_bound_133 rfl ?_
    refine j_isub d_Model_bound_134 ?_
    refine j_imul d_Model_bound_135 ?_
    refine j_iadd d_Model_bound_136 ?_
    subst hres
    exact j_reti d_Model_bound_137 rfl rfl
  · refine j_iload d_Model_bound_56 rfl ?_
    refine j_iload_n d_Model_bound_58 rfl ?_
    refine j_icmp_geN_f (tgt := 90) d_Model_bound_59 (by decide) (by omega) (by omega) (Nat.not_le.mpr hk) ?_
    refine j_iload d_Model_bound_62 rfl ?_
    refine j_aload_n d_Model_bound_64 rfl ?_
    refine j_iload_n d_Model_bound_65 rfl ?_
    refine j_iload d_Model_bound_66 rfl ?_
    refine j_iload d_Model_bound_68 rfl ?_
    refine j_callVs (As := [.int (nI s), .int (nI k), .int (nI k)]) (st := [.int (nI (own (P s) k))]) (by have := c_leads (n := n) (h := wkH (lyH h (P s) ix pr) (P s)) (P := lyP P (P s) (ix + pr)) (p := s) (i := k) (j := k) (by omega) (by omega) (by omega) (tw_lt (hQw s) k); rwa [hQs] at this) d_Model_bound_70 (by decide) jm_Model_leads jk_Model_67 ji_Model_leads js_Model_leads rfl (by decide) rfl rfl (Nat.le_of_ble_eq_true rfl) rfl ?_
    refine j_if_eqB (tgt := 80) d_Model_bound_73 (by decide) (fun c => ?_) (fun c => ?_)
    · refine j_iconst (v := nI 0) d_Model_bound_80 rfl ?_
      refine j_iaddN d_Model_bound_81 ?_
      refine j_top (w := nI (own (P s) (k + 1))) (congrArg nI (by simp [own, jsum, c])) ?_
      refine j_istore (L' := [some (.ref 135), some (.int (nI s)), some (.int (nI 1)), some (.int (nI ((P s).1))), some (.int (nI (own (P s) (k + 1)))), some (.int (nI k))]) d_Model_bound_82 (by decide) rfl rfl ?_
      refine j_iincN (x := k) (L' := [some (.ref 135), some (.int (nI s)), some (.int (nI 1)), some (.int (nI ((P s).1))), some (.int (nI (own (P s) (k + 1)))), some (.int (nI (k + 1)))]) d_Model_bound_84 rfl (by decide) rfl rfl ?_
      refine j_goto (tgt := 56) d_Model_bound_87 (by decide) ?_
      exact ih
    · refine j_iconst (v := nI 1) d_Model_bound_76 rfl ?_
      refine j_goto (tgt := 81) d_Model_bound_77 (by decide) ?_
      refine j_iaddN d_Model_bound_81 ?_
      refine j_top (w := nI (own (P s) (k + 1))) (congrArg nI (by simp [own, jsum, c])) ?_
      refine j_istore (L' := [some (.ref 135), some (.int (nI s)), some (.int (nI 1)), some (.int (nI ((P s).1))), some (.int (nI (own (P s) (k + 1)))), some (.int (nI k))]) d_Model_bound_82 (by decide) rfl rfl ?_
      refine j_iincN (x := k) (L' := [some (.ref 135), some (.int (nI s)), some (.int (nI 1)), some (.int (nI ((P s).1))), some (.int (nI (own (P s) (k + 1)))), some (.int (nI (k + 1)))]) d_Model_bound_84 rfl (by decide) rfl rfl ?_
      refine j_goto (tgt := 56) d_Model_bound_87 (by decide) ?_
      exact ih
theorem c_bound2_0 {n : jN} {h : jH} {P : jP} {s ix pr my : Nat} (hw : ∀ q, tw (P q)) (hs : s < 6) (h0 : 0 < (P s).1) (hmy : h 135 13 = nI my) (h1 : 1 ≤ ix) (h2 : 1 ≤ pr) (hb : ix + pr ≤ 300) (hd : ∀ i j, 1 ≤ i → i < j → j < ix + pr → jeq (tpo (P s) (i - 1)).2 (tpo (P s) (j - 1)).2 12 = false) (hd2 : ∀ i, 1 ≤ i → i < ix → jeq (tpo (P s) (i - 1)).2 (tpo (P s) (ix + pr - 1)).2 12 = false) (he : jeq (tpo (P s) (ix - 1)).2 (tpo (P s) (ix + pr - 1)).2 12 = true) {e : Nat} (he1 : e + 1 < ix + pr) (he2 : tful (tpo (P s) (e + 1 - 1)) (P s).1 (P s).1 = true) (hn : ∀ k, k < e → tful (tpo (P s) (k + 1 - 1)) (P s).1 (P s).1 = false) (ho :  own (P s) (P s).1 = 0) : jC n 4 jy_Model_bound jc_Model_bound 6 (some .int) [.ref 135, .int (nI s), .int (nI 2)] (jM h P) (some (.int (-2))) (jM (wkH (lyH h (P s) ix pr) (P s)) (lyP P (P s) (ix + pr))) := by
  have hns := (hw s).1
  refine jC_of jm_Model_bound (L := [some (.ref 135), some (.int (nI s)), some (.int (nI 2)), none, none, none]) (Nat.le_of_ble_eq_true rfl) rfl trivial ?_
  generalize hres : (((some (.int (-2))), jM (wkH (lyH h (P s) ix pr) (P s)) (lyP P (P s) (ix + pr))) : Option Value × jH) = res
  have hQs : lyP P (P s) (ix + pr) s = P s := lyP_o (by omega) (by omega)
  have hQw : ∀ q, tw (lyP P (P s) (ix + pr) q) := lyP_w hw (hw s) _
  have how := own_le (P s)
  refine j_aload_n d_Model_bound_0 rfl ?_
  refine j_iload_n d_Model_bound_1 rfl ?_
  refine j_callVs (As := [.int (nI s)]) (st := []) (c_holds hw) d_Model_bound_2 (by decide) jm_Model_holds jk_Model_117 ji_Model_holds js_Model_holds rfl (by decide) rfl rfl (Nat.le_of_ble_eq_true rfl) rfl ?_
  refine j_if_eqB_f (tgt := 20) d_Model_bound_5 (by decide) (jho_y hs h0) ?_
  refine j_iload_n d_Model_bound_8 rfl ?_
  refine j_i2l d_Model_bound_9 ?_
  refine j_lconst (v := 0) d_Model_bound_10 rfl ?_
  refine j_ldc2 (v := 3) d_Model_bound_11 jk_Model_214 ?_
  refine j_callSs (As := [.long ((nI 2).toInt64), .long 0, .long 3]) (st := []) (c_in (x := (nI 2)) (lo := 0) (hi := 3) rfl rfl rfl) d_Model_bound_14 (by decide) jm_Model_in jk_Model_107 js_Model_in rfl (Nat.le_of_ble_eq_true rfl) rfl ?_
  refine j_if_neB_t (tgt := 22) d_Model_bound_17 (by decide) (jin_y (by omega) (by omega) (by omega)) ?_
  refine j_aload_n d_Model_bound_22 rfl ?_
  refine j_getr (b := 137) d_Model_bound_23 jf_Model_13 rfl rfl rfl (by decide) ?_
  refine j_iload_n d_Model_bound_26 rfl ?_
  refine j_ialdN (v := nI ((P s).1)) d_Model_bound_27 rfl (by omega) (by decide) rfl ?_
  refine j_istore_n (L' := [some (.ref 135), some (.int (nI s)), some (.int (nI 2)), some (.int (nI ((P s).1))), none, none]) d_Model_bound_28 (by decide) rfl rfl ?_
  refine j_aload_n d_Model_bound_29 rfl ?_
  refine j_iload_n d_Model_bound_30 rfl ?_
  refine j_callVn (As := [.int (nI s)]) (st := []) (c_layPowers hw hs rfl h1 h2 hb hd hd2 he) d_Model_bound_31 (by decide) jm_Model_layPowers jk_Model_164 ji_Model_layPowers js_Model_layPowers rfl (by decide) rfl rfl (Nat.le_of_ble_eq_true rfl) rfl ?_
  refine j_aload_n d_Model_bound_34 rfl ?_
  refine j_iload_n d_Model_bound_35 rfl ?_
  refine j_callVs (As := [.int (nI ((P s).1))]) (st := []) (c_exponent_some (ix := ix) (pr := pr) (T := P s) rfl rfl h2 hb lyH_pw (hw s) hns he1 he2 hn) d_Model_bound_36 (by decide) jm_Model_exponent jk_Model_171 ji_Model_exponent js_Model_exponent rfl (by decide) rfl rfl (Nat.le_of_ble_eq_true rfl) rfl ?_
  refine j_if_neN_t (tgt := 45) d_Model_bound_39 (by decide) (by omega) (by omega) ?_
  refine j_aload_n d_Model_bound_45 rfl ?_
  refine j_iload_n d_Model_bound_46 rfl ?_
  refine j_callVn (As := [.int (nI s)]) (st := []) (by have := c_layWalks (n := n) (h := lyH h (P s) ix pr) (P := lyP P (P s) (ix + pr)) (a := s) (my := my) hQw hs (by exact hmy); rwa [hQs] at this) d_Model_bound_47 (by decide) jm_Model_layWalks jk_Model_192 ji_Model_layWalks js_Model_layWalks rfl (by decide) rfl rfl (Nat.le_of_ble_eq_true rfl) rfl ?_
  refine j_iconst (v := nI 0) d_Model_bound_50 rfl ?_
  refine j_istore (L' := [some (.ref 135), some (.int (nI s)), some (.int (nI 2)), some (.int (nI ((P s).1))), some (.int (nI 0)), none]) d_Model_bound_51 (by decide) rfl rfl ?_
  refine j_iconst (v := nI 0) d_Model_bound_53 rfl ?_
  refine j_istore (L' := [some (.ref 135), some (.int (nI s)), some (.int (nI 2)), some (.int (nI ((P s).1))), some (.int (nI 0)), some (.int (nI 0))]) d_Model_bound_54 (by decide) rfl rfl ?_
  refine j_loop (P := fun k => jJ n 4 jc_Model_bound 6 "YesNoPowersModel" 56 [some (.ref 135), some (.int (nI s)), some (.int (nI 2)), some (.int (nI ((P s).1))), some (.int (nI (own (P s) k))), some (.int (nI k))] [] (jM (wkH (lyH h (P s) ix pr) (P s)) (lyP P (P s) (ix + pr))) res) (m := (P s).1) ?_ (fun k hk ih => ?_)
  · have how1 := how (P s).1
    refine j_iload d_Model_bound_56 rfl ?_
    refine j_iload_n d_Model_bound_58 rfl ?_
    refine j_icmp_geN_t (tgt := 90) d_Model_bound_59 (by decide) (by omega) (by omega) (Nat.le_refl _) ?_
    refine j_iload_n d_Model_bound_90 rfl ?_
    refine j_swIn (off := 47) (tgt := 138) d_Model_bound_91 (by decide) (by decide) rfl (by decide) ?_
    refine j_iload d_Model_bound_138 rfl ?_
    refine j_if_neN_f (tgt := 148) d_Model_bound_140 (by decide) (by omega) ho ?_
    refine j_bipush (v := -2) d_Model_bound_143 (by decide) ?_
    refine j_goto (tgt := 156) d_Model_bound_145 (by decide) ?_
    subst hres
    exact j_reti d_Model_bound_156 rfl rfl
  · refine j_iload d_Model_bound_56 rfl ?_
    refine j_iload_n d_Model_bound_58 rfl ?_
    refine j_icmp_geN_f (tgt := 90) d_Model_bound_59 (by decide) (by omega) (by omega) (Nat.not_le.mpr hk) ?_
    refine j_iload d_Model_bound_62 rfl ?_
    refine j_aload_n d_Model_bound_64 rfl ?_
    refine j_iload_n d_Model_bound_65 rfl ?_
    refine j_iload d_Model_bound_66 rfl ?_
    refine j_iload d_Model_bound_68 rfl ?_
    refine j_callVs (As := [.int (nI s), .int (nI k), .int (nI k)]) (st := [.int (nI (own (P s) k))]) (by have := c_leads (n := n) (h := wkH (lyH h (P s) ix pr) (P s)) (P := lyP P (P s) (ix + pr)) (p := s) (i := k) (j := k) (by omega) (by omega) (by omega) (tw_lt (hQw s) k); rwa [hQs] at this) d_Model_bound_70 (by decide) jm_Model_leads jk_Model_67 ji_Model_leads js_Model_leads rfl (by decide) rfl rfl (Nat.le_of_ble_eq_true rfl) rfl ?_
    refine j_if_eqB (tgt := 80) d_Model_bound_73 (by decide) (fun c => ?_) (fun c => ?_)
    · refine j_iconst (v := nI 0) d_Model_bound_80 rfl ?_
      refine j_iaddN d_Model_bound_81 ?_
      refine j_top (w := nI (own (P s) (k + 1))) (congrArg nI (by simp [own, jsum, c])) ?_
      refine j_istore (L' := [some (.ref 135), some (.int (nI s)), some (.int (nI 2)), some (.int (nI ((P s).1))), some (.int (nI (own (P s) (k + 1)))), some (.int (nI k))]) d_Model_bound_82 (by decide) rfl rfl ?_
      refine j_iincN (x := k) (L' := [some (.ref 135), some (.int (nI s)), some (.int (nI 2)), some (.int (nI ((P s).1))), some (.int (nI (own (P s) (k + 1)))), some (.int (nI (k + 1)))]) d_Model_bound_84 rfl (by decide) rfl rfl ?_
      refine j_goto (tgt := 56) d_Model_bound_87 (by decide) ?_
      exact ih
    · refine j_iconst (v := nI 1) d_Model_bound_76 rfl ?_
      refine j_goto (tgt := 81) d_Model_bound_77 (by decide) ?_
      refine j_iaddN d_Model_bound_81 ?_
      refine j_top (w := nI (own (P s) (k + 1))) (congrArg nI (by simp [own, jsum, c])) ?_
      refine j_istore (L' := [some (.ref 135), some (.int (nI s)), some (.int (nI 2)), some (.int (nI ((P s).1))), some (.int (nI (own (P s) (k + 1)))), some (.int (nI k))]) d_Model_bound_82 (by decide) rfl rfl ?_
      refine j_iincN (x := k) (L' := [some (.ref 135), some (.int (nI s)), some (.int (nI 2)), some (.int (nI ((P s).1))), some (.int (nI (own (P s) (k + 1)))), some (.int (nI (k + 1)))]) d_Model_bound_84 rfl (by decide) rfl rfl ?_
      refine j_goto (tgt := 56) d_Model_bound_87 (by decide) ?_
      exact ih
theorem c_bound2_1 {n : jN} {h : jH} {P : jP} {s ix pr my : Nat} (hw : ∀ q, tw (P q)) (hs : s < 6) (h0 : 0 < (P s).1) (hmy : h 135 13 = nI my) (h1 : 1 ≤ ix) (h2 : 1 ≤ pr) (hb : ix + pr ≤ 300) (hd : ∀ i j, 1 ≤ i → i < j → j < ix + pr → jeq (tpo (P s) (i - 1)).2 (tpo (P s) (j - 1)).2 12 = false) (hd2 : ∀ i, 1 ≤ i → i < ix → jeq (tpo (P s) (i - 1)).2 (tpo (P s) (ix + pr - 1)).2 12 = false) (he : jeq (tpo (P s) (ix - 1)).2 (tpo (P s) (ix + pr - 1)).2 12 = true) {e : Nat} (he1 : e + 1 < ix + pr) (he2 : tful (tpo (P s) (e + 1 - 1)) (P s).1 (P s).1 = true) (hn : ∀ k, k < e → tful (tpo (P s) (k + 1 - 1)) (P s).1 (P s).1 = false) (ho : ¬ own (P s) (P s).1 = 0) : jC n 4 jy_Model_bound jc_Model_bound 6 (some .int) [.ref 135, .int (nI s), .int (nI 2)] (jM h P) (some (.int (nI (2 * (P s).1 - own (P s) (P s).1 - 1)))) (jM (wkH (lyH h (P s) ix pr) (P s)) (lyP P (P s) (ix + pr))) := by
  have hns := (hw s).1
  refine jC_of jm_Model_bound (L := [some (.ref 135), some (.int (nI s)), some (.int (nI 2)), none, none, none]) (Nat.le_of_ble_eq_true rfl) rfl trivial ?_
  generalize hres : (((some (.int (nI (2 * (P s).1 - own (P s) (P s).1 - 1)))), jM (wkH (lyH h (P s) ix pr) (P s)) (lyP P (P s) (ix + pr))) : Option Value × jH) = res
  have hQs : lyP P (P s) (ix + pr) s = P s := lyP_o (by omega) (by omega)
  have hQw : ∀ q, tw (lyP P (P s) (ix + pr) q) := lyP_w hw (hw s) _
  have how := own_le (P s)
  refine j_aload_n d_Model_bound_0 rfl ?_
  refine j_iload_n d_Model_bound_1 rfl ?_
  refine j_callVs (As := [.int (nI s)]) (st := []) (c_holds hw) d_Model_bound_2 (by decide) jm_Model_holds jk_Model_117 ji_Model_holds js_Model_holds rfl (by decide) rfl rfl (Nat.le_of_ble_eq_true rfl) rfl ?_
  refine j_if_eqB_f (tgt := 20) d_Model_bound_5 (by decide) (jho_y hs h0) ?_
  refine j_iload_n d_Model_bound_8 rfl ?_
  refine j_i2l d_Model_bound_9 ?_
  refine j_lconst (v := 0) d_Model_bound_10 rfl ?_
  refine j_ldc2 (v := 3) d_Model_bound_11 jk_Model_214 ?_
  refine j_callSs (As := [.long ((nI 2).toInt64), .long 0, .long 3]) (st := []) (c_in (x := (nI 2)) (lo := 0) (hi := 3) rfl rfl rfl) d_Model_bound_14 (by decide) jm_Model_in jk_Model_107 js_Model_in rfl (Nat.le_of_ble_eq_true rfl) rfl ?_
  refine j_if_neB_t (tgt := 22) d_Model_bound_17 (by decide) (jin_y (by omega) (by omega) (by omega)) ?_
  refine j_aload_n d_Model_bound_22 rfl ?_
  refine j_getr (b := 137) d_Model_bound_23 jf_Model_13 rfl rfl rfl (by decide) ?_
  refine j_iload_n d_Model_bound_26 rfl ?_
  refine j_ialdN (v := nI ((P s).1)) d_Model_bound_27 rfl (by omega) (by decide) rfl ?_
  refine j_istore_n (L' := [some (.ref 135), some (.int (nI s)), some (.int (nI 2)), some (.int (nI ((P s).1))), none, none]) d_Model_bound_28 (by decide) rfl rfl ?_
  refine j_aload_n d_Model_bound_29 rfl ?_
  refine j_iload_n d_Model_bound_30 rfl ?_
  refine j_callVn (As := [.int (nI s)]) (st := []) (c_layPowers hw hs rfl h1 h2 hb hd hd2 he) d_Model_bound_31 (by decide) jm_Model_layPowers jk_Model_164 ji_Model_layPowers js_Model_layPowers rfl (by decide) rfl rfl (Nat.le_of_ble_eq_true rfl) rfl ?_
  refine j_aload_n d_Model_bound_34 rfl ?_
  refine j_iload_n d_Model_bound_35 rfl ?_
  refine j_callVs (As := [.int (nI ((P s).1))]) (st := []) (c_exponent_some (ix := ix) (pr := pr) (T := P s) rfl rfl h2 hb lyH_pw (hw s) hns he1 he2 hn) d_Model_bound_36 (by decide) jm_Model_exponent jk_Model_171 ji_Model_exponent js_Model_exponent rfl (by decide) rfl rfl (Nat.le_of_ble_eq_true rfl) rfl ?_
  refine j_if_neN_t (tgt := 45) d_Model_bound_39 (by decide) (by omega) (by omega) ?_
  refine j_aload_n d_Model_bound_45 rfl ?_
  refine j_iload_n d_Model_bound_46 rfl ?_
  refine j_callVn (As := [.int (nI s)]) (st := []) (by have := c_layWalks (n := n) (h := lyH h (P s) ix pr) (P := lyP P (P s) (ix + pr)) (a := s) (my := my) hQw hs (by exact hmy); rwa [hQs] at this) d_Model_bound_47 (by decide) jm_Model_layWalks jk_Model_192 ji_Model_layWalks js_Model_layWalks rfl (by decide) rfl rfl (Nat.le_of_ble_eq_true rfl) rfl ?_
  refine j_iconst (v := nI 0) d_Model_bound_50 rfl ?_
  refine j_istore (L' := [some (.ref 135), some (.int (nI s)), some (.int (nI 2)), some (.int (nI ((P s).1))), some (.int (nI 0)), none]) d_Model_bound_51 (by decide) rfl rfl ?_
  refine j_iconst (v := nI 0) d_Model_bound_53 rfl ?_
  refine j_istore (L' := [some (.ref 135), some (.int (nI s)), some (.int (nI 2)), some (.int (nI ((P s).1))), some (.int (nI 0)), some (.int (nI 0))]) d_Model_bound_54 (by decide) rfl rfl ?_
  refine j_loop (P := fun k => jJ n 4 jc_Model_bound 6 "YesNoPowersModel" 56 [some (.ref 135), some (.int (nI s)), some (.int (nI 2)), some (.int (nI ((P s).1))), some (.int (nI (own (P s) k))), some (.int (nI k))] [] (jM (wkH (lyH h (P s) ix pr) (P s)) (lyP P (P s) (ix + pr))) res) (m := (P s).1) ?_ (fun k hk ih => ?_)
  · have how1 := how (P s).1
    refine j_iload d_Model_bound_56 rfl ?_
    refine j_iload_n d_Model_bound_58 rfl ?_
    refine j_icmp_geN_t (tgt := 90) d_Model_bound_59 (by decide) (by omega) (by omega) (Nat.le_refl _) ?_
    refine j_iload_n d_Model_bound_90 rfl ?_
    refine j_swIn (off := 47) (tgt := 138) d_Model_bound_91 (by decide) (by decide) rfl (by decide) ?_
    refine j_iload d_Model_bound_138 rfl ?_
    refine j_if_neN_t (tgt := 148) d_Model_bound_140 (by decide) (by omega) ho ?_
    refine j_iconst (v := nI 2) d_Model_bound_148 rfl ?_
    refine j_iload_n d_Model_bound_149 rfl ?_
    refine j_imulN d_Model_bound_150 ?_
    refine j_iload d_Model_bound_151 rfl ?_
    refine j_isubN d_Model_bound_153 (by omega) ?_
    refine j_iconst (v := nI 1) d_Model_bound_154 rfl ?_
    refine j_isubN d_Model_bound_155 (by omega) ?_
    subst hres
    exact j_reti d_Model_bound_156 rfl rfl
  · refine j_iload d_Model_bound_56 rfl ?_
    refine j_iload_n d_Model_bound_58 rfl ?_
    refine j_icmp_geN_f (tgt := 90) d_Model_bound_59 (by decide) (by omega) (by omega) (Nat.not_le.mpr hk) ?_
    refine j_iload d_Model_bound_62 rfl ?_
    refine j_aload_n d_Model_bound_64 rfl ?_
    refine j_iload_n d_Model_bound_65 rfl ?_
    refine j_iload d_Model_bound_66 rfl ?_
    refine j_iload d_Model_bound_68 rfl ?_
    refine j_callVs (As := [.int (nI s), .int (nI k), .int (nI k)]) (st := [.int (nI (own (P s) k))]) (by have := c_leads (n := n) (h := wkH (lyH h (P s) ix pr) (P s)) (P := lyP P (P s) (ix + pr)) (p := s) (i := k) (j := k) (by omega) (by omega) (by omega) (tw_lt (hQw s) k); rwa [hQs] at this) d_Model_bound_70 (by decide) jm_Model_leads jk_Model_67 ji_Model_leads js_Model_leads rfl (by decide) rfl rfl (Nat.le_of_ble_eq_true rfl) rfl ?_
    refine j_if_eqB (tgt := 80) d_Model_bound_73 (by decide) (fun c => ?_) (fun c => ?_)
    · refine j_iconst (v := nI 0) d_Model_bound_80 rfl ?_
      refine j_iaddN d_Model_bound_81 ?_
      refine j_top (w := nI (own (P s) (k + 1))) (congrArg nI (by simp [own, jsum, c])) ?_
      refine j_istore (L' := [some (.ref 135), some (.int (nI s)), some (.int (nI 2)), some (.int (nI ((P s).1))), some (.int (nI (own (P s) (k + 1)))), some (.int (nI k))]) d_Model_bound_82 (by decide) rfl rfl ?_
      refine j_iincN (x := k) (L' := [some (.ref 135), some (.int (nI s)), some (.int (nI 2)), some (.int (nI ((P s).1))), some (.int (nI (own (P s) (k + 1)))), some (.int (nI (k + 1)))]) d_Model_bound_84 rfl (by decide) rfl rfl ?_
      refine j_goto (tgt := 56) d_Model_bound_87 (by decide) ?_
      exact ih
    · refine j_iconst (v := nI 1) d_Model_bound_76 rfl ?_
      refine j_goto (tgt := 81) d_Model_bound_77 (by decide) ?_
      refine j_iaddN d_Model_bound_81 ?_
      refine j_top (w := nI (own (P s) (k + 1))) (congrArg nI (by simp [own, jsum, c])) ?_
      refine j_istore (L' := [some (.ref 135), some (.int (nI s)), some (.int (nI 2)), some (.int (nI ((P s).1))), some (.int (nI (own (P s) (k + 1)))), some (.int (nI k))]) d_Model_bound_82 (by decide) rfl rfl ?_
      refine j_iincN (x := k) (L' := [some (.ref 135), some (.int (nI s)), some (.int (nI 2)), some (.int (nI ((P s).1))), some (.int (nI (own (P s) (k + 1)))), some (.int (nI (k + 1)))]) d_Model_bound_84 rfl (by decide) rfl rfl ?_
      refine j_goto (tgt := 56) d_Model_bound_87 (by decide) ?_
      exact ih
def bnd3 (T : jT) : Int32 := if tsam T (ttr T) 12 then (if T.1 = 1 then nI 1 else nI (2 * T.1 - 2)) else -2
theorem c_bound3 {n : jN} {h : jH} {P : jP} {s ix pr my : Nat} (hw : ∀ q, tw (P q)) (hs : s < 6) (h0 : 0 < (P s).1) (hmy : h 135 13 = nI my) (h1 : 1 ≤ ix) (h2 : 1 ≤ pr) (hb : ix + pr ≤ 300) (hd : ∀ i j, 1 ≤ i → i < j → j < ix + pr → jeq (tpo (P s) (i - 1)).2 (tpo (P s) (j - 1)).2 12 = false) (hd2 : ∀ i, 1 ≤ i → i < ix → jeq (tpo (P s) (i - 1)).2 (tpo (P s) (ix + pr - 1)).2 12 = false) (he : jeq (tpo (P s) (ix - 1)).2 (tpo (P s) (ix + pr - 1)).2 12 = true) {e : Nat} (he1 : e + 1 < ix + pr) (he2 : tful (tpo (P s) (e + 1 - 1)) (P s).1 (P s).1 = true) (hn : ∀ k, k < e → tful (tpo (P s) (k + 1 - 1)) (P s).1 (P s).1 = false) : jC n 4 jy_Model_bound jc_Model_bound 6 (some .int) [.ref 135, .int (nI s), .int (nI 3)] (jM h P) (some (.int (bnd3 (P s)))) (jM (wkH (lyH h (P s) ix pr) (P s)) (jset (lyP P (P s) (ix + pr)) 35 (ttr (P s)))) := by
  have hns := (hw s).1
  refine jC_of jm_Model_bound (L := [some (.ref 135), some (.int (nI s)), some (.int (nI 3)), none, none, none]) (Nat.le_of_ble_eq_true rfl) rfl trivial ?_
  generalize hres : (((some (.int (bnd3 (P s)))), jM (wkH (lyH h (P s) ix pr) (P s)) (jset (lyP P (P s) (ix + pr)) 35 (ttr (P s)))) : Option Value × jH) = res
  have hQs : lyP P (P s) (ix + pr) s = P s := lyP_o (by omega) (by omega)
  have hQw : ∀ q, tw (lyP P (P s) (ix + pr) q) := lyP_w hw (hw s) _
  have how := own_le (P s)
  refine j_aload_n d_Model_bound_0 rfl ?_
  refine j_iload_n d_Model_bound_1 rfl ?_
  refine j_callVs (As := [.int (nI s)]) (st := []) (c_holds hw) d_Model_bound_2 (by decide) jm_Model_holds jk_Model_117 ji_Model_holds js_Model_holds rfl (by decide) rfl rfl (Nat.le_of_ble_eq_true rfl) rfl ?_
  refine j_if_eqB_f (tgt := 20) d_Model_bound_5 (by decide) (jho_y hs h0) ?_
  refine j_iload_n d_Model_bound_8 rfl ?_
  refine j_i2l d_Model_bound_9 ?_
  refine j_lconst (v := 0) d_Model_bound_10 rfl ?_
  refine j_ldc2 (v := 3) d_Model_bound_11 jk_Model_214 ?_
  refine j_callSs (As := [.long ((nI 3).toInt64), .long 0, .long 3]) (st := []) (c_in (x := (nI 3)) (lo := 0) (hi := 3) rfl rfl rfl) d_Model_bound_14 (by decide) jm_Model_in jk_Model_107 js_Model_in rfl (Nat.le_of_ble_eq_true rfl) rfl ?_
  refine j_if_neB_t (tgt := 22) d_Model_bound_17 (by decide) (jin_y (by omega) (by omega) (by omega)) ?_
  refine j_aload_n d_Model_bound_22 rfl ?_
  refine j_getr (b := 137) d_Model_bound_23 jf_Model_13 rfl rfl rfl (by decide) ?_
  refine j_iload_n d_Model_bound_26 rfl ?_
  refine j_ialdN (v := nI ((P s).1)) d_Model_bound_27 rfl (by omega) (by decide) rfl ?_
  refine j_istore_n (L' := [some (.ref 135), some (.int (nI s)), some (.int (nI 3)), some (.int (nI ((P s).1))), none, none]) d_Model_bound_28 (by decide) rfl rfl ?_
  refine j_aload_n d_Model_bound_29 rfl ?_
  refine j_iload_n d_Model_bound_30 rfl ?_
  refine j_callVn (As := [.int (nI s)]) (st := []) (c_layPowers hw hs rfl h1 h2 hb hd hd2 he) d_Model_bound_31 (by decide) jm_Model_layPowers jk_Model_164 ji_Model_layPowers js_Model_layPowers rfl (by decide) rfl rfl (Nat.le_of_ble_eq_true rfl) rfl ?_
  refine j_aload_n d_Model_bound_34 rfl ?_
  refine j_iload_n d_Model_bound_35 rfl ?_
  refine j_callVs (As := [.int (nI ((P s).1))]) (st := []) (c_exponent_some (ix := ix) (pr := pr) (T := P s) rfl rfl h2 hb lyH_pw (hw s) hns he1 he2 hn) d_Model_bound_36 (by decide) jm_Model_exponent jk_Model_171 ji_Model_exponent js_Model_exponent rfl (by decide) rfl rfl (Nat.le_of_ble_eq_true rfl) rfl ?_
  refine j_if_neN_t (tgt := 45) d_Model_bound_39 (by decide) (by omega) (by omega) ?_
  refine j_aload_n d_Model_bound_45 rfl ?_
  refine j_iload_n d_Model_bound_46 rfl ?_
  refine j_callVn (As := [.int (nI s)]) (st := []) (by have := c_layWalks (n := n) (h := lyH h (P s) ix pr) (P := lyP P (P s) (ix + pr)) (a := s) (my := my) hQw hs (by exact hmy); rwa [hQs] at this) d_Model_bound_47 (by decide) jm_Model_layWalks jk_Model_192 ji_Model_layWalks js_Model_layWalks rfl (by decide) rfl rfl (Nat.le_of_ble_eq_true rfl) rfl ?_
  refine j_iconst (v := nI 0) d_Model_bound_50 rfl ?_
  refine j_istore (L' := [some (.ref 135), some (.int (nI s)), some (.int (nI 3)), some (.int (nI ((P s).1))), some (.int (nI 0)), none]) d_Model_bound_51 (by decide) rfl rfl ?_
  refine j_iconst (v := nI 0) d_Model_bound_53 rfl ?_
  refine j_istore (L' := [some (.ref 135), some (.int (nI s)), some (.int (nI 3)), some (.int (nI ((P s).1))), some (.int (nI 0)), some (.int (nI 0))]) d_Model_bound_54 (by decide) rfl rfl ?_
  refine j_loop (P := fun k => jJ n 4 jc_Model_bound 6 "YesNoPowersModel" 56 [some (.ref 135), some (.int (nI s)), some (.int (nI 3)), some (.int (nI ((P s).1))), some (.int (nI (own (P s) k))), some (.int (nI k))] [] (jM (wkH (lyH h (P s) ix pr) (P s)) (lyP P (P s) (ix + pr))) res) (m := (P s).1) ?_ (fun k hk ih => ?_)
  · have how1 := how (P s).1
    refine j_iload d_Model_bound_56 rfl ?_
    refine j_iload_n d_Model_bound_58 rfl ?_
    refine j_icmp_geN_t (tgt := 90) d_Model_bound_59 (by decide) (by omega) (by omega) (Nat.le_refl _) ?_
    refine j_iload_n d_Model_bound_90 rfl ?_
    refine j_swOut (tgt := 157) d_Model_bound_91 (by decide) (by decide) ?_
    refine j_aload_n d_Model_bound_157 rfl ?_
    refine j_iload_n d_Model_bound_158 rfl ?_
    refine j_callVs (As := [.int (nI s)]) (st := []) (by have := c_isTurned (n := n) (h := wkH (lyH h (P s) ix pr) (P s)) (P := lyP P (P s) (ix + pr)) (a := s) hQw (by omega); rwa [hQs] at this) d_Model_bound_159 (by decide) jm_Model_isTurned jk_Model_177 ji_Model_isTurned js_Model_isTurned rfl (by decide) rfl rfl (Nat.le_of_ble_eq_true rfl) rfl ?_
    refine j_if_neB (tgt := 170) d_Model_bound_162 (by decide) (fun c => ?_) (fun c => ?_)
    · refine j_iload_n d_Model_bound_170 rfl ?_
      refine j_iconst (v := nI 1) d_Model_bound_171 rfl ?_
      refine j_icmp_neN (tgt := 179) d_Model_bound_172 (by decide) (by omega) (by omega) (fun d => ?_) (fun d => ?_)
      · refine j_iconst (v := nI 2) d_Model_bound_179 rfl ?_
        refine j_iload_n d_Model_bound_180 rfl ?_
        refine j_imulN d_Model_bound_181 ?_
        refine j_iconst (v := nI 2) d_Model_bound_182 rfl ?_
        refine j_isubN d_Model_bound_183 (by omega) ?_
        subst hres
        exact j_reti d_Model_bound_184 (by simp [bnd3, *]) rfl
      · refine j_iconst (v := nI 1) d_Model_bound_175 rfl ?_
        refine j_goto (tgt := 184) d_Model_bound_176 (by decide) ?_
        subst hres
        exact j_reti d_Model_bound_184 (by simp [bnd3, *]) rfl
    · refine j_bipush (v := -2) d_Model_bound_165 (by decide) ?_
      refine j_goto (tgt := 184) d_Model_bound_167 (by decide) ?_
      subst hres
      exact j_reti d_Model_bound_184 (by simp [bnd3, *]) rfl
  · refine j_iload d_Model_bound_56 rfl ?_
    refine j_iload_n d_Model_bound_58 rfl ?_
    refine j_icmp_geN_f (tgt := 90) d_Model_bound_59 (by decide) (by omega) (by omega) (Nat.not_le.mpr hk) ?_
    refine j_iload d_Model_bound_62 rfl ?_
    refine j_aload_n d_Model_bound_64 rfl ?_
    refine j_iload_n d_Model_bound_65 rfl ?_
    refine j_iload d_Model_bound_66 rfl ?_
    refine j_iload d_Model_bound_68 rfl ?_
    refine j_callVs (As := [.int (nI s), .int (nI k), .int (nI k)]) (st := [.int (nI (own (P s) k))]) (by have := c_leads (n := n) (h := wkH (lyH h (P s) ix pr) (P s)) (P := lyP P (P s) (ix + pr)) (p := s) (i := k) (j := k) (by omega) (by omega) (by omega) (tw_lt (hQw s) k); rwa [hQs] at this) d_Model_bound_70 (by decide) jm_Model_leads jk_Model_67 ji_Model_leads js_Model_leads rfl (by decide) rfl rfl (Nat.le_of_ble_eq_true rfl) rfl ?_
    refine j_if_eqB (tgt := 80) d_Model_bound_73 (by decide) (fun c => ?_) (fun c => ?_)
    · refine j_iconst (v := nI 0) d_Model_bound_80 rfl ?_
      refine j_iaddN d_Model_bound_81 ?_
      refine j_top (w := nI (own (P s) (k + 1))) (congrArg nI (by simp [own, jsum, c])) ?_
      refine j_istore (L' := [some (.ref 135), some (.int (nI s)), some (.int (nI 3)), some (.int (nI ((P s).1))), some (.int (nI (own (P s) (k + 1)))), some (.int (nI k))]) d_Model_bound_82 (by decide) rfl rfl ?_
      refine j_iincN (x := k) (L' := [some (.ref 135), some (.int (nI s)), some (.int (nI 3)), some (.int (nI ((P s).1))), some (.int (nI (own (P s) (k + 1)))), some (.int (nI (k + 1)))]) d_Model_bound_84 rfl (by decide) rfl rfl ?_
      refine j_goto (tgt := 56) d_Model_bound_87 (by decide) ?_
      exact ih
    · refine j_iconst (v := nI 1) d_Model_bound_76 rfl ?_
      refine j_goto (tgt := 81) d_Model_bound_77 (by decide) ?_
      refine j_iaddN d_Model_bound_81 ?_
      refine j_top (w := nI (own (P s) (k + 1))) (congrArg nI (by simp [own, jsum, c])) ?_
      refine j_istore (L' := [some (.ref 135), some (.int (nI s)), some (.int (nI 3)), some (.int (nI ((P s).1))), some (.int (nI (own (P s) (k + 1)))), some (.int (nI k))]) d_Model_bound_82 (by decide) rfl rfl ?_
      refine j_iincN (x := k) (L' := [some (.ref 135), some (.int (nI s)), some (.int (nI 3)), some (.int (nI ((P s).1))), some (.int (nI (own (P s) (k + 1)))), some (.int (nI (k + 1)))]) d_Model_bound_84 rfl (by decide) rfl rfl ?_
      refine j_goto (tgt := 56) d_Model_bound_87 (by decide) ?_
      exact ih

theorem tw_mk2 {m w : Nat} (hm : m ≤ 12) (_ : w = 2) : tw (tmk m w) := tw_mk hm
theorem tpo_n (T : jT) : ∀ k, (tpo T k).1 = T.1
  | 0 => rfl
  | k + 1 => tpo_n T k
def wq (T : jT) : Nat → jT
  | 0 => T
  | b + 1 => tmul (wq T b) (wq T b)
theorem wq_n (T : jT) : ∀ b, (wq T b).1 = T.1
  | 0 => rfl
  | b + 1 => wq_n T b
theorem tw_wq {T : jT} (hT : tw T) : ∀ b, tw (wq T b)
  | 0 => hT
  | b + 1 => tw_mul (tw_wq hT b) (tw_wq hT b)
def rq (T : jT) (k : Nat) : Nat → jT
  | 0 => tmk T.1 2
  | b + 1 => if k.testBit b = true then tmul (rq T k b) (wq T b) else rq T k b
theorem rq_n (T : jT) (k : Nat) : ∀ b, (rq T k b).1 = T.1
  | 0 => rfl
  | b + 1 => by
    unfold rq
    split
    · exact rq_n T k b
    · exact rq_n T k b
theorem tw_rq {T : jT} {k : Nat} (hT : tw T) : ∀ b, tw (rq T k b)
  | 0 => tw_mk2 hT.1 rfl
  | b + 1 => by
    unfold rq
    split
    · exact tw_mul (tw_rq hT b) (tw_wq hT b)
    · exact tw_rq hT b
def rsH (h : jH) (r k : Nat) (T : jT) : Nat → jH
  | 0 => sT (sT h r (tmk T.1 2)) 47 T
  | b + 1 => sT (sT (if k.testBit b = true then sT (rsH h r k T b) r (tmul (rq T k b) (wq T b)) else rsH h r k T b) 49 (wq T b)) 47 (wq T (b + 1))
theorem rsH_f {h : jH} {r k a : Nat} {T : jT} (h1 : a ≠ r) (h2 : a ≠ r + 1) (h3 : a < 47 ∨ 50 < a) : ∀ b, rsH h r k T b a = h a
  | 0 => by rw [rsH, sT_f (by omega) (by omega), sT_f h1 h2]
  | b + 1 => by
    rw [rsH, sT_f (by omega) (by omega), sT_f (by omega) (by omega)]
    split
    · rw [sT_f h1 h2, rsH_f h1 h2 h3 b]
    · exact rsH_f h1 h2 h3 b
theorem rsH_r {h : jH} {r k : Nat} {T : jT} (hr : isT r) (h3 : r < 45 ∨ 50 < r) : ∀ b, rep (rsH h r k T b) r (rq T k b)
  | 0 => rep_o isT_47 hr (by omega) rep_sT
  | b + 1 => by
    rw [rsH, rq]
    refine rep_o isT_47 hr (by omega) (rep_o isT_49 hr (by omega) ?_)
    split
    · exact rep_sT
    · exact rsH_r hr h3 b
theorem rsH_w {h : jH} {r k : Nat} {T : jT} : ∀ b, rep (rsH h r k T b) 47 (wq T b)
  | 0 => rep_sT
  | b + 1 => rep_sT
def rcH (h : jH) (r k : Nat) (T : jT) : Nat → jH
  | 0 => sT (sT h r (tmk T.1 2)) 85 T
  | b + 1 => sT (sT (if k.testBit b = true then sT (rcH h r k T b) r (tmul (rq T k b) (wq T b)) else rcH h r k T b) 87 (wq T b)) 85 (wq T (b + 1))
theorem rcH_f {h : jH} {r k a : Nat} {T : jT} (h1 : a ≠ r) (h2 : a ≠ r + 1) (h3 : a < 85 ∨ 88 < a) : ∀ b, rcH h r k T b a = h a
  | 0 => by rw [rcH, sT_f (by omega) (by omega), sT_f h1 h2]
  | b + 1 => by
    rw [rcH, sT_f (by omega) (by omega), sT_f (by omega) (by omega)]
    split
    · rw [sT_f h1 h2, rcH_f h1 h2 h3 b]
    · exact rcH_f h1 h2 h3 b
theorem rcH_r {h : jH} {r k : Nat} {T : jT} (hr : isT r) (h3 : r < 83 ∨ 88 < r) : ∀ b, rep (rcH h r k T b) r (rq T k b)
  | 0 => rep_o isT_1085 hr (by omega) rep_sT
  | b + 1 => by
    rw [rcH, rq]
    refine rep_o isT_1085 hr (by omega) (rep_o isT_1087 hr (by omega) ?_)
    split
    · exact rep_sT
    · exact rcH_r hr h3 b
theorem rcH_w {h : jH} {r k : Nat} {T : jT} : ∀ b, rep (rcH h r k T b) 85 (wq T b)
  | 0 => rep_sT
  | b + 1 => rep_sT
theorem x_raise {n : jN} {h : jH} {o : Nat} (ho : isT o) {r : Nat} (hr : isT r) {T : jT} {k : Nat} (hro : rep h o T) (hT : tw T) (h0 : 0 < T.1) (hk : k < 2 ^ 31) (hor : o ≠ r) (ho2 : o + 1 ≠ r) (ho3 : o ≠ r + 1) (hfo : o < 45 ∨ 50 < o) (hfr : r < 45 ∨ 50 < r) : jC n 2 jy_Powers_raise jc_Powers_raise 5 none [.ref 46, .ref o, .int (nI k), .ref r] h none (rsH h r k T 20) := by
  have hn12 := hT.1
  refine jC_of jm_Powers_raise (L := [some (.ref 46), some (.ref o), some (.int (nI k)), some (.ref r), none]) (Nat.le_of_ble_eq_true rfl) rfl trivial ?_
  generalize hres : ((none, rsH h r k T 20) : Option Value × jH) = res
  refine j_aload_n d_Powers_raise_0 rfl ?_
  refine j_aload_n d_Powers_raise_1 rfl ?_
  refine j_getv (v := nI T.1) d_Powers_raise_2 jf_Powers_19 ho.1 rfl hro.1 ?_
  refine j_iconst (v := nI 2) d_Powers_raise_5 rfl ?_
  refine j_callVn (As := [.int (nI T.1), .int (nI 2)]) (st := []) (x_becomePlain hr h0 hn12 (by omega) (by omega)) d_Powers_raise_6 (by decide) jm_Table_becomePlain jk_Powers_23 ji_Table_becomePlain js_Table_becomePlain hr.1 (by decide) rfl rfl (Nat.le_of_ble_eq_true rfl) rfl ?_
  refine j_aload_n d_Powers_raise_9 rfl ?_
  refine j_getr (b := 47) d_Powers_raise_10 jf_Powers_10 rfl rfl rfl (by decide) ?_
  refine j_aload_n d_Powers_raise_13 rfl ?_
  refine j_callVn (As := [.ref o]) (st := []) (x_become isT_47 ho (by omega) (rep_o hr ho (by omega) hro) hT) d_Powers_raise_14 (by decide) jm_Table_become jk_Powers_27 ji_Table_become js_Table_become rfl (by decide) rfl rfl (Nat.le_of_ble_eq_true rfl) rfl ?_
  refine j_iconst (v := nI 0) d_Powers_raise_17 rfl ?_
  refine j_istore (L' := [some (.ref 46), some (.ref o), some (.int (nI k)), some (.ref r), some (.int (nI 0))]) d_Powers_raise_18 (by decide) rfl rfl ?_
  refine j_loop (P := fun b => jJ n 2 jc_Powers_raise 5 "YesNoPowers$Powers" 20 [some (.ref 46), some (.ref o), some (.int (nI k)), some (.ref r), some (.int (nI b))] [] (rsH h r k T b) res) (m := 20) ?_ (fun b hb ih => ?_)
  · refine j_iload d_Powers_raise_20 rfl ?_
    refine j_bipush (v := nI 20) d_Powers_raise_22 (by decide) ?_
    refine j_icmp_geN_t (tgt := 73) d_Powers_raise_24 (by decide) (by omega) (by omega) (by omega) ?_
    subst hres
    exact j_retv d_Powers_raise_73 rfl
  · have hr3 : rep (rsH h r k T b) o T := rep_of (rsH_f (by omega) (by omega) (by omega) b) (rsH_f (by omega) (by omega) (by omega) b) hro
    have hr4 : rep (rsH h r k T b) r (rq T k b) := rsH_r hr hfr b
    have hr5 : rep (rsH h r k T b) 47 (wq T b) := rsH_w b
    refine j_iload d_Powers_raise_20 rfl ?_
    refine j_bipush (v := nI 20) d_Powers_raise_22 (by decide) ?_
    refine j_icmp_geN_f (tgt := 73) d_Powers_raise_24 (by decide) (by omega) (by omega) (Nat.not_le.mpr hb) ?_
    refine j_iload_n d_Powers_raise_27 rfl ?_
    refine j_iload d_Powers_raise_28 rfl ?_
    refine j_ishrN d_Powers_raise_30 (by omega) (by omega) ?_
    refine j_iconst (v := nI 1) d_Powers_raise_31 rfl ?_
    refine j_iandN d_Powers_raise_32 ?_
    refine j_top (w := jbo ((k).testBit b)) (ni_bit _ _) ?_
    refine j_iconst (v := nI 1) d_Powers_raise_33 rfl ?_
    refine j_icmp_neB (tgt := 45) d_Powers_raise_34 (by decide) (fun c => ?_) (fun c => ?_)
    · refine j_aload_n d_Powers_raise_45 rfl ?_
      refine j_getr (b := 49) d_Powers_raise_46 jf_Powers_16 rfl rfl rfl (by decide) ?_
      refine j_aload_n d_Powers_raise_49 rfl ?_
      refine j_getr (b := 47) d_Powers_raise_50 jf_Powers_10 rfl rfl rfl (by decide) ?_
      refine j_callVn (As := [.ref 47]) (st := []) (x_become isT_49 isT_47 (by decide) hr5 (tw_wq hT b)) d_Powers_raise_53 (by decide) jm_Table_become jk_Powers_27 ji_Table_become js_Table_become rfl (by decide) rfl rfl (Nat.le_of_ble_eq_true rfl) rfl ?_
      refine j_aload_n d_Powers_raise_56 rfl ?_
      refine j_getr (b := 47) d_Powers_raise_57 jf_Powers_10 rfl rfl rfl (by decide) ?_
      refine j_aload_n d_Powers_raise_60 rfl ?_
      refine j_getr (b := 49) d_Powers_raise_61 jf_Powers_16 rfl rfl rfl (by decide) ?_
      refine j_callVn (As := [.ref 49]) (st := []) (x_multiplyBy isT_47 isT_49 (by decide) (rep_o isT_49 isT_47 (by decide) hr5) (tw_wq hT b) rep_sT (tw_wq hT b) rfl) d_Powers_raise_64 (by decide) jm_Table_multiplyBy jk_Powers_31 ji_Table_multiplyBy js_Table_multiplyBy rfl (by decide) rfl rfl (Nat.le_of_ble_eq_true rfl) rfl ?_
      refine j_iincN (x := b) (L' := [some (.ref 46), some (.ref o), some (.int (nI k)), some (.ref r), some (.int (nI (b + 1)))]) d_Powers_raise_67 rfl (by decide) rfl rfl ?_
      refine j_goto (tgt := 20) d_Powers_raise_70 (by decide) ?_
      have hz : rsH h r k T (b + 1) = sT (sT (rsH h r k T b) 49 (wq T b)) 47 (wq T (b + 1)) := congrArg (fun z => sT (sT z 49 (wq T b)) 47 (wq T (b + 1))) (if_neg (by rw [c]; decide))
      rw [hz] at ih
      exact ih
    · refine j_aload_n d_Powers_raise_37 rfl ?_
      refine j_aload_n d_Powers_raise_38 rfl ?_
      refine j_getr (b := 47) d_Powers_raise_39 jf_Powers_10 rfl rfl rfl (by decide) ?_
      refine j_callVn (As := [.ref 47]) (st := []) (x_multiplyBy hr isT_47 (by omega) hr4 (tw_rq hT b) hr5 (tw_wq hT b) ((rq_n T k b).trans (wq_n T b).symm)) d_Powers_raise_42 (by decide) jm_Table_multiplyBy jk_Powers_31 ji_Table_multiplyBy js_Table_multiplyBy hr.1 (by decide) rfl rfl (Nat.le_of_ble_eq_true rfl) rfl ?_
      refine j_aload_n d_Powers_raise_45 rfl ?_
      refine j_getr (b := 49) d_Powers_raise_46 jf_Powers_16 rfl rfl rfl (by decide) ?_
      refine j_aload_n d_Powers_raise_49 rfl ?_
      refine j_getr (b := 47) d_Powers_raise_50 jf_Powers_10 rfl rfl rfl (by decide) ?_
      refine j_callVn (As := [.ref 47]) (st := []) (x_become isT_49 isT_47 (by decide) (rep_o hr isT_47 (by omega) hr5) (tw_wq hT b)) d_Powers_raise_53 (by decide) jm_Table_become jk_Powers_27 ji_Table_become js_Table_become rfl (by decide) rfl rfl (Nat.le_of_ble_eq_true rfl) rfl ?_
      refine j_aload_n d_Powers_raise_56 rfl ?_
      refine j_getr (b := 47) d_Powers_raise_57 jf_Powers_10 rfl rfl rfl (by decide) ?_
      refine j_aload_n d_Powers_raise_60 rfl ?_
      refine j_getr (b := 49) d_Powers_raise_61 jf_Powers_16 rfl rfl rfl (by decide) ?_
      refine j_callVn (As := [.ref 49]) (st := []) (x_multiplyBy isT_47 isT_49 (by decide) (rep_o isT_49 isT_47 (by decide) (rep_o hr isT_47 (by omega) hr5)) (tw_wq hT b) rep_sT (tw_wq hT b) rfl) d_Powers_raise_64 (by decide) jm_Table_multiplyBy jk_Powers_31 ji_Table_multiplyBy js_Table_multiplyBy rfl (by decide) rfl rfl (Nat.le_of_ble_eq_true rfl) rfl ?_
      refine j_iincN (x := b) (L' := [some (.ref 46), some (.ref o), some (.int (nI k)), some (.ref r), some (.int (nI (b + 1)))]) d_Powers_raise_67 rfl (by decide) rfl rfl ?_
      refine j_goto (tgt := 20) d_Powers_raise_70 (by decide) ?_
      have hz : rsH h r k T (b + 1) = sT (sT (sT (rsH h r k T b) r (tmul (rq T k b) (wq T b))) 49 (wq T b)) 47 (wq T (b + 1)) := congrArg (fun z => sT (sT z 49 (wq T b)) 47 (wq T (b + 1))) (if_pos c)
      rw [hz] at ih
      exact ih
theorem x_raise2 {n : jN} {h : jH} {o : Nat} (ho : isT o) {r : Nat} (hr : isT r) {T : jT} {k : Nat} (hro : rep h o T) (hT : tw T) (h0 : 0 < T.1) (hk : k < 2 ^ 31) (hor : o ≠ r) (ho2 : o + 1 ≠ r) (ho3 : o ≠ r + 1) (hfo : o < 83 ∨ 88 < o) (hfr : r < 83 ∨ 88 < r) : jC n 2 jy_Powers_raise jc_Powers_raise 5 none [.ref 84, .ref o, .int (nI k), .ref r] h none (rcH h r k T 20) := by
  have hn12 := hT.1
  refine jC_of jm_Powers_raise (L := [some (.ref 84), some (.ref o), some (.int (nI k)), some (.ref r), none]) (Nat.le_of_ble_eq_true rfl) rfl trivial ?_
  generalize hres : ((none, rcH h r k T 20) : Option Value × jH) = res
  refine j_aload_n d_Powers_raise_0 rfl ?_
  refine j_aload_n d_Powers_raise_1 rfl ?_
  refine j_getv (v := nI T.1) d_Powers_raise_2 jf_Powers_19 ho.1 rfl hro.1 ?_
  refine j_iconst (v := nI 2) d_Powers_raise_5 rfl ?_
  refine j_callVn (As := [.int (nI T.1), .int (nI 2)]) (st := []) (x_becomePlain hr h0 hn12 (by omega) (by omega)) d_Powers_raise_6 (by decide) jm_Table_becomePlain jk_Powers_23 ji_Table_becomePlain js_Table_becomePlain hr.1 (by decide) rfl rfl (Nat.le_of_ble_eq_true rfl) rfl ?_
  refine j_aload_n d_Powers_raise_9 rfl ?_
  refine j_getr (b := 85) d_Powers_raise_10 jf_Powers_10 rfl rfl rfl (by decide) ?_
  refine j_aload_n d_Powers_raise_13 rfl ?_
  refine j_callVn (As := [.ref o]) (st := []) (x_become isT_1085 ho (by omega) (rep_o hr ho (by omega) hro) hT) d_Powers_raise_14 (by decide) jm_Table_become jk_Powers_27 ji_Table_become js_Table_become rfl (by decide) rfl rfl (Nat.le_of_ble_eq_true rfl) rfl ?_
  refine j_iconst (v := nI 0) d_Powers_raise_17 rfl ?_
  refine j_istore (L' := [some (.ref 84), some (.ref o), some (.int (nI k)), some (.ref r), some (.int (nI 0))]) d_Powers_raise_18 (by decide) rfl rfl ?_
  refine j_loop (P := fun b => jJ n 2 jc_Powers_raise 5 "YesNoPowers$Powers" 20 [some (.ref 84), some (.ref o), some (.int (nI k)), some (.ref r), some (.int (nI b))] [] (rcH h r k T b) res) (m := 20) ?_ (fun b hb ih => ?_)
  · refine j_iload d_Powers_raise_20 rfl ?_
    refine j_bipush (v := nI 20) d_Powers_raise_22 (by decide) ?_
    refine j_icmp_geN_t (tgt := 73) d_Powers_raise_24 (by decide) (by omega) (by omega) (by omega) ?_
    subst hres
    exact j_retv d_Powers_raise_73 rfl
  · have hr3 : rep (rcH h r k T b) o T := rep_of (rcH_f (by omega) (by omega) (by omega) b) (rcH_f (by omega) (by omega) (by omega) b) hro
    have hr4 : rep (rcH h r k T b) r (rq T k b) := rcH_r hr hfr b
    have hr5 : rep (rcH h r k T b) 85 (wq T b) := rcH_w b
    refine j_iload d_Powers_raise_20 rfl ?_
    refine j_bipush (v := nI 20) d_Powers_raise_22 (by decide) ?_
    refine j_icmp_geN_f (tgt := 73) d_Powers_raise_24 (by decide) (by omega) (by omega) (Nat.not_le.mpr hb) ?_
    refine j_iload_n d_Powers_raise_27 rfl ?_
    refine j_iload d_Powers_raise_28 rfl ?_
    refine j_ishrN d_Powers_raise_30 (by omega) (by omega) ?_
    refine j_iconst (v := nI 1) d_Powers_raise_31 rfl ?_
    refine j_iandN d_Powers_raise_32 ?_
    refine j_top (w := jbo ((k).testBit b)) (ni_bit _ _) ?_
    refine j_iconst (v := nI 1) d_Powers_raise_33 rfl ?_
    refine j_icmp_neB (tgt := 45) d_Powers_raise_34 (by decide) (fun c => ?_) (fun c => ?_)
    · refine j_aload_n d_Powers_raise_45 rfl ?_
      refine j_getr (b := 87) d_Powers_raise_46 jf_Powers_16 rfl rfl rfl (by decide) ?_
      refine j_aload_n d_Powers_raise_49 rfl ?_
      refine j_getr (b := 85) d_Powers_raise_50 jf_Powers_10 rfl rfl rfl (by decide) ?_
      refine j_callVn (As := [.ref 85]) (st := []) (x_become isT_1087 isT_1085 (by decide) hr5 (tw_wq hT b)) d_Powers_raise_53 (by decide) jm_Table_become jk_Powers_27 ji_Table_become js_Table_become rfl (by decide) rfl rfl (Nat.le_of_ble_eq_true rfl) rfl ?_
      refine j_aload_n d_Powers_raise_56 rfl ?_
      refine j_getr (b := 85) d_Powers_raise_57 jf_Powers_10 rfl rfl rfl (by decide) ?_
      refine j_aload_n d_Powers_raise_60 rfl ?_
      refine j_getr (b := 87) d_Powers_raise_61 jf_Powers_16 rfl rfl rfl (by decide) ?_
      refine j_callVn (As := [.ref 87]) (st := []) (x_multiplyBy isT_1085 isT_1087 (by decide) (rep_o isT_1087 isT_1085 (by decide) hr5) (tw_wq hT b) rep_sT (tw_wq hT b) rfl) d_Powers_raise_64 (by decide) jm_Table_multiplyBy jk_Powers_31 ji_Table_multiplyBy js_Table_multiplyBy rfl (by decide) rfl rfl (Nat.le_of_ble_eq_true rfl) rfl ?_
      refine j_iincN (x := b) (L' := [some (.ref 84), some (.ref o), some (.int (nI k)), some (.ref r), some (.int (nI (b + 1)))]) d_Powers_raise_67 rfl (by decide) rfl rfl ?_
      refine j_goto (tgt := 20) d_Powers_raise_70 (by decide) ?_
      have hz : rcH h r k T (b + 1) = sT (sT (rcH h r k T b) 87 (wq T b)) 85 (wq T (b + 1)) := congrArg (fun z => sT (sT z 87 (wq T b)) 85 (wq T (b + 1))) (if_neg (by rw [c]; decide))
      rw [hz] at ih
      exact ih
    · refine j_aload_n d_Powers_raise_37 rfl ?_
      refine j_aload_n d_Powers_raise_38 rfl ?_
      refine j_getr (b := 85) d_Powers_raise_39 jf_Powers_10 rfl rfl rfl (by decide) ?_
      refine j_callVn (As := [.ref 85]) (st := []) (x_multiplyBy hr isT_1085 (by omega) hr4 (tw_rq hT b) hr5 (tw_wq hT b) ((rq_n T k b).trans (wq_n T b).symm)) d_Powers_raise_42 (by decide) jm_Table_multiplyBy jk_Powers_31 ji_Table_multiplyBy js_Table_multiplyBy hr.1 (by decide) rfl rfl (Nat.le_of_ble_eq_true rfl) rfl ?_
      refine j_aload_n d_Powers_raise_45 rfl ?_
      refine j_getr (b := 87) d_Powers_raise_46 jf_Powers_16 rfl rfl rfl (by decide) ?_
      refine j_aload_n d_Powers_raise_49 rfl ?_
      refine j_getr (b := 85) d_Powers_raise_50 jf_Powers_10 rfl rfl rfl (by decide) ?_
      refine j_callVn (As := [.ref 85]) (st := []) (x_become isT_1087 isT_1085 (by decide) (rep_o hr isT_1085 (by omega) hr5) (tw_wq hT b)) d_Powers_raise_53 (by decide) jm_Table_become jk_Powers_27 ji_Table_become js_Table_become rfl (by decide) rfl rfl (Nat.le_of_ble_eq_true rfl) rfl ?_
      refine j_aload_n d_Powers_raise_56 rfl ?_
      refine j_getr (b := 85) d_Powers_raise_57 jf_Powers_10 rfl rfl rfl (by decide) ?_
      refine j_aload_n d_Powers_raise_60 rfl ?_
      refine j_getr (b := 87) d_Powers_raise_61 jf_Powers_16 rfl rfl rfl (by decide) ?_
      refine j_callVn (As := [.ref 87]) (st := []) (x_multiplyBy isT_1085 isT_1087 (by decide) (rep_o isT_1087 isT_1085 (by decide) (rep_o hr isT_1085 (by omega) hr5)) (tw_wq hT b) rep_sT (tw_wq hT b) rfl) d_Powers_raise_64 (by decide) jm_Table_multiplyBy jk_Powers_31 ji_Table_multiplyBy js_Table_multiplyBy rfl (by decide) rfl rfl (Nat.le_of_ble_eq_true rfl) rfl ?_
      refine j_iincN (x := b) (L' := [some (.ref 84), some (.ref o), some (.int (nI k)), some (.ref r), some (.int (nI (b + 1)))]) d_Powers_raise_67 rfl (by decide) rfl rfl ?_
      refine j_goto (tgt := 20) d_Powers_raise_70 (by decide) ?_
      have hz : rcH h r k T (b + 1) = sT (sT (sT (rcH h r k T b) r (tmul (rq T k b) (wq T b))) 87 (wq T b)) 85 (wq T (b + 1)) := congrArg (fun z => sT (sT z 87 (wq T b)) 85 (wq T (b + 1))) (if_pos c)
      rw [hz] at ih
      exact ih
def mkd : Nat → Nat
  | 0 => 1
  | j + 1 => if j + 2 = 2 * mkd j then j + 2 else mkd j
theorem mkd_le : ∀ j, 1 ≤ mkd j ∧ mkd j ≤ j + 1
  | 0 => by decide
  | j + 1 => by
    have := mkd_le j
    unfold mkd
    split <;> omega
def fpH (h : jH) (T : jT) : Nat → jH
  | 0 => sT (sT (jup2 h 46 1 (nI 1)) 47 T) 49 T
  | j + 1 => if j + 2 = 2 * mkd j then sT (sT (fpH h T j) 47 (tpo T (j + 1))) 49 (tpo T (j + 1)) else sT (fpH h T j) 47 (tpo T (j + 1))
theorem fpH_f {h : jH} {T : jT} {a : Nat} (h3 : a < 47 ∨ 50 < a) : ∀ j, fpH h T j a = jup2 h 46 1 (nI 1) a
  | 0 => by rw [fpH, sT_f (by omega) (by omega), sT_f (by omega) (by omega)]
  | j + 1 => by
    unfold fpH
    split
    · rw [sT_f (by omega) (by omega), sT_f (by omega) (by omega), fpH_f h3 j]
    · rw [sT_f (by omega) (by omega), fpH_f h3 j]
theorem fpH_w {h : jH} {T : jT} : ∀ j, rep (fpH h T j) 47 (tpo T j)
  | 0 => rep_o isT_49 isT_47 (by decide) rep_sT
  | j + 1 => by
    unfold fpH
    split
    · exact rep_o isT_49 isT_47 (by decide) rep_sT
    · exact rep_sT
theorem fpH_m {h : jH} {T : jT} : ∀ j, rep (fpH h T j) 49 (tpo T (mkd j - 1))
  | 0 => rep_sT
  | j + 1 => by
    by_cases e : j + 2 = 2 * mkd j
    · rw [show fpH h T (j + 1) = sT (sT (fpH h T j) 47 (tpo T (j + 1))) 49 (tpo T (j + 1)) from if_pos e, show mkd (j + 1) = j + 2 from if_pos e]
      exact rep_sT
    · rw [show fpH h T (j + 1) = sT (fpH h T j) 47 (tpo T (j + 1)) from if_neg e, show mkd (j + 1) = mkd j from if_neg e]
      exact rep_o isT_47 isT_49 (by decide) (fpH_m j)
def fpE (h : jH) (T : jT) (j0 p : Nat) : jH := jup2 (sT (fpH h T j0) 47 (tpo T (j0 + 1))) 46 1 (nI p)
theorem x_findPeriod {n : jN} {h : jH} {o : Nat} (ho : isT o) {T : jT} {j0 p : Nat} (hr : rep h o T) (hT : tw T) (hfo : o < 45 ∨ 50 < o) (hj0 : j0 + 2 < 1000) (hl : tlik (tpo T (j0 + 1)) (tpo T (mkd j0 - 1)) = true) (hn : ∀ j, j < j0 → tlik (tpo T (j + 1)) (tpo T (mkd j - 1)) = false) (hp : j0 + 2 - mkd j0 = p) : jC n 2 jy_Powers_findPeriod jc_Powers_findPeriod 4 none [.ref 46, .ref o] h none (fpE h T j0 p) := by
  have hn12 := hT.1
  refine jC_of jm_Powers_findPeriod (L := [some (.ref 46), some (.ref o), none, none]) (Nat.le_of_ble_eq_true rfl) rfl trivial ?_
  generalize hres : ((none, fpE h T j0 p) : Option Value × jH) = res
  refine j_aload_n d_Powers_findPeriod_0 rfl ?_
  refine j_iconst (v := nI 1) d_Powers_findPeriod_1 rfl ?_
  refine j_putv (h' := jup2 h 46 1 (nI 1)) d_Powers_findPeriod_2 jf_Powers_40 rfl rfl rfl ?_
  have hr0 : rep (jup2 h 46 1 (nI 1)) o T := rep_of (jup2_f (by omega)) (jup2_f (by omega)) hr
  refine j_aload_n d_Powers_findPeriod_5 rfl ?_
  refine j_getr (b := 47) d_Powers_findPeriod_6 jf_Powers_10 rfl rfl rfl (by decide) ?_
  refine j_aload_n d_Powers_findPeriod_9 rfl ?_
  refine j_callVn (As := [.ref o]) (st := []) (x_become isT_47 ho (by omega) hr0 hT) d_Powers_findPeriod_10 (by decide) jm_Table_become jk_Powers_27 ji_Table_become js_Table_become rfl (by decide) rfl rfl (Nat.le_of_ble_eq_true rfl) rfl ?_
  refine j_aload_n d_Powers_findPeriod_13 rfl ?_
  refine j_getr (b := 49) d_Powers_findPeriod_14 jf_Powers_16 rfl rfl rfl (by decide) ?_
  refine j_aload_n d_Powers_findPeriod_17 rfl ?_
  refine j_callVn (As := [.ref o]) (st := []) (x_become isT_49 ho (by omega) (rep_o isT_47 ho (by omega) hr0) hT) d_Powers_findPeriod_18 (by decide) jm_Table_become jk_Powers_27 ji_Table_become js_Table_become rfl (by decide) rfl rfl (Nat.le_of_ble_eq_true rfl) rfl ?_
  refine j_iconst (v := nI 1) d_Powers_findPeriod_21 rfl ?_
  refine j_istore_n (L' := [some (.ref 46), some (.ref o), some (.int (nI 1)), none]) d_Powers_findPeriod_22 (by decide) rfl rfl ?_
  refine j_iconst (v := nI 2) d_Powers_findPeriod_23 rfl ?_
  refine j_istore_n (L' := [some (.ref 46), some (.ref o), some (.int (nI 1)), some (.int (nI 2))]) d_Powers_findPeriod_24 (by decide) rfl rfl ?_
  refine j_loop (P := fun j => jJ n 2 jc_Powers_findPeriod 4 "YesNoPowers$Powers" 25 [some (.ref 46), some (.ref o), some (.int (nI (mkd j))), some (.int (nI (j + 2)))] [] (fpH h T j) res) (m := j0) ?_ (fun j hj ih => ?_)
  · have hml := mkd_le j0
    have hr3 : rep (fpH h T j0) o T := rep_of (fpH_f (by omega) j0) (fpH_f (by omega) j0) hr0
    refine j_iload_n d_Powers_findPeriod_25 rfl ?_
    refine j_sipush (v := nI 1000) d_Powers_findPeriod_26 (by decide) ?_
    refine j_icmp_geN_f (tgt := 88) d_Powers_findPeriod_29 (by decide) (by omega) (by omega) (by omega) ?_
    refine j_aload_n d_Powers_findPeriod_32 rfl ?_
    refine j_getr (b := 47) d_Powers_findPeriod_33 jf_Powers_10 rfl rfl rfl (by decide) ?_
    refine j_aload_n d_Powers_findPeriod_36 rfl ?_
    refine j_callVn (As := [.ref o]) (st := []) (x_multiplyBy isT_47 ho (by omega) (fpH_w j0) (tw_po hT _) hr3 hT (tpo_n T j0)) d_Powers_findPeriod_37 (by decide) jm_Table_multiplyBy jk_Powers_31 ji_Table_multiplyBy js_Table_multiplyBy rfl (by decide) rfl rfl (Nat.le_of_ble_eq_true rfl) rfl ?_
    refine j_aload_n d_Powers_findPeriod_40 rfl ?_
    refine j_getr (b := 47) d_Powers_findPeriod_41 jf_Powers_10 rfl rfl rfl (by decide) ?_
    refine j_aload_n d_Powers_findPeriod_44 rfl ?_
    refine j_getr (b := 49) d_Powers_findPeriod_45 jf_Powers_16 rfl rfl rfl (by decide) ?_
    refine j_callVs (As := [.ref 49]) (st := []) (x_isLike isT_47 isT_49 rep_sT (tw_po hT (j0 + 1)) (rep_o isT_47 isT_49 (by decide) (fpH_m j0)) (tw_po hT _)) d_Powers_findPeriod_48 (by decide) jm_Table_isLike jk_Powers_43 ji_Table_isLike js_Table_isLike rfl (by decide) rfl rfl (Nat.le_of_ble_eq_true rfl) rfl ?_
    refine j_if_eqB_f (tgt := 62) d_Powers_findPeriod_51 (by decide) hl ?_
    refine j_aload_n d_Powers_findPeriod_54 rfl ?_
    refine j_iload_n d_Powers_findPeriod_55 rfl ?_
    refine j_iload_n d_Powers_findPeriod_56 rfl ?_
    refine j_isubN d_Powers_findPeriod_57 (by omega) ?_
    refine j_top (w := nI p) (congrArg nI hp) ?_
    refine j_putv (h' := jup2 (sT (fpH h T j0) 47 (tpo T (j0 + 1))) 46 1 (nI p)) d_Powers_findPeriod_58 jf_Powers_40 rfl rfl rfl ?_
    subst hres
    exact j_retv d_Powers_findPeriod_61 rfl
  · have hml := mkd_le j
    have hr3 : rep (fpH h T j) o T := rep_of (fpH_f (by omega) j) (fpH_f (by omega) j) hr0
    refine j_iload_n d_Powers_findPeriod_25 rfl ?_
    refine j_sipush (v := nI 1000) d_Powers_findPeriod_26 (by decide) ?_
    refine j_icmp_geN_f (tgt := 88) d_Powers_findPeriod_29 (by decide) (by omega) (by omega) (by omega) ?_
    refine j_aload_n d_Powers_findPeriod_32 rfl ?_
    refine j_getr (b := 47) d_Powers_findPeriod_33 jf_Powers_10 rfl rfl rfl (by decide) ?_
    refine j_aload_n d_Powers_findPeriod_36 rfl ?_
    refine j_callVn (As := [.ref o]) (st := []) (x_multiplyBy isT_47 ho (by omega) (fpH_w j) (tw_po hT _) hr3 hT (tpo_n T j)) d_Powers_findPeriod_37 (by decide) jm_Table_multiplyBy jk_Powers_31 ji_Table_multiplyBy js_Table_multiplyBy rfl (by decide) rfl rfl (Nat.le_of_ble_eq_true rfl) rfl ?_
    refine j_aload_n d_Powers_findPeriod_40 rfl ?_
    refine j_getr (b := 47) d_Powers_findPeriod_41 jf_Powers_10 rfl rfl rfl (by decide) ?_
    refine j_aload_n d_Powers_findPeriod_44 rfl ?_
    refine j_getr (b := 49) d_Powers_findPeriod_45 jf_Powers_16 rfl rfl rfl (by decide) ?_
    refine j_callVs (As := [.ref 49]) (st := []) (x_isLike isT_47 isT_49 rep_sT (tw_po hT (j + 1)) (rep_o isT_47 isT_49 (by decide) (fpH_m j)) (tw_po hT _)) d_Powers_findPeriod_48 (by decide) jm_Table_isLike jk_Powers_43 ji_Table_isLike js_Table_isLike rfl (by decide) rfl rfl (Nat.le_of_ble_eq_true rfl) rfl ?_
    refine j_if_eqB_t (tgt := 62) d_Powers_findPeriod_51 (by decide) (hn j hj) ?_
    refine j_iload_n d_Powers_findPeriod_62 rfl ?_
    refine j_iconst (v := nI 2) d_Powers_findPeriod_63 rfl ?_
    refine j_iload_n d_Powers_findPeriod_64 rfl ?_
    refine j_imulN d_Powers_findPeriod_65 ?_
    refine j_icmp_neN (tgt := 82) d_Powers_findPeriod_66 (by decide) (by omega) (by omega) (fun c => ?_) (fun c => ?_)
    · have hm : mkd (j + 1) = mkd j := if_neg c
      refine j_iincN (x := j + 2) (L' := [some (.ref 46), some (.ref o), some (.int (nI (mkd j))), some (.int (nI ((j + 2) + 1)))]) d_Powers_findPeriod_82 rfl (by decide) rfl rfl ?_
      refine j_goto (tgt := 25) d_Powers_findPeriod_85 (by decide) ?_
      have hz : fpH h T (j + 1) = sT (fpH h T j) 47 (tpo T (j + 1)) := if_neg c
      rw [hz, hm] at ih
      exact ih
    · have hm : mkd (j + 1) = j + 2 := if_pos c
      refine j_aload_n d_Powers_findPeriod_69 rfl ?_
      refine j_getr (b := 49) d_Powers_findPeriod_70 jf_Powers_16 rfl rfl rfl (by decide) ?_
      refine j_aload_n d_Powers_findPeriod_73 rfl ?_
      refine j_getr (b := 47) d_Powers_findPeriod_74 jf_Powers_10 rfl rfl rfl (by decide) ?_
      refine j_callVn (As := [.ref 47]) (st := []) (x_become isT_49 isT_47 (by decide) rep_sT (tw_po hT (j + 1))) d_Powers_findPeriod_77 (by decide) jm_Table_become jk_Powers_27 ji_Table_become js_Table_become rfl (by decide) rfl rfl (Nat.le_of_ble_eq_true rfl) rfl ?_
      refine j_iload_n d_Powers_findPeriod_80 rfl ?_
      refine j_istore_n (L' := [some (.ref 46), some (.ref o), some (.int (nI (j + 2))), some (.int (nI (j + 2)))]) d_Powers_findPeriod_81 (by decide) rfl rfl ?_
      refine j_iincN (x := j + 2) (L' := [some (.ref 46), some (.ref o), some (.int (nI (j + 2))), some (.int (nI ((j + 2) + 1)))]) d_Powers_findPeriod_82 rfl (by decide) rfl rfl ?_
      refine j_goto (tgt := 25) d_Powers_findPeriod_85 (by decide) ?_
      have hz : fpH h T (j + 1) = sT (sT (fpH h T j) 47 (tpo T (j + 1))) 49 (tpo T (j + 1)) := if_pos c
      rw [hz, hm] at ih
      exact ih
def fiA (h : jH) (T : jT) : Nat → jH
  | 0 => sT (sT (jup2 h 46 0 (nI 1)) 47 T) 49 T
  | k + 1 => sT (fiA h T k) 47 (tpo T (k + 1))
theorem fiA_f {h : jH} {T : jT} {a : Nat} (h3 : a < 47 ∨ 50 < a) : ∀ j, fiA h T j a = jup2 h 46 0 (nI 1) a
  | 0 => by rw [fiA, sT_f (by omega) (by omega), sT_f (by omega) (by omega)]
  | j + 1 => by rw [fiA, sT_f (by omega) (by omega), fiA_f h3 j]
theorem fiA_w {h : jH} {T : jT} : ∀ j, rep (fiA h T j) 47 (tpo T j)
  | 0 => rep_o isT_49 isT_47 (by decide) rep_sT
  | j + 1 => rep_sT
theorem fiA_m {h : jH} {T : jT} : ∀ j, rep (fiA h T j) 49 T
  | 0 => rep_sT
  | j + 1 => rep_o isT_47 isT_49 (by decide) (fiA_m j)
def fiB (h : jH) (T : jT) (p : Nat) : Nat → jH
  | 0 => fiA h T p
  | j + 1 => sT (sT (fiB h T p j) 47 (tpo T (p + j + 1))) 49 (tpo T (j + 1))
theorem fiB_f {h : jH} {T : jT} {a p : Nat} (h3 : a < 47 ∨ 50 < a) : ∀ j, fiB h T p j a = jup2 h 46 0 (nI 1) a
  | 0 => fiA_f h3 p
  | j + 1 => by rw [fiB, sT_f (by omega) (by omega), sT_f (by omega) (by omega), fiB_f h3 j]
theorem fiB_w {h : jH} {T : jT} {p : Nat} : ∀ j, rep (fiB h T p j) 47 (tpo T (p + j))
  | 0 => fiA_w p
  | j + 1 => rep_o isT_49 isT_47 (by decide) rep_sT
theorem fiB_m {h : jH} {T : jT} {p : Nat} : ∀ j, rep (fiB h T p j) 49 (tpo T j)
  | 0 => fiA_m p
  | j + 1 => rep_sT
def fiE (h : jH) (T : jT) (p i0 : Nat) : jH := jup2 (fiB h T p i0) 46 0 (nI (i0 + 1))
theorem x_findIndex {n : jN} {h : jH} {o : Nat} (ho : isT o) {T : jT} {p i0 : Nat} (hr : rep h o T) (hT : tw T) (hfo : o < 45 ∨ 50 < o) (hp1 : h 46 1 = nI p) (hp2 : p ≤ 1000) (hi0 : i0 + 1 < 1000) (hl : tlik (tpo T (p + i0)) (tpo T i0) = true) (hn : ∀ j, j < i0 → tlik (tpo T (p + j)) (tpo T j) = false) : jC n 2 jy_Powers_findIndex jc_Powers_findIndex 3 none [.ref 46, .ref o] h none (fiE h T p i0) := by
  have hn12 := hT.1
  refine jC_of jm_Powers_findIndex (L := [some (.ref 46), some (.ref o), none]) (Nat.le_of_ble_eq_true rfl) rfl trivial ?_
  generalize hres : ((none, fiE h T p i0) : Option Value × jH) = res
  refine j_aload_n d_Powers_findIndex_0 rfl ?_
  refine j_iconst (v := nI 1) d_Powers_findIndex_1 rfl ?_
  refine j_putv (h' := jup2 h 46 0 (nI 1)) d_Powers_findIndex_2 jf_Powers_47 rfl rfl rfl ?_
  have hr0 : rep (jup2 h 46 0 (nI 1)) o T := rep_of (jup2_f (by omega)) (jup2_f (by omega)) hr
  refine j_aload_n d_Powers_findIndex_5 rfl ?_
  refine j_getr (b := 47) d_Powers_findIndex_6 jf_Powers_10 rfl rfl rfl (by decide) ?_
  refine j_aload_n d_Powers_findIndex_9 rfl ?_
  refine j_callVn (As := [.ref o]) (st := []) (x_become isT_47 ho (by omega) hr0 hT) d_Powers_findIndex_10 (by decide) jm_Table_become jk_Powers_27 ji_Table_become js_Table_become rfl (by decide) rfl rfl (Nat.le_of_ble_eq_true rfl) rfl ?_
  refine j_aload_n d_Powers_findIndex_13 rfl ?_
  refine j_getr (b := 49) d_Powers_findIndex_14 jf_Powers_16 rfl rfl rfl (by decide) ?_
  refine j_aload_n d_Powers_findIndex_17 rfl ?_
  refine j_callVn (As := [.ref o]) (st := []) (x_become isT_49 ho (by omega) (rep_o isT_47 ho (by omega) hr0) hT) d_Powers_findIndex_18 (by decide) jm_Table_become jk_Powers_27 ji_Table_become js_Table_become rfl (by decide) rfl rfl (Nat.le_of_ble_eq_true rfl) rfl ?_
  refine j_iconst (v := nI 0) d_Powers_findIndex_21 rfl ?_
  refine j_istore_n (L' := [some (.ref 46), some (.ref o), some (.int (nI 0))]) d_Powers_findIndex_22 (by decide) rfl rfl ?_
  refine j_loop (P := fun k => jJ n 2 jc_Powers_findIndex 3 "YesNoPowers$Powers" 23 [some (.ref 46), some (.ref o), some (.int (nI k))] [] (fiA h T k) res) (m := p) ?_ (fun k hk ih => ?_)
  · have hr3 : rep (fiA h T p) o T := rep_of (fiA_f (by omega) p) (fiA_f (by omega) p) hr0
    have hp3 : fiA h T p 46 1 = nI p := (congrFun (fiA_f (by omega) p) 1).trans (show jup2 h 46 0 (nI 1) 46 1 = nI p by simp [jup2, hp1])
    refine j_iload_n d_Powers_findIndex_23 rfl ?_
    refine j_aload_n d_Powers_findIndex_24 rfl ?_
    refine j_getv (v := nI p) d_Powers_findIndex_25 jf_Powers_40 rfl rfl hp3 ?_
    refine j_icmp_geN_t (tgt := 45) d_Powers_findIndex_28 (by decide) (by omega) (by omega) (Nat.le_refl _) ?_
    refine j_iconst (v := nI 1) d_Powers_findIndex_45 rfl ?_
    refine j_istore_n (L' := [some (.ref 46), some (.ref o), some (.int (nI 1))]) d_Powers_findIndex_46 (by decide) rfl rfl ?_
    refine j_loop (P := fun j => jJ n 2 jc_Powers_findIndex 3 "YesNoPowers$Powers" 47 [some (.ref 46), some (.ref o), some (.int (nI (j + 1)))] [] (fiB h T p j) res) (m := i0) ?_ (fun j hj ihj => ?_)
    · have hr4 : rep (fiB h T p i0) o T := rep_of (fiB_f (by omega) i0) (fiB_f (by omega) i0) hr0
      refine j_iload_n d_Powers_findIndex_47 rfl ?_
      refine j_sipush (v := nI 1000) d_Powers_findIndex_48 (by decide) ?_
      refine j_icmp_geN_f (tgt := 96) d_Powers_findIndex_51 (by decide) (by omega) (by omega) (by omega) ?_
      refine j_aload_n d_Powers_findIndex_54 rfl ?_
      refine j_getr (b := 47) d_Powers_findIndex_55 jf_Powers_10 rfl rfl rfl (by decide) ?_
      refine j_aload_n d_Powers_findIndex_58 rfl ?_
      refine j_getr (b := 49) d_Powers_findIndex_59 jf_Powers_16 rfl rfl rfl (by decide) ?_
      refine j_callVs (As := [.ref 49]) (st := []) (x_isLike isT_47 isT_49 (fiB_w i0) (tw_po hT _) (fiB_m i0) (tw_po hT _)) d_Powers_findIndex_62 (by decide) jm_Table_isLike jk_Powers_43 ji_Table_isLike js_Table_isLike rfl (by decide) rfl rfl (Nat.le_of_ble_eq_true rfl) rfl ?_
      refine j_if_eqB_f (tgt := 74) d_Powers_findIndex_65 (by decide) hl ?_
      refine j_aload_n d_Powers_findIndex_68 rfl ?_
      refine j_iload_n d_Powers_findIndex_69 rfl ?_
      refine j_putv (h' := jup2 (fiB h T p i0) 46 0 (nI (i0 + 1))) d_Powers_findIndex_70 jf_Powers_47 rfl rfl rfl ?_
      subst hres
      exact j_retv d_Powers_findIndex_73 rfl
    · have hr4 : rep (fiB h T p j) o T := rep_of (fiB_f (by omega) j) (fiB_f (by omega) j) hr0
      refine j_iload_n d_Powers_findIndex_47 rfl ?_
      refine j_sipush (v := nI 1000) d_Powers_findIndex_48 (by decide) ?_
      refine j_icmp_geN_f (tgt := 96) d_Powers_findIndex_51 (by decide) (by omega) (by omega) (by omega) ?_
      refine j_aload_n d_Powers_findIndex_54 rfl ?_
      refine j_getr (b := 47) d_Powers_findIndex_55 jf_Powers_10 rfl rfl rfl (by decide) ?_
      refine j_aload_n d_Powers_findIndex_58 rfl ?_
      refine j_getr (b := 49) d_Powers_findIndex_59 jf_Powers_16 rfl rfl rfl (by decide) ?_
      refine j_callVs (As := [.ref 49]) (st := []) (x_isLike isT_47 isT_49 (fiB_w j) (tw_po hT _) (fiB_m j) (tw_po hT _)) d_Powers_findIndex_62 (by decide) jm_Table_isLike jk_Powers_43 ji_Table_isLike js_Table_isLike rfl (by decide) rfl rfl (Nat.le_of_ble_eq_true rfl) rfl ?_
      refine j_if_eqB_t (tgt := 74) d_Powers_findIndex_65 (by decide) (hn j hj) ?_
      refine j_aload_n d_Powers_findIndex_74 rfl ?_
      refine j_getr (b := 47) d_Powers_findIndex_75 jf_Powers_10 rfl rfl rfl (by decide) ?_
      refine j_aload_n d_Powers_findIndex_78 rfl ?_
      refine j_callVn (As := [.ref o]) (st := []) (x_multiplyBy isT_47 ho (by omega) (fiB_w j) (tw_po hT _) hr4 hT (tpo_n T _)) d_Powers_findIndex_79 (by decide) jm_Table_multiplyBy jk_Powers_31 ji_Table_multiplyBy js_Table_multiplyBy rfl (by decide) rfl rfl (Nat.le_of_ble_eq_true rfl) rfl ?_
      refine j_aload_n d_Powers_findIndex_82 rfl ?_
      refine j_getr (b := 49) d_Powers_findIndex_83 jf_Powers_16 rfl rfl rfl (by decide) ?_
      refine j_aload_n d_Powers_findIndex_86 rfl ?_
      refine j_callVn (As := [.ref o]) (st := []) (x_multiplyBy isT_49 ho (by omega) (rep_o isT_47 isT_49 (by decide) (fiB_m j)) (tw_po hT _) (rep_o isT_47 ho (by omega) hr4) hT (tpo_n T _)) d_Powers_findIndex_87 (by decide) jm_Table_multiplyBy jk_Powers_31 ji_Table_multiplyBy js_Table_multiplyBy rfl (by decide) rfl rfl (Nat.le_of_ble_eq_true rfl) rfl ?_
      refine j_iincN (x := j + 1) (L' := [some (.ref 46), some (.ref o), some (.int (nI ((j + 1) + 1)))]) d_Powers_findIndex_90 rfl (by decide) rfl rfl ?_
      refine j_goto (tgt := 47) d_Powers_findIndex_93 (by decide) ?_
      exact ihj
  · have hr3 : rep (fiA h T k) o T := rep_of (fiA_f (by omega) k) (fiA_f (by omega) k) hr0
    have hp3 : fiA h T k 46 1 = nI p := (congrFun (fiA_f (by omega) k) 1).trans (show jup2 h 46 0 (nI 1) 46 1 = nI p by simp [jup2, hp1])
    refine j_iload_n d_Powers_findIndex_23 rfl ?_
    refine j_aload_n d_Powers_findIndex_24 rfl ?_
    refine j_getv (v := nI p) d_Powers_findIndex_25 jf_Powers_40 rfl rfl hp3 ?_
    refine j_icmp_geN_f (tgt := 45) d_Powers_findIndex_28 (by decide) (by omega) (by omega) (Nat.not_le.mpr hk) ?_
    refine j_aload_n d_Powers_findIndex_31 rfl ?_
    refine j_getr (b := 47) d_Powers_findIndex_32 jf_Powers_10 rfl rfl rfl (by decide) ?_
    refine j_aload_n d_Powers_findIndex_35 rfl ?_
    refine j_callVn (As := [.ref o]) (st := []) (x_multiplyBy isT_47 ho (by omega) (fiA_w k) (tw_po hT _) hr3 hT (tpo_n T k)) d_Powers_findIndex_36 (by decide) jm_Table_multiplyBy jk_Powers_31 ji_Table_multiplyBy js_Table_multiplyBy rfl (by decide) rfl rfl (Nat.le_of_ble_eq_true rfl) rfl ?_
    refine j_iincN (x := k) (L' := [some (.ref 46), some (.ref o), some (.int (nI (k + 1)))]) d_Powers_findIndex_39 rfl (by decide) rfl rfl ?_
    refine j_goto (tgt := 23) d_Powers_findIndex_42 (by decide) ?_
    exact ih
def fcH (h : jH) (T : jT) (j0 p i0 : Nat) : jH := fiE (fpE h T j0 p) T p i0
theorem fpE_f {h : jH} {T : jT} {a j0 p : Nat} (h3 : a < 46 ∨ 50 < a) : fpE h T j0 p a = h a := by
  rw [fpE, jup2_f (by omega), sT_f (by omega) (by omega), fpH_f (by omega), jup2_f (by omega)]
theorem fcH_f {h : jH} {T : jT} {a j0 p i0 : Nat} (h3 : a < 46 ∨ 50 < a) : fcH h T j0 p i0 a = h a := by
  rw [fcH, fiE, jup2_f (by omega), fiB_f (by omega), jup2_f (by omega), fpE_f h3]
theorem fcH_i {h : jH} {T : jT} {j0 p i0 : Nat} : fcH h T j0 p i0 46 0 = nI (i0 + 1) := by simp [fcH, fiE, jup2]
theorem fcH_p {h : jH} {T : jT} {j0 p i0 : Nat} : fcH h T j0 p i0 46 1 = nI p := by
  have h1 : fiB (fpE h T j0 p) T p i0 46 1 = jup2 (fpE h T j0 p) 46 0 (nI 1) 46 1 := congrFun (fiB_f (by omega) i0) 1
  have h2 : jup2 (fpE h T j0 p) 46 0 (nI 1) 46 1 = nI p := by simp [fpE, jup2]
  simp only [fcH, fiE, jup2]
  rw [if_pos trivial, if_neg (by decide)]
  exact h1.trans h2
theorem x_findCycle {n : jN} {h : jH} {o : Nat} (ho : isT o) {T : jT} {j0 p i0 : Nat} (hr : rep h o T) (hT : tw T) (hfo : o < 45 ∨ 50 < o) (hj0 : j0 + 2 < 1000) (hl : tlik (tpo T (j0 + 1)) (tpo T (mkd j0 - 1)) = true) (hn : ∀ j, j < j0 → tlik (tpo T (j + 1)) (tpo T (mkd j - 1)) = false) (hp : j0 + 2 - mkd j0 = p) (hi0 : i0 + 1 < 1000) (hl2 : tlik (tpo T (p + i0)) (tpo T i0) = true) (hn2 : ∀ j, j < i0 → tlik (tpo T (p + j)) (tpo T j) = false) : jC n 3 jy_Powers_findCycle jc_Powers_findCycle 2 none [.ref 46, .ref o] h none (fcH h T j0 p i0) := by
  have hml := mkd_le j0
  refine jC_of jm_Powers_findCycle (L := [some (.ref 46), some (.ref o)]) (Nat.le_of_ble_eq_true rfl) rfl trivial ?_
  generalize hres : ((none, fcH h T j0 p i0) : Option Value × jH) = res
  have hr1 : rep (fpE h T j0 p) o T := rep_of (fpE_f (by omega)) (fpE_f (by omega)) hr
  have hp1 : fpE h T j0 p 46 1 = nI p := by simp [fpE, jup2]
  refine j_aload_n d_Powers_findCycle_0 rfl ?_
  refine j_aload_n d_Powers_findCycle_1 rfl ?_
  refine j_callVn (As := [.ref o]) (st := []) (x_findPeriod ho hr hT hfo hj0 hl hn hp) d_Powers_findCycle_2 (by decide) jm_Powers_findPeriod jk_Powers_34 ji_Powers_findPeriod js_Powers_findPeriod rfl (by decide) rfl rfl (Nat.le_of_ble_eq_true rfl) rfl ?_
  refine j_aload_n d_Powers_findCycle_5 rfl ?_
  refine j_aload_n d_Powers_findCycle_6 rfl ?_
  refine j_callVn (As := [.ref o]) (st := []) (x_findIndex ho hr1 hT hfo hp1 (by omega) hi0 hl2 hn2) d_Powers_findCycle_7 (by decide) jm_Powers_findIndex jk_Powers_37 ji_Powers_findIndex js_Powers_findIndex rfl (by decide) rfl rfl (Nat.le_of_ble_eq_true rfl) rfl ?_
  subst hres
  exact j_retv d_Powers_findCycle_10 rfl
theorem x_idempotent {n : jN} {h : jH} {ix p q : Nat} (hix : h 46 0 = nI ix) (hp1 : h 46 1 = nI p) (hp2 : p ≤ 1000) (hi2 : ix ≤ 1000) (hq : q < 1000) (h1 : ∀ j, j < q → p + p * j < ix) (h2 : ix ≤ p + p * q) : jC n 0 jy_Powers_idempotent jc_Powers_idempotent 3 (some .int) [.ref 46] h (some (.int (nI (p + p * q)))) h := by
  refine jC_of jm_Powers_idempotent (L := [some (.ref 46), none, none]) (Nat.le_of_ble_eq_true rfl) rfl trivial ?_
  generalize hres : (((some (.int (nI (p + p * q)))), h) : Option Value × jH) = res
  have hpq : ∀ j, j ≤ q → p * j ≤ 1000 * 1000 := fun j hj => Nat.mul_le_mul (by omega) (by omega)
  refine j_aload_n d_Powers_idempotent_0 rfl ?_
  refine j_getv (v := nI p) d_Powers_idempotent_1 jf_Powers_40 rfl rfl hp1 ?_
  refine j_istore_n (L' := [some (.ref 46), some (.int (nI p)), none]) d_Powers_idempotent_4 (by decide) rfl rfl ?_
  refine j_iconst (v := nI 0) d_Powers_idempotent_5 rfl ?_
  refine j_istore_n (L' := [some (.ref 46), some (.int (nI p)), some (.int (nI 0))]) d_Powers_idempotent_6 (by decide) rfl rfl ?_
  refine j_loop (P := fun j => jJ n 0 jc_Powers_idempotent 3 "YesNoPowers$Powers" 7 [some (.ref 46), some (.int (nI (p + p * j))), some (.int (nI j))] [] h res) (m := q) ?_ (fun j hj ih => ?_)
  · have hq5 := hpq q (Nat.le_refl _)
    refine j_iload_n d_Powers_idempotent_7 rfl ?_
    refine j_sipush (v := nI 1000) d_Powers_idempotent_8 (by decide) ?_
    refine j_icmp_geN_f (tgt := 35) d_Powers_idempotent_11 (by decide) (by omega) (by omega) (by omega) ?_
    refine j_iload_n d_Powers_idempotent_14 rfl ?_
    refine j_aload_n d_Powers_idempotent_15 rfl ?_
    refine j_getv (v := nI ix) d_Powers_idempotent_16 jf_Powers_47 rfl rfl hix ?_
    refine j_icmp_geN_t (tgt := 35) d_Powers_idempotent_19 (by decide) (by omega) (by omega) (by omega) ?_
    refine j_iload_n d_Powers_idempotent_35 rfl ?_
    subst hres
    exact j_reti d_Powers_idempotent_36 rfl rfl
  · have hq5 := hpq j (by omega)
    have hj5 := h1 j hj
    refine j_iload_n d_Powers_idempotent_7 rfl ?_
    refine j_sipush (v := nI 1000) d_Powers_idempotent_8 (by decide) ?_
    refine j_icmp_geN_f (tgt := 35) d_Powers_idempotent_11 (by decide) (by omega) (by omega) (by omega) ?_
    refine j_iload_n d_Powers_idempotent_14 rfl ?_
    refine j_aload_n d_Powers_idempotent_15 rfl ?_
    refine j_getv (v := nI ix) d_Powers_idempotent_16 jf_Powers_47 rfl rfl hix ?_
    refine j_icmp_geN_f (tgt := 35) d_Powers_idempotent_19 (by decide) (by omega) (by omega) (by omega) ?_
    refine j_iload_n d_Powers_idempotent_22 rfl ?_
    refine j_aload_n d_Powers_idempotent_23 rfl ?_
    refine j_getv (v := nI p) d_Powers_idempotent_24 jf_Powers_40 rfl rfl hp1 ?_
    refine j_iaddN d_Powers_idempotent_27 ?_
    refine j_top (w := nI (p + p * (j + 1))) (congrArg nI (by rw [Nat.mul_succ, Nat.add_assoc])) ?_
    refine j_istore_n (L' := [some (.ref 46), some (.int (nI (p + p * (j + 1)))), some (.int (nI j))]) d_Powers_idempotent_28 (by decide) rfl rfl ?_
    refine j_iincN (x := j) (L' := [some (.ref 46), some (.int (nI (p + p * (j + 1)))), some (.int (nI (j + 1)))]) d_Powers_idempotent_29 rfl (by decide) rfl rfl ?_
    refine j_goto (tgt := 7) d_Powers_idempotent_32 (by decide) ?_
    exact ih
def exH (h : jH) (T : jT) : Nat → jH
  | 0 => sT h 47 T
  | j + 1 => sT (exH h T j) 47 (tpo T (j + 1))
theorem exH_f {h : jH} {T : jT} {a : Nat} (h3 : a < 47 ∨ 48 < a) : ∀ j, exH h T j a = h a
  | 0 => by rw [exH, sT_f (by omega) (by omega)]
  | j + 1 => by rw [exH, sT_f (by omega) (by omega), exH_f h3 j]
theorem exH_w {h : jH} {T : jT} : ∀ j, rep (exH h T j) 47 (tpo T j)
  | 0 => rep_sT
  | j + 1 => rep_sT
theorem x_exponent_some {n : jN} {h : jH} {o : Nat} (ho : isT o) {T : jT} (hr : rep h o T) (hT : tw T) (h0 : 0 < T.1) (hfo : o < 45 ∨ 50 < o) {e : Nat} (he1 : e < (T.1 - 1) * (T.1 - 1) + 1) (he2 : tful (tpo T e) (tpo T e).1 (tpo T e).1 = true) (hn : ∀ j, j < e → tful (tpo T j) (tpo T j).1 (tpo T j).1 = false) : jC n 2 jy_Powers_exponent jc_Powers_exponent 4 (some .int) [.ref 46, .ref o] h (some (.int (nI (e + 1)))) (exH h T e) := by
  have hn12 := hT.1
  refine jC_of jm_Powers_exponent (L := [some (.ref 46), some (.ref o), none, none]) (Nat.le_of_ble_eq_true rfl) rfl trivial ?_
  generalize hres : (((some (.int (nI (e + 1)))), exH h T e) : Option Value × jH) = res
  have hsq : (T.1 - 1) * (T.1 - 1) ≤ 11 * 11 := Nat.mul_le_mul (by omega) (by omega)
  refine j_aload_n d_Powers_exponent_0 rfl ?_
  refine j_getr (b := 47) d_Powers_exponent_1 jf_Powers_10 rfl rfl rfl (by decide) ?_
  refine j_aload_n d_Powers_exponent_4 rfl ?_
  refine j_callVn (As := [.ref o]) (st := []) (x_become isT_47 ho (by omega) hr hT) d_Powers_exponent_5 (by decide) jm_Table_become jk_Powers_27 ji_Table_become js_Table_become rfl (by decide) rfl rfl (Nat.le_of_ble_eq_true rfl) rfl ?_
  refine j_aload_n d_Powers_exponent_8 rfl ?_
  refine j_getv (v := nI T.1) d_Powers_exponent_9 jf_Powers_19 ho.1 rfl (rep_o isT_47 ho (by omega) hr).1 ?_
  refine j_iconst (v := nI 1) d_Powers_exponent_12 rfl ?_
  refine j_isubN d_Powers_exponent_13 (by omega) ?_
  refine j_aload_n d_Powers_exponent_14 rfl ?_
  refine j_getv (v := nI T.1) d_Powers_exponent_15 jf_Powers_19 ho.1 rfl (rep_o isT_47 ho (by omega) hr).1 ?_
  refine j_iconst (v := nI 1) d_Powers_exponent_18 rfl ?_
  refine j_isubN d_Powers_exponent_19 (by omega) ?_
  refine j_imulN d_Powers_exponent_20 ?_
  refine j_iconst (v := nI 1) d_Powers_exponent_21 rfl ?_
  refine j_iaddN d_Powers_exponent_22 ?_
  refine j_istore_n (L' := [some (.ref 46), some (.ref o), some (.int (nI (((T.1 - 1) * (T.1 - 1)) + 1))), none]) d_Powers_exponent_23 (by decide) rfl rfl ?_
  refine j_iconst (v := nI 1) d_Powers_exponent_24 rfl ?_
  refine j_istore_n (L' := [some (.ref 46), some (.ref o), some (.int (nI (((T.1 - 1) * (T.1 - 1)) + 1))), some (.int (nI 1))]) d_Powers_exponent_25 (by decide) rfl rfl ?_
  refine j_loop (P := fun j => jJ n 2 jc_Powers_exponent 4 "YesNoPowers$Powers" 26 [some (.ref 46), some (.ref o), some (.int (nI ((T.1 - 1) * (T.1 - 1) + 1))), some (.int (nI (j + 1)))] [] (exH h T j) res) (m := e) ?_ (fun j hj ih => ?_)
  · have hr3 : rep (exH h T e) o T := rep_of (exH_f (by omega) e) (exH_f (by omega) e) hr
    refine j_iload_n d_Powers_exponent_26 rfl ?_
    refine j_iload_n d_Powers_exponent_27 rfl ?_
    refine j_icmp_gtN_f (tgt := 57) d_Powers_exponent_28 (by decide) (by omega) (by omega) (by omega) ?_
    refine j_aload_n d_Powers_exponent_31 rfl ?_
    refine j_getr (b := 47) d_Powers_exponent_32 jf_Powers_10 rfl rfl rfl (by decide) ?_
    refine j_callVs (As := []) (st := []) (x_isEverywhere isT_47 (exH_w e) (tw_po hT _)) d_Powers_exponent_35 (by decide) jm_Table_isEverywhere jk_Powers_50 ji_Table_isEverywhere js_Table_isEverywhere rfl (by decide) rfl rfl (Nat.le_of_ble_eq_true rfl) rfl ?_
    refine j_if_eqB_f (tgt := 43) d_Powers_exponent_38 (by decide) he2 ?_
    refine j_iload_n d_Powers_exponent_41 rfl ?_
    subst hres
    exact j_reti d_Powers_exponent_42 rfl rfl
  · have hr3 : rep (exH h T j) o T := rep_of (exH_f (by omega) j) (exH_f (by omega) j) hr
    refine j_iload_n d_Powers_exponent_26 rfl ?_
    refine j_iload_n d_Powers_exponent_27 rfl ?_
    refine j_icmp_gtN_f (tgt := 57) d_Powers_exponent_28 (by decide) (by omega) (by omega) (by omega) ?_
    refine j_aload_n d_Powers_exponent_31 rfl ?_
    refine j_getr (b := 47) d_Powers_exponent_32 jf_Powers_10 rfl rfl rfl (by decide) ?_
    refine j_callVs (As := []) (st := []) (x_isEverywhere isT_47 (exH_w j) (tw_po hT _)) d_Powers_exponent_35 (by decide) jm_Table_isEverywhere jk_Powers_50 ji_Table_isEverywhere js_Table_isEverywhere rfl (by decide) rfl rfl (Nat.le_of_ble_eq_true rfl) rfl ?_
    refine j_if_eqB_t (tgt := 43) d_Powers_exponent_38 (by decide) (hn j hj) ?_
    refine j_aload_n d_Powers_exponent_43 rfl ?_
    refine j_getr (b := 47) d_Powers_exponent_44 jf_Powers_10 rfl rfl rfl (by decide) ?_
    refine j_aload_n d_Powers_exponent_47 rfl ?_
    refine j_callVn (As := [.ref o]) (st := []) (x_multiplyBy isT_47 ho (by omega) (exH_w j) (tw_po hT _) hr3 hT (tpo_n T _)) d_Powers_exponent_48 (by decide) jm_Table_multiplyBy jk_Powers_31 ji_Table_multiplyBy js_Table_multiplyBy rfl (by decide) rfl rfl (Nat.le_of_ble_eq_true rfl) rfl ?_
    refine j_iincN (x := j + 1) (L' := [some (.ref 46), some (.ref o), some (.int (nI ((T.1 - 1) * (T.1 - 1) + 1))), some (.int (nI ((j + 1) + 1)))]) d_Powers_exponent_51 rfl (by decide) rfl rfl ?_
    refine j_goto (tgt := 26) d_Powers_exponent_54 (by decide) ?_
    exact ih
theorem x_exponent_none {n : jN} {h : jH} {o : Nat} (ho : isT o) {T : jT} (hr : rep h o T) (hT : tw T) (h0 : 0 < T.1) (hfo : o < 45 ∨ 50 < o) (hn : ∀ j, j < (T.1 - 1) * (T.1 - 1) + 1 → tful (tpo T j) (tpo T j).1 (tpo T j).1 = false) : jC n 2 jy_Powers_exponent jc_Powers_exponent 4 (some .int) [.ref 46, .ref o] h (some (.int (nI 0))) (exH h T ((T.1 - 1) * (T.1 - 1) + 1)) := by
  have hn12 := hT.1
  refine jC_of jm_Powers_exponent (L := [some (.ref 46), some (.ref o), none, none]) (Nat.le_of_ble_eq_true rfl) rfl trivial ?_
  generalize hres : (((some (.int (nI 0))), exH h T ((T.1 - 1) * (T.1 - 1) + 1)) : Option Value × jH) = res
  have hsq : (T.1 - 1) * (T.1 - 1) ≤ 11 * 11 := Nat.mul_le_mul (by omega) (by omega)
  refine j_aload_n d_Powers_exponent_0 rfl ?_
  refine j_getr (b := 47) d_Powers_exponent_1 jf_Powers_10 rfl rfl rfl (by decide) ?_
  refine j_aload_n d_Powers_exponent_4 rfl ?_
  refine j_callVn (As := [.ref o]) (st := []) (x_become isT_47 ho (by omega) hr hT) d_Powers_exponent_5 (by decide) jm_Table_become jk_Powers_27 ji_Table_become js_Table_become rfl (by decide) rfl rfl (Nat.le_of_ble_eq_true rfl) rfl ?_
  refine j_aload_n d_Powers_exponent_8 rfl ?_
  refine j_getv (v := nI T.1) d_Powers_exponent_9 jf_Powers_19 ho.1 rfl (rep_o isT_47 ho (by omega) hr).1 ?_
  refine j_iconst (v := nI 1) d_Powers_exponent_12 rfl ?_
  refine j_isubN d_Powers_exponent_13 (by omega) ?_
  refine j_aload_n d_Powers_exponent_14 rfl ?_
  refine j_getv (v := nI T.1) d_Powers_exponent_15 jf_Powers_19 ho.1 rfl (rep_o isT_47 ho (by omega) hr).1 ?_
  refine j_iconst (v := nI 1) d_Powers_exponent_18 rfl ?_
  refine j_isubN d_Powers_exponent_19 (by omega) ?_
  refine j_imulN d_Powers_exponent_20 ?_
  refine j_iconst (v := nI 1) d_Powers_exponent_21 rfl ?_
  refine j_iaddN d_Powers_exponent_22 ?_
  refine j_istore_n (L' := [some (.ref 46), some (.ref o), some (.int (nI (((T.1 - 1) * (T.1 - 1)) + 1))), none]) d_Powers_exponent_23 (by decide) rfl rfl ?_
  refine j_iconst (v := nI 1) d_Powers_exponent_24 rfl ?_
  refine j_istore_n (L' := [some (.ref 46), some (.ref o), some (.int (nI (((T.1 - 1) * (T.1 - 1)) + 1))), some (.int (nI 1))]) d_Powers_exponent_25 (by decide) rfl rfl ?_
  refine j_loop (P := fun j => jJ n 2 jc_Powers_exponent 4 "YesNoPowers$Powers" 26 [some (.ref 46), some (.ref o), some (.int (nI ((T.1 - 1) * (T.1 - 1) + 1))), some (.int (nI (j + 1)))] [] (exH h T j) res) (m := (T.1 - 1) * (T.1 - 1) + 1) ?_ (fun j hj ih => ?_)
  · have hr3 : rep (exH h T ((T.1 - 1) * (T.1 - 1) + 1)) o T := rep_of (exH_f (by omega) ((T.1 - 1) * (T.1 - 1) + 1)) (exH_f (by omega) ((T.1 - 1) * (T.1 - 1) + 1)) hr
    refine j_iload_n d_Powers_exponent_26 rfl ?_
    refine j_iload_n d_Powers_exponent_27 rfl ?_
    refine j_icmp_gtN_t (tgt := 57) d_Powers_exponent_28 (by decide) (by omega) (by omega) (by omega) ?_
    refine j_iconst (v := nI 0) d_Powers_exponent_57 rfl ?_
    subst hres
    exact j_reti d_Powers_exponent_58 rfl rfl
  · have hr3 : rep (exH h T j) o T := rep_of (exH_f (by omega) j) (exH_f (by omega) j) hr
    refine j_iload_n d_Powers_exponent_26 rfl ?_
    refine j_iload_n d_Powers_exponent_27 rfl ?_
    refine j_icmp_gtN_f (tgt := 57) d_Powers_exponent_28 (by decide) (by omega) (by omega) (by omega) ?_
    refine j_aload_n d_Powers_exponent_31 rfl ?_
    refine j_getr (b := 47) d_Powers_exponent_32 jf_Powers_10 rfl rfl rfl (by decide) ?_
    refine j_callVs (As := []) (st := []) (x_isEverywhere isT_47 (exH_w j) (tw_po hT _)) d_Powers_exponent_35 (by decide) jm_Table_isEverywhere jk_Powers_50 ji_Table_isEverywhere js_Table_isEverywhere rfl (by decide) rfl rfl (Nat.le_of_ble_eq_true rfl) rfl ?_
    refine j_if_eqB_t (tgt := 43) d_Powers_exponent_38 (by decide) (hn j hj) ?_
    refine j_aload_n d_Powers_exponent_43 rfl ?_
    refine j_getr (b := 47) d_Powers_exponent_44 jf_Powers_10 rfl rfl rfl (by decide) ?_
    refine j_aload_n d_Powers_exponent_47 rfl ?_
    refine j_callVn (As := [.ref o]) (st := []) (x_multiplyBy isT_47 ho (by omega) (exH_w j) (tw_po hT _) hr3 hT (tpo_n T _)) d_Powers_exponent_48 (by decide) jm_Table_multiplyBy jk_Powers_31 ji_Table_multiplyBy js_Table_multiplyBy rfl (by decide) rfl rfl (Nat.le_of_ble_eq_true rfl) rfl ?_
    refine j_iincN (x := j + 1) (L' := [some (.ref 46), some (.ref o), some (.int (nI ((T.1 - 1) * (T.1 - 1) + 1))), some (.int (nI ((j + 1) + 1)))]) d_Powers_exponent_51 rfl (by decide) rfl rfl ?_
    refine j_goto (tgt := 26) d_Powers_exponent_54 (by decide) ?_
    exact ih
def mkf : Nat → Nat
  | 0 => 1
  | j + 1 => if j + 1 = 2 * mkf j then j + 1 else mkf j
theorem mkf_le : ∀ j, 1 ≤ mkf j ∧ mkf j ≤ j + 1
  | 0 => by decide
  | j + 1 => by
    have := mkf_le j
    unfold mkf
    split <;> omega
def flH (h : jH) (T : jT) : Nat → jH
  | 0 => sT (sT h 47 T) 49 T
  | j + 1 => if j + 1 = 2 * mkf j then sT (sT (flH h T j) 49 (tpo T j)) 47 (tpo T (j + 1)) else sT (flH h T j) 47 (tpo T (j + 1))
theorem flH_f {h : jH} {T : jT} {a : Nat} (h3 : a < 47 ∨ 50 < a) : ∀ j, flH h T j a = h a
  | 0 => by rw [flH, sT_f (by omega) (by omega), sT_f (by omega) (by omega)]
  | j + 1 => by
    unfold flH
    split
    · rw [sT_f (by omega) (by omega), sT_f (by omega) (by omega), flH_f h3 j]
    · rw [sT_f (by omega) (by omega), flH_f h3 j]
theorem flH_w {h : jH} {T : jT} : ∀ j, rep (flH h T j) 47 (tpo T j)
  | 0 => rep_o isT_49 isT_47 (by decide) rep_sT
  | j + 1 => by
    unfold flH
    split
    · exact rep_sT
    · exact rep_sT
theorem flH_m {h : jH} {T : jT} : ∀ j, rep (flH h T j) 49 (tpo T (mkf j - 1))
  | 0 => rep_sT
  | j + 1 => by
    by_cases e : j + 1 = 2 * mkf j
    · rw [show flH h T (j + 1) = sT (sT (flH h T j) 49 (tpo T j)) 47 (tpo T (j + 1)) from if_pos e, show mkf (j + 1) = j + 1 from if_pos e]
      exact rep_o isT_47 isT_49 (by decide) rep_sT
    · rw [show flH h T (j + 1) = sT (flH h T j) 47 (tpo T (j + 1)) from if_neg e, show mkf (j + 1) = mkf j from if_neg e]
      exact rep_o isT_47 isT_49 (by decide) (flH_m j)
theorem x_firstLike_some {n : jN} {h : jH} {o : Nat} (ho : isT o) {g : Nat} (hg : isT g) {T G : jT} (hr : rep h o T) (hT : tw T) (hrg : rep h g G) (hG : tw G) (hfo : o < 45 ∨ 50 < o) (hfg : g < 45 ∨ 50 < g) {e : Nat} (he : e < 1000) (hl : tlik (tpo T e) G = true) (hn : ∀ j, j < e → tlik (tpo T j) G = false) (hc : ∀ j, j < e → ¬ (mkf j < j + 1 ∧ tlik (tpo T j) (tpo T (mkf j - 1)) = true)) : jC n 2 jy_Powers_firstLike jc_Powers_firstLike 6 (some .int) [.ref 46, .ref o, .ref g, .int (nI 1000)] h (some (.int (nI (e + 1)))) (flH h T e) := by
  have hn12 := hT.1
  refine jC_of jm_Powers_firstLike (L := [some (.ref 46), some (.ref o), some (.ref g), some (.int (nI 1000)), none, none]) (Nat.le_of_ble_eq_true rfl) rfl trivial ?_
  generalize hres : (((some (.int (nI (e + 1)))), flH h T e) : Option Value × jH) = res
  refine j_aload_n d_Powers_firstLike_0 rfl ?_
  refine j_getr (b := 47) d_Powers_firstLike_1 jf_Powers_10 rfl rfl rfl (by decide) ?_
  refine j_aload_n d_Powers_firstLike_4 rfl ?_
  refine j_callVn (As := [.ref o]) (st := []) (x_become isT_47 ho (by omega) hr hT) d_Powers_firstLike_5 (by decide) jm_Table_become jk_Powers_27 ji_Table_become js_Table_become rfl (by decide) rfl rfl (Nat.le_of_ble_eq_true rfl) rfl ?_
  refine j_aload_n d_Powers_firstLike_8 rfl ?_
  refine j_getr (b := 49) d_Powers_firstLike_9 jf_Powers_16 rfl rfl rfl (by decide) ?_
  refine j_aload_n d_Powers_firstLike_12 rfl ?_
  refine j_callVn (As := [.ref o]) (st := []) (x_become isT_49 ho (by omega) (rep_o isT_47 ho (by omega) hr) hT) d_Powers_firstLike_13 (by decide) jm_Table_become jk_Powers_27 ji_Table_become js_Table_become rfl (by decide) rfl rfl (Nat.le_of_ble_eq_true rfl) rfl ?_
  refine j_iconst (v := nI 1) d_Powers_firstLike_16 rfl ?_
  refine j_istore (L' := [some (.ref 46), some (.ref o), some (.ref g), some (.int (nI 1000)), some (.int (nI 1)), none]) d_Powers_firstLike_17 (by decide) rfl rfl ?_
  refine j_iconst (v := nI 1) d_Powers_firstLike_19 rfl ?_
  refine j_istore (L' := [some (.ref 46), some (.ref o), some (.ref g), some (.int (nI 1000)), some (.int (nI 1)), some (.int (nI 1))]) d_Powers_firstLike_20 (by decide) rfl rfl ?_
  refine j_loop (P := fun j => jJ n 2 jc_Powers_firstLike 6 "YesNoPowers$Powers" 22 [some (.ref 46), some (.ref o), some (.ref g), some (.int (nI 1000)), some (.int (nI (mkf j))), some (.int (nI (j + 1)))] [] (flH h T j) res) (m := e) ?_ (fun j hj ih => ?_)
  · have hml := mkf_le e
    have hr3 : rep (flH h T e) o T := rep_of (flH_f (by omega) e) (flH_f (by omega) e) hr
    have hr4 : rep (flH h T e) g G := rep_of (flH_f (by omega) e) (flH_f (by omega) e) hrg
    refine j_iload d_Powers_firstLike_22 rfl ?_
    refine j_iload_n d_Powers_firstLike_24 rfl ?_
    refine j_icmp_gtN_f (tgt := 103) d_Powers_firstLike_25 (by decide) (by omega) (by omega) (by omega) ?_
    refine j_aload_n d_Powers_firstLike_28 rfl ?_
    refine j_getr (b := 47) d_Powers_firstLike_29 jf_Powers_10 rfl rfl rfl (by decide) ?_
    refine j_aload_n d_Powers_firstLike_32 rfl ?_
    refine j_callVs (As := [.ref g]) (st := []) (x_isLike isT_47 hg (flH_w e) (tw_po hT _) hr4 hG) d_Powers_firstLike_33 (by decide) jm_Table_isLike jk_Powers_43 ji_Table_isLike js_Table_isLike rfl (by decide) rfl rfl (Nat.le_of_ble_eq_true rfl) rfl ?_
    refine j_if_eqB_f (tgt := 42) d_Powers_firstLike_36 (by decide) hl ?_
    refine j_iload d_Powers_firstLike_39 rfl ?_
    subst hres
    exact j_reti d_Powers_firstLike_41 rfl rfl
  · have hml := mkf_le j
    have hr3 : rep (flH h T j) o T := rep_of (flH_f (by omega) j) (flH_f (by omega) j) hr
    have hr4 : rep (flH h T j) g G := rep_of (flH_f (by omega) j) (flH_f (by omega) j) hrg
    refine j_iload d_Powers_firstLike_22 rfl ?_
    refine j_iload_n d_Powers_firstLike_24 rfl ?_
    refine j_icmp_gtN_f (tgt := 103) d_Powers_firstLike_25 (by decide) (by omega) (by omega) (by omega) ?_
    refine j_aload_n d_Powers_firstLike_28 rfl ?_
    refine j_getr (b := 47) d_Powers_firstLike_29 jf_Powers_10 rfl rfl rfl (by decide) ?_
    refine j_aload_n d_Powers_firstLike_32 rfl ?_
    refine j_callVs (As := [.ref g]) (st := []) (x_isLike isT_47 hg (flH_w j) (tw_po hT _) hr4 hG) d_Powers_firstLike_33 (by decide) jm_Table_isLike jk_Powers_43 ji_Table_isLike js_Table_isLike rfl (by decide) rfl rfl (Nat.le_of_ble_eq_true rfl) rfl ?_
    refine j_if_eqB_t (tgt := 42) d_Powers_firstLike_36 (by decide) (hn j hj) ?_
    refine j_iload d_Powers_firstLike_42 rfl ?_
    refine j_iload d_Powers_firstLike_44 rfl ?_
    refine j_icmp_leN (tgt := 65) d_Powers_firstLike_46 (by decide) (by omega) (by omega) (fun c1 => ?_) (fun c1 => ?_)
    · refine j_iload d_Powers_firstLike_65 rfl ?_
      refine j_iconst (v := nI 2) d_Powers_firstLike_67 rfl ?_
      refine j_iload d_Powers_firstLike_68 rfl ?_
      refine j_imulN d_Powers_firstLike_70 ?_
      refine j_icmp_neN (tgt := 89) d_Powers_firstLike_71 (by decide) (by omega) (by omega) (fun c => ?_) (fun c => ?_)
      · have hm : mkf (j + 1) = mkf j := if_neg c
        refine j_aload_n d_Powers_firstLike_89 rfl ?_
        refine j_getr (b := 47) d_Powers_firstLike_90 jf_Powers_10 rfl rfl rfl (by decide) ?_
        refine j_aload_n d_Powers_firstLike_93 rfl ?_
        refine j_callVn (As := [.ref o]) (st := []) (x_multiplyBy isT_47 ho (by omega) (flH_w j) (tw_po hT _) hr3 hT (tpo_n T _)) d_Powers_firstLike_94 (by decide) jm_Table_multiplyBy jk_Powers_31 ji_Table_multiplyBy js_Table_multiplyBy rfl (by decide) rfl rfl (Nat.le_of_ble_eq_true rfl) rfl ?_
        refine j_iincN (x := j + 1) (L' := [some (.ref 46), some (.ref o), some (.ref g), some (.int (nI 1000)), some (.int (nI (mkf j))), some (.int (nI ((j + 1) + 1)))]) d_Powers_firstLike_97 rfl (by decide) rfl rfl ?_
        refine j_goto (tgt := 22) d_Powers_firstLike_100 (by decide) ?_
        have hz : flH h T (j + 1) = sT (flH h T j) 47 (tpo T (j + 1)) := if_neg c
        rw [hz, hm] at ih
        exact ih
      · have hm : mkf (j + 1) = j + 1 := if_pos c
        refine j_aload_n d_Powers_firstLike_74 rfl ?_
        refine j_getr (b := 49) d_Powers_firstLike_75 jf_Powers_16 rfl rfl rfl (by decide) ?_
        refine j_aload_n d_Powers_firstLike_78 rfl ?_
        refine j_getr (b := 47) d_Powers_firstLike_79 jf_Powers_10 rfl rfl rfl (by decide) ?_
        refine j_callVn (As := [.ref 47]) (st := []) (x_become isT_49 isT_47 (by decide) (flH_w j) (tw_po hT _)) d_Powers_firstLike_82 (by decide) jm_Table_become jk_Powers_27 ji_Table_become js_Table_become rfl (by decide) rfl rfl (Nat.le_of_ble_eq_true rfl) rfl ?_
        refine j_iload d_Powers_firstLike_85 rfl ?_
        refine j_istore (L' := [some (.ref 46), some (.ref o), some (.ref g), some (.int (nI 1000)), some (.int (nI (j + 1))), some (.int (nI (j + 1)))]) d_Powers_firstLike_87 (by decide) rfl rfl ?_
        refine j_aload_n d_Powers_firstLike_89 rfl ?_
        refine j_getr (b := 47) d_Powers_firstLike_90 jf_Powers_10 rfl rfl rfl (by decide) ?_
        refine j_aload_n d_Powers_firstLike_93 rfl ?_
        refine j_callVn (As := [.ref o]) (st := []) (x_multiplyBy isT_47 ho (by omega) (rep_o isT_49 isT_47 (by decide) (flH_w j)) (tw_po hT _) (rep_o isT_49 ho (by omega) hr3) hT (tpo_n T _)) d_Powers_firstLike_94 (by decide) jm_Table_multiplyBy jk_Powers_31 ji_Table_multiplyBy js_Table_multiplyBy rfl (by decide) rfl rfl (Nat.le_of_ble_eq_true rfl) rfl ?_
        refine j_iincN (x := j + 1) (L' := [some (.ref 46), some (.ref o), some (.ref g), some (.int (nI 1000)), some (.int (nI (j + 1))), some (.int (nI ((j + 1) + 1)))]) d_Powers_firstLike_97 rfl (by decide) rfl rfl ?_
        refine j_goto (tgt := 22) d_Powers_firstLike_100 (by decide) ?_
        have hz : flH h T (j + 1) = sT (sT (flH h T j) 49 (tpo T j)) 47 (tpo T (j + 1)) := if_pos c
        rw [hz, hm] at ih
        exact ih
    · refine j_aload_n d_Powers_firstLike_49 rfl ?_
      refine j_getr (b := 47) d_Powers_firstLike_50 jf_Powers_10 rfl rfl rfl (by decide) ?_
      refine j_aload_n d_Powers_firstLike_53 rfl ?_
      refine j_getr (b := 49) d_Powers_firstLike_54 jf_Powers_16 rfl rfl rfl (by decide) ?_
      refine j_callVs (As := [.ref 49]) (st := []) (x_isLike isT_47 isT_49 (flH_w j) (tw_po hT _) (flH_m j) (tw_po hT _)) d_Powers_firstLike_57 (by decide) jm_Table_isLike jk_Powers_43 ji_Table_isLike js_Table_isLike rfl (by decide) rfl rfl (Nat.le_of_ble_eq_true rfl) rfl ?_
      refine j_if_eqB_t (tgt := 65) d_Powers_firstLike_60 (by decide) (by cases hq : tlik (tpo T j) (tpo T (mkf j - 1)) with | false => rfl | true => exact absurd ⟨by omega, hq⟩ (hc j hj)) ?_
      refine j_iload d_Powers_firstLike_65 rfl ?_
      refine j_iconst (v := nI 2) d_Powers_firstLike_67 rfl ?_
      refine j_iload d_Powers_firstLike_68 rfl ?_
      refine j_imulN d_Powers_firstLike_70 ?_
      refine j_icmp_neN (tgt := 89) d_Powers_firstLike_71 (by decide) (by omega) (by omega) (fun c => ?_) (fun c => ?_)
      · have hm : mkf (j + 1) = mkf j := if_neg c
        refine j_aload_n d_Powers_firstLike_89 rfl ?_
        refine j_getr (b := 47) d_Powers_firstLike_90 jf_Powers_10 rfl rfl rfl (by decide) ?_
        refine j_aload_n d_Powers_firstLike_93 rfl ?_
        refine j_callVn (As := [.ref o]) (st := []) (x_multiplyBy isT_47 ho (by omega) (flH_w j) (tw_po hT _) hr3 hT (tpo_n T _)) d_Powers_firstLike_94 (by decide) jm_Table_multiplyBy jk_Powers_31 ji_Table_multiplyBy js_Table_multiplyBy rfl (by decide) rfl rfl (Nat.le_of_ble_eq_true rfl) rfl ?_
        refine j_iincN (x := j + 1) (L' := [some (.ref 46), some (.ref o), some (.ref g), some (.int (nI 1000)), some (.int (nI (mkf j))), some (.int (nI ((j + 1) + 1)))]) d_Powers_firstLike_97 rfl (by decide) rfl rfl ?_
        refine j_goto (tgt := 22) d_Powers_firstLike_100 (by decide) ?_
        have hz : flH h T (j + 1) = sT (flH h T j) 47 (tpo T (j + 1)) := if_neg c
        rw [hz, hm] at ih
        exact ih
      · have hm : mkf (j + 1) = j + 1 := if_pos c
        refine j_aload_n d_Powers_firstLike_74 rfl ?_
        refine j_getr (b := 49) d_Powers_firstLike_75 jf_Powers_16 rfl rfl rfl (by decide) ?_
        refine j_aload_n d_Powers_firstLike_78 rfl ?_
        refine j_getr (b := 47) d_Powers_firstLike_79 jf_Powers_10 rfl rfl rfl (by decide) ?_
        refine j_callVn (As := [.ref 47]) (st := []) (x_become isT_49 isT_47 (by decide) (flH_w j) (tw_po hT _)) d_Powers_firstLike_82 (by decide) jm_Table_become jk_Powers_27 ji_Table_become js_Table_become rfl (by decide) rfl rfl (Nat.le_of_ble_eq_true rfl) rfl ?_
        refine j_iload d_Powers_firstLike_85 rfl ?_
        refine j_istore (L' := [some (.ref 46), some (.ref o), some (.ref g), some (.int (nI 1000)), some (.int (nI (j + 1))), some (.int (nI (j + 1)))]) d_Powers_firstLike_87 (by decide) rfl rfl ?_
        refine j_aload_n d_Powers_firstLike_89 rfl ?_
        refine j_getr (b := 47) d_Powers_firstLike_90 jf_Powers_10 rfl rfl rfl (by decide) ?_
        refine j_aload_n d_Powers_firstLike_93 rfl ?_
        refine j_callVn (As := [.ref o]) (st := []) (x_multiplyBy isT_47 ho (by omega) (rep_o isT_49 isT_47 (by decide) (flH_w j)) (tw_po hT _) (rep_o isT_49 ho (by omega) hr3) hT (tpo_n T _)) d_Powers_firstLike_94 (by decide) jm_Table_multiplyBy jk_Powers_31 ji_Table_multiplyBy js_Table_multiplyBy rfl (by decide) rfl rfl (Nat.le_of_ble_eq_true rfl) rfl ?_
        refine j_iincN (x := j + 1) (L' := [some (.ref 46), some (.ref o), some (.ref g), some (.int (nI 1000)), some (.int (nI (j + 1))), some (.int (nI ((j + 1) + 1)))]) d_Powers_firstLike_97 rfl (by decide) rfl rfl ?_
        refine j_goto (tgt := 22) d_Powers_firstLike_100 (by decide) ?_
        have hz : flH h T (j + 1) = sT (sT (flH h T j) 49 (tpo T j)) 47 (tpo T (j + 1)) := if_pos c
        rw [hz, hm] at ih
        exact ih
theorem x_firstLike_none {n : jN} {h : jH} {o : Nat} (ho : isT o) {g : Nat} (hg : isT g) {T G : jT} (hr : rep h o T) (hT : tw T) (hrg : rep h g G) (hG : tw G) (hfo : o < 45 ∨ 50 < o) (hfg : g < 45 ∨ 50 < g) {e : Nat} (he : e < 1000) (hn : ∀ j, j ≤ e → tlik (tpo T j) G = false) (hc1 : mkf e < e + 1) (hc2 : tlik (tpo T e) (tpo T (mkf e - 1)) = true) (hc : ∀ j, j < e → ¬ (mkf j < j + 1 ∧ tlik (tpo T j) (tpo T (mkf j - 1)) = true)) : jC n 2 jy_Powers_firstLike jc_Powers_firstLike 6 (some .int) [.ref 46, .ref o, .ref g, .int (nI 1000)] h (some (.int (nI 0))) (flH h T e) := by
  have hn12 := hT.1
  refine jC_of jm_Powers_firstLike (L := [some (.ref 46), some (.ref o), some (.ref g), some (.int (nI 1000)), none, none]) (Nat.le_of_ble_eq_true rfl) rfl trivial ?_
  generalize hres : (((some (.int (nI 0))), flH h T e) : Option Value × jH) = res
  refine j_aload_n d_Powers_firstLike_0 rfl ?_
  refine j_getr (b := 47) d_Powers_firstLike_1 jf_Powers_10 rfl rfl rfl (by decide) ?_
  refine j_aload_n d_Powers_firstLike_4 rfl ?_
  refine j_callVn (As := [.ref o]) (st := []) (x_become isT_47 ho (by omega) hr hT) d_Powers_firstLike_5 (by decide) jm_Table_become jk_Powers_27 ji_Table_become js_Table_become rfl (by decide) rfl rfl (Nat.le_of_ble_eq_true rfl) rfl ?_
  refine j_aload_n d_Powers_firstLike_8 rfl ?_
  refine j_getr (b := 49) d_Powers_firstLike_9 jf_Powers_16 rfl rfl rfl (by decide) ?_
  refine j_aload_n d_Powers_firstLike_12 rfl ?_
  refine j_callVn (As := [.ref o]) (st := []) (x_become isT_49 ho (by omega) (rep_o isT_47 ho (by omega) hr) hT) d_Powers_firstLike_13 (by decide) jm_Table_become jk_Powers_27 ji_Table_become js_Table_become rfl (by decide) rfl rfl (Nat.le_of_ble_eq_true rfl) rfl ?_
  refine j_iconst (v := nI 1) d_Powers_firstLike_16 rfl ?_
  refine j_istore (L' := [some (.ref 46), some (.ref o), some (.ref g), some (.int (nI 1000)), some (.int (nI 1)), none]) d_Powers_firstLike_17 (by decide) rfl rfl ?_
  refine j_iconst (v := nI 1) d_Powers_firstLike_19 rfl ?_
  refine j_istore (L' := [some (.ref 46), some (.ref o), some (.ref g), some (.int (nI 1000)), some (.int (nI 1)), some (.int (nI 1))]) d_Powers_firstLike_20 (by decide) rfl rfl ?_
  refine j_loop (P := fun j => jJ n 2 jc_Powers_firstLike 6 "YesNoPowers$Powers" 22 [some (.ref 46), some (.ref o), some (.ref g), some (.int (nI 1000)), some (.int (nI (mkf j))), some (.int (nI (j + 1)))] [] (flH h T j) res) (m := e) ?_ (fun j hj ih => ?_)
  · have hml := mkf_le e
    have hr3 : rep (flH h T e) o T := rep_of (flH_f (by omega) e) (flH_f (by omega) e) hr
    have hr4 : rep (flH h T e) g G := rep_of (flH_f (by omega) e) (flH_f (by omega) e) hrg
    refine j_iload d_Powers_firstLike_22 rfl ?_
    refine j_iload_n d_Powers_firstLike_24 rfl ?_
    refine j_icmp_gtN_f (tgt := 103) d_Powers_firstLike_25 (by decide) (by omega) (by omega) (by omega) ?_
    refine j_aload_n d_Powers_firstLike_28 rfl ?_
    refine j_getr (b := 47) d_Powers_firstLike_29 jf_Powers_10 rfl rfl rfl (by decide) ?_
    refine j_aload_n d_Powers_firstLike_32 rfl ?_
    refine j_callVs (As := [.ref g]) (st := []) (x_isLike isT_47 hg (flH_w e) (tw_po hT _) hr4 hG) d_Powers_firstLike_33 (by decide) jm_Table_isLike jk_Powers_43 ji_Table_isLike js_Table_isLike rfl (by decide) rfl rfl (Nat.le_of_ble_eq_true rfl) rfl ?_
    refine j_if_eqB_t (tgt := 42) d_Powers_firstLike_36 (by decide) (hn e (Nat.le_refl _)) ?_
    refine j_iload d_Powers_firstLike_42 rfl ?_
    refine j_iload d_Powers_firstLike_44 rfl ?_
    refine j_icmp_leN_f (tgt := 65) d_Powers_firstLike_46 (by decide) (by omega) (by omega) (by omega) ?_
    refine j_aload_n d_Powers_firstLike_49 rfl ?_
    refine j_getr (b := 47) d_Powers_firstLike_50 jf_Powers_10 rfl rfl rfl (by decide) ?_
    refine j_aload_n d_Powers_firstLike_53 rfl ?_
    refine j_getr (b := 49) d_Powers_firstLike_54 jf_Powers_16 rfl rfl rfl (by decide) ?_
    refine j_callVs (As := [.ref 49]) (st := []) (x_isLike isT_47 isT_49 (flH_w e) (tw_po hT _) (flH_m e) (tw_po hT _)) d_Powers_firstLike_57 (by decide) jm_Table_isLike jk_Powers_43 ji_Table_isLike js_Table_isLike rfl (by decide) rfl rfl (Nat.le_of_ble_eq_true rfl) rfl ?_
    refine j_if_eqB_f (tgt := 65) d_Powers_firstLike_60 (by decide) hc2 ?_
    refine j_iconst (v := nI 0) d_Powers_firstLike_63 rfl ?_
    subst hres
    exact j_reti d_Powers_firstLike_64 rfl rfl
  · have hml := mkf_le j
    have hr3 : rep (flH h T j) o T := rep_of (flH_f (by omega) j) (flH_f (by omega) j) hr
    have hr4 : rep (flH h T j) g G := rep_of (flH_f (by omega) j) (flH_f (by omega) j) hrg
    refine j_iload d_Powers_firstLike_22 rfl ?_
    refine j_iload_n d_Powers_firstLike_24 rfl ?_
    refine j_icmp_gtN_f (tgt := 103) d_Powers_firstLike_25 (by decide) (by omega) (by omega) (by omega) ?_
    refine j_aload_n d_Powers_firstLike_28 rfl ?_
    refine j_getr (b := 47) d_Powers_firstLike_29 jf_Powers_10 rfl rfl rfl (by decide) ?_
    refine j_aload_n d_Powers_firstLike_32 rfl ?_
    refine j_callVs (As := [.ref g]) (st := []) (x_isLike isT_47 hg (flH_w j) (tw_po hT _) hr4 hG) d_Powers_firstLike_33 (by decide) jm_Table_isLike jk_Powers_43 ji_Table_isLike js_Table_isLike rfl (by decide) rfl rfl (Nat.le_of_ble_eq_true rfl) rfl ?_
    refine j_if_eqB_t (tgt := 42) d_Powers_firstLike_36 (by decide) (hn j (by omega)) ?_
    refine j_iload d_Powers_firstLike_42 rfl ?_
    refine j_iload d_Powers_firstLike_44 rfl ?_
    refine j_icmp_leN (tgt := 65) d_Powers_firstLike_46 (by decide) (by omega) (by omega) (fun c1 => ?_) (fun c1 => ?_)
    · refine j_iload d_Powers_firstLike_65 rfl ?_
      refine j_iconst (v := nI 2) d_Powers_firstLike_67 rfl ?_
      refine j_iload d_Powers_firstLike_68 rfl ?_
      refine j_imulN d_Powers_firstLike_70 ?_
      refine j_icmp_neN (tgt := 89) d_Powers_firstLike_71 (by decide) (by omega) (by omega) (fun c => ?_) (fun c => ?_)
      · have hm : mkf (j + 1) = mkf j := if_neg c
        refine j_aload_n d_Powers_firstLike_89 rfl ?_
        refine j_getr (b := 47) d_Powers_firstLike_90 jf_Powers_10 rfl rfl rfl (by decide) ?_
        refine j_aload_n d_Powers_firstLike_93 rfl ?_
        refine j_callVn (As := [.ref o]) (st := []) (x_multiplyBy isT_47 ho (by omega) (flH_w j) (tw_po hT _) hr3 hT (tpo_n T _)) d_Powers_firstLike_94 (by decide) jm_Table_multiplyBy jk_Powers_31 ji_Table_multiplyBy js_Table_multiplyBy rfl (by decide) rfl rfl (Nat.le_of_ble_eq_true rfl) rfl ?_
        refine j_iincN (x := j + 1) (L' := [some (.ref 46), some (.ref o), some (.ref g), some (.int (nI 1000)), some (.int (nI (mkf j))), some (.int (nI ((j + 1) + 1)))]) d_Powers_firstLike_97 rfl (by decide) rfl rfl ?_
        refine j_goto (tgt := 22) d_Powers_firstLike_100 (by decide) ?_
        have hz : flH h T (j + 1) = sT (flH h T j) 47 (tpo T (j + 1)) := if_neg c
        rw [hz, hm] at ih
        exact ih
      · have hm : mkf (j + 1) = j + 1 := if_pos c
        refine j_aload_n d_Powers_firstLike_74 rfl ?_
        refine j_getr (b := 49) d_Powers_firstLike_75 jf_Powers_16 rfl rfl rfl (by decide) ?_
        refine j_aload_n d_Powers_firstLike_78 rfl ?_
        refine j_getr (b := 47) d_Powers_firstLike_79 jf_Powers_10 rfl rfl rfl (by decide) ?_
        refine j_callVn (As := [.ref 47]) (st := []) (x_become isT_49 isT_47 (by decide) (flH_w j) (tw_po hT _)) d_Powers_firstLike_82 (by decide) jm_Table_become jk_Powers_27 ji_Table_become js_Table_become rfl (by decide) rfl rfl (Nat.le_of_ble_eq_true rfl) rfl ?_
        refine j_iload d_Powers_firstLike_85 rfl ?_
        refine j_istore (L' := [some (.ref 46), some (.ref o), some (.ref g), some (.int (nI 1000)), some (.int (nI (j + 1))), some (.int (nI (j + 1)))]) d_Powers_firstLike_87 (by decide) rfl rfl ?_
        refine j_aload_n d_Powers_firstLike_89 rfl ?_
        refine j_getr (b := 47) d_Powers_firstLike_90 jf_Powers_10 rfl rfl rfl (by decide) ?_
        refine j_aload_n d_Powers_firstLike_93 rfl ?_
        refine j_callVn (As := [.ref o]) (st := []) (x_multiplyBy isT_47 ho (by omega) (rep_o isT_49 isT_47 (by decide) (flH_w j)) (tw_po hT _) (rep_o isT_49 ho (by omega) hr3) hT (tpo_n T _)) d_Powers_firstLike_94 (by decide) jm_Table_multiplyBy jk_Powers_31 ji_Table_multiplyBy js_Table_multiplyBy rfl (by decide) rfl rfl (Nat.le_of_ble_eq_true rfl) rfl ?_
        refine j_iincN (x := j + 1) (L' := [some (.ref 46), some (.ref o), some (.ref g), some (.int (nI 1000)), some (.int (nI (j + 1))), some (.int (nI ((j + 1) + 1)))]) d_Powers_firstLike_97 rfl (by decide) rfl rfl ?_
        refine j_goto (tgt := 22) d_Powers_firstLike_100 (by decide) ?_
        have hz : flH h T (j + 1) = sT (sT (flH h T j) 49 (tpo T j)) 47 (tpo T (j + 1)) := if_pos c
        rw [hz, hm] at ih
        exact ih
    · refine j_aload_n d_Powers_firstLike_49 rfl ?_
      refine j_getr (b := 47) d_Powers_firstLike_50 jf_Powers_10 rfl rfl rfl (by decide) ?_
      refine j_aload_n d_Powers_firstLike_53 rfl ?_
      refine j_getr (b := 49) d_Powers_firstLike_54 jf_Powers_16 rfl rfl rfl (by decide) ?_
      refine j_callVs (As := [.ref 49]) (st := []) (x_isLike isT_47 isT_49 (flH_w j) (tw_po hT _) (flH_m j) (tw_po hT _)) d_Powers_firstLike_57 (by decide) jm_Table_isLike jk_Powers_43 ji_Table_isLike js_Table_isLike rfl (by decide) rfl rfl (Nat.le_of_ble_eq_true rfl) rfl ?_
      refine j_if_eqB_t (tgt := 65) d_Powers_firstLike_60 (by decide) (by cases hq : tlik (tpo T j) (tpo T (mkf j - 1)) with | false => rfl | true => exact absurd ⟨by omega, hq⟩ (hc j hj)) ?_
      refine j_iload d_Powers_firstLike_65 rfl ?_
      refine j_iconst (v := nI 2) d_Powers_firstLike_67 rfl ?_
      refine j_iload d_Powers_firstLike_68 rfl ?_
      refine j_imulN d_Powers_firstLike_70 ?_
      refine j_icmp_neN (tgt := 89) d_Powers_firstLike_71 (by decide) (by omega) (by omega) (fun c => ?_) (fun c => ?_)
      · have hm : mkf (j + 1) = mkf j := if_neg c
        refine j_aload_n d_Powers_firstLike_89 rfl ?_
        refine j_getr (b := 47) d_Powers_firstLike_90 jf_Powers_10 rfl rfl rfl (by decide) ?_
        refine j_aload_n d_Powers_firstLike_93 rfl ?_
        refine j_callVn (As := [.ref o]) (st := []) (x_multiplyBy isT_47 ho (by omega) (flH_w j) (tw_po hT _) hr3 hT (tpo_n T _)) d_Powers_firstLike_94 (by decide) jm_Table_multiplyBy jk_Powers_31 ji_Table_multiplyBy js_Table_multiplyBy rfl (by decide) rfl rfl (Nat.le_of_ble_eq_true rfl) rfl ?_
        refine j_iincN (x := j + 1) (L' := [some (.ref 46), some (.ref o), some (.ref g), some (.int (nI 1000)), some (.int (nI (mkf j))), some (.int (nI ((j + 1) + 1)))]) d_Powers_firstLike_97 rfl (by decide) rfl rfl ?_
        refine j_goto (tgt := 22) d_Powers_firstLike_100 (by decide) ?_
        have hz : flH h T (j + 1) = sT (flH h T j) 47 (tpo T (j + 1)) := if_neg c
        rw [hz, hm] at ih
        exact ih
      · have hm : mkf (j + 1) = j + 1 := if_pos c
        refine j_aload_n d_Powers_firstLike_74 rfl ?_
        refine j_getr (b := 49) d_Powers_firstLike_75 jf_Powers_16 rfl rfl rfl (by decide) ?_
        refine j_aload_n d_Powers_firstLike_78 rfl ?_
        refine j_getr (b := 47) d_Powers_firstLike_79 jf_Powers_10 rfl rfl rfl (by decide) ?_
        refine j_callVn (As := [.ref 47]) (st := []) (x_become isT_49 isT_47 (by decide) (flH_w j) (tw_po hT _)) d_Powers_firstLike_82 (by decide) jm_Table_become jk_Powers_27 ji_Table_become js_Table_become rfl (by decide) rfl rfl (Nat.le_of_ble_eq_true rfl) rfl ?_
        refine j_iload d_Powers_firstLike_85 rfl ?_
        refine j_istore (L' := [some (.ref 46), some (.ref o), some (.ref g), some (.int (nI 1000)), some (.int (nI (j + 1))), some (.int (nI (j + 1)))]) d_Powers_firstLike_87 (by decide) rfl rfl ?_
        refine j_aload_n d_Powers_firstLike_89 rfl ?_
        refine j_getr (b := 47) d_Powers_firstLike_90 jf_Powers_10 rfl rfl rfl (by decide) ?_
        refine j_aload_n d_Powers_firstLike_93 rfl ?_
        refine j_callVn (As := [.ref o]) (st := []) (x_multiplyBy isT_47 ho (by omega) (rep_o isT_49 isT_47 (by decide) (flH_w j)) (tw_po hT _) (rep_o isT_49 ho (by omega) hr3) hT (tpo_n T _)) d_Powers_firstLike_94 (by decide) jm_Table_multiplyBy jk_Powers_31 ji_Table_multiplyBy js_Table_multiplyBy rfl (by decide) rfl rfl (Nat.le_of_ble_eq_true rfl) rfl ?_
        refine j_iincN (x := j + 1) (L' := [some (.ref 46), some (.ref o), some (.ref g), some (.int (nI 1000)), some (.int (nI (j + 1))), some (.int (nI ((j + 1) + 1)))]) d_Powers_firstLike_97 rfl (by decide) rfl rfl ?_
        refine j_goto (tgt := 22) d_Powers_firstLike_100 (by decide) ?_
        have hz : flH h T (j + 1) = sT (sT (flH h T j) 49 (tpo T j)) 47 (tpo T (j + 1)) := if_pos c
        rw [hz, hm] at ih
        exact ih

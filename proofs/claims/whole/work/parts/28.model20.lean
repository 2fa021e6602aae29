def tnum (m x : Nat) : jT := (m, fun i => if i < m then x / 2 ^ (m * i) &&& (2 ^ m - 1) else 0)
theorem tw_num {m x : Nat} (hm : m ≤ 12) : tw (tnum m x) := by
  refine ⟨hm, fun i => ?_, fun i hi => if_neg (Nat.not_lt.mpr hi)⟩
  simp only [tnum]
  split
  · have h1 : 2 ^ m ≤ 2 ^ 12 := Nat.pow_le_pow_right (by omega) hm
    have h2 : 0 < 2 ^ m := Nat.two_pow_pos m
    exact Nat.and_lt_two_pow (n := 12) _ (by omega)
  · omega
theorem c_layNumber {n : jN} {h : jH} {P : jP} {x m : Nat} (hm : m ≤ 4) (hx : x < 65536) : jC n 1 jy_Model_layNumber jc_Model_layNumber 4 none [.ref 135, .int (nI x), .int (nI m)] (jM h P) none (jM h (jset P 34 (tnum m x))) := by
  refine jC_of jm_Model_layNumber (L := [some (.ref 135), some (.int (nI x)), some (.int (nI m)), none]) (Nat.le_of_ble_eq_true rfl) rfl trivial ?_
  generalize hres : ((none, jM h (jset P 34 (tnum m x))) : Option Value × jH) = res
  have h2p : 0 < 2 ^ m := Nat.two_pow_pos m
  have h2m : 2 ^ m ≤ 2 ^ 4 := Nat.pow_le_pow_right (by omega) hm
  refine j_aload_n d_Model_layNumber_0 rfl ?_
  refine j_bipush (v := nI 34) d_Model_layNumber_1 (by decide) ?_
  refine j_iload_n d_Model_layNumber_3 rfl ?_
  refine j_callVn (As := [.int (nI 34), .int (nI m)]) (st := []) (c_empty (by omega)) d_Model_layNumber_4 (by decide) jm_Model_empty jk_Model_75 ji_Model_empty js_Model_empty rfl (by decide) rfl rfl (Nat.le_of_ble_eq_true rfl) rfl ?_
  refine j_iconst (v := nI 0) d_Model_layNumber_7 rfl ?_
  refine j_istore_n (L' := [some (.ref 135), some (.int (nI x)), some (.int (nI m)), some (.int (nI 0))]) d_Model_layNumber_8 (by decide) rfl rfl ?_
  refine j_heap (h' := jM h (jset P 34 (m, fun i => if i < 0 then x / 2 ^ (m * i) &&& (2 ^ m - 1) else 0))) (jM_cg rfl (fun j hj => by simp)) ?_
  refine j_loop (P := fun k => jJ n 1 jc_Model_layNumber 4 "YesNoPowersModel" 9 [some (.ref 135), some (.int (nI x)), some (.int (nI m)), some (.int (nI k))] [] (jM h (jset P 34 (m, fun i => if i < k then x / 2 ^ (m * i) &&& (2 ^ m - 1) else 0))) res) (m := m) ?_ (fun k hk ih => ?_)
  · refine j_iload_n d_Model_layNumber_9 rfl ?_
    refine j_iload_n d_Model_layNumber_10 rfl ?_
    refine j_icmp_geN_t (tgt := 41) d_Model_layNumber_11 (by decide) (by omega) (by omega) (by omega) ?_
    subst hres
    exact j_retv d_Model_layNumber_41 rfl
  · have hmk : m * k ≤ 4 * 3 := Nat.mul_le_mul hm (by omega)
    refine j_iload_n d_Model_layNumber_9 rfl ?_
    refine j_iload_n d_Model_layNumber_10 rfl ?_
    refine j_icmp_geN_f (tgt := 41) d_Model_layNumber_11 (by decide) (by omega) (by omega) (by omega) ?_
    refine j_aload_n d_Model_layNumber_14 rfl ?_
    refine j_getr (b := 136) d_Model_layNumber_15 jf_Model_7 rfl rfl rfl (by decide) ?_
    refine j_sipush (v := nI 408) d_Model_layNumber_18 (by decide) ?_
    refine j_iload_n d_Model_layNumber_21 rfl ?_
    refine j_iaddN d_Model_layNumber_22 ?_
    refine j_iload_n d_Model_layNumber_23 rfl ?_
    refine j_iload_n d_Model_layNumber_24 rfl ?_
    refine j_iload_n d_Model_layNumber_25 rfl ?_
    refine j_imulN d_Model_layNumber_26 ?_
    refine j_ishrN d_Model_layNumber_27 (by omega) (by omega) ?_
    refine j_iconst (v := nI 1) d_Model_layNumber_28 rfl ?_
    refine j_iload_n d_Model_layNumber_29 rfl ?_
    refine j_shl1N d_Model_layNumber_30 (by omega) ?_
    refine j_iconst (v := nI 1) d_Model_layNumber_31 rfl ?_
    refine j_isubN d_Model_layNumber_32 Nat.one_le_two_pow ?_
    refine j_iandN d_Model_layNumber_33 ?_
    refine j_iastN (h' := jM h (jset P 34 (m, fun zz => if zz = k then (x / (2 ^ (m * k))) &&& ((2 ^ m) - 1) else (fun i => if i < k then x / 2 ^ (m * i) &&& (2 ^ m - 1) else 0) zz))) d_Model_layNumber_34 rfl (by omega) (by decide) (jM_set_row_p (p := 34) (by omega)) ?_
    refine j_iincN (x := k) (L' := [some (.ref 135), some (.int (nI x)), some (.int (nI m)), some (.int (nI (k + 1)))]) d_Model_layNumber_35 rfl (by decide) rfl rfl ?_
    refine j_goto (tgt := 9) d_Model_layNumber_38 (by decide) ?_
    refine j_heap (h' := jM h (jset P 34 (m, fun i => if i < (k + 1) then x / 2 ^ (m * i) &&& (2 ^ m - 1) else 0))) (jM_cg rfl (fun j hj => by by_cases e : j = k; (simp [e]); (simp [e, jlt_s e]))) ?_
    exact ih
def rtk (A : jT) (k : Nat) (P : jP) : jP := jset (jset (jset P 34 A) 36 (if k = 0 then P 36 else tpo A k)) 35 (tpo A k)
theorem rtk_w {A : jT} {k : Nat} {P : jP} (hA : tw A) (hw : ∀ q, tw (P q)) : ∀ q, tw (rtk A k P q) := by
  refine tws (tws (tws hw hA) ?_) (tw_po hA k)
  split
  · exact hw 36
  · exact tw_po hA k
theorem rtk_0 {A : jT} {P : jP} : ∀ q, jset (jset P 34 A) 35 (jset P 34 A 34) q = rtk A 0 P q := by
  intro q
  simp only [rtk, jset, tpo, if_true]
  repeat' split
  all_goals first | rfl | omega | (subst_vars; rfl)
theorem rtk_s {A : jT} {k : Nat} {P : jP} : ∀ q, jset (jset (rtk A k P) 36 (tmul (rtk A k P 35) (rtk A k P 34))) 35 (jset (rtk A k P) 36 (tmul (rtk A k P 35) (rtk A k P 34)) 36) q = rtk A (k + 1) P q := by
  intro q
  have e1 : rtk A k P 35 = tpo A k := by rw [rtk, jset_eq]
  have e2 : rtk A k P 34 = A := by rw [rtk, jset_ne (by omega), jset_ne (by omega), jset_eq]
  rw [e1, e2, jset_eq]
  simp only [rtk, jset, tpo]
  repeat' split
  all_goals first | rfl | omega
theorem rtk_o {A : jT} {k q : Nat} {P : jP} (h : q < 34) : rtk A k P q = P q := by rw [rtk, jset_ne (by omega), jset_ne (by omega), jset_ne (by omega)]
theorem rtk_35 {A : jT} {k : Nat} {P : jP} : rtk A k P 35 = tpo A k := by rw [rtk, jset_eq]
theorem c_isRoot {n : jN} {h : jH} {P : jP} {s x d : Nat} (hw : ∀ q, tw (P q)) (hs : s < 6) (hm : (P s).1 ≤ 4) (hx : x < 65536) (hd : 2 ≤ d) (hd8 : d ≤ 8) : jC n 2 jy_Model_isRoot jc_Model_isRoot 5 (some .boolean) [.ref 135, .int (nI s), .int (nI x), .int (nI d)] (jM h P) (some (.int (jbo (tsam (tpo (tnum (P s).1 x) (d - 1)) (P s) 12)))) (jM h (rtk (tnum (P s).1 x) (d - 1) P)) := by
  refine jC_of jm_Model_isRoot (L := [some (.ref 135), some (.int (nI s)), some (.int (nI x)), some (.int (nI d)), none]) (Nat.le_of_ble_eq_true rfl) rfl (jbo01 _) ?_
  generalize hres : (((some (.int (jbo (tsam (tpo (tnum (P s).1 x) (d - 1)) (P s) 12)))), jM h (rtk (tnum (P s).1 x) (d - 1) P)) : Option Value × jH) = res
  have hAw : tw (tnum (P s).1 x) := tw_num (by omega)
  refine j_aload_n d_Model_isRoot_0 rfl ?_
  refine j_iload_n d_Model_isRoot_1 rfl ?_
  refine j_aload_n d_Model_isRoot_2 rfl ?_
  refine j_getr (b := 137) d_Model_isRoot_3 jf_Model_13 rfl rfl rfl (by decide) ?_
  refine j_iload_n d_Model_isRoot_6 rfl ?_
  refine j_ialdN (v := nI ((P s).1)) d_Model_isRoot_7 rfl (by omega) (by decide) rfl ?_
  refine j_callVn (As := [.int (nI x), .int (nI ((P s).1))]) (st := []) (c_layNumber hm hx) d_Model_isRoot_8 (by decide) jm_Model_layNumber jk_Model_234 ji_Model_layNumber js_Model_layNumber rfl (by decide) rfl rfl (Nat.le_of_ble_eq_true rfl) rfl ?_
  refine j_aload_n d_Model_isRoot_11 rfl ?_
  refine j_bipush (v := nI 34) d_Model_isRoot_12 (by decide) ?_
  refine j_bipush (v := nI 35) d_Model_isRoot_14 (by decide) ?_
  refine j_callVn (As := [.int (nI 34), .int (nI 35)]) (st := []) (c_copyTo (by omega) (by omega) (by omega)) d_Model_isRoot_16 (by decide) jm_Model_copyTo jk_Model_85 ji_Model_copyTo js_Model_copyTo rfl (by decide) rfl rfl (Nat.le_of_ble_eq_true rfl) rfl ?_
  refine j_iconst (v := nI 1) d_Model_isRoot_19 rfl ?_
  refine j_istore (L' := [some (.ref 135), some (.int (nI s)), some (.int (nI x)), some (.int (nI d)), some (.int (nI 1))]) d_Model_isRoot_20 (by decide) rfl rfl ?_
  refine j_heap (h' := jM h (rtk (tnum (P s).1 x) 0 P)) (jM_P rtk_0) ?_
  refine j_loop (P := fun k => jJ n 2 jc_Model_isRoot 5 "YesNoPowersModel" 22 [some (.ref 135), some (.int (nI s)), some (.int (nI x)), some (.int (nI d)), some (.int (nI (k + 1)))] [] (jM h (rtk (tnum (P s).1 x) k P)) res) (m := d - 1) ?_ (fun k hk ih => ?_)
  · refine j_iload d_Model_isRoot_22 rfl ?_
    refine j_iload_n d_Model_isRoot_24 rfl ?_
    refine j_icmp_geN_t (tgt := 52) d_Model_isRoot_25 (by decide) (by omega) (by omega) (by omega) ?_
    refine j_aload_n d_Model_isRoot_52 rfl ?_
    refine j_bipush (v := nI 35) d_Model_isRoot_53 (by decide) ?_
    refine j_iload_n d_Model_isRoot_55 rfl ?_
    refine j_callVs (As := [.int (nI 35), .int (nI s)]) (st := []) (c_areSame (by omega) (by omega) (rtk_w hAw hw)) d_Model_isRoot_56 (by decide) jm_Model_areSame jk_Model_138 ji_Model_areSame js_Model_areSame rfl (by decide) rfl rfl (Nat.le_of_ble_eq_true rfl) rfl ?_
    subst hres
    exact j_reti d_Model_isRoot_59 (by rw [rtk_35, rtk_o (by omega)]) rfl
  · refine j_iload d_Model_isRoot_22 rfl ?_
    refine j_iload_n d_Model_isRoot_24 rfl ?_
    refine j_icmp_geN_f (tgt := 52) d_Model_isRoot_25 (by decide) (by omega) (by omega) (by omega) ?_
    refine j_aload_n d_Model_isRoot_28 rfl ?_
    refine j_bipush (v := nI 35) d_Model_isRoot_29 (by decide) ?_
    refine j_bipush (v := nI 34) d_Model_isRoot_31 (by decide) ?_
    refine j_bipush (v := nI 36) d_Model_isRoot_33 (by decide) ?_
    refine j_callVn (As := [.int (nI 35), .int (nI 34), .int (nI 36)]) (st := []) (c_multiply (by omega) (by omega) (by omega) (by omega) (by omega) (rtk_w hAw hw)) d_Model_isRoot_35 (by decide) jm_Model_multiply jk_Model_88 ji_Model_multiply js_Model_multiply rfl (by decide) rfl rfl (Nat.le_of_ble_eq_true rfl) rfl ?_
    refine j_aload_n d_Model_isRoot_38 rfl ?_
    refine j_bipush (v := nI 36) d_Model_isRoot_39 (by decide) ?_
    refine j_bipush (v := nI 35) d_Model_isRoot_41 (by decide) ?_
    refine j_callVn (As := [.int (nI 36), .int (nI 35)]) (st := []) (c_copyTo (by omega) (by omega) (by omega)) d_Model_isRoot_43 (by decide) jm_Model_copyTo jk_Model_85 ji_Model_copyTo js_Model_copyTo rfl (by decide) rfl rfl (Nat.le_of_ble_eq_true rfl) rfl ?_
    refine j_iincN (x := k + 1) (L' := [some (.ref 135), some (.int (nI s)), some (.int (nI x)), some (.int (nI d)), some (.int (nI ((k + 1) + 1)))]) d_Model_isRoot_46 rfl (by decide) rfl rfl ?_
    refine j_goto (tgt := 22) d_Model_isRoot_49 (by decide) ?_
    refine j_heap (h' := jM h (rtk (tnum (P s).1 x) (k + 1) P)) (jM_P rtk_s) ?_
    exact ih
theorem c_isDegree {n : jN} {h : jH} {d : Int32} : jC n 1 jy_Model_isDegree jc_Model_isDegree 1 (some .boolean) [.int d] h (some (.int (jbo (jin d 2 8)))) h := by
  refine jC_of jm_Model_isDegree (L := [some (.int d)]) (Nat.le_of_ble_eq_true rfl) rfl (jbo01 _) ?_
  generalize hres : (((some (.int (jbo (jin d 2 8)))), h) : Option Value × jH) = res
  refine j_iload_n d_Model_isDegree_0 rfl ?_
  refine j_i2l d_Model_isDegree_1 ?_
  refine j_ldc2 (v := 2) d_Model_isDegree_2 jk_Model_237 ?_
  refine j_ldc2 (v := 8) d_Model_isDegree_5 jk_Model_239 ?_
  refine j_callSs (As := [.long d.toInt64, .long 2, .long 8]) (st := []) (c_in (x := d) (lo := 2) (hi := 8) rfl rfl rfl) d_Model_isDegree_8 (by decide) jm_Model_in jk_Model_107 js_Model_in rfl (Nat.le_of_ble_eq_true rfl) rfl ?_
  subst hres
  exact j_reti d_Model_isDegree_11 rfl rfl
def isR (T : jT) (d x : Nat) : Bool := tsam (tpo (tnum T.1 x) (d - 1)) T 12
def rcn (T : jT) (d : Nat) : Nat → Nat
  | 0 => 0
  | x + 1 => rcn T d x + (if isR T d x then 1 else 0)
theorem rcn_le (T : jT) (d : Nat) : ∀ x, rcn T d x ≤ x
  | 0 => Nat.le_refl _
  | x + 1 => by
    have := rcn_le T d x
    unfold rcn
    split <;> omega
def rtX (T : jT) (d : Nat) (P : jP) : Nat → jP
  | 0 => P
  | x + 1 => rtk (tnum T.1 x) (d - 1) (rtX T d P x)
theorem rtX_w {T : jT} {d : Nat} {P : jP} (hT : T.1 ≤ 12) (hw : ∀ q, tw (P q)) : ∀ x q, tw (rtX T d P x q)
  | 0 => hw
  | x + 1 => rtk_w (tw_num hT) (rtX_w hT hw x)
theorem rtX_o {T : jT} {d : Nat} {P : jP} {q : Nat} (h : q < 34) : ∀ x, rtX T d P x q = P q
  | 0 => rfl
  | x + 1 => (rtk_o h).trans (rtX_o h x)
def jokRt (P : jP) (s d : Int32) : Bool := jho P s && jin d 2 8
def jokRt2 (P : jP) (s d t : Int32) : Bool := jho P s && jin d 2 8 && jsl t
theorem sq_le {m : Nat} (h : m ≤ 4) : m * m ≤ 16 := Nat.mul_le_mul h h
theorem p16 {m : Nat} (h : m ≤ 4) : 2 ^ (m * m) ≤ 65536 := Nat.pow_le_pow_right (by omega) (sq_le h)
theorem c_roots_bad {n : jN} {h : jH} {P : jP} {s d : Int32} (hw : ∀ q, tw (P q)) (hb : jokRt P s d = false) : jC n 3 jy_Model_roots jc_Model_roots 6 (some .int) [.ref 135, .int s, .int d] (jM h P) (some (.int (-1))) (jM h P) := by
  refine jC_of jm_Model_roots (L := [some (.ref 135), some (.int s), some (.int d), none, none, none]) (Nat.le_of_ble_eq_true rfl) rfl trivial ?_
  generalize hres : (((some (.int (-1))), jM h P) : Option Value × jH) = res
  refine j_aload_n d_Model_roots_0 rfl ?_
  refine j_iload_n d_Model_roots_1 rfl ?_
  refine j_callVs (As := [.int s]) (st := []) (c_holds hw) d_Model_roots_2 (by decide) jm_Model_holds jk_Model_117 ji_Model_holds js_Model_holds rfl (by decide) rfl rfl (Nat.le_of_ble_eq_true rfl) rfl ?_
  refine j_if_eqB (tgt := 15) d_Model_roots_5 (by decide) (fun c1 => ?_) (fun c1 => ?_)
  · refine j_iconst (v := -1) d_Model_roots_15 rfl ?_
    subst hres
    exact j_reti d_Model_roots_16 rfl rfl
  · refine j_iload_n d_Model_roots_8 rfl ?_
    refine j_callSs (As := [.int d]) (st := []) c_isDegree d_Model_roots_9 (by decide) jm_Model_isDegree jk_Model_241 js_Model_isDegree rfl (Nat.le_of_ble_eq_true rfl) rfl ?_
    refine j_if_neB (tgt := 17) d_Model_roots_12 (by decide) (fun c2 => ?_) (fun c2 => ?_)
    · exact absurd hb (by simp [jokRt, c1, c2])
    · refine j_iconst (v := -1) d_Model_roots_15 rfl ?_
      subst hres
      exact j_reti d_Model_roots_16 rfl rfl
theorem c_root_bad {n : jN} {h : jH} {P : jP} {s d t : Int32} (hw : ∀ q, tw (P q)) (hb : jokRt2 P s d t = false) : jC n 3 jy_Model_root jc_Model_root 7 (some .int) [.ref 135, .int s, .int d, .int t] (jM h P) (some (.int (-1))) (jM h P) := by
  refine jC_of jm_Model_root (L := [some (.ref 135), some (.int s), some (.int d), some (.int t), none, none, none]) (Nat.le_of_ble_eq_true rfl) rfl trivial ?_
  generalize hres : (((some (.int (-1))), jM h P) : Option Value × jH) = res
  refine j_aload_n d_Model_root_0 rfl ?_
  refine j_iload_n d_Model_root_1 rfl ?_
  refine j_callVs (As := [.int s]) (st := []) (c_holds hw) d_Model_root_2 (by decide) jm_Model_holds jk_Model_117 ji_Model_holds js_Model_holds rfl (by decide) rfl rfl (Nat.le_of_ble_eq_true rfl) rfl ?_
  refine j_if_eqB (tgt := 22) d_Model_root_5 (by decide) (fun c1 => ?_) (fun c1 => ?_)
  · refine j_iconst (v := -1) d_Model_root_22 rfl ?_
    subst hres
    exact j_reti d_Model_root_23 rfl rfl
  · refine j_iload_n d_Model_root_8 rfl ?_
    refine j_callSs (As := [.int d]) (st := []) c_isDegree d_Model_root_9 (by decide) jm_Model_isDegree jk_Model_241 js_Model_isDegree rfl (Nat.le_of_ble_eq_true rfl) rfl ?_
    refine j_if_eqB (tgt := 22) d_Model_root_12 (by decide) (fun c2 => ?_) (fun c2 => ?_)
    · refine j_iconst (v := -1) d_Model_root_22 rfl ?_
      subst hres
      exact j_reti d_Model_root_23 rfl rfl
    · refine j_iload_n d_Model_root_15 rfl ?_
      refine j_callSs (As := [.int t]) (st := []) c_isSlot d_Model_root_16 (by decide) jm_Model_isSlot jk_Model_63 js_Model_isSlot rfl (Nat.le_of_ble_eq_true rfl) rfl ?_
      refine j_if_neB (tgt := 24) d_Model_root_19 (by decide) (fun c3 => ?_) (fun c3 => ?_)
      · exact absurd hb (by simp [jokRt2, c1, c2, c3])
      · refine j_iconst (v := -1) d_Model_root_22 rfl ?_
        subst hres
        exact j_reti d_Model_root_23 rfl rfl
theorem c_roots_large {n : jN} {h : jH} {P : jP} {s d : Nat} (hw : ∀ q, tw (P q)) (hs : s < 6) (h0 : 0 < (P s).1) (hd : 2 ≤ d) (hd8 : d ≤ 8) (hm : 4 < (P s).1) : jC n 3 jy_Model_roots jc_Model_roots 6 (some .int) [.ref 135, .int (nI s), .int (nI d)] (jM h P) (some (.int (-5))) (jM h P) := by
  have hns := (hw s).1
  refine jC_of jm_Model_roots (L := [some (.ref 135), some (.int (nI s)), some (.int (nI d)), none, none, none]) (Nat.le_of_ble_eq_true rfl) rfl trivial ?_
  generalize hres : (((some (.int (-5))), jM h P) : Option Value × jH) = res
  refine j_aload_n d_Model_roots_0 rfl ?_
  refine j_iload_n d_Model_roots_1 rfl ?_
  refine j_callVs (As := [.int (nI s)]) (st := []) (c_holds hw) d_Model_roots_2 (by decide) jm_Model_holds jk_Model_117 ji_Model_holds js_Model_holds rfl (by decide) rfl rfl (Nat.le_of_ble_eq_true rfl) rfl ?_
  refine j_if_eqB_f (tgt := 15) d_Model_roots_5 (by decide) (jho_y hs h0) ?_
  refine j_iload_n d_Model_roots_8 rfl ?_
  refine j_callSs (As := [.int (nI d)]) (st := []) c_isDegree d_Model_roots_9 (by decide) jm_Model_isDegree jk_Model_241 js_Model_isDegree rfl (Nat.le_of_ble_eq_true rfl) rfl ?_
  refine j_if_neB_t (tgt := 17) d_Model_roots_12 (by decide) (jin_y (by omega) (by omega) (by omega)) ?_
  refine j_aload_n d_Model_roots_17 rfl ?_
  refine j_getr (b := 137) d_Model_roots_18 jf_Model_13 rfl rfl rfl (by decide) ?_
  refine j_iload_n d_Model_roots_21 rfl ?_
  refine j_ialdN (v := nI ((P s).1)) d_Model_roots_22 rfl (by omega) (by decide) rfl ?_
  refine j_istore_n (L' := [some (.ref 135), some (.int (nI s)), some (.int (nI d)), some (.int (nI ((P s).1))), none, none]) d_Model_roots_23 (by decide) rfl rfl ?_
  refine j_iload_n d_Model_roots_24 rfl ?_
  refine j_iconst (v := nI 4) d_Model_roots_25 rfl ?_
  refine j_icmp_leN_f (tgt := 32) d_Model_roots_26 (by decide) (by omega) (by omega) (by omega) ?_
  refine j_bipush (v := -5) d_Model_roots_29 (by decide) ?_
  subst hres
  exact j_reti d_Model_roots_31 rfl rfl
theorem c_root_large {n : jN} {h : jH} {P : jP} {s d t : Nat} (hw : ∀ q, tw (P q)) (hs : s < 6) (h0 : 0 < (P s).1) (hd : 2 ≤ d) (hd8 : d ≤ 8) (hm : 4 < (P s).1) (ht : t < 6) : jC n 3 jy_Model_root jc_Model_root 7 (some .int) [.ref 135, .int (nI s), .int (nI d), .int (nI t)] (jM h P) (some (.int (-5))) (jM h P) := by
  have hns := (hw s).1
  refine jC_of jm_Model_root (L := [some (.ref 135), some (.int (nI s)), some (.int (nI d)), some (.int (nI t)), none, none, none]) (Nat.le_of_ble_eq_true rfl) rfl trivial ?_
  generalize hres : (((some (.int (-5))), jM h P) : Option Value × jH) = res
  refine j_aload_n d_Model_root_0 rfl ?_
  refine j_iload_n d_Model_root_1 rfl ?_
  refine j_callVs (As := [.int (nI s)]) (st := []) (c_holds hw) d_Model_root_2 (by decide) jm_Model_holds jk_Model_117 ji_Model_holds js_Model_holds rfl (by decide) rfl rfl (Nat.le_of_ble_eq_true rfl) rfl ?_
  refine j_if_eqB_f (tgt := 22) d_Model_root_5 (by decide) (jho_y hs h0) ?_
  refine j_iload_n d_Model_root_8 rfl ?_
  refine j_callSs (As := [.int (nI d)]) (st := []) c_isDegree d_Model_root_9 (by decide) jm_Model_isDegree jk_Model_241 js_Model_isDegree rfl (Nat.le_of_ble_eq_true rfl) rfl ?_
  refine j_if_eqB_f (tgt := 22) d_Model_root_12 (by decide) (jin_y (by omega) (by omega) (by omega)) ?_
  refine j_iload_n d_Model_root_15 rfl ?_
  refine j_callSs (As := [.int (nI t)]) (st := []) c_isSlot d_Model_root_16 (by decide) jm_Model_isSlot jk_Model_63 js_Model_isSlot rfl (Nat.le_of_ble_eq_true rfl) rfl ?_
  refine j_if_neB_t (tgt := 24) d_Model_root_19 (by decide) (jsl_N ht) ?_
  refine j_aload_n d_Model_root_24 rfl ?_
  refine j_getr (b := 137) d_Model_root_25 jf_Model_13 rfl rfl rfl (by decide) ?_
  refine j_iload_n d_Model_root_28 rfl ?_
  refine j_ialdN (v := nI ((P s).1)) d_Model_root_29 rfl (by omega) (by decide) rfl ?_
  refine j_istore (L' := [some (.ref 135), some (.int (nI s)), some (.int (nI d)), some (.int (nI t)), some (.int (nI ((P s).1))), none, none]) d_Model_root_30 (by decide) rfl rfl ?_
  refine j_iload d_Model_root_32 rfl ?_
  refine j_iconst (v := nI 4) d_Model_root_34 rfl ?_
  refine j_icmp_leN_f (tgt := 41) d_Model_root_35 (by decide) (by omega) (by omega) (by omega) ?_
  refine j_bipush (v := -5) d_Model_root_38 (by decide) ?_
  subst hres
  exact j_reti d_Model_root_40 rfl rfl
theorem c_roots {n : jN} {h : jH} {P : jP} {s d : Nat} (hw : ∀ q, tw (P q)) (hs : s < 6) (h0 : 0 < (P s).1) (hd : 2 ≤ d) (hd8 : d ≤ 8) (hm : (P s).1 ≤ 4) : jC n 3 jy_Model_roots jc_Model_roots 6 (some .int) [.ref 135, .int (nI s), .int (nI d)] (jM h P) (some (.int (nI (rcn (P s) d (2 ^ ((P s).1 * (P s).1)))))) (jM h (rtX (P s) d P (2 ^ ((P s).1 * (P s).1)))) := by
  have hns := (hw s).1
  refine jC_of jm_Model_roots (L := [some (.ref 135), some (.int (nI s)), some (.int (nI d)), none, none, none]) (Nat.le_of_ble_eq_true rfl) rfl trivial ?_
  generalize hres : (((some (.int (nI (rcn (P s) d (2 ^ ((P s).1 * (P s).1)))))), jM h (rtX (P s) d P (2 ^ ((P s).1 * (P s).1)))) : Option Value × jH) = res
  have h16 := p16 hm
  have hsq := sq_le hm
  refine j_aload_n d_Model_roots_0 rfl ?_
  refine j_iload_n d_Model_roots_1 rfl ?_
  refine j_callVs (As := [.int (nI s)]) (st := []) (c_holds hw) d_Model_roots_2 (by decide) jm_Model_holds jk_Model_117 ji_Model_holds js_Model_holds rfl (by decide) rfl rfl (Nat.le_of_ble_eq_true rfl) rfl ?_
  refine j_if_eqB_f (tgt := 15) d_Model_roots_5 (by decide) (jho_y hs h0) ?_
  refine j_iload_n d_Model_roots_8 rfl ?_
  refine j_callSs (As := [.int (nI d)]) (st := []) c_isDegree d_Model_roots_9 (by decide) jm_Model_isDegree jk_Model_241 js_Model_isDegree rfl (Nat.le_of_ble_eq_true rfl) rfl ?_
  refine j_if_neB_t (tgt := 17) d_Model_roots_12 (by decide) (jin_y (by omega) (by omega) (by omega)) ?_
  refine j_aload_n d_Model_roots_17 rfl ?_
  refine j_getr (b := 137) d_Model_roots_18 jf_Model_13 rfl rfl rfl (by decide) ?_
  refine j_iload_n d_Model_roots_21 rfl ?_
  refine j_ialdN (v := nI ((P s).1)) d_Model_roots_22 rfl (by omega) (by decide) rfl ?_
  refine j_istore_n (L' := [some (.ref 135), some (.int (nI s)), some (.int (nI d)), some (.int (nI ((P s).1))), none, none]) d_Model_roots_23 (by decide) rfl rfl ?_
  refine j_iload_n d_Model_roots_24 rfl ?_
  refine j_iconst (v := nI 4) d_Model_roots_25 rfl ?_
  refine j_icmp_leN_t (tgt := 32) d_Model_roots_26 (by decide) (by omega) (by omega) (by omega) ?_
  refine j_iconst (v := nI 0) d_Model_roots_32 rfl ?_
  refine j_istore (L' := [some (.ref 135), some (.int (nI s)), some (.int (nI d)), some (.int (nI ((P s).1))), some (.int (nI 0)), none]) d_Model_roots_33 (by decide) rfl rfl ?_
  refine j_iconst (v := nI 0) d_Model_roots_35 rfl ?_
  refine j_istore (L' := [some (.ref 135), some (.int (nI s)), some (.int (nI d)), some (.int (nI ((P s).1))), some (.int (nI 0)), some (.int (nI 0))]) d_Model_roots_36 (by decide) rfl rfl ?_
  refine j_loop (P := fun x => jJ n 3 jc_Model_roots 6 "YesNoPowersModel" 38 [some (.ref 135), some (.int (nI s)), some (.int (nI d)), some (.int (nI ((P s).1))), some (.int (nI (rcn (P s) d x))), some (.int (nI x))] [] (jM h (rtX (P s) d P x)) res) (m := 2 ^ ((P s).1 * (P s).1)) ?_ (fun x hx ih => ?_)
  · refine j_iload d_Model_roots_38 rfl ?_
    refine j_iconst (v := nI 1) d_Model_roots_40 rfl ?_
    refine j_iload_n d_Model_roots_41 rfl ?_
    refine j_iload_n d_Model_roots_42 rfl ?_
    refine j_imulN d_Model_roots_43 ?_
    refine j_shl1N d_Model_roots_44 (by omega) ?_
    refine j_icmp_geN_t (tgt := 75) d_Model_roots_45 (by decide) (by omega) (by omega) (Nat.le_refl _) ?_
    refine j_iload d_Model_roots_75 rfl ?_
    subst hres
    exact j_reti d_Model_roots_77 rfl rfl
  · refine j_iload d_Model_roots_38 rfl ?_
    refine j_iconst (v := nI 1) d_Model_roots_40 rfl ?_
    refine j_iload_n d_Model_roots_41 rfl ?_
    refine j_iload_n d_Model_roots_42 rfl ?_
    refine j_imulN d_Model_roots_43 ?_
    refine j_shl1N d_Model_roots_44 (by omega) ?_
    refine j_icmp_geN_f (tgt := 75) d_Model_roots_45 (by decide) (by omega) (by omega) (Nat.not_le.mpr hx) ?_
    refine j_iload d_Model_roots_48 rfl ?_
    refine j_aload_n d_Model_roots_50 rfl ?_
    refine j_iload_n d_Model_roots_51 rfl ?_
    refine j_iload d_Model_roots_52 rfl ?_
    refine j_iload_n d_Model_roots_54 rfl ?_
    refine j_callVs (As := [.int (nI s), .int (nI x), .int (nI d)]) (st := [.int (nI (rcn (P s) d x))]) (by have := c_isRoot (n := n) (h := h) (P := rtX (P s) d P x) (s := s) (x := x) (d := d) (rtX_w hns hw x) hs (by rw [rtX_o (by omega)]; exact hm) (by omega) hd hd8; rwa [rtX_o (show s < 34 by omega)] at this) d_Model_roots_55 (by decide) jm_Model_isRoot jk_Model_244 ji_Model_isRoot js_Model_isRoot rfl (by decide) rfl rfl (Nat.le_of_ble_eq_true rfl) rfl ?_
    refine j_if_eqB (tgt := 65) d_Model_roots_58 (by decide) (fun c => ?_) (fun c => ?_)
    · refine j_iconst (v := nI 0) d_Model_roots_65 rfl ?_
      refine j_iaddN d_Model_roots_66 ?_
      refine j_top (w := nI (rcn (P s) d (x + 1))) (congrArg nI (by simp [rcn, isR, c])) ?_
      refine j_istore (L' := [some (.ref 135), some (.int (nI s)), some (.int (nI d)), some (.int (nI ((P s).1))), some (.int (nI (rcn (P s) d (x + 1)))), some (.int (nI x))]) d_Model_roots_67 (by decide) rfl rfl ?_
      refine j_iincN (x := x) (L' := [some (.ref 135), some (.int (nI s)), some (.int (nI d)), some (.int (nI ((P s).1))), some (.int (nI (rcn (P s) d (x + 1)))), some (.int (nI (x + 1)))]) d_Model_roots_69 rfl (by decide) rfl rfl ?_
      refine j_goto (tgt := 38) d_Model_roots_72 (by decide) ?_
      exact ih
    · refine j_iconst (v := nI 1) d_Model_roots_61 rfl ?_
      refine j_goto (tgt := 66) d_Model_roots_62 (by decide) ?_
      refine j_iaddN d_Model_roots_66 ?_
      refine j_top (w := nI (rcn (P s) d (x + 1))) (congrArg nI (by simp [rcn, isR, c])) ?_
      refine j_istore (L' := [some (.ref 135), some (.int (nI s)), some (.int (nI d)), some (.int (nI ((P s).1))), some (.int (nI (rcn (P s) d (x + 1)))), some (.int (nI x))]) d_Model_roots_67 (by decide) rfl rfl ?_
      refine j_iincN (x := x) (L' := [some (.ref 135), some (.int (nI s)), some (.int (nI d)), some (.int (nI ((P s).1))), some (.int (nI (rcn (P s) d (x + 1)))), some (.int (nI (x + 1)))]) d_Model_roots_69 rfl (by decide) rfl rfl ?_
      refine j_goto (tgt := 38) d_Model_roots_72 (by decide) ?_
      exact ih
theorem c_root_none {n : jN} {h : jH} {ls : Nat → Nat} {lg : Nat} {P : jP} {s d t : Nat} (hl : lg ≤ 20) (hw : ∀ q, tw (P q)) (hs : s < 6) (h0 : 0 < (P s).1) (hd : 2 ≤ d) (hd8 : d ≤ 8) (ht : t < 6) (hm : (P s).1 ≤ 4) (hn : ∀ x, x < 2 ^ ((P s).1 * (P s).1) → isR (P s) d x = false) : jC n 3 jy_Model_root jc_Model_root 7 (some .int) [.ref 135, .int (nI s), .int (nI d), .int (nI t)] (jM (jL h ls lg) P) (some (.int (-2))) (jM (jL h ls lg) (rtX (P s) d P (2 ^ ((P s).1 * (P s).1)))) := by
  have hns := (hw s).1
  refine jC_of jm_Model_root (L := [some (.ref 135), some (.int (nI s)), some (.int (nI d)), some (.int (nI t)), none, none, none]) (Nat.le_of_ble_eq_true rfl) rfl trivial ?_
  generalize hres : (((some (.int (-2))), jM (jL h ls lg) (rtX (P s) d P (2 ^ ((P s).1 * (P s).1)))) : Option Value × jH) = res
  have h16 := p16 hm
  have hsq := sq_le hm
  refine j_aload_n d_Model_root_0 rfl ?_
  refine j_iload_n d_Model_root_1 rfl ?_
  refine j_callVs (As := [.int (nI s)]) (st := []) (c_holds hw) d_Model_root_2 (by decide) jm_Model_holds jk_Model_117 ji_Model_holds js_Model_holds rfl (by decide) rfl rfl (Nat.le_of_ble_eq_true rfl) rfl ?_
  refine j_if_eqB_f (tgt := 22) d_Model_root_5 (by decide) (jho_y hs h0) ?_
  refine j_iload_n d_Model_root_8 rfl ?_
  refine j_callSs (As := [.int (nI d)]) (st := []) c_isDegree d_Model_root_9 (by decide) jm_Model_isDegree jk_Model_241 js_Model_isDegree rfl (Nat.le_of_ble_eq_true rfl) rfl ?_
  refine j_if_eqB_f (tgt := 22) d_Model_root_12 (by decide) (jin_y (by omega) (by omega) (by omega)) ?_
  refine j_iload_n d_Model_root_15 rfl ?_
  refine j_callSs (As := [.int (nI t)]) (st := []) c_isSlot d_Model_root_16 (by decide) jm_Model_isSlot jk_Model_63 js_Model_isSlot rfl (Nat.le_of_ble_eq_true rfl) rfl ?_
  refine j_if_neB_t (tgt := 24) d_Model_root_19 (by decide) (jsl_N ht) ?_
  refine j_aload_n d_Model_root_24 rfl ?_
  refine j_getr (b := 137) d_Model_root_25 jf_Model_13 rfl rfl rfl (by decide) ?_
  refine j_iload_n d_Model_root_28 rfl ?_
  refine j_ialdN (v := nI ((P s).1)) d_Model_root_29 rfl (by omega) (by decide) rfl ?_
  refine j_istore (L' := [some (.ref 135), some (.int (nI s)), some (.int (nI d)), some (.int (nI t)), some (.int (nI ((P s).1))), none, none]) d_Model_root_30 (by decide) rfl rfl ?_
  refine j_iload d_Model_root_32 rfl ?_
  refine j_iconst (v := nI 4) d_Model_root_34 rfl ?_
  refine j_icmp_leN_t (tgt := 41) d_Model_root_35 (by decide) (by omega) (by omega) (by omega) ?_
  refine j_iconst (v := nI 0) d_Model_root_41 rfl ?_
  refine j_istore (L' := [some (.ref 135), some (.int (nI s)), some (.int (nI d)), some (.int (nI t)), some (.int (nI ((P s).1))), some (.int (nI 0)), none]) d_Model_root_42 (by decide) rfl rfl ?_
  refine j_loop (P := fun x => jJ n 3 jc_Model_root 7 "YesNoPowersModel" 44 [some (.ref 135), some (.int (nI s)), some (.int (nI d)), some (.int (nI t)), some (.int (nI ((P s).1))), some (.int (nI x)), none] [] (jM (jL h ls lg) (rtX (P s) d P x)) res) (m := 2 ^ ((P s).1 * (P s).1)) ?_ (fun x hx ih => ?_)
  · refine j_iload d_Model_root_44 rfl ?_
    refine j_iconst (v := nI 1) d_Model_root_46 rfl ?_
    refine j_iload d_Model_root_47 rfl ?_
    refine j_iload d_Model_root_49 rfl ?_
    refine j_imulN d_Model_root_51 ?_
    refine j_shl1N d_Model_root_52 (by omega) ?_
    refine j_icmp_geN_t (tgt := 91) d_Model_root_53 (by decide) (by omega) (by omega) (Nat.le_refl _) ?_
    refine j_bipush (v := -2) d_Model_root_91 (by decide) ?_
    subst hres
    exact j_reti d_Model_root_93 rfl rfl
  · refine j_iload d_Model_root_44 rfl ?_
    refine j_iconst (v := nI 1) d_Model_root_46 rfl ?_
    refine j_iload d_Model_root_47 rfl ?_
    refine j_iload d_Model_root_49 rfl ?_
    refine j_imulN d_Model_root_51 ?_
    refine j_shl1N d_Model_root_52 (by omega) ?_
    refine j_icmp_geN_f (tgt := 91) d_Model_root_53 (by decide) (by omega) (by omega) (by omega) ?_
    refine j_aload_n d_Model_root_56 rfl ?_
    refine j_iload_n d_Model_root_57 rfl ?_
    refine j_iload d_Model_root_58 rfl ?_
    refine j_iload_n d_Model_root_60 rfl ?_
    refine j_callVs (As := [.int (nI s), .int (nI x), .int (nI d)]) (st := []) (by have := c_isRoot (n := n) (h := jL h ls lg) (P := rtX (P s) d P x) (s := s) (x := x) (d := d) (rtX_w hns hw x) hs (by rw [rtX_o (by omega)]; exact hm) (by omega) hd hd8; rwa [rtX_o (show s < 34 by omega)] at this) d_Model_root_61 (by decide) jm_Model_isRoot jk_Model_244 ji_Model_isRoot js_Model_isRoot rfl (by decide) rfl rfl (Nat.le_of_ble_eq_true rfl) rfl ?_
    refine j_if_eqB_t (tgt := 85) d_Model_root_64 (by decide) (hn x hx) ?_
    refine j_iincN (x := x) (L' := [some (.ref 135), some (.int (nI s)), some (.int (nI d)), some (.int (nI t)), some (.int (nI ((P s).1))), some (.int (nI (x + 1))), none]) d_Model_root_85 rfl (by decide) rfl rfl ?_
    refine j_goto (tgt := 44) d_Model_root_88 (by decide) ?_
    exact ih
theorem c_root_some {n : jN} {h : jH} {ls : Nat → Nat} {lg : Nat} {P : jP} {s d t x0 : Nat} (hl : lg ≤ 20) (hw : ∀ q, tw (P q)) (hs : s < 6) (h0 : 0 < (P s).1) (hd : 2 ≤ d) (hd8 : d ≤ 8) (ht : t < 6) (hm : (P s).1 ≤ 4) (hx0 : x0 < 2 ^ ((P s).1 * (P s).1)) (hr : isR (P s) d x0 = true) (hn : ∀ x, x < x0 → isR (P s) d x = false) : jC n 3 jy_Model_root jc_Model_root 7 (some .int) [.ref 135, .int (nI s), .int (nI d), .int (nI t)] (jM (jL h ls lg) P) (some (.int (nI x0))) (jM (jL h (lgS ls lg t) (lgN lg)) (jcome (jset (rtX (P s) d P (x0 + 1)) 35 (tnum (P s).1 x0)) lg t)) := by
  have hns := (hw s).1
  refine jC_of jm_Model_root (L := [some (.ref 135), some (.int (nI s)), some (.int (nI d)), some (.int (nI t)), none, none, none]) (Nat.le_of_ble_eq_true rfl) rfl trivial ?_
  generalize hres : (((some (.int (nI x0))), jM (jL h (lgS ls lg t) (lgN lg)) (jcome (jset (rtX (P s) d P (x0 + 1)) 35 (tnum (P s).1 x0)) lg t)) : Option Value × jH) = res
  have h16 := p16 hm
  have hsq := sq_le hm
  refine j_aload_n d_Model_root_0 rfl ?_
  refine j_iload_n d_Model_root_1 rfl ?_
  refine j_callVs (As := [.int (nI s)]) (st := []) (c_holds hw) d_Model_root_2 (by decide) jm_Model_holds jk_Model_117 ji_Model_holds js_Model_holds rfl (by decide) rfl rfl (Nat.le_of_ble_eq_true rfl) rfl ?_
  refine j_if_eqB_f (tgt := 22) d_Model_root_5 (by decide) (jho_y hs h0) ?_
  refine j_iload_n d_Model_root_8 rfl ?_
  refine j_callSs (As := [.int (nI d)]) (st := []) c_isDegree d_Model_root_9 (by decide) jm_Model_isDegree jk_Model_241 js_Model_isDegree rfl (Nat.le_of_ble_eq_true rfl) rfl ?_
  refine j_if_eqB_f (tgt := 22) d_Model_root_12 (by decide) (jin_y (by omega) (by omega) (by omega)) ?_
  refine j_iload_n d_Model_root_15 rfl ?_
  refine j_callSs (As := [.int (nI t)]) (st := []) c_isSlot d_Model_root_16 (by decide) jm_Model_isSlot jk_Model_63 js_Model_isSlot rfl (Nat.le_of_ble_eq_true rfl) rfl ?_
  refine j_if_neB_t (tgt := 24) d_Model_root_19 (by decide) (jsl_N ht) ?_
  refine j_aload_n d_Model_root_24 rfl ?_
  refine j_getr (b := 137) d_Model_root_25 jf_Model_13 rfl rfl rfl (by decide) ?_
  refine j_iload_n d_Model_root_28 rfl ?_
  refine j_ialdN (v := nI ((P s).1)) d_Model_root_29 rfl (by omega) (by decide) rfl ?_
  refine j_istore (L' := [some (.ref 135), some (.int (nI s)), some (.int (nI d)), some (.int (nI t)), some (.int (nI ((P s).1))), none, none]) d_Model_root_30 (by decide) rfl rfl ?_
  refine j_iload d_Model_root_32 rfl ?_
  refine j_iconst (v := nI 4) d_Model_root_34 rfl ?_
  refine j_icmp_leN_t (tgt := 41) d_Model_root_35 (by decide) (by omega) (by omega) (by omega) ?_
  refine j_iconst (v := nI 0) d_Model_root_41 rfl ?_
  refine j_istore (L' := [some (.ref 135), some (.int (nI s)), some (.int (nI d)), some (.int (nI t)), some (.int (nI ((P s).1))), some (.int (nI 0)), none]) d_Model_root_42 (by decide) rfl rfl ?_
  refine j_loop (P := fun x => jJ n 3 jc_Model_root 7 "YesNoPowersModel" 44 [some (.ref 135), some (.int (nI s)), some (.int (nI d)), some (.int (nI t)), some (.int (nI ((P s).1))), some (.int (nI x)), none] [] (jM (jL h ls lg) (rtX (P s) d P x)) res) (m := x0) ?_ (fun x hx ih => ?_)
  · refine j_iload d_Model_root_44 rfl ?_
    refine j_iconst (v := nI 1) d_Model_root_46 rfl ?_
    refine j_iload d_Model_root_47 rfl ?_
    refine j_iload d_Model_root_49 rfl ?_
    refine j_imulN d_Model_root_51 ?_
    refine j_shl1N d_Model_root_52 (by omega) ?_
    refine j_icmp_geN_f (tgt := 91) d_Model_root_53 (by decide) (by omega) (by omega) (Nat.not_le.mpr hx0) ?_
    refine j_aload_n d_Model_root_56 rfl ?_
    refine j_iload_n d_Model_root_57 rfl ?_
    refine j_iload d_Model_root_58 rfl ?_
    refine j_iload_n d_Model_root_60 rfl ?_
    refine j_callVs (As := [.int (nI s), .int (nI x0), .int (nI d)]) (st := []) (by have := c_isRoot (n := n) (h := jL h ls lg) (P := rtX (P s) d P x0) (s := s) (x := x0) (d := d) (rtX_w hns hw x0) hs (by rw [rtX_o (by omega)]; exact hm) (by omega) hd hd8; rwa [rtX_o (show s < 34 by omega)] at this) d_Model_root_61 (by decide) jm_Model_isRoot jk_Model_244 ji_Model_isRoot js_Model_isRoot rfl (by decide) rfl rfl (Nat.le_of_ble_eq_true rfl) rfl ?_
    refine j_if_eqB_f (tgt := 85) d_Model_root_64 (by decide) hr ?_
    refine j_aload_n d_Model_root_67 rfl ?_
    refine j_bipush (v := nI 34) d_Model_root_68 (by decide) ?_
    refine j_bipush (v := nI 35) d_Model_root_70 (by decide) ?_
    refine j_callVn (As := [.int (nI 34), .int (nI 35)]) (st := []) (c_copyTo (by omega) (by omega) (by omega)) d_Model_root_72 (by decide) jm_Model_copyTo jk_Model_85 ji_Model_copyTo js_Model_copyTo rfl (by decide) rfl rfl (Nat.le_of_ble_eq_true rfl) rfl ?_
    refine j_aload_n d_Model_root_75 rfl ?_
    refine j_iload_n d_Model_root_76 rfl ?_
    refine j_callVs (As := [.int (nI t)]) (st := []) (c_comes hl (by omega) (tws (rtX_w hns hw (x0 + 1)) ((rtX_w hns hw (x0 + 1)) 34))) d_Model_root_77 (by decide) jm_Model_comes jk_Model_113 ji_Model_comes js_Model_comes rfl (by decide) rfl rfl (Nat.le_of_ble_eq_true rfl) rfl ?_
    refine j_istore (L' := [some (.ref 135), some (.int (nI s)), some (.int (nI d)), some (.int (nI t)), some (.int (nI ((P s).1))), some (.int (nI x0)), some (.int (nI (((jset (rtX (P s) d P (x0 + 1)) 35 ((rtX (P s) d P (x0 + 1)) 34)) 35).1)))]) d_Model_root_80 (by decide) rfl rfl ?_
    refine j_iload d_Model_root_82 rfl ?_
    subst hres
    exact j_reti d_Model_root_84 rfl (by rw [show rtk (tnum (P s).1 x0) (d - 1) (rtX (P s) d P x0) 34 = tnum (P s).1 x0 from by rw [rtk, jset_ne (by omega), jset_ne (by omega), jset_eq]]; rfl)
  · refine j_iload d_Model_root_44 rfl ?_
    refine j_iconst (v := nI 1) d_Model_root_46 rfl ?_
    refine j_iload d_Model_root_47 rfl ?_
    refine j_iload d_Model_root_49 rfl ?_
    refine j_imulN d_Model_root_51 ?_
    refine j_shl1N d_Model_root_52 (by omega) ?_
    refine j_icmp_geN_f (tgt := 91) d_Model_root_53 (by decide) (by omega) (by omega) (by omega) ?_
    refine j_aload_n d_Model_root_56 rfl ?_
    refine j_iload_n d_Model_root_57 rfl ?_
    refine j_iload d_Model_root_58 rfl ?_
    refine j_iload_n d_Model_root_60 rfl ?_
    refine j_callVs (As := [.int (nI s), .int (nI x), .int (nI d)]) (st := []) (by have := c_isRoot (n := n) (h := jL h ls lg) (P := rtX (P s) d P x) (s := s) (x := x) (d := d) (rtX_w hns hw x) hs (by rw [rtX_o (by omega)]; exact hm) (by omega) hd hd8; rwa [rtX_o (show s < 34 by omega)] at this) d_Model_root_61 (by decide) jm_Model_isRoot jk_Model_244 ji_Model_isRoot js_Model_isRoot rfl (by decide) rfl rfl (Nat.le_of_ble_eq_true rfl) rfl ?_
    refine j_if_eqB_t (tgt := 85) d_Model_root_64 (by decide) (hn x hx) ?_
    refine j_iincN (x := x) (L' := [some (.ref 135), some (.int (nI s)), some (.int (nI d)), some (.int (nI t)), some (.int (nI ((P s).1))), some (.int (nI (x + 1))), none]) d_Model_root_85 rfl (by decide) rfl rfl ?_
    refine j_goto (tgt := 44) d_Model_root_88 (by decide) ?_
    exact ih

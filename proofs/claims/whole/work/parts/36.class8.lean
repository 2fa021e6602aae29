theorem rst_le {m : Nat} (hm : m ≤ 4) : ([0, 1, 5, 73, 4369] : List Nat).getD m 0 ≤ 4369 := by
  rcases (show m = 0 ∨ m = 1 ∨ m = 2 ∨ m = 3 ∨ m = 4 by omega) with e | e | e | e | e <;> rw [e] <;> decide
theorem rpr_lt {m a b k : Nat} (hm : m ≤ 4) : rpr m a b k < 2 ^ 17 := jor_lt (m := 17) fun i _ => by
  have h2m : 2 ^ m ≤ 2 ^ 4 := Nat.pow_le_pow_right (by omega) hm
  have h1 : (a / 2 ^ i &&& ([0, 1, 5, 73, 4369] : List Nat).getD m 0) ≤ 4369 := Nat.le_trans Nat.and_le_right (rst_le hm)
  have h2 : (b / 2 ^ (m * i) &&& (2 ^ m - 1)) ≤ 15 := Nat.le_trans Nat.and_le_right (by omega)
  exact Nat.lt_of_le_of_lt (Nat.mul_le_mul h1 h2) (by decide)
def rsq (m y : Nat) : Nat := rpr m y y m
def rmu (m x y : Nat) : Nat := rpr m y x m
theorem rsq_lt {m y : Nat} (hm : m ≤ 4) : rsq m y < 2 ^ 31 := Nat.lt_trans (rpr_lt hm) (by decide)
theorem rmu_lt {m x y : Nat} (hm : m ≤ 4) : rmu m x y < 2 ^ 31 := Nat.lt_trans (rpr_lt hm) (by decide)
def rai (m d x : Nat) : Nat := match d with
  | 2 => rsq m x
  | 3 => rmu m x (rsq m x)
  | 4 => rsq m (rsq m x)
  | 5 => rmu m x (rsq m (rsq m x))
  | 6 => rsq m (rmu m x (rsq m x))
  | 7 => rmu m x (rsq m (rmu m x (rsq m x)))
  | _ => rsq m (rsq m (rsq m x))
theorem x_raised2 {n : jN} {h : jH} {m x : Nat} (hm : m ≤ 4) (hx : x < 2 ^ 31) : jC n 1 jy_Roots_raised jc_Roots_raised 5 (some .int) [.int (nI m), .int (nI 2), .int (nI x)] h (some (.int (nI (rai m 2 x)))) h := by
  refine jC_of jm_Roots_raised (L := [some (.int (nI m)), some (.int (nI 2)), some (.int (nI x)), none, none]) (Nat.le_of_ble_eq_true rfl) rfl trivial ?_
  generalize hres : (((some (.int (nI (rai m 2 x)))), h) : Option Value × jH) = res
  refine j_iload_n d_Roots_raised_0 rfl ?_
  refine j_istore_n (L' := [some (.int (nI m)), some (.int (nI 2)), some (.int (nI x)), some (.int (nI x)), none]) d_Roots_raised_1 (by decide) rfl rfl ?_
  refine j_iload_n d_Roots_raised_2 rfl ?_
  refine j_iconst (v := nI 4) d_Roots_raised_3 rfl ?_
  refine j_icmp_geN_f (tgt := 11) d_Roots_raised_4 (by decide) (by omega) (by omega) (by decide) ?_
  refine j_iconst (v := nI 0) d_Roots_raised_7 rfl ?_
  refine j_goto (tgt := 22) d_Roots_raised_8 (by decide) ?_
  refine j_istore (L' := [some (.int (nI m)), some (.int (nI 2)), some (.int (nI x)), some (.int (nI x)), some (.int (nI 0))]) d_Roots_raised_22 (by decide) rfl rfl ?_
  refine j_iload d_Roots_raised_24 rfl ?_
  refine j_if_ltN (tgt := 59) d_Roots_raised_26 (by decide) (by omega) (fun q => q.elim) (fun _ => ?_)
  refine j_iload_n d_Roots_raised_29 rfl ?_
  refine j_iload_n d_Roots_raised_30 rfl ?_
  refine j_iload_n d_Roots_raised_31 rfl ?_
  refine j_callSs (As := [.int (nI m), .int (nI x), .int (nI x)]) (st := []) (x_product hm hx hx) d_Roots_raised_32 (by decide) jm_Roots_product jk_Roots_20 js_Roots_product rfl (Nat.le_of_ble_eq_true rfl) rfl ?_
  refine j_istore_n (L' := [some (.int (nI m)), some (.int (nI 2)), some (.int (nI x)), some (.int (nI (rsq m x))), some (.int (nI 0))]) d_Roots_raised_35 (by decide) rfl rfl ?_
  refine j_iload_n d_Roots_raised_36 rfl ?_
  refine j_iload d_Roots_raised_37 rfl ?_
  refine j_ishrN d_Roots_raised_39 (by omega) (by omega) ?_
  refine j_iconst (v := nI 1) d_Roots_raised_40 rfl ?_
  refine j_iandN d_Roots_raised_41 ?_
  refine j_top (w := jbo ((2).testBit 0)) (ni_bit _ _) ?_
  refine j_iconst (v := nI 1) d_Roots_raised_42 rfl ?_
  refine j_icmp_neB (tgt := 53) d_Roots_raised_43 (by decide) (fun _ => ?_) (fun q => absurd q (by decide))
  refine j_iinc (v := -1) (L' := [some (.int (nI m)), some (.int (nI 2)), some (.int (nI x)), some (.int (nI (rsq m x))), some (.int (-1))]) d_Roots_raised_53 rfl (by decide) (by decide) rfl rfl ?_
  refine j_goto (tgt := 24) d_Roots_raised_56 (by decide) ?_
  refine j_iload d_Roots_raised_24 rfl ?_
  refine j_if_lt_t (tgt := 59) d_Roots_raised_26 (by decide) (by decide) ?_
  refine j_iload_n d_Roots_raised_59 rfl ?_
  subst hres
  exact j_reti d_Roots_raised_60 rfl rfl
theorem x_raised3 {n : jN} {h : jH} {m x : Nat} (hm : m ≤ 4) (hx : x < 2 ^ 31) : jC n 1 jy_Roots_raised jc_Roots_raised 5 (some .int) [.int (nI m), .int (nI 3), .int (nI x)] h (some (.int (nI (rai m 3 x)))) h := by
  refine jC_of jm_Roots_raised (L := [some (.int (nI m)), some (.int (nI 3)), some (.int (nI x)), none, none]) (Nat.le_of_ble_eq_true rfl) rfl trivial ?_
  generalize hres : (((some (.int (nI (rai m 3 x)))), h) : Option Value × jH) = res
  refine j_iload_n d_Roots_raised_0 rfl ?_
  refine j_istore_n (L' := [some (.int (nI m)), some (.int (nI 3)), some (.int (nI x)), some (.int (nI x)), none]) d_Roots_raised_1 (by decide) rfl rfl ?_
  refine j_iload_n d_Roots_raised_2 rfl ?_
  refine j_iconst (v := nI 4) d_Roots_raised_3 rfl ?_
  refine j_icmp_geN_f (tgt := 11) d_Roots_raised_4 (by decide) (by omega) (by omega) (by decide) ?_
  refine j_iconst (v := nI 0) d_Roots_raised_7 rfl ?_
  refine j_goto (tgt := 22) d_Roots_raised_8 (by decide) ?_
  refine j_istore (L' := [some (.int (nI m)), some (.int (nI 3)), some (.int (nI x)), some (.int (nI x)), some (.int (nI 0))]) d_Roots_raised_22 (by decide) rfl rfl ?_
  refine j_iload d_Roots_raised_24 rfl ?_
  refine j_if_ltN (tgt := 59) d_Roots_raised_26 (by decide) (by omega) (fun q => q.elim) (fun _ => ?_)
  refine j_iload_n d_Roots_raised_29 rfl ?_
  refine j_iload_n d_Roots_raised_30 rfl ?_
  refine j_iload_n d_Roots_raised_31 rfl ?_
  refine j_callSs (As := [.int (nI m), .int (nI x), .int (nI x)]) (st := []) (x_product hm hx hx) d_Roots_raised_32 (by decide) jm_Roots_product jk_Roots_20 js_Roots_product rfl (Nat.le_of_ble_eq_true rfl) rfl ?_
  refine j_istore_n (L' := [some (.int (nI m)), some (.int (nI 3)), some (.int (nI x)), some (.int (nI (rsq m x))), some (.int (nI 0))]) d_Roots_raised_35 (by decide) rfl rfl ?_
  refine j_iload_n d_Roots_raised_36 rfl ?_
  refine j_iload d_Roots_raised_37 rfl ?_
  refine j_ishrN d_Roots_raised_39 (by omega) (by omega) ?_
  refine j_iconst (v := nI 1) d_Roots_raised_40 rfl ?_
  refine j_iandN d_Roots_raised_41 ?_
  refine j_top (w := jbo ((3).testBit 0)) (ni_bit _ _) ?_
  refine j_iconst (v := nI 1) d_Roots_raised_42 rfl ?_
  refine j_icmp_neB (tgt := 53) d_Roots_raised_43 (by decide) (fun q => absurd q (by decide)) (fun _ => ?_)
  refine j_iload_n d_Roots_raised_46 rfl ?_
  refine j_iload_n d_Roots_raised_47 rfl ?_
  refine j_iload_n d_Roots_raised_48 rfl ?_
  refine j_callSs (As := [.int (nI m), .int (nI (rsq m x)), .int (nI x)]) (st := []) (x_product hm (rsq_lt hm) hx) d_Roots_raised_49 (by decide) jm_Roots_product jk_Roots_20 js_Roots_product rfl (Nat.le_of_ble_eq_true rfl) rfl ?_
  refine j_istore_n (L' := [some (.int (nI m)), some (.int (nI 3)), some (.int (nI x)), some (.int (nI (rmu m x (rsq m x)))), some (.int (nI 0))]) d_Roots_raised_52 (by decide) rfl rfl ?_
  refine j_iinc (v := -1) (L' := [some (.int (nI m)), some (.int (nI 3)), some (.int (nI x)), some (.int (nI (rmu m x (rsq m x)))), some (.int (-1))]) d_Roots_raised_53 rfl (by decide) (by decide) rfl rfl ?_
  refine j_goto (tgt := 24) d_Roots_raised_56 (by decide) ?_
  refine j_iload d_Roots_raised_24 rfl ?_
  refine j_if_lt_t (tgt := 59) d_Roots_raised_26 (by decide) (by decide) ?_
  refine j_iload_n d_Roots_raised_59 rfl ?_
  subst hres
  exact j_reti d_Roots_raised_60 rfl rfl
theorem x_raised4 {n : jN} {h : jH} {m x : Nat} (hm : m ≤ 4) (hx : x < 2 ^ 31) : jC n 1 jy_Roots_raised jc_Roots_raised 5 (some .int) [.int (nI m), .int (nI 4), .int (nI x)] h (some (.int (nI (rai m 4 x)))) h := by
  refine jC_of jm_Roots_raised (L := [some (.int (nI m)), some (.int (nI 4)), some (.int (nI x)), none, none]) (Nat.le_of_ble_eq_true rfl) rfl trivial ?_
  generalize hres : (((some (.int (nI (rai m 4 x)))), h) : Option Value × jH) = res
  refine j_iload_n d_Roots_raised_0 rfl ?_
  refine j_istore_n (L' := [some (.int (nI m)), some (.int (nI 4)), some (.int (nI x)), some (.int (nI x)), none]) d_Roots_raised_1 (by decide) rfl rfl ?_
  refine j_iload_n d_Roots_raised_2 rfl ?_
  refine j_iconst (v := nI 4) d_Roots_raised_3 rfl ?_
  refine j_icmp_geN_t (tgt := 11) d_Roots_raised_4 (by decide) (by omega) (by omega) (by decide) ?_
  refine j_iload_n d_Roots_raised_11 rfl ?_
  refine j_bipush (v := nI 8) d_Roots_raised_12 (by decide) ?_
  refine j_icmp_geN_f (tgt := 21) d_Roots_raised_14 (by decide) (by omega) (by omega) (by decide) ?_
  refine j_iconst (v := nI 1) d_Roots_raised_17 rfl ?_
  refine j_goto (tgt := 22) d_Roots_raised_18 (by decide) ?_
  refine j_istore (L' := [some (.int (nI m)), some (.int (nI 4)), some (.int (nI x)), some (.int (nI x)), some (.int (nI 1))]) d_Roots_raised_22 (by decide) rfl rfl ?_
  refine j_iload d_Roots_raised_24 rfl ?_
  refine j_if_ltN (tgt := 59) d_Roots_raised_26 (by decide) (by omega) (fun q => q.elim) (fun _ => ?_)
  refine j_iload_n d_Roots_raised_29 rfl ?_
  refine j_iload_n d_Roots_raised_30 rfl ?_
  refine j_iload_n d_Roots_raised_31 rfl ?_
  refine j_callSs (As := [.int (nI m), .int (nI x), .int (nI x)]) (st := []) (x_product hm hx hx) d_Roots_raised_32 (by decide) jm_Roots_product jk_Roots_20 js_Roots_product rfl (Nat.le_of_ble_eq_true rfl) rfl ?_
  refine j_istore_n (L' := [some (.int (nI m)), some (.int (nI 4)), some (.int (nI x)), some (.int (nI (rsq m x))), some (.int (nI 1))]) d_Roots_raised_35 (by decide) rfl rfl ?_
  refine j_iload_n d_Roots_raised_36 rfl ?_
  refine j_iload d_Roots_raised_37 rfl ?_
  refine j_ishrN d_Roots_raised_39 (by omega) (by omega) ?_
  refine j_iconst (v := nI 1) d_Roots_raised_40 rfl ?_
  refine j_iandN d_Roots_raised_41 ?_
  refine j_top (w := jbo ((4).testBit 1)) (ni_bit _ _) ?_
  refine j_iconst (v := nI 1) d_Roots_raised_42 rfl ?_
  refine j_icmp_neB (tgt := 53) d_Roots_raised_43 (by decide) (fun _ => ?_) (fun q => absurd q (by decide))
  refine j_iinc (v := nI 0) (L' := [some (.int (nI m)), some (.int (nI 4)), some (.int (nI x)), some (.int (nI (rsq m x))), some (.int (nI 0))]) d_Roots_raised_53 rfl (by decide) (by decide) rfl rfl ?_
  refine j_goto (tgt := 24) d_Roots_raised_56 (by decide) ?_
  refine j_iload d_Roots_raised_24 rfl ?_
  refine j_if_ltN (tgt := 59) d_Roots_raised_26 (by decide) (by omega) (fun q => q.elim) (fun _ => ?_)
  refine j_iload_n d_Roots_raised_29 rfl ?_
  refine j_iload_n d_Roots_raised_30 rfl ?_
  refine j_iload_n d_Roots_raised_31 rfl ?_
  refine j_callSs (As := [.int (nI m), .int (nI (rsq m x)), .int (nI (rsq m x))]) (st := []) (x_product hm (rsq_lt hm) (rsq_lt hm)) d_Roots_raised_32 (by decide) jm_Roots_product jk_Roots_20 js_Roots_product rfl (Nat.le_of_ble_eq_true rfl) rfl ?_
  refine j_istore_n (L' := [some (.int (nI m)), some (.int (nI 4)), some (.int (nI x)), some (.int (nI (rsq m (rsq m x)))), some (.int (nI 0))]) d_Roots_raised_35 (by decide) rfl rfl ?_
  refine j_iload_n d_Roots_raised_36 rfl ?_
  refine j_iload d_Roots_raised_37 rfl ?_
  refine j_ishrN d_Roots_raised_39 (by omega) (by omega) ?_
  refine j_iconst (v := nI 1) d_Roots_raised_40 rfl ?_
  refine j_iandN d_Roots_raised_41 ?_
  refine j_top (w := jbo ((4).testBit 0)) (ni_bit _ _) ?_
  refine j_iconst (v := nI 1) d_Roots_raised_42 rfl ?_
  refine j_icmp_neB (tgt := 53) d_Roots_raised_43 (by decide) (fun _ => ?_) (fun q => absurd q (by decide))
  refine j_iinc (v := -1) (L' := [some (.int (nI m)), some (.int (nI 4)), some (.int (nI x)), some (.int (nI (rsq m (rsq m x)))), some (.int (-1))]) d_Roots_raised_53 rfl (by decide) (by decide) rfl rfl ?_
  refine j_goto (tgt := 24) d_Roots_raised_56 (by decide) ?_
  refine j_iload d_Roots_raised_24 rfl ?_
  refine j_if_lt_t (tgt := 59) d_Roots_raised_26 (by decide) (by decide) ?_
  refine j_iload_n d_Roots_raised_59 rfl ?_
  subst hres
  exact j_reti d_Roots_raised_60 rfl rfl
theorem x_raised5 {n : jN} {h : jH} {m x : Nat} (hm : m ≤ 4) (hx : x < 2 ^ 31) : jC n 1 jy_Roots_raised jc_Roots_raised 5 (some .int) [.int (nI m), .int (nI 5), .int (nI x)] h (some (.int (nI (rai m 5 x)))) h := by
  refine jC_of jm_Roots_raised (L := [some (.int (nI m)), some (.int (nI 5)), some (.int (nI x)), none, none]) (Nat.le_of_ble_eq_true rfl) rfl trivial ?_
  generalize hres : (((some (.int (nI (rai m 5 x)))), h) : Option Value × jH) = res
  refine j_iload_n d_Roots_raised_0 rfl ?_
  refine j_istore_n (L' := [some (.int (nI m)), some (.int (nI 5)), some (.int (nI x)), some (.int (nI x)), none]) d_Roots_raised_1 (by decide) rfl rfl ?_
  refine j_iload_n d_Roots_raised_2 rfl ?_
  refine j_iconst (v := nI 4) d_Roots_raised_3 rfl ?_
  refine j_icmp_geN_t (tgt := 11) d_Roots_raised_4 (by decide) (by omega) (by omega) (by decide) ?_
  refine j_iload_n d_Roots_raised_11 rfl ?_
  refine j_bipush (v := nI 8) d_Roots_raised_12 (by decide) ?_
  refine j_icmp_geN_f (tgt := 21) d_Roots_raised_14 (by decide) (by omega) (by omega) (by decide) ?_
  refine j_iconst (v := nI 1) d_Roots_raised_17 rfl ?_
  refine j_goto (tgt := 22) d_Roots_raised_18 (by decide) ?_
  refine j_istore (L' := [some (.int (nI m)), some (.int (nI 5)), some (.int (nI x)), some (.int (nI x)), some (.int (nI 1))]) d_Roots_raised_22 (by decide) rfl rfl ?_
  refine j_iload d_Roots_raised_24 rfl ?_
  refine j_if_ltN (tgt := 59) d_Roots_raised_26 (by decide) (by omega) (fun q => q.elim) (fun _ => ?_)
  refine j_iload_n d_Roots_raised_29 rfl ?_
  refine j_iload_n d_Roots_raised_30 rfl ?_
  refine j_iload_n d_Roots_raised_31 rfl ?_
  refine j_callSs (As := [.int (nI m), .int (nI x), .int (nI x)]) (st := []) (x_product hm hx hx) d_Roots_raised_32 (by decide) jm_Roots_product jk_Roots_20 js_Roots_product rfl (Nat.le_of_ble_eq_true rfl) rfl ?_
  refine j_istore_n (L' := [some (.int (nI m)), some (.int (nI 5)), some (.int (nI x)), some (.int (nI (rsq m x))), some (.int (nI 1))]) d_Roots_raised_35 (by decide) rfl rfl ?_
  refine j_iload_n d_Roots_raised_36 rfl ?_
  refine j_iload d_Roots_raised_37 rfl ?_
  refine j_ishrN d_Roots_raised_39 (by omega) (by omega) ?_
  refine j_iconst (v := nI 1) d_Roots_raised_40 rfl ?_
  refine j_iandN d_Roots_raised_41 ?_
  refine j_top (w := jbo ((5).testBit 1)) (ni_bit _ _) ?_
  refine j_iconst (v := nI 1) d_Roots_raised_42 rfl ?_
  refine j_icmp_neB (tgt := 53) d_Roots_raised_43 (by decide) (fun _ => ?_) (fun q => absurd q (by decide))
  refine j_iinc (v := nI 0) (L' := [some (.int (nI m)), some (.int (nI 5)), some (.int (nI x)), some (.int (nI (rsq m x))), some (.int (nI 0))]) d_Roots_raised_53 rfl (by decide) (by decide) rfl rfl ?_
  refine j_goto (tgt := 24) d_Roots_raised_56 (by decide) ?_
  refine j_iload d_Roots_raised_24 rfl ?_
  refine j_if_ltN (tgt := 59) d_Roots_raised_26 (by decide) (by omega) (fun q => q.elim) (fun _ => ?_)
  refine j_iload_n d_Roots_raised_29 rfl ?_
  refine j_iload_n d_Roots_raised_30 rfl ?_
  refine j_iload_n d_Roots_raised_31 rfl ?_
  refine j_callSs (As := [.int (nI m), .int (nI (rsq m x)), .int (nI (rsq m x))]) (st := []) (x_product hm (rsq_lt hm) (rsq_lt hm)) d_Roots_raised_32 (by decide) jm_Roots_product jk_Roots_20 js_Roots_product rfl (Nat.le_of_ble_eq_true rfl) rfl ?_
  refine j_istore_n (L' := [some (.int (nI m)), some (.int (nI 5)), some (.int (nI x)), some (.int (nI (rsq m (rsq m x)))), some (.int (nI 0))]) d_Roots_raised_35 (by decide) rfl rfl ?_
  refine j_iload_n d_Roots_raised_36 rfl ?_
  refine j_iload d_Roots_raised_37 rfl ?_
  refine j_ishrN d_Roots_raised_39 (by omega) (by omega) ?_
  refine j_iconst (v := nI 1) d_Roots_raised_40 rfl ?_
  refine j_iandN d_Roots_raised_41 ?_
  refine j_top (w := jbo ((5).testBit 0)) (ni_bit _ _) ?_
  refine j_iconst (v := nI 1) d_Roots_raised_42 rfl ?_
  refine j_icmp_neB (tgt := 53) d_Roots_raised_43 (by decide) (fun q => absurd q (by decide)) (fun _ => ?_)
  refine j_iload_n d_Roots_raised_46 rfl ?_
  refine j_iload_n d_Roots_raised_47 rfl ?_
  refine j_iload_n d_Roots_raised_48 rfl ?_
  refine j_callSs (As := [.int (nI m), .int (nI (rsq m (rsq m x))), .int (nI x)]) (st := []) (x_product hm (rsq_lt hm) hx) d_Roots_raised_49 (by decide) jm_Roots_product jk_Roots_20 js_Roots_product rfl (Nat.le_of_ble_eq_true rfl) rfl ?_
  refine j_istore_n (L' := [some (.int (nI m)), some (.int (nI 5)), some (.int (nI x)), some (.int (nI (rmu m x (rsq m (rsq m x))))), some (.int (nI 0))]) d_Roots_raised_52 (by decide) rfl rfl ?_
  refine j_iinc (v := -1) (L' := [some (.int (nI m)), some (.int (nI 5)), some (.int (nI x)), some (.int (nI (rmu m x (rsq m (rsq m x))))), some (.int (-1))]) d_Roots_raised_53 rfl (by decide) (by decide) rfl rfl ?_
  refine j_goto (tgt := 24) d_Roots_raised_56 (by decide) ?_
  refine j_iload d_Roots_raised_24 rfl ?_
  refine j_if_lt_t (tgt := 59) d_Roots_raised_26 (by decide) (by decide) ?_
  refine j_iload_n d_Roots_raised_59 rfl ?_
  subst hres
  exact j_reti d_Roots_raised_60 rfl rfl
theorem x_raised6 {n : jN} {h : jH} {m x : Nat} (hm : m ≤ 4) (hx : x < 2 ^ 31) : jC n 1 jy_Roots_raised jc_Roots_raised 5 (some .int) [.int (nI m), .int (nI 6), .int (nI x)] h (some (.int (nI (rai m 6 x)))) h := by
  refine jC_of jm_Roots_raised (L := [some (.int (nI m)), some (.int (nI 6)), some (.int (nI x)), none, none]) (Nat.le_of_ble_eq_true rfl) rfl trivial ?_
  generalize hres : (((some (.int (nI (rai m 6 x)))), h) : Option Value × jH) = res
  refine j_iload_n d_Roots_raised_0 rfl ?_
  refine j_istore_n (L' := [some (.int (nI m)), some (.int (nI 6)), some (.int (nI x)), some (.int (nI x)), none]) d_Roots_raised_1 (by decide) rfl rfl ?_
  refine j_iload_n d_Roots_raised_2 rfl ?_
  refine j_iconst (v := nI 4) d_Roots_raised_3 rfl ?_
  refine j_icmp_geN_t (tgt := 11) d_Roots_raised_4 (by decide) (by omega) (by omega) (by decide) ?_
  refine j_iload_n d_Roots_raised_11 rfl ?_
  refine j_bipush (v := nI 8) d_Roots_raised_12 (by decide) ?_
  refine j_icmp_geN_f (tgt := 21) d_Roots_raised_14 (by decide) (by omega) (by omega) (by decide) ?_
  refine j_iconst (v := nI 1) d_Roots_raised_17 rfl ?_
  refine j_goto (tgt := 22) d_Roots_raised_18 (by decide) ?_
  refine j_istore (L' := [some (.int (nI m)), some (.int (nI 6)), some (.int (nI x)), some (.int (nI x)), some (.int (nI 1))]) d_Roots_raised_22 (by decide) rfl rfl ?_
  refine j_iload d_Roots_raised_24 rfl ?_
  refine j_if_ltN (tgt := 59) d_Roots_raised_26 (by decide) (by omega) (fun q => q.elim) (fun _ => ?_)
  refine j_iload_n d_Roots_raised_29 rfl ?_
  refine j_iload_n d_Roots_raised_30 rfl ?_
  refine j_iload_n d_Roots_raised_31 rfl ?_
  refine j_callSs (As := [.int (nI m), .int (nI x), .int (nI x)]) (st := []) (x_product hm hx hx) d_Roots_raised_32 (by decide) jm_Roots_product jk_Roots_20 js_Roots_product rfl (Nat.le_of_ble_eq_true rfl) rfl ?_
  refine j_istore_n (L' := [some (.int (nI m)), some (.int (nI 6)), some (.int (nI x)), some (.int (nI (rsq m x))), some (.int (nI 1))]) d_Roots_raised_35 (by decide) rfl rfl ?_
  refine j_iload_n d_Roots_raised_36 rfl ?_
  refine j_iload d_Roots_raised_37 rfl ?_
  refine j_ishrN d_Roots_raised_39 (by omega) (by omega) ?_
  refine j_iconst (v := nI 1) d_Roots_raised_40 rfl ?_
  refine j_iandN d_Roots_raised_41 ?_
  refine j_top (w := jbo ((6).testBit 1)) (ni_bit _ _) ?_
  refine j_iconst (v := nI 1) d_Roots_raised_42 rfl ?_
  refine j_icmp_neB (tgt := 53) d_Roots_raised_43 (by decide) (fun q => absurd q (by decide)) (fun _ => ?_)
  refine j_iload_n d_Roots_raised_46 rfl ?_
  refine j_iload_n d_Roots_raised_47 rfl ?_
  refine j_iload_n d_Roots_raised_48 rfl ?_
  refine j_callSs (As := [.int (nI m), .int (nI (rsq m x)), .int (nI x)]) (st := []) (x_product hm (rsq_lt hm) hx) d_Roots_raised_49 (by decide) jm_Roots_product jk_Roots_20 js_Roots_product rfl (Nat.le_of_ble_eq_true rfl) rfl ?_
  refine j_istore_n (L' := [some (.int (nI m)), some (.int (nI 6)), some (.int (nI x)), some (.int (nI (rmu m x (rsq m x)))), some (.int (nI 1))]) d_Roots_raised_52 (by decide) rfl rfl ?_
  refine j_iinc (v := nI 0) (L' := [some (.int (nI m)), some (.int (nI 6)), some (.int (nI x)), some (.int (nI (rmu m x (rsq m x)))), some (.int (nI 0))]) d_Roots_raised_53 rfl (by decide) (by decide) rfl rfl ?_
  refine j_goto (tgt := 24) d_Roots_raised_56 (by decide) ?_
  refine j_iload d_Roots_raised_24 rfl ?_
  refine j_if_ltN (tgt := 59) d_Roots_raised_26 (by decide) (by omega) (fun q => q.elim) (fun _ => ?_)
  refine j_iload_n d_Roots_raised_29 rfl ?_
  refine j_iload_n d_Roots_raised_30 rfl ?_
  refine j_iload_n d_Roots_raised_31 rfl ?_
  refine j_callSs (As := [.int (nI m), .int (nI (rmu m x (rsq m x))), .int (nI (rmu m x (rsq m x)))]) (st := []) (x_product hm (rmu_lt hm) (rmu_lt hm)) d_Roots_raised_32 (by decide) jm_Roots_product jk_Roots_20 js_Roots_product rfl (Nat.le_of_ble_eq_true rfl) rfl ?_
  refine j_istore_n (L' := [some (.int (nI m)), some (.int (nI 6)), some (.int (nI x)), some (.int (nI (rsq m (rmu m x (rsq m x))))), some (.int (nI 0))]) d_Roots_raised_35 (by decide) rfl rfl ?_
  refine j_iload_n d_Roots_raised_36 rfl ?_
  refine j_iload d_Roots_raised_37 rfl ?_
  refine j_ishrN d_Roots_raised_39 (by omega) (by omega) ?_
  refine j_iconst (v := nI 1) d_Roots_raised_40 rfl ?_
  refine j_iandN d_Roots_raised_41 ?_
  refine j_top (w := jbo ((6).testBit 0)) (ni_bit _ _) ?_
  refine j_iconst (v := nI 1) d_Roots_raised_42 rfl ?_
  refine j_icmp_neB (tgt := 53) d_Roots_raised_43 (by decide) (fun _ => ?_) (fun q => absurd q (by decide))
  refine j_iinc (v := -1) (L' := [some (.int (nI m)), some (.int (nI 6)), some (.int (nI x)), some (.int (nI (rsq m (rmu m x (rsq m x))))), some (.int (-1))]) d_Roots_raised_53 rfl (by decide) (by decide) rfl rfl ?_
  refine j_goto (tgt := 24) d_Roots_raised_56 (by decide) ?_
  refine j_iload d_Roots_raised_24 rfl ?_
  refine j_if_lt_t (tgt := 59) d_Roots_raised_26 (by decide) (by decide) ?_
  refine j_iload_n d_Roots_raised_59 rfl ?_
  subst hres
  exact j_reti d_Roots_raised_60 rfl rfl
theorem x_raised7 {n : jN} {h : jH} {m x : Nat} (hm : m ≤ 4) (hx : x < 2 ^ 31) : jC n 1 jy_Roots_raised jc_Roots_raised 5 (some .int) [.int (nI m), .int (nI 7), .int (nI x)] h (some (.int (nI (rai m 7 x)))) h := by
  refine jC_of jm_Roots_raised (L := [some (.int (nI m)), some (.int (nI 7)), some (.int (nI x)), none, none]) (Nat.le_of_ble_eq_true rfl) rfl trivial ?_
  generalize hres : (((some (.int (nI (rai m 7 x)))), h) : Option Value × jH) = res
  refine j_iload_n d_Roots_raised_0 rfl ?_
  refine j_istore_n (L' := [some (.int (nI m)), some (.int (nI 7)), some (.int (nI x)), some (.int (nI x)), none]) d_Roots_raised_1 (by decide) rfl rfl ?_
  refine j_iload_n d_Roots_raised_2 rfl ?_
  refine j_iconst (v := nI 4) d_Roots_raised_3 rfl ?_
  refine j_icmp_geN_t (tgt := 11) d_Roots_raised_4 (by decide) (by omega) (by omega) (by decide) ?_
  refine j_iload_n d_Roots_raised_11 rfl ?_
  refine j_bipush (v := nI 8) d_Roots_raised_12 (by decide) ?_
  refine j_icmp_geN_f (tgt := 21) d_Roots_raised_14 (by decide) (by omega) (by omega) (by decide) ?_
  refine j_iconst (v := nI 1) d_Roots_raised_17 rfl ?_
  refine j_goto (tgt := 22) d_Roots_raised_18 (by decide) ?_
  refine j_istore (L' := [some (.int (nI m)), some (.int (nI 7)), some (.int (nI x)), some (.int (nI x)), some (.int (nI 1))]) d_Roots_raised_22 (by decide) rfl rfl ?_
  refine j_iload d_Roots_raised_24 rfl ?_
  refine j_if_ltN (tgt := 59) d_Roots_raised_26 (by decide) (by omega) (fun q => q.elim) (fun _ => ?_)
  refine j_iload_n d_Roots_raised_29 rfl ?_
  refine j_iload_n d_Roots_raised_30 rfl ?_
  refine j_iload_n d_Roots_raised_31 rfl ?_
  refine j_callSs (As := [.int (nI m), .int (nI x), .int (nI x)]) (st := []) (x_product hm hx hx) d_Roots_raised_32 (by decide) jm_Roots_product jk_Roots_20 js_Roots_product rfl (Nat.le_of_ble_eq_true rfl) rfl ?_
  refine j_istore_n (L' := [some (.int (nI m)), some (.int (nI 7)), some (.int (nI x)), some (.int (nI (rsq m x))), some (.int (nI 1))]) d_Roots_raised_35 (by decide) rfl rfl ?_
  refine j_iload_n d_Roots_raised_36 rfl ?_
  refine j_iload d_Roots_raised_37 rfl ?_
  refine j_ishrN d_Roots_raised_39 (by omega) (by omega) ?_
  refine j_iconst (v := nI 1) d_Roots_raised_40 rfl ?_
  refine j_iandN d_Roots_raised_41 ?_
  refine j_top (w := jbo ((7).testBit 1)) (ni_bit _ _) ?_
  refine j_iconst (v := nI 1) d_Roots_raised_42 rfl ?_
  refine j_icmp_neB (tgt := 53) d_Roots_raised_43 (by decide) (fun q => absurd q (by decide)) (fun _ => ?_)
  refine j_iload_n d_Roots_raised_46 rfl ?_
  refine j_iload_n d_Roots_raised_47 rfl ?_
  refine j_iload_n d_Roots_raised_48 rfl ?_
  refine j_callSs (As := [.int (nI m), .int (nI (rsq m x)), .int (nI x)]) (st := []) (x_product hm (rsq_lt hm) hx) d_Roots_raised_49 (by decide) jm_Roots_product jk_Roots_20 js_Roots_product rfl (Nat.le_of_ble_eq_true rfl) rfl ?_
  refine j_istore_n (L' := [some (.int (nI m)), some (.int (nI 7)), some (.int (nI x)), some (.int (nI (rmu m x (rsq m x)))), some (.int (nI 1))]) d_Roots_raised_52 (by decide) rfl rfl ?_
  refine j_iinc (v := nI 0) (L' := [some (.int (nI m)), some (.int (nI 7)), some (.int (nI x)), some (.int (nI (rmu m x (rsq m x)))), some (.int (nI 0))]) d_Roots_raised_53 rfl (by decide) (by decide) rfl rfl ?_
  refine j_goto (tgt := 24) d_Roots_raised_56 (by decide) ?_
  refine j_iload d_Roots_raised_24 rfl ?_
  refine j_if_ltN (tgt := 59) d_Roots_raised_26 (by decide) (by omega) (fun q => q.elim) (fun _ => ?_)
  refine j_iload_n d_Roots_raised_29 rfl ?_
  refine j_iload_n d_Roots_raised_30 rfl ?_
  refine j_iload_n d_Roots_raised_31 rfl ?_
  refine j_callSs (As := [.int (nI m), .int (nI (rmu m x (rsq m x))), .int (nI (rmu m x (rsq m x)))]) (st := []) (x_product hm (rmu_lt hm) (rmu_lt hm)) d_Roots_raised_32 (by decide) jm_Roots_product jk_Roots_20 js_Roots_product rfl (Nat.le_of_ble_eq_true rfl) rfl ?_
  refine j_istore_n (L' := [some (.int (nI m)), some (.int (nI 7)), some (.int (nI x)), some (.int (nI (rsq m (rmu m x (rsq m x))))), some (.int (nI 0))]) d_Roots_raised_35 (by decide) rfl rfl ?_
  refine j_iload_n d_Roots_raised_36 rfl ?_
  refine j_iload d_Roots_raised_37 rfl ?_
  refine j_ishrN d_Roots_raised_39 (by omega) (by omega) ?_
  refine j_iconst (v := nI 1) d_Roots_raised_40 rfl ?_
  refine j_iandN d_Roots_raised_41 ?_
  refine j_top (w := jbo ((7).testBit 0)) (ni_bit _ _) ?_
  refine j_iconst (v := nI 1) d_Roots_raised_42 rfl ?_
  refine j_icmp_neB (tgt := 53) d_Roots_raised_43 (by decide) (fun q => absurd q (by decide)) (fun _ => ?_)
  refine j_iload_n d_Roots_raised_46 rfl ?_
  refine j_iload_n d_Roots_raised_47 rfl ?_
  refine j_iload_n d_Roots_raised_48 rfl ?_
  refine j_callSs (As := [.int (nI m), .int (nI (rsq m (rmu m x (rsq m x)))), .int (nI x)]) (st := []) (x_product hm (rsq_lt hm) hx) d_Roots_raised_49 (by decide) jm_Roots_product jk_Roots_20 js_Roots_product rfl (Nat.le_of_ble_eq_true rfl) rfl ?_
  refine j_istore_n (L' := [some (.int (nI m)), some (.int (nI 7)), some (.int (nI x)), some (.int (nI (rmu m x (rsq m (rmu m x (rsq m x)))))), some (.int (nI 0))]) d_Roots_raised_52 (by decide) rfl rfl ?_
  refine j_iinc (v := -1) (L' := [some (.int (nI m)), some (.int (nI 7)), some (.int (nI x)), some (.int (nI (rmu m x (rsq m (rmu m x (rsq m x)))))), some (.int (-1))]) d_Roots_raised_53 rfl (by decide) (by decide) rfl rfl ?_
  refine j_goto (tgt := 24) d_Roots_raised_56 (by decide) ?_
  refine j_iload d_Roots_raised_24 rfl ?_
  refine j_if_lt_t (tgt := 59) d_Roots_raised_26 (by decide) (by decide) ?_
  refine j_iload_n d_Roots_raised_59 rfl ?_
  subst hres
  exact j_reti d_Roots_raised_60 rfl rfl
theorem x_raised8 {n : jN} {h : jH} {m x : Nat} (hm : m ≤ 4) (hx : x < 2 ^ 31) : jC n 1 jy_Roots_raised jc_Roots_raised 5 (some .int) [.int (nI m), .int (nI 8), .int (nI x)] h (some (.int (nI (rai m 8 x)))) h := by
  refine jC_of jm_Roots_raised (L := [some (.int (nI m)), some (.int (nI 8)), some (.int (nI x)), none, none]) (Nat.le_of_ble_eq_true rfl) rfl trivial ?_
  generalize hres : (((some (.int (nI (rai m 8 x)))), h) : Option Value × jH) = res
  refine j_iload_n d_Roots_raised_0 rfl ?_
  refine j_istore_n (L' := [some (.int (nI m)), some (.int (nI 8)), some (.int (nI x)), some (.int (nI x)), none]) d_Roots_raised_1 (by decide) rfl rfl ?_
  refine j_iload_n d_Roots_raised_2 rfl ?_
  refine j_iconst (v := nI 4) d_Roots_raised_3 rfl ?_
  refine j_icmp_geN_t (tgt := 11) d_Roots_raised_4 (by decide) (by omega) (by omega) (by decide) ?_
  refine j_iload_n d_Roots_raised_11 rfl ?_
  refine j_bipush (v := nI 8) d_Roots_raised_12 (by decide) ?_
  refine j_icmp_geN_t (tgt := 21) d_Roots_raised_14 (by decide) (by omega) (by omega) (by decide) ?_
  refine j_iconst (v := nI 2) d_Roots_raised_21 rfl ?_
  refine j_istore (L' := [some (.int (nI m)), some (.int (nI 8)), some (.int (nI x)), some (.int (nI x)), some (.int (nI 2))]) d_Roots_raised_22 (by decide) rfl rfl ?_
  refine j_iload d_Roots_raised_24 rfl ?_
  refine j_if_ltN (tgt := 59) d_Roots_raised_26 (by decide) (by omega) (fun q => q.elim) (fun _ => ?_)
  refine j_iload_n d_Roots_raised_29 rfl ?_
  refine j_iload_n d_Roots_raised_30 rfl ?_
  refine j_iload_n d_Roots_raised_31 rfl ?_
  refine j_callSs (As := [.int (nI m), .int (nI x), .int (nI x)]) (st := []) (x_product hm hx hx) d_Roots_raised_32 (by decide) jm_Roots_product jk_Roots_20 js_Roots_product rfl (Nat.le_of_ble_eq_true rfl) rfl ?_
  refine j_istore_n (L' := [some (.int (nI m)), some (.int (nI 8)), some (.int (nI x)), some (.int (nI (rsq m x))), some (.int (nI 2))]) d_Roots_raised_35 (by decide) rfl rfl ?_
  refine j_iload_n d_Roots_raised_36 rfl ?_
  refine j_iload d_Roots_raised_37 rfl ?_
  refine j_ishrN d_Roots_raised_39 (by omega) (by omega) ?_
  refine j_iconst (v := nI 1) d_Roots_raised_40 rfl ?_
  refine j_iandN d_Roots_raised_41 ?_
  refine j_top (w := jbo ((8).testBit 2)) (ni_bit _ _) ?_
  refine j_iconst (v := nI 1) d_Roots_raised_42 rfl ?_
  refine j_icmp_neB (tgt := 53) d_Roots_raised_43 (by decide) (fun _ => ?_) (fun q => absurd q (by decide))
  refine j_iinc (v := nI 1) (L' := [some (.int (nI m)), some (.int (nI 8)), some (.int (nI x)), some (.int (nI (rsq m x))), some (.int (nI 1))]) d_Roots_raised_53 rfl (by decide) (by decide) rfl rfl ?_
  refine j_goto (tgt := 24) d_Roots_raised_56 (by decide) ?_
  refine j_iload d_Roots_raised_24 rfl ?_
  refine j_if_ltN (tgt := 59) d_Roots_raised_26 (by decide) (by omega) (fun q => q.elim) (fun _ => ?_)
  refine j_iload_n d_Roots_raised_29 rfl ?_
  refine j_iload_n d_Roots_raised_30 rfl ?_
  refine j_iload_n d_Roots_raised_31 rfl ?_
  refine j_callSs (As := [.int (nI m), .int (nI (rsq m x)), .int (nI (rsq m x))]) (st := []) (x_product hm (rsq_lt hm) (rsq_lt hm)) d_Roots_raised_32 (by decide) jm_Roots_product jk_Roots_20 js_Roots_product rfl (Nat.le_of_ble_eq_true rfl) rfl ?_
  refine j_istore_n (L' := [some (.int (nI m)), some (.int (nI 8)), some (.int (nI x)), some (.int (nI (rsq m (rsq m x)))), some (.int (nI 1))]) d_Roots_raised_35 (by decide) rfl rfl ?_
  refine j_iload_n d_Roots_raised_36 rfl ?_
  refine j_iload d_Roots_raised_37 rfl ?_
  refine j_ishrN d_Roots_raised_39 (by omega) (by omega) ?_
  refine j_iconst (v := nI 1) d_Roots_raised_40 rfl ?_
  refine j_iandN d_Roots_raised_41 ?_
  refine j_top (w := jbo ((8).testBit 1)) (ni_bit _ _) ?_
  refine j_iconst (v := nI 1) d_Roots_raised_42 rfl ?_
  refine j_icmp_neB (tgt := 53) d_Roots_raised_43 (by decide) (fun _ => ?_) (fun q => absurd q (by decide))
  refine j_iinc (v := nI 0) (L' := [some (.int (nI m)), some (.int (nI 8)), some (.int (nI x)), some (.int (nI (rsq m (rsq m x)))), some (.int (nI 0))]) d_Roots_raised_53 rfl (by decide) (by decide) rfl rfl ?_
  refine j_goto (tgt := 24) d_Roots_raised_56 (by decide) ?_
  refine j_iload d_Roots_raised_24 rfl ?_
  refine j_if_ltN (tgt := 59) d_Roots_raised_26 (by decide) (by omega) (fun q => q.elim) (fun _ => ?_)
  refine j_iload_n d_Roots_raised_29 rfl ?_
  refine j_iload_n d_Roots_raised_30 rfl ?_
  refine j_iload_n d_Roots_raised_31 rfl ?_
  refine j_callSs (As := [.int (nI m), .int (nI (rsq m (rsq m x))), .int (nI (rsq m (rsq m x)))]) (st := []) (x_product hm (rsq_lt hm) (rsq_lt hm)) d_Roots_raised_32 (by decide) jm_Roots_product jk_Roots_20 js_Roots_product rfl (Nat.le_of_ble_eq_true rfl) rfl ?_
  refine j_istore_n (L' := [some (.int (nI m)), some (.int (nI 8)), some (.int (nI x)), some (.int (nI (rsq m (rsq m (rsq m x))))), some (.int (nI 0))]) d_Roots_raised_35 (by decide) rfl rfl ?_
  refine j_iload_n d_Roots_raised_36 rfl ?_
  refine j_iload d_Roots_raised_37 rfl ?_
  refine j_ishrN d_Roots_raised_39 (by omega) (by omega) ?_
  refine j_iconst (v := nI 1) d_Roots_raised_40 rfl ?_
  refine j_iandN d_Roots_raised_41 ?_
  refine j_top (w := jbo ((8).testBit 0)) (ni_bit _ _) ?_
  refine j_iconst (v := nI 1) d_Roots_raised_42 rfl ?_
  refine j_icmp_neB (tgt := 53) d_Roots_raised_43 (by decide) (fun _ => ?_) (fun q => absurd q (by decide))
  refine j_iinc (v := -1) (L' := [some (.int (nI m)), some (.int (nI 8)), some (.int (nI x)), some (.int (nI (rsq m (rsq m (rsq m x))))), some (.int (-1))]) d_Roots_raised_53 rfl (by decide) (by decide) rfl rfl ?_
  refine j_goto (tgt := 24) d_Roots_raised_56 (by decide) ?_
  refine j_iload d_Roots_raised_24 rfl ?_
  refine j_if_lt_t (tgt := 59) d_Roots_raised_26 (by decide) (by decide) ?_
  refine j_iload_n d_Roots_raised_59 rfl ?_
  subst hres
  exact j_reti d_Roots_raised_60 rfl rfl
theorem x_raised {n : jN} {h : jH} {m d x : Nat} (hm : m ≤ 4) (hd : 2 ≤ d) (hd8 : d ≤ 8) (hx : x < 2 ^ 31) : jC n 1 jy_Roots_raised jc_Roots_raised 5 (some .int) [.int (nI m), .int (nI d), .int (nI x)] h (some (.int (nI (rai m d x)))) h := by
  rcases (show d = 2 ∨ d = 3 ∨ d = 4 ∨ d = 5 ∨ d = 6 ∨ d = 7 ∨ d = 8 by omega) with e | e | e | e | e | e | e <;> subst e
  · exact x_raised2 hm hx
  · exact x_raised3 hm hx
  · exact x_raised4 hm hx
  · exact x_raised5 hm hx
  · exact x_raised6 hm hx
  · exact x_raised7 hm hx
  · exact x_raised8 hm hx
theorem rai_lt {m d x : Nat} (hm : m ≤ 4) : rai m d x < 2 ^ 31 := by
  unfold rai
  split <;> first | exact rsq_lt hm | exact rmu_lt hm

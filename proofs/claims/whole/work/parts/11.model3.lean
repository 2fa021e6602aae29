theorem c_areSame {n : jN} {h : jH} {P : jP} {a b : Nat} (hpa : a < 38) (hpb : b < 38) (hw : ∀ q, tw (P q)) : jC n 1 jy_Model_areSame jc_Model_areSame 5 (some .boolean) [.ref 135, .int (nI a), .int (nI b)] (jM h P) (some (.int (jbo (tsam (P a) (P b) 12)))) (jM h P) := by
  have hna := (hw a).1
  have hnb := (hw b).1
  refine jC_of jm_Model_areSame (L := [some (.ref 135), some (.int (nI a)), some (.int (nI b)), none, none]) (Nat.le_of_ble_eq_true rfl) rfl (jbo01 _) ?_
  generalize hres : (((some (.int (jbo (tsam (P a) (P b) 12)))), jM h P) : Option Value × jH) = res
  have key : jJ n 1 jc_Model_areSame 5 "YesNoPowersModel" 24 [some (.ref 135), some (.int (nI a)), some (.int (nI b)), some (.int (jbo (tsam (P a) (P b) 0))), some (.int (nI 0))] [] (jM h P) res := by
    refine j_loop (P := fun k => jJ n 1 jc_Model_areSame 5 "YesNoPowersModel" 24 [some (.ref 135), some (.int (nI a)), some (.int (nI b)), some (.int (jbo (tsam (P a) (P b) k))), some (.int (nI k))] [] (jM h P) res) (m := 12) ?_ (fun k hk ih => ?_)
    · refine j_iload d_Model_areSame_24 rfl ?_
      refine j_bipush (v := nI 12) d_Model_areSame_26 (by decide) ?_
      refine j_icmp_geN_t (tgt := 64) d_Model_areSame_28 (by decide) (by omega) (by omega) (Nat.le_refl _) ?_
      refine j_iload_n d_Model_areSame_64 rfl ?_
      subst hres
      exact j_reti d_Model_areSame_65 rfl rfl
    · refine j_iload d_Model_areSame_24 rfl ?_
      refine j_bipush (v := nI 12) d_Model_areSame_26 (by decide) ?_
      refine j_icmp_geN_f (tgt := 64) d_Model_areSame_28 (by decide) (by omega) (by omega) (Nat.not_le.mpr hk) ?_
      refine j_iload_n d_Model_areSame_31 rfl ?_
      refine j_if_eqB (tgt := 56) d_Model_areSame_32 (by decide) (fun c => ?_) (fun c => ?_)
      · refine j_iconst (v := nI 0) d_Model_areSame_56 rfl ?_
        refine j_top (w := jbo (tsam (P a) (P b) (k + 1))) (by rw [show tsam (P a) (P b) (k + 1) = false from by simp_all [tsam, jall]]; rfl) ?_
        refine j_istore_n (L' := [some (.ref 135), some (.int (nI a)), some (.int (nI b)), some (.int (jbo (tsam (P a) (P b) (k + 1)))), some (.int (nI k))]) d_Model_areSame_57 (by decide) rfl rfl ?_
        refine j_iincN (x := k) (L' := [some (.ref 135), some (.int (nI a)), some (.int (nI b)), some (.int (jbo (tsam (P a) (P b) (k + 1)))), some (.int (nI (k + 1)))]) d_Model_areSame_58 rfl (by decide) rfl rfl ?_
        refine j_goto (tgt := 24) d_Model_areSame_61 (by decide) ?_
        exact ih
      · refine j_aload_n d_Model_areSame_35 rfl ?_
        refine j_iload_n d_Model_areSame_36 rfl ?_
        refine j_iload d_Model_areSame_37 rfl ?_
        refine j_callVs (As := [.int (nI a), .int (nI k)]) (st := []) (c_row (by omega) (by omega)) d_Model_areSame_39 (by decide) jm_Model_row jk_Model_71 ji_Model_row js_Model_row rfl (by decide) rfl rfl (Nat.le_of_ble_eq_true rfl) rfl ?_
        refine j_aload_n d_Model_areSame_42 rfl ?_
        refine j_iload_n d_Model_areSame_43 rfl ?_
        refine j_iload d_Model_areSame_44 rfl ?_
        refine j_callVs (As := [.int (nI b), .int (nI k)]) (st := [.int (nI ((P a).2 k))]) (c_row (by omega) (by omega)) d_Model_areSame_46 (by decide) jm_Model_row jk_Model_71 ji_Model_row js_Model_row rfl (by decide) rfl rfl (Nat.le_of_ble_eq_true rfl) rfl ?_
        have hra := (hw a).2.1 k
        have hrb := (hw b).2.1 k
        refine j_icmp_neN (tgt := 56) d_Model_areSame_49 (by decide) (by omega) (by omega) (fun c2 => ?_) (fun c2 => ?_)
        · refine j_iconst (v := nI 0) d_Model_areSame_56 rfl ?_
          refine j_top (w := jbo (tsam (P a) (P b) (k + 1))) (by rw [show tsam (P a) (P b) (k + 1) = false from by simp_all [tsam, jall]]; rfl) ?_
          refine j_istore_n (L' := [some (.ref 135), some (.int (nI a)), some (.int (nI b)), some (.int (jbo (tsam (P a) (P b) (k + 1)))), some (.int (nI k))]) d_Model_areSame_57 (by decide) rfl rfl ?_
          refine j_iincN (x := k) (L' := [some (.ref 135), some (.int (nI a)), some (.int (nI b)), some (.int (jbo (tsam (P a) (P b) (k + 1)))), some (.int (nI (k + 1)))]) d_Model_areSame_58 rfl (by decide) rfl rfl ?_
          refine j_goto (tgt := 24) d_Model_areSame_61 (by decide) ?_
          exact ih
        · refine j_iconst (v := nI 1) d_Model_areSame_52 rfl ?_
          refine j_goto (tgt := 57) d_Model_areSame_53 (by decide) ?_
          refine j_top (w := jbo (tsam (P a) (P b) (k + 1))) (by rw [show tsam (P a) (P b) (k + 1) = true from by simp_all [tsam, jall]]; rfl) ?_
          refine j_istore_n (L' := [some (.ref 135), some (.int (nI a)), some (.int (nI b)), some (.int (jbo (tsam (P a) (P b) (k + 1)))), some (.int (nI k))]) d_Model_areSame_57 (by decide) rfl rfl ?_
          refine j_iincN (x := k) (L' := [some (.ref 135), some (.int (nI a)), some (.int (nI b)), some (.int (jbo (tsam (P a) (P b) (k + 1)))), some (.int (nI (k + 1)))]) d_Model_areSame_58 rfl (by decide) rfl rfl ?_
          refine j_goto (tgt := 24) d_Model_areSame_61 (by decide) ?_
          exact ih
  refine j_aload_n d_Model_areSame_0 rfl ?_
  refine j_getr (b := 137) d_Model_areSame_1 jf_Model_13 rfl rfl rfl (by decide) ?_
  refine j_iload_n d_Model_areSame_4 rfl ?_
  refine j_ialdN (v := nI ((P a).1)) d_Model_areSame_5 rfl (by omega) (by decide) rfl ?_
  refine j_aload_n d_Model_areSame_6 rfl ?_
  refine j_getr (b := 137) d_Model_areSame_7 jf_Model_13 rfl rfl rfl (by decide) ?_
  refine j_iload_n d_Model_areSame_10 rfl ?_
  refine j_ialdN (v := nI ((P b).1)) d_Model_areSame_11 rfl (by omega) (by decide) rfl ?_
  refine j_icmp_neN (tgt := 19) d_Model_areSame_12 (by decide) (by omega) (by omega) (fun c => ?_) (fun c => ?_)
  · refine j_iconst (v := nI 0) d_Model_areSame_19 rfl ?_
    refine j_top (w := jbo (tsam (P a) (P b) 0)) (by rw [show tsam (P a) (P b) 0 = false from by simp [tsam, jall, c]]; rfl) ?_
    refine j_istore_n (L' := [some (.ref 135), some (.int (nI a)), some (.int (nI b)), some (.int (jbo (tsam (P a) (P b) 0))), none]) d_Model_areSame_20 (by decide) rfl rfl ?_
    refine j_iconst (v := nI 0) d_Model_areSame_21 rfl ?_
    refine j_istore (L' := [some (.ref 135), some (.int (nI a)), some (.int (nI b)), some (.int (jbo (tsam (P a) (P b) 0))), some (.int (nI 0))]) d_Model_areSame_22 (by decide) rfl rfl ?_
    exact key
  · refine j_iconst (v := nI 1) d_Model_areSame_15 rfl ?_
    refine j_goto (tgt := 20) d_Model_areSame_16 (by decide) ?_
    refine j_top (w := jbo (tsam (P a) (P b) 0)) (by rw [show tsam (P a) (P b) 0 = true from by simp [tsam, jall, c]]; rfl) ?_
    refine j_istore_n (L' := [some (.ref 135), some (.int (nI a)), some (.int (nI b)), some (.int (jbo (tsam (P a) (P b) 0))), none]) d_Model_areSame_20 (by decide) rfl rfl ?_
    refine j_iconst (v := nI 0) d_Model_areSame_21 rfl ?_
    refine j_istore (L' := [some (.ref 135), some (.int (nI a)), some (.int (nI b)), some (.int (jbo (tsam (P a) (P b) 0))), some (.int (nI 0))]) d_Model_areSame_22 (by decide) rfl rfl ?_
    exact key
def jpc (m : Nat) : Nat := jsum 12 (fun i => if m.testBit i then 1 else 0)
theorem jpc_s0 : ∀ a, a < 64 → ∀ b, b < 64 → 64 * a + b ≠ 0 → jpc ((64 * a + b) &&& (64 * a + b - 1)) + 1 = jpc (64 * a + b) ∧ ((64 * a + b) &&& (64 * a + b - 1)) < 64 * a + b := by decide +kernel
theorem jpc_s (r : Nat) (hr : r < 4096) (h0 : r ≠ 0) : jpc (r &&& (r - 1)) + 1 = jpc r ∧ (r &&& (r - 1)) < r := by
  have h := jpc_s0 (r / 64) (by omega) (r % 64) (by omega)
  rw [show 64 * (r / 64) + r % 64 = r by omega] at h
  exact h h0
theorem jpc_0 : jpc 0 = 0 := by decide
theorem c_bits {n : jN} {h : jH} {m : Nat} (hm : m < 4096) : jC n 0 jy_Model_bits jc_Model_bits 3 (some .int) [.int (nI m)] h (some (.int (nI (jpc m)))) h := by
  refine jC_of jm_Model_bits (L := [some (.int (nI m)), none, none]) (Nat.le_of_ble_eq_true rfl) rfl trivial ?_
  generalize hres : (((some (.int (nI (jpc m)))), h) : Option Value × jH) = res
  have key : ∀ r c, r < 4096 → c + jpc r = jpc m → jJ n 0 jc_Model_bits 3 "YesNoPowersModel" 4 [some (.int (nI m)), some (.int (nI c)), some (.int (nI r))] [] h res := by
    intro r
    induction r using Nat.strongRecOn with
    | _ r ih =>
      intro c hr hc
      refine j_iload_n d_Model_bits_4 rfl ?_
      refine j_if_eqN (tgt := 20) d_Model_bits_5 (by decide) (by omega) (fun e => ?_) (fun e => ?_)
      · refine j_iload_n d_Model_bits_20 rfl ?_
        subst e
        rw [jpc_0, Nat.add_zero] at hc
        subst hres
        exact j_reti d_Model_bits_21 (by rw [hc]) rfl
      · obtain ⟨e1, e2⟩ := jpc_s r hr e
        refine j_iincN (x := c) (L' := [some (.int (nI m)), some (.int (nI (c + 1))), some (.int (nI r))]) d_Model_bits_8 rfl (by decide) rfl rfl ?_
        refine j_iload_n d_Model_bits_11 rfl ?_
        refine j_iload_n d_Model_bits_12 rfl ?_
        refine j_iconst (v := nI 1) d_Model_bits_13 rfl ?_
        refine j_isubN d_Model_bits_14 (by omega) ?_
        refine j_iandN d_Model_bits_15 ?_
        refine j_istore_n (L' := [some (.int (nI m)), some (.int (nI (c + 1))), some (.int (nI (r &&& (r - 1))))]) d_Model_bits_16 (by decide) rfl rfl ?_
        refine j_goto (tgt := 4) d_Model_bits_17 (by decide) ?_
        exact ih _ e2 _ (by omega) (by omega)
  refine j_iconst (v := nI 0) d_Model_bits_0 rfl ?_
  refine j_istore_n (L' := [some (.int (nI m)), some (.int (nI 0)), none]) d_Model_bits_1 (by decide) rfl rfl ?_
  refine j_iload_n d_Model_bits_2 rfl ?_
  refine j_istore_n (L' := [some (.int (nI m)), some (.int (nI 0)), some (.int (nI m))]) d_Model_bits_3 (by decide) rfl rfl ?_
  exact key m 0 hm (by omega)
def tones (A : jT) (k : Nat) : Nat := jsum k (fun i => jpc (A.2 i))
theorem c_onesIn {n : jN} {h : jH} {P : jP} {p : Nat} (hp : p < 38) (hw : ∀ q, tw (P q)) : jC n 1 jy_Model_onesIn jc_Model_onesIn 4 (some .int) [.ref 135, .int (nI p)] (jM h P) (some (.int (nI (tones (P p) (P p).1)))) (jM h P) := by
  have hn := (hw p).1
  refine jC_of jm_Model_onesIn (L := [some (.ref 135), some (.int (nI p)), none, none]) (Nat.le_of_ble_eq_true rfl) rfl trivial ?_
  generalize hres : (((some (.int (nI (tones (P p) (P p).1)))), jM h P) : Option Value × jH) = res
  refine j_iconst (v := nI 0) d_Model_onesIn_0 rfl ?_
  refine j_istore_n (L' := [some (.ref 135), some (.int (nI p)), some (.int (nI 0)), none]) d_Model_onesIn_1 (by decide) rfl rfl ?_
  refine j_iconst (v := nI 0) d_Model_onesIn_2 rfl ?_
  refine j_istore_n (L' := [some (.ref 135), some (.int (nI p)), some (.int (nI 0)), some (.int (nI 0))]) d_Model_onesIn_3 (by decide) rfl rfl ?_
  refine j_loop (P := fun k => jJ n 1 jc_Model_onesIn 4 "YesNoPowersModel" 4 [some (.ref 135), some (.int (nI p)), some (.int (nI (tones (P p) k))), some (.int (nI k))] [] (jM h P) res) (m := (P p).1) ?_ (fun k hk ih => ?_)
  · refine j_iload_n d_Model_onesIn_4 rfl ?_
    refine j_aload_n d_Model_onesIn_5 rfl ?_
    refine j_getr (b := 137) d_Model_onesIn_6 jf_Model_13 rfl rfl rfl (by decide) ?_
    refine j_iload_n d_Model_onesIn_9 rfl ?_
    refine j_ialdN (v := nI ((P p).1)) d_Model_onesIn_10 rfl (by omega) (by decide) rfl ?_
    refine j_icmp_geN_t (tgt := 32) d_Model_onesIn_11 (by decide) (by omega) (by omega) (Nat.le_refl _) ?_
    refine j_iload_n d_Model_onesIn_32 rfl ?_
    subst hres
    exact j_reti d_Model_onesIn_33 rfl rfl
  · refine j_iload_n d_Model_onesIn_4 rfl ?_
    refine j_aload_n d_Model_onesIn_5 rfl ?_
    refine j_getr (b := 137) d_Model_onesIn_6 jf_Model_13 rfl rfl rfl (by decide) ?_
    refine j_iload_n d_Model_onesIn_9 rfl ?_
    refine j_ialdN (v := nI ((P p).1)) d_Model_onesIn_10 rfl (by omega) (by decide) rfl ?_
    refine j_icmp_geN_f (tgt := 32) d_Model_onesIn_11 (by decide) (by omega) (by omega) (Nat.not_le.mpr hk) ?_
    refine j_iload_n d_Model_onesIn_14 rfl ?_
    refine j_aload_n d_Model_onesIn_15 rfl ?_
    refine j_iload_n d_Model_onesIn_16 rfl ?_
    refine j_iload_n d_Model_onesIn_17 rfl ?_
    refine j_callVs (As := [.int (nI p), .int (nI k)]) (st := [.int (nI (tones (P p) k))]) (c_row (by omega) (by omega)) d_Model_onesIn_18 (by decide) jm_Model_row jk_Model_71 ji_Model_row js_Model_row rfl (by decide) rfl rfl (Nat.le_of_ble_eq_true rfl) rfl ?_
    refine j_callSs (As := [.int (nI ((P p).2 k))]) (st := [.int (nI (tones (P p) k))]) (c_bits ((hw p).2.1 _)) d_Model_onesIn_21 (by decide) jm_Model_bits jk_Model_159 js_Model_bits rfl (Nat.le_of_ble_eq_true rfl) rfl ?_
    refine j_iaddN d_Model_onesIn_24 ?_
    refine j_istore_n (L' := [some (.ref 135), some (.int (nI p)), some (.int (nI ((tones (P p) k) + (jpc ((P p).2 k))))), some (.int (nI k))]) d_Model_onesIn_25 (by decide) rfl rfl ?_
    refine j_iincN (x := k) (L' := [some (.ref 135), some (.int (nI p)), some (.int (nI ((tones (P p) k) + (jpc ((P p).2 k))))), some (.int (nI (k + 1)))]) d_Model_onesIn_26 rfl (by decide) rfl rfl ?_
    refine j_goto (tgt := 4) d_Model_onesIn_29 (by decide) ?_
    exact ih
def pwS (t left : Nat) (P : jP) : jP :=
  let P1 := if left % 2 = 1 then jset (jset P 37 (tmul (P t) (P 36))) t (jset P 37 (tmul (P t) (P 36)) 37) else P
  jset (jset P1 37 (tmul (P1 36) (P1 36))) 36 (jset P1 37 (tmul (P1 36) (P1 36)) 37)
def pwL : Nat → Nat → Nat → jP → jP
  | 0, _, _, P => P
  | f + 1, t, left, P => if left = 0 then P else pwL f t (left / 2) (pwS t left P)
theorem c_powerTo {n : jN} {h : jH} {P : jP} {a k t : Nat} (hpa : a < 36) (hpt : t < 36) (hat : a ≠ t) (hk : k < 2 ^ 20) (hw : ∀ q, tw (P q)) : jC n 2 jy_Model_powerTo jc_Model_powerTo 5 none [.ref 135, .int (nI a), .int (nI k), .int (nI t)] (jM h P) none (jM h (pwL 20 t k (jset (jset P t (tunit (P a).1)) 36 (jset P t (tunit (P a).1) a)))) := by
  have hna := (hw a).1
  refine jC_of jm_Model_powerTo (L := [some (.ref 135), some (.int (nI a)), some (.int (nI k)), some (.int (nI t)), none]) (Nat.le_of_ble_eq_true rfl) rfl trivial ?_
  generalize hres : ((none, jM h (pwL 20 t k (jset (jset P t (tunit (P a).1)) 36 (jset P t (tunit (P a).1) a)))) : Option Value × jH) = res
  have key : ∀ f left P1, left < 2 ^ f → left < 2 ^ 31 → (∀ q, tw (P1 q)) → (none, jM h (pwL f t left P1)) = res → jJ n 2 jc_Model_powerTo 5 "YesNoPowersModel" 21 [some (.ref 135), some (.int (nI a)), some (.int (nI k)), some (.int (nI t)), some (.int (nI left))] [] (jM h P1) res := by
    intro f
    induction f with
    | zero =>
      intro left P1 hl hl2 hw1 hres
      have e : left = 0 := by omega
      refine j_iload d_Model_powerTo_21 rfl ?_
      refine j_if_leN_t (tgt := 77) d_Model_powerTo_23 (by decide) (by omega) e ?_
      subst hres
      exact j_retv d_Model_powerTo_77 rfl
    | succ f ih =>
      intro left P1 hl hl2 hw1 hres
      refine j_iload d_Model_powerTo_21 rfl ?_
      refine j_if_leN (tgt := 77) d_Model_powerTo_23 (by decide) (by omega) (fun c => ?_) (fun c => ?_)
      · subst hres
        exact j_retv d_Model_powerTo_77 (by rw [pwL, if_pos c])
      · refine j_iload d_Model_powerTo_26 rfl ?_
        refine j_iconst (v := nI 2) d_Model_powerTo_28 rfl ?_
        refine j_iremN d_Model_powerTo_29 (by omega) (by omega) (by omega) ?_
        refine j_iconst (v := nI 1) d_Model_powerTo_30 rfl ?_
        refine j_icmp_neN (tgt := 50) d_Model_powerTo_31 (by decide) (by omega) (by omega) (fun c2 => ?_) (fun c2 => ?_)
        · refine j_aload_n d_Model_powerTo_50 rfl ?_
          refine j_bipush (v := nI 36) d_Model_powerTo_51 (by decide) ?_
          refine j_bipush (v := nI 36) d_Model_powerTo_53 (by decide) ?_
          refine j_bipush (v := nI 37) d_Model_powerTo_55 (by decide) ?_
          refine j_callVn (As := [.int (nI 36), .int (nI 36), .int (nI 37)]) (st := []) (c_multiply (by omega) (by omega) (by omega) (by omega) (by omega) hw1) d_Model_powerTo_57 (by decide) jm_Model_multiply jk_Model_88 ji_Model_multiply js_Model_multiply rfl (by decide) rfl rfl (Nat.le_of_ble_eq_true rfl) rfl ?_
          refine j_aload_n d_Model_powerTo_60 rfl ?_
          refine j_bipush (v := nI 37) d_Model_powerTo_61 (by decide) ?_
          refine j_bipush (v := nI 36) d_Model_powerTo_63 (by decide) ?_
          refine j_callVn (As := [.int (nI 37), .int (nI 36)]) (st := []) (c_copyTo (by omega) (by omega) (by omega)) d_Model_powerTo_65 (by decide) jm_Model_copyTo jk_Model_85 ji_Model_copyTo js_Model_copyTo rfl (by decide) rfl rfl (Nat.le_of_ble_eq_true rfl) rfl ?_
          refine j_iload d_Model_powerTo_68 rfl ?_
          refine j_iconst (v := nI 2) d_Model_powerTo_70 rfl ?_
          refine j_idivN d_Model_powerTo_71 (by omega) (by omega) (by omega) ?_
          refine j_istore (L' := [some (.ref 135), some (.int (nI a)), some (.int (nI k)), some (.int (nI t)), some (.int (nI (left / 2)))]) d_Model_powerTo_72 (by decide) rfl rfl ?_
          refine j_goto (tgt := 21) d_Model_powerTo_74 (by decide) ?_
          exact ih _ _ (Nat.div_lt_of_lt_mul (by rw [Nat.pow_succ] at hl; omega)) (by omega) (tws (tws hw1 (tw_mul (hw1 36) (hw1 36))) ((tws hw1 (tw_mul (hw1 36) (hw1 36))) 37)) (by rw [← hres, pwL, if_neg c, pwS, if_neg c2])
        · refine j_aload_n d_Model_powerTo_34 rfl ?_
          refine j_iload_n d_Model_powerTo_35 rfl ?_
          refine j_bipush (v := nI 36) d_Model_powerTo_36 (by decide) ?_
          refine j_bipush (v := nI 37) d_Model_powerTo_38 (by decide) ?_
          refine j_callVn (As := [.int (nI t), .int (nI 36), .int (nI 37)]) (st := []) (c_multiply (by omega) (by omega) (by omega) (by omega) (by omega) hw1) d_Model_powerTo_40 (by decide) jm_Model_multiply jk_Model_88 ji_Model_multiply js_Model_multiply rfl (by decide) rfl rfl (Nat.le_of_ble_eq_true rfl) rfl ?_
          refine j_aload_n d_Model_powerTo_43 rfl ?_
          refine j_bipush (v := nI 37) d_Model_powerTo_44 (by decide) ?_
          refine j_iload_n d_Model_powerTo_46 rfl ?_
          refine j_callVn (As := [.int (nI 37), .int (nI t)]) (st := []) (c_copyTo (by omega) (by omega) (by omega)) d_Model_powerTo_47 (by decide) jm_Model_copyTo jk_Model_85 ji_Model_copyTo js_Model_copyTo rfl (by decide) rfl rfl (Nat.le_of_ble_eq_true rfl) rfl ?_
          refine j_aload_n d_Model_powerTo_50 rfl ?_
          refine j_bipush (v := nI 36) d_Model_powerTo_51 (by decide) ?_
          refine j_bipush (v := nI 36) d_Model_powerTo_53 (by decide) ?_
          refine j_bipush (v := nI 37) d_Model_powerTo_55 (by decide) ?_
          refine j_callVn (As := [.int (nI 36), .int (nI 36), .int (nI 37)]) (st := []) (c_multiply (by omega) (by omega) (by omega) (by omega) (by omega) (tws (tws hw1 (tw_mul (hw1 t) (hw1 36))) ((tws hw1 (tw_mul (hw1 t) (hw1 36))) 37))) d_Model_powerTo_57 (by decide) jm_Model_multiply jk_Model_88 ji_Model_multiply js_Model_multiply rfl (by decide) rfl rfl (Nat.le_of_ble_eq_true rfl) rfl ?_
          refine j_aload_n d_Model_powerTo_60 rfl ?_
          refine j_bipush (v := nI 37) d_Model_powerTo_61 (by decide) ?_
          refine j_bipush (v := nI 36) d_Model_powerTo_63 (by decide) ?_
          refine j_callVn (As := [.int (nI 37), .int (nI 36)]) (st := []) (c_copyTo (by omega) (by omega) (by omega)) d_Model_powerTo_65 (by decide) jm_Model_copyTo jk_Model_85 ji_Model_copyTo js_Model_copyTo rfl (by decide) rfl rfl (Nat.le_of_ble_eq_true rfl) rfl ?_
          refine j_iload d_Model_powerTo_68 rfl ?_
          refine j_iconst (v := nI 2) d_Model_powerTo_70 rfl ?_
          refine j_idivN d_Model_powerTo_71 (by omega) (by omega) (by omega) ?_
          refine j_istore (L' := [some (.ref 135), some (.int (nI a)), some (.int (nI k)), some (.int (nI t)), some (.int (nI (left / 2)))]) d_Model_powerTo_72 (by decide) rfl rfl ?_
          refine j_goto (tgt := 21) d_Model_powerTo_74 (by decide) ?_
          exact ih _ _ (Nat.div_lt_of_lt_mul (by rw [Nat.pow_succ] at hl; omega)) (by omega) (tws (tws (tws (tws hw1 (tw_mul (hw1 t) (hw1 36))) ((tws hw1 (tw_mul (hw1 t) (hw1 36))) 37)) (tw_mul ((tws (tws hw1 (tw_mul (hw1 t) (hw1 36))) ((tws hw1 (tw_mul (hw1 t) (hw1 36))) 37)) 36) ((tws (tws hw1 (tw_mul (hw1 t) (hw1 36))) ((tws hw1 (tw_mul (hw1 t) (hw1 36))) 37)) 36))) ((tws (tws (tws hw1 (tw_mul (hw1 t) (hw1 36))) ((tws hw1 (tw_mul (hw1 t) (hw1 36))) 37)) (tw_mul ((tws (tws hw1 (tw_mul (hw1 t) (hw1 36))) ((tws hw1 (tw_mul (hw1 t) (hw1 36))) 37)) 36) ((tws (tws hw1 (tw_mul (hw1 t) (hw1 36))) ((tws hw1 (tw_mul (hw1 t) (hw1 36))) 37)) 36))) 37)) (by rw [← hres, pwL, if_neg c, pwS, if_pos c2])
  refine j_aload_n d_Model_powerTo_0 rfl ?_
  refine j_iload_n d_Model_powerTo_1 rfl ?_
  refine j_aload_n d_Model_powerTo_2 rfl ?_
  refine j_getr (b := 137) d_Model_powerTo_3 jf_Model_13 rfl rfl rfl (by decide) ?_
  refine j_iload_n d_Model_powerTo_6 rfl ?_
  refine j_ialdN (v := nI ((P a).1)) d_Model_powerTo_7 rfl (by omega) (by decide) rfl ?_
  refine j_callVn (As := [.int (nI t), .int (nI ((P a).1))]) (st := []) (c_unit (by omega) (hw a).1) d_Model_powerTo_8 (by decide) jm_Model_unit jk_Model_82 ji_Model_unit js_Model_unit rfl (by decide) rfl rfl (Nat.le_of_ble_eq_true rfl) rfl ?_
  refine j_aload_n d_Model_powerTo_11 rfl ?_
  refine j_iload_n d_Model_powerTo_12 rfl ?_
  refine j_bipush (v := nI 36) d_Model_powerTo_13 (by decide) ?_
  refine j_callVn (As := [.int (nI a), .int (nI 36)]) (st := []) (c_copyTo (by omega) (by omega) (by omega)) d_Model_powerTo_15 (by decide) jm_Model_copyTo jk_Model_85 ji_Model_copyTo js_Model_copyTo rfl (by decide) rfl rfl (Nat.le_of_ble_eq_true rfl) rfl ?_
  refine j_iload_n d_Model_powerTo_18 rfl ?_
  refine j_istore (L' := [some (.ref 135), some (.int (nI a)), some (.int (nI k)), some (.int (nI t)), some (.int (nI k))]) d_Model_powerTo_19 (by decide) rfl rfl ?_
  exact key 20 _ _ hk (by omega) (tws (tws hw (tw_unit (hw a).1)) ((tws hw (tw_unit (hw a).1)) a)) hres
def clS (t a : Nat) (P : jP) : jP :=
  jset (jset (jset P t (tadd (P t) (P 36))) 37 (tmul (jset P t (tadd (P t) (P 36)) 36) (jset P t (tadd (P t) (P 36)) a))) 36 (jset (jset P t (tadd (P t) (P 36))) 37 (tmul (jset P t (tadd (P t) (P 36)) 36) (jset P t (tadd (P t) (P 36)) a)) 37)
def clO (t a : Nat) (P : jP) : jP := jset (jset P t (tzero (P a).1)) 36 (jset P t (tzero (P a).1) a)
theorem clS_w {t a : Nat} {P : jP} (hw : ∀ q, tw (P q)) : ∀ q, tw (clS t a P q) :=
  let h1 := tws hw (tw_add (hw t) (hw 36)); let h2 := tws h1 (tw_mul (h1 36) (h1 a)); tws h2 (h2 37)
theorem clS_a {t a : Nat} {P : jP} (h1 : a ≠ t) (h2 : a ≠ 36) (h3 : a ≠ 37) : clS t a P a = P a := by
  rw [clS, jset_ne h2, jset_ne h3, jset_ne h1]
theorem clO_w {t a : Nat} {P : jP} (hw : ∀ q, tw (P q)) : ∀ q, tw (clO t a P q) :=
  let h1 := tws (p := t) hw (tw_zero (hw a).1); tws h1 (h1 a)
theorem jit_w {f : jP → jP} (hf : ∀ P, (∀ q, tw (P q)) → ∀ q, tw (f P q)) {P : jP} (hw : ∀ q, tw (P q)) : ∀ k q, tw (jit f k P q)
  | 0 => hw
  | k + 1 => hf _ (jit_w hf hw k)
theorem jit_a {f : jP → jP} {a : Nat} (hf : ∀ P, f P a = P a) {P : jP} : ∀ k, jit f k P a = P a
  | 0 => rfl
  | k + 1 => (hf _).trans (jit_a hf k)
theorem c_closureTo {n : jN} {h : jH} {P : jP} {a t : Nat} (hpa : a < 36) (hpt : t < 36) (hat : a ≠ t) (hw : ∀ q, tw (P q)) : jC n 2 jy_Model_closureTo jc_Model_closureTo 4 none [.ref 135, .int (nI a), .int (nI t)] (jM h P) none (jM h (jit (clS t a) (P a).1 (clO t a P))) := by
  have hna := (hw a).1
  refine jC_of jm_Model_closureTo (L := [some (.ref 135), some (.int (nI a)), some (.int (nI t)), none]) (Nat.le_of_ble_eq_true rfl) rfl trivial ?_
  generalize hres : ((none, jM h (jit (clS t a) (P a).1 (clO t a P))) : Option Value × jH) = res
  have hk0 : ∀ k, jit (clS t a) k (clO t a P) a = P a := fun k => (jit_a (fun Q => clS_a hat (by omega) (by omega)) k).trans (by rw [clO, jset_ne (by omega), jset_ne hat])
  have hkw : ∀ k q, tw (jit (clS t a) k (clO t a P) q) := jit_w (fun Q hq => clS_w hq) (clO_w hw)
  refine j_aload_n d_Model_closureTo_0 rfl ?_
  refine j_iload_n d_Model_closureTo_1 rfl ?_
  refine j_aload_n d_Model_closureTo_2 rfl ?_
  refine j_getr (b := 137) d_Model_closureTo_3 jf_Model_13 rfl rfl rfl (by decide) ?_
  refine j_iload_n d_Model_closureTo_6 rfl ?_
  refine j_ialdN (v := nI ((P a).1)) d_Model_closureTo_7 rfl (by omega) (by decide) rfl ?_
  refine j_callVn (As := [.int (nI t), .int (nI ((P a).1))]) (st := []) (c_empty (by omega)) d_Model_closureTo_8 (by decide) jm_Model_empty jk_Model_75 ji_Model_empty js_Model_empty rfl (by decide) rfl rfl (Nat.le_of_ble_eq_true rfl) rfl ?_
  refine j_heap (h' := jM h (jset P t (tzero (P a).1))) rfl ?_
  refine j_aload_n d_Model_closureTo_11 rfl ?_
  refine j_iload_n d_Model_closureTo_12 rfl ?_
  refine j_bipush (v := nI 36) d_Model_closureTo_13 (by decide) ?_
  refine j_callVn (As := [.int (nI a), .int (nI 36)]) (st := []) (c_copyTo (by omega) (by omega) (by omega)) d_Model_closureTo_15 (by decide) jm_Model_copyTo jk_Model_85 ji_Model_copyTo js_Model_copyTo rfl (by decide) rfl rfl (Nat.le_of_ble_eq_true rfl) rfl ?_
  refine j_iconst (v := nI 0) d_Model_closureTo_18 rfl ?_
  refine j_istore_n (L' := [some (.ref 135), some (.int (nI a)), some (.int (nI t)), some (.int (nI 0))]) d_Model_closureTo_19 (by decide) rfl rfl ?_
  refine j_heap (h' := jM h (jit (clS t a) 0 (clO t a P))) rfl ?_
  refine j_loop (P := fun k => jJ n 2 jc_Model_closureTo 4 "YesNoPowersModel" 20 [some (.ref 135), some (.int (nI a)), some (.int (nI t)), some (.int (nI k))] [] (jM h (jit (clS t a) k (clO t a P))) res) (m := (P a).1) ?_ (fun k hk ih => ?_)
  · refine j_iload_n d_Model_closureTo_20 rfl ?_
    refine j_aload_n d_Model_closureTo_21 rfl ?_
    refine j_getr (b := 137) d_Model_closureTo_22 jf_Model_13 rfl rfl rfl (by decide) ?_
    refine j_iload_n d_Model_closureTo_25 rfl ?_
    refine j_ialdN (v := nI ((P a).1)) d_Model_closureTo_26 rfl (by omega) (by decide) (congrArg (fun T : jT => nI T.1) (hk0 ((P a).1))) ?_
    refine j_icmp_geN_t (tgt := 60) d_Model_closureTo_27 (by decide) (by omega) (by omega) (Nat.le_refl _) ?_
    subst hres
    exact j_retv d_Model_closureTo_60 rfl
  · refine j_iload_n d_Model_closureTo_20 rfl ?_
    refine j_aload_n d_Model_closureTo_21 rfl ?_
    refine j_getr (b := 137) d_Model_closureTo_22 jf_Model_13 rfl rfl rfl (by decide) ?_
    refine j_iload_n d_Model_closureTo_25 rfl ?_
    refine j_ialdN (v := nI ((P a).1)) d_Model_closureTo_26 rfl (by omega) (by decide) (congrArg (fun T : jT => nI T.1) (hk0 k)) ?_
    refine j_icmp_geN_f (tgt := 60) d_Model_closureTo_27 (by decide) (by omega) (by omega) (Nat.not_le.mpr hk) ?_
    refine j_aload_n d_Model_closureTo_30 rfl ?_
    refine j_iload_n d_Model_closureTo_31 rfl ?_
    refine j_bipush (v := nI 36) d_Model_closureTo_32 (by decide) ?_
    refine j_callVn (As := [.int (nI t), .int (nI 36)]) (st := []) (c_addTo (by omega) (by omega) (by omega) (hkw k)) d_Model_closureTo_34 (by decide) jm_Model_addTo jk_Model_92 ji_Model_addTo js_Model_addTo rfl (by decide) rfl rfl (Nat.le_of_ble_eq_true rfl) rfl ?_
    refine j_aload_n d_Model_closureTo_37 rfl ?_
    refine j_bipush (v := nI 36) d_Model_closureTo_38 (by decide) ?_
    refine j_iload_n d_Model_closureTo_40 rfl ?_
    refine j_bipush (v := nI 37) d_Model_closureTo_41 (by decide) ?_
    refine j_callVn (As := [.int (nI 36), .int (nI a), .int (nI 37)]) (st := []) (c_multiply (by omega) (by omega) (by omega) (by omega) (by omega) (tws (hkw k) (tw_add ((hkw k) t) ((hkw k) 36)))) d_Model_closureTo_43 (by decide) jm_Model_multiply jk_Model_88 ji_Model_multiply js_Model_multiply rfl (by decide) rfl rfl (Nat.le_of_ble_eq_true rfl) rfl ?_
    refine j_aload_n d_Model_closureTo_46 rfl ?_
    refine j_bipush (v := nI 37) d_Model_closureTo_47 (by decide) ?_
    refine j_bipush (v := nI 36) d_Model_closureTo_49 (by decide) ?_
    refine j_callVn (As := [.int (nI 37), .int (nI 36)]) (st := []) (c_copyTo (by omega) (by omega) (by omega)) d_Model_closureTo_51 (by decide) jm_Model_copyTo jk_Model_85 ji_Model_copyTo js_Model_copyTo rfl (by decide) rfl rfl (Nat.le_of_ble_eq_true rfl) rfl ?_
    refine j_iincN (x := k) (L' := [some (.ref 135), some (.int (nI a)), some (.int (nI t)), some (.int (nI (k + 1)))]) d_Model_closureTo_54 rfl (by decide) rfl rfl ?_
    refine j_goto (tgt := 20) d_Model_closureTo_57 (by decide) ?_
    exact ih
def gr1 (a : Nat) (P : jP) : jP := jset P 36 (ttr (P a))
def gr2 (a : Nat) (P : jP) : jP := jset (gr1 a P) 37 (gr1 a P a)
def gr3 (a : Nat) (P : jP) : jP := jset (gr2 a P) 37 (tco (gr2 a P 37))
def gr4 (a t : Nat) (P : jP) : jP := jset (gr3 a P) t (tmul (gr3 a P 36) (gr3 a P 37))
def gr5 (a t : Nat) (P : jP) : jP := jset (gr4 a t P) 37 (gr4 a t P t)
def gr6 (a t : Nat) (P : jP) : jP := jset (gr5 a t P) t (tmul (gr5 a t P 37) (gr5 a t P 36))
def gr7 (a t : Nat) (P : jP) : jP := jset (gr6 a t P) t (tco (gr6 a t P t))
theorem c_greatestTo {n : jN} {h : jH} {P : jP} {a t : Nat} (hpa : a < 36) (hpt : t < 36) (hat : a ≠ t) (hw : ∀ q, tw (P q)) : jC n 3 jy_Model_greatestTo jc_Model_greatestTo 3 none [.ref 135, .int (nI a), .int (nI t)] (jM h P) none (jM h (gr7 a t P)) := by
  have hna := (hw a).1
  refine jC_of jm_Model_greatestTo (L := [some (.ref 135), some (.int (nI a)), some (.int (nI t))]) (Nat.le_of_ble_eq_true rfl) rfl trivial ?_
  generalize hres : ((none, jM h (gr7 a t P)) : Option Value × jH) = res
  refine j_aload_n d_Model_greatestTo_0 rfl ?_
  refine j_iload_n d_Model_greatestTo_1 rfl ?_
  refine j_bipush (v := nI 36) d_Model_greatestTo_2 (by decide) ?_
  refine j_callVn (As := [.int (nI a), .int (nI 36)]) (st := []) (c_transpose (by omega) (by omega) (by omega) hw) d_Model_greatestTo_4 (by decide) jm_Model_transpose jk_Model_95 ji_Model_transpose js_Model_transpose rfl (by decide) rfl rfl (Nat.le_of_ble_eq_true rfl) rfl ?_
  have hw1 : ∀ q, tw (gr1 a P q) := (tws hw (tw_tr (hw a)))
  refine j_heap (h' := jM h (gr1 a P)) rfl ?_
  refine j_aload_n d_Model_greatestTo_7 rfl ?_
  refine j_iload_n d_Model_greatestTo_8 rfl ?_
  refine j_bipush (v := nI 37) d_Model_greatestTo_9 (by decide) ?_
  refine j_callVn (As := [.int (nI a), .int (nI 37)]) (st := []) (c_copyTo (by omega) (by omega) (by omega)) d_Model_greatestTo_11 (by decide) jm_Model_copyTo jk_Model_85 ji_Model_copyTo js_Model_copyTo rfl (by decide) rfl rfl (Nat.le_of_ble_eq_true rfl) rfl ?_
  have hw2 : ∀ q, tw (gr2 a P q) := (tws hw1 (hw1 a))
  refine j_heap (h' := jM h (gr2 a P)) rfl ?_
  refine j_aload_n d_Model_greatestTo_14 rfl ?_
  refine j_bipush (v := nI 37) d_Model_greatestTo_15 (by decide) ?_
  refine j_callVn (As := [.int (nI 37)]) (st := []) (c_complement (by omega) hw2) d_Model_greatestTo_17 (by decide) jm_Model_complement jk_Model_98 ji_Model_complement js_Model_complement rfl (by decide) rfl rfl (Nat.le_of_ble_eq_true rfl) rfl ?_
  have hw3 : ∀ q, tw (gr3 a P q) := (tws hw2 (tw_co (hw2 37)))
  refine j_heap (h' := jM h (gr3 a P)) rfl ?_
  refine j_aload_n d_Model_greatestTo_20 rfl ?_
  refine j_bipush (v := nI 36) d_Model_greatestTo_21 (by decide) ?_
  refine j_bipush (v := nI 37) d_Model_greatestTo_23 (by decide) ?_
  refine j_iload_n d_Model_greatestTo_25 rfl ?_
  refine j_callVn (As := [.int (nI 36), .int (nI 37), .int (nI t)]) (st := []) (c_multiply (by omega) (by omega) (by omega) (by omega) (by omega) hw3) d_Model_greatestTo_26 (by decide) jm_Model_multiply jk_Model_88 ji_Model_multiply js_Model_multiply rfl (by decide) rfl rfl (Nat.le_of_ble_eq_true rfl) rfl ?_
  have hw4 : ∀ q, tw (gr4 a t P q) := (tws hw3 (tw_mul (hw3 36) (hw3 37)))
  refine j_heap (h' := jM h (gr4 a t P)) rfl ?_
  refine j_aload_n d_Model_greatestTo_29 rfl ?_
  refine j_iload_n d_Model_greatestTo_30 rfl ?_
  refine j_bipush (v := nI 37) d_Model_greatestTo_31 (by decide) ?_
  refine j_callVn (As := [.int (nI t), .int (nI 37)]) (st := []) (c_copyTo (by omega) (by omega) (by omega)) d_Model_greatestTo_33 (by decide) jm_Model_copyTo jk_Model_85 ji_Model_copyTo js_Model_copyTo rfl (by decide) rfl rfl (Nat.le_of_ble_eq_true rfl) rfl ?_
  have hw5 : ∀ q, tw (gr5 a t P q) := (tws hw4 (hw4 t))
  refine j_heap (h' := jM h (gr5 a t P)) rfl ?_
  refine j_aload_n d_Model_greatestTo_36 rfl ?_
  refine j_bipush (v := nI 37) d_Model_greatestTo_37 (by decide) ?_
  refine j_bipush (v := nI 36) d_Model_greatestTo_39 (by decide) ?_
  refine j_iload_n d_Model_greatestTo_41 rfl ?_
  refine j_callVn (As := [.int (nI 37), .int (nI 36), .int (nI t)]) (st := []) (c_multiply (by omega) (by omega) (by omega) (by omega) (by omega) hw5) d_Model_greatestTo_42 (by decide) jm_Model_multiply jk_Model_88 ji_Model_multiply js_Model_multiply rfl (by decide) rfl rfl (Nat.le_of_ble_eq_true rfl) rfl ?_
  have hw6 : ∀ q, tw (gr6 a t P q) := (tws hw5 (tw_mul (hw5 37) (hw5 36)))
  refine j_heap (h' := jM h (gr6 a t P)) rfl ?_
  refine j_aload_n d_Model_greatestTo_45 rfl ?_
  refine j_iload_n d_Model_greatestTo_46 rfl ?_
  refine j_callVn (As := [.int (nI t)]) (st := []) (c_complement (by omega) hw6) d_Model_greatestTo_47 (by decide) jm_Model_complement jk_Model_98 ji_Model_complement js_Model_complement rfl (by decide) rfl rfl (Nat.le_of_ble_eq_true rfl) rfl ?_
  have hw7 : ∀ q, tw (gr7 a t P q) := (tws hw6 (tw_co (hw6 t)))
  refine j_heap (h' := jM h (gr7 a t P)) rfl ?_
  subst hres
  exact j_retv d_Model_greatestTo_50 rfl

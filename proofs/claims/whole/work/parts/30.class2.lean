def swar (i : Int32) : Int32 :=
  let sh := fun (x : Int32) (k : Int32) => (x.toUInt32 >>> (k.toUInt32 &&& Int32.toUInt32 31)).toInt32
  let a := i - (sh i 1 &&& 1431655765)
  let b := (a &&& 858993459) + (sh a 2 &&& 858993459)
  let c := (b + sh b 4) &&& 252645135
  let d := c + sh c 8
  let e := d + sh d 16
  e &&& 63
theorem swar_0 : ∀ a, a < 64 → ∀ b, b < 64 → swar (nI (64 * a + b)) = nI (jpc (64 * a + b)) := by decide +kernel
theorem swar_jpc (m : Nat) (hm : m < 4096) : swar (nI m) = nI (jpc m) := by
  have h := swar_0 (m / 64) (by omega) (m % 64) (by omega)
  rwa [show 64 * (m / 64) + m % 64 = m by omega] at h
theorem x_bitCount {n : jN} {h : jH} {m : Nat} (hm : m < 4096) : jC n 0 jy_J_bitCount jc_J_bitCount 1 (some .int) [.int (nI m)] h (some (.int (nI (jpc m)))) h := by
  refine jC_of jm_J_bitCount (L := [some (.int (nI m))]) (Nat.le_of_ble_eq_true rfl) rfl trivial ?_
  generalize hres : (((some (.int (nI (jpc m)))), h) : Option Value × jH) = res
  refine j_iload_n d_J_bitCount_0 rfl ?_
  refine j_iload_n d_J_bitCount_1 rfl ?_
  refine j_iconst (v := nI 1) d_J_bitCount_2 rfl ?_
  refine j_iushr d_J_bitCount_3 rfl ?_
  refine j_ldcw (v := 1431655765) d_J_bitCount_4 jk_JInt_265 ?_
  refine j_top (w := nI 1431655765) rfl ?_
  refine j_iand d_J_bitCount_7 ?_
  refine j_isub d_J_bitCount_8 ?_
  refine j_istore_n (L' := [some (.int ((nI m) - ((((nI m).toUInt32 >>> ((nI 1).toUInt32 &&& Int32.toUInt32 31)).toInt32) &&& (nI 1431655765))))]) d_J_bitCount_9 (by decide) rfl rfl ?_
  refine j_iload_n d_J_bitCount_10 rfl ?_
  refine j_ldcw (v := 858993459) d_J_bitCount_11 jk_JInt_266 ?_
  refine j_top (w := nI 858993459) rfl ?_
  refine j_iand d_J_bitCount_14 ?_
  refine j_iload_n d_J_bitCount_15 rfl ?_
  refine j_iconst (v := nI 2) d_J_bitCount_16 rfl ?_
  refine j_iushr d_J_bitCount_17 rfl ?_
  refine j_ldcw (v := 858993459) d_J_bitCount_18 jk_JInt_266 ?_
  refine j_top (w := nI 858993459) rfl ?_
  refine j_iand d_J_bitCount_21 ?_
  refine j_iadd d_J_bitCount_22 ?_
  refine j_istore_n (L' := [some (.int ((((nI m) - ((((nI m).toUInt32 >>> ((nI 1).toUInt32 &&& Int32.toUInt32 31)).toInt32) &&& (nI 1431655765))) &&& (nI 858993459)) + (((((nI m) - ((((nI m).toUInt32 >>> ((nI 1).toUInt32 &&& Int32.toUInt32 31)).toInt32) &&& (nI 1431655765))).toUInt32 >>> ((nI 2).toUInt32 &&& Int32.toUInt32 31)).toInt32) &&& (nI 858993459))))]) d_J_bitCount_23 (by decide) rfl rfl ?_
  refine j_iload_n d_J_bitCount_24 rfl ?_
  refine j_iload_n d_J_bitCount_25 rfl ?_
  refine j_iconst (v := nI 4) d_J_bitCount_26 rfl ?_
  refine j_iushr d_J_bitCount_27 rfl ?_
  refine j_iadd d_J_bitCount_28 ?_
  refine j_ldcw (v := 252645135) d_J_bitCount_29 jk_JInt_267 ?_
  refine j_top (w := nI 252645135) rfl ?_
  refine j_iand d_J_bitCount_32 ?_
  refine j_istore_n (L' := [some (.int ((((((nI m) - ((((nI m).toUInt32 >>> ((nI 1).toUInt32 &&& Int32.toUInt32 31)).toInt32) &&& (nI 1431655765))) &&& (nI 858993459)) + (((((nI m) - ((((nI m).toUInt32 >>> ((nI 1).toUInt32 &&& Int32.toUInt32 31)).toInt32) &&& (nI 1431655765))).toUInt32 >>> ((nI 2).toUInt32 &&& Int32.toUInt32 31)).toInt32) &&& (nI 858993459))) + ((((((nI m) - ((((nI m).toUInt32 >>> ((nI 1).toUInt32 &&& Int32.toUInt32 31)).toInt32) &&& (nI 1431655765))) &&& (nI 858993459)) + (((((nI m) - ((((nI m).toUInt32 >>> ((nI 1).toUInt32 &&& Int32.toUInt32 31)).toInt32) &&& (nI 1431655765))).toUInt32 >>> ((nI 2).toUInt32 &&& Int32.toUInt32 31)).toInt32) &&& (nI 858993459))).toUInt32 >>> ((nI 4).toUInt32 &&& Int32.toUInt32 31)).toInt32)) &&& (nI 252645135)))]) d_J_bitCount_33 (by decide) rfl rfl ?_
  refine j_iload_n d_J_bitCount_34 rfl ?_
  refine j_iload_n d_J_bitCount_35 rfl ?_
  refine j_bipush (v := nI 8) d_J_bitCount_36 (by decide) ?_
  refine j_iushr d_J_bitCount_38 rfl ?_
  refine j_iadd d_J_bitCount_39 ?_
  refine j_istore_n (L' := [some (.int (((((((nI m) - ((((nI m).toUInt32 >>> ((nI 1).toUInt32 &&& Int32.toUInt32 31)).toInt32) &&& (nI 1431655765))) &&& (nI 858993459)) + (((((nI m) - ((((nI m).toUInt32 >>> ((nI 1).toUInt32 &&& Int32.toUInt32 31)).toInt32) &&& (nI 1431655765))).toUInt32 >>> ((nI 2).toUInt32 &&& Int32.toUInt32 31)).toInt32) &&& (nI 858993459))) + ((((((nI m) - ((((nI m).toUInt32 >>> ((nI 1).toUInt32 &&& Int32.toUInt32 31)).toInt32) &&& (nI 1431655765))) &&& (nI 858993459)) + (((((nI m) - ((((nI m).toUInt32 >>> ((nI 1).toUInt32 &&& Int32.toUInt32 31)).toInt32) &&& (nI 1431655765))).toUInt32 >>> ((nI 2).toUInt32 &&& Int32.toUInt32 31)).toInt32) &&& (nI 858993459))).toUInt32 >>> ((nI 4).toUInt32 &&& Int32.toUInt32 31)).toInt32)) &&& (nI 252645135)) + ((((((((nI m) - ((((nI m).toUInt32 >>> ((nI 1).toUInt32 &&& Int32.toUInt32 31)).toInt32) &&& (nI 1431655765))) &&& (nI 858993459)) + (((((nI m) - ((((nI m).toUInt32 >>> ((nI 1).toUInt32 &&& Int32.toUInt32 31)).toInt32) &&& (nI 1431655765))).toUInt32 >>> ((nI 2).toUInt32 &&& Int32.toUInt32 31)).toInt32) &&& (nI 858993459))) + ((((((nI m) - ((((nI m).toUInt32 >>> ((nI 1).toUInt32 &&& Int32.toUInt32 31)).toInt32) &&& (nI 1431655765))) &&& (nI 858993459)) + (((((nI m) - ((((nI m).toUInt32 >>> ((nI 1).toUInt32 &&& Int32.toUInt32 31)).toInt32) &&& (nI 1431655765))).toUInt32 >>> ((nI 2).toUInt32 &&& Int32.toUInt32 31)).toInt32) &&& (nI 858993459))).toUInt32 >>> ((nI 4).toUInt32 &&& Int32.toUInt32 31)).toInt32)) &&& (nI 252645135)).toUInt32 >>> ((nI 8).toUInt32 &&& Int32.toUInt32 31)).toInt32)))]) d_J_bitCount_40 (by decide) rfl rfl ?_
  refine j_iload_n d_J_bitCount_41 rfl ?_
  refine j_iload_n d_J_bitCount_42 rfl ?_
  refine j_bipush (v := nI 16) d_J_bitCount_43 (by decide) ?_
  refine j_iushr d_J_bitCount_45 rfl ?_
  refine j_iadd d_J_bitCount_46 ?_
  refine j_istore_n (L' := [some (.int ((((((((nI m) - ((((nI m).toUInt32 >>> ((nI 1).toUInt32 &&& Int32.toUInt32 31)).toInt32) &&& (nI 1431655765))) &&& (nI 858993459)) + (((((nI m) - ((((nI m).toUInt32 >>> ((nI 1).toUInt32 &&& Int32.toUInt32 31)).toInt32) &&& (nI 1431655765))).toUInt32 >>> ((nI 2).toUInt32 &&& Int32.toUInt32 31)).toInt32) &&& (nI 858993459))) + ((((((nI m) - ((((nI m).toUInt32 >>> ((nI 1).toUInt32 &&& Int32.toUInt32 31)).toInt32) &&& (nI 1431655765))) &&& (nI 858993459)) + (((((nI m) - ((((nI m).toUInt32 >>> ((nI 1).toUInt32 &&& Int32.toUInt32 31)).toInt32) &&& (nI 1431655765))).toUInt32 >>> ((nI 2).toUInt32 &&& Int32.toUInt32 31)).toInt32) &&& (nI 858993459))).toUInt32 >>> ((nI 4).toUInt32 &&& Int32.toUInt32 31)).toInt32)) &&& (nI 252645135)) + ((((((((nI m) - ((((nI m).toUInt32 >>> ((nI 1).toUInt32 &&& Int32.toUInt32 31)).toInt32) &&& (nI 1431655765))) &&& (nI 858993459)) + (((((nI m) - ((((nI m).toUInt32 >>> ((nI 1).toUInt32 &&& Int32.toUInt32 31)).toInt32) &&& (nI 1431655765))).toUInt32 >>> ((nI 2).toUInt32 &&& Int32.toUInt32 31)).toInt32) &&& (nI 858993459))) + ((((((nI m) - ((((nI m).toUInt32 >>> ((nI 1).toUInt32 &&& Int32.toUInt32 31)).toInt32) &&& (nI 1431655765))) &&& (nI 858993459)) + (((((nI m) - ((((nI m).toUInt32 >>> ((nI 1).toUInt32 &&& Int32.toUInt32 31)).toInt32) &&& (nI 1431655765))).toUInt32 >>> ((nI 2).toUInt32 &&& Int32.toUInt32 31)).toInt32) &&& (nI 858993459))).toUInt32 >>> ((nI 4).toUInt32 &&& Int32.toUInt32 31)).toInt32)) &&& (nI 252645135)).toUInt32 >>> ((nI 8).toUInt32 &&& Int32.toUInt32 31)).toInt32)) + (((((((((nI m) - ((((nI m).toUInt32 >>> ((nI 1).toUInt32 &&& Int32.toUInt32 31)).toInt32) &&& (nI 1431655765))) &&& (nI 858993459)) + (((((nI m) - ((((nI m).toUInt32 >>> ((nI 1).toUInt32 &&& Int32.toUInt32 31)).toInt32) &&& (nI 1431655765))).toUInt32 >>> ((nI 2).toUInt32 &&& Int32.toUInt32 31)).toInt32) &&& (nI 858993459))) + ((((((nI m) - ((((nI m).toUInt32 >>> ((nI 1).toUInt32 &&& Int32.toUInt32 31)).toInt32) &&& (nI 1431655765))) &&& (nI 858993459)) + (((((nI m) - ((((nI m).toUInt32 >>> ((nI 1).toUInt32 &&& Int32.toUInt32 31)).toInt32) &&& (nI 1431655765))).toUInt32 >>> ((nI 2).toUInt32 &&& Int32.toUInt32 31)).toInt32) &&& (nI 858993459))).toUInt32 >>> ((nI 4).toUInt32 &&& Int32.toUInt32 31)).toInt32)) &&& (nI 252645135)) + ((((((((nI m) - ((((nI m).toUInt32 >>> ((nI 1).toUInt32 &&& Int32.toUInt32 31)).toInt32) &&& (nI 1431655765))) &&& (nI 858993459)) + (((((nI m) - ((((nI m).toUInt32 >>> ((nI 1).toUInt32 &&& Int32.toUInt32 31)).toInt32) &&& (nI 1431655765))).toUInt32 >>> ((nI 2).toUInt32 &&& Int32.toUInt32 31)).toInt32) &&& (nI 858993459))) + ((((((nI m) - ((((nI m).toUInt32 >>> ((nI 1).toUInt32 &&& Int32.toUInt32 31)).toInt32) &&& (nI 1431655765))) &&& (nI 858993459)) + (((((nI m) - ((((nI m).toUInt32 >>> ((nI 1).toUInt32 &&& Int32.toUInt32 31)).toInt32) &&& (nI 1431655765))).toUInt32 >>> ((nI 2).toUInt32 &&& Int32.toUInt32 31)).toInt32) &&& (nI 858993459))).toUInt32 >>> ((nI 4).toUInt32 &&& Int32.toUInt32 31)).toInt32)) &&& (nI 252645135)).toUInt32 >>> ((nI 8).toUInt32 &&& Int32.toUInt32 31)).toInt32)).toUInt32 >>> ((nI 16).toUInt32 &&& Int32.toUInt32 31)).toInt32)))]) d_J_bitCount_47 (by decide) rfl rfl ?_
  refine j_iload_n d_J_bitCount_48 rfl ?_
  refine j_bipush (v := nI 63) d_J_bitCount_49 (by decide) ?_
  refine j_iand d_J_bitCount_51 ?_
  subst hres
  exact j_reti d_J_bitCount_52 (by rw [← swar_jpc m hm]; rfl) rfl
theorem x_ones {n : jN} {h : jH} {t : Nat} (ht : isT t) {T : jT} (hr : rep h t T) (hT : tw T) : jC n 1 jy_Table_ones jc_Table_ones 3 (some .int) [.ref t] h (some (.int (nI (tones T T.1)))) h := by
  have hn12 := hT.1
  refine jC_of jm_Table_ones (L := [some (.ref t), none, none]) (Nat.le_of_ble_eq_true rfl) rfl trivial ?_
  generalize hres : (((some (.int (nI (tones T T.1)))), h) : Option Value × jH) = res
  refine j_iconst (v := nI 0) d_Table_ones_0 rfl ?_
  refine j_istore_n (L' := [some (.ref t), some (.int (nI 0)), none]) d_Table_ones_1 (by decide) rfl rfl ?_
  refine j_iconst (v := nI 0) d_Table_ones_2 rfl ?_
  refine j_istore_n (L' := [some (.ref t), some (.int (nI 0)), some (.int (nI 0))]) d_Table_ones_3 (by decide) rfl rfl ?_
  refine j_loop (P := fun k => jJ n 1 jc_Table_ones 3 "YesNoPowers$Table" 4 [some (.ref t), some (.int (nI (tones T k))), some (.int (nI k))] [] h res) (m := T.1) ?_ (fun k hk ih => ?_)
  · refine j_iload_n d_Table_ones_4 rfl ?_
    refine j_aload_n d_Table_ones_5 rfl ?_
    refine j_getv (v := nI T.1) d_Table_ones_6 jf_Table_15 ht.1 rfl hr.1 ?_
    refine j_icmp_geN_t (tgt := 30) d_Table_ones_9 (by decide) (by omega) (by omega) (Nat.le_refl _) ?_
    refine j_iload_n d_Table_ones_30 rfl ?_
    subst hres
    exact j_reti d_Table_ones_31 rfl rfl
  · refine j_iload_n d_Table_ones_4 rfl ?_
    refine j_aload_n d_Table_ones_5 rfl ?_
    refine j_getv (v := nI T.1) d_Table_ones_6 jf_Table_15 ht.1 rfl hr.1 ?_
    refine j_icmp_geN_f (tgt := 30) d_Table_ones_9 (by decide) (by omega) (by omega) (Nat.not_le.mpr hk) ?_
    refine j_iload_n d_Table_ones_12 rfl ?_
    refine j_aload_n d_Table_ones_13 rfl ?_
    refine j_getr (b := t + 1) d_Table_ones_14 jf_Table_11 ht.1 rfl ht.2.1 ht.2.2.2 ?_
    refine j_iload_n d_Table_ones_17 rfl ?_
    refine j_ialdN (v := nI (T.2 k)) d_Table_ones_18 ht.2.2.1 (by omega) (by decide) (hr.2 _ (by omega)) ?_
    refine j_callSs (As := [.int (nI (T.2 k))]) (st := [.int (nI (tones T k))]) (x_bitCount (hT.2.1 _)) d_Table_ones_19 (by decide) jm_J_bitCount jk_Table_27 js_J_bitCount rfl (Nat.le_of_ble_eq_true rfl) rfl ?_
    refine j_iaddN d_Table_ones_22 ?_
    refine j_istore_n (L' := [some (.ref t), some (.int (nI ((tones T k) + (jpc (T.2 k))))), some (.int (nI k))]) d_Table_ones_23 (by decide) rfl rfl ?_
    refine j_iincN (x := k) (L' := [some (.ref t), some (.int (nI ((tones T k) + (jpc (T.2 k))))), some (.int (nI (k + 1)))]) d_Table_ones_24 rfl (by decide) rfl rfl ?_
    refine j_goto (tgt := 4) d_Table_ones_27 (by decide) ?_
    exact ih
theorem jall_f {k m : Nat} {f : Nat → Bool} (hk : k < m) (hf : f k = false) : jall m f = false := by
  induction m with
  | zero => omega
  | succ m ih =>
    show (jall m f && f m) = false
    by_cases e : k = m
    · subst e
      rw [hf, Bool.and_false]
    · rw [ih (by omega), Bool.false_and]
theorem x_isEverywhere {n : jN} {h : jH} {t : Nat} (ht : isT t) {T : jT} (hr : rep h t T) (hT : tw T) : jC n 1 jy_Table_isEverywhere jc_Table_isEverywhere 2 (some .boolean) [.ref t] h (some (.int (jbo (tful T T.1 T.1)))) h := by
  have hn12 := hT.1
  refine jC_of jm_Table_isEverywhere (L := [some (.ref t), none]) (Nat.le_of_ble_eq_true rfl) rfl (jbo01 _) ?_
  generalize hres : (((some (.int (jbo (tful T T.1 T.1)))), h) : Option Value × jH) = res
  have h2m : 2 ^ T.1 ≤ 2 ^ 12 := Nat.pow_le_pow_right (by omega) hn12
  refine j_iconst (v := nI 0) d_Table_isEverywhere_0 rfl ?_
  refine j_istore_n (L' := [some (.ref t), some (.int (nI 0))]) d_Table_isEverywhere_1 (by decide) rfl rfl ?_
  refine j_loop (P := fun k => tful T T.1 k = true → jJ n 1 jc_Table_isEverywhere 2 "YesNoPowers$Table" 2 [some (.ref t), some (.int (nI k))] [] h res) (m := T.1) ?_ (fun k hk ih => ?_) rfl
  · intro hh
    refine j_iload_n d_Table_isEverywhere_2 rfl ?_
    refine j_aload_n d_Table_isEverywhere_3 rfl ?_
    refine j_getv (v := nI T.1) d_Table_isEverywhere_4 jf_Table_15 ht.1 rfl hr.1 ?_
    refine j_icmp_geN_t (tgt := 31) d_Table_isEverywhere_7 (by decide) (by omega) (by omega) (Nat.le_refl _) ?_
    refine j_iconst (v := nI 1) d_Table_isEverywhere_31 rfl ?_
    subst hres
    exact j_reti d_Table_isEverywhere_32 (by rw [hh]; rfl) rfl
  · intro hh
    have hrk := hT.2.1 k
    refine j_iload_n d_Table_isEverywhere_2 rfl ?_
    refine j_aload_n d_Table_isEverywhere_3 rfl ?_
    refine j_getv (v := nI T.1) d_Table_isEverywhere_4 jf_Table_15 ht.1 rfl hr.1 ?_
    refine j_icmp_geN_f (tgt := 31) d_Table_isEverywhere_7 (by decide) (by omega) (by omega) (Nat.not_le.mpr hk) ?_
    refine j_aload_n d_Table_isEverywhere_10 rfl ?_
    refine j_getr (b := t + 1) d_Table_isEverywhere_11 jf_Table_11 ht.1 rfl ht.2.1 ht.2.2.2 ?_
    refine j_iload_n d_Table_isEverywhere_14 rfl ?_
    refine j_ialdN (v := nI (T.2 k)) d_Table_isEverywhere_15 ht.2.2.1 (by omega) (by decide) (hr.2 _ (by omega)) ?_
    refine j_aload_n d_Table_isEverywhere_16 rfl ?_
    refine j_callVs (As := []) (st := [.int (nI (T.2 k))]) (x_allColumns ht hr.1 hn12) d_Table_isEverywhere_17 (by decide) jm_Table_allColumns jk_Table_19 ji_Table_allColumns js_Table_allColumns ht.1 (by decide) rfl rfl (Nat.le_of_ble_eq_true rfl) rfl ?_
    refine j_icmp_eqN (tgt := 25) d_Table_isEverywhere_20 (by decide) (by omega) (by omega) (fun c => ?_) (fun c => ?_)
    · refine j_iincN (x := k) (L' := [some (.ref t), some (.int (nI (k + 1)))]) d_Table_isEverywhere_25 rfl (by decide) rfl rfl ?_
      refine j_goto (tgt := 2) d_Table_isEverywhere_28 (by decide) ?_
      exact ih (by simp_all [tful, jall])
    · refine j_iconst (v := nI 0) d_Table_isEverywhere_23 rfl ?_
      subst hres
      exact j_reti d_Table_isEverywhere_24 (by rw [show tful T T.1 T.1 = false from jall_f hk (beq_false_of_ne c)]; rfl) rfl
def tlik (A Bt : jT) : Bool := (A.1 == Bt.1) && jall A.1 (fun i => A.2 i == Bt.2 i)
theorem x_isLike {n : jN} {h : jH} {t : Nat} (ht : isT t) {o : Nat} (ho : isT o) {A Bt : jT} (hra : rep h t A) (hA : tw A) (hrb : rep h o Bt) (hB : tw Bt) : jC n 1 jy_Table_isLike jc_Table_isLike 3 (some .boolean) [.ref t, .ref o] h (some (.int (jbo (tlik A Bt)))) h := by
  have hn12 := hA.1
  have hm12 := hB.1
  refine jC_of jm_Table_isLike (L := [some (.ref t), some (.ref o), none]) (Nat.le_of_ble_eq_true rfl) rfl (jbo01 _) ?_
  generalize hres : (((some (.int (jbo (tlik A Bt)))), h) : Option Value × jH) = res
  refine j_aload_n d_Table_isLike_0 rfl ?_
  refine j_getv (v := nI A.1) d_Table_isLike_1 jf_Table_15 ht.1 rfl hra.1 ?_
  refine j_aload_n d_Table_isLike_4 rfl ?_
  refine j_getv (v := nI Bt.1) d_Table_isLike_5 jf_Table_15 ho.1 rfl hrb.1 ?_
  refine j_icmp_eqN (tgt := 13) d_Table_isLike_8 (by decide) (by omega) (by omega) (fun c => ?_) (fun c => ?_)
  · refine j_iconst (v := nI 0) d_Table_isLike_13 rfl ?_
    refine j_istore_n (L' := [some (.ref t), some (.ref o), some (.int (nI 0))]) d_Table_isLike_14 (by decide) rfl rfl ?_
    refine j_loop (P := fun k => jall k (fun i => A.2 i == Bt.2 i) = true → jJ n 1 jc_Table_isLike 3 "YesNoPowers$Table" 15 [some (.ref t), some (.ref o), some (.int (nI k))] [] h res) (m := A.1) ?_ (fun k hk ih => ?_) rfl
    · intro hh
      refine j_iload_n d_Table_isLike_15 rfl ?_
      refine j_aload_n d_Table_isLike_16 rfl ?_
      refine j_getv (v := nI A.1) d_Table_isLike_17 jf_Table_15 ht.1 rfl hra.1 ?_
      refine j_icmp_geN_t (tgt := 46) d_Table_isLike_20 (by decide) (by omega) (by omega) (Nat.le_refl _) ?_
      refine j_iconst (v := nI 1) d_Table_isLike_46 rfl ?_
      subst hres
      exact j_reti d_Table_isLike_47 (by rw [show tlik A Bt = true from by rw [tlik, beq_iff_eq.mpr c, hh]; rfl]; rfl) rfl
    · intro hh
      have hrk := hA.2.1 k
      have hrk2 := hB.2.1 k
      refine j_iload_n d_Table_isLike_15 rfl ?_
      refine j_aload_n d_Table_isLike_16 rfl ?_
      refine j_getv (v := nI A.1) d_Table_isLike_17 jf_Table_15 ht.1 rfl hra.1 ?_
      refine j_icmp_geN_f (tgt := 46) d_Table_isLike_20 (by decide) (by omega) (by omega) (Nat.not_le.mpr hk) ?_
      refine j_aload_n d_Table_isLike_23 rfl ?_
      refine j_getr (b := t + 1) d_Table_isLike_24 jf_Table_11 ht.1 rfl ht.2.1 ht.2.2.2 ?_
      refine j_iload_n d_Table_isLike_27 rfl ?_
      refine j_ialdN (v := nI (A.2 k)) d_Table_isLike_28 ht.2.2.1 (by omega) (by decide) (hra.2 _ (by omega)) ?_
      refine j_aload_n d_Table_isLike_29 rfl ?_
      refine j_getr (b := o + 1) d_Table_isLike_30 jf_Table_11 ho.1 rfl ho.2.1 ho.2.2.2 ?_
      refine j_iload_n d_Table_isLike_33 rfl ?_
      refine j_ialdN (v := nI (Bt.2 k)) d_Table_isLike_34 ho.2.2.1 (by omega) (by decide) (hrb.2 _ (by omega)) ?_
      refine j_icmp_eqN (tgt := 40) d_Table_isLike_35 (by decide) (by omega) (by omega) (fun d => ?_) (fun d => ?_)
      · refine j_iincN (x := k) (L' := [some (.ref t), some (.ref o), some (.int (nI (k + 1)))]) d_Table_isLike_40 rfl (by decide) rfl rfl ?_
        refine j_goto (tgt := 15) d_Table_isLike_43 (by decide) ?_
        exact ih (by simp_all [jall])
      · refine j_iconst (v := nI 0) d_Table_isLike_38 rfl ?_
        subst hres
        exact j_reti d_Table_isLike_39 (by rw [show tlik A Bt = false from by rw [tlik, jall_f (f := fun i => A.2 i == Bt.2 i) hk (beq_false_of_ne d), Bool.and_false]]; rfl) rfl
  · refine j_iconst (v := nI 0) d_Table_isLike_11 rfl ?_
    subst hres
    exact j_reti d_Table_isLike_12 (by rw [show tlik A Bt = false from by simp [tlik, c]]; rfl) rfl
theorem x_become {n : jN} {h : jH} {t : Nat} (ht : isT t) {o : Nat} (ho : isT o) {Bt : jT} (hne : o ≠ t) (hrb : rep h o Bt) (hB : tw Bt) : jC n 0 jy_Table_become jc_Table_become 3 none [.ref t, .ref o] h none (sT h t Bt) := by
  have hm12 := hB.1
  have hne4 := isT_ne ht ho hne
  refine jC_of jm_Table_become (L := [some (.ref t), some (.ref o), none]) (Nat.le_of_ble_eq_true rfl) rfl trivial ?_
  generalize hres : ((none, sT h t Bt) : Option Value × jH) = res
  refine j_aload_n d_Table_become_0 rfl ?_
  refine j_aload_n d_Table_become_1 rfl ?_
  refine j_getv (v := nI Bt.1) d_Table_become_2 jf_Table_15 ho.1 rfl hrb.1 ?_
  refine j_putv (h' := pT h t Bt.1 (h (t + 1))) d_Table_become_5 jf_Table_15 ht.1 rfl pT_1 ?_
  refine j_iconst (v := nI 0) d_Table_become_8 rfl ?_
  refine j_istore_n (L' := [some (.ref t), some (.ref o), some (.int (nI 0))]) d_Table_become_9 (by decide) rfl rfl ?_
  refine j_heap (h' := pT h t Bt.1 (fun k => if k < 0 then nI (Bt.2 k) else h (t + 1) k)) (pT_cg rfl (fun k => by rw [if_neg (by omega)])) ?_
  refine j_loop (P := fun j => jJ n 0 jc_Table_become 3 "YesNoPowers$Table" 10 [some (.ref t), some (.ref o), some (.int (nI j))] [] (pT h t Bt.1 (fun k => if k < j then nI (Bt.2 k) else h (t + 1) k)) res) (m := Bt.1) ?_ (fun j hj ih => ?_)
  · refine j_iload_n d_Table_become_10 rfl ?_
    refine j_aload_n d_Table_become_11 rfl ?_
    refine j_getv (v := nI Bt.1) d_Table_become_12 jf_Table_15 ht.1 rfl pT_n ?_
    refine j_icmp_geN_t (tgt := 36) d_Table_become_15 (by decide) (by omega) (by omega) (Nat.le_refl _) ?_
    subst hres
    exact j_retv d_Table_become_36 rfl
  · refine j_iload_n d_Table_become_10 rfl ?_
    refine j_aload_n d_Table_become_11 rfl ?_
    refine j_getv (v := nI Bt.1) d_Table_become_12 jf_Table_15 ht.1 rfl pT_n ?_
    refine j_icmp_geN_f (tgt := 36) d_Table_become_15 (by decide) (by omega) (by omega) (Nat.not_le.mpr hj) ?_
    refine j_aload_n d_Table_become_18 rfl ?_
    refine j_getr (b := t + 1) d_Table_become_19 jf_Table_11 ht.1 rfl ht.2.1 ht.2.2.2 ?_
    refine j_iload_n d_Table_become_22 rfl ?_
    refine j_aload_n d_Table_become_23 rfl ?_
    refine j_getr (b := o + 1) d_Table_become_24 jf_Table_11 ho.1 rfl ho.2.1 ho.2.2.2 ?_
    refine j_iload_n d_Table_become_27 rfl ?_
    refine j_ialdN (v := nI (Bt.2 j)) d_Table_become_28 ho.2.2.1 (by omega) (by decide) ((pT_o hne4.2.2.1 hne4.2.2.2).trans (hrb.2 _ (by omega))) ?_
    refine j_iastN (h' := pT h t Bt.1 (jfu (fun k => if k < j then nI (Bt.2 k) else h (t + 1) k) j (nI (Bt.2 j)))) d_Table_become_29 ht.2.2.1 (by omega) (by decide) pT_sr ?_
    refine j_iincN (x := j) (L' := [some (.ref t), some (.ref o), some (.int (nI (j + 1)))]) d_Table_become_30 rfl (by decide) rfl rfl ?_
    refine j_goto (tgt := 10) d_Table_become_33 (by decide) ?_
    refine j_heap (h' := pT h t Bt.1 (fun k => if k < j + 1 then nI (Bt.2 k) else h (t + 1) k)) (pT_cg rfl (fun k => by simp only [jfu]; (repeat' split); all_goals first | rfl | omega | (subst_vars; rfl))) ?_
    exact ih
theorem x_join {n : jN} {h : jH} {t : Nat} (ht : isT t) {o : Nat} (ho : isT o) {A Bt : jT} (hne : o ≠ t) (hra : rep h t A) (hA : tw A) (hrb : rep h o Bt) (hB : tw Bt) (hab : A.1 = Bt.1) : jC n 0 jy_Table_join jc_Table_join 3 none [.ref t, .ref o] h none (sT h t (tadd A Bt)) := by
  have hn12 := hA.1
  have hm12 := hB.1
  have hne4 := isT_ne ht ho hne
  refine jC_of jm_Table_join (L := [some (.ref t), some (.ref o), none]) (Nat.le_of_ble_eq_true rfl) rfl trivial ?_
  generalize hres : ((none, sT h t (tadd A Bt)) : Option Value × jH) = res
  refine j_heap (h' := pT h t A.1 (h (t + 1))) (pT_0 hra.1) ?_
  refine j_iconst (v := nI 0) d_Table_join_0 rfl ?_
  refine j_istore_n (L' := [some (.ref t), some (.ref o), some (.int (nI 0))]) d_Table_join_1 (by decide) rfl rfl ?_
  refine j_heap (h' := pT h t A.1 (fun k => if k < 0 then nI (A.2 k ||| Bt.2 k) else h (t + 1) k)) (pT_cg rfl (fun k => by rw [if_neg (by omega)])) ?_
  refine j_loop (P := fun j => jJ n 0 jc_Table_join 3 "YesNoPowers$Table" 2 [some (.ref t), some (.ref o), some (.int (nI j))] [] (pT h t A.1 (fun k => if k < j then nI (A.2 k ||| Bt.2 k) else h (t + 1) k)) res) (m := A.1) ?_ (fun j hj ih => ?_)
  · refine j_iload_n d_Table_join_2 rfl ?_
    refine j_aload_n d_Table_join_3 rfl ?_
    refine j_getv (v := nI A.1) d_Table_join_4 jf_Table_15 ht.1 rfl pT_n ?_
    refine j_icmp_geN_t (tgt := 31) d_Table_join_7 (by decide) (by omega) (by omega) (Nat.le_refl _) ?_
    subst hres
    exact j_retv d_Table_join_31 (pT_cg rfl (fun k => by by_cases e : k < A.1; (rw [if_pos e, if_pos (show k < (tadd A Bt).1 from e), show (tadd A Bt).2 k = A.2 k ||| Bt.2 k from if_pos e]); (rw [if_neg e, if_neg (show ¬ k < (tadd A Bt).1 from e)])))
  · refine j_iload_n d_Table_join_2 rfl ?_
    refine j_aload_n d_Table_join_3 rfl ?_
    refine j_getv (v := nI A.1) d_Table_join_4 jf_Table_15 ht.1 rfl pT_n ?_
    refine j_icmp_geN_f (tgt := 31) d_Table_join_7 (by decide) (by omega) (by omega) (Nat.not_le.mpr hj) ?_
    refine j_aload_n d_Table_join_10 rfl ?_
    refine j_getr (b := t + 1) d_Table_join_11 jf_Table_11 ht.1 rfl ht.2.1 ht.2.2.2 ?_
    refine j_iload_n d_Table_join_14 rfl ?_
    refine j_dup2 d_Table_join_15 rfl rfl ?_
    refine j_ialdN (v := nI (A.2 j)) d_Table_join_16 ht.2.2.1 (by omega) (by decide) (pT_r.trans (by rw [if_neg (by omega)]; exact hra.2 _ (by omega))) ?_
    refine j_aload_n d_Table_join_17 rfl ?_
    refine j_getr (b := o + 1) d_Table_join_18 jf_Table_11 ho.1 rfl ho.2.1 ho.2.2.2 ?_
    refine j_iload_n d_Table_join_21 rfl ?_
    refine j_ialdN (v := nI (Bt.2 j)) d_Table_join_22 ho.2.2.1 (by omega) (by decide) ((pT_o hne4.2.2.1 hne4.2.2.2).trans (hrb.2 _ (by omega))) ?_
    refine j_iorN d_Table_join_23 ?_
    refine j_iastN (h' := pT h t A.1 (jfu (fun k => if k < j then nI (A.2 k ||| Bt.2 k) else h (t + 1) k) j (nI ((A.2 j) ||| (Bt.2 j))))) d_Table_join_24 ht.2.2.1 (by omega) (by decide) pT_sr ?_
    refine j_iincN (x := j) (L' := [some (.ref t), some (.ref o), some (.int (nI (j + 1)))]) d_Table_join_25 rfl (by decide) rfl rfl ?_
    refine j_goto (tgt := 2) d_Table_join_28 (by decide) ?_
    refine j_heap (h' := pT h t A.1 (fun k => if k < j + 1 then nI (A.2 k ||| Bt.2 k) else h (t + 1) k)) (pT_cg rfl (fun k => by simp only [jfu]; (repeat' split); all_goals first | rfl | omega | (subst_vars; rfl))) ?_
    exact ih
theorem x_meet {n : jN} {h : jH} {t : Nat} (ht : isT t) {o : Nat} (ho : isT o) {A Bt : jT} (hne : o ≠ t) (hra : rep h t A) (hA : tw A) (hrb : rep h o Bt) (hB : tw Bt) (hab : A.1 = Bt.1) : jC n 0 jy_Table_meet jc_Table_meet 3 none [.ref t, .ref o] h none (sT h t (tmeet A Bt)) := by
  have hn12 := hA.1
  have hm12 := hB.1
  have hne4 := isT_ne ht ho hne
  refine jC_of jm_Table_meet (L := [some (.ref t), some (.ref o), none]) (Nat.le_of_ble_eq_true rfl) rfl trivial ?_
  generalize hres : ((none, sT h t (tmeet A Bt)) : Option Value × jH) = res
  refine j_heap (h' := pT h t A.1 (h (t + 1))) (pT_0 hra.1) ?_
  refine j_iconst (v := nI 0) d_Table_meet_0 rfl ?_
  refine j_istore_n (L' := [some (.ref t), some (.ref o), some (.int (nI 0))]) d_Table_meet_1 (by decide) rfl rfl ?_
  refine j_heap (h' := pT h t A.1 (fun k => if k < 0 then nI (A.2 k &&& Bt.2 k) else h (t + 1) k)) (pT_cg rfl (fun k => by rw [if_neg (by omega)])) ?_
  refine j_loop (P := fun j => jJ n 0 jc_Table_meet 3 "YesNoPowers$Table" 2 [some (.ref t), some (.ref o), some (.int (nI j))] [] (pT h t A.1 (fun k => if k < j then nI (A.2 k &&& Bt.2 k) else h (t + 1) k)) res) (m := A.1) ?_ (fun j hj ih => ?_)
  · refine j_iload_n d_Table_meet_2 rfl ?_
    refine j_aload_n d_Table_meet_3 rfl ?_
    refine j_getv (v := nI A.1) d_Table_meet_4 jf_Table_15 ht.1 rfl pT_n ?_
    refine j_icmp_geN_t (tgt := 31) d_Table_meet_7 (by decide) (by omega) (by omega) (Nat.le_refl _) ?_
    subst hres
    exact j_retv d_Table_meet_31 (pT_cg rfl (fun k => by by_cases e : k < A.1; (rw [if_pos e, if_pos (show k < (tmeet A Bt).1 from e), show (tmeet A Bt).2 k = A.2 k &&& Bt.2 k from if_pos e]); (rw [if_neg e, if_neg (show ¬ k < (tmeet A Bt).1 from e)])))
  · refine j_iload_n d_Table_meet_2 rfl ?_
    refine j_aload_n d_Table_meet_3 rfl ?_
    refine j_getv (v := nI A.1) d_Table_meet_4 jf_Table_15 ht.1 rfl pT_n ?_
    refine j_icmp_geN_f (tgt := 31) d_Table_meet_7 (by decide) (by omega) (by omega) (Nat.not_le.mpr hj) ?_
    refine j_aload_n d_Table_meet_10 rfl ?_
    refine j_getr (b := t + 1) d_Table_meet_11 jf_Table_11 ht.1 rfl ht.2.1 ht.2.2.2 ?_
    refine j_iload_n d_Table_meet_14 rfl ?_
    refine j_dup2 d_Table_meet_15 rfl rfl ?_
    refine j_ialdN (v := nI (A.2 j)) d_Table_meet_16 ht.2.2.1 (by omega) (by decide) (pT_r.trans (by rw [if_neg (by omega)]; exact hra.2 _ (by omega))) ?_
    refine j_aload_n d_Table_meet_17 rfl ?_
    refine j_getr (b := o + 1) d_Table_meet_18 jf_Table_11 ho.1 rfl ho.2.1 ho.2.2.2 ?_
    refine j_iload_n d_Table_meet_21 rfl ?_
    refine j_ialdN (v := nI (Bt.2 j)) d_Table_meet_22 ho.2.2.1 (by omega) (by decide) ((pT_o hne4.2.2.1 hne4.2.2.2).trans (hrb.2 _ (by omega))) ?_
    refine j_iandN d_Table_meet_23 ?_
    refine j_iastN (h' := pT h t A.1 (jfu (fun k => if k < j then nI (A.2 k &&& Bt.2 k) else h (t + 1) k) j (nI ((A.2 j) &&& (Bt.2 j))))) d_Table_meet_24 ht.2.2.1 (by omega) (by decide) pT_sr ?_
    refine j_iincN (x := j) (L' := [some (.ref t), some (.ref o), some (.int (nI (j + 1)))]) d_Table_meet_25 rfl (by decide) rfl rfl ?_
    refine j_goto (tgt := 2) d_Table_meet_28 (by decide) ?_
    refine j_heap (h' := pT h t A.1 (fun k => if k < j + 1 then nI (A.2 k &&& Bt.2 k) else h (t + 1) k)) (pT_cg rfl (fun k => by simp only [jfu]; (repeat' split); all_goals first | rfl | omega | (subst_vars; rfl))) ?_
    exact ih
theorem x_negate {n : jN} {h : jH} {t : Nat} (ht : isT t) {T : jT} (hr : rep h t T) (hT : tw T) : jC n 1 jy_Table_negate jc_Table_negate 2 none [.ref t] h none (sT h t (tco T)) := by
  have hn12 := hT.1
  refine jC_of jm_Table_negate (L := [some (.ref t), none]) (Nat.le_of_ble_eq_true rfl) rfl trivial ?_
  generalize hres : ((none, sT h t (tco T)) : Option Value × jH) = res
  have h2p : 0 < 2 ^ T.1 := Nat.two_pow_pos _
  refine j_heap (h' := pT h t T.1 (h (t + 1))) (pT_0 hr.1) ?_
  refine j_iconst (v := nI 0) d_Table_negate_0 rfl ?_
  refine j_istore_n (L' := [some (.ref t), some (.int (nI 0))]) d_Table_negate_1 (by decide) rfl rfl ?_
  refine j_heap (h' := pT h t T.1 (fun k => if k < 0 then nI ((2 ^ T.1 - 1) &&& (4095 ^^^ T.2 k)) else h (t + 1) k)) (pT_cg rfl (fun k => by rw [if_neg (by omega)])) ?_
  refine j_loop (P := fun j => jJ n 1 jc_Table_negate 2 "YesNoPowers$Table" 2 [some (.ref t), some (.int (nI j))] [] (pT h t T.1 (fun k => if k < j then nI ((2 ^ T.1 - 1) &&& (4095 ^^^ T.2 k)) else h (t + 1) k)) res) (m := T.1) ?_ (fun j hj ih => ?_)
  · refine j_iload_n d_Table_negate_2 rfl ?_
    refine j_aload_n d_Table_negate_3 rfl ?_
    refine j_getv (v := nI T.1) d_Table_negate_4 jf_Table_15 ht.1 rfl pT_n ?_
    refine j_icmp_geN_t (tgt := 35) d_Table_negate_7 (by decide) (by omega) (by omega) (Nat.le_refl _) ?_
    subst hres
    exact j_retv d_Table_negate_35 (pT_cg rfl (fun k => by by_cases e : k < T.1; (rw [if_pos e, if_pos (show k < (tco T).1 from e), show (tco T).2 k = (2 ^ T.1 - 1) &&& (4095 ^^^ T.2 k) from if_pos e]); (rw [if_neg e, if_neg (show ¬ k < (tco T).1 from e)])))
  · refine j_iload_n d_Table_negate_2 rfl ?_
    refine j_aload_n d_Table_negate_3 rfl ?_
    refine j_getv (v := nI T.1) d_Table_negate_4 jf_Table_15 ht.1 rfl pT_n ?_
    refine j_icmp_geN_f (tgt := 35) d_Table_negate_7 (by decide) (by omega) (by omega) (Nat.not_le.mpr hj) ?_
    refine j_aload_n d_Table_negate_10 rfl ?_
    refine j_getr (b := t + 1) d_Table_negate_11 jf_Table_11 ht.1 rfl ht.2.1 ht.2.2.2 ?_
    refine j_iload_n d_Table_negate_14 rfl ?_
    refine j_aload_n d_Table_negate_15 rfl ?_
    refine j_getr (b := t + 1) d_Table_negate_16 jf_Table_11 ht.1 rfl ht.2.1 ht.2.2.2 ?_
    refine j_iload_n d_Table_negate_19 rfl ?_
    refine j_ialdN (v := nI (T.2 j)) d_Table_negate_20 ht.2.2.1 (by omega) (by decide) (pT_r.trans (by rw [if_neg (by omega)]; exact hr.2 _ (by omega))) ?_
    refine j_iconst (v := -1) d_Table_negate_21 rfl ?_
    refine j_ixor d_Table_negate_22 ?_
    refine j_aload_n d_Table_negate_23 rfl ?_
    refine j_callVs (As := []) (st := [.int ((nI (T.2 j)) ^^^ (-1)), .int (nI j), .ref (t + 1)]) (x_allColumns ht pT_n hn12) d_Table_negate_24 (by decide) jm_Table_allColumns jk_Table_19 ji_Table_allColumns js_Table_allColumns ht.1 (by decide) rfl rfl (Nat.le_of_ble_eq_true rfl) rfl ?_
    refine j_iand d_Table_negate_27 ?_
    refine j_top (w := nI ((2 ^ T.1 - 1) &&& (4095 ^^^ T.2 j))) (by rw [Int32.and_comm]; exact ni_co hn12 (hT.2.1 j)) ?_
    refine j_iastN (h' := pT h t T.1 (jfu (fun k => if k < j then nI ((2 ^ T.1 - 1) &&& (4095 ^^^ T.2 k)) else h (t + 1) k) j (nI ((2 ^ T.1 - 1) &&& (4095 ^^^ T.2 j))))) d_Table_negate_28 ht.2.2.1 (by omega) (by decide) pT_sr ?_
    refine j_iincN (x := j) (L' := [some (.ref t), some (.int (nI (j + 1)))]) d_Table_negate_29 rfl (by decide) rfl rfl ?_
    refine j_goto (tgt := 2) d_Table_negate_32 (by decide) ?_
    refine j_heap (h' := pT h t T.1 (fun k => if k < j + 1 then nI ((2 ^ T.1 - 1) &&& (4095 ^^^ T.2 k)) else h (t + 1) k)) (pT_cg rfl (fun k => by simp only [jfu]; (repeat' split); all_goals first | rfl | omega | (subst_vars; rfl))) ?_
    exact ih
theorem x_turn {n : jN} {h : jH} {t : Nat} (ht : isT t) {o : Nat} (ho : isT o) {Bt : jT} (hne : o ≠ t) (hrb : rep h o Bt) (hB : tw Bt) : jC n 2 jy_Table_turn jc_Table_turn 3 none [.ref t, .ref o] h none (sT h t (ttr Bt)) := by
  have hm12 := hB.1
  have hne4 := isT_ne ht ho hne
  refine jC_of jm_Table_turn (L := [some (.ref t), some (.ref o), none]) (Nat.le_of_ble_eq_true rfl) rfl trivial ?_
  generalize hres : ((none, sT h t (ttr Bt)) : Option Value × jH) = res
  refine j_aload_n d_Table_turn_0 rfl ?_
  refine j_aload_n d_Table_turn_1 rfl ?_
  refine j_getv (v := nI Bt.1) d_Table_turn_2 jf_Table_15 ho.1 rfl hrb.1 ?_
  refine j_putv (h' := pT h t Bt.1 (h (t + 1))) d_Table_turn_5 jf_Table_15 ht.1 rfl pT_1 ?_
  refine j_iconst (v := nI 0) d_Table_turn_8 rfl ?_
  refine j_istore_n (L' := [some (.ref t), some (.ref o), some (.int (nI 0))]) d_Table_turn_9 (by decide) rfl rfl ?_
  refine j_heap (h' := pT h t Bt.1 (fun k => if k < 0 then nI (tcol Bt k Bt.1) else h (t + 1) k)) (pT_cg rfl (fun k => by rw [if_neg (by omega)])) ?_
  refine j_loop (P := fun j => jJ n 2 jc_Table_turn 3 "YesNoPowers$Table" 10 [some (.ref t), some (.ref o), some (.int (nI j))] [] (pT h t Bt.1 (fun k => if k < j then nI (tcol Bt k Bt.1) else h (t + 1) k)) res) (m := Bt.1) ?_ (fun j hj ih => ?_)
  · refine j_iload_n d_Table_turn_10 rfl ?_
    refine j_aload_n d_Table_turn_11 rfl ?_
    refine j_getv (v := nI Bt.1) d_Table_turn_12 jf_Table_15 ht.1 rfl pT_n ?_
    refine j_icmp_geN_t (tgt := 35) d_Table_turn_15 (by decide) (by omega) (by omega) (Nat.le_refl _) ?_
    subst hres
    exact j_retv d_Table_turn_35 (pT_cg rfl (fun k => by by_cases e : k < Bt.1; (rw [if_pos e, if_pos (show k < (ttr Bt).1 from e), show (ttr Bt).2 k = tcol Bt k Bt.1 from if_pos e]); (rw [if_neg e, if_neg (show ¬ k < (ttr Bt).1 from e)])))
  · refine j_iload_n d_Table_turn_10 rfl ?_
    refine j_aload_n d_Table_turn_11 rfl ?_
    refine j_getv (v := nI Bt.1) d_Table_turn_12 jf_Table_15 ht.1 rfl pT_n ?_
    refine j_icmp_geN_f (tgt := 35) d_Table_turn_15 (by decide) (by omega) (by omega) (Nat.not_le.mpr hj) ?_
    refine j_aload_n d_Table_turn_18 rfl ?_
    refine j_getr (b := t + 1) d_Table_turn_19 jf_Table_11 ht.1 rfl ht.2.1 ht.2.2.2 ?_
    refine j_iload_n d_Table_turn_22 rfl ?_
    refine j_aload_n d_Table_turn_23 rfl ?_
    refine j_iload_n d_Table_turn_24 rfl ?_
    refine j_callVs (As := [.int (nI j)]) (st := [.int (nI j), .ref (t + 1)]) (x_column (T := Bt) ho ⟨(pT_o hne4.1 hne4.2.1).trans hrb.1, fun i hi => (pT_o hne4.2.2.1 hne4.2.2.2).trans (hrb.2 i hi)⟩ hB (by omega)) d_Table_turn_25 (by decide) jm_Table_column jk_Table_33 ji_Table_column js_Table_column ho.1 (by decide) rfl rfl (Nat.le_of_ble_eq_true rfl) rfl ?_
    refine j_iastN (h' := pT h t Bt.1 (jfu (fun k => if k < j then nI (tcol Bt k Bt.1) else h (t + 1) k) j (nI (tcol Bt j Bt.1)))) d_Table_turn_28 ht.2.2.1 (by omega) (by decide) pT_sr ?_
    refine j_iincN (x := j) (L' := [some (.ref t), some (.ref o), some (.int (nI (j + 1)))]) d_Table_turn_29 rfl (by decide) rfl rfl ?_
    refine j_goto (tgt := 10) d_Table_turn_32 (by decide) ?_
    refine j_heap (h' := pT h t Bt.1 (fun k => if k < j + 1 then nI (tcol Bt k Bt.1) else h (t + 1) k)) (pT_cg rfl (fun k => by simp only [jfu]; (repeat' split); all_goals first | rfl | omega | (subst_vars; rfl))) ?_
    exact ih
theorem x_multiplyBy {n : jN} {h : jH} {t : Nat} (ht : isT t) {o : Nat} (ho : isT o) {A Bt : jT} (hne : o ≠ t) (hra : rep h t A) (hA : tw A) (hrb : rep h o Bt) (hB : tw Bt) (hab : A.1 = Bt.1) : jC n 1 jy_Table_multiplyBy jc_Table_multiplyBy 5 none [.ref t, .ref o] h none (sT h t (tmul A Bt)) := by
  have hn12 := hA.1
  have hm12 := hB.1
  have hne4 := isT_ne ht ho hne
  refine jC_of jm_Table_multiplyBy (L := [some (.ref t), some (.ref o), none, none, none]) (Nat.le_of_ble_eq_true rfl) rfl trivial ?_
  generalize hres : ((none, sT h t (tmul A Bt)) : Option Value × jH) = res
  refine j_heap (h' := pT h t A.1 (h (t + 1))) (pT_0 hra.1) ?_
  refine j_iconst (v := nI 0) d_Table_multiplyBy_0 rfl ?_
  refine j_istore_n (L' := [some (.ref t), some (.ref o), some (.int (nI 0)), none, none]) d_Table_multiplyBy_1 (by decide) rfl rfl ?_
  refine j_heap (h' := pT h t A.1 (fun k => if k < 0 then nI (trow A Bt k A.1) else h (t + 1) k)) (pT_cg rfl (fun k => by rw [if_neg (by omega)])) ?_
  refine j_loop (P := fun j => jJ n 1 jc_Table_multiplyBy 5 "YesNoPowers$Table" 2 [some (.ref t), some (.ref o), some (.int (nI j)), none, none] [] (pT h t A.1 (fun k => if k < j then nI (trow A Bt k A.1) else h (t + 1) k)) res) (m := A.1) ?_ (fun j hj ih => ?_)
  · refine j_iload_n d_Table_multiplyBy_2 rfl ?_
    refine j_aload_n d_Table_multiplyBy_3 rfl ?_
    refine j_getv (v := nI A.1) d_Table_multiplyBy_4 jf_Table_15 ht.1 rfl pT_n ?_
    refine j_icmp_geN_t (tgt := 64) d_Table_multiplyBy_7 (by decide) (by omega) (by omega) (Nat.le_refl _) ?_
    subst hres
    exact j_retv d_Table_multiplyBy_64 (pT_cg rfl (fun k => by by_cases e : k < A.1; (rw [if_pos e, if_pos (show k < (tmul A Bt).1 from e), show (tmul A Bt).2 k = trow A Bt k A.1 from if_pos e]); (rw [if_neg e, if_neg (show ¬ k < (tmul A Bt).1 from e)])))
  · refine j_iload_n d_Table_multiplyBy_2 rfl ?_
    refine j_aload_n d_Table_multiplyBy_3 rfl ?_
    refine j_getv (v := nI A.1) d_Table_multiplyBy_4 jf_Table_15 ht.1 rfl pT_n ?_
    refine j_icmp_geN_f (tgt := 64) d_Table_multiplyBy_7 (by decide) (by omega) (by omega) (Nat.not_le.mpr hj) ?_
    refine j_iconst (v := nI 0) d_Table_multiplyBy_10 rfl ?_
    refine j_istore_n (L' := [some (.ref t), some (.ref o), some (.int (nI j)), some (.int (nI 0)), none]) d_Table_multiplyBy_11 (by decide) rfl rfl ?_
    refine j_iconst (v := nI 0) d_Table_multiplyBy_12 rfl ?_
    refine j_istore (L' := [some (.ref t), some (.ref o), some (.int (nI j)), some (.int (nI 0)), some (.int (nI 0))]) d_Table_multiplyBy_13 (by decide) rfl rfl ?_
    refine j_loop (P := fun k => jJ n 1 jc_Table_multiplyBy 5 "YesNoPowers$Table" 15 [some (.ref t), some (.ref o), some (.int (nI j)), some (.int (nI (trow A Bt j k))), some (.int (nI k))] [] (pT h t A.1 (fun k => if k < j then nI (trow A Bt k A.1) else h (t + 1) k)) res) (m := A.1) ?_ (fun k hk ihk => ?_)
    · refine j_iload d_Table_multiplyBy_15 rfl ?_
      refine j_aload_n d_Table_multiplyBy_17 rfl ?_
      refine j_getv (v := nI A.1) d_Table_multiplyBy_18 jf_Table_15 ht.1 rfl pT_n ?_
      refine j_icmp_geN_t (tgt := 51) d_Table_multiplyBy_21 (by decide) (by omega) (by omega) (Nat.le_refl _) ?_
      refine j_aload_n d_Table_multiplyBy_51 rfl ?_
      refine j_getr (b := t + 1) d_Table_multiplyBy_52 jf_Table_11 ht.1 rfl ht.2.1 ht.2.2.2 ?_
      refine j_iload_n d_Table_multiplyBy_55 rfl ?_
      refine j_iload_n d_Table_multiplyBy_56 rfl ?_
      refine j_iastN (h' := pT h t A.1 (jfu (fun k => if k < j then nI (trow A Bt k A.1) else h (t + 1) k) j (nI (trow A Bt j A.1)))) d_Table_multiplyBy_57 ht.2.2.1 (by omega) (by decide) pT_sr ?_
      refine j_iincN (x := j) (L' := [some (.ref t), some (.ref o), some (.int (nI (j + 1))), some (.int (nI (trow A Bt j A.1))), some (.int (nI A.1))]) d_Table_multiplyBy_58 rfl (by decide) rfl rfl ?_
      refine j_goto (tgt := 2) d_Table_multiplyBy_61 (by decide) ?_
      refine j_heap (h' := pT h t A.1 (fun k => if k < j + 1 then nI (trow A Bt k A.1) else h (t + 1) k)) (pT_cg rfl (fun k => by simp only [jfu]; (repeat' split); all_goals first | rfl | omega | (subst_vars; rfl))) ?_
      exact j_forget (i := 3) rfl (j_forget (i := 4) rfl ih)
    · refine j_iload d_Table_multiplyBy_15 rfl ?_
      refine j_aload_n d_Table_multiplyBy_17 rfl ?_
      refine j_getv (v := nI A.1) d_Table_multiplyBy_18 jf_Table_15 ht.1 rfl pT_n ?_
      refine j_icmp_geN_f (tgt := 51) d_Table_multiplyBy_21 (by decide) (by omega) (by omega) (Nat.not_le.mpr hk) ?_
      refine j_aload_n d_Table_multiplyBy_24 rfl ?_
      refine j_iload_n d_Table_multiplyBy_25 rfl ?_
      refine j_iload d_Table_multiplyBy_26 rfl ?_
      refine j_callVs (As := [.int (nI j), .int (nI k)]) (st := []) (x_entry (r := A.2 j) ht (by omega) (by omega) (pT_r.trans (by rw [if_neg (by omega)]; exact hra.2 _ (by omega))) (tw_lt hA _)) d_Table_multiplyBy_28 (by decide) jm_Table_entry jk_Table_23 ji_Table_entry js_Table_entry ht.1 (by decide) rfl rfl (Nat.le_of_ble_eq_true rfl) rfl ?_
      refine j_iconst (v := nI 1) d_Table_multiplyBy_31 rfl ?_
      refine j_icmp_neB (tgt := 45) d_Table_multiplyBy_32 (by decide) (fun c => ?_) (fun c => ?_)
      · have htr : trow A Bt j k = trow A Bt j (k + 1) := jor_z (by simp [c])
        refine j_iincN (x := k) (L' := [some (.ref t), some (.ref o), some (.int (nI j)), some (.int (nI (trow A Bt j k))), some (.int (nI (k + 1)))]) d_Table_multiplyBy_45 rfl (by decide) rfl rfl ?_
        refine j_goto (tgt := 15) d_Table_multiplyBy_48 (by decide) ?_
        rw [htr]
        exact ihk
      · refine j_iload_n d_Table_multiplyBy_35 rfl ?_
        refine j_aload_n d_Table_multiplyBy_36 rfl ?_
        refine j_getr (b := o + 1) d_Table_multiplyBy_37 jf_Table_11 ho.1 rfl ho.2.1 ho.2.2.2 ?_
        refine j_iload d_Table_multiplyBy_40 rfl ?_
        refine j_ialdN (v := nI (Bt.2 k)) d_Table_multiplyBy_42 ho.2.2.1 (by omega) (by decide) ((pT_o hne4.2.2.1 hne4.2.2.2).trans (hrb.2 _ (by omega))) ?_
        refine j_iorN d_Table_multiplyBy_43 ?_
        refine j_top (w := nI (trow A Bt j (k + 1))) (congrArg nI (jor_t (by simp [c]))) ?_
        refine j_istore_n (L' := [some (.ref t), some (.ref o), some (.int (nI j)), some (.int (nI (trow A Bt j (k + 1)))), some (.int (nI k))]) d_Table_multiplyBy_44 (by decide) rfl rfl ?_
        refine j_iincN (x := k) (L' := [some (.ref t), some (.ref o), some (.int (nI j)), some (.int (nI (trow A Bt j (k + 1)))), some (.int (nI (k + 1)))]) d_Table_multiplyBy_45 rfl (by decide) rfl rfl ?_
        refine j_goto (tgt := 15) d_Table_multiplyBy_48 (by decide) ?_
        exact ihk

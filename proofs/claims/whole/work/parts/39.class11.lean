def hun (T : jT) (v k : Nat) : Nat := jor k (fun i => if nnd (T.2 i) v = 0 then T.2 i else 0)
theorem nnd12 {a b : Nat} (ha : a < 4096) : nI a &&& (nI b ^^^ (-1)) = nI (nnd a b) := ni_cl31 (by omega)
def mdu (T : jT) (v k : Nat) : Nat := jor k (fun i => if ¬ T.2 i = v ∧ nnd (T.2 i) v = 0 then T.2 i else 0)
theorem x_hasUnion {n : jN} {h : jH} {o : Nat} (ho : isT o) {T : jT} {v : Nat} (hr : rep h o T) (hT : tw T) (hv : v < 4096) : jC n 0 jy_Spaces_hasUnion jc_Spaces_hasUnion 5 (some .boolean) [.ref 64, .ref o, .int (nI v)] h (some (.int (jbo (hun T v T.1 == v)))) h := by
  have hn12 := hT.1
  refine jC_of jm_Spaces_hasUnion (L := [some (.ref 64), some (.ref o), some (.int (nI v)), none, none]) (Nat.le_of_ble_eq_true rfl) rfl (jbo01 _) ?_
  generalize hres : (((some (.int (jbo (hun T v T.1 == v)))), h) : Option Value × jH) = res
  refine j_iconst (v := nI 0) d_Spaces_hasUnion_0 rfl ?_
  refine j_istore_n (L' := [some (.ref 64), some (.ref o), some (.int (nI v)), some (.int (nI 0)), none]) d_Spaces_hasUnion_1 (by decide) rfl rfl ?_
  refine j_iconst (v := nI 0) d_Spaces_hasUnion_2 rfl ?_
  refine j_istore (L' := [some (.ref 64), some (.ref o), some (.int (nI v)), some (.int (nI 0)), some (.int (nI 0))]) d_Spaces_hasUnion_3 (by decide) rfl rfl ?_
  refine j_loop (P := fun k => jJ n 0 jc_Spaces_hasUnion 5 "YesNoPowers$Spaces" 5 [some (.ref 64), some (.ref o), some (.int (nI v)), some (.int (nI (hun T v k))), some (.int (nI k))] [] h res) (m := T.1) ?_ (fun k hk ih => ?_)
  · have hul : hun T v T.1 < 2 ^ 12 := jor_lt (m := 12) fun i _ => by split; exact hT.2.1 i; omega
    refine j_iload d_Spaces_hasUnion_5 rfl ?_
    refine j_aload_n d_Spaces_hasUnion_7 rfl ?_
    refine j_getv (v := nI T.1) d_Spaces_hasUnion_8 jf_Spaces_28 ho.1 rfl hr.1 ?_
    refine j_icmp_geN_t (tgt := 44) d_Spaces_hasUnion_11 (by decide) (by omega) (by omega) (Nat.le_refl _) ?_
    refine j_iload_n d_Spaces_hasUnion_44 rfl ?_
    refine j_iload_n d_Spaces_hasUnion_45 rfl ?_
    refine j_icmp_neN (tgt := 53) d_Spaces_hasUnion_46 (by decide) (by omega) (by omega) (fun c => ?_) (fun c => ?_)
    · refine j_iconst (v := nI 0) d_Spaces_hasUnion_53 rfl ?_
      subst hres
      exact j_reti d_Spaces_hasUnion_54 (by first | (rw [show (hun T v T.1 == v) = true from beq_iff_eq.mpr c]; rfl) | (rw [show (hun T v T.1 == v) = false from beq_false_of_ne c]; rfl)) rfl
    · refine j_iconst (v := nI 1) d_Spaces_hasUnion_49 rfl ?_
      refine j_goto (tgt := 54) d_Spaces_hasUnion_50 (by decide) ?_
      subst hres
      exact j_reti d_Spaces_hasUnion_54 (by first | (rw [show (hun T v T.1 == v) = true from beq_iff_eq.mpr c]; rfl) | (rw [show (hun T v T.1 == v) = false from beq_false_of_ne c]; rfl)) rfl
  · have hrk := hT.2.1 k
    have hnn := nnd_lt (a := T.2 k) (b := v) (by omega)
    refine j_iload d_Spaces_hasUnion_5 rfl ?_
    refine j_aload_n d_Spaces_hasUnion_7 rfl ?_
    refine j_getv (v := nI T.1) d_Spaces_hasUnion_8 jf_Spaces_28 ho.1 rfl hr.1 ?_
    refine j_icmp_geN_f (tgt := 44) d_Spaces_hasUnion_11 (by decide) (by omega) (by omega) (Nat.not_le.mpr hk) ?_
    refine j_aload_n d_Spaces_hasUnion_14 rfl ?_
    refine j_getr (b := o + 1) d_Spaces_hasUnion_15 jf_Spaces_32 ho.1 rfl ho.2.1 ho.2.2.2 ?_
    refine j_iload d_Spaces_hasUnion_18 rfl ?_
    refine j_ialdN (v := nI (T.2 k)) d_Spaces_hasUnion_20 ho.2.2.1 (by omega) (by decide) (hr.2 _ (by omega)) ?_
    refine j_iload_n d_Spaces_hasUnion_21 rfl ?_
    refine j_iconst (v := -1) d_Spaces_hasUnion_22 rfl ?_
    refine j_ixor d_Spaces_hasUnion_23 ?_
    refine j_iand d_Spaces_hasUnion_24 ?_
    refine j_top (w := nI (nnd (T.2 k) v)) (nnd12 hrk) ?_
    refine j_if_neN (tgt := 38) d_Spaces_hasUnion_25 (by decide) (by omega) (fun c => ?_) (fun c => ?_)
    · have hz : hun T v k = hun T v (k + 1) := jor_z (if_neg c)
      rw [← hz] at ih
      refine j_iincN (x := k) (L' := [some (.ref 64), some (.ref o), some (.int (nI v)), some (.int (nI (hun T v k))), some (.int (nI (k + 1)))]) d_Spaces_hasUnion_38 rfl (by decide) rfl rfl ?_
      refine j_goto (tgt := 5) d_Spaces_hasUnion_41 (by decide) ?_
      exact ih
    · refine j_iload_n d_Spaces_hasUnion_28 rfl ?_
      refine j_aload_n d_Spaces_hasUnion_29 rfl ?_
      refine j_getr (b := o + 1) d_Spaces_hasUnion_30 jf_Spaces_32 ho.1 rfl ho.2.1 ho.2.2.2 ?_
      refine j_iload d_Spaces_hasUnion_33 rfl ?_
      refine j_ialdN (v := nI (T.2 k)) d_Spaces_hasUnion_35 ho.2.2.1 (by omega) (by decide) (hr.2 _ (by omega)) ?_
      refine j_iorN d_Spaces_hasUnion_36 ?_
      refine j_top (w := nI (hun T v (k + 1))) (congrArg nI (jor_t (if_pos c))) ?_
      refine j_istore_n (L' := [some (.ref 64), some (.ref o), some (.int (nI v)), some (.int (nI (hun T v (k + 1)))), some (.int (nI k))]) d_Spaces_hasUnion_37 (by decide) rfl rfl ?_
      refine j_iincN (x := k) (L' := [some (.ref 64), some (.ref o), some (.int (nI v)), some (.int (nI (hun T v (k + 1)))), some (.int (nI (k + 1)))]) d_Spaces_hasUnion_38 rfl (by decide) rfl rfl ?_
      refine j_goto (tgt := 5) d_Spaces_hasUnion_41 (by decide) ?_
      exact ih

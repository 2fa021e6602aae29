theorem tw_clo {A : jT} (hA : tw A) : tw (tclo A) := by
  refine ⟨hA.1, fun i => ?_, fun i hi => ?_⟩
  · simp only [tclo]
    split
    · exact csK_lt hA.2.1 _ _
    · omega
  · have : ¬ i < A.1 := Nat.not_lt.mpr hi
    simp [tclo, this]
theorem x_isMadeUp {n : jN} {h : jH} {o : Nat} (ho : isT o) {T : jT} {v : Nat} (hr : rep h o T) (hT : tw T) (hv : v < 4096) : jC n 0 jy_Spaces_isMadeUp jc_Spaces_isMadeUp 5 (some .boolean) [.ref 64, .ref o, .int (nI v)] h (some (.int (jbo (mdu T v T.1 == v)))) h := by
  have hn12 := hT.1
  refine jC_of jm_Spaces_isMadeUp (L := [some (.ref 64), some (.ref o), some (.int (nI v)), none, none]) (Nat.le_of_ble_eq_true rfl) rfl (jbo01 _) ?_
  generalize hres : (((some (.int (jbo (mdu T v T.1 == v)))), h) : Option Value × jH) = res
  refine j_iconst (v := nI 0) d_Spaces_isMadeUp_0 rfl ?_
  refine j_istore_n (L' := [some (.ref 64), some (.ref o), some (.int (nI v)), some (.int (nI 0)), none]) d_Spaces_isMadeUp_1 (by decide) rfl rfl ?_
  refine j_iconst (v := nI 0) d_Spaces_isMadeUp_2 rfl ?_
  refine j_istore (L' := [some (.ref 64), some (.ref o), some (.int (nI v)), some (.int (nI 0)), some (.int (nI 0))]) d_Spaces_isMadeUp_3 (by decide) rfl rfl ?_
  refine j_loop (P := fun k => jJ n 0 jc_Spaces_isMadeUp 5 "YesNoPowers$Spaces" 5 [some (.ref 64), some (.ref o), some (.int (nI v)), some (.int (nI (mdu T v k))), some (.int (nI k))] [] h res) (m := T.1) ?_ (fun k hk ih => ?_)
  · have hul : mdu T v T.1 < 2 ^ 12 := jor_lt (m := 12) fun i _ => by split; exact hT.2.1 i; omega
    refine j_iload d_Spaces_isMadeUp_5 rfl ?_
    refine j_aload_n d_Spaces_isMadeUp_7 rfl ?_
    refine j_getv (v := nI T.1) d_Spaces_isMadeUp_8 jf_Spaces_28 ho.1 rfl hr.1 ?_
    refine j_icmp_geN_t (tgt := 55) d_Spaces_isMadeUp_11 (by decide) (by omega) (by omega) (Nat.le_refl _) ?_
    refine j_iload_n d_Spaces_isMadeUp_55 rfl ?_
    refine j_iload_n d_Spaces_isMadeUp_56 rfl ?_
    refine j_icmp_neN (tgt := 64) d_Spaces_isMadeUp_57 (by decide) (by omega) (by omega) (fun c => ?_) (fun c => ?_)
    · refine j_iconst (v := nI 0) d_Spaces_isMadeUp_64 rfl ?_
      subst hres
      exact j_reti d_Spaces_isMadeUp_65 (by first | (rw [show (mdu T v T.1 == v) = true from beq_iff_eq.mpr c]; rfl) | (rw [show (mdu T v T.1 == v) = false from beq_false_of_ne c]; rfl)) rfl
    · refine j_iconst (v := nI 1) d_Spaces_isMadeUp_60 rfl ?_
      refine j_goto (tgt := 65) d_Spaces_isMadeUp_61 (by decide) ?_
      subst hres
      exact j_reti d_Spaces_isMadeUp_65 (by first | (rw [show (mdu T v T.1 == v) = true from beq_iff_eq.mpr c]; rfl) | (rw [show (mdu T v T.1 == v) = false from beq_false_of_ne c]; rfl)) rfl
  · have hrk := hT.2.1 k
    have hnn := nnd_lt (a := T.2 k) (b := v) (by omega)
    refine j_iload d_Spaces_isMadeUp_5 rfl ?_
    refine j_aload_n d_Spaces_isMadeUp_7 rfl ?_
    refine j_getv (v := nI T.1) d_Spaces_isMadeUp_8 jf_Spaces_28 ho.1 rfl hr.1 ?_
    refine j_icmp_geN_f (tgt := 55) d_Spaces_isMadeUp_11 (by decide) (by omega) (by omega) (Nat.not_le.mpr hk) ?_
    refine j_aload_n d_Spaces_isMadeUp_14 rfl ?_
    refine j_getr (b := o + 1) d_Spaces_isMadeUp_15 jf_Spaces_32 ho.1 rfl ho.2.1 ho.2.2.2 ?_
    refine j_iload d_Spaces_isMadeUp_18 rfl ?_
    refine j_ialdN (v := nI (T.2 k)) d_Spaces_isMadeUp_20 ho.2.2.1 (by omega) (by decide) (hr.2 _ (by omega)) ?_
    refine j_iload_n d_Spaces_isMadeUp_21 rfl ?_
    refine j_icmp_eqN (tgt := 49) d_Spaces_isMadeUp_22 (by decide) (by omega) (by omega) (fun c0 => ?_) (fun c0 => ?_)
    · have hz : mdu T v k = mdu T v (k + 1) := jor_z (if_neg (fun z => z.1 c0))
      rw [← hz] at ih
      refine j_iincN (x := k) (L' := [some (.ref 64), some (.ref o), some (.int (nI v)), some (.int (nI (mdu T v k))), some (.int (nI (k + 1)))]) d_Spaces_isMadeUp_49 rfl (by decide) rfl rfl ?_
      refine j_goto (tgt := 5) d_Spaces_isMadeUp_52 (by decide) ?_
      exact ih
    · refine j_aload_n d_Spaces_isMadeUp_25 rfl ?_
      refine j_getr (b := o + 1) d_Spaces_isMadeUp_26 jf_Spaces_32 ho.1 rfl ho.2.1 ho.2.2.2 ?_
      refine j_iload d_Spaces_isMadeUp_29 rfl ?_
      refine j_ialdN (v := nI (T.2 k)) d_Spaces_isMadeUp_31 ho.2.2.1 (by omega) (by decide) (hr.2 _ (by omega)) ?_
      refine j_iload_n d_Spaces_isMadeUp_32 rfl ?_
      refine j_iconst (v := -1) d_Spaces_isMadeUp_33 rfl ?_
      refine j_ixor d_Spaces_isMadeUp_34 ?_
      refine j_iand d_Spaces_isMadeUp_35 ?_
      refine j_top (w := nI (nnd (T.2 k) v)) (nnd12 hrk) ?_
      refine j_if_neN (tgt := 49) d_Spaces_isMadeUp_36 (by decide) (by omega) (fun c => ?_) (fun c => ?_)
      · have hz : mdu T v k = mdu T v (k + 1) := jor_z (if_neg (fun z => c z.2))
        rw [← hz] at ih
        refine j_iincN (x := k) (L' := [some (.ref 64), some (.ref o), some (.int (nI v)), some (.int (nI (mdu T v k))), some (.int (nI (k + 1)))]) d_Spaces_isMadeUp_49 rfl (by decide) rfl rfl ?_
        refine j_goto (tgt := 5) d_Spaces_isMadeUp_52 (by decide) ?_
        exact ih
      · refine j_iload_n d_Spaces_isMadeUp_39 rfl ?_
        refine j_aload_n d_Spaces_isMadeUp_40 rfl ?_
        refine j_getr (b := o + 1) d_Spaces_isMadeUp_41 jf_Spaces_32 ho.1 rfl ho.2.1 ho.2.2.2 ?_
        refine j_iload d_Spaces_isMadeUp_44 rfl ?_
        refine j_ialdN (v := nI (T.2 k)) d_Spaces_isMadeUp_46 ho.2.2.1 (by omega) (by decide) (hr.2 _ (by omega)) ?_
        refine j_iorN d_Spaces_isMadeUp_47 ?_
        refine j_top (w := nI (mdu T v (k + 1))) (congrArg nI (jor_t (if_pos ⟨c0, c⟩))) ?_
        refine j_istore_n (L' := [some (.ref 64), some (.ref o), some (.int (nI v)), some (.int (nI (mdu T v (k + 1)))), some (.int (nI k))]) d_Spaces_isMadeUp_48 (by decide) rfl rfl ?_
        refine j_iincN (x := k) (L' := [some (.ref 64), some (.ref o), some (.int (nI v)), some (.int (nI (mdu T v (k + 1)))), some (.int (nI (k + 1)))]) d_Spaces_isMadeUp_49 rfl (by decide) rfl rfl ?_
        refine j_goto (tgt := 5) d_Spaces_isMadeUp_52 (by decide) ?_
        exact ih
def nbs (T : jT) (a : Nat) : Nat → Nat
  | 0 => 0
  | k + 1 => if a < T.2 k ∧ (nbs T a k = 0 ∨ T.2 k < nbs T a k) ∧ ¬ mdu T (T.2 k) T.1 = T.2 k then T.2 k else nbs T a k
theorem nbs_lt {T : jT} {a : Nat} (hT : tw T) : ∀ k, nbs T a k < 4096
  | 0 => by unfold nbs; omega
  | k + 1 => by
    unfold nbs
    split
    · exact hT.2.1 k
    · exact nbs_lt hT k
theorem x_nextOfBasis {n : jN} {h : jH} {o : Nat} (ho : isT o) {T : jT} {v : Nat} (hr : rep h o T) (hT : tw T) (hv : v < 4096) : jC n 1 jy_Spaces_nextOfBasis jc_Spaces_nextOfBasis 6 (some .int) [.ref 64, .ref o, .int (nI v)] h (some (.int (nI (nbs T v T.1)))) h := by
  have hn12 := hT.1
  refine jC_of jm_Spaces_nextOfBasis (L := [some (.ref 64), some (.ref o), some (.int (nI v)), none, none, none]) (Nat.le_of_ble_eq_true rfl) rfl trivial ?_
  generalize hres : (((some (.int (nI (nbs T v T.1)))), h) : Option Value × jH) = res
  refine j_iconst (v := nI 0) d_Spaces_nextOfBasis_0 rfl ?_
  refine j_istore_n (L' := [some (.ref 64), some (.ref o), some (.int (nI v)), some (.int (nI 0)), none, none]) d_Spaces_nextOfBasis_1 (by decide) rfl rfl ?_
  refine j_iconst (v := nI 0) d_Spaces_nextOfBasis_2 rfl ?_
  refine j_istore (L' := [some (.ref 64), some (.ref o), some (.int (nI v)), some (.int (nI 0)), some (.int (nI 0)), none]) d_Spaces_nextOfBasis_3 (by decide) rfl rfl ?_
  refine j_loop (P := fun k => jJ n 1 jc_Spaces_nextOfBasis 6 "YesNoPowers$Spaces" 5 [some (.ref 64), some (.ref o), some (.int (nI v)), some (.int (nI (nbs T v k))), some (.int (nI k)), none] [] h res) (m := T.1) ?_ (fun k hk ih => ?_)
  · have hnl := nbs_lt (a := v) hT T.1
    refine j_iload d_Spaces_nextOfBasis_5 rfl ?_
    refine j_aload_n d_Spaces_nextOfBasis_7 rfl ?_
    refine j_getv (v := nI T.1) d_Spaces_nextOfBasis_8 jf_Spaces_28 ho.1 rfl hr.1 ?_
    refine j_icmp_geN_t (tgt := 58) d_Spaces_nextOfBasis_11 (by decide) (by omega) (by omega) (Nat.le_refl _) ?_
    refine j_iload_n d_Spaces_nextOfBasis_58 rfl ?_
    subst hres
    exact j_reti d_Spaces_nextOfBasis_59 rfl rfl
  · have hrk := hT.2.1 k
    have hnl := nbs_lt (a := v) hT k
    refine j_iload d_Spaces_nextOfBasis_5 rfl ?_
    refine j_aload_n d_Spaces_nextOfBasis_7 rfl ?_
    refine j_getv (v := nI T.1) d_Spaces_nextOfBasis_8 jf_Spaces_28 ho.1 rfl hr.1 ?_
    refine j_icmp_geN_f (tgt := 58) d_Spaces_nextOfBasis_11 (by decide) (by omega) (by omega) (Nat.not_le.mpr hk) ?_
    refine j_aload_n d_Spaces_nextOfBasis_14 rfl ?_
    refine j_getr (b := o + 1) d_Spaces_nextOfBasis_15 jf_Spaces_32 ho.1 rfl ho.2.1 ho.2.2.2 ?_
    refine j_iload d_Spaces_nextOfBasis_18 rfl ?_
    refine j_ialdN (v := nI (T.2 k)) d_Spaces_nextOfBasis_20 ho.2.2.1 (by omega) (by decide) (hr.2 _ (by omega)) ?_
    refine j_istore (L' := [some (.ref 64), some (.ref o), some (.int (nI v)), some (.int (nI (nbs T v k))), some (.int (nI k)), some (.int (nI (T.2 k)))]) d_Spaces_nextOfBasis_21 (by decide) rfl rfl ?_
    refine j_iload d_Spaces_nextOfBasis_23 rfl ?_
    refine j_iload_n d_Spaces_nextOfBasis_25 rfl ?_
    refine j_icmp_leN (tgt := 52) d_Spaces_nextOfBasis_26 (by decide) (by omega) (by omega) (fun c0 => ?_) (fun c0 => ?_)
    · have hz : nbs T v (k + 1) = nbs T v k := by simp only [nbs]; rw [if_neg]; intro z; omega
      rw [hz] at ih
      refine j_iincN (x := k) (L' := [some (.ref 64), some (.ref o), some (.int (nI v)), some (.int (nI (nbs T v k))), some (.int (nI (k + 1))), some (.int (nI (T.2 k)))]) d_Spaces_nextOfBasis_52 rfl (by decide) rfl rfl ?_
      refine j_goto (tgt := 5) d_Spaces_nextOfBasis_55 (by decide) ?_
      exact j_forget (i := 5) rfl ih
    · refine j_iload_n d_Spaces_nextOfBasis_29 rfl ?_
      refine j_if_eqN (tgt := 39) d_Spaces_nextOfBasis_30 (by decide) (by omega) (fun c1 => ?_) (fun c1 => ?_)
      · refine j_aload_n d_Spaces_nextOfBasis_39 rfl ?_
        refine j_aload_n d_Spaces_nextOfBasis_40 rfl ?_
        refine j_iload d_Spaces_nextOfBasis_41 rfl ?_
        refine j_callVs (As := [.ref o, .int (nI (T.2 k))]) (st := []) (x_isMadeUp ho hr hT hrk) d_Spaces_nextOfBasis_43 (by decide) jm_Spaces_isMadeUp jk_Spaces_48 ji_Spaces_isMadeUp js_Spaces_isMadeUp rfl (by decide) rfl rfl (Nat.le_of_ble_eq_true rfl) rfl ?_
        refine j_if_neB (tgt := 52) d_Spaces_nextOfBasis_46 (by decide) (fun c3 => ?_) (fun c3 => ?_)
        · have hz : nbs T v (k + 1) = nbs T v k := by simp only [nbs]; rw [if_neg]; intro z; exact z.2.2 (beq_iff_eq.mp c3)
          rw [hz] at ih
          refine j_iincN (x := k) (L' := [some (.ref 64), some (.ref o), some (.int (nI v)), some (.int (nI (nbs T v k))), some (.int (nI (k + 1))), some (.int (nI (T.2 k)))]) d_Spaces_nextOfBasis_52 rfl (by decide) rfl rfl ?_
          refine j_goto (tgt := 5) d_Spaces_nextOfBasis_55 (by decide) ?_
          exact j_forget (i := 5) rfl ih
        · have hz : nbs T v (k + 1) = T.2 k := by simp only [nbs]; rw [if_pos]; exact ⟨by omega, by omega, fun z => by rw [beq_iff_eq.mpr z] at c3; cases c3⟩
          rw [hz] at ih
          refine j_iload d_Spaces_nextOfBasis_49 rfl ?_
          refine j_istore_n (L' := [some (.ref 64), some (.ref o), some (.int (nI v)), some (.int (nI (T.2 k))), some (.int (nI k)), some (.int (nI (T.2 k)))]) d_Spaces_nextOfBasis_51 (by decide) rfl rfl ?_
          refine j_iincN (x := k) (L' := [some (.ref 64), some (.ref o), some (.int (nI v)), some (.int (nI (T.2 k))), some (.int (nI (k + 1))), some (.int (nI (T.2 k)))]) d_Spaces_nextOfBasis_52 rfl (by decide) rfl rfl ?_
          refine j_goto (tgt := 5) d_Spaces_nextOfBasis_55 (by decide) ?_
          exact j_forget (i := 5) rfl ih
      · refine j_iload d_Spaces_nextOfBasis_33 rfl ?_
        refine j_iload_n d_Spaces_nextOfBasis_35 rfl ?_
        refine j_icmp_geN (tgt := 52) d_Spaces_nextOfBasis_36 (by decide) (by omega) (by omega) (fun c2 => ?_) (fun c2 => ?_)
        · have hz : nbs T v (k + 1) = nbs T v k := by simp only [nbs]; rw [if_neg]; intro z; omega
          rw [hz] at ih
          refine j_iincN (x := k) (L' := [some (.ref 64), some (.ref o), some (.int (nI v)), some (.int (nI (nbs T v k))), some (.int (nI (k + 1))), some (.int (nI (T.2 k)))]) d_Spaces_nextOfBasis_52 rfl (by decide) rfl rfl ?_
          refine j_goto (tgt := 5) d_Spaces_nextOfBasis_55 (by decide) ?_
          exact j_forget (i := 5) rfl ih
        · refine j_aload_n d_Spaces_nextOfBasis_39 rfl ?_
          refine j_aload_n d_Spaces_nextOfBasis_40 rfl ?_
          refine j_iload d_Spaces_nextOfBasis_41 rfl ?_
          refine j_callVs (As := [.ref o, .int (nI (T.2 k))]) (st := []) (x_isMadeUp ho hr hT hrk) d_Spaces_nextOfBasis_43 (by decide) jm_Spaces_isMadeUp jk_Spaces_48 ji_Spaces_isMadeUp js_Spaces_isMadeUp rfl (by decide) rfl rfl (Nat.le_of_ble_eq_true rfl) rfl ?_
          refine j_if_neB (tgt := 52) d_Spaces_nextOfBasis_46 (by decide) (fun c3 => ?_) (fun c3 => ?_)
          · have hz : nbs T v (k + 1) = nbs T v k := by simp only [nbs]; rw [if_neg]; intro z; exact z.2.2 (beq_iff_eq.mp c3)
            rw [hz] at ih
            refine j_iincN (x := k) (L' := [some (.ref 64), some (.ref o), some (.int (nI v)), some (.int (nI (nbs T v k))), some (.int (nI (k + 1))), some (.int (nI (T.2 k)))]) d_Spaces_nextOfBasis_52 rfl (by decide) rfl rfl ?_
            refine j_goto (tgt := 5) d_Spaces_nextOfBasis_55 (by decide) ?_
            exact j_forget (i := 5) rfl ih
          · have hz : nbs T v (k + 1) = T.2 k := by simp only [nbs]; rw [if_pos]; exact ⟨by omega, by omega, fun z => by rw [beq_iff_eq.mpr z] at c3; cases c3⟩
            rw [hz] at ih
            refine j_iload d_Spaces_nextOfBasis_49 rfl ?_
            refine j_istore_n (L' := [some (.ref 64), some (.ref o), some (.int (nI v)), some (.int (nI (T.2 k))), some (.int (nI k)), some (.int (nI (T.2 k)))]) d_Spaces_nextOfBasis_51 (by decide) rfl rfl ?_
            refine j_iincN (x := k) (L' := [some (.ref 64), some (.ref o), some (.int (nI v)), some (.int (nI (T.2 k))), some (.int (nI (k + 1))), some (.int (nI (T.2 k)))]) d_Spaces_nextOfBasis_52 rfl (by decide) rfl rfl ?_
            refine j_goto (tgt := 5) d_Spaces_nextOfBasis_55 (by decide) ?_
            exact j_forget (i := 5) rfl ih
def bsr (T : jT) : Nat → Nat
  | 0 => nbs T 0 T.1
  | j + 1 => nbs T (bsr T j) T.1
theorem bsr_lt {T : jT} (hT : tw T) : ∀ j, bsr T j < 4096
  | 0 => nbs_lt hT _
  | j + 1 => nbs_lt hT _
theorem x_basisSize {n : jN} {h : jH} {o : Nat} (ho : isT o) {T : jT} {q : Nat} (hr : rep h o T) (hT : tw T) (hq : q ≤ 12) (hq1 : ∀ j, j < q → ¬ bsr T j = 0) (hq2 : bsr T q = 0 ∨ q = 12) : jC n 2 jy_Spaces_basisSize jc_Spaces_basisSize 5 (some .int) [.ref 64, .ref o] h (some (.int (nI q))) h := by
  have hn12 := hT.1
  refine jC_of jm_Spaces_basisSize (L := [some (.ref 64), some (.ref o), none, none, none]) (Nat.le_of_ble_eq_true rfl) rfl trivial ?_
  generalize hres : (((some (.int (nI q))), h) : Option Value × jH) = res
  refine j_iconst (v := nI 0) d_Spaces_basisSize_0 rfl ?_
  refine j_istore_n (L' := [some (.ref 64), some (.ref o), some (.int (nI 0)), none, none]) d_Spaces_basisSize_1 (by decide) rfl rfl ?_
  refine j_aload_n d_Spaces_basisSize_2 rfl ?_
  refine j_aload_n d_Spaces_basisSize_3 rfl ?_
  refine j_iconst (v := nI 0) d_Spaces_basisSize_4 rfl ?_
  refine j_callVs (As := [.ref o, .int (nI 0)]) (st := []) (x_nextOfBasis ho hr hT (by omega)) d_Spaces_basisSize_5 (by decide) jm_Spaces_nextOfBasis jk_Spaces_44 ji_Spaces_nextOfBasis js_Spaces_nextOfBasis rfl (by decide) rfl rfl (Nat.le_of_ble_eq_true rfl) rfl ?_
  refine j_istore_n (L' := [some (.ref 64), some (.ref o), some (.int (nI 0)), some (.int (nI (nbs T 0 (T).1))), none]) d_Spaces_basisSize_8 (by decide) rfl rfl ?_
  refine j_iconst (v := nI 0) d_Spaces_basisSize_9 rfl ?_
  refine j_istore (L' := [some (.ref 64), some (.ref o), some (.int (nI 0)), some (.int (nI (nbs T 0 (T).1))), some (.int (nI 0))]) d_Spaces_basisSize_10 (by decide) rfl rfl ?_
  refine j_locs (L' := [some (.ref 64), some (.ref o), some (.int (nI 0)), some (.int (nI (bsr T 0))), some (.int (nI 0))]) rfl ?_
  refine j_loop (P := fun k => jJ n 2 jc_Spaces_basisSize 5 "YesNoPowers$Spaces" 12 [some (.ref 64), some (.ref o), some (.int (nI k)), some (.int (nI (bsr T k))), some (.int (nI k))] [] h res) (m := q) ?_ (fun k hk ih => ?_)
  · have hbl := bsr_lt hT q
    refine j_iload d_Spaces_basisSize_12 rfl ?_
    refine j_bipush (v := nI 12) d_Spaces_basisSize_14 (by decide) ?_
    refine j_icmp_geN (tgt := 39) d_Spaces_basisSize_16 (by decide) (by omega) (by omega) (fun c => ?_) (fun c => ?_)
    · refine j_iload_n d_Spaces_basisSize_39 rfl ?_
      subst hres
      exact j_reti d_Spaces_basisSize_40 rfl rfl
    · refine j_iload_n d_Spaces_basisSize_19 rfl ?_
      refine j_if_eqN_t (tgt := 39) d_Spaces_basisSize_20 (by decide) (by omega) (hq2.resolve_right (by omega)) ?_
      refine j_iload_n d_Spaces_basisSize_39 rfl ?_
      subst hres
      exact j_reti d_Spaces_basisSize_40 rfl rfl
  · have hbl := bsr_lt hT k
    refine j_iload d_Spaces_basisSize_12 rfl ?_
    refine j_bipush (v := nI 12) d_Spaces_basisSize_14 (by decide) ?_
    refine j_icmp_geN_f (tgt := 39) d_Spaces_basisSize_16 (by decide) (by omega) (by omega) (by omega) ?_
    refine j_iload_n d_Spaces_basisSize_19 rfl ?_
    refine j_if_eqN_f (tgt := 39) d_Spaces_basisSize_20 (by decide) (by omega) (hq1 k hk) ?_
    refine j_iincN (x := k) (L' := [some (.ref 64), some (.ref o), some (.int (nI (k + 1))), some (.int (nI (bsr T k))), some (.int (nI k))]) d_Spaces_basisSize_23 rfl (by decide) rfl rfl ?_
    refine j_aload_n d_Spaces_basisSize_26 rfl ?_
    refine j_aload_n d_Spaces_basisSize_27 rfl ?_
    refine j_iload_n d_Spaces_basisSize_28 rfl ?_
    refine j_callVs (As := [.ref o, .int (nI (bsr T k))]) (st := []) (x_nextOfBasis ho hr hT (bsr_lt hT _)) d_Spaces_basisSize_29 (by decide) jm_Spaces_nextOfBasis jk_Spaces_44 ji_Spaces_nextOfBasis js_Spaces_nextOfBasis rfl (by decide) rfl rfl (Nat.le_of_ble_eq_true rfl) rfl ?_
    refine j_istore_n (L' := [some (.ref 64), some (.ref o), some (.int (nI (k + 1))), some (.int (nI (nbs T (bsr T k) (T).1))), some (.int (nI k))]) d_Spaces_basisSize_32 (by decide) rfl rfl ?_
    refine j_iincN (x := k) (L' := [some (.ref 64), some (.ref o), some (.int (nI (k + 1))), some (.int (nI (nbs T (bsr T k) (T).1))), some (.int (nI (k + 1)))]) d_Spaces_basisSize_33 rfl (by decide) rfl rfl ?_
    refine j_goto (tgt := 12) d_Spaces_basisSize_36 (by decide) ?_
    exact ih
def unc (T : jT) (k : Nat) : Nat := jsum k (fun v => if hun T v T.1 = v then 1 else 0)
theorem unc_le (T : jT) : ∀ k, unc T k ≤ k
  | 0 => Nat.le_refl _
  | k + 1 => by
    have := unc_le T k
    simp only [unc, jsum] at this ⊢
    split <;> omega
theorem x_unionsOf {n : jN} {h : jH} {o : Nat} (ho : isT o) {T : jT} (hr : rep h o T) (hT : tw T) : jC n 1 jy_Spaces_unionsOf jc_Spaces_unionsOf 5 (some .int) [.ref 64, .ref o] h (some (.int (nI (unc T (2 ^ T.1))))) h := by
  have hn12 := hT.1
  refine jC_of jm_Spaces_unionsOf (L := [some (.ref 64), some (.ref o), none, none, none]) (Nat.le_of_ble_eq_true rfl) rfl trivial ?_
  generalize hres : (((some (.int (nI (unc T (2 ^ T.1))))), h) : Option Value × jH) = res
  have h2p : 0 < 2 ^ T.1 := Nat.two_pow_pos _
  have h2m : 2 ^ T.1 ≤ 2 ^ 12 := Nat.pow_le_pow_right (by omega) hn12
  refine j_iconst (v := nI 0) d_Spaces_unionsOf_0 rfl ?_
  refine j_istore_n (L' := [some (.ref 64), some (.ref o), some (.int (nI 0)), none, none]) d_Spaces_unionsOf_1 (by decide) rfl rfl ?_
  refine j_aload_n d_Spaces_unionsOf_2 rfl ?_
  refine j_callVs (As := []) (st := []) (x_allColumns ho hr.1 hT.1) d_Spaces_unionsOf_3 (by decide) jm_Table_allColumns jk_Spaces_36 ji_Table_allColumns js_Table_allColumns ho.1 (by decide) rfl rfl (Nat.le_of_ble_eq_true rfl) rfl ?_
  refine j_istore_n (L' := [some (.ref 64), some (.ref o), some (.int (nI 0)), some (.int (nI (2 ^ (T).1 - 1))), none]) d_Spaces_unionsOf_6 (by decide) rfl rfl ?_
  refine j_iconst (v := nI 0) d_Spaces_unionsOf_7 rfl ?_
  refine j_istore (L' := [some (.ref 64), some (.ref o), some (.int (nI 0)), some (.int (nI (2 ^ (T).1 - 1))), some (.int (nI 0))]) d_Spaces_unionsOf_8 (by decide) rfl rfl ?_
  refine j_loop (P := fun k => jJ n 1 jc_Spaces_unionsOf 5 "YesNoPowers$Spaces" 10 [some (.ref 64), some (.ref o), some (.int (nI (unc T k))), some (.int (nI (2 ^ T.1 - 1))), some (.int (nI k))] [] h res) (m := 2 ^ T.1) ?_ (fun k hk ih => ?_)
  · refine j_iload d_Spaces_unionsOf_10 rfl ?_
    refine j_iload_n d_Spaces_unionsOf_12 rfl ?_
    refine j_icmp_gtN_t (tgt := 35) d_Spaces_unionsOf_13 (by decide) (by omega) (by omega) (by omega) ?_
    refine j_iload_n d_Spaces_unionsOf_35 rfl ?_
    subst hres
    exact j_reti d_Spaces_unionsOf_36 rfl rfl
  · have hul := unc_le T k
    refine j_iload d_Spaces_unionsOf_10 rfl ?_
    refine j_iload_n d_Spaces_unionsOf_12 rfl ?_
    refine j_icmp_gtN_f (tgt := 35) d_Spaces_unionsOf_13 (by decide) (by omega) (by omega) (by omega) ?_
    refine j_aload_n d_Spaces_unionsOf_16 rfl ?_
    refine j_aload_n d_Spaces_unionsOf_17 rfl ?_
    refine j_iload d_Spaces_unionsOf_18 rfl ?_
    refine j_callVs (As := [.ref o, .int (nI k)]) (st := []) (x_hasUnion ho hr hT (by omega)) d_Spaces_unionsOf_20 (by decide) jm_Spaces_hasUnion jk_Spaces_40 ji_Spaces_hasUnion js_Spaces_hasUnion rfl (by decide) rfl rfl (Nat.le_of_ble_eq_true rfl) rfl ?_
    refine j_if_eqB (tgt := 29) d_Spaces_unionsOf_23 (by decide) (fun c => ?_) (fun c => ?_)
    · have hz : unc T (k + 1) = unc T k := by simp only [unc, jsum]; rw [if_neg (fun z => by rw [beq_iff_eq.mpr z] at c; cases c)]; rfl
      rw [hz] at ih
      refine j_iincN (x := k) (L' := [some (.ref 64), some (.ref o), some (.int (nI (unc T k))), some (.int (nI (2 ^ T.1 - 1))), some (.int (nI (k + 1)))]) d_Spaces_unionsOf_29 rfl (by decide) rfl rfl ?_
      refine j_goto (tgt := 10) d_Spaces_unionsOf_32 (by decide) ?_
      exact ih
    · have hz : unc T (k + 1) = unc T k + 1 := by simp only [unc, jsum]; rw [if_pos (beq_iff_eq.mp c)]
      rw [hz] at ih
      refine j_iincN (x := unc T k) (L' := [some (.ref 64), some (.ref o), some (.int (nI ((unc T k) + 1))), some (.int (nI (2 ^ T.1 - 1))), some (.int (nI k))]) d_Spaces_unionsOf_26 rfl (by decide) rfl rfl ?_
      refine j_iincN (x := k) (L' := [some (.ref 64), some (.ref o), some (.int (nI ((unc T k) + 1))), some (.int (nI (2 ^ T.1 - 1))), some (.int (nI (k + 1)))]) d_Spaces_unionsOf_29 rfl (by decide) rfl rfl ?_
      refine j_goto (tgt := 10) d_Spaces_unionsOf_32 (by decide) ?_
      exact ih
def spr (A Bt : jT) (k : Nat) : Bool := jall k (fun i => hun A (Bt.2 i) A.1 == Bt.2 i)
theorem x_spansRows {n : jN} {h : jH} {t : Nat} (ht : isT t) {o : Nat} (ho : isT o) {A Bt : jT} (hra : rep h t A) (hA : tw A) (hrb : rep h o Bt) (hB : tw Bt) : jC n 1 jy_Spaces_spansRows jc_Spaces_spansRows 4 (some .boolean) [.ref 64, .ref t, .ref o] h (some (.int (jbo (spr A Bt Bt.1)))) h := by
  have hn12 := hA.1
  have hm12 := hB.1
  refine jC_of jm_Spaces_spansRows (L := [some (.ref 64), some (.ref t), some (.ref o), none]) (Nat.le_of_ble_eq_true rfl) rfl (jbo01 _) ?_
  generalize hres : (((some (.int (jbo (spr A Bt Bt.1)))), h) : Option Value × jH) = res
  refine j_iconst (v := nI 0) d_Spaces_spansRows_0 rfl ?_
  refine j_istore_n (L' := [some (.ref 64), some (.ref t), some (.ref o), some (.int (nI 0))]) d_Spaces_spansRows_1 (by decide) rfl rfl ?_
  refine j_loop (P := fun k => spr A Bt k = true → jJ n 1 jc_Spaces_spansRows 4 "YesNoPowers$Spaces" 2 [some (.ref 64), some (.ref t), some (.ref o), some (.int (nI k))] [] h res) (m := Bt.1) ?_ (fun k hk ih => ?_) rfl
  · intro hh
    refine j_iload_n d_Spaces_spansRows_2 rfl ?_
    refine j_aload_n d_Spaces_spansRows_3 rfl ?_
    refine j_getv (v := nI Bt.1) d_Spaces_spansRows_4 jf_Spaces_28 ho.1 rfl hrb.1 ?_
    refine j_icmp_geN_t (tgt := 32) d_Spaces_spansRows_7 (by decide) (by omega) (by omega) (Nat.le_refl _) ?_
    refine j_iconst (v := nI 1) d_Spaces_spansRows_32 rfl ?_
    subst hres
    exact j_reti d_Spaces_spansRows_33 (by rw [hh]; rfl) rfl
  · intro hh
    have hrk := hB.2.1 k
    refine j_iload_n d_Spaces_spansRows_2 rfl ?_
    refine j_aload_n d_Spaces_spansRows_3 rfl ?_
    refine j_getv (v := nI Bt.1) d_Spaces_spansRows_4 jf_Spaces_28 ho.1 rfl hrb.1 ?_
    refine j_icmp_geN_f (tgt := 32) d_Spaces_spansRows_7 (by decide) (by omega) (by omega) (Nat.not_le.mpr hk) ?_
    refine j_aload_n d_Spaces_spansRows_10 rfl ?_
    refine j_aload_n d_Spaces_spansRows_11 rfl ?_
    refine j_aload_n d_Spaces_spansRows_12 rfl ?_
    refine j_getr (b := o + 1) d_Spaces_spansRows_13 jf_Spaces_32 ho.1 rfl ho.2.1 ho.2.2.2 ?_
    refine j_iload_n d_Spaces_spansRows_16 rfl ?_
    refine j_ialdN (v := nI (Bt.2 k)) d_Spaces_spansRows_17 ho.2.2.1 (by omega) (by decide) (hrb.2 _ (by omega)) ?_
    refine j_callVs (As := [.ref t, .int (nI (Bt.2 k))]) (st := []) (x_hasUnion ht hra hA hrk) d_Spaces_spansRows_18 (by decide) jm_Spaces_hasUnion jk_Spaces_40 ji_Spaces_hasUnion js_Spaces_hasUnion rfl (by decide) rfl rfl (Nat.le_of_ble_eq_true rfl) rfl ?_
    refine j_if_neB (tgt := 26) d_Spaces_spansRows_21 (by decide) (fun c => ?_) (fun c => ?_)
    · refine j_iincN (x := k) (L' := [some (.ref 64), some (.ref t), some (.ref o), some (.int (nI (k + 1)))]) d_Spaces_spansRows_26 rfl (by decide) rfl rfl ?_
      refine j_goto (tgt := 2) d_Spaces_spansRows_29 (by decide) ?_
      exact ih (by simp_all [spr, jall])
    · refine j_iconst (v := nI 0) d_Spaces_spansRows_24 rfl ?_
      subst hres
      exact j_reti d_Spaces_spansRows_25 (by rw [show spr A Bt Bt.1 = false from jall_f (f := fun i => hun A (Bt.2 i) A.1 == Bt.2 i) hk c]; rfl) rfl
theorem x_areAlike0 {n : jN} {h : jH} {t : Nat} (ht : isT t) {o : Nat} (ho : isT o) {A Bt : jT} (hra : rep h t A) (hA : tw A) (hrb : rep h o Bt) (hB : tw Bt) (hft : t < 46 ∨ 75 < t) (hfo : o < 46 ∨ 75 < o) : jC n 3 jy_Spaces_areAlike jc_Spaces_areAlike 4 (some .boolean) [.ref 64, .ref t, .ref o, .int (nI 0)] h (some (.int (jbo (spr A Bt Bt.1 && spr Bt A A.1)))) (sT (sT h 65 A) 67 Bt) := by
  have hn12 := hA.1
  have hm12 := hB.1
  refine jC_of jm_Spaces_areAlike (L := [some (.ref 64), some (.ref t), some (.ref o), some (.int (nI 0))]) (Nat.le_of_ble_eq_true rfl) rfl (jbo01 _) ?_
  generalize hres : (((some (.int (jbo (spr A Bt Bt.1 && spr Bt A A.1)))), sT (sT h 65 A) 67 Bt) : Option Value × jH) = res
  refine j_aload_n d_Spaces_areAlike_0 rfl ?_
  refine j_getr (b := 65) d_Spaces_areAlike_1 jf_Spaces_10 rfl rfl rfl (by decide) ?_
  refine j_aload_n d_Spaces_areAlike_4 rfl ?_
  refine j_callVn (As := [.ref t]) (st := []) (x_become isT_65 ht (by omega) hra hA) d_Spaces_areAlike_5 (by decide) jm_Table_become jk_Spaces_51 ji_Table_become js_Table_become rfl (by decide) rfl rfl (Nat.le_of_ble_eq_true rfl) rfl ?_
  refine j_aload_n d_Spaces_areAlike_8 rfl ?_
  refine j_getr (b := 67) d_Spaces_areAlike_9 jf_Spaces_16 rfl rfl rfl (by decide) ?_
  refine j_aload_n d_Spaces_areAlike_12 rfl ?_
  refine j_callVn (As := [.ref o]) (st := []) (x_become isT_67 ho (by omega) (rep_o isT_65 ho (by omega) hrb) hB) d_Spaces_areAlike_13 (by decide) jm_Table_become jk_Spaces_51 ji_Table_become js_Table_become rfl (by decide) rfl rfl (Nat.le_of_ble_eq_true rfl) rfl ?_
  refine j_iload_n d_Spaces_areAlike_16 rfl ?_
  refine j_if_eqN_t (tgt := 36) d_Spaces_areAlike_17 (by decide) (by omega) (by decide) ?_
  refine j_aload_n d_Spaces_areAlike_36 rfl ?_
  refine j_aload_n d_Spaces_areAlike_37 rfl ?_
  refine j_getr (b := 65) d_Spaces_areAlike_38 jf_Spaces_10 rfl rfl rfl (by decide) ?_
  refine j_aload_n d_Spaces_areAlike_41 rfl ?_
  refine j_getr (b := 67) d_Spaces_areAlike_42 jf_Spaces_16 rfl rfl rfl (by decide) ?_
  refine j_callVs (As := [.ref 65, .ref 67]) (st := []) (x_spansRows isT_65 isT_67 (rep_o isT_67 isT_65 (by decide) rep_sT) hA rep_sT hB) d_Spaces_areAlike_45 (by decide) jm_Spaces_spansRows jk_Spaces_58 ji_Spaces_spansRows js_Spaces_spansRows rfl (by decide) rfl rfl (Nat.le_of_ble_eq_true rfl) rfl ?_
  refine j_if_eqB (tgt := 70) d_Spaces_areAlike_48 (by decide) (fun c1 => ?_) (fun c1 => ?_)
  · refine j_iconst (v := nI 0) d_Spaces_areAlike_70 rfl ?_
    subst hres
    exact j_reti d_Spaces_areAlike_71 (by rw [c1]; rfl) rfl
  · refine j_aload_n d_Spaces_areAlike_51 rfl ?_
    refine j_aload_n d_Spaces_areAlike_52 rfl ?_
    refine j_getr (b := 67) d_Spaces_areAlike_53 jf_Spaces_16 rfl rfl rfl (by decide) ?_
    refine j_aload_n d_Spaces_areAlike_56 rfl ?_
    refine j_getr (b := 65) d_Spaces_areAlike_57 jf_Spaces_10 rfl rfl rfl (by decide) ?_
    refine j_callVs (As := [.ref 67, .ref 65]) (st := []) (x_spansRows isT_67 isT_65 rep_sT hB (rep_o isT_67 isT_65 (by decide) rep_sT) hA) d_Spaces_areAlike_60 (by decide) jm_Spaces_spansRows jk_Spaces_58 ji_Spaces_spansRows js_Spaces_spansRows rfl (by decide) rfl rfl (Nat.le_of_ble_eq_true rfl) rfl ?_
    refine j_if_eqB (tgt := 70) d_Spaces_areAlike_63 (by decide) (fun c2 => ?_) (fun c2 => ?_)
    · refine j_iconst (v := nI 0) d_Spaces_areAlike_70 rfl ?_
      subst hres
      exact j_reti d_Spaces_areAlike_71 (by rw [c1, c2]; rfl) rfl
    · refine j_iconst (v := nI 1) d_Spaces_areAlike_66 rfl ?_
      refine j_goto (tgt := 71) d_Spaces_areAlike_67 (by decide) ?_
      subst hres
      exact j_reti d_Spaces_areAlike_71 (by rw [c1, c2]; rfl) rfl
theorem x_areAlike1 {n : jN} {h : jH} {t : Nat} (ht : isT t) {o : Nat} (ho : isT o) {A Bt : jT} (hra : rep h t A) (hA : tw A) (hrb : rep h o Bt) (hB : tw Bt) (hft : t < 46 ∨ 75 < t) (hfo : o < 46 ∨ 75 < o) : jC n 3 jy_Spaces_areAlike jc_Spaces_areAlike 4 (some .boolean) [.ref 64, .ref t, .ref o, .int (nI 1)] h (some (.int (jbo (spr (ttr A) (ttr Bt) (ttr Bt).1 && spr (ttr Bt) (ttr A) (ttr A).1)))) (sT (sT (sT (sT h 65 A) 67 Bt) 65 (ttr A)) 67 (ttr Bt)) := by
  have hn12 := hA.1
  have hm12 := hB.1
  refine jC_of jm_Spaces_areAlike (L := [some (.ref 64), some (.ref t), some (.ref o), some (.int (nI 1))]) (Nat.le_of_ble_eq_true rfl) rfl (jbo01 _) ?_
  generalize hres : (((some (.int (jbo (spr (ttr A) (ttr Bt) (ttr Bt).1 && spr (ttr Bt) (ttr A) (ttr A).1)))), sT (sT (sT (sT h 65 A) 67 Bt) 65 (ttr A)) 67 (ttr Bt)) : Option Value × jH) = res
  refine j_aload_n d_Spaces_areAlike_0 rfl ?_
  refine j_getr (b := 65) d_Spaces_areAlike_1 jf_Spaces_10 rfl rfl rfl (by decide) ?_
  refine j_aload_n d_Spaces_areAlike_4 rfl ?_
  refine j_callVn (As := [.ref t]) (st := []) (x_become isT_65 ht (by omega) hra hA) d_Spaces_areAlike_5 (by decide) jm_Table_become jk_Spaces_51 ji_Table_become js_Table_become rfl (by decide) rfl rfl (Nat.le_of_ble_eq_true rfl) rfl ?_
  refine j_aload_n d_Spaces_areAlike_8 rfl ?_
  refine j_getr (b := 67) d_Spaces_areAlike_9 jf_Spaces_16 rfl rfl rfl (by decide) ?_
  refine j_aload_n d_Spaces_areAlike_12 rfl ?_
  refine j_callVn (As := [.ref o]) (st := []) (x_become isT_67 ho (by omega) (rep_o isT_65 ho (by omega) hrb) hB) d_Spaces_areAlike_13 (by decide) jm_Table_become jk_Spaces_51 ji_Table_become js_Table_become rfl (by decide) rfl rfl (Nat.le_of_ble_eq_true rfl) rfl ?_
  refine j_iload_n d_Spaces_areAlike_16 rfl ?_
  refine j_if_eqN_f (tgt := 36) d_Spaces_areAlike_17 (by decide) (by omega) (by decide) ?_
  refine j_aload_n d_Spaces_areAlike_20 rfl ?_
  refine j_getr (b := 65) d_Spaces_areAlike_21 jf_Spaces_10 rfl rfl rfl (by decide) ?_
  refine j_aload_n d_Spaces_areAlike_24 rfl ?_
  refine j_callVn (As := [.ref t]) (st := []) (x_turn isT_65 ht (by omega) (rep_o isT_67 ht (by omega) (rep_o isT_65 ht (by omega) hra)) hA) d_Spaces_areAlike_25 (by decide) jm_Table_turn jk_Spaces_55 ji_Table_turn js_Table_turn rfl (by decide) rfl rfl (Nat.le_of_ble_eq_true rfl) rfl ?_
  refine j_aload_n d_Spaces_areAlike_28 rfl ?_
  refine j_getr (b := 67) d_Spaces_areAlike_29 jf_Spaces_16 rfl rfl rfl (by decide) ?_
  refine j_aload_n d_Spaces_areAlike_32 rfl ?_
  refine j_callVn (As := [.ref o]) (st := []) (x_turn isT_67 ho (by omega) (rep_o isT_65 ho (by omega) (rep_o isT_67 ho (by omega) (rep_o isT_65 ho (by omega) hrb))) hB) d_Spaces_areAlike_33 (by decide) jm_Table_turn jk_Spaces_55 ji_Table_turn js_Table_turn rfl (by decide) rfl rfl (Nat.le_of_ble_eq_true rfl) rfl ?_
  refine j_aload_n d_Spaces_areAlike_36 rfl ?_
  refine j_aload_n d_Spaces_areAlike_37 rfl ?_
  refine j_getr (b := 65) d_Spaces_areAlike_38 jf_Spaces_10 rfl rfl rfl (by decide) ?_
  refine j_aload_n d_Spaces_areAlike_41 rfl ?_
  refine j_getr (b := 67) d_Spaces_areAlike_42 jf_Spaces_16 rfl rfl rfl (by decide) ?_
  refine j_callVs (As := [.ref 65, .ref 67]) (st := []) (x_spansRows isT_65 isT_67 (rep_o isT_67 isT_65 (by decide) rep_sT) (tw_tr hA) rep_sT (tw_tr hB)) d_Spaces_areAlike_45 (by decide) jm_Spaces_spansRows jk_Spaces_58 ji_Spaces_spansRows js_Spaces_spansRows rfl (by decide) rfl rfl (Nat.le_of_ble_eq_true rfl) rfl ?_
  refine j_if_eqB (tgt := 70) d_Spaces_areAlike_48 (by decide) (fun c1 => ?_) (fun c1 => ?_)
  · refine j_iconst (v := nI 0) d_Spaces_areAlike_70 rfl ?_
    subst hres
    exact j_reti d_Spaces_areAlike_71 (by rw [c1]; rfl) rfl
  · refine j_aload_n d_Spaces_areAlike_51 rfl ?_
    refine j_aload_n d_Spaces_areAlike_52 rfl ?_
    refine j_getr (b := 67) d_Spaces_areAlike_53 jf_Spaces_16 rfl rfl rfl (by decide) ?_
    refine j_aload_n d_Spaces_areAlike_56 rfl ?_
    refine j_getr (b := 65) d_Spaces_areAlike_57 jf_Spaces_10 rfl rfl rfl (by decide) ?_
    refine j_callVs (As := [.ref 67, .ref 65]) (st := []) (x_spansRows isT_67 isT_65 rep_sT (tw_tr hB) (rep_o isT_67 isT_65 (by decide) rep_sT) (tw_tr hA)) d_Spaces_areAlike_60 (by decide) jm_Spaces_spansRows jk_Spaces_58 ji_Spaces_spansRows js_Spaces_spansRows rfl (by decide) rfl rfl (Nat.le_of_ble_eq_true rfl) rfl ?_
    refine j_if_eqB (tgt := 70) d_Spaces_areAlike_63 (by decide) (fun c2 => ?_) (fun c2 => ?_)
    · refine j_iconst (v := nI 0) d_Spaces_areAlike_70 rfl ?_
      subst hres
      exact j_reti d_Spaces_areAlike_71 (by rw [c1, c2]; rfl) rfl
    · refine j_iconst (v := nI 1) d_Spaces_areAlike_66 rfl ?_
      refine j_goto (tgt := 71) d_Spaces_areAlike_67 (by decide) ?_
      subst hres
      exact j_reti d_Spaces_areAlike_71 (by rw [c1, c2]; rfl) rfl
def tgr (T : jT) : jT := tco (tmul (tmul (ttr T) (tco T)) (ttr T))
theorem tw_gr {T : jT} (hT : tw T) : tw (tgr T) := tw_co (tw_mul (tw_mul (tw_tr hT) (tw_co hT)) (tw_tr hT))
def fgH (h : jH) (o r : Nat) (T : jT) : jH := sT (sT (sT (sT (sT (sT (sT h 65 (ttr T)) 69 T) 69 (tco T)) r (ttr T)) r (tmul (ttr T) (tco T))) r (tmul (tmul (ttr T) (tco T)) (ttr T))) r (tco (tmul (tmul (ttr T) (tco T)) (ttr T)))
theorem x_findGreatest {n : jN} {h : jH} {o : Nat} (ho : isT o) {r : Nat} (hr : isT r) {T : jT} (hr1 : rep h o T) (hT : tw T) (hfo : o < 46 ∨ 75 < o) (hfr : r = 71 ∨ 75 < r) (hro : o ≠ r) : jC n 3 jy_Spaces_findGreatest jc_Spaces_findGreatest 3 none [.ref 64, .ref o, .ref r] h none (fgH h o r T) := by
  have hn12 := hT.1
  refine jC_of jm_Spaces_findGreatest (L := [some (.ref 64), some (.ref o), some (.ref r)]) (Nat.le_of_ble_eq_true rfl) rfl trivial ?_
  generalize hres : ((none, fgH h o r T) : Option Value × jH) = res
  refine j_aload_n d_Spaces_findGreatest_0 rfl ?_
  refine j_getr (b := 65) d_Spaces_findGreatest_1 jf_Spaces_10 rfl rfl rfl (by decide) ?_
  refine j_aload_n d_Spaces_findGreatest_4 rfl ?_
  refine j_callVn (As := [.ref o]) (st := []) (x_turn isT_65 ho (by omega) hr1 hT) d_Spaces_findGreatest_5 (by decide) jm_Table_turn jk_Spaces_55 ji_Table_turn js_Table_turn rfl (by decide) rfl rfl (Nat.le_of_ble_eq_true rfl) rfl ?_
  refine j_aload_n d_Spaces_findGreatest_8 rfl ?_
  refine j_getr (b := 69) d_Spaces_findGreatest_9 jf_Spaces_19 rfl rfl rfl (by decide) ?_
  refine j_aload_n d_Spaces_findGreatest_12 rfl ?_
  refine j_callVn (As := [.ref o]) (st := []) (x_become isT_69 ho (by omega) (rep_o isT_65 ho (by omega) hr1) hT) d_Spaces_findGreatest_13 (by decide) jm_Table_become jk_Spaces_51 ji_Table_become js_Table_become rfl (by decide) rfl rfl (Nat.le_of_ble_eq_true rfl) rfl ?_
  refine j_aload_n d_Spaces_findGreatest_16 rfl ?_
  refine j_getr (b := 69) d_Spaces_findGreatest_17 jf_Spaces_19 rfl rfl rfl (by decide) ?_
  refine j_callVn (As := []) (st := []) (x_negate isT_69 rep_sT hT) d_Spaces_findGreatest_20 (by decide) jm_Table_negate jk_Spaces_62 ji_Table_negate js_Table_negate rfl (by decide) rfl rfl (Nat.le_of_ble_eq_true rfl) rfl ?_
  refine j_aload_n d_Spaces_findGreatest_23 rfl ?_
  refine j_aload_n d_Spaces_findGreatest_24 rfl ?_
  refine j_getr (b := 65) d_Spaces_findGreatest_25 jf_Spaces_10 rfl rfl rfl (by decide) ?_
  refine j_callVn (As := [.ref 65]) (st := []) (x_become hr isT_65 (by omega) (rep_o isT_69 isT_65 (by decide) (rep_o isT_69 isT_65 (by decide) rep_sT)) (tw_tr hT)) d_Spaces_findGreatest_28 (by decide) jm_Table_become jk_Spaces_51 ji_Table_become js_Table_become hr.1 (by decide) rfl rfl (Nat.le_of_ble_eq_true rfl) rfl ?_
  refine j_aload_n d_Spaces_findGreatest_31 rfl ?_
  refine j_aload_n d_Spaces_findGreatest_32 rfl ?_
  refine j_getr (b := 69) d_Spaces_findGreatest_33 jf_Spaces_19 rfl rfl rfl (by decide) ?_
  refine j_callVn (As := [.ref 69]) (st := []) (x_multiplyBy hr isT_69 (by omega) rep_sT (tw_tr hT) (rep_o hr isT_69 (by omega) rep_sT) (tw_co hT) rfl) d_Spaces_findGreatest_36 (by decide) jm_Table_multiplyBy jk_Spaces_65 ji_Table_multiplyBy js_Table_multiplyBy hr.1 (by decide) rfl rfl (Nat.le_of_ble_eq_true rfl) rfl ?_
  refine j_aload_n d_Spaces_findGreatest_39 rfl ?_
  refine j_aload_n d_Spaces_findGreatest_40 rfl ?_
  refine j_getr (b := 65) d_Spaces_findGreatest_41 jf_Spaces_10 rfl rfl rfl (by decide) ?_
  refine j_callVn (As := [.ref 65]) (st := []) (x_multiplyBy hr isT_65 (by omega) rep_sT (tw_mul (tw_tr hT) (tw_co hT)) (rep_o hr isT_65 (by omega) (rep_o hr isT_65 (by omega) (rep_o isT_69 isT_65 (by decide) (rep_o isT_69 isT_65 (by decide) rep_sT)))) (tw_tr hT) rfl) d_Spaces_findGreatest_44 (by decide) jm_Table_multiplyBy jk_Spaces_65 ji_Table_multiplyBy js_Table_multiplyBy hr.1 (by decide) rfl rfl (Nat.le_of_ble_eq_true rfl) rfl ?_
  refine j_aload_n d_Spaces_findGreatest_47 rfl ?_
  refine j_callVn (As := []) (st := []) (x_negate hr rep_sT (tw_mul (tw_mul (tw_tr hT) (tw_co hT)) (tw_tr hT))) d_Spaces_findGreatest_48 (by decide) jm_Table_negate jk_Spaces_62 ji_Table_negate js_Table_negate hr.1 (by decide) rfl rfl (Nat.le_of_ble_eq_true rfl) rfl ?_
  subst hres
  exact j_retv d_Spaces_findGreatest_51 rfl
theorem fgH_f {h : jH} {o r a : Nat} {T : jT} (h1 : a < 64 ∨ 70 < a) (h2 : a ≠ r) (h3 : a ≠ r + 1) : fgH h o r T a = h a := by
  rw [fgH, sT_f h2 h3, sT_f h2 h3, sT_f h2 h3, sT_f h2 h3, sT_f (by omega) (by omega), sT_f (by omega) (by omega), sT_f (by omega) (by omega)]
theorem fgH_r {h : jH} {o r : Nat} {T : jT} : rep (fgH h o r T) r (tgr T) := rep_sT
theorem x_isRegular {n : jN} {h : jH} {o : Nat} (ho : isT o) {T : jT} (hr1 : rep h o T) (hT : tw T) (hfo : o < 46 ∨ 75 < o) : jC n 4 jy_Spaces_isRegular jc_Spaces_isRegular 2 (some .boolean) [.ref 64, .ref o] h (some (.int (jbo (tlik (tmul (tmul T (tgr T)) T) T)))) (sT (sT (sT (fgH h o 71 T) 73 T) 73 (tmul T (tgr T))) 73 (tmul (tmul T (tgr T)) T)) := by
  have hn12 := hT.1
  refine jC_of jm_Spaces_isRegular (L := [some (.ref 64), some (.ref o)]) (Nat.le_of_ble_eq_true rfl) rfl (jbo01 _) ?_
  generalize hres : (((some (.int (jbo (tlik (tmul (tmul T (tgr T)) T) T)))), sT (sT (sT (fgH h o 71 T) 73 T) 73 (tmul T (tgr T))) 73 (tmul (tmul T (tgr T)) T)) : Option Value × jH) = res
  have hr2 : rep (fgH h o 71 T) o T := rep_of (fgH_f (by omega) (by omega) (by omega)) (fgH_f (by omega) (by omega) (by omega)) hr1
  refine j_aload_n d_Spaces_isRegular_0 rfl ?_
  refine j_aload_n d_Spaces_isRegular_1 rfl ?_
  refine j_aload_n d_Spaces_isRegular_2 rfl ?_
  refine j_getr (b := 71) d_Spaces_isRegular_3 jf_Spaces_22 rfl rfl rfl (by decide) ?_
  refine j_callVn (As := [.ref o, .ref 71]) (st := []) (x_findGreatest ho isT_71 hr1 hT hfo (Or.inl rfl) (by omega)) d_Spaces_isRegular_6 (by decide) jm_Spaces_findGreatest jk_Spaces_68 ji_Spaces_findGreatest js_Spaces_findGreatest rfl (by decide) rfl rfl (Nat.le_of_ble_eq_true rfl) rfl ?_
  refine j_aload_n d_Spaces_isRegular_9 rfl ?_
  refine j_getr (b := 73) d_Spaces_isRegular_10 jf_Spaces_25 rfl rfl rfl (by decide) ?_
  refine j_aload_n d_Spaces_isRegular_13 rfl ?_
  refine j_callVn (As := [.ref o]) (st := []) (x_become isT_73 ho (by omega) hr2 hT) d_Spaces_isRegular_14 (by decide) jm_Table_become jk_Spaces_51 ji_Table_become js_Table_become rfl (by decide) rfl rfl (Nat.le_of_ble_eq_true rfl) rfl ?_
  refine j_aload_n d_Spaces_isRegular_17 rfl ?_
  refine j_getr (b := 73) d_Spaces_isRegular_18 jf_Spaces_25 rfl rfl rfl (by decide) ?_
  refine j_aload_n d_Spaces_isRegular_21 rfl ?_
  refine j_getr (b := 71) d_Spaces_isRegular_22 jf_Spaces_22 rfl rfl rfl (by decide) ?_
  refine j_callVn (As := [.ref 71]) (st := []) (x_multiplyBy isT_73 isT_71 (by decide) rep_sT hT (rep_o isT_73 isT_71 (by decide) fgH_r) (tw_gr hT) rfl) d_Spaces_isRegular_25 (by decide) jm_Table_multiplyBy jk_Spaces_65 ji_Table_multiplyBy js_Table_multiplyBy rfl (by decide) rfl rfl (Nat.le_of_ble_eq_true rfl) rfl ?_
  refine j_aload_n d_Spaces_isRegular_28 rfl ?_
  refine j_getr (b := 73) d_Spaces_isRegular_29 jf_Spaces_25 rfl rfl rfl (by decide) ?_
  refine j_aload_n d_Spaces_isRegular_32 rfl ?_
  refine j_callVn (As := [.ref o]) (st := []) (x_multiplyBy isT_73 ho (by omega) rep_sT (tw_mul hT (tw_gr hT)) (rep_o isT_73 ho (by omega) (rep_o isT_73 ho (by omega) hr2)) hT rfl) d_Spaces_isRegular_33 (by decide) jm_Table_multiplyBy jk_Spaces_65 ji_Table_multiplyBy js_Table_multiplyBy rfl (by decide) rfl rfl (Nat.le_of_ble_eq_true rfl) rfl ?_
  refine j_aload_n d_Spaces_isRegular_36 rfl ?_
  refine j_getr (b := 73) d_Spaces_isRegular_37 jf_Spaces_25 rfl rfl rfl (by decide) ?_
  refine j_aload_n d_Spaces_isRegular_40 rfl ?_
  refine j_callVs (As := [.ref o]) (st := []) (x_isLike isT_73 ho rep_sT (tw_mul (tw_mul hT (tw_gr hT)) hT) (rep_o isT_73 ho (by omega) (rep_o isT_73 ho (by omega) (rep_o isT_73 ho (by omega) hr2))) hT) d_Spaces_isRegular_41 (by decide) jm_Table_isLike jk_Spaces_72 ji_Table_isLike js_Table_isLike rfl (by decide) rfl rfl (Nat.le_of_ble_eq_true rfl) rfl ?_
  subst hres
  exact j_reti d_Spaces_isRegular_44 rfl rfl

def jeq (f g : Nat → Nat) (k : Nat) : Bool := jall k (fun i => f i == g i)
def jPw (h : jH) (T : jT) (k x : Nat) : jH := fun a => if a = 142 then fun z => if 12 ≤ z ∧ z < k then nI ((tpo T (z / 12 - 1)).2 (z % 12)) else h 142 z else if a = 135 then fun z => if z = 11 then nI x else h 135 z else h a
theorem jPw_x {h : jH} {T : jT} {k x v : Nat} {P : jP} : jup2 (jM (jPw h T k x) P) 135 11 (nI v) = jM (jPw h T k v) P := by
  rw [jM_set_other (by decide) (by decide)]
  congr 1
  funext a z
  simp only [jup2, jPw]
  by_cases e : a = 135
  · subst e
    by_cases e2 : z = 11 <;> simp [e2]
  · simp [e]
theorem jPw_0 {h : jH} {T : jT} {P : jP} : jM (jup2 h 135 11 (nI 0)) P = jM (jPw h T 12 0) P := by
  congr 1
  funext a z
  simp only [jup2, jPw]
  by_cases e : a = 135
  · subst e
    simp
  · by_cases e2 : a = 142
    · subst e2
      have : ¬ (12 ≤ z ∧ z < 12) := by omega
      simp [this]
    · simp [e, e2]
theorem jPw_s {h : jH} {T : jT} {k i x : Nat} {P : jP} (hk : 1 ≤ k) (hi : i < 12) : jup2 (jM (jPw h T (12 * k + i) x) P) 142 (12 * k + i) (nI ((tpo T (k - 1)).2 i)) = jM (jPw h T (12 * k + (i + 1)) x) P := by
  rw [jM_set_other (by decide) (by decide)]
  congr 1
  funext a z
  simp only [jup2, jPw]
  by_cases e : a = 142
  · subst e
    by_cases e2 : z = 12 * k + i
    · subst e2
      have h1 : (12 * k + i) / 12 = k := by omega
      have h2 : (12 * k + i) % 12 = i := by omega
      have h3 : 12 ≤ 12 * k + i ∧ 12 * k + i < 12 * k + (i + 1) := by omega
      simp [h1, h2, h3]
    · by_cases e3 : 12 ≤ z ∧ z < 12 * k + i
      · have : 12 ≤ z ∧ z < 12 * k + (i + 1) := by omega
        simp [e2, e3, this]
      · have : ¬ (12 ≤ z ∧ z < 12 * k + (i + 1)) := by omega
        simp [e2, e3, this]
  · simp [e]
theorem jPw_r {h : jH} {T : jT} {k m i x : Nat} {P : jP} (hm : 1 ≤ m) (hk : m < k) (hi : i < 12) : jM (jPw h T (12 * k) x) P 142 (12 * m + i) = nI ((tpo T (m - 1)).2 i) := by
  have h1 : (12 * m + i) / 12 = m := by omega
  have h2 : (12 * m + i) % 12 = i := by omega
  have h3 : 12 ≤ 12 * m + i ∧ 12 * m + i < 12 * k := by omega
  simp [jM, jPw, h1, h2, h3]
theorem c_isPower {n : jN} {h : jH} {P : jP} {m p : Nat} {r : Nat → Nat} (hw : ∀ q, tw (P q)) (hm : m ≤ 300) (hp : p < 38) (hr : ∀ i, i < 12 → h 142 (12 * m + i) = nI (r i)) (hr2 : ∀ i, i < 12 → r i < 2 ^ 31) : jC n 1 jy_Model_isPower jc_Model_isPower 5 (some .boolean) [.ref 135, .int (nI m), .int (nI p)] (jM h P) (some (.int (jbo (jeq r (P p).2 12)))) (jM h P) := by
  refine jC_of jm_Model_isPower (L := [some (.ref 135), some (.int (nI m)), some (.int (nI p)), none, none]) (Nat.le_of_ble_eq_true rfl) rfl (jbo01 _) ?_
  generalize hres : (((some (.int (jbo (jeq r (P p).2 12)))), jM h P) : Option Value × jH) = res
  have hb0 := (hw p).2.1
  refine j_iconst (v := nI 1) d_Model_isPower_0 rfl ?_
  refine j_istore_n (L' := [some (.ref 135), some (.int (nI m)), some (.int (nI p)), some (.int (nI 1)), none]) d_Model_isPower_1 (by decide) rfl rfl ?_
  refine j_iconst (v := nI 0) d_Model_isPower_2 rfl ?_
  refine j_istore (L' := [some (.ref 135), some (.int (nI m)), some (.int (nI p)), some (.int (nI 1)), some (.int (nI 0))]) d_Model_isPower_3 (by decide) rfl rfl ?_
  refine j_locs (L' := [some (.ref 135), some (.int (nI m)), some (.int (nI p)), some (.int (jbo (jeq r (P p).2 0))), some (.int (nI 0))]) rfl ?_
  refine j_loop (P := fun k => jJ n 1 jc_Model_isPower 5 "YesNoPowersModel" 5 [some (.ref 135), some (.int (nI m)), some (.int (nI p)), some (.int (jbo (jeq r (P p).2 k))), some (.int (nI k))] [] (jM h P) res) (m := 12) ?_ (fun k hk ih => ?_)
  · refine j_iload d_Model_isPower_5 rfl ?_
    refine j_bipush (v := nI 12) d_Model_isPower_7 (by decide) ?_
    refine j_icmp_geN_t (tgt := 50) d_Model_isPower_9 (by decide) (by omega) (by omega) (Nat.le_refl _) ?_
    refine j_iload_n d_Model_isPower_50 rfl ?_
    subst hres
    exact j_reti d_Model_isPower_51 rfl rfl
  · refine j_iload d_Model_isPower_5 rfl ?_
    refine j_bipush (v := nI 12) d_Model_isPower_7 (by decide) ?_
    refine j_icmp_geN_f (tgt := 50) d_Model_isPower_9 (by decide) (by omega) (by omega) (Nat.not_le.mpr hk) ?_
    refine j_iload_n d_Model_isPower_12 rfl ?_
    refine j_if_eqB (tgt := 42) d_Model_isPower_13 (by decide) (fun c => ?_) (fun c => ?_)
    · refine j_iconst (v := nI 0) d_Model_isPower_42 rfl ?_
      refine j_top (w := jbo (jeq r (P p).2 (k + 1))) (by rw [show jeq r (P p).2 (k + 1) = false from by simp_all [jeq, jall]]; rfl) ?_
      refine j_istore_n (L' := [some (.ref 135), some (.int (nI m)), some (.int (nI p)), some (.int (jbo (jeq r (P p).2 (k + 1)))), some (.int (nI k))]) d_Model_isPower_43 (by decide) rfl rfl ?_
      refine j_iincN (x := k) (L' := [some (.ref 135), some (.int (nI m)), some (.int (nI p)), some (.int (jbo (jeq r (P p).2 (k + 1)))), some (.int (nI (k + 1)))]) d_Model_isPower_44 rfl (by decide) rfl rfl ?_
      refine j_goto (tgt := 5) d_Model_isPower_47 (by decide) ?_
      exact ih
    · refine j_aload_n d_Model_isPower_16 rfl ?_
      refine j_getr (b := 142) d_Model_isPower_17 jf_Model_28 rfl rfl rfl (by decide) ?_
      refine j_bipush (v := nI 12) d_Model_isPower_20 (by decide) ?_
      refine j_iload_n d_Model_isPower_22 rfl ?_
      refine j_imulN d_Model_isPower_23 ?_
      refine j_iload d_Model_isPower_24 rfl ?_
      refine j_iaddN d_Model_isPower_26 ?_
      refine j_ialdN (v := nI (r k)) d_Model_isPower_27 rfl (by omega) (by decide) (hr _ (by omega)) ?_
      refine j_aload_n d_Model_isPower_28 rfl ?_
      refine j_iload_n d_Model_isPower_29 rfl ?_
      refine j_iload d_Model_isPower_30 rfl ?_
      refine j_callVs (As := [.int (nI p), .int (nI k)]) (st := [.int (nI (r k))]) (c_row (by omega) (by omega)) d_Model_isPower_32 (by decide) jm_Model_row jk_Model_71 ji_Model_row js_Model_row rfl (by decide) rfl rfl (Nat.le_of_ble_eq_true rfl) rfl ?_
      have hbk := hb0 k
      have hrk := hr2 k hk
      refine j_icmp_neN (tgt := 42) d_Model_isPower_35 (by decide) (by omega) (by omega) (fun c2 => ?_) (fun c2 => ?_)
      · refine j_iconst (v := nI 0) d_Model_isPower_42 rfl ?_
        refine j_top (w := jbo (jeq r (P p).2 (k + 1))) (by rw [show jeq r (P p).2 (k + 1) = false from by simp_all [jeq, jall]]; rfl) ?_
        refine j_istore_n (L' := [some (.ref 135), some (.int (nI m)), some (.int (nI p)), some (.int (jbo (jeq r (P p).2 (k + 1)))), some (.int (nI k))]) d_Model_isPower_43 (by decide) rfl rfl ?_
        refine j_iincN (x := k) (L' := [some (.ref 135), some (.int (nI m)), some (.int (nI p)), some (.int (jbo (jeq r (P p).2 (k + 1)))), some (.int (nI (k + 1)))]) d_Model_isPower_44 rfl (by decide) rfl rfl ?_
        refine j_goto (tgt := 5) d_Model_isPower_47 (by decide) ?_
        exact ih
      · refine j_iconst (v := nI 1) d_Model_isPower_38 rfl ?_
        refine j_goto (tgt := 43) d_Model_isPower_39 (by decide) ?_
        refine j_top (w := jbo (jeq r (P p).2 (k + 1))) (by rw [show jeq r (P p).2 (k + 1) = true from by simp_all [jeq, jall]]; rfl) ?_
        refine j_istore_n (L' := [some (.ref 135), some (.int (nI m)), some (.int (nI p)), some (.int (jbo (jeq r (P p).2 (k + 1)))), some (.int (nI k))]) d_Model_isPower_43 (by decide) rfl rfl ?_
        refine j_iincN (x := k) (L' := [some (.ref 135), some (.int (nI m)), some (.int (nI p)), some (.int (jbo (jeq r (P p).2 (k + 1)))), some (.int (nI (k + 1)))]) d_Model_isPower_44 rfl (by decide) rfl rfl ?_
        refine j_goto (tgt := 5) d_Model_isPower_47 (by decide) ?_
        exact ih
def lyP (P : jP) (T : jT) (k : Nat) : jP := jset (jset P 34 (tpo T (k - 1))) 35 (if k = 1 then P 35 else tpo T (k - 1))
theorem lyP_w {P : jP} {T : jT} (hw : ∀ q, tw (P q)) (hT : tw T) (k : Nat) : ∀ q, tw (lyP P T k q) := by
  refine tws (tws hw (tw_po hT _)) ?_
  split
  · exact hw 35
  · exact tw_po hT _
theorem lyP_34 {P : jP} {T : jT} {k : Nat} : lyP P T k 34 = tpo T (k - 1) := by rw [lyP, jset_ne (by omega), jset_eq]
theorem lyP_o {P : jP} {T : jT} {k q : Nat} (h1 : q ≠ 34) (h2 : q ≠ 35) : lyP P T k q = P q := by rw [lyP, jset_ne h2, jset_ne h1]
theorem lyP_s {P : jP} {T : jT} {k a : Nat} (hk : 1 ≤ k) (ha : a < 34) (hT : P a = T) : ∀ q, jset (jset (lyP P T k) 35 (tmul (lyP P T k 34) (lyP P T k a))) 34 (jset (lyP P T k) 35 (tmul (lyP P T k 34) (lyP P T k a)) 35) q = lyP P T (k + 1) q := by
  intro q
  obtain ⟨j, rfl⟩ : ∃ j, k = j + 1 := ⟨k - 1, by omega⟩
  rw [lyP_34, lyP_o (by omega) (by omega), hT, jset_eq]
  have e : tmul (tpo T (j + 1 - 1)) T = tpo T (j + 1 + 1 - 1) := rfl
  rw [e]
  simp only [lyP, jset]
  repeat' split
  all_goals first | rfl | omega
theorem lyP_1 {P : jP} {T : jT} : ∀ q, jset P 34 T q = lyP P T 1 q := by
  intro q
  simp only [lyP, jset, tpo, if_true]
  repeat' split
  all_goals first | rfl | omega | (subst_vars; rfl)
theorem c_layPowers {n : jN} {h : jH} {P : jP} {a ix pr : Nat} {T : jT} (hw : ∀ q, tw (P q)) (ha : a < 6) (hT : P a = T) (h1 : 1 ≤ ix) (h2 : 1 ≤ pr) (hb : ix + pr ≤ 300) (hd : ∀ i j, 1 ≤ i → i < j → j < ix + pr → jeq (tpo T (i - 1)).2 (tpo T (j - 1)).2 12 = false) (hd2 : ∀ i, 1 ≤ i → i < ix → jeq (tpo T (i - 1)).2 (tpo T (ix + pr - 1)).2 12 = false) (he : jeq (tpo T (ix - 1)).2 (tpo T (ix + pr - 1)).2 12 = true) : jC n 2 jy_Model_layPowers jc_Model_layPowers 4 none [.ref 135, .int (nI a)] (jM h P) none (jM (jup2 (jPw h T (12 * (ix + pr)) ix) 135 12 (nI pr)) (lyP P T (ix + pr))) := by
  refine jC_of jm_Model_layPowers (L := [some (.ref 135), some (.int (nI a)), none, none]) (Nat.le_of_ble_eq_true rfl) rfl trivial ?_
  generalize hres : ((none, jM (jup2 (jPw h T (12 * (ix + pr)) ix) 135 12 (nI pr)) (lyP P T (ix + pr))) : Option Value × jH) = res
  have hTw : tw T := hT ▸ hw a
  refine j_aload_n d_Model_layPowers_0 rfl ?_
  refine j_iload_n d_Model_layPowers_1 rfl ?_
  refine j_bipush (v := nI 34) d_Model_layPowers_2 (by decide) ?_
  refine j_callVn (As := [.int (nI a), .int (nI 34)]) (st := []) (c_copyTo (by omega) (by omega) (by omega)) d_Model_layPowers_4 (by decide) jm_Model_copyTo jk_Model_85 ji_Model_copyTo js_Model_copyTo rfl (by decide) rfl rfl (Nat.le_of_ble_eq_true rfl) rfl ?_
  refine j_aload_n d_Model_layPowers_7 rfl ?_
  refine j_iconst (v := nI 0) d_Model_layPowers_8 rfl ?_
  refine j_putv (h' := jM (jup2 h 135 11 (nI 0)) (jset P 34 (P a))) d_Model_layPowers_9 jf_Model_147 rfl rfl (jM_set_other (by decide) (by decide)) ?_
  refine j_iconst (v := nI 1) d_Model_layPowers_12 rfl ?_
  refine j_istore_n (L' := [some (.ref 135), some (.int (nI a)), some (.int (nI 1)), none]) d_Model_layPowers_13 (by decide) rfl rfl ?_
  refine j_heap (h' := jM (jPw h T (12 * (0 + 1)) 0) (lyP P T (0 + 1))) ((jM_P (by rw [hT]; exact lyP_1)).trans jPw_0) ?_
  refine j_loop (P := fun k => jJ n 2 jc_Model_layPowers 4 "YesNoPowersModel" 14 [some (.ref 135), some (.int (nI a)), some (.int (nI (k + 1))), none] [] (jM (jPw h T (12 * (k + 1)) 0) (lyP P T (k + 1))) res) (m := ix + pr - 1) ?_ (fun k hk ih => ?_)
  · rw [show ix + pr - 1 + 1 = ix + pr from by omega]
    refine j_aload_n d_Model_layPowers_14 rfl ?_
    refine j_getv (v := nI 0) d_Model_layPowers_15 jf_Model_147 rfl rfl rfl ?_
    refine j_if_neN_f (tgt := 129) d_Model_layPowers_18 (by decide) (by omega) rfl ?_
    refine j_iload_n d_Model_layPowers_21 rfl ?_
    refine j_sipush (v := nI 300) d_Model_layPowers_22 (by decide) ?_
    refine j_icmp_gtN_f (tgt := 129) d_Model_layPowers_25 (by decide) (by omega) (by omega) (by omega) ?_
    refine j_iconst (v := nI 1) d_Model_layPowers_28 rfl ?_
    refine j_istore_n (L' := [some (.ref 135), some (.int (nI a)), some (.int (nI (ix + pr))), some (.int (nI 1))]) d_Model_layPowers_29 (by decide) rfl rfl ?_
    refine j_loop (P := fun m => jJ n 2 jc_Model_layPowers 4 "YesNoPowersModel" 30 [some (.ref 135), some (.int (nI a)), some (.int (nI (ix + pr))), some (.int (nI (m + 1)))] [] (jM (jPw h T (12 * (ix + pr)) 0) (lyP P T (ix + pr))) res) (m := ix - 1) ?_ (fun m hm ih2 => ?_)
    · rw [show ix - 1 + 1 = ix from by omega]
      refine j_iload_n d_Model_layPowers_30 rfl ?_
      refine j_iload_n d_Model_layPowers_31 rfl ?_
      refine j_icmp_geN_f (tgt := 67) d_Model_layPowers_32 (by decide) (by omega) (by omega) (by omega) ?_
      refine j_aload_n d_Model_layPowers_35 rfl ?_
      refine j_getv (v := nI 0) d_Model_layPowers_36 jf_Model_147 rfl rfl rfl ?_
      refine j_if_neN_f (tgt := 67) d_Model_layPowers_39 (by decide) (by omega) rfl ?_
      refine j_aload_n d_Model_layPowers_42 rfl ?_
      refine j_aload_n d_Model_layPowers_43 rfl ?_
      refine j_iload_n d_Model_layPowers_44 rfl ?_
      refine j_bipush (v := nI 34) d_Model_layPowers_45 (by decide) ?_
      refine j_callVs (As := [.int (nI ix), .int (nI 34)]) (st := [.ref 135]) (c_isPower (r := (tpo T (ix - 1)).2) (lyP_w hw hTw (ix + pr)) (by omega) (by omega) (fun i hi => jPw_r (x := 0) (P := lyP P T (ix + pr)) (by omega) (by omega) hi) (fun i _ => tw_lt (tw_po hTw _) i)) d_Model_layPowers_47 (by decide) jm_Model_isPower jk_Model_150 ji_Model_isPower js_Model_isPower rfl (by decide) rfl rfl (Nat.le_of_ble_eq_true rfl) rfl ?_
      refine j_if_eqB_f (tgt := 57) d_Model_layPowers_50 (by decide) (by rw [lyP_34]; exact he) ?_
      refine j_iload_n d_Model_layPowers_53 rfl ?_
      refine j_goto (tgt := 58) d_Model_layPowers_54 (by decide) ?_
      refine j_putv (h' := jM (jPw h T (12 * (ix + pr)) ix) (lyP P T (ix + pr))) d_Model_layPowers_58 jf_Model_147 rfl rfl jPw_x ?_
      refine j_iincN (x := ix) (L' := [some (.ref 135), some (.int (nI a)), some (.int (nI (ix + pr))), some (.int (nI (ix + 1)))]) d_Model_layPowers_61 rfl (by decide) rfl rfl ?_
      refine j_goto (tgt := 30) d_Model_layPowers_64 (by decide) ?_
      refine j_iload_n d_Model_layPowers_30 rfl ?_
      refine j_iload_n d_Model_layPowers_31 rfl ?_
      refine j_icmp_geN (tgt := 67) d_Model_layPowers_32 (by decide) (by omega) (by omega) (fun e32 => ?_) (fun e32 => ?_)
      · refine j_aload_n d_Model_layPowers_67 rfl ?_
        refine j_getv (v := nI ix) d_Model_layPowers_68 jf_Model_147 rfl rfl rfl ?_
        refine j_if_neN_t (tgt := 14) d_Model_layPowers_71 (by decide) (by omega) (by omega) ?_
        refine j_aload_n d_Model_layPowers_14 rfl ?_
        refine j_getv (v := nI ix) d_Model_layPowers_15 jf_Model_147 rfl rfl rfl ?_
        refine j_if_neN_t (tgt := 129) d_Model_layPowers_18 (by decide) (by omega) (by omega) ?_
        refine j_aload_n d_Model_layPowers_129 rfl ?_
        refine j_iload_n d_Model_layPowers_130 rfl ?_
        refine j_aload_n d_Model_layPowers_131 rfl ?_
        refine j_getv (v := nI ix) d_Model_layPowers_132 jf_Model_147 rfl rfl rfl ?_
        refine j_isubN d_Model_layPowers_135 (by omega) ?_
        refine j_putv (h' := jM (jup2 (jPw h T (12 * (ix + pr)) ix) 135 12 (nI ((ix + pr) - ix))) (lyP P T (ix + pr))) d_Model_layPowers_136 jf_Model_153 rfl rfl (jM_set_other (by decide) (by decide)) ?_
        subst hres
        exact j_retv d_Model_layPowers_139 (by rw [show ix + pr - ix = pr from by omega])
      · refine j_aload_n d_Model_layPowers_35 rfl ?_
        refine j_getv (v := nI ix) d_Model_layPowers_36 jf_Model_147 rfl rfl rfl ?_
        refine j_if_neN_t (tgt := 67) d_Model_layPowers_39 (by decide) (by omega) (by omega) ?_
        refine j_aload_n d_Model_layPowers_67 rfl ?_
        refine j_getv (v := nI ix) d_Model_layPowers_68 jf_Model_147 rfl rfl rfl ?_
        refine j_if_neN_t (tgt := 14) d_Model_layPowers_71 (by decide) (by omega) (by omega) ?_
        refine j_aload_n d_Model_layPowers_14 rfl ?_
        refine j_getv (v := nI ix) d_Model_layPowers_15 jf_Model_147 rfl rfl rfl ?_
        refine j_if_neN_t (tgt := 129) d_Model_layPowers_18 (by decide) (by omega) (by omega) ?_
        refine j_aload_n d_Model_layPowers_129 rfl ?_
        refine j_iload_n d_Model_layPowers_130 rfl ?_
        refine j_aload_n d_Model_layPowers_131 rfl ?_
        refine j_getv (v := nI ix) d_Model_layPowers_132 jf_Model_147 rfl rfl rfl ?_
        refine j_isubN d_Model_layPowers_135 (by omega) ?_
        refine j_putv (h' := jM (jup2 (jPw h T (12 * (ix + pr)) ix) 135 12 (nI ((ix + pr) - ix))) (lyP P T (ix + pr))) d_Model_layPowers_136 jf_Model_153 rfl rfl (jM_set_other (by decide) (by decide)) ?_
        subst hres
        exact j_retv d_Model_layPowers_139 (by rw [show ix + pr - ix = pr from by omega])
    · refine j_iload_n d_Model_layPowers_30 rfl ?_
      refine j_iload_n d_Model_layPowers_31 rfl ?_
      refine j_icmp_geN_f (tgt := 67) d_Model_layPowers_32 (by decide) (by omega) (by omega) (by omega) ?_
      refine j_aload_n d_Model_layPowers_35 rfl ?_
      refine j_getv (v := nI 0) d_Model_layPowers_36 jf_Model_147 rfl rfl rfl ?_
      refine j_if_neN_f (tgt := 67) d_Model_layPowers_39 (by decide) (by omega) rfl ?_
      refine j_aload_n d_Model_layPowers_42 rfl ?_
      refine j_aload_n d_Model_layPowers_43 rfl ?_
      refine j_iload_n d_Model_layPowers_44 rfl ?_
      refine j_bipush (v := nI 34) d_Model_layPowers_45 (by decide) ?_
      refine j_callVs (As := [.int (nI (m + 1)), .int (nI 34)]) (st := [.ref 135]) (c_isPower (r := (tpo T ((m + 1) - 1)).2) (lyP_w hw hTw (ix + pr)) (by omega) (by omega) (fun i hi => jPw_r (x := 0) (P := lyP P T (ix + pr)) (by omega) (by omega) hi) (fun i _ => tw_lt (tw_po hTw _) i)) d_Model_layPowers_47 (by decide) jm_Model_isPower jk_Model_150 ji_Model_isPower js_Model_isPower rfl (by decide) rfl rfl (Nat.le_of_ble_eq_true rfl) rfl ?_
      refine j_if_eqB_t (tgt := 57) d_Model_layPowers_50 (by decide) (by rw [lyP_34]; exact hd2 _ (by omega) (by omega)) ?_
      refine j_iconst (v := nI 0) d_Model_layPowers_57 rfl ?_
      refine j_putv (h' := jM (jPw h T (12 * (ix + pr)) 0) (lyP P T (ix + pr))) d_Model_layPowers_58 jf_Model_147 rfl rfl jPw_x ?_
      refine j_iincN (x := (m + 1)) (L' := [some (.ref 135), some (.int (nI a)), some (.int (nI (ix + pr))), some (.int (nI ((m + 1) + 1)))]) d_Model_layPowers_61 rfl (by decide) rfl rfl ?_
      refine j_goto (tgt := 30) d_Model_layPowers_64 (by decide) ?_
      exact ih2
  · refine j_aload_n d_Model_layPowers_14 rfl ?_
    refine j_getv (v := nI 0) d_Model_layPowers_15 jf_Model_147 rfl rfl rfl ?_
    refine j_if_neN_f (tgt := 129) d_Model_layPowers_18 (by decide) (by omega) rfl ?_
    refine j_iload_n d_Model_layPowers_21 rfl ?_
    refine j_sipush (v := nI 300) d_Model_layPowers_22 (by decide) ?_
    refine j_icmp_gtN_f (tgt := 129) d_Model_layPowers_25 (by decide) (by omega) (by omega) (by omega) ?_
    refine j_iconst (v := nI 1) d_Model_layPowers_28 rfl ?_
    refine j_istore_n (L' := [some (.ref 135), some (.int (nI a)), some (.int (nI (k + 1))), some (.int (nI 1))]) d_Model_layPowers_29 (by decide) rfl rfl ?_
    refine j_loop (P := fun m => jJ n 2 jc_Model_layPowers 4 "YesNoPowersModel" 30 [some (.ref 135), some (.int (nI a)), some (.int (nI (k + 1))), some (.int (nI (m + 1)))] [] (jM (jPw h T (12 * (k + 1)) 0) (lyP P T (k + 1))) res) (m := k) ?_ (fun m hm ih2 => ?_)
    · refine j_iload_n d_Model_layPowers_30 rfl ?_
      refine j_iload_n d_Model_layPowers_31 rfl ?_
      refine j_icmp_geN_t (tgt := 67) d_Model_layPowers_32 (by decide) (by omega) (by omega) (by omega) ?_
      refine j_aload_n d_Model_layPowers_67 rfl ?_
      refine j_getv (v := nI 0) d_Model_layPowers_68 jf_Model_147 rfl rfl rfl ?_
      refine j_if_neN_f (tgt := 14) d_Model_layPowers_71 (by decide) (by omega) rfl ?_
      refine j_iconst (v := nI 0) d_Model_layPowers_74 rfl ?_
      refine j_istore_n (L' := [some (.ref 135), some (.int (nI a)), some (.int (nI (k + 1))), some (.int (nI 0))]) d_Model_layPowers_75 (by decide) rfl rfl ?_
      refine j_loop (P := fun i => jJ n 2 jc_Model_layPowers 4 "YesNoPowersModel" 76 [some (.ref 135), some (.int (nI a)), some (.int (nI (k + 1))), some (.int (nI i))] [] (jM (jPw h T (12 * (k + 1) + i) 0) (lyP P T (k + 1))) res) (m := 12) ?_ (fun i hi ih3 => ?_)
      · refine j_iload_n d_Model_layPowers_76 rfl ?_
        refine j_bipush (v := nI 12) d_Model_layPowers_77 (by decide) ?_
        refine j_icmp_geN_t (tgt := 106) d_Model_layPowers_79 (by decide) (by omega) (by omega) (by omega) ?_
        refine j_aload_n d_Model_layPowers_106 rfl ?_
        refine j_bipush (v := nI 34) d_Model_layPowers_107 (by decide) ?_
        refine j_iload_n d_Model_layPowers_109 rfl ?_
        refine j_bipush (v := nI 35) d_Model_layPowers_110 (by decide) ?_
        refine j_callVn (As := [.int (nI 34), .int (nI a), .int (nI 35)]) (st := []) (c_multiply (by omega) (by omega) (by omega) (by omega) (by omega) (lyP_w hw hTw (k + 1))) d_Model_layPowers_112 (by decide) jm_Model_multiply jk_Model_88 ji_Model_multiply js_Model_multiply rfl (by decide) rfl rfl (Nat.le_of_ble_eq_true rfl) rfl ?_
        refine j_aload_n d_Model_layPowers_115 rfl ?_
        refine j_bipush (v := nI 35) d_Model_layPowers_116 (by decide) ?_
        refine j_bipush (v := nI 34) d_Model_layPowers_118 (by decide) ?_
        refine j_callVn (As := [.int (nI 35), .int (nI 34)]) (st := []) (c_copyTo (by omega) (by omega) (by omega)) d_Model_layPowers_120 (by decide) jm_Model_copyTo jk_Model_85 ji_Model_copyTo js_Model_copyTo rfl (by decide) rfl rfl (Nat.le_of_ble_eq_true rfl) rfl ?_
        refine j_iincN (x := (k + 1)) (L' := [some (.ref 135), some (.int (nI a)), some (.int (nI ((k + 1) + 1))), some (.int (nI 12))]) d_Model_layPowers_123 rfl (by decide) rfl rfl ?_
        refine j_goto (tgt := 14) d_Model_layPowers_126 (by decide) ?_
        refine j_heap (h' := jM (jPw h T (12 * (k + 1 + 1)) 0) (lyP P T (k + 1 + 1))) (jM_P (lyP_s (by omega) (by omega) hT)) ?_
        exact j_forget (i := 3) rfl ih
      · refine j_iload_n d_Model_layPowers_76 rfl ?_
        refine j_bipush (v := nI 12) d_Model_layPowers_77 (by decide) ?_
        refine j_icmp_geN_f (tgt := 106) d_Model_layPowers_79 (by decide) (by omega) (by omega) (by omega) ?_
        refine j_aload_n d_Model_layPowers_82 rfl ?_
        refine j_getr (b := 142) d_Model_layPowers_83 jf_Model_28 rfl rfl rfl (by decide) ?_
        refine j_bipush (v := nI 12) d_Model_layPowers_86 (by decide) ?_
        refine j_iload_n d_Model_layPowers_88 rfl ?_
        refine j_imulN d_Model_layPowers_89 ?_
        refine j_iload_n d_Model_layPowers_90 rfl ?_
        refine j_iaddN d_Model_layPowers_91 ?_
        refine j_aload_n d_Model_layPowers_92 rfl ?_
        refine j_bipush (v := nI 34) d_Model_layPowers_93 (by decide) ?_
        refine j_iload_n d_Model_layPowers_95 rfl ?_
        refine j_callVs (As := [.int (nI 34), .int (nI i)]) (st := [.int (nI ((12 * (k + 1)) + i)), .ref 142]) (c_row (by omega) (by omega)) d_Model_layPowers_96 (by decide) jm_Model_row jk_Model_71 ji_Model_row js_Model_row rfl (by decide) rfl rfl (Nat.le_of_ble_eq_true rfl) rfl ?_
        refine j_top (w := nI ((tpo T (k + 1 - 1)).2 i)) (by rw [lyP_34]) ?_
        refine j_iastN (h' := jM (jPw h T (12 * (k + 1) + (i + 1)) 0) (lyP P T (k + 1))) d_Model_layPowers_99 rfl (by omega) (by decide) (jPw_s (by omega) hi) ?_
        refine j_iincN (x := i) (L' := [some (.ref 135), some (.int (nI a)), some (.int (nI (k + 1))), some (.int (nI (i + 1)))]) d_Model_layPowers_100 rfl (by decide) rfl rfl ?_
        refine j_goto (tgt := 76) d_Model_layPowers_103 (by decide) ?_
        exact ih3
    · refine j_iload_n d_Model_layPowers_30 rfl ?_
      refine j_iload_n d_Model_layPowers_31 rfl ?_
      refine j_icmp_geN_f (tgt := 67) d_Model_layPowers_32 (by decide) (by omega) (by omega) (by omega) ?_
      refine j_aload_n d_Model_layPowers_35 rfl ?_
      refine j_getv (v := nI 0) d_Model_layPowers_36 jf_Model_147 rfl rfl rfl ?_
      refine j_if_neN_f (tgt := 67) d_Model_layPowers_39 (by decide) (by omega) rfl ?_
      refine j_aload_n d_Model_layPowers_42 rfl ?_
      refine j_aload_n d_Model_layPowers_43 rfl ?_
      refine j_iload_n d_Model_layPowers_44 rfl ?_
      refine j_bipush (v := nI 34) d_Model_layPowers_45 (by decide) ?_
      refine j_callVs (As := [.int (nI (m + 1)), .int (nI 34)]) (st := [.ref 135]) (c_isPower (r := (tpo T ((m + 1) - 1)).2) (lyP_w hw hTw (k + 1)) (by omega) (by omega) (fun i hi => jPw_r (x := 0) (P := lyP P T (k + 1)) (by omega) (by omega) hi) (fun i _ => tw_lt (tw_po hTw _) i)) d_Model_layPowers_47 (by decide) jm_Model_isPower jk_Model_150 ji_Model_isPower js_Model_isPower rfl (by decide) rfl rfl (Nat.le_of_ble_eq_true rfl) rfl ?_
      refine j_if_eqB_t (tgt := 57) d_Model_layPowers_50 (by decide) (by rw [lyP_34]; exact hd _ _ (by omega) (by omega) (by omega)) ?_
      refine j_iconst (v := nI 0) d_Model_layPowers_57 rfl ?_
      refine j_putv (h' := jM (jPw h T (12 * (k + 1)) 0) (lyP P T (k + 1))) d_Model_layPowers_58 jf_Model_147 rfl rfl jPw_x ?_
      refine j_iincN (x := (m + 1)) (L' := [some (.ref 135), some (.int (nI a)), some (.int (nI (k + 1))), some (.int (nI ((m + 1) + 1)))]) d_Model_layPowers_61 rfl (by decide) rfl rfl ?_
      refine j_goto (tgt := 30) d_Model_layPowers_64 (by decide) ?_
      exact ih2
def jspot (ix pr k : Nat) : Nat := if k < ix + pr then k else ix + (k - ix) % pr
theorem c_spot {n : jN} {h : jH} {P : jP} {ix pr k : Nat} (hix : h 135 11 = nI ix) (hpr : h 135 12 = nI pr) (h2 : 1 ≤ pr) (hb : ix + pr ≤ 300) (hk : k < 2 ^ 31) : jC n 0 jy_Model_spot jc_Model_spot 2 (some .int) [.ref 135, .int (nI k)] (jM h P) (some (.int (nI (jspot ix pr k)))) (jM h P) := by
  refine jC_of jm_Model_spot (L := [some (.ref 135), some (.int (nI k))]) (Nat.le_of_ble_eq_true rfl) rfl trivial ?_
  generalize hres : (((some (.int (nI (jspot ix pr k)))), jM h P) : Option Value × jH) = res
  refine j_iload_n d_Model_spot_0 rfl ?_
  refine j_aload_n d_Model_spot_1 rfl ?_
  refine j_getv (v := nI ix) d_Model_spot_2 jf_Model_147 rfl rfl hix ?_
  refine j_aload_n d_Model_spot_5 rfl ?_
  refine j_getv (v := nI pr) d_Model_spot_6 jf_Model_153 rfl rfl hpr ?_
  refine j_iaddN d_Model_spot_9 ?_
  refine j_icmp_geN (tgt := 17) d_Model_spot_10 (by decide) (by omega) (by omega) (fun c => ?_) (fun c => ?_)
  · refine j_aload_n d_Model_spot_17 rfl ?_
    refine j_getv (v := nI ix) d_Model_spot_18 jf_Model_147 rfl rfl hix ?_
    refine j_iload_n d_Model_spot_21 rfl ?_
    refine j_aload_n d_Model_spot_22 rfl ?_
    refine j_getv (v := nI ix) d_Model_spot_23 jf_Model_147 rfl rfl hix ?_
    refine j_isubN d_Model_spot_26 (by omega) ?_
    refine j_aload_n d_Model_spot_27 rfl ?_
    refine j_getv (v := nI pr) d_Model_spot_28 jf_Model_153 rfl rfl hpr ?_
    refine j_iremN d_Model_spot_31 (by omega) (by omega) (by omega) ?_
    refine j_iaddN d_Model_spot_32 ?_
    subst hres
    exact j_reti d_Model_spot_33 (by rw [jspot, if_neg (by omega)]) rfl
  · refine j_iload_n d_Model_spot_13 rfl ?_
    refine j_goto (tgt := 33) d_Model_spot_14 (by decide) ?_
    subst hres
    exact j_reti d_Model_spot_33 (by rw [jspot, if_pos (by omega)]) rfl
theorem c_idempotent {n : jN} {h : jH} {P : jP} {ix pr q : Nat} (hix : h 135 11 = nI ix) (hpr : h 135 12 = nI pr) (h2 : 1 ≤ pr) (hb : ix + pr ≤ 300) (hq1 : q ≤ 1000) (hq : jspot ix pr (2 * (q + 1)) = q + 1) (hn : ∀ k, k < q → ¬ jspot ix pr (2 * (k + 1)) = k + 1) : jC n 1 jy_Model_idempotent jc_Model_idempotent 2 (some .int) [.ref 135] (jM h P) (some (.int (nI (q + 1)))) (jM h P) := by
  refine jC_of jm_Model_idempotent (L := [some (.ref 135), none]) (Nat.le_of_ble_eq_true rfl) rfl trivial ?_
  generalize hres : (((some (.int (nI (q + 1)))), jM h P) : Option Value × jH) = res
  have hsp : ∀ k, jspot ix pr k ≤ k ∨ jspot ix pr k < 2 ^ 31 := fun k => by unfold jspot; split; exact Or.inl (Nat.le_refl _); exact Or.inr (by have := Nat.mod_lt (k - ix) h2; omega)
  refine j_iconst (v := nI 1) d_Model_idempotent_0 rfl ?_
  refine j_istore_n (L' := [some (.ref 135), some (.int (nI 1))]) d_Model_idempotent_1 (by decide) rfl rfl ?_
  refine j_loop (P := fun k => jJ n 1 jc_Model_idempotent 2 "YesNoPowersModel" 2 [some (.ref 135), some (.int (nI (k + 1)))] [] (jM h P) res) (m := q) ?_ (fun k hk ih => ?_)
  · refine j_aload_n d_Model_idempotent_2 rfl ?_
    refine j_iconst (v := nI 2) d_Model_idempotent_3 rfl ?_
    refine j_iload_n d_Model_idempotent_4 rfl ?_
    refine j_imulN d_Model_idempotent_5 ?_
    refine j_callVs (As := [.int (nI (2 * (q + 1)))]) (st := []) (c_spot hix hpr h2 hb (by omega)) d_Model_idempotent_6 (by decide) jm_Model_spot jk_Model_156 ji_Model_spot js_Model_spot rfl (by decide) rfl rfl (Nat.le_of_ble_eq_true rfl) rfl ?_
    refine j_iload_n d_Model_idempotent_9 rfl ?_
    have hs1 := hsp (2 * (q + 1))
    refine j_icmp_eqN_t (tgt := 19) d_Model_idempotent_10 (by decide) (by omega) (by omega) hq ?_
    refine j_iload_n d_Model_idempotent_19 rfl ?_
    subst hres
    exact j_reti d_Model_idempotent_20 rfl rfl
  · refine j_aload_n d_Model_idempotent_2 rfl ?_
    refine j_iconst (v := nI 2) d_Model_idempotent_3 rfl ?_
    refine j_iload_n d_Model_idempotent_4 rfl ?_
    refine j_imulN d_Model_idempotent_5 ?_
    refine j_callVs (As := [.int (nI (2 * (k + 1)))]) (st := []) (c_spot hix hpr h2 hb (by omega)) d_Model_idempotent_6 (by decide) jm_Model_spot jk_Model_156 ji_Model_spot js_Model_spot rfl (by decide) rfl rfl (Nat.le_of_ble_eq_true rfl) rfl ?_
    refine j_iload_n d_Model_idempotent_9 rfl ?_
    have hs1 := hsp (2 * (k + 1))
    refine j_icmp_eqN_f (tgt := 19) d_Model_idempotent_10 (by decide) (by omega) (by omega) (hn k hk) ?_
    refine j_iincN (x := k + 1) (L' := [some (.ref 135), some (.int (nI ((k + 1) + 1)))]) d_Model_idempotent_13 rfl (by decide) rfl rfl ?_
    refine j_goto (tgt := 2) d_Model_idempotent_16 (by decide) ?_
    exact ih
def tful (T : jT) (m k : Nat) : Bool := jall k (fun i => T.2 i == 2 ^ m - 1)
theorem c_exponent_none {n : jN} {h : jH} {P : jP} {ix pr m : Nat} {T : jT} (hix : h 135 11 = nI ix) (hpr : h 135 12 = nI pr) (h2 : 1 ≤ pr) (hb : ix + pr ≤ 300) (hpw : ∀ k i, 1 ≤ k → k < ix + pr → i < 12 → h 142 (12 * k + i) = nI ((tpo T (k - 1)).2 i)) (hT : tw T) (hm : m ≤ 12) (hn : ∀ k, k < ix + pr - 1 → tful (tpo T (k + 1 - 1)) m m = false) : jC n 1 jy_Model_exponent jc_Model_exponent 5 (some .int) [.ref 135, .int (nI m)] (jM h P) (some (.int (nI 0))) (jM h P) := by
  refine jC_of jm_Model_exponent (L := [some (.ref 135), some (.int (nI m)), none, none, none]) (Nat.le_of_ble_eq_true rfl) rfl trivial ?_
  generalize hres : (((some (.int (nI 0))), jM h P) : Option Value × jH) = res
  have h2m : 2 ^ m ≤ 2 ^ 12 := Nat.pow_le_pow_right (by omega) hm
  have h2p : 0 < 2 ^ m := Nat.two_pow_pos m
  refine j_iconst (v := nI 1) d_Model_exponent_0 rfl ?_
  refine j_istore_n (L' := [some (.ref 135), some (.int (nI m)), some (.int (nI 1)), none, none]) d_Model_exponent_1 (by decide) rfl rfl ?_
  refine j_loop (P := fun k => jJ n 1 jc_Model_exponent 5 "YesNoPowersModel" 2 [some (.ref 135), some (.int (nI m)), some (.int (nI (k + 1))), none, none] [] (jM h P) res) (m := ix + pr - 1) ?_ (fun k hk ih => ?_)
  · refine j_iload_n d_Model_exponent_2 rfl ?_
    refine j_aload_n d_Model_exponent_3 rfl ?_
    refine j_getv (v := nI ix) d_Model_exponent_4 jf_Model_147 rfl rfl hix ?_
    refine j_aload_n d_Model_exponent_7 rfl ?_
    refine j_getv (v := nI pr) d_Model_exponent_8 jf_Model_153 rfl rfl hpr ?_
    refine j_iaddN d_Model_exponent_11 ?_
    refine j_icmp_geN_t (tgt := 74) d_Model_exponent_12 (by decide) (by omega) (by omega) (by omega) ?_
    refine j_iconst (v := nI 0) d_Model_exponent_74 rfl ?_
    subst hres
    exact j_reti d_Model_exponent_75 rfl rfl
  · refine j_iload_n d_Model_exponent_2 rfl ?_
    refine j_aload_n d_Model_exponent_3 rfl ?_
    refine j_getv (v := nI ix) d_Model_exponent_4 jf_Model_147 rfl rfl hix ?_
    refine j_aload_n d_Model_exponent_7 rfl ?_
    refine j_getv (v := nI pr) d_Model_exponent_8 jf_Model_153 rfl rfl hpr ?_
    refine j_iaddN d_Model_exponent_11 ?_
    refine j_icmp_geN_f (tgt := 74) d_Model_exponent_12 (by decide) (by omega) (by omega) (by omega) ?_
    refine j_iconst (v := nI 1) d_Model_exponent_15 rfl ?_
    refine j_istore_n (L' := [some (.ref 135), some (.int (nI m)), some (.int (nI (k + 1))), some (.int (nI 1)), none]) d_Model_exponent_16 (by decide) rfl rfl ?_
    refine j_iconst (v := nI 0) d_Model_exponent_17 rfl ?_
    refine j_istore (L' := [some (.ref 135), some (.int (nI m)), some (.int (nI (k + 1))), some (.int (nI 1)), some (.int (nI 0))]) d_Model_exponent_18 (by decide) rfl rfl ?_
    refine j_locs (L' := [some (.ref 135), some (.int (nI m)), some (.int (nI (k + 1))), some (.int (jbo (tful (tpo T (k + 1 - 1)) m 0))), some (.int (nI 0))]) rfl ?_
    refine j_loop (P := fun i => jJ n 1 jc_Model_exponent 5 "YesNoPowersModel" 20 [some (.ref 135), some (.int (nI m)), some (.int (nI (k + 1))), some (.int (jbo (tful (tpo T (k + 1 - 1)) m i))), some (.int (nI i))] [] (jM h P) res) (m := m) ?_ (fun i hi ih2 => ?_)
    · refine j_iload d_Model_exponent_20 rfl ?_
      refine j_iload_n d_Model_exponent_22 rfl ?_
      refine j_icmp_geN_t (tgt := 62) d_Model_exponent_23 (by decide) (by omega) (by omega) (Nat.le_refl _) ?_
      refine j_iload_n d_Model_exponent_62 rfl ?_
      refine j_if_eqB_t (tgt := 68) d_Model_exponent_63 (by decide) (hn k (by omega)) ?_
      refine j_iincN (x := k + 1) (L' := [some (.ref 135), some (.int (nI m)), some (.int (nI ((k + 1) + 1))), some (.int (jbo (tful (tpo T (k + 1 - 1)) m m))), some (.int (nI m))]) d_Model_exponent_68 rfl (by decide) rfl rfl ?_
      refine j_goto (tgt := 2) d_Model_exponent_71 (by decide) ?_
      exact j_forget (i := 3) rfl (j_forget (i := 4) rfl ih)
    · refine j_iload d_Model_exponent_20 rfl ?_
      refine j_iload_n d_Model_exponent_22 rfl ?_
      refine j_icmp_geN_f (tgt := 62) d_Model_exponent_23 (by decide) (by omega) (by omega) (Nat.not_le.mpr hi) ?_
      refine j_iload_n d_Model_exponent_26 rfl ?_
      refine j_if_eqB (tgt := 54) d_Model_exponent_27 (by decide) (fun c => ?_) (fun c => ?_)
      · refine j_iconst (v := nI 0) d_Model_exponent_54 rfl ?_
        refine j_top (w := jbo (tful (tpo T (k + 1 - 1)) m (i + 1))) (by rw [show tful (tpo T (k + 1 - 1)) m (i + 1) = false from by simp_all [tful, jall]]; rfl) ?_
        refine j_istore_n (L' := [some (.ref 135), some (.int (nI m)), some (.int (nI (k + 1))), some (.int (jbo (tful (tpo T (k + 1 - 1)) m (i + 1)))), some (.int (nI i))]) d_Model_exponent_55 (by decide) rfl rfl ?_
        refine j_iincN (x := i) (L' := [some (.ref 135), some (.int (nI m)), some (.int (nI (k + 1))), some (.int (jbo (tful (tpo T (k + 1 - 1)) m (i + 1)))), some (.int (nI (i + 1)))]) d_Model_exponent_56 rfl (by decide) rfl rfl ?_
        refine j_goto (tgt := 20) d_Model_exponent_59 (by decide) ?_
        exact ih2
      · have hri := (tw_po hT (k + 1 - 1)).2.1 i
        refine j_aload_n d_Model_exponent_30 rfl ?_
        refine j_getr (b := 142) d_Model_exponent_31 jf_Model_28 rfl rfl rfl (by decide) ?_
        refine j_bipush (v := nI 12) d_Model_exponent_34 (by decide) ?_
        refine j_iload_n d_Model_exponent_36 rfl ?_
        refine j_imulN d_Model_exponent_37 ?_
        refine j_iload d_Model_exponent_38 rfl ?_
        refine j_iaddN d_Model_exponent_40 ?_
        refine j_ialdN (v := nI ((tpo T (k + 1 - 1)).2 i)) d_Model_exponent_41 rfl (by omega) (by decide) (hpw _ _ (by omega) (by omega) (by omega)) ?_
        refine j_iconst (v := nI 1) d_Model_exponent_42 rfl ?_
        refine j_iload_n d_Model_exponent_43 rfl ?_
        refine j_shl1N d_Model_exponent_44 (by omega) ?_
        refine j_iconst (v := nI 1) d_Model_exponent_45 rfl ?_
        refine j_isubN d_Model_exponent_46 Nat.one_le_two_pow ?_
        refine j_icmp_neN (tgt := 54) d_Model_exponent_47 (by decide) (by omega) (by omega) (fun c2 => ?_) (fun c2 => ?_)
        · refine j_iconst (v := nI 0) d_Model_exponent_54 rfl ?_
          refine j_top (w := jbo (tful (tpo T (k + 1 - 1)) m (i + 1))) (by rw [show tful (tpo T (k + 1 - 1)) m (i + 1) = false from by simp_all [tful, jall]]; rfl) ?_
          refine j_istore_n (L' := [some (.ref 135), some (.int (nI m)), some (.int (nI (k + 1))), some (.int (jbo (tful (tpo T (k + 1 - 1)) m (i + 1)))), some (.int (nI i))]) d_Model_exponent_55 (by decide) rfl rfl ?_
          refine j_iincN (x := i) (L' := [some (.ref 135), some (.int (nI m)), some (.int (nI (k + 1))), some (.int (jbo (tful (tpo T (k + 1 - 1)) m (i + 1)))), some (.int (nI (i + 1)))]) d_Model_exponent_56 rfl (by decide) rfl rfl ?_
          refine j_goto (tgt := 20) d_Model_exponent_59 (by decide) ?_
          exact ih2
        · refine j_iconst (v := nI 1) d_Model_exponent_50 rfl ?_
          refine j_goto (tgt := 55) d_Model_exponent_51 (by decide) ?_
          refine j_top (w := jbo (tful (tpo T (k + 1 - 1)) m (i + 1))) (by rw [show tful (tpo T (k + 1 - 1)) m (i + 1) = true from by simp_all [tful, jall]]; rfl) ?_
          refine j_istore_n (L' := [some (.ref 135), some (.int (nI m)), some (.int (nI (k + 1))), some (.int (jbo (tful (tpo T (k + 1 - 1)) m (i + 1)))), some (.int (nI i))]) d_Model_exponent_55 (by decide) rfl rfl ?_
          refine j_iincN (x := i) (L' := [some (.ref 135), some (.int (nI m)), some (.int (nI (k + 1))), some (.int (jbo (tful (tpo T (k + 1 - 1)) m (i + 1)))), some (.int (nI (i + 1)))]) d_Model_exponent_56 rfl (by decide) rfl rfl ?_
          refine j_goto (tgt := 20) d_Model_exponent_59 (by decide) ?_
          exact ih2
theorem c_exponent_some {n : jN} {h : jH} {P : jP} {ix pr m : Nat} {T : jT} {e : Nat} (hix : h 135 11 = nI ix) (hpr : h 135 12 = nI pr) (h2 : 1 ≤ pr) (hb : ix + pr ≤ 300) (hpw : ∀ k i, 1 ≤ k → k < ix + pr → i < 12 → h 142 (12 * k + i) = nI ((tpo T (k - 1)).2 i)) (hT : tw T) (hm : m ≤ 12) (he1 : e + 1 < ix + pr) (he : tful (tpo T (e + 1 - 1)) m m = true) (hn : ∀ k, k < e → tful (tpo T (k + 1 - 1)) m m = false) : jC n 1 jy_Model_exponent jc_Model_exponent 5 (some .int) [.ref 135, .int (nI m)] (jM h P) (some (.int (nI (e + 1)))) (jM h P) := by
  refine jC_of jm_Model_exponent (L := [some (.ref 135), some (.int (nI m)), none, none, none]) (Nat.le_of_ble_eq_true rfl) rfl trivial ?_
  generalize hres : (((some (.int (nI (e + 1)))), jM h P) : Option Value × jH) = res
  have h2m : 2 ^ m ≤ 2 ^ 12 := Nat.pow_le_pow_right (by omega) hm
  have h2p : 0 < 2 ^ m := Nat.two_pow_pos m
  refine j_iconst (v := nI 1) d_Model_exponent_0 rfl ?_
  refine j_istore_n (L' := [some (.ref 135), some (.int (nI m)), some (.int (nI 1)), none, none]) d_Model_exponent_1 (by decide) rfl rfl ?_
  refine j_loop (P := fun k => jJ n 1 jc_Model_exponent 5 "YesNoPowersModel" 2 [some (.ref 135), some (.int (nI m)), some (.int (nI (k + 1))), none, none] [] (jM h P) res) (m := e) ?_ (fun k hk ih => ?_)
  · refine j_iload_n d_Model_exponent_2 rfl ?_
    refine j_aload_n d_Model_exponent_3 rfl ?_
    refine j_getv (v := nI ix) d_Model_exponent_4 jf_Model_147 rfl rfl hix ?_
    refine j_aload_n d_Model_exponent_7 rfl ?_
    refine j_getv (v := nI pr) d_Model_exponent_8 jf_Model_153 rfl rfl hpr ?_
    refine j_iaddN d_Model_exponent_11 ?_
    refine j_icmp_geN_f (tgt := 74) d_Model_exponent_12 (by decide) (by omega) (by omega) (by omega) ?_
    refine j_iconst (v := nI 1) d_Model_exponent_15 rfl ?_
    refine j_istore_n (L' := [some (.ref 135), some (.int (nI m)), some (.int (nI (e + 1))), some (.int (nI 1)), none]) d_Model_exponent_16 (by decide) rfl rfl ?_
    refine j_iconst (v := nI 0) d_Model_exponent_17 rfl ?_
    refine j_istore (L' := [some (.ref 135), some (.int (nI m)), some (.int (nI (e + 1))), some (.int (nI 1)), some (.int (nI 0))]) d_Model_exponent_18 (by decide) rfl rfl ?_
    refine j_locs (L' := [some (.ref 135), some (.int (nI m)), some (.int (nI (e + 1))), some (.int (jbo (tful (tpo T (e + 1 - 1)) m 0))), some (.int (nI 0))]) rfl ?_
    refine j_loop (P := fun i => jJ n 1 jc_Model_exponent 5 "YesNoPowersModel" 20 [some (.ref 135), some (.int (nI m)), some (.int (nI (e + 1))), some (.int (jbo (tful (tpo T (e + 1 - 1)) m i))), some (.int (nI i))] [] (jM h P) res) (m := m) ?_ (fun i hi ih2 => ?_)
    · refine j_iload d_Model_exponent_20 rfl ?_
      refine j_iload_n d_Model_exponent_22 rfl ?_
      refine j_icmp_geN_t (tgt := 62) d_Model_exponent_23 (by decide) (by omega) (by omega) (Nat.le_refl _) ?_
      refine j_iload_n d_Model_exponent_62 rfl ?_
      refine j_if_eqB_f (tgt := 68) d_Model_exponent_63 (by decide) he ?_
      refine j_iload_n d_Model_exponent_66 rfl ?_
      subst hres
      exact j_reti d_Model_exponent_67 rfl rfl
    · refine j_iload d_Model_exponent_20 rfl ?_
      refine j_iload_n d_Model_exponent_22 rfl ?_
      refine j_icmp_geN_f (tgt := 62) d_Model_exponent_23 (by decide) (by omega) (by omega) (Nat.not_le.mpr hi) ?_
      refine j_iload_n d_Model_exponent_26 rfl ?_
      refine j_if_eqB (tgt := 54) d_Model_exponent_27 (by decide) (fun c => ?_) (fun c => ?_)
      · refine j_iconst (v := nI 0) d_Model_exponent_54 rfl ?_
        refine j_top (w := jbo (tful (tpo T (e + 1 - 1)) m (i + 1))) (by rw [show tful (tpo T (e + 1 - 1)) m (i + 1) = false from by simp_all [tful, jall]]; rfl) ?_
        refine j_istore_n (L' := [some (.ref 135), some (.int (nI m)), some (.int (nI (e + 1))), some (.int (jbo (tful (tpo T (e + 1 - 1)) m (i + 1)))), some (.int (nI i))]) d_Model_exponent_55 (by decide) rfl rfl ?_
        refine j_iincN (x := i) (L' := [some (.ref 135), some (.int (nI m)), some (.int (nI (e + 1))), some (.int (jbo (tful (tpo T (e + 1 - 1)) m (i + 1)))), some (.int (nI (i + 1)))]) d_Model_exponent_56 rfl (by decide) rfl rfl ?_
        refine j_goto (tgt := 20) d_Model_exponent_59 (by decide) ?_
        exact ih2
      · have hri := (tw_po hT (e + 1 - 1)).2.1 i
        refine j_aload_n d_Model_exponent_30 rfl ?_
        refine j_getr (b := 142) d_Model_exponent_31 jf_Model_28 rfl rfl rfl (by decide) ?_
        refine j_bipush (v := nI 12) d_Model_exponent_34 (by decide) ?_
        refine j_iload_n d_Model_exponent_36 rfl ?_
        refine j_imulN d_Model_exponent_37 ?_
        refine j_iload d_Model_exponent_38 rfl ?_
        refine j_iaddN d_Model_exponent_40 ?_
        refine j_ialdN (v := nI ((tpo T (e + 1 - 1)).2 i)) d_Model_exponent_41 rfl (by omega) (by decide) (hpw _ _ (by omega) (by omega) (by omega)) ?_
        refine j_iconst (v := nI 1) d_Model_exponent_42 rfl ?_
        refine j_iload_n d_Model_exponent_43 rfl ?_
        refine j_shl1N d_Model_exponent_44 (by omega) ?_
        refine j_iconst (v := nI 1) d_Model_exponent_45 rfl ?_
        refine j_isubN d_Model_exponent_46 Nat.one_le_two_pow ?_
        refine j_icmp_neN (tgt := 54) d_Model_exponent_47 (by decide) (by omega) (by omega) (fun c2 => ?_) (fun c2 => ?_)
        · refine j_iconst (v := nI 0) d_Model_exponent_54 rfl ?_
          refine j_top (w := jbo (tful (tpo T (e + 1 - 1)) m (i + 1))) (by rw [show tful (tpo T (e + 1 - 1)) m (i + 1) = false from by simp_all [tful, jall]]; rfl) ?_
          refine j_istore_n (L' := [some (.ref 135), some (.int (nI m)), some (.int (nI (e + 1))), some (.int (jbo (tful (tpo T (e + 1 - 1)) m (i + 1)))), some (.int (nI i))]) d_Model_exponent_55 (by decide) rfl rfl ?_
          refine j_iincN (x := i) (L' := [some (.ref 135), some (.int (nI m)), some (.int (nI (e + 1))), some (.int (jbo (tful (tpo T (e + 1 - 1)) m (i + 1)))), some (.int (nI (i + 1)))]) d_Model_exponent_56 rfl (by decide) rfl rfl ?_
          refine j_goto (tgt := 20) d_Model_exponent_59 (by decide) ?_
          exact ih2
        · refine j_iconst (v := nI 1) d_Model_exponent_50 rfl ?_
          refine j_goto (tgt := 55) d_Model_exponent_51 (by decide) ?_
          refine j_top (w := jbo (tful (tpo T (e + 1 - 1)) m (i + 1))) (by rw [show tful (tpo T (e + 1 - 1)) m (i + 1) = true from by simp_all [tful, jall]]; rfl) ?_
          refine j_istore_n (L' := [some (.ref 135), some (.int (nI m)), some (.int (nI (e + 1))), some (.int (jbo (tful (tpo T (e + 1 - 1)) m (i + 1)))), some (.int (nI i))]) d_Model_exponent_55 (by decide) rfl rfl ?_
          refine j_iincN (x := i) (L' := [some (.ref 135), some (.int (nI m)), some (.int (nI (e + 1))), some (.int (jbo (tful (tpo T (e + 1 - 1)) m (i + 1)))), some (.int (nI (i + 1)))]) d_Model_exponent_56 rfl (by decide) rfl rfl ?_
          refine j_goto (tgt := 20) d_Model_exponent_59 (by decide) ?_
          exact ih2
  · refine j_iload_n d_Model_exponent_2 rfl ?_
    refine j_aload_n d_Model_exponent_3 rfl ?_
    refine j_getv (v := nI ix) d_Model_exponent_4 jf_Model_147 rfl rfl hix ?_
    refine j_aload_n d_Model_exponent_7 rfl ?_
    refine j_getv (v := nI pr) d_Model_exponent_8 jf_Model_153 rfl rfl hpr ?_
    refine j_iaddN d_Model_exponent_11 ?_
    refine j_icmp_geN_f (tgt := 74) d_Model_exponent_12 (by decide) (by omega) (by omega) (by omega) ?_
    refine j_iconst (v := nI 1) d_Model_exponent_15 rfl ?_
    refine j_istore_n (L' := [some (.ref 135), some (.int (nI m)), some (.int (nI (k + 1))), some (.int (nI 1)), none]) d_Model_exponent_16 (by decide) rfl rfl ?_
    refine j_iconst (v := nI 0) d_Model_exponent_17 rfl ?_
    refine j_istore (L' := [some (.ref 135), some (.int (nI m)), some (.int (nI (k + 1))), some (.int (nI 1)), some (.int (nI 0))]) d_Model_exponent_18 (by decide) rfl rfl ?_
    refine j_locs (L' := [some (.ref 135), some (.int (nI m)), some (.int (nI (k + 1))), some (.int (jbo (tful (tpo T (k + 1 - 1)) m 0))), some (.int (nI 0))]) rfl ?_
    refine j_loop (P := fun i => jJ n 1 jc_Model_exponent 5 "YesNoPowersModel" 20 [some (.ref 135), some (.int (nI m)), some (.int (nI (k + 1))), some (.int (jbo (tful (tpo T (k + 1 - 1)) m i))), some (.int (nI i))] [] (jM h P) res) (m := m) ?_ (fun i hi ih2 => ?_)
    · refine j_iload d_Model_exponent_20 rfl ?_
      refine j_iload_n d_Model_exponent_22 rfl ?_
      refine j_icmp_geN_t (tgt := 62) d_Model_exponent_23 (by decide) (by omega) (by omega) (Nat.le_refl _) ?_
      refine j_iload_n d_Model_exponent_62 rfl ?_
      refine j_if_eqB_t (tgt := 68) d_Model_exponent_63 (by decide) (hn k hk) ?_
      refine j_iincN (x := k + 1) (L' := [some (.ref 135), some (.int (nI m)), some (.int (nI ((k + 1) + 1))), some (.int (jbo (tful (tpo T (k + 1 - 1)) m m))), some (.int (nI m))]) d_Model_exponent_68 rfl (by decide) rfl rfl ?_
      refine j_goto (tgt := 2) d_Model_exponent_71 (by decide) ?_
      exact j_forget (i := 3) rfl (j_forget (i := 4) rfl ih)
    · refine j_iload d_Model_exponent_20 rfl ?_
      refine j_iload_n d_Model_exponent_22 rfl ?_
      refine j_icmp_geN_f (tgt := 62) d_Model_exponent_23 (by decide) (by omega) (by omega) (Nat.not_le.mpr hi) ?_
      refine j_iload_n d_Model_exponent_26 rfl ?_
      refine j_if_eqB (tgt := 54) d_Model_exponent_27 (by decide) (fun c => ?_) (fun c => ?_)
      · refine j_iconst (v := nI 0) d_Model_exponent_54 rfl ?_
        refine j_top (w := jbo (tful (tpo T (k + 1 - 1)) m (i + 1))) (by rw [show tful (tpo T (k + 1 - 1)) m (i + 1) = false from by simp_all [tful, jall]]; rfl) ?_
        refine j_istore_n (L' := [some (.ref 135), some (.int (nI m)), some (.int (nI (k + 1))), some (.int (jbo (tful (tpo T (k + 1 - 1)) m (i + 1)))), some (.int (nI i))]) d_Model_exponent_55 (by decide) rfl rfl ?_
        refine j_iincN (x := i) (L' := [some (.ref 135), some (.int (nI m)), some (.int (nI (k + 1))), some (.int (jbo (tful (tpo T (k + 1 - 1)) m (i + 1)))), some (.int (nI (i + 1)))]) d_Model_exponent_56 rfl (by decide) rfl rfl ?_
        refine j_goto (tgt := 20) d_Model_exponent_59 (by decide) ?_
        exact ih2
      · have hri := (tw_po hT (k + 1 - 1)).2.1 i
        refine j_aload_n d_Model_exponent_30 rfl ?_
        refine j_getr (b := 142) d_Model_exponent_31 jf_Model_28 rfl rfl rfl (by decide) ?_
        refine j_bipush (v := nI 12) d_Model_exponent_34 (by decide) ?_
        refine j_iload_n d_Model_exponent_36 rfl ?_
        refine j_imulN d_Model_exponent_37 ?_
        refine j_iload d_Model_exponent_38 rfl ?_
        refine j_iaddN d_Model_exponent_40 ?_
        refine j_ialdN (v := nI ((tpo T (k + 1 - 1)).2 i)) d_Model_exponent_41 rfl (by omega) (by decide) (hpw _ _ (by omega) (by omega) (by omega)) ?_
        refine j_iconst (v := nI 1) d_Model_exponent_42 rfl ?_
        refine j_iload_n d_Model_exponent_43 rfl ?_
        refine j_shl1N d_Model_exponent_44 (by omega) ?_
        refine j_iconst (v := nI 1) d_Model_exponent_45 rfl ?_
        refine j_isubN d_Model_exponent_46 Nat.one_le_two_pow ?_
        refine j_icmp_neN (tgt := 54) d_Model_exponent_47 (by decide) (by omega) (by omega) (fun c2 => ?_) (fun c2 => ?_)
        · refine j_iconst (v := nI 0) d_Model_exponent_54 rfl ?_
          refine j_top (w := jbo (tful (tpo T (k + 1 - 1)) m (i + 1))) (by rw [show tful (tpo T (k + 1 - 1)) m (i + 1) = false from by simp_all [tful, jall]]; rfl) ?_
          refine j_istore_n (L' := [some (.ref 135), some (.int (nI m)), some (.int (nI (k + 1))), some (.int (jbo (tful (tpo T (k + 1 - 1)) m (i + 1)))), some (.int (nI i))]) d_Model_exponent_55 (by decide) rfl rfl ?_
          refine j_iincN (x := i) (L' := [some (.ref 135), some (.int (nI m)), some (.int (nI (k + 1))), some (.int (jbo (tful (tpo T (k + 1 - 1)) m (i + 1)))), some (.int (nI (i + 1)))]) d_Model_exponent_56 rfl (by decide) rfl rfl ?_
          refine j_goto (tgt := 20) d_Model_exponent_59 (by decide) ?_
          exact ih2
        · refine j_iconst (v := nI 1) d_Model_exponent_50 rfl ?_
          refine j_goto (tgt := 55) d_Model_exponent_51 (by decide) ?_
          refine j_top (w := jbo (tful (tpo T (k + 1 - 1)) m (i + 1))) (by rw [show tful (tpo T (k + 1 - 1)) m (i + 1) = true from by simp_all [tful, jall]]; rfl) ?_
          refine j_istore_n (L' := [some (.ref 135), some (.int (nI m)), some (.int (nI (k + 1))), some (.int (jbo (tful (tpo T (k + 1 - 1)) m (i + 1)))), some (.int (nI i))]) d_Model_exponent_55 (by decide) rfl rfl ?_
          refine j_iincN (x := i) (L' := [some (.ref 135), some (.int (nI m)), some (.int (nI (k + 1))), some (.int (jbo (tful (tpo T (k + 1 - 1)) m (i + 1)))), some (.int (nI (i + 1)))]) d_Model_exponent_56 rfl (by decide) rfl rfl ?_
          refine j_goto (tgt := 20) d_Model_exponent_59 (by decide) ?_
          exact ih2
theorem c_isOwnSquare {n : jN} {h : jH} {P : jP} {a : Nat} (hw : ∀ q, tw (P q)) (ha : a < 6) : jC n 3 jy_Model_isOwnSquare jc_Model_isOwnSquare 2 (some .boolean) [.ref 135, .int (nI a)] (jM h P) (some (.int (jbo (tsam (P a) (tmul (P a) (P a)) 12)))) (jM h (jset P 35 (tmul (P a) (P a)))) := by
  refine jC_of jm_Model_isOwnSquare (L := [some (.ref 135), some (.int (nI a))]) (Nat.le_of_ble_eq_true rfl) rfl (jbo01 _) ?_
  generalize hres : (((some (.int (jbo (tsam (P a) (tmul (P a) (P a)) 12)))), jM h (jset P 35 (tmul (P a) (P a)))) : Option Value × jH) = res
  refine j_aload_n d_Model_isOwnSquare_0 rfl ?_
  refine j_iload_n d_Model_isOwnSquare_1 rfl ?_
  refine j_iload_n d_Model_isOwnSquare_2 rfl ?_
  refine j_bipush (v := nI 35) d_Model_isOwnSquare_3 (by decide) ?_
  refine j_callVn (As := [.int (nI a), .int (nI a), .int (nI 35)]) (st := []) (c_multiply (by omega) (by omega) (by omega) (by omega) (by omega) hw) d_Model_isOwnSquare_5 (by decide) jm_Model_multiply jk_Model_88 ji_Model_multiply js_Model_multiply rfl (by decide) rfl rfl (Nat.le_of_ble_eq_true rfl) rfl ?_
  refine j_aload_n d_Model_isOwnSquare_8 rfl ?_
  refine j_iload_n d_Model_isOwnSquare_9 rfl ?_
  refine j_bipush (v := nI 35) d_Model_isOwnSquare_10 (by decide) ?_
  refine j_callVs (As := [.int (nI a), .int (nI 35)]) (st := []) (c_areSame (by omega) (by omega) (tws hw (tw_mul (hw a) (hw a)))) d_Model_isOwnSquare_12 (by decide) jm_Model_areSame jk_Model_138 ji_Model_areSame js_Model_areSame rfl (by decide) rfl rfl (Nat.le_of_ble_eq_true rfl) rfl ?_
  subst hres
  exact j_reti d_Model_isOwnSquare_15 (by rw [jset_eq, jset_ne (by omega)]) rfl
theorem c_isTurned {n : jN} {h : jH} {P : jP} {a : Nat} (hw : ∀ q, tw (P q)) (ha : a < 6) : jC n 3 jy_Model_isTurned jc_Model_isTurned 2 (some .boolean) [.ref 135, .int (nI a)] (jM h P) (some (.int (jbo (tsam (P a) (ttr (P a)) 12)))) (jM h (jset P 35 (ttr (P a)))) := by
  refine jC_of jm_Model_isTurned (L := [some (.ref 135), some (.int (nI a))]) (Nat.le_of_ble_eq_true rfl) rfl (jbo01 _) ?_
  generalize hres : (((some (.int (jbo (tsam (P a) (ttr (P a)) 12)))), jM h (jset P 35 (ttr (P a)))) : Option Value × jH) = res
  refine j_aload_n d_Model_isTurned_0 rfl ?_
  refine j_iload_n d_Model_isTurned_1 rfl ?_
  refine j_bipush (v := nI 35) d_Model_isTurned_2 (by decide) ?_
  refine j_callVn (As := [.int (nI a), .int (nI 35)]) (st := []) (c_transpose (by omega) (by omega) (by omega) hw) d_Model_isTurned_4 (by decide) jm_Model_transpose jk_Model_95 ji_Model_transpose js_Model_transpose rfl (by decide) rfl rfl (Nat.le_of_ble_eq_true rfl) rfl ?_
  refine j_aload_n d_Model_isTurned_7 rfl ?_
  refine j_iload_n d_Model_isTurned_8 rfl ?_
  refine j_bipush (v := nI 35) d_Model_isTurned_9 (by decide) ?_
  refine j_callVs (As := [.int (nI a), .int (nI 35)]) (st := []) (c_areSame (by omega) (by omega) (tws hw (tw_tr (hw a)))) d_Model_isTurned_11 (by decide) jm_Model_areSame jk_Model_138 ji_Model_areSame js_Model_areSame rfl (by decide) rfl rfl (Nat.le_of_ble_eq_true rfl) rfl ?_
  subst hres
  exact j_reti d_Model_isTurned_14 (by rw [jset_eq, jset_ne (by omega)]) rfl

theorem x_bfk0 {n : jN} {h : jH} {P : jP} (hw : ∀ q, tw (P q)) (hP : slo h P) {m : Int32} : jC n 3 jy_Main_badForKind jc_Main_badForKind 3 (some .boolean) [.ref 0, .int (nI 0), .int m] h (some (.int (nI 0))) h := by
  refine jC_of jm_Main_badForKind (L := [some (.ref 0), some (.int (nI 0)), some (.int m)]) (Nat.le_of_ble_eq_true rfl) rfl (Or.inl rfl) ?_
  generalize hres : (((some (.int (nI 0))), h) : Option Value × jH) = res
  refine j_iload_n d_Main_badForKind_0 rfl ?_
  refine j_swOut (tgt := 55) d_Main_badForKind_1 (by decide) (by decide) ?_
  refine j_iconst (v := nI 0) d_Main_badForKind_55 rfl ?_
  subst hres
  exact j_reti d_Main_badForKind_56 rfl rfl
theorem x_bfk1 {n : jN} {h : jH} {P : jP} (hw : ∀ q, tw (P q)) (hP : slo h P) {m : Int32} : jC n 3 jy_Main_badForKind jc_Main_badForKind 3 (some .boolean) [.ref 0, .int (nI 1), .int m] h (some (.int (nI 0))) h := by
  refine jC_of jm_Main_badForKind (L := [some (.ref 0), some (.int (nI 1)), some (.int m)]) (Nat.le_of_ble_eq_true rfl) rfl (Or.inl rfl) ?_
  generalize hres : (((some (.int (nI 0))), h) : Option Value × jH) = res
  refine j_iload_n d_Main_badForKind_0 rfl ?_
  refine j_swOut (tgt := 55) d_Main_badForKind_1 (by decide) (by decide) ?_
  refine j_iconst (v := nI 0) d_Main_badForKind_55 rfl ?_
  subst hres
  exact j_reti d_Main_badForKind_56 rfl rfl
theorem x_bfk2 {n : jN} {h : jH} {P : jP} (hw : ∀ q, tw (P q)) (hP : slo h P) {m : Int32} : jC n 3 jy_Main_badForKind jc_Main_badForKind 3 (some .boolean) [.ref 0, .int (nI 2), .int m] h (some (.int (jbo (!(jho P m))))) h := by
  refine jC_of jm_Main_badForKind (L := [some (.ref 0), some (.int (nI 2)), some (.int m)]) (Nat.le_of_ble_eq_true rfl) rfl (jbo01 _) ?_
  generalize hres : (((some (.int (jbo (!(jho P m))))), h) : Option Value × jH) = res
  refine j_iload_n d_Main_badForKind_0 rfl ?_
  refine j_swIn (off := 35) (tgt := 36) d_Main_badForKind_1 (by decide) (by decide) rfl (by decide) ?_
  refine j_aload_n d_Main_badForKind_36 rfl ?_
  refine j_iload_n d_Main_badForKind_37 rfl ?_
  refine j_callVs (As := [.int m]) (st := []) (x_noTable hw hP) d_Main_badForKind_38 (by decide) jm_Main_noTable jk_Main_103 ji_Main_noTable js_Main_noTable rfl (by decide) rfl rfl (Nat.le_of_ble_eq_true rfl) rfl ?_
  subst hres
  exact j_reti d_Main_badForKind_41 rfl rfl
theorem x_bfk3 {n : jN} {h : jH} {P : jP} (hw : ∀ q, tw (P q)) (hP : slo h P) {m : Int32} : jC n 3 jy_Main_badForKind jc_Main_badForKind 3 (some .boolean) [.ref 0, .int (nI 3), .int m] h (some (.int (jbo (!(jsl m))))) h := by
  refine jC_of jm_Main_badForKind (L := [some (.ref 0), some (.int (nI 3)), some (.int m)]) (Nat.le_of_ble_eq_true rfl) rfl (jbo01 _) ?_
  generalize hres : (((some (.int (jbo (!(jsl m))))), h) : Option Value × jH) = res
  refine j_iload_n d_Main_badForKind_0 rfl ?_
  refine j_swIn (off := 41) (tgt := 42) d_Main_badForKind_1 (by decide) (by decide) rfl (by decide) ?_
  refine j_iload_n d_Main_badForKind_42 rfl ?_
  refine j_callSs (As := [.int m]) (st := []) x_noSlot d_Main_badForKind_43 (by decide) jm_Main_noSlot jk_Main_62 js_Main_noSlot rfl (Nat.le_of_ble_eq_true rfl) rfl ?_
  subst hres
  exact j_reti d_Main_badForKind_46 rfl rfl
theorem x_bfk4 {n : jN} {h : jH} {P : jP} (hw : ∀ q, tw (P q)) (hP : slo h P) {m : Int32} : jC n 3 jy_Main_badForKind jc_Main_badForKind 3 (some .boolean) [.ref 0, .int (nI 4), .int m] h (some (.int (jbo (decide (m < nI 0 ∨ nI 99 < m))))) h := by
  refine jC_of jm_Main_badForKind (L := [some (.ref 0), some (.int (nI 4)), some (.int m)]) (Nat.le_of_ble_eq_true rfl) rfl (jbo01 _) ?_
  generalize hres : (((some (.int (jbo (decide (m < nI 0 ∨ nI 99 < m))))), h) : Option Value × jH) = res
  refine j_iload_n d_Main_badForKind_0 rfl ?_
  refine j_swIn (off := 46) (tgt := 47) d_Main_badForKind_1 (by decide) (by decide) rfl (by decide) ?_
  refine j_iload_n d_Main_badForKind_47 rfl ?_
  refine j_iconst (v := nI 0) d_Main_badForKind_48 rfl ?_
  refine j_bipush (v := nI 99) d_Main_badForKind_49 (by decide) ?_
  refine j_callSs (As := [.int m, .int (nI 0), .int (nI 99)]) (st := []) x_outOf d_Main_badForKind_51 (by decide) jm_Main_outOf jk_Main_69 js_Main_outOf rfl (Nat.le_of_ble_eq_true rfl) rfl ?_
  subst hres
  exact j_reti d_Main_badForKind_54 rfl rfl
theorem x_bfk5 {n : jN} {h : jH} {P : jP} (hw : ∀ q, tw (P q)) (hP : slo h P) {m : Int32} : jC n 3 jy_Main_badForKind jc_Main_badForKind 3 (some .boolean) [.ref 0, .int (nI 5), .int m] h (some (.int (nI 0))) h := by
  refine jC_of jm_Main_badForKind (L := [some (.ref 0), some (.int (nI 5)), some (.int m)]) (Nat.le_of_ble_eq_true rfl) rfl (Or.inl rfl) ?_
  generalize hres : (((some (.int (nI 0))), h) : Option Value × jH) = res
  refine j_iload_n d_Main_badForKind_0 rfl ?_
  refine j_swIn (off := 54) (tgt := 55) d_Main_badForKind_1 (by decide) (by decide) rfl (by decide) ?_
  refine j_iconst (v := nI 0) d_Main_badForKind_55 rfl ?_
  subst hres
  exact j_reti d_Main_badForKind_56 rfl rfl
theorem x_bfk6 {n : jN} {h : jH} {P : jP} (hw : ∀ q, tw (P q)) (hP : slo h P) {m : Int32} : jC n 3 jy_Main_badForKind jc_Main_badForKind 3 (some .boolean) [.ref 0, .int (nI 6), .int m] h (some (.int (jbo (!(jho P m))))) h := by
  refine jC_of jm_Main_badForKind (L := [some (.ref 0), some (.int (nI 6)), some (.int m)]) (Nat.le_of_ble_eq_true rfl) rfl (jbo01 _) ?_
  generalize hres : (((some (.int (jbo (!(jho P m))))), h) : Option Value × jH) = res
  refine j_iload_n d_Main_badForKind_0 rfl ?_
  refine j_swIn (off := 35) (tgt := 36) d_Main_badForKind_1 (by decide) (by decide) rfl (by decide) ?_
  refine j_aload_n d_Main_badForKind_36 rfl ?_
  refine j_iload_n d_Main_badForKind_37 rfl ?_
  refine j_callVs (As := [.int m]) (st := []) (x_noTable hw hP) d_Main_badForKind_38 (by decide) jm_Main_noTable jk_Main_103 ji_Main_noTable js_Main_noTable rfl (by decide) rfl rfl (Nat.le_of_ble_eq_true rfl) rfl ?_
  subst hres
  exact j_reti d_Main_badForKind_41 rfl rfl
theorem jlk_0 {P : jP} {m : Int32} : jlk P (nI 0) m = true ∧ jlk P (nI 1) m = true ∧ jlk P (nI 5) m = true ∧ jlk P (nI 2) m = jho P m ∧ jlk P (nI 6) m = jho P m ∧ jlk P (nI 3) m = jsl m ∧ jlk P (nI 4) m = jin m 0 99 := ⟨by simp [jlk], by simp [jlk], by simp [jlk], by simp [jlk, show ¬ (nI 2 : Int32) = nI 0 by decide, show ¬ (nI 2 : Int32) = nI 1 by decide, show ¬ (nI 2 : Int32) = nI 5 by decide], by simp [jlk, show ¬ (nI 6 : Int32) = nI 0 by decide, show ¬ (nI 6 : Int32) = nI 1 by decide, show ¬ (nI 6 : Int32) = nI 5 by decide], by simp [jlk, show ¬ (nI 3 : Int32) = nI 0 by decide, show ¬ (nI 3 : Int32) = nI 1 by decide, show ¬ (nI 3 : Int32) = nI 5 by decide, show ¬ (nI 3 : Int32) = nI 2 by decide, show ¬ (nI 3 : Int32) = nI 6 by decide], by simp [jlk, show ¬ (nI 4 : Int32) = nI 0 by decide, show ¬ (nI 4 : Int32) = nI 1 by decide, show ¬ (nI 4 : Int32) = nI 5 by decide, show ¬ (nI 4 : Int32) = nI 2 by decide, show ¬ (nI 4 : Int32) = nI 6 by decide, show ¬ (nI 4 : Int32) = nI 3 by decide]⟩
theorem x_link_bad {n : jN} {h : jH} {P : jP} (hw : ∀ q, tw (P q)) (hP : slo h P) {kind m : Int32} (hb : jlk P kind m = false) : jC n 4 jy_Main_link jc_Main_link 3 (some .int) [.ref 0, .int kind, .int m] h (some (.int (-1))) h := by
  refine jC_of jm_Main_link (L := [some (.ref 0), some (.int kind), some (.int m)]) (Nat.le_of_ble_eq_true rfl) rfl trivial ?_
  generalize hres : (((some (.int (-1))), h) : Option Value × jH) = res
  refine j_iload_n d_Main_link_0 rfl ?_
  refine j_iconst (v := nI 0) d_Main_link_1 rfl ?_
  refine j_bipush (v := nI 6) d_Main_link_2 (by decide) ?_
  refine j_callSs (As := [.int kind, .int (nI 0), .int (nI 6)]) (st := []) x_outOf d_Main_link_4 (by decide) jm_Main_outOf jk_Main_69 js_Main_outOf rfl (Nat.le_of_ble_eq_true rfl) rfl ?_
  refine j_if_neB (tgt := 19) d_Main_link_7 (by decide) (fun c1 => ?_) (fun c1 => ?_)
  · refine j_iconst (v := -1) d_Main_link_19 rfl ?_
    subst hres
    exact j_reti d_Main_link_20 rfl rfl
  · rw [oo_jin (by omega) (by omega)] at c1
    obtain ⟨k0, hk0, hk1, hk2, rfl⟩ := jin_k (x := kind) (lo := ((0 : Nat) : Int)) (hi := ((6 : Nat) : Int)) (by omega) (by simpa using c1)
    rcases (show k0 = 0 ∨ k0 = 1 ∨ k0 = 2 ∨ k0 = 3 ∨ k0 = 4 ∨ k0 = 5 ∨ k0 = 6 by omega) with e | e | e | e | e | e | e <;> subst e
    · exact absurd hb (by rw [jlk_0.1]; decide)
    · exact absurd hb (by rw [jlk_0.2.1]; decide)
    · refine j_aload_n d_Main_link_10 rfl ?_
      refine j_iload_n d_Main_link_11 rfl ?_
      refine j_iload_n d_Main_link_12 rfl ?_
      refine j_callVs (As := [.int (nI 2), .int m]) (st := []) (x_bfk2 hw hP) d_Main_link_13 (by decide) jm_Main_badForKind jk_Main_270 ji_Main_badForKind js_Main_badForKind rfl (by decide) rfl rfl (Nat.le_of_ble_eq_true rfl) rfl ?_
      refine j_if_eqB_f (tgt := 21) d_Main_link_16 (by decide) (by have := hb; rw [jlk_0.2.2.2.1] at this; rw [this]; rfl) ?_
      refine j_iconst (v := -1) d_Main_link_19 rfl ?_
      subst hres
      exact j_reti d_Main_link_20 rfl rfl
    · refine j_aload_n d_Main_link_10 rfl ?_
      refine j_iload_n d_Main_link_11 rfl ?_
      refine j_iload_n d_Main_link_12 rfl ?_
      refine j_callVs (As := [.int (nI 3), .int m]) (st := []) (x_bfk3 hw hP) d_Main_link_13 (by decide) jm_Main_badForKind jk_Main_270 ji_Main_badForKind js_Main_badForKind rfl (by decide) rfl rfl (Nat.le_of_ble_eq_true rfl) rfl ?_
      refine j_if_eqB_f (tgt := 21) d_Main_link_16 (by decide) (by have := hb; rw [jlk_0.2.2.2.2.2.1] at this; rw [this]; rfl) ?_
      refine j_iconst (v := -1) d_Main_link_19 rfl ?_
      subst hres
      exact j_reti d_Main_link_20 rfl rfl
    · refine j_aload_n d_Main_link_10 rfl ?_
      refine j_iload_n d_Main_link_11 rfl ?_
      refine j_iload_n d_Main_link_12 rfl ?_
      refine j_callVs (As := [.int (nI 4), .int m]) (st := []) (x_bfk4 hw hP) d_Main_link_13 (by decide) jm_Main_badForKind jk_Main_270 ji_Main_badForKind js_Main_badForKind rfl (by decide) rfl rfl (Nat.le_of_ble_eq_true rfl) rfl ?_
      refine j_if_eqB_f (tgt := 21) d_Main_link_16 (by decide) (by have := hb; rw [jlk_0.2.2.2.2.2.2] at this; rw [oo_jin (by omega) (by omega)]; exact (by rw [show jin m ((0 : Nat) : Int) ((99 : Nat) : Int) = false from this]; rfl)) ?_
      refine j_iconst (v := -1) d_Main_link_19 rfl ?_
      subst hres
      exact j_reti d_Main_link_20 rfl rfl
    · exact absurd hb (by rw [jlk_0.2.2.1]; decide)
    · refine j_aload_n d_Main_link_10 rfl ?_
      refine j_iload_n d_Main_link_11 rfl ?_
      refine j_iload_n d_Main_link_12 rfl ?_
      refine j_callVs (As := [.int (nI 6), .int m]) (st := []) (x_bfk6 hw hP) d_Main_link_13 (by decide) jm_Main_badForKind jk_Main_270 ji_Main_badForKind js_Main_badForKind rfl (by decide) rfl rfl (Nat.le_of_ble_eq_true rfl) rfl ?_
      refine j_if_eqB_f (tgt := 21) d_Main_link_16 (by decide) (by have := hb; rw [jlk_0.2.2.2.2.1] at this; rw [this]; rfl) ?_
      refine j_iconst (v := -1) d_Main_link_19 rfl ?_
      subst hres
      exact j_reti d_Main_link_20 rfl rfl
theorem x_link_full0 {n : jN} {h : jH} {P : jP} (hw : ∀ q, tw (P q)) (hP : slo h P) {c : Nat} {m : Int32} (hb : jlk P (nI 0) m = true) (hc0 : h 75 0 = nI c) (hc8 : c ≤ 8) (hc9 : c = 8) : jC n 4 jy_Main_link jc_Main_link 3 (some .int) [.ref 0, .int (nI 0), .int m] h (some (.int (-4))) h := by
  refine jC_of jm_Main_link (L := [some (.ref 0), some (.int (nI 0)), some (.int m)]) (Nat.le_of_ble_eq_true rfl) rfl trivial ?_
  generalize hres : (((some (.int (-4))), h) : Option Value × jH) = res
  refine j_iload_n d_Main_link_0 rfl ?_
  refine j_iconst (v := nI 0) d_Main_link_1 rfl ?_
  refine j_bipush (v := nI 6) d_Main_link_2 (by decide) ?_
  refine j_callSs (As := [.int (nI 0), .int (nI 0), .int (nI 6)]) (st := []) x_outOf d_Main_link_4 (by decide) jm_Main_outOf jk_Main_69 js_Main_outOf rfl (Nat.le_of_ble_eq_true rfl) rfl ?_
  refine j_if_neB_f (tgt := 19) d_Main_link_7 (by decide) (oo_n (by omega) (by omega) (by omega)) ?_
  refine j_aload_n d_Main_link_10 rfl ?_
  refine j_iload_n d_Main_link_11 rfl ?_
  refine j_iload_n d_Main_link_12 rfl ?_
  refine j_callVs (As := [.int (nI 0), .int m]) (st := []) (x_bfk0 hw hP) d_Main_link_13 (by decide) jm_Main_badForKind jk_Main_270 ji_Main_badForKind js_Main_badForKind rfl (by decide) rfl rfl (Nat.le_of_ble_eq_true rfl) rfl ?_
  refine j_if_eqN_t (tgt := 21) d_Main_link_16 (by decide) (by omega) (by decide) ?_
  refine j_aload_n d_Main_link_21 rfl ?_
  refine j_getr (b := 75) d_Main_link_22 jf_Main_52 rfl rfl rfl (by decide) ?_
  refine j_callVs (As := []) (st := []) (x_isFull hc0 hc8) d_Main_link_25 (by decide) jm_Chain_isFull jk_Main_273 ji_Chain_isFull js_Chain_isFull rfl (by decide) rfl rfl (Nat.le_of_ble_eq_true rfl) rfl ?_
  refine j_if_eqB_f (tgt := 34) d_Main_link_28 (by decide) (decide_eq_true (by omega)) ?_
  refine j_bipush (v := -4) d_Main_link_31 (by decide) ?_
  subst hres
  exact j_reti d_Main_link_33 rfl rfl
theorem x_link0 {n : jN} {h : jH} {P : jP} (hw : ∀ q, tw (P q)) (hP : slo h P) {c : Nat} {m : Int32} (hb : jlk P (nI 0) m = true) (hc0 : h 75 0 = nI c) (hc : c < 8) : jC n 4 jy_Main_link jc_Main_link 3 (some .int) [.ref 0, .int (nI 0), .int m] h (some (.int (nI (c + 1)))) (jup2 (jup2 (jup2 h (89 + 3 * c) 0 (nI 0)) (89 + 3 * c) 1 m) 75 0 (nI (c + 1))) := by
  refine jC_of jm_Main_link (L := [some (.ref 0), some (.int (nI 0)), some (.int m)]) (Nat.le_of_ble_eq_true rfl) rfl trivial ?_
  generalize hres : (((some (.int (nI (c + 1)))), jup2 (jup2 (jup2 h (89 + 3 * c) 0 (nI 0)) (89 + 3 * c) 1 m) 75 0 (nI (c + 1))) : Option Value × jH) = res
  have hc8 : c ≤ 8 := by omega
  refine j_iload_n d_Main_link_0 rfl ?_
  refine j_iconst (v := nI 0) d_Main_link_1 rfl ?_
  refine j_bipush (v := nI 6) d_Main_link_2 (by decide) ?_
  refine j_callSs (As := [.int (nI 0), .int (nI 0), .int (nI 6)]) (st := []) x_outOf d_Main_link_4 (by decide) jm_Main_outOf jk_Main_69 js_Main_outOf rfl (Nat.le_of_ble_eq_true rfl) rfl ?_
  refine j_if_neB_f (tgt := 19) d_Main_link_7 (by decide) (oo_n (by omega) (by omega) (by omega)) ?_
  refine j_aload_n d_Main_link_10 rfl ?_
  refine j_iload_n d_Main_link_11 rfl ?_
  refine j_iload_n d_Main_link_12 rfl ?_
  refine j_callVs (As := [.int (nI 0), .int m]) (st := []) (x_bfk0 hw hP) d_Main_link_13 (by decide) jm_Main_badForKind jk_Main_270 ji_Main_badForKind js_Main_badForKind rfl (by decide) rfl rfl (Nat.le_of_ble_eq_true rfl) rfl ?_
  refine j_if_eqN_t (tgt := 21) d_Main_link_16 (by decide) (by omega) (by decide) ?_
  refine j_aload_n d_Main_link_21 rfl ?_
  refine j_getr (b := 75) d_Main_link_22 jf_Main_52 rfl rfl rfl (by decide) ?_
  refine j_callVs (As := []) (st := []) (x_isFull hc0 hc8) d_Main_link_25 (by decide) jm_Chain_isFull jk_Main_273 ji_Chain_isFull js_Chain_isFull rfl (by decide) rfl rfl (Nat.le_of_ble_eq_true rfl) rfl ?_
  refine j_if_eqB_t (tgt := 34) d_Main_link_28 (by decide) (decide_eq_false (by omega)) ?_
  refine j_aload_n d_Main_link_34 rfl ?_
  refine j_getr (b := 75) d_Main_link_35 jf_Main_52 rfl rfl rfl (by decide) ?_
  refine j_iload_n d_Main_link_38 rfl ?_
  refine j_iload_n d_Main_link_39 rfl ?_
  refine j_aload_n d_Main_link_40 rfl ?_
  refine j_getr (b := 1) d_Main_link_41 jf_Main_11 rfl rfl rfl (by decide) ?_
  refine j_callVn (As := [.int (nI 0), .int m, .ref 1]) (st := []) (x_append0 hc0 hc (by decide) (by decide) (by decide)) d_Main_link_44 (by decide) jm_Chain_append jk_Main_276 ji_Chain_append js_Chain_append rfl (by decide) rfl rfl (Nat.le_of_ble_eq_true rfl) rfl ?_
  refine j_aload_n d_Main_link_47 rfl ?_
  refine j_getr (b := 75) d_Main_link_48 jf_Main_52 rfl rfl rfl (by decide) ?_
  refine j_getv (v := nI (c + 1)) d_Main_link_51 jf_Main_280 rfl rfl jup2_r ?_
  subst hres
  exact j_reti d_Main_link_54 rfl rfl
theorem x_link_full1 {n : jN} {h : jH} {P : jP} (hw : ∀ q, tw (P q)) (hP : slo h P) {c : Nat} {m : Int32} (hb : jlk P (nI 1) m = true) (hc0 : h 75 0 = nI c) (hc8 : c ≤ 8) (hc9 : c = 8) : jC n 4 jy_Main_link jc_Main_link 3 (some .int) [.ref 0, .int (nI 1), .int m] h (some (.int (-4))) h := by
  refine jC_of jm_Main_link (L := [some (.ref 0), some (.int (nI 1)), some (.int m)]) (Nat.le_of_ble_eq_true rfl) rfl trivial ?_
  generalize hres : (((some (.int (-4))), h) : Option Value × jH) = res
  refine j_iload_n d_Main_link_0 rfl ?_
  refine j_iconst (v := nI 0) d_Main_link_1 rfl ?_
  refine j_bipush (v := nI 6) d_Main_link_2 (by decide) ?_
  refine j_callSs (As := [.int (nI 1), .int (nI 0), .int (nI 6)]) (st := []) x_outOf d_Main_link_4 (by decide) jm_Main_outOf jk_Main_69 js_Main_outOf rfl (Nat.le_of_ble_eq_true rfl) rfl ?_
  refine j_if_neB_f (tgt := 19) d_Main_link_7 (by decide) (oo_n (by omega) (by omega) (by omega)) ?_
  refine j_aload_n d_Main_link_10 rfl ?_
  refine j_iload_n d_Main_link_11 rfl ?_
  refine j_iload_n d_Main_link_12 rfl ?_
  refine j_callVs (As := [.int (nI 1), .int m]) (st := []) (x_bfk1 hw hP) d_Main_link_13 (by decide) jm_Main_badForKind jk_Main_270 ji_Main_badForKind js_Main_badForKind rfl (by decide) rfl rfl (Nat.le_of_ble_eq_true rfl) rfl ?_
  refine j_if_eqN_t (tgt := 21) d_Main_link_16 (by decide) (by omega) (by decide) ?_
  refine j_aload_n d_Main_link_21 rfl ?_
  refine j_getr (b := 75) d_Main_link_22 jf_Main_52 rfl rfl rfl (by decide) ?_
  refine j_callVs (As := []) (st := []) (x_isFull hc0 hc8) d_Main_link_25 (by decide) jm_Chain_isFull jk_Main_273 ji_Chain_isFull js_Chain_isFull rfl (by decide) rfl rfl (Nat.le_of_ble_eq_true rfl) rfl ?_
  refine j_if_eqB_f (tgt := 34) d_Main_link_28 (by decide) (decide_eq_true (by omega)) ?_
  refine j_bipush (v := -4) d_Main_link_31 (by decide) ?_
  subst hres
  exact j_reti d_Main_link_33 rfl rfl
theorem x_link1 {n : jN} {h : jH} {P : jP} (hw : ∀ q, tw (P q)) (hP : slo h P) {c : Nat} {m : Int32} (hb : jlk P (nI 1) m = true) (hc0 : h 75 0 = nI c) (hc : c < 8) : jC n 4 jy_Main_link jc_Main_link 3 (some .int) [.ref 0, .int (nI 1), .int m] h (some (.int (nI (c + 1)))) (jup2 (jup2 (jup2 h (89 + 3 * c) 0 (nI 1)) (89 + 3 * c) 1 m) 75 0 (nI (c + 1))) := by
  refine jC_of jm_Main_link (L := [some (.ref 0), some (.int (nI 1)), some (.int m)]) (Nat.le_of_ble_eq_true rfl) rfl trivial ?_
  generalize hres : (((some (.int (nI (c + 1)))), jup2 (jup2 (jup2 h (89 + 3 * c) 0 (nI 1)) (89 + 3 * c) 1 m) 75 0 (nI (c + 1))) : Option Value × jH) = res
  have hc8 : c ≤ 8 := by omega
  refine j_iload_n d_Main_link_0 rfl ?_
  refine j_iconst (v := nI 0) d_Main_link_1 rfl ?_
  refine j_bipush (v := nI 6) d_Main_link_2 (by decide) ?_
  refine j_callSs (As := [.int (nI 1), .int (nI 0), .int (nI 6)]) (st := []) x_outOf d_Main_link_4 (by decide) jm_Main_outOf jk_Main_69 js_Main_outOf rfl (Nat.le_of_ble_eq_true rfl) rfl ?_
  refine j_if_neB_f (tgt := 19) d_Main_link_7 (by decide) (oo_n (by omega) (by omega) (by omega)) ?_
  refine j_aload_n d_Main_link_10 rfl ?_
  refine j_iload_n d_Main_link_11 rfl ?_
  refine j_iload_n d_Main_link_12 rfl ?_
  refine j_callVs (As := [.int (nI 1), .int m]) (st := []) (x_bfk1 hw hP) d_Main_link_13 (by decide) jm_Main_badForKind jk_Main_270 ji_Main_badForKind js_Main_badForKind rfl (by decide) rfl rfl (Nat.le_of_ble_eq_true rfl) rfl ?_
  refine j_if_eqN_t (tgt := 21) d_Main_link_16 (by decide) (by omega) (by decide) ?_
  refine j_aload_n d_Main_link_21 rfl ?_
  refine j_getr (b := 75) d_Main_link_22 jf_Main_52 rfl rfl rfl (by decide) ?_
  refine j_callVs (As := []) (st := []) (x_isFull hc0 hc8) d_Main_link_25 (by decide) jm_Chain_isFull jk_Main_273 ji_Chain_isFull js_Chain_isFull rfl (by decide) rfl rfl (Nat.le_of_ble_eq_true rfl) rfl ?_
  refine j_if_eqB_t (tgt := 34) d_Main_link_28 (by decide) (decide_eq_false (by omega)) ?_
  refine j_aload_n d_Main_link_34 rfl ?_
  refine j_getr (b := 75) d_Main_link_35 jf_Main_52 rfl rfl rfl (by decide) ?_
  refine j_iload_n d_Main_link_38 rfl ?_
  refine j_iload_n d_Main_link_39 rfl ?_
  refine j_aload_n d_Main_link_40 rfl ?_
  refine j_getr (b := 1) d_Main_link_41 jf_Main_11 rfl rfl rfl (by decide) ?_
  refine j_callVn (As := [.int (nI 1), .int m, .ref 1]) (st := []) (x_append0 hc0 hc (by decide) (by decide) (by decide)) d_Main_link_44 (by decide) jm_Chain_append jk_Main_276 ji_Chain_append js_Chain_append rfl (by decide) rfl rfl (Nat.le_of_ble_eq_true rfl) rfl ?_
  refine j_aload_n d_Main_link_47 rfl ?_
  refine j_getr (b := 75) d_Main_link_48 jf_Main_52 rfl rfl rfl (by decide) ?_
  refine j_getv (v := nI (c + 1)) d_Main_link_51 jf_Main_280 rfl rfl jup2_r ?_
  subst hres
  exact j_reti d_Main_link_54 rfl rfl
theorem x_link_full2 {n : jN} {h : jH} {P : jP} (hw : ∀ q, tw (P q)) (hP : slo h P) {c : Nat} {m : Int32} (hb : jlk P (nI 2) m = true) (hc0 : h 75 0 = nI c) (hc8 : c ≤ 8) (hc9 : c = 8) : jC n 4 jy_Main_link jc_Main_link 3 (some .int) [.ref 0, .int (nI 2), .int m] h (some (.int (-4))) h := by
  refine jC_of jm_Main_link (L := [some (.ref 0), some (.int (nI 2)), some (.int m)]) (Nat.le_of_ble_eq_true rfl) rfl trivial ?_
  generalize hres : (((some (.int (-4))), h) : Option Value × jH) = res
  refine j_iload_n d_Main_link_0 rfl ?_
  refine j_iconst (v := nI 0) d_Main_link_1 rfl ?_
  refine j_bipush (v := nI 6) d_Main_link_2 (by decide) ?_
  refine j_callSs (As := [.int (nI 2), .int (nI 0), .int (nI 6)]) (st := []) x_outOf d_Main_link_4 (by decide) jm_Main_outOf jk_Main_69 js_Main_outOf rfl (Nat.le_of_ble_eq_true rfl) rfl ?_
  refine j_if_neB_f (tgt := 19) d_Main_link_7 (by decide) (oo_n (by omega) (by omega) (by omega)) ?_
  refine j_aload_n d_Main_link_10 rfl ?_
  refine j_iload_n d_Main_link_11 rfl ?_
  refine j_iload_n d_Main_link_12 rfl ?_
  refine j_callVs (As := [.int (nI 2), .int m]) (st := []) (x_bfk2 hw hP) d_Main_link_13 (by decide) jm_Main_badForKind jk_Main_270 ji_Main_badForKind js_Main_badForKind rfl (by decide) rfl rfl (Nat.le_of_ble_eq_true rfl) rfl ?_
  refine j_if_eqB_t (tgt := 21) d_Main_link_16 (by decide) (by have := hb; rw [jlk_0.2.2.2.1] at this; rw [this]; rfl) ?_
  refine j_aload_n d_Main_link_21 rfl ?_
  refine j_getr (b := 75) d_Main_link_22 jf_Main_52 rfl rfl rfl (by decide) ?_
  refine j_callVs (As := []) (st := []) (x_isFull hc0 hc8) d_Main_link_25 (by decide) jm_Chain_isFull jk_Main_273 ji_Chain_isFull js_Chain_isFull rfl (by decide) rfl rfl (Nat.le_of_ble_eq_true rfl) rfl ?_
  refine j_if_eqB_f (tgt := 34) d_Main_link_28 (by decide) (decide_eq_true (by omega)) ?_
  refine j_bipush (v := -4) d_Main_link_31 (by decide) ?_
  subst hres
  exact j_reti d_Main_link_33 rfl rfl
theorem x_link2 {n : jN} {h : jH} {P : jP} (hw : ∀ q, tw (P q)) (hP : slo h P) {c m : Nat} (hm : m < 6) (h0m : 0 < (P m).1) (hc0 : h 75 0 = nI c) (hc : c < 8) : jC n 4 jy_Main_link jc_Main_link 3 (some .int) [.ref 0, .int (nI 2), .int (nI m)] h (some (.int (nI (c + 1)))) (jup2 (sT (jup2 (jup2 h (89 + 3 * c) 0 (nI 2)) (89 + 3 * c) 1 (nI m)) (90 + 3 * c) (P m)) 75 0 (nI (c + 1))) := by
  refine jC_of jm_Main_link (L := [some (.ref 0), some (.int (nI 2)), some (.int (nI m))]) (Nat.le_of_ble_eq_true rfl) rfl trivial ?_
  generalize hres : (((some (.int (nI (c + 1)))), jup2 (sT (jup2 (jup2 h (89 + 3 * c) 0 (nI 2)) (89 + 3 * c) 1 (nI m)) (90 + 3 * c) (P m)) 75 0 (nI (c + 1))) : Option Value × jH) = res
  have hc8 : c ≤ 8 := by omega
  refine j_iload_n d_Main_link_0 rfl ?_
  refine j_iconst (v := nI 0) d_Main_link_1 rfl ?_
  refine j_bipush (v := nI 6) d_Main_link_2 (by decide) ?_
  refine j_callSs (As := [.int (nI 2), .int (nI 0), .int (nI 6)]) (st := []) x_outOf d_Main_link_4 (by decide) jm_Main_outOf jk_Main_69 js_Main_outOf rfl (Nat.le_of_ble_eq_true rfl) rfl ?_
  refine j_if_neB_f (tgt := 19) d_Main_link_7 (by decide) (oo_n (by omega) (by omega) (by omega)) ?_
  refine j_aload_n d_Main_link_10 rfl ?_
  refine j_iload_n d_Main_link_11 rfl ?_
  refine j_iload_n d_Main_link_12 rfl ?_
  refine j_callVs (As := [.int (nI 2), .int (nI m)]) (st := []) (x_bfk2 hw hP) d_Main_link_13 (by decide) jm_Main_badForKind jk_Main_270 ji_Main_badForKind js_Main_badForKind rfl (by decide) rfl rfl (Nat.le_of_ble_eq_true rfl) rfl ?_
  refine j_if_eqB_t (tgt := 21) d_Main_link_16 (by decide) (ho_n hm h0m) ?_
  refine j_aload_n d_Main_link_21 rfl ?_
  refine j_getr (b := 75) d_Main_link_22 jf_Main_52 rfl rfl rfl (by decide) ?_
  refine j_callVs (As := []) (st := []) (x_isFull hc0 hc8) d_Main_link_25 (by decide) jm_Chain_isFull jk_Main_273 ji_Chain_isFull js_Chain_isFull rfl (by decide) rfl rfl (Nat.le_of_ble_eq_true rfl) rfl ?_
  refine j_if_eqB_t (tgt := 34) d_Main_link_28 (by decide) (decide_eq_false (by omega)) ?_
  refine j_aload_n d_Main_link_34 rfl ?_
  refine j_getr (b := 75) d_Main_link_35 jf_Main_52 rfl rfl rfl (by decide) ?_
  refine j_iload_n d_Main_link_38 rfl ?_
  refine j_iload_n d_Main_link_39 rfl ?_
  refine j_aload_n d_Main_link_40 rfl ?_
  refine j_getr (b := 1) d_Main_link_41 jf_Main_11 rfl rfl rfl (by decide) ?_
  refine j_callVn (As := [.int (nI 2), .int (nI m), .ref 1]) (st := []) (x_append1 hw hP hm hc0 hc (by decide)) d_Main_link_44 (by decide) jm_Chain_append jk_Main_276 ji_Chain_append js_Chain_append rfl (by decide) rfl rfl (Nat.le_of_ble_eq_true rfl) rfl ?_
  refine j_aload_n d_Main_link_47 rfl ?_
  refine j_getr (b := 75) d_Main_link_48 jf_Main_52 rfl rfl rfl (by decide) ?_
  refine j_getv (v := nI (c + 1)) d_Main_link_51 jf_Main_280 rfl rfl jup2_r ?_
  subst hres
  exact j_reti d_Main_link_54 rfl rfl
theorem x_link_full3 {n : jN} {h : jH} {P : jP} (hw : ∀ q, tw (P q)) (hP : slo h P) {c : Nat} {m : Int32} (hb : jlk P (nI 3) m = true) (hc0 : h 75 0 = nI c) (hc8 : c ≤ 8) (hc9 : c = 8) : jC n 4 jy_Main_link jc_Main_link 3 (some .int) [.ref 0, .int (nI 3), .int m] h (some (.int (-4))) h := by
  refine jC_of jm_Main_link (L := [some (.ref 0), some (.int (nI 3)), some (.int m)]) (Nat.le_of_ble_eq_true rfl) rfl trivial ?_
  generalize hres : (((some (.int (-4))), h) : Option Value × jH) = res
  refine j_iload_n d_Main_link_0 rfl ?_
  refine j_iconst (v := nI 0) d_Main_link_1 rfl ?_
  refine j_bipush (v := nI 6) d_Main_link_2 (by decide) ?_
  refine j_callSs (As := [.int (nI 3), .int (nI 0), .int (nI 6)]) (st := []) x_outOf d_Main_link_4 (by decide) jm_Main_outOf jk_Main_69 js_Main_outOf rfl (Nat.le_of_ble_eq_true rfl) rfl ?_
  refine j_if_neB_f (tgt := 19) d_Main_link_7 (by decide) (oo_n (by omega) (by omega) (by omega)) ?_
  refine j_aload_n d_Main_link_10 rfl ?_
  refine j_iload_n d_Main_link_11 rfl ?_
  refine j_iload_n d_Main_link_12 rfl ?_
  refine j_callVs (As := [.int (nI 3), .int m]) (st := []) (x_bfk3 hw hP) d_Main_link_13 (by decide) jm_Main_badForKind jk_Main_270 ji_Main_badForKind js_Main_badForKind rfl (by decide) rfl rfl (Nat.le_of_ble_eq_true rfl) rfl ?_
  refine j_if_eqB_t (tgt := 21) d_Main_link_16 (by decide) (by have := hb; rw [jlk_0.2.2.2.2.2.1] at this; rw [this]; rfl) ?_
  refine j_aload_n d_Main_link_21 rfl ?_
  refine j_getr (b := 75) d_Main_link_22 jf_Main_52 rfl rfl rfl (by decide) ?_
  refine j_callVs (As := []) (st := []) (x_isFull hc0 hc8) d_Main_link_25 (by decide) jm_Chain_isFull jk_Main_273 ji_Chain_isFull js_Chain_isFull rfl (by decide) rfl rfl (Nat.le_of_ble_eq_true rfl) rfl ?_
  refine j_if_eqB_f (tgt := 34) d_Main_link_28 (by decide) (decide_eq_true (by omega)) ?_
  refine j_bipush (v := -4) d_Main_link_31 (by decide) ?_
  subst hres
  exact j_reti d_Main_link_33 rfl rfl
theorem x_link3 {n : jN} {h : jH} {P : jP} (hw : ∀ q, tw (P q)) (hP : slo h P) {c : Nat} {m : Int32} (hb : jlk P (nI 3) m = true) (hc0 : h 75 0 = nI c) (hc : c < 8) : jC n 4 jy_Main_link jc_Main_link 3 (some .int) [.ref 0, .int (nI 3), .int m] h (some (.int (nI (c + 1)))) (jup2 (jup2 (jup2 h (89 + 3 * c) 0 (nI 3)) (89 + 3 * c) 1 m) 75 0 (nI (c + 1))) := by
  refine jC_of jm_Main_link (L := [some (.ref 0), some (.int (nI 3)), some (.int m)]) (Nat.le_of_ble_eq_true rfl) rfl trivial ?_
  generalize hres : (((some (.int (nI (c + 1)))), jup2 (jup2 (jup2 h (89 + 3 * c) 0 (nI 3)) (89 + 3 * c) 1 m) 75 0 (nI (c + 1))) : Option Value × jH) = res
  have hc8 : c ≤ 8 := by omega
  refine j_iload_n d_Main_link_0 rfl ?_
  refine j_iconst (v := nI 0) d_Main_link_1 rfl ?_
  refine j_bipush (v := nI 6) d_Main_link_2 (by decide) ?_
  refine j_callSs (As := [.int (nI 3), .int (nI 0), .int (nI 6)]) (st := []) x_outOf d_Main_link_4 (by decide) jm_Main_outOf jk_Main_69 js_Main_outOf rfl (Nat.le_of_ble_eq_true rfl) rfl ?_
  refine j_if_neB_f (tgt := 19) d_Main_link_7 (by decide) (oo_n (by omega) (by omega) (by omega)) ?_
  refine j_aload_n d_Main_link_10 rfl ?_
  refine j_iload_n d_Main_link_11 rfl ?_
  refine j_iload_n d_Main_link_12 rfl ?_
  refine j_callVs (As := [.int (nI 3), .int m]) (st := []) (x_bfk3 hw hP) d_Main_link_13 (by decide) jm_Main_badForKind jk_Main_270 ji_Main_badForKind js_Main_badForKind rfl (by decide) rfl rfl (Nat.le_of_ble_eq_true rfl) rfl ?_
  refine j_if_eqB_t (tgt := 21) d_Main_link_16 (by decide) (by have := hb; rw [jlk_0.2.2.2.2.2.1] at this; rw [this]; rfl) ?_
  refine j_aload_n d_Main_link_21 rfl ?_
  refine j_getr (b := 75) d_Main_link_22 jf_Main_52 rfl rfl rfl (by decide) ?_
  refine j_callVs (As := []) (st := []) (x_isFull hc0 hc8) d_Main_link_25 (by decide) jm_Chain_isFull jk_Main_273 ji_Chain_isFull js_Chain_isFull rfl (by decide) rfl rfl (Nat.le_of_ble_eq_true rfl) rfl ?_
  refine j_if_eqB_t (tgt := 34) d_Main_link_28 (by decide) (decide_eq_false (by omega)) ?_
  refine j_aload_n d_Main_link_34 rfl ?_
  refine j_getr (b := 75) d_Main_link_35 jf_Main_52 rfl rfl rfl (by decide) ?_
  refine j_iload_n d_Main_link_38 rfl ?_
  refine j_iload_n d_Main_link_39 rfl ?_
  refine j_aload_n d_Main_link_40 rfl ?_
  refine j_getr (b := 1) d_Main_link_41 jf_Main_11 rfl rfl rfl (by decide) ?_
  refine j_callVn (As := [.int (nI 3), .int m, .ref 1]) (st := []) (x_append0 hc0 hc (by decide) (by decide) (by decide)) d_Main_link_44 (by decide) jm_Chain_append jk_Main_276 ji_Chain_append js_Chain_append rfl (by decide) rfl rfl (Nat.le_of_ble_eq_true rfl) rfl ?_
  refine j_aload_n d_Main_link_47 rfl ?_
  refine j_getr (b := 75) d_Main_link_48 jf_Main_52 rfl rfl rfl (by decide) ?_
  refine j_getv (v := nI (c + 1)) d_Main_link_51 jf_Main_280 rfl rfl jup2_r ?_
  subst hres
  exact j_reti d_Main_link_54 rfl rfl
theorem x_link_full4 {n : jN} {h : jH} {P : jP} (hw : ∀ q, tw (P q)) (hP : slo h P) {c : Nat} {m : Int32} (hb : jlk P (nI 4) m = true) (hc0 : h 75 0 = nI c) (hc8 : c ≤ 8) (hc9 : c = 8) : jC n 4 jy_Main_link jc_Main_link 3 (some .int) [.ref 0, .int (nI 4), .int m] h (some (.int (-4))) h := by
  refine jC_of jm_Main_link (L := [some (.ref 0), some (.int (nI 4)), some (.int m)]) (Nat.le_of_ble_eq_true rfl) rfl trivial ?_
  generalize hres : (((some (.int (-4))), h) : Option Value × jH) = res
  refine j_iload_n d_Main_link_0 rfl ?_
  refine j_iconst (v := nI 0) d_Main_link_1 rfl ?_
  refine j_bipush (v := nI 6) d_Main_link_2 (by decide) ?_
  refine j_callSs (As := [.int (nI 4), .int (nI 0), .int (nI 6)]) (st := []) x_outOf d_Main_link_4 (by decide) jm_Main_outOf jk_Main_69 js_Main_outOf rfl (Nat.le_of_ble_eq_true rfl) rfl ?_
  refine j_if_neB_f (tgt := 19) d_Main_link_7 (by decide) (oo_n (by omega) (by omega) (by omega)) ?_
  refine j_aload_n d_Main_link_10 rfl ?_
  refine j_iload_n d_Main_link_11 rfl ?_
  refine j_iload_n d_Main_link_12 rfl ?_
  refine j_callVs (As := [.int (nI 4), .int m]) (st := []) (x_bfk4 hw hP) d_Main_link_13 (by decide) jm_Main_badForKind jk_Main_270 ji_Main_badForKind js_Main_badForKind rfl (by decide) rfl rfl (Nat.le_of_ble_eq_true rfl) rfl ?_
  refine j_if_eqB_t (tgt := 21) d_Main_link_16 (by decide) (by have := hb; rw [jlk_0.2.2.2.2.2.2] at this; rw [oo_jin (by omega) (by omega)]; exact (by rw [show jin m ((0 : Nat) : Int) ((99 : Nat) : Int) = true from this]; rfl)) ?_
  refine j_aload_n d_Main_link_21 rfl ?_
  refine j_getr (b := 75) d_Main_link_22 jf_Main_52 rfl rfl rfl (by decide) ?_
  refine j_callVs (As := []) (st := []) (x_isFull hc0 hc8) d_Main_link_25 (by decide) jm_Chain_isFull jk_Main_273 ji_Chain_isFull js_Chain_isFull rfl (by decide) rfl rfl (Nat.le_of_ble_eq_true rfl) rfl ?_
  refine j_if_eqB_f (tgt := 34) d_Main_link_28 (by decide) (decide_eq_true (by omega)) ?_
  refine j_bipush (v := -4) d_Main_link_31 (by decide) ?_
  subst hres
  exact j_reti d_Main_link_33 rfl rfl
theorem x_link4 {n : jN} {h : jH} {P : jP} (hw : ∀ q, tw (P q)) (hP : slo h P) {c : Nat} {m : Int32} (hb : jlk P (nI 4) m = true) (hc0 : h 75 0 = nI c) (hc : c < 8) : jC n 4 jy_Main_link jc_Main_link 3 (some .int) [.ref 0, .int (nI 4), .int m] h (some (.int (nI (c + 1)))) (jup2 (jup2 (jup2 h (89 + 3 * c) 0 (nI 4)) (89 + 3 * c) 1 m) 75 0 (nI (c + 1))) := by
  refine jC_of jm_Main_link (L := [some (.ref 0), some (.int (nI 4)), some (.int m)]) (Nat.le_of_ble_eq_true rfl) rfl trivial ?_
  generalize hres : (((some (.int (nI (c + 1)))), jup2 (jup2 (jup2 h (89 + 3 * c) 0 (nI 4)) (89 + 3 * c) 1 m) 75 0 (nI (c + 1))) : Option Value × jH) = res
  have hc8 : c ≤ 8 := by omega
  refine j_iload_n d_Main_link_0 rfl ?_
  refine j_iconst (v := nI 0) d_Main_link_1 rfl ?_
  refine j_bipush (v := nI 6) d_Main_link_2 (by decide) ?_
  refine j_callSs (As := [.int (nI 4), .int (nI 0), .int (nI 6)]) (st := []) x_outOf d_Main_link_4 (by decide) jm_Main_outOf jk_Main_69 js_Main_outOf rfl (Nat.le_of_ble_eq_true rfl) rfl ?_
  refine j_if_neB_f (tgt := 19) d_Main_link_7 (by decide) (oo_n (by omega) (by omega) (by omega)) ?_
  refine j_aload_n d_Main_link_10 rfl ?_
  refine j_iload_n d_Main_link_11 rfl ?_
  refine j_iload_n d_Main_link_12 rfl ?_
  refine j_callVs (As := [.int (nI 4), .int m]) (st := []) (x_bfk4 hw hP) d_Main_link_13 (by decide) jm_Main_badForKind jk_Main_270 ji_Main_badForKind js_Main_badForKind rfl (by decide) rfl rfl (Nat.le_of_ble_eq_true rfl) rfl ?_
  refine j_if_eqB_t (tgt := 21) d_Main_link_16 (by decide) (by have := hb; rw [jlk_0.2.2.2.2.2.2] at this; rw [oo_jin (by omega) (by omega)]; exact (by rw [show jin m ((0 : Nat) : Int) ((99 : Nat) : Int) = true from this]; rfl)) ?_
  refine j_aload_n d_Main_link_21 rfl ?_
  refine j_getr (b := 75) d_Main_link_22 jf_Main_52 rfl rfl rfl (by decide) ?_
  refine j_callVs (As := []) (st := []) (x_isFull hc0 hc8) d_Main_link_25 (by decide) jm_Chain_isFull jk_Main_273 ji_Chain_isFull js_Chain_isFull rfl (by decide) rfl rfl (Nat.le_of_ble_eq_true rfl) rfl ?_
  refine j_if_eqB_t (tgt := 34) d_Main_link_28 (by decide) (decide_eq_false (by omega)) ?_
  refine j_aload_n d_Main_link_34 rfl ?_
  refine j_getr (b := 75) d_Main_link_35 jf_Main_52 rfl rfl rfl (by decide) ?_
  refine j_iload_n d_Main_link_38 rfl ?_
  refine j_iload_n d_Main_link_39 rfl ?_
  refine j_aload_n d_Main_link_40 rfl ?_
  refine j_getr (b := 1) d_Main_link_41 jf_Main_11 rfl rfl rfl (by decide) ?_
  refine j_callVn (As := [.int (nI 4), .int m, .ref 1]) (st := []) (x_append0 hc0 hc (by decide) (by decide) (by decide)) d_Main_link_44 (by decide) jm_Chain_append jk_Main_276 ji_Chain_append js_Chain_append rfl (by decide) rfl rfl (Nat.le_of_ble_eq_true rfl) rfl ?_
  refine j_aload_n d_Main_link_47 rfl ?_
  refine j_getr (b := 75) d_Main_link_48 jf_Main_52 rfl rfl rfl (by decide) ?_
  refine j_getv (v := nI (c + 1)) d_Main_link_51 jf_Main_280 rfl rfl jup2_r ?_
  subst hres
  exact j_reti d_Main_link_54 rfl rfl
theorem x_link_full5 {n : jN} {h : jH} {P : jP} (hw : ∀ q, tw (P q)) (hP : slo h P) {c : Nat} {m : Int32} (hb : jlk P (nI 5) m = true) (hc0 : h 75 0 = nI c) (hc8 : c ≤ 8) (hc9 : c = 8) : jC n 4 jy_Main_link jc_Main_link 3 (some .int) [.ref 0, .int (nI 5), .int m] h (some (.int (-4))) h := by
  refine jC_of jm_Main_link (L := [some (.ref 0), some (.int (nI 5)), some (.int m)]) (Nat.le_of_ble_eq_true rfl) rfl trivial ?_
  generalize hres : (((some (.int (-4))), h) : Option Value × jH) = res
  refine j_iload_n d_Main_link_0 rfl ?_
  refine j_iconst (v := nI 0) d_Main_link_1 rfl ?_
  refine j_bipush (v := nI 6) d_Main_link_2 (by decide) ?_
  refine j_callSs (As := [.int (nI 5), .int (nI 0), .int (nI 6)]) (st := []) x_outOf d_Main_link_4 (by decide) jm_Main_outOf jk_Main_69 js_Main_outOf rfl (Nat.le_of_ble_eq_true rfl) rfl ?_
  refine j_if_neB_f (tgt := 19) d_Main_link_7 (by decide) (oo_n (by omega) (by omega) (by omega)) ?_
  refine j_aload_n d_Main_link_10 rfl ?_
  refine j_iload_n d_Main_link_11 rfl ?_
  refine j_iload_n d_Main_link_12 rfl ?_
  refine j_callVs (As := [.int (nI 5), .int m]) (st := []) (x_bfk5 hw hP) d_Main_link_13 (by decide) jm_Main_badForKind jk_Main_270 ji_Main_badForKind js_Main_badForKind rfl (by decide) rfl rfl (Nat.le_of_ble_eq_true rfl) rfl ?_
  refine j_if_eqN_t (tgt := 21) d_Main_link_16 (by decide) (by omega) (by decide) ?_
  refine j_aload_n d_Main_link_21 rfl ?_
  refine j_getr (b := 75) d_Main_link_22 jf_Main_52 rfl rfl rfl (by decide) ?_
  refine j_callVs (As := []) (st := []) (x_isFull hc0 hc8) d_Main_link_25 (by decide) jm_Chain_isFull jk_Main_273 ji_Chain_isFull js_Chain_isFull rfl (by decide) rfl rfl (Nat.le_of_ble_eq_true rfl) rfl ?_
  refine j_if_eqB_f (tgt := 34) d_Main_link_28 (by decide) (decide_eq_true (by omega)) ?_
  refine j_bipush (v := -4) d_Main_link_31 (by decide) ?_
  subst hres
  exact j_reti d_Main_link_33 rfl rfl
theorem x_link5 {n : jN} {h : jH} {P : jP} (hw : ∀ q, tw (P q)) (hP : slo h P) {c : Nat} {m : Int32} (hb : jlk P (nI 5) m = true) (hc0 : h 75 0 = nI c) (hc : c < 8) : jC n 4 jy_Main_link jc_Main_link 3 (some .int) [.ref 0, .int (nI 5), .int m] h (some (.int (nI (c + 1)))) (jup2 (jup2 (jup2 h (89 + 3 * c) 0 (nI 5)) (89 + 3 * c) 1 m) 75 0 (nI (c + 1))) := by
  refine jC_of jm_Main_link (L := [some (.ref 0), some (.int (nI 5)), some (.int m)]) (Nat.le_of_ble_eq_true rfl) rfl trivial ?_
  generalize hres : (((some (.int (nI (c + 1)))), jup2 (jup2 (jup2 h (89 + 3 * c) 0 (nI 5)) (89 + 3 * c) 1 m) 75 0 (nI (c + 1))) : Option Value × jH) = res
  have hc8 : c ≤ 8 := by omega
  refine j_iload_n d_Main_link_0 rfl ?_
  refine j_iconst (v := nI 0) d_Main_link_1 rfl ?_
  refine j_bipush (v := nI 6) d_Main_link_2 (by decide) ?_
  refine j_callSs (As := [.int (nI 5), .int (nI 0), .int (nI 6)]) (st := []) x_outOf d_Main_link_4 (by decide) jm_Main_outOf jk_Main_69 js_Main_outOf rfl (Nat.le_of_ble_eq_true rfl) rfl ?_
  refine j_if_neB_f (tgt := 19) d_Main_link_7 (by decide) (oo_n (by omega) (by omega) (by omega)) ?_
  refine j_aload_n d_Main_link_10 rfl ?_
  refine j_iload_n d_Main_link_11 rfl ?_
  refine j_iload_n d_Main_link_12 rfl ?_
  refine j_callVs (As := [.int (nI 5), .int m]) (st := []) (x_bfk5 hw hP) d_Main_link_13 (by decide) jm_Main_badForKind jk_Main_270 ji_Main_badForKind js_Main_badForKind rfl (by decide) rfl rfl (Nat.le_of_ble_eq_true rfl) rfl ?_
  refine j_if_eqN_t (tgt := 21) d_Main_link_16 (by decide) (by omega) (by decide) ?_
  refine j_aload_n d_Main_link_21 rfl ?_
  refine j_getr (b := 75) d_Main_link_22 jf_Main_52 rfl rfl rfl (by decide) ?_
  refine j_callVs (As := []) (st := []) (x_isFull hc0 hc8) d_Main_link_25 (by decide) jm_Chain_isFull jk_Main_273 ji_Chain_isFull js_Chain_isFull rfl (by decide) rfl rfl (Nat.le_of_ble_eq_true rfl) rfl ?_
  refine j_if_eqB_t (tgt := 34) d_Main_link_28 (by decide) (decide_eq_false (by omega)) ?_
  refine j_aload_n d_Main_link_34 rfl ?_
  refine j_getr (b := 75) d_Main_link_35 jf_Main_52 rfl rfl rfl (by decide) ?_
  refine j_iload_n d_Main_link_38 rfl ?_
  refine j_iload_n d_Main_link_39 rfl ?_
  refine j_aload_n d_Main_link_40 rfl ?_
  refine j_getr (b := 1) d_Main_link_41 jf_Main_11 rfl rfl rfl (by decide) ?_
  refine j_callVn (As := [.int (nI 5), .int m, .ref 1]) (st := []) (x_append0 hc0 hc (by decide) (by decide) (by decide)) d_Main_link_44 (by decide) jm_Chain_append jk_Main_276 ji_Chain_append js_Chain_append rfl (by decide) rfl rfl (Nat.le_of_ble_eq_true rfl) rfl ?_
  refine j_aload_n d_Main_link_47 rfl ?_
  refine j_getr (b := 75) d_Main_link_48 jf_Main_52 rfl rfl rfl (by decide) ?_
  refine j_getv (v := nI (c + 1)) d_Main_link_51 jf_Main_280 rfl rfl jup2_r ?_
  subst hres
  exact j_reti d_Main_link_54 rfl rfl
theorem x_link_full6 {n : jN} {h : jH} {P : jP} (hw : ∀ q, tw (P q)) (hP : slo h P) {c : Nat} {m : Int32} (hb : jlk P (nI 6) m = true) (hc0 : h 75 0 = nI c) (hc8 : c ≤ 8) (hc9 : c = 8) : jC n 4 jy_Main_link jc_Main_link 3 (some .int) [.ref 0, .int (nI 6), .int m] h (some (.int (-4))) h := by
  refine jC_of jm_Main_link (L := [some (.ref 0), some (.int (nI 6)), some (.int m)]) (Nat.le_of_ble_eq_true rfl) rfl trivial ?_
  generalize hres : (((some (.int (-4))), h) : Option Value × jH) = res
  refine j_iload_n d_Main_link_0 rfl ?_
  refine j_iconst (v := nI 0) d_Main_link_1 rfl ?_
  refine j_bipush (v := nI 6) d_Main_link_2 (by decide) ?_
  refine j_callSs (As := [.int (nI 6), .int (nI 0), .int (nI 6)]) (st := []) x_outOf d_Main_link_4 (by decide) jm_Main_outOf jk_Main_69 js_Main_outOf rfl (Nat.le_of_ble_eq_true rfl) rfl ?_
  refine j_if_neB_f (tgt := 19) d_Main_link_7 (by decide) (oo_n (by omega) (by omega) (by omega)) ?_
  refine j_aload_n d_Main_link_10 rfl ?_
  refine j_iload_n d_Main_link_11 rfl ?_
  refine j_iload_n d_Main_link_12 rfl ?_
  refine j_callVs (As := [.int (nI 6), .int m]) (st := []) (x_bfk6 hw hP) d_Main_link_13 (by decide) jm_Main_badForKind jk_Main_270 ji_Main_badForKind js_Main_badForKind rfl (by decide) rfl rfl (Nat.le_of_ble_eq_true rfl) rfl ?_
  refine j_if_eqB_t (tgt := 21) d_Main_link_16 (by decide) (by have := hb; rw [jlk_0.2.2.2.2.1] at this; rw [this]; rfl) ?_
  refine j_aload_n d_Main_link_21 rfl ?_
  refine j_getr (b := 75) d_Main_link_22 jf_Main_52 rfl rfl rfl (by decide) ?_
  refine j_callVs (As := []) (st := []) (x_isFull hc0 hc8) d_Main_link_25 (by decide) jm_Chain_isFull jk_Main_273 ji_Chain_isFull js_Chain_isFull rfl (by decide) rfl rfl (Nat.le_of_ble_eq_true rfl) rfl ?_
  refine j_if_eqB_f (tgt := 34) d_Main_link_28 (by decide) (decide_eq_true (by omega)) ?_
  refine j_bipush (v := -4) d_Main_link_31 (by decide) ?_
  subst hres
  exact j_reti d_Main_link_33 rfl rfl
theorem x_link6 {n : jN} {h : jH} {P : jP} (hw : ∀ q, tw (P q)) (hP : slo h P) {c m : Nat} (hm : m < 6) (h0m : 0 < (P m).1) (hc0 : h 75 0 = nI c) (hc : c < 8) : jC n 4 jy_Main_link jc_Main_link 3 (some .int) [.ref 0, .int (nI 6), .int (nI m)] h (some (.int (nI (c + 1)))) (jup2 (sT (jup2 (jup2 h (89 + 3 * c) 0 (nI 6)) (89 + 3 * c) 1 (nI m)) (90 + 3 * c) (P m)) 75 0 (nI (c + 1))) := by
  refine jC_of jm_Main_link (L := [some (.ref 0), some (.int (nI 6)), some (.int (nI m))]) (Nat.le_of_ble_eq_true rfl) rfl trivial ?_
  generalize hres : (((some (.int (nI (c + 1)))), jup2 (sT (jup2 (jup2 h (89 + 3 * c) 0 (nI 6)) (89 + 3 * c) 1 (nI m)) (90 + 3 * c) (P m)) 75 0 (nI (c + 1))) : Option Value × jH) = res
  have hc8 : c ≤ 8 := by omega
  refine j_iload_n d_Main_link_0 rfl ?_
  refine j_iconst (v := nI 0) d_Main_link_1 rfl ?_
  refine j_bipush (v := nI 6) d_Main_link_2 (by decide) ?_
  refine j_callSs (As := [.int (nI 6), .int (nI 0), .int (nI 6)]) (st := []) x_outOf d_Main_link_4 (by decide) jm_Main_outOf jk_Main_69 js_Main_outOf rfl (Nat.le_of_ble_eq_true rfl) rfl ?_
  refine j_if_neB_f (tgt := 19) d_Main_link_7 (by decide) (oo_n (by omega) (by omega) (by omega)) ?_
  refine j_aload_n d_Main_link_10 rfl ?_
  refine j_iload_n d_Main_link_11 rfl ?_
  refine j_iload_n d_Main_link_12 rfl ?_
  refine j_callVs (As := [.int (nI 6), .int (nI m)]) (st := []) (x_bfk6 hw hP) d_Main_link_13 (by decide) jm_Main_badForKind jk_Main_270 ji_Main_badForKind js_Main_badForKind rfl (by decide) rfl rfl (Nat.le_of_ble_eq_true rfl) rfl ?_
  refine j_if_eqB_t (tgt := 21) d_Main_link_16 (by decide) (ho_n hm h0m) ?_
  refine j_aload_n d_Main_link_21 rfl ?_
  refine j_getr (b := 75) d_Main_link_22 jf_Main_52 rfl rfl rfl (by decide) ?_
  refine j_callVs (As := []) (st := []) (x_isFull hc0 hc8) d_Main_link_25 (by decide) jm_Chain_isFull jk_Main_273 ji_Chain_isFull js_Chain_isFull rfl (by decide) rfl rfl (Nat.le_of_ble_eq_true rfl) rfl ?_
  refine j_if_eqB_t (tgt := 34) d_Main_link_28 (by decide) (decide_eq_false (by omega)) ?_
  refine j_aload_n d_Main_link_34 rfl ?_
  refine j_getr (b := 75) d_Main_link_35 jf_Main_52 rfl rfl rfl (by decide) ?_
  refine j_iload_n d_Main_link_38 rfl ?_
  refine j_iload_n d_Main_link_39 rfl ?_
  refine j_aload_n d_Main_link_40 rfl ?_
  refine j_getr (b := 1) d_Main_link_41 jf_Main_11 rfl rfl rfl (by decide) ?_
  refine j_callVn (As := [.int (nI 6), .int (nI m), .ref 1]) (st := []) (x_append1 hw hP hm hc0 hc (by decide)) d_Main_link_44 (by decide) jm_Chain_append jk_Main_276 ji_Chain_append js_Chain_append rfl (by decide) rfl rfl (Nat.le_of_ble_eq_true rfl) rfl ?_
  refine j_aload_n d_Main_link_47 rfl ?_
  refine j_getr (b := 75) d_Main_link_48 jf_Main_52 rfl rfl rfl (by decide) ?_
  refine j_getv (v := nI (c + 1)) d_Main_link_51 jf_Main_280 rfl rfl jup2_r ?_
  subst hres
  exact j_reti d_Main_link_54 rfl rfl
theorem x_closing_bad {n : jN} {h : jH} {b : Nat} {i : Int32} (hb0 : h 75 2 = nI b) (hb : (decide (0 ≤ i) && decide (i < nI b)) = false) : jC n 0 jy_Main_closing jc_Main_closing 2 (some .int) [.ref 0, .int i] h (some (.int (-2))) h := by
  refine jC_of jm_Main_closing (L := [some (.ref 0), some (.int i)]) (Nat.le_of_ble_eq_true rfl) rfl trivial ?_
  generalize hres : (((some (.int (-2))), h) : Option Value × jH) = res
  refine j_iload_n d_Main_closing_0 rfl ?_
  refine j_if_lt (tgt := 15) d_Main_closing_1 (by decide) (fun c1 => ?_) (fun c1 => ?_)
  · refine j_bipush (v := -2) d_Main_closing_15 (by decide) ?_
    refine j_goto (tgt := 29) d_Main_closing_17 (by decide) ?_
    subst hres
    exact j_reti d_Main_closing_29 rfl rfl
  · refine j_iload_n d_Main_closing_4 rfl ?_
    refine j_aload_n d_Main_closing_5 rfl ?_
    refine j_getr (b := 75) d_Main_closing_6 jf_Main_52 rfl rfl rfl (by decide) ?_
    refine j_getv (v := nI b) d_Main_closing_9 jf_Main_288 rfl rfl hb0 ?_
    refine j_icmp_lt (tgt := 20) d_Main_closing_12 (by decide) (fun c2 => ?_) (fun c2 => ?_)
    · exact absurd hb (by rw [decide_eq_true (show 0 ≤ i from by first | exact c1 | exact Int32.not_lt.mp c1), decide_eq_true (show i < nI b from by first | exact c2 | exact Int32.not_le.mp c2)]; decide)
    · refine j_bipush (v := -2) d_Main_closing_15 (by decide) ?_
      refine j_goto (tgt := 29) d_Main_closing_17 (by decide) ?_
      subst hres
      exact j_reti d_Main_closing_29 rfl rfl
theorem x_closing {n : jN} {h : jH} {b i : Nat} (hb0 : h 75 2 = nI b) (hb8 : b ≤ 8) (hi : i < b) (h76 : h 76 i = nI (b - 1 - i)) : jC n 0 jy_Main_closing jc_Main_closing 2 (some .int) [.ref 0, .int (nI i)] h (some (.int (nI (b - 1 - i)))) h := by
  refine jC_of jm_Main_closing (L := [some (.ref 0), some (.int (nI i))]) (Nat.le_of_ble_eq_true rfl) rfl trivial ?_
  generalize hres : (((some (.int (nI (b - 1 - i)))), h) : Option Value × jH) = res
  refine j_iload_n d_Main_closing_0 rfl ?_
  refine j_if_ltN_f (tgt := 15) d_Main_closing_1 (by decide) (by omega) trivial ?_
  refine j_iload_n d_Main_closing_4 rfl ?_
  refine j_aload_n d_Main_closing_5 rfl ?_
  refine j_getr (b := 75) d_Main_closing_6 jf_Main_52 rfl rfl rfl (by decide) ?_
  refine j_getv (v := nI b) d_Main_closing_9 jf_Main_288 rfl rfl hb0 ?_
  refine j_icmp_ltN_t (tgt := 20) d_Main_closing_12 (by decide) (by omega) (by omega) (by omega) ?_
  refine j_aload_n d_Main_closing_20 rfl ?_
  refine j_getr (b := 75) d_Main_closing_21 jf_Main_52 rfl rfl rfl (by decide) ?_
  refine j_getr (b := 76) d_Main_closing_24 jf_Main_291 rfl rfl rfl (by decide) ?_
  refine j_iload_n d_Main_closing_27 rfl ?_
  refine j_ialdN (v := nI (b - 1 - i)) d_Main_closing_28 rfl (by omega) (by decide) h76 ?_
  subst hres
  exact j_reti d_Main_closing_29 rfl rfl
theorem x_reason_bad {n : jN} {h : jH} {b : Nat} {i : Int32} (hb0 : h 75 3 = nI b) (hb : (decide (0 ≤ i) && decide (i < nI b)) = false) : jC n 0 jy_Main_reason jc_Main_reason 2 (some .int) [.ref 0, .int i] h (some (.int (-2))) h := by
  refine jC_of jm_Main_reason (L := [some (.ref 0), some (.int i)]) (Nat.le_of_ble_eq_true rfl) rfl trivial ?_
  generalize hres : (((some (.int (-2))), h) : Option Value × jH) = res
  refine j_iload_n d_Main_reason_0 rfl ?_
  refine j_if_lt (tgt := 15) d_Main_reason_1 (by decide) (fun c1 => ?_) (fun c1 => ?_)
  · refine j_bipush (v := -2) d_Main_reason_15 (by decide) ?_
    refine j_goto (tgt := 29) d_Main_reason_17 (by decide) ?_
    subst hres
    exact j_reti d_Main_reason_29 rfl rfl
  · refine j_iload_n d_Main_reason_4 rfl ?_
    refine j_aload_n d_Main_reason_5 rfl ?_
    refine j_getr (b := 75) d_Main_reason_6 jf_Main_52 rfl rfl rfl (by decide) ?_
    refine j_getv (v := nI b) d_Main_reason_9 jf_Main_294 rfl rfl hb0 ?_
    refine j_icmp_lt (tgt := 20) d_Main_reason_12 (by decide) (fun c2 => ?_) (fun c2 => ?_)
    · exact absurd hb (by rw [decide_eq_true (show 0 ≤ i from by first | exact c1 | exact Int32.not_lt.mp c1), decide_eq_true (show i < nI b from by first | exact c2 | exact Int32.not_le.mp c2)]; decide)
    · refine j_bipush (v := -2) d_Main_reason_15 (by decide) ?_
      refine j_goto (tgt := 29) d_Main_reason_17 (by decide) ?_
      subst hres
      exact j_reti d_Main_reason_29 rfl rfl
theorem x_reason {n : jN} {h : jH} {b i : Nat} (hb0 : h 75 3 = nI b) (hb8 : b ≤ 3) (hi : i < b) : jC n 0 jy_Main_reason jc_Main_reason 2 (some .int) [.ref 0, .int (nI i)] h (some (.int (h 77 i))) h := by
  refine jC_of jm_Main_reason (L := [some (.ref 0), some (.int (nI i))]) (Nat.le_of_ble_eq_true rfl) rfl trivial ?_
  generalize hres : (((some (.int (h 77 i))), h) : Option Value × jH) = res
  refine j_iload_n d_Main_reason_0 rfl ?_
  refine j_if_ltN_f (tgt := 15) d_Main_reason_1 (by decide) (by omega) trivial ?_
  refine j_iload_n d_Main_reason_4 rfl ?_
  refine j_aload_n d_Main_reason_5 rfl ?_
  refine j_getr (b := 75) d_Main_reason_6 jf_Main_52 rfl rfl rfl (by decide) ?_
  refine j_getv (v := nI b) d_Main_reason_9 jf_Main_294 rfl rfl hb0 ?_
  refine j_icmp_ltN_t (tgt := 20) d_Main_reason_12 (by decide) (by omega) (by omega) (by omega) ?_
  refine j_aload_n d_Main_reason_20 rfl ?_
  refine j_getr (b := 75) d_Main_reason_21 jf_Main_52 rfl rfl rfl (by decide) ?_
  refine j_getr (b := 77) d_Main_reason_24 jf_Main_297 rfl rfl rfl (by decide) ?_
  refine j_iload_n d_Main_reason_27 rfl ?_
  refine j_ialdN (v := h 77 i) d_Main_reason_28 rfl (by omega) (by decide) rfl ?_
  subst hres
  exact j_reti d_Main_reason_29 rfl rfl
theorem x_loosen {n : jN} {h : jH} {c : Nat} (hc0 : h 75 0 = nI c) : jC n 0 jy_Main_loosen jc_Main_loosen 2 (some .int) [.ref 0] h (some (.int (nI c))) (jup2 h 75 0 (nI 0)) := by
  refine jC_of jm_Main_loosen (L := [some (.ref 0), none]) (Nat.le_of_ble_eq_true rfl) rfl trivial ?_
  generalize hres : (((some (.int (nI c))), jup2 h 75 0 (nI 0)) : Option Value × jH) = res
  refine j_aload_n d_Main_loosen_0 rfl ?_
  refine j_getr (b := 75) d_Main_loosen_1 jf_Main_52 rfl rfl rfl (by decide) ?_
  refine j_getv (v := nI c) d_Main_loosen_4 jf_Main_280 rfl rfl hc0 ?_
  refine j_istore_n (L' := [some (.ref 0), some (.int (nI c))]) d_Main_loosen_7 (by decide) rfl rfl ?_
  refine j_aload_n d_Main_loosen_8 rfl ?_
  refine j_getr (b := 75) d_Main_loosen_9 jf_Main_52 rfl rfl rfl (by decide) ?_
  refine j_iconst (v := nI 0) d_Main_loosen_12 rfl ?_
  refine j_putv (h' := jup2 h 75 0 (nI 0)) d_Main_loosen_13 jf_Main_280 rfl rfl rfl ?_
  refine j_iload_n d_Main_loosen_16 rfl ?_
  subst hres
  exact j_reti d_Main_loosen_17 rfl rfl
theorem x_undo0 {n : jN} {h : jH} (hsz : h 3 0 = nI 0) : jC n 3 jy_Main_undo jc_Main_undo 2 (some .int) [.ref 0] h (some (.int (-2))) h := by
  refine jC_of jm_Main_undo (L := [some (.ref 0), none]) (Nat.le_of_ble_eq_true rfl) rfl trivial ?_
  generalize hres : (((some (.int (-2))), h) : Option Value × jH) = res
  refine j_aload_n d_Main_undo_0 rfl ?_
  refine j_getr (b := 3) d_Main_undo_1 jf_Main_24 rfl rfl rfl (by decide) ?_
  refine j_getv (v := nI 0) d_Main_undo_4 jf_Main_300 rfl rfl hsz ?_
  refine j_if_neN_f (tgt := 13) d_Main_undo_7 (by decide) (by omega) (by decide) ?_
  refine j_bipush (v := -2) d_Main_undo_10 (by decide) ?_
  subst hres
  exact j_reti d_Main_undo_12 rfl rfl
theorem x_undo {n : jN} {h : jH} {nx sz sl : Nat} {L : jT} (hnx : h 3 1 = nI nx) (hn : nx < 20) (hsz : h 3 0 = nI sz) (hs1 : sz ≤ 20) (hs0 : 0 < sz) (hsl : h 4 (lat nx) = nI sl) (hs6 : sl < 6) (hrl : rep h (6 + 2 * lat nx) L) (hL : tw L) : jC n 3 jy_Main_undo jc_Main_undo 2 (some .int) [.ref 0] h (some (.int (nI sl))) (jup2 (jup2 (sT h (115 + 2 * sl) L) 3 1 (nI (lat nx))) 3 0 (nI (sz - 1))) := by
  refine jC_of jm_Main_undo (L := [some (.ref 0), none]) (Nat.le_of_ble_eq_true rfl) rfl trivial ?_
  generalize hres : (((some (.int (nI sl))), jup2 (jup2 (sT h (115 + 2 * sl) L) 3 1 (nI (lat nx))) 3 0 (nI (sz - 1))) : Option Value × jH) = res
  have hla := lat_lt hn
  refine j_aload_n d_Main_undo_0 rfl ?_
  refine j_getr (b := 3) d_Main_undo_1 jf_Main_24 rfl rfl rfl (by decide) ?_
  refine j_getv (v := nI sz) d_Main_undo_4 jf_Main_300 rfl rfl hsz ?_
  refine j_if_neN_t (tgt := 13) d_Main_undo_7 (by decide) (by omega) (by omega) ?_
  refine j_aload_n d_Main_undo_13 rfl ?_
  refine j_getr (b := 3) d_Main_undo_14 jf_Main_24 rfl rfl rfl (by decide) ?_
  refine j_callVs (As := []) (st := []) (x_latestSlot hnx hn) d_Main_undo_17 (by decide) jm_Log_latestSlot jk_Main_303 ji_Log_latestSlot js_Log_latestSlot rfl (by decide) rfl rfl (Nat.le_of_ble_eq_true rfl) rfl ?_
  refine j_top (w := nI sl) hsl ?_
  refine j_istore_n (L' := [some (.ref 0), some (.int (nI sl))]) d_Main_undo_20 (by decide) rfl rfl ?_
  refine j_aload_n d_Main_undo_21 rfl ?_
  refine j_getr (b := 1) d_Main_undo_22 jf_Main_11 rfl rfl rfl (by decide) ?_
  refine j_iload_n d_Main_undo_25 rfl ?_
  refine j_aaldN (b := 115 + 2 * sl) d_Main_undo_26 rfl (by decide) (by omega) (by decide) (jrf_slot _ (by omega)) (by omega) ?_
  refine j_aload_n d_Main_undo_27 rfl ?_
  refine j_getr (b := 3) d_Main_undo_28 jf_Main_24 rfl rfl rfl (by decide) ?_
  refine j_callVs (As := []) (st := [.ref (115 + 2 * sl)]) (x_latestTable hnx hn) d_Main_undo_31 (by decide) jm_Log_latestTable jk_Main_306 ji_Log_latestTable js_Log_latestTable rfl (by decide) rfl rfl (Nat.le_of_ble_eq_true rfl) rfl ?_
  refine j_callVn (As := [.ref (6 + 2 * lat nx)]) (st := []) (x_become (isT_slot sl hs6) (isT_log (lat nx) hla) (by omega) hrl hL) d_Main_undo_34 (by decide) jm_Table_become jk_Main_85 ji_Table_become js_Table_become (isT_slot sl (by omega)).1 (by decide) rfl rfl (Nat.le_of_ble_eq_true rfl) rfl ?_
  refine j_aload_n d_Main_undo_37 rfl ?_
  refine j_getr (b := 3) d_Main_undo_38 jf_Main_24 rfl rfl rfl (by decide) ?_
  refine j_callVn (As := []) (st := []) (x_dropLatest ((congrFun (sT_f (by omega) (by omega)) 1).trans hnx) hn ((congrFun (sT_f (by omega) (by omega)) 0).trans hsz) hs0 hs1) d_Main_undo_41 (by decide) jm_Log_dropLatest jk_Main_310 ji_Log_dropLatest js_Log_dropLatest rfl (by decide) rfl rfl (Nat.le_of_ble_eq_true rfl) rfl ?_
  refine j_iload_n d_Main_undo_44 rfl ?_
  subst hres
  exact j_reti d_Main_undo_45 rfl rfl
theorem x_run_bad {n : jN} {h : jH} {P : jP} (hw : ∀ q, tw (P q)) (hP : slo h P) {s : Int32} (hb : jho P s = false) : jC n 5 jy_Main_run jc_Main_run 3 (some .int) [.ref 0, .int s] h (some (.int (-1))) h := by
  refine jC_of jm_Main_run (L := [some (.ref 0), some (.int s), none]) (Nat.le_of_ble_eq_true rfl) rfl trivial ?_
  generalize hres : (((some (.int (-1))), h) : Option Value × jH) = res
  refine j_aload_n d_Main_run_0 rfl ?_
  refine j_iload_n d_Main_run_1 rfl ?_
  refine j_callVs (As := [.int s]) (st := []) (x_noTable hw hP) d_Main_run_2 (by decide) jm_Main_noTable jk_Main_103 ji_Main_noTable js_Main_noTable rfl (by decide) rfl rfl (Nat.le_of_ble_eq_true rfl) rfl ?_
  refine j_if_eqB (tgt := 10) d_Main_run_5 (by decide) (fun c1 => ?_) (fun c1 => ?_)
  · exact absurd hb (by simp_all)
  · refine j_iconst (v := -1) d_Main_run_8 rfl ?_
    subst hres
    exact j_reti d_Main_run_9 rfl rfl
theorem x_run_stop {n : jN} {h : jH} {P : jP} {Q : Nat → jT} {kd o : Nat → Nat} {c s : Nat} (hw : ∀ q, tw (P q)) (hP : slo h P) (hs : s < 6) (h0 : 0 < (P s).1) (hlk : lnk h c kd o Q) {l0 : Nat} (hl0 : l0 < c) (hns : ∀ l, l < l0 → kd l = 2 ∨ kd l = 3 ∨ kd l = 6 → (otv P Q (kd l) (o l) l).1 = (mvS P Q kd o (P s) l).1) (hk : kd l0 = 2 ∨ kd l0 = 3 ∨ kd l0 = 6) (hst : ¬ (otv P Q (kd l0) (o l0) l0).1 = (mvS P Q kd o (P s) l0).1) : jC n 5 jy_Main_run jc_Main_run 3 (some .int) [.ref 0, .int (nI s)] h (some (.int (-20 - nI l0))) (gbH (psR h P Q kd o s l0) (l0 + 1) (l0 + 1)) := by
  refine jC_of jm_Main_run (L := [some (.ref 0), some (.int (nI s)), none]) (Nat.le_of_ble_eq_true rfl) rfl trivial ?_
  generalize hres : (((some (.int (-20 - nI l0))), gbH (psR h P Q kd o s l0) (l0 + 1) (l0 + 1)) : Option Value × jH) = res
  have hc8 := hlk.2.1
  refine j_aload_n d_Main_run_0 rfl ?_
  refine j_iload_n d_Main_run_1 rfl ?_
  refine j_callVs (As := [.int (nI s)]) (st := []) (x_noTable hw hP) d_Main_run_2 (by decide) jm_Main_noTable jk_Main_103 ji_Main_noTable js_Main_noTable rfl (by decide) rfl rfl (Nat.le_of_ble_eq_true rfl) rfl ?_
  refine j_if_eqB_t (tgt := 10) d_Main_run_5 (by decide) (ho_n hs h0) ?_
  refine j_aload_n d_Main_run_10 rfl ?_
  refine j_getr (b := 75) d_Main_run_11 jf_Main_52 rfl rfl rfl (by decide) ?_
  refine j_aload_n d_Main_run_14 rfl ?_
  refine j_getr (b := 1) d_Main_run_15 jf_Main_11 rfl rfl rfl (by decide) ?_
  refine j_iload_n d_Main_run_18 rfl ?_
  refine j_aaldN (b := 115 + 2 * s) d_Main_run_19 rfl (by decide) (by omega) (by decide) (jrf_slot _ (by omega)) (by omega) ?_
  refine j_aload_n d_Main_run_20 rfl ?_
  refine j_getr (b := 1) d_Main_run_21 jf_Main_11 rfl rfl rfl (by decide) ?_
  refine j_callVs (As := [.ref (115 + 2 * s), .ref 1]) (st := []) (x_passS hw hP hs h0 hlk hl0 hns hk hst) d_Main_run_24 (by decide) jm_Chain_pass jk_Main_281 ji_Chain_pass js_Chain_pass rfl (by decide) rfl rfl (Nat.le_of_ble_eq_true rfl) rfl ?_
  refine j_istore_n (L' := [some (.ref 0), some (.int (nI s)), some (.int (nI l0))]) d_Main_run_27 (by decide) rfl rfl ?_
  refine j_iload_n d_Main_run_28 rfl ?_
  refine j_if_ltN_f (tgt := 37) d_Main_run_29 (by decide) (by omega) trivial ?_
  refine j_bipush (v := -20) d_Main_run_32 (by decide) ?_
  refine j_iload_n d_Main_run_34 rfl ?_
  refine j_isub d_Main_run_35 ?_
  subst hres
  exact j_reti d_Main_run_36 rfl rfl
theorem x_run {n : jN} {h : jH} {P : jP} {Q : Nat → jT} {kd o : Nat → Nat} {c s : Nat} (hw : ∀ q, tw (P q)) (hP : slo h P) (hs : s < 6) (h0 : 0 < (P s).1) (hlk : lnk h c kd o Q) {nx sz : Nat} (hnx : h 3 1 = nI nx) (hn : nx < 20) (hsz : h 3 0 = nI sz) (hs1 : sz ≤ 20) (hns : ∀ l, l < c → kd l = 2 ∨ kd l = 3 ∨ kd l = 6 → (otv P Q (kd l) (o l) l).1 = (mvS P Q kd o (P s) l).1) : jC n 5 jy_Main_run jc_Main_run 3 (some .int) [.ref 0, .int (nI s)] h (some (.int (nI ((mvS P Q kd o (P s) c).1)))) (holdH (sT (gbH (psH h P Q kd o (P s) c) c c) 113 (mvS P Q kd o (P s) c)) s nx sz (P s) (mvS P Q kd o (P s) c)) := by
  refine jC_of jm_Main_run (L := [some (.ref 0), some (.int (nI s)), none]) (Nat.le_of_ble_eq_true rfl) rfl trivial ?_
  generalize hres : (((some (.int (nI ((mvS P Q kd o (P s) c).1)))), holdH (sT (gbH (psH h P Q kd o (P s) c) c c) 113 (mvS P Q kd o (P s) c)) s nx sz (P s) (mvS P Q kd o (P s) c)) : Option Value × jH) = res
  have hmw : tw (mvS P Q kd o (P s) c) := tw_mvS (hw s) hw (fun l hl => (hlk.2.2.2 l hl).2.1) (fun l hl e => ((hlk.2.2.2 l hl).2.2.2.2.2 e).2) c (Nat.le_refl _)
  have hfr : ∀ a, (a < 85 ∨ 88 < a) → (a < 75 ∨ 83 < a) → (gbH (psH h P Q kd o (P s) c) c c) a = h a := fun a h1 h2 => (gbH_f (by omega) (by omega) c).trans (psH_f h1 h2 c)
  have hr78 : rep (gbH (psH h P Q kd o (P s) c) c c) 78 (mvS P Q kd o (P s) c) := rep_of (gbH_f (by decide) (by decide) c) (gbH_f (by decide) (by decide) c) (psH_r c)
  refine j_aload_n d_Main_run_0 rfl ?_
  refine j_iload_n d_Main_run_1 rfl ?_
  refine j_callVs (As := [.int (nI s)]) (st := []) (x_noTable hw hP) d_Main_run_2 (by decide) jm_Main_noTable jk_Main_103 ji_Main_noTable js_Main_noTable rfl (by decide) rfl rfl (Nat.le_of_ble_eq_true rfl) rfl ?_
  refine j_if_eqB_t (tgt := 10) d_Main_run_5 (by decide) (ho_n hs h0) ?_
  refine j_aload_n d_Main_run_10 rfl ?_
  refine j_getr (b := 75) d_Main_run_11 jf_Main_52 rfl rfl rfl (by decide) ?_
  refine j_aload_n d_Main_run_14 rfl ?_
  refine j_getr (b := 1) d_Main_run_15 jf_Main_11 rfl rfl rfl (by decide) ?_
  refine j_iload_n d_Main_run_18 rfl ?_
  refine j_aaldN (b := 115 + 2 * s) d_Main_run_19 rfl (by decide) (by omega) (by decide) (jrf_slot _ (by omega)) (by omega) ?_
  refine j_aload_n d_Main_run_20 rfl ?_
  refine j_getr (b := 1) d_Main_run_21 jf_Main_11 rfl rfl rfl (by decide) ?_
  refine j_callVs (As := [.ref (115 + 2 * s), .ref 1]) (st := []) (x_pass hw hP hs h0 hlk hns) d_Main_run_24 (by decide) jm_Chain_pass jk_Main_281 ji_Chain_pass js_Chain_pass rfl (by decide) rfl rfl (Nat.le_of_ble_eq_true rfl) rfl ?_
  refine j_istore_n (L' := [some (.ref 0), some (.int (nI s)), some (.int (-1))]) d_Main_run_27 (by decide) rfl rfl ?_
  refine j_iload_n d_Main_run_28 rfl ?_
  refine j_if_lt_t (tgt := 37) d_Main_run_29 (by decide) (by decide) ?_
  refine j_aload_n d_Main_run_37 rfl ?_
  refine j_getr (b := 113) d_Main_run_38 jf_Main_57 rfl rfl rfl (by decide) ?_
  refine j_aload_n d_Main_run_41 rfl ?_
  refine j_getr (b := 75) d_Main_run_42 jf_Main_52 rfl rfl rfl (by decide) ?_
  refine j_getr (b := 78) d_Main_run_45 jf_Main_285 rfl rfl rfl (by decide) ?_
  refine j_callVn (As := [.ref 78]) (st := []) (x_become isT_108 isT_78 (by decide) hr78 hmw) d_Main_run_48 (by decide) jm_Table_become jk_Main_85 ji_Table_become js_Table_become rfl (by decide) rfl rfl (Nat.le_of_ble_eq_true rfl) rfl ?_
  refine j_aload_n d_Main_run_51 rfl ?_
  refine j_iload_n d_Main_run_52 rfl ?_
  refine j_callVs (As := [.int (nI s)]) (st := []) (x_hold (h := sT (gbH (psH h P Q kd o (P s) c) c c) 113 (mvS P Q kd o (P s) c)) hw (fun q hq => rep_of ((sT_f (by omega) (by omega)).trans (hfr _ (by omega) (by omega))) ((sT_f (by omega) (by omega)).trans (hfr _ (by omega) (by omega))) (hP q hq)) ((congrFun ((sT_f (by omega) (by omega)).trans (hfr 3 (by omega) (by omega))) 1).trans hnx) hn ((congrFun ((sT_f (by omega) (by omega)).trans (hfr 3 (by omega) (by omega))) 0).trans hsz) hs1 hs rep_sT hmw) d_Main_run_53 (by decide) jm_Main_hold jk_Main_77 ji_Main_hold js_Main_hold rfl (by decide) rfl rfl (Nat.le_of_ble_eq_true rfl) rfl ?_
  subst hres
  exact j_reti d_Main_run_56 rfl rfl
theorem x_would_bad {n : jN} {h : jH} {P : jP} (hw : ∀ q, tw (P q)) (hP : slo h P) {s : Int32} (hb : jho P s = false) : jC n 5 jy_Main_would jc_Main_would 3 (some .int) [.ref 0, .int s] h (some (.int (-1))) h := by
  refine jC_of jm_Main_would (L := [some (.ref 0), some (.int s), none]) (Nat.le_of_ble_eq_true rfl) rfl trivial ?_
  generalize hres : (((some (.int (-1))), h) : Option Value × jH) = res
  refine j_aload_n d_Main_would_0 rfl ?_
  refine j_iload_n d_Main_would_1 rfl ?_
  refine j_callVs (As := [.int s]) (st := []) (x_noTable hw hP) d_Main_would_2 (by decide) jm_Main_noTable jk_Main_103 ji_Main_noTable js_Main_noTable rfl (by decide) rfl rfl (Nat.le_of_ble_eq_true rfl) rfl ?_
  refine j_if_eqB (tgt := 10) d_Main_would_5 (by decide) (fun c1 => ?_) (fun c1 => ?_)
  · exact absurd hb (by simp_all)
  · refine j_iconst (v := -1) d_Main_would_8 rfl ?_
    subst hres
    exact j_reti d_Main_would_9 rfl rfl
theorem x_would_stop {n : jN} {h : jH} {P : jP} {Q : Nat → jT} {kd o : Nat → Nat} {c s : Nat} (hw : ∀ q, tw (P q)) (hP : slo h P) (hs : s < 6) (h0 : 0 < (P s).1) (hlk : lnk h c kd o Q) {l0 : Nat} (hl0 : l0 < c) (hns : ∀ l, l < l0 → kd l = 2 ∨ kd l = 3 ∨ kd l = 6 → (otv P Q (kd l) (o l) l).1 = (mvS P Q kd o (P s) l).1) (hk : kd l0 = 2 ∨ kd l0 = 3 ∨ kd l0 = 6) (hst : ¬ (otv P Q (kd l0) (o l0) l0).1 = (mvS P Q kd o (P s) l0).1) : jC n 5 jy_Main_would jc_Main_would 3 (some .int) [.ref 0, .int (nI s)] h (some (.int (-20 - nI l0))) (gbH (psR h P Q kd o s l0) (l0 + 1) (l0 + 1)) := by
  refine jC_of jm_Main_would (L := [some (.ref 0), some (.int (nI s)), none]) (Nat.le_of_ble_eq_true rfl) rfl trivial ?_
  generalize hres : (((some (.int (-20 - nI l0))), gbH (psR h P Q kd o s l0) (l0 + 1) (l0 + 1)) : Option Value × jH) = res
  have hc8 := hlk.2.1
  refine j_aload_n d_Main_would_0 rfl ?_
  refine j_iload_n d_Main_would_1 rfl ?_
  refine j_callVs (As := [.int (nI s)]) (st := []) (x_noTable hw hP) d_Main_would_2 (by decide) jm_Main_noTable jk_Main_103 ji_Main_noTable js_Main_noTable rfl (by decide) rfl rfl (Nat.le_of_ble_eq_true rfl) rfl ?_
  refine j_if_eqB_t (tgt := 10) d_Main_would_5 (by decide) (ho_n hs h0) ?_
  refine j_aload_n d_Main_would_10 rfl ?_
  refine j_getr (b := 75) d_Main_would_11 jf_Main_52 rfl rfl rfl (by decide) ?_
  refine j_aload_n d_Main_would_14 rfl ?_
  refine j_getr (b := 1) d_Main_would_15 jf_Main_11 rfl rfl rfl (by decide) ?_
  refine j_iload_n d_Main_would_18 rfl ?_
  refine j_aaldN (b := 115 + 2 * s) d_Main_would_19 rfl (by decide) (by omega) (by decide) (jrf_slot _ (by omega)) (by omega) ?_
  refine j_aload_n d_Main_would_20 rfl ?_
  refine j_getr (b := 1) d_Main_would_21 jf_Main_11 rfl rfl rfl (by decide) ?_
  refine j_callVs (As := [.ref (115 + 2 * s), .ref 1]) (st := []) (x_passS hw hP hs h0 hlk hl0 hns hk hst) d_Main_would_24 (by decide) jm_Chain_pass jk_Main_281 ji_Chain_pass js_Chain_pass rfl (by decide) rfl rfl (Nat.le_of_ble_eq_true rfl) rfl ?_
  refine j_istore_n (L' := [some (.ref 0), some (.int (nI s)), some (.int (nI l0))]) d_Main_would_27 (by decide) rfl rfl ?_
  refine j_iload_n d_Main_would_28 rfl ?_
  refine j_if_ltN_f (tgt := 39) d_Main_would_29 (by decide) (by omega) trivial ?_
  refine j_bipush (v := -20) d_Main_would_32 (by decide) ?_
  refine j_iload_n d_Main_would_34 rfl ?_
  refine j_isub d_Main_would_35 ?_
  refine j_goto (tgt := 49) d_Main_would_36 (by decide) ?_
  subst hres
  exact j_reti d_Main_would_49 rfl rfl
theorem x_would {n : jN} {h : jH} {P : jP} {Q : Nat → jT} {kd o : Nat → Nat} {c s : Nat} (hw : ∀ q, tw (P q)) (hP : slo h P) (hs : s < 6) (h0 : 0 < (P s).1) (hlk : lnk h c kd o Q) (hns : ∀ l, l < c → kd l = 2 ∨ kd l = 3 ∨ kd l = 6 → (otv P Q (kd l) (o l) l).1 = (mvS P Q kd o (P s) l).1) : jC n 5 jy_Main_would jc_Main_would 3 (some .int) [.ref 0, .int (nI s)] h (some (.int (nI (tones (mvS P Q kd o (P s) c) (mvS P Q kd o (P s) c).1)))) (gbH (psH h P Q kd o (P s) c) c c) := by
  refine jC_of jm_Main_would (L := [some (.ref 0), some (.int (nI s)), none]) (Nat.le_of_ble_eq_true rfl) rfl trivial ?_
  generalize hres : (((some (.int (nI (tones (mvS P Q kd o (P s) c) (mvS P Q kd o (P s) c).1)))), gbH (psH h P Q kd o (P s) c) c c) : Option Value × jH) = res
  have hmw : tw (mvS P Q kd o (P s) c) := tw_mvS (hw s) hw (fun l hl => (hlk.2.2.2 l hl).2.1) (fun l hl e => ((hlk.2.2.2 l hl).2.2.2.2.2 e).2) c (Nat.le_refl _)
  have hfr : ∀ a, (a < 85 ∨ 88 < a) → (a < 75 ∨ 83 < a) → (gbH (psH h P Q kd o (P s) c) c c) a = h a := fun a h1 h2 => (gbH_f (by omega) (by omega) c).trans (psH_f h1 h2 c)
  have hr78 : rep (gbH (psH h P Q kd o (P s) c) c c) 78 (mvS P Q kd o (P s) c) := rep_of (gbH_f (by decide) (by decide) c) (gbH_f (by decide) (by decide) c) (psH_r c)
  refine j_aload_n d_Main_would_0 rfl ?_
  refine j_iload_n d_Main_would_1 rfl ?_
  refine j_callVs (As := [.int (nI s)]) (st := []) (x_noTable hw hP) d_Main_would_2 (by decide) jm_Main_noTable jk_Main_103 ji_Main_noTable js_Main_noTable rfl (by decide) rfl rfl (Nat.le_of_ble_eq_true rfl) rfl ?_
  refine j_if_eqB_t (tgt := 10) d_Main_would_5 (by decide) (ho_n hs h0) ?_
  refine j_aload_n d_Main_would_10 rfl ?_
  refine j_getr (b := 75) d_Main_would_11 jf_Main_52 rfl rfl rfl (by decide) ?_
  refine j_aload_n d_Main_would_14 rfl ?_
  refine j_getr (b := 1) d_Main_would_15 jf_Main_11 rfl rfl rfl (by decide) ?_
  refine j_iload_n d_Main_would_18 rfl ?_
  refine j_aaldN (b := 115 + 2 * s) d_Main_would_19 rfl (by decide) (by omega) (by decide) (jrf_slot _ (by omega)) (by omega) ?_
  refine j_aload_n d_Main_would_20 rfl ?_
  refine j_getr (b := 1) d_Main_would_21 jf_Main_11 rfl rfl rfl (by decide) ?_
  refine j_callVs (As := [.ref (115 + 2 * s), .ref 1]) (st := []) (x_pass hw hP hs h0 hlk hns) d_Main_would_24 (by decide) jm_Chain_pass jk_Main_281 ji_Chain_pass js_Chain_pass rfl (by decide) rfl rfl (Nat.le_of_ble_eq_true rfl) rfl ?_
  refine j_istore_n (L' := [some (.ref 0), some (.int (nI s)), some (.int (-1))]) d_Main_would_27 (by decide) rfl rfl ?_
  refine j_iload_n d_Main_would_28 rfl ?_
  refine j_if_lt_t (tgt := 39) d_Main_would_29 (by decide) (by decide) ?_
  refine j_aload_n d_Main_would_39 rfl ?_
  refine j_getr (b := 75) d_Main_would_40 jf_Main_52 rfl rfl rfl (by decide) ?_
  refine j_getr (b := 78) d_Main_would_43 jf_Main_285 rfl rfl rfl (by decide) ?_
  refine j_callVs (As := []) (st := []) (x_ones isT_78 hr78 hmw) d_Main_would_46 (by decide) jm_Table_ones jk_Main_166 ji_Table_ones js_Table_ones rfl (by decide) rfl rfl (Nat.le_of_ble_eq_true rfl) rfl ?_
  subst hres
  exact j_reti d_Main_would_49 rfl rfl

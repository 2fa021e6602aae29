/-- the latest run's numbers -/
def jG (h : jH) (c r : Nat) : jH := fun a => if a = 135 then fun k => if k = 7 then nI c else if k = 8 then nI r else h 135 k else h a
theorem jG_c {h : jH} {c r v : Nat} {P : jP} : jup2 (jM (jG h c r) P) 135 7 (nI v) = jM (jG h v r) P := by
  rw [jM_set_other (by decide) (by decide)]
  congr 1
  funext a k
  simp only [jup2, jG]
  by_cases e : a = 135
  · subst e
    by_cases e2 : k = 7 <;> simp [e2]
  · simp [e]
theorem jG_r {h : jH} {c r v : Nat} {P : jP} : jup2 (jM (jG h c r) P) 135 8 (nI v) = jM (jG h c v) P := by
  rw [jM_set_other (by decide) (by decide)]
  congr 1
  funext a k
  simp only [jup2, jG]
  by_cases e : a = 135
  · subst e
    by_cases e2 : k = 8
    · simp [e2]
    · by_cases e3 : k = 7 <;> simp [e2, e3]
  · simp [e]
theorem jG_a {h : jH} {c r i : Nat} {v : Int32} {P : jP} : jup2 (jM (jG h c r) P) 141 i v = jM (jG (jup2 h 141 i v) c r) P := by
  rw [jM_set_other (by decide) (by decide)]
  congr 1
  funext a k
  simp only [jup2, jG]
  by_cases e : a = 141
  · subst e
    simp [jup2]
  · by_cases e2 : a = 135
    · subst e2
      simp
    · simp [e, e2, jup2]
theorem jG_0 {h : jH} {P : jP} {v : Nat} : jM (jup2 (jup2 h 135 7 (nI v)) 135 8 (nI 0)) P = jM (jG h v 0) P := by
  congr 1
  funext a k
  simp only [jup2, jG]
  by_cases e : a = 135
  · subst e
    by_cases e2 : k = 8
    · simp [e2]
    · by_cases e3 : k = 7 <;> simp [e2, e3]
  · simp [e]
def oth (kd o l : Nat) : Nat := if kd = 3 then o else 26 + l
def stp (kd o l : Nat) (P : jP) : Nat := if kd = 2 ∨ kd = 3 ∨ kd = 6 then (if (P (oth kd o l)).1 = 0 then 100 + o else if (P (oth kd o l)).1 = (P 34).1 then 0 else (P (oth kd o l)).1) else 0
theorem c_otherOf {n : jN} {h : jH} {P : jP} {l kd o : Nat} (hl : l < 8) (hkd : h 139 l = nI kd) (hk7 : kd < 7) (ho : kd = 3 → h 140 l = nI o) : jC n 0 jy_Model_otherOf jc_Model_otherOf 2 (some .int) [.ref 135, .int (nI l)] (jM h P) (some (.int (nI (oth kd o l)))) (jM h P) := by
  refine jC_of jm_Model_otherOf (L := [some (.ref 135), some (.int (nI l))]) (Nat.le_of_ble_eq_true rfl) rfl trivial ?_
  generalize hres : (((some (.int (nI (oth kd o l)))), jM h P) : Option Value × jH) = res
  refine j_aload_n d_Model_otherOf_0 rfl ?_
  refine j_getr (b := 139) d_Model_otherOf_1 jf_Model_19 rfl rfl rfl (by decide) ?_
  refine j_iload_n d_Model_otherOf_4 rfl ?_
  refine j_ialdN (v := nI kd) d_Model_otherOf_5 rfl (by omega) (by decide) hkd ?_
  refine j_iconst (v := nI 3) d_Model_otherOf_6 rfl ?_
  refine j_icmp_neN (tgt := 19) d_Model_otherOf_7 (by decide) (by omega) (by omega) (fun c => ?_) (fun c => ?_)
  · refine j_bipush (v := nI 26) d_Model_otherOf_19 (by decide) ?_
    refine j_iload_n d_Model_otherOf_21 rfl ?_
    refine j_iaddN d_Model_otherOf_22 ?_
    subst hres
    exact j_reti d_Model_otherOf_23 (by rw [oth, if_neg c]) rfl
  · refine j_aload_n d_Model_otherOf_10 rfl ?_
    refine j_getr (b := 140) d_Model_otherOf_11 jf_Model_22 rfl rfl rfl (by decide) ?_
    refine j_iload_n d_Model_otherOf_14 rfl ?_
    refine j_ialdN (v := nI o) d_Model_otherOf_15 rfl (by omega) (by decide) (ho (by omega)) ?_
    refine j_goto (tgt := 23) d_Model_otherOf_16 (by decide) ?_
    subst hres
    exact j_reti d_Model_otherOf_23 (by rw [oth, if_pos c]) rfl
theorem c_stopsAt {n : jN} {h : jH} {P : jP} {l kd o : Nat} (hw : ∀ q, tw (P q)) (hl : l < 8) (hkd : h 139 l = nI kd) (hk7 : kd < 7) (ho : kd = 2 ∨ kd = 3 ∨ kd = 6 → h 140 l = nI o) (ho6 : kd = 3 → o < 6) : jC n 1 jy_Model_stopsAt jc_Model_stopsAt 4 (some .int) [.ref 135, .int (nI l)] (jM h P) (some (.int (nI (stp kd o l P)))) (jM h P) := by
  refine jC_of jm_Model_stopsAt (L := [some (.ref 135), some (.int (nI l)), none, none]) (Nat.le_of_ble_eq_true rfl) rfl trivial ?_
  generalize hres : (((some (.int (nI (stp kd o l P)))), jM h P) : Option Value × jH) = res
  have hoth : oth kd o l < 38 := by unfold oth; split; (have := ho6 (by assumption); omega); omega
  have hwo := (hw (oth kd o l)).1
  have hwa := (hw 34).1
  refine j_aload_n d_Model_stopsAt_0 rfl ?_
  refine j_getr (b := 139) d_Model_stopsAt_1 jf_Model_19 rfl rfl rfl (by decide) ?_
  refine j_iload_n d_Model_stopsAt_4 rfl ?_
  refine j_ialdN (v := nI kd) d_Model_stopsAt_5 rfl (by omega) (by decide) hkd ?_
  refine j_istore_n (L' := [some (.ref 135), some (.int (nI l)), some (.int (nI kd)), none]) d_Model_stopsAt_6 (by decide) rfl rfl ?_
  refine j_iload_n d_Model_stopsAt_7 rfl ?_
  refine j_iconst (v := nI 2) d_Model_stopsAt_8 rfl ?_
  refine j_icmp_eqN (tgt := 25) d_Model_stopsAt_9 (by decide) (by omega) (by omega) (fun c2 => ?_) (fun c2 => ?_)
  · refine j_aload_n d_Model_stopsAt_25 rfl ?_
    refine j_getr (b := 137) d_Model_stopsAt_26 jf_Model_13 rfl rfl rfl (by decide) ?_
    refine j_aload_n d_Model_stopsAt_29 rfl ?_
    refine j_iload_n d_Model_stopsAt_30 rfl ?_
    refine j_callVs (As := [.int (nI l)]) (st := [.ref 137]) (c_otherOf (by omega) hkd hk7 (fun e => ho (by omega))) d_Model_stopsAt_31 (by decide) jm_Model_otherOf jk_Model_255 ji_Model_otherOf js_Model_otherOf rfl (by decide) rfl rfl (Nat.le_of_ble_eq_true rfl) rfl ?_
    refine j_ialdN (v := nI ((P (oth kd o l)).1)) d_Model_stopsAt_34 rfl (by omega) (by decide) rfl ?_
    refine j_istore_n (L' := [some (.ref 135), some (.int (nI l)), some (.int (nI kd)), some (.int (nI ((P (oth kd o l)).1)))]) d_Model_stopsAt_35 (by decide) rfl rfl ?_
    refine j_iload_n d_Model_stopsAt_36 rfl ?_
    refine j_if_neN (tgt := 52) d_Model_stopsAt_37 (by decide) (by omega) (fun d1 => ?_) (fun d1 => ?_)
    · refine j_iload_n d_Model_stopsAt_52 rfl ?_
      refine j_aload_n d_Model_stopsAt_53 rfl ?_
      refine j_getr (b := 137) d_Model_stopsAt_54 jf_Model_13 rfl rfl rfl (by decide) ?_
      refine j_bipush (v := nI 34) d_Model_stopsAt_57 (by decide) ?_
      refine j_ialdN (v := nI ((P 34).1)) d_Model_stopsAt_59 rfl (by omega) (by decide) rfl ?_
      refine j_icmp_eqN (tgt := 67) d_Model_stopsAt_60 (by decide) (by omega) (by omega) (fun d2 => ?_) (fun d2 => ?_)
      · refine j_iconst (v := nI 0) d_Model_stopsAt_67 rfl ?_
        subst hres
        exact j_reti d_Model_stopsAt_68 (by rw [stp, if_pos (by omega), if_neg d1, if_pos d2]) rfl
      · refine j_iload_n d_Model_stopsAt_63 rfl ?_
        refine j_goto (tgt := 68) d_Model_stopsAt_64 (by decide) ?_
        subst hres
        exact j_reti d_Model_stopsAt_68 (by rw [stp, if_pos (by omega), if_neg d1, if_neg d2]) rfl
    · refine j_bipush (v := nI 100) d_Model_stopsAt_40 (by decide) ?_
      refine j_aload_n d_Model_stopsAt_42 rfl ?_
      refine j_getr (b := 140) d_Model_stopsAt_43 jf_Model_22 rfl rfl rfl (by decide) ?_
      refine j_iload_n d_Model_stopsAt_46 rfl ?_
      refine j_ialdN (v := nI o) d_Model_stopsAt_47 rfl (by omega) (by decide) (ho (by omega)) ?_
      refine j_iaddN d_Model_stopsAt_48 ?_
      refine j_goto (tgt := 68) d_Model_stopsAt_49 (by decide) ?_
      subst hres
      exact j_reti d_Model_stopsAt_68 (by rw [stp, if_pos (by omega), if_pos d1]) rfl
  · refine j_iload_n d_Model_stopsAt_12 rfl ?_
    refine j_iconst (v := nI 3) d_Model_stopsAt_13 rfl ?_
    refine j_icmp_eqN (tgt := 25) d_Model_stopsAt_14 (by decide) (by omega) (by omega) (fun c3 => ?_) (fun c3 => ?_)
    · refine j_aload_n d_Model_stopsAt_25 rfl ?_
      refine j_getr (b := 137) d_Model_stopsAt_26 jf_Model_13 rfl rfl rfl (by decide) ?_
      refine j_aload_n d_Model_stopsAt_29 rfl ?_
      refine j_iload_n d_Model_stopsAt_30 rfl ?_
      refine j_callVs (As := [.int (nI l)]) (st := [.ref 137]) (c_otherOf (by omega) hkd hk7 (fun e => ho (by omega))) d_Model_stopsAt_31 (by decide) jm_Model_otherOf jk_Model_255 ji_Model_otherOf js_Model_otherOf rfl (by decide) rfl rfl (Nat.le_of_ble_eq_true rfl) rfl ?_
      refine j_ialdN (v := nI ((P (oth kd o l)).1)) d_Model_stopsAt_34 rfl (by omega) (by decide) rfl ?_
      refine j_istore_n (L' := [some (.ref 135), some (.int (nI l)), some (.int (nI kd)), some (.int (nI ((P (oth kd o l)).1)))]) d_Model_stopsAt_35 (by decide) rfl rfl ?_
      refine j_iload_n d_Model_stopsAt_36 rfl ?_
      refine j_if_neN (tgt := 52) d_Model_stopsAt_37 (by decide) (by omega) (fun d1 => ?_) (fun d1 => ?_)
      · refine j_iload_n d_Model_stopsAt_52 rfl ?_
        refine j_aload_n d_Model_stopsAt_53 rfl ?_
        refine j_getr (b := 137) d_Model_stopsAt_54 jf_Model_13 rfl rfl rfl (by decide) ?_
        refine j_bipush (v := nI 34) d_Model_stopsAt_57 (by decide) ?_
        refine j_ialdN (v := nI ((P 34).1)) d_Model_stopsAt_59 rfl (by omega) (by decide) rfl ?_
        refine j_icmp_eqN (tgt := 67) d_Model_stopsAt_60 (by decide) (by omega) (by omega) (fun d2 => ?_) (fun d2 => ?_)
        · refine j_iconst (v := nI 0) d_Model_stopsAt_67 rfl ?_
          subst hres
          exact j_reti d_Model_stopsAt_68 (by rw [stp, if_pos (by omega), if_neg d1, if_pos d2]) rfl
        · refine j_iload_n d_Model_stopsAt_63 rfl ?_
          refine j_goto (tgt := 68) d_Model_stopsAt_64 (by decide) ?_
          subst hres
          exact j_reti d_Model_stopsAt_68 (by rw [stp, if_pos (by omega), if_neg d1, if_neg d2]) rfl
      · refine j_bipush (v := nI 100) d_Model_stopsAt_40 (by decide) ?_
        refine j_aload_n d_Model_stopsAt_42 rfl ?_
        refine j_getr (b := 140) d_Model_stopsAt_43 jf_Model_22 rfl rfl rfl (by decide) ?_
        refine j_iload_n d_Model_stopsAt_46 rfl ?_
        refine j_ialdN (v := nI o) d_Model_stopsAt_47 rfl (by omega) (by decide) (ho (by omega)) ?_
        refine j_iaddN d_Model_stopsAt_48 ?_
        refine j_goto (tgt := 68) d_Model_stopsAt_49 (by decide) ?_
        subst hres
        exact j_reti d_Model_stopsAt_68 (by rw [stp, if_pos (by omega), if_pos d1]) rfl
    · refine j_iload_n d_Model_stopsAt_17 rfl ?_
      refine j_bipush (v := nI 6) d_Model_stopsAt_18 (by decide) ?_
      refine j_icmp_eqN (tgt := 25) d_Model_stopsAt_20 (by decide) (by omega) (by omega) (fun c6 => ?_) (fun c6 => ?_)
      · refine j_aload_n d_Model_stopsAt_25 rfl ?_
        refine j_getr (b := 137) d_Model_stopsAt_26 jf_Model_13 rfl rfl rfl (by decide) ?_
        refine j_aload_n d_Model_stopsAt_29 rfl ?_
        refine j_iload_n d_Model_stopsAt_30 rfl ?_
        refine j_callVs (As := [.int (nI l)]) (st := [.ref 137]) (c_otherOf (by omega) hkd hk7 (fun e => ho (by omega))) d_Model_stopsAt_31 (by decide) jm_Model_otherOf jk_Model_255 ji_Model_otherOf js_Model_otherOf rfl (by decide) rfl rfl (Nat.le_of_ble_eq_true rfl) rfl ?_
        refine j_ialdN (v := nI ((P (oth kd o l)).1)) d_Model_stopsAt_34 rfl (by omega) (by decide) rfl ?_
        refine j_istore_n (L' := [some (.ref 135), some (.int (nI l)), some (.int (nI kd)), some (.int (nI ((P (oth kd o l)).1)))]) d_Model_stopsAt_35 (by decide) rfl rfl ?_
        refine j_iload_n d_Model_stopsAt_36 rfl ?_
        refine j_if_neN (tgt := 52) d_Model_stopsAt_37 (by decide) (by omega) (fun d1 => ?_) (fun d1 => ?_)
        · refine j_iload_n d_Model_stopsAt_52 rfl ?_
          refine j_aload_n d_Model_stopsAt_53 rfl ?_
          refine j_getr (b := 137) d_Model_stopsAt_54 jf_Model_13 rfl rfl rfl (by decide) ?_
          refine j_bipush (v := nI 34) d_Model_stopsAt_57 (by decide) ?_
          refine j_ialdN (v := nI ((P 34).1)) d_Model_stopsAt_59 rfl (by omega) (by decide) rfl ?_
          refine j_icmp_eqN (tgt := 67) d_Model_stopsAt_60 (by decide) (by omega) (by omega) (fun d2 => ?_) (fun d2 => ?_)
          · refine j_iconst (v := nI 0) d_Model_stopsAt_67 rfl ?_
            subst hres
            exact j_reti d_Model_stopsAt_68 (by rw [stp, if_pos (by omega), if_neg d1, if_pos d2]) rfl
          · refine j_iload_n d_Model_stopsAt_63 rfl ?_
            refine j_goto (tgt := 68) d_Model_stopsAt_64 (by decide) ?_
            subst hres
            exact j_reti d_Model_stopsAt_68 (by rw [stp, if_pos (by omega), if_neg d1, if_neg d2]) rfl
        · refine j_bipush (v := nI 100) d_Model_stopsAt_40 (by decide) ?_
          refine j_aload_n d_Model_stopsAt_42 rfl ?_
          refine j_getr (b := 140) d_Model_stopsAt_43 jf_Model_22 rfl rfl rfl (by decide) ?_
          refine j_iload_n d_Model_stopsAt_46 rfl ?_
          refine j_ialdN (v := nI o) d_Model_stopsAt_47 rfl (by omega) (by decide) (ho (by omega)) ?_
          refine j_iaddN d_Model_stopsAt_48 ?_
          refine j_goto (tgt := 68) d_Model_stopsAt_49 (by decide) ?_
          subst hres
          exact j_reti d_Model_stopsAt_68 (by rw [stp, if_pos (by omega), if_pos d1]) rfl
      · refine j_iconst (v := nI 0) d_Model_stopsAt_23 rfl ?_
        subst hres
        exact j_reti d_Model_stopsAt_24 (by rw [stp, if_neg (by omega)]) rfl
def gt (kd o l : Nat) (P : jP) : jP :=
  let Q := if kd = 0 then jset P 35 (ttr (P 34)) else if kd = 1 then jset (jset P 35 (P 34)) 35 (tco (jset P 35 (P 34) 35)) else if kd = 2 then jset P 35 (tmul (P 34) (P (26 + l)))
    else if kd = 3 then jset (jset P 35 (P 34)) 35 (tadd (jset P 35 (P 34) 35) (jset P 35 (P 34) o)) else if kd = 4 then pwP P 34 o else if kd = 5 then jit (clS 35 34) (P 34).1 (clO 35 34 P)
    else jset (jset P 35 (P 34)) 35 (tmeet (jset P 35 (P 34) 35) (jset P 35 (P 34) (26 + l)))
  jset Q 34 (Q 35)
theorem gt_w {kd o l : Nat} {P : jP} (hw : ∀ q, tw (P q)) : ∀ q, tw (gt kd o l P q) := by
  have h0 := tws (p := 35) hw (hw 34)
  have : ∀ q, tw ((if kd = 0 then jset P 35 (ttr (P 34)) else if kd = 1 then jset (jset P 35 (P 34)) 35 (tco (jset P 35 (P 34) 35)) else if kd = 2 then jset P 35 (tmul (P 34) (P (26 + l)))
    else if kd = 3 then jset (jset P 35 (P 34)) 35 (tadd (jset P 35 (P 34) 35) (jset P 35 (P 34) o)) else if kd = 4 then pwP P 34 o else if kd = 5 then jit (clS 35 34) (P 34).1 (clO 35 34 P)
    else jset (jset P 35 (P 34)) 35 (tmeet (jset P 35 (P 34) 35) (jset P 35 (P 34) (26 + l)))) q) := by
    repeat' split
    · exact tws hw (tw_tr (hw 34))
    · exact tws h0 (tw_co (h0 35))
    · exact tws hw (tw_mul (hw 34) (hw _))
    · exact tws h0 (tw_add (h0 35) (h0 o))
    · exact pwP_w hw
    · exact jit_w (fun Q hq => clS_w hq) (clO_w hw) _
    · exact tws h0 (tw_meet (h0 35) (h0 _))
  exact tws this (this 35)
theorem c_goesThrough {n : jN} {h : jH} {P : jP} {l kd o : Nat} (hw : ∀ q, tw (P q)) (hl : l < 8) (hkd : h 139 l = nI kd) (hk7 : kd < 7) (ho : kd = 3 ∨ kd = 4 → h 140 l = nI o) (ho3 : kd = 3 → o < 6) (h99 : kd = 4 → o ≤ 99) : jC n 3 jy_Model_goesThrough jc_Model_goesThrough 2 none [.ref 135, .int (nI l)] (jM h P) none (jM h (gt kd o l P)) := by
  refine jC_of jm_Model_goesThrough (L := [some (.ref 135), some (.int (nI l))]) (Nat.le_of_ble_eq_true rfl) rfl trivial ?_
  generalize hres : ((none, jM h (gt kd o l P)) : Option Value × jH) = res
  rcases j7 (show (kd : Int) ≤ 6 by omega) with rfl | rfl | rfl | rfl | rfl | rfl | rfl
  · refine j_aload_n d_Model_goesThrough_0 rfl ?_
    refine j_getr (b := 139) d_Model_goesThrough_1 jf_Model_19 rfl rfl rfl (by decide) ?_
    refine j_iload_n d_Model_goesThrough_4 rfl ?_
    refine j_ialdN (v := nI 0) d_Model_goesThrough_5 rfl (by omega) (by decide) hkd ?_
    refine j_swIn (off := 38) (tgt := 44) d_Model_goesThrough_6 (by decide) (by decide) rfl (by decide) ?_
    refine j_aload_n d_Model_goesThrough_44 rfl ?_
    refine j_bipush (v := nI 34) d_Model_goesThrough_45 (by decide) ?_
    refine j_bipush (v := nI 35) d_Model_goesThrough_47 (by decide) ?_
    refine j_callVn (As := [.int (nI 34), .int (nI 35)]) (st := []) (c_transpose (by omega) (by omega) (by omega) hw) d_Model_goesThrough_49 (by decide) jm_Model_transpose jk_Model_95 ji_Model_transpose js_Model_transpose rfl (by decide) rfl rfl (Nat.le_of_ble_eq_true rfl) rfl ?_
    refine j_goto (tgt := 157) d_Model_goesThrough_52 (by decide) ?_
    refine j_aload_n d_Model_goesThrough_157 rfl ?_
    refine j_bipush (v := nI 35) d_Model_goesThrough_158 (by decide) ?_
    refine j_bipush (v := nI 34) d_Model_goesThrough_160 (by decide) ?_
    refine j_callVn (As := [.int (nI 35), .int (nI 34)]) (st := []) (c_copyTo (by omega) (by omega) (by omega)) d_Model_goesThrough_162 (by decide) jm_Model_copyTo jk_Model_85 ji_Model_copyTo js_Model_copyTo rfl (by decide) rfl rfl (Nat.le_of_ble_eq_true rfl) rfl ?_
    subst hres
    exact j_retv d_Model_goesThrough_165 rfl
  · refine j_aload_n d_Model_goesThrough_0 rfl ?_
    refine j_getr (b := 139) d_Model_goesThrough_1 jf_Model_19 rfl rfl rfl (by decide) ?_
    refine j_iload_n d_Model_goesThrough_4 rfl ?_
    refine j_ialdN (v := nI 1) d_Model_goesThrough_5 rfl (by omega) (by decide) hkd ?_
    refine j_swIn (off := 49) (tgt := 55) d_Model_goesThrough_6 (by decide) (by decide) rfl (by decide) ?_
    refine j_aload_n d_Model_goesThrough_55 rfl ?_
    refine j_bipush (v := nI 34) d_Model_goesThrough_56 (by decide) ?_
    refine j_bipush (v := nI 35) d_Model_goesThrough_58 (by decide) ?_
    refine j_callVn (As := [.int (nI 34), .int (nI 35)]) (st := []) (c_copyTo (by omega) (by omega) (by omega)) d_Model_goesThrough_60 (by decide) jm_Model_copyTo jk_Model_85 ji_Model_copyTo js_Model_copyTo rfl (by decide) rfl rfl (Nat.le_of_ble_eq_true rfl) rfl ?_
    refine j_aload_n d_Model_goesThrough_63 rfl ?_
    refine j_bipush (v := nI 35) d_Model_goesThrough_64 (by decide) ?_
    refine j_callVn (As := [.int (nI 35)]) (st := []) (c_complement (by omega) (tws hw (hw 34))) d_Model_goesThrough_66 (by decide) jm_Model_complement jk_Model_98 ji_Model_complement js_Model_complement rfl (by decide) rfl rfl (Nat.le_of_ble_eq_true rfl) rfl ?_
    refine j_goto (tgt := 157) d_Model_goesThrough_69 (by decide) ?_
    refine j_aload_n d_Model_goesThrough_157 rfl ?_
    refine j_bipush (v := nI 35) d_Model_goesThrough_158 (by decide) ?_
    refine j_bipush (v := nI 34) d_Model_goesThrough_160 (by decide) ?_
    refine j_callVn (As := [.int (nI 35), .int (nI 34)]) (st := []) (c_copyTo (by omega) (by omega) (by omega)) d_Model_goesThrough_162 (by decide) jm_Model_copyTo jk_Model_85 ji_Model_copyTo js_Model_copyTo rfl (by decide) rfl rfl (Nat.le_of_ble_eq_true rfl) rfl ?_
    subst hres
    exact j_retv d_Model_goesThrough_165 rfl
  · refine j_aload_n d_Model_goesThrough_0 rfl ?_
    refine j_getr (b := 139) d_Model_goesThrough_1 jf_Model_19 rfl rfl rfl (by decide) ?_
    refine j_iload_n d_Model_goesThrough_4 rfl ?_
    refine j_ialdN (v := nI 2) d_Model_goesThrough_5 rfl (by omega) (by decide) hkd ?_
    refine j_swIn (off := 66) (tgt := 72) d_Model_goesThrough_6 (by decide) (by decide) rfl (by decide) ?_
    refine j_aload_n d_Model_goesThrough_72 rfl ?_
    refine j_bipush (v := nI 34) d_Model_goesThrough_73 (by decide) ?_
    refine j_aload_n d_Model_goesThrough_75 rfl ?_
    refine j_iload_n d_Model_goesThrough_76 rfl ?_
    refine j_callVs (As := [.int (nI l)]) (st := [.int (nI 34), .ref 135]) (c_otherOf (o := o) (by omega) hkd hk7 (fun e => absurd e (by decide))) d_Model_goesThrough_77 (by decide) jm_Model_otherOf jk_Model_255 ji_Model_otherOf js_Model_otherOf rfl (by decide) rfl rfl (Nat.le_of_ble_eq_true rfl) rfl ?_
    refine j_bipush (v := nI 35) d_Model_goesThrough_80 (by decide) ?_
    refine j_callVn (As := [.int (nI 34), .int (nI (26 + l)), .int (nI 35)]) (st := []) (c_multiply (by omega) (by omega) (by omega) (by omega) (by omega) hw) d_Model_goesThrough_82 (by decide) jm_Model_multiply jk_Model_88 ji_Model_multiply js_Model_multiply rfl (by decide) rfl rfl (Nat.le_of_ble_eq_true rfl) rfl ?_
    refine j_goto (tgt := 157) d_Model_goesThrough_85 (by decide) ?_
    refine j_aload_n d_Model_goesThrough_157 rfl ?_
    refine j_bipush (v := nI 35) d_Model_goesThrough_158 (by decide) ?_
    refine j_bipush (v := nI 34) d_Model_goesThrough_160 (by decide) ?_
    refine j_callVn (As := [.int (nI 35), .int (nI 34)]) (st := []) (c_copyTo (by omega) (by omega) (by omega)) d_Model_goesThrough_162 (by decide) jm_Model_copyTo jk_Model_85 ji_Model_copyTo js_Model_copyTo rfl (by decide) rfl rfl (Nat.le_of_ble_eq_true rfl) rfl ?_
    subst hres
    exact j_retv d_Model_goesThrough_165 rfl
  · have ho6 := ho3 rfl
    refine j_aload_n d_Model_goesThrough_0 rfl ?_
    refine j_getr (b := 139) d_Model_goesThrough_1 jf_Model_19 rfl rfl rfl (by decide) ?_
    refine j_iload_n d_Model_goesThrough_4 rfl ?_
    refine j_ialdN (v := nI 3) d_Model_goesThrough_5 rfl (by omega) (by decide) hkd ?_
    refine j_swIn (off := 82) (tgt := 88) d_Model_goesThrough_6 (by decide) (by decide) rfl (by decide) ?_
    refine j_aload_n d_Model_goesThrough_88 rfl ?_
    refine j_bipush (v := nI 34) d_Model_goesThrough_89 (by decide) ?_
    refine j_bipush (v := nI 35) d_Model_goesThrough_91 (by decide) ?_
    refine j_callVn (As := [.int (nI 34), .int (nI 35)]) (st := []) (c_copyTo (by omega) (by omega) (by omega)) d_Model_goesThrough_93 (by decide) jm_Model_copyTo jk_Model_85 ji_Model_copyTo js_Model_copyTo rfl (by decide) rfl rfl (Nat.le_of_ble_eq_true rfl) rfl ?_
    refine j_aload_n d_Model_goesThrough_96 rfl ?_
    refine j_bipush (v := nI 35) d_Model_goesThrough_97 (by decide) ?_
    refine j_aload_n d_Model_goesThrough_99 rfl ?_
    refine j_iload_n d_Model_goesThrough_100 rfl ?_
    refine j_callVs (As := [.int (nI l)]) (st := [.int (nI 35), .ref 135]) (c_otherOf (by omega) hkd hk7 (fun e => ho (by decide))) d_Model_goesThrough_101 (by decide) jm_Model_otherOf jk_Model_255 ji_Model_otherOf js_Model_otherOf rfl (by decide) rfl rfl (Nat.le_of_ble_eq_true rfl) rfl ?_
    refine j_callVn (As := [.int (nI 35), .int (nI o)]) (st := []) (c_addTo (by omega) (by omega) (by omega) (tws hw (hw 34))) d_Model_goesThrough_104 (by decide) jm_Model_addTo jk_Model_92 ji_Model_addTo js_Model_addTo rfl (by decide) rfl rfl (Nat.le_of_ble_eq_true rfl) rfl ?_
    refine j_goto (tgt := 157) d_Model_goesThrough_107 (by decide) ?_
    refine j_aload_n d_Model_goesThrough_157 rfl ?_
    refine j_bipush (v := nI 35) d_Model_goesThrough_158 (by decide) ?_
    refine j_bipush (v := nI 34) d_Model_goesThrough_160 (by decide) ?_
    refine j_callVn (As := [.int (nI 35), .int (nI 34)]) (st := []) (c_copyTo (by omega) (by omega) (by omega)) d_Model_goesThrough_162 (by decide) jm_Model_copyTo jk_Model_85 ji_Model_copyTo js_Model_copyTo rfl (by decide) rfl rfl (Nat.le_of_ble_eq_true rfl) rfl ?_
    subst hres
    exact j_retv d_Model_goesThrough_165 rfl
  · refine j_aload_n d_Model_goesThrough_0 rfl ?_
    refine j_getr (b := 139) d_Model_goesThrough_1 jf_Model_19 rfl rfl rfl (by decide) ?_
    refine j_iload_n d_Model_goesThrough_4 rfl ?_
    refine j_ialdN (v := nI 4) d_Model_goesThrough_5 rfl (by omega) (by decide) hkd ?_
    refine j_swIn (off := 104) (tgt := 110) d_Model_goesThrough_6 (by decide) (by decide) rfl (by decide) ?_
    refine j_aload_n d_Model_goesThrough_110 rfl ?_
    refine j_bipush (v := nI 34) d_Model_goesThrough_111 (by decide) ?_
    refine j_aload_n d_Model_goesThrough_113 rfl ?_
    refine j_getr (b := 140) d_Model_goesThrough_114 jf_Model_22 rfl rfl rfl (by decide) ?_
    refine j_iload_n d_Model_goesThrough_117 rfl ?_
    refine j_ialdN (v := nI o) d_Model_goesThrough_118 rfl (by omega) (by decide) (ho (by decide)) ?_
    refine j_bipush (v := nI 35) d_Model_goesThrough_119 (by decide) ?_
    refine j_callVn (As := [.int (nI 34), .int (nI o), .int (nI 35)]) (st := []) (c_powerTo (by omega) (by omega) (by omega) (by have := h99 rfl; omega) hw) d_Model_goesThrough_121 (by decide) jm_Model_powerTo jk_Model_129 ji_Model_powerTo js_Model_powerTo rfl (by decide) rfl rfl (Nat.le_of_ble_eq_true rfl) rfl ?_
    refine j_goto (tgt := 157) d_Model_goesThrough_124 (by decide) ?_
    refine j_aload_n d_Model_goesThrough_157 rfl ?_
    refine j_bipush (v := nI 35) d_Model_goesThrough_158 (by decide) ?_
    refine j_bipush (v := nI 34) d_Model_goesThrough_160 (by decide) ?_
    refine j_callVn (As := [.int (nI 35), .int (nI 34)]) (st := []) (c_copyTo (by omega) (by omega) (by omega)) d_Model_goesThrough_162 (by decide) jm_Model_copyTo jk_Model_85 ji_Model_copyTo js_Model_copyTo rfl (by decide) rfl rfl (Nat.le_of_ble_eq_true rfl) rfl ?_
    subst hres
    exact j_retv d_Model_goesThrough_165 rfl
  · refine j_aload_n d_Model_goesThrough_0 rfl ?_
    refine j_getr (b := 139) d_Model_goesThrough_1 jf_Model_19 rfl rfl rfl (by decide) ?_
    refine j_iload_n d_Model_goesThrough_4 rfl ?_
    refine j_ialdN (v := nI 5) d_Model_goesThrough_5 rfl (by omega) (by decide) hkd ?_
    refine j_swIn (off := 121) (tgt := 127) d_Model_goesThrough_6 (by decide) (by decide) rfl (by decide) ?_
    refine j_aload_n d_Model_goesThrough_127 rfl ?_
    refine j_bipush (v := nI 34) d_Model_goesThrough_128 (by decide) ?_
    refine j_bipush (v := nI 35) d_Model_goesThrough_130 (by decide) ?_
    refine j_callVn (As := [.int (nI 34), .int (nI 35)]) (st := []) (c_closureTo (by omega) (by omega) (by omega) hw) d_Model_goesThrough_132 (by decide) jm_Model_closureTo jk_Model_132 ji_Model_closureTo js_Model_closureTo rfl (by decide) rfl rfl (Nat.le_of_ble_eq_true rfl) rfl ?_
    refine j_goto (tgt := 157) d_Model_goesThrough_135 (by decide) ?_
    refine j_aload_n d_Model_goesThrough_157 rfl ?_
    refine j_bipush (v := nI 35) d_Model_goesThrough_158 (by decide) ?_
    refine j_bipush (v := nI 34) d_Model_goesThrough_160 (by decide) ?_
    refine j_callVn (As := [.int (nI 35), .int (nI 34)]) (st := []) (c_copyTo (by omega) (by omega) (by omega)) d_Model_goesThrough_162 (by decide) jm_Model_copyTo jk_Model_85 ji_Model_copyTo js_Model_copyTo rfl (by decide) rfl rfl (Nat.le_of_ble_eq_true rfl) rfl ?_
    subst hres
    exact j_retv d_Model_goesThrough_165 rfl
  · refine j_aload_n d_Model_goesThrough_0 rfl ?_
    refine j_getr (b := 139) d_Model_goesThrough_1 jf_Model_19 rfl rfl rfl (by decide) ?_
    refine j_iload_n d_Model_goesThrough_4 rfl ?_
    refine j_ialdN (v := nI 6) d_Model_goesThrough_5 rfl (by omega) (by decide) hkd ?_
    refine j_swOut (tgt := 138) d_Model_goesThrough_6 (by decide) (by decide) ?_
    refine j_aload_n d_Model_goesThrough_138 rfl ?_
    refine j_bipush (v := nI 34) d_Model_goesThrough_139 (by decide) ?_
    refine j_bipush (v := nI 35) d_Model_goesThrough_141 (by decide) ?_
    refine j_callVn (As := [.int (nI 34), .int (nI 35)]) (st := []) (c_copyTo (by omega) (by omega) (by omega)) d_Model_goesThrough_143 (by decide) jm_Model_copyTo jk_Model_85 ji_Model_copyTo js_Model_copyTo rfl (by decide) rfl rfl (Nat.le_of_ble_eq_true rfl) rfl ?_
    refine j_aload_n d_Model_goesThrough_146 rfl ?_
    refine j_bipush (v := nI 35) d_Model_goesThrough_147 (by decide) ?_
    refine j_aload_n d_Model_goesThrough_149 rfl ?_
    refine j_iload_n d_Model_goesThrough_150 rfl ?_
    refine j_callVs (As := [.int (nI l)]) (st := [.int (nI 35), .ref 135]) (c_otherOf (o := o) (by omega) hkd hk7 (fun e => absurd e (by decide))) d_Model_goesThrough_151 (by decide) jm_Model_otherOf jk_Model_255 ji_Model_otherOf js_Model_otherOf rfl (by decide) rfl rfl (Nat.le_of_ble_eq_true rfl) rfl ?_
    refine j_callVn (As := [.int (nI 35), .int (nI (26 + l))]) (st := []) (c_meetWith (by omega) (by omega) (by omega) (tws hw (hw 34))) d_Model_goesThrough_154 (by decide) jm_Model_meetWith jk_Model_258 ji_Model_meetWith js_Model_meetWith rfl (by decide) rfl rfl (Nat.le_of_ble_eq_true rfl) rfl ?_
    refine j_aload_n d_Model_goesThrough_157 rfl ?_
    refine j_bipush (v := nI 35) d_Model_goesThrough_158 (by decide) ?_
    refine j_bipush (v := nI 34) d_Model_goesThrough_160 (by decide) ?_
    refine j_callVn (As := [.int (nI 35), .int (nI 34)]) (st := []) (c_copyTo (by omega) (by omega) (by omega)) d_Model_goesThrough_162 (by decide) jm_Model_copyTo jk_Model_85 ji_Model_copyTo js_Model_copyTo rfl (by decide) rfl rfl (Nat.le_of_ble_eq_true rfl) rfl ?_
    subst hres
    exact j_retv d_Model_goesThrough_165 rfl
def goP (kd o : Nat → Nat) : Nat → jP → jP
  | 0, P => P
  | l + 1, P => gt (kd l) (o l) l (goP kd o l P)
theorem goP_w {kd o : Nat → Nat} {P : jP} (hw : ∀ q, tw (P q)) : ∀ l q, tw (goP kd o l P q)
  | 0 => hw
  | l + 1 => gt_w (goP_w hw l)
theorem c_goes {n : jN} {h : jH} {P : jP} {c s : Nat} {kd o : Nat → Nat} (hw : ∀ q, tw (P q)) (hs : s < 6) (hlk : h 135 4 = nI c) (hc : c ≤ 8) (hkd : ∀ l, l < c → h 139 l = nI (kd l)) (hk7 : ∀ l, l < c → kd l < 7) (ho : ∀ l, l < c → kd l = 2 ∨ kd l = 3 ∨ kd l = 4 ∨ kd l = 6 → h 140 l = nI (o l)) (ho3 : ∀ l, l < c → kd l = 3 → o l < 6) (h99 : ∀ l, l < c → kd l = 4 → o l ≤ 99) (hns : ∀ l, l < c → stp (kd l) (o l) l (goP kd o l (jset P 34 (P s))) = 0) : jC n 4 jy_Model_goes jc_Model_goes 4 (some .int) [.ref 135, .int (nI s)] (jM h P) (some (.int (nI 0))) (jM (jG h c 0) (goP kd o c (jset P 34 (P s)))) := by
  refine jC_of jm_Model_goes (L := [some (.ref 135), some (.int (nI s)), none, none]) (Nat.le_of_ble_eq_true rfl) rfl trivial ?_
  generalize hres : (((some (.int (nI 0))), jM (jG h c 0) (goP kd o c (jset P 34 (P s)))) : Option Value × jH) = res
  refine j_aload_n d_Model_goes_0 rfl ?_
  refine j_iload_n d_Model_goes_1 rfl ?_
  refine j_bipush (v := nI 34) d_Model_goes_2 (by decide) ?_
  refine j_callVn (As := [.int (nI s), .int (nI 34)]) (st := []) (c_copyTo (by omega) (by omega) (by omega)) d_Model_goes_4 (by decide) jm_Model_copyTo jk_Model_85 ji_Model_copyTo js_Model_copyTo rfl (by decide) rfl rfl (Nat.le_of_ble_eq_true rfl) rfl ?_
  refine j_aload_n d_Model_goes_7 rfl ?_
  refine j_iconst (v := nI 0) d_Model_goes_8 rfl ?_
  refine j_putv (h' := jM (jup2 h 135 7 (nI 0)) (jset P 34 (P s))) d_Model_goes_9 jf_Model_261 rfl rfl (jM_set_other (by decide) (by decide)) ?_
  refine j_aload_n d_Model_goes_12 rfl ?_
  refine j_iconst (v := nI 0) d_Model_goes_13 rfl ?_
  refine j_putv (h' := jM (jup2 (jup2 h 135 7 (nI 0)) 135 8 (nI 0)) (jset P 34 (P s))) d_Model_goes_14 jf_Model_264 rfl rfl (jM_set_other (by decide) (by decide)) ?_
  refine j_iconst (v := nI 0) d_Model_goes_17 rfl ?_
  refine j_istore_n (L' := [some (.ref 135), some (.int (nI s)), some (.int (nI 0)), none]) d_Model_goes_18 (by decide) rfl rfl ?_
  refine j_heap (h' := jM (jG h 0 0) (goP kd o 0 (jset P 34 (P s)))) jG_0 ?_
  refine j_loop (P := fun k => jJ n 4 jc_Model_goes 4 "YesNoPowersModel" 19 [some (.ref 135), some (.int (nI s)), some (.int (nI k)), none] [] (jM (jG h k 0) (goP kd o k (jset P 34 (P s)))) res) (m := c) ?_ (fun k hk ih => ?_)
  · refine j_iload_n d_Model_goes_19 rfl ?_
    refine j_aload_n d_Model_goes_20 rfl ?_
    refine j_getv (v := nI c) d_Model_goes_21 jf_Model_252 rfl rfl hlk ?_
    refine j_icmp_geN_t (tgt := 94) d_Model_goes_24 (by decide) (by omega) (by omega) (Nat.le_refl _) ?_
    refine j_iconst (v := nI 0) d_Model_goes_94 rfl ?_
    subst hres
    exact j_reti d_Model_goes_95 rfl rfl
  · refine j_iload_n d_Model_goes_19 rfl ?_
    refine j_aload_n d_Model_goes_20 rfl ?_
    refine j_getv (v := nI c) d_Model_goes_21 jf_Model_252 rfl rfl hlk ?_
    refine j_icmp_geN_f (tgt := 94) d_Model_goes_24 (by decide) (by omega) (by omega) (by omega) ?_
    refine j_aload_n d_Model_goes_27 rfl ?_
    refine j_dup d_Model_goes_28 rfl ?_
    refine j_getv (v := nI k) d_Model_goes_29 jf_Model_261 rfl rfl rfl ?_
    refine j_iconst (v := nI 1) d_Model_goes_32 rfl ?_
    refine j_iaddN d_Model_goes_33 ?_
    refine j_putv (h' := jM (jG h (k + 1) 0) (goP kd o k (jset P 34 (P s)))) d_Model_goes_34 jf_Model_261 rfl rfl jG_c ?_
    refine j_aload_n d_Model_goes_37 rfl ?_
    refine j_iload_n d_Model_goes_38 rfl ?_
    refine j_callVs (As := [.int (nI k)]) (st := []) (c_stopsAt (h := jG h (k + 1) 0) (kd := kd k) (o := o k) (goP_w (tws hw (hw s)) _) (by omega) (hkd k (by omega)) (hk7 k (by omega)) (fun e => ho k (by omega) (by omega)) (ho3 k (by omega))) d_Model_goes_39 (by decide) jm_Model_stopsAt jk_Model_267 ji_Model_stopsAt js_Model_stopsAt rfl (by decide) rfl rfl (Nat.le_of_ble_eq_true rfl) rfl ?_
    refine j_istore_n (L' := [some (.ref 135), some (.int (nI s)), some (.int (nI k)), some (.int (nI (stp (kd k) (o k) k (goP kd o k (jset P 34 (P s))))))]) d_Model_goes_42 (by decide) rfl rfl ?_
    refine j_iload_n d_Model_goes_43 rfl ?_
    have hst0 := hns k hk
    refine j_if_leN_t (tgt := 83) d_Model_goes_44 (by decide) (by omega) hst0 ?_
    refine j_aload_n d_Model_goes_83 rfl ?_
    refine j_iload_n d_Model_goes_84 rfl ?_
    refine j_callVn (As := [.int (nI k)]) (st := []) (c_goesThrough (h := jG h (k + 1) 0) (kd := kd k) (o := o k) (goP_w (tws hw (hw s)) _) (by omega) (hkd k (by omega)) (hk7 k (by omega)) (fun e => ho k (by omega) (by omega)) (ho3 k (by omega)) (h99 k (by omega))) d_Model_goes_85 (by decide) jm_Model_goesThrough jk_Model_270 ji_Model_goesThrough js_Model_goesThrough rfl (by decide) rfl rfl (Nat.le_of_ble_eq_true rfl) rfl ?_
    refine j_iincN (x := k) (L' := [some (.ref 135), some (.int (nI s)), some (.int (nI (k + 1))), some (.int (nI (stp (kd k) (o k) k (goP kd o k (jset P 34 (P s))))))]) d_Model_goes_88 rfl (by decide) rfl rfl ?_
    refine j_goto (tgt := 19) d_Model_goes_91 (by decide) ?_
    exact j_forget (i := 3) rfl ih
theorem c_goes_stop {n : jN} {h : jH} {P : jP} {c s l0 : Nat} {kd o : Nat → Nat} (hw : ∀ q, tw (P q)) (hs : s < 6) (hlk : h 135 4 = nI c) (hc : c ≤ 8) (hkd : ∀ l, l < c → h 139 l = nI (kd l)) (hk7 : ∀ l, l < c → kd l < 7) (ho : ∀ l, l < c → kd l = 2 ∨ kd l = 3 ∨ kd l = 4 ∨ kd l = 6 → h 140 l = nI (o l)) (ho3 : ∀ l, l < c → kd l = 3 → o l < 6) (h99 : ∀ l, l < c → kd l = 4 → o l ≤ 99) (hl0 : l0 < c) (hns : ∀ l, l < l0 → stp (kd l) (o l) l (goP kd o l (jset P 34 (P s))) = 0) (hst : ¬ stp (kd l0) (o l0) l0 (goP kd o l0 (jset P 34 (P s))) = 0) (hsb : stp (kd l0) (o l0) l0 (goP kd o l0 (jset P 34 (P s))) < 2 ^ 31) : jC n 4 jy_Model_goes jc_Model_goes 4 (some .int) [.ref 135, .int (nI s)] (jM h P) (some (.int ((-20) - nI l0))) (jM (jG (jup2 (jup2 (jup2 h 141 0 (nI l0)) 141 1 (nI (kd l0))) 141 2 (nI (stp (kd l0) (o l0) l0 (goP kd o l0 (jset P 34 (P s)))))) (l0 + 1) 3) (goP kd o l0 (jset P 34 (P s)))) := by
  refine jC_of jm_Model_goes (L := [some (.ref 135), some (.int (nI s)), none, none]) (Nat.le_of_ble_eq_true rfl) rfl trivial ?_
  generalize hres : (((some (.int ((-20) - nI l0))), jM (jG (jup2 (jup2 (jup2 h 141 0 (nI l0)) 141 1 (nI (kd l0))) 141 2 (nI (stp (kd l0) (o l0) l0 (goP kd o l0 (jset P 34 (P s)))))) (l0 + 1) 3) (goP kd o l0 (jset P 34 (P s)))) : Option Value × jH) = res
  refine j_aload_n d_Model_goes_0 rfl ?_
  refine j_iload_n d_Model_goes_1 rfl ?_
  refine j_bipush (v := nI 34) d_Model_goes_2 (by decide) ?_
  refine j_callVn (As := [.int (nI s), .int (nI 34)]) (st := []) (c_copyTo (by omega) (by omega) (by omega)) d_Model_goes_4 (by decide) jm_Model_copyTo jk_Model_85 ji_Model_copyTo js_Model_copyTo rfl (by decide) rfl rfl (Nat.le_of_ble_eq_true rfl) rfl ?_
  refine j_aload_n d_Model_goes_7 rfl ?_
  refine j_iconst (v := nI 0) d_Model_goes_8 rfl ?_
  refine j_putv (h' := jM (jup2 h 135 7 (nI 0)) (jset P 34 (P s))) d_Model_goes_9 jf_Model_261 rfl rfl (jM_set_other (by decide) (by decide)) ?_
  refine j_aload_n d_Model_goes_12 rfl ?_
  refine j_iconst (v := nI 0) d_Model_goes_13 rfl ?_
  refine j_putv (h' := jM (jup2 (jup2 h 135 7 (nI 0)) 135 8 (nI 0)) (jset P 34 (P s))) d_Model_goes_14 jf_Model_264 rfl rfl (jM_set_other (by decide) (by decide)) ?_
  refine j_iconst (v := nI 0) d_Model_goes_17 rfl ?_
  refine j_istore_n (L' := [some (.ref 135), some (.int (nI s)), some (.int (nI 0)), none]) d_Model_goes_18 (by decide) rfl rfl ?_
  refine j_heap (h' := jM (jG h 0 0) (goP kd o 0 (jset P 34 (P s)))) jG_0 ?_
  refine j_loop (P := fun k => jJ n 4 jc_Model_goes 4 "YesNoPowersModel" 19 [some (.ref 135), some (.int (nI s)), some (.int (nI k)), none] [] (jM (jG h k 0) (goP kd o k (jset P 34 (P s)))) res) (m := l0) ?_ (fun k hk ih => ?_)
  · refine j_iload_n d_Model_goes_19 rfl ?_
    refine j_aload_n d_Model_goes_20 rfl ?_
    refine j_getv (v := nI c) d_Model_goes_21 jf_Model_252 rfl rfl hlk ?_
    refine j_icmp_geN_f (tgt := 94) d_Model_goes_24 (by decide) (by omega) (by omega) (by omega) ?_
    refine j_aload_n d_Model_goes_27 rfl ?_
    refine j_dup d_Model_goes_28 rfl ?_
    refine j_getv (v := nI l0) d_Model_goes_29 jf_Model_261 rfl rfl rfl ?_
    refine j_iconst (v := nI 1) d_Model_goes_32 rfl ?_
    refine j_iaddN d_Model_goes_33 ?_
    refine j_putv (h' := jM (jG h (l0 + 1) 0) (goP kd o l0 (jset P 34 (P s)))) d_Model_goes_34 jf_Model_261 rfl rfl jG_c ?_
    refine j_aload_n d_Model_goes_37 rfl ?_
    refine j_iload_n d_Model_goes_38 rfl ?_
    refine j_callVs (As := [.int (nI l0)]) (st := []) (c_stopsAt (h := jG h (l0 + 1) 0) (kd := kd l0) (o := o l0) (goP_w (tws hw (hw s)) _) (by omega) (hkd l0 hl0) (hk7 l0 hl0) (fun e => ho l0 hl0 (by omega)) (ho3 l0 hl0)) d_Model_goes_39 (by decide) jm_Model_stopsAt jk_Model_267 ji_Model_stopsAt js_Model_stopsAt rfl (by decide) rfl rfl (Nat.le_of_ble_eq_true rfl) rfl ?_
    refine j_istore_n (L' := [some (.ref 135), some (.int (nI s)), some (.int (nI l0)), some (.int (nI (stp (kd l0) (o l0) l0 (goP kd o l0 (jset P 34 (P s))))))]) d_Model_goes_42 (by decide) rfl rfl ?_
    refine j_iload_n d_Model_goes_43 rfl ?_
    have hwo := (goP_w (kd := kd) (o := o) (tws (p := 34) hw (hw s)) l0 (oth (kd l0) (o l0) l0)).1
    have hst2 : stp (kd l0) (o l0) l0 (goP kd o l0 (jset P 34 (P s))) < 2 ^ 31 := hsb
    refine j_if_leN_f (tgt := 83) d_Model_goes_44 (by decide) (by omega) hst ?_
    refine j_aload_n d_Model_goes_47 rfl ?_
    refine j_iconst (v := nI 3) d_Model_goes_48 rfl ?_
    refine j_putv (h' := jM (jG h (l0 + 1) 3) (goP kd o l0 (jset P 34 (P s)))) d_Model_goes_49 jf_Model_264 rfl rfl jG_r ?_
    refine j_aload_n d_Model_goes_52 rfl ?_
    refine j_getr (b := 141) d_Model_goes_53 jf_Model_25 rfl rfl rfl (by decide) ?_
    refine j_iconst (v := nI 0) d_Model_goes_56 rfl ?_
    refine j_iload_n d_Model_goes_57 rfl ?_
    refine j_iastN (h' := jM (jG (jup2 h 141 0 (nI l0)) (l0 + 1) 3) (goP kd o l0 (jset P 34 (P s)))) d_Model_goes_58 rfl (by omega) (by decide) jG_a ?_
    refine j_aload_n d_Model_goes_59 rfl ?_
    refine j_getr (b := 141) d_Model_goes_60 jf_Model_25 rfl rfl rfl (by decide) ?_
    refine j_iconst (v := nI 1) d_Model_goes_63 rfl ?_
    refine j_aload_n d_Model_goes_64 rfl ?_
    refine j_getr (b := 139) d_Model_goes_65 jf_Model_19 rfl rfl rfl (by decide) ?_
    refine j_iload_n d_Model_goes_68 rfl ?_
    refine j_ialdN (v := nI (kd l0)) d_Model_goes_69 rfl (by omega) (by decide) (hkd l0 hl0) ?_
    refine j_iastN (h' := jM (jG (jup2 (jup2 h 141 0 (nI l0)) 141 1 (nI (kd l0))) (l0 + 1) 3) (goP kd o l0 (jset P 34 (P s)))) d_Model_goes_70 rfl (by omega) (by decide) jG_a ?_
    refine j_aload_n d_Model_goes_71 rfl ?_
    refine j_getr (b := 141) d_Model_goes_72 jf_Model_25 rfl rfl rfl (by decide) ?_
    refine j_iconst (v := nI 2) d_Model_goes_75 rfl ?_
    refine j_iload_n d_Model_goes_76 rfl ?_
    refine j_iastN (h' := jM (jG (jup2 (jup2 (jup2 h 141 0 (nI l0)) 141 1 (nI (kd l0))) 141 2 (nI (stp (kd l0) (o l0) l0 (goP kd o l0 (jset P 34 (P s)))))) (l0 + 1) 3) (goP kd o l0 (jset P 34 (P s)))) d_Model_goes_77 rfl (by omega) (by decide) jG_a ?_
    refine j_bipush (v := -20) d_Model_goes_78 (by decide) ?_
    refine j_iload_n d_Model_goes_80 rfl ?_
    refine j_isub d_Model_goes_81 ?_
    subst hres
    exact j_reti d_Model_goes_82 rfl rfl
  · refine j_iload_n d_Model_goes_19 rfl ?_
    refine j_aload_n d_Model_goes_20 rfl ?_
    refine j_getv (v := nI c) d_Model_goes_21 jf_Model_252 rfl rfl hlk ?_
    refine j_icmp_geN_f (tgt := 94) d_Model_goes_24 (by decide) (by omega) (by omega) (by omega) ?_
    refine j_aload_n d_Model_goes_27 rfl ?_
    refine j_dup d_Model_goes_28 rfl ?_
    refine j_getv (v := nI k) d_Model_goes_29 jf_Model_261 rfl rfl rfl ?_
    refine j_iconst (v := nI 1) d_Model_goes_32 rfl ?_
    refine j_iaddN d_Model_goes_33 ?_
    refine j_putv (h' := jM (jG h (k + 1) 0) (goP kd o k (jset P 34 (P s)))) d_Model_goes_34 jf_Model_261 rfl rfl jG_c ?_
    refine j_aload_n d_Model_goes_37 rfl ?_
    refine j_iload_n d_Model_goes_38 rfl ?_
    refine j_callVs (As := [.int (nI k)]) (st := []) (c_stopsAt (h := jG h (k + 1) 0) (kd := kd k) (o := o k) (goP_w (tws hw (hw s)) _) (by omega) (hkd k (by omega)) (hk7 k (by omega)) (fun e => ho k (by omega) (by omega)) (ho3 k (by omega))) d_Model_goes_39 (by decide) jm_Model_stopsAt jk_Model_267 ji_Model_stopsAt js_Model_stopsAt rfl (by decide) rfl rfl (Nat.le_of_ble_eq_true rfl) rfl ?_
    refine j_istore_n (L' := [some (.ref 135), some (.int (nI s)), some (.int (nI k)), some (.int (nI (stp (kd k) (o k) k (goP kd o k (jset P 34 (P s))))))]) d_Model_goes_42 (by decide) rfl rfl ?_
    refine j_iload_n d_Model_goes_43 rfl ?_
    have hst0 := hns k hk
    refine j_if_leN_t (tgt := 83) d_Model_goes_44 (by decide) (by omega) hst0 ?_
    refine j_aload_n d_Model_goes_83 rfl ?_
    refine j_iload_n d_Model_goes_84 rfl ?_
    refine j_callVn (As := [.int (nI k)]) (st := []) (c_goesThrough (h := jG h (k + 1) 0) (kd := kd k) (o := o k) (goP_w (tws hw (hw s)) _) (by omega) (hkd k (by omega)) (hk7 k (by omega)) (fun e => ho k (by omega) (by omega)) (ho3 k (by omega)) (h99 k (by omega))) d_Model_goes_85 (by decide) jm_Model_goesThrough jk_Model_270 ji_Model_goesThrough js_Model_goesThrough rfl (by decide) rfl rfl (Nat.le_of_ble_eq_true rfl) rfl ?_
    refine j_iincN (x := k) (L' := [some (.ref 135), some (.int (nI s)), some (.int (nI (k + 1))), some (.int (nI (stp (kd k) (o k) k (goP kd o k (jset P 34 (P s))))))]) d_Model_goes_88 rfl (by decide) rfl rfl ?_
    refine j_goto (tgt := 19) d_Model_goes_91 (by decide) ?_
    exact j_forget (i := 3) rfl ih
theorem jGL {h : jH} {ls : Nat → Nat} {lg c r : Nat} : jG (jL h ls lg) c r = jL (jG h c r) ls lg := by
  funext a k
  simp only [jG, jL]
  by_cases e : a = 135
  · subst e
    by_cases e2 : k = 7
    · simp [e2]
    · by_cases e3 : k = 8
      · simp [e3]
      · by_cases e4 : k = 2 <;> simp [e2, e3, e4]
  · simp [e]
theorem j20 : ∀ l, l < 8 → ¬ ((-20 : Int32) - nI l = 0) := by decide
theorem c_run_bad {n : jN} {h : jH} {P : jP} {s : Int32} (hw : ∀ q, tw (P q)) (hb : jho P s = false) : jC n 5 jy_Model_run jc_Model_run 3 (some .int) [.ref 135, .int s] (jM h P) (some (.int (-1))) (jM h P) := by
  refine jC_of jm_Model_run (L := [some (.ref 135), some (.int s), none]) (Nat.le_of_ble_eq_true rfl) rfl trivial ?_
  generalize hres : (((some (.int (-1))), jM h P) : Option Value × jH) = res
  refine j_aload_n d_Model_run_0 rfl ?_
  refine j_iload_n d_Model_run_1 rfl ?_
  refine j_callVs (As := [.int s]) (st := []) (c_holds hw) d_Model_run_2 (by decide) jm_Model_holds jk_Model_117 ji_Model_holds js_Model_holds rfl (by decide) rfl rfl (Nat.le_of_ble_eq_true rfl) rfl ?_
  refine j_if_neB (tgt := 10) d_Model_run_5 (by decide) (fun c1 => ?_) (fun c1 => ?_)
  · exact absurd c1 (by rw [hb]; decide)
  · refine j_iconst (v := -1) d_Model_run_8 rfl ?_
    subst hres
    exact j_reti d_Model_run_9 rfl rfl
theorem c_would_bad {n : jN} {h : jH} {P : jP} {s : Int32} (hw : ∀ q, tw (P q)) (hb : jho P s = false) : jC n 5 jy_Model_would jc_Model_would 3 (some .int) [.ref 135, .int s] (jM h P) (some (.int (-1))) (jM h P) := by
  refine jC_of jm_Model_would (L := [some (.ref 135), some (.int s), none]) (Nat.le_of_ble_eq_true rfl) rfl trivial ?_
  generalize hres : (((some (.int (-1))), jM h P) : Option Value × jH) = res
  refine j_aload_n d_Model_would_0 rfl ?_
  refine j_iload_n d_Model_would_1 rfl ?_
  refine j_callVs (As := [.int s]) (st := []) (c_holds hw) d_Model_would_2 (by decide) jm_Model_holds jk_Model_117 ji_Model_holds js_Model_holds rfl (by decide) rfl rfl (Nat.le_of_ble_eq_true rfl) rfl ?_
  refine j_if_neB (tgt := 10) d_Model_would_5 (by decide) (fun c1 => ?_) (fun c1 => ?_)
  · exact absurd c1 (by rw [hb]; decide)
  · refine j_iconst (v := -1) d_Model_would_8 rfl ?_
    subst hres
    exact j_reti d_Model_would_9 rfl rfl
theorem c_run_stop {n : jN} {h : jH} {P : jP} {l0 : Nat} {c s : Nat} {kd o : Nat → Nat} (hw : ∀ q, tw (P q)) (hs : s < 6) (h0 : 0 < (P s).1) (hlk : h 135 4 = nI c) (hc : c ≤ 8) (hkd : ∀ l, l < c → h 139 l = nI (kd l)) (hk7 : ∀ l, l < c → kd l < 7) (ho : ∀ l, l < c → kd l = 2 ∨ kd l = 3 ∨ kd l = 4 ∨ kd l = 6 → h 140 l = nI (o l)) (ho3 : ∀ l, l < c → kd l = 3 → o l < 6) (h99 : ∀ l, l < c → kd l = 4 → o l ≤ 99) (hl0 : l0 < c) (hns : ∀ l, l < l0 → stp (kd l) (o l) l (goP kd o l (jset P 34 (P s))) = 0) (hst : ¬ stp (kd l0) (o l0) l0 (goP kd o l0 (jset P 34 (P s))) = 0) (hsb : stp (kd l0) (o l0) l0 (goP kd o l0 (jset P 34 (P s))) < 2 ^ 31) : jC n 5 jy_Model_run jc_Model_run 3 (some .int) [.ref 135, .int (nI s)] (jM h P) (some (.int ((-20) - nI l0))) (jM (jG (jup2 (jup2 (jup2 h 141 0 (nI l0)) 141 1 (nI (kd l0))) 141 2 (nI (stp (kd l0) (o l0) l0 (goP kd o l0 (jset P 34 (P s)))))) (l0 + 1) 3) (goP kd o l0 (jset P 34 (P s)))) := by
  refine jC_of jm_Model_run (L := [some (.ref 135), some (.int (nI s)), none]) (Nat.le_of_ble_eq_true rfl) rfl trivial ?_
  generalize hres : (((some (.int ((-20) - nI l0))), jM (jG (jup2 (jup2 (jup2 h 141 0 (nI l0)) 141 1 (nI (kd l0))) 141 2 (nI (stp (kd l0) (o l0) l0 (goP kd o l0 (jset P 34 (P s)))))) (l0 + 1) 3) (goP kd o l0 (jset P 34 (P s)))) : Option Value × jH) = res
  refine j_aload_n d_Model_run_0 rfl ?_
  refine j_iload_n d_Model_run_1 rfl ?_
  refine j_callVs (As := [.int (nI s)]) (st := []) (c_holds hw) d_Model_run_2 (by decide) jm_Model_holds jk_Model_117 ji_Model_holds js_Model_holds rfl (by decide) rfl rfl (Nat.le_of_ble_eq_true rfl) rfl ?_
  refine j_if_neB_t (tgt := 10) d_Model_run_5 (by decide) (jho_y hs h0) ?_
  refine j_aload_n d_Model_run_10 rfl ?_
  refine j_iload_n d_Model_run_11 rfl ?_
  refine j_callVs (As := [.int (nI s)]) (st := []) (c_goes_stop hw hs hlk hc hkd hk7 ho ho3 h99 hl0 hns hst hsb) d_Model_run_12 (by decide) jm_Model_goes jk_Model_273 ji_Model_goes js_Model_goes rfl (by decide) rfl rfl (Nat.le_of_ble_eq_true rfl) rfl ?_
  refine j_istore_n (L' := [some (.ref 135), some (.int (nI s)), some (.int ((-20) - nI l0))]) d_Model_run_15 (by decide) rfl rfl ?_
  refine j_iload_n d_Model_run_16 rfl ?_
  refine j_if_eq_f (tgt := 22) d_Model_run_17 (by decide) (j20 l0 (by omega)) ?_
  refine j_iload_n d_Model_run_20 rfl ?_
  subst hres
  exact j_reti d_Model_run_21 rfl rfl
theorem c_would_stop {n : jN} {h : jH} {P : jP} {l0 : Nat} {c s : Nat} {kd o : Nat → Nat} (hw : ∀ q, tw (P q)) (hs : s < 6) (h0 : 0 < (P s).1) (hlk : h 135 4 = nI c) (hc : c ≤ 8) (hkd : ∀ l, l < c → h 139 l = nI (kd l)) (hk7 : ∀ l, l < c → kd l < 7) (ho : ∀ l, l < c → kd l = 2 ∨ kd l = 3 ∨ kd l = 4 ∨ kd l = 6 → h 140 l = nI (o l)) (ho3 : ∀ l, l < c → kd l = 3 → o l < 6) (h99 : ∀ l, l < c → kd l = 4 → o l ≤ 99) (hl0 : l0 < c) (hns : ∀ l, l < l0 → stp (kd l) (o l) l (goP kd o l (jset P 34 (P s))) = 0) (hst : ¬ stp (kd l0) (o l0) l0 (goP kd o l0 (jset P 34 (P s))) = 0) (hsb : stp (kd l0) (o l0) l0 (goP kd o l0 (jset P 34 (P s))) < 2 ^ 31) : jC n 5 jy_Model_would jc_Model_would 3 (some .int) [.ref 135, .int (nI s)] (jM h P) (some (.int ((-20) - nI l0))) (jM (jG (jup2 (jup2 (jup2 h 141 0 (nI l0)) 141 1 (nI (kd l0))) 141 2 (nI (stp (kd l0) (o l0) l0 (goP kd o l0 (jset P 34 (P s)))))) (l0 + 1) 3) (goP kd o l0 (jset P 34 (P s)))) := by
  refine jC_of jm_Model_would (L := [some (.ref 135), some (.int (nI s)), none]) (Nat.le_of_ble_eq_true rfl) rfl trivial ?_
  generalize hres : (((some (.int ((-20) - nI l0))), jM (jG (jup2 (jup2 (jup2 h 141 0 (nI l0)) 141 1 (nI (kd l0))) 141 2 (nI (stp (kd l0) (o l0) l0 (goP kd o l0 (jset P 34 (P s)))))) (l0 + 1) 3) (goP kd o l0 (jset P 34 (P s)))) : Option Value × jH) = res
  refine j_aload_n d_Model_would_0 rfl ?_
  refine j_iload_n d_Model_would_1 rfl ?_
  refine j_callVs (As := [.int (nI s)]) (st := []) (c_holds hw) d_Model_would_2 (by decide) jm_Model_holds jk_Model_117 ji_Model_holds js_Model_holds rfl (by decide) rfl rfl (Nat.le_of_ble_eq_true rfl) rfl ?_
  refine j_if_neB_t (tgt := 10) d_Model_would_5 (by decide) (jho_y hs h0) ?_
  refine j_aload_n d_Model_would_10 rfl ?_
  refine j_iload_n d_Model_would_11 rfl ?_
  refine j_callVs (As := [.int (nI s)]) (st := []) (c_goes_stop hw hs hlk hc hkd hk7 ho ho3 h99 hl0 hns hst hsb) d_Model_would_12 (by decide) jm_Model_goes jk_Model_273 ji_Model_goes js_Model_goes rfl (by decide) rfl rfl (Nat.le_of_ble_eq_true rfl) rfl ?_
  refine j_istore_n (L' := [some (.ref 135), some (.int (nI s)), some (.int ((-20) - nI l0))]) d_Model_would_15 (by decide) rfl rfl ?_
  refine j_iload_n d_Model_would_16 rfl ?_
  refine j_if_eq_f (tgt := 24) d_Model_would_17 (by decide) (j20 l0 (by omega)) ?_
  refine j_iload_n d_Model_would_20 rfl ?_
  refine j_goto (tgt := 30) d_Model_would_21 (by decide) ?_
  subst hres
  exact j_reti d_Model_would_30 rfl rfl
theorem c_would {n : jN} {h : jH} {P : jP} {c s : Nat} {kd o : Nat → Nat} (hw : ∀ q, tw (P q)) (hs : s < 6) (h0 : 0 < (P s).1) (hlk : h 135 4 = nI c) (hc : c ≤ 8) (hkd : ∀ l, l < c → h 139 l = nI (kd l)) (hk7 : ∀ l, l < c → kd l < 7) (ho : ∀ l, l < c → kd l = 2 ∨ kd l = 3 ∨ kd l = 4 ∨ kd l = 6 → h 140 l = nI (o l)) (ho3 : ∀ l, l < c → kd l = 3 → o l < 6) (h99 : ∀ l, l < c → kd l = 4 → o l ≤ 99) (hns : ∀ l, l < c → stp (kd l) (o l) l (goP kd o l (jset P 34 (P s))) = 0) : jC n 5 jy_Model_would jc_Model_would 3 (some .int) [.ref 135, .int (nI s)] (jM h P) (some (.int (nI (tones (goP kd o c (jset P 34 (P s)) 34) (goP kd o c (jset P 34 (P s)) 34).1)))) (jM (jG h c 0) (goP kd o c (jset P 34 (P s)))) := by
  refine jC_of jm_Model_would (L := [some (.ref 135), some (.int (nI s)), none]) (Nat.le_of_ble_eq_true rfl) rfl trivial ?_
  generalize hres : (((some (.int (nI (tones (goP kd o c (jset P 34 (P s)) 34) (goP kd o c (jset P 34 (P s)) 34).1)))), jM (jG h c 0) (goP kd o c (jset P 34 (P s)))) : Option Value × jH) = res
  refine j_aload_n d_Model_would_0 rfl ?_
  refine j_iload_n d_Model_would_1 rfl ?_
  refine j_callVs (As := [.int (nI s)]) (st := []) (c_holds hw) d_Model_would_2 (by decide) jm_Model_holds jk_Model_117 ji_Model_holds js_Model_holds rfl (by decide) rfl rfl (Nat.le_of_ble_eq_true rfl) rfl ?_
  refine j_if_neB_t (tgt := 10) d_Model_would_5 (by decide) (jho_y hs h0) ?_
  refine j_aload_n d_Model_would_10 rfl ?_
  refine j_iload_n d_Model_would_11 rfl ?_
  refine j_callVs (As := [.int (nI s)]) (st := []) (c_goes hw hs hlk hc hkd hk7 ho ho3 h99 hns) d_Model_would_12 (by decide) jm_Model_goes jk_Model_273 ji_Model_goes js_Model_goes rfl (by decide) rfl rfl (Nat.le_of_ble_eq_true rfl) rfl ?_
  refine j_istore_n (L' := [some (.ref 135), some (.int (nI s)), some (.int (nI 0))]) d_Model_would_15 (by decide) rfl rfl ?_
  refine j_iload_n d_Model_would_16 rfl ?_
  refine j_if_eqN_t (tgt := 24) d_Model_would_17 (by decide) (by omega) (by decide) ?_
  refine j_aload_n d_Model_would_24 rfl ?_
  refine j_bipush (v := nI 34) d_Model_would_25 (by decide) ?_
  refine j_callVs (As := [.int (nI 34)]) (st := []) (c_onesIn (by omega) (goP_w (tws (p := 34) hw (hw s)) c)) d_Model_would_27 (by decide) jm_Model_onesIn jk_Model_180 ji_Model_onesIn js_Model_onesIn rfl (by decide) rfl rfl (Nat.le_of_ble_eq_true rfl) rfl ?_
  subst hres
  exact j_reti d_Model_would_30 rfl rfl
theorem c_run {n : jN} {h : jH} {ls : Nat → Nat} {lg : Nat} {P : jP} (hl : lg ≤ 20) {c s : Nat} {kd o : Nat → Nat} (hw : ∀ q, tw (P q)) (hs : s < 6) (h0 : 0 < (P s).1) (hlk : h 135 4 = nI c) (hc : c ≤ 8) (hkd : ∀ l, l < c → h 139 l = nI (kd l)) (hk7 : ∀ l, l < c → kd l < 7) (ho : ∀ l, l < c → kd l = 2 ∨ kd l = 3 ∨ kd l = 4 ∨ kd l = 6 → h 140 l = nI (o l)) (ho3 : ∀ l, l < c → kd l = 3 → o l < 6) (h99 : ∀ l, l < c → kd l = 4 → o l ≤ 99) (hns : ∀ l, l < c → stp (kd l) (o l) l (goP kd o l (jset P 34 (P s))) = 0) : jC n 5 jy_Model_run jc_Model_run 3 (some .int) [.ref 135, .int (nI s)] (jM (jL h ls lg) P) (some (.int (nI ((goP kd o c (jset P 34 (P s)) 34).1)))) (jM (jL (jG h c 0) (lgS ls lg s) (lgN lg)) (jcome (jset (goP kd o c (jset P 34 (P s))) 35 (goP kd o c (jset P 34 (P s)) 34)) lg s)) := by
  refine jC_of jm_Model_run (L := [some (.ref 135), some (.int (nI s)), none]) (Nat.le_of_ble_eq_true rfl) rfl trivial ?_
  generalize hres : (((some (.int (nI ((goP kd o c (jset P 34 (P s)) 34).1)))), jM (jL (jG h c 0) (lgS ls lg s) (lgN lg)) (jcome (jset (goP kd o c (jset P 34 (P s))) 35 (goP kd o c (jset P 34 (P s)) 34)) lg s)) : Option Value × jH) = res
  refine j_aload_n d_Model_run_0 rfl ?_
  refine j_iload_n d_Model_run_1 rfl ?_
  refine j_callVs (As := [.int (nI s)]) (st := []) (c_holds hw) d_Model_run_2 (by decide) jm_Model_holds jk_Model_117 ji_Model_holds js_Model_holds rfl (by decide) rfl rfl (Nat.le_of_ble_eq_true rfl) rfl ?_
  refine j_if_neB_t (tgt := 10) d_Model_run_5 (by decide) (jho_y hs h0) ?_
  refine j_aload_n d_Model_run_10 rfl ?_
  refine j_iload_n d_Model_run_11 rfl ?_
  refine j_callVs (As := [.int (nI s)]) (st := []) (c_goes (h := jL h ls lg) hw hs hlk hc hkd hk7 ho ho3 h99 hns) d_Model_run_12 (by decide) jm_Model_goes jk_Model_273 ji_Model_goes js_Model_goes rfl (by decide) rfl rfl (Nat.le_of_ble_eq_true rfl) rfl ?_
  refine j_heap (h' := jM (jL (jG h c 0) ls lg) (goP kd o c (jset P 34 (P s)))) (by rw [jGL]) ?_
  refine j_istore_n (L' := [some (.ref 135), some (.int (nI s)), some (.int (nI 0))]) d_Model_run_15 (by decide) rfl rfl ?_
  refine j_iload_n d_Model_run_16 rfl ?_
  refine j_if_eqN_t (tgt := 22) d_Model_run_17 (by decide) (by omega) (by decide) ?_
  refine j_aload_n d_Model_run_22 rfl ?_
  refine j_bipush (v := nI 34) d_Model_run_23 (by decide) ?_
  refine j_bipush (v := nI 35) d_Model_run_25 (by decide) ?_
  refine j_callVn (As := [.int (nI 34), .int (nI 35)]) (st := []) (c_copyTo (by omega) (by omega) (by omega)) d_Model_run_27 (by decide) jm_Model_copyTo jk_Model_85 ji_Model_copyTo js_Model_copyTo rfl (by decide) rfl rfl (Nat.le_of_ble_eq_true rfl) rfl ?_
  refine j_aload_n d_Model_run_30 rfl ?_
  refine j_iload_n d_Model_run_31 rfl ?_
  refine j_callVs (As := [.int (nI s)]) (st := []) (c_comes hl (by omega) (tws (goP_w (tws (p := 34) hw (hw s)) c) ((goP_w (tws (p := 34) hw (hw s)) c) 34))) d_Model_run_32 (by decide) jm_Model_comes jk_Model_113 ji_Model_comes js_Model_comes rfl (by decide) rfl rfl (Nat.le_of_ble_eq_true rfl) rfl ?_
  subst hres
  exact j_reti d_Model_run_35 (by rw [jset_eq]) rfl

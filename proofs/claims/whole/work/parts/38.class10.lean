def lbr (o : Option Nat) : Int32 := match o with
  | none => -1
  | some x => nI x
def lbl (m d g : Nat) : Nat → Nat → Option Nat
  | 0, f => if nnd (rlo m d f) g = 0 ∧ nnd g (rhi m d f 0) = 0 then some f else none
  | o + 1, f => if nnd (rlo m d f) g = 0 ∧ nnd g (rhi m d f (o + 1)) = 0 then (if rlo m d f = g then some f else match lbl m d g o f with
    | some x => some x
    | none => lbl m d g o (f ||| 2 ^ o)) else none
theorem lbl_lt {m d g x : Nat} : ∀ o f, f < 65536 → o ≤ 16 → lbl m d g o f = some x → x < 65536
  | 0, f, hf, _, h => by
    unfold lbl at h
    split at h
    · cases h; exact hf
    · cases h
  | o + 1, f, hf, ho, h => by
    unfold lbl at h
    split at h
    · split at h
      · cases h; exact hf
      · cases hq : lbl m d g o f with
        | none => rw [hq] at h; exact lbl_lt o _ (or16 hf (by omega)) (by omega) h
        | some y => rw [hq] at h; cases h; exact lbl_lt o f hf (by omega) hq
    · cases h
theorem x_leastBelow {n : jN} {h : jH} {m d g : Nat} (hm : m ≤ 4) (hd : 2 ≤ d) (hd8 : d ≤ 8) (hg : g < 2 ^ 31) : ∀ o f, f < 65536 → o ≤ 16 → jC n (o + 2) jy_Roots_leastBelow jc_Roots_leastBelow 8 (some .int) [.int (nI m), .int (nI d), .int (nI g), .int (nI f), .int (nI o)] h (some (.int (lbr (lbl m d g o f)))) h := by
  intro o
  induction o with
  | zero =>
    intro f hf ho
    refine jC_of jm_Roots_leastBelow (L := [some (.int (nI m)), some (.int (nI d)), some (.int (nI g)), some (.int (nI f)), some (.int (nI 0)), none, none, none]) (Nat.le_of_ble_eq_true rfl) rfl trivial ?_
    generalize hres : ((some (.int (lbr (lbl m d g (0) f))), h) : Option Value × jH) = res
    have h2o : 2 ^ (0) ≤ 2 ^ 16 := Nat.pow_le_pow_right (by omega) (by omega)
    have hlo := rai_lt (d := d) (x := f) hm
    have hhi := rai_lt (d := d) (x := f ||| (2 ^ (0) - 1)) hm
    have hm1 := or16m hf (show 0 ≤ 16 by omega)
    refine j_iload_n d_Roots_leastBelow_0 rfl ?_
    refine j_iload_n d_Roots_leastBelow_1 rfl ?_
    refine j_iload_n d_Roots_leastBelow_2 rfl ?_
    refine j_callSs (As := [.int (nI m), .int (nI d), .int (nI f)]) (st := []) (x_raised hm hd hd8 (by omega)) d_Roots_leastBelow_3 (by omega) jm_Roots_raised jk_Roots_16 js_Roots_raised rfl (Nat.le_of_ble_eq_true rfl) rfl ?_
    refine j_istore (L' := [some (.int (nI m)), some (.int (nI d)), some (.int (nI g)), some (.int (nI f)), some (.int (nI 0)), some (.int (nI (rai m d f))), none, none]) d_Roots_leastBelow_6 (by decide) rfl rfl ?_
    refine j_iload_n d_Roots_leastBelow_8 rfl ?_
    refine j_iload_n d_Roots_leastBelow_9 rfl ?_
    refine j_iload_n d_Roots_leastBelow_10 rfl ?_
    refine j_iconst (v := nI 1) d_Roots_leastBelow_11 rfl ?_
    refine j_iload d_Roots_leastBelow_12 rfl ?_
    refine j_shl1N d_Roots_leastBelow_14 (by omega) ?_
    refine j_iconst (v := nI 1) d_Roots_leastBelow_15 rfl ?_
    refine j_isubN d_Roots_leastBelow_16 Nat.one_le_two_pow ?_
    refine j_iorN d_Roots_leastBelow_17 ?_
    refine j_callSs (As := [.int (nI m), .int (nI d), .int (nI (f ||| ((2 ^ 0) - 1)))]) (st := []) (x_raised hm hd hd8 (by omega)) d_Roots_leastBelow_18 (by omega) jm_Roots_raised jk_Roots_16 js_Roots_raised rfl (Nat.le_of_ble_eq_true rfl) rfl ?_
    refine j_istore (L' := [some (.int (nI m)), some (.int (nI d)), some (.int (nI g)), some (.int (nI f)), some (.int (nI 0)), some (.int (nI (rai m d f))), some (.int (nI (rai m d (f ||| ((2 ^ 0) - 1))))), none]) d_Roots_leastBelow_21 (by decide) rfl rfl ?_
    refine j_iload d_Roots_leastBelow_23 rfl ?_
    refine j_iload_n d_Roots_leastBelow_25 rfl ?_
    refine j_iconst (v := -1) d_Roots_leastBelow_26 rfl ?_
    refine j_ixor d_Roots_leastBelow_27 ?_
    refine j_iand d_Roots_leastBelow_28 ?_
    refine j_top (w := nI (nnd (rlo m d f) g)) (ni_cl31 hlo) ?_
    have hn1 : nnd (rlo m d f) g < 2 ^ 31 := nnd_lt hlo
    have hn2 : nnd g (rhi m d f (0)) < 2 ^ 31 := nnd_lt hg
    refine j_if_neN (tgt := 41) d_Roots_leastBelow_29 (by decide) (by omega) (fun c1 => ?_) (fun c1 => ?_)
    · refine j_iconst (v := -1) d_Roots_leastBelow_41 rfl ?_
      subst hres
      exact j_reti d_Roots_leastBelow_42 (by rw [lbl, if_neg (by omega)]; rfl) rfl
    · refine j_iload_n d_Roots_leastBelow_32 rfl ?_
      refine j_iload d_Roots_leastBelow_33 rfl ?_
      refine j_iconst (v := -1) d_Roots_leastBelow_35 rfl ?_
      refine j_ixor d_Roots_leastBelow_36 ?_
      refine j_iand d_Roots_leastBelow_37 ?_
      refine j_top (w := nI (nnd g (rhi m d f (0)))) (ni_cl31 hg) ?_
      refine j_if_eqN (tgt := 43) d_Roots_leastBelow_38 (by decide) (by omega) (fun c2 => ?_) (fun c2 => ?_)
      · refine j_iload d_Roots_leastBelow_43 rfl ?_
        refine j_iload_n d_Roots_leastBelow_45 rfl ?_
        refine j_icmp_eqN (tgt := 54) d_Roots_leastBelow_46 (by decide) (by omega) (by omega) (fun c3 => ?_) (fun c3 => ?_)
        · refine j_iload_n d_Roots_leastBelow_54 rfl ?_
          subst hres
          exact j_reti d_Roots_leastBelow_55 (by rw [lbl, if_pos ⟨c1, c2⟩]; rfl) rfl
        · refine j_iload d_Roots_leastBelow_49 rfl ?_
          refine j_if_gtN_f (tgt := 56) d_Roots_leastBelow_51 (by decide) (by omega) (by omega) ?_
          refine j_iload_n d_Roots_leastBelow_54 rfl ?_
          subst hres
          exact j_reti d_Roots_leastBelow_55 (by rw [lbl, if_pos ⟨c1, c2⟩]; rfl) rfl
      · refine j_iconst (v := -1) d_Roots_leastBelow_41 rfl ?_
        subst hres
        exact j_reti d_Roots_leastBelow_42 (by rw [lbl, if_neg (by omega)]; rfl) rfl
  | succ o ih =>
    intro f hf ho
    refine jC_of jm_Roots_leastBelow (L := [some (.int (nI m)), some (.int (nI d)), some (.int (nI g)), some (.int (nI f)), some (.int (nI (o + 1))), none, none, none]) (Nat.le_of_ble_eq_true rfl) rfl trivial ?_
    generalize hres : ((some (.int (lbr (lbl m d g (o + 1) f))), h) : Option Value × jH) = res
    have h2o : 2 ^ (o + 1) ≤ 2 ^ 16 := Nat.pow_le_pow_right (by omega) (by omega)
    have hlo := rai_lt (d := d) (x := f) hm
    have hhi := rai_lt (d := d) (x := f ||| (2 ^ (o + 1) - 1)) hm
    have hm1 := or16m hf (show o + 1 ≤ 16 by omega)
    refine j_iload_n d_Roots_leastBelow_0 rfl ?_
    refine j_iload_n d_Roots_leastBelow_1 rfl ?_
    refine j_iload_n d_Roots_leastBelow_2 rfl ?_
    refine j_callSs (As := [.int (nI m), .int (nI d), .int (nI f)]) (st := []) (x_raised hm hd hd8 (by omega)) d_Roots_leastBelow_3 (by omega) jm_Roots_raised jk_Roots_16 js_Roots_raised rfl (Nat.le_of_ble_eq_true rfl) rfl ?_
    refine j_istore (L' := [some (.int (nI m)), some (.int (nI d)), some (.int (nI g)), some (.int (nI f)), some (.int (nI (o + 1))), some (.int (nI (rai m d f))), none, none]) d_Roots_leastBelow_6 (by decide) rfl rfl ?_
    refine j_iload_n d_Roots_leastBelow_8 rfl ?_
    refine j_iload_n d_Roots_leastBelow_9 rfl ?_
    refine j_iload_n d_Roots_leastBelow_10 rfl ?_
    refine j_iconst (v := nI 1) d_Roots_leastBelow_11 rfl ?_
    refine j_iload d_Roots_leastBelow_12 rfl ?_
    refine j_shl1N d_Roots_leastBelow_14 (by omega) ?_
    refine j_iconst (v := nI 1) d_Roots_leastBelow_15 rfl ?_
    refine j_isubN d_Roots_leastBelow_16 Nat.one_le_two_pow ?_
    refine j_iorN d_Roots_leastBelow_17 ?_
    refine j_callSs (As := [.int (nI m), .int (nI d), .int (nI (f ||| ((2 ^ (o + 1)) - 1)))]) (st := []) (x_raised hm hd hd8 (by omega)) d_Roots_leastBelow_18 (by omega) jm_Roots_raised jk_Roots_16 js_Roots_raised rfl (Nat.le_of_ble_eq_true rfl) rfl ?_
    refine j_istore (L' := [some (.int (nI m)), some (.int (nI d)), some (.int (nI g)), some (.int (nI f)), some (.int (nI (o + 1))), some (.int (nI (rai m d f))), some (.int (nI (rai m d (f ||| ((2 ^ (o + 1)) - 1))))), none]) d_Roots_leastBelow_21 (by decide) rfl rfl ?_
    refine j_iload d_Roots_leastBelow_23 rfl ?_
    refine j_iload_n d_Roots_leastBelow_25 rfl ?_
    refine j_iconst (v := -1) d_Roots_leastBelow_26 rfl ?_
    refine j_ixor d_Roots_leastBelow_27 ?_
    refine j_iand d_Roots_leastBelow_28 ?_
    refine j_top (w := nI (nnd (rlo m d f) g)) (ni_cl31 hlo) ?_
    have hn1 : nnd (rlo m d f) g < 2 ^ 31 := nnd_lt hlo
    have hn2 : nnd g (rhi m d f (o + 1)) < 2 ^ 31 := nnd_lt hg
    refine j_if_neN (tgt := 41) d_Roots_leastBelow_29 (by decide) (by omega) (fun c1 => ?_) (fun c1 => ?_)
    · refine j_iconst (v := -1) d_Roots_leastBelow_41 rfl ?_
      subst hres
      exact j_reti d_Roots_leastBelow_42 (by rw [lbl, if_neg (by omega)]; rfl) rfl
    · refine j_iload_n d_Roots_leastBelow_32 rfl ?_
      refine j_iload d_Roots_leastBelow_33 rfl ?_
      refine j_iconst (v := -1) d_Roots_leastBelow_35 rfl ?_
      refine j_ixor d_Roots_leastBelow_36 ?_
      refine j_iand d_Roots_leastBelow_37 ?_
      refine j_top (w := nI (nnd g (rhi m d f (o + 1)))) (ni_cl31 hg) ?_
      refine j_if_eqN (tgt := 43) d_Roots_leastBelow_38 (by decide) (by omega) (fun c2 => ?_) (fun c2 => ?_)
      · refine j_iload d_Roots_leastBelow_43 rfl ?_
        refine j_iload_n d_Roots_leastBelow_45 rfl ?_
        refine j_icmp_eqN (tgt := 54) d_Roots_leastBelow_46 (by decide) (by omega) (by omega) (fun c3 => ?_) (fun c3 => ?_)
        · refine j_iload_n d_Roots_leastBelow_54 rfl ?_
          subst hres
          exact j_reti d_Roots_leastBelow_55 (by rw [lbl, if_pos ⟨c1, c2⟩, if_pos (show rlo m d f = g from c3)]; rfl) rfl
        · refine j_iload d_Roots_leastBelow_49 rfl ?_
          refine j_if_gtN_t (tgt := 56) d_Roots_leastBelow_51 (by decide) (by omega) (by omega) ?_
          have hdef : lbl m d g (o + 1) f = match lbl m d g o f with | some x => some x | none => lbl m d g o (f ||| 2 ^ o) := by rw [lbl, if_pos ⟨c1, c2⟩, if_neg (show ¬ rlo m d f = g from c3)]
          refine j_iload_n d_Roots_leastBelow_56 rfl ?_
          refine j_iload_n d_Roots_leastBelow_57 rfl ?_
          refine j_iload_n d_Roots_leastBelow_58 rfl ?_
          refine j_iload_n d_Roots_leastBelow_59 rfl ?_
          refine j_iload d_Roots_leastBelow_60 rfl ?_
          refine j_iconst (v := nI 1) d_Roots_leastBelow_62 rfl ?_
          refine j_isubN d_Roots_leastBelow_63 (by omega) ?_
          refine j_top (w := nI o) rfl ?_
          refine j_callSs (As := [.int (nI m), .int (nI d), .int (nI g), .int (nI f), .int (nI o)]) (st := []) (ih f hf (by omega)) d_Roots_leastBelow_64 (by omega) jm_Roots_leastBelow jk_Roots_13 js_Roots_leastBelow rfl (Nat.le_of_ble_eq_true rfl) rfl ?_
          refine j_istore (L' := [some (.int (nI m)), some (.int (nI d)), some (.int (nI g)), some (.int (nI f)), some (.int (nI (o + 1))), some (.int (nI (rai m d f))), some (.int (nI (rai m d (f ||| ((2 ^ (o + 1)) - 1))))), some (.int (lbr (lbl m d g o f)))]) d_Roots_leastBelow_67 (by decide) rfl rfl ?_
          refine j_iload d_Roots_leastBelow_69 rfl ?_
          refine j_if_lt (tgt := 79) d_Roots_leastBelow_71 (by decide) (fun c4 => ?_) (fun c4 => ?_)
          · cases hq : lbl m d g o f with
            | some x => have hx := lbl_lt o f hf (by omega) hq; rw [hq] at c4; exact absurd (nI_pos' (n := x) (by omega)) (Int32.not_le.mpr c4)
            | none =>
              refine j_iload_n d_Roots_leastBelow_79 rfl ?_
              refine j_iload_n d_Roots_leastBelow_80 rfl ?_
              refine j_iload_n d_Roots_leastBelow_81 rfl ?_
              refine j_iload_n d_Roots_leastBelow_82 rfl ?_
              refine j_iconst (v := nI 1) d_Roots_leastBelow_83 rfl ?_
              refine j_iload d_Roots_leastBelow_84 rfl ?_
              refine j_iconst (v := nI 1) d_Roots_leastBelow_86 rfl ?_
              refine j_isubN d_Roots_leastBelow_87 (by omega) ?_
              refine j_top (w := nI o) rfl ?_
              refine j_shl1N d_Roots_leastBelow_88 (by omega) ?_
              refine j_iorN d_Roots_leastBelow_89 ?_
              refine j_iload d_Roots_leastBelow_90 rfl ?_
              refine j_iconst (v := nI 1) d_Roots_leastBelow_92 rfl ?_
              refine j_isubN d_Roots_leastBelow_93 (by omega) ?_
              refine j_top (w := nI o) rfl ?_
              refine j_callSs (As := [.int (nI m), .int (nI d), .int (nI g), .int (nI (f ||| (2 ^ o))), .int (nI o)]) (st := []) (ih (f ||| (2 ^ o)) (or16 hf (by omega)) (by omega)) d_Roots_leastBelow_94 (by omega) jm_Roots_leastBelow jk_Roots_13 js_Roots_leastBelow rfl (Nat.le_of_ble_eq_true rfl) rfl ?_
              subst hres
              exact j_reti d_Roots_leastBelow_97 (by rw [hdef, hq]) rfl
          · cases hq : lbl m d g o f with
            | none => rw [hq] at c4; exact absurd c4 (by first | exact (show ¬ (0 : Int32) ≤ -1 by decide) | exact (show ¬ ¬ ((-1 : Int32) < 0) by decide))
            | some x =>
              refine j_iload d_Roots_leastBelow_74 rfl ?_
              refine j_goto (tgt := 97) d_Roots_leastBelow_76 (by decide) ?_
              subst hres
              exact j_reti d_Roots_leastBelow_97 (by rw [hdef, hq]) rfl
      · refine j_iconst (v := -1) d_Roots_leastBelow_41 rfl ?_
        subst hres
        exact j_reti d_Roots_leastBelow_42 (by rw [lbl, if_neg (by omega)]; rfl) rfl
theorem x_countOf {n : jN} {h : jH} {m d g : Nat} (hm : m ≤ 4) (hd : 2 ≤ d) (hd8 : d ≤ 8) (hg : g < 2 ^ 31) : jC n 19 jy_Roots_countOf jc_Roots_countOf 3 (some .int) [.int (nI m), .int (nI d), .int (nI g)] h (some (.int (nI (cbl m d g (m * m) 0)))) h := by
  refine jC_of jm_Roots_countOf (L := [some (.int (nI m)), some (.int (nI d)), some (.int (nI g))]) (Nat.le_of_ble_eq_true rfl) rfl trivial ?_
  generalize hres : (((some (.int (nI (cbl m d g (m * m) 0)))), h) : Option Value × jH) = res
  have hsq := sq_le hm
  refine j_iload_n d_Roots_countOf_0 rfl ?_
  refine j_iload_n d_Roots_countOf_1 rfl ?_
  refine j_iload_n d_Roots_countOf_2 rfl ?_
  refine j_iconst (v := nI 0) d_Roots_countOf_3 rfl ?_
  refine j_iload_n d_Roots_countOf_4 rfl ?_
  refine j_iload_n d_Roots_countOf_5 rfl ?_
  refine j_imulN d_Roots_countOf_6 ?_
  refine j_callSs (As := [.int (nI m), .int (nI d), .int (nI g), .int (nI 0), .int (nI (m * m))]) (st := []) (x_countBelow hm hd hd8 hg (m * m) 0 (by omega) hsq) d_Roots_countOf_7 (by omega) jm_Roots_countBelow jk_Roots_7 js_Roots_countBelow rfl (Nat.le_of_ble_eq_true rfl) rfl ?_
  subst hres
  exact j_reti d_Roots_countOf_10 rfl rfl
theorem x_leastOf {n : jN} {h : jH} {m d g : Nat} (hm : m ≤ 4) (hd : 2 ≤ d) (hd8 : d ≤ 8) (hg : g < 2 ^ 31) : jC n 19 jy_Roots_leastOf jc_Roots_leastOf 3 (some .int) [.int (nI m), .int (nI d), .int (nI g)] h (some (.int (lbr (lbl m d g (m * m) 0)))) h := by
  refine jC_of jm_Roots_leastOf (L := [some (.int (nI m)), some (.int (nI d)), some (.int (nI g))]) (Nat.le_of_ble_eq_true rfl) rfl trivial ?_
  generalize hres : (((some (.int (lbr (lbl m d g (m * m) 0)))), h) : Option Value × jH) = res
  have hsq := sq_le hm
  refine j_iload_n d_Roots_leastOf_0 rfl ?_
  refine j_iload_n d_Roots_leastOf_1 rfl ?_
  refine j_iload_n d_Roots_leastOf_2 rfl ?_
  refine j_iconst (v := nI 0) d_Roots_leastOf_3 rfl ?_
  refine j_iload_n d_Roots_leastOf_4 rfl ?_
  refine j_iload_n d_Roots_leastOf_5 rfl ?_
  refine j_imulN d_Roots_leastOf_6 ?_
  refine j_callSs (As := [.int (nI m), .int (nI d), .int (nI g), .int (nI 0), .int (nI (m * m))]) (st := []) (x_leastBelow hm hd hd8 hg (m * m) 0 (by omega) hsq) d_Roots_leastOf_7 (by omega) jm_Roots_leastBelow jk_Roots_13 js_Roots_leastBelow rfl (Nat.le_of_ble_eq_true rfl) rfl ?_
  subst hres
  exact j_reti d_Roots_leastOf_10 rfl rfl

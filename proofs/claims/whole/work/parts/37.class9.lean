theorem ni_cl31 {a b : Nat} (ha : a < 2 ^ 31) : nI a &&& (nI b ^^^ (-1)) = nI (a &&& ((2 ^ 31 - 1) ^^^ b)) := by
  apply Int32.toBitVec_inj.1
  show BitVec.ofNat 32 a &&& (BitVec.ofNat 32 b ^^^ BitVec.allOnes 32) = BitVec.ofNat 32 (a &&& ((2 ^ 31 - 1) ^^^ b))
  apply BitVec.eq_of_getLsbD_eq
  intro i hi
  simp only [BitVec.getLsbD_and, BitVec.getLsbD_xor, BitVec.getLsbD_ofNat, BitVec.getLsbD_allOnes, hi, decide_true, Bool.true_and, Nat.testBit_xor, Nat.testBit_and, Nat.testBit_two_pow_sub_one]
  by_cases h : i < 31
  · simp [h]
  · have : a.testBit i = false := Nat.testBit_lt_two_pow (Nat.lt_of_lt_of_le ha (Nat.pow_le_pow_right (by omega) (by omega)))
    simp [this]
def nnd (a b : Nat) : Nat := a &&& ((2 ^ 31 - 1) ^^^ b)
theorem nnd_lt {a b : Nat} (ha : a < 2 ^ 31) : nnd a b < 2 ^ 31 := Nat.lt_of_le_of_lt Nat.and_le_left ha
def rlo (m d f : Nat) : Nat := rai m d f
def rhi (m d f o : Nat) : Nat := rai m d (f ||| (2 ^ o - 1))
def cbl (m d g : Nat) : Nat → Nat → Nat
  | 0, f => if nnd (rlo m d f) g = 0 ∧ nnd g (rhi m d f 0) = 0 then 2 ^ 0 else 0
  | o + 1, f => if nnd (rlo m d f) g = 0 ∧ nnd g (rhi m d f (o + 1)) = 0 then (if rlo m d f = rhi m d f (o + 1) then 2 ^ (o + 1) else cbl m d g o f + cbl m d g o (f ||| 2 ^ o)) else 0
theorem or16 {f o : Nat} (hf : f < 65536) (ho : o < 16) : f ||| 2 ^ o < 65536 := Nat.or_lt_two_pow (n := 16) hf (Nat.pow_lt_pow_right (by omega) ho)
theorem or16m {f o : Nat} (hf : f < 65536) (ho : o ≤ 16) : f ||| (2 ^ o - 1) < 65536 := by
  have h1 : 2 ^ o ≤ 2 ^ 16 := Nat.pow_le_pow_right (by omega) ho
  have h2 : 0 < 2 ^ o := Nat.two_pow_pos o
  exact Nat.or_lt_two_pow (n := 16) hf (by omega)
theorem cbl_le {m d g : Nat} : ∀ o f, cbl m d g o f ≤ 2 ^ o
  | 0, f => by unfold cbl; split <;> simp
  | o + 1, f => by
    have h1 := cbl_le (m := m) (d := d) (g := g) o f
    have h2 := cbl_le (m := m) (d := d) (g := g) o (f ||| 2 ^ o)
    unfold cbl
    split
    · split
      · omega
      · rw [Nat.pow_succ]; omega
    · omega
theorem x_countBelow {n : jN} {h : jH} {m d g : Nat} (hm : m ≤ 4) (hd : 2 ≤ d) (hd8 : d ≤ 8) (hg : g < 2 ^ 31) : ∀ o f, f < 65536 → o ≤ 16 → jC n (o + 2) jy_Roots_countBelow jc_Roots_countBelow 7 (some .int) [.int (nI m), .int (nI d), .int (nI g), .int (nI f), .int (nI o)] h (some (.int (nI (cbl m d g o f)))) h := by
  intro o
  induction o with
  | zero =>
    intro f hf ho
    refine jC_of jm_Roots_countBelow (L := [some (.int (nI m)), some (.int (nI d)), some (.int (nI g)), some (.int (nI f)), some (.int (nI 0)), none, none]) (Nat.le_of_ble_eq_true rfl) rfl trivial ?_
    generalize hres : ((some (.int (nI (cbl m d g (0) f))), h) : Option Value × jH) = res
    have h2o : 2 ^ (0) ≤ 2 ^ 16 := Nat.pow_le_pow_right (by omega) (by omega)
    have hlo := rai_lt (d := d) (x := f) hm
    have hhi := rai_lt (d := d) (x := f ||| (2 ^ (0) - 1)) hm
    have hm1 := or16m hf (show 0 ≤ 16 by omega)
    have e1 : nnd (rlo m d f) g = rai m d f &&& ((2 ^ 31 - 1) ^^^ g) := rfl
    refine j_iload_n d_Roots_countBelow_0 rfl ?_
    refine j_iload_n d_Roots_countBelow_1 rfl ?_
    refine j_iload_n d_Roots_countBelow_2 rfl ?_
    refine j_callSs (As := [.int (nI m), .int (nI d), .int (nI f)]) (st := []) (x_raised hm hd hd8 (by omega)) d_Roots_countBelow_3 (by omega) jm_Roots_raised jk_Roots_16 js_Roots_raised rfl (Nat.le_of_ble_eq_true rfl) rfl ?_
    refine j_istore (L' := [some (.int (nI m)), some (.int (nI d)), some (.int (nI g)), some (.int (nI f)), some (.int (nI 0)), some (.int (nI (rai m d f))), none]) d_Roots_countBelow_6 (by decide) rfl rfl ?_
    refine j_iload_n d_Roots_countBelow_8 rfl ?_
    refine j_iload_n d_Roots_countBelow_9 rfl ?_
    refine j_iload_n d_Roots_countBelow_10 rfl ?_
    refine j_iconst (v := nI 1) d_Roots_countBelow_11 rfl ?_
    refine j_iload d_Roots_countBelow_12 rfl ?_
    refine j_shl1N d_Roots_countBelow_14 (by omega) ?_
    refine j_iconst (v := nI 1) d_Roots_countBelow_15 rfl ?_
    refine j_isubN d_Roots_countBelow_16 Nat.one_le_two_pow ?_
    refine j_iorN d_Roots_countBelow_17 ?_
    refine j_callSs (As := [.int (nI m), .int (nI d), .int (nI (f ||| ((2 ^ 0) - 1)))]) (st := []) (x_raised hm hd hd8 (by omega)) d_Roots_countBelow_18 (by omega) jm_Roots_raised jk_Roots_16 js_Roots_raised rfl (Nat.le_of_ble_eq_true rfl) rfl ?_
    refine j_istore (L' := [some (.int (nI m)), some (.int (nI d)), some (.int (nI g)), some (.int (nI f)), some (.int (nI 0)), some (.int (nI (rai m d f))), some (.int (nI (rai m d (f ||| ((2 ^ 0) - 1)))))]) d_Roots_countBelow_21 (by decide) rfl rfl ?_
    refine j_iload d_Roots_countBelow_23 rfl ?_
    refine j_iload_n d_Roots_countBelow_25 rfl ?_
    refine j_iconst (v := -1) d_Roots_countBelow_26 rfl ?_
    refine j_ixor d_Roots_countBelow_27 ?_
    refine j_iand d_Roots_countBelow_28 ?_
    refine j_top (w := nI (nnd (rlo m d f) g)) (ni_cl31 hlo) ?_
    have hn1 : nnd (rlo m d f) g < 2 ^ 31 := nnd_lt hlo
    have hn2 : nnd g (rhi m d f (0)) < 2 ^ 31 := nnd_lt hg
    refine j_if_neN (tgt := 41) d_Roots_countBelow_29 (by decide) (by omega) (fun c1 => ?_) (fun c1 => ?_)
    · refine j_iconst (v := nI 0) d_Roots_countBelow_41 rfl ?_
      subst hres
      exact j_reti d_Roots_countBelow_42 (by rw [cbl, if_neg (by omega)]) rfl
    · refine j_iload_n d_Roots_countBelow_32 rfl ?_
      refine j_iload d_Roots_countBelow_33 rfl ?_
      refine j_iconst (v := -1) d_Roots_countBelow_35 rfl ?_
      refine j_ixor d_Roots_countBelow_36 ?_
      refine j_iand d_Roots_countBelow_37 ?_
      refine j_top (w := nI (nnd g (rhi m d f (0)))) (ni_cl31 hg) ?_
      refine j_if_eqN (tgt := 43) d_Roots_countBelow_38 (by decide) (by omega) (fun c2 => ?_) (fun c2 => ?_)
      · refine j_iload d_Roots_countBelow_43 rfl ?_
        refine j_iload d_Roots_countBelow_45 rfl ?_
        refine j_icmp_eqN (tgt := 55) d_Roots_countBelow_47 (by decide) (by omega) (by omega) (fun c3 => ?_) (fun c3 => ?_)
        · refine j_iconst (v := nI 1) d_Roots_countBelow_55 rfl ?_
          refine j_iload d_Roots_countBelow_56 rfl ?_
          refine j_shl1N d_Roots_countBelow_58 (by omega) ?_
          subst hres
          exact j_reti d_Roots_countBelow_59 (by rw [cbl, if_pos ⟨c1, c2⟩]) rfl
        · refine j_iload d_Roots_countBelow_50 rfl ?_
          refine j_if_gtN_f (tgt := 60) d_Roots_countBelow_52 (by decide) (by omega) (by omega) ?_
          refine j_iconst (v := nI 1) d_Roots_countBelow_55 rfl ?_
          refine j_iload d_Roots_countBelow_56 rfl ?_
          refine j_shl1N d_Roots_countBelow_58 (by omega) ?_
          subst hres
          exact j_reti d_Roots_countBelow_59 (by rw [cbl, if_pos ⟨c1, c2⟩]) rfl
      · refine j_iconst (v := nI 0) d_Roots_countBelow_41 rfl ?_
        subst hres
        exact j_reti d_Roots_countBelow_42 (by rw [cbl, if_neg (by omega)]) rfl
  | succ o ih =>
    intro f hf ho
    refine jC_of jm_Roots_countBelow (L := [some (.int (nI m)), some (.int (nI d)), some (.int (nI g)), some (.int (nI f)), some (.int (nI (o + 1))), none, none]) (Nat.le_of_ble_eq_true rfl) rfl trivial ?_
    generalize hres : ((some (.int (nI (cbl m d g (o + 1) f))), h) : Option Value × jH) = res
    have h2o : 2 ^ (o + 1) ≤ 2 ^ 16 := Nat.pow_le_pow_right (by omega) (by omega)
    have hlo := rai_lt (d := d) (x := f) hm
    have hhi := rai_lt (d := d) (x := f ||| (2 ^ (o + 1) - 1)) hm
    have hm1 := or16m hf (show o + 1 ≤ 16 by omega)
    have e1 : nnd (rlo m d f) g = rai m d f &&& ((2 ^ 31 - 1) ^^^ g) := rfl
    refine j_iload_n d_Roots_countBelow_0 rfl ?_
    refine j_iload_n d_Roots_countBelow_1 rfl ?_
    refine j_iload_n d_Roots_countBelow_2 rfl ?_
    refine j_callSs (As := [.int (nI m), .int (nI d), .int (nI f)]) (st := []) (x_raised hm hd hd8 (by omega)) d_Roots_countBelow_3 (by omega) jm_Roots_raised jk_Roots_16 js_Roots_raised rfl (Nat.le_of_ble_eq_true rfl) rfl ?_
    refine j_istore (L' := [some (.int (nI m)), some (.int (nI d)), some (.int (nI g)), some (.int (nI f)), some (.int (nI (o + 1))), some (.int (nI (rai m d f))), none]) d_Roots_countBelow_6 (by decide) rfl rfl ?_
    refine j_iload_n d_Roots_countBelow_8 rfl ?_
    refine j_iload_n d_Roots_countBelow_9 rfl ?_
    refine j_iload_n d_Roots_countBelow_10 rfl ?_
    refine j_iconst (v := nI 1) d_Roots_countBelow_11 rfl ?_
    refine j_iload d_Roots_countBelow_12 rfl ?_
    refine j_shl1N d_Roots_countBelow_14 (by omega) ?_
    refine j_iconst (v := nI 1) d_Roots_countBelow_15 rfl ?_
    refine j_isubN d_Roots_countBelow_16 Nat.one_le_two_pow ?_
    refine j_iorN d_Roots_countBelow_17 ?_
    refine j_callSs (As := [.int (nI m), .int (nI d), .int (nI (f ||| ((2 ^ (o + 1)) - 1)))]) (st := []) (x_raised hm hd hd8 (by omega)) d_Roots_countBelow_18 (by omega) jm_Roots_raised jk_Roots_16 js_Roots_raised rfl (Nat.le_of_ble_eq_true rfl) rfl ?_
    refine j_istore (L' := [some (.int (nI m)), some (.int (nI d)), some (.int (nI g)), some (.int (nI f)), some (.int (nI (o + 1))), some (.int (nI (rai m d f))), some (.int (nI (rai m d (f ||| ((2 ^ (o + 1)) - 1)))))]) d_Roots_countBelow_21 (by decide) rfl rfl ?_
    refine j_iload d_Roots_countBelow_23 rfl ?_
    refine j_iload_n d_Roots_countBelow_25 rfl ?_
    refine j_iconst (v := -1) d_Roots_countBelow_26 rfl ?_
    refine j_ixor d_Roots_countBelow_27 ?_
    refine j_iand d_Roots_countBelow_28 ?_
    refine j_top (w := nI (nnd (rlo m d f) g)) (ni_cl31 hlo) ?_
    have hn1 : nnd (rlo m d f) g < 2 ^ 31 := nnd_lt hlo
    have hn2 : nnd g (rhi m d f (o + 1)) < 2 ^ 31 := nnd_lt hg
    refine j_if_neN (tgt := 41) d_Roots_countBelow_29 (by decide) (by omega) (fun c1 => ?_) (fun c1 => ?_)
    · refine j_iconst (v := nI 0) d_Roots_countBelow_41 rfl ?_
      subst hres
      exact j_reti d_Roots_countBelow_42 (by rw [cbl, if_neg (by omega)]) rfl
    · refine j_iload_n d_Roots_countBelow_32 rfl ?_
      refine j_iload d_Roots_countBelow_33 rfl ?_
      refine j_iconst (v := -1) d_Roots_countBelow_35 rfl ?_
      refine j_ixor d_Roots_countBelow_36 ?_
      refine j_iand d_Roots_countBelow_37 ?_
      refine j_top (w := nI (nnd g (rhi m d f (o + 1)))) (ni_cl31 hg) ?_
      refine j_if_eqN (tgt := 43) d_Roots_countBelow_38 (by decide) (by omega) (fun c2 => ?_) (fun c2 => ?_)
      · refine j_iload d_Roots_countBelow_43 rfl ?_
        refine j_iload d_Roots_countBelow_45 rfl ?_
        refine j_icmp_eqN (tgt := 55) d_Roots_countBelow_47 (by decide) (by omega) (by omega) (fun c3 => ?_) (fun c3 => ?_)
        · refine j_iconst (v := nI 1) d_Roots_countBelow_55 rfl ?_
          refine j_iload d_Roots_countBelow_56 rfl ?_
          refine j_shl1N d_Roots_countBelow_58 (by omega) ?_
          subst hres
          exact j_reti d_Roots_countBelow_59 (by rw [cbl, if_pos ⟨c1, c2⟩, if_pos (show rlo m d f = rhi m d f (o + 1) from c3)]) rfl
        · refine j_iload d_Roots_countBelow_50 rfl ?_
          refine j_if_gtN_t (tgt := 60) d_Roots_countBelow_52 (by decide) (by omega) (by omega) ?_
          refine j_iload_n d_Roots_countBelow_60 rfl ?_
          refine j_iload_n d_Roots_countBelow_61 rfl ?_
          refine j_iload_n d_Roots_countBelow_62 rfl ?_
          refine j_iload_n d_Roots_countBelow_63 rfl ?_
          refine j_iload d_Roots_countBelow_64 rfl ?_
          refine j_iconst (v := nI 1) d_Roots_countBelow_66 rfl ?_
          refine j_isubN d_Roots_countBelow_67 (by omega) ?_
          refine j_top (w := nI o) rfl ?_
          refine j_callSs (As := [.int (nI m), .int (nI d), .int (nI g), .int (nI f), .int (nI o)]) (st := []) (ih f hf (by omega)) d_Roots_countBelow_68 (by omega) jm_Roots_countBelow jk_Roots_7 js_Roots_countBelow rfl (Nat.le_of_ble_eq_true rfl) rfl ?_
          refine j_iload_n d_Roots_countBelow_71 rfl ?_
          refine j_iload_n d_Roots_countBelow_72 rfl ?_
          refine j_iload_n d_Roots_countBelow_73 rfl ?_
          refine j_iload_n d_Roots_countBelow_74 rfl ?_
          refine j_iconst (v := nI 1) d_Roots_countBelow_75 rfl ?_
          refine j_iload d_Roots_countBelow_76 rfl ?_
          refine j_iconst (v := nI 1) d_Roots_countBelow_78 rfl ?_
          refine j_isubN d_Roots_countBelow_79 (by omega) ?_
          refine j_top (w := nI o) rfl ?_
          refine j_shl1N d_Roots_countBelow_80 (by omega) ?_
          refine j_iorN d_Roots_countBelow_81 ?_
          refine j_iload d_Roots_countBelow_82 rfl ?_
          refine j_iconst (v := nI 1) d_Roots_countBelow_84 rfl ?_
          refine j_isubN d_Roots_countBelow_85 (by omega) ?_
          refine j_top (w := nI o) rfl ?_
          refine j_callSs (As := [.int (nI m), .int (nI d), .int (nI g), .int (nI (f ||| (2 ^ o))), .int (nI o)]) (st := [.int (nI (cbl m d g o f))]) (ih (f ||| (2 ^ o)) (or16 hf (by omega)) (by omega)) d_Roots_countBelow_86 (by omega) jm_Roots_countBelow jk_Roots_7 js_Roots_countBelow rfl (Nat.le_of_ble_eq_true rfl) rfl ?_
          refine j_iaddN d_Roots_countBelow_89 ?_
          subst hres
          exact j_reti d_Roots_countBelow_90 (by rw [cbl, if_pos ⟨c1, c2⟩, if_neg (show ¬ rlo m d f = rhi m d f (o + 1) from c3)]) rfl
      · refine j_iconst (v := nI 0) d_Roots_countBelow_41 rfl ?_
        subst hres
        exact j_reti d_Roots_countBelow_42 (by rw [cbl, if_neg (by omega)]) rfl

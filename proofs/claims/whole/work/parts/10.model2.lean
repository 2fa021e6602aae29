def jin (x : Int32) (lo hi : Int) : Bool := decide (lo ≤ x.toInt ∧ x.toInt ≤ hi)
theorem jin_lo {v low : Int64} : 0 ≤ lg_cmp v low ↔ low.toInt ≤ v.toInt := by rw [lg_cmp_ge, Int64.le_iff_toInt_le]
theorem jin_hi {v high : Int64} : lg_cmp v high ≤ 0 ↔ v.toInt ≤ high.toInt := by rw [lg_cmp_le, Int64.le_iff_toInt_le]
theorem jin_v {v : Int64} {x : Int32} (hv : v = x.toInt64) : v.toInt = x.toInt := by rw [hv, Int32.toInt_toInt64]
theorem jin_f1 {v low : Int64} {x : Int32} {lo hi : Int} (hv : v = x.toInt64) (hlo : low.toInt = lo) (c : lg_cmp v low < 0) : jin x lo hi = false := by
  have : ¬ (0 ≤ lg_cmp v low) := Int32.not_le.mpr c
  rw [jin_lo, jin_v hv, hlo] at this
  simp [jin]
  omega
theorem jin_f2 {v high : Int64} {x : Int32} {lo hi : Int} (hv : v = x.toInt64) (hhi : high.toInt = hi) (c : 0 < lg_cmp v high) : jin x lo hi = false := by
  have : ¬ (lg_cmp v high ≤ 0) := Int32.not_le.mpr c
  rw [jin_hi, jin_v hv, hhi] at this
  simp [jin]
  omega
theorem jin_t {v low high : Int64} {x : Int32} {lo hi : Int} (hv : v = x.toInt64) (hlo : low.toInt = lo) (hhi : high.toInt = hi) (c : ¬ lg_cmp v low < 0) (c2 : ¬ 0 < lg_cmp v high) : jin x lo hi = true := by
  have h1 : 0 ≤ lg_cmp v low := Int32.not_lt.mp c
  have h2 : lg_cmp v high ≤ 0 := Int32.not_lt.mp c2
  rw [jin_lo, jin_v hv, hlo] at h1
  rw [jin_hi, jin_v hv, hhi] at h2
  simp [jin]
  omega
theorem c_in {n : jN} {h : jH} {v low high : Int64} {x : Int32} {lo hi : Int} (hv : v = x.toInt64) (hlo : low.toInt = lo) (hhi : high.toInt = hi) : jC n 0 jy_Model_in jc_Model_in 6 (some .boolean) [.long v, .long low, .long high] h (some (.int (jbo (jin x lo hi)))) h := by
  refine jC_of jm_Model_in (L := [some (.long v), none, some (.long low), none, some (.long high), none]) (Nat.le_of_ble_eq_true rfl) rfl (jbo01 _) ?_
  generalize hres : (((some (.int (jbo (jin x lo hi)))), h) : Option Value × jH) = res
  refine j_lload_n d_Model_in_0 rfl ?_
  refine j_lload_n d_Model_in_1 rfl ?_
  refine j_lcmp d_Model_in_2 ?_
  refine j_if_lt (tgt := 17) d_Model_in_3 (by decide) (fun c => ?_) (fun c => ?_)
  · refine j_iconst (v := nI 0) d_Model_in_17 rfl ?_
    subst hres
    exact j_reti d_Model_in_18 (by rw [show jin x lo hi = false from jin_f1 hv hlo c]; rfl) rfl
  · refine j_lload_n d_Model_in_6 rfl ?_
    refine j_lload d_Model_in_7 rfl ?_
    refine j_lcmp d_Model_in_9 ?_
    refine j_if_gt (tgt := 17) d_Model_in_10 (by decide) (fun c2 => ?_) (fun c2 => ?_)
    · refine j_iconst (v := nI 0) d_Model_in_17 rfl ?_
      subst hres
      exact j_reti d_Model_in_18 (by rw [show jin x lo hi = false from jin_f2 hv hhi c2]; rfl) rfl
    · refine j_iconst (v := nI 1) d_Model_in_13 rfl ?_
      refine j_goto (tgt := 18) d_Model_in_14 (by decide) ?_
      subst hres
      exact j_reti d_Model_in_18 (by rw [show jin x lo hi = true from jin_t hv hlo hhi c c2]; rfl) rfl
def jsl (s : Int32) : Bool := decide (0 ≤ s ∧ s < 6)
theorem jsl_t {s : Int32} (h : jsl s = true) : ∃ k, k < 6 ∧ s = nI k := by
  simp only [jsl, decide_eq_true_eq] at h
  obtain ⟨j, hj, rfl⟩ := nI_of (Int32.not_lt.mpr h.1)
  exact ⟨j, (nI_ltI (b := 6) hj (by omega)).mp h.2, rfl⟩
theorem jsl_N {k : Nat} (h : k < 6) : jsl (nI k) = true := by
  simp only [jsl, decide_eq_true_eq]
  exact ⟨nI_pos' (by omega), (nI_ltI (b := 6) (by omega) (by omega)).mpr h⟩
theorem c_isSlot {n : jN} {h : jH} {s : Int32} : jC n 0 jy_Model_isSlot jc_Model_isSlot 1 (some .boolean) [.int s] h (some (.int (jbo (jsl s)))) h := by
  refine jC_of jm_Model_isSlot (L := [some (.int s)]) (Nat.le_of_ble_eq_true rfl) rfl (jbo01 _) ?_
  generalize hres : (((some (.int (jbo (jsl s)))), h) : Option Value × jH) = res
  refine j_iload_n d_Model_isSlot_0 rfl ?_
  refine j_if_lt (tgt := 14) d_Model_isSlot_1 (by decide) (fun c => ?_) (fun c => ?_)
  · refine j_iconst (v := nI 0) d_Model_isSlot_14 rfl ?_
    subst hres
    exact j_reti d_Model_isSlot_15 (by rw [show jsl s = false from by simp only [jsl, decide_eq_false_iff_not]; exact fun z => absurd z.1 (Int32.not_le.mpr c)]; rfl) rfl
  · refine j_iload_n d_Model_isSlot_4 rfl ?_
    refine j_bipush (v := nI 6) d_Model_isSlot_5 (by decide) ?_
    refine j_icmp_ge (tgt := 14) d_Model_isSlot_7 (by decide) (fun c2 => ?_) (fun c2 => ?_)
    · refine j_iconst (v := nI 0) d_Model_isSlot_14 rfl ?_
      subst hres
      exact j_reti d_Model_isSlot_15 (by rw [show jsl s = false from by simp only [jsl, decide_eq_false_iff_not]; exact fun z => absurd z.2 (Int32.not_lt.mpr c2)]; rfl) rfl
    · refine j_iconst (v := nI 1) d_Model_isSlot_10 rfl ?_
      refine j_goto (tgt := 15) d_Model_isSlot_11 (by decide) ?_
      subst hres
      exact j_reti d_Model_isSlot_15 (by rw [show jsl s = true from by simp only [jsl, decide_eq_true_eq]; exact ⟨Int32.not_lt.mp c, Int32.not_le.mp c2⟩]; rfl) rfl
def jho (P : jP) (s : Int32) : Bool := jsl s && decide (0 < (P s.toNatClampNeg).1)
theorem jho_t {P : jP} {s : Int32} (h : jho P s = true) : ∃ k, k < 6 ∧ 0 < (P k).1 ∧ s = nI k := by
  simp only [jho, Bool.and_eq_true, decide_eq_true_eq] at h
  obtain ⟨k, hk, rfl⟩ := jsl_t h.1
  rw [nI_clamp (by omega)] at h
  exact ⟨k, hk, h.2, rfl⟩
theorem jho_N {P : jP} {k : Nat} (h : k < 6) : jho P (nI k) = decide (0 < (P k).1) := by
  simp [jho, jsl_N h, nI_clamp (show k < 2 ^ 31 by omega)]
theorem c_holds {n : jN} {h : jH} {P : jP} {s : Int32} (hw : ∀ q, tw (P q)) : jC n 1 jy_Model_holds jc_Model_holds 2 (some .boolean) [.ref 135, .int s] (jM h P) (some (.int (jbo (jho P s)))) (jM h P) := by
  have hw1 := (hw s.toNatClampNeg).1
  refine jC_of jm_Model_holds (L := [some (.ref 135), some (.int s)]) (Nat.le_of_ble_eq_true rfl) rfl (jbo01 _) ?_
  generalize hres : (((some (.int (jbo (jho P s)))), jM h P) : Option Value × jH) = res
  refine j_iload_n d_Model_holds_0 rfl ?_
  refine j_callSs (As := [.int s]) (st := []) c_isSlot d_Model_holds_1 (by decide) jm_Model_isSlot jk_Model_63 js_Model_isSlot rfl (Nat.le_of_ble_eq_true rfl) rfl ?_
  refine j_if_eqB (tgt := 20) d_Model_holds_4 (by decide) (fun c => ?_) (fun c => ?_)
  · refine j_iconst (v := nI 0) d_Model_holds_20 rfl ?_
    subst hres
    exact j_reti d_Model_holds_21 (by simp only [jho, c]; rfl) rfl
  · obtain ⟨k, hk, rfl⟩ := jsl_t c
    have hw2 := (hw k).1
    refine j_aload_n d_Model_holds_7 rfl ?_
    refine j_getr (b := 137) d_Model_holds_8 jf_Model_13 rfl rfl rfl (by decide) ?_
    refine j_iload_n d_Model_holds_11 rfl ?_
    refine j_ialdN (v := nI ((P k).1)) d_Model_holds_12 rfl (by omega) (by decide) rfl ?_
    refine j_if_leN (tgt := 20) d_Model_holds_13 (by decide) (by omega) (fun c2 => ?_) (fun c2 => ?_)
    · refine j_iconst (v := nI 0) d_Model_holds_20 rfl ?_
      subst hres
      exact j_reti d_Model_holds_21 (by rw [jho_N hk, decide_eq_false (by omega)]; rfl) rfl
    · refine j_iconst (v := nI 1) d_Model_holds_16 rfl ?_
      refine j_goto (tgt := 21) d_Model_holds_17 (by decide) ?_
      subst hres
      exact j_reti d_Model_holds_21 (by rw [jho_N hk, decide_eq_true (by omega)]; rfl) rfl
def jmb (m : Nat) (i : Int32) : Bool := decide (0 ≤ i ∧ i < nI m)
theorem jmb_t {m : Nat} {i : Int32} (hm : m ≤ 12) (h : jmb m i = true) : ∃ k, k < m ∧ i = nI k := by
  simp only [jmb, decide_eq_true_eq] at h
  obtain ⟨j, hj, rfl⟩ := nI_of (Int32.not_lt.mpr h.1)
  exact ⟨j, (nI_ltI hj (by omega)).mp h.2, rfl⟩
theorem c_isMember {n : jN} {h : jH} {P : jP} {p : Nat} {i : Int32} (hp : p < 38) : jC n 0 jy_Model_isMember jc_Model_isMember 3 (some .boolean) [.ref 135, .int (nI p), .int i] (jM h P) (some (.int (jbo (jmb (P p).1 i)))) (jM h P) := by
  refine jC_of jm_Model_isMember (L := [some (.ref 135), some (.int (nI p)), some (.int i)]) (Nat.le_of_ble_eq_true rfl) rfl (jbo01 _) ?_
  generalize hres : (((some (.int (jbo (jmb (P p).1 i)))), jM h P) : Option Value × jH) = res
  refine j_iload_n d_Model_isMember_0 rfl ?_
  refine j_if_lt (tgt := 18) d_Model_isMember_1 (by decide) (fun c => ?_) (fun c => ?_)
  · refine j_iconst (v := nI 0) d_Model_isMember_18 rfl ?_
    subst hres
    exact j_reti d_Model_isMember_19 (by rw [show jmb (P p).1 i = false from by simp only [jmb, decide_eq_false_iff_not]; exact fun z => absurd z.1 (Int32.not_le.mpr c)]; rfl) rfl
  · refine j_iload_n d_Model_isMember_4 rfl ?_
    refine j_aload_n d_Model_isMember_5 rfl ?_
    refine j_getr (b := 137) d_Model_isMember_6 jf_Model_13 rfl rfl rfl (by decide) ?_
    refine j_iload_n d_Model_isMember_9 rfl ?_
    refine j_ialdN (v := nI ((P p).1)) d_Model_isMember_10 rfl (by omega) (by decide) rfl ?_
    refine j_icmp_ge (tgt := 18) d_Model_isMember_11 (by decide) (fun c2 => ?_) (fun c2 => ?_)
    · refine j_iconst (v := nI 0) d_Model_isMember_18 rfl ?_
      subst hres
      exact j_reti d_Model_isMember_19 (by rw [show jmb (P p).1 i = false from by simp only [jmb, decide_eq_false_iff_not]; exact fun z => absurd z.2 (Int32.not_lt.mpr c2)]; rfl) rfl
    · refine j_iconst (v := nI 1) d_Model_isMember_14 rfl ?_
      refine j_goto (tgt := 19) d_Model_isMember_15 (by decide) ?_
      subst hres
      exact j_reti d_Model_isMember_19 (by rw [show jmb (P p).1 i = true from by simp only [jmb, decide_eq_true_eq]; exact ⟨Int32.not_lt.mp c, Int32.not_le.mp c2⟩]; rfl) rfl
def jse (m : Nat) (v : Int32) : Bool := decide (0 ≤ v ∧ v < nI (2 ^ m))
theorem jse_t {m : Nat} {v : Int32} (hm : m ≤ 12) (h : jse m v = true) : ∃ k, k < 2 ^ m ∧ v = nI k := by
  simp only [jse, decide_eq_true_eq] at h
  obtain ⟨j, hj, rfl⟩ := nI_of (Int32.not_lt.mpr h.1)
  have : 2 ^ m < 2 ^ 31 := Nat.pow_lt_pow_right (by omega) (by omega)
  exact ⟨j, (nI_ltI hj this).mp h.2, rfl⟩
theorem c_isSet {n : jN} {h : jH} {P : jP} {p : Nat} {i : Int32} (hp : p < 38) (hn : (P p).1 ≤ 12) : jC n 0 jy_Model_isSet jc_Model_isSet 3 (some .boolean) [.ref 135, .int (nI p), .int i] (jM h P) (some (.int (jbo (jse (P p).1 i)))) (jM h P) := by
  refine jC_of jm_Model_isSet (L := [some (.ref 135), some (.int (nI p)), some (.int i)]) (Nat.le_of_ble_eq_true rfl) rfl (jbo01 _) ?_
  generalize hres : (((some (.int (jbo (jse (P p).1 i)))), jM h P) : Option Value × jH) = res
  refine j_iload_n d_Model_isSet_0 rfl ?_
  refine j_if_lt (tgt := 20) d_Model_isSet_1 (by decide) (fun c => ?_) (fun c => ?_)
  · refine j_iconst (v := nI 0) d_Model_isSet_20 rfl ?_
    subst hres
    exact j_reti d_Model_isSet_21 (by rw [show jse (P p).1 i = false from by simp only [jse, decide_eq_false_iff_not]; exact fun z => absurd z.1 (Int32.not_le.mpr c)]; rfl) rfl
  · refine j_iload_n d_Model_isSet_4 rfl ?_
    refine j_iconst (v := nI 1) d_Model_isSet_5 rfl ?_
    refine j_aload_n d_Model_isSet_6 rfl ?_
    refine j_getr (b := 137) d_Model_isSet_7 jf_Model_13 rfl rfl rfl (by decide) ?_
    refine j_iload_n d_Model_isSet_10 rfl ?_
    refine j_ialdN (v := nI ((P p).1)) d_Model_isSet_11 rfl (by omega) (by decide) rfl ?_
    refine j_shl1N d_Model_isSet_12 (by omega) ?_
    refine j_icmp_ge (tgt := 20) d_Model_isSet_13 (by decide) (fun c2 => ?_) (fun c2 => ?_)
    · refine j_iconst (v := nI 0) d_Model_isSet_20 rfl ?_
      subst hres
      exact j_reti d_Model_isSet_21 (by rw [show jse (P p).1 i = false from by simp only [jse, decide_eq_false_iff_not]; exact fun z => absurd z.2 (Int32.not_lt.mpr c2)]; rfl) rfl
    · refine j_iconst (v := nI 1) d_Model_isSet_16 rfl ?_
      refine j_goto (tgt := 21) d_Model_isSet_17 (by decide) ?_
      subst hres
      exact j_reti d_Model_isSet_21 (by rw [show jse (P p).1 i = true from by simp only [jse, decide_eq_true_eq]; exact ⟨Int32.not_lt.mp c, Int32.not_le.mp c2⟩]; rfl) rfl
theorem c_transpose {n : jN} {h : jH} {P : jP} {a t : Nat} (hpa : a < 38) (hpt : t < 38) (hat : a ≠ t) (hw : ∀ q, tw (P q)) : jC n 2 jy_Model_transpose jc_Model_transpose 4 none [.ref 135, .int (nI a), .int (nI t)] (jM h P) none (jM h (jset P t (ttr (P a)))) := by
  have hna := (hw a).1
  refine jC_of jm_Model_transpose (L := [some (.ref 135), some (.int (nI a)), some (.int (nI t)), none]) (Nat.le_of_ble_eq_true rfl) rfl trivial ?_
  generalize hres : ((none, jM h (jset P t (ttr (P a)))) : Option Value × jH) = res
  refine j_aload_n d_Model_transpose_0 rfl ?_
  refine j_iload_n d_Model_transpose_1 rfl ?_
  refine j_aload_n d_Model_transpose_2 rfl ?_
  refine j_getr (b := 137) d_Model_transpose_3 jf_Model_13 rfl rfl rfl (by decide) ?_
  refine j_iload_n d_Model_transpose_6 rfl ?_
  refine j_ialdN (v := nI ((P a).1)) d_Model_transpose_7 rfl (by omega) (by decide) rfl ?_
  refine j_callVn (As := [.int (nI t), .int (nI ((P a).1))]) (st := []) (c_empty (by omega)) d_Model_transpose_8 (by decide) jm_Model_empty jk_Model_75 ji_Model_empty js_Model_empty rfl (by decide) rfl rfl (Nat.le_of_ble_eq_true rfl) rfl ?_
  refine j_iconst (v := nI 0) d_Model_transpose_11 rfl ?_
  refine j_istore_n (L' := [some (.ref 135), some (.int (nI a)), some (.int (nI t)), some (.int (nI 0))]) d_Model_transpose_12 (by decide) rfl rfl ?_
  refine j_heap (h' := jM h (jset P t ((P a).1, fun i => if i < 0 then tcol (P a) i (P a).1 else 0))) (jM_cg rfl (fun j hj => by simp)) ?_
  refine j_loop (P := fun k => jJ n 2 jc_Model_transpose 4 "YesNoPowersModel" 13 [some (.ref 135), some (.int (nI a)), some (.int (nI t)), some (.int (nI k))] [] (jM h (jset P t ((P a).1, fun i => if i < k then tcol (P a) i (P a).1 else 0))) res) (m := (P a).1) ?_ (fun k hk ih => ?_)
  · refine j_iload_n d_Model_transpose_13 rfl ?_
    refine j_aload_n d_Model_transpose_14 rfl ?_
    refine j_getr (b := 137) d_Model_transpose_15 jf_Model_13 rfl rfl rfl (by decide) ?_
    refine j_iload_n d_Model_transpose_18 rfl ?_
    refine j_ialdN (v := nI ((P a).1)) d_Model_transpose_19 rfl (by omega) (by decide) (jM_size_ne (by omega)) ?_
    refine j_icmp_geN_t (tgt := 46) d_Model_transpose_20 (by decide) (by omega) (by omega) (Nat.le_refl _) ?_
    subst hres
    exact j_retv d_Model_transpose_46 rfl
  · refine j_iload_n d_Model_transpose_13 rfl ?_
    refine j_aload_n d_Model_transpose_14 rfl ?_
    refine j_getr (b := 137) d_Model_transpose_15 jf_Model_13 rfl rfl rfl (by decide) ?_
    refine j_iload_n d_Model_transpose_18 rfl ?_
    refine j_ialdN (v := nI ((P a).1)) d_Model_transpose_19 rfl (by omega) (by decide) (jM_size_ne (by omega)) ?_
    refine j_icmp_geN_f (tgt := 46) d_Model_transpose_20 (by decide) (by omega) (by omega) (Nat.not_le.mpr hk) ?_
    refine j_aload_n d_Model_transpose_23 rfl ?_
    refine j_getr (b := 136) d_Model_transpose_24 jf_Model_7 rfl rfl rfl (by decide) ?_
    refine j_bipush (v := nI 12) d_Model_transpose_27 (by decide) ?_
    refine j_iload_n d_Model_transpose_29 rfl ?_
    refine j_imulN d_Model_transpose_30 ?_
    refine j_iload_n d_Model_transpose_31 rfl ?_
    refine j_iaddN d_Model_transpose_32 ?_
    refine j_aload_n d_Model_transpose_33 rfl ?_
    refine j_iload_n d_Model_transpose_34 rfl ?_
    refine j_iload_n d_Model_transpose_35 rfl ?_
    refine j_callVs (As := [.int (nI a), .int (nI k)]) (st := [.int (nI ((12 * t) + k)), .ref 136]) (c_column_ne (by omega) (by omega) (by omega) (hw a).1 (tw_lt (hw a))) d_Model_transpose_36 (by decide) jm_Model_column jk_Model_79 ji_Model_column js_Model_column rfl (by decide) rfl rfl (Nat.le_of_ble_eq_true rfl) rfl ?_
    refine j_iastN (h' := jM h (jset P t ((P a).1, fun zz => if zz = k then tcol (P a) k (P a).1 else (fun i => if i < k then tcol (P a) i (P a).1 else 0) zz))) d_Model_transpose_39 rfl (by omega) (by decide) (jM_set_row_p (by omega)) ?_
    refine j_iincN (x := k) (L' := [some (.ref 135), some (.int (nI a)), some (.int (nI t)), some (.int (nI (k + 1)))]) d_Model_transpose_40 rfl (by decide) rfl rfl ?_
    refine j_goto (tgt := 13) d_Model_transpose_43 (by decide) ?_
    refine j_heap (h' := jM h (jset P t ((P a).1, fun i => if i < (k + 1) then tcol (P a) i (P a).1 else 0))) (jM_cg rfl (fun j hj => by by_cases e : j = k; (simp [e]); (simp [e, jlt_s e]))) ?_
    exact ih
theorem ni_co {m r : Nat} (hm : m ≤ 12) (hr : r < 4096) : nI (2 ^ m - 1) &&& (nI r ^^^ (-1)) = nI ((2 ^ m - 1) &&& (4095 ^^^ r)) := by
  apply Int32.toBitVec_inj.1
  show BitVec.ofNat 32 (2 ^ m - 1) &&& (BitVec.ofNat 32 r ^^^ BitVec.allOnes 32) = BitVec.ofNat 32 ((2 ^ m - 1) &&& (4095 ^^^ r))
  apply BitVec.eq_of_getLsbD_eq
  intro i hi
  simp only [BitVec.getLsbD_and, BitVec.getLsbD_xor, BitVec.getLsbD_ofNat, BitVec.getLsbD_allOnes, hi, decide_true, Bool.true_and, Nat.testBit_xor, Nat.testBit_and, Nat.testBit_two_pow_sub_one, show (4095 : Nat) = 2 ^ 12 - 1 from rfl]
  by_cases h : i < m
  · have : i < 12 := by omega
    simp [h, this]
  · simp [h]
theorem c_complement {n : jN} {h : jH} {P : jP} {p : Nat} (hp : p < 38) (hw : ∀ q, tw (P q)) : jC n 1 jy_Model_complement jc_Model_complement 3 none [.ref 135, .int (nI p)] (jM h P) none (jM h (jset P p (tco (P p)))) := by
  have hw1 := (hw p).1
  refine jC_of jm_Model_complement (L := [some (.ref 135), some (.int (nI p)), none]) (Nat.le_of_ble_eq_true rfl) rfl trivial ?_
  generalize hres : ((none, jM h (jset P p (tco (P p)))) : Option Value × jH) = res
  refine j_iconst (v := nI 0) d_Model_complement_0 rfl ?_
  refine j_istore_n (L' := [some (.ref 135), some (.int (nI p)), some (.int (nI 0))]) d_Model_complement_1 (by decide) rfl rfl ?_
  refine j_heap (h' := jM h (jset P p ((P p).1, fun i => if i < 0 then (2 ^ (P p).1 - 1) &&& (4095 ^^^ (P p).2 i) else (P p).2 i))) (jM_ext (fun q => by by_cases e : q = p <;> simp [jset, e]) (fun q i hi => by by_cases e : q = p <;> simp [jset, e])) ?_
  refine j_loop (P := fun k => jJ n 1 jc_Model_complement 3 "YesNoPowersModel" 2 [some (.ref 135), some (.int (nI p)), some (.int (nI k))] [] (jM h (jset P p ((P p).1, fun i => if i < k then (2 ^ (P p).1 - 1) &&& (4095 ^^^ (P p).2 i) else (P p).2 i))) res) (m := (P p).1) ?_ (fun k hk ih => ?_)
  · refine j_iload_n d_Model_complement_2 rfl ?_
    refine j_aload_n d_Model_complement_3 rfl ?_
    refine j_getr (b := 137) d_Model_complement_4 jf_Model_13 rfl rfl rfl (by decide) ?_
    refine j_iload_n d_Model_complement_7 rfl ?_
    refine j_ialdN (v := nI ((P p).1)) d_Model_complement_8 rfl (by omega) (by decide) jM_size_p ?_
    refine j_icmp_geN_t (tgt := 48) d_Model_complement_9 (by decide) (by omega) (by omega) (Nat.le_refl _) ?_
    subst hres
    exact j_retv d_Model_complement_48 (jM_cg rfl (fun j hj => by by_cases e : j < (P p).1; (simp [e]); (simp only [e, if_false]; exact (hw p).2.2 j (by omega))))
  · refine j_iload_n d_Model_complement_2 rfl ?_
    refine j_aload_n d_Model_complement_3 rfl ?_
    refine j_getr (b := 137) d_Model_complement_4 jf_Model_13 rfl rfl rfl (by decide) ?_
    refine j_iload_n d_Model_complement_7 rfl ?_
    refine j_ialdN (v := nI ((P p).1)) d_Model_complement_8 rfl (by omega) (by decide) jM_size_p ?_
    refine j_icmp_geN_f (tgt := 48) d_Model_complement_9 (by decide) (by omega) (by omega) (Nat.not_le.mpr hk) ?_
    refine j_aload_n d_Model_complement_12 rfl ?_
    refine j_getr (b := 136) d_Model_complement_13 jf_Model_7 rfl rfl rfl (by decide) ?_
    refine j_bipush (v := nI 12) d_Model_complement_16 (by decide) ?_
    refine j_iload_n d_Model_complement_18 rfl ?_
    refine j_imulN d_Model_complement_19 ?_
    refine j_iload_n d_Model_complement_20 rfl ?_
    refine j_iaddN d_Model_complement_21 ?_
    refine j_iconst (v := nI 1) d_Model_complement_22 rfl ?_
    refine j_aload_n d_Model_complement_23 rfl ?_
    refine j_getr (b := 137) d_Model_complement_24 jf_Model_13 rfl rfl rfl (by decide) ?_
    refine j_iload_n d_Model_complement_27 rfl ?_
    refine j_ialdN (v := nI ((P p).1)) d_Model_complement_28 rfl (by omega) (by decide) jM_size_p ?_
    refine j_shl1N d_Model_complement_29 (by omega) ?_
    refine j_iconst (v := nI 1) d_Model_complement_30 rfl ?_
    refine j_isubN d_Model_complement_31 Nat.one_le_two_pow ?_
    refine j_aload_n d_Model_complement_32 rfl ?_
    refine j_iload_n d_Model_complement_33 rfl ?_
    refine j_iload_n d_Model_complement_34 rfl ?_
    refine j_callVs (As := [.int (nI p), .int (nI k)]) (st := [.int (nI ((2 ^ ((P p).1)) - 1)), .int (nI ((12 * p) + k)), .ref 136]) (c_row_p (by omega) (by omega)) d_Model_complement_35 (by decide) jm_Model_row jk_Model_71 ji_Model_row js_Model_row rfl (by decide) rfl rfl (Nat.le_of_ble_eq_true rfl) rfl ?_
    refine j_iconst (v := -1) d_Model_complement_38 rfl ?_
    refine j_ixor d_Model_complement_39 ?_
    refine j_iand d_Model_complement_40 ?_
    refine j_top (w := nI ((2 ^ (P p).1 - 1) &&& (4095 ^^^ (P p).2 k))) (by simp only [Nat.lt_irrefl, if_false]; exact ni_co hw1 ((hw p).2.1 k)) ?_
    refine j_iastN (h' := jM h (jset P p ((P p).1, fun zz => if zz = k then (2 ^ (P p).1 - 1) &&& (4095 ^^^ (P p).2 k) else (fun i => if i < k then (2 ^ (P p).1 - 1) &&& (4095 ^^^ (P p).2 i) else (P p).2 i) zz))) d_Model_complement_41 rfl (by omega) (by decide) (jM_set_row_p (by omega)) ?_
    refine j_iincN (x := k) (L' := [some (.ref 135), some (.int (nI p)), some (.int (nI (k + 1)))]) d_Model_complement_42 rfl (by decide) rfl rfl ?_
    refine j_goto (tgt := 2) d_Model_complement_45 (by decide) ?_
    refine j_heap (h' := jM h (jset P p ((P p).1, fun i => if i < (k + 1) then (2 ^ (P p).1 - 1) &&& (4095 ^^^ (P p).2 i) else (P p).2 i))) (jM_cg rfl (fun j hj => by by_cases e : j = k; (simp [e]); (simp [e, jlt_s e]))) ?_
    exact ih
theorem c_addTo {n : jN} {h : jH} {P : jP} {p o : Nat} (hp : p < 38) (ho : o < 38) (hpo : o ≠ p) (hw : ∀ q, tw (P q)) : jC n 1 jy_Model_addTo jc_Model_addTo 4 none [.ref 135, .int (nI p), .int (nI o)] (jM h P) none (jM h (jset P p (tadd (P p) (P o)))) := by
  have hn := (hw p).1
  refine jC_of jm_Model_addTo (L := [some (.ref 135), some (.int (nI p)), some (.int (nI o)), none]) (Nat.le_of_ble_eq_true rfl) rfl trivial ?_
  generalize hres : ((none, jM h (jset P p (tadd (P p) (P o)))) : Option Value × jH) = res
  refine j_iconst (v := nI 0) d_Model_addTo_0 rfl ?_
  refine j_istore_n (L' := [some (.ref 135), some (.int (nI p)), some (.int (nI o)), some (.int (nI 0))]) d_Model_addTo_1 (by decide) rfl rfl ?_
  refine j_heap (h' := jM h (jset P p ((P p).1, fun i => if i < 0 then (P p).2 i ||| (P o).2 i else (P p).2 i))) (jM_ext (fun q => by by_cases e : q = p <;> simp [jset, e]) (fun q i hi => by by_cases e : q = p <;> simp [jset, e])) ?_
  refine j_loop (P := fun k => jJ n 1 jc_Model_addTo 4 "YesNoPowersModel" 2 [some (.ref 135), some (.int (nI p)), some (.int (nI o)), some (.int (nI k))] [] (jM h (jset P p ((P p).1, fun i => if i < k then (P p).2 i ||| (P o).2 i else (P p).2 i))) res) (m := (P p).1) ?_ (fun k hk ih => ?_)
  · refine j_iload_n d_Model_addTo_2 rfl ?_
    refine j_aload_n d_Model_addTo_3 rfl ?_
    refine j_getr (b := 137) d_Model_addTo_4 jf_Model_13 rfl rfl rfl (by decide) ?_
    refine j_iload_n d_Model_addTo_7 rfl ?_
    refine j_ialdN (v := nI ((P p).1)) d_Model_addTo_8 rfl (by omega) (by decide) jM_size_p ?_
    refine j_icmp_geN_t (tgt := 38) d_Model_addTo_9 (by decide) (by omega) (by omega) (Nat.le_refl _) ?_
    subst hres
    exact j_retv d_Model_addTo_38 rfl
  · refine j_iload_n d_Model_addTo_2 rfl ?_
    refine j_aload_n d_Model_addTo_3 rfl ?_
    refine j_getr (b := 137) d_Model_addTo_4 jf_Model_13 rfl rfl rfl (by decide) ?_
    refine j_iload_n d_Model_addTo_7 rfl ?_
    refine j_ialdN (v := nI ((P p).1)) d_Model_addTo_8 rfl (by omega) (by decide) jM_size_p ?_
    refine j_icmp_geN_f (tgt := 38) d_Model_addTo_9 (by decide) (by omega) (by omega) (Nat.not_le.mpr hk) ?_
    refine j_aload_n d_Model_addTo_12 rfl ?_
    refine j_getr (b := 136) d_Model_addTo_13 jf_Model_7 rfl rfl rfl (by decide) ?_
    refine j_bipush (v := nI 12) d_Model_addTo_16 (by decide) ?_
    refine j_iload_n d_Model_addTo_18 rfl ?_
    refine j_imulN d_Model_addTo_19 ?_
    refine j_iload_n d_Model_addTo_20 rfl ?_
    refine j_iaddN d_Model_addTo_21 ?_
    refine j_dup2 d_Model_addTo_22 rfl rfl ?_
    refine j_ialdN (v := nI ((P p).2 k)) d_Model_addTo_23 rfl (by omega) (by decide) (by rw [jM_row_p (by omega)]; simp) ?_
    refine j_aload_n d_Model_addTo_24 rfl ?_
    refine j_iload_n d_Model_addTo_25 rfl ?_
    refine j_iload_n d_Model_addTo_26 rfl ?_
    refine j_callVs (As := [.int (nI o), .int (nI k)]) (st := [.int (nI ((P p).2 k)), .int (nI ((12 * p) + k)), .ref 136]) (c_row_ne (by omega) (by omega) (by omega)) d_Model_addTo_27 (by decide) jm_Model_row jk_Model_71 ji_Model_row js_Model_row rfl (by decide) rfl rfl (Nat.le_of_ble_eq_true rfl) rfl ?_
    refine j_iorN d_Model_addTo_30 ?_
    refine j_iastN (h' := jM h (jset P p ((P p).1, fun zz => if zz = k then ((P p).2 k) ||| ((P o).2 k) else (fun i => if i < k then (P p).2 i ||| (P o).2 i else (P p).2 i) zz))) d_Model_addTo_31 rfl (by omega) (by decide) (jM_set_row_p (by omega)) ?_
    refine j_iincN (x := k) (L' := [some (.ref 135), some (.int (nI p)), some (.int (nI o)), some (.int (nI (k + 1)))]) d_Model_addTo_32 rfl (by decide) rfl rfl ?_
    refine j_goto (tgt := 2) d_Model_addTo_35 (by decide) ?_
    refine j_heap (h' := jM h (jset P p ((P p).1, fun i => if i < (k + 1) then (P p).2 i ||| (P o).2 i else (P p).2 i))) (jM_cg rfl (fun j hj => by by_cases e : j = k; (simp [e]); (simp [e, jlt_s e]))) ?_
    exact ih
theorem c_meetWith {n : jN} {h : jH} {P : jP} {p o : Nat} (hp : p < 38) (ho : o < 38) (hpo : o ≠ p) (hw : ∀ q, tw (P q)) : jC n 1 jy_Model_meetWith jc_Model_meetWith 4 none [.ref 135, .int (nI p), .int (nI o)] (jM h P) none (jM h (jset P p (tmeet (P p) (P o)))) := by
  have hn := (hw p).1
  refine jC_of jm_Model_meetWith (L := [some (.ref 135), some (.int (nI p)), some (.int (nI o)), none]) (Nat.le_of_ble_eq_true rfl) rfl trivial ?_
  generalize hres : ((none, jM h (jset P p (tmeet (P p) (P o)))) : Option Value × jH) = res
  refine j_iconst (v := nI 0) d_Model_meetWith_0 rfl ?_
  refine j_istore_n (L' := [some (.ref 135), some (.int (nI p)), some (.int (nI o)), some (.int (nI 0))]) d_Model_meetWith_1 (by decide) rfl rfl ?_
  refine j_heap (h' := jM h (jset P p ((P p).1, fun i => if i < 0 then (P p).2 i &&& (P o).2 i else (P p).2 i))) (jM_ext (fun q => by by_cases e : q = p <;> simp [jset, e]) (fun q i hi => by by_cases e : q = p <;> simp [jset, e])) ?_
  refine j_loop (P := fun k => jJ n 1 jc_Model_meetWith 4 "YesNoPowersModel" 2 [some (.ref 135), some (.int (nI p)), some (.int (nI o)), some (.int (nI k))] [] (jM h (jset P p ((P p).1, fun i => if i < k then (P p).2 i &&& (P o).2 i else (P p).2 i))) res) (m := (P p).1) ?_ (fun k hk ih => ?_)
  · refine j_iload_n d_Model_meetWith_2 rfl ?_
    refine j_aload_n d_Model_meetWith_3 rfl ?_
    refine j_getr (b := 137) d_Model_meetWith_4 jf_Model_13 rfl rfl rfl (by decide) ?_
    refine j_iload_n d_Model_meetWith_7 rfl ?_
    refine j_ialdN (v := nI ((P p).1)) d_Model_meetWith_8 rfl (by omega) (by decide) jM_size_p ?_
    refine j_icmp_geN_t (tgt := 38) d_Model_meetWith_9 (by decide) (by omega) (by omega) (Nat.le_refl _) ?_
    subst hres
    exact j_retv d_Model_meetWith_38 rfl
  · refine j_iload_n d_Model_meetWith_2 rfl ?_
    refine j_aload_n d_Model_meetWith_3 rfl ?_
    refine j_getr (b := 137) d_Model_meetWith_4 jf_Model_13 rfl rfl rfl (by decide) ?_
    refine j_iload_n d_Model_meetWith_7 rfl ?_
    refine j_ialdN (v := nI ((P p).1)) d_Model_meetWith_8 rfl (by omega) (by decide) jM_size_p ?_
    refine j_icmp_geN_f (tgt := 38) d_Model_meetWith_9 (by decide) (by omega) (by omega) (Nat.not_le.mpr hk) ?_
    refine j_aload_n d_Model_meetWith_12 rfl ?_
    refine j_getr (b := 136) d_Model_meetWith_13 jf_Model_7 rfl rfl rfl (by decide) ?_
    refine j_bipush (v := nI 12) d_Model_meetWith_16 (by decide) ?_
    refine j_iload_n d_Model_meetWith_18 rfl ?_
    refine j_imulN d_Model_meetWith_19 ?_
    refine j_iload_n d_Model_meetWith_20 rfl ?_
    refine j_iaddN d_Model_meetWith_21 ?_
    refine j_dup2 d_Model_meetWith_22 rfl rfl ?_
    refine j_ialdN (v := nI ((P p).2 k)) d_Model_meetWith_23 rfl (by omega) (by decide) (by rw [jM_row_p (by omega)]; simp) ?_
    refine j_aload_n d_Model_meetWith_24 rfl ?_
    refine j_iload_n d_Model_meetWith_25 rfl ?_
    refine j_iload_n d_Model_meetWith_26 rfl ?_
    refine j_callVs (As := [.int (nI o), .int (nI k)]) (st := [.int (nI ((P p).2 k)), .int (nI ((12 * p) + k)), .ref 136]) (c_row_ne (by omega) (by omega) (by omega)) d_Model_meetWith_27 (by decide) jm_Model_row jk_Model_71 ji_Model_row js_Model_row rfl (by decide) rfl rfl (Nat.le_of_ble_eq_true rfl) rfl ?_
    refine j_iandN d_Model_meetWith_30 ?_
    refine j_iastN (h' := jM h (jset P p ((P p).1, fun zz => if zz = k then ((P p).2 k) &&& ((P o).2 k) else (fun i => if i < k then (P p).2 i &&& (P o).2 i else (P p).2 i) zz))) d_Model_meetWith_31 rfl (by omega) (by decide) (jM_set_row_p (by omega)) ?_
    refine j_iincN (x := k) (L' := [some (.ref 135), some (.int (nI p)), some (.int (nI o)), some (.int (nI (k + 1)))]) d_Model_meetWith_32 rfl (by decide) rfl rfl ?_
    refine j_goto (tgt := 2) d_Model_meetWith_35 (by decide) ?_
    refine j_heap (h' := jM h (jset P p ((P p).1, fun i => if i < (k + 1) then (P p).2 i &&& (P o).2 i else (P p).2 i))) (jM_cg rfl (fun j hj => by by_cases e : j = k; (simp [e]); (simp [e, jlt_s e]))) ?_
    exact ih

def jfu {α : Type} (f : Nat → α) (k : Nat) (v : α) : Nat → α := fun j => if j = k then v else f j
def jfu2 {α : Type} (f : Nat → Nat → α) (a k : Nat) (v : α) : Nat → Nat → α := fun b j => if b = a then (if j = k then v else f b j) else f b j
/-- the reference's sheets -/
def jS (h : jH) (So : Nat → Int32) (Sz : Nat → Nat) (Nu : Nat → Nat → Int32) : jH := fun a => if a = 149 then So else if a = 150 then fun k => nI (Sz k) else if a = 151 then fun k => Nu (k / 40) (k % 40) else h a
theorem jS_num {h : jH} {So : Nat → Int32} {Sz : Nat → Nat} {Nu : Nat → Nat → Int32} {P : jP} {s i k : Nat} (hi : i < 40) (hk : k = 40 * s + i) : jM (jS h So Sz Nu) P 151 k = Nu s i := by
  subst hk
  have h1 : (40 * s + i) / 40 = s := by omega
  have h2 : (40 * s + i) % 40 = i := by omega
  simp [jM, jS, h1, h2]
theorem jS_so {h : jH} {So : Nat → Int32} {Sz : Nat → Nat} {Nu : Nat → Nat → Int32} {P : jP} {s : Nat} {v : Int32} : jup2 (jM (jS h So Sz Nu) P) 149 s v = jM (jS h (jfu So s v) Sz Nu) P := by
  rw [jM_set_other (by decide) (by decide)]
  congr 1
  funext a k
  simp only [jup2, jS]
  by_cases e : a = 149
  · subst e
    simp [jfu]
  · simp [e]
theorem jS_sz {h : jH} {So : Nat → Int32} {Sz : Nat → Nat} {Nu : Nat → Nat → Int32} {P : jP} {s v : Nat} : jup2 (jM (jS h So Sz Nu) P) 150 s (nI v) = jM (jS h So (jfu Sz s v) Nu) P := by
  rw [jM_set_other (by decide) (by decide)]
  congr 1
  funext a k
  simp only [jup2, jS, jfu]
  by_cases e : a = 150
  · subst e
    by_cases e2 : k = s <;> simp [e2]
  · simp [e]
theorem jS_nu {h : jH} {So : Nat → Int32} {Sz : Nat → Nat} {Nu : Nat → Nat → Int32} {P : jP} {s i k : Nat} {v : Int32} (hi : i < 40) (hk : k = 40 * s + i) : jup2 (jM (jS h So Sz Nu) P) 151 k v = jM (jS h So Sz (jfu2 Nu s i v)) P := by
  subst hk
  rw [jM_set_other (by decide) (by decide)]
  congr 1
  funext a k
  simp only [jup2, jS, jfu2]
  by_cases e : a = 151
  · subst e
    by_cases e2 : k / 40 = s
    · by_cases e3 : k % 40 = i
      · have : k = 40 * s + i := by omega
        subst this
        simp [e2, e3]
      · have : ¬ k = 40 * s + i := by omega
        simp [e2, e3, this]
    · have : ¬ k = 40 * s + i := by omega
      simp [e2, this]
  · simp [e]
theorem jS_cg {h : jH} {So So' : Nat → Int32} {Sz Sz' : Nat → Nat} {Nu Nu' : Nat → Nat → Int32} {P : jP} (h1 : ∀ k, So k = So' k) (h2 : ∀ k, Sz k = Sz' k) (h3 : ∀ a k, k < 40 → Nu a k = Nu' a k) : jM (jS h So Sz Nu) P = jM (jS h So' Sz' Nu') P := by
  rw [show So = So' from funext h1, show Sz = Sz' from funext h2]
  congr 1
  funext a k
  simp only [jS]
  split
  · rfl
  · split
    · rfl
    · split
      · exact h3 _ _ (Nat.mod_lt _ (by omega))
      · rfl
def js4 (s : Int32) : Bool := decide (0 ≤ s ∧ s < 4)
theorem js4_t {s : Int32} (h : js4 s = true) : ∃ k, k < 4 ∧ s = nI k := by
  simp only [js4, decide_eq_true_eq] at h
  obtain ⟨j, hj, rfl⟩ := nI_of (Int32.not_lt.mpr h.1)
  exact ⟨j, (nI_ltI (b := 4) hj (by omega)).mp h.2, rfl⟩
theorem js4_N {k : Nat} (h : k < 4) : js4 (nI k) = true := by
  simp only [js4, decide_eq_true_eq]
  exact ⟨nI_pos' (by omega), (nI_ltI (b := 4) (by omega) (by omega)).mpr h⟩
theorem nI_s1 {m : Nat} (hm : m ≤ 40) : (nI m - nI 1).toInt = (m : Int) - 1 := by
  rcases Nat.eq_zero_or_pos m with e | e
  · subst e
    decide
  · rw [ni_sub e, nI_toInt (by omega)]
    omega
def jlow (t v : Int32) : Int32 := if t = 0 then v.toInt8.toInt32 else v
theorem c_isSheet {n : jN} {h : jH} {s : Int32} : jC n 0 jy_Model_isSheet jc_Model_isSheet 1 (some .boolean) [.int s] h (some (.int (jbo (js4 s)))) h := by
  refine jC_of jm_Model_isSheet (L := [some (.int s)]) (Nat.le_of_ble_eq_true rfl) rfl (jbo01 _) ?_
  generalize hres : (((some (.int (jbo (js4 s)))), h) : Option Value × jH) = res
  refine j_iload_n d_Model_isSheet_0 rfl ?_
  refine j_if_lt (tgt := 13) d_Model_isSheet_1 (by decide) (fun c => ?_) (fun c => ?_)
  · refine j_iconst (v := nI 0) d_Model_isSheet_13 rfl ?_
    subst hres
    exact j_reti d_Model_isSheet_14 (by rw [show js4 s = false from by simp only [js4, decide_eq_false_iff_not]; exact fun z => absurd z.1 (Int32.not_le.mpr c)]; rfl) rfl
  · refine j_iload_n d_Model_isSheet_4 rfl ?_
    refine j_iconst (v := nI 4) d_Model_isSheet_5 rfl ?_
    refine j_icmp_ge (tgt := 13) d_Model_isSheet_6 (by decide) (fun c2 => ?_) (fun c2 => ?_)
    · refine j_iconst (v := nI 0) d_Model_isSheet_13 rfl ?_
      subst hres
      exact j_reti d_Model_isSheet_14 (by rw [show js4 s = false from by simp only [js4, decide_eq_false_iff_not]; exact fun z => absurd z.2 (Int32.not_lt.mpr c2)]; rfl) rfl
    · refine j_iconst (v := nI 1) d_Model_isSheet_9 rfl ?_
      refine j_goto (tgt := 14) d_Model_isSheet_10 (by decide) ?_
      subst hres
      exact j_reti d_Model_isSheet_14 (by rw [show js4 s = true from by simp only [js4, decide_eq_true_eq]; exact ⟨Int32.not_lt.mp c, Int32.not_le.mp c2⟩]; rfl) rfl
theorem c_lowest {n : jN} {h : jH} {So : Nat → Int32} {Sz : Nat → Nat} {Nu : Nat → Nat → Int32} {P : jP} {s : Nat} {v : Int32} (hs : s < 4) : jC n 0 jy_Model_lowest jc_Model_lowest 3 (some .int) [.ref 135, .int (nI s), .int v] (jM (jS h So Sz Nu) P) (some (.int (jlow (So s) v))) (jM (jS h So Sz Nu) P) := by
  refine jC_of jm_Model_lowest (L := [some (.ref 135), some (.int (nI s)), some (.int v)]) (Nat.le_of_ble_eq_true rfl) rfl trivial ?_
  generalize hres : (((some (.int (jlow (So s) v))), jM (jS h So Sz Nu) P) : Option Value × jH) = res
  refine j_aload_n d_Model_lowest_0 rfl ?_
  refine j_getr (b := 149) d_Model_lowest_1 jf_Model_50 rfl rfl rfl (by decide) ?_
  refine j_iload_n d_Model_lowest_4 rfl ?_
  refine j_ialdN (v := So s) d_Model_lowest_5 rfl (by omega) (by decide) rfl ?_
  refine j_if_ne (tgt := 14) d_Model_lowest_6 (by decide) (fun c => ?_) (fun c => ?_)
  · refine j_iload_n d_Model_lowest_14 rfl ?_
    subst hres
    exact j_reti d_Model_lowest_15 (by simp [jlow, c]) rfl
  · refine j_iload_n d_Model_lowest_9 rfl ?_
    refine j_i2b d_Model_lowest_10 ?_
    refine j_goto (tgt := 15) d_Model_lowest_11 (by decide) ?_
    subst hres
    exact j_reti d_Model_lowest_15 (by simp [jlow, c]) rfl
def jokCell (So : Nat → Int32) (Sz : Nat → Nat) (s i : Int32) : Bool := js4 s && !(decide (So s.toNatClampNeg < 0)) && jin i 0 ((Sz s.toNatClampNeg : Int) - 1)
def jbCell (So : Nat → Int32) (s : Int32) : Int32 := if js4 s then (if So s.toNatClampNeg < 0 then -11 else -12) else -1
theorem c_cell_bad {n : jN} {h : jH} {So : Nat → Int32} {Sz : Nat → Nat} {Nu : Nat → Nat → Int32} {P : jP} {s i v : Int32} (hz : ∀ k, Sz k ≤ 40) (hb : jokCell So Sz s i = false) : jC n 1 jy_Model_cell jc_Model_cell 4 (some .int) [.ref 135, .int s, .int i, .int v] (jM (jS h So Sz Nu) P) (some (.int (jbCell So s))) (jM (jS h So Sz Nu) P) := by
  refine jC_of jm_Model_cell (L := [some (.ref 135), some (.int s), some (.int i), some (.int v)]) (Nat.le_of_ble_eq_true rfl) rfl trivial ?_
  generalize hres : (((some (.int (jbCell So s))), jM (jS h So Sz Nu) P) : Option Value × jH) = res
  refine j_iload_n d_Model_cell_0 rfl ?_
  refine j_callSs (As := [.int s]) (st := []) c_isSheet d_Model_cell_1 (by decide) jm_Model_isSheet jk_Model_141 js_Model_isSheet rfl (Nat.le_of_ble_eq_true rfl) rfl ?_
  refine j_if_neB (tgt := 9) d_Model_cell_4 (by decide) (fun c1 => ?_) (fun c1 => ?_)
  · obtain ⟨s0, hs0, rfl⟩ := js4_t c1
    have hz0 := hz s0
    refine j_aload_n d_Model_cell_9 rfl ?_
    refine j_getr (b := 149) d_Model_cell_10 jf_Model_50 rfl rfl rfl (by decide) ?_
    refine j_iload_n d_Model_cell_13 rfl ?_
    refine j_ialdN (v := So s0) d_Model_cell_14 rfl (by omega) (by decide) rfl ?_
    refine j_if_ge (tgt := 21) d_Model_cell_15 (by decide) (fun c2 => ?_) (fun c2 => ?_)
    · refine j_iload_n d_Model_cell_21 rfl ?_
      refine j_i2l d_Model_cell_22 ?_
      refine j_lconst (v := 0) d_Model_cell_23 rfl ?_
      refine j_aload_n d_Model_cell_24 rfl ?_
      refine j_getr (b := 150) d_Model_cell_25 jf_Model_53 rfl rfl rfl (by decide) ?_
      refine j_iload_n d_Model_cell_28 rfl ?_
      refine j_ialdN (v := nI (Sz s0)) d_Model_cell_29 rfl (by omega) (by decide) rfl ?_
      refine j_iconst (v := nI 1) d_Model_cell_30 rfl ?_
      refine j_isub d_Model_cell_31 ?_
      refine j_i2l d_Model_cell_32 ?_
      refine j_callSs (As := [.long i.toInt64, .long 0, .long (((nI (Sz s0)) - (nI 1)).toInt64)]) (st := []) (c_in (x := i) (lo := 0) (hi := ((nI (Sz s0)) - (nI 1)).toInt) rfl rfl (Int32.toInt_toInt64 _)) d_Model_cell_33 (by decide) jm_Model_in jk_Model_107 js_Model_in rfl (Nat.le_of_ble_eq_true rfl) rfl ?_
      refine j_if_neB (tgt := 42) d_Model_cell_36 (by decide) (fun c3 => ?_) (fun c3 => ?_)
      · rw [nI_s1 hz0] at c3
        exact absurd hb (by simp only [jokCell, c1, c3, nI_clamp (show s0 < 2 ^ 31 by omega), decide_eq_false (Int32.not_lt.mpr c2)]; decide)
      · refine j_bipush (v := -12) d_Model_cell_39 (by decide) ?_
        subst hres
        exact j_reti d_Model_cell_41 (by simp only [jbCell, c1, nI_clamp (show s0 < 2 ^ 31 by omega), if_true, if_neg (Int32.not_lt.mpr c2)]) rfl
    · refine j_bipush (v := -11) d_Model_cell_18 (by decide) ?_
      subst hres
      exact j_reti d_Model_cell_20 (by simp only [jbCell, c1, nI_clamp (show s0 < 2 ^ 31 by omega), if_true, Int32.not_le.mp c2]) rfl
  · refine j_iconst (v := -1) d_Model_cell_7 rfl ?_
    subst hres
    exact j_reti d_Model_cell_8 (by simp [jbCell, c1]) rfl
theorem c_cell {n : jN} {h : jH} {So : Nat → Int32} {Sz : Nat → Nat} {Nu : Nat → Nat → Int32} {P : jP} {s i : Nat} {v : Int32} (hz : ∀ k, Sz k ≤ 40) (hs : s < 4) (hso : 0 ≤ So s) (hi : i < Sz s) : jC n 1 jy_Model_cell jc_Model_cell 4 (some .int) [.ref 135, .int (nI s), .int (nI i), .int v] (jM (jS h So Sz Nu) P) (some (.int (nI 1))) (jM (jS h So Sz (jfu2 Nu s i (jlow (So s) v))) P) := by
  refine jC_of jm_Model_cell (L := [some (.ref 135), some (.int (nI s)), some (.int (nI i)), some (.int v)]) (Nat.le_of_ble_eq_true rfl) rfl trivial ?_
  generalize hres : (((some (.int (nI 1))), jM (jS h So Sz (jfu2 Nu s i (jlow (So s) v))) P) : Option Value × jH) = res
  have hzs := hz s
  refine j_iload_n d_Model_cell_0 rfl ?_
  refine j_callSs (As := [.int (nI s)]) (st := []) c_isSheet d_Model_cell_1 (by decide) jm_Model_isSheet jk_Model_141 js_Model_isSheet rfl (Nat.le_of_ble_eq_true rfl) rfl ?_
  refine j_if_neB_t (tgt := 9) d_Model_cell_4 (by decide) (js4_N hs) ?_
  refine j_aload_n d_Model_cell_9 rfl ?_
  refine j_getr (b := 149) d_Model_cell_10 jf_Model_50 rfl rfl rfl (by decide) ?_
  refine j_iload_n d_Model_cell_13 rfl ?_
  refine j_ialdN (v := So s) d_Model_cell_14 rfl (by omega) (by decide) rfl ?_
  refine j_if_ge_t (tgt := 21) d_Model_cell_15 (by decide) hso ?_
  refine j_iload_n d_Model_cell_21 rfl ?_
  refine j_i2l d_Model_cell_22 ?_
  refine j_lconst (v := 0) d_Model_cell_23 rfl ?_
  refine j_aload_n d_Model_cell_24 rfl ?_
  refine j_getr (b := 150) d_Model_cell_25 jf_Model_53 rfl rfl rfl (by decide) ?_
  refine j_iload_n d_Model_cell_28 rfl ?_
  refine j_ialdN (v := nI (Sz s)) d_Model_cell_29 rfl (by omega) (by decide) rfl ?_
  refine j_iconst (v := nI 1) d_Model_cell_30 rfl ?_
  refine j_isub d_Model_cell_31 ?_
  refine j_i2l d_Model_cell_32 ?_
  refine j_callSs (As := [.long ((nI i).toInt64), .long 0, .long (((nI (Sz s)) - (nI 1)).toInt64)]) (st := []) (c_in (x := (nI i)) (lo := 0) (hi := ((nI (Sz s)) - (nI 1)).toInt) rfl rfl (Int32.toInt_toInt64 _)) d_Model_cell_33 (by decide) jm_Model_in jk_Model_107 js_Model_in rfl (Nat.le_of_ble_eq_true rfl) rfl ?_
  refine j_if_neB_t (tgt := 42) d_Model_cell_36 (by decide) (jin_y (by omega) (by omega) (by rw [nI_s1 hzs]; omega)) ?_
  refine j_aload_n d_Model_cell_42 rfl ?_
  refine j_getr (b := 151) d_Model_cell_43 jf_Model_56 rfl rfl rfl (by decide) ?_
  refine j_bipush (v := nI 40) d_Model_cell_46 (by decide) ?_
  refine j_iload_n d_Model_cell_48 rfl ?_
  refine j_imulN d_Model_cell_49 ?_
  refine j_iload_n d_Model_cell_50 rfl ?_
  refine j_iaddN d_Model_cell_51 ?_
  refine j_aload_n d_Model_cell_52 rfl ?_
  refine j_iload_n d_Model_cell_53 rfl ?_
  refine j_iload_n d_Model_cell_54 rfl ?_
  refine j_callVs (As := [.int (nI s), .int v]) (st := [.int (nI ((40 * s) + i)), .ref 151]) (c_lowest (by omega)) d_Model_cell_55 (by decide) jm_Model_lowest jk_Model_144 ji_Model_lowest js_Model_lowest rfl (by decide) rfl rfl (Nat.le_of_ble_eq_true rfl) rfl ?_
  refine j_iastN (h' := jM (jS h So Sz (jfu2 Nu s i (jlow (So s) v))) P) d_Model_cell_58 rfl (by omega) (by decide) (jS_nu (s := s) (i := i) (by omega) (by omega)) ?_
  refine j_iconst (v := nI 1) d_Model_cell_59 rfl ?_
  subst hres
  exact j_reti d_Model_cell_60 rfl rfl
def jokItem (Sz : Nat → Nat) (s i : Int32) : Bool := js4 s && jin i 0 ((Sz s.toNatClampNeg : Int) - 1)
theorem c_item_bad {n : jN} {h : jH} {So : Nat → Int32} {Sz : Nat → Nat} {Nu : Nat → Nat → Int32} {P : jP} {s i : Int32} (hz : ∀ k, Sz k ≤ 40) (hb : jokItem Sz s i = false) : jC n 1 jy_Model_item jc_Model_item 3 (some .long) [.ref 135, .int s, .int i] (jM (jS h So Sz Nu) P) (some (.long (-9223372036854775808))) (jM (jS h So Sz Nu) P) := by
  refine jC_of jm_Model_item (L := [some (.ref 135), some (.int s), some (.int i)]) (Nat.le_of_ble_eq_true rfl) rfl trivial ?_
  generalize hres : (((some (.long (-9223372036854775808))), jM (jS h So Sz Nu) P) : Option Value × jH) = res
  refine j_iload_n d_Model_item_0 rfl ?_
  refine j_callSs (As := [.int s]) (st := []) c_isSheet d_Model_item_1 (by decide) jm_Model_isSheet jk_Model_141 js_Model_isSheet rfl (Nat.le_of_ble_eq_true rfl) rfl ?_
  refine j_if_eqB (tgt := 40) d_Model_item_4 (by decide) (fun c1 => ?_) (fun c1 => ?_)
  · refine j_ldc2 (v := -9223372036854775808) d_Model_item_40 jk_Model_278 ?_
    subst hres
    exact j_retl d_Model_item_43 rfl rfl
  · obtain ⟨s0, hs0, rfl⟩ := js4_t c1
    have hz0 := hz s0
    refine j_iload_n d_Model_item_7 rfl ?_
    refine j_i2l d_Model_item_8 ?_
    refine j_lconst (v := 0) d_Model_item_9 rfl ?_
    refine j_aload_n d_Model_item_10 rfl ?_
    refine j_getr (b := 150) d_Model_item_11 jf_Model_53 rfl rfl rfl (by decide) ?_
    refine j_iload_n d_Model_item_14 rfl ?_
    refine j_ialdN (v := nI (Sz s0)) d_Model_item_15 rfl (by omega) (by decide) rfl ?_
    refine j_iconst (v := nI 1) d_Model_item_16 rfl ?_
    refine j_isub d_Model_item_17 ?_
    refine j_i2l d_Model_item_18 ?_
    refine j_callSs (As := [.long i.toInt64, .long 0, .long (((nI (Sz s0)) - (nI 1)).toInt64)]) (st := []) (c_in (x := i) (lo := 0) (hi := ((nI (Sz s0)) - (nI 1)).toInt) rfl rfl (Int32.toInt_toInt64 _)) d_Model_item_19 (by decide) jm_Model_in jk_Model_107 js_Model_in rfl (Nat.le_of_ble_eq_true rfl) rfl ?_
    refine j_if_eqB (tgt := 40) d_Model_item_22 (by decide) (fun c3 => ?_) (fun c3 => ?_)
    · refine j_ldc2 (v := -9223372036854775808) d_Model_item_40 jk_Model_278 ?_
      subst hres
      exact j_retl d_Model_item_43 rfl rfl
    · rw [nI_s1 hz0] at c3
      exact absurd hb (by simp only [jokItem, c1, c3, nI_clamp (show s0 < 2 ^ 31 by omega)]; decide)
theorem c_item {n : jN} {h : jH} {So : Nat → Int32} {Sz : Nat → Nat} {Nu : Nat → Nat → Int32} {P : jP} {s i : Nat} (hz : ∀ k, Sz k ≤ 40) (hs : s < 4) (hi : i < Sz s) : jC n 1 jy_Model_item jc_Model_item 3 (some .long) [.ref 135, .int (nI s), .int (nI i)] (jM (jS h So Sz Nu) P) (some (.long ((Nu s i).toInt64))) (jM (jS h So Sz Nu) P) := by
  refine jC_of jm_Model_item (L := [some (.ref 135), some (.int (nI s)), some (.int (nI i))]) (Nat.le_of_ble_eq_true rfl) rfl trivial ?_
  generalize hres : (((some (.long ((Nu s i).toInt64))), jM (jS h So Sz Nu) P) : Option Value × jH) = res
  have hzs := hz s
  refine j_iload_n d_Model_item_0 rfl ?_
  refine j_callSs (As := [.int (nI s)]) (st := []) c_isSheet d_Model_item_1 (by decide) jm_Model_isSheet jk_Model_141 js_Model_isSheet rfl (Nat.le_of_ble_eq_true rfl) rfl ?_
  refine j_if_eqB_f (tgt := 40) d_Model_item_4 (by decide) (js4_N hs) ?_
  refine j_iload_n d_Model_item_7 rfl ?_
  refine j_i2l d_Model_item_8 ?_
  refine j_lconst (v := 0) d_Model_item_9 rfl ?_
  refine j_aload_n d_Model_item_10 rfl ?_
  refine j_getr (b := 150) d_Model_item_11 jf_Model_53 rfl rfl rfl (by decide) ?_
  refine j_iload_n d_Model_item_14 rfl ?_
  refine j_ialdN (v := nI (Sz s)) d_Model_item_15 rfl (by omega) (by decide) rfl ?_
  refine j_iconst (v := nI 1) d_Model_item_16 rfl ?_
  refine j_isub d_Model_item_17 ?_
  refine j_i2l d_Model_item_18 ?_
  refine j_callSs (As := [.long ((nI i).toInt64), .long 0, .long (((nI (Sz s)) - (nI 1)).toInt64)]) (st := []) (c_in (x := (nI i)) (lo := 0) (hi := ((nI (Sz s)) - (nI 1)).toInt) rfl rfl (Int32.toInt_toInt64 _)) d_Model_item_19 (by decide) jm_Model_in jk_Model_107 js_Model_in rfl (Nat.le_of_ble_eq_true rfl) rfl ?_
  refine j_if_eqB_f (tgt := 40) d_Model_item_22 (by decide) (jin_y (by omega) (by omega) (by rw [nI_s1 hzs]; omega)) ?_
  refine j_aload_n d_Model_item_25 rfl ?_
  refine j_getr (b := 151) d_Model_item_26 jf_Model_56 rfl rfl rfl (by decide) ?_
  refine j_bipush (v := nI 40) d_Model_item_29 (by decide) ?_
  refine j_iload_n d_Model_item_31 rfl ?_
  refine j_imulN d_Model_item_32 ?_
  refine j_iload_n d_Model_item_33 rfl ?_
  refine j_iaddN d_Model_item_34 ?_
  refine j_ialdN (v := Nu s i) d_Model_item_35 rfl (by omega) (by decide) (jS_num (s := s) (i := i) (by omega) (by omega)) ?_
  refine j_i2l d_Model_item_36 ?_
  refine j_goto (tgt := 43) d_Model_item_37 (by decide) ?_
  subst hres
  exact j_retl d_Model_item_43 rfl rfl
def jokSheet (s t m : Int32) : Bool := js4 s && jin t (-1) 1 && (decide (t < 0) || !(decide (nI 40 < m))) && (decide (t < 0) || decide (0 ≤ m))
def jbSheet (s t m : Int32) : Int32 := if js4 s && jin t (-1) 1 && (decide (t < 0) || !(decide (nI 40 < m))) then -14 else -1
theorem c_sheet_bad {n : jN} {h : jH} {So : Nat → Int32} {Sz : Nat → Nat} {Nu : Nat → Nat → Int32} {P : jP} {s t m : Int32} (hb : jokSheet s t m = false) : jC n 1 jy_Model_sheet jc_Model_sheet 5 (some .int) [.ref 135, .int s, .int t, .int m] (jM (jS h So Sz Nu) P) (some (.int (jbSheet s t m))) (jM (jS h So Sz Nu) P) := by
  refine jC_of jm_Model_sheet (L := [some (.ref 135), some (.int s), some (.int t), some (.int m), none]) (Nat.le_of_ble_eq_true rfl) rfl trivial ?_
  generalize hres : (((some (.int (jbSheet s t m))), jM (jS h So Sz Nu) P) : Option Value × jH) = res
  refine j_iload_n d_Model_sheet_0 rfl ?_
  refine j_callSs (As := [.int s]) (st := []) c_isSheet d_Model_sheet_1 (by decide) jm_Model_isSheet jk_Model_141 js_Model_isSheet rfl (Nat.le_of_ble_eq_true rfl) rfl ?_
  refine j_if_eqB (tgt := 29) d_Model_sheet_4 (by decide) (fun c1 => ?_) (fun c1 => ?_)
  · refine j_iconst (v := -1) d_Model_sheet_29 rfl ?_
    subst hres
    exact j_reti d_Model_sheet_30 (by simp [jbSheet, c1]) rfl
  · refine j_iload_n d_Model_sheet_7 rfl ?_
    refine j_i2l d_Model_sheet_8 ?_
    refine j_ldc2 (v := -1) d_Model_sheet_9 jk_Model_276 ?_
    refine j_lconst (v := 1) d_Model_sheet_12 rfl ?_
    refine j_callSs (As := [.long t.toInt64, .long (-1), .long 1]) (st := []) (c_in (x := t) (lo := -1) (hi := 1) rfl rfl rfl) d_Model_sheet_13 (by decide) jm_Model_in jk_Model_107 js_Model_in rfl (Nat.le_of_ble_eq_true rfl) rfl ?_
    refine j_if_eqB (tgt := 29) d_Model_sheet_16 (by decide) (fun c2 => ?_) (fun c2 => ?_)
    · refine j_iconst (v := -1) d_Model_sheet_29 rfl ?_
      subst hres
      exact j_reti d_Model_sheet_30 (by simp [jbSheet, c1, c2]) rfl
    · obtain ⟨s0, hs0, rfl⟩ := js4_t c1
      refine j_iload_n d_Model_sheet_19 rfl ?_
      refine j_if_lt (tgt := 31) d_Model_sheet_20 (by decide) (fun c3 => ?_) (fun c3 => ?_)
      · refine j_iload_n d_Model_sheet_31 rfl ?_
        refine j_if_lt (tgt := 42) d_Model_sheet_32 (by decide) (fun d1 => ?_) (fun d1 => ?_)
        · exact absurd hb (by simp [jokSheet, c1, c2, d1, c3])
        · refine j_iload_n d_Model_sheet_35 rfl ?_
          refine j_if_ge (tgt := 42) d_Model_sheet_36 (by decide) (fun d2 => ?_) (fun d2 => ?_)
          · exact absurd hb (by first | (exact absurd c3 d1) | simp [jokSheet, c1, c2, d1, d2, c3])
          · refine j_bipush (v := -14) d_Model_sheet_39 (by decide) ?_
            subst hres
            exact j_reti d_Model_sheet_41 (by simp [jbSheet, c1, c2, c3]) rfl
      · refine j_iload_n d_Model_sheet_23 rfl ?_
        refine j_bipush (v := nI 40) d_Model_sheet_24 (by decide) ?_
        refine j_icmp_le (tgt := 31) d_Model_sheet_26 (by decide) (fun c4 => ?_) (fun c4 => ?_)
        · refine j_iload_n d_Model_sheet_31 rfl ?_
          refine j_if_lt (tgt := 42) d_Model_sheet_32 (by decide) (fun d1 => ?_) (fun d1 => ?_)
          · exact absurd hb (by simp [jokSheet, c1, c2, d1, c3, c4])
          · refine j_iload_n d_Model_sheet_35 rfl ?_
            refine j_if_ge (tgt := 42) d_Model_sheet_36 (by decide) (fun d2 => ?_) (fun d2 => ?_)
            · exact absurd hb (by first | (exact absurd c3 d1) | simp [jokSheet, c1, c2, d1, d2, c3, c4])
            · refine j_bipush (v := -14) d_Model_sheet_39 (by decide) ?_
              subst hres
              exact j_reti d_Model_sheet_41 (by simp [jbSheet, c1, c2, c3, c4]) rfl
        · refine j_iconst (v := -1) d_Model_sheet_29 rfl ?_
          subst hres
          exact j_reti d_Model_sheet_30 (by simp [jbSheet, c1, c2, c3, c4]) rfl
theorem c_sheetA {n : jN} {h : jH} {So : Nat → Int32} {Sz : Nat → Nat} {Nu : Nat → Nat → Int32} {P : jP} {s : Nat} {m : Int32} (hs : s < 4) : jC n 1 jy_Model_sheet jc_Model_sheet 5 (some .int) [.ref 135, .int (nI s), .int (-1), .int m] (jM (jS h So Sz Nu) P) (some (.int (nI 1))) (jM (jS h (jfu So s (-1)) (jfu Sz s 0) (fun a i => if a = s then 0 else Nu a i)) P) := by
  refine jC_of jm_Model_sheet (L := [some (.ref 135), some (.int (nI s)), some (.int (-1)), some (.int m), none]) (Nat.le_of_ble_eq_true rfl) rfl trivial ?_
  generalize hres : (((some (.int (nI 1))), jM (jS h (jfu So s (-1)) (jfu Sz s 0) (fun a i => if a = s then 0 else Nu a i)) P) : Option Value × jH) = res
  refine j_iload_n d_Model_sheet_0 rfl ?_
  refine j_callSs (As := [.int (nI s)]) (st := []) c_isSheet d_Model_sheet_1 (by decide) jm_Model_isSheet jk_Model_141 js_Model_isSheet rfl (Nat.le_of_ble_eq_true rfl) rfl ?_
  refine j_if_eqB_f (tgt := 29) d_Model_sheet_4 (by decide) (js4_N hs) ?_
  refine j_iload_n d_Model_sheet_7 rfl ?_
  refine j_i2l d_Model_sheet_8 ?_
  refine j_ldc2 (v := -1) d_Model_sheet_9 jk_Model_276 ?_
  refine j_lconst (v := 1) d_Model_sheet_12 rfl ?_
  refine j_callSs (As := [.long ((-1).toInt64), .long (-1), .long 1]) (st := []) (c_in (x := (-1)) (lo := -1) (hi := 1) rfl rfl rfl) d_Model_sheet_13 (by decide) jm_Model_in jk_Model_107 js_Model_in rfl (Nat.le_of_ble_eq_true rfl) rfl ?_
  refine j_if_eqB_f (tgt := 29) d_Model_sheet_16 (by decide) (by decide) ?_
  refine j_iload_n d_Model_sheet_19 rfl ?_
  refine j_if_lt_t (tgt := 31) d_Model_sheet_20 (by decide) (by decide) ?_
  refine j_iload_n d_Model_sheet_31 rfl ?_
  refine j_if_lt_t (tgt := 42) d_Model_sheet_32 (by decide) (by decide) ?_
  refine j_aload_n d_Model_sheet_42 rfl ?_
  refine j_getr (b := 149) d_Model_sheet_43 jf_Model_50 rfl rfl rfl (by decide) ?_
  refine j_iload_n d_Model_sheet_46 rfl ?_
  refine j_iload_n d_Model_sheet_47 rfl ?_
  refine j_iastN (h' := jM (jS h (jfu So s (-1)) Sz Nu) P) d_Model_sheet_48 rfl (by omega) (by decide) jS_so ?_
  refine j_aload_n d_Model_sheet_49 rfl ?_
  refine j_getr (b := 150) d_Model_sheet_50 jf_Model_53 rfl rfl rfl (by decide) ?_
  refine j_iload_n d_Model_sheet_53 rfl ?_
  refine j_iload_n d_Model_sheet_54 rfl ?_
  refine j_if_ge_f (tgt := 62) d_Model_sheet_55 (by decide) (by decide) ?_
  refine j_iconst (v := nI 0) d_Model_sheet_58 rfl ?_
  refine j_goto (tgt := 63) d_Model_sheet_59 (by decide) ?_
  refine j_iastN (h' := jM (jS h (jfu So s (-1)) (jfu Sz s 0) Nu) P) d_Model_sheet_63 rfl (by omega) (by decide) jS_sz ?_
  refine j_iconst (v := nI 0) d_Model_sheet_64 rfl ?_
  refine j_istore (L' := [some (.ref 135), some (.int (nI s)), some (.int (-1)), some (.int m), some (.int (nI 0))]) d_Model_sheet_65 (by decide) rfl rfl ?_
  refine j_heap (h' := jM (jS h (jfu So s (-1)) (jfu Sz s 0) (fun a i => if a = s then (if i < 0 then 0 else Nu a i) else Nu a i)) P) (jS_cg (fun _ => rfl) (fun _ => rfl) (fun a k hk => by simp)) ?_
  refine j_loop (P := fun k => jJ n 1 jc_Model_sheet 5 "YesNoPowersModel" 67 [some (.ref 135), some (.int (nI s)), some (.int (-1)), some (.int m), some (.int (nI k))] [] (jM (jS h (jfu So s (-1)) (jfu Sz s 0) (fun a i => if a = s then (if i < k then 0 else Nu a i) else Nu a i)) P) res) (m := 40) ?_ (fun k hk ih => ?_)
  · refine j_iload d_Model_sheet_67 rfl ?_
    refine j_bipush (v := nI 40) d_Model_sheet_69 (by decide) ?_
    refine j_icmp_geN_t (tgt := 93) d_Model_sheet_71 (by decide) (by omega) (by omega) (Nat.le_refl _) ?_
    refine j_iconst (v := nI 1) d_Model_sheet_93 rfl ?_
    subst hres
    exact j_reti d_Model_sheet_94 rfl (jS_cg (fun _ => rfl) (fun _ => rfl) (fun a k hk => by simp [hk]))
  · refine j_iload d_Model_sheet_67 rfl ?_
    refine j_bipush (v := nI 40) d_Model_sheet_69 (by decide) ?_
    refine j_icmp_geN_f (tgt := 93) d_Model_sheet_71 (by decide) (by omega) (by omega) (Nat.not_le.mpr hk) ?_
    refine j_aload_n d_Model_sheet_74 rfl ?_
    refine j_getr (b := 151) d_Model_sheet_75 jf_Model_56 rfl rfl rfl (by decide) ?_
    refine j_bipush (v := nI 40) d_Model_sheet_78 (by decide) ?_
    refine j_iload_n d_Model_sheet_80 rfl ?_
    refine j_imulN d_Model_sheet_81 ?_
    refine j_iload d_Model_sheet_82 rfl ?_
    refine j_iaddN d_Model_sheet_84 ?_
    refine j_iconst (v := nI 0) d_Model_sheet_85 rfl ?_
    refine j_iastN (h' := jM (jS h (jfu So s (-1)) (jfu Sz s 0) (jfu2 (fun a i => if a = s then (if i < k then 0 else Nu a i) else Nu a i) s k (nI 0))) P) d_Model_sheet_86 rfl (by omega) (by decide) (jS_nu (s := s) (i := k) (by omega) (by omega)) ?_
    refine j_iincN (x := k) (L' := [some (.ref 135), some (.int (nI s)), some (.int (-1)), some (.int m), some (.int (nI (k + 1)))]) d_Model_sheet_87 rfl (by decide) rfl rfl ?_
    refine j_goto (tgt := 67) d_Model_sheet_90 (by decide) ?_
    refine j_heap (h' := jM (jS h (jfu So s (-1)) (jfu Sz s 0) (fun a i => if a = s then (if i < (k + 1) then 0 else Nu a i) else Nu a i)) P) (jS_cg (fun _ => rfl) (fun _ => rfl) (fun a j hj => by by_cases e1 : a = s; (by_cases e : j = k; (simp [jfu2, e1, e, nI_0]); (simp [jfu2, e1, e, jlt_s e])); (simp [jfu2, e1]))) ?_
    exact ih
theorem c_sheetB {n : jN} {h : jH} {So : Nat → Int32} {Sz : Nat → Nat} {Nu : Nat → Nat → Int32} {P : jP} {s t m : Nat} (hs : s < 4) (ht : t < 2) (hm : m ≤ 40) : jC n 1 jy_Model_sheet jc_Model_sheet 5 (some .int) [.ref 135, .int (nI s), .int (nI t), .int (nI m)] (jM (jS h So Sz Nu) P) (some (.int (nI 1))) (jM (jS h (jfu So s (nI t)) (jfu Sz s m) (fun a i => if a = s then 0 else Nu a i)) P) := by
  refine jC_of jm_Model_sheet (L := [some (.ref 135), some (.int (nI s)), some (.int (nI t)), some (.int (nI m)), none]) (Nat.le_of_ble_eq_true rfl) rfl trivial ?_
  generalize hres : (((some (.int (nI 1))), jM (jS h (jfu So s (nI t)) (jfu Sz s m) (fun a i => if a = s then 0 else Nu a i)) P) : Option Value × jH) = res
  refine j_iload_n d_Model_sheet_0 rfl ?_
  refine j_callSs (As := [.int (nI s)]) (st := []) c_isSheet d_Model_sheet_1 (by decide) jm_Model_isSheet jk_Model_141 js_Model_isSheet rfl (Nat.le_of_ble_eq_true rfl) rfl ?_
  refine j_if_eqB_f (tgt := 29) d_Model_sheet_4 (by decide) (js4_N hs) ?_
  refine j_iload_n d_Model_sheet_7 rfl ?_
  refine j_i2l d_Model_sheet_8 ?_
  refine j_ldc2 (v := -1) d_Model_sheet_9 jk_Model_276 ?_
  refine j_lconst (v := 1) d_Model_sheet_12 rfl ?_
  refine j_callSs (As := [.long ((nI t).toInt64), .long (-1), .long 1]) (st := []) (c_in (x := (nI t)) (lo := -1) (hi := 1) rfl rfl rfl) d_Model_sheet_13 (by decide) jm_Model_in jk_Model_107 js_Model_in rfl (Nat.le_of_ble_eq_true rfl) rfl ?_
  refine j_if_eqB_f (tgt := 29) d_Model_sheet_16 (by decide) (jin_y (by omega) (by omega) (by omega)) ?_
  refine j_iload_n d_Model_sheet_19 rfl ?_
  refine j_if_ltN (tgt := 31) d_Model_sheet_20 (by decide) (by omega) (fun q => q.elim) (fun _ => ?_)
  refine j_iload_n d_Model_sheet_23 rfl ?_
  refine j_bipush (v := nI 40) d_Model_sheet_24 (by decide) ?_
  refine j_icmp_leN_t (tgt := 31) d_Model_sheet_26 (by decide) (by omega) (by omega) hm ?_
  refine j_iload_n d_Model_sheet_31 rfl ?_
  refine j_if_ltN (tgt := 42) d_Model_sheet_32 (by decide) (by omega) (fun q => q.elim) (fun _ => ?_)
  refine j_iload_n d_Model_sheet_35 rfl ?_
  refine j_if_geN (tgt := 42) d_Model_sheet_36 (by decide) (by omega) (fun _ => ?_) (fun q => q.elim)
  refine j_aload_n d_Model_sheet_42 rfl ?_
  refine j_getr (b := 149) d_Model_sheet_43 jf_Model_50 rfl rfl rfl (by decide) ?_
  refine j_iload_n d_Model_sheet_46 rfl ?_
  refine j_iload_n d_Model_sheet_47 rfl ?_
  refine j_iastN (h' := jM (jS h (jfu So s (nI t)) Sz Nu) P) d_Model_sheet_48 rfl (by omega) (by decide) jS_so ?_
  refine j_aload_n d_Model_sheet_49 rfl ?_
  refine j_getr (b := 150) d_Model_sheet_50 jf_Model_53 rfl rfl rfl (by decide) ?_
  refine j_iload_n d_Model_sheet_53 rfl ?_
  refine j_iload_n d_Model_sheet_54 rfl ?_
  refine j_if_geN (tgt := 62) d_Model_sheet_55 (by decide) (by omega) (fun _ => ?_) (fun q => q.elim)
  refine j_iload_n d_Model_sheet_62 rfl ?_
  refine j_iastN (h' := jM (jS h (jfu So s (nI t)) (jfu Sz s m) Nu) P) d_Model_sheet_63 rfl (by omega) (by decide) jS_sz ?_
  refine j_iconst (v := nI 0) d_Model_sheet_64 rfl ?_
  refine j_istore (L' := [some (.ref 135), some (.int (nI s)), some (.int (nI t)), some (.int (nI m)), some (.int (nI 0))]) d_Model_sheet_65 (by decide) rfl rfl ?_
  refine j_heap (h' := jM (jS h (jfu So s (nI t)) (jfu Sz s m) (fun a i => if a = s then (if i < 0 then 0 else Nu a i) else Nu a i)) P) (jS_cg (fun _ => rfl) (fun _ => rfl) (fun a k hk => by simp)) ?_
  refine j_loop (P := fun k => jJ n 1 jc_Model_sheet 5 "YesNoPowersModel" 67 [some (.ref 135), some (.int (nI s)), some (.int (nI t)), some (.int (nI m)), some (.int (nI k))] [] (jM (jS h (jfu So s (nI t)) (jfu Sz s m) (fun a i => if a = s then (if i < k then 0 else Nu a i) else Nu a i)) P) res) (m := 40) ?_ (fun k hk ih => ?_)
  · refine j_iload d_Model_sheet_67 rfl ?_
    refine j_bipush (v := nI 40) d_Model_sheet_69 (by decide) ?_
    refine j_icmp_geN_t (tgt := 93) d_Model_sheet_71 (by decide) (by omega) (by omega) (Nat.le_refl _) ?_
    refine j_iconst (v := nI 1) d_Model_sheet_93 rfl ?_
    subst hres
    exact j_reti d_Model_sheet_94 rfl (jS_cg (fun _ => rfl) (fun _ => rfl) (fun a k hk => by simp [hk]))
  · refine j_iload d_Model_sheet_67 rfl ?_
    refine j_bipush (v := nI 40) d_Model_sheet_69 (by decide) ?_
    refine j_icmp_geN_f (tgt := 93) d_Model_sheet_71 (by decide) (by omega) (by omega) (Nat.not_le.mpr hk) ?_
    refine j_aload_n d_Model_sheet_74 rfl ?_
    refine j_getr (b := 151) d_Model_sheet_75 jf_Model_56 rfl rfl rfl (by decide) ?_
    refine j_bipush (v := nI 40) d_Model_sheet_78 (by decide) ?_
    refine j_iload_n d_Model_sheet_80 rfl ?_
    refine j_imulN d_Model_sheet_81 ?_
    refine j_iload d_Model_sheet_82 rfl ?_
    refine j_iaddN d_Model_sheet_84 ?_
    refine j_iconst (v := nI 0) d_Model_sheet_85 rfl ?_
    refine j_iastN (h' := jM (jS h (jfu So s (nI t)) (jfu Sz s m) (jfu2 (fun a i => if a = s then (if i < k then 0 else Nu a i) else Nu a i) s k (nI 0))) P) d_Model_sheet_86 rfl (by omega) (by decide) (jS_nu (s := s) (i := k) (by omega) (by omega)) ?_
    refine j_iincN (x := k) (L' := [some (.ref 135), some (.int (nI s)), some (.int (nI t)), some (.int (nI m)), some (.int (nI (k + 1)))]) d_Model_sheet_87 rfl (by decide) rfl rfl ?_
    refine j_goto (tgt := 67) d_Model_sheet_90 (by decide) ?_
    refine j_heap (h' := jM (jS h (jfu So s (nI t)) (jfu Sz s m) (fun a i => if a = s then (if i < (k + 1) then 0 else Nu a i) else Nu a i)) P) (jS_cg (fun _ => rfl) (fun _ => rfl) (fun a j hj => by by_cases e1 : a = s; (by_cases e : j = k; (simp [jfu2, e1, e, nI_0]); (simp [jfu2, e1, e, jlt_s e])); (simp [jfu2, e1]))) ?_
    exact ih

/-- a table of the class at cell t -/
def isT (t : Nat) : Prop := jsh t = (7, 2) ∧ jrf t 1 = t + 1 ∧ jsh (t + 1) = (20, 12) ∧ t + 1 < 152
def rep (h : jH) (t : Nat) (T : jT) : Prop := h t 0 = nI T.1 ∧ ∀ i, i < T.1 → h (t + 1) i = nI (T.2 i)
theorem isT_ne {t o : Nat} (h : isT t) (h2 : isT o) (hne : o ≠ t) : o ≠ t ∧ o ≠ t + 1 ∧ o + 1 ≠ t ∧ o + 1 ≠ t + 1 := by
  refine ⟨hne, fun e => ?_, fun e => ?_, by omega⟩
  · have h1 := h.2.2.1
    rw [← e, h2.1] at h1
    exact absurd h1 (by decide)
  · have h1 := h2.2.2.1
    rw [e, h.1] at h1
    exact absurd h1 (by decide)
def pT (h : jH) (t m : Nat) (v : Nat → Int32) : jH := fun a => if a = t then (fun k => if k = 0 then nI m else h t k) else if a = t + 1 then v else h a
theorem pT_n {h : jH} {t m : Nat} {v : Nat → Int32} : pT h t m v t 0 = nI m := by simp [pT]
theorem pT_r {h : jH} {t m k : Nat} {v : Nat → Int32} : pT h t m v (t + 1) k = v k := by simp [pT]
theorem pT_o {h : jH} {t m a k : Nat} {v : Nat → Int32} (h1 : a ≠ t) (h2 : a ≠ t + 1) : pT h t m v a k = h a k := by simp [pT, h1, h2]
theorem pT_f {h : jH} {t m a : Nat} {v : Nat → Int32} (h1 : a ≠ t) (h2 : a ≠ t + 1) : pT h t m v a = h a := by simp [pT, h1, h2]
theorem pT_sn {h : jH} {t m x : Nat} {v : Nat → Int32} : jup2 (pT h t m v) t 0 (nI x) = pT h t x v := by
  funext a k
  simp only [jup2, pT]
  by_cases e : a = t
  · subst e
    by_cases e2 : k = 0 <;> simp [e2]
  · simp [e]
theorem pT_sr {h : jH} {t m i : Nat} {v : Nat → Int32} {x : Int32} : jup2 (pT h t m v) (t + 1) i x = pT h t m (jfu v i x) := by
  funext a k
  simp only [jup2, pT]
  by_cases e : a = t + 1
  · subst e
    by_cases e2 : k = i <;> simp [e2, jfu]
  · simp [e]
theorem pT_0 {h : jH} {t m : Nat} (hn : h t 0 = nI m) : h = pT h t m (h (t + 1)) := by
  funext a k
  simp only [pT]
  by_cases e : a = t
  · subst e
    by_cases e2 : k = 0 <;> simp [e2, hn]
  · by_cases e2 : a = t + 1
    · subst e2
      simp
    · simp [e, e2]
theorem pT_1 {h : jH} {t m : Nat} : jup2 h t 0 (nI m) = pT h t m (h (t + 1)) := by
  funext a k
  simp only [pT, jup2]
  by_cases e : a = t
  · subst e
    by_cases e2 : k = 0 <;> simp [e2]
  · by_cases e2 : a = t + 1
    · subst e2
      simp
    · simp [e, e2]
theorem pT_cg {h : jH} {t m m' : Nat} {v v' : Nat → Int32} (h1 : m = m') (h2 : ∀ k, v k = v' k) : pT h t m v = pT h t m' v' := by rw [h1, show v = v' from funext h2]
/-- table t becomes T; what stands behind its rows stays -/
def sT (h : jH) (t : Nat) (T : jT) : jH := pT h t T.1 (fun k => if k < T.1 then nI (T.2 k) else h (t + 1) k)
theorem rep_sT {h : jH} {t : Nat} {T : jT} : rep (sT h t T) t T := ⟨pT_n, fun i hi => by rw [sT, pT_r, if_pos hi]⟩
theorem rep_o {h : jH} {t o : Nat} {T A : jT} (ht : isT t) (ho : isT o) (hne : o ≠ t) (hr : rep h o A) : rep (sT h t T) o A := by
  obtain ⟨h1, h2, h3, h4⟩ := isT_ne ht ho hne
  exact ⟨by rw [sT, pT_o h1 h2]; exact hr.1, fun i hi => by rw [sT, pT_o h3 h4]; exact hr.2 i hi⟩
theorem sT_f {h : jH} {t a : Nat} {T : jT} (h1 : a ≠ t) (h2 : a ≠ t + 1) : sT h t T a = h a := pT_f h1 h2
theorem x_entry {n : jN} {h : jH} {t : Nat} (ht : isT t) {i j r : Nat} (hi : i < 12) (hj : j < 31) (hr : h (t + 1) i = nI r) (hr2 : r < 2 ^ 31) : jC n 0 jy_Table_entry jc_Table_entry 3 (some .int) [.ref t, .int (nI i), .int (nI j)] h (some (.int (jbo (r.testBit j)))) h := by
  refine jC_of jm_Table_entry (L := [some (.ref t), some (.int (nI i)), some (.int (nI j))]) (Nat.le_of_ble_eq_true rfl) rfl trivial ?_
  generalize hres : (((some (.int (jbo (r.testBit j)))), h) : Option Value × jH) = res
  refine j_aload_n d_Table_entry_0 rfl ?_
  refine j_getr (b := t + 1) d_Table_entry_1 jf_Table_11 ht.1 rfl ht.2.1 ht.2.2.2 ?_
  refine j_iload_n d_Table_entry_4 rfl ?_
  refine j_ialdN (v := nI r) d_Table_entry_5 ht.2.2.1 (by omega) (by decide) hr ?_
  refine j_iload_n d_Table_entry_6 rfl ?_
  refine j_ishrN d_Table_entry_7 hr2 (by omega) ?_
  refine j_iconst (v := nI 1) d_Table_entry_8 rfl ?_
  refine j_iandN d_Table_entry_9 ?_
  refine j_top (w := jbo ((r).testBit j)) (ni_bit _ _) ?_
  subst hres
  exact j_reti d_Table_entry_10 rfl rfl
theorem x_allColumns {n : jN} {h : jH} {t : Nat} (ht : isT t) {m : Nat} (hn : h t 0 = nI m) (hm : m ≤ 12) : jC n 0 jy_Table_allColumns jc_Table_allColumns 1 (some .int) [.ref t] h (some (.int (nI (2 ^ m - 1)))) h := by
  refine jC_of jm_Table_allColumns (L := [some (.ref t)]) (Nat.le_of_ble_eq_true rfl) rfl trivial ?_
  generalize hres : (((some (.int (nI (2 ^ m - 1)))), h) : Option Value × jH) = res
  refine j_iconst (v := nI 1) d_Table_allColumns_0 rfl ?_
  refine j_aload_n d_Table_allColumns_1 rfl ?_
  refine j_getv (v := nI m) d_Table_allColumns_2 jf_Table_15 ht.1 rfl hn ?_
  refine j_shl1N d_Table_allColumns_5 (by omega) ?_
  refine j_iconst (v := nI 1) d_Table_allColumns_6 rfl ?_
  refine j_isubN d_Table_allColumns_7 Nat.one_le_two_pow ?_
  subst hres
  exact j_reti d_Table_allColumns_8 rfl rfl
theorem jse_and {m : Nat} {x : Int32} (hm : m ≤ 12) : x &&& (nI (2 ^ m - 1) ^^^ (-1)) = 0 ↔ jse m x = true := by
  have h2m : 2 ^ m ≤ 2 ^ 12 := Nat.pow_le_pow_right (by omega) hm
  have h2p : 0 < 2 ^ m := Nat.two_pow_pos m
  constructor
  · intro h
    have hb : ∀ i, m ≤ i → x.toBitVec.getLsbD i = false := by
      intro i hi
      by_cases h32 : i < 32
      · have h1 := congrArg (fun z : Int32 => z.toBitVec.getLsbD i) h
        have h2 : (x &&& (nI (2 ^ m - 1) ^^^ (-1))).toBitVec = x.toBitVec &&& (BitVec.ofNat 32 (2 ^ m - 1) ^^^ BitVec.allOnes 32) := rfl
        simp only [h2, BitVec.getLsbD_and, BitVec.getLsbD_xor, BitVec.getLsbD_ofNat, BitVec.getLsbD_allOnes, h32, decide_true, Bool.true_and, Nat.testBit_two_pow_sub_one, show ¬ i < m by omega, decide_false] at h1
        simpa using h1
      · exact BitVec.getLsbD_of_ge _ _ (by omega)
    have hlt : x.toBitVec.toNat < 2 ^ m := Nat.lt_pow_two_of_testBit _ (fun i hi => hb i hi)
    obtain ⟨k, hk, e⟩ : ∃ k, k < 2 ^ m ∧ x = nI k := ⟨x.toBitVec.toNat, hlt, by
      apply Int32.toBitVec_inj.1
      show x.toBitVec = BitVec.ofNat 32 x.toBitVec.toNat
      simp⟩
    rw [e]
    exact jse_y hm hk
  · intro h
    obtain ⟨k, hk, rfl⟩ := jse_t hm h
    rw [ni_cl2 (by omega) (by omega)]
    have : k &&& (4095 ^^^ (2 ^ m - 1)) = 0 := by
      apply Nat.eq_of_testBit_eq
      intro i
      rw [Nat.testBit_and, Nat.testBit_xor, show (4095 : Nat) = 2 ^ 12 - 1 from rfl, Nat.testBit_two_pow_sub_one, Nat.testBit_two_pow_sub_one, Nat.zero_testBit]
      by_cases hi : i < m
      · have : i < 12 := by omega
        simp [hi, this]
      · rw [Nat.testBit_lt_two_pow (Nat.lt_of_lt_of_le hk (Nat.pow_le_pow_right (by omega) (by omega)))]
        rfl
    rw [this]
    rfl
theorem x_lacks {n : jN} {h : jH} {t : Nat} (ht : isT t) {m : Nat} {v : Int32} (hn : h t 0 = nI m) (hm : m ≤ 12) : jC n 1 jy_Table_lacksColumnOf jc_Table_lacksColumnOf 2 (some .boolean) [.ref t, .int v] h (some (.int (jbo (!(jse m v))))) h := by
  refine jC_of jm_Table_lacksColumnOf (L := [some (.ref t), some (.int v)]) (Nat.le_of_ble_eq_true rfl) rfl (jbo01 _) ?_
  generalize hres : (((some (.int (jbo (!(jse m v))))), h) : Option Value × jH) = res
  refine j_iload_n d_Table_lacksColumnOf_0 rfl ?_
  refine j_aload_n d_Table_lacksColumnOf_1 rfl ?_
  refine j_callVs (As := []) (st := [.int v]) (x_allColumns ht hn hm) d_Table_lacksColumnOf_2 (by decide) jm_Table_allColumns jk_Table_19 ji_Table_allColumns js_Table_allColumns ht.1 (by decide) rfl rfl (Nat.le_of_ble_eq_true rfl) rfl ?_
  refine j_iconst (v := -1) d_Table_lacksColumnOf_5 rfl ?_
  refine j_ixor d_Table_lacksColumnOf_6 ?_
  refine j_iand d_Table_lacksColumnOf_7 ?_
  refine j_if_eq (tgt := 15) d_Table_lacksColumnOf_8 (by decide) (fun c => ?_) (fun c => ?_)
  · refine j_iconst (v := nI 0) d_Table_lacksColumnOf_15 rfl ?_
    subst hres
    exact j_reti d_Table_lacksColumnOf_16 (by rw [(jse_and hm).mp c]; rfl) rfl
  · refine j_iconst (v := nI 1) d_Table_lacksColumnOf_11 rfl ?_
    refine j_goto (tgt := 16) d_Table_lacksColumnOf_12 (by decide) ?_
    subst hres
    exact j_reti d_Table_lacksColumnOf_16 (by rw [show jse m v = false from by cases hq : jse m v with | false => rfl | true => exact absurd ((jse_and hm).mpr hq) c]; rfl) rfl
theorem jbo_shl {b : Bool} {i : Nat} (hi : i < 31) : jbo b <<< (nI i &&& 31) = nI (if b = true then 2 ^ i else 0) := by
  cases b with
  | false =>
    show nI 0 <<< (nI i &&& 31) = _
    rw [ni_shl (by omega) (by omega), Nat.zero_mul]
    rfl
  | true =>
    show nI 1 <<< (nI i &&& 31) = _
    rw [ni_shl (by omega) (by rw [Nat.one_mul]; exact Nat.pow_lt_pow_right (by omega) (by omega)), Nat.one_mul]
    rfl
theorem x_column {n : jN} {h : jH} {t : Nat} (ht : isT t) {T : jT} {j : Nat} (hr : rep h t T) (hT : tw T) (hj : j < 12) : jC n 1 jy_Table_column jc_Table_column 4 (some .int) [.ref t, .int (nI j)] h (some (.int (nI (tcol T j T.1)))) h := by
  have hn12 := hT.1
  refine jC_of jm_Table_column (L := [some (.ref t), some (.int (nI j)), none, none]) (Nat.le_of_ble_eq_true rfl) rfl trivial ?_
  generalize hres : (((some (.int (nI (tcol T j T.1)))), h) : Option Value × jH) = res
  refine j_iconst (v := nI 0) d_Table_column_0 rfl ?_
  refine j_istore_n (L' := [some (.ref t), some (.int (nI j)), some (.int (nI 0)), none]) d_Table_column_1 (by decide) rfl rfl ?_
  refine j_iconst (v := nI 0) d_Table_column_2 rfl ?_
  refine j_istore_n (L' := [some (.ref t), some (.int (nI j)), some (.int (nI 0)), some (.int (nI 0))]) d_Table_column_3 (by decide) rfl rfl ?_
  refine j_loop (P := fun k => jJ n 1 jc_Table_column 4 "YesNoPowers$Table" 4 [some (.ref t), some (.int (nI j)), some (.int (nI (tcol T j k))), some (.int (nI k))] [] h res) (m := T.1) ?_ (fun k hk ih => ?_)
  · refine j_iload_n d_Table_column_4 rfl ?_
    refine j_aload_n d_Table_column_5 rfl ?_
    refine j_getv (v := nI T.1) d_Table_column_6 jf_Table_15 ht.1 rfl hr.1 ?_
    refine j_icmp_geN_t (tgt := 29) d_Table_column_9 (by decide) (by omega) (by omega) (Nat.le_refl _) ?_
    refine j_iload_n d_Table_column_29 rfl ?_
    subst hres
    exact j_reti d_Table_column_30 rfl rfl
  · refine j_iload_n d_Table_column_4 rfl ?_
    refine j_aload_n d_Table_column_5 rfl ?_
    refine j_getv (v := nI T.1) d_Table_column_6 jf_Table_15 ht.1 rfl hr.1 ?_
    refine j_icmp_geN_f (tgt := 29) d_Table_column_9 (by decide) (by omega) (by omega) (Nat.not_le.mpr hk) ?_
    refine j_iload_n d_Table_column_12 rfl ?_
    refine j_aload_n d_Table_column_13 rfl ?_
    refine j_iload_n d_Table_column_14 rfl ?_
    refine j_iload_n d_Table_column_15 rfl ?_
    refine j_callVs (As := [.int (nI k), .int (nI j)]) (st := [.int (nI (tcol T j k))]) (x_entry (r := T.2 k) ht (by omega) (by omega) (hr.2 _ (by omega)) (tw_lt hT _)) d_Table_column_16 (by decide) jm_Table_entry jk_Table_23 ji_Table_entry js_Table_entry ht.1 (by decide) rfl rfl (Nat.le_of_ble_eq_true rfl) rfl ?_
    refine j_iload_n d_Table_column_19 rfl ?_
    refine j_ishl d_Table_column_20 ?_
    refine j_top (w := nI (if (T.2 k).testBit j = true then 2 ^ k else 0)) (jbo_shl (by omega)) ?_
    refine j_iorN d_Table_column_21 ?_
    refine j_top (w := nI (tcol T j (k + 1))) rfl ?_
    refine j_istore_n (L' := [some (.ref t), some (.int (nI j)), some (.int (nI (tcol T j (k + 1)))), some (.int (nI k))]) d_Table_column_22 (by decide) rfl rfl ?_
    refine j_iincN (x := k) (L' := [some (.ref t), some (.int (nI j)), some (.int (nI (tcol T j (k + 1)))), some (.int (nI (k + 1)))]) d_Table_column_23 rfl (by decide) rfl rfl ?_
    refine j_goto (tgt := 4) d_Table_column_26 (by decide) ?_
    exact ih
theorem x_loops {n : jN} {h : jH} {t : Nat} (ht : isT t) {T : jT} (hr : rep h t T) (hT : tw T) : jC n 1 jy_Table_loops jc_Table_loops 3 (some .int) [.ref t] h (some (.int (nI (own T T.1)))) h := by
  have hn12 := hT.1
  refine jC_of jm_Table_loops (L := [some (.ref t), none, none]) (Nat.le_of_ble_eq_true rfl) rfl trivial ?_
  generalize hres : (((some (.int (nI (own T T.1)))), h) : Option Value × jH) = res
  refine j_iconst (v := nI 0) d_Table_loops_0 rfl ?_
  refine j_istore_n (L' := [some (.ref t), some (.int (nI 0)), none]) d_Table_loops_1 (by decide) rfl rfl ?_
  refine j_iconst (v := nI 0) d_Table_loops_2 rfl ?_
  refine j_istore_n (L' := [some (.ref t), some (.int (nI 0)), some (.int (nI 0))]) d_Table_loops_3 (by decide) rfl rfl ?_
  refine j_loop (P := fun k => jJ n 1 jc_Table_loops 3 "YesNoPowers$Table" 4 [some (.ref t), some (.int (nI (own T k))), some (.int (nI k))] [] h res) (m := T.1) ?_ (fun k hk ih => ?_)
  · refine j_iload_n d_Table_loops_4 rfl ?_
    refine j_aload_n d_Table_loops_5 rfl ?_
    refine j_getv (v := nI T.1) d_Table_loops_6 jf_Table_15 ht.1 rfl hr.1 ?_
    refine j_icmp_geN_t (tgt := 27) d_Table_loops_9 (by decide) (by omega) (by omega) (Nat.le_refl _) ?_
    refine j_iload_n d_Table_loops_27 rfl ?_
    subst hres
    exact j_reti d_Table_loops_28 rfl rfl
  · refine j_iload_n d_Table_loops_4 rfl ?_
    refine j_aload_n d_Table_loops_5 rfl ?_
    refine j_getv (v := nI T.1) d_Table_loops_6 jf_Table_15 ht.1 rfl hr.1 ?_
    refine j_icmp_geN_f (tgt := 27) d_Table_loops_9 (by decide) (by omega) (by omega) (Nat.not_le.mpr hk) ?_
    refine j_iload_n d_Table_loops_12 rfl ?_
    refine j_aload_n d_Table_loops_13 rfl ?_
    refine j_iload_n d_Table_loops_14 rfl ?_
    refine j_iload_n d_Table_loops_15 rfl ?_
    refine j_callVs (As := [.int (nI k), .int (nI k)]) (st := [.int (nI (own T k))]) (x_entry (r := T.2 k) ht (by omega) (by omega) (hr.2 _ (by omega)) (tw_lt hT _)) d_Table_loops_16 (by decide) jm_Table_entry jk_Table_23 ji_Table_entry js_Table_entry ht.1 (by decide) rfl rfl (Nat.le_of_ble_eq_true rfl) rfl ?_
    refine j_iadd d_Table_loops_19 ?_
    refine j_top (w := nI (own T (k + 1))) (by show _ = nI (own T k + (if (T.2 k).testBit k then 1 else 0)); rw [← nI_add]; congr 1; cases (T.2 k).testBit k <;> rfl) ?_
    refine j_istore_n (L' := [some (.ref t), some (.int (nI (own T (k + 1)))), some (.int (nI k))]) d_Table_loops_20 (by decide) rfl rfl ?_
    refine j_iincN (x := k) (L' := [some (.ref t), some (.int (nI (own T (k + 1)))), some (.int (nI (k + 1)))]) d_Table_loops_21 rfl (by decide) rfl rfl ?_
    refine j_goto (tgt := 4) d_Table_loops_24 (by decide) ?_
    exact ih

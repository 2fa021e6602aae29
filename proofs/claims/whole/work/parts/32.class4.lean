/-- a sheet of the class at cell u -/
def isU (u : Nat) : Prop := jsh u = (5, 3) ∧ jrf u 2 = u + 1 ∧ jsh (u + 1) = (20, 40) ∧ u + 1 < 152
def sSh (h : jH) (u : Nat) (so : Int32) (m : Nat) (v : Nat → Int32) : jH := fun a => if a = u then (fun k => if k = 0 then so else if k = 1 then nI m else h u k) else if a = u + 1 then v else h a
theorem sSh_0 {h : jH} {u m : Nat} {so : Int32} : jup2 (jup2 h u 0 so) u 1 (nI m) = sSh h u so m (h (u + 1)) := by
  funext a k
  simp only [jup2, sSh]
  by_cases e : a = u
  · subst e
    by_cases e2 : k = 0
    · simp [e2]
    · by_cases e3 : k = 1 <;> simp [e2, e3]
  · by_cases e2 : a = u + 1
    · subst e2
      simp
    · simp [e, e2]
theorem sSh_s {h : jH} {u m i : Nat} {so x : Int32} {v : Nat → Int32} : jup2 (sSh h u so m v) (u + 1) i x = sSh h u so m (jfu v i x) := by
  funext a k
  simp only [jup2, sSh]
  by_cases e : a = u + 1
  · subst e
    by_cases e2 : k = i <;> simp [e2, jfu]
  · simp [e]
theorem sSh_n {h : jH} {u m : Nat} {so : Int32} {v : Nat → Int32} : sSh h u so m v u 1 = nI m := by simp [sSh]
theorem sSh_cg {h : jH} {u m : Nat} {so : Int32} {v v' : Nat → Int32} (e : ∀ k, v k = v' k) : sSh h u so m v = sSh h u so m v' := by rw [show v = v' from funext e]
theorem x_isMissing {n : jN} {h : jH} {u : Nat} (hu : isU u)  : jC n 0 jy_Sheet_isMissing jc_Sheet_isMissing 1 (some .boolean) [.ref u] h (some (.int (jbo (decide (h u 0 = -1))))) h := by
  refine jC_of jm_Sheet_isMissing (L := [some (.ref u)]) (Nat.le_of_ble_eq_true rfl) rfl (jbo01 _) ?_
  generalize hres : (((some (.int (jbo (decide (h u 0 = -1))))), h) : Option Value × jH) = res
  refine j_aload_n d_Sheet_isMissing_0 rfl ?_
  refine j_getv (v := h u 0) d_Sheet_isMissing_1 jf_Sheet_7 hu.1 rfl rfl ?_
  refine j_iconst (v := -1) d_Sheet_isMissing_4 rfl ?_
  refine j_icmp_ne (tgt := 12) d_Sheet_isMissing_5 (by decide) (fun c => ?_) (fun c => ?_)
  · refine j_iconst (v := nI 0) d_Sheet_isMissing_12 rfl ?_
    subst hres
    exact j_reti d_Sheet_isMissing_13 (by first | (rw [show decide (h u 0 = -1) = true from decide_eq_true c]; rfl) | (rw [show decide (h u 0 = -1) = false from decide_eq_false c]; rfl)) rfl
  · refine j_iconst (v := nI 1) d_Sheet_isMissing_8 rfl ?_
    refine j_goto (tgt := 13) d_Sheet_isMissing_9 (by decide) ?_
    subst hres
    exact j_reti d_Sheet_isMissing_13 (by first | (rw [show decide (h u 0 = -1) = true from decide_eq_true c]; rfl) | (rw [show decide (h u 0 = -1) = false from decide_eq_false c]; rfl)) rfl
theorem x_begin {n : jN} {h : jH} {u : Nat} (hu : isU u) {so : Int32} {m : Nat} (hm : m ≤ 40) : jC n 0 jy_Sheet_begin jc_Sheet_begin 4 none [.ref u, .int so, .int (nI m)] h none (sSh h u so m (fun z => if z < m then 0 else h (u + 1) z)) := by
  refine jC_of jm_Sheet_begin (L := [some (.ref u), some (.int so), some (.int (nI m)), none]) (Nat.le_of_ble_eq_true rfl) rfl trivial ?_
  generalize hres : ((none, sSh h u so m (fun z => if z < m then 0 else h (u + 1) z)) : Option Value × jH) = res
  refine j_aload_n d_Sheet_begin_0 rfl ?_
  refine j_iload_n d_Sheet_begin_1 rfl ?_
  refine j_putv (h' := jup2 h u 0 so) d_Sheet_begin_2 jf_Sheet_7 hu.1 rfl rfl ?_
  refine j_aload_n d_Sheet_begin_5 rfl ?_
  refine j_iload_n d_Sheet_begin_6 rfl ?_
  refine j_putv (h' := jup2 (jup2 h u 0 so) u 1 (nI m)) d_Sheet_begin_7 jf_Sheet_17 hu.1 rfl rfl ?_
  refine j_iconst (v := nI 0) d_Sheet_begin_10 rfl ?_
  refine j_istore_n (L' := [some (.ref u), some (.int so), some (.int (nI m)), some (.int (nI 0))]) d_Sheet_begin_11 (by decide) rfl rfl ?_
  refine j_heap (h' := sSh h u so m (h (u + 1))) sSh_0 ?_
  refine j_heap (h' := sSh h u so m (fun z => if z < 0 then 0 else h (u + 1) z)) (sSh_cg (fun z => by rw [if_neg (by omega)])) ?_
  refine j_loop (P := fun k => jJ n 0 jc_Sheet_begin 4 "YesNoPowers$Sheet" 12 [some (.ref u), some (.int so), some (.int (nI m)), some (.int (nI k))] [] (sSh h u so m (fun z => if z < k then 0 else h (u + 1) z)) res) (m := m) ?_ (fun k hk ih => ?_)
  · refine j_iload_n d_Sheet_begin_12 rfl ?_
    refine j_aload_n d_Sheet_begin_13 rfl ?_
    refine j_getv (v := nI m) d_Sheet_begin_14 jf_Sheet_17 hu.1 rfl sSh_n ?_
    refine j_icmp_geN_t (tgt := 33) d_Sheet_begin_17 (by decide) (by omega) (by omega) (Nat.le_refl _) ?_
    subst hres
    exact j_retv d_Sheet_begin_33 rfl
  · refine j_iload_n d_Sheet_begin_12 rfl ?_
    refine j_aload_n d_Sheet_begin_13 rfl ?_
    refine j_getv (v := nI m) d_Sheet_begin_14 jf_Sheet_17 hu.1 rfl sSh_n ?_
    refine j_icmp_geN_f (tgt := 33) d_Sheet_begin_17 (by decide) (by omega) (by omega) (Nat.not_le.mpr hk) ?_
    refine j_aload_n d_Sheet_begin_20 rfl ?_
    refine j_getr (b := u + 1) d_Sheet_begin_21 jf_Sheet_13 hu.1 rfl hu.2.1 hu.2.2.2 ?_
    refine j_iload_n d_Sheet_begin_24 rfl ?_
    refine j_iconst (v := nI 0) d_Sheet_begin_25 rfl ?_
    refine j_iastN (h' := sSh h u so m (jfu (fun z => if z < k then 0 else h (u + 1) z) k (nI 0))) d_Sheet_begin_26 hu.2.2.1 (by omega) (by decide) sSh_s ?_
    refine j_iincN (x := k) (L' := [some (.ref u), some (.int so), some (.int (nI m)), some (.int (nI (k + 1)))]) d_Sheet_begin_27 rfl (by decide) rfl rfl ?_
    refine j_goto (tgt := 12) d_Sheet_begin_30 (by decide) ?_
    refine j_heap (h' := sSh h u so m (fun z => if z < k + 1 then 0 else h (u + 1) z)) (sSh_cg (fun k => by simp only [jfu]; (repeat' split); all_goals first | rfl | omega | (subst_vars; rfl))) ?_
    exact ih
def jhas (m : Nat) (f c : Int32) : Bool := !(decide (f < 0)) && !(decide (c < 0)) && !(decide (nI m < c)) && !(decide (nI m - c < f))
theorem x_lacks4 {n : jN} {h : jH} {u : Nat} (hu : isU u) {m : Nat} {f c : Int32} (hm : h u 1 = nI m) : jC n 0 jy_Sheet_lacks jc_Sheet_lacks 3 (some .boolean) [.ref u, .int f, .int c] h (some (.int (jbo (!(jhas m f c))))) h := by
  refine jC_of jm_Sheet_lacks (L := [some (.ref u), some (.int f), some (.int c)]) (Nat.le_of_ble_eq_true rfl) rfl (jbo01 _) ?_
  generalize hres : (((some (.int (jbo (!(jhas m f c))))), h) : Option Value × jH) = res
  refine j_iload_n d_Sheet_lacks_0 rfl ?_
  refine j_if_lt (tgt := 26) d_Sheet_lacks_1 (by decide) (fun d0 => ?_) (fun d0 => ?_)
  · refine j_iconst (v := nI 1) d_Sheet_lacks_26 rfl ?_
    refine j_goto (tgt := 31) d_Sheet_lacks_27 (by decide) ?_
    subst hres
    exact j_reti d_Sheet_lacks_31 (by first | (rw [show jhas m f c = true from by simp_all [jhas, Int32.not_lt, Int32.not_le]]; rfl) | (rw [show jhas m f c = false from by simp_all [jhas, Int32.not_lt, Int32.not_le]]; rfl)) rfl
  · refine j_iload_n d_Sheet_lacks_4 rfl ?_
    refine j_if_lt (tgt := 26) d_Sheet_lacks_5 (by decide) (fun d1 => ?_) (fun d1 => ?_)
    · refine j_iconst (v := nI 1) d_Sheet_lacks_26 rfl ?_
      refine j_goto (tgt := 31) d_Sheet_lacks_27 (by decide) ?_
      subst hres
      exact j_reti d_Sheet_lacks_31 (by first | (rw [show jhas m f c = true from by simp_all [jhas, Int32.not_lt, Int32.not_le]]; rfl) | (rw [show jhas m f c = false from by simp_all [jhas, Int32.not_lt, Int32.not_le]]; rfl)) rfl
    · refine j_iload_n d_Sheet_lacks_8 rfl ?_
      refine j_aload_n d_Sheet_lacks_9 rfl ?_
      refine j_getv (v := nI m) d_Sheet_lacks_10 jf_Sheet_17 hu.1 rfl hm ?_
      refine j_icmp_gt (tgt := 26) d_Sheet_lacks_13 (by decide) (fun d2 => ?_) (fun d2 => ?_)
      · refine j_iconst (v := nI 1) d_Sheet_lacks_26 rfl ?_
        refine j_goto (tgt := 31) d_Sheet_lacks_27 (by decide) ?_
        subst hres
        exact j_reti d_Sheet_lacks_31 (by first | (rw [show jhas m f c = true from by simp_all [jhas, Int32.not_lt, Int32.not_le]]; rfl) | (rw [show jhas m f c = false from by simp_all [jhas, Int32.not_lt, Int32.not_le]]; rfl)) rfl
      · refine j_iload_n d_Sheet_lacks_16 rfl ?_
        refine j_aload_n d_Sheet_lacks_17 rfl ?_
        refine j_getv (v := nI m) d_Sheet_lacks_18 jf_Sheet_17 hu.1 rfl hm ?_
        refine j_iload_n d_Sheet_lacks_21 rfl ?_
        refine j_isub d_Sheet_lacks_22 ?_
        refine j_icmp_le (tgt := 30) d_Sheet_lacks_23 (by decide) (fun d3 => ?_) (fun d3 => ?_)
        · refine j_iconst (v := nI 0) d_Sheet_lacks_30 rfl ?_
          subst hres
          exact j_reti d_Sheet_lacks_31 (by first | (rw [show jhas m f c = true from by simp_all [jhas, Int32.not_lt, Int32.not_le]]; rfl) | (rw [show jhas m f c = false from by simp_all [jhas, Int32.not_lt, Int32.not_le]]; rfl)) rfl
        · refine j_iconst (v := nI 1) d_Sheet_lacks_26 rfl ?_
          refine j_goto (tgt := 31) d_Sheet_lacks_27 (by decide) ?_
          subst hres
          exact j_reti d_Sheet_lacks_31 (by first | (rw [show jhas m f c = true from by simp_all [jhas, Int32.not_lt, Int32.not_le]]; rfl) | (rw [show jhas m f c = false from by simp_all [jhas, Int32.not_lt, Int32.not_le]]; rfl)) rfl
theorem x_write {n : jN} {h : jH} {u : Nat} (hu : isU u) {i : Nat} {v : Int32} (hi : i < 40) : jC n 0 jy_Sheet_write jc_Sheet_write 3 none [.ref u, .int (nI i), .int v] h none (jup2 h (u + 1) i (jlow (h u 0) v)) := by
  refine jC_of jm_Sheet_write (L := [some (.ref u), some (.int (nI i)), some (.int v)]) (Nat.le_of_ble_eq_true rfl) rfl trivial ?_
  generalize hres : ((none, jup2 h (u + 1) i (jlow (h u 0) v)) : Option Value × jH) = res
  refine j_aload_n d_Sheet_write_0 rfl ?_
  refine j_getr (b := u + 1) d_Sheet_write_1 jf_Sheet_13 hu.1 rfl hu.2.1 hu.2.2.2 ?_
  refine j_iload_n d_Sheet_write_4 rfl ?_
  refine j_aload_n d_Sheet_write_5 rfl ?_
  refine j_getv (v := h u 0) d_Sheet_write_6 jf_Sheet_7 hu.1 rfl rfl ?_
  refine j_if_ne (tgt := 17) d_Sheet_write_9 (by decide) (fun c => ?_) (fun c => ?_)
  · refine j_iload_n d_Sheet_write_17 rfl ?_
    refine j_top (w := jlow (h u 0) v) (by simp [jlow, c]) ?_
    refine j_iastN (h' := jup2 h (u + 1) i (jlow (h u 0) v)) d_Sheet_write_18 hu.2.2.1 (by omega) (by decide) rfl ?_
    subst hres
    exact j_retv d_Sheet_write_19 rfl
  · refine j_iload_n d_Sheet_write_12 rfl ?_
    refine j_i2b d_Sheet_write_13 ?_
    refine j_goto (tgt := 18) d_Sheet_write_14 (by decide) ?_
    refine j_top (w := jlow (h u 0) v) (by simp [jlow, c]) ?_
    refine j_iastN (h' := jup2 h (u + 1) i (jlow (h u 0) v)) d_Sheet_write_18 hu.2.2.1 (by omega) (by decide) rfl ?_
    subst hres
    exact j_retv d_Sheet_write_19 rfl
theorem x_rowAt {n : jN} {h : jH} {u : Nat} (hu : isU u) {i : Nat} (hi : i < 40) : jC n 0 jy_Sheet_rowAt jc_Sheet_rowAt 2 (some .int) [.ref u, .int (nI i)] h (some (.int (lrow (h u 0) (h (u + 1) i)))) h := by
  refine jC_of jm_Sheet_rowAt (L := [some (.ref u), some (.int (nI i))]) (Nat.le_of_ble_eq_true rfl) rfl trivial ?_
  generalize hres : (((some (.int (lrow (h u 0) (h (u + 1) i)))), h) : Option Value × jH) = res
  refine j_aload_n d_Sheet_rowAt_0 rfl ?_
  refine j_getv (v := h u 0) d_Sheet_rowAt_1 jf_Sheet_7 hu.1 rfl rfl ?_
  refine j_if_ne (tgt := 20) d_Sheet_rowAt_4 (by decide) (fun c => ?_) (fun c => ?_)
  · refine j_aload_n d_Sheet_rowAt_20 rfl ?_
    refine j_getr (b := u + 1) d_Sheet_rowAt_21 jf_Sheet_13 hu.1 rfl hu.2.1 hu.2.2.2 ?_
    refine j_iload_n d_Sheet_rowAt_24 rfl ?_
    refine j_ialdN (v := h (u + 1) i) d_Sheet_rowAt_25 hu.2.2.1 (by omega) (by decide) rfl ?_
    subst hres
    exact j_reti d_Sheet_rowAt_26 (by simp [lrow, c]) rfl
  · refine j_aload_n d_Sheet_rowAt_7 rfl ?_
    refine j_getr (b := u + 1) d_Sheet_rowAt_8 jf_Sheet_13 hu.1 rfl hu.2.1 hu.2.2.2 ?_
    refine j_iload_n d_Sheet_rowAt_11 rfl ?_
    refine j_ialdN (v := h (u + 1) i) d_Sheet_rowAt_12 hu.2.2.1 (by omega) (by decide) rfl ?_
    refine j_sipush (v := nI 255) d_Sheet_rowAt_13 (by decide) ?_
    refine j_iand d_Sheet_rowAt_16 ?_
    refine j_goto (tgt := 26) d_Sheet_rowAt_17 (by decide) ?_
    subst hres
    exact j_reti d_Sheet_rowAt_26 (by simp [lrow, c]) rfl
theorem x_outOf {n : jN} {h : jH} {x lo hi : Int32} : jC n 0 jy_Main_outOf jc_Main_outOf 3 (some .boolean) [.int x, .int lo, .int hi] h (some (.int (jbo (decide (x < lo ∨ hi < x))))) h := by
  refine jC_of jm_Main_outOf (L := [some (.int x), some (.int lo), some (.int hi)]) (Nat.le_of_ble_eq_true rfl) rfl (jbo01 _) ?_
  generalize hres : (((some (.int (jbo (decide (x < lo ∨ hi < x))))), h) : Option Value × jH) = res
  refine j_iload_n d_Main_outOf_0 rfl ?_
  refine j_iload_n d_Main_outOf_1 rfl ?_
  refine j_icmp_lt (tgt := 10) d_Main_outOf_2 (by decide) (fun c => ?_) (fun c => ?_)
  · refine j_iconst (v := nI 1) d_Main_outOf_10 rfl ?_
    refine j_goto (tgt := 15) d_Main_outOf_11 (by decide) ?_
    subst hres
    exact j_reti d_Main_outOf_15 (by first | (rw [show decide (x < lo ∨ hi < x) = true from by simp_all [Int32.not_le, Int32.not_lt]]; rfl) | (rw [show decide (x < lo ∨ hi < x) = false from by simp_all [Int32.not_le, Int32.not_lt]]; rfl)) rfl
  · refine j_iload_n d_Main_outOf_5 rfl ?_
    refine j_iload_n d_Main_outOf_6 rfl ?_
    refine j_icmp_le (tgt := 14) d_Main_outOf_7 (by decide) (fun e1 => ?_) (fun e1 => ?_)
    · refine j_iconst (v := nI 0) d_Main_outOf_14 rfl ?_
      subst hres
      exact j_reti d_Main_outOf_15 (by first | (rw [show decide (x < lo ∨ hi < x) = true from by simp_all [Int32.not_le, Int32.not_lt]]; rfl) | (rw [show decide (x < lo ∨ hi < x) = false from by simp_all [Int32.not_le, Int32.not_lt]]; rfl)) rfl
    · refine j_iconst (v := nI 1) d_Main_outOf_10 rfl ?_
      refine j_goto (tgt := 15) d_Main_outOf_11 (by decide) ?_
      subst hres
      exact j_reti d_Main_outOf_15 (by first | (rw [show decide (x < lo ∨ hi < x) = true from by simp_all [Int32.not_le, Int32.not_lt]]; rfl) | (rw [show decide (x < lo ∨ hi < x) = false from by simp_all [Int32.not_le, Int32.not_lt]]; rfl)) rfl

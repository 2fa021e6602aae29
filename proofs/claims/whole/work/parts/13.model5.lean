theorem jsl_F {s : Int32} (h : jsl s = false) : ¬ (0 ≤ s ∧ s < 6) := by simpa [jsl] using h
theorem jho_y {P : jP} {k : Nat} (h : k < 6) (h0 : 0 < (P k).1) : jho P (nI k) = true := by rw [jho_N h]; exact decide_eq_true h0
theorem jmb_y {m i : Nat} (hm : m ≤ 12) (hi : i < m) : jmb m (nI i) = true := by
  simp only [jmb, decide_eq_true_eq]
  exact ⟨nI_pos' (by omega), (nI_ltI (by omega) (by omega)).mpr hi⟩
theorem jse_y {m v : Nat} (hm : m ≤ 12) (hv : v < 2 ^ m) : jse m (nI v) = true := by
  have h0 : 2 ^ m ≤ 2 ^ 12 := Nat.pow_le_pow_right (by omega) hm
  simp only [jse, decide_eq_true_eq]
  exact ⟨nI_pos' (by omega), (nI_ltI (by omega) (by omega)).mpr hv⟩
theorem jin_N {k : Nat} {lo hi : Int} (hk : k < 2 ^ 31) : jin (nI k) lo hi = decide (lo ≤ (k : Int) ∧ (k : Int) ≤ hi) := by rw [jin, nI_toInt hk]
theorem jin_y {k : Nat} {lo hi : Int} (hk : k < 2 ^ 31) (h1 : lo ≤ (k : Int)) (h2 : (k : Int) ≤ hi) : jin (nI k) lo hi = true := by rw [jin_N hk]; exact decide_eq_true ⟨h1, h2⟩
theorem jin_k {x : Int32} {lo hi : Int} (h0 : 0 ≤ lo) (h : jin x lo hi = true) : ∃ k : Nat, lo ≤ (k : Int) ∧ (k : Int) ≤ hi ∧ k < 2 ^ 31 ∧ x = nI k := by
  simp only [jin, decide_eq_true_eq] at h
  have hx : ¬ x < 0 := by
    rw [Int32.lt_iff_toInt_lt]
    exact Int.not_lt.mpr (Int.le_trans h0 h.1)
  obtain ⟨k, hk, rfl⟩ := nI_of hx
  rw [nI_toInt hk] at h
  exact ⟨k, h.1, h.2, hk, rfl⟩
def tput (T : jT) (i j v : Nat) : jT := (T.1, fun r => if r = i then (if v = 1 then T.2 i ||| 2 ^ j else T.2 i &&& (4095 ^^^ 2 ^ j)) else T.2 r)
def trset (T : jT) (i v : Nat) : jT := (T.1, fun r => if r = i then v else T.2 r)
theorem ni_clr {r j : Nat} (hr : r < 4096) (hj : j < 12) : nI r &&& (nI (2 ^ j) ^^^ (-1)) = nI (r &&& (4095 ^^^ 2 ^ j)) := by
  apply Int32.toBitVec_inj.1
  show BitVec.ofNat 32 r &&& (BitVec.ofNat 32 (2 ^ j) ^^^ BitVec.allOnes 32) = BitVec.ofNat 32 (r &&& (4095 ^^^ 2 ^ j))
  apply BitVec.eq_of_getLsbD_eq
  intro i hi
  simp only [BitVec.getLsbD_and, BitVec.getLsbD_xor, BitVec.getLsbD_ofNat, BitVec.getLsbD_allOnes, hi, decide_true, Bool.true_and, Nat.testBit_xor, Nat.testBit_and, Nat.testBit_two_pow_sub_one, show (4095 : Nat) = 2 ^ 12 - 1 from rfl]
  by_cases h : i < 12
  · simp [h]
  · have : r.testBit i = false := Nat.testBit_lt_two_pow (Nat.lt_of_lt_of_le hr (show 2 ^ 12 ≤ 2 ^ i from Nat.pow_le_pow_right (by omega) (by omega)))
    simp [this]
def jbit (T : jT) (i j : Nat) : Nat := if (T.2 i).testBit j then 1 else 0
def jokAt (P : jP) (s i j : Int32) : Bool := jho P s && jmb (P s.toNatClampNeg).1 i && jmb (P s.toNatClampNeg).1 j
theorem c_at_bad {n : jN} {h : jH} {P : jP} {slot i j : Int32} (hw : ∀ q, tw (P q)) (hb : jokAt P slot i j = false) : jC n 2 jy_Model_at jc_Model_at 4 (some .int) [.ref 135, .int slot, .int i, .int j] (jM h P) (some (.int (-1))) (jM h P) := by
  refine jC_of jm_Model_at (L := [some (.ref 135), some (.int slot), some (.int i), some (.int j)]) (Nat.le_of_ble_eq_true rfl) rfl trivial ?_
  generalize hres : (((some (.int (-1))), jM h P) : Option Value × jH) = res
  refine j_aload_n d_Model_at_0 rfl ?_
  refine j_iload_n d_Model_at_1 rfl ?_
  refine j_callVs (As := [.int slot]) (st := []) (c_holds hw) d_Model_at_2 (by decide) jm_Model_holds jk_Model_117 ji_Model_holds js_Model_holds rfl (by decide) rfl rfl (Nat.le_of_ble_eq_true rfl) rfl ?_
  refine j_if_eqB (tgt := 26) d_Model_at_5 (by decide) (fun c1 => ?_) (fun c1 => ?_)
  · refine j_iconst (v := -1) d_Model_at_26 rfl ?_
    subst hres
    exact j_reti d_Model_at_27 rfl rfl
  · obtain ⟨s, hs, hs0, rfl⟩ := jho_t c1
    have hns := (hw s).1
    refine j_aload_n d_Model_at_8 rfl ?_
    refine j_iload_n d_Model_at_9 rfl ?_
    refine j_iload_n d_Model_at_10 rfl ?_
    refine j_callVs (As := [.int (nI s), .int i]) (st := []) (c_isMember (by omega)) d_Model_at_11 (by decide) jm_Model_isMember jk_Model_120 ji_Model_isMember js_Model_isMember rfl (by decide) rfl rfl (Nat.le_of_ble_eq_true rfl) rfl ?_
    refine j_if_eqB (tgt := 26) d_Model_at_14 (by decide) (fun c2 => ?_) (fun c2 => ?_)
    · refine j_iconst (v := -1) d_Model_at_26 rfl ?_
      subst hres
      exact j_reti d_Model_at_27 rfl rfl
    · refine j_aload_n d_Model_at_17 rfl ?_
      refine j_iload_n d_Model_at_18 rfl ?_
      refine j_iload_n d_Model_at_19 rfl ?_
      refine j_callVs (As := [.int (nI s), .int j]) (st := []) (c_isMember (by omega)) d_Model_at_20 (by decide) jm_Model_isMember jk_Model_120 ji_Model_isMember js_Model_isMember rfl (by decide) rfl rfl (Nat.le_of_ble_eq_true rfl) rfl ?_
      refine j_if_neB (tgt := 28) d_Model_at_23 (by decide) (fun c3 => ?_) (fun c3 => ?_)
      · exact absurd hb (by simp [jokAt, c1, c2, c3, nI_clamp (show s < 2 ^ 31 by omega)])
      · refine j_iconst (v := -1) d_Model_at_26 rfl ?_
        subst hres
        exact j_reti d_Model_at_27 rfl rfl
theorem c_at {n : jN} {h : jH} {P : jP} {s i j : Nat} (hw : ∀ q, tw (P q)) (hs : s < 6) (h0 : 0 < (P s).1) (hi : i < (P s).1) (hj : j < (P s).1) : jC n 2 jy_Model_at jc_Model_at 4 (some .int) [.ref 135, .int (nI s), .int (nI i), .int (nI j)] (jM h P) (some (.int (nI (jbit (P s) i j)))) (jM h P) := by
  have hn := (hw s).1
  refine jC_of jm_Model_at (L := [some (.ref 135), some (.int (nI s)), some (.int (nI i)), some (.int (nI j))]) (Nat.le_of_ble_eq_true rfl) rfl trivial ?_
  generalize hres : (((some (.int (nI (jbit (P s) i j)))), jM h P) : Option Value × jH) = res
  refine j_aload_n d_Model_at_0 rfl ?_
  refine j_iload_n d_Model_at_1 rfl ?_
  refine j_callVs (As := [.int (nI s)]) (st := []) (c_holds hw) d_Model_at_2 (by decide) jm_Model_holds jk_Model_117 ji_Model_holds js_Model_holds rfl (by decide) rfl rfl (Nat.le_of_ble_eq_true rfl) rfl ?_
  refine j_if_eqB_f (tgt := 26) d_Model_at_5 (by decide) (jho_y hs h0) ?_
  refine j_aload_n d_Model_at_8 rfl ?_
  refine j_iload_n d_Model_at_9 rfl ?_
  refine j_iload_n d_Model_at_10 rfl ?_
  refine j_callVs (As := [.int (nI s), .int (nI i)]) (st := []) (c_isMember (by omega)) d_Model_at_11 (by decide) jm_Model_isMember jk_Model_120 ji_Model_isMember js_Model_isMember rfl (by decide) rfl rfl (Nat.le_of_ble_eq_true rfl) rfl ?_
  refine j_if_eqB_f (tgt := 26) d_Model_at_14 (by decide) (jmb_y hn hi) ?_
  refine j_aload_n d_Model_at_17 rfl ?_
  refine j_iload_n d_Model_at_18 rfl ?_
  refine j_iload_n d_Model_at_19 rfl ?_
  refine j_callVs (As := [.int (nI s), .int (nI j)]) (st := []) (c_isMember (by omega)) d_Model_at_20 (by decide) jm_Model_isMember jk_Model_120 ji_Model_isMember js_Model_isMember rfl (by decide) rfl rfl (Nat.le_of_ble_eq_true rfl) rfl ?_
  refine j_if_neB_t (tgt := 28) d_Model_at_23 (by decide) (jmb_y hn hj) ?_
  refine j_aload_n d_Model_at_28 rfl ?_
  refine j_iload_n d_Model_at_29 rfl ?_
  refine j_iload_n d_Model_at_30 rfl ?_
  refine j_iload_n d_Model_at_31 rfl ?_
  refine j_callVs (As := [.int (nI s), .int (nI i), .int (nI j)]) (st := []) (c_leads (by omega) (by omega) (by omega) (tw_lt (hw s) _)) d_Model_at_32 (by decide) jm_Model_leads jk_Model_67 ji_Model_leads js_Model_leads rfl (by decide) rfl rfl (Nat.le_of_ble_eq_true rfl) rfl ?_
  refine j_if_eqB (tgt := 42) d_Model_at_35 (by decide) (fun c => ?_) (fun c => ?_)
  · refine j_iconst (v := nI 0) d_Model_at_42 rfl ?_
    subst hres
    exact j_reti d_Model_at_43 (by simp [jbit, c]) rfl
  · refine j_iconst (v := nI 1) d_Model_at_38 rfl ?_
    refine j_goto (tgt := 43) d_Model_at_39 (by decide) ?_
    subst hres
    exact j_reti d_Model_at_43 (by simp [jbit, c]) rfl
def jokLine (P : jP) (s w i : Int32) : Bool := jho P s && jin w 0 1 && jmb (P s.toNatClampNeg).1 i
def jline (T : jT) (w i : Nat) : Nat := if w = 0 then T.2 i else tcol T i T.1
theorem c_line_bad {n : jN} {h : jH} {P : jP} {slot w i : Int32} (hw : ∀ q, tw (P q)) (hb : jokLine P slot w i = false) : jC n 2 jy_Model_line jc_Model_line 4 (some .int) [.ref 135, .int slot, .int w, .int i] (jM h P) (some (.int (-1))) (jM h P) := by
  refine jC_of jm_Model_line (L := [some (.ref 135), some (.int slot), some (.int w), some (.int i)]) (Nat.le_of_ble_eq_true rfl) rfl trivial ?_
  generalize hres : (((some (.int (-1))), jM h P) : Option Value × jH) = res
  refine j_aload_n d_Model_line_0 rfl ?_
  refine j_iload_n d_Model_line_1 rfl ?_
  refine j_callVs (As := [.int slot]) (st := []) (c_holds hw) d_Model_line_2 (by decide) jm_Model_holds jk_Model_117 ji_Model_holds js_Model_holds rfl (by decide) rfl rfl (Nat.le_of_ble_eq_true rfl) rfl ?_
  refine j_if_eqB (tgt := 27) d_Model_line_5 (by decide) (fun c1 => ?_) (fun c1 => ?_)
  · refine j_iconst (v := -1) d_Model_line_27 rfl ?_
    subst hres
    exact j_reti d_Model_line_28 rfl rfl
  · obtain ⟨s, hs, hs0, rfl⟩ := jho_t c1
    have hns := (hw s).1
    refine j_iload_n d_Model_line_8 rfl ?_
    refine j_i2l d_Model_line_9 ?_
    refine j_lconst (v := 0) d_Model_line_10 rfl ?_
    refine j_lconst (v := 1) d_Model_line_11 rfl ?_
    refine j_callSs (As := [.long w.toInt64, .long 0, .long 1]) (st := []) (c_in (x := w) (lo := 0) (hi := 1) rfl rfl rfl) d_Model_line_12 (by decide) jm_Model_in jk_Model_107 js_Model_in rfl (Nat.le_of_ble_eq_true rfl) rfl ?_
    refine j_if_eqB (tgt := 27) d_Model_line_15 (by decide) (fun c2 => ?_) (fun c2 => ?_)
    · refine j_iconst (v := -1) d_Model_line_27 rfl ?_
      subst hres
      exact j_reti d_Model_line_28 rfl rfl
    · refine j_aload_n d_Model_line_18 rfl ?_
      refine j_iload_n d_Model_line_19 rfl ?_
      refine j_iload_n d_Model_line_20 rfl ?_
      refine j_callVs (As := [.int (nI s), .int i]) (st := []) (c_isMember (by omega)) d_Model_line_21 (by decide) jm_Model_isMember jk_Model_120 ji_Model_isMember js_Model_isMember rfl (by decide) rfl rfl (Nat.le_of_ble_eq_true rfl) rfl ?_
      refine j_if_neB (tgt := 29) d_Model_line_24 (by decide) (fun c3 => ?_) (fun c3 => ?_)
      · exact absurd hb (by simp [jokLine, c1, c2, c3, nI_clamp (show s < 2 ^ 31 by omega)])
      · refine j_iconst (v := -1) d_Model_line_27 rfl ?_
        subst hres
        exact j_reti d_Model_line_28 rfl rfl
theorem c_line {n : jN} {h : jH} {P : jP} {s w i : Nat} (hw : ∀ q, tw (P q)) (hs : s < 6) (h0 : 0 < (P s).1) (hw1 : w < 2) (hi : i < (P s).1) : jC n 2 jy_Model_line jc_Model_line 4 (some .int) [.ref 135, .int (nI s), .int (nI w), .int (nI i)] (jM h P) (some (.int (nI (jline (P s) w i)))) (jM h P) := by
  have hn := (hw s).1
  refine jC_of jm_Model_line (L := [some (.ref 135), some (.int (nI s)), some (.int (nI w)), some (.int (nI i))]) (Nat.le_of_ble_eq_true rfl) rfl trivial ?_
  generalize hres : (((some (.int (nI (jline (P s) w i)))), jM h P) : Option Value × jH) = res
  refine j_aload_n d_Model_line_0 rfl ?_
  refine j_iload_n d_Model_line_1 rfl ?_
  refine j_callVs (As := [.int (nI s)]) (st := []) (c_holds hw) d_Model_line_2 (by decide) jm_Model_holds jk_Model_117 ji_Model_holds js_Model_holds rfl (by decide) rfl rfl (Nat.le_of_ble_eq_true rfl) rfl ?_
  refine j_if_eqB_f (tgt := 27) d_Model_line_5 (by decide) (jho_y hs h0) ?_
  refine j_iload_n d_Model_line_8 rfl ?_
  refine j_i2l d_Model_line_9 ?_
  refine j_lconst (v := 0) d_Model_line_10 rfl ?_
  refine j_lconst (v := 1) d_Model_line_11 rfl ?_
  refine j_callSs (As := [.long ((nI w).toInt64), .long 0, .long 1]) (st := []) (c_in (x := (nI w)) (lo := 0) (hi := 1) rfl rfl rfl) d_Model_line_12 (by decide) jm_Model_in jk_Model_107 js_Model_in rfl (Nat.le_of_ble_eq_true rfl) rfl ?_
  refine j_if_eqB_f (tgt := 27) d_Model_line_15 (by decide) (jin_y (by omega) (by omega) (by omega)) ?_
  refine j_aload_n d_Model_line_18 rfl ?_
  refine j_iload_n d_Model_line_19 rfl ?_
  refine j_iload_n d_Model_line_20 rfl ?_
  refine j_callVs (As := [.int (nI s), .int (nI i)]) (st := []) (c_isMember (by omega)) d_Model_line_21 (by decide) jm_Model_isMember jk_Model_120 ji_Model_isMember js_Model_isMember rfl (by decide) rfl rfl (Nat.le_of_ble_eq_true rfl) rfl ?_
  refine j_if_neB_t (tgt := 29) d_Model_line_24 (by decide) (jmb_y hn hi) ?_
  refine j_iload_n d_Model_line_29 rfl ?_
  refine j_if_neN (tgt := 42) d_Model_line_30 (by decide) (by omega) (fun c => ?_) (fun c => ?_)
  · refine j_aload_n d_Model_line_42 rfl ?_
    refine j_iload_n d_Model_line_43 rfl ?_
    refine j_iload_n d_Model_line_44 rfl ?_
    refine j_callVs (As := [.int (nI s), .int (nI i)]) (st := []) (c_column (by omega) (by omega) (hw s).1 (tw_lt (hw s))) d_Model_line_45 (by decide) jm_Model_column jk_Model_79 ji_Model_column js_Model_column rfl (by decide) rfl rfl (Nat.le_of_ble_eq_true rfl) rfl ?_
    subst hres
    exact j_reti d_Model_line_48 (by simp [jline, c]) rfl
  · refine j_aload_n d_Model_line_33 rfl ?_
    refine j_iload_n d_Model_line_34 rfl ?_
    refine j_iload_n d_Model_line_35 rfl ?_
    refine j_callVs (As := [.int (nI s), .int (nI i)]) (st := []) (c_row (by omega) (by omega)) d_Model_line_36 (by decide) jm_Model_row jk_Model_71 ji_Model_row js_Model_row rfl (by decide) rfl rfl (Nat.le_of_ble_eq_true rfl) rfl ?_
    refine j_goto (tgt := 48) d_Model_line_39 (by decide) ?_
    subst hres
    exact j_reti d_Model_line_48 (by simp [jline, c]) rfl
def jokPut (P : jP) (s i j v : Int32) : Bool := jokAt P s i j && jin v 0 1
theorem c_put_bad {n : jN} {h : jH} {P : jP} {slot i j v : Int32} (hw : ∀ q, tw (P q)) (hb : jokPut P slot i j v = false) : jC n 2 jy_Model_put jc_Model_put 6 (some .int) [.ref 135, .int slot, .int i, .int j, .int v] (jM h P) (some (.int (-1))) (jM h P) := by
  refine jC_of jm_Model_put (L := [some (.ref 135), some (.int slot), some (.int i), some (.int j), some (.int v), none]) (Nat.le_of_ble_eq_true rfl) rfl trivial ?_
  generalize hres : (((some (.int (-1))), jM h P) : Option Value × jH) = res
  refine j_aload_n d_Model_put_0 rfl ?_
  refine j_iload_n d_Model_put_1 rfl ?_
  refine j_callVs (As := [.int slot]) (st := []) (c_holds hw) d_Model_put_2 (by decide) jm_Model_holds jk_Model_117 ji_Model_holds js_Model_holds rfl (by decide) rfl rfl (Nat.le_of_ble_eq_true rfl) rfl ?_
  refine j_if_eqB (tgt := 37) d_Model_put_5 (by decide) (fun c1 => ?_) (fun c1 => ?_)
  · refine j_iconst (v := -1) d_Model_put_37 rfl ?_
    subst hres
    exact j_reti d_Model_put_38 rfl rfl
  · obtain ⟨s, hs, hs0, rfl⟩ := jho_t c1
    have hns := (hw s).1
    refine j_aload_n d_Model_put_8 rfl ?_
    refine j_iload_n d_Model_put_9 rfl ?_
    refine j_iload_n d_Model_put_10 rfl ?_
    refine j_callVs (As := [.int (nI s), .int i]) (st := []) (c_isMember (by omega)) d_Model_put_11 (by decide) jm_Model_isMember jk_Model_120 ji_Model_isMember js_Model_isMember rfl (by decide) rfl rfl (Nat.le_of_ble_eq_true rfl) rfl ?_
    refine j_if_eqB (tgt := 37) d_Model_put_14 (by decide) (fun c2 => ?_) (fun c2 => ?_)
    · refine j_iconst (v := -1) d_Model_put_37 rfl ?_
      subst hres
      exact j_reti d_Model_put_38 rfl rfl
    · refine j_aload_n d_Model_put_17 rfl ?_
      refine j_iload_n d_Model_put_18 rfl ?_
      refine j_iload_n d_Model_put_19 rfl ?_
      refine j_callVs (As := [.int (nI s), .int j]) (st := []) (c_isMember (by omega)) d_Model_put_20 (by decide) jm_Model_isMember jk_Model_120 ji_Model_isMember js_Model_isMember rfl (by decide) rfl rfl (Nat.le_of_ble_eq_true rfl) rfl ?_
      refine j_if_eqB (tgt := 37) d_Model_put_23 (by decide) (fun c3 => ?_) (fun c3 => ?_)
      · refine j_iconst (v := -1) d_Model_put_37 rfl ?_
        subst hres
        exact j_reti d_Model_put_38 rfl rfl
      · refine j_iload d_Model_put_26 rfl ?_
        refine j_i2l d_Model_put_28 ?_
        refine j_lconst (v := 0) d_Model_put_29 rfl ?_
        refine j_lconst (v := 1) d_Model_put_30 rfl ?_
        refine j_callSs (As := [.long v.toInt64, .long 0, .long 1]) (st := []) (c_in (x := v) (lo := 0) (hi := 1) rfl rfl rfl) d_Model_put_31 (by decide) jm_Model_in jk_Model_107 js_Model_in rfl (Nat.le_of_ble_eq_true rfl) rfl ?_
        refine j_if_neB (tgt := 39) d_Model_put_34 (by decide) (fun c4 => ?_) (fun c4 => ?_)
        · exact absurd hb (by simp [jokPut, jokAt, c1, c2, c3, c4, nI_clamp (show s < 2 ^ 31 by omega)])
        · refine j_iconst (v := -1) d_Model_put_37 rfl ?_
          subst hres
          exact j_reti d_Model_put_38 rfl rfl
theorem c_put {n : jN} {h : jH} {ls : Nat → Nat} {lg : Nat} {P : jP} {s i j v : Nat} (hl : lg ≤ 20) (hw : ∀ q, tw (P q)) (hs : s < 6) (h0 : 0 < (P s).1) (hi : i < (P s).1) (hj : j < (P s).1) (hv : v < 2) : jC n 2 jy_Model_put jc_Model_put 6 (some .int) [.ref 135, .int (nI s), .int (nI i), .int (nI j), .int (nI v)] (jM (jL h ls lg) P) (some (.int (nI (jbit (P s) i j)))) (jM (jL h (lgS ls lg s) (lgN lg)) (jset (lgP P lg s) s (tput (P s) i j v))) := by
  have hn := (hw s).1
  refine jC_of jm_Model_put (L := [some (.ref 135), some (.int (nI s)), some (.int (nI i)), some (.int (nI j)), some (.int (nI v)), none]) (Nat.le_of_ble_eq_true rfl) rfl trivial ?_
  generalize hres : (((some (.int (nI (jbit (P s) i j)))), jM (jL h (lgS ls lg s) (lgN lg)) (jset (lgP P lg s) s (tput (P s) i j v))) : Option Value × jH) = res
  refine j_aload_n d_Model_put_0 rfl ?_
  refine j_iload_n d_Model_put_1 rfl ?_
  refine j_callVs (As := [.int (nI s)]) (st := []) (c_holds hw) d_Model_put_2 (by decide) jm_Model_holds jk_Model_117 ji_Model_holds js_Model_holds rfl (by decide) rfl rfl (Nat.le_of_ble_eq_true rfl) rfl ?_
  refine j_if_eqB_f (tgt := 37) d_Model_put_5 (by decide) (jho_y hs h0) ?_
  refine j_aload_n d_Model_put_8 rfl ?_
  refine j_iload_n d_Model_put_9 rfl ?_
  refine j_iload_n d_Model_put_10 rfl ?_
  refine j_callVs (As := [.int (nI s), .int (nI i)]) (st := []) (c_isMember (by omega)) d_Model_put_11 (by decide) jm_Model_isMember jk_Model_120 ji_Model_isMember js_Model_isMember rfl (by decide) rfl rfl (Nat.le_of_ble_eq_true rfl) rfl ?_
  refine j_if_eqB_f (tgt := 37) d_Model_put_14 (by decide) (jmb_y hn hi) ?_
  refine j_aload_n d_Model_put_17 rfl ?_
  refine j_iload_n d_Model_put_18 rfl ?_
  refine j_iload_n d_Model_put_19 rfl ?_
  refine j_callVs (As := [.int (nI s), .int (nI j)]) (st := []) (c_isMember (by omega)) d_Model_put_20 (by decide) jm_Model_isMember jk_Model_120 ji_Model_isMember js_Model_isMember rfl (by decide) rfl rfl (Nat.le_of_ble_eq_true rfl) rfl ?_
  refine j_if_eqB_f (tgt := 37) d_Model_put_23 (by decide) (jmb_y hn hj) ?_
  refine j_iload d_Model_put_26 rfl ?_
  refine j_i2l d_Model_put_28 ?_
  refine j_lconst (v := 0) d_Model_put_29 rfl ?_
  refine j_lconst (v := 1) d_Model_put_30 rfl ?_
  refine j_callSs (As := [.long ((nI v).toInt64), .long 0, .long 1]) (st := []) (c_in (x := (nI v)) (lo := 0) (hi := 1) rfl rfl rfl) d_Model_put_31 (by decide) jm_Model_in jk_Model_107 js_Model_in rfl (Nat.le_of_ble_eq_true rfl) rfl ?_
  refine j_if_neB_t (tgt := 39) d_Model_put_34 (by decide) (jin_y (by omega) (by omega) (by omega)) ?_
  refine j_aload_n d_Model_put_39 rfl ?_
  refine j_iload_n d_Model_put_40 rfl ?_
  refine j_iload_n d_Model_put_41 rfl ?_
  refine j_iload_n d_Model_put_42 rfl ?_
  refine j_callVs (As := [.int (nI s), .int (nI i), .int (nI j)]) (st := []) (c_leads (by omega) (by omega) (by omega) (tw_lt (hw s) _)) d_Model_put_43 (by decide) jm_Model_leads jk_Model_67 ji_Model_leads js_Model_leads rfl (by decide) rfl rfl (Nat.le_of_ble_eq_true rfl) rfl ?_
  refine j_if_eqB (tgt := 53) d_Model_put_46 (by decide) (fun c => ?_) (fun c => ?_)
  · refine j_iconst (v := nI 0) d_Model_put_53 rfl ?_
    refine j_top (w := nI (jbit (P s) i j)) (by simp [jbit, c]) ?_
    refine j_istore (L' := [some (.ref 135), some (.int (nI s)), some (.int (nI i)), some (.int (nI j)), some (.int (nI v)), some (.int (nI (jbit (P s) i j)))]) d_Model_put_54 (by decide) rfl rfl ?_
    refine j_aload_n d_Model_put_56 rfl ?_
    refine j_iload_n d_Model_put_57 rfl ?_
    refine j_callVn (As := [.int (nI s)]) (st := []) (c_logs hl (by omega) hw) d_Model_put_58 (by decide) jm_Model_logs jk_Model_102 ji_Model_logs js_Model_logs rfl (by decide) rfl rfl (Nat.le_of_ble_eq_true rfl) rfl ?_
    refine j_aload_n d_Model_put_61 rfl ?_
    refine j_getr (b := 136) d_Model_put_62 jf_Model_7 rfl rfl rfl (by decide) ?_
    refine j_bipush (v := nI 12) d_Model_put_65 (by decide) ?_
    refine j_iload_n d_Model_put_67 rfl ?_
    refine j_imulN d_Model_put_68 ?_
    refine j_iload_n d_Model_put_69 rfl ?_
    refine j_iaddN d_Model_put_70 ?_
    refine j_iload d_Model_put_71 rfl ?_
    refine j_iconst (v := nI 1) d_Model_put_73 rfl ?_
    refine j_icmp_neN (tgt := 90) d_Model_put_74 (by decide) (by omega) (by omega) (fun c2 => ?_) (fun c2 => ?_)
    · refine j_aload_n d_Model_put_90 rfl ?_
      refine j_iload_n d_Model_put_91 rfl ?_
      refine j_iload_n d_Model_put_92 rfl ?_
      refine j_callVs (As := [.int (nI s), .int (nI i)]) (st := [.int (nI ((12 * s) + i)), .ref 136]) (c_row (by omega) (by omega)) d_Model_put_93 (by decide) jm_Model_row jk_Model_71 ji_Model_row js_Model_row rfl (by decide) rfl rfl (Nat.le_of_ble_eq_true rfl) rfl ?_
      refine j_iconst (v := nI 1) d_Model_put_96 rfl ?_
      refine j_iload_n d_Model_put_97 rfl ?_
      refine j_shl1N d_Model_put_98 (by omega) ?_
      refine j_iconst (v := -1) d_Model_put_99 rfl ?_
      refine j_ixor d_Model_put_100 ?_
      refine j_iand d_Model_put_101 ?_
      refine j_top (w := nI ((P s).2 i &&& (4095 ^^^ 2 ^ j))) (by rw [lgP_ne hl (by omega)]; exact ni_clr ((hw s).2.1 i) (by omega)) ?_
      refine j_iastN (h' := jM (jL h (lgS ls lg s) (lgN lg)) (jset (lgP P lg s) s (((lgP P lg s) s).1, fun zz => if zz = i then (P s).2 i &&& (4095 ^^^ 2 ^ j) else ((lgP P lg s) s).2 zz))) d_Model_put_102 rfl (by omega) (by decide) (jM_set_row (by omega)) ?_
      refine j_iload d_Model_put_103 rfl ?_
      subst hres
      exact j_reti d_Model_put_105 rfl (jM_P (fun z => by simp only [jset, tput, c2, lgP_ne (P := P) (s := s) hl (Or.inl hs)]; rfl))
    · refine j_aload_n d_Model_put_77 rfl ?_
      refine j_iload_n d_Model_put_78 rfl ?_
      refine j_iload_n d_Model_put_79 rfl ?_
      refine j_callVs (As := [.int (nI s), .int (nI i)]) (st := [.int (nI ((12 * s) + i)), .ref 136]) (c_row (by omega) (by omega)) d_Model_put_80 (by decide) jm_Model_row jk_Model_71 ji_Model_row js_Model_row rfl (by decide) rfl rfl (Nat.le_of_ble_eq_true rfl) rfl ?_
      refine j_iconst (v := nI 1) d_Model_put_83 rfl ?_
      refine j_iload_n d_Model_put_84 rfl ?_
      refine j_shl1N d_Model_put_85 (by omega) ?_
      refine j_iorN d_Model_put_86 ?_
      refine j_top (w := nI ((P s).2 i ||| 2 ^ j)) (by rw [lgP_ne hl (by omega)]) ?_
      refine j_goto (tgt := 102) d_Model_put_87 (by decide) ?_
      refine j_iastN (h' := jM (jL h (lgS ls lg s) (lgN lg)) (jset (lgP P lg s) s (((lgP P lg s) s).1, fun zz => if zz = i then (P s).2 i ||| 2 ^ j else ((lgP P lg s) s).2 zz))) d_Model_put_102 rfl (by omega) (by decide) (jM_set_row (by omega)) ?_
      refine j_iload d_Model_put_103 rfl ?_
      subst hres
      exact j_reti d_Model_put_105 rfl (jM_P (fun z => by simp only [jset, tput, c2, lgP_ne (P := P) (s := s) hl (Or.inl hs)]; rfl))
  · refine j_iconst (v := nI 1) d_Model_put_49 rfl ?_
    refine j_goto (tgt := 54) d_Model_put_50 (by decide) ?_
    refine j_top (w := nI (jbit (P s) i j)) (by simp [jbit, c]) ?_
    refine j_istore (L' := [some (.ref 135), some (.int (nI s)), some (.int (nI i)), some (.int (nI j)), some (.int (nI v)), some (.int (nI (jbit (P s) i j)))]) d_Model_put_54 (by decide) rfl rfl ?_
    refine j_aload_n d_Model_put_56 rfl ?_
    refine j_iload_n d_Model_put_57 rfl ?_
    refine j_callVn (As := [.int (nI s)]) (st := []) (c_logs hl (by omega) hw) d_Model_put_58 (by decide) jm_Model_logs jk_Model_102 ji_Model_logs js_Model_logs rfl (by decide) rfl rfl (Nat.le_of_ble_eq_true rfl) rfl ?_
    refine j_aload_n d_Model_put_61 rfl ?_
    refine j_getr (b := 136) d_Model_put_62 jf_Model_7 rfl rfl rfl (by decide) ?_
    refine j_bipush (v := nI 12) d_Model_put_65 (by decide) ?_
    refine j_iload_n d_Model_put_67 rfl ?_
    refine j_imulN d_Model_put_68 ?_
    refine j_iload_n d_Model_put_69 rfl ?_
    refine j_iaddN d_Model_put_70 ?_
    refine j_iload d_Model_put_71 rfl ?_
    refine j_iconst (v := nI 1) d_Model_put_73 rfl ?_
    refine j_icmp_neN (tgt := 90) d_Model_put_74 (by decide) (by omega) (by omega) (fun c2 => ?_) (fun c2 => ?_)
    · refine j_aload_n d_Model_put_90 rfl ?_
      refine j_iload_n d_Model_put_91 rfl ?_
      refine j_iload_n d_Model_put_92 rfl ?_
      refine j_callVs (As := [.int (nI s), .int (nI i)]) (st := [.int (nI ((12 * s) + i)), .ref 136]) (c_row (by omega) (by omega)) d_Model_put_93 (by decide) jm_Model_row jk_Model_71 ji_Model_row js_Model_row rfl (by decide) rfl rfl (Nat.le_of_ble_eq_true rfl) rfl ?_
      refine j_iconst (v := nI 1) d_Model_put_96 rfl ?_
      refine j_iload_n d_Model_put_97 rfl ?_
      refine j_shl1N d_Model_put_98 (by omega) ?_
      refine j_iconst (v := -1) d_Model_put_99 rfl ?_
      refine j_ixor d_Model_put_100 ?_
      refine j_iand d_Model_put_101 ?_
      refine j_top (w := nI ((P s).2 i &&& (4095 ^^^ 2 ^ j))) (by rw [lgP_ne hl (by omega)]; exact ni_clr ((hw s).2.1 i) (by omega)) ?_
      refine j_iastN (h' := jM (jL h (lgS ls lg s) (lgN lg)) (jset (lgP P lg s) s (((lgP P lg s) s).1, fun zz => if zz = i then (P s).2 i &&& (4095 ^^^ 2 ^ j) else ((lgP P lg s) s).2 zz))) d_Model_put_102 rfl (by omega) (by decide) (jM_set_row (by omega)) ?_
      refine j_iload d_Model_put_103 rfl ?_
      subst hres
      exact j_reti d_Model_put_105 rfl (jM_P (fun z => by simp only [jset, tput, c2, lgP_ne (P := P) (s := s) hl (Or.inl hs)]; rfl))
    · refine j_aload_n d_Model_put_77 rfl ?_
      refine j_iload_n d_Model_put_78 rfl ?_
      refine j_iload_n d_Model_put_79 rfl ?_
      refine j_callVs (As := [.int (nI s), .int (nI i)]) (st := [.int (nI ((12 * s) + i)), .ref 136]) (c_row (by omega) (by omega)) d_Model_put_80 (by decide) jm_Model_row jk_Model_71 ji_Model_row js_Model_row rfl (by decide) rfl rfl (Nat.le_of_ble_eq_true rfl) rfl ?_
      refine j_iconst (v := nI 1) d_Model_put_83 rfl ?_
      refine j_iload_n d_Model_put_84 rfl ?_
      refine j_shl1N d_Model_put_85 (by omega) ?_
      refine j_iorN d_Model_put_86 ?_
      refine j_top (w := nI ((P s).2 i ||| 2 ^ j)) (by rw [lgP_ne hl (by omega)]) ?_
      refine j_goto (tgt := 102) d_Model_put_87 (by decide) ?_
      refine j_iastN (h' := jM (jL h (lgS ls lg s) (lgN lg)) (jset (lgP P lg s) s (((lgP P lg s) s).1, fun zz => if zz = i then (P s).2 i ||| 2 ^ j else ((lgP P lg s) s).2 zz))) d_Model_put_102 rfl (by omega) (by decide) (jM_set_row (by omega)) ?_
      refine j_iload d_Model_put_103 rfl ?_
      subst hres
      exact j_reti d_Model_put_105 rfl (jM_P (fun z => by simp only [jset, tput, c2, lgP_ne (P := P) (s := s) hl (Or.inl hs)]; rfl))

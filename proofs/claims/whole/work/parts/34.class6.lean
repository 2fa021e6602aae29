theorem jsl_out (s : Int32) : decide (s < nI 0 ∨ nI 5 < s) = !(jsl s) := by
  have h : (s < nI 0 ∨ nI 5 < s) ↔ ¬ (0 ≤ s ∧ s < 6) := by
    rw [show nI 0 = 0 from rfl, show nI 5 = 5 from rfl]
    simp only [Int32.lt_iff_toInt_lt, Int32.le_iff_toInt_le]
    rw [show (0 : Int32).toInt = 0 from rfl, show (5 : Int32).toInt = 5 from rfl, show (6 : Int32).toInt = 6 from rfl]
    omega
  rw [decide_eq_decide.mpr h, decide_not]
  rfl
theorem js4_out (s : Int32) : decide (s < nI 0 ∨ nI 3 < s) = !(js4 s) := by
  have h : (s < nI 0 ∨ nI 3 < s) ↔ ¬ (0 ≤ s ∧ s < 4) := by
    rw [show nI 0 = 0 from rfl, show nI 3 = 3 from rfl]
    simp only [Int32.lt_iff_toInt_lt, Int32.le_iff_toInt_le]
    rw [show (0 : Int32).toInt = 0 from rfl, show (3 : Int32).toInt = 3 from rfl, show (4 : Int32).toInt = 4 from rfl]
    omega
  rw [decide_eq_decide.mpr h, decide_not]
  rfl
theorem jin_out {x a b : Int32} {lo hi : Int} (ha : a.toInt = lo) (hb : b.toInt = hi) : decide (x < a ∨ b < x) = !(jin x lo hi) := by
  have h : (x < a ∨ b < x) ↔ ¬ (lo ≤ x.toInt ∧ x.toInt ≤ hi) := by
    simp only [Int32.lt_iff_toInt_lt]
    rw [ha, hb]
    omega
  rw [decide_eq_decide.mpr h, decide_not]
  rfl
theorem jmb_out {m : Nat} {x : Int32} (hm : 0 < m) (hm2 : m ≤ 12) : decide (x < nI 0 ∨ (nI m - nI 1) < x) = !(jmb m x) := by
  have h : (x < nI 0 ∨ (nI m - nI 1) < x) ↔ ¬ (0 ≤ x ∧ x < nI m) := by
    rw [show nI 0 = 0 from rfl]
    simp only [Int32.lt_iff_toInt_lt, Int32.le_iff_toInt_le]
    rw [nI_s1 (by omega), nI_toInt (by omega), show (0 : Int32).toInt = 0 from rfl]
    omega
  rw [decide_eq_decide.mpr h, decide_not]
  rfl
theorem x_noSlot {n : jN} {h : jH} {s : Int32} : jC n 1 jy_Main_noSlot jc_Main_noSlot 1 (some .boolean) [.int s] h (some (.int (jbo (!(jsl s))))) h := by
  refine jC_of jm_Main_noSlot (L := [some (.int s)]) (Nat.le_of_ble_eq_true rfl) rfl (jbo01 _) ?_
  generalize hres : (((some (.int (jbo (!(jsl s))))), h) : Option Value × jH) = res
  refine j_iload_n d_Main_noSlot_0 rfl ?_
  refine j_iconst (v := nI 0) d_Main_noSlot_1 rfl ?_
  refine j_iconst (v := nI 5) d_Main_noSlot_2 rfl ?_
  refine j_callSs (As := [.int s, .int (nI 0), .int (nI 5)]) (st := []) x_outOf d_Main_noSlot_3 (by decide) jm_Main_outOf jk_Main_69 js_Main_outOf rfl (Nat.le_of_ble_eq_true rfl) rfl ?_
  subst hres
  exact j_reti d_Main_noSlot_6 (by rw [jsl_out]) rfl
theorem x_noSheet {n : jN} {h : jH} {s : Int32} : jC n 1 jy_Main_noSheet jc_Main_noSheet 1 (some .boolean) [.int s] h (some (.int (jbo (!(js4 s))))) h := by
  refine jC_of jm_Main_noSheet (L := [some (.int s)]) (Nat.le_of_ble_eq_true rfl) rfl (jbo01 _) ?_
  generalize hres : (((some (.int (jbo (!(js4 s))))), h) : Option Value × jH) = res
  refine j_iload_n d_Main_noSheet_0 rfl ?_
  refine j_iconst (v := nI 0) d_Main_noSheet_1 rfl ?_
  refine j_iconst (v := nI 3) d_Main_noSheet_2 rfl ?_
  refine j_callSs (As := [.int s, .int (nI 0), .int (nI 3)]) (st := []) x_outOf d_Main_noSheet_3 (by decide) jm_Main_outOf jk_Main_69 js_Main_outOf rfl (Nat.le_of_ble_eq_true rfl) rfl ?_
  subst hres
  exact j_reti d_Main_noSheet_6 (by rw [js4_out]) rfl
theorem x_noSize {n : jN} {h : jH} {s : Int32} : jC n 1 jy_Main_noSize jc_Main_noSize 1 (some .boolean) [.int s] h (some (.int (jbo (!(jin s 1 12))))) h := by
  refine jC_of jm_Main_noSize (L := [some (.int s)]) (Nat.le_of_ble_eq_true rfl) rfl (jbo01 _) ?_
  generalize hres : (((some (.int (jbo (!(jin s 1 12))))), h) : Option Value × jH) = res
  refine j_iload_n d_Main_noSize_0 rfl ?_
  refine j_iconst (v := nI 1) d_Main_noSize_1 rfl ?_
  refine j_bipush (v := nI 12) d_Main_noSize_2 (by decide) ?_
  refine j_callSs (As := [.int s, .int (nI 1), .int (nI 12)]) (st := []) x_outOf d_Main_noSize_4 (by decide) jm_Main_outOf jk_Main_69 js_Main_outOf rfl (Nat.le_of_ble_eq_true rfl) rfl ?_
  subst hres
  exact j_reti d_Main_noSize_7 (by rw [jin_out (lo := 1) (hi := 12) rfl rfl]) rfl
def slo (h : jH) (P : jP) : Prop := ∀ s, s < 6 → rep h (115 + 2 * s) (P s)
theorem x_noTable {n : jN} {h : jH} {P : jP} {s : Int32} (hw : ∀ q, tw (P q)) (hP : slo h P) : jC n 2 jy_Main_noTable jc_Main_noTable 2 (some .boolean) [.ref 0, .int s] h (some (.int (jbo (!(jho P s))))) h := by
  refine jC_of jm_Main_noTable (L := [some (.ref 0), some (.int s)]) (Nat.le_of_ble_eq_true rfl) rfl (jbo01 _) ?_
  generalize hres : (((some (.int (jbo (!(jho P s))))), h) : Option Value × jH) = res
  refine j_iload_n d_Main_noTable_0 rfl ?_
  refine j_callSs (As := [.int s]) (st := []) x_noSlot d_Main_noTable_1 (by decide) jm_Main_noSlot jk_Main_62 js_Main_noSlot rfl (Nat.le_of_ble_eq_true rfl) rfl ?_
  refine j_if_neB (tgt := 19) d_Main_noTable_4 (by decide) (fun c1 => ?_) (fun c1 => ?_)
  · refine j_iconst (v := nI 1) d_Main_noTable_19 rfl ?_
    refine j_goto (tgt := 24) d_Main_noTable_20 (by decide) ?_
    subst hres
    exact j_reti d_Main_noTable_24 (by rw [show jho P s = false from by simp_all [jho]]; rfl) rfl
  · obtain ⟨k, hk, rfl⟩ := jsl_t (s := s) (by simpa using c1)
    have hwk := (hw k).1
    refine j_aload_n d_Main_noTable_7 rfl ?_
    refine j_getr (b := 1) d_Main_noTable_8 jf_Main_11 rfl rfl rfl (by decide) ?_
    refine j_iload_n d_Main_noTable_11 rfl ?_
    refine j_aaldN (b := 115 + 2 * k) d_Main_noTable_12 rfl (by decide) (by omega) (by decide) (jrf_slot _ (by omega)) (by omega) ?_
    refine j_getv (v := nI ((P k).1)) d_Main_noTable_13 jf_Main_106 (isT_slot k (by omega)).1 rfl (hP k (by omega)).1 ?_
    refine j_if_neN (tgt := 23) d_Main_noTable_16 (by decide) (by omega) (fun c2 => ?_) (fun c2 => ?_)
    · refine j_iconst (v := nI 0) d_Main_noTable_23 rfl ?_
      subst hres
      exact j_reti d_Main_noTable_24 (by first | (rw [show jho P (nI k) = true from by rw [jho_N hk]; exact decide_eq_true (by omega)]; rfl) | (rw [show jho P (nI k) = false from by rw [jho_N hk]; exact decide_eq_false (by omega)]; rfl)) rfl
    · refine j_iconst (v := nI 1) d_Main_noTable_19 rfl ?_
      refine j_goto (tgt := 24) d_Main_noTable_20 (by decide) ?_
      subst hres
      exact j_reti d_Main_noTable_24 (by first | (rw [show jho P (nI k) = true from by rw [jho_N hk]; exact decide_eq_true (by omega)]; rfl) | (rw [show jho P (nI k) = false from by rw [jho_N hk]; exact decide_eq_false (by omega)]; rfl)) rfl
theorem x_noMember {n : jN} {h : jH} {P : jP} {s i : Int32} (hw : ∀ q, tw (P q)) (hP : slo h P) : jC n 3 jy_Main_noMember jc_Main_noMember 3 (some .boolean) [.ref 0, .int s, .int i] h (some (.int (jbo (!(jokMem P s i))))) h := by
  refine jC_of jm_Main_noMember (L := [some (.ref 0), some (.int s), some (.int i)]) (Nat.le_of_ble_eq_true rfl) rfl (jbo01 _) ?_
  generalize hres : (((some (.int (jbo (!(jokMem P s i))))), h) : Option Value × jH) = res
  refine j_aload_n d_Main_noMember_0 rfl ?_
  refine j_iload_n d_Main_noMember_1 rfl ?_
  refine j_callVs (As := [.int s]) (st := []) (x_noTable hw hP) d_Main_noMember_2 (by decide) jm_Main_noTable jk_Main_103 ji_Main_noTable js_Main_noTable rfl (by decide) rfl rfl (Nat.le_of_ble_eq_true rfl) rfl ?_
  refine j_if_neB (tgt := 27) d_Main_noMember_5 (by decide) (fun c1 => ?_) (fun c1 => ?_)
  · refine j_iconst (v := nI 1) d_Main_noMember_27 rfl ?_
    refine j_goto (tgt := 32) d_Main_noMember_28 (by decide) ?_
    subst hres
    exact j_reti d_Main_noMember_32 (by rw [show jokMem P s i = false from by simp_all [jokMem]]; rfl) rfl
  · obtain ⟨k, hk, hk0, rfl⟩ := jho_t (P := P) (s := s) (by simpa using c1)
    have hwk := (hw k).1
    have hck : (nI k).toNatClampNeg = k := nI_clamp (by omega)
    have hmb := jmb_out (x := i) hk0 hwk
    refine j_iload_n d_Main_noMember_8 rfl ?_
    refine j_iconst (v := nI 0) d_Main_noMember_9 rfl ?_
    refine j_aload_n d_Main_noMember_10 rfl ?_
    refine j_getr (b := 1) d_Main_noMember_11 jf_Main_11 rfl rfl rfl (by decide) ?_
    refine j_iload_n d_Main_noMember_14 rfl ?_
    refine j_aaldN (b := 115 + 2 * k) d_Main_noMember_15 rfl (by decide) (by omega) (by decide) (jrf_slot _ (by omega)) (by omega) ?_
    refine j_getv (v := nI ((P k).1)) d_Main_noMember_16 jf_Main_106 (isT_slot k (by omega)).1 rfl (hP k (by omega)).1 ?_
    refine j_iconst (v := nI 1) d_Main_noMember_19 rfl ?_
    refine j_isub d_Main_noMember_20 ?_
    refine j_callSs (As := [.int i, .int (nI 0), .int ((nI ((P k).1)) - (nI 1))]) (st := []) x_outOf d_Main_noMember_21 (by decide) jm_Main_outOf jk_Main_69 js_Main_outOf rfl (Nat.le_of_ble_eq_true rfl) rfl ?_
    refine j_if_eqB (tgt := 31) d_Main_noMember_24 (by decide) (fun c2 => ?_) (fun c2 => ?_)
    · refine j_iconst (v := nI 0) d_Main_noMember_31 rfl ?_
      subst hres
      exact j_reti d_Main_noMember_32 (by first | (rw [show jokMem P (nI k) i = true from by simp_all [jokMem]]; rfl) | (rw [show jokMem P (nI k) i = false from by simp_all [jokMem]]; rfl)) rfl
    · refine j_iconst (v := nI 1) d_Main_noMember_27 rfl ?_
      refine j_goto (tgt := 32) d_Main_noMember_28 (by decide) ?_
      subst hres
      exact j_reti d_Main_noMember_32 (by first | (rw [show jokMem P (nI k) i = true from by simp_all [jokMem]]; rfl) | (rw [show jokMem P (nI k) i = false from by simp_all [jokMem]]; rfl)) rfl

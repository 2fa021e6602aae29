/-- only scratch cells differ -/
def sfr (X h : jH) : Prop := ∀ a, (a < 46 ∨ (75 ≤ a ∧ a ≠ 113 ∧ a ≠ 114)) → X a = h a
theorem sfr_slo {X h : jH} {P : jP} (hf : sfr X h) (hP : slo h P) : slo X P := fun s hs => rep_of (hf _ (by omega)) (hf _ (by omega)) (hP s hs)
theorem x_holdX {n : jN} {h X : jH} {P : jP} {s nx sz : Nat} {M : jT} (hw : ∀ q, tw (P q)) (hP : slo h P) (hnx : h 3 1 = nI nx) (hn : nx < 20) (hsz : h 3 0 = nI sz) (hs1 : sz ≤ 20) (hf : sfr X h) (hs : s < 6) (hr : rep X 113 M) (hM : tw M) : jC n 2 jy_Main_hold jc_Main_hold 2 (some .int) [.ref 0, .int (nI s)] X (some (.int (nI M.1))) (holdH X s nx sz (P s) M) :=
  x_hold hw (sfr_slo hf hP) ((congrFun (hf 3 (by omega)) 1).trans hnx) hn ((congrFun (hf 3 (by omega)) 0).trans hsz) hs1 hs hr hM
theorem sT_row {h : jH} {t i x : Nat} {T : jT} (hi : i < T.1) : jup2 (sT h t T) (t + 1) i (nI x) = sT h t (trset T i x) := by
  rw [sT, pT_sr, sT]
  refine pT_cg rfl (fun k => ?_)
  by_cases e2 : k < T.1
  · rw [if_pos (show k < (trset T i x).1 from e2)]
    show (if k = i then nI x else if k < T.1 then nI (T.2 k) else h (t + 1) k) = nI (if k = i then x else T.2 k)
    by_cases e : k = i
    · rw [if_pos e, if_pos e]
    · rw [if_neg e, if_neg e, if_pos e2]
  · rw [if_neg (show ¬ k < (trset T i x).1 from e2)]
    show (if k = i then nI x else if k < T.1 then nI (T.2 k) else h (t + 1) k) = h (t + 1) k
    rw [if_neg (by omega), if_neg e2]
theorem tw_rset {T : jT} {i v : Nat} (hT : tw T) (hi : i < T.1) (hv : v < 4096) : tw (trset T i v) := by
  refine ⟨hT.1, fun k => ?_, fun k hk => ?_⟩
  · simp only [trset]
    split
    · exact hv
    · exact hT.2.1 k
  · have hk : T.1 ≤ k := hk
    simp only [trset]
    rw [if_neg (by omega)]
    exact hT.2.2 k hk
theorem sl_n {s : Nat} (hs : s < 6) : (!(jsl (nI s))) = false := by rw [jsl_N hs]; rfl
theorem s4_n {s : Nat} (hs : s < 4) : (!(js4 (nI s))) = false := by rw [js4_N hs]; rfl
theorem ho_n {P : jP} {s : Nat} (hs : s < 6) (h0 : 0 < (P s).1) : (!(jho P (nI s))) = false := by rw [jho_y hs h0]; rfl
theorem km_n {P : jP} {s i : Nat} (hs : s < 6) (hn : (P s).1 ≤ 12) (hi : i < (P s).1) : (!(jokMem P (nI s) (nI i))) = false := by
  rw [jokMem, jho_y hs (by omega), nI_clamp (by omega), jmb_y hn hi]
  rfl
theorem oo_n {w lo hi : Nat} (h1 : lo ≤ w) (h2 : w ≤ hi) (h3 : hi < 2 ^ 31) : decide (nI w < nI lo ∨ nI hi < nI w) = false := by
  refine decide_eq_false (fun h => ?_)
  rw [nI_ltI (by omega) (by omega), nI_ltI (by omega) (by omega)] at h
  omega
theorem oo_jin {w : Int32} {lo hi : Nat} (h1 : lo < 2 ^ 31) (h2 : hi < 2 ^ 31) : decide (w < nI lo ∨ nI hi < w) = !(jin w lo hi) := jin_out (nI_toInt h1) (nI_toInt h2)
theorem in_n {w : Nat} {lo hi : Int} (hk : w < 2 ^ 31) (h1 : lo ≤ (w : Int)) (h2 : (w : Int) ≤ hi) : (!(jin (nI w) lo hi)) = false := by rw [jin_y hk h1 h2]; rfl
theorem se_n {m v : Nat} (hm : m ≤ 12) (hv : v < 2 ^ m) : (!(jse m (nI v))) = false := by rw [jse_y hm hv]; rfl
theorem jbo_bit (b : Bool) : jbo b = nI (if b = true then 1 else 0) := by cases b <;> rfl
theorem x_make_bad {n : jN} {h : jH} {s m w : Int32} (hb : jokMake s m w = false) : jC n 3 jy_Main_make jc_Main_make 4 (some .int) [.ref 0, .int s, .int m, .int w] h (some (.int (-1))) h := by
  refine jC_of jm_Main_make (L := [some (.ref 0), some (.int s), some (.int m), some (.int w)]) (Nat.le_of_ble_eq_true rfl) rfl trivial ?_
  generalize hres : (((some (.int (-1))), h) : Option Value × jH) = res
  refine j_iload_n d_Main_make_0 rfl ?_
  refine j_callSs (As := [.int s]) (st := []) x_noSlot d_Main_make_1 (by decide) jm_Main_noSlot jk_Main_62 js_Main_noSlot rfl (Nat.le_of_ble_eq_true rfl) rfl ?_
  refine j_if_neB (tgt := 33) d_Main_make_4 (by decide) (fun c1 => ?_) (fun c1 => ?_)
  · refine j_iconst (v := -1) d_Main_make_33 rfl ?_
    subst hres
    exact j_reti d_Main_make_34 rfl rfl
  · refine j_iload_n d_Main_make_7 rfl ?_
    refine j_callSs (As := [.int m]) (st := []) x_noSize d_Main_make_8 (by decide) jm_Main_noSize jk_Main_66 js_Main_noSize rfl (Nat.le_of_ble_eq_true rfl) rfl ?_
    refine j_if_neB (tgt := 33) d_Main_make_11 (by decide) (fun c2 => ?_) (fun c2 => ?_)
    · refine j_iconst (v := -1) d_Main_make_33 rfl ?_
      subst hres
      exact j_reti d_Main_make_34 rfl rfl
    · refine j_iload_n d_Main_make_14 rfl ?_
      refine j_iconst (v := nI 0) d_Main_make_15 rfl ?_
      refine j_iconst (v := nI 4) d_Main_make_16 rfl ?_
      refine j_callSs (As := [.int w, .int (nI 0), .int (nI 4)]) (st := []) x_outOf d_Main_make_17 (by decide) jm_Main_outOf jk_Main_69 js_Main_outOf rfl (Nat.le_of_ble_eq_true rfl) rfl ?_
      refine j_if_neB (tgt := 33) d_Main_make_20 (by decide) (fun c3 => ?_) (fun c3 => ?_)
      · refine j_iconst (v := -1) d_Main_make_33 rfl ?_
        subst hres
        exact j_reti d_Main_make_34 rfl rfl
      · rw [oo_jin (by omega) (by omega)] at c3
        obtain ⟨w0, hw0, hw1, hw2, rfl⟩ := jin_k (x := w) (lo := ((0 : Nat) : Int)) (hi := ((4 : Nat) : Int)) (by omega) (by simpa using c3)
        obtain ⟨m0, hm0, hm1, hm2, rfl⟩ := jin_k (x := m) (lo := 1) (hi := 12) (by omega) (by simpa using c2)
        refine j_iload_n d_Main_make_23 rfl ?_
        refine j_iconst (v := nI 4) d_Main_make_24 rfl ?_
        refine j_icmp_neN (tgt := 35) d_Main_make_25 (by decide) (by omega) (by omega) (fun c4 => ?_) (fun c4 => ?_)
        · have e1 : (nI w0 == 4) = false := by rw [beq_eq_false_iff_ne]; exact fun z => c4 ((nI_eq (b := 4) hw2 (by omega)).mp z)
          exact absurd hb (by simp_all [jokMake])
        · refine j_iload_n d_Main_make_28 rfl ?_
          refine j_iconst (v := nI 1) d_Main_make_29 rfl ?_
          refine j_icmp_neN (tgt := 35) d_Main_make_30 (by decide) (by omega) (by omega) (fun c5 => ?_) (fun c5 => ?_)
          · have e1 : (nI m0 == 1) = false := by rw [beq_eq_false_iff_ne]; exact fun z => c5 ((nI_eq (b := 1) hm2 (by omega)).mp z)
            exact absurd hb (by simp_all [jokMake])
          · refine j_iconst (v := -1) d_Main_make_33 rfl ?_
            subst hres
            exact j_reti d_Main_make_34 rfl rfl
theorem x_make {n : jN} {h : jH} {P : jP} (hw : ∀ q, tw (P q)) (hP : slo h P) {nx sz : Nat} (hnx : h 3 1 = nI nx) (hn : nx < 20) (hsz : h 3 0 = nI sz) (hs1 : sz ≤ 20) {s m w : Nat} (hs : s < 6) (hm0 : 0 < m) (hm : m ≤ 12) (hw4 : w ≤ 4) (h41 : ¬ (w = 4 ∧ m = 1)) : jC n 3 jy_Main_make jc_Main_make 4 (some .int) [.ref 0, .int (nI s), .int (nI m), .int (nI w)] h (some (.int (nI m))) (holdH (sT h 113 (tmk m w)) s nx sz (P s) (tmk m w)) := by
  refine jC_of jm_Main_make (L := [some (.ref 0), some (.int (nI s)), some (.int (nI m)), some (.int (nI w))]) (Nat.le_of_ble_eq_true rfl) rfl trivial ?_
  generalize hres : (((some (.int (nI m))), holdH (sT h 113 (tmk m w)) s nx sz (P s) (tmk m w)) : Option Value × jH) = res
  refine j_iload_n d_Main_make_0 rfl ?_
  refine j_callSs (As := [.int (nI s)]) (st := []) x_noSlot d_Main_make_1 (by decide) jm_Main_noSlot jk_Main_62 js_Main_noSlot rfl (Nat.le_of_ble_eq_true rfl) rfl ?_
  refine j_if_neB_f (tgt := 33) d_Main_make_4 (by decide) (sl_n hs) ?_
  refine j_iload_n d_Main_make_7 rfl ?_
  refine j_callSs (As := [.int (nI m)]) (st := []) x_noSize d_Main_make_8 (by decide) jm_Main_noSize jk_Main_66 js_Main_noSize rfl (Nat.le_of_ble_eq_true rfl) rfl ?_
  refine j_if_neB_f (tgt := 33) d_Main_make_11 (by decide) (in_n (by omega) (by omega) (by omega)) ?_
  refine j_iload_n d_Main_make_14 rfl ?_
  refine j_iconst (v := nI 0) d_Main_make_15 rfl ?_
  refine j_iconst (v := nI 4) d_Main_make_16 rfl ?_
  refine j_callSs (As := [.int (nI w), .int (nI 0), .int (nI 4)]) (st := []) x_outOf d_Main_make_17 (by decide) jm_Main_outOf jk_Main_69 js_Main_outOf rfl (Nat.le_of_ble_eq_true rfl) rfl ?_
  refine j_if_neB_f (tgt := 33) d_Main_make_20 (by decide) (oo_n (by omega) (by omega) (by omega)) ?_
  refine j_iload_n d_Main_make_23 rfl ?_
  refine j_iconst (v := nI 4) d_Main_make_24 rfl ?_
  refine j_icmp_neN (tgt := 35) d_Main_make_25 (by decide) (by omega) (by omega) (fun c4 => ?_) (fun c4 => ?_)
  · refine j_aload_n d_Main_make_35 rfl ?_
    refine j_getr (b := 113) d_Main_make_36 jf_Main_57 rfl rfl rfl (by decide) ?_
    refine j_iload_n d_Main_make_39 rfl ?_
    refine j_iload_n d_Main_make_40 rfl ?_
    refine j_callVn (As := [.int (nI m), .int (nI w)]) (st := []) (x_becomePlain isT_108 hm0 hm hw4 h41) d_Main_make_41 (by decide) jm_Table_becomePlain jk_Main_73 ji_Table_becomePlain js_Table_becomePlain rfl (by decide) rfl rfl (Nat.le_of_ble_eq_true rfl) rfl ?_
    refine j_aload_n d_Main_make_44 rfl ?_
    refine j_iload_n d_Main_make_45 rfl ?_
    refine j_callVs (As := [.int (nI s)]) (st := []) (x_holdX hw hP hnx hn hsz hs1 (fun zz hz => ((sT_f (by omega) (by omega)).trans rfl)) (by omega) rep_sT (tw_mk hm)) d_Main_make_46 (by decide) jm_Main_hold jk_Main_77 ji_Main_hold js_Main_hold rfl (by decide) rfl rfl (Nat.le_of_ble_eq_true rfl) rfl ?_
    subst hres
    exact j_reti d_Main_make_49 rfl rfl
  · refine j_iload_n d_Main_make_28 rfl ?_
    refine j_iconst (v := nI 1) d_Main_make_29 rfl ?_
    refine j_icmp_neN_t (tgt := 35) d_Main_make_30 (by decide) (by omega) (by omega) (fun z => h41 ⟨c4, z⟩) ?_
    refine j_aload_n d_Main_make_35 rfl ?_
    refine j_getr (b := 113) d_Main_make_36 jf_Main_57 rfl rfl rfl (by decide) ?_
    refine j_iload_n d_Main_make_39 rfl ?_
    refine j_iload_n d_Main_make_40 rfl ?_
    refine j_callVn (As := [.int (nI m), .int (nI w)]) (st := []) (x_becomePlain isT_108 hm0 hm hw4 h41) d_Main_make_41 (by decide) jm_Table_becomePlain jk_Main_73 ji_Table_becomePlain js_Table_becomePlain rfl (by decide) rfl rfl (Nat.le_of_ble_eq_true rfl) rfl ?_
    refine j_aload_n d_Main_make_44 rfl ?_
    refine j_iload_n d_Main_make_45 rfl ?_
    refine j_callVs (As := [.int (nI s)]) (st := []) (x_holdX hw hP hnx hn hsz hs1 (fun zz hz => ((sT_f (by omega) (by omega)).trans rfl)) (by omega) rep_sT (tw_mk hm)) d_Main_make_46 (by decide) jm_Main_hold jk_Main_77 ji_Main_hold js_Main_hold rfl (by decide) rfl rfl (Nat.le_of_ble_eq_true rfl) rfl ?_
    subst hres
    exact j_reti d_Main_make_49 rfl rfl
theorem x_at_bad {n : jN} {h : jH} {P : jP} (hw : ∀ q, tw (P q)) (hP : slo h P) {s i j : Int32} (hb : jokAt P s i j = false) : jC n 4 jy_Main_at jc_Main_at 4 (some .int) [.ref 0, .int s, .int i, .int j] h (some (.int (-1))) h := by
  refine jC_of jm_Main_at (L := [some (.ref 0), some (.int s), some (.int i), some (.int j)]) (Nat.le_of_ble_eq_true rfl) rfl trivial ?_
  generalize hres : (((some (.int (-1))), h) : Option Value × jH) = res
  refine j_aload_n d_Main_at_0 rfl ?_
  refine j_iload_n d_Main_at_1 rfl ?_
  refine j_iload_n d_Main_at_2 rfl ?_
  refine j_callVs (As := [.int s, .int i]) (st := []) (x_noMember hw hP) d_Main_at_3 (by decide) jm_Main_noMember jk_Main_81 ji_Main_noMember js_Main_noMember rfl (by decide) rfl rfl (Nat.le_of_ble_eq_true rfl) rfl ?_
  refine j_if_neB (tgt := 18) d_Main_at_6 (by decide) (fun c1 => ?_) (fun c1 => ?_)
  · refine j_iconst (v := -1) d_Main_at_18 rfl ?_
    subst hres
    exact j_reti d_Main_at_19 rfl rfl
  · refine j_aload_n d_Main_at_9 rfl ?_
    refine j_iload_n d_Main_at_10 rfl ?_
    refine j_iload_n d_Main_at_11 rfl ?_
    refine j_callVs (As := [.int s, .int j]) (st := []) (x_noMember hw hP) d_Main_at_12 (by decide) jm_Main_noMember jk_Main_81 ji_Main_noMember js_Main_noMember rfl (by decide) rfl rfl (Nat.le_of_ble_eq_true rfl) rfl ?_
    refine j_if_eqB (tgt := 20) d_Main_at_15 (by decide) (fun c2 => ?_) (fun c2 => ?_)
    · exact absurd hb (by simp_all [jokAt, jokMem])
    · refine j_iconst (v := -1) d_Main_at_18 rfl ?_
      subst hres
      exact j_reti d_Main_at_19 rfl rfl
theorem x_at {n : jN} {h : jH} {P : jP} (hw : ∀ q, tw (P q)) (hP : slo h P) {s i j : Nat} (hs : s < 6) (h0 : 0 < (P s).1) (hi : i < (P s).1) (hj : j < (P s).1) : jC n 4 jy_Main_at jc_Main_at 4 (some .int) [.ref 0, .int (nI s), .int (nI i), .int (nI j)] h (some (.int (nI (jbit (P s) i j)))) h := by
  have hn12 := (hw s).1
  refine jC_of jm_Main_at (L := [some (.ref 0), some (.int (nI s)), some (.int (nI i)), some (.int (nI j))]) (Nat.le_of_ble_eq_true rfl) rfl trivial ?_
  generalize hres : (((some (.int (nI (jbit (P s) i j)))), h) : Option Value × jH) = res
  refine j_aload_n d_Main_at_0 rfl ?_
  refine j_iload_n d_Main_at_1 rfl ?_
  refine j_iload_n d_Main_at_2 rfl ?_
  refine j_callVs (As := [.int (nI s), .int (nI i)]) (st := []) (x_noMember hw hP) d_Main_at_3 (by decide) jm_Main_noMember jk_Main_81 ji_Main_noMember js_Main_noMember rfl (by decide) rfl rfl (Nat.le_of_ble_eq_true rfl) rfl ?_
  refine j_if_neB_f (tgt := 18) d_Main_at_6 (by decide) (km_n hs hn12 hi) ?_
  refine j_aload_n d_Main_at_9 rfl ?_
  refine j_iload_n d_Main_at_10 rfl ?_
  refine j_iload_n d_Main_at_11 rfl ?_
  refine j_callVs (As := [.int (nI s), .int (nI j)]) (st := []) (x_noMember hw hP) d_Main_at_12 (by decide) jm_Main_noMember jk_Main_81 ji_Main_noMember js_Main_noMember rfl (by decide) rfl rfl (Nat.le_of_ble_eq_true rfl) rfl ?_
  refine j_if_eqB_t (tgt := 20) d_Main_at_15 (by decide) (km_n hs hn12 hj) ?_
  refine j_aload_n d_Main_at_20 rfl ?_
  refine j_getr (b := 1) d_Main_at_21 jf_Main_11 rfl rfl rfl (by decide) ?_
  refine j_iload_n d_Main_at_24 rfl ?_
  refine j_aaldN (b := 115 + 2 * s) d_Main_at_25 rfl (by decide) (by omega) (by decide) (jrf_slot _ (by omega)) (by omega) ?_
  refine j_iload_n d_Main_at_26 rfl ?_
  refine j_iload_n d_Main_at_27 rfl ?_
  refine j_callVs (As := [.int (nI i), .int (nI j)]) (st := []) (x_entry (r := ((P s)).2 i) (isT_slot s (by omega)) (by omega) (by omega) ((hP s (by omega)).2 _ (by omega)) (tw_lt (hw s) _)) d_Main_at_28 (by decide) jm_Table_entry jk_Main_89 ji_Table_entry js_Table_entry (isT_slot s (by omega)).1 (by decide) rfl rfl (Nat.le_of_ble_eq_true rfl) rfl ?_
  subst hres
  exact j_reti d_Main_at_31 (jbo_bit _) rfl
theorem x_put_bad {n : jN} {h : jH} {P : jP} (hw : ∀ q, tw (P q)) (hP : slo h P) {s i j v : Int32} (hb : jokPut P s i j v = false) : jC n 4 jy_Main_put jc_Main_put 6 (some .int) [.ref 0, .int s, .int i, .int j, .int v] h (some (.int (-1))) h := by
  refine jC_of jm_Main_put (L := [some (.ref 0), some (.int s), some (.int i), some (.int j), some (.int v), none]) (Nat.le_of_ble_eq_true rfl) rfl trivial ?_
  generalize hres : (((some (.int (-1))), h) : Option Value × jH) = res
  refine j_aload_n d_Main_put_0 rfl ?_
  refine j_iload_n d_Main_put_1 rfl ?_
  refine j_iload_n d_Main_put_2 rfl ?_
  refine j_callVs (As := [.int s, .int i]) (st := []) (x_noMember hw hP) d_Main_put_3 (by decide) jm_Main_noMember jk_Main_81 ji_Main_noMember js_Main_noMember rfl (by decide) rfl rfl (Nat.le_of_ble_eq_true rfl) rfl ?_
  refine j_if_neB (tgt := 28) d_Main_put_6 (by decide) (fun c1 => ?_) (fun c1 => ?_)
  · refine j_iconst (v := -1) d_Main_put_28 rfl ?_
    subst hres
    exact j_reti d_Main_put_29 rfl rfl
  · refine j_aload_n d_Main_put_9 rfl ?_
    refine j_iload_n d_Main_put_10 rfl ?_
    refine j_iload_n d_Main_put_11 rfl ?_
    refine j_callVs (As := [.int s, .int j]) (st := []) (x_noMember hw hP) d_Main_put_12 (by decide) jm_Main_noMember jk_Main_81 ji_Main_noMember js_Main_noMember rfl (by decide) rfl rfl (Nat.le_of_ble_eq_true rfl) rfl ?_
    refine j_if_neB (tgt := 28) d_Main_put_15 (by decide) (fun c2 => ?_) (fun c2 => ?_)
    · refine j_iconst (v := -1) d_Main_put_28 rfl ?_
      subst hres
      exact j_reti d_Main_put_29 rfl rfl
    · refine j_iload d_Main_put_18 rfl ?_
      refine j_iconst (v := nI 0) d_Main_put_20 rfl ?_
      refine j_iconst (v := nI 1) d_Main_put_21 rfl ?_
      refine j_callSs (As := [.int v, .int (nI 0), .int (nI 1)]) (st := []) x_outOf d_Main_put_22 (by decide) jm_Main_outOf jk_Main_69 js_Main_outOf rfl (Nat.le_of_ble_eq_true rfl) rfl ?_
      refine j_if_eqB (tgt := 30) d_Main_put_25 (by decide) (fun c3 => ?_) (fun c3 => ?_)
      · rw [oo_jin (by omega) (by omega)] at c3
        exact absurd hb (by simp_all [jokPut, jokAt, jokMem])
      · refine j_iconst (v := -1) d_Main_put_28 rfl ?_
        subst hres
        exact j_reti d_Main_put_29 rfl rfl
theorem x_put {n : jN} {h : jH} {P : jP} (hw : ∀ q, tw (P q)) (hP : slo h P) {nx sz : Nat} (hnx : h 3 1 = nI nx) (hn : nx < 20) (hsz : h 3 0 = nI sz) (hs1 : sz ≤ 20) {s i j : Nat} (hs : s < 6) (h0 : 0 < (P s).1) (hi : i < (P s).1) (hj : j < (P s).1) {v : Nat} (hv : v < 2) : jC n 4 jy_Main_put jc_Main_put 6 (some .int) [.ref 0, .int (nI s), .int (nI i), .int (nI j), .int (nI v)] h (some (.int (nI (jbit (P s) i j)))) (holdH (sT h 113 (tput (P s) i j v)) s nx sz (P s) (tput (P s) i j v)) := by
  have hn12 := (hw s).1
  refine jC_of jm_Main_put (L := [some (.ref 0), some (.int (nI s)), some (.int (nI i)), some (.int (nI j)), some (.int (nI v)), none]) (Nat.le_of_ble_eq_true rfl) rfl trivial ?_
  generalize hres : (((some (.int (nI (jbit (P s) i j)))), holdH (sT h 113 (tput (P s) i j v)) s nx sz (P s) (tput (P s) i j v)) : Option Value × jH) = res
  refine j_aload_n d_Main_put_0 rfl ?_
  refine j_iload_n d_Main_put_1 rfl ?_
  refine j_iload_n d_Main_put_2 rfl ?_
  refine j_callVs (As := [.int (nI s), .int (nI i)]) (st := []) (x_noMember hw hP) d_Main_put_3 (by decide) jm_Main_noMember jk_Main_81 ji_Main_noMember js_Main_noMember rfl (by decide) rfl rfl (Nat.le_of_ble_eq_true rfl) rfl ?_
  refine j_if_neB_f (tgt := 28) d_Main_put_6 (by decide) (km_n hs hn12 hi) ?_
  refine j_aload_n d_Main_put_9 rfl ?_
  refine j_iload_n d_Main_put_10 rfl ?_
  refine j_iload_n d_Main_put_11 rfl ?_
  refine j_callVs (As := [.int (nI s), .int (nI j)]) (st := []) (x_noMember hw hP) d_Main_put_12 (by decide) jm_Main_noMember jk_Main_81 ji_Main_noMember js_Main_noMember rfl (by decide) rfl rfl (Nat.le_of_ble_eq_true rfl) rfl ?_
  refine j_if_neB_f (tgt := 28) d_Main_put_15 (by decide) (km_n hs hn12 hj) ?_
  refine j_iload d_Main_put_18 rfl ?_
  refine j_iconst (v := nI 0) d_Main_put_20 rfl ?_
  refine j_iconst (v := nI 1) d_Main_put_21 rfl ?_
  refine j_callSs (As := [.int (nI v), .int (nI 0), .int (nI 1)]) (st := []) x_outOf d_Main_put_22 (by decide) jm_Main_outOf jk_Main_69 js_Main_outOf rfl (Nat.le_of_ble_eq_true rfl) rfl ?_
  refine j_if_eqB_t (tgt := 30) d_Main_put_25 (by decide) (oo_n (by omega) (by omega) (by omega)) ?_
  have hri := (hw s).2.1 i
  have hp2 := p2_lt (show j < 12 by omega)
  have hcl : (P s).2 i &&& (4095 ^^^ 2 ^ j) < 4096 := Nat.lt_of_le_of_lt Nat.and_le_left hri
  have hor : (P s).2 i ||| 2 ^ j < 4096 := Nat.or_lt_two_pow (n := 12) hri hp2
  have hPV : (if v = 1 then (P s).2 i ||| 2 ^ j else (P s).2 i &&& (4095 ^^^ 2 ^ j)) < 4096 := by split <;> assumption
  refine j_aload_n d_Main_put_30 rfl ?_
  refine j_getr (b := 113) d_Main_put_31 jf_Main_57 rfl rfl rfl (by decide) ?_
  refine j_aload_n d_Main_put_34 rfl ?_
  refine j_getr (b := 1) d_Main_put_35 jf_Main_11 rfl rfl rfl (by decide) ?_
  refine j_iload_n d_Main_put_38 rfl ?_
  refine j_aaldN (b := 115 + 2 * s) d_Main_put_39 rfl (by decide) (by omega) (by decide) (jrf_slot _ (by omega)) (by omega) ?_
  refine j_callVn (As := [.ref (115 + 2 * s)]) (st := []) (x_become isT_108 (isT_slot s (by omega)) (by omega) (hP s (by omega)) (hw s)) d_Main_put_40 (by decide) jm_Table_become jk_Main_85 ji_Table_become js_Table_become rfl (by decide) rfl rfl (Nat.le_of_ble_eq_true rfl) rfl ?_
  refine j_aload_n d_Main_put_43 rfl ?_
  refine j_getr (b := 113) d_Main_put_44 jf_Main_57 rfl rfl rfl (by decide) ?_
  refine j_iload_n d_Main_put_47 rfl ?_
  refine j_iload_n d_Main_put_48 rfl ?_
  refine j_callVs (As := [.int (nI i), .int (nI j)]) (st := []) (x_entry (r := ((P s)).2 i) isT_108 (by omega) (by omega) (rep_sT.2 _ (by omega)) (tw_lt (hw s) _)) d_Main_put_49 (by decide) jm_Table_entry jk_Main_89 ji_Table_entry js_Table_entry rfl (by decide) rfl rfl (Nat.le_of_ble_eq_true rfl) rfl ?_
  refine j_istore (L' := [some (.ref 0), some (.int (nI s)), some (.int (nI i)), some (.int (nI j)), some (.int (nI v)), some (.int (jbo ((((P s)).2 i).testBit j)))]) d_Main_put_52 (by decide) rfl rfl ?_
  refine j_aload_n d_Main_put_54 rfl ?_
  refine j_getr (b := 113) d_Main_put_55 jf_Main_57 rfl rfl rfl (by decide) ?_
  refine j_getr (b := 114) d_Main_put_58 jf_Main_93 rfl rfl rfl (by decide) ?_
  refine j_iload_n d_Main_put_61 rfl ?_
  refine j_iload d_Main_put_62 rfl ?_
  refine j_iconst (v := nI 1) d_Main_put_64 rfl ?_
  refine j_icmp_neN (tgt := 84) d_Main_put_65 (by decide) (by omega) (by omega) (fun c => ?_) (fun c => ?_)
  · refine j_aload_n d_Main_put_84 rfl ?_
    refine j_getr (b := 113) d_Main_put_85 jf_Main_57 rfl rfl rfl (by decide) ?_
    refine j_getr (b := 114) d_Main_put_88 jf_Main_93 rfl rfl rfl (by decide) ?_
    refine j_iload_n d_Main_put_91 rfl ?_
    refine j_ialdN (v := nI ((P s).2 i)) d_Main_put_92 rfl (by omega) (by decide) (rep_sT.2 _ (by omega)) ?_
    refine j_iconst (v := nI 1) d_Main_put_93 rfl ?_
    refine j_iload_n d_Main_put_94 rfl ?_
    refine j_shl1N d_Main_put_95 (by omega) ?_
    refine j_iconst (v := -1) d_Main_put_96 rfl ?_
    refine j_ixor d_Main_put_97 ?_
    refine j_iand d_Main_put_98 ?_
    refine j_top (w := nI ((P s).2 i &&& (4095 ^^^ 2 ^ j))) (ni_clr hri (by omega)) ?_
    refine j_top (w := nI (if v = 1 then (P s).2 i ||| 2 ^ j else (P s).2 i &&& (4095 ^^^ 2 ^ j))) (congrArg nI (if_neg c).symm) ?_
    refine j_iastN (h' := sT h 113 (trset (P s) i (if v = 1 then (P s).2 i ||| 2 ^ j else (P s).2 i &&& (4095 ^^^ 2 ^ j)))) d_Main_put_99 rfl (by omega) (by decide) (sT_row (by omega)) ?_
    refine j_aload_n d_Main_put_100 rfl ?_
    refine j_iload_n d_Main_put_101 rfl ?_
    refine j_callVs (As := [.int (nI s)]) (st := []) (x_holdX hw hP hnx hn hsz hs1 (fun zz hz => ((sT_f (by omega) (by omega)).trans rfl)) (by omega) rep_sT (tw_rset (hw s) hi hPV)) d_Main_put_102 (by decide) jm_Main_hold jk_Main_77 ji_Main_hold js_Main_hold rfl (by decide) rfl rfl (Nat.le_of_ble_eq_true rfl) rfl ?_
    refine j_pop d_Main_put_105 rfl ?_
    refine j_iload d_Main_put_106 rfl ?_
    subst hres
    exact j_reti d_Main_put_108 (jbo_bit _) rfl
  · refine j_aload_n d_Main_put_68 rfl ?_
    refine j_getr (b := 113) d_Main_put_69 jf_Main_57 rfl rfl rfl (by decide) ?_
    refine j_getr (b := 114) d_Main_put_72 jf_Main_93 rfl rfl rfl (by decide) ?_
    refine j_iload_n d_Main_put_75 rfl ?_
    refine j_ialdN (v := nI ((P s).2 i)) d_Main_put_76 rfl (by omega) (by decide) (rep_sT.2 _ (by omega)) ?_
    refine j_iconst (v := nI 1) d_Main_put_77 rfl ?_
    refine j_iload_n d_Main_put_78 rfl ?_
    refine j_shl1N d_Main_put_79 (by omega) ?_
    refine j_iorN d_Main_put_80 ?_
    refine j_goto (tgt := 99) d_Main_put_81 (by decide) ?_
    refine j_top (w := nI (if v = 1 then (P s).2 i ||| 2 ^ j else (P s).2 i &&& (4095 ^^^ 2 ^ j))) (congrArg nI (if_pos c).symm) ?_
    refine j_iastN (h' := sT h 113 (trset (P s) i (if v = 1 then (P s).2 i ||| 2 ^ j else (P s).2 i &&& (4095 ^^^ 2 ^ j)))) d_Main_put_99 rfl (by omega) (by decide) (sT_row (by omega)) ?_
    refine j_aload_n d_Main_put_100 rfl ?_
    refine j_iload_n d_Main_put_101 rfl ?_
    refine j_callVs (As := [.int (nI s)]) (st := []) (x_holdX hw hP hnx hn hsz hs1 (fun zz hz => ((sT_f (by omega) (by omega)).trans rfl)) (by omega) rep_sT (tw_rset (hw s) hi hPV)) d_Main_put_102 (by decide) jm_Main_hold jk_Main_77 ji_Main_hold js_Main_hold rfl (by decide) rfl rfl (Nat.le_of_ble_eq_true rfl) rfl ?_
    refine j_pop d_Main_put_105 rfl ?_
    refine j_iload d_Main_put_106 rfl ?_
    subst hres
    exact j_reti d_Main_put_108 (jbo_bit _) rfl
theorem x_line_bad {n : jN} {h : jH} {P : jP} (hw : ∀ q, tw (P q)) (hP : slo h P) {s w i : Int32} (hb : jokLine P s w i = false) : jC n 4 jy_Main_line jc_Main_line 4 (some .int) [.ref 0, .int s, .int w, .int i] h (some (.int (-1))) h := by
  refine jC_of jm_Main_line (L := [some (.ref 0), some (.int s), some (.int w), some (.int i)]) (Nat.le_of_ble_eq_true rfl) rfl trivial ?_
  generalize hres : (((some (.int (-1))), h) : Option Value × jH) = res
  refine j_aload_n d_Main_line_0 rfl ?_
  refine j_iload_n d_Main_line_1 rfl ?_
  refine j_iload_n d_Main_line_2 rfl ?_
  refine j_callVs (As := [.int s, .int i]) (st := []) (x_noMember hw hP) d_Main_line_3 (by decide) jm_Main_noMember jk_Main_81 ji_Main_noMember js_Main_noMember rfl (by decide) rfl rfl (Nat.le_of_ble_eq_true rfl) rfl ?_
  refine j_if_neB (tgt := 18) d_Main_line_6 (by decide) (fun c1 => ?_) (fun c1 => ?_)
  · refine j_iconst (v := -1) d_Main_line_18 rfl ?_
    subst hres
    exact j_reti d_Main_line_19 rfl rfl
  · refine j_iload_n d_Main_line_9 rfl ?_
    refine j_iconst (v := nI 0) d_Main_line_10 rfl ?_
    refine j_iconst (v := nI 1) d_Main_line_11 rfl ?_
    refine j_callSs (As := [.int w, .int (nI 0), .int (nI 1)]) (st := []) x_outOf d_Main_line_12 (by decide) jm_Main_outOf jk_Main_69 js_Main_outOf rfl (Nat.le_of_ble_eq_true rfl) rfl ?_
    refine j_if_eqB (tgt := 20) d_Main_line_15 (by decide) (fun c2 => ?_) (fun c2 => ?_)
    · rw [oo_jin (by omega) (by omega)] at c2
      exact absurd hb (by simp_all [jokLine, jokMem])
    · refine j_iconst (v := -1) d_Main_line_18 rfl ?_
      subst hres
      exact j_reti d_Main_line_19 rfl rfl
theorem x_line {n : jN} {h : jH} {P : jP} (hw : ∀ q, tw (P q)) (hP : slo h P) {s w i : Nat} (hs : s < 6) (h0 : 0 < (P s).1) (hw1 : w < 2) (hi : i < (P s).1) : jC n 4 jy_Main_line jc_Main_line 4 (some .int) [.ref 0, .int (nI s), .int (nI w), .int (nI i)] h (some (.int (nI (jline (P s) w i)))) h := by
  have hn12 := (hw s).1
  refine jC_of jm_Main_line (L := [some (.ref 0), some (.int (nI s)), some (.int (nI w)), some (.int (nI i))]) (Nat.le_of_ble_eq_true rfl) rfl trivial ?_
  generalize hres : (((some (.int (nI (jline (P s) w i)))), h) : Option Value × jH) = res
  refine j_aload_n d_Main_line_0 rfl ?_
  refine j_iload_n d_Main_line_1 rfl ?_
  refine j_iload_n d_Main_line_2 rfl ?_
  refine j_callVs (As := [.int (nI s), .int (nI i)]) (st := []) (x_noMember hw hP) d_Main_line_3 (by decide) jm_Main_noMember jk_Main_81 ji_Main_noMember js_Main_noMember rfl (by decide) rfl rfl (Nat.le_of_ble_eq_true rfl) rfl ?_
  refine j_if_neB_f (tgt := 18) d_Main_line_6 (by decide) (km_n hs hn12 hi) ?_
  refine j_iload_n d_Main_line_9 rfl ?_
  refine j_iconst (v := nI 0) d_Main_line_10 rfl ?_
  refine j_iconst (v := nI 1) d_Main_line_11 rfl ?_
  refine j_callSs (As := [.int (nI w), .int (nI 0), .int (nI 1)]) (st := []) x_outOf d_Main_line_12 (by decide) jm_Main_outOf jk_Main_69 js_Main_outOf rfl (Nat.le_of_ble_eq_true rfl) rfl ?_
  refine j_if_eqB_t (tgt := 20) d_Main_line_15 (by decide) (oo_n (by omega) (by omega) (by omega)) ?_
  refine j_iload_n d_Main_line_20 rfl ?_
  refine j_if_neN (tgt := 38) d_Main_line_21 (by decide) (by omega) (fun c => ?_) (fun c => ?_)
  · refine j_aload_n d_Main_line_38 rfl ?_
    refine j_getr (b := 1) d_Main_line_39 jf_Main_11 rfl rfl rfl (by decide) ?_
    refine j_iload_n d_Main_line_42 rfl ?_
    refine j_aaldN (b := 115 + 2 * s) d_Main_line_43 rfl (by decide) (by omega) (by decide) (jrf_slot _ (by omega)) (by omega) ?_
    refine j_iload_n d_Main_line_44 rfl ?_
    refine j_callVs (As := [.int (nI i)]) (st := []) (x_column (isT_slot s (by omega)) (hP s (by omega)) (hw s) (by omega)) d_Main_line_45 (by decide) jm_Table_column jk_Main_97 ji_Table_column js_Table_column (isT_slot s (by omega)).1 (by decide) rfl rfl (Nat.le_of_ble_eq_true rfl) rfl ?_
    subst hres
    exact j_reti d_Main_line_48 (by first | rw [jline, if_pos (by omega)] | rw [jline, if_neg (by omega)]) rfl
  · refine j_aload_n d_Main_line_24 rfl ?_
    refine j_getr (b := 1) d_Main_line_25 jf_Main_11 rfl rfl rfl (by decide) ?_
    refine j_iload_n d_Main_line_28 rfl ?_
    refine j_aaldN (b := 115 + 2 * s) d_Main_line_29 rfl (by decide) (by omega) (by decide) (jrf_slot _ (by omega)) (by omega) ?_
    refine j_getr (b := 115 + 2 * s + 1) d_Main_line_30 jf_Main_93 (isT_slot s (by omega)).1 rfl (isT_slot s (by omega)).2.1 (isT_slot s (by omega)).2.2.2 ?_
    refine j_iload_n d_Main_line_33 rfl ?_
    refine j_ialdN (v := nI ((P s).2 i)) d_Main_line_34 (isT_slot s (by omega)).2.2.1 (by omega) (by decide) ((hP s (by omega)).2 _ (by omega)) ?_
    refine j_goto (tgt := 48) d_Main_line_35 (by decide) ?_
    subst hres
    exact j_reti d_Main_line_48 (by first | rw [jline, if_pos (by omega)] | rw [jline, if_neg (by omega)]) rfl
theorem x_setRow_bad {n : jN} {h : jH} {P : jP} (hw : ∀ q, tw (P q)) (hP : slo h P) {s i v : Int32} (hb : jokSet P s i v = false) : jC n 4 jy_Main_setRow jc_Main_setRow 5 (some .int) [.ref 0, .int s, .int i, .int v] h (some (.int (-1))) h := by
  refine jC_of jm_Main_setRow (L := [some (.ref 0), some (.int s), some (.int i), some (.int v), none]) (Nat.le_of_ble_eq_true rfl) rfl trivial ?_
  generalize hres : (((some (.int (-1))), h) : Option Value × jH) = res
  refine j_aload_n d_Main_setRow_0 rfl ?_
  refine j_iload_n d_Main_setRow_1 rfl ?_
  refine j_iload_n d_Main_setRow_2 rfl ?_
  refine j_callVs (As := [.int s, .int i]) (st := []) (x_noMember hw hP) d_Main_setRow_3 (by decide) jm_Main_noMember jk_Main_81 ji_Main_noMember js_Main_noMember rfl (by decide) rfl rfl (Nat.le_of_ble_eq_true rfl) rfl ?_
  refine j_if_neB (tgt := 22) d_Main_setRow_6 (by decide) (fun c1 => ?_) (fun c1 => ?_)
  · refine j_iconst (v := -1) d_Main_setRow_22 rfl ?_
    subst hres
    exact j_reti d_Main_setRow_23 rfl rfl
  · have c1b : jokMem P s i = true := by simpa using c1
    have c1c : jho P s = true := by simp_all [jokMem]
    obtain ⟨k, hk, hk0, rfl⟩ := jho_t (P := P) (s := s) c1c
    have hck : (nI k).toNatClampNeg = k := nI_clamp (by omega)
    have hjm : jmb (P k).1 i = true := by simp_all [jokMem]
    refine j_aload_n d_Main_setRow_9 rfl ?_
    refine j_getr (b := 1) d_Main_setRow_10 jf_Main_11 rfl rfl rfl (by decide) ?_
    refine j_iload_n d_Main_setRow_13 rfl ?_
    refine j_aaldN (b := 115 + 2 * k) d_Main_setRow_14 rfl (by decide) (by omega) (by decide) (jrf_slot _ (by omega)) (by omega) ?_
    refine j_iload_n d_Main_setRow_15 rfl ?_
    refine j_callVs (As := [.int v]) (st := []) (x_lacks (isT_slot k (by omega)) (hP k (by omega)).1 (hw k).1) d_Main_setRow_16 (by decide) jm_Table_lacksColumnOf jk_Main_100 ji_Table_lacksColumnOf js_Table_lacksColumnOf (isT_slot k (by omega)).1 (by decide) rfl rfl (Nat.le_of_ble_eq_true rfl) rfl ?_
    refine j_if_eqB (tgt := 24) d_Main_setRow_19 (by decide) (fun c2 => ?_) (fun c2 => ?_)
    · exact absurd hb (by simp_all [jokSet])
    · refine j_iconst (v := -1) d_Main_setRow_22 rfl ?_
      subst hres
      exact j_reti d_Main_setRow_23 rfl rfl
theorem x_setRow {n : jN} {h : jH} {P : jP} (hw : ∀ q, tw (P q)) (hP : slo h P) {nx sz : Nat} (hnx : h 3 1 = nI nx) (hn : nx < 20) (hsz : h 3 0 = nI sz) (hs1 : sz ≤ 20) {s i v : Nat} (hs : s < 6) (h0 : 0 < (P s).1) (hi : i < (P s).1) (hv : v < 2 ^ (P s).1) : jC n 4 jy_Main_setRow jc_Main_setRow 5 (some .int) [.ref 0, .int (nI s), .int (nI i), .int (nI v)] h (some (.int (nI ((P s).2 i)))) (holdH (sT h 113 (trset (P s) i v)) s nx sz (P s) (trset (P s) i v)) := by
  have hn12 := (hw s).1
  refine jC_of jm_Main_setRow (L := [some (.ref 0), some (.int (nI s)), some (.int (nI i)), some (.int (nI v)), none]) (Nat.le_of_ble_eq_true rfl) rfl trivial ?_
  generalize hres : (((some (.int (nI ((P s).2 i)))), holdH (sT h 113 (trset (P s) i v)) s nx sz (P s) (trset (P s) i v)) : Option Value × jH) = res
  refine j_aload_n d_Main_setRow_0 rfl ?_
  refine j_iload_n d_Main_setRow_1 rfl ?_
  refine j_iload_n d_Main_setRow_2 rfl ?_
  refine j_callVs (As := [.int (nI s), .int (nI i)]) (st := []) (x_noMember hw hP) d_Main_setRow_3 (by decide) jm_Main_noMember jk_Main_81 ji_Main_noMember js_Main_noMember rfl (by decide) rfl rfl (Nat.le_of_ble_eq_true rfl) rfl ?_
  refine j_if_neB_f (tgt := 22) d_Main_setRow_6 (by decide) (km_n hs hn12 hi) ?_
  refine j_aload_n d_Main_setRow_9 rfl ?_
  refine j_getr (b := 1) d_Main_setRow_10 jf_Main_11 rfl rfl rfl (by decide) ?_
  refine j_iload_n d_Main_setRow_13 rfl ?_
  refine j_aaldN (b := 115 + 2 * s) d_Main_setRow_14 rfl (by decide) (by omega) (by decide) (jrf_slot _ (by omega)) (by omega) ?_
  refine j_iload_n d_Main_setRow_15 rfl ?_
  refine j_callVs (As := [.int (nI v)]) (st := []) (x_lacks (isT_slot s (by omega)) (hP s (by omega)).1 (hw s).1) d_Main_setRow_16 (by decide) jm_Table_lacksColumnOf jk_Main_100 ji_Table_lacksColumnOf js_Table_lacksColumnOf (isT_slot s (by omega)).1 (by decide) rfl rfl (Nat.le_of_ble_eq_true rfl) rfl ?_
  refine j_if_eqB_t (tgt := 24) d_Main_setRow_19 (by decide) (se_n hn12 hv) ?_
  have h2m : 2 ^ (P s).1 ≤ 2 ^ 12 := Nat.pow_le_pow_right (by omega) hn12
  refine j_aload_n d_Main_setRow_24 rfl ?_
  refine j_getr (b := 113) d_Main_setRow_25 jf_Main_57 rfl rfl rfl (by decide) ?_
  refine j_aload_n d_Main_setRow_28 rfl ?_
  refine j_getr (b := 1) d_Main_setRow_29 jf_Main_11 rfl rfl rfl (by decide) ?_
  refine j_iload_n d_Main_setRow_32 rfl ?_
  refine j_aaldN (b := 115 + 2 * s) d_Main_setRow_33 rfl (by decide) (by omega) (by decide) (jrf_slot _ (by omega)) (by omega) ?_
  refine j_callVn (As := [.ref (115 + 2 * s)]) (st := []) (x_become isT_108 (isT_slot s (by omega)) (by omega) (hP s (by omega)) (hw s)) d_Main_setRow_34 (by decide) jm_Table_become jk_Main_85 ji_Table_become js_Table_become rfl (by decide) rfl rfl (Nat.le_of_ble_eq_true rfl) rfl ?_
  refine j_aload_n d_Main_setRow_37 rfl ?_
  refine j_getr (b := 113) d_Main_setRow_38 jf_Main_57 rfl rfl rfl (by decide) ?_
  refine j_getr (b := 114) d_Main_setRow_41 jf_Main_93 rfl rfl rfl (by decide) ?_
  refine j_iload_n d_Main_setRow_44 rfl ?_
  refine j_ialdN (v := nI ((P s).2 i)) d_Main_setRow_45 rfl (by omega) (by decide) (rep_sT.2 _ (by omega)) ?_
  refine j_istore (L' := [some (.ref 0), some (.int (nI s)), some (.int (nI i)), some (.int (nI v)), some (.int (nI ((P s).2 i)))]) d_Main_setRow_46 (by decide) rfl rfl ?_
  refine j_aload_n d_Main_setRow_48 rfl ?_
  refine j_getr (b := 113) d_Main_setRow_49 jf_Main_57 rfl rfl rfl (by decide) ?_
  refine j_getr (b := 114) d_Main_setRow_52 jf_Main_93 rfl rfl rfl (by decide) ?_
  refine j_iload_n d_Main_setRow_55 rfl ?_
  refine j_iload_n d_Main_setRow_56 rfl ?_
  refine j_iastN (h' := sT h 113 (trset (P s) i v)) d_Main_setRow_57 rfl (by omega) (by decide) (sT_row (by omega)) ?_
  refine j_aload_n d_Main_setRow_58 rfl ?_
  refine j_iload_n d_Main_setRow_59 rfl ?_
  refine j_callVs (As := [.int (nI s)]) (st := []) (x_holdX hw hP hnx hn hsz hs1 (fun zz hz => ((sT_f (by omega) (by omega)).trans rfl)) (by omega) rep_sT (tw_rset (hw s) hi (by omega))) d_Main_setRow_60 (by decide) jm_Main_hold jk_Main_77 ji_Main_hold js_Main_hold rfl (by decide) rfl rfl (Nat.le_of_ble_eq_true rfl) rfl ?_
  refine j_pop d_Main_setRow_63 rfl ?_
  refine j_iload d_Main_setRow_64 rfl ?_
  subst hres
  exact j_reti d_Main_setRow_66 rfl rfl
theorem x_times_bad {n : jN} {h : jH} {P : jP} (hw : ∀ q, tw (P q)) (hP : slo h P) {a b t : Int32} (hb : jok2 P a b t = false) : jC n 3 jy_Main_times jc_Main_times 4 (some .int) [.ref 0, .int a, .int b, .int t] h (some (.int (-1))) h := by
  refine jC_of jm_Main_times (L := [some (.ref 0), some (.int a), some (.int b), some (.int t)]) (Nat.le_of_ble_eq_true rfl) rfl trivial ?_
  generalize hres : (((some (.int (-1))), h) : Option Value × jH) = res
  refine j_aload_n d_Main_times_0 rfl ?_
  refine j_iload_n d_Main_times_1 rfl ?_
  refine j_callVs (As := [.int a]) (st := []) (x_noTable hw hP) d_Main_times_2 (by decide) jm_Main_noTable jk_Main_103 ji_Main_noTable js_Main_noTable rfl (by decide) rfl rfl (Nat.le_of_ble_eq_true rfl) rfl ?_
  refine j_if_neB (tgt := 23) d_Main_times_5 (by decide) (fun c1 => ?_) (fun c1 => ?_)
  · refine j_iconst (v := -1) d_Main_times_23 rfl ?_
    subst hres
    exact j_reti d_Main_times_24 rfl rfl
  · refine j_aload_n d_Main_times_8 rfl ?_
    refine j_iload_n d_Main_times_9 rfl ?_
    refine j_callVs (As := [.int b]) (st := []) (x_noTable hw hP) d_Main_times_10 (by decide) jm_Main_noTable jk_Main_103 ji_Main_noTable js_Main_noTable rfl (by decide) rfl rfl (Nat.le_of_ble_eq_true rfl) rfl ?_
    refine j_if_neB (tgt := 23) d_Main_times_13 (by decide) (fun c2 => ?_) (fun c2 => ?_)
    · refine j_iconst (v := -1) d_Main_times_23 rfl ?_
      subst hres
      exact j_reti d_Main_times_24 rfl rfl
    · refine j_iload_n d_Main_times_16 rfl ?_
      refine j_callSs (As := [.int t]) (st := []) x_noSlot d_Main_times_17 (by decide) jm_Main_noSlot jk_Main_62 js_Main_noSlot rfl (Nat.le_of_ble_eq_true rfl) rfl ?_
      refine j_if_eqB (tgt := 25) d_Main_times_20 (by decide) (fun c3 => ?_) (fun c3 => ?_)
      · exact absurd hb (by simp_all [jok2])
      · refine j_iconst (v := -1) d_Main_times_23 rfl ?_
        subst hres
        exact j_reti d_Main_times_24 rfl rfl
theorem x_times_un {n : jN} {h : jH} {P : jP} (hw : ∀ q, tw (P q)) (hP : slo h P) {a b t : Nat} (ha : a < 6) (h0a : 0 < (P a).1) (hb : b < 6) (h0b : 0 < (P b).1) (ht : t < 6) (he : ¬ (P a).1 = (P b).1) : jC n 3 jy_Main_times jc_Main_times 4 (some .int) [.ref 0, .int (nI a), .int (nI b), .int (nI t)] h (some (.int (-3))) h := by
  have hna := (hw a).1
  have hnb := (hw b).1
  refine jC_of jm_Main_times (L := [some (.ref 0), some (.int (nI a)), some (.int (nI b)), some (.int (nI t))]) (Nat.le_of_ble_eq_true rfl) rfl trivial ?_
  generalize hres : (((some (.int (-3))), h) : Option Value × jH) = res
  refine j_aload_n d_Main_times_0 rfl ?_
  refine j_iload_n d_Main_times_1 rfl ?_
  refine j_callVs (As := [.int (nI a)]) (st := []) (x_noTable hw hP) d_Main_times_2 (by decide) jm_Main_noTable jk_Main_103 ji_Main_noTable js_Main_noTable rfl (by decide) rfl rfl (Nat.le_of_ble_eq_true rfl) rfl ?_
  refine j_if_neB_f (tgt := 23) d_Main_times_5 (by decide) (ho_n ha h0a) ?_
  refine j_aload_n d_Main_times_8 rfl ?_
  refine j_iload_n d_Main_times_9 rfl ?_
  refine j_callVs (As := [.int (nI b)]) (st := []) (x_noTable hw hP) d_Main_times_10 (by decide) jm_Main_noTable jk_Main_103 ji_Main_noTable js_Main_noTable rfl (by decide) rfl rfl (Nat.le_of_ble_eq_true rfl) rfl ?_
  refine j_if_neB_f (tgt := 23) d_Main_times_13 (by decide) (ho_n hb h0b) ?_
  refine j_iload_n d_Main_times_16 rfl ?_
  refine j_callSs (As := [.int (nI t)]) (st := []) x_noSlot d_Main_times_17 (by decide) jm_Main_noSlot jk_Main_62 js_Main_noSlot rfl (Nat.le_of_ble_eq_true rfl) rfl ?_
  refine j_if_eqB_t (tgt := 25) d_Main_times_20 (by decide) (sl_n ht) ?_
  refine j_aload_n d_Main_times_25 rfl ?_
  refine j_getr (b := 1) d_Main_times_26 jf_Main_11 rfl rfl rfl (by decide) ?_
  refine j_iload_n d_Main_times_29 rfl ?_
  refine j_aaldN (b := 115 + 2 * a) d_Main_times_30 rfl (by decide) (by omega) (by decide) (jrf_slot _ (by omega)) (by omega) ?_
  refine j_getv (v := nI ((P a).1)) d_Main_times_31 jf_Main_106 (isT_slot a (by omega)).1 rfl (hP a (by omega)).1 ?_
  refine j_aload_n d_Main_times_34 rfl ?_
  refine j_getr (b := 1) d_Main_times_35 jf_Main_11 rfl rfl rfl (by decide) ?_
  refine j_iload_n d_Main_times_38 rfl ?_
  refine j_aaldN (b := 115 + 2 * b) d_Main_times_39 rfl (by decide) (by omega) (by decide) (jrf_slot _ (by omega)) (by omega) ?_
  refine j_getv (v := nI ((P b).1)) d_Main_times_40 jf_Main_106 (isT_slot b (by omega)).1 rfl (hP b (by omega)).1 ?_
  refine j_icmp_eqN_f (tgt := 49) d_Main_times_43 (by decide) (by omega) (by omega) he ?_
  refine j_bipush (v := -3) d_Main_times_46 (by decide) ?_
  subst hres
  exact j_reti d_Main_times_48 rfl rfl
theorem x_times {n : jN} {h : jH} {P : jP} (hw : ∀ q, tw (P q)) (hP : slo h P) {nx sz : Nat} (hnx : h 3 1 = nI nx) (hn : nx < 20) (hsz : h 3 0 = nI sz) (hs1 : sz ≤ 20) {a b t : Nat} (ha : a < 6) (h0a : 0 < (P a).1) (hb : b < 6) (h0b : 0 < (P b).1) (ht : t < 6) (he : (P a).1 = (P b).1) : jC n 3 jy_Main_times jc_Main_times 4 (some .int) [.ref 0, .int (nI a), .int (nI b), .int (nI t)] h (some (.int (nI ((P a).1)))) (holdH (sT (sT h 113 (P a)) 113 (tmul (P a) (P b))) t nx sz (P t) (tmul (P a) (P b))) := by
  have hna := (hw a).1
  have hnb := (hw b).1
  refine jC_of jm_Main_times (L := [some (.ref 0), some (.int (nI a)), some (.int (nI b)), some (.int (nI t))]) (Nat.le_of_ble_eq_true rfl) rfl trivial ?_
  generalize hres : (((some (.int (nI ((P a).1)))), holdH (sT (sT h 113 (P a)) 113 (tmul (P a) (P b))) t nx sz (P t) (tmul (P a) (P b))) : Option Value × jH) = res
  refine j_aload_n d_Main_times_0 rfl ?_
  refine j_iload_n d_Main_times_1 rfl ?_
  refine j_callVs (As := [.int (nI a)]) (st := []) (x_noTable hw hP) d_Main_times_2 (by decide) jm_Main_noTable jk_Main_103 ji_Main_noTable js_Main_noTable rfl (by decide) rfl rfl (Nat.le_of_ble_eq_true rfl) rfl ?_
  refine j_if_neB_f (tgt := 23) d_Main_times_5 (by decide) (ho_n ha h0a) ?_
  refine j_aload_n d_Main_times_8 rfl ?_
  refine j_iload_n d_Main_times_9 rfl ?_
  refine j_callVs (As := [.int (nI b)]) (st := []) (x_noTable hw hP) d_Main_times_10 (by decide) jm_Main_noTable jk_Main_103 ji_Main_noTable js_Main_noTable rfl (by decide) rfl rfl (Nat.le_of_ble_eq_true rfl) rfl ?_
  refine j_if_neB_f (tgt := 23) d_Main_times_13 (by decide) (ho_n hb h0b) ?_
  refine j_iload_n d_Main_times_16 rfl ?_
  refine j_callSs (As := [.int (nI t)]) (st := []) x_noSlot d_Main_times_17 (by decide) jm_Main_noSlot jk_Main_62 js_Main_noSlot rfl (Nat.le_of_ble_eq_true rfl) rfl ?_
  refine j_if_eqB_t (tgt := 25) d_Main_times_20 (by decide) (sl_n ht) ?_
  refine j_aload_n d_Main_times_25 rfl ?_
  refine j_getr (b := 1) d_Main_times_26 jf_Main_11 rfl rfl rfl (by decide) ?_
  refine j_iload_n d_Main_times_29 rfl ?_
  refine j_aaldN (b := 115 + 2 * a) d_Main_times_30 rfl (by decide) (by omega) (by decide) (jrf_slot _ (by omega)) (by omega) ?_
  refine j_getv (v := nI ((P a).1)) d_Main_times_31 jf_Main_106 (isT_slot a (by omega)).1 rfl (hP a (by omega)).1 ?_
  refine j_aload_n d_Main_times_34 rfl ?_
  refine j_getr (b := 1) d_Main_times_35 jf_Main_11 rfl rfl rfl (by decide) ?_
  refine j_iload_n d_Main_times_38 rfl ?_
  refine j_aaldN (b := 115 + 2 * b) d_Main_times_39 rfl (by decide) (by omega) (by decide) (jrf_slot _ (by omega)) (by omega) ?_
  refine j_getv (v := nI ((P b).1)) d_Main_times_40 jf_Main_106 (isT_slot b (by omega)).1 rfl (hP b (by omega)).1 ?_
  refine j_icmp_eqN_t (tgt := 49) d_Main_times_43 (by decide) (by omega) (by omega) he ?_
  refine j_aload_n d_Main_times_49 rfl ?_
  refine j_getr (b := 113) d_Main_times_50 jf_Main_57 rfl rfl rfl (by decide) ?_
  refine j_aload_n d_Main_times_53 rfl ?_
  refine j_getr (b := 1) d_Main_times_54 jf_Main_11 rfl rfl rfl (by decide) ?_
  refine j_iload_n d_Main_times_57 rfl ?_
  refine j_aaldN (b := 115 + 2 * a) d_Main_times_58 rfl (by decide) (by omega) (by decide) (jrf_slot _ (by omega)) (by omega) ?_
  refine j_callVn (As := [.ref (115 + 2 * a)]) (st := []) (x_become isT_108 (isT_slot a (by omega)) (by omega) (hP a (by omega)) (hw a)) d_Main_times_59 (by decide) jm_Table_become jk_Main_85 ji_Table_become js_Table_become rfl (by decide) rfl rfl (Nat.le_of_ble_eq_true rfl) rfl ?_
  refine j_aload_n d_Main_times_62 rfl ?_
  refine j_getr (b := 113) d_Main_times_63 jf_Main_57 rfl rfl rfl (by decide) ?_
  refine j_aload_n d_Main_times_66 rfl ?_
  refine j_getr (b := 1) d_Main_times_67 jf_Main_11 rfl rfl rfl (by decide) ?_
  refine j_iload_n d_Main_times_70 rfl ?_
  refine j_aaldN (b := 115 + 2 * b) d_Main_times_71 rfl (by decide) (by omega) (by decide) (jrf_slot _ (by omega)) (by omega) ?_
  refine j_callVn (As := [.ref (115 + 2 * b)]) (st := []) (x_multiplyBy isT_108 (isT_slot b (by omega)) (by omega) rep_sT (hw a) (rep_o isT_108 (isT_slot b (by omega)) (by omega) (hP b (by omega))) (hw b) he) d_Main_times_72 (by decide) jm_Table_multiplyBy jk_Main_110 ji_Table_multiplyBy js_Table_multiplyBy rfl (by decide) rfl rfl (Nat.le_of_ble_eq_true rfl) rfl ?_
  refine j_aload_n d_Main_times_75 rfl ?_
  refine j_iload_n d_Main_times_76 rfl ?_
  refine j_callVs (As := [.int (nI t)]) (st := []) (x_holdX hw hP hnx hn hsz hs1 (fun zz hz => ((sT_f (by omega) (by omega)).trans ((sT_f (by omega) (by omega)).trans rfl))) (by omega) rep_sT (tw_mul (hw a) (hw b))) d_Main_times_77 (by decide) jm_Main_hold jk_Main_77 ji_Main_hold js_Main_hold rfl (by decide) rfl rfl (Nat.le_of_ble_eq_true rfl) rfl ?_
  subst hres
  exact j_reti d_Main_times_80 rfl rfl
theorem x_plus_bad {n : jN} {h : jH} {P : jP} (hw : ∀ q, tw (P q)) (hP : slo h P) {a b t : Int32} (hb : jok2 P a b t = false) : jC n 3 jy_Main_plus jc_Main_plus 4 (some .int) [.ref 0, .int a, .int b, .int t] h (some (.int (-1))) h := by
  refine jC_of jm_Main_plus (L := [some (.ref 0), some (.int a), some (.int b), some (.int t)]) (Nat.le_of_ble_eq_true rfl) rfl trivial ?_
  generalize hres : (((some (.int (-1))), h) : Option Value × jH) = res
  refine j_aload_n d_Main_plus_0 rfl ?_
  refine j_iload_n d_Main_plus_1 rfl ?_
  refine j_callVs (As := [.int a]) (st := []) (x_noTable hw hP) d_Main_plus_2 (by decide) jm_Main_noTable jk_Main_103 ji_Main_noTable js_Main_noTable rfl (by decide) rfl rfl (Nat.le_of_ble_eq_true rfl) rfl ?_
  refine j_if_neB (tgt := 23) d_Main_plus_5 (by decide) (fun c1 => ?_) (fun c1 => ?_)
  · refine j_iconst (v := -1) d_Main_plus_23 rfl ?_
    subst hres
    exact j_reti d_Main_plus_24 rfl rfl
  · refine j_aload_n d_Main_plus_8 rfl ?_
    refine j_iload_n d_Main_plus_9 rfl ?_
    refine j_callVs (As := [.int b]) (st := []) (x_noTable hw hP) d_Main_plus_10 (by decide) jm_Main_noTable jk_Main_103 ji_Main_noTable js_Main_noTable rfl (by decide) rfl rfl (Nat.le_of_ble_eq_true rfl) rfl ?_
    refine j_if_neB (tgt := 23) d_Main_plus_13 (by decide) (fun c2 => ?_) (fun c2 => ?_)
    · refine j_iconst (v := -1) d_Main_plus_23 rfl ?_
      subst hres
      exact j_reti d_Main_plus_24 rfl rfl
    · refine j_iload_n d_Main_plus_16 rfl ?_
      refine j_callSs (As := [.int t]) (st := []) x_noSlot d_Main_plus_17 (by decide) jm_Main_noSlot jk_Main_62 js_Main_noSlot rfl (Nat.le_of_ble_eq_true rfl) rfl ?_
      refine j_if_eqB (tgt := 25) d_Main_plus_20 (by decide) (fun c3 => ?_) (fun c3 => ?_)
      · exact absurd hb (by simp_all [jok2])
      · refine j_iconst (v := -1) d_Main_plus_23 rfl ?_
        subst hres
        exact j_reti d_Main_plus_24 rfl rfl
theorem x_plus_un {n : jN} {h : jH} {P : jP} (hw : ∀ q, tw (P q)) (hP : slo h P) {a b t : Nat} (ha : a < 6) (h0a : 0 < (P a).1) (hb : b < 6) (h0b : 0 < (P b).1) (ht : t < 6) (he : ¬ (P a).1 = (P b).1) : jC n 3 jy_Main_plus jc_Main_plus 4 (some .int) [.ref 0, .int (nI a), .int (nI b), .int (nI t)] h (some (.int (-3))) h := by
  have hna := (hw a).1
  have hnb := (hw b).1
  refine jC_of jm_Main_plus (L := [some (.ref 0), some (.int (nI a)), some (.int (nI b)), some (.int (nI t))]) (Nat.le_of_ble_eq_true rfl) rfl trivial ?_
  generalize hres : (((some (.int (-3))), h) : Option Value × jH) = res
  refine j_aload_n d_Main_plus_0 rfl ?_
  refine j_iload_n d_Main_plus_1 rfl ?_
  refine j_callVs (As := [.int (nI a)]) (st := []) (x_noTable hw hP) d_Main_plus_2 (by decide) jm_Main_noTable jk_Main_103 ji_Main_noTable js_Main_noTable rfl (by decide) rfl rfl (Nat.le_of_ble_eq_true rfl) rfl ?_
  refine j_if_neB_f (tgt := 23) d_Main_plus_5 (by decide) (ho_n ha h0a) ?_
  refine j_aload_n d_Main_plus_8 rfl ?_
  refine j_iload_n d_Main_plus_9 rfl ?_
  refine j_callVs (As := [.int (nI b)]) (st := []) (x_noTable hw hP) d_Main_plus_10 (by decide) jm_Main_noTable jk_Main_103 ji_Main_noTable js_Main_noTable rfl (by decide) rfl rfl (Nat.le_of_ble_eq_true rfl) rfl ?_
  refine j_if_neB_f (tgt := 23) d_Main_plus_13 (by decide) (ho_n hb h0b) ?_
  refine j_iload_n d_Main_plus_16 rfl ?_
  refine j_callSs (As := [.int (nI t)]) (st := []) x_noSlot d_Main_plus_17 (by decide) jm_Main_noSlot jk_Main_62 js_Main_noSlot rfl (Nat.le_of_ble_eq_true rfl) rfl ?_
  refine j_if_eqB_t (tgt := 25) d_Main_plus_20 (by decide) (sl_n ht) ?_
  refine j_aload_n d_Main_plus_25 rfl ?_
  refine j_getr (b := 1) d_Main_plus_26 jf_Main_11 rfl rfl rfl (by decide) ?_
  refine j_iload_n d_Main_plus_29 rfl ?_
  refine j_aaldN (b := 115 + 2 * a) d_Main_plus_30 rfl (by decide) (by omega) (by decide) (jrf_slot _ (by omega)) (by omega) ?_
  refine j_getv (v := nI ((P a).1)) d_Main_plus_31 jf_Main_106 (isT_slot a (by omega)).1 rfl (hP a (by omega)).1 ?_
  refine j_aload_n d_Main_plus_34 rfl ?_
  refine j_getr (b := 1) d_Main_plus_35 jf_Main_11 rfl rfl rfl (by decide) ?_
  refine j_iload_n d_Main_plus_38 rfl ?_
  refine j_aaldN (b := 115 + 2 * b) d_Main_plus_39 rfl (by decide) (by omega) (by decide) (jrf_slot _ (by omega)) (by omega) ?_
  refine j_getv (v := nI ((P b).1)) d_Main_plus_40 jf_Main_106 (isT_slot b (by omega)).1 rfl (hP b (by omega)).1 ?_
  refine j_icmp_eqN_f (tgt := 49) d_Main_plus_43 (by decide) (by omega) (by omega) he ?_
  refine j_bipush (v := -3) d_Main_plus_46 (by decide) ?_
  subst hres
  exact j_reti d_Main_plus_48 rfl rfl
theorem x_plus {n : jN} {h : jH} {P : jP} (hw : ∀ q, tw (P q)) (hP : slo h P) {nx sz : Nat} (hnx : h 3 1 = nI nx) (hn : nx < 20) (hsz : h 3 0 = nI sz) (hs1 : sz ≤ 20) {a b t : Nat} (ha : a < 6) (h0a : 0 < (P a).1) (hb : b < 6) (h0b : 0 < (P b).1) (ht : t < 6) (he : (P a).1 = (P b).1) : jC n 3 jy_Main_plus jc_Main_plus 4 (some .int) [.ref 0, .int (nI a), .int (nI b), .int (nI t)] h (some (.int (nI ((P a).1)))) (holdH (sT (sT h 113 (P a)) 113 (tadd (P a) (P b))) t nx sz (P t) (tadd (P a) (P b))) := by
  have hna := (hw a).1
  have hnb := (hw b).1
  refine jC_of jm_Main_plus (L := [some (.ref 0), some (.int (nI a)), some (.int (nI b)), some (.int (nI t))]) (Nat.le_of_ble_eq_true rfl) rfl trivial ?_
  generalize hres : (((some (.int (nI ((P a).1)))), holdH (sT (sT h 113 (P a)) 113 (tadd (P a) (P b))) t nx sz (P t) (tadd (P a) (P b))) : Option Value × jH) = res
  refine j_aload_n d_Main_plus_0 rfl ?_
  refine j_iload_n d_Main_plus_1 rfl ?_
  refine j_callVs (As := [.int (nI a)]) (st := []) (x_noTable hw hP) d_Main_plus_2 (by decide) jm_Main_noTable jk_Main_103 ji_Main_noTable js_Main_noTable rfl (by decide) rfl rfl (Nat.le_of_ble_eq_true rfl) rfl ?_
  refine j_if_neB_f (tgt := 23) d_Main_plus_5 (by decide) (ho_n ha h0a) ?_
  refine j_aload_n d_Main_plus_8 rfl ?_
  refine j_iload_n d_Main_plus_9 rfl ?_
  refine j_callVs (As := [.int (nI b)]) (st := []) (x_noTable hw hP) d_Main_plus_10 (by decide) jm_Main_noTable jk_Main_103 ji_Main_noTable js_Main_noTable rfl (by decide) rfl rfl (Nat.le_of_ble_eq_true rfl) rfl ?_
  refine j_if_neB_f (tgt := 23) d_Main_plus_13 (by decide) (ho_n hb h0b) ?_
  refine j_iload_n d_Main_plus_16 rfl ?_
  refine j_callSs (As := [.int (nI t)]) (st := []) x_noSlot d_Main_plus_17 (by decide) jm_Main_noSlot jk_Main_62 js_Main_noSlot rfl (Nat.le_of_ble_eq_true rfl) rfl ?_
  refine j_if_eqB_t (tgt := 25) d_Main_plus_20 (by decide) (sl_n ht) ?_
  refine j_aload_n d_Main_plus_25 rfl ?_
  refine j_getr (b := 1) d_Main_plus_26 jf_Main_11 rfl rfl rfl (by decide) ?_
  refine j_iload_n d_Main_plus_29 rfl ?_
  refine j_aaldN (b := 115 + 2 * a) d_Main_plus_30 rfl (by decide) (by omega) (by decide) (jrf_slot _ (by omega)) (by omega) ?_
  refine j_getv (v := nI ((P a).1)) d_Main_plus_31 jf_Main_106 (isT_slot a (by omega)).1 rfl (hP a (by omega)).1 ?_
  refine j_aload_n d_Main_plus_34 rfl ?_
  refine j_getr (b := 1) d_Main_plus_35 jf_Main_11 rfl rfl rfl (by decide) ?_
  refine j_iload_n d_Main_plus_38 rfl ?_
  refine j_aaldN (b := 115 + 2 * b) d_Main_plus_39 rfl (by decide) (by omega) (by decide) (jrf_slot _ (by omega)) (by omega) ?_
  refine j_getv (v := nI ((P b).1)) d_Main_plus_40 jf_Main_106 (isT_slot b (by omega)).1 rfl (hP b (by omega)).1 ?_
  refine j_icmp_eqN_t (tgt := 49) d_Main_plus_43 (by decide) (by omega) (by omega) he ?_
  refine j_aload_n d_Main_plus_49 rfl ?_
  refine j_getr (b := 113) d_Main_plus_50 jf_Main_57 rfl rfl rfl (by decide) ?_
  refine j_aload_n d_Main_plus_53 rfl ?_
  refine j_getr (b := 1) d_Main_plus_54 jf_Main_11 rfl rfl rfl (by decide) ?_
  refine j_iload_n d_Main_plus_57 rfl ?_
  refine j_aaldN (b := 115 + 2 * a) d_Main_plus_58 rfl (by decide) (by omega) (by decide) (jrf_slot _ (by omega)) (by omega) ?_
  refine j_callVn (As := [.ref (115 + 2 * a)]) (st := []) (x_become isT_108 (isT_slot a (by omega)) (by omega) (hP a (by omega)) (hw a)) d_Main_plus_59 (by decide) jm_Table_become jk_Main_85 ji_Table_become js_Table_become rfl (by decide) rfl rfl (Nat.le_of_ble_eq_true rfl) rfl ?_
  refine j_aload_n d_Main_plus_62 rfl ?_
  refine j_getr (b := 113) d_Main_plus_63 jf_Main_57 rfl rfl rfl (by decide) ?_
  refine j_aload_n d_Main_plus_66 rfl ?_
  refine j_getr (b := 1) d_Main_plus_67 jf_Main_11 rfl rfl rfl (by decide) ?_
  refine j_iload_n d_Main_plus_70 rfl ?_
  refine j_aaldN (b := 115 + 2 * b) d_Main_plus_71 rfl (by decide) (by omega) (by decide) (jrf_slot _ (by omega)) (by omega) ?_
  refine j_callVn (As := [.ref (115 + 2 * b)]) (st := []) (x_join isT_108 (isT_slot b (by omega)) (by omega) rep_sT (hw a) (rep_o isT_108 (isT_slot b (by omega)) (by omega) (hP b (by omega))) (hw b) he) d_Main_plus_72 (by decide) jm_Table_join jk_Main_113 ji_Table_join js_Table_join rfl (by decide) rfl rfl (Nat.le_of_ble_eq_true rfl) rfl ?_
  refine j_aload_n d_Main_plus_75 rfl ?_
  refine j_iload_n d_Main_plus_76 rfl ?_
  refine j_callVs (As := [.int (nI t)]) (st := []) (x_holdX hw hP hnx hn hsz hs1 (fun zz hz => ((sT_f (by omega) (by omega)).trans ((sT_f (by omega) (by omega)).trans rfl))) (by omega) rep_sT (tw_add (hw a) (hw b))) d_Main_plus_77 (by decide) jm_Main_hold jk_Main_77 ji_Main_hold js_Main_hold rfl (by decide) rfl rfl (Nat.le_of_ble_eq_true rfl) rfl ?_
  subst hres
  exact j_reti d_Main_plus_80 rfl rfl
theorem x_power_bad {n : jN} {h : jH} {P : jP} (hw : ∀ q, tw (P q)) (hP : slo h P) {a k t : Int32} (hb : jokPow P a k t = false) : jC n 3 jy_Main_power jc_Main_power 4 (some .int) [.ref 0, .int a, .int k, .int t] h (some (.int (-1))) h := by
  refine jC_of jm_Main_power (L := [some (.ref 0), some (.int a), some (.int k), some (.int t)]) (Nat.le_of_ble_eq_true rfl) rfl trivial ?_
  generalize hres : (((some (.int (-1))), h) : Option Value × jH) = res
  refine j_aload_n d_Main_power_0 rfl ?_
  refine j_iload_n d_Main_power_1 rfl ?_
  refine j_callVs (As := [.int a]) (st := []) (x_noTable hw hP) d_Main_power_2 (by decide) jm_Main_noTable jk_Main_103 ji_Main_noTable js_Main_noTable rfl (by decide) rfl rfl (Nat.le_of_ble_eq_true rfl) rfl ?_
  refine j_if_neB (tgt := 25) d_Main_power_5 (by decide) (fun c1 => ?_) (fun c1 => ?_)
  · refine j_iconst (v := -1) d_Main_power_25 rfl ?_
    subst hres
    exact j_reti d_Main_power_26 rfl rfl
  · refine j_iload_n d_Main_power_8 rfl ?_
    refine j_iconst (v := nI 0) d_Main_power_9 rfl ?_
    refine j_ldc (v := 1000000) d_Main_power_10 jk_Main_116 ?_
    refine j_top (w := nI 1000000) rfl ?_
    refine j_callSs (As := [.int k, .int (nI 0), .int (nI 1000000)]) (st := []) x_outOf d_Main_power_12 (by decide) jm_Main_outOf jk_Main_69 js_Main_outOf rfl (Nat.le_of_ble_eq_true rfl) rfl ?_
    refine j_if_neB (tgt := 25) d_Main_power_15 (by decide) (fun c2 => ?_) (fun c2 => ?_)
    · refine j_iconst (v := -1) d_Main_power_25 rfl ?_
      subst hres
      exact j_reti d_Main_power_26 rfl rfl
    · rw [oo_jin (by omega) (by omega)] at c2
      refine j_iload_n d_Main_power_18 rfl ?_
      refine j_callSs (As := [.int t]) (st := []) x_noSlot d_Main_power_19 (by decide) jm_Main_noSlot jk_Main_62 js_Main_noSlot rfl (Nat.le_of_ble_eq_true rfl) rfl ?_
      refine j_if_eqB (tgt := 27) d_Main_power_22 (by decide) (fun c3 => ?_) (fun c3 => ?_)
      · exact absurd hb (by simp_all [jokPow])
      · refine j_iconst (v := -1) d_Main_power_25 rfl ?_
        subst hres
        exact j_reti d_Main_power_26 rfl rfl
theorem x_power {n : jN} {h : jH} {P : jP} (hw : ∀ q, tw (P q)) (hP : slo h P) {nx sz : Nat} (hnx : h 3 1 = nI nx) (hn : nx < 20) (hsz : h 3 0 = nI sz) (hs1 : sz ≤ 20) {a k t : Nat} (ha : a < 6) (h0a : 0 < (P a).1) (hk : k ≤ 1000000) (ht : t < 6) : jC n 3 jy_Main_power jc_Main_power 4 (some .int) [.ref 0, .int (nI a), .int (nI k), .int (nI t)] h (some (.int (nI ((P a).1)))) (holdH (rsH h 113 k (P a) 20) t nx sz (P t) (rq (P a) k 20)) := by
  refine jC_of jm_Main_power (L := [some (.ref 0), some (.int (nI a)), some (.int (nI k)), some (.int (nI t))]) (Nat.le_of_ble_eq_true rfl) rfl trivial ?_
  generalize hres : (((some (.int (nI ((P a).1)))), holdH (rsH h 113 k (P a) 20) t nx sz (P t) (rq (P a) k 20)) : Option Value × jH) = res
  refine j_aload_n d_Main_power_0 rfl ?_
  refine j_iload_n d_Main_power_1 rfl ?_
  refine j_callVs (As := [.int (nI a)]) (st := []) (x_noTable hw hP) d_Main_power_2 (by decide) jm_Main_noTable jk_Main_103 ji_Main_noTable js_Main_noTable rfl (by decide) rfl rfl (Nat.le_of_ble_eq_true rfl) rfl ?_
  refine j_if_neB_f (tgt := 25) d_Main_power_5 (by decide) (ho_n ha h0a) ?_
  refine j_iload_n d_Main_power_8 rfl ?_
  refine j_iconst (v := nI 0) d_Main_power_9 rfl ?_
  refine j_ldc (v := 1000000) d_Main_power_10 jk_Main_116 ?_
  refine j_top (w := nI 1000000) rfl ?_
  refine j_callSs (As := [.int (nI k), .int (nI 0), .int (nI 1000000)]) (st := []) x_outOf d_Main_power_12 (by decide) jm_Main_outOf jk_Main_69 js_Main_outOf rfl (Nat.le_of_ble_eq_true rfl) rfl ?_
  refine j_if_neB_f (tgt := 25) d_Main_power_15 (by decide) (oo_n (by omega) (by omega) (by omega)) ?_
  refine j_iload_n d_Main_power_18 rfl ?_
  refine j_callSs (As := [.int (nI t)]) (st := []) x_noSlot d_Main_power_19 (by decide) jm_Main_noSlot jk_Main_62 js_Main_noSlot rfl (Nat.le_of_ble_eq_true rfl) rfl ?_
  refine j_if_eqB_t (tgt := 27) d_Main_power_22 (by decide) (sl_n ht) ?_
  refine j_aload_n d_Main_power_27 rfl ?_
  refine j_getr (b := 46) d_Main_power_28 jf_Main_31 rfl rfl rfl (by decide) ?_
  refine j_aload_n d_Main_power_31 rfl ?_
  refine j_getr (b := 1) d_Main_power_32 jf_Main_11 rfl rfl rfl (by decide) ?_
  refine j_iload_n d_Main_power_35 rfl ?_
  refine j_aaldN (b := 115 + 2 * a) d_Main_power_36 rfl (by decide) (by omega) (by decide) (jrf_slot _ (by omega)) (by omega) ?_
  refine j_iload_n d_Main_power_37 rfl ?_
  refine j_aload_n d_Main_power_38 rfl ?_
  refine j_getr (b := 113) d_Main_power_39 jf_Main_57 rfl rfl rfl (by decide) ?_
  refine j_callVn (As := [.ref (115 + 2 * a), .int (nI k), .ref 113]) (st := []) (x_raise (isT_slot a ha) isT_108 (hP a ha) (hw a) h0a (by omega) (by omega) (by omega) (by omega) (by omega) (by decide)) d_Main_power_42 (by decide) jm_Powers_raise jk_Main_117 ji_Powers_raise js_Powers_raise rfl (by decide) rfl rfl (Nat.le_of_ble_eq_true rfl) rfl ?_
  refine j_aload_n d_Main_power_45 rfl ?_
  refine j_iload_n d_Main_power_46 rfl ?_
  refine j_callVs (As := [.int (nI t)]) (st := []) (x_holdX hw hP hnx hn hsz hs1 (fun zz hz => ((rsH_f (by omega) (by omega) (by omega) 20).trans rfl)) (by omega) (rsH_r isT_108 (by decide) 20) (tw_rq (hw a) 20)) d_Main_power_47 (by decide) jm_Main_hold jk_Main_77 ji_Main_hold js_Main_hold rfl (by decide) rfl rfl (Nat.le_of_ble_eq_true rfl) rfl ?_
  subst hres
  exact j_reti d_Main_power_50 (congrArg nI (rq_n _ _ _)) rfl
theorem x_derive_bad {n : jN} {h : jH} {P : jP} (hw : ∀ q, tw (P q)) (hP : slo h P) {a w t : Int32} (hb : jokDer P a w t = false) : jC n 4 jy_Main_derive jc_Main_derive 5 (some .int) [.ref 0, .int a, .int w, .int t] h (some (.int (-1))) h := by
  refine jC_of jm_Main_derive (L := [some (.ref 0), some (.int a), some (.int w), some (.int t), none]) (Nat.le_of_ble_eq_true rfl) rfl trivial ?_
  generalize hres : (((some (.int (-1))), h) : Option Value × jH) = res
  refine j_aload_n d_Main_derive_0 rfl ?_
  refine j_iload_n d_Main_derive_1 rfl ?_
  refine j_callVs (As := [.int a]) (st := []) (x_noTable hw hP) d_Main_derive_2 (by decide) jm_Main_noTable jk_Main_103 ji_Main_noTable js_Main_noTable rfl (by decide) rfl rfl (Nat.le_of_ble_eq_true rfl) rfl ?_
  refine j_if_neB (tgt := 24) d_Main_derive_5 (by decide) (fun c1 => ?_) (fun c1 => ?_)
  · refine j_iconst (v := -1) d_Main_derive_24 rfl ?_
    subst hres
    exact j_reti d_Main_derive_25 rfl rfl
  · refine j_iload_n d_Main_derive_8 rfl ?_
    refine j_iconst (v := nI 0) d_Main_derive_9 rfl ?_
    refine j_iconst (v := nI 4) d_Main_derive_10 rfl ?_
    refine j_callSs (As := [.int w, .int (nI 0), .int (nI 4)]) (st := []) x_outOf d_Main_derive_11 (by decide) jm_Main_outOf jk_Main_69 js_Main_outOf rfl (Nat.le_of_ble_eq_true rfl) rfl ?_
    refine j_if_neB (tgt := 24) d_Main_derive_14 (by decide) (fun c2 => ?_) (fun c2 => ?_)
    · refine j_iconst (v := -1) d_Main_derive_24 rfl ?_
      subst hres
      exact j_reti d_Main_derive_25 rfl rfl
    · rw [oo_jin (by omega) (by omega)] at c2
      refine j_iload_n d_Main_derive_17 rfl ?_
      refine j_callSs (As := [.int t]) (st := []) x_noSlot d_Main_derive_18 (by decide) jm_Main_noSlot jk_Main_62 js_Main_noSlot rfl (Nat.le_of_ble_eq_true rfl) rfl ?_
      refine j_if_eqB (tgt := 26) d_Main_derive_21 (by decide) (fun c3 => ?_) (fun c3 => ?_)
      · exact absurd hb (by simp_all [jokDer])
      · refine j_iconst (v := -1) d_Main_derive_24 rfl ?_
        subst hres
        exact j_reti d_Main_derive_25 rfl rfl
theorem x_derive0 {n : jN} {h : jH} {P : jP} (hw : ∀ q, tw (P q)) (hP : slo h P) {nx sz : Nat} (hnx : h 3 1 = nI nx) (hn : nx < 20) (hsz : h 3 0 = nI sz) (hs1 : sz ≤ 20) {a t : Nat} (ha : a < 6) (h0a : 0 < (P a).1) (ht : t < 6) : jC n 4 jy_Main_derive jc_Main_derive 5 (some .int) [.ref 0, .int (nI a), .int (nI 0), .int (nI t)] h (some (.int (nI ((P a).1)))) (holdH (sT h 113 (P a)) t nx sz (P t) (P a)) := by
  refine jC_of jm_Main_derive (L := [some (.ref 0), some (.int (nI a)), some (.int (nI 0)), some (.int (nI t)), none]) (Nat.le_of_ble_eq_true rfl) rfl trivial ?_
  generalize hres : (((some (.int (nI ((P a).1)))), holdH (sT h 113 (P a)) t nx sz (P t) (P a)) : Option Value × jH) = res
  refine j_aload_n d_Main_derive_0 rfl ?_
  refine j_iload_n d_Main_derive_1 rfl ?_
  refine j_callVs (As := [.int (nI a)]) (st := []) (x_noTable hw hP) d_Main_derive_2 (by decide) jm_Main_noTable jk_Main_103 ji_Main_noTable js_Main_noTable rfl (by decide) rfl rfl (Nat.le_of_ble_eq_true rfl) rfl ?_
  refine j_if_neB_f (tgt := 24) d_Main_derive_5 (by decide) (ho_n ha h0a) ?_
  refine j_iload_n d_Main_derive_8 rfl ?_
  refine j_iconst (v := nI 0) d_Main_derive_9 rfl ?_
  refine j_iconst (v := nI 4) d_Main_derive_10 rfl ?_
  refine j_callSs (As := [.int (nI 0), .int (nI 0), .int (nI 4)]) (st := []) x_outOf d_Main_derive_11 (by decide) jm_Main_outOf jk_Main_69 js_Main_outOf rfl (Nat.le_of_ble_eq_true rfl) rfl ?_
  refine j_if_neB_f (tgt := 24) d_Main_derive_14 (by decide) (oo_n (by omega) (by omega) (by omega)) ?_
  refine j_iload_n d_Main_derive_17 rfl ?_
  refine j_callSs (As := [.int (nI t)]) (st := []) x_noSlot d_Main_derive_18 (by decide) jm_Main_noSlot jk_Main_62 js_Main_noSlot rfl (Nat.le_of_ble_eq_true rfl) rfl ?_
  refine j_if_eqB_t (tgt := 26) d_Main_derive_21 (by decide) (sl_n ht) ?_
  refine j_aload_n d_Main_derive_26 rfl ?_
  refine j_getr (b := 1) d_Main_derive_27 jf_Main_11 rfl rfl rfl (by decide) ?_
  refine j_iload_n d_Main_derive_30 rfl ?_
  refine j_aaldN (b := 115 + 2 * a) d_Main_derive_31 rfl (by decide) (by omega) (by decide) (jrf_slot _ (by omega)) (by omega) ?_
  refine j_astore (L' := [some (.ref 0), some (.int (nI a)), some (.int (nI 0)), some (.int (nI t)), some (.ref (115 + 2 * a))]) d_Main_derive_32 (by decide) rfl rfl ?_
  refine j_iload_n d_Main_derive_34 rfl ?_
  refine j_iconst (v := nI 1) d_Main_derive_35 rfl ?_
  refine j_icmp_neN_t (tgt := 51) d_Main_derive_36 (by decide) (by omega) (by omega) (by decide) ?_
  refine j_iload_n d_Main_derive_51 rfl ?_
  refine j_iconst (v := nI 4) d_Main_derive_52 rfl ?_
  refine j_icmp_neN_t (tgt := 72) d_Main_derive_53 (by decide) (by omega) (by omega) (by decide) ?_
  refine j_aload_n d_Main_derive_72 rfl ?_
  refine j_getr (b := 113) d_Main_derive_73 jf_Main_57 rfl rfl rfl (by decide) ?_
  refine j_aload d_Main_derive_76 rfl ?_
  refine j_callVn (As := [.ref (115 + 2 * a)]) (st := []) (x_become isT_108 (isT_slot a (by omega)) (by omega) (hP a (by omega)) (hw a)) d_Main_derive_78 (by decide) jm_Table_become jk_Main_85 ji_Table_become js_Table_become rfl (by decide) rfl rfl (Nat.le_of_ble_eq_true rfl) rfl ?_
  refine j_iload_n d_Main_derive_81 rfl ?_
  refine j_iconst (v := nI 2) d_Main_derive_82 rfl ?_
  refine j_icmp_neN_t (tgt := 96) d_Main_derive_83 (by decide) (by omega) (by omega) (by decide) ?_
  refine j_iload_n d_Main_derive_96 rfl ?_
  refine j_iconst (v := nI 3) d_Main_derive_97 rfl ?_
  refine j_icmp_neN_t (tgt := 108) d_Main_derive_98 (by decide) (by omega) (by omega) (by decide) ?_
  refine j_aload_n d_Main_derive_108 rfl ?_
  refine j_iload_n d_Main_derive_109 rfl ?_
  refine j_callVs (As := [.int (nI t)]) (st := []) (x_holdX hw hP hnx hn hsz hs1 (fun zz hz => ((sT_f (by omega) (by omega)).trans rfl)) (by omega) rep_sT (hw a)) d_Main_derive_110 (by decide) jm_Main_hold jk_Main_77 ji_Main_hold js_Main_hold rfl (by decide) rfl rfl (Nat.le_of_ble_eq_true rfl) rfl ?_
  subst hres
  exact j_reti d_Main_derive_113 rfl rfl
theorem x_derive1 {n : jN} {h : jH} {P : jP} (hw : ∀ q, tw (P q)) (hP : slo h P) {nx sz : Nat} (hnx : h 3 1 = nI nx) (hn : nx < 20) (hsz : h 3 0 = nI sz) (hs1 : sz ≤ 20) {a t : Nat} (ha : a < 6) (h0a : 0 < (P a).1) (ht : t < 6) : jC n 4 jy_Main_derive jc_Main_derive 5 (some .int) [.ref 0, .int (nI a), .int (nI 1), .int (nI t)] h (some (.int (nI ((P a).1)))) (holdH (sT h 113 (ttr (P a))) t nx sz (P t) (ttr (P a))) := by
  refine jC_of jm_Main_derive (L := [some (.ref 0), some (.int (nI a)), some (.int (nI 1)), some (.int (nI t)), none]) (Nat.le_of_ble_eq_true rfl) rfl trivial ?_
  generalize hres : (((some (.int (nI ((P a).1)))), holdH (sT h 113 (ttr (P a))) t nx sz (P t) (ttr (P a))) : Option Value × jH) = res
  refine j_aload_n d_Main_derive_0 rfl ?_
  refine j_iload_n d_Main_derive_1 rfl ?_
  refine j_callVs (As := [.int (nI a)]) (st := []) (x_noTable hw hP) d_Main_derive_2 (by decide) jm_Main_noTable jk_Main_103 ji_Main_noTable js_Main_noTable rfl (by decide) rfl rfl (Nat.le_of_ble_eq_true rfl) rfl ?_
  refine j_if_neB_f (tgt := 24) d_Main_derive_5 (by decide) (ho_n ha h0a) ?_
  refine j_iload_n d_Main_derive_8 rfl ?_
  refine j_iconst (v := nI 0) d_Main_derive_9 rfl ?_
  refine j_iconst (v := nI 4) d_Main_derive_10 rfl ?_
  refine j_callSs (As := [.int (nI 1), .int (nI 0), .int (nI 4)]) (st := []) x_outOf d_Main_derive_11 (by decide) jm_Main_outOf jk_Main_69 js_Main_outOf rfl (Nat.le_of_ble_eq_true rfl) rfl ?_
  refine j_if_neB_f (tgt := 24) d_Main_derive_14 (by decide) (oo_n (by omega) (by omega) (by omega)) ?_
  refine j_iload_n d_Main_derive_17 rfl ?_
  refine j_callSs (As := [.int (nI t)]) (st := []) x_noSlot d_Main_derive_18 (by decide) jm_Main_noSlot jk_Main_62 js_Main_noSlot rfl (Nat.le_of_ble_eq_true rfl) rfl ?_
  refine j_if_eqB_t (tgt := 26) d_Main_derive_21 (by decide) (sl_n ht) ?_
  refine j_aload_n d_Main_derive_26 rfl ?_
  refine j_getr (b := 1) d_Main_derive_27 jf_Main_11 rfl rfl rfl (by decide) ?_
  refine j_iload_n d_Main_derive_30 rfl ?_
  refine j_aaldN (b := 115 + 2 * a) d_Main_derive_31 rfl (by decide) (by omega) (by decide) (jrf_slot _ (by omega)) (by omega) ?_
  refine j_astore (L' := [some (.ref 0), some (.int (nI a)), some (.int (nI 1)), some (.int (nI t)), some (.ref (115 + 2 * a))]) d_Main_derive_32 (by decide) rfl rfl ?_
  refine j_iload_n d_Main_derive_34 rfl ?_
  refine j_iconst (v := nI 1) d_Main_derive_35 rfl ?_
  refine j_icmp_neN_f (tgt := 51) d_Main_derive_36 (by decide) (by omega) (by omega) (by decide) ?_
  refine j_aload_n d_Main_derive_39 rfl ?_
  refine j_getr (b := 113) d_Main_derive_40 jf_Main_57 rfl rfl rfl (by decide) ?_
  refine j_aload d_Main_derive_43 rfl ?_
  refine j_callVn (As := [.ref (115 + 2 * a)]) (st := []) (x_turn isT_108 (isT_slot a (by omega)) (by omega) (hP a (by omega)) (hw a)) d_Main_derive_45 (by decide) jm_Table_turn jk_Main_121 ji_Table_turn js_Table_turn rfl (by decide) rfl rfl (Nat.le_of_ble_eq_true rfl) rfl ?_
  refine j_goto (tgt := 81) d_Main_derive_48 (by decide) ?_
  refine j_iload_n d_Main_derive_81 rfl ?_
  refine j_iconst (v := nI 2) d_Main_derive_82 rfl ?_
  refine j_icmp_neN_t (tgt := 96) d_Main_derive_83 (by decide) (by omega) (by omega) (by decide) ?_
  refine j_iload_n d_Main_derive_96 rfl ?_
  refine j_iconst (v := nI 3) d_Main_derive_97 rfl ?_
  refine j_icmp_neN_t (tgt := 108) d_Main_derive_98 (by decide) (by omega) (by omega) (by decide) ?_
  refine j_aload_n d_Main_derive_108 rfl ?_
  refine j_iload_n d_Main_derive_109 rfl ?_
  refine j_callVs (As := [.int (nI t)]) (st := []) (x_holdX hw hP hnx hn hsz hs1 (fun zz hz => ((sT_f (by omega) (by omega)).trans rfl)) (by omega) rep_sT (tw_tr (hw a))) d_Main_derive_110 (by decide) jm_Main_hold jk_Main_77 ji_Main_hold js_Main_hold rfl (by decide) rfl rfl (Nat.le_of_ble_eq_true rfl) rfl ?_
  subst hres
  exact j_reti d_Main_derive_113 rfl rfl
theorem x_derive2 {n : jN} {h : jH} {P : jP} (hw : ∀ q, tw (P q)) (hP : slo h P) {nx sz : Nat} (hnx : h 3 1 = nI nx) (hn : nx < 20) (hsz : h 3 0 = nI sz) (hs1 : sz ≤ 20) {a t : Nat} (ha : a < 6) (h0a : 0 < (P a).1) (ht : t < 6) : jC n 4 jy_Main_derive jc_Main_derive 5 (some .int) [.ref 0, .int (nI a), .int (nI 2), .int (nI t)] h (some (.int (nI ((P a).1)))) (holdH (sT (sT h 113 (P a)) 113 (tco (P a))) t nx sz (P t) (tco (P a))) := by
  refine jC_of jm_Main_derive (L := [some (.ref 0), some (.int (nI a)), some (.int (nI 2)), some (.int (nI t)), none]) (Nat.le_of_ble_eq_true rfl) rfl trivial ?_
  generalize hres : (((some (.int (nI ((P a).1)))), holdH (sT (sT h 113 (P a)) 113 (tco (P a))) t nx sz (P t) (tco (P a))) : Option Value × jH) = res
  refine j_aload_n d_Main_derive_0 rfl ?_
  refine j_iload_n d_Main_derive_1 rfl ?_
  refine j_callVs (As := [.int (nI a)]) (st := []) (x_noTable hw hP) d_Main_derive_2 (by decide) jm_Main_noTable jk_Main_103 ji_Main_noTable js_Main_noTable rfl (by decide) rfl rfl (Nat.le_of_ble_eq_true rfl) rfl ?_
  refine j_if_neB_f (tgt := 24) d_Main_derive_5 (by decide) (ho_n ha h0a) ?_
  refine j_iload_n d_Main_derive_8 rfl ?_
  refine j_iconst (v := nI 0) d_Main_derive_9 rfl ?_
  refine j_iconst (v := nI 4) d_Main_derive_10 rfl ?_
  refine j_callSs (As := [.int (nI 2), .int (nI 0), .int (nI 4)]) (st := []) x_outOf d_Main_derive_11 (by decide) jm_Main_outOf jk_Main_69 js_Main_outOf rfl (Nat.le_of_ble_eq_true rfl) rfl ?_
  refine j_if_neB_f (tgt := 24) d_Main_derive_14 (by decide) (oo_n (by omega) (by omega) (by omega)) ?_
  refine j_iload_n d_Main_derive_17 rfl ?_
  refine j_callSs (As := [.int (nI t)]) (st := []) x_noSlot d_Main_derive_18 (by decide) jm_Main_noSlot jk_Main_62 js_Main_noSlot rfl (Nat.le_of_ble_eq_true rfl) rfl ?_
  refine j_if_eqB_t (tgt := 26) d_Main_derive_21 (by decide) (sl_n ht) ?_
  refine j_aload_n d_Main_derive_26 rfl ?_
  refine j_getr (b := 1) d_Main_derive_27 jf_Main_11 rfl rfl rfl (by decide) ?_
  refine j_iload_n d_Main_derive_30 rfl ?_
  refine j_aaldN (b := 115 + 2 * a) d_Main_derive_31 rfl (by decide) (by omega) (by decide) (jrf_slot _ (by omega)) (by omega) ?_
  refine j_astore (L' := [some (.ref 0), some (.int (nI a)), some (.int (nI 2)), some (.int (nI t)), some (.ref (115 + 2 * a))]) d_Main_derive_32 (by decide) rfl rfl ?_
  refine j_iload_n d_Main_derive_34 rfl ?_
  refine j_iconst (v := nI 1) d_Main_derive_35 rfl ?_
  refine j_icmp_neN_t (tgt := 51) d_Main_derive_36 (by decide) (by omega) (by omega) (by decide) ?_
  refine j_iload_n d_Main_derive_51 rfl ?_
  refine j_iconst (v := nI 4) d_Main_derive_52 rfl ?_
  refine j_icmp_neN_t (tgt := 72) d_Main_derive_53 (by decide) (by omega) (by omega) (by decide) ?_
  refine j_aload_n d_Main_derive_72 rfl ?_
  refine j_getr (b := 113) d_Main_derive_73 jf_Main_57 rfl rfl rfl (by decide) ?_
  refine j_aload d_Main_derive_76 rfl ?_
  refine j_callVn (As := [.ref (115 + 2 * a)]) (st := []) (x_become isT_108 (isT_slot a (by omega)) (by omega) (hP a (by omega)) (hw a)) d_Main_derive_78 (by decide) jm_Table_become jk_Main_85 ji_Table_become js_Table_become rfl (by decide) rfl rfl (Nat.le_of_ble_eq_true rfl) rfl ?_
  refine j_iload_n d_Main_derive_81 rfl ?_
  refine j_iconst (v := nI 2) d_Main_derive_82 rfl ?_
  refine j_icmp_neN_f (tgt := 96) d_Main_derive_83 (by decide) (by omega) (by omega) (by decide) ?_
  refine j_aload_n d_Main_derive_86 rfl ?_
  refine j_getr (b := 113) d_Main_derive_87 jf_Main_57 rfl rfl rfl (by decide) ?_
  refine j_callVn (As := []) (st := []) (x_negate isT_108 rep_sT (hw a)) d_Main_derive_90 (by decide) jm_Table_negate jk_Main_128 ji_Table_negate js_Table_negate rfl (by decide) rfl rfl (Nat.le_of_ble_eq_true rfl) rfl ?_
  refine j_goto (tgt := 108) d_Main_derive_93 (by decide) ?_
  refine j_aload_n d_Main_derive_108 rfl ?_
  refine j_iload_n d_Main_derive_109 rfl ?_
  refine j_callVs (As := [.int (nI t)]) (st := []) (x_holdX hw hP hnx hn hsz hs1 (fun zz hz => ((sT_f (by omega) (by omega)).trans ((sT_f (by omega) (by omega)).trans rfl))) (by omega) rep_sT (tw_co (hw a))) d_Main_derive_110 (by decide) jm_Main_hold jk_Main_77 ji_Main_hold js_Main_hold rfl (by decide) rfl rfl (Nat.le_of_ble_eq_true rfl) rfl ?_
  subst hres
  exact j_reti d_Main_derive_113 rfl rfl
theorem x_derive3 {n : jN} {h : jH} {P : jP} (hw : ∀ q, tw (P q)) (hP : slo h P) {nx sz : Nat} (hnx : h 3 1 = nI nx) (hn : nx < 20) (hsz : h 3 0 = nI sz) (hs1 : sz ≤ 20) {a t : Nat} (ha : a < 6) (h0a : 0 < (P a).1) (ht : t < 6) : jC n 4 jy_Main_derive jc_Main_derive 5 (some .int) [.ref 0, .int (nI a), .int (nI 3), .int (nI t)] h (some (.int (nI ((P a).1)))) (holdH (sT (sT h 113 (P a)) 113 (tclo (P a))) t nx sz (P t) (tclo (P a))) := by
  refine jC_of jm_Main_derive (L := [some (.ref 0), some (.int (nI a)), some (.int (nI 3)), some (.int (nI t)), none]) (Nat.le_of_ble_eq_true rfl) rfl trivial ?_
  generalize hres : (((some (.int (nI ((P a).1)))), holdH (sT (sT h 113 (P a)) 113 (tclo (P a))) t nx sz (P t) (tclo (P a))) : Option Value × jH) = res
  refine j_aload_n d_Main_derive_0 rfl ?_
  refine j_iload_n d_Main_derive_1 rfl ?_
  refine j_callVs (As := [.int (nI a)]) (st := []) (x_noTable hw hP) d_Main_derive_2 (by decide) jm_Main_noTable jk_Main_103 ji_Main_noTable js_Main_noTable rfl (by decide) rfl rfl (Nat.le_of_ble_eq_true rfl) rfl ?_
  refine j_if_neB_f (tgt := 24) d_Main_derive_5 (by decide) (ho_n ha h0a) ?_
  refine j_iload_n d_Main_derive_8 rfl ?_
  refine j_iconst (v := nI 0) d_Main_derive_9 rfl ?_
  refine j_iconst (v := nI 4) d_Main_derive_10 rfl ?_
  refine j_callSs (As := [.int (nI 3), .int (nI 0), .int (nI 4)]) (st := []) x_outOf d_Main_derive_11 (by decide) jm_Main_outOf jk_Main_69 js_Main_outOf rfl (Nat.le_of_ble_eq_true rfl) rfl ?_
  refine j_if_neB_f (tgt := 24) d_Main_derive_14 (by decide) (oo_n (by omega) (by omega) (by omega)) ?_
  refine j_iload_n d_Main_derive_17 rfl ?_
  refine j_callSs (As := [.int (nI t)]) (st := []) x_noSlot d_Main_derive_18 (by decide) jm_Main_noSlot jk_Main_62 js_Main_noSlot rfl (Nat.le_of_ble_eq_true rfl) rfl ?_
  refine j_if_eqB_t (tgt := 26) d_Main_derive_21 (by decide) (sl_n ht) ?_
  refine j_aload_n d_Main_derive_26 rfl ?_
  refine j_getr (b := 1) d_Main_derive_27 jf_Main_11 rfl rfl rfl (by decide) ?_
  refine j_iload_n d_Main_derive_30 rfl ?_
  refine j_aaldN (b := 115 + 2 * a) d_Main_derive_31 rfl (by decide) (by omega) (by decide) (jrf_slot _ (by omega)) (by omega) ?_
  refine j_astore (L' := [some (.ref 0), some (.int (nI a)), some (.int (nI 3)), some (.int (nI t)), some (.ref (115 + 2 * a))]) d_Main_derive_32 (by decide) rfl rfl ?_
  refine j_iload_n d_Main_derive_34 rfl ?_
  refine j_iconst (v := nI 1) d_Main_derive_35 rfl ?_
  refine j_icmp_neN_t (tgt := 51) d_Main_derive_36 (by decide) (by omega) (by omega) (by decide) ?_
  refine j_iload_n d_Main_derive_51 rfl ?_
  refine j_iconst (v := nI 4) d_Main_derive_52 rfl ?_
  refine j_icmp_neN_t (tgt := 72) d_Main_derive_53 (by decide) (by omega) (by omega) (by decide) ?_
  refine j_aload_n d_Main_derive_72 rfl ?_
  refine j_getr (b := 113) d_Main_derive_73 jf_Main_57 rfl rfl rfl (by decide) ?_
  refine j_aload d_Main_derive_76 rfl ?_
  refine j_callVn (As := [.ref (115 + 2 * a)]) (st := []) (x_become isT_108 (isT_slot a (by omega)) (by omega) (hP a (by omega)) (hw a)) d_Main_derive_78 (by decide) jm_Table_become jk_Main_85 ji_Table_become js_Table_become rfl (by decide) rfl rfl (Nat.le_of_ble_eq_true rfl) rfl ?_
  refine j_iload_n d_Main_derive_81 rfl ?_
  refine j_iconst (v := nI 2) d_Main_derive_82 rfl ?_
  refine j_icmp_neN_t (tgt := 96) d_Main_derive_83 (by decide) (by omega) (by omega) (by decide) ?_
  refine j_iload_n d_Main_derive_96 rfl ?_
  refine j_iconst (v := nI 3) d_Main_derive_97 rfl ?_
  refine j_icmp_neN_f (tgt := 108) d_Main_derive_98 (by decide) (by omega) (by omega) (by decide) ?_
  refine j_aload_n d_Main_derive_101 rfl ?_
  refine j_getr (b := 113) d_Main_derive_102 jf_Main_57 rfl rfl rfl (by decide) ?_
  refine j_callVn (As := []) (st := []) (x_close isT_108 rep_sT (hw a)) d_Main_derive_105 (by decide) jm_Table_close jk_Main_131 ji_Table_close js_Table_close rfl (by decide) rfl rfl (Nat.le_of_ble_eq_true rfl) rfl ?_
  refine j_aload_n d_Main_derive_108 rfl ?_
  refine j_iload_n d_Main_derive_109 rfl ?_
  refine j_callVs (As := [.int (nI t)]) (st := []) (x_holdX hw hP hnx hn hsz hs1 (fun zz hz => ((sT_f (by omega) (by omega)).trans ((sT_f (by omega) (by omega)).trans rfl))) (by omega) rep_sT (tw_clo (hw a))) d_Main_derive_110 (by decide) jm_Main_hold jk_Main_77 ji_Main_hold js_Main_hold rfl (by decide) rfl rfl (Nat.le_of_ble_eq_true rfl) rfl ?_
  subst hres
  exact j_reti d_Main_derive_113 rfl rfl
theorem x_derive4 {n : jN} {h : jH} {P : jP} (hw : ∀ q, tw (P q)) (hP : slo h P) {nx sz : Nat} (hnx : h 3 1 = nI nx) (hn : nx < 20) (hsz : h 3 0 = nI sz) (hs1 : sz ≤ 20) {a t : Nat} (ha : a < 6) (h0a : 0 < (P a).1) (ht : t < 6) : jC n 4 jy_Main_derive jc_Main_derive 5 (some .int) [.ref 0, .int (nI a), .int (nI 4), .int (nI t)] h (some (.int (nI ((P a).1)))) (holdH (fgH h (115 + 2 * a) 113 (P a)) t nx sz (P t) (tgr (P a))) := by
  refine jC_of jm_Main_derive (L := [some (.ref 0), some (.int (nI a)), some (.int (nI 4)), some (.int (nI t)), none]) (Nat.le_of_ble_eq_true rfl) rfl trivial ?_
  generalize hres : (((some (.int (nI ((P a).1)))), holdH (fgH h (115 + 2 * a) 113 (P a)) t nx sz (P t) (tgr (P a))) : Option Value × jH) = res
  refine j_aload_n d_Main_derive_0 rfl ?_
  refine j_iload_n d_Main_derive_1 rfl ?_
  refine j_callVs (As := [.int (nI a)]) (st := []) (x_noTable hw hP) d_Main_derive_2 (by decide) jm_Main_noTable jk_Main_103 ji_Main_noTable js_Main_noTable rfl (by decide) rfl rfl (Nat.le_of_ble_eq_true rfl) rfl ?_
  refine j_if_neB_f (tgt := 24) d_Main_derive_5 (by decide) (ho_n ha h0a) ?_
  refine j_iload_n d_Main_derive_8 rfl ?_
  refine j_iconst (v := nI 0) d_Main_derive_9 rfl ?_
  refine j_iconst (v := nI 4) d_Main_derive_10 rfl ?_
  refine j_callSs (As := [.int (nI 4), .int (nI 0), .int (nI 4)]) (st := []) x_outOf d_Main_derive_11 (by decide) jm_Main_outOf jk_Main_69 js_Main_outOf rfl (Nat.le_of_ble_eq_true rfl) rfl ?_
  refine j_if_neB_f (tgt := 24) d_Main_derive_14 (by decide) (oo_n (by omega) (by omega) (by omega)) ?_
  refine j_iload_n d_Main_derive_17 rfl ?_
  refine j_callSs (As := [.int (nI t)]) (st := []) x_noSlot d_Main_derive_18 (by decide) jm_Main_noSlot jk_Main_62 js_Main_noSlot rfl (Nat.le_of_ble_eq_true rfl) rfl ?_
  refine j_if_eqB_t (tgt := 26) d_Main_derive_21 (by decide) (sl_n ht) ?_
  refine j_aload_n d_Main_derive_26 rfl ?_
  refine j_getr (b := 1) d_Main_derive_27 jf_Main_11 rfl rfl rfl (by decide) ?_
  refine j_iload_n d_Main_derive_30 rfl ?_
  refine j_aaldN (b := 115 + 2 * a) d_Main_derive_31 rfl (by decide) (by omega) (by decide) (jrf_slot _ (by omega)) (by omega) ?_
  refine j_astore (L' := [some (.ref 0), some (.int (nI a)), some (.int (nI 4)), some (.int (nI t)), some (.ref (115 + 2 * a))]) d_Main_derive_32 (by decide) rfl rfl ?_
  refine j_iload_n d_Main_derive_34 rfl ?_
  refine j_iconst (v := nI 1) d_Main_derive_35 rfl ?_
  refine j_icmp_neN_t (tgt := 51) d_Main_derive_36 (by decide) (by omega) (by omega) (by decide) ?_
  refine j_iload_n d_Main_derive_51 rfl ?_
  refine j_iconst (v := nI 4) d_Main_derive_52 rfl ?_
  refine j_icmp_neN_f (tgt := 72) d_Main_derive_53 (by decide) (by omega) (by omega) (by decide) ?_
  refine j_aload_n d_Main_derive_56 rfl ?_
  refine j_getr (b := 64) d_Main_derive_57 jf_Main_45 rfl rfl rfl (by decide) ?_
  refine j_aload d_Main_derive_60 rfl ?_
  refine j_aload_n d_Main_derive_62 rfl ?_
  refine j_getr (b := 113) d_Main_derive_63 jf_Main_57 rfl rfl rfl (by decide) ?_
  refine j_callVn (As := [.ref (115 + 2 * a), .ref 113]) (st := []) (x_findGreatest (isT_slot a ha) isT_108 (hP a ha) (hw a) (by omega) (by omega) (by omega)) d_Main_derive_66 (by decide) jm_Spaces_findGreatest jk_Main_124 ji_Spaces_findGreatest js_Spaces_findGreatest rfl (by decide) rfl rfl (Nat.le_of_ble_eq_true rfl) rfl ?_
  refine j_goto (tgt := 81) d_Main_derive_69 (by decide) ?_
  refine j_iload_n d_Main_derive_81 rfl ?_
  refine j_iconst (v := nI 2) d_Main_derive_82 rfl ?_
  refine j_icmp_neN_t (tgt := 96) d_Main_derive_83 (by decide) (by omega) (by omega) (by decide) ?_
  refine j_iload_n d_Main_derive_96 rfl ?_
  refine j_iconst (v := nI 3) d_Main_derive_97 rfl ?_
  refine j_icmp_neN_t (tgt := 108) d_Main_derive_98 (by decide) (by omega) (by omega) (by decide) ?_
  refine j_aload_n d_Main_derive_108 rfl ?_
  refine j_iload_n d_Main_derive_109 rfl ?_
  refine j_callVs (As := [.int (nI t)]) (st := []) (x_holdX hw hP hnx hn hsz hs1 (fun zz hz => ((fgH_f (by omega) (by omega) (by omega)).trans rfl)) (by omega) fgH_r (tw_gr (hw a))) d_Main_derive_110 (by decide) jm_Main_hold jk_Main_77 ji_Main_hold js_Main_hold rfl (by decide) rfl rfl (Nat.le_of_ble_eq_true rfl) rfl ?_
  subst hres
  exact j_reti d_Main_derive_113 rfl rfl
theorem rep_nil {h : jH} {t : Nat} : rep (jup2 h t 0 (nI 0)) t (tzero 0) := ⟨jup2_r, fun i hi => absurd hi (Nat.not_lt_zero i)⟩
theorem x_clear_bad {n : jN} {h : jH} {s : Int32} (hb : jsl s = false) : jC n 3 jy_Main_clear jc_Main_clear 3 (some .int) [.ref 0, .int s] h (some (.int (-1))) h := by
  refine jC_of jm_Main_clear (L := [some (.ref 0), some (.int s), none]) (Nat.le_of_ble_eq_true rfl) rfl trivial ?_
  generalize hres : (((some (.int (-1))), h) : Option Value × jH) = res
  refine j_iload_n d_Main_clear_0 rfl ?_
  refine j_callSs (As := [.int s]) (st := []) x_noSlot d_Main_clear_1 (by decide) jm_Main_noSlot jk_Main_62 js_Main_noSlot rfl (Nat.le_of_ble_eq_true rfl) rfl ?_
  refine j_if_eqB (tgt := 9) d_Main_clear_4 (by decide) (fun c1 => ?_) (fun c1 => ?_)
  · exact absurd hb (by simp_all)
  · refine j_iconst (v := -1) d_Main_clear_7 rfl ?_
    subst hres
    exact j_reti d_Main_clear_8 rfl rfl
theorem x_clear0 {n : jN} {h : jH} {P : jP} (hw : ∀ q, tw (P q)) (hP : slo h P) {s : Nat} (hs : s < 6) (h0 : (P s).1 = 0) : jC n 3 jy_Main_clear jc_Main_clear 3 (some .int) [.ref 0, .int (nI s)] h (some (.int (nI 0))) h := by
  refine jC_of jm_Main_clear (L := [some (.ref 0), some (.int (nI s)), none]) (Nat.le_of_ble_eq_true rfl) rfl trivial ?_
  generalize hres : (((some (.int (nI 0))), h) : Option Value × jH) = res
  refine j_iload_n d_Main_clear_0 rfl ?_
  refine j_callSs (As := [.int (nI s)]) (st := []) x_noSlot d_Main_clear_1 (by decide) jm_Main_noSlot jk_Main_62 js_Main_noSlot rfl (Nat.le_of_ble_eq_true rfl) rfl ?_
  refine j_if_eqB_t (tgt := 9) d_Main_clear_4 (by decide) (sl_n hs) ?_
  refine j_aload_n d_Main_clear_9 rfl ?_
  refine j_getr (b := 1) d_Main_clear_10 jf_Main_11 rfl rfl rfl (by decide) ?_
  refine j_iload_n d_Main_clear_13 rfl ?_
  refine j_aaldN (b := 115 + 2 * s) d_Main_clear_14 rfl (by decide) (by omega) (by decide) (jrf_slot _ (by omega)) (by omega) ?_
  refine j_getv (v := nI ((P s).1)) d_Main_clear_15 jf_Main_106 (isT_slot s (by omega)).1 rfl (hP s (by omega)).1 ?_
  refine j_istore_n (L' := [some (.ref 0), some (.int (nI s)), some (.int (nI ((P s).1)))]) d_Main_clear_18 (by decide) rfl rfl ?_
  refine j_iload_n d_Main_clear_19 rfl ?_
  refine j_if_leN_t (tgt := 37) d_Main_clear_20 (by decide) (by omega) h0 ?_
  refine j_iload_n d_Main_clear_37 rfl ?_
  subst hres
  exact j_reti d_Main_clear_38 (congrArg nI h0) rfl
theorem x_clear {n : jN} {h : jH} {P : jP} (hw : ∀ q, tw (P q)) (hP : slo h P) {nx sz : Nat} (hnx : h 3 1 = nI nx) (hn : nx < 20) (hsz : h 3 0 = nI sz) (hs1 : sz ≤ 20) {s : Nat} (hs : s < 6) (h0 : 0 < (P s).1) : jC n 3 jy_Main_clear jc_Main_clear 3 (some .int) [.ref 0, .int (nI s)] h (some (.int (nI ((P s).1)))) (holdH (jup2 h 113 0 (nI 0)) s nx sz (P s) (tzero 0)) := by
  have hn12 := (hw s).1
  refine jC_of jm_Main_clear (L := [some (.ref 0), some (.int (nI s)), none]) (Nat.le_of_ble_eq_true rfl) rfl trivial ?_
  generalize hres : (((some (.int (nI ((P s).1)))), holdH (jup2 h 113 0 (nI 0)) s nx sz (P s) (tzero 0)) : Option Value × jH) = res
  refine j_iload_n d_Main_clear_0 rfl ?_
  refine j_callSs (As := [.int (nI s)]) (st := []) x_noSlot d_Main_clear_1 (by decide) jm_Main_noSlot jk_Main_62 js_Main_noSlot rfl (Nat.le_of_ble_eq_true rfl) rfl ?_
  refine j_if_eqB_t (tgt := 9) d_Main_clear_4 (by decide) (sl_n hs) ?_
  refine j_aload_n d_Main_clear_9 rfl ?_
  refine j_getr (b := 1) d_Main_clear_10 jf_Main_11 rfl rfl rfl (by decide) ?_
  refine j_iload_n d_Main_clear_13 rfl ?_
  refine j_aaldN (b := 115 + 2 * s) d_Main_clear_14 rfl (by decide) (by omega) (by decide) (jrf_slot _ (by omega)) (by omega) ?_
  refine j_getv (v := nI ((P s).1)) d_Main_clear_15 jf_Main_106 (isT_slot s (by omega)).1 rfl (hP s (by omega)).1 ?_
  refine j_istore_n (L' := [some (.ref 0), some (.int (nI s)), some (.int (nI ((P s).1)))]) d_Main_clear_18 (by decide) rfl rfl ?_
  refine j_iload_n d_Main_clear_19 rfl ?_
  refine j_if_leN_f (tgt := 37) d_Main_clear_20 (by decide) (by omega) (by omega) ?_
  refine j_aload_n d_Main_clear_23 rfl ?_
  refine j_getr (b := 113) d_Main_clear_24 jf_Main_57 rfl rfl rfl (by decide) ?_
  refine j_iconst (v := nI 0) d_Main_clear_27 rfl ?_
  refine j_putv (h' := jup2 h 113 0 (nI 0)) d_Main_clear_28 jf_Main_106 rfl rfl rfl ?_
  refine j_aload_n d_Main_clear_31 rfl ?_
  refine j_iload_n d_Main_clear_32 rfl ?_
  refine j_callVs (As := [.int (nI s)]) (st := []) (x_holdX hw hP hnx hn hsz hs1 (fun zz hz => ((jup2_f (by omega)).trans rfl)) (by omega) rep_nil (tw_zero (by omega))) d_Main_clear_33 (by decide) jm_Main_hold jk_Main_77 ji_Main_hold js_Main_hold rfl (by decide) rfl rfl (Nat.le_of_ble_eq_true rfl) rfl ?_
  refine j_pop d_Main_clear_36 rfl ?_
  refine j_iload_n d_Main_clear_37 rfl ?_
  subst hres
  exact j_reti d_Main_clear_38 rfl rfl
theorem x_same_bad {n : jN} {h : jH} {P : jP} (hw : ∀ q, tw (P q)) (hP : slo h P) {a b : Int32} (hb : (jho P a && jho P b) = false) : jC n 3 jy_Main_same jc_Main_same 3 (some .int) [.ref 0, .int a, .int b] h (some (.int (-1))) h := by
  refine jC_of jm_Main_same (L := [some (.ref 0), some (.int a), some (.int b)]) (Nat.le_of_ble_eq_true rfl) rfl trivial ?_
  generalize hres : (((some (.int (-1))), h) : Option Value × jH) = res
  refine j_aload_n d_Main_same_0 rfl ?_
  refine j_iload_n d_Main_same_1 rfl ?_
  refine j_callVs (As := [.int a]) (st := []) (x_noTable hw hP) d_Main_same_2 (by decide) jm_Main_noTable jk_Main_103 ji_Main_noTable js_Main_noTable rfl (by decide) rfl rfl (Nat.le_of_ble_eq_true rfl) rfl ?_
  refine j_if_neB (tgt := 16) d_Main_same_5 (by decide) (fun c1 => ?_) (fun c1 => ?_)
  · refine j_iconst (v := -1) d_Main_same_16 rfl ?_
    subst hres
    exact j_reti d_Main_same_17 rfl rfl
  · refine j_aload_n d_Main_same_8 rfl ?_
    refine j_iload_n d_Main_same_9 rfl ?_
    refine j_callVs (As := [.int b]) (st := []) (x_noTable hw hP) d_Main_same_10 (by decide) jm_Main_noTable jk_Main_103 ji_Main_noTable js_Main_noTable rfl (by decide) rfl rfl (Nat.le_of_ble_eq_true rfl) rfl ?_
    refine j_if_eqB (tgt := 18) d_Main_same_13 (by decide) (fun c2 => ?_) (fun c2 => ?_)
    · exact absurd hb (by simp_all)
    · refine j_iconst (v := -1) d_Main_same_16 rfl ?_
      subst hres
      exact j_reti d_Main_same_17 rfl rfl
theorem x_same {n : jN} {h : jH} {P : jP} (hw : ∀ q, tw (P q)) (hP : slo h P) {a b : Nat} (ha : a < 6) (h0a : 0 < (P a).1) (hb : b < 6) (h0b : 0 < (P b).1) : jC n 3 jy_Main_same jc_Main_same 3 (some .int) [.ref 0, .int (nI a), .int (nI b)] h (some (.int (jbo (tlik (P a) (P b))))) h := by
  refine jC_of jm_Main_same (L := [some (.ref 0), some (.int (nI a)), some (.int (nI b))]) (Nat.le_of_ble_eq_true rfl) rfl trivial ?_
  generalize hres : (((some (.int (jbo (tlik (P a) (P b))))), h) : Option Value × jH) = res
  refine j_aload_n d_Main_same_0 rfl ?_
  refine j_iload_n d_Main_same_1 rfl ?_
  refine j_callVs (As := [.int (nI a)]) (st := []) (x_noTable hw hP) d_Main_same_2 (by decide) jm_Main_noTable jk_Main_103 ji_Main_noTable js_Main_noTable rfl (by decide) rfl rfl (Nat.le_of_ble_eq_true rfl) rfl ?_
  refine j_if_neB_f (tgt := 16) d_Main_same_5 (by decide) (ho_n ha h0a) ?_
  refine j_aload_n d_Main_same_8 rfl ?_
  refine j_iload_n d_Main_same_9 rfl ?_
  refine j_callVs (As := [.int (nI b)]) (st := []) (x_noTable hw hP) d_Main_same_10 (by decide) jm_Main_noTable jk_Main_103 ji_Main_noTable js_Main_noTable rfl (by decide) rfl rfl (Nat.le_of_ble_eq_true rfl) rfl ?_
  refine j_if_eqB_t (tgt := 18) d_Main_same_13 (by decide) (ho_n hb h0b) ?_
  refine j_aload_n d_Main_same_18 rfl ?_
  refine j_getr (b := 1) d_Main_same_19 jf_Main_11 rfl rfl rfl (by decide) ?_
  refine j_iload_n d_Main_same_22 rfl ?_
  refine j_aaldN (b := 115 + 2 * a) d_Main_same_23 rfl (by decide) (by omega) (by decide) (jrf_slot _ (by omega)) (by omega) ?_
  refine j_aload_n d_Main_same_24 rfl ?_
  refine j_getr (b := 1) d_Main_same_25 jf_Main_11 rfl rfl rfl (by decide) ?_
  refine j_iload_n d_Main_same_28 rfl ?_
  refine j_aaldN (b := 115 + 2 * b) d_Main_same_29 rfl (by decide) (by omega) (by decide) (jrf_slot _ (by omega)) (by omega) ?_
  refine j_callVs (As := [.ref (115 + 2 * b)]) (st := []) (x_isLike (isT_slot a (by omega)) (isT_slot b (by omega)) (hP a (by omega)) (hw a) (hP b (by omega)) (hw b)) d_Main_same_30 (by decide) jm_Table_isLike jk_Main_134 ji_Table_isLike js_Table_isLike (isT_slot a (by omega)).1 (by decide) rfl rfl (Nat.le_of_ble_eq_true rfl) rfl ?_
  refine j_if_eqB (tgt := 40) d_Main_same_33 (by decide) (fun c => ?_) (fun c => ?_)
  · refine j_iconst (v := nI 0) d_Main_same_40 rfl ?_
    subst hres
    exact j_reti d_Main_same_41 (by rw [c]; rfl) rfl
  · refine j_iconst (v := nI 1) d_Main_same_36 rfl ?_
    refine j_goto (tgt := 41) d_Main_same_37 (by decide) ?_
    subst hres
    exact j_reti d_Main_same_41 (by rw [c]; rfl) rfl

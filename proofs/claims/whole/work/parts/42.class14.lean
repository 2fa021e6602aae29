def cS (h : jH) (a : Nat) (v : Nat → Int32) : jH := fun c => if c = a then v else h c
theorem cS_r {h : jH} {a k : Nat} {v : Nat → Int32} : cS h a v a k = v k := by simp [cS]
theorem cS_o {h : jH} {a b : Nat} {v : Nat → Int32} (h1 : b ≠ a) : cS h a v b = h b := by simp [cS, h1]
theorem cS_s {h : jH} {a i : Nat} {v : Nat → Int32} {x : Int32} : jup2 (cS h a v) a i x = cS h a (jfu v i x) := by
  funext c k
  simp only [jup2, cS]
  by_cases e : c = a
  · by_cases e2 : k = i <;> simp [e, e2, jfu]
  · simp [e]
theorem cS_0 {h : jH} {a : Nat} : h = cS h a (h a) := by
  funext c k
  simp only [cS]
  by_cases e : c = a <;> simp [e]
theorem cS_cg {h : jH} {a : Nat} {v v' : Nat → Int32} (e : ∀ k, v k = v' k) : cS h a v = cS h a v' := by rw [show v = v' from funext e]
theorem jup2_r {h : jH} {a k : Nat} {v : Int32} : jup2 h a k v a k = v := by simp [jup2]
theorem jup2_o {h : jH} {a i k : Nat} {v : Int32} (h1 : i ≠ k) : jup2 h a i v a k = h a k := by simp [jup2, Ne.symm h1]
theorem jif_cg {i z set : Nat} {x y : Int32} (h : ¬ z = i) : (if z < i ∧ set.testBit z = true then x else y) = (if z < i + 1 ∧ set.testBit z = true then x else y) := by
  by_cases e : z < i
  · by_cases e2 : set.testBit z = true
    · rw [if_pos ⟨e, e2⟩, if_pos ⟨by omega, e2⟩]
    · rw [if_neg (fun q => e2 q.2), if_neg (fun q => e2 q.2)]
  · rw [if_neg (fun q => e q.1), if_neg (fun q => by omega)]
theorem x_settle {n : jN} {h : jH} {set k : Nat} (hse : set < 4096) : jC n 0 jy_Rings_settle jc_Rings_settle 4 none [.ref 51, .int (nI set), .int (nI k)] h none (cS h 52 (fun z => if z < 12 ∧ set.testBit z = true then nI k else h 52 z)) := by
  refine jC_of jm_Rings_settle (L := [some (.ref 51), some (.int (nI set)), some (.int (nI k)), none]) (Nat.le_of_ble_eq_true rfl) rfl trivial ?_
  generalize hres : ((none, cS h 52 (fun z => if z < 12 ∧ set.testBit z = true then nI k else h 52 z)) : Option Value × jH) = res
  refine j_heap (h' := cS h 52 (fun z => if z < 0 ∧ set.testBit z = true then nI k else h 52 z)) (cS_0.trans (cS_cg (fun z => (if_neg (by omega)).symm))) ?_
  refine j_iconst (v := nI 0) d_Rings_settle_0 rfl ?_
  refine j_istore_n (L' := [some (.ref 51), some (.int (nI set)), some (.int (nI k)), some (.int (nI 0))]) d_Rings_settle_1 (by decide) rfl rfl ?_
  refine j_loop (P := fun i => jJ n 0 jc_Rings_settle 4 "YesNoPowers$Rings" 2 [some (.ref 51), some (.int (nI set)), some (.int (nI k)), some (.int (nI i))] [] (cS h 52 (fun z => if z < i ∧ set.testBit z = true then nI k else h 52 z)) res) (m := 12) ?_ (fun i hi ih => ?_)
  · refine j_iload_n d_Rings_settle_2 rfl ?_
    refine j_bipush (v := nI 12) d_Rings_settle_3 (by decide) ?_
    refine j_icmp_geN_t (tgt := 30) d_Rings_settle_5 (by decide) (by omega) (by omega) (by omega) ?_
    subst hres
    exact j_retv d_Rings_settle_30 rfl
  · refine j_iload_n d_Rings_settle_2 rfl ?_
    refine j_bipush (v := nI 12) d_Rings_settle_3 (by decide) ?_
    refine j_icmp_geN_f (tgt := 30) d_Rings_settle_5 (by decide) (by omega) (by omega) (Nat.not_le.mpr hi) ?_
    refine j_iload_n d_Rings_settle_8 rfl ?_
    refine j_iload_n d_Rings_settle_9 rfl ?_
    refine j_ishrN d_Rings_settle_10 (by omega) (by omega) ?_
    refine j_iconst (v := nI 1) d_Rings_settle_11 rfl ?_
    refine j_iandN d_Rings_settle_12 ?_
    refine j_top (w := jbo ((set).testBit i)) (ni_bit _ _) ?_
    refine j_iconst (v := nI 1) d_Rings_settle_13 rfl ?_
    refine j_icmp_neB (tgt := 24) d_Rings_settle_14 (by decide) (fun c => ?_) (fun c => ?_)
    · refine j_iincN (x := i) (L' := [some (.ref 51), some (.int (nI set)), some (.int (nI k)), some (.int (nI (i + 1)))]) d_Rings_settle_24 rfl (by decide) rfl rfl ?_
      refine j_goto (tgt := 2) d_Rings_settle_27 (by decide) ?_
      refine j_heap (h' := cS h 52 (fun z => if z < i + 1 ∧ set.testBit z = true then nI k else h 52 z)) (cS_cg (fun z => by by_cases e : z = i; (rw [if_neg (fun q => by omega), if_neg (fun q => by rw [e, c] at q; cases q.2)]); (exact jif_cg (by omega)))) ?_
      exact ih
    · refine j_aload_n d_Rings_settle_17 rfl ?_
      refine j_getr (b := 52) d_Rings_settle_18 jf_Rings_9 rfl rfl rfl (by decide) ?_
      refine j_iload_n d_Rings_settle_21 rfl ?_
      refine j_iload_n d_Rings_settle_22 rfl ?_
      refine j_iastN (h' := cS h 52 (jfu (fun z => if z < i ∧ set.testBit z = true then nI k else h 52 z) i (nI k))) d_Rings_settle_23 rfl (by omega) (by decide) cS_s ?_
      refine j_iincN (x := i) (L' := [some (.ref 51), some (.int (nI set)), some (.int (nI k)), some (.int (nI (i + 1)))]) d_Rings_settle_24 rfl (by decide) rfl rfl ?_
      refine j_goto (tgt := 2) d_Rings_settle_27 (by decide) ?_
      refine j_heap (h' := cS h 52 (fun z => if z < i + 1 ∧ set.testBit z = true then nI k else h 52 z)) (cS_cg (fun z => by simp only [jfu]; by_cases e : z = i; (rw [if_pos e, if_pos ⟨by omega, by rw [e]; exact c⟩]); (rw [if_neg e]; exact jif_cg (by omega)))) ?_
      exact ih
def sto (T : jT) (i : Nat) : Nat := 2 ^ i ||| ((tclo T).2 i &&& tcol (tclo T) i (tclo T).1)
theorem sto_lt {T : jT} (hT : tw T) {i : Nat} (hi : i < 12) : sto T i < 4096 := Nat.or_lt_two_pow (n := 12) (p2_lt hi) (Nat.and_lt_two_pow (n := 12) _ (tcol_lt hT.1))
/-- what is found at members below i: placed, how many, least ones, members, homes -/
def fcS (T : jT) : Nat → Nat × Nat × (Nat → Nat) × (Nat → Nat) × (Nat → Nat)
  | 0 => (0, 0, fun _ => 0, fun _ => 0, fun _ => 0)
  | i + 1 => if (fcS T i).1.testBit i = true then fcS T i else ((fcS T i).1 ||| sto T i, (fcS T i).2.1 + 1, jfu (fcS T i).2.2.1 (fcS T i).2.1 i, jfu (fcS T i).2.2.2.1 (fcS T i).2.1 (sto T i), fun z => if (sto T i).testBit z = true then (fcS T i).2.1 else (fcS T i).2.2.2.2 z)
theorem fcS_p {T : jT} {i : Nat} (h : (fcS T i).1.testBit i = true) : fcS T (i + 1) = fcS T i := if_pos h
theorem fcS_n {T : jT} {i : Nat} (h : (fcS T i).1.testBit i = false) : fcS T (i + 1) = ((fcS T i).1 ||| sto T i, (fcS T i).2.1 + 1, jfu (fcS T i).2.2.1 (fcS T i).2.1 i, jfu (fcS T i).2.2.2.1 (fcS T i).2.1 (sto T i), fun z => if (sto T i).testBit z = true then (fcS T i).2.1 else (fcS T i).2.2.2.2 z) := if_neg (by rw [h]; decide)
theorem fcS_b {T : jT} (hT : tw T) : ∀ ii, ii ≤ T.1 → (fcS T ii).1 < 4096 ∧ (fcS T ii).2.1 ≤ ii ∧ (∀ z, z < (fcS T ii).2.1 → (fcS T ii).2.2.1 z < ii ∧ (fcS T ii).2.2.2.1 z < 4096) ∧ (∀ z, (fcS T ii).1.testBit z = true → (fcS T ii).2.2.2.2 z < (fcS T ii).2.1) ∧ (∀ z, z < ii → (fcS T ii).1.testBit z = true)
  | 0, _ => ⟨by simp [fcS], Nat.le_refl _, fun z hz => absurd hz (Nat.not_lt_zero z), fun z hz => by simp [fcS] at hz, fun z hz => absurd hz (Nat.not_lt_zero z)⟩
  | ii + 1, hle => by
    obtain ⟨h1, h2, h3, h4, h5⟩ := fcS_b hT ii (by omega)
    have h12 := hT.1
    cases hb : (fcS T ii).1.testBit ii with
    | true =>
      rw [fcS_p hb]
      refine ⟨h1, by omega, fun z hz => ⟨by have := (h3 z hz).1; omega, (h3 z hz).2⟩, h4, fun z hz => ?_⟩
      by_cases e : z = ii
      · rw [e]; exact hb
      · exact h5 z (by omega)
    | false =>
      have hs := sto_lt hT (i := ii) (by omega)
      rw [fcS_n hb]
      refine ⟨Nat.or_lt_two_pow (n := 12) h1 hs, by show (fcS T ii).2.1 + 1 ≤ ii + 1; omega, fun z hz => ?_, fun z hz => ?_, fun z hz => ?_⟩
      · have hz : z < (fcS T ii).2.1 + 1 := hz
        simp only [jfu]
        by_cases e : z = (fcS T ii).2.1
        · rw [if_pos e, if_pos e]
          exact ⟨by omega, hs⟩
        · rw [if_neg e, if_neg e]
          have := h3 z (by omega)
          exact ⟨by omega, this.2⟩
      · have hz : ((fcS T ii).1 ||| sto T ii).testBit z = true := hz
        rw [Nat.testBit_or, Bool.or_eq_true] at hz
        show (if (sto T ii).testBit z = true then (fcS T ii).2.1 else (fcS T ii).2.2.2.2 z) < (fcS T ii).2.1 + 1
        by_cases e : (sto T ii).testBit z = true
        · rw [if_pos e]
          omega
        · rw [if_neg e]
          have := h4 z (hz.resolve_right e)
          omega
      · show ((fcS T ii).1 ||| sto T ii).testBit z = true
        rw [Nat.testBit_or, Bool.or_eq_true]
        by_cases e : z = ii
        · right
          rw [e, sto, Nat.testBit_or, Nat.testBit_two_pow_self, Bool.true_or]
        · left
          exact h5 z (by omega)
def clH (h : jH) (T : jT) : Nat → jH
  | 0 => jup2 (sT (sT h 60 T) 60 (tclo T)) 51 0 (nI 0)
  | i + 1 => if (fcS T i).1.testBit i = true then clH h T i else jup2 (cS (jup2 (jup2 (clH h T i) 54 (fcS T i).2.1 (nI i)) 53 (fcS T i).2.1 (nI (sto T i))) 52 (fun z => if z < 12 ∧ (sto T i).testBit z = true then nI (fcS T i).2.1 else clH h T i 52 z)) 51 0 (nI ((fcS T i).2.1 + 1))
theorem clH_f {h : jH} {T : jT} {a : Nat} (h1 : a < 51 ∨ 54 < a) (h2 : a ≠ 60) (h3 : a ≠ 61) : ∀ ii, clH h T ii a = h a
  | 0 => by rw [clH, jup2_f (by omega), sT_f h2 h3, sT_f h2 h3]
  | ii + 1 => by
    unfold clH
    split
    · exact clH_f h1 h2 h3 ii
    · rw [jup2_f (by omega), cS_o (by omega), jup2_f (by omega), jup2_f (by omega), clH_f h1 h2 h3 ii]
theorem clH_r {h : jH} {T : jT} : ∀ ii, rep (clH h T ii) 60 (tclo T)
  | 0 => rep_of (jup2_f (by decide)) (jup2_f (by decide)) rep_sT
  | ii + 1 => by
    unfold clH
    split
    · exact clH_r ii
    · exact rep_of (by rw [jup2_f (by decide), cS_o (by decide), jup2_f (by decide), jup2_f (by decide)]) (by rw [jup2_f (by decide), cS_o (by decide), jup2_f (by decide), jup2_f (by decide)]) (clH_r ii)
theorem clH_v {h : jH} {T : jT} : ∀ ii, clH h T ii 51 0 = nI (fcS T ii).2.1 ∧ (∀ z, z < (fcS T ii).2.1 → clH h T ii 54 z = nI ((fcS T ii).2.2.1 z)) ∧ (∀ z, z < (fcS T ii).2.1 → clH h T ii 53 z = nI ((fcS T ii).2.2.2.1 z)) ∧ (∀ z, z < 12 → (fcS T ii).1.testBit z = true → clH h T ii 52 z = nI ((fcS T ii).2.2.2.2 z))
  | 0 => ⟨by simp [clH, jup2, fcS], fun z hz => absurd hz (Nat.not_lt_zero z), fun z hz => absurd hz (Nat.not_lt_zero z), fun z _ hz => by simp [fcS] at hz⟩
  | ii + 1 => by
    obtain ⟨h1, h2, h3, h4⟩ := clH_v (h := h) (T := T) ii
    cases hb : (fcS T ii).1.testBit ii with
    | true =>
      have e : clH h T (ii + 1) = clH h T ii := if_pos hb
      rw [fcS_p hb, e]
      exact ⟨h1, h2, h3, h4⟩
    | false =>
      have e : clH h T (ii + 1) = jup2 (cS (jup2 (jup2 (clH h T ii) 54 (fcS T ii).2.1 (nI ii)) 53 (fcS T ii).2.1 (nI (sto T ii))) 52 (fun z => if z < 12 ∧ (sto T ii).testBit z = true then nI (fcS T ii).2.1 else clH h T ii 52 z)) 51 0 (nI ((fcS T ii).2.1 + 1)) := if_neg (by rw [hb]; decide)
      rw [fcS_n hb, e]
      refine ⟨jup2_r, fun z hz => ?_, fun z hz => ?_, fun z hz12 hz => ?_⟩
      · have hz : z < (fcS T ii).2.1 + 1 := hz
        rw [jup2_f (by decide), cS_o (by decide), jup2_f (by decide)]
        simp only [jup2, jfu]
        by_cases e : z = (fcS T ii).2.1
        · simp [e]
        · simp only [e, if_false, if_true]
          exact h2 z (by omega)
      · have hz : z < (fcS T ii).2.1 + 1 := hz
        rw [jup2_f (by decide), cS_o (by decide)]
        simp only [jup2, jfu]
        by_cases e : z = (fcS T ii).2.1
        · simp [e]
        · simp only [e, if_false, if_true]
          rw [if_neg (by decide)]
          exact h3 z (by omega)
      · have hz : ((fcS T ii).1 ||| sto T ii).testBit z = true := hz
        rw [Nat.testBit_or, Bool.or_eq_true] at hz
        rw [jup2_f (by decide), cS_r]
        show _ = nI (if (sto T ii).testBit z = true then (fcS T ii).2.1 else (fcS T ii).2.2.2.2 z)
        by_cases e : (sto T ii).testBit z = true
        · rw [if_pos ⟨hz12, e⟩, if_pos e]
        · rw [if_neg (fun q => e q.2), if_neg e]
          exact h4 z hz12 (hz.resolve_right e)
theorem x_findClasses {n : jN} {h : jH} {o : Nat} (ho : isT o) {T : jT} (hr : rep h o T) (hT : tw T) (hfo : o < 50 ∨ 63 < o) : jC n 2 jy_Rings_findClasses jc_Rings_findClasses 5 none [.ref 51, .ref o] h none (clH h T T.1) := by
  have hn12 := hT.1
  refine jC_of jm_Rings_findClasses (L := [some (.ref 51), some (.ref o), none, none, none]) (Nat.le_of_ble_eq_true rfl) rfl trivial ?_
  generalize hres : ((none, clH h T T.1) : Option Value × jH) = res
  refine j_aload_n d_Rings_findClasses_0 rfl ?_
  refine j_getr (b := 60) d_Rings_findClasses_1 jf_Rings_37 rfl rfl rfl (by decide) ?_
  refine j_aload_n d_Rings_findClasses_4 rfl ?_
  refine j_callVn (As := [.ref o]) (st := []) (x_become isT_60 ho (by omega) hr hT) d_Rings_findClasses_5 (by decide) jm_Table_become jk_Rings_69 ji_Table_become js_Table_become rfl (by decide) rfl rfl (Nat.le_of_ble_eq_true rfl) rfl ?_
  refine j_aload_n d_Rings_findClasses_8 rfl ?_
  refine j_getr (b := 60) d_Rings_findClasses_9 jf_Rings_37 rfl rfl rfl (by decide) ?_
  refine j_callVn (As := []) (st := []) (x_close isT_60 rep_sT hT) d_Rings_findClasses_12 (by decide) jm_Table_close jk_Rings_72 ji_Table_close js_Table_close rfl (by decide) rfl rfl (Nat.le_of_ble_eq_true rfl) rfl ?_
  refine j_aload_n d_Rings_findClasses_15 rfl ?_
  refine j_iconst (v := nI 0) d_Rings_findClasses_16 rfl ?_
  refine j_putv (h' := jup2 (sT (sT h 60 T) 60 (tclo T)) 51 0 (nI 0)) d_Rings_findClasses_17 jf_Rings_54 rfl rfl rfl ?_
  refine j_iconst (v := nI 0) d_Rings_findClasses_20 rfl ?_
  refine j_istore_n (L' := [some (.ref 51), some (.ref o), some (.int (nI 0)), none, none]) d_Rings_findClasses_21 (by decide) rfl rfl ?_
  refine j_iconst (v := nI 0) d_Rings_findClasses_22 rfl ?_
  refine j_istore_n (L' := [some (.ref 51), some (.ref o), some (.int (nI 0)), some (.int (nI 0)), none]) d_Rings_findClasses_23 (by decide) rfl rfl ?_
  refine j_loop (P := fun i => jJ n 2 jc_Rings_findClasses 5 "YesNoPowers$Rings" 24 [some (.ref 51), some (.ref o), some (.int (nI ((fcS T i).1))), some (.int (nI i)), none] [] (clH h T i) res) (m := T.1) ?_ (fun i hi ih => ?_)
  · have hr3 : rep (clH h T T.1) o T := rep_of (clH_f (by omega) (by omega) (by omega) T.1) (clH_f (by omega) (by omega) (by omega) T.1) hr
    obtain ⟨hv1, hv2, hv3, hv4⟩ := clH_v (h := h) (T := T) T.1
    obtain ⟨hb1, hb2, hb3, hb4, hb5⟩ := fcS_b hT T.1 (by omega)
    refine j_iload_n d_Rings_findClasses_24 rfl ?_
    refine j_aload_n d_Rings_findClasses_25 rfl ?_
    refine j_getv (v := nI T.1) d_Rings_findClasses_26 jf_Rings_75 ho.1 rfl hr3.1 ?_
    refine j_icmp_geN_t (tgt := 116) d_Rings_findClasses_29 (by decide) (by omega) (by omega) (Nat.le_refl _) ?_
    subst hres
    exact j_retv d_Rings_findClasses_116 rfl
  · have hr3 : rep (clH h T i) o T := rep_of (clH_f (by omega) (by omega) (by omega) i) (clH_f (by omega) (by omega) (by omega) i) hr
    obtain ⟨hv1, hv2, hv3, hv4⟩ := clH_v (h := h) (T := T) i
    obtain ⟨hb1, hb2, hb3, hb4, hb5⟩ := fcS_b hT i (by omega)
    have hst := sto_lt hT (i := i) (by omega)
    have hr60 : (tclo T).1 = T.1 := rfl
    refine j_iload_n d_Rings_findClasses_24 rfl ?_
    refine j_aload_n d_Rings_findClasses_25 rfl ?_
    refine j_getv (v := nI T.1) d_Rings_findClasses_26 jf_Rings_75 ho.1 rfl hr3.1 ?_
    refine j_icmp_geN_f (tgt := 116) d_Rings_findClasses_29 (by decide) (by omega) (by omega) (Nat.not_le.mpr hi) ?_
    refine j_iload_n d_Rings_findClasses_32 rfl ?_
    refine j_iload_n d_Rings_findClasses_33 rfl ?_
    refine j_ishrN d_Rings_findClasses_34 (by omega) (by omega) ?_
    refine j_iconst (v := nI 1) d_Rings_findClasses_35 rfl ?_
    refine j_iandN d_Rings_findClasses_36 ?_
    refine j_top (w := jbo (((fcS T i).1).testBit i)) (ni_bit _ _) ?_
    refine j_if_neB (tgt := 110) d_Rings_findClasses_37 (by decide) (fun c => ?_) (fun c => ?_)
    · have hz : clH h T (i + 1) = clH h T i := if_pos c
      rw [hz, fcS_p c] at ih
      refine j_iincN (x := i) (L' := [some (.ref 51), some (.ref o), some (.int (nI ((fcS T i).1))), some (.int (nI (i + 1))), none]) d_Rings_findClasses_110 rfl (by decide) rfl rfl ?_
      refine j_goto (tgt := 24) d_Rings_findClasses_113 (by decide) ?_
      exact ih
    · refine j_iconst (v := nI 1) d_Rings_findClasses_40 rfl ?_
      refine j_iload_n d_Rings_findClasses_41 rfl ?_
      refine j_shl1N d_Rings_findClasses_42 (by omega) ?_
      refine j_aload_n d_Rings_findClasses_43 rfl ?_
      refine j_getr (b := 60) d_Rings_findClasses_44 jf_Rings_37 rfl rfl rfl (by decide) ?_
      refine j_getr (b := 61) d_Rings_findClasses_47 jf_Rings_78 rfl rfl rfl (by decide) ?_
      refine j_iload_n d_Rings_findClasses_50 rfl ?_
      refine j_ialdN (v := nI ((tclo T).2 i)) d_Rings_findClasses_51 rfl (by omega) (by decide) ((clH_r i).2 _ (by omega)) ?_
      refine j_aload_n d_Rings_findClasses_52 rfl ?_
      refine j_getr (b := 60) d_Rings_findClasses_53 jf_Rings_37 rfl rfl rfl (by decide) ?_
      refine j_iload_n d_Rings_findClasses_56 rfl ?_
      refine j_callVs (As := [.int (nI i)]) (st := [.int (nI ((tclo T).2 i)), .int (nI (2 ^ i))]) (x_column isT_60 (clH_r i) (tw_clo hT) (by omega)) d_Rings_findClasses_57 (by decide) jm_Table_column jk_Rings_81 ji_Table_column js_Table_column rfl (by decide) rfl rfl (Nat.le_of_ble_eq_true rfl) rfl ?_
      refine j_iandN d_Rings_findClasses_60 ?_
      refine j_iorN d_Rings_findClasses_61 ?_
      refine j_top (w := nI (sto T i)) rfl ?_
      have hz : clH h T (i + 1) = jup2 (cS (jup2 (jup2 (clH h T i) 54 (fcS T i).2.1 (nI i)) 53 (fcS T i).2.1 (nI (sto T i))) 52 (fun z => if z < 12 ∧ (sto T i).testBit z = true then nI (fcS T i).2.1 else clH h T i 52 z)) 51 0 (nI ((fcS T i).2.1 + 1)) := if_neg (by rw [c]; decide)
      rw [hz, fcS_n c] at ih
      refine j_istore (L' := [some (.ref 51), some (.ref o), some (.int (nI ((fcS T i).1))), some (.int (nI i)), some (.int (nI (sto T i)))]) d_Rings_findClasses_62 (by decide) rfl rfl ?_
      refine j_iload_n d_Rings_findClasses_64 rfl ?_
      refine j_iload d_Rings_findClasses_65 rfl ?_
      refine j_iorN d_Rings_findClasses_67 ?_
      refine j_istore_n (L' := [some (.ref 51), some (.ref o), some (.int (nI (((fcS T i).1) ||| (sto T i)))), some (.int (nI i)), some (.int (nI (sto T i)))]) d_Rings_findClasses_68 (by decide) rfl rfl ?_
      refine j_aload_n d_Rings_findClasses_69 rfl ?_
      refine j_getr (b := 54) d_Rings_findClasses_70 jf_Rings_18 rfl rfl rfl (by decide) ?_
      refine j_aload_n d_Rings_findClasses_73 rfl ?_
      refine j_getv (v := nI ((fcS T i).2.1)) d_Rings_findClasses_74 jf_Rings_54 rfl rfl hv1 ?_
      refine j_iload_n d_Rings_findClasses_77 rfl ?_
      refine j_iastN (h' := jup2 (clH h T i) 54 ((fcS T i).2.1) (nI i)) d_Rings_findClasses_78 rfl (by omega) (by decide) rfl ?_
      refine j_aload_n d_Rings_findClasses_79 rfl ?_
      refine j_getr (b := 53) d_Rings_findClasses_80 jf_Rings_15 rfl rfl rfl (by decide) ?_
      refine j_aload_n d_Rings_findClasses_83 rfl ?_
      refine j_getv (v := nI ((fcS T i).2.1)) d_Rings_findClasses_84 jf_Rings_54 rfl rfl ((congrFun (jup2_f (by decide)) _).trans hv1) ?_
      refine j_iload d_Rings_findClasses_87 rfl ?_
      refine j_iastN (h' := jup2 (jup2 (clH h T i) 54 ((fcS T i).2.1) (nI i)) 53 ((fcS T i).2.1) (nI (sto T i))) d_Rings_findClasses_89 rfl (by omega) (by decide) rfl ?_
      refine j_aload_n d_Rings_findClasses_90 rfl ?_
      refine j_iload d_Rings_findClasses_91 rfl ?_
      refine j_aload_n d_Rings_findClasses_93 rfl ?_
      refine j_getv (v := nI ((fcS T i).2.1)) d_Rings_findClasses_94 jf_Rings_54 rfl rfl ((congrFun (jup2_f (by decide)) _).trans ((congrFun (jup2_f (by decide)) _).trans hv1)) ?_
      refine j_callVn (As := [.int (nI (sto T i)), .int (nI ((fcS T i).2.1))]) (st := []) (x_settle hst) d_Rings_findClasses_97 (by decide) jm_Rings_settle jk_Rings_85 ji_Rings_settle js_Rings_settle rfl (by decide) rfl rfl (Nat.le_of_ble_eq_true rfl) rfl ?_
      refine j_aload_n d_Rings_findClasses_100 rfl ?_
      refine j_dup d_Rings_findClasses_101 rfl ?_
      refine j_getv (v := nI ((fcS T i).2.1)) d_Rings_findClasses_102 jf_Rings_54 rfl rfl ((congrFun (cS_o (by decide)) _).trans ((congrFun (jup2_f (by decide)) _).trans ((congrFun (jup2_f (by decide)) _).trans hv1))) ?_
      refine j_iconst (v := nI 1) d_Rings_findClasses_105 rfl ?_
      refine j_iaddN d_Rings_findClasses_106 ?_
      refine j_putv (h' := jup2 (cS (jup2 (jup2 (clH h T i) 54 ((fcS T i).2.1) (nI i)) 53 ((fcS T i).2.1) (nI (sto T i))) 52 (fun z => if z < 12 ∧ (sto T i).testBit z = true then nI (fcS T i).2.1 else clH h T i 52 z)) 51 0 (nI (((fcS T i).2.1) + 1))) d_Rings_findClasses_107 jf_Rings_54 rfl rfl rfl ?_
      refine j_iincN (x := i) (L' := [some (.ref 51), some (.ref o), some (.int (nI (((fcS T i).1) ||| (sto T i)))), some (.int (nI (i + 1))), some (.int (nI (sto T i)))]) d_Rings_findClasses_110 rfl (by decide) rfl rfl ?_
      refine j_goto (tgt := 24) d_Rings_findClasses_113 (by decide) ?_
      exact j_forget (i := 4) rfl ih

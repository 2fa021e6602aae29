abbrev rNb (T : jT) : Nat := (fcS T T.1).2.1
abbrev rLs (T : jT) : Nat → Nat := (fcS T T.1).2.2.1
abbrev rMb (T : jT) : Nat → Nat := (fcS T T.1).2.2.2.1
abbrev rHm (T : jT) : Nat → Nat := (fcS T T.1).2.2.2.2
def rDs (T : jT) (k : Nat) : Nat → Nat := dsF T (rMb T k) (rLs T k) T.1
def rPe (T : jT) (k : Nat) : Nat := pdO T (rHm T) (rDs T k) k T.1
/-- from the least member all members are reached, and no other one -/
def okR (T : jT) : Prop := (∀ k, k < rNb T → ∀ i, i < T.1 → rHm T i = k → ∃ s, s < T.1 ∧ (fdS T (rMb T k) (rLs T k) s).2.testBit i = true) ∧ ∀ k, k < rNb T → ∀ s i, i < T.1 → (fdS T (rMb T k) (rLs T k) s).2.testBit i = true → rHm T i = k
def rdK (h : jH) (T : jT) : Nat → jH
  | 0 => flR (giO (clH h T T.1) T (rNb T) (rHm T) T.1) T (rNb T) (rHm T) (rNb T)
  | k + 1 => jup2 (jup2 (dsO (rdK h T k) T (rMb T k) (rLs T k) T.1) 56 k (nI (rPe T k))) 58 k (nI (bwF T (rLs T) k (rNb T)))
theorem clH_k {h : jH} {T : jT} (hT : tw T) : rgk (clH h T T.1) T.1 (rNb T) (rHm T) := by
  obtain ⟨hv1, hv2, hv3, hv4⟩ := clH_v (h := h) (T := T) T.1
  obtain ⟨hb1, hb2, hb3, hb4, hb5⟩ := fcS_b hT T.1 (Nat.le_refl _)
  exact ⟨hv1, Nat.le_trans hb2 hT.1, fun i hi => hv4 i (Nat.lt_of_lt_of_le hi hT.1) (hb5 i hi), fun i hi => hb4 i (hb5 i hi)⟩
theorem giO_k {h : jH} {T : jT} (hT : tw T) : rgk (giO (clH h T T.1) T (rNb T) (rHm T) T.1) T.1 (rNb T) (rHm T) := rgk_of (giO_f (by decide) (by decide) (by decide) _) (giO_f (by decide) (by decide) (by decide) _) (clH_k hT)
theorem rdK_0f {h : jH} {T : jT} {a : Nat} (h1 : a ≠ 55) (h2 : a ≠ 57) (h3 : a ≠ 62) (h4 : a ≠ 63) : rdK h T 0 a = clH h T T.1 a := by
  show flR _ _ _ _ _ a = _
  rw [flR_f h2, giO_f h1 h3 h4]
theorem rdK_f {h : jH} {T : jT} {a : Nat} (h1 : a ≠ 56) (h2 : a ≠ 58) (h3 : a ≠ 59) : ∀ k, rdK h T k a = rdK h T 0 a
  | 0 => rfl
  | k + 1 => by
    show jup2 (jup2 (dsO (rdK h T k) T (rMb T k) (rLs T k) T.1) 56 k (nI (rPe T k))) 58 k (nI (bwF T (rLs T) k (rNb T))) a = _
    rw [jup2_f h2, jup2_f h1, dsO_f h3, rdK_f h1 h2 h3 k]
theorem rdK_out {h : jH} {T : jT} {a : Nat} (h1 : a < 51 ∨ 63 < a) (k : Nat) : rdK h T k a = h a := by
  rw [rdK_f (by omega) (by omega) (by omega), rdK_0f (by omega) (by omega) (by omega) (by omega), clH_f (by omega) (by omega) (by omega)]
theorem rdK_k {h : jH} {T : jT} (hT : tw T) (k : Nat) : rgk (rdK h T k) T.1 (rNb T) (rHm T) := rgk_of ((rdK_f (by decide) (by decide) (by decide) k).trans (rdK_0f (by decide) (by decide) (by decide) (by decide))) ((rdK_f (by decide) (by decide) (by decide) k).trans (rdK_0f (by decide) (by decide) (by decide) (by decide))) (clH_k hT)
theorem rdK_ls {h : jH} {T : jT} (hT : tw T) (k : Nat) : (∀ z, z < rNb T → rdK h T k 54 z = nI (rLs T z)) ∧ (∀ z, z < rNb T → rdK h T k 53 z = nI (rMb T z)) ∧ rep (rdK h T k) 60 (tclo T) := by
  obtain ⟨hv1, hv2, hv3, hv4⟩ := clH_v (h := h) (T := T) T.1
  have e : ∀ a, a ≠ 56 → a ≠ 58 → a ≠ 59 → a ≠ 55 → a ≠ 57 → a ≠ 62 → a ≠ 63 → rdK h T k a = clH h T T.1 a := fun a h1 h2 h3 h4 h5 h6 h7 => (rdK_f h1 h2 h3 k).trans (rdK_0f h4 h5 h6 h7)
  refine ⟨fun z hz => ?_, fun z hz => ?_, ?_⟩
  · rw [e 54 (by decide) (by decide) (by decide) (by decide) (by decide) (by decide) (by decide)]
    exact hv2 z hz
  · rw [e 53 (by decide) (by decide) (by decide) (by decide) (by decide) (by decide) (by decide)]
    exact hv3 z hz
  · exact rep_of (e 60 (by decide) (by decide) (by decide) (by decide) (by decide) (by decide) (by decide)) (e 61 (by decide) (by decide) (by decide) (by decide) (by decide) (by decide) (by decide)) (clH_r _)
theorem rds_le {T : jT} (hT : tw T) (k z : Nat) : rDs T k z ≤ 12 := Nat.le_trans (dsF_le _ _) hT.1
/-- behind the distances of class k -/
theorem rdK_d {h : jH} {T : jT} (ho : okR T) {k : Nat} (hk : k < rNb T) : ∀ i, i < T.1 → rHm T i = k → dsO (rdK h T k) T (rMb T k) (rLs T k) T.1 59 i = nI (rDs T k i) :=
  fun i hi e => dsO_v hi T.1 (ho.1 k hk i hi e)
theorem rdK_v {h : jH} {T : jT} (ho : okR T) : ∀ k, k ≤ rNb T → (∀ z, z < k → rdK h T k 56 z = nI (rPe T z)) ∧ (∀ z, z < k → rdK h T k 58 z = nI (bwF T (rLs T) z (rNb T))) ∧ ∀ i, i < T.1 → rHm T i < k → rdK h T k 59 i = nI (rDs T (rHm T i) i)
  | 0, _ => ⟨fun z hz => absurd hz (Nat.not_lt_zero z), fun z hz => absurd hz (Nat.not_lt_zero z), fun i _ hz => absurd hz (Nat.not_lt_zero _)⟩
  | k + 1, hk => by
    obtain ⟨h1, h2, h3⟩ := rdK_v (h := h) ho k (by omega)
    refine ⟨fun z hz => ?_, fun z hz => ?_, fun i hi hz => ?_⟩
    · rw [rdK, jup2_f (by decide)]
      simp only [jup2]
      by_cases e : z = k
      · simp [e]
      · simp only [e, if_false, if_true]
        rw [dsO_f (by decide)]
        exact h1 z (by omega)
    · rw [rdK]
      simp only [jup2]
      by_cases e : z = k
      · simp [e]
      · simp only [e, if_false, if_true]
        rw [if_neg (by decide), dsO_f (by decide)]
        exact h2 z (by omega)
    · rw [rdK, jup2_f (by decide), jup2_f (by decide)]
      by_cases e : rHm T i = k
      · rw [rdK_d ho (by omega) i hi e, e]
      · rw [dsO_n T.1 (fun t => by
          cases hb : (fdS T (rMb T k) (rLs T k) t).2.testBit i with
          | false => rfl
          | true => exact absurd (ho.2 k (by omega) t i hi hb) e)]
        exact h3 i hi (by omega)
/-- rings tell of T -/
def rgs (h : jH) (T : jT) : Prop := rgk h T.1 (rNb T) (rHm T) ∧ (∀ z, z < rNb T → h 53 z = nI (rMb T z)) ∧ (∀ z, z < rNb T → h 54 z = nI (rLs T z)) ∧ (∀ z, z < rNb T → h 55 z = nI (grO T (rHm T) T.1 z)) ∧ (∀ z, z < rNb T → h 56 z = nI (rPe T z)) ∧ (∀ z, z < rNb T → h 57 z = nI (lvR T (rHm T) (rNb T) z)) ∧ (∀ z, z < rNb T → h 58 z = nI (bwF T (rLs T) z (rNb T))) ∧ ∀ i, i < T.1 → h 59 i = nI (rDs T (rHm T i) i)
theorem rdK_rgs {h : jH} {T : jT} (hT : tw T) (ho : okR T) : rgs (rdK h T (rNb T)) T := by
  have hk := rdK_k (h := h) hT (rNb T)
  obtain ⟨h1, h2, h3⟩ := rdK_ls (h := h) hT (rNb T)
  obtain ⟨h4, h5, h6⟩ := rdK_v (h := h) ho (rNb T) (Nat.le_refl _)
  refine ⟨hk, h2, h1, fun z hz => ?_, h4, fun z hz => ?_, h5, fun i hi => h6 i hi (hk.2.2.2 i hi)⟩
  · rw [rdK_f (by decide) (by decide) (by decide)]
    show flR _ _ _ _ _ 55 z = _
    rw [flR_f (by decide)]
    exact giO_g _ z hz
  · rw [rdK_f (by decide) (by decide) (by decide)]
    exact flR_v _ z hz
theorem x_readC {n : jN} {h : jH} {o : Nat} (ho : isT o) {T : jT} (hr : rep h o T) (hT : tw T) (hfo : o < 50 ∨ 63 < o) (okr : okR T) : jC n 3 jy_Rings_read jc_Rings_read 3 none [.ref 51, .ref o] h none (rdK h T (rNb T)) := by
  have hn12 := hT.1
  refine jC_of jm_Rings_read (L := [some (.ref 51), some (.ref o), none]) (Nat.le_of_ble_eq_true rfl) rfl trivial ?_
  generalize hres : ((none, rdK h T (rNb T)) : Option Value × jH) = res
  have hrA : rep (clH h T T.1) o T := rep_of (clH_f (by omega) (by omega) (by omega) _) (clH_f (by omega) (by omega) (by omega) _) hr
  have hrB : rep (giO (clH h T T.1) T (rNb T) (rHm T) T.1) o T := rep_of (giO_f (by omega) (by omega) (by omega) _) (giO_f (by omega) (by omega) (by omega) _) hrA
  refine j_aload_n d_Rings_read_0 rfl ?_
  refine j_aload_n d_Rings_read_1 rfl ?_
  refine j_callVn (As := [.ref o]) (st := []) (x_findClasses ho hr hT hfo) d_Rings_read_2 (by decide) jm_Rings_findClasses jk_Rings_44 ji_Rings_findClasses js_Rings_findClasses rfl (by decide) rfl rfl (Nat.le_of_ble_eq_true rfl) rfl ?_
  refine j_aload_n d_Rings_read_5 rfl ?_
  refine j_aload_n d_Rings_read_6 rfl ?_
  refine j_callVn (As := [.ref o]) (st := []) (x_findGirths ho hrA hT hfo (clH_k hT)) d_Rings_read_7 (by decide) jm_Rings_findGirths jk_Rings_48 ji_Rings_findGirths js_Rings_findGirths rfl (by decide) rfl rfl (Nat.le_of_ble_eq_true rfl) rfl ?_
  refine j_aload_n d_Rings_read_10 rfl ?_
  refine j_aload_n d_Rings_read_11 rfl ?_
  refine j_callVn (As := [.ref o]) (st := []) (x_findLevels ho hrB hT hfo (giO_k hT)) d_Rings_read_12 (by decide) jm_Rings_findLevels jk_Rings_51 ji_Rings_findLevels js_Rings_findLevels rfl (by decide) rfl rfl (Nat.le_of_ble_eq_true rfl) rfl ?_
  refine j_iconst (v := nI 0) d_Rings_read_15 rfl ?_
  refine j_istore_n (L' := [some (.ref 51), some (.ref o), some (.int (nI 0))]) d_Rings_read_16 (by decide) rfl rfl ?_
  refine j_loop (P := fun k => jJ n 3 jc_Rings_read 3 "YesNoPowers$Rings" 17 [some (.ref 51), some (.ref o), some (.int (nI k))] [] (rdK h T k) res) (m := rNb T) ?_ (fun k hk ih => ?_)
  · have hr3 : rep (rdK h T (rNb T)) o T := rep_of (rdK_out (by omega) _) (rdK_out (by omega) _) hr
    obtain ⟨hk1, hk2, hk3, hk4⟩ := rdK_k (h := h) hT (rNb T)
    refine j_iload_n d_Rings_read_17 rfl ?_
    refine j_aload_n d_Rings_read_18 rfl ?_
    refine j_getv (v := nI (rNb T)) d_Rings_read_19 jf_Rings_54 rfl rfl hk1 ?_
    refine j_icmp_geN_t (tgt := 48) d_Rings_read_22 (by decide) (by omega) (by omega) (Nat.le_refl _) ?_
    subst hres
    exact j_retv d_Rings_read_48 rfl
  · have hr3 : rep (rdK h T k) o T := rep_of (rdK_out (by omega) _) (rdK_out (by omega) _) hr
    obtain ⟨hk1, hk2, hk3, hk4⟩ := rdK_k (h := h) hT k
    obtain ⟨hl1, hl2, hl3⟩ := rdK_ls (h := h) hT k
    obtain ⟨hb1, hb2, hb3, hb4, hb5⟩ := fcS_b hT T.1 (Nat.le_refl _)
    have hb6 : rLs T k < T.1 := (hb3 k hk).1
    have hb7 : rMb T k < 4096 := (hb3 k hk).2
    have hr4 : rep (dsO (rdK h T k) T (rMb T k) (rLs T k) T.1) o T := rep_of (dsO_f (by omega) _) (dsO_f (by omega) _) hr3
    have hk5 : rgk (dsO (rdK h T k) T (rMb T k) (rLs T k) T.1) T.1 (rNb T) (rHm T) := rgk_of (dsO_f (by decide) _) (dsO_f (by decide) _) ⟨hk1, hk2, hk3, hk4⟩
    have hfr : ∀ a, a ≠ 56 → a ≠ 59 → (jup2 (dsO (rdK h T k) T (rMb T k) (rLs T k) T.1) 56 k (nI (rPe T k))) a = rdK h T k a := fun a h1 h2 => (jup2_f h1).trans (dsO_f h2 _)
    refine j_iload_n d_Rings_read_17 rfl ?_
    refine j_aload_n d_Rings_read_18 rfl ?_
    refine j_getv (v := nI (rNb T)) d_Rings_read_19 jf_Rings_54 rfl rfl hk1 ?_
    refine j_icmp_geN_f (tgt := 48) d_Rings_read_22 (by decide) (by omega) (by omega) (Nat.not_le.mpr hk) ?_
    refine j_aload_n d_Rings_read_25 rfl ?_
    refine j_aload_n d_Rings_read_26 rfl ?_
    refine j_iload_n d_Rings_read_27 rfl ?_
    refine j_callVn (As := [.ref o, .int (nI k)]) (st := []) (x_findDistances ho hr3 hT hfo (by omega) (hl1 k hk) (by omega) (hl2 k hk) hb7) d_Rings_read_28 (by decide) jm_Rings_findDistances jk_Rings_58 ji_Rings_findDistances js_Rings_findDistances rfl (by decide) rfl rfl (Nat.le_of_ble_eq_true rfl) rfl ?_
    refine j_aload_n d_Rings_read_31 rfl ?_
    refine j_aload_n d_Rings_read_32 rfl ?_
    refine j_iload_n d_Rings_read_33 rfl ?_
    refine j_callVn (As := [.ref o, .int (nI k)]) (st := []) (x_rfindPeriod (D := rDs T k) ho hr4 hT hfo hk5 (by omega) (fun i hi e => ⟨rdK_d okr hk i hi e, rds_le hT k i⟩)) d_Rings_read_34 (by decide) jm_Rings_findPeriod jk_Rings_62 ji_Rings_findPeriod js_Rings_findPeriod rfl (by decide) rfl rfl (Nat.le_of_ble_eq_true rfl) rfl ?_
    refine j_aload_n d_Rings_read_37 rfl ?_
    refine j_iload_n d_Rings_read_38 rfl ?_
    refine j_callVn (As := [.int (nI k)]) (st := []) (x_findBelow (T := T) (ls := rLs T) (nb := rNb T) (rep_of (hfr 60 (by decide) (by decide)) (hfr 61 (by decide) (by decide)) hl3) hT ((congrFun (hfr 51 (by decide) (by decide)) 0).trans hk1) hk2 hk (fun i hi => (congrFun (hfr 54 (by decide) (by decide)) i).trans (hl1 i hi)) (fun i hi => (hb3 i hi).1)) d_Rings_read_39 (by decide) jm_Rings_findBelow jk_Rings_65 ji_Rings_findBelow js_Rings_findBelow rfl (by decide) rfl rfl (Nat.le_of_ble_eq_true rfl) rfl ?_
    refine j_iincN (x := k) (L' := [some (.ref 51), some (.ref o), some (.int (nI (k + 1)))]) d_Rings_read_42 rfl (by decide) rfl rfl ?_
    refine j_goto (tgt := 17) d_Rings_read_45 (by decide) ?_
    exact ih
def rPa (T : jT) (i : Nat) : Nat := if rPe T (rHm T i) = 0 then 0 else rDs T (rHm T i) i % rPe T (rHm T i)
theorem rPe_lt {T : jT} (hT : tw T) (k : Nat) : rPe T k < 14 := pdO_lt (fun i _ _ => rds_le hT k i) T.1 (Nat.le_refl _)
theorem x_partOf {n : jN} {h : jH} {T : jT} {i : Nat} (hT : tw T) (hg : rgs h T) (hi : i < T.1) : jC n 0 jy_Rings_partOf jc_Rings_partOf 3 (some .int) [.ref 51, .int (nI i)] h (some (.int (nI (rPa T i)))) h := by
  have hn12 := hT.1
  refine jC_of jm_Rings_partOf (L := [some (.ref 51), some (.int (nI i)), none]) (Nat.le_of_ble_eq_true rfl) rfl trivial ?_
  generalize hres : (((some (.int (nI (rPa T i)))), h) : Option Value × jH) = res
  obtain ⟨⟨hk1, hk2, hk3, hk4⟩, h53, h54, h55, h56, h57, h58, h59⟩ := id hg
  have hm4 := hk4 i hi
  have hpl := rPe_lt hT (rHm T i)
  have hdl := rds_le hT (rHm T i) i
  refine j_aload_n d_Rings_partOf_0 rfl ?_
  refine j_getr (b := 56) d_Rings_partOf_1 jf_Rings_24 rfl rfl rfl (by decide) ?_
  refine j_aload_n d_Rings_partOf_4 rfl ?_
  refine j_getr (b := 52) d_Rings_partOf_5 jf_Rings_9 rfl rfl rfl (by decide) ?_
  refine j_iload_n d_Rings_partOf_8 rfl ?_
  refine j_ialdN (v := nI (rHm T i)) d_Rings_partOf_9 rfl (by omega) (by decide) (hk3 i hi) ?_
  refine j_ialdN (v := nI (rPe T (rHm T i))) d_Rings_partOf_10 rfl (by omega) (by decide) (h56 _ hm4) ?_
  refine j_istore_n (L' := [some (.ref 51), some (.int (nI i)), some (.int (nI (rPe T (rHm T i))))]) d_Rings_partOf_11 (by decide) rfl rfl ?_
  refine j_iload_n d_Rings_partOf_12 rfl ?_
  refine j_if_neN (tgt := 20) d_Rings_partOf_13 (by decide) (by omega) (fun c => ?_) (fun c => ?_)
  · refine j_aload_n d_Rings_partOf_20 rfl ?_
    refine j_getr (b := 59) d_Rings_partOf_21 jf_Rings_33 rfl rfl rfl (by decide) ?_
    refine j_iload_n d_Rings_partOf_24 rfl ?_
    refine j_ialdN (v := nI (rDs T (rHm T i) i)) d_Rings_partOf_25 rfl (by omega) (by decide) (h59 i hi) ?_
    refine j_iload_n d_Rings_partOf_26 rfl ?_
    refine j_iremN d_Rings_partOf_27 (by omega) (by omega) (by omega) ?_
    subst hres
    exact j_reti d_Rings_partOf_28 (by rw [rPa, if_neg c]) rfl
  · refine j_iconst (v := nI 0) d_Rings_partOf_16 rfl ?_
    refine j_goto (tgt := 28) d_Rings_partOf_17 (by decide) ?_
    subst hres
    exact j_reti d_Rings_partOf_28 (by rw [rPa, if_pos c]) rfl

/-- rings know how many classes there are, and each member's home -/
def rgk (h : jH) (m nb : Nat) (hm : Nat → Nat) : Prop := h 51 0 = nI nb ∧ nb ≤ 12 ∧ (∀ i, i < m → h 52 i = nI (hm i)) ∧ ∀ i, i < m → hm i < nb
theorem rgk_of {h h' : jH} {m nb : Nat} {hm : Nat → Nat} (h1 : h' 51 = h 51) (h2 : h' 52 = h 52) (hk : rgk h m nb hm) : rgk h' m nb hm := ⟨by rw [h1]; exact hk.1, hk.2.1, fun i hi => by rw [h2]; exact hk.2.2.1 i hi, hk.2.2.2⟩
def grI (T : jT) (hm : Nat → Nat) (q : Nat) (g : Nat → Nat) : Nat → (Nat → Nat)
  | 0 => g
  | i + 1 => if ((tpo T q).2 i).testBit i = true ∧ grI T hm q g i (hm i) = 0 then jfu (grI T hm q g i) (hm i) (q + 1) else grI T hm q g i
def grO (T : jT) (hm : Nat → Nat) : Nat → (Nat → Nat)
  | 0 => fun _ => 0
  | q + 1 => grI T hm q (grO T hm q) T.1
theorem grI_le {T : jT} {hm g : Nat → Nat} {q b : Nat} (hg : ∀ z, g z ≤ b) (hq : q + 1 ≤ b) : ∀ i z, grI T hm q g i z ≤ b
  | 0, z => hg z
  | i + 1, z => by
    unfold grI
    split
    · simp only [jfu]
      split
      · exact hq
      · exact grI_le hg hq i z
    · exact grI_le hg hq i z
theorem grO_le {T : jT} {hm : Nat → Nat} {b : Nat} : ∀ q, q ≤ b → ∀ z, grO T hm q z ≤ b
  | 0, _, z => Nat.zero_le _
  | q + 1, h, z => grI_le (grO_le q (by omega)) h _ z
def giI (H : jH) (T : jT) (hm : Nat → Nat) (q : Nat) (g : Nat → Nat) : Nat → jH
  | 0 => H
  | i + 1 => if ((tpo T q).2 i).testBit i = true ∧ grI T hm q g i (hm i) = 0 then jup2 (giI H T hm q g i) 55 (hm i) (nI (q + 1)) else giI H T hm q g i
def giO (h : jH) (T : jT) (nb : Nat) (hm : Nat → Nat) : Nat → jH
  | 0 => sT (cS h 55 (fun z => if z < nb then nI 0 else h 55 z)) 62 T
  | q + 1 => sT (giI (giO h T nb hm q) T hm q (grO T hm q) T.1) 62 (tpo T (q + 1))
theorem giI_f {H : jH} {T : jT} {hm g : Nat → Nat} {q a : Nat} (h1 : a ≠ 55) : ∀ i, giI H T hm q g i a = H a
  | 0 => rfl
  | i + 1 => by
    unfold giI
    split
    · rw [jup2_f h1, giI_f h1 i]
    · exact giI_f h1 i
theorem giO_f {h : jH} {T : jT} {hm : Nat → Nat} {nb a : Nat} (h1 : a ≠ 55) (h2 : a ≠ 62) (h3 : a ≠ 63) : ∀ q, giO h T nb hm q a = h a
  | 0 => by rw [giO, sT_f h2 h3, cS_o h1]
  | q + 1 => by rw [giO, sT_f h2 h3, giI_f h1, giO_f h1 h2 h3 q]
theorem giI_g {H : jH} {T : jT} {hm g : Nat → Nat} {q nb : Nat} (hg : ∀ z, z < nb → H 55 z = nI (g z)) : ∀ i z, z < nb → giI H T hm q g i 55 z = nI (grI T hm q g i z)
  | 0, z, hz => hg z hz
  | i + 1, z, hz => by
    have ih := giI_g (T := T) (hm := hm) (q := q) hg i z hz
    by_cases e : ((tpo T q).2 i).testBit i = true ∧ grI T hm q g i (hm i) = 0
    · rw [show giI H T hm q g (i + 1) = jup2 (giI H T hm q g i) 55 (hm i) (nI (q + 1)) from if_pos e, show grI T hm q g (i + 1) = jfu (grI T hm q g i) (hm i) (q + 1) from if_pos e]
      simp only [jup2, jfu]
      by_cases e2 : z = hm i
      · simp [e2]
      · simp only [e2, if_false, if_true]
        exact ih
    · rw [show giI H T hm q g (i + 1) = giI H T hm q g i from if_neg e, show grI T hm q g (i + 1) = grI T hm q g i from if_neg e]
      exact ih
theorem giO_g {h : jH} {T : jT} {hm : Nat → Nat} {nb : Nat} : ∀ q z, z < nb → giO h T nb hm q 55 z = nI (grO T hm q z)
  | 0, z, hz => by
    rw [giO, sT_f (by decide) (by decide), cS_r, if_pos hz]
    rfl
  | q + 1, z, hz => by
    rw [giO, sT_f (by decide) (by decide)]
    exact giI_g (giO_g q) T.1 z hz
theorem giO_w {h : jH} {T : jT} {hm : Nat → Nat} {nb : Nat} : ∀ q, rep (giO h T nb hm q) 62 (tpo T q)
  | 0 => rep_sT
  | q + 1 => rep_sT
theorem giI_w {H : jH} {T : jT} {hm g : Nat → Nat} {q i : Nat} (hr : rep H 62 (tpo T q)) : rep (giI H T hm q g i) 62 (tpo T q) := rep_of (giI_f (by decide) i) (giI_f (by decide) i) hr
theorem x_findGirths {n : jN} {h : jH} {o : Nat} (ho : isT o) {T : jT} {nb : Nat} {hm : Nat → Nat} (hr : rep h o T) (hT : tw T) (hfo : o < 50 ∨ 63 < o) (hrk : rgk h T.1 nb hm) : jC n 2 jy_Rings_findGirths jc_Rings_findGirths 4 none [.ref 51, .ref o] h none (giO h T nb hm T.1) := by
  have hn12 := hT.1
  refine jC_of jm_Rings_findGirths (L := [some (.ref 51), some (.ref o), none, none]) (Nat.le_of_ble_eq_true rfl) rfl trivial ?_
  generalize hres : ((none, giO h T nb hm T.1) : Option Value × jH) = res
  obtain ⟨hk1, hk2, hk3, hk4⟩ := id hrk
  refine j_heap (h' := cS h 55 (fun z => if z < 0 then nI 0 else h 55 z)) (cS_0.trans (cS_cg (fun z => (if_neg (by omega)).symm))) ?_
  refine j_iconst (v := nI 0) d_Rings_findGirths_0 rfl ?_
  refine j_istore_n (L' := [some (.ref 51), some (.ref o), some (.int (nI 0)), none]) d_Rings_findGirths_1 (by decide) rfl rfl ?_
  refine j_loop (P := fun i => jJ n 2 jc_Rings_findGirths 4 "YesNoPowers$Rings" 2 [some (.ref 51), some (.ref o), some (.int (nI i)), none] [] (cS h 55 (fun z => if z < i then nI 0 else h 55 z)) res) (m := nb) ?_ (fun i hi ih => ?_)
  · refine j_iload_n d_Rings_findGirths_2 rfl ?_
    refine j_aload_n d_Rings_findGirths_3 rfl ?_
    refine j_getv (v := nI nb) d_Rings_findGirths_4 jf_Rings_54 rfl rfl ((congrFun (cS_o (by decide)) _).trans hk1) ?_
    refine j_icmp_geN_t (tgt := 23) d_Rings_findGirths_7 (by decide) (by omega) (by omega) (Nat.le_refl _) ?_
    have hr0 : rep (cS h 55 (fun z => if z < nb then nI 0 else h 55 z)) o T := rep_of (cS_o (by omega)) (cS_o (by omega)) hr
    refine j_aload_n d_Rings_findGirths_23 rfl ?_
    refine j_getr (b := 62) d_Rings_findGirths_24 jf_Rings_41 rfl rfl rfl (by decide) ?_
    refine j_aload_n d_Rings_findGirths_27 rfl ?_
    refine j_callVn (As := [.ref o]) (st := []) (x_become isT_62 ho (by omega) hr0 hT) d_Rings_findGirths_28 (by decide) jm_Table_become jk_Rings_69 ji_Table_become js_Table_become rfl (by decide) rfl rfl (Nat.le_of_ble_eq_true rfl) rfl ?_
    refine j_iconst (v := nI 1) d_Rings_findGirths_31 rfl ?_
    refine j_istore_n (L' := [some (.ref 51), some (.ref o), some (.int (nI 1)), none]) d_Rings_findGirths_32 (by decide) rfl rfl ?_
    refine j_loop (P := fun q => jJ n 2 jc_Rings_findGirths 4 "YesNoPowers$Rings" 33 [some (.ref 51), some (.ref o), some (.int (nI (q + 1))), none] [] (giO h T nb hm q) res) (m := T.1) ?_ (fun q hq ihq => ?_)
    · have hr3 : rep (giO h T nb hm T.1) o T := rep_of (giO_f (by omega) (by omega) (by omega) T.1) (giO_f (by omega) (by omega) (by omega) T.1) hr
      refine j_iload_n d_Rings_findGirths_33 rfl ?_
      refine j_aload_n d_Rings_findGirths_34 rfl ?_
      refine j_getv (v := nI T.1) d_Rings_findGirths_35 jf_Rings_75 ho.1 rfl hr3.1 ?_
      refine j_icmp_gtN_t (tgt := 110) d_Rings_findGirths_38 (by decide) (by omega) (by omega) (by omega) ?_
      subst hres
      exact j_retv d_Rings_findGirths_110 rfl
    · have hr3 : rep (giO h T nb hm q) o T := rep_of (giO_f (by omega) (by omega) (by omega) q) (giO_f (by omega) (by omega) (by omega) q) hr
      refine j_iload_n d_Rings_findGirths_33 rfl ?_
      refine j_aload_n d_Rings_findGirths_34 rfl ?_
      refine j_getv (v := nI T.1) d_Rings_findGirths_35 jf_Rings_75 ho.1 rfl hr3.1 ?_
      refine j_icmp_gtN_f (tgt := 110) d_Rings_findGirths_38 (by decide) (by omega) (by omega) (by omega) ?_
      refine j_iconst (v := nI 0) d_Rings_findGirths_41 rfl ?_
      refine j_istore_n (L' := [some (.ref 51), some (.ref o), some (.int (nI (q + 1))), some (.int (nI 0))]) d_Rings_findGirths_42 (by decide) rfl rfl ?_
      refine j_loop (P := fun i => jJ n 2 jc_Rings_findGirths 4 "YesNoPowers$Rings" 43 [some (.ref 51), some (.ref o), some (.int (nI (q + 1))), some (.int (nI i))] [] (giI (giO h T nb hm q) T hm q (grO T hm q) i) res) (m := T.1) ?_ (fun i hi ihi => ?_)
      · have hr4 : rep (giI (giO h T nb hm q) T hm q (grO T hm q) T.1) o T := rep_of (giI_f (by omega) T.1) (giI_f (by omega) T.1) hr3
        refine j_iload_n d_Rings_findGirths_43 rfl ?_
        refine j_aload_n d_Rings_findGirths_44 rfl ?_
        refine j_getv (v := nI T.1) d_Rings_findGirths_45 jf_Rings_75 ho.1 rfl hr4.1 ?_
        refine j_icmp_geN_t (tgt := 96) d_Rings_findGirths_48 (by decide) (by omega) (by omega) (Nat.le_refl _) ?_
        refine j_aload_n d_Rings_findGirths_96 rfl ?_
        refine j_getr (b := 62) d_Rings_findGirths_97 jf_Rings_41 rfl rfl rfl (by decide) ?_
        refine j_aload_n d_Rings_findGirths_100 rfl ?_
        refine j_callVn (As := [.ref o]) (st := []) (x_multiplyBy isT_62 ho (by omega) (giI_w (giO_w q)) (tw_po hT q) hr4 hT (tpo_n T q)) d_Rings_findGirths_101 (by decide) jm_Table_multiplyBy jk_Rings_93 ji_Table_multiplyBy js_Table_multiplyBy rfl (by decide) rfl rfl (Nat.le_of_ble_eq_true rfl) rfl ?_
        refine j_iincN (x := q + 1) (L' := [some (.ref 51), some (.ref o), some (.int (nI ((q + 1) + 1))), some (.int (nI T.1))]) d_Rings_findGirths_104 rfl (by decide) rfl rfl ?_
        refine j_goto (tgt := 33) d_Rings_findGirths_107 (by decide) ?_
        exact j_forget (i := 3) rfl ihq
      · have hr4 : rep (giI (giO h T nb hm q) T hm q (grO T hm q) i) o T := rep_of (giI_f (by omega) i) (giI_f (by omega) i) hr3
        have hhm : giI (giO h T nb hm q) T hm q (grO T hm q) i 52 i = nI (hm i) := ((congrFun (giI_f (by decide) i) i).trans (congrFun (giO_f (by decide) (by decide) (by decide) q) i)).trans (hk3 i hi)
        have hml := hk4 i hi
        have hgg : giI (giO h T nb hm q) T hm q (grO T hm q) i 55 (hm i) = nI (grI T hm q (grO T hm q) i (hm i)) := giI_g (giO_g q) i (hm i) hml
        have hgb : grI T hm q (grO T hm q) i (hm i) ≤ 12 := grI_le (grO_le q (by omega)) (by omega) i (hm i)
        refine j_iload_n d_Rings_findGirths_43 rfl ?_
        refine j_aload_n d_Rings_findGirths_44 rfl ?_
        refine j_getv (v := nI T.1) d_Rings_findGirths_45 jf_Rings_75 ho.1 rfl hr4.1 ?_
        refine j_icmp_geN_f (tgt := 96) d_Rings_findGirths_48 (by decide) (by omega) (by omega) (Nat.not_le.mpr hi) ?_
        refine j_aload_n d_Rings_findGirths_51 rfl ?_
        refine j_getr (b := 62) d_Rings_findGirths_52 jf_Rings_41 rfl rfl rfl (by decide) ?_
        refine j_iload_n d_Rings_findGirths_55 rfl ?_
        refine j_iload_n d_Rings_findGirths_56 rfl ?_
        refine j_callVs (As := [.int (nI i), .int (nI i)]) (st := []) (x_entry (r := (tpo T q).2 i) isT_62 (by omega) (by omega) ((giI_w (giO_w q)).2 _ (by rw [tpo_n]; omega)) (tw_lt (tw_po hT q) _)) d_Rings_findGirths_57 (by decide) jm_Table_entry jk_Rings_89 ji_Table_entry js_Table_entry rfl (by decide) rfl rfl (Nat.le_of_ble_eq_true rfl) rfl ?_
        refine j_iconst (v := nI 1) d_Rings_findGirths_60 rfl ?_
        refine j_icmp_neB (tgt := 90) d_Rings_findGirths_61 (by decide) (fun c => ?_) (fun c => ?_)
        · have hz : giI (giO h T nb hm q) T hm q (grO T hm q) (i + 1) = giI (giO h T nb hm q) T hm q (grO T hm q) i := if_neg (fun z => by rw [c] at z; cases z.1)
          rw [hz] at ihi
          refine j_iincN (x := i) (L' := [some (.ref 51), some (.ref o), some (.int (nI (q + 1))), some (.int (nI (i + 1)))]) d_Rings_findGirths_90 rfl (by decide) rfl rfl ?_
          refine j_goto (tgt := 43) d_Rings_findGirths_93 (by decide) ?_
          exact ihi
        · refine j_aload_n d_Rings_findGirths_64 rfl ?_
          refine j_getr (b := 55) d_Rings_findGirths_65 jf_Rings_21 rfl rfl rfl (by decide) ?_
          refine j_aload_n d_Rings_findGirths_68 rfl ?_
          refine j_getr (b := 52) d_Rings_findGirths_69 jf_Rings_9 rfl rfl rfl (by decide) ?_
          refine j_iload_n d_Rings_findGirths_72 rfl ?_
          refine j_ialdN (v := nI (hm i)) d_Rings_findGirths_73 rfl (by omega) (by decide) hhm ?_
          refine j_ialdN (v := nI (grI T hm q (grO T hm q) i (hm i))) d_Rings_findGirths_74 rfl (by omega) (by decide) hgg ?_
          refine j_if_neN (tgt := 90) d_Rings_findGirths_75 (by decide) (by omega) (fun c2 => ?_) (fun c2 => ?_)
          · have hz : giI (giO h T nb hm q) T hm q (grO T hm q) (i + 1) = giI (giO h T nb hm q) T hm q (grO T hm q) i := if_neg (fun z => c2 z.2)
            rw [hz] at ihi
            refine j_iincN (x := i) (L' := [some (.ref 51), some (.ref o), some (.int (nI (q + 1))), some (.int (nI (i + 1)))]) d_Rings_findGirths_90 rfl (by decide) rfl rfl ?_
            refine j_goto (tgt := 43) d_Rings_findGirths_93 (by decide) ?_
            exact ihi
          · have hz : giI (giO h T nb hm q) T hm q (grO T hm q) (i + 1) = jup2 (giI (giO h T nb hm q) T hm q (grO T hm q) i) 55 (hm i) (nI (q + 1)) := if_pos ⟨c, c2⟩
            rw [hz] at ihi
            refine j_aload_n d_Rings_findGirths_78 rfl ?_
            refine j_getr (b := 55) d_Rings_findGirths_79 jf_Rings_21 rfl rfl rfl (by decide) ?_
            refine j_aload_n d_Rings_findGirths_82 rfl ?_
            refine j_getr (b := 52) d_Rings_findGirths_83 jf_Rings_9 rfl rfl rfl (by decide) ?_
            refine j_iload_n d_Rings_findGirths_86 rfl ?_
            refine j_ialdN (v := nI (hm i)) d_Rings_findGirths_87 rfl (by omega) (by decide) hhm ?_
            refine j_iload_n d_Rings_findGirths_88 rfl ?_
            refine j_iastN (h' := jup2 (giI (giO h T nb hm q) T hm q (grO T hm q) i) 55 (hm i) (nI (q + 1))) d_Rings_findGirths_89 rfl (by omega) (by decide) rfl ?_
            refine j_iincN (x := i) (L' := [some (.ref 51), some (.ref o), some (.int (nI (q + 1))), some (.int (nI (i + 1)))]) d_Rings_findGirths_90 rfl (by decide) rfl rfl ?_
            refine j_goto (tgt := 43) d_Rings_findGirths_93 (by decide) ?_
            exact ihi
  · refine j_iload_n d_Rings_findGirths_2 rfl ?_
    refine j_aload_n d_Rings_findGirths_3 rfl ?_
    refine j_getv (v := nI nb) d_Rings_findGirths_4 jf_Rings_54 rfl rfl ((congrFun (cS_o (by decide)) _).trans hk1) ?_
    refine j_icmp_geN_f (tgt := 23) d_Rings_findGirths_7 (by decide) (by omega) (by omega) (Nat.not_le.mpr hi) ?_
    refine j_aload_n d_Rings_findGirths_10 rfl ?_
    refine j_getr (b := 55) d_Rings_findGirths_11 jf_Rings_21 rfl rfl rfl (by decide) ?_
    refine j_iload_n d_Rings_findGirths_14 rfl ?_
    refine j_iconst (v := nI 0) d_Rings_findGirths_15 rfl ?_
    refine j_iastN (h' := cS h 55 (jfu (fun z => if z < i then nI 0 else h 55 z) i (nI 0))) d_Rings_findGirths_16 rfl (by omega) (by decide) cS_s ?_
    refine j_iincN (x := i) (L' := [some (.ref 51), some (.ref o), some (.int (nI (i + 1))), none]) d_Rings_findGirths_17 rfl (by decide) rfl rfl ?_
    refine j_goto (tgt := 2) d_Rings_findGirths_20 (by decide) ?_
    refine j_heap (h' := cS h 55 (fun z => if z < i + 1 then nI 0 else h 55 z)) (cS_cg (fun k => by simp only [jfu]; (repeat' split); all_goals first | rfl | omega | (subst_vars; rfl))) ?_
    exact ih
def lvJ (T : jT) (hm : Nat → Nat) (i : Nat) (v : Nat → Nat) : Nat → (Nat → Nat)
  | 0 => v
  | j + 1 => if (T.2 i).testBit j = true ∧ ¬ hm i = hm j ∧ lvJ T hm i v j (hm j) ≤ lvJ T hm i v j (hm i) then jfu (lvJ T hm i v j) (hm j) (lvJ T hm i v j (hm i) + 1) else lvJ T hm i v j
theorem lvJ_le {T : jT} {hm v : Nat → Nat} {i b : Nat} (hv : ∀ z, v z ≤ b) : ∀ j z, lvJ T hm i v j z ≤ b + j
  | 0, z => hv z
  | j + 1, z => by
    have h1 := lvJ_le (T := T) (hm := hm) (i := i) hv j
    unfold lvJ
    split
    · simp only [jfu]
      split
      · have := h1 (hm i); omega
      · have := h1 z; omega
    · have := h1 z; omega
def rlH (h : jH) (T : jT) (hm : Nat → Nat) (i : Nat) (v : Nat → Nat) : Nat → jH
  | 0 => h
  | j + 1 => if (T.2 i).testBit j = true ∧ ¬ hm i = hm j ∧ lvJ T hm i v j (hm j) ≤ lvJ T hm i v j (hm i) then jup2 (rlH h T hm i v j) 57 (hm j) (nI (lvJ T hm i v j (hm i) + 1)) else rlH h T hm i v j
theorem rlH_f {h : jH} {T : jT} {hm v : Nat → Nat} {i a : Nat} (h1 : a ≠ 57) : ∀ j, rlH h T hm i v j a = h a
  | 0 => rfl
  | j + 1 => by
    unfold rlH
    split
    · rw [jup2_f h1, rlH_f h1 j]
    · exact rlH_f h1 j
theorem rlH_v {h : jH} {T : jT} {hm v : Nat → Nat} {i nb : Nat} (hv : ∀ z, z < nb → h 57 z = nI (v z)) : ∀ j z, z < nb → rlH h T hm i v j 57 z = nI (lvJ T hm i v j z)
  | 0, z, hz => hv z hz
  | j + 1, z, hz => by
    have ih := rlH_v (T := T) (hm := hm) (i := i) hv j z hz
    by_cases e : (T.2 i).testBit j = true ∧ ¬ hm i = hm j ∧ lvJ T hm i v j (hm j) ≤ lvJ T hm i v j (hm i)
    · rw [show rlH h T hm i v (j + 1) = jup2 (rlH h T hm i v j) 57 (hm j) (nI (lvJ T hm i v j (hm i) + 1)) from if_pos e, show lvJ T hm i v (j + 1) = jfu (lvJ T hm i v j) (hm j) (lvJ T hm i v j (hm i) + 1) from if_pos e]
      simp only [jup2, jfu]
      by_cases e2 : z = hm j
      · simp [e2]
      · simp only [e2, if_false, if_true]
        exact ih
    · rw [show rlH h T hm i v (j + 1) = rlH h T hm i v j from if_neg e, show lvJ T hm i v (j + 1) = lvJ T hm i v j from if_neg e]
      exact ih
theorem x_raiseLevels {n : jN} {h : jH} {o : Nat} (ho : isT o) {T : jT} {nb i : Nat} {hm v : Nat → Nat} (hr : rep h o T) (hT : tw T) (hfo : o < 50 ∨ 63 < o) (hrk : rgk h T.1 nb hm) (hi : i < T.1) (hv : ∀ z, z < nb → h 57 z = nI (v z)) (hvb : ∀ z, v z ≤ 100000) : jC n 1 jy_Rings_raiseLevels jc_Rings_raiseLevels 4 none [.ref 51, .ref o, .int (nI i)] h none (rlH h T hm i v T.1) := by
  have hn12 := hT.1
  refine jC_of jm_Rings_raiseLevels (L := [some (.ref 51), some (.ref o), some (.int (nI i)), none]) (Nat.le_of_ble_eq_true rfl) rfl trivial ?_
  generalize hres : ((none, rlH h T hm i v T.1) : Option Value × jH) = res
  obtain ⟨hk1, hk2, hk3, hk4⟩ := id hrk
  refine j_iconst (v := nI 0) d_Rings_raiseLevels_0 rfl ?_
  refine j_istore_n (L' := [some (.ref 51), some (.ref o), some (.int (nI i)), some (.int (nI 0))]) d_Rings_raiseLevels_1 (by decide) rfl rfl ?_
  refine j_loop (P := fun j => jJ n 1 jc_Rings_raiseLevels 4 "YesNoPowers$Rings" 2 [some (.ref 51), some (.ref o), some (.int (nI i)), some (.int (nI j))] [] (rlH h T hm i v j) res) (m := T.1) ?_ (fun j hj ih => ?_)
  · have hr3 : rep (rlH h T hm i v T.1) o T := rep_of (rlH_f (by omega) T.1) (rlH_f (by omega) T.1) hr
    refine j_iload_n d_Rings_raiseLevels_2 rfl ?_
    refine j_aload_n d_Rings_raiseLevels_3 rfl ?_
    refine j_getv (v := nI T.1) d_Rings_raiseLevels_4 jf_Rings_75 ho.1 rfl hr3.1 ?_
    refine j_icmp_geN_t (tgt := 90) d_Rings_raiseLevels_7 (by decide) (by omega) (by omega) (Nat.le_refl _) ?_
    subst hres
    exact j_retv d_Rings_raiseLevels_90 rfl
  · have hr3 : rep (rlH h T hm i v j) o T := rep_of (rlH_f (by omega) j) (rlH_f (by omega) j) hr
    have hi4 := hk4 i hi
    have hj4 := hk4 j hj
    have hv3 := rlH_v (T := T) (hm := hm) (i := i) hv j
    have hl3 := lvJ_le (T := T) (hm := hm) (i := i) hvb j (hm i)
    have hl4 := lvJ_le (T := T) (hm := hm) (i := i) hvb j (hm j)
    refine j_iload_n d_Rings_raiseLevels_2 rfl ?_
    refine j_aload_n d_Rings_raiseLevels_3 rfl ?_
    refine j_getv (v := nI T.1) d_Rings_raiseLevels_4 jf_Rings_75 ho.1 rfl hr3.1 ?_
    refine j_icmp_geN_f (tgt := 90) d_Rings_raiseLevels_7 (by decide) (by omega) (by omega) (Nat.not_le.mpr hj) ?_
    refine j_aload_n d_Rings_raiseLevels_10 rfl ?_
    refine j_iload_n d_Rings_raiseLevels_11 rfl ?_
    refine j_iload_n d_Rings_raiseLevels_12 rfl ?_
    refine j_callVs (As := [.int (nI i), .int (nI j)]) (st := []) (x_entry (r := (T).2 i) ho (by omega) (by omega) (hr3.2 _ (by omega)) (tw_lt hT _)) d_Rings_raiseLevels_13 (by decide) jm_Table_entry jk_Rings_89 ji_Table_entry js_Table_entry ho.1 (by decide) rfl rfl (Nat.le_of_ble_eq_true rfl) rfl ?_
    refine j_iconst (v := nI 1) d_Rings_raiseLevels_16 rfl ?_
    refine j_icmp_neB (tgt := 84) d_Rings_raiseLevels_17 (by decide) (fun c => ?_) (fun c => ?_)
    · have hz : rlH h T hm i v (j + 1) = rlH h T hm i v j := if_neg (fun z => by rw [c] at z; cases z.1)
      rw [hz] at ih
      refine j_iincN (x := j) (L' := [some (.ref 51), some (.ref o), some (.int (nI i)), some (.int (nI (j + 1)))]) d_Rings_raiseLevels_84 rfl (by decide) rfl rfl ?_
      refine j_goto (tgt := 2) d_Rings_raiseLevels_87 (by decide) ?_
      exact ih
    · refine j_aload_n d_Rings_raiseLevels_20 rfl ?_
      refine j_getr (b := 52) d_Rings_raiseLevels_21 jf_Rings_9 rfl rfl rfl (by decide) ?_
      refine j_iload_n d_Rings_raiseLevels_24 rfl ?_
      refine j_ialdN (v := nI (hm i)) d_Rings_raiseLevels_25 rfl (by omega) (by decide) ((congrFun (rlH_f (by decide) j) i).trans (hk3 i hi)) ?_
      refine j_aload_n d_Rings_raiseLevels_26 rfl ?_
      refine j_getr (b := 52) d_Rings_raiseLevels_27 jf_Rings_9 rfl rfl rfl (by decide) ?_
      refine j_iload_n d_Rings_raiseLevels_30 rfl ?_
      refine j_ialdN (v := nI (hm j)) d_Rings_raiseLevels_31 rfl (by omega) (by decide) ((congrFun (rlH_f (by decide) j) j).trans (hk3 j hj)) ?_
      refine j_icmp_eqN (tgt := 84) d_Rings_raiseLevels_32 (by decide) (by omega) (by omega) (fun c2 => ?_) (fun c2 => ?_)
      · have hz : rlH h T hm i v (j + 1) = rlH h T hm i v j := if_neg (fun z => z.2.1 c2)
        rw [hz] at ih
        refine j_iincN (x := j) (L' := [some (.ref 51), some (.ref o), some (.int (nI i)), some (.int (nI (j + 1)))]) d_Rings_raiseLevels_84 rfl (by decide) rfl rfl ?_
        refine j_goto (tgt := 2) d_Rings_raiseLevels_87 (by decide) ?_
        exact ih
      · refine j_aload_n d_Rings_raiseLevels_35 rfl ?_
        refine j_getr (b := 57) d_Rings_raiseLevels_36 jf_Rings_27 rfl rfl rfl (by decide) ?_
        refine j_aload_n d_Rings_raiseLevels_39 rfl ?_
        refine j_getr (b := 52) d_Rings_raiseLevels_40 jf_Rings_9 rfl rfl rfl (by decide) ?_
        refine j_iload_n d_Rings_raiseLevels_43 rfl ?_
        refine j_ialdN (v := nI (hm j)) d_Rings_raiseLevels_44 rfl (by omega) (by decide) ((congrFun (rlH_f (by decide) j) j).trans (hk3 j hj)) ?_
        refine j_ialdN (v := nI (lvJ T hm i v j (hm j))) d_Rings_raiseLevels_45 rfl (by omega) (by decide) (hv3 (hm j) hj4) ?_
        refine j_aload_n d_Rings_raiseLevels_46 rfl ?_
        refine j_getr (b := 57) d_Rings_raiseLevels_47 jf_Rings_27 rfl rfl rfl (by decide) ?_
        refine j_aload_n d_Rings_raiseLevels_50 rfl ?_
        refine j_getr (b := 52) d_Rings_raiseLevels_51 jf_Rings_9 rfl rfl rfl (by decide) ?_
        refine j_iload_n d_Rings_raiseLevels_54 rfl ?_
        refine j_ialdN (v := nI (hm i)) d_Rings_raiseLevels_55 rfl (by omega) (by decide) ((congrFun (rlH_f (by decide) j) i).trans (hk3 i hi)) ?_
        refine j_ialdN (v := nI (lvJ T hm i v j (hm i))) d_Rings_raiseLevels_56 rfl (by omega) (by decide) (hv3 (hm i) hi4) ?_
        refine j_icmp_gtN (tgt := 84) d_Rings_raiseLevels_57 (by decide) (by omega) (by omega) (fun c3 => ?_) (fun c3 => ?_)
        · have hz : rlH h T hm i v (j + 1) = rlH h T hm i v j := if_neg (fun z => by omega)
          rw [hz] at ih
          refine j_iincN (x := j) (L' := [some (.ref 51), some (.ref o), some (.int (nI i)), some (.int (nI (j + 1)))]) d_Rings_raiseLevels_84 rfl (by decide) rfl rfl ?_
          refine j_goto (tgt := 2) d_Rings_raiseLevels_87 (by decide) ?_
          exact ih
        · have hz : rlH h T hm i v (j + 1) = jup2 (rlH h T hm i v j) 57 (hm j) (nI (lvJ T hm i v j (hm i) + 1)) := if_pos ⟨c, c2, by omega⟩
          rw [hz] at ih
          refine j_aload_n d_Rings_raiseLevels_60 rfl ?_
          refine j_getr (b := 57) d_Rings_raiseLevels_61 jf_Rings_27 rfl rfl rfl (by decide) ?_
          refine j_aload_n d_Rings_raiseLevels_64 rfl ?_
          refine j_getr (b := 52) d_Rings_raiseLevels_65 jf_Rings_9 rfl rfl rfl (by decide) ?_
          refine j_iload_n d_Rings_raiseLevels_68 rfl ?_
          refine j_ialdN (v := nI (hm j)) d_Rings_raiseLevels_69 rfl (by omega) (by decide) ((congrFun (rlH_f (by decide) j) j).trans (hk3 j hj)) ?_
          refine j_aload_n d_Rings_raiseLevels_70 rfl ?_
          refine j_getr (b := 57) d_Rings_raiseLevels_71 jf_Rings_27 rfl rfl rfl (by decide) ?_
          refine j_aload_n d_Rings_raiseLevels_74 rfl ?_
          refine j_getr (b := 52) d_Rings_raiseLevels_75 jf_Rings_9 rfl rfl rfl (by decide) ?_
          refine j_iload_n d_Rings_raiseLevels_78 rfl ?_
          refine j_ialdN (v := nI (hm i)) d_Rings_raiseLevels_79 rfl (by omega) (by decide) ((congrFun (rlH_f (by decide) j) i).trans (hk3 i hi)) ?_
          refine j_ialdN (v := nI (lvJ T hm i v j (hm i))) d_Rings_raiseLevels_80 rfl (by omega) (by decide) (hv3 (hm i) hi4) ?_
          refine j_iconst (v := nI 1) d_Rings_raiseLevels_81 rfl ?_
          refine j_iaddN d_Rings_raiseLevels_82 ?_
          refine j_iastN (h' := jup2 (rlH h T hm i v j) 57 (hm j) (nI ((lvJ T hm i v j (hm i)) + 1))) d_Rings_raiseLevels_83 rfl (by omega) (by decide) rfl ?_
          refine j_iincN (x := j) (L' := [some (.ref 51), some (.ref o), some (.int (nI i)), some (.int (nI (j + 1)))]) d_Rings_raiseLevels_84 rfl (by decide) rfl rfl ?_
          refine j_goto (tgt := 2) d_Rings_raiseLevels_87 (by decide) ?_
          exact ih
def lvI (T : jT) (hm : Nat → Nat) (v : Nat → Nat) : Nat → (Nat → Nat)
  | 0 => v
  | i + 1 => lvJ T hm i (lvI T hm v i) T.1
def lvR (T : jT) (hm : Nat → Nat) : Nat → (Nat → Nat)
  | 0 => fun _ => 0
  | r + 1 => lvI T hm (lvR T hm r) T.1
theorem lvI_le {T : jT} (hT : T.1 ≤ 12) {hm v : Nat → Nat} {b : Nat} (hv : ∀ z, v z ≤ b) : ∀ i z, lvI T hm v i z ≤ b + i * 12
  | 0, z => by have := hv z; show v z ≤ _; omega
  | i + 1, z => by
    have h1 := lvJ_le (T := T) (hm := hm) (i := i) (lvI_le (hm := hm) hT hv i) T.1 z
    show lvJ T hm i (lvI T hm v i) T.1 z ≤ _
    omega
theorem lvR_le {T : jT} (hT : T.1 ≤ 12) {hm : Nat → Nat} : ∀ r z, lvR T hm r z ≤ r * 144
  | 0, z => Nat.zero_le _
  | r + 1, z => by
    have h1 := lvI_le (hm := hm) hT (lvR_le hT (hm := hm) r) T.1 z
    show lvI T hm (lvR T hm r) T.1 z ≤ _
    omega
def flI (H : jH) (T : jT) (hm v : Nat → Nat) : Nat → jH
  | 0 => H
  | i + 1 => rlH (flI H T hm v i) T hm i (lvI T hm v i) T.1
def flR (h : jH) (T : jT) (nb : Nat) (hm : Nat → Nat) : Nat → jH
  | 0 => cS h 57 (fun z => if z < nb then nI 0 else h 57 z)
  | r + 1 => flI (flR h T nb hm r) T hm (lvR T hm r) T.1
theorem flI_f {H : jH} {T : jT} {hm v : Nat → Nat} {a : Nat} (h1 : a ≠ 57) : ∀ i, flI H T hm v i a = H a
  | 0 => rfl
  | i + 1 => by rw [flI, rlH_f h1, flI_f h1 i]
theorem flR_f {h : jH} {T : jT} {nb a : Nat} {hm : Nat → Nat} (h1 : a ≠ 57) : ∀ r, flR h T nb hm r a = h a
  | 0 => cS_o h1
  | r + 1 => by rw [flR, flI_f h1, flR_f h1 r]
theorem flI_v {H : jH} {T : jT} {hm v : Nat → Nat} {nb : Nat} (hv : ∀ z, z < nb → H 57 z = nI (v z)) : ∀ i z, z < nb → flI H T hm v i 57 z = nI (lvI T hm v i z)
  | 0, z, hz => hv z hz
  | i + 1, z, hz => rlH_v (flI_v hv i) T.1 z hz
theorem flR_v {h : jH} {T : jT} {nb : Nat} {hm : Nat → Nat} : ∀ r z, z < nb → flR h T nb hm r 57 z = nI (lvR T hm r z)
  | 0, z, hz => by
    rw [flR, cS_r, if_pos hz]
    rfl
  | r + 1, z, hz => flI_v (flR_v r) T.1 z hz
theorem x_findLevels {n : jN} {h : jH} {o : Nat} (ho : isT o) {T : jT} {nb : Nat} {hm : Nat → Nat} (hr : rep h o T) (hT : tw T) (hfo : o < 50 ∨ 63 < o) (hrk : rgk h T.1 nb hm) : jC n 2 jy_Rings_findLevels jc_Rings_findLevels 4 none [.ref 51, .ref o] h none (flR h T nb hm nb) := by
  have hn12 := hT.1
  refine jC_of jm_Rings_findLevels (L := [some (.ref 51), some (.ref o), none, none]) (Nat.le_of_ble_eq_true rfl) rfl trivial ?_
  generalize hres : ((none, flR h T nb hm nb) : Option Value × jH) = res
  obtain ⟨hk1, hk2, hk3, hk4⟩ := id hrk
  refine j_heap (h' := cS h 57 (fun z => if z < 0 then nI 0 else h 57 z)) (cS_0.trans (cS_cg (fun z => (if_neg (by omega)).symm))) ?_
  refine j_iconst (v := nI 0) d_Rings_findLevels_0 rfl ?_
  refine j_istore_n (L' := [some (.ref 51), some (.ref o), some (.int (nI 0)), none]) d_Rings_findLevels_1 (by decide) rfl rfl ?_
  refine j_loop (P := fun i => jJ n 2 jc_Rings_findLevels 4 "YesNoPowers$Rings" 2 [some (.ref 51), some (.ref o), some (.int (nI i)), none] [] (cS h 57 (fun z => if z < i then nI 0 else h 57 z)) res) (m := nb) ?_ (fun i hi ih => ?_)
  · refine j_iload_n d_Rings_findLevels_2 rfl ?_
    refine j_aload_n d_Rings_findLevels_3 rfl ?_
    refine j_getv (v := nI nb) d_Rings_findLevels_4 jf_Rings_54 rfl rfl ((congrFun (cS_o (by decide)) _).trans hk1) ?_
    refine j_icmp_geN_t (tgt := 23) d_Rings_findLevels_7 (by decide) (by omega) (by omega) (Nat.le_refl _) ?_
    refine j_iconst (v := nI 0) d_Rings_findLevels_23 rfl ?_
    refine j_istore_n (L' := [some (.ref 51), some (.ref o), some (.int (nI 0)), none]) d_Rings_findLevels_24 (by decide) rfl rfl ?_
    refine j_loop (P := fun r => jJ n 2 jc_Rings_findLevels 4 "YesNoPowers$Rings" 25 [some (.ref 51), some (.ref o), some (.int (nI r)), none] [] (flR h T nb hm r) res) (m := nb) ?_ (fun r hr_ ihr => ?_)
    · have hr3 : rep (flR h T nb hm nb) o T := rep_of (flR_f (by omega) nb) (flR_f (by omega) nb) hr
      have hk5 : rgk (flR h T nb hm nb) T.1 nb hm := rgk_of (flR_f (by decide) nb) (flR_f (by decide) nb) hrk
      refine j_iload_n d_Rings_findLevels_25 rfl ?_
      refine j_aload_n d_Rings_findLevels_26 rfl ?_
      refine j_getv (v := nI nb) d_Rings_findLevels_27 jf_Rings_54 rfl rfl hk5.1 ?_
      refine j_icmp_geN_t (tgt := 61) d_Rings_findLevels_30 (by decide) (by omega) (by omega) (Nat.le_refl _) ?_
      subst hres
      exact j_retv d_Rings_findLevels_61 rfl
    · have hr3 : rep (flR h T nb hm r) o T := rep_of (flR_f (by omega) r) (flR_f (by omega) r) hr
      have hk5 : rgk (flR h T nb hm r) T.1 nb hm := rgk_of (flR_f (by decide) r) (flR_f (by decide) r) hrk
      refine j_iload_n d_Rings_findLevels_25 rfl ?_
      refine j_aload_n d_Rings_findLevels_26 rfl ?_
      refine j_getv (v := nI nb) d_Rings_findLevels_27 jf_Rings_54 rfl rfl hk5.1 ?_
      refine j_icmp_geN_f (tgt := 61) d_Rings_findLevels_30 (by decide) (by omega) (by omega) (Nat.not_le.mpr hr_) ?_
      refine j_iconst (v := nI 0) d_Rings_findLevels_33 rfl ?_
      refine j_istore_n (L' := [some (.ref 51), some (.ref o), some (.int (nI r)), some (.int (nI 0))]) d_Rings_findLevels_34 (by decide) rfl rfl ?_
      refine j_loop (P := fun i => jJ n 2 jc_Rings_findLevels 4 "YesNoPowers$Rings" 35 [some (.ref 51), some (.ref o), some (.int (nI r)), some (.int (nI i))] [] (flI (flR h T nb hm r) T hm (lvR T hm r) i) res) (m := T.1) ?_ (fun i hi ihi => ?_)
      · have hr4 : rep (flI (flR h T nb hm r) T hm (lvR T hm r) T.1) o T := rep_of (flI_f (by omega) T.1) (flI_f (by omega) T.1) hr3
        refine j_iload_n d_Rings_findLevels_35 rfl ?_
        refine j_aload_n d_Rings_findLevels_36 rfl ?_
        refine j_getv (v := nI T.1) d_Rings_findLevels_37 jf_Rings_75 ho.1 rfl hr4.1 ?_
        refine j_icmp_geN_t (tgt := 55) d_Rings_findLevels_40 (by decide) (by omega) (by omega) (Nat.le_refl _) ?_
        refine j_iincN (x := r) (L' := [some (.ref 51), some (.ref o), some (.int (nI (r + 1))), some (.int (nI T.1))]) d_Rings_findLevels_55 rfl (by decide) rfl rfl ?_
        refine j_goto (tgt := 25) d_Rings_findLevels_58 (by decide) ?_
        exact j_forget (i := 3) rfl ihr
      · have hr4 : rep (flI (flR h T nb hm r) T hm (lvR T hm r) i) o T := rep_of (flI_f (by omega) i) (flI_f (by omega) i) hr3
        have hk6 : rgk (flI (flR h T nb hm r) T hm (lvR T hm r) i) T.1 nb hm := rgk_of (flI_f (by decide) i) (flI_f (by decide) i) hk5
        have hvb : ∀ z, lvI T hm (lvR T hm r) i z ≤ 100000 := fun z => by have := lvI_le (hm := hm) hn12 (lvR_le hn12 (hm := hm) r) i z; omega
        refine j_iload_n d_Rings_findLevels_35 rfl ?_
        refine j_aload_n d_Rings_findLevels_36 rfl ?_
        refine j_getv (v := nI T.1) d_Rings_findLevels_37 jf_Rings_75 ho.1 rfl hr4.1 ?_
        refine j_icmp_geN_f (tgt := 55) d_Rings_findLevels_40 (by decide) (by omega) (by omega) (Nat.not_le.mpr hi) ?_
        refine j_aload_n d_Rings_findLevels_43 rfl ?_
        refine j_aload_n d_Rings_findLevels_44 rfl ?_
        refine j_iload_n d_Rings_findLevels_45 rfl ?_
        refine j_callVn (As := [.ref o, .int (nI i)]) (st := []) (x_raiseLevels ho hr4 hT hfo hk6 hi (flI_v (flR_v r) i) hvb) d_Rings_findLevels_46 (by decide) jm_Rings_raiseLevels jk_Rings_96 ji_Rings_raiseLevels js_Rings_raiseLevels rfl (by decide) rfl rfl (Nat.le_of_ble_eq_true rfl) rfl ?_
        refine j_iincN (x := i) (L' := [some (.ref 51), some (.ref o), some (.int (nI r)), some (.int (nI (i + 1)))]) d_Rings_findLevels_49 rfl (by decide) rfl rfl ?_
        refine j_goto (tgt := 35) d_Rings_findLevels_52 (by decide) ?_
        exact ihi
  · refine j_iload_n d_Rings_findLevels_2 rfl ?_
    refine j_aload_n d_Rings_findLevels_3 rfl ?_
    refine j_getv (v := nI nb) d_Rings_findLevels_4 jf_Rings_54 rfl rfl ((congrFun (cS_o (by decide)) _).trans hk1) ?_
    refine j_icmp_geN_f (tgt := 23) d_Rings_findLevels_7 (by decide) (by omega) (by omega) (Nat.not_le.mpr hi) ?_
    refine j_aload_n d_Rings_findLevels_10 rfl ?_
    refine j_getr (b := 57) d_Rings_findLevels_11 jf_Rings_27 rfl rfl rfl (by decide) ?_
    refine j_iload_n d_Rings_findLevels_14 rfl ?_
    refine j_iconst (v := nI 0) d_Rings_findLevels_15 rfl ?_
    refine j_iastN (h' := cS h 57 (jfu (fun z => if z < i then nI 0 else h 57 z) i (nI 0))) d_Rings_findLevels_16 rfl (by omega) (by decide) cS_s ?_
    refine j_iincN (x := i) (L' := [some (.ref 51), some (.ref o), some (.int (nI (i + 1))), none]) d_Rings_findLevels_17 rfl (by decide) rfl rfl ?_
    refine j_goto (tgt := 2) d_Rings_findLevels_20 (by decide) ?_
    refine j_heap (h' := cS h 57 (fun z => if z < i + 1 then nI 0 else h 57 z)) (cS_cg (fun k => by simp only [jfu]; (repeat' split); all_goals first | rfl | omega | (subst_vars; rfl))) ?_
    exact ih

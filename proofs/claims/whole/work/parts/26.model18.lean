def jex : Nat → (Nat → Bool) → Bool
  | 0, _ => false
  | k + 1, f => jex k f || f k
def jU (h : jH) (v : Nat → Int32) : jH := fun a => if a = 147 then v else h a
theorem jU_v {h : jH} {v : Nat → Int32} {i : Nat} {x : Int32} {P : jP} : jup2 (jM (jU h v) P) 147 i x = jM (jU h (jfu v i x)) P := by
  rw [jM_set_other (by decide) (by decide)]
  congr 1
  funext a z
  simp only [jup2, jU]
  by_cases e : a = 147
  · subst e
    by_cases e2 : z = i <;> simp [e2, jfu]
  · simp [e]
theorem jU_0 {h : jH} {P : jP} : jM h P = jM (jU h (h 147)) P := by
  congr 1
  funext a z
  simp only [jU]
  split
  · subst_vars; rfl
  · rfl
theorem jU_cg {h : jH} {v v' : Nat → Int32} {P : jP} (e : ∀ z, v z = v' z) : jM (jU h v) P = jM (jU h v') P := by rw [show v = v' from funext e]
def jBa (h : jH) (v : Nat → Int32) (m : Nat) : jH := fun a => if a = 148 then v else if a = 135 then fun z => if z = 20 then nI m else h 135 z else h a
theorem jBa_v {h : jH} {v : Nat → Int32} {i m : Nat} {x : Int32} {P : jP} : jup2 (jM (jBa h v m) P) 148 i x = jM (jBa h (jfu v i x) m) P := by
  rw [jM_set_other (by decide) (by decide)]
  congr 1
  funext a z
  simp only [jup2, jBa]
  by_cases e : a = 148
  · subst e
    by_cases e2 : z = i <;> simp [e2, jfu]
  · simp [e]
theorem jBa_m {h : jH} {v : Nat → Int32} {m x : Nat} {P : jP} : jup2 (jM (jBa h v m) P) 135 20 (nI x) = jM (jBa h v x) P := by
  rw [jM_set_other (by decide) (by decide)]
  congr 1
  funext a z
  simp only [jup2, jBa]
  by_cases e : a = 135
  · subst e
    by_cases e2 : z = 20 <;> simp [e2]
  · simp [e]
theorem jBa_0 {h : jH} {P : jP} : jM (jup2 h 135 20 (nI 0)) P = jM (jBa h (h 148) 0) P := by
  congr 1
  funext a z
  simp only [jBa, jup2]
  by_cases e : a = 148
  · subst e
    simp
  · by_cases e2 : a = 135
    · subst e2
      simp
    · simp [e, e2]
theorem jBa_cg {h : jH} {v v' : Nat → Int32} {m m' : Nat} {P : jP} (e : ∀ z, v z = v' z) (e2 : m = m') : jM (jBa h v m) P = jM (jBa h v' m') P := by rw [show v = v' from funext e, e2]
def uni (T : jT) (c k : Nat) : Nat := jor k (fun i => if c.testBit i then T.2 i else 0)
def seen (T : jT) (c x : Nat) : Bool := jex c (fun c' => uni T c' T.1 == x)
def ucn (T : jT) : Nat → Nat
  | 0 => 0
  | c + 1 => ucn T c + (if seen T c (uni T c T.1) then 0 else 1)
theorem uni_lt {T : jT} (hT : tw T) (c k : Nat) : uni T c k < 4096 := jor_lt (m := 12) fun i _ => by
  split
  · exact hT.2.1 i
  · omega
theorem ucn_le (T : jT) : ∀ c, ucn T c ≤ c
  | 0 => Nat.le_refl _
  | c + 1 => by
    have := ucn_le T c
    unfold ucn
    split <;> omega
def stn (T : jT) (v k : Nat) : Bool := jex k (fun i => T.2 i == v)
def mad (T : jT) (v k : Nat) : Nat := jor k (fun i => if (!(T.2 i == v) && (T.2 i &&& (4095 ^^^ v) == 0)) = true then T.2 i else 0)
def isb (T : jT) (v : Nat) : Bool := stn T v T.1 && !(mad T v T.1 == v)
def bsF (T : jT) : Nat → (Nat → Nat) × Nat
  | 0 => (fun _ => 0, 0)
  | v + 1 => if isb T (v + 1) then (jfu (bsF T v).1 (bsF T v).2 (v + 1), (bsF T v).2 + 1) else bsF T v
theorem ni_cl2 {r v : Nat} (hr : r < 4096) (hv : v < 4096) : nI r &&& (nI v ^^^ (-1)) = nI (r &&& (4095 ^^^ v)) := by
  apply Int32.toBitVec_inj.1
  show BitVec.ofNat 32 r &&& (BitVec.ofNat 32 v ^^^ BitVec.allOnes 32) = BitVec.ofNat 32 (r &&& (4095 ^^^ v))
  apply BitVec.eq_of_getLsbD_eq
  intro i hi
  simp only [BitVec.getLsbD_and, BitVec.getLsbD_xor, BitVec.getLsbD_ofNat, BitVec.getLsbD_allOnes, hi, decide_true, Bool.true_and, Nat.testBit_xor, Nat.testBit_and, Nat.testBit_two_pow_sub_one, show (4095 : Nat) = 2 ^ 12 - 1 from rfl]
  by_cases h : i < 12
  · simp [h]
  · have : r.testBit i = false := Nat.testBit_lt_two_pow (Nat.lt_of_lt_of_le hr (show 2 ^ 12 ≤ 2 ^ i from Nat.pow_le_pow_right (by omega) (by omega)))
    simp [this]
theorem c_layUnions {n : jN} {h : jH} {P : jP} {a : Nat} (hw : ∀ q, tw (P q)) (ha : a < 38) : jC n 1 jy_Model_layUnions jc_Model_layUnions 7 (some .int) [.ref 135, .int (nI a)] (jM h P) (some (.int (nI (ucn (P a) (2 ^ (P a).1))))) (jM (jU h (fun z => if z < 4096 then jbo (seen (P a) (2 ^ (P a).1) z) else h 147 z)) P) := by
  refine jC_of jm_Model_layUnions (L := [some (.ref 135), some (.int (nI a)), none, none, none, none, none]) (Nat.le_of_ble_eq_true rfl) rfl trivial ?_
  generalize hres : (((some (.int (nI (ucn (P a) (2 ^ (P a).1))))), jM (jU h (fun z => if z < 4096 then jbo (seen (P a) (2 ^ (P a).1) z) else h 147 z)) P) : Option Value × jH) = res
  have hna := (hw a).1
  have h2m : 2 ^ (P a).1 ≤ 2 ^ 12 := Nat.pow_le_pow_right (by omega) hna
  refine j_heap (h' := jM (jU h (h 147)) P) jU_0 ?_
  refine j_aload_n d_Model_layUnions_0 rfl ?_
  refine j_getr (b := 137) d_Model_layUnions_1 jf_Model_13 rfl rfl rfl (by decide) ?_
  refine j_iload_n d_Model_layUnions_4 rfl ?_
  refine j_ialdN (v := nI ((P a).1)) d_Model_layUnions_5 rfl (by omega) (by decide) rfl ?_
  refine j_istore_n (L' := [some (.ref 135), some (.int (nI a)), some (.int (nI ((P a).1))), none, none, none, none]) d_Model_layUnions_6 (by decide) rfl rfl ?_
  refine j_iconst (v := nI 0) d_Model_layUnions_7 rfl ?_
  refine j_istore_n (L' := [some (.ref 135), some (.int (nI a)), some (.int (nI ((P a).1))), some (.int (nI 0)), none, none, none]) d_Model_layUnions_8 (by decide) rfl rfl ?_
  refine j_heap (h' := jM (jU h (fun z => if z < 0 then jbo false else h 147 z)) P) (jU_cg (fun z => by rw [if_neg (by omega)])) ?_
  refine j_loop (P := fun q => jJ n 1 jc_Model_layUnions 7 "YesNoPowersModel" 9 [some (.ref 135), some (.int (nI a)), some (.int (nI ((P a).1))), some (.int (nI q)), none, none, none] [] (jM (jU h (fun z => if z < q then jbo false else h 147 z)) P) res) (m := 4096) ?_ (fun q hq ih => ?_)
  · refine j_iload_n d_Model_layUnions_9 rfl ?_
    refine j_sipush (v := nI 4096) d_Model_layUnions_10 (by decide) ?_
    refine j_icmp_geN_t (tgt := 29) d_Model_layUnions_13 (by decide) (by omega) (by omega) (by omega) ?_
    refine j_forget (i := 3) rfl ?_
    refine j_iconst (v := nI 0) d_Model_layUnions_29 rfl ?_
    refine j_istore_n (L' := [some (.ref 135), some (.int (nI a)), some (.int (nI ((P a).1))), some (.int (nI 0)), none, none, none]) d_Model_layUnions_30 (by decide) rfl rfl ?_
    refine j_iconst (v := nI 0) d_Model_layUnions_31 rfl ?_
    refine j_istore (L' := [some (.ref 135), some (.int (nI a)), some (.int (nI ((P a).1))), some (.int (nI 0)), some (.int (nI 0)), none, none]) d_Model_layUnions_32 (by decide) rfl rfl ?_
    refine j_heap (h' := jM (jU h (fun z => if z < 4096 then jbo (seen (P a) 0 z) else h 147 z)) P) (jU_cg (fun z => rfl)) ?_
    refine j_loop (P := fun c => jJ n 1 jc_Model_layUnions 7 "YesNoPowersModel" 34 [some (.ref 135), some (.int (nI a)), some (.int (nI ((P a).1))), some (.int (nI (ucn (P a) c))), some (.int (nI c)), none, none] [] (jM (jU h (fun z => if z < 4096 then jbo (seen (P a) c z) else h 147 z)) P) res) (m := 2 ^ (P a).1) ?_ (fun c hc ihc => ?_)
    · have hul := ucn_le (P a) (2 ^ (P a).1)
      refine j_iload d_Model_layUnions_34 rfl ?_
      refine j_iconst (v := nI 1) d_Model_layUnions_36 rfl ?_
      refine j_iload_n d_Model_layUnions_37 rfl ?_
      refine j_shl1N d_Model_layUnions_38 (by omega) ?_
      refine j_icmp_geN_t (tgt := 119) d_Model_layUnions_39 (by decide) (by omega) (by omega) (Nat.le_refl _) ?_
      refine j_iload_n d_Model_layUnions_119 rfl ?_
      subst hres
      exact j_reti d_Model_layUnions_120 rfl rfl
    · have hul := ucn_le (P a) c
      refine j_iload d_Model_layUnions_34 rfl ?_
      refine j_iconst (v := nI 1) d_Model_layUnions_36 rfl ?_
      refine j_iload_n d_Model_layUnions_37 rfl ?_
      refine j_shl1N d_Model_layUnions_38 (by omega) ?_
      refine j_icmp_geN_f (tgt := 119) d_Model_layUnions_39 (by decide) (by omega) (by omega) (Nat.not_le.mpr hc) ?_
      refine j_iconst (v := nI 0) d_Model_layUnions_42 rfl ?_
      refine j_istore (L' := [some (.ref 135), some (.int (nI a)), some (.int (nI ((P a).1))), some (.int (nI (ucn (P a) c))), some (.int (nI c)), some (.int (nI 0)), none]) d_Model_layUnions_43 (by decide) rfl rfl ?_
      refine j_iconst (v := nI 0) d_Model_layUnions_45 rfl ?_
      refine j_istore (L' := [some (.ref 135), some (.int (nI a)), some (.int (nI ((P a).1))), some (.int (nI (ucn (P a) c))), some (.int (nI c)), some (.int (nI 0)), some (.int (nI 0))]) d_Model_layUnions_46 (by decide) rfl rfl ?_
      refine j_loop (P := fun i => jJ n 1 jc_Model_layUnions 7 "YesNoPowersModel" 48 [some (.ref 135), some (.int (nI a)), some (.int (nI ((P a).1))), some (.int (nI (ucn (P a) c))), some (.int (nI c)), some (.int (nI (uni (P a) c i))), some (.int (nI i))] [] (jM (jU h (fun z => if z < 4096 then jbo (seen (P a) c z) else h 147 z)) P) res) (m := (P a).1) ?_ (fun i hi ihi => ?_)
      · refine j_iload d_Model_layUnions_48 rfl ?_
        refine j_iload_n d_Model_layUnions_50 rfl ?_
        refine j_icmp_geN_t (tgt := 87) d_Model_layUnions_51 (by decide) (by omega) (by omega) (Nat.le_refl _) ?_
        have hun := uni_lt (hw a) c (P a).1
        refine j_iload_n d_Model_layUnions_87 rfl ?_
        refine j_aload_n d_Model_layUnions_88 rfl ?_
        refine j_getr (b := 147) d_Model_layUnions_89 jf_Model_43 rfl rfl rfl (by decide) ?_
        refine j_iload d_Model_layUnions_92 rfl ?_
        refine j_zaldN (v := jbo (seen (P a) c (uni (P a) c (P a).1))) d_Model_layUnions_94 rfl (by omega) (by decide) (if_pos hun) ?_
        refine j_if_eqB (tgt := 102) d_Model_layUnions_95 (by decide) (fun e => ?_) (fun e => ?_)
        · refine j_iconst (v := nI 1) d_Model_layUnions_102 rfl ?_
          refine j_iaddN d_Model_layUnions_103 ?_
          refine j_top (w := nI (ucn (P a) (c + 1))) (congrArg nI (by simp [ucn, e])) ?_
          refine j_istore_n (L' := [some (.ref 135), some (.int (nI a)), some (.int (nI ((P a).1))), some (.int (nI (ucn (P a) (c + 1)))), some (.int (nI c)), some (.int (nI (uni (P a) c ((P a).1)))), some (.int (nI ((P a).1)))]) d_Model_layUnions_104 (by decide) rfl rfl ?_
          refine j_aload_n d_Model_layUnions_105 rfl ?_
          refine j_getr (b := 147) d_Model_layUnions_106 jf_Model_43 rfl rfl rfl (by decide) ?_
          refine j_iload d_Model_layUnions_109 rfl ?_
          refine j_iconst (v := nI 1) d_Model_layUnions_111 rfl ?_
          refine j_zastN (h' := jM (jU h (jfu (fun z => if z < 4096 then jbo (seen (P a) c z) else h 147 z) (uni (P a) c ((P a).1)) (nI 1))) P) d_Model_layUnions_112 rfl (by omega) (by decide) (Or.inr rfl) jU_v ?_
          refine j_iincN (x := c) (L' := [some (.ref 135), some (.int (nI a)), some (.int (nI ((P a).1))), some (.int (nI (ucn (P a) (c + 1)))), some (.int (nI (c + 1))), some (.int (nI (uni (P a) c ((P a).1)))), some (.int (nI ((P a).1)))]) d_Model_layUnions_113 rfl (by decide) rfl rfl ?_
          refine j_goto (tgt := 34) d_Model_layUnions_116 (by decide) ?_
          refine j_heap (h' := jM (jU h (fun z => if z < 4096 then jbo (seen (P a) (c + 1) z) else h 147 z)) P) (jU_cg (fun z => by show (if _ then _ else _) = _; by_cases e1 : z = uni (P a) c (P a).1; (rw [if_pos e1, e1, if_pos hun, show seen (P a) (c + 1) (uni (P a) c (P a).1) = true from by simp [seen, jex]]; rfl); (rw [if_neg e1, show seen (P a) (c + 1) z = seen (P a) c z from by simp [seen, jex, beq_false_of_ne (Ne.symm e1)]]))) ?_
          exact j_forget (i := 5) rfl (j_forget (i := 6) rfl ihc)
        · refine j_iconst (v := nI 0) d_Model_layUnions_98 rfl ?_
          refine j_goto (tgt := 103) d_Model_layUnions_99 (by decide) ?_
          refine j_iaddN d_Model_layUnions_103 ?_
          refine j_top (w := nI (ucn (P a) (c + 1))) (congrArg nI (by simp [ucn, e])) ?_
          refine j_istore_n (L' := [some (.ref 135), some (.int (nI a)), some (.int (nI ((P a).1))), some (.int (nI (ucn (P a) (c + 1)))), some (.int (nI c)), some (.int (nI (uni (P a) c ((P a).1)))), some (.int (nI ((P a).1)))]) d_Model_layUnions_104 (by decide) rfl rfl ?_
          refine j_aload_n d_Model_layUnions_105 rfl ?_
          refine j_getr (b := 147) d_Model_layUnions_106 jf_Model_43 rfl rfl rfl (by decide) ?_
          refine j_iload d_Model_layUnions_109 rfl ?_
          refine j_iconst (v := nI 1) d_Model_layUnions_111 rfl ?_
          refine j_zastN (h' := jM (jU h (jfu (fun z => if z < 4096 then jbo (seen (P a) c z) else h 147 z) (uni (P a) c ((P a).1)) (nI 1))) P) d_Model_layUnions_112 rfl (by omega) (by decide) (Or.inr rfl) jU_v ?_
          refine j_iincN (x := c) (L' := [some (.ref 135), some (.int (nI a)), some (.int (nI ((P a).1))), some (.int (nI (ucn (P a) (c + 1)))), some (.int (nI (c + 1))), some (.int (nI (uni (P a) c ((P a).1)))), some (.int (nI ((P a).1)))]) d_Model_layUnions_113 rfl (by decide) rfl rfl ?_
          refine j_goto (tgt := 34) d_Model_layUnions_116 (by decide) ?_
          refine j_heap (h' := jM (jU h (fun z => if z < 4096 then jbo (seen (P a) (c + 1) z) else h 147 z)) P) (jU_cg (fun z => by show (if _ then _ else _) = _; by_cases e1 : z = uni (P a) c (P a).1; (rw [if_pos e1, e1, if_pos hun, show seen (P a) (c + 1) (uni (P a) c (P a).1) = true from by simp [seen, jex]]; rfl); (rw [if_neg e1, show seen (P a) (c + 1) z = seen (P a) c z from by simp [seen, jex, beq_false_of_ne (Ne.symm e1)]]))) ?_
          exact j_forget (i := 5) rfl (j_forget (i := 6) rfl ihc)
      · refine j_iload d_Model_layUnions_48 rfl ?_
        refine j_iload_n d_Model_layUnions_50 rfl ?_
        refine j_icmp_geN_f (tgt := 87) d_Model_layUnions_51 (by decide) (by omega) (by omega) (Nat.not_le.mpr hi) ?_
        refine j_iload d_Model_layUnions_54 rfl ?_
        refine j_iload d_Model_layUnions_56 rfl ?_
        refine j_iload d_Model_layUnions_58 rfl ?_
        refine j_ishrN d_Model_layUnions_60 (by omega) (by omega) ?_
        refine j_iconst (v := nI 1) d_Model_layUnions_61 rfl ?_
        refine j_iandN d_Model_layUnions_62 ?_
        refine j_top (w := jbo ((c).testBit i)) (ni_bit _ _) ?_
        refine j_iconst (v := nI 1) d_Model_layUnions_63 rfl ?_
        refine j_icmp_neB (tgt := 77) d_Model_layUnions_64 (by decide) (fun e => ?_) (fun e => ?_)
        · refine j_iconst (v := nI 0) d_Model_layUnions_77 rfl ?_
          refine j_iorN d_Model_layUnions_78 ?_
          refine j_top (w := nI (uni (P a) c (i + 1))) (by rw [Nat.or_zero]; exact congrArg nI (jor_z (by simp [e]))) ?_
          refine j_istore (L' := [some (.ref 135), some (.int (nI a)), some (.int (nI ((P a).1))), some (.int (nI (ucn (P a) c))), some (.int (nI c)), some (.int (nI (uni (P a) c (i + 1)))), some (.int (nI i))]) d_Model_layUnions_79 (by decide) rfl rfl ?_
          refine j_iincN (x := i) (L' := [some (.ref 135), some (.int (nI a)), some (.int (nI ((P a).1))), some (.int (nI (ucn (P a) c))), some (.int (nI c)), some (.int (nI (uni (P a) c (i + 1)))), some (.int (nI (i + 1)))]) d_Model_layUnions_81 rfl (by decide) rfl rfl ?_
          refine j_goto (tgt := 48) d_Model_layUnions_84 (by decide) ?_
          exact ihi
        · refine j_aload_n d_Model_layUnions_67 rfl ?_
          refine j_iload_n d_Model_layUnions_68 rfl ?_
          refine j_iload d_Model_layUnions_69 rfl ?_
          refine j_callVs (As := [.int (nI a), .int (nI i)]) (st := [.int (nI (uni (P a) c i))]) (c_row (by omega) (by omega)) d_Model_layUnions_71 (by decide) jm_Model_row jk_Model_71 ji_Model_row js_Model_row rfl (by decide) rfl rfl (Nat.le_of_ble_eq_true rfl) rfl ?_
          refine j_goto (tgt := 78) d_Model_layUnions_74 (by decide) ?_
          refine j_iorN d_Model_layUnions_78 ?_
          refine j_top (w := nI (uni (P a) c (i + 1))) (congrArg nI (jor_t (by simp [e]))) ?_
          refine j_istore (L' := [some (.ref 135), some (.int (nI a)), some (.int (nI ((P a).1))), some (.int (nI (ucn (P a) c))), some (.int (nI c)), some (.int (nI (uni (P a) c (i + 1)))), some (.int (nI i))]) d_Model_layUnions_79 (by decide) rfl rfl ?_
          refine j_iincN (x := i) (L' := [some (.ref 135), some (.int (nI a)), some (.int (nI ((P a).1))), some (.int (nI (ucn (P a) c))), some (.int (nI c)), some (.int (nI (uni (P a) c (i + 1)))), some (.int (nI (i + 1)))]) d_Model_layUnions_81 rfl (by decide) rfl rfl ?_
          refine j_goto (tgt := 48) d_Model_layUnions_84 (by decide) ?_
          exact ihi
  · refine j_iload_n d_Model_layUnions_9 rfl ?_
    refine j_sipush (v := nI 4096) d_Model_layUnions_10 (by decide) ?_
    refine j_icmp_geN_f (tgt := 29) d_Model_layUnions_13 (by decide) (by omega) (by omega) (by omega) ?_
    refine j_aload_n d_Model_layUnions_16 rfl ?_
    refine j_getr (b := 147) d_Model_layUnions_17 jf_Model_43 rfl rfl rfl (by decide) ?_
    refine j_iload_n d_Model_layUnions_20 rfl ?_
    refine j_iconst (v := nI 0) d_Model_layUnions_21 rfl ?_
    refine j_zastN (h' := jM (jU h (jfu (fun z => if z < q then jbo false else h 147 z) q (nI 0))) P) d_Model_layUnions_22 rfl (by omega) (by decide) (Or.inl rfl) jU_v ?_
    refine j_iincN (x := q) (L' := [some (.ref 135), some (.int (nI a)), some (.int (nI ((P a).1))), some (.int (nI (q + 1))), none, none, none]) d_Model_layUnions_23 rfl (by decide) rfl rfl ?_
    refine j_goto (tgt := 9) d_Model_layUnions_26 (by decide) ?_
    refine j_heap (h' := jM (jU h (fun z => if z < (q + 1) then jbo false else h 147 z)) P) (jU_cg (fun z => by simp only [jfu]; (repeat' split); all_goals first | rfl | omega)) ?_
    exact ih
theorem c_layBasis {n : jN} {h : jH} {P : jP} {a : Nat} (hw : ∀ q, tw (P q)) (ha : a < 38) (hbn : ∀ v, v + 1 < 2 ^ (P a).1 → isb (P a) (v + 1) = true → (bsF (P a) v).2 < 12) : jC n 1 jy_Model_layBasis jc_Model_layBasis 8 none [.ref 135, .int (nI a)] (jM h P) none (jM (jBa h (fun z => if z < (bsF (P a) (2 ^ (P a).1 - 1)).2 then nI ((bsF (P a) (2 ^ (P a).1 - 1)).1 z) else h 148 z) ((bsF (P a) (2 ^ (P a).1 - 1)).2)) P) := by
  refine jC_of jm_Model_layBasis (L := [some (.ref 135), some (.int (nI a)), none, none, none, none, none, none]) (Nat.le_of_ble_eq_true rfl) rfl trivial ?_
  generalize hres : ((none, jM (jBa h (fun z => if z < (bsF (P a) (2 ^ (P a).1 - 1)).2 then nI ((bsF (P a) (2 ^ (P a).1 - 1)).1 z) else h 148 z) ((bsF (P a) (2 ^ (P a).1 - 1)).2)) P) : Option Value × jH) = res
  have hna := (hw a).1
  have h2m : 2 ^ (P a).1 ≤ 2 ^ 12 := Nat.pow_le_pow_right (by omega) hna
  have h2p : 0 < 2 ^ (P a).1 := Nat.two_pow_pos _
  refine j_aload_n d_Model_layBasis_0 rfl ?_
  refine j_getr (b := 137) d_Model_layBasis_1 jf_Model_13 rfl rfl rfl (by decide) ?_
  refine j_iload_n d_Model_layBasis_4 rfl ?_
  refine j_ialdN (v := nI ((P a).1)) d_Model_layBasis_5 rfl (by omega) (by decide) rfl ?_
  refine j_istore_n (L' := [some (.ref 135), some (.int (nI a)), some (.int (nI ((P a).1))), none, none, none, none, none]) d_Model_layBasis_6 (by decide) rfl rfl ?_
  refine j_aload_n d_Model_layBasis_7 rfl ?_
  refine j_iconst (v := nI 0) d_Model_layBasis_8 rfl ?_
  refine j_putv (h' := jM (jup2 h 135 20 (nI 0)) P) d_Model_layBasis_9 jf_Model_219 rfl rfl (jM_set_other (by decide) (by decide)) ?_
  refine j_iconst (v := nI 1) d_Model_layBasis_12 rfl ?_
  refine j_istore_n (L' := [some (.ref 135), some (.int (nI a)), some (.int (nI ((P a).1))), some (.int (nI 1)), none, none, none, none]) d_Model_layBasis_13 (by decide) rfl rfl ?_
  refine j_heap (h' := jM (jBa h (fun z => if z < (bsF (P a) 0).2 then nI ((bsF (P a) 0).1 z) else h 148 z) ((bsF (P a) 0).2)) P) (jBa_0.trans (jBa_cg (fun z => rfl) rfl)) ?_
  refine j_loop (P := fun v => jJ n 1 jc_Model_layBasis 8 "YesNoPowersModel" 14 [some (.ref 135), some (.int (nI a)), some (.int (nI ((P a).1))), some (.int (nI (v + 1))), none, none, none, none] [] (jM (jBa h (fun z => if z < (bsF (P a) v).2 then nI ((bsF (P a) v).1 z) else h 148 z) ((bsF (P a) v).2)) P) res) (m := 2 ^ (P a).1 - 1) ?_ (fun v hv ihv => ?_)
  · refine j_iload_n d_Model_layBasis_14 rfl ?_
    refine j_iconst (v := nI 1) d_Model_layBasis_15 rfl ?_
    refine j_iload_n d_Model_layBasis_16 rfl ?_
    refine j_shl1N d_Model_layBasis_17 (by omega) ?_
    refine j_icmp_geN_t (tgt := 155) d_Model_layBasis_18 (by decide) (by omega) (by omega) (by omega) ?_
    subst hres
    exact j_retv d_Model_layBasis_155 rfl
  · refine j_iload_n d_Model_layBasis_14 rfl ?_
    refine j_iconst (v := nI 1) d_Model_layBasis_15 rfl ?_
    refine j_iload_n d_Model_layBasis_16 rfl ?_
    refine j_shl1N d_Model_layBasis_17 (by omega) ?_
    refine j_icmp_geN_f (tgt := 155) d_Model_layBasis_18 (by decide) (by omega) (by omega) (by omega) ?_
    refine j_iconst (v := nI 0) d_Model_layBasis_21 rfl ?_
    refine j_istore (L' := [some (.ref 135), some (.int (nI a)), some (.int (nI ((P a).1))), some (.int (nI (v + 1))), some (.int (nI 0)), none, none, none]) d_Model_layBasis_22 (by decide) rfl rfl ?_
    refine j_iconst (v := nI 0) d_Model_layBasis_24 rfl ?_
    refine j_istore (L' := [some (.ref 135), some (.int (nI a)), some (.int (nI ((P a).1))), some (.int (nI (v + 1))), some (.int (nI 0)), some (.int (nI 0)), none, none]) d_Model_layBasis_25 (by decide) rfl rfl ?_
    refine j_iconst (v := nI 0) d_Model_layBasis_27 rfl ?_
    refine j_istore (L' := [some (.ref 135), some (.int (nI a)), some (.int (nI ((P a).1))), some (.int (nI (v + 1))), some (.int (nI 0)), some (.int (nI 0)), some (.int (nI 0)), none]) d_Model_layBasis_28 (by decide) rfl rfl ?_
    refine j_locs (L' := [some (.ref 135), some (.int (nI a)), some (.int (nI ((P a).1))), some (.int (nI (v + 1))), some (.int (jbo (stn (P a) (v + 1) 0))), some (.int (nI (mad (P a) (v + 1) 0))), some (.int (nI 0)), none]) rfl ?_
    refine j_loop (P := fun i => jJ n 1 jc_Model_layBasis 8 "YesNoPowersModel" 30 [some (.ref 135), some (.int (nI a)), some (.int (nI ((P a).1))), some (.int (nI (v + 1))), some (.int (jbo (stn (P a) (v + 1) i))), some (.int (nI (mad (P a) (v + 1) i))), some (.int (nI i)), none] [] (jM (jBa h (fun z => if z < (bsF (P a) v).2 then nI ((bsF (P a) v).1 z) else h 148 z) ((bsF (P a) v).2)) P) res) (m := (P a).1) ?_ (fun i hi ihi => ?_)
    · refine j_iload d_Model_layBasis_30 rfl ?_
      refine j_iload_n d_Model_layBasis_32 rfl ?_
      refine j_icmp_geN_t (tgt := 118) d_Model_layBasis_33 (by decide) (by omega) (by omega) (Nat.le_refl _) ?_
      refine j_iload d_Model_layBasis_118 rfl ?_
      have hmd : mad (P a) (v + 1) (P a).1 < 4096 := jor_lt (m := 12) fun i _ => by split; exact (hw a).2.1 i; omega
      refine j_if_eqB (tgt := 149) d_Model_layBasis_120 (by decide) (fun t1 => ?_) (fun t1 => ?_)
      · have hb0 : bsF (P a) (v + 1) = bsF (P a) v := by rw [bsF, if_neg (by simp [isb, t1])]
        refine j_iincN (x := v + 1) (L' := [some (.ref 135), some (.int (nI a)), some (.int (nI ((P a).1))), some (.int (nI ((v + 1) + 1))), some (.int (jbo (stn (P a) (v + 1) ((P a).1)))), some (.int (nI (mad (P a) (v + 1) ((P a).1)))), some (.int (nI ((P a).1))), none]) d_Model_layBasis_149 rfl (by decide) rfl rfl ?_
        refine j_goto (tgt := 14) d_Model_layBasis_152 (by decide) ?_
        rw [hb0] at ihv
        exact j_forget (i := 4) rfl (j_forget (i := 5) rfl (j_forget (i := 6) rfl ihv))
      · refine j_iload d_Model_layBasis_123 rfl ?_
        refine j_iload_n d_Model_layBasis_125 rfl ?_
        refine j_icmp_eqN (tgt := 149) d_Model_layBasis_126 (by decide) (by omega) (by omega) (fun t2 => ?_) (fun t2 => ?_)
        · have hb0 : bsF (P a) (v + 1) = bsF (P a) v := by rw [bsF, if_neg (by simp [isb, t1, t2])]
          refine j_iincN (x := v + 1) (L' := [some (.ref 135), some (.int (nI a)), some (.int (nI ((P a).1))), some (.int (nI ((v + 1) + 1))), some (.int (jbo (stn (P a) (v + 1) ((P a).1)))), some (.int (nI (mad (P a) (v + 1) ((P a).1)))), some (.int (nI ((P a).1))), none]) d_Model_layBasis_149 rfl (by decide) rfl rfl ?_
          refine j_goto (tgt := 14) d_Model_layBasis_152 (by decide) ?_
          rw [hb0] at ihv
          exact j_forget (i := 4) rfl (j_forget (i := 5) rfl (j_forget (i := 6) rfl ihv))
        · have hib : isb (P a) (v + 1) = true := by simp [isb, t1, t2]
          have hm12 := hbn v (by omega) hib
          have hb0 : bsF (P a) (v + 1) = (jfu (bsF (P a) v).1 (bsF (P a) v).2 (v + 1), (bsF (P a) v).2 + 1) := by rw [bsF, if_pos hib]
          refine j_aload_n d_Model_layBasis_129 rfl ?_
          refine j_getr (b := 148) d_Model_layBasis_130 jf_Model_47 rfl rfl rfl (by decide) ?_
          refine j_aload_n d_Model_layBasis_133 rfl ?_
          refine j_getv (v := nI ((bsF (P a) v).2)) d_Model_layBasis_134 jf_Model_219 rfl rfl rfl ?_
          refine j_iload_n d_Model_layBasis_137 rfl ?_
          refine j_iastN (h' := jM (jBa h (jfu (fun z => if z < (bsF (P a) v).2 then nI ((bsF (P a) v).1 z) else h 148 z) ((bsF (P a) v).2) (nI (v + 1))) ((bsF (P a) v).2)) P) d_Model_layBasis_138 rfl (by omega) (by decide) jBa_v ?_
          refine j_aload_n d_Model_layBasis_139 rfl ?_
          refine j_dup d_Model_layBasis_140 rfl ?_
          refine j_getv (v := nI ((bsF (P a) v).2)) d_Model_layBasis_141 jf_Model_219 rfl rfl rfl ?_
          refine j_iconst (v := nI 1) d_Model_layBasis_144 rfl ?_
          refine j_iaddN d_Model_layBasis_145 ?_
          refine j_putv (h' := jM (jBa h (jfu (fun z => if z < (bsF (P a) v).2 then nI ((bsF (P a) v).1 z) else h 148 z) ((bsF (P a) v).2) (nI (v + 1))) (((bsF (P a) v).2) + 1)) P) d_Model_layBasis_146 jf_Model_219 rfl rfl jBa_m ?_
          refine j_iincN (x := v + 1) (L' := [some (.ref 135), some (.int (nI a)), some (.int (nI ((P a).1))), some (.int (nI ((v + 1) + 1))), some (.int (jbo (stn (P a) (v + 1) ((P a).1)))), some (.int (nI (mad (P a) (v + 1) ((P a).1)))), some (.int (nI ((P a).1))), none]) d_Model_layBasis_149 rfl (by decide) rfl rfl ?_
          refine j_goto (tgt := 14) d_Model_layBasis_152 (by decide) ?_
          rw [hb0] at ihv
          refine j_heap (h' := jM (jBa h (fun z => if z < (bsF (P a) v).2 + 1 then nI (jfu (bsF (P a) v).1 (bsF (P a) v).2 (v + 1) z) else h 148 z) ((bsF (P a) v).2 + 1)) P) (jBa_cg (fun z => by simp only [jfu]; by_cases e1 : z = (bsF (P a) v).2; (rw [if_pos e1, if_pos (by omega), if_pos e1]); (rw [if_neg e1, if_neg e1]; by_cases e2 : z < (bsF (P a) v).2; (rw [if_pos e2, if_pos (by omega)]); (rw [if_neg e2, if_neg (by omega)]))) rfl) ?_
          exact j_forget (i := 4) rfl (j_forget (i := 5) rfl (j_forget (i := 6) rfl ihv))
    · have hri := (hw a).2.1 i
      refine j_iload d_Model_layBasis_30 rfl ?_
      refine j_iload_n d_Model_layBasis_32 rfl ?_
      refine j_icmp_geN_f (tgt := 118) d_Model_layBasis_33 (by decide) (by omega) (by omega) (Nat.not_le.mpr hi) ?_
      refine j_iload d_Model_layBasis_36 rfl ?_
      refine j_if_neB (tgt := 52) d_Model_layBasis_38 (by decide) (fun s1 => ?_) (fun s1 => ?_)
      · refine j_iconst (v := nI 1) d_Model_layBasis_52 rfl ?_
        refine j_goto (tgt := 57) d_Model_layBasis_53 (by decide) ?_
        refine j_top (w := jbo (stn (P a) (v + 1) (i + 1))) (by first | (rw [show stn (P a) (v + 1) (i + 1) = true from by simp_all [stn, jex]]; rfl) | (rw [show stn (P a) (v + 1) (i + 1) = false from by simp_all [stn, jex]]; rfl)) ?_
        refine j_istore (L' := [some (.ref 135), some (.int (nI a)), some (.int (nI ((P a).1))), some (.int (nI (v + 1))), some (.int (jbo (stn (P a) (v + 1) (i + 1)))), some (.int (nI (mad (P a) (v + 1) i))), some (.int (nI i)), none]) d_Model_layBasis_57 (by decide) rfl rfl ?_
        refine j_aload_n d_Model_layBasis_59 rfl ?_
        refine j_iload_n d_Model_layBasis_60 rfl ?_
        refine j_iload d_Model_layBasis_61 rfl ?_
        refine j_callVs (As := [.int (nI a), .int (nI i)]) (st := []) (c_row (by omega) (by omega)) d_Model_layBasis_63 (by decide) jm_Model_row jk_Model_71 ji_Model_row js_Model_row rfl (by decide) rfl rfl (Nat.le_of_ble_eq_true rfl) rfl ?_
        refine j_iload_n d_Model_layBasis_66 rfl ?_
        refine j_icmp_eqN (tgt := 88) d_Model_layBasis_67 (by decide) (by omega) (by omega) (fun w1 => ?_) (fun w1 => ?_)
        · refine j_iconst (v := nI 0) d_Model_layBasis_88 rfl ?_
          refine j_top (w := jbo (!((P a).2 i == (v + 1)) && ((P a).2 i &&& (4095 ^^^ (v + 1)) == 0))) (by rw [show (!((P a).2 i == (v + 1)) && ((P a).2 i &&& (4095 ^^^ (v + 1)) == 0)) = false from by simp [w1]]; rfl) ?_
          have hwi : (!((P a).2 i == (v + 1)) && ((P a).2 i &&& (4095 ^^^ (v + 1)) == 0)) = false := by simp [w1]
          refine j_istore (L' := [some (.ref 135), some (.int (nI a)), some (.int (nI ((P a).1))), some (.int (nI (v + 1))), some (.int (jbo (stn (P a) (v + 1) (i + 1)))), some (.int (nI (mad (P a) (v + 1) i))), some (.int (nI i)), some (.int (jbo (!((P a).2 i == (v + 1)) && ((P a).2 i &&& (4095 ^^^ (v + 1)) == 0))))]) d_Model_layBasis_89 (by decide) rfl rfl ?_
          refine j_iload d_Model_layBasis_91 rfl ?_
          refine j_iload d_Model_layBasis_93 rfl ?_
          refine j_if_eqB_t (tgt := 108) d_Model_layBasis_95 (by decide) hwi ?_
          refine j_iconst (v := nI 0) d_Model_layBasis_108 rfl ?_
          refine j_iorN d_Model_layBasis_109 ?_
          refine j_top (w := nI (mad (P a) (v + 1) (i + 1))) (by rw [Nat.or_zero]; exact congrArg nI (jor_z (if_neg (by rw [hwi]; decide)))) ?_
          refine j_istore (L' := [some (.ref 135), some (.int (nI a)), some (.int (nI ((P a).1))), some (.int (nI (v + 1))), some (.int (jbo (stn (P a) (v + 1) (i + 1)))), some (.int (nI (mad (P a) (v + 1) (i + 1)))), some (.int (nI i)), some (.int (jbo (!((P a).2 i == (v + 1)) && ((P a).2 i &&& (4095 ^^^ (v + 1)) == 0))))]) d_Model_layBasis_110 (by decide) rfl rfl ?_
          refine j_iincN (x := i) (L' := [some (.ref 135), some (.int (nI a)), some (.int (nI ((P a).1))), some (.int (nI (v + 1))), some (.int (jbo (stn (P a) (v + 1) (i + 1)))), some (.int (nI (mad (P a) (v + 1) (i + 1)))), some (.int (nI (i + 1))), some (.int (jbo (!((P a).2 i == (v + 1)) && ((P a).2 i &&& (4095 ^^^ (v + 1)) == 0))))]) d_Model_layBasis_112 rfl (by decide) rfl rfl ?_
          refine j_goto (tgt := 30) d_Model_layBasis_115 (by decide) ?_
          exact j_forget (i := 7) rfl ihi
        · refine j_aload_n d_Model_layBasis_70 rfl ?_
          refine j_iload_n d_Model_layBasis_71 rfl ?_
          refine j_iload d_Model_layBasis_72 rfl ?_
          refine j_callVs (As := [.int (nI a), .int (nI i)]) (st := []) (c_row (by omega) (by omega)) d_Model_layBasis_74 (by decide) jm_Model_row jk_Model_71 ji_Model_row js_Model_row rfl (by decide) rfl rfl (Nat.le_of_ble_eq_true rfl) rfl ?_
          refine j_iload_n d_Model_layBasis_77 rfl ?_
          refine j_iconst (v := -1) d_Model_layBasis_78 rfl ?_
          refine j_ixor d_Model_layBasis_79 ?_
          refine j_iand d_Model_layBasis_80 ?_
          refine j_top (w := nI ((P a).2 i &&& (4095 ^^^ (v + 1)))) (ni_cl2 hri (by omega)) ?_
          have hand : (P a).2 i &&& (4095 ^^^ (v + 1)) < 4096 := Nat.and_lt_two_pow (n := 12) _ (Nat.xor_lt_two_pow (n := 12) (by omega) (by omega))
          refine j_if_neN (tgt := 88) d_Model_layBasis_81 (by decide) (by omega) (fun w2 => ?_) (fun w2 => ?_)
          · refine j_iconst (v := nI 0) d_Model_layBasis_88 rfl ?_
            refine j_top (w := jbo (!((P a).2 i == (v + 1)) && ((P a).2 i &&& (4095 ^^^ (v + 1)) == 0))) (by rw [show (!((P a).2 i == (v + 1)) && ((P a).2 i &&& (4095 ^^^ (v + 1)) == 0)) = false from by simp [w1, w2]]; rfl) ?_
            have hwi : (!((P a).2 i == (v + 1)) && ((P a).2 i &&& (4095 ^^^ (v + 1)) == 0)) = false := by simp [w1, w2]
            refine j_istore (L' := [some (.ref 135), some (.int (nI a)), some (.int (nI ((P a).1))), some (.int (nI (v + 1))), some (.int (jbo (stn (P a) (v + 1) (i + 1)))), some (.int (nI (mad (P a) (v + 1) i))), some (.int (nI i)), some (.int (jbo (!((P a).2 i == (v + 1)) && ((P a).2 i &&& (4095 ^^^ (v + 1)) == 0))))]) d_Model_layBasis_89 (by decide) rfl rfl ?_
            refine j_iload d_Model_layBasis_91 rfl ?_
            refine j_iload d_Model_layBasis_93 rfl ?_
            refine j_if_eqB_t (tgt := 108) d_Model_layBasis_95 (by decide) hwi ?_
            refine j_iconst (v := nI 0) d_Model_layBasis_108 rfl ?_
            refine j_iorN d_Model_layBasis_109 ?_
            refine j_top (w := nI (mad (P a) (v + 1) (i + 1))) (by rw [Nat.or_zero]; exact congrArg nI (jor_z (if_neg (by rw [hwi]; decide)))) ?_
            refine j_istore (L' := [some (.ref 135), some (.int (nI a)), some (.int (nI ((P a).1))), some (.int (nI (v + 1))), some (.int (jbo (stn (P a) (v + 1) (i + 1)))), some (.int (nI (mad (P a) (v + 1) (i + 1)))), some (.int (nI i)), some (.int (jbo (!((P a).2 i == (v + 1)) && ((P a).2 i &&& (4095 ^^^ (v + 1)) == 0))))]) d_Model_layBasis_110 (by decide) rfl rfl ?_
            refine j_iincN (x := i) (L' := [some (.ref 135), some (.int (nI a)), some (.int (nI ((P a).1))), some (.int (nI (v + 1))), some (.int (jbo (stn (P a) (v + 1) (i + 1)))), some (.int (nI (mad (P a) (v + 1) (i + 1)))), some (.int (nI (i + 1))), some (.int (jbo (!((P a).2 i == (v + 1)) && ((P a).2 i &&& (4095 ^^^ (v + 1)) == 0))))]) d_Model_layBasis_112 rfl (by decide) rfl rfl ?_
            refine j_goto (tgt := 30) d_Model_layBasis_115 (by decide) ?_
            exact j_forget (i := 7) rfl ihi
          · refine j_iconst (v := nI 1) d_Model_layBasis_84 rfl ?_
            refine j_goto (tgt := 89) d_Model_layBasis_85 (by decide) ?_
            refine j_top (w := jbo (!((P a).2 i == (v + 1)) && ((P a).2 i &&& (4095 ^^^ (v + 1)) == 0))) (by rw [show (!((P a).2 i == (v + 1)) && ((P a).2 i &&& (4095 ^^^ (v + 1)) == 0)) = true from by simp [w1, w2]]; rfl) ?_
            have hwi : (!((P a).2 i == (v + 1)) && ((P a).2 i &&& (4095 ^^^ (v + 1)) == 0)) = true := by simp [w1, w2]
            refine j_istore (L' := [some (.ref 135), some (.int (nI a)), some (.int (nI ((P a).1))), some (.int (nI (v + 1))), some (.int (jbo (stn (P a) (v + 1) (i + 1)))), some (.int (nI (mad (P a) (v + 1) i))), some (.int (nI i)), some (.int (jbo (!((P a).2 i == (v + 1)) && ((P a).2 i &&& (4095 ^^^ (v + 1)) == 0))))]) d_Model_layBasis_89 (by decide) rfl rfl ?_
            refine j_iload d_Model_layBasis_91 rfl ?_
            refine j_iload d_Model_layBasis_93 rfl ?_
            refine j_if_eqB_f (tgt := 108) d_Model_layBasis_95 (by decide) hwi ?_
            refine j_aload_n d_Model_layBasis_98 rfl ?_
            refine j_iload_n d_Model_layBasis_99 rfl ?_
            refine j_iload d_Model_layBasis_100 rfl ?_
            refine j_callVs (As := [.int (nI a), .int (nI i)]) (st := [.int (nI (mad (P a) (v + 1) i))]) (c_row (by omega) (by omega)) d_Model_layBasis_102 (by decide) jm_Model_row jk_Model_71 ji_Model_row js_Model_row rfl (by decide) rfl rfl (Nat.le_of_ble_eq_true rfl) rfl ?_
            refine j_goto (tgt := 109) d_Model_layBasis_105 (by decide) ?_
            refine j_iorN d_Model_layBasis_109 ?_
            refine j_top (w := nI (mad (P a) (v + 1) (i + 1))) (congrArg nI (jor_t (if_pos hwi))) ?_
            refine j_istore (L' := [some (.ref 135), some (.int (nI a)), some (.int (nI ((P a).1))), some (.int (nI (v + 1))), some (.int (jbo (stn (P a) (v + 1) (i + 1)))), some (.int (nI (mad (P a) (v + 1) (i + 1)))), some (.int (nI i)), some (.int (jbo (!((P a).2 i == (v + 1)) && ((P a).2 i &&& (4095 ^^^ (v + 1)) == 0))))]) d_Model_layBasis_110 (by decide) rfl rfl ?_
            refine j_iincN (x := i) (L' := [some (.ref 135), some (.int (nI a)), some (.int (nI ((P a).1))), some (.int (nI (v + 1))), some (.int (jbo (stn (P a) (v + 1) (i + 1)))), some (.int (nI (mad (P a) (v + 1) (i + 1)))), some (.int (nI (i + 1))), some (.int (jbo (!((P a).2 i == (v + 1)) && ((P a).2 i &&& (4095 ^^^ (v + 1)) == 0))))]) d_Model_layBasis_112 rfl (by decide) rfl rfl ?_
            refine j_goto (tgt := 30) d_Model_layBasis_115 (by decide) ?_
            exact j_forget (i := 7) rfl ihi
      · refine j_aload_n d_Model_layBasis_41 rfl ?_
        refine j_iload_n d_Model_layBasis_42 rfl ?_
        refine j_iload d_Model_layBasis_43 rfl ?_
        refine j_callVs (As := [.int (nI a), .int (nI i)]) (st := []) (c_row (by omega) (by omega)) d_Model_layBasis_45 (by decide) jm_Model_row jk_Model_71 ji_Model_row js_Model_row rfl (by decide) rfl rfl (Nat.le_of_ble_eq_true rfl) rfl ?_
        refine j_iload_n d_Model_layBasis_48 rfl ?_
        refine j_icmp_neN (tgt := 56) d_Model_layBasis_49 (by decide) (by omega) (by omega) (fun s2 => ?_) (fun s2 => ?_)
        · refine j_iconst (v := nI 0) d_Model_layBasis_56 rfl ?_
          refine j_top (w := jbo (stn (P a) (v + 1) (i + 1))) (by first | (rw [show stn (P a) (v + 1) (i + 1) = true from by simp_all [stn, jex]]; rfl) | (rw [show stn (P a) (v + 1) (i + 1) = false from by simp_all [stn, jex]]; rfl)) ?_
          refine j_istore (L' := [some (.ref 135), some (.int (nI a)), some (.int (nI ((P a).1))), some (.int (nI (v + 1))), some (.int (jbo (stn (P a) (v + 1) (i + 1)))), some (.int (nI (mad (P a) (v + 1) i))), some (.int (nI i)), none]) d_Model_layBasis_57 (by decide) rfl rfl ?_
          refine j_aload_n d_Model_layBasis_59 rfl ?_
          refine j_iload_n d_Model_layBasis_60 rfl ?_
          refine j_iload d_Model_layBasis_61 rfl ?_
          refine j_callVs (As := [.int (nI a), .int (nI i)]) (st := []) (c_row (by omega) (by omega)) d_Model_layBasis_63 (by decide) jm_Model_row jk_Model_71 ji_Model_row js_Model_row rfl (by decide) rfl rfl (Nat.le_of_ble_eq_true rfl) rfl ?_
          refine j_iload_n d_Model_layBasis_66 rfl ?_
          refine j_icmp_eqN (tgt := 88) d_Model_layBasis_67 (by decide) (by omega) (by omega) (fun w1 => ?_) (fun w1 => ?_)
          · refine j_iconst (v := nI 0) d_Model_layBasis_88 rfl ?_
            refine j_top (w := jbo (!((P a).2 i == (v + 1)) && ((P a).2 i &&& (4095 ^^^ (v + 1)) == 0))) (by rw [show (!((P a).2 i == (v + 1)) && ((P a).2 i &&& (4095 ^^^ (v + 1)) == 0)) = false from by simp [w1]]; rfl) ?_
            have hwi : (!((P a).2 i == (v + 1)) && ((P a).2 i &&& (4095 ^^^ (v + 1)) == 0)) = false := by simp [w1]
            refine j_istore (L' := [some (.ref 135), some (.int (nI a)), some (.int (nI ((P a).1))), some (.int (nI (v + 1))), some (.int (jbo (stn (P a) (v + 1) (i + 1)))), some (.int (nI (mad (P a) (v + 1) i))), some (.int (nI i)), some (.int (jbo (!((P a).2 i == (v + 1)) && ((P a).2 i &&& (4095 ^^^ (v + 1)) == 0))))]) d_Model_layBasis_89 (by decide) rfl rfl ?_
            refine j_iload d_Model_layBasis_91 rfl ?_
            refine j_iload d_Model_layBasis_93 rfl ?_
            refine j_if_eqB_t (tgt := 108) d_Model_layBasis_95 (by decide) hwi ?_
            refine j_iconst (v := nI 0) d_Model_layBasis_108 rfl ?_
            refine j_iorN d_Model_layBasis_109 ?_
            refine j_top (w := nI (mad (P a) (v + 1) (i + 1))) (by rw [Nat.or_zero]; exact congrArg nI (jor_z (if_neg (by rw [hwi]; decide)))) ?_
            refine j_istore (L' := [some (.ref 135), some (.int (nI a)), some (.int (nI ((P a).1))), some (.int (nI (v + 1))), some (.int (jbo (stn (P a) (v + 1) (i + 1)))), some (.int (nI (mad (P a) (v + 1) (i + 1)))), some (.int (nI i)), some (.int (jbo (!((P a).2 i == (v + 1)) && ((P a).2 i &&& (4095 ^^^ (v + 1)) == 0))))]) d_Model_layBasis_110 (by decide) rfl rfl ?_
            refine j_iincN (x := i) (L' := [some (.ref 135), some (.int (nI a)), some (.int (nI ((P a).1))), some (.int (nI (v + 1))), some (.int (jbo (stn (P a) (v + 1) (i + 1)))), some (.int (nI (mad (P a) (v + 1) (i + 1)))), some (.int (nI (i + 1))), some (.int (jbo (!((P a).2 i == (v + 1)) && ((P a).2 i &&& (4095 ^^^ (v + 1)) == 0))))]) d_Model_layBasis_112 rfl (by decide) rfl rfl ?_
            refine j_goto (tgt := 30) d_Model_layBasis_115 (by decide) ?_
            exact j_forget (i := 7) rfl ihi
          · refine j_aload_n d_Model_layBasis_70 rfl ?_
            refine j_iload_n d_Model_layBasis_71 rfl ?_
            refine j_iload d_Model_layBasis_72 rfl ?_
            refine j_callVs (As := [.int (nI a), .int (nI i)]) (st := []) (c_row (by omega) (by omega)) d_Model_layBasis_74 (by decide) jm_Model_row jk_Model_71 ji_Model_row js_Model_row rfl (by decide) rfl rfl (Nat.le_of_ble_eq_true rfl) rfl ?_
            refine j_iload_n d_Model_layBasis_77 rfl ?_
            refine j_iconst (v := -1) d_Model_layBasis_78 rfl ?_
            refine j_ixor d_Model_layBasis_79 ?_
            refine j_iand d_Model_layBasis_80 ?_
            refine j_top (w := nI ((P a).2 i &&& (4095 ^^^ (v + 1)))) (ni_cl2 hri (by omega)) ?_
            have hand : (P a).2 i &&& (4095 ^^^ (v + 1)) < 4096 := Nat.and_lt_two_pow (n := 12) _ (Nat.xor_lt_two_pow (n := 12) (by omega) (by omega))
            refine j_if_neN (tgt := 88) d_Model_layBasis_81 (by decide) (by omega) (fun w2 => ?_) (fun w2 => ?_)
            · refine j_iconst (v := nI 0) d_Model_layBasis_88 rfl ?_
              refine j_top (w := jbo (!((P a).2 i == (v + 1)) && ((P a).2 i &&& (4095 ^^^ (v + 1)) == 0))) (by rw [show (!((P a).2 i == (v + 1)) && ((P a).2 i &&& (4095 ^^^ (v + 1)) == 0)) = false from by simp [w1, w2]]; rfl) ?_
              have hwi : (!((P a).2 i == (v + 1)) && ((P a).2 i &&& (4095 ^^^ (v + 1)) == 0)) = false := by simp [w1, w2]
              refine j_istore (L' := [some (.ref 135), some (.int (nI a)), some (.int (nI ((P a).1))), some (.int (nI (v + 1))), some (.int (jbo (stn (P a) (v + 1) (i + 1)))), some (.int (nI (mad (P a) (v + 1) i))), some (.int (nI i)), some (.int (jbo (!((P a).2 i == (v + 1)) && ((P a).2 i &&& (4095 ^^^ (v + 1)) == 0))))]) d_Model_layBasis_89 (by decide) rfl rfl ?_
              refine j_iload d_Model_layBasis_91 rfl ?_
              refine j_iload d_Model_layBasis_93 rfl ?_
              refine j_if_eqB_t (tgt := 108) d_Model_layBasis_95 (by decide) hwi ?_
              refine j_iconst (v := nI 0) d_Model_layBasis_108 rfl ?_
              refine j_iorN d_Model_layBasis_109 ?_
              refine j_top (w := nI (mad (P a) (v + 1) (i + 1))) (by rw [Nat.or_zero]; exact congrArg nI (jor_z (if_neg (by rw [hwi]; decide)))) ?_
              refine j_istore (L' := [some (.ref 135), some (.int (nI a)), some (.int (nI ((P a).1))), some (.int (nI (v + 1))), some (.int (jbo (stn (P a) (v + 1) (i + 1)))), some (.int (nI (mad (P a) (v + 1) (i + 1)))), some (.int (nI i)), some (.int (jbo (!((P a).2 i == (v + 1)) && ((P a).2 i &&& (4095 ^^^ (v + 1)) == 0))))]) d_Model_layBasis_110 (by decide) rfl rfl ?_
              refine j_iincN (x := i) (L' := [some (.ref 135), some (.int (nI a)), some (.int (nI ((P a).1))), some (.int (nI (v + 1))), some (.int (jbo (stn (P a) (v + 1) (i + 1)))), some (.int (nI (mad (P a) (v + 1) (i + 1)))), some (.int (nI (i + 1))), some (.int (jbo (!((P a).2 i == (v + 1)) && ((P a).2 i &&& (4095 ^^^ (v + 1)) == 0))))]) d_Model_layBasis_112 rfl (by decide) rfl rfl ?_
              refine j_goto (tgt := 30) d_Model_layBasis_115 (by decide) ?_
              exact j_forget (i := 7) rfl ihi
            · refine j_iconst (v := nI 1) d_Model_layBasis_84 rfl ?_
              refine j_goto (tgt := 89) d_Model_layBasis_85 (by decide) ?_
              refine j_top (w := jbo (!((P a).2 i == (v + 1)) && ((P a).2 i &&& (4095 ^^^ (v + 1)) == 0))) (by rw [show (!((P a).2 i == (v + 1)) && ((P a).2 i &&& (4095 ^^^ (v + 1)) == 0)) = true from by simp [w1, w2]]; rfl) ?_
              have hwi : (!((P a).2 i == (v + 1)) && ((P a).2 i &&& (4095 ^^^ (v + 1)) == 0)) = true := by simp [w1, w2]
              refine j_istore (L' := [some (.ref 135), some (.int (nI a)), some (.int (nI ((P a).1))), some (.int (nI (v + 1))), some (.int (jbo (stn (P a) (v + 1) (i + 1)))), some (.int (nI (mad (P a) (v + 1) i))), some (.int (nI i)), some (.int (jbo (!((P a).2 i == (v + 1)) && ((P a).2 i &&& (4095 ^^^ (v + 1)) == 0))))]) d_Model_layBasis_89 (by decide) rfl rfl ?_
              refine j_iload d_Model_layBasis_91 rfl ?_
              refine j_iload d_Model_layBasis_93 rfl ?_
              refine j_if_eqB_f (tgt := 108) d_Model_layBasis_95 (by decide) hwi ?_
              refine j_aload_n d_Model_layBasis_98 rfl ?_
              refine j_iload_n d_Model_layBasis_99 rfl ?_
              refine j_iload d_Model_layBasis_100 rfl ?_
              refine j_callVs (As := [.int (nI a), .int (nI i)]) (st := [.int (nI (mad (P a) (v + 1) i))]) (c_row (by omega) (by omega)) d_Model_layBasis_102 (by decide) jm_Model_row jk_Model_71 ji_Model_row js_Model_row rfl (by decide) rfl rfl (Nat.le_of_ble_eq_true rfl) rfl ?_
              refine j_goto (tgt := 109) d_Model_layBasis_105 (by decide) ?_
              refine j_iorN d_Model_layBasis_109 ?_
              refine j_top (w := nI (mad (P a) (v + 1) (i + 1))) (congrArg nI (jor_t (if_pos hwi))) ?_
              refine j_istore (L' := [some (.ref 135), some (.int (nI a)), some (.int (nI ((P a).1))), some (.int (nI (v + 1))), some (.int (jbo (stn (P a) (v + 1) (i + 1)))), some (.int (nI (mad (P a) (v + 1) (i + 1)))), some (.int (nI i)), some (.int (jbo (!((P a).2 i == (v + 1)) && ((P a).2 i &&& (4095 ^^^ (v + 1)) == 0))))]) d_Model_layBasis_110 (by decide) rfl rfl ?_
              refine j_iincN (x := i) (L' := [some (.ref 135), some (.int (nI a)), some (.int (nI ((P a).1))), some (.int (nI (v + 1))), some (.int (jbo (stn (P a) (v + 1) (i + 1)))), some (.int (nI (mad (P a) (v + 1) (i + 1)))), some (.int (nI (i + 1))), some (.int (jbo (!((P a).2 i == (v + 1)) && ((P a).2 i &&& (4095 ^^^ (v + 1)) == 0))))]) d_Model_layBasis_112 rfl (by decide) rfl rfl ?_
              refine j_goto (tgt := 30) d_Model_layBasis_115 (by decide) ?_
              exact j_forget (i := 7) rfl ihi
        · refine j_iconst (v := nI 1) d_Model_layBasis_52 rfl ?_
          refine j_goto (tgt := 57) d_Model_layBasis_53 (by decide) ?_
          refine j_top (w := jbo (stn (P a) (v + 1) (i + 1))) (by first | (rw [show stn (P a) (v + 1) (i + 1) = true from by simp_all [stn, jex]]; rfl) | (rw [show stn (P a) (v + 1) (i + 1) = false from by simp_all [stn, jex]]; rfl)) ?_
          refine j_istore (L' := [some (.ref 135), some (.int (nI a)), some (.int (nI ((P a).1))), some (.int (nI (v + 1))), some (.int (jbo (stn (P a) (v + 1) (i + 1)))), some (.int (nI (mad (P a) (v + 1) i))), some (.int (nI i)), none]) d_Model_layBasis_57 (by decide) rfl rfl ?_
          refine j_aload_n d_Model_layBasis_59 rfl ?_
          refine j_iload_n d_Model_layBasis_60 rfl ?_
          refine j_iload d_Model_layBasis_61 rfl ?_
          refine j_callVs (As := [.int (nI a), .int (nI i)]) (st := []) (c_row (by omega) (by omega)) d_Model_layBasis_63 (by decide) jm_Model_row jk_Model_71 ji_Model_row js_Model_row rfl (by decide) rfl rfl (Nat.le_of_ble_eq_true rfl) rfl ?_
          refine j_iload_n d_Model_layBasis_66 rfl ?_
          refine j_icmp_eqN (tgt := 88) d_Model_layBasis_67 (by decide) (by omega) (by omega) (fun w1 => ?_) (fun w1 => ?_)
          · refine j_iconst (v := nI 0) d_Model_layBasis_88 rfl ?_
            refine j_top (w := jbo (!((P a).2 i == (v + 1)) && ((P a).2 i &&& (4095 ^^^ (v + 1)) == 0))) (by rw [show (!((P a).2 i == (v + 1)) && ((P a).2 i &&& (4095 ^^^ (v + 1)) == 0)) = false from by simp [w1]]; rfl) ?_
            have hwi : (!((P a).2 i == (v + 1)) && ((P a).2 i &&& (4095 ^^^ (v + 1)) == 0)) = false := by simp [w1]
            refine j_istore (L' := [some (.ref 135), some (.int (nI a)), some (.int (nI ((P a).1))), some (.int (nI (v + 1))), some (.int (jbo (stn (P a) (v + 1) (i + 1)))), some (.int (nI (mad (P a) (v + 1) i))), some (.int (nI i)), some (.int (jbo (!((P a).2 i == (v + 1)) && ((P a).2 i &&& (4095 ^^^ (v + 1)) == 0))))]) d_Model_layBasis_89 (by decide) rfl rfl ?_
            refine j_iload d_Model_layBasis_91 rfl ?_
            refine j_iload d_Model_layBasis_93 rfl ?_
            refine j_if_eqB_t (tgt := 108) d_Model_layBasis_95 (by decide) hwi ?_
            refine j_iconst (v := nI 0) d_Model_layBasis_108 rfl ?_
            refine j_iorN d_Model_layBasis_109 ?_
            refine j_top (w := nI (mad (P a) (v + 1) (i + 1))) (by rw [Nat.or_zero]; exact congrArg nI (jor_z (if_neg (by rw [hwi]; decide)))) ?_
            refine j_istore (L' := [some (.ref 135), some (.int (nI a)), some (.int (nI ((P a).1))), some (.int (nI (v + 1))), some (.int (jbo (stn (P a) (v + 1) (i + 1)))), some (.int (nI (mad (P a) (v + 1) (i + 1)))), some (.int (nI i)), some (.int (jbo (!((P a).2 i == (v + 1)) && ((P a).2 i &&& (4095 ^^^ (v + 1)) == 0))))]) d_Model_layBasis_110 (by decide) rfl rfl ?_
            refine j_iincN (x := i) (L' := [some (.ref 135), some (.int (nI a)), some (.int (nI ((P a).1))), some (.int (nI (v + 1))), some (.int (jbo (stn (P a) (v + 1) (i + 1)))), some (.int (nI (mad (P a) (v + 1) (i + 1)))), some (.int (nI (i + 1))), some (.int (jbo (!((P a).2 i == (v + 1)) && ((P a).2 i &&& (4095 ^^^ (v + 1)) == 0))))]) d_Model_layBasis_112 rfl (by decide) rfl rfl ?_
            refine j_goto (tgt := 30) d_Model_layBasis_115 (by decide) ?_
            exact j_forget (i := 7) rfl ihi
          · refine j_aload_n d_Model_layBasis_70 rfl ?_
            refine j_iload_n d_Model_layBasis_71 rfl ?_
            refine j_iload d_Model_layBasis_72 rfl ?_
            refine j_callVs (As := [.int (nI a), .int (nI i)]) (st := []) (c_row (by omega) (by omega)) d_Model_layBasis_74 (by decide) jm_Model_row jk_Model_71 ji_Model_row js_Model_row rfl (by decide) rfl rfl (Nat.le_of_ble_eq_true rfl) rfl ?_
            refine j_iload_n d_Model_layBasis_77 rfl ?_
            refine j_iconst (v := -1) d_Model_layBasis_78 rfl ?_
            refine j_ixor d_Model_layBasis_79 ?_
            refine j_iand d_Model_layBasis_80 ?_
            refine j_top (w := nI ((P a).2 i &&& (4095 ^^^ (v + 1)))) (ni_cl2 hri (by omega)) ?_
            have hand : (P a).2 i &&& (4095 ^^^ (v + 1)) < 4096 := Nat.and_lt_two_pow (n := 12) _ (Nat.xor_lt_two_pow (n := 12) (by omega) (by omega))
            refine j_if_neN (tgt := 88) d_Model_layBasis_81 (by decide) (by omega) (fun w2 => ?_) (fun w2 => ?_)
            · refine j_iconst (v := nI 0) d_Model_layBasis_88 rfl ?_
              refine j_top (w := jbo (!((P a).2 i == (v + 1)) && ((P a).2 i &&& (4095 ^^^ (v + 1)) == 0))) (by rw [show (!((P a).2 i == (v + 1)) && ((P a).2 i &&& (4095 ^^^ (v + 1)) == 0)) = false from by simp [w1, w2]]; rfl) ?_
              have hwi : (!((P a).2 i == (v + 1)) && ((P a).2 i &&& (4095 ^^^ (v + 1)) == 0)) = false := by simp [w1, w2]
              refine j_istore (L' := [some (.ref 135), some (.int (nI a)), some (.int (nI ((P a).1))), some (.int (nI (v + 1))), some (.int (jbo (stn (P a) (v + 1) (i + 1)))), some (.int (nI (mad (P a) (v + 1) i))), some (.int (nI i)), some (.int (jbo (!((P a).2 i == (v + 1)) && ((P a).2 i &&& (4095 ^^^ (v + 1)) == 0))))]) d_Model_layBasis_89 (by decide) rfl rfl ?_
              refine j_iload d_Model_layBasis_91 rfl ?_
              refine j_iload d_Model_layBasis_93 rfl ?_
              refine j_if_eqB_t (tgt := 108) d_Model_layBasis_95 (by decide) hwi ?_
              refine j_iconst (v := nI 0) d_Model_layBasis_108 rfl ?_
              refine j_iorN d_Model_layBasis_109 ?_
              refine j_top (w := nI (mad (P a) (v + 1) (i + 1))) (by rw [Nat.or_zero]; exact congrArg nI (jor_z (if_neg (by rw [hwi]; decide)))) ?_
              refine j_istore (L' := [some (.ref 135), some (.int (nI a)), some (.int (nI ((P a).1))), some (.int (nI (v + 1))), some (.int (jbo (stn (P a) (v + 1) (i + 1)))), some (.int (nI (mad (P a) (v + 1) (i + 1)))), some (.int (nI i)), some (.int (jbo (!((P a).2 i == (v + 1)) && ((P a).2 i &&& (4095 ^^^ (v + 1)) == 0))))]) d_Model_layBasis_110 (by decide) rfl rfl ?_
              refine j_iincN (x := i) (L' := [some (.ref 135), some (.int (nI a)), some (.int (nI ((P a).1))), some (.int (nI (v + 1))), some (.int (jbo (stn (P a) (v + 1) (i + 1)))), some (.int (nI (mad (P a) (v + 1) (i + 1)))), some (.int (nI (i + 1))), some (.int (jbo (!((P a).2 i == (v + 1)) && ((P a).2 i &&& (4095 ^^^ (v + 1)) == 0))))]) d_Model_layBasis_112 rfl (by decide) rfl rfl ?_
              refine j_goto (tgt := 30) d_Model_layBasis_115 (by decide) ?_
              exact j_forget (i := 7) rfl ihi
            · refine j_iconst (v := nI 1) d_Model_layBasis_84 rfl ?_
              refine j_goto (tgt := 89) d_Model_layBasis_85 (by decide) ?_
              refine j_top (w := jbo (!((P a).2 i == (v + 1)) && ((P a).2 i &&& (4095 ^^^ (v + 1)) == 0))) (by rw [show (!((P a).2 i == (v + 1)) && ((P a).2 i &&& (4095 ^^^ (v + 1)) == 0)) = true from by simp [w1, w2]]; rfl) ?_
              have hwi : (!((P a).2 i == (v + 1)) && ((P a).2 i &&& (4095 ^^^ (v + 1)) == 0)) = true := by simp [w1, w2]
              refine j_istore (L' := [some (.ref 135), some (.int (nI a)), some (.int (nI ((P a).1))), some (.int (nI (v + 1))), some (.int (jbo (stn (P a) (v + 1) (i + 1)))), some (.int (nI (mad (P a) (v + 1) i))), some (.int (nI i)), some (.int (jbo (!((P a).2 i == (v + 1)) && ((P a).2 i &&& (4095 ^^^ (v + 1)) == 0))))]) d_Model_layBasis_89 (by decide) rfl rfl ?_
              refine j_iload d_Model_layBasis_91 rfl ?_
              refine j_iload d_Model_layBasis_93 rfl ?_
              refine j_if_eqB_f (tgt := 108) d_Model_layBasis_95 (by decide) hwi ?_
              refine j_aload_n d_Model_layBasis_98 rfl ?_
              refine j_iload_n d_Model_layBasis_99 rfl ?_
              refine j_iload d_Model_layBasis_100 rfl ?_
              refine j_callVs (As := [.int (nI a), .int (nI i)]) (st := [.int (nI (mad (P a) (v + 1) i))]) (c_row (by omega) (by omega)) d_Model_layBasis_102 (by decide) jm_Model_row jk_Model_71 ji_Model_row js_Model_row rfl (by decide) rfl rfl (Nat.le_of_ble_eq_true rfl) rfl ?_
              refine j_goto (tgt := 109) d_Model_layBasis_105 (by decide) ?_
              refine j_iorN d_Model_layBasis_109 ?_
              refine j_top (w := nI (mad (P a) (v + 1) (i + 1))) (congrArg nI (jor_t (if_pos hwi))) ?_
              refine j_istore (L' := [some (.ref 135), some (.int (nI a)), some (.int (nI ((P a).1))), some (.int (nI (v + 1))), some (.int (jbo (stn (P a) (v + 1) (i + 1)))), some (.int (nI (mad (P a) (v + 1) (i + 1)))), some (.int (nI i)), some (.int (jbo (!((P a).2 i == (v + 1)) && ((P a).2 i &&& (4095 ^^^ (v + 1)) == 0))))]) d_Model_layBasis_110 (by decide) rfl rfl ?_
              refine j_iincN (x := i) (L' := [some (.ref 135), some (.int (nI a)), some (.int (nI ((P a).1))), some (.int (nI (v + 1))), some (.int (jbo (stn (P a) (v + 1) (i + 1)))), some (.int (nI (mad (P a) (v + 1) (i + 1)))), some (.int (nI (i + 1))), some (.int (jbo (!((P a).2 i == (v + 1)) && ((P a).2 i &&& (4095 ^^^ (v + 1)) == 0))))]) d_Model_layBasis_112 rfl (by decide) rfl rfl ?_
              refine j_goto (tgt := 30) d_Model_layBasis_115 (by decide) ?_
              exact j_forget (i := 7) rfl ihi

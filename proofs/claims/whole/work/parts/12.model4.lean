/-- the log's numbers: which slots, how many -/
def jL (h : jH) (ls : Nat → Nat) (lg : Nat) : jH := fun a => if a = 138 then fun k => nI (ls k) else if a = 135 then fun k => if k = 2 then nI lg else h 135 k else h a
theorem jML_n {h : jH} {ls : Nat → Nat} {lg v : Nat} {P : jP} : jup2 (jM (jL h ls lg) P) 135 2 (nI v) = jM (jL h ls v) P := by
  rw [jM_set_other (by decide) (by decide)]
  congr 1
  funext a k
  simp only [jup2, jL]
  by_cases e : a = 135
  · subst e
    by_cases e2 : k = 2 <;> simp [e2]
  · simp [e]
theorem jML_s {h : jH} {ls : Nat → Nat} {lg i v : Nat} {P : jP} : jup2 (jM (jL h ls lg) P) 138 i (nI v) = jM (jL h (fun j => if j = i then v else ls j) lg) P := by
  rw [jM_set_other (by decide) (by decide)]
  congr 1
  funext a k
  simp only [jup2, jL]
  by_cases e : a = 138
  · subst e
    by_cases e2 : k = i <;> simp [e2]
  · simp [e]
theorem jML_cg {h : jH} {ls ls' : Nat → Nat} {lg lg' : Nat} {P P' : jP} (h1 : ∀ j, ls j = ls' j) (h2 : lg = lg') (h3 : ∀ q, P q = P' q) : jM (jL h ls lg) P = jM (jL h ls' lg') P' := by
  rw [show ls = ls' from funext h1, h2, show P = P' from funext h3]
def lgP (P : jP) (lg s : Nat) : jP := if lg = 20 then jset (fun q => if 6 ≤ q ∧ q < 25 then P (q + 1) else P q) 25 (P s) else jset P (6 + lg) (P s)
def lgS (ls : Nat → Nat) (lg s : Nat) : Nat → Nat := if lg = 20 then fun j => if j = 19 then s else if j < 19 then ls (j + 1) else ls j else fun j => if j = lg then s else ls j
def lgN (lg : Nat) : Nat := if lg = 20 then 20 else lg + 1
theorem lgP_ne {P : jP} {lg s q : Nat} (hl : lg ≤ 20) (hq : q < 6 ∨ 25 < q) : lgP P lg s q = P q := by
  unfold lgP
  split
  · rw [jset_ne (by omega)]
    have : ¬ (6 ≤ q ∧ q < 25) := by omega
    simp [this]
  · rw [jset_ne (by omega)]
theorem lgP_w {P : jP} {lg s : Nat} (hw : ∀ q, tw (P q)) : ∀ q, tw (lgP P lg s q) := by
  unfold lgP
  split
  · refine tws (fun q => ?_) (hw s)
    split
    · exact hw _
    · exact hw _
  · exact tws hw (hw s)
theorem c_logs {n : jN} {h : jH} {ls : Nat → Nat} {lg : Nat} {P : jP} {s : Nat} (hl : lg ≤ 20) (hs : s < 6) (hw : ∀ q, tw (P q)) : jC n 1 jy_Model_logs jc_Model_logs 3 none [.ref 135, .int (nI s)] (jM (jL h ls lg) P) none (jM (jL h (lgS ls lg s) (lgN lg)) (lgP P lg s)) := by
  refine jC_of jm_Model_logs (L := [some (.ref 135), some (.int (nI s)), none]) (Nat.le_of_ble_eq_true rfl) rfl trivial ?_
  generalize hres : ((none, jM (jL h (lgS ls lg s) (lgN lg)) (lgP P lg s)) : Option Value × jH) = res
  refine j_aload_n d_Model_logs_0 rfl ?_
  refine j_getv (v := nI lg) d_Model_logs_1 jf_Model_59 rfl rfl rfl ?_
  refine j_bipush (v := nI 20) d_Model_logs_4 (by decide) ?_
  refine j_icmp_neN (tgt := 61) d_Model_logs_6 (by decide) (by omega) (by omega) (fun c => ?_) (fun c => ?_)
  · refine j_aload_n d_Model_logs_61 rfl ?_
    refine j_iload_n d_Model_logs_62 rfl ?_
    refine j_bipush (v := nI 6) d_Model_logs_63 (by decide) ?_
    refine j_aload_n d_Model_logs_65 rfl ?_
    refine j_getv (v := nI lg) d_Model_logs_66 jf_Model_59 rfl rfl rfl ?_
    refine j_iaddN d_Model_logs_69 ?_
    refine j_callVn (As := [.int (nI s), .int (nI (6 + lg))]) (st := []) (c_copyTo (by omega) (by omega) (by omega)) d_Model_logs_70 (by decide) jm_Model_copyTo jk_Model_85 ji_Model_copyTo js_Model_copyTo rfl (by decide) rfl rfl (Nat.le_of_ble_eq_true rfl) rfl ?_
    refine j_aload_n d_Model_logs_73 rfl ?_
    refine j_getr (b := 138) d_Model_logs_74 jf_Model_16 rfl rfl rfl (by decide) ?_
    refine j_aload_n d_Model_logs_77 rfl ?_
    refine j_getv (v := nI lg) d_Model_logs_78 jf_Model_59 rfl rfl rfl ?_
    refine j_iload_n d_Model_logs_81 rfl ?_
    refine j_iastN (h' := jM (jL h (fun zz => if zz = lg then s else ls zz) lg) (jset P (6 + lg) (P s))) d_Model_logs_82 rfl (by omega) (by decide) jML_s ?_
    refine j_aload_n d_Model_logs_83 rfl ?_
    refine j_dup d_Model_logs_84 rfl ?_
    refine j_getv (v := nI lg) d_Model_logs_85 jf_Model_59 rfl rfl rfl ?_
    refine j_iconst (v := nI 1) d_Model_logs_88 rfl ?_
    refine j_iaddN d_Model_logs_89 ?_
    refine j_putv (h' := jM (jL h (fun zz => if zz = lg then s else ls zz) (lg + 1)) (jset P (6 + lg) (P s))) d_Model_logs_90 jf_Model_59 rfl rfl jML_n ?_
    have e1 : jL h (lgS ls lg s) (lgN lg) = jL h (fun j => if j = lg then s else ls j) (lg + 1) := by simp [lgS, lgN, c]
    subst hres
    exact j_retv d_Model_logs_93 (by rw [e1, lgP, if_neg c])
  · subst c
    refine j_iconst (v := nI 1) d_Model_logs_9 rfl ?_
    refine j_istore_n (L' := [some (.ref 135), some (.int (nI s)), some (.int (nI 1))]) d_Model_logs_10 (by decide) rfl rfl ?_
    refine j_heap (h' := jM (jL h (fun j => if j + 1 < (0 + 1) then ls (j + 1) else ls j) 20) (fun q => if 6 ≤ q ∧ q + 1 < 6 + (0 + 1) then P (q + 1) else P q)) (jML_cg (fun j => by (try simp only [jset]); (repeat' split); all_goals first | rfl | omega | (exact congrArg _ (by omega)) | (subst_vars; rfl)) rfl (fun q => by (try simp only [jset]); (repeat' split); all_goals first | rfl | omega | (exact congrArg _ (by omega)) | (subst_vars; rfl))) ?_
    refine j_loop (P := fun k => jJ n 1 jc_Model_logs 3 "YesNoPowersModel" 11 [some (.ref 135), some (.int (nI s)), some (.int (nI (k + 1)))] [] (jM (jL h (fun j => if j + 1 < (k + 1) then ls (j + 1) else ls j) 20) (fun q => if 6 ≤ q ∧ q + 1 < 6 + (k + 1) then P (q + 1) else P q)) res) (m := 19) ?_ (fun k hk ih => ?_)
    · refine j_iload_n d_Model_logs_11 rfl ?_
      refine j_bipush (v := nI 20) d_Model_logs_12 (by decide) ?_
      refine j_icmp_geN_t (tgt := 51) d_Model_logs_14 (by decide) (by omega) (by omega) (by decide) ?_
      refine j_heap (h' := jM (jL h (fun j => if j < 19 then ls (j + 1) else ls j) 20) (fun q => if 6 ≤ q ∧ q < 25 then P (q + 1) else P q)) (jML_cg (fun j => by (try simp only [jset]); (repeat' split); all_goals first | rfl | omega | (exact congrArg _ (by omega)) | (subst_vars; rfl)) rfl (fun q => by (try simp only [jset]); (repeat' split); all_goals first | rfl | omega | (exact congrArg _ (by omega)) | (subst_vars; rfl))) ?_
      refine j_aload_n d_Model_logs_51 rfl ?_
      refine j_dup d_Model_logs_52 rfl ?_
      refine j_getv (v := nI 20) d_Model_logs_53 jf_Model_59 rfl rfl rfl ?_
      refine j_iconst (v := nI 1) d_Model_logs_56 rfl ?_
      refine j_isubN d_Model_logs_57 (by omega) ?_
      refine j_putv (h' := jM (jL h (fun j => if j < 19 then ls (j + 1) else ls j) (20 - 1)) (fun q => if 6 ≤ q ∧ q < 25 then P (q + 1) else P q)) d_Model_logs_58 jf_Model_59 rfl rfl jML_n ?_
      refine j_aload_n d_Model_logs_61 rfl ?_
      refine j_iload_n d_Model_logs_62 rfl ?_
      refine j_bipush (v := nI 6) d_Model_logs_63 (by decide) ?_
      refine j_aload_n d_Model_logs_65 rfl ?_
      refine j_getv (v := nI (20 - 1)) d_Model_logs_66 jf_Model_59 rfl rfl rfl ?_
      refine j_iaddN d_Model_logs_69 ?_
      refine j_callVn (As := [.int (nI s), .int (nI (6 + (20 - 1)))]) (st := []) (c_copyTo (by omega) (by omega) (by omega)) d_Model_logs_70 (by decide) jm_Model_copyTo jk_Model_85 ji_Model_copyTo js_Model_copyTo rfl (by decide) rfl rfl (Nat.le_of_ble_eq_true rfl) rfl ?_
      refine j_aload_n d_Model_logs_73 rfl ?_
      refine j_getr (b := 138) d_Model_logs_74 jf_Model_16 rfl rfl rfl (by decide) ?_
      refine j_aload_n d_Model_logs_77 rfl ?_
      refine j_getv (v := nI (20 - 1)) d_Model_logs_78 jf_Model_59 rfl rfl rfl ?_
      refine j_iload_n d_Model_logs_81 rfl ?_
      refine j_iastN (h' := jM (jL h (fun zz => if zz = 20 - 1 then s else (fun j => if j < 19 then ls (j + 1) else ls j) zz) (20 - 1)) (jset (fun q => if 6 ≤ q ∧ q < 25 then P (q + 1) else P q) (6 + (20 - 1)) ((fun q => if 6 ≤ q ∧ q < 25 then P (q + 1) else P q) s))) d_Model_logs_82 rfl (by omega) (by decide) jML_s ?_
      refine j_aload_n d_Model_logs_83 rfl ?_
      refine j_dup d_Model_logs_84 rfl ?_
      refine j_getv (v := nI (20 - 1)) d_Model_logs_85 jf_Model_59 rfl rfl rfl ?_
      refine j_iconst (v := nI 1) d_Model_logs_88 rfl ?_
      refine j_iaddN d_Model_logs_89 ?_
      refine j_putv (h' := jM (jL h (fun zz => if zz = 20 - 1 then s else (fun j => if j < 19 then ls (j + 1) else ls j) zz) ((20 - 1) + 1)) (jset (fun q => if 6 ≤ q ∧ q < 25 then P (q + 1) else P q) (6 + (20 - 1)) ((fun q => if 6 ≤ q ∧ q < 25 then P (q + 1) else P q) s))) d_Model_logs_90 jf_Model_59 rfl rfl jML_n ?_
      have e2 : (if 6 ≤ s ∧ s < 25 then P (s + 1) else P s) = P s := by rw [if_neg (by omega)]
      have e1 : jL h (lgS ls 20 s) (lgN 20) = jL h (fun j => if j = 19 then s else if j < 19 then ls (j + 1) else ls j) 20 := by simp [lgS, lgN]
      subst hres
      exact j_retv d_Model_logs_93 (by rw [e1, lgP, if_pos rfl]; exact jM_P (fun q => by simp only [jset]; split; exact e2; rfl))
    · refine j_iload_n d_Model_logs_11 rfl ?_
      refine j_bipush (v := nI 20) d_Model_logs_12 (by decide) ?_
      refine j_icmp_geN_f (tgt := 51) d_Model_logs_14 (by decide) (by omega) (by omega) (by omega) ?_
      refine j_aload_n d_Model_logs_17 rfl ?_
      refine j_bipush (v := nI 6) d_Model_logs_18 (by decide) ?_
      refine j_iload_n d_Model_logs_20 rfl ?_
      refine j_iaddN d_Model_logs_21 ?_
      refine j_bipush (v := nI 6) d_Model_logs_22 (by decide) ?_
      refine j_iload_n d_Model_logs_24 rfl ?_
      refine j_iaddN d_Model_logs_25 ?_
      refine j_iconst (v := nI 1) d_Model_logs_26 rfl ?_
      refine j_isubN d_Model_logs_27 (by omega) ?_
      refine j_callVn (As := [.int (nI (6 + (k + 1))), .int (nI ((6 + (k + 1)) - 1))]) (st := []) (c_copyTo (by omega) (by omega) (by omega)) d_Model_logs_28 (by decide) jm_Model_copyTo jk_Model_85 ji_Model_copyTo js_Model_copyTo rfl (by decide) rfl rfl (Nat.le_of_ble_eq_true rfl) rfl ?_
      refine j_aload_n d_Model_logs_31 rfl ?_
      refine j_getr (b := 138) d_Model_logs_32 jf_Model_16 rfl rfl rfl (by decide) ?_
      refine j_iload_n d_Model_logs_35 rfl ?_
      refine j_iconst (v := nI 1) d_Model_logs_36 rfl ?_
      refine j_isubN d_Model_logs_37 (by omega) ?_
      refine j_aload_n d_Model_logs_38 rfl ?_
      refine j_getr (b := 138) d_Model_logs_39 jf_Model_16 rfl rfl rfl (by decide) ?_
      refine j_iload_n d_Model_logs_42 rfl ?_
      refine j_ialdN (v := nI ((fun j => if j + 1 < (k + 1) then ls (j + 1) else ls j) (k + 1))) d_Model_logs_43 rfl (by omega) (by decide) rfl ?_
      refine j_iastN (h' := jM (jL h (fun zz => if zz = (k + 1) - 1 then (fun j => if j + 1 < (k + 1) then ls (j + 1) else ls j) (k + 1) else (fun j => if j + 1 < (k + 1) then ls (j + 1) else ls j) zz) 20) (jset (fun q => if 6 ≤ q ∧ q + 1 < 6 + (k + 1) then P (q + 1) else P q) ((6 + (k + 1)) - 1) ((fun q => if 6 ≤ q ∧ q + 1 < 6 + (k + 1) then P (q + 1) else P q) (6 + (k + 1))))) d_Model_logs_44 rfl (by omega) (by decide) jML_s ?_
      refine j_iincN (x := k + 1) (L' := [some (.ref 135), some (.int (nI s)), some (.int (nI ((k + 1) + 1)))]) d_Model_logs_45 rfl (by decide) rfl rfl ?_
      refine j_goto (tgt := 11) d_Model_logs_48 (by decide) ?_
      refine j_heap (h' := jM (jL h (fun j => if j + 1 < (k + 1 + 1) then ls (j + 1) else ls j) 20) (fun q => if 6 ≤ q ∧ q + 1 < 6 + (k + 1 + 1) then P (q + 1) else P q)) (jML_cg (fun j => by (try simp only [jset]); (repeat' split); all_goals first | rfl | omega | (exact congrArg _ (by omega)) | (subst_vars; rfl)) rfl (fun q => by (try simp only [jset]); (repeat' split); all_goals first | rfl | omega | (exact congrArg _ (by omega)) | (subst_vars; rfl))) ?_
      exact ih
def jcome (P : jP) (lg s : Nat) : jP := jset (lgP P lg s) s (P 35)
theorem jcome_w {P : jP} {lg s : Nat} (hw : ∀ q, tw (P q)) : ∀ q, tw (jcome P lg s q) := tws (lgP_w hw) (hw 35)
theorem c_comes {n : jN} {h : jH} {ls : Nat → Nat} {lg : Nat} {P : jP} {s : Nat} (hl : lg ≤ 20) (hs : s < 6) (hw : ∀ q, tw (P q)) : jC n 2 jy_Model_comes jc_Model_comes 2 (some .int) [.ref 135, .int (nI s)] (jM (jL h ls lg) P) (some (.int (nI ((P 35).1)))) (jM (jL h (lgS ls lg s) (lgN lg)) (jcome P lg s)) := by
  refine jC_of jm_Model_comes (L := [some (.ref 135), some (.int (nI s))]) (Nat.le_of_ble_eq_true rfl) rfl trivial ?_
  generalize hres : (((some (.int (nI ((P 35).1)))), jM (jL h (lgS ls lg s) (lgN lg)) (jcome P lg s)) : Option Value × jH) = res
  refine j_aload_n d_Model_comes_0 rfl ?_
  refine j_iload_n d_Model_comes_1 rfl ?_
  refine j_callVn (As := [.int (nI s)]) (st := []) (c_logs hl (by omega) hw) d_Model_comes_2 (by decide) jm_Model_logs jk_Model_102 ji_Model_logs js_Model_logs rfl (by decide) rfl rfl (Nat.le_of_ble_eq_true rfl) rfl ?_
  refine j_aload_n d_Model_comes_5 rfl ?_
  refine j_bipush (v := nI 35) d_Model_comes_6 (by decide) ?_
  refine j_iload_n d_Model_comes_8 rfl ?_
  refine j_callVn (As := [.int (nI 35), .int (nI s)]) (st := []) (c_copyTo (by omega) (by omega) (by omega)) d_Model_comes_9 (by decide) jm_Model_copyTo jk_Model_85 ji_Model_copyTo js_Model_copyTo rfl (by decide) rfl rfl (Nat.le_of_ble_eq_true rfl) rfl ?_
  refine j_aload_n d_Model_comes_12 rfl ?_
  refine j_getr (b := 137) d_Model_comes_13 jf_Model_13 rfl rfl rfl (by decide) ?_
  refine j_iload_n d_Model_comes_16 rfl ?_
  refine j_ialdN (v := nI (((jset (lgP P lg s) s ((lgP P lg s) 35)) s).1)) d_Model_comes_17 rfl (by omega) (by decide) rfl ?_
  subst hres
  exact j_reti d_Model_comes_18 (by rw [jset_eq, lgP_ne hl (by omega)]) (by rw [lgP_ne hl (by omega)]; rfl)

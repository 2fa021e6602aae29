def jV (h : jH) (v : Nat → Int32) : jH := fun a => if a = 146 then v else h a
theorem jV_v {h : jH} {v : Nat → Int32} {i : Nat} {x : Int32} {P : jP} : jup2 (jM (jV h v) P) 146 i x = jM (jV h (jfu v i x)) P := by
  rw [jM_set_other (by decide) (by decide)]
  congr 1
  funext a z
  simp only [jup2, jV]
  by_cases e : a = 146
  · subst e
    by_cases e2 : z = i <;> simp [e2, jfu]
  · simp [e]
theorem jV_0 {h : jH} {P : jP} : jM h P = jM (jV h (h 146)) P := by
  congr 1
  funext a z
  simp only [jV]
  split
  · subst_vars; rfl
  · rfl
theorem jV_cg {h : jH} {v v' : Nat → Int32} {P : jP} (e : ∀ z, v z = v' z) : jM (jV h v) P = jM (jV h v') P := by rw [show v = v' from funext e]
def lvon (T : jT) (C : Nat → Nat) (e : Nat) : Bool := (T.2 (e / T.1)).testBit (e % T.1) && !(decide (C (e / T.1) = C (e % T.1)))
def lvF (T : jT) (C : Nat → Nat) : Nat → (Nat → Nat) × Bool → (Nat → Nat) × Bool
  | 0, s => s
  | e + 1, s => if lvon T C e && decide ((lvF T C e s).1 (C (e % T.1)) ≤ (lvF T C e s).1 (C (e / T.1))) then (jfu (lvF T C e s).1 (C (e % T.1)) ((lvF T C e s).1 (C (e / T.1)) + 1), true) else lvF T C e s
def lvT (T : jT) (C : Nat → Nat) : Nat → (Nat → Nat) × Bool
  | 0 => (fun _ => 0, true)
  | t + 1 => lvF T C (T.1 * T.1) ((lvT T C t).1, false)
theorem c_levelOf {n : jN} {h : jH} {P : jP} {s : Nat} (hw : ∀ q, tw (P q)) (hs : s < 6) {C Rc : Nat → Nat} {Wk : Nat → Nat → Nat} {M : Nat} (hk : jko h (P s).1 C Rc Wk M) (h0 : 0 < (P s).1) {k t0 : Nat} (hkM : k < M) (hf : (lvT (P s) C t0).2 = false) (hg : ∀ t, t < t0 → (lvT (P s) C t).2 = true) (hlb : ∀ t e x, t < t0 → e < (P s).1 * (P s).1 → (lvF (P s) C e ((lvT (P s) C t).1, false)).1 x ≤ 1000) (hlb2 : ∀ x, (lvT (P s) C t0).1 x ≤ 1000) : jC n 1 jy_Model_levelOf jc_Model_levelOf 8 (some .int) [.ref 135, .int (nI s), .int (nI k)] (jM h P) (some (.int (nI ((lvT (P s) C t0).1 k)))) (jM (jV h (fun z => if z < M then nI ((lvT (P s) C t0).1 z) else h 146 z)) P) := by
  obtain ⟨hC, hCM, hR, hR2, hW, hW2, hM, hM12⟩ := id hk
  have hns := (hw s).1
  refine jC_of jm_Model_levelOf (L := [some (.ref 135), some (.int (nI s)), some (.int (nI k)), none, none, none, none, none]) (Nat.le_of_ble_eq_true rfl) rfl trivial ?_
  generalize hres : (((some (.int (nI ((lvT (P s) C t0).1 k)))), jM (jV h (fun z => if z < M then nI ((lvT (P s) C t0).1 z) else h 146 z)) P) : Option Value × jH) = res
  refine j_heap (h' := jM (jV h (h 146)) P) jV_0 ?_
  refine j_iconst (v := nI 0) d_Model_levelOf_0 rfl ?_
  refine j_istore_n (L' := [some (.ref 135), some (.int (nI s)), some (.int (nI k)), some (.int (nI 0)), none, none, none, none]) d_Model_levelOf_1 (by decide) rfl rfl ?_
  refine j_heap (h' := jM (jV h (fun z => if z < 0 then nI 0 else h 146 z)) P) (jV_cg (fun z => by rw [if_neg (by omega)])) ?_
  refine j_loop (P := fun q => jJ n 1 jc_Model_levelOf 8 "YesNoPowersModel" 2 [some (.ref 135), some (.int (nI s)), some (.int (nI k)), some (.int (nI q)), none, none, none, none] [] (jM (jV h (fun z => if z < q then nI 0 else h 146 z)) P) res) (m := M) ?_ (fun q hq ih => ?_)
  · refine j_iload_n d_Model_levelOf_2 rfl ?_
    refine j_aload_n d_Model_levelOf_3 rfl ?_
    refine j_getv (v := nI M) d_Model_levelOf_4 jf_Model_183 rfl rfl hM ?_
    refine j_icmp_geN_t (tgt := 23) d_Model_levelOf_7 (by decide) (by omega) (by omega) (by omega) ?_
    refine j_iconst (v := nI 1) d_Model_levelOf_23 rfl ?_
    refine j_istore_n (L' := [some (.ref 135), some (.int (nI s)), some (.int (nI k)), some (.int (nI 1)), none, none, none, none]) d_Model_levelOf_24 (by decide) rfl rfl ?_
    refine j_heap (h' := jM (jV h (fun z => if z < M then nI ((lvT (P s) C 0).1 z) else h 146 z)) P) (jV_cg (fun z => rfl)) ?_
    refine j_locs (L' := [some (.ref 135), some (.int (nI s)), some (.int (nI k)), some (.int (jbo ((lvT (P s) C 0).2))), none, none, none, none]) rfl ?_
    refine j_loop (P := fun t => jJ n 1 jc_Model_levelOf 8 "YesNoPowersModel" 25 [some (.ref 135), some (.int (nI s)), some (.int (nI k)), some (.int (jbo ((lvT (P s) C t).2))), none, none, none, none] [] (jM (jV h (fun z => if z < M then nI ((lvT (P s) C t).1 z) else h 146 z)) P) res) (m := t0) ?_ (fun t ht iht => ?_)
    · refine j_iload_n d_Model_levelOf_25 rfl ?_
      refine j_if_eqB_t (tgt := 179) d_Model_levelOf_26 (by decide) hf ?_
      refine j_aload_n d_Model_levelOf_179 rfl ?_
      refine j_getr (b := 146) d_Model_levelOf_180 jf_Model_40 rfl rfl rfl (by decide) ?_
      refine j_iload_n d_Model_levelOf_183 rfl ?_
      refine j_ialdN (v := nI ((lvT (P s) C t0).1 k)) d_Model_levelOf_184 rfl (by omega) (by decide) (by show (if _ then _ else _) = _; rw [if_pos hkM]) ?_
      subst hres
      exact j_reti d_Model_levelOf_185 rfl rfl
    · refine j_iload_n d_Model_levelOf_25 rfl ?_
      refine j_if_eqB_f (tgt := 179) d_Model_levelOf_26 (by decide) (hg t (by omega)) ?_
      refine j_iconst (v := nI 0) d_Model_levelOf_29 rfl ?_
      refine j_istore_n (L' := [some (.ref 135), some (.int (nI s)), some (.int (nI k)), some (.int (nI 0)), none, none, none, none]) d_Model_levelOf_30 (by decide) rfl rfl ?_
      refine j_iconst (v := nI 0) d_Model_levelOf_31 rfl ?_
      refine j_istore (L' := [some (.ref 135), some (.int (nI s)), some (.int (nI k)), some (.int (nI 0)), some (.int (nI 0)), none, none, none]) d_Model_levelOf_32 (by decide) rfl rfl ?_
      refine j_locs (L' := [some (.ref 135), some (.int (nI s)), some (.int (nI k)), some (.int (jbo ((lvF (P s) C 0 ((lvT (P s) C t).1, false)).2))), some (.int (nI 0)), none, none, none]) rfl ?_
      refine j_loop (P := fun e => jJ n 1 jc_Model_levelOf 8 "YesNoPowersModel" 34 [some (.ref 135), some (.int (nI s)), some (.int (nI k)), some (.int (jbo ((lvF (P s) C e ((lvT (P s) C t).1, false)).2))), some (.int (nI e)), none, none, none] [] (jM (jV h (fun z => if z < M then nI ((lvF (P s) C e ((lvT (P s) C t).1, false)).1 z) else h 146 z)) P) res) (m := (P s).1 * (P s).1) ?_ (fun e he ihe => ?_)
      · have hnn : (P s).1 * (P s).1 ≤ 12 * 12 := Nat.mul_le_mul hns hns
        have hn0 : 0 < (P s).1 := h0
        refine j_iload d_Model_levelOf_34 rfl ?_
        refine j_aload_n d_Model_levelOf_36 rfl ?_
        refine j_getr (b := 137) d_Model_levelOf_37 jf_Model_13 rfl rfl rfl (by decide) ?_
        refine j_iload_n d_Model_levelOf_40 rfl ?_
        refine j_ialdN (v := nI ((P s).1)) d_Model_levelOf_41 rfl (by omega) (by decide) rfl ?_
        refine j_aload_n d_Model_levelOf_42 rfl ?_
        refine j_getr (b := 137) d_Model_levelOf_43 jf_Model_13 rfl rfl rfl (by decide) ?_
        refine j_iload_n d_Model_levelOf_46 rfl ?_
        refine j_ialdN (v := nI ((P s).1)) d_Model_levelOf_47 rfl (by omega) (by decide) rfl ?_
        refine j_imulN d_Model_levelOf_48 ?_
        refine j_icmp_geN_t (tgt := 176) d_Model_levelOf_49 (by decide) (by omega) (by omega) (by omega) ?_
        refine j_goto (tgt := 25) d_Model_levelOf_176 (by decide) ?_
        exact j_forget (i := 4) rfl iht
      · have hnn : (P s).1 * (P s).1 ≤ 12 * 12 := Nat.mul_le_mul hns hns
        have hn0 : 0 < (P s).1 := h0
        have hei : e / (P s).1 < (P s).1 := Nat.div_lt_of_lt_mul he
        have hej : e % (P s).1 < (P s).1 := Nat.mod_lt _ hn0
        have hci := hCM _ hei
        have hcj := hCM _ hej
        have hl1 := hlb t e (C (e / (P s).1)) (by omega) (by omega)
        have hl2 := hlb t e (C (e % (P s).1)) (by omega) (by omega)
        refine j_iload d_Model_levelOf_34 rfl ?_
        refine j_aload_n d_Model_levelOf_36 rfl ?_
        refine j_getr (b := 137) d_Model_levelOf_37 jf_Model_13 rfl rfl rfl (by decide) ?_
        refine j_iload_n d_Model_levelOf_40 rfl ?_
        refine j_ialdN (v := nI ((P s).1)) d_Model_levelOf_41 rfl (by omega) (by decide) rfl ?_
        refine j_aload_n d_Model_levelOf_42 rfl ?_
        refine j_getr (b := 137) d_Model_levelOf_43 jf_Model_13 rfl rfl rfl (by decide) ?_
        refine j_iload_n d_Model_levelOf_46 rfl ?_
        refine j_ialdN (v := nI ((P s).1)) d_Model_levelOf_47 rfl (by omega) (by decide) rfl ?_
        refine j_imulN d_Model_levelOf_48 ?_
        refine j_icmp_geN_f (tgt := 176) d_Model_levelOf_49 (by decide) (by omega) (by omega) (by omega) ?_
        refine j_iload d_Model_levelOf_52 rfl ?_
        refine j_aload_n d_Model_levelOf_54 rfl ?_
        refine j_getr (b := 137) d_Model_levelOf_55 jf_Model_13 rfl rfl rfl (by decide) ?_
        refine j_iload_n d_Model_levelOf_58 rfl ?_
        refine j_ialdN (v := nI ((P s).1)) d_Model_levelOf_59 rfl (by omega) (by decide) rfl ?_
        refine j_idivN d_Model_levelOf_60 (by omega) (by omega) (by omega) ?_
        refine j_istore (L' := [some (.ref 135), some (.int (nI s)), some (.int (nI k)), some (.int (jbo ((lvF (P s) C e ((lvT (P s) C t).1, false)).2))), some (.int (nI e)), some (.int (nI (e / ((P s).1)))), none, none]) d_Model_levelOf_61 (by decide) rfl rfl ?_
        refine j_iload d_Model_levelOf_63 rfl ?_
        refine j_aload_n d_Model_levelOf_65 rfl ?_
        refine j_getr (b := 137) d_Model_levelOf_66 jf_Model_13 rfl rfl rfl (by decide) ?_
        refine j_iload_n d_Model_levelOf_69 rfl ?_
        refine j_ialdN (v := nI ((P s).1)) d_Model_levelOf_70 rfl (by omega) (by decide) rfl ?_
        refine j_iremN d_Model_levelOf_71 (by omega) (by omega) (by omega) ?_
        refine j_istore (L' := [some (.ref 135), some (.int (nI s)), some (.int (nI k)), some (.int (jbo ((lvF (P s) C e ((lvT (P s) C t).1, false)).2))), some (.int (nI e)), some (.int (nI (e / ((P s).1)))), some (.int (nI (e % ((P s).1)))), none]) d_Model_levelOf_72 (by decide) rfl rfl ?_
        refine j_aload_n d_Model_levelOf_74 rfl ?_
        refine j_iload_n d_Model_levelOf_75 rfl ?_
        refine j_iload d_Model_levelOf_76 rfl ?_
        refine j_iload d_Model_levelOf_78 rfl ?_
        refine j_callVs (As := [.int (nI s), .int (nI (e / ((P s).1))), .int (nI (e % ((P s).1)))]) (st := []) (c_leads (by omega) (by omega) (by omega) (tw_lt (hw s) _)) d_Model_levelOf_80 (by decide) jm_Model_leads jk_Model_67 ji_Model_leads js_Model_leads rfl (by decide) rfl rfl (Nat.le_of_ble_eq_true rfl) rfl ?_
        refine j_if_eqB (tgt := 107) d_Model_levelOf_83 (by decide) (fun c1 => ?_) (fun c1 => ?_)
        · refine j_iconst (v := nI 0) d_Model_levelOf_107 rfl ?_
          refine j_top (w := jbo (lvon (P s) C e)) (by rw [show lvon (P s) C e = false from by simp [lvon, c1]]; rfl) ?_
          have hon : lvon (P s) C e = false := by simp [lvon, c1]
          refine j_istore (L' := [some (.ref 135), some (.int (nI s)), some (.int (nI k)), some (.int (jbo ((lvF (P s) C e ((lvT (P s) C t).1, false)).2))), some (.int (nI e)), some (.int (nI (e / ((P s).1)))), some (.int (nI (e % ((P s).1)))), some (.int (jbo (lvon (P s) C e)))]) d_Model_levelOf_108 (by decide) rfl rfl ?_
          refine j_iload d_Model_levelOf_110 rfl ?_
          refine j_if_eqB_t (tgt := 170) d_Model_levelOf_112 (by decide) hon ?_
          have hs : lvF (P s) C (e + 1) ((lvT (P s) C t).1, false) = (lvF (P s) C e ((lvT (P s) C t).1, false)) := by rw [lvF, if_neg (by simp [lvon, c1])]
          refine j_iincN (x := e) (L' := [some (.ref 135), some (.int (nI s)), some (.int (nI k)), some (.int (jbo ((lvF (P s) C e ((lvT (P s) C t).1, false)).2))), some (.int (nI (e + 1))), some (.int (nI (e / ((P s).1)))), some (.int (nI (e % ((P s).1)))), some (.int (jbo (lvon (P s) C e)))]) d_Model_levelOf_170 rfl (by decide) rfl rfl ?_
          refine j_goto (tgt := 34) d_Model_levelOf_173 (by decide) ?_
          skip
          rw [hs] at ihe
          exact j_forget (i := 5) rfl (j_forget (i := 6) rfl (j_forget (i := 7) rfl ihe))
        · refine j_aload_n d_Model_levelOf_86 rfl ?_
          refine j_getr (b := 143) d_Model_levelOf_87 jf_Model_31 rfl rfl rfl (by decide) ?_
          refine j_iload d_Model_levelOf_90 rfl ?_
          refine j_ialdN (v := nI (C (e / ((P s).1)))) d_Model_levelOf_92 rfl (by omega) (by decide) (hC _ (by omega)) ?_
          refine j_aload_n d_Model_levelOf_93 rfl ?_
          refine j_getr (b := 143) d_Model_levelOf_94 jf_Model_31 rfl rfl rfl (by decide) ?_
          refine j_iload d_Model_levelOf_97 rfl ?_
          refine j_ialdN (v := nI (C (e % ((P s).1)))) d_Model_levelOf_99 rfl (by omega) (by decide) (hC _ (by omega)) ?_
          refine j_icmp_eqN (tgt := 107) d_Model_levelOf_100 (by decide) (by omega) (by omega) (fun c2 => ?_) (fun c2 => ?_)
          · refine j_iconst (v := nI 0) d_Model_levelOf_107 rfl ?_
            refine j_top (w := jbo (lvon (P s) C e)) (by rw [show lvon (P s) C e = false from by simp [lvon, c1, c2]]; rfl) ?_
            have hon : lvon (P s) C e = false := by simp [lvon, c1, c2]
            refine j_istore (L' := [some (.ref 135), some (.int (nI s)), some (.int (nI k)), some (.int (jbo ((lvF (P s) C e ((lvT (P s) C t).1, false)).2))), some (.int (nI e)), some (.int (nI (e / ((P s).1)))), some (.int (nI (e % ((P s).1)))), some (.int (jbo (lvon (P s) C e)))]) d_Model_levelOf_108 (by decide) rfl rfl ?_
            refine j_iload d_Model_levelOf_110 rfl ?_
            refine j_if_eqB_t (tgt := 170) d_Model_levelOf_112 (by decide) hon ?_
            have hs : lvF (P s) C (e + 1) ((lvT (P s) C t).1, false) = (lvF (P s) C e ((lvT (P s) C t).1, false)) := by rw [lvF, if_neg (by simp [lvon, c1, c2])]
            refine j_iincN (x := e) (L' := [some (.ref 135), some (.int (nI s)), some (.int (nI k)), some (.int (jbo ((lvF (P s) C e ((lvT (P s) C t).1, false)).2))), some (.int (nI (e + 1))), some (.int (nI (e / ((P s).1)))), some (.int (nI (e % ((P s).1)))), some (.int (jbo (lvon (P s) C e)))]) d_Model_levelOf_170 rfl (by decide) rfl rfl ?_
            refine j_goto (tgt := 34) d_Model_levelOf_173 (by decide) ?_
            skip
            rw [hs] at ihe
            exact j_forget (i := 5) rfl (j_forget (i := 6) rfl (j_forget (i := 7) rfl ihe))
          · refine j_iconst (v := nI 1) d_Model_levelOf_103 rfl ?_
            refine j_goto (tgt := 108) d_Model_levelOf_104 (by decide) ?_
            refine j_top (w := jbo (lvon (P s) C e)) (by rw [show lvon (P s) C e = true from by simp [lvon, c1, c2]]; rfl) ?_
            have hon : lvon (P s) C e = true := by simp [lvon, c1, c2]
            refine j_istore (L' := [some (.ref 135), some (.int (nI s)), some (.int (nI k)), some (.int (jbo ((lvF (P s) C e ((lvT (P s) C t).1, false)).2))), some (.int (nI e)), some (.int (nI (e / ((P s).1)))), some (.int (nI (e % ((P s).1)))), some (.int (jbo (lvon (P s) C e)))]) d_Model_levelOf_108 (by decide) rfl rfl ?_
            refine j_iload d_Model_levelOf_110 rfl ?_
            refine j_if_eqB_f (tgt := 170) d_Model_levelOf_112 (by decide) hon ?_
            refine j_aload_n d_Model_levelOf_115 rfl ?_
            refine j_getr (b := 146) d_Model_levelOf_116 jf_Model_40 rfl rfl rfl (by decide) ?_
            refine j_aload_n d_Model_levelOf_119 rfl ?_
            refine j_getr (b := 143) d_Model_levelOf_120 jf_Model_31 rfl rfl rfl (by decide) ?_
            refine j_iload d_Model_levelOf_123 rfl ?_
            refine j_ialdN (v := nI (C (e % ((P s).1)))) d_Model_levelOf_125 rfl (by omega) (by decide) (hC _ (by omega)) ?_
            refine j_ialdN (v := nI ((lvF (P s) C e ((lvT (P s) C t).1, false)).1 (C (e % ((P s).1))))) d_Model_levelOf_126 rfl (by omega) (by decide) (by show (if _ then _ else _) = _; rw [if_pos (by omega)]) ?_
            refine j_aload_n d_Model_levelOf_127 rfl ?_
            refine j_getr (b := 146) d_Model_levelOf_128 jf_Model_40 rfl rfl rfl (by decide) ?_
            refine j_aload_n d_Model_levelOf_131 rfl ?_
            refine j_getr (b := 143) d_Model_levelOf_132 jf_Model_31 rfl rfl rfl (by decide) ?_
            refine j_iload d_Model_levelOf_135 rfl ?_
            refine j_ialdN (v := nI (C (e / ((P s).1)))) d_Model_levelOf_137 rfl (by omega) (by decide) (hC _ (by omega)) ?_
            refine j_ialdN (v := nI ((lvF (P s) C e ((lvT (P s) C t).1, false)).1 (C (e / ((P s).1))))) d_Model_levelOf_138 rfl (by omega) (by decide) (by show (if _ then _ else _) = _; rw [if_pos (by omega)]) ?_
            refine j_icmp_gtN (tgt := 170) d_Model_levelOf_139 (by decide) (by omega) (by omega) (fun c3 => ?_) (fun c3 => ?_)
            · have hs : lvF (P s) C (e + 1) ((lvT (P s) C t).1, false) = (lvF (P s) C e ((lvT (P s) C t).1, false)) := by rw [lvF, if_neg (by simp; omega)]
              refine j_iincN (x := e) (L' := [some (.ref 135), some (.int (nI s)), some (.int (nI k)), some (.int (jbo ((lvF (P s) C e ((lvT (P s) C t).1, false)).2))), some (.int (nI (e + 1))), some (.int (nI (e / ((P s).1)))), some (.int (nI (e % ((P s).1)))), some (.int (jbo (lvon (P s) C e)))]) d_Model_levelOf_170 rfl (by decide) rfl rfl ?_
              refine j_goto (tgt := 34) d_Model_levelOf_173 (by decide) ?_
              rw [hs] at ihe
              exact j_forget (i := 5) rfl (j_forget (i := 6) rfl (j_forget (i := 7) rfl ihe))
            · have hs : lvF (P s) C (e + 1) ((lvT (P s) C t).1, false) = (jfu (lvF (P s) C e ((lvT (P s) C t).1, false)).1 (C (e % (P s).1)) ((lvF (P s) C e ((lvT (P s) C t).1, false)).1 (C (e / (P s).1)) + 1), true) := by rw [lvF, if_pos (by simp [hon]; omega)]
              refine j_aload_n d_Model_levelOf_142 rfl ?_
              refine j_getr (b := 146) d_Model_levelOf_143 jf_Model_40 rfl rfl rfl (by decide) ?_
              refine j_aload_n d_Model_levelOf_146 rfl ?_
              refine j_getr (b := 143) d_Model_levelOf_147 jf_Model_31 rfl rfl rfl (by decide) ?_
              refine j_iload d_Model_levelOf_150 rfl ?_
              refine j_ialdN (v := nI (C (e % ((P s).1)))) d_Model_levelOf_152 rfl (by omega) (by decide) (hC _ (by omega)) ?_
              refine j_aload_n d_Model_levelOf_153 rfl ?_
              refine j_getr (b := 146) d_Model_levelOf_154 jf_Model_40 rfl rfl rfl (by decide) ?_
              refine j_aload_n d_Model_levelOf_157 rfl ?_
              refine j_getr (b := 143) d_Model_levelOf_158 jf_Model_31 rfl rfl rfl (by decide) ?_
              refine j_iload d_Model_levelOf_161 rfl ?_
              refine j_ialdN (v := nI (C (e / ((P s).1)))) d_Model_levelOf_163 rfl (by omega) (by decide) (hC _ (by omega)) ?_
              refine j_ialdN (v := nI ((lvF (P s) C e ((lvT (P s) C t).1, false)).1 (C (e / ((P s).1))))) d_Model_levelOf_164 rfl (by omega) (by decide) (by show (if _ then _ else _) = _; rw [if_pos (by omega)]) ?_
              refine j_iconst (v := nI 1) d_Model_levelOf_165 rfl ?_
              refine j_iaddN d_Model_levelOf_166 ?_
              refine j_iastN (h' := jM (jV h (jfu (fun z => if z < M then nI ((lvF (P s) C e ((lvT (P s) C t).1, false)).1 z) else h 146 z) (C (e % ((P s).1))) (nI (((lvF (P s) C e ((lvT (P s) C t).1, false)).1 (C (e / ((P s).1)))) + 1)))) P) d_Model_levelOf_167 rfl (by omega) (by decide) jV_v ?_
              refine j_iconst (v := nI 1) d_Model_levelOf_168 rfl ?_
              refine j_istore_n (L' := [some (.ref 135), some (.int (nI s)), some (.int (nI k)), some (.int (nI 1)), some (.int (nI e)), some (.int (nI (e / ((P s).1)))), some (.int (nI (e % ((P s).1)))), some (.int (jbo (lvon (P s) C e)))]) d_Model_levelOf_169 (by decide) rfl rfl ?_
              refine j_iincN (x := e) (L' := [some (.ref 135), some (.int (nI s)), some (.int (nI k)), some (.int (nI 1)), some (.int (nI (e + 1))), some (.int (nI (e / ((P s).1)))), some (.int (nI (e % ((P s).1)))), some (.int (jbo (lvon (P s) C e)))]) d_Model_levelOf_170 rfl (by decide) rfl rfl ?_
              refine j_goto (tgt := 34) d_Model_levelOf_173 (by decide) ?_
              rw [hs] at ihe
              refine j_heap (h' := jM (jV h (fun z => if z < M then nI ((jfu (lvF (P s) C e ((lvT (P s) C t).1, false)).1 (C (e % (P s).1)) ((lvF (P s) C e ((lvT (P s) C t).1, false)).1 (C (e / (P s).1)) + 1)) z) else h 146 z)) P) (jV_cg (fun z => by simp only [jfu]; (repeat' split); all_goals first | rfl | omega)) ?_
              exact j_forget (i := 5) rfl (j_forget (i := 6) rfl (j_forget (i := 7) rfl ihe))
  · refine j_iload_n d_Model_levelOf_2 rfl ?_
    refine j_aload_n d_Model_levelOf_3 rfl ?_
    refine j_getv (v := nI M) d_Model_levelOf_4 jf_Model_183 rfl rfl hM ?_
    refine j_icmp_geN_f (tgt := 23) d_Model_levelOf_7 (by decide) (by omega) (by omega) (by omega) ?_
    refine j_aload_n d_Model_levelOf_10 rfl ?_
    refine j_getr (b := 146) d_Model_levelOf_11 jf_Model_40 rfl rfl rfl (by decide) ?_
    refine j_iload_n d_Model_levelOf_14 rfl ?_
    refine j_iconst (v := nI 0) d_Model_levelOf_15 rfl ?_
    refine j_iastN (h' := jM (jV h (jfu (fun z => if z < q then nI 0 else h 146 z) q (nI 0))) P) d_Model_levelOf_16 rfl (by omega) (by decide) jV_v ?_
    refine j_iincN (x := q) (L' := [some (.ref 135), some (.int (nI s)), some (.int (nI k)), some (.int (nI (q + 1))), none, none, none, none]) d_Model_levelOf_17 rfl (by decide) rfl rfl ?_
    refine j_goto (tgt := 2) d_Model_levelOf_20 (by decide) ?_
    refine j_heap (h' := jM (jV h (fun z => if z < (q + 1) then nI 0 else h 146 z)) P) (jV_cg (fun z => by simp only [jfu]; (repeat' split); all_goals first | rfl | omega)) ?_
    exact ih

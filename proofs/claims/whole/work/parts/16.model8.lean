theorem ni_le_sub {m z i : Nat} (hz : z ≤ 40) (hm : m < 2 ^ 31) (hi : i < 2 ^ 31) : nI m ≤ nI z - nI i ↔ i + m ≤ z := by
  rw [Int32.le_iff_toInt_le, Int32.toInt_sub, nI_toInt hm, nI_toInt (by omega), nI_toInt hi, Int.bmod_eq_of_le (by omega) (by omega)]
  omega
def jokSh (So : Nat → Int32) (Sz : Nat → Nat) (a i b j m : Int32) : Bool := js4 a && js4 b && decide (0 ≤ So a.toNatClampNeg) && decide (0 ≤ So b.toNatClampNeg) && decide (So a.toNatClampNeg = So b.toNatClampNeg) && decide (0 ≤ m) && decide (0 ≤ i) && decide (0 ≤ j) && decide (m ≤ nI (Sz a.toNatClampNeg) - i) && decide (m ≤ nI (Sz b.toNatClampNeg) - j)
def jbSh (So : Nat → Int32) (a b : Int32) : Int32 := if js4 a && js4 b then (if decide (0 ≤ So a.toNatClampNeg) && decide (0 ≤ So b.toNatClampNeg) then (if So a.toNatClampNeg = So b.toNatClampNeg then -12 else -13) else -11) else -1
theorem c_shift_bad {n : jN} {h : jH} {So : Nat → Int32} {Sz : Nat → Nat} {Nu : Nat → Nat → Int32} {P : jP} {a i b j m : Int32} (hb : jokSh So Sz a i b j m = false) : jC n 1 jy_Model_shift jc_Model_shift 9 (some .int) [.ref 135, .int a, .int i, .int b, .int j, .int m] (jM (jS h So Sz Nu) P) (some (.int (jbSh So a b))) (jM (jS h So Sz Nu) P) := by
  refine jC_of jm_Model_shift (L := [some (.ref 135), some (.int a), some (.int i), some (.int b), some (.int j), some (.int m), none, none, none]) (Nat.le_of_ble_eq_true rfl) rfl trivial ?_
  generalize hres : (((some (.int (jbSh So a b))), jM (jS h So Sz Nu) P) : Option Value × jH) = res
  refine j_iload_n d_Model_shift_0 rfl ?_
  refine j_callSs (As := [.int a]) (st := []) c_isSheet d_Model_shift_1 (by decide) jm_Model_isSheet jk_Model_141 js_Model_isSheet rfl (Nat.le_of_ble_eq_true rfl) rfl ?_
  refine j_if_eqB (tgt := 14) d_Model_shift_4 (by decide) (fun c1 => ?_) (fun c1 => ?_)
  · refine j_iconst (v := -1) d_Model_shift_14 rfl ?_
    subst hres
    exact j_reti d_Model_shift_15 (by simp [jbSh, c1]) rfl
  · obtain ⟨a0, ha0, rfl⟩ := js4_t c1
    refine j_iload_n d_Model_shift_7 rfl ?_
    refine j_callSs (As := [.int b]) (st := []) c_isSheet d_Model_shift_8 (by decide) jm_Model_isSheet jk_Model_141 js_Model_isSheet rfl (Nat.le_of_ble_eq_true rfl) rfl ?_
    refine j_if_neB (tgt := 16) d_Model_shift_11 (by decide) (fun c2 => ?_) (fun c2 => ?_)
    · obtain ⟨b0, hb0, rfl⟩ := js4_t c2
      refine j_aload_n d_Model_shift_16 rfl ?_
      refine j_getr (b := 149) d_Model_shift_17 jf_Model_50 rfl rfl rfl (by decide) ?_
      refine j_iload_n d_Model_shift_20 rfl ?_
      refine j_ialdN (v := So a0) d_Model_shift_21 rfl (by omega) (by decide) rfl ?_
      refine j_if_lt (tgt := 34) d_Model_shift_22 (by decide) (fun c3 => ?_) (fun c3 => ?_)
      · refine j_bipush (v := -11) d_Model_shift_34 (by decide) ?_
        subst hres
        exact j_reti d_Model_shift_36 (by simp [jbSh, c1, c2, nI_clamp (show a0 < 2 ^ 31 by omega), nI_clamp (show b0 < 2 ^ 31 by omega), Int32.not_le.mpr c3]) rfl
      · refine j_aload_n d_Model_shift_25 rfl ?_
        refine j_getr (b := 149) d_Model_shift_26 jf_Model_50 rfl rfl rfl (by decide) ?_
        refine j_iload_n d_Model_shift_29 rfl ?_
        refine j_ialdN (v := So b0) d_Model_shift_30 rfl (by omega) (by decide) rfl ?_
        refine j_if_ge (tgt := 37) d_Model_shift_31 (by decide) (fun c4 => ?_) (fun c4 => ?_)
        · refine j_aload_n d_Model_shift_37 rfl ?_
          refine j_getr (b := 149) d_Model_shift_38 jf_Model_50 rfl rfl rfl (by decide) ?_
          refine j_iload_n d_Model_shift_41 rfl ?_
          refine j_ialdN (v := So a0) d_Model_shift_42 rfl (by omega) (by decide) rfl ?_
          refine j_aload_n d_Model_shift_43 rfl ?_
          refine j_getr (b := 149) d_Model_shift_44 jf_Model_50 rfl rfl rfl (by decide) ?_
          refine j_iload_n d_Model_shift_47 rfl ?_
          refine j_ialdN (v := So b0) d_Model_shift_48 rfl (by omega) (by decide) rfl ?_
          refine j_icmp_eq (tgt := 55) d_Model_shift_49 (by decide) (fun c5 => ?_) (fun c5 => ?_)
          · refine j_iload d_Model_shift_55 rfl ?_
            refine j_if_lt (tgt := 96) d_Model_shift_57 (by decide) (fun d0 => ?_) (fun d0 => ?_)
            · refine j_bipush (v := -12) d_Model_shift_96 (by decide) ?_
              subst hres
              exact j_reti d_Model_shift_98 (by simp [jbSh, c1, c2, nI_clamp (show a0 < 2 ^ 31 by omega), nI_clamp (show b0 < 2 ^ 31 by omega), Int32.not_lt.mp c3, c4, c5]) rfl
            · refine j_iload_n d_Model_shift_60 rfl ?_
              refine j_if_lt (tgt := 96) d_Model_shift_61 (by decide) (fun d1 => ?_) (fun d1 => ?_)
              · refine j_bipush (v := -12) d_Model_shift_96 (by decide) ?_
                subst hres
                exact j_reti d_Model_shift_98 (by simp [jbSh, c1, c2, nI_clamp (show a0 < 2 ^ 31 by omega), nI_clamp (show b0 < 2 ^ 31 by omega), Int32.not_lt.mp c3, c4, c5]) rfl
              · refine j_iload d_Model_shift_64 rfl ?_
                refine j_if_lt (tgt := 96) d_Model_shift_66 (by decide) (fun d2 => ?_) (fun d2 => ?_)
                · refine j_bipush (v := -12) d_Model_shift_96 (by decide) ?_
                  subst hres
                  exact j_reti d_Model_shift_98 (by simp [jbSh, c1, c2, nI_clamp (show a0 < 2 ^ 31 by omega), nI_clamp (show b0 < 2 ^ 31 by omega), Int32.not_lt.mp c3, c4, c5]) rfl
                · refine j_iload d_Model_shift_69 rfl ?_
                  refine j_aload_n d_Model_shift_71 rfl ?_
                  refine j_getr (b := 150) d_Model_shift_72 jf_Model_53 rfl rfl rfl (by decide) ?_
                  refine j_iload_n d_Model_shift_75 rfl ?_
                  refine j_ialdN (v := nI (Sz a0)) d_Model_shift_76 rfl (by omega) (by decide) rfl ?_
                  refine j_iload_n d_Model_shift_77 rfl ?_
                  refine j_isub d_Model_shift_78 ?_
                  refine j_icmp_gt (tgt := 96) d_Model_shift_79 (by decide) (fun d3 => ?_) (fun d3 => ?_)
                  · refine j_bipush (v := -12) d_Model_shift_96 (by decide) ?_
                    subst hres
                    exact j_reti d_Model_shift_98 (by simp [jbSh, c1, c2, nI_clamp (show a0 < 2 ^ 31 by omega), nI_clamp (show b0 < 2 ^ 31 by omega), Int32.not_lt.mp c3, c4, c5]) rfl
                  · refine j_iload d_Model_shift_82 rfl ?_
                    refine j_aload_n d_Model_shift_84 rfl ?_
                    refine j_getr (b := 150) d_Model_shift_85 jf_Model_53 rfl rfl rfl (by decide) ?_
                    refine j_iload_n d_Model_shift_88 rfl ?_
                    refine j_ialdN (v := nI (Sz b0)) d_Model_shift_89 rfl (by omega) (by decide) rfl ?_
                    refine j_iload d_Model_shift_90 rfl ?_
                    refine j_isub d_Model_shift_92 ?_
                    refine j_icmp_le (tgt := 99) d_Model_shift_93 (by decide) (fun d4 => ?_) (fun d4 => ?_)
                    · exact absurd hb (by simp [jokSh, c1, c2, nI_clamp (show a0 < 2 ^ 31 by omega), nI_clamp (show b0 < 2 ^ 31 by omega), Int32.not_lt.mp c3, c4, c5, Int32.not_lt.mp d0, Int32.not_lt.mp d1, Int32.not_lt.mp d2, Int32.not_lt.mp d3, d4])
                    · refine j_bipush (v := -12) d_Model_shift_96 (by decide) ?_
                      subst hres
                      exact j_reti d_Model_shift_98 (by simp [jbSh, c1, c2, nI_clamp (show a0 < 2 ^ 31 by omega), nI_clamp (show b0 < 2 ^ 31 by omega), Int32.not_lt.mp c3, c4, c5]) rfl
          · refine j_bipush (v := -13) d_Model_shift_52 (by decide) ?_
            subst hres
            exact j_reti d_Model_shift_54 (by simp [jbSh, c1, c2, nI_clamp (show a0 < 2 ^ 31 by omega), nI_clamp (show b0 < 2 ^ 31 by omega), Int32.not_lt.mp c3, c4, c5]) rfl
        · refine j_bipush (v := -11) d_Model_shift_34 (by decide) ?_
          subst hres
          exact j_reti d_Model_shift_36 (by simp [jbSh, c1, c2, nI_clamp (show a0 < 2 ^ 31 by omega), nI_clamp (show b0 < 2 ^ 31 by omega), Int32.not_lt.mp c3, c4]) rfl
    · refine j_iconst (v := -1) d_Model_shift_14 rfl ?_
      subst hres
      exact j_reti d_Model_shift_15 (by simp [jbSh, c1, c2]) rfl
theorem c_shift {n : jN} {h : jH} {So : Nat → Int32} {Sz : Nat → Nat} {Nu : Nat → Nat → Int32} {P : jP} {a i b j m : Nat} (hz : ∀ k, Sz k ≤ 40) (ha : a < 4) (hb : b < 4) (hsa : 0 ≤ So a) (hsb : 0 ≤ So b) (hab : So a = So b) (him : i + m ≤ Sz a) (hjm : j + m ≤ Sz b) : jC n 1 jy_Model_shift jc_Model_shift 9 (some .int) [.ref 135, .int (nI a), .int (nI i), .int (nI b), .int (nI j), .int (nI m)] (jM (jS h So Sz Nu) P) (some (.int (nI m))) (jM (jS h So Sz (fun c x => if c = b then (if j ≤ x ∧ x < j + m then Nu a (i + (x - j)) else Nu c x) else Nu c x)) P) := by
  refine jC_of jm_Model_shift (L := [some (.ref 135), some (.int (nI a)), some (.int (nI i)), some (.int (nI b)), some (.int (nI j)), some (.int (nI m)), none, none, none]) (Nat.le_of_ble_eq_true rfl) rfl trivial ?_
  generalize hres : (((some (.int (nI m))), jM (jS h So Sz (fun c x => if c = b then (if j ≤ x ∧ x < j + m then Nu a (i + (x - j)) else Nu c x) else Nu c x)) P) : Option Value × jH) = res
  have hza := hz a
  have hzb := hz b
  refine j_iload_n d_Model_shift_0 rfl ?_
  refine j_callSs (As := [.int (nI a)]) (st := []) c_isSheet d_Model_shift_1 (by decide) jm_Model_isSheet jk_Model_141 js_Model_isSheet rfl (Nat.le_of_ble_eq_true rfl) rfl ?_
  refine j_if_eqB_f (tgt := 14) d_Model_shift_4 (by decide) (js4_N ha) ?_
  refine j_iload_n d_Model_shift_7 rfl ?_
  refine j_callSs (As := [.int (nI b)]) (st := []) c_isSheet d_Model_shift_8 (by decide) jm_Model_isSheet jk_Model_141 js_Model_isSheet rfl (Nat.le_of_ble_eq_true rfl) rfl ?_
  refine j_if_neB_t (tgt := 16) d_Model_shift_11 (by decide) (js4_N hb) ?_
  refine j_aload_n d_Model_shift_16 rfl ?_
  refine j_getr (b := 149) d_Model_shift_17 jf_Model_50 rfl rfl rfl (by decide) ?_
  refine j_iload_n d_Model_shift_20 rfl ?_
  refine j_ialdN (v := So a) d_Model_shift_21 rfl (by omega) (by decide) rfl ?_
  refine j_if_lt_f (tgt := 34) d_Model_shift_22 (by decide) (Int32.not_lt.mpr hsa) ?_
  refine j_aload_n d_Model_shift_25 rfl ?_
  refine j_getr (b := 149) d_Model_shift_26 jf_Model_50 rfl rfl rfl (by decide) ?_
  refine j_iload_n d_Model_shift_29 rfl ?_
  refine j_ialdN (v := So b) d_Model_shift_30 rfl (by omega) (by decide) rfl ?_
  refine j_if_ge_t (tgt := 37) d_Model_shift_31 (by decide) hsb ?_
  refine j_aload_n d_Model_shift_37 rfl ?_
  refine j_getr (b := 149) d_Model_shift_38 jf_Model_50 rfl rfl rfl (by decide) ?_
  refine j_iload_n d_Model_shift_41 rfl ?_
  refine j_ialdN (v := So a) d_Model_shift_42 rfl (by omega) (by decide) rfl ?_
  refine j_aload_n d_Model_shift_43 rfl ?_
  refine j_getr (b := 149) d_Model_shift_44 jf_Model_50 rfl rfl rfl (by decide) ?_
  refine j_iload_n d_Model_shift_47 rfl ?_
  refine j_ialdN (v := So b) d_Model_shift_48 rfl (by omega) (by decide) rfl ?_
  refine j_icmp_eq_t (tgt := 55) d_Model_shift_49 (by decide) hab ?_
  refine j_iload d_Model_shift_55 rfl ?_
  refine j_if_ltN (tgt := 96) d_Model_shift_57 (by decide) (by omega) (fun q => q.elim) (fun _ => ?_)
  refine j_iload_n d_Model_shift_60 rfl ?_
  refine j_if_ltN (tgt := 96) d_Model_shift_61 (by decide) (by omega) (fun q => q.elim) (fun _ => ?_)
  refine j_iload d_Model_shift_64 rfl ?_
  refine j_if_ltN (tgt := 96) d_Model_shift_66 (by decide) (by omega) (fun q => q.elim) (fun _ => ?_)
  refine j_iload d_Model_shift_69 rfl ?_
  refine j_aload_n d_Model_shift_71 rfl ?_
  refine j_getr (b := 150) d_Model_shift_72 jf_Model_53 rfl rfl rfl (by decide) ?_
  refine j_iload_n d_Model_shift_75 rfl ?_
  refine j_ialdN (v := nI (Sz a)) d_Model_shift_76 rfl (by omega) (by decide) rfl ?_
  refine j_iload_n d_Model_shift_77 rfl ?_
  refine j_isubN d_Model_shift_78 (by omega) ?_
  refine j_icmp_gtN_f (tgt := 96) d_Model_shift_79 (by decide) (by omega) (by omega) (by omega) ?_
  refine j_iload d_Model_shift_82 rfl ?_
  refine j_aload_n d_Model_shift_84 rfl ?_
  refine j_getr (b := 150) d_Model_shift_85 jf_Model_53 rfl rfl rfl (by decide) ?_
  refine j_iload_n d_Model_shift_88 rfl ?_
  refine j_ialdN (v := nI (Sz b)) d_Model_shift_89 rfl (by omega) (by decide) rfl ?_
  refine j_iload d_Model_shift_90 rfl ?_
  refine j_isubN d_Model_shift_92 (by omega) ?_
  refine j_icmp_leN_t (tgt := 99) d_Model_shift_93 (by decide) (by omega) (by omega) (by omega) ?_
  refine j_bipush (v := nI 40) d_Model_shift_99 (by decide) ?_
  refine j_iload_n d_Model_shift_101 rfl ?_
  refine j_imulN d_Model_shift_102 ?_
  refine j_iload_n d_Model_shift_103 rfl ?_
  refine j_iaddN d_Model_shift_104 ?_
  refine j_bipush (v := nI 40) d_Model_shift_105 (by decide) ?_
  refine j_iload_n d_Model_shift_107 rfl ?_
  refine j_imulN d_Model_shift_108 ?_
  refine j_iload d_Model_shift_109 rfl ?_
  refine j_iaddN d_Model_shift_111 ?_
  refine j_icmp_geN (tgt := 119) d_Model_shift_112 (by decide) (by omega) (by omega) (fun up => ?_) (fun up => ?_)
  · refine j_iconst (v := nI 0) d_Model_shift_119 rfl ?_
    refine j_istore (L' := [some (.ref 135), some (.int (nI a)), some (.int (nI i)), some (.int (nI b)), some (.int (nI j)), some (.int (nI m)), some (.int (nI 0)), none, none]) d_Model_shift_120 (by decide) rfl rfl ?_
    refine j_iconst (v := nI 0) d_Model_shift_122 rfl ?_
    refine j_istore (L' := [some (.ref 135), some (.int (nI a)), some (.int (nI i)), some (.int (nI b)), some (.int (nI j)), some (.int (nI m)), some (.int (nI 0)), some (.int (nI 0)), none]) d_Model_shift_123 (by decide) rfl rfl ?_
    refine j_heap (h' := jM (jS h So Sz (fun c x => if c = b then (if j ≤ x ∧ x < j + 0 then Nu a (i + (x - j)) else Nu c x) else Nu c x)) P) (jS_cg (fun _ => rfl) (fun _ => rfl) (fun c x hx => by split; (rw [if_neg (by omega)]); rfl)) ?_
    refine j_loop (P := fun k => jJ n 1 jc_Model_shift 9 "YesNoPowersModel" 125 [some (.ref 135), some (.int (nI a)), some (.int (nI i)), some (.int (nI b)), some (.int (nI j)), some (.int (nI m)), some (.int (nI 0)), some (.int (nI k)), none] [] (jM (jS h So Sz (fun c x => if c = b then (if j ≤ x ∧ x < j + k then Nu a (i + (x - j)) else Nu c x) else Nu c x)) P) res) (m := m) ?_ (fun k hk ih => ?_)
    · refine j_iload d_Model_shift_125 rfl ?_
      refine j_iload d_Model_shift_127 rfl ?_
      refine j_icmp_geN_t (tgt := 186) d_Model_shift_129 (by decide) (by omega) (by omega) (Nat.le_refl _) ?_
      refine j_iload d_Model_shift_186 rfl ?_
      subst hres
      exact j_reti d_Model_shift_188 rfl rfl
    · refine j_iload d_Model_shift_125 rfl ?_
      refine j_iload d_Model_shift_127 rfl ?_
      refine j_icmp_geN_f (tgt := 186) d_Model_shift_129 (by decide) (by omega) (by omega) (Nat.not_le.mpr hk) ?_
      refine j_iload d_Model_shift_132 rfl ?_
      refine j_if_eqN_t (tgt := 147) d_Model_shift_134 (by decide) (by omega) (by decide) ?_
      refine j_iload d_Model_shift_147 rfl ?_
      refine j_istore (L' := [some (.ref 135), some (.int (nI a)), some (.int (nI i)), some (.int (nI b)), some (.int (nI j)), some (.int (nI m)), some (.int (nI 0)), some (.int (nI k)), some (.int (nI k))]) d_Model_shift_149 (by decide) rfl rfl ?_
      refine j_aload_n d_Model_shift_151 rfl ?_
      refine j_getr (b := 151) d_Model_shift_152 jf_Model_56 rfl rfl rfl (by decide) ?_
      refine j_bipush (v := nI 40) d_Model_shift_155 (by decide) ?_
      refine j_iload_n d_Model_shift_157 rfl ?_
      refine j_imulN d_Model_shift_158 ?_
      refine j_iload d_Model_shift_159 rfl ?_
      refine j_iaddN d_Model_shift_161 ?_
      refine j_iload d_Model_shift_162 rfl ?_
      refine j_iaddN d_Model_shift_164 ?_
      refine j_aload_n d_Model_shift_165 rfl ?_
      refine j_getr (b := 151) d_Model_shift_166 jf_Model_56 rfl rfl rfl (by decide) ?_
      refine j_bipush (v := nI 40) d_Model_shift_169 (by decide) ?_
      refine j_iload_n d_Model_shift_171 rfl ?_
      refine j_imulN d_Model_shift_172 ?_
      refine j_iload_n d_Model_shift_173 rfl ?_
      refine j_iaddN d_Model_shift_174 ?_
      refine j_iload d_Model_shift_175 rfl ?_
      refine j_iaddN d_Model_shift_177 ?_
      refine j_ialdN (v := Nu a (i + (k))) d_Model_shift_178 rfl (by omega) (by decide) (by rw [jS_num (s := a) (i := i + (k)) (by omega) (by omega)]; split; (rw [if_neg (by omega)]); rfl) ?_
      refine j_iastN (h' := jM (jS h So Sz (jfu2 (fun c x => if c = b then (if j ≤ x ∧ x < j + k then Nu a (i + (x - j)) else Nu c x) else Nu c x) b (j + k) (Nu a (i + (k))))) P) d_Model_shift_179 rfl (by omega) (by decide) (jS_nu (s := b) (i := j + k) (by omega) (by omega)) ?_
      refine j_heap (h' := jM (jS h So Sz (fun c x => if c = b then (if j ≤ x ∧ x < j + (k + 1) then Nu a (i + (x - j)) else Nu c x) else Nu c x)) P) (jS_cg (fun _ => rfl) (fun _ => rfl) (fun c x hx => by simp only [jfu2]; by_cases e1 : c = b; (by_cases e : x = j + (k); (subst e; simp only [e1, if_true]; rw [if_pos (by omega)]; congr 1; omega); (simp only [e1, if_true, e, if_false]; (repeat' split) <;> first | rfl | omega)); (simp [e1]))) ?_
      refine j_iincN (x := k) (L' := [some (.ref 135), some (.int (nI a)), some (.int (nI i)), some (.int (nI b)), some (.int (nI j)), some (.int (nI m)), some (.int (nI 0)), some (.int (nI (k + 1))), some (.int (nI k))]) d_Model_shift_180 rfl (by decide) rfl rfl ?_
      refine j_goto (tgt := 125) d_Model_shift_183 (by decide) ?_
      exact j_forget (i := 8) rfl ih
  · refine j_iconst (v := nI 1) d_Model_shift_115 rfl ?_
    refine j_goto (tgt := 120) d_Model_shift_116 (by decide) ?_
    refine j_istore (L' := [some (.ref 135), some (.int (nI a)), some (.int (nI i)), some (.int (nI b)), some (.int (nI j)), some (.int (nI m)), some (.int (nI 1)), none, none]) d_Model_shift_120 (by decide) rfl rfl ?_
    refine j_iconst (v := nI 0) d_Model_shift_122 rfl ?_
    refine j_istore (L' := [some (.ref 135), some (.int (nI a)), some (.int (nI i)), some (.int (nI b)), some (.int (nI j)), some (.int (nI m)), some (.int (nI 1)), some (.int (nI 0)), none]) d_Model_shift_123 (by decide) rfl rfl ?_
    refine j_heap (h' := jM (jS h So Sz (fun c x => if c = b then (if j + (m - 0) ≤ x ∧ x < j + m then Nu a (i + (x - j)) else Nu c x) else Nu c x)) P) (jS_cg (fun _ => rfl) (fun _ => rfl) (fun c x hx => by split; (rw [if_neg (by omega)]); rfl)) ?_
    refine j_loop (P := fun k => jJ n 1 jc_Model_shift 9 "YesNoPowersModel" 125 [some (.ref 135), some (.int (nI a)), some (.int (nI i)), some (.int (nI b)), some (.int (nI j)), some (.int (nI m)), some (.int (nI 1)), some (.int (nI k)), none] [] (jM (jS h So Sz (fun c x => if c = b then (if j + (m - k) ≤ x ∧ x < j + m then Nu a (i + (x - j)) else Nu c x) else Nu c x)) P) res) (m := m) ?_ (fun k hk ih => ?_)
    · refine j_iload d_Model_shift_125 rfl ?_
      refine j_iload d_Model_shift_127 rfl ?_
      refine j_icmp_geN_t (tgt := 186) d_Model_shift_129 (by decide) (by omega) (by omega) (Nat.le_refl _) ?_
      refine j_iload d_Model_shift_186 rfl ?_
      subst hres
      exact j_reti d_Model_shift_188 rfl (jS_cg (fun _ => rfl) (fun _ => rfl) (fun c x hx => by simp only [Nat.sub_self, Nat.add_zero]))
    · refine j_iload d_Model_shift_125 rfl ?_
      refine j_iload d_Model_shift_127 rfl ?_
      refine j_icmp_geN_f (tgt := 186) d_Model_shift_129 (by decide) (by omega) (by omega) (Nat.not_le.mpr hk) ?_
      refine j_iload d_Model_shift_132 rfl ?_
      refine j_if_eqN_f (tgt := 147) d_Model_shift_134 (by decide) (by omega) (by decide) ?_
      refine j_iload d_Model_shift_137 rfl ?_
      refine j_iconst (v := nI 1) d_Model_shift_139 rfl ?_
      refine j_isubN d_Model_shift_140 (by omega) ?_
      refine j_iload d_Model_shift_141 rfl ?_
      refine j_isubN d_Model_shift_143 (by omega) ?_
      refine j_goto (tgt := 149) d_Model_shift_144 (by decide) ?_
      refine j_istore (L' := [some (.ref 135), some (.int (nI a)), some (.int (nI i)), some (.int (nI b)), some (.int (nI j)), some (.int (nI m)), some (.int (nI 1)), some (.int (nI k)), some (.int (nI ((m - 1) - k)))]) d_Model_shift_149 (by decide) rfl rfl ?_
      refine j_aload_n d_Model_shift_151 rfl ?_
      refine j_getr (b := 151) d_Model_shift_152 jf_Model_56 rfl rfl rfl (by decide) ?_
      refine j_bipush (v := nI 40) d_Model_shift_155 (by decide) ?_
      refine j_iload_n d_Model_shift_157 rfl ?_
      refine j_imulN d_Model_shift_158 ?_
      refine j_iload d_Model_shift_159 rfl ?_
      refine j_iaddN d_Model_shift_161 ?_
      refine j_iload d_Model_shift_162 rfl ?_
      refine j_iaddN d_Model_shift_164 ?_
      refine j_aload_n d_Model_shift_165 rfl ?_
      refine j_getr (b := 151) d_Model_shift_166 jf_Model_56 rfl rfl rfl (by decide) ?_
      refine j_bipush (v := nI 40) d_Model_shift_169 (by decide) ?_
      refine j_iload_n d_Model_shift_171 rfl ?_
      refine j_imulN d_Model_shift_172 ?_
      refine j_iload_n d_Model_shift_173 rfl ?_
      refine j_iaddN d_Model_shift_174 ?_
      refine j_iload d_Model_shift_175 rfl ?_
      refine j_iaddN d_Model_shift_177 ?_
      refine j_ialdN (v := Nu a (i + (m - 1 - k))) d_Model_shift_178 rfl (by omega) (by decide) (by rw [jS_num (s := a) (i := i + (m - 1 - k)) (by omega) (by omega)]; split; (rw [if_neg (by omega)]); rfl) ?_
      refine j_iastN (h' := jM (jS h So Sz (jfu2 (fun c x => if c = b then (if j + (m - k) ≤ x ∧ x < j + m then Nu a (i + (x - j)) else Nu c x) else Nu c x) b (j + ((m - 1) - k)) (Nu a (i + (m - 1 - k))))) P) d_Model_shift_179 rfl (by omega) (by decide) (jS_nu (s := b) (i := j + ((m - 1) - k)) (by omega) (by omega)) ?_
      refine j_heap (h' := jM (jS h So Sz (fun c x => if c = b then (if j + (m - (k + 1)) ≤ x ∧ x < j + m then Nu a (i + (x - j)) else Nu c x) else Nu c x)) P) (jS_cg (fun _ => rfl) (fun _ => rfl) (fun c x hx => by simp only [jfu2]; by_cases e1 : c = b; (by_cases e : x = j + (m - 1 - k); (subst e; simp only [e1, if_true]; rw [if_pos (by omega)]; congr 1; omega); (simp only [e1, if_true, e, if_false]; (repeat' split) <;> first | rfl | omega)); (simp [e1]))) ?_
      refine j_iincN (x := k) (L' := [some (.ref 135), some (.int (nI a)), some (.int (nI i)), some (.int (nI b)), some (.int (nI j)), some (.int (nI m)), some (.int (nI 1)), some (.int (nI (k + 1))), some (.int (nI ((m - 1) - k)))]) d_Model_shift_180 rfl (by decide) rfl rfl ?_
      refine j_goto (tgt := 125) d_Model_shift_183 (by decide) ?_
      exact j_forget (i := 8) rfl ih
theorem c_loosen {n : jN} {h : jH} {P : jP} {c : Nat} (hlk : h 135 4 = nI c) : jC n 0 jy_Model_loosen jc_Model_loosen 2 (some .int) [.ref 135] (jM h P) (some (.int (nI c))) (jM (jup2 h 135 4 (nI 0)) P) := by
  refine jC_of jm_Model_loosen (L := [some (.ref 135), none]) (Nat.le_of_ble_eq_true rfl) rfl trivial ?_
  generalize hres : (((some (.int (nI c))), jM (jup2 h 135 4 (nI 0)) P) : Option Value × jH) = res
  refine j_aload_n d_Model_loosen_0 rfl ?_
  refine j_getv (v := nI c) d_Model_loosen_1 jf_Model_252 rfl rfl hlk ?_
  refine j_istore_n (L' := [some (.ref 135), some (.int (nI c))]) d_Model_loosen_4 (by decide) rfl rfl ?_
  refine j_aload_n d_Model_loosen_5 rfl ?_
  refine j_iconst (v := nI 0) d_Model_loosen_6 rfl ?_
  refine j_putv (h' := jM (jup2 h 135 4 (nI 0)) P) d_Model_loosen_7 jf_Model_252 rfl rfl (jM_set_other (by decide) (by decide)) ?_
  refine j_iload_n d_Model_loosen_10 rfl ?_
  subst hres
  exact j_reti d_Model_loosen_11 rfl rfl
theorem c_closing_bad {n : jN} {h : jH} {P : jP} {c : Nat} {i : Int32} (hcl : h 135 7 = nI c) (hc : c ≤ 40) (hb : jin i 0 ((c : Int) - 1) = false) : jC n 1 jy_Model_closing jc_Model_closing 2 (some .int) [.ref 135, .int i] (jM h P) (some (.int (-2))) (jM h P) := by
  refine jC_of jm_Model_closing (L := [some (.ref 135), some (.int i)]) (Nat.le_of_ble_eq_true rfl) rfl trivial ?_
  generalize hres : (((some (.int (-2))), jM h P) : Option Value × jH) = res
  refine j_iload_n d_Model_closing_0 rfl ?_
  refine j_i2l d_Model_closing_1 ?_
  refine j_lconst (v := 0) d_Model_closing_2 rfl ?_
  refine j_aload_n d_Model_closing_3 rfl ?_
  refine j_getv (v := nI c) d_Model_closing_4 jf_Model_261 rfl rfl hcl ?_
  refine j_iconst (v := nI 1) d_Model_closing_7 rfl ?_
  refine j_isub d_Model_closing_8 ?_
  refine j_i2l d_Model_closing_9 ?_
  refine j_callSs (As := [.long i.toInt64, .long 0, .long (((nI c) - (nI 1)).toInt64)]) (st := []) (c_in (x := i) (lo := 0) (hi := ((nI c) - (nI 1)).toInt) rfl rfl (Int32.toInt_toInt64 _)) d_Model_closing_10 (by decide) jm_Model_in jk_Model_107 js_Model_in rfl (Nat.le_of_ble_eq_true rfl) rfl ?_
  refine j_if_eqB (tgt := 27) d_Model_closing_13 (by decide) (fun c1 => ?_) (fun c1 => ?_)
  · refine j_bipush (v := -2) d_Model_closing_27 (by decide) ?_
    subst hres
    exact j_reti d_Model_closing_29 rfl rfl
  · rw [nI_s1 hc] at c1
    exact absurd c1 (by rw [hb]; decide)
theorem c_closing {n : jN} {h : jH} {P : jP} {c i : Nat} (hcl : h 135 7 = nI c) (hc : c ≤ 40) (hi : i < c) : jC n 1 jy_Model_closing jc_Model_closing 2 (some .int) [.ref 135, .int (nI i)] (jM h P) (some (.int (nI (c - 1 - i)))) (jM h P) := by
  refine jC_of jm_Model_closing (L := [some (.ref 135), some (.int (nI i))]) (Nat.le_of_ble_eq_true rfl) rfl trivial ?_
  generalize hres : (((some (.int (nI (c - 1 - i)))), jM h P) : Option Value × jH) = res
  refine j_iload_n d_Model_closing_0 rfl ?_
  refine j_i2l d_Model_closing_1 ?_
  refine j_lconst (v := 0) d_Model_closing_2 rfl ?_
  refine j_aload_n d_Model_closing_3 rfl ?_
  refine j_getv (v := nI c) d_Model_closing_4 jf_Model_261 rfl rfl hcl ?_
  refine j_iconst (v := nI 1) d_Model_closing_7 rfl ?_
  refine j_isub d_Model_closing_8 ?_
  refine j_i2l d_Model_closing_9 ?_
  refine j_callSs (As := [.long ((nI i).toInt64), .long 0, .long (((nI c) - (nI 1)).toInt64)]) (st := []) (c_in (x := (nI i)) (lo := 0) (hi := ((nI c) - (nI 1)).toInt) rfl rfl (Int32.toInt_toInt64 _)) d_Model_closing_10 (by decide) jm_Model_in jk_Model_107 js_Model_in rfl (Nat.le_of_ble_eq_true rfl) rfl ?_
  refine j_if_eqB_f (tgt := 27) d_Model_closing_13 (by decide) (jin_y (by omega) (by omega) (by rw [nI_s1 (by omega)]; omega)) ?_
  refine j_aload_n d_Model_closing_16 rfl ?_
  refine j_getv (v := nI c) d_Model_closing_17 jf_Model_261 rfl rfl hcl ?_
  refine j_iconst (v := nI 1) d_Model_closing_20 rfl ?_
  refine j_isubN d_Model_closing_21 (by omega) ?_
  refine j_iload_n d_Model_closing_22 rfl ?_
  refine j_isubN d_Model_closing_23 (by omega) ?_
  refine j_goto (tgt := 29) d_Model_closing_24 (by decide) ?_
  subst hres
  exact j_reti d_Model_closing_29 rfl rfl
theorem c_reason_bad {n : jN} {h : jH} {P : jP} {c : Nat} {i : Int32} (hre : h 135 8 = nI c) (hc : c ≤ 40) (hb : jin i 0 ((c : Int) - 1) = false) : jC n 1 jy_Model_reason jc_Model_reason 2 (some .int) [.ref 135, .int i] (jM h P) (some (.int (-2))) (jM h P) := by
  refine jC_of jm_Model_reason (L := [some (.ref 135), some (.int i)]) (Nat.le_of_ble_eq_true rfl) rfl trivial ?_
  generalize hres : (((some (.int (-2))), jM h P) : Option Value × jH) = res
  refine j_iload_n d_Model_reason_0 rfl ?_
  refine j_i2l d_Model_reason_1 ?_
  refine j_lconst (v := 0) d_Model_reason_2 rfl ?_
  refine j_aload_n d_Model_reason_3 rfl ?_
  refine j_getv (v := nI c) d_Model_reason_4 jf_Model_264 rfl rfl hre ?_
  refine j_iconst (v := nI 1) d_Model_reason_7 rfl ?_
  refine j_isub d_Model_reason_8 ?_
  refine j_i2l d_Model_reason_9 ?_
  refine j_callSs (As := [.long i.toInt64, .long 0, .long (((nI c) - (nI 1)).toInt64)]) (st := []) (c_in (x := i) (lo := 0) (hi := ((nI c) - (nI 1)).toInt) rfl rfl (Int32.toInt_toInt64 _)) d_Model_reason_10 (by decide) jm_Model_in jk_Model_107 js_Model_in rfl (Nat.le_of_ble_eq_true rfl) rfl ?_
  refine j_if_eqB (tgt := 25) d_Model_reason_13 (by decide) (fun c1 => ?_) (fun c1 => ?_)
  · refine j_bipush (v := -2) d_Model_reason_25 (by decide) ?_
    subst hres
    exact j_reti d_Model_reason_27 rfl rfl
  · rw [nI_s1 hc] at c1
    exact absurd c1 (by rw [hb]; decide)
theorem c_reason {n : jN} {h : jH} {P : jP} {c i : Nat} (hre : h 135 8 = nI c) (hc : c ≤ 3) (hi : i < c) : jC n 1 jy_Model_reason jc_Model_reason 2 (some .int) [.ref 135, .int (nI i)] (jM h P) (some (.int (h 141 i))) (jM h P) := by
  refine jC_of jm_Model_reason (L := [some (.ref 135), some (.int (nI i))]) (Nat.le_of_ble_eq_true rfl) rfl trivial ?_
  generalize hres : (((some (.int (h 141 i))), jM h P) : Option Value × jH) = res
  refine j_iload_n d_Model_reason_0 rfl ?_
  refine j_i2l d_Model_reason_1 ?_
  refine j_lconst (v := 0) d_Model_reason_2 rfl ?_
  refine j_aload_n d_Model_reason_3 rfl ?_
  refine j_getv (v := nI c) d_Model_reason_4 jf_Model_264 rfl rfl hre ?_
  refine j_iconst (v := nI 1) d_Model_reason_7 rfl ?_
  refine j_isub d_Model_reason_8 ?_
  refine j_i2l d_Model_reason_9 ?_
  refine j_callSs (As := [.long ((nI i).toInt64), .long 0, .long (((nI c) - (nI 1)).toInt64)]) (st := []) (c_in (x := (nI i)) (lo := 0) (hi := ((nI c) - (nI 1)).toInt) rfl rfl (Int32.toInt_toInt64 _)) d_Model_reason_10 (by decide) jm_Model_in jk_Model_107 js_Model_in rfl (Nat.le_of_ble_eq_true rfl) rfl ?_
  refine j_if_eqB_f (tgt := 25) d_Model_reason_13 (by decide) (jin_y (by omega) (by omega) (by rw [nI_s1 (by omega)]; omega)) ?_
  refine j_aload_n d_Model_reason_16 rfl ?_
  refine j_getr (b := 141) d_Model_reason_17 jf_Model_25 rfl rfl rfl (by decide) ?_
  refine j_iload_n d_Model_reason_20 rfl ?_
  refine j_ialdN (v := h 141 i) d_Model_reason_21 rfl (by omega) (by decide) rfl ?_
  refine j_goto (tgt := 27) d_Model_reason_22 (by decide) ?_
  subst hres
  exact j_reti d_Model_reason_27 rfl rfl
def cnt0 (P : jP) (k : Nat) : Nat := jsum k (fun s => if 0 < (P s).1 then 1 else 0)
def cnt3 (So : Nat → Int32) (k : Nat) : Nat := jsum k (fun s => if 0 ≤ So s then 1 else 0)
theorem c_count_bad {n : jN} {h : jH} {So : Nat → Int32} {Sz : Nat → Nat} {Nu : Nat → Nat → Int32} {P : jP} {w : Int32} (hb : jin w 0 4 = false) : jC n 0 jy_Model_count jc_Model_count 4 (some .int) [.ref 135, .int w] (jM (jS h So Sz Nu) P) (some (.int (-1))) (jM (jS h So Sz Nu) P) := by
  refine jC_of jm_Model_count (L := [some (.ref 135), some (.int w), none, none]) (Nat.le_of_ble_eq_true rfl) rfl trivial ?_
  generalize hres : (((some (.int (-1))), jM (jS h So Sz Nu) P) : Option Value × jH) = res
  refine j_iconst (v := nI 0) d_Model_count_0 rfl ?_
  refine j_istore_n (L' := [some (.ref 135), some (.int w), some (.int (nI 0)), none]) d_Model_count_1 (by decide) rfl rfl ?_
  refine j_iload_n d_Model_count_2 rfl ?_
  refine j_swOut (tgt := 113) d_Model_count_3 (by simp [jin] at hb; omega) (by decide) ?_
  refine j_iconst (v := -1) d_Model_count_113 rfl ?_
  subst hres
  exact j_reti d_Model_count_114 rfl rfl
theorem c_count0 {n : jN} {h : jH} {So : Nat → Int32} {Sz : Nat → Nat} {Nu : Nat → Nat → Int32} {P : jP} (hw : ∀ q, tw (P q)) : jC n 0 jy_Model_count jc_Model_count 4 (some .int) [.ref 135, .int (nI 0)] (jM (jS h So Sz Nu) P) (some (.int (nI (cnt0 P 6)))) (jM (jS h So Sz Nu) P) := by
  refine jC_of jm_Model_count (L := [some (.ref 135), some (.int (nI 0)), none, none]) (Nat.le_of_ble_eq_true rfl) rfl trivial ?_
  generalize hres : (((some (.int (nI (cnt0 P 6)))), jM (jS h So Sz Nu) P) : Option Value × jH) = res
  refine j_iconst (v := nI 0) d_Model_count_0 rfl ?_
  refine j_istore_n (L' := [some (.ref 135), some (.int (nI 0)), some (.int (nI 0)), none]) d_Model_count_1 (by decide) rfl rfl ?_
  refine j_iload_n d_Model_count_2 rfl ?_
  refine j_swIn (off := 33) (tgt := 36) d_Model_count_3 (by decide) (by decide) rfl (by decide) ?_
  refine j_iconst (v := nI 0) d_Model_count_36 rfl ?_
  refine j_istore_n (L' := [some (.ref 135), some (.int (nI 0)), some (.int (nI 0)), some (.int (nI 0))]) d_Model_count_37 (by decide) rfl rfl ?_
  refine j_loop (P := fun k => jJ n 0 jc_Model_count 4 "YesNoPowersModel" 38 [some (.ref 135), some (.int (nI 0)), some (.int (nI (cnt0 P k))), some (.int (nI k))] [] (jM (jS h So Sz Nu) P) res) (m := 6) ?_ (fun k hk ih => ?_)
  · refine j_iload_n d_Model_count_38 rfl ?_
    refine j_bipush (v := nI 6) d_Model_count_39 (by decide) ?_
    refine j_icmp_geN_t (tgt := 67) d_Model_count_41 (by decide) (by omega) (by omega) (Nat.le_refl _) ?_
    refine j_iload_n d_Model_count_67 rfl ?_
    subst hres
    exact j_reti d_Model_count_68 rfl rfl
  · refine j_iload_n d_Model_count_38 rfl ?_
    refine j_bipush (v := nI 6) d_Model_count_39 (by decide) ?_
    refine j_icmp_geN_f (tgt := 67) d_Model_count_41 (by decide) (by omega) (by omega) (Nat.not_le.mpr hk) ?_
    have hwk := (hw k).1
    refine j_iload_n d_Model_count_44 rfl ?_
    refine j_aload_n d_Model_count_45 rfl ?_
    refine j_getr (b := 137) d_Model_count_46 jf_Model_13 rfl rfl rfl (by decide) ?_
    refine j_iload_n d_Model_count_49 rfl ?_
    refine j_ialdN (v := nI ((P k).1)) d_Model_count_50 rfl (by omega) (by decide) rfl ?_
    refine j_if_leN (tgt := 58) d_Model_count_51 (by decide) (by omega) (fun c => ?_) (fun c => ?_)
    · refine j_iconst (v := nI 0) d_Model_count_58 rfl ?_
      refine j_iaddN d_Model_count_59 ?_
      refine j_top (w := nI (cnt0 P (k + 1))) (congrArg nI (by simp [cnt0, jsum, c])) ?_
      refine j_istore_n (L' := [some (.ref 135), some (.int (nI 0)), some (.int (nI (cnt0 P (k + 1)))), some (.int (nI k))]) d_Model_count_60 (by decide) rfl rfl ?_
      refine j_iincN (x := k) (L' := [some (.ref 135), some (.int (nI 0)), some (.int (nI (cnt0 P (k + 1)))), some (.int (nI (k + 1)))]) d_Model_count_61 rfl (by decide) rfl rfl ?_
      refine j_goto (tgt := 38) d_Model_count_64 (by decide) ?_
      exact ih
    · refine j_iconst (v := nI 1) d_Model_count_54 rfl ?_
      refine j_goto (tgt := 59) d_Model_count_55 (by decide) ?_
      refine j_iaddN d_Model_count_59 ?_
      refine j_top (w := nI (cnt0 P (k + 1))) (congrArg nI (by simp [cnt0, jsum, c])) ?_
      refine j_istore_n (L' := [some (.ref 135), some (.int (nI 0)), some (.int (nI (cnt0 P (k + 1)))), some (.int (nI k))]) d_Model_count_60 (by decide) rfl rfl ?_
      refine j_iincN (x := k) (L' := [some (.ref 135), some (.int (nI 0)), some (.int (nI (cnt0 P (k + 1)))), some (.int (nI (k + 1)))]) d_Model_count_61 rfl (by decide) rfl rfl ?_
      refine j_goto (tgt := 38) d_Model_count_64 (by decide) ?_
      exact ih
theorem c_count3 {n : jN} {h : jH} {So : Nat → Int32} {Sz : Nat → Nat} {Nu : Nat → Nat → Int32} {P : jP} (hw : ∀ q, tw (P q)) : jC n 0 jy_Model_count jc_Model_count 4 (some .int) [.ref 135, .int (nI 3)] (jM (jS h So Sz Nu) P) (some (.int (nI (cnt3 So 4)))) (jM (jS h So Sz Nu) P) := by
  refine jC_of jm_Model_count (L := [some (.ref 135), some (.int (nI 3)), none, none]) (Nat.le_of_ble_eq_true rfl) rfl trivial ?_
  generalize hres : (((some (.int (nI (cnt3 So 4)))), jM (jS h So Sz Nu) P) : Option Value × jH) = res
  refine j_iconst (v := nI 0) d_Model_count_0 rfl ?_
  refine j_istore_n (L' := [some (.ref 135), some (.int (nI 3)), some (.int (nI 0)), none]) d_Model_count_1 (by decide) rfl rfl ?_
  refine j_iload_n d_Model_count_2 rfl ?_
  refine j_swIn (off := 76) (tgt := 79) d_Model_count_3 (by decide) (by decide) rfl (by decide) ?_
  refine j_iconst (v := nI 0) d_Model_count_79 rfl ?_
  refine j_istore_n (L' := [some (.ref 135), some (.int (nI 3)), some (.int (nI 0)), some (.int (nI 0))]) d_Model_count_80 (by decide) rfl rfl ?_
  refine j_loop (P := fun k => jJ n 0 jc_Model_count 4 "YesNoPowersModel" 81 [some (.ref 135), some (.int (nI 3)), some (.int (nI (cnt3 So k))), some (.int (nI k))] [] (jM (jS h So Sz Nu) P) res) (m := 4) ?_ (fun k hk ih => ?_)
  · refine j_iload_n d_Model_count_81 rfl ?_
    refine j_iconst (v := nI 4) d_Model_count_82 rfl ?_
    refine j_icmp_geN_t (tgt := 109) d_Model_count_83 (by decide) (by omega) (by omega) (Nat.le_refl _) ?_
    refine j_iload_n d_Model_count_109 rfl ?_
    subst hres
    exact j_reti d_Model_count_110 rfl rfl
  · refine j_iload_n d_Model_count_81 rfl ?_
    refine j_iconst (v := nI 4) d_Model_count_82 rfl ?_
    refine j_icmp_geN_f (tgt := 109) d_Model_count_83 (by decide) (by omega) (by omega) (Nat.not_le.mpr hk) ?_
    refine j_iload_n d_Model_count_86 rfl ?_
    refine j_aload_n d_Model_count_87 rfl ?_
    refine j_getr (b := 149) d_Model_count_88 jf_Model_50 rfl rfl rfl (by decide) ?_
    refine j_iload_n d_Model_count_91 rfl ?_
    refine j_ialdN (v := So k) d_Model_count_92 rfl (by omega) (by decide) rfl ?_
    refine j_if_lt (tgt := 100) d_Model_count_93 (by decide) (fun c => ?_) (fun c => ?_)
    · refine j_iconst (v := nI 0) d_Model_count_100 rfl ?_
      refine j_iaddN d_Model_count_101 ?_
      refine j_top (w := nI (cnt3 So (k + 1))) (congrArg nI (by simp [cnt3, jsum, c])) ?_
      refine j_istore_n (L' := [some (.ref 135), some (.int (nI 3)), some (.int (nI (cnt3 So (k + 1)))), some (.int (nI k))]) d_Model_count_102 (by decide) rfl rfl ?_
      refine j_iincN (x := k) (L' := [some (.ref 135), some (.int (nI 3)), some (.int (nI (cnt3 So (k + 1)))), some (.int (nI (k + 1)))]) d_Model_count_103 rfl (by decide) rfl rfl ?_
      refine j_goto (tgt := 81) d_Model_count_106 (by decide) ?_
      exact ih
    · refine j_iconst (v := nI 1) d_Model_count_96 rfl ?_
      refine j_goto (tgt := 101) d_Model_count_97 (by decide) ?_
      refine j_iaddN d_Model_count_101 ?_
      refine j_top (w := nI (cnt3 So (k + 1))) (congrArg nI (by simp [cnt3, jsum, c])) ?_
      refine j_istore_n (L' := [some (.ref 135), some (.int (nI 3)), some (.int (nI (cnt3 So (k + 1)))), some (.int (nI k))]) d_Model_count_102 (by decide) rfl rfl ?_
      refine j_iincN (x := k) (L' := [some (.ref 135), some (.int (nI 3)), some (.int (nI (cnt3 So (k + 1)))), some (.int (nI (k + 1)))]) d_Model_count_103 rfl (by decide) rfl rfl ?_
      refine j_goto (tgt := 81) d_Model_count_106 (by decide) ?_
      exact ih
theorem c_count1 {n : jN} {h : jH} {P : jP} {c : Nat} (hlk : h 135 4 = nI c) : jC n 0 jy_Model_count jc_Model_count 4 (some .int) [.ref 135, .int (nI 1)] (jM h P) (some (.int (nI c))) (jM h P) := by
  refine jC_of jm_Model_count (L := [some (.ref 135), some (.int (nI 1)), none, none]) (Nat.le_of_ble_eq_true rfl) rfl trivial ?_
  generalize hres : (((some (.int (nI c))), jM h P) : Option Value × jH) = res
  refine j_iconst (v := nI 0) d_Model_count_0 rfl ?_
  refine j_istore_n (L' := [some (.ref 135), some (.int (nI 1)), some (.int (nI 0)), none]) d_Model_count_1 (by decide) rfl rfl ?_
  refine j_iload_n d_Model_count_2 rfl ?_
  refine j_swIn (off := 66) (tgt := 69) d_Model_count_3 (by decide) (by decide) rfl (by decide) ?_
  refine j_aload_n d_Model_count_69 rfl ?_
  refine j_getv (v := nI c) d_Model_count_70 jf_Model_252 rfl rfl hlk ?_
  subst hres
  exact j_reti d_Model_count_73 rfl rfl
theorem c_count2 {n : jN} {h : jH} {ls : Nat → Nat} {lg : Nat} {P : jP}  : jC n 0 jy_Model_count jc_Model_count 4 (some .int) [.ref 135, .int (nI 2)] (jM (jL h ls lg) P) (some (.int (nI lg))) (jM (jL h ls lg) P) := by
  refine jC_of jm_Model_count (L := [some (.ref 135), some (.int (nI 2)), none, none]) (Nat.le_of_ble_eq_true rfl) rfl trivial ?_
  generalize hres : (((some (.int (nI lg))), jM (jL h ls lg) P) : Option Value × jH) = res
  refine j_iconst (v := nI 0) d_Model_count_0 rfl ?_
  refine j_istore_n (L' := [some (.ref 135), some (.int (nI 2)), some (.int (nI 0)), none]) d_Model_count_1 (by decide) rfl rfl ?_
  refine j_iload_n d_Model_count_2 rfl ?_
  refine j_swIn (off := 71) (tgt := 74) d_Model_count_3 (by decide) (by decide) rfl (by decide) ?_
  refine j_aload_n d_Model_count_74 rfl ?_
  refine j_getv (v := nI lg) d_Model_count_75 jf_Model_59 rfl rfl rfl ?_
  subst hres
  exact j_reti d_Model_count_78 rfl rfl
theorem c_count4 {n : jN} {h : jH} {P : jP} : jC n 0 jy_Model_count jc_Model_count 4 (some .int) [.ref 135, .int (nI 4)] (jM h P) (some (.int (nI 0))) (jM h P) := by
  refine jC_of jm_Model_count (L := [some (.ref 135), some (.int (nI 4)), none, none]) (Nat.le_of_ble_eq_true rfl) rfl trivial ?_
  generalize hres : (((some (.int (nI 0))), jM h P) : Option Value × jH) = res
  refine j_iconst (v := nI 0) d_Model_count_0 rfl ?_
  refine j_istore_n (L' := [some (.ref 135), some (.int (nI 4)), some (.int (nI 0)), none]) d_Model_count_1 (by decide) rfl rfl ?_
  refine j_iload_n d_Model_count_2 rfl ?_
  refine j_swIn (off := 108) (tgt := 111) d_Model_count_3 (by decide) (by decide) rfl (by decide) ?_
  refine j_iconst (v := nI 0) d_Model_count_111 rfl ?_
  subst hres
  exact j_reti d_Model_count_112 rfl rfl
def jlk (P : jP) (kind m : Int32) : Bool := if kind = nI 0 ∨ kind = nI 1 ∨ kind = nI 5 then true else if kind = nI 2 ∨ kind = nI 6 then jho P m else if kind = nI 3 then jsl m else decide (kind = nI 4) && jin m 0 99
theorem jne {a b : Nat} (ha : a < 7) (hb : b < 7) (h : a ≠ b) : (nI a = nI b) = False := eq_false (fun z => h ((nI_eq (by omega) (by omega)).mp z))
theorem j7 {k : Nat} (h : (k : Int) ≤ 6) : k = 0 ∨ k = 1 ∨ k = 2 ∨ k = 3 ∨ k = 4 ∨ k = 5 ∨ k = 6 := by omega
theorem c_isLink {n : jN} {h : jH} {P : jP} {kind m : Int32} (hw : ∀ q, tw (P q)) : jC n 2 jy_Model_isLink jc_Model_isLink 3 (some .boolean) [.ref 135, .int kind, .int m] (jM h P) (some (.int (jbo (jlk P kind m)))) (jM h P) := by
  refine jC_of jm_Model_isLink (L := [some (.ref 135), some (.int kind), some (.int m)]) (Nat.le_of_ble_eq_true rfl) rfl (jbo01 _) ?_
  generalize hres : (((some (.int (jbo (jlk P kind m)))), jM h P) : Option Value × jH) = res
  by_cases hk : jin kind 0 6 = true
  · obtain ⟨k, h1, h2, h3, rfl⟩ := jin_k (by omega) hk
    rcases j7 h2 with rfl | rfl | rfl | rfl | rfl | rfl | rfl
    · refine j_iload_n d_Model_isLink_0 rfl ?_
      refine j_swIn (off := 43) (tgt := 44) d_Model_isLink_1 (by decide) (by decide) rfl (by decide) ?_
      refine j_iconst (v := nI 1) d_Model_isLink_44 rfl ?_
      subst hres
      exact j_reti d_Model_isLink_45 (by rfl) rfl
    · refine j_iload_n d_Model_isLink_0 rfl ?_
      refine j_swIn (off := 43) (tgt := 44) d_Model_isLink_1 (by decide) (by decide) rfl (by decide) ?_
      refine j_iconst (v := nI 1) d_Model_isLink_44 rfl ?_
      subst hres
      exact j_reti d_Model_isLink_45 (by rfl) rfl
    · refine j_iload_n d_Model_isLink_0 rfl ?_
      refine j_swIn (off := 45) (tgt := 46) d_Model_isLink_1 (by decide) (by decide) rfl (by decide) ?_
      refine j_aload_n d_Model_isLink_46 rfl ?_
      refine j_iload_n d_Model_isLink_47 rfl ?_
      refine j_callVs (As := [.int m]) (st := []) (c_holds hw) d_Model_isLink_48 (by decide) jm_Model_holds jk_Model_117 ji_Model_holds js_Model_holds rfl (by decide) rfl rfl (Nat.le_of_ble_eq_true rfl) rfl ?_
      subst hres
      exact j_reti d_Model_isLink_51 rfl rfl
    · refine j_iload_n d_Model_isLink_0 rfl ?_
      refine j_swIn (off := 51) (tgt := 52) d_Model_isLink_1 (by decide) (by decide) rfl (by decide) ?_
      refine j_iload_n d_Model_isLink_52 rfl ?_
      refine j_callSs (As := [.int m]) (st := []) c_isSlot d_Model_isLink_53 (by decide) jm_Model_isSlot jk_Model_63 js_Model_isSlot rfl (Nat.le_of_ble_eq_true rfl) rfl ?_
      subst hres
      exact j_reti d_Model_isLink_56 rfl rfl
    · refine j_iload_n d_Model_isLink_0 rfl ?_
      refine j_swIn (off := 56) (tgt := 57) d_Model_isLink_1 (by decide) (by decide) rfl (by decide) ?_
      refine j_iload_n d_Model_isLink_57 rfl ?_
      refine j_iconst (v := nI 4) d_Model_isLink_58 rfl ?_
      refine j_icmp_neN_f (tgt := 78) d_Model_isLink_59 (by decide) (by omega) (by omega) (by decide) ?_
      refine j_iload_n d_Model_isLink_62 rfl ?_
      refine j_i2l d_Model_isLink_63 ?_
      refine j_lconst (v := 0) d_Model_isLink_64 rfl ?_
      refine j_ldc2 (v := 99) d_Model_isLink_65 jk_Model_247 ?_
      refine j_callSs (As := [.long m.toInt64, .long 0, .long 99]) (st := []) (c_in (x := m) (lo := 0) (hi := 99) rfl rfl rfl) d_Model_isLink_68 (by decide) jm_Model_in jk_Model_107 js_Model_in rfl (Nat.le_of_ble_eq_true rfl) rfl ?_
      refine j_if_eqB (tgt := 78) d_Model_isLink_71 (by decide) (fun c => ?_) (fun c => ?_)
      · refine j_iconst (v := nI 0) d_Model_isLink_78 rfl ?_
        subst hres
        exact j_reti d_Model_isLink_79 (by rw [show jlk P (nI 4) m = false from by simp [jlk, c, jne]]; rfl) rfl
      · refine j_iconst (v := nI 1) d_Model_isLink_74 rfl ?_
        refine j_goto (tgt := 79) d_Model_isLink_75 (by decide) ?_
        subst hres
        exact j_reti d_Model_isLink_79 (by rw [show jlk P (nI 4) m = true from by simp [jlk, c, jne]]; rfl) rfl
    · refine j_iload_n d_Model_isLink_0 rfl ?_
      refine j_swIn (off := 43) (tgt := 44) d_Model_isLink_1 (by decide) (by decide) rfl (by decide) ?_
      refine j_iconst (v := nI 1) d_Model_isLink_44 rfl ?_
      subst hres
      exact j_reti d_Model_isLink_45 (by rfl) rfl
    · refine j_iload_n d_Model_isLink_0 rfl ?_
      refine j_swIn (off := 45) (tgt := 46) d_Model_isLink_1 (by decide) (by decide) rfl (by decide) ?_
      refine j_aload_n d_Model_isLink_46 rfl ?_
      refine j_iload_n d_Model_isLink_47 rfl ?_
      refine j_callVs (As := [.int m]) (st := []) (c_holds hw) d_Model_isLink_48 (by decide) jm_Model_holds jk_Model_117 ji_Model_holds js_Model_holds rfl (by decide) rfl rfl (Nat.le_of_ble_eq_true rfl) rfl ?_
      subst hres
      exact j_reti d_Model_isLink_51 rfl rfl
  · refine j_iload_n d_Model_isLink_0 rfl ?_
    refine j_swOut (tgt := 57) d_Model_isLink_1 (by simp [jin] at hk; omega) (by decide) ?_
    refine j_iload_n d_Model_isLink_57 rfl ?_
    refine j_iconst (v := nI 4) d_Model_isLink_58 rfl ?_
    refine j_icmp_ne (tgt := 78) d_Model_isLink_59 (by decide) (fun c => ?_) (fun c => ?_)
    · have hne : ∀ k, k < 7 → ¬ kind = nI k := fun k h e => hk (by rw [e]; exact jin_y (by omega) (by omega) (by omega))
      refine j_iconst (v := nI 0) d_Model_isLink_78 rfl ?_
      subst hres
      exact j_reti d_Model_isLink_79 (by rw [show jlk P kind m = false from by simp [jlk, hne]]; rfl) rfl
    · have hne : ∀ k, k < 7 → ¬ kind = nI k := fun k h e => hk (by rw [e]; exact jin_y (by omega) (by omega) (by omega))
      exact absurd c (hne 4 (by omega))
theorem c_link_bad {n : jN} {h : jH} {P : jP} {kind m : Int32} (hw : ∀ q, tw (P q)) (hb : jlk P kind m = false) : jC n 3 jy_Model_link jc_Model_link 3 (some .int) [.ref 135, .int kind, .int m] (jM h P) (some (.int (-1))) (jM h P) := by
  refine jC_of jm_Model_link (L := [some (.ref 135), some (.int kind), some (.int m)]) (Nat.le_of_ble_eq_true rfl) rfl trivial ?_
  generalize hres : (((some (.int (-1))), jM h P) : Option Value × jH) = res
  refine j_aload_n d_Model_link_0 rfl ?_
  refine j_iload_n d_Model_link_1 rfl ?_
  refine j_iload_n d_Model_link_2 rfl ?_
  refine j_callVs (As := [.int kind, .int m]) (st := []) (c_isLink hw) d_Model_link_3 (by decide) jm_Model_isLink jk_Model_249 ji_Model_isLink js_Model_isLink rfl (by decide) rfl rfl (Nat.le_of_ble_eq_true rfl) rfl ?_
  refine j_if_neB (tgt := 11) d_Model_link_6 (by decide) (fun c1 => ?_) (fun c1 => ?_)
  · exact absurd c1 (by rw [hb]; decide)
  · refine j_iconst (v := -1) d_Model_link_9 rfl ?_
    subst hres
    exact j_reti d_Model_link_10 rfl rfl
theorem c_link_full {n : jN} {h : jH} {P : jP} {c : Nat} {kind m : Int32} (hw : ∀ q, tw (P q)) (hb : jlk P kind m = true) (hlk : h 135 4 = nI c) (hc8 : c = 8) : jC n 3 jy_Model_link jc_Model_link 3 (some .int) [.ref 135, .int kind, .int m] (jM h P) (some (.int (-4))) (jM h P) := by
  refine jC_of jm_Model_link (L := [some (.ref 135), some (.int kind), some (.int m)]) (Nat.le_of_ble_eq_true rfl) rfl trivial ?_
  generalize hres : (((some (.int (-4))), jM h P) : Option Value × jH) = res
  refine j_aload_n d_Model_link_0 rfl ?_
  refine j_iload_n d_Model_link_1 rfl ?_
  refine j_iload_n d_Model_link_2 rfl ?_
  refine j_callVs (As := [.int kind, .int m]) (st := []) (c_isLink hw) d_Model_link_3 (by decide) jm_Model_isLink jk_Model_249 ji_Model_isLink js_Model_isLink rfl (by decide) rfl rfl (Nat.le_of_ble_eq_true rfl) rfl ?_
  refine j_if_neB_t (tgt := 11) d_Model_link_6 (by decide) hb ?_
  refine j_aload_n d_Model_link_11 rfl ?_
  refine j_getv (v := nI c) d_Model_link_12 jf_Model_252 rfl rfl hlk ?_
  refine j_bipush (v := nI 8) d_Model_link_15 (by decide) ?_
  refine j_icmp_neN_f (tgt := 23) d_Model_link_17 (by decide) (by omega) (by omega) hc8 ?_
  refine j_bipush (v := -4) d_Model_link_20 (by decide) ?_
  subst hres
  exact j_reti d_Model_link_22 rfl rfl
theorem c_link0 {n : jN} {h : jH} {P : jP} {c : Nat} {m : Int32} (hw : ∀ q, tw (P q)) (hb : jlk P (nI 0) m = true) (hlk : h 135 4 = nI c) (hc : c < 8) : jC n 3 jy_Model_link jc_Model_link 3 (some .int) [.ref 135, .int (nI 0), .int m] (jM h P) (some (.int (nI (c + 1)))) (jM (jup2 (jup2 (jup2 h 139 c (nI 0)) 140 c m) 135 4 (nI (c + 1))) P) := by
  refine jC_of jm_Model_link (L := [some (.ref 135), some (.int (nI 0)), some (.int m)]) (Nat.le_of_ble_eq_true rfl) rfl trivial ?_
  generalize hres : (((some (.int (nI (c + 1)))), jM (jup2 (jup2 (jup2 h 139 c (nI 0)) 140 c m) 135 4 (nI (c + 1))) P) : Option Value × jH) = res
  refine j_aload_n d_Model_link_0 rfl ?_
  refine j_iload_n d_Model_link_1 rfl ?_
  refine j_iload_n d_Model_link_2 rfl ?_
  refine j_callVs (As := [.int (nI 0), .int m]) (st := []) (c_isLink hw) d_Model_link_3 (by decide) jm_Model_isLink jk_Model_249 ji_Model_isLink js_Model_isLink rfl (by decide) rfl rfl (Nat.le_of_ble_eq_true rfl) rfl ?_
  refine j_if_neB_t (tgt := 11) d_Model_link_6 (by decide) hb ?_
  refine j_aload_n d_Model_link_11 rfl ?_
  refine j_getv (v := nI c) d_Model_link_12 jf_Model_252 rfl rfl hlk ?_
  refine j_bipush (v := nI 8) d_Model_link_15 (by decide) ?_
  refine j_icmp_neN_t (tgt := 23) d_Model_link_17 (by decide) (by omega) (by omega) (by omega) ?_
  refine j_aload_n d_Model_link_23 rfl ?_
  refine j_getr (b := 139) d_Model_link_24 jf_Model_19 rfl rfl rfl (by decide) ?_
  refine j_aload_n d_Model_link_27 rfl ?_
  refine j_getv (v := nI c) d_Model_link_28 jf_Model_252 rfl rfl hlk ?_
  refine j_iload_n d_Model_link_31 rfl ?_
  refine j_iastN (h' := jM (jup2 h 139 c (nI 0)) P) d_Model_link_32 rfl (by omega) (by decide) (jM_set_other (by decide) (by decide)) ?_
  refine j_aload_n d_Model_link_33 rfl ?_
  refine j_getr (b := 140) d_Model_link_34 jf_Model_22 rfl rfl rfl (by decide) ?_
  refine j_aload_n d_Model_link_37 rfl ?_
  refine j_getv (v := nI c) d_Model_link_38 jf_Model_252 rfl rfl hlk ?_
  refine j_iload_n d_Model_link_41 rfl ?_
  refine j_iastN (h' := jM (jup2 (jup2 h 139 c (nI 0)) 140 c m) P) d_Model_link_42 rfl (by omega) (by decide) (jM_set_other (by decide) (by decide)) ?_
  refine j_iload_n d_Model_link_43 rfl ?_
  refine j_iconst (v := nI 2) d_Model_link_44 rfl ?_
  refine j_icmp_eqN_f (tgt := 54) d_Model_link_45 (by decide) (by omega) (by omega) (by decide) ?_
  refine j_iload_n d_Model_link_48 rfl ?_
  refine j_bipush (v := nI 6) d_Model_link_49 (by decide) ?_
  refine j_icmp_neN_t (tgt := 66) d_Model_link_51 (by decide) (by omega) (by omega) (by decide) ?_
  refine j_aload_n d_Model_link_66 rfl ?_
  refine j_dup d_Model_link_67 rfl ?_
  refine j_getv (v := nI c) d_Model_link_68 jf_Model_252 rfl rfl hlk ?_
  refine j_iconst (v := nI 1) d_Model_link_71 rfl ?_
  refine j_iaddN d_Model_link_72 ?_
  refine j_putv (h' := jM (jup2 (jup2 (jup2 h 139 c (nI 0)) 140 c m) 135 4 (nI (c + 1))) P) d_Model_link_73 jf_Model_252 rfl rfl (jM_set_other (by decide) (by decide)) ?_
  refine j_aload_n d_Model_link_76 rfl ?_
  refine j_getv (v := nI (c + 1)) d_Model_link_77 jf_Model_252 rfl rfl rfl ?_
  subst hres
  exact j_reti d_Model_link_80 rfl rfl
theorem c_link1 {n : jN} {h : jH} {P : jP} {c : Nat} {m : Int32} (hw : ∀ q, tw (P q)) (hb : jlk P (nI 1) m = true) (hlk : h 135 4 = nI c) (hc : c < 8) : jC n 3 jy_Model_link jc_Model_link 3 (some .int) [.ref 135, .int (nI 1), .int m] (jM h P) (some (.int (nI (c + 1)))) (jM (jup2 (jup2 (jup2 h 139 c (nI 1)) 140 c m) 135 4 (nI (c + 1))) P) := by
  refine jC_of jm_Model_link (L := [some (.ref 135), some (.int (nI 1)), some (.int m)]) (Nat.le_of_ble_eq_true rfl) rfl trivial ?_
  generalize hres : (((some (.int (nI (c + 1)))), jM (jup2 (jup2 (jup2 h 139 c (nI 1)) 140 c m) 135 4 (nI (c + 1))) P) : Option Value × jH) = res
  refine j_aload_n d_Model_link_0 rfl ?_
  refine j_iload_n d_Model_link_1 rfl ?_
  refine j_iload_n d_Model_link_2 rfl ?_
  refine j_callVs (As := [.int (nI 1), .int m]) (st := []) (c_isLink hw) d_Model_link_3 (by decide) jm_Model_isLink jk_Model_249 ji_Model_isLink js_Model_isLink rfl (by decide) rfl rfl (Nat.le_of_ble_eq_true rfl) rfl ?_
  refine j_if_neB_t (tgt := 11) d_Model_link_6 (by decide) hb ?_
  refine j_aload_n d_Model_link_11 rfl ?_
  refine j_getv (v := nI c) d_Model_link_12 jf_Model_252 rfl rfl hlk ?_
  refine j_bipush (v := nI 8) d_Model_link_15 (by decide) ?_
  refine j_icmp_neN_t (tgt := 23) d_Model_link_17 (by decide) (by omega) (by omega) (by omega) ?_
  refine j_aload_n d_Model_link_23 rfl ?_
  refine j_getr (b := 139) d_Model_link_24 jf_Model_19 rfl rfl rfl (by decide) ?_
  refine j_aload_n d_Model_link_27 rfl ?_
  refine j_getv (v := nI c) d_Model_link_28 jf_Model_252 rfl rfl hlk ?_
  refine j_iload_n d_Model_link_31 rfl ?_
  refine j_iastN (h' := jM (jup2 h 139 c (nI 1)) P) d_Model_link_32 rfl (by omega) (by decide) (jM_set_other (by decide) (by decide)) ?_
  refine j_aload_n d_Model_link_33 rfl ?_
  refine j_getr (b := 140) d_Model_link_34 jf_Model_22 rfl rfl rfl (by decide) ?_
  refine j_aload_n d_Model_link_37 rfl ?_
  refine j_getv (v := nI c) d_Model_link_38 jf_Model_252 rfl rfl hlk ?_
  refine j_iload_n d_Model_link_41 rfl ?_
  refine j_iastN (h' := jM (jup2 (jup2 h 139 c (nI 1)) 140 c m) P) d_Model_link_42 rfl (by omega) (by decide) (jM_set_other (by decide) (by decide)) ?_
  refine j_iload_n d_Model_link_43 rfl ?_
  refine j_iconst (v := nI 2) d_Model_link_44 rfl ?_
  refine j_icmp_eqN_f (tgt := 54) d_Model_link_45 (by decide) (by omega) (by omega) (by decide) ?_
  refine j_iload_n d_Model_link_48 rfl ?_
  refine j_bipush (v := nI 6) d_Model_link_49 (by decide) ?_
  refine j_icmp_neN_t (tgt := 66) d_Model_link_51 (by decide) (by omega) (by omega) (by decide) ?_
  refine j_aload_n d_Model_link_66 rfl ?_
  refine j_dup d_Model_link_67 rfl ?_
  refine j_getv (v := nI c) d_Model_link_68 jf_Model_252 rfl rfl hlk ?_
  refine j_iconst (v := nI 1) d_Model_link_71 rfl ?_
  refine j_iaddN d_Model_link_72 ?_
  refine j_putv (h' := jM (jup2 (jup2 (jup2 h 139 c (nI 1)) 140 c m) 135 4 (nI (c + 1))) P) d_Model_link_73 jf_Model_252 rfl rfl (jM_set_other (by decide) (by decide)) ?_
  refine j_aload_n d_Model_link_76 rfl ?_
  refine j_getv (v := nI (c + 1)) d_Model_link_77 jf_Model_252 rfl rfl rfl ?_
  subst hres
  exact j_reti d_Model_link_80 rfl rfl
theorem c_link2 {n : jN} {h : jH} {P : jP} {c : Nat} {m : Nat} (hw : ∀ q, tw (P q)) (hb : jlk P (nI 2) (nI m) = true) (hlk : h 135 4 = nI c) (hc : c < 8) (hm : m < 6) : jC n 3 jy_Model_link jc_Model_link 3 (some .int) [.ref 135, .int (nI 2), .int (nI m)] (jM h P) (some (.int (nI (c + 1)))) (jM (jup2 (jup2 (jup2 h 139 c (nI 2)) 140 c (nI m)) 135 4 (nI (c + 1))) (jset P (26 + c) (P m))) := by
  refine jC_of jm_Model_link (L := [some (.ref 135), some (.int (nI 2)), some (.int (nI m))]) (Nat.le_of_ble_eq_true rfl) rfl trivial ?_
  generalize hres : (((some (.int (nI (c + 1)))), jM (jup2 (jup2 (jup2 h 139 c (nI 2)) 140 c (nI m)) 135 4 (nI (c + 1))) (jset P (26 + c) (P m))) : Option Value × jH) = res
  refine j_aload_n d_Model_link_0 rfl ?_
  refine j_iload_n d_Model_link_1 rfl ?_
  refine j_iload_n d_Model_link_2 rfl ?_
  refine j_callVs (As := [.int (nI 2), .int (nI m)]) (st := []) (c_isLink hw) d_Model_link_3 (by decide) jm_Model_isLink jk_Model_249 ji_Model_isLink js_Model_isLink rfl (by decide) rfl rfl (Nat.le_of_ble_eq_true rfl) rfl ?_
  refine j_if_neB_t (tgt := 11) d_Model_link_6 (by decide) hb ?_
  refine j_aload_n d_Model_link_11 rfl ?_
  refine j_getv (v := nI c) d_Model_link_12 jf_Model_252 rfl rfl hlk ?_
  refine j_bipush (v := nI 8) d_Model_link_15 (by decide) ?_
  refine j_icmp_neN_t (tgt := 23) d_Model_link_17 (by decide) (by omega) (by omega) (by omega) ?_
  refine j_aload_n d_Model_link_23 rfl ?_
  refine j_getr (b := 139) d_Model_link_24 jf_Model_19 rfl rfl rfl (by decide) ?_
  refine j_aload_n d_Model_link_27 rfl ?_
  refine j_getv (v := nI c) d_Model_link_28 jf_Model_252 rfl rfl hlk ?_
  refine j_iload_n d_Model_link_31 rfl ?_
  refine j_iastN (h' := jM (jup2 h 139 c (nI 2)) P) d_Model_link_32 rfl (by omega) (by decide) (jM_set_other (by decide) (by decide)) ?_
  refine j_aload_n d_Model_link_33 rfl ?_
  refine j_getr (b := 140) d_Model_link_34 jf_Model_22 rfl rfl rfl (by decide) ?_
  refine j_aload_n d_Model_link_37 rfl ?_
  refine j_getv (v := nI c) d_Model_link_38 jf_Model_252 rfl rfl hlk ?_
  refine j_iload_n d_Model_link_41 rfl ?_
  refine j_iastN (h' := jM (jup2 (jup2 h 139 c (nI 2)) 140 c (nI m)) P) d_Model_link_42 rfl (by omega) (by decide) (jM_set_other (by decide) (by decide)) ?_
  refine j_iload_n d_Model_link_43 rfl ?_
  refine j_iconst (v := nI 2) d_Model_link_44 rfl ?_
  refine j_icmp_eqN_t (tgt := 54) d_Model_link_45 (by decide) (by omega) (by omega) (by decide) ?_
  refine j_aload_n d_Model_link_54 rfl ?_
  refine j_iload_n d_Model_link_55 rfl ?_
  refine j_bipush (v := nI 26) d_Model_link_56 (by decide) ?_
  refine j_aload_n d_Model_link_58 rfl ?_
  refine j_getv (v := nI c) d_Model_link_59 jf_Model_252 rfl rfl hlk ?_
  refine j_iaddN d_Model_link_62 ?_
  refine j_callVn (As := [.int (nI m), .int (nI (26 + c))]) (st := []) (c_copyTo (by omega) (by omega) (by omega)) d_Model_link_63 (by decide) jm_Model_copyTo jk_Model_85 ji_Model_copyTo js_Model_copyTo rfl (by decide) rfl rfl (Nat.le_of_ble_eq_true rfl) rfl ?_
  refine j_aload_n d_Model_link_66 rfl ?_
  refine j_dup d_Model_link_67 rfl ?_
  refine j_getv (v := nI c) d_Model_link_68 jf_Model_252 rfl rfl hlk ?_
  refine j_iconst (v := nI 1) d_Model_link_71 rfl ?_
  refine j_iaddN d_Model_link_72 ?_
  refine j_putv (h' := jM (jup2 (jup2 (jup2 h 139 c (nI 2)) 140 c (nI m)) 135 4 (nI (c + 1))) (jset P (26 + c) (P m))) d_Model_link_73 jf_Model_252 rfl rfl (jM_set_other (by decide) (by decide)) ?_
  refine j_aload_n d_Model_link_76 rfl ?_
  refine j_getv (v := nI (c + 1)) d_Model_link_77 jf_Model_252 rfl rfl rfl ?_
  subst hres
  exact j_reti d_Model_link_80 rfl rfl
theorem c_link3 {n : jN} {h : jH} {P : jP} {c : Nat} {m : Int32} (hw : ∀ q, tw (P q)) (hb : jlk P (nI 3) m = true) (hlk : h 135 4 = nI c) (hc : c < 8) : jC n 3 jy_Model_link jc_Model_link 3 (some .int) [.ref 135, .int (nI 3), .int m] (jM h P) (some (.int (nI (c + 1)))) (jM (jup2 (jup2 (jup2 h 139 c (nI 3)) 140 c m) 135 4 (nI (c + 1))) P) := by
  refine jC_of jm_Model_link (L := [some (.ref 135), some (.int (nI 3)), some (.int m)]) (Nat.le_of_ble_eq_true rfl) rfl trivial ?_
  generalize hres : (((some (.int (nI (c + 1)))), jM (jup2 (jup2 (jup2 h 139 c (nI 3)) 140 c m) 135 4 (nI (c + 1))) P) : Option Value × jH) = res
  refine j_aload_n d_Model_link_0 rfl ?_
  refine j_iload_n d_Model_link_1 rfl ?_
  refine j_iload_n d_Model_link_2 rfl ?_
  refine j_callVs (As := [.int (nI 3), .int m]) (st := []) (c_isLink hw) d_Model_link_3 (by decide) jm_Model_isLink jk_Model_249 ji_Model_isLink js_Model_isLink rfl (by decide) rfl rfl (Nat.le_of_ble_eq_true rfl) rfl ?_
  refine j_if_neB_t (tgt := 11) d_Model_link_6 (by decide) hb ?_
  refine j_aload_n d_Model_link_11 rfl ?_
  refine j_getv (v := nI c) d_Model_link_12 jf_Model_252 rfl rfl hlk ?_
  refine j_bipush (v := nI 8) d_Model_link_15 (by decide) ?_
  refine j_icmp_neN_t (tgt := 23) d_Model_link_17 (by decide) (by omega) (by omega) (by omega) ?_
  refine j_aload_n d_Model_link_23 rfl ?_
  refine j_getr (b := 139) d_Model_link_24 jf_Model_19 rfl rfl rfl (by decide) ?_
  refine j_aload_n d_Model_link_27 rfl ?_
  refine j_getv (v := nI c) d_Model_link_28 jf_Model_252 rfl rfl hlk ?_
  refine j_iload_n d_Model_link_31 rfl ?_
  refine j_iastN (h' := jM (jup2 h 139 c (nI 3)) P) d_Model_link_32 rfl (by omega) (by decide) (jM_set_other (by decide) (by decide)) ?_
  refine j_aload_n d_Model_link_33 rfl ?_
  refine j_getr (b := 140) d_Model_link_34 jf_Model_22 rfl rfl rfl (by decide) ?_
  refine j_aload_n d_Model_link_37 rfl ?_
  refine j_getv (v := nI c) d_Model_link_38 jf_Model_252 rfl rfl hlk ?_
  refine j_iload_n d_Model_link_41 rfl ?_
  refine j_iastN (h' := jM (jup2 (jup2 h 139 c (nI 3)) 140 c m) P) d_Model_link_42 rfl (by omega) (by decide) (jM_set_other (by decide) (by decide)) ?_
  refine j_iload_n d_Model_link_43 rfl ?_
  refine j_iconst (v := nI 2) d_Model_link_44 rfl ?_
  refine j_icmp_eqN_f (tgt := 54) d_Model_link_45 (by decide) (by omega) (by omega) (by decide) ?_
  refine j_iload_n d_Model_link_48 rfl ?_
  refine j_bipush (v := nI 6) d_Model_link_49 (by decide) ?_
  refine j_icmp_neN_t (tgt := 66) d_Model_link_51 (by decide) (by omega) (by omega) (by decide) ?_
  refine j_aload_n d_Model_link_66 rfl ?_
  refine j_dup d_Model_link_67 rfl ?_
  refine j_getv (v := nI c) d_Model_link_68 jf_Model_252 rfl rfl hlk ?_
  refine j_iconst (v := nI 1) d_Model_link_71 rfl ?_
  refine j_iaddN d_Model_link_72 ?_
  refine j_putv (h' := jM (jup2 (jup2 (jup2 h 139 c (nI 3)) 140 c m) 135 4 (nI (c + 1))) P) d_Model_link_73 jf_Model_252 rfl rfl (jM_set_other (by decide) (by decide)) ?_
  refine j_aload_n d_Model_link_76 rfl ?_
  refine j_getv (v := nI (c + 1)) d_Model_link_77 jf_Model_252 rfl rfl rfl ?_
  subst hres
  exact j_reti d_Model_link_80 rfl rfl
theorem c_link4 {n : jN} {h : jH} {P : jP} {c : Nat} {m : Int32} (hw : ∀ q, tw (P q)) (hb : jlk P (nI 4) m = true) (hlk : h 135 4 = nI c) (hc : c < 8) : jC n 3 jy_Model_link jc_Model_link 3 (some .int) [.ref 135, .int (nI 4), .int m] (jM h P) (some (.int (nI (c + 1)))) (jM (jup2 (jup2 (jup2 h 139 c (nI 4)) 140 c m) 135 4 (nI (c + 1))) P) := by
  refine jC_of jm_Model_link (L := [some (.ref 135), some (.int (nI 4)), some (.int m)]) (Nat.le_of_ble_eq_true rfl) rfl trivial ?_
  generalize hres : (((some (.int (nI (c + 1)))), jM (jup2 (jup2 (jup2 h 139 c (nI 4)) 140 c m) 135 4 (nI (c + 1))) P) : Option Value × jH) = res
  refine j_aload_n d_Model_link_0 rfl ?_
  refine j_iload_n d_Model_link_1 rfl ?_
  refine j_iload_n d_Model_link_2 rfl ?_
  refine j_callVs (As := [.int (nI 4), .int m]) (st := []) (c_isLink hw) d_Model_link_3 (by decide) jm_Model_isLink jk_Model_249 ji_Model_isLink js_Model_isLink rfl (by decide) rfl rfl (Nat.le_of_ble_eq_true rfl) rfl ?_
  refine j_if_neB_t (tgt := 11) d_Model_link_6 (by decide) hb ?_
  refine j_aload_n d_Model_link_11 rfl ?_
  refine j_getv (v := nI c) d_Model_link_12 jf_Model_252 rfl rfl hlk ?_
  refine j_bipush (v := nI 8) d_Model_link_15 (by decide) ?_
  refine j_icmp_neN_t (tgt := 23) d_Model_link_17 (by decide) (by omega) (by omega) (by omega) ?_
  refine j_aload_n d_Model_link_23 rfl ?_
  refine j_getr (b := 139) d_Model_link_24 jf_Model_19 rfl rfl rfl (by decide) ?_
  refine j_aload_n d_Model_link_27 rfl ?_
  refine j_getv (v := nI c) d_Model_link_28 jf_Model_252 rfl rfl hlk ?_
  refine j_iload_n d_Model_link_31 rfl ?_
  refine j_iastN (h' := jM (jup2 h 139 c (nI 4)) P) d_Model_link_32 rfl (by omega) (by decide) (jM_set_other (by decide) (by decide)) ?_
  refine j_aload_n d_Model_link_33 rfl ?_
  refine j_getr (b := 140) d_Model_link_34 jf_Model_22 rfl rfl rfl (by decide) ?_
  refine j_aload_n d_Model_link_37 rfl ?_
  refine j_getv (v := nI c) d_Model_link_38 jf_Model_252 rfl rfl hlk ?_
  refine j_iload_n d_Model_link_41 rfl ?_
  refine j_iastN (h' := jM (jup2 (jup2 h 139 c (nI 4)) 140 c m) P) d_Model_link_42 rfl (by omega) (by decide) (jM_set_other (by decide) (by decide)) ?_
  refine j_iload_n d_Model_link_43 rfl ?_
  refine j_iconst (v := nI 2) d_Model_link_44 rfl ?_
  refine j_icmp_eqN_f (tgt := 54) d_Model_link_45 (by decide) (by omega) (by omega) (by decide) ?_
  refine j_iload_n d_Model_link_48 rfl ?_
  refine j_bipush (v := nI 6) d_Model_link_49 (by decide) ?_
  refine j_icmp_neN_t (tgt := 66) d_Model_link_51 (by decide) (by omega) (by omega) (by decide) ?_
  refine j_aload_n d_Model_link_66 rfl ?_
  refine j_dup d_Model_link_67 rfl ?_
  refine j_getv (v := nI c) d_Model_link_68 jf_Model_252 rfl rfl hlk ?_
  refine j_iconst (v := nI 1) d_Model_link_71 rfl ?_
  refine j_iaddN d_Model_link_72 ?_
  refine j_putv (h' := jM (jup2 (jup2 (jup2 h 139 c (nI 4)) 140 c m) 135 4 (nI (c + 1))) P) d_Model_link_73 jf_Model_252 rfl rfl (jM_set_other (by decide) (by decide)) ?_
  refine j_aload_n d_Model_link_76 rfl ?_
  refine j_getv (v := nI (c + 1)) d_Model_link_77 jf_Model_252 rfl rfl rfl ?_
  subst hres
  exact j_reti d_Model_link_80 rfl rfl
theorem c_link5 {n : jN} {h : jH} {P : jP} {c : Nat} {m : Int32} (hw : ∀ q, tw (P q)) (hb : jlk P (nI 5) m = true) (hlk : h 135 4 = nI c) (hc : c < 8) : jC n 3 jy_Model_link jc_Model_link 3 (some .int) [.ref 135, .int (nI 5), .int m] (jM h P) (some (.int (nI (c + 1)))) (jM (jup2 (jup2 (jup2 h 139 c (nI 5)) 140 c m) 135 4 (nI (c + 1))) P) := by
  refine jC_of jm_Model_link (L := [some (.ref 135), some (.int (nI 5)), some (.int m)]) (Nat.le_of_ble_eq_true rfl) rfl trivial ?_
  generalize hres : (((some (.int (nI (c + 1)))), jM (jup2 (jup2 (jup2 h 139 c (nI 5)) 140 c m) 135 4 (nI (c + 1))) P) : Option Value × jH) = res
  refine j_aload_n d_Model_link_0 rfl ?_
  refine j_iload_n d_Model_link_1 rfl ?_
  refine j_iload_n d_Model_link_2 rfl ?_
  refine j_callVs (As := [.int (nI 5), .int m]) (st := []) (c_isLink hw) d_Model_link_3 (by decide) jm_Model_isLink jk_Model_249 ji_Model_isLink js_Model_isLink rfl (by decide) rfl rfl (Nat.le_of_ble_eq_true rfl) rfl ?_
  refine j_if_neB_t (tgt := 11) d_Model_link_6 (by decide) hb ?_
  refine j_aload_n d_Model_link_11 rfl ?_
  refine j_getv (v := nI c) d_Model_link_12 jf_Model_252 rfl rfl hlk ?_
  refine j_bipush (v := nI 8) d_Model_link_15 (by decide) ?_
  refine j_icmp_neN_t (tgt := 23) d_Model_link_17 (by decide) (by omega) (by omega) (by omega) ?_
  refine j_aload_n d_Model_link_23 rfl ?_
  refine j_getr (b := 139) d_Model_link_24 jf_Model_19 rfl rfl rfl (by decide) ?_
  refine j_aload_n d_Model_link_27 rfl ?_
  refine j_getv (v := nI c) d_Model_link_28 jf_Model_252 rfl rfl hlk ?_
  refine j_iload_n d_Model_link_31 rfl ?_
  refine j_iastN (h' := jM (jup2 h 139 c (nI 5)) P) d_Model_link_32 rfl (by omega) (by decide) (jM_set_other (by decide) (by decide)) ?_
  refine j_aload_n d_Model_link_33 rfl ?_
  refine j_getr (b := 140) d_Model_link_34 jf_Model_22 rfl rfl rfl (by decide) ?_
  refine j_aload_n d_Model_link_37 rfl ?_
  refine j_getv (v := nI c) d_Model_link_38 jf_Model_252 rfl rfl hlk ?_
  refine j_iload_n d_Model_link_41 rfl ?_
  refine j_iastN (h' := jM (jup2 (jup2 h 139 c (nI 5)) 140 c m) P) d_Model_link_42 rfl (by omega) (by decide) (jM_set_other (by decide) (by decide)) ?_
  refine j_iload_n d_Model_link_43 rfl ?_
  refine j_iconst (v := nI 2) d_Model_link_44 rfl ?_
  refine j_icmp_eqN_f (tgt := 54) d_Model_link_45 (by decide) (by omega) (by omega) (by decide) ?_
  refine j_iload_n d_Model_link_48 rfl ?_
  refine j_bipush (v := nI 6) d_Model_link_49 (by decide) ?_
  refine j_icmp_neN_t (tgt := 66) d_Model_link_51 (by decide) (by omega) (by omega) (by decide) ?_
  refine j_aload_n d_Model_link_66 rfl ?_
  refine j_dup d_Model_link_67 rfl ?_
  refine j_getv (v := nI c) d_Model_link_68 jf_Model_252 rfl rfl hlk ?_
  refine j_iconst (v := nI 1) d_Model_link_71 rfl ?_
  refine j_iaddN d_Model_link_72 ?_
  refine j_putv (h' := jM (jup2 (jup2 (jup2 h 139 c (nI 5)) 140 c m) 135 4 (nI (c + 1))) P) d_Model_link_73 jf_Model_252 rfl rfl (jM_set_other (by decide) (by decide)) ?_
  refine j_aload_n d_Model_link_76 rfl ?_
  refine j_getv (v := nI (c + 1)) d_Model_link_77 jf_Model_252 rfl rfl rfl ?_
  subst hres
  exact j_reti d_Model_link_80 rfl rfl
theorem c_link6 {n : jN} {h : jH} {P : jP} {c : Nat} {m : Nat} (hw : ∀ q, tw (P q)) (hb : jlk P (nI 6) (nI m) = true) (hlk : h 135 4 = nI c) (hc : c < 8) (hm : m < 6) : jC n 3 jy_Model_link jc_Model_link 3 (some .int) [.ref 135, .int (nI 6), .int (nI m)] (jM h P) (some (.int (nI (c + 1)))) (jM (jup2 (jup2 (jup2 h 139 c (nI 6)) 140 c (nI m)) 135 4 (nI (c + 1))) (jset P (26 + c) (P m))) := by
  refine jC_of jm_Model_link (L := [some (.ref 135), some (.int (nI 6)), some (.int (nI m))]) (Nat.le_of_ble_eq_true rfl) rfl trivial ?_
  generalize hres : (((some (.int (nI (c + 1)))), jM (jup2 (jup2 (jup2 h 139 c (nI 6)) 140 c (nI m)) 135 4 (nI (c + 1))) (jset P (26 + c) (P m))) : Option Value × jH) = res
  refine j_aload_n d_Model_link_0 rfl ?_
  refine j_iload_n d_Model_link_1 rfl ?_
  refine j_iload_n d_Model_link_2 rfl ?_
  refine j_callVs (As := [.int (nI 6), .int (nI m)]) (st := []) (c_isLink hw) d_Model_link_3 (by decide) jm_Model_isLink jk_Model_249 ji_Model_isLink js_Model_isLink rfl (by decide) rfl rfl (Nat.le_of_ble_eq_true rfl) rfl ?_
  refine j_if_neB_t (tgt := 11) d_Model_link_6 (by decide) hb ?_
  refine j_aload_n d_Model_link_11 rfl ?_
  refine j_getv (v := nI c) d_Model_link_12 jf_Model_252 rfl rfl hlk ?_
  refine j_bipush (v := nI 8) d_Model_link_15 (by decide) ?_
  refine j_icmp_neN_t (tgt := 23) d_Model_link_17 (by decide) (by omega) (by omega) (by omega) ?_
  refine j_aload_n d_Model_link_23 rfl ?_
  refine j_getr (b := 139) d_Model_link_24 jf_Model_19 rfl rfl rfl (by decide) ?_
  refine j_aload_n d_Model_link_27 rfl ?_
  refine j_getv (v := nI c) d_Model_link_28 jf_Model_252 rfl rfl hlk ?_
  refine j_iload_n d_Model_link_31 rfl ?_
  refine j_iastN (h' := jM (jup2 h 139 c (nI 6)) P) d_Model_link_32 rfl (by omega) (by decide) (jM_set_other (by decide) (by decide)) ?_
  refine j_aload_n d_Model_link_33 rfl ?_
  refine j_getr (b := 140) d_Model_link_34 jf_Model_22 rfl rfl rfl (by decide) ?_
  refine j_aload_n d_Model_link_37 rfl ?_
  refine j_getv (v := nI c) d_Model_link_38 jf_Model_252 rfl rfl hlk ?_
  refine j_iload_n d_Model_link_41 rfl ?_
  refine j_iastN (h' := jM (jup2 (jup2 h 139 c (nI 6)) 140 c (nI m)) P) d_Model_link_42 rfl (by omega) (by decide) (jM_set_other (by decide) (by decide)) ?_
  refine j_iload_n d_Model_link_43 rfl ?_
  refine j_iconst (v := nI 2) d_Model_link_44 rfl ?_
  refine j_icmp_eqN_f (tgt := 54) d_Model_link_45 (by decide) (by omega) (by omega) (by decide) ?_
  refine j_iload_n d_Model_link_48 rfl ?_
  refine j_bipush (v := nI 6) d_Model_link_49 (by decide) ?_
  refine j_icmp_neN_f (tgt := 66) d_Model_link_51 (by decide) (by omega) (by omega) (by decide) ?_
  refine j_aload_n d_Model_link_54 rfl ?_
  refine j_iload_n d_Model_link_55 rfl ?_
  refine j_bipush (v := nI 26) d_Model_link_56 (by decide) ?_
  refine j_aload_n d_Model_link_58 rfl ?_
  refine j_getv (v := nI c) d_Model_link_59 jf_Model_252 rfl rfl hlk ?_
  refine j_iaddN d_Model_link_62 ?_
  refine j_callVn (As := [.int (nI m), .int (nI (26 + c))]) (st := []) (c_copyTo (by omega) (by omega) (by omega)) d_Model_link_63 (by decide) jm_Model_copyTo jk_Model_85 ji_Model_copyTo js_Model_copyTo rfl (by decide) rfl rfl (Nat.le_of_ble_eq_true rfl) rfl ?_
  refine j_aload_n d_Model_link_66 rfl ?_
  refine j_dup d_Model_link_67 rfl ?_
  refine j_getv (v := nI c) d_Model_link_68 jf_Model_252 rfl rfl hlk ?_
  refine j_iconst (v := nI 1) d_Model_link_71 rfl ?_
  refine j_iaddN d_Model_link_72 ?_
  refine j_putv (h' := jM (jup2 (jup2 (jup2 h 139 c (nI 6)) 140 c (nI m)) 135 4 (nI (c + 1))) (jset P (26 + c) (P m))) d_Model_link_73 jf_Model_252 rfl rfl (jM_set_other (by decide) (by decide)) ?_
  refine j_aload_n d_Model_link_76 rfl ?_
  refine j_getv (v := nI (c + 1)) d_Model_link_77 jf_Model_252 rfl rfl rfl ?_
  subst hres
  exact j_reti d_Model_link_80 rfl rfl

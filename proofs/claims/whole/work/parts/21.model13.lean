def jW (h : jH) (f g w : Nat → Int32) (m : Nat) : jH := fun a => if a = 143 then f else if a = 144 then g else if a = 145 then w else if a = 135 then fun z => if z = 13 then nI m else h 135 z else h a
theorem jW_cg {h : jH} {f f' g g' w w' : Nat → Int32} {m m' : Nat} {P : jP} (h1 : ∀ z, f z = f' z) (h2 : ∀ z, g z = g' z) (h3 : ∀ z, w z = w' z) (h4 : m = m') : jM (jW h f g w m) P = jM (jW h f' g' w' m') P := by
  rw [show f = f' from funext h1, show g = g' from funext h2, show w = w' from funext h3, h4]
theorem jW_m {h : jH} {f g w : Nat → Int32} {m v : Nat} {P : jP} : jup2 (jM (jW h f g w m) P) 135 13 (nI v) = jM (jW h f g w v) P := by
  rw [jM_set_other (by decide) (by decide)]
  congr 1
  funext a z
  simp only [jup2, jW]
  by_cases e : a = 135
  · subst e
    by_cases e2 : z = 13 <;> simp [e2]
  · simp [e]
theorem jW_f {h : jH} {f g w : Nat → Int32} {m i : Nat} {v : Int32} {P : jP} : jup2 (jM (jW h f g w m) P) 143 i v = jM (jW h (jfu f i v) g w m) P := by
  rw [jM_set_other (by decide) (by decide)]
  congr 1
  funext a z
  simp only [jup2, jW, jfu]
  by_cases e : a = 143
  · subst e
    by_cases e2 : z = i <;> simp [e2, jfu]
  · simp [e]
theorem jW_g {h : jH} {f g w : Nat → Int32} {m i : Nat} {v : Int32} {P : jP} : jup2 (jM (jW h f g w m) P) 144 i v = jM (jW h f (jfu g i v) w m) P := by
  rw [jM_set_other (by decide) (by decide)]
  congr 1
  funext a z
  simp only [jup2, jW, jfu]
  by_cases e : a = 144
  · subst e
    by_cases e2 : z = i <;> simp [e2, jfu]
  · simp [e]
theorem jW_w {h : jH} {f g w : Nat → Int32} {m i : Nat} {v : Int32} {P : jP} : jup2 (jM (jW h f g w m) P) 145 i v = jM (jW h f g (jfu w i v) m) P := by
  rw [jM_set_other (by decide) (by decide)]
  congr 1
  funext a z
  simp only [jup2, jW, jfu]
  by_cases e : a = 145
  · subst e
    by_cases e2 : z = i <;> simp [e2, jfu]
  · simp [e]
theorem jW_0 {h : jH} {P : jP} {m : Nat} (hm : h 135 13 = nI m) : jM h P = jM (jW h (h 143) (h 144) (h 145) m) P := by
  congr 1
  funext a z
  simp only [jW]
  repeat' split
  · subst_vars; rfl
  · subst_vars; rfl
  · subst_vars; rfl
  · subst_vars
    dsimp only
    split
    · subst_vars
      exact hm
    · rfl
  · rfl
def wk (T : jT) : Nat → Nat → Nat
  | 0, i => 2 ^ i
  | m + 1, i => jor T.1 (fun k => if (T.2 i).testBit k then wk T m k else 0)
def rc (T : jT) : Nat → Nat → Nat
  | 0, i => 2 ^ i
  | m + 1, i => rc T m i ||| wk T (m + 1) i
theorem wk_lt {T : jT} (hT : tw T) : ∀ (m i : Nat), i < 12 → wk T m i < 4096
  | 0, i, hi => p2_lt hi
  | m + 1, i, hi => jor_lt (m := 12) fun k hk => by
    split
    · exact wk_lt hT m k (Nat.lt_of_lt_of_le hk hT.1)
    · omega
theorem rc_lt {T : jT} (hT : tw T) : ∀ (m i : Nat), i < 12 → rc T m i < 4096
  | 0, i, hi => p2_lt hi
  | m + 1, i, hi => Nat.or_lt_two_pow (n := 12) (rc_lt hT m i hi) (wk_lt hT _ i hi)
/-- the last k below the bound that a test holds of -/
def lst (q : Nat → Bool) : Nat → Option Nat
  | 0 => none
  | k + 1 => if q k then some k else lst q k
def mtl (r : Nat → Nat) (i k : Nat) : Bool := (r i).testBit k && (r k).testBit i
def clF (r : Nat → Nat) : Nat → (Nat → Nat) × Nat
  | 0 => (fun _ => 0, 0)
  | i + 1 => match lst (mtl r i) i with
    | none => (jfu (clF r i).1 i (clF r i).2, (clF r i).2 + 1)
    | some k => (jfu (clF r i).1 i ((clF r i).1 k), (clF r i).2)
def cli (c : Nat → Nat) (o : Option Nat) : Int32 := match o with
  | none => -1
  | some k => nI (c k)
theorem lst_lt {q : Nat → Bool} {j : Nat} : ∀ {k : Nat}, lst q k = some j → j < k
  | 0, h => by simp [lst] at h
  | k + 1, h => by
    unfold lst at h
    split at h
    · cases h; omega
    · have := lst_lt h; omega
theorem clF_le (r : Nat → Nat) : ∀ i, (clF r i).2 ≤ i
  | 0 => Nat.le_refl _
  | i + 1 => by
    have := clF_le r i
    unfold clF
    split
    · exact Nat.succ_le_succ this
    · exact Nat.le_succ_of_le this
theorem clF_lt (r : Nat → Nat) : ∀ i j, j < i → (clF r i).1 j < (clF r i).2
  | 0, j, h => by omega
  | i + 1, j, h => by
    have ih := clF_lt r i
    unfold clF
    split
    · simp only [jfu]
      split
      · omega
      · have := ih j (by omega)
        omega
    · rename_i k hk
      have hk2 := lst_lt hk
      simp only [jfu]
      split
      · exact ih k hk2
      · exact ih j (by omega)
theorem c_layWalks {n : jN} {h : jH} {P : jP} {a my : Nat} (hw : ∀ q, tw (P q)) (ha : a < 6) (hmy : h 135 13 = nI my) : jC n 1 jy_Model_layWalks jc_Model_layWalks 7 none [.ref 135, .int (nI a)] (jM h P) none (jM (jW h (fun z => if z < (P a).1 then nI ((clF (rc (P a) (P a).1) (P a).1).1 z) else h 143 z) (fun z => if z < (P a).1 then nI (rc (P a) (P a).1 z) else h 144 z) (fun z => if z % 12 < (P a).1 ∧ z / 12 < (P a).1 + 1 then nI (wk (P a) (z / 12) (z % 12)) else h 145 z) ((clF (rc (P a) (P a).1) (P a).1).2)) P) := by
  refine jC_of jm_Model_layWalks (L := [some (.ref 135), some (.int (nI a)), none, none, none, none, none]) (Nat.le_of_ble_eq_true rfl) rfl trivial ?_
  generalize hres : ((none, jM (jW h (fun z => if z < (P a).1 then nI ((clF (rc (P a) (P a).1) (P a).1).1 z) else h 143 z) (fun z => if z < (P a).1 then nI (rc (P a) (P a).1 z) else h 144 z) (fun z => if z % 12 < (P a).1 ∧ z / 12 < (P a).1 + 1 then nI (wk (P a) (z / 12) (z % 12)) else h 145 z) ((clF (rc (P a) (P a).1) (P a).1).2)) P) : Option Value × jH) = res
  have hTw := hw a
  have hna := (hw a).1
  refine j_heap (h' := jM (jW h (h 143) (h 144) (h 145) my) P) (jW_0 hmy) ?_
  refine j_aload_n d_Model_layWalks_0 rfl ?_
  refine j_getr (b := 137) d_Model_layWalks_1 jf_Model_13 rfl rfl rfl (by decide) ?_
  refine j_iload_n d_Model_layWalks_4 rfl ?_
  refine j_ialdN (v := nI ((P a).1)) d_Model_layWalks_5 rfl (by omega) (by decide) rfl ?_
  refine j_istore_n (L' := [some (.ref 135), some (.int (nI a)), some (.int (nI ((P a).1))), none, none, none, none]) d_Model_layWalks_6 (by decide) rfl rfl ?_
  refine j_iconst (v := nI 0) d_Model_layWalks_7 rfl ?_
  refine j_istore_n (L' := [some (.ref 135), some (.int (nI a)), some (.int (nI ((P a).1))), some (.int (nI 0)), none, none, none]) d_Model_layWalks_8 (by decide) rfl rfl ?_
  refine j_heap (h' := jM (jW h (h 143) (fun z => if z < 0 then nI (2 ^ z) else h 144 z) (fun z => if z < 0 then nI (2 ^ z) else h 145 z) my) P) (jW_cg (fun _ => rfl) (fun z => by rw [if_neg (by omega)]) (fun z => by rw [if_neg (by omega)]) rfl) ?_
  refine j_loop (P := fun k => jJ n 1 jc_Model_layWalks 7 "YesNoPowersModel" 9 [some (.ref 135), some (.int (nI a)), some (.int (nI ((P a).1))), some (.int (nI k)), none, none, none] [] (jM (jW h (h 143) (fun z => if z < k then nI (2 ^ z) else h 144 z) (fun z => if z < k then nI (2 ^ z) else h 145 z) my) P) res) (m := (P a).1) ?_ (fun k hk ih => ?_)
  · refine j_iload_n d_Model_layWalks_9 rfl ?_
    refine j_iload_n d_Model_layWalks_10 rfl ?_
    refine j_icmp_geN_t (tgt := 38) d_Model_layWalks_11 (by decide) (by omega) (by omega) (by omega) ?_
    refine j_iconst (v := nI 1) d_Model_layWalks_38 rfl ?_
    refine j_istore_n (L' := [some (.ref 135), some (.int (nI a)), some (.int (nI ((P a).1))), some (.int (nI 1)), none, none, none]) d_Model_layWalks_39 (by decide) rfl rfl ?_
    refine j_heap (h' := jM (jW h (h 143) (fun z => if z < (P a).1 then nI (rc (P a) 0 z) else h 144 z) (fun z => if z % 12 < (P a).1 ∧ z / 12 < 0 + 1 then nI (wk (P a) (z / 12) (z % 12)) else h 145 z) my) P) (jW_cg (fun _ => rfl) (fun z => rfl) (fun z => by by_cases e : z < (P a).1; (rw [if_pos e, if_pos (by omega), show z / 12 = 0 by omega, show z % 12 = z by omega]; rfl); (rw [if_neg e, if_neg (by omega)])) rfl) ?_
    refine j_loop (P := fun m => jJ n 1 jc_Model_layWalks 7 "YesNoPowersModel" 40 [some (.ref 135), some (.int (nI a)), some (.int (nI ((P a).1))), some (.int (nI (m + 1))), none, none, none] [] (jM (jW h (h 143) (fun z => if z < (P a).1 then nI (rc (P a) m z) else h 144 z) (fun z => if z % 12 < (P a).1 ∧ z / 12 < m + 1 then nI (wk (P a) (z / 12) (z % 12)) else h 145 z) my) P) res) (m := (P a).1) ?_ (fun m hm ihm => ?_)
    · refine j_iload_n d_Model_layWalks_40 rfl ?_
      refine j_iload_n d_Model_layWalks_41 rfl ?_
      refine j_icmp_gtN_t (tgt := 145) d_Model_layWalks_42 (by decide) (by omega) (by omega) (by omega) ?_
      refine j_aload_n d_Model_layWalks_145 rfl ?_
      refine j_iconst (v := nI 0) d_Model_layWalks_146 rfl ?_
      refine j_putv (h' := jM (jW h (h 143) (fun z => if z < (P a).1 then nI (rc (P a) (P a).1 z) else h 144 z) (fun z => if z % 12 < (P a).1 ∧ z / 12 < (P a).1 + 1 then nI (wk (P a) (z / 12) (z % 12)) else h 145 z) 0) P) d_Model_layWalks_147 jf_Model_183 rfl rfl jW_m ?_
      refine j_iconst (v := nI 0) d_Model_layWalks_150 rfl ?_
      refine j_istore_n (L' := [some (.ref 135), some (.int (nI a)), some (.int (nI ((P a).1))), some (.int (nI 0)), none, none, none]) d_Model_layWalks_151 (by decide) rfl rfl ?_
      refine j_heap (h' := jM (jW h (fun z => if z < 0 then nI ((clF (rc (P a) (P a).1) 0).1 z) else h 143 z) (fun z => if z < (P a).1 then nI (rc (P a) (P a).1 z) else h 144 z) (fun z => if z % 12 < (P a).1 ∧ z / 12 < (P a).1 + 1 then nI (wk (P a) (z / 12) (z % 12)) else h 145 z) ((clF (rc (P a) (P a).1) 0).2)) P) (jW_cg (fun z => by rw [if_neg (by omega)]) (fun z => rfl) (fun z => rfl) rfl) ?_
      refine j_loop (P := fun i => jJ n 1 jc_Model_layWalks 7 "YesNoPowersModel" 152 [some (.ref 135), some (.int (nI a)), some (.int (nI ((P a).1))), some (.int (nI i)), none, none, none] [] (jM (jW h (fun z => if z < i then nI ((clF (rc (P a) (P a).1) i).1 z) else h 143 z) (fun z => if z < (P a).1 then nI (rc (P a) (P a).1 z) else h 144 z) (fun z => if z % 12 < (P a).1 ∧ z / 12 < (P a).1 + 1 then nI (wk (P a) (z / 12) (z % 12)) else h 145 z) ((clF (rc (P a) (P a).1) i).2)) P) res) (m := (P a).1) ?_ (fun i hi ihi => ?_)
      · refine j_iload_n d_Model_layWalks_152 rfl ?_
        refine j_iload_n d_Model_layWalks_153 rfl ?_
        refine j_icmp_geN_t (tgt := 266) d_Model_layWalks_154 (by decide) (by omega) (by omega) (by omega) ?_
        subst hres
        exact j_retv d_Model_layWalks_266 rfl
      · refine j_iload_n d_Model_layWalks_152 rfl ?_
        refine j_iload_n d_Model_layWalks_153 rfl ?_
        refine j_icmp_geN_f (tgt := 266) d_Model_layWalks_154 (by decide) (by omega) (by omega) (by omega) ?_
        refine j_aload_n d_Model_layWalks_157 rfl ?_
        refine j_getr (b := 143) d_Model_layWalks_158 jf_Model_31 rfl rfl rfl (by decide) ?_
        refine j_iload_n d_Model_layWalks_161 rfl ?_
        refine j_iconst (v := -1) d_Model_layWalks_162 rfl ?_
        refine j_iastN (h' := jM (jW h (jfu (fun z => if z < i then nI ((clF (rc (P a) (P a).1) i).1 z) else h 143 z) i (-1)) (fun z => if z < (P a).1 then nI (rc (P a) (P a).1 z) else h 144 z) (fun z => if z % 12 < (P a).1 ∧ z / 12 < (P a).1 + 1 then nI (wk (P a) (z / 12) (z % 12)) else h 145 z) ((clF (rc (P a) (P a).1) i).2)) P) d_Model_layWalks_163 rfl (by omega) (by decide) jW_f ?_
        refine j_iconst (v := nI 0) d_Model_layWalks_164 rfl ?_
        refine j_istore (L' := [some (.ref 135), some (.int (nI a)), some (.int (nI ((P a).1))), some (.int (nI i)), some (.int (nI 0)), none, none]) d_Model_layWalks_165 (by decide) rfl rfl ?_
        refine j_heap (h' := jM (jW h (fun z => if z < i then nI ((clF (rc (P a) (P a).1) i).1 z) else if z = i then cli (clF (rc (P a) (P a).1) i).1 (lst (mtl (rc (P a) (P a).1) i) 0) else h 143 z) (fun z => if z < (P a).1 then nI (rc (P a) (P a).1 z) else h 144 z) (fun z => if z % 12 < (P a).1 ∧ z / 12 < (P a).1 + 1 then nI (wk (P a) (z / 12) (z % 12)) else h 145 z) ((clF (rc (P a) (P a).1) i).2)) P) (jW_cg (fun z => by simp only [jfu]; by_cases e : z = i; (subst e; rw [if_pos rfl, if_neg (by omega), if_pos rfl]; rfl); (simp only [e, if_false])) (fun z => rfl) (fun z => rfl) rfl) ?_
        refine j_loop (P := fun k => jJ n 1 jc_Model_layWalks 7 "YesNoPowersModel" 167 [some (.ref 135), some (.int (nI a)), some (.int (nI ((P a).1))), some (.int (nI i)), some (.int (nI k)), none, none] [] (jM (jW h (fun z => if z < i then nI ((clF (rc (P a) (P a).1) i).1 z) else if z = i then cli (clF (rc (P a) (P a).1) i).1 (lst (mtl (rc (P a) (P a).1) i) k) else h 143 z) (fun z => if z < (P a).1 then nI (rc (P a) (P a).1 z) else h 144 z) (fun z => if z % 12 < (P a).1 ∧ z / 12 < (P a).1 + 1 then nI (wk (P a) (z / 12) (z % 12)) else h 145 z) ((clF (rc (P a) (P a).1) i).2)) P) res) (m := i) ?_ (fun k hk ihk => ?_)
        · refine j_iload d_Model_layWalks_167 rfl ?_
          refine j_iload_n d_Model_layWalks_169 rfl ?_
          refine j_icmp_geN_t (tgt := 231) d_Model_layWalks_170 (by decide) (by omega) (by omega) (by omega) ?_
          have hcl : clF (rc (P a) (P a).1) (i + 1) = match lst (mtl (rc (P a) (P a).1) i) i with | none => (jfu (clF (rc (P a) (P a).1) i).1 i (clF (rc (P a) (P a).1) i).2, (clF (rc (P a) (P a).1) i).2 + 1) | some k => (jfu (clF (rc (P a) (P a).1) i).1 i ((clF (rc (P a) (P a).1) i).1 k), (clF (rc (P a) (P a).1) i).2) := rfl
          refine j_aload_n d_Model_layWalks_231 rfl ?_
          refine j_getr (b := 143) d_Model_layWalks_232 jf_Model_31 rfl rfl rfl (by decide) ?_
          refine j_iload_n d_Model_layWalks_235 rfl ?_
          refine j_ialdN (v := cli (clF (rc (P a) (P a).1) i).1 (lst (mtl (rc (P a) (P a).1) i) i)) d_Model_layWalks_236 rfl (by omega) (by decide) (by show (if _ then _ else _) = _; rw [if_neg (by omega), if_pos rfl]) ?_
          refine j_if_ge (tgt := 260) d_Model_layWalks_237 (by decide) (fun c => ?_) (fun c => ?_)
          · obtain ⟨j, hj⟩ : ∃ j, lst (mtl (rc (P a) (P a).1) i) i = some j := by cases hq : lst (mtl (rc (P a) (P a).1) i) i with | none => rw [hq] at c; exact absurd c (show ¬ (0 : Int32) ≤ -1 by decide) | some j => exact ⟨j, rfl⟩
            rw [hj] at hcl
            have hjl := lst_lt hj
            refine j_iincN (x := i) (L' := [some (.ref 135), some (.int (nI a)), some (.int (nI ((P a).1))), some (.int (nI (i + 1))), some (.int (nI i)), none, none]) d_Model_layWalks_260 rfl (by decide) rfl rfl ?_
            refine j_goto (tgt := 152) d_Model_layWalks_263 (by decide) ?_
            refine j_heap (h' := jM (jW h (fun z => if z < (i + 1) then nI ((clF (rc (P a) (P a).1) (i + 1)).1 z) else h 143 z) (fun z => if z < (P a).1 then nI (rc (P a) (P a).1 z) else h 144 z) (fun z => if z % 12 < (P a).1 ∧ z / 12 < (P a).1 + 1 then nI (wk (P a) (z / 12) (z % 12)) else h 145 z) ((clF (rc (P a) (P a).1) (i + 1)).2)) P) (jW_cg (fun z => by rw [hcl, hj]; simp only [jfu, cli]; by_cases e : z = i; (subst e; rw [if_neg (by omega), if_pos rfl, if_pos (by omega)]; simp); (by_cases e2 : z < i; (rw [if_pos e2, if_pos (by omega), if_neg e]); (rw [if_neg e2, if_neg e, if_neg (by omega)]))) (fun z => rfl) (fun z => rfl) (by rw [hcl])) ?_
            exact j_forget (i := 4) rfl ihi
          · have hj : lst (mtl (rc (P a) (P a).1) i) i = none := by cases hq : lst (mtl (rc (P a) (P a).1) i) i with | none => rfl | some j => (have hjl := lst_lt hq; have := clF_lt (rc (P a) (P a).1) i j hjl; have := clF_le (rc (P a) (P a).1) i; rw [hq] at c; exact absurd (nI_pos' (by omega)) c)
            rw [hj] at hcl
            refine j_aload_n d_Model_layWalks_240 rfl ?_
            refine j_getr (b := 143) d_Model_layWalks_241 jf_Model_31 rfl rfl rfl (by decide) ?_
            refine j_iload_n d_Model_layWalks_244 rfl ?_
            refine j_aload_n d_Model_layWalks_245 rfl ?_
            refine j_getv (v := nI ((clF (rc (P a) (P a).1) i).2)) d_Model_layWalks_246 jf_Model_183 rfl rfl rfl ?_
            refine j_iastN (h' := jM (jW h (jfu (fun z => if z < i then nI ((clF (rc (P a) (P a).1) i).1 z) else if z = i then cli (clF (rc (P a) (P a).1) i).1 (lst (mtl (rc (P a) (P a).1) i) i) else h 143 z) i (nI ((clF (rc (P a) (P a).1) i).2))) (fun z => if z < (P a).1 then nI (rc (P a) (P a).1 z) else h 144 z) (fun z => if z % 12 < (P a).1 ∧ z / 12 < (P a).1 + 1 then nI (wk (P a) (z / 12) (z % 12)) else h 145 z) ((clF (rc (P a) (P a).1) i).2)) P) d_Model_layWalks_249 rfl (by omega) (by decide) jW_f ?_
            refine j_aload_n d_Model_layWalks_250 rfl ?_
            refine j_dup d_Model_layWalks_251 rfl ?_
            refine j_getv (v := nI ((clF (rc (P a) (P a).1) i).2)) d_Model_layWalks_252 jf_Model_183 rfl rfl rfl ?_
            refine j_iconst (v := nI 1) d_Model_layWalks_255 rfl ?_
            refine j_iaddN d_Model_layWalks_256 ?_
            refine j_putv (h' := jM (jW h (jfu (fun z => if z < i then nI ((clF (rc (P a) (P a).1) i).1 z) else if z = i then cli (clF (rc (P a) (P a).1) i).1 (lst (mtl (rc (P a) (P a).1) i) i) else h 143 z) i (nI ((clF (rc (P a) (P a).1) i).2))) (fun z => if z < (P a).1 then nI (rc (P a) (P a).1 z) else h 144 z) (fun z => if z % 12 < (P a).1 ∧ z / 12 < (P a).1 + 1 then nI (wk (P a) (z / 12) (z % 12)) else h 145 z) (((clF (rc (P a) (P a).1) i).2) + 1)) P) d_Model_layWalks_257 jf_Model_183 rfl rfl jW_m ?_
            refine j_iincN (x := i) (L' := [some (.ref 135), some (.int (nI a)), some (.int (nI ((P a).1))), some (.int (nI (i + 1))), some (.int (nI i)), none, none]) d_Model_layWalks_260 rfl (by decide) rfl rfl ?_
            refine j_goto (tgt := 152) d_Model_layWalks_263 (by decide) ?_
            refine j_heap (h' := jM (jW h (fun z => if z < (i + 1) then nI ((clF (rc (P a) (P a).1) (i + 1)).1 z) else h 143 z) (fun z => if z < (P a).1 then nI (rc (P a) (P a).1 z) else h 144 z) (fun z => if z % 12 < (P a).1 ∧ z / 12 < (P a).1 + 1 then nI (wk (P a) (z / 12) (z % 12)) else h 145 z) ((clF (rc (P a) (P a).1) (i + 1)).2)) P) (jW_cg (fun z => by rw [hcl, hj]; simp only [jfu, cli]; by_cases e : z = i; (subst e; rw [if_pos rfl, if_pos (by omega)]; simp); (rw [if_neg e]; by_cases e2 : z < i; (rw [if_pos e2, if_pos (by omega), if_neg e]); (rw [if_neg e2, if_neg e, if_neg (by omega)]))) (fun z => rfl) (fun z => rfl) (by rw [hcl])) ?_
            exact j_forget (i := 4) rfl ihi
        · have hki : k < (P a).1 := by omega
          have hb1 := rc_lt hTw (P a).1 i (by omega)
          have hb2 := rc_lt hTw (P a).1 k (by omega)
          refine j_iload d_Model_layWalks_167 rfl ?_
          refine j_iload_n d_Model_layWalks_169 rfl ?_
          refine j_icmp_geN_f (tgt := 231) d_Model_layWalks_170 (by decide) (by omega) (by omega) (by omega) ?_
          refine j_aload_n d_Model_layWalks_173 rfl ?_
          refine j_getr (b := 143) d_Model_layWalks_174 jf_Model_31 rfl rfl rfl (by decide) ?_
          refine j_iload_n d_Model_layWalks_177 rfl ?_
          refine j_aload_n d_Model_layWalks_178 rfl ?_
          refine j_getr (b := 144) d_Model_layWalks_179 jf_Model_34 rfl rfl rfl (by decide) ?_
          refine j_iload_n d_Model_layWalks_182 rfl ?_
          refine j_ialdN (v := nI (rc (P a) (P a).1 i)) d_Model_layWalks_183 rfl (by omega) (by decide) (if_pos hi) ?_
          refine j_iload d_Model_layWalks_184 rfl ?_
          refine j_ishrN d_Model_layWalks_186 (by omega) (by omega) ?_
          refine j_iconst (v := nI 1) d_Model_layWalks_187 rfl ?_
          refine j_iandN d_Model_layWalks_188 ?_
          refine j_top (w := jbo ((rc (P a) (P a).1 i).testBit k)) (ni_bit _ _) ?_
          refine j_iconst (v := nI 1) d_Model_layWalks_189 rfl ?_
          refine j_icmp_neB (tgt := 218) d_Model_layWalks_190 (by decide) (fun c1 => ?_) (fun c1 => ?_)
          · refine j_aload_n d_Model_layWalks_218 rfl ?_
            refine j_getr (b := 143) d_Model_layWalks_219 jf_Model_31 rfl rfl rfl (by decide) ?_
            refine j_iload_n d_Model_layWalks_222 rfl ?_
            refine j_ialdN (v := cli (clF (rc (P a) (P a).1) i).1 (lst (mtl (rc (P a) (P a).1) i) k)) d_Model_layWalks_223 rfl (by omega) (by decide) (by show (if _ then _ else _) = _; rw [if_neg (by omega), if_pos rfl]) ?_
            refine j_top (w := cli (clF (rc (P a) (P a).1) i).1 (lst (mtl (rc (P a) (P a).1) i) (k + 1))) (by simp [lst, mtl, cli, c1]) ?_
            refine j_iastN (h' := jM (jW h (jfu (fun z => if z < i then nI ((clF (rc (P a) (P a).1) i).1 z) else if z = i then cli (clF (rc (P a) (P a).1) i).1 (lst (mtl (rc (P a) (P a).1) i) k) else h 143 z) i (cli (clF (rc (P a) (P a).1) i).1 (lst (mtl (rc (P a) (P a).1) i) (k + 1)))) (fun z => if z < (P a).1 then nI (rc (P a) (P a).1 z) else h 144 z) (fun z => if z % 12 < (P a).1 ∧ z / 12 < (P a).1 + 1 then nI (wk (P a) (z / 12) (z % 12)) else h 145 z) ((clF (rc (P a) (P a).1) i).2)) P) d_Model_layWalks_224 rfl (by omega) (by decide) jW_f ?_
            refine j_heap (h' := jM (jW h (fun z => if z < i then nI ((clF (rc (P a) (P a).1) i).1 z) else if z = i then cli (clF (rc (P a) (P a).1) i).1 (lst (mtl (rc (P a) (P a).1) i) (k + 1)) else h 143 z) (fun z => if z < (P a).1 then nI (rc (P a) (P a).1 z) else h 144 z) (fun z => if z % 12 < (P a).1 ∧ z / 12 < (P a).1 + 1 then nI (wk (P a) (z / 12) (z % 12)) else h 145 z) ((clF (rc (P a) (P a).1) i).2)) P) (jW_cg (fun z => by simp only [jfu]; by_cases e : z = i; (subst e; rw [if_pos rfl, if_neg (by omega), if_pos rfl]); (simp only [e, if_false])) (fun z => rfl) (fun z => rfl) rfl) ?_
            refine j_iincN (x := k) (L' := [some (.ref 135), some (.int (nI a)), some (.int (nI ((P a).1))), some (.int (nI i)), some (.int (nI (k + 1))), none, none]) d_Model_layWalks_225 rfl (by decide) rfl rfl ?_
            refine j_goto (tgt := 167) d_Model_layWalks_228 (by decide) ?_
            exact ihk
          · refine j_aload_n d_Model_layWalks_193 rfl ?_
            refine j_getr (b := 144) d_Model_layWalks_194 jf_Model_34 rfl rfl rfl (by decide) ?_
            refine j_iload d_Model_layWalks_197 rfl ?_
            refine j_ialdN (v := nI (rc (P a) (P a).1 k)) d_Model_layWalks_199 rfl (by omega) (by decide) (if_pos hki) ?_
            refine j_iload_n d_Model_layWalks_200 rfl ?_
            refine j_ishrN d_Model_layWalks_201 (by omega) (by omega) ?_
            refine j_iconst (v := nI 1) d_Model_layWalks_202 rfl ?_
            refine j_iandN d_Model_layWalks_203 ?_
            refine j_top (w := jbo ((rc (P a) (P a).1 k).testBit i)) (ni_bit _ _) ?_
            refine j_iconst (v := nI 1) d_Model_layWalks_204 rfl ?_
            refine j_icmp_neB (tgt := 218) d_Model_layWalks_205 (by decide) (fun c2 => ?_) (fun c2 => ?_)
            · refine j_aload_n d_Model_layWalks_218 rfl ?_
              refine j_getr (b := 143) d_Model_layWalks_219 jf_Model_31 rfl rfl rfl (by decide) ?_
              refine j_iload_n d_Model_layWalks_222 rfl ?_
              refine j_ialdN (v := cli (clF (rc (P a) (P a).1) i).1 (lst (mtl (rc (P a) (P a).1) i) k)) d_Model_layWalks_223 rfl (by omega) (by decide) (by show (if _ then _ else _) = _; rw [if_neg (by omega), if_pos rfl]) ?_
              refine j_top (w := cli (clF (rc (P a) (P a).1) i).1 (lst (mtl (rc (P a) (P a).1) i) (k + 1))) (by simp [lst, mtl, cli, c1, c2]) ?_
              refine j_iastN (h' := jM (jW h (jfu (fun z => if z < i then nI ((clF (rc (P a) (P a).1) i).1 z) else if z = i then cli (clF (rc (P a) (P a).1) i).1 (lst (mtl (rc (P a) (P a).1) i) k) else h 143 z) i (cli (clF (rc (P a) (P a).1) i).1 (lst (mtl (rc (P a) (P a).1) i) (k + 1)))) (fun z => if z < (P a).1 then nI (rc (P a) (P a).1 z) else h 144 z) (fun z => if z % 12 < (P a).1 ∧ z / 12 < (P a).1 + 1 then nI (wk (P a) (z / 12) (z % 12)) else h 145 z) ((clF (rc (P a) (P a).1) i).2)) P) d_Model_layWalks_224 rfl (by omega) (by decide) jW_f ?_
              refine j_heap (h' := jM (jW h (fun z => if z < i then nI ((clF (rc (P a) (P a).1) i).1 z) else if z = i then cli (clF (rc (P a) (P a).1) i).1 (lst (mtl (rc (P a) (P a).1) i) (k + 1)) else h 143 z) (fun z => if z < (P a).1 then nI (rc (P a) (P a).1 z) else h 144 z) (fun z => if z % 12 < (P a).1 ∧ z / 12 < (P a).1 + 1 then nI (wk (P a) (z / 12) (z % 12)) else h 145 z) ((clF (rc (P a) (P a).1) i).2)) P) (jW_cg (fun z => by simp only [jfu]; by_cases e : z = i; (subst e; rw [if_pos rfl, if_neg (by omega), if_pos rfl]); (simp only [e, if_false])) (fun z => rfl) (fun z => rfl) rfl) ?_
              refine j_iincN (x := k) (L' := [some (.ref 135), some (.int (nI a)), some (.int (nI ((P a).1))), some (.int (nI i)), some (.int (nI (k + 1))), none, none]) d_Model_layWalks_225 rfl (by decide) rfl rfl ?_
              refine j_goto (tgt := 167) d_Model_layWalks_228 (by decide) ?_
              exact ihk
            · refine j_aload_n d_Model_layWalks_208 rfl ?_
              refine j_getr (b := 143) d_Model_layWalks_209 jf_Model_31 rfl rfl rfl (by decide) ?_
              refine j_iload d_Model_layWalks_212 rfl ?_
              refine j_ialdN (v := nI ((clF (rc (P a) (P a).1) i).1 k)) d_Model_layWalks_214 rfl (by omega) (by decide) (by show (if _ then _ else _) = _; rw [if_pos hk]) ?_
              refine j_goto (tgt := 224) d_Model_layWalks_215 (by decide) ?_
              refine j_top (w := cli (clF (rc (P a) (P a).1) i).1 (lst (mtl (rc (P a) (P a).1) i) (k + 1))) (by simp [lst, mtl, cli, c1, c2]) ?_
              refine j_iastN (h' := jM (jW h (jfu (fun z => if z < i then nI ((clF (rc (P a) (P a).1) i).1 z) else if z = i then cli (clF (rc (P a) (P a).1) i).1 (lst (mtl (rc (P a) (P a).1) i) k) else h 143 z) i (cli (clF (rc (P a) (P a).1) i).1 (lst (mtl (rc (P a) (P a).1) i) (k + 1)))) (fun z => if z < (P a).1 then nI (rc (P a) (P a).1 z) else h 144 z) (fun z => if z % 12 < (P a).1 ∧ z / 12 < (P a).1 + 1 then nI (wk (P a) (z / 12) (z % 12)) else h 145 z) ((clF (rc (P a) (P a).1) i).2)) P) d_Model_layWalks_224 rfl (by omega) (by decide) jW_f ?_
              refine j_heap (h' := jM (jW h (fun z => if z < i then nI ((clF (rc (P a) (P a).1) i).1 z) else if z = i then cli (clF (rc (P a) (P a).1) i).1 (lst (mtl (rc (P a) (P a).1) i) (k + 1)) else h 143 z) (fun z => if z < (P a).1 then nI (rc (P a) (P a).1 z) else h 144 z) (fun z => if z % 12 < (P a).1 ∧ z / 12 < (P a).1 + 1 then nI (wk (P a) (z / 12) (z % 12)) else h 145 z) ((clF (rc (P a) (P a).1) i).2)) P) (jW_cg (fun z => by simp only [jfu]; by_cases e : z = i; (subst e; rw [if_pos rfl, if_neg (by omega), if_pos rfl]); (simp only [e, if_false])) (fun z => rfl) (fun z => rfl) rfl) ?_
              refine j_iincN (x := k) (L' := [some (.ref 135), some (.int (nI a)), some (.int (nI ((P a).1))), some (.int (nI i)), some (.int (nI (k + 1))), none, none]) d_Model_layWalks_225 rfl (by decide) rfl rfl ?_
              refine j_goto (tgt := 167) d_Model_layWalks_228 (by decide) ?_
              exact ihk
    · refine j_iload_n d_Model_layWalks_40 rfl ?_
      refine j_iload_n d_Model_layWalks_41 rfl ?_
      refine j_icmp_gtN_f (tgt := 145) d_Model_layWalks_42 (by decide) (by omega) (by omega) (by omega) ?_
      refine j_iconst (v := nI 0) d_Model_layWalks_45 rfl ?_
      refine j_istore (L' := [some (.ref 135), some (.int (nI a)), some (.int (nI ((P a).1))), some (.int (nI (m + 1))), some (.int (nI 0)), none, none]) d_Model_layWalks_46 (by decide) rfl rfl ?_
      refine j_heap (h' := jM (jW h (h 143) (fun z => if z < (P a).1 then nI (rc (P a) (if z < 0 then m + 1 else m) z) else h 144 z) (fun z => if z % 12 < (P a).1 ∧ (z / 12 < m + 1 ∨ (z / 12 = m + 1 ∧ z % 12 < 0)) then nI (wk (P a) (z / 12) (z % 12)) else h 145 z) my) P) (jW_cg (fun _ => rfl) (fun z => by rw [if_neg (show ¬ z < 0 by omega)]) (fun z => by by_cases e : z % 12 < (P a).1 ∧ z / 12 < m + 1; (rw [if_pos e, if_pos (by omega)]); (rw [if_neg e, if_neg (by omega)])) rfl) ?_
      refine j_loop (P := fun i => jJ n 1 jc_Model_layWalks 7 "YesNoPowersModel" 48 [some (.ref 135), some (.int (nI a)), some (.int (nI ((P a).1))), some (.int (nI (m + 1))), some (.int (nI i)), none, none] [] (jM (jW h (h 143) (fun z => if z < (P a).1 then nI (rc (P a) (if z < i then m + 1 else m) z) else h 144 z) (fun z => if z % 12 < (P a).1 ∧ (z / 12 < m + 1 ∨ (z / 12 = m + 1 ∧ z % 12 < i)) then nI (wk (P a) (z / 12) (z % 12)) else h 145 z) my) P) res) (m := (P a).1) ?_ (fun i hi ihi => ?_)
      · refine j_iload d_Model_layWalks_48 rfl ?_
        refine j_iload_n d_Model_layWalks_50 rfl ?_
        refine j_icmp_geN_t (tgt := 139) d_Model_layWalks_51 (by decide) (by omega) (by omega) (by omega) ?_
        refine j_iincN (x := m + 1) (L' := [some (.ref 135), some (.int (nI a)), some (.int (nI ((P a).1))), some (.int (nI ((m + 1) + 1))), some (.int (nI ((P a).1))), none, none]) d_Model_layWalks_139 rfl (by decide) rfl rfl ?_
        refine j_goto (tgt := 40) d_Model_layWalks_142 (by decide) ?_
        refine j_heap (h' := jM (jW h (h 143) (fun z => if z < (P a).1 then nI (rc (P a) (m + 1) z) else h 144 z) (fun z => if z % 12 < (P a).1 ∧ z / 12 < (m + 1) + 1 then nI (wk (P a) (z / 12) (z % 12)) else h 145 z) my) P) (jW_cg (fun _ => rfl) (fun z => by by_cases e : z < (P a).1; (simp only [e, if_true]); (simp only [e, if_false])) (fun z => by by_cases e : z % 12 < (P a).1 ∧ z / 12 < m + 1 + 1; (rw [if_pos e, if_pos (by omega)]); (rw [if_neg e, if_neg (by omega)])) rfl) ?_
        exact j_forget (i := 4) rfl (j_forget (i := 5) rfl (j_forget (i := 6) rfl ihm))
      · refine j_iload d_Model_layWalks_48 rfl ?_
        refine j_iload_n d_Model_layWalks_50 rfl ?_
        refine j_icmp_geN_f (tgt := 139) d_Model_layWalks_51 (by decide) (by omega) (by omega) (by omega) ?_
        refine j_iconst (v := nI 0) d_Model_layWalks_54 rfl ?_
        refine j_istore (L' := [some (.ref 135), some (.int (nI a)), some (.int (nI ((P a).1))), some (.int (nI (m + 1))), some (.int (nI i)), some (.int (nI 0)), none]) d_Model_layWalks_55 (by decide) rfl rfl ?_
        refine j_iconst (v := nI 0) d_Model_layWalks_57 rfl ?_
        refine j_istore (L' := [some (.ref 135), some (.int (nI a)), some (.int (nI ((P a).1))), some (.int (nI (m + 1))), some (.int (nI i)), some (.int (nI 0)), some (.int (nI 0))]) d_Model_layWalks_58 (by decide) rfl rfl ?_
        refine j_loop (P := fun k => jJ n 1 jc_Model_layWalks 7 "YesNoPowersModel" 60 [some (.ref 135), some (.int (nI a)), some (.int (nI ((P a).1))), some (.int (nI (m + 1))), some (.int (nI i)), some (.int (nI (jor k (fun k => if ((P a).2 i).testBit k then wk (P a) m k else 0)))), some (.int (nI k))] [] (jM (jW h (h 143) (fun z => if z < (P a).1 then nI (rc (P a) (if z < i then m + 1 else m) z) else h 144 z) (fun z => if z % 12 < (P a).1 ∧ (z / 12 < m + 1 ∨ (z / 12 = m + 1 ∧ z % 12 < i)) then nI (wk (P a) (z / 12) (z % 12)) else h 145 z) my) P) res) (m := (P a).1) ?_ (fun k hk ihk => ?_)
        · refine j_iload d_Model_layWalks_60 rfl ?_
          refine j_iload_n d_Model_layWalks_62 rfl ?_
          refine j_icmp_geN_t (tgt := 107) d_Model_layWalks_63 (by decide) (by omega) (by omega) (by omega) ?_
          have hset : jor (P a).1 (fun k => if ((P a).2 i).testBit k then wk (P a) m k else 0) = wk (P a) (m + 1) i := rfl
          rw [hset]
          refine j_aload_n d_Model_layWalks_107 rfl ?_
          refine j_getr (b := 145) d_Model_layWalks_108 jf_Model_37 rfl rfl rfl (by decide) ?_
          refine j_bipush (v := nI 12) d_Model_layWalks_111 (by decide) ?_
          refine j_iload_n d_Model_layWalks_113 rfl ?_
          refine j_imulN d_Model_layWalks_114 ?_
          refine j_iload d_Model_layWalks_115 rfl ?_
          refine j_iaddN d_Model_layWalks_117 ?_
          refine j_iload d_Model_layWalks_118 rfl ?_
          refine j_iastN (h' := jM (jW h (h 143) (fun z => if z < (P a).1 then nI (rc (P a) (if z < i then m + 1 else m) z) else h 144 z) (jfu (fun z => if z % 12 < (P a).1 ∧ (z / 12 < m + 1 ∨ (z / 12 = m + 1 ∧ z % 12 < i)) then nI (wk (P a) (z / 12) (z % 12)) else h 145 z) ((12 * (m + 1)) + i) (nI (wk (P a) (m + 1) i))) my) P) d_Model_layWalks_120 rfl (by omega) (by decide) jW_w ?_
          refine j_aload_n d_Model_layWalks_121 rfl ?_
          refine j_getr (b := 144) d_Model_layWalks_122 jf_Model_34 rfl rfl rfl (by decide) ?_
          refine j_iload d_Model_layWalks_125 rfl ?_
          refine j_dup2 d_Model_layWalks_127 rfl rfl ?_
          refine j_ialdN (v := nI (rc (P a) m i)) d_Model_layWalks_128 rfl (by omega) (by decide) (by show (if _ then _ else _) = _; rw [if_pos hi, if_neg (by omega)]) ?_
          refine j_iload d_Model_layWalks_129 rfl ?_
          refine j_iorN d_Model_layWalks_131 ?_
          refine j_iastN (h' := jM (jW h (h 143) (jfu (fun z => if z < (P a).1 then nI (rc (P a) (if z < i then m + 1 else m) z) else h 144 z) i (nI ((rc (P a) m i) ||| (wk (P a) (m + 1) i)))) (jfu (fun z => if z % 12 < (P a).1 ∧ (z / 12 < m + 1 ∨ (z / 12 = m + 1 ∧ z % 12 < i)) then nI (wk (P a) (z / 12) (z % 12)) else h 145 z) ((12 * (m + 1)) + i) (nI (wk (P a) (m + 1) i))) my) P) d_Model_layWalks_132 rfl (by omega) (by decide) jW_g ?_
          refine j_iincN (x := i) (L' := [some (.ref 135), some (.int (nI a)), some (.int (nI ((P a).1))), some (.int (nI (m + 1))), some (.int (nI (i + 1))), some (.int (nI (wk (P a) (m + 1) i))), some (.int (nI ((P a).1)))]) d_Model_layWalks_133 rfl (by decide) rfl rfl ?_
          refine j_goto (tgt := 48) d_Model_layWalks_136 (by decide) ?_
          refine j_heap (h' := jM (jW h (h 143) (fun z => if z < (P a).1 then nI (rc (P a) (if z < (i + 1) then m + 1 else m) z) else h 144 z) (fun z => if z % 12 < (P a).1 ∧ (z / 12 < m + 1 ∨ (z / 12 = m + 1 ∧ z % 12 < (i + 1))) then nI (wk (P a) (z / 12) (z % 12)) else h 145 z) my) P) (jW_cg (fun _ => rfl) (fun z => by simp only [jfu]; by_cases e : z = i; (subst e; rw [if_pos rfl, if_pos hi, if_pos (by omega)]; rfl); (rw [if_neg e]; by_cases e2 : z < i; (rw [if_pos e2, if_pos (show z < i + 1 by omega)]); (rw [if_neg e2, if_neg (show ¬ z < i + 1 by omega)]))) (fun z => by simp only [jfu]; by_cases e : z = 12 * (m + 1) + i; (subst e; rw [if_pos rfl, if_pos (by omega), show (12 * (m + 1) + i) / 12 = m + 1 by omega, show (12 * (m + 1) + i) % 12 = i by omega]); (rw [if_neg e]; by_cases e2 : z % 12 < (P a).1 ∧ (z / 12 < m + 1 ∨ (z / 12 = m + 1 ∧ z % 12 < i)); (rw [if_pos e2, if_pos (by omega)]); (rw [if_neg e2, if_neg (by omega)]))) rfl) ?_
          exact j_forget (i := 5) rfl (j_forget (i := 6) rfl ihi)
        · refine j_iload d_Model_layWalks_60 rfl ?_
          refine j_iload_n d_Model_layWalks_62 rfl ?_
          refine j_icmp_geN_f (tgt := 107) d_Model_layWalks_63 (by decide) (by omega) (by omega) (by omega) ?_
          refine j_iload d_Model_layWalks_66 rfl ?_
          refine j_aload_n d_Model_layWalks_68 rfl ?_
          refine j_iload_n d_Model_layWalks_69 rfl ?_
          refine j_iload d_Model_layWalks_70 rfl ?_
          refine j_iload d_Model_layWalks_72 rfl ?_
          refine j_callVs (As := [.int (nI a), .int (nI i), .int (nI k)]) (st := [.int (nI (jor k (fun k => if ((P a).2 i).testBit k then wk (P a) m k else 0)))]) (c_leads (by omega) (by omega) (by omega) (tw_lt (hw a) _)) d_Model_layWalks_74 (by decide) jm_Model_leads jk_Model_67 ji_Model_leads js_Model_leads rfl (by decide) rfl rfl (Nat.le_of_ble_eq_true rfl) rfl ?_
          refine j_if_eqB (tgt := 97) d_Model_layWalks_77 (by decide) (fun c => ?_) (fun c => ?_)
          · refine j_iconst (v := nI 0) d_Model_layWalks_97 rfl ?_
            refine j_iorN d_Model_layWalks_98 ?_
            refine j_top (w := nI (jor (k + 1) (fun k => if ((P a).2 i).testBit k then wk (P a) m k else 0))) (by rw [Nat.or_zero]; exact congrArg nI (jor_z (by simp [c]))) ?_
            refine j_istore (L' := [some (.ref 135), some (.int (nI a)), some (.int (nI ((P a).1))), some (.int (nI (m + 1))), some (.int (nI i)), some (.int (nI (jor (k + 1) (fun k => if ((P a).2 i).testBit k then wk (P a) m k else 0)))), some (.int (nI k))]) d_Model_layWalks_99 (by decide) rfl rfl ?_
            refine j_iincN (x := k) (L' := [some (.ref 135), some (.int (nI a)), some (.int (nI ((P a).1))), some (.int (nI (m + 1))), some (.int (nI i)), some (.int (nI (jor (k + 1) (fun k => if ((P a).2 i).testBit k then wk (P a) m k else 0)))), some (.int (nI (k + 1)))]) d_Model_layWalks_101 rfl (by decide) rfl rfl ?_
            refine j_goto (tgt := 60) d_Model_layWalks_104 (by decide) ?_
            exact ihk
          · refine j_aload_n d_Model_layWalks_80 rfl ?_
            refine j_getr (b := 145) d_Model_layWalks_81 jf_Model_37 rfl rfl rfl (by decide) ?_
            refine j_bipush (v := nI 12) d_Model_layWalks_84 (by decide) ?_
            refine j_iload_n d_Model_layWalks_86 rfl ?_
            refine j_iconst (v := nI 1) d_Model_layWalks_87 rfl ?_
            refine j_isubN d_Model_layWalks_88 (by omega) ?_
            refine j_top (w := nI m) rfl ?_
            refine j_imulN d_Model_layWalks_89 ?_
            refine j_iload d_Model_layWalks_90 rfl ?_
            refine j_iaddN d_Model_layWalks_92 ?_
            refine j_ialdN (v := nI (wk (P a) m k)) d_Model_layWalks_93 rfl (by omega) (by decide) (by show (if _ then _ else _) = _; rw [if_pos (by omega), show (12 * m + k) / 12 = m by omega, show (12 * m + k) % 12 = k by omega]) ?_
            refine j_goto (tgt := 98) d_Model_layWalks_94 (by decide) ?_
            refine j_iorN d_Model_layWalks_98 ?_
            refine j_top (w := nI (jor (k + 1) (fun k => if ((P a).2 i).testBit k then wk (P a) m k else 0))) (congrArg nI (jor_t (by simp [c]))) ?_
            refine j_istore (L' := [some (.ref 135), some (.int (nI a)), some (.int (nI ((P a).1))), some (.int (nI (m + 1))), some (.int (nI i)), some (.int (nI (jor (k + 1) (fun k => if ((P a).2 i).testBit k then wk (P a) m k else 0)))), some (.int (nI k))]) d_Model_layWalks_99 (by decide) rfl rfl ?_
            refine j_iincN (x := k) (L' := [some (.ref 135), some (.int (nI a)), some (.int (nI ((P a).1))), some (.int (nI (m + 1))), some (.int (nI i)), some (.int (nI (jor (k + 1) (fun k => if ((P a).2 i).testBit k then wk (P a) m k else 0)))), some (.int (nI (k + 1)))]) d_Model_layWalks_101 rfl (by decide) rfl rfl ?_
            refine j_goto (tgt := 60) d_Model_layWalks_104 (by decide) ?_
            exact ihk
  · refine j_iload_n d_Model_layWalks_9 rfl ?_
    refine j_iload_n d_Model_layWalks_10 rfl ?_
    refine j_icmp_geN_f (tgt := 38) d_Model_layWalks_11 (by decide) (by omega) (by omega) (by omega) ?_
    refine j_aload_n d_Model_layWalks_14 rfl ?_
    refine j_getr (b := 145) d_Model_layWalks_15 jf_Model_37 rfl rfl rfl (by decide) ?_
    refine j_iload_n d_Model_layWalks_18 rfl ?_
    refine j_iconst (v := nI 1) d_Model_layWalks_19 rfl ?_
    refine j_iload_n d_Model_layWalks_20 rfl ?_
    refine j_shl1N d_Model_layWalks_21 (by omega) ?_
    refine j_iastN (h' := jM (jW h (h 143) (fun z => if z < k then nI (2 ^ z) else h 144 z) (jfu (fun z => if z < k then nI (2 ^ z) else h 145 z) k (nI (2 ^ k))) my) P) d_Model_layWalks_22 rfl (by omega) (by decide) jW_w ?_
    refine j_aload_n d_Model_layWalks_23 rfl ?_
    refine j_getr (b := 144) d_Model_layWalks_24 jf_Model_34 rfl rfl rfl (by decide) ?_
    refine j_iload_n d_Model_layWalks_27 rfl ?_
    refine j_iconst (v := nI 1) d_Model_layWalks_28 rfl ?_
    refine j_iload_n d_Model_layWalks_29 rfl ?_
    refine j_shl1N d_Model_layWalks_30 (by omega) ?_
    refine j_iastN (h' := jM (jW h (h 143) (jfu (fun z => if z < k then nI (2 ^ z) else h 144 z) k (nI (2 ^ k))) (jfu (fun z => if z < k then nI (2 ^ z) else h 145 z) k (nI (2 ^ k))) my) P) d_Model_layWalks_31 rfl (by omega) (by decide) jW_g ?_
    refine j_iincN (x := k) (L' := [some (.ref 135), some (.int (nI a)), some (.int (nI ((P a).1))), some (.int (nI (k + 1))), none, none, none]) d_Model_layWalks_32 rfl (by decide) rfl rfl ?_
    refine j_goto (tgt := 9) d_Model_layWalks_35 (by decide) ?_
    refine j_heap (h' := jM (jW h (h 143) (fun z => if z < (k + 1) then nI (2 ^ z) else h 144 z) (fun z => if z < (k + 1) then nI (2 ^ z) else h 145 z) my) P) (jW_cg (fun _ => rfl) (fun z => (by (try simp only [jfu]); (repeat' split); all_goals first | rfl | omega | (subst_vars; rfl))) (fun z => (by (try simp only [jfu]); (repeat' split); all_goals first | rfl | omega | (subst_vars; rfl))) rfl) ?_
    exact ih

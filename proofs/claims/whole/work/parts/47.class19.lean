def otv (P : jP) (Q : Nat → jT) (kd o l : Nat) : jT := if kd = 3 then P o else Q l
def mvS (P : jP) (Q : Nat → jT) (kd o : Nat → Nat) (T : jT) : Nat → jT
  | 0 => T
  | l + 1 => chT (kd l) (o l) (mvS P Q kd o T l) (otv P Q (kd l) (o l) l)
def psW (H : jH) (l : Nat) : jH := jup2 (jup2 H 83 l (nI l)) 75 1 (nI (l + 1))
def psH (h : jH) (P : jP) (Q : Nat → jT) (kd o : Nat → Nat) (T : jT) : Nat → jH
  | 0 => sT (jup2 (jup2 h 75 2 (nI 0)) 75 3 (nI 0)) 78 T
  | l + 1 => chH (psW (psH h P Q kd o T l) l) (kd l) (o l) (mvS P Q kd o T l) (otv P Q (kd l) (o l) l)
/-- the chain's links: c, their kinds, numbers, and what they keep -/
def lnk (h : jH) (c : Nat) (kd o : Nat → Nat) (Q : Nat → jT) : Prop := h 75 0 = nI c ∧ c ≤ 8 ∧ h 75 1 = nI 0 ∧ ∀ l, l < c → h (89 + 3 * l) 0 = nI (kd l) ∧ kd l < 7 ∧ (kd l = 2 ∨ kd l = 3 ∨ kd l = 4 ∨ kd l = 6 → h (89 + 3 * l) 1 = nI (o l)) ∧ o l < 100 ∧ (kd l = 3 → o l < 6) ∧ (kd l = 2 ∨ kd l = 6 → rep h (90 + 3 * l) (Q l) ∧ tw (Q l))
theorem psW_f {H : jH} {l a : Nat} (h1 : a ≠ 75) (h2 : a ≠ 83) : psW H l a = H a := by rw [psW, jup2_f h1, jup2_f h2]
theorem psH_f {h : jH} {P : jP} {Q : Nat → jT} {kd o : Nat → Nat} {T : jT} {a : Nat} (h1 : a < 85 ∨ 88 < a) (h2 : a < 75 ∨ 83 < a) : ∀ l, psH h P Q kd o T l a = h a
  | 0 => by rw [psH, sT_f (by omega) (by omega), jup2_f (by omega), jup2_f (by omega)]
  | l + 1 => by rw [psH, chH_f h1 (by omega), psW_f (by omega) (by omega), psH_f h1 h2 l]
theorem psH_r {h : jH} {P : jP} {Q : Nat → jT} {kd o : Nat → Nat} {T : jT} : ∀ l, rep (psH h P Q kd o T l) 78 (mvS P Q kd o T l)
  | 0 => rep_sT
  | l + 1 => chH_r
theorem psH_v {h : jH} {P : jP} {Q : Nat → jT} {kd o : Nat → Nat} {T : jT} (h1 : h 75 1 = nI 0) : ∀ l, psH h P Q kd o T l 75 0 = h 75 0 ∧ psH h P Q kd o T l 75 1 = nI l ∧ psH h P Q kd o T l 75 2 = nI 0 ∧ psH h P Q kd o T l 75 3 = nI 0 ∧ ∀ z, z < l → psH h P Q kd o T l 83 z = nI z
  | 0 => by
    have e : psH h P Q kd o T 0 75 = jup2 (jup2 h 75 2 (nI 0)) 75 3 (nI 0) 75 := sT_f (by decide) (by decide)
    rw [e]
    exact ⟨by simp [jup2], by simp [jup2, h1], by simp [jup2], by simp [jup2], fun z hz => absurd hz (Nat.not_lt_zero z)⟩
  | l + 1 => by
    obtain ⟨i0, i1, i2, i3, i4⟩ := psH_v (P := P) (Q := Q) (kd := kd) (o := o) (T := T) h1 l
    have e : psH h P Q kd o T (l + 1) 75 = psW (psH h P Q kd o T l) l 75 := chH_f (by decide) (by decide)
    have e2 : psH h P Q kd o T (l + 1) 83 = psW (psH h P Q kd o T l) l 83 := chH_f (by decide) (by decide)
    rw [e, e2]
    refine ⟨by simp [psW, jup2, i0], by simp [psW, jup2], by simp [psW, jup2, i2], by simp [psW, jup2, i3], fun z hz => ?_⟩
    simp only [psW, jup2]
    rw [if_neg (by decide), if_pos trivial]
    by_cases q : z = l
    · rw [if_pos q, q]
    · rw [if_neg q]
      exact i4 z (by omega)
theorem tw_mvS {P : jP} {Q : Nat → jT} {kd o : Nat → Nat} {T : jT} {c : Nat} (hT : tw T) (hw : ∀ q, tw (P q)) (hk : ∀ l, l < c → kd l < 7) (hQ : ∀ l, l < c → kd l = 2 ∨ kd l = 6 → tw (Q l)) : ∀ l, l ≤ c → tw (mvS P Q kd o T l)
  | 0, _ => hT
  | l + 1, hl => tw_chT (tw_mvS hT hw hk hQ l (by omega)) (fun h236 => by
      unfold otv
      split
      · exact hw _
      · exact hQ l (by omega) (by omega)) (hk l (by omega))
theorem mvS_n {P : jP} {Q : Nat → jT} {kd o : Nat → Nat} {T : jT} : ∀ l, (mvS P Q kd o T l).1 = T.1
  | 0 => rfl
  | l + 1 => chT_n.trans (mvS_n l)
theorem ptc_ge {kd o l : Nat} : 78 ≤ ptc kd o l := by
  unfold ptc
  split
  · omega
  · split <;> omega
theorem ptc_236 {kd o l : Nat} (h : kd = 2 ∨ kd = 3 ∨ kd = 6) (ho : kd = 3 → o < 6) : ptc kd o l ≠ 78 ∧ (ptc kd o l = 90 + 3 * l ∨ ptc kd o l = 115 + 2 * o ∧ o < 6) := by
  unfold ptc
  split
  · exact ⟨by omega, Or.inl rfl⟩
  · split
    · exact ⟨by omega, Or.inr ⟨rfl, ho (by assumption)⟩⟩
    · omega
/-- the other table of link l -/
def pOT (P : jP) (Q : Nat → jT) (kd o : Nat → Nat) (T : jT) (l : Nat) : jT := if kd l = 2 ∨ kd l = 3 ∨ kd l = 6 then otv P Q (kd l) (o l) l else mvS P Q kd o T l
theorem psW_ot {h : jH} {P : jP} {Q : Nat → jT} {kd o : Nat → Nat} {T : jT} {c l : Nat} (hlk : lnk h c kd o Q) (hw : ∀ q, tw (P q)) (hP : slo h P) (hl : l < c) (hmw : tw (mvS P Q kd o T l)) : rep (psW (psH h P Q kd o T l) l) (ptc (kd l) (o l) l) (pOT P Q kd o T l) ∧ tw (pOT P Q kd o T l) := by
  obtain ⟨l0, l1, l2, l3⟩ := hlk
  obtain ⟨k1, k2, k3, k4, k5, k6⟩ := l3 l hl
  have hfr : ∀ a, (a < 85 ∨ 88 < a) → (a < 75 ∨ 83 < a) → psW (psH h P Q kd o T l) l a = h a := fun a h1 h2 => (psW_f (by omega) (by omega)).trans (psH_f h1 h2 l)
  unfold pOT ptc otv
  by_cases e26 : kd l = 2 ∨ kd l = 6
  · rw [if_pos (show kd l = 2 ∨ kd l = 3 ∨ kd l = 6 by omega), if_pos e26, if_neg (show ¬ kd l = 3 by omega)]
    obtain ⟨m1, m2⟩ := k6 e26
    exact ⟨rep_of (hfr _ (by omega) (by omega)) (hfr _ (by omega) (by omega)) m1, m2⟩
  · by_cases e3 : kd l = 3
    · rw [if_pos (show kd l = 2 ∨ kd l = 3 ∨ kd l = 6 by omega), if_pos e3, if_neg e26, if_pos e3]
      exact ⟨rep_of (hfr _ (by omega) (by omega)) (hfr _ (by omega) (by omega)) (hP _ (k5 e3)), hw _⟩
    · rw [if_neg (show ¬ (kd l = 2 ∨ kd l = 3 ∨ kd l = 6) by omega), if_neg e26, if_neg e3]
      exact ⟨rep_of (psW_f (by decide) (by decide)) (psW_f (by decide) (by decide)) (psH_r l), hmw⟩
def psR (h : jH) (P : jP) (Q : Nat → jT) (kd o : Nat → Nat) (s l0 : Nat) : jH := jup2 (jup2 (jup2 (jup2 (psW (psH h P Q kd o (P s) l0) l0) 77 0 (nI l0)) 77 1 (nI (kd l0))) 77 2 (nI (rsnW (o l0) (otv P Q (kd l0) (o l0) l0).1))) 75 3 (nI 3)
theorem x_pass {n : jN} {h : jH} {P : jP} {Q : Nat → jT} {kd o : Nat → Nat} {c s : Nat} (hw : ∀ q, tw (P q)) (hP : slo h P) (hs : s < 6) (h0 : 0 < (P s).1) (hlk : lnk h c kd o Q) (hns : ∀ l, l < c → kd l = 2 ∨ kd l = 3 ∨ kd l = 6 → (otv P Q (kd l) (o l) l).1 = (mvS P Q kd o (P s) l).1) : jC n 4 jy_Chain_pass jc_Chain_pass 6 (some .int) [.ref 75, .ref (115 + 2 * s), .ref 1] h (some (.int (-1))) (gbH (psH h P Q kd o (P s) c) c c) := by
  refine jC_of jm_Chain_pass (L := [some (.ref 75), some (.ref (115 + 2 * s)), some (.ref 1), none, none, none]) (Nat.le_of_ble_eq_true rfl) rfl trivial ?_
  generalize hres : (((some (.int (-1))), gbH (psH h P Q kd o (P s) c) c c) : Option Value × jH) = res
  obtain ⟨l0_, l1_, l2_, l3_⟩ := id hlk
  have hmw : ∀ l, l ≤ c → tw (mvS P Q kd o (P s) l) := tw_mvS (hw s) hw (fun l hl => (l3_ l hl).2.1) (fun l hl e => ((l3_ l hl).2.2.2.2.2 e).2)
  refine j_aload_n d_Chain_pass_0 rfl ?_
  refine j_iconst (v := nI 0) d_Chain_pass_1 rfl ?_
  refine j_putv (h' := jup2 h 75 2 (nI 0)) d_Chain_pass_2 jf_Chain_64 rfl rfl rfl ?_
  refine j_aload_n d_Chain_pass_5 rfl ?_
  refine j_iconst (v := nI 0) d_Chain_pass_6 rfl ?_
  refine j_putv (h' := jup2 (jup2 h 75 2 (nI 0)) 75 3 (nI 0)) d_Chain_pass_7 jf_Chain_67 rfl rfl rfl ?_
  refine j_aload_n d_Chain_pass_10 rfl ?_
  refine j_getr (b := 78) d_Chain_pass_11 jf_Chain_19 rfl rfl rfl (by decide) ?_
  refine j_aload_n d_Chain_pass_14 rfl ?_
  refine j_callVn (As := [.ref (115 + 2 * s)]) (st := []) (x_become isT_78 (isT_slot s hs) (by omega) (rep_of (jup2_f (by omega)) (jup2_f (by omega)) (rep_of (jup2_f (by omega)) (jup2_f (by omega)) (hP s hs))) (hw s)) d_Chain_pass_15 (by decide) jm_Table_become jk_Chain_60 ji_Table_become js_Table_become rfl (by decide) rfl rfl (Nat.le_of_ble_eq_true rfl) rfl ?_
  refine j_iconst (v := -1) d_Chain_pass_18 rfl ?_
  refine j_istore_n (L' := [some (.ref 75), some (.ref (115 + 2 * s)), some (.ref 1), some (.int (-1)), none, none]) d_Chain_pass_19 (by decide) rfl rfl ?_
  refine j_iconst (v := nI 0) d_Chain_pass_20 rfl ?_
  refine j_istore (L' := [some (.ref 75), some (.ref (115 + 2 * s)), some (.ref 1), some (.int (-1)), some (.int (nI 0)), none]) d_Chain_pass_21 (by decide) rfl rfl ?_
  refine j_loop (P := fun l => jJ n 4 jc_Chain_pass 6 "YesNoPowers$Chain" 23 [some (.ref 75), some (.ref (115 + 2 * s)), some (.ref 1), some (.int (-1)), some (.int (nI l)), none] [] (psH h P Q kd o (P s) l) res) (m := c) ?_ (fun l hl ih => ?_)
  · obtain ⟨v0, v1, v2, v3, v4⟩ := psH_v (P := P) (Q := Q) (kd := kd) (o := o) (T := P s) l2_ c
    refine j_iload d_Chain_pass_23 rfl ?_
    refine j_aload_n d_Chain_pass_25 rfl ?_
    refine j_getv (v := nI c) d_Chain_pass_26 jf_Chain_43 rfl rfl (v0.trans l0_) ?_
    refine j_icmp_geN_t (tgt := 119) d_Chain_pass_29 (by decide) (by omega) (by omega) (Nat.le_refl _) ?_
    refine j_aload_n d_Chain_pass_119 rfl ?_
    refine j_callVn (As := []) (st := []) (x_giveBack l1_ v1 v2 v4) d_Chain_pass_120 (by decide) jm_Chain_giveBack jk_Chain_88 ji_Chain_giveBack js_Chain_giveBack rfl (by decide) rfl rfl (Nat.le_of_ble_eq_true rfl) rfl ?_
    refine j_iload_n d_Chain_pass_123 rfl ?_
    subst hres
    exact j_reti d_Chain_pass_124 rfl rfl
  · obtain ⟨v0, v1, v2, v3, v4⟩ := psH_v (P := P) (Q := Q) (kd := kd) (o := o) (T := P s) l2_ l
    obtain ⟨k1, k2, k3, k4, k5, k6⟩ := l3_ l (by omega)
    have hfr : ∀ a, (a < 85 ∨ 88 < a) → (a < 75 ∨ 83 < a) → psW (psH h P Q kd o (P s) l) l a = h a := fun a h1 h2 => (psW_f (by omega) (by omega)).trans (psH_f h1 h2 _)
    have hmwl := hmw l (by omega)
    obtain ⟨hor, how⟩ := psW_ot (l := l) (T := P s) hlk hw hP (by omega) hmwl
    have hop := isT_ptc (kd := kd l) (o := o l) (l := l) (by omega) k5
    refine j_iload d_Chain_pass_23 rfl ?_
    refine j_aload_n d_Chain_pass_25 rfl ?_
    refine j_getv (v := nI c) d_Chain_pass_26 jf_Chain_43 rfl rfl (v0.trans l0_) ?_
    refine j_icmp_geN_f (tgt := 119) d_Chain_pass_29 (by decide) (by omega) (by omega) (by omega) ?_
    refine j_iload_n d_Chain_pass_32 rfl ?_
    refine j_if_ge_f (tgt := 119) d_Chain_pass_33 (by decide) (by decide) ?_
    refine j_aload_n d_Chain_pass_36 rfl ?_
    refine j_getr (b := 83) d_Chain_pass_37 jf_Chain_32 rfl rfl rfl (by decide) ?_
    refine j_aload_n d_Chain_pass_40 rfl ?_
    refine j_getv (v := nI l) d_Chain_pass_41 jf_Chain_70 rfl rfl v1 ?_
    refine j_iload d_Chain_pass_44 rfl ?_
    refine j_iastN (h' := jup2 (psH h P Q kd o (P s) l) 83 l (nI l)) d_Chain_pass_46 rfl (by omega) (by decide) rfl ?_
    refine j_aload_n d_Chain_pass_47 rfl ?_
    refine j_dup d_Chain_pass_48 rfl ?_
    refine j_getv (v := nI l) d_Chain_pass_49 jf_Chain_70 rfl rfl ((congrFun (jup2_f (by decide)) _).trans v1) ?_
    refine j_iconst (v := nI 1) d_Chain_pass_52 rfl ?_
    refine j_iaddN d_Chain_pass_53 ?_
    refine j_putv (h' := jup2 (jup2 (psH h P Q kd o (P s) l) 83 l (nI l)) 75 1 (nI (l + 1))) d_Chain_pass_54 jf_Chain_70 rfl rfl rfl ?_
    refine j_aload_n d_Chain_pass_57 rfl ?_
    refine j_aload_n d_Chain_pass_58 rfl ?_
    refine j_getr (b := 82) d_Chain_pass_59 jf_Chain_28 rfl rfl rfl (by decide) ?_
    refine j_iload d_Chain_pass_62 rfl ?_
    refine j_aaldN (b := 89 + 3 * l) d_Chain_pass_64 rfl (by decide) (by omega) (by decide) (jrf_link _ (by omega)) (by omega) ?_
    refine j_aload_n d_Chain_pass_65 rfl ?_
    refine j_heap (h' := psW (psH h P Q kd o (P s) l) l) rfl ?_
    refine j_callVs (As := [.ref (89 + 3 * l), .ref 1]) (st := []) (x_partner (by omega) ((congrFun (hfr _ (by omega) (by omega)) 0).trans k1) k2 (fun e => (congrFun (hfr _ (by omega) (by omega)) 1).trans (k3 (by omega))) k5) d_Chain_pass_66 (by decide) jm_Chain_partner jk_Chain_73 ji_Chain_partner js_Chain_partner rfl (by decide) rfl rfl (Nat.le_of_ble_eq_true rfl) rfl ?_
    refine j_astore (L' := [some (.ref 75), some (.ref (115 + 2 * s)), some (.ref 1), some (.int (-1)), some (.int (nI l)), some (.ref (ptc (kd l) (o l) l))]) d_Chain_pass_69 (by decide) rfl rfl ?_
    refine j_aload d_Chain_pass_71 rfl ?_
    refine j_getv (v := nI ((pOT P Q kd o (P s) l).1)) d_Chain_pass_73 jf_Chain_77 hop.1 rfl hor.1 ?_
    refine j_aload_n d_Chain_pass_76 rfl ?_
    refine j_getr (b := 78) d_Chain_pass_77 jf_Chain_19 rfl rfl rfl (by decide) ?_
    refine j_getv (v := nI ((mvS P Q kd o (P s) l).1)) d_Chain_pass_80 jf_Chain_77 rfl rfl (rep_of (psW_f (by decide) (by decide)) (psW_f (by decide) (by decide)) (psH_r l)).1 ?_
    have hne : (pOT P Q kd o (P s) l).1 = (mvS P Q kd o (P s) l).1 := by unfold pOT; split; exact hns l hl (by assumption); rfl
    have h12 := hmwl.1
    refine j_icmp_neN_f (tgt := 102) d_Chain_pass_83 (by decide) (by omega) (by omega) hne ?_
    refine j_aload_n d_Chain_pass_86 rfl ?_
    refine j_aload_n d_Chain_pass_87 rfl ?_
    refine j_getr (b := 82) d_Chain_pass_88 jf_Chain_28 rfl rfl rfl (by decide) ?_
    refine j_iload d_Chain_pass_91 rfl ?_
    refine j_aaldN (b := 89 + 3 * l) d_Chain_pass_93 rfl (by decide) (by omega) (by decide) (jrf_link _ (by omega)) (by omega) ?_
    refine j_aload d_Chain_pass_94 rfl ?_
    refine j_callVn (As := [.ref (89 + 3 * l), .ref (ptc (kd l) (o l) l)]) (st := []) (x_change (O := otv P Q (kd l) (o l) l) hop (by omega) k2 ((congrFun (hfr _ (by omega) (by omega)) 0).trans k1) (fun e => (congrFun (hfr _ (by omega) (by omega)) 1).trans (k3 (by omega))) (by omega) (by rw [mvS_n]; exact h0) (rep_of (psW_f (by decide) (by decide)) (psW_f (by decide) (by decide)) (psH_r l)) hmwl (fun e => by rw [show pOT P Q kd o (P s) l = otv P Q (kd l) (o l) l from if_pos e] at hor how; exact ⟨hor, how, (hns l hl e).symm, (ptc_236 e k5).1⟩)) d_Chain_pass_96 (by decide) jm_Chain_change jk_Chain_80 ji_Chain_change js_Chain_change rfl (by decide) rfl rfl (Nat.le_of_ble_eq_true rfl) rfl ?_
    refine j_goto (tgt := 113) d_Chain_pass_99 (by decide) ?_
    refine j_iincN (x := l) (L' := [some (.ref 75), some (.ref (115 + 2 * s)), some (.ref 1), some (.int (-1)), some (.int (nI (l + 1))), some (.ref (ptc (kd l) (o l) l))]) d_Chain_pass_113 rfl (by decide) rfl rfl ?_
    refine j_goto (tgt := 23) d_Chain_pass_116 (by decide) ?_
    exact j_forget (i := 5) rfl ih
theorem x_passS {n : jN} {h : jH} {P : jP} {Q : Nat → jT} {kd o : Nat → Nat} {c s : Nat} (hw : ∀ q, tw (P q)) (hP : slo h P) (hs : s < 6) (h0 : 0 < (P s).1) (hlk : lnk h c kd o Q) {l0 : Nat} (hl0 : l0 < c) (hns : ∀ l, l < l0 → kd l = 2 ∨ kd l = 3 ∨ kd l = 6 → (otv P Q (kd l) (o l) l).1 = (mvS P Q kd o (P s) l).1) (hk : kd l0 = 2 ∨ kd l0 = 3 ∨ kd l0 = 6) (hst : ¬ (otv P Q (kd l0) (o l0) l0).1 = (mvS P Q kd o (P s) l0).1) : jC n 4 jy_Chain_pass jc_Chain_pass 6 (some .int) [.ref 75, .ref (115 + 2 * s), .ref 1] h (some (.int (nI l0))) (gbH (psR h P Q kd o s l0) (l0 + 1) (l0 + 1)) := by
  refine jC_of jm_Chain_pass (L := [some (.ref 75), some (.ref (115 + 2 * s)), some (.ref 1), none, none, none]) (Nat.le_of_ble_eq_true rfl) rfl trivial ?_
  generalize hres : (((some (.int (nI l0))), gbH (psR h P Q kd o s l0) (l0 + 1) (l0 + 1)) : Option Value × jH) = res
  obtain ⟨l0_, l1_, l2_, l3_⟩ := id hlk
  have hmw : ∀ l, l ≤ c → tw (mvS P Q kd o (P s) l) := tw_mvS (hw s) hw (fun l hl => (l3_ l hl).2.1) (fun l hl e => ((l3_ l hl).2.2.2.2.2 e).2)
  refine j_aload_n d_Chain_pass_0 rfl ?_
  refine j_iconst (v := nI 0) d_Chain_pass_1 rfl ?_
  refine j_putv (h' := jup2 h 75 2 (nI 0)) d_Chain_pass_2 jf_Chain_64 rfl rfl rfl ?_
  refine j_aload_n d_Chain_pass_5 rfl ?_
  refine j_iconst (v := nI 0) d_Chain_pass_6 rfl ?_
  refine j_putv (h' := jup2 (jup2 h 75 2 (nI 0)) 75 3 (nI 0)) d_Chain_pass_7 jf_Chain_67 rfl rfl rfl ?_
  refine j_aload_n d_Chain_pass_10 rfl ?_
  refine j_getr (b := 78) d_Chain_pass_11 jf_Chain_19 rfl rfl rfl (by decide) ?_
  refine j_aload_n d_Chain_pass_14 rfl ?_
  refine j_callVn (As := [.ref (115 + 2 * s)]) (st := []) (x_become isT_78 (isT_slot s hs) (by omega) (rep_of (jup2_f (by omega)) (jup2_f (by omega)) (rep_of (jup2_f (by omega)) (jup2_f (by omega)) (hP s hs))) (hw s)) d_Chain_pass_15 (by decide) jm_Table_become jk_Chain_60 ji_Table_become js_Table_become rfl (by decide) rfl rfl (Nat.le_of_ble_eq_true rfl) rfl ?_
  refine j_iconst (v := -1) d_Chain_pass_18 rfl ?_
  refine j_istore_n (L' := [some (.ref 75), some (.ref (115 + 2 * s)), some (.ref 1), some (.int (-1)), none, none]) d_Chain_pass_19 (by decide) rfl rfl ?_
  refine j_iconst (v := nI 0) d_Chain_pass_20 rfl ?_
  refine j_istore (L' := [some (.ref 75), some (.ref (115 + 2 * s)), some (.ref 1), some (.int (-1)), some (.int (nI 0)), none]) d_Chain_pass_21 (by decide) rfl rfl ?_
  refine j_loop (P := fun l => jJ n 4 jc_Chain_pass 6 "YesNoPowers$Chain" 23 [some (.ref 75), some (.ref (115 + 2 * s)), some (.ref 1), some (.int (-1)), some (.int (nI l)), none] [] (psH h P Q kd o (P s) l) res) (m := l0) ?_ (fun l hl ih => ?_)
  · obtain ⟨v0, v1, v2, v3, v4⟩ := psH_v (P := P) (Q := Q) (kd := kd) (o := o) (T := P s) l2_ l0
    obtain ⟨k1, k2, k3, k4, k5, k6⟩ := l3_ l0 (by omega)
    have hfr : ∀ a, (a < 85 ∨ 88 < a) → (a < 75 ∨ 83 < a) → psW (psH h P Q kd o (P s) l0) l0 a = h a := fun a h1 h2 => (psW_f (by omega) (by omega)).trans (psH_f h1 h2 _)
    have hmwl := hmw l0 (by omega)
    obtain ⟨hor, how⟩ := psW_ot (l := l0) (T := P s) hlk hw hP (by omega) hmwl
    have hop := isT_ptc (kd := kd l0) (o := o l0) (l := l0) (by omega) k5
    refine j_iload d_Chain_pass_23 rfl ?_
    refine j_aload_n d_Chain_pass_25 rfl ?_
    refine j_getv (v := nI c) d_Chain_pass_26 jf_Chain_43 rfl rfl (v0.trans l0_) ?_
    refine j_icmp_geN_f (tgt := 119) d_Chain_pass_29 (by decide) (by omega) (by omega) (by omega) ?_
    refine j_iload_n d_Chain_pass_32 rfl ?_
    refine j_if_ge_f (tgt := 119) d_Chain_pass_33 (by decide) (by decide) ?_
    refine j_aload_n d_Chain_pass_36 rfl ?_
    refine j_getr (b := 83) d_Chain_pass_37 jf_Chain_32 rfl rfl rfl (by decide) ?_
    refine j_aload_n d_Chain_pass_40 rfl ?_
    refine j_getv (v := nI l0) d_Chain_pass_41 jf_Chain_70 rfl rfl v1 ?_
    refine j_iload d_Chain_pass_44 rfl ?_
    refine j_iastN (h' := jup2 (psH h P Q kd o (P s) l0) 83 l0 (nI l0)) d_Chain_pass_46 rfl (by omega) (by decide) rfl ?_
    refine j_aload_n d_Chain_pass_47 rfl ?_
    refine j_dup d_Chain_pass_48 rfl ?_
    refine j_getv (v := nI l0) d_Chain_pass_49 jf_Chain_70 rfl rfl ((congrFun (jup2_f (by decide)) _).trans v1) ?_
    refine j_iconst (v := nI 1) d_Chain_pass_52 rfl ?_
    refine j_iaddN d_Chain_pass_53 ?_
    refine j_putv (h' := jup2 (jup2 (psH h P Q kd o (P s) l0) 83 l0 (nI l0)) 75 1 (nI (l0 + 1))) d_Chain_pass_54 jf_Chain_70 rfl rfl rfl ?_
    refine j_aload_n d_Chain_pass_57 rfl ?_
    refine j_aload_n d_Chain_pass_58 rfl ?_
    refine j_getr (b := 82) d_Chain_pass_59 jf_Chain_28 rfl rfl rfl (by decide) ?_
    refine j_iload d_Chain_pass_62 rfl ?_
    refine j_aaldN (b := 89 + 3 * l0) d_Chain_pass_64 rfl (by decide) (by omega) (by decide) (jrf_link _ (by omega)) (by omega) ?_
    refine j_aload_n d_Chain_pass_65 rfl ?_
    refine j_heap (h' := psW (psH h P Q kd o (P s) l0) l0) rfl ?_
    refine j_callVs (As := [.ref (89 + 3 * l0), .ref 1]) (st := []) (x_partner (by omega) ((congrFun (hfr _ (by omega) (by omega)) 0).trans k1) k2 (fun e => (congrFun (hfr _ (by omega) (by omega)) 1).trans (k3 (by omega))) k5) d_Chain_pass_66 (by decide) jm_Chain_partner jk_Chain_73 ji_Chain_partner js_Chain_partner rfl (by decide) rfl rfl (Nat.le_of_ble_eq_true rfl) rfl ?_
    refine j_astore (L' := [some (.ref 75), some (.ref (115 + 2 * s)), some (.ref 1), some (.int (-1)), some (.int (nI l0)), some (.ref (ptc (kd l0) (o l0) l0))]) d_Chain_pass_69 (by decide) rfl rfl ?_
    refine j_aload d_Chain_pass_71 rfl ?_
    refine j_getv (v := nI ((pOT P Q kd o (P s) l0).1)) d_Chain_pass_73 jf_Chain_77 hop.1 rfl hor.1 ?_
    refine j_aload_n d_Chain_pass_76 rfl ?_
    refine j_getr (b := 78) d_Chain_pass_77 jf_Chain_19 rfl rfl rfl (by decide) ?_
    refine j_getv (v := nI ((mvS P Q kd o (P s) l0).1)) d_Chain_pass_80 jf_Chain_77 rfl rfl (rep_of (psW_f (by decide) (by decide)) (psW_f (by decide) (by decide)) (psH_r l0)).1 ?_
    have hoe : pOT P Q kd o (P s) l0 = otv P Q (kd l0) (o l0) l0 := if_pos hk
    rw [hoe] at hor how
    have h12 := hmwl.1
    have h13 := how.1
    have hpg := ptc_ge (kd := kd l0) (o := o l0) (l := l0)
    obtain ⟨hp1, hp2⟩ := ptc_236 (l := l0) hk k5
    rw [hoe]
    refine j_icmp_neN_t (tgt := 102) d_Chain_pass_83 (by decide) (by omega) (by omega) (fun z => hst z) ?_
    have hR : ∀ k, k ≠ 3 → psR h P Q kd o s l0 75 k = (psW (psH h P Q kd o (P s) l0) l0) 75 k := fun k hk => by simp [psR, jup2, hk]
    have hR0 : psR h P Q kd o s l0 75 0 = nI c := (hR 0 (by decide)).trans (by simp [psW, jup2, v0, l0_])
    have hR1 : psR h P Q kd o s l0 75 1 = nI (l0 + 1) := (hR 1 (by decide)).trans (by simp [psW, jup2])
    have hR2 : psR h P Q kd o s l0 75 2 = nI 0 := (hR 2 (by decide)).trans (by simp [psW, jup2, v2])
    have hR3 : ∀ z, z < l0 + 1 → psR h P Q kd o s l0 83 z = nI z := fun z hz => by simp only [psR]; rw [jup2_f (by decide), jup2_f (by decide), jup2_f (by decide), jup2_f (by decide)]; simp only [psW, jup2]; rw [if_neg (by decide), if_pos trivial]; by_cases q : z = l0; (rw [if_pos q, q]); (rw [if_neg q]; exact v4 z (by omega))
    refine j_iload d_Chain_pass_102 rfl ?_
    refine j_istore_n (L' := [some (.ref 75), some (.ref (115 + 2 * s)), some (.ref 1), some (.int (nI l0)), some (.int (nI l0)), some (.ref (ptc (kd l0) (o l0) l0))]) d_Chain_pass_104 (by decide) rfl rfl ?_
    refine j_aload_n d_Chain_pass_105 rfl ?_
    refine j_iload d_Chain_pass_106 rfl ?_
    refine j_aload d_Chain_pass_108 rfl ?_
    refine j_callVn (As := [.int (nI l0), .ref (ptc (kd l0) (o l0) l0)]) (st := []) (x_giveReasons hop (by omega) ((congrFun (hfr _ (by omega) (by omega)) 0).trans k1) ((congrFun (hfr _ (by omega) (by omega)) 1).trans (k3 (by omega))) k4 hor how (by omega)) d_Chain_pass_110 (by decide) jm_Chain_giveReasons jk_Chain_84 ji_Chain_giveReasons js_Chain_giveReasons rfl (by decide) rfl rfl (Nat.le_of_ble_eq_true rfl) rfl ?_
    refine j_iincN (x := l0) (L' := [some (.ref 75), some (.ref (115 + 2 * s)), some (.ref 1), some (.int (nI l0)), some (.int (nI (l0 + 1))), some (.ref (ptc (kd l0) (o l0) l0))]) d_Chain_pass_113 rfl (by decide) rfl rfl ?_
    refine j_goto (tgt := 23) d_Chain_pass_116 (by decide) ?_
    refine j_iload d_Chain_pass_23 rfl ?_
    refine j_aload_n d_Chain_pass_25 rfl ?_
    refine j_getv (v := nI c) d_Chain_pass_26 jf_Chain_43 rfl rfl hR0 ?_
    refine j_icmp_geN (tgt := 119) d_Chain_pass_29 (by decide) (by omega) (by omega) (fun c9 => ?_) (fun c9 => ?_)
    · refine j_aload_n d_Chain_pass_119 rfl ?_
      refine j_callVn (As := []) (st := []) (x_giveBack (by omega) hR1 hR2 hR3) d_Chain_pass_120 (by decide) jm_Chain_giveBack jk_Chain_88 ji_Chain_giveBack js_Chain_giveBack rfl (by decide) rfl rfl (Nat.le_of_ble_eq_true rfl) rfl ?_
      refine j_iload_n d_Chain_pass_123 rfl ?_
      subst hres
      exact j_reti d_Chain_pass_124 rfl rfl
    · refine j_iload_n d_Chain_pass_32 rfl ?_
      refine j_if_geN_t (tgt := 119) d_Chain_pass_33 (by decide) (by omega) trivial ?_
      refine j_aload_n d_Chain_pass_119 rfl ?_
      refine j_callVn (As := []) (st := []) (x_giveBack (by omega) hR1 hR2 hR3) d_Chain_pass_120 (by decide) jm_Chain_giveBack jk_Chain_88 ji_Chain_giveBack js_Chain_giveBack rfl (by decide) rfl rfl (Nat.le_of_ble_eq_true rfl) rfl ?_
      refine j_iload_n d_Chain_pass_123 rfl ?_
      subst hres
      exact j_reti d_Chain_pass_124 rfl rfl
  · obtain ⟨v0, v1, v2, v3, v4⟩ := psH_v (P := P) (Q := Q) (kd := kd) (o := o) (T := P s) l2_ l
    obtain ⟨k1, k2, k3, k4, k5, k6⟩ := l3_ l (by omega)
    have hfr : ∀ a, (a < 85 ∨ 88 < a) → (a < 75 ∨ 83 < a) → psW (psH h P Q kd o (P s) l) l a = h a := fun a h1 h2 => (psW_f (by omega) (by omega)).trans (psH_f h1 h2 _)
    have hmwl := hmw l (by omega)
    obtain ⟨hor, how⟩ := psW_ot (l := l) (T := P s) hlk hw hP (by omega) hmwl
    have hop := isT_ptc (kd := kd l) (o := o l) (l := l) (by omega) k5
    refine j_iload d_Chain_pass_23 rfl ?_
    refine j_aload_n d_Chain_pass_25 rfl ?_
    refine j_getv (v := nI c) d_Chain_pass_26 jf_Chain_43 rfl rfl (v0.trans l0_) ?_
    refine j_icmp_geN_f (tgt := 119) d_Chain_pass_29 (by decide) (by omega) (by omega) (by omega) ?_
    refine j_iload_n d_Chain_pass_32 rfl ?_
    refine j_if_ge_f (tgt := 119) d_Chain_pass_33 (by decide) (by decide) ?_
    refine j_aload_n d_Chain_pass_36 rfl ?_
    refine j_getr (b := 83) d_Chain_pass_37 jf_Chain_32 rfl rfl rfl (by decide) ?_
    refine j_aload_n d_Chain_pass_40 rfl ?_
    refine j_getv (v := nI l) d_Chain_pass_41 jf_Chain_70 rfl rfl v1 ?_
    refine j_iload d_Chain_pass_44 rfl ?_
    refine j_iastN (h' := jup2 (psH h P Q kd o (P s) l) 83 l (nI l)) d_Chain_pass_46 rfl (by omega) (by decide) rfl ?_
    refine j_aload_n d_Chain_pass_47 rfl ?_
    refine j_dup d_Chain_pass_48 rfl ?_
    refine j_getv (v := nI l) d_Chain_pass_49 jf_Chain_70 rfl rfl ((congrFun (jup2_f (by decide)) _).trans v1) ?_
    refine j_iconst (v := nI 1) d_Chain_pass_52 rfl ?_
    refine j_iaddN d_Chain_pass_53 ?_
    refine j_putv (h' := jup2 (jup2 (psH h P Q kd o (P s) l) 83 l (nI l)) 75 1 (nI (l + 1))) d_Chain_pass_54 jf_Chain_70 rfl rfl rfl ?_
    refine j_aload_n d_Chain_pass_57 rfl ?_
    refine j_aload_n d_Chain_pass_58 rfl ?_
    refine j_getr (b := 82) d_Chain_pass_59 jf_Chain_28 rfl rfl rfl (by decide) ?_
    refine j_iload d_Chain_pass_62 rfl ?_
    refine j_aaldN (b := 89 + 3 * l) d_Chain_pass_64 rfl (by decide) (by omega) (by decide) (jrf_link _ (by omega)) (by omega) ?_
    refine j_aload_n d_Chain_pass_65 rfl ?_
    refine j_heap (h' := psW (psH h P Q kd o (P s) l) l) rfl ?_
    refine j_callVs (As := [.ref (89 + 3 * l), .ref 1]) (st := []) (x_partner (by omega) ((congrFun (hfr _ (by omega) (by omega)) 0).trans k1) k2 (fun e => (congrFun (hfr _ (by omega) (by omega)) 1).trans (k3 (by omega))) k5) d_Chain_pass_66 (by decide) jm_Chain_partner jk_Chain_73 ji_Chain_partner js_Chain_partner rfl (by decide) rfl rfl (Nat.le_of_ble_eq_true rfl) rfl ?_
    refine j_astore (L' := [some (.ref 75), some (.ref (115 + 2 * s)), some (.ref 1), some (.int (-1)), some (.int (nI l)), some (.ref (ptc (kd l) (o l) l))]) d_Chain_pass_69 (by decide) rfl rfl ?_
    refine j_aload d_Chain_pass_71 rfl ?_
    refine j_getv (v := nI ((pOT P Q kd o (P s) l).1)) d_Chain_pass_73 jf_Chain_77 hop.1 rfl hor.1 ?_
    refine j_aload_n d_Chain_pass_76 rfl ?_
    refine j_getr (b := 78) d_Chain_pass_77 jf_Chain_19 rfl rfl rfl (by decide) ?_
    refine j_getv (v := nI ((mvS P Q kd o (P s) l).1)) d_Chain_pass_80 jf_Chain_77 rfl rfl (rep_of (psW_f (by decide) (by decide)) (psW_f (by decide) (by decide)) (psH_r l)).1 ?_
    have hne : (pOT P Q kd o (P s) l).1 = (mvS P Q kd o (P s) l).1 := by unfold pOT; split; exact hns l hl (by assumption); rfl
    have h12 := hmwl.1
    refine j_icmp_neN_f (tgt := 102) d_Chain_pass_83 (by decide) (by omega) (by omega) hne ?_
    refine j_aload_n d_Chain_pass_86 rfl ?_
    refine j_aload_n d_Chain_pass_87 rfl ?_
    refine j_getr (b := 82) d_Chain_pass_88 jf_Chain_28 rfl rfl rfl (by decide) ?_
    refine j_iload d_Chain_pass_91 rfl ?_
    refine j_aaldN (b := 89 + 3 * l) d_Chain_pass_93 rfl (by decide) (by omega) (by decide) (jrf_link _ (by omega)) (by omega) ?_
    refine j_aload d_Chain_pass_94 rfl ?_
    refine j_callVn (As := [.ref (89 + 3 * l), .ref (ptc (kd l) (o l) l)]) (st := []) (x_change (O := otv P Q (kd l) (o l) l) hop (by omega) k2 ((congrFun (hfr _ (by omega) (by omega)) 0).trans k1) (fun e => (congrFun (hfr _ (by omega) (by omega)) 1).trans (k3 (by omega))) (by omega) (by rw [mvS_n]; exact h0) (rep_of (psW_f (by decide) (by decide)) (psW_f (by decide) (by decide)) (psH_r l)) hmwl (fun e => by rw [show pOT P Q kd o (P s) l = otv P Q (kd l) (o l) l from if_pos e] at hor how; exact ⟨hor, how, (hns l hl e).symm, (ptc_236 e k5).1⟩)) d_Chain_pass_96 (by decide) jm_Chain_change jk_Chain_80 ji_Chain_change js_Chain_change rfl (by decide) rfl rfl (Nat.le_of_ble_eq_true rfl) rfl ?_
    refine j_goto (tgt := 113) d_Chain_pass_99 (by decide) ?_
    refine j_iincN (x := l) (L' := [some (.ref 75), some (.ref (115 + 2 * s)), some (.ref 1), some (.int (-1)), some (.int (nI (l + 1))), some (.ref (ptc (kd l) (o l) l))]) d_Chain_pass_113 rfl (by decide) rfl rfl ?_
    refine j_goto (tgt := 23) d_Chain_pass_116 (by decide) ?_
    exact j_forget (i := 5) rfl ih

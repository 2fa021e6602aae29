def nxs (T : jT) (f k : Nat) : Nat := jor k (fun i => if f.testBit i = true then T.2 i else 0)
theorem nxs_lt {T : jT} (hT : tw T) (f k : Nat) : nxs T f k < 4096 := jor_lt (m := 12) fun i _ => by
  split
  · exact hT.2.1 i
  · omega
/-- seen, front, after so many steps -/
def fdS (T : jT) (mem l : Nat) : Nat → Nat × Nat
  | 0 => (0, 2 ^ l)
  | s + 1 => ((fdS T mem l s).1 ||| (fdS T mem l s).2, nnd (nxs T (fdS T mem l s).2 T.1 &&& mem) ((fdS T mem l s).1 ||| (fdS T mem l s).2))
theorem fdS_lt {T : jT} {mem l : Nat} (hT : tw T) (hl : l < 12) : ∀ s, (fdS T mem l s).1 < 4096 ∧ (fdS T mem l s).2 < 4096
  | 0 => ⟨by show 0 < 4096; omega, p2_lt hl⟩
  | s + 1 => ⟨Nat.or_lt_two_pow (n := 12) (fdS_lt hT hl s).1 (fdS_lt hT hl s).2, Nat.lt_of_le_of_lt (Nat.le_trans Nat.and_le_left Nat.and_le_left) (nxs_lt hT _ _)⟩
def dsI (H : jH) (f s : Nat) : Nat → jH
  | 0 => H
  | i + 1 => if f.testBit i = true then jup2 (dsI H f s i) 59 i (nI s) else dsI H f s i
def dsO (h : jH) (T : jT) (mem l : Nat) : Nat → jH
  | 0 => h
  | s + 1 => dsI (dsO h T mem l s) (fdS T mem l s).2 s T.1
def dsF (T : jT) (mem l : Nat) : Nat → (Nat → Nat)
  | 0 => fun _ => 0
  | s + 1 => fun i => if (fdS T mem l s).2.testBit i = true then s else dsF T mem l s i
theorem dsI_f {H : jH} {f s a : Nat} (h1 : a ≠ 59) : ∀ i, dsI H f s i a = H a
  | 0 => rfl
  | i + 1 => by
    unfold dsI
    split
    · rw [jup2_f h1, dsI_f h1 i]
    · exact dsI_f h1 i
theorem dsO_f {h : jH} {T : jT} {mem l a : Nat} (h1 : a ≠ 59) : ∀ s, dsO h T mem l s a = h a
  | 0 => rfl
  | s + 1 => by rw [dsO, dsI_f h1, dsO_f h1 s]
theorem dsI_0 {H : jH} {s : Nat} : ∀ i, dsI H 0 s i = H
  | 0 => rfl
  | i + 1 => by rw [dsI, if_neg (by simp), dsI_0 i]
theorem fdS_0 {T : jT} {mem l s : Nat} (h0 : (fdS T mem l s).2 = 0) : (fdS T mem l (s + 1)).2 = 0 := by
  show nnd (nxs T (fdS T mem l s).2 T.1 &&& mem) _ = 0
  have h1 : ∀ k, nxs T 0 k = 0 := fun k => by
    induction k with
    | zero => rfl
    | succ k ih =>
      show nxs T 0 k ||| (if (0 : Nat).testBit k = true then T.2 k else 0) = 0
      rw [ih, if_neg (by simp)]
      rfl
  rw [h0, h1, Nat.zero_and, nnd, Nat.zero_and]
theorem dsO_0 {h : jH} {T : jT} {mem l s : Nat} (h0 : (fdS T mem l s).2 = 0) : ∀ k, dsO h T mem l (s + k) = dsO h T mem l s ∧ (fdS T mem l (s + k)).2 = 0
  | 0 => ⟨rfl, h0⟩
  | k + 1 => by
    obtain ⟨h1, h2⟩ := dsO_0 h0 k
    refine ⟨?_, fdS_0 h2⟩
    show dsI (dsO h T mem l (s + k)) (fdS T mem l (s + k)).2 (s + k) T.1 = _
    rw [h2, dsI_0, h1]
theorem dsI_v {H : jH} {f s z : Nat} : ∀ i, dsI H f s i 59 z = if z < i ∧ f.testBit z = true then nI s else H 59 z
  | 0 => by rw [if_neg (fun q => by omega)]; rfl
  | i + 1 => by
    have ih := dsI_v (H := H) (f := f) (s := s) (z := z) i
    by_cases e : f.testBit i = true
    · rw [show dsI H f s (i + 1) = jup2 (dsI H f s i) 59 i (nI s) from if_pos e]
      simp only [jup2]
      by_cases e2 : z = i
      · rw [if_pos trivial, if_pos e2, if_pos ⟨by omega, by rw [e2]; exact e⟩]
      · rw [if_pos trivial, if_neg e2, ih]
        exact jif_cg e2
    · rw [show dsI H f s (i + 1) = dsI H f s i from if_neg e, ih]
      by_cases e2 : z = i
      · rw [if_neg (fun q => by omega), if_neg (fun q => by rw [e2] at q; exact e q.2)]
      · exact jif_cg e2
/-- what some front had, has its distance -/
theorem dsO_v {h : jH} {T : jT} {mem l z : Nat} (hz : z < T.1) : ∀ s, (∃ t, t < s ∧ (fdS T mem l t).2.testBit z = true) → dsO h T mem l s 59 z = nI (dsF T mem l s z)
  | 0, ⟨t, ht, _⟩ => absurd ht (Nat.not_lt_zero t)
  | s + 1, ⟨t, ht, hb⟩ => by
    rw [dsO, dsI_v]
    show _ = nI (if (fdS T mem l s).2.testBit z = true then s else dsF T mem l s z)
    by_cases e : (fdS T mem l s).2.testBit z = true
    · rw [if_pos ⟨hz, e⟩, if_pos e]
    · rw [if_neg (fun q => e q.2), if_neg e]
      refine dsO_v hz s ⟨t, ?_, hb⟩
      rcases Nat.lt_or_ge t s with q | q
      · exact q
      · have : t = s := by omega
        rw [this] at hb
        exact absurd hb e
theorem dsO_n {h : jH} {T : jT} {mem l z : Nat} : ∀ s, (∀ t, (fdS T mem l t).2.testBit z = false) → dsO h T mem l s 59 z = h 59 z
  | 0, _ => rfl
  | s + 1, hn => by rw [dsO, dsI_v, if_neg (fun q => by rw [hn s] at q; cases q.2), dsO_n s hn]
theorem dsF_le {T : jT} {mem l : Nat} : ∀ s z, dsF T mem l s z ≤ s
  | 0, z => Nat.le_refl _
  | s + 1, z => by
    show (if (fdS T mem l s).2.testBit z = true then s else dsF T mem l s z) ≤ s + 1
    split
    · omega
    · have := dsF_le (T := T) (mem := mem) (l := l) s z; omega
theorem x_findDistances {n : jN} {h : jH} {o : Nat} (ho : isT o) {T : jT} {k mem l : Nat} (hr : rep h o T) (hT : tw T) (hfo : o < 50 ∨ 63 < o) (hk : k < 12) (hls : h 54 k = nI l) (hl : l < 12) (hmb : h 53 k = nI mem) (hm4 : mem < 4096) : jC n 0 jy_Rings_findDistances jc_Rings_findDistances 8 none [.ref 51, .ref o, .int (nI k)] h none (dsO h T mem l T.1) := by
  have hn12 := hT.1
  refine jC_of jm_Rings_findDistances (L := [some (.ref 51), some (.ref o), some (.int (nI k)), none, none, none, none, none]) (Nat.le_of_ble_eq_true rfl) rfl trivial ?_
  generalize hres : ((none, dsO h T mem l T.1) : Option Value × jH) = res
  refine j_iconst (v := nI 0) d_Rings_findDistances_0 rfl ?_
  refine j_istore_n (L' := [some (.ref 51), some (.ref o), some (.int (nI k)), some (.int (nI 0)), none, none, none, none]) d_Rings_findDistances_1 (by decide) rfl rfl ?_
  refine j_iconst (v := nI 1) d_Rings_findDistances_2 rfl ?_
  refine j_aload_n d_Rings_findDistances_3 rfl ?_
  refine j_getr (b := 54) d_Rings_findDistances_4 jf_Rings_18 rfl rfl rfl (by decide) ?_
  refine j_iload_n d_Rings_findDistances_7 rfl ?_
  refine j_ialdN (v := nI l) d_Rings_findDistances_8 rfl (by omega) (by decide) hls ?_
  refine j_shl1N d_Rings_findDistances_9 (by omega) ?_
  refine j_istore (L' := [some (.ref 51), some (.ref o), some (.int (nI k)), some (.int (nI 0)), some (.int (nI (2 ^ l))), none, none, none]) d_Rings_findDistances_10 (by decide) rfl rfl ?_
  refine j_iconst (v := nI 0) d_Rings_findDistances_12 rfl ?_
  refine j_istore (L' := [some (.ref 51), some (.ref o), some (.int (nI k)), some (.int (nI 0)), some (.int (nI (2 ^ l))), some (.int (nI 0)), none, none]) d_Rings_findDistances_13 (by decide) rfl rfl ?_
  refine j_loop (P := fun s => jJ n 0 jc_Rings_findDistances 8 "YesNoPowers$Rings" 15 [some (.ref 51), some (.ref o), some (.int (nI k)), some (.int (nI ((fdS T mem l s).1))), some (.int (nI ((fdS T mem l s).2))), some (.int (nI s)), none, none] [] (dsO h T mem l s) res) (m := T.1) ?_ (fun s hs ih => ?_)
  · have hr3 : rep (dsO h T mem l T.1) o T := rep_of (dsO_f (by omega) T.1) (dsO_f (by omega) T.1) hr
    obtain ⟨hb1, hb2⟩ := fdS_lt (mem := mem) (l := l) hT hl T.1
    refine j_iload d_Rings_findDistances_15 rfl ?_
    refine j_aload_n d_Rings_findDistances_17 rfl ?_
    refine j_getv (v := nI T.1) d_Rings_findDistances_18 jf_Rings_75 ho.1 rfl hr3.1 ?_
    refine j_icmp_geN_t (tgt := 108) d_Rings_findDistances_21 (by decide) (by omega) (by omega) (by omega) ?_
    subst hres
    exact j_retv d_Rings_findDistances_108 rfl
  · have hr3 : rep (dsO h T mem l s) o T := rep_of (dsO_f (by omega) s) (dsO_f (by omega) s) hr
    obtain ⟨hb1, hb2⟩ := fdS_lt (mem := mem) (l := l) hT hl s
    refine j_iload d_Rings_findDistances_15 rfl ?_
    refine j_aload_n d_Rings_findDistances_17 rfl ?_
    refine j_getv (v := nI T.1) d_Rings_findDistances_18 jf_Rings_75 ho.1 rfl hr3.1 ?_
    refine j_icmp_geN_f (tgt := 108) d_Rings_findDistances_21 (by decide) (by omega) (by omega) (by omega) ?_
    refine j_iload d_Rings_findDistances_24 rfl ?_
    refine j_if_eqN (tgt := 108) d_Rings_findDistances_26 (by decide) (by omega) (fun c0 => ?_) (fun c0 => ?_)
    · subst hres
      exact j_retv d_Rings_findDistances_108 (by have := (dsO_0 (h := h) c0 (T.1 - s)).1; rw [show s + (T.1 - s) = T.1 by omega] at this; exact this.symm)
    · refine j_iconst (v := nI 0) d_Rings_findDistances_29 rfl ?_
      refine j_istore (L' := [some (.ref 51), some (.ref o), some (.int (nI k)), some (.int (nI ((fdS T mem l s).1))), some (.int (nI ((fdS T mem l s).2))), some (.int (nI s)), some (.int (nI 0)), none]) d_Rings_findDistances_30 (by decide) rfl rfl ?_
      refine j_iconst (v := nI 0) d_Rings_findDistances_32 rfl ?_
      refine j_istore (L' := [some (.ref 51), some (.ref o), some (.int (nI k)), some (.int (nI ((fdS T mem l s).1))), some (.int (nI ((fdS T mem l s).2))), some (.int (nI s)), some (.int (nI 0)), some (.int (nI 0))]) d_Rings_findDistances_33 (by decide) rfl rfl ?_
      refine j_loop (P := fun i => jJ n 0 jc_Rings_findDistances 8 "YesNoPowers$Rings" 35 [some (.ref 51), some (.ref o), some (.int (nI k)), some (.int (nI ((fdS T mem l s).1))), some (.int (nI ((fdS T mem l s).2))), some (.int (nI s)), some (.int (nI (nxs T (fdS T mem l s).2 i))), some (.int (nI i))] [] (dsI (dsO h T mem l s) (fdS T mem l s).2 s i) res) (m := T.1) ?_ (fun i hi ihi => ?_)
      · have hr4 : rep (dsI (dsO h T mem l s) (fdS T mem l s).2 s T.1) o T := rep_of (dsI_f (by omega) T.1) (dsI_f (by omega) T.1) hr3
        have hnx := nxs_lt hT (fdS T mem l s).2 T.1
        have hna : nxs T (fdS T mem l s).2 T.1 &&& mem < 4096 := Nat.lt_of_le_of_lt Nat.and_le_left hnx
        refine j_iload d_Rings_findDistances_35 rfl ?_
        refine j_aload_n d_Rings_findDistances_37 rfl ?_
        refine j_getv (v := nI T.1) d_Rings_findDistances_38 jf_Rings_75 ho.1 rfl hr4.1 ?_
        refine j_icmp_geN_t (tgt := 82) d_Rings_findDistances_41 (by decide) (by omega) (by omega) (Nat.le_refl _) ?_
        refine j_iload_n d_Rings_findDistances_82 rfl ?_
        refine j_iload d_Rings_findDistances_83 rfl ?_
        refine j_iorN d_Rings_findDistances_85 ?_
        refine j_istore_n (L' := [some (.ref 51), some (.ref o), some (.int (nI k)), some (.int (nI (((fdS T mem l s).1) ||| ((fdS T mem l s).2)))), some (.int (nI ((fdS T mem l s).2))), some (.int (nI s)), some (.int (nI (nxs T (fdS T mem l s).2 T.1))), some (.int (nI T.1))]) d_Rings_findDistances_86 (by decide) rfl rfl ?_
        refine j_iload d_Rings_findDistances_87 rfl ?_
        refine j_aload_n d_Rings_findDistances_89 rfl ?_
        refine j_getr (b := 53) d_Rings_findDistances_90 jf_Rings_15 rfl rfl rfl (by decide) ?_
        refine j_iload_n d_Rings_findDistances_93 rfl ?_
        refine j_ialdN (v := nI mem) d_Rings_findDistances_94 rfl (by omega) (by decide) ((congrFun (dsI_f (by decide) T.1) k).trans ((congrFun (dsO_f (by decide) s) k).trans hmb)) ?_
        refine j_iandN d_Rings_findDistances_95 ?_
        refine j_iload_n d_Rings_findDistances_96 rfl ?_
        refine j_iconst (v := -1) d_Rings_findDistances_97 rfl ?_
        refine j_ixor d_Rings_findDistances_98 ?_
        refine j_iand d_Rings_findDistances_99 ?_
        refine j_top (w := nI ((fdS T mem l (s + 1)).2)) (nnd12 hna) ?_
        refine j_istore (L' := [some (.ref 51), some (.ref o), some (.int (nI k)), some (.int (nI (((fdS T mem l s).1) ||| ((fdS T mem l s).2)))), some (.int (nI ((fdS T mem l (s + 1)).2))), some (.int (nI s)), some (.int (nI (nxs T (fdS T mem l s).2 T.1))), some (.int (nI T.1))]) d_Rings_findDistances_100 (by decide) rfl rfl ?_
        refine j_iincN (x := s) (L' := [some (.ref 51), some (.ref o), some (.int (nI k)), some (.int (nI (((fdS T mem l s).1) ||| ((fdS T mem l s).2)))), some (.int (nI ((fdS T mem l (s + 1)).2))), some (.int (nI (s + 1))), some (.int (nI (nxs T (fdS T mem l s).2 T.1))), some (.int (nI T.1))]) d_Rings_findDistances_102 rfl (by decide) rfl rfl ?_
        refine j_goto (tgt := 15) d_Rings_findDistances_105 (by decide) ?_
        exact j_forget (i := 6) rfl (j_forget (i := 7) rfl ih)
      · have hr4 : rep (dsI (dsO h T mem l s) (fdS T mem l s).2 s i) o T := rep_of (dsI_f (by omega) i) (dsI_f (by omega) i) hr3
        refine j_iload d_Rings_findDistances_35 rfl ?_
        refine j_aload_n d_Rings_findDistances_37 rfl ?_
        refine j_getv (v := nI T.1) d_Rings_findDistances_38 jf_Rings_75 ho.1 rfl hr4.1 ?_
        refine j_icmp_geN_f (tgt := 82) d_Rings_findDistances_41 (by decide) (by omega) (by omega) (Nat.not_le.mpr hi) ?_
        refine j_iload d_Rings_findDistances_44 rfl ?_
        refine j_iload d_Rings_findDistances_46 rfl ?_
        refine j_ishrN d_Rings_findDistances_48 (by omega) (by omega) ?_
        refine j_iconst (v := nI 1) d_Rings_findDistances_49 rfl ?_
        refine j_iandN d_Rings_findDistances_50 ?_
        refine j_top (w := jbo (((fdS T mem l s).2).testBit i)) (ni_bit _ _) ?_
        refine j_iconst (v := nI 1) d_Rings_findDistances_51 rfl ?_
        refine j_icmp_neB (tgt := 76) d_Rings_findDistances_52 (by decide) (fun c => ?_) (fun c => ?_)
        · have hz : dsI (dsO h T mem l s) (fdS T mem l s).2 s (i + 1) = dsI (dsO h T mem l s) (fdS T mem l s).2 s i := if_neg (by rw [c]; decide)
          have hz2 : nxs T (fdS T mem l s).2 i = nxs T (fdS T mem l s).2 (i + 1) := jor_z (if_neg (by rw [c]; decide))
          rw [hz, ← hz2] at ihi
          refine j_iincN (x := i) (L' := [some (.ref 51), some (.ref o), some (.int (nI k)), some (.int (nI ((fdS T mem l s).1))), some (.int (nI ((fdS T mem l s).2))), some (.int (nI s)), some (.int (nI (nxs T (fdS T mem l s).2 i))), some (.int (nI (i + 1)))]) d_Rings_findDistances_76 rfl (by decide) rfl rfl ?_
          refine j_goto (tgt := 35) d_Rings_findDistances_79 (by decide) ?_
          exact ihi
        · have hz : dsI (dsO h T mem l s) (fdS T mem l s).2 s (i + 1) = jup2 (dsI (dsO h T mem l s) (fdS T mem l s).2 s i) 59 i (nI s) := if_pos c
          rw [hz] at ihi
          refine j_aload_n d_Rings_findDistances_55 rfl ?_
          refine j_getr (b := 59) d_Rings_findDistances_56 jf_Rings_33 rfl rfl rfl (by decide) ?_
          refine j_iload d_Rings_findDistances_59 rfl ?_
          refine j_iload d_Rings_findDistances_61 rfl ?_
          refine j_iastN (h' := jup2 (dsI (dsO h T mem l s) (fdS T mem l s).2 s i) 59 i (nI s)) d_Rings_findDistances_63 rfl (by omega) (by decide) rfl ?_
          refine j_iload d_Rings_findDistances_64 rfl ?_
          refine j_aload_n d_Rings_findDistances_66 rfl ?_
          refine j_getr (b := o + 1) d_Rings_findDistances_67 jf_Rings_78 ho.1 rfl ho.2.1 ho.2.2.2 ?_
          refine j_iload d_Rings_findDistances_70 rfl ?_
          refine j_ialdN (v := nI (T.2 i)) d_Rings_findDistances_72 ho.2.2.1 (by omega) (by decide) ((rep_of (jup2_f (by omega)) (jup2_f (by omega)) hr4).2 _ (by omega)) ?_
          refine j_iorN d_Rings_findDistances_73 ?_
          refine j_top (w := nI (nxs T (fdS T mem l s).2 (i + 1))) (congrArg nI (jor_t (if_pos c))) ?_
          refine j_istore (L' := [some (.ref 51), some (.ref o), some (.int (nI k)), some (.int (nI ((fdS T mem l s).1))), some (.int (nI ((fdS T mem l s).2))), some (.int (nI s)), some (.int (nI (nxs T (fdS T mem l s).2 (i + 1)))), some (.int (nI i))]) d_Rings_findDistances_74 (by decide) rfl rfl ?_
          refine j_iincN (x := i) (L' := [some (.ref 51), some (.ref o), some (.int (nI k)), some (.int (nI ((fdS T mem l s).1))), some (.int (nI ((fdS T mem l s).2))), some (.int (nI s)), some (.int (nI (nxs T (fdS T mem l s).2 (i + 1)))), some (.int (nI (i + 1)))]) d_Rings_findDistances_76 rfl (by decide) rfl rfl ?_
          refine j_goto (tgt := 35) d_Rings_findDistances_79 (by decide) ?_
          exact ihi
def adf (a b : Nat) : Nat := if b ≤ a then a - b else b - a
theorem abs14 : ∀ a, a < 14 → ∀ b, b < 14 → (0 ≤ nI a - nI b → nI a - nI b = nI (adf a b)) ∧ (¬ 0 ≤ nI a - nI b → -(nI a - nI b) = nI (adf a b)) := by decide +kernel
def eus (s : Nat × Nat) : Nat → Nat × Nat
  | 0 => s
  | j + 1 => ((eus s j).2, (eus s j).1 % (eus s j).2)
def euq (s : Nat × Nat) : Nat → Nat → Nat
  | 0, j => j
  | f + 1, j => if (eus s j).2 = 0 then j else euq s f (j + 1)
theorem eus14 : ∀ a, a < 14 → ∀ b, b < 14 → euq (a, b) 12 0 < 12 ∧ (eus (a, b) (euq (a, b) 12 0)).2 = 0 ∧ (eus (a, b) (euq (a, b) 12 0)).1 = Nat.gcd a b ∧ ∀ j, j < euq (a, b) 12 0 → ¬ (eus (a, b) j).2 = 0 := by decide +kernel
theorem eus_le {a b : Nat} (ha : a < 14) (hb : b < 14) : ∀ j, (eus (a, b) j).1 < 14 ∧ (eus (a, b) j).2 < 14
  | 0 => ⟨ha, hb⟩
  | j + 1 => ⟨(eus_le ha hb j).2, Nat.lt_of_le_of_lt (Nat.mod_le _ _) (eus_le ha hb j).1⟩
theorem x_abs {n : jN} {h : jH} {a b : Nat} (ha : a < 14) (hb : b < 14) : jC n 0 jy_J_abs jc_J_abs 1 (some .int) [.int (nI a - nI b)] h (some (.int (nI (adf a b)))) h := by
  refine jC_of jm_J_abs (L := [some (.int (nI a - nI b))]) (Nat.le_of_ble_eq_true rfl) rfl trivial ?_
  generalize hres : (((some (.int (nI (adf a b)))), h) : Option Value × jH) = res
  have h14 := abs14 a ha b hb
  refine j_iload_n d_J_abs_0 rfl ?_
  refine j_if_ge (tgt := 9) d_J_abs_1 (by decide) (fun c => ?_) (fun c => ?_)
  · refine j_iload_n d_J_abs_9 rfl ?_
    subst hres
    exact j_reti d_J_abs_10 (by first | exact h14.1 c | exact h14.2 c | exact h14.1 (Int32.not_lt.mp c) | exact h14.2 (Int32.not_le.mpr c)) rfl
  · refine j_iload_n d_J_abs_4 rfl ?_
    refine j_ineg d_J_abs_5 ?_
    refine j_goto (tgt := 10) d_J_abs_6 (by decide) ?_
    subst hres
    exact j_reti d_J_abs_10 (by first | exact h14.1 c | exact h14.2 c | exact h14.1 (Int32.not_lt.mp c) | exact h14.2 (Int32.not_le.mpr c)) rfl
theorem x_commonDivisor {n : jN} {h : jH} {a b : Nat} (ha : a < 14) (hb : b < 14) : jC n 0 jy_Rings_commonDivisor jc_Rings_commonDivisor 6 (some .int) [.int (nI a), .int (nI b)] h (some (.int (nI (Nat.gcd a b)))) h := by
  refine jC_of jm_Rings_commonDivisor (L := [some (.int (nI a)), some (.int (nI b)), none, none, none, none]) (Nat.le_of_ble_eq_true rfl) rfl trivial ?_
  generalize hres : (((some (.int (nI (Nat.gcd a b)))), h) : Option Value × jH) = res
  obtain ⟨hq1, hq2, hq3, hq4⟩ := eus14 a ha b hb
  generalize euq (a, b) 12 0 = q at hq1 hq2 hq3 hq4
  refine j_iload_n d_Rings_commonDivisor_0 rfl ?_
  refine j_istore_n (L' := [some (.int (nI a)), some (.int (nI b)), some (.int (nI a)), none, none, none]) d_Rings_commonDivisor_1 (by decide) rfl rfl ?_
  refine j_iload_n d_Rings_commonDivisor_2 rfl ?_
  refine j_istore_n (L' := [some (.int (nI a)), some (.int (nI b)), some (.int (nI a)), some (.int (nI b)), none, none]) d_Rings_commonDivisor_3 (by decide) rfl rfl ?_
  refine j_iconst (v := nI 0) d_Rings_commonDivisor_4 rfl ?_
  refine j_istore (L' := [some (.int (nI a)), some (.int (nI b)), some (.int (nI a)), some (.int (nI b)), some (.int (nI 0)), none]) d_Rings_commonDivisor_5 (by decide) rfl rfl ?_
  refine j_loop (P := fun j => jJ n 0 jc_Rings_commonDivisor 6 "YesNoPowers$Rings" 7 [some (.int (nI a)), some (.int (nI b)), some (.int (nI ((eus (a, b) j).1))), some (.int (nI ((eus (a, b) j).2))), some (.int (nI j)), none] [] h res) (m := q) ?_ (fun j hj ih => ?_)
  · obtain ⟨hl1, hl2⟩ := eus_le ha hb q
    refine j_iload d_Rings_commonDivisor_7 rfl ?_
    refine j_bipush (v := nI 12) d_Rings_commonDivisor_9 (by decide) ?_
    refine j_icmp_geN_f (tgt := 34) d_Rings_commonDivisor_11 (by decide) (by omega) (by omega) (by omega) ?_
    refine j_iload_n d_Rings_commonDivisor_14 rfl ?_
    refine j_if_eqN_t (tgt := 34) d_Rings_commonDivisor_15 (by decide) (by omega) hq2 ?_
    refine j_iload_n d_Rings_commonDivisor_34 rfl ?_
    subst hres
    exact j_reti d_Rings_commonDivisor_35 (congrArg nI hq3) rfl
  · obtain ⟨hl1, hl2⟩ := eus_le ha hb j
    refine j_iload d_Rings_commonDivisor_7 rfl ?_
    refine j_bipush (v := nI 12) d_Rings_commonDivisor_9 (by decide) ?_
    refine j_icmp_geN_f (tgt := 34) d_Rings_commonDivisor_11 (by decide) (by omega) (by omega) (by omega) ?_
    refine j_iload_n d_Rings_commonDivisor_14 rfl ?_
    refine j_if_eqN_f (tgt := 34) d_Rings_commonDivisor_15 (by decide) (by omega) (hq4 j hj) ?_
    have h0 := hq4 j hj
    refine j_iload_n d_Rings_commonDivisor_18 rfl ?_
    refine j_iload_n d_Rings_commonDivisor_19 rfl ?_
    refine j_iremN d_Rings_commonDivisor_20 (by omega) (by omega) (by omega) ?_
    refine j_istore (L' := [some (.int (nI a)), some (.int (nI b)), some (.int (nI ((eus (a, b) j).1))), some (.int (nI ((eus (a, b) j).2))), some (.int (nI j)), some (.int (nI (((eus (a, b) j).1) % ((eus (a, b) j).2))))]) d_Rings_commonDivisor_21 (by decide) rfl rfl ?_
    refine j_iload_n d_Rings_commonDivisor_23 rfl ?_
    refine j_istore_n (L' := [some (.int (nI a)), some (.int (nI b)), some (.int (nI ((eus (a, b) j).2))), some (.int (nI ((eus (a, b) j).2))), some (.int (nI j)), some (.int (nI (((eus (a, b) j).1) % ((eus (a, b) j).2))))]) d_Rings_commonDivisor_24 (by decide) rfl rfl ?_
    refine j_iload d_Rings_commonDivisor_25 rfl ?_
    refine j_istore_n (L' := [some (.int (nI a)), some (.int (nI b)), some (.int (nI ((eus (a, b) j).2))), some (.int (nI (((eus (a, b) j).1) % ((eus (a, b) j).2)))), some (.int (nI j)), some (.int (nI (((eus (a, b) j).1) % ((eus (a, b) j).2))))]) d_Rings_commonDivisor_27 (by decide) rfl rfl ?_
    refine j_iincN (x := j) (L' := [some (.int (nI a)), some (.int (nI b)), some (.int (nI ((eus (a, b) j).2))), some (.int (nI (((eus (a, b) j).1) % ((eus (a, b) j).2)))), some (.int (nI (j + 1))), some (.int (nI (((eus (a, b) j).1) % ((eus (a, b) j).2))))]) d_Rings_commonDivisor_28 rfl (by decide) rfl rfl ?_
    refine j_goto (tgt := 7) d_Rings_commonDivisor_31 (by decide) ?_
    exact j_forget (i := 5) rfl ih
def pdJ (t : Nat → Bool) (A : Nat → Nat) (d : Nat) : Nat → Nat
  | 0 => d
  | j + 1 => if t j = true then Nat.gcd (A j) (pdJ t A d j) else pdJ t A d j
def pdt (T : jT) (hm : Nat → Nat) (k i j : Nat) : Bool := decide (hm i = k) && decide (hm j = k) && (T.2 i).testBit j
def pdO (T : jT) (hm D : Nat → Nat) (k : Nat) : Nat → Nat
  | 0 => 0
  | i + 1 => pdJ (pdt T hm k i) (fun j => adf (D i + 1) (D j)) (pdO T hm D k i) T.1
theorem pdJ_lt {t : Nat → Bool} {A : Nat → Nat} {d m : Nat} (hd : d < 14) (hA : ∀ j, j < m → t j = true → A j < 14) : ∀ j, j ≤ m → pdJ t A d j < 14
  | 0, _ => hd
  | j + 1, hj => by
    have ih := pdJ_lt hd hA j (by omega)
    by_cases e : t j = true
    · rw [show pdJ t A d (j + 1) = Nat.gcd (A j) (pdJ t A d j) from if_pos e]
      rcases Nat.eq_zero_or_pos (pdJ t A d j) with q | q
      · rw [q, Nat.gcd_zero_right]
        exact hA j (by omega) e
      · exact Nat.lt_of_le_of_lt (Nat.gcd_le_right _ q) ih
    · rw [show pdJ t A d (j + 1) = pdJ t A d j from if_neg e]
      exact ih
theorem adf_lt {a b : Nat} (ha : a < 14) (hb : b < 14) : adf a b < 14 := by
  unfold adf
  split <;> omega
theorem pdt_t {T : jT} {hm : Nat → Nat} {k i j : Nat} (h : pdt T hm k i j = true) : hm i = k ∧ hm j = k ∧ (T.2 i).testBit j = true := by
  simp only [pdt, Bool.and_eq_true, decide_eq_true_eq] at h
  exact ⟨h.1.1, h.1.2, h.2⟩
theorem pdO_lt {T : jT} {hm D : Nat → Nat} {k : Nat} (hD : ∀ i, i < T.1 → hm i = k → D i ≤ 12) : ∀ i, i ≤ T.1 → pdO T hm D k i < 14
  | 0, _ => by show 0 < 14; omega
  | i + 1, hi => pdJ_lt (pdO_lt hD i (by omega)) (fun j hj ht => by
    obtain ⟨h1, h2, h3⟩ := pdt_t ht
    have := hD i (by omega) h1
    have := hD j hj h2
    exact adf_lt (by omega) (by omega)) T.1 (Nat.le_refl _)
theorem x_rfindPeriod {n : jN} {h : jH} {o : Nat} (ho : isT o) {T : jT} {k nb : Nat} {hm D : Nat → Nat} (hr : rep h o T) (hT : tw T) (hfo : o < 50 ∨ 63 < o) (hrk : rgk h T.1 nb hm) (hk : k < 12) (hD : ∀ i, i < T.1 → hm i = k → h 59 i = nI (D i) ∧ D i ≤ 12) : jC n 1 jy_Rings_findPeriod jc_Rings_findPeriod 6 none [.ref 51, .ref o, .int (nI k)] h none (jup2 h 56 k (nI (pdO T hm D k T.1))) := by
  have hn12 := hT.1
  refine jC_of jm_Rings_findPeriod (L := [some (.ref 51), some (.ref o), some (.int (nI k)), none, none, none]) (Nat.le_of_ble_eq_true rfl) rfl trivial ?_
  generalize hres : ((none, jup2 h 56 k (nI (pdO T hm D k T.1))) : Option Value × jH) = res
  obtain ⟨hk1, hk2, hk3, hk4⟩ := id hrk
  refine j_iconst (v := nI 0) d_Rings_findPeriod_0 rfl ?_
  refine j_istore_n (L' := [some (.ref 51), some (.ref o), some (.int (nI k)), some (.int (nI 0)), none, none]) d_Rings_findPeriod_1 (by decide) rfl rfl ?_
  refine j_iconst (v := nI 0) d_Rings_findPeriod_2 rfl ?_
  refine j_istore (L' := [some (.ref 51), some (.ref o), some (.int (nI k)), some (.int (nI 0)), some (.int (nI 0)), none]) d_Rings_findPeriod_3 (by decide) rfl rfl ?_
  refine j_loop (P := fun i => jJ n 1 jc_Rings_findPeriod 6 "YesNoPowers$Rings" 5 [some (.ref 51), some (.ref o), some (.int (nI k)), some (.int (nI (pdO T hm D k i))), some (.int (nI i)), none] [] h res) (m := T.1) ?_ (fun i hi ih => ?_)
  · refine j_iload d_Rings_findPeriod_5 rfl ?_
    refine j_aload_n d_Rings_findPeriod_7 rfl ?_
    refine j_getv (v := nI T.1) d_Rings_findPeriod_8 jf_Rings_75 ho.1 rfl hr.1 ?_
    refine j_icmp_geN_t (tgt := 97) d_Rings_findPeriod_11 (by decide) (by omega) (by omega) (Nat.le_refl _) ?_
    refine j_aload_n d_Rings_findPeriod_97 rfl ?_
    refine j_getr (b := 56) d_Rings_findPeriod_98 jf_Rings_24 rfl rfl rfl (by decide) ?_
    refine j_iload_n d_Rings_findPeriod_101 rfl ?_
    refine j_iload_n d_Rings_findPeriod_102 rfl ?_
    refine j_iastN (h' := jup2 h 56 k (nI (pdO T hm D k T.1))) d_Rings_findPeriod_103 rfl (by omega) (by decide) rfl ?_
    subst hres
    exact j_retv d_Rings_findPeriod_104 rfl
  · refine j_iload d_Rings_findPeriod_5 rfl ?_
    refine j_aload_n d_Rings_findPeriod_7 rfl ?_
    refine j_getv (v := nI T.1) d_Rings_findPeriod_8 jf_Rings_75 ho.1 rfl hr.1 ?_
    refine j_icmp_geN_f (tgt := 97) d_Rings_findPeriod_11 (by decide) (by omega) (by omega) (Nat.not_le.mpr hi) ?_
    refine j_iconst (v := nI 0) d_Rings_findPeriod_14 rfl ?_
    refine j_istore (L' := [some (.ref 51), some (.ref o), some (.int (nI k)), some (.int (nI (pdO T hm D k i))), some (.int (nI i)), some (.int (nI 0))]) d_Rings_findPeriod_15 (by decide) rfl rfl ?_
    refine j_loop (P := fun j => jJ n 1 jc_Rings_findPeriod 6 "YesNoPowers$Rings" 17 [some (.ref 51), some (.ref o), some (.int (nI k)), some (.int (nI (pdJ (pdt T hm k i) (fun j => adf (D i + 1) (D j)) (pdO T hm D k i) j))), some (.int (nI i)), some (.int (nI j))] [] h res) (m := T.1) ?_ (fun j hj ihj => ?_)
    · refine j_iload d_Rings_findPeriod_17 rfl ?_
      refine j_aload_n d_Rings_findPeriod_19 rfl ?_
      refine j_getv (v := nI T.1) d_Rings_findPeriod_20 jf_Rings_75 ho.1 rfl hr.1 ?_
      refine j_icmp_geN_t (tgt := 91) d_Rings_findPeriod_23 (by decide) (by omega) (by omega) (Nat.le_refl _) ?_
      refine j_iincN (x := i) (L' := [some (.ref 51), some (.ref o), some (.int (nI k)), some (.int (nI (pdJ (pdt T hm k i) (fun j => adf (D i + 1) (D j)) (pdO T hm D k i) T.1))), some (.int (nI (i + 1))), some (.int (nI T.1))]) d_Rings_findPeriod_91 rfl (by decide) rfl rfl ?_
      refine j_goto (tgt := 5) d_Rings_findPeriod_94 (by decide) ?_
      exact j_forget (i := 5) rfl ih
    · have hi4 := hk4 i hi
      have hj4 := hk4 j hj
      have hpl : pdJ (pdt T hm k i) (fun j => adf (D i + 1) (D j)) (pdO T hm D k i) j < 14 := pdJ_lt (pdO_lt (fun i hi hk => (hD i hi hk).2) i (by omega)) (fun z hz ht => by obtain ⟨h1, h2, h3⟩ := pdt_t ht; have := (hD i hi h1).2; have := (hD z hz h2).2; exact adf_lt (by omega) (by omega)) j (by omega)
      refine j_iload d_Rings_findPeriod_17 rfl ?_
      refine j_aload_n d_Rings_findPeriod_19 rfl ?_
      refine j_getv (v := nI T.1) d_Rings_findPeriod_20 jf_Rings_75 ho.1 rfl hr.1 ?_
      refine j_icmp_geN_f (tgt := 91) d_Rings_findPeriod_23 (by decide) (by omega) (by omega) (Nat.not_le.mpr hj) ?_
      refine j_aload_n d_Rings_findPeriod_26 rfl ?_
      refine j_getr (b := 52) d_Rings_findPeriod_27 jf_Rings_9 rfl rfl rfl (by decide) ?_
      refine j_iload d_Rings_findPeriod_30 rfl ?_
      refine j_ialdN (v := nI (hm i)) d_Rings_findPeriod_32 rfl (by omega) (by decide) (hk3 i hi) ?_
      refine j_iload_n d_Rings_findPeriod_33 rfl ?_
      refine j_icmp_neN (tgt := 85) d_Rings_findPeriod_34 (by decide) (by omega) (by omega) (fun c1 => ?_) (fun c1 => ?_)
      · have hz : pdJ (pdt T hm k i) (fun j => adf (D i + 1) (D j)) (pdO T hm D k i) (j + 1) = pdJ (pdt T hm k i) (fun j => adf (D i + 1) (D j)) (pdO T hm D k i) j := if_neg (fun z => by obtain ⟨h1, h2, h3⟩ := pdt_t z; exact c1 h1)
        rw [hz] at ihj
        refine j_iincN (x := j) (L' := [some (.ref 51), some (.ref o), some (.int (nI k)), some (.int (nI (pdJ (pdt T hm k i) (fun j => adf (D i + 1) (D j)) (pdO T hm D k i) j))), some (.int (nI i)), some (.int (nI (j + 1)))]) d_Rings_findPeriod_85 rfl (by decide) rfl rfl ?_
        refine j_goto (tgt := 17) d_Rings_findPeriod_88 (by decide) ?_
        exact ihj
      · refine j_aload_n d_Rings_findPeriod_37 rfl ?_
        refine j_getr (b := 52) d_Rings_findPeriod_38 jf_Rings_9 rfl rfl rfl (by decide) ?_
        refine j_iload d_Rings_findPeriod_41 rfl ?_
        refine j_ialdN (v := nI (hm j)) d_Rings_findPeriod_43 rfl (by omega) (by decide) (hk3 j hj) ?_
        refine j_iload_n d_Rings_findPeriod_44 rfl ?_
        refine j_icmp_neN (tgt := 85) d_Rings_findPeriod_45 (by decide) (by omega) (by omega) (fun c2 => ?_) (fun c2 => ?_)
        · have hz : pdJ (pdt T hm k i) (fun j => adf (D i + 1) (D j)) (pdO T hm D k i) (j + 1) = pdJ (pdt T hm k i) (fun j => adf (D i + 1) (D j)) (pdO T hm D k i) j := if_neg (fun z => by obtain ⟨h1, h2, h3⟩ := pdt_t z; exact c2 h2)
          rw [hz] at ihj
          refine j_iincN (x := j) (L' := [some (.ref 51), some (.ref o), some (.int (nI k)), some (.int (nI (pdJ (pdt T hm k i) (fun j => adf (D i + 1) (D j)) (pdO T hm D k i) j))), some (.int (nI i)), some (.int (nI (j + 1)))]) d_Rings_findPeriod_85 rfl (by decide) rfl rfl ?_
          refine j_goto (tgt := 17) d_Rings_findPeriod_88 (by decide) ?_
          exact ihj
        · refine j_aload_n d_Rings_findPeriod_48 rfl ?_
          refine j_iload d_Rings_findPeriod_49 rfl ?_
          refine j_iload d_Rings_findPeriod_51 rfl ?_
          refine j_callVs (As := [.int (nI i), .int (nI j)]) (st := []) (x_entry (r := (T).2 i) ho (by omega) (by omega) (hr.2 _ (by omega)) (tw_lt hT _)) d_Rings_findPeriod_53 (by decide) jm_Table_entry jk_Rings_89 ji_Table_entry js_Table_entry ho.1 (by decide) rfl rfl (Nat.le_of_ble_eq_true rfl) rfl ?_
          refine j_iconst (v := nI 1) d_Rings_findPeriod_56 rfl ?_
          refine j_icmp_neB (tgt := 85) d_Rings_findPeriod_57 (by decide) (fun c3 => ?_) (fun c3 => ?_)
          · have hz : pdJ (pdt T hm k i) (fun j => adf (D i + 1) (D j)) (pdO T hm D k i) (j + 1) = pdJ (pdt T hm k i) (fun j => adf (D i + 1) (D j)) (pdO T hm D k i) j := if_neg (fun z => by obtain ⟨h1, h2, h3⟩ := pdt_t z; rw [c3] at h3; cases h3)
            rw [hz] at ihj
            refine j_iincN (x := j) (L' := [some (.ref 51), some (.ref o), some (.int (nI k)), some (.int (nI (pdJ (pdt T hm k i) (fun j => adf (D i + 1) (D j)) (pdO T hm D k i) j))), some (.int (nI i)), some (.int (nI (j + 1)))]) d_Rings_findPeriod_85 rfl (by decide) rfl rfl ?_
            refine j_goto (tgt := 17) d_Rings_findPeriod_88 (by decide) ?_
            exact ihj
          · obtain ⟨hd1, hd2⟩ := hD i hi c1
            obtain ⟨hd3, hd4⟩ := hD j hj c2
            have hz : pdJ (pdt T hm k i) (fun j => adf (D i + 1) (D j)) (pdO T hm D k i) (j + 1) = Nat.gcd (adf (D i + 1) (D j)) (pdJ (pdt T hm k i) (fun j => adf (D i + 1) (D j)) (pdO T hm D k i) j) := if_pos (by simp only [pdt, Bool.and_eq_true, decide_eq_true_eq]; exact ⟨⟨c1, c2⟩, c3⟩)
            rw [hz] at ihj
            refine j_aload_n d_Rings_findPeriod_60 rfl ?_
            refine j_getr (b := 59) d_Rings_findPeriod_61 jf_Rings_33 rfl rfl rfl (by decide) ?_
            refine j_iload d_Rings_findPeriod_64 rfl ?_
            refine j_ialdN (v := nI (D i)) d_Rings_findPeriod_66 rfl (by omega) (by decide) hd1 ?_
            refine j_iconst (v := nI 1) d_Rings_findPeriod_67 rfl ?_
            refine j_iaddN d_Rings_findPeriod_68 ?_
            refine j_aload_n d_Rings_findPeriod_69 rfl ?_
            refine j_getr (b := 59) d_Rings_findPeriod_70 jf_Rings_33 rfl rfl rfl (by decide) ?_
            refine j_iload d_Rings_findPeriod_73 rfl ?_
            refine j_ialdN (v := nI (D j)) d_Rings_findPeriod_75 rfl (by omega) (by decide) hd3 ?_
            refine j_isub d_Rings_findPeriod_76 ?_
            refine j_callSs (As := [.int ((nI ((D i) + 1)) - (nI (D j)))]) (st := []) (x_abs (by omega) (by omega)) d_Rings_findPeriod_77 (by decide) jm_J_abs jk_Rings_99 js_J_abs rfl (Nat.le_of_ble_eq_true rfl) rfl ?_
            refine j_iload_n d_Rings_findPeriod_80 rfl ?_
            refine j_callSs (As := [.int (nI (adf (D i + 1) (D j))), .int (nI (pdJ (pdt T hm k i) (fun j => adf (D i + 1) (D j)) (pdO T hm D k i) j))]) (st := []) (x_commonDivisor (adf_lt (by omega) (by omega)) hpl) d_Rings_findPeriod_81 (by decide) jm_Rings_commonDivisor jk_Rings_104 js_Rings_commonDivisor rfl (Nat.le_of_ble_eq_true rfl) rfl ?_
            refine j_istore_n (L' := [some (.ref 51), some (.ref o), some (.int (nI k)), some (.int (nI (Nat.gcd (adf (D i + 1) (D j)) (pdJ (pdt T hm k i) (fun j => adf (D i + 1) (D j)) (pdO T hm D k i) j)))), some (.int (nI i)), some (.int (nI j))]) d_Rings_findPeriod_84 (by decide) rfl rfl ?_
            refine j_iincN (x := j) (L' := [some (.ref 51), some (.ref o), some (.int (nI k)), some (.int (nI (Nat.gcd (adf (D i + 1) (D j)) (pdJ (pdt T hm k i) (fun j => adf (D i + 1) (D j)) (pdO T hm D k i) j)))), some (.int (nI i)), some (.int (nI (j + 1)))]) d_Rings_findPeriod_85 rfl (by decide) rfl rfl ?_
            refine j_goto (tgt := 17) d_Rings_findPeriod_88 (by decide) ?_
            exact ihj
def bwF (T : jT) (ls : Nat → Nat) (k m : Nat) : Nat := jor m (fun i => if ¬ i = k ∧ ((tclo T).2 (ls k)).testBit (ls i) = true then 2 ^ i else 0)
theorem x_findBelow {n : jN} {h : jH} {T : jT} {k nb : Nat} {ls : Nat → Nat} (hrc : rep h 60 (tclo T)) (hT : tw T) (hn : h 51 0 = nI nb) (hnb : nb ≤ 12) (hk : k < nb) (hls : ∀ i, i < nb → h 54 i = nI (ls i)) (hls2 : ∀ i, i < nb → ls i < T.1) : jC n 1 jy_Rings_findBelow jc_Rings_findBelow 4 none [.ref 51, .int (nI k)] h none (jup2 h 58 k (nI (bwF T ls k nb))) := by
  have hn12 := hT.1
  refine jC_of jm_Rings_findBelow (L := [some (.ref 51), some (.int (nI k)), none, none]) (Nat.le_of_ble_eq_true rfl) rfl trivial ?_
  generalize hres : ((none, jup2 h 58 k (nI (bwF T ls k nb))) : Option Value × jH) = res
  refine j_iconst (v := nI 0) d_Rings_findBelow_0 rfl ?_
  refine j_istore_n (L' := [some (.ref 51), some (.int (nI k)), some (.int (nI 0)), none]) d_Rings_findBelow_1 (by decide) rfl rfl ?_
  refine j_iconst (v := nI 0) d_Rings_findBelow_2 rfl ?_
  refine j_istore_n (L' := [some (.ref 51), some (.int (nI k)), some (.int (nI 0)), some (.int (nI 0))]) d_Rings_findBelow_3 (by decide) rfl rfl ?_
  refine j_loop (P := fun i => jJ n 1 jc_Rings_findBelow 4 "YesNoPowers$Rings" 4 [some (.ref 51), some (.int (nI k)), some (.int (nI (bwF T ls k i))), some (.int (nI i))] [] h res) (m := nb) ?_ (fun i hi ih => ?_)
  · refine j_iload_n d_Rings_findBelow_4 rfl ?_
    refine j_aload_n d_Rings_findBelow_5 rfl ?_
    refine j_getv (v := nI nb) d_Rings_findBelow_6 jf_Rings_54 rfl rfl hn ?_
    refine j_icmp_geN_t (tgt := 52) d_Rings_findBelow_9 (by decide) (by omega) (by omega) (Nat.le_refl _) ?_
    refine j_aload_n d_Rings_findBelow_52 rfl ?_
    refine j_getr (b := 58) d_Rings_findBelow_53 jf_Rings_30 rfl rfl rfl (by decide) ?_
    refine j_iload_n d_Rings_findBelow_56 rfl ?_
    refine j_iload_n d_Rings_findBelow_57 rfl ?_
    refine j_iastN (h' := jup2 h 58 k (nI (bwF T ls k nb))) d_Rings_findBelow_58 rfl (by omega) (by decide) rfl ?_
    subst hres
    exact j_retv d_Rings_findBelow_59 rfl
  · have hl1 := hls2 k hk
    have hl2 := hls2 i hi
    have hc1 : (tclo T).1 = T.1 := rfl
    refine j_iload_n d_Rings_findBelow_4 rfl ?_
    refine j_aload_n d_Rings_findBelow_5 rfl ?_
    refine j_getv (v := nI nb) d_Rings_findBelow_6 jf_Rings_54 rfl rfl hn ?_
    refine j_icmp_geN_f (tgt := 52) d_Rings_findBelow_9 (by decide) (by omega) (by omega) (Nat.not_le.mpr hi) ?_
    refine j_iload_n d_Rings_findBelow_12 rfl ?_
    refine j_iload_n d_Rings_findBelow_13 rfl ?_
    refine j_icmp_eqN (tgt := 46) d_Rings_findBelow_14 (by decide) (by omega) (by omega) (fun c1 => ?_) (fun c1 => ?_)
    · have hz : bwF T ls k i = bwF T ls k (i + 1) := jor_z (if_neg (fun z => z.1 c1))
      rw [← hz] at ih
      refine j_iincN (x := i) (L' := [some (.ref 51), some (.int (nI k)), some (.int (nI (bwF T ls k i))), some (.int (nI (i + 1)))]) d_Rings_findBelow_46 rfl (by decide) rfl rfl ?_
      refine j_goto (tgt := 4) d_Rings_findBelow_49 (by decide) ?_
      exact ih
    · refine j_aload_n d_Rings_findBelow_17 rfl ?_
      refine j_getr (b := 60) d_Rings_findBelow_18 jf_Rings_37 rfl rfl rfl (by decide) ?_
      refine j_aload_n d_Rings_findBelow_21 rfl ?_
      refine j_getr (b := 54) d_Rings_findBelow_22 jf_Rings_18 rfl rfl rfl (by decide) ?_
      refine j_iload_n d_Rings_findBelow_25 rfl ?_
      refine j_ialdN (v := nI (ls k)) d_Rings_findBelow_26 rfl (by omega) (by decide) (hls k hk) ?_
      refine j_aload_n d_Rings_findBelow_27 rfl ?_
      refine j_getr (b := 54) d_Rings_findBelow_28 jf_Rings_18 rfl rfl rfl (by decide) ?_
      refine j_iload_n d_Rings_findBelow_31 rfl ?_
      refine j_ialdN (v := nI (ls i)) d_Rings_findBelow_32 rfl (by omega) (by decide) (hls i hi) ?_
      refine j_callVs (As := [.int (nI (ls k)), .int (nI (ls i))]) (st := []) (x_entry (r := (tclo T).2 (ls k)) isT_60 (by omega) (by omega) (hrc.2 _ (by omega)) (tw_lt (tw_clo hT) _)) d_Rings_findBelow_33 (by decide) jm_Table_entry jk_Rings_89 ji_Table_entry js_Table_entry rfl (by decide) rfl rfl (Nat.le_of_ble_eq_true rfl) rfl ?_
      refine j_iconst (v := nI 1) d_Rings_findBelow_36 rfl ?_
      refine j_icmp_neB (tgt := 46) d_Rings_findBelow_37 (by decide) (fun c2 => ?_) (fun c2 => ?_)
      · have hz : bwF T ls k i = bwF T ls k (i + 1) := jor_z (if_neg (fun z => absurd (z.2.symm.trans c2) (by decide)))
        rw [← hz] at ih
        refine j_iincN (x := i) (L' := [some (.ref 51), some (.int (nI k)), some (.int (nI (bwF T ls k i))), some (.int (nI (i + 1)))]) d_Rings_findBelow_46 rfl (by decide) rfl rfl ?_
        refine j_goto (tgt := 4) d_Rings_findBelow_49 (by decide) ?_
        exact ih
      · refine j_iload_n d_Rings_findBelow_40 rfl ?_
        refine j_iconst (v := nI 1) d_Rings_findBelow_41 rfl ?_
        refine j_iload_n d_Rings_findBelow_42 rfl ?_
        refine j_shl1N d_Rings_findBelow_43 (by omega) ?_
        refine j_iorN d_Rings_findBelow_44 ?_
        refine j_top (w := nI (bwF T ls k (i + 1))) (congrArg nI (jor_t (if_pos ⟨c1, c2⟩))) ?_
        refine j_istore_n (L' := [some (.ref 51), some (.int (nI k)), some (.int (nI (bwF T ls k (i + 1)))), some (.int (nI i))]) d_Rings_findBelow_45 (by decide) rfl rfl ?_
        refine j_iincN (x := i) (L' := [some (.ref 51), some (.int (nI k)), some (.int (nI (bwF T ls k (i + 1)))), some (.int (nI (i + 1)))]) d_Rings_findBelow_46 rfl (by decide) rfl rfl ?_
        refine j_goto (tgt := 4) d_Rings_findBelow_49 (by decide) ?_
        exact ih

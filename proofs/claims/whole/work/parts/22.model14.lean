/-- what the rows of the classes hold -/
def jko (h : jH) (m : Nat) (C Rc : Nat → Nat) (Wk : Nat → Nat → Nat) (M : Nat) : Prop := (∀ i, i < m → h 143 i = nI (C i)) ∧ (∀ i, i < m → C i < M) ∧ (∀ i, i < m → h 144 i = nI (Rc i)) ∧ (∀ i, i < m → Rc i < 4096) ∧ (∀ q i, q ≤ m → i < m → h 145 (12 * q + i) = nI (Wk q i)) ∧ (∀ q i, q ≤ m → i < m → Wk q i < 4096) ∧ h 135 13 = nI M ∧ M ≤ 12
def memb (C : Nat → Nat) (k m : Nat) : Nat := jor m (fun i => if C i = k then 2 ^ i else 0)
def rou (C : Nat → Nat) (Wk : Nat → Nat → Nat) (k q i : Nat) : Bool := decide (C i = k) && (Wk q i).testBit i
def dvI (t : Nat → Bool) (q d : Nat) : Nat → Nat
  | 0 => d
  | i + 1 => if t i then Nat.gcd (dvI t q d i) q else dvI t q d i
def dvO (t : Nat → Nat → Bool) (m : Nat) : Nat → Nat
  | 0 => 0
  | q + 1 => dvI (t (q + 1)) (q + 1) (dvO t m q) m
def fiI (t : Nat → Bool) (q d : Nat) : Nat → Nat
  | 0 => d
  | i + 1 => if t i && decide (fiI t q d i = 0) then q else fiI t q d i
def fiO (t : Nat → Nat → Bool) (m : Nat) : Nat → Nat
  | 0 => 0
  | q + 1 => fiI (t (q + 1)) (q + 1) (fiO t m q) m
def blw (C : Nat → Nat) (r k m : Nat) : Nat := jor m (fun i => if r.testBit i && !(decide (C i = k)) then 2 ^ C i else 0)
theorem dvI_le {t : Nat → Bool} {q d b : Nat} (hd : d ≤ b) (hq : q ≤ b) (h0 : 0 < q) : ∀ i, dvI t q d i ≤ b
  | 0 => hd
  | i + 1 => by
    unfold dvI
    split
    · exact Nat.le_trans (Nat.gcd_le_right _ h0) hq
    · exact dvI_le hd hq h0 i
theorem dvO_le {t : Nat → Nat → Bool} {m b : Nat} : ∀ q, q ≤ b → dvO t m q ≤ b
  | 0, _ => Nat.zero_le _
  | q + 1, h => dvI_le (dvO_le q (by omega)) h (by omega) m
theorem fiI_le {t : Nat → Bool} {q d b : Nat} (hd : d ≤ b) (hq : q ≤ b) : ∀ i, fiI t q d i ≤ b
  | 0 => hd
  | i + 1 => by
    unfold fiI
    split
    · exact hq
    · exact fiI_le hd hq i
theorem fiO_le {t : Nat → Nat → Bool} {m b : Nat} : ∀ q, q ≤ b → fiO t m q ≤ b
  | 0, _ => Nat.zero_le _
  | q + 1, h => fiI_le (fiO_le q (by omega)) h m
theorem c_membersOf {n : jN} {h : jH} {P : jP} {s : Nat} (hw : ∀ q, tw (P q)) (hs : s < 6) {C Rc : Nat → Nat} {Wk : Nat → Nat → Nat} {M : Nat} (hk : jko h (P s).1 C Rc Wk M) {k : Nat} (hk12 : k < 12) : jC n 0 jy_Model_membersOf jc_Model_membersOf 5 (some .int) [.ref 135, .int (nI s), .int (nI k)] (jM h P) (some (.int (nI (memb C k (P s).1)))) (jM h P) := by
  obtain ⟨hC, hCM, hR, hR2, hW, hW2, hM, hM12⟩ := id hk
  have hns := (hw s).1
  refine jC_of jm_Model_membersOf (L := [some (.ref 135), some (.int (nI s)), some (.int (nI k)), none, none]) (Nat.le_of_ble_eq_true rfl) rfl trivial ?_
  generalize hres : (((some (.int (nI (memb C k (P s).1)))), jM h P) : Option Value × jH) = res
  refine j_iconst (v := nI 0) d_Model_membersOf_0 rfl ?_
  refine j_istore_n (L' := [some (.ref 135), some (.int (nI s)), some (.int (nI k)), some (.int (nI 0)), none]) d_Model_membersOf_1 (by decide) rfl rfl ?_
  refine j_iconst (v := nI 0) d_Model_membersOf_2 rfl ?_
  refine j_istore (L' := [some (.ref 135), some (.int (nI s)), some (.int (nI k)), some (.int (nI 0)), some (.int (nI 0))]) d_Model_membersOf_3 (by decide) rfl rfl ?_
  refine j_loop (P := fun i => jJ n 0 jc_Model_membersOf 5 "YesNoPowersModel" 5 [some (.ref 135), some (.int (nI s)), some (.int (nI k)), some (.int (nI (memb C k i))), some (.int (nI i))] [] (jM h P) res) (m := (P s).1) ?_ (fun i hi ih => ?_)
  · refine j_iload d_Model_membersOf_5 rfl ?_
    refine j_aload_n d_Model_membersOf_7 rfl ?_
    refine j_getr (b := 137) d_Model_membersOf_8 jf_Model_13 rfl rfl rfl (by decide) ?_
    refine j_iload_n d_Model_membersOf_11 rfl ?_
    refine j_ialdN (v := nI ((P s).1)) d_Model_membersOf_12 rfl (by omega) (by decide) rfl ?_
    refine j_icmp_geN_t (tgt := 44) d_Model_membersOf_13 (by decide) (by omega) (by omega) (Nat.le_refl _) ?_
    refine j_iload_n d_Model_membersOf_44 rfl ?_
    subst hres
    exact j_reti d_Model_membersOf_45 rfl rfl
  · refine j_iload d_Model_membersOf_5 rfl ?_
    refine j_aload_n d_Model_membersOf_7 rfl ?_
    refine j_getr (b := 137) d_Model_membersOf_8 jf_Model_13 rfl rfl rfl (by decide) ?_
    refine j_iload_n d_Model_membersOf_11 rfl ?_
    refine j_ialdN (v := nI ((P s).1)) d_Model_membersOf_12 rfl (by omega) (by decide) rfl ?_
    refine j_icmp_geN_f (tgt := 44) d_Model_membersOf_13 (by decide) (by omega) (by omega) (Nat.not_le.mpr hi) ?_
    have hci := hCM i hi
    refine j_iload_n d_Model_membersOf_16 rfl ?_
    refine j_aload_n d_Model_membersOf_17 rfl ?_
    refine j_getr (b := 143) d_Model_membersOf_18 jf_Model_31 rfl rfl rfl (by decide) ?_
    refine j_iload d_Model_membersOf_21 rfl ?_
    refine j_ialdN (v := nI (C i)) d_Model_membersOf_23 rfl (by omega) (by decide) (hC _ (by omega)) ?_
    refine j_iload_n d_Model_membersOf_24 rfl ?_
    refine j_icmp_neN (tgt := 35) d_Model_membersOf_25 (by decide) (by omega) (by omega) (fun c => ?_) (fun c => ?_)
    · refine j_iconst (v := nI 0) d_Model_membersOf_35 rfl ?_
      refine j_iorN d_Model_membersOf_36 ?_
      refine j_top (w := nI (memb C k (i + 1))) (by rw [Nat.or_zero]; exact congrArg nI (jor_z (by simp [c]))) ?_
      refine j_istore_n (L' := [some (.ref 135), some (.int (nI s)), some (.int (nI k)), some (.int (nI (memb C k (i + 1)))), some (.int (nI i))]) d_Model_membersOf_37 (by decide) rfl rfl ?_
      refine j_iincN (x := i) (L' := [some (.ref 135), some (.int (nI s)), some (.int (nI k)), some (.int (nI (memb C k (i + 1)))), some (.int (nI (i + 1)))]) d_Model_membersOf_38 rfl (by decide) rfl rfl ?_
      refine j_goto (tgt := 5) d_Model_membersOf_41 (by decide) ?_
      exact ih
    · refine j_iconst (v := nI 1) d_Model_membersOf_28 rfl ?_
      refine j_iload d_Model_membersOf_29 rfl ?_
      refine j_shl1N d_Model_membersOf_31 (by omega) ?_
      refine j_goto (tgt := 36) d_Model_membersOf_32 (by decide) ?_
      refine j_iorN d_Model_membersOf_36 ?_
      refine j_top (w := nI (memb C k (i + 1))) (congrArg nI (jor_t (by simp [c]))) ?_
      refine j_istore_n (L' := [some (.ref 135), some (.int (nI s)), some (.int (nI k)), some (.int (nI (memb C k (i + 1)))), some (.int (nI i))]) d_Model_membersOf_37 (by decide) rfl rfl ?_
      refine j_iincN (x := i) (L' := [some (.ref 135), some (.int (nI s)), some (.int (nI k)), some (.int (nI (memb C k (i + 1)))), some (.int (nI (i + 1)))]) d_Model_membersOf_38 rfl (by decide) rfl rfl ?_
      refine j_goto (tgt := 5) d_Model_membersOf_41 (by decide) ?_
      exact ih
theorem c_leastOf {n : jN} {h : jH} {P : jP} {s : Nat} (hw : ∀ q, tw (P q)) (hs : s < 6) {C Rc : Nat → Nat} {Wk : Nat → Nat → Nat} {M : Nat} (hk : jko h (P s).1 C Rc Wk M) {k : Nat} (hk12 : k < 12) {l : Nat} (hl : l < (P s).1) (hl1 : C l = k) (hl2 : ∀ i, i < l → ¬ C i = k) : jC n 0 jy_Model_leastOf jc_Model_leastOf 3 (some .int) [.ref 135, .int (nI k)] (jM h P) (some (.int (nI l))) (jM h P) := by
  obtain ⟨hC, hCM, hR, hR2, hW, hW2, hM, hM12⟩ := id hk
  have hns := (hw s).1
  refine jC_of jm_Model_leastOf (L := [some (.ref 135), some (.int (nI k)), none]) (Nat.le_of_ble_eq_true rfl) rfl trivial ?_
  generalize hres : (((some (.int (nI l))), jM h P) : Option Value × jH) = res
  refine j_iconst (v := nI 0) d_Model_leastOf_0 rfl ?_
  refine j_istore_n (L' := [some (.ref 135), some (.int (nI k)), some (.int (nI 0))]) d_Model_leastOf_1 (by decide) rfl rfl ?_
  refine j_loop (P := fun i => jJ n 0 jc_Model_leastOf 3 "YesNoPowersModel" 2 [some (.ref 135), some (.int (nI k)), some (.int (nI i))] [] (jM h P) res) (m := l) ?_ (fun i hi ih => ?_)
  · have hcl := hCM l hl
    refine j_aload_n d_Model_leastOf_2 rfl ?_
    refine j_getr (b := 143) d_Model_leastOf_3 jf_Model_31 rfl rfl rfl (by decide) ?_
    refine j_iload_n d_Model_leastOf_6 rfl ?_
    refine j_ialdN (v := nI (C l)) d_Model_leastOf_7 rfl (by omega) (by decide) (hC _ (by omega)) ?_
    refine j_iload_n d_Model_leastOf_8 rfl ?_
    refine j_icmp_eqN_t (tgt := 18) d_Model_leastOf_9 (by decide) (by omega) (by omega) hl1 ?_
    refine j_iload_n d_Model_leastOf_18 rfl ?_
    subst hres
    exact j_reti d_Model_leastOf_19 rfl rfl
  · have hci := hCM i (by omega)
    refine j_aload_n d_Model_leastOf_2 rfl ?_
    refine j_getr (b := 143) d_Model_leastOf_3 jf_Model_31 rfl rfl rfl (by decide) ?_
    refine j_iload_n d_Model_leastOf_6 rfl ?_
    refine j_ialdN (v := nI (C i)) d_Model_leastOf_7 rfl (by omega) (by decide) (hC _ (by omega)) ?_
    refine j_iload_n d_Model_leastOf_8 rfl ?_
    refine j_icmp_eqN_f (tgt := 18) d_Model_leastOf_9 (by decide) (by omega) (by omega) (hl2 i hi) ?_
    refine j_iincN (x := i) (L' := [some (.ref 135), some (.int (nI k)), some (.int (nI (i + 1)))]) d_Model_leastOf_12 rfl (by decide) rfl rfl ?_
    refine j_goto (tgt := 2) d_Model_leastOf_15 (by decide) ?_
    exact ih
theorem c_divisor {n : jN} {h : jH} {a b : Nat} (ha : a < 2 ^ 31) (hb : b < 2 ^ 31) : jC n 0 jy_Model_divisor jc_Model_divisor 5 (some .int) [.int (nI a), .int (nI b)] h (some (.int (nI (Nat.gcd a b)))) h := by
  refine jC_of jm_Model_divisor (L := [some (.int (nI a)), some (.int (nI b)), none, none, none]) (Nat.le_of_ble_eq_true rfl) rfl trivial ?_
  generalize hres : (((some (.int (nI (Nat.gcd a b)))), h) : Option Value × jH) = res
  have key : ∀ y x, x < 2 ^ 31 → y < 2 ^ 31 → Nat.gcd x y = Nat.gcd a b → jJ n 0 jc_Model_divisor 5 "YesNoPowersModel" 4 [some (.int (nI a)), some (.int (nI b)), some (.int (nI x)), some (.int (nI y)), none] [] h res := by
    intro y
    induction y using Nat.strongRecOn with
    | _ y ih =>
      intro x hx hy hg
      refine j_iload_n d_Model_divisor_4 rfl ?_
      refine j_if_eqN (tgt := 21) d_Model_divisor_5 (by decide) (by omega) (fun c => ?_) (fun c => ?_)
      · refine j_iload_n d_Model_divisor_21 rfl ?_
        subst c
        rw [Nat.gcd_zero_right] at hg
        subst hres
        exact j_reti d_Model_divisor_22 (by rw [hg]) rfl
      · have hlt := Nat.mod_lt x (Nat.pos_of_ne_zero c)
        refine j_iload_n d_Model_divisor_8 rfl ?_
        refine j_iload_n d_Model_divisor_9 rfl ?_
        refine j_iremN d_Model_divisor_10 (by omega) (by omega) (by omega) ?_
        refine j_istore (L' := [some (.int (nI a)), some (.int (nI b)), some (.int (nI x)), some (.int (nI y)), some (.int (nI (x % y)))]) d_Model_divisor_11 (by decide) rfl rfl ?_
        refine j_iload_n d_Model_divisor_13 rfl ?_
        refine j_istore_n (L' := [some (.int (nI a)), some (.int (nI b)), some (.int (nI y)), some (.int (nI y)), some (.int (nI (x % y)))]) d_Model_divisor_14 (by decide) rfl rfl ?_
        refine j_iload d_Model_divisor_15 rfl ?_
        refine j_istore_n (L' := [some (.int (nI a)), some (.int (nI b)), some (.int (nI y)), some (.int (nI (x % y))), some (.int (nI (x % y)))]) d_Model_divisor_17 (by decide) rfl rfl ?_
        refine j_goto (tgt := 4) d_Model_divisor_18 (by decide) ?_
        exact j_forget (i := 4) rfl (ih _ hlt _ hy (by omega) (by rw [← hg, Nat.gcd_comm x y, Nat.gcd_rec y x, Nat.gcd_comm]))
  refine j_iload_n d_Model_divisor_0 rfl ?_
  refine j_istore_n (L' := [some (.int (nI a)), some (.int (nI b)), some (.int (nI a)), none, none]) d_Model_divisor_1 (by decide) rfl rfl ?_
  refine j_iload_n d_Model_divisor_2 rfl ?_
  refine j_istore_n (L' := [some (.int (nI a)), some (.int (nI b)), some (.int (nI a)), some (.int (nI b)), none]) d_Model_divisor_3 (by decide) rfl rfl ?_
  exact key b a ha hb rfl
theorem c_roundsOf0 {n : jN} {h : jH} {P : jP} {s : Nat} (hw : ∀ q, tw (P q)) (hs : s < 6) {C Rc : Nat → Nat} {Wk : Nat → Nat → Nat} {M : Nat} (hk : jko h (P s).1 C Rc Wk M) {k : Nat} (hk12 : k < 12) : jC n 1 jy_Model_roundsOf jc_Model_roundsOf 9 (some .int) [.ref 135, .int (nI s), .int (nI k), .int (nI 0)] (jM h P) (some (.int (nI (dvO (rou C Wk k) (P s).1 (P s).1)))) (jM h P) := by
  obtain ⟨hC, hCM, hR, hR2, hW, hW2, hM, hM12⟩ := id hk
  have hns := (hw s).1
  refine jC_of jm_Model_roundsOf (L := [some (.ref 135), some (.int (nI s)), some (.int (nI k)), some (.int (nI 0)), none, none, none, none, none]) (Nat.le_of_ble_eq_true rfl) rfl trivial ?_
  generalize hres : (((some (.int (nI (dvO (rou C Wk k) (P s).1 (P s).1)))), jM h P) : Option Value × jH) = res
  refine j_iconst (v := nI 0) d_Model_roundsOf_0 rfl ?_
  refine j_istore (L' := [some (.ref 135), some (.int (nI s)), some (.int (nI k)), some (.int (nI 0)), some (.int (nI 0)), none, none, none, none]) d_Model_roundsOf_1 (by decide) rfl rfl ?_
  refine j_iconst (v := nI 0) d_Model_roundsOf_3 rfl ?_
  refine j_istore (L' := [some (.ref 135), some (.int (nI s)), some (.int (nI k)), some (.int (nI 0)), some (.int (nI 0)), some (.int (nI 0)), none, none, none]) d_Model_roundsOf_4 (by decide) rfl rfl ?_
  refine j_iconst (v := nI 1) d_Model_roundsOf_6 rfl ?_
  refine j_istore (L' := [some (.ref 135), some (.int (nI s)), some (.int (nI k)), some (.int (nI 0)), some (.int (nI 0)), some (.int (nI 0)), some (.int (nI 1)), none, none]) d_Model_roundsOf_7 (by decide) rfl rfl ?_
  refine j_loop (P := fun q => jJ n 1 jc_Model_roundsOf 9 "YesNoPowersModel" 9 [some (.ref 135), some (.int (nI s)), some (.int (nI k)), some (.int (nI 0)), some (.int (nI (dvO (rou C Wk k) (P s).1 q))), some (.int (nI (fiO (rou C Wk k) (P s).1 q))), some (.int (nI (q + 1))), none, none] [] (jM h P) res) (m := (P s).1) ?_ (fun q hq ihq => ?_)
  · refine j_iload d_Model_roundsOf_9 rfl ?_
    refine j_aload_n d_Model_roundsOf_11 rfl ?_
    refine j_getr (b := 137) d_Model_roundsOf_12 jf_Model_13 rfl rfl rfl (by decide) ?_
    refine j_iload_n d_Model_roundsOf_15 rfl ?_
    refine j_ialdN (v := nI ((P s).1)) d_Model_roundsOf_16 rfl (by omega) (by decide) rfl ?_
    refine j_icmp_gtN_t (tgt := 124) d_Model_roundsOf_17 (by decide) (by omega) (by omega) (by omega) ?_
    refine j_iload_n d_Model_roundsOf_124 rfl ?_
    refine j_if_eqN_t (tgt := 133) d_Model_roundsOf_125 (by decide) (by omega) (by decide) ?_
    refine j_iload d_Model_roundsOf_133 rfl ?_
    subst hres
    exact j_reti d_Model_roundsOf_135 rfl rfl
  · refine j_iload d_Model_roundsOf_9 rfl ?_
    refine j_aload_n d_Model_roundsOf_11 rfl ?_
    refine j_getr (b := 137) d_Model_roundsOf_12 jf_Model_13 rfl rfl rfl (by decide) ?_
    refine j_iload_n d_Model_roundsOf_15 rfl ?_
    refine j_ialdN (v := nI ((P s).1)) d_Model_roundsOf_16 rfl (by omega) (by decide) rfl ?_
    refine j_icmp_gtN_f (tgt := 124) d_Model_roundsOf_17 (by decide) (by omega) (by omega) (by omega) ?_
    refine j_iconst (v := nI 0) d_Model_roundsOf_20 rfl ?_
    refine j_istore (L' := [some (.ref 135), some (.int (nI s)), some (.int (nI k)), some (.int (nI 0)), some (.int (nI (dvO (rou C Wk k) (P s).1 q))), some (.int (nI (fiO (rou C Wk k) (P s).1 q))), some (.int (nI (q + 1))), some (.int (nI 0)), none]) d_Model_roundsOf_21 (by decide) rfl rfl ?_
    refine j_loop (P := fun i => jJ n 1 jc_Model_roundsOf 9 "YesNoPowersModel" 23 [some (.ref 135), some (.int (nI s)), some (.int (nI k)), some (.int (nI 0)), some (.int (nI (dvI ((rou C Wk k) (q + 1)) (q + 1) (dvO (rou C Wk k) (P s).1 q) i))), some (.int (nI (fiI ((rou C Wk k) (q + 1)) (q + 1) (fiO (rou C Wk k) (P s).1 q) i))), some (.int (nI (q + 1))), some (.int (nI i)), none] [] (jM h P) res) (m := (P s).1) ?_ (fun i hi ihi => ?_)
    · refine j_iload d_Model_roundsOf_23 rfl ?_
      refine j_aload_n d_Model_roundsOf_25 rfl ?_
      refine j_getr (b := 137) d_Model_roundsOf_26 jf_Model_13 rfl rfl rfl (by decide) ?_
      refine j_iload_n d_Model_roundsOf_29 rfl ?_
      refine j_ialdN (v := nI ((P s).1)) d_Model_roundsOf_30 rfl (by omega) (by decide) rfl ?_
      refine j_icmp_geN_t (tgt := 118) d_Model_roundsOf_31 (by decide) (by omega) (by omega) (by omega) ?_
      refine j_iincN (x := q + 1) (L' := [some (.ref 135), some (.int (nI s)), some (.int (nI k)), some (.int (nI 0)), some (.int (nI (dvI ((rou C Wk k) (q + 1)) (q + 1) (dvO (rou C Wk k) (P s).1 q) ((P s).1)))), some (.int (nI (fiI ((rou C Wk k) (q + 1)) (q + 1) (fiO (rou C Wk k) (P s).1 q) ((P s).1)))), some (.int (nI ((q + 1) + 1))), some (.int (nI ((P s).1))), none]) d_Model_roundsOf_118 rfl (by decide) rfl rfl ?_
      refine j_goto (tgt := 9) d_Model_roundsOf_121 (by decide) ?_
      exact j_forget (i := 7) rfl ihq
    · refine j_iload d_Model_roundsOf_23 rfl ?_
      refine j_aload_n d_Model_roundsOf_25 rfl ?_
      refine j_getr (b := 137) d_Model_roundsOf_26 jf_Model_13 rfl rfl rfl (by decide) ?_
      refine j_iload_n d_Model_roundsOf_29 rfl ?_
      refine j_ialdN (v := nI ((P s).1)) d_Model_roundsOf_30 rfl (by omega) (by decide) rfl ?_
      refine j_icmp_geN_f (tgt := 118) d_Model_roundsOf_31 (by decide) (by omega) (by omega) (by omega) ?_
      have hci := hCM i hi
      have hwi := hW2 (q + 1) i (by omega) hi
      have hdv : dvI (rou C Wk k (q + 1)) (q + 1) (dvO (rou C Wk k) (P s).1 q) i ≤ 12 := dvI_le (dvO_le q (by omega)) (by omega) (by omega) i
      have hfi : fiI (rou C Wk k (q + 1)) (q + 1) (fiO (rou C Wk k) (P s).1 q) i ≤ 12 := fiI_le (fiO_le q (by omega)) (by omega) i
      refine j_aload_n d_Model_roundsOf_34 rfl ?_
      refine j_getr (b := 143) d_Model_roundsOf_35 jf_Model_31 rfl rfl rfl (by decide) ?_
      refine j_iload d_Model_roundsOf_38 rfl ?_
      refine j_ialdN (v := nI (C i)) d_Model_roundsOf_40 rfl (by omega) (by decide) (hC _ (by omega)) ?_
      refine j_iload_n d_Model_roundsOf_41 rfl ?_
      refine j_icmp_neN (tgt := 71) d_Model_roundsOf_42 (by decide) (by omega) (by omega) (fun c1 => ?_) (fun c1 => ?_)
      · refine j_iconst (v := nI 0) d_Model_roundsOf_71 rfl ?_
        refine j_top (w := jbo (rou C Wk k (q + 1) i)) (by rw [show rou C Wk k (q + 1) i = false from by simp [rou, c1]]; rfl) ?_
        have his : rou C Wk k (q + 1) i = false := by simp [rou, c1]
        refine j_istore (L' := [some (.ref 135), some (.int (nI s)), some (.int (nI k)), some (.int (nI 0)), some (.int (nI (dvI ((rou C Wk k) (q + 1)) (q + 1) (dvO (rou C Wk k) (P s).1 q) i))), some (.int (nI (fiI ((rou C Wk k) (q + 1)) (q + 1) (fiO (rou C Wk k) (P s).1 q) i))), some (.int (nI (q + 1))), some (.int (nI i)), some (.int (jbo (rou C Wk k (q + 1) i)))]) d_Model_roundsOf_72 (by decide) rfl rfl ?_
        refine j_iload d_Model_roundsOf_74 rfl ?_
        refine j_if_eqB_t (tgt := 89) d_Model_roundsOf_76 (by decide) his ?_
        refine j_iload d_Model_roundsOf_89 rfl ?_
        refine j_top (w := nI (dvI ((rou C Wk k) (q + 1)) (q + 1) (dvO (rou C Wk k) (P s).1 q) (i + 1))) (congrArg nI (by simp [dvI, his])) ?_
        refine j_istore (L' := [some (.ref 135), some (.int (nI s)), some (.int (nI k)), some (.int (nI 0)), some (.int (nI (dvI ((rou C Wk k) (q + 1)) (q + 1) (dvO (rou C Wk k) (P s).1 q) (i + 1)))), some (.int (nI (fiI ((rou C Wk k) (q + 1)) (q + 1) (fiO (rou C Wk k) (P s).1 q) i))), some (.int (nI (q + 1))), some (.int (nI i)), some (.int (jbo (rou C Wk k (q + 1) i)))]) d_Model_roundsOf_91 (by decide) rfl rfl ?_
        refine j_iload d_Model_roundsOf_93 rfl ?_
        refine j_if_eqB_t (tgt := 108) d_Model_roundsOf_95 (by decide) his ?_
        refine j_iload d_Model_roundsOf_108 rfl ?_
        refine j_top (w := nI (fiI ((rou C Wk k) (q + 1)) (q + 1) (fiO (rou C Wk k) (P s).1 q) (i + 1))) (congrArg nI (by simp [fiI, his])) ?_
        refine j_istore (L' := [some (.ref 135), some (.int (nI s)), some (.int (nI k)), some (.int (nI 0)), some (.int (nI (dvI ((rou C Wk k) (q + 1)) (q + 1) (dvO (rou C Wk k) (P s).1 q) (i + 1)))), some (.int (nI (fiI ((rou C Wk k) (q + 1)) (q + 1) (fiO (rou C Wk k) (P s).1 q) (i + 1)))), some (.int (nI (q + 1))), some (.int (nI i)), some (.int (jbo (rou C Wk k (q + 1) i)))]) d_Model_roundsOf_110 (by decide) rfl rfl ?_
        refine j_iincN (x := i) (L' := [some (.ref 135), some (.int (nI s)), some (.int (nI k)), some (.int (nI 0)), some (.int (nI (dvI ((rou C Wk k) (q + 1)) (q + 1) (dvO (rou C Wk k) (P s).1 q) (i + 1)))), some (.int (nI (fiI ((rou C Wk k) (q + 1)) (q + 1) (fiO (rou C Wk k) (P s).1 q) (i + 1)))), some (.int (nI (q + 1))), some (.int (nI (i + 1))), some (.int (jbo (rou C Wk k (q + 1) i)))]) d_Model_roundsOf_112 rfl (by decide) rfl rfl ?_
        refine j_goto (tgt := 23) d_Model_roundsOf_115 (by decide) ?_
        exact j_forget (i := 8) rfl ihi
      · refine j_aload_n d_Model_roundsOf_45 rfl ?_
        refine j_getr (b := 145) d_Model_roundsOf_46 jf_Model_37 rfl rfl rfl (by decide) ?_
        refine j_bipush (v := nI 12) d_Model_roundsOf_49 (by decide) ?_
        refine j_iload d_Model_roundsOf_51 rfl ?_
        refine j_imulN d_Model_roundsOf_53 ?_
        refine j_iload d_Model_roundsOf_54 rfl ?_
        refine j_iaddN d_Model_roundsOf_56 ?_
        refine j_ialdN (v := nI (Wk (q + 1) i)) d_Model_roundsOf_57 rfl (by omega) (by decide) (hW _ _ (by omega) (by omega)) ?_
        refine j_iload d_Model_roundsOf_58 rfl ?_
        refine j_ishrN d_Model_roundsOf_60 (by omega) (by omega) ?_
        refine j_iconst (v := nI 1) d_Model_roundsOf_61 rfl ?_
        refine j_iandN d_Model_roundsOf_62 ?_
        refine j_top (w := jbo ((Wk (q + 1) i).testBit i)) (ni_bit _ _) ?_
        refine j_iconst (v := nI 1) d_Model_roundsOf_63 rfl ?_
        refine j_icmp_neB (tgt := 71) d_Model_roundsOf_64 (by decide) (fun c2 => ?_) (fun c2 => ?_)
        · refine j_iconst (v := nI 0) d_Model_roundsOf_71 rfl ?_
          refine j_top (w := jbo (rou C Wk k (q + 1) i)) (by rw [show rou C Wk k (q + 1) i = false from by simp [rou, c1, c2]]; rfl) ?_
          have his : rou C Wk k (q + 1) i = false := by simp [rou, c1, c2]
          refine j_istore (L' := [some (.ref 135), some (.int (nI s)), some (.int (nI k)), some (.int (nI 0)), some (.int (nI (dvI ((rou C Wk k) (q + 1)) (q + 1) (dvO (rou C Wk k) (P s).1 q) i))), some (.int (nI (fiI ((rou C Wk k) (q + 1)) (q + 1) (fiO (rou C Wk k) (P s).1 q) i))), some (.int (nI (q + 1))), some (.int (nI i)), some (.int (jbo (rou C Wk k (q + 1) i)))]) d_Model_roundsOf_72 (by decide) rfl rfl ?_
          refine j_iload d_Model_roundsOf_74 rfl ?_
          refine j_if_eqB_t (tgt := 89) d_Model_roundsOf_76 (by decide) his ?_
          refine j_iload d_Model_roundsOf_89 rfl ?_
          refine j_top (w := nI (dvI ((rou C Wk k) (q + 1)) (q + 1) (dvO (rou C Wk k) (P s).1 q) (i + 1))) (congrArg nI (by simp [dvI, his])) ?_
          refine j_istore (L' := [some (.ref 135), some (.int (nI s)), some (.int (nI k)), some (.int (nI 0)), some (.int (nI (dvI ((rou C Wk k) (q + 1)) (q + 1) (dvO (rou C Wk k) (P s).1 q) (i + 1)))), some (.int (nI (fiI ((rou C Wk k) (q + 1)) (q + 1) (fiO (rou C Wk k) (P s).1 q) i))), some (.int (nI (q + 1))), some (.int (nI i)), some (.int (jbo (rou C Wk k (q + 1) i)))]) d_Model_roundsOf_91 (by decide) rfl rfl ?_
          refine j_iload d_Model_roundsOf_93 rfl ?_
          refine j_if_eqB_t (tgt := 108) d_Model_roundsOf_95 (by decide) his ?_
          refine j_iload d_Model_roundsOf_108 rfl ?_
          refine j_top (w := nI (fiI ((rou C Wk k) (q + 1)) (q + 1) (fiO (rou C Wk k) (P s).1 q) (i + 1))) (congrArg nI (by simp [fiI, his])) ?_
          refine j_istore (L' := [some (.ref 135), some (.int (nI s)), some (.int (nI k)), some (.int (nI 0)), some (.int (nI (dvI ((rou C Wk k) (q + 1)) (q + 1) (dvO (rou C Wk k) (P s).1 q) (i + 1)))), some (.int (nI (fiI ((rou C Wk k) (q + 1)) (q + 1) (fiO (rou C Wk k) (P s).1 q) (i + 1)))), some (.int (nI (q + 1))), some (.int (nI i)), some (.int (jbo (rou C Wk k (q + 1) i)))]) d_Model_roundsOf_110 (by decide) rfl rfl ?_
          refine j_iincN (x := i) (L' := [some (.ref 135), some (.int (nI s)), some (.int (nI k)), some (.int (nI 0)), some (.int (nI (dvI ((rou C Wk k) (q + 1)) (q + 1) (dvO (rou C Wk k) (P s).1 q) (i + 1)))), some (.int (nI (fiI ((rou C Wk k) (q + 1)) (q + 1) (fiO (rou C Wk k) (P s).1 q) (i + 1)))), some (.int (nI (q + 1))), some (.int (nI (i + 1))), some (.int (jbo (rou C Wk k (q + 1) i)))]) d_Model_roundsOf_112 rfl (by decide) rfl rfl ?_
          refine j_goto (tgt := 23) d_Model_roundsOf_115 (by decide) ?_
          exact j_forget (i := 8) rfl ihi
        · refine j_iconst (v := nI 1) d_Model_roundsOf_67 rfl ?_
          refine j_goto (tgt := 72) d_Model_roundsOf_68 (by decide) ?_
          refine j_top (w := jbo (rou C Wk k (q + 1) i)) (by rw [show rou C Wk k (q + 1) i = true from by simp [rou, c1, c2]]; rfl) ?_
          have his : rou C Wk k (q + 1) i = true := by simp [rou, c1, c2]
          refine j_istore (L' := [some (.ref 135), some (.int (nI s)), some (.int (nI k)), some (.int (nI 0)), some (.int (nI (dvI ((rou C Wk k) (q + 1)) (q + 1) (dvO (rou C Wk k) (P s).1 q) i))), some (.int (nI (fiI ((rou C Wk k) (q + 1)) (q + 1) (fiO (rou C Wk k) (P s).1 q) i))), some (.int (nI (q + 1))), some (.int (nI i)), some (.int (jbo (rou C Wk k (q + 1) i)))]) d_Model_roundsOf_72 (by decide) rfl rfl ?_
          refine j_iload d_Model_roundsOf_74 rfl ?_
          refine j_if_eqB_f (tgt := 89) d_Model_roundsOf_76 (by decide) his ?_
          refine j_iload d_Model_roundsOf_79 rfl ?_
          refine j_iload d_Model_roundsOf_81 rfl ?_
          refine j_callSs (As := [.int (nI (dvI ((rou C Wk k) (q + 1)) (q + 1) (dvO (rou C Wk k) (P s).1 q) i)), .int (nI (q + 1))]) (st := []) (c_divisor (by omega) (by omega)) d_Model_roundsOf_83 (by decide) jm_Model_divisor jk_Model_186 js_Model_divisor rfl (Nat.le_of_ble_eq_true rfl) rfl ?_
          refine j_goto (tgt := 91) d_Model_roundsOf_86 (by decide) ?_
          refine j_top (w := nI (dvI ((rou C Wk k) (q + 1)) (q + 1) (dvO (rou C Wk k) (P s).1 q) (i + 1))) (congrArg nI (by simp [dvI, his])) ?_
          refine j_istore (L' := [some (.ref 135), some (.int (nI s)), some (.int (nI k)), some (.int (nI 0)), some (.int (nI (dvI ((rou C Wk k) (q + 1)) (q + 1) (dvO (rou C Wk k) (P s).1 q) (i + 1)))), some (.int (nI (fiI ((rou C Wk k) (q + 1)) (q + 1) (fiO (rou C Wk k) (P s).1 q) i))), some (.int (nI (q + 1))), some (.int (nI i)), some (.int (jbo (rou C Wk k (q + 1) i)))]) d_Model_roundsOf_91 (by decide) rfl rfl ?_
          refine j_iload d_Model_roundsOf_93 rfl ?_
          refine j_if_eqB_f (tgt := 108) d_Model_roundsOf_95 (by decide) his ?_
          refine j_iload d_Model_roundsOf_98 rfl ?_
          refine j_if_neN (tgt := 108) d_Model_roundsOf_100 (by decide) (by omega) (fun c9 => ?_) (fun c9 => ?_)
          · refine j_iload d_Model_roundsOf_108 rfl ?_
            refine j_top (w := nI (fiI ((rou C Wk k) (q + 1)) (q + 1) (fiO (rou C Wk k) (P s).1 q) (i + 1))) (congrArg nI (by simp [fiI, his, c9])) ?_
            refine j_istore (L' := [some (.ref 135), some (.int (nI s)), some (.int (nI k)), some (.int (nI 0)), some (.int (nI (dvI ((rou C Wk k) (q + 1)) (q + 1) (dvO (rou C Wk k) (P s).1 q) (i + 1)))), some (.int (nI (fiI ((rou C Wk k) (q + 1)) (q + 1) (fiO (rou C Wk k) (P s).1 q) (i + 1)))), some (.int (nI (q + 1))), some (.int (nI i)), some (.int (jbo (rou C Wk k (q + 1) i)))]) d_Model_roundsOf_110 (by decide) rfl rfl ?_
            refine j_iincN (x := i) (L' := [some (.ref 135), some (.int (nI s)), some (.int (nI k)), some (.int (nI 0)), some (.int (nI (dvI ((rou C Wk k) (q + 1)) (q + 1) (dvO (rou C Wk k) (P s).1 q) (i + 1)))), some (.int (nI (fiI ((rou C Wk k) (q + 1)) (q + 1) (fiO (rou C Wk k) (P s).1 q) (i + 1)))), some (.int (nI (q + 1))), some (.int (nI (i + 1))), some (.int (jbo (rou C Wk k (q + 1) i)))]) d_Model_roundsOf_112 rfl (by decide) rfl rfl ?_
            refine j_goto (tgt := 23) d_Model_roundsOf_115 (by decide) ?_
            exact j_forget (i := 8) rfl ihi
          · refine j_iload d_Model_roundsOf_103 rfl ?_
            refine j_goto (tgt := 110) d_Model_roundsOf_105 (by decide) ?_
            refine j_top (w := nI (fiI ((rou C Wk k) (q + 1)) (q + 1) (fiO (rou C Wk k) (P s).1 q) (i + 1))) (congrArg nI (by simp [fiI, his, c9])) ?_
            refine j_istore (L' := [some (.ref 135), some (.int (nI s)), some (.int (nI k)), some (.int (nI 0)), some (.int (nI (dvI ((rou C Wk k) (q + 1)) (q + 1) (dvO (rou C Wk k) (P s).1 q) (i + 1)))), some (.int (nI (fiI ((rou C Wk k) (q + 1)) (q + 1) (fiO (rou C Wk k) (P s).1 q) (i + 1)))), some (.int (nI (q + 1))), some (.int (nI i)), some (.int (jbo (rou C Wk k (q + 1) i)))]) d_Model_roundsOf_110 (by decide) rfl rfl ?_
            refine j_iincN (x := i) (L' := [some (.ref 135), some (.int (nI s)), some (.int (nI k)), some (.int (nI 0)), some (.int (nI (dvI ((rou C Wk k) (q + 1)) (q + 1) (dvO (rou C Wk k) (P s).1 q) (i + 1)))), some (.int (nI (fiI ((rou C Wk k) (q + 1)) (q + 1) (fiO (rou C Wk k) (P s).1 q) (i + 1)))), some (.int (nI (q + 1))), some (.int (nI (i + 1))), some (.int (jbo (rou C Wk k (q + 1) i)))]) d_Model_roundsOf_112 rfl (by decide) rfl rfl ?_
            refine j_goto (tgt := 23) d_Model_roundsOf_115 (by decide) ?_
            exact j_forget (i := 8) rfl ihi
theorem c_roundsOf1 {n : jN} {h : jH} {P : jP} {s : Nat} (hw : ∀ q, tw (P q)) (hs : s < 6) {C Rc : Nat → Nat} {Wk : Nat → Nat → Nat} {M : Nat} (hk : jko h (P s).1 C Rc Wk M) {k : Nat} (hk12 : k < 12) : jC n 1 jy_Model_roundsOf jc_Model_roundsOf 9 (some .int) [.ref 135, .int (nI s), .int (nI k), .int (nI 1)] (jM h P) (some (.int (nI (fiO (rou C Wk k) (P s).1 (P s).1)))) (jM h P) := by
  obtain ⟨hC, hCM, hR, hR2, hW, hW2, hM, hM12⟩ := id hk
  have hns := (hw s).1
  refine jC_of jm_Model_roundsOf (L := [some (.ref 135), some (.int (nI s)), some (.int (nI k)), some (.int (nI 1)), none, none, none, none, none]) (Nat.le_of_ble_eq_true rfl) rfl trivial ?_
  generalize hres : (((some (.int (nI (fiO (rou C Wk k) (P s).1 (P s).1)))), jM h P) : Option Value × jH) = res
  refine j_iconst (v := nI 0) d_Model_roundsOf_0 rfl ?_
  refine j_istore (L' := [some (.ref 135), some (.int (nI s)), some (.int (nI k)), some (.int (nI 1)), some (.int (nI 0)), none, none, none, none]) d_Model_roundsOf_1 (by decide) rfl rfl ?_
  refine j_iconst (v := nI 0) d_Model_roundsOf_3 rfl ?_
  refine j_istore (L' := [some (.ref 135), some (.int (nI s)), some (.int (nI k)), some (.int (nI 1)), some (.int (nI 0)), some (.int (nI 0)), none, none, none]) d_Model_roundsOf_4 (by decide) rfl rfl ?_
  refine j_iconst (v := nI 1) d_Model_roundsOf_6 rfl ?_
  refine j_istore (L' := [some (.ref 135), some (.int (nI s)), some (.int (nI k)), some (.int (nI 1)), some (.int (nI 0)), some (.int (nI 0)), some (.int (nI 1)), none, none]) d_Model_roundsOf_7 (by decide) rfl rfl ?_
  refine j_loop (P := fun q => jJ n 1 jc_Model_roundsOf 9 "YesNoPowersModel" 9 [some (.ref 135), some (.int (nI s)), some (.int (nI k)), some (.int (nI 1)), some (.int (nI (dvO (rou C Wk k) (P s).1 q))), some (.int (nI (fiO (rou C Wk k) (P s).1 q))), some (.int (nI (q + 1))), none, none] [] (jM h P) res) (m := (P s).1) ?_ (fun q hq ihq => ?_)
  · refine j_iload d_Model_roundsOf_9 rfl ?_
    refine j_aload_n d_Model_roundsOf_11 rfl ?_
    refine j_getr (b := 137) d_Model_roundsOf_12 jf_Model_13 rfl rfl rfl (by decide) ?_
    refine j_iload_n d_Model_roundsOf_15 rfl ?_
    refine j_ialdN (v := nI ((P s).1)) d_Model_roundsOf_16 rfl (by omega) (by decide) rfl ?_
    refine j_icmp_gtN_t (tgt := 124) d_Model_roundsOf_17 (by decide) (by omega) (by omega) (by omega) ?_
    refine j_iload_n d_Model_roundsOf_124 rfl ?_
    refine j_if_eqN_f (tgt := 133) d_Model_roundsOf_125 (by decide) (by omega) (by decide) ?_
    refine j_iload d_Model_roundsOf_128 rfl ?_
    refine j_goto (tgt := 135) d_Model_roundsOf_130 (by decide) ?_
    subst hres
    exact j_reti d_Model_roundsOf_135 rfl rfl
  · refine j_iload d_Model_roundsOf_9 rfl ?_
    refine j_aload_n d_Model_roundsOf_11 rfl ?_
    refine j_getr (b := 137) d_Model_roundsOf_12 jf_Model_13 rfl rfl rfl (by decide) ?_
    refine j_iload_n d_Model_roundsOf_15 rfl ?_
    refine j_ialdN (v := nI ((P s).1)) d_Model_roundsOf_16 rfl (by omega) (by decide) rfl ?_
    refine j_icmp_gtN_f (tgt := 124) d_Model_roundsOf_17 (by decide) (by omega) (by omega) (by omega) ?_
    refine j_iconst (v := nI 0) d_Model_roundsOf_20 rfl ?_
    refine j_istore (L' := [some (.ref 135), some (.int (nI s)), some (.int (nI k)), some (.int (nI 1)), some (.int (nI (dvO (rou C Wk k) (P s).1 q))), some (.int (nI (fiO (rou C Wk k) (P s).1 q))), some (.int (nI (q + 1))), some (.int (nI 0)), none]) d_Model_roundsOf_21 (by decide) rfl rfl ?_
    refine j_loop (P := fun i => jJ n 1 jc_Model_roundsOf 9 "YesNoPowersModel" 23 [some (.ref 135), some (.int (nI s)), some (.int (nI k)), some (.int (nI 1)), some (.int (nI (dvI ((rou C Wk k) (q + 1)) (q + 1) (dvO (rou C Wk k) (P s).1 q) i))), some (.int (nI (fiI ((rou C Wk k) (q + 1)) (q + 1) (fiO (rou C Wk k) (P s).1 q) i))), some (.int (nI (q + 1))), some (.int (nI i)), none] [] (jM h P) res) (m := (P s).1) ?_ (fun i hi ihi => ?_)
    · refine j_iload d_Model_roundsOf_23 rfl ?_
      refine j_aload_n d_Model_roundsOf_25 rfl ?_
      refine j_getr (b := 137) d_Model_roundsOf_26 jf_Model_13 rfl rfl rfl (by decide) ?_
      refine j_iload_n d_Model_roundsOf_29 rfl ?_
      refine j_ialdN (v := nI ((P s).1)) d_Model_roundsOf_30 rfl (by omega) (by decide) rfl ?_
      refine j_icmp_geN_t (tgt := 118) d_Model_roundsOf_31 (by decide) (by omega) (by omega) (by omega) ?_
      refine j_iincN (x := q + 1) (L' := [some (.ref 135), some (.int (nI s)), some (.int (nI k)), some (.int (nI 1)), some (.int (nI (dvI ((rou C Wk k) (q + 1)) (q + 1) (dvO (rou C Wk k) (P s).1 q) ((P s).1)))), some (.int (nI (fiI ((rou C Wk k) (q + 1)) (q + 1) (fiO (rou C Wk k) (P s).1 q) ((P s).1)))), some (.int (nI ((q + 1) + 1))), some (.int (nI ((P s).1))), none]) d_Model_roundsOf_118 rfl (by decide) rfl rfl ?_
      refine j_goto (tgt := 9) d_Model_roundsOf_121 (by decide) ?_
      exact j_forget (i := 7) rfl ihq
    · refine j_iload d_Model_roundsOf_23 rfl ?_
      refine j_aload_n d_Model_roundsOf_25 rfl ?_
      refine j_getr (b := 137) d_Model_roundsOf_26 jf_Model_13 rfl rfl rfl (by decide) ?_
      refine j_iload_n d_Model_roundsOf_29 rfl ?_
      refine j_ialdN (v := nI ((P s).1)) d_Model_roundsOf_30 rfl (by omega) (by decide) rfl ?_
      refine j_icmp_geN_f (tgt := 118) d_Model_roundsOf_31 (by decide) (by omega) (by omega) (by omega) ?_
      have hci := hCM i hi
      have hwi := hW2 (q + 1) i (by omega) hi
      have hdv : dvI (rou C Wk k (q + 1)) (q + 1) (dvO (rou C Wk k) (P s).1 q) i ≤ 12 := dvI_le (dvO_le q (by omega)) (by omega) (by omega) i
      have hfi : fiI (rou C Wk k (q + 1)) (q + 1) (fiO (rou C Wk k) (P s).1 q) i ≤ 12 := fiI_le (fiO_le q (by omega)) (by omega) i
      refine j_aload_n d_Model_roundsOf_34 rfl ?_
      refine j_getr (b := 143) d_Model_roundsOf_35 jf_Model_31 rfl rfl rfl (by decide) ?_
      refine j_iload d_Model_roundsOf_38 rfl ?_
      refine j_ialdN (v := nI (C i)) d_Model_roundsOf_40 rfl (by omega) (by decide) (hC _ (by omega)) ?_
      refine j_iload_n d_Model_roundsOf_41 rfl ?_
      refine j_icmp_neN (tgt := 71) d_Model_roundsOf_42 (by decide) (by omega) (by omega) (fun c1 => ?_) (fun c1 => ?_)
      · refine j_iconst (v := nI 0) d_Model_roundsOf_71 rfl ?_
        refine j_top (w := jbo (rou C Wk k (q + 1) i)) (by rw [show rou C Wk k (q + 1) i = false from by simp [rou, c1]]; rfl) ?_
        have his : rou C Wk k (q + 1) i = false := by simp [rou, c1]
        refine j_istore (L' := [some (.ref 135), some (.int (nI s)), some (.int (nI k)), some (.int (nI 1)), some (.int (nI (dvI ((rou C Wk k) (q + 1)) (q + 1) (dvO (rou C Wk k) (P s).1 q) i))), some (.int (nI (fiI ((rou C Wk k) (q + 1)) (q + 1) (fiO (rou C Wk k) (P s).1 q) i))), some (.int (nI (q + 1))), some (.int (nI i)), some (.int (jbo (rou C Wk k (q + 1) i)))]) d_Model_roundsOf_72 (by decide) rfl rfl ?_
        refine j_iload d_Model_roundsOf_74 rfl ?_
        refine j_if_eqB_t (tgt := 89) d_Model_roundsOf_76 (by decide) his ?_
        refine j_iload d_Model_roundsOf_89 rfl ?_
        refine j_top (w := nI (dvI ((rou C Wk k) (q + 1)) (q + 1) (dvO (rou C Wk k) (P s).1 q) (i + 1))) (congrArg nI (by simp [dvI, his])) ?_
        refine j_istore (L' := [some (.ref 135), some (.int (nI s)), some (.int (nI k)), some (.int (nI 1)), some (.int (nI (dvI ((rou C Wk k) (q + 1)) (q + 1) (dvO (rou C Wk k) (P s).1 q) (i + 1)))), some (.int (nI (fiI ((rou C Wk k) (q + 1)) (q + 1) (fiO (rou C Wk k) (P s).1 q) i))), some (.int (nI (q + 1))), some (.int (nI i)), some (.int (jbo (rou C Wk k (q + 1) i)))]) d_Model_roundsOf_91 (by decide) rfl rfl ?_
        refine j_iload d_Model_roundsOf_93 rfl ?_
        refine j_if_eqB_t (tgt := 108) d_Model_roundsOf_95 (by decide) his ?_
        refine j_iload d_Model_roundsOf_108 rfl ?_
        refine j_top (w := nI (fiI ((rou C Wk k) (q + 1)) (q + 1) (fiO (rou C Wk k) (P s).1 q) (i + 1))) (congrArg nI (by simp [fiI, his])) ?_
        refine j_istore (L' := [some (.ref 135), some (.int (nI s)), some (.int (nI k)), some (.int (nI 1)), some (.int (nI (dvI ((rou C Wk k) (q + 1)) (q + 1) (dvO (rou C Wk k) (P s).1 q) (i + 1)))), some (.int (nI (fiI ((rou C Wk k) (q + 1)) (q + 1) (fiO (rou C Wk k) (P s).1 q) (i + 1)))), some (.int (nI (q + 1))), some (.int (nI i)), some (.int (jbo (rou C Wk k (q + 1) i)))]) d_Model_roundsOf_110 (by decide) rfl rfl ?_
        refine j_iincN (x := i) (L' := [some (.ref 135), some (.int (nI s)), some (.int (nI k)), some (.int (nI 1)), some (.int (nI (dvI ((rou C Wk k) (q + 1)) (q + 1) (dvO (rou C Wk k) (P s).1 q) (i + 1)))), some (.int (nI (fiI ((rou C Wk k) (q + 1)) (q + 1) (fiO (rou C Wk k) (P s).1 q) (i + 1)))), some (.int (nI (q + 1))), some (.int (nI (i + 1))), some (.int (jbo (rou C Wk k (q + 1) i)))]) d_Model_roundsOf_112 rfl (by decide) rfl rfl ?_
        refine j_goto (tgt := 23) d_Model_roundsOf_115 (by decide) ?_
        exact j_forget (i := 8) rfl ihi
      · refine j_aload_n d_Model_roundsOf_45 rfl ?_
        refine j_getr (b := 145) d_Model_roundsOf_46 jf_Model_37 rfl rfl rfl (by decide) ?_
        refine j_bipush (v := nI 12) d_Model_roundsOf_49 (by decide) ?_
        refine j_iload d_Model_roundsOf_51 rfl ?_
        refine j_imulN d_Model_roundsOf_53 ?_
        refine j_iload d_Model_roundsOf_54 rfl ?_
        refine j_iaddN d_Model_roundsOf_56 ?_
        refine j_ialdN (v := nI (Wk (q + 1) i)) d_Model_roundsOf_57 rfl (by omega) (by decide) (hW _ _ (by omega) (by omega)) ?_
        refine j_iload d_Model_roundsOf_58 rfl ?_
        refine j_ishrN d_Model_roundsOf_60 (by omega) (by omega) ?_
        refine j_iconst (v := nI 1) d_Model_roundsOf_61 rfl ?_
        refine j_iandN d_Model_roundsOf_62 ?_
        refine j_top (w := jbo ((Wk (q + 1) i).testBit i)) (ni_bit _ _) ?_
        refine j_iconst (v := nI 1) d_Model_roundsOf_63 rfl ?_
        refine j_icmp_neB (tgt := 71) d_Model_roundsOf_64 (by decide) (fun c2 => ?_) (fun c2 => ?_)
        · refine j_iconst (v := nI 0) d_Model_roundsOf_71 rfl ?_
          refine j_top (w := jbo (rou C Wk k (q + 1) i)) (by rw [show rou C Wk k (q + 1) i = false from by simp [rou, c1, c2]]; rfl) ?_
          have his : rou C Wk k (q + 1) i = false := by simp [rou, c1, c2]
          refine j_istore (L' := [some (.ref 135), some (.int (nI s)), some (.int (nI k)), some (.int (nI 1)), some (.int (nI (dvI ((rou C Wk k) (q + 1)) (q + 1) (dvO (rou C Wk k) (P s).1 q) i))), some (.int (nI (fiI ((rou C Wk k) (q + 1)) (q + 1) (fiO (rou C Wk k) (P s).1 q) i))), some (.int (nI (q + 1))), some (.int (nI i)), some (.int (jbo (rou C Wk k (q + 1) i)))]) d_Model_roundsOf_72 (by decide) rfl rfl ?_
          refine j_iload d_Model_roundsOf_74 rfl ?_
          refine j_if_eqB_t (tgt := 89) d_Model_roundsOf_76 (by decide) his ?_
          refine j_iload d_Model_roundsOf_89 rfl ?_
          refine j_top (w := nI (dvI ((rou C Wk k) (q + 1)) (q + 1) (dvO (rou C Wk k) (P s).1 q) (i + 1))) (congrArg nI (by simp [dvI, his])) ?_
          refine j_istore (L' := [some (.ref 135), some (.int (nI s)), some (.int (nI k)), some (.int (nI 1)), some (.int (nI (dvI ((rou C Wk k) (q + 1)) (q + 1) (dvO (rou C Wk k) (P s).1 q) (i + 1)))), some (.int (nI (fiI ((rou C Wk k) (q + 1)) (q + 1) (fiO (rou C Wk k) (P s).1 q) i))), some (.int (nI (q + 1))), some (.int (nI i)), some (.int (jbo (rou C Wk k (q + 1) i)))]) d_Model_roundsOf_91 (by decide) rfl rfl ?_
          refine j_iload d_Model_roundsOf_93 rfl ?_
          refine j_if_eqB_t (tgt := 108) d_Model_roundsOf_95 (by decide) his ?_
          refine j_iload d_Model_roundsOf_108 rfl ?_
          refine j_top (w := nI (fiI ((rou C Wk k) (q + 1)) (q + 1) (fiO (rou C Wk k) (P s).1 q) (i + 1))) (congrArg nI (by simp [fiI, his])) ?_
          refine j_istore (L' := [some (.ref 135), some (.int (nI s)), some (.int (nI k)), some (.int (nI 1)), some (.int (nI (dvI ((rou C Wk k) (q + 1)) (q + 1) (dvO (rou C Wk k) (P s).1 q) (i + 1)))), some (.int (nI (fiI ((rou C Wk k) (q + 1)) (q + 1) (fiO (rou C Wk k) (P s).1 q) (i + 1)))), some (.int (nI (q + 1))), some (.int (nI i)), some (.int (jbo (rou C Wk k (q + 1) i)))]) d_Model_roundsOf_110 (by decide) rfl rfl ?_
          refine j_iincN (x := i) (L' := [some (.ref 135), some (.int (nI s)), some (.int (nI k)), some (.int (nI 1)), some (.int (nI (dvI ((rou C Wk k) (q + 1)) (q + 1) (dvO (rou C Wk k) (P s).1 q) (i + 1)))), some (.int (nI (fiI ((rou C Wk k) (q + 1)) (q + 1) (fiO (rou C Wk k) (P s).1 q) (i + 1)))), some (.int (nI (q + 1))), some (.int (nI (i + 1))), some (.int (jbo (rou C Wk k (q + 1) i)))]) d_Model_roundsOf_112 rfl (by decide) rfl rfl ?_
          refine j_goto (tgt := 23) d_Model_roundsOf_115 (by decide) ?_
          exact j_forget (i := 8) rfl ihi
        · refine j_iconst (v := nI 1) d_Model_roundsOf_67 rfl ?_
          refine j_goto (tgt := 72) d_Model_roundsOf_68 (by decide) ?_
          refine j_top (w := jbo (rou C Wk k (q + 1) i)) (by rw [show rou C Wk k (q + 1) i = true from by simp [rou, c1, c2]]; rfl) ?_
          have his : rou C Wk k (q + 1) i = true := by simp [rou, c1, c2]
          refine j_istore (L' := [some (.ref 135), some (.int (nI s)), some (.int (nI k)), some (.int (nI 1)), some (.int (nI (dvI ((rou C Wk k) (q + 1)) (q + 1) (dvO (rou C Wk k) (P s).1 q) i))), some (.int (nI (fiI ((rou C Wk k) (q + 1)) (q + 1) (fiO (rou C Wk k) (P s).1 q) i))), some (.int (nI (q + 1))), some (.int (nI i)), some (.int (jbo (rou C Wk k (q + 1) i)))]) d_Model_roundsOf_72 (by decide) rfl rfl ?_
          refine j_iload d_Model_roundsOf_74 rfl ?_
          refine j_if_eqB_f (tgt := 89) d_Model_roundsOf_76 (by decide) his ?_
          refine j_iload d_Model_roundsOf_79 rfl ?_
          refine j_iload d_Model_roundsOf_81 rfl ?_
          refine j_callSs (As := [.int (nI (dvI ((rou C Wk k) (q + 1)) (q + 1) (dvO (rou C Wk k) (P s).1 q) i)), .int (nI (q + 1))]) (st := []) (c_divisor (by omega) (by omega)) d_Model_roundsOf_83 (by decide) jm_Model_divisor jk_Model_186 js_Model_divisor rfl (Nat.le_of_ble_eq_true rfl) rfl ?_
          refine j_goto (tgt := 91) d_Model_roundsOf_86 (by decide) ?_
          refine j_top (w := nI (dvI ((rou C Wk k) (q + 1)) (q + 1) (dvO (rou C Wk k) (P s).1 q) (i + 1))) (congrArg nI (by simp [dvI, his])) ?_
          refine j_istore (L' := [some (.ref 135), some (.int (nI s)), some (.int (nI k)), some (.int (nI 1)), some (.int (nI (dvI ((rou C Wk k) (q + 1)) (q + 1) (dvO (rou C Wk k) (P s).1 q) (i + 1)))), some (.int (nI (fiI ((rou C Wk k) (q + 1)) (q + 1) (fiO (rou C Wk k) (P s).1 q) i))), some (.int (nI (q + 1))), some (.int (nI i)), some (.int (jbo (rou C Wk k (q + 1) i)))]) d_Model_roundsOf_91 (by decide) rfl rfl ?_
          refine j_iload d_Model_roundsOf_93 rfl ?_
          refine j_if_eqB_f (tgt := 108) d_Model_roundsOf_95 (by decide) his ?_
          refine j_iload d_Model_roundsOf_98 rfl ?_
          refine j_if_neN (tgt := 108) d_Model_roundsOf_100 (by decide) (by omega) (fun c9 => ?_) (fun c9 => ?_)
          · refine j_iload d_Model_roundsOf_108 rfl ?_
            refine j_top (w := nI (fiI ((rou C Wk k) (q + 1)) (q + 1) (fiO (rou C Wk k) (P s).1 q) (i + 1))) (congrArg nI (by simp [fiI, his, c9])) ?_
            refine j_istore (L' := [some (.ref 135), some (.int (nI s)), some (.int (nI k)), some (.int (nI 1)), some (.int (nI (dvI ((rou C Wk k) (q + 1)) (q + 1) (dvO (rou C Wk k) (P s).1 q) (i + 1)))), some (.int (nI (fiI ((rou C Wk k) (q + 1)) (q + 1) (fiO (rou C Wk k) (P s).1 q) (i + 1)))), some (.int (nI (q + 1))), some (.int (nI i)), some (.int (jbo (rou C Wk k (q + 1) i)))]) d_Model_roundsOf_110 (by decide) rfl rfl ?_
            refine j_iincN (x := i) (L' := [some (.ref 135), some (.int (nI s)), some (.int (nI k)), some (.int (nI 1)), some (.int (nI (dvI ((rou C Wk k) (q + 1)) (q + 1) (dvO (rou C Wk k) (P s).1 q) (i + 1)))), some (.int (nI (fiI ((rou C Wk k) (q + 1)) (q + 1) (fiO (rou C Wk k) (P s).1 q) (i + 1)))), some (.int (nI (q + 1))), some (.int (nI (i + 1))), some (.int (jbo (rou C Wk k (q + 1) i)))]) d_Model_roundsOf_112 rfl (by decide) rfl rfl ?_
            refine j_goto (tgt := 23) d_Model_roundsOf_115 (by decide) ?_
            exact j_forget (i := 8) rfl ihi
          · refine j_iload d_Model_roundsOf_103 rfl ?_
            refine j_goto (tgt := 110) d_Model_roundsOf_105 (by decide) ?_
            refine j_top (w := nI (fiI ((rou C Wk k) (q + 1)) (q + 1) (fiO (rou C Wk k) (P s).1 q) (i + 1))) (congrArg nI (by simp [fiI, his, c9])) ?_
            refine j_istore (L' := [some (.ref 135), some (.int (nI s)), some (.int (nI k)), some (.int (nI 1)), some (.int (nI (dvI ((rou C Wk k) (q + 1)) (q + 1) (dvO (rou C Wk k) (P s).1 q) (i + 1)))), some (.int (nI (fiI ((rou C Wk k) (q + 1)) (q + 1) (fiO (rou C Wk k) (P s).1 q) (i + 1)))), some (.int (nI (q + 1))), some (.int (nI i)), some (.int (jbo (rou C Wk k (q + 1) i)))]) d_Model_roundsOf_110 (by decide) rfl rfl ?_
            refine j_iincN (x := i) (L' := [some (.ref 135), some (.int (nI s)), some (.int (nI k)), some (.int (nI 1)), some (.int (nI (dvI ((rou C Wk k) (q + 1)) (q + 1) (dvO (rou C Wk k) (P s).1 q) (i + 1)))), some (.int (nI (fiI ((rou C Wk k) (q + 1)) (q + 1) (fiO (rou C Wk k) (P s).1 q) (i + 1)))), some (.int (nI (q + 1))), some (.int (nI (i + 1))), some (.int (jbo (rou C Wk k (q + 1) i)))]) d_Model_roundsOf_112 rfl (by decide) rfl rfl ?_
            refine j_goto (tgt := 23) d_Model_roundsOf_115 (by decide) ?_
            exact j_forget (i := 8) rfl ihi
theorem c_belowOf {n : jN} {h : jH} {P : jP} {s : Nat} (hw : ∀ q, tw (P q)) (hs : s < 6) {C Rc : Nat → Nat} {Wk : Nat → Nat → Nat} {M : Nat} (hk : jko h (P s).1 C Rc Wk M) {k : Nat} (hk12 : k < 12) {l : Nat} (hl : l < (P s).1) (hl1 : C l = k) (hl2 : ∀ i, i < l → ¬ C i = k) : jC n 1 jy_Model_belowOf jc_Model_belowOf 6 (some .int) [.ref 135, .int (nI s), .int (nI k)] (jM h P) (some (.int (nI (blw C (Rc l) k (P s).1)))) (jM h P) := by
  obtain ⟨hC, hCM, hR, hR2, hW, hW2, hM, hM12⟩ := id hk
  have hns := (hw s).1
  refine jC_of jm_Model_belowOf (L := [some (.ref 135), some (.int (nI s)), some (.int (nI k)), none, none, none]) (Nat.le_of_ble_eq_true rfl) rfl trivial ?_
  generalize hres : (((some (.int (nI (blw C (Rc l) k (P s).1)))), jM h P) : Option Value × jH) = res
  refine j_iconst (v := nI 0) d_Model_belowOf_0 rfl ?_
  refine j_istore_n (L' := [some (.ref 135), some (.int (nI s)), some (.int (nI k)), some (.int (nI 0)), none, none]) d_Model_belowOf_1 (by decide) rfl rfl ?_
  refine j_aload_n d_Model_belowOf_2 rfl ?_
  refine j_getr (b := 144) d_Model_belowOf_3 jf_Model_34 rfl rfl rfl (by decide) ?_
  refine j_aload_n d_Model_belowOf_6 rfl ?_
  refine j_iload_n d_Model_belowOf_7 rfl ?_
  refine j_callVs (As := [.int (nI k)]) (st := [.ref 144]) (c_leastOf hw hs hk hk12 hl hl1 hl2) d_Model_belowOf_8 (by decide) jm_Model_leastOf jk_Model_189 ji_Model_leastOf js_Model_leastOf rfl (by decide) rfl rfl (Nat.le_of_ble_eq_true rfl) rfl ?_
  refine j_ialdN (v := nI (Rc l)) d_Model_belowOf_11 rfl (by omega) (by decide) (hR _ (by omega)) ?_
  refine j_istore (L' := [some (.ref 135), some (.int (nI s)), some (.int (nI k)), some (.int (nI 0)), some (.int (nI (Rc l))), none]) d_Model_belowOf_12 (by decide) rfl rfl ?_
  refine j_iconst (v := nI 0) d_Model_belowOf_14 rfl ?_
  refine j_istore (L' := [some (.ref 135), some (.int (nI s)), some (.int (nI k)), some (.int (nI 0)), some (.int (nI (Rc l))), some (.int (nI 0))]) d_Model_belowOf_15 (by decide) rfl rfl ?_
  refine j_loop (P := fun i => jJ n 1 jc_Model_belowOf 6 "YesNoPowersModel" 17 [some (.ref 135), some (.int (nI s)), some (.int (nI k)), some (.int (nI (blw C (Rc l) k i))), some (.int (nI (Rc l))), some (.int (nI i))] [] (jM h P) res) (m := (P s).1) ?_ (fun i hi ih => ?_)
  · refine j_iload d_Model_belowOf_17 rfl ?_
    refine j_aload_n d_Model_belowOf_19 rfl ?_
    refine j_getr (b := 137) d_Model_belowOf_20 jf_Model_13 rfl rfl rfl (by decide) ?_
    refine j_iload_n d_Model_belowOf_23 rfl ?_
    refine j_ialdN (v := nI ((P s).1)) d_Model_belowOf_24 rfl (by omega) (by decide) rfl ?_
    refine j_icmp_geN_t (tgt := 72) d_Model_belowOf_25 (by decide) (by omega) (by omega) (by omega) ?_
    refine j_iload_n d_Model_belowOf_72 rfl ?_
    subst hres
    exact j_reti d_Model_belowOf_73 rfl rfl
  · have hrl := hR2 l hl
    have hci := hCM i hi
    refine j_iload d_Model_belowOf_17 rfl ?_
    refine j_aload_n d_Model_belowOf_19 rfl ?_
    refine j_getr (b := 137) d_Model_belowOf_20 jf_Model_13 rfl rfl rfl (by decide) ?_
    refine j_iload_n d_Model_belowOf_23 rfl ?_
    refine j_ialdN (v := nI ((P s).1)) d_Model_belowOf_24 rfl (by omega) (by decide) rfl ?_
    refine j_icmp_geN_f (tgt := 72) d_Model_belowOf_25 (by decide) (by omega) (by omega) (by omega) ?_
    refine j_iload_n d_Model_belowOf_28 rfl ?_
    refine j_iload d_Model_belowOf_29 rfl ?_
    refine j_iload d_Model_belowOf_31 rfl ?_
    refine j_ishrN d_Model_belowOf_33 (by omega) (by omega) ?_
    refine j_iconst (v := nI 1) d_Model_belowOf_34 rfl ?_
    refine j_iandN d_Model_belowOf_35 ?_
    refine j_top (w := jbo ((Rc l).testBit i)) (ni_bit _ _) ?_
    refine j_iconst (v := nI 1) d_Model_belowOf_36 rfl ?_
    refine j_icmp_neB (tgt := 63) d_Model_belowOf_37 (by decide) (fun c1 => ?_) (fun c1 => ?_)
    · refine j_iconst (v := nI 0) d_Model_belowOf_63 rfl ?_
      refine j_iorN d_Model_belowOf_64 ?_
      refine j_top (w := nI (blw C (Rc l) k (i + 1))) (by rw [Nat.or_zero]; exact congrArg nI (jor_z (by simp [c1]))) ?_
      refine j_istore_n (L' := [some (.ref 135), some (.int (nI s)), some (.int (nI k)), some (.int (nI (blw C (Rc l) k (i + 1)))), some (.int (nI (Rc l))), some (.int (nI i))]) d_Model_belowOf_65 (by decide) rfl rfl ?_
      refine j_iincN (x := i) (L' := [some (.ref 135), some (.int (nI s)), some (.int (nI k)), some (.int (nI (blw C (Rc l) k (i + 1)))), some (.int (nI (Rc l))), some (.int (nI (i + 1)))]) d_Model_belowOf_66 rfl (by decide) rfl rfl ?_
      refine j_goto (tgt := 17) d_Model_belowOf_69 (by decide) ?_
      exact ih
    · refine j_aload_n d_Model_belowOf_40 rfl ?_
      refine j_getr (b := 143) d_Model_belowOf_41 jf_Model_31 rfl rfl rfl (by decide) ?_
      refine j_iload d_Model_belowOf_44 rfl ?_
      refine j_ialdN (v := nI (C i)) d_Model_belowOf_46 rfl (by omega) (by decide) (hC _ (by omega)) ?_
      refine j_iload_n d_Model_belowOf_47 rfl ?_
      refine j_icmp_eqN (tgt := 63) d_Model_belowOf_48 (by decide) (by omega) (by omega) (fun c2 => ?_) (fun c2 => ?_)
      · refine j_iconst (v := nI 0) d_Model_belowOf_63 rfl ?_
        refine j_iorN d_Model_belowOf_64 ?_
        refine j_top (w := nI (blw C (Rc l) k (i + 1))) (by rw [Nat.or_zero]; exact congrArg nI (jor_z (by simp [c1, c2]))) ?_
        refine j_istore_n (L' := [some (.ref 135), some (.int (nI s)), some (.int (nI k)), some (.int (nI (blw C (Rc l) k (i + 1)))), some (.int (nI (Rc l))), some (.int (nI i))]) d_Model_belowOf_65 (by decide) rfl rfl ?_
        refine j_iincN (x := i) (L' := [some (.ref 135), some (.int (nI s)), some (.int (nI k)), some (.int (nI (blw C (Rc l) k (i + 1)))), some (.int (nI (Rc l))), some (.int (nI (i + 1)))]) d_Model_belowOf_66 rfl (by decide) rfl rfl ?_
        refine j_goto (tgt := 17) d_Model_belowOf_69 (by decide) ?_
        exact ih
      · refine j_iconst (v := nI 1) d_Model_belowOf_51 rfl ?_
        refine j_aload_n d_Model_belowOf_52 rfl ?_
        refine j_getr (b := 143) d_Model_belowOf_53 jf_Model_31 rfl rfl rfl (by decide) ?_
        refine j_iload d_Model_belowOf_56 rfl ?_
        refine j_ialdN (v := nI (C i)) d_Model_belowOf_58 rfl (by omega) (by decide) (hC _ (by omega)) ?_
        refine j_shl1N d_Model_belowOf_59 (by omega) ?_
        refine j_goto (tgt := 64) d_Model_belowOf_60 (by decide) ?_
        refine j_iorN d_Model_belowOf_64 ?_
        refine j_top (w := nI (blw C (Rc l) k (i + 1))) (congrArg nI (jor_t (by simp [c1, c2]))) ?_
        refine j_istore_n (L' := [some (.ref 135), some (.int (nI s)), some (.int (nI k)), some (.int (nI (blw C (Rc l) k (i + 1)))), some (.int (nI (Rc l))), some (.int (nI i))]) d_Model_belowOf_65 (by decide) rfl rfl ?_
        refine j_iincN (x := i) (L' := [some (.ref 135), some (.int (nI s)), some (.int (nI k)), some (.int (nI (blw C (Rc l) k (i + 1)))), some (.int (nI (Rc l))), some (.int (nI (i + 1)))]) d_Model_belowOf_66 rfl (by decide) rfl rfl ?_
        refine j_goto (tgt := 17) d_Model_belowOf_69 (by decide) ?_
        exact ih
theorem c_partBy {n : jN} {h : jH} {P : jP} {s : Nat} (hw : ∀ q, tw (P q)) (hs : s < 6) {C Rc : Nat → Nat} {Wk : Nat → Nat → Nat} {M : Nat} (hk : jko h (P s).1 C Rc Wk M) {i l t p : Nat} (hi : i < (P s).1) (hl : l < (P s).1) (hl1 : C l = C i) (hl2 : ∀ j, j < l → ¬ C j = C i) (hp : 0 < p) (hp2 : p < 2 ^ 31) (ht : t ≤ (P s).1) (ht1 : (Wk t l).testBit i = true) (ht2 : ∀ m, m < t → (Wk m l).testBit i = false) : jC n 1 jy_Model_partBy jc_Model_partBy 5 (some .int) [.ref 135, .int (nI i), .int (nI p)] (jM h P) (some (.int (nI (t % p)))) (jM h P) := by
  obtain ⟨hC, hCM, hR, hR2, hW, hW2, hM, hM12⟩ := id hk
  have hns := (hw s).1
  refine jC_of jm_Model_partBy (L := [some (.ref 135), some (.int (nI i)), some (.int (nI p)), none, none]) (Nat.le_of_ble_eq_true rfl) rfl trivial ?_
  generalize hres : (((some (.int (nI (t % p)))), jM h P) : Option Value × jH) = res
  have hci := hCM i hi
  refine j_aload_n d_Model_partBy_0 rfl ?_
  refine j_aload_n d_Model_partBy_1 rfl ?_
  refine j_getr (b := 143) d_Model_partBy_2 jf_Model_31 rfl rfl rfl (by decide) ?_
  refine j_iload_n d_Model_partBy_5 rfl ?_
  refine j_ialdN (v := nI (C i)) d_Model_partBy_6 rfl (by omega) (by decide) (hC _ (by omega)) ?_
  refine j_callVs (As := [.int (nI (C i))]) (st := []) (c_leastOf hw hs hk (by omega) hl hl1 hl2) d_Model_partBy_7 (by decide) jm_Model_leastOf jk_Model_189 ji_Model_leastOf js_Model_leastOf rfl (by decide) rfl rfl (Nat.le_of_ble_eq_true rfl) rfl ?_
  refine j_istore_n (L' := [some (.ref 135), some (.int (nI i)), some (.int (nI p)), some (.int (nI l)), none]) d_Model_partBy_10 (by decide) rfl rfl ?_
  refine j_iconst (v := nI 0) d_Model_partBy_11 rfl ?_
  refine j_istore (L' := [some (.ref 135), some (.int (nI i)), some (.int (nI p)), some (.int (nI l)), some (.int (nI 0))]) d_Model_partBy_12 (by decide) rfl rfl ?_
  refine j_loop (P := fun m => jJ n 1 jc_Model_partBy 5 "YesNoPowersModel" 14 [some (.ref 135), some (.int (nI i)), some (.int (nI p)), some (.int (nI l)), some (.int (nI m))] [] (jM h P) res) (m := t) ?_ (fun m hm ih => ?_)
  · have hwt := hW2 t l ht hl
    refine j_aload_n d_Model_partBy_14 rfl ?_
    refine j_getr (b := 145) d_Model_partBy_15 jf_Model_37 rfl rfl rfl (by decide) ?_
    refine j_bipush (v := nI 12) d_Model_partBy_18 (by decide) ?_
    refine j_iload d_Model_partBy_20 rfl ?_
    refine j_imulN d_Model_partBy_22 ?_
    refine j_iload_n d_Model_partBy_23 rfl ?_
    refine j_iaddN d_Model_partBy_24 ?_
    refine j_ialdN (v := nI (Wk t l)) d_Model_partBy_25 rfl (by omega) (by decide) (hW _ _ (by omega) (by omega)) ?_
    refine j_iload_n d_Model_partBy_26 rfl ?_
    refine j_ishrN d_Model_partBy_27 (by omega) (by omega) ?_
    refine j_iconst (v := nI 1) d_Model_partBy_28 rfl ?_
    refine j_iandN d_Model_partBy_29 ?_
    refine j_top (w := jbo ((Wk t l).testBit i)) (ni_bit _ _) ?_
    refine j_if_neB_t (tgt := 39) d_Model_partBy_30 (by decide) ht1 ?_
    refine j_iload d_Model_partBy_39 rfl ?_
    refine j_iload_n d_Model_partBy_41 rfl ?_
    refine j_iremN d_Model_partBy_42 (by omega) (by omega) (by omega) ?_
    subst hres
    exact j_reti d_Model_partBy_43 rfl rfl
  · have hwt := hW2 m l (by omega) hl
    refine j_aload_n d_Model_partBy_14 rfl ?_
    refine j_getr (b := 145) d_Model_partBy_15 jf_Model_37 rfl rfl rfl (by decide) ?_
    refine j_bipush (v := nI 12) d_Model_partBy_18 (by decide) ?_
    refine j_iload d_Model_partBy_20 rfl ?_
    refine j_imulN d_Model_partBy_22 ?_
    refine j_iload_n d_Model_partBy_23 rfl ?_
    refine j_iaddN d_Model_partBy_24 ?_
    refine j_ialdN (v := nI (Wk m l)) d_Model_partBy_25 rfl (by omega) (by decide) (hW _ _ (by omega) (by omega)) ?_
    refine j_iload_n d_Model_partBy_26 rfl ?_
    refine j_ishrN d_Model_partBy_27 (by omega) (by omega) ?_
    refine j_iconst (v := nI 1) d_Model_partBy_28 rfl ?_
    refine j_iandN d_Model_partBy_29 ?_
    refine j_top (w := jbo ((Wk m l).testBit i)) (ni_bit _ _) ?_
    refine j_if_neB_f (tgt := 39) d_Model_partBy_30 (by decide) (ht2 m hm) ?_
    refine j_iincN (x := m) (L' := [some (.ref 135), some (.int (nI i)), some (.int (nI p)), some (.int (nI l)), some (.int (nI (m + 1)))]) d_Model_partBy_33 rfl (by decide) rfl rfl ?_
    refine j_goto (tgt := 14) d_Model_partBy_36 (by decide) ?_
    exact ih

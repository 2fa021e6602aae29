/-- the sheets: sorts, sizes, numbers -/
def shl (h : jH) (So : Nat → Int32) (Sz : Nat → Nat) (Nu : Nat → Nat → Int32) : Prop := ∀ s, s < 4 → h (127 + 2 * s) 0 = So s ∧ h (127 + 2 * s) 1 = nI (Sz s) ∧ (∀ i, i < Sz s → h (127 + 2 * s + 1) i = Nu s i) ∧ Sz s ≤ 40 ∧ (So s = -1 ∨ So s = 0 ∨ So s = 1)
theorem x_rowAtV {n : jN} {h : jH} {u : Nat} (hu : isU u) {i : Nat} {so x : Int32} (hi : i < 40) (h1 : h u 0 = so) (h2 : h (u + 1) i = x) : jC n 0 jy_Sheet_rowAt jc_Sheet_rowAt 2 (some .int) [.ref u, .int (nI i)] h (some (.int (lrow so x))) h := by
  rw [← h1, ← h2]
  exact x_rowAt hu hi
theorem x_isMissingV {n : jN} {h : jH} {u : Nat} (hu : isU u) {so : Int32} (h1 : h u 0 = so) : jC n 0 jy_Sheet_isMissing jc_Sheet_isMissing 1 (some .boolean) [.ref u] h (some (.int (jbo (decide (so = -1))))) h := by
  rw [← h1]
  exact x_isMissing hu
theorem x_writeV {n : jN} {h : jH} {u : Nat} (hu : isU u) {i : Nat} {so v : Int32} (hi : i < 40) (h1 : h u 0 = so) : jC n 0 jy_Sheet_write jc_Sheet_write 3 none [.ref u, .int (nI i), .int v] h none (jup2 h (u + 1) i (jlow so v)) := by
  rw [← h1]
  exact x_write hu hi
theorem jhas_y {z f m : Nat} (hz : z ≤ 40) (h : f + m ≤ z) : (!(jhas z (nI f) (nI m))) = false := by
  have h1 : ¬ (nI f : Int32) < 0 := fun q => nI_pos (by omega) q
  have h2 : ¬ (nI m : Int32) < 0 := fun q => nI_pos (by omega) q
  have h3 : ¬ nI z < nI m := fun q => by rw [nI_ltI (by omega) (by omega)] at q; omega
  have h4 : ¬ nI z - nI m < nI f := fun q => by rw [ni_sub (by omega), nI_ltI (by omega) (by omega)] at q; omega
  simp [jhas, h1, h2, h3, h4]
def ldH (h : jH) (m : Nat) (r : Nat → Nat) : Nat → jH
  | 0 => jup2 h 113 0 (nI m)
  | k + 1 => jup2 (ldH h m r k) 114 k (nI (r k))
theorem ldH_f {h : jH} {m a : Nat} {r : Nat → Nat} (h1 : a ≠ 113) (h2 : a ≠ 114) : ∀ k, ldH h m r k a = h a
  | 0 => jup2_f h1
  | k + 1 => by rw [ldH, jup2_f h2, ldH_f h1 h2 k]
theorem ldH_n {h : jH} {m : Nat} {r : Nat → Nat} : ∀ k, ldH h m r k 113 0 = nI m
  | 0 => jup2_r
  | k + 1 => by rw [ldH, jup2_f (by decide), ldH_n k]
theorem ldH_v {h : jH} {m : Nat} {r : Nat → Nat} : ∀ k z, z < k → ldH h m r k 114 z = nI (r z)
  | 0, z, hz => absurd hz (Nat.not_lt_zero z)
  | k + 1, z, hz => by
    simp only [ldH, jup2]
    by_cases e : z = k
    · rw [if_pos trivial, if_pos e, e]
    · rw [if_pos trivial, if_neg e]
      exact ldH_v k z (by omega)
def tro (m : Nat) (r : Nat → Nat) : jT := (m, fun i => if i < m then r i else 0)
theorem ldH_r {h : jH} {m : Nat} {r : Nat → Nat} : rep (ldH h m r m) 113 (tro m r) := ⟨ldH_n m, fun i hi => (ldH_v m i hi).trans (congrArg nI (if_pos (show i < m from hi)).symm)⟩
theorem tw_tro {m : Nat} {r : Nat → Nat} (hm : m ≤ 12) (hr : ∀ i, i < m → r i < 2 ^ m) : tw (tro m r) := by
  refine ⟨hm, fun i => ?_, fun i hi => ?_⟩
  · have h2 : 2 ^ m ≤ 2 ^ 12 := Nat.pow_le_pow_right (by omega) hm
    show (if i < m then r i else 0) < 4096
    by_cases e : i < m
    · rw [if_pos e]
      have := hr i e
      omega
    · rw [if_neg e]
      omega
  · have hi : m ≤ i := hi
    show (if i < m then r i else 0) = 0
    rw [if_neg (by omega)]
theorem x_load_bad {n : jN} {h : jH} {s c m f : Int32} (hb : jokLoad s c m = false) : jC n 3 jy_Main_load jc_Main_load 8 (some .int) [.ref 0, .int s, .int c, .int f, .int m] h (some (.int (-1))) h := by
  refine jC_of jm_Main_load (L := [some (.ref 0), some (.int s), some (.int c), some (.int f), some (.int m), none, none, none]) (Nat.le_of_ble_eq_true rfl) rfl trivial ?_
  generalize hres : (((some (.int (-1))), h) : Option Value × jH) = res
  refine j_iload_n d_Main_load_0 rfl ?_
  refine j_callSs (As := [.int s]) (st := []) x_noSlot d_Main_load_1 (by decide) jm_Main_noSlot jk_Main_62 js_Main_noSlot rfl (Nat.le_of_ble_eq_true rfl) rfl ?_
  refine j_if_neB (tgt := 22) d_Main_load_4 (by decide) (fun c1 => ?_) (fun c1 => ?_)
  · refine j_iconst (v := -1) d_Main_load_22 rfl ?_
    subst hres
    exact j_reti d_Main_load_23 rfl rfl
  · refine j_iload_n d_Main_load_7 rfl ?_
    refine j_callSs (As := [.int c]) (st := []) x_noSheet d_Main_load_8 (by decide) jm_Main_noSheet jk_Main_138 js_Main_noSheet rfl (Nat.le_of_ble_eq_true rfl) rfl ?_
    refine j_if_neB (tgt := 22) d_Main_load_11 (by decide) (fun c2 => ?_) (fun c2 => ?_)
    · refine j_iconst (v := -1) d_Main_load_22 rfl ?_
      subst hres
      exact j_reti d_Main_load_23 rfl rfl
    · refine j_iload d_Main_load_14 rfl ?_
      refine j_callSs (As := [.int m]) (st := []) x_noSize d_Main_load_16 (by decide) jm_Main_noSize jk_Main_66 js_Main_noSize rfl (Nat.le_of_ble_eq_true rfl) rfl ?_
      refine j_if_eqB (tgt := 24) d_Main_load_19 (by decide) (fun c3 => ?_) (fun c3 => ?_)
      · exact absurd hb (by simp_all [jokLoad])
      · refine j_iconst (v := -1) d_Main_load_22 rfl ?_
        subst hres
        exact j_reti d_Main_load_23 rfl rfl
theorem x_load_nothing {n : jN} {h : jH} {So : Nat → Int32} {Sz : Nat → Nat} {Nu : Nat → Nat → Int32} (hsh : shl h So Sz Nu) {s c m : Nat} (hs : s < 6) (hc : c < 4) (hm0 : 0 < m) (hm : m ≤ 12) {f : Int32} (hso : So c = -1) : jC n 3 jy_Main_load jc_Main_load 8 (some .int) [.ref 0, .int (nI s), .int (nI c), .int f, .int (nI m)] h (some (.int (-11))) h := by
  refine jC_of jm_Main_load (L := [some (.ref 0), some (.int (nI s)), some (.int (nI c)), some (.int f), some (.int (nI m)), none, none, none]) (Nat.le_of_ble_eq_true rfl) rfl trivial ?_
  generalize hres : (((some (.int (-11))), h) : Option Value × jH) = res
  obtain ⟨hsh1, hsh2, hsh3, hsh4, hsh5⟩ := hsh c (by omega)
  refine j_iload_n d_Main_load_0 rfl ?_
  refine j_callSs (As := [.int (nI s)]) (st := []) x_noSlot d_Main_load_1 (by decide) jm_Main_noSlot jk_Main_62 js_Main_noSlot rfl (Nat.le_of_ble_eq_true rfl) rfl ?_
  refine j_if_neB_f (tgt := 22) d_Main_load_4 (by decide) (sl_n hs) ?_
  refine j_iload_n d_Main_load_7 rfl ?_
  refine j_callSs (As := [.int (nI c)]) (st := []) x_noSheet d_Main_load_8 (by decide) jm_Main_noSheet jk_Main_138 js_Main_noSheet rfl (Nat.le_of_ble_eq_true rfl) rfl ?_
  refine j_if_neB_f (tgt := 22) d_Main_load_11 (by decide) (s4_n hc) ?_
  refine j_iload d_Main_load_14 rfl ?_
  refine j_callSs (As := [.int (nI m)]) (st := []) x_noSize d_Main_load_16 (by decide) jm_Main_noSize jk_Main_66 js_Main_noSize rfl (Nat.le_of_ble_eq_true rfl) rfl ?_
  refine j_if_eqB_t (tgt := 24) d_Main_load_19 (by decide) (in_n (by omega) (by omega) (by omega)) ?_
  refine j_aload_n d_Main_load_24 rfl ?_
  refine j_getr (b := 2) d_Main_load_25 jf_Main_17 rfl rfl rfl (by decide) ?_
  refine j_iload_n d_Main_load_28 rfl ?_
  refine j_aaldN (b := 127 + 2 * c) d_Main_load_29 rfl (by decide) (by omega) (by decide) (jrf_sheet _ (by omega)) (by omega) ?_
  refine j_astore (L' := [some (.ref 0), some (.int (nI s)), some (.int (nI c)), some (.int f), some (.int (nI m)), some (.ref (127 + 2 * c)), none, none]) d_Main_load_30 (by decide) rfl rfl ?_
  refine j_aload d_Main_load_32 rfl ?_
  refine j_callVs (As := []) (st := []) (x_isMissingV (isU_sheet c (by omega)) hsh1) d_Main_load_34 (by decide) jm_Sheet_isMissing jk_Main_141 ji_Sheet_isMissing js_Sheet_isMissing (isU_sheet c (by omega)).1 (by decide) rfl rfl (Nat.le_of_ble_eq_true rfl) rfl ?_
  refine j_if_eqB_f (tgt := 43) d_Main_load_37 (by decide) (decide_eq_true hso) ?_
  refine j_bipush (v := -11) d_Main_load_40 (by decide) ?_
  subst hres
  exact j_reti d_Main_load_42 rfl rfl
theorem x_load_out {n : jN} {h : jH} {So : Nat → Int32} {Sz : Nat → Nat} {Nu : Nat → Nat → Int32} (hsh : shl h So Sz Nu) {s c m : Nat} (hs : s < 6) (hc : c < 4) (hm0 : 0 < m) (hm : m ≤ 12) {f : Int32} (hso : ¬ So c = -1) (hb : jhas (Sz c) f (nI m) = false) : jC n 3 jy_Main_load jc_Main_load 8 (some .int) [.ref 0, .int (nI s), .int (nI c), .int f, .int (nI m)] h (some (.int (-12))) h := by
  refine jC_of jm_Main_load (L := [some (.ref 0), some (.int (nI s)), some (.int (nI c)), some (.int f), some (.int (nI m)), none, none, none]) (Nat.le_of_ble_eq_true rfl) rfl trivial ?_
  generalize hres : (((some (.int (-12))), h) : Option Value × jH) = res
  obtain ⟨hsh1, hsh2, hsh3, hsh4, hsh5⟩ := hsh c (by omega)
  refine j_iload_n d_Main_load_0 rfl ?_
  refine j_callSs (As := [.int (nI s)]) (st := []) x_noSlot d_Main_load_1 (by decide) jm_Main_noSlot jk_Main_62 js_Main_noSlot rfl (Nat.le_of_ble_eq_true rfl) rfl ?_
  refine j_if_neB_f (tgt := 22) d_Main_load_4 (by decide) (sl_n hs) ?_
  refine j_iload_n d_Main_load_7 rfl ?_
  refine j_callSs (As := [.int (nI c)]) (st := []) x_noSheet d_Main_load_8 (by decide) jm_Main_noSheet jk_Main_138 js_Main_noSheet rfl (Nat.le_of_ble_eq_true rfl) rfl ?_
  refine j_if_neB_f (tgt := 22) d_Main_load_11 (by decide) (s4_n hc) ?_
  refine j_iload d_Main_load_14 rfl ?_
  refine j_callSs (As := [.int (nI m)]) (st := []) x_noSize d_Main_load_16 (by decide) jm_Main_noSize jk_Main_66 js_Main_noSize rfl (Nat.le_of_ble_eq_true rfl) rfl ?_
  refine j_if_eqB_t (tgt := 24) d_Main_load_19 (by decide) (in_n (by omega) (by omega) (by omega)) ?_
  refine j_aload_n d_Main_load_24 rfl ?_
  refine j_getr (b := 2) d_Main_load_25 jf_Main_17 rfl rfl rfl (by decide) ?_
  refine j_iload_n d_Main_load_28 rfl ?_
  refine j_aaldN (b := 127 + 2 * c) d_Main_load_29 rfl (by decide) (by omega) (by decide) (jrf_sheet _ (by omega)) (by omega) ?_
  refine j_astore (L' := [some (.ref 0), some (.int (nI s)), some (.int (nI c)), some (.int f), some (.int (nI m)), some (.ref (127 + 2 * c)), none, none]) d_Main_load_30 (by decide) rfl rfl ?_
  refine j_aload d_Main_load_32 rfl ?_
  refine j_callVs (As := []) (st := []) (x_isMissingV (isU_sheet c (by omega)) hsh1) d_Main_load_34 (by decide) jm_Sheet_isMissing jk_Main_141 ji_Sheet_isMissing js_Sheet_isMissing (isU_sheet c (by omega)).1 (by decide) rfl rfl (Nat.le_of_ble_eq_true rfl) rfl ?_
  refine j_if_eqB_t (tgt := 43) d_Main_load_37 (by decide) (decide_eq_false hso) ?_
  refine j_aload d_Main_load_43 rfl ?_
  refine j_iload_n d_Main_load_45 rfl ?_
  refine j_iload d_Main_load_46 rfl ?_
  refine j_callVs (As := [.int f, .int (nI m)]) (st := []) (x_lacks4 (isU_sheet c (by omega)) hsh2) d_Main_load_48 (by decide) jm_Sheet_lacks jk_Main_145 ji_Sheet_lacks js_Sheet_lacks (isU_sheet c (by omega)).1 (by decide) rfl rfl (Nat.le_of_ble_eq_true rfl) rfl ?_
  refine j_if_eqB_f (tgt := 57) d_Main_load_51 (by decide) (by rw [hb]; rfl) ?_
  refine j_bipush (v := -12) d_Main_load_54 (by decide) ?_
  subst hres
  exact j_reti d_Main_load_56 rfl rfl
theorem x_load {n : jN} {h : jH} {P : jP} (hw : ∀ q, tw (P q)) (hP : slo h P) {nx sz : Nat} (hnx : h 3 1 = nI nx) (hn : nx < 20) (hsz : h 3 0 = nI sz) (hs1 : sz ≤ 20) {So : Nat → Int32} {Sz : Nat → Nat} {Nu : Nat → Nat → Int32} (hsh : shl h So Sz Nu) {s c m : Nat} (hs : s < 6) (hc : c < 4) (hm0 : 0 < m) (hm : m ≤ 12) {f : Nat} {r : Nat → Nat} (hso : ¬ So c = -1) (hfm : f + m ≤ Sz c) (hr : ∀ i, i < m → lrow (So c) (Nu c (f + i)) = nI (r i)) (hr2 : ∀ i, i < m → r i < 2 ^ m) : jC n 3 jy_Main_load jc_Main_load 8 (some .int) [.ref 0, .int (nI s), .int (nI c), .int (nI f), .int (nI m)] h (some (.int (nI m))) (holdH (ldH h m r m) s nx sz (P s) (tro m r)) := by
  refine jC_of jm_Main_load (L := [some (.ref 0), some (.int (nI s)), some (.int (nI c)), some (.int (nI f)), some (.int (nI m)), none, none, none]) (Nat.le_of_ble_eq_true rfl) rfl trivial ?_
  generalize hres : (((some (.int (nI m))), holdH (ldH h m r m) s nx sz (P s) (tro m r)) : Option Value × jH) = res
  obtain ⟨hsh1, hsh2, hsh3, hsh4, hsh5⟩ := hsh c (by omega)
  refine j_iload_n d_Main_load_0 rfl ?_
  refine j_callSs (As := [.int (nI s)]) (st := []) x_noSlot d_Main_load_1 (by decide) jm_Main_noSlot jk_Main_62 js_Main_noSlot rfl (Nat.le_of_ble_eq_true rfl) rfl ?_
  refine j_if_neB_f (tgt := 22) d_Main_load_4 (by decide) (sl_n hs) ?_
  refine j_iload_n d_Main_load_7 rfl ?_
  refine j_callSs (As := [.int (nI c)]) (st := []) x_noSheet d_Main_load_8 (by decide) jm_Main_noSheet jk_Main_138 js_Main_noSheet rfl (Nat.le_of_ble_eq_true rfl) rfl ?_
  refine j_if_neB_f (tgt := 22) d_Main_load_11 (by decide) (s4_n hc) ?_
  refine j_iload d_Main_load_14 rfl ?_
  refine j_callSs (As := [.int (nI m)]) (st := []) x_noSize d_Main_load_16 (by decide) jm_Main_noSize jk_Main_66 js_Main_noSize rfl (Nat.le_of_ble_eq_true rfl) rfl ?_
  refine j_if_eqB_t (tgt := 24) d_Main_load_19 (by decide) (in_n (by omega) (by omega) (by omega)) ?_
  refine j_aload_n d_Main_load_24 rfl ?_
  refine j_getr (b := 2) d_Main_load_25 jf_Main_17 rfl rfl rfl (by decide) ?_
  refine j_iload_n d_Main_load_28 rfl ?_
  refine j_aaldN (b := 127 + 2 * c) d_Main_load_29 rfl (by decide) (by omega) (by decide) (jrf_sheet _ (by omega)) (by omega) ?_
  refine j_astore (L' := [some (.ref 0), some (.int (nI s)), some (.int (nI c)), some (.int (nI f)), some (.int (nI m)), some (.ref (127 + 2 * c)), none, none]) d_Main_load_30 (by decide) rfl rfl ?_
  refine j_aload d_Main_load_32 rfl ?_
  refine j_callVs (As := []) (st := []) (x_isMissingV (isU_sheet c (by omega)) hsh1) d_Main_load_34 (by decide) jm_Sheet_isMissing jk_Main_141 ji_Sheet_isMissing js_Sheet_isMissing (isU_sheet c (by omega)).1 (by decide) rfl rfl (Nat.le_of_ble_eq_true rfl) rfl ?_
  refine j_if_eqB_t (tgt := 43) d_Main_load_37 (by decide) (decide_eq_false hso) ?_
  refine j_aload d_Main_load_43 rfl ?_
  refine j_iload_n d_Main_load_45 rfl ?_
  refine j_iload d_Main_load_46 rfl ?_
  refine j_callVs (As := [.int (nI f), .int (nI m)]) (st := []) (x_lacks4 (isU_sheet c (by omega)) hsh2) d_Main_load_48 (by decide) jm_Sheet_lacks jk_Main_145 ji_Sheet_lacks js_Sheet_lacks (isU_sheet c (by omega)).1 (by decide) rfl rfl (Nat.le_of_ble_eq_true rfl) rfl ?_
  refine j_if_eqB_t (tgt := 57) d_Main_load_51 (by decide) (jhas_y hsh4 hfm) ?_
  refine j_aload_n d_Main_load_57 rfl ?_
  refine j_getr (b := 113) d_Main_load_58 jf_Main_57 rfl rfl rfl (by decide) ?_
  refine j_iload d_Main_load_61 rfl ?_
  refine j_putv (h' := jup2 h 113 0 (nI m)) d_Main_load_63 jf_Main_106 rfl rfl rfl ?_
  refine j_iconst (v := nI 0) d_Main_load_66 rfl ?_
  refine j_istore (L' := [some (.ref 0), some (.int (nI s)), some (.int (nI c)), some (.int (nI f)), some (.int (nI m)), some (.ref (127 + 2 * c)), some (.int (nI 0)), none]) d_Main_load_67 (by decide) rfl rfl ?_
  refine j_loop (P := fun k => jJ n 3 jc_Main_load 8 "YesNoPowers" 69 [some (.ref 0), some (.int (nI s)), some (.int (nI c)), some (.int (nI f)), some (.int (nI m)), some (.ref (127 + 2 * c)), some (.int (nI k)), none] [] (ldH h m r k) res) (m := m) ?_ (fun k hk ih => ?_)
  · have hfr : ∀ a, a ≠ 113 → a ≠ 114 → ldH h m r m a = h a := fun a h1 h2 => ldH_f h1 h2 m
    refine j_iload d_Main_load_69 rfl ?_
    refine j_iload d_Main_load_71 rfl ?_
    refine j_icmp_geN_t (tgt := 119) d_Main_load_73 (by decide) (by omega) (by omega) (Nat.le_refl _) ?_
    refine j_aload_n d_Main_load_119 rfl ?_
    refine j_iload_n d_Main_load_120 rfl ?_
    refine j_callVs (As := [.int (nI s)]) (st := []) (x_holdX hw hP hnx hn hsz hs1 (fun zz hz => (ldH_f (by omega) (by omega) m)) (by omega) ldH_r (tw_tro hm hr2)) d_Main_load_121 (by decide) jm_Main_hold jk_Main_77 ji_Main_hold js_Main_hold rfl (by decide) rfl rfl (Nat.le_of_ble_eq_true rfl) rfl ?_
    subst hres
    exact j_reti d_Main_load_124 rfl rfl
  · have hfr : ∀ a, a ≠ 113 → a ≠ 114 → ldH h m r k a = h a := fun a h1 h2 => ldH_f h1 h2 k
    refine j_iload d_Main_load_69 rfl ?_
    refine j_iload d_Main_load_71 rfl ?_
    refine j_icmp_geN_f (tgt := 119) d_Main_load_73 (by decide) (by omega) (by omega) (by omega) ?_
    have hrk := hr2 k hk
    refine j_aload d_Main_load_76 rfl ?_
    refine j_iload_n d_Main_load_78 rfl ?_
    refine j_iload d_Main_load_79 rfl ?_
    refine j_iaddN d_Main_load_81 ?_
    refine j_callVs (As := [.int (nI (f + k))]) (st := []) (x_rowAtV (isU_sheet c (by omega)) (by omega) ((congrFun (hfr _ (by omega) (by omega)) 0).trans hsh1) ((congrFun (hfr _ (by omega) (by omega)) _).trans (hsh3 _ (by omega)))) d_Main_load_82 (by decide) jm_Sheet_rowAt jk_Main_148 ji_Sheet_rowAt js_Sheet_rowAt (isU_sheet c (by omega)).1 (by decide) rfl rfl (Nat.le_of_ble_eq_true rfl) rfl ?_
    refine j_top (w := nI (r k)) (hr k hk) ?_
    refine j_istore (L' := [some (.ref 0), some (.int (nI s)), some (.int (nI c)), some (.int (nI f)), some (.int (nI m)), some (.ref (127 + 2 * c)), some (.int (nI k)), some (.int (nI (r k)))]) d_Main_load_85 (by decide) rfl rfl ?_
    refine j_aload_n d_Main_load_87 rfl ?_
    refine j_getr (b := 113) d_Main_load_88 jf_Main_57 rfl rfl rfl (by decide) ?_
    refine j_iload d_Main_load_91 rfl ?_
    refine j_callVs (As := [.int (nI (r k))]) (st := []) (x_lacks isT_108 (ldH_n k) hm) d_Main_load_93 (by decide) jm_Table_lacksColumnOf jk_Main_100 ji_Table_lacksColumnOf js_Table_lacksColumnOf rfl (by decide) rfl rfl (Nat.le_of_ble_eq_true rfl) rfl ?_
    refine j_if_eqB_t (tgt := 101) d_Main_load_96 (by decide) (se_n hm hrk) ?_
    refine j_aload_n d_Main_load_101 rfl ?_
    refine j_getr (b := 113) d_Main_load_102 jf_Main_57 rfl rfl rfl (by decide) ?_
    refine j_getr (b := 114) d_Main_load_105 jf_Main_93 rfl rfl rfl (by decide) ?_
    refine j_iload d_Main_load_108 rfl ?_
    refine j_iload d_Main_load_110 rfl ?_
    refine j_iastN (h' := jup2 (ldH h m r k) 114 k (nI (r k))) d_Main_load_112 rfl (by omega) (by decide) rfl ?_
    refine j_heap (h' := ldH h m r (k + 1)) rfl ?_
    refine j_iincN (x := k) (L' := [some (.ref 0), some (.int (nI s)), some (.int (nI c)), some (.int (nI f)), some (.int (nI m)), some (.ref (127 + 2 * c)), some (.int (nI (k + 1))), some (.int (nI (r k)))]) d_Main_load_113 rfl (by decide) rfl rfl ?_
    refine j_goto (tgt := 69) d_Main_load_116 (by decide) ?_
    exact j_forget (i := 7) rfl ih
theorem x_load_row {n : jN} {h : jH} {So : Nat → Int32} {Sz : Nat → Nat} {Nu : Nat → Nat → Int32} (hsh : shl h So Sz Nu) {s c m : Nat} (hs : s < 6) (hc : c < 4) (hm0 : 0 < m) (hm : m ≤ 12) {f k0 : Nat} {r : Nat → Nat} (hso : ¬ So c = -1) (hfm : f + m ≤ Sz c) (hr : ∀ i, i < k0 → lrow (So c) (Nu c (f + i)) = nI (r i)) (hr2 : ∀ i, i < k0 → r i < 2 ^ m) (hk0m : k0 < m) (hk0 : jse m (lrow (So c) (Nu c (f + k0))) = false) : jC n 3 jy_Main_load jc_Main_load 8 (some .int) [.ref 0, .int (nI s), .int (nI c), .int (nI f), .int (nI m)] h (some (.int (-1))) (ldH h m r k0) := by
  refine jC_of jm_Main_load (L := [some (.ref 0), some (.int (nI s)), some (.int (nI c)), some (.int (nI f)), some (.int (nI m)), none, none, none]) (Nat.le_of_ble_eq_true rfl) rfl trivial ?_
  generalize hres : (((some (.int (-1))), ldH h m r k0) : Option Value × jH) = res
  obtain ⟨hsh1, hsh2, hsh3, hsh4, hsh5⟩ := hsh c (by omega)
  refine j_iload_n d_Main_load_0 rfl ?_
  refine j_callSs (As := [.int (nI s)]) (st := []) x_noSlot d_Main_load_1 (by decide) jm_Main_noSlot jk_Main_62 js_Main_noSlot rfl (Nat.le_of_ble_eq_true rfl) rfl ?_
  refine j_if_neB_f (tgt := 22) d_Main_load_4 (by decide) (sl_n hs) ?_
  refine j_iload_n d_Main_load_7 rfl ?_
  refine j_callSs (As := [.int (nI c)]) (st := []) x_noSheet d_Main_load_8 (by decide) jm_Main_noSheet jk_Main_138 js_Main_noSheet rfl (Nat.le_of_ble_eq_true rfl) rfl ?_
  refine j_if_neB_f (tgt := 22) d_Main_load_11 (by decide) (s4_n hc) ?_
  refine j_iload d_Main_load_14 rfl ?_
  refine j_callSs (As := [.int (nI m)]) (st := []) x_noSize d_Main_load_16 (by decide) jm_Main_noSize jk_Main_66 js_Main_noSize rfl (Nat.le_of_ble_eq_true rfl) rfl ?_
  refine j_if_eqB_t (tgt := 24) d_Main_load_19 (by decide) (in_n (by omega) (by omega) (by omega)) ?_
  refine j_aload_n d_Main_load_24 rfl ?_
  refine j_getr (b := 2) d_Main_load_25 jf_Main_17 rfl rfl rfl (by decide) ?_
  refine j_iload_n d_Main_load_28 rfl ?_
  refine j_aaldN (b := 127 + 2 * c) d_Main_load_29 rfl (by decide) (by omega) (by decide) (jrf_sheet _ (by omega)) (by omega) ?_
  refine j_astore (L' := [some (.ref 0), some (.int (nI s)), some (.int (nI c)), some (.int (nI f)), some (.int (nI m)), some (.ref (127 + 2 * c)), none, none]) d_Main_load_30 (by decide) rfl rfl ?_
  refine j_aload d_Main_load_32 rfl ?_
  refine j_callVs (As := []) (st := []) (x_isMissingV (isU_sheet c (by omega)) hsh1) d_Main_load_34 (by decide) jm_Sheet_isMissing jk_Main_141 ji_Sheet_isMissing js_Sheet_isMissing (isU_sheet c (by omega)).1 (by decide) rfl rfl (Nat.le_of_ble_eq_true rfl) rfl ?_
  refine j_if_eqB_t (tgt := 43) d_Main_load_37 (by decide) (decide_eq_false hso) ?_
  refine j_aload d_Main_load_43 rfl ?_
  refine j_iload_n d_Main_load_45 rfl ?_
  refine j_iload d_Main_load_46 rfl ?_
  refine j_callVs (As := [.int (nI f), .int (nI m)]) (st := []) (x_lacks4 (isU_sheet c (by omega)) hsh2) d_Main_load_48 (by decide) jm_Sheet_lacks jk_Main_145 ji_Sheet_lacks js_Sheet_lacks (isU_sheet c (by omega)).1 (by decide) rfl rfl (Nat.le_of_ble_eq_true rfl) rfl ?_
  refine j_if_eqB_t (tgt := 57) d_Main_load_51 (by decide) (jhas_y hsh4 hfm) ?_
  refine j_aload_n d_Main_load_57 rfl ?_
  refine j_getr (b := 113) d_Main_load_58 jf_Main_57 rfl rfl rfl (by decide) ?_
  refine j_iload d_Main_load_61 rfl ?_
  refine j_putv (h' := jup2 h 113 0 (nI m)) d_Main_load_63 jf_Main_106 rfl rfl rfl ?_
  refine j_iconst (v := nI 0) d_Main_load_66 rfl ?_
  refine j_istore (L' := [some (.ref 0), some (.int (nI s)), some (.int (nI c)), some (.int (nI f)), some (.int (nI m)), some (.ref (127 + 2 * c)), some (.int (nI 0)), none]) d_Main_load_67 (by decide) rfl rfl ?_
  refine j_loop (P := fun k => jJ n 3 jc_Main_load 8 "YesNoPowers" 69 [some (.ref 0), some (.int (nI s)), some (.int (nI c)), some (.int (nI f)), some (.int (nI m)), some (.ref (127 + 2 * c)), some (.int (nI k)), none] [] (ldH h m r k) res) (m := k0) ?_ (fun k hk ih => ?_)
  · have hfr : ∀ a, a ≠ 113 → a ≠ 114 → ldH h m r k0 a = h a := fun a h1 h2 => ldH_f h1 h2 k0
    refine j_iload d_Main_load_69 rfl ?_
    refine j_iload d_Main_load_71 rfl ?_
    refine j_icmp_geN_f (tgt := 119) d_Main_load_73 (by decide) (by omega) (by omega) (by omega) ?_
    refine j_aload d_Main_load_76 rfl ?_
    refine j_iload_n d_Main_load_78 rfl ?_
    refine j_iload d_Main_load_79 rfl ?_
    refine j_iaddN d_Main_load_81 ?_
    refine j_callVs (As := [.int (nI (f + k0))]) (st := []) (x_rowAtV (isU_sheet c (by omega)) (by omega) ((congrFun (hfr _ (by omega) (by omega)) 0).trans hsh1) ((congrFun (hfr _ (by omega) (by omega)) _).trans (hsh3 _ (by omega)))) d_Main_load_82 (by decide) jm_Sheet_rowAt jk_Main_148 ji_Sheet_rowAt js_Sheet_rowAt (isU_sheet c (by omega)).1 (by decide) rfl rfl (Nat.le_of_ble_eq_true rfl) rfl ?_
    refine j_istore (L' := [some (.ref 0), some (.int (nI s)), some (.int (nI c)), some (.int (nI f)), some (.int (nI m)), some (.ref (127 + 2 * c)), some (.int (nI k0)), some (.int (lrow (So c) (Nu c (f + k0))))]) d_Main_load_85 (by decide) rfl rfl ?_
    refine j_aload_n d_Main_load_87 rfl ?_
    refine j_getr (b := 113) d_Main_load_88 jf_Main_57 rfl rfl rfl (by decide) ?_
    refine j_iload d_Main_load_91 rfl ?_
    refine j_callVs (As := [.int (lrow (So c) (Nu c (f + k0)))]) (st := []) (x_lacks isT_108 (ldH_n k0) hm) d_Main_load_93 (by decide) jm_Table_lacksColumnOf jk_Main_100 ji_Table_lacksColumnOf js_Table_lacksColumnOf rfl (by decide) rfl rfl (Nat.le_of_ble_eq_true rfl) rfl ?_
    refine j_if_eqB_f (tgt := 101) d_Main_load_96 (by decide) (by rw [hk0]; rfl) ?_
    refine j_iconst (v := -1) d_Main_load_99 rfl ?_
    subst hres
    exact j_reti d_Main_load_100 rfl rfl
  · have hfr : ∀ a, a ≠ 113 → a ≠ 114 → ldH h m r k a = h a := fun a h1 h2 => ldH_f h1 h2 k
    refine j_iload d_Main_load_69 rfl ?_
    refine j_iload d_Main_load_71 rfl ?_
    refine j_icmp_geN_f (tgt := 119) d_Main_load_73 (by decide) (by omega) (by omega) (by omega) ?_
    have hrk := hr2 k hk
    refine j_aload d_Main_load_76 rfl ?_
    refine j_iload_n d_Main_load_78 rfl ?_
    refine j_iload d_Main_load_79 rfl ?_
    refine j_iaddN d_Main_load_81 ?_
    refine j_callVs (As := [.int (nI (f + k))]) (st := []) (x_rowAtV (isU_sheet c (by omega)) (by omega) ((congrFun (hfr _ (by omega) (by omega)) 0).trans hsh1) ((congrFun (hfr _ (by omega) (by omega)) _).trans (hsh3 _ (by omega)))) d_Main_load_82 (by decide) jm_Sheet_rowAt jk_Main_148 ji_Sheet_rowAt js_Sheet_rowAt (isU_sheet c (by omega)).1 (by decide) rfl rfl (Nat.le_of_ble_eq_true rfl) rfl ?_
    refine j_top (w := nI (r k)) (hr k hk) ?_
    refine j_istore (L' := [some (.ref 0), some (.int (nI s)), some (.int (nI c)), some (.int (nI f)), some (.int (nI m)), some (.ref (127 + 2 * c)), some (.int (nI k)), some (.int (nI (r k)))]) d_Main_load_85 (by decide) rfl rfl ?_
    refine j_aload_n d_Main_load_87 rfl ?_
    refine j_getr (b := 113) d_Main_load_88 jf_Main_57 rfl rfl rfl (by decide) ?_
    refine j_iload d_Main_load_91 rfl ?_
    refine j_callVs (As := [.int (nI (r k))]) (st := []) (x_lacks isT_108 (ldH_n k) hm) d_Main_load_93 (by decide) jm_Table_lacksColumnOf jk_Main_100 ji_Table_lacksColumnOf js_Table_lacksColumnOf rfl (by decide) rfl rfl (Nat.le_of_ble_eq_true rfl) rfl ?_
    refine j_if_eqB_t (tgt := 101) d_Main_load_96 (by decide) (se_n hm hrk) ?_
    refine j_aload_n d_Main_load_101 rfl ?_
    refine j_getr (b := 113) d_Main_load_102 jf_Main_57 rfl rfl rfl (by decide) ?_
    refine j_getr (b := 114) d_Main_load_105 jf_Main_93 rfl rfl rfl (by decide) ?_
    refine j_iload d_Main_load_108 rfl ?_
    refine j_iload d_Main_load_110 rfl ?_
    refine j_iastN (h' := jup2 (ldH h m r k) 114 k (nI (r k))) d_Main_load_112 rfl (by omega) (by decide) rfl ?_
    refine j_heap (h' := ldH h m r (k + 1)) rfl ?_
    refine j_iincN (x := k) (L' := [some (.ref 0), some (.int (nI s)), some (.int (nI c)), some (.int (nI f)), some (.int (nI m)), some (.ref (127 + 2 * c)), some (.int (nI (k + 1))), some (.int (nI (r k)))]) d_Main_load_113 rfl (by decide) rfl rfl ?_
    refine j_goto (tgt := 69) d_Main_load_116 (by decide) ?_
    exact j_forget (i := 7) rfl ih
theorem x_spill_bad {n : jN} {h : jH} {P : jP} (hw : ∀ q, tw (P q)) (hP : slo h P) {s c f : Int32} (hb : (jho P s && js4 c) = false) : jC n 3 jy_Main_spill jc_Main_spill 7 (some .int) [.ref 0, .int s, .int c, .int f] h (some (.int (-1))) h := by
  refine jC_of jm_Main_spill (L := [some (.ref 0), some (.int s), some (.int c), some (.int f), none, none, none]) (Nat.le_of_ble_eq_true rfl) rfl trivial ?_
  generalize hres : (((some (.int (-1))), h) : Option Value × jH) = res
  refine j_aload_n d_Main_spill_0 rfl ?_
  refine j_iload_n d_Main_spill_1 rfl ?_
  refine j_callVs (As := [.int s]) (st := []) (x_noTable hw hP) d_Main_spill_2 (by decide) jm_Main_noTable jk_Main_103 ji_Main_noTable js_Main_noTable rfl (by decide) rfl rfl (Nat.le_of_ble_eq_true rfl) rfl ?_
  refine j_if_neB (tgt := 15) d_Main_spill_5 (by decide) (fun c1 => ?_) (fun c1 => ?_)
  · refine j_iconst (v := -1) d_Main_spill_15 rfl ?_
    subst hres
    exact j_reti d_Main_spill_16 rfl rfl
  · refine j_iload_n d_Main_spill_8 rfl ?_
    refine j_callSs (As := [.int c]) (st := []) x_noSheet d_Main_spill_9 (by decide) jm_Main_noSheet jk_Main_138 js_Main_noSheet rfl (Nat.le_of_ble_eq_true rfl) rfl ?_
    refine j_if_eqB (tgt := 17) d_Main_spill_12 (by decide) (fun c2 => ?_) (fun c2 => ?_)
    · exact absurd hb (by simp_all)
    · refine j_iconst (v := -1) d_Main_spill_15 rfl ?_
      subst hres
      exact j_reti d_Main_spill_16 rfl rfl
theorem x_spill_nothing {n : jN} {h : jH} {P : jP} (hw : ∀ q, tw (P q)) (hP : slo h P) {So : Nat → Int32} {Sz : Nat → Nat} {Nu : Nat → Nat → Int32} (hsh : shl h So Sz Nu) {s c : Nat} (hs : s < 6) (h0 : 0 < (P s).1) (hc : c < 4) {f : Int32} (hso : So c = -1) : jC n 3 jy_Main_spill jc_Main_spill 7 (some .int) [.ref 0, .int (nI s), .int (nI c), .int f] h (some (.int (-11))) h := by
  refine jC_of jm_Main_spill (L := [some (.ref 0), some (.int (nI s)), some (.int (nI c)), some (.int f), none, none, none]) (Nat.le_of_ble_eq_true rfl) rfl trivial ?_
  generalize hres : (((some (.int (-11))), h) : Option Value × jH) = res
  obtain ⟨hsh1, hsh2, hsh3, hsh4, hsh5⟩ := hsh c (by omega)
  refine j_aload_n d_Main_spill_0 rfl ?_
  refine j_iload_n d_Main_spill_1 rfl ?_
  refine j_callVs (As := [.int (nI s)]) (st := []) (x_noTable hw hP) d_Main_spill_2 (by decide) jm_Main_noTable jk_Main_103 ji_Main_noTable js_Main_noTable rfl (by decide) rfl rfl (Nat.le_of_ble_eq_true rfl) rfl ?_
  refine j_if_neB_f (tgt := 15) d_Main_spill_5 (by decide) (ho_n hs h0) ?_
  refine j_iload_n d_Main_spill_8 rfl ?_
  refine j_callSs (As := [.int (nI c)]) (st := []) x_noSheet d_Main_spill_9 (by decide) jm_Main_noSheet jk_Main_138 js_Main_noSheet rfl (Nat.le_of_ble_eq_true rfl) rfl ?_
  refine j_if_eqB_t (tgt := 17) d_Main_spill_12 (by decide) (s4_n hc) ?_
  refine j_aload_n d_Main_spill_17 rfl ?_
  refine j_getr (b := 2) d_Main_spill_18 jf_Main_17 rfl rfl rfl (by decide) ?_
  refine j_iload_n d_Main_spill_21 rfl ?_
  refine j_aaldN (b := 127 + 2 * c) d_Main_spill_22 rfl (by decide) (by omega) (by decide) (jrf_sheet _ (by omega)) (by omega) ?_
  refine j_astore (L' := [some (.ref 0), some (.int (nI s)), some (.int (nI c)), some (.int f), some (.ref (127 + 2 * c)), none, none]) d_Main_spill_23 (by decide) rfl rfl ?_
  refine j_aload d_Main_spill_25 rfl ?_
  refine j_callVs (As := []) (st := []) (x_isMissingV (isU_sheet c (by omega)) hsh1) d_Main_spill_27 (by decide) jm_Sheet_isMissing jk_Main_141 ji_Sheet_isMissing js_Sheet_isMissing (isU_sheet c (by omega)).1 (by decide) rfl rfl (Nat.le_of_ble_eq_true rfl) rfl ?_
  refine j_if_eqB_f (tgt := 36) d_Main_spill_30 (by decide) (decide_eq_true hso) ?_
  refine j_bipush (v := -11) d_Main_spill_33 (by decide) ?_
  subst hres
  exact j_reti d_Main_spill_35 rfl rfl
theorem x_spill_out {n : jN} {h : jH} {P : jP} (hw : ∀ q, tw (P q)) (hP : slo h P) {So : Nat → Int32} {Sz : Nat → Nat} {Nu : Nat → Nat → Int32} (hsh : shl h So Sz Nu) {s c : Nat} (hs : s < 6) (h0 : 0 < (P s).1) (hc : c < 4) {f : Int32} (hso : ¬ So c = -1) (hb : jhas (Sz c) f (nI 0) = false) : jC n 3 jy_Main_spill jc_Main_spill 7 (some .int) [.ref 0, .int (nI s), .int (nI c), .int f] h (some (.int (-12))) h := by
  refine jC_of jm_Main_spill (L := [some (.ref 0), some (.int (nI s)), some (.int (nI c)), some (.int f), none, none, none]) (Nat.le_of_ble_eq_true rfl) rfl trivial ?_
  generalize hres : (((some (.int (-12))), h) : Option Value × jH) = res
  obtain ⟨hsh1, hsh2, hsh3, hsh4, hsh5⟩ := hsh c (by omega)
  refine j_aload_n d_Main_spill_0 rfl ?_
  refine j_iload_n d_Main_spill_1 rfl ?_
  refine j_callVs (As := [.int (nI s)]) (st := []) (x_noTable hw hP) d_Main_spill_2 (by decide) jm_Main_noTable jk_Main_103 ji_Main_noTable js_Main_noTable rfl (by decide) rfl rfl (Nat.le_of_ble_eq_true rfl) rfl ?_
  refine j_if_neB_f (tgt := 15) d_Main_spill_5 (by decide) (ho_n hs h0) ?_
  refine j_iload_n d_Main_spill_8 rfl ?_
  refine j_callSs (As := [.int (nI c)]) (st := []) x_noSheet d_Main_spill_9 (by decide) jm_Main_noSheet jk_Main_138 js_Main_noSheet rfl (Nat.le_of_ble_eq_true rfl) rfl ?_
  refine j_if_eqB_t (tgt := 17) d_Main_spill_12 (by decide) (s4_n hc) ?_
  refine j_aload_n d_Main_spill_17 rfl ?_
  refine j_getr (b := 2) d_Main_spill_18 jf_Main_17 rfl rfl rfl (by decide) ?_
  refine j_iload_n d_Main_spill_21 rfl ?_
  refine j_aaldN (b := 127 + 2 * c) d_Main_spill_22 rfl (by decide) (by omega) (by decide) (jrf_sheet _ (by omega)) (by omega) ?_
  refine j_astore (L' := [some (.ref 0), some (.int (nI s)), some (.int (nI c)), some (.int f), some (.ref (127 + 2 * c)), none, none]) d_Main_spill_23 (by decide) rfl rfl ?_
  refine j_aload d_Main_spill_25 rfl ?_
  refine j_callVs (As := []) (st := []) (x_isMissingV (isU_sheet c (by omega)) hsh1) d_Main_spill_27 (by decide) jm_Sheet_isMissing jk_Main_141 ji_Sheet_isMissing js_Sheet_isMissing (isU_sheet c (by omega)).1 (by decide) rfl rfl (Nat.le_of_ble_eq_true rfl) rfl ?_
  refine j_if_eqB_t (tgt := 36) d_Main_spill_30 (by decide) (decide_eq_false hso) ?_
  refine j_aload d_Main_spill_36 rfl ?_
  refine j_iload_n d_Main_spill_38 rfl ?_
  refine j_iconst (v := nI 0) d_Main_spill_39 rfl ?_
  refine j_callVs (As := [.int f, .int (nI 0)]) (st := []) (x_lacks4 (isU_sheet c (by omega)) hsh2) d_Main_spill_40 (by decide) jm_Sheet_lacks jk_Main_145 ji_Sheet_lacks js_Sheet_lacks (isU_sheet c (by omega)).1 (by decide) rfl rfl (Nat.le_of_ble_eq_true rfl) rfl ?_
  refine j_if_eqB_f (tgt := 49) d_Main_spill_43 (by decide) (by rw [hb]; rfl) ?_
  refine j_bipush (v := -12) d_Main_spill_46 (by decide) ?_
  subst hres
  exact j_reti d_Main_spill_48 rfl rfl
def spH (h : jH) (T : jT) (so : Int32) (c f : Nat) : Nat → jH
  | 0 => h
  | k + 1 => jup2 (spH h T so c f k) (127 + 2 * c + 1) (f + k) (jlow so (nI (T.2 k)))
theorem spH_f {h : jH} {T : jT} {so : Int32} {c f a : Nat} (h1 : a ≠ 127 + 2 * c + 1) : ∀ k, spH h T so c f k a = h a
  | 0 => rfl
  | k + 1 => by rw [spH, jup2_f h1, spH_f h1 k]
theorem spH_v {h : jH} {T : jT} {so : Int32} {c f z : Nat} : ∀ k, spH h T so c f k (127 + 2 * c + 1) z = if f ≤ z ∧ z < f + k then jlow so (nI (T.2 (z - f))) else h (127 + 2 * c + 1) z
  | 0 => by rw [if_neg (by omega)]; rfl
  | k + 1 => by
    have ih := spH_v (h := h) (T := T) (so := so) (c := c) (f := f) (z := z) k
    simp only [spH, jup2]
    by_cases e : z = f + k
    · rw [if_pos trivial, if_pos e, if_pos (by omega), show z - f = k by omega]
    · rw [if_pos trivial, if_neg e, ih]
      by_cases e2 : f ≤ z ∧ z < f + k
      · rw [if_pos e2, if_pos (by omega)]
      · rw [if_neg e2, if_neg (by omega)]
theorem x_spill {n : jN} {h : jH} {P : jP} (hw : ∀ q, tw (P q)) (hP : slo h P) {So : Nat → Int32} {Sz : Nat → Nat} {Nu : Nat → Nat → Int32} (hsh : shl h So Sz Nu) {s c : Nat} (hs : s < 6) (h0 : 0 < (P s).1) (hc : c < 4) {f : Nat} (hso : ¬ So c = -1) (hf : f ≤ Sz c) : jC n 3 jy_Main_spill jc_Main_spill 7 (some .int) [.ref 0, .int (nI s), .int (nI c), .int (nI f)] h (some (.int (nI (min (P s).1 (Sz c - f))))) (spH h (P s) (So c) c f (min (P s).1 (Sz c - f))) := by
  refine jC_of jm_Main_spill (L := [some (.ref 0), some (.int (nI s)), some (.int (nI c)), some (.int (nI f)), none, none, none]) (Nat.le_of_ble_eq_true rfl) rfl trivial ?_
  generalize hres : (((some (.int (nI (min (P s).1 (Sz c - f))))), spH h (P s) (So c) c f (min (P s).1 (Sz c - f))) : Option Value × jH) = res
  have hn12 := (hw s).1
  obtain ⟨hsh1, hsh2, hsh3, hsh4, hsh5⟩ := hsh c (by omega)
  refine j_aload_n d_Main_spill_0 rfl ?_
  refine j_iload_n d_Main_spill_1 rfl ?_
  refine j_callVs (As := [.int (nI s)]) (st := []) (x_noTable hw hP) d_Main_spill_2 (by decide) jm_Main_noTable jk_Main_103 ji_Main_noTable js_Main_noTable rfl (by decide) rfl rfl (Nat.le_of_ble_eq_true rfl) rfl ?_
  refine j_if_neB_f (tgt := 15) d_Main_spill_5 (by decide) (ho_n hs h0) ?_
  refine j_iload_n d_Main_spill_8 rfl ?_
  refine j_callSs (As := [.int (nI c)]) (st := []) x_noSheet d_Main_spill_9 (by decide) jm_Main_noSheet jk_Main_138 js_Main_noSheet rfl (Nat.le_of_ble_eq_true rfl) rfl ?_
  refine j_if_eqB_t (tgt := 17) d_Main_spill_12 (by decide) (s4_n hc) ?_
  refine j_aload_n d_Main_spill_17 rfl ?_
  refine j_getr (b := 2) d_Main_spill_18 jf_Main_17 rfl rfl rfl (by decide) ?_
  refine j_iload_n d_Main_spill_21 rfl ?_
  refine j_aaldN (b := 127 + 2 * c) d_Main_spill_22 rfl (by decide) (by omega) (by decide) (jrf_sheet _ (by omega)) (by omega) ?_
  refine j_astore (L' := [some (.ref 0), some (.int (nI s)), some (.int (nI c)), some (.int (nI f)), some (.ref (127 + 2 * c)), none, none]) d_Main_spill_23 (by decide) rfl rfl ?_
  refine j_aload d_Main_spill_25 rfl ?_
  refine j_callVs (As := []) (st := []) (x_isMissingV (isU_sheet c (by omega)) hsh1) d_Main_spill_27 (by decide) jm_Sheet_isMissing jk_Main_141 ji_Sheet_isMissing js_Sheet_isMissing (isU_sheet c (by omega)).1 (by decide) rfl rfl (Nat.le_of_ble_eq_true rfl) rfl ?_
  refine j_if_eqB_t (tgt := 36) d_Main_spill_30 (by decide) (decide_eq_false hso) ?_
  refine j_aload d_Main_spill_36 rfl ?_
  refine j_iload_n d_Main_spill_38 rfl ?_
  refine j_iconst (v := nI 0) d_Main_spill_39 rfl ?_
  refine j_callVs (As := [.int (nI f), .int (nI 0)]) (st := []) (x_lacks4 (isU_sheet c (by omega)) hsh2) d_Main_spill_40 (by decide) jm_Sheet_lacks jk_Main_145 ji_Sheet_lacks js_Sheet_lacks (isU_sheet c (by omega)).1 (by decide) rfl rfl (Nat.le_of_ble_eq_true rfl) rfl ?_
  refine j_if_eqB_t (tgt := 49) d_Main_spill_43 (by decide) (jhas_y (f := f) (m := 0) hsh4 (by omega)) ?_
  refine j_aload_n d_Main_spill_49 rfl ?_
  refine j_getr (b := 1) d_Main_spill_50 jf_Main_11 rfl rfl rfl (by decide) ?_
  refine j_iload_n d_Main_spill_53 rfl ?_
  refine j_aaldN (b := 115 + 2 * s) d_Main_spill_54 rfl (by decide) (by omega) (by decide) (jrf_slot _ (by omega)) (by omega) ?_
  refine j_getv (v := nI ((P s).1)) d_Main_spill_55 jf_Main_106 (isT_slot s (by omega)).1 rfl (hP s (by omega)).1 ?_
  refine j_aload d_Main_spill_58 rfl ?_
  refine j_getv (v := nI (Sz c)) d_Main_spill_60 jf_Main_151 (isU_sheet c (by omega)).1 rfl hsh2 ?_
  refine j_iload_n d_Main_spill_63 rfl ?_
  refine j_isubN d_Main_spill_64 (by omega) ?_
  refine j_callSs (As := [.int (nI ((P s).1)), .int (nI ((Sz c) - f))]) (st := []) (x_min (by omega) (by omega)) d_Main_spill_65 (by decide) jm_J_min jk_Main_154 js_J_min rfl (Nat.le_of_ble_eq_true rfl) rfl ?_
  refine j_istore (L' := [some (.ref 0), some (.int (nI s)), some (.int (nI c)), some (.int (nI f)), some (.ref (127 + 2 * c)), some (.int (nI (min ((P s).1) ((Sz c) - f)))), none]) d_Main_spill_68 (by decide) rfl rfl ?_
  refine j_iconst (v := nI 0) d_Main_spill_70 rfl ?_
  refine j_istore (L' := [some (.ref 0), some (.int (nI s)), some (.int (nI c)), some (.int (nI f)), some (.ref (127 + 2 * c)), some (.int (nI (min ((P s).1) ((Sz c) - f)))), some (.int (nI 0))]) d_Main_spill_71 (by decide) rfl rfl ?_
  have hq1 : min (P s).1 (Sz c - f) ≤ (P s).1 := Nat.min_le_left _ _
  have hq2 : min (P s).1 (Sz c - f) ≤ Sz c - f := Nat.min_le_right _ _
  refine j_loop (P := fun k => jJ n 3 jc_Main_spill 7 "YesNoPowers" 73 [some (.ref 0), some (.int (nI s)), some (.int (nI c)), some (.int (nI f)), some (.ref (127 + 2 * c)), some (.int (nI (min (P s).1 (Sz c - f)))), some (.int (nI k))] [] (spH h (P s) (So c) c f k) res) (m := min (P s).1 (Sz c - f)) ?_ (fun k hk ih => ?_)
  · refine j_iload d_Main_spill_73 rfl ?_
    refine j_iload d_Main_spill_75 rfl ?_
    refine j_icmp_geN_t (tgt := 107) d_Main_spill_77 (by decide) (by omega) (by omega) (Nat.le_refl _) ?_
    refine j_iload d_Main_spill_107 rfl ?_
    subst hres
    exact j_reti d_Main_spill_109 rfl rfl
  · have hrs : rep (spH h (P s) (So c) c f k) (115 + 2 * s) (P s) := rep_of (spH_f (by omega) k) (spH_f (by omega) k) (hP s hs)
    refine j_iload d_Main_spill_73 rfl ?_
    refine j_iload d_Main_spill_75 rfl ?_
    refine j_icmp_geN_f (tgt := 107) d_Main_spill_77 (by decide) (by omega) (by omega) (Nat.not_le.mpr hk) ?_
    refine j_aload d_Main_spill_80 rfl ?_
    refine j_iload_n d_Main_spill_82 rfl ?_
    refine j_iload d_Main_spill_83 rfl ?_
    refine j_iaddN d_Main_spill_85 ?_
    refine j_aload_n d_Main_spill_86 rfl ?_
    refine j_getr (b := 1) d_Main_spill_87 jf_Main_11 rfl rfl rfl (by decide) ?_
    refine j_iload_n d_Main_spill_90 rfl ?_
    refine j_aaldN (b := 115 + 2 * s) d_Main_spill_91 rfl (by decide) (by omega) (by decide) (jrf_slot _ (by omega)) (by omega) ?_
    refine j_getr (b := 115 + 2 * s + 1) d_Main_spill_92 jf_Main_93 (isT_slot s (by omega)).1 rfl (isT_slot s (by omega)).2.1 (isT_slot s (by omega)).2.2.2 ?_
    refine j_iload d_Main_spill_95 rfl ?_
    refine j_ialdN (v := nI ((P s).2 k)) d_Main_spill_97 (isT_slot s (by omega)).2.2.1 (by omega) (by decide) (hrs.2 _ (by omega)) ?_
    refine j_callVn (As := [.int (nI (f + k)), .int (nI ((P s).2 k))]) (st := []) (x_writeV (isU_sheet c (by omega)) (by omega) ((congrFun (spH_f (by omega) k) 0).trans hsh1)) d_Main_spill_98 (by decide) jm_Sheet_write jk_Main_159 ji_Sheet_write js_Sheet_write (isU_sheet c (by omega)).1 (by decide) rfl rfl (Nat.le_of_ble_eq_true rfl) rfl ?_
    refine j_iincN (x := k) (L' := [some (.ref 0), some (.int (nI s)), some (.int (nI c)), some (.int (nI f)), some (.ref (127 + 2 * c)), some (.int (nI (min (P s).1 (Sz c - f)))), some (.int (nI (k + 1)))]) d_Main_spill_101 rfl (by decide) rfl rfl ?_
    refine j_goto (tgt := 73) d_Main_spill_104 (by decide) ?_
    exact ih

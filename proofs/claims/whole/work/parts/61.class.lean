/-- of one class -/
def Eq2 (T : jT) (i j : Nat) : Prop := Rch T i j ∧ Rch T j i
theorem eq2_s {T : jT} {i j : Nat} (h : Eq2 T i j) : Eq2 T j i := ⟨h.2, h.1⟩
theorem eq2_t {T : jT} {i j k : Nat} (h : Eq2 T i j) (h2 : Eq2 T j k) : Eq2 T i k := ⟨rch_trans h.1 h2.1, rch_trans h2.2 h.2⟩
theorem eq2_r {T : jT} (i : Nat) : Eq2 T i i := ⟨rch_refl i, rch_refl i⟩
theorem rch_ne {T : jT} (hT : tv T) {i j : Nat} (hne : i ≠ j) : tb (tclo T) i j = true ↔ Rch T i j := by
  rw [tclo_W hT]
  constructor
  · rintro ⟨q, h⟩; exact ⟨q + 1, h⟩
  · rintro ⟨q, h⟩
    match q, h with
    | 0, h => exact absurd h hne
    | q + 1, h => exact ⟨q, h⟩
theorem rch_clo {T : jT} (hT : tv T) {i j : Nat} (h : tb (tclo T) i j = true) : Rch T i j := by
  obtain ⟨q, h⟩ := (tclo_W hT).mp h
  exact ⟨q + 1, h⟩
theorem sto_E {T : jT} (hT : tv T) {i z : Nat} (hi : i < T.1) : (sto T i).testBit z = true ↔ z < T.1 ∧ Eq2 T i z := by
  unfold sto
  rw [Nat.testBit_or, Bool.or_eq_true, p2_tb, Nat.testBit_and, Bool.and_eq_true, tcol, jor_tb]
  constructor
  · rintro (h | ⟨h1, k, hk, h2⟩)
    · subst h; exact ⟨hi, eq2_r i⟩
    · rw [ite_tb, p2_tb] at h2
      obtain ⟨h2, rfl⟩ := h2
      exact ⟨hk, rch_clo hT h1, rch_clo hT h2⟩
  · rintro ⟨hz, h1, h2⟩
    by_cases e : i = z
    · exact Or.inl e
    · exact Or.inr ⟨(rch_ne hT e).mpr h1, z, hz, ite_tb.mpr ⟨(rch_ne hT (Ne.symm e)).mpr h2, p2_tb.mpr rfl⟩⟩
theorem mtl_E {T : jT} (hT : tv T) {i k : Nat} (hi : i < T.1) (hk : k < T.1) : mtl (rc T T.1) i k = true ↔ Eq2 T i k := by
  rw [mtl, Bool.and_eq_true, rc_rch hT hi, rc_rch hT hk]
  exact Iff.rfl
theorem lst_some {q : Nat → Bool} {j : Nat} : ∀ {k : Nat}, lst q k = some j → j < k ∧ q j = true
  | 0, h => by simp [lst] at h
  | k + 1, h => by
    unfold lst at h
    split at h
    · cases h; exact ⟨by omega, by assumption⟩
    · have := lst_some h; exact ⟨by omega, this.2⟩
theorem lst_none {q : Nat → Bool} : ∀ {k : Nat}, lst q k = none → ∀ j, j < k → q j = false
  | 0, h => fun j hj => by omega
  | k + 1, h => fun j hj => by
    unfold lst at h
    split at h
    · cases h
    · rename_i hk
      by_cases e : j = k
      · rw [e]; simpa using hk
      · exact lst_none h j (by omega)
/-- the class's scan and the reference's go together -/
theorem cls_inv {T : jT} (hT : tv T) : ∀ ii, ii ≤ T.1 →
    (fcS T ii).2.1 = (clF (rc T T.1) ii).2 ∧
    (∀ z, z < T.1 → ∀ y, y < ii → Eq2 T y z → (fcS T ii).1.testBit z = true ∧ (fcS T ii).2.2.2.2 z = (clF (rc T T.1) ii).1 y) ∧
    (∀ z, (fcS T ii).1.testBit z = true → z < T.1 ∧ ∃ y, y < ii ∧ Eq2 T y z) ∧
    (∀ k, k < (fcS T ii).2.1 → (fcS T ii).2.2.1 k < ii ∧ (clF (rc T T.1) ii).1 ((fcS T ii).2.2.1 k) = k ∧ (∀ z, z < (fcS T ii).2.2.1 k → (clF (rc T T.1) ii).1 z ≠ k) ∧ (fcS T ii).2.2.2.1 k = sto T ((fcS T ii).2.2.1 k)) ∧
    (∀ y z, y < ii → z < ii → (clF (rc T T.1) ii).1 y = (clF (rc T T.1) ii).1 z → Eq2 T y z)
  | 0, _ => ⟨rfl, fun z _ y hy => by omega, fun z hz => by simp [fcS] at hz, fun k hk => absurd hk (Nat.not_lt_zero k), fun y z hy => by omega⟩
  | i + 1, hle => by
    obtain ⟨h1, h2, h3, h4, h5⟩ := cls_inv hT i (by omega)
    have hi : i < T.1 := by omega
    have hlt := clF_lt (rc T T.1) i
    cases hb : (fcS T i).1.testBit i with
    | true =>
      obtain ⟨-, y0, hy0, e0⟩ := h3 i hb
      cases hl : lst (mtl (rc T T.1) i) i with
      | none =>
        have := lst_none hl y0 hy0
        rw [(mtl_E hT hi (by omega)).mpr (eq2_s e0)] at this
        cases this
      | some k =>
        obtain ⟨hk, hq⟩ := lst_some hl
        have ek : Eq2 T i k := (mtl_E hT hi (by omega)).mp hq
        have hc : clF (rc T T.1) (i + 1) = (jfu (clF (rc T T.1) i).1 i ((clF (rc T T.1) i).1 k), (clF (rc T T.1) i).2) := by
          rw [clF, hl]
        rw [fcS_p hb, hc]
        have hold : ∀ y, y < i → jfu (clF (rc T T.1) i).1 i ((clF (rc T T.1) i).1 k) y = (clF (rc T T.1) i).1 y := fun y hy => by simp only [jfu]; rw [if_neg (by omega)]
        have hnew : jfu (clF (rc T T.1) i).1 i ((clF (rc T T.1) i).1 k) i = (clF (rc T T.1) i).1 k := by simp [jfu]
        refine ⟨h1, fun z hz y hy e => ?_, fun z hz => ?_, fun k0 hk0 => ?_, fun y z hy hz e => ?_⟩
        · show _ ∧ (fcS T i).2.2.2.2 z = jfu (clF (rc T T.1) i).1 i ((clF (rc T T.1) i).1 k) y
          by_cases ey : y = i
          · subst ey
            rw [hnew]
            exact h2 z hz k hk (eq2_t (eq2_s ek) e)
          · rw [hold y (by omega)]
            exact h2 z hz y (by omega) e
        · obtain ⟨g1, y, g2, g3⟩ := h3 z hz
          exact ⟨g1, y, by omega, g3⟩
        · obtain ⟨g1, g2, g3, g4⟩ := h4 k0 hk0
          refine ⟨by omega, ?_, fun z hz => ?_, g4⟩
          · show jfu (clF (rc T T.1) i).1 i ((clF (rc T T.1) i).1 k) _ = _
            rw [hold _ g1]; exact g2
          · show jfu (clF (rc T T.1) i).1 i ((clF (rc T T.1) i).1 k) z ≠ _
            rw [hold z (by omega)]; exact g3 z hz
        · have e : jfu (clF (rc T T.1) i).1 i ((clF (rc T T.1) i).1 k) y = jfu (clF (rc T T.1) i).1 i ((clF (rc T T.1) i).1 k) z := e
          by_cases ey : y = i
          · by_cases ez : z = i
            · rw [ey, ez]; exact eq2_r i
            · rw [ey, hnew, hold z (by omega)] at e
              rw [ey]
              exact eq2_t ek (h5 k z hk (by omega) e)
          · by_cases ez : z = i
            · rw [ez, hnew, hold y (by omega)] at e
              rw [ez]
              exact eq2_t (h5 y k (by omega) hk e) (eq2_s ek)
            · rw [hold y (by omega), hold z (by omega)] at e
              exact h5 y z (by omega) (by omega) e
    | false =>
      have hno : ∀ y, y < i → ¬ Eq2 T y i := fun y hy e => by
        have := (h2 i hi y hy e).1
        rw [hb] at this
        cases this
      have hl : lst (mtl (rc T T.1) i) i = none := by
        cases hl : lst (mtl (rc T T.1) i) i with
        | none => rfl
        | some k =>
          obtain ⟨hk, hq⟩ := lst_some hl
          exact absurd (eq2_s ((mtl_E hT hi (by omega)).mp hq)) (hno k hk)
      have hc : clF (rc T T.1) (i + 1) = (jfu (clF (rc T T.1) i).1 i (clF (rc T T.1) i).2, (clF (rc T T.1) i).2 + 1) := by
        rw [clF, hl]
      rw [fcS_n hb, hc]
      have hold : ∀ y, y < i → jfu (clF (rc T T.1) i).1 i (clF (rc T T.1) i).2 y = (clF (rc T T.1) i).1 y := fun y hy => by simp only [jfu]; rw [if_neg (by omega)]
      have hnew : jfu (clF (rc T T.1) i).1 i (clF (rc T T.1) i).2 i = (clF (rc T T.1) i).2 := by simp [jfu]
      refine ⟨by show (fcS T i).2.1 + 1 = (clF (rc T T.1) i).2 + 1; rw [h1], fun z hz y hy e => ?_, fun z hz => ?_, fun k0 hk0 => ?_, fun y z hy hz e => ?_⟩
      · show ((fcS T i).1 ||| sto T i).testBit z = true ∧ (if (sto T i).testBit z = true then (fcS T i).2.1 else (fcS T i).2.2.2.2 z) = jfu (clF (rc T T.1) i).1 i (clF (rc T T.1) i).2 y
        rw [Nat.testBit_or, Bool.or_eq_true]
        by_cases ey : y = i
        · subst ey
          have hs := (sto_E hT hi).mpr ⟨hz, e⟩
          rw [hnew, if_pos hs, h1]
          exact ⟨Or.inr hs, rfl⟩
        · have hs : ¬ (sto T i).testBit z = true := fun q => hno y (by omega) (eq2_t e (eq2_s ((sto_E hT hi).mp q).2))
          rw [hold y (by omega), if_neg hs]
          obtain ⟨g1, g2⟩ := h2 z hz y (by omega) e
          exact ⟨Or.inl g1, g2⟩
      · have hz : ((fcS T i).1 ||| sto T i).testBit z = true := hz
        rw [Nat.testBit_or, Bool.or_eq_true] at hz
        rcases hz with hz | hz
        · obtain ⟨g1, y, g2, g3⟩ := h3 z hz
          exact ⟨g1, y, by omega, g3⟩
        · obtain ⟨g1, g2⟩ := (sto_E hT hi).mp hz
          exact ⟨g1, i, by omega, g2⟩
      · show jfu (fcS T i).2.2.1 (fcS T i).2.1 i k0 < i + 1 ∧ jfu (clF (rc T T.1) i).1 i (clF (rc T T.1) i).2 (jfu (fcS T i).2.2.1 (fcS T i).2.1 i k0) = k0 ∧ (∀ z, z < jfu (fcS T i).2.2.1 (fcS T i).2.1 i k0 → jfu (clF (rc T T.1) i).1 i (clF (rc T T.1) i).2 z ≠ k0) ∧ jfu (fcS T i).2.2.2.1 (fcS T i).2.1 (sto T i) k0 = sto T (jfu (fcS T i).2.2.1 (fcS T i).2.1 i k0)
        have hk0 : k0 < (fcS T i).2.1 + 1 := hk0
        by_cases ek : k0 = (fcS T i).2.1
        · have e1 : jfu (fcS T i).2.2.1 (fcS T i).2.1 i k0 = i := by simp [jfu, ek]
          have e2 : jfu (fcS T i).2.2.2.1 (fcS T i).2.1 (sto T i) k0 = sto T i := by simp [jfu, ek]
          rw [e1, e2, hnew, ek, h1]
          exact ⟨by omega, rfl, fun z hz => by rw [hold z hz]; have := hlt z hz; omega, rfl⟩
        · have e1 : jfu (fcS T i).2.2.1 (fcS T i).2.1 i k0 = (fcS T i).2.2.1 k0 := by simp [jfu, ek]
          have e2 : jfu (fcS T i).2.2.2.1 (fcS T i).2.1 (sto T i) k0 = (fcS T i).2.2.2.1 k0 := by simp [jfu, ek]
          obtain ⟨g1, g2, g3, g4⟩ := h4 k0 (by omega)
          rw [e1, e2, hold _ g1]
          exact ⟨by omega, g2, fun z hz => by rw [hold z (by omega)]; exact g3 z hz, g4⟩
      · have e : jfu (clF (rc T T.1) i).1 i (clF (rc T T.1) i).2 y = jfu (clF (rc T T.1) i).1 i (clF (rc T T.1) i).2 z := e
        by_cases ey : y = i
        · by_cases ez : z = i
          · rw [ey, ez]; exact eq2_r i
          · rw [ey, hnew, hold z (by omega)] at e
            have := hlt z (by omega)
            omega
        · by_cases ez : z = i
          · rw [ez, hnew, hold y (by omega)] at e
            have := hlt y (by omega)
            omega
          · rw [hold y (by omega), hold z (by omega)] at e
            exact h5 y z (by omega) (by omega) e
theorem rNb_M {T : jT} (hT : tv T) : rNb T = Mn T := (cls_inv hT T.1 (Nat.le_refl _)).1
theorem rHm_C {T : jT} (hT : tv T) {z : Nat} (hz : z < T.1) : rHm T z = Cl T z := ((cls_inv hT T.1 (Nat.le_refl _)).2.1 z hz z hz (eq2_r z)).2
theorem Cl_E {T : jT} (hT : tv T) {y z : Nat} (hy : y < T.1) (hz : z < T.1) : Cl T y = Cl T z ↔ Eq2 T y z := by
  obtain ⟨h1, h2, h3, h4, h5⟩ := cls_inv hT T.1 (Nat.le_refl _)
  constructor
  · exact h5 y z hy hz
  · intro e
    have e1 := (h2 z hz y hy e).2
    have e2 := (h2 z hz z hz (eq2_r z)).2
    exact e1.symm.trans e2
theorem rLs_C {T : jT} (hT : tv T) {k : Nat} (hk : k < rNb T) : rLs T k < T.1 ∧ Cl T (rLs T k) = k ∧ (∀ z, z < rLs T k → ¬ Cl T z = k) ∧ rMb T k = sto T (rLs T k) := (cls_inv hT T.1 (Nat.le_refl _)).2.2.2.1 k hk
theorem Cl_lt {T : jT} {z : Nat} (hz : z < T.1) : Cl T z < Mn T := clF_lt (rc T T.1) T.1 z hz
/-- members: those of the least one's class -/
theorem cls_E {T : jT} (hT : tv T) {k i : Nat} (hk : k < rNb T) (hi : i < T.1) : rHm T i = k ↔ Eq2 T (rLs T k) i := by
  obtain ⟨g1, g2, g3, g4⟩ := rLs_C hT hk
  rw [rHm_C hT hi, ← Cl_E hT g1 hi, g2]
  exact eq_comm
theorem rMb_memb {T : jT} (hT : tv T) {k : Nat} (hk : k < rNb T) : rMb T k = memb (Cl T) k T.1 := by
  obtain ⟨g1, g2, g3, g4⟩ := rLs_C hT hk
  refine Nat.eq_of_testBit_eq (fun j => beq_of_iff ?_)
  rw [g4, sto_E hT g1, memb, jor_tb]
  constructor
  · rintro ⟨hj, e⟩
    exact ⟨j, hj, ite_tb.mpr ⟨by rw [← g2]; exact ((Cl_E hT g1 hj).mpr e).symm, p2_tb.mpr rfl⟩⟩
  · rintro ⟨i, hi, h⟩
    rw [ite_tb, p2_tb] at h
    obtain ⟨h1, rfl⟩ := h
    exact ⟨hi, (Cl_E hT g1 hi).mp (by rw [g2, h1])⟩
theorem nnd_tb {a b j : Nat} (ha : a < 4096) : (nnd a b).testBit j = true ↔ a.testBit j = true ∧ ¬ b.testBit j = true := by
  unfold nnd
  rw [Nat.testBit_and, Bool.and_eq_true, Nat.testBit_xor, Nat.testBit_two_pow_sub_one]
  constructor
  · rintro ⟨h1, h2⟩
    refine ⟨h1, fun h3 => ?_⟩
    have hj : j < 12 := by
      rcases Nat.lt_or_ge j 12 with q | q
      · exact q
      · rw [Nat.testBit_lt_two_pow (Nat.lt_of_lt_of_le ha (show 4096 ≤ 2 ^ j from Nat.le_trans (by decide) (Nat.pow_le_pow_right (n := 2) (by omega) q)))] at h1
        cases h1
    rw [decide_eq_true (show j < 31 by omega), h3] at h2
    cases h2
  · rintro ⟨h1, h2⟩
    refine ⟨h1, ?_⟩
    have hj : j < 12 := by
      rcases Nat.lt_or_ge j 12 with q | q
      · exact q
      · rw [Nat.testBit_lt_two_pow (Nat.lt_of_lt_of_le ha (show 4096 ≤ 2 ^ j from Nat.le_trans (by decide) (Nat.pow_le_pow_right (n := 2) (by omega) q)))] at h1
        cases h1
    rw [decide_eq_true (show j < 31 by omega), show b.testBit j = false by simpa using h2]
    rfl
/-- the fronts: those of the class at a distance -/
theorem fd_inv {T : jT} (hT : tv T) {l mem : Nat} (hl : l < T.1) (hm : ∀ z, mem.testBit z = true ↔ z < T.1 ∧ Eq2 T l z) : ∀ s,
    (∀ i, (fdS T mem l s).1.testBit i = true ↔ Eq2 T l i ∧ ∃ t, t < s ∧ Wr (tR T) t l i) ∧ (∀ i, (fdS T mem l s).2.testBit i = true ↔ Eq2 T l i ∧ Wr (tR T) s l i ∧ ∀ t, t < s → ¬ Wr (tR T) t l i)
  | 0 => by
    refine ⟨fun i => ?_, fun i => ?_⟩
    · constructor
      · intro h
        have h : (0 : Nat).testBit i = true := h
        simp at h
      · rintro ⟨-, t, ht, -⟩; omega
    · show (2 ^ l).testBit i = true ↔ _
      rw [p2_tb]
      constructor
      · intro e; subst e; exact ⟨eq2_r l, rfl, fun t ht => by omega⟩
      · rintro ⟨-, e, -⟩; exact e
  | s + 1 => by
    obtain ⟨h1, h2⟩ := fd_inv hT hl hm s
    have hseen : ∀ i, ((fdS T mem l s).1 ||| (fdS T mem l s).2).testBit i = true ↔ Eq2 T l i ∧ ∃ t, t < s + 1 ∧ Wr (tR T) t l i := fun i => by
      rw [Nat.testBit_or, Bool.or_eq_true, h1, h2]
      constructor
      · rintro (⟨e, t, ht, w⟩ | ⟨e, w, -⟩)
        · exact ⟨e, t, by omega, w⟩
        · exact ⟨e, s, by omega, w⟩
      · rintro ⟨e, t, ht, w⟩
        by_cases hx : ∃ t, t < s ∧ Wr (tR T) t l i
        · exact Or.inl ⟨e, hx⟩
        · have : t = s := by
            rcases Nat.lt_or_ge t s with q | q
            · exact absurd ⟨t, q, w⟩ hx
            · omega
          subst this
          exact Or.inr ⟨e, w, fun t' ht' w' => hx ⟨t', ht', w'⟩⟩
    refine ⟨hseen, fun i => ?_⟩
    show (nnd (nxs T (fdS T mem l s).2 T.1 &&& mem) ((fdS T mem l s).1 ||| (fdS T mem l s).2)).testBit i = true ↔ _
    rw [nnd_tb (Nat.lt_of_le_of_lt Nat.and_le_left (nxs_lt (tv_w hT) _ _)), hseen, Nat.testBit_and, Bool.and_eq_true, hm, nxs, jor_tb]
    constructor
    · rintro ⟨⟨⟨u, hu, h3⟩, hi, e⟩, h4⟩
      rw [ite_tb, h2] at h3
      obtain ⟨⟨e2, w, -⟩, h5⟩ := h3
      exact ⟨e, Wr_snoc w h5, fun t ht w' => h4 ⟨e, t, by omega, w'⟩⟩
    · rintro ⟨e, w, h4⟩
      obtain ⟨u, w1, h5⟩ := Wr_last w
      have hui := tb_lt hT h5
      refine ⟨⟨⟨u, hui.1, ite_tb.mpr ⟨(h2 u).mpr ⟨⟨⟨s, w1⟩, rch_trans ⟨1, Wr_one h5⟩ e.2⟩, w1, fun t ht w' => h4 (t + 1) (by omega) (Wr_snoc w' h5)⟩, h5⟩⟩, hui.2, e⟩, ?_⟩
      rintro ⟨-, t, ht, w'⟩
      exact h4 t (by omega) w'
theorem rMb_b {T : jT} (hT : tv T) {k : Nat} (hk : k < rNb T) : ∀ z, (rMb T k).testBit z = true ↔ z < T.1 ∧ Eq2 T (rLs T k) z := fun z => by
  obtain ⟨g1, g2, g3, g4⟩ := rLs_C hT hk
  rw [g4, sto_E hT g1]
/-- the distance from the least member -/
theorem dist_ex {T : jT} (hT : tv T) {l i : Nat} (hl : l < T.1) (h : Rch T l i) : ∃ d, d < T.1 ∧ Wr (tR T) d l i ∧ ∀ t, t < d → ¬ Wr (tR T) t l i := by
  obtain ⟨m, hm, w⟩ := rch_short hT hl h
  obtain ⟨d, h1, h2, h3⟩ := least_of (p := fun d => Wr (tR T) d l i) m m (Nat.le_refl _) w
  exact ⟨d, by omega, h2, h3⟩
theorem ok_R {T : jT} (hT : tv T) : okR T := by
  refine ⟨fun k hk i hi e => ?_, fun k hk s i hi h => ?_⟩
  · obtain ⟨g1, g2, g3, g4⟩ := rLs_C hT hk
    have e2 := (cls_E hT hk hi).mp e
    obtain ⟨d, h1, h2, h3⟩ := dist_ex hT g1 e2.1
    exact ⟨d, h1, ((fd_inv hT g1 (rMb_b hT hk) d).2 i).mpr ⟨e2, h2, h3⟩⟩
  · obtain ⟨g1, g2, g3, g4⟩ := rLs_C hT hk
    exact (cls_E hT hk hi).mpr (((fd_inv hT g1 (rMb_b hT hk) s).2 i).mp h).1
theorem dsF_v {T : jT} {mem l i d : Nat} (hd : (fdS T mem l d).2.testBit i = true) (hn : ∀ s, d < s → (fdS T mem l s).2.testBit i = false) : ∀ s, d < s → dsF T mem l s i = d
  | 0, h => by omega
  | s + 1, h => by
    show (if (fdS T mem l s).2.testBit i = true then s else dsF T mem l s i) = d
    by_cases e : s = d
    · rw [e, if_pos hd]
    · rw [if_neg (by rw [hn s (by omega)]; decide)]
      exact dsF_v hd hn s (by omega)
theorem rDs_W {T : jT} (hT : tv T) {k i : Nat} (hk : k < rNb T) (hi : i < T.1) (e : rHm T i = k) : rDs T k i < T.1 ∧ Wr (tR T) (rDs T k i) (rLs T k) i ∧ ∀ t, t < rDs T k i → ¬ Wr (tR T) t (rLs T k) i := by
  obtain ⟨g1, g2, g3, g4⟩ := rLs_C hT hk
  have e2 := (cls_E hT hk hi).mp e
  obtain ⟨d, h1, h2, h3⟩ := dist_ex hT g1 e2.1
  have hf := fd_inv hT g1 (rMb_b hT hk)
  have : rDs T k i = d := dsF_v (((hf d).2 i).mpr ⟨e2, h2, h3⟩) (fun s hs => f_of ((hf s).2 i) (fun q => q.2.2 d hs h2)) T.1 h1
  rw [this]
  exact ⟨h1, h2, h3⟩

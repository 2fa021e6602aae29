theorem jex_iff {f : Nat → Bool} : ∀ {k : Nat}, jex k f = true ↔ ∃ i, i < k ∧ f i = true
  | 0 => ⟨(fun h => by cases h), fun ⟨i, hi, _⟩ => absurd hi (Nat.not_lt_zero i)⟩
  | k + 1 => by
    show (jex k f || f k) = true ↔ _
    rw [Bool.or_eq_true, jex_iff]
    constructor
    · rintro (⟨i, hi, h⟩ | h)
      · exact ⟨i, by omega, h⟩
      · exact ⟨k, by omega, h⟩
    · rintro ⟨i, hi, h⟩
      by_cases e : i = k
      · right; rw [← e]; exact h
      · left; exact ⟨i, by omega, h⟩
theorem jor_cg {f g : Nat → Nat} : ∀ k, (∀ i, i < k → f i = g i) → jor k f = jor k g
  | 0, _ => rfl
  | k + 1, h => by
    show jor k f ||| f k = jor k g ||| g k
    rw [jor_cg k (fun i hi => h i (by omega)), h k (by omega)]
theorem nnd_12 {a v : Nat} (ha : a < 4096) : nnd a v = a &&& (4095 ^^^ v) := by
  refine Nat.eq_of_testBit_eq (fun j => beq_of_iff ?_)
  rw [nnd_tb ha, Nat.testBit_and, Bool.and_eq_true, Nat.testBit_xor, show (4095 : Nat) = 2 ^ 12 - 1 from rfl, Nat.testBit_two_pow_sub_one]
  have hj : a.testBit j = true → j < 12 := fun h => by
    rcases Nat.lt_or_ge j 12 with q | q
    · exact q
    · rw [Nat.testBit_lt_two_pow (Nat.lt_of_lt_of_le ha (show 4096 ≤ 2 ^ j from Nat.le_trans (by decide) (Nat.pow_le_pow_right (n := 2) (by omega) q)))] at h
      cases h
  constructor
  · rintro ⟨h1, h2⟩
    refine ⟨h1, ?_⟩
    rw [decide_eq_true (hj h1), show v.testBit j = false by simpa using h2]
    rfl
  · rintro ⟨h1, h2⟩
    refine ⟨h1, fun h3 => ?_⟩
    rw [decide_eq_true (hj h1), h3] at h2
    cases h2
theorem nnd_z {a v : Nat} (ha : a < 4096) : nnd a v = 0 ↔ ∀ j, a.testBit j = true → v.testBit j = true := by
  constructor
  · intro h j hj
    cases hv : v.testBit j with
    | true => rfl
    | false =>
      have := (nnd_tb (b := v) ha).mpr ⟨hj, by rw [hv]; decide⟩
      rw [h, Nat.zero_testBit] at this
      cases this
  · intro h
    refine Nat.eq_of_testBit_eq (fun j => beq_of_iff ?_)
    rw [nnd_tb ha, Nat.zero_testBit]
    exact ⟨fun q => absurd (h j q.1) q.2, (fun q => by cases q)⟩
theorem hun_tb {T : jT} {v k j : Nat} : (hun T v k).testBit j = true ↔ ∃ i, i < k ∧ nnd (T.2 i) v = 0 ∧ tb T i j = true := by
  rw [hun, jor_tb]
  constructor
  · rintro ⟨i, hi, h⟩
    rw [ite_tb] at h
    exact ⟨i, hi, h⟩
  · rintro ⟨i, hi, h⟩
    exact ⟨i, hi, ite_tb.mpr h⟩
/-- a set is a union of rows just where those in it make it up -/
theorem hun_uni {T : jT} (hT : tw T) {v : Nat} : hun T v T.1 = v ↔ ∃ c, c < 2 ^ T.1 ∧ uni T c T.1 = v := by
  constructor
  · intro h
    refine ⟨jor T.1 (fun i => if nnd (T.2 i) v = 0 then 2 ^ i else 0), jor_lt fun i hi => ?_, ?_⟩
    · split
      · exact p2_lt2 hi
      · exact Nat.two_pow_pos _
    · rw [← h]
      conv => lhs; rw [h]
      refine jor_cg T.1 (fun i hi => ?_)
      have e : (jor T.1 (fun i => if nnd (T.2 i) v = 0 then 2 ^ i else 0)).testBit i = true ↔ nnd (T.2 i) v = 0 := by
        rw [jor_tb]
        constructor
        · rintro ⟨z, -, hz⟩
          rw [ite_tb, p2_tb] at hz
          rw [← hz.2]; exact hz.1
        · intro q
          exact ⟨i, hi, ite_tb.mpr ⟨q, p2_tb.mpr rfl⟩⟩
      by_cases q : nnd (T.2 i) v = 0
      · rw [if_pos (e.mpr q), if_pos q]
      · rw [if_neg (fun z => q (e.mp z)), if_neg q]
  · rintro ⟨c, -, rfl⟩
    have hsub : ∀ i, i < T.1 → c.testBit i = true → nnd (T.2 i) (uni T c T.1) = 0 := fun i hi hc => (nnd_z (hT.2.1 i)).mpr (fun j hj => by
      rw [uni, jor_tb]
      exact ⟨i, hi, by rw [if_pos hc]; exact hj⟩)
    refine Nat.eq_of_testBit_eq (fun j => beq_of_iff ?_)
    rw [hun_tb]
    constructor
    · rintro ⟨i, hi, h1, h2⟩
      exact (nnd_z (hT.2.1 i)).mp h1 j h2
    · intro h
      rw [uni, jor_tb] at h
      obtain ⟨i, hi, h⟩ := h
      rw [ite_tb] at h
      exact ⟨i, hi, hsub i hi h.1, h.2⟩
theorem seen_hun {T : jT} (hT : tw T) (v : Nat) : (hun T v T.1 == v) = seen T (2 ^ T.1) v := beq_of_iff (by
  rw [beq_iff_eq, hun_uni hT, seen, jex_iff]
  constructor
  · rintro ⟨c, hc, h⟩; exact ⟨c, hc, beq_iff_eq.mpr h⟩
  · rintro ⟨c, hc, h⟩; exact ⟨c, hc, beq_iff_eq.mp h⟩)
theorem jsum_ins {k z : Nat} {f g : Nat → Nat} (hz : z < k) (h1 : ∀ v, v < k → v ≠ z → g v = f v) (h2 : g z = f z + 1) : jsum k g = jsum k f + 1 := by
  induction k with
  | zero => omega
  | succ k ih =>
    simp only [jsum]
    by_cases e : z = k
    · subst e
      rw [jsum_cg z (fun c hc => h1 c (by omega) (by omega)), h2]
      omega
    · rw [ih (by omega) (fun v hv hne => h1 v (by omega) hne), h1 k (by omega) (Ne.symm e)]
      omega
theorem uni_lt2 {T : jT} (hT : tv T) (c k : Nat) : uni T c k < 2 ^ T.1 := jor_lt fun i _ => by
  split
  · exact hT.2.1 i
  · exact Nat.two_pow_pos _
theorem ucn_sum {T : jT} (hT : tv T) : ∀ c, ucn T c = jsum (2 ^ T.1) (fun v => if seen T c v = true then 1 else 0)
  | 0 => by
    have : jsum (2 ^ T.1) (fun v => if seen T 0 v = true then 1 else 0) = jsum (2 ^ T.1) (fun _ => 0) := jsum_cg _ (fun v _ => if_neg (by show ¬ false = true; decide))
    rw [this, jsum_c, Nat.mul_zero]
    rfl
  | c + 1 => by
    have hs : ∀ v, seen T (c + 1) v = true ↔ seen T c v = true ∨ uni T c T.1 = v := fun v => by
      rw [seen, seen, jex_iff, jex_iff]
      constructor
      · rintro ⟨i, hi, h⟩
        by_cases e : i = c
        · right; rw [← e]; exact beq_iff_eq.mp h
        · left; exact ⟨i, by omega, h⟩
      · rintro (⟨i, hi, h⟩ | h)
        · exact ⟨i, by omega, h⟩
        · exact ⟨c, by omega, beq_iff_eq.mpr h⟩
    unfold ucn
    rw [ucn_sum hT c]
    by_cases e : seen T c (uni T c T.1) = true
    · rw [if_pos e, Nat.add_zero]
      refine jsum_cg _ (fun v _ => ?_)
      by_cases q : seen T c v = true
      · rw [if_pos q, if_pos ((hs v).mpr (Or.inl q))]
      · rw [if_neg q, if_neg (fun z => by
          rcases (hs v).mp z with z | z
          · exact q z
          · rw [z] at e; exact q e)]
    · rw [if_neg e]
      refine (jsum_ins (z := uni T c T.1) (uni_lt2 hT c _) (fun v _ hne => ?_) ?_).symm
      · by_cases q : seen T c v = true
        · rw [if_pos q, if_pos ((hs v).mpr (Or.inl q))]
        · rw [if_neg q, if_neg (fun z => by
            rcases (hs v).mp z with z | z
            · exact q z
            · exact hne z.symm)]
      · rw [if_pos ((hs _).mpr (Or.inr rfl)), if_neg e]
theorem unc_ucn {T : jT} (hT : tv T) : unc T (2 ^ T.1) = ucn T (2 ^ T.1) := by
  rw [ucn_sum hT]
  refine jsum_cg _ (fun v _ => ?_)
  have := seen_hun (tv_w hT) v
  by_cases q : hun T v T.1 = v
  · rw [if_pos q, if_pos (by rw [← this]; exact beq_iff_eq.mpr q)]
  · rw [if_neg q, if_neg (by rw [← this]; exact fun z => q (beq_iff_eq.mp z))]
/-- within, both ways -/
theorem spr_wth {A C : jT} (hA : tw A) : ∀ k, spr A C k = wth C A k
  | k => by
    refine beq_of_iff ?_
    rw [spr, wth, jall_iff, jall_iff]
    constructor
    · intro h i hi
      have := h i hi
      rwa [seen_hun hA] at this
    · intro h i hi
      have := h i hi
      rwa [← seen_hun hA] at this
/-- the basis -/
theorem mdu_mad {T : jT} (hT : tw T) (v k : Nat) : mdu T v k = mad T v k := jor_cg k (fun i _ => by
  have h1 := hT.2.1 i
  have e : (¬ T.2 i = v ∧ nnd (T.2 i) v = 0) ↔ (!(T.2 i == v) && (T.2 i &&& (4095 ^^^ v) == 0)) = true := by
    rw [Bool.and_eq_true, nnd_12 h1]
    simp
  by_cases q : ¬ T.2 i = v ∧ nnd (T.2 i) v = 0
  · rw [if_pos q, if_pos (e.mp q)]
  · rw [if_neg q, if_neg (fun z => q (e.mpr z))])
theorem isb_iff {T : jT} (hT : tw T) {v : Nat} : isb T v = true ↔ (∃ i, i < T.1 ∧ T.2 i = v) ∧ ¬ mdu T v T.1 = v := by
  rw [isb, Bool.and_eq_true, stn, jex_iff, mdu_mad hT]
  constructor
  · rintro ⟨⟨i, hi, h⟩, h2⟩
    exact ⟨⟨i, hi, beq_iff_eq.mp h⟩, by simpa using h2⟩
  · rintro ⟨⟨i, hi, h⟩, h2⟩
    exact ⟨⟨i, hi, beq_iff_eq.mpr h⟩, by simpa using h2⟩
theorem nbs_spec {T : jT} {a : Nat} : ∀ k, (nbs T a k = 0 ∧ ∀ i, i < k → ¬ (a < T.2 i ∧ ¬ mdu T (T.2 i) T.1 = T.2 i)) ∨ ((∃ i, i < k ∧ nbs T a k = T.2 i) ∧ a < nbs T a k ∧ (¬ mdu T (nbs T a k) T.1 = nbs T a k) ∧ ∀ i, i < k → a < T.2 i → ¬ mdu T (T.2 i) T.1 = T.2 i → nbs T a k ≤ T.2 i)
  | 0 => Or.inl ⟨rfl, fun i hi => absurd hi (Nat.not_lt_zero i)⟩
  | k + 1 => by
    have ih := nbs_spec (T := T) (a := a) k
    by_cases c : a < T.2 k ∧ (nbs T a k = 0 ∨ T.2 k < nbs T a k) ∧ ¬ mdu T (T.2 k) T.1 = T.2 k
    · have e : nbs T a (k + 1) = T.2 k := if_pos c
      right
      rw [e]
      refine ⟨⟨k, by omega, rfl⟩, c.1, c.2.2, fun i hi h1 h2 => ?_⟩
      by_cases q : i = k
      · rw [q]; exact Nat.le_refl _
      · rcases ih with ⟨g1, g2⟩ | ⟨-, g2, -, g4⟩
        · exact absurd ⟨h1, h2⟩ (g2 i (by omega))
        · have := g4 i (by omega) h1 h2
          rcases c.2.1 with w | w <;> omega
    · have e : nbs T a (k + 1) = nbs T a k := if_neg c
      rw [e]
      rcases ih with ⟨g1, g2⟩ | ⟨⟨i0, g0, g1⟩, g2, g3, g4⟩
      · refine Or.inl ⟨g1, fun i hi => ?_⟩
        by_cases q : i = k
        · rw [q]
          rintro ⟨h1, h2⟩
          exact c ⟨h1, Or.inl g1, h2⟩
        · exact g2 i (by omega)
      · refine Or.inr ⟨⟨i0, by omega, g1⟩, g2, g3, fun i hi h1 h2 => ?_⟩
        by_cases q : i = k
        · rw [q] at h1 h2 ⊢
          rcases Nat.lt_or_ge (T.2 k) (nbs T a k) with w | w
          · exact absurd ⟨h1, Or.inr w, h2⟩ c
          · exact w
        · exact g4 i (by omega) h1 h2
/-- the next of the basis -/
theorem nbs_next {T : jT} (hT : tw T) {a w : Nat} (hw : isb T w = true) (haw : a < w) (hn : ∀ v, a < v → v < w → isb T v = false) : nbs T a T.1 = w := by
  obtain ⟨⟨i, hi, e⟩, hm⟩ := (isb_iff hT).mp hw
  rcases nbs_spec (T := T) (a := a) T.1 with ⟨g1, g2⟩ | ⟨⟨i0, g0, g1⟩, g2, g3, g4⟩
  · exact absurd ⟨by rw [e]; exact haw, by rw [e]; exact hm⟩ (g2 i hi)
  · have h1 := g4 i hi (by rw [e]; exact haw) (by rw [e]; exact hm)
    rw [e] at h1
    rcases Nat.lt_or_ge (nbs T a T.1) w with q | q
    · have := hn _ g2 q
      rw [(isb_iff hT).mpr ⟨⟨i0, g0, g1.symm⟩, g3⟩] at this
      cases this
    · omega
theorem nbs_end {T : jT} (hT : tw T) {a : Nat} (hn : ∀ v, a < v → isb T v = false) : nbs T a T.1 = 0 := by
  rcases nbs_spec (T := T) (a := a) T.1 with ⟨g1, g2⟩ | ⟨⟨i0, g0, g1⟩, g2, g3, g4⟩
  · exact g1
  · have := hn _ g2
    rw [(isb_iff hT).mpr ⟨⟨i0, g0, g1.symm⟩, g3⟩] at this
    cases this
theorem bs_inv {T : jT} (hT : tw T) : ∀ V, (∀ i, i < (bsF T V).2 → (bsF T V).1 i = bsq T (i + 1) ∧ bsq T i < bsq T (i + 1) ∧ isb T (bsq T (i + 1)) = true) ∧ bsq T (bsF T V).2 ≤ V ∧ ∀ v, bsq T (bsF T V).2 < v → v ≤ V → isb T v = false
  | 0 => ⟨fun i hi => absurd hi (Nat.not_lt_zero i), Nat.le_refl _, fun v h1 h2 => by omega⟩
  | V + 1 => by
    obtain ⟨h1, h2, h3⟩ := bs_inv hT V
    cases hb : isb T (V + 1) with
    | true =>
      have e : bsF T (V + 1) = (jfu (bsF T V).1 (bsF T V).2 (V + 1), (bsF T V).2 + 1) := if_pos hb
      have hn : bsq T ((bsF T V).2 + 1) = V + 1 := nbs_next hT hb (by omega) (fun v a b => h3 v a (by omega))
      rw [e]
      refine ⟨fun i hi => ?_, by show bsq T ((bsF T V).2 + 1) ≤ V + 1; omega, fun v a b => by have a : bsq T ((bsF T V).2 + 1) < v := a; omega⟩
      show jfu (bsF T V).1 (bsF T V).2 (V + 1) i = _ ∧ _
      have hi : i < (bsF T V).2 + 1 := hi
      simp only [jfu]
      by_cases q : i = (bsF T V).2
      · rw [if_pos q, q, hn]
        exact ⟨rfl, by omega, hb⟩
      · rw [if_neg q]
        exact h1 i (by omega)
    | false =>
      have e : bsF T (V + 1) = bsF T V := if_neg (by rw [hb]; decide)
      rw [e]
      refine ⟨h1, by omega, fun v a b => ?_⟩
      by_cases q : v = V + 1
      · rw [q]; exact hb
      · exact h3 v a (by omega)
theorem bsq_up {T : jT} {m : Nat} (h : ∀ i, i < m → bsq T i < bsq T (i + 1)) : ∀ b a, a < b → b ≤ m → bsq T a < bsq T b
  | 0, a, h1, _ => absurd h1 (Nat.not_lt_zero a)
  | b + 1, a, h1, h2 => by
    have h3 := h b (by omega)
    by_cases e : a = b
    · rw [e]; exact h3
    · have := bsq_up h b a (by omega) (by omega)
      omega
theorem bs_cnt {T : jT} (hT : tw T) (V : Nat) : (bsF T V).2 ≤ T.1 := by
  obtain ⟨h1, h2, h3⟩ := bs_inv hT V
  have hw : ∀ t, t < (bsF T V).2 → ∃ i, i < T.1 ∧ T.2 i = bsq T (t + 1) := fun t ht => ((isb_iff hT).mp (h1 t ht).2.2).1
  have hup := bsq_up (m := (bsF T V).2) (fun i hi => (h1 i hi).2.1)
  generalize (bsF T V).2 = m at hw hup
  by_cases h0 : m = 0
  · omega
  · have hch : ∃ w : Nat → Nat, ∀ t, t < m → w t < T.1 ∧ T.2 (w t) = bsq T (t + 1) := ⟨fun t => if h : t < m then Classical.choose (hw t h) else 0, fun t ht => by
      simp only [dif_pos ht]
      exact Classical.choose_spec (hw t ht)⟩
    obtain ⟨w, hw⟩ := hch
    have := jsum_inj (n := T.1) (q := fun _ => 1) m w (fun t ht => ⟨(hw t ht).1, by omega⟩) (fun s t hst ht e => by
      have a := (hw s (by omega)).2
      have b := (hw t ht).2
      rw [e, b] at a
      have := hup (t + 1) (s + 1) (by omega) (by omega)
      omega)
    rw [jsum_c, Nat.mul_one] at this
    exact this
/-- the basis, both ways -/
theorem bas_all {T : jT} (hT : tv T) : (∀ v, v + 1 < 2 ^ T.1 → isb T (v + 1) = true → (bsF T v).2 < 12) ∧ (bsF T (2 ^ T.1 - 1)).2 ≤ 12 ∧ (∀ j, j < (bsF T (2 ^ T.1 - 1)).2 → ¬ bsr T j = 0) ∧ (bsr T (bsF T (2 ^ T.1 - 1)).2 = 0 ∨ (bsF T (2 ^ T.1 - 1)).2 = 12) ∧ ∀ i, i < (bsF T (2 ^ T.1 - 1)).2 → (bsF T (2 ^ T.1 - 1)).1 i = bsq T (i + 1) := by
  have hW := tv_w hT
  have h12 := hT.1
  obtain ⟨h1, h2, h3⟩ := bs_inv hW (2 ^ T.1 - 1)
  refine ⟨fun v _ hb => ?_, Nat.le_trans (bs_cnt hW _) h12, fun j hj => ?_, Or.inl ?_, fun i hi => (h1 i hi).1⟩
  · have e : bsF T (v + 1) = (jfu (bsF T v).1 (bsF T v).2 (v + 1), (bsF T v).2 + 1) := if_pos hb
    have := bs_cnt hW (v + 1)
    rw [e] at this
    have this : (bsF T v).2 + 1 ≤ T.1 := this
    omega
  · rw [bsq_r]
    have := (h1 j hj).2.1
    omega
  · rw [bsq_r]
    refine nbs_end hW (fun v hv => ?_)
    rcases Nat.lt_or_ge v (2 ^ T.1) with q | q
    · exact h3 v hv (by omega)
    · cases hb : isb T v with
      | false => rfl
      | true =>
        obtain ⟨⟨i, hi, e⟩, -⟩ := (isb_iff hW).mp hb
        have := hT.2.1 i
        omega
/-- the greatest X, and regular tables -/
theorem gr7_t {a t : Nat} {P : jP} (h1 : a ≠ 36) (h2 : a ≠ 37) (h3 : t ≠ 36) (h4 : t ≠ 37) : gr7 a t P t = tgr (P a) := by
  simp only [gr7, gr6, gr5, gr4, gr3, gr2, gr1, jset, tgr]
  simp [h1, h2, h3, h4, Ne.symm h3, Ne.symm h4]
theorem gr7_o {a t q : Nat} {P : jP} (h1 : q ≠ 36) (h2 : q ≠ 37) (h3 : q ≠ t) : gr7 a t P q = P q := by
  simp only [gr7, gr6, gr5, gr4, gr3, gr2, gr1, jset]
  simp [h1, h2, h3]
theorem rg2_37 {s : Nat} {P : jP} (hs : s < 6) : rg2 s P 37 = tmul (tmul (P s) (tgr (P s))) (P s) := by
  have e1 : gr7 s 35 P s = P s := gr7_o (by omega) (by omega) (by omega)
  have e2 : gr7 s 35 P 35 = tgr (P s) := gr7_t (by omega) (by omega) (by omega) (by omega)
  simp only [rg2, rg1]
  rw [jset_eq, jset_eq, jset_ne (show s ≠ 36 by omega), e1, e2]
theorem rg2_o {s q : Nat} {P : jP} (h : q < 34) : rg2 s P q = P q := by
  simp only [rg2, rg1]
  rw [jset_ne (by omega), jset_ne (by omega), gr7_o (by omega) (by omega) (by omega)]
theorem tv_gr {T : jT} (hT : tv T) : tv (tgr T) := tv_co (tv_mul (tv_mul (tv_tr hT) (tv_co hT) rfl) (tv_tr hT) rfl)

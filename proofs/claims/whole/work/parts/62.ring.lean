theorem adf_dvd {g a b : Nat} : g ∣ adf a b ↔ a % g = b % g := by
  unfold adf
  split
  · rename_i h
    constructor
    · rintro ⟨t, ht⟩
      rw [show a = b + g * t by omega, Nat.add_mul_mod_self_left]
    · intro e
      exact Nat.dvd_of_mod_eq_zero (Nat.sub_mod_eq_zero_of_mod_eq e)
  · rename_i h
    constructor
    · rintro ⟨t, ht⟩
      rw [show b = a + g * t by omega, Nat.add_mul_mod_self_left]
    · intro e
      exact Nat.dvd_of_mod_eq_zero (Nat.sub_mod_eq_zero_of_mod_eq e.symm)
theorem pdJ_dvd {t : Nat → Bool} {A : Nat → Nat} {d v : Nat} : ∀ m, d ∣ pdJ t A v m ↔ d ∣ v ∧ ∀ j, j < m → t j = true → d ∣ A j
  | 0 => ⟨fun h => ⟨h, fun j hj => absurd hj (Nat.not_lt_zero j)⟩, fun h => h.1⟩
  | m + 1 => by
    have ih := pdJ_dvd (t := t) (A := A) (d := d) (v := v) m
    unfold pdJ
    by_cases e : t m = true
    · rw [if_pos e, Nat.dvd_gcd_iff, ih]
      constructor
      · rintro ⟨h1, h2, h3⟩
        exact ⟨h2, fun j hj ht => by
          by_cases q : j = m
          · rw [q]; exact h1
          · exact h3 j (by omega) ht⟩
      · rintro ⟨h1, h2⟩
        exact ⟨h2 m (by omega) e, h1, fun j hj ht => h2 j (by omega) ht⟩
    · rw [if_neg e, ih]
      constructor
      · rintro ⟨h1, h2⟩
        exact ⟨h1, fun j hj ht => by
          by_cases q : j = m
          · rw [q] at ht; exact absurd ht e
          · exact h2 j (by omega) ht⟩
      · rintro ⟨h1, h2⟩
        exact ⟨h1, fun j hj ht => h2 j (by omega) ht⟩
theorem pdO_dvd {T : jT} {hm D : Nat → Nat} {k d : Nat} : ∀ m, d ∣ pdO T hm D k m ↔ ∀ i j, i < m → j < T.1 → pdt T hm k i j = true → d ∣ adf (D i + 1) (D j)
  | 0 => ⟨fun _ i j hi => absurd hi (Nat.not_lt_zero i), fun _ => Nat.dvd_zero d⟩
  | m + 1 => by
    show d ∣ pdJ (pdt T hm k m) (fun j => adf (D m + 1) (D j)) (pdO T hm D k m) T.1 ↔ _
    rw [pdJ_dvd, pdO_dvd m]
    constructor
    · rintro ⟨h1, h2⟩ i j hi hj ht
      by_cases q : i = m
      · subst q; exact h2 j hj ht
      · exact h1 i j (by omega) hj ht
    · intro h
      exact ⟨fun i j hi hj ht => h i j (by omega) hj ht, fun j hj ht => h m j (by omega) hj ht⟩
theorem dvI_dvd {t : Nat → Bool} {q v d : Nat} : ∀ m, d ∣ dvI t q v m ↔ d ∣ v ∧ ∀ i, i < m → t i = true → d ∣ q
  | 0 => ⟨fun h => ⟨h, fun j hj => absurd hj (Nat.not_lt_zero j)⟩, fun h => h.1⟩
  | m + 1 => by
    have ih := dvI_dvd (t := t) (q := q) (v := v) (d := d) m
    unfold dvI
    by_cases e : t m = true
    · rw [if_pos e, Nat.dvd_gcd_iff, ih]
      constructor
      · rintro ⟨⟨h1, h2⟩, h3⟩
        exact ⟨h1, fun _ _ _ => h3⟩
      · rintro ⟨h1, h2⟩
        exact ⟨⟨h1, fun j hj ht => h2 j (by omega) ht⟩, h2 m (by omega) e⟩
    · rw [if_neg e, ih]
      constructor
      · rintro ⟨h1, h2⟩
        exact ⟨h1, fun j hj ht => by
          by_cases q : j = m
          · rw [q] at ht; exact absurd ht e
          · exact h2 j (by omega) ht⟩
      · rintro ⟨h1, h2⟩
        exact ⟨h1, fun j hj ht => h2 j (by omega) ht⟩
theorem dvO_dvd {t : Nat → Nat → Bool} {n d : Nat} : ∀ m, d ∣ dvO t n m ↔ ∀ q i, q < m → i < n → t (q + 1) i = true → d ∣ q + 1
  | 0 => ⟨fun _ q i hq => absurd hq (Nat.not_lt_zero q), fun _ => Nat.dvd_zero d⟩
  | m + 1 => by
    show d ∣ dvI (t (m + 1)) (m + 1) (dvO t n m) n ↔ _
    rw [dvI_dvd, dvO_dvd m]
    constructor
    · rintro ⟨h1, h2⟩ q i hq hi ht
      by_cases e : q = m
      · subst e; exact h2 i hi ht
      · exact h1 q i (by omega) hi ht
    · intro h
      exact ⟨fun q i hq hi ht => h q i (by omega) hi ht, fun i hi ht => h m i (by omega) hi ht⟩
theorem rou_W {T : jT} (hT : tv T) {k q i : Nat} : rou (Cl T) (wk T) k q i = true ↔ Cl T i = k ∧ Wr (tR T) q i i := by
  rw [rou, Bool.and_eq_true, decide_eq_true_eq, wk_W hT]
theorem pdt_W {T : jT} {hm : Nat → Nat} {k i j : Nat} : pdt T hm k i j = true ↔ hm i = k ∧ hm j = k ∧ tb T i j = true := by
  rw [pdt, Bool.and_eq_true, Bool.and_eq_true, decide_eq_true_eq, decide_eq_true_eq]
  exact ⟨fun h => ⟨h.1.1, h.1.2, h.2⟩, fun h => ⟨⟨h.1, h.2.1⟩, h.2.2⟩⟩
/-- the period, both ways -/
theorem rPe_dv {T : jT} (hT : tv T) {k : Nat} (hk : k < rNb T) : rPe T k = dvO (rou (Cl T) (wk T) k) T.1 T.1 := by
  obtain ⟨g1, g2, g3, g4⟩ := rLs_C hT hk
  have hin : ∀ x y, x < T.1 → y < T.1 → rHm T x = k → Eq2 T x y → rHm T y = k := fun x y hx hy e e2 => (cls_E hT hk hy).mpr (eq2_t ((cls_E hT hk hx).mp e) e2)
  refine Nat.dvd_antisymm ?_ ?_
  · -- the class's divides all lengths of ways back
    rw [dvO_dvd]
    intro q i hq hi ht
    obtain ⟨hc, w⟩ := (rou_W hT).mp ht
    have hci : rHm T i = k := (rHm_C hT hi).trans hc
    have hg : ∀ x y, x < T.1 → y < T.1 → rHm T x = k → rHm T y = k → tb T x y = true → (rDs T k x + 1) % rPe T k = rDs T k y % rPe T k := fun x y hx hy e1 e2 h => adf_dvd.mp ((pdO_dvd (d := rPe T k) T.1).mp (Nat.dvd_refl _) x y hx hy (pdt_W.mpr ⟨e1, e2, h⟩))
    generalize hgg : rPe T k = g at hg ⊢
    have hw : ∀ m x, x < T.1 → rHm T x = k → Rch T i x → Wr (tR T) m x i → (rDs T k x + m) % g = rDs T k i % g := fun m => by
      induction m with
      | zero =>
        intro x hx e hr h
        have h : x = i := h
        rw [h, Nat.add_zero]
      | succ m ih =>
        intro x hx e hr h
        obtain ⟨z, h1, h2⟩ := h
        have hz := (tb_lt hT h1).2
        have ez : rHm T z = k := hin x z hx hz e ⟨⟨1, Wr_one h1⟩, rch_trans ⟨m, h2⟩ hr⟩
        have h3 := ih z hz ez (rch_trans hr ⟨1, Wr_one h1⟩) h2
        have h4 := hg x z hx hz e ez h1
        rw [← h3, Nat.add_mod (rDs T k z) m g, ← h4, ← Nat.add_mod]
        congr 1
        omega
    have h5 := hw (q + 1) i hi hci (rch_refl i) w
    have := Nat.sub_mod_eq_zero_of_mod_eq h5
    rw [show rDs T k i + (q + 1) - rDs T k i = q + 1 by omega] at this
    exact Nat.dvd_of_mod_eq_zero this
  · -- the reference's divides what each step gains or loses
    have hcl : ∀ b m x, m ≤ b → x < T.1 → Cl T x = k → Wr (tR T) m x x → dvO (rou (Cl T) (wk T) k) T.1 T.1 ∣ m := fun b => by
      induction b with
      | zero =>
        intro m x hm _ _ _
        rw [show m = 0 by omega]
        exact Nat.dvd_zero _
      | succ b ih =>
        intro m x hm hx hc w
        rcases Nat.lt_or_ge T.1 m with hm2 | hm2
        · obtain ⟨v, a, b2, d, hb0, hbn, habd, hv, w1, w2, w3⟩ := Wr_twice (tR_n hT) hx (Nat.le_of_lt hm2) w
          have hcv : Cl T v = k := by rw [← hc]; exact (Cl_E hT hv hx).mpr ⟨⟨d, w3⟩, ⟨a, w1⟩⟩
          have d1 := ih b2 v (by omega) hv hcv w2
          have d2 := ih (a + d) x (by omega) hx hc (Wr_add w1 w3)
          rw [← habd, show a + b2 + d = b2 + (a + d) by omega]
          exact Nat.dvd_add d1 d2
        · match m, hm2, w with
          | 0, _, _ => exact Nat.dvd_zero _
          | m + 1, hm2, w => exact (dvO_dvd T.1).mp (Nat.dvd_refl _) m x hm2 hx ((rou_W hT).mpr ⟨hc, w⟩)
    show dvO (rou (Cl T) (wk T) k) T.1 T.1 ∣ pdO T (rHm T) (rDs T k) k T.1
    rw [pdO_dvd]
    intro i j hi hj ht
    obtain ⟨e1, e2, h⟩ := pdt_W.mp ht
    obtain ⟨-, wi, -⟩ := rDs_W hT hk hi e1
    obtain ⟨-, wj, -⟩ := rDs_W hT hk hj e2
    obtain ⟨x, wx⟩ := ((cls_E hT hk hj).mp e2).2
    have d1 := hcl _ _ (rLs T k) (Nat.le_refl _) g1 g2 (Wr_add (Wr_snoc wi h) wx)
    have d2 := hcl _ _ (rLs T k) (Nat.le_refl _) g1 g2 (Wr_add wj wx)
    unfold adf
    split
    · have := Nat.dvd_sub d1 d2
      rwa [show rDs T k i + 1 + x - (rDs T k j + x) = rDs T k i + 1 - rDs T k j by omega] at this
    · have := Nat.dvd_sub d2 d1
      rwa [show rDs T k j + x - (rDs T k i + 1 + x) = rDs T k j - (rDs T k i + 1) by omega] at this
/-- the girth, both ways -/
theorem grI_fi {T : jT} (hT : tv T) {q k : Nat} {g : Nat → Nat} : ∀ i, i ≤ T.1 → grI T (rHm T) q g i k = fiI (rou (Cl T) (wk T) k (q + 1)) (q + 1) (g k) i
  | 0, _ => rfl
  | i + 1, hi => by
    have ih := grI_fi hT (q := q) (k := k) (g := g) i (by omega)
    have hb : ((tpo T q).2 i).testBit i = true ↔ Wr (tR T) (q + 1) i i := tpo_W hT q i i
    have hc := rHm_C hT (show i < T.1 by omega)
    unfold grI fiI
    by_cases e : Cl T i = k
    · rw [hc, e, ih]
      by_cases c : ((tpo T q).2 i).testBit i = true ∧ fiI (rou (Cl T) (wk T) k (q + 1)) (q + 1) (g k) i = 0
      · rw [if_pos c, if_pos (by rw [Bool.and_eq_true, decide_eq_true_eq]; exact ⟨(rou_W hT).mpr ⟨e, hb.mp c.1⟩, c.2⟩)]
        simp [jfu]
      · rw [if_neg c, if_neg (by
          rw [Bool.and_eq_true, decide_eq_true_eq]
          rintro ⟨h1, h2⟩
          exact c ⟨hb.mpr ((rou_W hT).mp h1).2, h2⟩), ih]
    · rw [if_neg (show ¬ (rou (Cl T) (wk T) k (q + 1) i && decide (fiI (rou (Cl T) (wk T) k (q + 1)) (q + 1) (g k) i = 0)) = true by
        rw [Bool.and_eq_true]
        rintro ⟨h1, -⟩
        exact e ((rou_W hT).mp h1).1), ← ih]
      split
      · simp only [jfu]
        rw [if_neg (by rw [hc]; exact Ne.symm e)]
      · rfl
theorem grO_fi {T : jT} (hT : tv T) {k : Nat} : ∀ q, grO T (rHm T) q k = fiO (rou (Cl T) (wk T) k) T.1 q
  | 0 => rfl
  | q + 1 => by
    show grI T (rHm T) q (grO T (rHm T) q) T.1 k = fiI (rou (Cl T) (wk T) k (q + 1)) (q + 1) (fiO (rou (Cl T) (wk T) k) T.1 q) T.1
    rw [grI_fi hT T.1 (Nat.le_refl _), grO_fi hT q]
/-- the classes below, both ways -/
theorem bwF_blw {T : jT} (hT : tv T) {k : Nat} (hk : k < rNb T) : bwF T (rLs T) k (rNb T) = blw (Cl T) (rc T T.1 (rLs T k)) k T.1 := by
  obtain ⟨g1, g2, g3, g4⟩ := rLs_C hT hk
  refine Nat.eq_of_testBit_eq (fun j => beq_of_iff ?_)
  rw [bwF, blw, jor_tb, jor_tb]
  constructor
  · rintro ⟨o, ho, h⟩
    rw [ite_tb, p2_tb] at h
    obtain ⟨⟨h1, h2⟩, rfl⟩ := h
    obtain ⟨f1, f2, f3, f4⟩ := rLs_C hT ho
    refine ⟨rLs T o, f1, ?_⟩
    rw [ite_tb, f2, p2_tb, Bool.and_eq_true, rc_rch hT g1]
    exact ⟨⟨rch_clo hT h2, by simp [h1]⟩, rfl⟩
  · rintro ⟨i, hi, h⟩
    rw [ite_tb, p2_tb, Bool.and_eq_true, rc_rch hT g1] at h
    obtain ⟨⟨h1, h2⟩, rfl⟩ := h
    have ho : Cl T i < rNb T := by rw [rNb_M hT]; exact Cl_lt hi
    obtain ⟨f1, f2, f3, f4⟩ := rLs_C hT ho
    have hne : ¬ Cl T i = k := by simpa using h2
    refine ⟨Cl T i, ho, ite_tb.mpr ⟨⟨hne, ?_⟩, p2_tb.mpr rfl⟩⟩
    refine (rch_ne hT (fun e => hne ?_)).mpr (rch_trans h1 ((Cl_E hT f1 hi).mp f2).2)
    rw [← f2, ← e, g2]
/-- the parts, both ways -/
theorem prF_prs {T : jT} (hT : tv T) {k q : Nat} (hk : k < rNb T) (hp : ¬ rPe T k = 0) : prF T k q T.1 = prs (Cl T) (rDs T k) k (rPe T k) q T.1 := by
  refine Nat.eq_of_testBit_eq (fun j => beq_of_iff ?_)
  rw [prF, prs, jor_tb, jor_tb]
  have key : ∀ i, i < T.1 → ((rHm T i = k ∧ rPa T i = q) ↔ (Cl T i = k ∧ rDs T k i % rPe T k = q)) := fun i hi => by
    rw [rHm_C hT hi]
    constructor
    · rintro ⟨h1, h2⟩
      refine ⟨h1, ?_⟩
      rw [rPa, rHm_C hT hi, h1, if_neg hp] at h2
      exact h2
    · rintro ⟨h1, h2⟩
      refine ⟨h1, ?_⟩
      rw [rPa, rHm_C hT hi, h1, if_neg hp]
      exact h2
  constructor
  · rintro ⟨i, hi, h⟩
    rw [ite_tb] at h
    exact ⟨i, hi, ite_tb.mpr ⟨(key i hi).mp h.1, h.2⟩⟩
  · rintro ⟨i, hi, h⟩
    rw [ite_tb] at h
    exact ⟨i, hi, ite_tb.mpr ⟨(key i hi).mpr h.1, h.2⟩⟩
/-- what remains, both ways -/
theorem ni_xor (a b : Nat) : nI a ^^^ nI b = nI (a ^^^ b) := by
  apply Int32.toBitVec_inj.1
  show BitVec.ofNat 32 a ^^^ BitVec.ofNat 32 b = BitVec.ofNat 32 (a ^^^ b)
  apply BitVec.eq_of_getLsbD_eq
  intro i hi
  simp [hi]
theorem xor_cancel (d p : Int32) : d = (d ^^^ p) ^^^ p := by
  apply Int32.toBitVec_inj.1
  show d.toBitVec = (d.toBitVec ^^^ p.toBitVec) ^^^ p.toBitVec
  rw [BitVec.xor_assoc, BitVec.xor_self, BitVec.xor_zero]
theorem rem_neg {d : Int32} {m p : Nat} (hd : d.toInt = Int.negSucc m) (hm : m < 2 ^ 31) (hp : 0 < p) (hp2 : p < 14) : (d - d / nI p * nI p).toInt = -(((m + 1) % p : Nat) : Int) := by
  have hpI : (nI p).toInt = (p : Int) := nI_toInt (by omega)
  have hq : (Int.negSucc m).tdiv (p : Int) = -(((m + 1) / p : Nat) : Int) := rfl
  have h1 := Nat.div_add_mod (m + 1) p
  have h2 := Nat.mod_lt (m + 1) hp
  have h3 := Nat.div_le_self (m + 1) p
  have h4 : ((p * ((m + 1) / p) : Nat) : Int) = (p : Int) * (((m + 1) / p : Nat) : Int) := by simp
  have hb : ∀ x : Int, -2147483648 ≤ x → x < 2147483648 → x.bmod (2 ^ 32) = x := fun x a b => by
    simp only [Int.bmod]
    omega
  rw [Int32.toInt_sub, Int32.toInt_mul, Int32.toInt_div, hd, hpI, hq]
  generalize (m + 1) / p = Q at h1 h3 h4 ⊢
  generalize (m + 1) % p = Rn at h1 h2 ⊢
  have h5 : -(Q : Int) * (p : Int) = -((p * Q : Nat) : Int) := by
    rw [h4, Int.neg_mul, Int.mul_comm]
  rw [hb (-(Q : Int)) (by omega) (by omega), h5]
  generalize p * Q = Z at h1 ⊢
  rw [hb (-(Z : Int)) (by omega) (by omega), hb _ (by omega) (by omega)]
  omega
theorem jrem_t (d : Int32) {p : Nat} (hp : 0 < p) (hp2 : p < 14) : jflo d (nI p) = jrem d (nI p) := by
  unfold jflo jrem
  by_cases hd : d < 0
  · have hx : (d ^^^ nI p) < 0 := by
      by_cases h : (d ^^^ nI p) < 0
      · exact h
      · exfalso
        obtain ⟨j, hj, e⟩ := nI_of h
        have e2 := xor_cancel d (nI p)
        rw [e, ni_xor] at e2
        rw [e2] at hd
        exact nI_pos (Nat.xor_lt_two_pow hj (by omega)) hd
    have ht : d.toInt < 0 := Int32.lt_iff_toInt_lt.mp hd
    have hmin : -2147483648 ≤ d.toInt := Int32.le_toInt d
    obtain ⟨m, hm⟩ : ∃ m, d.toInt = Int.negSucc m := by
      cases h : d.toInt with
      | ofNat j => rw [h] at ht; exact absurd ht (by simp)
      | negSucc m => exact ⟨m, rfl⟩
    have hr := rem_neg hm (by omega) hp hp2
    generalize d - d / nI p * nI p = r at hr ⊢
    by_cases h0 : r = 0
    · rw [if_neg (fun z => z.2 h0), if_neg (by rw [h0]; decide)]
    · have hr0 : r < 0 := by
        rw [Int32.lt_iff_toInt_lt, hr]
        have h1 : ¬ r.toInt = 0 := fun e => h0 (Int32.toInt_inj.mp e)
        rw [hr] at h1
        show -(((m + 1) % p : Nat) : Int) < 0
        omega
      rw [if_pos ⟨hx, h0⟩, if_pos hr0]
  · obtain ⟨j, hj, e⟩ := nI_of hd
    subst e
    have hr : nI j - nI j / nI p * nI p = nI (j % p) := ni_rem hj hp (by omega)
    have hl : j % p < 2 ^ 31 := Nat.lt_of_le_of_lt (Nat.mod_le _ _) hj
    rw [hr, ni_xor, if_neg (fun z => nI_pos (Nat.xor_lt_two_pow hj (by omega)) z.1), if_neg (fun z => nI_pos hl z)]

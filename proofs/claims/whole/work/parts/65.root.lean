def rst (m : Nat) : Nat := ([0, 1, 5, 73, 4369] : List Nat).getD m 0
theorem rst_bit : ∀ m, m < 5 → ∀ i, i < m → (rst m).testBit (m * i) = true := by decide +kernel
def mulOK (m a : Nat) : Bool := !(a &&& rst m == a) || jall (2 ^ m) (fun c => decide (a * c < 2 ^ (m * m)) && jall m (fun i => jall m (fun j => (a * c).testBit (m * i + j) == (a.testBit (m * i) && c.testBit j))))
theorem mul_ok : ∀ m, m < 5 → ∀ u, u < 69 → ∀ v, v < 64 → mulOK m (64 * u + v) = true := by decide +kernel
theorem mul_bit (m : Nat) (hm : m < 5) (a : Nat) (ha : a < 4370) (h : a &&& rst m = a) (c : Nat) (hc : c < 2 ^ m) : a * c < 2 ^ (m * m) ∧ ∀ i, i < m → ∀ j, j < m → (a * c).testBit (m * i + j) = (a.testBit (m * i) && c.testBit j) := by
  have hk := mul_ok m hm (a / 64) (by omega) (a % 64) (by omega)
  rw [show 64 * (a / 64) + a % 64 = a by omega, mulOK, Bool.or_eq_true] at hk
  have hk := hk.resolve_left (by simp [h])
  have h1 := (jall_iff.mp hk) c hc
  rw [Bool.and_eq_true, decide_eq_true_eq] at h1
  exact ⟨h1.1, fun i hi j hj => beq_iff_eq.mp (jall_iff.mp (jall_iff.mp h1.2 i hi) j hj)⟩
theorem idx_lt {m i j : Nat} (hi : i < m) (hj : j < m) : m * i + j < m * m := by
  have : m * (i + 1) ≤ m * m := Nat.mul_le_mul_left m hi
  rw [Nat.mul_succ] at this
  omega
theorem idx_ex {m p : Nat} (hp : p < m * m) : ∃ i j, i < m ∧ j < m ∧ p = m * i + j := by
  have h0 : 0 < m := by
    rcases Nat.eq_zero_or_pos m with e | e
    · rw [e] at hp; simp at hp
    · exact e
  exact ⟨p / m, p % m, Nat.div_lt_of_lt_mul hp, Nat.mod_lt _ h0, (Nat.div_add_mod p m).symm⟩
theorem num_ext {m a b : Nat} (ha : a < 2 ^ (m * m)) (hb : b < 2 ^ (m * m)) (h : ∀ i j, i < m → j < m → (a.testBit (m * i + j) = true ↔ b.testBit (m * i + j) = true)) : a = b := by
  refine Nat.eq_of_testBit_eq (fun p => ?_)
  rcases Nat.lt_or_ge p (m * m) with q | q
  · obtain ⟨i, j, hi, hj, rfl⟩ := idx_ex q
    exact beq_of_iff (h i j hi hj)
  · rw [Nat.testBit_lt_two_pow (Nat.lt_of_lt_of_le ha (Nat.pow_le_pow_right (by omega) q)), Nat.testBit_lt_two_pow (Nat.lt_of_lt_of_le hb (Nat.pow_le_pow_right (by omega) q))]
/-- the packed product, bit by bit -/
theorem rpr_bit {m a b : Nat} (hm : m ≤ 4) : rpr m a b m < 2 ^ (m * m) ∧ ∀ i j, i < m → j < m → ((rpr m a b m).testBit (m * i + j) = true ↔ ∃ k, k < m ∧ a.testBit (m * i + k) = true ∧ b.testBit (m * k + j) = true) := by
  have hA : ∀ k, (a / 2 ^ k &&& rst m) &&& rst m = a / 2 ^ k &&& rst m := fun k => by rw [Nat.and_assoc, Nat.and_self]
  have hl : ∀ k, (a / 2 ^ k &&& rst m) < 4370 := fun k => by
    have h1 : a / 2 ^ k &&& rst m ≤ rst m := Nat.and_le_right
    have h2 : rst m ≤ 4369 := rst_le hm
    omega
  have hc : ∀ k, b / 2 ^ (m * k) &&& (2 ^ m - 1) < 2 ^ m := fun k => Nat.lt_of_le_of_lt Nat.and_le_right (Nat.sub_lt (Nat.two_pow_pos _) (by omega))
  have key := fun k => mul_bit m (by omega) _ (hl k) (hA k) _ (hc k)
  refine ⟨jor_lt fun k _ => (key k).1, fun i j hi hj => ?_⟩
  show (jor m (fun k => (a / 2 ^ k &&& rst m) * (b / 2 ^ (m * k) &&& (2 ^ m - 1)))).testBit (m * i + j) = true ↔ _
  rw [jor_tb]
  have e : ∀ k, k < m → (((a / 2 ^ k &&& rst m) * (b / 2 ^ (m * k) &&& (2 ^ m - 1))).testBit (m * i + j) = true ↔ a.testBit (m * i + k) = true ∧ b.testBit (m * k + j) = true) := fun k hk => by
    rw [(key k).2 i hi j hj, Bool.and_eq_true, Nat.testBit_and, Bool.and_eq_true, rst_bit m (by omega) i hi, Nat.testBit_and, Bool.and_eq_true, Nat.testBit_two_pow_sub_one, decide_eq_true hj, Nat.testBit_div_two_pow, Nat.testBit_div_two_pow, Nat.add_comm j (m * k)]
    simp
  constructor
  · rintro ⟨k, hk, h⟩; exact ⟨k, hk, (e k hk).mp h⟩
  · rintro ⟨k, hk, h⟩; exact ⟨k, hk, (e k hk).mpr h⟩
theorem tnum_tb {m x i j : Nat} : tb (tnum m x) i j = true ↔ i < m ∧ j < m ∧ x.testBit (m * i + j) = true := by
  show (if i < m then x / 2 ^ (m * i) &&& (2 ^ m - 1) else 0).testBit j = true ↔ _
  rw [ite_tb, Nat.testBit_and, Bool.and_eq_true, Nat.testBit_two_pow_sub_one, Nat.testBit_div_two_pow, decide_eq_true_eq, Nat.add_comm j (m * i)]
  exact ⟨fun h => ⟨h.1, h.2.2, h.2.1⟩, fun h => ⟨h.1, h.2.2, h.2.1⟩⟩
theorem tnum_mul {m a b : Nat} (hm : m ≤ 4) : tnum m (rpr m a b m) = tmul (tnum m a) (tnum m b) := by
  obtain ⟨h1, h2⟩ := rpr_bit (a := a) (b := b) hm
  refine t_ext rfl (tv_num (by omega)) (tv_mul (tv_num (by omega)) (tv_num (by omega)) rfl) (fun i j => ?_)
  rw [tnum_tb, tmul_tb]
  constructor
  · rintro ⟨hi, hj, h⟩
    obtain ⟨k, hk, h3, h4⟩ := (h2 i j hi hj).mp h
    exact ⟨hi, k, hk, tnum_tb.mpr ⟨hi, hk, h3⟩, tnum_tb.mpr ⟨hk, hj, h4⟩⟩
  · rintro ⟨hi, k, hk, h3, h4⟩
    obtain ⟨a1, a2, a3⟩ := tnum_tb.mp h3
    obtain ⟨b1, b2, b3⟩ := tnum_tb.mp h4
    exact ⟨a1, b2, (h2 i j a1 b2).mpr ⟨k, a2, a3, b3⟩⟩
theorem rsq_n {m x y k : Nat} (hm : m ≤ 4) (h : tnum m y = tpw (tnum m x) k) : tnum m (rsq m y) = tpw (tnum m x) (k + k) := by
  rw [rsq, tnum_mul hm, h, tpw_add (tv_num (by omega))]
theorem rmu_n {m x y k : Nat} (hm : m ≤ 4) (h : tnum m y = tpw (tnum m x) k) : tnum m (rmu m x y) = tpw (tnum m x) (k + 1) := by
  rw [rmu, tnum_mul hm, h]
  rfl
theorem rai_n {m d x : Nat} (hm : m ≤ 4) (hd : 2 ≤ d) (hd8 : d ≤ 8) : tnum m (rai m d x) = tpw (tnum m x) d := by
  have h1 : tnum m x = tpw (tnum m x) 1 := (tpw_1 (tv_num (by omega))).symm
  have h2 := rsq_n hm h1
  have h3 := rmu_n hm h2
  have h4 := rsq_n hm h2
  rcases (show d = 2 ∨ d = 3 ∨ d = 4 ∨ d = 5 ∨ d = 6 ∨ d = 7 ∨ d = 8 by omega) with e | e | e | e | e | e | e <;> subst e
  · exact h2
  · exact h3
  · exact h4
  · exact rmu_n hm h4
  · exact rsq_n hm h3
  · exact rmu_n hm (rsq_n hm h3)
  · exact rsq_n hm h4
theorem rai_l {m d x : Nat} (hm : m ≤ 4) (hd : 2 ≤ d) (hd8 : d ≤ 8) : rai m d x < 2 ^ (m * m) := by
  rcases (show d = 2 ∨ d = 3 ∨ d = 4 ∨ d = 5 ∨ d = 6 ∨ d = 7 ∨ d = 8 by omega) with e | e | e | e | e | e | e <;> subst e <;> exact (rpr_bit hm).1
theorem tno_bit {T : jT} (hT : tv T) : tno T T.1 < 2 ^ (T.1 * T.1) ∧ ∀ i j, i < T.1 → j < T.1 → ((tno T T.1).testBit (T.1 * i + j) = true ↔ tb T i j = true) := by
  refine ⟨jor_lt fun i hi => ?_, fun i j hi hj => ?_⟩
  · have h1 := hT.2.1 i
    have h2 : T.1 * (i + 1) ≤ T.1 * T.1 := Nat.mul_le_mul_left _ hi
    refine Nat.lt_of_lt_of_le (Nat.mul_lt_mul_of_pos_right h1 (Nat.two_pow_pos (T.1 * i))) ?_
    rw [← Nat.pow_add]
    refine Nat.pow_le_pow_right (by omega) ?_
    rw [Nat.mul_succ] at h2
    omega
  · rw [tno, jor_tb]
    constructor
    · rintro ⟨k, hk, h⟩
      rw [Nat.testBit_mul_two_pow, Bool.and_eq_true, decide_eq_true_eq] at h
      obtain ⟨h1, h2⟩ := h
      rcases Nat.lt_trichotomy k i with q | q | q
      · have h3 : T.1 * (k + 1) ≤ T.1 * i := Nat.mul_le_mul_left _ q
        rw [Nat.mul_succ] at h3
        have h4 := tb_hi hT (i := k) (j := T.1 * i + j - T.1 * k) (by omega)
        rw [tb, h2] at h4
        cases h4
      · subst q
        rw [show T.1 * k + j - T.1 * k = j by omega] at h2
        exact h2
      · have h3 : T.1 * (i + 1) ≤ T.1 * k := Nat.mul_le_mul_left _ q
        rw [Nat.mul_succ] at h3
        omega
    · intro h
      refine ⟨i, hi, ?_⟩
      rw [Nat.testBit_mul_two_pow, Bool.and_eq_true, decide_eq_true_eq, show T.1 * i + j - T.1 * i = j by omega]
      exact ⟨Nat.le_add_right _ _, h⟩
/-- a number's table is a root just where its packed power is the table's number -/
theorem isR_rai {T : jT} (hT : tv T) (hm : T.1 ≤ 4) {d x : Nat} (hd : 2 ≤ d) (hd8 : d ≤ 8) : isR T d x = true ↔ rai T.1 d x = tno T T.1 := by
  obtain ⟨t1, t2⟩ := tno_bit hT
  have hp : tpo (tnum T.1 x) (d - 1) = tnum T.1 (rai T.1 d x) := by
    rw [rai_n hm hd hd8, ← tpw_po (tv_num (by omega)), show d - 1 + 1 = d by omega]
  rw [isR, hp, tsam_iff (tv_num (by omega)) hT]
  constructor
  · intro e
    refine num_ext (rai_l hm hd hd8) t1 (fun i j hi hj => ?_)
    rw [t2 i j hi hj, ← e, tnum_tb]
    exact ⟨fun h => ⟨hi, hj, h⟩, fun h => h.2.2⟩
  · intro e
    refine t_ext rfl (tv_num (by omega)) hT (fun i j => ?_)
    rw [tnum_tb, e]
    constructor
    · rintro ⟨hi, hj, h⟩
      exact (t2 i j hi hj).mp h
    · intro h
      obtain ⟨hi, hj⟩ := tb_lt hT h
      exact ⟨hi, hj, (t2 i j hi hj).mpr h⟩
/-- bit by bit within -/
def bsub (a b : Nat) : Prop := ∀ j, a.testBit j = true → b.testBit j = true
theorem rpr_mono {m a b a' b' : Nat} (hm : m ≤ 4) (ha : bsub a a') (hb : bsub b b') : bsub (rpr m a b m) (rpr m a' b' m) := fun p hp => by
  obtain ⟨h1, h2⟩ := rpr_bit (a := a) (b := b) hm
  obtain ⟨-, h3⟩ := rpr_bit (a := a') (b := b') hm
  rcases Nat.lt_or_ge p (m * m) with q | q
  · obtain ⟨i, j, hi, hj, rfl⟩ := idx_ex q
    obtain ⟨k, hk, h4, h5⟩ := (h2 i j hi hj).mp hp
    exact (h3 i j hi hj).mpr ⟨k, hk, ha _ h4, hb _ h5⟩
  · rw [Nat.testBit_lt_two_pow (Nat.lt_of_lt_of_le h1 (Nat.pow_le_pow_right (by omega) q))] at hp
    cases hp
theorem rai_mono {m d x y : Nat} (hm : m ≤ 4) (hd : 2 ≤ d) (hd8 : d ≤ 8) (h : bsub x y) : bsub (rai m d x) (rai m d y) := by
  have s : ∀ {a b : Nat}, bsub a b → bsub (rsq m a) (rsq m b) := fun h => rpr_mono hm h h
  have u : ∀ {a b : Nat}, bsub a b → bsub (rmu m x a) (rmu m y b) := fun h2 => rpr_mono hm h2 h
  rcases (show d = 2 ∨ d = 3 ∨ d = 4 ∨ d = 5 ∨ d = 6 ∨ d = 7 ∨ d = 8 by omega) with e | e | e | e | e | e | e <;> subst e
  · exact s h
  · exact u (s h)
  · exact s (s h)
  · exact u (s (s h))
  · exact s (u (s h))
  · exact u (s (u (s h)))
  · exact s (s (s h))
theorem bsub_eq {a b : Nat} (h1 : bsub a b) (h2 : bsub b a) : a = b := Nat.eq_of_testBit_eq (fun j => beq_of_iff ⟨h1 j, h2 j⟩)
theorem nnd_z31 {a v : Nat} (ha : a < 2 ^ 31) : nnd a v = 0 ↔ bsub a v := by
  have e : ∀ j, (nnd a v).testBit j = true ↔ a.testBit j = true ∧ ¬ v.testBit j = true := fun j => by
    unfold nnd
    rw [Nat.testBit_and, Bool.and_eq_true, Nat.testBit_xor, Nat.testBit_two_pow_sub_one]
    have hj : a.testBit j = true → j < 31 := fun h => by
      rcases Nat.lt_or_ge j 31 with q | q
      · exact q
      · rw [Nat.testBit_lt_two_pow (Nat.lt_of_lt_of_le ha (Nat.pow_le_pow_right (by omega) q))] at h
        cases h
    constructor
    · rintro ⟨h1, h2⟩
      refine ⟨h1, fun h3 => ?_⟩
      rw [decide_eq_true (hj h1), h3] at h2
      cases h2
    · rintro ⟨h1, h2⟩
      refine ⟨h1, ?_⟩
      rw [decide_eq_true (hj h1), show v.testBit j = false by simpa using h2]
      rfl
  constructor
  · intro h j hj
    cases hv : v.testBit j with
    | true => rfl
    | false =>
      have := (e j).mpr ⟨hj, by rw [hv]; decide⟩
      rw [h, Nat.zero_testBit] at this
      cases this
  · intro h
    refine Nat.eq_of_testBit_eq (fun j => beq_of_iff ?_)
    rw [e, Nat.zero_testBit]
    exact ⟨fun q => absurd (h j q.1) q.2, (fun q => by cases q)⟩
/-- f with its o lowest bits open -/
theorem open_or {f o y : Nat} (hf : 2 ^ o ∣ f) (hy : y < 2 ^ o) : f ||| y = f + y := by
  obtain ⟨t, rfl⟩ := hf
  exact (Nat.two_pow_add_eq_or_of_lt hy t).symm
theorem bsub_or {a b : Nat} : bsub a (a ||| b) := fun j h => by rw [Nat.testBit_or, h, Bool.true_or]
theorem bsub_orr {a b c : Nat} (h : bsub b c) : bsub (a ||| b) (a ||| c) := fun j hj => by
  rw [Nat.testBit_or, Bool.or_eq_true] at hj ⊢
  exact hj.elim Or.inl (fun q => Or.inr (h j q))
theorem bsub_all {y o : Nat} (hy : y < 2 ^ o) : bsub y (2 ^ o - 1) := fun j hj => by
  rw [Nat.testBit_two_pow_sub_one]
  rcases Nat.lt_or_ge j o with q | q
  · exact decide_eq_true q
  · rw [Nat.testBit_lt_two_pow (Nat.lt_of_lt_of_le hy (Nat.pow_le_pow_right (by omega) q))] at hj
    cases hj
theorem dvd_open {f o : Nat} (hf : 2 ^ (o + 1) ∣ f) : 2 ^ o ∣ f ∧ f ||| 2 ^ o = f + 2 ^ o ∧ 2 ^ o ∣ f + 2 ^ o := by
  have h1 : 2 ^ o ∣ f := Nat.dvd_trans ⟨2, by rw [Nat.pow_succ]⟩ hf
  exact ⟨h1, open_or hf (by rw [Nat.pow_succ]; have := Nat.two_pow_pos o; omega), Nat.dvd_add h1 (Nat.dvd_refl _)⟩
theorem jsum_split (a b : Nat) (f : Nat → Nat) : jsum (a + b) f = jsum a f + jsum b (fun i => f (a + i)) := by
  induction b with
  | zero => rfl
  | succ b ih =>
    show jsum (a + b) f + f (a + b) = jsum a f + (jsum b (fun i => f (a + i)) + f (a + b))
    rw [ih]
    omega
theorem bnd_g {m d g f o : Nat} (hm : m ≤ 4) (hd : 2 ≤ d) (hd8 : d ≤ 8) (hg : g < 2 ^ 31) (hf : 2 ^ o ∣ f) {y : Nat} (hy : y < 2 ^ o) : bsub (rlo m d f) (rai m d (f + y)) ∧ bsub (rai m d (f + y)) (rhi m d f o) := by
  rw [← open_or hf hy]
  exact ⟨rai_mono hm hd hd8 bsub_or, rai_mono hm hd hd8 (bsub_orr (bsub_all hy))⟩
theorem cond_g {m d g f o : Nat} (hm : m ≤ 4) (hd : 2 ≤ d) (hd8 : d ≤ 8) (hg : g < 2 ^ 31) : (nnd (rlo m d f) g = 0 ∧ nnd g (rhi m d f o) = 0) ↔ bsub (rlo m d f) g ∧ bsub g (rhi m d f o) := by
  rw [nnd_z31 (show rlo m d f < 2 ^ 31 from rai_lt hm), nnd_z31 hg]
/-- how many roots -/
theorem cbl_cnt {m d g : Nat} (hm : m ≤ 4) (hd : 2 ≤ d) (hd8 : d ≤ 8) (hg : g < 2 ^ 31) : ∀ o f, 2 ^ o ∣ f → cbl m d g o f = jsum (2 ^ o) (fun y => if rai m d (f + y) = g then 1 else 0)
  | 0, f, hf => by
    have e : jsum (2 ^ 0) (fun y => if rai m d (f + y) = g then 1 else 0) = 0 + (if rai m d (f + 0) = g then 1 else 0) := rfl
    rw [e, Nat.add_zero, Nat.zero_add]
    unfold cbl
    have h := cond_g (f := f) (o := 0) hm hd hd8 hg
    have e2 : rhi m d f 0 = rai m d f := by
      show rai m d (f ||| (2 ^ 0 - 1)) = rai m d f
      rw [show 2 ^ 0 - 1 = 0 from rfl, Nat.or_zero]
    by_cases c : rai m d f = g
    · rw [if_pos (h.mpr ⟨by rw [rlo, c]; exact fun _ q => q, by rw [e2, c]; exact fun _ q => q⟩), if_pos c]
    · rw [if_neg (fun z => c (by
        have := h.mp z
        rw [e2] at this
        exact bsub_eq this.1 this.2)), if_neg c]
  | o + 1, f, hf => by
    obtain ⟨f1, f2, f3⟩ := dvd_open hf
    have h := cond_g (f := f) (o := o + 1) hm hd hd8 hg
    have hb := fun y (hy : y < 2 ^ (o + 1)) => bnd_g hm hd hd8 hg hf hy
    unfold cbl
    by_cases c : nnd (rlo m d f) g = 0 ∧ nnd g (rhi m d f (o + 1)) = 0
    · rw [if_pos c]
      obtain ⟨c1, c2⟩ := h.mp c
      by_cases e : rlo m d f = rhi m d f (o + 1)
      · rw [if_pos e]
        have : jsum (2 ^ (o + 1)) (fun y => if rai m d (f + y) = g then 1 else 0) = jsum (2 ^ (o + 1)) (fun _ => 1) := jsum_cg _ (fun y hy => by
          obtain ⟨b1, b2⟩ := hb y hy
          rw [← e] at b2 c2
          rw [if_pos]
          rw [bsub_eq b2 b1, bsub_eq c1 c2])
        rw [this, jsum_c, Nat.mul_one]
      · rw [if_neg e, cbl_cnt hm hd hd8 hg o f f1, f2, cbl_cnt hm hd hd8 hg o _ f3, show 2 ^ (o + 1) = 2 ^ o + 2 ^ o by rw [Nat.pow_succ]; omega, jsum_split]
        congr 1
        refine jsum_cg _ (fun y _ => ?_)
        rw [Nat.add_assoc]
    · rw [if_neg c]
      have : jsum (2 ^ (o + 1)) (fun y => if rai m d (f + y) = g then 1 else 0) = jsum (2 ^ (o + 1)) (fun _ => 0) := jsum_cg _ (fun y hy => if_neg (fun z => c (h.mpr (by rw [← z]; exact hb y hy))))
      rw [this, jsum_c, Nat.mul_zero]
/-- the least root -/
theorem lbl_spec {m d g : Nat} (hm : m ≤ 4) (hd : 2 ≤ d) (hd8 : d ≤ 8) (hg : g < 2 ^ 31) : ∀ o f, 2 ^ o ∣ f → (lbl m d g o f = none ∧ ∀ y, y < 2 ^ o → ¬ rai m d (f + y) = g) ∨ ∃ y, y < 2 ^ o ∧ lbl m d g o f = some (f + y) ∧ rai m d (f + y) = g ∧ ∀ z, z < y → ¬ rai m d (f + z) = g
  | 0, f, hf => by
    have h := cond_g (f := f) (o := 0) hm hd hd8 hg
    have e2 : rhi m d f 0 = rai m d f := by
      show rai m d (f ||| (2 ^ 0 - 1)) = rai m d f
      rw [show 2 ^ 0 - 1 = 0 from rfl, Nat.or_zero]
    unfold lbl
    by_cases c : rai m d f = g
    · right
      rw [if_pos (h.mpr ⟨by rw [rlo, c]; exact fun _ q => q, by rw [e2, c]; exact fun _ q => q⟩)]
      exact ⟨0, by decide, rfl, c, fun z hz => absurd hz (Nat.not_lt_zero z)⟩
    · left
      rw [if_neg (fun z => c (by
        have := h.mp z
        rw [e2] at this
        exact bsub_eq this.1 this.2))]
      refine ⟨rfl, fun y hy => ?_⟩
      have : y = 0 := by
        have hy : y < 1 := hy
        omega
      rw [this]
      exact c
  | o + 1, f, hf => by
    obtain ⟨f1, f2, f3⟩ := dvd_open hf
    have h := cond_g (f := f) (o := o + 1) hm hd hd8 hg
    have hb := fun y (hy : y < 2 ^ (o + 1)) => bnd_g hm hd hd8 hg hf hy
    have h2 : 2 ^ (o + 1) = 2 ^ o + 2 ^ o := by rw [Nat.pow_succ]; omega
    unfold lbl
    by_cases c : nnd (rlo m d f) g = 0 ∧ nnd g (rhi m d f (o + 1)) = 0
    · rw [if_pos c]
      by_cases e : rlo m d f = g
      · rw [if_pos e]
        exact Or.inr ⟨0, Nat.two_pow_pos _, rfl, e, fun z hz => absurd hz (Nat.not_lt_zero z)⟩
      · rw [if_neg e]
        rcases lbl_spec hm hd hd8 hg o f f1 with ⟨g1, g2⟩ | ⟨y, g1, g2, g3, g4⟩
        · rw [g1]
          rcases lbl_spec hm hd hd8 hg o (f ||| 2 ^ o) (by rw [f2]; exact f3) with ⟨k1, k2⟩ | ⟨y, k1, k2, k3, k4⟩
          · left
            refine ⟨k1, fun y hy => ?_⟩
            rcases Nat.lt_or_ge y (2 ^ o) with q | q
            · exact g2 y q
            · have := k2 (y - 2 ^ o) (by omega)
              rwa [f2, show f + 2 ^ o + (y - 2 ^ o) = f + y by omega] at this
          · right
            rw [f2] at k2 k3 k4
            refine ⟨2 ^ o + y, by omega, ?_, ?_, fun z hz => ?_⟩
            · rw [← Nat.add_assoc, ← k2, f2]
            · rw [← Nat.add_assoc]; exact k3
            · rcases Nat.lt_or_ge z (2 ^ o) with q | q
              · exact g2 z q
              · have := k4 (z - 2 ^ o) (by omega)
                rwa [show f + 2 ^ o + (z - 2 ^ o) = f + z by omega] at this
        · right
          rw [g2]
          exact ⟨y, by omega, rfl, g3, g4⟩
    · rw [if_neg c]
      left
      exact ⟨rfl, fun y hy z => c (h.mpr (by rw [← z]; exact hb y hy))⟩
theorem rcn_sum (T : jT) (d : Nat) : ∀ k, rcn T d k = jsum k (fun x => if isR T d x = true then 1 else 0)
  | 0 => rfl
  | k + 1 => by
    show rcn T d (k + 1) = jsum k _ + _
    rw [← rcn_sum T d k]
    rfl
/-- roots, both ways -/
theorem roots_eq {T : jT} (hT : tv T) (hm : T.1 ≤ 4) {d : Nat} (hd : 2 ≤ d) (hd8 : d ≤ 8) : cbl T.1 d (tno T T.1) (T.1 * T.1) 0 = rcn T d (2 ^ (T.1 * T.1)) := by
  rw [cbl_cnt hm hd hd8 (tno_lt (tv_w hT) hm _ (Nat.le_refl _)) _ 0 (Nat.dvd_zero _), rcn_sum]
  refine jsum_cg _ (fun x _ => ?_)
  rw [Nat.zero_add]
  have h := isR_rai hT hm (x := x) hd hd8
  by_cases c : rai T.1 d x = tno T T.1
  · rw [if_pos c, if_pos (h.mpr c)]
  · rw [if_neg c, if_neg (fun z => c (h.mp z))]
theorem root_eq {T : jT} (hT : tv T) (hm : T.1 ≤ 4) {d : Nat} (hd : 2 ≤ d) (hd8 : d ≤ 8) : (lbl T.1 d (tno T T.1) (T.1 * T.1) 0 = none ∧ ∀ x, x < 2 ^ (T.1 * T.1) → isR T d x = false) ∨ ∃ x, x < 2 ^ (T.1 * T.1) ∧ lbl T.1 d (tno T T.1) (T.1 * T.1) 0 = some x ∧ isR T d x = true ∧ ∀ z, z < x → isR T d z = false := by
  have h := fun x => isR_rai hT hm (x := x) hd hd8
  rcases lbl_spec hm hd hd8 (tno_lt (tv_w hT) hm _ (Nat.le_refl _)) (T.1 * T.1) 0 (Nat.dvd_zero _) with ⟨g1, g2⟩ | ⟨y, g1, g2, g3, g4⟩
  · refine Or.inl ⟨g1, fun x hx => f_of (h x) ?_⟩
    have := g2 x hx
    rwa [Nat.zero_add] at this
  · rw [Nat.zero_add] at g2 g3
    refine Or.inr ⟨y, g1, g2, (h y).mpr g3, fun z hz => f_of (h z) ?_⟩
    have := g4 z hz
    rwa [Nat.zero_add] at this

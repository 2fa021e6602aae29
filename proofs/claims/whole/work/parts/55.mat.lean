/-- row i, column j -/
def tb (T : jT) (i j : Nat) : Bool := (T.2 i).testBit j
/-- a table whose rows have no bits from n on -/
def tv (T : jT) : Prop := T.1 ≤ 12 ∧ (∀ i, T.2 i < 2 ^ T.1) ∧ ∀ i, T.1 ≤ i → T.2 i = 0
theorem p2_le12 {m : Nat} (h : m ≤ 12) : 2 ^ m ≤ 4096 := Nat.le_trans (Nat.pow_le_pow_right (by omega) h : 2 ^ m ≤ 2 ^ 12) (by decide)
theorem tv_w {T : jT} (h : tv T) : tw T := ⟨h.1, fun i => Nat.lt_of_lt_of_le (h.2.1 i) (p2_le12 h.1), h.2.2⟩
theorem tb_hi {T : jT} (h : tv T) {i j : Nat} (hj : T.1 ≤ j) : tb T i j = false := Nat.testBit_lt_two_pow (Nat.lt_of_lt_of_le (h.2.1 i) (Nat.pow_le_pow_right (by omega) hj))
theorem tb_lo {T : jT} (h : tv T) {i j : Nat} (hi : T.1 ≤ i) : tb T i j = false := by
  show (T.2 i).testBit j = false
  rw [h.2.2 i hi, Nat.zero_testBit]
theorem tb_lt {T : jT} (h : tv T) {i j : Nat} (hb : tb T i j = true) : i < T.1 ∧ j < T.1 := by
  refine ⟨?_, ?_⟩
  · rcases Nat.lt_or_ge i T.1 with q | q
    · exact q
    · rw [tb_lo h q] at hb; cases hb
  · rcases Nat.lt_or_ge j T.1 with q | q
    · exact q
    · rw [tb_hi h q] at hb; cases hb
theorem beq_of_iff {a b : Bool} (h : a = true ↔ b = true) : a = b := by
  cases a <;> cases b <;> simp_all
theorem t_ext {A C : jT} (h : A.1 = C.1) (hA : tv A) (hC : tv C) (hb : ∀ i j, tb A i j = true ↔ tb C i j = true) : A = C := by
  refine Prod.ext h (funext fun i => ?_)
  exact Nat.eq_of_testBit_eq (fun j => beq_of_iff (hb i j))
theorem jor_tb {k j : Nat} {f : Nat → Nat} : (jor k f).testBit j = true ↔ ∃ i, i < k ∧ (f i).testBit j = true := by
  induction k with
  | zero =>
    constructor
    · intro h; simp [jor] at h
    · rintro ⟨i, hi, _⟩; omega
  | succ k ih =>
    show (jor k f ||| f k).testBit j = true ↔ _
    rw [Nat.testBit_or, Bool.or_eq_true, ih]
    constructor
    · rintro (⟨i, hi, h⟩ | h)
      · exact ⟨i, by omega, h⟩
      · exact ⟨k, by omega, h⟩
    · rintro ⟨i, hi, h⟩
      by_cases e : i = k
      · right; rw [← e]; exact h
      · left; exact ⟨i, by omega, h⟩
theorem jall_iff {k : Nat} {f : Nat → Bool} : jall k f = true ↔ ∀ i, i < k → f i = true := by
  induction k with
  | zero => exact ⟨fun _ i hi => absurd hi (Nat.not_lt_zero i), fun _ => rfl⟩
  | succ k ih =>
    show (jall k f && f k) = true ↔ _
    rw [Bool.and_eq_true, ih]
    constructor
    · rintro ⟨h1, h2⟩ i hi
      by_cases e : i = k
      · rw [e]; exact h2
      · exact h1 i (by omega)
    · intro h
      exact ⟨fun i hi => h i (by omega), h k (by omega)⟩
theorem ite_tb {c : Prop} [Decidable c] {a j : Nat} : (if c then a else 0).testBit j = true ↔ c ∧ a.testBit j = true := by
  by_cases h : c
  · rw [if_pos h]; exact ⟨fun q => ⟨h, q⟩, fun q => q.2⟩
  · rw [if_neg h, Nat.zero_testBit]; exact ⟨(fun q => by cases q), fun q => absurd q.1 h⟩
theorem p2_tb {i j : Nat} : (2 ^ i).testBit j = true ↔ i = j := by
  rw [Nat.testBit_two_pow]; simp
theorem jor_lt2 {k m : Nat} {f : Nat → Nat} (h : ∀ i, i < k → f i < 2 ^ m) : jor k f < 2 ^ m := jor_lt h
theorem tmul_tb {A C : jT} {i j : Nat} : tb (tmul A C) i j = true ↔ i < A.1 ∧ ∃ k, k < A.1 ∧ tb A i k = true ∧ tb C k j = true := by
  show (if i < A.1 then trow A C i A.1 else 0).testBit j = true ↔ _
  rw [ite_tb, trow, jor_tb]
  constructor
  · rintro ⟨h1, k, hk, h2⟩
    rw [ite_tb] at h2
    exact ⟨h1, k, hk, h2⟩
  · rintro ⟨h1, k, hk, h2⟩
    exact ⟨h1, k, hk, ite_tb.mpr h2⟩
theorem tunit_tb {m i j : Nat} : tb (tunit m) i j = true ↔ i < m ∧ i = j := by
  show (if i < m then 2 ^ i else 0).testBit j = true ↔ _
  rw [ite_tb, p2_tb]
theorem ttr_tb {A : jT} {i j : Nat} : tb (ttr A) i j = true ↔ i < A.1 ∧ j < A.1 ∧ tb A j i = true := by
  show (if i < A.1 then tcol A i A.1 else 0).testBit j = true ↔ _
  rw [ite_tb, tcol, jor_tb]
  constructor
  · rintro ⟨h1, k, hk, h2⟩
    rw [ite_tb, p2_tb] at h2
    obtain ⟨h3, rfl⟩ := h2
    exact ⟨h1, hk, h3⟩
  · rintro ⟨h1, h2, h3⟩
    exact ⟨h1, j, h2, ite_tb.mpr ⟨h3, p2_tb.mpr rfl⟩⟩
theorem tco_tb {A : jT} (hA : A.1 ≤ 12) {i j : Nat} : tb (tco A) i j = true ↔ i < A.1 ∧ j < A.1 ∧ tb A i j = false := by
  show (if i < A.1 then (2 ^ A.1 - 1) &&& (4095 ^^^ A.2 i) else 0).testBit j = true ↔ _
  rw [ite_tb, Nat.testBit_and, Nat.testBit_two_pow_sub_one, Nat.testBit_xor, show (4095 : Nat) = 2 ^ 12 - 1 from rfl, Nat.testBit_two_pow_sub_one, Bool.and_eq_true, decide_eq_true_eq]
  show i < A.1 ∧ j < A.1 ∧ (decide (j < 12) ^^ tb A i j) = true ↔ _
  constructor
  · rintro ⟨h1, h2, h3⟩
    refine ⟨h1, h2, ?_⟩
    rw [decide_eq_true (show j < 12 by omega)] at h3
    simpa using h3
  · rintro ⟨h1, h2, h3⟩
    refine ⟨h1, h2, ?_⟩
    rw [decide_eq_true (show j < 12 by omega), h3]
    rfl
theorem tadd_tb {A C : jT} (hA : tv A) {i j : Nat} (hi : i < A.1) : tb (tadd A C) i j = true ↔ tb A i j = true ∨ tb C i j = true := by
  show (if i < A.1 then A.2 i ||| C.2 i else A.2 i).testBit j = true ↔ _
  rw [if_pos hi, Nat.testBit_or, Bool.or_eq_true]
  exact Iff.rfl
/-- a table of n rows below 2 ^ n, 0 behind -/
theorem tv_ite {m : Nat} {f : Nat → Nat} (hm : m ≤ 12) (hf : ∀ i, i < m → f i < 2 ^ m) : tv (m, fun i => if i < m then f i else 0) := by
  refine ⟨hm, fun i => ?_, fun i hi => ?_⟩
  · show (if i < m then f i else 0) < 2 ^ m
    split
    · exact hf i (by assumption)
    · exact Nat.two_pow_pos m
  · have hi : m ≤ i := hi
    show (if i < m then f i else 0) = 0
    rw [if_neg (by omega)]
theorem p2_lt2 {i m : Nat} (h : i < m) : 2 ^ i < 2 ^ m := Nat.pow_lt_pow_right (by omega) h
theorem tv_mul {A C : jT} (hA : tv A) (hC : tv C) (h : A.1 = C.1) : tv (tmul A C) := tv_ite hA.1 fun i _ => jor_lt fun k _ => by
  split
  · rw [h]; exact hC.2.1 k
  · exact Nat.two_pow_pos _
theorem tv_unit {m : Nat} (hm : m ≤ 12) : tv (tunit m) := tv_ite hm fun i hi => p2_lt2 hi
theorem tv_zero {m : Nat} (hm : m ≤ 12) : tv (tzero m) := ⟨hm, fun _ => Nat.two_pow_pos m, fun _ _ => rfl⟩
theorem tv_tr {A : jT} (hA : tv A) : tv (ttr A) := tv_ite hA.1 fun i _ => jor_lt fun k hk => by
  split
  · exact p2_lt2 hk
  · exact Nat.two_pow_pos _
theorem tv_co {A : jT} (hA : tv A) : tv (tco A) := tv_ite hA.1 fun i _ => Nat.lt_of_le_of_lt Nat.and_le_left (Nat.sub_lt (Nat.two_pow_pos _) (by omega))
theorem tv_add {A C : jT} (hA : tv A) (hC : tv C) (h : A.1 = C.1) : tv (tadd A C) := by
  refine ⟨hA.1, fun i => ?_, fun i hi => ?_⟩
  · show (if i < A.1 then A.2 i ||| C.2 i else A.2 i) < 2 ^ A.1
    split
    · exact Nat.or_lt_two_pow (hA.2.1 i) (h ▸ hC.2.1 i)
    · exact hA.2.1 i
  · have hi : A.1 ≤ i := hi
    show (if i < A.1 then A.2 i ||| C.2 i else A.2 i) = 0
    rw [if_neg (by omega)]
    exact hA.2.2 i hi
theorem tv_meet {A C : jT} (hA : tv A) : tv (tmeet A C) := by
  refine ⟨hA.1, fun i => ?_, fun i hi => ?_⟩
  · show (if i < A.1 then A.2 i &&& C.2 i else A.2 i) < 2 ^ A.1
    split
    · exact Nat.lt_of_le_of_lt Nat.and_le_left (hA.2.1 i)
    · exact hA.2.1 i
  · have hi : A.1 ≤ i := hi
    show (if i < A.1 then A.2 i &&& C.2 i else A.2 i) = 0
    rw [if_neg (by omega)]
    exact hA.2.2 i hi
theorem tv_po {A : jT} (hA : tv A) : ∀ k, tv (tpo A k)
  | 0 => hA
  | k + 1 => tv_mul (tv_po hA k) hA (tpo_n A k)
theorem tv_rset {T : jT} {i v : Nat} (hT : tv T) (hi : i < T.1) (hv : v < 2 ^ T.1) : tv (trset T i v) := by
  refine ⟨hT.1, fun k => ?_, fun k hk => ?_⟩
  · show (if k = i then v else T.2 k) < 2 ^ T.1
    split
    · exact hv
    · exact hT.2.1 k
  · have hk : T.1 ≤ k := hk
    show (if k = i then v else T.2 k) = 0
    rw [if_neg (by omega)]
    exact hT.2.2 k hk
theorem tv_put {T : jT} {i j v : Nat} (hT : tv T) (hi : i < T.1) (hj : j < T.1) : tv (tput T i j v) := by
  refine tv_rset hT hi ?_
  split
  · exact Nat.or_lt_two_pow (hT.2.1 i) (p2_lt2 hj)
  · exact Nat.lt_of_le_of_lt Nat.and_le_left (hT.2.1 i)
theorem tv_num {m x : Nat} (hm : m ≤ 12) : tv (tnum m x) := tv_ite hm fun i _ => Nat.lt_of_le_of_lt Nat.and_le_right (Nat.sub_lt (Nat.two_pow_pos _) (by omega))
theorem tv_tro {m : Nat} {r : Nat → Nat} (hm : m ≤ 12) (hr : ∀ i, i < m → r i < 2 ^ m) : tv (tro m r) := tv_ite hm hr
theorem tv_mk {m w : Nat} (hm : m ≤ 12) (h41 : ¬ (w = 4 ∧ m = 1)) : tv (tmk m w) := tv_ite hm fun i hi => by
  have h2 : 0 < 2 ^ m := Nat.two_pow_pos m
  have h3 : (i + 1) % m < m := Nat.mod_lt _ (by omega)
  unfold mkr
  split
  · omega
  · split
    · omega
    · split
      · exact p2_lt2 hi
      · refine Nat.or_lt_two_pow (p2_lt2 h3) ?_
        split
        · have : 2 ^ 1 < 2 ^ m := p2_lt2 (by omega)
          omega
        · omega
/-- equal tables -/
theorem jeq_iff {A C : jT} (h : A.1 = C.1) (hA : tv A) (hC : tv C) : jeq A.2 C.2 12 = true ↔ A = C := by
  rw [jeq, jall_iff]
  constructor
  · intro hh
    refine Prod.ext h (funext fun i => ?_)
    rcases Nat.lt_or_ge i 12 with q | q
    · exact beq_iff_eq.mp (hh i q)
    · rw [hA.2.2 i (Nat.le_trans hA.1 q), hC.2.2 i (Nat.le_trans hC.1 q)]
  · intro e i _
    rw [e]
    exact beq_self_eq_true _
theorem tlik_iff {A C : jT} (hA : tv A) (hC : tv C) : tlik A C = true ↔ A = C := by
  rw [tlik, Bool.and_eq_true, beq_iff_eq, jall_iff]
  constructor
  · rintro ⟨h, hh⟩
    refine Prod.ext h (funext fun i => ?_)
    rcases Nat.lt_or_ge i A.1 with q | q
    · exact beq_iff_eq.mp (hh i q)
    · rw [hA.2.2 i q, hC.2.2 i (by omega)]
  · intro e
    rw [e]
    exact ⟨rfl, fun i _ => beq_self_eq_true _⟩
theorem tsam_iff {A C : jT} (hA : tv A) (hC : tv C) : tsam A C 12 = true ↔ A = C := by
  rw [tsam, Bool.and_eq_true, beq_iff_eq]
  constructor
  · rintro ⟨h, hh⟩
    exact (jeq_iff h hA hC).mp hh
  · intro e
    exact ⟨by rw [e], (jeq_iff (by rw [e]) hA hC).mpr e⟩
theorem tlik_sam {A C : jT} (hA : tv A) (hC : tv C) : tlik A C = tsam A C 12 := beq_of_iff ((tlik_iff hA hC).trans (tsam_iff hA hC).symm)
theorem tsam_comm {A C : jT} (hA : tv A) (hC : tv C) : tsam A C 12 = tsam C A 12 := beq_of_iff (((tsam_iff hA hC).trans ⟨Eq.symm, Eq.symm⟩).trans (tsam_iff hC hA).symm)
/-- the product is associative, the unit is one -/
theorem tmul_assoc {A C D : jT} (hA : tv A) (hC : tv C) (hD : tv D) (h1 : A.1 = C.1) (h2 : C.1 = D.1) : tmul (tmul A C) D = tmul A (tmul C D) := by
  refine t_ext rfl (tv_mul (tv_mul hA hC h1) hD (h1.trans h2)) (tv_mul hA (tv_mul hC hD h2) h1) (fun i j => ?_)
  rw [tmul_tb, tmul_tb]
  constructor
  · rintro ⟨hi, k, hk, h3, h4⟩
    obtain ⟨-, l, hl, h5, h6⟩ := tmul_tb.mp h3
    have hk : k < A.1 := hk
    exact ⟨hi, l, hl, h5, tmul_tb.mpr ⟨h1 ▸ hl, k, h1 ▸ hk, h6, h4⟩⟩
  · rintro ⟨hi, k, hk, h3, h4⟩
    obtain ⟨-, l, hl, h5, h6⟩ := tmul_tb.mp h4
    exact ⟨hi, l, show l < A.1 from h1 ▸ hl, tmul_tb.mpr ⟨hi, k, hk, h3, h5⟩, h6⟩
theorem tmul_unit {A : jT} (hA : tv A) : tmul A (tunit A.1) = A := by
  refine t_ext rfl (tv_mul hA (tv_unit hA.1) rfl) hA (fun i j => ?_)
  rw [tmul_tb]
  constructor
  · rintro ⟨hi, k, hk, h3, h4⟩
    obtain ⟨-, rfl⟩ := tunit_tb.mp h4
    exact h3
  · intro h
    obtain ⟨h1, h2⟩ := tb_lt hA h
    exact ⟨h1, j, h2, h, tunit_tb.mpr ⟨h2, rfl⟩⟩
theorem unit_tmul {A : jT} (hA : tv A) : tmul (tunit A.1) A = A := by
  refine t_ext rfl (tv_mul (tv_unit hA.1) hA rfl) hA (fun i j => ?_)
  rw [tmul_tb]
  constructor
  · rintro ⟨hi, k, hk, h3, h4⟩
    obtain ⟨-, rfl⟩ := tunit_tb.mp h3
    exact h4
  · intro h
    obtain ⟨h1, h2⟩ := tb_lt hA h
    exact ⟨h1, i, h1, tunit_tb.mpr ⟨h1, rfl⟩, h⟩
/-- power k, from 0 on -/
def tpw (T : jT) : Nat → jT
  | 0 => tunit T.1
  | k + 1 => tmul (tpw T k) T
theorem tpw_n (T : jT) : ∀ k, (tpw T k).1 = T.1
  | 0 => rfl
  | k + 1 => tpw_n T k
theorem tv_pw {T : jT} (hT : tv T) : ∀ k, tv (tpw T k)
  | 0 => tv_unit hT.1
  | k + 1 => tv_mul (tv_pw hT k) hT (tpw_n T k)
theorem tpw_po {T : jT} (hT : tv T) : ∀ k, tpw T (k + 1) = tpo T k
  | 0 => unit_tmul hT
  | k + 1 => by
    show tmul (tpw T (k + 1)) T = tmul (tpo T k) T
    rw [tpw_po hT k]
theorem tpw_add {T : jT} (hT : tv T) (a : Nat) : ∀ b, tpw T (a + b) = tmul (tpw T a) (tpw T b)
  | 0 => by
    show tpw T a = tmul (tpw T a) (tunit T.1)
    have := tmul_unit (tv_pw hT a)
    rw [tpw_n] at this
    exact this.symm
  | b + 1 => by
    show tmul (tpw T (a + b)) T = tmul (tpw T a) (tmul (tpw T b) T)
    rw [tpw_add hT a b, tmul_assoc (tv_pw hT a) (tv_pw hT b) hT ((tpw_n T a).trans (tpw_n T b).symm) (tpw_n T b)]

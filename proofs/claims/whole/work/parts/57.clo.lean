theorem csI_v {k : Nat} {r : Nat → Nat} : ∀ m z, csI k r m z = if z < m ∧ (r z).testBit k = true then r z ||| r k else r z
  | 0, z => by rw [if_neg (by omega)]; rfl
  | m + 1, z => by
    have ih := csI_v (k := k) (r := r) m
    have hm : csI k r m m = r m := by rw [ih m, if_neg (by omega)]
    have hk : csI k r m k = r k := by
      rw [ih k]
      split
      · exact Nat.or_self _
      · rfl
    show cs1 k m (csI k r m) z = _
    unfold cs1
    rw [hm, hk]
    by_cases e : (r m).testBit k = true
    · rw [if_pos e]
      simp only [jfu]
      by_cases e2 : z = m
      · subst e2
        rw [if_pos rfl, if_pos ⟨by omega, e⟩]
      · rw [if_neg e2, ih z]
        by_cases e3 : z < m ∧ (r z).testBit k = true
        · rw [if_pos e3, if_pos ⟨by omega, e3.2⟩]
        · rw [if_neg e3, if_neg (fun q => e3 ⟨by omega, q.2⟩)]
    · rw [if_neg e, ih z]
      by_cases e3 : z < m ∧ (r z).testBit k = true
      · rw [if_pos e3, if_pos ⟨by omega, e3.2⟩]
      · rw [if_neg e3, if_neg (fun q => by
          by_cases e2 : z = m
          · rw [e2] at q; exact e q.2
          · exact e3 ⟨by omega, q.2⟩)]
theorem csK_b {m : Nat} {r : Nat → Nat} {k z j : Nat} : (csK m r (k + 1) z).testBit j = true ↔ (csK m r k z).testBit j = true ∨ (z < m ∧ (csK m r k z).testBit k = true ∧ (csK m r k k).testBit j = true) := by
  show (csI k (csK m r k) m z).testBit j = true ↔ _
  rw [csI_v]
  by_cases e : z < m ∧ (csK m r k z).testBit k = true
  · rw [if_pos e, Nat.testBit_or, Bool.or_eq_true]
    exact ⟨fun h => h.elim Or.inl (fun h => Or.inr ⟨e.1, e.2, h⟩), fun h => h.elim Or.inl (fun h => Or.inr h.2.2)⟩
  · rw [if_neg e]
    exact ⟨Or.inl, fun h => h.elim id (fun h => absurd ⟨h.1, h.2.1⟩ e)⟩
theorem csK_sound {T : jT} (hT : tv T) : ∀ k z j, (csK T.1 T.2 k z).testBit j = true → ∃ q, Wr (tR T) (q + 1) z j
  | 0, z, j, h => ⟨0, Wr_one h⟩
  | k + 1, z, j, h => by
    rcases csK_b.mp h with h | ⟨hz, h1, h2⟩
    · exact csK_sound hT k z j h
    · obtain ⟨a, h3⟩ := csK_sound hT k z k h1
      obtain ⟨b, h4⟩ := csK_sound hT k k j h2
      refine ⟨a + 1 + b, ?_⟩
      rw [show a + 1 + b + 1 = (a + 1) + (b + 1) by omega]
      exact Wr_add h3 h4
theorem csK_trans {T : jT} (hT : tv T) : ∀ k v, v < k → ∀ i j, (csK T.1 T.2 k i).testBit v = true → (csK T.1 T.2 k v).testBit j = true → (csK T.1 T.2 k i).testBit j = true
  | 0, v, hv, _, _, _, _ => absurd hv (Nat.not_lt_zero v)
  | k + 1, v, hv, i, j, h1, h2 => by
    have ih := csK_trans hT k
    have hi : ∀ z y, (csK T.1 T.2 k z).testBit y = true → z < T.1 := fun z y h => by
      obtain ⟨q, l, h3, -⟩ := csK_sound hT k z y h
      exact (tb_lt hT h3).1
    rw [csK_b] at h1 h2 ⊢
    by_cases e : v = k
    · subst e
      have h1' : (csK T.1 T.2 v i).testBit v = true := h1.elim id (fun h => h.2.1)
      have h2' : (csK T.1 T.2 v v).testBit j = true := h2.elim id (fun h => h.2.2)
      exact Or.inr ⟨hi _ _ h1', h1', h2'⟩
    · have hv : v < k := by omega
      rcases h1 with h1 | ⟨a1, a2, a3⟩
      · rcases h2 with h2 | ⟨b1, b2, b3⟩
        · exact Or.inl (ih v hv i j h1 h2)
        · exact Or.inr ⟨hi _ _ h1, ih v hv i k h1 b2, b3⟩
      · rcases h2 with h2 | ⟨b1, b2, b3⟩
        · exact Or.inr ⟨a1, a2, ih v hv k j a3 h2⟩
        · exact Or.inr ⟨a1, a2, b3⟩
theorem csK_le {m : Nat} {r : Nat → Nat} {z j : Nat} (h : (r z).testBit j = true) : ∀ k, (csK m r k z).testBit j = true
  | 0 => h
  | k + 1 => csK_b.mpr (Or.inl (csK_le h k))
theorem csK_full {T : jT} (hT : tv T) {j : Nat} : ∀ q i, Wr (tR T) (q + 1) i j → (csK T.1 T.2 T.1 i).testBit j = true
  | 0, i, h => by
    obtain ⟨k, h1, h2⟩ := h
    have e : k = j := h2
    rw [← e]
    exact csK_le h1 _
  | q + 1, i, h => by
    obtain ⟨k, h1, h2⟩ := h
    exact csK_trans hT T.1 k (tb_lt hT h1).2 i j (csK_le h1 _) (csK_full hT q k h2)
theorem tclo_W {T : jT} (hT : tv T) {i j : Nat} : tb (tclo T) i j = true ↔ ∃ q, Wr (tR T) (q + 1) i j := by
  show (if i < T.1 then csK T.1 T.2 T.1 i else 0).testBit j = true ↔ _
  rw [ite_tb]
  constructor
  · rintro ⟨-, h⟩
    exact csK_sound hT _ _ _ h
  · rintro ⟨q, h⟩
    have h2 := h
    obtain ⟨k, h1, -⟩ := h2
    exact ⟨(tb_lt hT h1).1, csK_full hT q i h⟩
theorem tv_clo {T : jT} (hT : tv T) : tv (tclo T) := tv_ite hT.1 fun i hi => Nat.lt_pow_two_of_testBit _ (fun j hj => by
  cases hb : (csK T.1 T.2 T.1 i).testBit j with
  | false => rfl
  | true =>
    obtain ⟨q, h⟩ := csK_sound hT _ _ _ hb
    obtain ⟨k, -, h2⟩ := Wr_last h
    have := (tb_lt hT h2).2
    omega)
/-- the sum of the first powers -/
def tsum (T : jT) : Nat → jT
  | 0 => tzero T.1
  | k + 1 => tadd (tsum T k) (tpo T k)
theorem tsum_n (T : jT) : ∀ k, (tsum T k).1 = T.1
  | 0 => rfl
  | k + 1 => tsum_n T k
theorem tv_sum {T : jT} (hT : tv T) : ∀ k, tv (tsum T k)
  | 0 => tv_zero hT.1
  | k + 1 => tv_add (tv_sum hT k) (tv_po hT k) ((tsum_n T k).trans (tpo_n T k).symm)
theorem tsum_W {T : jT} (hT : tv T) {i j : Nat} : ∀ k, tb (tsum T k) i j = true ↔ ∃ q, q < k ∧ Wr (tR T) (q + 1) i j
  | 0 => by
    constructor
    · intro h
      have h : (0 : Nat).testBit j = true := h
      simp at h
    · rintro ⟨q, hq, -⟩; omega
  | k + 1 => by
    rcases Nat.lt_or_ge i T.1 with hi | hi
    · show tb (tadd (tsum T k) (tpo T k)) i j = true ↔ _
      rw [tadd_tb (tv_sum hT k) (by rw [tsum_n]; exact hi), tsum_W hT k, tpo_W hT]
      constructor
      · rintro (⟨q, hq, h⟩ | h)
        · exact ⟨q, by omega, h⟩
        · exact ⟨k, by omega, h⟩
      · rintro ⟨q, hq, h⟩
        by_cases e : q = k
        · right; rw [← e]; exact h
        · left; exact ⟨q, by omega, h⟩
    · constructor
      · intro h
        have := (tb_lt (tv_sum hT (k + 1)) h).1
        rw [tsum_n] at this
        omega
      · rintro ⟨q, -, l, h, -⟩
        have := (tb_lt hT h).1
        omega
theorem tsum_clo {T : jT} (hT : tv T) : tsum T T.1 = tclo T := t_ext (tsum_n T T.1) (tv_sum hT _) (tv_clo hT) (fun i j => by
  rw [tsum_W hT, tclo_W hT]
  constructor
  · rintro ⟨q, -, h⟩; exact ⟨q, h⟩
  · rintro ⟨q, k, h1, h2⟩
    obtain ⟨m, h3, h4⟩ := rch_short hT (tb_lt hT h1).2 ⟨q, h2⟩
    exact ⟨m, h3, k, h1, h4⟩)
/-- the reference's closure -/
theorem clS_v {t a : Nat} {P : jP} (h1 : a ≠ t) (h2 : a ≠ 36) (h3 : a ≠ 37) (ht : t ≠ 36) (ht2 : t ≠ 37) : ∀ k, jit (clS t a) k (clO t a P) t = tsum (P a) k ∧ jit (clS t a) k (clO t a P) 36 = tpo (P a) k ∧ jit (clS t a) k (clO t a P) a = P a
  | 0 => by
    refine ⟨?_, ?_, ?_⟩
    · show clO t a P t = _
      simp only [clO]
      rw [jset_ne ht, jset_eq]
      rfl
    · show clO t a P 36 = _
      simp only [clO]
      rw [jset_eq, jset_ne h1]
      rfl
    · show clO t a P a = _
      simp only [clO]
      rw [jset_ne h2, jset_ne h1]
  | k + 1 => by
    obtain ⟨i1, i2, i3⟩ := clS_v (P := P) h1 h2 h3 ht ht2 k
    show clS t a (jit (clS t a) k (clO t a P)) t = _ ∧ clS t a (jit (clS t a) k (clO t a P)) 36 = _ ∧ clS t a (jit (clS t a) k (clO t a P)) a = _
    generalize jit (clS t a) k (clO t a P) = Q at i1 i2 i3 ⊢
    refine ⟨?_, ?_, ?_⟩
    · simp only [clS]
      rw [jset_ne ht, jset_ne ht2, jset_eq, i1, i2]
      rfl
    · simp only [clS]
      rw [jset_eq, jset_eq, jset_ne (show (36 : Nat) ≠ t from Ne.symm ht), jset_ne h1, i2, i3]
      rfl
    · rw [clS_a h1 h2 h3]
      exact i3
theorem clS_clo {t a : Nat} {P : jP} (h1 : a ≠ t) (h2 : a ≠ 36) (h3 : a ≠ 37) (ht : t ≠ 36) (ht2 : t ≠ 37) (hv : tv (P a)) : jit (clS t a) (P a).1 (clO t a P) t = tclo (P a) := by
  rw [(clS_v h1 h2 h3 ht ht2 _).1, tsum_clo hv]
/-- the reference's power -/
theorem pwL_v {T : jT} (hT : tv T) {t : Nat} (ht : t ≠ 36) (ht2 : t ≠ 37) : ∀ f left (P : jP) r s, left < 2 ^ f → P t = tpw T r → P 36 = tpw T s → pwL f t left P t = tpw T (r + s * left)
  | 0, left, P, r, s, hl, h1, h2 => by
    have hl : left = 0 := by simp at hl; exact hl
    subst hl
    exact h1
  | f + 1, left, P, r, s, hl, h1, h2 => by
    unfold pwL
    by_cases e : left = 0
    · rw [if_pos e, e, Nat.mul_zero, Nat.add_zero]
      exact h1
    · rw [if_neg e]
      have hl2 : left / 2 < 2 ^ f := by rw [Nat.pow_succ] at hl; omega
      have key : pwS t left P t = tpw T (r + s * (left % 2)) ∧ pwS t left P 36 = tpw T (s + s) := by
        simp only [pwS]
        rw [jset_ne ht, jset_ne ht2, jset_eq, jset_eq]
        by_cases o : left % 2 = 1
        · rw [if_pos o, jset_eq, jset_eq, jset_ne (Ne.symm ht), jset_ne (show (36 : Nat) ≠ 37 by decide), o, Nat.mul_one, tpw_add hT, tpw_add hT, h1, h2]
          exact ⟨rfl, rfl⟩
        · have o : left % 2 = 0 := by omega
          rw [if_neg (by omega), o, Nat.mul_zero, Nat.add_zero, h1, h2, tpw_add hT]
          exact ⟨rfl, rfl⟩
      rw [pwL_v hT ht ht2 f (left / 2) _ _ _ hl2 key.1 key.2]
      congr 1
      have e2 : left = 2 * (left / 2) + left % 2 := by omega
      generalize left / 2 = u at e2 ⊢
      generalize left % 2 = v at e2 ⊢
      subst e2
      rw [Nat.mul_add, Nat.add_mul, ← Nat.mul_assoc, Nat.mul_comm s 2, Nat.two_mul, Nat.add_mul]
      omega
theorem tpw_1 {T : jT} (hT : tv T) : tpw T 1 = T := unit_tmul hT
theorem pwL_pw {t a k : Nat} {P : jP} (hv : tv (P a)) (h1 : a ≠ t) (h2 : a ≠ 36) (ht : t ≠ 36) (ht2 : t ≠ 37) (hk : k < 2 ^ 20) : pwL 20 t k (jset (jset P t (tunit (P a).1)) 36 (jset P t (tunit (P a).1) a)) t = tpw (P a) k := by
  rw [pwL_v hv ht ht2 20 k _ 0 1 hk (by rw [jset_ne ht, jset_eq]; rfl) (by rw [jset_eq, jset_ne h1, tpw_1 hv]), Nat.zero_add, Nat.one_mul]
theorem wq_pw {T : jT} (hT : tv T) : ∀ b, wq T b = tpw T (2 ^ b)
  | 0 => (tpw_1 hT).symm
  | b + 1 => by
    show tmul (wq T b) (wq T b) = _
    rw [wq_pw hT b, ← tpw_add hT, Nat.pow_succ, Nat.mul_two]
theorem tmk_2 (m : Nat) : tmk m 2 = tunit m := rfl
theorem rq_pw {T : jT} (hT : tv T) (k : Nat) : ∀ b, rq T k b = tpw T (k % 2 ^ b)
  | 0 => by
    show tmk T.1 2 = _
    rw [tmk_2, Nat.pow_zero, Nat.mod_one]
    rfl
  | b + 1 => by
    have h := Nat.testBit_eq_decide_div_mod_eq (x := k) (i := b)
    unfold rq
    rw [rq_pw hT k b, wq_pw hT b, Nat.mod_pow_succ]
    by_cases e : k / 2 ^ b % 2 = 1
    · rw [if_pos (by rw [h]; exact decide_eq_true e), e, Nat.mul_one, tpw_add hT]
    · rw [if_neg (by rw [h, decide_eq_false e]; decide), show k / 2 ^ b % 2 = 0 by omega, Nat.mul_zero, Nat.add_zero]
theorem rq_20 {T : jT} (hT : tv T) {k : Nat} (hk : k < 2 ^ 20) : rq T k 20 = tpw T k := by
  rw [rq_pw hT, Nat.mod_eq_of_lt hk]

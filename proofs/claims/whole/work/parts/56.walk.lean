/-- walks of a length along a relation -/
def Wr (R : Nat → Nat → Prop) : Nat → Nat → Nat → Prop
  | 0, i, j => i = j
  | m + 1, i, j => ∃ k, R i k ∧ Wr R m k j
theorem Wr_add {R : Nat → Nat → Prop} {k j : Nat} : ∀ {a i b : Nat}, Wr R a i k → Wr R b k j → Wr R (a + b) i j
  | 0, i, b, h, h2 => by
    have e : i = k := h
    rw [e, Nat.zero_add]
    exact h2
  | a + 1, i, b, h, h2 => by
    obtain ⟨l, h3, h4⟩ := h
    rw [show a + 1 + b = (a + b) + 1 by omega]
    exact ⟨l, h3, Wr_add h4 h2⟩
theorem Wr_split {R : Nat → Nat → Prop} {j : Nat} : ∀ {a i b : Nat}, Wr R (a + b) i j → ∃ k, Wr R a i k ∧ Wr R b k j
  | 0, i, b, h => ⟨i, rfl, by rw [Nat.zero_add] at h; exact h⟩
  | a + 1, i, b, h => by
    rw [show a + 1 + b = (a + b) + 1 by omega] at h
    obtain ⟨l, h3, h4⟩ := h
    obtain ⟨k, h5, h6⟩ := Wr_split h4
    exact ⟨k, ⟨l, h3, h5⟩, h6⟩
theorem Wr_one {R : Nat → Nat → Prop} {i j : Nat} (h : R i j) : Wr R 1 i j := ⟨j, h, rfl⟩
theorem Wr_snoc {R : Nat → Nat → Prop} {m i k j : Nat} (h : Wr R m i k) (h2 : R k j) : Wr R (m + 1) i j := Wr_add h (Wr_one h2)
theorem Wr_last {R : Nat → Nat → Prop} {m i j : Nat} (h : Wr R (m + 1) i j) : ∃ k, Wr R m i k ∧ R k j := by
  obtain ⟨k, h1, l, h2, h3⟩ := Wr_split h
  have e : l = j := h3
  exact ⟨k, h1, e ▸ h2⟩
theorem Wr_path {R : Nat → Nat → Prop} {j : Nat} : ∀ {m i : Nat}, Wr R m i j → ∃ v : Nat → Nat, v 0 = i ∧ v m = j ∧ ∀ t, t < m → R (v t) (v (t + 1))
  | 0, i, h => ⟨fun _ => i, rfl, h, fun t ht => absurd ht (Nat.not_lt_zero t)⟩
  | m + 1, i, h => by
    obtain ⟨k, h1, h2⟩ := h
    obtain ⟨v, v0, vm, hv⟩ := Wr_path h2
    refine ⟨fun t => if t = 0 then i else v (t - 1), rfl, ?_, fun t ht => ?_⟩
    · show (if m + 1 = 0 then i else v (m + 1 - 1)) = j
      rw [if_neg (by omega), Nat.add_sub_cancel, vm]
    · show R (if t = 0 then i else v (t - 1)) (if t + 1 = 0 then i else v (t + 1 - 1))
      rw [if_neg (show ¬ t + 1 = 0 by omega), Nat.add_sub_cancel]
      by_cases e : t = 0
      · rw [if_pos e, e, v0]
        exact h1
      · rw [if_neg e]
        have := hv (t - 1) (by omega)
        rwa [show t - 1 + 1 = t by omega] at this
theorem path_Wr {R : Nat → Nat → Prop} {v : Nat → Nat} {a : Nat} : ∀ d, (∀ t, a ≤ t → t < a + d → R (v t) (v (t + 1))) → Wr R d (v a) (v (a + d))
  | 0, _ => rfl
  | d + 1, h => Wr_snoc (path_Wr d (fun t h1 h2 => h t h1 (by omega))) (h (a + d) (by omega) (by omega))
theorem Wr_mono {R R' : Nat → Nat → Prop} (h : ∀ i k, R i k → R' i k) {j : Nat} : ∀ {m i : Nat}, Wr R m i j → Wr R' m i j
  | 0, _, q => q
  | m + 1, _, ⟨k, h1, h2⟩ => ⟨k, h _ _ h1, Wr_mono h h2⟩
/-- where N + 1 things have N places, two have the same -/
theorem pigeon : ∀ (N : Nat) (f : Nat → Nat), (∀ t, t ≤ N → f t < N) → ∃ s t, s < t ∧ t ≤ N ∧ f s = f t
  | 0, f, h => absurd (h 0 (Nat.le_refl _)) (Nat.not_lt_zero _)
  | N + 1, f, h => by
    by_cases hx : ∃ s, s < N + 1 ∧ f s = f (N + 1)
    · obtain ⟨s, hs, e⟩ := hx
      exact ⟨s, N + 1, hs, Nat.le_refl _, e⟩
    · have hne : ∀ s, s < N + 1 → f s ≠ f (N + 1) := fun s hs e => hx ⟨s, hs, e⟩
      have hl := h (N + 1) (Nat.le_refl _)
      obtain ⟨s, t, h1, h2, h3⟩ := pigeon N (fun t => if f t = N then f (N + 1) else f t) (fun t ht => by
        show (if f t = N then f (N + 1) else f t) < N
        have h4 := h t (by omega)
        have h5 := hne t (by omega)
        split <;> omega)
      refine ⟨s, t, h1, by omega, ?_⟩
      have h6 := hne s (by omega)
      have h7 := hne t (by omega)
      have h3 : (if f s = N then f (N + 1) else f s) = (if f t = N then f (N + 1) else f t) := h3
      split at h3 <;> split at h3 <;> omega
/-- a walk keeps its length's rest by c, and becomes shorter than n c -/
theorem Wr_short {R : Nat → Nat → Prop} {n c : Nat} (hc : 0 < c) (hR : ∀ i k, R i k → i < n ∧ k < n) {i u : Nat} (hi : i < n) : ∀ (b a : Nat), a ≤ b → Wr R a i u → ∃ a', a' < n * c ∧ a' ≤ a ∧ a' % c = a % c ∧ Wr R a' i u := by
  intro b
  induction b with
  | zero =>
    intro a ha h
    have ha : a = 0 := by omega
    subst ha
    exact ⟨0, Nat.mul_pos (by omega) hc, Nat.le_refl _, rfl, h⟩
  | succ b ih =>
    intro a ha h
    rcases Nat.lt_or_ge a (n * c) with q | q
    · exact ⟨a, q, Nat.le_refl _, rfl, h⟩
    · obtain ⟨v, v0, vm, hv⟩ := Wr_path h
      have hvn : ∀ t, t ≤ a → v t < n := fun t ht => by
        rcases Nat.eq_zero_or_pos t with e | e
        · rw [e, v0]; exact hi
        · have := (hR _ _ (hv (t - 1) (by omega))).2
          rwa [show t - 1 + 1 = t by omega] at this
      obtain ⟨s, t, h1, h2, h3⟩ := pigeon (n * c) (fun t => v t * c + t % c) (fun t ht => by
        have h4 := hvn t (by omega)
        have h5 := Nat.mod_lt t hc
        have h6 : (v t + 1) * c ≤ n * c := Nat.mul_le_mul_right c h4
        rw [Nat.succ_mul] at h6
        show v t * c + t % c < n * c
        omega)
      have h3 : v s * c + s % c = v t * c + t % c := h3
      have h4 : s % c = t % c := by
        have := congrArg (· % c) h3
        simpa [Nat.add_mod, Nat.mul_mod_left] using this
      have h5 : v s = v t := by
        rw [h4] at h3
        exact Nat.eq_of_mul_eq_mul_right hc (Nat.add_right_cancel h3)
      have w1 : Wr R s i (v s) := by
        have := path_Wr (R := R) (v := v) (a := 0) s (fun t _ ht => hv t (by omega))
        rwa [Nat.zero_add, v0] at this
      have w2 : Wr R (a - t) (v t) u := by
        have := path_Wr (R := R) (v := v) (a := t) (a - t) (fun z _ hz => hv z (by omega))
        rwa [show t + (a - t) = a by omega, vm] at this
      rw [h5] at w1
      have w3 := Wr_add w1 w2
      obtain ⟨a', g1, g2, g3, g4⟩ := ih (s + (a - t)) (by omega) w3
      refine ⟨a', g1, by omega, ?_, g4⟩
      rw [g3]
      have e : a = (s + (a - t)) + (t - s) := by omega
      have e2 : (t - s) % c = 0 := by
        have := Nat.sub_mod_eq_zero_of_mod_eq h4.symm
        exact this
      conv => rhs; rw [e, Nat.add_mod, e2, Nat.add_zero, Nat.mod_mod]
/-- among n members a walk of n steps or more meets one twice -/
theorem Wr_twice {R : Nat → Nat → Prop} {n m i j : Nat} (hR : ∀ i k, R i k → i < n ∧ k < n) (hi : i < n) (hm : n ≤ m) (h : Wr R m i j) : ∃ v a b d, 0 < b ∧ b ≤ n ∧ a + b + d = m ∧ v < n ∧ Wr R a i v ∧ Wr R b v v ∧ Wr R d v j := by
  obtain ⟨v, v0, vm, hv⟩ := Wr_path h
  have hvn : ∀ t, t ≤ m → v t < n := fun t ht => by
    rcases Nat.eq_zero_or_pos t with e | e
    · rw [e, v0]; exact hi
    · have := (hR _ _ (hv (t - 1) (by omega))).2
      rwa [show t - 1 + 1 = t by omega] at this
  obtain ⟨s, t, h1, h2, h3⟩ := pigeon n v (fun t ht => hvn t (by omega))
  refine ⟨v s, s, t - s, m - t, by omega, by omega, by omega, hvn s (by omega), ?_, ?_, ?_⟩
  · have := path_Wr (R := R) (v := v) (a := 0) s (fun t _ ht => hv t (by omega))
    rwa [Nat.zero_add, v0] at this
  · have := path_Wr (R := R) (v := v) (a := s) (t - s) (fun z _ hz => hv z (by omega))
    rwa [show s + (t - s) = t by omega, ← h3] at this
  · have := path_Wr (R := R) (v := v) (a := t) (m - t) (fun z _ hz => hv z (by omega))
    rwa [show t + (m - t) = m by omega, vm, ← h3] at this
theorem Wr_lt {R : Nat → Nat → Prop} {n : Nat} (hR : ∀ i k, R i k → i < n ∧ k < n) {m i j : Nat} (hi : i < n) (h : Wr R m i j) : j < n := by
  cases m with
  | zero =>
    have e : i = j := h
    rw [← e]; exact hi
  | succ m =>
    obtain ⟨k, -, h2⟩ := Wr_last h
    exact (hR _ _ h2).2
theorem Wr_loop {R : Nat → Nat → Prop} {c u : Nat} (h : Wr R c u u) : ∀ t, Wr R (t * c) u u
  | 0 => by rw [Nat.zero_mul]; rfl
  | t + 1 => by rw [Nat.succ_mul]; exact Wr_add (Wr_loop h t) h
/-- the table's walks -/
abbrev tR (T : jT) : Nat → Nat → Prop := fun i k => tb T i k = true
theorem tR_n {T : jT} (hT : tv T) : ∀ i k, tR T i k → i < T.1 ∧ k < T.1 := fun _ _ h => tb_lt hT h
theorem tpo_W {T : jT} (hT : tv T) : ∀ m i j, tb (tpo T m) i j = true ↔ Wr (tR T) (m + 1) i j
  | 0, i, j => ⟨fun h => Wr_one h, fun h => by
      obtain ⟨k, h1, h2⟩ := h
      have e : k = j := h2
      rw [← e]; exact h1⟩
  | m + 1, i, j => by
    show tb (tmul (tpo T m) T) i j = true ↔ _
    rw [tmul_tb]
    constructor
    · rintro ⟨hi, k, hk, h1, h2⟩
      exact Wr_snoc ((tpo_W hT m i k).mp h1) h2
    · intro h
      obtain ⟨k, h1, h2⟩ := Wr_last h
      have h3 := (tpo_W hT m i k).mpr h1
      have h4 := tb_lt (tv_po hT m) h3
      exact ⟨h4.1, k, h4.2, h3, h2⟩
theorem tpw_W {T : jT} (hT : tv T) {m i j : Nat} (hi : i < T.1) : tb (tpw T m) i j = true ↔ Wr (tR T) m i j := by
  cases m with
  | zero =>
    show tb (tunit T.1) i j = true ↔ i = j
    rw [tunit_tb]
    exact ⟨fun h => h.2, fun h => ⟨hi, h⟩⟩
  | succ m =>
    rw [tpw_po hT m]
    exact tpo_W hT m i j
/-- the reference's walks -/
theorem wk_W {T : jT} (hT : tv T) : ∀ m i j, (wk T m i).testBit j = true ↔ Wr (tR T) m i j
  | 0, i, j => p2_tb
  | m + 1, i, j => by
    show (jor T.1 (fun k => if (T.2 i).testBit k then wk T m k else 0)).testBit j = true ↔ _
    rw [jor_tb]
    constructor
    · rintro ⟨k, hk, h⟩
      rw [ite_tb] at h
      exact ⟨k, h.1, (wk_W hT m k j).mp h.2⟩
    · rintro ⟨k, h1, h2⟩
      exact ⟨k, (tb_lt hT h1).2, ite_tb.mpr ⟨h1, (wk_W hT m k j).mpr h2⟩⟩
theorem rc_W {T : jT} (hT : tv T) (i j : Nat) : ∀ m, (rc T m i).testBit j = true ↔ ∃ q, q ≤ m ∧ Wr (tR T) q i j
  | 0 => by
    show (2 ^ i).testBit j = true ↔ _
    rw [p2_tb]
    constructor
    · intro h; exact ⟨0, Nat.le_refl _, h⟩
    · rintro ⟨q, hq, h⟩
      have : q = 0 := by omega
      subst this
      exact h
  | m + 1 => by
    show (rc T m i ||| wk T (m + 1) i).testBit j = true ↔ _
    rw [Nat.testBit_or, Bool.or_eq_true, rc_W hT i j m, wk_W hT]
    constructor
    · rintro (⟨q, hq, h⟩ | h)
      · exact ⟨q, by omega, h⟩
      · exact ⟨m + 1, Nat.le_refl _, h⟩
    · rintro ⟨q, hq, h⟩
      by_cases e : q = m + 1
      · right; rw [← e]; exact h
      · left; exact ⟨q, by omega, h⟩
/-- j can be reached from i -/
def Rch (T : jT) (i j : Nat) : Prop := ∃ m, Wr (tR T) m i j
theorem rch_short {T : jT} (hT : tv T) {i j : Nat} (hi : i < T.1) (h : Rch T i j) : ∃ m, m < T.1 ∧ Wr (tR T) m i j := by
  obtain ⟨m, h⟩ := h
  obtain ⟨a, h1, -, -, h2⟩ := Wr_short (c := 1) (by omega) (tR_n hT) hi m m (Nat.le_refl _) h
  exact ⟨a, by omega, h2⟩
theorem rc_rch {T : jT} (hT : tv T) {i j : Nat} (hi : i < T.1) : (rc T T.1 i).testBit j = true ↔ Rch T i j := by
  rw [rc_W hT]
  constructor
  · rintro ⟨q, -, h⟩; exact ⟨q, h⟩
  · intro h
    obtain ⟨m, h1, h2⟩ := rch_short hT hi h
    exact ⟨m, by omega, h2⟩
theorem rch_refl {T : jT} (i : Nat) : Rch T i i := ⟨0, rfl⟩
theorem rch_trans {T : jT} {i j k : Nat} (h1 : Rch T i j) (h2 : Rch T j k) : Rch T i k := by
  obtain ⟨a, h1⟩ := h1
  obtain ⟨b, h2⟩ := h2
  exact ⟨a + b, Wr_add h1 h2⟩
theorem rch_lt {T : jT} (hT : tv T) {i j : Nat} (hi : i < T.1) (h : Rch T i j) : j < T.1 := by
  obtain ⟨m, h⟩ := h
  exact Wr_lt (tR_n hT) hi h

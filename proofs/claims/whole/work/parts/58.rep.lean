theorem least_of {p : Nat → Prop} : ∀ (b c : Nat), c ≤ b → p c → ∃ m, m ≤ c ∧ p m ∧ ∀ d, d < m → ¬ p d
  | 0, c, hc, h => ⟨c, Nat.le_refl _, h, fun d hd => by omega⟩
  | b + 1, c, hc, h => by
    by_cases hx : ∃ d, d < c ∧ p d
    · obtain ⟨d, hd, hp⟩ := hx
      obtain ⟨m, h1, h2, h3⟩ := least_of b d (by omega) hp
      exact ⟨m, by omega, h2, h3⟩
    · exact ⟨c, Nat.le_refl _, h, fun d hd hp => hx ⟨d, hd, hp⟩⟩
/-- in the class of v there is a way round of c steps -/
def Gp (T : jT) (v c : Nat) : Prop := 0 < c ∧ ∃ u, Rch T v u ∧ Rch T u v ∧ Wr (tR T) c u u
/-- c is the girth of the class of v -/
def Gi1 (T : jT) (v c : Nat) : Prop := Gp T v c ∧ ∀ d, d < c → ¬ Gp T v d
theorem Gp_eq {T : jT} {v w c : Nat} (h1 : Rch T v w) (h2 : Rch T w v) (h : Gp T v c) : Gp T w c := by
  obtain ⟨h0, u, h3, h4, h5⟩ := h
  exact ⟨h0, u, rch_trans h2 h3, rch_trans h4 h1, h5⟩
theorem Gi1_eq {T : jT} {v w c : Nat} (h1 : Rch T v w) (h2 : Rch T w v) (h : Gi1 T v c) : Gi1 T w c := ⟨Gp_eq h1 h2 h.1, fun d hd hq => h.2 d hd (Gp_eq h2 h1 hq)⟩
theorem Gi1_un {T : jT} {v c d : Nat} (h1 : Gi1 T v c) (h2 : Gi1 T v d) : c = d := by
  rcases Nat.lt_trichotomy c d with h | h | h
  · exact absurd h1.1 (h2.2 c h)
  · exact h
  · exact absurd h2.1 (h1.2 d h)
/-- long walks come again with every length of the same rest -/
theorem Wr_again {T : jT} (hT : tv T) {k i j : Nat} (hk : T.1 ≤ k) (hi : i < T.1) (h : Wr (tR T) k i j) : ∃ c v, v < T.1 ∧ Gi1 T v c ∧ c ≤ T.1 ∧ ∀ m, 2 * (T.1 * c) ≤ m + 2 → m % c = k % c → Wr (tR T) m i j := by
  obtain ⟨v, a, b, d, hb0, hbn, habd, hv, w1, w2, w3⟩ := Wr_twice (tR_n hT) hi hk h
  obtain ⟨c, hcb, hc, hmin⟩ := least_of (p := Gp T v) b b (Nat.le_refl _) ⟨hb0, v, rch_refl v, rch_refl v, w2⟩
  obtain ⟨hc0, u, ⟨x, wx⟩, ⟨y, wy⟩, wc⟩ := id hc
  refine ⟨c, v, hv, ⟨hc, hmin⟩, by omega, fun m hm hmk => ?_⟩
  have hu : u < T.1 := Wr_lt (tR_n hT) hv wx
  have wA : Wr (tR T) (a + b + ((c - 1) * (x + y)) + x) i u := Wr_add (Wr_add (Wr_add w1 w2) (Wr_loop (Wr_add wx wy) (c - 1))) wx
  have wB : Wr (tR T) (y + d) u j := Wr_add wy w3
  obtain ⟨A, hA1, -, hA2, hA3⟩ := Wr_short hc0 (tR_n hT) hi _ _ (Nat.le_refl _) wA
  obtain ⟨B, hB1, -, hB2, hB3⟩ := Wr_short hc0 (tR_n hT) hu _ _ (Nat.le_refl _) wB
  have hsum : a + b + ((c - 1) * (x + y)) + x + (y + d) = k + c * (x + y) := by
    have e : c = (c - 1) + 1 := by omega
    have e2 : c * (x + y) = (c - 1) * (x + y) + (x + y) := by
      conv => lhs; rw [e, Nat.succ_mul]
    omega
  have hAB : (A + B) % c = m % c := by
    rw [Nat.add_mod, hA2, hB2, ← Nat.add_mod, hsum, hmk, Nat.add_mul_mod_self_left]
  have hle : A + B ≤ m := by
    generalize T.1 * c = z at hA1 hB1 hm
    omega
  have hz : (m - (A + B)) % c = 0 := Nat.sub_mod_eq_zero_of_mod_eq hAB.symm
  have hw : Wr (tR T) (A + ((m - (A + B)) / c) * c + B) i j := Wr_add (Wr_add hA3 (Wr_loop wc _)) hB3
  have e : ((m - (A + B)) / c) * c = m - (A + B) := Nat.div_mul_cancel (Nat.dvd_of_mod_eq_zero hz)
  rwa [e, show A + (m - (A + B)) + B = m by omega] at hw
/-- counting -/
theorem jsum_le {k : Nat} {f g : Nat → Nat} (h : ∀ i, i < k → f i ≤ g i) : jsum k f ≤ jsum k g := by
  induction k with
  | zero => exact Nat.le_refl _
  | succ k ih =>
    have := ih (fun i hi => h i (by omega))
    have := h k (by omega)
    simp only [jsum]
    omega
theorem jsum_c (k c : Nat) : jsum k (fun _ => c) = k * c := by
  induction k with
  | zero => simp [jsum]
  | succ k ih => simp only [jsum, ih, Nat.succ_mul]
theorem jsum_add (k : Nat) (f g : Nat → Nat) : jsum k (fun i => f i + g i) = jsum k f + jsum k g := by
  induction k with
  | zero => rfl
  | succ k ih =>
    simp only [jsum, ih]
    omega
theorem jsum_comm (a b : Nat) (f : Nat → Nat → Nat) : jsum a (fun i => jsum b (f i)) = jsum b (fun j => jsum a (fun i => f i j)) := by
  induction a with
  | zero =>
    have : jsum b (fun _ => 0) = 0 := by rw [jsum_c, Nat.mul_zero]
    exact this.symm
  | succ a ih =>
    simp only [jsum, ih]
    rw [← jsum_add]
theorem jsum_one {k : Nat} {f : Nat → Nat} (h1 : ∀ i, i < k → f i ≤ 1) (h2 : ∀ i j, i < k → j < k → 0 < f i → 0 < f j → i = j) : jsum k f ≤ 1 := by
  induction k with
  | zero => exact Nat.zero_le _
  | succ k ih =>
    simp only [jsum]
    rcases Nat.eq_zero_or_pos (f k) with e | e
    · rw [e]
      exact ih (fun i hi => h1 i (by omega)) (fun i j hi hj => h2 i j (by omega) (by omega))
    · have h3 : jsum k f = 0 := by
        have h4 : ∀ i, i < k → f i ≤ 0 := fun i hi => by
          rcases Nat.eq_zero_or_pos (f i) with q | q
          · omega
          · have := h2 i k (by omega) (by omega) q e
            omega
        have := jsum_le h4
        rw [jsum_c, Nat.mul_zero] at this
        omega
      have := h1 k (by omega)
      omega
/-- c different members that have q: the count is c at least -/
theorem jsum_inj {n : Nat} {q : Nat → Nat} : ∀ (c : Nat) (w : Nat → Nat), (∀ t, t < c → w t < n ∧ 0 < q (w t)) → (∀ s t, s < t → t < c → w s ≠ w t) → c ≤ jsum n q := by
  induction n with
  | zero =>
    intro c w h1 h2
    rcases Nat.eq_zero_or_pos c with e | e
    · omega
    · have := (h1 0 e).1
      omega
  | succ n ih =>
    intro c w h1 h2
    simp only [jsum]
    by_cases hx : ∃ t, t < c ∧ w t = n
    · obtain ⟨t0, ht0, e0⟩ := hx
      have h3 := ih (c - 1) (fun t => if t < t0 then w t else w (t + 1)) (fun t ht => by
        show (if t < t0 then w t else w (t + 1)) < n ∧ 0 < q (if t < t0 then w t else w (t + 1))
        by_cases e : t < t0
        · rw [if_pos e]
          have h4 := h1 t (by omega)
          have h5 := h2 t t0 e ht0
          exact ⟨by omega, h4.2⟩
        · rw [if_neg e]
          have h4 := h1 (t + 1) (by omega)
          have h5 := h2 t0 (t + 1) (by omega) (by omega)
          exact ⟨by omega, h4.2⟩) (fun s t hst ht => by
        show (if s < t0 then w s else w (s + 1)) ≠ (if t < t0 then w t else w (t + 1))
        by_cases e1 : s < t0
        · rw [if_pos e1]
          by_cases e2 : t < t0
          · rw [if_pos e2]
            exact h2 s t hst (by omega)
          · rw [if_neg e2]
            exact h2 s (t + 1) (by omega) (by omega)
        · rw [if_neg e1, if_neg (show ¬ t < t0 by omega)]
          exact h2 (s + 1) (t + 1) (by omega) (by omega))
      have h4 := (h1 t0 ht0).2
      rw [e0] at h4
      omega
    · have h3 := ih c w (fun t ht => by
        have h4 := h1 t ht
        have h5 : w t ≠ n := fun e => hx ⟨t, ht, e⟩
        exact ⟨by omega, h4.2⟩) h2
      omega
noncomputable def pB (p : Prop) : Bool := @decide p (Classical.propDecidable p)
theorem pB_t {p : Prop} : pB p = true ↔ p := @decide_eq_true_iff p (Classical.propDecidable p)
noncomputable def pN (p : Prop) : Nat := if pB p = true then 1 else 0
theorem pN_le (p : Prop) : pN p ≤ 1 := by
  unfold pN
  split <;> omega
theorem pN_pos {p : Prop} : 0 < pN p ↔ p := by
  unfold pN
  by_cases h : pB p = true
  · rw [if_pos h]; exact ⟨fun _ => pB_t.mp h, fun _ => by omega⟩
  · rw [if_neg h]; exact ⟨fun q => by omega, fun q => absurd (pB_t.mpr q) h⟩
/-- the members whose class has girth c are c at least -/
theorem girth_cnt {T : jT} (hT : tv T) {v c : Nat} (hv : v < T.1) (h : Gi1 T v c) : c ≤ jsum T.1 (fun i => pN (Gi1 T i c)) := by
  obtain ⟨⟨hc0, u, h1, h2, w⟩, hmin⟩ := id h
  obtain ⟨p, p0, pc, hp⟩ := Wr_path w
  have w1 : ∀ s, s ≤ c → Wr (tR T) s u (p s) := fun s hs => by
    have := path_Wr (R := tR T) (v := p) (a := 0) s (fun t _ ht => hp t (by omega))
    rwa [Nat.zero_add, p0] at this
  have w2 : ∀ s t, s ≤ t → t ≤ c → Wr (tR T) (t - s) (p s) (p t) := fun s t hs ht => by
    have := path_Wr (R := tR T) (v := p) (a := s) (t - s) (fun z _ hz => hp z (by omega))
    rwa [show s + (t - s) = t by omega] at this
  have r1 : ∀ s, s ≤ c → Rch T v (p s) := fun s hs => rch_trans h1 ⟨s, w1 s hs⟩
  have r2 : ∀ s, s ≤ c → Rch T (p s) v := fun s hs => rch_trans ⟨c - s, by have := w2 s c hs (Nat.le_refl _); rwa [pc] at this⟩ h2
  refine jsum_inj c p (fun t ht => ⟨rch_lt hT hv (r1 t (by omega)), pN_pos.mpr (Gi1_eq (r1 t (by omega)) (r2 t (by omega)) h)⟩) (fun s t hst ht e => ?_)
  refine hmin (t - s) (by omega) ⟨by omega, p s, r1 s (by omega), r2 s (by omega), ?_⟩
  have := w2 s t (by omega) (by omega)
  rwa [← e] at this
/-- there is a class of girth c -/
def isG (T : jT) (c : Nat) : Prop := ∃ v, v < T.1 ∧ Gi1 T v c
theorem isG_pos {T : jT} {c : Nat} (h : isG T c) : 0 < c := by
  obtain ⟨v, -, h⟩ := h
  exact h.1.1
theorem girth_sum {T : jT} (hT : tv T) : jsum 13 (fun c => if pB (isG T c) = true then c else 0) ≤ T.1 := by
  have h1 : jsum 13 (fun c => if pB (isG T c) = true then c else 0) ≤ jsum 13 (fun c => jsum T.1 (fun i => pN (Gi1 T i c))) := jsum_le fun c _ => by
    by_cases e : pB (isG T c) = true
    · rw [if_pos e]
      obtain ⟨v, hv, h⟩ := pB_t.mp e
      exact girth_cnt hT hv h
    · rw [if_neg e]
      exact Nat.zero_le _
  rw [jsum_comm] at h1
  have h2 : jsum T.1 (fun i => jsum 13 (fun c => pN (Gi1 T i c))) ≤ jsum T.1 (fun _ => 1) := jsum_le fun i _ => jsum_one (fun c _ => pN_le _) (fun c d _ _ hc hd => Gi1_un (pN_pos.mp hc) (pN_pos.mp hd))
  rw [jsum_c, Nat.mul_one] at h2
  exact Nat.le_trans h1 h2
def mxF (d : Nat → Bool) : Nat → Nat
  | 0 => 0
  | k + 1 => if d k = true then max (mxF d k) k else mxF d k
def lcF (d : Nat → Bool) : Nat → Nat
  | 0 => 1
  | k + 1 => if d k = true ∧ 0 < k then Nat.lcm (lcF d k) k else lcF d k
theorem mxF_le {d : Nat → Bool} {c : Nat} (hc : d c = true) : ∀ k, c < k → c ≤ mxF d k
  | 0, h => by omega
  | k + 1, h => by
    by_cases e : c = k
    · subst e
      rw [mxF, if_pos hc]
      exact Nat.le_max_right _ _
    · have := mxF_le hc k (by omega)
      unfold mxF
      split
      · exact Nat.le_trans this (Nat.le_max_left _ _)
      · exact this
theorem lcF_dvd {d : Nat → Bool} {c : Nat} (hc : d c = true) (h0 : 0 < c) : ∀ k, c < k → c ∣ lcF d k
  | 0, h => by omega
  | k + 1, h => by
    by_cases e : c = k
    · subst e
      rw [lcF, if_pos ⟨hc, h0⟩]
      exact Nat.dvd_lcm_right _ _
    · have := lcF_dvd hc h0 k (by omega)
      unfold lcF
      split
      · exact Nat.dvd_trans this (Nat.dvd_lcm_left _ _)
      · exact this
theorem lcF_pos (d : Nat → Bool) : ∀ k, 0 < lcF d k
  | 0 => by show 0 < 1; omega
  | k + 1 => by
    unfold lcF
    split
    · rename_i h
      exact Nat.lcm_pos (lcF_pos d k) h.2
    · exact lcF_pos d k
theorem mxF_cg {d d' : Nat → Bool} : ∀ k, (∀ c, c < k → d c = d' c) → mxF d k = mxF d' k
  | 0, _ => rfl
  | k + 1, h => by
    unfold mxF
    rw [mxF_cg k (fun c hc => h c (by omega)), h k (by omega)]
theorem lcF_cg {d d' : Nat → Bool} : ∀ k, (∀ c, c < k → d c = d' c) → lcF d k = lcF d' k
  | 0, _ => rfl
  | k + 1, h => by
    unfold lcF
    rw [lcF_cg k (fun c hc => h c (by omega)), h k (by omega)]
theorem jsum_cg {f g : Nat → Nat} : ∀ k, (∀ c, c < k → f c = g c) → jsum k f = jsum k g
  | 0, _ => rfl
  | k + 1, h => by
    simp only [jsum]
    rw [jsum_cg k (fun c hc => h c (by omega)), h k (by omega)]
def mskS (x : Nat) : Nat := jsum 13 (fun c => if x.testBit c then c else 0)
theorem msk_0 : ∀ a, a < 64 → ∀ b, b < 128 → mskS (128 * a + b) ≤ 12 → max 12 (24 * mxF (fun c => (128 * a + b).testBit c) 13 - 2) + lcF (fun c => (128 * a + b).testBit c) 13 ≤ 300 := by decide +kernel
theorem msk_1 {d : Nat → Bool} (h : jsum 13 (fun c => if d c = true then c else 0) ≤ 12) : max 12 (24 * mxF d 13 - 2) + lcF d 13 ≤ 300 := by
  have hx : jor 13 (fun c => if d c = true then 2 ^ c else 0) < 2 ^ 13 := jor_lt fun c hc => by
    split
    · exact p2_lt2 hc
    · exact Nat.two_pow_pos _
  have hb : ∀ c, c < 13 → d c = (jor 13 (fun c => if d c = true then 2 ^ c else 0)).testBit c := fun c hc => beq_of_iff (by
    rw [jor_tb]
    constructor
    · intro h; exact ⟨c, hc, ite_tb.mpr ⟨h, p2_tb.mpr rfl⟩⟩
    · rintro ⟨i, -, h⟩
      rw [ite_tb, p2_tb] at h
      rw [← h.2]; exact h.1)
  generalize jor 13 (fun c => if d c = true then 2 ^ c else 0) = x at hx hb
  have h2 := msk_0 (x / 128) (by omega) (x % 128) (by omega)
  rw [show 128 * (x / 128) + x % 128 = x by omega] at h2
  rw [mxF_cg 13 hb, lcF_cg 13 hb]
  refine h2 ?_
  rw [show mskS x = jsum 13 (fun c => if d c = true then c else 0) from jsum_cg 13 (fun c hc => by rw [hb c hc])]
  exact h
/-- the powers come round within 300 -/
theorem pw_rep {T : jT} (hT : tv T) : ∃ K L, 1 ≤ K ∧ 1 ≤ L ∧ K + L ≤ 300 ∧ tpw T K = tpw T (K + L) := by
  have hs := Nat.le_trans (girth_sum hT) hT.1
  have hb := msk_1 (d := fun c => pB (isG T c)) hs
  have hL := lcF_pos (fun c => pB (isG T c)) 13
  have hG : ∀ c, isG T c → c ≤ T.1 → c ≤ mxF (fun c => pB (isG T c)) 13 ∧ c ∣ lcF (fun c => pB (isG T c)) 13 := fun c hc hn => ⟨mxF_le (d := fun c => pB (isG T c)) (pB_t.mpr hc) 13 (by have := hT.1; omega), lcF_dvd (d := fun c => pB (isG T c)) (pB_t.mpr hc) (isG_pos hc) 13 (by have := hT.1; omega)⟩
  generalize mxF (fun c => pB (isG T c)) 13 = M at hb hG
  generalize lcF (fun c => pB (isG T c)) 13 = L at hb hL hG
  have hn := hT.1
  have hK1 : 12 ≤ max 12 (24 * M - 2) := Nat.le_max_left _ _
  have hK2 : 24 * M - 2 ≤ max 12 (24 * M - 2) := Nat.le_max_right _ _
  generalize max 12 (24 * M - 2) = K at hb hK1 hK2
  refine ⟨K, L, by omega, by omega, hb, ?_⟩
  have key : ∀ k m i j, 12 ≤ k → K ≤ m → (∀ c, c ∣ L → m % c = k % c) → i < T.1 → Wr (tR T) k i j → Wr (tR T) m i j := fun k m i j hk hm hmod hi h => by
    obtain ⟨c, v, hv, h1, h2, h3⟩ := Wr_again hT (by omega) hi h
    obtain ⟨h4, h5⟩ := hG c ⟨v, hv, h1⟩ h2
    refine h3 m ?_ (hmod c h5)
    have h6 : T.1 * c ≤ 12 * M := Nat.mul_le_mul hn h4
    omega
  refine t_ext ((tpw_n T K).trans (tpw_n T (K + L)).symm) (tv_pw hT K) (tv_pw hT (K + L)) (fun i j => ?_)
  have hm : ∀ c, c ∣ L → (K + L) % c = K % c := fun c ⟨d, hd⟩ => by rw [hd, Nat.add_mul_mod_self_left]
  constructor
  · intro h
    have hi := (tb_lt (tv_pw hT K) h).1
    rw [tpw_n] at hi
    rw [tpw_W hT hi] at h ⊢
    exact key K (K + L) i j hK1 (by omega) hm hi h
  · intro h
    have hi := (tb_lt (tv_pw hT (K + L)) h).1
    rw [tpw_n] at hi
    rw [tpw_W hT hi] at h ⊢
    exact key (K + L) K i j (by omega) (Nat.le_refl _) (fun c hc => (hm c hc).symm) hi h
/-- index ix, period pr -/
def cyP (T : jT) (ix pr : Nat) : Prop := 1 ≤ ix ∧ 1 ≤ pr ∧ ix + pr ≤ 300 ∧ tpw T ix = tpw T (ix + pr) ∧ ∀ i j, 1 ≤ i → i < j → j < ix + pr → tpw T i ≠ tpw T j
theorem cy_ex {T : jT} (hT : tv T) : ∃ ix pr, cyP T ix pr := by
  obtain ⟨K, L, h1, h2, h3, h4⟩ := pw_rep hT
  obtain ⟨m, hm1, ⟨i, hi1, hi2, hi3⟩, hm3⟩ := least_of (p := fun m => ∃ i, 1 ≤ i ∧ i < m ∧ tpw T i = tpw T m) (K + L) (K + L) (Nat.le_refl _) ⟨K, h1, by omega, h4⟩
  refine ⟨i, m - i, hi1, by omega, by omega, ?_, fun a b ha hab hb e => ?_⟩
  · rw [show i + (m - i) = m by omega]
    exact hi3
  · exact hm3 b (by omega) ⟨a, ha, hab, e⟩

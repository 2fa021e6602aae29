theorem cy_per {T : jT} (hT : tv T) {ix pr : Nat} (hc : cyP T ix pr) {k : Nat} (hk : ix ≤ k) : tpw T (k + pr) = tpw T k := by
  have e : k + pr = (ix + pr) + (k - ix) := by omega
  rw [e, tpw_add hT, ← hc.2.2.2.1, ← tpw_add hT, show ix + (k - ix) = k by omega]
theorem cy_mul {T : jT} (hT : tv T) {ix pr : Nat} (hc : cyP T ix pr) {k : Nat} (hk : ix ≤ k) : ∀ t, tpw T (k + pr * t) = tpw T k
  | 0 => rfl
  | t + 1 => by
    rw [Nat.mul_succ, ← Nat.add_assoc, cy_per hT hc (Nat.le_trans hk (Nat.le_add_right _ _)), cy_mul hT hc hk t]
theorem jspot_b {ix pr k : Nat} (h1 : 1 ≤ ix) (h2 : 1 ≤ pr) (hk : 1 ≤ k) : 1 ≤ jspot ix pr k ∧ jspot ix pr k < ix + pr ∧ jspot ix pr k ≤ k := by
  unfold jspot
  split
  · omega
  · have h3 := Nat.mod_lt (k - ix) h2
    have h4 := Nat.mod_le (k - ix) pr
    omega
theorem cy_spot {T : jT} (hT : tv T) {ix pr : Nat} (hc : cyP T ix pr) (k : Nat) : tpw T k = tpw T (jspot ix pr k) := by
  unfold jspot
  split
  · rfl
  · have h := cy_mul hT hc (k := ix + (k - ix) % pr) (Nat.le_add_right _ _) ((k - ix) / pr)
    rw [← h]
    congr 1
    have := Nat.mod_add_div (k - ix) pr
    omega
theorem cy_inj {T : jT} {ix pr : Nat} (hc : cyP T ix pr) {a b : Nat} (ha : 1 ≤ a) (ha2 : a < ix + pr) (hb : 1 ≤ b) (hb2 : b < ix + pr) (h : tpw T a = tpw T b) : a = b := by
  rcases Nat.lt_trichotomy a b with q | q | q
  · exact absurd h (hc.2.2.2.2 a b ha q hb2)
  · exact q
  · exact absurd h.symm (hc.2.2.2.2 b a hb q ha2)
theorem cy_eq2 {T : jT} (hT : tv T) {ix pr : Nat} (hc : cyP T ix pr) {a b : Nat} (ha : 1 ≤ a) (hab : a < b) (h : tpw T a = tpw T b) : ix ≤ a ∧ (b - a) % pr = 0 := by
  obtain ⟨h1, h2, h3, h4, h5⟩ := id hc
  obtain ⟨a1, a2, a3⟩ := jspot_b h1 h2 ha
  obtain ⟨b1, b2, b3⟩ := jspot_b h1 h2 (show 1 ≤ b by omega)
  rw [cy_spot hT hc a, cy_spot hT hc b] at h
  have e := cy_inj hc a1 a2 b1 b2 h
  have key : ∀ k, ix ≤ k → jspot ix pr k = ix + (k - ix) % pr := fun k hk => by
    unfold jspot
    split
    · rw [Nat.mod_eq_of_lt (by omega)]
      omega
    · rfl
  have hia : ix ≤ a := by
    rcases Nat.lt_or_ge a ix with q | q
    · exfalso
      have e1 : jspot ix pr a = a := by unfold jspot; rw [if_pos (by omega)]
      rcases Nat.lt_or_ge b ix with q2 | q2
      · have e2 : jspot ix pr b = b := by unfold jspot; rw [if_pos (by omega)]
        omega
      · have e2 := key b q2
        omega
    · exact q
  refine ⟨hia, ?_⟩
  rw [key a hia, key b (by omega)] at e
  have e : (b - ix) % pr = (a - ix) % pr := by omega
  have := Nat.sub_mod_eq_zero_of_mod_eq e
  rwa [show b - ix - (a - ix) = b - a by omega] at this
theorem tl_pw {T : jT} (hT : tv T) {a b : Nat} : tlik (tpo T a) (tpo T b) = true ↔ tpw T (a + 1) = tpw T (b + 1) := by
  rw [tlik_iff (tv_po hT a) (tv_po hT b), tpw_po hT, tpw_po hT]
theorem je_pw {T : jT} (hT : tv T) {a b : Nat} : jeq (tpo T a).2 (tpo T b).2 12 = true ↔ tpw T (a + 1) = tpw T (b + 1) := by
  rw [jeq_iff ((tpo_n T a).trans (tpo_n T b).symm) (tv_po hT a) (tv_po hT b), tpw_po hT, tpw_po hT]
theorem f_of {b : Bool} {p : Prop} (h : b = true ↔ p) (hp : ¬ p) : b = false := by
  cases b with
  | false => rfl
  | true => exact absurd (h.mp rfl) hp
theorem mkd_pow : ∀ j, ∃ a, mkd j = 2 ^ a ∧ 2 ^ a ≤ j + 1 ∧ j + 1 < 2 ^ (a + 1)
  | 0 => ⟨0, rfl, by decide, by decide⟩
  | j + 1 => by
    obtain ⟨a, h1, h2, h3⟩ := mkd_pow j
    have h4 : 2 ^ (a + 1) = 2 * 2 ^ a := by rw [Nat.pow_succ, Nat.mul_comm]
    have h5 : 2 ^ (a + 1 + 1) = 2 * 2 ^ (a + 1) := by rw [Nat.pow_succ, Nat.mul_comm]
    by_cases e : j + 2 = 2 * mkd j
    · exact ⟨a + 1, by rw [show mkd (j + 1) = j + 2 from if_pos e]; omega, by omega, by omega⟩
    · exact ⟨a, by rw [show mkd (j + 1) = mkd j from if_neg e]; exact h1, by omega, by omega⟩
theorem mkd_un {j a : Nat} (h1 : 2 ^ a ≤ j + 1) (h2 : j + 1 < 2 ^ (a + 1)) : mkd j = 2 ^ a := by
  obtain ⟨b, g1, g2, g3⟩ := mkd_pow j
  rcases Nat.lt_trichotomy a b with q | q | q
  · have : 2 ^ (a + 1) ≤ 2 ^ b := Nat.pow_le_pow_right (by omega) q
    omega
  · rw [g1, q]
  · have : 2 ^ (b + 1) ≤ 2 ^ a := Nat.pow_le_pow_right (by omega) q
    omega
/-- the first time that the walker meets the mark -/
theorem fp_ex {T : jT} (hT : tv T) {ix pr : Nat} (hc : cyP T ix pr) : ∃ j0, j0 + 2 < 1000 ∧ tpw T (j0 + 2) = tpw T (mkd j0) ∧ (∀ j, j < j0 → tpw T (j + 2) ≠ tpw T (mkd j)) ∧ j0 + 2 - mkd j0 = pr ∧ ix ≤ mkd j0 := by
  obtain ⟨h1, h2, h3, h4, h5⟩ := id hc
  have hm : mkd (510 + pr) = 2 ^ 9 := mkd_un (by show 512 ≤ _; omega) (by show _ < 1024; omega)
  obtain ⟨j0, hj1, hj2, hj3⟩ := least_of (p := fun j => tpw T (j + 2) = tpw T (mkd j)) (510 + pr) (510 + pr) (Nat.le_refl _) (by
    show tpw T (510 + pr + 2) = tpw T (mkd (510 + pr))
    rw [hm, show 510 + pr + 2 = 2 ^ 9 + pr by show _ = 512 + pr; omega]
    exact cy_per hT hc (by show ix ≤ 512; omega))
  obtain ⟨a, g1, g2, g3⟩ := mkd_pow j0
  have hml := mkd_le j0
  obtain ⟨e1, e2⟩ := cy_eq2 hT hc (a := mkd j0) (b := j0 + 2) (by omega) (by omega) hj2.symm
  refine ⟨j0, by omega, hj2, hj3, ?_, e1⟩
  obtain ⟨t, ht⟩ := Nat.dvd_of_mod_eq_zero e2
  match t, ht with
  | 0, ht => omega
  | 1, ht => omega
  | t + 2, ht =>
    exfalso
    have ht : j0 + 2 - mkd j0 = pr * t + pr + pr := by rw [ht, Nat.mul_succ, Nat.mul_succ]
    have hj : mkd (mkd j0 + pr - 2) = 2 ^ a := mkd_un (by omega) (by omega)
    refine hj3 (mkd j0 + pr - 2) (by omega) ?_
    rw [hj, ← g1, show mkd j0 + pr - 2 + 2 = mkd j0 + pr by omega]
    exact cy_per hT hc e1
/-- what the reference's row of powers needs -/
theorem cy_mod {T : jT} (hT : tv T) {ix pr : Nat} (hc : cyP T ix pr) : (∀ i j, 1 ≤ i → i < j → j < ix + pr → jeq (tpo T (i - 1)).2 (tpo T (j - 1)).2 12 = false) ∧ (∀ i, 1 ≤ i → i < ix → jeq (tpo T (i - 1)).2 (tpo T (ix + pr - 1)).2 12 = false) ∧ jeq (tpo T (ix - 1)).2 (tpo T (ix + pr - 1)).2 12 = true := by
  obtain ⟨h1, h2, h3, h4, h5⟩ := id hc
  refine ⟨fun i j hi hij hj => f_of (je_pw hT) ?_, fun i hi hix => f_of (je_pw hT) ?_, (je_pw hT).mpr ?_⟩
  · rw [show i - 1 + 1 = i by omega, show j - 1 + 1 = j by omega]
    exact h5 i j hi hij hj
  · rw [show i - 1 + 1 = i by omega, show ix + pr - 1 + 1 = ix + pr by omega, ← h4]
    exact h5 i ix hi hix (by omega)
  · rw [show ix - 1 + 1 = ix by omega, show ix + pr - 1 + 1 = ix + pr by omega]
    exact h4
/-- what the class's cycle needs -/
theorem cy_cls {T : jT} (hT : tv T) {ix pr : Nat} (hc : cyP T ix pr) : ∃ j0, j0 + 2 < 1000 ∧ tlik (tpo T (j0 + 1)) (tpo T (mkd j0 - 1)) = true ∧ (∀ j, j < j0 → tlik (tpo T (j + 1)) (tpo T (mkd j - 1)) = false) ∧ j0 + 2 - mkd j0 = pr ∧ (ix - 1) + 1 < 1000 ∧ tlik (tpo T (pr + (ix - 1))) (tpo T (ix - 1)) = true ∧ (∀ j, j < ix - 1 → tlik (tpo T (pr + j)) (tpo T j) = false) ∧ ix + pr ≤ j0 + 2 := by
  obtain ⟨h1, h2, h3, h4, h5⟩ := id hc
  obtain ⟨j0, g1, g2, g3, g4, g5⟩ := fp_ex hT hc
  have hml : ∀ j, mkd j - 1 + 1 = mkd j := fun j => by have := mkd_le j; omega
  refine ⟨j0, g1, (tl_pw hT).mpr ?_, fun j hj => f_of (tl_pw hT) ?_, g4, by omega, (tl_pw hT).mpr ?_, fun j hj => f_of (tl_pw hT) (fun e => ?_), by omega⟩
  · rw [hml]; exact g2
  · rw [hml]; exact g3 j hj
  · rw [show pr + (ix - 1) + 1 = ix + pr by omega, show ix - 1 + 1 = ix by omega]
    exact h4.symm
  · have := (cy_eq2 hT hc (a := j + 1) (b := pr + j + 1) (by omega) (by omega) e.symm).1
    omega
/-- the idempotent power -/
theorem cy_idem {ix pr : Nat} (h1 : 1 ≤ ix) (h2 : 1 ≤ pr) (hb : ix + pr ≤ 300) : ∃ q, q < 1000 ∧ (∀ j, j < q → pr + pr * j < ix) ∧ ix ≤ pr + pr * q ∧ pr + pr * q - 1 ≤ 1000 ∧ jspot ix pr (2 * (pr + pr * q - 1 + 1)) = pr + pr * q - 1 + 1 ∧ ∀ k, k < pr + pr * q - 1 → ¬ jspot ix pr (2 * (k + 1)) = k + 1 := by
  have hq1 := Nat.div_add_mod (ix - 1) pr
  have hq2 := Nat.mod_lt (ix - 1) h2
  have hq3 := Nat.div_le_self (ix - 1) pr
  generalize (ix - 1) / pr = q at hq1 hq3
  generalize (ix - 1) % pr = r at hq1 hq2
  refine ⟨q, by omega, fun j hj => ?_, by omega, by omega, ?_, fun k hk e => ?_⟩
  · have : pr * (j + 1) ≤ pr * q := Nat.mul_le_mul_left pr hj
    rw [Nat.mul_succ] at this
    omega
  · rw [show pr + pr * q - 1 + 1 = pr + pr * q by omega]
    unfold jspot
    rw [if_neg (by omega)]
    have e : 2 * (pr + pr * q) - ix = (pr + pr * q - ix) + pr * (q + 1) := by rw [Nat.mul_succ]; omega
    rw [e, Nat.add_mul_mod_self_left, Nat.mod_eq_of_lt (by omega)]
    omega
  · unfold jspot at e
    split at e
    · omega
    · have e1 : (2 * (k + 1) - ix) % pr = k + 1 - ix := by omega
      have e2 : k + 1 - ix < pr := by rw [← e1]; exact Nat.mod_lt _ h2
      have e3 : (2 * (k + 1) - ix) % pr = (k + 1 - ix) % pr := by rw [e1, Nat.mod_eq_of_lt e2]
      have e4 := Nat.sub_mod_eq_zero_of_mod_eq e3
      rw [show 2 * (k + 1) - ix - (k + 1 - ix) = k + 1 by omega] at e4
      obtain ⟨t, ht⟩ := Nat.dvd_of_mod_eq_zero e4
      have : t < q + 1 := by
        rcases Nat.lt_or_ge t (q + 1) with w | w
        · exact w
        · have : pr * (q + 1) ≤ pr * t := Nat.mul_le_mul_left pr w
          rw [Nat.mul_succ] at this
          omega
      have : pr * t ≤ pr * q := Nat.mul_le_mul_left pr (by omega)
      omega
theorem mkf_d : ∀ j, mkf (j + 1) = mkd j
  | 0 => rfl
  | j + 1 => by
    show (if j + 1 + 1 = 2 * mkf (j + 1) then j + 1 + 1 else mkf (j + 1)) = (if j + 2 = 2 * mkd j then j + 2 else mkd j)
    rw [mkf_d j]
/-- the first power that is like a table -/
theorem cy_first {T G : jT} (hT : tv T) (hG : tv G) (hn : T.1 = G.1) {ix pr : Nat} (hc : cyP T ix pr) :
    (∃ e, e < 1000 ∧ e + 1 < ix + pr ∧ tlik (tpo T e) G = true ∧ (∀ j, j < e → tlik (tpo T j) G = false) ∧ (∀ j, j < e → ¬ (mkf j < j + 1 ∧ tlik (tpo T j) (tpo T (mkf j - 1)) = true)) ∧ jeq (tpo T (e + 1 - 1)).2 G.2 12 = true ∧ ∀ k, k < e → jeq (tpo T (k + 1 - 1)).2 G.2 12 = false) ∨
    (∃ e, e < 1000 ∧ (∀ j, j ≤ e → tlik (tpo T j) G = false) ∧ mkf e < e + 1 ∧ tlik (tpo T e) (tpo T (mkf e - 1)) = true ∧ (∀ j, j < e → ¬ (mkf j < j + 1 ∧ tlik (tpo T j) (tpo T (mkf j - 1)) = true)) ∧ ∀ k, k < ix + pr - 1 → jeq (tpo T (k + 1 - 1)).2 G.2 12 = false) := by
  obtain ⟨h1, h2, h3, h4, h5⟩ := id hc
  obtain ⟨j0, c1, c2, c3, c4, c5, c6, c7, c8⟩ := cy_cls hT hc
  have htl : ∀ j, tlik (tpo T j) G = true ↔ tpw T (j + 1) = G := fun j => by rw [tlik_iff (tv_po hT j) hG, tpw_po hT]
  have hje : ∀ j, jeq (tpo T j).2 G.2 12 = true ↔ tpw T (j + 1) = G := fun j => by rw [jeq_iff ((tpo_n T j).trans hn) (tv_po hT j) hG, tpw_po hT]
  have hnc : ∀ j, j ≤ j0 → ¬ (mkf j < j + 1 ∧ tlik (tpo T j) (tpo T (mkf j - 1)) = true) := fun j hj hh => by
    match j, hj, hh with
    | 0, _, hh => exact absurd hh.1 (by decide)
    | j + 1, hj, hh =>
      rw [mkf_d] at hh
      have := c3 j (by omega)
      rw [hh.2] at this
      cases this
  by_cases hx : ∃ k, tpw T (k + 1) = G
  · obtain ⟨k, hk⟩ := hx
    obtain ⟨e, e1, e2, e3⟩ := least_of (p := fun k => tpw T (k + 1) = G) k k (Nat.le_refl _) hk
    have he : e + 1 < ix + pr := by
      rcases Nat.lt_or_ge (e + 1) (ix + pr) with q | q
      · exact q
      · obtain ⟨b1, b2, b3⟩ := jspot_b h1 h2 (show 1 ≤ e + 1 by omega)
        refine absurd ?_ (e3 (jspot ix pr (e + 1) - 1) (by omega))
        rw [show jspot ix pr (e + 1) - 1 + 1 = jspot ix pr (e + 1) by omega, ← cy_spot hT hc]
        exact e2
    exact Or.inl ⟨e, by omega, he, (htl e).mpr e2, fun j hj => f_of (htl j) (e3 j hj), fun j hj => hnc j (by omega), (hje e).mpr e2, fun k hk => f_of (hje k) (e3 k hk)⟩
  · have hx : ∀ k, ¬ tpw T (k + 1) = G := fun k e => hx ⟨k, e⟩
    have hml := mkd_le j0
    exact Or.inr ⟨j0 + 1, by omega, fun j _ => f_of (htl j) (hx j), by rw [mkf_d]; omega, by rw [mkf_d]; exact c2, fun j hj => hnc j (by omega), fun k _ => f_of (hje k) (hx k)⟩

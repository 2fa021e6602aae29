theorem row_full {x m : Nat} (hx : x < 2 ^ m) : x = 2 ^ m - 1 ↔ ∀ j, j < m → x.testBit j = true := by
  constructor
  · intro e j hj
    rw [e, Nat.testBit_two_pow_sub_one]
    exact decide_eq_true hj
  · intro h
    refine Nat.eq_of_testBit_eq (fun j => ?_)
    rw [Nat.testBit_two_pow_sub_one]
    rcases Nat.lt_or_ge j m with q | q
    · rw [h j q, decide_eq_true q]
    · rw [decide_eq_false (by omega), Nat.testBit_lt_two_pow (Nat.lt_of_lt_of_le hx (Nat.pow_le_pow_right (by omega) q))]
/-- power k leads everywhere -/
def Fl (T : jT) (k : Nat) : Prop := ∀ i j, i < T.1 → j < T.1 → Wr (tR T) k i j
theorem fu_iff {T : jT} (hT : tv T) (e : Nat) : tful (tpo T e) T.1 T.1 = true ↔ Fl T (e + 1) := by
  rw [tful, jall_iff]
  have hv := tv_po hT e
  constructor
  · intro h i j hi hj
    have h1 := beq_iff_eq.mp (h i hi)
    have h2 := hv.2.1 i
    rw [tpo_n] at h2
    exact (tpo_W hT e i j).mp ((row_full h2).mp h1 j hj)
  · intro h i hi
    have h2 := hv.2.1 i
    rw [tpo_n] at h2
    exact beq_iff_eq.mpr ((row_full h2).mpr (fun j hj => (tpo_W hT e i j).mpr (h i j hi hj)))
theorem Wr_pow {R : Nat → Nat → Prop} {s y : Nat} : ∀ {m x : Nat}, Wr (Wr R s) m x y → Wr R (m * s) x y
  | 0, x, h => by rw [Nat.zero_mul]; exact h
  | m + 1, x, ⟨k, h1, h2⟩ => by
    rw [Nat.succ_mul, Nat.add_comm]
    exact Wr_add h1 (Wr_pow h2)
theorem pow_Wr {R : Nat → Nat → Prop} {s y : Nat} : ∀ {m x : Nat}, Wr R (m * s) x y → Wr (Wr R s) m x y
  | 0, x, h => by rw [Nat.zero_mul] at h; exact h
  | m + 1, x, h => by
    rw [Nat.succ_mul, Nat.add_comm] at h
    obtain ⟨k, h1, h2⟩ := Wr_split h
    exact ⟨k, h1, pow_Wr h2⟩
theorem Wr_first {T : jT} (hT : tv T) {m i j : Nat} (h : Wr (tR T) (m + 1) i j) : i < T.1 ∧ j < T.1 := by
  obtain ⟨k, h1, -⟩ := id h
  exact ⟨(tb_lt hT h1).1, Wr_lt (tR_n hT) (tb_lt hT h1).1 h⟩
theorem Fl_out {T : jT} (hT : tv T) {k : Nat} (hk : 1 ≤ k) (hf : Fl T k) : ∀ d i, i < T.1 → ∃ x, x < T.1 ∧ Wr (tR T) d i x
  | 0, i, hi => ⟨i, hi, rfl⟩
  | d + 1, i, hi => by
    obtain ⟨x, hx, h1⟩ := Fl_out hT hk hf d i hi
    have h2 := hf x x hx hx
    rw [show k = (k - 1) + 1 by omega] at h2
    obtain ⟨y, h3, -⟩ := h2
    exact ⟨y, (tb_lt hT h3).2, Wr_snoc h1 h3⟩
theorem Fl_up {T : jT} (hT : tv T) {k m : Nat} (hk : 1 ≤ k) (hf : Fl T k) (hm : k ≤ m) : Fl T m := fun i j hi hj => by
  obtain ⟨x, hx, h1⟩ := Fl_out hT hk hf (m - k) i hi
  have := Wr_add h1 (hf x j hx hj)
  rwa [show m - k + k = m by omega] at this
/-- a primitive table leads everywhere by (n - 1)(n - 1) + 1 -/
theorem Fl_bound {T : jT} (hT : tv T) (h0 : 0 < T.1) {k : Nat} (hk : 1 ≤ k) (hf : Fl T k) : ∃ e, 1 ≤ e ∧ e ≤ (T.1 - 1) * (T.1 - 1) + 1 ∧ Fl T e := by
  have hR := tR_n hT
  -- the girth
  have hex : ∃ s, 0 < s ∧ s ≤ T.1 ∧ ∃ u, u < T.1 ∧ Wr (tR T) s u u := by
    have hw := Fl_up hT hk hf (m := max k T.1) (Nat.le_max_left _ _) 0 0 h0 h0
    obtain ⟨v, a, b, d, hb0, hbn, -, hv, -, w, -⟩ := Wr_twice hR h0 (Nat.le_max_right k T.1) hw
    exact ⟨b, hb0, hbn, v, hv, w⟩
  obtain ⟨s1, hs1⟩ := hex
  obtain ⟨s, -, ⟨hs0, hsn, u, hu, wu⟩, hsm⟩ := least_of (p := fun s => 0 < s ∧ s ≤ T.1 ∧ ∃ u, u < T.1 ∧ Wr (tR T) s u u) s1 s1 (Nat.le_refl _) hs1
  obtain ⟨p, p0, ps, hp⟩ := Wr_path wu
  have w2 : ∀ a b, a ≤ b → b ≤ s → Wr (tR T) (b - a) (p a) (p b) := fun a b ha hb => by
    have := path_Wr (R := tR T) (v := p) (a := a) (b - a) (fun z _ hz => hp z (by omega))
    rwa [show a + (b - a) = b by omega] at this
  have hpn : ∀ t, t < s → p t < T.1 := fun t ht => (tb_lt hT (hp t ht)).1
  have hpd : ∀ a b, a < b → b < s → p a ≠ p b := fun a b hab hb e => by
    refine hsm (b - a) (by omega) ⟨by omega, by omega, p a, hpn a (by omega), ?_⟩
    have := w2 a b (by omega) (by omega)
    rwa [← e] at this
  have hpl : ∀ t, t < s → Wr (tR T) s (p t) (p t) := fun t ht => by
    have h1 := w2 t s (by omega) (Nat.le_refl _)
    have h2 := w2 0 t (by omega) (by omega)
    rw [ps, ← p0] at h1
    have := Wr_add h1 h2
    rwa [show s - t + (t - 0) = s by omega] at this
  rcases Nat.lt_or_ge s T.1 with hsl | hsl
  · -- the girth is less than n
    have hon : ∀ r t, t < s → ∃ t', t' < s ∧ Wr (tR T) r (p t) (p t') := fun r => by
      induction r with
      | zero => exact fun t ht => ⟨t, ht, rfl⟩
      | succ r ih =>
        intro t ht
        obtain ⟨t', h1, h2⟩ := ih t ht
        by_cases e : t' + 1 < s
        · exact ⟨t' + 1, e, Wr_snoc h2 (hp t' h1)⟩
        · refine ⟨0, hs0, ?_⟩
          have h3 := hp t' h1
          rw [show t' + 1 = s by omega, ps, ← p0] at h3
          exact Wr_snoc h2 h3
    have hto : ∀ i, i < T.1 → ∃ t, t < s ∧ Wr (tR T) (T.1 - s) i (p t) := fun i hi => by
      obtain ⟨d, -, ⟨t0, ht0, wd⟩, hdm⟩ := least_of (p := fun d => ∃ t, t < s ∧ Wr (tR T) d i (p t)) k k (Nat.le_refl _) ⟨0, hs0, hf i (p 0) hi (hpn 0 hs0)⟩
      have hd : d ≤ T.1 - s := by
        rcases Nat.lt_or_ge (T.1 - s) d with q | q
        · exfalso
          obtain ⟨v, v0, vd, hv⟩ := Wr_path wd
          have wv : ∀ a b, a ≤ b → b ≤ d → Wr (tR T) (b - a) (v a) (v b) := fun a b ha hb => by
            have := path_Wr (R := tR T) (v := v) (a := a) (b - a) (fun z _ hz => hv z (by omega))
            rwa [show a + (b - a) = b by omega] at this
          have hvi : ∀ a, a ≤ d → Wr (tR T) a i (v a) := fun a ha => by
            have := wv 0 a (by omega) ha
            rwa [v0, Nat.sub_zero] at this
          obtain ⟨a, b, hab, hb, e⟩ := pigeon T.1 (fun t => if t < s then p t else v (t - s)) (fun t ht => by
            show (if t < s then p t else v (t - s)) < T.1
            split
            · exact hpn t (by assumption)
            · exact (tb_lt hT (hv (t - s) (by omega))).1)
          have e : (if a < s then p a else v (a - s)) = (if b < s then p b else v (b - s)) := e
          by_cases ea : a < s
          · rw [if_pos ea] at e
            by_cases eb : b < s
            · rw [if_pos eb] at e
              exact hpd a b hab eb e
            · rw [if_neg eb] at e
              refine hdm (b - s) (by omega) ⟨a, ea, ?_⟩
              rw [e]
              exact hvi _ (by omega)
          · rw [if_neg ea, if_neg (show ¬ b < s by omega)] at e
            refine hdm ((a - s) + (d - (b - s))) (by omega) ⟨t0, ht0, ?_⟩
            have h1 := hvi (a - s) (by omega)
            rw [e] at h1
            have h2 := wv (b - s) d (by omega) (Nat.le_refl _)
            rw [vd] at h2
            exact Wr_add h1 h2
        · exact q
      obtain ⟨t', h1, h2⟩ := hon (T.1 - s - d) t0 ht0
      have := Wr_add wd h2
      rw [show d + (T.1 - s - d) = T.1 - s by omega] at this
      exact ⟨t', h1, this⟩
    have hfr : ∀ t j, t < s → j < T.1 → Wr (tR T) ((T.1 - 1) * s) (p t) j := fun t j ht hj => by
      have h1 : Wr (tR T) (k * s) (p t) j := Fl_up hT hk hf (Nat.le_mul_of_pos_right k hs0) (p t) j (hpn t ht) hj
      have h2 := pow_Wr h1
      have hRs : ∀ x y, Wr (tR T) s x y → x < T.1 ∧ y < T.1 := fun x y h => by
        rw [show s = (s - 1) + 1 by omega] at h
        exact Wr_first hT h
      obtain ⟨a, ha, -, -, h3⟩ := Wr_short (c := 1) (by omega) hRs (hpn t ht) _ _ (Nat.le_refl _) h2
      have hl : Wr (Wr (tR T) s) (T.1 - 1 - a) (p t) (p t) := by
        have := Wr_loop (c := 1) (Wr_one (R := Wr (tR T) s) (hpl t ht)) (T.1 - 1 - a)
        rwa [Nat.mul_one] at this
      have h4 := Wr_add hl h3
      rw [show T.1 - 1 - a + a = T.1 - 1 by omega] at h4
      exact Wr_pow h4
    refine ⟨(T.1 - s) + (T.1 - 1) * s, by omega, ?_, fun i j hi hj => ?_⟩
    · obtain ⟨m, hm⟩ : ∃ m, T.1 = m + 2 := ⟨T.1 - 2, by omega⟩
      rw [hm, show m + 2 - 1 = m + 1 by omega]
      have h1 : m * s ≤ m * (m + 1) := Nat.mul_le_mul_left m (by omega)
      rw [Nat.succ_mul m s, Nat.succ_mul m (m + 1)]
      omega
    · obtain ⟨t, ht, h1⟩ := hto i hi
      exact Wr_add h1 (hfr t j ht hj)
  · -- the girth is n: one ring
    have hsn : s = T.1 := by omega
    subst hsn
    rcases Nat.lt_or_ge T.1 2 with hn2 | hn2
    · refine ⟨1, Nat.le_refl _, by omega, fun i j hi hj => ?_⟩
      have hi : i = 0 := by omega
      have hj : j = 0 := by omega
      have h1 := wu
      have hu : u = 0 := by omega
      rw [show T.1 = 1 by omega, hu] at h1
      rw [hi, hj]
      exact h1
    · exfalso
      have hsur : ∀ x, x < T.1 → ∃ a, a < T.1 ∧ p a = x := fun x hx => by
        by_cases hh : ∃ a, a < T.1 ∧ p a = x
        · exact hh
        · exfalso
          obtain ⟨a, b, hab, hb, e⟩ := pigeon T.1 (fun t => if t < T.1 then p t else x) (fun t ht => by
            show (if t < T.1 then p t else x) < T.1
            split
            · exact hpn t (by assumption)
            · exact hx)
          have e : (if a < T.1 then p a else x) = (if b < T.1 then p b else x) := e
          rw [if_pos (show a < T.1 by omega)] at e
          by_cases eb : b < T.1
          · rw [if_pos eb] at e
            exact hpd a b hab eb e
          · rw [if_neg eb] at e
            exact hh ⟨a, by omega, e⟩
      have hedge : ∀ a b, a < T.1 → b < T.1 → tR T (p a) (p b) → b % T.1 = (a + 1) % T.1 := fun a b ha hb h => by
        rcases Nat.lt_or_ge a b with q | q
        · have h1 := w2 b T.1 (by omega) (Nat.le_refl _)
          rw [ps, ← p0] at h1
          have h2 := w2 0 a (by omega) (by omega)
          have h3 := Wr_add (Wr_add (Wr_one h) h1) h2
          have h4 : T.1 ≤ 1 + (T.1 - b) + (a - 0) := by
            rcases Nat.lt_or_ge (1 + (T.1 - b) + (a - 0)) T.1 with w | w
            · exact absurd ⟨by omega, by omega, p a, hpn a ha, h3⟩ (hsm _ w)
            · exact w
          rw [show b = a + 1 by omega]
        · have h1 := w2 b a q (by omega)
          have h3 := Wr_add (Wr_one h) h1
          have h4 : T.1 ≤ 1 + (a - b) := by
            rcases Nat.lt_or_ge (1 + (a - b)) T.1 with w | w
            · exact absurd ⟨by omega, by omega, p a, hpn a ha, h3⟩ (hsm _ w)
            · exact w
          rw [show b = 0 by omega, show a + 1 = T.1 by omega, Nat.mod_self, Nat.zero_mod]
      have hwalk : ∀ m a b, a < T.1 → b < T.1 → Wr (tR T) m (p a) (p b) → b % T.1 = (a + m) % T.1 := fun m => by
        induction m with
        | zero =>
          intro a b ha hb h
          have h : p a = p b := h
          rcases Nat.lt_trichotomy a b with q | q | q
          · exact absurd h (hpd a b q hb)
          · rw [q, Nat.add_zero]
          · exact absurd h.symm (hpd b a q ha)
        | succ m ih =>
          intro a b ha hb h
          obtain ⟨x, h1, h2⟩ := h
          obtain ⟨c, hc, rfl⟩ := hsur x (tb_lt hT h1).2
          have h3 := hedge a c ha hc h1
          rw [ih c b hc hb h2, Nat.add_mod, h3, ← Nat.add_mod]
          congr 1
          omega
      have h1 := hwalk k 0 0 h0 h0 (hf _ _ (hpn 0 h0) (hpn 0 h0))
      have h2 := hwalk k 0 1 h0 hn2 (hf _ _ (hpn 0 h0) (hpn 1 hn2))
      rw [← h1, Nat.zero_mod, Nat.mod_eq_of_lt hn2] at h2
      omega
theorem Fl_cg {T : jT} (hT : tv T) {a b : Nat} (h : tpw T a = tpw T b) (hf : Fl T a) : Fl T b := fun i j hi hj => by
  rw [← tpw_W hT hi, ← h, tpw_W hT hi]
  exact hf i j hi hj
/-- the exponent, for both -/
theorem cy_exp {T : jT} (hT : tv T) (h0 : 0 < T.1) {ix pr : Nat} (hc : cyP T ix pr) :
    (∃ e, e < (T.1 - 1) * (T.1 - 1) + 1 ∧ e + 1 < ix + pr ∧ tful (tpo T e) (tpo T e).1 (tpo T e).1 = true ∧ (∀ j, j < e → tful (tpo T j) (tpo T j).1 (tpo T j).1 = false) ∧ tful (tpo T (e + 1 - 1)) T.1 T.1 = true ∧ ∀ k, k < e → tful (tpo T (k + 1 - 1)) T.1 T.1 = false) ∨
    ((∀ j, j < (T.1 - 1) * (T.1 - 1) + 1 → tful (tpo T j) (tpo T j).1 (tpo T j).1 = false) ∧ ∀ k, k < ix + pr - 1 → tful (tpo T (k + 1 - 1)) T.1 T.1 = false) := by
  obtain ⟨h1, h2, h3, h4, h5⟩ := id hc
  have hcl : ∀ e, tful (tpo T e) (tpo T e).1 (tpo T e).1 = true ↔ Fl T (e + 1) := fun e => by rw [tpo_n]; exact fu_iff hT e
  by_cases hx : ∃ k, Fl T (k + 1)
  · obtain ⟨k, hk⟩ := hx
    obtain ⟨e, e1, e2, e3⟩ := least_of (p := fun k => Fl T (k + 1)) k k (Nat.le_refl _) hk
    left
    refine ⟨e, ?_, ?_, (hcl e).mpr e2, fun j hj => f_of (hcl j) (e3 j hj), (fu_iff hT e).mpr e2, fun k hk => f_of (fu_iff hT k) (e3 k hk)⟩
    · obtain ⟨b, b1, b2, b3⟩ := Fl_bound hT h0 (show 1 ≤ e + 1 by omega) e2
      rcases Nat.lt_or_ge e ((T.1 - 1) * (T.1 - 1) + 1) with q | q
      · exact q
      · refine absurd ?_ (e3 (b - 1) (by omega))
        rw [show b - 1 + 1 = b by omega]
        exact b3
    · rcases Nat.lt_or_ge (e + 1) (ix + pr) with q | q
      · exact q
      · obtain ⟨b1, b2, b3⟩ := jspot_b h1 h2 (show 1 ≤ e + 1 by omega)
        refine absurd ?_ (e3 (jspot ix pr (e + 1) - 1) (by omega))
        rw [show jspot ix pr (e + 1) - 1 + 1 = jspot ix pr (e + 1) by omega]
        exact Fl_cg hT (cy_spot hT hc (e + 1)) e2
  · have hx : ∀ k, ¬ Fl T (k + 1) := fun k e => hx ⟨k, e⟩
    exact Or.inr ⟨fun j _ => f_of (hcl j) (hx j), fun k _ => f_of (fu_iff hT k) (hx k)⟩

theorem lvJ_cg {T : jT} {hm C v : Nat → Nat} {i : Nat} (hi : i < T.1) (h : ∀ z, z < T.1 → hm z = C z) : ∀ j, j ≤ T.1 → lvJ T hm i v j = lvJ T C i v j
  | 0, _ => rfl
  | j + 1, hj => by
    unfold lvJ
    rw [lvJ_cg hi h j (by omega), h i hi, h j (by omega)]
theorem lvI_cg {T : jT} {hm C v : Nat → Nat} (h : ∀ z, z < T.1 → hm z = C z) : ∀ i, i ≤ T.1 → lvI T hm v i = lvI T C v i
  | 0, _ => rfl
  | i + 1, hi => by
    show lvJ T hm i (lvI T hm v i) T.1 = lvJ T C i (lvI T C v i) T.1
    rw [lvI_cg h i (by omega), lvJ_cg (by omega) h T.1 (Nat.le_refl _)]
theorem lvR_cg {T : jT} {hm C : Nat → Nat} (h : ∀ z, z < T.1 → hm z = C z) : ∀ r, lvR T hm r = lvR T C r
  | 0 => rfl
  | r + 1 => by
    show lvI T hm (lvR T hm r) T.1 = lvI T C (lvR T C r) T.1
    rw [lvR_cg h r, lvI_cg h T.1 (Nat.le_refl _)]
/-- one edge after the other -/
theorem lvF_J {T : jT} {C : Nat → Nat} {s : (Nat → Nat) × Bool} {i : Nat} (h0 : (lvF T C (T.1 * i) s).1 = lvI T C s.1 i) : ∀ j, j ≤ T.1 → (lvF T C (T.1 * i + j) s).1 = lvJ T C i (lvI T C s.1 i) j
  | 0, _ => h0
  | j + 1, hj => by
    have ih := lvF_J h0 j (by omega)
    have hd : (T.1 * i + j) / T.1 = i := by
      rw [Nat.add_comm, Nat.add_mul_div_left _ _ (by omega), Nat.div_eq_of_lt (by omega), Nat.zero_add]
    have hm : (T.1 * i + j) % T.1 = j := by
      rw [Nat.add_comm, Nat.add_mul_mod_self_left, Nat.mod_eq_of_lt (by omega)]
    show (if lvon T C (T.1 * i + j) && decide ((lvF T C (T.1 * i + j) s).1 (C ((T.1 * i + j) % T.1)) ≤ (lvF T C (T.1 * i + j) s).1 (C ((T.1 * i + j) / T.1))) then (jfu (lvF T C (T.1 * i + j) s).1 (C ((T.1 * i + j) % T.1)) ((lvF T C (T.1 * i + j) s).1 (C ((T.1 * i + j) / T.1)) + 1), true) else lvF T C (T.1 * i + j) s).1 = _
    unfold lvJ
    rw [hd, hm, ih, lvon, hd, hm]
    by_cases e : (T.2 i).testBit j = true ∧ ¬ C i = C j ∧ lvJ T C i (lvI T C s.1 i) j (C j) ≤ lvJ T C i (lvI T C s.1 i) j (C i)
    · rw [if_pos e, if_pos (by simp [e.1, e.2.1, e.2.2])]
    · rw [if_neg e, if_neg (by
        intro q
        simp only [Bool.and_eq_true, decide_eq_true_eq, Bool.not_eq_true', decide_eq_false_iff_not] at q
        exact e ⟨q.1.1, q.1.2, q.2⟩)]
      exact ih
theorem lvF_I {T : jT} {C : Nat → Nat} {s : (Nat → Nat) × Bool} : ∀ i, i ≤ T.1 → (lvF T C (T.1 * i) s).1 = lvI T C s.1 i
  | 0, _ => rfl
  | i + 1, hi => by
    have := lvF_J (lvF_I (C := C) (s := s) i (by omega)) T.1 (Nat.le_refl _)
    rw [Nat.mul_succ]
    exact this
theorem lvT_R {T : jT} {C : Nat → Nat} : ∀ t, (lvT T C t).1 = lvR T C t
  | 0 => rfl
  | t + 1 => by
    show (lvF T C (T.1 * T.1) ((lvT T C t).1, false)).1 = lvI T C (lvR T C t) T.1
    rw [lvF_I T.1 (Nat.le_refl _), lvT_R t]
/-- an edge between classes -/
def lve (T : jT) (C : Nat → Nat) (e : Nat) : Prop := lvon T C e = true
theorem lvF_step {T : jT} {C : Nat → Nat} {e : Nat} {s : (Nat → Nat) × Bool} : (lve T C e ∧ (lvF T C e s).1 (C (e % T.1)) ≤ (lvF T C e s).1 (C (e / T.1)) ∧ lvF T C (e + 1) s = (jfu (lvF T C e s).1 (C (e % T.1)) ((lvF T C e s).1 (C (e / T.1)) + 1), true)) ∨ ((¬ lve T C e ∨ (lvF T C e s).1 (C (e / T.1)) < (lvF T C e s).1 (C (e % T.1))) ∧ lvF T C (e + 1) s = lvF T C e s) := by
  by_cases h : (lvon T C e && decide ((lvF T C e s).1 (C (e % T.1)) ≤ (lvF T C e s).1 (C (e / T.1)))) = true
  · left
    have e1 : lvF T C (e + 1) s = _ := if_pos h
    rw [Bool.and_eq_true, decide_eq_true_eq] at h
    exact ⟨h.1, h.2, e1⟩
  · right
    have e1 : lvF T C (e + 1) s = _ := if_neg h
    rw [Bool.and_eq_true, decide_eq_true_eq] at h
    refine ⟨?_, e1⟩
    by_cases q : lvon T C e = true
    · right
      rcases Nat.lt_or_ge ((lvF T C e s).1 (C (e / T.1))) ((lvF T C e s).1 (C (e % T.1))) with w | w
      · exact w
      · exact absurd ⟨q, w⟩ h
    · exact Or.inl q
theorem lvF_mono {T : jT} {C : Nat → Nat} {s : (Nat → Nat) × Bool} {a : Nat} (x : Nat) : ∀ d, (lvF T C a s).1 x ≤ (lvF T C (a + d) s).1 x
  | 0 => Nat.le_refl _
  | d + 1 => by
    have ih := lvF_mono (T := T) (C := C) (s := s) (a := a) x d
    rcases lvF_step (T := T) (C := C) (e := a + d) (s := s) with ⟨h1, h2, h3⟩ | ⟨h1, h3⟩
    · rw [show a + (d + 1) = a + d + 1 by omega, h3]
      simp only [jfu]
      split
      · rename_i e
        rw [e] at ih ⊢
        omega
      · exact ih
    · rw [show a + (d + 1) = a + d + 1 by omega, h3]
      exact ih
theorem lvF_up {T : jT} {C : Nat → Nat} {s : (Nat → Nat) × Bool} {a b : Nat} (x : Nat) (h : a ≤ b) : (lvF T C a s).1 x ≤ (lvF T C b s).1 x := by
  have := lvF_mono (T := T) (C := C) (s := s) (a := a) x (b - a)
  rwa [show a + (b - a) = b by omega] at this
theorem lvR_mono {T : jT} {C : Nat → Nat} (r x : Nat) : lvR T C r x ≤ lvR T C (r + 1) x := by
  have h := lvF_up (T := T) (C := C) (s := ((lvT T C r).1, false)) x (Nat.zero_le (T.1 * T.1))
  have h1 : (lvF T C 0 ((lvT T C r).1, false)).1 x = lvR T C r x := by
    show (lvT T C r).1 x = _
    rw [lvT_R]
  have h2 : (lvF T C (T.1 * T.1) ((lvT T C r).1, false)).1 x = lvR T C (r + 1) x := by
    show (lvT T C (r + 1)).1 x = _
    rw [lvT_R]
  omega
theorem lvR_up {T : jT} {C : Nat → Nat} {r : Nat} (x : Nat) : ∀ d, lvR T C r x ≤ lvR T C (r + d) x
  | 0 => Nat.le_refl _
  | d + 1 => Nat.le_trans (lvR_up x d) (lvR_mono (r + d) x)
/-- all edges go up already -/
def lvst (T : jT) (C v : Nat → Nat) : Prop := ∀ e, e < T.1 * T.1 → lve T C e → v (C (e / T.1)) < v (C (e % T.1))
theorem lvF_flag {T : jT} {C : Nat → Nat} {v : Nat → Nat} : ∀ e, (lvF T C e (v, false)).2 = false → lvF T C e (v, false) = (v, false) ∧ ∀ e', e' < e → lve T C e' → v (C (e' / T.1)) < v (C (e' % T.1))
  | 0, _ => ⟨rfl, fun e' h => absurd h (Nat.not_lt_zero e')⟩
  | e + 1, h => by
    rcases lvF_step (T := T) (C := C) (e := e) (s := (v, false)) with ⟨h1, h2, h3⟩ | ⟨h1, h3⟩
    · rw [h3] at h; cases h
    · rw [h3] at h ⊢
      obtain ⟨g1, g2⟩ := lvF_flag e h
      refine ⟨g1, fun e' he' hl => ?_⟩
      by_cases q : e' = e
      · subst q
        rw [g1] at h1
        exact h1.resolve_left (fun z => z hl)
      · exact g2 e' (by omega) hl
theorem lvF_same {T : jT} {C v : Nat → Nat} (h : lvst T C v) : ∀ e, e ≤ T.1 * T.1 → lvF T C e (v, false) = (v, false)
  | 0, _ => rfl
  | e + 1, he => by
    have ih := lvF_same h e (by omega)
    rcases lvF_step (T := T) (C := C) (e := e) (s := (v, false)) with ⟨h1, h2, h3⟩ | ⟨h1, h3⟩
    · rw [ih] at h2
      have := h e (by omega) h1
      exact absurd h2 (by show ¬ v (C (e % T.1)) ≤ v (C (e / T.1)); omega)
    · rw [h3, ih]
/-- each level has a cause -/
def lvsp (T : jT) (C v : Nat → Nat) : Prop := ∀ x, 0 < v x → ∃ e, e < T.1 * T.1 ∧ lve T C e ∧ C (e % T.1) = x ∧ v x ≤ v (C (e / T.1)) + 1
theorem lve_ne {T : jT} {C : Nat → Nat} {e : Nat} (h : lve T C e) : C (e / T.1) ≠ C (e % T.1) ∧ tb T (e / T.1) (e % T.1) = true := by
  unfold lve lvon at h
  rw [Bool.and_eq_true] at h
  refine ⟨?_, h.1⟩
  intro q
  have h2 := h.2
  rw [decide_eq_true q] at h2
  cases h2
theorem lvsp_F {T : jT} {C : Nat → Nat} {s : (Nat → Nat) × Bool} (hs : lvsp T C s.1) : ∀ e, e ≤ T.1 * T.1 → lvsp T C (lvF T C e s).1
  | 0, _ => hs
  | e + 1, he => by
    have ih := lvsp_F hs e (by omega)
    rcases lvF_step (T := T) (C := C) (e := e) (s := s) with ⟨h1, h2, h3⟩ | ⟨h1, h3⟩
    · rw [h3]
      have hne := (lve_ne h1).1
      generalize (lvF T C e s).1 = v at ih h2
      intro x hx
      show ∃ e', e' < T.1 * T.1 ∧ lve T C e' ∧ C (e' % T.1) = x ∧ jfu v (C (e % T.1)) (v (C (e / T.1)) + 1) x ≤ jfu v (C (e % T.1)) (v (C (e / T.1)) + 1) (C (e' / T.1)) + 1
      by_cases q : x = C (e % T.1)
      · refine ⟨e, by omega, h1, q.symm, ?_⟩
        simp only [jfu]
        rw [if_pos q, if_neg hne]
        exact Nat.le_refl _
      · have hx2 : jfu v (C (e % T.1)) (v (C (e / T.1)) + 1) x = v x := by simp only [jfu]; rw [if_neg q]
        have hx3 : 0 < v x := by
          have hx : 0 < jfu v (C (e % T.1)) (v (C (e / T.1)) + 1) x := hx
          rw [hx2] at hx
          exact hx
        obtain ⟨e', g1, g2, g3, g4⟩ := ih x hx3
        refine ⟨e', g1, g2, g3, ?_⟩
        rw [hx2]
        simp only [jfu]
        split
        · rename_i w
          rw [w] at g4
          omega
        · exact g4
    · rw [h3]; exact ih
theorem lvsp_R {T : jT} {C : Nat → Nat} : ∀ r, lvsp T C (lvR T C r)
  | 0 => fun x hx => absurd hx (Nat.not_lt_zero _)
  | r + 1 => by
    have h := lvsp_F (s := ((lvT T C r).1, false)) (by rw [lvT_R]; exact lvsp_R r) (T.1 * T.1) (Nat.le_refl _)
    have e : (lvF T C (T.1 * T.1) ((lvT T C r).1, false)).1 = lvR T C (r + 1) := by
      show (lvT T C (r + 1)).1 = _
      rw [lvT_R]
    rwa [e] at h
/-- how many other classes lead to class x -/
noncomputable def rho (T : jT) (x : Nat) : Nat := jsum (Mn T) (fun z => pN (z ≠ x ∧ ∃ a b, a < T.1 ∧ b < T.1 ∧ Cl T a = z ∧ Cl T b = x ∧ Rch T a b))
theorem jsum_lt {k : Nat} {f g : Nat → Nat} {z : Nat} (hz : z < k) (h : ∀ i, i < k → f i ≤ g i) (h2 : f z < g z) : jsum k f < jsum k g := by
  induction k with
  | zero => omega
  | succ k ih =>
    simp only [jsum]
    have h3 := h k (by omega)
    by_cases e : z = k
    · subst e
      have := jsum_le (f := f) (g := g) (k := z) (fun i hi => h i (by omega))
      omega
    · have := ih (by omega) (fun i hi => h i (by omega))
      omega
theorem pN_mono {p q : Prop} (h : p → q) : pN p ≤ pN q := by
  rcases Nat.eq_zero_or_pos (pN p) with e | e
  · rw [e]; exact Nat.zero_le _
  · have h1 := pN_pos.mpr (h (pN_pos.mp e))
    have h2 := pN_le p
    omega
theorem pN_f {p : Prop} (h : ¬ p) : pN p = 0 := by
  rcases Nat.eq_zero_or_pos (pN p) with e | e
  · exact e
  · exact absurd (pN_pos.mp e) h
theorem rho_le {T : jT} (x : Nat) : rho T x ≤ Mn T := by
  have := jsum_le (k := Mn T) (f := fun z => pN (z ≠ x ∧ ∃ a b, a < T.1 ∧ b < T.1 ∧ Cl T a = z ∧ Cl T b = x ∧ Rch T a b)) (g := fun _ => 1) (fun i _ => pN_le _)
  rw [jsum_c, Nat.mul_one] at this
  exact this
theorem rho_lt {T : jT} {x : Nat} (hx : x < Mn T) : rho T x < Mn T := by
  have := jsum_lt (k := Mn T) (f := fun z => pN (z ≠ x ∧ ∃ a b, a < T.1 ∧ b < T.1 ∧ Cl T a = z ∧ Cl T b = x ∧ Rch T a b)) (g := fun _ => 1) hx (fun i _ => pN_le _) (by
    show pN (x ≠ x ∧ _) < 1
    rw [pN_f (fun h => h.1 rfl)]
    omega)
  rw [jsum_c, Nat.mul_one] at this
  exact this
theorem rho_step {T : jT} (hT : tv T) {i j : Nat} (h : tb T i j = true) (hne : Cl T i ≠ Cl T j) : rho T (Cl T i) + 1 ≤ rho T (Cl T j) := by
  obtain ⟨hi, hj⟩ := tb_lt hT h
  have hr : Rch T i j := ⟨1, Wr_one h⟩
  refine jsum_lt (z := Cl T i) (Cl_lt hi) (fun z hz => pN_mono ?_) ?_
  · rintro ⟨h1, a, b, ha, hb, h2, h3, h4⟩
    have hb2 := ((Cl_E hT hb hi).mp h3).1
    have haj := rch_trans (rch_trans h4 hb2) hr
    refine ⟨fun e => ?_, a, j, ha, hj, h2, rfl, haj⟩
    have e2 : Cl T a = Cl T j := by rw [h2, e]
    have haj2 := (Cl_E hT ha hj).mp e2
    exact hne ((Cl_E hT hi hj).mpr ⟨hr, rch_trans haj2.2 (rch_trans h4 hb2)⟩)
  · show pN (Cl T i ≠ Cl T i ∧ _) < pN (Cl T i ≠ Cl T j ∧ _)
    rw [pN_f (fun h => h.1 rfl)]
    exact pN_pos.mpr ⟨hne, i, j, hi, hj, rfl, rfl, hr⟩
theorem lvF_rho {T : jT} (hT : tv T) {s : (Nat → Nat) × Bool} (hs : ∀ x, s.1 x ≤ rho T x) : ∀ e, e ≤ T.1 * T.1 → ∀ x, (lvF T (Cl T) e s).1 x ≤ rho T x
  | 0, _ => hs
  | e + 1, he => fun x => by
    have ih := lvF_rho hT hs e (by omega)
    rcases lvF_step (T := T) (C := Cl T) (e := e) (s := s) with ⟨h1, h2, h3⟩ | ⟨h1, h3⟩
    · rw [h3]
      simp only [jfu]
      split
      · rename_i q
        obtain ⟨g1, g2⟩ := lve_ne h1
        have := rho_step hT g2 g1
        have := ih (Cl T (e / T.1))
        rw [q]
        omega
      · exact ih x
    · rw [h3]; exact ih x
theorem lvR_rho {T : jT} (hT : tv T) : ∀ r x, lvR T (Cl T) r x ≤ rho T x
  | 0, x => Nat.zero_le _
  | r + 1, x => by
    have h := lvF_rho hT (s := ((lvT T (Cl T) r).1, false)) (fun x => by rw [lvT_R]; exact lvR_rho hT r x) (T.1 * T.1) (Nat.le_refl _) x
    have e : (lvF T (Cl T) (T.1 * T.1) ((lvT T (Cl T) r).1, false)).1 = lvR T (Cl T) (r + 1) := by
      show (lvT T (Cl T) (r + 1)).1 = _
      rw [lvT_R]
    rwa [e] at h
/-- a round that changes makes the sum greater -/
theorem lvF_sum {T : jT} {v : Nat → Nat} : ∀ e, e ≤ T.1 * T.1 → (lvF T (Cl T) e (v, false)).2 = true → ∃ x, x < Mn T ∧ v x < (lvF T (Cl T) e (v, false)).1 x
  | 0, _, h => by cases h
  | e + 1, he, h => by
    rcases lvF_step (T := T) (C := Cl T) (e := e) (s := (v, false)) with ⟨h1, h2, h3⟩ | ⟨h1, h3⟩
    · rw [h3]
      have h0 : 0 < T.1 := by
        rcases Nat.eq_zero_or_pos T.1 with q | q
        · rw [q] at he; simp at he
        · exact q
      refine ⟨Cl T (e % T.1), Cl_lt (Nat.mod_lt _ h0), ?_⟩
      have := lvF_up (T := T) (C := Cl T) (s := (v, false)) (Cl T (e % T.1)) (Nat.zero_le e)
      have h4 : (lvF T (Cl T) 0 (v, false)).1 (Cl T (e % T.1)) = v (Cl T (e % T.1)) := rfl
      simp only [jfu]
      rw [if_pos trivial]
      omega
    · rw [h3] at h ⊢
      exact lvF_sum e (by omega) h
/-- levels: the reference's last round, and what the class has by then -/
theorem lev_ex {T : jT} (hT : tv T) : ∃ t0, (lvT T (Cl T) t0).2 = false ∧ (∀ t, t < t0 → (lvT T (Cl T) t).2 = true) ∧ (∀ t e x, t < t0 → e < T.1 * T.1 → (lvF T (Cl T) e ((lvT T (Cl T) t).1, false)).1 x ≤ 1000) ∧ (∀ x, (lvT T (Cl T) t0).1 x ≤ 1000) ∧ ∀ x, x < Mn T → lvR T (Cl T) (Mn T) x = (lvT T (Cl T) t0).1 x := by
  have hM : Mn T ≤ 12 := Nat.le_trans (clF_le _ _) hT.1
  have hex : ∃ t, t ≤ 200 ∧ (lvT T (Cl T) t).2 = false := by
    by_cases hx : ∃ t, t ≤ 200 ∧ (lvT T (Cl T) t).2 = false
    · exact hx
    · exfalso
      have hall : ∀ t, t ≤ 200 → (lvT T (Cl T) t).2 = true := fun t ht => by
        cases hq : (lvT T (Cl T) t).2 with
        | true => rfl
        | false => exact absurd ⟨t, ht, hq⟩ hx
      have hsum : ∀ t, t ≤ 200 → t ≤ jsum (Mn T) (lvR T (Cl T) t) := fun t => by
        induction t with
        | zero => exact fun _ => Nat.zero_le _
        | succ t ih =>
          intro ht
          have h1 := ih (by omega)
          have h2 := hall (t + 1) ht
          obtain ⟨x, hx, h3⟩ := lvF_sum (v := (lvT T (Cl T) t).1) (T.1 * T.1) (Nat.le_refl _) h2
          have e : (lvF T (Cl T) (T.1 * T.1) ((lvT T (Cl T) t).1, false)).1 = lvR T (Cl T) (t + 1) := by
            show (lvT T (Cl T) (t + 1)).1 = _
            rw [lvT_R]
          rw [e, lvT_R] at h3
          have := jsum_lt (f := lvR T (Cl T) t) (g := lvR T (Cl T) (t + 1)) hx (fun i _ => lvR_mono t i) h3
          omega
      have h1 := hsum 200 (Nat.le_refl _)
      have h2 := jsum_le (k := Mn T) (f := lvR T (Cl T) 200) (g := fun _ => 12) (fun i _ => Nat.le_trans (lvR_rho hT 200 i) (Nat.le_trans (rho_le i) hM))
      rw [jsum_c] at h2
      have : Mn T * 12 ≤ 12 * 12 := Nat.mul_le_mul_right 12 hM
      omega
  obtain ⟨t1, -, ht1⟩ := hex
  obtain ⟨t0, -, h1, h2⟩ := least_of (p := fun t => (lvT T (Cl T) t).2 = false) t1 t1 (Nat.le_refl _) ht1
  refine ⟨t0, h1, fun t ht => ?_, fun t e x _ he => ?_, fun x => ?_, ?_⟩
  · cases hq : (lvT T (Cl T) t).2 with
    | true => rfl
    | false => exact absurd hq (h2 t ht)
  · have := lvF_rho hT (s := ((lvT T (Cl T) t).1, false)) (fun x => by rw [lvT_R]; exact lvR_rho hT t x) e (Nat.le_of_lt he) x
    have := rho_le (T := T) x
    omega
  · rw [lvT_R]
    have := lvR_rho hT t0 x
    have := rho_le (T := T) x
    omega
  · -- what the class has
    match t0, h1 with
    | 0, h1 => cases h1
    | t + 1, h1 =>
      obtain ⟨g1, g2⟩ := lvF_flag (T.1 * T.1) h1
      have hst : lvst T (Cl T) (lvR T (Cl T) t) := fun e he hl => by
        have := g2 e he hl
        rwa [lvT_R] at this
      have hnext : ∀ d, lvR T (Cl T) (t + d) = lvR T (Cl T) t := fun d => by
        induction d with
        | zero => rfl
        | succ d ih =>
          have h3 := lvF_same hst (T.1 * T.1) (Nat.le_refl _)
          have e : (lvF T (Cl T) (T.1 * T.1) ((lvT T (Cl T) (t + d)).1, false)).1 = lvR T (Cl T) (t + (d + 1)) := by
            show (lvT T (Cl T) (t + (d + 1))).1 = _
            rw [lvT_R]
          rw [← e, lvT_R, ih, h3]
      have hle : ∀ r x, lvR T (Cl T) r x ≤ lvR T (Cl T) t x := fun r x => by
        rcases Nat.le_total r t with q | q
        · have := lvR_up (T := T) (C := Cl T) (r := r) x (t - r)
          rwa [show r + (t - r) = t by omega] at this
        · rw [show r = t + (r - t) by omega, hnext]
          exact Nat.le_refl _
      have hmin : ∀ r x, min r (lvR T (Cl T) t x) ≤ lvR T (Cl T) r x := fun r => by
        induction r with
        | zero => intro x; exact Nat.le_trans (Nat.min_le_left _ _) (Nat.zero_le _)
        | succ r ih =>
          intro x
          rcases Nat.eq_zero_or_pos (lvR T (Cl T) t x) with q | q
          · rw [q]; exact Nat.le_trans (Nat.min_le_right _ _) (Nat.zero_le _)
          · obtain ⟨e, k1, k2, k3, k4⟩ := lvsp_R t x q
            have k5 := ih (Cl T (e / T.1))
            have k6 := lvF_up (T := T) (C := Cl T) (s := ((lvT T (Cl T) r).1, false)) (Cl T (e / T.1)) (Nat.zero_le e)
            have k7 : (lvF T (Cl T) 0 ((lvT T (Cl T) r).1, false)).1 (Cl T (e / T.1)) = lvR T (Cl T) r (Cl T (e / T.1)) := by
              show (lvT T (Cl T) r).1 _ = _
              rw [lvT_R]
            have k8 : (lvF T (Cl T) e ((lvT T (Cl T) r).1, false)).1 (Cl T (e / T.1)) + 1 ≤ (lvF T (Cl T) (e + 1) ((lvT T (Cl T) r).1, false)).1 x := by
              rcases lvF_step (T := T) (C := Cl T) (e := e) (s := ((lvT T (Cl T) r).1, false)) with ⟨m1, m2, m3⟩ | ⟨m1, m3⟩
              · rw [m3]
                simp only [jfu]
                rw [if_pos k3.symm]
                exact Nat.le_refl _
              · rw [m3]
                have := m1.resolve_left (fun z => z k2)
                rw [k3] at this
                exact this
            have k9 := lvF_up (T := T) (C := Cl T) (s := ((lvT T (Cl T) r).1, false)) x (show e + 1 ≤ T.1 * T.1 by omega)
            have k10 : (lvF T (Cl T) (T.1 * T.1) ((lvT T (Cl T) r).1, false)).1 x = lvR T (Cl T) (r + 1) x := by
              show (lvT T (Cl T) (r + 1)).1 x = _
              rw [lvT_R]
            omega
      intro x hx
      rw [lvT_R, hnext 1]
      have m1 := hmin (Mn T) x
      have m2 := hle (Mn T) x
      have m3 := lvR_rho hT t x
      have m4 := rho_lt hx
      omega
theorem lev_cls {T : jT} (hT : tv T) (r : Nat) : lvR T (rHm T) r = lvR T (Cl T) r := lvR_cg (fun z hz => rHm_C hT hz) r

def ful (f : Nat → Nat) (a : Nat) : Prop := (jsh a).2 ≤ f a ∨ (((jsh a).1 = 20 ∨ (jsh a).1 = 21) ∧ ∀ k, jh0 a k = 0)
theorem ful_cg {f g : Nat → Nat} {a : Nat} (h : g a = f a) (q : ful f a) : ful g a := by
  unfold ful at q ⊢
  rw [h]
  exact q
/-- what a constructor of t leaves: all from t to zE stands -/
def iG (f : Nat → Nat) (t zE : Nat) (f' : Nat → Nat) : Prop := ifr f' zE ∧ (∀ a, a < t → f' a = f a) ∧ ∀ a, t ≤ a → a < zE → ful f' a
/-- under way: t has v entries, x and y are rows being filled -/
def iPr (f : Nat → Nat) (t z v x vx y vy : Nat) (f' : Nat → Nat) : Prop := ifr f' z ∧ (∀ a, a < t → f' a = f a) ∧ f' t = v ∧ f' x = vx ∧ f' y = vy ∧ ∀ a, t < a → a < z → a ≠ x → a ≠ y → ful f' a
theorem pr_ini {f : Nat → Nat} {t : Nat} (h : ifr f t) (ht : t < 152) : iPr f t (t + 1) 0 200 0 200 0 f := ⟨ifr_le h (by omega), fun _ _ => rfl, h t (Nat.le_refl _), h _ (by omega), h _ (by omega), fun a h1 h2 => by omega⟩
theorem pr_sub {f f1 f2 : Nat → Nat} {t z z' v x vx y vy : Nat} (h : iPr f t z v x vx y vy f1) (g : iG f1 z z' f2) (htz : t < z) (hx : x < z ∨ x = 200) (hy : y < z ∨ y = 200) (hz : z ≤ z') (hz' : z' ≤ 152) : iPr f t z' v x vx y vy f2 := by
  obtain ⟨h1, h2, h3, h4, h5, h6⟩ := h
  obtain ⟨g1, g2, g3⟩ := g
  refine ⟨g1, fun a ha => (g2 a (by omega)).trans (h2 a ha), (g2 t htz).trans h3, ?_, ?_, fun a a1 a2 a3 a4 => ?_⟩
  · rcases hx with q | q
    · exact (g2 x q).trans h4
    · rw [g1 x (by omega), ← h4, h1 x (by omega)]
  · rcases hy with q | q
    · exact (g2 y q).trans h5
    · rw [g1 y (by omega), ← h5, h1 y (by omega)]
  · by_cases q : a < z
    · exact ful_cg (g2 a q) (h6 a a1 q a3 a4)
    · exact g3 a (by omega) a2
theorem pr_arr {f f1 : Nat → Nat} {t z v x vx y vy : Nat} (h : iPr f t z v x vx y vy f1) (hi : (jsh z).1 = 20 ∨ (jsh z).1 = 21) (h0 : ∀ k, jh0 z k = 0) : iPr f t (z + 1) v x vx y vy f1 := by
  obtain ⟨h1, h2, h3, h4, h5, h6⟩ := h
  refine ⟨ifr_le h1 (by omega), h2, h3, h4, h5, fun a a1 a2 a3 a4 => ?_⟩
  by_cases q : a = z
  · subst q; exact Or.inr ⟨hi, h0⟩
  · exact h6 a a1 (by omega) a3 a4
theorem pr_put {f f1 : Nat → Nat} {t z v x vx y vy w : Nat} (h : iPr f t z v x vx y vy f1) (hx : x ≠ t) (hy : y ≠ t) (htz : t < z) : iPr f t z w x vx y vy (iup f1 t w) := by
  obtain ⟨h1, h2, h3, h4, h5, h6⟩ := h
  exact ⟨ifr_up h1 htz, fun a ha => (iup_ne (by omega)).trans (h2 a ha), iup_eq _ _ _, (iup_ne hx).trans h4, (iup_ne hy).trans h5, fun a a1 a2 a3 a4 => ful_cg (iup_ne (by omega)) (h6 a a1 a2 a3 a4)⟩
theorem pr_newx {f f1 : Nat → Nat} {t z v y vy : Nat} (h : iPr f t z v 200 0 y vy f1) (hz : z < 152) : iPr f t (z + 1) v z 0 y vy f1 := by
  obtain ⟨h1, h2, h3, h4, h5, h6⟩ := h
  exact ⟨ifr_le h1 (by omega), h2, h3, h1 z (Nat.le_refl _), h5, fun a a1 a2 a3 a4 => h6 a a1 (by omega) (by omega) a4⟩
theorem pr_newy {f f1 : Nat → Nat} {t z v x vx : Nat} (h : iPr f t z v x vx 200 0 f1) (hz : z < 152) : iPr f t (z + 1) v x vx z 0 f1 := by
  obtain ⟨h1, h2, h3, h4, h5, h6⟩ := h
  exact ⟨ifr_le h1 (by omega), h2, h3, h4, h1 z (Nat.le_refl _), fun a a1 a2 a3 a4 => h6 a a1 (by omega) a3 (by omega)⟩
theorem pr_stx {f f1 : Nat → Nat} {t z v x vx y vy w : Nat} (h : iPr f t z v x vx y vy f1) (hx : x < z) (hxt : t < x) (hxy : y ≠ x) : iPr f t z v x w y vy (iup f1 x w) := by
  obtain ⟨h1, h2, h3, h4, h5, h6⟩ := h
  exact ⟨ifr_up h1 hx, fun a ha => (iup_ne (by omega)).trans (h2 a ha), (iup_ne (by omega)).trans h3, iup_eq _ _ _, (iup_ne hxy).trans h5, fun a a1 a2 a3 a4 => ful_cg (iup_ne a3) (h6 a a1 a2 a3 a4)⟩
theorem pr_sty {f f1 : Nat → Nat} {t z v x vx y vy w : Nat} (h : iPr f t z v x vx y vy f1) (hy : y < z) (hyt : t < y) (hxy : x ≠ y) : iPr f t z v x vx y w (iup f1 y w) := by
  obtain ⟨h1, h2, h3, h4, h5, h6⟩ := h
  exact ⟨ifr_up h1 hy, fun a ha => (iup_ne (by omega)).trans (h2 a ha), (iup_ne (by omega)).trans h3, (iup_ne hxy).trans h4, iup_eq _ _ _, fun a a1 a2 a3 a4 => ful_cg (iup_ne a4) (h6 a a1 a2 a3 a4)⟩
theorem pr_offx {f f1 : Nat → Nat} {t z v x vx y vy : Nat} (h : iPr f t z v x vx y vy f1) (hN : (jsh x).2 ≤ vx) (hz : z ≤ 152) : iPr f t z v 200 0 y vy f1 := by
  obtain ⟨h1, h2, h3, h4, h5, h6⟩ := h
  refine ⟨h1, h2, h3, h1 _ (by omega), h5, fun a a1 a2 a3 a4 => ?_⟩
  by_cases q : a = x
  · subst q; exact Or.inl (by rw [h4]; exact hN)
  · exact h6 a a1 a2 q a4
theorem pr_offy {f f1 : Nat → Nat} {t z v x vx y vy : Nat} (h : iPr f t z v x vx y vy f1) (hN : (jsh y).2 ≤ vy) (hz : z ≤ 152) : iPr f t z v x vx 200 0 f1 := by
  obtain ⟨h1, h2, h3, h4, h5, h6⟩ := h
  refine ⟨h1, h2, h3, h4, h1 _ (by omega), fun a a1 a2 a3 a4 => ?_⟩
  by_cases q : a = y
  · subst q; exact Or.inl (by rw [h5]; exact hN)
  · exact h6 a a1 a2 a3 q
theorem pr_end {f f1 : Nat → Nat} {t z v : Nat} (h : iPr f t z v 200 0 200 0 f1) (hN : (jsh t).2 ≤ v) (hz : z ≤ 152) : iG f t z f1 := by
  obtain ⟨h1, h2, h3, h4, h5, h6⟩ := h
  refine ⟨h1, h2, fun a a1 a2 => ?_⟩
  by_cases q : a = t
  · subst q; exact Or.inl (by rw [h3]; exact hN)
  · exact h6 a (by omega) a2 (by omega) (by omega)
abbrev ok0 (a : Nat) : Prop := a ≠ 127 ∧ a ≠ 129 ∧ a ≠ 131 ∧ a ≠ 133 ∧ a ≠ 149
theorem ok0_z {a : Nat} (h : ok0 a) (k : Nat) : jh0 a k = 0 := by
  unfold jh0
  rw [if_neg (by have := h; unfold ok0 at this; omega), if_neg (by have := h; unfold ok0 at this; omega)]
abbrev isN (t : Nat) : Prop := jsh t = (7, 2) ∧ jrf t 1 = t + 1 ∧ jsh (t + 1) = (20, 12) ∧ ok0 t ∧ ok0 (t + 1)
abbrev isL (t : Nat) : Prop := jsh t = (1, 3) ∧ jrf t 2 = t + 1 ∧ ok0 t ∧ isN (t + 1)
abbrev isSh (t : Nat) : Prop := jsh t = (5, 3) ∧ jrf t 2 = t + 1 ∧ jsh (t + 1) = (20, 40) ∧ ok0 (t + 1)
theorem jh0_1 {t k : Nat} (hk : k = 1) (ht : t ≠ 149) : jh0 t k = 0 := by
  unfold jh0
  rw [if_neg (by omega), if_neg (by omega)]
theorem pr_v {f f1 : Nat → Nat} {t z v x vx y vy : Nat} (h : iPr f t z v x vx y vy f1) : f1 t = v := h.2.2.1
theorem pr_x {f f1 : Nat → Nat} {t z v x vx y vy : Nat} (h : iPr f t z v x vx y vy f1) : f1 x = vx := h.2.2.2.1
theorem pr_y {f f1 : Nat → Nat} {t z v x vx y vy : Nat} (h : iPr f t z v x vx y vy f1) : f1 y = vy := h.2.2.2.2.1
theorem pr_fr {f f1 : Nat → Nat} {t z v x vx y vy : Nat} (h : iPr f t z v x vx y vy f1) : ifr f1 z := h.1
/-- a table's constructor -/
theorem ic_Table {n : jN} {t : Nat} {f : Nat → Nat} (ht : isN t) (h : ifr f t) : iC n 0 jy_Table_init jc_Table_init 1 [.ref t] (t + 1) f (t + 2) (iG f t (t + 2)) := by
  obtain ⟨h1, h2, h3, h4, h5⟩ := ht
  have hb := jsh_lt h3 (by omega)
  have p0 := pr_ini h (by omega)
  have p1 : iPr f t (t + 2) 0 200 0 200 0 f := pr_arr p0 (by rw [h3]; exact Or.inl rfl) (ok0_z h5)
  have p2 : iPr f t (t + 2) 2 200 0 200 0 (iup f t 2) := pr_put p1 (by omega) (by omega) (by omega)
  refine iC_of (L := [some (.ref t)]) jm_Table_init rfl (Nat.le_of_ble_eq_true rfl) rfl ?_
  refine i_aload_n d_Table_init_0 rfl ?_
  refine i_obj d_Table_init_1 jk_Table_3 jo_in jo_co (by decide) (by omega) ?_
  refine i_aload_n d_Table_init_4 rfl ?_
  refine i_bipush (v := nI 12) d_Table_init_5 rfl ?_
  refine i_newa d_Table_init_7 ja_int rfl h3 (by decide) (pr_fr p0 _ (Nat.le_refl _)) (by omega) (by omega) ?_
  refine i_putr d_Table_init_9 if_Table_11 h1 (by omega) rfl h2 (by omega) (by rw [pr_v p1]; omega) (fun g _ q => ?_) ?_
  · rw [show g = 0 by omega]
    exact ⟨rfl, ok0_z h4 0⟩
  exact i_exit ⟨d_Table_init_12, rfl, rfl, pr_end p2 (by rw [h1]; exact Nat.le_refl _) (by omega)⟩
/-- a link's -/
theorem ic_Link {n : jN} {t : Nat} {f : Nat → Nat} (ht : isL t) (h : ifr f t) : iC n 1 jy_Link_init jc_Link_init 1 [.ref t] (t + 1) f (t + 3) (iG f t (t + 3)) := by
  obtain ⟨h1, h2, h4, h5⟩ := ht
  have hb := jsh_lt h5.2.2.1 (by omega)
  have p0 := pr_ini h (by omega)
  refine iC_of (L := [some (.ref t)]) jm_Link_init rfl (Nat.le_of_ble_eq_true rfl) rfl ?_
  refine i_aload_n d_Link_init_0 rfl ?_
  refine i_obj d_Link_init_1 jk_Link_1 jo_in jo_co (by decide) (by omega) ?_
  refine i_aload_n d_Link_init_4 rfl ?_
  refine i_new d_Link_init_5 jn_Link_7 h5.1 (pr_fr p0 _ (Nat.le_refl _)) (by omega) (by omega) ?_
  refine i_dup d_Link_init_8 rfl ?_
  refine i_callN (As := []) (st := [.ref (t + 1), .ref t]) (ic_Table h5 (pr_fr p0)) d_Link_init_9 (by decide) jm_Table_init jk_Link_9 ji_Table_init rfl (by omega) rfl (Nat.le_of_ble_eq_true rfl) rfl (by omega) (by omega) (by omega) (fun f1 g1 => ?_)
  have p1 : iPr f t (t + 3) 0 200 0 200 0 f1 := pr_sub p0 g1 (by omega) (Or.inr rfl) (Or.inr rfl) (by omega) (by omega)
  have p2 : iPr f t (t + 3) 3 200 0 200 0 (iup f1 t 3) := pr_put p1 (by omega) (by omega) (by omega)
  refine i_putr d_Link_init_12 if_Link_10 h1 (by omega) rfl h2 (by omega) (by rw [pr_v p1]; omega) (fun g _ q => ?_) ?_
  · rcases (show g = 0 ∨ g = 1 by omega) with e | e <;> subst e
    · exact ⟨rfl, ok0_z h4 0⟩
    · exact ⟨rfl, ok0_z h4 1⟩
  exact i_exit ⟨d_Link_init_15, rfl, rfl, pr_end p2 (by rw [h1]; exact Nat.le_refl _) (by omega)⟩
/-- a sheet's -/
theorem ic_Sheet {n : jN} {t : Nat} {f : Nat → Nat} (ht : isSh t) (hm : jh0 t 0 = -1) (h : ifr f t) : iC n 0 jy_Sheet_init jc_Sheet_init 1 [.ref t] (t + 1) f (t + 2) (iG f t (t + 2)) := by
  obtain ⟨h1, h2, h3, h5⟩ := ht
  have hb := jsh_lt h3 (by omega)
  have p0 := pr_ini h (by omega)
  have p1 : iPr f t (t + 1) 1 200 0 200 0 (iup f t 1) := pr_put p0 (by omega) (by omega) (by omega)
  have p2 : iPr f t (t + 2) 1 200 0 200 0 (iup f t 1) := pr_arr p1 (by rw [h3]; exact Or.inl rfl) (ok0_z h5)
  have p3 : iPr f t (t + 2) 3 200 0 200 0 (iup (iup f t 1) t 3) := pr_put p2 (by omega) (by omega) (by omega)
  refine iC_of (L := [some (.ref t)]) jm_Sheet_init rfl (Nat.le_of_ble_eq_true rfl) rfl ?_
  refine i_aload_n d_Sheet_init_0 rfl ?_
  refine i_obj d_Sheet_init_1 jk_Sheet_1 jo_in jo_co (by decide) (by omega) ?_
  refine i_aload_n d_Sheet_init_4 rfl ?_
  refine i_iconst (v := -1) d_Sheet_init_5 rfl ?_
  refine i_puti d_Sheet_init_6 jf_Sheet_7 h1 (by omega) rfl hm.symm (by rw [pr_v p0]; omega) (fun g _ q => absurd q (by omega)) ?_
  refine i_aload_n d_Sheet_init_9 rfl ?_
  refine i_bipush (v := nI 40) d_Sheet_init_10 rfl ?_
  refine i_newa d_Sheet_init_12 ja_int rfl h3 (by decide) (pr_fr p1 _ (Nat.le_refl _)) (by omega) (by omega) ?_
  refine i_putr d_Sheet_init_14 if_Sheet_13 h1 (by omega) rfl h2 (by omega) (by rw [pr_v p2]; omega) (fun g q0 q => ?_) ?_
  · rw [pr_v p2] at q0
    rw [show g = 1 by omega]
    refine ⟨rfl, jh0_1 rfl (fun e => ?_)⟩
    subst e
    exact absurd h1 (by decide)
  exact i_exit ⟨d_Sheet_init_17, rfl, rfl, pr_end p3 (by rw [h1]; exact Nat.le_refl _) (by omega)⟩

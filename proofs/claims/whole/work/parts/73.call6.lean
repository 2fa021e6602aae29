theorem gt_o {kd o l q : Nat} {R : jP} (h : q < 34) : gt kd o l R q = R q := by
  unfold gt
  show jset _ 34 _ q = _
  rw [jset_ne (by omega)]
  split
  · exact jset_ne (by omega)
  split
  · rw [jset_ne (by omega), jset_ne (by omega)]
  split
  · exact jset_ne (by omega)
  split
  · rw [jset_ne (by omega), jset_ne (by omega)]
  split
  · exact pwP_o h
  split
  · exact clS_o (by omega) (by omega) (by omega) _
  · rw [jset_ne (by omega), jset_ne (by omega)]
theorem gt_34 {kd o l : Nat} {R : jP} (hl : l < 8) (h7 : kd < 7) (hv : tv (R 34)) (h4 : kd = 4 → o < 100) (h3 : kd = 3 → o < 6) : gt kd o l R 34 = chT kd o (R 34) (otv R (fun z => R (26 + z)) kd o l) := by
  unfold gt chT otv
  show jset _ 34 _ 34 = _
  rw [jset_eq]
  rcases (show kd = 0 ∨ kd = 1 ∨ kd = 2 ∨ kd = 3 ∨ kd = 4 ∨ kd = 5 ∨ kd = 6 by omega) with e | e | e | e | e | e | e <;> subst e
  · show jset R 35 (ttr (R 34)) 35 = ttr (R 34)
    exact jset_eq
  · show jset (jset R 35 (R 34)) 35 (tco (jset R 35 (R 34) 35)) 35 = _
    rw [jset_eq, jset_eq]
    rfl
  · show jset R 35 (tmul (R 34) (R (26 + l))) 35 = tmul (R 34) (R (26 + l))
    exact jset_eq
  · have := h3 rfl
    show jset (jset R 35 (R 34)) 35 (tadd (jset R 35 (R 34) 35) (jset R 35 (R 34) o)) 35 = tadd (R 34) (R o)
    rw [jset_eq, jset_eq, jset_ne (by omega)]
  · have := h4 rfl
    show pwP R 34 o 35 = rq (R 34) o 20
    rw [pwP_35 hv (by omega) (by omega), rq_20 hv (by omega)]
  · show jit (clS 35 34) (R 34).1 (clO 35 34 R) 35 = tclo (R 34)
    exact clS_clo (by omega) (by omega) (by omega) (by omega) (by omega) hv
  · show jset (jset R 35 (R 34)) 35 (tmeet (jset R 35 (R 34) 35) (jset R 35 (R 34) (26 + l))) 35 = tmeet (R 34) (R (26 + l))
    rw [jset_eq, jset_eq, jset_ne (by omega)]
theorem goP_o {kd o : Nat → Nat} {R : jP} {q : Nat} (h : q < 34) : ∀ l, goP kd o l R q = R q
  | 0 => rfl
  | l + 1 => (gt_o h).trans (goP_o h l)
theorem tv_chT {kd o : Nat} {M O : jT} (hM : tv M) (hO : kd = 2 ∨ kd = 3 → tv O ∧ M.1 = O.1) (h7 : kd < 7) (h4 : kd = 4 → o < 100) : tv (chT kd o M O) := by
  unfold chT
  split
  · exact tv_tr hM
  split
  · exact tv_co hM
  split
  · exact tv_mul hM (hO (by omega)).1 (hO (by omega)).2
  split
  · exact tv_add hM (hO (by omega)).1 (hO (by omega)).2
  split
  · rename_i e
    exact tv_pwq hM (by have := h4 e; omega)
  split
  · exact tv_clo hM
  · exact tv_meet hM
theorem otv_cg {P R : jP} {kd o l : Nat} (hR : ∀ q, q < 34 → R q = P q) (hl : l < 8) (h3 : kd = 3 → o < 6) : otv R (fun z => R (26 + z)) kd o l = otv P (fun z => P (26 + z)) kd o l := by
  unfold otv
  split
  · rename_i e
    have := h3 e
    exact hR o (by omega)
  · exact hR _ (by omega)
/-- a run, both ways -/
theorem go_mv {P : jP} {kd o : Nat → Nat} {s c : Nat} (hv : ∀ q, q < 34 → tv (P q)) (hs : s < 6) (hc : c ≤ 8) (h7 : ∀ l, l < c → kd l < 7) (ho : ∀ l, l < c → o l < 100) (h3 : ∀ l, l < c → kd l = 3 → o l < 6) : ∀ m, m ≤ c → (∀ l, l < m → kd l = 2 ∨ kd l = 3 ∨ kd l = 6 → (otv P (fun z => P (26 + z)) (kd l) (o l) l).1 = (mvS P (fun z => P (26 + z)) kd o (P s) l).1) → goP kd o m (jset P 34 (P s)) 34 = mvS P (fun z => P (26 + z)) kd o (P s) m ∧ tv (mvS P (fun z => P (26 + z)) kd o (P s) m)
  | 0, _, _ => ⟨jset_eq, hv s (by omega)⟩
  | m + 1, hm, hn => by
    obtain ⟨i1, i2⟩ := go_mv hv hs hc h7 ho h3 m (by omega) (fun l hl => hn l (by omega))
    have hR : ∀ q, q < 34 → goP kd o m (jset P 34 (P s)) q = P q := fun q hq => (goP_o hq m).trans (jset_ne (by omega))
    have e : goP kd o (m + 1) (jset P 34 (P s)) 34 = mvS P (fun z => P (26 + z)) kd o (P s) (m + 1) := by
      show gt (kd m) (o m) m (goP kd o m (jset P 34 (P s))) 34 = chT (kd m) (o m) (mvS P (fun z => P (26 + z)) kd o (P s) m) (otv P (fun z => P (26 + z)) (kd m) (o m) m)
      rw [gt_34 (by omega) (h7 m (by omega)) (by rw [i1]; exact i2) (fun _ => ho m (by omega)) (h3 m (by omega)), i1, otv_cg hR (by omega) (h3 m (by omega))]
    refine ⟨e, tv_chT i2 (fun h => ⟨?_, (hn m (by omega) (by omega)).symm⟩) (h7 m (by omega)) (fun _ => ho m (by omega))⟩
    unfold otv
    split
    · rename_i e
      have := h3 m (by omega) e
      exact hv _ (by omega)
    · exact hv _ (by omega)
theorem stp_v {P R : jP} {kd o l : Nat} {M : jT} (hR : ∀ q, q < 34 → R q = P q) (hM : R 34 = M) (h0 : 0 < M.1) (hl : l < 8) (h3 : kd = 3 → o < 6) : stp kd o l R = if (kd = 2 ∨ kd = 3 ∨ kd = 6) ∧ ¬ (otv P (fun z => P (26 + z)) kd o l).1 = M.1 then rsnW o (otv P (fun z => P (26 + z)) kd o l).1 else 0 := by
  unfold stp
  have e : kd = 2 ∨ kd = 3 ∨ kd = 6 → R (oth kd o l) = otv P (fun z => P (26 + z)) kd o l := fun _ => by
    unfold oth otv
    split
    · rename_i e
      have := h3 e
      exact hR o (by omega)
    · exact hR _ (by omega)
  by_cases h : kd = 2 ∨ kd = 3 ∨ kd = 6
  · rw [if_pos h, e h, hM]
    generalize (otv P (fun z => P (26 + z)) kd o l).1 = y
    unfold rsnW
    by_cases a : y = 0
    · rw [if_pos a, if_pos ⟨h, by omega⟩, if_pos a]
    · rw [if_neg a]
      by_cases b : y = M.1
      · rw [if_pos b, if_neg (fun z => z.2 b)]
      · rw [if_neg b, if_pos ⟨h, b⟩, if_neg a]
  · rw [if_neg h, if_neg (fun z => h z.1)]
theorem rsnW_b {o m : Nat} (ho : o < 100) (hm : m ≤ 12) : rsnW o m < 2 ^ 31 ∧ ¬ rsnW o m = 0 := by
  unfold rsnW
  split <;> omega
/-- the class's cells behind a run -/
theorem InvC_run {h Y : jH} {P : jP} {ls : Nat → Nat} {lg : Nat} {ch : Nat × (Nat → Nat) × (Nat → Nat)} {cr cr' : Nat × Nat × (Nat → Nat)} {sh : (Nat → Int32) × (Nat → Nat) × (Nat → Nat → Int32)} (hI : InvC h P ls lg ch cr sh) (hf : ∀ a, (a < 75 ∨ 88 < a) → Y a = h a) (h0 : Y 75 0 = h 75 0) (h1 : Y 75 1 = nI 0) (hc : crc Y cr'.1 cr'.2.1 cr'.2.2) : InvC Y P ls lg ch cr' sh := by
  obtain ⟨i1, i2, ⟨l0, l1, l2, l3⟩, i4, i5⟩ := hI
  refine ⟨slo_cg i1 (fun a _ _ => hf a (by omega)) (fun _ _ => rfl), lgc_cg i2 (fun a _ _ => hf a (by omega)) (fun _ _ => rfl), ⟨h0.trans l0, l1, h1, fun l hl => ?_⟩, hc, shl_cg i5 (fun a _ _ => hf a (by omega))⟩
  obtain ⟨k1, k2, k3, k4, k5, k6⟩ := l3 l hl
  refine ⟨by rw [hf _ (by omega)]; exact k1, k2, fun e => by rw [hf _ (by omega)]; exact k3 e, k4, k5, fun e => ?_⟩
  obtain ⟨m1, m2⟩ := k6 e
  exact ⟨rep_cg m1 (hf _ (by omega)) (hf _ (by omega)), m2⟩
theorem pass_Y {h : jH} {P : jP} {Q : Nat → jT} {kd o : Nat → Nat} {T : jT} {c : Nat} {rv : Nat → Nat} (h1 : h 75 1 = nI 0) : (∀ a, (a < 75 ∨ 88 < a) → gbH (psH h P Q kd o T c) c c a = h a) ∧ gbH (psH h P Q kd o T c) c c 75 0 = h 75 0 ∧ gbH (psH h P Q kd o T c) c c 75 1 = nI 0 ∧ crc (gbH (psH h P Q kd o T c) c c) c 0 rv := by
  obtain ⟨v0, v1, v2, v3, v4⟩ := psH_v (P := P) (Q := Q) (kd := kd) (o := o) (T := T) h1 c
  obtain ⟨g1, g2, g3, g4, g5⟩ := gbH_v v1 v2 c (Nat.le_refl _)
  refine ⟨fun a ha => (gbH_f (by omega) (by omega) c).trans (psH_f (by omega) (by omega) c), g3.trans v0, by rw [g1, Nat.sub_self], g2, g4.trans v3, g5, fun j hj => absurd hj (Nat.not_lt_zero j)⟩
def rv3 (a b c : Nat) : Nat → Nat := fun j => if j = 0 then a else if j = 1 then b else c
theorem pass_Z {h : jH} {P : jP} {Q : Nat → jT} {kd o : Nat → Nat} {s l0 : Nat} (h1 : h 75 1 = nI 0) : (∀ a, (a < 75 ∨ 88 < a) → gbH (psR h P Q kd o s l0) (l0 + 1) (l0 + 1) a = h a) ∧ gbH (psR h P Q kd o s l0) (l0 + 1) (l0 + 1) 75 0 = h 75 0 ∧ gbH (psR h P Q kd o s l0) (l0 + 1) (l0 + 1) 75 1 = nI 0 ∧ crc (gbH (psR h P Q kd o s l0) (l0 + 1) (l0 + 1)) (l0 + 1) 3 (rv3 l0 (kd l0) (rsnW (o l0) (otv P Q (kd l0) (o l0) l0).1)) := by
  obtain ⟨v0, v1, v2, v3, v4⟩ := psH_v (P := P) (Q := Q) (kd := kd) (o := o) (T := P s) h1 l0
  have r1 : psR h P Q kd o s l0 75 1 = nI (l0 + 1) := by simp [psR, psW, jup2]
  have r2 : psR h P Q kd o s l0 75 2 = nI 0 := by simp [psR, psW, jup2, v2]
  have r0 : psR h P Q kd o s l0 75 0 = h 75 0 := by simp [psR, psW, jup2, v0]
  have r3 : psR h P Q kd o s l0 75 3 = nI 3 := by simp [psR, jup2]
  obtain ⟨g1, g2, g3, g4, g5⟩ := gbH_v r1 r2 (l0 + 1) (Nat.le_refl _)
  refine ⟨fun a ha => (gbH_f (by omega) (by omega) _).trans ?_, g3.trans r0, by rw [g1, Nat.sub_self], g2, g4.trans r3, g5, fun j hj => ?_⟩
  · unfold psR
    rw [jup2_f (by omega), jup2_f (by omega), jup2_f (by omega), jup2_f (by omega), psW_f (by omega) (by omega), psH_f (by omega) (by omega)]
  · rw [gbH_f (by decide) (by decide)]
    rcases (show j = 0 ∨ j = 1 ∨ j = 2 by omega) with e | e | e <;> subst e <;> simp [psR, jup2, rv3]
/-- the reference's cells behind a run -/
theorem InvG_run {X G : jH} {ls : Nat → Nat} {lg : Nat} {ch : Nat × (Nat → Nat) × (Nat → Nat)} {cr : Nat × Nat × (Nat → Nat)} {sh : (Nat → Int32) × (Nat → Nat) × (Nat → Nat → Int32)} {a b : Nat} {rv : Nat → Nat} (hg : InvG X ls lg ch cr sh) (hG : ∀ a, a ≠ 135 → a ≠ 141 → G a = X a) (hG2 : ∀ k, k ≠ 7 → k ≠ 8 → G 135 k = X 135 k) (h7 : G 135 7 = nI a) (h8 : G 135 8 = nI b) (h136 : ∀ j, j < b → G 141 j = nI (rv j)) : InvG G ls lg ch (a, b, rv) sh := by
  obtain ⟨g1, g2, ⟨g3, g4⟩, -, ⟨my, g8⟩, g9, g10, g11⟩ := hg
  refine ⟨by rw [hG _ (by decide) (by decide)]; exact g1, (hG2 2 (by decide) (by decide)).trans g2, ⟨(hG2 4 (by decide) (by decide)).trans g3, fun l hl => ?_⟩, ⟨h7, h8, h136⟩, ⟨my, (hG2 13 (by decide) (by decide)).trans g8⟩, by rw [hG _ (by decide) (by decide)]; exact g9, by rw [hG _ (by decide) (by decide)]; exact g10, by rw [hG _ (by decide) (by decide)]; exact g11⟩
  rw [hG 139 (by decide) (by decide), hG 140 (by decide) (by decide)]
  exact g4 l hl
theorem k_would {n : jN} {h : jH} (hI : Inv h) (a : Int32) : ∃ (v : Int32) (h1 h2 : jH), jC n 5 jy_Main_would jc_Main_would 3 (some .int) [.ref 0, .int a] h (some (.int v)) h1 ∧ jC n 5 jy_Model_would jc_Model_would 3 (some .int) [.ref 135, .int a] h1 (some (.int v)) h2 ∧ Inv h2 := by
  obtain ⟨P, ls, lg, ch, cr, sh, hI⟩ := hI
  obtain ⟨⟨hw, hv, hlg, hls, ⟨hcl, hrs⟩, hsz, hms⟩, ⟨hP, ⟨nx, hnx, hn20, hsz3, hring⟩, hlk, hcr, hsh⟩, hg, hp⟩ := id hI
  cases hb : jho P a with
  | false => exact ⟨_, _, _, x_would_bad hw hP hb, in_M hp (c_would_bad hw hb), asm_q0 hI sfr_refl⟩
  | true =>
    obtain ⟨s, hs, h0, rfl⟩ := jho_t hb
    have hT := hv s (by omega)
    have hc8 := hlk.2.1
    have hl3 := hlk.2.2.2
    have h7 : ∀ l, l < ch.1 → ch.2.1 l < 7 := fun l hl => (hl3 l hl).2.1
    have ho : ∀ l, l < ch.1 → ch.2.2 l < 100 := fun l hl => (hl3 l hl).2.2.2.1
    have h3 : ∀ l, l < ch.1 → ch.2.1 l = 3 → ch.2.2 l < 6 := fun l hl => (hl3 l hl).2.2.2.2.1
    have h99 : ∀ l, l < ch.1 → ch.2.1 l = 4 → ch.2.2 l ≤ 99 := fun l hl _ => by have := ho l hl; omega
    have hgo := go_mv (kd := ch.2.1) (o := ch.2.2) hv hs hc8 h7 ho h3
    have hR : ∀ m q, q < 34 → goP ch.2.1 ch.2.2 m (jset P 34 (P s)) q = P q := fun m q hq => (goP_o hq m).trans (jset_ne (by omega))
    by_cases hx : ∃ l, l < ch.1 ∧ (ch.2.1 l = 2 ∨ ch.2.1 l = 3 ∨ ch.2.1 l = 6) ∧ ¬ (otv P (fun z => P (26 + z)) (ch.2.1 l) (ch.2.2 l) l).1 = (mvS P (fun z => P (26 + z)) ch.2.1 ch.2.2 (P s) l).1
    · obtain ⟨l1, hl1⟩ := hx
      obtain ⟨l0, hle, ⟨hl0, hk, hst⟩, hmin⟩ := least_of (p := fun l => l < ch.1 ∧ (ch.2.1 l = 2 ∨ ch.2.1 l = 3 ∨ ch.2.1 l = 6) ∧ ¬ (otv P (fun z => P (26 + z)) (ch.2.1 l) (ch.2.2 l) l).1 = (mvS P (fun z => P (26 + z)) ch.2.1 ch.2.2 (P s) l).1) l1 l1 (Nat.le_refl _) hl1
      have hns : ∀ l, l < l0 → ch.2.1 l = 2 ∨ ch.2.1 l = 3 ∨ ch.2.1 l = 6 → (otv P (fun z => P (26 + z)) (ch.2.1 l) (ch.2.2 l) l).1 = (mvS P (fun z => P (26 + z)) ch.2.1 ch.2.2 (P s) l).1 := fun l hl hk2 => by
        by_cases e : (otv P (fun z => P (26 + z)) (ch.2.1 l) (ch.2.2 l) l).1 = (mvS P (fun z => P (26 + z)) ch.2.1 ch.2.2 (P s) l).1
        · exact e
        · exact absurd ⟨by omega, hk2, e⟩ (hmin l hl)
      have hstp := fun m (hm : m ≤ l0) => stp_v (kd := ch.2.1 m) (o := ch.2.2 m) (l := m) (hR m) (hgo m (by omega) (fun l hl => hns l (by omega))).1 (by rw [mvS_n]; exact h0) (by omega) (h3 m (by omega))
      have hs1 : ∀ l, l < l0 → stp (ch.2.1 l) (ch.2.2 l) l (goP ch.2.1 ch.2.2 l (jset P 34 (P s))) = 0 := fun l hl => by
        rw [hstp l (by omega), if_neg (fun z => z.2 (hns l hl z.1))]
      have hs2 : stp (ch.2.1 l0) (ch.2.2 l0) l0 (goP ch.2.1 ch.2.2 l0 (jset P 34 (P s))) = rsnW (ch.2.2 l0) (otv P (fun z => P (26 + z)) (ch.2.1 l0) (ch.2.2 l0) l0).1 := by
        rw [hstp l0 (Nat.le_refl _), if_pos ⟨hk, hst⟩]
      have hot : (otv P (fun z => P (26 + z)) (ch.2.1 l0) (ch.2.2 l0) l0).1 ≤ 12 := by
        unfold otv
        split
        · exact (hw _).1
        · exact (hw _).1
      obtain ⟨hb1, hb2⟩ := rsnW_b (ho l0 hl0) hot
      obtain ⟨z1, z2, z3, z4⟩ := pass_Z (P := P) (Q := fun z => P (26 + z)) (kd := ch.2.1) (o := ch.2.2) (s := s) (l0 := l0) hlk.2.2.1
      obtain ⟨hp1, hg1⟩ := InvP_X hI (X := gbH (psR h P (fun z => P (26 + z)) ch.2.1 ch.2.2 s l0) (l0 + 1) (l0 + 1)) (fun a ha => z1 a (by omega))
      have hcm := c_would_stop (n := n) (h := gbH (psR h P (fun z => P (26 + z)) ch.2.1 ch.2.2 s l0) (l0 + 1) (l0 + 1)) hw hs h0 hg1.2.2.1.1 hc8 (fun l hl => (hg1.2.2.1.2 l hl).1) h7 (fun l hl => (hg1.2.2.1.2 l hl).2) h3 h99 hl0 hs1 (by rw [hs2]; exact hb2) (by rw [hs2]; exact hb1)
      rw [hs2] at hcm
      refine ⟨_, _, _, x_would_stop hw hP hs h0 hlk hl0 hns hk hst, in_M hp1 hcm, ?_⟩
      refine asm (cr := (l0 + 1, 3, rv3 l0 (ch.2.1 l0) (rsnW (ch.2.2 l0) (otv P (fun z => P (26 + z)) (ch.2.1 l0) (ch.2.2 l0) l0).1))) ⟨goP_w (tws hw (hw s)) l0, fun q hq => by rw [hR l0 q hq]; exact hv q hq, hlg, hls, ⟨by show l0 + 1 ≤ 8; omega, Nat.le_refl _⟩, hsz, hms⟩ (InvC_cg hlg (InvC_run hI.2.1 z1 z2 z3 z4) (fun _ _ _ => rfl) (hR l0)) (fun a ha => ?_) (InvG_run hg1 (fun a h1 h2 => ?_) (fun k h1 h2 => ?_) ?_ ?_ (fun j hj => ?_))
      · simp only [jG]
        rw [if_neg (by omega), jup2_f (by omega), jup2_f (by omega), jup2_f (by omega)]
      · simp only [jG]
        rw [if_neg h1, jup2_f h2, jup2_f h2, jup2_f h2]
      · simp [jG, jup2, h1, h2]
      · simp [jG]
      · simp [jG]
      · rcases (show j = 0 ∨ j = 1 ∨ j = 2 by omega) with e | e | e <;> subst e <;> simp [jG, jup2, rv3]
    · have hns : ∀ l, l < ch.1 → ch.2.1 l = 2 ∨ ch.2.1 l = 3 ∨ ch.2.1 l = 6 → (otv P (fun z => P (26 + z)) (ch.2.1 l) (ch.2.2 l) l).1 = (mvS P (fun z => P (26 + z)) ch.2.1 ch.2.2 (P s) l).1 := fun l hl hk2 => by
        by_cases e : (otv P (fun z => P (26 + z)) (ch.2.1 l) (ch.2.2 l) l).1 = (mvS P (fun z => P (26 + z)) ch.2.1 ch.2.2 (P s) l).1
        · exact e
        · exact absurd ⟨l, hl, hk2, e⟩ hx
      have hs1 : ∀ l, l < ch.1 → stp (ch.2.1 l) (ch.2.2 l) l (goP ch.2.1 ch.2.2 l (jset P 34 (P s))) = 0 := fun l hl => by
        rw [stp_v (kd := ch.2.1 l) (o := ch.2.2 l) (l := l) (hR l) (hgo l (by omega) (fun l' hl' => hns l' (by omega))).1 (by rw [mvS_n]; exact h0) (by omega) (h3 l hl), if_neg (fun z => z.2 (hns l hl z.1))]
      obtain ⟨hmv, hMt⟩ := hgo ch.1 (Nat.le_refl _) hns
      obtain ⟨z1, z2, z3, z4⟩ := pass_Y (P := P) (Q := fun z => P (26 + z)) (kd := ch.2.1) (o := ch.2.2) (T := P s) (c := ch.1) (rv := fun _ => 0) hlk.2.2.1
      have hCY := InvC_run hI.2.1 (cr' := (ch.1, 0, fun _ => 0)) z1 z2 z3 z4
      obtain ⟨hp1, hg1⟩ := InvP_X hI (X := gbH (psH h P (fun z => P (26 + z)) ch.2.1 ch.2.2 (P s) ch.1) ch.1 ch.1) (fun a ha => z1 a (by omega))
      have hcm := c_would (n := n) (h := gbH (psH h P (fun z => P (26 + z)) ch.2.1 ch.2.2 (P s) ch.1) ch.1 ch.1) hw hs h0 hg1.2.2.1.1 hc8 (fun l hl => (hg1.2.2.1.2 l hl).1) h7 (fun l hl => (hg1.2.2.1.2 l hl).2) h3 h99 hs1
      rw [hmv] at hcm
      refine ⟨_, _, _, x_would hw hP hs h0 hlk hns, in_M hp1 hcm, ?_⟩
      refine asm (cr := (ch.1, 0, fun _ => 0)) ⟨goP_w (tws hw (hw s)) _, fun q hq => by rw [hR _ q hq]; exact hv q hq, hlg, hls, ⟨hc8, by show 0 ≤ 3; omega⟩, hsz, hms⟩ (InvC_cg hlg hCY (fun _ _ _ => rfl) (hR _)) (fun a ha => ?_) (InvG_run hg1 (fun a h1 h2 => ?_) (fun k h1 h2 => ?_) ?_ ?_ (fun j hj => absurd hj (Nat.not_lt_zero j)))
      · simp only [jG]
        rw [if_neg (by omega)]
      · simp only [jG]
        rw [if_neg h1]
      · simp [jG, h1, h2]
      · simp [jG]
      · simp [jG]
theorem k_run {n : jN} {h : jH} (hI : Inv h) (a : Int32) : ∃ (v : Int32) (h1 h2 : jH), jC n 5 jy_Main_run jc_Main_run 3 (some .int) [.ref 0, .int a] h (some (.int v)) h1 ∧ jC n 5 jy_Model_run jc_Model_run 3 (some .int) [.ref 135, .int a] h1 (some (.int v)) h2 ∧ Inv h2 := by
  obtain ⟨P, ls, lg, ch, cr, sh, hI⟩ := hI
  obtain ⟨⟨hw, hv, hlg, hls, ⟨hcl, hrs⟩, hsz, hms⟩, ⟨hP, ⟨nx, hnx, hn20, hsz3, hring⟩, hlk, hcr, hsh⟩, hg, hp⟩ := id hI
  cases hb : jho P a with
  | false => exact ⟨_, _, _, x_run_bad hw hP hb, in_M hp (c_run_bad hw hb), asm_q0 hI sfr_refl⟩
  | true =>
    obtain ⟨s, hs, h0, rfl⟩ := jho_t hb
    have hT := hv s (by omega)
    have hc8 := hlk.2.1
    have hl3 := hlk.2.2.2
    have h7 : ∀ l, l < ch.1 → ch.2.1 l < 7 := fun l hl => (hl3 l hl).2.1
    have ho : ∀ l, l < ch.1 → ch.2.2 l < 100 := fun l hl => (hl3 l hl).2.2.2.1
    have h3 : ∀ l, l < ch.1 → ch.2.1 l = 3 → ch.2.2 l < 6 := fun l hl => (hl3 l hl).2.2.2.2.1
    have h99 : ∀ l, l < ch.1 → ch.2.1 l = 4 → ch.2.2 l ≤ 99 := fun l hl _ => by have := ho l hl; omega
    have hgo := go_mv (kd := ch.2.1) (o := ch.2.2) hv hs hc8 h7 ho h3
    have hR : ∀ m q, q < 34 → goP ch.2.1 ch.2.2 m (jset P 34 (P s)) q = P q := fun m q hq => (goP_o hq m).trans (jset_ne (by omega))
    by_cases hx : ∃ l, l < ch.1 ∧ (ch.2.1 l = 2 ∨ ch.2.1 l = 3 ∨ ch.2.1 l = 6) ∧ ¬ (otv P (fun z => P (26 + z)) (ch.2.1 l) (ch.2.2 l) l).1 = (mvS P (fun z => P (26 + z)) ch.2.1 ch.2.2 (P s) l).1
    · obtain ⟨l1, hl1⟩ := hx
      obtain ⟨l0, hle, ⟨hl0, hk, hst⟩, hmin⟩ := least_of (p := fun l => l < ch.1 ∧ (ch.2.1 l = 2 ∨ ch.2.1 l = 3 ∨ ch.2.1 l = 6) ∧ ¬ (otv P (fun z => P (26 + z)) (ch.2.1 l) (ch.2.2 l) l).1 = (mvS P (fun z => P (26 + z)) ch.2.1 ch.2.2 (P s) l).1) l1 l1 (Nat.le_refl _) hl1
      have hns : ∀ l, l < l0 → ch.2.1 l = 2 ∨ ch.2.1 l = 3 ∨ ch.2.1 l = 6 → (otv P (fun z => P (26 + z)) (ch.2.1 l) (ch.2.2 l) l).1 = (mvS P (fun z => P (26 + z)) ch.2.1 ch.2.2 (P s) l).1 := fun l hl hk2 => by
        by_cases e : (otv P (fun z => P (26 + z)) (ch.2.1 l) (ch.2.2 l) l).1 = (mvS P (fun z => P (26 + z)) ch.2.1 ch.2.2 (P s) l).1
        · exact e
        · exact absurd ⟨by omega, hk2, e⟩ (hmin l hl)
      have hstp := fun m (hm : m ≤ l0) => stp_v (kd := ch.2.1 m) (o := ch.2.2 m) (l := m) (hR m) (hgo m (by omega) (fun l hl => hns l (by omega))).1 (by rw [mvS_n]; exact h0) (by omega) (h3 m (by omega))
      have hs1 : ∀ l, l < l0 → stp (ch.2.1 l) (ch.2.2 l) l (goP ch.2.1 ch.2.2 l (jset P 34 (P s))) = 0 := fun l hl => by
        rw [hstp l (by omega), if_neg (fun z => z.2 (hns l hl z.1))]
      have hs2 : stp (ch.2.1 l0) (ch.2.2 l0) l0 (goP ch.2.1 ch.2.2 l0 (jset P 34 (P s))) = rsnW (ch.2.2 l0) (otv P (fun z => P (26 + z)) (ch.2.1 l0) (ch.2.2 l0) l0).1 := by
        rw [hstp l0 (Nat.le_refl _), if_pos ⟨hk, hst⟩]
      have hot : (otv P (fun z => P (26 + z)) (ch.2.1 l0) (ch.2.2 l0) l0).1 ≤ 12 := by
        unfold otv
        split
        · exact (hw _).1
        · exact (hw _).1
      obtain ⟨hb1, hb2⟩ := rsnW_b (ho l0 hl0) hot
      obtain ⟨z1, z2, z3, z4⟩ := pass_Z (P := P) (Q := fun z => P (26 + z)) (kd := ch.2.1) (o := ch.2.2) (s := s) (l0 := l0) hlk.2.2.1
      obtain ⟨hp1, hg1⟩ := InvP_X hI (X := gbH (psR h P (fun z => P (26 + z)) ch.2.1 ch.2.2 s l0) (l0 + 1) (l0 + 1)) (fun a ha => z1 a (by omega))
      have hcm := c_run_stop (n := n) (h := gbH (psR h P (fun z => P (26 + z)) ch.2.1 ch.2.2 s l0) (l0 + 1) (l0 + 1)) hw hs h0 hg1.2.2.1.1 hc8 (fun l hl => (hg1.2.2.1.2 l hl).1) h7 (fun l hl => (hg1.2.2.1.2 l hl).2) h3 h99 hl0 hs1 (by rw [hs2]; exact hb2) (by rw [hs2]; exact hb1)
      rw [hs2] at hcm
      refine ⟨_, _, _, x_run_stop hw hP hs h0 hlk hl0 hns hk hst, in_M hp1 hcm, ?_⟩
      refine asm (cr := (l0 + 1, 3, rv3 l0 (ch.2.1 l0) (rsnW (ch.2.2 l0) (otv P (fun z => P (26 + z)) (ch.2.1 l0) (ch.2.2 l0) l0).1))) ⟨goP_w (tws hw (hw s)) l0, fun q hq => by rw [hR l0 q hq]; exact hv q hq, hlg, hls, ⟨by show l0 + 1 ≤ 8; omega, Nat.le_refl _⟩, hsz, hms⟩ (InvC_cg hlg (InvC_run hI.2.1 z1 z2 z3 z4) (fun _ _ _ => rfl) (hR l0)) (fun a ha => ?_) (InvG_run hg1 (fun a h1 h2 => ?_) (fun k h1 h2 => ?_) ?_ ?_ (fun j hj => ?_))
      · simp only [jG]
        rw [if_neg (by omega), jup2_f (by omega), jup2_f (by omega), jup2_f (by omega)]
      · simp only [jG]
        rw [if_neg h1, jup2_f h2, jup2_f h2, jup2_f h2]
      · simp [jG, jup2, h1, h2]
      · simp [jG]
      · simp [jG]
      · rcases (show j = 0 ∨ j = 1 ∨ j = 2 by omega) with e | e | e <;> subst e <;> simp [jG, jup2, rv3]
    · have hns : ∀ l, l < ch.1 → ch.2.1 l = 2 ∨ ch.2.1 l = 3 ∨ ch.2.1 l = 6 → (otv P (fun z => P (26 + z)) (ch.2.1 l) (ch.2.2 l) l).1 = (mvS P (fun z => P (26 + z)) ch.2.1 ch.2.2 (P s) l).1 := fun l hl hk2 => by
        by_cases e : (otv P (fun z => P (26 + z)) (ch.2.1 l) (ch.2.2 l) l).1 = (mvS P (fun z => P (26 + z)) ch.2.1 ch.2.2 (P s) l).1
        · exact e
        · exact absurd ⟨l, hl, hk2, e⟩ hx
      have hs1 : ∀ l, l < ch.1 → stp (ch.2.1 l) (ch.2.2 l) l (goP ch.2.1 ch.2.2 l (jset P 34 (P s))) = 0 := fun l hl => by
        rw [stp_v (kd := ch.2.1 l) (o := ch.2.2 l) (l := l) (hR l) (hgo l (by omega) (fun l' hl' => hns l' (by omega))).1 (by rw [mvS_n]; exact h0) (by omega) (h3 l hl), if_neg (fun z => z.2 (hns l hl z.1))]
      obtain ⟨hmv, hMt⟩ := hgo ch.1 (Nat.le_refl _) hns
      obtain ⟨z1, z2, z3, z4⟩ := pass_Y (P := P) (Q := fun z => P (26 + z)) (kd := ch.2.1) (o := ch.2.2) (T := P s) (c := ch.1) (rv := fun _ => 0) hlk.2.2.1
      have hCY := InvC_run hI.2.1 (cr' := (ch.1, 0, fun _ => 0)) z1 z2 z3 z4
      have hX : sfr (sT (gbH (psH h P (fun z => P (26 + z)) ch.2.1 ch.2.2 (P s) ch.1) ch.1 ch.1) 113 (mvS P (fun z => P (26 + z)) ch.2.1 ch.2.2 (P s) ch.1)) (gbH (psH h P (fun z => P (26 + z)) ch.2.1 ch.2.2 (P s) ch.1) ch.1 ch.1) := fun z hz => sT_f (by omega) (by omega)
      have hring' : ∀ k, k < lg → (gbH (psH h P (fun z => P (26 + z)) ch.2.1 ch.2.2 (P s) ch.1) ch.1 ch.1) 4 ((nx + 20 - lg + k) % 20) = nI (ls k) ∧ rep (gbH (psH h P (fun z => P (26 + z)) ch.2.1 ch.2.2 (P s) ch.1) ch.1 ch.1) (6 + 2 * ((nx + 20 - lg + k) % 20)) (P (6 + k)) := fun k hk => by
        have hm := Nat.mod_lt (nx + 20 - lg + k) (show 0 < 20 by omega)
        obtain ⟨r1, r2⟩ := hring k hk
        exact ⟨by rw [z1 4 (by omega)]; exact r1, rep_cg r2 (z1 _ (by omega)) (z1 _ (by omega))⟩
      have hnx' : (gbH (psH h P (fun z => P (26 + z)) ch.2.1 ch.2.2 (P s) ch.1) ch.1 ch.1) 3 1 = nI nx := by rw [z1 3 (by omega)]; exact hnx
      have hhi : ∀ a, 135 ≤ a → holdH (sT (gbH (psH h P (fun z => P (26 + z)) ch.2.1 ch.2.2 (P s) ch.1) ch.1 ch.1) 113 (mvS P (fun z => P (26 + z)) ch.2.1 ch.2.2 (P s) ch.1)) s nx lg (P s) (mvS P (fun z => P (26 + z)) ch.2.1 ch.2.2 (P s) ch.1) a = h a := fun a ha => (hold_hi hX hs hn20 a ha).trans (z1 a (by omega))
      obtain ⟨hp1, hg1⟩ := InvP_X hI hhi
      have hcm := c_run (n := n) (h := holdH (sT (gbH (psH h P (fun z => P (26 + z)) ch.2.1 ch.2.2 (P s) ch.1) ch.1 ch.1) 113 (mvS P (fun z => P (26 + z)) ch.2.1 ch.2.2 (P s) ch.1)) s nx lg (P s) (mvS P (fun z => P (26 + z)) ch.2.1 ch.2.2 (P s) ch.1)) (ls := ls) hlg hw hs h0 hg1.2.2.1.1 hc8 (fun l hl => (hg1.2.2.1.2 l hl).1) h7 (fun l hl => (hg1.2.2.1.2 l hl).2) h3 h99 hs1
      rw [hmv] at hcm
      have hPq : ∀ q, q < 34 → jcome (jset (goP ch.2.1 ch.2.2 ch.1 (jset P 34 (P s))) 35 (mvS P (fun z => P (26 + z)) ch.2.1 ch.2.2 (P s) ch.1)) lg s q = jset (lgP P lg s) s (mvS P (fun z => P (26 + z)) ch.2.1 ch.2.2 (P s) ch.1) q := jcome_P hlg hs (fun q hq => (jset_ne (by omega)).trans (hR _ q hq)) jset_eq
      have hwq : ∀ q, tw (jcome (jset (goP ch.2.1 ch.2.2 ch.1 (jset P 34 (P s))) 35 (mvS P (fun z => P (26 + z)) ch.2.1 ch.2.2 (P s) ch.1)) lg s q) := jcome_w (tws (goP_w (tws hw (hw s)) _) (tv_w hMt))
      refine ⟨_, _, _, x_run hw hP hs h0 hlk hnx hn20 hsz3 hlg hns, in_L hp1 hg1 hcm, ?_⟩
      have hcom : Com P ls lg (ch.1, 0, fun _ => 0) sh := ⟨hw, hv, hlg, hls, ⟨hc8, by show 0 ≤ 3; omega⟩, hsz, hms⟩
      refine asm (cr := (ch.1, 0, fun _ => 0)) (Com_hold hcom hs hMt hwq hPq) (InvC_hold hlg hCY hX hs hnx' hn20 hring' hPq) (fun a ha => ?_) ?_
      · show (if a = 138 then _ else if a = 135 then _ else jG _ ch.1 0 a) = _
        rw [if_neg (by omega), if_neg (by omega)]
        simp only [jG]
        rw [if_neg (by omega)]
      · have hg2 := InvG_run (G := jG (holdH (sT (gbH (psH h P (fun z => P (26 + z)) ch.2.1 ch.2.2 (P s) ch.1) ch.1 ch.1) 113 (mvS P (fun z => P (26 + z)) ch.2.1 ch.2.2 (P s) ch.1)) s nx lg (P s) (mvS P (fun z => P (26 + z)) ch.2.1 ch.2.2 (P s) ch.1)) ch.1 0) (a := ch.1) (b := 0) (rv := fun _ => 0) hg1 (fun a h1 h2 => by simp only [jG]; rw [if_neg h1]) (fun k h1 h2 => by simp [jG, h1, h2]) (by simp [jG]) (by simp [jG]) (fun j hj => absurd hj (Nat.not_lt_zero j))
        obtain ⟨g1, g2, ⟨g3, g4⟩, ⟨g5, g6, g7⟩, g8, g9⟩ := hg2
        exact ⟨rfl, rfl, ⟨g3, g4⟩, ⟨g5, g6, g7⟩, g8, g9⟩

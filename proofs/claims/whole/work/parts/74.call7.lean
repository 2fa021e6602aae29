theorem dcj {b : Int32} {z : Nat} (hz : z < 2 ^ 30) : (decide (0 ≤ b) && decide (b < nI z)) = jin b 0 ((z : Int) - 1) := beq_of_iff (by
  rw [Bool.and_eq_true, decide_eq_true_eq, decide_eq_true_eq, jin, decide_eq_true_eq, Int32.le_iff_toInt_le, Int32.lt_iff_toInt_lt, nI_toInt (by omega), show (0 : Int32).toInt = 0 from rfl]
  omega)
theorem jh1 {b : Int32} {z : Nat} (hz : z ≤ 40) : jin b 0 ((z : Int) - 1) = jhas z b (nI 1) := beq_of_iff (by
  rw [jhas_iff hz, jin, decide_eq_true_eq, nI_toInt (show 1 < 2 ^ 31 by omega)]
  omega)
theorem ni_sub3 {a b : Nat} (ha : a < 2 ^ 30) (hb : b < 2 ^ 31) : (nI a - nI b).toInt = (a : Int) - (b : Int) := by
  rw [Int32.toInt_sub, nI_toInt (by omega), nI_toInt (by omega)]
  simp only [Int.bmod]
  omega
theorem shl_sSh {h : jH} {So : Nat → Int32} {Sz : Nat → Nat} {Nu : Nat → Nat → Int32} {s m : Nat} {so : Int32} {v : Nat → Int32} (hsh : shl h So Sz Nu) (hs : s < 4) (hm : m ≤ 40) (hso : so = -1 ∨ so = 0 ∨ so = 1) : shl (sSh h (127 + 2 * s) so m (fun z => if z < m then 0 else v z)) (jfu So s so) (jfu Sz s m) (fun a i => if a = s then 0 else Nu a i) := fun q hq => by
  by_cases e : q = s
  · subst e
    refine ⟨by simp [sSh, jfu], by simp [sSh, jfu], fun i hi => ?_, by simpa [jfu] using hm, by simpa [jfu] using hso⟩
    have hi2 : i < m := by simpa [jfu] using hi
    simp [sSh, hi2]
  · obtain ⟨a, b, c, d, f⟩ := hsh q hq
    have n1 : ∀ k, sSh h (127 + 2 * s) so m (fun z => if z < m then 0 else v z) (127 + 2 * q) k = h (127 + 2 * q) k := fun k => by
      unfold sSh
      rw [if_neg (by omega), if_neg (by omega)]
    have n2 : ∀ k, sSh h (127 + 2 * s) so m (fun z => if z < m then 0 else v z) (127 + 2 * q + 1) k = h (127 + 2 * q + 1) k := fun k => by
      unfold sSh
      rw [if_neg (by omega), if_neg (by omega)]
    simp only [jfu, if_neg e]
    exact ⟨(n1 0).trans a, (n1 1).trans b, fun i hi => (n2 i).trans (c i hi), d, f⟩
theorem sSh_f {h : jH} {u m a : Nat} {so : Int32} {v : Nat → Int32} (h1 : a ≠ u) (h2 : a ≠ u + 1) : sSh h u so m v a = h a := by
  unfold sSh
  rw [if_neg h1, if_neg h2]
theorem jbS_1 {So : Nat → Int32} {s : Int32} (h : js4 s = false) : jbCell So s = -1 := by
  unfold jbCell
  rw [h]
  rfl
theorem sh_pos {So : Nat → Int32} {Sz : Nat → Nat} {Nu : Nat → Nat → Int32} {h : jH} (hsh : shl h So Sz Nu) {s : Nat} (hs : s < 4) (hn : ¬ So s = -1) : 0 ≤ So s ∧ ¬ So s < 0 := by
  have t := so_neg (hsh s hs).2.2.2.2
  refine ⟨?_, fun q => hn (t.2.mpr q)⟩
  by_cases q : 0 ≤ So s
  · exact q
  · exact absurd (t.1.mpr q) hn
theorem sh_cnt {So : Nat → Int32} {Sz : Nat → Nat} {Nu : Nat → Nat → Int32} {h : jH} (hsh : shl h So Sz Nu) : cn3 So 4 = cnt3 So 4 := by
  unfold cn3 cnt3
  refine jsum_cg 4 (fun s hs => ?_)
  have t := so_neg (hsh s hs).2.2.2.2
  by_cases q : So s = -1
  · rw [if_pos q, if_neg (t.1.mp q)]
  · rw [if_neg q, if_pos (sh_pos hsh hs q).1]
theorem k_closing {n : jN} {h : jH} (hI : Inv h) (a : Int32) : ∃ (v : Int32) (h1 h2 : jH), jC n 0 jy_Main_closing jc_Main_closing 2 (some .int) [.ref 0, .int a] h (some (.int v)) h1 ∧ jC n 1 jy_Model_closing jc_Model_closing 2 (some .int) [.ref 135, .int a] h1 (some (.int v)) h2 ∧ Inv h2 := by
  obtain ⟨P, ls, lg, ch, cr, sh, hI⟩ := hI
  obtain ⟨⟨hw, hv, hlg, hls, ⟨hcl, hrs⟩, hsz, hms⟩, ⟨hP, ⟨nx, hnx, hn20, hsz3, hring⟩, hlk, hcr, hsh⟩, hg, hp⟩ := id hI
  obtain ⟨q1, q2, q3, q4⟩ := hcr
  obtain ⟨g5, g6, g7⟩ := hg.2.2.2.1
  have hq : (decide (0 ≤ a) && decide (a < nI cr.1)) = jin a 0 ((cr.1 : Int) - 1) := dcj (by omega)
  cases hj : jin a 0 ((cr.1 : Int) - 1) with
  | false => exact ⟨_, _, _, x_closing_bad q1 (hq.trans hj), in_M hp (c_closing_bad g5 (by omega) hj), asm_q0 hI sfr_refl⟩
  | true =>
    obtain ⟨i, hi1, hi2, hi3, rfl⟩ := jin_k (by omega) hj
    exact ⟨_, _, _, x_closing q1 hcl (by omega) (q3 i (by omega)), in_M hp (c_closing g5 (by omega) (by omega)), asm_q0 hI sfr_refl⟩
theorem k_reason {n : jN} {h : jH} (hI : Inv h) (a : Int32) : ∃ (v : Int32) (h1 h2 : jH), jC n 0 jy_Main_reason jc_Main_reason 2 (some .int) [.ref 0, .int a] h (some (.int v)) h1 ∧ jC n 1 jy_Model_reason jc_Model_reason 2 (some .int) [.ref 135, .int a] h1 (some (.int v)) h2 ∧ Inv h2 := by
  obtain ⟨P, ls, lg, ch, cr, sh, hI⟩ := hI
  obtain ⟨⟨hw, hv, hlg, hls, ⟨hcl, hrs⟩, hsz, hms⟩, ⟨hP, ⟨nx, hnx, hn20, hsz3, hring⟩, hlk, hcr, hsh⟩, hg, hp⟩ := id hI
  obtain ⟨q1, q2, q3, q4⟩ := hcr
  obtain ⟨g5, g6, g7⟩ := hg.2.2.2.1
  have hq : (decide (0 ≤ a) && decide (a < nI cr.2.1)) = jin a 0 ((cr.2.1 : Int) - 1) := dcj (by omega)
  cases hj : jin a 0 ((cr.2.1 : Int) - 1) with
  | false => exact ⟨_, _, _, x_reason_bad q2 (hq.trans hj), in_M hp (c_reason_bad g6 (by omega) hj), asm_q0 hI sfr_refl⟩
  | true =>
    obtain ⟨i, hi1, hi2, hi3, rfl⟩ := jin_k (by omega) hj
    have hx := x_reason (n := n) q2 hrs (show i < cr.2.1 by omega)
    have hcm := c_reason (n := n) (P := P) g6 hrs (show i < cr.2.1 by omega)
    rw [q4 i (by omega)] at hx
    rw [g7 i (by omega)] at hcm
    exact ⟨_, _, _, hx, in_M hp hcm, asm_q0 hI sfr_refl⟩
theorem k_loosen {n : jN} {h : jH} (hI : Inv h) : ∃ (v : Int32) (h1 h2 : jH), jC n 0 jy_Main_loosen jc_Main_loosen 2 (some .int) [.ref 0] h (some (.int v)) h1 ∧ jC n 0 jy_Model_loosen jc_Model_loosen 2 (some .int) [.ref 135] h1 (some (.int v)) h2 ∧ Inv h2 := by
  obtain ⟨P, ls, lg, ch, cr, sh, hI⟩ := hI
  obtain ⟨⟨hw, hv, hlg, hls, ⟨hcl, hrs⟩, hsz, hms⟩, ⟨hP, ⟨nx, hnx, hn20, hsz3, hring⟩, hlk, hcr, hsh⟩, hg, hp⟩ := id hI
  have hf : ∀ a, a ≠ 75 → jup2 h 75 0 (nI 0) a = h a := fun a ha => jup2_f ha
  obtain ⟨hp1, hg1⟩ := InvP_X hI (X := jup2 h 75 0 (nI 0)) (fun a ha => hf a (by omega))
  obtain ⟨i1, i2, i3, i4, i5⟩ := hI.2.1
  refine ⟨_, _, _, x_loosen hlk.1, in_M hp1 (c_loosen hg1.2.2.1.1), asm (ch := (0, ch.2)) hI.1 ⟨slo_cg i1 (fun a _ _ => hf a (by omega)) (fun _ _ => rfl), lgc_cg i2 (fun a _ _ => hf a (by omega)) (fun _ _ => rfl), ⟨?_, Nat.zero_le _, ?_, fun l hl => absurd hl (Nat.not_lt_zero l)⟩, ?_, shl_cg i5 (fun a _ _ => hf a (by omega))⟩ (fun a ha => jup2_f (by omega)) ?_⟩
  · simp [jup2]
  · simpa [jup2] using i3.2.2.1
  · obtain ⟨q1, q2, q3, q4⟩ := i4
    exact ⟨by simpa [jup2] using q1, by simpa [jup2] using q2, fun j hj => by rw [hf 76 (by omega)]; exact q3 j hj, fun j hj => by rw [hf 77 (by omega)]; exact q4 j hj⟩
  · obtain ⟨g1, g2, ⟨g3, g4⟩, ⟨g5, g6, g7⟩, ⟨my, g8⟩, g9, g10, g11⟩ := hg1
    refine ⟨by rw [jup2_f (by decide)]; exact g1, by simpa [jup2] using g2, ⟨by simp [jup2], fun l hl => absurd hl (Nat.not_lt_zero l)⟩, ⟨by simpa [jup2] using g5, by simpa [jup2] using g6, fun j hj => by rw [jup2_f (by decide)]; exact g7 j hj⟩, ⟨my, by simpa [jup2] using g8⟩, by rw [jup2_f (by decide)]; exact g9, by rw [jup2_f (by decide)]; exact g10, by rw [jup2_f (by decide)]; exact g11⟩
theorem k_count {n : jN} {h : jH} (hI : Inv h) (a : Int32) : ∃ (v : Int32) (h1 h2 : jH), jC n 2 jy_Main_count jc_Main_count 2 (some .int) [.ref 0, .int a] h (some (.int v)) h1 ∧ jC n 0 jy_Model_count jc_Model_count 4 (some .int) [.ref 135, .int a] h1 (some (.int v)) h2 ∧ Inv h2 := by
  obtain ⟨P, ls, lg, ch, cr, sh, hI⟩ := hI
  obtain ⟨⟨hw, hv, hlg, hls, ⟨hcl, hrs⟩, hsz, hms⟩, ⟨hP, ⟨nx, hnx, hn20, hsz3, hring⟩, hlk, hcr, hsh⟩, hg, hp⟩ := id hI
  cases hj : jin a 0 4 with
  | false => exact ⟨_, _, _, x_count_bad hj, in_S hp hg (c_count_bad hj), asm_S hI⟩
  | true =>
    obtain ⟨w, hw1, hw2, hw3, rfl⟩ := jin_k (by omega) hj
    rcases (show w = 0 ∨ w = 1 ∨ w = 2 ∨ w = 3 ∨ w = 4 by omega) with e | e | e | e | e <;> subst e
    · exact ⟨_, _, _, x_count0 hw hP, in_S hp hg (c_count0 hw), asm_S hI⟩
    · exact ⟨_, _, _, x_count1 hlk.1, in_M hp (c_count1 hg.2.2.1.1), asm_q0 hI sfr_refl⟩
    · refine ⟨_, _, _, x_count2 hsz3, in_L hp hg c_count2, ?_⟩
      rw [jL_id hg.1 hg.2.1]
      exact asm_q0 hI sfr_refl
    · have hx := x_count3 (n := n) hsh
      rw [sh_cnt hsh] at hx
      exact ⟨_, _, _, hx, in_S hp hg (c_count3 hw), asm_S hI⟩
    · exact ⟨_, _, _, x_count4 hlk.2.2.1, in_M hp c_count4, asm_q0 hI sfr_refl⟩
theorem k_cell {n : jN} {h : jH} (hI : Inv h) (a b c : Int32) : ∃ (v : Int32) (h1 h2 : jH), jC n 2 jy_Main_cell jc_Main_cell 4 (some .int) [.ref 0, .int a, .int b, .int c] h (some (.int v)) h1 ∧ jC n 1 jy_Model_cell jc_Model_cell 4 (some .int) [.ref 135, .int a, .int b, .int c] h1 (some (.int v)) h2 ∧ Inv h2 := by
  obtain ⟨P, ls, lg, ch, cr, sh, hI⟩ := hI
  obtain ⟨⟨hw, hv, hlg, hls, ⟨hcl, hrs⟩, hsz, hms⟩, ⟨hP, ⟨nx, hnx, hn20, hsz3, hring⟩, hlk, hcr, hsh⟩, hg, hp⟩ := id hI
  cases ha : js4 a with
  | false =>
    have hcm := c_cell_bad (n := n) (h := h) (P := P) (So := sh.1) (Sz := sh.2.1) (Nu := sh.2.2) (i := b) (v := c) hsz (show jokCell sh.1 sh.2.1 a b = false by unfold jokCell; rw [ha]; rfl)
    rw [jbS_1 ha] at hcm
    exact ⟨_, _, _, x_cell_bad ha, in_S hp hg hcm, asm_S hI⟩
  | true =>
    obtain ⟨s, hs, rfl⟩ := js4_t ha
    have hcl : (nI s).toNatClampNeg = s := nI_clamp (by omega)
    have h40 := hsz s
    by_cases hm1 : sh.1 s = -1
    · have hlt := (so_neg (hsh s hs).2.2.2.2).2.mp hm1
      have hcm := c_cell_bad (n := n) (h := h) (P := P) (So := sh.1) (Sz := sh.2.1) (Nu := sh.2.2) (s := nI s) (i := b) (v := c) hsz (by unfold jokCell; rw [ha, hcl, decide_eq_true hlt]; rfl)
      rw [show jbCell sh.1 (nI s) = -11 by unfold jbCell; rw [if_pos ha, hcl, if_pos hlt]] at hcm
      exact ⟨_, _, _, x_cell_miss hsh hs hm1, in_S hp hg hcm, asm_S hI⟩
    · obtain ⟨hge, hnl⟩ := sh_pos hsh hs hm1
      cases hj : jhas (sh.2.1 s) b (nI 1) with
      | false =>
        have hcm := c_cell_bad (n := n) (h := h) (P := P) (So := sh.1) (Sz := sh.2.1) (Nu := sh.2.2) (s := nI s) (i := b) (v := c) hsz (by unfold jokCell; rw [ha, hcl, jh1 h40, hj, Bool.and_false])
        rw [show jbCell sh.1 (nI s) = -12 by unfold jbCell; rw [if_pos ha, hcl, if_neg hnl]] at hcm
        exact ⟨_, _, _, x_cell_out hsh hs hm1 hj, in_S hp hg hcm, asm_S hI⟩
      | true =>
        obtain ⟨i, rfl, him⟩ := jhas_t h40 (by omega) hj
        have hf : ∀ z, z ≠ 127 + 2 * s + 1 → jup2 h (127 + 2 * s + 1) i (jlow (sh.1 s) c) z = h z := fun z hz => jup2_f hz
        obtain ⟨hp1, hg1⟩ := InvP_X hI (X := jup2 h (127 + 2 * s + 1) i (jlow (sh.1 s) c)) (fun z hz => hf z (by omega))
        refine ⟨_, _, _, x_cell hsh hs hm1 (by omega), in_S hp1 hg1 (c_cell hsz hs hge (by omega)), asm_sh hI (fun z hz => hf z (by omega)) (fun q hq => ?_) hsz hms⟩
        obtain ⟨k1, k2, k3, k4, k5⟩ := hsh q hq
        refine ⟨by rw [hf _ (by omega)]; exact k1, by rw [hf _ (by omega)]; exact k2, fun j hjz => ?_, k4, k5⟩
        by_cases e : q = s
        · subst e
          by_cases e2 : j = i
          · simp [jup2, jfu2, e2]
          · simpa [jup2, jfu2, e2] using k3 j hjz
        · rw [hf _ (by omega), k3 j hjz]
          simp [jfu2, e]
theorem k_item {n : jN} {h : jH} (hI : Inv h) (a b : Int32) : ∃ (v : Int64) (h1 h2 : jH), jC n 2 jy_Main_item jc_Main_item 3 (some .long) [.ref 0, .int a, .int b] h (some (.long v)) h1 ∧ jC n 1 jy_Model_item jc_Model_item 3 (some .long) [.ref 135, .int a, .int b] h1 (some (.long v)) h2 ∧ Inv h2 := by
  obtain ⟨P, ls, lg, ch, cr, sh, hI⟩ := hI
  obtain ⟨⟨hw, hv, hlg, hls, ⟨hcl, hrs⟩, hsz, hms⟩, ⟨hP, ⟨nx, hnx, hn20, hsz3, hring⟩, hlk, hcr, hsh⟩, hg, hp⟩ := id hI
  cases ha : js4 a with
  | false => exact ⟨_, _, _, x_item_bad ha, in_S hp hg (c_item_bad hsz (show jokItem sh.2.1 a b = false by unfold jokItem; rw [ha]; rfl)), asm_S hI⟩
  | true =>
    obtain ⟨s, hs, rfl⟩ := js4_t ha
    have hcl : (nI s).toNatClampNeg = s := nI_clamp (by omega)
    have h40 := hsz s
    by_cases hm1 : sh.1 s = -1
    · have hz := hms s hs hm1
      exact ⟨_, _, _, x_item_miss hsh hs hm1, in_S hp hg (c_item_bad hsz (by unfold jokItem; rw [ha, hcl, hz]; exact (Bool.true_and _).trans (decide_eq_false (by omega)))), asm_S hI⟩
    · cases hj : jhas (sh.2.1 s) b (nI 1) with
      | false => exact ⟨_, _, _, x_item_out hsh hs hm1 hj, in_S hp hg (c_item_bad hsz (by unfold jokItem; rw [ha, hcl, jh1 h40, hj, Bool.and_false])), asm_S hI⟩
      | true =>
        obtain ⟨i, rfl, him⟩ := jhas_t h40 (by omega) hj
        exact ⟨_, _, _, x_item hsh hs hm1 (by omega), in_S hp hg (c_item hsz hs (by omega)), asm_S hI⟩
theorem k_sheet {n : jN} {h : jH} (hI : Inv h) (a b c : Int32) : ∃ (v : Int32) (h1 h2 : jH), jC n 2 jy_Main_sheet jc_Main_sheet 4 (some .int) [.ref 0, .int a, .int b, .int c] h (some (.int v)) h1 ∧ jC n 1 jy_Model_sheet jc_Model_sheet 5 (some .int) [.ref 135, .int a, .int b, .int c] h1 (some (.int v)) h2 ∧ Inv h2 := by
  obtain ⟨P, ls, lg, ch, cr, sh, hI⟩ := hI
  obtain ⟨⟨hw, hv, hlg, hls, ⟨hcl, hrs⟩, hsz, hms⟩, ⟨hP, ⟨nx, hnx, hn20, hsz3, hring⟩, hlk, hcr, hsh⟩, hg, hp⟩ := id hI
  cases hb : jokSheet a b c with
  | false => exact ⟨_, _, _, x_sheet_bad hb, in_S hp hg (c_sheet_bad hb), asm_S hI⟩
  | true =>
    simp only [jokSheet, Bool.and_eq_true] at hb
    obtain ⟨⟨⟨b1, b2⟩, b3⟩, b4⟩ := hb
    obtain ⟨s, hs, rfl⟩ := js4_t b1
    simp only [jin, decide_eq_true_eq] at b2
    by_cases hb1 : b = -1
    · subst hb1
      have hf : ∀ z, z ≠ 127 + 2 * s → z ≠ 127 + 2 * s + 1 → sSh h (127 + 2 * s) (-1) 0 (fun z => if z < 0 then 0 else h (127 + 2 * s + 1) z) z = h z := fun z h1 h2 => sSh_f h1 h2
      obtain ⟨hp1, hg1⟩ := InvP_X hI (fun z hz => hf z (by omega) (by omega))
      refine ⟨_, _, _, x_sheetA hs, in_S hp1 hg1 (c_sheetA hs), asm_sh hI (fun z hz => hf z (by omega) (by omega)) (shl_sSh hsh hs (by omega) (Or.inl rfl)) (fun k => ?_) (fun q hq he => ?_)⟩
      · unfold jfu
        split
        · omega
        · exact hsz k
      · unfold jfu at he ⊢
        split
        · rfl
        · rename_i e
          rw [if_neg e] at he
          exact hms q hq he
    · have hb0 : ¬ b < 0 := fun q => hb1 (Int32.toInt_inj.mp (by
        rw [Int32.lt_iff_toInt_lt, show (0 : Int32).toInt = 0 from rfl] at q
        rw [show (-1 : Int32).toInt = -1 from rfl]
        omega))
      obtain ⟨t, ht, rfl⟩ := nI_of hb0
      rw [nI_toInt ht] at b2
      simp only [decide_eq_false hb0, Bool.false_or, Bool.not_eq_true', decide_eq_false_iff_not, decide_eq_true_eq] at b3 b4
      obtain ⟨m, hm, rfl⟩ := nI_of (x := c) (fun q => by
        rw [Int32.lt_iff_toInt_lt, show (0 : Int32).toInt = 0 from rfl] at q
        rw [Int32.le_iff_toInt_le, show (0 : Int32).toInt = 0 from rfl] at b4
        omega)
      have hm40 : m ≤ 40 := by
        rw [Int32.lt_iff_toInt_lt, nI_toInt (show 40 < 2 ^ 31 by omega), nI_toInt hm] at b3
        omega
      have ht2 : t < 2 := by omega
      have hso : nI t = -1 ∨ nI t = 0 ∨ nI t = 1 := by
        rcases (show t = 0 ∨ t = 1 by omega) with e | e <;> subst e <;> decide
      have hf : ∀ z, z ≠ 127 + 2 * s → z ≠ 127 + 2 * s + 1 → sSh h (127 + 2 * s) (nI t) m (fun z => if z < m then 0 else h (127 + 2 * s + 1) z) z = h z := fun z h1 h2 => sSh_f h1 h2
      obtain ⟨hp1, hg1⟩ := InvP_X hI (fun z hz => hf z (by omega) (by omega))
      refine ⟨_, _, _, x_sheetB hs ht2 hm40, in_S hp1 hg1 (c_sheetB hs ht2 hm40), asm_sh hI (fun z hz => hf z (by omega) (by omega)) (shl_sSh hsh hs hm40 hso) (fun k => ?_) (fun q hq he => ?_)⟩
      · unfold jfu
        split
        · omega
        · exact hsz k
      · unfold jfu at he ⊢
        split
        · rename_i e
          rw [if_pos e] at he
          exact absurd he hb1
        · rename_i e
          rw [if_neg e] at he
          exact hms q hq he
theorem k_shift {n : jN} {h : jH} (hI : Inv h) (a b c e f : Int32) : ∃ (v : Int32) (h1 h2 : jH), jC n 2 jy_Main_shift jc_Main_shift 8 (some .int) [.ref 0, .int a, .int b, .int c, .int e, .int f] h (some (.int v)) h1 ∧ jC n 1 jy_Model_shift jc_Model_shift 9 (some .int) [.ref 135, .int a, .int b, .int c, .int e, .int f] h1 (some (.int v)) h2 ∧ Inv h2 := by
  obtain ⟨P, ls, lg, ch, cr, sh, hI⟩ := hI
  obtain ⟨⟨hw, hv, hlg, hls, ⟨hcl, hrs⟩, hsz, hms⟩, ⟨hP, ⟨nx, hnx, hn20, hsz3, hring⟩, hlk, hcr, hsh⟩, hg, hp⟩ := id hI
  cases hab : js4 a && js4 c with
  | false =>
    have hcm := c_shift_bad (n := n) (h := h) (P := P) (So := sh.1) (Sz := sh.2.1) (Nu := sh.2.2) (a := a) (i := b) (b := c) (j := e) (m := f) (by unfold jokSh; rw [hab]; rfl)
    rw [show jbSh sh.1 a c = -1 by unfold jbSh; rw [hab]; rfl] at hcm
    exact ⟨_, _, _, x_shift_bad hab, in_S hp hg hcm, asm_S hI⟩
  | true =>
    obtain ⟨b1, b2⟩ := Bool.and_eq_true_iff.mp hab
    obtain ⟨s, hs, rfl⟩ := js4_t b1
    obtain ⟨u, hu, rfl⟩ := js4_t b2
    have hcs : (nI s).toNatClampNeg = s := nI_clamp (by omega)
    have hcu : (nI u).toNatClampNeg = u := nI_clamp (by omega)
    by_cases hmis : sh.1 s = -1 ∨ sh.1 u = -1
    · have hd : (decide (0 ≤ sh.1 s) && decide (0 ≤ sh.1 u)) = false := by
        rcases hmis with q | q
        · rw [decide_eq_false ((so_neg (hsh s hs).2.2.2.2).1.mp q), Bool.false_and]
        · rw [decide_eq_false ((so_neg (hsh u hu).2.2.2.2).1.mp q), Bool.and_false]
      have hcm := c_shift_bad (n := n) (h := h) (P := P) (So := sh.1) (Sz := sh.2.1) (Nu := sh.2.2) (a := nI s) (i := b) (b := nI u) (j := e) (m := f) (by unfold jokSh; rw [hab, hcs, hcu, Bool.true_and, hd]; rfl)
      rw [show jbSh sh.1 (nI s) (nI u) = -11 by unfold jbSh; rw [if_pos hab, hcs, hcu, hd]; rfl] at hcm
      exact ⟨_, _, _, x_shift_miss hsh hs hu hmis, in_S hp hg hcm, asm_S hI⟩
    · have hsa : ¬ sh.1 s = -1 := fun q => hmis (Or.inl q)
      have hsb : ¬ sh.1 u = -1 := fun q => hmis (Or.inr q)
      have p1 := (sh_pos hsh hs hsa).1
      have p2 := (sh_pos hsh hu hsb).1
      by_cases he : sh.1 s = sh.1 u
      · have hz1 := hsz s
        have hz2 := hsz u
        cases ho : jhas (sh.2.1 s) b f && jhas (sh.2.1 u) e f with
        | false =>
          have hcm := c_shift_bad (n := n) (h := h) (P := P) (So := sh.1) (Sz := sh.2.1) (Nu := sh.2.2) (a := nI s) (i := b) (b := nI u) (j := e) (m := f) (by
            unfold jokSh
            rw [hab, hcs, hcu, decide_eq_true p1, decide_eq_true p2, decide_eq_true he]
            refine Bool.eq_false_iff.mpr (fun q => ?_)
            simp only [Bool.true_and, Bool.and_eq_true, decide_eq_true_eq] at q
            obtain ⟨⟨⟨⟨q1, q2⟩, q3⟩, q4⟩, q5⟩ := q
            obtain ⟨m, hm, rfl⟩ := nI_of (x := f) (fun w => by rw [Int32.lt_iff_toInt_lt] at w; rw [Int32.le_iff_toInt_le] at q1; omega)
            obtain ⟨i, hi, rfl⟩ := nI_of (x := b) (fun w => by rw [Int32.lt_iff_toInt_lt] at w; rw [Int32.le_iff_toInt_le] at q2; omega)
            obtain ⟨j, hj, rfl⟩ := nI_of (x := e) (fun w => by rw [Int32.lt_iff_toInt_lt] at w; rw [Int32.le_iff_toInt_le] at q3; omega)
            rw [Int32.le_iff_toInt_le, ni_sub3 (by omega) hi, nI_toInt hm] at q4
            rw [Int32.le_iff_toInt_le, ni_sub3 (by omega) hj, nI_toInt hm] at q5
            have r1 : jhas (sh.2.1 s) (nI i) (nI m) = true := (jhas_iff hz1).mpr (by rw [nI_toInt hi, nI_toInt hm]; omega)
            have r2 : jhas (sh.2.1 u) (nI j) (nI m) = true := (jhas_iff hz2).mpr (by rw [nI_toInt hj, nI_toInt hm]; omega)
            rw [r1, r2] at ho
            exact Bool.noConfusion ho)
          rw [show jbSh sh.1 (nI s) (nI u) = -12 by unfold jbSh; rw [if_pos hab, hcs, hcu, decide_eq_true p1, decide_eq_true p2, if_pos (show (true && true) = true from rfl), if_pos he]] at hcm
          exact ⟨_, _, _, x_shift_out hsh hs hu hsa hsb he ho, in_S hp hg hcm, asm_S hI⟩
        | true =>
          obtain ⟨o1, o2⟩ := Bool.and_eq_true_iff.mp ho
          obtain ⟨-, q2, q3, -⟩ := (jhas_iff hz1).mp o1
          obtain ⟨m, hm, rfl⟩ := nI_of (x := f) (fun w => by rw [Int32.lt_iff_toInt_lt, show (0 : Int32).toInt = 0 from rfl] at w; omega)
          rw [nI_toInt hm] at q2 q3
          obtain ⟨i, rfl, him⟩ := jhas_t hz1 (by omega) o1
          obtain ⟨j, rfl, hjm⟩ := jhas_t hz2 (by omega) o2
          have hf : ∀ z, z ≠ 127 + 2 * u + 1 → jcp h (127 + 2 * s + 1) (127 + 2 * u + 1) i j m z = h z := fun z hz => if_neg hz
          obtain ⟨hp1, hg1⟩ := InvP_X hI (fun z hz => hf z (by omega))
          refine ⟨_, _, _, x_shift hsh hs hu hsa hsb he him hjm, in_S hp1 hg1 (c_shift hsz hs hu p1 p2 he him hjm), asm_sh hI (fun z hz => hf z (by omega)) (fun q hq => ?_) hsz hms⟩
          obtain ⟨k1, k2, k3, k4, k5⟩ := hsh q hq
          refine ⟨by rw [hf _ (by omega)]; exact k1, by rw [hf _ (by omega)]; exact k2, fun x hx => ?_, k4, k5⟩
          by_cases eq : q = u
          · subst eq
            show (if 127 + 2 * q + 1 = 127 + 2 * q + 1 then va_cpy (h (127 + 2 * s + 1)) (h (127 + 2 * q + 1)) i j m else _) x = _
            rw [if_pos rfl, if_pos rfl]
            show (if j ≤ x ∧ x < j + m then h (127 + 2 * s + 1) (i + (x - j)) else h (127 + 2 * q + 1) x) = _
            by_cases r : j ≤ x ∧ x < j + m
            · rw [if_pos r, if_pos r]
              exact (hsh s hs).2.2.1 _ (by omega)
            · rw [if_neg r, if_neg r]
              exact k3 x hx
          · rw [hf _ (by omega), k3 x hx]
            exact (if_neg eq).symm
      · have hcm := c_shift_bad (n := n) (h := h) (P := P) (So := sh.1) (Sz := sh.2.1) (Nu := sh.2.2) (a := nI s) (i := b) (b := nI u) (j := e) (m := f) (by unfold jokSh; rw [hab, hcs, hcu, decide_eq_false he]; simp)
        rw [show jbSh sh.1 (nI s) (nI u) = -13 by unfold jbSh; rw [if_pos hab, hcs, hcu, decide_eq_true p1, decide_eq_true p2, if_pos (show (true && true) = true from rfl), if_neg he]] at hcm
        exact ⟨_, _, _, x_shift_sort hsh hs hu hsa hsb he, in_S hp hg hcm, asm_S hI⟩

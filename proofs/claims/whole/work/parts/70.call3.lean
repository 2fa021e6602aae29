theorem k_told {n : jN} {h : jH} (hI : Inv h) (a b : Int32) : ∃ (v : Int32) (h1 h2 : jH), jC n 4 jy_Main_told jc_Main_told 4 (some .int) [.ref 0, .int a, .int b] h (some (.int v)) h1 ∧ jC n 4 jy_Model_told jc_Model_told 4 (some .int) [.ref 135, .int a, .int b] h1 (some (.int v)) h2 ∧ Inv h2 := by
  obtain ⟨P, ls, lg, ch, cr, sh, hI⟩ := hI
  obtain ⟨⟨hw, hv, hlg, hls, ⟨hcl, hrs⟩, hsz, hms⟩, ⟨hP, ⟨nx, hnx, hn20, hsz3, hring⟩, hlk, hcr, hsh⟩, hg, hp⟩ := id hI
  cases hb : jokTold P a b with
  | false => exact ⟨_, _, _, x_told_bad hw hP hb, in_M hp (c_told_bad hw hb), asm_q0 hI sfr_refl⟩
  | true =>
    simp only [jokTold, Bool.and_eq_true] at hb
    obtain ⟨⟨b1, b2⟩, b3⟩ := hb
    obtain ⟨s, hs, rfl⟩ := jsl_t b1
    obtain ⟨w, hw1, hw2, hw3, rfl⟩ := jin_k (by omega) b2
    by_cases hw0 : w = 0
    · subst hw0
      exact ⟨_, _, _, x_told0 hw hP hs, in_M hp (c_told0 hw hs), asm_q0 hI sfr_refl⟩
    · have h0 : 0 < (P s).1 := by
        rw [Bool.or_eq_true, decide_eq_true_eq, decide_eq_true_eq, nI_clamp (by omega)] at b3
        refine b3.resolve_left (fun q => ?_)
        rw [show (0 : Int32) = nI 0 from rfl, nI_leI (by omega) (by omega)] at q
        omega
      have hT := hv s (by omega)
      obtain ⟨ix, pr, hc⟩ := cy_ex hT
      obtain ⟨hd, hd2, he⟩ := cy_mod hT hc
      obtain ⟨j0, j1, j2, j3, j4, j5, j6, j7, -⟩ := cy_cls hT hc
      obtain ⟨i1, i2, i3, -, -⟩ := id hc
      rcases (show w = 1 ∨ w = 2 ∨ w = 3 ∨ w = 4 ∨ w = 5 ∨ w = 6 ∨ w = 7 by omega) with e | e | e | e | e | e | e <;> subst e
      · have hX : sfr (fcH h (P s) j0 pr (ix - 1)) h := fun z hz => fcH_f (by omega)
        obtain ⟨hp1, hg1⟩ := InvP_X hI (sfr_hi hX)
        have hcm := c_told1 (n := n) (h := fcH h (P s) j0 pr (ix - 1)) hw hs h0 i1 i2 i3 hd hd2 he
        have hxm := x_told1 (n := n) hw hP hs h0 j1 j2 j3 j4 j5 j6 j7
        rw [show ix - 1 + 1 = ix by omega] at hxm
        exact ⟨_, _, _, hxm, in_M hp1 hcm, asm_q hI hX (gk_ly hg1.2.2.2.2.1) (lyP_w hw (hw s) _) (fun q hq => lyP_q hq)⟩
      · have hX : sfr (fcH h (P s) j0 pr (ix - 1)) h := fun z hz => fcH_f (by omega)
        obtain ⟨hp1, hg1⟩ := InvP_X hI (sfr_hi hX)
        have hcm := c_told2 (n := n) (h := fcH h (P s) j0 pr (ix - 1)) hw hs h0 i1 i2 i3 hd hd2 he
        exact ⟨_, _, _, x_told2 (n := n) hw hP hs h0 j1 j2 j3 j4 j5 j6 j7, in_M hp1 hcm, asm_q hI hX (gk_ly hg1.2.2.2.2.1) (lyP_w hw (hw s) _) (fun q hq => lyP_q hq)⟩
      · have hX : sfr (fcH h (P s) j0 pr (ix - 1)) h := fun z hz => fcH_f (by omega)
        obtain ⟨hp1, hg1⟩ := InvP_X hI (sfr_hi hX)
        obtain ⟨q, q1, q2, q3, q4, q5, q6⟩ := cy_idem i1 i2 i3
        have hcm := c_told3 (n := n) (h := fcH h (P s) j0 pr (ix - 1)) hw hs h0 i1 i2 i3 hd hd2 he q4 q5 q6
        rw [show pr + pr * q - 1 + 1 = pr + pr * q by omega] at hcm
        exact ⟨_, _, _, x_told3 (n := n) hw hP hs h0 j1 j2 j3 j4 j5 j6 j7 (show pr ≤ 1000 by omega) q1 (fun j hj => by have := q2 j hj; omega) (by omega), in_M hp1 hcm, asm_q hI hX (gk_ly hg1.2.2.2.2.1) (lyP_w hw (hw s) _) (fun q hq => lyP_q hq)⟩
      · rcases cy_exp hT h0 hc with ⟨e, e1, e2, e3, e4, e5, e6⟩ | ⟨e1, e2⟩
        · have hX : sfr (exH h (P s) e) h := fun z hz => exH_f (by omega) _
          obtain ⟨hp1, hg1⟩ := InvP_X hI (sfr_hi hX)
          have hcm := c_told4_some (n := n) (h := exH h (P s) e) hw hs h0 i1 i2 i3 hd hd2 he e2 e5 e6
          exact ⟨_, _, _, x_told4_some hw hP hs h0 e1 e3 e4, in_M hp1 hcm, asm_q hI hX (gk_ly hg1.2.2.2.2.1) (lyP_w hw (hw s) _) (fun q hq => lyP_q hq)⟩
        · have hX : sfr (exH h (P s) (((P s).1 - 1) * ((P s).1 - 1) + 1)) h := fun z hz => exH_f (by omega) _
          obtain ⟨hp1, hg1⟩ := InvP_X hI (sfr_hi hX)
          have hcm := c_told4_none (n := n) (h := exH h (P s) (((P s).1 - 1) * ((P s).1 - 1) + 1)) hw hs h0 i1 i2 i3 hd hd2 he e2
          exact ⟨_, _, _, x_told4_none hw hP hs h0 e1, in_M hp1 hcm, asm_q hI hX (gk_ly hg1.2.2.2.2.1) (lyP_w hw (hw s) _) (fun q hq => lyP_q hq)⟩
      · exact ⟨_, _, _, x_told5 hw hP hs h0, in_M hp (c_told5 hw hs h0), asm_q hI sfr_refl (gk_refl hg.2.2.2.2.1) (tws hw (tw_tr (hw s))) (fun q hq => jset_ne (by omega))⟩
      · have hX : sfr (sT (sT h 113 (P s)) 113 (tmul (P s) (P s))) h := fun z hz => (sT_f (by omega) (by omega)).trans (sT_f (by omega) (by omega))
        obtain ⟨hp1, hg1⟩ := InvP_X hI (sfr_hi hX)
        have hcm := c_told6 (n := n) (h := sT (sT h 113 (P s)) 113 (tmul (P s) (P s))) hw hs h0
        rw [tsam_comm hT (tv_mul hT hT rfl), ← tlik_sam (tv_mul hT hT rfl) hT] at hcm
        exact ⟨_, _, _, x_told6 hw hP hs h0, in_M hp1 hcm, asm_q hI hX (gk_refl hg1.2.2.2.2.1) (tws hw (tw_mul (hw s) (hw s))) (fun q hq => jset_ne (by omega))⟩
      · have hX : sfr (sT h 113 (ttr (P s))) h := fun z hz => sT_f (by omega) (by omega)
        obtain ⟨hp1, hg1⟩ := InvP_X hI (sfr_hi hX)
        have hcm := c_told7 (n := n) (h := sT h 113 (ttr (P s))) hw hs h0
        rw [tsam_comm hT (tv_tr hT), ← tlik_sam (tv_tr hT) hT] at hcm
        exact ⟨_, _, _, x_told7 hw hP hs h0, in_M hp1 hcm, asm_q hI hX (gk_refl hg1.2.2.2.2.1) (tws hw (tw_tr (hw s))) (fun q hq => jset_ne (by omega))⟩
theorem k_reaches {n : jN} {h : jH} (hI : Inv h) (a b : Int32) : ∃ (v : Int32) (h1 h2 : jH), jC n 3 jy_Main_reaches jc_Main_reaches 4 (some .int) [.ref 0, .int a, .int b] h (some (.int v)) h1 ∧ jC n 4 jy_Model_reaches jc_Model_reaches 4 (some .int) [.ref 135, .int a, .int b] h1 (some (.int v)) h2 ∧ Inv h2 := by
  obtain ⟨P, ls, lg, ch, cr, sh, hI⟩ := hI
  obtain ⟨⟨hw, hv, hlg, hls, ⟨hcl, hrs⟩, hsz, hms⟩, ⟨hP, ⟨nx, hnx, hn20, hsz3, hring⟩, hlk, hcr, hsh⟩, hg, hp⟩ := id hI
  cases hb : (jho P a && jho P b) with
  | false =>
    have hcm := c_reaches_bad1 (n := n) (h := h) hw hb
    rw [show jbRe P a b = -1 from if_neg (by rw [hb]; decide)] at hcm
    exact ⟨_, _, _, x_reaches_bad hw hP hb, in_M hp hcm, asm_q0 hI sfr_refl⟩
  | true =>
    simp only [Bool.and_eq_true] at hb
    obtain ⟨s, hs, h0, rfl⟩ := jho_t hb.1
    obtain ⟨u, hu, hu0, rfl⟩ := jho_t hb.2
    by_cases hn : (P s).1 = (P u).1
    · have hT := hv s (by omega)
      obtain ⟨ix, pr, hc⟩ := cy_ex hT
      obtain ⟨hd, hd2, he⟩ := cy_mod hT hc
      obtain ⟨i1, i2, i3, -, -⟩ := id hc
      rcases cy_first hT (hv u (by omega)) hn hc with ⟨e, e1, e2, e3, e4, e5, e6, e7⟩ | ⟨e, e1, e2, e3, e4, e5, e6⟩
      · have hX : sfr (flH h (P s) e) h := fun z hz => flH_f (by omega) _
        obtain ⟨hp1, hg1⟩ := InvP_X hI (sfr_hi hX)
        have hcm := c_reaches_some (n := n) (h := flH h (P s) e) hw hs h0 hu hu0 hn i1 i2 i3 hd hd2 he e2 e6 e7
        exact ⟨_, _, _, x_reaches_some hw hP hs h0 hu hu0 hn e1 e3 e4 e5, in_M hp1 hcm, asm_q hI hX (gk_ly hg1.2.2.2.2.1) (lyP_w hw (hw s) _) (fun q hq => lyP_q hq)⟩
      · have hX : sfr (flH h (P s) e) h := fun z hz => flH_f (by omega) _
        obtain ⟨hp1, hg1⟩ := InvP_X hI (sfr_hi hX)
        have hcm := c_reaches_none (n := n) (h := flH h (P s) e) hw hs h0 hu hu0 hn i1 i2 i3 hd hd2 he e6
        exact ⟨_, _, _, x_reaches_none hw hP hs h0 hu hu0 hn e1 e2 e3 e4 e5, in_M hp1 hcm, asm_q hI hX (gk_ly hg1.2.2.2.2.1) (lyP_w hw (hw s) _) (fun q hq => lyP_q hq)⟩
    · exact ⟨_, _, _, x_reaches_un hw hP hs h0 hu hu0 hn, in_M hp (c_reaches_un hw hs h0 hu hu0 hn), asm_q0 hI sfr_refl⟩
theorem k_bound {n : jN} {h : jH} (hI : Inv h) (a b : Int32) : ∃ (v : Int32) (h1 h2 : jH), jC n 4 jy_Main_bound jc_Main_bound 6 (some .int) [.ref 0, .int a, .int b] h (some (.int v)) h1 ∧ jC n 4 jy_Model_bound jc_Model_bound 6 (some .int) [.ref 135, .int a, .int b] h1 (some (.int v)) h2 ∧ Inv h2 := by
  obtain ⟨P, ls, lg, ch, cr, sh, hI⟩ := hI
  obtain ⟨⟨hw, hv, hlg, hls, ⟨hcl, hrs⟩, hsz, hms⟩, ⟨hP, ⟨nx, hnx, hn20, hsz3, hring⟩, hlk, hcr, hsh⟩, hg, hp⟩ := id hI
  cases hb : jokBound P a b with
  | false => exact ⟨_, _, _, x_bound_bad hw hP hb, in_M hp (c_bound_bad hw hb), asm_q0 hI sfr_refl⟩
  | true =>
    simp only [jokBound, Bool.and_eq_true] at hb
    obtain ⟨s, hs, h0, rfl⟩ := jho_t hb.1
    obtain ⟨w, hw1, hw2, hw3, rfl⟩ := jin_k (by omega) hb.2
    have hT := hv s (by omega)
    obtain ⟨ix, pr, hc⟩ := cy_ex hT
    obtain ⟨hd, hd2, he⟩ := cy_mod hT hc
    obtain ⟨i1, i2, i3, -, -⟩ := id hc
    rcases cy_exp hT h0 hc with ⟨e, e1, e2, e3, e4, e5, e6⟩ | ⟨e1, e2⟩
    · have hX0 : sfr (exH h (P s) e) h := fun z hz => exH_f (by omega) _
      rcases (show w = 0 ∨ w = 1 ∨ w = 2 ∨ w = 3 by omega) with q | q | q | q <;> subst q
      · have hX := hX0
        obtain ⟨hp1, hg1⟩ := InvP_X hI (sfr_hi hX)
        obtain ⟨my, hmy⟩ := hg1.2.2.2.2.1
        have hcm := c_bound0 (n := n) (h := exH h (P s) e) hw hs h0 hmy i1 i2 i3 hd hd2 he e2 e5 e6
        exact ⟨_, _, _, x_bound0 hw hP hs h0 e1 e3 e4, in_M hp1 hcm, asm_q hI hX (gk_trans gk_wk (gk_ly hg1.2.2.2.2.1)) (lyP_w hw (hw s) _) (fun q hq => lyP_q hq)⟩
      · have hX : sfr (rdK (exH h (P s) e) (P s) (rNb (P s))) h := fun z hz => (rdK_out (by omega) _).trans (hX0 z hz)
        obtain ⟨hp1, hg1⟩ := InvP_X hI (sfr_hi hX)
        obtain ⟨my, hmy⟩ := hg1.2.2.2.2.1
        have hcm := c_bound1 (n := n) (h := rdK (exH h (P s) e) (P s) (rNb (P s))) hw hs h0 hmy i1 i2 i3 hd hd2 he e2 e5 e6
        have hM1 := one_cls hT h0 e5
        have hb1 : bnd1 (P s) = nI (P s).1 + nI (grO (P s) (rHm (P s)) (P s).1 0) * (nI (P s).1 - nI 2) := by
          rw [bnd1, hM1, lgi_1, grO_fi hT]
        rw [hb1] at hcm
        exact ⟨_, _, _, x_bound1 hw hP hs h0 e1 e3 e4 (ok_R hT) (by rw [rNb_M hT, hM1]; omega), in_M hp1 hcm, asm_q hI hX (gk_trans gk_wk (gk_ly hg1.2.2.2.2.1)) (lyP_w hw (hw s) _) (fun q hq => lyP_q hq)⟩
      · have hX := hX0
        obtain ⟨hp1, hg1⟩ := InvP_X hI (sfr_hi hX)
        obtain ⟨my, hmy⟩ := hg1.2.2.2.2.1
        by_cases ho : own (P s) (P s).1 = 0
        · have hcm := c_bound2_0 (n := n) (h := exH h (P s) e) hw hs h0 hmy i1 i2 i3 hd hd2 he e2 e5 e6 ho
          exact ⟨_, _, _, x_bound2_0 hw hP hs h0 e1 e3 e4 ho, in_M hp1 hcm, asm_q hI hX (gk_trans gk_wk (gk_ly hg1.2.2.2.2.1)) (lyP_w hw (hw s) _) (fun q hq => lyP_q hq)⟩
        · have hcm := c_bound2_1 (n := n) (h := exH h (P s) e) hw hs h0 hmy i1 i2 i3 hd hd2 he e2 e5 e6 ho
          exact ⟨_, _, _, x_bound2_1 hw hP hs h0 e1 e3 e4 ho, in_M hp1 hcm, asm_q hI hX (gk_trans gk_wk (gk_ly hg1.2.2.2.2.1)) (lyP_w hw (hw s) _) (fun q hq => lyP_q hq)⟩
      · have hX : sfr (sT (exH h (P s) e) 113 (ttr (P s))) h := fun z hz => (sT_f (by omega) (by omega)).trans (hX0 z hz)
        obtain ⟨hp1, hg1⟩ := InvP_X hI (sfr_hi hX)
        obtain ⟨my, hmy⟩ := hg1.2.2.2.2.1
        have hcm := c_bound3 (n := n) (h := sT (exH h (P s) e) 113 (ttr (P s))) hw hs h0 hmy i1 i2 i3 hd hd2 he e2 e5 e6
        have hb3 : bnd3 (P s) = xnd3 (P s) := by
          rw [bnd3, xnd3, tsam_comm hT (tv_tr hT), ← tlik_sam (tv_tr hT) hT]
        rw [hb3] at hcm
        exact ⟨_, _, _, x_bound3 hw hP hs h0 e1 e3 e4, in_M hp1 hcm, asm_q hI hX (gk_trans gk_wk (gk_ly hg1.2.2.2.2.1)) (tws (lyP_w hw (hw s) _) (tw_tr (hw s))) (fun q hq => (jset_ne (by omega)).trans (lyP_q hq))⟩
    · have hX : sfr (exH h (P s) (((P s).1 - 1) * ((P s).1 - 1) + 1)) h := fun z hz => exH_f (by omega) _
      obtain ⟨hp1, hg1⟩ := InvP_X hI (sfr_hi hX)
      obtain ⟨my, hmy⟩ := hg1.2.2.2.2.1
      have hcm := c_bound_none (n := n) (h := exH h (P s) (((P s).1 - 1) * ((P s).1 - 1) + 1)) hw hs h0 hmy i1 i2 i3 hd hd2 he (show w < 4 by omega) e2
      exact ⟨_, _, _, x_bound_none hw hP hs h0 (show w < 4 by omega) e1, in_M hp1 hcm, asm_q hI hX (gk_ly hg1.2.2.2.2.1) (lyP_w hw (hw s) _) (fun q hq => lyP_q hq)⟩

theorem k_space {n : jN} {h : jH} (hI : Inv h) (a b : Int32) : ∃ (v : Int32) (h1 h2 : jH), jC n 5 jy_Main_space jc_Main_space 4 (some .int) [.ref 0, .int a, .int b] h (some (.int v)) h1 ∧ jC n 5 jy_Model_space jc_Model_space 3 (some .int) [.ref 135, .int a, .int b] h1 (some (.int v)) h2 ∧ Inv h2 := by
  obtain ⟨P, ls, lg, ch, cr, sh, hI⟩ := hI
  obtain ⟨⟨hw, hv, hlg, hls, ⟨hcl, hrs⟩, hsz, hms⟩, ⟨hP, ⟨nx, hnx, hn20, hsz3, hring⟩, hlk, hcr, hsh⟩, hg, hp⟩ := id hI
  cases hb : jokSpace P a b with
  | false => exact ⟨_, _, _, x_space_bad hw hP hb, in_M hp (c_space_bad hw hb), asm_q0 hI sfr_refl⟩
  | true =>
    simp only [jokSpace, Bool.and_eq_true] at hb
    obtain ⟨s, hs, h0, rfl⟩ := jho_t hb.1
    obtain ⟨w, hw1, hw2, hw3, rfl⟩ := jin_k (by omega) hb.2
    have hT := hv s (by omega)
    have hR := tv_tr hT
    rcases (show w = 0 ∨ w = 1 ∨ w = 2 ∨ w = 3 ∨ w = 4 by omega) with e | e | e | e | e <;> subst e
    · have hX : sfr (sT h 113 (P s)) h := fun z hz => sT_f (by omega) (by omega)
      obtain ⟨hp1, hg1⟩ := InvP_X hI (sfr_hi hX)
      have hcm := c_space0 (n := n) (h := sT h 113 (P s)) hw hs h0 (bas_all hT).1
      rw [← unc_ucn hT] at hcm
      exact ⟨_, _, _, x_space0 hw hP hs h0, in_M hp1 hcm, asm_q hI hX (gk_trans (gk_U (gk_my (gk_Ba hg1.2.2.2.2.1))) (gk_Ba hg1.2.2.2.2.1)) (tws hw (hw s)) (fun q hq => jset_ne (by omega))⟩
    · have hX : sfr (sT h 113 (P s)) h := fun z hz => sT_f (by omega) (by omega)
      obtain ⟨hp1, hg1⟩ := InvP_X hI (sfr_hi hX)
      obtain ⟨a1, a2, a3, a4, a5⟩ := bas_all hT
      have hcm := c_space1 (n := n) (h := sT h 113 (P s)) hw hs h0 a1
      exact ⟨_, _, _, x_space1 hw hP hs h0 a2 a3 a4, in_M hp1 hcm, asm_q hI hX (gk_Ba hg1.2.2.2.2.1) (tws hw (hw s)) (fun q hq => jset_ne (by omega))⟩
    · have hX : sfr (sT (sT h 113 (P s)) 113 (ttr (P s))) h := fun z hz => (sT_f (by omega) (by omega)).trans (sT_f (by omega) (by omega))
      obtain ⟨hp1, hg1⟩ := InvP_X hI (sfr_hi hX)
      have hcm := c_space2 (n := n) (h := sT (sT h 113 (P s)) 113 (ttr (P s))) hw hs h0 (bas_all hR).1
      rw [← unc_ucn hR] at hcm
      exact ⟨_, _, _, x_space2 hw hP hs h0, in_M hp1 hcm, asm_q hI hX (gk_trans (gk_U (gk_my (gk_Ba hg1.2.2.2.2.1))) (gk_Ba hg1.2.2.2.2.1)) (tws hw (tw_tr (hw s))) (fun q hq => jset_ne (by omega))⟩
    · have hX : sfr (sT (sT h 113 (P s)) 113 (ttr (P s))) h := fun z hz => (sT_f (by omega) (by omega)).trans (sT_f (by omega) (by omega))
      obtain ⟨hp1, hg1⟩ := InvP_X hI (sfr_hi hX)
      obtain ⟨a1, a2, a3, a4, a5⟩ := bas_all hR
      have hcm := c_space3 (n := n) (h := sT (sT h 113 (P s)) 113 (ttr (P s))) hw hs h0 a1
      exact ⟨_, _, _, x_space3 hw hP hs h0 a2 a3 a4, in_M hp1 hcm, asm_q hI hX (gk_Ba hg1.2.2.2.2.1) (tws hw (tw_tr (hw s))) (fun q hq => jset_ne (by omega))⟩
    · have hX : sfr (sT (sT (sT (fgH h (115 + 2 * s) 71 (P s)) 73 (P s)) 73 (tmul (P s) (tgr (P s)))) 73 (tmul (tmul (P s) (tgr (P s))) (P s))) h := fun z hz => (sT_f (by omega) (by omega)).trans ((sT_f (by omega) (by omega)).trans ((sT_f (by omega) (by omega)).trans (fgH_f (by omega) (by omega) (by omega))))
      obtain ⟨hp1, hg1⟩ := InvP_X hI (sfr_hi hX)
      have hcm := c_space4 (n := n) (h := sT (sT (sT (fgH h (115 + 2 * s) 71 (P s)) 73 (P s)) 73 (tmul (P s) (tgr (P s)))) 73 (tmul (tmul (P s) (tgr (P s))) (P s))) hw hs h0
      have hG : tv (tmul (tmul (P s) (tgr (P s))) (P s)) := tv_mul (tv_mul hT (tv_gr hT) rfl) hT rfl
      have hval : tsam (rg2 s P s) (rg2 s P 37) 12 = tlik (tmul (tmul (P s) (tgr (P s))) (P s)) (P s) := by
        rw [rg2_o (by omega), rg2_37 hs, tsam_comm hT hG, ← tlik_sam hG hT]
      rw [hval] at hcm
      exact ⟨_, _, _, x_space4 hw hP hs h0, in_M hp1 hcm, asm_q hI hX (gk_refl hg1.2.2.2.2.1) (rg2_w hw) (fun q hq => rg2_o hq)⟩
theorem k_basis {n : jN} {h : jH} (hI : Inv h) (a b : Int32) : ∃ (v : Int32) (h1 h2 : jH), jC n 4 jy_Main_basis jc_Main_basis 5 (some .int) [.ref 0, .int a, .int b] h (some (.int v)) h1 ∧ jC n 2 jy_Model_basis jc_Model_basis 3 (some .int) [.ref 135, .int a, .int b] h1 (some (.int v)) h2 ∧ Inv h2 := by
  obtain ⟨P, ls, lg, ch, cr, sh, hI⟩ := hI
  obtain ⟨⟨hw, hv, hlg, hls, ⟨hcl, hrs⟩, hsz, hms⟩, ⟨hP, ⟨nx, hnx, hn20, hsz3, hring⟩, hlk, hcr, hsh⟩, hg, hp⟩ := id hI
  cases hb : jho P a with
  | false => exact ⟨_, _, _, x_basis_bad hw hP hb, in_M hp (c_basis_bad hw hb), asm_q0 hI sfr_refl⟩
  | true =>
    obtain ⟨s, hs, h0, rfl⟩ := jho_t hb
    have hT := hv s (by omega)
    obtain ⟨a1, a2, a3, a4, a5⟩ := bas_all hT
    have hg1 := hg
    have hq : (decide (0 ≤ b) && decide (b < nI (bsF (P s) (2 ^ (P s).1 - 1)).2)) = jin b 0 (((bsF (P s) (2 ^ (P s).1 - 1)).2 : Int) - 1) := beq_of_iff (by
      rw [Bool.and_eq_true, decide_eq_true_eq, decide_eq_true_eq, jin, decide_eq_true_eq, Int32.le_iff_toInt_le, Int32.lt_iff_toInt_lt, nI_toInt (by omega), show (0 : Int32).toInt = 0 from rfl]
      omega)
    cases hj : jin b 0 (((bsF (P s) (2 ^ (P s).1 - 1)).2 : Int) - 1) with
    | false => exact ⟨_, _, _, x_basis_none hw hP hs h0 a2 a3 a4 (hq.trans hj), in_M hp (c_basis_none hw hs h0 a1 (by omega) hj), asm_q hI sfr_refl (gk_Ba hg1.2.2.2.2.1) hw (fun _ _ => rfl)⟩
    | true =>
      obtain ⟨i, hi1, hi2, hi3, rfl⟩ := jin_k (by omega) hj
      have hcm := c_basis_some (n := n) (h := h) (i := i) hw hs h0 a1 (by omega) (by omega) (by omega)
      have hval : (bsF (P s) (2 ^ (P s).1 - 1)).1 i = bsq (P s) (i + 1) := a5 i (by omega)
      have hxm := x_basis (n := n) (i := i) hw hP hs h0 a2 a3 a4 (by omega)
      rw [← hval] at hxm
      exact ⟨_, _, _, hxm, in_M hp hcm, asm_q hI sfr_refl (gk_Ba hg1.2.2.2.2.1) hw (fun _ _ => rfl)⟩
theorem k_spans {n : jN} {h : jH} (hI : Inv h) (a b : Int32) : ∃ (v : Int32) (h1 h2 : jH), jC n 4 jy_Main_spans jc_Main_spans 3 (some .int) [.ref 0, .int a, .int b] h (some (.int v)) h1 ∧ jC n 2 jy_Model_spans jc_Model_spans 4 (some .int) [.ref 135, .int a, .int b] h1 (some (.int v)) h2 ∧ Inv h2 := by
  obtain ⟨P, ls, lg, ch, cr, sh, hI⟩ := hI
  obtain ⟨⟨hw, hv, hlg, hls, ⟨hcl, hrs⟩, hsz, hms⟩, ⟨hP, ⟨nx, hnx, hn20, hsz3, hring⟩, hlk, hcr, hsh⟩, hg, hp⟩ := id hI
  cases hb : jokSpans P a b with
  | false => exact ⟨_, _, _, x_spans_bad hw hP hb, in_M hp (c_spans_bad hw hb), asm_q0 hI sfr_refl⟩
  | true =>
    simp only [jokSpans, Bool.and_eq_true] at hb
    obtain ⟨s, hs, h0, rfl⟩ := jho_t hb.1
    have hT := hv s (by omega)
    have b2 := hb.2
    rw [nI_clamp (by omega)] at b2
    obtain ⟨v, hv1, rfl⟩ := jse_t hT.1 b2
    have hcm := c_spans (n := n) (h := h) hw hs h0 hv1
    rw [← seen_hun (hw s) v] at hcm
    exact ⟨_, _, _, x_spans hw hP hs h0 hv1, in_M hp hcm, asm_q hI sfr_refl (gk_U hg.2.2.2.2.1) hw (fun _ _ => rfl)⟩
theorem k_alike {n : jN} {h : jH} (hI : Inv h) (a b c : Int32) : ∃ (v : Int32) (h1 h2 : jH), jC n 4 jy_Main_alike jc_Main_alike 4 (some .int) [.ref 0, .int a, .int b, .int c] h (some (.int v)) h1 ∧ jC n 3 jy_Model_alike jc_Model_alike 4 (some .int) [.ref 135, .int a, .int b, .int c] h1 (some (.int v)) h2 ∧ Inv h2 := by
  obtain ⟨P, ls, lg, ch, cr, sh, hI⟩ := hI
  obtain ⟨⟨hw, hv, hlg, hls, ⟨hcl, hrs⟩, hsz, hms⟩, ⟨hP, ⟨nx, hnx, hn20, hsz3, hring⟩, hlk, hcr, hsh⟩, hg, hp⟩ := id hI
  cases hb : jokAl P a b c with
  | false =>
    have hcm := c_alike_bad1 (n := n) (h := h) hw hb
    rw [show jbAl P a b c = -1 from if_neg (by rw [hb]; decide)] at hcm
    exact ⟨_, _, _, x_alike_bad hw hP hb, in_M hp hcm, asm_q0 hI sfr_refl⟩
  | true =>
    simp only [jokAl, Bool.and_eq_true] at hb
    obtain ⟨⟨b1, b2⟩, b3⟩ := hb
    obtain ⟨s, hs, h0, rfl⟩ := jho_t b1
    obtain ⟨u, hu, hu0, rfl⟩ := jho_t b2
    obtain ⟨w, hw1, hw2, hw3, rfl⟩ := jin_k (by omega) b3
    by_cases he : (P s).1 = (P u).1
    · rcases (show w = 0 ∨ w = 1 by omega) with e | e <;> subst e
      · have hX : sfr (sT (sT h 65 (P s)) 67 (P u)) h := fun z hz => (sT_f (by omega) (by omega)).trans (sT_f (by omega) (by omega))
        obtain ⟨hp1, hg1⟩ := InvP_X hI (sfr_hi hX)
        have hxm := x_alike0 (n := n) hw hP hs h0 hu hu0 he
        rw [spr_wth (hw s), spr_wth (hw u)] at hxm
        cases hf : wth (P s) (P u) (P s).1 with
        | false =>
          have hcm := c_alike0_f (n := n) (h := sT (sT h 65 (P s)) 67 (P u)) hw hs h0 hu hu0 he (by exact hf)
          rw [hf, Bool.and_false] at hxm
          exact ⟨_, _, _, hxm, in_M hp1 hcm, asm_q hI hX (gk_U hg1.2.2.2.2.1) hw (fun _ _ => rfl)⟩
        | true =>
          have hcm := c_alike0_t (n := n) (h := sT (sT h 65 (P s)) 67 (P u)) hw hs h0 hu hu0 he (by exact hf)
          rw [hf, Bool.and_true] at hxm
          exact ⟨_, _, _, hxm, in_M hp1 hcm, asm_q hI hX (gk_trans (gk_U (gk_my (gk_U hg1.2.2.2.2.1))) (gk_U hg1.2.2.2.2.1)) hw (fun _ _ => rfl)⟩
      · have hX : sfr (sT (sT (sT (sT h 65 (P s)) 67 (P u)) 65 (ttr (P s))) 67 (ttr (P u))) h := fun z hz => (sT_f (by omega) (by omega)).trans ((sT_f (by omega) (by omega)).trans ((sT_f (by omega) (by omega)).trans (sT_f (by omega) (by omega))))
        obtain ⟨hp1, hg1⟩ := InvP_X hI (sfr_hi hX)
        have e34 : (jset (jset P 34 (ttr (P s))) 35 (ttr (jset P 34 (ttr (P s)) u))) 34 = ttr (P s) := by rw [jset_ne (by omega), jset_eq]
        have e35 : (jset (jset P 34 (ttr (P s))) 35 (ttr (jset P 34 (ttr (P s)) u))) 35 = ttr (P u) := by rw [jset_eq, jset_ne (by omega)]
        have hxm := x_alike1 (n := n) hw hP hs h0 hu hu0 he
        rw [spr_wth (tw_tr (hw s)), spr_wth (tw_tr (hw u))] at hxm
        cases hf : wth (ttr (P s)) (ttr (P u)) (ttr (P s)).1 with
        | false =>
          have hcm := c_alike1_f (n := n) (h := sT (sT (sT (sT h 65 (P s)) 67 (P u)) 65 (ttr (P s))) 67 (ttr (P u))) hw hs h0 hu hu0 he (by rw [e34, e35]; exact hf)
          rw [hf, Bool.and_false] at hxm
          exact ⟨_, _, _, hxm, in_M hp1 hcm, asm_q hI hX (gk_U hg1.2.2.2.2.1) (tws (tws hw (tw_tr (hw s))) (tw_tr (tws (p := 34) hw (tw_tr (hw s)) u))) (fun q hq => (jset_ne (by omega)).trans (jset_ne (by omega)))⟩
        | true =>
          have hcm := c_alike1_t (n := n) (h := sT (sT (sT (sT h 65 (P s)) 67 (P u)) 65 (ttr (P s))) 67 (ttr (P u))) hw hs h0 hu hu0 he (by rw [e34, e35]; exact hf)
          rw [e35, e34] at hcm
          rw [hf, Bool.and_true] at hxm
          exact ⟨_, _, _, hxm, in_M hp1 hcm, asm_q hI hX (gk_trans (gk_U (gk_my (gk_U hg1.2.2.2.2.1))) (gk_U hg1.2.2.2.2.1)) (tws (tws hw (tw_tr (hw s))) (tw_tr (tws (p := 34) hw (tw_tr (hw s)) u))) (fun q hq => (jset_ne (by omega)).trans (jset_ne (by omega)))⟩
    · exact ⟨_, _, _, x_alike_un hw hP hs h0 hu hu0 (by omega) he, in_M hp (c_alike_un hw hs h0 hu hu0 (show w < 2 by omega) he), asm_q0 hI sfr_refl⟩
theorem k_roots {n : jN} {h : jH} (hI : Inv h) (a b : Int32) : ∃ (v : Int32) (h1 h2 : jH), jC n 20 jy_Main_roots jc_Main_roots 4 (some .int) [.ref 0, .int a, .int b] h (some (.int v)) h1 ∧ jC n 3 jy_Model_roots jc_Model_roots 6 (some .int) [.ref 135, .int a, .int b] h1 (some (.int v)) h2 ∧ Inv h2 := by
  obtain ⟨P, ls, lg, ch, cr, sh, hI⟩ := hI
  obtain ⟨⟨hw, hv, hlg, hls, ⟨hcl, hrs⟩, hsz, hms⟩, ⟨hP, ⟨nx, hnx, hn20, hsz3, hring⟩, hlk, hcr, hsh⟩, hg, hp⟩ := id hI
  cases hb : jokRt P a b with
  | false => exact ⟨_, _, _, x_roots_bad hw hP hb, in_M hp (c_roots_bad hw hb), asm_q0 hI sfr_refl⟩
  | true =>
    simp only [jokRt, Bool.and_eq_true] at hb
    obtain ⟨s, hs, h0, rfl⟩ := jho_t hb.1
    obtain ⟨d, hd1, hd2, hd3, rfl⟩ := jin_k (by omega) hb.2
    have hT := hv s (by omega)
    have hd : 2 ≤ d := by omega
    have hd8 : d ≤ 8 := by omega
    by_cases hm : (P s).1 ≤ 4
    · have hcm := c_roots (n := n) (h := h) hw hs h0 hd hd8 hm
      rw [← roots_eq hT hm hd hd8] at hcm
      exact ⟨_, _, _, x_roots hw hP hs h0 hd hd8 hm, in_M hp hcm, asm_q hI sfr_refl (gk_refl hg.2.2.2.2.1) (rtX_w hT.1 hw _) (fun q hq => rtX_o hq _)⟩
    · exact ⟨_, _, _, x_roots_large hw hP hs h0 hd hd8 (by omega), in_M hp (c_roots_large hw hs h0 hd hd8 (by omega)), asm_q0 hI sfr_refl⟩
theorem k_root {n : jN} {h : jH} (hI : Inv h) (a b c : Int32) : ∃ (v : Int32) (h1 h2 : jH), jC n 20 jy_Main_root jc_Main_root 6 (some .int) [.ref 0, .int a, .int b, .int c] h (some (.int v)) h1 ∧ jC n 3 jy_Model_root jc_Model_root 7 (some .int) [.ref 135, .int a, .int b, .int c] h1 (some (.int v)) h2 ∧ Inv h2 := by
  obtain ⟨P, ls, lg, ch, cr, sh, hI⟩ := hI
  obtain ⟨⟨hw, hv, hlg, hls, ⟨hcl, hrs⟩, hsz, hms⟩, ⟨hP, ⟨nx, hnx, hn20, hsz3, hring⟩, hlk, hcr, hsh⟩, hg, hp⟩ := id hI
  cases hb : jokRt2 P a b c with
  | false => exact ⟨_, _, _, x_root_bad hw hP hb, in_M hp (c_root_bad hw hb), asm_q0 hI sfr_refl⟩
  | true =>
    simp only [jokRt2, Bool.and_eq_true] at hb
    obtain ⟨⟨b1, b2⟩, b3⟩ := hb
    obtain ⟨s, hs, h0, rfl⟩ := jho_t b1
    obtain ⟨d, hd1, hd2, hd3, rfl⟩ := jin_k (by omega) b2
    obtain ⟨t, ht, rfl⟩ := jsl_t b3
    have hT := hv s (by omega)
    have hd : 2 ≤ d := by omega
    have hd8 : d ≤ 8 := by omega
    by_cases hm : (P s).1 ≤ 4
    · rcases root_eq hT hm hd hd8 with ⟨r1, r2⟩ | ⟨x0, r1, r2, r3, r4⟩
      · have hcm := c_root_none (n := n) (h := h) (ls := ls) hlg hw hs h0 hd hd8 ht hm r2
        refine ⟨_, _, _, x_root_none hw hP hs h0 hd hd8 ht hm r1, in_L hp hg hcm, ?_⟩
        rw [jL_id hg.1 hg.2.1]
        exact asm_q hI sfr_refl (gk_refl hg.2.2.2.2.1) (rtX_w hT.1 hw _) (fun q hq => rtX_o hq _)
      · have hM : tv (tnum (P s).1 x0) := tv_num hT.1
        have hX : sfr (sT h 113 (tnum (P s).1 x0)) h := fun z hz => sT_f (by omega) (by omega)
        obtain ⟨hp1, hg1⟩ := InvP_X hI (hold_hi (lg := lg) (T := P t) (M := tnum (P s).1 x0) hX ht hn20)
        have hcm := c_root_some (n := n) (h := holdH (sT h 113 (tnum (P s).1 x0)) t nx lg (P t) (tnum (P s).1 x0)) (ls := ls) hlg hw hs h0 hd hd8 ht hm r1 r3 r4
        exact ⟨_, _, _, x_root_some hw hP hnx hn20 hsz3 hlg hs h0 hd hd8 ht hm r2, in_L hp1 hg1 hcm, fin_hold hI hX ht hnx hn20 hring hM (tws (rtX_w hT.1 hw _) (tv_w hM)) (fun q hq => (jset_ne (by omega)).trans (rtX_o hq _)) jset_eq⟩
    · exact ⟨_, _, _, x_root_large hw hP hs h0 hd hd8 ht (by omega), in_M hp (c_root_large hw hs h0 hd hd8 (by omega) ht), asm_q0 hI sfr_refl⟩

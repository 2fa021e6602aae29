theorem k_classes {n : jN} {h : jH} (hI : Inv h) (a : Int32) : ∃ (v : Int32) (h1 h2 : jH), jC n 4 jy_Main_classes jc_Main_classes 2 (some .int) [.ref 0, .int a] h (some (.int v)) h1 ∧ jC n 2 jy_Model_classes jc_Model_classes 2 (some .int) [.ref 135, .int a] h1 (some (.int v)) h2 ∧ Inv h2 := by
  obtain ⟨P, ls, lg, ch, cr, sh, hI⟩ := hI
  obtain ⟨⟨hw, hv, hlg, hls, ⟨hcl, hrs⟩, hsz, hms⟩, ⟨hP, ⟨nx, hnx, hn20, hsz3, hring⟩, hlk, hcr, hsh⟩, hg, hp⟩ := id hI
  cases hb : jho P a with
  | false => exact ⟨_, _, _, x_classes_bad hw hP hb, in_M hp (c_classes_bad hw hb), asm_q0 hI sfr_refl⟩
  | true =>
    obtain ⟨s, hs, h0, rfl⟩ := jho_t hb
    have hT := hv s (by omega)
    have hX : sfr (rdK h (P s) (rNb (P s))) h := fun z hz => rdK_out (by omega) _
    obtain ⟨hp1, hg1⟩ := InvP_X hI (sfr_hi hX)
    obtain ⟨my, hmy⟩ := hg1.2.2.2.2.1
    have hMn := rNb_M hT
    have hcm := c_classes (n := n) (h := rdK h (P s) (rNb (P s))) hw hs h0 hmy
    rw [← hMn] at hcm
    exact ⟨_, _, _, x_classes hw hP hs h0 (ok_R hT), in_M hp1 hcm, asm_q hI hX gk_wk hw (fun _ _ => rfl)⟩
theorem k_classOf {n : jN} {h : jH} (hI : Inv h) (a b : Int32) : ∃ (v : Int32) (h1 h2 : jH), jC n 4 jy_Main_classOf jc_Main_classOf 3 (some .int) [.ref 0, .int a, .int b] h (some (.int v)) h1 ∧ jC n 2 jy_Model_classOf jc_Model_classOf 3 (some .int) [.ref 135, .int a, .int b] h1 (some (.int v)) h2 ∧ Inv h2 := by
  obtain ⟨P, ls, lg, ch, cr, sh, hI⟩ := hI
  obtain ⟨⟨hw, hv, hlg, hls, ⟨hcl, hrs⟩, hsz, hms⟩, ⟨hP, ⟨nx, hnx, hn20, hsz3, hring⟩, hlk, hcr, hsh⟩, hg, hp⟩ := id hI
  cases hb : jokMem P a b with
  | false => exact ⟨_, _, _, x_classOf_bad hw hP hb, in_M hp (c_classOf_bad hw hb), asm_q0 hI sfr_refl⟩
  | true =>
    simp only [jokMem, Bool.and_eq_true] at hb
    obtain ⟨b1, b2⟩ := hb
    obtain ⟨s, hs, h0, rfl⟩ := jho_t b1
    rw [nI_clamp (by omega)] at b2
    obtain ⟨i, hi, rfl⟩ := jmb_t (hw s).1 b2
    have hT := hv s (by omega)
    have hX : sfr (rdK h (P s) (rNb (P s))) h := fun z hz => rdK_out (by omega) _
    obtain ⟨hp1, hg1⟩ := InvP_X hI (sfr_hi hX)
    obtain ⟨my, hmy⟩ := hg1.2.2.2.2.1
    have hMn := rNb_M hT
    have hcm := c_classOf (n := n) (h := rdK h (P s) (rNb (P s))) hw hs h0 hmy hi
    rw [← rHm_C hT hi] at hcm
    exact ⟨_, _, _, x_classOf hw hP hs h0 hi (ok_R hT), in_M hp1 hcm, asm_q hI hX gk_wk hw (fun _ _ => rfl)⟩
theorem k_part {n : jN} {h : jH} (hI : Inv h) (a b : Int32) : ∃ (v : Int32) (h1 h2 : jH), jC n 4 jy_Main_part jc_Main_part 3 (some .int) [.ref 0, .int a, .int b] h (some (.int v)) h1 ∧ jC n 2 jy_Model_part jc_Model_part 4 (some .int) [.ref 135, .int a, .int b] h1 (some (.int v)) h2 ∧ Inv h2 := by
  obtain ⟨P, ls, lg, ch, cr, sh, hI⟩ := hI
  obtain ⟨⟨hw, hv, hlg, hls, ⟨hcl, hrs⟩, hsz, hms⟩, ⟨hP, ⟨nx, hnx, hn20, hsz3, hring⟩, hlk, hcr, hsh⟩, hg, hp⟩ := id hI
  cases hb : jokMem P a b with
  | false => exact ⟨_, _, _, x_part_bad hw hP hb, in_M hp (c_part_bad hw hb), asm_q0 hI sfr_refl⟩
  | true =>
    simp only [jokMem, Bool.and_eq_true] at hb
    obtain ⟨b1, b2⟩ := hb
    obtain ⟨s, hs, h0, rfl⟩ := jho_t b1
    rw [nI_clamp (by omega)] at b2
    obtain ⟨i, hi, rfl⟩ := jmb_t (hw s).1 b2
    have hT := hv s (by omega)
    have hX : sfr (rdK h (P s) (rNb (P s))) h := fun z hz => rdK_out (by omega) _
    obtain ⟨hp1, hg1⟩ := InvP_X hI (sfr_hi hX)
    obtain ⟨my, hmy⟩ := hg1.2.2.2.2.1
    have hMn := rNb_M hT
    have hc := rHm_C hT hi
    have hk : rHm (P s) i < rNb (P s) := by rw [hc, hMn]; exact Cl_lt hi
    have hd := rPe_dv hT hk
    by_cases hp0 : rPe (P s) (rHm (P s) i) = 0
    · have hcm := c_part0 (n := n) (h := rdK h (P s) (rNb (P s))) hw hs h0 hmy hi (by rw [← hc, ← hd]; exact hp0)
      exact ⟨_, _, _, x_part0 hw hP hs h0 hi (ok_R hT) hp0, in_M hp1 hcm, asm_q hI hX gk_wk hw (fun _ _ => rfl)⟩
    · obtain ⟨l1, l2, l3, -⟩ := rLs_C hT hk
      obtain ⟨d1, d2, d3⟩ := rDs_W hT hk hi rfl
      have hcm := c_part (n := n) (h := rdK h (P s) (rNb (P s))) (t := rDs (P s) (rHm (P s) i) i) hw hs h0 hmy hi l1 (by rw [l2, hc]) (fun j hj => by rw [← hc]; exact l3 j hj) (Nat.le_of_lt d1) ((wk_W hT _ _ _).mpr d2) (fun m hm => f_of (wk_W hT _ _ _) (d3 m hm)) (by rw [← hc, ← hd]; exact hp0)
      have hv2 : rDs (P s) (rHm (P s) i) i % dvO (rou (Cl (P s)) (wk (P s)) (Cl (P s) i)) (P s).1 (P s).1 = rPa (P s) i := by
        rw [rPa, if_neg hp0, hd, hc]
      rw [hv2] at hcm
      exact ⟨_, _, _, x_part1 hw hP hs h0 hi (ok_R hT) hp0, in_M hp1 hcm, asm_q hI hX gk_wk hw (fun _ _ => rfl)⟩
theorem k_ofClass {n : jN} {h : jH} (hI : Inv h) (a b c : Int32) : ∃ (v : Int32) (h1 h2 : jH), jC n 5 jy_Main_ofClass jc_Main_ofClass 4 (some .int) [.ref 0, .int a, .int b, .int c] h (some (.int v)) h1 ∧ jC n 3 jy_Model_ofClass jc_Model_ofClass 4 (some .int) [.ref 135, .int a, .int b, .int c] h1 (some (.int v)) h2 ∧ Inv h2 := by
  obtain ⟨P, ls, lg, ch, cr, sh, hI⟩ := hI
  obtain ⟨⟨hw, hv, hlg, hls, ⟨hcl, hrs⟩, hsz, hms⟩, ⟨hP, ⟨nx, hnx, hn20, hsz3, hring⟩, hlk, hcr, hsh⟩, hg, hp⟩ := id hI
  cases hb0 : jin c 0 7 with
  | false =>
    cases hb : jho P a with
    | false => exact ⟨_, _, _, x_ofClass_bad hw hP hb0, in_M hp (c_ofClass_bad hw hb), asm_q0 hI sfr_refl⟩
    | true =>
      obtain ⟨s, hs, h0, rfl⟩ := jho_t hb
      obtain ⟨my, hmy⟩ := hg.2.2.2.2.1
      exact ⟨_, _, _, x_ofClass_bad hw hP hb0, in_M hp (c_ofClass_bad1 hw hs h0 hmy (by rw [hb0, Bool.and_false])), asm_q hI sfr_refl gk_wk hw (fun _ _ => rfl)⟩
  | true =>
    obtain ⟨w, hw1, hw2, hw3, rfl⟩ := jin_k (by omega) hb0
    have hw8 : w < 8 := by omega
    cases hb : jho P a with
    | false => exact ⟨_, _, _, x_ofClass_bad1 hw hP hw8 hb, in_M hp (c_ofClass_bad hw hb), asm_q0 hI sfr_refl⟩
    | true =>
      obtain ⟨s, hs, h0, rfl⟩ := jho_t hb
      have hT := hv s (by omega)
      have hX : sfr (rdK h (P s) (rNb (P s))) h := fun z hz => rdK_out (by omega) _
      obtain ⟨hp1, hg1⟩ := InvP_X hI (sfr_hi hX)
      obtain ⟨my, hmy⟩ := hg1.2.2.2.2.1
      have hMn := rNb_M hT
      cases hj : jmb (rNb (P s)) b with
      | false => exact ⟨_, _, _, x_ofClass_bad2 hw hP hs h0 (ok_R hT) hw8 hj, in_M hp1 (c_ofClass_bad1 hw hs h0 hmy (by rw [← hMn, hj, Bool.false_and])), asm_q hI hX gk_wk hw (fun _ _ => rfl)⟩
      | true =>
        have h12 : rNb (P s) ≤ 12 := by rw [hMn]; exact Nat.le_trans (clF_le _ _) hT.1
        obtain ⟨k, hk, rfl⟩ := jmb_t h12 hj
        have hkM : k < Mn (P s) := by omega
        obtain ⟨l1, l2, l3, -⟩ := rLs_C hT hk
        rcases (show w = 0 ∨ w = 1 ∨ w = 2 ∨ w = 3 ∨ w = 4 ∨ w = 5 ∨ w = 6 ∨ w = 7 by omega) with e | e | e | e | e | e | e | e <;> subst e
        · have hcm := c_ofClass0 (n := n) (h := rdK h (P s) (rNb (P s))) hw hs h0 hmy hkM (rLs_C hT hk).1 l2 l3
          have hxm := x_ofClass0 (n := n) hw hP hs h0 (ok_R hT) hk
          exact ⟨_, _, _, hxm, in_M hp1 hcm, asm_q hI hX gk_wk hw (fun _ _ => rfl)⟩
        · have hcm := c_ofClass1 (n := n) (h := rdK h (P s) (rNb (P s))) hw hs h0 hmy hkM 
          have hxm := x_ofClass1 (n := n) hw hP hs h0 (ok_R hT) hk
          rw [rMb_memb hT hk] at hxm
          exact ⟨_, _, _, hxm, in_M hp1 hcm, asm_q hI hX gk_wk hw (fun _ _ => rfl)⟩
        · have hcm := c_ofClass2 (n := n) (h := rdK h (P s) (rNb (P s))) hw hs h0 hmy hkM 
          have hxm := x_ofClass2 (n := n) hw hP hs h0 (ok_R hT) hk
          rw [rPe_dv hT hk] at hxm
          exact ⟨_, _, _, hxm, in_M hp1 hcm, asm_q hI hX gk_wk hw (fun _ _ => rfl)⟩
        · have hcm := c_ofClass3 (n := n) (h := rdK h (P s) (rNb (P s))) hw hs h0 hmy hkM 
          have hxm := x_ofClass3 (n := n) hw hP hs h0 (ok_R hT) hk
          rw [grO_fi hT] at hxm
          exact ⟨_, _, _, hxm, in_M hp1 hcm, asm_q hI hX gk_wk hw (fun _ _ => rfl)⟩
        · obtain ⟨t0, t1, t2, t3, t4, t5⟩ := lev_ex hT
          have hcm := c_ofClass4 (n := n) (h := rdK h (P s) (rNb (P s))) hw hs h0 hmy hkM t1 t2 t3 t4
          have hxm := x_ofClass4 (n := n) hw hP hs h0 (ok_R hT) hk
          have hval : lvR (P s) (rHm (P s)) (rNb (P s)) k = (lvT (P s) (Cl (P s)) t0).1 k := by
            rw [lev_cls hT, hMn]
            exact t5 k hkM
          rw [hval] at hxm
          exact ⟨_, _, _, hxm, in_M hp1 hcm, asm_q hI hX (gk_trans (gk_V (gk_my gk_wk)) gk_wk) hw (fun _ _ => rfl)⟩
        · have hcm := c_ofClass5 (n := n) (h := rdK h (P s) (rNb (P s))) hw hs h0 hmy hkM 
          have hxm := x_ofClass5 (n := n) hw hP hs h0 (ok_R hT) hk
          rw [rMb_memb hT hk] at hxm
          exact ⟨_, _, _, hxm, in_M hp1 hcm, asm_q hI hX gk_wk hw (fun _ _ => rfl)⟩
        · have hcm := c_ofClass6 (n := n) (h := rdK h (P s) (rNb (P s))) hw hs h0 hmy hkM (rLs_C hT hk).1 l2 l3
          have hxm := x_ofClass6 (n := n) hw hP hs h0 (ok_R hT) hk
          rw [bwF_blw hT hk] at hxm
          exact ⟨_, _, _, hxm, in_M hp1 hcm, asm_q hI hX gk_wk hw (fun _ _ => rfl)⟩
        · have hcm := c_ofClass7 (n := n) (h := rdK h (P s) (rNb (P s))) hw hs h0 hmy hkM (rLs_C hT hk).1 l2 l3
          have hxm := x_ofClass7 (n := n) hw hP hs h0 (ok_R hT) hk
          rw [bwF_blw hT hk] at hxm
          exact ⟨_, _, _, hxm, in_M hp1 hcm, asm_q hI hX gk_wk hw (fun _ _ => rfl)⟩
theorem k_rest {n : jN} {h : jH} (hI : Inv h) (a b c : Int32) : ∃ (v : Int32) (h1 h2 : jH), jC n 5 jy_Main_rest jc_Main_rest 5 (some .int) [.ref 0, .int a, .int b, .int c] h (some (.int v)) h1 ∧ jC n 3 jy_Model_rest jc_Model_rest 6 (some .int) [.ref 135, .int a, .int b, .int c] h1 (some (.int v)) h2 ∧ Inv h2 := by
  obtain ⟨P, ls, lg, ch, cr, sh, hI⟩ := hI
  obtain ⟨⟨hw, hv, hlg, hls, ⟨hcl, hrs⟩, hsz, hms⟩, ⟨hP, ⟨nx, hnx, hn20, hsz3, hring⟩, hlk, hcr, hsh⟩, hg, hp⟩ := id hI
  cases hb : jho P a with
  | false => exact ⟨_, _, _, x_rest_bad hw hP hb, in_M hp (c_rest_bad hw hb), asm_q0 hI sfr_refl⟩
  | true =>
    obtain ⟨s, hs, h0, rfl⟩ := jho_t hb
    have hT := hv s (by omega)
    have hX : sfr (rdK h (P s) (rNb (P s))) h := fun z hz => rdK_out (by omega) _
    obtain ⟨hp1, hg1⟩ := InvP_X hI (sfr_hi hX)
    obtain ⟨my, hmy⟩ := hg1.2.2.2.2.1
    have hMn := rNb_M hT
    cases hj : jmb (rNb (P s)) b with
    | false => exact ⟨_, _, _, x_rest_bad1 hw hP hs h0 (ok_R hT) hj, in_M hp1 (c_rest_bad1 hw hs h0 hmy (by rw [← hMn]; exact hj)), asm_q hI hX gk_wk hw (fun _ _ => rfl)⟩
    | true =>
      have h12 : rNb (P s) ≤ 12 := by rw [hMn]; exact Nat.le_trans (clF_le _ _) hT.1
      obtain ⟨k, hk, rfl⟩ := jmb_t h12 hj
      have hkM : k < Mn (P s) := by omega
      have hd := rPe_dv hT hk
      obtain ⟨l1, l2, l3, -⟩ := rLs_C hT hk
      by_cases hp0 : rPe (P s) k = 0
      · exact ⟨_, _, _, x_rest0 hw hP hs h0 (ok_R hT) hk hp0, in_M hp1 (c_rest0 hw hs h0 hmy hkM (by rw [← hd]; exact hp0)), asm_q hI hX gk_wk hw (fun _ _ => rfl)⟩
      · skip
        have hcm := c_rest (n := n) (h := rdK h (P s) (rNb (P s))) (d := c) hw hs h0 hmy hkM (by rw [← hd]; exact hp0)
        rw [← hd, ← jrem_t c (by omega) (rPe_lt (hw s) k)] at hcm
        exact ⟨_, _, _, x_rest hw hP hs h0 (ok_R hT) hk hp0, in_M hp1 hcm, asm_q hI hX gk_wk hw (fun _ _ => rfl)⟩
theorem k_parts {n : jN} {h : jH} (hI : Inv h) (a b c : Int32) : ∃ (v : Int32) (h1 h2 : jH), jC n 5 jy_Main_parts jc_Main_parts 7 (some .int) [.ref 0, .int a, .int b, .int c] h (some (.int v)) h1 ∧ jC n 3 jy_Model_parts jc_Model_parts 7 (some .int) [.ref 135, .int a, .int b, .int c] h1 (some (.int v)) h2 ∧ Inv h2 := by
  obtain ⟨P, ls, lg, ch, cr, sh, hI⟩ := hI
  obtain ⟨⟨hw, hv, hlg, hls, ⟨hcl, hrs⟩, hsz, hms⟩, ⟨hP, ⟨nx, hnx, hn20, hsz3, hring⟩, hlk, hcr, hsh⟩, hg, hp⟩ := id hI
  cases hb : jho P a with
  | false => exact ⟨_, _, _, x_parts_bad hw hP hb, in_M hp (c_parts_bad hw hb), asm_q0 hI sfr_refl⟩
  | true =>
    obtain ⟨s, hs, h0, rfl⟩ := jho_t hb
    have hT := hv s (by omega)
    have hX : sfr (rdK h (P s) (rNb (P s))) h := fun z hz => rdK_out (by omega) _
    obtain ⟨hp1, hg1⟩ := InvP_X hI (sfr_hi hX)
    obtain ⟨my, hmy⟩ := hg1.2.2.2.2.1
    have hMn := rNb_M hT
    cases hj : jmb (rNb (P s)) b with
    | false => exact ⟨_, _, _, x_parts_bad1 hw hP hs h0 (ok_R hT) hj, in_M hp1 (c_parts_bad1 hw hs h0 hmy (by rw [← hMn]; exact hj)), asm_q hI hX gk_wk hw (fun _ _ => rfl)⟩
    | true =>
      have h12 : rNb (P s) ≤ 12 := by rw [hMn]; exact Nat.le_trans (clF_le _ _) hT.1
      obtain ⟨k, hk, rfl⟩ := jmb_t h12 hj
      have hkM : k < Mn (P s) := by omega
      have hd := rPe_dv hT hk
      obtain ⟨l1, l2, l3, -⟩ := rLs_C hT hk
      by_cases hp0 : rPe (P s) k = 0
      · exact ⟨_, _, _, x_parts0 hw hP hs h0 (ok_R hT) hk hp0, in_M hp1 (c_parts0 hw hs h0 hmy hkM (by rw [← hd]; exact hp0)), asm_q hI hX gk_wk hw (fun _ _ => rfl)⟩
      · skip
        cases hq : jin c ((0 : Nat) : Int) ((rPe (P s) k - 1 : Nat) : Int) with
        | false => exact ⟨_, _, _, x_parts_bad2 hw hP hs h0 (ok_R hT) hk hp0 hq, in_M hp1 (c_parts_bad2 hw hs h0 hmy hkM (by rw [← hd]; exact hp0) (by rw [← hd]; exact hq)), asm_q hI hX gk_wk hw (fun _ _ => rfl)⟩
        | true =>
          obtain ⟨q, hq1, hq2, hq3, rfl⟩ := jin_k (by omega) hq
          have hqp : q < rPe (P s) k := by omega
          have hcm := c_parts (n := n) (h := rdK h (P s) (rNb (P s))) (D := rDs (P s) k) hw hs h0 hmy hkM (by rw [← hd]; exact hp0) (show q < _ by rw [← hd]; exact hqp) l1 l2 l3 (fun i hi e => by
            obtain ⟨d1, d2, d3⟩ := rDs_W hT hk hi ((rHm_C hT hi).trans e)
            exact ⟨Nat.le_of_lt d1, (wk_W hT _ _ _).mpr d2, fun m hm => f_of (wk_W hT _ _ _) (d3 m hm)⟩)
          rw [← hd, ← prF_prs hT hk hp0] at hcm
          exact ⟨_, _, _, x_parts hw hP hs h0 (ok_R hT) hk hp0 hqp, in_M hp1 hcm, asm_q hI hX gk_wk hw (fun _ _ => rfl)⟩

theorem hold_hi {h X : jH} {s nx lg : Nat} {T M : jT} (hX : sfr X h) (hs : s < 6) (hn : nx < 20) : ∀ a, 135 ≤ a → holdH X s nx lg T M a = h a := fun a ha => (holdH_f (by omega) (by omega) (by omega) (by omega) (by omega) (by omega)).trans (hX a (by omega))
theorem fin_hold {h X : jH} {P Q : jP} {ls : Nat → Nat} {lg : Nat} {ch : Nat × (Nat → Nat) × (Nat → Nat)} {cr : Nat × Nat × (Nat → Nat)} {sh : (Nat → Int32) × (Nat → Nat) × (Nat → Nat → Int32)} {s nx : Nat} {M : jT} (hI : InvA h P ls lg ch cr sh) (hX : sfr X h) (hs : s < 6) (hnx : h 3 1 = nI nx) (hn : nx < 20) (hring : ∀ k, k < lg → h 4 ((nx + 20 - lg + k) % 20) = nI (ls k) ∧ rep h (6 + 2 * ((nx + 20 - lg + k) % 20)) (P (6 + k))) (hM : tv M) (hw : ∀ q, tw (Q q)) (hQ : ∀ q, q < 34 → Q q = P q) (hQM : Q 35 = M) : Inv (jM (jL (holdH X s nx lg (P s) M) (lgS ls lg s) (lgN lg)) (jcome Q lg s)) :=
  asm_hold hI hX hs hnx hn hring hM (jcome_w hw) (jcome_P hI.1.2.2.1 hs hQ hQM) (gk_refl (InvP_X hI (hold_hi hX hs hn)).2.2.2.2.2.1)
theorem fin_hold2 {h X : jH} {P : jP} {ls : Nat → Nat} {lg : Nat} {ch : Nat × (Nat → Nat) × (Nat → Nat)} {cr : Nat × Nat × (Nat → Nat)} {sh : (Nat → Int32) × (Nat → Nat) × (Nat → Nat → Int32)} {s nx : Nat} {M : jT} (hI : InvA h P ls lg ch cr sh) (hX : sfr X h) (hs : s < 6) (hnx : h 3 1 = nI nx) (hn : nx < 20) (hring : ∀ k, k < lg → h 4 ((nx + 20 - lg + k) % 20) = nI (ls k) ∧ rep h (6 + 2 * ((nx + 20 - lg + k) % 20)) (P (6 + k))) (hM : tv M) : Inv (jM (jL (holdH X s nx lg (P s) M) (lgS ls lg s) (lgN lg)) (jset (lgP P lg s) s M)) :=
  asm_hold hI hX hs hnx hn hring hM (tws (lgP_w hI.1.1) (tv_w hM)) (fun _ _ => rfl) (gk_refl (InvP_X hI (hold_hi hX hs hn)).2.2.2.2.2.1)
theorem pwL_o {t q : Nat} (h1 : q ≠ t) (h2 : q ≠ 36) (h3 : q ≠ 37) : ∀ f left (P : jP), pwL f t left P q = P q
  | 0, _, _ => rfl
  | f + 1, left, P => by
    unfold pwL
    split
    · rfl
    · rw [pwL_o h1 h2 h3 f]
      simp only [pwS]
      rw [jset_ne h2, jset_ne h3]
      split
      · rw [jset_ne h1, jset_ne h3]
      · rfl
theorem pwP_o {P : jP} {a k q : Nat} (h : q < 34) : pwP P a k q = P q := by
  rw [pwP, pwL_o (by omega) (by omega) (by omega), jset_ne (by omega), jset_ne (by omega)]
theorem pwP_35 {P : jP} {a k : Nat} (hv : tv (P a)) (ha : a < 35) (hk : k < 2 ^ 20) : pwP P a k 35 = tpw (P a) k := pwL_pw hv (by omega) (by omega) (by omega) (by omega) hk
theorem clS_o {t a q : Nat} {P : jP} (h1 : q ≠ t) (h2 : q ≠ 36) (h3 : q ≠ 37) : ∀ k, jit (clS t a) k (clO t a P) q = P q
  | 0 => by
    show clO t a P q = _
    simp only [clO]
    rw [jset_ne h2, jset_ne h1]
  | k + 1 => by
    show clS t a (jit (clS t a) k (clO t a P)) q = _
    have ih := clS_o (a := a) (P := P) h1 h2 h3 k
    generalize jit (clS t a) k (clO t a P) = Q at ih ⊢
    simp only [clS]
    rw [jset_ne h2, jset_ne h3, jset_ne h1, ih]
theorem jder_o {w a q : Nat} {P : jP} (h : q < 34) : jder w a P q = P q := by
  unfold jder
  split
  · exact jset_ne (by omega)
  · exact jset_ne (by omega)
  · rw [jset_ne (by omega), jset_ne (by omega)]
  · exact clS_o (by omega) (by omega) (by omega) _
  · exact gr7_o (by omega) (by omega) (by omega)
theorem jder_w {w a : Nat} {P : jP} (hw : ∀ q, tw (P q)) : ∀ q, tw (jder w a P q) := by
  unfold jder
  split
  · exact tws hw (hw a)
  · exact tws hw (tw_tr (hw a))
  · exact tws (tws hw (hw a)) (tw_co (tws hw (hw a) 35))
  · exact jit_w (fun Q hq => clS_w hq) (clO_w hw) _
  · exact gr7_w hw
theorem tv_pwq {T : jT} (hT : tv T) {k : Nat} (hk : k < 2 ^ 20) : tv (rq T k 20) := by
  rw [rq_20 hT hk]
  exact tv_pw hT k
theorem k_make {n : jN} {h : jH} (hI : Inv h) (a b c : Int32) : ∃ (v : Int32) (h1 h2 : jH), jC n 3 jy_Main_make jc_Main_make 4 (some .int) [.ref 0, .int a, .int b, .int c] h (some (.int v)) h1 ∧ jC n 3 jy_Model_make jc_Model_make 6 (some .int) [.ref 135, .int a, .int b, .int c] h1 (some (.int v)) h2 ∧ Inv h2 := by
  obtain ⟨P, ls, lg, ch, cr, sh, hI⟩ := hI
  obtain ⟨⟨hw, hv, hlg, hls, ⟨hcl, hrs⟩, hsz, hms⟩, ⟨hP, ⟨nx, hnx, hn20, hsz3, hring⟩, hlk, hcr, hsh⟩, hg, hp⟩ := id hI
  cases hb : jokMake a b c with
  | false => exact ⟨_, _, _, x_make_bad hb, in_M hp (c_make_bad hb), asm_q0 hI sfr_refl⟩
  | true =>
    simp only [jokMake, Bool.and_eq_true] at hb
    obtain ⟨⟨⟨b1, b2⟩, b3⟩, b4⟩ := hb
    obtain ⟨s, hs, rfl⟩ := jsl_t b1
    obtain ⟨m, hm1, hm2, hm3, rfl⟩ := jin_k (by omega) b2
    obtain ⟨w, hw1, hw2, hw3, rfl⟩ := jin_k (by omega) b3
    have h41 : ¬ (w = 4 ∧ m = 1) := by
      rintro ⟨rfl, rfl⟩
      exact absurd b4 (by decide)
    have hM := tv_mk (w := w) (show m ≤ 12 by omega) h41
    have hX : sfr (sT h 113 (tmk m w)) h := fun z hz => sT_f (by omega) (by omega)
    obtain ⟨hp1, hg1⟩ := InvP_X hI (hold_hi (lg := lg) (T := P s) (M := tmk m w) hX hs hn20)
    exact ⟨_, _, _, x_make hw hP hnx hn20 hsz3 hlg hs (by omega) (by omega) (by omega) h41, in_L hp1 hg1 (c_make hlg hw hs (by omega) (by omega) (by omega) h41), fin_hold hI hX hs hnx hn20 hring hM (tws hw (tv_w hM)) (fun q hq => jset_ne (by omega)) jset_eq⟩
theorem k_at {n : jN} {h : jH} (hI : Inv h) (a b c : Int32) : ∃ (v : Int32) (h1 h2 : jH), jC n 4 jy_Main_at jc_Main_at 4 (some .int) [.ref 0, .int a, .int b, .int c] h (some (.int v)) h1 ∧ jC n 2 jy_Model_at jc_Model_at 4 (some .int) [.ref 135, .int a, .int b, .int c] h1 (some (.int v)) h2 ∧ Inv h2 := by
  obtain ⟨P, ls, lg, ch, cr, sh, hI⟩ := hI
  obtain ⟨⟨hw, hv, hlg, hls, ⟨hcl, hrs⟩, hsz, hms⟩, ⟨hP, ⟨nx, hnx, hn20, hsz3, hring⟩, hlk, hcr, hsh⟩, hg, hp⟩ := id hI
  cases hb : jokAt P a b c with
  | false => exact ⟨_, _, _, x_at_bad hw hP hb, in_M hp (c_at_bad hw hb), asm_q0 hI sfr_refl⟩
  | true =>
    simp only [jokAt, Bool.and_eq_true] at hb
    obtain ⟨⟨b1, b2⟩, b3⟩ := hb
    obtain ⟨s, hs, h0, rfl⟩ := jho_t b1
    have hn := (hw s).1
    rw [nI_clamp (by omega)] at b2 b3
    obtain ⟨i, hi, rfl⟩ := jmb_t hn b2
    obtain ⟨j, hj, rfl⟩ := jmb_t hn b3
    exact ⟨_, _, _, x_at hw hP hs h0 hi hj, in_M hp (c_at hw hs h0 hi hj), asm_q0 hI sfr_refl⟩
theorem k_put {n : jN} {h : jH} (hI : Inv h) (a b c e : Int32) : ∃ (v : Int32) (h1 h2 : jH), jC n 4 jy_Main_put jc_Main_put 6 (some .int) [.ref 0, .int a, .int b, .int c, .int e] h (some (.int v)) h1 ∧ jC n 2 jy_Model_put jc_Model_put 6 (some .int) [.ref 135, .int a, .int b, .int c, .int e] h1 (some (.int v)) h2 ∧ Inv h2 := by
  obtain ⟨P, ls, lg, ch, cr, sh, hI⟩ := hI
  obtain ⟨⟨hw, hv, hlg, hls, ⟨hcl, hrs⟩, hsz, hms⟩, ⟨hP, ⟨nx, hnx, hn20, hsz3, hring⟩, hlk, hcr, hsh⟩, hg, hp⟩ := id hI
  cases hb : jokPut P a b c e with
  | false => exact ⟨_, _, _, x_put_bad hw hP hb, in_M hp (c_put_bad hw hb), asm_q0 hI sfr_refl⟩
  | true =>
    simp only [jokPut, jokAt, Bool.and_eq_true] at hb
    obtain ⟨⟨⟨b1, b2⟩, b3⟩, b4⟩ := hb
    obtain ⟨s, hs, h0, rfl⟩ := jho_t b1
    have hn := (hw s).1
    rw [nI_clamp (by omega)] at b2 b3
    obtain ⟨i, hi, rfl⟩ := jmb_t hn b2
    obtain ⟨j, hj, rfl⟩ := jmb_t hn b3
    obtain ⟨v, hv1, hv2, hv3, rfl⟩ := jin_k (by omega) b4
    have hM := tv_put (v := v) (hv s (by omega)) hi hj
    have hX : sfr (sT h 113 (tput (P s) i j v)) h := fun z hz => sT_f (by omega) (by omega)
    obtain ⟨hp1, hg1⟩ := InvP_X hI (hold_hi (lg := lg) (T := P s) (M := tput (P s) i j v) hX hs hn20)
    exact ⟨_, _, _, x_put hw hP hnx hn20 hsz3 hlg hs h0 hi hj (by omega), in_L hp1 hg1 (c_put hlg hw hs h0 hi hj (by omega)), fin_hold2 hI hX hs hnx hn20 hring hM⟩
theorem k_line {n : jN} {h : jH} (hI : Inv h) (a b c : Int32) : ∃ (v : Int32) (h1 h2 : jH), jC n 4 jy_Main_line jc_Main_line 4 (some .int) [.ref 0, .int a, .int b, .int c] h (some (.int v)) h1 ∧ jC n 2 jy_Model_line jc_Model_line 4 (some .int) [.ref 135, .int a, .int b, .int c] h1 (some (.int v)) h2 ∧ Inv h2 := by
  obtain ⟨P, ls, lg, ch, cr, sh, hI⟩ := hI
  obtain ⟨⟨hw, hv, hlg, hls, ⟨hcl, hrs⟩, hsz, hms⟩, ⟨hP, ⟨nx, hnx, hn20, hsz3, hring⟩, hlk, hcr, hsh⟩, hg, hp⟩ := id hI
  cases hb : jokLine P a b c with
  | false => exact ⟨_, _, _, x_line_bad hw hP hb, in_M hp (c_line_bad hw hb), asm_q0 hI sfr_refl⟩
  | true =>
    simp only [jokLine, Bool.and_eq_true] at hb
    obtain ⟨⟨b1, b2⟩, b3⟩ := hb
    obtain ⟨s, hs, h0, rfl⟩ := jho_t b1
    have hn := (hw s).1
    rw [nI_clamp (by omega)] at b3
    obtain ⟨i, hi, rfl⟩ := jmb_t hn b3
    obtain ⟨w, hw1, hw2, hw3, rfl⟩ := jin_k (by omega) b2
    exact ⟨_, _, _, x_line hw hP hs h0 (by omega) hi, in_M hp (c_line hw hs h0 (by omega) hi), asm_q0 hI sfr_refl⟩
theorem k_setRow {n : jN} {h : jH} (hI : Inv h) (a b c : Int32) : ∃ (v : Int32) (h1 h2 : jH), jC n 4 jy_Main_setRow jc_Main_setRow 5 (some .int) [.ref 0, .int a, .int b, .int c] h (some (.int v)) h1 ∧ jC n 2 jy_Model_setRow jc_Model_setRow 5 (some .int) [.ref 135, .int a, .int b, .int c] h1 (some (.int v)) h2 ∧ Inv h2 := by
  obtain ⟨P, ls, lg, ch, cr, sh, hI⟩ := hI
  obtain ⟨⟨hw, hv, hlg, hls, ⟨hcl, hrs⟩, hsz, hms⟩, ⟨hP, ⟨nx, hnx, hn20, hsz3, hring⟩, hlk, hcr, hsh⟩, hg, hp⟩ := id hI
  cases hb : jokSet P a b c with
  | false => exact ⟨_, _, _, x_setRow_bad hw hP hb, in_M hp (c_setRow_bad hw hb), asm_q0 hI sfr_refl⟩
  | true =>
    simp only [jokSet, Bool.and_eq_true] at hb
    obtain ⟨⟨b1, b2⟩, b3⟩ := hb
    obtain ⟨s, hs, h0, rfl⟩ := jho_t b1
    have hn := (hw s).1
    rw [nI_clamp (by omega)] at b2 b3
    obtain ⟨i, hi, rfl⟩ := jmb_t hn b2
    obtain ⟨v, hv1, rfl⟩ := jse_t hn b3
    have hM := tv_rset (hv s (by omega)) hi hv1
    have hX : sfr (sT h 113 (trset (P s) i v)) h := fun z hz => sT_f (by omega) (by omega)
    obtain ⟨hp1, hg1⟩ := InvP_X hI (hold_hi (lg := lg) (T := P s) (M := trset (P s) i v) hX hs hn20)
    exact ⟨_, _, _, x_setRow hw hP hnx hn20 hsz3 hlg hs h0 hi hv1, in_L hp1 hg1 (c_setRow hlg hw hs h0 hi hv1), fin_hold2 hI hX hs hnx hn20 hring hM⟩
theorem k_times {n : jN} {h : jH} (hI : Inv h) (a b c : Int32) : ∃ (v : Int32) (h1 h2 : jH), jC n 3 jy_Main_times jc_Main_times 4 (some .int) [.ref 0, .int a, .int b, .int c] h (some (.int v)) h1 ∧ jC n 3 jy_Model_times jc_Model_times 4 (some .int) [.ref 135, .int a, .int b, .int c] h1 (some (.int v)) h2 ∧ Inv h2 := by
  obtain ⟨P, ls, lg, ch, cr, sh, hI⟩ := hI
  obtain ⟨⟨hw, hv, hlg, hls, ⟨hcl, hrs⟩, hsz, hms⟩, ⟨hP, ⟨nx, hnx, hn20, hsz3, hring⟩, hlk, hcr, hsh⟩, hg, hp⟩ := id hI
  cases hb : jok2 P a b c with
  | false =>
    have hcm := c_times_bad1 (n := n) (h := h) hw hb
    rw [show jb2 P a b c = -1 from if_neg (by rw [hb]; decide)] at hcm
    exact ⟨_, _, _, x_times_bad hw hP hb, in_M hp hcm, asm_q0 hI sfr_refl⟩
  | true =>
    simp only [jok2, Bool.and_eq_true] at hb
    obtain ⟨⟨b1, b2⟩, b3⟩ := hb
    obtain ⟨s, hs, h0, rfl⟩ := jho_t b1
    obtain ⟨u, hu, hu0, rfl⟩ := jho_t b2
    obtain ⟨t, ht, rfl⟩ := jsl_t b3
    by_cases he : (P s).1 = (P u).1
    · have hM := tv_mul (hv s (by omega)) (hv u (by omega)) he
      have hX : sfr (sT (sT h 113 (P s)) 113 (tmul (P s) (P u))) h := fun z hz => (sT_f (by omega) (by omega)).trans (sT_f (by omega) (by omega))
      obtain ⟨hp1, hg1⟩ := InvP_X hI (hold_hi (lg := lg) (T := P t) (M := tmul (P s) (P u)) hX ht hn20)
      exact ⟨_, _, _, x_times hw hP hnx hn20 hsz3 hlg hs h0 hu hu0 ht he, in_L hp1 hg1 (c_times hlg hw hs h0 hu hu0 ht he), fin_hold hI hX ht hnx hn20 hring hM (tws hw (tv_w hM)) (fun q hq => jset_ne (by omega)) jset_eq⟩
    · exact ⟨_, _, _, x_times_un hw hP hs h0 hu hu0 ht he, in_M hp (c_times_un hw hs h0 hu hu0 ht he), asm_q0 hI sfr_refl⟩
theorem k_plus {n : jN} {h : jH} (hI : Inv h) (a b c : Int32) : ∃ (v : Int32) (h1 h2 : jH), jC n 3 jy_Main_plus jc_Main_plus 4 (some .int) [.ref 0, .int a, .int b, .int c] h (some (.int v)) h1 ∧ jC n 3 jy_Model_plus jc_Model_plus 4 (some .int) [.ref 135, .int a, .int b, .int c] h1 (some (.int v)) h2 ∧ Inv h2 := by
  obtain ⟨P, ls, lg, ch, cr, sh, hI⟩ := hI
  obtain ⟨⟨hw, hv, hlg, hls, ⟨hcl, hrs⟩, hsz, hms⟩, ⟨hP, ⟨nx, hnx, hn20, hsz3, hring⟩, hlk, hcr, hsh⟩, hg, hp⟩ := id hI
  cases hb : jok2 P a b c with
  | false =>
    have hcm := c_plus_bad1 (n := n) (h := h) hw hb
    rw [show jb2 P a b c = -1 from if_neg (by rw [hb]; decide)] at hcm
    exact ⟨_, _, _, x_plus_bad hw hP hb, in_M hp hcm, asm_q0 hI sfr_refl⟩
  | true =>
    simp only [jok2, Bool.and_eq_true] at hb
    obtain ⟨⟨b1, b2⟩, b3⟩ := hb
    obtain ⟨s, hs, h0, rfl⟩ := jho_t b1
    obtain ⟨u, hu, hu0, rfl⟩ := jho_t b2
    obtain ⟨t, ht, rfl⟩ := jsl_t b3
    by_cases he : (P s).1 = (P u).1
    · have hM := tv_add (hv s (by omega)) (hv u (by omega)) he
      have hX : sfr (sT (sT h 113 (P s)) 113 (tadd (P s) (P u))) h := fun z hz => (sT_f (by omega) (by omega)).trans (sT_f (by omega) (by omega))
      obtain ⟨hp1, hg1⟩ := InvP_X hI (hold_hi (lg := lg) (T := P t) (M := tadd (P s) (P u)) hX ht hn20)
      exact ⟨_, _, _, x_plus hw hP hnx hn20 hsz3 hlg hs h0 hu hu0 ht he, in_L hp1 hg1 (c_plus hlg hw hs h0 hu hu0 ht he), fin_hold hI hX ht hnx hn20 hring hM (tws hw (tv_w hM)) (fun q hq => jset_ne (by omega)) jset_eq⟩
    · exact ⟨_, _, _, x_plus_un hw hP hs h0 hu hu0 ht he, in_M hp (c_plus_un hw hs h0 hu hu0 ht he), asm_q0 hI sfr_refl⟩
theorem k_power {n : jN} {h : jH} (hI : Inv h) (a b c : Int32) : ∃ (v : Int32) (h1 h2 : jH), jC n 3 jy_Main_power jc_Main_power 4 (some .int) [.ref 0, .int a, .int b, .int c] h (some (.int v)) h1 ∧ jC n 3 jy_Model_power jc_Model_power 4 (some .int) [.ref 135, .int a, .int b, .int c] h1 (some (.int v)) h2 ∧ Inv h2 := by
  obtain ⟨P, ls, lg, ch, cr, sh, hI⟩ := hI
  obtain ⟨⟨hw, hv, hlg, hls, ⟨hcl, hrs⟩, hsz, hms⟩, ⟨hP, ⟨nx, hnx, hn20, hsz3, hring⟩, hlk, hcr, hsh⟩, hg, hp⟩ := id hI
  cases hb : jokPow P a b c with
  | false => exact ⟨_, _, _, x_power_bad hw hP hb, in_M hp (c_power_bad hw hb), asm_q0 hI sfr_refl⟩
  | true =>
    simp only [jokPow, Bool.and_eq_true] at hb
    obtain ⟨⟨b1, b2⟩, b3⟩ := hb
    obtain ⟨s, hs, h0, rfl⟩ := jho_t b1
    obtain ⟨k, hk1, hk2, hk3, rfl⟩ := jin_k (by omega) b2
    obtain ⟨t, ht, rfl⟩ := jsl_t b3
    have hk : k < 2 ^ 20 := by omega
    have hs34 := hv s (by omega)
    have hM := tv_pwq hs34 hk
    have h35 : pwP P s k 35 = rq (P s) k 20 := by rw [pwP_35 hs34 (by omega) hk, rq_20 hs34 hk]
    have hX : sfr (rsH h 113 k (P s) 20) h := fun z hz => rsH_f (by omega) (by omega) (by omega) 20
    obtain ⟨hp1, hg1⟩ := InvP_X hI (hold_hi (lg := lg) (T := P t) (M := rq (P s) k 20) hX ht hn20)
    have hcm := c_power (n := n) (h := holdH (rsH h 113 k (P s) 20) t nx lg (P t) (rq (P s) k 20)) (ls := ls) (k := k) (t := t) hlg hw hs h0 (by omega) ht
    rw [show (pwP P s k 35).1 = (P s).1 by rw [h35, rq_n]] at hcm
    exact ⟨_, _, _, x_power hw hP hnx hn20 hsz3 hlg hs h0 (by omega) ht, in_L hp1 hg1 hcm, fin_hold hI hX ht hnx hn20 hring hM (pwP_w hw) (fun q hq => pwP_o hq) h35⟩
theorem k_derive {n : jN} {h : jH} (hI : Inv h) (a b c : Int32) : ∃ (v : Int32) (h1 h2 : jH), jC n 4 jy_Main_derive jc_Main_derive 5 (some .int) [.ref 0, .int a, .int b, .int c] h (some (.int v)) h1 ∧ jC n 4 jy_Model_derive jc_Model_derive 4 (some .int) [.ref 135, .int a, .int b, .int c] h1 (some (.int v)) h2 ∧ Inv h2 := by
  obtain ⟨P, ls, lg, ch, cr, sh, hI⟩ := hI
  obtain ⟨⟨hw, hv, hlg, hls, ⟨hcl, hrs⟩, hsz, hms⟩, ⟨hP, ⟨nx, hnx, hn20, hsz3, hring⟩, hlk, hcr, hsh⟩, hg, hp⟩ := id hI
  cases hb : jokDer P a b c with
  | false => exact ⟨_, _, _, x_derive_bad hw hP hb, in_M hp (c_derive_bad hw hb), asm_q0 hI sfr_refl⟩
  | true =>
    simp only [jokDer, Bool.and_eq_true] at hb
    obtain ⟨⟨b1, b2⟩, b3⟩ := hb
    obtain ⟨s, hs, h0, rfl⟩ := jho_t b1
    obtain ⟨w, hw1, hw2, hw3, rfl⟩ := jin_k (by omega) b2
    obtain ⟨t, ht, rfl⟩ := jsl_t b3
    have hs34 := hv s (by omega)
    rcases (show w = 0 ∨ w = 1 ∨ w = 2 ∨ w = 3 ∨ w = 4 by omega) with e | e | e | e | e <;> subst e
    · have hM : tv (P s) := hs34
      have h35 : jder 0 s P 35 = P s := jset_eq
      have hX : sfr (sT h 113 (P s)) h := fun z hz => sT_f (by omega) (by omega)
      obtain ⟨hp1, hg1⟩ := InvP_X hI (hold_hi (lg := lg) (T := P t) (M := P s) hX ht hn20)
      have hcm := c_derive0 (n := n) (h := holdH (sT h 113 (P s)) t nx lg (P t) (P s)) (ls := ls) (t := t) hlg hw hs h0 ht
      have hq : (jder 0 s P 35).1 = (P s).1 := congrArg Prod.fst h35
      rw [hq] at hcm
      exact ⟨_, _, _, x_derive0 hw hP hnx hn20 hsz3 hlg hs h0 ht, in_L hp1 hg1 hcm, fin_hold hI hX ht hnx hn20 hring hM (jder_w hw) (fun q hq => jder_o hq) h35⟩
    · have hM : tv (ttr (P s)) := (tv_tr hs34)
      have h35 : jder 1 s P 35 = ttr (P s) := jset_eq
      have hX : sfr (sT h 113 (ttr (P s))) h := fun z hz => sT_f (by omega) (by omega)
      obtain ⟨hp1, hg1⟩ := InvP_X hI (hold_hi (lg := lg) (T := P t) (M := ttr (P s)) hX ht hn20)
      have hcm := c_derive1 (n := n) (h := holdH (sT h 113 (ttr (P s))) t nx lg (P t) (ttr (P s))) (ls := ls) (t := t) hlg hw hs h0 ht
      have hq : (jder 1 s P 35).1 = (ttr (P s)).1 := congrArg Prod.fst h35
      rw [hq] at hcm
      exact ⟨_, _, _, x_derive1 hw hP hnx hn20 hsz3 hlg hs h0 ht, in_L hp1 hg1 hcm, fin_hold hI hX ht hnx hn20 hring hM (jder_w hw) (fun q hq => jder_o hq) h35⟩
    · have hM : tv (tco (P s)) := (tv_co hs34)
      have h35 : jder 2 s P 35 = tco (P s) := (by show jset (jset P 35 (P s)) 35 (tco (jset P 35 (P s) 35)) 35 = _; rw [jset_eq, jset_eq])
      have hX : sfr (sT (sT h 113 (P s)) 113 (tco (P s))) h := fun z hz => (sT_f (by omega) (by omega)).trans (sT_f (by omega) (by omega))
      obtain ⟨hp1, hg1⟩ := InvP_X hI (hold_hi (lg := lg) (T := P t) (M := tco (P s)) hX ht hn20)
      have hcm := c_derive2 (n := n) (h := holdH (sT (sT h 113 (P s)) 113 (tco (P s))) t nx lg (P t) (tco (P s))) (ls := ls) (t := t) hlg hw hs h0 ht
      have hq : (jder 2 s P 35).1 = (tco (P s)).1 := congrArg Prod.fst h35
      rw [hq] at hcm
      exact ⟨_, _, _, x_derive2 hw hP hnx hn20 hsz3 hlg hs h0 ht, in_L hp1 hg1 hcm, fin_hold hI hX ht hnx hn20 hring hM (jder_w hw) (fun q hq => jder_o hq) h35⟩
    · have hM : tv (tclo (P s)) := (tv_clo hs34)
      have h35 : jder 3 s P 35 = tclo (P s) := (clS_clo (by omega) (by omega) (by omega) (by omega) (by omega) hs34)
      have hX : sfr (sT (sT h 113 (P s)) 113 (tclo (P s))) h := fun z hz => (sT_f (by omega) (by omega)).trans (sT_f (by omega) (by omega))
      obtain ⟨hp1, hg1⟩ := InvP_X hI (hold_hi (lg := lg) (T := P t) (M := tclo (P s)) hX ht hn20)
      have hcm := c_derive3 (n := n) (h := holdH (sT (sT h 113 (P s)) 113 (tclo (P s))) t nx lg (P t) (tclo (P s))) (ls := ls) (t := t) hlg hw hs h0 ht
      have hq : (jder 3 s P 35).1 = (tclo (P s)).1 := congrArg Prod.fst h35
      rw [hq] at hcm
      exact ⟨_, _, _, x_derive3 hw hP hnx hn20 hsz3 hlg hs h0 ht, in_L hp1 hg1 hcm, fin_hold hI hX ht hnx hn20 hring hM (jder_w hw) (fun q hq => jder_o hq) h35⟩
    · have hM : tv (tgr (P s)) := (tv_gr hs34)
      have h35 : jder 4 s P 35 = tgr (P s) := (gr7_t (by omega) (by omega) (by omega) (by omega))
      have hX : sfr (fgH h (115 + 2 * s) 113 (P s)) h := fun z hz => fgH_f (by omega) (by omega) (by omega)
      obtain ⟨hp1, hg1⟩ := InvP_X hI (hold_hi (lg := lg) (T := P t) (M := tgr (P s)) hX ht hn20)
      have hcm := c_derive4 (n := n) (h := holdH (fgH h (115 + 2 * s) 113 (P s)) t nx lg (P t) (tgr (P s))) (ls := ls) (t := t) hlg hw hs h0 ht
      have hq : (jder 4 s P 35).1 = (tgr (P s)).1 := congrArg Prod.fst h35
      rw [hq] at hcm
      exact ⟨_, _, _, x_derive4 hw hP hnx hn20 hsz3 hlg hs h0 ht, in_L hp1 hg1 hcm, fin_hold hI hX ht hnx hn20 hring hM (jder_w hw) (fun q hq => jder_o hq) h35⟩
theorem k_clear {n : jN} {h : jH} (hI : Inv h) (a : Int32) : ∃ (v : Int32) (h1 h2 : jH), jC n 3 jy_Main_clear jc_Main_clear 3 (some .int) [.ref 0, .int a] h (some (.int v)) h1 ∧ jC n 2 jy_Model_clear jc_Model_clear 3 (some .int) [.ref 135, .int a] h1 (some (.int v)) h2 ∧ Inv h2 := by
  obtain ⟨P, ls, lg, ch, cr, sh, hI⟩ := hI
  obtain ⟨⟨hw, hv, hlg, hls, ⟨hcl, hrs⟩, hsz, hms⟩, ⟨hP, ⟨nx, hnx, hn20, hsz3, hring⟩, hlk, hcr, hsh⟩, hg, hp⟩ := id hI
  cases hb : jsl a with
  | false => exact ⟨_, _, _, x_clear_bad hb, in_M hp (c_clear_bad hb), asm_q0 hI sfr_refl⟩
  | true =>
    obtain ⟨s, hs, rfl⟩ := jsl_t hb
    by_cases h0 : (P s).1 = 0
    · exact ⟨_, _, _, x_clear0 hw hP hs h0, in_M hp (c_clear0 hs h0), asm_q0 hI sfr_refl⟩
    · have hX : sfr (jup2 h 113 0 (nI 0)) h := fun z hz => jup2_f (by omega)
      obtain ⟨hp1, hg1⟩ := InvP_X hI (hold_hi (lg := lg) (T := P s) (M := tzero 0) hX hs hn20)
      exact ⟨_, _, _, x_clear hw hP hnx hn20 hsz3 hlg hs (by omega), in_L hp1 hg1 (c_clear hlg hw hs (by omega)), fin_hold2 hI hX hs hnx hn20 hring (tv_zero (by omega))⟩
theorem k_same {n : jN} {h : jH} (hI : Inv h) (a b : Int32) : ∃ (v : Int32) (h1 h2 : jH), jC n 3 jy_Main_same jc_Main_same 3 (some .int) [.ref 0, .int a, .int b] h (some (.int v)) h1 ∧ jC n 2 jy_Model_same jc_Model_same 3 (some .int) [.ref 135, .int a, .int b] h1 (some (.int v)) h2 ∧ Inv h2 := by
  obtain ⟨P, ls, lg, ch, cr, sh, hI⟩ := hI
  obtain ⟨⟨hw, hv, hlg, hls, ⟨hcl, hrs⟩, hsz, hms⟩, ⟨hP, ⟨nx, hnx, hn20, hsz3, hring⟩, hlk, hcr, hsh⟩, hg, hp⟩ := id hI
  cases hb : (jho P a && jho P b) with
  | false => exact ⟨_, _, _, x_same_bad hw hP hb, in_M hp (c_same_bad hw hb), asm_q0 hI sfr_refl⟩
  | true =>
    simp only [Bool.and_eq_true] at hb
    obtain ⟨s, hs, h0, rfl⟩ := jho_t hb.1
    obtain ⟨u, hu, hu0, rfl⟩ := jho_t hb.2
    have hcm := c_same (n := n) (h := h) hw hs h0 hu hu0
    rw [← tlik_sam (hv s (by omega)) (hv u (by omega))] at hcm
    exact ⟨_, _, _, x_same hw hP hs h0 hu hu0, in_M hp hcm, asm_q0 hI sfr_refl⟩

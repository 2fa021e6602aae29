theorem gk_ly {X : jH} {T : jT} {ix pr : Nat} (hm : ∃ my, X 135 13 = nI my) : gk (lyH X T ix pr) X := by
  refine ⟨fun a ha => ?_, fun a ha => ?_, ?_, ?_, ?_, ?_, ?_⟩
  · funext z
    simp [lyH, jup2, jPw, show a ≠ 135 by omega, show a ≠ 142 by omega]
  · funext z
    simp [lyH, jup2, jPw, show a ≠ 135 by omega, show a ≠ 142 by omega]
  · simp [lyH, jup2, jPw]
  · simp [lyH, jup2, jPw]
  · simp [lyH, jup2, jPw]
  · simp [lyH, jup2, jPw]
  · obtain ⟨my, h⟩ := hm
    exact ⟨my, by simp [lyH, jup2, jPw, h]⟩
theorem gk_wk {X : jH} {T : jT} : gk (wkH X T) X := by
  refine ⟨fun a ha => ?_, fun a ha => ?_, ?_, ?_, ?_, ?_, Mn T, ?_⟩
  · funext z
    simp [wkH, jW, show a ≠ 135 by omega, show a ≠ 143 by omega, show a ≠ 144 by omega, show a ≠ 145 by omega]
  · funext z
    simp [wkH, jW, show a ≠ 135 by omega, show a ≠ 143 by omega, show a ≠ 144 by omega, show a ≠ 145 by omega]
  · simp [wkH, jW]
  · simp [wkH, jW]
  · simp [wkH, jW]
  · simp [wkH, jW]
  · simp [wkH, jW]
theorem gk_V {X : jH} {v : Nat → Int32} (hm : ∃ my, X 135 13 = nI my) : gk (jV X v) X := by
  refine ⟨fun a ha => ?_, fun a ha => ?_, ?_, ?_, ?_, ?_, ?_⟩
  · simp [jV, show a ≠ 146 by omega]
  · simp [jV, show a ≠ 146 by omega]
  all_goals simpa [jV] using hm
theorem gk_U {X : jH} {v : Nat → Int32} (hm : ∃ my, X 135 13 = nI my) : gk (jU X v) X := by
  refine ⟨fun a ha => ?_, fun a ha => ?_, ?_, ?_, ?_, ?_, ?_⟩
  · simp [jU, show a ≠ 147 by omega]
  · simp [jU, show a ≠ 147 by omega]
  all_goals simpa [jU] using hm
theorem gk_Ba {X : jH} {v : Nat → Int32} {m : Nat} (hm : ∃ my, X 135 13 = nI my) : gk (jBa X v m) X := by
  refine ⟨fun a ha => ?_, fun a ha => ?_, ?_, ?_, ?_, ?_, ?_⟩
  · simp [jBa, show a ≠ 148 by omega, show a ≠ 135 by omega]
  · simp [jBa, show a ≠ 148 by omega, show a ≠ 135 by omega]
  all_goals simpa [jBa] using hm
theorem lyP_q {P : jP} {T : jT} {k q : Nat} (h : q < 34) : lyP P T k q = P q := lyP_o (by omega) (by omega)
/-- the sheets in the reference's terms -/
theorem sh_ref {h : jH} {ls : Nat → Nat} {lg : Nat} {ch : Nat × (Nat → Nat) × (Nat → Nat)} {cr : Nat × Nat × (Nat → Nat)} {sh : (Nat → Int32) × (Nat → Nat) × (Nat → Nat → Int32)} (hg : InvG h ls lg ch cr sh) : (∀ k, k < 4 → h 149 k = sh.1 k) ∧ (∀ k, k < 4 → h 150 k = nI (sh.2.1 k)) ∧ (∀ a k, a < 4 → k < 40 → h 151 (40 * a + k) = sh.2.2 a k) := by
  obtain ⟨-, -, -, -, -, g8, g9, g10⟩ := hg
  refine ⟨fun k _ => by rw [g8], fun k _ => by rw [g9], fun a k _ hk => ?_⟩
  rw [g10]
  show sh.2.2 ((40 * a + k) / 40) ((40 * a + k) % 40) = _
  rw [show (40 * a + k) / 40 = a by omega, show (40 * a + k) % 40 = k by omega]
theorem so_neg {so : Int32} (h : so = -1 ∨ so = 0 ∨ so = 1) : (so = -1 ↔ ¬ 0 ≤ so) ∧ (so = -1 ↔ so < 0) := by
  rcases h with e | e | e <;> subst e <;> decide
theorem ni_subI {a b : Nat} (ha : a < 2 ^ 30) (hb : b < 2 ^ 30) : (nI a - nI b).toInt = (a : Int) - (b : Int) := by
  rw [Int32.toInt_sub, nI_toInt (by omega), nI_toInt (by omega)]
  simp only [Int.bmod]
  omega
theorem jhas_iff {z : Nat} {f c : Int32} (hz : z ≤ 40) : jhas z f c = true ↔ 0 ≤ f.toInt ∧ 0 ≤ c.toInt ∧ c.toInt ≤ z ∧ f.toInt ≤ z - c.toInt := by
  unfold jhas
  simp only [Bool.and_eq_true, Bool.not_eq_true', decide_eq_false_iff_not, Int32.lt_iff_toInt_lt]
  rw [nI_toInt (show z < 2 ^ 31 by omega), show (0 : Int32).toInt = 0 from rfl]
  constructor
  · rintro ⟨⟨⟨h1, h2⟩, h3⟩, h4⟩
    obtain ⟨j, hj, e⟩ := nI_of (x := c) (fun q => by rw [Int32.lt_iff_toInt_lt] at q; exact h2 q)
    subst e
    rw [nI_toInt hj] at h2 h3 ⊢
    rw [ni_subI (by omega) (by omega)] at h4
    omega
  · rintro ⟨h1, h2, h3, h4⟩
    obtain ⟨j, hj, e⟩ := nI_of (x := c) (fun q => by rw [Int32.lt_iff_toInt_lt, show (0 : Int32).toInt = 0 from rfl] at q; omega)
    subst e
    rw [nI_toInt hj] at h2 h3 h4 ⊢
    rw [ni_subI (by omega) (by omega)]
    omega
theorem jhas_t {z : Nat} {f : Int32} {m : Nat} (hz : z ≤ 40) (hm : m < 2 ^ 30) (h : jhas z f (nI m) = true) : ∃ k, f = nI k ∧ k + m ≤ z := by
  obtain ⟨h1, h2, h3, h4⟩ := (jhas_iff hz).mp h
  obtain ⟨k, hk, rfl⟩ := nI_of (x := f) (fun q => by rw [Int32.lt_iff_toInt_lt, show (0 : Int32).toInt = 0 from rfl] at q; omega)
  rw [nI_toInt hk] at h1 h4
  rw [nI_toInt (by omega)] at h2 h3 h4
  exact ⟨k, rfl, by omega⟩
theorem jhas_m {z m : Nat} {f : Int32} (hz : z ≤ 40) (hm : m ≤ 12) : (decide (0 ≤ f) && decide (f ≤ nI z - nI m)) = jhas z f (nI m) := beq_of_iff (by
  rw [jhas_iff hz, Bool.and_eq_true, decide_eq_true_eq, decide_eq_true_eq, Int32.le_iff_toInt_le, Int32.le_iff_toInt_le, ni_subI (by omega) (by omega), nI_toInt (by omega), show (0 : Int32).toInt = 0 from rfl]
  omega)
/-- a call that changes sheets alone -/
theorem asm_sh {h h1 : jH} {P : jP} {ls : Nat → Nat} {lg : Nat} {ch : Nat × (Nat → Nat) × (Nat → Nat)} {cr : Nat × Nat × (Nat → Nat)} {sh : (Nat → Int32) × (Nat → Nat) × (Nat → Nat → Int32)} {So : Nat → Int32} {Sz : Nat → Nat} {Nu : Nat → Nat → Int32} (hI : InvA h P ls lg ch cr sh) (hf : ∀ a, a < 127 ∨ 135 ≤ a → h1 a = h a) (hs : shl h1 So Sz Nu) (h40 : ∀ k, Sz k ≤ 40) (hms : ∀ s, s < 4 → So s = -1 → Sz s = 0) : Inv (jM (jS h1 So Sz Nu) P) := by
  obtain ⟨⟨c1, c2, c3, c4, c5, c6, c7⟩, ⟨i1, i2, i3, i4, i5⟩, hg, hp⟩ := hI
  have hg1 : InvG h1 ls lg ch cr sh := gkh_G (gkh_of (fun a ha => hf a (by omega)) hg.2.2.2.2.1) hg
  refine asm (h1 := h1) (sh := (So, Sz, Nu)) ⟨c1, c2, c3, c4, c5, h40, hms⟩ ⟨slo_cg i1 (fun a _ _ => hf a (by omega)) (fun _ _ => rfl), lgc_cg i2 (fun a _ _ => hf a (by omega)) (fun _ _ => rfl), lnk_cg i3 (fun a _ _ => hf a (by omega)) (fun _ _ => rfl), crc_cg i4 (hf 75 (by omega)) (hf 76 (by omega)) (hf 77 (by omega)), hs⟩ (fun a ha => ?_) ?_
  · show (if a = 149 then _ else if a = 150 then _ else if a = 151 then _ else h1 a) = _
    rw [if_neg (by omega), if_neg (by omega), if_neg (by omega)]
  · obtain ⟨g1, g2, g3, g4, g5, -⟩ := hg1
    exact ⟨g1, g2, g3, g4, g5, rfl, rfl, rfl⟩
theorem InvP_S {h : jH} {P : jP} {ls : Nat → Nat} {lg : Nat} {ch : Nat × (Nat → Nat) × (Nat → Nat)} {cr : Nat × Nat × (Nat → Nat)} {sh : (Nat → Int32) × (Nat → Nat) × (Nat → Nat → Int32)} (hg : InvG h ls lg ch cr sh) : jS h sh.1 sh.2.1 sh.2.2 = h := jS_id hg.2.2.2.2.2.1 hg.2.2.2.2.2.2.1 hg.2.2.2.2.2.2.2
theorem asm_S {h : jH} {P : jP} {ls : Nat → Nat} {lg : Nat} {ch : Nat × (Nat → Nat) × (Nat → Nat)} {cr : Nat × Nat × (Nat → Nat)} {sh : (Nat → Int32) × (Nat → Nat) × (Nat → Nat → Int32)} (hI : InvA h P ls lg ch cr sh) : Inv (jM (jS h sh.1 sh.2.1 sh.2.2) P) := by
  rw [jS_id hI.2.2.1.2.2.2.2.2.1 hI.2.2.1.2.2.2.2.2.2.1 hI.2.2.1.2.2.2.2.2.2.2]
  exact asm_q0 hI sfr_refl
/-- a primitive table is one class -/
theorem one_cls {T : jT} (hT : tv T) (h0 : 0 < T.1) {e : Nat} (h : tful (tpo T (e + 1 - 1)) T.1 T.1 = true) : Mn T = 1 := by
  have hf := (fu_iff hT e).mp h
  have hall : ∀ i j, i < T.1 → j < T.1 → Cl T i = Cl T j := fun i j hi hj => (Cl_E hT hi hj).mpr ⟨⟨e + 1, hf i j hi hj⟩, ⟨e + 1, hf j i hj hi⟩⟩
  have h1 : Cl T 0 < Mn T := Cl_lt h0
  have h2 := rNb_M hT
  rcases Nat.lt_or_ge 1 (Mn T) with q | q
  · obtain ⟨a1, a2, -⟩ := rLs_C hT (k := 0) (by omega)
    obtain ⟨b1, b2, -⟩ := rLs_C hT (k := 1) (by omega)
    have := hall _ _ a1 b1
    omega
  · omega
theorem lgi_1 (g : Nat → Nat) : lgi g 1 = g 0 := by
  show (if 0 < g 0 ∧ (lgi g 0 = 0 ∨ g 0 < lgi g 0) then g 0 else lgi g 0) = g 0
  rcases Nat.eq_zero_or_pos (g 0) with e | e
  · rw [if_neg (by omega), e]
    rfl
  · rw [if_pos ⟨e, Or.inl rfl⟩]
theorem k_load {n : jN} {h : jH} (hI : Inv h) (a b c e : Int32) : ∃ (v : Int32) (h1 h2 : jH), jC n 3 jy_Main_load jc_Main_load 8 (some .int) [.ref 0, .int a, .int b, .int c, .int e] h (some (.int v)) h1 ∧ jC n 3 jy_Model_load jc_Model_load 7 (some .int) [.ref 135, .int a, .int b, .int c, .int e] h1 (some (.int v)) h2 ∧ Inv h2 := by
  obtain ⟨P, ls, lg, ch, cr, sh, hI⟩ := hI
  obtain ⟨⟨hw, hv, hlg, hls, ⟨hcl, hrs⟩, hsz, hms⟩, ⟨hP, ⟨nx, hnx, hn20, hsz3, hring⟩, hlk, hcr, hsh⟩, hg, hp⟩ := id hI
  obtain ⟨hso, hsz2, hnu⟩ := sh_ref hg
  cases hb : jokLoad a b e with
  | false => exact ⟨_, _, _, x_load_bad hb, in_M hp (c_load_bad hb), asm_q0 hI sfr_refl⟩
  | true =>
    simp only [jokLoad, Bool.and_eq_true] at hb
    obtain ⟨⟨b1, b2⟩, b3⟩ := hb
    obtain ⟨s, hs, rfl⟩ := jsl_t b1
    obtain ⟨u, hu, rfl⟩ := js4_t b2
    obtain ⟨m, hm1, hm2, hm3, rfl⟩ := jin_k (by omega) b3
    have hm0 : 0 < m := by omega
    have hm : m ≤ 12 := by omega
    have h40 := hsz u
    have htri := so_neg (hsh u hu).2.2.2.2
    by_cases hm1 : sh.1 u = -1
    · exact ⟨_, _, _, x_load_nothing hsh hs hu hm0 hm hm1, in_M hp (c_load_nothing hso hsz2 hnu hsz hs hu hm0 hm (htri.1.mp hm1)), asm_q0 hI sfr_refl⟩
    · have hlt : 0 ≤ sh.1 u := by
        by_cases q : 0 ≤ sh.1 u
        · exact q
        · exact absurd (htri.1.mpr q) hm1
      cases hj : jhas (sh.2.1 u) c (nI m) with
      | false => exact ⟨_, _, _, x_load_out hsh hs hu hm0 hm hm1 hj, in_M hp (c_load_out hso hsz2 hnu hsz hs hu hm0 hm hlt (by rw [jhas_m h40 hm]; exact hj)), asm_q0 hI sfr_refl⟩
      | true =>
        obtain ⟨f, rfl, hfm⟩ := jhas_t h40 (by omega) hj
        have hrow : ∀ i, jse m (lrow (sh.1 u) (sh.2.2 u (f + i))) = true → lrow (sh.1 u) (sh.2.2 u (f + i)) = nI (lrow (sh.1 u) (sh.2.2 u (f + i))).toNatClampNeg ∧ (lrow (sh.1 u) (sh.2.2 u (f + i))).toNatClampNeg < 2 ^ m := fun i hi => by
          obtain ⟨k, hk, e⟩ := jse_t hm hi
          have h2 := p2_le12 hm
          rw [e, nI_clamp (by omega)]
          exact ⟨rfl, hk⟩
        by_cases hx : ∃ k, k < m ∧ jse m (lrow (sh.1 u) (sh.2.2 u (f + k))) = false
        · obtain ⟨k, hk, hkf⟩ := hx
          obtain ⟨k0, hk0, hk1, hk2⟩ := least_of (p := fun k => jse m (lrow (sh.1 u) (sh.2.2 u (f + k))) = false) k k (Nat.le_refl _) hkf
          have hgood : ∀ i, i < k0 → jse m (lrow (sh.1 u) (sh.2.2 u (f + i))) = true := fun i hi => by
            cases q : jse m (lrow (sh.1 u) (sh.2.2 u (f + i))) with
            | true => rfl
            | false => exact absurd q (hk2 i hi)
          have hX : sfr (ldH h m (fun i => (lrow (sh.1 u) (sh.2.2 u (f + i))).toNatClampNeg) k0) h := fun z hz => ldH_f (by omega) (by omega) k0
          obtain ⟨hp1, hg1⟩ := InvP_X hI (sfr_hi hX)
          obtain ⟨hso1, hsz1, hnu1⟩ := sh_ref hg1
          have hcm := c_load_row (n := n) (ls := ls) (lg := lg) (P := P) (s := s) (r := fun i => (lrow (sh.1 u) (sh.2.2 u (f + i))).toNatClampNeg) hso1 hsz1 hnu1 hsz hs hu hm0 hm hlt hfm (show k0 < m by omega) (fun i hi => (hrow i (hgood i hi)).1) (fun i hi => (hrow i (hgood i hi)).2) hk1
          refine ⟨_, _, _, x_load_row hsh hs hu hm0 hm hm1 hfm (fun i hi => (hrow i (hgood i hi)).1) (fun i hi => (hrow i (hgood i hi)).2) (show k0 < m by omega) hk1, in_L hp1 hg1 hcm, ?_⟩
          rw [jL_id hg1.1 hg1.2.1]
          refine asm_q hI hX (gk_refl hg1.2.2.2.2.1) (tws hw ⟨hm, fun i => ?_, fun i hi => ?_⟩) (fun q hq => jset_ne (by omega))
          · show (if i < k0 then _ else 0) < 4096
            split
            · exact Nat.lt_of_lt_of_le (hrow i (hgood i (by assumption))).2 (p2_le12 hm)
            · omega
          · have hi : m ≤ i := hi
            show (if i < k0 then _ else 0) = 0
            rw [if_neg (by omega)]
        · have hgood : ∀ i, i < m → jse m (lrow (sh.1 u) (sh.2.2 u (f + i))) = true := fun i hi => by
            cases q : jse m (lrow (sh.1 u) (sh.2.2 u (f + i))) with
            | true => rfl
            | false => exact absurd ⟨i, hi, q⟩ hx
          have hM := tv_tro (r := fun i => (lrow (sh.1 u) (sh.2.2 u (f + i))).toNatClampNeg) hm (fun i hi => (hrow i (hgood i hi)).2)
          have hX : sfr (ldH h m (fun i => (lrow (sh.1 u) (sh.2.2 u (f + i))).toNatClampNeg) m) h := fun z hz => ldH_f (by omega) (by omega) m
          obtain ⟨hp1, hg1⟩ := InvP_X hI (hold_hi (lg := lg) (T := P s) (M := tro m (fun i => (lrow (sh.1 u) (sh.2.2 u (f + i))).toNatClampNeg)) hX hs hn20)
          obtain ⟨hso1, hsz1, hnu1⟩ := sh_ref hg1
          have hcm := c_load (n := n) (ls := ls) (lg := lg) (P := P) (s := s) (r := fun i => (lrow (sh.1 u) (sh.2.2 u (f + i))).toNatClampNeg) hso1 hsz1 hnu1 hsz hlg hw hs hu hm0 hm hlt hfm (fun i hi => (hrow i (hgood i hi)).1) (fun i hi => (hrow i (hgood i hi)).2)
          exact ⟨_, _, _, x_load hw hP hnx hn20 hsz3 hlg hsh hs hu hm0 hm hm1 hfm (fun i hi => (hrow i (hgood i hi)).1) (fun i hi => (hrow i (hgood i hi)).2), in_L hp1 hg1 hcm, fin_hold (M := tro m (fun i => (lrow (sh.1 u) (sh.2.2 u (f + i))).toNatClampNeg)) hI hX hs hnx hn20 hring hM (tws hw (tv_w hM)) (fun q hq => jset_ne (by omega)) jset_eq⟩
theorem k_spill {n : jN} {h : jH} (hI : Inv h) (a b c : Int32) : ∃ (v : Int32) (h1 h2 : jH), jC n 3 jy_Main_spill jc_Main_spill 7 (some .int) [.ref 0, .int a, .int b, .int c] h (some (.int v)) h1 ∧ jC n 2 jy_Model_spill jc_Model_spill 5 (some .int) [.ref 135, .int a, .int b, .int c] h1 (some (.int v)) h2 ∧ Inv h2 := by
  obtain ⟨P, ls, lg, ch, cr, sh, hI⟩ := hI
  obtain ⟨⟨hw, hv, hlg, hls, ⟨hcl, hrs⟩, hsz, hms⟩, ⟨hP, ⟨nx, hnx, hn20, hsz3, hring⟩, hlk, hcr, hsh⟩, hg, hp⟩ := id hI
  have hSS := InvP_S (P := P) hg
  cases hb0 : (jho P a && js4 b) with
  | false =>
    have hbs : jokSpill P sh.1 sh.2.1 a b c = false := by rw [jokSpill, hb0]; rfl
    have hcm := c_spill_bad (n := n) (h := h) (Nu := sh.2.2) hw hsz hbs
    rw [show jbSpill P sh.1 a b = -1 by rw [jbSpill, hb0]; rfl] at hcm
    exact ⟨_, _, _, x_spill_bad hw hP hb0, in_S hp hg hcm, asm_S hI⟩
  | true =>
    have hb00 := hb0
    simp only [Bool.and_eq_true] at hb0
    obtain ⟨s, hs, h0, rfl⟩ := jho_t hb0.1
    obtain ⟨u, hu, rfl⟩ := js4_t hb0.2
    have h40 := hsz u
    have hcu : (nI u).toNatClampNeg = u := nI_clamp (by omega)
    have htri := so_neg (hsh u hu).2.2.2.2
    by_cases hm1 : sh.1 u = -1
    · have hbs : jokSpill P sh.1 sh.2.1 (nI s) (nI u) c = false := by rw [jokSpill, hb00, hcu, decide_eq_false (htri.1.mp hm1)]; rfl
      have hcm := c_spill_bad (n := n) (h := h) (Nu := sh.2.2) hw hsz hbs
      rw [show jbSpill P sh.1 (nI s) (nI u) = -11 by rw [jbSpill, hb00, hcu, if_pos rfl, if_neg (htri.1.mp hm1)]] at hcm
      exact ⟨_, _, _, x_spill_nothing hw hP hsh hs h0 hu hm1, in_S hp hg hcm, asm_S hI⟩
    · have hlt : 0 ≤ sh.1 u := by
        by_cases q : 0 ≤ sh.1 u
        · exact q
        · exact absurd (htri.1.mpr q) hm1
      cases hj : jhas (sh.2.1 u) c (nI 0) with
      | false =>
        have hjn : jin c 0 (sh.2.1 u) = false := by
          refine f_of (p := jhas (sh.2.1 u) c (nI 0) = true) ?_ (by rw [hj]; decide)
          rw [jhas_iff h40, jin, decide_eq_true_eq, show (nI 0).toInt = 0 from rfl]
          omega
        have hbs : jokSpill P sh.1 sh.2.1 (nI s) (nI u) c = false := by rw [jokSpill, hb00, hcu, hjn, Bool.and_false]
        have hcm := c_spill_bad (n := n) (h := h) (Nu := sh.2.2) hw hsz hbs
        rw [show jbSpill P sh.1 (nI s) (nI u) = -12 by rw [jbSpill, hb00, hcu, if_pos rfl, if_pos hlt]] at hcm
        exact ⟨_, _, _, x_spill_out hw hP hsh hs h0 hu hm1 hj, in_S hp hg hcm, asm_S hI⟩
      | true =>
        obtain ⟨f, rfl, hf⟩ := jhas_t h40 (by omega) hj
        have hfr : ∀ a, a < 127 ∨ 135 ≤ a → spH h (P s) (sh.1 u) u f (min (P s).1 (sh.2.1 u - f)) a = h a := fun a ha => spH_f (by omega) _
        obtain ⟨hp1, hg1⟩ := InvP_X hI (X := spH h (P s) (sh.1 u) u f (min (P s).1 (sh.2.1 u - f))) (fun a ha => hfr a (by omega))
        have hcm := c_spill (n := n) (h := spH h (P s) (sh.1 u) u f (min (P s).1 (sh.2.1 u - f))) (So := sh.1) (Nu := sh.2.2) (m := min (P s).1 (sh.2.1 u - f)) hw hsz hs h0 hu hlt (show f ≤ sh.2.1 u by omega) (Nat.min_le_left _ _) (by omega) (by omega)
        refine ⟨_, _, _, x_spill hw hP hsh hs h0 hu hm1 (show f ≤ sh.2.1 u by omega), in_S hp1 hg1 hcm, asm_sh hI hfr (fun q hq => ?_) hsz hms⟩
        obtain ⟨q1, q2, q3, q4, q5⟩ := hsh q hq
        by_cases e : q = u
        · subst e
          refine ⟨by rw [spH_f (by omega)]; exact q1, by rw [spH_f (by omega)]; exact q2, fun i hi => ?_, q4, q5⟩
          rw [spH_v, if_pos rfl]
          split
          · rfl
          · exact q3 i hi
        · refine ⟨by rw [spH_f (by omega)]; exact q1, by rw [spH_f (by omega)]; exact q2, fun i hi => ?_, q4, q5⟩
          rw [spH_f (by omega), if_neg e]
          exact q3 i hi

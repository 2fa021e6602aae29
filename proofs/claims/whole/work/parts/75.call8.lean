theorem jlk_k {P : jP} {a b : Int32} (h : jlk P a b = true) : ∃ k, k < 7 ∧ a = nI k := by
  unfold jlk at h
  by_cases h0 : a = nI 0 ∨ a = nI 1 ∨ a = nI 5
  · rcases h0 with e | e | e
    · exact ⟨0, by omega, e⟩
    · exact ⟨1, by omega, e⟩
    · exact ⟨5, by omega, e⟩
  rw [if_neg h0] at h
  by_cases h1 : a = nI 2 ∨ a = nI 6
  · rcases h1 with e | e
    · exact ⟨2, by omega, e⟩
    · exact ⟨6, by omega, e⟩
  rw [if_neg h1] at h
  by_cases h2 : a = nI 3
  · exact ⟨3, by omega, h2⟩
  rw [if_neg h2, Bool.and_eq_true, decide_eq_true_eq] at h
  exact ⟨4, by omega, h.1⟩
theorem lnk_new {h h1 : jH} {c k w : Nat} {kd o : Nat → Nat} {Q Q' : Nat → jT} (hl : lnk h c kd o Q) (hc : c < 8) (hk : k < 7) (hf : ∀ a, a ≠ 75 → (a < 89 + 3 * c ∨ 92 + 3 * c ≤ a) → h1 a = h a) (h0 : h1 75 0 = nI (c + 1)) (hz : ∀ q, q ≠ 0 → h1 75 q = h 75 q) (e0 : h1 (89 + 3 * c) 0 = nI k) (e1 : k = 2 ∨ k = 3 ∨ k = 4 ∨ k = 6 → h1 (89 + 3 * c) 1 = nI w) (hw : w < 100) (h3 : k = 3 → w < 6) (hq : k = 2 ∨ k = 6 → rep h1 (90 + 3 * c) (Q' c) ∧ tw (Q' c)) (hQ : ∀ l, l ≠ c → Q' l = Q l) : lnk h1 (c + 1) (jfu kd c k) (jfu o c w) Q' := by
  obtain ⟨l0, l1, l2, l3⟩ := hl
  refine ⟨h0, by omega, (hz 1 (by omega)).trans l2, fun l hl => ?_⟩
  by_cases e : l = c
  · subst e
    simp only [jfu, if_true]
    exact ⟨e0, hk, e1, hw, h3, hq⟩
  · obtain ⟨k1, k2, k3, k4, k5, k6⟩ := l3 l (by omega)
    simp only [jfu, if_neg e]
    refine ⟨by rw [hf _ (by omega) (by omega)]; exact k1, k2, fun e => by rw [hf _ (by omega) (by omega)]; exact k3 e, k4, k5, fun e2 => ?_⟩
    obtain ⟨m1, m2⟩ := k6 e2
    rw [hQ l e]
    exact ⟨rep_cg m1 (hf _ (by omega) (by omega)) (hf _ (by omega) (by omega)), m2⟩
theorem fin_link {h h1 : jH} {P P' : jP} {ls : Nat → Nat} {lg : Nat} {ch : Nat × (Nat → Nat) × (Nat → Nat)} {cr : Nat × Nat × (Nat → Nat)} {sh : (Nat → Int32) × (Nat → Nat) × (Nat → Nat → Int32)} {k w : Nat} {m : Int32} (hI : InvA h P ls lg ch cr sh) (hc : ch.1 < 8) (hk : k < 7) (hf : ∀ a, a ≠ 75 → (a < 89 + 3 * ch.1 ∨ 92 + 3 * ch.1 ≤ a) → h1 a = h a) (h0 : h1 75 0 = nI (ch.1 + 1)) (hz : ∀ q, q ≠ 0 → h1 75 q = h 75 q) (e0 : h1 (89 + 3 * ch.1) 0 = nI k) (em : k = 2 ∨ k = 3 ∨ k = 4 ∨ k = 6 → m = nI w) (e1 : h1 (89 + 3 * ch.1) 1 = m) (hw : w < 100) (h3 : k = 3 → w < 6) (hq : k = 2 ∨ k = 6 → rep h1 (90 + 3 * ch.1) (P' (26 + ch.1))) (hP : ∀ q, q ≠ 26 + ch.1 → P' q = P q) (hP2 : tv (P' (26 + ch.1))) : Inv (jM (jup2 (jup2 (jup2 h1 139 ch.1 (nI k)) 140 ch.1 m) 135 4 (nI (ch.1 + 1))) P') := by
  obtain ⟨⟨c1, c2, c3, c4, c5, c6, c7⟩, ⟨i1, i2, i3, i4, i5⟩, hg, hp⟩ := hI
  have hlow : ∀ q, tw (P' q) := fun q => by
    by_cases e : q = 26 + ch.1
    · rw [e]; exact tv_w hP2
    · rw [hP q e]; exact c1 q
  refine asm (ch := (ch.1 + 1, jfu ch.2.1 ch.1 k, jfu ch.2.2 ch.1 w)) (h1 := h1) ⟨hlow, fun q hq => ?_, c3, c4, c5, c6, c7⟩ ⟨slo_cg i1 (fun a _ _ => hf a (by omega) (by omega)) (fun q hq => hP q (by omega)), lgc_cg i2 (fun a _ _ => hf a (by omega) (by omega)) (fun q hq => hP _ (by omega)), lnk_new i3 hc hk hf h0 hz e0 (fun e => by rw [e1]; exact em e) hw h3 (fun e => ⟨hq e, tv_w hP2⟩) (fun l hl => hP _ (by omega)), ?_, shl_cg i5 (fun a _ _ => hf a (by omega) (by omega))⟩ (fun a ha => ?_) ?_
  · by_cases e : q = 26 + ch.1
    · rw [e]; exact hP2
    · rw [hP q e]; exact c2 q hq
  · obtain ⟨q1, q2, q3, q4⟩ := i4
    exact ⟨(hz 2 (by omega)).trans q1, (hz 3 (by omega)).trans q2, fun j hj => by rw [hf 76 (by omega) (by omega)]; exact q3 j hj, fun j hj => by rw [hf 77 (by omega) (by omega)]; exact q4 j hj⟩
  · rw [jup2_f (by omega), jup2_f (by omega), jup2_f (by omega)]
  · have hg1 : InvG h1 ls lg ch cr sh := gkh_G (gkh_of (fun a ha => hf a (by omega) (by omega)) hg.2.2.2.2.1) hg
    obtain ⟨g1, g2, ⟨g3, g4⟩, ⟨g5, g6, g7⟩, ⟨my, g8⟩, g9, g10, g11⟩ := hg1
    have hG : ∀ a, a ≠ 139 → a ≠ 140 → a ≠ 135 → jup2 (jup2 (jup2 h1 139 ch.1 (nI k)) 140 ch.1 m) 135 4 (nI (ch.1 + 1)) a = h1 a := fun a a1 a2 a3 => by rw [jup2_f a3, jup2_f a2, jup2_f a1]
    have hG2 : ∀ q, q ≠ 4 → jup2 (jup2 (jup2 h1 139 ch.1 (nI k)) 140 ch.1 m) 135 4 (nI (ch.1 + 1)) 135 q = h1 135 q := fun q hq => by simp [jup2, hq]
    refine ⟨by rw [hG _ (by decide) (by decide) (by decide)]; exact g1, (hG2 2 (by decide)).trans g2, ⟨by simp [jup2], fun l hl => ?_⟩, ⟨(hG2 7 (by decide)).trans g5, (hG2 8 (by decide)).trans g6, fun j hj => by rw [hG _ (by decide) (by decide) (by decide)]; exact g7 j hj⟩, ⟨my, (hG2 13 (by decide)).trans g8⟩, by rw [hG _ (by decide) (by decide) (by decide)]; exact g9, by rw [hG _ (by decide) (by decide) (by decide)]; exact g10, by rw [hG _ (by decide) (by decide) (by decide)]; exact g11⟩
    by_cases e : l = ch.1
    · subst e
      simp only [jfu, if_true]
      exact ⟨by simp [jup2], fun e => by rw [← em e]; simp [jup2]⟩
    · have hl2 : l < ch.1 + 1 := hl
      obtain ⟨r1, r2⟩ := g4 l (by omega)
      simp only [jfu, if_neg e]
      exact ⟨by simpa [jup2, e] using r1, fun e3 => by simpa [jup2, e] using r2 e3⟩
theorem lat_e {nx l : Nat} (hn : nx < 20) (hl : l < 20) : (nx + 20 - (l + 1) + l) % 20 = lat nx ∧ lat nx < 20 ∧ ∀ k, k < l → (lat nx + 20 - l + k) % 20 = (nx + 20 - (l + 1) + k) % 20 := by
  unfold lat
  split
  · refine ⟨by omega, by omega, fun k hk => by omega⟩
  · refine ⟨by omega, by omega, fun k hk => by omega⟩
theorem k_link {n : jN} {h : jH} (hI : Inv h) (a b : Int32) : ∃ (v : Int32) (h1 h2 : jH), jC n 4 jy_Main_link jc_Main_link 3 (some .int) [.ref 0, .int a, .int b] h (some (.int v)) h1 ∧ jC n 3 jy_Model_link jc_Model_link 3 (some .int) [.ref 135, .int a, .int b] h1 (some (.int v)) h2 ∧ Inv h2 := by
  obtain ⟨P, ls, lg, ch, cr, sh, hI⟩ := hI
  obtain ⟨⟨hw, hv, hlg, hls, ⟨hcl, hrs⟩, hsz, hms⟩, ⟨hP, ⟨nx, hnx, hn20, hsz3, hring⟩, hlk, hcr, hsh⟩, hg, hp⟩ := id hI
  cases hb : jlk P a b with
  | false => exact ⟨_, _, _, x_link_bad hw hP hb, in_M hp (c_link_bad hw hb), asm_q0 hI sfr_refl⟩
  | true =>
    obtain ⟨j0, j1, j5, j2, j6, j3, j4⟩ := @jlk_0 P b
    obtain ⟨k, hk, rfl⟩ := jlk_k hb
    have hc8 := hlk.2.1
    rcases (show k = 0 ∨ k = 1 ∨ k = 2 ∨ k = 3 ∨ k = 4 ∨ k = 5 ∨ k = 6 by omega) with e | e | e | e | e | e | e <;> subst e
    · by_cases hc : ch.1 = 8
      · exact ⟨_, _, _, x_link_full0 hw hP hb hlk.1 hc8 hc, in_M hp (c_link_full hw hb hg.2.2.1.1 hc), asm_q0 hI sfr_refl⟩
      have hc7 : ch.1 < 8 := by omega
      have hf : ∀ a, a ≠ 75 → (a < 89 + 3 * ch.1 ∨ 92 + 3 * ch.1 ≤ a) → jup2 (jup2 (jup2 h (89 + 3 * ch.1) 0 (nI 0)) (89 + 3 * ch.1) 1 b) 75 0 (nI (ch.1 + 1)) a = h a := fun a h1 h2 => by rw [jup2_f h1, jup2_f (by omega), jup2_f (by omega)]
      obtain ⟨hp1, hg1⟩ := InvP_X hI (fun a ha => hf a (by omega) (by omega))
      have n75 : ∀ q, jup2 (jup2 h (89 + 3 * ch.1) 0 (nI 0)) (89 + 3 * ch.1) 1 b 75 q = h 75 q := fun q => by rw [jup2_f (by omega), jup2_f (by omega)]
      have nsT : ∀ a q, a ≠ 75 → jup2 (jup2 (jup2 h (89 + 3 * ch.1) 0 (nI 0)) (89 + 3 * ch.1) 1 b) 75 0 (nI (ch.1 + 1)) a q = jup2 (jup2 h (89 + 3 * ch.1) 0 (nI 0)) (89 + 3 * ch.1) 1 b a q := fun a q h3 => by rw [jup2_f h3]
      refine ⟨_, _, _, x_link0 hw hP hb hlk.1 hc7, in_M hp1 (c_link0 hw hb hg1.2.2.1.1 hc7), fin_link (w := 0) hI hc7 (by omega) hf (by simp [jup2]) (fun q hq => ?_) ((nsT _ _ (by omega)).trans (by simp [jup2])) (by omega) ((nsT _ _ (by omega)).trans (by simp [jup2])) (by omega) (by omega) (by omega) (fun q _ => rfl) (hv _ (by omega))⟩
      · simp only [jup2, if_true, if_neg hq]
        rw [if_neg (by omega), if_neg (by omega)]
    · by_cases hc : ch.1 = 8
      · exact ⟨_, _, _, x_link_full1 hw hP hb hlk.1 hc8 hc, in_M hp (c_link_full hw hb hg.2.2.1.1 hc), asm_q0 hI sfr_refl⟩
      have hc7 : ch.1 < 8 := by omega
      have hf : ∀ a, a ≠ 75 → (a < 89 + 3 * ch.1 ∨ 92 + 3 * ch.1 ≤ a) → jup2 (jup2 (jup2 h (89 + 3 * ch.1) 0 (nI 1)) (89 + 3 * ch.1) 1 b) 75 0 (nI (ch.1 + 1)) a = h a := fun a h1 h2 => by rw [jup2_f h1, jup2_f (by omega), jup2_f (by omega)]
      obtain ⟨hp1, hg1⟩ := InvP_X hI (fun a ha => hf a (by omega) (by omega))
      have n75 : ∀ q, jup2 (jup2 h (89 + 3 * ch.1) 0 (nI 1)) (89 + 3 * ch.1) 1 b 75 q = h 75 q := fun q => by rw [jup2_f (by omega), jup2_f (by omega)]
      have nsT : ∀ a q, a ≠ 75 → jup2 (jup2 (jup2 h (89 + 3 * ch.1) 0 (nI 1)) (89 + 3 * ch.1) 1 b) 75 0 (nI (ch.1 + 1)) a q = jup2 (jup2 h (89 + 3 * ch.1) 0 (nI 1)) (89 + 3 * ch.1) 1 b a q := fun a q h3 => by rw [jup2_f h3]
      refine ⟨_, _, _, x_link1 hw hP hb hlk.1 hc7, in_M hp1 (c_link1 hw hb hg1.2.2.1.1 hc7), fin_link (w := 0) hI hc7 (by omega) hf (by simp [jup2]) (fun q hq => ?_) ((nsT _ _ (by omega)).trans (by simp [jup2])) (by omega) ((nsT _ _ (by omega)).trans (by simp [jup2])) (by omega) (by omega) (by omega) (fun q _ => rfl) (hv _ (by omega))⟩
      · simp only [jup2, if_true, if_neg hq]
        rw [if_neg (by omega), if_neg (by omega)]
    · rw [j2] at hb
      obtain ⟨s, hs, h0, rfl⟩ := jho_t hb
      have hb2 : jlk P (nI 2) (nI s) = true := j2.trans hb
      by_cases hc : ch.1 = 8
      · exact ⟨_, _, _, x_link_full2 hw hP hb2 hlk.1 hc8 hc, in_M hp (c_link_full hw hb2 hg.2.2.1.1 hc), asm_q0 hI sfr_refl⟩
      · have hc7 : ch.1 < 8 := by omega
        have hf : ∀ a, a ≠ 75 → (a < 89 + 3 * ch.1 ∨ 92 + 3 * ch.1 ≤ a) → jup2 (sT (jup2 (jup2 h (89 + 3 * ch.1) 0 (nI 2)) (89 + 3 * ch.1) 1 (nI s)) (90 + 3 * ch.1) (P s)) 75 0 (nI (ch.1 + 1)) a = h a := fun a h1 h2 => by rw [jup2_f h1, sT_f (by omega) (by omega), jup2_f (by omega), jup2_f (by omega)]
        obtain ⟨hp1, hg1⟩ := InvP_X hI (fun a ha => hf a (by omega) (by omega))
        have n75 : ∀ q, jup2 (jup2 h (89 + 3 * ch.1) 0 (nI 2)) (89 + 3 * ch.1) 1 (nI s) 75 q = h 75 q := fun q => by rw [jup2_f (by omega), jup2_f (by omega)]
        have nsT : ∀ a q, a ≠ 90 + 3 * ch.1 → a ≠ 91 + 3 * ch.1 → a ≠ 75 → jup2 (sT (jup2 (jup2 h (89 + 3 * ch.1) 0 (nI 2)) (89 + 3 * ch.1) 1 (nI s)) (90 + 3 * ch.1) (P s)) 75 0 (nI (ch.1 + 1)) a q = jup2 (jup2 h (89 + 3 * ch.1) 0 (nI 2)) (89 + 3 * ch.1) 1 (nI s) a q := fun a q h1 h2 h3 => by rw [jup2_f h3, sT_f (by omega) (by omega)]
        refine ⟨_, _, _, x_link2 hw hP hs h0 hlk.1 hc7, in_M hp1 (c_link2 hw hb2 hg1.2.2.1.1 hc7 hs), fin_link (w := s) hI hc7 (by omega) hf (by simp [jup2]) (fun q hq => ?_) ((nsT _ _ (by omega) (by omega) (by omega)).trans (by simp [jup2])) (fun _ => rfl) ((nsT _ _ (by omega) (by omega) (by omega)).trans (by simp [jup2])) (by omega) (by omega) (fun _ => ?_) (fun q hq => jset_ne hq) (by rw [jset_eq]; exact hv s (by omega))⟩
        · simp only [jup2, if_true, if_neg hq]
          rw [sT_f (by omega) (by omega)]
          exact n75 q
        · rw [jset_eq]
          exact rep_cg rep_sT (jup2_f (by omega)) (jup2_f (by omega))
    · by_cases hc : ch.1 = 8
      · exact ⟨_, _, _, x_link_full3 hw hP hb hlk.1 hc8 hc, in_M hp (c_link_full hw hb hg.2.2.1.1 hc), asm_q0 hI sfr_refl⟩
      have hb3 := j3.symm.trans hb
      obtain ⟨w, hwl, rfl⟩ := jsl_t hb3
      have hc7 : ch.1 < 8 := by omega
      have hf : ∀ a, a ≠ 75 → (a < 89 + 3 * ch.1 ∨ 92 + 3 * ch.1 ≤ a) → jup2 (jup2 (jup2 h (89 + 3 * ch.1) 0 (nI 3)) (89 + 3 * ch.1) 1 (nI w)) 75 0 (nI (ch.1 + 1)) a = h a := fun a h1 h2 => by rw [jup2_f h1, jup2_f (by omega), jup2_f (by omega)]
      obtain ⟨hp1, hg1⟩ := InvP_X hI (fun a ha => hf a (by omega) (by omega))
      have n75 : ∀ q, jup2 (jup2 h (89 + 3 * ch.1) 0 (nI 3)) (89 + 3 * ch.1) 1 (nI w) 75 q = h 75 q := fun q => by rw [jup2_f (by omega), jup2_f (by omega)]
      have nsT : ∀ a q, a ≠ 75 → jup2 (jup2 (jup2 h (89 + 3 * ch.1) 0 (nI 3)) (89 + 3 * ch.1) 1 (nI w)) 75 0 (nI (ch.1 + 1)) a q = jup2 (jup2 h (89 + 3 * ch.1) 0 (nI 3)) (89 + 3 * ch.1) 1 (nI w) a q := fun a q h3 => by rw [jup2_f h3]
      refine ⟨_, _, _, x_link3 hw hP hb hlk.1 hc7, in_M hp1 (c_link3 hw hb hg1.2.2.1.1 hc7), fin_link (w := w) hI hc7 (by omega) hf (by simp [jup2]) (fun q hq => ?_) ((nsT _ _ (by omega)).trans (by simp [jup2])) (fun _ => rfl) ((nsT _ _ (by omega)).trans (by simp [jup2])) (by omega) (fun _ => hwl) (by omega) (fun q _ => rfl) (hv _ (by omega))⟩
      · simp only [jup2, if_true, if_neg hq]
        rw [if_neg (by omega), if_neg (by omega)]
    · by_cases hc : ch.1 = 8
      · exact ⟨_, _, _, x_link_full4 hw hP hb hlk.1 hc8 hc, in_M hp (c_link_full hw hb hg.2.2.1.1 hc), asm_q0 hI sfr_refl⟩
      have hb3 := j4.symm.trans hb
      obtain ⟨w, hw1, hw2, hw3, rfl⟩ := jin_k (by omega) hb3
      have hc7 : ch.1 < 8 := by omega
      have hf : ∀ a, a ≠ 75 → (a < 89 + 3 * ch.1 ∨ 92 + 3 * ch.1 ≤ a) → jup2 (jup2 (jup2 h (89 + 3 * ch.1) 0 (nI 4)) (89 + 3 * ch.1) 1 (nI w)) 75 0 (nI (ch.1 + 1)) a = h a := fun a h1 h2 => by rw [jup2_f h1, jup2_f (by omega), jup2_f (by omega)]
      obtain ⟨hp1, hg1⟩ := InvP_X hI (fun a ha => hf a (by omega) (by omega))
      have n75 : ∀ q, jup2 (jup2 h (89 + 3 * ch.1) 0 (nI 4)) (89 + 3 * ch.1) 1 (nI w) 75 q = h 75 q := fun q => by rw [jup2_f (by omega), jup2_f (by omega)]
      have nsT : ∀ a q, a ≠ 75 → jup2 (jup2 (jup2 h (89 + 3 * ch.1) 0 (nI 4)) (89 + 3 * ch.1) 1 (nI w)) 75 0 (nI (ch.1 + 1)) a q = jup2 (jup2 h (89 + 3 * ch.1) 0 (nI 4)) (89 + 3 * ch.1) 1 (nI w) a q := fun a q h3 => by rw [jup2_f h3]
      refine ⟨_, _, _, x_link4 hw hP hb hlk.1 hc7, in_M hp1 (c_link4 hw hb hg1.2.2.1.1 hc7), fin_link (w := w) hI hc7 (by omega) hf (by simp [jup2]) (fun q hq => ?_) ((nsT _ _ (by omega)).trans (by simp [jup2])) (fun _ => rfl) ((nsT _ _ (by omega)).trans (by simp [jup2])) (by omega) (by omega) (by omega) (fun q _ => rfl) (hv _ (by omega))⟩
      · simp only [jup2, if_true, if_neg hq]
        rw [if_neg (by omega), if_neg (by omega)]
    · by_cases hc : ch.1 = 8
      · exact ⟨_, _, _, x_link_full5 hw hP hb hlk.1 hc8 hc, in_M hp (c_link_full hw hb hg.2.2.1.1 hc), asm_q0 hI sfr_refl⟩
      have hc7 : ch.1 < 8 := by omega
      have hf : ∀ a, a ≠ 75 → (a < 89 + 3 * ch.1 ∨ 92 + 3 * ch.1 ≤ a) → jup2 (jup2 (jup2 h (89 + 3 * ch.1) 0 (nI 5)) (89 + 3 * ch.1) 1 b) 75 0 (nI (ch.1 + 1)) a = h a := fun a h1 h2 => by rw [jup2_f h1, jup2_f (by omega), jup2_f (by omega)]
      obtain ⟨hp1, hg1⟩ := InvP_X hI (fun a ha => hf a (by omega) (by omega))
      have n75 : ∀ q, jup2 (jup2 h (89 + 3 * ch.1) 0 (nI 5)) (89 + 3 * ch.1) 1 b 75 q = h 75 q := fun q => by rw [jup2_f (by omega), jup2_f (by omega)]
      have nsT : ∀ a q, a ≠ 75 → jup2 (jup2 (jup2 h (89 + 3 * ch.1) 0 (nI 5)) (89 + 3 * ch.1) 1 b) 75 0 (nI (ch.1 + 1)) a q = jup2 (jup2 h (89 + 3 * ch.1) 0 (nI 5)) (89 + 3 * ch.1) 1 b a q := fun a q h3 => by rw [jup2_f h3]
      refine ⟨_, _, _, x_link5 hw hP hb hlk.1 hc7, in_M hp1 (c_link5 hw hb hg1.2.2.1.1 hc7), fin_link (w := 0) hI hc7 (by omega) hf (by simp [jup2]) (fun q hq => ?_) ((nsT _ _ (by omega)).trans (by simp [jup2])) (by omega) ((nsT _ _ (by omega)).trans (by simp [jup2])) (by omega) (by omega) (by omega) (fun q _ => rfl) (hv _ (by omega))⟩
      · simp only [jup2, if_true, if_neg hq]
        rw [if_neg (by omega), if_neg (by omega)]
    · rw [j6] at hb
      obtain ⟨s, hs, h0, rfl⟩ := jho_t hb
      have hb2 : jlk P (nI 6) (nI s) = true := j6.trans hb
      by_cases hc : ch.1 = 8
      · exact ⟨_, _, _, x_link_full6 hw hP hb2 hlk.1 hc8 hc, in_M hp (c_link_full hw hb2 hg.2.2.1.1 hc), asm_q0 hI sfr_refl⟩
      · have hc7 : ch.1 < 8 := by omega
        have hf : ∀ a, a ≠ 75 → (a < 89 + 3 * ch.1 ∨ 92 + 3 * ch.1 ≤ a) → jup2 (sT (jup2 (jup2 h (89 + 3 * ch.1) 0 (nI 6)) (89 + 3 * ch.1) 1 (nI s)) (90 + 3 * ch.1) (P s)) 75 0 (nI (ch.1 + 1)) a = h a := fun a h1 h2 => by rw [jup2_f h1, sT_f (by omega) (by omega), jup2_f (by omega), jup2_f (by omega)]
        obtain ⟨hp1, hg1⟩ := InvP_X hI (fun a ha => hf a (by omega) (by omega))
        have n75 : ∀ q, jup2 (jup2 h (89 + 3 * ch.1) 0 (nI 6)) (89 + 3 * ch.1) 1 (nI s) 75 q = h 75 q := fun q => by rw [jup2_f (by omega), jup2_f (by omega)]
        have nsT : ∀ a q, a ≠ 90 + 3 * ch.1 → a ≠ 91 + 3 * ch.1 → a ≠ 75 → jup2 (sT (jup2 (jup2 h (89 + 3 * ch.1) 0 (nI 6)) (89 + 3 * ch.1) 1 (nI s)) (90 + 3 * ch.1) (P s)) 75 0 (nI (ch.1 + 1)) a q = jup2 (jup2 h (89 + 3 * ch.1) 0 (nI 6)) (89 + 3 * ch.1) 1 (nI s) a q := fun a q h1 h2 h3 => by rw [jup2_f h3, sT_f (by omega) (by omega)]
        refine ⟨_, _, _, x_link6 hw hP hs h0 hlk.1 hc7, in_M hp1 (c_link6 hw hb2 hg1.2.2.1.1 hc7 hs), fin_link (w := s) hI hc7 (by omega) hf (by simp [jup2]) (fun q hq => ?_) ((nsT _ _ (by omega) (by omega) (by omega)).trans (by simp [jup2])) (fun _ => rfl) ((nsT _ _ (by omega) (by omega) (by omega)).trans (by simp [jup2])) (by omega) (by omega) (fun _ => ?_) (fun q hq => jset_ne hq) (by rw [jset_eq]; exact hv s (by omega))⟩
        · simp only [jup2, if_true, if_neg hq]
          rw [sT_f (by omega) (by omega)]
          exact n75 q
        · rw [jset_eq]
          exact rep_cg rep_sT (jup2_f (by omega)) (jup2_f (by omega))
theorem k_undo {n : jN} {h : jH} (hI : Inv h) : ∃ (v : Int32) (h1 h2 : jH), jC n 3 jy_Main_undo jc_Main_undo 2 (some .int) [.ref 0] h (some (.int v)) h1 ∧ jC n 2 jy_Model_undo jc_Model_undo 1 (some .int) [.ref 135] h1 (some (.int v)) h2 ∧ Inv h2 := by
  obtain ⟨P, ls, lg, ch, cr, sh, hI⟩ := hI
  obtain ⟨⟨hw, hv, hlg, hls, ⟨hcl, hrs⟩, hsz, hms⟩, ⟨hP, ⟨nx, hnx, hn20, hsz3, hring⟩, hlk, hcr, hsh⟩, hg, hp⟩ := id hI
  rcases Nat.eq_zero_or_pos lg with e | e
  · subst e
    refine ⟨_, _, _, x_undo0 hsz3, in_L hp hg c_undo0, ?_⟩
    rw [jL_id hg.1 hg.2.1]
    exact asm_q0 hI sfr_refl
  · obtain ⟨l, rfl⟩ : ∃ l, lg = l + 1 := ⟨lg - 1, by omega⟩
    obtain ⟨p1, p2, p3⟩ := lat_e hn20 (show l < 20 by omega)
    obtain ⟨r1, r2⟩ := hring l (by omega)
    rw [p1] at r1 r2
    have hs := hls l (by omega)
    have hf : ∀ a, a ≠ 3 → a ≠ 115 + 2 * ls l → a ≠ 115 + 2 * ls l + 1 → jup2 (jup2 (sT h (115 + 2 * ls l) (P (6 + l))) 3 1 (nI (lat nx))) 3 0 (nI (l + 1 - 1)) a = h a := fun a h1 h2 h3 => by rw [jup2_f h1, jup2_f h1, sT_f h2 h3]
    obtain ⟨hp1, hg1⟩ := InvP_X hI (fun a ha => hf a (by omega) (by omega) (by omega))
    obtain ⟨i1, i2, i3, i4, i5⟩ := hI.2.1
    have hPo : ∀ q, q ≠ ls l → jset P (ls l) (P (6 + l)) q = P q := fun q hq => jset_ne hq
    refine ⟨_, _, _, x_undo hnx hn20 hsz3 hlg (by omega) r1 hs r2 (hw _), in_L hp1 hg1 (c_undo (by omega) hw hs), ?_⟩
    refine asm (ls := ls) (lg := l) (ch := ch) (cr := cr) (sh := sh) (h1 := jup2 (jup2 (sT h (115 + 2 * ls l) (P (6 + l))) 3 1 (nI (lat nx))) 3 0 (nI (l + 1 - 1))) ⟨tws hw (hw _), fun q hq => ?_, by omega, fun k hk => hls k (by omega), ⟨hcl, hrs⟩, hsz, hms⟩ ⟨fun q hq => ?_, ⟨lat nx, by simp [jup2], p2, by simp [jup2], fun k hk => ?_⟩, lnk_cg i3 (fun a _ _ => hf a (by omega) (by omega) (by omega)) (fun q hq => hPo _ (by omega)), crc_cg i4 (hf 75 (by omega) (by omega) (by omega)) (hf 76 (by omega) (by omega) (by omega)) (hf 77 (by omega) (by omega) (by omega)), shl_cg i5 (fun a _ _ => hf a (by omega) (by omega) (by omega))⟩ (fun a ha => ?_) ?_
    · by_cases e2 : q = ls l
      · rw [e2, jset_eq]; exact hv _ (by omega)
      · rw [hPo q e2]; exact hv q hq
    · by_cases e2 : q = ls l
      · rw [e2, jset_eq]
        exact rep_cg rep_sT (by rw [jup2_f (by omega), jup2_f (by omega)]) (by rw [jup2_f (by omega), jup2_f (by omega)])
      · rw [hPo q e2]
        exact rep_cg (i1 q hq) (hf _ (by omega) (by omega) (by omega)) (hf _ (by omega) (by omega) (by omega))
    · obtain ⟨s1, s2⟩ := hring k (by omega)
      have hm := Nat.mod_lt (nx + 20 - (l + 1) + k) (show 0 < 20 by omega)
      rw [p3 k hk, hPo _ (by omega)]
      exact ⟨by rw [hf 4 (by omega) (by omega) (by omega)]; exact s1, rep_cg s2 (hf _ (by omega) (by omega) (by omega)) (hf _ (by omega) (by omega) (by omega))⟩
    · show (if a = 138 then _ else if a = 135 then _ else _) = _
      rw [if_neg (by omega), if_neg (by omega)]
    · obtain ⟨g1, g2, ⟨g3, g4⟩, ⟨g5, g6, g7⟩, g8, g9⟩ := hg1
      exact ⟨rfl, rfl, ⟨g3, g4⟩, ⟨g5, g6, g7⟩, g8, g9⟩

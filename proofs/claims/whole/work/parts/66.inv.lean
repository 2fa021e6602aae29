/-- the class's log: a ring; the latest one stands before the next place -/
def lgc (h : jH) (P : jP) (ls : Nat → Nat) (lg : Nat) : Prop := ∃ nx, h 3 1 = nI nx ∧ nx < 20 ∧ h 3 0 = nI lg ∧ ∀ k, k < lg → h 4 ((nx + 20 - lg + k) % 20) = nI (ls k) ∧ rep h (6 + 2 * ((nx + 20 - lg + k) % 20)) (P (6 + k))
def crc (h : jH) (cl rs : Nat) (rv : Nat → Nat) : Prop := h 75 2 = nI cl ∧ h 75 3 = nI rs ∧ (∀ j, j < cl → h 76 j = nI (cl - 1 - j)) ∧ ∀ j, j < rs → h 77 j = nI (rv j)
abbrev jSt : Type := jP × (Nat → Nat) × Nat × (Nat × (Nat → Nat) × (Nat → Nat)) × (Nat × Nat × (Nat → Nat)) × ((Nat → Int32) × (Nat → Nat) × (Nat → Nat → Int32))
/-- the class's cells hold the state -/
def InvC (h : jH) (P : jP) (ls : Nat → Nat) (lg : Nat) (ch : Nat × (Nat → Nat) × (Nat → Nat)) (cr : Nat × Nat × (Nat → Nat)) (sh : (Nat → Int32) × (Nat → Nat) × (Nat → Nat → Int32)) : Prop :=
  slo h P ∧ lgc h P ls lg ∧ lnk h ch.1 ch.2.1 ch.2.2 (fun l => P (26 + l)) ∧ crc h cr.1 cr.2.1 cr.2.2 ∧ shl h sh.1 sh.2.1 sh.2.2
/-- the reference's cells (but for the places) hold the state -/
def InvG (G : jH) (ls : Nat → Nat) (lg : Nat) (ch : Nat × (Nat → Nat) × (Nat → Nat)) (cr : Nat × Nat × (Nat → Nat)) (sh : (Nat → Int32) × (Nat → Nat) × (Nat → Nat → Int32)) : Prop :=
  G 138 = (fun k => nI (ls k)) ∧ G 135 2 = nI lg ∧ (G 135 4 = nI ch.1 ∧ ∀ l, l < ch.1 → G 139 l = nI (ch.2.1 l) ∧ (ch.2.1 l = 2 ∨ ch.2.1 l = 3 ∨ ch.2.1 l = 4 ∨ ch.2.1 l = 6 → G 140 l = nI (ch.2.2 l))) ∧ (G 135 7 = nI cr.1 ∧ G 135 8 = nI cr.2.1 ∧ ∀ j, j < cr.2.1 → G 141 j = nI (cr.2.2 j)) ∧ (∃ my, G 135 13 = nI my) ∧ (G 149 = sh.1 ∧ G 150 = (fun k => nI (sh.2.1 k)) ∧ G 151 = (fun k => sh.2.2 (k / 40) (k % 40)))
def Com (P : jP) (ls : Nat → Nat) (lg : Nat) (cr : Nat × Nat × (Nat → Nat)) (sh : (Nat → Int32) × (Nat → Nat) × (Nat → Nat → Int32)) : Prop :=
  (∀ q, tw (P q)) ∧ (∀ q, q < 34 → tv (P q)) ∧ lg ≤ 20 ∧ (∀ k, k < lg → ls k < 6) ∧ (cr.1 ≤ 8 ∧ cr.2.1 ≤ 3) ∧ (∀ k, sh.2.1 k ≤ 40) ∧ ∀ s, s < 4 → sh.1 s = -1 → sh.2.1 s = 0
def InvP (h : jH) (P : jP) : Prop := h 136 = (fun k => nI ((P (k / 12)).2 (k % 12))) ∧ h 137 = (fun k => nI (P k).1)
def InvA (h : jH) (P : jP) (ls : Nat → Nat) (lg : Nat) (ch : Nat × (Nat → Nat) × (Nat → Nat)) (cr : Nat × Nat × (Nat → Nat)) (sh : (Nat → Int32) × (Nat → Nat) × (Nat → Nat → Int32)) : Prop :=
  Com P ls lg cr sh ∧ InvC h P ls lg ch cr sh ∧ InvG h ls lg ch cr sh ∧ InvP h P
def Inv (h : jH) : Prop := ∃ P ls lg ch cr sh, InvA h P ls lg ch cr sh
theorem jM_id {h : jH} {P : jP} (hp : InvP h P) : jM h P = h := by
  funext a k
  simp only [jM]
  split
  · subst_vars; rw [hp.1]
  · split
    · subst_vars; rw [hp.2]
    · rfl
theorem jL_id {h : jH} {ls : Nat → Nat} {lg : Nat} (h1 : h 138 = fun k => nI (ls k)) (h2 : h 135 2 = nI lg) : jL h ls lg = h := by
  funext a k
  simp only [jL]
  split
  · subst_vars; rw [h1]
  · split
    · subst_vars
      dsimp only
      split
      · subst_vars; rw [h2]
      · rfl
    · rfl
theorem jS_id {h : jH} {So : Nat → Int32} {Sz : Nat → Nat} {Nu : Nat → Nat → Int32} (h1 : h 149 = So) (h2 : h 150 = fun k => nI (Sz k)) (h3 : h 151 = fun k => Nu (k / 40) (k % 40)) : jS h So Sz Nu = h := by
  funext a k
  simp only [jS]
  split
  · subst_vars; rfl
  · split
    · subst_vars; rw [h2]
    · split
      · subst_vars; rw [h3]
      · rfl
theorem in_M {n : jN} {d : Nat} {y : MethodName} {cc : ByteArray} {nL : Nat} {ret : Option FieldType} {args : List Value} {h h2 : jH} {r : Option Value} {P : jP} (hp : InvP h P) (hc : jC n d y cc nL ret args (jM h P) r h2) : jC n d y cc nL ret args h r h2 := by
  rw [jM_id hp] at hc
  exact hc
theorem in_L {n : jN} {d : Nat} {y : MethodName} {cc : ByteArray} {nL : Nat} {ret : Option FieldType} {args : List Value} {h h2 : jH} {r : Option Value} {P : jP} {ls : Nat → Nat} {lg : Nat} {ch : Nat × (Nat → Nat) × (Nat → Nat)} {cr : Nat × Nat × (Nat → Nat)} {sh : (Nat → Int32) × (Nat → Nat) × (Nat → Nat → Int32)} (hp : InvP h P) (hg : InvG h ls lg ch cr sh) (hc : jC n d y cc nL ret args (jM (jL h ls lg) P) r h2) : jC n d y cc nL ret args h r h2 := by
  rw [jL_id hg.1 hg.2.1] at hc
  exact in_M hp hc
theorem in_S {n : jN} {d : Nat} {y : MethodName} {cc : ByteArray} {nL : Nat} {ret : Option FieldType} {args : List Value} {h h2 : jH} {r : Option Value} {P : jP} {ls : Nat → Nat} {lg : Nat} {ch : Nat × (Nat → Nat) × (Nat → Nat)} {cr : Nat × Nat × (Nat → Nat)} {sh : (Nat → Int32) × (Nat → Nat) × (Nat → Nat → Int32)} (hp : InvP h P) (hg : InvG h ls lg ch cr sh) (hc : jC n d y cc nL ret args (jM (jS h sh.1 sh.2.1 sh.2.2) P) r h2) : jC n d y cc nL ret args h r h2 := by
  rw [jS_id hg.2.2.2.2.2.1 hg.2.2.2.2.2.2.1 hg.2.2.2.2.2.2.2] at hc
  exact in_M hp hc
theorem rep_cg {h h' : jH} {t : Nat} {T : jT} (hr : rep h t T) (h1 : h' t = h t) (h2 : h' (t + 1) = h (t + 1)) : rep h' t T := rep_of h1 h2 hr
theorem lnk_cg {h h' : jH} {c : Nat} {kd o : Nat → Nat} {Q Q' : Nat → jT} (hl : lnk h c kd o Q) (hf : ∀ a, 75 ≤ a → a < 113 → h' a = h a) (hQ : ∀ l, l < 8 → Q' l = Q l) : lnk h' c kd o Q' := by
  obtain ⟨h1, h2, h3, h4⟩ := hl
  refine ⟨by rw [hf 75 (by omega) (by omega)]; exact h1, h2, by rw [hf 75 (by omega) (by omega)]; exact h3, fun l hl => ?_⟩
  obtain ⟨k1, k2, k3, k4, k5, k6⟩ := h4 l hl
  refine ⟨by rw [hf _ (by omega) (by omega)]; exact k1, k2, fun e => by rw [hf _ (by omega) (by omega)]; exact k3 e, k4, k5, fun e => ?_⟩
  rw [hQ l (by omega)]
  obtain ⟨m1, m2⟩ := k6 e
  exact ⟨rep_cg m1 (hf _ (by omega) (by omega)) (hf _ (by omega) (by omega)), m2⟩
theorem crc_cg {h h' : jH} {cl rs : Nat} {rv : Nat → Nat} (hc : crc h cl rs rv) (h1 : h' 75 = h 75) (h2 : h' 76 = h 76) (h3 : h' 77 = h 77) : crc h' cl rs rv := by
  obtain ⟨a, b, c, d⟩ := hc
  exact ⟨by rw [h1]; exact a, by rw [h1]; exact b, fun j hj => by rw [h2]; exact c j hj, fun j hj => by rw [h3]; exact d j hj⟩
theorem shl_cg {h h' : jH} {So : Nat → Int32} {Sz : Nat → Nat} {Nu : Nat → Nat → Int32} (hs : shl h So Sz Nu) (hf : ∀ a, 127 ≤ a → a < 135 → h' a = h a) : shl h' So Sz Nu := fun s hs4 => by
  obtain ⟨a, b, c, d, e⟩ := hs s hs4
  exact ⟨by rw [hf _ (by omega) (by omega)]; exact a, by rw [hf _ (by omega) (by omega)]; exact b, fun i hi => by rw [hf _ (by omega) (by omega)]; exact c i hi, d, e⟩
theorem lgc_cg {h h' : jH} {P P' : jP} {ls : Nat → Nat} {lg : Nat} (hl : lgc h P ls lg) (hf : ∀ a, 3 ≤ a → a < 46 → h' a = h a) (hP : ∀ k, k < lg → P' (6 + k) = P (6 + k)) : lgc h' P' ls lg := by
  obtain ⟨nx, h1, h2, h3, h4⟩ := hl
  refine ⟨nx, by rw [hf 3 (by omega) (by omega)]; exact h1, h2, by rw [hf 3 (by omega) (by omega)]; exact h3, fun k hk => ?_⟩
  have hm := Nat.mod_lt (nx + 20 - lg + k) (show 0 < 20 by omega)
  obtain ⟨k1, k2⟩ := h4 k hk
  refine ⟨by rw [hf 4 (by omega) (by omega)]; exact k1, ?_⟩
  rw [hP k hk]
  exact rep_cg k2 (hf _ (by omega) (by omega)) (hf _ (by omega) (by omega))
theorem slo_cg {h h' : jH} {P P' : jP} (hs : slo h P) (hf : ∀ a, 115 ≤ a → a < 127 → h' a = h a) (hP : ∀ q, q < 6 → P' q = P q) : slo h' P' := fun s hs6 => by
  rw [hP s hs6]
  exact rep_cg (hs s hs6) (hf _ (by omega) (by omega)) (hf _ (by omega) (by omega))
/-- only scratch cells, and the reference's, differ -/
theorem InvC_cg {h h' : jH} {P P' : jP} {ls : Nat → Nat} {lg : Nat} {ch : Nat × (Nat → Nat) × (Nat → Nat)} {cr : Nat × Nat × (Nat → Nat)} {sh : (Nat → Int32) × (Nat → Nat) × (Nat → Nat → Int32)} (hlg : lg ≤ 20) (hI : InvC h P ls lg ch cr sh) (hf : ∀ a, (a < 46 ∨ (75 ≤ a ∧ a ≠ 113 ∧ a ≠ 114)) → a < 135 → h' a = h a) (hP : ∀ q, q < 34 → P' q = P q) : InvC h' P' ls lg ch cr sh := by
  obtain ⟨h1, h2, h3, h4, h5⟩ := hI
  exact ⟨slo_cg h1 (fun a _ _ => hf a (by omega) (by omega)) (fun q hq => hP q (by omega)), lgc_cg h2 (fun a _ _ => hf a (by omega) (by omega)) (fun k hk => hP _ (by omega)), lnk_cg h3 (fun a _ _ => hf a (by omega) (by omega)) (fun l hl => hP _ (by omega)), crc_cg h4 (hf 75 (by omega) (by omega)) (hf 76 (by omega) (by omega)) (hf 77 (by omega) (by omega)), shl_cg h5 (fun a _ _ => hf a (by omega) (by omega))⟩
/-- the reference's cells that keep the state -/
def gkh (G' G : jH) : Prop := (∀ a, (138 ≤ a ∧ a ≤ 141) ∨ (149 ≤ a ∧ a ≤ 151) → G' a = G a) ∧ G' 135 2 = G 135 2 ∧ G' 135 4 = G 135 4 ∧ G' 135 7 = G 135 7 ∧ G' 135 8 = G 135 8 ∧ ∃ my, G' 135 13 = nI my
def gk (G' G : jH) : Prop := (∀ a, a < 135 → G' a = G a) ∧ gkh G' G
theorem gkh_G {G' G : jH} {ls : Nat → Nat} {lg : Nat} {ch : Nat × (Nat → Nat) × (Nat → Nat)} {cr : Nat × Nat × (Nat → Nat)} {sh : (Nat → Int32) × (Nat → Nat) × (Nat → Nat → Int32)} (hk : gkh G' G) (hg : InvG G ls lg ch cr sh) : InvG G' ls lg ch cr sh := by
  obtain ⟨k1, k2, k3, k4, k5, k6⟩ := hk
  obtain ⟨g1, g2, ⟨g3, g4⟩, ⟨g5, g6, g7⟩, -, g8, g9, g10⟩ := hg
  refine ⟨by rw [k1 138 (by omega)]; exact g1, k2.trans g2, ⟨k3.trans g3, fun l hl => ?_⟩, ⟨k4.trans g5, k5.trans g6, fun j hj => by rw [k1 141 (by omega)]; exact g7 j hj⟩, k6, by rw [k1 149 (by omega)]; exact g8, by rw [k1 150 (by omega)]; exact g9, by rw [k1 151 (by omega)]; exact g10⟩
  rw [k1 139 (by omega), k1 140 (by omega)]
  exact g4 l hl
theorem gk_refl {G : jH} (h : ∃ my, G 135 13 = nI my) : gk G G := ⟨fun _ _ => rfl, fun _ _ => rfl, rfl, rfl, rfl, rfl, h⟩
theorem gkh_of {X h : jH} (hf : ∀ a, 135 ≤ a → X a = h a) (hm : ∃ my, h 135 13 = nI my) : gkh X h := ⟨fun a ha => hf a (by omega), by rw [hf 135 (by omega)], by rw [hf 135 (by omega)], by rw [hf 135 (by omega)], by rw [hf 135 (by omega)], by rw [hf 135 (by omega)]; exact hm⟩
theorem gkh_trans {A B C : jH} (h1 : gkh A B) (h2 : gkh B C) : gkh A C := ⟨fun a ha => (h1.1 a ha).trans (h2.1 a ha), h1.2.1.trans h2.2.1, h1.2.2.1.trans h2.2.2.1, h1.2.2.2.1.trans h2.2.2.2.1, h1.2.2.2.2.1.trans h2.2.2.2.2.1, h1.2.2.2.2.2⟩
theorem gk_trans {A B C : jH} (h1 : gk A B) (h2 : gk B C) : gk A C := ⟨fun a ha => (h1.1 a ha).trans (h2.1 a ha), gkh_trans h1.2 h2.2⟩
theorem gk_my {A B : jH} (h : gk A B) : ∃ my, A 135 13 = nI my := h.2.2.2.2.2.2
theorem InvP_cg {X h : jH} {P : jP} (hp : InvP h P) (hf : ∀ a, 135 ≤ a → X a = h a) : InvP X P := ⟨by rw [hf 136 (by omega)]; exact hp.1, by rw [hf 137 (by omega)]; exact hp.2⟩
theorem InvP_M {G : jH} {P : jP} : InvP (jM G P) P := ⟨rfl, rfl⟩
theorem sfr_hi {X h : jH} (hf : sfr X h) : ∀ a, 135 ≤ a → X a = h a := fun a ha => hf a (by omega)
theorem sfr_refl {h : jH} : sfr h h := fun _ _ => rfl
theorem gkh_M {G : jH} {P : jP} {h : jH} (hk : gkh G h) : gkh (jM G P) h := ⟨fun a ha => (jM_other (by omega) (by omega) : jM G P a = G a) ▸ hk.1 a ha, hk.2⟩
/-- what stands behind both calls -/
theorem asm {G : jH} {P : jP} {ls : Nat → Nat} {lg : Nat} {ch : Nat × (Nat → Nat) × (Nat → Nat)} {cr : Nat × Nat × (Nat → Nat)} {sh : (Nat → Int32) × (Nat → Nat) × (Nat → Nat → Int32)} {h1 : jH} (hc : Com P ls lg cr sh) (hC : InvC h1 P ls lg ch cr sh) (hlow : ∀ a, a < 135 → G a = h1 a) (hg : InvG G ls lg ch cr sh) : Inv (jM G P) := by
  refine ⟨P, ls, lg, ch, cr, sh, hc, InvC_cg hc.2.2.1 hC (fun a _ ha => by rw [jM_other (by omega) (by omega)]; exact hlow a ha) (fun _ _ => rfl), ?_, InvP_M⟩
  exact gkh_G (gkh_M ⟨fun _ _ => rfl, rfl, rfl, rfl, rfl, hg.2.2.2.2.1⟩) hg
/-- a call that asks: the class changes scratch cells, the reference too -/
theorem asm_q {h X G : jH} {P P' : jP} {ls : Nat → Nat} {lg : Nat} {ch : Nat × (Nat → Nat) × (Nat → Nat)} {cr : Nat × Nat × (Nat → Nat)} {sh : (Nat → Int32) × (Nat → Nat) × (Nat → Nat → Int32)} (hI : InvA h P ls lg ch cr sh) (hX : sfr X h) (hG : gk G X) (hw : ∀ q, tw (P' q)) (hP : ∀ q, q < 34 → P' q = P q) : Inv (jM G P') := by
  obtain ⟨⟨c1, c2, c3, c4, c5, c6, c7⟩, hC, hg, hp⟩ := hI
  exact asm (h1 := X) ⟨hw, fun q hq => by rw [hP q hq]; exact c2 q hq, c3, c4, c5, c6, c7⟩ (InvC_cg c3 hC (fun a ha _ => hX a ha) hP) hG.1 (gkh_G (gkh_trans hG.2 (gkh_of (sfr_hi hX) hg.2.2.2.2.1)) hg)
/-- .. the reference changes nothing -/
theorem asm_q0 {h X : jH} {P : jP} {ls : Nat → Nat} {lg : Nat} {ch : Nat × (Nat → Nat) × (Nat → Nat)} {cr : Nat × Nat × (Nat → Nat)} {sh : (Nat → Int32) × (Nat → Nat) × (Nat → Nat → Int32)} (hI : InvA h P ls lg ch cr sh) (hX : sfr X h) : Inv (jM X P) :=
  asm_q hI hX (gk_refl (by rw [sfr_hi hX 135 (by omega)]; exact hI.2.2.1.2.2.2.2.1)) hI.1.1 (fun _ _ => rfl)
/-- behind the class's call the reference's heap is as it was -/
theorem InvP_X {h X : jH} {P : jP} {ls : Nat → Nat} {lg : Nat} {ch : Nat × (Nat → Nat) × (Nat → Nat)} {cr : Nat × Nat × (Nat → Nat)} {sh : (Nat → Int32) × (Nat → Nat) × (Nat → Nat → Int32)} (hI : InvA h P ls lg ch cr sh) (hX : ∀ a, 135 ≤ a → X a = h a) : InvP X P ∧ InvG X ls lg ch cr sh := ⟨InvP_cg hI.2.2.2 hX, gkh_G (gkh_of hX hI.2.2.1.2.2.2.2.1) hI.2.2.1⟩
/-- a slot takes over M: the log -/
theorem lgP_v {P : jP} {lg s : Nat} (hl : lg ≤ 20) : (∀ k, k < lgN lg → lgP P lg s (6 + k) = if k = lgN lg - 1 then P s else if lg = 20 then P (6 + (k + 1)) else P (6 + k)) := fun k hk => by
  unfold lgP
  unfold lgN at hk ⊢
  by_cases e : lg = 20
  · rw [if_pos e] at hk
    simp only [e, if_true]
    simp only [jset]
    by_cases q : k = 19
    · rw [if_pos (by omega), if_pos (by omega)]
    · rw [if_neg (by omega), if_pos (by omega), if_neg (by omega)]
      congr 1
  · rw [if_neg e] at hk
    simp only [e, if_false]
    simp only [jset]
    by_cases q : k = lg
    · rw [if_pos (by omega), if_pos (by omega)]
    · rw [if_neg (by omega), if_neg (by omega)]
theorem lgS_v {ls : Nat → Nat} {lg s : Nat} (hl : lg ≤ 20) : (∀ k, k < lgN lg → lgS ls lg s k = if k = lgN lg - 1 then s else if lg = 20 then ls (k + 1) else ls k) := fun k hk => by
  unfold lgS
  unfold lgN at hk ⊢
  by_cases e : lg = 20
  · rw [if_pos e] at hk
    simp only [e, if_true]
    by_cases q : k = 19
    · rw [if_pos q, if_pos (by omega)]
    · rw [if_neg q, if_pos (by omega), if_neg (by omega)]
  · rw [if_neg e] at hk
    simp only [e, if_false]
    by_cases q : k = lg
    · rw [if_pos q, if_pos (by omega)]
    · rw [if_neg q, if_neg (by omega)]
theorem InvC_hold {h X : jH} {P P' : jP} {ls : Nat → Nat} {lg : Nat} {ch : Nat × (Nat → Nat) × (Nat → Nat)} {cr : Nat × Nat × (Nat → Nat)} {sh : (Nat → Int32) × (Nat → Nat) × (Nat → Nat → Int32)} {s nx : Nat} {M : jT} (hlg : lg ≤ 20) (hI : InvC h P ls lg ch cr sh) (hX : sfr X h) (hs : s < 6) (hnx : h 3 1 = nI nx) (hn : nx < 20) (hring : ∀ k, k < lg → h 4 ((nx + 20 - lg + k) % 20) = nI (ls k) ∧ rep h (6 + 2 * ((nx + 20 - lg + k) % 20)) (P (6 + k))) (hP : ∀ q, q < 34 → P' q = jset (lgP P lg s) s M q) : InvC (holdH X s nx lg (P s) M) P' (lgS ls lg s) (lgN lg) ch cr sh := by
  obtain ⟨h1, h2, h3, h4, h5⟩ := hI
  have hfr : ∀ a, (a < 46 ∨ (75 ≤ a ∧ a ≠ 113 ∧ a ≠ 114)) → a ≠ 3 → a ≠ 4 → a ≠ 6 + 2 * nx → a ≠ 6 + 2 * nx + 1 → a ≠ 115 + 2 * s → a ≠ 115 + 2 * s + 1 → holdH X s nx lg (P s) M a = h a := fun a a0 a1 a2 a3 a4 a5 a6 => (holdH_f a1 a2 a3 a4 a5 a6).trans (hX a a0)
  have hlow : ∀ q, q < 6 → q ≠ s → P' q = P q := fun q hq hne => by
    rw [hP q (by omega), jset_ne hne, lgP_ne hlg (Or.inl hq)]
  have hhi : ∀ q, 25 < q → q < 34 → P' q = P q := fun q hq hq2 => by
    rw [hP q hq2, jset_ne (by omega), lgP_ne hlg (Or.inr hq)]
  have hmid : ∀ k, k < lgN lg → P' (6 + k) = lgP P lg s (6 + k) := fun k hk => by
    have : lgN lg ≤ 20 := by unfold lgN; split <;> omega
    rw [hP _ (by omega), jset_ne (by omega)]
  refine ⟨fun q hq => ?_, ?_, lnk_cg h3 (fun a ha hb => hfr a (by omega) (by omega) (by omega) (by omega) (by omega) (by omega) (by omega)) (fun l hl => hhi _ (by omega) (by omega)), crc_cg h4 (hfr 75 (by omega) (by omega) (by omega) (by omega) (by omega) (by omega) (by omega)) (hfr 76 (by omega) (by omega) (by omega) (by omega) (by omega) (by omega) (by omega)) (hfr 77 (by omega) (by omega) (by omega) (by omega) (by omega) (by omega) (by omega)), shl_cg h5 (fun a ha hb => hfr a (by omega) (by omega) (by omega) (by omega) (by omega) (by omega) (by omega))⟩
  · by_cases e : q = s
    · subst e
      rw [hP q (by omega), jset_eq]
      exact rep_sT
    · rw [hlow q hq e]
      exact rep_cg (h1 q hq) (hfr _ (by omega) (by omega) (by omega) (by omega) (by omega) (by omega) (by omega)) (hfr _ (by omega) (by omega) (by omega) (by omega) (by omega) (by omega) (by omega))
  · -- the log
    have e3 : ∀ k, holdH X s nx lg (P s) M 3 k = noteH X s nx lg (P s) 3 k := fun k => by rw [holdH, sT_f (by omega) (by omega)]
    have e4 : ∀ k, holdH X s nx lg (P s) M 4 k = noteH X s nx lg (P s) 4 k := fun k => by rw [holdH, sT_f (by omega) (by omega)]
    have n1 : noteH X s nx lg (P s) 3 1 = nI (nxt nx) := by simp [noteH, jup2]
    have n0 : noteH X s nx lg (P s) 3 0 = nI (min (lg + 1) 20) := by simp [noteH, jup2]
    have n4 : ∀ z, noteH X s nx lg (P s) 4 z = if z = nx then nI s else h 4 z := fun z => by
      rw [noteH, jup2_f (by decide), jup2_f (by decide), sT_f (by omega) (by omega)]
      simp only [jup2]
      rw [if_pos trivial, hX 4 (by omega)]
    have hN : lgN lg ≤ 20 := by unfold lgN; split <;> omega
    have hmin : min (lg + 1) 20 = lgN lg := by unfold lgN; split <;> omega
    have hnxt : nxt nx < 20 := by unfold nxt; split <;> omega
    refine ⟨nxt nx, (e3 1).trans n1, hnxt, (e3 0).trans (by rw [n0, hmin]), fun k hk => ?_⟩
    have hpos : (nxt nx + 20 - lgN lg + k) % 20 = (nx + 1 + 20 - lgN lg + k) % 20 := by
      unfold nxt
      split
      · rename_i q
        rw [q]
        omega
      · rfl
    rw [hpos, e4, n4, lgS_v hlg k hk, hmid k hk, lgP_v hlg k hk]
    by_cases q : k = lgN lg - 1
    · have hp : (nx + 1 + 20 - lgN lg + k) % 20 = nx := by omega
      rw [if_pos q, if_pos q, hp, if_pos rfl]
      refine ⟨rfl, ?_⟩
      have ht := isT_log nx hn
      have hs2 := isT_slot s hs
      have : rep (sT (jup2 X 4 nx (nI s)) (6 + 2 * nx) (P s)) (6 + 2 * nx) (P s) := rep_sT
      refine rep_of ?_ ?_ this
      · rw [holdH, sT_f (by omega) (by omega), noteH, jup2_f (by omega), jup2_f (by omega)]
      · rw [holdH, sT_f (by omega) (by omega), noteH, jup2_f (by omega), jup2_f (by omega)]
    · rw [if_neg q, if_neg q]
      by_cases e : lg = 20
      · have hl20 : lgN lg = 20 := by unfold lgN; rw [if_pos e]
        rw [if_pos e, if_pos e]
        have hp : (nx + 1 + 20 - lgN lg + k) % 20 = (nx + 20 - lg + (k + 1)) % 20 := by omega
        have hne : (nx + 20 - lg + (k + 1)) % 20 ≠ nx := by omega
        have hm := Nat.mod_lt (nx + 20 - lg + (k + 1)) (show 0 < 20 by omega)
        obtain ⟨r1, r2⟩ := hring (k + 1) (by omega)
        rw [hp, if_neg hne]
        exact ⟨r1, rep_cg r2 (hfr _ (by omega) (by omega) (by omega) (by omega) (by omega) (by omega) (by omega)) (hfr _ (by omega) (by omega) (by omega) (by omega) (by omega) (by omega) (by omega))⟩
      · have hl20 : lgN lg = lg + 1 := by unfold lgN; rw [if_neg e]
        rw [if_neg e, if_neg e]
        have hp : (nx + 1 + 20 - lgN lg + k) % 20 = (nx + 20 - lg + k) % 20 := by omega
        have hne : (nx + 20 - lg + k) % 20 ≠ nx := by omega
        have hm := Nat.mod_lt (nx + 20 - lg + k) (show 0 < 20 by omega)
        obtain ⟨r1, r2⟩ := hring k (by omega)
        rw [hp, if_neg hne]
        exact ⟨r1, rep_cg r2 (hfr _ (by omega) (by omega) (by omega) (by omega) (by omega) (by omega) (by omega)) (hfr _ (by omega) (by omega) (by omega) (by omega) (by omega) (by omega) (by omega))⟩
theorem Com_hold {P P' : jP} {ls : Nat → Nat} {lg s : Nat} {cr : Nat × Nat × (Nat → Nat)} {sh : (Nat → Int32) × (Nat → Nat) × (Nat → Nat → Int32)} {M : jT} (hc : Com P ls lg cr sh) (hs : s < 6) (hM : tv M) (hw : ∀ q, tw (P' q)) (hP : ∀ q, q < 34 → P' q = jset (lgP P lg s) s M q) : Com P' (lgS ls lg s) (lgN lg) cr sh := by
  obtain ⟨c1, c2, c3, c4, c5, c6, c7⟩ := hc
  refine ⟨hw, fun q hq => ?_, by unfold lgN; split <;> omega, fun k hk => ?_, c5, c6, c7⟩
  · rw [hP q hq]
    by_cases e : q = s
    · rw [e, jset_eq]; exact hM
    · rw [jset_ne e]
      unfold lgP
      split
      · simp only [jset]
        split
        · exact c2 s (by omega)
        · split
          · exact c2 _ (by omega)
          · exact c2 q hq
      · simp only [jset]
        split
        · exact c2 s (by omega)
        · exact c2 q hq
  · rw [lgS_v c3 k hk]
    unfold lgN at hk
    split
    · exact hs
    · rename_i q
      unfold lgN at q
      split
      · rename_i e
        rw [if_pos e] at hk q
        exact c4 _ (by omega)
      · rename_i e
        rw [if_neg e] at hk q
        exact c4 _ (by omega)
/-- a call behind which a slot holds M -/
theorem asm_hold {h X : jH} {P P' : jP} {ls : Nat → Nat} {lg : Nat} {ch : Nat × (Nat → Nat) × (Nat → Nat)} {cr : Nat × Nat × (Nat → Nat)} {sh : (Nat → Int32) × (Nat → Nat) × (Nat → Nat → Int32)} {s nx : Nat} {M : jT} {G : jH} (hI : InvA h P ls lg ch cr sh) (hX : sfr X h) (hs : s < 6) (hnx : h 3 1 = nI nx) (hn : nx < 20) (hring : ∀ k, k < lg → h 4 ((nx + 20 - lg + k) % 20) = nI (ls k) ∧ rep h (6 + 2 * ((nx + 20 - lg + k) % 20)) (P (6 + k))) (hM : tv M) (hw : ∀ q, tw (P' q)) (hP : ∀ q, q < 34 → P' q = jset (lgP P lg s) s M q) (hG : gk G (holdH X s nx lg (P s) M)) : Inv (jM (jL G (lgS ls lg s) (lgN lg)) P') := by
  obtain ⟨hc, hC, hg, hp⟩ := hI
  have hhi : ∀ a, 135 ≤ a → holdH X s nx lg (P s) M a = h a := fun a ha => (holdH_f (by omega) (by omega) (by omega) (by omega) (by omega) (by omega)).trans (hX a (by omega))
  have hg2 := gkh_G (gkh_trans hG.2 (gkh_of hhi hg.2.2.2.2.1)) hg
  refine asm (h1 := holdH X s nx lg (P s) M) (Com_hold hc hs hM hw hP) (InvC_hold hc.2.2.1 hC hX hs hnx hn hring hP) (fun a ha => ?_) ?_
  · show (if a = 138 then _ else if a = 135 then _ else G a) = _
    rw [if_neg (by omega), if_neg (by omega)]
    exact hG.1 a ha
  · obtain ⟨g1, g2, ⟨g3, g4⟩, ⟨g5, g6, g7⟩, g8, g9⟩ := hg2
    exact ⟨rfl, rfl, ⟨g3, g4⟩, ⟨g5, g6, g7⟩, g8, g9⟩
theorem jcome_P {P Q : jP} {lg s : Nat} {M : jT} (hl : lg ≤ 20) (hs : s < 6) (hQ : ∀ q, q < 34 → Q q = P q) (hM : Q 35 = M) : ∀ q, q < 34 → jcome Q lg s q = jset (lgP P lg s) s M q := fun q hq => by
  unfold jcome
  by_cases e : q = s
  · rw [e, jset_eq, jset_eq, hM]
  · rw [jset_ne e, jset_ne e]
    unfold lgP
    split
    · simp only [jset]
      split
      · exact hQ s (by omega)
      · split
        · exact hQ _ (by omega)
        · exact hQ q hq
    · simp only [jset]
      split
      · exact hQ s (by omega)
      · exact hQ q hq
theorem jset_P {P : jP} {lg s : Nat} {M : jT} : ∀ q, q < 34 → jset (lgP P lg s) s M q = jset (lgP P lg s) s M q := fun _ _ => rfl

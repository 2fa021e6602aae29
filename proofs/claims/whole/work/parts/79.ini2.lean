theorem i_upf {n : jN} {f : Nat → Nat} {a : Nat} : iup f a (f a) = f := by
  funext b
  unfold iup
  split
  · subst_vars; rfl
  · rfl
section
variable {n : jN} {d : Nat} {cc : ByteArray} {nL : Nat} {own : String} {k0 kE : Nat} {Ex : Nat → List (Option Value) → List Value → Nat → (Nat → Nat) → Prop} {pc : Nat} {L L' : List (Option Value)} {st : List Value} {z : Nat} {f : Nat → Nat}
/-- a reference field that only a constructor writes -/
def iF (own : String) (idx ci k N : Nat) : Prop := ∃ (C : String) (T : u_T) (t : Nat → FieldType), ci < 20 ∧ jcl[ci]? = some (C, T, N) ∧ (∀ w ∈ u_ws C T N, w ∈ jtbl) ∧ k < N ∧ Cond.fieldLink own idx (T k).1 (T k).2.1 (T k).2.2.1 ∈ jtbl ∧ (∀ k, k < N → parseFieldDescriptor (T k).2.2.1 = some (t k)) ∧ (∀ a, a < N → ∀ b, b < N → a ≠ b → (T a).2.1 ≠ (T b).2.1) ∧ (T k).2.2.2 = true ∧ (T k).1 = own ∧ own ≠ "YesNoPowersLaw" ∧ ∀ x : Nat, narrow (t k) (.ref x) = .ref x ∧ fits (t k) (.ref x) = true
theorem i_putr {a b ci k N idx : Nat} (hdg : decode cc pc = .ok (.putfield idx, 3)) (hF : iF own idx ci k N) (hs : jsh a = (ci, N)) (ha : a < z) (hir : jir ci k = true) (hb : jrf a k = b) (hb2 : b < 152) (hfk : f a ≤ k) (hgap : ∀ g, f a ≤ g → g < k → jir ci g = false ∧ jh0 a g = 0) (kk : iJ n d cc nL own k0 kE Ex (pc + 3) L st z (iup f a (k + 1))) : iJ n d cc nL own k0 kE Ex pc L (.ref b :: .ref a :: st) z f :=
  fun p l e R s mm args below meth c Q X hr ls H locs hl hP hS => by
    obtain ⟨C, T, t, hci, hc, hin, hk, hw, hty, hnm, hfi, hdecl, hno, hrf⟩ := hF
    have ha147 := jsh_lt hs (by omega)
    have e1 : (Value.ref b :: Value.ref a :: st).map (jup n) = .ref (jB n + b) :: .ref (jB n + a) :: st.map (jup n) := by simp [jup, jad_lt n ha147, jad_lt n hb2]
    rw [e1]
    have hmn : meth.name = "<init>" := X.2.2.2.2.2.2.2.2.2.2.2.1.elim (fun q => absurd q hno) id
    refine va_putF (D := n.1) (C := C) (T := T) (N := N) (ci := ci) (v := .ref (jB n + b)) (ty := t k) X.1 X.2.1 X.2.2.2.2.1 hin t hty hnm X.2.2.2.1 X.2.2.2.2.2.1 hP (iD n z f) hS a (fs := (List.range N).map (fun k => if jir ci k then (if k < f a then .ref (jB n + jrf a k) else .null) else .int (if k < f a then jh0 a k else 0))) (by rw [iws_at ha, iE_obj hs hci]) hc k hk (X.2.2.2.2.1 _ hw) (fun _ z => z) hfi hmn hdecl (hty k hk) (hrf _).1 (hrf _).2 (by simp [hk]) hdg (fun H1 locs1 hP1 hD1 hS1 => ?_)
    refine kk p l e R s mm args below meth c Q X hr ls H1 locs1 hl ?_ hS1
    rwa [iws_set (v := k + 1) ha] at hP1
    rw [iE_obj hs hci, jset_range, iup_eq]
    congr 3
    apply List.map_congr_left
    intro j hj
    by_cases ej : j = k
    · subst ej
      simp [hir, hb]
    · rw [if_neg ej]
      by_cases q : j < f a
      · rw [if_pos q, if_pos q, if_pos (show j < k + 1 by omega), if_pos (show j < k + 1 by omega)]
      · by_cases q2 : j < k
        · obtain ⟨g1, g2⟩ := hgap j (by omega) q2
          simp [g1, g2]
        · rw [if_neg q, if_neg q, if_neg (show ¬ j < k + 1 by omega), if_neg (show ¬ j < k + 1 by omega)]
theorem i_puti {a ci k N idx : Nat} {v : Int32} (hdg : decode cc pc = .ok (.putfield idx, 3)) (hF : jF own idx ci k N) (hs : jsh a = (ci, N)) (ha : a < z) (hir : jir ci k = false) (hv : v = jh0 a k) (hfk : f a ≤ k) (hgap : ∀ g, f a ≤ g → g < k → jir ci g = false ∧ jh0 a g = 0) (kk : iJ n d cc nL own k0 kE Ex (pc + 3) L st z (iup f a (k + 1))) : iJ n d cc nL own k0 kE Ex pc L (.int v :: .ref a :: st) z f :=
  fun p l e R s mm args below meth c Q X hr ls H locs hl hP hS => by
    obtain ⟨C, T, t, hci, hc, hin, hk, hw, hty, hnm, hti, hfi⟩ := hF
    have ha147 := jsh_lt hs (by omega)
    have e1 : (Value.int v :: Value.ref a :: st).map (jup n) = .int v :: .ref (jB n + a) :: st.map (jup n) := by simp [jup, jad_lt n ha147]
    rw [e1]
    refine va_put (D := n.1) (C := C) (T := T) (N := N) (ci := ci) (v := .int v) (ty := .int) X.1 X.2.1 X.2.2.2.2.1 hin t hty hnm X.2.2.2.1 X.2.2.2.2.2.1 hP (iD n z f) hS a (fs := (List.range N).map (fun k => if jir ci k then (if k < f a then .ref (jB n + jrf a k) else .null) else .int (if k < f a then jh0 a k else 0))) (by rw [iws_at ha, iE_obj hs hci]) hc k hk (X.2.2.2.2.1 _ hw) (fun _ z => z) (hfi hir) (by rw [hty k hk, hti hir]) rfl rfl (by simp [hk]) hdg (fun H1 locs1 hP1 hD1 hS1 => ?_)
    refine kk p l e R s mm args below meth c Q X hr ls H1 locs1 hl ?_ hS1
    rwa [iws_set (v := k + 1) ha] at hP1
    rw [iE_obj hs hci, jset_range, iup_eq]
    congr 3
    apply List.map_congr_left
    intro j hj
    by_cases ej : j = k
    · subst ej
      simp [hir, hv]
    · rw [if_neg ej]
      by_cases q : j < f a
      · rw [if_pos q, if_pos q, if_pos (show j < k + 1 by omega), if_pos (show j < k + 1 by omega)]
      · by_cases q2 : j < k
        · obtain ⟨g1, g2⟩ := hgap j (by omega) q2
          simp [g1, g2]
        · rw [if_neg q, if_neg q, if_neg (show ¬ j < k + 1 by omega), if_neg (show ¬ j < k + 1 by omega)]
/-- what stands is written again -/
theorem i_putz {a ci k N idx : Nat} {v : Int32} (hdg : decode cc pc = .ok (.putfield idx, 3)) (hF : jF own idx ci k N) (hs : jsh a = (ci, N)) (ha : a < z) (hir : jir ci k = false) (hv : v = jh0 a k) (hfk : k < f a) (kk : iJ n d cc nL own k0 kE Ex (pc + 3) L st z f) : iJ n d cc nL own k0 kE Ex pc L (.int v :: .ref a :: st) z f :=
  fun p l e R s mm args below meth c Q X hr ls H locs hl hP hS => by
    obtain ⟨C, T, t, hci, hc, hin, hk, hw, hty, hnm, hti, hfi⟩ := hF
    have ha147 := jsh_lt hs (by omega)
    have e1 : (Value.int v :: Value.ref a :: st).map (jup n) = .int v :: .ref (jB n + a) :: st.map (jup n) := by simp [jup, jad_lt n ha147]
    rw [e1]
    refine va_put (D := n.1) (C := C) (T := T) (N := N) (ci := ci) (v := .int v) (ty := .int) X.1 X.2.1 X.2.2.2.2.1 hin t hty hnm X.2.2.2.1 X.2.2.2.2.2.1 hP (iD n z f) hS a (fs := (List.range N).map (fun k => if jir ci k then (if k < f a then .ref (jB n + jrf a k) else .null) else .int (if k < f a then jh0 a k else 0))) (by rw [iws_at ha, iE_obj hs hci]) hc k hk (X.2.2.2.2.1 _ hw) (fun _ z => z) (hfi hir) (by rw [hty k hk, hti hir]) rfl rfl (by simp [hk]) hdg (fun H1 locs1 hP1 hD1 hS1 => ?_)
    refine kk p l e R s mm args below meth c Q X hr ls H1 locs1 hl ?_ hS1
    rwa [iws_set (v := f a) ha, i_upf (n := n)] at hP1
    rw [i_upf (n := n), iE_obj hs hci, jset_range]
    congr 3
    apply List.map_congr_left
    intro j hj
    by_cases ej : j = k
    · subst ej
      simp [hir, hv, hfk]
    · rw [if_neg ej]
theorem i_getr {a ci k N idx b : Nat} (hdg : decode cc pc = .ok (.getfield idx, 3)) (hf : jF own idx ci k N) (hs : jsh a = (ci, N)) (ha : a < z) (hir : jir ci k = true) (hb : jrf a k = b) (hb2 : b < 152) (hfk : k < f a) (kk : iJ n d cc nL own k0 kE Ex (pc + 3) L (.ref b :: st) z f) : iJ n d cc nL own k0 kE Ex pc L (.ref a :: st) z f :=
  fun p l e R s mm args below meth c Q X hr ls H locs hl hP hS => by
    obtain ⟨C, T, t, hci, hc, hin, hk, hw, -⟩ := hf
    have ha147 := jsh_lt hs (by omega)
    have e1 : (Value.ref a :: st).map (jup n) = .ref (jB n + a) :: st.map (jup n) := by simp [jup, jad_lt n ha147]
    have e2 : (Value.ref b :: st).map (jup n) = .ref (jB n + b) :: st.map (jup n) := by simp [jup, jad_lt n hb2]
    have kk := kk p l e R s mm args below meth c Q X hr ls H locs hl hP hS
    rw [e2] at kk
    rw [e1]
    exact va_get (D := n.1) (C := C) (T := T) (N := N) (ci := ci) (v := .ref (jB n + b)) X.1 X.2.1 X.2.2.2.2.1 hin X.2.2.2.1 X.2.2.2.2.2.1 hP a (by rw [iws_at ha, iE_obj hs hci]) hc k hk (X.2.2.2.2.1 _ hw) (fun _ z => z) (by simp [hk, hir, hb, hfk]) hdg kk
theorem i_iast {a i N : Nat} {v : Int32} (hdg : decode cc pc = .ok (.iastore, 1)) (hs : jsh a = (20, N)) (ha : a < z) (hi : i < N) (hN : N ≤ 4096) (hf : f a = i) (hv : v = jh0 a i) (kk : iJ n d cc nL own k0 kE Ex (pc + 1) L st z (iup f a (i + 1))) : iJ n d cc nL own k0 kE Ex pc L (.int v :: .int (nI i) :: .ref a :: st) z f :=
  fun p l e R s mm args below meth c Q X hr ls H locs hl hP hS => by
    have ha147 := jsh_lt hs (by omega)
    have e1 : (Value.int v :: Value.int (nI i) :: Value.ref a :: st).map (jup n) = .int v :: .int (nI i) :: .ref (jB n + a) :: st.map (jup n) := by simp [jup, jad_lt n ha147]
    rw [e1]
    refine va_iast X.1 X.2.1 X.2.2.2.2.2.1 hP (iD n z f) hS a 0 (f := fun k => if k < f a then jh0 a k else 0) (by rw [iws_at ha, iE_int hs (by omega) (by omega)]) rfl (vp_in_nI hi (by omega)) hdg (fun H1 locs1 hP1 hD1 hS1 => ?_)
    refine kk p l e R s mm args below meth c Q X hr ls H1 locs1 hl ?_ hS1
    rwa [iws_set (v := i + 1) ha] at hP1
    rw [iE_int hs (by omega) (by omega), iup_eq, nI_clamp (by omega)]
    congr 5
    funext k
    have e9 : upd (fun k => if k < f a then jh0 a k else 0) i v k = jup2 (fun _ k => if k < f a then jh0 a k else 0) 0 i v 0 k := congrFun (jupd_eq (h := fun _ k => if k < f a then jh0 a k else 0) (a := 0)) k
    rw [e9]
    simp only [jup2, if_true]
    by_cases q : k = i
    · subst q
      simp [hv]
    · rw [if_neg q, hf]
      by_cases q2 : k < i
      · rw [if_pos q2, if_pos (by omega)]
      · rw [if_neg q2, if_neg (by omega)]
theorem i_aast {a b i ci cb N Nb t0 : Nat} {r : vw_C} (hdg : decode cc pc = .ok (.aastore, 1)) (hs : jsh a = (ci, N)) (h1 : ¬ ci < 22) (h99 : ci < 99) (ht : (jtys n)[t0]? = some (n.2.1 ci, .object r.1)) (hsb : jsh b = (cb, Nb)) (hcb : cb < 20) (hr0 : jcl[cb]? = some r) (ha : a < z) (hbz : b < z) (hi : i < N) (hN : N ≤ 4096) (hf : f a = i) (hb : jrf a i = b) (kk : iJ n d cc nL own k0 kE Ex (pc + 1) L st z (iup f a (i + 1))) : iJ n d cc nL own k0 kE Ex pc L (.ref b :: .int (nI i) :: .ref a :: st) z f :=
  fun p l e R s mm args below meth c Q X hr ls H locs hl hP hS => by
    have ha147 := jsh_lt hs h99
    have hb147 := jsh_lt hsb (by omega)
    have e1 : (Value.ref b :: Value.int (nI i) :: Value.ref a :: st).map (jup n) = .ref (jB n + b) :: .int (nI i) :: .ref (jB n + a) :: st.map (jup n) := by simp [jup, jad_lt n ha147, jad_lt n hb147]
    rw [e1]
    refine va_astq X.1 X.2.1 X.2.2.2.2.2.1 hP (iD n z f) hS a t0 b cb (r := r) (f := fun k => if k < f a then some (jB n + jrf a k) else none) (by rw [iws_at ha, iE_ref hs (by omega) h1]) ht (by rw [iws_at hbz, iE_obj hsb hcb]) hr0 (vp_in_nI hi (by omega)) hdg (fun H1 locs1 hP1 hD1 hS1 => ?_)
    refine kk p l e R s mm args below meth c Q X hr ls H1 locs1 hl ?_ hS1
    rwa [iws_set (v := i + 1) ha] at hP1
    rw [iE_ref hs (by omega) h1, iup_eq, nI_clamp (by omega)]
    congr 8
    funext k
    unfold va_up
    by_cases q : k = i
    · subst q
      simp [hb]
    · rw [if_neg q, hf]
      dsimp only
      by_cases q2 : k < i
      · rw [if_pos q2, if_pos (by omega)]
      · rw [if_neg q2, if_neg (by omega)]
theorem i_obj {a idx : Nat} (hdg : decode cc pc = .ok (.invokespecial idx, 3)) (hlink : Cond.methodLink own idx Lib.objectInit ∈ jtbl) (hin : Cond.instanceMethod Lib.objectInit ∈ jtbl) (hco : Cond.code Lib.objectInit ⟨#[0xb1]⟩ 1 none ∈ jtbl) (hsz : st.length ≤ 4) (ha : a < 152) (kk : iJ n d cc nL own k0 kE Ex (pc + 3) L st z f) : iJ n d cc nL own k0 kE Ex pc L (.ref a :: st) z f :=
  fun p l e R s mm args below meth c Q X hr ls H locs hl hP hS => by
    have hw := X.2.2.2.2.1
    have hcat := jcats (n := n) st hsz
    have hloc := X.2.2.2.2.2.2.2.2.1
    have e1 : (Value.ref a :: st).map (jup n) = .ref (jB n + a) :: st.map (jup n) := by simp [jup, jad_lt n ha]
    rw [e1]
    exact W.objInit (g := F0 mm pc ls (.ref (jB n + a) :: st.map (jup n))) X.1 X.2.1 X.2.2.2.1 (hw _ hlink) (hw _ hin) (hw _ hco) rfl (hl.1.trans X.2.2.1.symm) rfl hdg (by have := X.2.2.2.2.2.2.2.1; omega) (by simp only [Nat.mul_zero, Nat.zero_add]; omega) (kk p l e R s mm args below meth c Q X hr ls H locs hl hP hS)
def iRm (d k0 kE : Nat) : Room := { frames := d + 1, cells := kE - k0, slots := iSL kE - iSL k0, locals := 64 * (d + 1) }
def iBf (n : jN) (z : Nat) (f : Nat → Nat) (U : State) : Prop := va_P n.1 jcl (iws n z f) U.heap ∧ U.heap.size = jB n + z ∧ va_K n.1 jcl (jtys n) U ∧ iNs U
def iQ (n : jN) (zE : Nat) (G : (Nat → Nat) → Prop) : Array Value → State → Outcome → State → Prop := fun _ st o t => o = .returned none ∧ (∃ f', G f' ∧ va_P n.1 jcl (iws n zE f') t.heap) ∧ va_F (jA n) st t
/-- a constructor's contract -/
def iC (n : jN) (d : Nat) (y : MethodName) (cc : ByteArray) (nL : Nat) (args : List Value) (z : Nat) (f : Nat → Nat) (zE : Nat) (G : (Nat → Nat) → Prop) : Prop :=
  ∀ (l : Launch), Met l y (jwy y cc nL none) (iRm d z zE) (va_Pc (args.map (jup n)) (iBf n z f)) (iQ n zE G) (zE - z) (iSL zE - iSL z) (jA n)
theorem i_blind {av : List Value} : FrameBlind (va_Pc av (iBf n z f)) := by
  intro a U g mk q
  obtain ⟨q1, q2, q3, q4, q5⟩ := q
  exact ⟨q1, q2, q3, va_K.moved (u := U) (U := U.calling g mk a) (Vm.Alike.refl U.vm) q4, ⟨fun w hw => va_Nw.same (u := U) rfl rfl (q5.1 w hw), fun C hC => va_AO.moved (u := U) (Vm.Alike.refl U.vm) (q5.2 C hC)⟩⟩
theorem i_call {d' idx a maxL np zE : Nat} {y : MethodName} {bytes : ByteArray} {As : List Value} {G : (Nat → Nat) → Prop} {st0 : List Value} (hC : iC n d' y bytes maxL (.ref a :: As) z f zE G) (hdg : decode cc pc = .ok (.invokespecial idx, 3)) (hd : d' < d) (hm : jMi y bytes maxL none np)
    (hlink : Cond.methodLink own idx y ∈ jtbl) (hin : Cond.instanceMethod y ∈ jtbl) (hy : y.name = "<init>") (ha : a < 152) (hnp : As.length = np) (hsz : st.length ≤ 4) (hst : st0 = As.reverse ++ .ref a :: st) (hz : k0 ≤ z) (hzE : z ≤ zE) (hE : zE ≤ kE)
    (kk : ∀ f', G f' → iJ n d cc nL own k0 kE Ex (pc + 3) L st zE f') : iJ n d cc nL own k0 kE Ex pc L st0 z f :=
  fun p l e R s mm args below meth c Q X hr ls H locs hl hP hS => by
    subst hst
    refine i_size X.2.2.2.2.2.2.1 hz hP (fun hsize => ?_)
    obtain ⟨hini, hcode, hdy, hmx, -⟩ := hm
    have hw : ∀ w ∈ jtbl, w.before args s = true := X.2.2.2.2.1
    have m1 := iSL_le hz
    have m2 := iSL_le hzE
    have m3 := iSL_le hE
    have r1 := X.2.2.2.2.2.2.2.2.2.1
    have r2 := X.2.2.2.2.2.2.2.2.2.2.1
    have cb := callB_of (y := y) (own := own) (index := idx) (R := R) np hw (jgoodw hcode) (ws' := jtbl) rfl (rm := iRm d' z zE) (mc := zE - z) (ms := iSL zE - iSL z) rfl rfl (hw _ hini) (hw _ hlink) hdy ⟨by have := X.2.2.2.2.2.2.2.1; simp only [iRm]; omega, by have := X.2.2.2.2.2.2.2.2.1; simp only [iRm]; omega⟩
    have hr2 := va_runI (e := e) (below := below) (meth := meth) (locs := locs) (cells := z - k0) (slots := iSL z - iSL k0) (H := H) (b := jB n + a) (As := As.map (jup n)) (rest := st.map (jup n)) (n := np) (g := F0 mm pc ls ((As.reverse ++ Value.ref a :: st).map (jup n))) ⟨X.1, X.2.1, X.2.2.1, X.2.2.2.1, hw⟩ (hC l) ⟨cb, hy, hw _ hin⟩ ⟨i_blind, fun U hU hW => ⟨by simp [jup, jad_lt n ha], by rw [hU]; exact hP, by rw [hU]; exact hsize, va_K.moved hW.alike X.2.2.2.2.2.1, iNs_warm hW X.2.2.2.2.2.2.2.2.2.2.2.2⟩⟩ rfl (by simp [hnp]) (hl.1.trans rfl) (by simp [jup, jad_lt n ha]) (by simp only [Nat.mul_zero, Nat.zero_add]; exact jcats st hsz) hdg ⟨by omega, by omega⟩
    intro T hT X1
    obtain ⟨v, st₀, t, T', Lc, h0, X', hL, e1, e2, ⟨hv, ⟨f', hG, hP1⟩, hz1, hk1⟩, stp⟩ := hr2 T hT X1
    cases hv
    rw [h0] at hz1 hk1
    have hS1 : va_S (jA n) s.heap T'.heap (locs ++ Lc) := ⟨Nat.le_trans hS.1 (by rw [e1]; exact hz1), fun q h1 h2 => by rw [e1, hk1 q (Nat.lt_of_lt_of_le h1 hS.1) h2]; exact hS.2.1 q h1 h2, fun q hq => by
      rcases List.mem_append.mp hq with h | h
      · exact hS.2.2 q h
      · exact hL q h⟩
    have X2 := X'
    rw [show z - k0 + (zE - z) = zE - k0 by omega, show iSL z - iSL k0 + (iSL zE - iSL z) = iSL zE - iSL k0 by omega] at X2
    obtain ⟨t2, a1, b1⟩ := kk f' hG p l e R s mm args below meth c Q X hr ls T'.heap (locs ++ Lc) hl (by rw [e1]; exact hP1) hS1 T' rfl X2
    exact ⟨t2, stp t2 a1, b1⟩
theorem i_callN {d' idx a maxL np zE : Nat} {y : MethodName} {bytes : ByteArray} {As : List Value} {G : (Nat → Nat) → Prop} {st0 : List Value} (hC : iC n d' y bytes maxL (.ref a :: As) z f zE G) (hdg : decode cc pc = .ok (.invokespecial idx, 3)) (hd : d' < d) (hm : jMi y bytes maxL none np)
    (hlink : (own, idx, y) ∈ iNL) (hin : Cond.instanceMethod y ∈ jtbl) (hy : y.name = "<init>") (ha : a < 152) (hnp : As.length = np) (hsz : st.length ≤ 4) (hst : st0 = As.reverse ++ .ref a :: st) (hz : k0 ≤ z) (hzE : z ≤ zE) (hE : zE ≤ kE)
    (kk : ∀ f', G f' → iJ n d cc nL own k0 kE Ex (pc + 3) L st zE f') : iJ n d cc nL own k0 kE Ex pc L st0 z f :=
  fun p l e R s mm args below meth c Q X hr ls H locs hl hP hS => by
    subst hst
    refine i_size X.2.2.2.2.2.2.1 hz hP (fun hsize => ?_)
    obtain ⟨hini, hcode, hdy, hmx, -⟩ := hm
    have hw : ∀ w ∈ jtbl, w.before args s = true := X.2.2.2.2.1
    have m1 := iSL_le hz
    have m2 := iSL_le hzE
    have m3 := iSL_le hE
    have r1 := X.2.2.2.2.2.2.2.2.2.1
    have r2 := X.2.2.2.2.2.2.2.2.2.2.1
    have cb := va_cnB (args := args) (own := own) (host := "YesNoPowers") (index := idx) (maxL := maxL) (bytes := bytes) (ret := none) (R := R) np hw (jgoodw hcode) (ws' := jtbl) rfl (rm := iRm d' z zE) (mc := zE - z) (ms := iSL zE - iSL z) rfl rfl (X.2.2.2.2.2.2.2.2.2.2.2.2.1 _ hlink) (hw _ hini) hdy ⟨by have := X.2.2.2.2.2.2.2.1; simp only [iRm]; omega, by have := X.2.2.2.2.2.2.2.2.1; simp only [iRm]; omega⟩
    have hr2 := va_runIN (e := e) (below := below) (meth := meth) (locs := locs) (cells := z - k0) (slots := iSL z - iSL k0) (H := H) (b := jB n + a) (As := As.map (jup n)) (rest := st.map (jup n)) (n := np) (g := F0 mm pc ls ((As.reverse ++ Value.ref a :: st).map (jup n))) ⟨X.1, X.2.1, X.2.2.1, X.2.2.2.1, hw⟩ (hC l) ⟨cb, hy, hw _ hin⟩ ⟨i_blind, fun U hU hW => ⟨by simp [jup, jad_lt n ha], by rw [hU]; exact hP, by rw [hU]; exact hsize, va_K.moved hW.alike X.2.2.2.2.2.1, iNs_warm hW X.2.2.2.2.2.2.2.2.2.2.2.2⟩⟩ rfl (by simp [hnp]) (hl.1.trans rfl) (by simp [jup, jad_lt n ha]) (by simp only [Nat.mul_zero, Nat.zero_add]; exact jcats st hsz) hdg ⟨by omega, by omega⟩
    intro T hT X1
    obtain ⟨v, st₀, t, T', Lc, h0, X', hL, e1, e2, ⟨hv, ⟨f', hG, hP1⟩, hz1, hk1⟩, stp⟩ := hr2 T hT X1
    cases hv
    rw [h0] at hz1 hk1
    have hS1 : va_S (jA n) s.heap T'.heap (locs ++ Lc) := ⟨Nat.le_trans hS.1 (by rw [e1]; exact hz1), fun q h1 h2 => by rw [e1, hk1 q (Nat.lt_of_lt_of_le h1 hS.1) h2]; exact hS.2.1 q h1 h2, fun q hq => by
      rcases List.mem_append.mp hq with h | h
      · exact hS.2.2 q h
      · exact hL q h⟩
    have X2 := X'
    rw [show z - k0 + (zE - z) = zE - k0 by omega, show iSL z - iSL k0 + (iSL zE - iSL z) = iSL zE - iSL k0 by omega] at X2
    obtain ⟨t2, a1, b1⟩ := kk f' hG p l e R s mm args below meth c Q X hr ls T'.heap (locs ++ Lc) hl (by rw [e1]; exact hP1) hS1 T' rfl X2
    exact ⟨t2, stp t2 a1, b1⟩
end
/-- a constructor's exit -/
def iEx (cc : ByteArray) (zE : Nat) (G : (Nat → Nat) → Prop) : Nat → List (Option Value) → List Value → Nat → (Nat → Nat) → Prop := fun pc _ st z f => decode cc pc = .ok (.return_, 1) ∧ st = [] ∧ z = zE ∧ G f
theorem iC_of {n : jN} {d : Nat} {y : MethodName} {cc : ByteArray} {nL np : Nat} {args : List Value} {z zE : Nat} {f : Nat → Nat} {G : (Nat → Nat) → Prop} {L : List (Option Value)} (hm : jMi y cc nL none np) (hy : y.name = "<init>") (hn : (jloc args).length ≤ nL) (hL : L = jloc args ++ List.replicate (nL - (jloc args).length) none)
    (k : iJ n d cc nL y.cls z zE (iEx cc zE G) 0 L [] z f) : iC n d y cc nL args z f zE G := by
  intro l
  refine jMetOfW (cc := cc) (maxL := nL) (ret := none) hm.2.2.2.2 rfl ?_
  intro p e s m av below meth c s₁ B hml hv
  obtain ⟨rfl, hP, hsz, hK, hNs⟩ := hv
  have hts := atoms_spec (ws := jwy y cc nL none) B.pre
  have hown : s.vm.findClass y.cls = some m.cls := findClass_of_methodNamed B.named
  have hmn : meth.name = "<init>" := by rw [← hy]; exact (name_of_methodNamed B.named B.method).1
  have hr := B.returns
  have hlocks := B.notSynchronized
  have hx := B.exec
  have hb := B.bytes
  rw [lg_entry_eq]
  have k1 := k p l e (headSpec (jwy y cc nL none) (iRm d z zE)).room s m _ below meth c (MQ below (iQ n zE G) (args.map (jup n)).toArray s (zE - z) (iSL zE - iSL z) (jA n)) ⟨B.exec, B.bytes, hml, hown, fun w hw => hts w (List.mem_cons_of_mem _ hw), hK, hsz, Nat.le_refl _, Nat.le_refl _, Nat.le_refl _, Nat.le_refl _, Or.inr hmn, hNs⟩ ?_ _ s.heap [] (jentry hn hL) hP va_S.rf
  · rw [Nat.sub_self, Nat.sub_self] at k1
    exact k1
  · rintro pcR LR stR zR fR lsR H' locs' ⟨hdg, rfl, rfl, hG⟩ hl' hP' hS'
    exact W.vret hx hb hr (fun t ht hW => ⟨rfl, ⟨fR, hG, by rw [ht]; exact hP'⟩, hS'.F ht⟩) hS'.2.2 hdg

def jloc (vs : List Value) : List (Option Value) := vs.flatMap fun v => if v.category = 2 then [some v, none] else [some v]
theorem jloc_at (n : jN) : ∀ (vs : List Value) (i : Nat) (v : Value), (jloc vs)[i]? = some (some v) → (lg_sl (vs.map (jup n)))[i]? = some (.val (jup n v))
  | [], i, v, h => by simp [jloc] at h
  | w :: vs, i, v, h => by
    have ih := jloc_at n vs
    simp only [jloc, lg_sl, List.map_cons, List.flatMap_cons, jcat] at h ⊢
    by_cases hc : w.category = 2
    · simp only [hc, if_true] at h ⊢
      match i, h with
      | 0, h => simp at h; simp [h]
      | 1, h => simp at h
      | i + 2, h =>
        have h2 : (jloc vs)[i]? = some (some v) := by simpa [jloc] using h
        have := ih i v h2
        simpa [lg_sl] using this
    · simp only [hc, if_false] at h ⊢
      match i, h with
      | 0, h => simp at h; simp [h]
      | i + 1, h =>
        have h2 : (jloc vs)[i]? = some (some v) := by simpa [jloc] using h
        have := ih i v h2
        simpa [lg_sl] using this
theorem jloc_len (n : jN) (vs : List Value) : (lg_sl (vs.map (jup n))).length = (jloc vs).length := by
  induction vs with
  | nil => rfl
  | cons w vs ih =>
    simp only [jloc, lg_sl, List.map_cons, List.flatMap_cons, jcat, List.length_append] at ih ⊢
    rw [ih]
    by_cases hc : w.category = 2 <;> simp [hc]
theorem jentry {n : jN} {vs : List Value} {nL : Nat} {L : List (Option Value)} (hn : (jloc vs).length ≤ nL) (hL : L = jloc vs ++ List.replicate (nL - (jloc vs).length) none) :
    jlh n ((lg_sl (vs.map (jup n)) ++ List.replicate (nL - (lg_sl (vs.map (jup n))).length) Slot.unset).toArray) nL L := by
  have h0 := lv_entry (vs.map (jup n)) (n := nL) (by rw [jloc_len]; exact hn)
  refine ⟨h0.1, h0.2.1, fun i v hv => ?_⟩
  subst hL
  rcases Nat.lt_or_ge i (jloc vs).length with hi | hi
  · rw [List.getElem?_append_left hi] at hv
    have := jloc_at n vs i v hv
    rw [List.getElem?_toArray, List.getElem?_append_left (by rw [jloc_len]; exact hi)]
    exact this
  · rw [List.getElem?_append_right hi, List.getElem?_replicate] at hv
    split at hv
    · cases hv
    · cases hv
/-- the answer suits what the method returns -/
def jrok (ret : Option FieldType) (r : Option Value) : Prop := match ret, r with
  | none, none => True
  | some .int, some (.int _) => True
  | some .boolean, some (.int v) => v = 0 ∨ v = 1
  | some .long, some (.long _) => True
  | some (.object _), some (.ref _) => True
  | _, _ => False
theorem jMetOfW {l : Launch} {y : MethodName} {ws ws' : List Cond} {rm : Room} {Pc : Array Value → State → Prop} {Qc : Array Value → State → Outcome → State → Prop} {mc ms : Nat} {free : Addr → Prop} {cc : ByteArray} {maxL : Nat} {ret : Option FieldType}
    (hy : plainFor y = true) (hw : ws = Cond.code y cc maxL ret :: ws')
    (body : ∀ p e s m args below meth c s₁, BodyLoose p l y (headSpec ws rm) cc maxL ret e s m args below meth c s₁ → c.maxLocals = maxL → Pc args s →
      W p l e (headSpec ws rm).room s m args below meth c s.heap [] 0 0 (MQ below Qc args s mc ms free) (entryFrame m args maxL)) : Met l y ws rm Pc Qc mc ms free := by
  refine MetFree.of_bodySF (code := cc) (maxLocals := maxL) (ret := ret) hy ?_ ?_
  · intro args s m h hn
    obtain ⟨meth, c, h1, h2, h3, h4, h5, h6, -, -⟩ := Cond.code_spec hn (atoms_spec (ws := ws) h _ (by rw [hw]; exact List.mem_cons_self))
    exact ⟨meth, c, h1, h2, h3, h4, h5, h6⟩
  · intro p e s m args below meth c s₁ B hml hP _
    have hh0 : s₁.heap = s.heap := by rw [B.state]; rfl
    obtain ⟨t, a1, o, b1, b2, b3⟩ := body p e s m args below meth c s₁ B hml hP s₁ hh0 (Stand.of_body B)
    exact ⟨t, o, a1, b1, b2, ⟨b3.1, b3.2⟩⟩
theorem jC_of {n : jN} {d : Nat} {y : MethodName} {cc : ByteArray} {nL np : Nat} {ret : Option FieldType} {args : List Value} {h : jH} {r : Option Value} {h' : jH} {L : List (Option Value)} (hm : jMi y cc nL ret np) (hn : (jloc args).length ≤ nL) (hL : L = jloc args ++ List.replicate (nL - (jloc args).length) none)
    (hro : jrok ret r) (k : jJ n d cc nL y.cls 0 L [] h (r, h')) : jC n d y cc nL ret args h r h' := by
  intro l
  refine jMetOfW (cc := cc) (maxL := nL) (ret := ret) hm.2.2.2.2 rfl ?_
  intro p e s m av below meth c s₁ B hml hv
  obtain ⟨rfl, hP, hK, hst⟩ := hv
  have hts := atoms_spec (ws := jwy y cc nL ret) B.pre
  have hown : s.vm.findClass y.cls = some m.cls := findClass_of_methodNamed B.named
  have hr := B.returns
  have hlocks := B.notSynchronized
  have hx := B.exec
  have hb := B.bytes
  rw [lg_entry_eq]
  refine k p l e (headSpec (jwy y cc nL ret) (jRm d)).room s m _ below meth c 0 0 _ ⟨B.exec, B.bytes, hml, hown, fun w hw => hts w (List.mem_cons_of_mem _ hw), hK, hst, Nat.le_refl _, Nat.le_refl _, Nat.le_refl _, Nat.le_refl _⟩ ?_ _ s.heap [] (jentry hn hL) hP va_S.rf
  intro pcR lsR H' locs' hdg hP' hS'
  have hq : ∀ (t : State), t.heap = H' → s.WarmedH t.vm → jQ n r h' (args.map (jup n)).toArray s (.returned (r.map (jup n))) t := fun t ht hW => ⟨rfl, by rw [ht]; exact hP', hS'.F ht⟩
  match ret, r, hro, hr, hdg, hq with
  | none, none, _, hr, hdg, hq => exact W.vret hx hb hr hq hS'.2.2 hdg
  | some .int, some (.int v), _, hr, hdg, hq => exact W.iret hx hb hr hq hS'.2.2 hdg
  | some .boolean, some (.int v), hro, hr, hdg, hq =>
    rcases hro with rfl | rfl
    · exact W.zret hx hb hr rfl hq hS'.2.2 hdg
    · exact W.zret hx hb hr rfl hq hS'.2.2 hdg
  | some .long, some (.long v), _, hr, hdg, hq => exact W.lret hx hb hr hq hS'.2.2 hdg
  | some (.object C), some (.ref a), _, hr, hdg, hq => exact W.aret hx hb hr (Or.inl ⟨C, rfl⟩) (Or.inr ⟨_, rfl⟩) hq hS'.2.2 hdg

theorem s_tbl {args : Array Value} {s : State} (h : ∀ w ∈ lw_tbl, w.before args s = true) : ∀ w ∈ jtbl, w.before args s = true := fun w hw => h w (List.mem_filter.mp hw).1
theorem s_prim {args : Array Value} {s : State} {ty : FieldType} (h : (Cond.arrayClass ty).before args s = true) : ∃ cA, ArrOfT s cA ty ∧ s.vm.findClass ("[" ++ ty.toString) = some cA := by
  obtain ⟨c, k, comp, h1, h2, h3⟩ := Cond.arrayClass_spec h
  exact ⟨c, fun n z => ⟨fun k h => (by cases h), k, h2, comp, h3⟩, h1⟩
theorem s_over {args : Array Value} {s : State} {C : String} (h : (Cond.arrayOver (.object C)).before args s = true) : ∃ cA, ArrOfT s cA (.object C) ∧ va_RA s cA (.object C) := by
  obtain ⟨comp, cA, kA, h1, h2, h3, h4, h5⟩ := Cond.arrayOver_spec h
  exact ⟨cA, fun n z => ⟨fun k h => (by cases h), kA, h3, comp, h4⟩, kA, comp, h3, h4, h1, h5⟩
theorem s_world {args : Array Value} {s : State} (h : ∀ w ∈ lw_tbl, w.before args s = true) : ∃ (D : va_G) (cA : Nat → ClassId), ∀ (B b t L : Nat) (xs : Nat → Int32), va_K D jcl (jtys (D, cA, B, b, t, L, xs)) s := by
  have hts := s_tbl h
  obtain ⟨c0, i0, k0⟩ := u_known (C := jR_Chain) (T := jT_Chain) (N := 11) (n := 11) hts jin_Chain (hts _ (jmem_1 167 (by decide +kernel) rfl))
  obtain ⟨c1, i1, k1⟩ := u_known (C := jR_Link) (T := jT_Link) (N := 3) (n := 3) hts jin_Link (hts _ (jmem_1 178 (by decide +kernel) rfl))
  obtain ⟨c2, i2, k2⟩ := u_known (C := jR_Log) (T := jT_Log) (N := 4) (n := 4) hts jin_Log (hts _ (jmem_1 28 (by decide +kernel) rfl))
  obtain ⟨c3, i3, k3⟩ := u_known (C := jR_Powers) (T := jT_Powers) (N := 4) (n := 4) hts jin_Powers (hts _ (jmem_1 70 (by decide +kernel) rfl))
  obtain ⟨c4, i4, k4⟩ := u_known (C := jR_Rings) (T := jT_Rings) (N := 11) (n := 11) hts jin_Rings (hts _ (jmem_1 93 (by decide +kernel) rfl))
  obtain ⟨c5, i5, k5⟩ := u_known (C := jR_Sheet) (T := jT_Sheet) (N := 3) (n := 3) hts jin_Sheet (hts _ (jmem_1 238 (by decide +kernel) rfl))
  obtain ⟨c6, i6, k6⟩ := u_known (C := jR_Spaces) (T := jT_Spaces) (N := 5) (n := 5) hts jin_Spaces (hts _ (jmem_1 143 (by decide +kernel) rfl))
  obtain ⟨c7, i7, k7⟩ := u_known (C := jR_Table) (T := jT_Table) (N := 2) (n := 2) hts jin_Table (hts _ (jmem_1 34 (by decide +kernel) rfl))
  obtain ⟨c8, i8, k8⟩ := u_known (C := jR_Main) (T := jT_Main) (N := 8) (n := 8) hts jin_Main (hts _ (jmem_1 16 (by decide +kernel) rfl))
  obtain ⟨c9, i9, k9⟩ := u_known (C := jR_Model) (T := jT_Model) (N := 24) (n := 24) hts jin_Model (hts _ (jmem_4 88 (by decide +kernel) rfl))
  obtain ⟨aI, pI, qI⟩ := s_prim (hts _ ja_int)
  obtain ⟨aZ, pZ, qZ⟩ := s_prim (hts _ ja_bool)
  obtain ⟨aT, pT, qT⟩ := s_over (h (.arrayOver (.object "YesNoPowers$Table")) (List.mem_append_right _ (List.mem_append_left _ (List.mem_of_getElem? (i := 24) (by decide +kernel)))))
  obtain ⟨aS, pS, qS⟩ := s_over (h (.arrayOver (.object "YesNoPowers$Sheet")) (List.mem_append_right _ (List.mem_append_left _ (List.mem_of_getElem? (i := 26) (by decide +kernel)))))
  obtain ⟨aL, pL, qL⟩ := s_over (h (.arrayOver (.object "YesNoPowers$Link")) (List.mem_append_right _ (List.mem_append_left _ (List.mem_of_getElem? (i := 175) (by decide +kernel)))))
  refine ⟨(fun k => match k with | 0 => c0 | 1 => c1 | 2 => c2 | 3 => c3 | 4 => c4 | 5 => c5 | 6 => c6 | 7 => c7 | 8 => c8 | _ => c9, fun k => match k with | 0 => i0 | 1 => i1 | 2 => i2 | 3 => i3 | 4 => i4 | 5 => i5 | 6 => i6 | 7 => i7 | 8 => i8 | _ => i9), fun k => match k with | 20 => aI | 21 => aZ | 22 => aT | 23 => aS | _ => aL, fun B b t L xs => ⟨fun k q hq => ?_, fun k q hq => ?_⟩⟩
  · match k, hq with
    | 0, hq => cases hq; exact k0
    | 1, hq => cases hq; exact k1
    | 2, hq => cases hq; exact k2
    | 3, hq => cases hq; exact k3
    | 4, hq => cases hq; exact k4
    | 5, hq => cases hq; exact k5
    | 6, hq => cases hq; exact k6
    | 7, hq => cases hq; exact k7
    | 8, hq => cases hq; exact k8
    | 9, hq => cases hq; exact k9
    | k + 10, hq => simp [jcl] at hq
  · match k, hq with
    | 0, hq => cases hq; exact ⟨pI, qI⟩
    | 1, hq => cases hq; exact ⟨pZ, qZ⟩
    | 2, hq => cases hq; exact ⟨pT, qT⟩
    | 3, hq => cases hq; exact ⟨pS, qS⟩
    | 4, hq => cases hq; exact ⟨pL, qL⟩
    | k + 5, hq => simp [jtys] at hq

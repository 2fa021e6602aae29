theorem s_links {args : Array Value} {s : State} (h : ∀ w ∈ lw_tbl, w.before args s = true) : iNs s := by
  refine ⟨fun q hq => ?_, fun C hC => ?_⟩
  · simp only [iNL, List.mem_cons, List.not_mem_nil, or_false] at hq
    rcases hq with rfl | rfl | rfl | rfl | rfl | rfl | rfl | rfl | rfl | rfl | rfl | rfl | rfl
    · exact va_Nw.of rfl (h _ (List.mem_append_right _ (List.mem_append_left _ (List.mem_of_getElem? (i := 35) (by decide +kernel)))))
    · exact va_Nw.of rfl (h _ (List.mem_append_right _ (List.mem_append_left _ (List.mem_of_getElem? (i := 71) (by decide +kernel)))))
    · exact va_Nw.of rfl (h _ (List.mem_append_right _ (List.mem_append_left _ (List.mem_of_getElem? (i := 76) (by decide +kernel)))))
    · exact va_Nw.of rfl (h _ (List.mem_append_right _ (List.mem_append_left _ (List.mem_of_getElem? (i := 94) (by decide +kernel)))))
    · exact va_Nw.of rfl (h _ (List.mem_append_right _ (List.mem_append_left _ (List.mem_of_getElem? (i := 99) (by decide +kernel)))))
    · exact va_Nw.of rfl (h _ (List.mem_append_right _ (List.mem_append_left _ (List.mem_of_getElem? (i := 144) (by decide +kernel)))))
    · exact va_Nw.of rfl (h _ (List.mem_append_right _ (List.mem_append_left _ (List.mem_of_getElem? (i := 149) (by decide +kernel)))))
    · exact va_Nw.of rfl (h _ (List.mem_append_right _ (List.mem_append_left _ (List.mem_of_getElem? (i := 173) (by decide +kernel)))))
    · exact va_Nw.of rfl (h _ (List.mem_append_right _ (List.mem_append_left _ (List.mem_of_getElem? (i := 177) (by decide +kernel)))))
    · exact va_Nw.of rfl (h _ (List.mem_append_right _ (List.mem_append_left _ (List.mem_of_getElem? (i := 179) (by decide +kernel)))))
    · exact va_Nw.of rfl (h _ (List.mem_append_right _ (List.mem_append_left _ (List.mem_of_getElem? (i := 184) (by decide +kernel)))))
    · exact va_Nw.of rfl (h _ (List.mem_append_right _ (List.mem_append_left _ (List.mem_of_getElem? (i := 237) (by decide +kernel)))))
    · exact va_Nw.of rfl (h _ (List.mem_append_right _ (List.mem_append_left _ (List.mem_of_getElem? (i := 239) (by decide +kernel)))))
  · simp only [iAL, List.mem_cons, List.not_mem_nil, or_false] at hC
    rcases hC with rfl | rfl | rfl
    · exact va_AO.of (h _ (List.mem_append_right _ (List.mem_append_left _ (List.mem_of_getElem? (i := 24) (by decide +kernel)))))
    · exact va_AO.of (h _ (List.mem_append_right _ (List.mem_append_left _ (List.mem_of_getElem? (i := 26) (by decide +kernel)))))
    · exact va_AO.of (h _ (List.mem_append_right _ (List.mem_append_left _ (List.mem_of_getElem? (i := 175) (by decide +kernel)))))
theorem s_row {b : Addr} {s : State} (h : ∀ w ∈ lw_tbl, w.before #[Value.ref b] s = true) (hgv : (Jvm.Cond.and given_1 narrow_1).before #[Value.ref b] s = true) {A : Nat → Prop} (hA : ∀ a : Nat, a < s.heap.size → ¬ A a) : ∃ t : Nat, va_Z "YesNoPowers$Roots" "ROW_STARTS" "[I" (.ref t) A s s.heap ∧ va_T .int t 5 jrow A s s.heap := by
  have hs := flat_of_before _ hgv
  obtain ⟨t, ht, hT⟩ := va_Tof (tm := .static "YesNoPowers$Roots" "ROW_STARTS" "[I") (ty := .int) (N := 5) (f := jrow) (A := A) (by decide) (hs (.arrayOf (.static "YesNoPowers$Roots" "ROW_STARTS" "[I") .int) (by decide +kernel)) (va_eqt (z := 5) (hs (.eq (.length (.static "YesNoPowers$Roots" "ROW_STARTS" "[I")) (.int 5)) (by decide +kernel))) (fun j hj => by
    rcases (show j = 0 ∨ j = 1 ∨ j = 2 ∨ j = 3 ∨ j = 4 by omega) with e | e | e | e | e <;> subst e
    · exact va_eqt (z := 0) (hs (.eq (.elem (.static "YesNoPowers$Roots" "ROW_STARTS" "[I") (.int 0)) (.int 0)) (by decide +kernel))
    · exact va_eqt (z := 1) (hs (.eq (.elem (.static "YesNoPowers$Roots" "ROW_STARTS" "[I") (.int 1)) (.int 1)) (by decide +kernel))
    · exact va_eqt (z := 5) (hs (.eq (.elem (.static "YesNoPowers$Roots" "ROW_STARTS" "[I") (.int 2)) (.int 5)) (by decide +kernel))
    · exact va_eqt (z := 73) (hs (.eq (.elem (.static "YesNoPowers$Roots" "ROW_STARTS" "[I") (.int 3)) (.int 73)) (by decide +kernel))
    · exact va_eqt (z := 4369) (hs (.eq (.elem (.static "YesNoPowers$Roots" "ROW_STARTS" "[I") (.int 4)) (.int 4369)) (by decide +kernel))) hA
  exact ⟨t, va_Zof (h _ (List.mem_append_right _ (List.mem_append_right _ (List.mem_append_right _ (List.mem_append_left _ (List.mem_of_getElem? (i := 188) (by decide +kernel))))))) (h _ (List.mem_append_right _ (List.mem_append_left _ (List.mem_of_getElem? (i := 13) (by decide +kernel))))) ht hA, hT⟩
def lwEx : Nat → List (Option Value) → List Value → Nat → (Nat → Nat) → Prop := fun pc L st z f => pc = 18 ∧ L = [some (.ref 152), some (.ref 0), some (.ref 135), some (.int (nI 0))] ∧ st = [] ∧ z = 152 ∧ ∀ a, a < 152 → ful f a
theorem law_ini {n : jN} : iJ n 22 code 4 "YesNoPowersLaw" 0 152 lwEx 0 [some (.ref 152), none, none, none] [] 0 (fun _ => 0) := by
  have h0 : ifr (fun _ => 0) 0 := fun _ _ => rfl
  refine i_new d_law_0 jn_Law_7 rfl rfl (by decide) (by decide) ?_
  refine i_dup d_law_3 rfl ?_
  refine i_call (As := []) (st := [.ref 0]) (ic_Main h0) d_law_4 (by decide) jm_Main_init jk_Law_9 ji_Main_init rfl (by decide) rfl (Nat.le_of_ble_eq_true rfl) rfl (by decide) (by decide) (by decide) (fun f1 g1 => ?_)
  refine i_astore_n d_law_7 (by decide) rfl rfl ?_
  refine i_new d_law_8 jn_Law_10 rfl (g1.1 _ (Nat.le_refl _)) (by decide) (by decide) ?_
  refine i_dup d_law_11 rfl ?_
  refine i_call (As := []) (st := [.ref 135]) (ic_Model g1.1) d_law_12 (by decide) jm_Model_init jk_Law_12 ji_Model_init rfl (by decide) rfl (Nat.le_of_ble_eq_true rfl) rfl (by decide) (by decide) (by decide) (fun f2 g2 => ?_)
  refine i_astore_n d_law_15 (by decide) rfl rfl ?_
  refine i_iconst (v := nI 0) d_law_16 rfl ?_
  refine i_istore_n d_law_17 (by decide) rfl rfl ?_
  refine i_exit ⟨rfl, rfl, rfl, rfl, fun a ha => ?_⟩
  by_cases q : a < 135
  · exact ful_cg (g2.2.1 a q) (g1.2.2 a (Nat.zero_le _) q)
  · exact g2.2.2 a (by omega) ha

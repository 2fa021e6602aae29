/-- the ints behind the constructors -/
def jh0 : jH := fun a k => if k = 0 ∧ (a = 127 ∨ a = 129 ∨ a = 131 ∨ a = 133) then -1 else if a = 149 ∧ k < 4 then -1 else 0
/-- a cell while it is built: its entries below f a stand -/
def iE (n : jN) (f : Nat → Nat) (a : Nat) : va_E :=
  if (jsh a).1 < 20 then .inr ((jsh a).1, (List.range (jsh a).2).map (fun k => if jir (jsh a).1 k then (if k < f a then .ref (jB n + jrf a k) else .null) else .int (if k < f a then jh0 a k else 0)))
  else .inl (n.2.1 (jsh a).1, (jsh a).2, if (jsh a).1 < 22 then .inl (fun k => if k < f a then jh0 a k else 0) else .inr (.inr (.inr (.inr (fun k => if k < f a then some (jB n + jrf a k) else none)))))
def iws (n : jN) (z : Nat) (f : Nat → Nat) : va_W := (List.range z).map (fun a => (jB n + a, iE n f a))
def iSL (z : Nat) : Nat := ((List.range z).map (fun a => (jsh a).2)).sum
def iup (f : Nat → Nat) (a v : Nat) : Nat → Nat := fun b => if b = a then v else f b
/-- nothing stands from z on -/
def ifr (f : Nat → Nat) (z : Nat) : Prop := ∀ a, z ≤ a → f a = 0
theorem iSL_s (z : Nat) : iSL (z + 1) = iSL z + (jsh z).2 := by simp [iSL, List.range_succ]
theorem iSL_le {a b : Nat} (h : a ≤ b) : iSL a ≤ iSL b := by
  induction b with
  | zero => rw [show a = 0 by omega]; exact Nat.le_refl _
  | succ b ih =>
    rcases Nat.lt_or_ge b a with q | q
    · rw [show a = b + 1 by omega]; exact Nat.le_refl _
    · rw [iSL_s]
      have := ih q
      omega
theorem iws_at {n : jN} {z : Nat} {f : Nat → Nat} {a : Nat} (ha : a < z) : (iws n z f)[a]? = some (jB n + a, iE n f a) := by
  simp [iws, ha]
theorem iws_len (n : jN) (z : Nat) (f : Nat → Nat) : (iws n z f).length = z := by simp [iws]
theorem iws_s (n : jN) (z : Nat) (f : Nat → Nat) : iws n (z + 1) f = iws n z f ++ [(jB n + z, iE n f z)] := by simp [iws, List.range_succ]
theorem iup_eq (f : Nat → Nat) (a v : Nat) : iup f a v a = v := if_pos rfl
theorem iup_ne {f : Nat → Nat} {a v b : Nat} (h : b ≠ a) : iup f a v b = f b := if_neg h
theorem ifr_up {f : Nat → Nat} {a v z : Nat} (h : ifr f z) (ha : a < z) : ifr (iup f a v) z := fun b hb => by rw [iup_ne (by omega)]; exact h b hb
theorem ifr_le {f : Nat → Nat} {z z' : Nat} (h : ifr f z) (ha : z ≤ z') : ifr f z' := fun b hb => h b (by omega)
theorem iE_cg {n : jN} {f g : Nat → Nat} {a : Nat} (h : f a = g a) : iE n f a = iE n g a := by
  unfold iE
  rw [h]
theorem iws_set {n : jN} {z a v : Nat} {f : Nat → Nat} {x : Nat × va_E} (ha : a < z) (hx : x = (jB n + a, iE n (iup f a v) a)) : (iws n z f).set a x = iws n z (iup f a v) := by
  subst hx
  apply List.ext_getElem?
  intro i
  rw [List.getElem?_set]
  rcases Nat.lt_or_ge i z with hi | hi
  · rw [iws_at hi]
    by_cases e : a = i
    · subst e
      rw [if_pos rfl, if_pos (by rw [iws_len]; exact hi)]
      exact (iws_at hi).symm
    · rw [if_neg e, iws_at hi]
      have e2 : iE n f i = iE n (iup f a v) i := iE_cg (iup_ne (Ne.symm e)).symm
      rw [e2]
  · rw [if_neg (by omega), List.getElem?_eq_none (by rw [iws_len]; omega), List.getElem?_eq_none (by rw [iws_len]; omega)]
theorem iD (n : jN) (z : Nat) (f : Nat → Nat) : va_D (jA n) (iws n z f) := by
  refine ⟨fun i j p q hp hq e => ?_, fun k q hq => ?_⟩
  · have hi : i < z := by have := (List.getElem?_eq_some_iff.mp hp).1; rwa [iws_len] at this
    have hj : j < z := by have := (List.getElem?_eq_some_iff.mp hq).1; rwa [iws_len] at this
    rw [iws_at hi] at hp
    rw [iws_at hj] at hq
    cases hp
    cases hq
    simp only at e
    omega
  · have hk : k < z := by have := (List.getElem?_eq_some_iff.mp hq).1; rwa [iws_len] at this
    rw [iws_at hk] at hq
    cases hq
    simp [jA]
/-- links to constructors of nested classes -/
def iNL : List (String × Nat × MethodName) := [("YesNoPowers$Log", 19, ⟨"YesNoPowers$Table", "<init>", "()V"⟩), ("YesNoPowers", 30, ⟨"YesNoPowers$Powers", "<init>", "()V"⟩), ("YesNoPowers$Powers", 9, ⟨"YesNoPowers$Table", "<init>", "()V"⟩), ("YesNoPowers", 37, ⟨"YesNoPowers$Rings", "<init>", "()V"⟩), ("YesNoPowers$Rings", 36, ⟨"YesNoPowers$Table", "<init>", "()V"⟩), ("YesNoPowers", 44, ⟨"YesNoPowers$Spaces", "<init>", "()V"⟩), ("YesNoPowers$Spaces", 9, ⟨"YesNoPowers$Table", "<init>", "()V"⟩), ("YesNoPowers$Chain", 18, ⟨"YesNoPowers$Table", "<init>", "()V"⟩), ("YesNoPowers$Chain", 37, ⟨"YesNoPowers$Powers", "<init>", "()V"⟩), ("YesNoPowers$Chain", 42, ⟨"YesNoPowers$Link", "<init>", "()V"⟩), ("YesNoPowers$Link", 9, ⟨"YesNoPowers$Table", "<init>", "()V"⟩), ("YesNoPowers", 56, ⟨"YesNoPowers$Table", "<init>", "()V"⟩), ("YesNoPowers", 61, ⟨"YesNoPowers$Sheet", "<init>", "()V"⟩)]
def iAL : List String := ["YesNoPowers$Table", "YesNoPowers$Sheet", "YesNoPowers$Link"]
def iNs (U : State) : Prop := (∀ q ∈ iNL, va_Nw (.methodLinkNest q.1 q.2.1 q.2.2 "YesNoPowers") U) ∧ ∀ C ∈ iAL, va_AO C U
theorem iNs_warm {s U : State} (hW : s.WarmedH U.vm) (h : iNs s) : iNs U := ⟨fun q hq => va_Nw.warmM hW (h.1 q hq), fun C hC => va_AO.moved hW.alike (h.2 C hC)⟩
def iX (n : jN) (d : Nat) (cc : ByteArray) (nL : Nat) (own : String) (k0 kE : Nat) (p : Program) (R : Room) (s : State) (m : MethodId) (args : Array Value) (meth : Method) (c : Code) : Prop :=
  p.tables.exec = Jvm.exec ∧ c.code = cc ∧ c.maxLocals = nL ∧ s.vm.findClass own = some m.cls ∧ (∀ w ∈ jtbl, w.before args s = true) ∧ va_K n.1 jcl (jtys n) s ∧ s.heap.size = jB n + k0 ∧ d + 1 ≤ R.frames ∧ 64 * (d + 1) ≤ R.locals ∧ kE - k0 ≤ R.cells ∧ iSL kE - iSL k0 ≤ R.slots ∧ (own = "YesNoPowersLaw" ∨ meth.name = "<init>") ∧ iNs s
/-- from pc with locals L, stack st and z cells the method comes to an exit -/
def iJ (n : jN) (d : Nat) (cc : ByteArray) (nL : Nat) (own : String) (k0 kE : Nat) (Ex : Nat → List (Option Value) → List Value → Nat → (Nat → Nat) → Prop) (pc : Nat) (L : List (Option Value)) (st : List Value) (z : Nat) (f : Nat → Nat) : Prop :=
  ∀ (p : Program) (l : Launch) (e : Env) (R : Room) (s : State) (mm : MethodId) (args : Array Value) (below : List Frame) (meth : Method) (c : Code) (Q : State → Prop),
    iX n d cc nL own k0 kE p R s mm args meth c →
    (∀ (pcR : Nat) (LR : List (Option Value)) (stR : List Value) (zR : Nat) (fR : Nat → Nat) (lsR : Array Slot) (H' : Heap) (locs' : List Loc), Ex pcR LR stR zR fR → jlh n lsR nL LR → va_P n.1 jcl (iws n zR fR) H' → va_S (jA n) s.heap H' locs' → W p l e R s mm args below meth c H' locs' (zR - k0) (iSL zR - iSL k0) Q (F0 mm pcR lsR (stR.map (jup n)))) →
    ∀ (ls : Array Slot) (H : Heap) (locs : List Loc), jlh n ls nL L → va_P n.1 jcl (iws n z f) H → va_S (jA n) s.heap H locs → W p l e R s mm args below meth c H locs (z - k0) (iSL z - iSL k0) Q (F0 mm pc ls (st.map (jup n)))
/-- the heap's size is told by the count -/
theorem i_size {n : jN} {k0 z : Nat} {f : Nat → Nat} {p : Program} {l : Launch} {e : Env} {R : Room} {s : State} {m : MethodId} {args : Array Value} {below : List Frame} {meth : Method} {c : Code} {Q : State → Prop} {H : Heap} {locs : List Loc} {slots : Nat} {g : JFrame} (hU : s.heap.size = jB n + k0) (hz : k0 ≤ z) (hP : va_P n.1 jcl (iws n z f) H) (kk : H.size = jB n + z → W p l e R s m args below meth c H locs (z - k0) slots Q g) : W p l e R s m args below meth c H locs (z - k0) slots Q g := by
  intro T hT X
  have h1 := X.same.2.2.1
  have h2 := X.same.2.1
  have e1 : (T.setVm s.vm).heap = T.heap := rfl
  rw [e1, hT] at h1 h2
  refine kk ?_ T hT X
  rcases Nat.eq_zero_or_pos z with q | q
  · omega
  · have h3 : jB n + (z - 1) < H.size := (hP _ _ (iws_at (show z - 1 < z by omega))).lt
    omega
section
variable {n : jN} {d : Nat} {cc : ByteArray} {nL : Nat} {own : String} {k0 kE : Nat} {Ex : Nat → List (Option Value) → List Value → Nat → (Nat → Nat) → Prop} {pc : Nat} {L L' : List (Option Value)} {st : List Value} {z : Nat} {f : Nat → Nat}
theorem i_exit (h : Ex pc L st z f) : iJ n d cc nL own k0 kE Ex pc L st z f :=
  fun p l e R s mm args below meth c Q X hr ls H locs hl hP hS => hr pc L st z f ls H locs h hl hP hS
theorem i_iconst {v : Int32} {i : Int} (hdg : decode cc pc = .ok (.iconst i, 1)) (hv : Int32.ofInt i = v) (k : iJ n d cc nL own k0 kE Ex (pc + 1) L (.int v :: st) z f) : iJ n d cc nL own k0 kE Ex pc L st z f :=
  fun p l e R s mm args below meth c Q X hr ls H locs hl hP hS => lv_iconst X.1 X.2.1 hdg hv (k p l e R s mm args below meth c Q X hr ls H locs hl hP hS)
theorem i_bipush {v : Int32} {i : Int} (hdg : decode cc pc = .ok (.bipush i, 2)) (hv : (Int8.ofInt i).toInt32 = v) (k : iJ n d cc nL own k0 kE Ex (pc + 2) L (.int v :: st) z f) : iJ n d cc nL own k0 kE Ex pc L st z f :=
  fun p l e R s mm args below meth c Q X hr ls H locs hl hP hS => lv_bipush X.1 X.2.1 hdg hv (k p l e R s mm args below meth c Q X hr ls H locs hl hP hS)
theorem i_sipush {v : Int32} {i : Int} (hdg : decode cc pc = .ok (.sipush i, 3)) (hv : (Int16.ofInt i).toInt32 = v) (k : iJ n d cc nL own k0 kE Ex (pc + 3) L (.int v :: st) z f) : iJ n d cc nL own k0 kE Ex pc L st z f :=
  fun p l e R s mm args below meth c Q X hr ls H locs hl hP hS => lv_sipush X.1 X.2.1 hdg hv (k p l e R s mm args below meth c Q X hr ls H locs hl hP hS)
theorem i_aload_n {x : Nat} {i : Fin 4} (hdg : decode cc pc = .ok (.aload_n i, 1)) (hL : L[(i : Nat)]? = some (some (.ref x))) (k : iJ n d cc nL own k0 kE Ex (pc + 1) L (.ref x :: st) z f) : iJ n d cc nL own k0 kE Ex pc L st z f :=
  fun p l e R s mm args below meth c Q X hr ls H locs hl hP hS => lv_aload_n X.1 X.2.1 hdg rfl (hl.2.2 _ _ hL) (k p l e R s mm args below meth c Q X hr ls H locs hl hP hS)
theorem i_iload_n {x : Int32} {i : Fin 4} (hdg : decode cc pc = .ok (.iload_n i, 1)) (hL : L[(i : Nat)]? = some (some (.int x))) (k : iJ n d cc nL own k0 kE Ex (pc + 1) L (.int x :: st) z f) : iJ n d cc nL own k0 kE Ex pc L st z f :=
  fun p l e R s mm args below meth c Q X hr ls H locs hl hP hS => lv_iload_n X.1 X.2.1 hdg rfl (hl.2.2 _ _ hL) (k p l e R s mm args below meth c Q X hr ls H locs hl hP hS)
theorem i_istore_n {x : Int32} {i : Fin 4} (hdg : decode cc pc = .ok (.istore_n i, 1)) (hn : (i : Nat) < nL) (hL : L.set i (some (.int x)) = L') (hok : jok L i = true) (k : iJ n d cc nL own k0 kE Ex (pc + 1) L' st z f) : iJ n d cc nL own k0 kE Ex pc L (.int x :: st) z f :=
  fun p l e R s mm args below meth c Q X hr ls H locs hl hP hS => lv_istore_n X.1 X.2.1 hdg rfl (jas_has hl) hn rfl (fun ls' h' => k p l e R s mm args below meth c Q X hr ls' H locs (hL ▸ jlh_set (x := .int x) hl hok h') hP hS)
theorem i_astore_n {x : Nat} {i : Fin 4} (hdg : decode cc pc = .ok (.astore_n i, 1)) (hn : (i : Nat) < nL) (hL : L.set i (some (.ref x)) = L') (hok : jok L i = true) (k : iJ n d cc nL own k0 kE Ex (pc + 1) L' st z f) : iJ n d cc nL own k0 kE Ex pc L (.ref x :: st) z f :=
  fun p l e R s mm args below meth c Q X hr ls H locs hl hP hS => lv_astore_n X.1 X.2.1 hdg rfl (jas_has hl) hn rfl (fun ls' h' => k p l e R s mm args below meth c Q X hr ls' H locs (hL ▸ jlh_set (x := .ref x) hl hok h') hP hS)
theorem i_dup {v : Value} (hdg : decode cc pc = .ok (.dup, 1)) (hv : v.category = 1) (k : iJ n d cc nL own k0 kE Ex (pc + 1) L (v :: v :: st) z f) : iJ n d cc nL own k0 kE Ex pc L (v :: st) z f :=
  fun p l e R s mm args below meth c Q X hr ls H locs hl hP hS => lv_dup X.1 X.2.1 hdg (by rw [jcat]; exact hv) (k p l e R s mm args below meth c Q X hr ls H locs hl hP hS)
theorem i_iinc {x v : Int32} {i : Nat} {zz : Int} (hdg : decode cc pc = .ok (.iinc i zz, 3)) (hx : L[i]? = some (some (.int x))) (hv : x + Int32.ofInt zz = v) (hn : i < nL) (hL : L.set i (some (.int v)) = L') (hok : jok L i = true) (k : iJ n d cc nL own k0 kE Ex (pc + 3) L' st z f) : iJ n d cc nL own k0 kE Ex pc L st z f :=
  fun p l e R s mm args below meth c Q X hr ls H locs hl hP hS => by
    obtain ⟨q, hq⟩ := List.getElem?_of_mem (jas_mem (n := n) hx)
    exact lv_iinc X.1 X.2.1 hdg (jas_has hl) hq hv hn rfl (fun ls' h' => k p l e R s mm args below meth c Q X hr ls' H locs (hL ▸ jlh_set (x := .int v) hl hok h') hP hS)
theorem i_goto {off : Int} {tgt : Nat} (hdg : decode cc pc = .ok (.goto off, 3)) (ht : (pc : Int) + off = (tgt : Int)) (k : iJ n d cc nL own k0 kE Ex tgt L st z f) : iJ n d cc nL own k0 kE Ex pc L st z f :=
  fun p l e R s mm args below meth c Q X hr ls H locs hl hP hS => lv_goto X.1 X.2.1 hdg ht (k p l e R s mm args below meth c Q X hr ls H locs hl hP hS)
theorem i_icmp_ge {x y : Int32} {off : Int} {tgt : Nat} (hdg : decode cc pc = .ok (.if_icmp .ge off, 3)) (ht : (pc : Int) + off = (tgt : Int)) (kt : y ≤ x → iJ n d cc nL own k0 kE Ex tgt L st z f) (kf : ¬ y ≤ x → iJ n d cc nL own k0 kE Ex (pc + 3) L st z f) : iJ n d cc nL own k0 kE Ex pc L (.int y :: .int x :: st) z f :=
  fun p l e R s mm args below meth c Q X hr ls H locs hl hP hS => lv_icmp_ge X.1 X.2.1 hdg ht (fun q => kt q p l e R s mm args below meth c Q X hr ls H locs hl hP hS) (fun q => kf q p l e R s mm args below meth c Q X hr ls H locs hl hP hS)
theorem i_icmp_ge_t {x y : Int32} {off : Int} {tgt : Nat} (hdg : decode cc pc = .ok (.if_icmp .ge off, 3)) (ht : (pc : Int) + off = (tgt : Int)) (q : y ≤ x) (k : iJ n d cc nL own k0 kE Ex tgt L st z f) : iJ n d cc nL own k0 kE Ex pc L (.int y :: .int x :: st) z f := i_icmp_ge hdg ht (fun _ => k) (fun zq => absurd q (by first | exact zq | exact fun w => w zq))
theorem i_icmp_ge_f {x y : Int32} {off : Int} {tgt : Nat} (hdg : decode cc pc = .ok (.if_icmp .ge off, 3)) (ht : (pc : Int) + off = (tgt : Int)) (q : ¬ y ≤ x) (k : iJ n d cc nL own k0 kE Ex (pc + 3) L st z f) : iJ n d cc nL own k0 kE Ex pc L (.int y :: .int x :: st) z f := i_icmp_ge hdg ht (fun zq => absurd zq (by first | exact q | exact fun w => w q)) (fun _ => k)
theorem i_iincN {x i : Nat} (hdg : decode cc pc = .ok (.iinc i 1, 3)) (hx : L[i]? = some (some (.int (nI x)))) (hn : i < nL) (hL : L.set i (some (.int (nI (x + 1)))) = L') (hok : jok L i = true) (k : iJ n d cc nL own k0 kE Ex (pc + 3) L' st z f) : iJ n d cc nL own k0 kE Ex pc L st z f := i_iinc hdg hx (nI_1 x) hn hL hok k
theorem i_icmp_geN {a b : Nat} {off : Int} {tgt : Nat} (hdg : decode cc pc = .ok (.if_icmp .ge off, 3)) (ht : (pc : Int) + off = (tgt : Int)) (ha : a < 2 ^ 31) (hb : b < 2 ^ 31) (kt : b ≤ a → iJ n d cc nL own k0 kE Ex tgt L st z f) (kf : ¬ b ≤ a → iJ n d cc nL own k0 kE Ex (pc + 3) L st z f) : iJ n d cc nL own k0 kE Ex pc L (.int (nI b) :: .int (nI a) :: st) z f := i_icmp_ge hdg ht (fun q => kt ((nI_leI hb ha).1 q)) (fun q => kf (fun zq => q ((nI_leI hb ha).2 zq)))
theorem i_icmp_geN_t {a b : Nat} {off : Int} {tgt : Nat} (hdg : decode cc pc = .ok (.if_icmp .ge off, 3)) (ht : (pc : Int) + off = (tgt : Int)) (ha : a < 2 ^ 31) (hb : b < 2 ^ 31) (q : b ≤ a) (k : iJ n d cc nL own k0 kE Ex tgt L st z f) : iJ n d cc nL own k0 kE Ex pc L (.int (nI b) :: .int (nI a) :: st) z f := i_icmp_geN hdg ht ha hb (fun _ => k) (fun zq => absurd q (by first | exact zq | exact fun w => w zq))
theorem i_icmp_geN_f {a b : Nat} {off : Int} {tgt : Nat} (hdg : decode cc pc = .ok (.if_icmp .ge off, 3)) (ht : (pc : Int) + off = (tgt : Int)) (ha : a < 2 ^ 31) (hb : b < 2 ^ 31) (q : ¬ b ≤ a) (k : iJ n d cc nL own k0 kE Ex (pc + 3) L st z f) : iJ n d cc nL own k0 kE Ex pc L (.int (nI b) :: .int (nI a) :: st) z f := i_icmp_geN hdg ht ha hb (fun zq => absurd zq (by first | exact q | exact fun w => w q)) (fun _ => k)
/-- an object's kind -/
def iK (own : String) (idx ci N : Nat) : Prop := ∃ (C : String) (T : u_T) (t : Nat → FieldType), ci < 20 ∧ jcl[ci]? = some (C, T, N) ∧ (∀ w ∈ u_ws C T N, w ∈ jtbl) ∧ Cond.classLink own idx C ∈ jtbl ∧ Cond.instantiable C N ∈ jtbl ∧ Cond.initialized C ∈ jtbl ∧ (∀ k, k < N → parseFieldDescriptor (T k).2.2.1 = some (t k)) ∧ (∀ k, k < N → defaultValue (t k) = if jir ci k then .null else .int 0)
theorem iE_obj {a ci N : Nat} (hs : jsh a = (ci, N)) (hci : ci < 20) : iE n f a = .inr (ci, (List.range N).map (fun k => if jir ci k then (if k < f a then .ref (jB n + jrf a k) else .null) else .int (if k < f a then jh0 a k else 0))) := by
  unfold iE
  rw [hs, if_pos hci]
theorem iE_int {a ci N : Nat} (hs : jsh a = (ci, N)) (h1 : ¬ ci < 20) (h2 : ci < 22) : iE n f a = .inl (n.2.1 ci, N, .inl (fun k => if k < f a then jh0 a k else 0)) := by
  unfold iE
  rw [hs, if_neg h1, if_pos h2]
theorem iE_ref {a ci N : Nat} (hs : jsh a = (ci, N)) (h1 : ¬ ci < 20) (h2 : ¬ ci < 22) : iE n f a = .inl (n.2.1 ci, N, .inr (.inr (.inr (.inr (fun k => if k < f a then some (jB n + jrf a k) else none))))) := by
  unfold iE
  rw [hs, if_neg h1, if_neg h2]
theorem i_new {ci N idx : Nat} (hdg : decode cc pc = .ok (.new idx, 3)) (hk : iK own idx ci N) (hs : jsh z = (ci, N)) (hf : f z = 0) (hz : k0 ≤ z) (hE : z < kE) (kk : iJ n d cc nL own k0 kE Ex (pc + 3) L (.ref z :: st) (z + 1) f) : iJ n d cc nL own k0 kE Ex pc L st z f :=
  fun p l e R s mm args below meth c Q X hr ls H locs hl hP hS => by
    obtain ⟨C, T, t, hci, hc, hin, hcl, hinst, hini, hty, hdef⟩ := hk
    have hz147 := jsh_lt hs (by omega)
    have hw := X.2.2.2.2.1
    refine i_size X.2.2.2.2.2.2.1 hz hP (fun hsz => ?_)
    have hKn := X.2.2.2.2.2.1.1 ci _ hc
    have hsl := iSL_s z
    rw [hs] at hsl
    have m1 := iSL_le hz
    have m2 := iSL_le (show z + 1 ≤ kE by omega)
    have r1 := X.2.2.2.2.2.2.2.2.2.1
    have r2 := X.2.2.2.2.2.2.2.2.2.2.1
    dsimp only at hsl
    have kk := kk p l e R s mm args below meth c Q X hr ls
    rw [show z + 1 - k0 = z - k0 + 1 by omega, show iSL (z + 1) - iSL k0 = iSL z - iSL k0 + N by omega] at kk
    refine W.newcK (g := F0 mm pc ls (st.map (jup n))) X.1 X.2.1 X.2.2.2.1 (hw _ hcl) (hw _ hinst) (hw _ hini) rfl hdg (by omega) (by omega) hKn.2.1 rfl fun H1 kC hkC e1 z1 o1 => ?_
    have hk1 : ∀ (k : Nat) (x : Nat × va_E), (iws n z f)[k]? = some x → H1[x.1]? = H[x.1]? := fun k x hx => o1 x.1 ((hP k x hx).lt)
    have e2 : (Value.ref z :: st).map (jup n) = .ref H.size :: st.map (jup n) := by simp [jup, jad_lt n hz147, hsz]
    have k2 := kk H1 locs hl (by
      rw [iws_s]
      refine (hP.kept hk1).app (fun k x hx => ?_)
      have hz0 : k < 1 := (List.getElem?_eq_some_iff.mp hx).1
      rw [show k = 0 by omega] at hx
      cases hx
      rw [iE_obj hs hci, hf, ← hsz]
      refine ⟨_, hc, (u_born t (fun w q => hw w q) hin hKn hkC e1 hty).to (fun j hj => ?_)⟩
      rw [hdef j hj]
      simp [vp_V, hj]) ⟨Nat.le_trans hS.1 (by omega), fun x h1 h2 => (o1 x (Nat.lt_of_lt_of_le h1 hS.1)).trans (hS.2.1 x h1 h2), hS.2.2⟩
    rw [e2] at k2
    exact k2
/-- an array of ints -/
theorem i_newa {N : Nat} {v : Int32} (hdg : decode cc pc = .ok (.newarray .int, 2)) (har : Cond.arrayClass .int ∈ jtbl) (hv : v = nI N) (hs : jsh z = (20, N)) (hN : N ≤ 4096) (hf : f z = 0) (hz : k0 ≤ z) (hE : z < kE) (kk : iJ n d cc nL own k0 kE Ex (pc + 2) L (.ref z :: st) (z + 1) f) : iJ n d cc nL own k0 kE Ex pc L (.int v :: st) z f :=
  fun p l e R s mm args below meth c Q X hr ls H locs hl hP hS => by
    subst hv
    have hz147 := jsh_lt hs (by omega)
    have hw := X.2.2.2.2.1
    refine i_size X.2.2.2.2.2.2.1 hz hP (fun hsz => ?_)
    have hsl := iSL_s z
    rw [hs] at hsl
    have m1 := iSL_le hz
    have m2 := iSL_le (show z + 1 ≤ kE by omega)
    have r1 := X.2.2.2.2.2.2.2.2.2.1
    have r2 := X.2.2.2.2.2.2.2.2.2.2.1
    dsimp only at hsl
    have kk := kk p l e R s mm args below meth c Q X hr ls
    rw [show z + 1 - k0 = z - k0 + 1 by omega, show iSL (z + 1) - iSL k0 = iSL z - iSL k0 + N by omega] at kk
    have hn0 : ¬ nI N < 0 := fun q => by
      rw [Int32.lt_iff_toInt_lt, nI_toInt (by omega), show (0 : Int32).toInt = 0 from rfl] at q
      omega
    refine va_newaK (atype := .int) (g := F0 mm pc ls ((Value.int (nI N) :: st).map (jup n))) X.1 X.2.1 (hw _ har) rfl hdg rfl hn0 (nI_clamp (by omega)) (by show N * 4 ≤ 536870912; omega) (by omega) (by omega) rfl fun H1 cA e1 z1 o1 hAr hNm => ?_
    have hcA : cA = n.2.1 20 := Option.some.inj (hNm.symm.trans (X.2.2.2.2.2.1.2 0 _ rfl).2)
    have hk1 : ∀ (k : Nat) (x : Nat × va_E), (iws n z f)[k]? = some x → H1[x.1]? = H[x.1]? := fun k x hx => o1 x.1 ((hP k x hx).lt)
    have e2 : (Value.ref z :: st).map (jup n) = .ref H.size :: st.map (jup n) := by simp [jup, jad_lt n hz147, hsz]
    have k2 := kk H1 locs hl (by
      rw [iws_s]
      refine (hP.kept hk1).app (fun k x hx => ?_)
      have hz0 : k < 1 := (List.getElem?_eq_some_iff.mp hx).1
      rw [show k = 0 by omega] at hx
      cases hx
      rw [iE_int hs (by omega) (by omega), hf, ← hsz, ← hcA]
      show H1[H.size]? = some (vp_cell _ _)
      rw [e1, vp_cell_i]
      rfl) ⟨Nat.le_trans hS.1 (by omega), fun x h1 h2 => (o1 x (Nat.lt_of_lt_of_le h1 hS.1)).trans (hS.2.1 x h1 h2), hS.2.2⟩
    rw [e2] at k2
    exact k2
/-- .. of truth values -/
theorem i_newz {N : Nat} {v : Int32} (hdg : decode cc pc = .ok (.newarray .boolean, 2)) (har : Cond.arrayClass .boolean ∈ jtbl) (hv : v = nI N) (hs : jsh z = (21, N)) (hN : N ≤ 4096) (hf : f z = 0) (hz : k0 ≤ z) (hE : z < kE) (kk : iJ n d cc nL own k0 kE Ex (pc + 2) L (.ref z :: st) (z + 1) f) : iJ n d cc nL own k0 kE Ex pc L (.int v :: st) z f :=
  fun p l e R s mm args below meth c Q X hr ls H locs hl hP hS => by
    subst hv
    have hz147 := jsh_lt hs (by omega)
    have hw := X.2.2.2.2.1
    refine i_size X.2.2.2.2.2.2.1 hz hP (fun hsz => ?_)
    have hsl := iSL_s z
    rw [hs] at hsl
    have m1 := iSL_le hz
    have m2 := iSL_le (show z + 1 ≤ kE by omega)
    have r1 := X.2.2.2.2.2.2.2.2.2.1
    have r2 := X.2.2.2.2.2.2.2.2.2.2.1
    dsimp only at hsl
    have kk := kk p l e R s mm args below meth c Q X hr ls
    rw [show z + 1 - k0 = z - k0 + 1 by omega, show iSL (z + 1) - iSL k0 = iSL z - iSL k0 + N by omega] at kk
    have hn0 : ¬ nI N < 0 := fun q => by
      rw [Int32.lt_iff_toInt_lt, nI_toInt (by omega), show (0 : Int32).toInt = 0 from rfl] at q
      omega
    refine va_newaK (atype := .boolean) (g := F0 mm pc ls ((Value.int (nI N) :: st).map (jup n))) X.1 X.2.1 (hw _ har) rfl hdg rfl hn0 (nI_clamp (by omega)) (by show N * 1 ≤ 536870912; omega) (by omega) (by omega) rfl fun H1 cA e1 z1 o1 hAr hNm => ?_
    have hcA : cA = n.2.1 21 := Option.some.inj (hNm.symm.trans (X.2.2.2.2.2.1.2 1 _ rfl).2)
    have hk1 : ∀ (k : Nat) (x : Nat × va_E), (iws n z f)[k]? = some x → H1[x.1]? = H[x.1]? := fun k x hx => o1 x.1 ((hP k x hx).lt)
    have e2 : (Value.ref z :: st).map (jup n) = .ref H.size :: st.map (jup n) := by simp [jup, jad_lt n hz147, hsz]
    have k2 := kk H1 locs hl (by
      rw [iws_s]
      refine (hP.kept hk1).app (fun k x hx => ?_)
      have hz0 : k < 1 := (List.getElem?_eq_some_iff.mp hx).1
      rw [show k = 0 by omega] at hx
      cases hx
      rw [iE_int hs (by omega) (by omega), hf, ← hsz, ← hcA]
      show H1[H.size]? = some (vp_cell _ _)
      rw [e1, vp_cell_i]
      rfl) ⟨Nat.le_trans hS.1 (by omega), fun x h1 h2 => (o1 x (Nat.lt_of_lt_of_le h1 hS.1)).trans (hS.2.1 x h1 h2), hS.2.2⟩
    rw [e2] at k2
    exact k2
/-- .. of objects -/
theorem i_anew {N ci t0 idx : Nat} {v : Int32} {C : String} (hdg : decode cc pc = .ok (.anewarray idx, 3)) (hcl : Cond.classLink own idx C ∈ jtbl) (hov : C ∈ iAL) (ht : (jtys n)[t0]? = some (n.2.1 ci, .object C)) (h1 : ¬ ci < 22) (h99 : ci < 99) (hv : v = nI N) (hs : jsh z = (ci, N)) (hN : N ≤ 4096) (hf : f z = 0) (hz : k0 ≤ z) (hE : z < kE) (kk : iJ n d cc nL own k0 kE Ex (pc + 3) L (.ref z :: st) (z + 1) f) : iJ n d cc nL own k0 kE Ex pc L (.int v :: st) z f :=
  fun p l e R s mm args below meth c Q X hr ls H locs hl hP hS => by
    subst hv
    have hz147 := jsh_lt hs (by omega)
    have hw := X.2.2.2.2.1
    refine i_size X.2.2.2.2.2.2.1 hz hP (fun hsz => ?_)
    have hsl := iSL_s z
    rw [hs] at hsl
    have m1 := iSL_le hz
    have m2 := iSL_le (show z + 1 ≤ kE by omega)
    have r1 := X.2.2.2.2.2.2.2.2.2.1
    have r2 := X.2.2.2.2.2.2.2.2.2.2.1
    dsimp only at hsl
    have kk := kk p l e R s mm args below meth c Q X hr ls
    have hNc : (nI N).toNatClampNeg = N := nI_clamp (by omega)
    rw [show z + 1 - k0 = z - k0 + 1 by omega, show iSL (z + 1) - iSL k0 = iSL z - iSL k0 + (nI N).toNatClampNeg by omega] at kk
    have hn0 : ¬ nI N < 0 := fun q => by
      rw [Int32.lt_iff_toInt_lt, nI_toInt (by omega), show (0 : Int32).toInt = 0 from rfl] at q
      omega
    refine W.anew (g := F0 mm pc ls ((Value.int (nI N) :: st).map (jup n))) X.1 X.2.1 X.2.2.2.1 (hw _ hcl) (va_AO.use (X.2.2.2.2.2.2.2.2.2.2.2.2.2 _ hov)) rfl hdg rfl hn0 (by omega) (by omega) (by omega) fun cA kA comp f1 f2 f3 f4 => ?_
    have hcA : cA = n.2.1 ci := by
      obtain ⟨kA', comp', -, -, -, q4⟩ := (X.2.2.2.2.2.1.2 t0 _ ht).2
      exact Option.some.inj (f1.symm.trans q4)
    generalize hH1 : H.push ({ cls := cA, slots := Array.replicate (nI N).toNatClampNeg .null, vm := .none } : Cell) = H1
    have z1 : H1.size = H.size + 1 := by rw [← hH1, Array.size_push]
    have e1 : H1[H.size]? = some (arrV cA N (fun _ => .null)) := by rw [← hH1, Array.getElem?_push_size, hNc, ← arrV_new]
    have o1 : ∀ q : Nat, q < H.size → H1[q]? = H[q]? := fun q hq => by rw [← hH1, Array.getElem?_push, if_neg (Nat.ne_of_lt hq)]
    have hk1 : ∀ (k : Nat) (x : Nat × va_E), (iws n z f)[k]? = some x → H1[x.1]? = H[x.1]? := fun k x hx => o1 x.1 ((hP k x hx).lt)
    have e2 : (Value.ref z :: st).map (jup n) = .ref H.size :: st.map (jup n) := by simp [jup, jad_lt n hz147, hsz]
    have k2 := kk H1 locs hl (by
      rw [iws_s]
      refine (hP.kept hk1).app (fun k x hx => ?_)
      have hz0 : k < 1 := (List.getElem?_eq_some_iff.mp hx).1
      rw [show k = 0 by omega] at hx
      cases hx
      rw [iE_ref hs (by omega) h1, hf, ← hsz, ← hcA]
      show H1[H.size]? = some (vp_cell _ _)
      rw [e1, vp_cell_q]
      rfl) ⟨Nat.le_trans hS.1 (by omega), fun x h1 h2 => (o1 x (Nat.lt_of_lt_of_le h1 hS.1)).trans (hS.2.1 x h1 h2), hS.2.2⟩
    rw [e2] at k2
    exact k2
end

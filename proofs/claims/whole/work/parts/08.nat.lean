theorem ni_and (a b : Nat) : nI a &&& nI b = nI (a &&& b) := by
  apply Int32.toBitVec_inj.1
  show BitVec.ofNat 32 a &&& BitVec.ofNat 32 b = BitVec.ofNat 32 (a &&& b)
  apply BitVec.eq_of_getLsbD_eq
  intro i hi
  simp [hi]
theorem ni_or (a b : Nat) : nI a ||| nI b = nI (a ||| b) := by
  apply Int32.toBitVec_inj.1
  show BitVec.ofNat 32 a ||| BitVec.ofNat 32 b = BitVec.ofNat 32 (a ||| b)
  apply BitVec.eq_of_getLsbD_eq
  intro i hi
  simp [hi]
theorem ni_mul (a b : Nat) : nI a * nI b = nI (a * b) := by
  apply Int32.toBitVec_inj.1
  show BitVec.ofNat 32 a * BitVec.ofNat 32 b = BitVec.ofNat 32 (a * b)
  rw [BitVec.ofNat_mul]
theorem ni_sub {a b : Nat} (h : b ≤ a) : nI a - nI b = nI (a - b) := by
  have h2 : nI a = nI (a - b) + nI b := by rw [nI_add, Nat.sub_add_cancel h]
  rw [h2]
  exact Int32.add_sub_cancel _ _
theorem ni_sm : ∀ k, k < 32 → ((nI k &&& 31).toBitVec.smod 32).toNat = k := by decide +kernel
theorem ni_shl {a j : Nat} (hj : j < 32) (h : a * 2 ^ j < 2 ^ 32) : nI a <<< (nI j &&& 31) = nI (a * 2 ^ j) := pk_shlN _ j (ni_sm j hj) h
theorem ni_shr {a j : Nat} (ha : a < 2 ^ 31) (hj : j < 32) : nI a >>> (nI j &&& 31) = nI (a / 2 ^ j) := pk_shrN ha _ j (ni_sm j hj)
theorem ni_rem {a b : Nat} (ha : a < 2 ^ 31) (h0 : 0 < b) (hb : b < 2 ^ 31) : nI a - nI a / nI b * nI b = nI (a % b) := by
  rw [pk_div ha h0 hb, ni_mul, ni_sub (Nat.div_mul_le_self a b)]
  congr 1
  have := Nat.div_add_mod a b
  rw [Nat.mul_comm] at this
  omega
def jbo (b : Bool) : Int32 := if b then 1 else 0
theorem jbo_t : jbo true = 1 := rfl
theorem jbo_f : jbo false = 0 := rfl
theorem j_loop {P : Nat → Prop} {m : Nat} (hm : P m) (hs : ∀ k, k < m → P (k + 1) → P k) : P 0 := by
  have : ∀ j, j ≤ m → P (m - j) := by
    intro j
    induction j with
    | zero => intro _; exact hm
    | succ j ih =>
      intro hj
      have h1 := ih (by omega)
      have h2 : m - j = (m - (j + 1)) + 1 := by omega
      rw [h2] at h1
      exact hs _ (by omega) h1
  have := this m (Nat.le_refl _)
  rwa [Nat.sub_self] at this
section
variable {n : jN} {d : Nat} {cc : ByteArray} {nL : Nat} {own : String} {pc : Nat} {L L' : List (Option Value)} {st : List Value} {h : jH} {res : Option Value × jH}
theorem j_heap {h' : jH} (hh : h = h') (k : jJ n d cc nL own pc L st h' res) : jJ n d cc nL own pc L st h res := hh ▸ k
theorem j_locs {L' : List (Option Value)} (hh : L = L') (k : jJ n d cc nL own pc L' st h res) : jJ n d cc nL own pc L st h res := hh ▸ k
theorem j_stk {st' : List Value} (hh : st = st') (k : jJ n d cc nL own pc L st' h res) : jJ n d cc nL own pc L st h res := hh ▸ k
theorem j_top {v w : Int32} (hh : v = w) (k : jJ n d cc nL own pc L (.int w :: st) h res) : jJ n d cc nL own pc L (.int v :: st) h res := hh ▸ k
theorem j_retv {h' : jH} (hdg : decode cc pc = .ok (.return_, 1)) (hh : h = h') : jJ n d cc nL own pc L [] h (none, h') := by
  subst hh
  exact j_ret (r := none) hdg rfl
theorem j_reti {v w : Int32} {h' : jH} (hdg : decode cc pc = .ok (.ireturn, 1)) (hv : v = w) (hh : h = h') : jJ n d cc nL own pc L [.int v] h (some (.int w), h') := by
  subst hh
  subst hv
  exact j_ret (r := some (.int v)) hdg rfl
theorem j_retl {v w : Int64} {h' : jH} (hdg : decode cc pc = .ok (.lreturn, 1)) (hv : v = w) (hh : h = h') : jJ n d cc nL own pc L [.long v] h (some (.long w), h') := by
  subst hh
  subst hv
  exact j_ret (r := some (.long v)) hdg rfl
theorem j_reta {v w : Nat} {h' : jH} (hdg : decode cc pc = .ok (.areturn, 1)) (hv : v = w) (hh : h = h') : jJ n d cc nL own pc L [.ref v] h (some (.ref w), h') := by
  subst hh
  subst hv
  exact j_ret (r := some (.ref v)) hdg rfl
theorem j_getv {a ci k N idx : Nat} {v : Int32} (hdg : decode cc pc = .ok (.getfield idx, 3)) (hf : jF own idx ci k N) (hs : jsh a = (ci, N)) (hir : jir ci k = false) (hv : h a k = v) (kk : jJ n d cc nL own (pc + 3) L (.int v :: st) h res) : jJ n d cc nL own pc L (.ref a :: st) h res := j_geti hdg hf hs hir (hv ▸ kk)
theorem j_putv {a ci k N idx : Nat} {v : Int32} {h' : jH} (hdg : decode cc pc = .ok (.putfield idx, 3)) (hf : jF own idx ci k N) (hs : jsh a = (ci, N)) (hir : jir ci k = false) (hh : jup2 h a k v = h') (kk : jJ n d cc nL own (pc + 3) L st h' res) : jJ n d cc nL own pc L (.int v :: .ref a :: st) h res := j_puti hdg hf hs hir (hh ▸ kk)
theorem j_ialdN {a N j : Nat} {v : Int32} (hdg : decode cc pc = .ok (.iaload, 1)) (hs : jsh a = (20, N)) (hj : j < N) (hN : N ≤ 4096) (hv : h a j = v) (kk : jJ n d cc nL own (pc + 1) L (.int v :: st) h res) : jJ n d cc nL own pc L (.int (nI j) :: .ref a :: st) h res :=
  j_iald hdg hs (vp_in_nI hj (by omega)) (by rw [nI_clamp (by omega), hv]; exact kk)
theorem j_zaldN {a N j : Nat} {v : Int32} (hdg : decode cc pc = .ok (.baload, 1)) (hs : jsh a = (21, N)) (hj : j < N) (hN : N ≤ 4096) (hv : h a j = v) (kk : jJ n d cc nL own (pc + 1) L (.int v :: st) h res) : jJ n d cc nL own pc L (.int (nI j) :: .ref a :: st) h res :=
  j_zald hdg hs (vp_in_nI hj (by omega)) (by rw [nI_clamp (by omega), hv]; exact kk)
theorem j_iastN {a N j : Nat} {v : Int32} {h' : jH} (hdg : decode cc pc = .ok (.iastore, 1)) (hs : jsh a = (20, N)) (hj : j < N) (hN : N ≤ 4096) (hh : jup2 h a j v = h') (kk : jJ n d cc nL own (pc + 1) L st h' res) : jJ n d cc nL own pc L (.int v :: .int (nI j) :: .ref a :: st) h res :=
  j_iast hdg hs (vp_in_nI hj (by omega)) (by rw [nI_clamp (by omega), hh]; exact kk)
theorem j_zastN {a N j : Nat} {v : Int32} {h' : jH} (hdg : decode cc pc = .ok (.bastore, 1)) (hs : jsh a = (21, N)) (hj : j < N) (hN : N ≤ 4096) (hv : v = 0 ∨ v = 1) (hh : jup2 h a j v = h') (kk : jJ n d cc nL own (pc + 1) L st h' res) : jJ n d cc nL own pc L (.int v :: .int (nI j) :: .ref a :: st) h res :=
  j_zast hdg hs (vp_in_nI hj (by omega)) (by rw [nI_clamp (by omega), show vp_nar .boolean v = v from by rcases hv with rfl | rfl <;> rfl, hh]; exact kk)
theorem j_aaldN {a t N b j : Nat} (hdg : decode cc pc = .ok (.aaload, 1)) (hs : jsh a = (t, N)) (ht : t = 22 ∨ t = 23 ∨ t = 24) (hj : j < N) (hN : N ≤ 4096) (hb : jrf a j = b) (hb2 : b < 152) (kk : jJ n d cc nL own (pc + 1) L (.ref b :: st) h res) : jJ n d cc nL own pc L (.int (nI j) :: .ref a :: st) h res :=
  j_aald hdg hs ht (vp_in_nI hj (by omega)) (by rw [nI_clamp (by omega), hb]) hb2 kk
theorem j_rldN {j : Nat} {v : Int32} (hdg : decode cc pc = .ok (.iaload, 1)) (hj : j < 5) (hv : ([0, 1, 5, 73, 4369] : List Int32).getD j 0 = v) (kk : jJ n d cc nL own (pc + 1) L (.int v :: st) h res) : jJ n d cc nL own pc L (.int (nI j) :: .ref 153 :: st) h res :=
  j_rld hdg (vp_in_nI hj (by omega)) (by rw [nI_clamp (by omega), hv]) kk
theorem j_iaddN {a b : Nat} (hdg : decode cc pc = .ok (.iadd, 1)) (k : jJ n d cc nL own (pc + 1) L (.int (nI (a + b)) :: st) h res) : jJ n d cc nL own pc L (.int (nI b) :: .int (nI a) :: st) h res := j_iadd hdg (by rw [nI_add a b]; exact k)
theorem j_imulN {a b : Nat} (hdg : decode cc pc = .ok (.imul, 1)) (k : jJ n d cc nL own (pc + 1) L (.int (nI (a * b)) :: st) h res) : jJ n d cc nL own pc L (.int (nI b) :: .int (nI a) :: st) h res := j_imul hdg (by rw [ni_mul a b]; exact k)
theorem j_isubN {a b : Nat} (hdg : decode cc pc = .ok (.isub, 1)) (hq : b ≤ a) (k : jJ n d cc nL own (pc + 1) L (.int (nI (a - b)) :: st) h res) : jJ n d cc nL own pc L (.int (nI b) :: .int (nI a) :: st) h res := j_isub hdg (by rw [ni_sub hq]; exact k)
theorem j_iandN {a b : Nat} (hdg : decode cc pc = .ok (.iand, 1)) (k : jJ n d cc nL own (pc + 1) L (.int (nI (a &&& b)) :: st) h res) : jJ n d cc nL own pc L (.int (nI b) :: .int (nI a) :: st) h res := j_iand hdg (by rw [ni_and a b]; exact k)
theorem j_iorN {a b : Nat} (hdg : decode cc pc = .ok (.ior, 1)) (k : jJ n d cc nL own (pc + 1) L (.int (nI (a ||| b)) :: st) h res) : jJ n d cc nL own pc L (.int (nI b) :: .int (nI a) :: st) h res := j_ior hdg (by rw [ni_or a b]; exact k)
theorem j_ishlN {a b : Nat} (hdg : decode cc pc = .ok (.ishl, 1)) (hj : b < 32) (hq : a * 2 ^ b < 2 ^ 32) (k : jJ n d cc nL own (pc + 1) L (.int (nI (a * 2 ^ b)) :: st) h res) : jJ n d cc nL own pc L (.int (nI b) :: .int (nI a) :: st) h res := j_ishl hdg (by rw [ni_shl hj hq]; exact k)
theorem j_ishrN {a b : Nat} (hdg : decode cc pc = .ok (.ishr, 1)) (ha : a < 2 ^ 31) (hj : b < 32) (k : jJ n d cc nL own (pc + 1) L (.int (nI (a / 2 ^ b)) :: st) h res) : jJ n d cc nL own pc L (.int (nI b) :: .int (nI a) :: st) h res := j_ishr hdg (by rw [ni_shr ha hj]; exact k)
theorem j_iremN {a b : Nat} (hdg : decode cc pc = .ok (.irem, 1)) (ha : a < 2 ^ 31) (h0 : 0 < b) (hb : b < 2 ^ 31) (k : jJ n d cc nL own (pc + 1) L (.int (nI (a % b)) :: st) h res) : jJ n d cc nL own pc L (.int (nI b) :: .int (nI a) :: st) h res := j_irem hdg (nI_ne0 h0 hb) (by rw [ni_rem ha h0 hb]; exact k)
theorem j_idivN {a b : Nat} (hdg : decode cc pc = .ok (.idiv, 1)) (ha : a < 2 ^ 31) (h0 : 0 < b) (hb : b < 2 ^ 31) (k : jJ n d cc nL own (pc + 1) L (.int (nI (a / b)) :: st) h res) : jJ n d cc nL own pc L (.int (nI b) :: .int (nI a) :: st) h res := j_idiv hdg (nI_ne0 h0 hb) (by rw [pk_div ha h0 hb]; exact k)
theorem j_iincN {x i : Nat} (hdg : decode cc pc = .ok (.iinc i 1, 3)) (hx : L[i]? = some (some (.int (nI x)))) (hn : i < nL) (hL : L.set i (some (.int (nI (x + 1)))) = L') (hok : jok L i = true) (k : jJ n d cc nL own (pc + 3) L' st h res) : jJ n d cc nL own pc L st h res := j_iinc hdg hx (nI_1 x) hn hL hok k
theorem j_idecN {x i : Nat} (hdg : decode cc pc = .ok (.iinc i (-1), 3)) (hx : L[i]? = some (some (.int (nI (x + 1))))) (hn : i < nL) (hL : L.set i (some (.int (nI x))) = L') (hok : jok L i = true) (k : jJ n d cc nL own (pc + 3) L' st h res) : jJ n d cc nL own pc L st h res := j_iinc hdg hx (by show nI (x + 1) + Int32.ofInt (-1) = nI x; rw [nI_succ]; exact (by show nI x + 1 + (-1) = nI x; rw [Int32.add_assoc]; exact Int32.add_zero _)) hn hL hok k
theorem ni_z {a : Nat} (ha : a < 2 ^ 31) : nI a = 0 ↔ a = 0 := nI_eq (b := 0) ha (by omega)
theorem ni_pos {a : Nat} (ha : a < 2 ^ 31) : 0 < nI a ↔ 0 < a := nI_ltI (a := 0) (by omega) ha
theorem ni_npos {a : Nat} (ha : a < 2 ^ 31) : nI a ≤ 0 ↔ a = 0 := (nI_leI (b := 0) ha (by omega)).trans (by omega)
theorem j_if_eqN {a : Nat} {off : Int} {tgt : Nat} (hdg : decode cc pc = .ok (.ifCond .eq off, 3)) (ht : (pc : Int) + off = (tgt : Int)) (ha : a < 2 ^ 31) (kt : a = 0 → jJ n d cc nL own tgt L st h res) (kf : ¬ a = 0 → jJ n d cc nL own (pc + 3) L st h res) : jJ n d cc nL own pc L (.int (nI a) :: st) h res := j_if_eq hdg ht (fun q => kt ((ni_z ha).1 q)) (fun q => kf (fun z => q ((ni_z ha).2 z)))
theorem j_if_eqN_t {a : Nat} {off : Int} {tgt : Nat} (hdg : decode cc pc = .ok (.ifCond .eq off, 3)) (ht : (pc : Int) + off = (tgt : Int)) (ha : a < 2 ^ 31) (q : a = 0) (k : jJ n d cc nL own tgt L st h res) : jJ n d cc nL own pc L (.int (nI a) :: st) h res := j_if_eqN hdg ht ha (fun _ => k) (fun z => absurd q (by first | exact z | exact fun w => w z | exact fun _ => z))
theorem j_if_eqN_f {a : Nat} {off : Int} {tgt : Nat} (hdg : decode cc pc = .ok (.ifCond .eq off, 3)) (ht : (pc : Int) + off = (tgt : Int)) (ha : a < 2 ^ 31) (q : ¬ a = 0) (k : jJ n d cc nL own (pc + 3) L st h res) : jJ n d cc nL own pc L (.int (nI a) :: st) h res := j_if_eqN hdg ht ha (fun z => absurd z (by first | exact q | exact fun w => w q)) (fun _ => k)
theorem j_if_neN {a : Nat} {off : Int} {tgt : Nat} (hdg : decode cc pc = .ok (.ifCond .ne off, 3)) (ht : (pc : Int) + off = (tgt : Int)) (ha : a < 2 ^ 31) (kt : ¬ a = 0 → jJ n d cc nL own tgt L st h res) (kf : a = 0 → jJ n d cc nL own (pc + 3) L st h res) : jJ n d cc nL own pc L (.int (nI a) :: st) h res := j_if_ne hdg ht (fun q => kt (fun z => q ((ni_z ha).2 z))) (fun q => kf ((ni_z ha).1 q))
theorem j_if_neN_t {a : Nat} {off : Int} {tgt : Nat} (hdg : decode cc pc = .ok (.ifCond .ne off, 3)) (ht : (pc : Int) + off = (tgt : Int)) (ha : a < 2 ^ 31) (q : ¬ a = 0) (k : jJ n d cc nL own tgt L st h res) : jJ n d cc nL own pc L (.int (nI a) :: st) h res := j_if_neN hdg ht ha (fun _ => k) (fun z => absurd q (by first | exact z | exact fun w => w z | exact fun _ => z))
theorem j_if_neN_f {a : Nat} {off : Int} {tgt : Nat} (hdg : decode cc pc = .ok (.ifCond .ne off, 3)) (ht : (pc : Int) + off = (tgt : Int)) (ha : a < 2 ^ 31) (q : a = 0) (k : jJ n d cc nL own (pc + 3) L st h res) : jJ n d cc nL own pc L (.int (nI a) :: st) h res := j_if_neN hdg ht ha (fun z => absurd z (by first | exact q | exact fun w => w q)) (fun _ => k)
theorem j_if_gtN {a : Nat} {off : Int} {tgt : Nat} (hdg : decode cc pc = .ok (.ifCond .gt off, 3)) (ht : (pc : Int) + off = (tgt : Int)) (ha : a < 2 ^ 31) (kt : 0 < a → jJ n d cc nL own tgt L st h res) (kf : ¬ 0 < a → jJ n d cc nL own (pc + 3) L st h res) : jJ n d cc nL own pc L (.int (nI a) :: st) h res := j_if_gt hdg ht (fun q => kt ((ni_pos ha).1 q)) (fun q => kf (fun z => q ((ni_pos ha).2 z)))
theorem j_if_gtN_t {a : Nat} {off : Int} {tgt : Nat} (hdg : decode cc pc = .ok (.ifCond .gt off, 3)) (ht : (pc : Int) + off = (tgt : Int)) (ha : a < 2 ^ 31) (q : 0 < a) (k : jJ n d cc nL own tgt L st h res) : jJ n d cc nL own pc L (.int (nI a) :: st) h res := j_if_gtN hdg ht ha (fun _ => k) (fun z => absurd q (by first | exact z | exact fun w => w z | exact fun _ => z))
theorem j_if_gtN_f {a : Nat} {off : Int} {tgt : Nat} (hdg : decode cc pc = .ok (.ifCond .gt off, 3)) (ht : (pc : Int) + off = (tgt : Int)) (ha : a < 2 ^ 31) (q : ¬ 0 < a) (k : jJ n d cc nL own (pc + 3) L st h res) : jJ n d cc nL own pc L (.int (nI a) :: st) h res := j_if_gtN hdg ht ha (fun z => absurd z (by first | exact q | exact fun w => w q)) (fun _ => k)
theorem j_if_leN {a : Nat} {off : Int} {tgt : Nat} (hdg : decode cc pc = .ok (.ifCond .le off, 3)) (ht : (pc : Int) + off = (tgt : Int)) (ha : a < 2 ^ 31) (kt : a = 0 → jJ n d cc nL own tgt L st h res) (kf : ¬ a = 0 → jJ n d cc nL own (pc + 3) L st h res) : jJ n d cc nL own pc L (.int (nI a) :: st) h res := j_if_le hdg ht (fun q => kt ((ni_npos ha).1 q)) (fun q => kf (fun z => q ((ni_npos ha).2 z)))
theorem j_if_leN_t {a : Nat} {off : Int} {tgt : Nat} (hdg : decode cc pc = .ok (.ifCond .le off, 3)) (ht : (pc : Int) + off = (tgt : Int)) (ha : a < 2 ^ 31) (q : a = 0) (k : jJ n d cc nL own tgt L st h res) : jJ n d cc nL own pc L (.int (nI a) :: st) h res := j_if_leN hdg ht ha (fun _ => k) (fun z => absurd q (by first | exact z | exact fun w => w z | exact fun _ => z))
theorem j_if_leN_f {a : Nat} {off : Int} {tgt : Nat} (hdg : decode cc pc = .ok (.ifCond .le off, 3)) (ht : (pc : Int) + off = (tgt : Int)) (ha : a < 2 ^ 31) (q : ¬ a = 0) (k : jJ n d cc nL own (pc + 3) L st h res) : jJ n d cc nL own pc L (.int (nI a) :: st) h res := j_if_leN hdg ht ha (fun z => absurd z (by first | exact q | exact fun w => w q)) (fun _ => k)
theorem j_if_ltN {a : Nat} {off : Int} {tgt : Nat} (hdg : decode cc pc = .ok (.ifCond .lt off, 3)) (ht : (pc : Int) + off = (tgt : Int)) (ha : a < 2 ^ 31) (kt : False → jJ n d cc nL own tgt L st h res) (kf : True → jJ n d cc nL own (pc + 3) L st h res) : jJ n d cc nL own pc L (.int (nI a) :: st) h res := j_if_lt hdg ht (fun q => kt (nI_pos ha q)) (fun q => kf (trivial))
theorem j_if_ltN_t {a : Nat} {off : Int} {tgt : Nat} (hdg : decode cc pc = .ok (.ifCond .lt off, 3)) (ht : (pc : Int) + off = (tgt : Int)) (ha : a < 2 ^ 31) (q : False) (k : jJ n d cc nL own tgt L st h res) : jJ n d cc nL own pc L (.int (nI a) :: st) h res := j_if_ltN hdg ht ha (fun _ => k) (fun z => by first | exact q.elim | exact z.elim)
theorem j_if_ltN_f {a : Nat} {off : Int} {tgt : Nat} (hdg : decode cc pc = .ok (.ifCond .lt off, 3)) (ht : (pc : Int) + off = (tgt : Int)) (ha : a < 2 ^ 31) (q : True) (k : jJ n d cc nL own (pc + 3) L st h res) : jJ n d cc nL own pc L (.int (nI a) :: st) h res := j_if_ltN hdg ht ha (fun z => by first | exact z.elim | exact q.elim) (fun _ => k)
theorem j_if_geN {a : Nat} {off : Int} {tgt : Nat} (hdg : decode cc pc = .ok (.ifCond .ge off, 3)) (ht : (pc : Int) + off = (tgt : Int)) (ha : a < 2 ^ 31) (kt : True → jJ n d cc nL own tgt L st h res) (kf : False → jJ n d cc nL own (pc + 3) L st h res) : jJ n d cc nL own pc L (.int (nI a) :: st) h res := j_if_ge hdg ht (fun q => kt (trivial)) (fun q => kf (q (nI_pos' ha)))
theorem j_if_geN_t {a : Nat} {off : Int} {tgt : Nat} (hdg : decode cc pc = .ok (.ifCond .ge off, 3)) (ht : (pc : Int) + off = (tgt : Int)) (ha : a < 2 ^ 31) (q : True) (k : jJ n d cc nL own tgt L st h res) : jJ n d cc nL own pc L (.int (nI a) :: st) h res := j_if_geN hdg ht ha (fun _ => k) (fun z => by first | exact q.elim | exact z.elim)
theorem j_if_geN_f {a : Nat} {off : Int} {tgt : Nat} (hdg : decode cc pc = .ok (.ifCond .ge off, 3)) (ht : (pc : Int) + off = (tgt : Int)) (ha : a < 2 ^ 31) (q : False) (k : jJ n d cc nL own (pc + 3) L st h res) : jJ n d cc nL own pc L (.int (nI a) :: st) h res := j_if_geN hdg ht ha (fun z => by first | exact z.elim | exact q.elim) (fun _ => k)
theorem j_icmp_eqN {a b : Nat} {off : Int} {tgt : Nat} (hdg : decode cc pc = .ok (.if_icmp .eq off, 3)) (ht : (pc : Int) + off = (tgt : Int)) (ha : a < 2 ^ 31) (hb : b < 2 ^ 31) (kt : a = b → jJ n d cc nL own tgt L st h res) (kf : ¬ a = b → jJ n d cc nL own (pc + 3) L st h res) : jJ n d cc nL own pc L (.int (nI b) :: .int (nI a) :: st) h res := j_icmp_eq hdg ht (fun q => kt ((nI_eq ha hb).1 q)) (fun q => kf (fun z => q ((nI_eq ha hb).2 z)))
theorem j_icmp_eqN_t {a b : Nat} {off : Int} {tgt : Nat} (hdg : decode cc pc = .ok (.if_icmp .eq off, 3)) (ht : (pc : Int) + off = (tgt : Int)) (ha : a < 2 ^ 31) (hb : b < 2 ^ 31) (q : a = b) (k : jJ n d cc nL own tgt L st h res) : jJ n d cc nL own pc L (.int (nI b) :: .int (nI a) :: st) h res := j_icmp_eqN hdg ht ha hb (fun _ => k) (fun z => absurd q (by first | exact z | exact fun w => w z))
theorem j_icmp_eqN_f {a b : Nat} {off : Int} {tgt : Nat} (hdg : decode cc pc = .ok (.if_icmp .eq off, 3)) (ht : (pc : Int) + off = (tgt : Int)) (ha : a < 2 ^ 31) (hb : b < 2 ^ 31) (q : ¬ a = b) (k : jJ n d cc nL own (pc + 3) L st h res) : jJ n d cc nL own pc L (.int (nI b) :: .int (nI a) :: st) h res := j_icmp_eqN hdg ht ha hb (fun z => absurd z (by first | exact q | exact fun w => w q)) (fun _ => k)
theorem j_icmp_neN {a b : Nat} {off : Int} {tgt : Nat} (hdg : decode cc pc = .ok (.if_icmp .ne off, 3)) (ht : (pc : Int) + off = (tgt : Int)) (ha : a < 2 ^ 31) (hb : b < 2 ^ 31) (kt : ¬ a = b → jJ n d cc nL own tgt L st h res) (kf : a = b → jJ n d cc nL own (pc + 3) L st h res) : jJ n d cc nL own pc L (.int (nI b) :: .int (nI a) :: st) h res := j_icmp_ne hdg ht (fun q => kt (fun z => q ((nI_eq ha hb).2 z))) (fun q => kf ((nI_eq ha hb).1 q))
theorem j_icmp_neN_t {a b : Nat} {off : Int} {tgt : Nat} (hdg : decode cc pc = .ok (.if_icmp .ne off, 3)) (ht : (pc : Int) + off = (tgt : Int)) (ha : a < 2 ^ 31) (hb : b < 2 ^ 31) (q : ¬ a = b) (k : jJ n d cc nL own tgt L st h res) : jJ n d cc nL own pc L (.int (nI b) :: .int (nI a) :: st) h res := j_icmp_neN hdg ht ha hb (fun _ => k) (fun z => absurd q (by first | exact z | exact fun w => w z))
theorem j_icmp_neN_f {a b : Nat} {off : Int} {tgt : Nat} (hdg : decode cc pc = .ok (.if_icmp .ne off, 3)) (ht : (pc : Int) + off = (tgt : Int)) (ha : a < 2 ^ 31) (hb : b < 2 ^ 31) (q : a = b) (k : jJ n d cc nL own (pc + 3) L st h res) : jJ n d cc nL own pc L (.int (nI b) :: .int (nI a) :: st) h res := j_icmp_neN hdg ht ha hb (fun z => absurd z (by first | exact q | exact fun w => w q)) (fun _ => k)
theorem j_icmp_ltN {a b : Nat} {off : Int} {tgt : Nat} (hdg : decode cc pc = .ok (.if_icmp .lt off, 3)) (ht : (pc : Int) + off = (tgt : Int)) (ha : a < 2 ^ 31) (hb : b < 2 ^ 31) (kt : a < b → jJ n d cc nL own tgt L st h res) (kf : ¬ a < b → jJ n d cc nL own (pc + 3) L st h res) : jJ n d cc nL own pc L (.int (nI b) :: .int (nI a) :: st) h res := j_icmp_lt hdg ht (fun q => kt ((nI_ltI ha hb).1 q)) (fun q => kf (fun z => q ((nI_ltI ha hb).2 z)))
theorem j_icmp_ltN_t {a b : Nat} {off : Int} {tgt : Nat} (hdg : decode cc pc = .ok (.if_icmp .lt off, 3)) (ht : (pc : Int) + off = (tgt : Int)) (ha : a < 2 ^ 31) (hb : b < 2 ^ 31) (q : a < b) (k : jJ n d cc nL own tgt L st h res) : jJ n d cc nL own pc L (.int (nI b) :: .int (nI a) :: st) h res := j_icmp_ltN hdg ht ha hb (fun _ => k) (fun z => absurd q (by first | exact z | exact fun w => w z))
theorem j_icmp_ltN_f {a b : Nat} {off : Int} {tgt : Nat} (hdg : decode cc pc = .ok (.if_icmp .lt off, 3)) (ht : (pc : Int) + off = (tgt : Int)) (ha : a < 2 ^ 31) (hb : b < 2 ^ 31) (q : ¬ a < b) (k : jJ n d cc nL own (pc + 3) L st h res) : jJ n d cc nL own pc L (.int (nI b) :: .int (nI a) :: st) h res := j_icmp_ltN hdg ht ha hb (fun z => absurd z (by first | exact q | exact fun w => w q)) (fun _ => k)
theorem j_icmp_geN {a b : Nat} {off : Int} {tgt : Nat} (hdg : decode cc pc = .ok (.if_icmp .ge off, 3)) (ht : (pc : Int) + off = (tgt : Int)) (ha : a < 2 ^ 31) (hb : b < 2 ^ 31) (kt : b ≤ a → jJ n d cc nL own tgt L st h res) (kf : ¬ b ≤ a → jJ n d cc nL own (pc + 3) L st h res) : jJ n d cc nL own pc L (.int (nI b) :: .int (nI a) :: st) h res := j_icmp_ge hdg ht (fun q => kt ((nI_leI hb ha).1 q)) (fun q => kf (fun z => q ((nI_leI hb ha).2 z)))
theorem j_icmp_geN_t {a b : Nat} {off : Int} {tgt : Nat} (hdg : decode cc pc = .ok (.if_icmp .ge off, 3)) (ht : (pc : Int) + off = (tgt : Int)) (ha : a < 2 ^ 31) (hb : b < 2 ^ 31) (q : b ≤ a) (k : jJ n d cc nL own tgt L st h res) : jJ n d cc nL own pc L (.int (nI b) :: .int (nI a) :: st) h res := j_icmp_geN hdg ht ha hb (fun _ => k) (fun z => absurd q (by first | exact z | exact fun w => w z))
theorem j_icmp_geN_f {a b : Nat} {off : Int} {tgt : Nat} (hdg : decode cc pc = .ok (.if_icmp .ge off, 3)) (ht : (pc : Int) + off = (tgt : Int)) (ha : a < 2 ^ 31) (hb : b < 2 ^ 31) (q : ¬ b ≤ a) (k : jJ n d cc nL own (pc + 3) L st h res) : jJ n d cc nL own pc L (.int (nI b) :: .int (nI a) :: st) h res := j_icmp_geN hdg ht ha hb (fun z => absurd z (by first | exact q | exact fun w => w q)) (fun _ => k)
theorem j_icmp_gtN {a b : Nat} {off : Int} {tgt : Nat} (hdg : decode cc pc = .ok (.if_icmp .gt off, 3)) (ht : (pc : Int) + off = (tgt : Int)) (ha : a < 2 ^ 31) (hb : b < 2 ^ 31) (kt : b < a → jJ n d cc nL own tgt L st h res) (kf : ¬ b < a → jJ n d cc nL own (pc + 3) L st h res) : jJ n d cc nL own pc L (.int (nI b) :: .int (nI a) :: st) h res := j_icmp_gt hdg ht (fun q => kt ((nI_ltI hb ha).1 q)) (fun q => kf (fun z => q ((nI_ltI hb ha).2 z)))
theorem j_icmp_gtN_t {a b : Nat} {off : Int} {tgt : Nat} (hdg : decode cc pc = .ok (.if_icmp .gt off, 3)) (ht : (pc : Int) + off = (tgt : Int)) (ha : a < 2 ^ 31) (hb : b < 2 ^ 31) (q : b < a) (k : jJ n d cc nL own tgt L st h res) : jJ n d cc nL own pc L (.int (nI b) :: .int (nI a) :: st) h res := j_icmp_gtN hdg ht ha hb (fun _ => k) (fun z => absurd q (by first | exact z | exact fun w => w z))
theorem j_icmp_gtN_f {a b : Nat} {off : Int} {tgt : Nat} (hdg : decode cc pc = .ok (.if_icmp .gt off, 3)) (ht : (pc : Int) + off = (tgt : Int)) (ha : a < 2 ^ 31) (hb : b < 2 ^ 31) (q : ¬ b < a) (k : jJ n d cc nL own (pc + 3) L st h res) : jJ n d cc nL own pc L (.int (nI b) :: .int (nI a) :: st) h res := j_icmp_gtN hdg ht ha hb (fun z => absurd z (by first | exact q | exact fun w => w q)) (fun _ => k)
theorem j_icmp_leN {a b : Nat} {off : Int} {tgt : Nat} (hdg : decode cc pc = .ok (.if_icmp .le off, 3)) (ht : (pc : Int) + off = (tgt : Int)) (ha : a < 2 ^ 31) (hb : b < 2 ^ 31) (kt : a ≤ b → jJ n d cc nL own tgt L st h res) (kf : ¬ a ≤ b → jJ n d cc nL own (pc + 3) L st h res) : jJ n d cc nL own pc L (.int (nI b) :: .int (nI a) :: st) h res := j_icmp_le hdg ht (fun q => kt ((nI_leI ha hb).1 q)) (fun q => kf (fun z => q ((nI_leI ha hb).2 z)))
theorem j_icmp_leN_t {a b : Nat} {off : Int} {tgt : Nat} (hdg : decode cc pc = .ok (.if_icmp .le off, 3)) (ht : (pc : Int) + off = (tgt : Int)) (ha : a < 2 ^ 31) (hb : b < 2 ^ 31) (q : a ≤ b) (k : jJ n d cc nL own tgt L st h res) : jJ n d cc nL own pc L (.int (nI b) :: .int (nI a) :: st) h res := j_icmp_leN hdg ht ha hb (fun _ => k) (fun z => absurd q (by first | exact z | exact fun w => w z))
theorem j_icmp_leN_f {a b : Nat} {off : Int} {tgt : Nat} (hdg : decode cc pc = .ok (.if_icmp .le off, 3)) (ht : (pc : Int) + off = (tgt : Int)) (ha : a < 2 ^ 31) (hb : b < 2 ^ 31) (q : ¬ a ≤ b) (k : jJ n d cc nL own (pc + 3) L st h res) : jJ n d cc nL own pc L (.int (nI b) :: .int (nI a) :: st) h res := j_icmp_leN hdg ht ha hb (fun z => absurd z (by first | exact q | exact fun w => w q)) (fun _ => k)
theorem j_if_eqB {b : Bool} {off : Int} {tgt : Nat} (hdg : decode cc pc = .ok (.ifCond .eq off, 3)) (ht : (pc : Int) + off = (tgt : Int)) (kt : b = false → jJ n d cc nL own tgt L st h res) (kf : b = true → jJ n d cc nL own (pc + 3) L st h res) : jJ n d cc nL own pc L (.int (jbo b) :: st) h res := j_if_eq hdg ht (fun q => kt (by cases b with | false => rfl | true => exact absurd q (by decide))) (fun q => kf (by cases b with | true => rfl | false => exact absurd rfl q))
theorem j_if_eqB_t {b : Bool} {off : Int} {tgt : Nat} (hdg : decode cc pc = .ok (.ifCond .eq off, 3)) (ht : (pc : Int) + off = (tgt : Int)) (q : b = false) (k : jJ n d cc nL own tgt L st h res) : jJ n d cc nL own pc L (.int (jbo b) :: st) h res := j_if_eqB hdg ht (fun _ => k) (fun z => absurd (q.symm.trans z) (by decide))
theorem j_if_eqB_f {b : Bool} {off : Int} {tgt : Nat} (hdg : decode cc pc = .ok (.ifCond .eq off, 3)) (ht : (pc : Int) + off = (tgt : Int)) (q : b = true) (k : jJ n d cc nL own (pc + 3) L st h res) : jJ n d cc nL own pc L (.int (jbo b) :: st) h res := j_if_eqB hdg ht (fun z => absurd (q.symm.trans z) (by decide)) (fun _ => k)
theorem j_if_neB {b : Bool} {off : Int} {tgt : Nat} (hdg : decode cc pc = .ok (.ifCond .ne off, 3)) (ht : (pc : Int) + off = (tgt : Int)) (kt : b = true → jJ n d cc nL own tgt L st h res) (kf : b = false → jJ n d cc nL own (pc + 3) L st h res) : jJ n d cc nL own pc L (.int (jbo b) :: st) h res := j_if_ne hdg ht (fun q => kt (by cases b with | true => rfl | false => exact absurd rfl q)) (fun q => kf (by cases b with | false => rfl | true => exact absurd q (by decide)))
theorem j_if_neB_t {b : Bool} {off : Int} {tgt : Nat} (hdg : decode cc pc = .ok (.ifCond .ne off, 3)) (ht : (pc : Int) + off = (tgt : Int)) (q : b = true) (k : jJ n d cc nL own tgt L st h res) : jJ n d cc nL own pc L (.int (jbo b) :: st) h res := j_if_neB hdg ht (fun _ => k) (fun z => absurd (q.symm.trans z) (by decide))
theorem j_if_neB_f {b : Bool} {off : Int} {tgt : Nat} (hdg : decode cc pc = .ok (.ifCond .ne off, 3)) (ht : (pc : Int) + off = (tgt : Int)) (q : b = false) (k : jJ n d cc nL own (pc + 3) L st h res) : jJ n d cc nL own pc L (.int (jbo b) :: st) h res := j_if_neB hdg ht (fun z => absurd (q.symm.trans z) (by decide)) (fun _ => k)
theorem j_icmp_eqB {b : Bool} {off : Int} {tgt : Nat} (hdg : decode cc pc = .ok (.if_icmp .eq off, 3)) (ht : (pc : Int) + off = (tgt : Int)) (kt : b = true → jJ n d cc nL own tgt L st h res) (kf : b = false → jJ n d cc nL own (pc + 3) L st h res) : jJ n d cc nL own pc L (.int (nI 1) :: .int (jbo b) :: st) h res := j_icmp_eq hdg ht (fun q => kt (by cases b with | true => rfl | false => exact absurd q (by decide))) (fun q => kf (by cases b with | false => rfl | true => exact absurd rfl q))
theorem j_icmp_neB {b : Bool} {off : Int} {tgt : Nat} (hdg : decode cc pc = .ok (.if_icmp .ne off, 3)) (ht : (pc : Int) + off = (tgt : Int)) (kt : b = false → jJ n d cc nL own tgt L st h res) (kf : b = true → jJ n d cc nL own (pc + 3) L st h res) : jJ n d cc nL own pc L (.int (nI 1) :: .int (jbo b) :: st) h res := j_icmp_ne hdg ht (fun q => kt (by cases b with | false => rfl | true => exact absurd rfl q)) (fun q => kf (by cases b with | true => rfl | false => exact absurd q (by decide)))
theorem jbo01 (b : Bool) : jbo b = 0 ∨ jbo b = 1 := by cases b <;> simp [jbo]
theorem ni_bit (m j : Nat) : nI (m / 2 ^ j &&& 1) = jbo (m.testBit j) := by
  rw [Nat.testBit_eq_decide_div_mod_eq, Nat.and_one_is_mod]
  have h := Nat.mod_two_eq_zero_or_one (m / 2 ^ j)
  rcases h with h | h <;> rw [h] <;> rfl
theorem j_shl1N {j : Nat} (hdg : decode cc pc = .ok (.ishl, 1)) (hj : j < 31) (k : jJ n d cc nL own (pc + 1) L (.int (nI (2 ^ j)) :: st) h res) : jJ n d cc nL own pc L (.int (nI j) :: .int (nI 1) :: st) h res :=
  j_ishlN hdg (by omega) (by rw [Nat.one_mul]; exact Nat.pow_lt_pow_right (by omega) (by omega)) (by rw [Nat.one_mul]; exact k)
theorem j_callVs {d' idx a ci maxL N np : Nat} {y : MethodName} {bytes : ByteArray} {ret : Option FieldType} {As : List Value} {v : Value} {h1 : jH} {st0 : List Value} (hC : jC n d' y bytes maxL ret (.ref a :: As) h (some v) h1) (hdg : decode cc pc = .ok (.invokevirtual idx, 3)) (hd : d' < d) (hm : jMi y bytes maxL ret np)
    (hlink : Cond.methodLink own idx y ∈ jtbl) (hin : Cond.instanceMethod y ∈ jtbl) (hsel : Cond.selects y.cls y y ∈ jtbl) (hs : jsh a = (ci, N)) (hci : ci < 20) (hcl : (jcl[ci]?).map (·.1) = some y.cls) (hnp : As.length = np) (hsz : st.length ≤ 4) (hst : st0 = As.reverse ++ .ref a :: st)
    (kk : jJ n d cc nL own (pc + 3) L (v :: st) h1 res) : jJ n d cc nL own pc L st0 h res := j_callV hC hdg hd hm hlink hin hsel hs hci hcl hnp hsz hst kk
theorem j_callVn {d' idx a ci maxL N np : Nat} {y : MethodName} {bytes : ByteArray} {ret : Option FieldType} {As : List Value} {h1 : jH} {st0 : List Value} (hC : jC n d' y bytes maxL ret (.ref a :: As) h none h1) (hdg : decode cc pc = .ok (.invokevirtual idx, 3)) (hd : d' < d) (hm : jMi y bytes maxL ret np)
    (hlink : Cond.methodLink own idx y ∈ jtbl) (hin : Cond.instanceMethod y ∈ jtbl) (hsel : Cond.selects y.cls y y ∈ jtbl) (hs : jsh a = (ci, N)) (hci : ci < 20) (hcl : (jcl[ci]?).map (·.1) = some y.cls) (hnp : As.length = np) (hsz : st.length ≤ 4) (hst : st0 = As.reverse ++ .ref a :: st)
    (kk : jJ n d cc nL own (pc + 3) L st h1 res) : jJ n d cc nL own pc L st0 h res := j_callV hC hdg hd hm hlink hin hsel hs hci hcl hnp hsz hst kk
theorem j_callSs {d' idx maxL np : Nat} {y : MethodName} {bytes : ByteArray} {ret : Option FieldType} {As : List Value} {v : Value} {h1 : jH} {st0 : List Value} (hC : jC n d' y bytes maxL ret As h (some v) h1) (hdg : decode cc pc = .ok (.invokestatic idx, 3)) (hd : d' < d) (hm : jMi y bytes maxL ret np)
    (hlink : Cond.methodLink own idx y ∈ jtbl) (hin : Cond.static y ∈ jtbl) (hnp : As.length = np) (hsz : st.length ≤ 4) (hst : st0 = As.reverse ++ st)
    (kk : jJ n d cc nL own (pc + 3) L (v :: st) h1 res) : jJ n d cc nL own pc L st0 h res := j_callS hC hdg hd hm hlink hin hnp hsz hst kk
end
abbrev jT : Type := Nat × (Nat → Nat)
abbrev jP : Type := Nat → jT
/-- the reference's places over a heap -/
def jM (h : jH) (P : jP) : jH := fun a => if a = 136 then fun k => nI ((P (k / 12)).2 (k % 12)) else if a = 137 then fun k => nI (P k).1 else h a
def jset (P : jP) (p : Nat) (T : jT) : jP := fun q => if q = p then T else P q
def jor : Nat → (Nat → Nat) → Nat
  | 0, _ => 0
  | k + 1, f => jor k f ||| f k
def jall : Nat → (Nat → Bool) → Bool
  | 0, _ => true
  | k + 1, f => jall k f && f k
def jsum : Nat → (Nat → Nat) → Nat
  | 0, _ => 0
  | k + 1, f => jsum k f + f k
theorem jor_t {k : Nat} {f : Nat → Nat} {v : Nat} (h : f k = v) : jor k f ||| v = jor (k + 1) f := by rw [← h]; rfl
theorem jor_z {k : Nat} {f : Nat → Nat} (h : f k = 0) : jor k f = jor (k + 1) f := by
  show _ = jor k f ||| f k
  rw [h, Nat.or_zero]
theorem jset_eq {P : jP} {p : Nat} {T : jT} : jset P p T p = T := by simp [jset]
theorem jset_ne {P : jP} {p q : Nat} {T : jT} (h : q ≠ p) : jset P p T q = P q := by simp [jset, h]
theorem jM_ext {h : jH} {P Q : jP} (h1 : ∀ q, (P q).1 = (Q q).1) (h2 : ∀ q i, i < 12 → (P q).2 i = (Q q).2 i) : jM h P = jM h Q := by
  funext a k
  simp only [jM]
  split
  · dsimp only
    rw [h2 (k / 12) (k % 12) (by omega)]
  · split
    · dsimp only
      rw [h1 k]
    · rfl
theorem jM_cg {h : jH} {P : jP} {p m m' : Nat} {F F' : Nat → Nat} (hm : m = m') (hF : ∀ j, j < 12 → F j = F' j) : jM h (jset P p (m, F)) = jM h (jset P p (m', F')) := by
  subst hm
  refine jM_ext (fun q => ?_) (fun q i hi => ?_)
  · by_cases e : q = p <;> simp [jset, e]
  · by_cases e : q = p
    · simp [jset, e, hF i hi]
    · simp [jset, e]
theorem jM_row {h : jH} {P : jP} {p i : Nat} (hi : i < 12) : jM h P 136 (12 * p + i) = nI ((P p).2 i) := by
  have h1 : (12 * p + i) / 12 = p := by omega
  have h2 : (12 * p + i) % 12 = i := by omega
  simp [jM, h1, h2]
theorem jM_row_p {h : jH} {P : jP} {p i m : Nat} {F : Nat → Nat} (hi : i < 12) : jM h (jset P p (m, F)) 136 (12 * p + i) = nI (F i) := by rw [jM_row hi, jset_eq]
theorem jM_row_ne {h : jH} {P : jP} {p q i : Nat} {T : jT} (hi : i < 12) (hq : q ≠ p) : jM h (jset P p T) 136 (12 * q + i) = nI ((P q).2 i) := by rw [jM_row hi, jset_ne hq]
theorem jM_size_p {h : jH} {P : jP} {p m : Nat} {F : Nat → Nat} : jM h (jset P p (m, F)) 137 p = nI m := by
  show nI (jset P p (m, F) p).1 = nI m
  rw [jset_eq]
theorem jM_size_ne {h : jH} {P : jP} {p q : Nat} {T : jT} (hq : q ≠ p) : jM h (jset P p T) 137 q = nI (P q).1 := by
  show nI (jset P p T q).1 = _
  rw [jset_ne hq]
theorem jM_set_size {h : jH} {P : jP} {p v : Nat} : jup2 (jM h P) 137 p (nI v) = jM h (jset P p (v, (P p).2)) := by
  funext a k
  simp only [jup2, jM, jset]
  by_cases h1 : a = 137
  · subst h1
    by_cases h2 : k = p <;> simp [h2]
  · by_cases h3 : a = 136
    · subst h3
      by_cases h2 : k / 12 = p <;> simp [h2]
    · simp [h1, h3]
theorem jM_set_size_p {h : jH} {P : jP} {p v m : Nat} {F : Nat → Nat} : jup2 (jM h (jset P p (m, F))) 137 p (nI v) = jM h (jset P p (v, F)) := by
  rw [jM_set_size, jset_eq]
  congr 1
  funext q
  by_cases e : q = p <;> simp [jset, e]
theorem jM_set_row {h : jH} {P : jP} {p i v : Nat} (hi : i < 12) : jup2 (jM h P) 136 (12 * p + i) (nI v) = jM h (jset P p ((P p).1, fun j => if j = i then v else (P p).2 j)) := by
  funext a k
  simp only [jup2, jM, jset]
  by_cases h1 : a = 136
  · subst h1
    by_cases h2 : k / 12 = p
    · by_cases h3 : k % 12 = i
      · have : k = 12 * p + i := by omega
        subst this
        simp [h2, h3]
      · have : ¬ k = 12 * p + i := by omega
        simp [h2, h3, this]
    · have : ¬ k = 12 * p + i := by omega
      simp [h2, this]
  · by_cases h3 : a = 137
    · subst h3
      by_cases h4 : k = p <;> simp [h4]
    · simp [h1, h3]
theorem jM_set_row_p {h : jH} {P : jP} {p i v m : Nat} {F : Nat → Nat} (hi : i < 12) : jup2 (jM h (jset P p (m, F))) 136 (12 * p + i) (nI v) = jM h (jset P p (m, fun j => if j = i then v else F j)) := by
  rw [jM_set_row hi, jset_eq]
  congr 1
  funext q
  by_cases e : q = p <;> simp [jset, e]
theorem jM_set_other {h : jH} {P : jP} {a k : Nat} {v : Int32} (h1 : a ≠ 136) (h2 : a ≠ 137) : jup2 (jM h P) a k v = jM (jup2 h a k v) P := by
  funext a' k'
  simp only [jup2, jM]
  by_cases e : a' = a
  · subst e
    simp [h1, h2, jup2]
  · by_cases e1 : a' = 136
    · subst e1
      simp [e]
    · by_cases e2 : a' = 137
      · subst e2
        simp [e]
      · simp [e, e1, e2, jup2]
theorem jM_other {h : jH} {P : jP} {a : Nat} (h1 : a ≠ 136) (h2 : a ≠ 137) : jM h P a = h a := by simp [jM, h1, h2]
/-- tables: n, and the rows' numbers (0 from n on) -/
def tw (T : jT) : Prop := T.1 ≤ 12 ∧ (∀ i, T.2 i < 4096) ∧ ∀ i, T.1 ≤ i → T.2 i = 0
def tzero (m : Nat) : jT := (m, fun _ => 0)
def tunit (m : Nat) : jT := (m, fun i => if i < m then 2 ^ i else 0)
def trow (A B : jT) (i k : Nat) : Nat := jor k (fun l => if (A.2 i).testBit l then B.2 l else 0)
def tmul (A B : jT) : jT := (A.1, fun i => if i < A.1 then trow A B i A.1 else 0)
def tcol (A : jT) (j k : Nat) : Nat := jor k (fun i => if (A.2 i).testBit j then 2 ^ i else 0)
def ttr (A : jT) : jT := (A.1, fun j => if j < A.1 then tcol A j A.1 else 0)
def tco (A : jT) : jT := (A.1, fun i => if i < A.1 then (2 ^ A.1 - 1) &&& (4095 ^^^ A.2 i) else 0)
def tadd (A B : jT) : jT := (A.1, fun i => if i < A.1 then A.2 i ||| B.2 i else A.2 i)
def tmeet (A B : jT) : jT := (A.1, fun i => if i < A.1 then A.2 i &&& B.2 i else A.2 i)
def tsam (A B : jT) (k : Nat) : Bool := (A.1 == B.1) && jall k (fun i => A.2 i == B.2 i)
def tpo (A : jT) : Nat → jT
  | 0 => A
  | k + 1 => tmul (tpo A k) A
def jit {α : Type} (f : α → α) : Nat → α → α
  | 0, x => x
  | k + 1, x => f (jit f k x)
theorem tw_lt {T : jT} (h : tw T) (i : Nat) : T.2 i < 2 ^ 31 := Nat.lt_trans (h.2.1 i) (by omega)
theorem jor_lt {k m : Nat} {f : Nat → Nat} (h : ∀ i, i < k → f i < 2 ^ m) : jor k f < 2 ^ m := by
  induction k with
  | zero => exact Nat.two_pow_pos m
  | succ k ih => exact Nat.or_lt_two_pow (ih fun i hi => h i (by omega)) (h k (by omega))
theorem p2_lt {i : Nat} (h : i < 12) : 2 ^ i < 4096 := Nat.pow_lt_pow_right (a := 2) (n := 12) (by omega) h
theorem tw_zero {m : Nat} (hm : m ≤ 12) : tw (tzero m) := ⟨hm, fun _ => by simp [tzero], fun _ _ => rfl⟩
theorem tw_unit {m : Nat} (hm : m ≤ 12) : tw (tunit m) := by
  refine ⟨hm, fun i => ?_, fun i hi => ?_⟩
  · simp only [tunit]
    split
    · exact p2_lt (by omega)
    · omega
  · have : ¬ i < m := Nat.not_lt.mpr hi
    simp [tunit, this]
theorem trow_lt {A B : jT} (hB : tw B) (i k : Nat) : trow A B i k < 4096 := jor_lt (m := 12) fun l _ => by
  split
  · exact hB.2.1 l
  · omega
theorem tw_mul {A B : jT} (hA : tw A) (hB : tw B) : tw (tmul A B) := by
  refine ⟨hA.1, fun i => ?_, fun i hi => ?_⟩
  · simp only [tmul]
    split
    · exact trow_lt hB i _
    · omega
  · have : ¬ i < A.1 := Nat.not_lt.mpr hi
    simp [tmul, this]
theorem tcol_lt {A : jT} {j k : Nat} (hk : k ≤ 12) : tcol A j k < 4096 := jor_lt (m := 12) fun l hl => by
  split
  · exact p2_lt (by omega)
  · omega
theorem tw_tr {A : jT} (hA : tw A) : tw (ttr A) := by
  refine ⟨hA.1, fun i => ?_, fun i hi => ?_⟩
  · simp only [ttr]
    split
    · exact tcol_lt hA.1
    · omega
  · have : ¬ i < A.1 := Nat.not_lt.mpr hi
    simp [ttr, this]
theorem tco_lt (a b : Nat) (ha : b < 4096) : a &&& (4095 ^^^ b) < 4096 := Nat.and_lt_two_pow (n := 12) a (Nat.xor_lt_two_pow (n := 12) (by omega) ha)
theorem tw_co {A : jT} (hA : tw A) : tw (tco A) := by
  refine ⟨hA.1, fun i => ?_, fun i hi => ?_⟩
  · simp only [tco]
    split
    · exact tco_lt _ _ (hA.2.1 i)
    · omega
  · have : ¬ i < A.1 := Nat.not_lt.mpr hi
    simp [tco, this]
theorem tw_add {A B : jT} (hA : tw A) (hB : tw B) : tw (tadd A B) := by
  refine ⟨hA.1, fun i => ?_, fun i hi => ?_⟩
  · simp only [tadd]
    split
    · exact Nat.or_lt_two_pow (n := 12) (hA.2.1 i) (hB.2.1 i)
    · exact hA.2.1 i
  · have : ¬ i < A.1 := Nat.not_lt.mpr hi
    simp only [tadd, this, if_false]
    exact hA.2.2 i hi
theorem tw_meet {A B : jT} (hA : tw A) (hB : tw B) : tw (tmeet A B) := by
  refine ⟨hA.1, fun i => ?_, fun i hi => ?_⟩
  · simp only [tmeet]
    split
    · exact Nat.and_lt_two_pow (n := 12) _ (hB.2.1 i)
    · exact hA.2.1 i
  · have : ¬ i < A.1 := Nat.not_lt.mpr hi
    simp only [tmeet, this, if_false]
    exact hA.2.2 i hi
theorem tw_po {A : jT} (hA : tw A) : ∀ k, tw (tpo A k)
  | 0 => hA
  | k + 1 => tw_mul (tw_po hA k) hA
theorem tws {P : jP} {p : Nat} {T : jT} (hP : ∀ q, tw (P q)) (hT : tw T) : ∀ q, tw (jset P p T q) := fun q => by
  simp only [jset]
  split
  · exact hT
  · exact hP q
theorem jM_P {h : jH} {P Q : jP} (e : ∀ q, P q = Q q) : jM h P = jM h Q := by rw [show P = Q from funext e]
section
variable {n : jN} {d : Nat} {cc : ByteArray} {nL : Nat} {own : String} {pc : Nat} {L L' : List (Option Value)} {st : List Value} {h : jH} {res : Option Value × jH}
/-- a place of the locals isn't looked at any more -/
theorem j_forget {i : Nat} (hL : L.set i none = L') (k : jJ n d cc nL own pc L' st h res) : jJ n d cc nL own pc L st h res :=
  fun p l e R s m args below meth c cells slots Q X hr ls H locs hl hP hS => k p l e R s m args below meth c cells slots Q X hr ls H locs ⟨hl.1, hl.2.1, fun j v hj => hl.2.2 j v (by
    subst hL
    rw [List.getElem?_set] at hj
    split at hj
    · split at hj <;> cases hj
    · exact hj)⟩ hP hS
end
theorem jlt_s {j k : Nat} (h : ¬ j = k) : (j < k + 1) = (j < k) := propext (by omega)


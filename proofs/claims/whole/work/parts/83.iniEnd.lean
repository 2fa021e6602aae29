theorem arrV_cg {cA : ClassId} {N : Nat} {f g : Nat → Value} (h : ∀ j, j < N → f j = g j) : arrV cA N f = arrV cA N g := by
  unfold arrV
  congr 2
  funext j
  exact h j.1 j.2
theorem i_fin {n : jN} {f : Nat → Nat} {H : Heap} (hP : va_P n.1 jcl (iws n 152 f) H) (hf : ∀ a, a < 152 → ful f a) : va_P n.1 jcl (jws n jh0) H := by
  intro k q hq
  have hk : k < 152 := by have := (List.getElem?_eq_some_iff.mp hq).1; rwa [jws_len] at this
  rw [jws_at hk] at hq
  cases hq
  have h1 := hP k _ (iws_at hk)
  have h2 := hf k hk
  obtain ⟨ci, N, hs⟩ : ∃ ci N, jsh k = (ci, N) := ⟨_, _, rfl⟩
  unfold ful at h2
  rw [hs] at h2
  dsimp only at h2
  by_cases c1 : ci < 20
  · have hN : N ≤ f k := h2.elim id (fun q => by rcases q.1 with e | e <;> omega)
    rw [iE_obj hs c1] at h1
    rw [jE_obj hs c1]
    have e : (List.range N).map (fun j => if jir ci j then (if j < f k then Value.ref (jB n + jrf k j) else .null) else .int (if j < f k then jh0 k j else 0)) = (List.range N).map (fun j => if jir ci j then .ref (jB n + jrf k j) else .int (jh0 k j)) := by
      apply List.map_congr_left
      intro j hj
      have hj2 : j < f k := Nat.lt_of_lt_of_le (List.mem_range.mp hj) hN
      rw [if_pos hj2, if_pos hj2]
    rw [e] at h1
    exact h1
  · by_cases c2 : ci < 22
    · rw [iE_int hs c1 c2] at h1
      rw [jE_int hs c1 c2]
      have h3 : H[jB n + k]? = some (vp_cell (n.2.1 ci) (N, .inl (fun j => if j < f k then jh0 k j else 0))) := h1
      show H[jB n + k]? = some (vp_cell (n.2.1 ci) (N, .inl (jh0 k)))
      rw [h3, vp_cell_i, vp_cell_i]
      congr 1
      refine arrV_cg (fun j hj => ?_)
      by_cases e : j < f k
      · rw [if_pos e]
      · rw [if_neg e]
        rcases h2 with q | q
        · omega
        · rw [q.2 j]
    · rw [iE_ref hs c1 c2] at h1
      rw [jE_ref hs c1 c2]
      have hN : N ≤ f k := h2.elim id (fun q => by rcases q.1 with e | e <;> omega)
      have h3 : H[jB n + k]? = some (vp_cell (n.2.1 ci) (N, .inr (.inr (.inr (.inr (fun j => if j < f k then some (jB n + jrf k j) else none)))))) := h1
      show H[jB n + k]? = some (vp_cell (n.2.1 ci) (N, .inr (.inr (.inr (.inr (fun j => some (jB n + jrf k j)))))))
      rw [h3, vp_cell_q, vp_cell_q]
      congr 1
      refine arrV_cg (fun j hj => ?_)
      rw [if_pos (show j < f k by omega)]
theorem jh0_k {a : Nat} (h : ok0 a) : jh0 a = fun _ => 0 := funext (ok0_z h)
theorem jh0_t {a k : Nat} (hk : 0 < k) (ht : a ≠ 149) : jh0 a k = 0 := by
  unfold jh0
  rw [if_neg (by omega), if_neg (by omega)]
/-- behind the constructors both sides stand alike -/
theorem Inv_ini : Inv jh0 := by
  have tw0 : tw (0, fun _ => 0) := ⟨by decide, fun _ => show (0 : Nat) < 4096 by decide, fun _ _ => rfl⟩
  have tv0 : tv (0, fun _ => 0) := ⟨by decide, fun _ => show (0 : Nat) < 2 ^ 0 by decide, fun _ _ => rfl⟩
  have rep0 : ∀ a, ok0 a → ok0 (a + 1) → rep jh0 a (0, fun _ => 0) := fun a h1 h2 => ⟨ok0_z h1 0, fun i hi => absurd hi (Nat.not_lt_zero i)⟩
  refine ⟨fun _ => (0, fun _ => 0), fun _ => 0, 0, (0, fun _ => 0, fun _ => 0), (0, 0, fun _ => 0), (fun k => if k < 4 then -1 else 0, fun _ => 0, fun _ _ => 0), ⟨fun _ => tw0, fun _ _ => tv0, Nat.zero_le _, fun k hk => absurd hk (Nat.not_lt_zero k), ⟨Nat.zero_le _, Nat.zero_le _⟩, fun _ => Nat.zero_le _, fun _ _ _ => rfl⟩, ⟨fun s hs => rep0 _ (by unfold ok0; omega) (by unfold ok0; omega), ⟨0, ok0_z (by decide) 1, by decide, ok0_z (by decide) 0, fun k hk => absurd hk (Nat.not_lt_zero k)⟩, ⟨ok0_z (by decide) 0, Nat.zero_le _, ok0_z (by decide) 1, fun l hl => absurd hl (Nat.not_lt_zero l)⟩, ⟨ok0_z (by decide) 2, ok0_z (by decide) 3, fun j hj => absurd hj (Nat.not_lt_zero j), fun j hj => absurd hj (Nat.not_lt_zero j)⟩, fun s hs => ⟨?_, jh0_t (by decide) (by omega), fun i hi => absurd hi (Nat.not_lt_zero i), Nat.zero_le _, ?_⟩⟩, ⟨jh0_k (by decide), ok0_z (by decide) 2, ⟨ok0_z (by decide) 4, fun l hl => absurd hl (Nat.not_lt_zero l)⟩, ⟨ok0_z (by decide) 7, ok0_z (by decide) 8, fun j hj => absurd hj (Nat.not_lt_zero j)⟩, ⟨0, ok0_z (by decide) 13⟩, ?_, jh0_k (by decide), jh0_k (by decide)⟩, jh0_k (by decide), jh0_k (by decide)⟩
  · show jh0 (127 + 2 * s) 0 = if s < 4 then -1 else 0
    rw [if_pos hs]
    unfold jh0
    rw [if_pos ⟨rfl, by omega⟩]
  · exact Or.inl (if_pos hs)
  · funext k
    show jh0 149 k = if k < 4 then -1 else 0
    unfold jh0
    rw [if_neg (by omega)]
    by_cases q : k < 4
    · rw [if_pos ⟨rfl, q⟩, if_pos q]
    · rw [if_neg (fun z => q z.2), if_neg q]

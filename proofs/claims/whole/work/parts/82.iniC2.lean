theorem ic_Powers {n : jN} {f : Nat → Nat} (h : ifr f 46) : iC n 1 jy_Powers_init jc_Powers_init 1 [.ref 46] 47 f 51 (iG f 46 51) := by
  have p0 := pr_ini h (by decide)
  refine iC_of (L := [some (.ref 46)]) jm_Powers_init rfl (Nat.le_of_ble_eq_true rfl) rfl ?_
  refine i_aload_n d_Powers_init_0 rfl ?_
  refine i_obj d_Powers_init_1 jk_Powers_1 jo_in jo_co (Nat.le_of_ble_eq_true rfl) (by decide) ?_
  refine i_aload_n d_Powers_init_4 rfl ?_
  refine i_new d_Powers_init_5 jn_Powers_7 rfl (pr_fr p0 _ (Nat.le_refl _)) (by decide) (by decide) ?_
  refine i_dup d_Powers_init_8 rfl ?_
  refine i_callN (As := []) (st := [.ref 47, .ref 46]) (ic_Table (by decide) (pr_fr p0)) d_Powers_init_9 (by decide) jm_Table_init jk_Powers_9 ji_Table_init rfl (by decide) rfl (Nat.le_of_ble_eq_true rfl) rfl (by decide) (by decide) (by decide) (fun h1 g1 => ?_)
  have p2 : iPr f 46 49 0 200 0 200 0 (h1) := pr_sub p0 g1 (by decide) (by decide) (by decide) (by decide) (by decide)
  refine i_putr d_Powers_init_12 if_Powers_10 rfl (by decide) rfl rfl (by decide) (by rw [pr_v p2]; decide) (fun g q0 q => ?_) ?_
  · rw [pr_v p2] at q0
    rcases (show g = 0 ∨ g = 1 by omega) with e | e <;> subst e
    · exact ⟨rfl, ok0_z (by decide) _⟩
    · exact ⟨rfl, ok0_z (by decide) _⟩
  have p3 : iPr f 46 49 3 200 0 200 0 (iup h1 46 3) := pr_put p2 (by decide) (by decide) (by decide)
  generalize iup h1 46 3 = f4 at p3 ⊢
  refine i_aload_n d_Powers_init_15 rfl ?_
  refine i_new d_Powers_init_16 jn_Powers_7 rfl (pr_fr p3 _ (Nat.le_refl _)) (by decide) (by decide) ?_
  refine i_dup d_Powers_init_19 rfl ?_
  refine i_callN (As := []) (st := [.ref 49, .ref 46]) (ic_Table (by decide) (pr_fr p3)) d_Powers_init_20 (by decide) jm_Table_init jk_Powers_9 ji_Table_init rfl (by decide) rfl (Nat.le_of_ble_eq_true rfl) rfl (by decide) (by decide) (by decide) (fun h5 g5 => ?_)
  have p6 : iPr f 46 51 3 200 0 200 0 (h5) := pr_sub p3 g5 (by decide) (by decide) (by decide) (by decide) (by decide)
  refine i_putr d_Powers_init_23 if_Powers_16 rfl (by decide) rfl rfl (by decide) (by rw [pr_v p6]; decide) (fun g q0 q => ?_) ?_
  · rw [pr_v p6] at q0
    exact absurd q (by omega)
  have p7 : iPr f 46 51 4 200 0 200 0 (iup h5 46 4) := pr_put p6 (by decide) (by decide) (by decide)
  generalize iup h5 46 4 = f8 at p7 ⊢
  exact i_exit ⟨d_Powers_init_26, rfl, rfl, pr_end p7 (by decide) (by decide)⟩
theorem ic_Rings {n : jN} {f : Nat → Nat} (h : ifr f 51) : iC n 1 jy_Rings_init jc_Rings_init 1 [.ref 51] 52 f 64 (iG f 51 64) := by
  have p0 := pr_ini h (by decide)
  refine iC_of (L := [some (.ref 51)]) jm_Rings_init rfl (Nat.le_of_ble_eq_true rfl) rfl ?_
  refine i_aload_n d_Rings_init_0 rfl ?_
  refine i_obj d_Rings_init_1 jk_Rings_1 jo_in jo_co (Nat.le_of_ble_eq_true rfl) (by decide) ?_
  refine i_aload_n d_Rings_init_4 rfl ?_
  refine i_bipush (v := nI 12) d_Rings_init_5 rfl ?_
  refine i_newa d_Rings_init_7 ja_int rfl rfl (by decide) (pr_fr p0 _ (Nat.le_refl _)) (by decide) (by decide) ?_
  have p1 : iPr f 51 53 0 200 0 200 0 (f) := pr_arr p0 (by decide) (ok0_z (by decide))
  refine i_putr d_Rings_init_9 if_Rings_9 rfl (by decide) rfl rfl (by decide) (by rw [pr_v p1]; decide) (fun g q0 q => ?_) ?_
  · rw [pr_v p1] at q0
    rw [show g = 0 by omega]
    exact ⟨rfl, ok0_z (by decide) _⟩
  have p2 : iPr f 51 53 2 200 0 200 0 (iup f 51 2) := pr_put p1 (by decide) (by decide) (by decide)
  generalize iup f 51 2 = f3 at p2 ⊢
  refine i_aload_n d_Rings_init_12 rfl ?_
  refine i_bipush (v := nI 12) d_Rings_init_13 rfl ?_
  refine i_newa d_Rings_init_15 ja_int rfl rfl (by decide) (pr_fr p2 _ (Nat.le_refl _)) (by decide) (by decide) ?_
  have p4 : iPr f 51 54 2 200 0 200 0 (f3) := pr_arr p2 (by decide) (ok0_z (by decide))
  refine i_putr d_Rings_init_17 if_Rings_15 rfl (by decide) rfl rfl (by decide) (by rw [pr_v p4]; decide) (fun g q0 q => ?_) ?_
  · rw [pr_v p4] at q0
    exact absurd q (by omega)
  have p5 : iPr f 51 54 3 200 0 200 0 (iup f3 51 3) := pr_put p4 (by decide) (by decide) (by decide)
  generalize iup f3 51 3 = f6 at p5 ⊢
  refine i_aload_n d_Rings_init_20 rfl ?_
  refine i_bipush (v := nI 12) d_Rings_init_21 rfl ?_
  refine i_newa d_Rings_init_23 ja_int rfl rfl (by decide) (pr_fr p5 _ (Nat.le_refl _)) (by decide) (by decide) ?_
  have p7 : iPr f 51 55 3 200 0 200 0 (f6) := pr_arr p5 (by decide) (ok0_z (by decide))
  refine i_putr d_Rings_init_25 if_Rings_18 rfl (by decide) rfl rfl (by decide) (by rw [pr_v p7]; decide) (fun g q0 q => ?_) ?_
  · rw [pr_v p7] at q0
    exact absurd q (by omega)
  have p8 : iPr f 51 55 4 200 0 200 0 (iup f6 51 4) := pr_put p7 (by decide) (by decide) (by decide)
  generalize iup f6 51 4 = f9 at p8 ⊢
  refine i_aload_n d_Rings_init_28 rfl ?_
  refine i_bipush (v := nI 12) d_Rings_init_29 rfl ?_
  refine i_newa d_Rings_init_31 ja_int rfl rfl (by decide) (pr_fr p8 _ (Nat.le_refl _)) (by decide) (by decide) ?_
  have p10 : iPr f 51 56 4 200 0 200 0 (f9) := pr_arr p8 (by decide) (ok0_z (by decide))
  refine i_putr d_Rings_init_33 if_Rings_21 rfl (by decide) rfl rfl (by decide) (by rw [pr_v p10]; decide) (fun g q0 q => ?_) ?_
  · rw [pr_v p10] at q0
    exact absurd q (by omega)
  have p11 : iPr f 51 56 5 200 0 200 0 (iup f9 51 5) := pr_put p10 (by decide) (by decide) (by decide)
  generalize iup f9 51 5 = f12 at p11 ⊢
  refine i_aload_n d_Rings_init_36 rfl ?_
  refine i_bipush (v := nI 12) d_Rings_init_37 rfl ?_
  refine i_newa d_Rings_init_39 ja_int rfl rfl (by decide) (pr_fr p11 _ (Nat.le_refl _)) (by decide) (by decide) ?_
  have p13 : iPr f 51 57 5 200 0 200 0 (f12) := pr_arr p11 (by decide) (ok0_z (by decide))
  refine i_putr d_Rings_init_41 if_Rings_24 rfl (by decide) rfl rfl (by decide) (by rw [pr_v p13]; decide) (fun g q0 q => ?_) ?_
  · rw [pr_v p13] at q0
    exact absurd q (by omega)
  have p14 : iPr f 51 57 6 200 0 200 0 (iup f12 51 6) := pr_put p13 (by decide) (by decide) (by decide)
  generalize iup f12 51 6 = f15 at p14 ⊢
  refine i_aload_n d_Rings_init_44 rfl ?_
  refine i_bipush (v := nI 12) d_Rings_init_45 rfl ?_
  refine i_newa d_Rings_init_47 ja_int rfl rfl (by decide) (pr_fr p14 _ (Nat.le_refl _)) (by decide) (by decide) ?_
  have p16 : iPr f 51 58 6 200 0 200 0 (f15) := pr_arr p14 (by decide) (ok0_z (by decide))
  refine i_putr d_Rings_init_49 if_Rings_27 rfl (by decide) rfl rfl (by decide) (by rw [pr_v p16]; decide) (fun g q0 q => ?_) ?_
  · rw [pr_v p16] at q0
    exact absurd q (by omega)
  have p17 : iPr f 51 58 7 200 0 200 0 (iup f15 51 7) := pr_put p16 (by decide) (by decide) (by decide)
  generalize iup f15 51 7 = f18 at p17 ⊢
  refine i_aload_n d_Rings_init_52 rfl ?_
  refine i_bipush (v := nI 12) d_Rings_init_53 rfl ?_
  refine i_newa d_Rings_init_55 ja_int rfl rfl (by decide) (pr_fr p17 _ (Nat.le_refl _)) (by decide) (by decide) ?_
  have p19 : iPr f 51 59 7 200 0 200 0 (f18) := pr_arr p17 (by decide) (ok0_z (by decide))
  refine i_putr d_Rings_init_57 if_Rings_30 rfl (by decide) rfl rfl (by decide) (by rw [pr_v p19]; decide) (fun g q0 q => ?_) ?_
  · rw [pr_v p19] at q0
    exact absurd q (by omega)
  have p20 : iPr f 51 59 8 200 0 200 0 (iup f18 51 8) := pr_put p19 (by decide) (by decide) (by decide)
  generalize iup f18 51 8 = f21 at p20 ⊢
  refine i_aload_n d_Rings_init_60 rfl ?_
  refine i_bipush (v := nI 12) d_Rings_init_61 rfl ?_
  refine i_newa d_Rings_init_63 ja_int rfl rfl (by decide) (pr_fr p20 _ (Nat.le_refl _)) (by decide) (by decide) ?_
  have p22 : iPr f 51 60 8 200 0 200 0 (f21) := pr_arr p20 (by decide) (ok0_z (by decide))
  refine i_putr d_Rings_init_65 if_Rings_33 rfl (by decide) rfl rfl (by decide) (by rw [pr_v p22]; decide) (fun g q0 q => ?_) ?_
  · rw [pr_v p22] at q0
    exact absurd q (by omega)
  have p23 : iPr f 51 60 9 200 0 200 0 (iup f21 51 9) := pr_put p22 (by decide) (by decide) (by decide)
  generalize iup f21 51 9 = f24 at p23 ⊢
  refine i_aload_n d_Rings_init_68 rfl ?_
  refine i_new d_Rings_init_69 jn_Rings_7 rfl (pr_fr p23 _ (Nat.le_refl _)) (by decide) (by decide) ?_
  refine i_dup d_Rings_init_72 rfl ?_
  refine i_callN (As := []) (st := [.ref 60, .ref 51]) (ic_Table (by decide) (pr_fr p23)) d_Rings_init_73 (by decide) jm_Table_init jk_Rings_36 ji_Table_init rfl (by decide) rfl (Nat.le_of_ble_eq_true rfl) rfl (by decide) (by decide) (by decide) (fun h25 g25 => ?_)
  have p26 : iPr f 51 62 9 200 0 200 0 (h25) := pr_sub p23 g25 (by decide) (by decide) (by decide) (by decide) (by decide)
  refine i_putr d_Rings_init_76 if_Rings_37 rfl (by decide) rfl rfl (by decide) (by rw [pr_v p26]; decide) (fun g q0 q => ?_) ?_
  · rw [pr_v p26] at q0
    exact absurd q (by omega)
  have p27 : iPr f 51 62 10 200 0 200 0 (iup h25 51 10) := pr_put p26 (by decide) (by decide) (by decide)
  generalize iup h25 51 10 = f28 at p27 ⊢
  refine i_aload_n d_Rings_init_79 rfl ?_
  refine i_new d_Rings_init_80 jn_Rings_7 rfl (pr_fr p27 _ (Nat.le_refl _)) (by decide) (by decide) ?_
  refine i_dup d_Rings_init_83 rfl ?_
  refine i_callN (As := []) (st := [.ref 62, .ref 51]) (ic_Table (by decide) (pr_fr p27)) d_Rings_init_84 (by decide) jm_Table_init jk_Rings_36 ji_Table_init rfl (by decide) rfl (Nat.le_of_ble_eq_true rfl) rfl (by decide) (by decide) (by decide) (fun h29 g29 => ?_)
  have p30 : iPr f 51 64 10 200 0 200 0 (h29) := pr_sub p27 g29 (by decide) (by decide) (by decide) (by decide) (by decide)
  refine i_putr d_Rings_init_87 if_Rings_41 rfl (by decide) rfl rfl (by decide) (by rw [pr_v p30]; decide) (fun g q0 q => ?_) ?_
  · rw [pr_v p30] at q0
    exact absurd q (by omega)
  have p31 : iPr f 51 64 11 200 0 200 0 (iup h29 51 11) := pr_put p30 (by decide) (by decide) (by decide)
  generalize iup h29 51 11 = f32 at p31 ⊢
  exact i_exit ⟨d_Rings_init_90, rfl, rfl, pr_end p31 (by decide) (by decide)⟩
theorem ic_Spaces {n : jN} {f : Nat → Nat} (h : ifr f 64) : iC n 1 jy_Spaces_init jc_Spaces_init 1 [.ref 64] 65 f 75 (iG f 64 75) := by
  have p0 := pr_ini h (by decide)
  refine iC_of (L := [some (.ref 64)]) jm_Spaces_init rfl (Nat.le_of_ble_eq_true rfl) rfl ?_
  refine i_aload_n d_Spaces_init_0 rfl ?_
  refine i_obj d_Spaces_init_1 jk_Spaces_1 jo_in jo_co (Nat.le_of_ble_eq_true rfl) (by decide) ?_
  refine i_aload_n d_Spaces_init_4 rfl ?_
  refine i_new d_Spaces_init_5 jn_Spaces_7 rfl (pr_fr p0 _ (Nat.le_refl _)) (by decide) (by decide) ?_
  refine i_dup d_Spaces_init_8 rfl ?_
  refine i_callN (As := []) (st := [.ref 65, .ref 64]) (ic_Table (by decide) (pr_fr p0)) d_Spaces_init_9 (by decide) jm_Table_init jk_Spaces_9 ji_Table_init rfl (by decide) rfl (Nat.le_of_ble_eq_true rfl) rfl (by decide) (by decide) (by decide) (fun h1 g1 => ?_)
  have p2 : iPr f 64 67 0 200 0 200 0 (h1) := pr_sub p0 g1 (by decide) (by decide) (by decide) (by decide) (by decide)
  refine i_putr d_Spaces_init_12 if_Spaces_10 rfl (by decide) rfl rfl (by decide) (by rw [pr_v p2]; decide) (fun g q0 q => ?_) ?_
  · rw [pr_v p2] at q0
    exact absurd q (by omega)
  have p3 : iPr f 64 67 1 200 0 200 0 (iup h1 64 1) := pr_put p2 (by decide) (by decide) (by decide)
  generalize iup h1 64 1 = f4 at p3 ⊢
  refine i_aload_n d_Spaces_init_15 rfl ?_
  refine i_new d_Spaces_init_16 jn_Spaces_7 rfl (pr_fr p3 _ (Nat.le_refl _)) (by decide) (by decide) ?_
  refine i_dup d_Spaces_init_19 rfl ?_
  refine i_callN (As := []) (st := [.ref 67, .ref 64]) (ic_Table (by decide) (pr_fr p3)) d_Spaces_init_20 (by decide) jm_Table_init jk_Spaces_9 ji_Table_init rfl (by decide) rfl (Nat.le_of_ble_eq_true rfl) rfl (by decide) (by decide) (by decide) (fun h5 g5 => ?_)
  have p6 : iPr f 64 69 1 200 0 200 0 (h5) := pr_sub p3 g5 (by decide) (by decide) (by decide) (by decide) (by decide)
  refine i_putr d_Spaces_init_23 if_Spaces_16 rfl (by decide) rfl rfl (by decide) (by rw [pr_v p6]; decide) (fun g q0 q => ?_) ?_
  · rw [pr_v p6] at q0
    exact absurd q (by omega)
  have p7 : iPr f 64 69 2 200 0 200 0 (iup h5 64 2) := pr_put p6 (by decide) (by decide) (by decide)
  generalize iup h5 64 2 = f8 at p7 ⊢
  refine i_aload_n d_Spaces_init_26 rfl ?_
  refine i_new d_Spaces_init_27 jn_Spaces_7 rfl (pr_fr p7 _ (Nat.le_refl _)) (by decide) (by decide) ?_
  refine i_dup d_Spaces_init_30 rfl ?_
  refine i_callN (As := []) (st := [.ref 69, .ref 64]) (ic_Table (by decide) (pr_fr p7)) d_Spaces_init_31 (by decide) jm_Table_init jk_Spaces_9 ji_Table_init rfl (by decide) rfl (Nat.le_of_ble_eq_true rfl) rfl (by decide) (by decide) (by decide) (fun h9 g9 => ?_)
  have p10 : iPr f 64 71 2 200 0 200 0 (h9) := pr_sub p7 g9 (by decide) (by decide) (by decide) (by decide) (by decide)
  refine i_putr d_Spaces_init_34 if_Spaces_19 rfl (by decide) rfl rfl (by decide) (by rw [pr_v p10]; decide) (fun g q0 q => ?_) ?_
  · rw [pr_v p10] at q0
    exact absurd q (by omega)
  have p11 : iPr f 64 71 3 200 0 200 0 (iup h9 64 3) := pr_put p10 (by decide) (by decide) (by decide)
  generalize iup h9 64 3 = f12 at p11 ⊢
  refine i_aload_n d_Spaces_init_37 rfl ?_
  refine i_new d_Spaces_init_38 jn_Spaces_7 rfl (pr_fr p11 _ (Nat.le_refl _)) (by decide) (by decide) ?_
  refine i_dup d_Spaces_init_41 rfl ?_
  refine i_callN (As := []) (st := [.ref 71, .ref 64]) (ic_Table (by decide) (pr_fr p11)) d_Spaces_init_42 (by decide) jm_Table_init jk_Spaces_9 ji_Table_init rfl (by decide) rfl (Nat.le_of_ble_eq_true rfl) rfl (by decide) (by decide) (by decide) (fun h13 g13 => ?_)
  have p14 : iPr f 64 73 3 200 0 200 0 (h13) := pr_sub p11 g13 (by decide) (by decide) (by decide) (by decide) (by decide)
  refine i_putr d_Spaces_init_45 if_Spaces_22 rfl (by decide) rfl rfl (by decide) (by rw [pr_v p14]; decide) (fun g q0 q => ?_) ?_
  · rw [pr_v p14] at q0
    exact absurd q (by omega)
  have p15 : iPr f 64 73 4 200 0 200 0 (iup h13 64 4) := pr_put p14 (by decide) (by decide) (by decide)
  generalize iup h13 64 4 = f16 at p15 ⊢
  refine i_aload_n d_Spaces_init_48 rfl ?_
  refine i_new d_Spaces_init_49 jn_Spaces_7 rfl (pr_fr p15 _ (Nat.le_refl _)) (by decide) (by decide) ?_
  refine i_dup d_Spaces_init_52 rfl ?_
  refine i_callN (As := []) (st := [.ref 73, .ref 64]) (ic_Table (by decide) (pr_fr p15)) d_Spaces_init_53 (by decide) jm_Table_init jk_Spaces_9 ji_Table_init rfl (by decide) rfl (Nat.le_of_ble_eq_true rfl) rfl (by decide) (by decide) (by decide) (fun h17 g17 => ?_)
  have p18 : iPr f 64 75 4 200 0 200 0 (h17) := pr_sub p15 g17 (by decide) (by decide) (by decide) (by decide) (by decide)
  refine i_putr d_Spaces_init_56 if_Spaces_25 rfl (by decide) rfl rfl (by decide) (by rw [pr_v p18]; decide) (fun g q0 q => ?_) ?_
  · rw [pr_v p18] at q0
    exact absurd q (by omega)
  have p19 : iPr f 64 75 5 200 0 200 0 (iup h17 64 5) := pr_put p18 (by decide) (by decide) (by decide)
  generalize iup h17 64 5 = f20 at p19 ⊢
  exact i_exit ⟨d_Spaces_init_59, rfl, rfl, pr_end p19 (by decide) (by decide)⟩
theorem lp_Log_is : ∀ i, i < 20 → isN (6 + 2 * i) := by decide
theorem lp_Log_rf : ∀ i, i < 20 → jrf 5 i = 6 + 2 * i := by decide
theorem lp_Log {n : jN} {f : Nat → Nat} {Ex : Nat → List (Option Value) → List Value → Nat → (Nat → Nat) → Prop} (kk : ∀ f1, iPr f 3 (46) 4 5 20 200 0 f1 → iJ n 1 jc_Log_init 2 "YesNoPowers$Log" 4 46 Ex 48 [some (.ref 3), some (.int (nI 20))] [] 46 f1) : ∀ k i f1, i + k = 20 → iPr f 3 (6 + 2 * i) 4 5 i 200 0 f1 → iJ n 1 jc_Log_init 2 "YesNoPowers$Log" 4 46 Ex 23 [some (.ref 3), some (.int (nI i))] [] (6 + 2 * i) f1
  | 0, i, f1, e, p => by
    obtain rfl : i = 20 := by omega
    refine i_iload_n d_Log_init_23 rfl ?_
    refine i_bipush (v := nI 20) d_Log_init_24 rfl ?_
    exact i_icmp_geN_t (tgt := 48) d_Log_init_26 (by decide) (by decide) (by decide) (Nat.le_refl _) (kk f1 p)
  | k + 1, i, f1, e, p => by
    refine i_iload_n d_Log_init_23 rfl ?_
    refine i_bipush (v := nI 20) d_Log_init_24 rfl ?_
    refine i_icmp_geN_f (tgt := 48) d_Log_init_26 (by decide) (by omega) (by decide) (by omega) ?_
    refine i_aload_n d_Log_init_29 rfl ?_
    refine i_getr d_Log_init_30 jf_Log_15 (a := 3) (b := 5) rfl (by omega) rfl rfl (by decide) (by rw [pr_v p]; decide) ?_
    refine i_iload_n d_Log_init_33 rfl ?_
    refine i_new d_Log_init_34 jn_Log_13 (lp_Log_is i (by omega)).1 (pr_fr p _ (Nat.le_refl _)) (by omega) (by omega) ?_
    refine i_dup d_Log_init_37 rfl ?_
    refine i_callN (As := []) (st := [.ref (6 + 2 * i), .int (nI i), .ref 5]) (ic_Table (lp_Log_is i (by omega)) (pr_fr p)) d_Log_init_38 (by decide) jm_Table_init jk_Log_19 ji_Table_init rfl (by omega) rfl (Nat.le_of_ble_eq_true rfl) rfl (by omega) (by omega) (by omega) (fun f2 g2 => ?_)
    have e1 : 6 + 2 * (i + 1) = 6 + 2 * i + 2 := by omega
    have p2 : iPr f 3 (6 + 2 * i + 2) 4 5 i 200 0 f2 := pr_sub p g2 (by omega) (by omega) (by omega) (by omega) (by omega)
    have p3 : iPr f 3 (6 + 2 * i + 2) 4 5 (i + 1) 200 0 (iup f2 5 (i + 1)) := pr_stx p2 (by omega) (by decide) (by decide)
    have ih := lp_Log kk k (i + 1) _ (by omega) (by rw [e1]; exact p3)
    rw [e1] at ih
    refine i_aast (t0 := 2) d_Log_init_41 rfl (by decide) (by decide) rfl (lp_Log_is i (by omega)).1 (by decide) rfl (by omega) (by omega) (by omega) (by decide) (pr_x p2) (lp_Log_rf i (by omega)) ?_
    refine i_iincN d_Log_init_42 rfl (by decide) rfl rfl ?_
    exact i_goto (tgt := 23) d_Log_init_45 (by decide) ih
theorem ic_Log {n : jN} {f : Nat → Nat} (h : ifr f 3) : iC n 1 jy_Log_init jc_Log_init 2 [.ref 3] 4 f 46 (iG f 3 46) := by
  have p0 := pr_ini h (by decide)
  refine iC_of (L := [some (.ref 3), none]) jm_Log_init rfl (Nat.le_of_ble_eq_true rfl) rfl ?_
  refine i_aload_n d_Log_init_0 rfl ?_
  refine i_obj d_Log_init_1 jk_Log_1 jo_in jo_co (Nat.le_of_ble_eq_true rfl) (by decide) ?_
  refine i_aload_n d_Log_init_4 rfl ?_
  refine i_bipush (v := nI 20) d_Log_init_5 rfl ?_
  refine i_newa d_Log_init_7 ja_int rfl rfl (by decide) (pr_fr p0 _ (Nat.le_refl _)) (by decide) (by decide) ?_
  have p1 : iPr f 3 5 0 200 0 200 0 (f) := pr_arr p0 (by decide) (ok0_z (by decide))
  refine i_putr d_Log_init_9 if_Log_9 rfl (by decide) rfl rfl (by decide) (by rw [pr_v p1]; decide) (fun g q0 q => ?_) ?_
  · rw [pr_v p1] at q0
    rcases (show g = 0 ∨ g = 1 by omega) with e | e <;> subst e
    · exact ⟨rfl, ok0_z (by decide) _⟩
    · exact ⟨rfl, ok0_z (by decide) _⟩
  have p2 : iPr f 3 5 3 200 0 200 0 (iup f 3 3) := pr_put p1 (by decide) (by decide) (by decide)
  generalize iup f 3 3 = f3 at p2 ⊢
  refine i_aload_n d_Log_init_12 rfl ?_
  refine i_bipush (v := nI 20) d_Log_init_13 rfl ?_
  refine i_anew (t0 := 2) d_Log_init_15 jz_Log_13 (by decide) rfl (by decide) (by decide) rfl rfl (by decide) (pr_fr p2 _ (Nat.le_refl _)) (by decide) (by decide) ?_
  have p4 : iPr f 3 6 3 5 0 200 0 (f3) := pr_newx p2 (by decide)
  refine i_putr d_Log_init_18 if_Log_15 rfl (by decide) rfl rfl (by decide) (by rw [pr_v p4]; decide) (fun g q0 q => ?_) ?_
  · rw [pr_v p4] at q0
    exact absurd q (by omega)
  have p5 : iPr f 3 6 4 5 0 200 0 (iup f3 3 4) := pr_put p4 (by decide) (by decide) (by decide)
  generalize iup f3 3 4 = f6 at p5 ⊢
  refine i_iconst (v := nI 0) d_Log_init_21 rfl ?_
  refine i_istore_n d_Log_init_22 (by decide) rfl rfl ?_
  refine lp_Log (f := f) (fun e7 p8 => ?_) 20 0 _ rfl p5
  have p9 : iPr f 3 46 4 200 0 200 0 (e7) := pr_offx p8 (by decide) (by decide)
  exact i_exit ⟨d_Log_init_48, rfl, rfl, pr_end p9 (by decide) (by decide)⟩
theorem ic_Powers2 {n : jN} {f : Nat → Nat} (h : ifr f 84) : iC n 1 jy_Powers_init jc_Powers_init 1 [.ref 84] 85 f 89 (iG f 84 89) := by
  have p0 := pr_ini h (by decide)
  refine iC_of (L := [some (.ref 84)]) jm_Powers_init rfl (Nat.le_of_ble_eq_true rfl) rfl ?_
  refine i_aload_n d_Powers_init_0 rfl ?_
  refine i_obj d_Powers_init_1 jk_Powers_1 jo_in jo_co (Nat.le_of_ble_eq_true rfl) (by decide) ?_
  refine i_aload_n d_Powers_init_4 rfl ?_
  refine i_new d_Powers_init_5 jn_Powers_7 rfl (pr_fr p0 _ (Nat.le_refl _)) (by decide) (by decide) ?_
  refine i_dup d_Powers_init_8 rfl ?_
  refine i_callN (As := []) (st := [.ref 85, .ref 84]) (ic_Table (by decide) (pr_fr p0)) d_Powers_init_9 (by decide) jm_Table_init jk_Powers_9 ji_Table_init rfl (by decide) rfl (Nat.le_of_ble_eq_true rfl) rfl (by decide) (by decide) (by decide) (fun h1 g1 => ?_)
  have p2 : iPr f 84 87 0 200 0 200 0 (h1) := pr_sub p0 g1 (by decide) (by decide) (by decide) (by decide) (by decide)
  refine i_putr d_Powers_init_12 if_Powers_10 rfl (by decide) rfl rfl (by decide) (by rw [pr_v p2]; decide) (fun g q0 q => ?_) ?_
  · rw [pr_v p2] at q0
    rcases (show g = 0 ∨ g = 1 by omega) with e | e <;> subst e
    · exact ⟨rfl, ok0_z (by decide) _⟩
    · exact ⟨rfl, ok0_z (by decide) _⟩
  have p3 : iPr f 84 87 3 200 0 200 0 (iup h1 84 3) := pr_put p2 (by decide) (by decide) (by decide)
  generalize iup h1 84 3 = f4 at p3 ⊢
  refine i_aload_n d_Powers_init_15 rfl ?_
  refine i_new d_Powers_init_16 jn_Powers_7 rfl (pr_fr p3 _ (Nat.le_refl _)) (by decide) (by decide) ?_
  refine i_dup d_Powers_init_19 rfl ?_
  refine i_callN (As := []) (st := [.ref 87, .ref 84]) (ic_Table (by decide) (pr_fr p3)) d_Powers_init_20 (by decide) jm_Table_init jk_Powers_9 ji_Table_init rfl (by decide) rfl (Nat.le_of_ble_eq_true rfl) rfl (by decide) (by decide) (by decide) (fun h5 g5 => ?_)
  have p6 : iPr f 84 89 3 200 0 200 0 (h5) := pr_sub p3 g5 (by decide) (by decide) (by decide) (by decide) (by decide)
  refine i_putr d_Powers_init_23 if_Powers_16 rfl (by decide) rfl rfl (by decide) (by rw [pr_v p6]; decide) (fun g q0 q => ?_) ?_
  · rw [pr_v p6] at q0
    exact absurd q (by omega)
  have p7 : iPr f 84 89 4 200 0 200 0 (iup h5 84 4) := pr_put p6 (by decide) (by decide) (by decide)
  generalize iup h5 84 4 = f8 at p7 ⊢
  exact i_exit ⟨d_Powers_init_26, rfl, rfl, pr_end p7 (by decide) (by decide)⟩
theorem lp_Chain_is : ∀ i, i < 8 → isL (89 + 3 * i) := by decide
theorem lp_Chain_rf : ∀ i, i < 8 → jrf 82 i = 89 + 3 * i := by decide
theorem lp_Chain {n : jN} {f : Nat → Nat} {Ex : Nat → List (Option Value) → List Value → Nat → (Nat → Nat) → Prop} (kk : ∀ f1, iPr f 75 (113) 11 82 8 200 0 f1 → iJ n 2 jc_Chain_init 2 "YesNoPowers$Chain" 76 113 Ex 96 [some (.ref 75), some (.int (nI 8))] [] 113 f1) : ∀ k i f1, i + k = 8 → iPr f 75 (89 + 3 * i) 11 82 i 200 0 f1 → iJ n 2 jc_Chain_init 2 "YesNoPowers$Chain" 76 113 Ex 71 [some (.ref 75), some (.int (nI i))] [] (89 + 3 * i) f1
  | 0, i, f1, e, p => by
    obtain rfl : i = 8 := by omega
    refine i_iload_n d_Chain_init_71 rfl ?_
    refine i_bipush (v := nI 8) d_Chain_init_72 rfl ?_
    exact i_icmp_geN_t (tgt := 96) d_Chain_init_74 (by decide) (by decide) (by decide) (Nat.le_refl _) (kk f1 p)
  | k + 1, i, f1, e, p => by
    refine i_iload_n d_Chain_init_71 rfl ?_
    refine i_bipush (v := nI 8) d_Chain_init_72 rfl ?_
    refine i_icmp_geN_f (tgt := 96) d_Chain_init_74 (by decide) (by omega) (by decide) (by omega) ?_
    refine i_aload_n d_Chain_init_77 rfl ?_
    refine i_getr d_Chain_init_78 jf_Chain_28 (a := 75) (b := 82) rfl (by omega) rfl rfl (by decide) (by rw [pr_v p]; decide) ?_
    refine i_iload_n d_Chain_init_81 rfl ?_
    refine i_new d_Chain_init_82 jn_Chain_26 (lp_Chain_is i (by omega)).1 (pr_fr p _ (Nat.le_refl _)) (by omega) (by omega) ?_
    refine i_dup d_Chain_init_85 rfl ?_
    refine i_callN (As := []) (st := [.ref (89 + 3 * i), .int (nI i), .ref 82]) (ic_Link (lp_Chain_is i (by omega)) (pr_fr p)) d_Chain_init_86 (by decide) jm_Link_init jk_Chain_42 ji_Link_init rfl (by omega) rfl (Nat.le_of_ble_eq_true rfl) rfl (by omega) (by omega) (by omega) (fun f2 g2 => ?_)
    have e1 : 89 + 3 * (i + 1) = 89 + 3 * i + 3 := by omega
    have p2 : iPr f 75 (89 + 3 * i + 3) 11 82 i 200 0 f2 := pr_sub p g2 (by omega) (by omega) (by omega) (by omega) (by omega)
    have p3 : iPr f 75 (89 + 3 * i + 3) 11 82 (i + 1) 200 0 (iup f2 82 (i + 1)) := pr_stx p2 (by omega) (by decide) (by decide)
    have ih := lp_Chain kk k (i + 1) _ (by omega) (by rw [e1]; exact p3)
    rw [e1] at ih
    refine i_aast (t0 := 4) d_Chain_init_89 rfl (by decide) (by decide) rfl (lp_Chain_is i (by omega)).1 (by decide) rfl (by omega) (by omega) (by omega) (by decide) (pr_x p2) (lp_Chain_rf i (by omega)) ?_
    refine i_iincN d_Chain_init_90 rfl (by decide) rfl rfl ?_
    exact i_goto (tgt := 71) d_Chain_init_93 (by decide) ih
theorem ic_Chain {n : jN} {f : Nat → Nat} (h : ifr f 75) : iC n 2 jy_Chain_init jc_Chain_init 2 [.ref 75] 76 f 113 (iG f 75 113) := by
  have p0 := pr_ini h (by decide)
  refine iC_of (L := [some (.ref 75), none]) jm_Chain_init rfl (Nat.le_of_ble_eq_true rfl) rfl ?_
  refine i_aload_n d_Chain_init_0 rfl ?_
  refine i_obj d_Chain_init_1 jk_Chain_1 jo_in jo_co (Nat.le_of_ble_eq_true rfl) (by decide) ?_
  refine i_aload_n d_Chain_init_4 rfl ?_
  refine i_bipush (v := nI 8) d_Chain_init_5 rfl ?_
  refine i_newa d_Chain_init_7 ja_int rfl rfl (by decide) (pr_fr p0 _ (Nat.le_refl _)) (by decide) (by decide) ?_
  have p1 : iPr f 75 77 0 200 0 200 0 (f) := pr_arr p0 (by decide) (ok0_z (by decide))
  refine i_putr d_Chain_init_9 if_Chain_9 rfl (by decide) rfl rfl (by decide) (by rw [pr_v p1]; decide) (fun g q0 q => ?_) ?_
  · rw [pr_v p1] at q0
    rcases (show g = 0 ∨ g = 1 ∨ g = 2 ∨ g = 3 by omega) with e | e | e | e <;> subst e
    · exact ⟨rfl, ok0_z (by decide) _⟩
    · exact ⟨rfl, ok0_z (by decide) _⟩
    · exact ⟨rfl, ok0_z (by decide) _⟩
    · exact ⟨rfl, ok0_z (by decide) _⟩
  have p2 : iPr f 75 77 5 200 0 200 0 (iup f 75 5) := pr_put p1 (by decide) (by decide) (by decide)
  generalize iup f 75 5 = f3 at p2 ⊢
  refine i_aload_n d_Chain_init_12 rfl ?_
  refine i_iconst (v := nI 3) d_Chain_init_13 rfl ?_
  refine i_newa d_Chain_init_14 ja_int rfl rfl (by decide) (pr_fr p2 _ (Nat.le_refl _)) (by decide) (by decide) ?_
  have p4 : iPr f 75 78 5 200 0 200 0 (f3) := pr_arr p2 (by decide) (ok0_z (by decide))
  refine i_putr d_Chain_init_16 if_Chain_13 rfl (by decide) rfl rfl (by decide) (by rw [pr_v p4]; decide) (fun g q0 q => ?_) ?_
  · rw [pr_v p4] at q0
    exact absurd q (by omega)
  have p5 : iPr f 75 78 6 200 0 200 0 (iup f3 75 6) := pr_put p4 (by decide) (by decide) (by decide)
  generalize iup f3 75 6 = f6 at p5 ⊢
  refine i_aload_n d_Chain_init_19 rfl ?_
  refine i_new d_Chain_init_20 jn_Chain_16 rfl (pr_fr p5 _ (Nat.le_refl _)) (by decide) (by decide) ?_
  refine i_dup d_Chain_init_23 rfl ?_
  refine i_callN (As := []) (st := [.ref 78, .ref 75]) (ic_Table (by decide) (pr_fr p5)) d_Chain_init_24 (by decide) jm_Table_init jk_Chain_18 ji_Table_init rfl (by decide) rfl (Nat.le_of_ble_eq_true rfl) rfl (by decide) (by decide) (by decide) (fun h7 g7 => ?_)
  have p8 : iPr f 75 80 6 200 0 200 0 (h7) := pr_sub p5 g7 (by decide) (by decide) (by decide) (by decide) (by decide)
  refine i_putr d_Chain_init_27 if_Chain_19 rfl (by decide) rfl rfl (by decide) (by rw [pr_v p8]; decide) (fun g q0 q => ?_) ?_
  · rw [pr_v p8] at q0
    exact absurd q (by omega)
  have p9 : iPr f 75 80 7 200 0 200 0 (iup h7 75 7) := pr_put p8 (by decide) (by decide) (by decide)
  generalize iup h7 75 7 = f10 at p9 ⊢
  refine i_aload_n d_Chain_init_30 rfl ?_
  refine i_new d_Chain_init_31 jn_Chain_16 rfl (pr_fr p9 _ (Nat.le_refl _)) (by decide) (by decide) ?_
  refine i_dup d_Chain_init_34 rfl ?_
  refine i_callN (As := []) (st := [.ref 80, .ref 75]) (ic_Table (by decide) (pr_fr p9)) d_Chain_init_35 (by decide) jm_Table_init jk_Chain_18 ji_Table_init rfl (by decide) rfl (Nat.le_of_ble_eq_true rfl) rfl (by decide) (by decide) (by decide) (fun h11 g11 => ?_)
  have p12 : iPr f 75 82 7 200 0 200 0 (h11) := pr_sub p9 g11 (by decide) (by decide) (by decide) (by decide) (by decide)
  refine i_putr d_Chain_init_38 if_Chain_23 rfl (by decide) rfl rfl (by decide) (by rw [pr_v p12]; decide) (fun g q0 q => ?_) ?_
  · rw [pr_v p12] at q0
    exact absurd q (by omega)
  have p13 : iPr f 75 82 8 200 0 200 0 (iup h11 75 8) := pr_put p12 (by decide) (by decide) (by decide)
  generalize iup h11 75 8 = f14 at p13 ⊢
  refine i_aload_n d_Chain_init_41 rfl ?_
  refine i_bipush (v := nI 8) d_Chain_init_42 rfl ?_
  refine i_anew (t0 := 4) d_Chain_init_44 jz_Chain_26 (by decide) rfl (by decide) (by decide) rfl rfl (by decide) (pr_fr p13 _ (Nat.le_refl _)) (by decide) (by decide) ?_
  have p15 : iPr f 75 83 8 82 0 200 0 (f14) := pr_newx p13 (by decide)
  refine i_putr d_Chain_init_47 if_Chain_28 rfl (by decide) rfl rfl (by decide) (by rw [pr_v p15]; decide) (fun g q0 q => ?_) ?_
  · rw [pr_v p15] at q0
    exact absurd q (by omega)
  have p16 : iPr f 75 83 9 82 0 200 0 (iup f14 75 9) := pr_put p15 (by decide) (by decide) (by decide)
  generalize iup f14 75 9 = f17 at p16 ⊢
  refine i_aload_n d_Chain_init_50 rfl ?_
  refine i_bipush (v := nI 8) d_Chain_init_51 rfl ?_
  refine i_newa d_Chain_init_53 ja_int rfl rfl (by decide) (pr_fr p16 _ (Nat.le_refl _)) (by decide) (by decide) ?_
  have p18 : iPr f 75 84 9 82 0 200 0 (f17) := pr_arr p16 (by decide) (ok0_z (by decide))
  refine i_putr d_Chain_init_55 if_Chain_32 rfl (by decide) rfl rfl (by decide) (by rw [pr_v p18]; decide) (fun g q0 q => ?_) ?_
  · rw [pr_v p18] at q0
    exact absurd q (by omega)
  have p19 : iPr f 75 84 10 82 0 200 0 (iup f17 75 10) := pr_put p18 (by decide) (by decide) (by decide)
  generalize iup f17 75 10 = f20 at p19 ⊢
  refine i_aload_n d_Chain_init_58 rfl ?_
  refine i_new d_Chain_init_59 jn_Chain_35 rfl (pr_fr p19 _ (Nat.le_refl _)) (by decide) (by decide) ?_
  refine i_dup d_Chain_init_62 rfl ?_
  refine i_callN (As := []) (st := [.ref 84, .ref 75]) (ic_Powers2 (pr_fr p19)) d_Chain_init_63 (by decide) jm_Powers_init jk_Chain_37 ji_Powers_init rfl (by decide) rfl (Nat.le_of_ble_eq_true rfl) rfl (by decide) (by decide) (by decide) (fun h21 g21 => ?_)
  have p22 : iPr f 75 89 10 82 0 200 0 (h21) := pr_sub p19 g21 (by decide) (by decide) (by decide) (by decide) (by decide)
  refine i_putr d_Chain_init_66 if_Chain_38 rfl (by decide) rfl rfl (by decide) (by rw [pr_v p22]; decide) (fun g q0 q => ?_) ?_
  · rw [pr_v p22] at q0
    exact absurd q (by omega)
  have p23 : iPr f 75 89 11 82 0 200 0 (iup h21 75 11) := pr_put p22 (by decide) (by decide) (by decide)
  generalize iup h21 75 11 = f24 at p23 ⊢
  refine i_iconst (v := nI 0) d_Chain_init_69 rfl ?_
  refine i_istore_n d_Chain_init_70 (by decide) rfl rfl ?_
  refine lp_Chain (f := f) (fun e25 p26 => ?_) 8 0 _ rfl p23
  have p27 : iPr f 75 113 11 200 0 200 0 (e25) := pr_offx p26 (by decide) (by decide)
  exact i_exit ⟨d_Chain_init_96, rfl, rfl, pr_end p27 (by decide) (by decide)⟩
theorem lp_Slot_is : ∀ i, i < 6 → isN (115 + 2 * i) := by decide
theorem lp_Slot_rf : ∀ i, i < 6 → jrf 1 i = 115 + 2 * i := by decide
theorem lp_Slot {n : jN} {f : Nat → Nat} {Ex : Nat → List (Option Value) → List Value → Nat → (Nat → Nat) → Prop} (kk : ∀ f1, iPr f 0 (127) 8 1 6 2 0 f1 → iJ n 3 jc_Main_init 2 "YesNoPowers" 1 135 Ex 114 [some (.ref 0), some (.int (nI 6))] [] 127 f1) : ∀ k i f1, i + k = 6 → iPr f 0 (115 + 2 * i) 8 1 i 2 0 f1 → iJ n 3 jc_Main_init 2 "YesNoPowers" 1 135 Ex 89 [some (.ref 0), some (.int (nI i))] [] (115 + 2 * i) f1
  | 0, i, f1, e, p => by
    obtain rfl : i = 6 := by omega
    refine i_iload_n d_Main_init_89 rfl ?_
    refine i_bipush (v := nI 6) d_Main_init_90 rfl ?_
    exact i_icmp_geN_t (tgt := 114) d_Main_init_92 (by decide) (by decide) (by decide) (Nat.le_refl _) (kk f1 p)
  | k + 1, i, f1, e, p => by
    refine i_iload_n d_Main_init_89 rfl ?_
    refine i_bipush (v := nI 6) d_Main_init_90 rfl ?_
    refine i_icmp_geN_f (tgt := 114) d_Main_init_92 (by decide) (by omega) (by decide) (by omega) ?_
    refine i_aload_n d_Main_init_95 rfl ?_
    refine i_getr d_Main_init_96 jf_Main_11 (a := 0) (b := 1) rfl (by omega) rfl rfl (by decide) (by rw [pr_v p]; decide) ?_
    refine i_iload_n d_Main_init_99 rfl ?_
    refine i_new d_Main_init_100 jn_Main_9 (lp_Slot_is i (by omega)).1 (pr_fr p _ (Nat.le_refl _)) (by omega) (by omega) ?_
    refine i_dup d_Main_init_103 rfl ?_
    refine i_callN (As := []) (st := [.ref (115 + 2 * i), .int (nI i), .ref 1]) (ic_Table (lp_Slot_is i (by omega)) (pr_fr p)) d_Main_init_104 (by decide) jm_Table_init jk_Main_56 ji_Table_init rfl (by omega) rfl (Nat.le_of_ble_eq_true rfl) rfl (by omega) (by omega) (by omega) (fun f2 g2 => ?_)
    have e1 : 115 + 2 * (i + 1) = 115 + 2 * i + 2 := by omega
    have p2 : iPr f 0 (115 + 2 * i + 2) 8 1 i 2 0 f2 := pr_sub p g2 (by omega) (by omega) (by omega) (by omega) (by omega)
    have p3 : iPr f 0 (115 + 2 * i + 2) 8 1 (i + 1) 2 0 (iup f2 1 (i + 1)) := pr_stx p2 (by omega) (by decide) (by decide)
    have ih := lp_Slot kk k (i + 1) _ (by omega) (by rw [e1]; exact p3)
    rw [e1] at ih
    refine i_aast (t0 := 2) d_Main_init_107 rfl (by decide) (by decide) rfl (lp_Slot_is i (by omega)).1 (by decide) rfl (by omega) (by omega) (by omega) (by decide) (pr_x p2) (lp_Slot_rf i (by omega)) ?_
    refine i_iincN d_Main_init_108 rfl (by decide) rfl rfl ?_
    exact i_goto (tgt := 89) d_Main_init_111 (by decide) ih
theorem lp_Sheet_is : ∀ i, i < 4 → isSh (127 + 2 * i) := by decide
theorem lp_Sheet_rf : ∀ i, i < 4 → jrf 2 i = 127 + 2 * i := by decide
theorem lp_Sheet_m1 : ∀ i, i < 4 → jh0 (127 + 2 * i) 0 = -1 := by decide
theorem lp_Sheet {n : jN} {f : Nat → Nat} {Ex : Nat → List (Option Value) → List Value → Nat → (Nat → Nat) → Prop} (kk : ∀ f1, iPr f 0 (135) 8 200 0 2 4 f1 → iJ n 3 jc_Main_init 2 "YesNoPowers" 1 135 Ex 140 [some (.ref 0), some (.int (nI 4))] [] 135 f1) : ∀ k i f1, i + k = 4 → iPr f 0 (127 + 2 * i) 8 200 0 2 i f1 → iJ n 3 jc_Main_init 2 "YesNoPowers" 1 135 Ex 116 [some (.ref 0), some (.int (nI i))] [] (127 + 2 * i) f1
  | 0, i, f1, e, p => by
    obtain rfl : i = 4 := by omega
    refine i_iload_n d_Main_init_116 rfl ?_
    refine i_iconst (v := nI 4) d_Main_init_117 rfl ?_
    exact i_icmp_geN_t (tgt := 140) d_Main_init_118 (by decide) (by decide) (by decide) (Nat.le_refl _) (kk f1 p)
  | k + 1, i, f1, e, p => by
    refine i_iload_n d_Main_init_116 rfl ?_
    refine i_iconst (v := nI 4) d_Main_init_117 rfl ?_
    refine i_icmp_geN_f (tgt := 140) d_Main_init_118 (by decide) (by omega) (by decide) (by omega) ?_
    refine i_aload_n d_Main_init_121 rfl ?_
    refine i_getr d_Main_init_122 jf_Main_17 (a := 0) (b := 2) rfl (by omega) rfl rfl (by decide) (by rw [pr_v p]; decide) ?_
    refine i_iload_n d_Main_init_125 rfl ?_
    refine i_new d_Main_init_126 jn_Main_15 (lp_Sheet_is i (by omega)).1 (pr_fr p _ (Nat.le_refl _)) (by omega) (by omega) ?_
    refine i_dup d_Main_init_129 rfl ?_
    refine i_callN (As := []) (st := [.ref (127 + 2 * i), .int (nI i), .ref 2]) (ic_Sheet (lp_Sheet_is i (by omega)) (lp_Sheet_m1 i (by omega)) (pr_fr p)) d_Main_init_130 (by decide) jm_Sheet_init jk_Main_61 ji_Sheet_init rfl (by omega) rfl (Nat.le_of_ble_eq_true rfl) rfl (by omega) (by omega) (by omega) (fun f2 g2 => ?_)
    have e1 : 127 + 2 * (i + 1) = 127 + 2 * i + 2 := by omega
    have p2 : iPr f 0 (127 + 2 * i + 2) 8 200 0 2 i f2 := pr_sub p g2 (by omega) (by omega) (by omega) (by omega) (by omega)
    have p3 : iPr f 0 (127 + 2 * i + 2) 8 200 0 2 (i + 1) (iup f2 2 (i + 1)) := pr_sty p2 (by omega) (by decide) (by decide)
    have ih := lp_Sheet kk k (i + 1) _ (by omega) (by rw [e1]; exact p3)
    rw [e1] at ih
    refine i_aast (t0 := 3) d_Main_init_133 rfl (by decide) (by decide) rfl (lp_Sheet_is i (by omega)).1 (by decide) rfl (by omega) (by omega) (by omega) (by decide) (pr_y p2) (lp_Sheet_rf i (by omega)) ?_
    refine i_iincN d_Main_init_134 rfl (by decide) rfl rfl ?_
    exact i_goto (tgt := 116) d_Main_init_137 (by decide) ih
theorem ic_Main {n : jN} {f : Nat → Nat} (h : ifr f 0) : iC n 3 jy_Main_init jc_Main_init 2 [.ref 0] 1 f 135 (iG f 0 135) := by
  have p0 := pr_ini h (by decide)
  refine iC_of (L := [some (.ref 0), none]) jm_Main_init rfl (Nat.le_of_ble_eq_true rfl) rfl ?_
  refine i_aload_n d_Main_init_0 rfl ?_
  refine i_obj d_Main_init_1 jk_Main_1 jo_in jo_co (Nat.le_of_ble_eq_true rfl) (by decide) ?_
  refine i_aload_n d_Main_init_4 rfl ?_
  refine i_bipush (v := nI 6) d_Main_init_5 rfl ?_
  refine i_anew (t0 := 2) d_Main_init_7 jz_Main_9 (by decide) rfl (by decide) (by decide) rfl rfl (by decide) (pr_fr p0 _ (Nat.le_refl _)) (by decide) (by decide) ?_
  have p1 : iPr f 0 2 0 1 0 200 0 (f) := pr_newx p0 (by decide)
  refine i_putr d_Main_init_10 if_Main_11 rfl (by decide) rfl rfl (by decide) (by rw [pr_v p1]; decide) (fun g q0 q => ?_) ?_
  · rw [pr_v p1] at q0
    exact absurd q (by omega)
  have p2 : iPr f 0 2 1 1 0 200 0 (iup f 0 1) := pr_put p1 (by decide) (by decide) (by decide)
  generalize iup f 0 1 = f3 at p2 ⊢
  refine i_aload_n d_Main_init_13 rfl ?_
  refine i_iconst (v := nI 4) d_Main_init_14 rfl ?_
  refine i_anew (t0 := 3) d_Main_init_15 jz_Main_15 (by decide) rfl (by decide) (by decide) rfl rfl (by decide) (pr_fr p2 _ (Nat.le_refl _)) (by decide) (by decide) ?_
  have p4 : iPr f 0 3 1 1 0 2 0 (f3) := pr_newy p2 (by decide)
  refine i_putr d_Main_init_18 if_Main_17 rfl (by decide) rfl rfl (by decide) (by rw [pr_v p4]; decide) (fun g q0 q => ?_) ?_
  · rw [pr_v p4] at q0
    exact absurd q (by omega)
  have p5 : iPr f 0 3 2 1 0 2 0 (iup f3 0 2) := pr_put p4 (by decide) (by decide) (by decide)
  generalize iup f3 0 2 = f6 at p5 ⊢
  refine i_aload_n d_Main_init_21 rfl ?_
  refine i_new d_Main_init_22 jn_Main_21 rfl (pr_fr p5 _ (Nat.le_refl _)) (by decide) (by decide) ?_
  refine i_dup d_Main_init_25 rfl ?_
  refine i_call (As := []) (st := [.ref 3, .ref 0]) (ic_Log (pr_fr p5)) d_Main_init_26 (by decide) jm_Log_init jk_Main_23 ji_Log_init rfl (by decide) rfl (Nat.le_of_ble_eq_true rfl) rfl (by decide) (by decide) (by decide) (fun h7 g7 => ?_)
  have p8 : iPr f 0 46 2 1 0 2 0 (h7) := pr_sub p5 g7 (by decide) (by decide) (by decide) (by decide) (by decide)
  refine i_putr d_Main_init_29 if_Main_24 rfl (by decide) rfl rfl (by decide) (by rw [pr_v p8]; decide) (fun g q0 q => ?_) ?_
  · rw [pr_v p8] at q0
    exact absurd q (by omega)
  have p9 : iPr f 0 46 3 1 0 2 0 (iup h7 0 3) := pr_put p8 (by decide) (by decide) (by decide)
  generalize iup h7 0 3 = f10 at p9 ⊢
  refine i_aload_n d_Main_init_32 rfl ?_
  refine i_new d_Main_init_33 jn_Main_28 rfl (pr_fr p9 _ (Nat.le_refl _)) (by decide) (by decide) ?_
  refine i_dup d_Main_init_36 rfl ?_
  refine i_callN (As := []) (st := [.ref 46, .ref 0]) (ic_Powers (pr_fr p9)) d_Main_init_37 (by decide) jm_Powers_init jk_Main_30 ji_Powers_init rfl (by decide) rfl (Nat.le_of_ble_eq_true rfl) rfl (by decide) (by decide) (by decide) (fun h11 g11 => ?_)
  have p12 : iPr f 0 51 3 1 0 2 0 (h11) := pr_sub p9 g11 (by decide) (by decide) (by decide) (by decide) (by decide)
  refine i_putr d_Main_init_40 if_Main_31 rfl (by decide) rfl rfl (by decide) (by rw [pr_v p12]; decide) (fun g q0 q => ?_) ?_
  · rw [pr_v p12] at q0
    exact absurd q (by omega)
  have p13 : iPr f 0 51 4 1 0 2 0 (iup h11 0 4) := pr_put p12 (by decide) (by decide) (by decide)
  generalize iup h11 0 4 = f14 at p13 ⊢
  refine i_aload_n d_Main_init_43 rfl ?_
  refine i_new d_Main_init_44 jn_Main_35 rfl (pr_fr p13 _ (Nat.le_refl _)) (by decide) (by decide) ?_
  refine i_dup d_Main_init_47 rfl ?_
  refine i_callN (As := []) (st := [.ref 51, .ref 0]) (ic_Rings (pr_fr p13)) d_Main_init_48 (by decide) jm_Rings_init jk_Main_37 ji_Rings_init rfl (by decide) rfl (Nat.le_of_ble_eq_true rfl) rfl (by decide) (by decide) (by decide) (fun h15 g15 => ?_)
  have p16 : iPr f 0 64 4 1 0 2 0 (h15) := pr_sub p13 g15 (by decide) (by decide) (by decide) (by decide) (by decide)
  refine i_putr d_Main_init_51 if_Main_38 rfl (by decide) rfl rfl (by decide) (by rw [pr_v p16]; decide) (fun g q0 q => ?_) ?_
  · rw [pr_v p16] at q0
    exact absurd q (by omega)
  have p17 : iPr f 0 64 5 1 0 2 0 (iup h15 0 5) := pr_put p16 (by decide) (by decide) (by decide)
  generalize iup h15 0 5 = f18 at p17 ⊢
  refine i_aload_n d_Main_init_54 rfl ?_
  refine i_new d_Main_init_55 jn_Main_42 rfl (pr_fr p17 _ (Nat.le_refl _)) (by decide) (by decide) ?_
  refine i_dup d_Main_init_58 rfl ?_
  refine i_callN (As := []) (st := [.ref 64, .ref 0]) (ic_Spaces (pr_fr p17)) d_Main_init_59 (by decide) jm_Spaces_init jk_Main_44 ji_Spaces_init rfl (by decide) rfl (Nat.le_of_ble_eq_true rfl) rfl (by decide) (by decide) (by decide) (fun h19 g19 => ?_)
  have p20 : iPr f 0 75 5 1 0 2 0 (h19) := pr_sub p17 g19 (by decide) (by decide) (by decide) (by decide) (by decide)
  refine i_putr d_Main_init_62 if_Main_45 rfl (by decide) rfl rfl (by decide) (by rw [pr_v p20]; decide) (fun g q0 q => ?_) ?_
  · rw [pr_v p20] at q0
    exact absurd q (by omega)
  have p21 : iPr f 0 75 6 1 0 2 0 (iup h19 0 6) := pr_put p20 (by decide) (by decide) (by decide)
  generalize iup h19 0 6 = f22 at p21 ⊢
  refine i_aload_n d_Main_init_65 rfl ?_
  refine i_new d_Main_init_66 jn_Main_49 rfl (pr_fr p21 _ (Nat.le_refl _)) (by decide) (by decide) ?_
  refine i_dup d_Main_init_69 rfl ?_
  refine i_call (As := []) (st := [.ref 75, .ref 0]) (ic_Chain (pr_fr p21)) d_Main_init_70 (by decide) jm_Chain_init jk_Main_51 ji_Chain_init rfl (by decide) rfl (Nat.le_of_ble_eq_true rfl) rfl (by decide) (by decide) (by decide) (fun h23 g23 => ?_)
  have p24 : iPr f 0 113 6 1 0 2 0 (h23) := pr_sub p21 g23 (by decide) (by decide) (by decide) (by decide) (by decide)
  refine i_putr d_Main_init_73 if_Main_52 rfl (by decide) rfl rfl (by decide) (by rw [pr_v p24]; decide) (fun g q0 q => ?_) ?_
  · rw [pr_v p24] at q0
    exact absurd q (by omega)
  have p25 : iPr f 0 113 7 1 0 2 0 (iup h23 0 7) := pr_put p24 (by decide) (by decide) (by decide)
  generalize iup h23 0 7 = f26 at p25 ⊢
  refine i_aload_n d_Main_init_76 rfl ?_
  refine i_new d_Main_init_77 jn_Main_9 rfl (pr_fr p25 _ (Nat.le_refl _)) (by decide) (by decide) ?_
  refine i_dup d_Main_init_80 rfl ?_
  refine i_callN (As := []) (st := [.ref 113, .ref 0]) (ic_Table (by decide) (pr_fr p25)) d_Main_init_81 (by decide) jm_Table_init jk_Main_56 ji_Table_init rfl (by decide) rfl (Nat.le_of_ble_eq_true rfl) rfl (by decide) (by decide) (by decide) (fun h27 g27 => ?_)
  have p28 : iPr f 0 115 7 1 0 2 0 (h27) := pr_sub p25 g27 (by decide) (by decide) (by decide) (by decide) (by decide)
  refine i_putr d_Main_init_84 if_Main_57 rfl (by decide) rfl rfl (by decide) (by rw [pr_v p28]; decide) (fun g q0 q => ?_) ?_
  · rw [pr_v p28] at q0
    exact absurd q (by omega)
  have p29 : iPr f 0 115 8 1 0 2 0 (iup h27 0 8) := pr_put p28 (by decide) (by decide) (by decide)
  generalize iup h27 0 8 = f30 at p29 ⊢
  refine i_iconst (v := nI 0) d_Main_init_87 rfl ?_
  refine i_istore_n d_Main_init_88 (by decide) rfl rfl ?_
  refine lp_Slot (f := f) (fun e31 p32 => ?_) 6 0 _ rfl p29
  have p33 : iPr f 0 127 8 200 0 2 0 (e31) := pr_offx p32 (by decide) (by decide)
  refine i_iconst (v := nI 0) d_Main_init_114 rfl ?_
  refine i_istore_n d_Main_init_115 (by decide) rfl rfl ?_
  refine lp_Sheet (f := f) (fun e34 p35 => ?_) 4 0 _ rfl p33
  have p36 : iPr f 0 135 8 200 0 200 0 (e34) := pr_offy p35 (by decide) (by decide)
  exact i_exit ⟨d_Main_init_140, rfl, rfl, pr_end p36 (by decide) (by decide)⟩
theorem ic_Model {n : jN} {f : Nat → Nat} (h : ifr f 135) : iC n 0 jy_Model_init jc_Model_init 1 [.ref 135] 136 f 152 (iG f 135 152) := by
  have p0 := pr_ini h (by decide)
  refine iC_of (L := [some (.ref 135)]) jm_Model_init rfl (Nat.le_of_ble_eq_true rfl) rfl ?_
  refine i_aload_n d_Model_init_0 rfl ?_
  refine i_obj d_Model_init_1 jk_Model_1 jo_in jo_co (Nat.le_of_ble_eq_true rfl) (by decide) ?_
  refine i_aload_n d_Model_init_4 rfl ?_
  refine i_sipush (v := nI 456) d_Model_init_5 rfl ?_
  refine i_newa d_Model_init_8 ja_int rfl rfl (by decide) (pr_fr p0 _ (Nat.le_refl _)) (by decide) (by decide) ?_
  have p1 : iPr f 135 137 0 200 0 200 0 (f) := pr_arr p0 (by decide) (ok0_z (by decide))
  refine i_putr d_Model_init_10 if_Model_7 rfl (by decide) rfl rfl (by decide) (by rw [pr_v p1]; decide) (fun g q0 q => ?_) ?_
  · rw [pr_v p1] at q0
    exact absurd q (by omega)
  have p2 : iPr f 135 137 1 200 0 200 0 (iup f 135 1) := pr_put p1 (by decide) (by decide) (by decide)
  generalize iup f 135 1 = f3 at p2 ⊢
  refine i_aload_n d_Model_init_13 rfl ?_
  refine i_bipush (v := nI 38) d_Model_init_14 rfl ?_
  refine i_newa d_Model_init_16 ja_int rfl rfl (by decide) (pr_fr p2 _ (Nat.le_refl _)) (by decide) (by decide) ?_
  have p4 : iPr f 135 138 1 200 0 200 0 (f3) := pr_arr p2 (by decide) (ok0_z (by decide))
  refine i_putr d_Model_init_18 if_Model_13 rfl (by decide) rfl rfl (by decide) (by rw [pr_v p4]; decide) (fun g q0 q => ?_) ?_
  · rw [pr_v p4] at q0
    exact absurd q (by omega)
  have p5 : iPr f 135 138 2 200 0 200 0 (iup f3 135 2) := pr_put p4 (by decide) (by decide) (by decide)
  generalize iup f3 135 2 = f6 at p5 ⊢
  refine i_aload_n d_Model_init_21 rfl ?_
  refine i_bipush (v := nI 20) d_Model_init_22 rfl ?_
  refine i_newa d_Model_init_24 ja_int rfl rfl (by decide) (pr_fr p5 _ (Nat.le_refl _)) (by decide) (by decide) ?_
  have p7 : iPr f 135 139 2 200 0 200 0 (f6) := pr_arr p5 (by decide) (ok0_z (by decide))
  refine i_putr d_Model_init_26 if_Model_16 rfl (by decide) rfl rfl (by decide) (by rw [pr_v p7]; decide) (fun g q0 q => ?_) ?_
  · rw [pr_v p7] at q0
    rw [show g = 2 by omega]
    exact ⟨rfl, ok0_z (by decide) _⟩
  have p8 : iPr f 135 139 4 200 0 200 0 (iup f6 135 4) := pr_put p7 (by decide) (by decide) (by decide)
  generalize iup f6 135 4 = f9 at p8 ⊢
  refine i_aload_n d_Model_init_29 rfl ?_
  refine i_bipush (v := nI 8) d_Model_init_30 rfl ?_
  refine i_newa d_Model_init_32 ja_int rfl rfl (by decide) (pr_fr p8 _ (Nat.le_refl _)) (by decide) (by decide) ?_
  have p10 : iPr f 135 140 4 200 0 200 0 (f9) := pr_arr p8 (by decide) (ok0_z (by decide))
  refine i_putr d_Model_init_34 if_Model_19 rfl (by decide) rfl rfl (by decide) (by rw [pr_v p10]; decide) (fun g q0 q => ?_) ?_
  · rw [pr_v p10] at q0
    rw [show g = 4 by omega]
    exact ⟨rfl, ok0_z (by decide) _⟩
  have p11 : iPr f 135 140 6 200 0 200 0 (iup f9 135 6) := pr_put p10 (by decide) (by decide) (by decide)
  generalize iup f9 135 6 = f12 at p11 ⊢
  refine i_aload_n d_Model_init_37 rfl ?_
  refine i_bipush (v := nI 8) d_Model_init_38 rfl ?_
  refine i_newa d_Model_init_40 ja_int rfl rfl (by decide) (pr_fr p11 _ (Nat.le_refl _)) (by decide) (by decide) ?_
  have p13 : iPr f 135 141 6 200 0 200 0 (f12) := pr_arr p11 (by decide) (ok0_z (by decide))
  refine i_putr d_Model_init_42 if_Model_22 rfl (by decide) rfl rfl (by decide) (by rw [pr_v p13]; decide) (fun g q0 q => ?_) ?_
  · rw [pr_v p13] at q0
    exact absurd q (by omega)
  have p14 : iPr f 135 141 7 200 0 200 0 (iup f12 135 7) := pr_put p13 (by decide) (by decide) (by decide)
  generalize iup f12 135 7 = f15 at p14 ⊢
  refine i_aload_n d_Model_init_45 rfl ?_
  refine i_iconst (v := nI 3) d_Model_init_46 rfl ?_
  refine i_newa d_Model_init_47 ja_int rfl rfl (by decide) (pr_fr p14 _ (Nat.le_refl _)) (by decide) (by decide) ?_
  have p16 : iPr f 135 142 7 200 0 200 0 (f15) := pr_arr p14 (by decide) (ok0_z (by decide))
  refine i_putr d_Model_init_49 if_Model_25 rfl (by decide) rfl rfl (by decide) (by rw [pr_v p16]; decide) (fun g q0 q => ?_) ?_
  · rw [pr_v p16] at q0
    rcases (show g = 7 ∨ g = 8 by omega) with e | e <;> subst e
    · exact ⟨rfl, ok0_z (by decide) _⟩
    · exact ⟨rfl, ok0_z (by decide) _⟩
  have p17 : iPr f 135 142 10 200 0 200 0 (iup f15 135 10) := pr_put p16 (by decide) (by decide) (by decide)
  generalize iup f15 135 10 = f18 at p17 ⊢
  refine i_aload_n d_Model_init_52 rfl ?_
  refine i_sipush (v := nI 3612) d_Model_init_53 rfl ?_
  refine i_newa d_Model_init_56 ja_int rfl rfl (by decide) (pr_fr p17 _ (Nat.le_refl _)) (by decide) (by decide) ?_
  have p19 : iPr f 135 143 10 200 0 200 0 (f18) := pr_arr p17 (by decide) (ok0_z (by decide))
  refine i_putr d_Model_init_58 if_Model_28 rfl (by decide) rfl rfl (by decide) (by rw [pr_v p19]; decide) (fun g q0 q => ?_) ?_
  · rw [pr_v p19] at q0
    exact absurd q (by omega)
  have p20 : iPr f 135 143 11 200 0 200 0 (iup f18 135 11) := pr_put p19 (by decide) (by decide) (by decide)
  generalize iup f18 135 11 = f21 at p20 ⊢
  refine i_aload_n d_Model_init_61 rfl ?_
  refine i_bipush (v := nI 12) d_Model_init_62 rfl ?_
  refine i_newa d_Model_init_64 ja_int rfl rfl (by decide) (pr_fr p20 _ (Nat.le_refl _)) (by decide) (by decide) ?_
  have p22 : iPr f 135 144 11 200 0 200 0 (f21) := pr_arr p20 (by decide) (ok0_z (by decide))
  refine i_putr d_Model_init_66 if_Model_31 rfl (by decide) rfl rfl (by decide) (by rw [pr_v p22]; decide) (fun g q0 q => ?_) ?_
  · rw [pr_v p22] at q0
    rcases (show g = 11 ∨ g = 12 ∨ g = 13 by omega) with e | e | e <;> subst e
    · exact ⟨rfl, ok0_z (by decide) _⟩
    · exact ⟨rfl, ok0_z (by decide) _⟩
    · exact ⟨rfl, ok0_z (by decide) _⟩
  have p23 : iPr f 135 144 15 200 0 200 0 (iup f21 135 15) := pr_put p22 (by decide) (by decide) (by decide)
  generalize iup f21 135 15 = f24 at p23 ⊢
  refine i_aload_n d_Model_init_69 rfl ?_
  refine i_bipush (v := nI 12) d_Model_init_70 rfl ?_
  refine i_newa d_Model_init_72 ja_int rfl rfl (by decide) (pr_fr p23 _ (Nat.le_refl _)) (by decide) (by decide) ?_
  have p25 : iPr f 135 145 15 200 0 200 0 (f24) := pr_arr p23 (by decide) (ok0_z (by decide))
  refine i_putr d_Model_init_74 if_Model_34 rfl (by decide) rfl rfl (by decide) (by rw [pr_v p25]; decide) (fun g q0 q => ?_) ?_
  · rw [pr_v p25] at q0
    exact absurd q (by omega)
  have p26 : iPr f 135 145 16 200 0 200 0 (iup f24 135 16) := pr_put p25 (by decide) (by decide) (by decide)
  generalize iup f24 135 16 = f27 at p26 ⊢
  refine i_aload_n d_Model_init_77 rfl ?_
  refine i_sipush (v := nI 156) d_Model_init_78 rfl ?_
  refine i_newa d_Model_init_81 ja_int rfl rfl (by decide) (pr_fr p26 _ (Nat.le_refl _)) (by decide) (by decide) ?_
  have p28 : iPr f 135 146 16 200 0 200 0 (f27) := pr_arr p26 (by decide) (ok0_z (by decide))
  refine i_putr d_Model_init_83 if_Model_37 rfl (by decide) rfl rfl (by decide) (by rw [pr_v p28]; decide) (fun g q0 q => ?_) ?_
  · rw [pr_v p28] at q0
    exact absurd q (by omega)
  have p29 : iPr f 135 146 17 200 0 200 0 (iup f27 135 17) := pr_put p28 (by decide) (by decide) (by decide)
  generalize iup f27 135 17 = f30 at p29 ⊢
  refine i_aload_n d_Model_init_86 rfl ?_
  refine i_bipush (v := nI 12) d_Model_init_87 rfl ?_
  refine i_newa d_Model_init_89 ja_int rfl rfl (by decide) (pr_fr p29 _ (Nat.le_refl _)) (by decide) (by decide) ?_
  have p31 : iPr f 135 147 17 200 0 200 0 (f30) := pr_arr p29 (by decide) (ok0_z (by decide))
  refine i_putr d_Model_init_91 if_Model_40 rfl (by decide) rfl rfl (by decide) (by rw [pr_v p31]; decide) (fun g q0 q => ?_) ?_
  · rw [pr_v p31] at q0
    exact absurd q (by omega)
  have p32 : iPr f 135 147 18 200 0 200 0 (iup f30 135 18) := pr_put p31 (by decide) (by decide) (by decide)
  generalize iup f30 135 18 = f33 at p32 ⊢
  refine i_aload_n d_Model_init_94 rfl ?_
  refine i_sipush (v := nI 4096) d_Model_init_95 rfl ?_
  refine i_newz d_Model_init_98 ja_bool rfl rfl (by decide) (pr_fr p32 _ (Nat.le_refl _)) (by decide) (by decide) ?_
  have p34 : iPr f 135 148 18 200 0 200 0 (f33) := pr_arr p32 (by decide) (ok0_z (by decide))
  refine i_putr d_Model_init_100 if_Model_43 rfl (by decide) rfl rfl (by decide) (by rw [pr_v p34]; decide) (fun g q0 q => ?_) ?_
  · rw [pr_v p34] at q0
    exact absurd q (by omega)
  have p35 : iPr f 135 148 19 200 0 200 0 (iup f33 135 19) := pr_put p34 (by decide) (by decide) (by decide)
  generalize iup f33 135 19 = f36 at p35 ⊢
  refine i_aload_n d_Model_init_103 rfl ?_
  refine i_bipush (v := nI 12) d_Model_init_104 rfl ?_
  refine i_newa d_Model_init_106 ja_int rfl rfl (by decide) (pr_fr p35 _ (Nat.le_refl _)) (by decide) (by decide) ?_
  have p37 : iPr f 135 149 19 200 0 200 0 (f36) := pr_arr p35 (by decide) (ok0_z (by decide))
  refine i_putr d_Model_init_108 if_Model_47 rfl (by decide) rfl rfl (by decide) (by rw [pr_v p37]; decide) (fun g q0 q => ?_) ?_
  · rw [pr_v p37] at q0
    exact absurd q (by omega)
  have p38 : iPr f 135 149 20 200 0 200 0 (iup f36 135 20) := pr_put p37 (by decide) (by decide) (by decide)
  generalize iup f36 135 20 = f39 at p38 ⊢
  refine i_aload_n d_Model_init_111 rfl ?_
  refine i_iconst (v := nI 4) d_Model_init_112 rfl ?_
  refine i_newa d_Model_init_113 ja_int rfl rfl (by decide) (pr_fr p38 _ (Nat.le_refl _)) (by decide) (by decide) ?_
  have p40 : iPr f 135 150 20 149 0 200 0 (f39) := pr_newx p38 (by decide)
  refine i_dup d_Model_init_115 rfl ?_
  refine i_iconst (v := nI 0) d_Model_init_116 rfl ?_
  refine i_iconst (v := -1) d_Model_init_117 rfl ?_
  refine i_iast d_Model_init_118 rfl (by decide) (by decide) (by decide) (pr_x p40) rfl ?_
  have p41 : iPr f 135 150 20 149 1 200 0 (iup f39 149 1) := pr_stx p40 (by decide) (by decide) (by decide)
  generalize iup f39 149 1 = f42 at p41 ⊢
  refine i_dup d_Model_init_119 rfl ?_
  refine i_iconst (v := nI 1) d_Model_init_120 rfl ?_
  refine i_iconst (v := -1) d_Model_init_121 rfl ?_
  refine i_iast d_Model_init_122 rfl (by decide) (by decide) (by decide) (pr_x p41) rfl ?_
  have p43 : iPr f 135 150 20 149 2 200 0 (iup f42 149 2) := pr_stx p41 (by decide) (by decide) (by decide)
  generalize iup f42 149 2 = f44 at p43 ⊢
  refine i_dup d_Model_init_123 rfl ?_
  refine i_iconst (v := nI 2) d_Model_init_124 rfl ?_
  refine i_iconst (v := -1) d_Model_init_125 rfl ?_
  refine i_iast d_Model_init_126 rfl (by decide) (by decide) (by decide) (pr_x p43) rfl ?_
  have p45 : iPr f 135 150 20 149 3 200 0 (iup f44 149 3) := pr_stx p43 (by decide) (by decide) (by decide)
  generalize iup f44 149 3 = f46 at p45 ⊢
  refine i_dup d_Model_init_127 rfl ?_
  refine i_iconst (v := nI 3) d_Model_init_128 rfl ?_
  refine i_iconst (v := -1) d_Model_init_129 rfl ?_
  refine i_iast d_Model_init_130 rfl (by decide) (by decide) (by decide) (pr_x p45) rfl ?_
  have p47 : iPr f 135 150 20 149 4 200 0 (iup f46 149 4) := pr_stx p45 (by decide) (by decide) (by decide)
  generalize iup f46 149 4 = f48 at p47 ⊢
  refine i_putr d_Model_init_131 if_Model_50 rfl (by decide) rfl rfl (by decide) (by rw [pr_v p47]; decide) (fun g q0 q => ?_) ?_
  · rw [pr_v p47] at q0
    rw [show g = 20 by omega]
    exact ⟨rfl, ok0_z (by decide) _⟩
  have p49 : iPr f 135 150 22 149 4 200 0 (iup f48 135 22) := pr_put p47 (by decide) (by decide) (by decide)
  generalize iup f48 135 22 = f50 at p49 ⊢
  refine i_aload_n d_Model_init_134 rfl ?_
  refine i_iconst (v := nI 4) d_Model_init_135 rfl ?_
  refine i_newa d_Model_init_136 ja_int rfl rfl (by decide) (pr_fr p49 _ (Nat.le_refl _)) (by decide) (by decide) ?_
  have p51 : iPr f 135 151 22 149 4 200 0 (f50) := pr_arr p49 (by decide) (ok0_z (by decide))
  refine i_putr d_Model_init_138 if_Model_53 rfl (by decide) rfl rfl (by decide) (by rw [pr_v p51]; decide) (fun g q0 q => ?_) ?_
  · rw [pr_v p51] at q0
    exact absurd q (by omega)
  have p52 : iPr f 135 151 23 149 4 200 0 (iup f50 135 23) := pr_put p51 (by decide) (by decide) (by decide)
  generalize iup f50 135 23 = f53 at p52 ⊢
  refine i_aload_n d_Model_init_141 rfl ?_
  refine i_sipush (v := nI 160) d_Model_init_142 rfl ?_
  refine i_newa d_Model_init_145 ja_int rfl rfl (by decide) (pr_fr p52 _ (Nat.le_refl _)) (by decide) (by decide) ?_
  have p54 : iPr f 135 152 23 149 4 200 0 (f53) := pr_arr p52 (by decide) (ok0_z (by decide))
  refine i_putr d_Model_init_147 if_Model_56 rfl (by decide) rfl rfl (by decide) (by rw [pr_v p54]; decide) (fun g q0 q => ?_) ?_
  · rw [pr_v p54] at q0
    exact absurd q (by omega)
  have p55 : iPr f 135 152 24 149 4 200 0 (iup f53 135 24) := pr_put p54 (by decide) (by decide) (by decide)
  generalize iup f53 135 24 = f56 at p55 ⊢
  refine i_aload_n d_Model_init_150 rfl ?_
  refine i_iconst (v := nI 0) d_Model_init_151 rfl ?_
  refine i_putz d_Model_init_152 jf_Model_59 rfl (by decide) rfl rfl (by rw [pr_v p55]; decide) ?_
  have p57 : iPr f 135 152 24 200 0 200 0 (f56) := pr_offx p55 (by decide) (by decide)
  exact i_exit ⟨d_Model_init_155, rfl, rfl, pr_end p57 (by decide) (by decide)⟩

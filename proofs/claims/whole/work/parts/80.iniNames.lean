abbrev jc_Chain_init : ByteArray := prog_2_method_1_code
abbrev jy_Chain_init : MethodName := ⟨"YesNoPowers$Chain", "<init>", "()V"⟩
set_option maxRecDepth 100000 in
theorem jm_Chain_init : jMi jy_Chain_init jc_Chain_init 2 none 0 := ⟨jmem_1 7 (by decide +kernel) rfl, jmem_1 170 (by rfl) rfl, ⟨jne_Chain.1, jne_Chain.2, by decide +kernel⟩, by decide, plainFor_of_name jpn_Chain⟩
theorem ji_Chain_init : Cond.instanceMethod jy_Chain_init ∈ jtbl := jmem_1 169 (by decide +kernel) rfl
theorem d_Chain_init_0 : decode jc_Chain_init 0 = .ok (.aload_n 0, 1) := by decide +kernel
theorem d_Chain_init_1 : decode jc_Chain_init 1 = .ok (.invokespecial 1, 3) := by decide +kernel
theorem d_Chain_init_4 : decode jc_Chain_init 4 = .ok (.aload_n 0, 1) := by decide +kernel
theorem d_Chain_init_5 : decode jc_Chain_init 5 = .ok (.bipush 8, 2) := by decide +kernel
theorem d_Chain_init_7 : decode jc_Chain_init 7 = .ok (.newarray .int, 2) := by decide +kernel
theorem d_Chain_init_9 : decode jc_Chain_init 9 = .ok (.putfield 9, 3) := by decide +kernel
theorem d_Chain_init_12 : decode jc_Chain_init 12 = .ok (.aload_n 0, 1) := by decide +kernel
theorem d_Chain_init_13 : decode jc_Chain_init 13 = .ok (.iconst 3, 1) := by decide +kernel
theorem d_Chain_init_14 : decode jc_Chain_init 14 = .ok (.newarray .int, 2) := by decide +kernel
theorem d_Chain_init_16 : decode jc_Chain_init 16 = .ok (.putfield 13, 3) := by decide +kernel
theorem d_Chain_init_19 : decode jc_Chain_init 19 = .ok (.aload_n 0, 1) := by decide +kernel
theorem d_Chain_init_20 : decode jc_Chain_init 20 = .ok (.new 16, 3) := by decide +kernel
theorem d_Chain_init_23 : decode jc_Chain_init 23 = .ok (.dup, 1) := by decide +kernel
theorem d_Chain_init_24 : decode jc_Chain_init 24 = .ok (.invokespecial 18, 3) := by decide +kernel
theorem d_Chain_init_27 : decode jc_Chain_init 27 = .ok (.putfield 19, 3) := by decide +kernel
theorem d_Chain_init_30 : decode jc_Chain_init 30 = .ok (.aload_n 0, 1) := by decide +kernel
theorem d_Chain_init_31 : decode jc_Chain_init 31 = .ok (.new 16, 3) := by decide +kernel
theorem d_Chain_init_34 : decode jc_Chain_init 34 = .ok (.dup, 1) := by decide +kernel
theorem d_Chain_init_35 : decode jc_Chain_init 35 = .ok (.invokespecial 18, 3) := by decide +kernel
theorem d_Chain_init_38 : decode jc_Chain_init 38 = .ok (.putfield 23, 3) := by decide +kernel
theorem d_Chain_init_41 : decode jc_Chain_init 41 = .ok (.aload_n 0, 1) := by decide +kernel
theorem d_Chain_init_42 : decode jc_Chain_init 42 = .ok (.bipush 8, 2) := by decide +kernel
theorem d_Chain_init_44 : decode jc_Chain_init 44 = .ok (.anewarray 26, 3) := by decide +kernel
theorem d_Chain_init_47 : decode jc_Chain_init 47 = .ok (.putfield 28, 3) := by decide +kernel
theorem d_Chain_init_50 : decode jc_Chain_init 50 = .ok (.aload_n 0, 1) := by decide +kernel
theorem d_Chain_init_51 : decode jc_Chain_init 51 = .ok (.bipush 8, 2) := by decide +kernel
theorem d_Chain_init_53 : decode jc_Chain_init 53 = .ok (.newarray .int, 2) := by decide +kernel
theorem d_Chain_init_55 : decode jc_Chain_init 55 = .ok (.putfield 32, 3) := by decide +kernel
theorem d_Chain_init_58 : decode jc_Chain_init 58 = .ok (.aload_n 0, 1) := by decide +kernel
theorem d_Chain_init_59 : decode jc_Chain_init 59 = .ok (.new 35, 3) := by decide +kernel
theorem d_Chain_init_62 : decode jc_Chain_init 62 = .ok (.dup, 1) := by decide +kernel
theorem d_Chain_init_63 : decode jc_Chain_init 63 = .ok (.invokespecial 37, 3) := by decide +kernel
theorem d_Chain_init_66 : decode jc_Chain_init 66 = .ok (.putfield 38, 3) := by decide +kernel
theorem d_Chain_init_69 : decode jc_Chain_init 69 = .ok (.iconst 0, 1) := by decide +kernel
theorem d_Chain_init_70 : decode jc_Chain_init 70 = .ok (.istore_n 1, 1) := by decide +kernel
theorem d_Chain_init_71 : decode jc_Chain_init 71 = .ok (.iload_n 1, 1) := by decide +kernel
theorem d_Chain_init_72 : decode jc_Chain_init 72 = .ok (.bipush 8, 2) := by decide +kernel
theorem d_Chain_init_74 : decode jc_Chain_init 74 = .ok (.if_icmp .ge 22, 3) := by decide +kernel
theorem d_Chain_init_77 : decode jc_Chain_init 77 = .ok (.aload_n 0, 1) := by decide +kernel
theorem d_Chain_init_78 : decode jc_Chain_init 78 = .ok (.getfield 28, 3) := by decide +kernel
theorem d_Chain_init_81 : decode jc_Chain_init 81 = .ok (.iload_n 1, 1) := by decide +kernel
theorem d_Chain_init_82 : decode jc_Chain_init 82 = .ok (.new 26, 3) := by decide +kernel
theorem d_Chain_init_85 : decode jc_Chain_init 85 = .ok (.dup, 1) := by decide +kernel
theorem d_Chain_init_86 : decode jc_Chain_init 86 = .ok (.invokespecial 42, 3) := by decide +kernel
theorem d_Chain_init_89 : decode jc_Chain_init 89 = .ok (.aastore, 1) := by decide +kernel
theorem d_Chain_init_90 : decode jc_Chain_init 90 = .ok (.iinc 1 1, 3) := by decide +kernel
theorem d_Chain_init_93 : decode jc_Chain_init 93 = .ok (.goto (-22), 3) := by decide +kernel
theorem d_Chain_init_96 : decode jc_Chain_init 96 = .ok (.return_, 1) := by decide +kernel
abbrev jc_Link_init : ByteArray := prog_3_method_1_code
abbrev jy_Link_init : MethodName := ⟨"YesNoPowers$Link", "<init>", "()V"⟩
set_option maxRecDepth 100000 in
theorem jm_Link_init : jMi jy_Link_init jc_Link_init 1 none 0 := ⟨jmem_1 8 (by decide +kernel) rfl, jmem_1 181 (by rfl) rfl, ⟨jne_Link.1, jne_Link.2, by decide +kernel⟩, by decide, plainFor_of_name jpn_Link⟩
theorem ji_Link_init : Cond.instanceMethod jy_Link_init ∈ jtbl := jmem_1 180 (by decide +kernel) rfl
theorem d_Link_init_0 : decode jc_Link_init 0 = .ok (.aload_n 0, 1) := by decide +kernel
theorem d_Link_init_1 : decode jc_Link_init 1 = .ok (.invokespecial 1, 3) := by decide +kernel
theorem d_Link_init_4 : decode jc_Link_init 4 = .ok (.aload_n 0, 1) := by decide +kernel
theorem d_Link_init_5 : decode jc_Link_init 5 = .ok (.new 7, 3) := by decide +kernel
theorem d_Link_init_8 : decode jc_Link_init 8 = .ok (.dup, 1) := by decide +kernel
theorem d_Link_init_9 : decode jc_Link_init 9 = .ok (.invokespecial 9, 3) := by decide +kernel
theorem d_Link_init_12 : decode jc_Link_init 12 = .ok (.putfield 10, 3) := by decide +kernel
theorem d_Link_init_15 : decode jc_Link_init 15 = .ok (.return_, 1) := by decide +kernel
abbrev jc_Log_init : ByteArray := prog_4_method_1_code
abbrev jy_Log_init : MethodName := ⟨"YesNoPowers$Log", "<init>", "()V"⟩
set_option maxRecDepth 100000 in
theorem jm_Log_init : jMi jy_Log_init jc_Log_init 2 none 0 := ⟨jmem_1 2 (by decide +kernel) rfl, jmem_1 31 (by rfl) rfl, ⟨jne_Log.1, jne_Log.2, by decide +kernel⟩, by decide, plainFor_of_name jpn_Log⟩
theorem ji_Log_init : Cond.instanceMethod jy_Log_init ∈ jtbl := jmem_1 30 (by decide +kernel) rfl
theorem d_Log_init_0 : decode jc_Log_init 0 = .ok (.aload_n 0, 1) := by decide +kernel
theorem d_Log_init_1 : decode jc_Log_init 1 = .ok (.invokespecial 1, 3) := by decide +kernel
theorem d_Log_init_4 : decode jc_Log_init 4 = .ok (.aload_n 0, 1) := by decide +kernel
theorem d_Log_init_5 : decode jc_Log_init 5 = .ok (.bipush 20, 2) := by decide +kernel
theorem d_Log_init_7 : decode jc_Log_init 7 = .ok (.newarray .int, 2) := by decide +kernel
theorem d_Log_init_9 : decode jc_Log_init 9 = .ok (.putfield 9, 3) := by decide +kernel
theorem d_Log_init_12 : decode jc_Log_init 12 = .ok (.aload_n 0, 1) := by decide +kernel
theorem d_Log_init_13 : decode jc_Log_init 13 = .ok (.bipush 20, 2) := by decide +kernel
theorem d_Log_init_15 : decode jc_Log_init 15 = .ok (.anewarray 13, 3) := by decide +kernel
theorem d_Log_init_18 : decode jc_Log_init 18 = .ok (.putfield 15, 3) := by decide +kernel
theorem d_Log_init_21 : decode jc_Log_init 21 = .ok (.iconst 0, 1) := by decide +kernel
theorem d_Log_init_22 : decode jc_Log_init 22 = .ok (.istore_n 1, 1) := by decide +kernel
theorem d_Log_init_23 : decode jc_Log_init 23 = .ok (.iload_n 1, 1) := by decide +kernel
theorem d_Log_init_24 : decode jc_Log_init 24 = .ok (.bipush 20, 2) := by decide +kernel
theorem d_Log_init_26 : decode jc_Log_init 26 = .ok (.if_icmp .ge 22, 3) := by decide +kernel
theorem d_Log_init_29 : decode jc_Log_init 29 = .ok (.aload_n 0, 1) := by decide +kernel
theorem d_Log_init_30 : decode jc_Log_init 30 = .ok (.getfield 15, 3) := by decide +kernel
theorem d_Log_init_33 : decode jc_Log_init 33 = .ok (.iload_n 1, 1) := by decide +kernel
theorem d_Log_init_34 : decode jc_Log_init 34 = .ok (.new 13, 3) := by decide +kernel
theorem d_Log_init_37 : decode jc_Log_init 37 = .ok (.dup, 1) := by decide +kernel
theorem d_Log_init_38 : decode jc_Log_init 38 = .ok (.invokespecial 19, 3) := by decide +kernel
theorem d_Log_init_41 : decode jc_Log_init 41 = .ok (.aastore, 1) := by decide +kernel
theorem d_Log_init_42 : decode jc_Log_init 42 = .ok (.iinc 1 1, 3) := by decide +kernel
theorem d_Log_init_45 : decode jc_Log_init 45 = .ok (.goto (-22), 3) := by decide +kernel
theorem d_Log_init_48 : decode jc_Log_init 48 = .ok (.return_, 1) := by decide +kernel
abbrev jc_Powers_init : ByteArray := prog_5_method_1_code
abbrev jy_Powers_init : MethodName := ⟨"YesNoPowers$Powers", "<init>", "()V"⟩
set_option maxRecDepth 100000 in
theorem jm_Powers_init : jMi jy_Powers_init jc_Powers_init 1 none 0 := ⟨jmem_1 4 (by decide +kernel) rfl, jmem_1 73 (by rfl) rfl, ⟨jne_Powers.1, jne_Powers.2, by decide +kernel⟩, by decide, plainFor_of_name jpn_Powers⟩
theorem ji_Powers_init : Cond.instanceMethod jy_Powers_init ∈ jtbl := jmem_1 72 (by decide +kernel) rfl
theorem d_Powers_init_0 : decode jc_Powers_init 0 = .ok (.aload_n 0, 1) := by decide +kernel
theorem d_Powers_init_1 : decode jc_Powers_init 1 = .ok (.invokespecial 1, 3) := by decide +kernel
theorem d_Powers_init_4 : decode jc_Powers_init 4 = .ok (.aload_n 0, 1) := by decide +kernel
theorem d_Powers_init_5 : decode jc_Powers_init 5 = .ok (.new 7, 3) := by decide +kernel
theorem d_Powers_init_8 : decode jc_Powers_init 8 = .ok (.dup, 1) := by decide +kernel
theorem d_Powers_init_9 : decode jc_Powers_init 9 = .ok (.invokespecial 9, 3) := by decide +kernel
theorem d_Powers_init_12 : decode jc_Powers_init 12 = .ok (.putfield 10, 3) := by decide +kernel
theorem d_Powers_init_15 : decode jc_Powers_init 15 = .ok (.aload_n 0, 1) := by decide +kernel
theorem d_Powers_init_16 : decode jc_Powers_init 16 = .ok (.new 7, 3) := by decide +kernel
theorem d_Powers_init_19 : decode jc_Powers_init 19 = .ok (.dup, 1) := by decide +kernel
theorem d_Powers_init_20 : decode jc_Powers_init 20 = .ok (.invokespecial 9, 3) := by decide +kernel
theorem d_Powers_init_23 : decode jc_Powers_init 23 = .ok (.putfield 16, 3) := by decide +kernel
theorem d_Powers_init_26 : decode jc_Powers_init 26 = .ok (.return_, 1) := by decide +kernel
abbrev jc_Rings_init : ByteArray := prog_6_method_1_code
abbrev jy_Rings_init : MethodName := ⟨"YesNoPowers$Rings", "<init>", "()V"⟩
set_option maxRecDepth 100000 in
theorem jm_Rings_init : jMi jy_Rings_init jc_Rings_init 1 none 0 := ⟨jmem_1 5 (by decide +kernel) rfl, jmem_1 96 (by rfl) rfl, ⟨jne_Rings.1, jne_Rings.2, by decide +kernel⟩, by decide, plainFor_of_name jpn_Rings⟩
theorem ji_Rings_init : Cond.instanceMethod jy_Rings_init ∈ jtbl := jmem_1 95 (by decide +kernel) rfl
theorem d_Rings_init_0 : decode jc_Rings_init 0 = .ok (.aload_n 0, 1) := by decide +kernel
theorem d_Rings_init_1 : decode jc_Rings_init 1 = .ok (.invokespecial 1, 3) := by decide +kernel
theorem d_Rings_init_4 : decode jc_Rings_init 4 = .ok (.aload_n 0, 1) := by decide +kernel
theorem d_Rings_init_5 : decode jc_Rings_init 5 = .ok (.bipush 12, 2) := by decide +kernel
theorem d_Rings_init_7 : decode jc_Rings_init 7 = .ok (.newarray .int, 2) := by decide +kernel
theorem d_Rings_init_9 : decode jc_Rings_init 9 = .ok (.putfield 9, 3) := by decide +kernel
theorem d_Rings_init_12 : decode jc_Rings_init 12 = .ok (.aload_n 0, 1) := by decide +kernel
theorem d_Rings_init_13 : decode jc_Rings_init 13 = .ok (.bipush 12, 2) := by decide +kernel
theorem d_Rings_init_15 : decode jc_Rings_init 15 = .ok (.newarray .int, 2) := by decide +kernel
theorem d_Rings_init_17 : decode jc_Rings_init 17 = .ok (.putfield 15, 3) := by decide +kernel
theorem d_Rings_init_20 : decode jc_Rings_init 20 = .ok (.aload_n 0, 1) := by decide +kernel
theorem d_Rings_init_21 : decode jc_Rings_init 21 = .ok (.bipush 12, 2) := by decide +kernel
theorem d_Rings_init_23 : decode jc_Rings_init 23 = .ok (.newarray .int, 2) := by decide +kernel
theorem d_Rings_init_25 : decode jc_Rings_init 25 = .ok (.putfield 18, 3) := by decide +kernel
theorem d_Rings_init_28 : decode jc_Rings_init 28 = .ok (.aload_n 0, 1) := by decide +kernel
theorem d_Rings_init_29 : decode jc_Rings_init 29 = .ok (.bipush 12, 2) := by decide +kernel
theorem d_Rings_init_31 : decode jc_Rings_init 31 = .ok (.newarray .int, 2) := by decide +kernel
theorem d_Rings_init_33 : decode jc_Rings_init 33 = .ok (.putfield 21, 3) := by decide +kernel
theorem d_Rings_init_36 : decode jc_Rings_init 36 = .ok (.aload_n 0, 1) := by decide +kernel
theorem d_Rings_init_37 : decode jc_Rings_init 37 = .ok (.bipush 12, 2) := by decide +kernel
theorem d_Rings_init_39 : decode jc_Rings_init 39 = .ok (.newarray .int, 2) := by decide +kernel
theorem d_Rings_init_41 : decode jc_Rings_init 41 = .ok (.putfield 24, 3) := by decide +kernel
theorem d_Rings_init_44 : decode jc_Rings_init 44 = .ok (.aload_n 0, 1) := by decide +kernel
theorem d_Rings_init_45 : decode jc_Rings_init 45 = .ok (.bipush 12, 2) := by decide +kernel
theorem d_Rings_init_47 : decode jc_Rings_init 47 = .ok (.newarray .int, 2) := by decide +kernel
theorem d_Rings_init_49 : decode jc_Rings_init 49 = .ok (.putfield 27, 3) := by decide +kernel
theorem d_Rings_init_52 : decode jc_Rings_init 52 = .ok (.aload_n 0, 1) := by decide +kernel
theorem d_Rings_init_53 : decode jc_Rings_init 53 = .ok (.bipush 12, 2) := by decide +kernel
theorem d_Rings_init_55 : decode jc_Rings_init 55 = .ok (.newarray .int, 2) := by decide +kernel
theorem d_Rings_init_57 : decode jc_Rings_init 57 = .ok (.putfield 30, 3) := by decide +kernel
theorem d_Rings_init_60 : decode jc_Rings_init 60 = .ok (.aload_n 0, 1) := by decide +kernel
theorem d_Rings_init_61 : decode jc_Rings_init 61 = .ok (.bipush 12, 2) := by decide +kernel
theorem d_Rings_init_63 : decode jc_Rings_init 63 = .ok (.newarray .int, 2) := by decide +kernel
theorem d_Rings_init_65 : decode jc_Rings_init 65 = .ok (.putfield 33, 3) := by decide +kernel
theorem d_Rings_init_68 : decode jc_Rings_init 68 = .ok (.aload_n 0, 1) := by decide +kernel
theorem d_Rings_init_69 : decode jc_Rings_init 69 = .ok (.new 7, 3) := by decide +kernel
theorem d_Rings_init_72 : decode jc_Rings_init 72 = .ok (.dup, 1) := by decide +kernel
theorem d_Rings_init_73 : decode jc_Rings_init 73 = .ok (.invokespecial 36, 3) := by decide +kernel
theorem d_Rings_init_76 : decode jc_Rings_init 76 = .ok (.putfield 37, 3) := by decide +kernel
theorem d_Rings_init_79 : decode jc_Rings_init 79 = .ok (.aload_n 0, 1) := by decide +kernel
theorem d_Rings_init_80 : decode jc_Rings_init 80 = .ok (.new 7, 3) := by decide +kernel
theorem d_Rings_init_83 : decode jc_Rings_init 83 = .ok (.dup, 1) := by decide +kernel
theorem d_Rings_init_84 : decode jc_Rings_init 84 = .ok (.invokespecial 36, 3) := by decide +kernel
theorem d_Rings_init_87 : decode jc_Rings_init 87 = .ok (.putfield 41, 3) := by decide +kernel
theorem d_Rings_init_90 : decode jc_Rings_init 90 = .ok (.return_, 1) := by decide +kernel
abbrev jc_Sheet_init : ByteArray := prog_8_method_1_code
abbrev jy_Sheet_init : MethodName := ⟨"YesNoPowers$Sheet", "<init>", "()V"⟩
set_option maxRecDepth 100000 in
theorem jm_Sheet_init : jMi jy_Sheet_init jc_Sheet_init 1 none 0 := ⟨jmem_1 9 (by decide +kernel) rfl, jmem_2 1 (by rfl) rfl, ⟨jne_Sheet.1, jne_Sheet.2, by decide +kernel⟩, by decide, plainFor_of_name jpn_Sheet⟩
theorem ji_Sheet_init : Cond.instanceMethod jy_Sheet_init ∈ jtbl := jmem_2 0 (by decide +kernel) rfl
theorem d_Sheet_init_0 : decode jc_Sheet_init 0 = .ok (.aload_n 0, 1) := by decide +kernel
theorem d_Sheet_init_1 : decode jc_Sheet_init 1 = .ok (.invokespecial 1, 3) := by decide +kernel
theorem d_Sheet_init_4 : decode jc_Sheet_init 4 = .ok (.aload_n 0, 1) := by decide +kernel
theorem d_Sheet_init_5 : decode jc_Sheet_init 5 = .ok (.iconst (-1), 1) := by decide +kernel
theorem d_Sheet_init_6 : decode jc_Sheet_init 6 = .ok (.putfield 7, 3) := by decide +kernel
theorem d_Sheet_init_9 : decode jc_Sheet_init 9 = .ok (.aload_n 0, 1) := by decide +kernel
theorem d_Sheet_init_10 : decode jc_Sheet_init 10 = .ok (.bipush 40, 2) := by decide +kernel
theorem d_Sheet_init_12 : decode jc_Sheet_init 12 = .ok (.newarray .int, 2) := by decide +kernel
theorem d_Sheet_init_14 : decode jc_Sheet_init 14 = .ok (.putfield 13, 3) := by decide +kernel
theorem d_Sheet_init_17 : decode jc_Sheet_init 17 = .ok (.return_, 1) := by decide +kernel
abbrev jc_Spaces_init : ByteArray := prog_9_method_1_code
abbrev jy_Spaces_init : MethodName := ⟨"YesNoPowers$Spaces", "<init>", "()V"⟩
set_option maxRecDepth 100000 in
theorem jm_Spaces_init : jMi jy_Spaces_init jc_Spaces_init 1 none 0 := ⟨jmem_1 6 (by decide +kernel) rfl, jmem_1 146 (by rfl) rfl, ⟨jne_Spaces.1, jne_Spaces.2, by decide +kernel⟩, by decide, plainFor_of_name jpn_Spaces⟩
theorem ji_Spaces_init : Cond.instanceMethod jy_Spaces_init ∈ jtbl := jmem_1 145 (by decide +kernel) rfl
theorem d_Spaces_init_0 : decode jc_Spaces_init 0 = .ok (.aload_n 0, 1) := by decide +kernel
theorem d_Spaces_init_1 : decode jc_Spaces_init 1 = .ok (.invokespecial 1, 3) := by decide +kernel
theorem d_Spaces_init_4 : decode jc_Spaces_init 4 = .ok (.aload_n 0, 1) := by decide +kernel
theorem d_Spaces_init_5 : decode jc_Spaces_init 5 = .ok (.new 7, 3) := by decide +kernel
theorem d_Spaces_init_8 : decode jc_Spaces_init 8 = .ok (.dup, 1) := by decide +kernel
theorem d_Spaces_init_9 : decode jc_Spaces_init 9 = .ok (.invokespecial 9, 3) := by decide +kernel
theorem d_Spaces_init_12 : decode jc_Spaces_init 12 = .ok (.putfield 10, 3) := by decide +kernel
theorem d_Spaces_init_15 : decode jc_Spaces_init 15 = .ok (.aload_n 0, 1) := by decide +kernel
theorem d_Spaces_init_16 : decode jc_Spaces_init 16 = .ok (.new 7, 3) := by decide +kernel
theorem d_Spaces_init_19 : decode jc_Spaces_init 19 = .ok (.dup, 1) := by decide +kernel
theorem d_Spaces_init_20 : decode jc_Spaces_init 20 = .ok (.invokespecial 9, 3) := by decide +kernel
theorem d_Spaces_init_23 : decode jc_Spaces_init 23 = .ok (.putfield 16, 3) := by decide +kernel
theorem d_Spaces_init_26 : decode jc_Spaces_init 26 = .ok (.aload_n 0, 1) := by decide +kernel
theorem d_Spaces_init_27 : decode jc_Spaces_init 27 = .ok (.new 7, 3) := by decide +kernel
theorem d_Spaces_init_30 : decode jc_Spaces_init 30 = .ok (.dup, 1) := by decide +kernel
theorem d_Spaces_init_31 : decode jc_Spaces_init 31 = .ok (.invokespecial 9, 3) := by decide +kernel
theorem d_Spaces_init_34 : decode jc_Spaces_init 34 = .ok (.putfield 19, 3) := by decide +kernel
theorem d_Spaces_init_37 : decode jc_Spaces_init 37 = .ok (.aload_n 0, 1) := by decide +kernel
theorem d_Spaces_init_38 : decode jc_Spaces_init 38 = .ok (.new 7, 3) := by decide +kernel
theorem d_Spaces_init_41 : decode jc_Spaces_init 41 = .ok (.dup, 1) := by decide +kernel
theorem d_Spaces_init_42 : decode jc_Spaces_init 42 = .ok (.invokespecial 9, 3) := by decide +kernel
theorem d_Spaces_init_45 : decode jc_Spaces_init 45 = .ok (.putfield 22, 3) := by decide +kernel
theorem d_Spaces_init_48 : decode jc_Spaces_init 48 = .ok (.aload_n 0, 1) := by decide +kernel
theorem d_Spaces_init_49 : decode jc_Spaces_init 49 = .ok (.new 7, 3) := by decide +kernel
theorem d_Spaces_init_52 : decode jc_Spaces_init 52 = .ok (.dup, 1) := by decide +kernel
theorem d_Spaces_init_53 : decode jc_Spaces_init 53 = .ok (.invokespecial 9, 3) := by decide +kernel
theorem d_Spaces_init_56 : decode jc_Spaces_init 56 = .ok (.putfield 25, 3) := by decide +kernel
theorem d_Spaces_init_59 : decode jc_Spaces_init 59 = .ok (.return_, 1) := by decide +kernel
abbrev jc_Table_init : ByteArray := prog_10_method_1_code
abbrev jy_Table_init : MethodName := ⟨"YesNoPowers$Table", "<init>", "()V"⟩
set_option maxRecDepth 100000 in
theorem jm_Table_init : jMi jy_Table_init jc_Table_init 1 none 0 := ⟨jmem_1 3 (by decide +kernel) rfl, jmem_1 37 (by rfl) rfl, ⟨jne_Table.1, jne_Table.2, by decide +kernel⟩, by decide, plainFor_of_name jpn_Table⟩
theorem ji_Table_init : Cond.instanceMethod jy_Table_init ∈ jtbl := jmem_1 36 (by decide +kernel) rfl
theorem d_Table_init_0 : decode jc_Table_init 0 = .ok (.aload_n 0, 1) := by decide +kernel
theorem d_Table_init_1 : decode jc_Table_init 1 = .ok (.invokespecial 3, 3) := by decide +kernel
theorem d_Table_init_4 : decode jc_Table_init 4 = .ok (.aload_n 0, 1) := by decide +kernel
theorem d_Table_init_5 : decode jc_Table_init 5 = .ok (.bipush 12, 2) := by decide +kernel
theorem d_Table_init_7 : decode jc_Table_init 7 = .ok (.newarray .int, 2) := by decide +kernel
theorem d_Table_init_9 : decode jc_Table_init 9 = .ok (.putfield 11, 3) := by decide +kernel
theorem d_Table_init_12 : decode jc_Table_init 12 = .ok (.return_, 1) := by decide +kernel
abbrev jc_Main_init : ByteArray := prog_1_method_1_code
abbrev jy_Main_init : MethodName := ⟨"YesNoPowers", "<init>", "()V"⟩
set_option maxRecDepth 100000 in
theorem jm_Main_init : jMi jy_Main_init jc_Main_init 2 none 0 := ⟨jmem_1 1 (by decide +kernel) rfl, jmem_1 19 (by rfl) rfl, ⟨jne_Main.1, jne_Main.2, by decide +kernel⟩, by decide, plainFor_of_name jpn_Main⟩
theorem ji_Main_init : Cond.instanceMethod jy_Main_init ∈ jtbl := jmem_1 18 (by decide +kernel) rfl
theorem d_Main_init_0 : decode jc_Main_init 0 = .ok (.aload_n 0, 1) := by decide +kernel
theorem d_Main_init_1 : decode jc_Main_init 1 = .ok (.invokespecial 1, 3) := by decide +kernel
theorem d_Main_init_4 : decode jc_Main_init 4 = .ok (.aload_n 0, 1) := by decide +kernel
theorem d_Main_init_5 : decode jc_Main_init 5 = .ok (.bipush 6, 2) := by decide +kernel
theorem d_Main_init_7 : decode jc_Main_init 7 = .ok (.anewarray 9, 3) := by decide +kernel
theorem d_Main_init_10 : decode jc_Main_init 10 = .ok (.putfield 11, 3) := by decide +kernel
theorem d_Main_init_13 : decode jc_Main_init 13 = .ok (.aload_n 0, 1) := by decide +kernel
theorem d_Main_init_14 : decode jc_Main_init 14 = .ok (.iconst 4, 1) := by decide +kernel
theorem d_Main_init_15 : decode jc_Main_init 15 = .ok (.anewarray 15, 3) := by decide +kernel
theorem d_Main_init_18 : decode jc_Main_init 18 = .ok (.putfield 17, 3) := by decide +kernel
theorem d_Main_init_21 : decode jc_Main_init 21 = .ok (.aload_n 0, 1) := by decide +kernel
theorem d_Main_init_22 : decode jc_Main_init 22 = .ok (.new 21, 3) := by decide +kernel
theorem d_Main_init_25 : decode jc_Main_init 25 = .ok (.dup, 1) := by decide +kernel
theorem d_Main_init_26 : decode jc_Main_init 26 = .ok (.invokespecial 23, 3) := by decide +kernel
theorem d_Main_init_29 : decode jc_Main_init 29 = .ok (.putfield 24, 3) := by decide +kernel
theorem d_Main_init_32 : decode jc_Main_init 32 = .ok (.aload_n 0, 1) := by decide +kernel
theorem d_Main_init_33 : decode jc_Main_init 33 = .ok (.new 28, 3) := by decide +kernel
theorem d_Main_init_36 : decode jc_Main_init 36 = .ok (.dup, 1) := by decide +kernel
theorem d_Main_init_37 : decode jc_Main_init 37 = .ok (.invokespecial 30, 3) := by decide +kernel
theorem d_Main_init_40 : decode jc_Main_init 40 = .ok (.putfield 31, 3) := by decide +kernel
theorem d_Main_init_43 : decode jc_Main_init 43 = .ok (.aload_n 0, 1) := by decide +kernel
theorem d_Main_init_44 : decode jc_Main_init 44 = .ok (.new 35, 3) := by decide +kernel
theorem d_Main_init_47 : decode jc_Main_init 47 = .ok (.dup, 1) := by decide +kernel
theorem d_Main_init_48 : decode jc_Main_init 48 = .ok (.invokespecial 37, 3) := by decide +kernel
theorem d_Main_init_51 : decode jc_Main_init 51 = .ok (.putfield 38, 3) := by decide +kernel
theorem d_Main_init_54 : decode jc_Main_init 54 = .ok (.aload_n 0, 1) := by decide +kernel
theorem d_Main_init_55 : decode jc_Main_init 55 = .ok (.new 42, 3) := by decide +kernel
theorem d_Main_init_58 : decode jc_Main_init 58 = .ok (.dup, 1) := by decide +kernel
theorem d_Main_init_59 : decode jc_Main_init 59 = .ok (.invokespecial 44, 3) := by decide +kernel
theorem d_Main_init_62 : decode jc_Main_init 62 = .ok (.putfield 45, 3) := by decide +kernel
theorem d_Main_init_65 : decode jc_Main_init 65 = .ok (.aload_n 0, 1) := by decide +kernel
theorem d_Main_init_66 : decode jc_Main_init 66 = .ok (.new 49, 3) := by decide +kernel
theorem d_Main_init_69 : decode jc_Main_init 69 = .ok (.dup, 1) := by decide +kernel
theorem d_Main_init_70 : decode jc_Main_init 70 = .ok (.invokespecial 51, 3) := by decide +kernel
theorem d_Main_init_73 : decode jc_Main_init 73 = .ok (.putfield 52, 3) := by decide +kernel
theorem d_Main_init_76 : decode jc_Main_init 76 = .ok (.aload_n 0, 1) := by decide +kernel
theorem d_Main_init_77 : decode jc_Main_init 77 = .ok (.new 9, 3) := by decide +kernel
theorem d_Main_init_80 : decode jc_Main_init 80 = .ok (.dup, 1) := by decide +kernel
theorem d_Main_init_81 : decode jc_Main_init 81 = .ok (.invokespecial 56, 3) := by decide +kernel
theorem d_Main_init_84 : decode jc_Main_init 84 = .ok (.putfield 57, 3) := by decide +kernel
theorem d_Main_init_87 : decode jc_Main_init 87 = .ok (.iconst 0, 1) := by decide +kernel
theorem d_Main_init_88 : decode jc_Main_init 88 = .ok (.istore_n 1, 1) := by decide +kernel
theorem d_Main_init_89 : decode jc_Main_init 89 = .ok (.iload_n 1, 1) := by decide +kernel
theorem d_Main_init_90 : decode jc_Main_init 90 = .ok (.bipush 6, 2) := by decide +kernel
theorem d_Main_init_92 : decode jc_Main_init 92 = .ok (.if_icmp .ge 22, 3) := by decide +kernel
theorem d_Main_init_95 : decode jc_Main_init 95 = .ok (.aload_n 0, 1) := by decide +kernel
theorem d_Main_init_96 : decode jc_Main_init 96 = .ok (.getfield 11, 3) := by decide +kernel
theorem d_Main_init_99 : decode jc_Main_init 99 = .ok (.iload_n 1, 1) := by decide +kernel
theorem d_Main_init_100 : decode jc_Main_init 100 = .ok (.new 9, 3) := by decide +kernel
theorem d_Main_init_103 : decode jc_Main_init 103 = .ok (.dup, 1) := by decide +kernel
theorem d_Main_init_104 : decode jc_Main_init 104 = .ok (.invokespecial 56, 3) := by decide +kernel
theorem d_Main_init_107 : decode jc_Main_init 107 = .ok (.aastore, 1) := by decide +kernel
theorem d_Main_init_108 : decode jc_Main_init 108 = .ok (.iinc 1 1, 3) := by decide +kernel
theorem d_Main_init_111 : decode jc_Main_init 111 = .ok (.goto (-22), 3) := by decide +kernel
theorem d_Main_init_114 : decode jc_Main_init 114 = .ok (.iconst 0, 1) := by decide +kernel
theorem d_Main_init_115 : decode jc_Main_init 115 = .ok (.istore_n 1, 1) := by decide +kernel
theorem d_Main_init_116 : decode jc_Main_init 116 = .ok (.iload_n 1, 1) := by decide +kernel
theorem d_Main_init_117 : decode jc_Main_init 117 = .ok (.iconst 4, 1) := by decide +kernel
theorem d_Main_init_118 : decode jc_Main_init 118 = .ok (.if_icmp .ge 22, 3) := by decide +kernel
theorem d_Main_init_121 : decode jc_Main_init 121 = .ok (.aload_n 0, 1) := by decide +kernel
theorem d_Main_init_122 : decode jc_Main_init 122 = .ok (.getfield 17, 3) := by decide +kernel
theorem d_Main_init_125 : decode jc_Main_init 125 = .ok (.iload_n 1, 1) := by decide +kernel
theorem d_Main_init_126 : decode jc_Main_init 126 = .ok (.new 15, 3) := by decide +kernel
theorem d_Main_init_129 : decode jc_Main_init 129 = .ok (.dup, 1) := by decide +kernel
theorem d_Main_init_130 : decode jc_Main_init 130 = .ok (.invokespecial 61, 3) := by decide +kernel
theorem d_Main_init_133 : decode jc_Main_init 133 = .ok (.aastore, 1) := by decide +kernel
theorem d_Main_init_134 : decode jc_Main_init 134 = .ok (.iinc 1 1, 3) := by decide +kernel
theorem d_Main_init_137 : decode jc_Main_init 137 = .ok (.goto (-21), 3) := by decide +kernel
theorem d_Main_init_140 : decode jc_Main_init 140 = .ok (.return_, 1) := by decide +kernel
abbrev jc_Model_init : ByteArray := prog_12_method_1_code
abbrev jy_Model_init : MethodName := ⟨"YesNoPowersModel", "<init>", "()V"⟩
set_option maxRecDepth 100000 in
theorem jm_Model_init : jMi jy_Model_init jc_Model_init 1 none 0 := ⟨jmem_1 10 (by decide +kernel) rfl, jmem_4 91 (by rfl) rfl, ⟨jne_Model.1, jne_Model.2, by decide +kernel⟩, by decide, plainFor_of_name jpn_Model⟩
theorem ji_Model_init : Cond.instanceMethod jy_Model_init ∈ jtbl := jmem_4 90 (by decide +kernel) rfl
theorem d_Model_init_0 : decode jc_Model_init 0 = .ok (.aload_n 0, 1) := by decide +kernel
theorem d_Model_init_1 : decode jc_Model_init 1 = .ok (.invokespecial 1, 3) := by decide +kernel
theorem d_Model_init_4 : decode jc_Model_init 4 = .ok (.aload_n 0, 1) := by decide +kernel
theorem d_Model_init_5 : decode jc_Model_init 5 = .ok (.sipush 456, 3) := by decide +kernel
theorem d_Model_init_8 : decode jc_Model_init 8 = .ok (.newarray .int, 2) := by decide +kernel
theorem d_Model_init_10 : decode jc_Model_init 10 = .ok (.putfield 7, 3) := by decide +kernel
theorem d_Model_init_13 : decode jc_Model_init 13 = .ok (.aload_n 0, 1) := by decide +kernel
theorem d_Model_init_14 : decode jc_Model_init 14 = .ok (.bipush 38, 2) := by decide +kernel
theorem d_Model_init_16 : decode jc_Model_init 16 = .ok (.newarray .int, 2) := by decide +kernel
theorem d_Model_init_18 : decode jc_Model_init 18 = .ok (.putfield 13, 3) := by decide +kernel
theorem d_Model_init_21 : decode jc_Model_init 21 = .ok (.aload_n 0, 1) := by decide +kernel
theorem d_Model_init_22 : decode jc_Model_init 22 = .ok (.bipush 20, 2) := by decide +kernel
theorem d_Model_init_24 : decode jc_Model_init 24 = .ok (.newarray .int, 2) := by decide +kernel
theorem d_Model_init_26 : decode jc_Model_init 26 = .ok (.putfield 16, 3) := by decide +kernel
theorem d_Model_init_29 : decode jc_Model_init 29 = .ok (.aload_n 0, 1) := by decide +kernel
theorem d_Model_init_30 : decode jc_Model_init 30 = .ok (.bipush 8, 2) := by decide +kernel
theorem d_Model_init_32 : decode jc_Model_init 32 = .ok (.newarray .int, 2) := by decide +kernel
theorem d_Model_init_34 : decode jc_Model_init 34 = .ok (.putfield 19, 3) := by decide +kernel
theorem d_Model_init_37 : decode jc_Model_init 37 = .ok (.aload_n 0, 1) := by decide +kernel
theorem d_Model_init_38 : decode jc_Model_init 38 = .ok (.bipush 8, 2) := by decide +kernel
theorem d_Model_init_40 : decode jc_Model_init 40 = .ok (.newarray .int, 2) := by decide +kernel
theorem d_Model_init_42 : decode jc_Model_init 42 = .ok (.putfield 22, 3) := by decide +kernel
theorem d_Model_init_45 : decode jc_Model_init 45 = .ok (.aload_n 0, 1) := by decide +kernel
theorem d_Model_init_46 : decode jc_Model_init 46 = .ok (.iconst 3, 1) := by decide +kernel
theorem d_Model_init_47 : decode jc_Model_init 47 = .ok (.newarray .int, 2) := by decide +kernel
theorem d_Model_init_49 : decode jc_Model_init 49 = .ok (.putfield 25, 3) := by decide +kernel
theorem d_Model_init_52 : decode jc_Model_init 52 = .ok (.aload_n 0, 1) := by decide +kernel
theorem d_Model_init_53 : decode jc_Model_init 53 = .ok (.sipush 3612, 3) := by decide +kernel
theorem d_Model_init_56 : decode jc_Model_init 56 = .ok (.newarray .int, 2) := by decide +kernel
theorem d_Model_init_58 : decode jc_Model_init 58 = .ok (.putfield 28, 3) := by decide +kernel
theorem d_Model_init_61 : decode jc_Model_init 61 = .ok (.aload_n 0, 1) := by decide +kernel
theorem d_Model_init_62 : decode jc_Model_init 62 = .ok (.bipush 12, 2) := by decide +kernel
theorem d_Model_init_64 : decode jc_Model_init 64 = .ok (.newarray .int, 2) := by decide +kernel
theorem d_Model_init_66 : decode jc_Model_init 66 = .ok (.putfield 31, 3) := by decide +kernel
theorem d_Model_init_69 : decode jc_Model_init 69 = .ok (.aload_n 0, 1) := by decide +kernel
theorem d_Model_init_70 : decode jc_Model_init 70 = .ok (.bipush 12, 2) := by decide +kernel
theorem d_Model_init_72 : decode jc_Model_init 72 = .ok (.newarray .int, 2) := by decide +kernel
theorem d_Model_init_74 : decode jc_Model_init 74 = .ok (.putfield 34, 3) := by decide +kernel
theorem d_Model_init_77 : decode jc_Model_init 77 = .ok (.aload_n 0, 1) := by decide +kernel
theorem d_Model_init_78 : decode jc_Model_init 78 = .ok (.sipush 156, 3) := by decide +kernel
theorem d_Model_init_81 : decode jc_Model_init 81 = .ok (.newarray .int, 2) := by decide +kernel
theorem d_Model_init_83 : decode jc_Model_init 83 = .ok (.putfield 37, 3) := by decide +kernel
theorem d_Model_init_86 : decode jc_Model_init 86 = .ok (.aload_n 0, 1) := by decide +kernel
theorem d_Model_init_87 : decode jc_Model_init 87 = .ok (.bipush 12, 2) := by decide +kernel
theorem d_Model_init_89 : decode jc_Model_init 89 = .ok (.newarray .int, 2) := by decide +kernel
theorem d_Model_init_91 : decode jc_Model_init 91 = .ok (.putfield 40, 3) := by decide +kernel
theorem d_Model_init_94 : decode jc_Model_init 94 = .ok (.aload_n 0, 1) := by decide +kernel
theorem d_Model_init_95 : decode jc_Model_init 95 = .ok (.sipush 4096, 3) := by decide +kernel
theorem d_Model_init_98 : decode jc_Model_init 98 = .ok (.newarray .boolean, 2) := by decide +kernel
theorem d_Model_init_100 : decode jc_Model_init 100 = .ok (.putfield 43, 3) := by decide +kernel
theorem d_Model_init_103 : decode jc_Model_init 103 = .ok (.aload_n 0, 1) := by decide +kernel
theorem d_Model_init_104 : decode jc_Model_init 104 = .ok (.bipush 12, 2) := by decide +kernel
theorem d_Model_init_106 : decode jc_Model_init 106 = .ok (.newarray .int, 2) := by decide +kernel
theorem d_Model_init_108 : decode jc_Model_init 108 = .ok (.putfield 47, 3) := by decide +kernel
theorem d_Model_init_111 : decode jc_Model_init 111 = .ok (.aload_n 0, 1) := by decide +kernel
theorem d_Model_init_112 : decode jc_Model_init 112 = .ok (.iconst 4, 1) := by decide +kernel
theorem d_Model_init_113 : decode jc_Model_init 113 = .ok (.newarray .int, 2) := by decide +kernel
theorem d_Model_init_115 : decode jc_Model_init 115 = .ok (.dup, 1) := by decide +kernel
theorem d_Model_init_116 : decode jc_Model_init 116 = .ok (.iconst 0, 1) := by decide +kernel
theorem d_Model_init_117 : decode jc_Model_init 117 = .ok (.iconst (-1), 1) := by decide +kernel
theorem d_Model_init_118 : decode jc_Model_init 118 = .ok (.iastore, 1) := by decide +kernel
theorem d_Model_init_119 : decode jc_Model_init 119 = .ok (.dup, 1) := by decide +kernel
theorem d_Model_init_120 : decode jc_Model_init 120 = .ok (.iconst 1, 1) := by decide +kernel
theorem d_Model_init_121 : decode jc_Model_init 121 = .ok (.iconst (-1), 1) := by decide +kernel
theorem d_Model_init_122 : decode jc_Model_init 122 = .ok (.iastore, 1) := by decide +kernel
theorem d_Model_init_123 : decode jc_Model_init 123 = .ok (.dup, 1) := by decide +kernel
theorem d_Model_init_124 : decode jc_Model_init 124 = .ok (.iconst 2, 1) := by decide +kernel
theorem d_Model_init_125 : decode jc_Model_init 125 = .ok (.iconst (-1), 1) := by decide +kernel
theorem d_Model_init_126 : decode jc_Model_init 126 = .ok (.iastore, 1) := by decide +kernel
theorem d_Model_init_127 : decode jc_Model_init 127 = .ok (.dup, 1) := by decide +kernel
theorem d_Model_init_128 : decode jc_Model_init 128 = .ok (.iconst 3, 1) := by decide +kernel
theorem d_Model_init_129 : decode jc_Model_init 129 = .ok (.iconst (-1), 1) := by decide +kernel
theorem d_Model_init_130 : decode jc_Model_init 130 = .ok (.iastore, 1) := by decide +kernel
theorem d_Model_init_131 : decode jc_Model_init 131 = .ok (.putfield 50, 3) := by decide +kernel
theorem d_Model_init_134 : decode jc_Model_init 134 = .ok (.aload_n 0, 1) := by decide +kernel
theorem d_Model_init_135 : decode jc_Model_init 135 = .ok (.iconst 4, 1) := by decide +kernel
theorem d_Model_init_136 : decode jc_Model_init 136 = .ok (.newarray .int, 2) := by decide +kernel
theorem d_Model_init_138 : decode jc_Model_init 138 = .ok (.putfield 53, 3) := by decide +kernel
theorem d_Model_init_141 : decode jc_Model_init 141 = .ok (.aload_n 0, 1) := by decide +kernel
theorem d_Model_init_142 : decode jc_Model_init 142 = .ok (.sipush 160, 3) := by decide +kernel
theorem d_Model_init_145 : decode jc_Model_init 145 = .ok (.newarray .int, 2) := by decide +kernel
theorem d_Model_init_147 : decode jc_Model_init 147 = .ok (.putfield 56, 3) := by decide +kernel
theorem d_Model_init_150 : decode jc_Model_init 150 = .ok (.aload_n 0, 1) := by decide +kernel
theorem d_Model_init_151 : decode jc_Model_init 151 = .ok (.iconst 0, 1) := by decide +kernel
theorem d_Model_init_152 : decode jc_Model_init 152 = .ok (.putfield 59, 3) := by decide +kernel
theorem d_Model_init_155 : decode jc_Model_init 155 = .ok (.return_, 1) := by decide +kernel
theorem jk_Law_9 : Cond.methodLink "YesNoPowersLaw" 9 jy_Main_init ∈ jtbl := jmem_1 17 (by decide +kernel) rfl
theorem jk_Main_1 : Cond.methodLink "YesNoPowers" 1 Lib.objectInit ∈ jtbl := jmem_1 20 (by decide +kernel) rfl
theorem jk_Main_23 : Cond.methodLink "YesNoPowers" 23 jy_Log_init ∈ jtbl := jmem_1 29 (by decide +kernel) rfl
theorem jk_Log_1 : Cond.methodLink "YesNoPowers$Log" 1 Lib.objectInit ∈ jtbl := jmem_1 32 (by decide +kernel) rfl
theorem jk_Log_19 : ("YesNoPowers$Log", 19, jy_Table_init) ∈ iNL := by decide
theorem jk_Table_3 : Cond.methodLink "YesNoPowers$Table" 3 Lib.objectInit ∈ jtbl := jmem_1 38 (by decide +kernel) rfl
theorem jk_Main_30 : ("YesNoPowers", 30, jy_Powers_init) ∈ iNL := by decide
theorem jk_Powers_1 : Cond.methodLink "YesNoPowers$Powers" 1 Lib.objectInit ∈ jtbl := jmem_1 74 (by decide +kernel) rfl
theorem jk_Powers_9 : ("YesNoPowers$Powers", 9, jy_Table_init) ∈ iNL := by decide
theorem jk_Main_37 : ("YesNoPowers", 37, jy_Rings_init) ∈ iNL := by decide
theorem jk_Rings_1 : Cond.methodLink "YesNoPowers$Rings" 1 Lib.objectInit ∈ jtbl := jmem_1 97 (by decide +kernel) rfl
theorem jk_Rings_36 : ("YesNoPowers$Rings", 36, jy_Table_init) ∈ iNL := by decide
theorem jk_Main_44 : ("YesNoPowers", 44, jy_Spaces_init) ∈ iNL := by decide
theorem jk_Spaces_1 : Cond.methodLink "YesNoPowers$Spaces" 1 Lib.objectInit ∈ jtbl := jmem_1 147 (by decide +kernel) rfl
theorem jk_Spaces_9 : ("YesNoPowers$Spaces", 9, jy_Table_init) ∈ iNL := by decide
theorem jk_Main_51 : Cond.methodLink "YesNoPowers" 51 jy_Chain_init ∈ jtbl := jmem_1 168 (by decide +kernel) rfl
theorem jk_Chain_1 : Cond.methodLink "YesNoPowers$Chain" 1 Lib.objectInit ∈ jtbl := jmem_1 171 (by decide +kernel) rfl
theorem jk_Chain_18 : ("YesNoPowers$Chain", 18, jy_Table_init) ∈ iNL := by decide
theorem jk_Chain_37 : ("YesNoPowers$Chain", 37, jy_Powers_init) ∈ iNL := by decide
theorem jk_Chain_42 : ("YesNoPowers$Chain", 42, jy_Link_init) ∈ iNL := by decide
theorem jk_Link_1 : Cond.methodLink "YesNoPowers$Link" 1 Lib.objectInit ∈ jtbl := jmem_1 182 (by decide +kernel) rfl
theorem jk_Link_9 : ("YesNoPowers$Link", 9, jy_Table_init) ∈ iNL := by decide
theorem jk_Main_56 : ("YesNoPowers", 56, jy_Table_init) ∈ iNL := by decide
theorem jk_Main_61 : ("YesNoPowers", 61, jy_Sheet_init) ∈ iNL := by decide
theorem jk_Sheet_1 : Cond.methodLink "YesNoPowers$Sheet" 1 Lib.objectInit ∈ jtbl := jmem_2 2 (by decide +kernel) rfl
theorem jk_Law_12 : Cond.methodLink "YesNoPowersLaw" 12 jy_Model_init ∈ jtbl := jmem_4 89 (by decide +kernel) rfl
theorem jk_Model_1 : Cond.methodLink "YesNoPowersModel" 1 Lib.objectInit ∈ jtbl := jmem_4 92 (by decide +kernel) rfl
theorem jo_in : Cond.instanceMethod Lib.objectInit ∈ jtbl := jmem_1 21 (by decide +kernel) rfl
theorem jo_co : Cond.code Lib.objectInit ⟨#[0xb1]⟩ 1 none ∈ jtbl := jmem_1 22 (by rfl) rfl
theorem ja_int : Cond.arrayClass .int ∈ jtbl := jmem_1 54 (by decide +kernel) rfl
theorem ja_bool : Cond.arrayClass .boolean ∈ jtbl := jmem_4 166 (by decide +kernel) rfl
theorem jz_Law_7 : Cond.classLink "YesNoPowersLaw" 7 "YesNoPowers" ∈ jtbl := jmem_1 15 (by decide +kernel) rfl
theorem jn_Law_7 : iK "YesNoPowersLaw" 7 8 8 := ⟨jR_Main, jT_Main, jt_Main, by decide, rfl, jin_Main, jz_Law_7, jmem_1 16 (by decide +kernel) rfl, jmem_1 1 (by decide +kernel) rfl, jty_Main, fun k hk => by
  rcases (show k = 0 ∨ k = 1 ∨ k = 2 ∨ k = 3 ∨ k = 4 ∨ k = 5 ∨ k = 6 ∨ k = 7 by omega) with rfl | rfl | rfl | rfl | rfl | rfl | rfl | rfl <;> rfl⟩
theorem jz_Main_9 : Cond.classLink "YesNoPowers" 9 "YesNoPowers$Table" ∈ jtbl := jmem_1 23 (by decide +kernel) rfl
theorem jn_Main_9 : iK "YesNoPowers" 9 7 2 := ⟨jR_Table, jT_Table, jt_Table, by decide, rfl, jin_Table, jz_Main_9, jmem_1 34 (by decide +kernel) rfl, jmem_1 3 (by decide +kernel) rfl, jty_Table, fun k hk => by
  rcases (show k = 0 ∨ k = 1 by omega) with rfl | rfl <;> rfl⟩
theorem jz_Main_15 : Cond.classLink "YesNoPowers" 15 "YesNoPowers$Sheet" ∈ jtbl := jmem_1 25 (by decide +kernel) rfl
theorem jn_Main_15 : iK "YesNoPowers" 15 5 3 := ⟨jR_Sheet, jT_Sheet, jt_Sheet, by decide, rfl, jin_Sheet, jz_Main_15, jmem_1 238 (by decide +kernel) rfl, jmem_1 9 (by decide +kernel) rfl, jty_Sheet, fun k hk => by
  rcases (show k = 0 ∨ k = 1 ∨ k = 2 by omega) with rfl | rfl | rfl <;> rfl⟩
theorem jz_Main_21 : Cond.classLink "YesNoPowers" 21 "YesNoPowers$Log" ∈ jtbl := jmem_1 27 (by decide +kernel) rfl
theorem jn_Main_21 : iK "YesNoPowers" 21 2 4 := ⟨jR_Log, jT_Log, jt_Log, by decide, rfl, jin_Log, jz_Main_21, jmem_1 28 (by decide +kernel) rfl, jmem_1 2 (by decide +kernel) rfl, jty_Log, fun k hk => by
  rcases (show k = 0 ∨ k = 1 ∨ k = 2 ∨ k = 3 by omega) with rfl | rfl | rfl | rfl <;> rfl⟩
theorem jz_Log_13 : Cond.classLink "YesNoPowers$Log" 13 "YesNoPowers$Table" ∈ jtbl := jmem_1 33 (by decide +kernel) rfl
theorem jn_Log_13 : iK "YesNoPowers$Log" 13 7 2 := ⟨jR_Table, jT_Table, jt_Table, by decide, rfl, jin_Table, jz_Log_13, jmem_1 34 (by decide +kernel) rfl, jmem_1 3 (by decide +kernel) rfl, jty_Table, fun k hk => by
  rcases (show k = 0 ∨ k = 1 by omega) with rfl | rfl <;> rfl⟩
theorem jz_Main_28 : Cond.classLink "YesNoPowers" 28 "YesNoPowers$Powers" ∈ jtbl := jmem_1 69 (by decide +kernel) rfl
theorem jn_Main_28 : iK "YesNoPowers" 28 3 4 := ⟨jR_Powers, jT_Powers, jt_Powers, by decide, rfl, jin_Powers, jz_Main_28, jmem_1 70 (by decide +kernel) rfl, jmem_1 4 (by decide +kernel) rfl, jty_Powers, fun k hk => by
  rcases (show k = 0 ∨ k = 1 ∨ k = 2 ∨ k = 3 by omega) with rfl | rfl | rfl | rfl <;> rfl⟩
theorem jz_Powers_7 : Cond.classLink "YesNoPowers$Powers" 7 "YesNoPowers$Table" ∈ jtbl := jmem_1 75 (by decide +kernel) rfl
theorem jn_Powers_7 : iK "YesNoPowers$Powers" 7 7 2 := ⟨jR_Table, jT_Table, jt_Table, by decide, rfl, jin_Table, jz_Powers_7, jmem_1 34 (by decide +kernel) rfl, jmem_1 3 (by decide +kernel) rfl, jty_Table, fun k hk => by
  rcases (show k = 0 ∨ k = 1 by omega) with rfl | rfl <;> rfl⟩
theorem jz_Main_35 : Cond.classLink "YesNoPowers" 35 "YesNoPowers$Rings" ∈ jtbl := jmem_1 92 (by decide +kernel) rfl
theorem jn_Main_35 : iK "YesNoPowers" 35 4 11 := ⟨jR_Rings, jT_Rings, jt_Rings, by decide, rfl, jin_Rings, jz_Main_35, jmem_1 93 (by decide +kernel) rfl, jmem_1 5 (by decide +kernel) rfl, jty_Rings, fun k hk => by
  rcases (show k = 0 ∨ k = 1 ∨ k = 2 ∨ k = 3 ∨ k = 4 ∨ k = 5 ∨ k = 6 ∨ k = 7 ∨ k = 8 ∨ k = 9 ∨ k = 10 by omega) with rfl | rfl | rfl | rfl | rfl | rfl | rfl | rfl | rfl | rfl | rfl <;> rfl⟩
theorem jz_Rings_7 : Cond.classLink "YesNoPowers$Rings" 7 "YesNoPowers$Table" ∈ jtbl := jmem_1 98 (by decide +kernel) rfl
theorem jn_Rings_7 : iK "YesNoPowers$Rings" 7 7 2 := ⟨jR_Table, jT_Table, jt_Table, by decide, rfl, jin_Table, jz_Rings_7, jmem_1 34 (by decide +kernel) rfl, jmem_1 3 (by decide +kernel) rfl, jty_Table, fun k hk => by
  rcases (show k = 0 ∨ k = 1 by omega) with rfl | rfl <;> rfl⟩
theorem jz_Main_42 : Cond.classLink "YesNoPowers" 42 "YesNoPowers$Spaces" ∈ jtbl := jmem_1 142 (by decide +kernel) rfl
theorem jn_Main_42 : iK "YesNoPowers" 42 6 5 := ⟨jR_Spaces, jT_Spaces, jt_Spaces, by decide, rfl, jin_Spaces, jz_Main_42, jmem_1 143 (by decide +kernel) rfl, jmem_1 6 (by decide +kernel) rfl, jty_Spaces, fun k hk => by
  rcases (show k = 0 ∨ k = 1 ∨ k = 2 ∨ k = 3 ∨ k = 4 by omega) with rfl | rfl | rfl | rfl | rfl <;> rfl⟩
theorem jz_Spaces_7 : Cond.classLink "YesNoPowers$Spaces" 7 "YesNoPowers$Table" ∈ jtbl := jmem_1 148 (by decide +kernel) rfl
theorem jn_Spaces_7 : iK "YesNoPowers$Spaces" 7 7 2 := ⟨jR_Table, jT_Table, jt_Table, by decide, rfl, jin_Table, jz_Spaces_7, jmem_1 34 (by decide +kernel) rfl, jmem_1 3 (by decide +kernel) rfl, jty_Table, fun k hk => by
  rcases (show k = 0 ∨ k = 1 by omega) with rfl | rfl <;> rfl⟩
theorem jz_Main_49 : Cond.classLink "YesNoPowers" 49 "YesNoPowers$Chain" ∈ jtbl := jmem_1 166 (by decide +kernel) rfl
theorem jn_Main_49 : iK "YesNoPowers" 49 0 11 := ⟨jR_Chain, jT_Chain, jt_Chain, by decide, rfl, jin_Chain, jz_Main_49, jmem_1 167 (by decide +kernel) rfl, jmem_1 7 (by decide +kernel) rfl, jty_Chain, fun k hk => by
  rcases (show k = 0 ∨ k = 1 ∨ k = 2 ∨ k = 3 ∨ k = 4 ∨ k = 5 ∨ k = 6 ∨ k = 7 ∨ k = 8 ∨ k = 9 ∨ k = 10 by omega) with rfl | rfl | rfl | rfl | rfl | rfl | rfl | rfl | rfl | rfl | rfl <;> rfl⟩
theorem jz_Chain_16 : Cond.classLink "YesNoPowers$Chain" 16 "YesNoPowers$Table" ∈ jtbl := jmem_1 172 (by decide +kernel) rfl
theorem jn_Chain_16 : iK "YesNoPowers$Chain" 16 7 2 := ⟨jR_Table, jT_Table, jt_Table, by decide, rfl, jin_Table, jz_Chain_16, jmem_1 34 (by decide +kernel) rfl, jmem_1 3 (by decide +kernel) rfl, jty_Table, fun k hk => by
  rcases (show k = 0 ∨ k = 1 by omega) with rfl | rfl <;> rfl⟩
theorem jz_Chain_26 : Cond.classLink "YesNoPowers$Chain" 26 "YesNoPowers$Link" ∈ jtbl := jmem_1 174 (by decide +kernel) rfl
theorem jn_Chain_26 : iK "YesNoPowers$Chain" 26 1 3 := ⟨jR_Link, jT_Link, jt_Link, by decide, rfl, jin_Link, jz_Chain_26, jmem_1 178 (by decide +kernel) rfl, jmem_1 8 (by decide +kernel) rfl, jty_Link, fun k hk => by
  rcases (show k = 0 ∨ k = 1 ∨ k = 2 by omega) with rfl | rfl | rfl <;> rfl⟩
theorem jz_Chain_35 : Cond.classLink "YesNoPowers$Chain" 35 "YesNoPowers$Powers" ∈ jtbl := jmem_1 176 (by decide +kernel) rfl
theorem jn_Chain_35 : iK "YesNoPowers$Chain" 35 3 4 := ⟨jR_Powers, jT_Powers, jt_Powers, by decide, rfl, jin_Powers, jz_Chain_35, jmem_1 70 (by decide +kernel) rfl, jmem_1 4 (by decide +kernel) rfl, jty_Powers, fun k hk => by
  rcases (show k = 0 ∨ k = 1 ∨ k = 2 ∨ k = 3 by omega) with rfl | rfl | rfl | rfl <;> rfl⟩
theorem jz_Link_7 : Cond.classLink "YesNoPowers$Link" 7 "YesNoPowers$Table" ∈ jtbl := jmem_1 183 (by decide +kernel) rfl
theorem jn_Link_7 : iK "YesNoPowers$Link" 7 7 2 := ⟨jR_Table, jT_Table, jt_Table, by decide, rfl, jin_Table, jz_Link_7, jmem_1 34 (by decide +kernel) rfl, jmem_1 3 (by decide +kernel) rfl, jty_Table, fun k hk => by
  rcases (show k = 0 ∨ k = 1 by omega) with rfl | rfl <;> rfl⟩
theorem jz_Law_10 : Cond.classLink "YesNoPowersLaw" 10 "YesNoPowersModel" ∈ jtbl := jmem_4 87 (by decide +kernel) rfl
theorem jn_Law_10 : iK "YesNoPowersLaw" 10 9 24 := ⟨jR_Model, jT_Model, jt_Model, by decide, rfl, jin_Model, jz_Law_10, jmem_4 88 (by decide +kernel) rfl, jmem_1 10 (by decide +kernel) rfl, jty_Model, fun k hk => by
  rcases (show k = 0 ∨ k = 1 ∨ k = 2 ∨ k = 3 ∨ k = 4 ∨ k = 5 ∨ k = 6 ∨ k = 7 ∨ k = 8 ∨ k = 9 ∨ k = 10 ∨ k = 11 ∨ k = 12 ∨ k = 13 ∨ k = 14 ∨ k = 15 ∨ k = 16 ∨ k = 17 ∨ k = 18 ∨ k = 19 ∨ k = 20 ∨ k = 21 ∨ k = 22 ∨ k = 23 by omega) with rfl | rfl | rfl | rfl | rfl | rfl | rfl | rfl | rfl | rfl | rfl | rfl | rfl | rfl | rfl | rfl | rfl | rfl | rfl | rfl | rfl | rfl | rfl | rfl <;> rfl⟩
theorem if_Chain_9 : iF "YesNoPowers$Chain" 9 0 4 11 := ⟨jR_Chain, jT_Chain, jt_Chain, by decide, rfl, jin_Chain, by decide, jmem_1 204 (by decide +kernel) rfl, jty_Chain, jnm_Chain, rfl, rfl, by decide, fun x => ⟨rfl, rfl⟩⟩
theorem if_Chain_13 : iF "YesNoPowers$Chain" 13 0 5 11 := ⟨jR_Chain, jT_Chain, jt_Chain, by decide, rfl, jin_Chain, by decide, jmem_1 206 (by decide +kernel) rfl, jty_Chain, jnm_Chain, rfl, rfl, by decide, fun x => ⟨rfl, rfl⟩⟩
theorem if_Chain_19 : iF "YesNoPowers$Chain" 19 0 6 11 := ⟨jR_Chain, jT_Chain, jt_Chain, by decide, rfl, jin_Chain, by decide, jmem_1 208 (by decide +kernel) rfl, jty_Chain, jnm_Chain, rfl, rfl, by decide, fun x => ⟨rfl, rfl⟩⟩
theorem if_Chain_23 : iF "YesNoPowers$Chain" 23 0 7 11 := ⟨jR_Chain, jT_Chain, jt_Chain, by decide, rfl, jin_Chain, by decide, jmem_1 210 (by decide +kernel) rfl, jty_Chain, jnm_Chain, rfl, rfl, by decide, fun x => ⟨rfl, rfl⟩⟩
theorem if_Chain_28 : iF "YesNoPowers$Chain" 28 0 8 11 := ⟨jR_Chain, jT_Chain, jt_Chain, by decide, rfl, jin_Chain, by decide, jmem_1 211 (by decide +kernel) rfl, jty_Chain, jnm_Chain, rfl, rfl, by decide, fun x => ⟨rfl, rfl⟩⟩
theorem if_Chain_32 : iF "YesNoPowers$Chain" 32 0 9 11 := ⟨jR_Chain, jT_Chain, jt_Chain, by decide, rfl, jin_Chain, by decide, jmem_1 212 (by decide +kernel) rfl, jty_Chain, jnm_Chain, rfl, rfl, by decide, fun x => ⟨rfl, rfl⟩⟩
theorem if_Chain_38 : iF "YesNoPowers$Chain" 38 0 10 11 := ⟨jR_Chain, jT_Chain, jt_Chain, by decide, rfl, jin_Chain, by decide, jmem_1 213 (by decide +kernel) rfl, jty_Chain, jnm_Chain, rfl, rfl, by decide, fun x => ⟨rfl, rfl⟩⟩
theorem if_Link_10 : iF "YesNoPowers$Link" 10 1 2 3 := ⟨jR_Link, jT_Link, jt_Link, by decide, rfl, jin_Link, by decide, jmem_1 187 (by decide +kernel) rfl, jty_Link, jnm_Link, rfl, rfl, by decide, fun x => ⟨rfl, rfl⟩⟩
theorem if_Log_9 : iF "YesNoPowers$Log" 9 2 2 4 := ⟨jR_Log, jT_Log, jt_Log, by decide, rfl, jin_Log, by decide, jmem_1 58 (by decide +kernel) rfl, jty_Log, jnm_Log, rfl, rfl, by decide, fun x => ⟨rfl, rfl⟩⟩
theorem if_Log_15 : iF "YesNoPowers$Log" 15 2 3 4 := ⟨jR_Log, jT_Log, jt_Log, by decide, rfl, jin_Log, by decide, jmem_1 59 (by decide +kernel) rfl, jty_Log, jnm_Log, rfl, rfl, by decide, fun x => ⟨rfl, rfl⟩⟩
theorem if_Powers_10 : iF "YesNoPowers$Powers" 10 3 2 4 := ⟨jR_Powers, jT_Powers, jt_Powers, by decide, rfl, jin_Powers, by decide, jmem_1 81 (by decide +kernel) rfl, jty_Powers, jnm_Powers, rfl, rfl, by decide, fun x => ⟨rfl, rfl⟩⟩
theorem if_Powers_16 : iF "YesNoPowers$Powers" 16 3 3 4 := ⟨jR_Powers, jT_Powers, jt_Powers, by decide, rfl, jin_Powers, by decide, jmem_1 82 (by decide +kernel) rfl, jty_Powers, jnm_Powers, rfl, rfl, by decide, fun x => ⟨rfl, rfl⟩⟩
theorem if_Rings_9 : iF "YesNoPowers$Rings" 9 4 1 11 := ⟨jR_Rings, jT_Rings, jt_Rings, by decide, rfl, jin_Rings, by decide, jmem_1 102 (by decide +kernel) rfl, jty_Rings, jnm_Rings, rfl, rfl, by decide, fun x => ⟨rfl, rfl⟩⟩
theorem if_Rings_15 : iF "YesNoPowers$Rings" 15 4 2 11 := ⟨jR_Rings, jT_Rings, jt_Rings, by decide, rfl, jin_Rings, by decide, jmem_1 104 (by decide +kernel) rfl, jty_Rings, jnm_Rings, rfl, rfl, by decide, fun x => ⟨rfl, rfl⟩⟩
theorem if_Rings_18 : iF "YesNoPowers$Rings" 18 4 3 11 := ⟨jR_Rings, jT_Rings, jt_Rings, by decide, rfl, jin_Rings, by decide, jmem_1 106 (by decide +kernel) rfl, jty_Rings, jnm_Rings, rfl, rfl, by decide, fun x => ⟨rfl, rfl⟩⟩
theorem if_Rings_21 : iF "YesNoPowers$Rings" 21 4 4 11 := ⟨jR_Rings, jT_Rings, jt_Rings, by decide, rfl, jin_Rings, by decide, jmem_1 108 (by decide +kernel) rfl, jty_Rings, jnm_Rings, rfl, rfl, by decide, fun x => ⟨rfl, rfl⟩⟩
theorem if_Rings_24 : iF "YesNoPowers$Rings" 24 4 5 11 := ⟨jR_Rings, jT_Rings, jt_Rings, by decide, rfl, jin_Rings, by decide, jmem_1 110 (by decide +kernel) rfl, jty_Rings, jnm_Rings, rfl, rfl, by decide, fun x => ⟨rfl, rfl⟩⟩
theorem if_Rings_27 : iF "YesNoPowers$Rings" 27 4 6 11 := ⟨jR_Rings, jT_Rings, jt_Rings, by decide, rfl, jin_Rings, by decide, jmem_1 112 (by decide +kernel) rfl, jty_Rings, jnm_Rings, rfl, rfl, by decide, fun x => ⟨rfl, rfl⟩⟩
theorem if_Rings_30 : iF "YesNoPowers$Rings" 30 4 7 11 := ⟨jR_Rings, jT_Rings, jt_Rings, by decide, rfl, jin_Rings, by decide, jmem_1 114 (by decide +kernel) rfl, jty_Rings, jnm_Rings, rfl, rfl, by decide, fun x => ⟨rfl, rfl⟩⟩
theorem if_Rings_33 : iF "YesNoPowers$Rings" 33 4 8 11 := ⟨jR_Rings, jT_Rings, jt_Rings, by decide, rfl, jin_Rings, by decide, jmem_1 116 (by decide +kernel) rfl, jty_Rings, jnm_Rings, rfl, rfl, by decide, fun x => ⟨rfl, rfl⟩⟩
theorem if_Rings_37 : iF "YesNoPowers$Rings" 37 4 9 11 := ⟨jR_Rings, jT_Rings, jt_Rings, by decide, rfl, jin_Rings, by decide, jmem_1 117 (by decide +kernel) rfl, jty_Rings, jnm_Rings, rfl, rfl, by decide, fun x => ⟨rfl, rfl⟩⟩
theorem if_Rings_41 : iF "YesNoPowers$Rings" 41 4 10 11 := ⟨jR_Rings, jT_Rings, jt_Rings, by decide, rfl, jin_Rings, by decide, jmem_1 118 (by decide +kernel) rfl, jty_Rings, jnm_Rings, rfl, rfl, by decide, fun x => ⟨rfl, rfl⟩⟩
theorem if_Sheet_13 : iF "YesNoPowers$Sheet" 13 5 2 3 := ⟨jR_Sheet, jT_Sheet, jt_Sheet, by decide, rfl, jin_Sheet, by decide, jmem_2 7 (by decide +kernel) rfl, jty_Sheet, jnm_Sheet, rfl, rfl, by decide, fun x => ⟨rfl, rfl⟩⟩
theorem if_Spaces_10 : iF "YesNoPowers$Spaces" 10 6 0 5 := ⟨jR_Spaces, jT_Spaces, jt_Spaces, by decide, rfl, jin_Spaces, by decide, jmem_1 150 (by decide +kernel) rfl, jty_Spaces, jnm_Spaces, rfl, rfl, by decide, fun x => ⟨rfl, rfl⟩⟩
theorem if_Spaces_16 : iF "YesNoPowers$Spaces" 16 6 1 5 := ⟨jR_Spaces, jT_Spaces, jt_Spaces, by decide, rfl, jin_Spaces, by decide, jmem_1 151 (by decide +kernel) rfl, jty_Spaces, jnm_Spaces, rfl, rfl, by decide, fun x => ⟨rfl, rfl⟩⟩
theorem if_Spaces_19 : iF "YesNoPowers$Spaces" 19 6 2 5 := ⟨jR_Spaces, jT_Spaces, jt_Spaces, by decide, rfl, jin_Spaces, by decide, jmem_1 152 (by decide +kernel) rfl, jty_Spaces, jnm_Spaces, rfl, rfl, by decide, fun x => ⟨rfl, rfl⟩⟩
theorem if_Spaces_22 : iF "YesNoPowers$Spaces" 22 6 3 5 := ⟨jR_Spaces, jT_Spaces, jt_Spaces, by decide, rfl, jin_Spaces, by decide, jmem_1 153 (by decide +kernel) rfl, jty_Spaces, jnm_Spaces, rfl, rfl, by decide, fun x => ⟨rfl, rfl⟩⟩
theorem if_Spaces_25 : iF "YesNoPowers$Spaces" 25 6 4 5 := ⟨jR_Spaces, jT_Spaces, jt_Spaces, by decide, rfl, jin_Spaces, by decide, jmem_1 154 (by decide +kernel) rfl, jty_Spaces, jnm_Spaces, rfl, rfl, by decide, fun x => ⟨rfl, rfl⟩⟩
theorem if_Table_11 : iF "YesNoPowers$Table" 11 7 1 2 := ⟨jR_Table, jT_Table, jt_Table, by decide, rfl, jin_Table, by decide, jmem_1 45 (by decide +kernel) rfl, jty_Table, jnm_Table, rfl, rfl, by decide, fun x => ⟨rfl, rfl⟩⟩
theorem if_Main_11 : iF "YesNoPowers" 11 8 0 8 := ⟨jR_Main, jT_Main, jt_Main, by decide, rfl, jin_Main, by decide, jmem_2 16 (by decide +kernel) rfl, jty_Main, jnm_Main, rfl, rfl, by decide, fun x => ⟨rfl, rfl⟩⟩
theorem if_Main_17 : iF "YesNoPowers" 17 8 1 8 := ⟨jR_Main, jT_Main, jt_Main, by decide, rfl, jin_Main, by decide, jmem_2 17 (by decide +kernel) rfl, jty_Main, jnm_Main, rfl, rfl, by decide, fun x => ⟨rfl, rfl⟩⟩
theorem if_Main_24 : iF "YesNoPowers" 24 8 2 8 := ⟨jR_Main, jT_Main, jt_Main, by decide, rfl, jin_Main, by decide, jmem_2 18 (by decide +kernel) rfl, jty_Main, jnm_Main, rfl, rfl, by decide, fun x => ⟨rfl, rfl⟩⟩
theorem if_Main_31 : iF "YesNoPowers" 31 8 3 8 := ⟨jR_Main, jT_Main, jt_Main, by decide, rfl, jin_Main, by decide, jmem_2 19 (by decide +kernel) rfl, jty_Main, jnm_Main, rfl, rfl, by decide, fun x => ⟨rfl, rfl⟩⟩
theorem if_Main_38 : iF "YesNoPowers" 38 8 4 8 := ⟨jR_Main, jT_Main, jt_Main, by decide, rfl, jin_Main, by decide, jmem_2 20 (by decide +kernel) rfl, jty_Main, jnm_Main, rfl, rfl, by decide, fun x => ⟨rfl, rfl⟩⟩
theorem if_Main_45 : iF "YesNoPowers" 45 8 5 8 := ⟨jR_Main, jT_Main, jt_Main, by decide, rfl, jin_Main, by decide, jmem_2 21 (by decide +kernel) rfl, jty_Main, jnm_Main, rfl, rfl, by decide, fun x => ⟨rfl, rfl⟩⟩
theorem if_Main_52 : iF "YesNoPowers" 52 8 6 8 := ⟨jR_Main, jT_Main, jt_Main, by decide, rfl, jin_Main, by decide, jmem_2 22 (by decide +kernel) rfl, jty_Main, jnm_Main, rfl, rfl, by decide, fun x => ⟨rfl, rfl⟩⟩
theorem if_Main_57 : iF "YesNoPowers" 57 8 7 8 := ⟨jR_Main, jT_Main, jt_Main, by decide, rfl, jin_Main, by decide, jmem_2 23 (by decide +kernel) rfl, jty_Main, jnm_Main, rfl, rfl, by decide, fun x => ⟨rfl, rfl⟩⟩
theorem if_Model_7 : iF "YesNoPowersModel" 7 9 0 24 := ⟨jR_Model, jT_Model, jt_Model, by decide, rfl, jin_Model, by decide, jmem_4 93 (by decide +kernel) rfl, jty_Model, jnm_Model, rfl, rfl, by decide, fun x => ⟨rfl, rfl⟩⟩
theorem if_Model_13 : iF "YesNoPowersModel" 13 9 1 24 := ⟨jR_Model, jT_Model, jt_Model, by decide, rfl, jin_Model, by decide, jmem_4 94 (by decide +kernel) rfl, jty_Model, jnm_Model, rfl, rfl, by decide, fun x => ⟨rfl, rfl⟩⟩
theorem if_Model_16 : iF "YesNoPowersModel" 16 9 3 24 := ⟨jR_Model, jT_Model, jt_Model, by decide, rfl, jin_Model, by decide, jmem_4 96 (by decide +kernel) rfl, jty_Model, jnm_Model, rfl, rfl, by decide, fun x => ⟨rfl, rfl⟩⟩
theorem if_Model_19 : iF "YesNoPowersModel" 19 9 5 24 := ⟨jR_Model, jT_Model, jt_Model, by decide, rfl, jin_Model, by decide, jmem_4 98 (by decide +kernel) rfl, jty_Model, jnm_Model, rfl, rfl, by decide, fun x => ⟨rfl, rfl⟩⟩
theorem if_Model_22 : iF "YesNoPowersModel" 22 9 6 24 := ⟨jR_Model, jT_Model, jt_Model, by decide, rfl, jin_Model, by decide, jmem_4 99 (by decide +kernel) rfl, jty_Model, jnm_Model, rfl, rfl, by decide, fun x => ⟨rfl, rfl⟩⟩
theorem if_Model_25 : iF "YesNoPowersModel" 25 9 9 24 := ⟨jR_Model, jT_Model, jt_Model, by decide, rfl, jin_Model, by decide, jmem_4 102 (by decide +kernel) rfl, jty_Model, jnm_Model, rfl, rfl, by decide, fun x => ⟨rfl, rfl⟩⟩
theorem if_Model_28 : iF "YesNoPowersModel" 28 9 10 24 := ⟨jR_Model, jT_Model, jt_Model, by decide, rfl, jin_Model, by decide, jmem_4 103 (by decide +kernel) rfl, jty_Model, jnm_Model, rfl, rfl, by decide, fun x => ⟨rfl, rfl⟩⟩
theorem if_Model_31 : iF "YesNoPowersModel" 31 9 14 24 := ⟨jR_Model, jT_Model, jt_Model, by decide, rfl, jin_Model, by decide, jmem_4 107 (by decide +kernel) rfl, jty_Model, jnm_Model, rfl, rfl, by decide, fun x => ⟨rfl, rfl⟩⟩
theorem if_Model_34 : iF "YesNoPowersModel" 34 9 15 24 := ⟨jR_Model, jT_Model, jt_Model, by decide, rfl, jin_Model, by decide, jmem_4 108 (by decide +kernel) rfl, jty_Model, jnm_Model, rfl, rfl, by decide, fun x => ⟨rfl, rfl⟩⟩
theorem if_Model_37 : iF "YesNoPowersModel" 37 9 16 24 := ⟨jR_Model, jT_Model, jt_Model, by decide, rfl, jin_Model, by decide, jmem_4 109 (by decide +kernel) rfl, jty_Model, jnm_Model, rfl, rfl, by decide, fun x => ⟨rfl, rfl⟩⟩
theorem if_Model_40 : iF "YesNoPowersModel" 40 9 17 24 := ⟨jR_Model, jT_Model, jt_Model, by decide, rfl, jin_Model, by decide, jmem_4 110 (by decide +kernel) rfl, jty_Model, jnm_Model, rfl, rfl, by decide, fun x => ⟨rfl, rfl⟩⟩
theorem if_Model_43 : iF "YesNoPowersModel" 43 9 18 24 := ⟨jR_Model, jT_Model, jt_Model, by decide, rfl, jin_Model, by decide, jmem_4 111 (by decide +kernel) rfl, jty_Model, jnm_Model, rfl, rfl, by decide, fun x => ⟨rfl, rfl⟩⟩
theorem if_Model_47 : iF "YesNoPowersModel" 47 9 19 24 := ⟨jR_Model, jT_Model, jt_Model, by decide, rfl, jin_Model, by decide, jmem_4 112 (by decide +kernel) rfl, jty_Model, jnm_Model, rfl, rfl, by decide, fun x => ⟨rfl, rfl⟩⟩
theorem if_Model_50 : iF "YesNoPowersModel" 50 9 21 24 := ⟨jR_Model, jT_Model, jt_Model, by decide, rfl, jin_Model, by decide, jmem_4 114 (by decide +kernel) rfl, jty_Model, jnm_Model, rfl, rfl, by decide, fun x => ⟨rfl, rfl⟩⟩
theorem if_Model_53 : iF "YesNoPowersModel" 53 9 22 24 := ⟨jR_Model, jT_Model, jt_Model, by decide, rfl, jin_Model, by decide, jmem_4 115 (by decide +kernel) rfl, jty_Model, jnm_Model, rfl, rfl, by decide, fun x => ⟨rfl, rfl⟩⟩
theorem if_Model_56 : iF "YesNoPowersModel" 56 9 23 24 := ⟨jR_Model, jT_Model, jt_Model, by decide, rfl, jin_Model, by decide, jmem_4 116 (by decide +kernel) rfl, jty_Model, jnm_Model, rfl, rfl, by decide, fun x => ⟨rfl, rfl⟩⟩

theorem jpn_Main : plainName "YesNoPowers" = true := by decide +kernel
theorem jne_Main : "YesNoPowers" ≠ "java/lang/invoke/MethodHandle" ∧ "YesNoPowers" ≠ "java/lang/invoke/VarHandle" := by decide +kernel
theorem jpn_Chain : plainName "YesNoPowers$Chain" = true := by decide +kernel
theorem jne_Chain : "YesNoPowers$Chain" ≠ "java/lang/invoke/MethodHandle" ∧ "YesNoPowers$Chain" ≠ "java/lang/invoke/VarHandle" := by decide +kernel
theorem jpn_Link : plainName "YesNoPowers$Link" = true := by decide +kernel
theorem jne_Link : "YesNoPowers$Link" ≠ "java/lang/invoke/MethodHandle" ∧ "YesNoPowers$Link" ≠ "java/lang/invoke/VarHandle" := by decide +kernel
theorem jpn_Log : plainName "YesNoPowers$Log" = true := by decide +kernel
theorem jne_Log : "YesNoPowers$Log" ≠ "java/lang/invoke/MethodHandle" ∧ "YesNoPowers$Log" ≠ "java/lang/invoke/VarHandle" := by decide +kernel
theorem jpn_Powers : plainName "YesNoPowers$Powers" = true := by decide +kernel
theorem jne_Powers : "YesNoPowers$Powers" ≠ "java/lang/invoke/MethodHandle" ∧ "YesNoPowers$Powers" ≠ "java/lang/invoke/VarHandle" := by decide +kernel
theorem jpn_Rings : plainName "YesNoPowers$Rings" = true := by decide +kernel
theorem jne_Rings : "YesNoPowers$Rings" ≠ "java/lang/invoke/MethodHandle" ∧ "YesNoPowers$Rings" ≠ "java/lang/invoke/VarHandle" := by decide +kernel
theorem jpn_Roots : plainName "YesNoPowers$Roots" = true := by decide +kernel
theorem jne_Roots : "YesNoPowers$Roots" ≠ "java/lang/invoke/MethodHandle" ∧ "YesNoPowers$Roots" ≠ "java/lang/invoke/VarHandle" := by decide +kernel
theorem jpn_Sheet : plainName "YesNoPowers$Sheet" = true := by decide +kernel
theorem jne_Sheet : "YesNoPowers$Sheet" ≠ "java/lang/invoke/MethodHandle" ∧ "YesNoPowers$Sheet" ≠ "java/lang/invoke/VarHandle" := by decide +kernel
theorem jpn_Spaces : plainName "YesNoPowers$Spaces" = true := by decide +kernel
theorem jne_Spaces : "YesNoPowers$Spaces" ≠ "java/lang/invoke/MethodHandle" ∧ "YesNoPowers$Spaces" ≠ "java/lang/invoke/VarHandle" := by decide +kernel
theorem jpn_Table : plainName "YesNoPowers$Table" = true := by decide +kernel
theorem jne_Table : "YesNoPowers$Table" ≠ "java/lang/invoke/MethodHandle" ∧ "YesNoPowers$Table" ≠ "java/lang/invoke/VarHandle" := by decide +kernel
theorem jpn_Model : plainName "YesNoPowersModel" = true := by decide +kernel
theorem jne_Model : "YesNoPowersModel" ≠ "java/lang/invoke/MethodHandle" ∧ "YesNoPowersModel" ≠ "java/lang/invoke/VarHandle" := by decide +kernel
abbrev jc_Chain_isFull : ByteArray := prog_2_method_2_code
abbrev jy_Chain_isFull : MethodName := ⟨"YesNoPowers$Chain", "isFull", "()Z"⟩
set_option maxRecDepth 100000 in
theorem jm_Chain_isFull : jMi jy_Chain_isFull jc_Chain_isFull 1 (some .boolean) 0 := ⟨jmem_1 7 (by decide +kernel) rfl, jmem_3 214 (by rfl) rfl, ⟨jne_Chain.1, jne_Chain.2, by decide +kernel⟩, by decide, plainFor_of_name jpn_Chain⟩
theorem ji_Chain_isFull : Cond.instanceMethod jy_Chain_isFull ∈ jtbl := jmem_3 212 (by decide +kernel) rfl
theorem js_Chain_isFull : Cond.selects jy_Chain_isFull.cls jy_Chain_isFull jy_Chain_isFull ∈ jtbl := jmem_3 213 (by decide +kernel) rfl
abbrev jc_Chain_append : ByteArray := prog_2_method_3_code
abbrev jy_Chain_append : MethodName := ⟨"YesNoPowers$Chain", "append", "(II[LYesNoPowers$Table;)V"⟩
set_option maxRecDepth 100000 in
theorem jm_Chain_append : jMi jy_Chain_append jc_Chain_append 5 none 3 := ⟨jmem_1 7 (by decide +kernel) rfl, jmem_3 218 (by rfl) rfl, ⟨jne_Chain.1, jne_Chain.2, by decide +kernel⟩, by decide, plainFor_of_name jpn_Chain⟩
theorem ji_Chain_append : Cond.instanceMethod jy_Chain_append ∈ jtbl := jmem_3 216 (by decide +kernel) rfl
theorem js_Chain_append : Cond.selects jy_Chain_append.cls jy_Chain_append jy_Chain_append ∈ jtbl := jmem_3 217 (by decide +kernel) rfl
abbrev jc_Chain_pass : ByteArray := prog_2_method_4_code
abbrev jy_Chain_pass : MethodName := ⟨"YesNoPowers$Chain", "pass", "(LYesNoPowers$Table;[LYesNoPowers$Table;)I"⟩
set_option maxRecDepth 100000 in
theorem jm_Chain_pass : jMi jy_Chain_pass jc_Chain_pass 6 (some .int) 2 := ⟨jmem_1 7 (by decide +kernel) rfl, jmem_3 228 (by rfl) rfl, ⟨jne_Chain.1, jne_Chain.2, by decide +kernel⟩, by decide, plainFor_of_name jpn_Chain⟩
theorem ji_Chain_pass : Cond.instanceMethod jy_Chain_pass ∈ jtbl := jmem_3 226 (by decide +kernel) rfl
theorem js_Chain_pass : Cond.selects jy_Chain_pass.cls jy_Chain_pass jy_Chain_pass ∈ jtbl := jmem_3 227 (by decide +kernel) rfl
abbrev jc_Chain_partner : ByteArray := prog_2_method_5_code
abbrev jy_Chain_partner : MethodName := ⟨"YesNoPowers$Chain", "partner", "(LYesNoPowers$Link;[LYesNoPowers$Table;)LYesNoPowers$Table;"⟩
set_option maxRecDepth 100000 in
theorem jm_Chain_partner : jMi jy_Chain_partner jc_Chain_partner 3 (some (.object "YesNoPowers$Table")) 2 := ⟨jmem_1 7 (by decide +kernel) rfl, jmem_3 232 (by rfl) rfl, ⟨jne_Chain.1, jne_Chain.2, by decide +kernel⟩, by decide, plainFor_of_name jpn_Chain⟩
theorem ji_Chain_partner : Cond.instanceMethod jy_Chain_partner ∈ jtbl := jmem_3 231 (by decide +kernel) rfl
theorem js_Chain_partner : Cond.selects jy_Chain_partner.cls jy_Chain_partner jy_Chain_partner ∈ jtbl := jmem_0 19 (by decide +kernel) rfl
abbrev jc_Chain_change : ByteArray := prog_2_method_6_code
abbrev jy_Chain_change : MethodName := ⟨"YesNoPowers$Chain", "change", "(LYesNoPowers$Link;LYesNoPowers$Table;)V"⟩
set_option maxRecDepth 100000 in
theorem jm_Chain_change : jMi jy_Chain_change jc_Chain_change 3 none 2 := ⟨jmem_1 7 (by decide +kernel) rfl, jmem_3 236 (by rfl) rfl, ⟨jne_Chain.1, jne_Chain.2, by decide +kernel⟩, by decide, plainFor_of_name jpn_Chain⟩
theorem ji_Chain_change : Cond.instanceMethod jy_Chain_change ∈ jtbl := jmem_3 235 (by decide +kernel) rfl
theorem js_Chain_change : Cond.selects jy_Chain_change.cls jy_Chain_change jy_Chain_change ∈ jtbl := jmem_0 20 (by decide +kernel) rfl
abbrev jc_Chain_giveReasons : ByteArray := prog_2_method_7_code
abbrev jy_Chain_giveReasons : MethodName := ⟨"YesNoPowers$Chain", "giveReasons", "(ILYesNoPowers$Table;)V"⟩
set_option maxRecDepth 100000 in
theorem jm_Chain_giveReasons : jMi jy_Chain_giveReasons jc_Chain_giveReasons 4 none 2 := ⟨jmem_1 7 (by decide +kernel) rfl, jmem_4 10 (by rfl) rfl, ⟨jne_Chain.1, jne_Chain.2, by decide +kernel⟩, by decide, plainFor_of_name jpn_Chain⟩
theorem ji_Chain_giveReasons : Cond.instanceMethod jy_Chain_giveReasons ∈ jtbl := jmem_4 9 (by decide +kernel) rfl
theorem js_Chain_giveReasons : Cond.selects jy_Chain_giveReasons.cls jy_Chain_giveReasons jy_Chain_giveReasons ∈ jtbl := jmem_0 21 (by decide +kernel) rfl
abbrev jc_Chain_giveBack : ByteArray := prog_2_method_8_code
abbrev jy_Chain_giveBack : MethodName := ⟨"YesNoPowers$Chain", "giveBack", "()V"⟩
set_option maxRecDepth 100000 in
theorem jm_Chain_giveBack : jMi jy_Chain_giveBack jc_Chain_giveBack 2 none 0 := ⟨jmem_1 7 (by decide +kernel) rfl, jmem_4 14 (by rfl) rfl, ⟨jne_Chain.1, jne_Chain.2, by decide +kernel⟩, by decide, plainFor_of_name jpn_Chain⟩
theorem ji_Chain_giveBack : Cond.instanceMethod jy_Chain_giveBack ∈ jtbl := jmem_4 13 (by decide +kernel) rfl
theorem js_Chain_giveBack : Cond.selects jy_Chain_giveBack.cls jy_Chain_giveBack jy_Chain_giveBack ∈ jtbl := jmem_0 22 (by decide +kernel) rfl
abbrev jc_Log_note : ByteArray := prog_4_method_2_code
abbrev jy_Log_note : MethodName := ⟨"YesNoPowers$Log", "note", "(ILYesNoPowers$Table;)V"⟩
set_option maxRecDepth 100000 in
theorem jm_Log_note : jMi jy_Log_note jc_Log_note 3 none 2 := ⟨jmem_1 2 (by decide +kernel) rfl, jmem_2 69 (by rfl) rfl, ⟨jne_Log.1, jne_Log.2, by decide +kernel⟩, by decide, plainFor_of_name jpn_Log⟩
theorem ji_Log_note : Cond.instanceMethod jy_Log_note ∈ jtbl := jmem_2 67 (by decide +kernel) rfl
theorem js_Log_note : Cond.selects jy_Log_note.cls jy_Log_note jy_Log_note ∈ jtbl := jmem_2 68 (by decide +kernel) rfl
abbrev jc_Log_latestSlot : ByteArray := prog_4_method_3_code
abbrev jy_Log_latestSlot : MethodName := ⟨"YesNoPowers$Log", "latestSlot", "()I"⟩
set_option maxRecDepth 100000 in
theorem jm_Log_latestSlot : jMi jy_Log_latestSlot jc_Log_latestSlot 1 (some .int) 0 := ⟨jmem_1 2 (by decide +kernel) rfl, jmem_4 38 (by rfl) rfl, ⟨jne_Log.1, jne_Log.2, by decide +kernel⟩, by decide, plainFor_of_name jpn_Log⟩
theorem ji_Log_latestSlot : Cond.instanceMethod jy_Log_latestSlot ∈ jtbl := jmem_4 36 (by decide +kernel) rfl
theorem js_Log_latestSlot : Cond.selects jy_Log_latestSlot.cls jy_Log_latestSlot jy_Log_latestSlot ∈ jtbl := jmem_4 37 (by decide +kernel) rfl
abbrev jc_Log_latestTable : ByteArray := prog_4_method_4_code
abbrev jy_Log_latestTable : MethodName := ⟨"YesNoPowers$Log", "latestTable", "()LYesNoPowers$Table;"⟩
set_option maxRecDepth 100000 in
theorem jm_Log_latestTable : jMi jy_Log_latestTable jc_Log_latestTable 1 (some (.object "YesNoPowers$Table")) 0 := ⟨jmem_1 2 (by decide +kernel) rfl, jmem_4 46 (by rfl) rfl, ⟨jne_Log.1, jne_Log.2, by decide +kernel⟩, by decide, plainFor_of_name jpn_Log⟩
theorem ji_Log_latestTable : Cond.instanceMethod jy_Log_latestTable ∈ jtbl := jmem_4 44 (by decide +kernel) rfl
theorem js_Log_latestTable : Cond.selects jy_Log_latestTable.cls jy_Log_latestTable jy_Log_latestTable ∈ jtbl := jmem_4 45 (by decide +kernel) rfl
abbrev jc_Log_dropLatest : ByteArray := prog_4_method_5_code
abbrev jy_Log_dropLatest : MethodName := ⟨"YesNoPowers$Log", "dropLatest", "()V"⟩
set_option maxRecDepth 100000 in
theorem jm_Log_dropLatest : jMi jy_Log_dropLatest jc_Log_dropLatest 1 none 0 := ⟨jmem_1 2 (by decide +kernel) rfl, jmem_4 50 (by rfl) rfl, ⟨jne_Log.1, jne_Log.2, by decide +kernel⟩, by decide, plainFor_of_name jpn_Log⟩
theorem ji_Log_dropLatest : Cond.instanceMethod jy_Log_dropLatest ∈ jtbl := jmem_4 48 (by decide +kernel) rfl
theorem js_Log_dropLatest : Cond.selects jy_Log_dropLatest.cls jy_Log_dropLatest jy_Log_dropLatest ∈ jtbl := jmem_4 49 (by decide +kernel) rfl
abbrev jc_Log_latest : ByteArray := prog_4_method_6_code
abbrev jy_Log_latest : MethodName := ⟨"YesNoPowers$Log", "latest", "()I"⟩
set_option maxRecDepth 100000 in
theorem jm_Log_latest : jMi jy_Log_latest jc_Log_latest 1 (some .int) 0 := ⟨jmem_1 2 (by decide +kernel) rfl, jmem_4 42 (by rfl) rfl, ⟨jne_Log.1, jne_Log.2, by decide +kernel⟩, by decide, plainFor_of_name jpn_Log⟩
theorem ji_Log_latest : Cond.instanceMethod jy_Log_latest ∈ jtbl := jmem_4 41 (by decide +kernel) rfl
theorem js_Log_latest : Cond.selects jy_Log_latest.cls jy_Log_latest jy_Log_latest ∈ jtbl := jmem_0 23 (by decide +kernel) rfl
abbrev jc_Powers_raise : ByteArray := prog_5_method_2_code
abbrev jy_Powers_raise : MethodName := ⟨"YesNoPowers$Powers", "raise", "(LYesNoPowers$Table;ILYesNoPowers$Table;)V"⟩
set_option maxRecDepth 100000 in
theorem jm_Powers_raise : jMi jy_Powers_raise jc_Powers_raise 5 none 3 := ⟨jmem_1 4 (by decide +kernel) rfl, jmem_2 139 (by rfl) rfl, ⟨jne_Powers.1, jne_Powers.2, by decide +kernel⟩, by decide, plainFor_of_name jpn_Powers⟩
theorem ji_Powers_raise : Cond.instanceMethod jy_Powers_raise ∈ jtbl := jmem_2 137 (by decide +kernel) rfl
theorem js_Powers_raise : Cond.selects jy_Powers_raise.cls jy_Powers_raise jy_Powers_raise ∈ jtbl := jmem_2 138 (by decide +kernel) rfl
abbrev jc_Powers_findCycle : ByteArray := prog_5_method_3_code
abbrev jy_Powers_findCycle : MethodName := ⟨"YesNoPowers$Powers", "findCycle", "(LYesNoPowers$Table;)V"⟩
set_option maxRecDepth 100000 in
theorem jm_Powers_findCycle : jMi jy_Powers_findCycle jc_Powers_findCycle 2 none 1 := ⟨jmem_1 4 (by decide +kernel) rfl, jmem_3 1 (by rfl) rfl, ⟨jne_Powers.1, jne_Powers.2, by decide +kernel⟩, by decide, plainFor_of_name jpn_Powers⟩
theorem ji_Powers_findCycle : Cond.instanceMethod jy_Powers_findCycle ∈ jtbl := jmem_2 239 (by decide +kernel) rfl
theorem js_Powers_findCycle : Cond.selects jy_Powers_findCycle.cls jy_Powers_findCycle jy_Powers_findCycle ∈ jtbl := jmem_3 0 (by decide +kernel) rfl
abbrev jc_Powers_findPeriod : ByteArray := prog_5_method_4_code
abbrev jy_Powers_findPeriod : MethodName := ⟨"YesNoPowers$Powers", "findPeriod", "(LYesNoPowers$Table;)V"⟩
set_option maxRecDepth 100000 in
theorem jm_Powers_findPeriod : jMi jy_Powers_findPeriod jc_Powers_findPeriod 4 none 1 := ⟨jmem_1 4 (by decide +kernel) rfl, jmem_3 5 (by rfl) rfl, ⟨jne_Powers.1, jne_Powers.2, by decide +kernel⟩, by decide, plainFor_of_name jpn_Powers⟩
theorem ji_Powers_findPeriod : Cond.instanceMethod jy_Powers_findPeriod ∈ jtbl := jmem_3 4 (by decide +kernel) rfl
theorem js_Powers_findPeriod : Cond.selects jy_Powers_findPeriod.cls jy_Powers_findPeriod jy_Powers_findPeriod ∈ jtbl := jmem_0 5 (by decide +kernel) rfl
abbrev jc_Powers_findIndex : ByteArray := prog_5_method_5_code
abbrev jy_Powers_findIndex : MethodName := ⟨"YesNoPowers$Powers", "findIndex", "(LYesNoPowers$Table;)V"⟩
set_option maxRecDepth 100000 in
theorem jm_Powers_findIndex : jMi jy_Powers_findIndex jc_Powers_findIndex 3 none 1 := ⟨jmem_1 4 (by decide +kernel) rfl, jmem_3 10 (by rfl) rfl, ⟨jne_Powers.1, jne_Powers.2, by decide +kernel⟩, by decide, plainFor_of_name jpn_Powers⟩
theorem ji_Powers_findIndex : Cond.instanceMethod jy_Powers_findIndex ∈ jtbl := jmem_3 9 (by decide +kernel) rfl
theorem js_Powers_findIndex : Cond.selects jy_Powers_findIndex.cls jy_Powers_findIndex jy_Powers_findIndex ∈ jtbl := jmem_0 6 (by decide +kernel) rfl
abbrev jc_Powers_idempotent : ByteArray := prog_5_method_6_code
abbrev jy_Powers_idempotent : MethodName := ⟨"YesNoPowers$Powers", "idempotent", "()I"⟩
set_option maxRecDepth 100000 in
theorem jm_Powers_idempotent : jMi jy_Powers_idempotent jc_Powers_idempotent 3 (some .int) 0 := ⟨jmem_1 4 (by decide +kernel) rfl, jmem_3 14 (by rfl) rfl, ⟨jne_Powers.1, jne_Powers.2, by decide +kernel⟩, by decide, plainFor_of_name jpn_Powers⟩
theorem ji_Powers_idempotent : Cond.instanceMethod jy_Powers_idempotent ∈ jtbl := jmem_3 12 (by decide +kernel) rfl
theorem js_Powers_idempotent : Cond.selects jy_Powers_idempotent.cls jy_Powers_idempotent jy_Powers_idempotent ∈ jtbl := jmem_3 13 (by decide +kernel) rfl
abbrev jc_Powers_exponent : ByteArray := prog_5_method_7_code
abbrev jy_Powers_exponent : MethodName := ⟨"YesNoPowers$Powers", "exponent", "(LYesNoPowers$Table;)I"⟩
set_option maxRecDepth 100000 in
theorem jm_Powers_exponent : jMi jy_Powers_exponent jc_Powers_exponent 4 (some .int) 1 := ⟨jmem_1 4 (by decide +kernel) rfl, jmem_2 215 (by rfl) rfl, ⟨jne_Powers.1, jne_Powers.2, by decide +kernel⟩, by decide, plainFor_of_name jpn_Powers⟩
theorem ji_Powers_exponent : Cond.instanceMethod jy_Powers_exponent ∈ jtbl := jmem_2 213 (by decide +kernel) rfl
theorem js_Powers_exponent : Cond.selects jy_Powers_exponent.cls jy_Powers_exponent jy_Powers_exponent ∈ jtbl := jmem_2 214 (by decide +kernel) rfl
abbrev jc_Powers_firstLike : ByteArray := prog_5_method_8_code
abbrev jy_Powers_firstLike : MethodName := ⟨"YesNoPowers$Powers", "firstLike", "(LYesNoPowers$Table;LYesNoPowers$Table;I)I"⟩
set_option maxRecDepth 100000 in
theorem jm_Powers_firstLike : jMi jy_Powers_firstLike jc_Powers_firstLike 6 (some .int) 3 := ⟨jmem_1 4 (by decide +kernel) rfl, jmem_3 22 (by rfl) rfl, ⟨jne_Powers.1, jne_Powers.2, by decide +kernel⟩, by decide, plainFor_of_name jpn_Powers⟩
theorem ji_Powers_firstLike : Cond.instanceMethod jy_Powers_firstLike ∈ jtbl := jmem_3 20 (by decide +kernel) rfl
theorem js_Powers_firstLike : Cond.selects jy_Powers_firstLike.cls jy_Powers_firstLike jy_Powers_firstLike ∈ jtbl := jmem_3 21 (by decide +kernel) rfl
abbrev jc_Rings_read : ByteArray := prog_6_method_2_code
abbrev jy_Rings_read : MethodName := ⟨"YesNoPowers$Rings", "read", "(LYesNoPowers$Table;)V"⟩
set_option maxRecDepth 100000 in
theorem jm_Rings_read : jMi jy_Rings_read jc_Rings_read 3 none 1 := ⟨jmem_1 5 (by decide +kernel) rfl, jmem_3 30 (by rfl) rfl, ⟨jne_Rings.1, jne_Rings.2, by decide +kernel⟩, by decide, plainFor_of_name jpn_Rings⟩
theorem ji_Rings_read : Cond.instanceMethod jy_Rings_read ∈ jtbl := jmem_3 28 (by decide +kernel) rfl
theorem js_Rings_read : Cond.selects jy_Rings_read.cls jy_Rings_read jy_Rings_read ∈ jtbl := jmem_3 29 (by decide +kernel) rfl
abbrev jc_Rings_partOf : ByteArray := prog_6_method_3_code
abbrev jy_Rings_partOf : MethodName := ⟨"YesNoPowers$Rings", "partOf", "(I)I"⟩
set_option maxRecDepth 100000 in
theorem jm_Rings_partOf : jMi jy_Rings_partOf jc_Rings_partOf 3 (some .int) 1 := ⟨jmem_1 5 (by decide +kernel) rfl, jmem_3 102 (by rfl) rfl, ⟨jne_Rings.1, jne_Rings.2, by decide +kernel⟩, by decide, plainFor_of_name jpn_Rings⟩
theorem ji_Rings_partOf : Cond.instanceMethod jy_Rings_partOf ∈ jtbl := jmem_3 100 (by decide +kernel) rfl
theorem js_Rings_partOf : Cond.selects jy_Rings_partOf.cls jy_Rings_partOf jy_Rings_partOf ∈ jtbl := jmem_3 101 (by decide +kernel) rfl
abbrev jc_Rings_findClasses : ByteArray := prog_6_method_4_code
abbrev jy_Rings_findClasses : MethodName := ⟨"YesNoPowers$Rings", "findClasses", "(LYesNoPowers$Table;)V"⟩
set_option maxRecDepth 100000 in
theorem jm_Rings_findClasses : jMi jy_Rings_findClasses jc_Rings_findClasses 5 none 1 := ⟨jmem_1 5 (by decide +kernel) rfl, jmem_3 34 (by rfl) rfl, ⟨jne_Rings.1, jne_Rings.2, by decide +kernel⟩, by decide, plainFor_of_name jpn_Rings⟩
theorem ji_Rings_findClasses : Cond.instanceMethod jy_Rings_findClasses ∈ jtbl := jmem_3 33 (by decide +kernel) rfl
theorem js_Rings_findClasses : Cond.selects jy_Rings_findClasses.cls jy_Rings_findClasses jy_Rings_findClasses ∈ jtbl := jmem_0 7 (by decide +kernel) rfl
abbrev jc_Rings_settle : ByteArray := prog_6_method_5_code
abbrev jy_Rings_settle : MethodName := ⟨"YesNoPowers$Rings", "settle", "(II)V"⟩
set_option maxRecDepth 100000 in
theorem jm_Rings_settle : jMi jy_Rings_settle jc_Rings_settle 4 none 2 := ⟨jmem_1 5 (by decide +kernel) rfl, jmem_3 41 (by rfl) rfl, ⟨jne_Rings.1, jne_Rings.2, by decide +kernel⟩, by decide, plainFor_of_name jpn_Rings⟩
theorem ji_Rings_settle : Cond.instanceMethod jy_Rings_settle ∈ jtbl := jmem_3 40 (by decide +kernel) rfl
theorem js_Rings_settle : Cond.selects jy_Rings_settle.cls jy_Rings_settle jy_Rings_settle ∈ jtbl := jmem_0 8 (by decide +kernel) rfl
abbrev jc_Rings_findGirths : ByteArray := prog_6_method_6_code
abbrev jy_Rings_findGirths : MethodName := ⟨"YesNoPowers$Rings", "findGirths", "(LYesNoPowers$Table;)V"⟩
set_option maxRecDepth 100000 in
theorem jm_Rings_findGirths : jMi jy_Rings_findGirths jc_Rings_findGirths 4 none 1 := ⟨jmem_1 5 (by decide +kernel) rfl, jmem_3 45 (by rfl) rfl, ⟨jne_Rings.1, jne_Rings.2, by decide +kernel⟩, by decide, plainFor_of_name jpn_Rings⟩
theorem ji_Rings_findGirths : Cond.instanceMethod jy_Rings_findGirths ∈ jtbl := jmem_3 44 (by decide +kernel) rfl
theorem js_Rings_findGirths : Cond.selects jy_Rings_findGirths.cls jy_Rings_findGirths jy_Rings_findGirths ∈ jtbl := jmem_0 9 (by decide +kernel) rfl
abbrev jc_Rings_findLevels : ByteArray := prog_6_method_7_code
abbrev jy_Rings_findLevels : MethodName := ⟨"YesNoPowers$Rings", "findLevels", "(LYesNoPowers$Table;)V"⟩
set_option maxRecDepth 100000 in
theorem jm_Rings_findLevels : jMi jy_Rings_findLevels jc_Rings_findLevels 4 none 1 := ⟨jmem_1 5 (by decide +kernel) rfl, jmem_3 51 (by rfl) rfl, ⟨jne_Rings.1, jne_Rings.2, by decide +kernel⟩, by decide, plainFor_of_name jpn_Rings⟩
theorem ji_Rings_findLevels : Cond.instanceMethod jy_Rings_findLevels ∈ jtbl := jmem_3 50 (by decide +kernel) rfl
theorem js_Rings_findLevels : Cond.selects jy_Rings_findLevels.cls jy_Rings_findLevels jy_Rings_findLevels ∈ jtbl := jmem_0 10 (by decide +kernel) rfl
abbrev jc_Rings_raiseLevels : ByteArray := prog_6_method_8_code
abbrev jy_Rings_raiseLevels : MethodName := ⟨"YesNoPowers$Rings", "raiseLevels", "(LYesNoPowers$Table;I)V"⟩
set_option maxRecDepth 100000 in
theorem jm_Rings_raiseLevels : jMi jy_Rings_raiseLevels jc_Rings_raiseLevels 4 none 2 := ⟨jmem_1 5 (by decide +kernel) rfl, jmem_3 55 (by rfl) rfl, ⟨jne_Rings.1, jne_Rings.2, by decide +kernel⟩, by decide, plainFor_of_name jpn_Rings⟩
theorem ji_Rings_raiseLevels : Cond.instanceMethod jy_Rings_raiseLevels ∈ jtbl := jmem_3 54 (by decide +kernel) rfl
theorem js_Rings_raiseLevels : Cond.selects jy_Rings_raiseLevels.cls jy_Rings_raiseLevels jy_Rings_raiseLevels ∈ jtbl := jmem_0 11 (by decide +kernel) rfl
abbrev jc_Rings_findDistances : ByteArray := prog_6_method_9_code
abbrev jy_Rings_findDistances : MethodName := ⟨"YesNoPowers$Rings", "findDistances", "(LYesNoPowers$Table;I)V"⟩
set_option maxRecDepth 100000 in
theorem jm_Rings_findDistances : jMi jy_Rings_findDistances jc_Rings_findDistances 8 none 2 := ⟨jmem_1 5 (by decide +kernel) rfl, jmem_3 59 (by rfl) rfl, ⟨jne_Rings.1, jne_Rings.2, by decide +kernel⟩, by decide, plainFor_of_name jpn_Rings⟩
theorem ji_Rings_findDistances : Cond.instanceMethod jy_Rings_findDistances ∈ jtbl := jmem_3 58 (by decide +kernel) rfl
theorem js_Rings_findDistances : Cond.selects jy_Rings_findDistances.cls jy_Rings_findDistances jy_Rings_findDistances ∈ jtbl := jmem_0 12 (by decide +kernel) rfl
abbrev jc_Rings_findPeriod : ByteArray := prog_6_method_10_code
abbrev jy_Rings_findPeriod : MethodName := ⟨"YesNoPowers$Rings", "findPeriod", "(LYesNoPowers$Table;I)V"⟩
set_option maxRecDepth 100000 in
theorem jm_Rings_findPeriod : jMi jy_Rings_findPeriod jc_Rings_findPeriod 6 none 2 := ⟨jmem_1 5 (by decide +kernel) rfl, jmem_3 63 (by rfl) rfl, ⟨jne_Rings.1, jne_Rings.2, by decide +kernel⟩, by decide, plainFor_of_name jpn_Rings⟩
theorem ji_Rings_findPeriod : Cond.instanceMethod jy_Rings_findPeriod ∈ jtbl := jmem_3 62 (by decide +kernel) rfl
theorem js_Rings_findPeriod : Cond.selects jy_Rings_findPeriod.cls jy_Rings_findPeriod jy_Rings_findPeriod ∈ jtbl := jmem_0 13 (by decide +kernel) rfl
abbrev jc_Rings_commonDivisor : ByteArray := prog_6_method_11_code
abbrev jy_Rings_commonDivisor : MethodName := ⟨"YesNoPowers$Rings", "commonDivisor", "(II)I"⟩
set_option maxRecDepth 100000 in
theorem jm_Rings_commonDivisor : jMi jy_Rings_commonDivisor jc_Rings_commonDivisor 6 (some .int) 2 := ⟨jmem_1 5 (by decide +kernel) rfl, jmem_3 69 (by rfl) rfl, ⟨jne_Rings.1, jne_Rings.2, by decide +kernel⟩, by decide, plainFor_of_name jpn_Rings⟩
theorem js_Rings_commonDivisor : Cond.static jy_Rings_commonDivisor ∈ jtbl := jmem_3 68 (by decide +kernel) rfl
abbrev jc_Rings_findBelow : ByteArray := prog_6_method_12_code
abbrev jy_Rings_findBelow : MethodName := ⟨"YesNoPowers$Rings", "findBelow", "(I)V"⟩
set_option maxRecDepth 100000 in
theorem jm_Rings_findBelow : jMi jy_Rings_findBelow jc_Rings_findBelow 4 none 1 := ⟨jmem_1 5 (by decide +kernel) rfl, jmem_3 73 (by rfl) rfl, ⟨jne_Rings.1, jne_Rings.2, by decide +kernel⟩, by decide, plainFor_of_name jpn_Rings⟩
theorem ji_Rings_findBelow : Cond.instanceMethod jy_Rings_findBelow ∈ jtbl := jmem_3 72 (by decide +kernel) rfl
theorem js_Rings_findBelow : Cond.selects jy_Rings_findBelow.cls jy_Rings_findBelow jy_Rings_findBelow ∈ jtbl := jmem_0 14 (by decide +kernel) rfl
abbrev jc_Roots_countOf : ByteArray := prog_7_method_2_code
abbrev jy_Roots_countOf : MethodName := ⟨"YesNoPowers$Roots", "countOf", "(III)I"⟩
set_option maxRecDepth 100000 in
theorem jm_Roots_countOf : jMi jy_Roots_countOf jc_Roots_countOf 3 (some .int) 3 := ⟨jmem_1 13 (by decide +kernel) rfl, jmem_3 177 (by rfl) rfl, ⟨jne_Roots.1, jne_Roots.2, by decide +kernel⟩, by decide, plainFor_of_name jpn_Roots⟩
theorem js_Roots_countOf : Cond.static jy_Roots_countOf ∈ jtbl := jmem_3 176 (by decide +kernel) rfl
abbrev jc_Roots_leastOf : ByteArray := prog_7_method_3_code
abbrev jy_Roots_leastOf : MethodName := ⟨"YesNoPowers$Roots", "leastOf", "(III)I"⟩
set_option maxRecDepth 100000 in
theorem jm_Roots_leastOf : jMi jy_Roots_leastOf jc_Roots_leastOf 3 (some .int) 3 := ⟨jmem_1 13 (by decide +kernel) rfl, jmem_3 195 (by rfl) rfl, ⟨jne_Roots.1, jne_Roots.2, by decide +kernel⟩, by decide, plainFor_of_name jpn_Roots⟩
theorem js_Roots_leastOf : Cond.static jy_Roots_leastOf ∈ jtbl := jmem_3 194 (by decide +kernel) rfl
abbrev jc_Roots_countBelow : ByteArray := prog_7_method_4_code
abbrev jy_Roots_countBelow : MethodName := ⟨"YesNoPowers$Roots", "countBelow", "(IIIII)I"⟩
set_option maxRecDepth 100000 in
theorem jm_Roots_countBelow : jMi jy_Roots_countBelow jc_Roots_countBelow 7 (some .int) 5 := ⟨jmem_1 13 (by decide +kernel) rfl, jmem_3 180 (by rfl) rfl, ⟨jne_Roots.1, jne_Roots.2, by decide +kernel⟩, by decide, plainFor_of_name jpn_Roots⟩
theorem js_Roots_countBelow : Cond.static jy_Roots_countBelow ∈ jtbl := jmem_3 179 (by decide +kernel) rfl
abbrev jc_Roots_leastBelow : ByteArray := prog_7_method_5_code
abbrev jy_Roots_leastBelow : MethodName := ⟨"YesNoPowers$Roots", "leastBelow", "(IIIII)I"⟩
set_option maxRecDepth 100000 in
theorem jm_Roots_leastBelow : jMi jy_Roots_leastBelow jc_Roots_leastBelow 8 (some .int) 5 := ⟨jmem_1 13 (by decide +kernel) rfl, jmem_3 198 (by rfl) rfl, ⟨jne_Roots.1, jne_Roots.2, by decide +kernel⟩, by decide, plainFor_of_name jpn_Roots⟩
theorem js_Roots_leastBelow : Cond.static jy_Roots_leastBelow ∈ jtbl := jmem_3 197 (by decide +kernel) rfl
abbrev jc_Roots_raised : ByteArray := prog_7_method_6_code
abbrev jy_Roots_raised : MethodName := ⟨"YesNoPowers$Roots", "raised", "(III)I"⟩
set_option maxRecDepth 100000 in
theorem jm_Roots_raised : jMi jy_Roots_raised jc_Roots_raised 5 (some .int) 3 := ⟨jmem_1 13 (by decide +kernel) rfl, jmem_3 183 (by rfl) rfl, ⟨jne_Roots.1, jne_Roots.2, by decide +kernel⟩, by decide, plainFor_of_name jpn_Roots⟩
theorem js_Roots_raised : Cond.static jy_Roots_raised ∈ jtbl := jmem_3 182 (by decide +kernel) rfl
abbrev jc_Roots_product : ByteArray := prog_7_method_7_code
abbrev jy_Roots_product : MethodName := ⟨"YesNoPowers$Roots", "product", "(III)I"⟩
set_option maxRecDepth 100000 in
theorem jm_Roots_product : jMi jy_Roots_product jc_Roots_product 6 (some .int) 3 := ⟨jmem_1 13 (by decide +kernel) rfl, jmem_3 186 (by rfl) rfl, ⟨jne_Roots.1, jne_Roots.2, by decide +kernel⟩, by decide, plainFor_of_name jpn_Roots⟩
theorem js_Roots_product : Cond.static jy_Roots_product ∈ jtbl := jmem_3 185 (by decide +kernel) rfl
abbrev jc_Sheet_isMissing : ByteArray := prog_8_method_2_code
abbrev jy_Sheet_isMissing : MethodName := ⟨"YesNoPowers$Sheet", "isMissing", "()Z"⟩
set_option maxRecDepth 100000 in
theorem jm_Sheet_isMissing : jMi jy_Sheet_isMissing jc_Sheet_isMissing 1 (some .boolean) 0 := ⟨jmem_1 9 (by decide +kernel) rfl, jmem_2 190 (by rfl) rfl, ⟨jne_Sheet.1, jne_Sheet.2, by decide +kernel⟩, by decide, plainFor_of_name jpn_Sheet⟩
theorem ji_Sheet_isMissing : Cond.instanceMethod jy_Sheet_isMissing ∈ jtbl := jmem_2 188 (by decide +kernel) rfl
theorem js_Sheet_isMissing : Cond.selects jy_Sheet_isMissing.cls jy_Sheet_isMissing jy_Sheet_isMissing ∈ jtbl := jmem_2 189 (by decide +kernel) rfl
abbrev jc_Sheet_begin : ByteArray := prog_8_method_3_code
abbrev jy_Sheet_begin : MethodName := ⟨"YesNoPowers$Sheet", "begin", "(II)V"⟩
set_option maxRecDepth 100000 in
theorem jm_Sheet_begin : jMi jy_Sheet_begin jc_Sheet_begin 4 none 2 := ⟨jmem_1 9 (by decide +kernel) rfl, jmem_4 58 (by rfl) rfl, ⟨jne_Sheet.1, jne_Sheet.2, by decide +kernel⟩, by decide, plainFor_of_name jpn_Sheet⟩
theorem ji_Sheet_begin : Cond.instanceMethod jy_Sheet_begin ∈ jtbl := jmem_4 56 (by decide +kernel) rfl
theorem js_Sheet_begin : Cond.selects jy_Sheet_begin.cls jy_Sheet_begin jy_Sheet_begin ∈ jtbl := jmem_4 57 (by decide +kernel) rfl
abbrev jc_Sheet_lacks : ByteArray := prog_8_method_4_code
abbrev jy_Sheet_lacks : MethodName := ⟨"YesNoPowers$Sheet", "lacks", "(II)Z"⟩
set_option maxRecDepth 100000 in
theorem jm_Sheet_lacks : jMi jy_Sheet_lacks jc_Sheet_lacks 3 (some .boolean) 2 := ⟨jmem_1 9 (by decide +kernel) rfl, jmem_2 194 (by rfl) rfl, ⟨jne_Sheet.1, jne_Sheet.2, by decide +kernel⟩, by decide, plainFor_of_name jpn_Sheet⟩
theorem ji_Sheet_lacks : Cond.instanceMethod jy_Sheet_lacks ∈ jtbl := jmem_2 192 (by decide +kernel) rfl
theorem js_Sheet_lacks : Cond.selects jy_Sheet_lacks.cls jy_Sheet_lacks jy_Sheet_lacks ∈ jtbl := jmem_2 193 (by decide +kernel) rfl
abbrev jc_Sheet_write : ByteArray := prog_8_method_5_code
abbrev jy_Sheet_write : MethodName := ⟨"YesNoPowers$Sheet", "write", "(II)V"⟩
set_option maxRecDepth 100000 in
theorem jm_Sheet_write : jMi jy_Sheet_write jc_Sheet_write 3 none 2 := ⟨jmem_1 9 (by decide +kernel) rfl, jmem_2 207 (by rfl) rfl, ⟨jne_Sheet.1, jne_Sheet.2, by decide +kernel⟩, by decide, plainFor_of_name jpn_Sheet⟩
theorem ji_Sheet_write : Cond.instanceMethod jy_Sheet_write ∈ jtbl := jmem_2 205 (by decide +kernel) rfl
theorem js_Sheet_write : Cond.selects jy_Sheet_write.cls jy_Sheet_write jy_Sheet_write ∈ jtbl := jmem_2 206 (by decide +kernel) rfl
abbrev jc_Sheet_rowAt : ByteArray := prog_8_method_6_code
abbrev jy_Sheet_rowAt : MethodName := ⟨"YesNoPowers$Sheet", "rowAt", "(I)I"⟩
set_option maxRecDepth 100000 in
theorem jm_Sheet_rowAt : jMi jy_Sheet_rowAt jc_Sheet_rowAt 2 (some .int) 1 := ⟨jmem_1 9 (by decide +kernel) rfl, jmem_2 198 (by rfl) rfl, ⟨jne_Sheet.1, jne_Sheet.2, by decide +kernel⟩, by decide, plainFor_of_name jpn_Sheet⟩
theorem ji_Sheet_rowAt : Cond.instanceMethod jy_Sheet_rowAt ∈ jtbl := jmem_2 196 (by decide +kernel) rfl
theorem js_Sheet_rowAt : Cond.selects jy_Sheet_rowAt.cls jy_Sheet_rowAt jy_Sheet_rowAt ∈ jtbl := jmem_2 197 (by decide +kernel) rfl
abbrev jc_Spaces_hasUnion : ByteArray := prog_9_method_2_code
abbrev jy_Spaces_hasUnion : MethodName := ⟨"YesNoPowers$Spaces", "hasUnion", "(LYesNoPowers$Table;I)Z"⟩
set_option maxRecDepth 100000 in
theorem jm_Spaces_hasUnion : jMi jy_Spaces_hasUnion jc_Spaces_hasUnion 5 (some .boolean) 2 := ⟨jmem_1 6 (by decide +kernel) rfl, jmem_3 132 (by rfl) rfl, ⟨jne_Spaces.1, jne_Spaces.2, by decide +kernel⟩, by decide, plainFor_of_name jpn_Spaces⟩
theorem ji_Spaces_hasUnion : Cond.instanceMethod jy_Spaces_hasUnion ∈ jtbl := jmem_3 130 (by decide +kernel) rfl
theorem js_Spaces_hasUnion : Cond.selects jy_Spaces_hasUnion.cls jy_Spaces_hasUnion jy_Spaces_hasUnion ∈ jtbl := jmem_3 131 (by decide +kernel) rfl
abbrev jc_Spaces_unionsOf : ByteArray := prog_9_method_3_code
abbrev jy_Spaces_unionsOf : MethodName := ⟨"YesNoPowers$Spaces", "unionsOf", "(LYesNoPowers$Table;)I"⟩
set_option maxRecDepth 100000 in
theorem jm_Spaces_unionsOf : jMi jy_Spaces_unionsOf jc_Spaces_unionsOf 5 (some .int) 1 := ⟨jmem_1 6 (by decide +kernel) rfl, jmem_3 127 (by rfl) rfl, ⟨jne_Spaces.1, jne_Spaces.2, by decide +kernel⟩, by decide, plainFor_of_name jpn_Spaces⟩
theorem ji_Spaces_unionsOf : Cond.instanceMethod jy_Spaces_unionsOf ∈ jtbl := jmem_3 125 (by decide +kernel) rfl
theorem js_Spaces_unionsOf : Cond.selects jy_Spaces_unionsOf.cls jy_Spaces_unionsOf jy_Spaces_unionsOf ∈ jtbl := jmem_3 126 (by decide +kernel) rfl
abbrev jc_Spaces_basisSize : ByteArray := prog_9_method_4_code
abbrev jy_Spaces_basisSize : MethodName := ⟨"YesNoPowers$Spaces", "basisSize", "(LYesNoPowers$Table;)I"⟩
set_option maxRecDepth 100000 in
theorem jm_Spaces_basisSize : jMi jy_Spaces_basisSize jc_Spaces_basisSize 5 (some .int) 1 := ⟨jmem_1 6 (by decide +kernel) rfl, jmem_3 136 (by rfl) rfl, ⟨jne_Spaces.1, jne_Spaces.2, by decide +kernel⟩, by decide, plainFor_of_name jpn_Spaces⟩
theorem ji_Spaces_basisSize : Cond.instanceMethod jy_Spaces_basisSize ∈ jtbl := jmem_3 134 (by decide +kernel) rfl
theorem js_Spaces_basisSize : Cond.selects jy_Spaces_basisSize.cls jy_Spaces_basisSize jy_Spaces_basisSize ∈ jtbl := jmem_3 135 (by decide +kernel) rfl
abbrev jc_Spaces_nextOfBasis : ByteArray := prog_9_method_5_code
abbrev jy_Spaces_nextOfBasis : MethodName := ⟨"YesNoPowers$Spaces", "nextOfBasis", "(LYesNoPowers$Table;I)I"⟩
set_option maxRecDepth 100000 in
theorem jm_Spaces_nextOfBasis : jMi jy_Spaces_nextOfBasis jc_Spaces_nextOfBasis 6 (some .int) 2 := ⟨jmem_1 6 (by decide +kernel) rfl, jmem_3 140 (by rfl) rfl, ⟨jne_Spaces.1, jne_Spaces.2, by decide +kernel⟩, by decide, plainFor_of_name jpn_Spaces⟩
theorem ji_Spaces_nextOfBasis : Cond.instanceMethod jy_Spaces_nextOfBasis ∈ jtbl := jmem_3 138 (by decide +kernel) rfl
theorem js_Spaces_nextOfBasis : Cond.selects jy_Spaces_nextOfBasis.cls jy_Spaces_nextOfBasis jy_Spaces_nextOfBasis ∈ jtbl := jmem_3 139 (by decide +kernel) rfl
abbrev jc_Spaces_isMadeUp : ByteArray := prog_9_method_6_code
abbrev jy_Spaces_isMadeUp : MethodName := ⟨"YesNoPowers$Spaces", "isMadeUp", "(LYesNoPowers$Table;I)Z"⟩
set_option maxRecDepth 100000 in
theorem jm_Spaces_isMadeUp : jMi jy_Spaces_isMadeUp jc_Spaces_isMadeUp 5 (some .boolean) 2 := ⟨jmem_1 6 (by decide +kernel) rfl, jmem_3 144 (by rfl) rfl, ⟨jne_Spaces.1, jne_Spaces.2, by decide +kernel⟩, by decide, plainFor_of_name jpn_Spaces⟩
theorem ji_Spaces_isMadeUp : Cond.instanceMethod jy_Spaces_isMadeUp ∈ jtbl := jmem_3 143 (by decide +kernel) rfl
theorem js_Spaces_isMadeUp : Cond.selects jy_Spaces_isMadeUp.cls jy_Spaces_isMadeUp jy_Spaces_isMadeUp ∈ jtbl := jmem_0 16 (by decide +kernel) rfl
abbrev jc_Spaces_areAlike : ByteArray := prog_9_method_7_code
abbrev jy_Spaces_areAlike : MethodName := ⟨"YesNoPowers$Spaces", "areAlike", "(LYesNoPowers$Table;LYesNoPowers$Table;Z)Z"⟩
set_option maxRecDepth 100000 in
theorem jm_Spaces_areAlike : jMi jy_Spaces_areAlike jc_Spaces_areAlike 4 (some .boolean) 3 := ⟨jmem_1 6 (by decide +kernel) rfl, jmem_3 162 (by rfl) rfl, ⟨jne_Spaces.1, jne_Spaces.2, by decide +kernel⟩, by decide, plainFor_of_name jpn_Spaces⟩
theorem ji_Spaces_areAlike : Cond.instanceMethod jy_Spaces_areAlike ∈ jtbl := jmem_3 160 (by decide +kernel) rfl
theorem js_Spaces_areAlike : Cond.selects jy_Spaces_areAlike.cls jy_Spaces_areAlike jy_Spaces_areAlike ∈ jtbl := jmem_3 161 (by decide +kernel) rfl
abbrev jc_Spaces_spansRows : ByteArray := prog_9_method_8_code
abbrev jy_Spaces_spansRows : MethodName := ⟨"YesNoPowers$Spaces", "spansRows", "(LYesNoPowers$Table;LYesNoPowers$Table;)Z"⟩
set_option maxRecDepth 100000 in
theorem jm_Spaces_spansRows : jMi jy_Spaces_spansRows jc_Spaces_spansRows 4 (some .boolean) 2 := ⟨jmem_1 6 (by decide +kernel) rfl, jmem_3 166 (by rfl) rfl, ⟨jne_Spaces.1, jne_Spaces.2, by decide +kernel⟩, by decide, plainFor_of_name jpn_Spaces⟩
theorem ji_Spaces_spansRows : Cond.instanceMethod jy_Spaces_spansRows ∈ jtbl := jmem_3 165 (by decide +kernel) rfl
theorem js_Spaces_spansRows : Cond.selects jy_Spaces_spansRows.cls jy_Spaces_spansRows jy_Spaces_spansRows ∈ jtbl := jmem_0 17 (by decide +kernel) rfl
abbrev jc_Spaces_findGreatest : ByteArray := prog_9_method_9_code
abbrev jy_Spaces_findGreatest : MethodName := ⟨"YesNoPowers$Spaces", "findGreatest", "(LYesNoPowers$Table;LYesNoPowers$Table;)V"⟩
set_option maxRecDepth 100000 in
theorem jm_Spaces_findGreatest : jMi jy_Spaces_findGreatest jc_Spaces_findGreatest 3 none 2 := ⟨jmem_1 6 (by decide +kernel) rfl, jmem_2 155 (by rfl) rfl, ⟨jne_Spaces.1, jne_Spaces.2, by decide +kernel⟩, by decide, plainFor_of_name jpn_Spaces⟩
theorem ji_Spaces_findGreatest : Cond.instanceMethod jy_Spaces_findGreatest ∈ jtbl := jmem_2 153 (by decide +kernel) rfl
theorem js_Spaces_findGreatest : Cond.selects jy_Spaces_findGreatest.cls jy_Spaces_findGreatest jy_Spaces_findGreatest ∈ jtbl := jmem_2 154 (by decide +kernel) rfl
abbrev jc_Spaces_isRegular : ByteArray := prog_9_method_10_code
abbrev jy_Spaces_isRegular : MethodName := ⟨"YesNoPowers$Spaces", "isRegular", "(LYesNoPowers$Table;)Z"⟩
set_option maxRecDepth 100000 in
theorem jm_Spaces_isRegular : jMi jy_Spaces_isRegular jc_Spaces_isRegular 2 (some .boolean) 1 := ⟨jmem_1 6 (by decide +kernel) rfl, jmem_3 121 (by rfl) rfl, ⟨jne_Spaces.1, jne_Spaces.2, by decide +kernel⟩, by decide, plainFor_of_name jpn_Spaces⟩
theorem ji_Spaces_isRegular : Cond.instanceMethod jy_Spaces_isRegular ∈ jtbl := jmem_3 119 (by decide +kernel) rfl
theorem js_Spaces_isRegular : Cond.selects jy_Spaces_isRegular.cls jy_Spaces_isRegular jy_Spaces_isRegular ∈ jtbl := jmem_3 120 (by decide +kernel) rfl
abbrev jc_Table_allColumns : ByteArray := prog_10_method_2_code
abbrev jy_Table_allColumns : MethodName := ⟨"YesNoPowers$Table", "allColumns", "()I"⟩
set_option maxRecDepth 100000 in
theorem jm_Table_allColumns : jMi jy_Table_allColumns jc_Table_allColumns 1 (some .int) 0 := ⟨jmem_1 3 (by decide +kernel) rfl, jmem_2 61 (by rfl) rfl, ⟨jne_Table.1, jne_Table.2, by decide +kernel⟩, by decide, plainFor_of_name jpn_Table⟩
theorem ji_Table_allColumns : Cond.instanceMethod jy_Table_allColumns ∈ jtbl := jmem_2 59 (by decide +kernel) rfl
theorem js_Table_allColumns : Cond.selects jy_Table_allColumns.cls jy_Table_allColumns jy_Table_allColumns ∈ jtbl := jmem_2 60 (by decide +kernel) rfl
abbrev jc_Table_lacksColumnOf : ByteArray := prog_10_method_3_code
abbrev jy_Table_lacksColumnOf : MethodName := ⟨"YesNoPowers$Table", "lacksColumnOf", "(I)Z"⟩
set_option maxRecDepth 100000 in
theorem jm_Table_lacksColumnOf : jMi jy_Table_lacksColumnOf jc_Table_lacksColumnOf 2 (some .boolean) 1 := ⟨jmem_1 3 (by decide +kernel) rfl, jmem_2 114 (by rfl) rfl, ⟨jne_Table.1, jne_Table.2, by decide +kernel⟩, by decide, plainFor_of_name jpn_Table⟩
theorem ji_Table_lacksColumnOf : Cond.instanceMethod jy_Table_lacksColumnOf ∈ jtbl := jmem_2 112 (by decide +kernel) rfl
theorem js_Table_lacksColumnOf : Cond.selects jy_Table_lacksColumnOf.cls jy_Table_lacksColumnOf jy_Table_lacksColumnOf ∈ jtbl := jmem_2 113 (by decide +kernel) rfl
abbrev jc_Table_entry : ByteArray := prog_10_method_4_code
abbrev jy_Table_entry : MethodName := ⟨"YesNoPowers$Table", "entry", "(II)I"⟩
set_option maxRecDepth 100000 in
theorem jm_Table_entry : jMi jy_Table_entry jc_Table_entry 3 (some .int) 2 := ⟨jmem_1 3 (by decide +kernel) rfl, jmem_2 93 (by rfl) rfl, ⟨jne_Table.1, jne_Table.2, by decide +kernel⟩, by decide, plainFor_of_name jpn_Table⟩
theorem ji_Table_entry : Cond.instanceMethod jy_Table_entry ∈ jtbl := jmem_2 91 (by decide +kernel) rfl
theorem js_Table_entry : Cond.selects jy_Table_entry.cls jy_Table_entry jy_Table_entry ∈ jtbl := jmem_2 92 (by decide +kernel) rfl
abbrev jc_Table_column : ByteArray := prog_10_method_5_code
abbrev jy_Table_column : MethodName := ⟨"YesNoPowers$Table", "column", "(I)I"⟩
set_option maxRecDepth 100000 in
theorem jm_Table_column : jMi jy_Table_column jc_Table_column 4 (some .int) 1 := ⟨jmem_1 3 (by decide +kernel) rfl, jmem_2 105 (by rfl) rfl, ⟨jne_Table.1, jne_Table.2, by decide +kernel⟩, by decide, plainFor_of_name jpn_Table⟩
theorem ji_Table_column : Cond.instanceMethod jy_Table_column ∈ jtbl := jmem_2 103 (by decide +kernel) rfl
theorem js_Table_column : Cond.selects jy_Table_column.cls jy_Table_column jy_Table_column ∈ jtbl := jmem_2 104 (by decide +kernel) rfl
abbrev jc_Table_ones : ByteArray := prog_10_method_6_code
abbrev jy_Table_ones : MethodName := ⟨"YesNoPowers$Table", "ones", "()I"⟩
set_option maxRecDepth 100000 in
theorem jm_Table_ones : jMi jy_Table_ones jc_Table_ones 3 (some .int) 0 := ⟨jmem_1 3 (by decide +kernel) rfl, jmem_2 223 (by rfl) rfl, ⟨jne_Table.1, jne_Table.2, by decide +kernel⟩, by decide, plainFor_of_name jpn_Table⟩
theorem ji_Table_ones : Cond.instanceMethod jy_Table_ones ∈ jtbl := jmem_2 221 (by decide +kernel) rfl
theorem js_Table_ones : Cond.selects jy_Table_ones.cls jy_Table_ones jy_Table_ones ∈ jtbl := jmem_2 222 (by decide +kernel) rfl
abbrev jc_Table_loops : ByteArray := prog_10_method_7_code
abbrev jy_Table_loops : MethodName := ⟨"YesNoPowers$Table", "loops", "()I"⟩
set_option maxRecDepth 100000 in
theorem jm_Table_loops : jMi jy_Table_loops jc_Table_loops 3 (some .int) 0 := ⟨jmem_1 3 (by decide +kernel) rfl, jmem_3 77 (by rfl) rfl, ⟨jne_Table.1, jne_Table.2, by decide +kernel⟩, by decide, plainFor_of_name jpn_Table⟩
theorem ji_Table_loops : Cond.instanceMethod jy_Table_loops ∈ jtbl := jmem_3 75 (by decide +kernel) rfl
theorem js_Table_loops : Cond.selects jy_Table_loops.cls jy_Table_loops jy_Table_loops ∈ jtbl := jmem_3 76 (by decide +kernel) rfl
abbrev jc_Table_isEverywhere : ByteArray := prog_10_method_8_code
abbrev jy_Table_isEverywhere : MethodName := ⟨"YesNoPowers$Table", "isEverywhere", "()Z"⟩
set_option maxRecDepth 100000 in
theorem jm_Table_isEverywhere : jMi jy_Table_isEverywhere jc_Table_isEverywhere 2 (some .boolean) 0 := ⟨jmem_1 3 (by decide +kernel) rfl, jmem_2 219 (by rfl) rfl, ⟨jne_Table.1, jne_Table.2, by decide +kernel⟩, by decide, plainFor_of_name jpn_Table⟩
theorem ji_Table_isEverywhere : Cond.instanceMethod jy_Table_isEverywhere ∈ jtbl := jmem_2 217 (by decide +kernel) rfl
theorem js_Table_isEverywhere : Cond.selects jy_Table_isEverywhere.cls jy_Table_isEverywhere jy_Table_isEverywhere ∈ jtbl := jmem_2 218 (by decide +kernel) rfl
abbrev jc_Table_isLike : ByteArray := prog_10_method_9_code
abbrev jy_Table_isLike : MethodName := ⟨"YesNoPowers$Table", "isLike", "(LYesNoPowers$Table;)Z"⟩
set_option maxRecDepth 100000 in
theorem jm_Table_isLike : jMi jy_Table_isLike jc_Table_isLike 3 (some .boolean) 1 := ⟨jmem_1 3 (by decide +kernel) rfl, jmem_2 179 (by rfl) rfl, ⟨jne_Table.1, jne_Table.2, by decide +kernel⟩, by decide, plainFor_of_name jpn_Table⟩
theorem ji_Table_isLike : Cond.instanceMethod jy_Table_isLike ∈ jtbl := jmem_2 177 (by decide +kernel) rfl
theorem js_Table_isLike : Cond.selects jy_Table_isLike.cls jy_Table_isLike jy_Table_isLike ∈ jtbl := jmem_2 178 (by decide +kernel) rfl
abbrev jc_Table_number : ByteArray := prog_10_method_10_code
abbrev jy_Table_number : MethodName := ⟨"YesNoPowers$Table", "number", "()I"⟩
set_option maxRecDepth 100000 in
theorem jm_Table_number : jMi jy_Table_number jc_Table_number 3 (some .int) 0 := ⟨jmem_1 3 (by decide +kernel) rfl, jmem_3 174 (by rfl) rfl, ⟨jne_Table.1, jne_Table.2, by decide +kernel⟩, by decide, plainFor_of_name jpn_Table⟩
theorem ji_Table_number : Cond.instanceMethod jy_Table_number ∈ jtbl := jmem_3 172 (by decide +kernel) rfl
theorem js_Table_number : Cond.selects jy_Table_number.cls jy_Table_number jy_Table_number ∈ jtbl := jmem_3 173 (by decide +kernel) rfl
abbrev jc_Table_becomeNumbered : ByteArray := prog_10_method_11_code
abbrev jy_Table_becomeNumbered : MethodName := ⟨"YesNoPowers$Table", "becomeNumbered", "(II)V"⟩
set_option maxRecDepth 100000 in
theorem jm_Table_becomeNumbered : jMi jy_Table_becomeNumbered jc_Table_becomeNumbered 4 none 2 := ⟨jmem_1 3 (by decide +kernel) rfl, jmem_3 202 (by rfl) rfl, ⟨jne_Table.1, jne_Table.2, by decide +kernel⟩, by decide, plainFor_of_name jpn_Table⟩
theorem ji_Table_becomeNumbered : Cond.instanceMethod jy_Table_becomeNumbered ∈ jtbl := jmem_3 200 (by decide +kernel) rfl
theorem js_Table_becomeNumbered : Cond.selects jy_Table_becomeNumbered.cls jy_Table_becomeNumbered jy_Table_becomeNumbered ∈ jtbl := jmem_3 201 (by decide +kernel) rfl
abbrev jc_Table_become : ByteArray := prog_10_method_12_code
abbrev jy_Table_become : MethodName := ⟨"YesNoPowers$Table", "become", "(LYesNoPowers$Table;)V"⟩
set_option maxRecDepth 100000 in
theorem jm_Table_become : jMi jy_Table_become jc_Table_become 3 none 1 := ⟨jmem_1 3 (by decide +kernel) rfl, jmem_2 73 (by rfl) rfl, ⟨jne_Table.1, jne_Table.2, by decide +kernel⟩, by decide, plainFor_of_name jpn_Table⟩
theorem ji_Table_become : Cond.instanceMethod jy_Table_become ∈ jtbl := jmem_2 71 (by decide +kernel) rfl
theorem js_Table_become : Cond.selects jy_Table_become.cls jy_Table_become jy_Table_become ∈ jtbl := jmem_2 72 (by decide +kernel) rfl
abbrev jc_Table_becomePlain : ByteArray := prog_10_method_13_code
abbrev jy_Table_becomePlain : MethodName := ⟨"YesNoPowers$Table", "becomePlain", "(II)V"⟩
set_option maxRecDepth 100000 in
theorem jm_Table_becomePlain : jMi jy_Table_becomePlain jc_Table_becomePlain 5 none 2 := ⟨jmem_1 3 (by decide +kernel) rfl, jmem_2 57 (by rfl) rfl, ⟨jne_Table.1, jne_Table.2, by decide +kernel⟩, by decide, plainFor_of_name jpn_Table⟩
theorem ji_Table_becomePlain : Cond.instanceMethod jy_Table_becomePlain ∈ jtbl := jmem_2 55 (by decide +kernel) rfl
theorem js_Table_becomePlain : Cond.selects jy_Table_becomePlain.cls jy_Table_becomePlain jy_Table_becomePlain ∈ jtbl := jmem_2 56 (by decide +kernel) rfl
abbrev jc_Table_join : ByteArray := prog_10_method_14_code
abbrev jy_Table_join : MethodName := ⟨"YesNoPowers$Table", "join", "(LYesNoPowers$Table;)V"⟩
set_option maxRecDepth 100000 in
theorem jm_Table_join : jMi jy_Table_join jc_Table_join 3 none 1 := ⟨jmem_1 3 (by decide +kernel) rfl, jmem_2 130 (by rfl) rfl, ⟨jne_Table.1, jne_Table.2, by decide +kernel⟩, by decide, plainFor_of_name jpn_Table⟩
theorem ji_Table_join : Cond.instanceMethod jy_Table_join ∈ jtbl := jmem_2 128 (by decide +kernel) rfl
theorem js_Table_join : Cond.selects jy_Table_join.cls jy_Table_join jy_Table_join ∈ jtbl := jmem_2 129 (by decide +kernel) rfl
abbrev jc_Table_meet : ByteArray := prog_10_method_15_code
abbrev jy_Table_meet : MethodName := ⟨"YesNoPowers$Table", "meet", "(LYesNoPowers$Table;)V"⟩
set_option maxRecDepth 100000 in
theorem jm_Table_meet : jMi jy_Table_meet jc_Table_meet 3 none 1 := ⟨jmem_1 3 (by decide +kernel) rfl, jmem_4 6 (by rfl) rfl, ⟨jne_Table.1, jne_Table.2, by decide +kernel⟩, by decide, plainFor_of_name jpn_Table⟩
theorem ji_Table_meet : Cond.instanceMethod jy_Table_meet ∈ jtbl := jmem_4 4 (by decide +kernel) rfl
theorem js_Table_meet : Cond.selects jy_Table_meet.cls jy_Table_meet jy_Table_meet ∈ jtbl := jmem_4 5 (by decide +kernel) rfl
abbrev jc_Table_negate : ByteArray := prog_10_method_16_code
abbrev jy_Table_negate : MethodName := ⟨"YesNoPowers$Table", "negate", "()V"⟩
set_option maxRecDepth 100000 in
theorem jm_Table_negate : jMi jy_Table_negate jc_Table_negate 2 none 0 := ⟨jmem_1 3 (by decide +kernel) rfl, jmem_2 161 (by rfl) rfl, ⟨jne_Table.1, jne_Table.2, by decide +kernel⟩, by decide, plainFor_of_name jpn_Table⟩
theorem ji_Table_negate : Cond.instanceMethod jy_Table_negate ∈ jtbl := jmem_2 159 (by decide +kernel) rfl
theorem js_Table_negate : Cond.selects jy_Table_negate.cls jy_Table_negate jy_Table_negate ∈ jtbl := jmem_2 160 (by decide +kernel) rfl
abbrev jc_Table_turn : ByteArray := prog_10_method_17_code
abbrev jy_Table_turn : MethodName := ⟨"YesNoPowers$Table", "turn", "(LYesNoPowers$Table;)V"⟩
set_option maxRecDepth 100000 in
theorem jm_Table_turn : jMi jy_Table_turn jc_Table_turn 3 none 1 := ⟨jmem_1 3 (by decide +kernel) rfl, jmem_2 150 (by rfl) rfl, ⟨jne_Table.1, jne_Table.2, by decide +kernel⟩, by decide, plainFor_of_name jpn_Table⟩
theorem ji_Table_turn : Cond.instanceMethod jy_Table_turn ∈ jtbl := jmem_2 148 (by decide +kernel) rfl
theorem js_Table_turn : Cond.selects jy_Table_turn.cls jy_Table_turn jy_Table_turn ∈ jtbl := jmem_2 149 (by decide +kernel) rfl
abbrev jc_Table_multiplyBy : ByteArray := prog_10_method_18_code
abbrev jy_Table_multiplyBy : MethodName := ⟨"YesNoPowers$Table", "multiplyBy", "(LYesNoPowers$Table;)V"⟩
set_option maxRecDepth 100000 in
theorem jm_Table_multiplyBy : jMi jy_Table_multiplyBy jc_Table_multiplyBy 5 none 1 := ⟨jmem_1 3 (by decide +kernel) rfl, jmem_2 122 (by rfl) rfl, ⟨jne_Table.1, jne_Table.2, by decide +kernel⟩, by decide, plainFor_of_name jpn_Table⟩
theorem ji_Table_multiplyBy : Cond.instanceMethod jy_Table_multiplyBy ∈ jtbl := jmem_2 120 (by decide +kernel) rfl
theorem js_Table_multiplyBy : Cond.selects jy_Table_multiplyBy.cls jy_Table_multiplyBy jy_Table_multiplyBy ∈ jtbl := jmem_2 121 (by decide +kernel) rfl
abbrev jc_Table_close : ByteArray := prog_10_method_19_code
abbrev jy_Table_close : MethodName := ⟨"YesNoPowers$Table", "close", "()V"⟩
set_option maxRecDepth 100000 in
theorem jm_Table_close : jMi jy_Table_close jc_Table_close 3 none 0 := ⟨jmem_1 3 (by decide +kernel) rfl, jmem_2 167 (by rfl) rfl, ⟨jne_Table.1, jne_Table.2, by decide +kernel⟩, by decide, plainFor_of_name jpn_Table⟩
theorem ji_Table_close : Cond.instanceMethod jy_Table_close ∈ jtbl := jmem_2 165 (by decide +kernel) rfl
theorem js_Table_close : Cond.selects jy_Table_close.cls jy_Table_close jy_Table_close ∈ jtbl := jmem_2 166 (by decide +kernel) rfl
abbrev jc_Main_make : ByteArray := prog_1_method_2_code
abbrev jy_Main_make : MethodName := ⟨"YesNoPowers", "make", "(III)I"⟩
set_option maxRecDepth 100000 in
theorem jm_Main_make : jMi jy_Main_make jc_Main_make 4 (some .int) 3 := ⟨jmem_1 1 (by decide +kernel) rfl, jmem_2 44 (by rfl) rfl, ⟨jne_Main.1, jne_Main.2, by decide +kernel⟩, by decide, plainFor_of_name jpn_Main⟩
theorem ji_Main_make : Cond.instanceMethod jy_Main_make ∈ jtbl := jmem_2 42 (by decide +kernel) rfl
theorem js_Main_make : Cond.selects jy_Main_make.cls jy_Main_make jy_Main_make ∈ jtbl := jmem_2 43 (by decide +kernel) rfl
abbrev jc_Main_put : ByteArray := prog_1_method_3_code
abbrev jy_Main_put : MethodName := ⟨"YesNoPowers", "put", "(IIII)I"⟩
set_option maxRecDepth 100000 in
theorem jm_Main_put : jMi jy_Main_put jc_Main_put 6 (some .int) 4 := ⟨jmem_1 1 (by decide +kernel) rfl, jmem_2 81 (by rfl) rfl, ⟨jne_Main.1, jne_Main.2, by decide +kernel⟩, by decide, plainFor_of_name jpn_Main⟩
theorem ji_Main_put : Cond.instanceMethod jy_Main_put ∈ jtbl := jmem_2 79 (by decide +kernel) rfl
theorem js_Main_put : Cond.selects jy_Main_put.cls jy_Main_put jy_Main_put ∈ jtbl := jmem_2 80 (by decide +kernel) rfl
abbrev jc_Main_at : ByteArray := prog_1_method_4_code
abbrev jy_Main_at : MethodName := ⟨"YesNoPowers", "at", "(III)I"⟩
set_option maxRecDepth 100000 in
theorem jm_Main_at : jMi jy_Main_at jc_Main_at 4 (some .int) 3 := ⟨jmem_1 1 (by decide +kernel) rfl, jmem_2 97 (by rfl) rfl, ⟨jne_Main.1, jne_Main.2, by decide +kernel⟩, by decide, plainFor_of_name jpn_Main⟩
theorem ji_Main_at : Cond.instanceMethod jy_Main_at ∈ jtbl := jmem_2 95 (by decide +kernel) rfl
theorem js_Main_at : Cond.selects jy_Main_at.cls jy_Main_at jy_Main_at ∈ jtbl := jmem_2 96 (by decide +kernel) rfl
abbrev jc_Main_line : ByteArray := prog_1_method_5_code
abbrev jy_Main_line : MethodName := ⟨"YesNoPowers", "line", "(III)I"⟩
set_option maxRecDepth 100000 in
theorem jm_Main_line : jMi jy_Main_line jc_Main_line 4 (some .int) 3 := ⟨jmem_1 1 (by decide +kernel) rfl, jmem_2 101 (by rfl) rfl, ⟨jne_Main.1, jne_Main.2, by decide +kernel⟩, by decide, plainFor_of_name jpn_Main⟩
theorem ji_Main_line : Cond.instanceMethod jy_Main_line ∈ jtbl := jmem_2 99 (by decide +kernel) rfl
theorem js_Main_line : Cond.selects jy_Main_line.cls jy_Main_line jy_Main_line ∈ jtbl := jmem_2 100 (by decide +kernel) rfl
abbrev jc_Main_setRow : ByteArray := prog_1_method_6_code
abbrev jy_Main_setRow : MethodName := ⟨"YesNoPowers", "setRow", "(III)I"⟩
set_option maxRecDepth 100000 in
theorem jm_Main_setRow : jMi jy_Main_setRow jc_Main_setRow 5 (some .int) 3 := ⟨jmem_1 1 (by decide +kernel) rfl, jmem_2 110 (by rfl) rfl, ⟨jne_Main.1, jne_Main.2, by decide +kernel⟩, by decide, plainFor_of_name jpn_Main⟩
theorem ji_Main_setRow : Cond.instanceMethod jy_Main_setRow ∈ jtbl := jmem_2 108 (by decide +kernel) rfl
theorem js_Main_setRow : Cond.selects jy_Main_setRow.cls jy_Main_setRow jy_Main_setRow ∈ jtbl := jmem_2 109 (by decide +kernel) rfl
abbrev jc_Main_times : ByteArray := prog_1_method_7_code
abbrev jy_Main_times : MethodName := ⟨"YesNoPowers", "times", "(III)I"⟩
set_option maxRecDepth 100000 in
theorem jm_Main_times : jMi jy_Main_times jc_Main_times 4 (some .int) 3 := ⟨jmem_1 1 (by decide +kernel) rfl, jmem_2 118 (by rfl) rfl, ⟨jne_Main.1, jne_Main.2, by decide +kernel⟩, by decide, plainFor_of_name jpn_Main⟩
theorem ji_Main_times : Cond.instanceMethod jy_Main_times ∈ jtbl := jmem_2 116 (by decide +kernel) rfl
theorem js_Main_times : Cond.selects jy_Main_times.cls jy_Main_times jy_Main_times ∈ jtbl := jmem_2 117 (by decide +kernel) rfl
abbrev jc_Main_plus : ByteArray := prog_1_method_8_code
abbrev jy_Main_plus : MethodName := ⟨"YesNoPowers", "plus", "(III)I"⟩
set_option maxRecDepth 100000 in
theorem jm_Main_plus : jMi jy_Main_plus jc_Main_plus 4 (some .int) 3 := ⟨jmem_1 1 (by decide +kernel) rfl, jmem_2 126 (by rfl) rfl, ⟨jne_Main.1, jne_Main.2, by decide +kernel⟩, by decide, plainFor_of_name jpn_Main⟩
theorem ji_Main_plus : Cond.instanceMethod jy_Main_plus ∈ jtbl := jmem_2 124 (by decide +kernel) rfl
theorem js_Main_plus : Cond.selects jy_Main_plus.cls jy_Main_plus jy_Main_plus ∈ jtbl := jmem_2 125 (by decide +kernel) rfl
abbrev jc_Main_power : ByteArray := prog_1_method_9_code
abbrev jy_Main_power : MethodName := ⟨"YesNoPowers", "power", "(III)I"⟩
set_option maxRecDepth 100000 in
theorem jm_Main_power : jMi jy_Main_power jc_Main_power 4 (some .int) 3 := ⟨jmem_1 1 (by decide +kernel) rfl, jmem_2 134 (by rfl) rfl, ⟨jne_Main.1, jne_Main.2, by decide +kernel⟩, by decide, plainFor_of_name jpn_Main⟩
theorem ji_Main_power : Cond.instanceMethod jy_Main_power ∈ jtbl := jmem_2 132 (by decide +kernel) rfl
theorem js_Main_power : Cond.selects jy_Main_power.cls jy_Main_power jy_Main_power ∈ jtbl := jmem_2 133 (by decide +kernel) rfl
abbrev jc_Main_derive : ByteArray := prog_1_method_10_code
abbrev jy_Main_derive : MethodName := ⟨"YesNoPowers", "derive", "(III)I"⟩
set_option maxRecDepth 100000 in
theorem jm_Main_derive : jMi jy_Main_derive jc_Main_derive 5 (some .int) 3 := ⟨jmem_1 1 (by decide +kernel) rfl, jmem_2 146 (by rfl) rfl, ⟨jne_Main.1, jne_Main.2, by decide +kernel⟩, by decide, plainFor_of_name jpn_Main⟩
theorem ji_Main_derive : Cond.instanceMethod jy_Main_derive ∈ jtbl := jmem_2 144 (by decide +kernel) rfl
theorem js_Main_derive : Cond.selects jy_Main_derive.cls jy_Main_derive jy_Main_derive ∈ jtbl := jmem_2 145 (by decide +kernel) rfl
abbrev jc_Main_clear : ByteArray := prog_1_method_11_code
abbrev jy_Main_clear : MethodName := ⟨"YesNoPowers", "clear", "(I)I"⟩
set_option maxRecDepth 100000 in
theorem jm_Main_clear : jMi jy_Main_clear jc_Main_clear 3 (some .int) 1 := ⟨jmem_1 1 (by decide +kernel) rfl, jmem_2 171 (by rfl) rfl, ⟨jne_Main.1, jne_Main.2, by decide +kernel⟩, by decide, plainFor_of_name jpn_Main⟩
theorem ji_Main_clear : Cond.instanceMethod jy_Main_clear ∈ jtbl := jmem_2 169 (by decide +kernel) rfl
theorem js_Main_clear : Cond.selects jy_Main_clear.cls jy_Main_clear jy_Main_clear ∈ jtbl := jmem_2 170 (by decide +kernel) rfl
abbrev jc_Main_same : ByteArray := prog_1_method_12_code
abbrev jy_Main_same : MethodName := ⟨"YesNoPowers", "same", "(II)I"⟩
set_option maxRecDepth 100000 in
theorem jm_Main_same : jMi jy_Main_same jc_Main_same 3 (some .int) 2 := ⟨jmem_1 1 (by decide +kernel) rfl, jmem_2 175 (by rfl) rfl, ⟨jne_Main.1, jne_Main.2, by decide +kernel⟩, by decide, plainFor_of_name jpn_Main⟩
theorem ji_Main_same : Cond.instanceMethod jy_Main_same ∈ jtbl := jmem_2 173 (by decide +kernel) rfl
theorem js_Main_same : Cond.selects jy_Main_same.cls jy_Main_same jy_Main_same ∈ jtbl := jmem_2 174 (by decide +kernel) rfl
abbrev jc_Main_load : ByteArray := prog_1_method_13_code
abbrev jy_Main_load : MethodName := ⟨"YesNoPowers", "load", "(IIII)I"⟩
set_option maxRecDepth 100000 in
theorem jm_Main_load : jMi jy_Main_load jc_Main_load 8 (some .int) 4 := ⟨jmem_1 1 (by decide +kernel) rfl, jmem_2 183 (by rfl) rfl, ⟨jne_Main.1, jne_Main.2, by decide +kernel⟩, by decide, plainFor_of_name jpn_Main⟩
theorem ji_Main_load : Cond.instanceMethod jy_Main_load ∈ jtbl := jmem_2 181 (by decide +kernel) rfl
theorem js_Main_load : Cond.selects jy_Main_load.cls jy_Main_load jy_Main_load ∈ jtbl := jmem_2 182 (by decide +kernel) rfl
abbrev jc_Main_spill : ByteArray := prog_1_method_14_code
abbrev jy_Main_spill : MethodName := ⟨"YesNoPowers", "spill", "(III)I"⟩
set_option maxRecDepth 100000 in
theorem jm_Main_spill : jMi jy_Main_spill jc_Main_spill 7 (some .int) 3 := ⟨jmem_1 1 (by decide +kernel) rfl, jmem_2 202 (by rfl) rfl, ⟨jne_Main.1, jne_Main.2, by decide +kernel⟩, by decide, plainFor_of_name jpn_Main⟩
theorem ji_Main_spill : Cond.instanceMethod jy_Main_spill ∈ jtbl := jmem_2 200 (by decide +kernel) rfl
theorem js_Main_spill : Cond.selects jy_Main_spill.cls jy_Main_spill jy_Main_spill ∈ jtbl := jmem_2 201 (by decide +kernel) rfl
abbrev jc_Main_told : ByteArray := prog_1_method_15_code
abbrev jy_Main_told : MethodName := ⟨"YesNoPowers", "told", "(II)I"⟩
set_option maxRecDepth 100000 in
theorem jm_Main_told : jMi jy_Main_told jc_Main_told 4 (some .int) 2 := ⟨jmem_1 1 (by decide +kernel) rfl, jmem_2 211 (by rfl) rfl, ⟨jne_Main.1, jne_Main.2, by decide +kernel⟩, by decide, plainFor_of_name jpn_Main⟩
theorem ji_Main_told : Cond.instanceMethod jy_Main_told ∈ jtbl := jmem_2 209 (by decide +kernel) rfl
theorem js_Main_told : Cond.selects jy_Main_told.cls jy_Main_told jy_Main_told ∈ jtbl := jmem_2 210 (by decide +kernel) rfl
abbrev jc_Main_reaches : ByteArray := prog_1_method_16_code
abbrev jy_Main_reaches : MethodName := ⟨"YesNoPowers", "reaches", "(II)I"⟩
set_option maxRecDepth 100000 in
theorem jm_Main_reaches : jMi jy_Main_reaches jc_Main_reaches 4 (some .int) 2 := ⟨jmem_1 1 (by decide +kernel) rfl, jmem_3 18 (by rfl) rfl, ⟨jne_Main.1, jne_Main.2, by decide +kernel⟩, by decide, plainFor_of_name jpn_Main⟩
theorem ji_Main_reaches : Cond.instanceMethod jy_Main_reaches ∈ jtbl := jmem_3 16 (by decide +kernel) rfl
theorem js_Main_reaches : Cond.selects jy_Main_reaches.cls jy_Main_reaches jy_Main_reaches ∈ jtbl := jmem_3 17 (by decide +kernel) rfl
abbrev jc_Main_bound : ByteArray := prog_1_method_17_code
abbrev jy_Main_bound : MethodName := ⟨"YesNoPowers", "bound", "(II)I"⟩
set_option maxRecDepth 100000 in
theorem jm_Main_bound : jMi jy_Main_bound jc_Main_bound 6 (some .int) 2 := ⟨jmem_1 1 (by decide +kernel) rfl, jmem_3 26 (by rfl) rfl, ⟨jne_Main.1, jne_Main.2, by decide +kernel⟩, by decide, plainFor_of_name jpn_Main⟩
theorem ji_Main_bound : Cond.instanceMethod jy_Main_bound ∈ jtbl := jmem_3 24 (by decide +kernel) rfl
theorem js_Main_bound : Cond.selects jy_Main_bound.cls jy_Main_bound jy_Main_bound ∈ jtbl := jmem_3 25 (by decide +kernel) rfl
abbrev jc_Main_classes : ByteArray := prog_1_method_18_code
abbrev jy_Main_classes : MethodName := ⟨"YesNoPowers", "classes", "(I)I"⟩
set_option maxRecDepth 100000 in
theorem jm_Main_classes : jMi jy_Main_classes jc_Main_classes 2 (some .int) 1 := ⟨jmem_1 1 (by decide +kernel) rfl, jmem_3 81 (by rfl) rfl, ⟨jne_Main.1, jne_Main.2, by decide +kernel⟩, by decide, plainFor_of_name jpn_Main⟩
theorem ji_Main_classes : Cond.instanceMethod jy_Main_classes ∈ jtbl := jmem_3 79 (by decide +kernel) rfl
theorem js_Main_classes : Cond.selects jy_Main_classes.cls jy_Main_classes jy_Main_classes ∈ jtbl := jmem_3 80 (by decide +kernel) rfl
abbrev jc_Main_classOf : ByteArray := prog_1_method_19_code
abbrev jy_Main_classOf : MethodName := ⟨"YesNoPowers", "classOf", "(II)I"⟩
set_option maxRecDepth 100000 in
theorem jm_Main_classOf : jMi jy_Main_classOf jc_Main_classOf 3 (some .int) 2 := ⟨jmem_1 1 (by decide +kernel) rfl, jmem_3 85 (by rfl) rfl, ⟨jne_Main.1, jne_Main.2, by decide +kernel⟩, by decide, plainFor_of_name jpn_Main⟩
theorem ji_Main_classOf : Cond.instanceMethod jy_Main_classOf ∈ jtbl := jmem_3 83 (by decide +kernel) rfl
theorem js_Main_classOf : Cond.selects jy_Main_classOf.cls jy_Main_classOf jy_Main_classOf ∈ jtbl := jmem_3 84 (by decide +kernel) rfl
abbrev jc_Main_ofClass : ByteArray := prog_1_method_20_code
abbrev jy_Main_ofClass : MethodName := ⟨"YesNoPowers", "ofClass", "(III)I"⟩
set_option maxRecDepth 100000 in
theorem jm_Main_ofClass : jMi jy_Main_ofClass jc_Main_ofClass 4 (some .int) 3 := ⟨jmem_1 1 (by decide +kernel) rfl, jmem_3 89 (by rfl) rfl, ⟨jne_Main.1, jne_Main.2, by decide +kernel⟩, by decide, plainFor_of_name jpn_Main⟩
theorem ji_Main_ofClass : Cond.instanceMethod jy_Main_ofClass ∈ jtbl := jmem_3 87 (by decide +kernel) rfl
theorem js_Main_ofClass : Cond.selects jy_Main_ofClass.cls jy_Main_ofClass jy_Main_ofClass ∈ jtbl := jmem_3 88 (by decide +kernel) rfl
abbrev jc_Main_part : ByteArray := prog_1_method_21_code
abbrev jy_Main_part : MethodName := ⟨"YesNoPowers", "part", "(II)I"⟩
set_option maxRecDepth 100000 in
theorem jm_Main_part : jMi jy_Main_part jc_Main_part 3 (some .int) 2 := ⟨jmem_1 1 (by decide +kernel) rfl, jmem_3 98 (by rfl) rfl, ⟨jne_Main.1, jne_Main.2, by decide +kernel⟩, by decide, plainFor_of_name jpn_Main⟩
theorem ji_Main_part : Cond.instanceMethod jy_Main_part ∈ jtbl := jmem_3 96 (by decide +kernel) rfl
theorem js_Main_part : Cond.selects jy_Main_part.cls jy_Main_part jy_Main_part ∈ jtbl := jmem_3 97 (by decide +kernel) rfl
abbrev jc_Main_parts : ByteArray := prog_1_method_22_code
abbrev jy_Main_parts : MethodName := ⟨"YesNoPowers", "parts", "(III)I"⟩
set_option maxRecDepth 100000 in
theorem jm_Main_parts : jMi jy_Main_parts jc_Main_parts 7 (some .int) 3 := ⟨jmem_1 1 (by decide +kernel) rfl, jmem_3 106 (by rfl) rfl, ⟨jne_Main.1, jne_Main.2, by decide +kernel⟩, by decide, plainFor_of_name jpn_Main⟩
theorem ji_Main_parts : Cond.instanceMethod jy_Main_parts ∈ jtbl := jmem_3 104 (by decide +kernel) rfl
theorem js_Main_parts : Cond.selects jy_Main_parts.cls jy_Main_parts jy_Main_parts ∈ jtbl := jmem_3 105 (by decide +kernel) rfl
abbrev jc_Main_rest : ByteArray := prog_1_method_23_code
abbrev jy_Main_rest : MethodName := ⟨"YesNoPowers", "rest", "(III)I"⟩
set_option maxRecDepth 100000 in
theorem jm_Main_rest : jMi jy_Main_rest jc_Main_rest 5 (some .int) 3 := ⟨jmem_1 1 (by decide +kernel) rfl, jmem_3 110 (by rfl) rfl, ⟨jne_Main.1, jne_Main.2, by decide +kernel⟩, by decide, plainFor_of_name jpn_Main⟩
theorem ji_Main_rest : Cond.instanceMethod jy_Main_rest ∈ jtbl := jmem_3 108 (by decide +kernel) rfl
theorem js_Main_rest : Cond.selects jy_Main_rest.cls jy_Main_rest jy_Main_rest ∈ jtbl := jmem_3 109 (by decide +kernel) rfl
abbrev jc_Main_space : ByteArray := prog_1_method_24_code
abbrev jy_Main_space : MethodName := ⟨"YesNoPowers", "space", "(II)I"⟩
set_option maxRecDepth 100000 in
theorem jm_Main_space : jMi jy_Main_space jc_Main_space 4 (some .int) 2 := ⟨jmem_1 1 (by decide +kernel) rfl, jmem_3 117 (by rfl) rfl, ⟨jne_Main.1, jne_Main.2, by decide +kernel⟩, by decide, plainFor_of_name jpn_Main⟩
theorem ji_Main_space : Cond.instanceMethod jy_Main_space ∈ jtbl := jmem_3 115 (by decide +kernel) rfl
theorem js_Main_space : Cond.selects jy_Main_space.cls jy_Main_space jy_Main_space ∈ jtbl := jmem_3 116 (by decide +kernel) rfl
abbrev jc_Main_basis : ByteArray := prog_1_method_25_code
abbrev jy_Main_basis : MethodName := ⟨"YesNoPowers", "basis", "(II)I"⟩
set_option maxRecDepth 100000 in
theorem jm_Main_basis : jMi jy_Main_basis jc_Main_basis 5 (some .int) 2 := ⟨jmem_1 1 (by decide +kernel) rfl, jmem_3 148 (by rfl) rfl, ⟨jne_Main.1, jne_Main.2, by decide +kernel⟩, by decide, plainFor_of_name jpn_Main⟩
theorem ji_Main_basis : Cond.instanceMethod jy_Main_basis ∈ jtbl := jmem_3 146 (by decide +kernel) rfl
theorem js_Main_basis : Cond.selects jy_Main_basis.cls jy_Main_basis jy_Main_basis ∈ jtbl := jmem_3 147 (by decide +kernel) rfl
abbrev jc_Main_spans : ByteArray := prog_1_method_26_code
abbrev jy_Main_spans : MethodName := ⟨"YesNoPowers", "spans", "(II)I"⟩
set_option maxRecDepth 100000 in
theorem jm_Main_spans : jMi jy_Main_spans jc_Main_spans 3 (some .int) 2 := ⟨jmem_1 1 (by decide +kernel) rfl, jmem_3 153 (by rfl) rfl, ⟨jne_Main.1, jne_Main.2, by decide +kernel⟩, by decide, plainFor_of_name jpn_Main⟩
theorem ji_Main_spans : Cond.instanceMethod jy_Main_spans ∈ jtbl := jmem_3 151 (by decide +kernel) rfl
theorem js_Main_spans : Cond.selects jy_Main_spans.cls jy_Main_spans jy_Main_spans ∈ jtbl := jmem_3 152 (by decide +kernel) rfl
abbrev jc_Main_alike : ByteArray := prog_1_method_27_code
abbrev jy_Main_alike : MethodName := ⟨"YesNoPowers", "alike", "(III)I"⟩
set_option maxRecDepth 100000 in
theorem jm_Main_alike : jMi jy_Main_alike jc_Main_alike 4 (some .int) 3 := ⟨jmem_1 1 (by decide +kernel) rfl, jmem_3 158 (by rfl) rfl, ⟨jne_Main.1, jne_Main.2, by decide +kernel⟩, by decide, plainFor_of_name jpn_Main⟩
theorem ji_Main_alike : Cond.instanceMethod jy_Main_alike ∈ jtbl := jmem_3 156 (by decide +kernel) rfl
theorem js_Main_alike : Cond.selects jy_Main_alike.cls jy_Main_alike jy_Main_alike ∈ jtbl := jmem_3 157 (by decide +kernel) rfl
abbrev jc_Main_roots : ByteArray := prog_1_method_28_code
abbrev jy_Main_roots : MethodName := ⟨"YesNoPowers", "roots", "(II)I"⟩
set_option maxRecDepth 100000 in
theorem jm_Main_roots : jMi jy_Main_roots jc_Main_roots 4 (some .int) 2 := ⟨jmem_1 1 (by decide +kernel) rfl, jmem_3 170 (by rfl) rfl, ⟨jne_Main.1, jne_Main.2, by decide +kernel⟩, by decide, plainFor_of_name jpn_Main⟩
theorem ji_Main_roots : Cond.instanceMethod jy_Main_roots ∈ jtbl := jmem_3 168 (by decide +kernel) rfl
theorem js_Main_roots : Cond.selects jy_Main_roots.cls jy_Main_roots jy_Main_roots ∈ jtbl := jmem_3 169 (by decide +kernel) rfl
abbrev jc_Main_root : ByteArray := prog_1_method_29_code
abbrev jy_Main_root : MethodName := ⟨"YesNoPowers", "root", "(III)I"⟩
set_option maxRecDepth 100000 in
theorem jm_Main_root : jMi jy_Main_root jc_Main_root 6 (some .int) 3 := ⟨jmem_1 1 (by decide +kernel) rfl, jmem_3 192 (by rfl) rfl, ⟨jne_Main.1, jne_Main.2, by decide +kernel⟩, by decide, plainFor_of_name jpn_Main⟩
theorem ji_Main_root : Cond.instanceMethod jy_Main_root ∈ jtbl := jmem_3 190 (by decide +kernel) rfl
theorem js_Main_root : Cond.selects jy_Main_root.cls jy_Main_root jy_Main_root ∈ jtbl := jmem_3 191 (by decide +kernel) rfl
abbrev jc_Main_link : ByteArray := prog_1_method_30_code
abbrev jy_Main_link : MethodName := ⟨"YesNoPowers", "link", "(II)I"⟩
set_option maxRecDepth 100000 in
theorem jm_Main_link : jMi jy_Main_link jc_Main_link 3 (some .int) 2 := ⟨jmem_1 1 (by decide +kernel) rfl, jmem_3 206 (by rfl) rfl, ⟨jne_Main.1, jne_Main.2, by decide +kernel⟩, by decide, plainFor_of_name jpn_Main⟩
theorem ji_Main_link : Cond.instanceMethod jy_Main_link ∈ jtbl := jmem_3 204 (by decide +kernel) rfl
theorem js_Main_link : Cond.selects jy_Main_link.cls jy_Main_link jy_Main_link ∈ jtbl := jmem_3 205 (by decide +kernel) rfl
abbrev jc_Main_run : ByteArray := prog_1_method_31_code
abbrev jy_Main_run : MethodName := ⟨"YesNoPowers", "run", "(I)I"⟩
set_option maxRecDepth 100000 in
theorem jm_Main_run : jMi jy_Main_run jc_Main_run 3 (some .int) 1 := ⟨jmem_1 1 (by decide +kernel) rfl, jmem_3 224 (by rfl) rfl, ⟨jne_Main.1, jne_Main.2, by decide +kernel⟩, by decide, plainFor_of_name jpn_Main⟩
theorem ji_Main_run : Cond.instanceMethod jy_Main_run ∈ jtbl := jmem_3 222 (by decide +kernel) rfl
theorem js_Main_run : Cond.selects jy_Main_run.cls jy_Main_run jy_Main_run ∈ jtbl := jmem_3 223 (by decide +kernel) rfl
abbrev jc_Main_would : ByteArray := prog_1_method_32_code
abbrev jy_Main_would : MethodName := ⟨"YesNoPowers", "would", "(I)I"⟩
set_option maxRecDepth 100000 in
theorem jm_Main_would : jMi jy_Main_would jc_Main_would 3 (some .int) 1 := ⟨jmem_1 1 (by decide +kernel) rfl, jmem_4 18 (by rfl) rfl, ⟨jne_Main.1, jne_Main.2, by decide +kernel⟩, by decide, plainFor_of_name jpn_Main⟩
theorem ji_Main_would : Cond.instanceMethod jy_Main_would ∈ jtbl := jmem_4 16 (by decide +kernel) rfl
theorem js_Main_would : Cond.selects jy_Main_would.cls jy_Main_would jy_Main_would ∈ jtbl := jmem_4 17 (by decide +kernel) rfl
abbrev jc_Main_closing : ByteArray := prog_1_method_33_code
abbrev jy_Main_closing : MethodName := ⟨"YesNoPowers", "closing", "(I)I"⟩
set_option maxRecDepth 100000 in
theorem jm_Main_closing : jMi jy_Main_closing jc_Main_closing 2 (some .int) 1 := ⟨jmem_1 1 (by decide +kernel) rfl, jmem_4 22 (by rfl) rfl, ⟨jne_Main.1, jne_Main.2, by decide +kernel⟩, by decide, plainFor_of_name jpn_Main⟩
theorem ji_Main_closing : Cond.instanceMethod jy_Main_closing ∈ jtbl := jmem_4 20 (by decide +kernel) rfl
theorem js_Main_closing : Cond.selects jy_Main_closing.cls jy_Main_closing jy_Main_closing ∈ jtbl := jmem_4 21 (by decide +kernel) rfl
abbrev jc_Main_reason : ByteArray := prog_1_method_34_code
abbrev jy_Main_reason : MethodName := ⟨"YesNoPowers", "reason", "(I)I"⟩
set_option maxRecDepth 100000 in
theorem jm_Main_reason : jMi jy_Main_reason jc_Main_reason 2 (some .int) 1 := ⟨jmem_1 1 (by decide +kernel) rfl, jmem_4 26 (by rfl) rfl, ⟨jne_Main.1, jne_Main.2, by decide +kernel⟩, by decide, plainFor_of_name jpn_Main⟩
theorem ji_Main_reason : Cond.instanceMethod jy_Main_reason ∈ jtbl := jmem_4 24 (by decide +kernel) rfl
theorem js_Main_reason : Cond.selects jy_Main_reason.cls jy_Main_reason jy_Main_reason ∈ jtbl := jmem_4 25 (by decide +kernel) rfl
abbrev jc_Main_loosen : ByteArray := prog_1_method_35_code
abbrev jy_Main_loosen : MethodName := ⟨"YesNoPowers", "loosen", "()I"⟩
set_option maxRecDepth 100000 in
theorem jm_Main_loosen : jMi jy_Main_loosen jc_Main_loosen 2 (some .int) 0 := ⟨jmem_1 1 (by decide +kernel) rfl, jmem_4 30 (by rfl) rfl, ⟨jne_Main.1, jne_Main.2, by decide +kernel⟩, by decide, plainFor_of_name jpn_Main⟩
theorem ji_Main_loosen : Cond.instanceMethod jy_Main_loosen ∈ jtbl := jmem_4 28 (by decide +kernel) rfl
theorem js_Main_loosen : Cond.selects jy_Main_loosen.cls jy_Main_loosen jy_Main_loosen ∈ jtbl := jmem_4 29 (by decide +kernel) rfl
abbrev jc_Main_undo : ByteArray := prog_1_method_36_code
abbrev jy_Main_undo : MethodName := ⟨"YesNoPowers", "undo", "()I"⟩
set_option maxRecDepth 100000 in
theorem jm_Main_undo : jMi jy_Main_undo jc_Main_undo 2 (some .int) 0 := ⟨jmem_1 1 (by decide +kernel) rfl, jmem_4 34 (by rfl) rfl, ⟨jne_Main.1, jne_Main.2, by decide +kernel⟩, by decide, plainFor_of_name jpn_Main⟩
theorem ji_Main_undo : Cond.instanceMethod jy_Main_undo ∈ jtbl := jmem_4 32 (by decide +kernel) rfl
theorem js_Main_undo : Cond.selects jy_Main_undo.cls jy_Main_undo jy_Main_undo ∈ jtbl := jmem_4 33 (by decide +kernel) rfl
abbrev jc_Main_sheet : ByteArray := prog_1_method_37_code
abbrev jy_Main_sheet : MethodName := ⟨"YesNoPowers", "sheet", "(III)I"⟩
set_option maxRecDepth 100000 in
theorem jm_Main_sheet : jMi jy_Main_sheet jc_Main_sheet 4 (some .int) 3 := ⟨jmem_1 1 (by decide +kernel) rfl, jmem_4 54 (by rfl) rfl, ⟨jne_Main.1, jne_Main.2, by decide +kernel⟩, by decide, plainFor_of_name jpn_Main⟩
theorem ji_Main_sheet : Cond.instanceMethod jy_Main_sheet ∈ jtbl := jmem_4 52 (by decide +kernel) rfl
theorem js_Main_sheet : Cond.selects jy_Main_sheet.cls jy_Main_sheet jy_Main_sheet ∈ jtbl := jmem_4 53 (by decide +kernel) rfl
abbrev jc_Main_cell : ByteArray := prog_1_method_38_code
abbrev jy_Main_cell : MethodName := ⟨"YesNoPowers", "cell", "(III)I"⟩
set_option maxRecDepth 100000 in
theorem jm_Main_cell : jMi jy_Main_cell jc_Main_cell 4 (some .int) 3 := ⟨jmem_1 1 (by decide +kernel) rfl, jmem_4 62 (by rfl) rfl, ⟨jne_Main.1, jne_Main.2, by decide +kernel⟩, by decide, plainFor_of_name jpn_Main⟩
theorem ji_Main_cell : Cond.instanceMethod jy_Main_cell ∈ jtbl := jmem_4 60 (by decide +kernel) rfl
theorem js_Main_cell : Cond.selects jy_Main_cell.cls jy_Main_cell jy_Main_cell ∈ jtbl := jmem_4 61 (by decide +kernel) rfl
abbrev jc_Main_item : ByteArray := prog_1_method_39_code
abbrev jy_Main_item : MethodName := ⟨"YesNoPowers", "item", "(II)J"⟩
set_option maxRecDepth 100000 in
theorem jm_Main_item : jMi jy_Main_item jc_Main_item 3 (some .long) 2 := ⟨jmem_1 1 (by decide +kernel) rfl, jmem_4 66 (by rfl) rfl, ⟨jne_Main.1, jne_Main.2, by decide +kernel⟩, by decide, plainFor_of_name jpn_Main⟩
theorem ji_Main_item : Cond.instanceMethod jy_Main_item ∈ jtbl := jmem_4 64 (by decide +kernel) rfl
theorem js_Main_item : Cond.selects jy_Main_item.cls jy_Main_item jy_Main_item ∈ jtbl := jmem_4 65 (by decide +kernel) rfl
abbrev jc_Main_shift : ByteArray := prog_1_method_40_code
abbrev jy_Main_shift : MethodName := ⟨"YesNoPowers", "shift", "(IIIII)I"⟩
set_option maxRecDepth 100000 in
theorem jm_Main_shift : jMi jy_Main_shift jc_Main_shift 8 (some .int) 5 := ⟨jmem_1 1 (by decide +kernel) rfl, jmem_4 71 (by rfl) rfl, ⟨jne_Main.1, jne_Main.2, by decide +kernel⟩, by decide, plainFor_of_name jpn_Main⟩
theorem ji_Main_shift : Cond.instanceMethod jy_Main_shift ∈ jtbl := jmem_4 69 (by decide +kernel) rfl
theorem js_Main_shift : Cond.selects jy_Main_shift.cls jy_Main_shift jy_Main_shift ∈ jtbl := jmem_4 70 (by decide +kernel) rfl
abbrev jc_Main_count : ByteArray := prog_1_method_41_code
abbrev jy_Main_count : MethodName := ⟨"YesNoPowers", "count", "(I)I"⟩
set_option maxRecDepth 100000 in
theorem jm_Main_count : jMi jy_Main_count jc_Main_count 2 (some .int) 1 := ⟨jmem_1 1 (by decide +kernel) rfl, jmem_4 78 (by rfl) rfl, ⟨jne_Main.1, jne_Main.2, by decide +kernel⟩, by decide, plainFor_of_name jpn_Main⟩
theorem ji_Main_count : Cond.instanceMethod jy_Main_count ∈ jtbl := jmem_4 76 (by decide +kernel) rfl
theorem js_Main_count : Cond.selects jy_Main_count.cls jy_Main_count jy_Main_count ∈ jtbl := jmem_4 77 (by decide +kernel) rfl
abbrev jc_Main_outOf : ByteArray := prog_1_method_42_code
abbrev jy_Main_outOf : MethodName := ⟨"YesNoPowers", "outOf", "(III)Z"⟩
set_option maxRecDepth 100000 in
theorem jm_Main_outOf : jMi jy_Main_outOf jc_Main_outOf 3 (some .boolean) 3 := ⟨jmem_1 1 (by decide +kernel) rfl, jmem_2 50 (by rfl) rfl, ⟨jne_Main.1, jne_Main.2, by decide +kernel⟩, by decide, plainFor_of_name jpn_Main⟩
theorem js_Main_outOf : Cond.static jy_Main_outOf ∈ jtbl := jmem_2 49 (by decide +kernel) rfl
abbrev jc_Main_noSlot : ByteArray := prog_1_method_43_code
abbrev jy_Main_noSlot : MethodName := ⟨"YesNoPowers", "noSlot", "(I)Z"⟩
set_option maxRecDepth 100000 in
theorem jm_Main_noSlot : jMi jy_Main_noSlot jc_Main_noSlot 1 (some .boolean) 1 := ⟨jmem_1 1 (by decide +kernel) rfl, jmem_2 47 (by rfl) rfl, ⟨jne_Main.1, jne_Main.2, by decide +kernel⟩, by decide, plainFor_of_name jpn_Main⟩
theorem js_Main_noSlot : Cond.static jy_Main_noSlot ∈ jtbl := jmem_2 46 (by decide +kernel) rfl
abbrev jc_Main_noSheet : ByteArray := prog_1_method_44_code
abbrev jy_Main_noSheet : MethodName := ⟨"YesNoPowers", "noSheet", "(I)Z"⟩
set_option maxRecDepth 100000 in
theorem jm_Main_noSheet : jMi jy_Main_noSheet jc_Main_noSheet 1 (some .boolean) 1 := ⟨jmem_1 1 (by decide +kernel) rfl, jmem_2 186 (by rfl) rfl, ⟨jne_Main.1, jne_Main.2, by decide +kernel⟩, by decide, plainFor_of_name jpn_Main⟩
theorem js_Main_noSheet : Cond.static jy_Main_noSheet ∈ jtbl := jmem_2 185 (by decide +kernel) rfl
abbrev jc_Main_noSize : ByteArray := prog_1_method_45_code
abbrev jy_Main_noSize : MethodName := ⟨"YesNoPowers", "noSize", "(I)Z"⟩
set_option maxRecDepth 100000 in
theorem jm_Main_noSize : jMi jy_Main_noSize jc_Main_noSize 1 (some .boolean) 1 := ⟨jmem_1 1 (by decide +kernel) rfl, jmem_2 53 (by rfl) rfl, ⟨jne_Main.1, jne_Main.2, by decide +kernel⟩, by decide, plainFor_of_name jpn_Main⟩
theorem js_Main_noSize : Cond.static jy_Main_noSize ∈ jtbl := jmem_2 52 (by decide +kernel) rfl
abbrev jc_Main_noTable : ByteArray := prog_1_method_46_code
abbrev jy_Main_noTable : MethodName := ⟨"YesNoPowers", "noTable", "(I)Z"⟩
set_option maxRecDepth 100000 in
theorem jm_Main_noTable : jMi jy_Main_noTable jc_Main_noTable 2 (some .boolean) 1 := ⟨jmem_1 1 (by decide +kernel) rfl, jmem_2 89 (by rfl) rfl, ⟨jne_Main.1, jne_Main.2, by decide +kernel⟩, by decide, plainFor_of_name jpn_Main⟩
theorem ji_Main_noTable : Cond.instanceMethod jy_Main_noTable ∈ jtbl := jmem_2 88 (by decide +kernel) rfl
theorem js_Main_noTable : Cond.selects jy_Main_noTable.cls jy_Main_noTable jy_Main_noTable ∈ jtbl := jmem_0 2 (by decide +kernel) rfl
abbrev jc_Main_noMember : ByteArray := prog_1_method_47_code
abbrev jy_Main_noMember : MethodName := ⟨"YesNoPowers", "noMember", "(II)Z"⟩
set_option maxRecDepth 100000 in
theorem jm_Main_noMember : jMi jy_Main_noMember jc_Main_noMember 3 (some .boolean) 2 := ⟨jmem_1 1 (by decide +kernel) rfl, jmem_2 85 (by rfl) rfl, ⟨jne_Main.1, jne_Main.2, by decide +kernel⟩, by decide, plainFor_of_name jpn_Main⟩
theorem ji_Main_noMember : Cond.instanceMethod jy_Main_noMember ∈ jtbl := jmem_2 84 (by decide +kernel) rfl
theorem js_Main_noMember : Cond.selects jy_Main_noMember.cls jy_Main_noMember jy_Main_noMember ∈ jtbl := jmem_0 1 (by decide +kernel) rfl
abbrev jc_Main_readsClass : ByteArray := prog_1_method_48_code
abbrev jy_Main_readsClass : MethodName := ⟨"YesNoPowers", "readsClass", "(II)Z"⟩
set_option maxRecDepth 100000 in
theorem jm_Main_readsClass : jMi jy_Main_readsClass jc_Main_readsClass 3 (some .boolean) 2 := ⟨jmem_1 1 (by decide +kernel) rfl, jmem_3 93 (by rfl) rfl, ⟨jne_Main.1, jne_Main.2, by decide +kernel⟩, by decide, plainFor_of_name jpn_Main⟩
theorem ji_Main_readsClass : Cond.instanceMethod jy_Main_readsClass ∈ jtbl := jmem_3 92 (by decide +kernel) rfl
theorem js_Main_readsClass : Cond.selects jy_Main_readsClass.cls jy_Main_readsClass jy_Main_readsClass ∈ jtbl := jmem_0 15 (by decide +kernel) rfl
abbrev jc_Main_badForKind : ByteArray := prog_1_method_49_code
abbrev jy_Main_badForKind : MethodName := ⟨"YesNoPowers", "badForKind", "(II)Z"⟩
set_option maxRecDepth 100000 in
theorem jm_Main_badForKind : jMi jy_Main_badForKind jc_Main_badForKind 3 (some .boolean) 2 := ⟨jmem_1 1 (by decide +kernel) rfl, jmem_3 210 (by rfl) rfl, ⟨jne_Main.1, jne_Main.2, by decide +kernel⟩, by decide, plainFor_of_name jpn_Main⟩
theorem ji_Main_badForKind : Cond.instanceMethod jy_Main_badForKind ∈ jtbl := jmem_3 209 (by decide +kernel) rfl
theorem js_Main_badForKind : Cond.selects jy_Main_badForKind.cls jy_Main_badForKind jy_Main_badForKind ∈ jtbl := jmem_0 18 (by decide +kernel) rfl
abbrev jc_Main_hold : ByteArray := prog_1_method_50_code
abbrev jy_Main_hold : MethodName := ⟨"YesNoPowers", "hold", "(I)I"⟩
set_option maxRecDepth 100000 in
theorem jm_Main_hold : jMi jy_Main_hold jc_Main_hold 2 (some .int) 1 := ⟨jmem_1 1 (by decide +kernel) rfl, jmem_2 65 (by rfl) rfl, ⟨jne_Main.1, jne_Main.2, by decide +kernel⟩, by decide, plainFor_of_name jpn_Main⟩
theorem ji_Main_hold : Cond.instanceMethod jy_Main_hold ∈ jtbl := jmem_2 64 (by decide +kernel) rfl
theorem js_Main_hold : Cond.selects jy_Main_hold.cls jy_Main_hold jy_Main_hold ∈ jtbl := jmem_0 0 (by decide +kernel) rfl
abbrev jc_Main_isOwnSquare : ByteArray := prog_1_method_51_code
abbrev jy_Main_isOwnSquare : MethodName := ⟨"YesNoPowers", "isOwnSquare", "(LYesNoPowers$Table;)Z"⟩
set_option maxRecDepth 100000 in
theorem jm_Main_isOwnSquare : jMi jy_Main_isOwnSquare jc_Main_isOwnSquare 2 (some .boolean) 1 := ⟨jmem_1 1 (by decide +kernel) rfl, jmem_2 233 (by rfl) rfl, ⟨jne_Main.1, jne_Main.2, by decide +kernel⟩, by decide, plainFor_of_name jpn_Main⟩
theorem ji_Main_isOwnSquare : Cond.instanceMethod jy_Main_isOwnSquare ∈ jtbl := jmem_2 232 (by decide +kernel) rfl
theorem js_Main_isOwnSquare : Cond.selects jy_Main_isOwnSquare.cls jy_Main_isOwnSquare jy_Main_isOwnSquare ∈ jtbl := jmem_0 3 (by decide +kernel) rfl
abbrev jc_Main_isOwnTranspose : ByteArray := prog_1_method_52_code
abbrev jy_Main_isOwnTranspose : MethodName := ⟨"YesNoPowers", "isOwnTranspose", "(LYesNoPowers$Table;)Z"⟩
set_option maxRecDepth 100000 in
theorem jm_Main_isOwnTranspose : jMi jy_Main_isOwnTranspose jc_Main_isOwnTranspose 2 (some .boolean) 1 := ⟨jmem_1 1 (by decide +kernel) rfl, jmem_2 237 (by rfl) rfl, ⟨jne_Main.1, jne_Main.2, by decide +kernel⟩, by decide, plainFor_of_name jpn_Main⟩
theorem ji_Main_isOwnTranspose : Cond.instanceMethod jy_Main_isOwnTranspose ∈ jtbl := jmem_2 236 (by decide +kernel) rfl
theorem js_Main_isOwnTranspose : Cond.selects jy_Main_isOwnTranspose.cls jy_Main_isOwnTranspose jy_Main_isOwnTranspose ∈ jtbl := jmem_0 4 (by decide +kernel) rfl
abbrev jc_Main_heldTables : ByteArray := prog_1_method_53_code
abbrev jy_Main_heldTables : MethodName := ⟨"YesNoPowers", "heldTables", "()I"⟩
set_option maxRecDepth 100000 in
theorem jm_Main_heldTables : jMi jy_Main_heldTables jc_Main_heldTables 3 (some .int) 0 := ⟨jmem_1 1 (by decide +kernel) rfl, jmem_4 82 (by rfl) rfl, ⟨jne_Main.1, jne_Main.2, by decide +kernel⟩, by decide, plainFor_of_name jpn_Main⟩
theorem ji_Main_heldTables : Cond.instanceMethod jy_Main_heldTables ∈ jtbl := jmem_4 81 (by decide +kernel) rfl
theorem js_Main_heldTables : Cond.selects jy_Main_heldTables.cls jy_Main_heldTables jy_Main_heldTables ∈ jtbl := jmem_0 24 (by decide +kernel) rfl
abbrev jc_Main_presentSheets : ByteArray := prog_1_method_54_code
abbrev jy_Main_presentSheets : MethodName := ⟨"YesNoPowers", "presentSheets", "()I"⟩
set_option maxRecDepth 100000 in
theorem jm_Main_presentSheets : jMi jy_Main_presentSheets jc_Main_presentSheets 3 (some .int) 0 := ⟨jmem_1 1 (by decide +kernel) rfl, jmem_4 86 (by rfl) rfl, ⟨jne_Main.1, jne_Main.2, by decide +kernel⟩, by decide, plainFor_of_name jpn_Main⟩
theorem ji_Main_presentSheets : Cond.instanceMethod jy_Main_presentSheets ∈ jtbl := jmem_4 85 (by decide +kernel) rfl
theorem js_Main_presentSheets : Cond.selects jy_Main_presentSheets.cls jy_Main_presentSheets jy_Main_presentSheets ∈ jtbl := jmem_0 25 (by decide +kernel) rfl
abbrev jc_Model_in : ByteArray := prog_12_method_2_code
abbrev jy_Model_in : MethodName := ⟨"YesNoPowersModel", "in", "(JJJ)Z"⟩
set_option maxRecDepth 100000 in
theorem jm_Model_in : jMi jy_Model_in jc_Model_in 6 (some .boolean) 3 := ⟨jmem_1 10 (by decide +kernel) rfl, jmem_4 185 (by rfl) rfl, ⟨jne_Model.1, jne_Model.2, by decide +kernel⟩, by decide, plainFor_of_name jpn_Model⟩
theorem js_Model_in : Cond.static jy_Model_in ∈ jtbl := jmem_4 184 (by decide +kernel) rfl
abbrev jc_Model_bits : ByteArray := prog_12_method_3_code
abbrev jy_Model_bits : MethodName := ⟨"YesNoPowersModel", "bits", "(I)I"⟩
set_option maxRecDepth 100000 in
theorem jm_Model_bits : jMi jy_Model_bits jc_Model_bits 3 (some .int) 1 := ⟨jmem_1 10 (by decide +kernel) rfl, jmem_5 114 (by rfl) rfl, ⟨jne_Model.1, jne_Model.2, by decide +kernel⟩, by decide, plainFor_of_name jpn_Model⟩
theorem js_Model_bits : Cond.static jy_Model_bits ∈ jtbl := jmem_5 113 (by decide +kernel) rfl
abbrev jc_Model_isSlot : ByteArray := prog_12_method_4_code
abbrev jy_Model_isSlot : MethodName := ⟨"YesNoPowersModel", "isSlot", "(I)Z"⟩
set_option maxRecDepth 100000 in
theorem jm_Model_isSlot : jMi jy_Model_isSlot jc_Model_isSlot 1 (some .boolean) 1 := ⟨jmem_1 10 (by decide +kernel) rfl, jmem_4 181 (by rfl) rfl, ⟨jne_Model.1, jne_Model.2, by decide +kernel⟩, by decide, plainFor_of_name jpn_Model⟩
theorem js_Model_isSlot : Cond.static jy_Model_isSlot ∈ jtbl := jmem_4 180 (by decide +kernel) rfl
abbrev jc_Model_holds : ByteArray := prog_12_method_5_code
abbrev jy_Model_holds : MethodName := ⟨"YesNoPowersModel", "holds", "(I)Z"⟩
set_option maxRecDepth 100000 in
theorem jm_Model_holds : jMi jy_Model_holds jc_Model_holds 2 (some .boolean) 1 := ⟨jmem_1 10 (by decide +kernel) rfl, jmem_4 206 (by rfl) rfl, ⟨jne_Model.1, jne_Model.2, by decide +kernel⟩, by decide, plainFor_of_name jpn_Model⟩
theorem ji_Model_holds : Cond.instanceMethod jy_Model_holds ∈ jtbl := jmem_4 205 (by decide +kernel) rfl
theorem js_Model_holds : Cond.selects jy_Model_holds.cls jy_Model_holds jy_Model_holds ∈ jtbl := jmem_0 30 (by decide +kernel) rfl
abbrev jc_Model_isMember : ByteArray := prog_12_method_6_code
abbrev jy_Model_isMember : MethodName := ⟨"YesNoPowersModel", "isMember", "(II)Z"⟩
set_option maxRecDepth 100000 in
theorem jm_Model_isMember : jMi jy_Model_isMember jc_Model_isMember 3 (some .boolean) 2 := ⟨jmem_1 10 (by decide +kernel) rfl, jmem_4 210 (by rfl) rfl, ⟨jne_Model.1, jne_Model.2, by decide +kernel⟩, by decide, plainFor_of_name jpn_Model⟩
theorem ji_Model_isMember : Cond.instanceMethod jy_Model_isMember ∈ jtbl := jmem_4 209 (by decide +kernel) rfl
theorem js_Model_isMember : Cond.selects jy_Model_isMember.cls jy_Model_isMember jy_Model_isMember ∈ jtbl := jmem_0 31 (by decide +kernel) rfl
abbrev jc_Model_isSet : ByteArray := prog_12_method_7_code
abbrev jy_Model_isSet : MethodName := ⟨"YesNoPowersModel", "isSet", "(II)Z"⟩
set_option maxRecDepth 100000 in
theorem jm_Model_isSet : jMi jy_Model_isSet jc_Model_isSet 3 (some .boolean) 2 := ⟨jmem_1 10 (by decide +kernel) rfl, jmem_4 238 (by rfl) rfl, ⟨jne_Model.1, jne_Model.2, by decide +kernel⟩, by decide, plainFor_of_name jpn_Model⟩
theorem ji_Model_isSet : Cond.instanceMethod jy_Model_isSet ∈ jtbl := jmem_4 237 (by decide +kernel) rfl
theorem js_Model_isSet : Cond.selects jy_Model_isSet.cls jy_Model_isSet jy_Model_isSet ∈ jtbl := jmem_0 35 (by decide +kernel) rfl
abbrev jc_Model_row : ByteArray := prog_12_method_8_code
abbrev jy_Model_row : MethodName := ⟨"YesNoPowersModel", "row", "(II)I"⟩
set_option maxRecDepth 100000 in
theorem jm_Model_row : jMi jy_Model_row jc_Model_row 3 (some .int) 2 := ⟨jmem_1 10 (by decide +kernel) rfl, jmem_4 218 (by rfl) rfl, ⟨jne_Model.1, jne_Model.2, by decide +kernel⟩, by decide, plainFor_of_name jpn_Model⟩
theorem ji_Model_row : Cond.instanceMethod jy_Model_row ∈ jtbl := jmem_4 217 (by decide +kernel) rfl
theorem js_Model_row : Cond.selects jy_Model_row.cls jy_Model_row jy_Model_row ∈ jtbl := jmem_0 33 (by decide +kernel) rfl
abbrev jc_Model_leads : ByteArray := prog_12_method_9_code
abbrev jy_Model_leads : MethodName := ⟨"YesNoPowersModel", "leads", "(III)Z"⟩
set_option maxRecDepth 100000 in
theorem jm_Model_leads : jMi jy_Model_leads jc_Model_leads 4 (some .boolean) 3 := ⟨jmem_1 10 (by decide +kernel) rfl, jmem_4 214 (by rfl) rfl, ⟨jne_Model.1, jne_Model.2, by decide +kernel⟩, by decide, plainFor_of_name jpn_Model⟩
theorem ji_Model_leads : Cond.instanceMethod jy_Model_leads ∈ jtbl := jmem_4 213 (by decide +kernel) rfl
theorem js_Model_leads : Cond.selects jy_Model_leads.cls jy_Model_leads jy_Model_leads ∈ jtbl := jmem_0 32 (by decide +kernel) rfl
abbrev jc_Model_column : ByteArray := prog_12_method_10_code
abbrev jy_Model_column : MethodName := ⟨"YesNoPowersModel", "column", "(II)I"⟩
set_option maxRecDepth 100000 in
theorem jm_Model_column : jMi jy_Model_column jc_Model_column 5 (some .int) 2 := ⟨jmem_1 10 (by decide +kernel) rfl, jmem_4 230 (by rfl) rfl, ⟨jne_Model.1, jne_Model.2, by decide +kernel⟩, by decide, plainFor_of_name jpn_Model⟩
theorem ji_Model_column : Cond.instanceMethod jy_Model_column ∈ jtbl := jmem_4 229 (by decide +kernel) rfl
theorem js_Model_column : Cond.selects jy_Model_column.cls jy_Model_column jy_Model_column ∈ jtbl := jmem_0 34 (by decide +kernel) rfl
abbrev jc_Model_copyTo : ByteArray := prog_12_method_11_code
abbrev jy_Model_copyTo : MethodName := ⟨"YesNoPowersModel", "copyTo", "(II)V"⟩
set_option maxRecDepth 100000 in
theorem jm_Model_copyTo : jMi jy_Model_copyTo jc_Model_copyTo 4 none 2 := ⟨jmem_1 10 (by decide +kernel) rfl, jmem_4 174 (by rfl) rfl, ⟨jne_Model.1, jne_Model.2, by decide +kernel⟩, by decide, plainFor_of_name jpn_Model⟩
theorem ji_Model_copyTo : Cond.instanceMethod jy_Model_copyTo ∈ jtbl := jmem_4 173 (by decide +kernel) rfl
theorem js_Model_copyTo : Cond.selects jy_Model_copyTo.cls jy_Model_copyTo jy_Model_copyTo ∈ jtbl := jmem_0 26 (by decide +kernel) rfl
abbrev jc_Model_areSame : ByteArray := prog_12_method_12_code
abbrev jy_Model_areSame : MethodName := ⟨"YesNoPowersModel", "areSame", "(II)Z"⟩
set_option maxRecDepth 100000 in
theorem jm_Model_areSame : jMi jy_Model_areSame jc_Model_areSame 5 (some .boolean) 2 := ⟨jmem_1 10 (by decide +kernel) rfl, jmem_5 59 (by rfl) rfl, ⟨jne_Model.1, jne_Model.2, by decide +kernel⟩, by decide, plainFor_of_name jpn_Model⟩
theorem ji_Model_areSame : Cond.instanceMethod jy_Model_areSame ∈ jtbl := jmem_5 58 (by decide +kernel) rfl
theorem js_Model_areSame : Cond.selects jy_Model_areSame.cls jy_Model_areSame jy_Model_areSame ∈ jtbl := jmem_0 44 (by decide +kernel) rfl
abbrev jc_Model_empty : ByteArray := prog_12_method_13_code
abbrev jy_Model_empty : MethodName := ⟨"YesNoPowersModel", "empty", "(II)V"⟩
set_option maxRecDepth 100000 in
theorem jm_Model_empty : jMi jy_Model_empty jc_Model_empty 4 none 2 := ⟨jmem_1 10 (by decide +kernel) rfl, jmem_4 190 (by rfl) rfl, ⟨jne_Model.1, jne_Model.2, by decide +kernel⟩, by decide, plainFor_of_name jpn_Model⟩
theorem ji_Model_empty : Cond.instanceMethod jy_Model_empty ∈ jtbl := jmem_4 189 (by decide +kernel) rfl
theorem js_Model_empty : Cond.selects jy_Model_empty.cls jy_Model_empty jy_Model_empty ∈ jtbl := jmem_0 27 (by decide +kernel) rfl
abbrev jc_Model_unit : ByteArray := prog_12_method_14_code
abbrev jy_Model_unit : MethodName := ⟨"YesNoPowersModel", "unit", "(II)V"⟩
set_option maxRecDepth 100000 in
theorem jm_Model_unit : jMi jy_Model_unit jc_Model_unit 4 none 2 := ⟨jmem_1 10 (by decide +kernel) rfl, jmem_5 27 (by rfl) rfl, ⟨jne_Model.1, jne_Model.2, by decide +kernel⟩, by decide, plainFor_of_name jpn_Model⟩
theorem ji_Model_unit : Cond.instanceMethod jy_Model_unit ∈ jtbl := jmem_5 26 (by decide +kernel) rfl
theorem js_Model_unit : Cond.selects jy_Model_unit.cls jy_Model_unit jy_Model_unit ∈ jtbl := jmem_0 39 (by decide +kernel) rfl
abbrev jc_Model_multiply : ByteArray := prog_12_method_15_code
abbrev jy_Model_multiply : MethodName := ⟨"YesNoPowersModel", "multiply", "(III)V"⟩
set_option maxRecDepth 100000 in
theorem jm_Model_multiply : jMi jy_Model_multiply jc_Model_multiply 7 none 3 := ⟨jmem_1 10 (by decide +kernel) rfl, jmem_5 6 (by rfl) rfl, ⟨jne_Model.1, jne_Model.2, by decide +kernel⟩, by decide, plainFor_of_name jpn_Model⟩
theorem ji_Model_multiply : Cond.instanceMethod jy_Model_multiply ∈ jtbl := jmem_5 5 (by decide +kernel) rfl
theorem js_Model_multiply : Cond.selects jy_Model_multiply.cls jy_Model_multiply jy_Model_multiply ∈ jtbl := jmem_0 36 (by decide +kernel) rfl
abbrev jc_Model_transpose : ByteArray := prog_12_method_16_code
abbrev jy_Model_transpose : MethodName := ⟨"YesNoPowersModel", "transpose", "(II)V"⟩
set_option maxRecDepth 100000 in
theorem jm_Model_transpose : jMi jy_Model_transpose jc_Model_transpose 4 none 2 := ⟨jmem_1 10 (by decide +kernel) rfl, jmem_5 35 (by rfl) rfl, ⟨jne_Model.1, jne_Model.2, by decide +kernel⟩, by decide, plainFor_of_name jpn_Model⟩
theorem ji_Model_transpose : Cond.instanceMethod jy_Model_transpose ∈ jtbl := jmem_5 34 (by decide +kernel) rfl
theorem js_Model_transpose : Cond.selects jy_Model_transpose.cls jy_Model_transpose jy_Model_transpose ∈ jtbl := jmem_0 40 (by decide +kernel) rfl
abbrev jc_Model_complement : ByteArray := prog_12_method_17_code
abbrev jy_Model_complement : MethodName := ⟨"YesNoPowersModel", "complement", "(I)V"⟩
set_option maxRecDepth 100000 in
theorem jm_Model_complement : jMi jy_Model_complement jc_Model_complement 3 none 1 := ⟨jmem_1 10 (by decide +kernel) rfl, jmem_5 39 (by rfl) rfl, ⟨jne_Model.1, jne_Model.2, by decide +kernel⟩, by decide, plainFor_of_name jpn_Model⟩
theorem ji_Model_complement : Cond.instanceMethod jy_Model_complement ∈ jtbl := jmem_5 38 (by decide +kernel) rfl
theorem js_Model_complement : Cond.selects jy_Model_complement.cls jy_Model_complement jy_Model_complement ∈ jtbl := jmem_0 41 (by decide +kernel) rfl
abbrev jc_Model_addTo : ByteArray := prog_12_method_18_code
abbrev jy_Model_addTo : MethodName := ⟨"YesNoPowersModel", "addTo", "(II)V"⟩
set_option maxRecDepth 100000 in
theorem jm_Model_addTo : jMi jy_Model_addTo jc_Model_addTo 4 none 2 := ⟨jmem_1 10 (by decide +kernel) rfl, jmem_5 14 (by rfl) rfl, ⟨jne_Model.1, jne_Model.2, by decide +kernel⟩, by decide, plainFor_of_name jpn_Model⟩
theorem ji_Model_addTo : Cond.instanceMethod jy_Model_addTo ∈ jtbl := jmem_5 13 (by decide +kernel) rfl
theorem js_Model_addTo : Cond.selects jy_Model_addTo.cls jy_Model_addTo jy_Model_addTo ∈ jtbl := jmem_0 37 (by decide +kernel) rfl
abbrev jc_Model_meetWith : ByteArray := prog_12_method_19_code
abbrev jy_Model_meetWith : MethodName := ⟨"YesNoPowersModel", "meetWith", "(II)V"⟩
set_option maxRecDepth 100000 in
theorem jm_Model_meetWith : jMi jy_Model_meetWith jc_Model_meetWith 4 none 2 := ⟨jmem_1 10 (by decide +kernel) rfl, jmem_6 32 (by rfl) rfl, ⟨jne_Model.1, jne_Model.2, by decide +kernel⟩, by decide, plainFor_of_name jpn_Model⟩
theorem ji_Model_meetWith : Cond.instanceMethod jy_Model_meetWith ∈ jtbl := jmem_6 31 (by decide +kernel) rfl
theorem js_Model_meetWith : Cond.selects jy_Model_meetWith.cls jy_Model_meetWith jy_Model_meetWith ∈ jtbl := jmem_0 74 (by decide +kernel) rfl
abbrev jc_Model_powerTo : ByteArray := prog_12_method_20_code
abbrev jy_Model_powerTo : MethodName := ⟨"YesNoPowersModel", "powerTo", "(III)V"⟩
set_option maxRecDepth 100000 in
theorem jm_Model_powerTo : jMi jy_Model_powerTo jc_Model_powerTo 5 none 3 := ⟨jmem_1 10 (by decide +kernel) rfl, jmem_5 23 (by rfl) rfl, ⟨jne_Model.1, jne_Model.2, by decide +kernel⟩, by decide, plainFor_of_name jpn_Model⟩
theorem ji_Model_powerTo : Cond.instanceMethod jy_Model_powerTo ∈ jtbl := jmem_5 22 (by decide +kernel) rfl
theorem js_Model_powerTo : Cond.selects jy_Model_powerTo.cls jy_Model_powerTo jy_Model_powerTo ∈ jtbl := jmem_0 38 (by decide +kernel) rfl
abbrev jc_Model_closureTo : ByteArray := prog_12_method_21_code
abbrev jy_Model_closureTo : MethodName := ⟨"YesNoPowersModel", "closureTo", "(II)V"⟩
set_option maxRecDepth 100000 in
theorem jm_Model_closureTo : jMi jy_Model_closureTo jc_Model_closureTo 4 none 2 := ⟨jmem_1 10 (by decide +kernel) rfl, jmem_5 43 (by rfl) rfl, ⟨jne_Model.1, jne_Model.2, by decide +kernel⟩, by decide, plainFor_of_name jpn_Model⟩
theorem ji_Model_closureTo : Cond.instanceMethod jy_Model_closureTo ∈ jtbl := jmem_5 42 (by decide +kernel) rfl
theorem js_Model_closureTo : Cond.selects jy_Model_closureTo.cls jy_Model_closureTo jy_Model_closureTo ∈ jtbl := jmem_0 42 (by decide +kernel) rfl
abbrev jc_Model_greatestTo : ByteArray := prog_12_method_22_code
abbrev jy_Model_greatestTo : MethodName := ⟨"YesNoPowersModel", "greatestTo", "(II)V"⟩
set_option maxRecDepth 100000 in
theorem jm_Model_greatestTo : jMi jy_Model_greatestTo jc_Model_greatestTo 3 none 2 := ⟨jmem_1 10 (by decide +kernel) rfl, jmem_5 47 (by rfl) rfl, ⟨jne_Model.1, jne_Model.2, by decide +kernel⟩, by decide, plainFor_of_name jpn_Model⟩
theorem ji_Model_greatestTo : Cond.instanceMethod jy_Model_greatestTo ∈ jtbl := jmem_5 46 (by decide +kernel) rfl
theorem js_Model_greatestTo : Cond.selects jy_Model_greatestTo.cls jy_Model_greatestTo jy_Model_greatestTo ∈ jtbl := jmem_0 43 (by decide +kernel) rfl
abbrev jc_Model_logs : ByteArray := prog_12_method_23_code
abbrev jy_Model_logs : MethodName := ⟨"YesNoPowersModel", "logs", "(I)V"⟩
set_option maxRecDepth 100000 in
theorem jm_Model_logs : jMi jy_Model_logs jc_Model_logs 3 none 1 := ⟨jmem_1 10 (by decide +kernel) rfl, jmem_4 198 (by rfl) rfl, ⟨jne_Model.1, jne_Model.2, by decide +kernel⟩, by decide, plainFor_of_name jpn_Model⟩
theorem ji_Model_logs : Cond.instanceMethod jy_Model_logs ∈ jtbl := jmem_4 197 (by decide +kernel) rfl
theorem js_Model_logs : Cond.selects jy_Model_logs.cls jy_Model_logs jy_Model_logs ∈ jtbl := jmem_0 29 (by decide +kernel) rfl
abbrev jc_Model_comes : ByteArray := prog_12_method_24_code
abbrev jy_Model_comes : MethodName := ⟨"YesNoPowersModel", "comes", "(I)I"⟩
set_option maxRecDepth 100000 in
theorem jm_Model_comes : jMi jy_Model_comes jc_Model_comes 2 (some .int) 1 := ⟨jmem_1 10 (by decide +kernel) rfl, jmem_4 194 (by rfl) rfl, ⟨jne_Model.1, jne_Model.2, by decide +kernel⟩, by decide, plainFor_of_name jpn_Model⟩
theorem ji_Model_comes : Cond.instanceMethod jy_Model_comes ∈ jtbl := jmem_4 193 (by decide +kernel) rfl
theorem js_Model_comes : Cond.selects jy_Model_comes.cls jy_Model_comes jy_Model_comes ∈ jtbl := jmem_0 28 (by decide +kernel) rfl
abbrev jc_Model_undo : ByteArray := prog_12_method_25_code
abbrev jy_Model_undo : MethodName := ⟨"YesNoPowersModel", "undo", "()I"⟩
set_option maxRecDepth 100000 in
theorem jm_Model_undo : jMi jy_Model_undo jc_Model_undo 1 (some .int) 0 := ⟨jmem_1 10 (by decide +kernel) rfl, jmem_4 170 (by rfl) rfl, ⟨jne_Model.1, jne_Model.2, by decide +kernel⟩, by decide, plainFor_of_name jpn_Model⟩
theorem ji_Model_undo : Cond.instanceMethod jy_Model_undo ∈ jtbl := jmem_4 168 (by decide +kernel) rfl
theorem js_Model_undo : Cond.selects jy_Model_undo.cls jy_Model_undo jy_Model_undo ∈ jtbl := jmem_4 169 (by decide +kernel) rfl
abbrev jc_Model_make : ByteArray := prog_12_method_26_code
abbrev jy_Model_make : MethodName := ⟨"YesNoPowersModel", "make", "(III)I"⟩
set_option maxRecDepth 100000 in
theorem jm_Model_make : jMi jy_Model_make jc_Model_make 6 (some .int) 3 := ⟨jmem_1 10 (by decide +kernel) rfl, jmem_4 178 (by rfl) rfl, ⟨jne_Model.1, jne_Model.2, by decide +kernel⟩, by decide, plainFor_of_name jpn_Model⟩
theorem ji_Model_make : Cond.instanceMethod jy_Model_make ∈ jtbl := jmem_4 176 (by decide +kernel) rfl
theorem js_Model_make : Cond.selects jy_Model_make.cls jy_Model_make jy_Model_make ∈ jtbl := jmem_4 177 (by decide +kernel) rfl
abbrev jc_Model_put : ByteArray := prog_12_method_27_code
abbrev jy_Model_put : MethodName := ⟨"YesNoPowersModel", "put", "(IIII)I"⟩
set_option maxRecDepth 100000 in
theorem jm_Model_put : jMi jy_Model_put jc_Model_put 6 (some .int) 4 := ⟨jmem_1 10 (by decide +kernel) rfl, jmem_4 202 (by rfl) rfl, ⟨jne_Model.1, jne_Model.2, by decide +kernel⟩, by decide, plainFor_of_name jpn_Model⟩
theorem ji_Model_put : Cond.instanceMethod jy_Model_put ∈ jtbl := jmem_4 200 (by decide +kernel) rfl
theorem js_Model_put : Cond.selects jy_Model_put.cls jy_Model_put jy_Model_put ∈ jtbl := jmem_4 201 (by decide +kernel) rfl
abbrev jc_Model_at : ByteArray := prog_12_method_28_code
abbrev jy_Model_at : MethodName := ⟨"YesNoPowersModel", "at", "(III)I"⟩
set_option maxRecDepth 100000 in
theorem jm_Model_at : jMi jy_Model_at jc_Model_at 4 (some .int) 3 := ⟨jmem_1 10 (by decide +kernel) rfl, jmem_4 222 (by rfl) rfl, ⟨jne_Model.1, jne_Model.2, by decide +kernel⟩, by decide, plainFor_of_name jpn_Model⟩
theorem ji_Model_at : Cond.instanceMethod jy_Model_at ∈ jtbl := jmem_4 220 (by decide +kernel) rfl
theorem js_Model_at : Cond.selects jy_Model_at.cls jy_Model_at jy_Model_at ∈ jtbl := jmem_4 221 (by decide +kernel) rfl
abbrev jc_Model_line : ByteArray := prog_12_method_29_code
abbrev jy_Model_line : MethodName := ⟨"YesNoPowersModel", "line", "(III)I"⟩
set_option maxRecDepth 100000 in
theorem jm_Model_line : jMi jy_Model_line jc_Model_line 4 (some .int) 3 := ⟨jmem_1 10 (by decide +kernel) rfl, jmem_4 226 (by rfl) rfl, ⟨jne_Model.1, jne_Model.2, by decide +kernel⟩, by decide, plainFor_of_name jpn_Model⟩
theorem ji_Model_line : Cond.instanceMethod jy_Model_line ∈ jtbl := jmem_4 224 (by decide +kernel) rfl
theorem js_Model_line : Cond.selects jy_Model_line.cls jy_Model_line jy_Model_line ∈ jtbl := jmem_4 225 (by decide +kernel) rfl
abbrev jc_Model_setRow : ByteArray := prog_12_method_30_code
abbrev jy_Model_setRow : MethodName := ⟨"YesNoPowersModel", "setRow", "(III)I"⟩
set_option maxRecDepth 100000 in
theorem jm_Model_setRow : jMi jy_Model_setRow jc_Model_setRow 5 (some .int) 3 := ⟨jmem_1 10 (by decide +kernel) rfl, jmem_4 234 (by rfl) rfl, ⟨jne_Model.1, jne_Model.2, by decide +kernel⟩, by decide, plainFor_of_name jpn_Model⟩
theorem ji_Model_setRow : Cond.instanceMethod jy_Model_setRow ∈ jtbl := jmem_4 232 (by decide +kernel) rfl
theorem js_Model_setRow : Cond.selects jy_Model_setRow.cls jy_Model_setRow jy_Model_setRow ∈ jtbl := jmem_4 233 (by decide +kernel) rfl
abbrev jc_Model_times : ByteArray := prog_12_method_31_code
abbrev jy_Model_times : MethodName := ⟨"YesNoPowersModel", "times", "(III)I"⟩
set_option maxRecDepth 100000 in
theorem jm_Model_times : jMi jy_Model_times jc_Model_times 4 (some .int) 3 := ⟨jmem_1 10 (by decide +kernel) rfl, jmem_5 2 (by rfl) rfl, ⟨jne_Model.1, jne_Model.2, by decide +kernel⟩, by decide, plainFor_of_name jpn_Model⟩
theorem ji_Model_times : Cond.instanceMethod jy_Model_times ∈ jtbl := jmem_5 0 (by decide +kernel) rfl
theorem js_Model_times : Cond.selects jy_Model_times.cls jy_Model_times jy_Model_times ∈ jtbl := jmem_5 1 (by decide +kernel) rfl
abbrev jc_Model_plus : ByteArray := prog_12_method_32_code
abbrev jy_Model_plus : MethodName := ⟨"YesNoPowersModel", "plus", "(III)I"⟩
set_option maxRecDepth 100000 in
theorem jm_Model_plus : jMi jy_Model_plus jc_Model_plus 4 (some .int) 3 := ⟨jmem_1 10 (by decide +kernel) rfl, jmem_5 10 (by rfl) rfl, ⟨jne_Model.1, jne_Model.2, by decide +kernel⟩, by decide, plainFor_of_name jpn_Model⟩
theorem ji_Model_plus : Cond.instanceMethod jy_Model_plus ∈ jtbl := jmem_5 8 (by decide +kernel) rfl
theorem js_Model_plus : Cond.selects jy_Model_plus.cls jy_Model_plus jy_Model_plus ∈ jtbl := jmem_5 9 (by decide +kernel) rfl
abbrev jc_Model_power : ByteArray := prog_12_method_33_code
abbrev jy_Model_power : MethodName := ⟨"YesNoPowersModel", "power", "(III)I"⟩
set_option maxRecDepth 100000 in
theorem jm_Model_power : jMi jy_Model_power jc_Model_power 4 (some .int) 3 := ⟨jmem_1 10 (by decide +kernel) rfl, jmem_5 18 (by rfl) rfl, ⟨jne_Model.1, jne_Model.2, by decide +kernel⟩, by decide, plainFor_of_name jpn_Model⟩
theorem ji_Model_power : Cond.instanceMethod jy_Model_power ∈ jtbl := jmem_5 16 (by decide +kernel) rfl
theorem js_Model_power : Cond.selects jy_Model_power.cls jy_Model_power jy_Model_power ∈ jtbl := jmem_5 17 (by decide +kernel) rfl
abbrev jc_Model_derive : ByteArray := prog_12_method_34_code
abbrev jy_Model_derive : MethodName := ⟨"YesNoPowersModel", "derive", "(III)I"⟩
set_option maxRecDepth 100000 in
theorem jm_Model_derive : jMi jy_Model_derive jc_Model_derive 4 (some .int) 3 := ⟨jmem_1 10 (by decide +kernel) rfl, jmem_5 31 (by rfl) rfl, ⟨jne_Model.1, jne_Model.2, by decide +kernel⟩, by decide, plainFor_of_name jpn_Model⟩
theorem ji_Model_derive : Cond.instanceMethod jy_Model_derive ∈ jtbl := jmem_5 29 (by decide +kernel) rfl
theorem js_Model_derive : Cond.selects jy_Model_derive.cls jy_Model_derive jy_Model_derive ∈ jtbl := jmem_5 30 (by decide +kernel) rfl
abbrev jc_Model_clear : ByteArray := prog_12_method_35_code
abbrev jy_Model_clear : MethodName := ⟨"YesNoPowersModel", "clear", "(I)I"⟩
set_option maxRecDepth 100000 in
theorem jm_Model_clear : jMi jy_Model_clear jc_Model_clear 3 (some .int) 1 := ⟨jmem_1 10 (by decide +kernel) rfl, jmem_5 51 (by rfl) rfl, ⟨jne_Model.1, jne_Model.2, by decide +kernel⟩, by decide, plainFor_of_name jpn_Model⟩
theorem ji_Model_clear : Cond.instanceMethod jy_Model_clear ∈ jtbl := jmem_5 49 (by decide +kernel) rfl
theorem js_Model_clear : Cond.selects jy_Model_clear.cls jy_Model_clear jy_Model_clear ∈ jtbl := jmem_5 50 (by decide +kernel) rfl
abbrev jc_Model_same : ByteArray := prog_12_method_36_code
abbrev jy_Model_same : MethodName := ⟨"YesNoPowersModel", "same", "(II)I"⟩
set_option maxRecDepth 100000 in
theorem jm_Model_same : jMi jy_Model_same jc_Model_same 3 (some .int) 2 := ⟨jmem_1 10 (by decide +kernel) rfl, jmem_5 55 (by rfl) rfl, ⟨jne_Model.1, jne_Model.2, by decide +kernel⟩, by decide, plainFor_of_name jpn_Model⟩
theorem ji_Model_same : Cond.instanceMethod jy_Model_same ∈ jtbl := jmem_5 53 (by decide +kernel) rfl
theorem js_Model_same : Cond.selects jy_Model_same.cls jy_Model_same jy_Model_same ∈ jtbl := jmem_5 54 (by decide +kernel) rfl
abbrev jc_Model_load : ByteArray := prog_12_method_37_code
abbrev jy_Model_load : MethodName := ⟨"YesNoPowersModel", "load", "(IIII)I"⟩
set_option maxRecDepth 100000 in
theorem jm_Model_load : jMi jy_Model_load jc_Model_load 7 (some .int) 4 := ⟨jmem_1 10 (by decide +kernel) rfl, jmem_5 63 (by rfl) rfl, ⟨jne_Model.1, jne_Model.2, by decide +kernel⟩, by decide, plainFor_of_name jpn_Model⟩
theorem ji_Model_load : Cond.instanceMethod jy_Model_load ∈ jtbl := jmem_5 61 (by decide +kernel) rfl
theorem js_Model_load : Cond.selects jy_Model_load.cls jy_Model_load jy_Model_load ∈ jtbl := jmem_5 62 (by decide +kernel) rfl
abbrev jc_Model_spill : ByteArray := prog_12_method_38_code
abbrev jy_Model_spill : MethodName := ⟨"YesNoPowersModel", "spill", "(III)I"⟩
set_option maxRecDepth 100000 in
theorem jm_Model_spill : jMi jy_Model_spill jc_Model_spill 5 (some .int) 3 := ⟨jmem_1 10 (by decide +kernel) rfl, jmem_5 70 (by rfl) rfl, ⟨jne_Model.1, jne_Model.2, by decide +kernel⟩, by decide, plainFor_of_name jpn_Model⟩
theorem ji_Model_spill : Cond.instanceMethod jy_Model_spill ∈ jtbl := jmem_5 68 (by decide +kernel) rfl
theorem js_Model_spill : Cond.selects jy_Model_spill.cls jy_Model_spill jy_Model_spill ∈ jtbl := jmem_5 69 (by decide +kernel) rfl
abbrev jc_Model_isPower : ByteArray := prog_12_method_39_code
abbrev jy_Model_isPower : MethodName := ⟨"YesNoPowersModel", "isPower", "(II)Z"⟩
set_option maxRecDepth 100000 in
theorem jm_Model_isPower : jMi jy_Model_isPower jc_Model_isPower 5 (some .boolean) 2 := ⟨jmem_1 10 (by decide +kernel) rfl, jmem_5 87 (by rfl) rfl, ⟨jne_Model.1, jne_Model.2, by decide +kernel⟩, by decide, plainFor_of_name jpn_Model⟩
theorem ji_Model_isPower : Cond.instanceMethod jy_Model_isPower ∈ jtbl := jmem_5 86 (by decide +kernel) rfl
theorem js_Model_isPower : Cond.selects jy_Model_isPower.cls jy_Model_isPower jy_Model_isPower ∈ jtbl := jmem_0 47 (by decide +kernel) rfl
abbrev jc_Model_layPowers : ByteArray := prog_12_method_40_code
abbrev jy_Model_layPowers : MethodName := ⟨"YesNoPowersModel", "layPowers", "(I)V"⟩
set_option maxRecDepth 100000 in
theorem jm_Model_layPowers : jMi jy_Model_layPowers jc_Model_layPowers 4 none 1 := ⟨jmem_1 10 (by decide +kernel) rfl, jmem_5 83 (by rfl) rfl, ⟨jne_Model.1, jne_Model.2, by decide +kernel⟩, by decide, plainFor_of_name jpn_Model⟩
theorem ji_Model_layPowers : Cond.instanceMethod jy_Model_layPowers ∈ jtbl := jmem_5 82 (by decide +kernel) rfl
theorem js_Model_layPowers : Cond.selects jy_Model_layPowers.cls jy_Model_layPowers jy_Model_layPowers ∈ jtbl := jmem_0 46 (by decide +kernel) rfl
abbrev jc_Model_spot : ByteArray := prog_12_method_41_code
abbrev jy_Model_spot : MethodName := ⟨"YesNoPowersModel", "spot", "(I)I"⟩
set_option maxRecDepth 100000 in
theorem jm_Model_spot : jMi jy_Model_spot jc_Model_spot 2 (some .int) 1 := ⟨jmem_1 10 (by decide +kernel) rfl, jmem_5 95 (by rfl) rfl, ⟨jne_Model.1, jne_Model.2, by decide +kernel⟩, by decide, plainFor_of_name jpn_Model⟩
theorem ji_Model_spot : Cond.instanceMethod jy_Model_spot ∈ jtbl := jmem_5 94 (by decide +kernel) rfl
theorem js_Model_spot : Cond.selects jy_Model_spot.cls jy_Model_spot jy_Model_spot ∈ jtbl := jmem_0 49 (by decide +kernel) rfl
abbrev jc_Model_idempotent : ByteArray := prog_12_method_42_code
abbrev jy_Model_idempotent : MethodName := ⟨"YesNoPowersModel", "idempotent", "()I"⟩
set_option maxRecDepth 100000 in
theorem jm_Model_idempotent : jMi jy_Model_idempotent jc_Model_idempotent 2 (some .int) 0 := ⟨jmem_1 10 (by decide +kernel) rfl, jmem_5 91 (by rfl) rfl, ⟨jne_Model.1, jne_Model.2, by decide +kernel⟩, by decide, plainFor_of_name jpn_Model⟩
theorem ji_Model_idempotent : Cond.instanceMethod jy_Model_idempotent ∈ jtbl := jmem_5 90 (by decide +kernel) rfl
theorem js_Model_idempotent : Cond.selects jy_Model_idempotent.cls jy_Model_idempotent jy_Model_idempotent ∈ jtbl := jmem_0 48 (by decide +kernel) rfl
abbrev jc_Model_exponent : ByteArray := prog_12_method_43_code
abbrev jy_Model_exponent : MethodName := ⟨"YesNoPowersModel", "exponent", "(I)I"⟩
set_option maxRecDepth 100000 in
theorem jm_Model_exponent : jMi jy_Model_exponent jc_Model_exponent 5 (some .int) 1 := ⟨jmem_1 10 (by decide +kernel) rfl, jmem_5 99 (by rfl) rfl, ⟨jne_Model.1, jne_Model.2, by decide +kernel⟩, by decide, plainFor_of_name jpn_Model⟩
theorem ji_Model_exponent : Cond.instanceMethod jy_Model_exponent ∈ jtbl := jmem_5 98 (by decide +kernel) rfl
theorem js_Model_exponent : Cond.selects jy_Model_exponent.cls jy_Model_exponent jy_Model_exponent ∈ jtbl := jmem_0 50 (by decide +kernel) rfl
abbrev jc_Model_onesIn : ByteArray := prog_12_method_44_code
abbrev jy_Model_onesIn : MethodName := ⟨"YesNoPowersModel", "onesIn", "(I)I"⟩
set_option maxRecDepth 100000 in
theorem jm_Model_onesIn : jMi jy_Model_onesIn jc_Model_onesIn 4 (some .int) 1 := ⟨jmem_1 10 (by decide +kernel) rfl, jmem_5 111 (by rfl) rfl, ⟨jne_Model.1, jne_Model.2, by decide +kernel⟩, by decide, plainFor_of_name jpn_Model⟩
theorem ji_Model_onesIn : Cond.instanceMethod jy_Model_onesIn ∈ jtbl := jmem_5 110 (by decide +kernel) rfl
theorem js_Model_onesIn : Cond.selects jy_Model_onesIn.cls jy_Model_onesIn jy_Model_onesIn ∈ jtbl := jmem_0 53 (by decide +kernel) rfl
abbrev jc_Model_isOwnSquare : ByteArray := prog_12_method_45_code
abbrev jy_Model_isOwnSquare : MethodName := ⟨"YesNoPowersModel", "isOwnSquare", "(I)Z"⟩
set_option maxRecDepth 100000 in
theorem jm_Model_isOwnSquare : jMi jy_Model_isOwnSquare jc_Model_isOwnSquare 2 (some .boolean) 1 := ⟨jmem_1 10 (by decide +kernel) rfl, jmem_5 103 (by rfl) rfl, ⟨jne_Model.1, jne_Model.2, by decide +kernel⟩, by decide, plainFor_of_name jpn_Model⟩
theorem ji_Model_isOwnSquare : Cond.instanceMethod jy_Model_isOwnSquare ∈ jtbl := jmem_5 102 (by decide +kernel) rfl
theorem js_Model_isOwnSquare : Cond.selects jy_Model_isOwnSquare.cls jy_Model_isOwnSquare jy_Model_isOwnSquare ∈ jtbl := jmem_0 51 (by decide +kernel) rfl
abbrev jc_Model_isTurned : ByteArray := prog_12_method_46_code
abbrev jy_Model_isTurned : MethodName := ⟨"YesNoPowersModel", "isTurned", "(I)Z"⟩
set_option maxRecDepth 100000 in
theorem jm_Model_isTurned : jMi jy_Model_isTurned jc_Model_isTurned 2 (some .boolean) 1 := ⟨jmem_1 10 (by decide +kernel) rfl, jmem_5 107 (by rfl) rfl, ⟨jne_Model.1, jne_Model.2, by decide +kernel⟩, by decide, plainFor_of_name jpn_Model⟩
theorem ji_Model_isTurned : Cond.instanceMethod jy_Model_isTurned ∈ jtbl := jmem_5 106 (by decide +kernel) rfl
theorem js_Model_isTurned : Cond.selects jy_Model_isTurned.cls jy_Model_isTurned jy_Model_isTurned ∈ jtbl := jmem_0 52 (by decide +kernel) rfl
abbrev jc_Model_told : ByteArray := prog_12_method_47_code
abbrev jy_Model_told : MethodName := ⟨"YesNoPowersModel", "told", "(II)I"⟩
set_option maxRecDepth 100000 in
theorem jm_Model_told : jMi jy_Model_told jc_Model_told 4 (some .int) 2 := ⟨jmem_1 10 (by decide +kernel) rfl, jmem_5 78 (by rfl) rfl, ⟨jne_Model.1, jne_Model.2, by decide +kernel⟩, by decide, plainFor_of_name jpn_Model⟩
theorem ji_Model_told : Cond.instanceMethod jy_Model_told ∈ jtbl := jmem_5 76 (by decide +kernel) rfl
theorem js_Model_told : Cond.selects jy_Model_told.cls jy_Model_told jy_Model_told ∈ jtbl := jmem_5 77 (by decide +kernel) rfl
abbrev jc_Model_reaches : ByteArray := prog_12_method_48_code
abbrev jy_Model_reaches : MethodName := ⟨"YesNoPowersModel", "reaches", "(II)I"⟩
set_option maxRecDepth 100000 in
theorem jm_Model_reaches : jMi jy_Model_reaches jc_Model_reaches 4 (some .int) 2 := ⟨jmem_1 10 (by decide +kernel) rfl, jmem_5 118 (by rfl) rfl, ⟨jne_Model.1, jne_Model.2, by decide +kernel⟩, by decide, plainFor_of_name jpn_Model⟩
theorem ji_Model_reaches : Cond.instanceMethod jy_Model_reaches ∈ jtbl := jmem_5 116 (by decide +kernel) rfl
theorem js_Model_reaches : Cond.selects jy_Model_reaches.cls jy_Model_reaches jy_Model_reaches ∈ jtbl := jmem_5 117 (by decide +kernel) rfl
abbrev jc_Model_layWalks : ByteArray := prog_12_method_49_code
abbrev jy_Model_layWalks : MethodName := ⟨"YesNoPowersModel", "layWalks", "(I)V"⟩
set_option maxRecDepth 100000 in
theorem jm_Model_layWalks : jMi jy_Model_layWalks jc_Model_layWalks 7 none 1 := ⟨jmem_1 10 (by decide +kernel) rfl, jmem_5 126 (by rfl) rfl, ⟨jne_Model.1, jne_Model.2, by decide +kernel⟩, by decide, plainFor_of_name jpn_Model⟩
theorem ji_Model_layWalks : Cond.instanceMethod jy_Model_layWalks ∈ jtbl := jmem_5 125 (by decide +kernel) rfl
theorem js_Model_layWalks : Cond.selects jy_Model_layWalks.cls jy_Model_layWalks jy_Model_layWalks ∈ jtbl := jmem_0 54 (by decide +kernel) rfl
abbrev jc_Model_membersOf : ByteArray := prog_12_method_50_code
abbrev jy_Model_membersOf : MethodName := ⟨"YesNoPowersModel", "membersOf", "(II)I"⟩
set_option maxRecDepth 100000 in
theorem jm_Model_membersOf : jMi jy_Model_membersOf jc_Model_membersOf 5 (some .int) 2 := ⟨jmem_1 10 (by decide +kernel) rfl, jmem_5 146 (by rfl) rfl, ⟨jne_Model.1, jne_Model.2, by decide +kernel⟩, by decide, plainFor_of_name jpn_Model⟩
theorem ji_Model_membersOf : Cond.instanceMethod jy_Model_membersOf ∈ jtbl := jmem_5 145 (by decide +kernel) rfl
theorem js_Model_membersOf : Cond.selects jy_Model_membersOf.cls jy_Model_membersOf jy_Model_membersOf ∈ jtbl := jmem_0 57 (by decide +kernel) rfl
abbrev jc_Model_leastOf : ByteArray := prog_12_method_51_code
abbrev jy_Model_leastOf : MethodName := ⟨"YesNoPowersModel", "leastOf", "(I)I"⟩
set_option maxRecDepth 100000 in
theorem jm_Model_leastOf : jMi jy_Model_leastOf jc_Model_leastOf 3 (some .int) 1 := ⟨jmem_1 10 (by decide +kernel) rfl, jmem_5 142 (by rfl) rfl, ⟨jne_Model.1, jne_Model.2, by decide +kernel⟩, by decide, plainFor_of_name jpn_Model⟩
theorem ji_Model_leastOf : Cond.instanceMethod jy_Model_leastOf ∈ jtbl := jmem_5 141 (by decide +kernel) rfl
theorem js_Model_leastOf : Cond.selects jy_Model_leastOf.cls jy_Model_leastOf jy_Model_leastOf ∈ jtbl := jmem_0 56 (by decide +kernel) rfl
abbrev jc_Model_divisor : ByteArray := prog_12_method_52_code
abbrev jy_Model_divisor : MethodName := ⟨"YesNoPowersModel", "divisor", "(II)I"⟩
set_option maxRecDepth 100000 in
theorem jm_Model_divisor : jMi jy_Model_divisor jc_Model_divisor 5 (some .int) 2 := ⟨jmem_1 10 (by decide +kernel) rfl, jmem_5 153 (by rfl) rfl, ⟨jne_Model.1, jne_Model.2, by decide +kernel⟩, by decide, plainFor_of_name jpn_Model⟩
theorem js_Model_divisor : Cond.static jy_Model_divisor ∈ jtbl := jmem_5 152 (by decide +kernel) rfl
abbrev jc_Model_roundsOf : ByteArray := prog_12_method_53_code
abbrev jy_Model_roundsOf : MethodName := ⟨"YesNoPowersModel", "roundsOf", "(IIZ)I"⟩
set_option maxRecDepth 100000 in
theorem jm_Model_roundsOf : jMi jy_Model_roundsOf jc_Model_roundsOf 9 (some .int) 3 := ⟨jmem_1 10 (by decide +kernel) rfl, jmem_5 150 (by rfl) rfl, ⟨jne_Model.1, jne_Model.2, by decide +kernel⟩, by decide, plainFor_of_name jpn_Model⟩
theorem ji_Model_roundsOf : Cond.instanceMethod jy_Model_roundsOf ∈ jtbl := jmem_5 149 (by decide +kernel) rfl
theorem js_Model_roundsOf : Cond.selects jy_Model_roundsOf.cls jy_Model_roundsOf jy_Model_roundsOf ∈ jtbl := jmem_0 58 (by decide +kernel) rfl
abbrev jc_Model_belowOf : ByteArray := prog_12_method_54_code
abbrev jy_Model_belowOf : MethodName := ⟨"YesNoPowersModel", "belowOf", "(II)I"⟩
set_option maxRecDepth 100000 in
theorem jm_Model_belowOf : jMi jy_Model_belowOf jc_Model_belowOf 6 (some .int) 2 := ⟨jmem_1 10 (by decide +kernel) rfl, jmem_5 161 (by rfl) rfl, ⟨jne_Model.1, jne_Model.2, by decide +kernel⟩, by decide, plainFor_of_name jpn_Model⟩
theorem ji_Model_belowOf : Cond.instanceMethod jy_Model_belowOf ∈ jtbl := jmem_5 160 (by decide +kernel) rfl
theorem js_Model_belowOf : Cond.selects jy_Model_belowOf.cls jy_Model_belowOf jy_Model_belowOf ∈ jtbl := jmem_0 60 (by decide +kernel) rfl
abbrev jc_Model_levelOf : ByteArray := prog_12_method_55_code
abbrev jy_Model_levelOf : MethodName := ⟨"YesNoPowersModel", "levelOf", "(II)I"⟩
set_option maxRecDepth 100000 in
theorem jm_Model_levelOf : jMi jy_Model_levelOf jc_Model_levelOf 8 (some .int) 2 := ⟨jmem_1 10 (by decide +kernel) rfl, jmem_5 157 (by rfl) rfl, ⟨jne_Model.1, jne_Model.2, by decide +kernel⟩, by decide, plainFor_of_name jpn_Model⟩
theorem ji_Model_levelOf : Cond.instanceMethod jy_Model_levelOf ∈ jtbl := jmem_5 156 (by decide +kernel) rfl
theorem js_Model_levelOf : Cond.selects jy_Model_levelOf.cls jy_Model_levelOf jy_Model_levelOf ∈ jtbl := jmem_0 59 (by decide +kernel) rfl
abbrev jc_Model_classes : ByteArray := prog_12_method_56_code
abbrev jy_Model_classes : MethodName := ⟨"YesNoPowersModel", "classes", "(I)I"⟩
set_option maxRecDepth 100000 in
theorem jm_Model_classes : jMi jy_Model_classes jc_Model_classes 2 (some .int) 1 := ⟨jmem_1 10 (by decide +kernel) rfl, jmem_5 122 (by rfl) rfl, ⟨jne_Model.1, jne_Model.2, by decide +kernel⟩, by decide, plainFor_of_name jpn_Model⟩
theorem ji_Model_classes : Cond.instanceMethod jy_Model_classes ∈ jtbl := jmem_5 120 (by decide +kernel) rfl
theorem js_Model_classes : Cond.selects jy_Model_classes.cls jy_Model_classes jy_Model_classes ∈ jtbl := jmem_5 121 (by decide +kernel) rfl
abbrev jc_Model_classOf : ByteArray := prog_12_method_57_code
abbrev jy_Model_classOf : MethodName := ⟨"YesNoPowersModel", "classOf", "(II)I"⟩
set_option maxRecDepth 100000 in
theorem jm_Model_classOf : jMi jy_Model_classOf jc_Model_classOf 3 (some .int) 2 := ⟨jmem_1 10 (by decide +kernel) rfl, jmem_5 130 (by rfl) rfl, ⟨jne_Model.1, jne_Model.2, by decide +kernel⟩, by decide, plainFor_of_name jpn_Model⟩
theorem ji_Model_classOf : Cond.instanceMethod jy_Model_classOf ∈ jtbl := jmem_5 128 (by decide +kernel) rfl
theorem js_Model_classOf : Cond.selects jy_Model_classOf.cls jy_Model_classOf jy_Model_classOf ∈ jtbl := jmem_5 129 (by decide +kernel) rfl
abbrev jc_Model_isClass : ByteArray := prog_12_method_58_code
abbrev jy_Model_isClass : MethodName := ⟨"YesNoPowersModel", "isClass", "(II)Z"⟩
set_option maxRecDepth 100000 in
theorem jm_Model_isClass : jMi jy_Model_isClass jc_Model_isClass 3 (some .boolean) 2 := ⟨jmem_1 10 (by decide +kernel) rfl, jmem_5 138 (by rfl) rfl, ⟨jne_Model.1, jne_Model.2, by decide +kernel⟩, by decide, plainFor_of_name jpn_Model⟩
theorem ji_Model_isClass : Cond.instanceMethod jy_Model_isClass ∈ jtbl := jmem_5 137 (by decide +kernel) rfl
theorem js_Model_isClass : Cond.selects jy_Model_isClass.cls jy_Model_isClass jy_Model_isClass ∈ jtbl := jmem_0 55 (by decide +kernel) rfl
abbrev jc_Model_ofClass : ByteArray := prog_12_method_59_code
abbrev jy_Model_ofClass : MethodName := ⟨"YesNoPowersModel", "ofClass", "(III)I"⟩
set_option maxRecDepth 100000 in
theorem jm_Model_ofClass : jMi jy_Model_ofClass jc_Model_ofClass 4 (some .int) 3 := ⟨jmem_1 10 (by decide +kernel) rfl, jmem_5 134 (by rfl) rfl, ⟨jne_Model.1, jne_Model.2, by decide +kernel⟩, by decide, plainFor_of_name jpn_Model⟩
theorem ji_Model_ofClass : Cond.instanceMethod jy_Model_ofClass ∈ jtbl := jmem_5 132 (by decide +kernel) rfl
theorem js_Model_ofClass : Cond.selects jy_Model_ofClass.cls jy_Model_ofClass jy_Model_ofClass ∈ jtbl := jmem_5 133 (by decide +kernel) rfl
abbrev jc_Model_partBy : ByteArray := prog_12_method_60_code
abbrev jy_Model_partBy : MethodName := ⟨"YesNoPowersModel", "partBy", "(II)I"⟩
set_option maxRecDepth 100000 in
theorem jm_Model_partBy : jMi jy_Model_partBy jc_Model_partBy 5 (some .int) 2 := ⟨jmem_1 10 (by decide +kernel) rfl, jmem_5 169 (by rfl) rfl, ⟨jne_Model.1, jne_Model.2, by decide +kernel⟩, by decide, plainFor_of_name jpn_Model⟩
theorem ji_Model_partBy : Cond.instanceMethod jy_Model_partBy ∈ jtbl := jmem_5 168 (by decide +kernel) rfl
theorem js_Model_partBy : Cond.selects jy_Model_partBy.cls jy_Model_partBy jy_Model_partBy ∈ jtbl := jmem_0 61 (by decide +kernel) rfl
abbrev jc_Model_part : ByteArray := prog_12_method_61_code
abbrev jy_Model_part : MethodName := ⟨"YesNoPowersModel", "part", "(II)I"⟩
set_option maxRecDepth 100000 in
theorem jm_Model_part : jMi jy_Model_part jc_Model_part 4 (some .int) 2 := ⟨jmem_1 10 (by decide +kernel) rfl, jmem_5 165 (by rfl) rfl, ⟨jne_Model.1, jne_Model.2, by decide +kernel⟩, by decide, plainFor_of_name jpn_Model⟩
theorem ji_Model_part : Cond.instanceMethod jy_Model_part ∈ jtbl := jmem_5 163 (by decide +kernel) rfl
theorem js_Model_part : Cond.selects jy_Model_part.cls jy_Model_part jy_Model_part ∈ jtbl := jmem_5 164 (by decide +kernel) rfl
abbrev jc_Model_parts : ByteArray := prog_12_method_62_code
abbrev jy_Model_parts : MethodName := ⟨"YesNoPowersModel", "parts", "(III)I"⟩
set_option maxRecDepth 100000 in
theorem jm_Model_parts : jMi jy_Model_parts jc_Model_parts 7 (some .int) 3 := ⟨jmem_1 10 (by decide +kernel) rfl, jmem_5 173 (by rfl) rfl, ⟨jne_Model.1, jne_Model.2, by decide +kernel⟩, by decide, plainFor_of_name jpn_Model⟩
theorem ji_Model_parts : Cond.instanceMethod jy_Model_parts ∈ jtbl := jmem_5 171 (by decide +kernel) rfl
theorem js_Model_parts : Cond.selects jy_Model_parts.cls jy_Model_parts jy_Model_parts ∈ jtbl := jmem_5 172 (by decide +kernel) rfl
abbrev jc_Model_rest : ByteArray := prog_12_method_63_code
abbrev jy_Model_rest : MethodName := ⟨"YesNoPowersModel", "rest", "(III)I"⟩
set_option maxRecDepth 100000 in
theorem jm_Model_rest : jMi jy_Model_rest jc_Model_rest 6 (some .int) 3 := ⟨jmem_1 10 (by decide +kernel) rfl, jmem_5 177 (by rfl) rfl, ⟨jne_Model.1, jne_Model.2, by decide +kernel⟩, by decide, plainFor_of_name jpn_Model⟩
theorem ji_Model_rest : Cond.instanceMethod jy_Model_rest ∈ jtbl := jmem_5 175 (by decide +kernel) rfl
theorem js_Model_rest : Cond.selects jy_Model_rest.cls jy_Model_rest jy_Model_rest ∈ jtbl := jmem_5 176 (by decide +kernel) rfl
abbrev jc_Model_bound : ByteArray := prog_12_method_64_code
abbrev jy_Model_bound : MethodName := ⟨"YesNoPowersModel", "bound", "(II)I"⟩
set_option maxRecDepth 100000 in
theorem jm_Model_bound : jMi jy_Model_bound jc_Model_bound 6 (some .int) 2 := ⟨jmem_1 10 (by decide +kernel) rfl, jmem_5 181 (by rfl) rfl, ⟨jne_Model.1, jne_Model.2, by decide +kernel⟩, by decide, plainFor_of_name jpn_Model⟩
theorem ji_Model_bound : Cond.instanceMethod jy_Model_bound ∈ jtbl := jmem_5 179 (by decide +kernel) rfl
theorem js_Model_bound : Cond.selects jy_Model_bound.cls jy_Model_bound jy_Model_bound ∈ jtbl := jmem_5 180 (by decide +kernel) rfl
abbrev jc_Model_leastGirth : ByteArray := prog_12_method_65_code
abbrev jy_Model_leastGirth : MethodName := ⟨"YesNoPowersModel", "leastGirth", "(I)I"⟩
set_option maxRecDepth 100000 in
theorem jm_Model_leastGirth : jMi jy_Model_leastGirth jc_Model_leastGirth 5 (some .int) 1 := ⟨jmem_1 10 (by decide +kernel) rfl, jmem_5 186 (by rfl) rfl, ⟨jne_Model.1, jne_Model.2, by decide +kernel⟩, by decide, plainFor_of_name jpn_Model⟩
theorem ji_Model_leastGirth : Cond.instanceMethod jy_Model_leastGirth ∈ jtbl := jmem_5 185 (by decide +kernel) rfl
theorem js_Model_leastGirth : Cond.selects jy_Model_leastGirth.cls jy_Model_leastGirth jy_Model_leastGirth ∈ jtbl := jmem_0 62 (by decide +kernel) rfl
abbrev jc_Model_layUnions : ByteArray := prog_12_method_66_code
abbrev jy_Model_layUnions : MethodName := ⟨"YesNoPowersModel", "layUnions", "(I)I"⟩
set_option maxRecDepth 100000 in
theorem jm_Model_layUnions : jMi jy_Model_layUnions jc_Model_layUnions 7 (some .int) 1 := ⟨jmem_1 10 (by decide +kernel) rfl, jmem_5 202 (by rfl) rfl, ⟨jne_Model.1, jne_Model.2, by decide +kernel⟩, by decide, plainFor_of_name jpn_Model⟩
theorem ji_Model_layUnions : Cond.instanceMethod jy_Model_layUnions ∈ jtbl := jmem_5 201 (by decide +kernel) rfl
theorem js_Model_layUnions : Cond.selects jy_Model_layUnions.cls jy_Model_layUnions jy_Model_layUnions ∈ jtbl := jmem_0 65 (by decide +kernel) rfl
abbrev jc_Model_layBasis : ByteArray := prog_12_method_67_code
abbrev jy_Model_layBasis : MethodName := ⟨"YesNoPowersModel", "layBasis", "(I)V"⟩
set_option maxRecDepth 100000 in
theorem jm_Model_layBasis : jMi jy_Model_layBasis jc_Model_layBasis 8 none 1 := ⟨jmem_1 10 (by decide +kernel) rfl, jmem_5 198 (by rfl) rfl, ⟨jne_Model.1, jne_Model.2, by decide +kernel⟩, by decide, plainFor_of_name jpn_Model⟩
theorem ji_Model_layBasis : Cond.instanceMethod jy_Model_layBasis ∈ jtbl := jmem_5 197 (by decide +kernel) rfl
theorem js_Model_layBasis : Cond.selects jy_Model_layBasis.cls jy_Model_layBasis jy_Model_layBasis ∈ jtbl := jmem_0 64 (by decide +kernel) rfl
abbrev jc_Model_isRegular : ByteArray := prog_12_method_68_code
abbrev jy_Model_isRegular : MethodName := ⟨"YesNoPowersModel", "isRegular", "(I)Z"⟩
set_option maxRecDepth 100000 in
theorem jm_Model_isRegular : jMi jy_Model_isRegular jc_Model_isRegular 2 (some .boolean) 1 := ⟨jmem_1 10 (by decide +kernel) rfl, jmem_5 194 (by rfl) rfl, ⟨jne_Model.1, jne_Model.2, by decide +kernel⟩, by decide, plainFor_of_name jpn_Model⟩
theorem ji_Model_isRegular : Cond.instanceMethod jy_Model_isRegular ∈ jtbl := jmem_5 193 (by decide +kernel) rfl
theorem js_Model_isRegular : Cond.selects jy_Model_isRegular.cls jy_Model_isRegular jy_Model_isRegular ∈ jtbl := jmem_0 63 (by decide +kernel) rfl
abbrev jc_Model_space : ByteArray := prog_12_method_69_code
abbrev jy_Model_space : MethodName := ⟨"YesNoPowersModel", "space", "(II)I"⟩
set_option maxRecDepth 100000 in
theorem jm_Model_space : jMi jy_Model_space jc_Model_space 3 (some .int) 2 := ⟨jmem_1 10 (by decide +kernel) rfl, jmem_5 190 (by rfl) rfl, ⟨jne_Model.1, jne_Model.2, by decide +kernel⟩, by decide, plainFor_of_name jpn_Model⟩
theorem ji_Model_space : Cond.instanceMethod jy_Model_space ∈ jtbl := jmem_5 188 (by decide +kernel) rfl
theorem js_Model_space : Cond.selects jy_Model_space.cls jy_Model_space jy_Model_space ∈ jtbl := jmem_5 189 (by decide +kernel) rfl
abbrev jc_Model_basis : ByteArray := prog_12_method_70_code
abbrev jy_Model_basis : MethodName := ⟨"YesNoPowersModel", "basis", "(II)I"⟩
set_option maxRecDepth 100000 in
theorem jm_Model_basis : jMi jy_Model_basis jc_Model_basis 3 (some .int) 2 := ⟨jmem_1 10 (by decide +kernel) rfl, jmem_5 206 (by rfl) rfl, ⟨jne_Model.1, jne_Model.2, by decide +kernel⟩, by decide, plainFor_of_name jpn_Model⟩
theorem ji_Model_basis : Cond.instanceMethod jy_Model_basis ∈ jtbl := jmem_5 204 (by decide +kernel) rfl
theorem js_Model_basis : Cond.selects jy_Model_basis.cls jy_Model_basis jy_Model_basis ∈ jtbl := jmem_5 205 (by decide +kernel) rfl
abbrev jc_Model_spans : ByteArray := prog_12_method_71_code
abbrev jy_Model_spans : MethodName := ⟨"YesNoPowersModel", "spans", "(II)I"⟩
set_option maxRecDepth 100000 in
theorem jm_Model_spans : jMi jy_Model_spans jc_Model_spans 4 (some .int) 2 := ⟨jmem_1 10 (by decide +kernel) rfl, jmem_5 210 (by rfl) rfl, ⟨jne_Model.1, jne_Model.2, by decide +kernel⟩, by decide, plainFor_of_name jpn_Model⟩
theorem ji_Model_spans : Cond.instanceMethod jy_Model_spans ∈ jtbl := jmem_5 208 (by decide +kernel) rfl
theorem js_Model_spans : Cond.selects jy_Model_spans.cls jy_Model_spans jy_Model_spans ∈ jtbl := jmem_5 209 (by decide +kernel) rfl
abbrev jc_Model_isWithin : ByteArray := prog_12_method_72_code
abbrev jy_Model_isWithin : MethodName := ⟨"YesNoPowersModel", "isWithin", "(II)Z"⟩
set_option maxRecDepth 100000 in
theorem jm_Model_isWithin : jMi jy_Model_isWithin jc_Model_isWithin 6 (some .boolean) 2 := ⟨jmem_1 10 (by decide +kernel) rfl, jmem_5 218 (by rfl) rfl, ⟨jne_Model.1, jne_Model.2, by decide +kernel⟩, by decide, plainFor_of_name jpn_Model⟩
theorem ji_Model_isWithin : Cond.instanceMethod jy_Model_isWithin ∈ jtbl := jmem_5 217 (by decide +kernel) rfl
theorem js_Model_isWithin : Cond.selects jy_Model_isWithin.cls jy_Model_isWithin jy_Model_isWithin ∈ jtbl := jmem_0 66 (by decide +kernel) rfl
abbrev jc_Model_alike : ByteArray := prog_12_method_73_code
abbrev jy_Model_alike : MethodName := ⟨"YesNoPowersModel", "alike", "(III)I"⟩
set_option maxRecDepth 100000 in
theorem jm_Model_alike : jMi jy_Model_alike jc_Model_alike 4 (some .int) 3 := ⟨jmem_1 10 (by decide +kernel) rfl, jmem_5 214 (by rfl) rfl, ⟨jne_Model.1, jne_Model.2, by decide +kernel⟩, by decide, plainFor_of_name jpn_Model⟩
theorem ji_Model_alike : Cond.instanceMethod jy_Model_alike ∈ jtbl := jmem_5 212 (by decide +kernel) rfl
theorem js_Model_alike : Cond.selects jy_Model_alike.cls jy_Model_alike jy_Model_alike ∈ jtbl := jmem_5 213 (by decide +kernel) rfl
abbrev jc_Model_layNumber : ByteArray := prog_12_method_74_code
abbrev jy_Model_layNumber : MethodName := ⟨"YesNoPowersModel", "layNumber", "(II)V"⟩
set_option maxRecDepth 100000 in
theorem jm_Model_layNumber : jMi jy_Model_layNumber jc_Model_layNumber 4 none 2 := ⟨jmem_1 10 (by decide +kernel) rfl, jmem_5 235 (by rfl) rfl, ⟨jne_Model.1, jne_Model.2, by decide +kernel⟩, by decide, plainFor_of_name jpn_Model⟩
theorem ji_Model_layNumber : Cond.instanceMethod jy_Model_layNumber ∈ jtbl := jmem_5 234 (by decide +kernel) rfl
theorem js_Model_layNumber : Cond.selects jy_Model_layNumber.cls jy_Model_layNumber jy_Model_layNumber ∈ jtbl := jmem_0 68 (by decide +kernel) rfl
abbrev jc_Model_isRoot : ByteArray := prog_12_method_75_code
abbrev jy_Model_isRoot : MethodName := ⟨"YesNoPowersModel", "isRoot", "(III)Z"⟩
set_option maxRecDepth 100000 in
theorem jm_Model_isRoot : jMi jy_Model_isRoot jc_Model_isRoot 5 (some .boolean) 3 := ⟨jmem_1 10 (by decide +kernel) rfl, jmem_5 231 (by rfl) rfl, ⟨jne_Model.1, jne_Model.2, by decide +kernel⟩, by decide, plainFor_of_name jpn_Model⟩
theorem ji_Model_isRoot : Cond.instanceMethod jy_Model_isRoot ∈ jtbl := jmem_5 230 (by decide +kernel) rfl
theorem js_Model_isRoot : Cond.selects jy_Model_isRoot.cls jy_Model_isRoot jy_Model_isRoot ∈ jtbl := jmem_0 67 (by decide +kernel) rfl
abbrev jc_Model_isDegree : ByteArray := prog_12_method_76_code
abbrev jy_Model_isDegree : MethodName := ⟨"YesNoPowersModel", "isDegree", "(I)Z"⟩
set_option maxRecDepth 100000 in
theorem jm_Model_isDegree : jMi jy_Model_isDegree jc_Model_isDegree 1 (some .boolean) 1 := ⟨jmem_1 10 (by decide +kernel) rfl, jmem_5 225 (by rfl) rfl, ⟨jne_Model.1, jne_Model.2, by decide +kernel⟩, by decide, plainFor_of_name jpn_Model⟩
theorem js_Model_isDegree : Cond.static jy_Model_isDegree ∈ jtbl := jmem_5 224 (by decide +kernel) rfl
abbrev jc_Model_roots : ByteArray := prog_12_method_77_code
abbrev jy_Model_roots : MethodName := ⟨"YesNoPowersModel", "roots", "(II)I"⟩
set_option maxRecDepth 100000 in
theorem jm_Model_roots : jMi jy_Model_roots jc_Model_roots 6 (some .int) 2 := ⟨jmem_1 10 (by decide +kernel) rfl, jmem_5 222 (by rfl) rfl, ⟨jne_Model.1, jne_Model.2, by decide +kernel⟩, by decide, plainFor_of_name jpn_Model⟩
theorem ji_Model_roots : Cond.instanceMethod jy_Model_roots ∈ jtbl := jmem_5 220 (by decide +kernel) rfl
theorem js_Model_roots : Cond.selects jy_Model_roots.cls jy_Model_roots jy_Model_roots ∈ jtbl := jmem_5 221 (by decide +kernel) rfl
abbrev jc_Model_root : ByteArray := prog_12_method_78_code
abbrev jy_Model_root : MethodName := ⟨"YesNoPowersModel", "root", "(III)I"⟩
set_option maxRecDepth 100000 in
theorem jm_Model_root : jMi jy_Model_root jc_Model_root 7 (some .int) 3 := ⟨jmem_1 10 (by decide +kernel) rfl, jmem_5 239 (by rfl) rfl, ⟨jne_Model.1, jne_Model.2, by decide +kernel⟩, by decide, plainFor_of_name jpn_Model⟩
theorem ji_Model_root : Cond.instanceMethod jy_Model_root ∈ jtbl := jmem_5 237 (by decide +kernel) rfl
theorem js_Model_root : Cond.selects jy_Model_root.cls jy_Model_root jy_Model_root ∈ jtbl := jmem_5 238 (by decide +kernel) rfl
abbrev jc_Model_isLink : ByteArray := prog_12_method_79_code
abbrev jy_Model_isLink : MethodName := ⟨"YesNoPowersModel", "isLink", "(II)Z"⟩
set_option maxRecDepth 100000 in
theorem jm_Model_isLink : jMi jy_Model_isLink jc_Model_isLink 3 (some .boolean) 2 := ⟨jmem_1 10 (by decide +kernel) rfl, jmem_6 7 (by rfl) rfl, ⟨jne_Model.1, jne_Model.2, by decide +kernel⟩, by decide, plainFor_of_name jpn_Model⟩
theorem ji_Model_isLink : Cond.instanceMethod jy_Model_isLink ∈ jtbl := jmem_6 6 (by decide +kernel) rfl
theorem js_Model_isLink : Cond.selects jy_Model_isLink.cls jy_Model_isLink jy_Model_isLink ∈ jtbl := jmem_0 69 (by decide +kernel) rfl
abbrev jc_Model_link : ByteArray := prog_12_method_80_code
abbrev jy_Model_link : MethodName := ⟨"YesNoPowersModel", "link", "(II)I"⟩
set_option maxRecDepth 100000 in
theorem jm_Model_link : jMi jy_Model_link jc_Model_link 3 (some .int) 2 := ⟨jmem_1 10 (by decide +kernel) rfl, jmem_6 3 (by rfl) rfl, ⟨jne_Model.1, jne_Model.2, by decide +kernel⟩, by decide, plainFor_of_name jpn_Model⟩
theorem ji_Model_link : Cond.instanceMethod jy_Model_link ∈ jtbl := jmem_6 1 (by decide +kernel) rfl
theorem js_Model_link : Cond.selects jy_Model_link.cls jy_Model_link jy_Model_link ∈ jtbl := jmem_6 2 (by decide +kernel) rfl
abbrev jc_Model_otherOf : ByteArray := prog_12_method_81_code
abbrev jy_Model_otherOf : MethodName := ⟨"YesNoPowersModel", "otherOf", "(I)I"⟩
set_option maxRecDepth 100000 in
theorem jm_Model_otherOf : jMi jy_Model_otherOf jc_Model_otherOf 2 (some .int) 1 := ⟨jmem_1 10 (by decide +kernel) rfl, jmem_6 24 (by rfl) rfl, ⟨jne_Model.1, jne_Model.2, by decide +kernel⟩, by decide, plainFor_of_name jpn_Model⟩
theorem ji_Model_otherOf : Cond.instanceMethod jy_Model_otherOf ∈ jtbl := jmem_6 23 (by decide +kernel) rfl
theorem js_Model_otherOf : Cond.selects jy_Model_otherOf.cls jy_Model_otherOf jy_Model_otherOf ∈ jtbl := jmem_0 72 (by decide +kernel) rfl
abbrev jc_Model_stopsAt : ByteArray := prog_12_method_82_code
abbrev jy_Model_stopsAt : MethodName := ⟨"YesNoPowersModel", "stopsAt", "(I)I"⟩
set_option maxRecDepth 100000 in
theorem jm_Model_stopsAt : jMi jy_Model_stopsAt jc_Model_stopsAt 4 (some .int) 1 := ⟨jmem_1 10 (by decide +kernel) rfl, jmem_6 20 (by rfl) rfl, ⟨jne_Model.1, jne_Model.2, by decide +kernel⟩, by decide, plainFor_of_name jpn_Model⟩
theorem ji_Model_stopsAt : Cond.instanceMethod jy_Model_stopsAt ∈ jtbl := jmem_6 19 (by decide +kernel) rfl
theorem js_Model_stopsAt : Cond.selects jy_Model_stopsAt.cls jy_Model_stopsAt jy_Model_stopsAt ∈ jtbl := jmem_0 71 (by decide +kernel) rfl
abbrev jc_Model_goesThrough : ByteArray := prog_12_method_83_code
abbrev jy_Model_goesThrough : MethodName := ⟨"YesNoPowersModel", "goesThrough", "(I)V"⟩
set_option maxRecDepth 100000 in
theorem jm_Model_goesThrough : jMi jy_Model_goesThrough jc_Model_goesThrough 2 none 1 := ⟨jmem_1 10 (by decide +kernel) rfl, jmem_6 28 (by rfl) rfl, ⟨jne_Model.1, jne_Model.2, by decide +kernel⟩, by decide, plainFor_of_name jpn_Model⟩
theorem ji_Model_goesThrough : Cond.instanceMethod jy_Model_goesThrough ∈ jtbl := jmem_6 27 (by decide +kernel) rfl
theorem js_Model_goesThrough : Cond.selects jy_Model_goesThrough.cls jy_Model_goesThrough jy_Model_goesThrough ∈ jtbl := jmem_0 73 (by decide +kernel) rfl
abbrev jc_Model_goes : ByteArray := prog_12_method_84_code
abbrev jy_Model_goes : MethodName := ⟨"YesNoPowersModel", "goes", "(I)I"⟩
set_option maxRecDepth 100000 in
theorem jm_Model_goes : jMi jy_Model_goes jc_Model_goes 4 (some .int) 1 := ⟨jmem_1 10 (by decide +kernel) rfl, jmem_6 16 (by rfl) rfl, ⟨jne_Model.1, jne_Model.2, by decide +kernel⟩, by decide, plainFor_of_name jpn_Model⟩
theorem ji_Model_goes : Cond.instanceMethod jy_Model_goes ∈ jtbl := jmem_6 15 (by decide +kernel) rfl
theorem js_Model_goes : Cond.selects jy_Model_goes.cls jy_Model_goes jy_Model_goes ∈ jtbl := jmem_0 70 (by decide +kernel) rfl
abbrev jc_Model_run : ByteArray := prog_12_method_85_code
abbrev jy_Model_run : MethodName := ⟨"YesNoPowersModel", "run", "(I)I"⟩
set_option maxRecDepth 100000 in
theorem jm_Model_run : jMi jy_Model_run jc_Model_run 3 (some .int) 1 := ⟨jmem_1 10 (by decide +kernel) rfl, jmem_6 12 (by rfl) rfl, ⟨jne_Model.1, jne_Model.2, by decide +kernel⟩, by decide, plainFor_of_name jpn_Model⟩
theorem ji_Model_run : Cond.instanceMethod jy_Model_run ∈ jtbl := jmem_6 10 (by decide +kernel) rfl
theorem js_Model_run : Cond.selects jy_Model_run.cls jy_Model_run jy_Model_run ∈ jtbl := jmem_6 11 (by decide +kernel) rfl
abbrev jc_Model_would : ByteArray := prog_12_method_86_code
abbrev jy_Model_would : MethodName := ⟨"YesNoPowersModel", "would", "(I)I"⟩
set_option maxRecDepth 100000 in
theorem jm_Model_would : jMi jy_Model_would jc_Model_would 3 (some .int) 1 := ⟨jmem_1 10 (by decide +kernel) rfl, jmem_6 36 (by rfl) rfl, ⟨jne_Model.1, jne_Model.2, by decide +kernel⟩, by decide, plainFor_of_name jpn_Model⟩
theorem ji_Model_would : Cond.instanceMethod jy_Model_would ∈ jtbl := jmem_6 34 (by decide +kernel) rfl
theorem js_Model_would : Cond.selects jy_Model_would.cls jy_Model_would jy_Model_would ∈ jtbl := jmem_6 35 (by decide +kernel) rfl
abbrev jc_Model_closing : ByteArray := prog_12_method_87_code
abbrev jy_Model_closing : MethodName := ⟨"YesNoPowersModel", "closing", "(I)I"⟩
set_option maxRecDepth 100000 in
theorem jm_Model_closing : jMi jy_Model_closing jc_Model_closing 2 (some .int) 1 := ⟨jmem_1 10 (by decide +kernel) rfl, jmem_6 40 (by rfl) rfl, ⟨jne_Model.1, jne_Model.2, by decide +kernel⟩, by decide, plainFor_of_name jpn_Model⟩
theorem ji_Model_closing : Cond.instanceMethod jy_Model_closing ∈ jtbl := jmem_6 38 (by decide +kernel) rfl
theorem js_Model_closing : Cond.selects jy_Model_closing.cls jy_Model_closing jy_Model_closing ∈ jtbl := jmem_6 39 (by decide +kernel) rfl
abbrev jc_Model_reason : ByteArray := prog_12_method_88_code
abbrev jy_Model_reason : MethodName := ⟨"YesNoPowersModel", "reason", "(I)I"⟩
set_option maxRecDepth 100000 in
theorem jm_Model_reason : jMi jy_Model_reason jc_Model_reason 2 (some .int) 1 := ⟨jmem_1 10 (by decide +kernel) rfl, jmem_6 44 (by rfl) rfl, ⟨jne_Model.1, jne_Model.2, by decide +kernel⟩, by decide, plainFor_of_name jpn_Model⟩
theorem ji_Model_reason : Cond.instanceMethod jy_Model_reason ∈ jtbl := jmem_6 42 (by decide +kernel) rfl
theorem js_Model_reason : Cond.selects jy_Model_reason.cls jy_Model_reason jy_Model_reason ∈ jtbl := jmem_6 43 (by decide +kernel) rfl
abbrev jc_Model_loosen : ByteArray := prog_12_method_89_code
abbrev jy_Model_loosen : MethodName := ⟨"YesNoPowersModel", "loosen", "()I"⟩
set_option maxRecDepth 100000 in
theorem jm_Model_loosen : jMi jy_Model_loosen jc_Model_loosen 2 (some .int) 0 := ⟨jmem_1 10 (by decide +kernel) rfl, jmem_6 48 (by rfl) rfl, ⟨jne_Model.1, jne_Model.2, by decide +kernel⟩, by decide, plainFor_of_name jpn_Model⟩
theorem ji_Model_loosen : Cond.instanceMethod jy_Model_loosen ∈ jtbl := jmem_6 46 (by decide +kernel) rfl
theorem js_Model_loosen : Cond.selects jy_Model_loosen.cls jy_Model_loosen jy_Model_loosen ∈ jtbl := jmem_6 47 (by decide +kernel) rfl
abbrev jc_Model_isSheet : ByteArray := prog_12_method_90_code
abbrev jy_Model_isSheet : MethodName := ⟨"YesNoPowersModel", "isSheet", "(I)Z"⟩
set_option maxRecDepth 100000 in
theorem jm_Model_isSheet : jMi jy_Model_isSheet jc_Model_isSheet 1 (some .boolean) 1 := ⟨jmem_1 10 (by decide +kernel) rfl, jmem_5 66 (by rfl) rfl, ⟨jne_Model.1, jne_Model.2, by decide +kernel⟩, by decide, plainFor_of_name jpn_Model⟩
theorem js_Model_isSheet : Cond.static jy_Model_isSheet ∈ jtbl := jmem_5 65 (by decide +kernel) rfl
abbrev jc_Model_lowest : ByteArray := prog_12_method_91_code
abbrev jy_Model_lowest : MethodName := ⟨"YesNoPowersModel", "lowest", "(II)I"⟩
set_option maxRecDepth 100000 in
theorem jm_Model_lowest : jMi jy_Model_lowest jc_Model_lowest 3 (some .int) 2 := ⟨jmem_1 10 (by decide +kernel) rfl, jmem_5 74 (by rfl) rfl, ⟨jne_Model.1, jne_Model.2, by decide +kernel⟩, by decide, plainFor_of_name jpn_Model⟩
theorem ji_Model_lowest : Cond.instanceMethod jy_Model_lowest ∈ jtbl := jmem_5 73 (by decide +kernel) rfl
theorem js_Model_lowest : Cond.selects jy_Model_lowest.cls jy_Model_lowest jy_Model_lowest ∈ jtbl := jmem_0 45 (by decide +kernel) rfl
abbrev jc_Model_sheet : ByteArray := prog_12_method_92_code
abbrev jy_Model_sheet : MethodName := ⟨"YesNoPowersModel", "sheet", "(III)I"⟩
set_option maxRecDepth 100000 in
theorem jm_Model_sheet : jMi jy_Model_sheet jc_Model_sheet 5 (some .int) 3 := ⟨jmem_1 10 (by decide +kernel) rfl, jmem_6 52 (by rfl) rfl, ⟨jne_Model.1, jne_Model.2, by decide +kernel⟩, by decide, plainFor_of_name jpn_Model⟩
theorem ji_Model_sheet : Cond.instanceMethod jy_Model_sheet ∈ jtbl := jmem_6 50 (by decide +kernel) rfl
theorem js_Model_sheet : Cond.selects jy_Model_sheet.cls jy_Model_sheet jy_Model_sheet ∈ jtbl := jmem_6 51 (by decide +kernel) rfl
abbrev jc_Model_cell : ByteArray := prog_12_method_93_code
abbrev jy_Model_cell : MethodName := ⟨"YesNoPowersModel", "cell", "(III)I"⟩
set_option maxRecDepth 100000 in
theorem jm_Model_cell : jMi jy_Model_cell jc_Model_cell 4 (some .int) 3 := ⟨jmem_1 10 (by decide +kernel) rfl, jmem_6 57 (by rfl) rfl, ⟨jne_Model.1, jne_Model.2, by decide +kernel⟩, by decide, plainFor_of_name jpn_Model⟩
theorem ji_Model_cell : Cond.instanceMethod jy_Model_cell ∈ jtbl := jmem_6 55 (by decide +kernel) rfl
theorem js_Model_cell : Cond.selects jy_Model_cell.cls jy_Model_cell jy_Model_cell ∈ jtbl := jmem_6 56 (by decide +kernel) rfl
abbrev jc_Model_item : ByteArray := prog_12_method_94_code
abbrev jy_Model_item : MethodName := ⟨"YesNoPowersModel", "item", "(II)J"⟩
set_option maxRecDepth 100000 in
theorem jm_Model_item : jMi jy_Model_item jc_Model_item 3 (some .long) 2 := ⟨jmem_1 10 (by decide +kernel) rfl, jmem_6 61 (by rfl) rfl, ⟨jne_Model.1, jne_Model.2, by decide +kernel⟩, by decide, plainFor_of_name jpn_Model⟩
theorem ji_Model_item : Cond.instanceMethod jy_Model_item ∈ jtbl := jmem_6 59 (by decide +kernel) rfl
theorem js_Model_item : Cond.selects jy_Model_item.cls jy_Model_item jy_Model_item ∈ jtbl := jmem_6 60 (by decide +kernel) rfl
abbrev jc_Model_shift : ByteArray := prog_12_method_95_code
abbrev jy_Model_shift : MethodName := ⟨"YesNoPowersModel", "shift", "(IIIII)I"⟩
set_option maxRecDepth 100000 in
theorem jm_Model_shift : jMi jy_Model_shift jc_Model_shift 9 (some .int) 5 := ⟨jmem_1 10 (by decide +kernel) rfl, jmem_6 66 (by rfl) rfl, ⟨jne_Model.1, jne_Model.2, by decide +kernel⟩, by decide, plainFor_of_name jpn_Model⟩
theorem ji_Model_shift : Cond.instanceMethod jy_Model_shift ∈ jtbl := jmem_6 64 (by decide +kernel) rfl
theorem js_Model_shift : Cond.selects jy_Model_shift.cls jy_Model_shift jy_Model_shift ∈ jtbl := jmem_6 65 (by decide +kernel) rfl
abbrev jc_Model_count : ByteArray := prog_12_method_96_code
abbrev jy_Model_count : MethodName := ⟨"YesNoPowersModel", "count", "(I)I"⟩
set_option maxRecDepth 100000 in
theorem jm_Model_count : jMi jy_Model_count jc_Model_count 4 (some .int) 1 := ⟨jmem_1 10 (by decide +kernel) rfl, jmem_6 70 (by rfl) rfl, ⟨jne_Model.1, jne_Model.2, by decide +kernel⟩, by decide, plainFor_of_name jpn_Model⟩
theorem ji_Model_count : Cond.instanceMethod jy_Model_count ∈ jtbl := jmem_6 68 (by decide +kernel) rfl
theorem js_Model_count : Cond.selects jy_Model_count.cls jy_Model_count jy_Model_count ∈ jtbl := jmem_6 69 (by decide +kernel) rfl
abbrev jc_J_bitCount : ByteArray := prog_13_method_49_code
abbrev jy_J_bitCount : MethodName := ⟨"java/lang/Integer", "bitCount", "(I)I"⟩
set_option maxRecDepth 100000 in
theorem jm_J_bitCount : jMi jy_J_bitCount jc_J_bitCount 1 (some .int) 1 := ⟨jmem_1 12 (by decide +kernel) rfl, jmem_2 226 (by rfl) rfl, by decide +kernel, by decide, by decide +kernel⟩
theorem js_J_bitCount : Cond.static jy_J_bitCount ∈ jtbl := jmem_2 225 (by decide +kernel) rfl
abbrev jc_J_floorMod : ByteArray := prog_14_method_50_code
abbrev jy_J_floorMod : MethodName := ⟨"java/lang/Math", "floorMod", "(II)I"⟩
set_option maxRecDepth 100000 in
theorem jm_J_floorMod : jMi jy_J_floorMod jc_J_floorMod 3 (some .int) 2 := ⟨jmem_1 11 (by decide +kernel) rfl, jmem_3 113 (by rfl) rfl, by decide +kernel, by decide, by decide +kernel⟩
theorem js_J_floorMod : Cond.static jy_J_floorMod ∈ jtbl := jmem_3 112 (by decide +kernel) rfl
abbrev jc_J_abs : ByteArray := prog_14_method_59_code
abbrev jy_J_abs : MethodName := ⟨"java/lang/Math", "abs", "(I)I"⟩
set_option maxRecDepth 100000 in
theorem jm_J_abs : jMi jy_J_abs jc_J_abs 1 (some .int) 1 := ⟨jmem_1 11 (by decide +kernel) rfl, jmem_3 66 (by rfl) rfl, by decide +kernel, by decide, by decide +kernel⟩
theorem js_J_abs : Cond.static jy_J_abs ∈ jtbl := jmem_3 65 (by decide +kernel) rfl
abbrev jc_J_min : ByteArray := prog_14_method_69_code
abbrev jy_J_min : MethodName := ⟨"java/lang/Math", "min", "(II)I"⟩
set_option maxRecDepth 100000 in
theorem jm_J_min : jMi jy_J_min jc_J_min 2 (some .int) 2 := ⟨jmem_1 11 (by decide +kernel) rfl, jmem_2 76 (by rfl) rfl, by decide +kernel, by decide, by decide +kernel⟩
theorem js_J_min : Cond.static jy_J_min ∈ jtbl := jmem_2 75 (by decide +kernel) rfl
theorem jf_Table_15 : jF "YesNoPowers$Table" 15 7 0 2 := ⟨jR_Table, jT_Table, jt_Table, by decide, rfl, jin_Table, by decide, jmem_1 39 (by decide +kernel) rfl, jty_Table, jnm_Table, fun z => by first | rfl | exact absurd z (by decide), fun z => by first | rfl | exact absurd z (by decide)⟩
theorem jf_Powers_19 : jF "YesNoPowers$Powers" 19 7 0 2 := ⟨jR_Table, jT_Table, jt_Table, by decide, rfl, jin_Table, by decide, jmem_1 40 (by decide +kernel) rfl, jty_Table, jnm_Table, fun z => by first | rfl | exact absurd z (by decide), fun z => by first | rfl | exact absurd z (by decide)⟩
theorem jf_Spaces_28 : jF "YesNoPowers$Spaces" 28 7 0 2 := ⟨jR_Table, jT_Table, jt_Table, by decide, rfl, jin_Table, by decide, jmem_1 41 (by decide +kernel) rfl, jty_Table, jnm_Table, fun z => by first | rfl | exact absurd z (by decide), fun z => by first | rfl | exact absurd z (by decide)⟩
theorem jf_Rings_75 : jF "YesNoPowers$Rings" 75 7 0 2 := ⟨jR_Table, jT_Table, jt_Table, by decide, rfl, jin_Table, by decide, jmem_1 42 (by decide +kernel) rfl, jty_Table, jnm_Table, fun z => by first | rfl | exact absurd z (by decide), fun z => by first | rfl | exact absurd z (by decide)⟩
theorem jf_Chain_77 : jF "YesNoPowers$Chain" 77 7 0 2 := ⟨jR_Table, jT_Table, jt_Table, by decide, rfl, jin_Table, by decide, jmem_1 43 (by decide +kernel) rfl, jty_Table, jnm_Table, fun z => by first | rfl | exact absurd z (by decide), fun z => by first | rfl | exact absurd z (by decide)⟩
theorem jf_Main_106 : jF "YesNoPowers" 106 7 0 2 := ⟨jR_Table, jT_Table, jt_Table, by decide, rfl, jin_Table, by decide, jmem_1 44 (by decide +kernel) rfl, jty_Table, jnm_Table, fun z => by first | rfl | exact absurd z (by decide), fun z => by first | rfl | exact absurd z (by decide)⟩
theorem jf_Table_11 : jF "YesNoPowers$Table" 11 7 1 2 := ⟨jR_Table, jT_Table, jt_Table, by decide, rfl, jin_Table, by decide, jmem_1 45 (by decide +kernel) rfl, jty_Table, jnm_Table, fun z => by first | rfl | exact absurd z (by decide), fun z => by first | rfl | exact absurd z (by decide)⟩
theorem jf_Spaces_32 : jF "YesNoPowers$Spaces" 32 7 1 2 := ⟨jR_Table, jT_Table, jt_Table, by decide, rfl, jin_Table, by decide, jmem_1 46 (by decide +kernel) rfl, jty_Table, jnm_Table, fun z => by first | rfl | exact absurd z (by decide), fun z => by first | rfl | exact absurd z (by decide)⟩
theorem jf_Main_93 : jF "YesNoPowers" 93 7 1 2 := ⟨jR_Table, jT_Table, jt_Table, by decide, rfl, jin_Table, by decide, jmem_1 47 (by decide +kernel) rfl, jty_Table, jnm_Table, fun z => by first | rfl | exact absurd z (by decide), fun z => by first | rfl | exact absurd z (by decide)⟩
theorem jf_Rings_78 : jF "YesNoPowers$Rings" 78 7 1 2 := ⟨jR_Table, jT_Table, jt_Table, by decide, rfl, jin_Table, by decide, jmem_1 48 (by decide +kernel) rfl, jty_Table, jnm_Table, fun z => by first | rfl | exact absurd z (by decide), fun z => by first | rfl | exact absurd z (by decide)⟩
theorem jf_Log_28 : jF "YesNoPowers$Log" 28 2 0 4 := ⟨jR_Log, jT_Log, jt_Log, by decide, rfl, jin_Log, by decide, jmem_1 55 (by decide +kernel) rfl, jty_Log, jnm_Log, fun z => by first | rfl | exact absurd z (by decide), fun z => by first | rfl | exact absurd z (by decide)⟩
theorem jf_Main_300 : jF "YesNoPowers" 300 2 0 4 := ⟨jR_Log, jT_Log, jt_Log, by decide, rfl, jin_Log, by decide, jmem_1 56 (by decide +kernel) rfl, jty_Log, jnm_Log, fun z => by first | rfl | exact absurd z (by decide), fun z => by first | rfl | exact absurd z (by decide)⟩
theorem jf_Log_20 : jF "YesNoPowers$Log" 20 2 1 4 := ⟨jR_Log, jT_Log, jt_Log, by decide, rfl, jin_Log, by decide, jmem_1 57 (by decide +kernel) rfl, jty_Log, jnm_Log, fun z => by first | rfl | exact absurd z (by decide), fun z => by first | rfl | exact absurd z (by decide)⟩
theorem jf_Log_9 : jF "YesNoPowers$Log" 9 2 2 4 := ⟨jR_Log, jT_Log, jt_Log, by decide, rfl, jin_Log, by decide, jmem_1 58 (by decide +kernel) rfl, jty_Log, jnm_Log, fun z => by first | rfl | exact absurd z (by decide), fun z => by first | rfl | exact absurd z (by decide)⟩
theorem jf_Log_15 : jF "YesNoPowers$Log" 15 2 3 4 := ⟨jR_Log, jT_Log, jt_Log, by decide, rfl, jin_Log, by decide, jmem_1 59 (by decide +kernel) rfl, jty_Log, jnm_Log, fun z => by first | rfl | exact absurd z (by decide), fun z => by first | rfl | exact absurd z (by decide)⟩
theorem jf_Powers_47 : jF "YesNoPowers$Powers" 47 3 0 4 := ⟨jR_Powers, jT_Powers, jt_Powers, by decide, rfl, jin_Powers, by decide, jmem_1 77 (by decide +kernel) rfl, jty_Powers, jnm_Powers, fun z => by first | rfl | exact absurd z (by decide), fun z => by first | rfl | exact absurd z (by decide)⟩
theorem jf_Main_179 : jF "YesNoPowers" 179 3 0 4 := ⟨jR_Powers, jT_Powers, jt_Powers, by decide, rfl, jin_Powers, by decide, jmem_1 78 (by decide +kernel) rfl, jty_Powers, jnm_Powers, fun z => by first | rfl | exact absurd z (by decide), fun z => by first | rfl | exact absurd z (by decide)⟩
theorem jf_Powers_40 : jF "YesNoPowers$Powers" 40 3 1 4 := ⟨jR_Powers, jT_Powers, jt_Powers, by decide, rfl, jin_Powers, by decide, jmem_1 79 (by decide +kernel) rfl, jty_Powers, jnm_Powers, fun z => by first | rfl | exact absurd z (by decide), fun z => by first | rfl | exact absurd z (by decide)⟩
theorem jf_Main_182 : jF "YesNoPowers" 182 3 1 4 := ⟨jR_Powers, jT_Powers, jt_Powers, by decide, rfl, jin_Powers, by decide, jmem_1 80 (by decide +kernel) rfl, jty_Powers, jnm_Powers, fun z => by first | rfl | exact absurd z (by decide), fun z => by first | rfl | exact absurd z (by decide)⟩
theorem jf_Powers_10 : jF "YesNoPowers$Powers" 10 3 2 4 := ⟨jR_Powers, jT_Powers, jt_Powers, by decide, rfl, jin_Powers, by decide, jmem_1 81 (by decide +kernel) rfl, jty_Powers, jnm_Powers, fun z => by first | rfl | exact absurd z (by decide), fun z => by first | rfl | exact absurd z (by decide)⟩
theorem jf_Powers_16 : jF "YesNoPowers$Powers" 16 3 3 4 := ⟨jR_Powers, jT_Powers, jt_Powers, by decide, rfl, jin_Powers, by decide, jmem_1 82 (by decide +kernel) rfl, jty_Powers, jnm_Powers, fun z => by first | rfl | exact absurd z (by decide), fun z => by first | rfl | exact absurd z (by decide)⟩
theorem jf_Rings_54 : jF "YesNoPowers$Rings" 54 4 0 11 := ⟨jR_Rings, jT_Rings, jt_Rings, by decide, rfl, jin_Rings, by decide, jmem_1 100 (by decide +kernel) rfl, jty_Rings, jnm_Rings, fun z => by first | rfl | exact absurd z (by decide), fun z => by first | rfl | exact absurd z (by decide)⟩
theorem jf_Main_201 : jF "YesNoPowers" 201 4 0 11 := ⟨jR_Rings, jT_Rings, jt_Rings, by decide, rfl, jin_Rings, by decide, jmem_1 101 (by decide +kernel) rfl, jty_Rings, jnm_Rings, fun z => by first | rfl | exact absurd z (by decide), fun z => by first | rfl | exact absurd z (by decide)⟩
theorem jf_Rings_9 : jF "YesNoPowers$Rings" 9 4 1 11 := ⟨jR_Rings, jT_Rings, jt_Rings, by decide, rfl, jin_Rings, by decide, jmem_1 102 (by decide +kernel) rfl, jty_Rings, jnm_Rings, fun z => by first | rfl | exact absurd z (by decide), fun z => by first | rfl | exact absurd z (by decide)⟩
theorem jf_Main_204 : jF "YesNoPowers" 204 4 1 11 := ⟨jR_Rings, jT_Rings, jt_Rings, by decide, rfl, jin_Rings, by decide, jmem_1 103 (by decide +kernel) rfl, jty_Rings, jnm_Rings, fun z => by first | rfl | exact absurd z (by decide), fun z => by first | rfl | exact absurd z (by decide)⟩
theorem jf_Rings_15 : jF "YesNoPowers$Rings" 15 4 2 11 := ⟨jR_Rings, jT_Rings, jt_Rings, by decide, rfl, jin_Rings, by decide, jmem_1 104 (by decide +kernel) rfl, jty_Rings, jnm_Rings, fun z => by first | rfl | exact absurd z (by decide), fun z => by first | rfl | exact absurd z (by decide)⟩
theorem jf_Main_213 : jF "YesNoPowers" 213 4 2 11 := ⟨jR_Rings, jT_Rings, jt_Rings, by decide, rfl, jin_Rings, by decide, jmem_1 105 (by decide +kernel) rfl, jty_Rings, jnm_Rings, fun z => by first | rfl | exact absurd z (by decide), fun z => by first | rfl | exact absurd z (by decide)⟩
theorem jf_Rings_18 : jF "YesNoPowers$Rings" 18 4 3 11 := ⟨jR_Rings, jT_Rings, jt_Rings, by decide, rfl, jin_Rings, by decide, jmem_1 106 (by decide +kernel) rfl, jty_Rings, jnm_Rings, fun z => by first | rfl | exact absurd z (by decide), fun z => by first | rfl | exact absurd z (by decide)⟩
theorem jf_Main_210 : jF "YesNoPowers" 210 4 3 11 := ⟨jR_Rings, jT_Rings, jt_Rings, by decide, rfl, jin_Rings, by decide, jmem_1 107 (by decide +kernel) rfl, jty_Rings, jnm_Rings, fun z => by first | rfl | exact absurd z (by decide), fun z => by first | rfl | exact absurd z (by decide)⟩
theorem jf_Rings_21 : jF "YesNoPowers$Rings" 21 4 4 11 := ⟨jR_Rings, jT_Rings, jt_Rings, by decide, rfl, jin_Rings, by decide, jmem_1 108 (by decide +kernel) rfl, jty_Rings, jnm_Rings, fun z => by first | rfl | exact absurd z (by decide), fun z => by first | rfl | exact absurd z (by decide)⟩
theorem jf_Main_195 : jF "YesNoPowers" 195 4 4 11 := ⟨jR_Rings, jT_Rings, jt_Rings, by decide, rfl, jin_Rings, by decide, jmem_1 109 (by decide +kernel) rfl, jty_Rings, jnm_Rings, fun z => by first | rfl | exact absurd z (by decide), fun z => by first | rfl | exact absurd z (by decide)⟩
theorem jf_Rings_24 : jF "YesNoPowers$Rings" 24 4 5 11 := ⟨jR_Rings, jT_Rings, jt_Rings, by decide, rfl, jin_Rings, by decide, jmem_1 110 (by decide +kernel) rfl, jty_Rings, jnm_Rings, fun z => by first | rfl | exact absurd z (by decide), fun z => by first | rfl | exact absurd z (by decide)⟩
theorem jf_Main_221 : jF "YesNoPowers" 221 4 5 11 := ⟨jR_Rings, jT_Rings, jt_Rings, by decide, rfl, jin_Rings, by decide, jmem_1 111 (by decide +kernel) rfl, jty_Rings, jnm_Rings, fun z => by first | rfl | exact absurd z (by decide), fun z => by first | rfl | exact absurd z (by decide)⟩
theorem jf_Rings_27 : jF "YesNoPowers$Rings" 27 4 6 11 := ⟨jR_Rings, jT_Rings, jt_Rings, by decide, rfl, jin_Rings, by decide, jmem_1 112 (by decide +kernel) rfl, jty_Rings, jnm_Rings, fun z => by first | rfl | exact absurd z (by decide), fun z => by first | rfl | exact absurd z (by decide)⟩
theorem jf_Main_223 : jF "YesNoPowers" 223 4 6 11 := ⟨jR_Rings, jT_Rings, jt_Rings, by decide, rfl, jin_Rings, by decide, jmem_1 113 (by decide +kernel) rfl, jty_Rings, jnm_Rings, fun z => by first | rfl | exact absurd z (by decide), fun z => by first | rfl | exact absurd z (by decide)⟩
theorem jf_Rings_30 : jF "YesNoPowers$Rings" 30 4 7 11 := ⟨jR_Rings, jT_Rings, jt_Rings, by decide, rfl, jin_Rings, by decide, jmem_1 114 (by decide +kernel) rfl, jty_Rings, jnm_Rings, fun z => by first | rfl | exact absurd z (by decide), fun z => by first | rfl | exact absurd z (by decide)⟩
theorem jf_Main_226 : jF "YesNoPowers" 226 4 7 11 := ⟨jR_Rings, jT_Rings, jt_Rings, by decide, rfl, jin_Rings, by decide, jmem_1 115 (by decide +kernel) rfl, jty_Rings, jnm_Rings, fun z => by first | rfl | exact absurd z (by decide), fun z => by first | rfl | exact absurd z (by decide)⟩
theorem jf_Rings_33 : jF "YesNoPowers$Rings" 33 4 8 11 := ⟨jR_Rings, jT_Rings, jt_Rings, by decide, rfl, jin_Rings, by decide, jmem_1 116 (by decide +kernel) rfl, jty_Rings, jnm_Rings, fun z => by first | rfl | exact absurd z (by decide), fun z => by first | rfl | exact absurd z (by decide)⟩
theorem jf_Rings_37 : jF "YesNoPowers$Rings" 37 4 9 11 := ⟨jR_Rings, jT_Rings, jt_Rings, by decide, rfl, jin_Rings, by decide, jmem_1 117 (by decide +kernel) rfl, jty_Rings, jnm_Rings, fun z => by first | rfl | exact absurd z (by decide), fun z => by first | rfl | exact absurd z (by decide)⟩
theorem jf_Rings_41 : jF "YesNoPowers$Rings" 41 4 10 11 := ⟨jR_Rings, jT_Rings, jt_Rings, by decide, rfl, jin_Rings, by decide, jmem_1 118 (by decide +kernel) rfl, jty_Rings, jnm_Rings, fun z => by first | rfl | exact absurd z (by decide), fun z => by first | rfl | exact absurd z (by decide)⟩
theorem jf_Spaces_10 : jF "YesNoPowers$Spaces" 10 6 0 5 := ⟨jR_Spaces, jT_Spaces, jt_Spaces, by decide, rfl, jin_Spaces, by decide, jmem_1 150 (by decide +kernel) rfl, jty_Spaces, jnm_Spaces, fun z => by first | rfl | exact absurd z (by decide), fun z => by first | rfl | exact absurd z (by decide)⟩
theorem jf_Spaces_16 : jF "YesNoPowers$Spaces" 16 6 1 5 := ⟨jR_Spaces, jT_Spaces, jt_Spaces, by decide, rfl, jin_Spaces, by decide, jmem_1 151 (by decide +kernel) rfl, jty_Spaces, jnm_Spaces, fun z => by first | rfl | exact absurd z (by decide), fun z => by first | rfl | exact absurd z (by decide)⟩
theorem jf_Spaces_19 : jF "YesNoPowers$Spaces" 19 6 2 5 := ⟨jR_Spaces, jT_Spaces, jt_Spaces, by decide, rfl, jin_Spaces, by decide, jmem_1 152 (by decide +kernel) rfl, jty_Spaces, jnm_Spaces, fun z => by first | rfl | exact absurd z (by decide), fun z => by first | rfl | exact absurd z (by decide)⟩
theorem jf_Spaces_22 : jF "YesNoPowers$Spaces" 22 6 3 5 := ⟨jR_Spaces, jT_Spaces, jt_Spaces, by decide, rfl, jin_Spaces, by decide, jmem_1 153 (by decide +kernel) rfl, jty_Spaces, jnm_Spaces, fun z => by first | rfl | exact absurd z (by decide), fun z => by first | rfl | exact absurd z (by decide)⟩
theorem jf_Spaces_25 : jF "YesNoPowers$Spaces" 25 6 4 5 := ⟨jR_Spaces, jT_Spaces, jt_Spaces, by decide, rfl, jin_Spaces, by decide, jmem_1 154 (by decide +kernel) rfl, jty_Spaces, jnm_Spaces, fun z => by first | rfl | exact absurd z (by decide), fun z => by first | rfl | exact absurd z (by decide)⟩
theorem jf_Chain_51 : jF "YesNoPowers$Chain" 51 1 0 3 := ⟨jR_Link, jT_Link, jt_Link, by decide, rfl, jin_Link, by decide, jmem_1 185 (by decide +kernel) rfl, jty_Link, jnm_Link, fun z => by first | rfl | exact absurd z (by decide), fun z => by first | rfl | exact absurd z (by decide)⟩
theorem jf_Chain_54 : jF "YesNoPowers$Chain" 54 1 1 3 := ⟨jR_Link, jT_Link, jt_Link, by decide, rfl, jin_Link, by decide, jmem_1 186 (by decide +kernel) rfl, jty_Link, jnm_Link, fun z => by first | rfl | exact absurd z (by decide), fun z => by first | rfl | exact absurd z (by decide)⟩
theorem jf_Link_10 : jF "YesNoPowers$Link" 10 1 2 3 := ⟨jR_Link, jT_Link, jt_Link, by decide, rfl, jin_Link, by decide, jmem_1 187 (by decide +kernel) rfl, jty_Link, jnm_Link, fun z => by first | rfl | exact absurd z (by decide), fun z => by first | rfl | exact absurd z (by decide)⟩
theorem jf_Chain_57 : jF "YesNoPowers$Chain" 57 1 2 3 := ⟨jR_Link, jT_Link, jt_Link, by decide, rfl, jin_Link, by decide, jmem_1 188 (by decide +kernel) rfl, jty_Link, jnm_Link, fun z => by first | rfl | exact absurd z (by decide), fun z => by first | rfl | exact absurd z (by decide)⟩
theorem jf_Chain_43 : jF "YesNoPowers$Chain" 43 0 0 11 := ⟨jR_Chain, jT_Chain, jt_Chain, by decide, rfl, jin_Chain, by decide, jmem_1 196 (by decide +kernel) rfl, jty_Chain, jnm_Chain, fun z => by first | rfl | exact absurd z (by decide), fun z => by first | rfl | exact absurd z (by decide)⟩
theorem jf_Main_280 : jF "YesNoPowers" 280 0 0 11 := ⟨jR_Chain, jT_Chain, jt_Chain, by decide, rfl, jin_Chain, by decide, jmem_1 197 (by decide +kernel) rfl, jty_Chain, jnm_Chain, fun z => by first | rfl | exact absurd z (by decide), fun z => by first | rfl | exact absurd z (by decide)⟩
theorem jf_Chain_70 : jF "YesNoPowers$Chain" 70 0 1 11 := ⟨jR_Chain, jT_Chain, jt_Chain, by decide, rfl, jin_Chain, by decide, jmem_1 198 (by decide +kernel) rfl, jty_Chain, jnm_Chain, fun z => by first | rfl | exact absurd z (by decide), fun z => by first | rfl | exact absurd z (by decide)⟩
theorem jf_Main_336 : jF "YesNoPowers" 336 0 1 11 := ⟨jR_Chain, jT_Chain, jt_Chain, by decide, rfl, jin_Chain, by decide, jmem_1 199 (by decide +kernel) rfl, jty_Chain, jnm_Chain, fun z => by first | rfl | exact absurd z (by decide), fun z => by first | rfl | exact absurd z (by decide)⟩
theorem jf_Chain_64 : jF "YesNoPowers$Chain" 64 0 2 11 := ⟨jR_Chain, jT_Chain, jt_Chain, by decide, rfl, jin_Chain, by decide, jmem_1 200 (by decide +kernel) rfl, jty_Chain, jnm_Chain, fun z => by first | rfl | exact absurd z (by decide), fun z => by first | rfl | exact absurd z (by decide)⟩
theorem jf_Main_288 : jF "YesNoPowers" 288 0 2 11 := ⟨jR_Chain, jT_Chain, jt_Chain, by decide, rfl, jin_Chain, by decide, jmem_1 201 (by decide +kernel) rfl, jty_Chain, jnm_Chain, fun z => by first | rfl | exact absurd z (by decide), fun z => by first | rfl | exact absurd z (by decide)⟩
theorem jf_Chain_67 : jF "YesNoPowers$Chain" 67 0 3 11 := ⟨jR_Chain, jT_Chain, jt_Chain, by decide, rfl, jin_Chain, by decide, jmem_1 202 (by decide +kernel) rfl, jty_Chain, jnm_Chain, fun z => by first | rfl | exact absurd z (by decide), fun z => by first | rfl | exact absurd z (by decide)⟩
theorem jf_Main_294 : jF "YesNoPowers" 294 0 3 11 := ⟨jR_Chain, jT_Chain, jt_Chain, by decide, rfl, jin_Chain, by decide, jmem_1 203 (by decide +kernel) rfl, jty_Chain, jnm_Chain, fun z => by first | rfl | exact absurd z (by decide), fun z => by first | rfl | exact absurd z (by decide)⟩
theorem jf_Chain_9 : jF "YesNoPowers$Chain" 9 0 4 11 := ⟨jR_Chain, jT_Chain, jt_Chain, by decide, rfl, jin_Chain, by decide, jmem_1 204 (by decide +kernel) rfl, jty_Chain, jnm_Chain, fun z => by first | rfl | exact absurd z (by decide), fun z => by first | rfl | exact absurd z (by decide)⟩
theorem jf_Main_291 : jF "YesNoPowers" 291 0 4 11 := ⟨jR_Chain, jT_Chain, jt_Chain, by decide, rfl, jin_Chain, by decide, jmem_1 205 (by decide +kernel) rfl, jty_Chain, jnm_Chain, fun z => by first | rfl | exact absurd z (by decide), fun z => by first | rfl | exact absurd z (by decide)⟩
theorem jf_Chain_13 : jF "YesNoPowers$Chain" 13 0 5 11 := ⟨jR_Chain, jT_Chain, jt_Chain, by decide, rfl, jin_Chain, by decide, jmem_1 206 (by decide +kernel) rfl, jty_Chain, jnm_Chain, fun z => by first | rfl | exact absurd z (by decide), fun z => by first | rfl | exact absurd z (by decide)⟩
theorem jf_Main_297 : jF "YesNoPowers" 297 0 5 11 := ⟨jR_Chain, jT_Chain, jt_Chain, by decide, rfl, jin_Chain, by decide, jmem_1 207 (by decide +kernel) rfl, jty_Chain, jnm_Chain, fun z => by first | rfl | exact absurd z (by decide), fun z => by first | rfl | exact absurd z (by decide)⟩
theorem jf_Chain_19 : jF "YesNoPowers$Chain" 19 0 6 11 := ⟨jR_Chain, jT_Chain, jt_Chain, by decide, rfl, jin_Chain, by decide, jmem_1 208 (by decide +kernel) rfl, jty_Chain, jnm_Chain, fun z => by first | rfl | exact absurd z (by decide), fun z => by first | rfl | exact absurd z (by decide)⟩
theorem jf_Main_285 : jF "YesNoPowers" 285 0 6 11 := ⟨jR_Chain, jT_Chain, jt_Chain, by decide, rfl, jin_Chain, by decide, jmem_1 209 (by decide +kernel) rfl, jty_Chain, jnm_Chain, fun z => by first | rfl | exact absurd z (by decide), fun z => by first | rfl | exact absurd z (by decide)⟩
theorem jf_Chain_23 : jF "YesNoPowers$Chain" 23 0 7 11 := ⟨jR_Chain, jT_Chain, jt_Chain, by decide, rfl, jin_Chain, by decide, jmem_1 210 (by decide +kernel) rfl, jty_Chain, jnm_Chain, fun z => by first | rfl | exact absurd z (by decide), fun z => by first | rfl | exact absurd z (by decide)⟩
theorem jf_Chain_28 : jF "YesNoPowers$Chain" 28 0 8 11 := ⟨jR_Chain, jT_Chain, jt_Chain, by decide, rfl, jin_Chain, by decide, jmem_1 211 (by decide +kernel) rfl, jty_Chain, jnm_Chain, fun z => by first | rfl | exact absurd z (by decide), fun z => by first | rfl | exact absurd z (by decide)⟩
theorem jf_Chain_32 : jF "YesNoPowers$Chain" 32 0 9 11 := ⟨jR_Chain, jT_Chain, jt_Chain, by decide, rfl, jin_Chain, by decide, jmem_1 212 (by decide +kernel) rfl, jty_Chain, jnm_Chain, fun z => by first | rfl | exact absurd z (by decide), fun z => by first | rfl | exact absurd z (by decide)⟩
theorem jf_Chain_38 : jF "YesNoPowers$Chain" 38 0 10 11 := ⟨jR_Chain, jT_Chain, jt_Chain, by decide, rfl, jin_Chain, by decide, jmem_1 213 (by decide +kernel) rfl, jty_Chain, jnm_Chain, fun z => by first | rfl | exact absurd z (by decide), fun z => by first | rfl | exact absurd z (by decide)⟩
theorem jf_Sheet_7 : jF "YesNoPowers$Sheet" 7 5 0 3 := ⟨jR_Sheet, jT_Sheet, jt_Sheet, by decide, rfl, jin_Sheet, by decide, jmem_2 3 (by decide +kernel) rfl, jty_Sheet, jnm_Sheet, fun z => by first | rfl | exact absurd z (by decide), fun z => by first | rfl | exact absurd z (by decide)⟩
theorem jf_Main_321 : jF "YesNoPowers" 321 5 0 3 := ⟨jR_Sheet, jT_Sheet, jt_Sheet, by decide, rfl, jin_Sheet, by decide, jmem_2 4 (by decide +kernel) rfl, jty_Sheet, jnm_Sheet, fun z => by first | rfl | exact absurd z (by decide), fun z => by first | rfl | exact absurd z (by decide)⟩
theorem jf_Sheet_17 : jF "YesNoPowers$Sheet" 17 5 1 3 := ⟨jR_Sheet, jT_Sheet, jt_Sheet, by decide, rfl, jin_Sheet, by decide, jmem_2 5 (by decide +kernel) rfl, jty_Sheet, jnm_Sheet, fun z => by first | rfl | exact absurd z (by decide), fun z => by first | rfl | exact absurd z (by decide)⟩
theorem jf_Main_151 : jF "YesNoPowers" 151 5 1 3 := ⟨jR_Sheet, jT_Sheet, jt_Sheet, by decide, rfl, jin_Sheet, by decide, jmem_2 6 (by decide +kernel) rfl, jty_Sheet, jnm_Sheet, fun z => by first | rfl | exact absurd z (by decide), fun z => by first | rfl | exact absurd z (by decide)⟩
theorem jf_Sheet_13 : jF "YesNoPowers$Sheet" 13 5 2 3 := ⟨jR_Sheet, jT_Sheet, jt_Sheet, by decide, rfl, jin_Sheet, by decide, jmem_2 7 (by decide +kernel) rfl, jty_Sheet, jnm_Sheet, fun z => by first | rfl | exact absurd z (by decide), fun z => by first | rfl | exact absurd z (by decide)⟩
theorem jf_Main_318 : jF "YesNoPowers" 318 5 2 3 := ⟨jR_Sheet, jT_Sheet, jt_Sheet, by decide, rfl, jin_Sheet, by decide, jmem_2 8 (by decide +kernel) rfl, jty_Sheet, jnm_Sheet, fun z => by first | rfl | exact absurd z (by decide), fun z => by first | rfl | exact absurd z (by decide)⟩
theorem jf_Main_11 : jF "YesNoPowers" 11 8 0 8 := ⟨jR_Main, jT_Main, jt_Main, by decide, rfl, jin_Main, by decide, jmem_2 16 (by decide +kernel) rfl, jty_Main, jnm_Main, fun z => by first | rfl | exact absurd z (by decide), fun z => by first | rfl | exact absurd z (by decide)⟩
theorem jf_Main_17 : jF "YesNoPowers" 17 8 1 8 := ⟨jR_Main, jT_Main, jt_Main, by decide, rfl, jin_Main, by decide, jmem_2 17 (by decide +kernel) rfl, jty_Main, jnm_Main, fun z => by first | rfl | exact absurd z (by decide), fun z => by first | rfl | exact absurd z (by decide)⟩
theorem jf_Main_24 : jF "YesNoPowers" 24 8 2 8 := ⟨jR_Main, jT_Main, jt_Main, by decide, rfl, jin_Main, by decide, jmem_2 18 (by decide +kernel) rfl, jty_Main, jnm_Main, fun z => by first | rfl | exact absurd z (by decide), fun z => by first | rfl | exact absurd z (by decide)⟩
theorem jf_Main_31 : jF "YesNoPowers" 31 8 3 8 := ⟨jR_Main, jT_Main, jt_Main, by decide, rfl, jin_Main, by decide, jmem_2 19 (by decide +kernel) rfl, jty_Main, jnm_Main, fun z => by first | rfl | exact absurd z (by decide), fun z => by first | rfl | exact absurd z (by decide)⟩
theorem jf_Main_38 : jF "YesNoPowers" 38 8 4 8 := ⟨jR_Main, jT_Main, jt_Main, by decide, rfl, jin_Main, by decide, jmem_2 20 (by decide +kernel) rfl, jty_Main, jnm_Main, fun z => by first | rfl | exact absurd z (by decide), fun z => by first | rfl | exact absurd z (by decide)⟩
theorem jf_Main_45 : jF "YesNoPowers" 45 8 5 8 := ⟨jR_Main, jT_Main, jt_Main, by decide, rfl, jin_Main, by decide, jmem_2 21 (by decide +kernel) rfl, jty_Main, jnm_Main, fun z => by first | rfl | exact absurd z (by decide), fun z => by first | rfl | exact absurd z (by decide)⟩
theorem jf_Main_52 : jF "YesNoPowers" 52 8 6 8 := ⟨jR_Main, jT_Main, jt_Main, by decide, rfl, jin_Main, by decide, jmem_2 22 (by decide +kernel) rfl, jty_Main, jnm_Main, fun z => by first | rfl | exact absurd z (by decide), fun z => by first | rfl | exact absurd z (by decide)⟩
theorem jf_Main_57 : jF "YesNoPowers" 57 8 7 8 := ⟨jR_Main, jT_Main, jt_Main, by decide, rfl, jin_Main, by decide, jmem_2 23 (by decide +kernel) rfl, jty_Main, jnm_Main, fun z => by first | rfl | exact absurd z (by decide), fun z => by first | rfl | exact absurd z (by decide)⟩
theorem jk_Law_13 : Cond.methodLink "YesNoPowersLaw" 13 jy_Main_make ∈ jtbl := jmem_2 41 (by decide +kernel) rfl
theorem jk_Main_62 : Cond.methodLink "YesNoPowers" 62 jy_Main_noSlot ∈ jtbl := jmem_2 45 (by decide +kernel) rfl
theorem jk_Main_69 : Cond.methodLink "YesNoPowers" 69 jy_Main_outOf ∈ jtbl := jmem_2 48 (by decide +kernel) rfl
theorem jk_Main_66 : Cond.methodLink "YesNoPowers" 66 jy_Main_noSize ∈ jtbl := jmem_2 51 (by decide +kernel) rfl
theorem jk_Main_73 : Cond.methodLink "YesNoPowers" 73 jy_Table_becomePlain ∈ jtbl := jmem_2 54 (by decide +kernel) rfl
theorem jk_Table_19 : Cond.methodLink "YesNoPowers$Table" 19 jy_Table_allColumns ∈ jtbl := jmem_2 58 (by decide +kernel) rfl
theorem jk_Main_77 : Cond.methodLink "YesNoPowers" 77 jy_Main_hold ∈ jtbl := jmem_2 62 (by decide +kernel) rfl
theorem jk_Main_339 : Cond.methodLink "YesNoPowers" 339 jy_Log_note ∈ jtbl := jmem_2 66 (by decide +kernel) rfl
theorem jk_Log_24 : Cond.methodLink "YesNoPowers$Log" 24 jy_Table_become ∈ jtbl := jmem_2 70 (by decide +kernel) rfl
theorem jk_Log_31 : Cond.methodLink "YesNoPowers$Log" 31 jy_J_min ∈ jtbl := jmem_2 74 (by decide +kernel) rfl
theorem jk_Main_85 : Cond.methodLink "YesNoPowers" 85 jy_Table_become ∈ jtbl := jmem_2 77 (by decide +kernel) rfl
theorem jk_Law_18 : Cond.methodLink "YesNoPowersLaw" 18 jy_Main_put ∈ jtbl := jmem_2 78 (by decide +kernel) rfl
theorem jk_Main_81 : Cond.methodLink "YesNoPowers" 81 jy_Main_noMember ∈ jtbl := jmem_2 82 (by decide +kernel) rfl
theorem jk_Main_103 : Cond.methodLink "YesNoPowers" 103 jy_Main_noTable ∈ jtbl := jmem_2 86 (by decide +kernel) rfl
theorem jk_Main_89 : Cond.methodLink "YesNoPowers" 89 jy_Table_entry ∈ jtbl := jmem_2 90 (by decide +kernel) rfl
theorem jk_Law_23 : Cond.methodLink "YesNoPowersLaw" 23 jy_Main_at ∈ jtbl := jmem_2 94 (by decide +kernel) rfl
theorem jk_Law_27 : Cond.methodLink "YesNoPowersLaw" 27 jy_Main_line ∈ jtbl := jmem_2 98 (by decide +kernel) rfl
theorem jk_Main_97 : Cond.methodLink "YesNoPowers" 97 jy_Table_column ∈ jtbl := jmem_2 102 (by decide +kernel) rfl
theorem jk_Table_23 : Cond.methodLink "YesNoPowers$Table" 23 jy_Table_entry ∈ jtbl := jmem_2 106 (by decide +kernel) rfl
theorem jk_Law_31 : Cond.methodLink "YesNoPowersLaw" 31 jy_Main_setRow ∈ jtbl := jmem_2 107 (by decide +kernel) rfl
theorem jk_Main_100 : Cond.methodLink "YesNoPowers" 100 jy_Table_lacksColumnOf ∈ jtbl := jmem_2 111 (by decide +kernel) rfl
theorem jk_Law_35 : Cond.methodLink "YesNoPowersLaw" 35 jy_Main_times ∈ jtbl := jmem_2 115 (by decide +kernel) rfl
theorem jk_Main_110 : Cond.methodLink "YesNoPowers" 110 jy_Table_multiplyBy ∈ jtbl := jmem_2 119 (by decide +kernel) rfl
theorem jk_Law_39 : Cond.methodLink "YesNoPowersLaw" 39 jy_Main_plus ∈ jtbl := jmem_2 123 (by decide +kernel) rfl
theorem jk_Main_113 : Cond.methodLink "YesNoPowers" 113 jy_Table_join ∈ jtbl := jmem_2 127 (by decide +kernel) rfl
theorem jk_Law_43 : Cond.methodLink "YesNoPowersLaw" 43 jy_Main_power ∈ jtbl := jmem_2 131 (by decide +kernel) rfl
theorem jk_Main_116 : Cond.constant "YesNoPowers" 116 (1000000) ∈ jtbl := jmem_2 135 (by decide +kernel) rfl
theorem jk_Main_117 : Cond.methodLink "YesNoPowers" 117 jy_Powers_raise ∈ jtbl := jmem_2 136 (by decide +kernel) rfl
theorem jk_Powers_23 : Cond.methodLink "YesNoPowers$Powers" 23 jy_Table_becomePlain ∈ jtbl := jmem_2 140 (by decide +kernel) rfl
theorem jk_Powers_27 : Cond.methodLink "YesNoPowers$Powers" 27 jy_Table_become ∈ jtbl := jmem_2 141 (by decide +kernel) rfl
theorem jk_Powers_31 : Cond.methodLink "YesNoPowers$Powers" 31 jy_Table_multiplyBy ∈ jtbl := jmem_2 142 (by decide +kernel) rfl
theorem jk_Law_47 : Cond.methodLink "YesNoPowersLaw" 47 jy_Main_derive ∈ jtbl := jmem_2 143 (by decide +kernel) rfl
theorem jk_Main_121 : Cond.methodLink "YesNoPowers" 121 jy_Table_turn ∈ jtbl := jmem_2 147 (by decide +kernel) rfl
theorem jk_Table_33 : Cond.methodLink "YesNoPowers$Table" 33 jy_Table_column ∈ jtbl := jmem_2 151 (by decide +kernel) rfl
theorem jk_Main_124 : Cond.methodLink "YesNoPowers" 124 jy_Spaces_findGreatest ∈ jtbl := jmem_2 152 (by decide +kernel) rfl
theorem jk_Spaces_55 : Cond.methodLink "YesNoPowers$Spaces" 55 jy_Table_turn ∈ jtbl := jmem_2 156 (by decide +kernel) rfl
theorem jk_Spaces_51 : Cond.methodLink "YesNoPowers$Spaces" 51 jy_Table_become ∈ jtbl := jmem_2 157 (by decide +kernel) rfl
theorem jk_Spaces_62 : Cond.methodLink "YesNoPowers$Spaces" 62 jy_Table_negate ∈ jtbl := jmem_2 158 (by decide +kernel) rfl
theorem jk_Spaces_65 : Cond.methodLink "YesNoPowers$Spaces" 65 jy_Table_multiplyBy ∈ jtbl := jmem_2 162 (by decide +kernel) rfl
theorem jk_Main_128 : Cond.methodLink "YesNoPowers" 128 jy_Table_negate ∈ jtbl := jmem_2 163 (by decide +kernel) rfl
theorem jk_Main_131 : Cond.methodLink "YesNoPowers" 131 jy_Table_close ∈ jtbl := jmem_2 164 (by decide +kernel) rfl
theorem jk_Law_51 : Cond.methodLink "YesNoPowersLaw" 51 jy_Main_clear ∈ jtbl := jmem_2 168 (by decide +kernel) rfl
theorem jk_Law_56 : Cond.methodLink "YesNoPowersLaw" 56 jy_Main_same ∈ jtbl := jmem_2 172 (by decide +kernel) rfl
theorem jk_Main_134 : Cond.methodLink "YesNoPowers" 134 jy_Table_isLike ∈ jtbl := jmem_2 176 (by decide +kernel) rfl
theorem jk_Law_61 : Cond.methodLink "YesNoPowersLaw" 61 jy_Main_load ∈ jtbl := jmem_2 180 (by decide +kernel) rfl
theorem jk_Main_138 : Cond.methodLink "YesNoPowers" 138 jy_Main_noSheet ∈ jtbl := jmem_2 184 (by decide +kernel) rfl
theorem jk_Main_141 : Cond.methodLink "YesNoPowers" 141 jy_Sheet_isMissing ∈ jtbl := jmem_2 187 (by decide +kernel) rfl
theorem jk_Main_145 : Cond.methodLink "YesNoPowers" 145 jy_Sheet_lacks ∈ jtbl := jmem_2 191 (by decide +kernel) rfl
theorem jk_Main_148 : Cond.methodLink "YesNoPowers" 148 jy_Sheet_rowAt ∈ jtbl := jmem_2 195 (by decide +kernel) rfl
theorem jk_Law_65 : Cond.methodLink "YesNoPowersLaw" 65 jy_Main_spill ∈ jtbl := jmem_2 199 (by decide +kernel) rfl
theorem jk_Main_154 : Cond.methodLink "YesNoPowers" 154 jy_J_min ∈ jtbl := jmem_2 203 (by decide +kernel) rfl
theorem jk_Main_159 : Cond.methodLink "YesNoPowers" 159 jy_Sheet_write ∈ jtbl := jmem_2 204 (by decide +kernel) rfl
theorem jk_Law_69 : Cond.methodLink "YesNoPowersLaw" 69 jy_Main_told ∈ jtbl := jmem_2 208 (by decide +kernel) rfl
theorem jk_Main_162 : Cond.methodLink "YesNoPowers" 162 jy_Powers_exponent ∈ jtbl := jmem_2 212 (by decide +kernel) rfl
theorem jk_Powers_50 : Cond.methodLink "YesNoPowers$Powers" 50 jy_Table_isEverywhere ∈ jtbl := jmem_2 216 (by decide +kernel) rfl
theorem jk_Main_166 : Cond.methodLink "YesNoPowers" 166 jy_Table_ones ∈ jtbl := jmem_2 220 (by decide +kernel) rfl
theorem jk_Table_27 : Cond.methodLink "YesNoPowers$Table" 27 jy_J_bitCount ∈ jtbl := jmem_2 224 (by decide +kernel) rfl
theorem jk_JInt_265 : Cond.constant "java/lang/Integer" 265 (1431655765) ∈ jtbl := jmem_2 227 (by decide +kernel) rfl
theorem jk_JInt_266 : Cond.constant "java/lang/Integer" 266 (858993459) ∈ jtbl := jmem_2 228 (by decide +kernel) rfl
theorem jk_JInt_267 : Cond.constant "java/lang/Integer" 267 (252645135) ∈ jtbl := jmem_2 229 (by decide +kernel) rfl
theorem jk_Main_170 : Cond.methodLink "YesNoPowers" 170 jy_Main_isOwnSquare ∈ jtbl := jmem_2 230 (by decide +kernel) rfl
theorem jk_Main_173 : Cond.methodLink "YesNoPowers" 173 jy_Main_isOwnTranspose ∈ jtbl := jmem_2 234 (by decide +kernel) rfl
theorem jk_Main_176 : Cond.methodLink "YesNoPowers" 176 jy_Powers_findCycle ∈ jtbl := jmem_2 238 (by decide +kernel) rfl
theorem jk_Powers_34 : Cond.methodLink "YesNoPowers$Powers" 34 jy_Powers_findPeriod ∈ jtbl := jmem_3 2 (by decide +kernel) rfl
theorem jk_Powers_43 : Cond.methodLink "YesNoPowers$Powers" 43 jy_Table_isLike ∈ jtbl := jmem_3 6 (by decide +kernel) rfl
theorem jk_Powers_37 : Cond.methodLink "YesNoPowers$Powers" 37 jy_Powers_findIndex ∈ jtbl := jmem_3 7 (by decide +kernel) rfl
theorem jk_Main_185 : Cond.methodLink "YesNoPowers" 185 jy_Powers_idempotent ∈ jtbl := jmem_3 11 (by decide +kernel) rfl
theorem jk_Law_73 : Cond.methodLink "YesNoPowersLaw" 73 jy_Main_reaches ∈ jtbl := jmem_3 15 (by decide +kernel) rfl
theorem jk_Main_188 : Cond.methodLink "YesNoPowers" 188 jy_Powers_firstLike ∈ jtbl := jmem_3 19 (by decide +kernel) rfl
theorem jk_Law_77 : Cond.methodLink "YesNoPowersLaw" 77 jy_Main_bound ∈ jtbl := jmem_3 23 (by decide +kernel) rfl
theorem jk_Main_192 : Cond.methodLink "YesNoPowers" 192 jy_Rings_read ∈ jtbl := jmem_3 27 (by decide +kernel) rfl
theorem jk_Rings_44 : Cond.methodLink "YesNoPowers$Rings" 44 jy_Rings_findClasses ∈ jtbl := jmem_3 31 (by decide +kernel) rfl
theorem jk_Rings_69 : Cond.methodLink "YesNoPowers$Rings" 69 jy_Table_become ∈ jtbl := jmem_3 35 (by decide +kernel) rfl
theorem jk_Rings_72 : Cond.methodLink "YesNoPowers$Rings" 72 jy_Table_close ∈ jtbl := jmem_3 36 (by decide +kernel) rfl
theorem jk_Rings_81 : Cond.methodLink "YesNoPowers$Rings" 81 jy_Table_column ∈ jtbl := jmem_3 37 (by decide +kernel) rfl
theorem jk_Rings_85 : Cond.methodLink "YesNoPowers$Rings" 85 jy_Rings_settle ∈ jtbl := jmem_3 38 (by decide +kernel) rfl
theorem jk_Rings_48 : Cond.methodLink "YesNoPowers$Rings" 48 jy_Rings_findGirths ∈ jtbl := jmem_3 42 (by decide +kernel) rfl
theorem jk_Rings_89 : Cond.methodLink "YesNoPowers$Rings" 89 jy_Table_entry ∈ jtbl := jmem_3 46 (by decide +kernel) rfl
theorem jk_Rings_93 : Cond.methodLink "YesNoPowers$Rings" 93 jy_Table_multiplyBy ∈ jtbl := jmem_3 47 (by decide +kernel) rfl
theorem jk_Rings_51 : Cond.methodLink "YesNoPowers$Rings" 51 jy_Rings_findLevels ∈ jtbl := jmem_3 48 (by decide +kernel) rfl
theorem jk_Rings_96 : Cond.methodLink "YesNoPowers$Rings" 96 jy_Rings_raiseLevels ∈ jtbl := jmem_3 52 (by decide +kernel) rfl
theorem jk_Rings_58 : Cond.methodLink "YesNoPowers$Rings" 58 jy_Rings_findDistances ∈ jtbl := jmem_3 56 (by decide +kernel) rfl
theorem jk_Rings_62 : Cond.methodLink "YesNoPowers$Rings" 62 jy_Rings_findPeriod ∈ jtbl := jmem_3 60 (by decide +kernel) rfl
theorem jk_Rings_99 : Cond.methodLink "YesNoPowers$Rings" 99 jy_J_abs ∈ jtbl := jmem_3 64 (by decide +kernel) rfl
theorem jk_Rings_104 : Cond.methodLink "YesNoPowers$Rings" 104 jy_Rings_commonDivisor ∈ jtbl := jmem_3 67 (by decide +kernel) rfl
theorem jk_Rings_65 : Cond.methodLink "YesNoPowers$Rings" 65 jy_Rings_findBelow ∈ jtbl := jmem_3 70 (by decide +kernel) rfl
theorem jk_Main_198 : Cond.methodLink "YesNoPowers" 198 jy_Table_loops ∈ jtbl := jmem_3 74 (by decide +kernel) rfl
theorem jk_Law_81 : Cond.methodLink "YesNoPowersLaw" 81 jy_Main_classes ∈ jtbl := jmem_3 78 (by decide +kernel) rfl
theorem jk_Law_85 : Cond.methodLink "YesNoPowersLaw" 85 jy_Main_classOf ∈ jtbl := jmem_3 82 (by decide +kernel) rfl
theorem jk_Law_89 : Cond.methodLink "YesNoPowersLaw" 89 jy_Main_ofClass ∈ jtbl := jmem_3 86 (by decide +kernel) rfl
theorem jk_Main_207 : Cond.methodLink "YesNoPowers" 207 jy_Main_readsClass ∈ jtbl := jmem_3 90 (by decide +kernel) rfl
theorem jk_Main_216 : Cond.methodLink "YesNoPowers" 216 jy_J_bitCount ∈ jtbl := jmem_3 94 (by decide +kernel) rfl
theorem jk_Law_93 : Cond.methodLink "YesNoPowersLaw" 93 jy_Main_part ∈ jtbl := jmem_3 95 (by decide +kernel) rfl
theorem jk_Main_229 : Cond.methodLink "YesNoPowers" 229 jy_Rings_partOf ∈ jtbl := jmem_3 99 (by decide +kernel) rfl
theorem jk_Law_97 : Cond.methodLink "YesNoPowersLaw" 97 jy_Main_parts ∈ jtbl := jmem_3 103 (by decide +kernel) rfl
theorem jk_Law_101 : Cond.methodLink "YesNoPowersLaw" 101 jy_Main_rest ∈ jtbl := jmem_3 107 (by decide +kernel) rfl
theorem jk_Main_232 : Cond.methodLink "YesNoPowers" 232 jy_J_floorMod ∈ jtbl := jmem_3 111 (by decide +kernel) rfl
theorem jk_Law_105 : Cond.methodLink "YesNoPowersLaw" 105 jy_Main_space ∈ jtbl := jmem_3 114 (by decide +kernel) rfl
theorem jk_Main_235 : Cond.methodLink "YesNoPowers" 235 jy_Spaces_isRegular ∈ jtbl := jmem_3 118 (by decide +kernel) rfl
theorem jk_Spaces_68 : Cond.methodLink "YesNoPowers$Spaces" 68 jy_Spaces_findGreatest ∈ jtbl := jmem_3 122 (by decide +kernel) rfl
theorem jk_Spaces_72 : Cond.methodLink "YesNoPowers$Spaces" 72 jy_Table_isLike ∈ jtbl := jmem_3 123 (by decide +kernel) rfl
theorem jk_Main_238 : Cond.methodLink "YesNoPowers" 238 jy_Spaces_unionsOf ∈ jtbl := jmem_3 124 (by decide +kernel) rfl
theorem jk_Spaces_36 : Cond.methodLink "YesNoPowers$Spaces" 36 jy_Table_allColumns ∈ jtbl := jmem_3 128 (by decide +kernel) rfl
theorem jk_Spaces_40 : Cond.methodLink "YesNoPowers$Spaces" 40 jy_Spaces_hasUnion ∈ jtbl := jmem_3 129 (by decide +kernel) rfl
theorem jk_Main_241 : Cond.methodLink "YesNoPowers" 241 jy_Spaces_basisSize ∈ jtbl := jmem_3 133 (by decide +kernel) rfl
theorem jk_Spaces_44 : Cond.methodLink "YesNoPowers$Spaces" 44 jy_Spaces_nextOfBasis ∈ jtbl := jmem_3 137 (by decide +kernel) rfl
theorem jk_Spaces_48 : Cond.methodLink "YesNoPowers$Spaces" 48 jy_Spaces_isMadeUp ∈ jtbl := jmem_3 141 (by decide +kernel) rfl
theorem jk_Law_109 : Cond.methodLink "YesNoPowersLaw" 109 jy_Main_basis ∈ jtbl := jmem_3 145 (by decide +kernel) rfl
theorem jk_Main_244 : Cond.methodLink "YesNoPowers" 244 jy_Spaces_nextOfBasis ∈ jtbl := jmem_3 149 (by decide +kernel) rfl
theorem jk_Law_113 : Cond.methodLink "YesNoPowersLaw" 113 jy_Main_spans ∈ jtbl := jmem_3 150 (by decide +kernel) rfl
theorem jk_Main_248 : Cond.methodLink "YesNoPowers" 248 jy_Spaces_hasUnion ∈ jtbl := jmem_3 154 (by decide +kernel) rfl
theorem jk_Law_117 : Cond.methodLink "YesNoPowersLaw" 117 jy_Main_alike ∈ jtbl := jmem_3 155 (by decide +kernel) rfl
theorem jk_Main_252 : Cond.methodLink "YesNoPowers" 252 jy_Spaces_areAlike ∈ jtbl := jmem_3 159 (by decide +kernel) rfl
theorem jk_Spaces_58 : Cond.methodLink "YesNoPowers$Spaces" 58 jy_Spaces_spansRows ∈ jtbl := jmem_3 163 (by decide +kernel) rfl
theorem jk_Law_121 : Cond.methodLink "YesNoPowersLaw" 121 jy_Main_roots ∈ jtbl := jmem_3 167 (by decide +kernel) rfl
theorem jk_Main_256 : Cond.methodLink "YesNoPowers" 256 jy_Table_number ∈ jtbl := jmem_3 171 (by decide +kernel) rfl
theorem jk_Main_258 : Cond.methodLink "YesNoPowers" 258 jy_Roots_countOf ∈ jtbl := jmem_3 175 (by decide +kernel) rfl
theorem jk_Roots_7 : Cond.methodLink "YesNoPowers$Roots" 7 jy_Roots_countBelow ∈ jtbl := jmem_3 178 (by decide +kernel) rfl
theorem jk_Roots_16 : Cond.methodLink "YesNoPowers$Roots" 16 jy_Roots_raised ∈ jtbl := jmem_3 181 (by decide +kernel) rfl
theorem jk_Roots_20 : Cond.methodLink "YesNoPowers$Roots" 20 jy_Roots_product ∈ jtbl := jmem_3 184 (by decide +kernel) rfl
theorem jk_Roots_23 : Cond.fieldLink "YesNoPowers$Roots" 23 "YesNoPowers$Roots" "ROW_STARTS" "[I" ∈ jtbl := jmem_3 187 (by decide +kernel) rfl
theorem jk_Law_125 : Cond.methodLink "YesNoPowersLaw" 125 jy_Main_root ∈ jtbl := jmem_3 189 (by decide +kernel) rfl
theorem jk_Main_264 : Cond.methodLink "YesNoPowers" 264 jy_Roots_leastOf ∈ jtbl := jmem_3 193 (by decide +kernel) rfl
theorem jk_Roots_13 : Cond.methodLink "YesNoPowers$Roots" 13 jy_Roots_leastBelow ∈ jtbl := jmem_3 196 (by decide +kernel) rfl
theorem jk_Main_267 : Cond.methodLink "YesNoPowers" 267 jy_Table_becomeNumbered ∈ jtbl := jmem_3 199 (by decide +kernel) rfl
theorem jk_Law_129 : Cond.methodLink "YesNoPowersLaw" 129 jy_Main_link ∈ jtbl := jmem_3 203 (by decide +kernel) rfl
theorem jk_Main_270 : Cond.methodLink "YesNoPowers" 270 jy_Main_badForKind ∈ jtbl := jmem_3 207 (by decide +kernel) rfl
theorem jk_Main_273 : Cond.methodLink "YesNoPowers" 273 jy_Chain_isFull ∈ jtbl := jmem_3 211 (by decide +kernel) rfl
theorem jk_Main_276 : Cond.methodLink "YesNoPowers" 276 jy_Chain_append ∈ jtbl := jmem_3 215 (by decide +kernel) rfl
theorem jk_Chain_47 : Cond.methodLink "YesNoPowers$Chain" 47 jy_Chain_isFull ∈ jtbl := jmem_3 219 (by decide +kernel) rfl
theorem jk_Chain_60 : Cond.methodLink "YesNoPowers$Chain" 60 jy_Table_become ∈ jtbl := jmem_3 220 (by decide +kernel) rfl
theorem jk_Law_133 : Cond.methodLink "YesNoPowersLaw" 133 jy_Main_run ∈ jtbl := jmem_3 221 (by decide +kernel) rfl
theorem jk_Main_281 : Cond.methodLink "YesNoPowers" 281 jy_Chain_pass ∈ jtbl := jmem_3 225 (by decide +kernel) rfl
theorem jk_Chain_73 : Cond.methodLink "YesNoPowers$Chain" 73 jy_Chain_partner ∈ jtbl := jmem_3 229 (by decide +kernel) rfl
theorem jk_Chain_80 : Cond.methodLink "YesNoPowers$Chain" 80 jy_Chain_change ∈ jtbl := jmem_3 233 (by decide +kernel) rfl
theorem jk_Chain_91 : Cond.methodLink "YesNoPowers$Chain" 91 jy_Table_turn ∈ jtbl := jmem_3 237 (by decide +kernel) rfl
theorem jk_Chain_94 : Cond.methodLink "YesNoPowers$Chain" 94 jy_Table_negate ∈ jtbl := jmem_3 238 (by decide +kernel) rfl
theorem jk_Chain_97 : Cond.methodLink "YesNoPowers$Chain" 97 jy_Table_multiplyBy ∈ jtbl := jmem_3 239 (by decide +kernel) rfl
theorem jk_Chain_100 : Cond.methodLink "YesNoPowers$Chain" 100 jy_Table_join ∈ jtbl := jmem_4 0 (by decide +kernel) rfl
theorem jk_Chain_103 : Cond.methodLink "YesNoPowers$Chain" 103 jy_Powers_raise ∈ jtbl := jmem_4 1 (by decide +kernel) rfl
theorem jk_Chain_107 : Cond.methodLink "YesNoPowers$Chain" 107 jy_Table_close ∈ jtbl := jmem_4 2 (by decide +kernel) rfl
theorem jk_Chain_110 : Cond.methodLink "YesNoPowers$Chain" 110 jy_Table_meet ∈ jtbl := jmem_4 3 (by decide +kernel) rfl
theorem jk_Chain_84 : Cond.methodLink "YesNoPowers$Chain" 84 jy_Chain_giveReasons ∈ jtbl := jmem_4 7 (by decide +kernel) rfl
theorem jk_Chain_88 : Cond.methodLink "YesNoPowers$Chain" 88 jy_Chain_giveBack ∈ jtbl := jmem_4 11 (by decide +kernel) rfl
theorem jk_Law_137 : Cond.methodLink "YesNoPowersLaw" 137 jy_Main_would ∈ jtbl := jmem_4 15 (by decide +kernel) rfl
theorem jk_Law_141 : Cond.methodLink "YesNoPowersLaw" 141 jy_Main_closing ∈ jtbl := jmem_4 19 (by decide +kernel) rfl
theorem jk_Law_145 : Cond.methodLink "YesNoPowersLaw" 145 jy_Main_reason ∈ jtbl := jmem_4 23 (by decide +kernel) rfl
theorem jk_Law_149 : Cond.methodLink "YesNoPowersLaw" 149 jy_Main_loosen ∈ jtbl := jmem_4 27 (by decide +kernel) rfl
theorem jk_Law_154 : Cond.methodLink "YesNoPowersLaw" 154 jy_Main_undo ∈ jtbl := jmem_4 31 (by decide +kernel) rfl
theorem jk_Main_303 : Cond.methodLink "YesNoPowers" 303 jy_Log_latestSlot ∈ jtbl := jmem_4 35 (by decide +kernel) rfl
theorem jk_Log_37 : Cond.methodLink "YesNoPowers$Log" 37 jy_Log_latest ∈ jtbl := jmem_4 39 (by decide +kernel) rfl
theorem jk_Main_306 : Cond.methodLink "YesNoPowers" 306 jy_Log_latestTable ∈ jtbl := jmem_4 43 (by decide +kernel) rfl
theorem jk_Main_310 : Cond.methodLink "YesNoPowers" 310 jy_Log_dropLatest ∈ jtbl := jmem_4 47 (by decide +kernel) rfl
theorem jk_Law_158 : Cond.methodLink "YesNoPowersLaw" 158 jy_Main_sheet ∈ jtbl := jmem_4 51 (by decide +kernel) rfl
theorem jk_Main_313 : Cond.methodLink "YesNoPowers" 313 jy_Sheet_begin ∈ jtbl := jmem_4 55 (by decide +kernel) rfl
theorem jk_Law_162 : Cond.methodLink "YesNoPowersLaw" 162 jy_Main_cell ∈ jtbl := jmem_4 59 (by decide +kernel) rfl
theorem jk_Law_166 : Cond.methodLink "YesNoPowersLaw" 166 jy_Main_item ∈ jtbl := jmem_4 63 (by decide +kernel) rfl
theorem jk_Main_316 : Cond.constantLong "YesNoPowers" 316 (-9223372036854775808) ∈ jtbl := jmem_4 67 (by decide +kernel) rfl
theorem jk_Law_171 : Cond.methodLink "YesNoPowersLaw" 171 jy_Main_shift ∈ jtbl := jmem_4 68 (by decide +kernel) rfl
theorem jk_Main_324 : Cond.methodLink "YesNoPowers" 324 arraycopyName ∈ jtbl := jmem_4 72 (by decide +kernel) rfl
theorem jk_Law_176 : Cond.methodLink "YesNoPowersLaw" 176 jy_Main_count ∈ jtbl := jmem_4 75 (by decide +kernel) rfl
theorem jk_Main_330 : Cond.methodLink "YesNoPowers" 330 jy_Main_heldTables ∈ jtbl := jmem_4 79 (by decide +kernel) rfl
theorem jk_Main_333 : Cond.methodLink "YesNoPowers" 333 jy_Main_presentSheets ∈ jtbl := jmem_4 83 (by decide +kernel) rfl
theorem jf_Model_7 : jF "YesNoPowersModel" 7 9 0 24 := ⟨jR_Model, jT_Model, jt_Model, by decide, rfl, jin_Model, by decide, jmem_4 93 (by decide +kernel) rfl, jty_Model, jnm_Model, fun z => by first | rfl | exact absurd z (by decide), fun z => by first | rfl | exact absurd z (by decide)⟩
theorem jf_Model_13 : jF "YesNoPowersModel" 13 9 1 24 := ⟨jR_Model, jT_Model, jt_Model, by decide, rfl, jin_Model, by decide, jmem_4 94 (by decide +kernel) rfl, jty_Model, jnm_Model, fun z => by first | rfl | exact absurd z (by decide), fun z => by first | rfl | exact absurd z (by decide)⟩
theorem jf_Model_59 : jF "YesNoPowersModel" 59 9 2 24 := ⟨jR_Model, jT_Model, jt_Model, by decide, rfl, jin_Model, by decide, jmem_4 95 (by decide +kernel) rfl, jty_Model, jnm_Model, fun z => by first | rfl | exact absurd z (by decide), fun z => by first | rfl | exact absurd z (by decide)⟩
theorem jf_Model_16 : jF "YesNoPowersModel" 16 9 3 24 := ⟨jR_Model, jT_Model, jt_Model, by decide, rfl, jin_Model, by decide, jmem_4 96 (by decide +kernel) rfl, jty_Model, jnm_Model, fun z => by first | rfl | exact absurd z (by decide), fun z => by first | rfl | exact absurd z (by decide)⟩
theorem jf_Model_252 : jF "YesNoPowersModel" 252 9 4 24 := ⟨jR_Model, jT_Model, jt_Model, by decide, rfl, jin_Model, by decide, jmem_4 97 (by decide +kernel) rfl, jty_Model, jnm_Model, fun z => by first | rfl | exact absurd z (by decide), fun z => by first | rfl | exact absurd z (by decide)⟩
theorem jf_Model_19 : jF "YesNoPowersModel" 19 9 5 24 := ⟨jR_Model, jT_Model, jt_Model, by decide, rfl, jin_Model, by decide, jmem_4 98 (by decide +kernel) rfl, jty_Model, jnm_Model, fun z => by first | rfl | exact absurd z (by decide), fun z => by first | rfl | exact absurd z (by decide)⟩
theorem jf_Model_22 : jF "YesNoPowersModel" 22 9 6 24 := ⟨jR_Model, jT_Model, jt_Model, by decide, rfl, jin_Model, by decide, jmem_4 99 (by decide +kernel) rfl, jty_Model, jnm_Model, fun z => by first | rfl | exact absurd z (by decide), fun z => by first | rfl | exact absurd z (by decide)⟩
theorem jf_Model_261 : jF "YesNoPowersModel" 261 9 7 24 := ⟨jR_Model, jT_Model, jt_Model, by decide, rfl, jin_Model, by decide, jmem_4 100 (by decide +kernel) rfl, jty_Model, jnm_Model, fun z => by first | rfl | exact absurd z (by decide), fun z => by first | rfl | exact absurd z (by decide)⟩
theorem jf_Model_264 : jF "YesNoPowersModel" 264 9 8 24 := ⟨jR_Model, jT_Model, jt_Model, by decide, rfl, jin_Model, by decide, jmem_4 101 (by decide +kernel) rfl, jty_Model, jnm_Model, fun z => by first | rfl | exact absurd z (by decide), fun z => by first | rfl | exact absurd z (by decide)⟩
theorem jf_Model_25 : jF "YesNoPowersModel" 25 9 9 24 := ⟨jR_Model, jT_Model, jt_Model, by decide, rfl, jin_Model, by decide, jmem_4 102 (by decide +kernel) rfl, jty_Model, jnm_Model, fun z => by first | rfl | exact absurd z (by decide), fun z => by first | rfl | exact absurd z (by decide)⟩
theorem jf_Model_28 : jF "YesNoPowersModel" 28 9 10 24 := ⟨jR_Model, jT_Model, jt_Model, by decide, rfl, jin_Model, by decide, jmem_4 103 (by decide +kernel) rfl, jty_Model, jnm_Model, fun z => by first | rfl | exact absurd z (by decide), fun z => by first | rfl | exact absurd z (by decide)⟩
theorem jf_Model_147 : jF "YesNoPowersModel" 147 9 11 24 := ⟨jR_Model, jT_Model, jt_Model, by decide, rfl, jin_Model, by decide, jmem_4 104 (by decide +kernel) rfl, jty_Model, jnm_Model, fun z => by first | rfl | exact absurd z (by decide), fun z => by first | rfl | exact absurd z (by decide)⟩
theorem jf_Model_153 : jF "YesNoPowersModel" 153 9 12 24 := ⟨jR_Model, jT_Model, jt_Model, by decide, rfl, jin_Model, by decide, jmem_4 105 (by decide +kernel) rfl, jty_Model, jnm_Model, fun z => by first | rfl | exact absurd z (by decide), fun z => by first | rfl | exact absurd z (by decide)⟩
theorem jf_Model_183 : jF "YesNoPowersModel" 183 9 13 24 := ⟨jR_Model, jT_Model, jt_Model, by decide, rfl, jin_Model, by decide, jmem_4 106 (by decide +kernel) rfl, jty_Model, jnm_Model, fun z => by first | rfl | exact absurd z (by decide), fun z => by first | rfl | exact absurd z (by decide)⟩
theorem jf_Model_31 : jF "YesNoPowersModel" 31 9 14 24 := ⟨jR_Model, jT_Model, jt_Model, by decide, rfl, jin_Model, by decide, jmem_4 107 (by decide +kernel) rfl, jty_Model, jnm_Model, fun z => by first | rfl | exact absurd z (by decide), fun z => by first | rfl | exact absurd z (by decide)⟩
theorem jf_Model_34 : jF "YesNoPowersModel" 34 9 15 24 := ⟨jR_Model, jT_Model, jt_Model, by decide, rfl, jin_Model, by decide, jmem_4 108 (by decide +kernel) rfl, jty_Model, jnm_Model, fun z => by first | rfl | exact absurd z (by decide), fun z => by first | rfl | exact absurd z (by decide)⟩
theorem jf_Model_37 : jF "YesNoPowersModel" 37 9 16 24 := ⟨jR_Model, jT_Model, jt_Model, by decide, rfl, jin_Model, by decide, jmem_4 109 (by decide +kernel) rfl, jty_Model, jnm_Model, fun z => by first | rfl | exact absurd z (by decide), fun z => by first | rfl | exact absurd z (by decide)⟩
theorem jf_Model_40 : jF "YesNoPowersModel" 40 9 17 24 := ⟨jR_Model, jT_Model, jt_Model, by decide, rfl, jin_Model, by decide, jmem_4 110 (by decide +kernel) rfl, jty_Model, jnm_Model, fun z => by first | rfl | exact absurd z (by decide), fun z => by first | rfl | exact absurd z (by decide)⟩
theorem jf_Model_43 : jF "YesNoPowersModel" 43 9 18 24 := ⟨jR_Model, jT_Model, jt_Model, by decide, rfl, jin_Model, by decide, jmem_4 111 (by decide +kernel) rfl, jty_Model, jnm_Model, fun z => by first | rfl | exact absurd z (by decide), fun z => by first | rfl | exact absurd z (by decide)⟩
theorem jf_Model_47 : jF "YesNoPowersModel" 47 9 19 24 := ⟨jR_Model, jT_Model, jt_Model, by decide, rfl, jin_Model, by decide, jmem_4 112 (by decide +kernel) rfl, jty_Model, jnm_Model, fun z => by first | rfl | exact absurd z (by decide), fun z => by first | rfl | exact absurd z (by decide)⟩
theorem jf_Model_219 : jF "YesNoPowersModel" 219 9 20 24 := ⟨jR_Model, jT_Model, jt_Model, by decide, rfl, jin_Model, by decide, jmem_4 113 (by decide +kernel) rfl, jty_Model, jnm_Model, fun z => by first | rfl | exact absurd z (by decide), fun z => by first | rfl | exact absurd z (by decide)⟩
theorem jf_Model_50 : jF "YesNoPowersModel" 50 9 21 24 := ⟨jR_Model, jT_Model, jt_Model, by decide, rfl, jin_Model, by decide, jmem_4 114 (by decide +kernel) rfl, jty_Model, jnm_Model, fun z => by first | rfl | exact absurd z (by decide), fun z => by first | rfl | exact absurd z (by decide)⟩
theorem jf_Model_53 : jF "YesNoPowersModel" 53 9 22 24 := ⟨jR_Model, jT_Model, jt_Model, by decide, rfl, jin_Model, by decide, jmem_4 115 (by decide +kernel) rfl, jty_Model, jnm_Model, fun z => by first | rfl | exact absurd z (by decide), fun z => by first | rfl | exact absurd z (by decide)⟩
theorem jf_Model_56 : jF "YesNoPowersModel" 56 9 23 24 := ⟨jR_Model, jT_Model, jt_Model, by decide, rfl, jin_Model, by decide, jmem_4 116 (by decide +kernel) rfl, jty_Model, jnm_Model, fun z => by first | rfl | exact absurd z (by decide), fun z => by first | rfl | exact absurd z (by decide)⟩
theorem jk_Law_157 : Cond.methodLink "YesNoPowersLaw" 157 jy_Model_undo ∈ jtbl := jmem_4 167 (by decide +kernel) rfl
theorem jk_Model_85 : Cond.methodLink "YesNoPowersModel" 85 jy_Model_copyTo ∈ jtbl := jmem_4 171 (by decide +kernel) rfl
theorem jk_Law_17 : Cond.methodLink "YesNoPowersLaw" 17 jy_Model_make ∈ jtbl := jmem_4 175 (by decide +kernel) rfl
theorem jk_Model_63 : Cond.methodLink "YesNoPowersModel" 63 jy_Model_isSlot ∈ jtbl := jmem_4 179 (by decide +kernel) rfl
theorem jk_Model_105 : Cond.constantLong "YesNoPowersModel" 105 (12) ∈ jtbl := jmem_4 182 (by decide +kernel) rfl
theorem jk_Model_107 : Cond.methodLink "YesNoPowersModel" 107 jy_Model_in ∈ jtbl := jmem_4 183 (by decide +kernel) rfl
theorem jk_Model_111 : Cond.constantLong "YesNoPowersModel" 111 (4) ∈ jtbl := jmem_4 186 (by decide +kernel) rfl
theorem jk_Model_75 : Cond.methodLink "YesNoPowersModel" 75 jy_Model_empty ∈ jtbl := jmem_4 187 (by decide +kernel) rfl
theorem jk_Model_113 : Cond.methodLink "YesNoPowersModel" 113 jy_Model_comes ∈ jtbl := jmem_4 191 (by decide +kernel) rfl
theorem jk_Model_102 : Cond.methodLink "YesNoPowersModel" 102 jy_Model_logs ∈ jtbl := jmem_4 195 (by decide +kernel) rfl
theorem jk_Law_22 : Cond.methodLink "YesNoPowersLaw" 22 jy_Model_put ∈ jtbl := jmem_4 199 (by decide +kernel) rfl
theorem jk_Model_117 : Cond.methodLink "YesNoPowersModel" 117 jy_Model_holds ∈ jtbl := jmem_4 203 (by decide +kernel) rfl
theorem jk_Model_120 : Cond.methodLink "YesNoPowersModel" 120 jy_Model_isMember ∈ jtbl := jmem_4 207 (by decide +kernel) rfl
theorem jk_Model_67 : Cond.methodLink "YesNoPowersModel" 67 jy_Model_leads ∈ jtbl := jmem_4 211 (by decide +kernel) rfl
theorem jk_Model_71 : Cond.methodLink "YesNoPowersModel" 71 jy_Model_row ∈ jtbl := jmem_4 215 (by decide +kernel) rfl
theorem jk_Law_26 : Cond.methodLink "YesNoPowersLaw" 26 jy_Model_at ∈ jtbl := jmem_4 219 (by decide +kernel) rfl
theorem jk_Law_30 : Cond.methodLink "YesNoPowersLaw" 30 jy_Model_line ∈ jtbl := jmem_4 223 (by decide +kernel) rfl
theorem jk_Model_79 : Cond.methodLink "YesNoPowersModel" 79 jy_Model_column ∈ jtbl := jmem_4 227 (by decide +kernel) rfl
theorem jk_Law_34 : Cond.methodLink "YesNoPowersLaw" 34 jy_Model_setRow ∈ jtbl := jmem_4 231 (by decide +kernel) rfl
theorem jk_Model_124 : Cond.methodLink "YesNoPowersModel" 124 jy_Model_isSet ∈ jtbl := jmem_4 235 (by decide +kernel) rfl
theorem jk_Law_38 : Cond.methodLink "YesNoPowersLaw" 38 jy_Model_times ∈ jtbl := jmem_4 239 (by decide +kernel) rfl
theorem jk_Model_88 : Cond.methodLink "YesNoPowersModel" 88 jy_Model_multiply ∈ jtbl := jmem_5 3 (by decide +kernel) rfl
theorem jk_Law_42 : Cond.methodLink "YesNoPowersLaw" 42 jy_Model_plus ∈ jtbl := jmem_5 7 (by decide +kernel) rfl
theorem jk_Model_92 : Cond.methodLink "YesNoPowersModel" 92 jy_Model_addTo ∈ jtbl := jmem_5 11 (by decide +kernel) rfl
theorem jk_Law_46 : Cond.methodLink "YesNoPowersLaw" 46 jy_Model_power ∈ jtbl := jmem_5 15 (by decide +kernel) rfl
theorem jk_Model_127 : Cond.constantLong "YesNoPowersModel" 127 (1000000) ∈ jtbl := jmem_5 19 (by decide +kernel) rfl
theorem jk_Model_129 : Cond.methodLink "YesNoPowersModel" 129 jy_Model_powerTo ∈ jtbl := jmem_5 20 (by decide +kernel) rfl
theorem jk_Model_82 : Cond.methodLink "YesNoPowersModel" 82 jy_Model_unit ∈ jtbl := jmem_5 24 (by decide +kernel) rfl
theorem jk_Law_50 : Cond.methodLink "YesNoPowersLaw" 50 jy_Model_derive ∈ jtbl := jmem_5 28 (by decide +kernel) rfl
theorem jk_Model_95 : Cond.methodLink "YesNoPowersModel" 95 jy_Model_transpose ∈ jtbl := jmem_5 32 (by decide +kernel) rfl
theorem jk_Model_98 : Cond.methodLink "YesNoPowersModel" 98 jy_Model_complement ∈ jtbl := jmem_5 36 (by decide +kernel) rfl
theorem jk_Model_132 : Cond.methodLink "YesNoPowersModel" 132 jy_Model_closureTo ∈ jtbl := jmem_5 40 (by decide +kernel) rfl
theorem jk_Model_135 : Cond.methodLink "YesNoPowersModel" 135 jy_Model_greatestTo ∈ jtbl := jmem_5 44 (by decide +kernel) rfl
theorem jk_Law_55 : Cond.methodLink "YesNoPowersLaw" 55 jy_Model_clear ∈ jtbl := jmem_5 48 (by decide +kernel) rfl
theorem jk_Law_60 : Cond.methodLink "YesNoPowersLaw" 60 jy_Model_same ∈ jtbl := jmem_5 52 (by decide +kernel) rfl
theorem jk_Model_138 : Cond.methodLink "YesNoPowersModel" 138 jy_Model_areSame ∈ jtbl := jmem_5 56 (by decide +kernel) rfl
theorem jk_Law_64 : Cond.methodLink "YesNoPowersLaw" 64 jy_Model_load ∈ jtbl := jmem_5 60 (by decide +kernel) rfl
theorem jk_Model_141 : Cond.methodLink "YesNoPowersModel" 141 jy_Model_isSheet ∈ jtbl := jmem_5 64 (by decide +kernel) rfl
theorem jk_Law_68 : Cond.methodLink "YesNoPowersLaw" 68 jy_Model_spill ∈ jtbl := jmem_5 67 (by decide +kernel) rfl
theorem jk_Model_144 : Cond.methodLink "YesNoPowersModel" 144 jy_Model_lowest ∈ jtbl := jmem_5 71 (by decide +kernel) rfl
theorem jk_Law_72 : Cond.methodLink "YesNoPowersLaw" 72 jy_Model_told ∈ jtbl := jmem_5 75 (by decide +kernel) rfl
theorem jk_Model_162 : Cond.constantLong "YesNoPowersModel" 162 (7) ∈ jtbl := jmem_5 79 (by decide +kernel) rfl
theorem jk_Model_164 : Cond.methodLink "YesNoPowersModel" 164 jy_Model_layPowers ∈ jtbl := jmem_5 80 (by decide +kernel) rfl
theorem jk_Model_150 : Cond.methodLink "YesNoPowersModel" 150 jy_Model_isPower ∈ jtbl := jmem_5 84 (by decide +kernel) rfl
theorem jk_Model_167 : Cond.methodLink "YesNoPowersModel" 167 jy_Model_idempotent ∈ jtbl := jmem_5 88 (by decide +kernel) rfl
theorem jk_Model_156 : Cond.methodLink "YesNoPowersModel" 156 jy_Model_spot ∈ jtbl := jmem_5 92 (by decide +kernel) rfl
theorem jk_Model_171 : Cond.methodLink "YesNoPowersModel" 171 jy_Model_exponent ∈ jtbl := jmem_5 96 (by decide +kernel) rfl
theorem jk_Model_174 : Cond.methodLink "YesNoPowersModel" 174 jy_Model_isOwnSquare ∈ jtbl := jmem_5 100 (by decide +kernel) rfl
theorem jk_Model_177 : Cond.methodLink "YesNoPowersModel" 177 jy_Model_isTurned ∈ jtbl := jmem_5 104 (by decide +kernel) rfl
theorem jk_Model_180 : Cond.methodLink "YesNoPowersModel" 180 jy_Model_onesIn ∈ jtbl := jmem_5 108 (by decide +kernel) rfl
theorem jk_Model_159 : Cond.methodLink "YesNoPowersModel" 159 jy_Model_bits ∈ jtbl := jmem_5 112 (by decide +kernel) rfl
theorem jk_Law_76 : Cond.methodLink "YesNoPowersLaw" 76 jy_Model_reaches ∈ jtbl := jmem_5 115 (by decide +kernel) rfl
theorem jk_Law_84 : Cond.methodLink "YesNoPowersLaw" 84 jy_Model_classes ∈ jtbl := jmem_5 119 (by decide +kernel) rfl
theorem jk_Model_192 : Cond.methodLink "YesNoPowersModel" 192 jy_Model_layWalks ∈ jtbl := jmem_5 123 (by decide +kernel) rfl
theorem jk_Law_88 : Cond.methodLink "YesNoPowersLaw" 88 jy_Model_classOf ∈ jtbl := jmem_5 127 (by decide +kernel) rfl
theorem jk_Law_92 : Cond.methodLink "YesNoPowersLaw" 92 jy_Model_ofClass ∈ jtbl := jmem_5 131 (by decide +kernel) rfl
theorem jk_Model_195 : Cond.methodLink "YesNoPowersModel" 195 jy_Model_isClass ∈ jtbl := jmem_5 135 (by decide +kernel) rfl
theorem jk_Model_189 : Cond.methodLink "YesNoPowersModel" 189 jy_Model_leastOf ∈ jtbl := jmem_5 139 (by decide +kernel) rfl
theorem jk_Model_198 : Cond.methodLink "YesNoPowersModel" 198 jy_Model_membersOf ∈ jtbl := jmem_5 143 (by decide +kernel) rfl
theorem jk_Model_201 : Cond.methodLink "YesNoPowersModel" 201 jy_Model_roundsOf ∈ jtbl := jmem_5 147 (by decide +kernel) rfl
theorem jk_Model_186 : Cond.methodLink "YesNoPowersModel" 186 jy_Model_divisor ∈ jtbl := jmem_5 151 (by decide +kernel) rfl
theorem jk_Model_205 : Cond.methodLink "YesNoPowersModel" 205 jy_Model_levelOf ∈ jtbl := jmem_5 154 (by decide +kernel) rfl
theorem jk_Model_208 : Cond.methodLink "YesNoPowersModel" 208 jy_Model_belowOf ∈ jtbl := jmem_5 158 (by decide +kernel) rfl
theorem jk_Law_96 : Cond.methodLink "YesNoPowersLaw" 96 jy_Model_part ∈ jtbl := jmem_5 162 (by decide +kernel) rfl
theorem jk_Model_211 : Cond.methodLink "YesNoPowersModel" 211 jy_Model_partBy ∈ jtbl := jmem_5 166 (by decide +kernel) rfl
theorem jk_Law_100 : Cond.methodLink "YesNoPowersLaw" 100 jy_Model_parts ∈ jtbl := jmem_5 170 (by decide +kernel) rfl
theorem jk_Law_104 : Cond.methodLink "YesNoPowersLaw" 104 jy_Model_rest ∈ jtbl := jmem_5 174 (by decide +kernel) rfl
theorem jk_Law_80 : Cond.methodLink "YesNoPowersLaw" 80 jy_Model_bound ∈ jtbl := jmem_5 178 (by decide +kernel) rfl
theorem jk_Model_214 : Cond.constantLong "YesNoPowersModel" 214 (3) ∈ jtbl := jmem_5 182 (by decide +kernel) rfl
theorem jk_Model_216 : Cond.methodLink "YesNoPowersModel" 216 jy_Model_leastGirth ∈ jtbl := jmem_5 183 (by decide +kernel) rfl
theorem jk_Law_108 : Cond.methodLink "YesNoPowersLaw" 108 jy_Model_space ∈ jtbl := jmem_5 187 (by decide +kernel) rfl
theorem jk_Model_222 : Cond.methodLink "YesNoPowersModel" 222 jy_Model_isRegular ∈ jtbl := jmem_5 191 (by decide +kernel) rfl
theorem jk_Model_225 : Cond.methodLink "YesNoPowersModel" 225 jy_Model_layBasis ∈ jtbl := jmem_5 195 (by decide +kernel) rfl
theorem jk_Model_228 : Cond.methodLink "YesNoPowersModel" 228 jy_Model_layUnions ∈ jtbl := jmem_5 199 (by decide +kernel) rfl
theorem jk_Law_112 : Cond.methodLink "YesNoPowersLaw" 112 jy_Model_basis ∈ jtbl := jmem_5 203 (by decide +kernel) rfl
theorem jk_Law_116 : Cond.methodLink "YesNoPowersLaw" 116 jy_Model_spans ∈ jtbl := jmem_5 207 (by decide +kernel) rfl
theorem jk_Law_120 : Cond.methodLink "YesNoPowersLaw" 120 jy_Model_alike ∈ jtbl := jmem_5 211 (by decide +kernel) rfl
theorem jk_Model_231 : Cond.methodLink "YesNoPowersModel" 231 jy_Model_isWithin ∈ jtbl := jmem_5 215 (by decide +kernel) rfl
theorem jk_Law_124 : Cond.methodLink "YesNoPowersLaw" 124 jy_Model_roots ∈ jtbl := jmem_5 219 (by decide +kernel) rfl
theorem jk_Model_241 : Cond.methodLink "YesNoPowersModel" 241 jy_Model_isDegree ∈ jtbl := jmem_5 223 (by decide +kernel) rfl
theorem jk_Model_237 : Cond.constantLong "YesNoPowersModel" 237 (2) ∈ jtbl := jmem_5 226 (by decide +kernel) rfl
theorem jk_Model_239 : Cond.constantLong "YesNoPowersModel" 239 (8) ∈ jtbl := jmem_5 227 (by decide +kernel) rfl
theorem jk_Model_244 : Cond.methodLink "YesNoPowersModel" 244 jy_Model_isRoot ∈ jtbl := jmem_5 228 (by decide +kernel) rfl
theorem jk_Model_234 : Cond.methodLink "YesNoPowersModel" 234 jy_Model_layNumber ∈ jtbl := jmem_5 232 (by decide +kernel) rfl
theorem jk_Law_128 : Cond.methodLink "YesNoPowersLaw" 128 jy_Model_root ∈ jtbl := jmem_5 236 (by decide +kernel) rfl
theorem jk_Law_132 : Cond.methodLink "YesNoPowersLaw" 132 jy_Model_link ∈ jtbl := jmem_6 0 (by decide +kernel) rfl
theorem jk_Model_249 : Cond.methodLink "YesNoPowersModel" 249 jy_Model_isLink ∈ jtbl := jmem_6 4 (by decide +kernel) rfl
theorem jk_Model_247 : Cond.constantLong "YesNoPowersModel" 247 (99) ∈ jtbl := jmem_6 8 (by decide +kernel) rfl
theorem jk_Law_136 : Cond.methodLink "YesNoPowersLaw" 136 jy_Model_run ∈ jtbl := jmem_6 9 (by decide +kernel) rfl
theorem jk_Model_273 : Cond.methodLink "YesNoPowersModel" 273 jy_Model_goes ∈ jtbl := jmem_6 13 (by decide +kernel) rfl
theorem jk_Model_267 : Cond.methodLink "YesNoPowersModel" 267 jy_Model_stopsAt ∈ jtbl := jmem_6 17 (by decide +kernel) rfl
theorem jk_Model_255 : Cond.methodLink "YesNoPowersModel" 255 jy_Model_otherOf ∈ jtbl := jmem_6 21 (by decide +kernel) rfl
theorem jk_Model_270 : Cond.methodLink "YesNoPowersModel" 270 jy_Model_goesThrough ∈ jtbl := jmem_6 25 (by decide +kernel) rfl
theorem jk_Model_258 : Cond.methodLink "YesNoPowersModel" 258 jy_Model_meetWith ∈ jtbl := jmem_6 29 (by decide +kernel) rfl
theorem jk_Law_140 : Cond.methodLink "YesNoPowersLaw" 140 jy_Model_would ∈ jtbl := jmem_6 33 (by decide +kernel) rfl
theorem jk_Law_144 : Cond.methodLink "YesNoPowersLaw" 144 jy_Model_closing ∈ jtbl := jmem_6 37 (by decide +kernel) rfl
theorem jk_Law_148 : Cond.methodLink "YesNoPowersLaw" 148 jy_Model_reason ∈ jtbl := jmem_6 41 (by decide +kernel) rfl
theorem jk_Law_153 : Cond.methodLink "YesNoPowersLaw" 153 jy_Model_loosen ∈ jtbl := jmem_6 45 (by decide +kernel) rfl
theorem jk_Law_161 : Cond.methodLink "YesNoPowersLaw" 161 jy_Model_sheet ∈ jtbl := jmem_6 49 (by decide +kernel) rfl
theorem jk_Model_276 : Cond.constantLong "YesNoPowersModel" 276 (-1) ∈ jtbl := jmem_6 53 (by decide +kernel) rfl
theorem jk_Law_165 : Cond.methodLink "YesNoPowersLaw" 165 jy_Model_cell ∈ jtbl := jmem_6 54 (by decide +kernel) rfl
theorem jk_Law_170 : Cond.methodLink "YesNoPowersLaw" 170 jy_Model_item ∈ jtbl := jmem_6 58 (by decide +kernel) rfl
theorem jk_Model_278 : Cond.constantLong "YesNoPowersModel" 278 (-9223372036854775808) ∈ jtbl := jmem_6 62 (by decide +kernel) rfl
theorem jk_Law_175 : Cond.methodLink "YesNoPowersLaw" 175 jy_Model_shift ∈ jtbl := jmem_6 63 (by decide +kernel) rfl
theorem jk_Law_179 : Cond.methodLink "YesNoPowersLaw" 179 jy_Model_count ∈ jtbl := jmem_6 67 (by decide +kernel) rfl
theorem jk_native : Cond.native arraycopyName ∈ jtbl := jmem_4 74 (by decide +kernel) rfl
theorem jk_cstatic : Cond.static arraycopyName ∈ jtbl := jmem_4 73 (by decide +kernel) rfl
theorem jk_csys : Cond.initialized "java/lang/System" ∈ jtbl := jmem_1 14 (by decide +kernel) rfl

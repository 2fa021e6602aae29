theorem d_Model_in_0 : decode jc_Model_in 0 = .ok (.lload_n 0, 1) := by decide +kernel
theorem d_Model_in_1 : decode jc_Model_in 1 = .ok (.lload_n 2, 1) := by decide +kernel
theorem d_Model_in_2 : decode jc_Model_in 2 = .ok (.lcmp, 1) := by decide +kernel
theorem d_Model_in_3 : decode jc_Model_in 3 = .ok (.ifCond .lt 14, 3) := by decide +kernel
theorem d_Model_in_6 : decode jc_Model_in 6 = .ok (.lload_n 0, 1) := by decide +kernel
theorem d_Model_in_7 : decode jc_Model_in 7 = .ok (.lload 4, 2) := by decide +kernel
theorem d_Model_in_9 : decode jc_Model_in 9 = .ok (.lcmp, 1) := by decide +kernel
theorem d_Model_in_10 : decode jc_Model_in 10 = .ok (.ifCond .gt 7, 3) := by decide +kernel
theorem d_Model_in_13 : decode jc_Model_in 13 = .ok (.iconst 1, 1) := by decide +kernel
theorem d_Model_in_14 : decode jc_Model_in 14 = .ok (.goto 4, 3) := by decide +kernel
theorem d_Model_in_17 : decode jc_Model_in 17 = .ok (.iconst 0, 1) := by decide +kernel
theorem d_Model_in_18 : decode jc_Model_in 18 = .ok (.ireturn, 1) := by decide +kernel
theorem d_Model_bits_0 : decode jc_Model_bits 0 = .ok (.iconst 0, 1) := by decide +kernel
theorem d_Model_bits_1 : decode jc_Model_bits 1 = .ok (.istore_n 1, 1) := by decide +kernel
theorem d_Model_bits_2 : decode jc_Model_bits 2 = .ok (.iload_n 0, 1) := by decide +kernel
theorem d_Model_bits_3 : decode jc_Model_bits 3 = .ok (.istore_n 2, 1) := by decide +kernel
theorem d_Model_bits_4 : decode jc_Model_bits 4 = .ok (.iload_n 2, 1) := by decide +kernel
theorem d_Model_bits_5 : decode jc_Model_bits 5 = .ok (.ifCond .eq 15, 3) := by decide +kernel
theorem d_Model_bits_8 : decode jc_Model_bits 8 = .ok (.iinc 1 1, 3) := by decide +kernel
theorem d_Model_bits_11 : decode jc_Model_bits 11 = .ok (.iload_n 2, 1) := by decide +kernel
theorem d_Model_bits_12 : decode jc_Model_bits 12 = .ok (.iload_n 2, 1) := by decide +kernel
theorem d_Model_bits_13 : decode jc_Model_bits 13 = .ok (.iconst 1, 1) := by decide +kernel
theorem d_Model_bits_14 : decode jc_Model_bits 14 = .ok (.isub, 1) := by decide +kernel
theorem d_Model_bits_15 : decode jc_Model_bits 15 = .ok (.iand, 1) := by decide +kernel
theorem d_Model_bits_16 : decode jc_Model_bits 16 = .ok (.istore_n 2, 1) := by decide +kernel
theorem d_Model_bits_17 : decode jc_Model_bits 17 = .ok (.goto (-13), 3) := by decide +kernel
theorem d_Model_bits_20 : decode jc_Model_bits 20 = .ok (.iload_n 1, 1) := by decide +kernel
theorem d_Model_bits_21 : decode jc_Model_bits 21 = .ok (.ireturn, 1) := by decide +kernel
theorem d_Model_isSlot_0 : decode jc_Model_isSlot 0 = .ok (.iload_n 0, 1) := by decide +kernel
theorem d_Model_isSlot_1 : decode jc_Model_isSlot 1 = .ok (.ifCond .lt 13, 3) := by decide +kernel
theorem d_Model_isSlot_4 : decode jc_Model_isSlot 4 = .ok (.iload_n 0, 1) := by decide +kernel
theorem d_Model_isSlot_5 : decode jc_Model_isSlot 5 = .ok (.bipush 6, 2) := by decide +kernel
theorem d_Model_isSlot_7 : decode jc_Model_isSlot 7 = .ok (.if_icmp .ge 7, 3) := by decide +kernel
theorem d_Model_isSlot_10 : decode jc_Model_isSlot 10 = .ok (.iconst 1, 1) := by decide +kernel
theorem d_Model_isSlot_11 : decode jc_Model_isSlot 11 = .ok (.goto 4, 3) := by decide +kernel
theorem d_Model_isSlot_14 : decode jc_Model_isSlot 14 = .ok (.iconst 0, 1) := by decide +kernel
theorem d_Model_isSlot_15 : decode jc_Model_isSlot 15 = .ok (.ireturn, 1) := by decide +kernel
theorem d_Model_holds_0 : decode jc_Model_holds 0 = .ok (.iload_n 1, 1) := by decide +kernel
theorem d_Model_holds_1 : decode jc_Model_holds 1 = .ok (.invokestatic 63, 3) := by decide +kernel
theorem d_Model_holds_4 : decode jc_Model_holds 4 = .ok (.ifCond .eq 16, 3) := by decide +kernel
theorem d_Model_holds_7 : decode jc_Model_holds 7 = .ok (.aload_n 0, 1) := by decide +kernel
theorem d_Model_holds_8 : decode jc_Model_holds 8 = .ok (.getfield 13, 3) := by decide +kernel
theorem d_Model_holds_11 : decode jc_Model_holds 11 = .ok (.iload_n 1, 1) := by decide +kernel
theorem d_Model_holds_12 : decode jc_Model_holds 12 = .ok (.iaload, 1) := by decide +kernel
theorem d_Model_holds_13 : decode jc_Model_holds 13 = .ok (.ifCond .le 7, 3) := by decide +kernel
theorem d_Model_holds_16 : decode jc_Model_holds 16 = .ok (.iconst 1, 1) := by decide +kernel
theorem d_Model_holds_17 : decode jc_Model_holds 17 = .ok (.goto 4, 3) := by decide +kernel
theorem d_Model_holds_20 : decode jc_Model_holds 20 = .ok (.iconst 0, 1) := by decide +kernel
theorem d_Model_holds_21 : decode jc_Model_holds 21 = .ok (.ireturn, 1) := by decide +kernel
theorem d_Model_isMember_0 : decode jc_Model_isMember 0 = .ok (.iload_n 2, 1) := by decide +kernel
theorem d_Model_isMember_1 : decode jc_Model_isMember 1 = .ok (.ifCond .lt 17, 3) := by decide +kernel
theorem d_Model_isMember_4 : decode jc_Model_isMember 4 = .ok (.iload_n 2, 1) := by decide +kernel
theorem d_Model_isMember_5 : decode jc_Model_isMember 5 = .ok (.aload_n 0, 1) := by decide +kernel
theorem d_Model_isMember_6 : decode jc_Model_isMember 6 = .ok (.getfield 13, 3) := by decide +kernel
theorem d_Model_isMember_9 : decode jc_Model_isMember 9 = .ok (.iload_n 1, 1) := by decide +kernel
theorem d_Model_isMember_10 : decode jc_Model_isMember 10 = .ok (.iaload, 1) := by decide +kernel
theorem d_Model_isMember_11 : decode jc_Model_isMember 11 = .ok (.if_icmp .ge 7, 3) := by decide +kernel
theorem d_Model_isMember_14 : decode jc_Model_isMember 14 = .ok (.iconst 1, 1) := by decide +kernel
theorem d_Model_isMember_15 : decode jc_Model_isMember 15 = .ok (.goto 4, 3) := by decide +kernel
theorem d_Model_isMember_18 : decode jc_Model_isMember 18 = .ok (.iconst 0, 1) := by decide +kernel
theorem d_Model_isMember_19 : decode jc_Model_isMember 19 = .ok (.ireturn, 1) := by decide +kernel
theorem d_Model_isSet_0 : decode jc_Model_isSet 0 = .ok (.iload_n 2, 1) := by decide +kernel
theorem d_Model_isSet_1 : decode jc_Model_isSet 1 = .ok (.ifCond .lt 19, 3) := by decide +kernel
theorem d_Model_isSet_4 : decode jc_Model_isSet 4 = .ok (.iload_n 2, 1) := by decide +kernel
theorem d_Model_isSet_5 : decode jc_Model_isSet 5 = .ok (.iconst 1, 1) := by decide +kernel
theorem d_Model_isSet_6 : decode jc_Model_isSet 6 = .ok (.aload_n 0, 1) := by decide +kernel
theorem d_Model_isSet_7 : decode jc_Model_isSet 7 = .ok (.getfield 13, 3) := by decide +kernel
theorem d_Model_isSet_10 : decode jc_Model_isSet 10 = .ok (.iload_n 1, 1) := by decide +kernel
theorem d_Model_isSet_11 : decode jc_Model_isSet 11 = .ok (.iaload, 1) := by decide +kernel
theorem d_Model_isSet_12 : decode jc_Model_isSet 12 = .ok (.ishl, 1) := by decide +kernel
theorem d_Model_isSet_13 : decode jc_Model_isSet 13 = .ok (.if_icmp .ge 7, 3) := by decide +kernel
theorem d_Model_isSet_16 : decode jc_Model_isSet 16 = .ok (.iconst 1, 1) := by decide +kernel
theorem d_Model_isSet_17 : decode jc_Model_isSet 17 = .ok (.goto 4, 3) := by decide +kernel
theorem d_Model_isSet_20 : decode jc_Model_isSet 20 = .ok (.iconst 0, 1) := by decide +kernel
theorem d_Model_isSet_21 : decode jc_Model_isSet 21 = .ok (.ireturn, 1) := by decide +kernel
theorem d_Model_row_0 : decode jc_Model_row 0 = .ok (.aload_n 0, 1) := by decide +kernel
theorem d_Model_row_1 : decode jc_Model_row 1 = .ok (.getfield 7, 3) := by decide +kernel
theorem d_Model_row_4 : decode jc_Model_row 4 = .ok (.bipush 12, 2) := by decide +kernel
theorem d_Model_row_6 : decode jc_Model_row 6 = .ok (.iload_n 1, 1) := by decide +kernel
theorem d_Model_row_7 : decode jc_Model_row 7 = .ok (.imul, 1) := by decide +kernel
theorem d_Model_row_8 : decode jc_Model_row 8 = .ok (.iload_n 2, 1) := by decide +kernel
theorem d_Model_row_9 : decode jc_Model_row 9 = .ok (.iadd, 1) := by decide +kernel
theorem d_Model_row_10 : decode jc_Model_row 10 = .ok (.iaload, 1) := by decide +kernel
theorem d_Model_row_11 : decode jc_Model_row 11 = .ok (.ireturn, 1) := by decide +kernel
theorem d_Model_leads_0 : decode jc_Model_leads 0 = .ok (.aload_n 0, 1) := by decide +kernel
theorem d_Model_leads_1 : decode jc_Model_leads 1 = .ok (.getfield 7, 3) := by decide +kernel
theorem d_Model_leads_4 : decode jc_Model_leads 4 = .ok (.bipush 12, 2) := by decide +kernel
theorem d_Model_leads_6 : decode jc_Model_leads 6 = .ok (.iload_n 1, 1) := by decide +kernel
theorem d_Model_leads_7 : decode jc_Model_leads 7 = .ok (.imul, 1) := by decide +kernel
theorem d_Model_leads_8 : decode jc_Model_leads 8 = .ok (.iload_n 2, 1) := by decide +kernel
theorem d_Model_leads_9 : decode jc_Model_leads 9 = .ok (.iadd, 1) := by decide +kernel
theorem d_Model_leads_10 : decode jc_Model_leads 10 = .ok (.iaload, 1) := by decide +kernel
theorem d_Model_leads_11 : decode jc_Model_leads 11 = .ok (.iload_n 3, 1) := by decide +kernel
theorem d_Model_leads_12 : decode jc_Model_leads 12 = .ok (.ishr, 1) := by decide +kernel
theorem d_Model_leads_13 : decode jc_Model_leads 13 = .ok (.iconst 1, 1) := by decide +kernel
theorem d_Model_leads_14 : decode jc_Model_leads 14 = .ok (.iand, 1) := by decide +kernel
theorem d_Model_leads_15 : decode jc_Model_leads 15 = .ok (.iconst 1, 1) := by decide +kernel
theorem d_Model_leads_16 : decode jc_Model_leads 16 = .ok (.if_icmp .ne 7, 3) := by decide +kernel
theorem d_Model_leads_19 : decode jc_Model_leads 19 = .ok (.iconst 1, 1) := by decide +kernel
theorem d_Model_leads_20 : decode jc_Model_leads 20 = .ok (.goto 4, 3) := by decide +kernel
theorem d_Model_leads_23 : decode jc_Model_leads 23 = .ok (.iconst 0, 1) := by decide +kernel
theorem d_Model_leads_24 : decode jc_Model_leads 24 = .ok (.ireturn, 1) := by decide +kernel
theorem d_Model_column_0 : decode jc_Model_column 0 = .ok (.iconst 0, 1) := by decide +kernel
theorem d_Model_column_1 : decode jc_Model_column 1 = .ok (.istore_n 3, 1) := by decide +kernel
theorem d_Model_column_2 : decode jc_Model_column 2 = .ok (.iconst 0, 1) := by decide +kernel
theorem d_Model_column_3 : decode jc_Model_column 3 = .ok (.istore 4, 2) := by decide +kernel
theorem d_Model_column_5 : decode jc_Model_column 5 = .ok (.iload 4, 2) := by decide +kernel
theorem d_Model_column_7 : decode jc_Model_column 7 = .ok (.aload_n 0, 1) := by decide +kernel
theorem d_Model_column_8 : decode jc_Model_column 8 = .ok (.getfield 13, 3) := by decide +kernel
theorem d_Model_column_11 : decode jc_Model_column 11 = .ok (.iload_n 1, 1) := by decide +kernel
theorem d_Model_column_12 : decode jc_Model_column 12 = .ok (.iaload, 1) := by decide +kernel
theorem d_Model_column_13 : decode jc_Model_column 13 = .ok (.if_icmp .ge 31, 3) := by decide +kernel
theorem d_Model_column_16 : decode jc_Model_column 16 = .ok (.iload_n 3, 1) := by decide +kernel
theorem d_Model_column_17 : decode jc_Model_column 17 = .ok (.aload_n 0, 1) := by decide +kernel
theorem d_Model_column_18 : decode jc_Model_column 18 = .ok (.iload_n 1, 1) := by decide +kernel
theorem d_Model_column_19 : decode jc_Model_column 19 = .ok (.iload 4, 2) := by decide +kernel
theorem d_Model_column_21 : decode jc_Model_column 21 = .ok (.iload_n 2, 1) := by decide +kernel
theorem d_Model_column_22 : decode jc_Model_column 22 = .ok (.invokevirtual 67, 3) := by decide +kernel
theorem d_Model_column_25 : decode jc_Model_column 25 = .ok (.ifCond .eq 10, 3) := by decide +kernel
theorem d_Model_column_28 : decode jc_Model_column 28 = .ok (.iconst 1, 1) := by decide +kernel
theorem d_Model_column_29 : decode jc_Model_column 29 = .ok (.iload 4, 2) := by decide +kernel
theorem d_Model_column_31 : decode jc_Model_column 31 = .ok (.ishl, 1) := by decide +kernel
theorem d_Model_column_32 : decode jc_Model_column 32 = .ok (.goto 4, 3) := by decide +kernel
theorem d_Model_column_35 : decode jc_Model_column 35 = .ok (.iconst 0, 1) := by decide +kernel
theorem d_Model_column_36 : decode jc_Model_column 36 = .ok (.ior, 1) := by decide +kernel
theorem d_Model_column_37 : decode jc_Model_column 37 = .ok (.istore_n 3, 1) := by decide +kernel
theorem d_Model_column_38 : decode jc_Model_column 38 = .ok (.iinc 4 1, 3) := by decide +kernel
theorem d_Model_column_41 : decode jc_Model_column 41 = .ok (.goto (-36), 3) := by decide +kernel
theorem d_Model_column_44 : decode jc_Model_column 44 = .ok (.iload_n 3, 1) := by decide +kernel
theorem d_Model_column_45 : decode jc_Model_column 45 = .ok (.ireturn, 1) := by decide +kernel
theorem d_Model_copyTo_0 : decode jc_Model_copyTo 0 = .ok (.aload_n 0, 1) := by decide +kernel
theorem d_Model_copyTo_1 : decode jc_Model_copyTo 1 = .ok (.getfield 13, 3) := by decide +kernel
theorem d_Model_copyTo_4 : decode jc_Model_copyTo 4 = .ok (.iload_n 2, 1) := by decide +kernel
theorem d_Model_copyTo_5 : decode jc_Model_copyTo 5 = .ok (.aload_n 0, 1) := by decide +kernel
theorem d_Model_copyTo_6 : decode jc_Model_copyTo 6 = .ok (.getfield 13, 3) := by decide +kernel
theorem d_Model_copyTo_9 : decode jc_Model_copyTo 9 = .ok (.iload_n 1, 1) := by decide +kernel
theorem d_Model_copyTo_10 : decode jc_Model_copyTo 10 = .ok (.iaload, 1) := by decide +kernel
theorem d_Model_copyTo_11 : decode jc_Model_copyTo 11 = .ok (.iastore, 1) := by decide +kernel
theorem d_Model_copyTo_12 : decode jc_Model_copyTo 12 = .ok (.iconst 0, 1) := by decide +kernel
theorem d_Model_copyTo_13 : decode jc_Model_copyTo 13 = .ok (.istore_n 3, 1) := by decide +kernel
theorem d_Model_copyTo_14 : decode jc_Model_copyTo 14 = .ok (.iload_n 3, 1) := by decide +kernel
theorem d_Model_copyTo_15 : decode jc_Model_copyTo 15 = .ok (.bipush 12, 2) := by decide +kernel
theorem d_Model_copyTo_17 : decode jc_Model_copyTo 17 = .ok (.if_icmp .ge 31, 3) := by decide +kernel
theorem d_Model_copyTo_20 : decode jc_Model_copyTo 20 = .ok (.aload_n 0, 1) := by decide +kernel
theorem d_Model_copyTo_21 : decode jc_Model_copyTo 21 = .ok (.getfield 7, 3) := by decide +kernel
theorem d_Model_copyTo_24 : decode jc_Model_copyTo 24 = .ok (.bipush 12, 2) := by decide +kernel
theorem d_Model_copyTo_26 : decode jc_Model_copyTo 26 = .ok (.iload_n 2, 1) := by decide +kernel
theorem d_Model_copyTo_27 : decode jc_Model_copyTo 27 = .ok (.imul, 1) := by decide +kernel
theorem d_Model_copyTo_28 : decode jc_Model_copyTo 28 = .ok (.iload_n 3, 1) := by decide +kernel
theorem d_Model_copyTo_29 : decode jc_Model_copyTo 29 = .ok (.iadd, 1) := by decide +kernel
theorem d_Model_copyTo_30 : decode jc_Model_copyTo 30 = .ok (.aload_n 0, 1) := by decide +kernel
theorem d_Model_copyTo_31 : decode jc_Model_copyTo 31 = .ok (.getfield 7, 3) := by decide +kernel
theorem d_Model_copyTo_34 : decode jc_Model_copyTo 34 = .ok (.bipush 12, 2) := by decide +kernel
theorem d_Model_copyTo_36 : decode jc_Model_copyTo 36 = .ok (.iload_n 1, 1) := by decide +kernel
theorem d_Model_copyTo_37 : decode jc_Model_copyTo 37 = .ok (.imul, 1) := by decide +kernel
theorem d_Model_copyTo_38 : decode jc_Model_copyTo 38 = .ok (.iload_n 3, 1) := by decide +kernel
theorem d_Model_copyTo_39 : decode jc_Model_copyTo 39 = .ok (.iadd, 1) := by decide +kernel
theorem d_Model_copyTo_40 : decode jc_Model_copyTo 40 = .ok (.iaload, 1) := by decide +kernel
theorem d_Model_copyTo_41 : decode jc_Model_copyTo 41 = .ok (.iastore, 1) := by decide +kernel
theorem d_Model_copyTo_42 : decode jc_Model_copyTo 42 = .ok (.iinc 3 1, 3) := by decide +kernel
theorem d_Model_copyTo_45 : decode jc_Model_copyTo 45 = .ok (.goto (-31), 3) := by decide +kernel
theorem d_Model_copyTo_48 : decode jc_Model_copyTo 48 = .ok (.return_, 1) := by decide +kernel
theorem d_Model_areSame_0 : decode jc_Model_areSame 0 = .ok (.aload_n 0, 1) := by decide +kernel
theorem d_Model_areSame_1 : decode jc_Model_areSame 1 = .ok (.getfield 13, 3) := by decide +kernel
theorem d_Model_areSame_4 : decode jc_Model_areSame 4 = .ok (.iload_n 1, 1) := by decide +kernel
theorem d_Model_areSame_5 : decode jc_Model_areSame 5 = .ok (.iaload, 1) := by decide +kernel
theorem d_Model_areSame_6 : decode jc_Model_areSame 6 = .ok (.aload_n 0, 1) := by decide +kernel
theorem d_Model_areSame_7 : decode jc_Model_areSame 7 = .ok (.getfield 13, 3) := by decide +kernel
theorem d_Model_areSame_10 : decode jc_Model_areSame 10 = .ok (.iload_n 2, 1) := by decide +kernel
theorem d_Model_areSame_11 : decode jc_Model_areSame 11 = .ok (.iaload, 1) := by decide +kernel
theorem d_Model_areSame_12 : decode jc_Model_areSame 12 = .ok (.if_icmp .ne 7, 3) := by decide +kernel
theorem d_Model_areSame_15 : decode jc_Model_areSame 15 = .ok (.iconst 1, 1) := by decide +kernel
theorem d_Model_areSame_16 : decode jc_Model_areSame 16 = .ok (.goto 4, 3) := by decide +kernel
theorem d_Model_areSame_19 : decode jc_Model_areSame 19 = .ok (.iconst 0, 1) := by decide +kernel
theorem d_Model_areSame_20 : decode jc_Model_areSame 20 = .ok (.istore_n 3, 1) := by decide +kernel
theorem d_Model_areSame_21 : decode jc_Model_areSame 21 = .ok (.iconst 0, 1) := by decide +kernel
theorem d_Model_areSame_22 : decode jc_Model_areSame 22 = .ok (.istore 4, 2) := by decide +kernel
theorem d_Model_areSame_24 : decode jc_Model_areSame 24 = .ok (.iload 4, 2) := by decide +kernel
theorem d_Model_areSame_26 : decode jc_Model_areSame 26 = .ok (.bipush 12, 2) := by decide +kernel
theorem d_Model_areSame_28 : decode jc_Model_areSame 28 = .ok (.if_icmp .ge 36, 3) := by decide +kernel
theorem d_Model_areSame_31 : decode jc_Model_areSame 31 = .ok (.iload_n 3, 1) := by decide +kernel
theorem d_Model_areSame_32 : decode jc_Model_areSame 32 = .ok (.ifCond .eq 24, 3) := by decide +kernel
theorem d_Model_areSame_35 : decode jc_Model_areSame 35 = .ok (.aload_n 0, 1) := by decide +kernel
theorem d_Model_areSame_36 : decode jc_Model_areSame 36 = .ok (.iload_n 1, 1) := by decide +kernel
theorem d_Model_areSame_37 : decode jc_Model_areSame 37 = .ok (.iload 4, 2) := by decide +kernel
theorem d_Model_areSame_39 : decode jc_Model_areSame 39 = .ok (.invokevirtual 71, 3) := by decide +kernel
theorem d_Model_areSame_42 : decode jc_Model_areSame 42 = .ok (.aload_n 0, 1) := by decide +kernel
theorem d_Model_areSame_43 : decode jc_Model_areSame 43 = .ok (.iload_n 2, 1) := by decide +kernel
theorem d_Model_areSame_44 : decode jc_Model_areSame 44 = .ok (.iload 4, 2) := by decide +kernel
theorem d_Model_areSame_46 : decode jc_Model_areSame 46 = .ok (.invokevirtual 71, 3) := by decide +kernel
theorem d_Model_areSame_49 : decode jc_Model_areSame 49 = .ok (.if_icmp .ne 7, 3) := by decide +kernel
theorem d_Model_areSame_52 : decode jc_Model_areSame 52 = .ok (.iconst 1, 1) := by decide +kernel
theorem d_Model_areSame_53 : decode jc_Model_areSame 53 = .ok (.goto 4, 3) := by decide +kernel
theorem d_Model_areSame_56 : decode jc_Model_areSame 56 = .ok (.iconst 0, 1) := by decide +kernel
theorem d_Model_areSame_57 : decode jc_Model_areSame 57 = .ok (.istore_n 3, 1) := by decide +kernel
theorem d_Model_areSame_58 : decode jc_Model_areSame 58 = .ok (.iinc 4 1, 3) := by decide +kernel
theorem d_Model_areSame_61 : decode jc_Model_areSame 61 = .ok (.goto (-37), 3) := by decide +kernel
theorem d_Model_areSame_64 : decode jc_Model_areSame 64 = .ok (.iload_n 3, 1) := by decide +kernel
theorem d_Model_areSame_65 : decode jc_Model_areSame 65 = .ok (.ireturn, 1) := by decide +kernel
theorem d_Model_empty_0 : decode jc_Model_empty 0 = .ok (.aload_n 0, 1) := by decide +kernel
theorem d_Model_empty_1 : decode jc_Model_empty 1 = .ok (.getfield 13, 3) := by decide +kernel
theorem d_Model_empty_4 : decode jc_Model_empty 4 = .ok (.iload_n 1, 1) := by decide +kernel
theorem d_Model_empty_5 : decode jc_Model_empty 5 = .ok (.iload_n 2, 1) := by decide +kernel
theorem d_Model_empty_6 : decode jc_Model_empty 6 = .ok (.iastore, 1) := by decide +kernel
theorem d_Model_empty_7 : decode jc_Model_empty 7 = .ok (.iconst 0, 1) := by decide +kernel
theorem d_Model_empty_8 : decode jc_Model_empty 8 = .ok (.istore_n 3, 1) := by decide +kernel
theorem d_Model_empty_9 : decode jc_Model_empty 9 = .ok (.iload_n 3, 1) := by decide +kernel
theorem d_Model_empty_10 : decode jc_Model_empty 10 = .ok (.bipush 12, 2) := by decide +kernel
theorem d_Model_empty_12 : decode jc_Model_empty 12 = .ok (.if_icmp .ge 21, 3) := by decide +kernel
theorem d_Model_empty_15 : decode jc_Model_empty 15 = .ok (.aload_n 0, 1) := by decide +kernel
theorem d_Model_empty_16 : decode jc_Model_empty 16 = .ok (.getfield 7, 3) := by decide +kernel
theorem d_Model_empty_19 : decode jc_Model_empty 19 = .ok (.bipush 12, 2) := by decide +kernel
theorem d_Model_empty_21 : decode jc_Model_empty 21 = .ok (.iload_n 1, 1) := by decide +kernel
theorem d_Model_empty_22 : decode jc_Model_empty 22 = .ok (.imul, 1) := by decide +kernel
theorem d_Model_empty_23 : decode jc_Model_empty 23 = .ok (.iload_n 3, 1) := by decide +kernel
theorem d_Model_empty_24 : decode jc_Model_empty 24 = .ok (.iadd, 1) := by decide +kernel
theorem d_Model_empty_25 : decode jc_Model_empty 25 = .ok (.iconst 0, 1) := by decide +kernel
theorem d_Model_empty_26 : decode jc_Model_empty 26 = .ok (.iastore, 1) := by decide +kernel
theorem d_Model_empty_27 : decode jc_Model_empty 27 = .ok (.iinc 3 1, 3) := by decide +kernel
theorem d_Model_empty_30 : decode jc_Model_empty 30 = .ok (.goto (-21), 3) := by decide +kernel
theorem d_Model_empty_33 : decode jc_Model_empty 33 = .ok (.return_, 1) := by decide +kernel
theorem d_Model_unit_0 : decode jc_Model_unit 0 = .ok (.aload_n 0, 1) := by decide +kernel
theorem d_Model_unit_1 : decode jc_Model_unit 1 = .ok (.iload_n 1, 1) := by decide +kernel
theorem d_Model_unit_2 : decode jc_Model_unit 2 = .ok (.iload_n 2, 1) := by decide +kernel
theorem d_Model_unit_3 : decode jc_Model_unit 3 = .ok (.invokevirtual 75, 3) := by decide +kernel
theorem d_Model_unit_6 : decode jc_Model_unit 6 = .ok (.iconst 0, 1) := by decide +kernel
theorem d_Model_unit_7 : decode jc_Model_unit 7 = .ok (.istore_n 3, 1) := by decide +kernel
theorem d_Model_unit_8 : decode jc_Model_unit 8 = .ok (.iload_n 3, 1) := by decide +kernel
theorem d_Model_unit_9 : decode jc_Model_unit 9 = .ok (.iload_n 2, 1) := by decide +kernel
theorem d_Model_unit_10 : decode jc_Model_unit 10 = .ok (.if_icmp .ge 23, 3) := by decide +kernel
theorem d_Model_unit_13 : decode jc_Model_unit 13 = .ok (.aload_n 0, 1) := by decide +kernel
theorem d_Model_unit_14 : decode jc_Model_unit 14 = .ok (.getfield 7, 3) := by decide +kernel
theorem d_Model_unit_17 : decode jc_Model_unit 17 = .ok (.bipush 12, 2) := by decide +kernel
theorem d_Model_unit_19 : decode jc_Model_unit 19 = .ok (.iload_n 1, 1) := by decide +kernel
theorem d_Model_unit_20 : decode jc_Model_unit 20 = .ok (.imul, 1) := by decide +kernel
theorem d_Model_unit_21 : decode jc_Model_unit 21 = .ok (.iload_n 3, 1) := by decide +kernel
theorem d_Model_unit_22 : decode jc_Model_unit 22 = .ok (.iadd, 1) := by decide +kernel
theorem d_Model_unit_23 : decode jc_Model_unit 23 = .ok (.iconst 1, 1) := by decide +kernel
theorem d_Model_unit_24 : decode jc_Model_unit 24 = .ok (.iload_n 3, 1) := by decide +kernel
theorem d_Model_unit_25 : decode jc_Model_unit 25 = .ok (.ishl, 1) := by decide +kernel
theorem d_Model_unit_26 : decode jc_Model_unit 26 = .ok (.iastore, 1) := by decide +kernel
theorem d_Model_unit_27 : decode jc_Model_unit 27 = .ok (.iinc 3 1, 3) := by decide +kernel
theorem d_Model_unit_30 : decode jc_Model_unit 30 = .ok (.goto (-22), 3) := by decide +kernel
theorem d_Model_unit_33 : decode jc_Model_unit 33 = .ok (.return_, 1) := by decide +kernel
theorem d_Model_multiply_0 : decode jc_Model_multiply 0 = .ok (.aload_n 0, 1) := by decide +kernel
theorem d_Model_multiply_1 : decode jc_Model_multiply 1 = .ok (.getfield 13, 3) := by decide +kernel
theorem d_Model_multiply_4 : decode jc_Model_multiply 4 = .ok (.iload_n 1, 1) := by decide +kernel
theorem d_Model_multiply_5 : decode jc_Model_multiply 5 = .ok (.iaload, 1) := by decide +kernel
theorem d_Model_multiply_6 : decode jc_Model_multiply 6 = .ok (.istore 4, 2) := by decide +kernel
theorem d_Model_multiply_8 : decode jc_Model_multiply 8 = .ok (.aload_n 0, 1) := by decide +kernel
theorem d_Model_multiply_9 : decode jc_Model_multiply 9 = .ok (.iload_n 3, 1) := by decide +kernel
theorem d_Model_multiply_10 : decode jc_Model_multiply 10 = .ok (.iload 4, 2) := by decide +kernel
theorem d_Model_multiply_12 : decode jc_Model_multiply 12 = .ok (.invokevirtual 75, 3) := by decide +kernel
theorem d_Model_multiply_15 : decode jc_Model_multiply 15 = .ok (.iconst 0, 1) := by decide +kernel
theorem d_Model_multiply_16 : decode jc_Model_multiply 16 = .ok (.istore 5, 2) := by decide +kernel
theorem d_Model_multiply_18 : decode jc_Model_multiply 18 = .ok (.iload 5, 2) := by decide +kernel
theorem d_Model_multiply_20 : decode jc_Model_multiply 20 = .ok (.iload 4, 2) := by decide +kernel
theorem d_Model_multiply_22 : decode jc_Model_multiply 22 = .ok (.if_icmp .ge 63, 3) := by decide +kernel
theorem d_Model_multiply_25 : decode jc_Model_multiply 25 = .ok (.iconst 0, 1) := by decide +kernel
theorem d_Model_multiply_26 : decode jc_Model_multiply 26 = .ok (.istore 6, 2) := by decide +kernel
theorem d_Model_multiply_28 : decode jc_Model_multiply 28 = .ok (.iload 6, 2) := by decide +kernel
theorem d_Model_multiply_30 : decode jc_Model_multiply 30 = .ok (.iload 4, 2) := by decide +kernel
theorem d_Model_multiply_32 : decode jc_Model_multiply 32 = .ok (.if_icmp .ge 47, 3) := by decide +kernel
theorem d_Model_multiply_35 : decode jc_Model_multiply 35 = .ok (.aload_n 0, 1) := by decide +kernel
theorem d_Model_multiply_36 : decode jc_Model_multiply 36 = .ok (.getfield 7, 3) := by decide +kernel
theorem d_Model_multiply_39 : decode jc_Model_multiply 39 = .ok (.bipush 12, 2) := by decide +kernel
theorem d_Model_multiply_41 : decode jc_Model_multiply 41 = .ok (.iload_n 3, 1) := by decide +kernel
theorem d_Model_multiply_42 : decode jc_Model_multiply 42 = .ok (.imul, 1) := by decide +kernel
theorem d_Model_multiply_43 : decode jc_Model_multiply 43 = .ok (.iload 5, 2) := by decide +kernel
theorem d_Model_multiply_45 : decode jc_Model_multiply 45 = .ok (.iadd, 1) := by decide +kernel
theorem d_Model_multiply_46 : decode jc_Model_multiply 46 = .ok (.dup2, 1) := by decide +kernel
theorem d_Model_multiply_47 : decode jc_Model_multiply 47 = .ok (.iaload, 1) := by decide +kernel
theorem d_Model_multiply_48 : decode jc_Model_multiply 48 = .ok (.aload_n 0, 1) := by decide +kernel
theorem d_Model_multiply_49 : decode jc_Model_multiply 49 = .ok (.iload_n 1, 1) := by decide +kernel
theorem d_Model_multiply_50 : decode jc_Model_multiply 50 = .ok (.iload 5, 2) := by decide +kernel
theorem d_Model_multiply_52 : decode jc_Model_multiply 52 = .ok (.iload 6, 2) := by decide +kernel
theorem d_Model_multiply_54 : decode jc_Model_multiply 54 = .ok (.invokevirtual 67, 3) := by decide +kernel
theorem d_Model_multiply_57 : decode jc_Model_multiply 57 = .ok (.ifCond .eq 13, 3) := by decide +kernel
theorem d_Model_multiply_60 : decode jc_Model_multiply 60 = .ok (.aload_n 0, 1) := by decide +kernel
theorem d_Model_multiply_61 : decode jc_Model_multiply 61 = .ok (.iload_n 2, 1) := by decide +kernel
theorem d_Model_multiply_62 : decode jc_Model_multiply 62 = .ok (.iload 6, 2) := by decide +kernel
theorem d_Model_multiply_64 : decode jc_Model_multiply 64 = .ok (.invokevirtual 71, 3) := by decide +kernel
theorem d_Model_multiply_67 : decode jc_Model_multiply 67 = .ok (.goto 4, 3) := by decide +kernel
theorem d_Model_multiply_70 : decode jc_Model_multiply 70 = .ok (.iconst 0, 1) := by decide +kernel
theorem d_Model_multiply_71 : decode jc_Model_multiply 71 = .ok (.ior, 1) := by decide +kernel
theorem d_Model_multiply_72 : decode jc_Model_multiply 72 = .ok (.iastore, 1) := by decide +kernel
theorem d_Model_multiply_73 : decode jc_Model_multiply 73 = .ok (.iinc 6 1, 3) := by decide +kernel
theorem d_Model_multiply_76 : decode jc_Model_multiply 76 = .ok (.goto (-48), 3) := by decide +kernel
theorem d_Model_multiply_79 : decode jc_Model_multiply 79 = .ok (.iinc 5 1, 3) := by decide +kernel
theorem d_Model_multiply_82 : decode jc_Model_multiply 82 = .ok (.goto (-64), 3) := by decide +kernel
theorem d_Model_multiply_85 : decode jc_Model_multiply 85 = .ok (.return_, 1) := by decide +kernel
theorem d_Model_transpose_0 : decode jc_Model_transpose 0 = .ok (.aload_n 0, 1) := by decide +kernel
theorem d_Model_transpose_1 : decode jc_Model_transpose 1 = .ok (.iload_n 2, 1) := by decide +kernel
theorem d_Model_transpose_2 : decode jc_Model_transpose 2 = .ok (.aload_n 0, 1) := by decide +kernel
theorem d_Model_transpose_3 : decode jc_Model_transpose 3 = .ok (.getfield 13, 3) := by decide +kernel
theorem d_Model_transpose_6 : decode jc_Model_transpose 6 = .ok (.iload_n 1, 1) := by decide +kernel
theorem d_Model_transpose_7 : decode jc_Model_transpose 7 = .ok (.iaload, 1) := by decide +kernel
theorem d_Model_transpose_8 : decode jc_Model_transpose 8 = .ok (.invokevirtual 75, 3) := by decide +kernel
theorem d_Model_transpose_11 : decode jc_Model_transpose 11 = .ok (.iconst 0, 1) := by decide +kernel
theorem d_Model_transpose_12 : decode jc_Model_transpose 12 = .ok (.istore_n 3, 1) := by decide +kernel
theorem d_Model_transpose_13 : decode jc_Model_transpose 13 = .ok (.iload_n 3, 1) := by decide +kernel
theorem d_Model_transpose_14 : decode jc_Model_transpose 14 = .ok (.aload_n 0, 1) := by decide +kernel
theorem d_Model_transpose_15 : decode jc_Model_transpose 15 = .ok (.getfield 13, 3) := by decide +kernel
theorem d_Model_transpose_18 : decode jc_Model_transpose 18 = .ok (.iload_n 1, 1) := by decide +kernel
theorem d_Model_transpose_19 : decode jc_Model_transpose 19 = .ok (.iaload, 1) := by decide +kernel
theorem d_Model_transpose_20 : decode jc_Model_transpose 20 = .ok (.if_icmp .ge 26, 3) := by decide +kernel
theorem d_Model_transpose_23 : decode jc_Model_transpose 23 = .ok (.aload_n 0, 1) := by decide +kernel
theorem d_Model_transpose_24 : decode jc_Model_transpose 24 = .ok (.getfield 7, 3) := by decide +kernel
theorem d_Model_transpose_27 : decode jc_Model_transpose 27 = .ok (.bipush 12, 2) := by decide +kernel
theorem d_Model_transpose_29 : decode jc_Model_transpose 29 = .ok (.iload_n 2, 1) := by decide +kernel
theorem d_Model_transpose_30 : decode jc_Model_transpose 30 = .ok (.imul, 1) := by decide +kernel
theorem d_Model_transpose_31 : decode jc_Model_transpose 31 = .ok (.iload_n 3, 1) := by decide +kernel
theorem d_Model_transpose_32 : decode jc_Model_transpose 32 = .ok (.iadd, 1) := by decide +kernel
theorem d_Model_transpose_33 : decode jc_Model_transpose 33 = .ok (.aload_n 0, 1) := by decide +kernel
theorem d_Model_transpose_34 : decode jc_Model_transpose 34 = .ok (.iload_n 1, 1) := by decide +kernel
theorem d_Model_transpose_35 : decode jc_Model_transpose 35 = .ok (.iload_n 3, 1) := by decide +kernel
theorem d_Model_transpose_36 : decode jc_Model_transpose 36 = .ok (.invokevirtual 79, 3) := by decide +kernel
theorem d_Model_transpose_39 : decode jc_Model_transpose 39 = .ok (.iastore, 1) := by decide +kernel
theorem d_Model_transpose_40 : decode jc_Model_transpose 40 = .ok (.iinc 3 1, 3) := by decide +kernel
theorem d_Model_transpose_43 : decode jc_Model_transpose 43 = .ok (.goto (-30), 3) := by decide +kernel
theorem d_Model_transpose_46 : decode jc_Model_transpose 46 = .ok (.return_, 1) := by decide +kernel
theorem d_Model_complement_0 : decode jc_Model_complement 0 = .ok (.iconst 0, 1) := by decide +kernel
theorem d_Model_complement_1 : decode jc_Model_complement 1 = .ok (.istore_n 2, 1) := by decide +kernel
theorem d_Model_complement_2 : decode jc_Model_complement 2 = .ok (.iload_n 2, 1) := by decide +kernel
theorem d_Model_complement_3 : decode jc_Model_complement 3 = .ok (.aload_n 0, 1) := by decide +kernel
theorem d_Model_complement_4 : decode jc_Model_complement 4 = .ok (.getfield 13, 3) := by decide +kernel
theorem d_Model_complement_7 : decode jc_Model_complement 7 = .ok (.iload_n 1, 1) := by decide +kernel
theorem d_Model_complement_8 : decode jc_Model_complement 8 = .ok (.iaload, 1) := by decide +kernel
theorem d_Model_complement_9 : decode jc_Model_complement 9 = .ok (.if_icmp .ge 39, 3) := by decide +kernel
theorem d_Model_complement_12 : decode jc_Model_complement 12 = .ok (.aload_n 0, 1) := by decide +kernel
theorem d_Model_complement_13 : decode jc_Model_complement 13 = .ok (.getfield 7, 3) := by decide +kernel
theorem d_Model_complement_16 : decode jc_Model_complement 16 = .ok (.bipush 12, 2) := by decide +kernel
theorem d_Model_complement_18 : decode jc_Model_complement 18 = .ok (.iload_n 1, 1) := by decide +kernel
theorem d_Model_complement_19 : decode jc_Model_complement 19 = .ok (.imul, 1) := by decide +kernel
theorem d_Model_complement_20 : decode jc_Model_complement 20 = .ok (.iload_n 2, 1) := by decide +kernel
theorem d_Model_complement_21 : decode jc_Model_complement 21 = .ok (.iadd, 1) := by decide +kernel
theorem d_Model_complement_22 : decode jc_Model_complement 22 = .ok (.iconst 1, 1) := by decide +kernel
theorem d_Model_complement_23 : decode jc_Model_complement 23 = .ok (.aload_n 0, 1) := by decide +kernel
theorem d_Model_complement_24 : decode jc_Model_complement 24 = .ok (.getfield 13, 3) := by decide +kernel
theorem d_Model_complement_27 : decode jc_Model_complement 27 = .ok (.iload_n 1, 1) := by decide +kernel
theorem d_Model_complement_28 : decode jc_Model_complement 28 = .ok (.iaload, 1) := by decide +kernel
theorem d_Model_complement_29 : decode jc_Model_complement 29 = .ok (.ishl, 1) := by decide +kernel
theorem d_Model_complement_30 : decode jc_Model_complement 30 = .ok (.iconst 1, 1) := by decide +kernel
theorem d_Model_complement_31 : decode jc_Model_complement 31 = .ok (.isub, 1) := by decide +kernel
theorem d_Model_complement_32 : decode jc_Model_complement 32 = .ok (.aload_n 0, 1) := by decide +kernel
theorem d_Model_complement_33 : decode jc_Model_complement 33 = .ok (.iload_n 1, 1) := by decide +kernel
theorem d_Model_complement_34 : decode jc_Model_complement 34 = .ok (.iload_n 2, 1) := by decide +kernel
theorem d_Model_complement_35 : decode jc_Model_complement 35 = .ok (.invokevirtual 71, 3) := by decide +kernel
theorem d_Model_complement_38 : decode jc_Model_complement 38 = .ok (.iconst (-1), 1) := by decide +kernel
theorem d_Model_complement_39 : decode jc_Model_complement 39 = .ok (.ixor, 1) := by decide +kernel
theorem d_Model_complement_40 : decode jc_Model_complement 40 = .ok (.iand, 1) := by decide +kernel
theorem d_Model_complement_41 : decode jc_Model_complement 41 = .ok (.iastore, 1) := by decide +kernel
theorem d_Model_complement_42 : decode jc_Model_complement 42 = .ok (.iinc 2 1, 3) := by decide +kernel
theorem d_Model_complement_45 : decode jc_Model_complement 45 = .ok (.goto (-43), 3) := by decide +kernel
theorem d_Model_complement_48 : decode jc_Model_complement 48 = .ok (.return_, 1) := by decide +kernel
theorem d_Model_addTo_0 : decode jc_Model_addTo 0 = .ok (.iconst 0, 1) := by decide +kernel
theorem d_Model_addTo_1 : decode jc_Model_addTo 1 = .ok (.istore_n 3, 1) := by decide +kernel
theorem d_Model_addTo_2 : decode jc_Model_addTo 2 = .ok (.iload_n 3, 1) := by decide +kernel
theorem d_Model_addTo_3 : decode jc_Model_addTo 3 = .ok (.aload_n 0, 1) := by decide +kernel
theorem d_Model_addTo_4 : decode jc_Model_addTo 4 = .ok (.getfield 13, 3) := by decide +kernel
theorem d_Model_addTo_7 : decode jc_Model_addTo 7 = .ok (.iload_n 1, 1) := by decide +kernel
theorem d_Model_addTo_8 : decode jc_Model_addTo 8 = .ok (.iaload, 1) := by decide +kernel
theorem d_Model_addTo_9 : decode jc_Model_addTo 9 = .ok (.if_icmp .ge 29, 3) := by decide +kernel
theorem d_Model_addTo_12 : decode jc_Model_addTo 12 = .ok (.aload_n 0, 1) := by decide +kernel
theorem d_Model_addTo_13 : decode jc_Model_addTo 13 = .ok (.getfield 7, 3) := by decide +kernel
theorem d_Model_addTo_16 : decode jc_Model_addTo 16 = .ok (.bipush 12, 2) := by decide +kernel
theorem d_Model_addTo_18 : decode jc_Model_addTo 18 = .ok (.iload_n 1, 1) := by decide +kernel
theorem d_Model_addTo_19 : decode jc_Model_addTo 19 = .ok (.imul, 1) := by decide +kernel
theorem d_Model_addTo_20 : decode jc_Model_addTo 20 = .ok (.iload_n 3, 1) := by decide +kernel
theorem d_Model_addTo_21 : decode jc_Model_addTo 21 = .ok (.iadd, 1) := by decide +kernel
theorem d_Model_addTo_22 : decode jc_Model_addTo 22 = .ok (.dup2, 1) := by decide +kernel
theorem d_Model_addTo_23 : decode jc_Model_addTo 23 = .ok (.iaload, 1) := by decide +kernel
theorem d_Model_addTo_24 : decode jc_Model_addTo 24 = .ok (.aload_n 0, 1) := by decide +kernel
theorem d_Model_addTo_25 : decode jc_Model_addTo 25 = .ok (.iload_n 2, 1) := by decide +kernel
theorem d_Model_addTo_26 : decode jc_Model_addTo 26 = .ok (.iload_n 3, 1) := by decide +kernel
theorem d_Model_addTo_27 : decode jc_Model_addTo 27 = .ok (.invokevirtual 71, 3) := by decide +kernel
theorem d_Model_addTo_30 : decode jc_Model_addTo 30 = .ok (.ior, 1) := by decide +kernel
theorem d_Model_addTo_31 : decode jc_Model_addTo 31 = .ok (.iastore, 1) := by decide +kernel
theorem d_Model_addTo_32 : decode jc_Model_addTo 32 = .ok (.iinc 3 1, 3) := by decide +kernel
theorem d_Model_addTo_35 : decode jc_Model_addTo 35 = .ok (.goto (-33), 3) := by decide +kernel
theorem d_Model_addTo_38 : decode jc_Model_addTo 38 = .ok (.return_, 1) := by decide +kernel
theorem d_Model_meetWith_0 : decode jc_Model_meetWith 0 = .ok (.iconst 0, 1) := by decide +kernel
theorem d_Model_meetWith_1 : decode jc_Model_meetWith 1 = .ok (.istore_n 3, 1) := by decide +kernel
theorem d_Model_meetWith_2 : decode jc_Model_meetWith 2 = .ok (.iload_n 3, 1) := by decide +kernel
theorem d_Model_meetWith_3 : decode jc_Model_meetWith 3 = .ok (.aload_n 0, 1) := by decide +kernel
theorem d_Model_meetWith_4 : decode jc_Model_meetWith 4 = .ok (.getfield 13, 3) := by decide +kernel
theorem d_Model_meetWith_7 : decode jc_Model_meetWith 7 = .ok (.iload_n 1, 1) := by decide +kernel
theorem d_Model_meetWith_8 : decode jc_Model_meetWith 8 = .ok (.iaload, 1) := by decide +kernel
theorem d_Model_meetWith_9 : decode jc_Model_meetWith 9 = .ok (.if_icmp .ge 29, 3) := by decide +kernel
theorem d_Model_meetWith_12 : decode jc_Model_meetWith 12 = .ok (.aload_n 0, 1) := by decide +kernel
theorem d_Model_meetWith_13 : decode jc_Model_meetWith 13 = .ok (.getfield 7, 3) := by decide +kernel
theorem d_Model_meetWith_16 : decode jc_Model_meetWith 16 = .ok (.bipush 12, 2) := by decide +kernel
theorem d_Model_meetWith_18 : decode jc_Model_meetWith 18 = .ok (.iload_n 1, 1) := by decide +kernel
theorem d_Model_meetWith_19 : decode jc_Model_meetWith 19 = .ok (.imul, 1) := by decide +kernel
theorem d_Model_meetWith_20 : decode jc_Model_meetWith 20 = .ok (.iload_n 3, 1) := by decide +kernel
theorem d_Model_meetWith_21 : decode jc_Model_meetWith 21 = .ok (.iadd, 1) := by decide +kernel
theorem d_Model_meetWith_22 : decode jc_Model_meetWith 22 = .ok (.dup2, 1) := by decide +kernel
theorem d_Model_meetWith_23 : decode jc_Model_meetWith 23 = .ok (.iaload, 1) := by decide +kernel
theorem d_Model_meetWith_24 : decode jc_Model_meetWith 24 = .ok (.aload_n 0, 1) := by decide +kernel
theorem d_Model_meetWith_25 : decode jc_Model_meetWith 25 = .ok (.iload_n 2, 1) := by decide +kernel
theorem d_Model_meetWith_26 : decode jc_Model_meetWith 26 = .ok (.iload_n 3, 1) := by decide +kernel
theorem d_Model_meetWith_27 : decode jc_Model_meetWith 27 = .ok (.invokevirtual 71, 3) := by decide +kernel
theorem d_Model_meetWith_30 : decode jc_Model_meetWith 30 = .ok (.iand, 1) := by decide +kernel
theorem d_Model_meetWith_31 : decode jc_Model_meetWith 31 = .ok (.iastore, 1) := by decide +kernel
theorem d_Model_meetWith_32 : decode jc_Model_meetWith 32 = .ok (.iinc 3 1, 3) := by decide +kernel
theorem d_Model_meetWith_35 : decode jc_Model_meetWith 35 = .ok (.goto (-33), 3) := by decide +kernel
theorem d_Model_meetWith_38 : decode jc_Model_meetWith 38 = .ok (.return_, 1) := by decide +kernel
theorem d_Model_powerTo_0 : decode jc_Model_powerTo 0 = .ok (.aload_n 0, 1) := by decide +kernel
theorem d_Model_powerTo_1 : decode jc_Model_powerTo 1 = .ok (.iload_n 3, 1) := by decide +kernel
theorem d_Model_powerTo_2 : decode jc_Model_powerTo 2 = .ok (.aload_n 0, 1) := by decide +kernel
theorem d_Model_powerTo_3 : decode jc_Model_powerTo 3 = .ok (.getfield 13, 3) := by decide +kernel
theorem d_Model_powerTo_6 : decode jc_Model_powerTo 6 = .ok (.iload_n 1, 1) := by decide +kernel
theorem d_Model_powerTo_7 : decode jc_Model_powerTo 7 = .ok (.iaload, 1) := by decide +kernel
theorem d_Model_powerTo_8 : decode jc_Model_powerTo 8 = .ok (.invokevirtual 82, 3) := by decide +kernel
theorem d_Model_powerTo_11 : decode jc_Model_powerTo 11 = .ok (.aload_n 0, 1) := by decide +kernel
theorem d_Model_powerTo_12 : decode jc_Model_powerTo 12 = .ok (.iload_n 1, 1) := by decide +kernel
theorem d_Model_powerTo_13 : decode jc_Model_powerTo 13 = .ok (.bipush 36, 2) := by decide +kernel
theorem d_Model_powerTo_15 : decode jc_Model_powerTo 15 = .ok (.invokevirtual 85, 3) := by decide +kernel
theorem d_Model_powerTo_18 : decode jc_Model_powerTo 18 = .ok (.iload_n 2, 1) := by decide +kernel
theorem d_Model_powerTo_19 : decode jc_Model_powerTo 19 = .ok (.istore 4, 2) := by decide +kernel
theorem d_Model_powerTo_21 : decode jc_Model_powerTo 21 = .ok (.iload 4, 2) := by decide +kernel
theorem d_Model_powerTo_23 : decode jc_Model_powerTo 23 = .ok (.ifCond .le 54, 3) := by decide +kernel
theorem d_Model_powerTo_26 : decode jc_Model_powerTo 26 = .ok (.iload 4, 2) := by decide +kernel
theorem d_Model_powerTo_28 : decode jc_Model_powerTo 28 = .ok (.iconst 2, 1) := by decide +kernel
theorem d_Model_powerTo_29 : decode jc_Model_powerTo 29 = .ok (.irem, 1) := by decide +kernel
theorem d_Model_powerTo_30 : decode jc_Model_powerTo 30 = .ok (.iconst 1, 1) := by decide +kernel
theorem d_Model_powerTo_31 : decode jc_Model_powerTo 31 = .ok (.if_icmp .ne 19, 3) := by decide +kernel
theorem d_Model_powerTo_34 : decode jc_Model_powerTo 34 = .ok (.aload_n 0, 1) := by decide +kernel
theorem d_Model_powerTo_35 : decode jc_Model_powerTo 35 = .ok (.iload_n 3, 1) := by decide +kernel
theorem d_Model_powerTo_36 : decode jc_Model_powerTo 36 = .ok (.bipush 36, 2) := by decide +kernel
theorem d_Model_powerTo_38 : decode jc_Model_powerTo 38 = .ok (.bipush 37, 2) := by decide +kernel
theorem d_Model_powerTo_40 : decode jc_Model_powerTo 40 = .ok (.invokevirtual 88, 3) := by decide +kernel
theorem d_Model_powerTo_43 : decode jc_Model_powerTo 43 = .ok (.aload_n 0, 1) := by decide +kernel
theorem d_Model_powerTo_44 : decode jc_Model_powerTo 44 = .ok (.bipush 37, 2) := by decide +kernel
theorem d_Model_powerTo_46 : decode jc_Model_powerTo 46 = .ok (.iload_n 3, 1) := by decide +kernel
theorem d_Model_powerTo_47 : decode jc_Model_powerTo 47 = .ok (.invokevirtual 85, 3) := by decide +kernel
theorem d_Model_powerTo_50 : decode jc_Model_powerTo 50 = .ok (.aload_n 0, 1) := by decide +kernel
theorem d_Model_powerTo_51 : decode jc_Model_powerTo 51 = .ok (.bipush 36, 2) := by decide +kernel
theorem d_Model_powerTo_53 : decode jc_Model_powerTo 53 = .ok (.bipush 36, 2) := by decide +kernel
theorem d_Model_powerTo_55 : decode jc_Model_powerTo 55 = .ok (.bipush 37, 2) := by decide +kernel
theorem d_Model_powerTo_57 : decode jc_Model_powerTo 57 = .ok (.invokevirtual 88, 3) := by decide +kernel
theorem d_Model_powerTo_60 : decode jc_Model_powerTo 60 = .ok (.aload_n 0, 1) := by decide +kernel
theorem d_Model_powerTo_61 : decode jc_Model_powerTo 61 = .ok (.bipush 37, 2) := by decide +kernel
theorem d_Model_powerTo_63 : decode jc_Model_powerTo 63 = .ok (.bipush 36, 2) := by decide +kernel
theorem d_Model_powerTo_65 : decode jc_Model_powerTo 65 = .ok (.invokevirtual 85, 3) := by decide +kernel
theorem d_Model_powerTo_68 : decode jc_Model_powerTo 68 = .ok (.iload 4, 2) := by decide +kernel
theorem d_Model_powerTo_70 : decode jc_Model_powerTo 70 = .ok (.iconst 2, 1) := by decide +kernel
theorem d_Model_powerTo_71 : decode jc_Model_powerTo 71 = .ok (.idiv, 1) := by decide +kernel
theorem d_Model_powerTo_72 : decode jc_Model_powerTo 72 = .ok (.istore 4, 2) := by decide +kernel
theorem d_Model_powerTo_74 : decode jc_Model_powerTo 74 = .ok (.goto (-53), 3) := by decide +kernel
theorem d_Model_powerTo_77 : decode jc_Model_powerTo 77 = .ok (.return_, 1) := by decide +kernel
theorem d_Model_closureTo_0 : decode jc_Model_closureTo 0 = .ok (.aload_n 0, 1) := by decide +kernel
theorem d_Model_closureTo_1 : decode jc_Model_closureTo 1 = .ok (.iload_n 2, 1) := by decide +kernel
theorem d_Model_closureTo_2 : decode jc_Model_closureTo 2 = .ok (.aload_n 0, 1) := by decide +kernel
theorem d_Model_closureTo_3 : decode jc_Model_closureTo 3 = .ok (.getfield 13, 3) := by decide +kernel
theorem d_Model_closureTo_6 : decode jc_Model_closureTo 6 = .ok (.iload_n 1, 1) := by decide +kernel
theorem d_Model_closureTo_7 : decode jc_Model_closureTo 7 = .ok (.iaload, 1) := by decide +kernel
theorem d_Model_closureTo_8 : decode jc_Model_closureTo 8 = .ok (.invokevirtual 75, 3) := by decide +kernel
theorem d_Model_closureTo_11 : decode jc_Model_closureTo 11 = .ok (.aload_n 0, 1) := by decide +kernel
theorem d_Model_closureTo_12 : decode jc_Model_closureTo 12 = .ok (.iload_n 1, 1) := by decide +kernel
theorem d_Model_closureTo_13 : decode jc_Model_closureTo 13 = .ok (.bipush 36, 2) := by decide +kernel
theorem d_Model_closureTo_15 : decode jc_Model_closureTo 15 = .ok (.invokevirtual 85, 3) := by decide +kernel
theorem d_Model_closureTo_18 : decode jc_Model_closureTo 18 = .ok (.iconst 0, 1) := by decide +kernel
theorem d_Model_closureTo_19 : decode jc_Model_closureTo 19 = .ok (.istore_n 3, 1) := by decide +kernel
theorem d_Model_closureTo_20 : decode jc_Model_closureTo 20 = .ok (.iload_n 3, 1) := by decide +kernel
theorem d_Model_closureTo_21 : decode jc_Model_closureTo 21 = .ok (.aload_n 0, 1) := by decide +kernel
theorem d_Model_closureTo_22 : decode jc_Model_closureTo 22 = .ok (.getfield 13, 3) := by decide +kernel
theorem d_Model_closureTo_25 : decode jc_Model_closureTo 25 = .ok (.iload_n 1, 1) := by decide +kernel
theorem d_Model_closureTo_26 : decode jc_Model_closureTo 26 = .ok (.iaload, 1) := by decide +kernel
theorem d_Model_closureTo_27 : decode jc_Model_closureTo 27 = .ok (.if_icmp .ge 33, 3) := by decide +kernel
theorem d_Model_closureTo_30 : decode jc_Model_closureTo 30 = .ok (.aload_n 0, 1) := by decide +kernel
theorem d_Model_closureTo_31 : decode jc_Model_closureTo 31 = .ok (.iload_n 2, 1) := by decide +kernel
theorem d_Model_closureTo_32 : decode jc_Model_closureTo 32 = .ok (.bipush 36, 2) := by decide +kernel
theorem d_Model_closureTo_34 : decode jc_Model_closureTo 34 = .ok (.invokevirtual 92, 3) := by decide +kernel
theorem d_Model_closureTo_37 : decode jc_Model_closureTo 37 = .ok (.aload_n 0, 1) := by decide +kernel
theorem d_Model_closureTo_38 : decode jc_Model_closureTo 38 = .ok (.bipush 36, 2) := by decide +kernel
theorem d_Model_closureTo_40 : decode jc_Model_closureTo 40 = .ok (.iload_n 1, 1) := by decide +kernel
theorem d_Model_closureTo_41 : decode jc_Model_closureTo 41 = .ok (.bipush 37, 2) := by decide +kernel
theorem d_Model_closureTo_43 : decode jc_Model_closureTo 43 = .ok (.invokevirtual 88, 3) := by decide +kernel
theorem d_Model_closureTo_46 : decode jc_Model_closureTo 46 = .ok (.aload_n 0, 1) := by decide +kernel
theorem d_Model_closureTo_47 : decode jc_Model_closureTo 47 = .ok (.bipush 37, 2) := by decide +kernel
theorem d_Model_closureTo_49 : decode jc_Model_closureTo 49 = .ok (.bipush 36, 2) := by decide +kernel
theorem d_Model_closureTo_51 : decode jc_Model_closureTo 51 = .ok (.invokevirtual 85, 3) := by decide +kernel
theorem d_Model_closureTo_54 : decode jc_Model_closureTo 54 = .ok (.iinc 3 1, 3) := by decide +kernel
theorem d_Model_closureTo_57 : decode jc_Model_closureTo 57 = .ok (.goto (-37), 3) := by decide +kernel
theorem d_Model_closureTo_60 : decode jc_Model_closureTo 60 = .ok (.return_, 1) := by decide +kernel
theorem d_Model_greatestTo_0 : decode jc_Model_greatestTo 0 = .ok (.aload_n 0, 1) := by decide +kernel
theorem d_Model_greatestTo_1 : decode jc_Model_greatestTo 1 = .ok (.iload_n 1, 1) := by decide +kernel
theorem d_Model_greatestTo_2 : decode jc_Model_greatestTo 2 = .ok (.bipush 36, 2) := by decide +kernel
theorem d_Model_greatestTo_4 : decode jc_Model_greatestTo 4 = .ok (.invokevirtual 95, 3) := by decide +kernel
theorem d_Model_greatestTo_7 : decode jc_Model_greatestTo 7 = .ok (.aload_n 0, 1) := by decide +kernel
theorem d_Model_greatestTo_8 : decode jc_Model_greatestTo 8 = .ok (.iload_n 1, 1) := by decide +kernel
theorem d_Model_greatestTo_9 : decode jc_Model_greatestTo 9 = .ok (.bipush 37, 2) := by decide +kernel
theorem d_Model_greatestTo_11 : decode jc_Model_greatestTo 11 = .ok (.invokevirtual 85, 3) := by decide +kernel
theorem d_Model_greatestTo_14 : decode jc_Model_greatestTo 14 = .ok (.aload_n 0, 1) := by decide +kernel
theorem d_Model_greatestTo_15 : decode jc_Model_greatestTo 15 = .ok (.bipush 37, 2) := by decide +kernel
theorem d_Model_greatestTo_17 : decode jc_Model_greatestTo 17 = .ok (.invokevirtual 98, 3) := by decide +kernel
theorem d_Model_greatestTo_20 : decode jc_Model_greatestTo 20 = .ok (.aload_n 0, 1) := by decide +kernel
theorem d_Model_greatestTo_21 : decode jc_Model_greatestTo 21 = .ok (.bipush 36, 2) := by decide +kernel
theorem d_Model_greatestTo_23 : decode jc_Model_greatestTo 23 = .ok (.bipush 37, 2) := by decide +kernel
theorem d_Model_greatestTo_25 : decode jc_Model_greatestTo 25 = .ok (.iload_n 2, 1) := by decide +kernel
theorem d_Model_greatestTo_26 : decode jc_Model_greatestTo 26 = .ok (.invokevirtual 88, 3) := by decide +kernel
theorem d_Model_greatestTo_29 : decode jc_Model_greatestTo 29 = .ok (.aload_n 0, 1) := by decide +kernel
theorem d_Model_greatestTo_30 : decode jc_Model_greatestTo 30 = .ok (.iload_n 2, 1) := by decide +kernel
theorem d_Model_greatestTo_31 : decode jc_Model_greatestTo 31 = .ok (.bipush 37, 2) := by decide +kernel
theorem d_Model_greatestTo_33 : decode jc_Model_greatestTo 33 = .ok (.invokevirtual 85, 3) := by decide +kernel
theorem d_Model_greatestTo_36 : decode jc_Model_greatestTo 36 = .ok (.aload_n 0, 1) := by decide +kernel
theorem d_Model_greatestTo_37 : decode jc_Model_greatestTo 37 = .ok (.bipush 37, 2) := by decide +kernel
theorem d_Model_greatestTo_39 : decode jc_Model_greatestTo 39 = .ok (.bipush 36, 2) := by decide +kernel
theorem d_Model_greatestTo_41 : decode jc_Model_greatestTo 41 = .ok (.iload_n 2, 1) := by decide +kernel
theorem d_Model_greatestTo_42 : decode jc_Model_greatestTo 42 = .ok (.invokevirtual 88, 3) := by decide +kernel
theorem d_Model_greatestTo_45 : decode jc_Model_greatestTo 45 = .ok (.aload_n 0, 1) := by decide +kernel
theorem d_Model_greatestTo_46 : decode jc_Model_greatestTo 46 = .ok (.iload_n 2, 1) := by decide +kernel
theorem d_Model_greatestTo_47 : decode jc_Model_greatestTo 47 = .ok (.invokevirtual 98, 3) := by decide +kernel
theorem d_Model_greatestTo_50 : decode jc_Model_greatestTo 50 = .ok (.return_, 1) := by decide +kernel
theorem d_Model_logs_0 : decode jc_Model_logs 0 = .ok (.aload_n 0, 1) := by decide +kernel
theorem d_Model_logs_1 : decode jc_Model_logs 1 = .ok (.getfield 59, 3) := by decide +kernel
theorem d_Model_logs_4 : decode jc_Model_logs 4 = .ok (.bipush 20, 2) := by decide +kernel
theorem d_Model_logs_6 : decode jc_Model_logs 6 = .ok (.if_icmp .ne 55, 3) := by decide +kernel
theorem d_Model_logs_9 : decode jc_Model_logs 9 = .ok (.iconst 1, 1) := by decide +kernel
theorem d_Model_logs_10 : decode jc_Model_logs 10 = .ok (.istore_n 2, 1) := by decide +kernel
theorem d_Model_logs_11 : decode jc_Model_logs 11 = .ok (.iload_n 2, 1) := by decide +kernel
theorem d_Model_logs_12 : decode jc_Model_logs 12 = .ok (.bipush 20, 2) := by decide +kernel
theorem d_Model_logs_14 : decode jc_Model_logs 14 = .ok (.if_icmp .ge 37, 3) := by decide +kernel
theorem d_Model_logs_17 : decode jc_Model_logs 17 = .ok (.aload_n 0, 1) := by decide +kernel
theorem d_Model_logs_18 : decode jc_Model_logs 18 = .ok (.bipush 6, 2) := by decide +kernel
theorem d_Model_logs_20 : decode jc_Model_logs 20 = .ok (.iload_n 2, 1) := by decide +kernel
theorem d_Model_logs_21 : decode jc_Model_logs 21 = .ok (.iadd, 1) := by decide +kernel
theorem d_Model_logs_22 : decode jc_Model_logs 22 = .ok (.bipush 6, 2) := by decide +kernel
theorem d_Model_logs_24 : decode jc_Model_logs 24 = .ok (.iload_n 2, 1) := by decide +kernel
theorem d_Model_logs_25 : decode jc_Model_logs 25 = .ok (.iadd, 1) := by decide +kernel
theorem d_Model_logs_26 : decode jc_Model_logs 26 = .ok (.iconst 1, 1) := by decide +kernel
theorem d_Model_logs_27 : decode jc_Model_logs 27 = .ok (.isub, 1) := by decide +kernel
theorem d_Model_logs_28 : decode jc_Model_logs 28 = .ok (.invokevirtual 85, 3) := by decide +kernel
theorem d_Model_logs_31 : decode jc_Model_logs 31 = .ok (.aload_n 0, 1) := by decide +kernel
theorem d_Model_logs_32 : decode jc_Model_logs 32 = .ok (.getfield 16, 3) := by decide +kernel
theorem d_Model_logs_35 : decode jc_Model_logs 35 = .ok (.iload_n 2, 1) := by decide +kernel
theorem d_Model_logs_36 : decode jc_Model_logs 36 = .ok (.iconst 1, 1) := by decide +kernel
theorem d_Model_logs_37 : decode jc_Model_logs 37 = .ok (.isub, 1) := by decide +kernel
theorem d_Model_logs_38 : decode jc_Model_logs 38 = .ok (.aload_n 0, 1) := by decide +kernel
theorem d_Model_logs_39 : decode jc_Model_logs 39 = .ok (.getfield 16, 3) := by decide +kernel
theorem d_Model_logs_42 : decode jc_Model_logs 42 = .ok (.iload_n 2, 1) := by decide +kernel
theorem d_Model_logs_43 : decode jc_Model_logs 43 = .ok (.iaload, 1) := by decide +kernel
theorem d_Model_logs_44 : decode jc_Model_logs 44 = .ok (.iastore, 1) := by decide +kernel
theorem d_Model_logs_45 : decode jc_Model_logs 45 = .ok (.iinc 2 1, 3) := by decide +kernel
theorem d_Model_logs_48 : decode jc_Model_logs 48 = .ok (.goto (-37), 3) := by decide +kernel
theorem d_Model_logs_51 : decode jc_Model_logs 51 = .ok (.aload_n 0, 1) := by decide +kernel
theorem d_Model_logs_52 : decode jc_Model_logs 52 = .ok (.dup, 1) := by decide +kernel
theorem d_Model_logs_53 : decode jc_Model_logs 53 = .ok (.getfield 59, 3) := by decide +kernel
theorem d_Model_logs_56 : decode jc_Model_logs 56 = .ok (.iconst 1, 1) := by decide +kernel
theorem d_Model_logs_57 : decode jc_Model_logs 57 = .ok (.isub, 1) := by decide +kernel
theorem d_Model_logs_58 : decode jc_Model_logs 58 = .ok (.putfield 59, 3) := by decide +kernel
theorem d_Model_logs_61 : decode jc_Model_logs 61 = .ok (.aload_n 0, 1) := by decide +kernel
theorem d_Model_logs_62 : decode jc_Model_logs 62 = .ok (.iload_n 1, 1) := by decide +kernel
theorem d_Model_logs_63 : decode jc_Model_logs 63 = .ok (.bipush 6, 2) := by decide +kernel
theorem d_Model_logs_65 : decode jc_Model_logs 65 = .ok (.aload_n 0, 1) := by decide +kernel
theorem d_Model_logs_66 : decode jc_Model_logs 66 = .ok (.getfield 59, 3) := by decide +kernel
theorem d_Model_logs_69 : decode jc_Model_logs 69 = .ok (.iadd, 1) := by decide +kernel
theorem d_Model_logs_70 : decode jc_Model_logs 70 = .ok (.invokevirtual 85, 3) := by decide +kernel
theorem d_Model_logs_73 : decode jc_Model_logs 73 = .ok (.aload_n 0, 1) := by decide +kernel
theorem d_Model_logs_74 : decode jc_Model_logs 74 = .ok (.getfield 16, 3) := by decide +kernel
theorem d_Model_logs_77 : decode jc_Model_logs 77 = .ok (.aload_n 0, 1) := by decide +kernel
theorem d_Model_logs_78 : decode jc_Model_logs 78 = .ok (.getfield 59, 3) := by decide +kernel
theorem d_Model_logs_81 : decode jc_Model_logs 81 = .ok (.iload_n 1, 1) := by decide +kernel
theorem d_Model_logs_82 : decode jc_Model_logs 82 = .ok (.iastore, 1) := by decide +kernel
theorem d_Model_logs_83 : decode jc_Model_logs 83 = .ok (.aload_n 0, 1) := by decide +kernel
theorem d_Model_logs_84 : decode jc_Model_logs 84 = .ok (.dup, 1) := by decide +kernel
theorem d_Model_logs_85 : decode jc_Model_logs 85 = .ok (.getfield 59, 3) := by decide +kernel
theorem d_Model_logs_88 : decode jc_Model_logs 88 = .ok (.iconst 1, 1) := by decide +kernel
theorem d_Model_logs_89 : decode jc_Model_logs 89 = .ok (.iadd, 1) := by decide +kernel
theorem d_Model_logs_90 : decode jc_Model_logs 90 = .ok (.putfield 59, 3) := by decide +kernel
theorem d_Model_logs_93 : decode jc_Model_logs 93 = .ok (.return_, 1) := by decide +kernel
theorem d_Model_comes_0 : decode jc_Model_comes 0 = .ok (.aload_n 0, 1) := by decide +kernel
theorem d_Model_comes_1 : decode jc_Model_comes 1 = .ok (.iload_n 1, 1) := by decide +kernel
theorem d_Model_comes_2 : decode jc_Model_comes 2 = .ok (.invokevirtual 102, 3) := by decide +kernel
theorem d_Model_comes_5 : decode jc_Model_comes 5 = .ok (.aload_n 0, 1) := by decide +kernel
theorem d_Model_comes_6 : decode jc_Model_comes 6 = .ok (.bipush 35, 2) := by decide +kernel
theorem d_Model_comes_8 : decode jc_Model_comes 8 = .ok (.iload_n 1, 1) := by decide +kernel
theorem d_Model_comes_9 : decode jc_Model_comes 9 = .ok (.invokevirtual 85, 3) := by decide +kernel
theorem d_Model_comes_12 : decode jc_Model_comes 12 = .ok (.aload_n 0, 1) := by decide +kernel
theorem d_Model_comes_13 : decode jc_Model_comes 13 = .ok (.getfield 13, 3) := by decide +kernel
theorem d_Model_comes_16 : decode jc_Model_comes 16 = .ok (.iload_n 1, 1) := by decide +kernel
theorem d_Model_comes_17 : decode jc_Model_comes 17 = .ok (.iaload, 1) := by decide +kernel
theorem d_Model_comes_18 : decode jc_Model_comes 18 = .ok (.ireturn, 1) := by decide +kernel
theorem d_Model_undo_0 : decode jc_Model_undo 0 = .ok (.aload_n 0, 1) := by decide +kernel
theorem d_Model_undo_1 : decode jc_Model_undo 1 = .ok (.getfield 59, 3) := by decide +kernel
theorem d_Model_undo_4 : decode jc_Model_undo 4 = .ok (.ifCond .ne 6, 3) := by decide +kernel
theorem d_Model_undo_7 : decode jc_Model_undo 7 = .ok (.bipush (-2), 2) := by decide +kernel
theorem d_Model_undo_9 : decode jc_Model_undo 9 = .ok (.ireturn, 1) := by decide +kernel
theorem d_Model_undo_10 : decode jc_Model_undo 10 = .ok (.aload_n 0, 1) := by decide +kernel
theorem d_Model_undo_11 : decode jc_Model_undo 11 = .ok (.dup, 1) := by decide +kernel
theorem d_Model_undo_12 : decode jc_Model_undo 12 = .ok (.getfield 59, 3) := by decide +kernel
theorem d_Model_undo_15 : decode jc_Model_undo 15 = .ok (.iconst 1, 1) := by decide +kernel
theorem d_Model_undo_16 : decode jc_Model_undo 16 = .ok (.isub, 1) := by decide +kernel
theorem d_Model_undo_17 : decode jc_Model_undo 17 = .ok (.putfield 59, 3) := by decide +kernel
theorem d_Model_undo_20 : decode jc_Model_undo 20 = .ok (.aload_n 0, 1) := by decide +kernel
theorem d_Model_undo_21 : decode jc_Model_undo 21 = .ok (.bipush 6, 2) := by decide +kernel
theorem d_Model_undo_23 : decode jc_Model_undo 23 = .ok (.aload_n 0, 1) := by decide +kernel
theorem d_Model_undo_24 : decode jc_Model_undo 24 = .ok (.getfield 59, 3) := by decide +kernel
theorem d_Model_undo_27 : decode jc_Model_undo 27 = .ok (.iadd, 1) := by decide +kernel
theorem d_Model_undo_28 : decode jc_Model_undo 28 = .ok (.aload_n 0, 1) := by decide +kernel
theorem d_Model_undo_29 : decode jc_Model_undo 29 = .ok (.getfield 16, 3) := by decide +kernel
theorem d_Model_undo_32 : decode jc_Model_undo 32 = .ok (.aload_n 0, 1) := by decide +kernel
theorem d_Model_undo_33 : decode jc_Model_undo 33 = .ok (.getfield 59, 3) := by decide +kernel
theorem d_Model_undo_36 : decode jc_Model_undo 36 = .ok (.iaload, 1) := by decide +kernel
theorem d_Model_undo_37 : decode jc_Model_undo 37 = .ok (.invokevirtual 85, 3) := by decide +kernel
theorem d_Model_undo_40 : decode jc_Model_undo 40 = .ok (.aload_n 0, 1) := by decide +kernel
theorem d_Model_undo_41 : decode jc_Model_undo 41 = .ok (.getfield 16, 3) := by decide +kernel
theorem d_Model_undo_44 : decode jc_Model_undo 44 = .ok (.aload_n 0, 1) := by decide +kernel
theorem d_Model_undo_45 : decode jc_Model_undo 45 = .ok (.getfield 59, 3) := by decide +kernel
theorem d_Model_undo_48 : decode jc_Model_undo 48 = .ok (.iaload, 1) := by decide +kernel
theorem d_Model_undo_49 : decode jc_Model_undo 49 = .ok (.ireturn, 1) := by decide +kernel
theorem d_Model_make_0 : decode jc_Model_make 0 = .ok (.iload_n 1, 1) := by decide +kernel
theorem d_Model_make_1 : decode jc_Model_make 1 = .ok (.invokestatic 63, 3) := by decide +kernel
theorem d_Model_make_4 : decode jc_Model_make 4 = .ok (.ifCond .eq 37, 3) := by decide +kernel
theorem d_Model_make_7 : decode jc_Model_make 7 = .ok (.iload_n 2, 1) := by decide +kernel
theorem d_Model_make_8 : decode jc_Model_make 8 = .ok (.i2l, 1) := by decide +kernel
theorem d_Model_make_9 : decode jc_Model_make 9 = .ok (.lconst 1, 1) := by decide +kernel
theorem d_Model_make_10 : decode jc_Model_make 10 = .ok (.ldc2_w 105, 3) := by decide +kernel
theorem d_Model_make_13 : decode jc_Model_make 13 = .ok (.invokestatic 107, 3) := by decide +kernel
theorem d_Model_make_16 : decode jc_Model_make 16 = .ok (.ifCond .eq 25, 3) := by decide +kernel
theorem d_Model_make_19 : decode jc_Model_make 19 = .ok (.iload_n 3, 1) := by decide +kernel
theorem d_Model_make_20 : decode jc_Model_make 20 = .ok (.i2l, 1) := by decide +kernel
theorem d_Model_make_21 : decode jc_Model_make 21 = .ok (.lconst 0, 1) := by decide +kernel
theorem d_Model_make_22 : decode jc_Model_make 22 = .ok (.ldc2_w 111, 3) := by decide +kernel
theorem d_Model_make_25 : decode jc_Model_make 25 = .ok (.invokestatic 107, 3) := by decide +kernel
theorem d_Model_make_28 : decode jc_Model_make 28 = .ok (.ifCond .eq 13, 3) := by decide +kernel
theorem d_Model_make_31 : decode jc_Model_make 31 = .ok (.iload_n 3, 1) := by decide +kernel
theorem d_Model_make_32 : decode jc_Model_make 32 = .ok (.iconst 4, 1) := by decide +kernel
theorem d_Model_make_33 : decode jc_Model_make 33 = .ok (.if_icmp .ne 10, 3) := by decide +kernel
theorem d_Model_make_36 : decode jc_Model_make 36 = .ok (.iload_n 2, 1) := by decide +kernel
theorem d_Model_make_37 : decode jc_Model_make 37 = .ok (.iconst 1, 1) := by decide +kernel
theorem d_Model_make_38 : decode jc_Model_make 38 = .ok (.if_icmp .ne 5, 3) := by decide +kernel
theorem d_Model_make_41 : decode jc_Model_make 41 = .ok (.iconst (-1), 1) := by decide +kernel
theorem d_Model_make_42 : decode jc_Model_make 42 = .ok (.ireturn, 1) := by decide +kernel
theorem d_Model_make_43 : decode jc_Model_make 43 = .ok (.aload_n 0, 1) := by decide +kernel
theorem d_Model_make_44 : decode jc_Model_make 44 = .ok (.bipush 35, 2) := by decide +kernel
theorem d_Model_make_46 : decode jc_Model_make 46 = .ok (.iload_n 2, 1) := by decide +kernel
theorem d_Model_make_47 : decode jc_Model_make 47 = .ok (.invokevirtual 75, 3) := by decide +kernel
theorem d_Model_make_50 : decode jc_Model_make 50 = .ok (.iconst 0, 1) := by decide +kernel
theorem d_Model_make_51 : decode jc_Model_make 51 = .ok (.istore 4, 2) := by decide +kernel
theorem d_Model_make_53 : decode jc_Model_make 53 = .ok (.iload 4, 2) := by decide +kernel
theorem d_Model_make_55 : decode jc_Model_make 55 = .ok (.iload_n 2, 1) := by decide +kernel
theorem d_Model_make_56 : decode jc_Model_make 56 = .ok (.if_icmp .ge 84, 3) := by decide +kernel
theorem d_Model_make_59 : decode jc_Model_make 59 = .ok (.iconst 1, 1) := by decide +kernel
theorem d_Model_make_60 : decode jc_Model_make 60 = .ok (.iload 4, 2) := by decide +kernel
theorem d_Model_make_62 : decode jc_Model_make 62 = .ok (.iconst 1, 1) := by decide +kernel
theorem d_Model_make_63 : decode jc_Model_make 63 = .ok (.iadd, 1) := by decide +kernel
theorem d_Model_make_64 : decode jc_Model_make 64 = .ok (.iload_n 2, 1) := by decide +kernel
theorem d_Model_make_65 : decode jc_Model_make 65 = .ok (.irem, 1) := by decide +kernel
theorem d_Model_make_66 : decode jc_Model_make 66 = .ok (.ishl, 1) := by decide +kernel
theorem d_Model_make_67 : decode jc_Model_make 67 = .ok (.iload_n 3, 1) := by decide +kernel
theorem d_Model_make_68 : decode jc_Model_make 68 = .ok (.iconst 4, 1) := by decide +kernel
theorem d_Model_make_69 : decode jc_Model_make 69 = .ok (.if_icmp .ne 15, 3) := by decide +kernel
theorem d_Model_make_72 : decode jc_Model_make 72 = .ok (.iload 4, 2) := by decide +kernel
theorem d_Model_make_74 : decode jc_Model_make 74 = .ok (.iload_n 2, 1) := by decide +kernel
theorem d_Model_make_75 : decode jc_Model_make 75 = .ok (.iconst 1, 1) := by decide +kernel
theorem d_Model_make_76 : decode jc_Model_make 76 = .ok (.isub, 1) := by decide +kernel
theorem d_Model_make_77 : decode jc_Model_make 77 = .ok (.if_icmp .ne 7, 3) := by decide +kernel
theorem d_Model_make_80 : decode jc_Model_make 80 = .ok (.iconst 2, 1) := by decide +kernel
theorem d_Model_make_81 : decode jc_Model_make 81 = .ok (.goto 4, 3) := by decide +kernel
theorem d_Model_make_84 : decode jc_Model_make 84 = .ok (.iconst 0, 1) := by decide +kernel
theorem d_Model_make_85 : decode jc_Model_make 85 = .ok (.ior, 1) := by decide +kernel
theorem d_Model_make_86 : decode jc_Model_make 86 = .ok (.istore 5, 2) := by decide +kernel
theorem d_Model_make_88 : decode jc_Model_make 88 = .ok (.aload_n 0, 1) := by decide +kernel
theorem d_Model_make_89 : decode jc_Model_make 89 = .ok (.getfield 7, 3) := by decide +kernel
theorem d_Model_make_92 : decode jc_Model_make 92 = .ok (.sipush 420, 3) := by decide +kernel
theorem d_Model_make_95 : decode jc_Model_make 95 = .ok (.iload 4, 2) := by decide +kernel
theorem d_Model_make_97 : decode jc_Model_make 97 = .ok (.iadd, 1) := by decide +kernel
theorem d_Model_make_98 : decode jc_Model_make 98 = .ok (.iload_n 3, 1) := by decide +kernel
theorem d_Model_make_99 : decode jc_Model_make 99 = .ok (.ifCond .ne 7, 3) := by decide +kernel
theorem d_Model_make_102 : decode jc_Model_make 102 = .ok (.iconst 0, 1) := by decide +kernel
theorem d_Model_make_103 : decode jc_Model_make 103 = .ok (.goto 30, 3) := by decide +kernel
theorem d_Model_make_106 : decode jc_Model_make 106 = .ok (.iload_n 3, 1) := by decide +kernel
theorem d_Model_make_107 : decode jc_Model_make 107 = .ok (.iconst 1, 1) := by decide +kernel
theorem d_Model_make_108 : decode jc_Model_make 108 = .ok (.if_icmp .ne 11, 3) := by decide +kernel
theorem d_Model_make_111 : decode jc_Model_make 111 = .ok (.iconst 1, 1) := by decide +kernel
theorem d_Model_make_112 : decode jc_Model_make 112 = .ok (.iload_n 2, 1) := by decide +kernel
theorem d_Model_make_113 : decode jc_Model_make 113 = .ok (.ishl, 1) := by decide +kernel
theorem d_Model_make_114 : decode jc_Model_make 114 = .ok (.iconst 1, 1) := by decide +kernel
theorem d_Model_make_115 : decode jc_Model_make 115 = .ok (.isub, 1) := by decide +kernel
theorem d_Model_make_116 : decode jc_Model_make 116 = .ok (.goto 17, 3) := by decide +kernel
theorem d_Model_make_119 : decode jc_Model_make 119 = .ok (.iload_n 3, 1) := by decide +kernel
theorem d_Model_make_120 : decode jc_Model_make 120 = .ok (.iconst 2, 1) := by decide +kernel
theorem d_Model_make_121 : decode jc_Model_make 121 = .ok (.if_icmp .ne 10, 3) := by decide +kernel
theorem d_Model_make_124 : decode jc_Model_make 124 = .ok (.iconst 1, 1) := by decide +kernel
theorem d_Model_make_125 : decode jc_Model_make 125 = .ok (.iload 4, 2) := by decide +kernel
theorem d_Model_make_127 : decode jc_Model_make 127 = .ok (.ishl, 1) := by decide +kernel
theorem d_Model_make_128 : decode jc_Model_make 128 = .ok (.goto 5, 3) := by decide +kernel
theorem d_Model_make_131 : decode jc_Model_make 131 = .ok (.iload 5, 2) := by decide +kernel
theorem d_Model_make_133 : decode jc_Model_make 133 = .ok (.iastore, 1) := by decide +kernel
theorem d_Model_make_134 : decode jc_Model_make 134 = .ok (.iinc 4 1, 3) := by decide +kernel
theorem d_Model_make_137 : decode jc_Model_make 137 = .ok (.goto (-84), 3) := by decide +kernel
theorem d_Model_make_140 : decode jc_Model_make 140 = .ok (.aload_n 0, 1) := by decide +kernel
theorem d_Model_make_141 : decode jc_Model_make 141 = .ok (.iload_n 1, 1) := by decide +kernel
theorem d_Model_make_142 : decode jc_Model_make 142 = .ok (.invokevirtual 113, 3) := by decide +kernel
theorem d_Model_make_145 : decode jc_Model_make 145 = .ok (.ireturn, 1) := by decide +kernel
theorem d_Model_put_0 : decode jc_Model_put 0 = .ok (.aload_n 0, 1) := by decide +kernel
theorem d_Model_put_1 : decode jc_Model_put 1 = .ok (.iload_n 1, 1) := by decide +kernel
theorem d_Model_put_2 : decode jc_Model_put 2 = .ok (.invokevirtual 117, 3) := by decide +kernel
theorem d_Model_put_5 : decode jc_Model_put 5 = .ok (.ifCond .eq 32, 3) := by decide +kernel
theorem d_Model_put_8 : decode jc_Model_put 8 = .ok (.aload_n 0, 1) := by decide +kernel
theorem d_Model_put_9 : decode jc_Model_put 9 = .ok (.iload_n 1, 1) := by decide +kernel
theorem d_Model_put_10 : decode jc_Model_put 10 = .ok (.iload_n 2, 1) := by decide +kernel
theorem d_Model_put_11 : decode jc_Model_put 11 = .ok (.invokevirtual 120, 3) := by decide +kernel
theorem d_Model_put_14 : decode jc_Model_put 14 = .ok (.ifCond .eq 23, 3) := by decide +kernel
theorem d_Model_put_17 : decode jc_Model_put 17 = .ok (.aload_n 0, 1) := by decide +kernel
theorem d_Model_put_18 : decode jc_Model_put 18 = .ok (.iload_n 1, 1) := by decide +kernel
theorem d_Model_put_19 : decode jc_Model_put 19 = .ok (.iload_n 3, 1) := by decide +kernel
theorem d_Model_put_20 : decode jc_Model_put 20 = .ok (.invokevirtual 120, 3) := by decide +kernel
theorem d_Model_put_23 : decode jc_Model_put 23 = .ok (.ifCond .eq 14, 3) := by decide +kernel
theorem d_Model_put_26 : decode jc_Model_put 26 = .ok (.iload 4, 2) := by decide +kernel
theorem d_Model_put_28 : decode jc_Model_put 28 = .ok (.i2l, 1) := by decide +kernel
theorem d_Model_put_29 : decode jc_Model_put 29 = .ok (.lconst 0, 1) := by decide +kernel
theorem d_Model_put_30 : decode jc_Model_put 30 = .ok (.lconst 1, 1) := by decide +kernel
theorem d_Model_put_31 : decode jc_Model_put 31 = .ok (.invokestatic 107, 3) := by decide +kernel
theorem d_Model_put_34 : decode jc_Model_put 34 = .ok (.ifCond .ne 5, 3) := by decide +kernel
theorem d_Model_put_37 : decode jc_Model_put 37 = .ok (.iconst (-1), 1) := by decide +kernel
theorem d_Model_put_38 : decode jc_Model_put 38 = .ok (.ireturn, 1) := by decide +kernel
theorem d_Model_put_39 : decode jc_Model_put 39 = .ok (.aload_n 0, 1) := by decide +kernel
theorem d_Model_put_40 : decode jc_Model_put 40 = .ok (.iload_n 1, 1) := by decide +kernel
theorem d_Model_put_41 : decode jc_Model_put 41 = .ok (.iload_n 2, 1) := by decide +kernel
theorem d_Model_put_42 : decode jc_Model_put 42 = .ok (.iload_n 3, 1) := by decide +kernel
theorem d_Model_put_43 : decode jc_Model_put 43 = .ok (.invokevirtual 67, 3) := by decide +kernel
theorem d_Model_put_46 : decode jc_Model_put 46 = .ok (.ifCond .eq 7, 3) := by decide +kernel
theorem d_Model_put_49 : decode jc_Model_put 49 = .ok (.iconst 1, 1) := by decide +kernel
theorem d_Model_put_50 : decode jc_Model_put 50 = .ok (.goto 4, 3) := by decide +kernel
theorem d_Model_put_53 : decode jc_Model_put 53 = .ok (.iconst 0, 1) := by decide +kernel
theorem d_Model_put_54 : decode jc_Model_put 54 = .ok (.istore 5, 2) := by decide +kernel
theorem d_Model_put_56 : decode jc_Model_put 56 = .ok (.aload_n 0, 1) := by decide +kernel
theorem d_Model_put_57 : decode jc_Model_put 57 = .ok (.iload_n 1, 1) := by decide +kernel
theorem d_Model_put_58 : decode jc_Model_put 58 = .ok (.invokevirtual 102, 3) := by decide +kernel
theorem d_Model_put_61 : decode jc_Model_put 61 = .ok (.aload_n 0, 1) := by decide +kernel
theorem d_Model_put_62 : decode jc_Model_put 62 = .ok (.getfield 7, 3) := by decide +kernel
theorem d_Model_put_65 : decode jc_Model_put 65 = .ok (.bipush 12, 2) := by decide +kernel
theorem d_Model_put_67 : decode jc_Model_put 67 = .ok (.iload_n 1, 1) := by decide +kernel
theorem d_Model_put_68 : decode jc_Model_put 68 = .ok (.imul, 1) := by decide +kernel
theorem d_Model_put_69 : decode jc_Model_put 69 = .ok (.iload_n 2, 1) := by decide +kernel
theorem d_Model_put_70 : decode jc_Model_put 70 = .ok (.iadd, 1) := by decide +kernel
theorem d_Model_put_71 : decode jc_Model_put 71 = .ok (.iload 4, 2) := by decide +kernel
theorem d_Model_put_73 : decode jc_Model_put 73 = .ok (.iconst 1, 1) := by decide +kernel
theorem d_Model_put_74 : decode jc_Model_put 74 = .ok (.if_icmp .ne 16, 3) := by decide +kernel
theorem d_Model_put_77 : decode jc_Model_put 77 = .ok (.aload_n 0, 1) := by decide +kernel
theorem d_Model_put_78 : decode jc_Model_put 78 = .ok (.iload_n 1, 1) := by decide +kernel
theorem d_Model_put_79 : decode jc_Model_put 79 = .ok (.iload_n 2, 1) := by decide +kernel
theorem d_Model_put_80 : decode jc_Model_put 80 = .ok (.invokevirtual 71, 3) := by decide +kernel
theorem d_Model_put_83 : decode jc_Model_put 83 = .ok (.iconst 1, 1) := by decide +kernel
theorem d_Model_put_84 : decode jc_Model_put 84 = .ok (.iload_n 3, 1) := by decide +kernel
theorem d_Model_put_85 : decode jc_Model_put 85 = .ok (.ishl, 1) := by decide +kernel
theorem d_Model_put_86 : decode jc_Model_put 86 = .ok (.ior, 1) := by decide +kernel
theorem d_Model_put_87 : decode jc_Model_put 87 = .ok (.goto 15, 3) := by decide +kernel
theorem d_Model_put_90 : decode jc_Model_put 90 = .ok (.aload_n 0, 1) := by decide +kernel
theorem d_Model_put_91 : decode jc_Model_put 91 = .ok (.iload_n 1, 1) := by decide +kernel
theorem d_Model_put_92 : decode jc_Model_put 92 = .ok (.iload_n 2, 1) := by decide +kernel
theorem d_Model_put_93 : decode jc_Model_put 93 = .ok (.invokevirtual 71, 3) := by decide +kernel
theorem d_Model_put_96 : decode jc_Model_put 96 = .ok (.iconst 1, 1) := by decide +kernel
theorem d_Model_put_97 : decode jc_Model_put 97 = .ok (.iload_n 3, 1) := by decide +kernel
theorem d_Model_put_98 : decode jc_Model_put 98 = .ok (.ishl, 1) := by decide +kernel
theorem d_Model_put_99 : decode jc_Model_put 99 = .ok (.iconst (-1), 1) := by decide +kernel
theorem d_Model_put_100 : decode jc_Model_put 100 = .ok (.ixor, 1) := by decide +kernel
theorem d_Model_put_101 : decode jc_Model_put 101 = .ok (.iand, 1) := by decide +kernel
theorem d_Model_put_102 : decode jc_Model_put 102 = .ok (.iastore, 1) := by decide +kernel
theorem d_Model_put_103 : decode jc_Model_put 103 = .ok (.iload 5, 2) := by decide +kernel
theorem d_Model_put_105 : decode jc_Model_put 105 = .ok (.ireturn, 1) := by decide +kernel
theorem d_Model_at_0 : decode jc_Model_at 0 = .ok (.aload_n 0, 1) := by decide +kernel
theorem d_Model_at_1 : decode jc_Model_at 1 = .ok (.iload_n 1, 1) := by decide +kernel
theorem d_Model_at_2 : decode jc_Model_at 2 = .ok (.invokevirtual 117, 3) := by decide +kernel
theorem d_Model_at_5 : decode jc_Model_at 5 = .ok (.ifCond .eq 21, 3) := by decide +kernel
theorem d_Model_at_8 : decode jc_Model_at 8 = .ok (.aload_n 0, 1) := by decide +kernel
theorem d_Model_at_9 : decode jc_Model_at 9 = .ok (.iload_n 1, 1) := by decide +kernel
theorem d_Model_at_10 : decode jc_Model_at 10 = .ok (.iload_n 2, 1) := by decide +kernel
theorem d_Model_at_11 : decode jc_Model_at 11 = .ok (.invokevirtual 120, 3) := by decide +kernel
theorem d_Model_at_14 : decode jc_Model_at 14 = .ok (.ifCond .eq 12, 3) := by decide +kernel
theorem d_Model_at_17 : decode jc_Model_at 17 = .ok (.aload_n 0, 1) := by decide +kernel
theorem d_Model_at_18 : decode jc_Model_at 18 = .ok (.iload_n 1, 1) := by decide +kernel
theorem d_Model_at_19 : decode jc_Model_at 19 = .ok (.iload_n 3, 1) := by decide +kernel
theorem d_Model_at_20 : decode jc_Model_at 20 = .ok (.invokevirtual 120, 3) := by decide +kernel
theorem d_Model_at_23 : decode jc_Model_at 23 = .ok (.ifCond .ne 5, 3) := by decide +kernel
theorem d_Model_at_26 : decode jc_Model_at 26 = .ok (.iconst (-1), 1) := by decide +kernel
theorem d_Model_at_27 : decode jc_Model_at 27 = .ok (.ireturn, 1) := by decide +kernel
theorem d_Model_at_28 : decode jc_Model_at 28 = .ok (.aload_n 0, 1) := by decide +kernel
theorem d_Model_at_29 : decode jc_Model_at 29 = .ok (.iload_n 1, 1) := by decide +kernel
theorem d_Model_at_30 : decode jc_Model_at 30 = .ok (.iload_n 2, 1) := by decide +kernel
theorem d_Model_at_31 : decode jc_Model_at 31 = .ok (.iload_n 3, 1) := by decide +kernel
theorem d_Model_at_32 : decode jc_Model_at 32 = .ok (.invokevirtual 67, 3) := by decide +kernel
theorem d_Model_at_35 : decode jc_Model_at 35 = .ok (.ifCond .eq 7, 3) := by decide +kernel
theorem d_Model_at_38 : decode jc_Model_at 38 = .ok (.iconst 1, 1) := by decide +kernel
theorem d_Model_at_39 : decode jc_Model_at 39 = .ok (.goto 4, 3) := by decide +kernel
theorem d_Model_at_42 : decode jc_Model_at 42 = .ok (.iconst 0, 1) := by decide +kernel
theorem d_Model_at_43 : decode jc_Model_at 43 = .ok (.ireturn, 1) := by decide +kernel
theorem d_Model_line_0 : decode jc_Model_line 0 = .ok (.aload_n 0, 1) := by decide +kernel
theorem d_Model_line_1 : decode jc_Model_line 1 = .ok (.iload_n 1, 1) := by decide +kernel
theorem d_Model_line_2 : decode jc_Model_line 2 = .ok (.invokevirtual 117, 3) := by decide +kernel
theorem d_Model_line_5 : decode jc_Model_line 5 = .ok (.ifCond .eq 22, 3) := by decide +kernel
theorem d_Model_line_8 : decode jc_Model_line 8 = .ok (.iload_n 2, 1) := by decide +kernel
theorem d_Model_line_9 : decode jc_Model_line 9 = .ok (.i2l, 1) := by decide +kernel
theorem d_Model_line_10 : decode jc_Model_line 10 = .ok (.lconst 0, 1) := by decide +kernel
theorem d_Model_line_11 : decode jc_Model_line 11 = .ok (.lconst 1, 1) := by decide +kernel
theorem d_Model_line_12 : decode jc_Model_line 12 = .ok (.invokestatic 107, 3) := by decide +kernel
theorem d_Model_line_15 : decode jc_Model_line 15 = .ok (.ifCond .eq 12, 3) := by decide +kernel
theorem d_Model_line_18 : decode jc_Model_line 18 = .ok (.aload_n 0, 1) := by decide +kernel
theorem d_Model_line_19 : decode jc_Model_line 19 = .ok (.iload_n 1, 1) := by decide +kernel
theorem d_Model_line_20 : decode jc_Model_line 20 = .ok (.iload_n 3, 1) := by decide +kernel
theorem d_Model_line_21 : decode jc_Model_line 21 = .ok (.invokevirtual 120, 3) := by decide +kernel
theorem d_Model_line_24 : decode jc_Model_line 24 = .ok (.ifCond .ne 5, 3) := by decide +kernel
theorem d_Model_line_27 : decode jc_Model_line 27 = .ok (.iconst (-1), 1) := by decide +kernel
theorem d_Model_line_28 : decode jc_Model_line 28 = .ok (.ireturn, 1) := by decide +kernel
theorem d_Model_line_29 : decode jc_Model_line 29 = .ok (.iload_n 2, 1) := by decide +kernel
theorem d_Model_line_30 : decode jc_Model_line 30 = .ok (.ifCond .ne 12, 3) := by decide +kernel
theorem d_Model_line_33 : decode jc_Model_line 33 = .ok (.aload_n 0, 1) := by decide +kernel
theorem d_Model_line_34 : decode jc_Model_line 34 = .ok (.iload_n 1, 1) := by decide +kernel
theorem d_Model_line_35 : decode jc_Model_line 35 = .ok (.iload_n 3, 1) := by decide +kernel
theorem d_Model_line_36 : decode jc_Model_line 36 = .ok (.invokevirtual 71, 3) := by decide +kernel
theorem d_Model_line_39 : decode jc_Model_line 39 = .ok (.goto 9, 3) := by decide +kernel
theorem d_Model_line_42 : decode jc_Model_line 42 = .ok (.aload_n 0, 1) := by decide +kernel
theorem d_Model_line_43 : decode jc_Model_line 43 = .ok (.iload_n 1, 1) := by decide +kernel
theorem d_Model_line_44 : decode jc_Model_line 44 = .ok (.iload_n 3, 1) := by decide +kernel
theorem d_Model_line_45 : decode jc_Model_line 45 = .ok (.invokevirtual 79, 3) := by decide +kernel
theorem d_Model_line_48 : decode jc_Model_line 48 = .ok (.ireturn, 1) := by decide +kernel
theorem d_Model_setRow_0 : decode jc_Model_setRow 0 = .ok (.aload_n 0, 1) := by decide +kernel
theorem d_Model_setRow_1 : decode jc_Model_setRow 1 = .ok (.iload_n 1, 1) := by decide +kernel
theorem d_Model_setRow_2 : decode jc_Model_setRow 2 = .ok (.invokevirtual 117, 3) := by decide +kernel
theorem d_Model_setRow_5 : decode jc_Model_setRow 5 = .ok (.ifCond .eq 21, 3) := by decide +kernel
theorem d_Model_setRow_8 : decode jc_Model_setRow 8 = .ok (.aload_n 0, 1) := by decide +kernel
theorem d_Model_setRow_9 : decode jc_Model_setRow 9 = .ok (.iload_n 1, 1) := by decide +kernel
theorem d_Model_setRow_10 : decode jc_Model_setRow 10 = .ok (.iload_n 2, 1) := by decide +kernel
theorem d_Model_setRow_11 : decode jc_Model_setRow 11 = .ok (.invokevirtual 120, 3) := by decide +kernel
theorem d_Model_setRow_14 : decode jc_Model_setRow 14 = .ok (.ifCond .eq 12, 3) := by decide +kernel
theorem d_Model_setRow_17 : decode jc_Model_setRow 17 = .ok (.aload_n 0, 1) := by decide +kernel
theorem d_Model_setRow_18 : decode jc_Model_setRow 18 = .ok (.iload_n 1, 1) := by decide +kernel
theorem d_Model_setRow_19 : decode jc_Model_setRow 19 = .ok (.iload_n 3, 1) := by decide +kernel
theorem d_Model_setRow_20 : decode jc_Model_setRow 20 = .ok (.invokevirtual 124, 3) := by decide +kernel
theorem d_Model_setRow_23 : decode jc_Model_setRow 23 = .ok (.ifCond .ne 5, 3) := by decide +kernel
theorem d_Model_setRow_26 : decode jc_Model_setRow 26 = .ok (.iconst (-1), 1) := by decide +kernel
theorem d_Model_setRow_27 : decode jc_Model_setRow 27 = .ok (.ireturn, 1) := by decide +kernel
theorem d_Model_setRow_28 : decode jc_Model_setRow 28 = .ok (.aload_n 0, 1) := by decide +kernel
theorem d_Model_setRow_29 : decode jc_Model_setRow 29 = .ok (.iload_n 1, 1) := by decide +kernel
theorem d_Model_setRow_30 : decode jc_Model_setRow 30 = .ok (.iload_n 2, 1) := by decide +kernel
theorem d_Model_setRow_31 : decode jc_Model_setRow 31 = .ok (.invokevirtual 71, 3) := by decide +kernel
theorem d_Model_setRow_34 : decode jc_Model_setRow 34 = .ok (.istore 4, 2) := by decide +kernel
theorem d_Model_setRow_36 : decode jc_Model_setRow 36 = .ok (.aload_n 0, 1) := by decide +kernel
theorem d_Model_setRow_37 : decode jc_Model_setRow 37 = .ok (.iload_n 1, 1) := by decide +kernel
theorem d_Model_setRow_38 : decode jc_Model_setRow 38 = .ok (.invokevirtual 102, 3) := by decide +kernel
theorem d_Model_setRow_41 : decode jc_Model_setRow 41 = .ok (.aload_n 0, 1) := by decide +kernel
theorem d_Model_setRow_42 : decode jc_Model_setRow 42 = .ok (.getfield 7, 3) := by decide +kernel
theorem d_Model_setRow_45 : decode jc_Model_setRow 45 = .ok (.bipush 12, 2) := by decide +kernel
theorem d_Model_setRow_47 : decode jc_Model_setRow 47 = .ok (.iload_n 1, 1) := by decide +kernel
theorem d_Model_setRow_48 : decode jc_Model_setRow 48 = .ok (.imul, 1) := by decide +kernel
theorem d_Model_setRow_49 : decode jc_Model_setRow 49 = .ok (.iload_n 2, 1) := by decide +kernel
theorem d_Model_setRow_50 : decode jc_Model_setRow 50 = .ok (.iadd, 1) := by decide +kernel
theorem d_Model_setRow_51 : decode jc_Model_setRow 51 = .ok (.iload_n 3, 1) := by decide +kernel
theorem d_Model_setRow_52 : decode jc_Model_setRow 52 = .ok (.iastore, 1) := by decide +kernel
theorem d_Model_setRow_53 : decode jc_Model_setRow 53 = .ok (.iload 4, 2) := by decide +kernel
theorem d_Model_setRow_55 : decode jc_Model_setRow 55 = .ok (.ireturn, 1) := by decide +kernel
theorem d_Model_times_0 : decode jc_Model_times 0 = .ok (.aload_n 0, 1) := by decide +kernel
theorem d_Model_times_1 : decode jc_Model_times 1 = .ok (.iload_n 1, 1) := by decide +kernel
theorem d_Model_times_2 : decode jc_Model_times 2 = .ok (.invokevirtual 117, 3) := by decide +kernel
theorem d_Model_times_5 : decode jc_Model_times 5 = .ok (.ifCond .eq 18, 3) := by decide +kernel
theorem d_Model_times_8 : decode jc_Model_times 8 = .ok (.aload_n 0, 1) := by decide +kernel
theorem d_Model_times_9 : decode jc_Model_times 9 = .ok (.iload_n 2, 1) := by decide +kernel
theorem d_Model_times_10 : decode jc_Model_times 10 = .ok (.invokevirtual 117, 3) := by decide +kernel
theorem d_Model_times_13 : decode jc_Model_times 13 = .ok (.ifCond .eq 10, 3) := by decide +kernel
theorem d_Model_times_16 : decode jc_Model_times 16 = .ok (.iload_n 3, 1) := by decide +kernel
theorem d_Model_times_17 : decode jc_Model_times 17 = .ok (.invokestatic 63, 3) := by decide +kernel
theorem d_Model_times_20 : decode jc_Model_times 20 = .ok (.ifCond .ne 5, 3) := by decide +kernel
theorem d_Model_times_23 : decode jc_Model_times 23 = .ok (.iconst (-1), 1) := by decide +kernel
theorem d_Model_times_24 : decode jc_Model_times 24 = .ok (.ireturn, 1) := by decide +kernel
theorem d_Model_times_25 : decode jc_Model_times 25 = .ok (.aload_n 0, 1) := by decide +kernel
theorem d_Model_times_26 : decode jc_Model_times 26 = .ok (.getfield 13, 3) := by decide +kernel
theorem d_Model_times_29 : decode jc_Model_times 29 = .ok (.iload_n 1, 1) := by decide +kernel
theorem d_Model_times_30 : decode jc_Model_times 30 = .ok (.iaload, 1) := by decide +kernel
theorem d_Model_times_31 : decode jc_Model_times 31 = .ok (.aload_n 0, 1) := by decide +kernel
theorem d_Model_times_32 : decode jc_Model_times 32 = .ok (.getfield 13, 3) := by decide +kernel
theorem d_Model_times_35 : decode jc_Model_times 35 = .ok (.iload_n 2, 1) := by decide +kernel
theorem d_Model_times_36 : decode jc_Model_times 36 = .ok (.iaload, 1) := by decide +kernel
theorem d_Model_times_37 : decode jc_Model_times 37 = .ok (.if_icmp .eq 6, 3) := by decide +kernel
theorem d_Model_times_40 : decode jc_Model_times 40 = .ok (.bipush (-3), 2) := by decide +kernel
theorem d_Model_times_42 : decode jc_Model_times 42 = .ok (.ireturn, 1) := by decide +kernel
theorem d_Model_times_43 : decode jc_Model_times 43 = .ok (.aload_n 0, 1) := by decide +kernel
theorem d_Model_times_44 : decode jc_Model_times 44 = .ok (.iload_n 1, 1) := by decide +kernel
theorem d_Model_times_45 : decode jc_Model_times 45 = .ok (.iload_n 2, 1) := by decide +kernel
theorem d_Model_times_46 : decode jc_Model_times 46 = .ok (.bipush 35, 2) := by decide +kernel
theorem d_Model_times_48 : decode jc_Model_times 48 = .ok (.invokevirtual 88, 3) := by decide +kernel
theorem d_Model_times_51 : decode jc_Model_times 51 = .ok (.aload_n 0, 1) := by decide +kernel
theorem d_Model_times_52 : decode jc_Model_times 52 = .ok (.iload_n 3, 1) := by decide +kernel
theorem d_Model_times_53 : decode jc_Model_times 53 = .ok (.invokevirtual 113, 3) := by decide +kernel
theorem d_Model_times_56 : decode jc_Model_times 56 = .ok (.ireturn, 1) := by decide +kernel
theorem d_Model_plus_0 : decode jc_Model_plus 0 = .ok (.aload_n 0, 1) := by decide +kernel
theorem d_Model_plus_1 : decode jc_Model_plus 1 = .ok (.iload_n 1, 1) := by decide +kernel
theorem d_Model_plus_2 : decode jc_Model_plus 2 = .ok (.invokevirtual 117, 3) := by decide +kernel
theorem d_Model_plus_5 : decode jc_Model_plus 5 = .ok (.ifCond .eq 18, 3) := by decide +kernel
theorem d_Model_plus_8 : decode jc_Model_plus 8 = .ok (.aload_n 0, 1) := by decide +kernel
theorem d_Model_plus_9 : decode jc_Model_plus 9 = .ok (.iload_n 2, 1) := by decide +kernel
theorem d_Model_plus_10 : decode jc_Model_plus 10 = .ok (.invokevirtual 117, 3) := by decide +kernel
theorem d_Model_plus_13 : decode jc_Model_plus 13 = .ok (.ifCond .eq 10, 3) := by decide +kernel
theorem d_Model_plus_16 : decode jc_Model_plus 16 = .ok (.iload_n 3, 1) := by decide +kernel
theorem d_Model_plus_17 : decode jc_Model_plus 17 = .ok (.invokestatic 63, 3) := by decide +kernel
theorem d_Model_plus_20 : decode jc_Model_plus 20 = .ok (.ifCond .ne 5, 3) := by decide +kernel
theorem d_Model_plus_23 : decode jc_Model_plus 23 = .ok (.iconst (-1), 1) := by decide +kernel
theorem d_Model_plus_24 : decode jc_Model_plus 24 = .ok (.ireturn, 1) := by decide +kernel
theorem d_Model_plus_25 : decode jc_Model_plus 25 = .ok (.aload_n 0, 1) := by decide +kernel
theorem d_Model_plus_26 : decode jc_Model_plus 26 = .ok (.getfield 13, 3) := by decide +kernel
theorem d_Model_plus_29 : decode jc_Model_plus 29 = .ok (.iload_n 1, 1) := by decide +kernel
theorem d_Model_plus_30 : decode jc_Model_plus 30 = .ok (.iaload, 1) := by decide +kernel
theorem d_Model_plus_31 : decode jc_Model_plus 31 = .ok (.aload_n 0, 1) := by decide +kernel
theorem d_Model_plus_32 : decode jc_Model_plus 32 = .ok (.getfield 13, 3) := by decide +kernel
theorem d_Model_plus_35 : decode jc_Model_plus 35 = .ok (.iload_n 2, 1) := by decide +kernel
theorem d_Model_plus_36 : decode jc_Model_plus 36 = .ok (.iaload, 1) := by decide +kernel
theorem d_Model_plus_37 : decode jc_Model_plus 37 = .ok (.if_icmp .eq 6, 3) := by decide +kernel
theorem d_Model_plus_40 : decode jc_Model_plus 40 = .ok (.bipush (-3), 2) := by decide +kernel
theorem d_Model_plus_42 : decode jc_Model_plus 42 = .ok (.ireturn, 1) := by decide +kernel
theorem d_Model_plus_43 : decode jc_Model_plus 43 = .ok (.aload_n 0, 1) := by decide +kernel
theorem d_Model_plus_44 : decode jc_Model_plus 44 = .ok (.iload_n 1, 1) := by decide +kernel
theorem d_Model_plus_45 : decode jc_Model_plus 45 = .ok (.bipush 35, 2) := by decide +kernel
theorem d_Model_plus_47 : decode jc_Model_plus 47 = .ok (.invokevirtual 85, 3) := by decide +kernel
theorem d_Model_plus_50 : decode jc_Model_plus 50 = .ok (.aload_n 0, 1) := by decide +kernel
theorem d_Model_plus_51 : decode jc_Model_plus 51 = .ok (.bipush 35, 2) := by decide +kernel
theorem d_Model_plus_53 : decode jc_Model_plus 53 = .ok (.iload_n 2, 1) := by decide +kernel
theorem d_Model_plus_54 : decode jc_Model_plus 54 = .ok (.invokevirtual 92, 3) := by decide +kernel
theorem d_Model_plus_57 : decode jc_Model_plus 57 = .ok (.aload_n 0, 1) := by decide +kernel
theorem d_Model_plus_58 : decode jc_Model_plus 58 = .ok (.iload_n 3, 1) := by decide +kernel
theorem d_Model_plus_59 : decode jc_Model_plus 59 = .ok (.invokevirtual 113, 3) := by decide +kernel
theorem d_Model_plus_62 : decode jc_Model_plus 62 = .ok (.ireturn, 1) := by decide +kernel
theorem d_Model_power_0 : decode jc_Model_power 0 = .ok (.aload_n 0, 1) := by decide +kernel
theorem d_Model_power_1 : decode jc_Model_power 1 = .ok (.iload_n 1, 1) := by decide +kernel
theorem d_Model_power_2 : decode jc_Model_power 2 = .ok (.invokevirtual 117, 3) := by decide +kernel
theorem d_Model_power_5 : decode jc_Model_power 5 = .ok (.ifCond .eq 22, 3) := by decide +kernel
theorem d_Model_power_8 : decode jc_Model_power 8 = .ok (.iload_n 2, 1) := by decide +kernel
theorem d_Model_power_9 : decode jc_Model_power 9 = .ok (.i2l, 1) := by decide +kernel
theorem d_Model_power_10 : decode jc_Model_power 10 = .ok (.lconst 0, 1) := by decide +kernel
theorem d_Model_power_11 : decode jc_Model_power 11 = .ok (.ldc2_w 127, 3) := by decide +kernel
theorem d_Model_power_14 : decode jc_Model_power 14 = .ok (.invokestatic 107, 3) := by decide +kernel
theorem d_Model_power_17 : decode jc_Model_power 17 = .ok (.ifCond .eq 10, 3) := by decide +kernel
theorem d_Model_power_20 : decode jc_Model_power 20 = .ok (.iload_n 3, 1) := by decide +kernel
theorem d_Model_power_21 : decode jc_Model_power 21 = .ok (.invokestatic 63, 3) := by decide +kernel
theorem d_Model_power_24 : decode jc_Model_power 24 = .ok (.ifCond .ne 5, 3) := by decide +kernel
theorem d_Model_power_27 : decode jc_Model_power 27 = .ok (.iconst (-1), 1) := by decide +kernel
theorem d_Model_power_28 : decode jc_Model_power 28 = .ok (.ireturn, 1) := by decide +kernel
theorem d_Model_power_29 : decode jc_Model_power 29 = .ok (.aload_n 0, 1) := by decide +kernel
theorem d_Model_power_30 : decode jc_Model_power 30 = .ok (.iload_n 1, 1) := by decide +kernel
theorem d_Model_power_31 : decode jc_Model_power 31 = .ok (.iload_n 2, 1) := by decide +kernel
theorem d_Model_power_32 : decode jc_Model_power 32 = .ok (.bipush 35, 2) := by decide +kernel
theorem d_Model_power_34 : decode jc_Model_power 34 = .ok (.invokevirtual 129, 3) := by decide +kernel
theorem d_Model_power_37 : decode jc_Model_power 37 = .ok (.aload_n 0, 1) := by decide +kernel
theorem d_Model_power_38 : decode jc_Model_power 38 = .ok (.iload_n 3, 1) := by decide +kernel
theorem d_Model_power_39 : decode jc_Model_power 39 = .ok (.invokevirtual 113, 3) := by decide +kernel
theorem d_Model_power_42 : decode jc_Model_power 42 = .ok (.ireturn, 1) := by decide +kernel
theorem d_Model_derive_0 : decode jc_Model_derive 0 = .ok (.aload_n 0, 1) := by decide +kernel
theorem d_Model_derive_1 : decode jc_Model_derive 1 = .ok (.iload_n 1, 1) := by decide +kernel
theorem d_Model_derive_2 : decode jc_Model_derive 2 = .ok (.invokevirtual 117, 3) := by decide +kernel
theorem d_Model_derive_5 : decode jc_Model_derive 5 = .ok (.ifCond .eq 22, 3) := by decide +kernel
theorem d_Model_derive_8 : decode jc_Model_derive 8 = .ok (.iload_n 2, 1) := by decide +kernel
theorem d_Model_derive_9 : decode jc_Model_derive 9 = .ok (.i2l, 1) := by decide +kernel
theorem d_Model_derive_10 : decode jc_Model_derive 10 = .ok (.lconst 0, 1) := by decide +kernel
theorem d_Model_derive_11 : decode jc_Model_derive 11 = .ok (.ldc2_w 111, 3) := by decide +kernel
theorem d_Model_derive_14 : decode jc_Model_derive 14 = .ok (.invokestatic 107, 3) := by decide +kernel
theorem d_Model_derive_17 : decode jc_Model_derive 17 = .ok (.ifCond .eq 10, 3) := by decide +kernel
theorem d_Model_derive_20 : decode jc_Model_derive 20 = .ok (.iload_n 3, 1) := by decide +kernel
theorem d_Model_derive_21 : decode jc_Model_derive 21 = .ok (.invokestatic 63, 3) := by decide +kernel
theorem d_Model_derive_24 : decode jc_Model_derive 24 = .ok (.ifCond .ne 5, 3) := by decide +kernel
theorem d_Model_derive_27 : decode jc_Model_derive 27 = .ok (.iconst (-1), 1) := by decide +kernel
theorem d_Model_derive_28 : decode jc_Model_derive 28 = .ok (.ireturn, 1) := by decide +kernel
theorem d_Model_derive_29 : decode jc_Model_derive 29 = .ok (.iload_n 2, 1) := by decide +kernel
theorem d_Model_derive_30 : decode jc_Model_derive 30 = .ok (.ifCond .eq 8, 3) := by decide +kernel
theorem d_Model_derive_33 : decode jc_Model_derive 33 = .ok (.iload_n 2, 1) := by decide +kernel
theorem d_Model_derive_34 : decode jc_Model_derive 34 = .ok (.iconst 2, 1) := by decide +kernel
theorem d_Model_derive_35 : decode jc_Model_derive 35 = .ok (.if_icmp .ne 10, 3) := by decide +kernel
theorem d_Model_derive_38 : decode jc_Model_derive 38 = .ok (.aload_n 0, 1) := by decide +kernel
theorem d_Model_derive_39 : decode jc_Model_derive 39 = .ok (.iload_n 1, 1) := by decide +kernel
theorem d_Model_derive_40 : decode jc_Model_derive 40 = .ok (.bipush 35, 2) := by decide +kernel
theorem d_Model_derive_42 : decode jc_Model_derive 42 = .ok (.invokevirtual 85, 3) := by decide +kernel
theorem d_Model_derive_45 : decode jc_Model_derive 45 = .ok (.iload_n 2, 1) := by decide +kernel
theorem d_Model_derive_46 : decode jc_Model_derive 46 = .ok (.iconst 1, 1) := by decide +kernel
theorem d_Model_derive_47 : decode jc_Model_derive 47 = .ok (.if_icmp .ne 13, 3) := by decide +kernel
theorem d_Model_derive_50 : decode jc_Model_derive 50 = .ok (.aload_n 0, 1) := by decide +kernel
theorem d_Model_derive_51 : decode jc_Model_derive 51 = .ok (.iload_n 1, 1) := by decide +kernel
theorem d_Model_derive_52 : decode jc_Model_derive 52 = .ok (.bipush 35, 2) := by decide +kernel
theorem d_Model_derive_54 : decode jc_Model_derive 54 = .ok (.invokevirtual 95, 3) := by decide +kernel
theorem d_Model_derive_57 : decode jc_Model_derive 57 = .ok (.goto 44, 3) := by decide +kernel
theorem d_Model_derive_60 : decode jc_Model_derive 60 = .ok (.iload_n 2, 1) := by decide +kernel
theorem d_Model_derive_61 : decode jc_Model_derive 61 = .ok (.iconst 2, 1) := by decide +kernel
theorem d_Model_derive_62 : decode jc_Model_derive 62 = .ok (.if_icmp .ne 12, 3) := by decide +kernel
theorem d_Model_derive_65 : decode jc_Model_derive 65 = .ok (.aload_n 0, 1) := by decide +kernel
theorem d_Model_derive_66 : decode jc_Model_derive 66 = .ok (.bipush 35, 2) := by decide +kernel
theorem d_Model_derive_68 : decode jc_Model_derive 68 = .ok (.invokevirtual 98, 3) := by decide +kernel
theorem d_Model_derive_71 : decode jc_Model_derive 71 = .ok (.goto 30, 3) := by decide +kernel
theorem d_Model_derive_74 : decode jc_Model_derive 74 = .ok (.iload_n 2, 1) := by decide +kernel
theorem d_Model_derive_75 : decode jc_Model_derive 75 = .ok (.iconst 3, 1) := by decide +kernel
theorem d_Model_derive_76 : decode jc_Model_derive 76 = .ok (.if_icmp .ne 13, 3) := by decide +kernel
theorem d_Model_derive_79 : decode jc_Model_derive 79 = .ok (.aload_n 0, 1) := by decide +kernel
theorem d_Model_derive_80 : decode jc_Model_derive 80 = .ok (.iload_n 1, 1) := by decide +kernel
theorem d_Model_derive_81 : decode jc_Model_derive 81 = .ok (.bipush 35, 2) := by decide +kernel
theorem d_Model_derive_83 : decode jc_Model_derive 83 = .ok (.invokevirtual 132, 3) := by decide +kernel
theorem d_Model_derive_86 : decode jc_Model_derive 86 = .ok (.goto 15, 3) := by decide +kernel
theorem d_Model_derive_89 : decode jc_Model_derive 89 = .ok (.iload_n 2, 1) := by decide +kernel
theorem d_Model_derive_90 : decode jc_Model_derive 90 = .ok (.iconst 4, 1) := by decide +kernel
theorem d_Model_derive_91 : decode jc_Model_derive 91 = .ok (.if_icmp .ne 10, 3) := by decide +kernel
theorem d_Model_derive_94 : decode jc_Model_derive 94 = .ok (.aload_n 0, 1) := by decide +kernel
theorem d_Model_derive_95 : decode jc_Model_derive 95 = .ok (.iload_n 1, 1) := by decide +kernel
theorem d_Model_derive_96 : decode jc_Model_derive 96 = .ok (.bipush 35, 2) := by decide +kernel
theorem d_Model_derive_98 : decode jc_Model_derive 98 = .ok (.invokevirtual 135, 3) := by decide +kernel
theorem d_Model_derive_101 : decode jc_Model_derive 101 = .ok (.aload_n 0, 1) := by decide +kernel
theorem d_Model_derive_102 : decode jc_Model_derive 102 = .ok (.iload_n 3, 1) := by decide +kernel
theorem d_Model_derive_103 : decode jc_Model_derive 103 = .ok (.invokevirtual 113, 3) := by decide +kernel
theorem d_Model_derive_106 : decode jc_Model_derive 106 = .ok (.ireturn, 1) := by decide +kernel
theorem d_Model_clear_0 : decode jc_Model_clear 0 = .ok (.iload_n 1, 1) := by decide +kernel
theorem d_Model_clear_1 : decode jc_Model_clear 1 = .ok (.invokestatic 63, 3) := by decide +kernel
theorem d_Model_clear_4 : decode jc_Model_clear 4 = .ok (.ifCond .ne 5, 3) := by decide +kernel
theorem d_Model_clear_7 : decode jc_Model_clear 7 = .ok (.iconst (-1), 1) := by decide +kernel
theorem d_Model_clear_8 : decode jc_Model_clear 8 = .ok (.ireturn, 1) := by decide +kernel
theorem d_Model_clear_9 : decode jc_Model_clear 9 = .ok (.aload_n 0, 1) := by decide +kernel
theorem d_Model_clear_10 : decode jc_Model_clear 10 = .ok (.getfield 13, 3) := by decide +kernel
theorem d_Model_clear_13 : decode jc_Model_clear 13 = .ok (.iload_n 1, 1) := by decide +kernel
theorem d_Model_clear_14 : decode jc_Model_clear 14 = .ok (.iaload, 1) := by decide +kernel
theorem d_Model_clear_15 : decode jc_Model_clear 15 = .ok (.istore_n 2, 1) := by decide +kernel
theorem d_Model_clear_16 : decode jc_Model_clear 16 = .ok (.iload_n 2, 1) := by decide +kernel
theorem d_Model_clear_17 : decode jc_Model_clear 17 = .ok (.ifCond .le 14, 3) := by decide +kernel
theorem d_Model_clear_20 : decode jc_Model_clear 20 = .ok (.aload_n 0, 1) := by decide +kernel
theorem d_Model_clear_21 : decode jc_Model_clear 21 = .ok (.iload_n 1, 1) := by decide +kernel
theorem d_Model_clear_22 : decode jc_Model_clear 22 = .ok (.invokevirtual 102, 3) := by decide +kernel
theorem d_Model_clear_25 : decode jc_Model_clear 25 = .ok (.aload_n 0, 1) := by decide +kernel
theorem d_Model_clear_26 : decode jc_Model_clear 26 = .ok (.iload_n 1, 1) := by decide +kernel
theorem d_Model_clear_27 : decode jc_Model_clear 27 = .ok (.iconst 0, 1) := by decide +kernel
theorem d_Model_clear_28 : decode jc_Model_clear 28 = .ok (.invokevirtual 75, 3) := by decide +kernel
theorem d_Model_clear_31 : decode jc_Model_clear 31 = .ok (.iload_n 2, 1) := by decide +kernel
theorem d_Model_clear_32 : decode jc_Model_clear 32 = .ok (.ireturn, 1) := by decide +kernel
theorem d_Model_same_0 : decode jc_Model_same 0 = .ok (.aload_n 0, 1) := by decide +kernel
theorem d_Model_same_1 : decode jc_Model_same 1 = .ok (.iload_n 1, 1) := by decide +kernel
theorem d_Model_same_2 : decode jc_Model_same 2 = .ok (.invokevirtual 117, 3) := by decide +kernel
theorem d_Model_same_5 : decode jc_Model_same 5 = .ok (.ifCond .eq 11, 3) := by decide +kernel
theorem d_Model_same_8 : decode jc_Model_same 8 = .ok (.aload_n 0, 1) := by decide +kernel
theorem d_Model_same_9 : decode jc_Model_same 9 = .ok (.iload_n 2, 1) := by decide +kernel
theorem d_Model_same_10 : decode jc_Model_same 10 = .ok (.invokevirtual 117, 3) := by decide +kernel
theorem d_Model_same_13 : decode jc_Model_same 13 = .ok (.ifCond .ne 5, 3) := by decide +kernel
theorem d_Model_same_16 : decode jc_Model_same 16 = .ok (.iconst (-1), 1) := by decide +kernel
theorem d_Model_same_17 : decode jc_Model_same 17 = .ok (.ireturn, 1) := by decide +kernel
theorem d_Model_same_18 : decode jc_Model_same 18 = .ok (.aload_n 0, 1) := by decide +kernel
theorem d_Model_same_19 : decode jc_Model_same 19 = .ok (.iload_n 1, 1) := by decide +kernel
theorem d_Model_same_20 : decode jc_Model_same 20 = .ok (.iload_n 2, 1) := by decide +kernel
theorem d_Model_same_21 : decode jc_Model_same 21 = .ok (.invokevirtual 138, 3) := by decide +kernel
theorem d_Model_same_24 : decode jc_Model_same 24 = .ok (.ifCond .eq 7, 3) := by decide +kernel
theorem d_Model_same_27 : decode jc_Model_same 27 = .ok (.iconst 1, 1) := by decide +kernel
theorem d_Model_same_28 : decode jc_Model_same 28 = .ok (.goto 4, 3) := by decide +kernel
theorem d_Model_same_31 : decode jc_Model_same 31 = .ok (.iconst 0, 1) := by decide +kernel
theorem d_Model_same_32 : decode jc_Model_same 32 = .ok (.ireturn, 1) := by decide +kernel
theorem d_Model_load_0 : decode jc_Model_load 0 = .ok (.iload_n 1, 1) := by decide +kernel
theorem d_Model_load_1 : decode jc_Model_load 1 = .ok (.invokestatic 63, 3) := by decide +kernel
theorem d_Model_load_4 : decode jc_Model_load 4 = .ok (.ifCond .eq 23, 3) := by decide +kernel
theorem d_Model_load_7 : decode jc_Model_load 7 = .ok (.iload_n 2, 1) := by decide +kernel
theorem d_Model_load_8 : decode jc_Model_load 8 = .ok (.invokestatic 141, 3) := by decide +kernel
theorem d_Model_load_11 : decode jc_Model_load 11 = .ok (.ifCond .eq 16, 3) := by decide +kernel
theorem d_Model_load_14 : decode jc_Model_load 14 = .ok (.iload 4, 2) := by decide +kernel
theorem d_Model_load_16 : decode jc_Model_load 16 = .ok (.i2l, 1) := by decide +kernel
theorem d_Model_load_17 : decode jc_Model_load 17 = .ok (.lconst 1, 1) := by decide +kernel
theorem d_Model_load_18 : decode jc_Model_load 18 = .ok (.ldc2_w 105, 3) := by decide +kernel
theorem d_Model_load_21 : decode jc_Model_load 21 = .ok (.invokestatic 107, 3) := by decide +kernel
theorem d_Model_load_24 : decode jc_Model_load 24 = .ok (.ifCond .ne 5, 3) := by decide +kernel
theorem d_Model_load_27 : decode jc_Model_load 27 = .ok (.iconst (-1), 1) := by decide +kernel
theorem d_Model_load_28 : decode jc_Model_load 28 = .ok (.ireturn, 1) := by decide +kernel
theorem d_Model_load_29 : decode jc_Model_load 29 = .ok (.aload_n 0, 1) := by decide +kernel
theorem d_Model_load_30 : decode jc_Model_load 30 = .ok (.getfield 50, 3) := by decide +kernel
theorem d_Model_load_33 : decode jc_Model_load 33 = .ok (.iload_n 2, 1) := by decide +kernel
theorem d_Model_load_34 : decode jc_Model_load 34 = .ok (.iaload, 1) := by decide +kernel
theorem d_Model_load_35 : decode jc_Model_load 35 = .ok (.ifCond .ge 6, 3) := by decide +kernel
theorem d_Model_load_38 : decode jc_Model_load 38 = .ok (.bipush (-11), 2) := by decide +kernel
theorem d_Model_load_40 : decode jc_Model_load 40 = .ok (.ireturn, 1) := by decide +kernel
theorem d_Model_load_41 : decode jc_Model_load 41 = .ok (.iload_n 3, 1) := by decide +kernel
theorem d_Model_load_42 : decode jc_Model_load 42 = .ok (.ifCond .lt 16, 3) := by decide +kernel
theorem d_Model_load_45 : decode jc_Model_load 45 = .ok (.iload_n 3, 1) := by decide +kernel
theorem d_Model_load_46 : decode jc_Model_load 46 = .ok (.aload_n 0, 1) := by decide +kernel
theorem d_Model_load_47 : decode jc_Model_load 47 = .ok (.getfield 53, 3) := by decide +kernel
theorem d_Model_load_50 : decode jc_Model_load 50 = .ok (.iload_n 2, 1) := by decide +kernel
theorem d_Model_load_51 : decode jc_Model_load 51 = .ok (.iaload, 1) := by decide +kernel
theorem d_Model_load_52 : decode jc_Model_load 52 = .ok (.iload 4, 2) := by decide +kernel
theorem d_Model_load_54 : decode jc_Model_load 54 = .ok (.isub, 1) := by decide +kernel
theorem d_Model_load_55 : decode jc_Model_load 55 = .ok (.if_icmp .le 6, 3) := by decide +kernel
theorem d_Model_load_58 : decode jc_Model_load 58 = .ok (.bipush (-12), 2) := by decide +kernel
theorem d_Model_load_60 : decode jc_Model_load 60 = .ok (.ireturn, 1) := by decide +kernel
theorem d_Model_load_61 : decode jc_Model_load 61 = .ok (.aload_n 0, 1) := by decide +kernel
theorem d_Model_load_62 : decode jc_Model_load 62 = .ok (.bipush 35, 2) := by decide +kernel
theorem d_Model_load_64 : decode jc_Model_load 64 = .ok (.iload 4, 2) := by decide +kernel
theorem d_Model_load_66 : decode jc_Model_load 66 = .ok (.invokevirtual 75, 3) := by decide +kernel
theorem d_Model_load_69 : decode jc_Model_load 69 = .ok (.iconst 0, 1) := by decide +kernel
theorem d_Model_load_70 : decode jc_Model_load 70 = .ok (.istore 5, 2) := by decide +kernel
theorem d_Model_load_72 : decode jc_Model_load 72 = .ok (.iload 5, 2) := by decide +kernel
theorem d_Model_load_74 : decode jc_Model_load 74 = .ok (.iload 4, 2) := by decide +kernel
theorem d_Model_load_76 : decode jc_Model_load 76 = .ok (.if_icmp .ge 73, 3) := by decide +kernel
theorem d_Model_load_79 : decode jc_Model_load 79 = .ok (.aload_n 0, 1) := by decide +kernel
theorem d_Model_load_80 : decode jc_Model_load 80 = .ok (.getfield 56, 3) := by decide +kernel
theorem d_Model_load_83 : decode jc_Model_load 83 = .ok (.bipush 40, 2) := by decide +kernel
theorem d_Model_load_85 : decode jc_Model_load 85 = .ok (.iload_n 2, 1) := by decide +kernel
theorem d_Model_load_86 : decode jc_Model_load 86 = .ok (.imul, 1) := by decide +kernel
theorem d_Model_load_87 : decode jc_Model_load 87 = .ok (.iload_n 3, 1) := by decide +kernel
theorem d_Model_load_88 : decode jc_Model_load 88 = .ok (.iadd, 1) := by decide +kernel
theorem d_Model_load_89 : decode jc_Model_load 89 = .ok (.iload 5, 2) := by decide +kernel
theorem d_Model_load_91 : decode jc_Model_load 91 = .ok (.iadd, 1) := by decide +kernel
theorem d_Model_load_92 : decode jc_Model_load 92 = .ok (.iaload, 1) := by decide +kernel
theorem d_Model_load_93 : decode jc_Model_load 93 = .ok (.istore 6, 2) := by decide +kernel
theorem d_Model_load_95 : decode jc_Model_load 95 = .ok (.aload_n 0, 1) := by decide +kernel
theorem d_Model_load_96 : decode jc_Model_load 96 = .ok (.getfield 50, 3) := by decide +kernel
theorem d_Model_load_99 : decode jc_Model_load 99 = .ok (.iload_n 2, 1) := by decide +kernel
theorem d_Model_load_100 : decode jc_Model_load 100 = .ok (.iaload, 1) := by decide +kernel
theorem d_Model_load_101 : decode jc_Model_load 101 = .ok (.ifCond .ne 12, 3) := by decide +kernel
theorem d_Model_load_104 : decode jc_Model_load 104 = .ok (.iload 6, 2) := by decide +kernel
theorem d_Model_load_106 : decode jc_Model_load 106 = .ok (.sipush 255, 3) := by decide +kernel
theorem d_Model_load_109 : decode jc_Model_load 109 = .ok (.iand, 1) := by decide +kernel
theorem d_Model_load_110 : decode jc_Model_load 110 = .ok (.goto 5, 3) := by decide +kernel
theorem d_Model_load_113 : decode jc_Model_load 113 = .ok (.iload 6, 2) := by decide +kernel
theorem d_Model_load_115 : decode jc_Model_load 115 = .ok (.istore 6, 2) := by decide +kernel
theorem d_Model_load_117 : decode jc_Model_load 117 = .ok (.aload_n 0, 1) := by decide +kernel
theorem d_Model_load_118 : decode jc_Model_load 118 = .ok (.bipush 35, 2) := by decide +kernel
theorem d_Model_load_120 : decode jc_Model_load 120 = .ok (.iload 6, 2) := by decide +kernel
theorem d_Model_load_122 : decode jc_Model_load 122 = .ok (.invokevirtual 124, 3) := by decide +kernel
theorem d_Model_load_125 : decode jc_Model_load 125 = .ok (.ifCond .ne 5, 3) := by decide +kernel
theorem d_Model_load_128 : decode jc_Model_load 128 = .ok (.iconst (-1), 1) := by decide +kernel
theorem d_Model_load_129 : decode jc_Model_load 129 = .ok (.ireturn, 1) := by decide +kernel
theorem d_Model_load_130 : decode jc_Model_load 130 = .ok (.aload_n 0, 1) := by decide +kernel
theorem d_Model_load_131 : decode jc_Model_load 131 = .ok (.getfield 7, 3) := by decide +kernel
theorem d_Model_load_134 : decode jc_Model_load 134 = .ok (.sipush 420, 3) := by decide +kernel
theorem d_Model_load_137 : decode jc_Model_load 137 = .ok (.iload 5, 2) := by decide +kernel
theorem d_Model_load_139 : decode jc_Model_load 139 = .ok (.iadd, 1) := by decide +kernel
theorem d_Model_load_140 : decode jc_Model_load 140 = .ok (.iload 6, 2) := by decide +kernel
theorem d_Model_load_142 : decode jc_Model_load 142 = .ok (.iastore, 1) := by decide +kernel
theorem d_Model_load_143 : decode jc_Model_load 143 = .ok (.iinc 5 1, 3) := by decide +kernel
theorem d_Model_load_146 : decode jc_Model_load 146 = .ok (.goto (-74), 3) := by decide +kernel
theorem d_Model_load_149 : decode jc_Model_load 149 = .ok (.aload_n 0, 1) := by decide +kernel
theorem d_Model_load_150 : decode jc_Model_load 150 = .ok (.iload_n 1, 1) := by decide +kernel
theorem d_Model_load_151 : decode jc_Model_load 151 = .ok (.invokevirtual 113, 3) := by decide +kernel
theorem d_Model_load_154 : decode jc_Model_load 154 = .ok (.ireturn, 1) := by decide +kernel
theorem d_Model_spill_0 : decode jc_Model_spill 0 = .ok (.aload_n 0, 1) := by decide +kernel
theorem d_Model_spill_1 : decode jc_Model_spill 1 = .ok (.iload_n 1, 1) := by decide +kernel
theorem d_Model_spill_2 : decode jc_Model_spill 2 = .ok (.invokevirtual 117, 3) := by decide +kernel
theorem d_Model_spill_5 : decode jc_Model_spill 5 = .ok (.ifCond .eq 10, 3) := by decide +kernel
theorem d_Model_spill_8 : decode jc_Model_spill 8 = .ok (.iload_n 2, 1) := by decide +kernel
theorem d_Model_spill_9 : decode jc_Model_spill 9 = .ok (.invokestatic 141, 3) := by decide +kernel
theorem d_Model_spill_12 : decode jc_Model_spill 12 = .ok (.ifCond .ne 5, 3) := by decide +kernel
theorem d_Model_spill_15 : decode jc_Model_spill 15 = .ok (.iconst (-1), 1) := by decide +kernel
theorem d_Model_spill_16 : decode jc_Model_spill 16 = .ok (.ireturn, 1) := by decide +kernel
theorem d_Model_spill_17 : decode jc_Model_spill 17 = .ok (.aload_n 0, 1) := by decide +kernel
theorem d_Model_spill_18 : decode jc_Model_spill 18 = .ok (.getfield 50, 3) := by decide +kernel
theorem d_Model_spill_21 : decode jc_Model_spill 21 = .ok (.iload_n 2, 1) := by decide +kernel
theorem d_Model_spill_22 : decode jc_Model_spill 22 = .ok (.iaload, 1) := by decide +kernel
theorem d_Model_spill_23 : decode jc_Model_spill 23 = .ok (.ifCond .ge 6, 3) := by decide +kernel
theorem d_Model_spill_26 : decode jc_Model_spill 26 = .ok (.bipush (-11), 2) := by decide +kernel
theorem d_Model_spill_28 : decode jc_Model_spill 28 = .ok (.ireturn, 1) := by decide +kernel
theorem d_Model_spill_29 : decode jc_Model_spill 29 = .ok (.iload_n 3, 1) := by decide +kernel
theorem d_Model_spill_30 : decode jc_Model_spill 30 = .ok (.i2l, 1) := by decide +kernel
theorem d_Model_spill_31 : decode jc_Model_spill 31 = .ok (.lconst 0, 1) := by decide +kernel
theorem d_Model_spill_32 : decode jc_Model_spill 32 = .ok (.aload_n 0, 1) := by decide +kernel
theorem d_Model_spill_33 : decode jc_Model_spill 33 = .ok (.getfield 53, 3) := by decide +kernel
theorem d_Model_spill_36 : decode jc_Model_spill 36 = .ok (.iload_n 2, 1) := by decide +kernel
theorem d_Model_spill_37 : decode jc_Model_spill 37 = .ok (.iaload, 1) := by decide +kernel
theorem d_Model_spill_38 : decode jc_Model_spill 38 = .ok (.i2l, 1) := by decide +kernel
theorem d_Model_spill_39 : decode jc_Model_spill 39 = .ok (.invokestatic 107, 3) := by decide +kernel
theorem d_Model_spill_42 : decode jc_Model_spill 42 = .ok (.ifCond .ne 6, 3) := by decide +kernel
theorem d_Model_spill_45 : decode jc_Model_spill 45 = .ok (.bipush (-12), 2) := by decide +kernel
theorem d_Model_spill_47 : decode jc_Model_spill 47 = .ok (.ireturn, 1) := by decide +kernel
theorem d_Model_spill_48 : decode jc_Model_spill 48 = .ok (.iconst 0, 1) := by decide +kernel
theorem d_Model_spill_49 : decode jc_Model_spill 49 = .ok (.istore 4, 2) := by decide +kernel
theorem d_Model_spill_51 : decode jc_Model_spill 51 = .ok (.iload 4, 2) := by decide +kernel
theorem d_Model_spill_53 : decode jc_Model_spill 53 = .ok (.aload_n 0, 1) := by decide +kernel
theorem d_Model_spill_54 : decode jc_Model_spill 54 = .ok (.getfield 13, 3) := by decide +kernel
theorem d_Model_spill_57 : decode jc_Model_spill 57 = .ok (.iload_n 1, 1) := by decide +kernel
theorem d_Model_spill_58 : decode jc_Model_spill 58 = .ok (.iaload, 1) := by decide +kernel
theorem d_Model_spill_59 : decode jc_Model_spill 59 = .ok (.if_icmp .ge 48, 3) := by decide +kernel
theorem d_Model_spill_62 : decode jc_Model_spill 62 = .ok (.iload_n 3, 1) := by decide +kernel
theorem d_Model_spill_63 : decode jc_Model_spill 63 = .ok (.iload 4, 2) := by decide +kernel
theorem d_Model_spill_65 : decode jc_Model_spill 65 = .ok (.iadd, 1) := by decide +kernel
theorem d_Model_spill_66 : decode jc_Model_spill 66 = .ok (.aload_n 0, 1) := by decide +kernel
theorem d_Model_spill_67 : decode jc_Model_spill 67 = .ok (.getfield 53, 3) := by decide +kernel
theorem d_Model_spill_70 : decode jc_Model_spill 70 = .ok (.iload_n 2, 1) := by decide +kernel
theorem d_Model_spill_71 : decode jc_Model_spill 71 = .ok (.iaload, 1) := by decide +kernel
theorem d_Model_spill_72 : decode jc_Model_spill 72 = .ok (.if_icmp .ge 35, 3) := by decide +kernel
theorem d_Model_spill_75 : decode jc_Model_spill 75 = .ok (.aload_n 0, 1) := by decide +kernel
theorem d_Model_spill_76 : decode jc_Model_spill 76 = .ok (.getfield 56, 3) := by decide +kernel
theorem d_Model_spill_79 : decode jc_Model_spill 79 = .ok (.bipush 40, 2) := by decide +kernel
theorem d_Model_spill_81 : decode jc_Model_spill 81 = .ok (.iload_n 2, 1) := by decide +kernel
theorem d_Model_spill_82 : decode jc_Model_spill 82 = .ok (.imul, 1) := by decide +kernel
theorem d_Model_spill_83 : decode jc_Model_spill 83 = .ok (.iload_n 3, 1) := by decide +kernel
theorem d_Model_spill_84 : decode jc_Model_spill 84 = .ok (.iadd, 1) := by decide +kernel
theorem d_Model_spill_85 : decode jc_Model_spill 85 = .ok (.iload 4, 2) := by decide +kernel
theorem d_Model_spill_87 : decode jc_Model_spill 87 = .ok (.iadd, 1) := by decide +kernel
theorem d_Model_spill_88 : decode jc_Model_spill 88 = .ok (.aload_n 0, 1) := by decide +kernel
theorem d_Model_spill_89 : decode jc_Model_spill 89 = .ok (.iload_n 2, 1) := by decide +kernel
theorem d_Model_spill_90 : decode jc_Model_spill 90 = .ok (.aload_n 0, 1) := by decide +kernel
theorem d_Model_spill_91 : decode jc_Model_spill 91 = .ok (.iload_n 1, 1) := by decide +kernel
theorem d_Model_spill_92 : decode jc_Model_spill 92 = .ok (.iload 4, 2) := by decide +kernel
theorem d_Model_spill_94 : decode jc_Model_spill 94 = .ok (.invokevirtual 71, 3) := by decide +kernel
theorem d_Model_spill_97 : decode jc_Model_spill 97 = .ok (.invokevirtual 144, 3) := by decide +kernel
theorem d_Model_spill_100 : decode jc_Model_spill 100 = .ok (.iastore, 1) := by decide +kernel
theorem d_Model_spill_101 : decode jc_Model_spill 101 = .ok (.iinc 4 1, 3) := by decide +kernel
theorem d_Model_spill_104 : decode jc_Model_spill 104 = .ok (.goto (-53), 3) := by decide +kernel
theorem d_Model_spill_107 : decode jc_Model_spill 107 = .ok (.iload 4, 2) := by decide +kernel
theorem d_Model_spill_109 : decode jc_Model_spill 109 = .ok (.ireturn, 1) := by decide +kernel
theorem d_Model_isPower_0 : decode jc_Model_isPower 0 = .ok (.iconst 1, 1) := by decide +kernel
theorem d_Model_isPower_1 : decode jc_Model_isPower 1 = .ok (.istore_n 3, 1) := by decide +kernel
theorem d_Model_isPower_2 : decode jc_Model_isPower 2 = .ok (.iconst 0, 1) := by decide +kernel
theorem d_Model_isPower_3 : decode jc_Model_isPower 3 = .ok (.istore 4, 2) := by decide +kernel
theorem d_Model_isPower_5 : decode jc_Model_isPower 5 = .ok (.iload 4, 2) := by decide +kernel
theorem d_Model_isPower_7 : decode jc_Model_isPower 7 = .ok (.bipush 12, 2) := by decide +kernel
theorem d_Model_isPower_9 : decode jc_Model_isPower 9 = .ok (.if_icmp .ge 41, 3) := by decide +kernel
theorem d_Model_isPower_12 : decode jc_Model_isPower 12 = .ok (.iload_n 3, 1) := by decide +kernel
theorem d_Model_isPower_13 : decode jc_Model_isPower 13 = .ok (.ifCond .eq 29, 3) := by decide +kernel
theorem d_Model_isPower_16 : decode jc_Model_isPower 16 = .ok (.aload_n 0, 1) := by decide +kernel
theorem d_Model_isPower_17 : decode jc_Model_isPower 17 = .ok (.getfield 28, 3) := by decide +kernel
theorem d_Model_isPower_20 : decode jc_Model_isPower 20 = .ok (.bipush 12, 2) := by decide +kernel
theorem d_Model_isPower_22 : decode jc_Model_isPower 22 = .ok (.iload_n 1, 1) := by decide +kernel
theorem d_Model_isPower_23 : decode jc_Model_isPower 23 = .ok (.imul, 1) := by decide +kernel
theorem d_Model_isPower_24 : decode jc_Model_isPower 24 = .ok (.iload 4, 2) := by decide +kernel
theorem d_Model_isPower_26 : decode jc_Model_isPower 26 = .ok (.iadd, 1) := by decide +kernel
theorem d_Model_isPower_27 : decode jc_Model_isPower 27 = .ok (.iaload, 1) := by decide +kernel
theorem d_Model_isPower_28 : decode jc_Model_isPower 28 = .ok (.aload_n 0, 1) := by decide +kernel
theorem d_Model_isPower_29 : decode jc_Model_isPower 29 = .ok (.iload_n 2, 1) := by decide +kernel
theorem d_Model_isPower_30 : decode jc_Model_isPower 30 = .ok (.iload 4, 2) := by decide +kernel
theorem d_Model_isPower_32 : decode jc_Model_isPower 32 = .ok (.invokevirtual 71, 3) := by decide +kernel
theorem d_Model_isPower_35 : decode jc_Model_isPower 35 = .ok (.if_icmp .ne 7, 3) := by decide +kernel
theorem d_Model_isPower_38 : decode jc_Model_isPower 38 = .ok (.iconst 1, 1) := by decide +kernel
theorem d_Model_isPower_39 : decode jc_Model_isPower 39 = .ok (.goto 4, 3) := by decide +kernel
theorem d_Model_isPower_42 : decode jc_Model_isPower 42 = .ok (.iconst 0, 1) := by decide +kernel
theorem d_Model_isPower_43 : decode jc_Model_isPower 43 = .ok (.istore_n 3, 1) := by decide +kernel
theorem d_Model_isPower_44 : decode jc_Model_isPower 44 = .ok (.iinc 4 1, 3) := by decide +kernel
theorem d_Model_isPower_47 : decode jc_Model_isPower 47 = .ok (.goto (-42), 3) := by decide +kernel
theorem d_Model_isPower_50 : decode jc_Model_isPower 50 = .ok (.iload_n 3, 1) := by decide +kernel
theorem d_Model_isPower_51 : decode jc_Model_isPower 51 = .ok (.ireturn, 1) := by decide +kernel
theorem d_Model_layPowers_0 : decode jc_Model_layPowers 0 = .ok (.aload_n 0, 1) := by decide +kernel
theorem d_Model_layPowers_1 : decode jc_Model_layPowers 1 = .ok (.iload_n 1, 1) := by decide +kernel
theorem d_Model_layPowers_2 : decode jc_Model_layPowers 2 = .ok (.bipush 34, 2) := by decide +kernel
theorem d_Model_layPowers_4 : decode jc_Model_layPowers 4 = .ok (.invokevirtual 85, 3) := by decide +kernel
theorem d_Model_layPowers_7 : decode jc_Model_layPowers 7 = .ok (.aload_n 0, 1) := by decide +kernel
theorem d_Model_layPowers_8 : decode jc_Model_layPowers 8 = .ok (.iconst 0, 1) := by decide +kernel
theorem d_Model_layPowers_9 : decode jc_Model_layPowers 9 = .ok (.putfield 147, 3) := by decide +kernel
theorem d_Model_layPowers_12 : decode jc_Model_layPowers 12 = .ok (.iconst 1, 1) := by decide +kernel
theorem d_Model_layPowers_13 : decode jc_Model_layPowers 13 = .ok (.istore_n 2, 1) := by decide +kernel
theorem d_Model_layPowers_14 : decode jc_Model_layPowers 14 = .ok (.aload_n 0, 1) := by decide +kernel
theorem d_Model_layPowers_15 : decode jc_Model_layPowers 15 = .ok (.getfield 147, 3) := by decide +kernel
theorem d_Model_layPowers_18 : decode jc_Model_layPowers 18 = .ok (.ifCond .ne 111, 3) := by decide +kernel
theorem d_Model_layPowers_21 : decode jc_Model_layPowers 21 = .ok (.iload_n 2, 1) := by decide +kernel
theorem d_Model_layPowers_22 : decode jc_Model_layPowers 22 = .ok (.sipush 300, 3) := by decide +kernel
theorem d_Model_layPowers_25 : decode jc_Model_layPowers 25 = .ok (.if_icmp .gt 104, 3) := by decide +kernel
theorem d_Model_layPowers_28 : decode jc_Model_layPowers 28 = .ok (.iconst 1, 1) := by decide +kernel
theorem d_Model_layPowers_29 : decode jc_Model_layPowers 29 = .ok (.istore_n 3, 1) := by decide +kernel
theorem d_Model_layPowers_30 : decode jc_Model_layPowers 30 = .ok (.iload_n 3, 1) := by decide +kernel
theorem d_Model_layPowers_31 : decode jc_Model_layPowers 31 = .ok (.iload_n 2, 1) := by decide +kernel
theorem d_Model_layPowers_32 : decode jc_Model_layPowers 32 = .ok (.if_icmp .ge 35, 3) := by decide +kernel
theorem d_Model_layPowers_35 : decode jc_Model_layPowers 35 = .ok (.aload_n 0, 1) := by decide +kernel
theorem d_Model_layPowers_36 : decode jc_Model_layPowers 36 = .ok (.getfield 147, 3) := by decide +kernel
theorem d_Model_layPowers_39 : decode jc_Model_layPowers 39 = .ok (.ifCond .ne 28, 3) := by decide +kernel
theorem d_Model_layPowers_42 : decode jc_Model_layPowers 42 = .ok (.aload_n 0, 1) := by decide +kernel
theorem d_Model_layPowers_43 : decode jc_Model_layPowers 43 = .ok (.aload_n 0, 1) := by decide +kernel
theorem d_Model_layPowers_44 : decode jc_Model_layPowers 44 = .ok (.iload_n 3, 1) := by decide +kernel
theorem d_Model_layPowers_45 : decode jc_Model_layPowers 45 = .ok (.bipush 34, 2) := by decide +kernel
theorem d_Model_layPowers_47 : decode jc_Model_layPowers 47 = .ok (.invokevirtual 150, 3) := by decide +kernel
theorem d_Model_layPowers_50 : decode jc_Model_layPowers 50 = .ok (.ifCond .eq 7, 3) := by decide +kernel
theorem d_Model_layPowers_53 : decode jc_Model_layPowers 53 = .ok (.iload_n 3, 1) := by decide +kernel
theorem d_Model_layPowers_54 : decode jc_Model_layPowers 54 = .ok (.goto 4, 3) := by decide +kernel
theorem d_Model_layPowers_57 : decode jc_Model_layPowers 57 = .ok (.iconst 0, 1) := by decide +kernel
theorem d_Model_layPowers_58 : decode jc_Model_layPowers 58 = .ok (.putfield 147, 3) := by decide +kernel
theorem d_Model_layPowers_61 : decode jc_Model_layPowers 61 = .ok (.iinc 3 1, 3) := by decide +kernel
theorem d_Model_layPowers_64 : decode jc_Model_layPowers 64 = .ok (.goto (-34), 3) := by decide +kernel
theorem d_Model_layPowers_67 : decode jc_Model_layPowers 67 = .ok (.aload_n 0, 1) := by decide +kernel
theorem d_Model_layPowers_68 : decode jc_Model_layPowers 68 = .ok (.getfield 147, 3) := by decide +kernel
theorem d_Model_layPowers_71 : decode jc_Model_layPowers 71 = .ok (.ifCond .ne (-57), 3) := by decide +kernel
theorem d_Model_layPowers_74 : decode jc_Model_layPowers 74 = .ok (.iconst 0, 1) := by decide +kernel
theorem d_Model_layPowers_75 : decode jc_Model_layPowers 75 = .ok (.istore_n 3, 1) := by decide +kernel
theorem d_Model_layPowers_76 : decode jc_Model_layPowers 76 = .ok (.iload_n 3, 1) := by decide +kernel
theorem d_Model_layPowers_77 : decode jc_Model_layPowers 77 = .ok (.bipush 12, 2) := by decide +kernel
theorem d_Model_layPowers_79 : decode jc_Model_layPowers 79 = .ok (.if_icmp .ge 27, 3) := by decide +kernel
theorem d_Model_layPowers_82 : decode jc_Model_layPowers 82 = .ok (.aload_n 0, 1) := by decide +kernel
theorem d_Model_layPowers_83 : decode jc_Model_layPowers 83 = .ok (.getfield 28, 3) := by decide +kernel
theorem d_Model_layPowers_86 : decode jc_Model_layPowers 86 = .ok (.bipush 12, 2) := by decide +kernel
theorem d_Model_layPowers_88 : decode jc_Model_layPowers 88 = .ok (.iload_n 2, 1) := by decide +kernel
theorem d_Model_layPowers_89 : decode jc_Model_layPowers 89 = .ok (.imul, 1) := by decide +kernel
theorem d_Model_layPowers_90 : decode jc_Model_layPowers 90 = .ok (.iload_n 3, 1) := by decide +kernel
theorem d_Model_layPowers_91 : decode jc_Model_layPowers 91 = .ok (.iadd, 1) := by decide +kernel
theorem d_Model_layPowers_92 : decode jc_Model_layPowers 92 = .ok (.aload_n 0, 1) := by decide +kernel
theorem d_Model_layPowers_93 : decode jc_Model_layPowers 93 = .ok (.bipush 34, 2) := by decide +kernel
theorem d_Model_layPowers_95 : decode jc_Model_layPowers 95 = .ok (.iload_n 3, 1) := by decide +kernel
theorem d_Model_layPowers_96 : decode jc_Model_layPowers 96 = .ok (.invokevirtual 71, 3) := by decide +kernel
theorem d_Model_layPowers_99 : decode jc_Model_layPowers 99 = .ok (.iastore, 1) := by decide +kernel
theorem d_Model_layPowers_100 : decode jc_Model_layPowers 100 = .ok (.iinc 3 1, 3) := by decide +kernel
theorem d_Model_layPowers_103 : decode jc_Model_layPowers 103 = .ok (.goto (-27), 3) := by decide +kernel
theorem d_Model_layPowers_106 : decode jc_Model_layPowers 106 = .ok (.aload_n 0, 1) := by decide +kernel
theorem d_Model_layPowers_107 : decode jc_Model_layPowers 107 = .ok (.bipush 34, 2) := by decide +kernel
theorem d_Model_layPowers_109 : decode jc_Model_layPowers 109 = .ok (.iload_n 1, 1) := by decide +kernel
theorem d_Model_layPowers_110 : decode jc_Model_layPowers 110 = .ok (.bipush 35, 2) := by decide +kernel
theorem d_Model_layPowers_112 : decode jc_Model_layPowers 112 = .ok (.invokevirtual 88, 3) := by decide +kernel
theorem d_Model_layPowers_115 : decode jc_Model_layPowers 115 = .ok (.aload_n 0, 1) := by decide +kernel
theorem d_Model_layPowers_116 : decode jc_Model_layPowers 116 = .ok (.bipush 35, 2) := by decide +kernel
theorem d_Model_layPowers_118 : decode jc_Model_layPowers 118 = .ok (.bipush 34, 2) := by decide +kernel
theorem d_Model_layPowers_120 : decode jc_Model_layPowers 120 = .ok (.invokevirtual 85, 3) := by decide +kernel
theorem d_Model_layPowers_123 : decode jc_Model_layPowers 123 = .ok (.iinc 2 1, 3) := by decide +kernel
theorem d_Model_layPowers_126 : decode jc_Model_layPowers 126 = .ok (.goto (-112), 3) := by decide +kernel
theorem d_Model_layPowers_129 : decode jc_Model_layPowers 129 = .ok (.aload_n 0, 1) := by decide +kernel
theorem d_Model_layPowers_130 : decode jc_Model_layPowers 130 = .ok (.iload_n 2, 1) := by decide +kernel
theorem d_Model_layPowers_131 : decode jc_Model_layPowers 131 = .ok (.aload_n 0, 1) := by decide +kernel
theorem d_Model_layPowers_132 : decode jc_Model_layPowers 132 = .ok (.getfield 147, 3) := by decide +kernel
theorem d_Model_layPowers_135 : decode jc_Model_layPowers 135 = .ok (.isub, 1) := by decide +kernel
theorem d_Model_layPowers_136 : decode jc_Model_layPowers 136 = .ok (.putfield 153, 3) := by decide +kernel
theorem d_Model_layPowers_139 : decode jc_Model_layPowers 139 = .ok (.return_, 1) := by decide +kernel
theorem d_Model_spot_0 : decode jc_Model_spot 0 = .ok (.iload_n 1, 1) := by decide +kernel
theorem d_Model_spot_1 : decode jc_Model_spot 1 = .ok (.aload_n 0, 1) := by decide +kernel
theorem d_Model_spot_2 : decode jc_Model_spot 2 = .ok (.getfield 147, 3) := by decide +kernel
theorem d_Model_spot_5 : decode jc_Model_spot 5 = .ok (.aload_n 0, 1) := by decide +kernel
theorem d_Model_spot_6 : decode jc_Model_spot 6 = .ok (.getfield 153, 3) := by decide +kernel
theorem d_Model_spot_9 : decode jc_Model_spot 9 = .ok (.iadd, 1) := by decide +kernel
theorem d_Model_spot_10 : decode jc_Model_spot 10 = .ok (.if_icmp .ge 7, 3) := by decide +kernel
theorem d_Model_spot_13 : decode jc_Model_spot 13 = .ok (.iload_n 1, 1) := by decide +kernel
theorem d_Model_spot_14 : decode jc_Model_spot 14 = .ok (.goto 19, 3) := by decide +kernel
theorem d_Model_spot_17 : decode jc_Model_spot 17 = .ok (.aload_n 0, 1) := by decide +kernel
theorem d_Model_spot_18 : decode jc_Model_spot 18 = .ok (.getfield 147, 3) := by decide +kernel
theorem d_Model_spot_21 : decode jc_Model_spot 21 = .ok (.iload_n 1, 1) := by decide +kernel
theorem d_Model_spot_22 : decode jc_Model_spot 22 = .ok (.aload_n 0, 1) := by decide +kernel
theorem d_Model_spot_23 : decode jc_Model_spot 23 = .ok (.getfield 147, 3) := by decide +kernel
theorem d_Model_spot_26 : decode jc_Model_spot 26 = .ok (.isub, 1) := by decide +kernel
theorem d_Model_spot_27 : decode jc_Model_spot 27 = .ok (.aload_n 0, 1) := by decide +kernel
theorem d_Model_spot_28 : decode jc_Model_spot 28 = .ok (.getfield 153, 3) := by decide +kernel
theorem d_Model_spot_31 : decode jc_Model_spot 31 = .ok (.irem, 1) := by decide +kernel
theorem d_Model_spot_32 : decode jc_Model_spot 32 = .ok (.iadd, 1) := by decide +kernel
theorem d_Model_spot_33 : decode jc_Model_spot 33 = .ok (.ireturn, 1) := by decide +kernel
theorem d_Model_idempotent_0 : decode jc_Model_idempotent 0 = .ok (.iconst 1, 1) := by decide +kernel
theorem d_Model_idempotent_1 : decode jc_Model_idempotent 1 = .ok (.istore_n 1, 1) := by decide +kernel
theorem d_Model_idempotent_2 : decode jc_Model_idempotent 2 = .ok (.aload_n 0, 1) := by decide +kernel
theorem d_Model_idempotent_3 : decode jc_Model_idempotent 3 = .ok (.iconst 2, 1) := by decide +kernel
theorem d_Model_idempotent_4 : decode jc_Model_idempotent 4 = .ok (.iload_n 1, 1) := by decide +kernel
theorem d_Model_idempotent_5 : decode jc_Model_idempotent 5 = .ok (.imul, 1) := by decide +kernel
theorem d_Model_idempotent_6 : decode jc_Model_idempotent 6 = .ok (.invokevirtual 156, 3) := by decide +kernel
theorem d_Model_idempotent_9 : decode jc_Model_idempotent 9 = .ok (.iload_n 1, 1) := by decide +kernel
theorem d_Model_idempotent_10 : decode jc_Model_idempotent 10 = .ok (.if_icmp .eq 9, 3) := by decide +kernel
theorem d_Model_idempotent_13 : decode jc_Model_idempotent 13 = .ok (.iinc 1 1, 3) := by decide +kernel
theorem d_Model_idempotent_16 : decode jc_Model_idempotent 16 = .ok (.goto (-14), 3) := by decide +kernel
theorem d_Model_idempotent_19 : decode jc_Model_idempotent 19 = .ok (.iload_n 1, 1) := by decide +kernel
theorem d_Model_idempotent_20 : decode jc_Model_idempotent 20 = .ok (.ireturn, 1) := by decide +kernel
theorem d_Model_exponent_0 : decode jc_Model_exponent 0 = .ok (.iconst 1, 1) := by decide +kernel
theorem d_Model_exponent_1 : decode jc_Model_exponent 1 = .ok (.istore_n 2, 1) := by decide +kernel
theorem d_Model_exponent_2 : decode jc_Model_exponent 2 = .ok (.iload_n 2, 1) := by decide +kernel
theorem d_Model_exponent_3 : decode jc_Model_exponent 3 = .ok (.aload_n 0, 1) := by decide +kernel
theorem d_Model_exponent_4 : decode jc_Model_exponent 4 = .ok (.getfield 147, 3) := by decide +kernel
theorem d_Model_exponent_7 : decode jc_Model_exponent 7 = .ok (.aload_n 0, 1) := by decide +kernel
theorem d_Model_exponent_8 : decode jc_Model_exponent 8 = .ok (.getfield 153, 3) := by decide +kernel
theorem d_Model_exponent_11 : decode jc_Model_exponent 11 = .ok (.iadd, 1) := by decide +kernel
theorem d_Model_exponent_12 : decode jc_Model_exponent 12 = .ok (.if_icmp .ge 62, 3) := by decide +kernel
theorem d_Model_exponent_15 : decode jc_Model_exponent 15 = .ok (.iconst 1, 1) := by decide +kernel
theorem d_Model_exponent_16 : decode jc_Model_exponent 16 = .ok (.istore_n 3, 1) := by decide +kernel
theorem d_Model_exponent_17 : decode jc_Model_exponent 17 = .ok (.iconst 0, 1) := by decide +kernel
theorem d_Model_exponent_18 : decode jc_Model_exponent 18 = .ok (.istore 4, 2) := by decide +kernel
theorem d_Model_exponent_20 : decode jc_Model_exponent 20 = .ok (.iload 4, 2) := by decide +kernel
theorem d_Model_exponent_22 : decode jc_Model_exponent 22 = .ok (.iload_n 1, 1) := by decide +kernel
theorem d_Model_exponent_23 : decode jc_Model_exponent 23 = .ok (.if_icmp .ge 39, 3) := by decide +kernel
theorem d_Model_exponent_26 : decode jc_Model_exponent 26 = .ok (.iload_n 3, 1) := by decide +kernel
theorem d_Model_exponent_27 : decode jc_Model_exponent 27 = .ok (.ifCond .eq 27, 3) := by decide +kernel
theorem d_Model_exponent_30 : decode jc_Model_exponent 30 = .ok (.aload_n 0, 1) := by decide +kernel
theorem d_Model_exponent_31 : decode jc_Model_exponent 31 = .ok (.getfield 28, 3) := by decide +kernel
theorem d_Model_exponent_34 : decode jc_Model_exponent 34 = .ok (.bipush 12, 2) := by decide +kernel
theorem d_Model_exponent_36 : decode jc_Model_exponent 36 = .ok (.iload_n 2, 1) := by decide +kernel
theorem d_Model_exponent_37 : decode jc_Model_exponent 37 = .ok (.imul, 1) := by decide +kernel
theorem d_Model_exponent_38 : decode jc_Model_exponent 38 = .ok (.iload 4, 2) := by decide +kernel
theorem d_Model_exponent_40 : decode jc_Model_exponent 40 = .ok (.iadd, 1) := by decide +kernel
theorem d_Model_exponent_41 : decode jc_Model_exponent 41 = .ok (.iaload, 1) := by decide +kernel
theorem d_Model_exponent_42 : decode jc_Model_exponent 42 = .ok (.iconst 1, 1) := by decide +kernel
theorem d_Model_exponent_43 : decode jc_Model_exponent 43 = .ok (.iload_n 1, 1) := by decide +kernel
theorem d_Model_exponent_44 : decode jc_Model_exponent 44 = .ok (.ishl, 1) := by decide +kernel
theorem d_Model_exponent_45 : decode jc_Model_exponent 45 = .ok (.iconst 1, 1) := by decide +kernel
theorem d_Model_exponent_46 : decode jc_Model_exponent 46 = .ok (.isub, 1) := by decide +kernel
theorem d_Model_exponent_47 : decode jc_Model_exponent 47 = .ok (.if_icmp .ne 7, 3) := by decide +kernel
theorem d_Model_exponent_50 : decode jc_Model_exponent 50 = .ok (.iconst 1, 1) := by decide +kernel
theorem d_Model_exponent_51 : decode jc_Model_exponent 51 = .ok (.goto 4, 3) := by decide +kernel
theorem d_Model_exponent_54 : decode jc_Model_exponent 54 = .ok (.iconst 0, 1) := by decide +kernel
theorem d_Model_exponent_55 : decode jc_Model_exponent 55 = .ok (.istore_n 3, 1) := by decide +kernel
theorem d_Model_exponent_56 : decode jc_Model_exponent 56 = .ok (.iinc 4 1, 3) := by decide +kernel
theorem d_Model_exponent_59 : decode jc_Model_exponent 59 = .ok (.goto (-39), 3) := by decide +kernel
theorem d_Model_exponent_62 : decode jc_Model_exponent 62 = .ok (.iload_n 3, 1) := by decide +kernel
theorem d_Model_exponent_63 : decode jc_Model_exponent 63 = .ok (.ifCond .eq 5, 3) := by decide +kernel
theorem d_Model_exponent_66 : decode jc_Model_exponent 66 = .ok (.iload_n 2, 1) := by decide +kernel
theorem d_Model_exponent_67 : decode jc_Model_exponent 67 = .ok (.ireturn, 1) := by decide +kernel
theorem d_Model_exponent_68 : decode jc_Model_exponent 68 = .ok (.iinc 2 1, 3) := by decide +kernel
theorem d_Model_exponent_71 : decode jc_Model_exponent 71 = .ok (.goto (-69), 3) := by decide +kernel
theorem d_Model_exponent_74 : decode jc_Model_exponent 74 = .ok (.iconst 0, 1) := by decide +kernel
theorem d_Model_exponent_75 : decode jc_Model_exponent 75 = .ok (.ireturn, 1) := by decide +kernel
theorem d_Model_onesIn_0 : decode jc_Model_onesIn 0 = .ok (.iconst 0, 1) := by decide +kernel
theorem d_Model_onesIn_1 : decode jc_Model_onesIn 1 = .ok (.istore_n 2, 1) := by decide +kernel
theorem d_Model_onesIn_2 : decode jc_Model_onesIn 2 = .ok (.iconst 0, 1) := by decide +kernel
theorem d_Model_onesIn_3 : decode jc_Model_onesIn 3 = .ok (.istore_n 3, 1) := by decide +kernel
theorem d_Model_onesIn_4 : decode jc_Model_onesIn 4 = .ok (.iload_n 3, 1) := by decide +kernel
theorem d_Model_onesIn_5 : decode jc_Model_onesIn 5 = .ok (.aload_n 0, 1) := by decide +kernel
theorem d_Model_onesIn_6 : decode jc_Model_onesIn 6 = .ok (.getfield 13, 3) := by decide +kernel
theorem d_Model_onesIn_9 : decode jc_Model_onesIn 9 = .ok (.iload_n 1, 1) := by decide +kernel
theorem d_Model_onesIn_10 : decode jc_Model_onesIn 10 = .ok (.iaload, 1) := by decide +kernel
theorem d_Model_onesIn_11 : decode jc_Model_onesIn 11 = .ok (.if_icmp .ge 21, 3) := by decide +kernel
theorem d_Model_onesIn_14 : decode jc_Model_onesIn 14 = .ok (.iload_n 2, 1) := by decide +kernel
theorem d_Model_onesIn_15 : decode jc_Model_onesIn 15 = .ok (.aload_n 0, 1) := by decide +kernel
theorem d_Model_onesIn_16 : decode jc_Model_onesIn 16 = .ok (.iload_n 1, 1) := by decide +kernel
theorem d_Model_onesIn_17 : decode jc_Model_onesIn 17 = .ok (.iload_n 3, 1) := by decide +kernel
theorem d_Model_onesIn_18 : decode jc_Model_onesIn 18 = .ok (.invokevirtual 71, 3) := by decide +kernel
theorem d_Model_onesIn_21 : decode jc_Model_onesIn 21 = .ok (.invokestatic 159, 3) := by decide +kernel
theorem d_Model_onesIn_24 : decode jc_Model_onesIn 24 = .ok (.iadd, 1) := by decide +kernel
theorem d_Model_onesIn_25 : decode jc_Model_onesIn 25 = .ok (.istore_n 2, 1) := by decide +kernel
theorem d_Model_onesIn_26 : decode jc_Model_onesIn 26 = .ok (.iinc 3 1, 3) := by decide +kernel
theorem d_Model_onesIn_29 : decode jc_Model_onesIn 29 = .ok (.goto (-25), 3) := by decide +kernel
theorem d_Model_onesIn_32 : decode jc_Model_onesIn 32 = .ok (.iload_n 2, 1) := by decide +kernel
theorem d_Model_onesIn_33 : decode jc_Model_onesIn 33 = .ok (.ireturn, 1) := by decide +kernel
theorem d_Model_isOwnSquare_0 : decode jc_Model_isOwnSquare 0 = .ok (.aload_n 0, 1) := by decide +kernel
theorem d_Model_isOwnSquare_1 : decode jc_Model_isOwnSquare 1 = .ok (.iload_n 1, 1) := by decide +kernel
theorem d_Model_isOwnSquare_2 : decode jc_Model_isOwnSquare 2 = .ok (.iload_n 1, 1) := by decide +kernel
theorem d_Model_isOwnSquare_3 : decode jc_Model_isOwnSquare 3 = .ok (.bipush 35, 2) := by decide +kernel
theorem d_Model_isOwnSquare_5 : decode jc_Model_isOwnSquare 5 = .ok (.invokevirtual 88, 3) := by decide +kernel
theorem d_Model_isOwnSquare_8 : decode jc_Model_isOwnSquare 8 = .ok (.aload_n 0, 1) := by decide +kernel
theorem d_Model_isOwnSquare_9 : decode jc_Model_isOwnSquare 9 = .ok (.iload_n 1, 1) := by decide +kernel
theorem d_Model_isOwnSquare_10 : decode jc_Model_isOwnSquare 10 = .ok (.bipush 35, 2) := by decide +kernel
theorem d_Model_isOwnSquare_12 : decode jc_Model_isOwnSquare 12 = .ok (.invokevirtual 138, 3) := by decide +kernel
theorem d_Model_isOwnSquare_15 : decode jc_Model_isOwnSquare 15 = .ok (.ireturn, 1) := by decide +kernel
theorem d_Model_isTurned_0 : decode jc_Model_isTurned 0 = .ok (.aload_n 0, 1) := by decide +kernel
theorem d_Model_isTurned_1 : decode jc_Model_isTurned 1 = .ok (.iload_n 1, 1) := by decide +kernel
theorem d_Model_isTurned_2 : decode jc_Model_isTurned 2 = .ok (.bipush 35, 2) := by decide +kernel
theorem d_Model_isTurned_4 : decode jc_Model_isTurned 4 = .ok (.invokevirtual 95, 3) := by decide +kernel
theorem d_Model_isTurned_7 : decode jc_Model_isTurned 7 = .ok (.aload_n 0, 1) := by decide +kernel
theorem d_Model_isTurned_8 : decode jc_Model_isTurned 8 = .ok (.iload_n 1, 1) := by decide +kernel
theorem d_Model_isTurned_9 : decode jc_Model_isTurned 9 = .ok (.bipush 35, 2) := by decide +kernel
theorem d_Model_isTurned_11 : decode jc_Model_isTurned 11 = .ok (.invokevirtual 138, 3) := by decide +kernel
theorem d_Model_isTurned_14 : decode jc_Model_isTurned 14 = .ok (.ireturn, 1) := by decide +kernel
theorem d_Model_told_0 : decode jc_Model_told 0 = .ok (.iload_n 1, 1) := by decide +kernel
theorem d_Model_told_1 : decode jc_Model_told 1 = .ok (.invokestatic 63, 3) := by decide +kernel
theorem d_Model_told_4 : decode jc_Model_told 4 = .ok (.ifCond .eq 28, 3) := by decide +kernel
theorem d_Model_told_7 : decode jc_Model_told 7 = .ok (.iload_n 2, 1) := by decide +kernel
theorem d_Model_told_8 : decode jc_Model_told 8 = .ok (.i2l, 1) := by decide +kernel
theorem d_Model_told_9 : decode jc_Model_told 9 = .ok (.lconst 0, 1) := by decide +kernel
theorem d_Model_told_10 : decode jc_Model_told 10 = .ok (.ldc2_w 162, 3) := by decide +kernel
theorem d_Model_told_13 : decode jc_Model_told 13 = .ok (.invokestatic 107, 3) := by decide +kernel
theorem d_Model_told_16 : decode jc_Model_told 16 = .ok (.ifCond .eq 16, 3) := by decide +kernel
theorem d_Model_told_19 : decode jc_Model_told 19 = .ok (.iload_n 2, 1) := by decide +kernel
theorem d_Model_told_20 : decode jc_Model_told 20 = .ok (.ifCond .le 14, 3) := by decide +kernel
theorem d_Model_told_23 : decode jc_Model_told 23 = .ok (.aload_n 0, 1) := by decide +kernel
theorem d_Model_told_24 : decode jc_Model_told 24 = .ok (.getfield 13, 3) := by decide +kernel
theorem d_Model_told_27 : decode jc_Model_told 27 = .ok (.iload_n 1, 1) := by decide +kernel
theorem d_Model_told_28 : decode jc_Model_told 28 = .ok (.iaload, 1) := by decide +kernel
theorem d_Model_told_29 : decode jc_Model_told 29 = .ok (.ifCond .ne 5, 3) := by decide +kernel
theorem d_Model_told_32 : decode jc_Model_told 32 = .ok (.iconst (-1), 1) := by decide +kernel
theorem d_Model_told_33 : decode jc_Model_told 33 = .ok (.ireturn, 1) := by decide +kernel
theorem d_Model_told_34 : decode jc_Model_told 34 = .ok (.iload_n 2, 1) := by decide +kernel
theorem d_Model_told_35 : decode jc_Model_told 35 = .ok (.ifCond .ne 10, 3) := by decide +kernel
theorem d_Model_told_38 : decode jc_Model_told 38 = .ok (.aload_n 0, 1) := by decide +kernel
theorem d_Model_told_39 : decode jc_Model_told 39 = .ok (.getfield 13, 3) := by decide +kernel
theorem d_Model_told_42 : decode jc_Model_told 42 = .ok (.iload_n 1, 1) := by decide +kernel
theorem d_Model_told_43 : decode jc_Model_told 43 = .ok (.iaload, 1) := by decide +kernel
theorem d_Model_told_44 : decode jc_Model_told 44 = .ok (.ireturn, 1) := by decide +kernel
theorem d_Model_told_45 : decode jc_Model_told 45 = .ok (.iload_n 2, 1) := by decide +kernel
theorem d_Model_told_46 : decode jc_Model_told 46 = .ok (.iconst 5, 1) := by decide +kernel
theorem d_Model_told_47 : decode jc_Model_told 47 = .ok (.if_icmp .ge 55, 3) := by decide +kernel
theorem d_Model_told_50 : decode jc_Model_told 50 = .ok (.aload_n 0, 1) := by decide +kernel
theorem d_Model_told_51 : decode jc_Model_told 51 = .ok (.iload_n 1, 1) := by decide +kernel
theorem d_Model_told_52 : decode jc_Model_told 52 = .ok (.invokevirtual 164, 3) := by decide +kernel
theorem d_Model_told_55 : decode jc_Model_told 55 = .ok (.iload_n 2, 1) := by decide +kernel
theorem d_Model_told_56 : decode jc_Model_told 56 = .ok (.iconst 1, 1) := by decide +kernel
theorem d_Model_told_57 : decode jc_Model_told 57 = .ok (.if_icmp .ne 10, 3) := by decide +kernel
theorem d_Model_told_60 : decode jc_Model_told 60 = .ok (.aload_n 0, 1) := by decide +kernel
theorem d_Model_told_61 : decode jc_Model_told 61 = .ok (.getfield 147, 3) := by decide +kernel
theorem d_Model_told_64 : decode jc_Model_told 64 = .ok (.goto 37, 3) := by decide +kernel
theorem d_Model_told_67 : decode jc_Model_told 67 = .ok (.iload_n 2, 1) := by decide +kernel
theorem d_Model_told_68 : decode jc_Model_told 68 = .ok (.iconst 2, 1) := by decide +kernel
theorem d_Model_told_69 : decode jc_Model_told 69 = .ok (.if_icmp .ne 10, 3) := by decide +kernel
theorem d_Model_told_72 : decode jc_Model_told 72 = .ok (.aload_n 0, 1) := by decide +kernel
theorem d_Model_told_73 : decode jc_Model_told 73 = .ok (.getfield 153, 3) := by decide +kernel
theorem d_Model_told_76 : decode jc_Model_told 76 = .ok (.goto 25, 3) := by decide +kernel
theorem d_Model_told_79 : decode jc_Model_told 79 = .ok (.iload_n 2, 1) := by decide +kernel
theorem d_Model_told_80 : decode jc_Model_told 80 = .ok (.iconst 3, 1) := by decide +kernel
theorem d_Model_told_81 : decode jc_Model_told 81 = .ok (.if_icmp .ne 10, 3) := by decide +kernel
theorem d_Model_told_84 : decode jc_Model_told 84 = .ok (.aload_n 0, 1) := by decide +kernel
theorem d_Model_told_85 : decode jc_Model_told 85 = .ok (.invokevirtual 167, 3) := by decide +kernel
theorem d_Model_told_88 : decode jc_Model_told 88 = .ok (.goto 13, 3) := by decide +kernel
theorem d_Model_told_91 : decode jc_Model_told 91 = .ok (.aload_n 0, 1) := by decide +kernel
theorem d_Model_told_92 : decode jc_Model_told 92 = .ok (.aload_n 0, 1) := by decide +kernel
theorem d_Model_told_93 : decode jc_Model_told 93 = .ok (.getfield 13, 3) := by decide +kernel
theorem d_Model_told_96 : decode jc_Model_told 96 = .ok (.iload_n 1, 1) := by decide +kernel
theorem d_Model_told_97 : decode jc_Model_told 97 = .ok (.iaload, 1) := by decide +kernel
theorem d_Model_told_98 : decode jc_Model_told 98 = .ok (.invokevirtual 171, 3) := by decide +kernel
theorem d_Model_told_101 : decode jc_Model_told 101 = .ok (.ireturn, 1) := by decide +kernel
theorem d_Model_told_102 : decode jc_Model_told 102 = .ok (.iload_n 2, 1) := by decide +kernel
theorem d_Model_told_103 : decode jc_Model_told 103 = .ok (.bipush 6, 2) := by decide +kernel
theorem d_Model_told_105 : decode jc_Model_told 105 = .ok (.if_icmp .ne 11, 3) := by decide +kernel
theorem d_Model_told_108 : decode jc_Model_told 108 = .ok (.aload_n 0, 1) := by decide +kernel
theorem d_Model_told_109 : decode jc_Model_told 109 = .ok (.iload_n 1, 1) := by decide +kernel
theorem d_Model_told_110 : decode jc_Model_told 110 = .ok (.invokevirtual 174, 3) := by decide +kernel
theorem d_Model_told_113 : decode jc_Model_told 113 = .ok (.goto 8, 3) := by decide +kernel
theorem d_Model_told_116 : decode jc_Model_told 116 = .ok (.aload_n 0, 1) := by decide +kernel
theorem d_Model_told_117 : decode jc_Model_told 117 = .ok (.iload_n 1, 1) := by decide +kernel
theorem d_Model_told_118 : decode jc_Model_told 118 = .ok (.invokevirtual 177, 3) := by decide +kernel
theorem d_Model_told_121 : decode jc_Model_told 121 = .ok (.istore_n 3, 1) := by decide +kernel
theorem d_Model_told_122 : decode jc_Model_told 122 = .ok (.iload_n 2, 1) := by decide +kernel
theorem d_Model_told_123 : decode jc_Model_told 123 = .ok (.iconst 5, 1) := by decide +kernel
theorem d_Model_told_124 : decode jc_Model_told 124 = .ok (.if_icmp .ne 11, 3) := by decide +kernel
theorem d_Model_told_127 : decode jc_Model_told 127 = .ok (.aload_n 0, 1) := by decide +kernel
theorem d_Model_told_128 : decode jc_Model_told 128 = .ok (.iload_n 1, 1) := by decide +kernel
theorem d_Model_told_129 : decode jc_Model_told 129 = .ok (.invokevirtual 180, 3) := by decide +kernel
theorem d_Model_told_132 : decode jc_Model_told 132 = .ok (.goto 12, 3) := by decide +kernel
theorem d_Model_told_135 : decode jc_Model_told 135 = .ok (.iload_n 3, 1) := by decide +kernel
theorem d_Model_told_136 : decode jc_Model_told 136 = .ok (.ifCond .eq 7, 3) := by decide +kernel
theorem d_Model_told_139 : decode jc_Model_told 139 = .ok (.iconst 1, 1) := by decide +kernel
theorem d_Model_told_140 : decode jc_Model_told 140 = .ok (.goto 4, 3) := by decide +kernel
theorem d_Model_told_143 : decode jc_Model_told 143 = .ok (.iconst 0, 1) := by decide +kernel
theorem d_Model_told_144 : decode jc_Model_told 144 = .ok (.ireturn, 1) := by decide +kernel
theorem d_Model_reaches_0 : decode jc_Model_reaches 0 = .ok (.aload_n 0, 1) := by decide +kernel
theorem d_Model_reaches_1 : decode jc_Model_reaches 1 = .ok (.iload_n 1, 1) := by decide +kernel
theorem d_Model_reaches_2 : decode jc_Model_reaches 2 = .ok (.invokevirtual 117, 3) := by decide +kernel
theorem d_Model_reaches_5 : decode jc_Model_reaches 5 = .ok (.ifCond .eq 11, 3) := by decide +kernel
theorem d_Model_reaches_8 : decode jc_Model_reaches 8 = .ok (.aload_n 0, 1) := by decide +kernel
theorem d_Model_reaches_9 : decode jc_Model_reaches 9 = .ok (.iload_n 2, 1) := by decide +kernel
theorem d_Model_reaches_10 : decode jc_Model_reaches 10 = .ok (.invokevirtual 117, 3) := by decide +kernel
theorem d_Model_reaches_13 : decode jc_Model_reaches 13 = .ok (.ifCond .ne 5, 3) := by decide +kernel
theorem d_Model_reaches_16 : decode jc_Model_reaches 16 = .ok (.iconst (-1), 1) := by decide +kernel
theorem d_Model_reaches_17 : decode jc_Model_reaches 17 = .ok (.ireturn, 1) := by decide +kernel
theorem d_Model_reaches_18 : decode jc_Model_reaches 18 = .ok (.aload_n 0, 1) := by decide +kernel
theorem d_Model_reaches_19 : decode jc_Model_reaches 19 = .ok (.getfield 13, 3) := by decide +kernel
theorem d_Model_reaches_22 : decode jc_Model_reaches 22 = .ok (.iload_n 1, 1) := by decide +kernel
theorem d_Model_reaches_23 : decode jc_Model_reaches 23 = .ok (.iaload, 1) := by decide +kernel
theorem d_Model_reaches_24 : decode jc_Model_reaches 24 = .ok (.aload_n 0, 1) := by decide +kernel
theorem d_Model_reaches_25 : decode jc_Model_reaches 25 = .ok (.getfield 13, 3) := by decide +kernel
theorem d_Model_reaches_28 : decode jc_Model_reaches 28 = .ok (.iload_n 2, 1) := by decide +kernel
theorem d_Model_reaches_29 : decode jc_Model_reaches 29 = .ok (.iaload, 1) := by decide +kernel
theorem d_Model_reaches_30 : decode jc_Model_reaches 30 = .ok (.if_icmp .eq 6, 3) := by decide +kernel
theorem d_Model_reaches_33 : decode jc_Model_reaches 33 = .ok (.bipush (-3), 2) := by decide +kernel
theorem d_Model_reaches_35 : decode jc_Model_reaches 35 = .ok (.ireturn, 1) := by decide +kernel
theorem d_Model_reaches_36 : decode jc_Model_reaches 36 = .ok (.aload_n 0, 1) := by decide +kernel
theorem d_Model_reaches_37 : decode jc_Model_reaches 37 = .ok (.iload_n 1, 1) := by decide +kernel
theorem d_Model_reaches_38 : decode jc_Model_reaches 38 = .ok (.invokevirtual 164, 3) := by decide +kernel
theorem d_Model_reaches_41 : decode jc_Model_reaches 41 = .ok (.iconst 1, 1) := by decide +kernel
theorem d_Model_reaches_42 : decode jc_Model_reaches 42 = .ok (.istore_n 3, 1) := by decide +kernel
theorem d_Model_reaches_43 : decode jc_Model_reaches 43 = .ok (.iload_n 3, 1) := by decide +kernel
theorem d_Model_reaches_44 : decode jc_Model_reaches 44 = .ok (.aload_n 0, 1) := by decide +kernel
theorem d_Model_reaches_45 : decode jc_Model_reaches 45 = .ok (.getfield 147, 3) := by decide +kernel
theorem d_Model_reaches_48 : decode jc_Model_reaches 48 = .ok (.aload_n 0, 1) := by decide +kernel
theorem d_Model_reaches_49 : decode jc_Model_reaches 49 = .ok (.getfield 153, 3) := by decide +kernel
theorem d_Model_reaches_52 : decode jc_Model_reaches 52 = .ok (.iadd, 1) := by decide +kernel
theorem d_Model_reaches_53 : decode jc_Model_reaches 53 = .ok (.if_icmp .ge 20, 3) := by decide +kernel
theorem d_Model_reaches_56 : decode jc_Model_reaches 56 = .ok (.aload_n 0, 1) := by decide +kernel
theorem d_Model_reaches_57 : decode jc_Model_reaches 57 = .ok (.iload_n 3, 1) := by decide +kernel
theorem d_Model_reaches_58 : decode jc_Model_reaches 58 = .ok (.iload_n 2, 1) := by decide +kernel
theorem d_Model_reaches_59 : decode jc_Model_reaches 59 = .ok (.invokevirtual 150, 3) := by decide +kernel
theorem d_Model_reaches_62 : decode jc_Model_reaches 62 = .ok (.ifCond .eq 5, 3) := by decide +kernel
theorem d_Model_reaches_65 : decode jc_Model_reaches 65 = .ok (.iload_n 3, 1) := by decide +kernel
theorem d_Model_reaches_66 : decode jc_Model_reaches 66 = .ok (.ireturn, 1) := by decide +kernel
theorem d_Model_reaches_67 : decode jc_Model_reaches 67 = .ok (.iinc 3 1, 3) := by decide +kernel
theorem d_Model_reaches_70 : decode jc_Model_reaches 70 = .ok (.goto (-27), 3) := by decide +kernel
theorem d_Model_reaches_73 : decode jc_Model_reaches 73 = .ok (.bipush (-2), 2) := by decide +kernel
theorem d_Model_reaches_75 : decode jc_Model_reaches 75 = .ok (.ireturn, 1) := by decide +kernel
theorem d_Model_layWalks_0 : decode jc_Model_layWalks 0 = .ok (.aload_n 0, 1) := by decide +kernel
theorem d_Model_layWalks_1 : decode jc_Model_layWalks 1 = .ok (.getfield 13, 3) := by decide +kernel
theorem d_Model_layWalks_4 : decode jc_Model_layWalks 4 = .ok (.iload_n 1, 1) := by decide +kernel
theorem d_Model_layWalks_5 : decode jc_Model_layWalks 5 = .ok (.iaload, 1) := by decide +kernel
theorem d_Model_layWalks_6 : decode jc_Model_layWalks 6 = .ok (.istore_n 2, 1) := by decide +kernel
theorem d_Model_layWalks_7 : decode jc_Model_layWalks 7 = .ok (.iconst 0, 1) := by decide +kernel
theorem d_Model_layWalks_8 : decode jc_Model_layWalks 8 = .ok (.istore_n 3, 1) := by decide +kernel
theorem d_Model_layWalks_9 : decode jc_Model_layWalks 9 = .ok (.iload_n 3, 1) := by decide +kernel
theorem d_Model_layWalks_10 : decode jc_Model_layWalks 10 = .ok (.iload_n 2, 1) := by decide +kernel
theorem d_Model_layWalks_11 : decode jc_Model_layWalks 11 = .ok (.if_icmp .ge 27, 3) := by decide +kernel
theorem d_Model_layWalks_14 : decode jc_Model_layWalks 14 = .ok (.aload_n 0, 1) := by decide +kernel
theorem d_Model_layWalks_15 : decode jc_Model_layWalks 15 = .ok (.getfield 37, 3) := by decide +kernel
theorem d_Model_layWalks_18 : decode jc_Model_layWalks 18 = .ok (.iload_n 3, 1) := by decide +kernel
theorem d_Model_layWalks_19 : decode jc_Model_layWalks 19 = .ok (.iconst 1, 1) := by decide +kernel
theorem d_Model_layWalks_20 : decode jc_Model_layWalks 20 = .ok (.iload_n 3, 1) := by decide +kernel
theorem d_Model_layWalks_21 : decode jc_Model_layWalks 21 = .ok (.ishl, 1) := by decide +kernel
theorem d_Model_layWalks_22 : decode jc_Model_layWalks 22 = .ok (.iastore, 1) := by decide +kernel
theorem d_Model_layWalks_23 : decode jc_Model_layWalks 23 = .ok (.aload_n 0, 1) := by decide +kernel
theorem d_Model_layWalks_24 : decode jc_Model_layWalks 24 = .ok (.getfield 34, 3) := by decide +kernel
theorem d_Model_layWalks_27 : decode jc_Model_layWalks 27 = .ok (.iload_n 3, 1) := by decide +kernel
theorem d_Model_layWalks_28 : decode jc_Model_layWalks 28 = .ok (.iconst 1, 1) := by decide +kernel
theorem d_Model_layWalks_29 : decode jc_Model_layWalks 29 = .ok (.iload_n 3, 1) := by decide +kernel
theorem d_Model_layWalks_30 : decode jc_Model_layWalks 30 = .ok (.ishl, 1) := by decide +kernel
theorem d_Model_layWalks_31 : decode jc_Model_layWalks 31 = .ok (.iastore, 1) := by decide +kernel
theorem d_Model_layWalks_32 : decode jc_Model_layWalks 32 = .ok (.iinc 3 1, 3) := by decide +kernel
theorem d_Model_layWalks_35 : decode jc_Model_layWalks 35 = .ok (.goto (-26), 3) := by decide +kernel
theorem d_Model_layWalks_38 : decode jc_Model_layWalks 38 = .ok (.iconst 1, 1) := by decide +kernel
theorem d_Model_layWalks_39 : decode jc_Model_layWalks 39 = .ok (.istore_n 3, 1) := by decide +kernel
theorem d_Model_layWalks_40 : decode jc_Model_layWalks 40 = .ok (.iload_n 3, 1) := by decide +kernel
theorem d_Model_layWalks_41 : decode jc_Model_layWalks 41 = .ok (.iload_n 2, 1) := by decide +kernel
theorem d_Model_layWalks_42 : decode jc_Model_layWalks 42 = .ok (.if_icmp .gt 103, 3) := by decide +kernel
theorem d_Model_layWalks_45 : decode jc_Model_layWalks 45 = .ok (.iconst 0, 1) := by decide +kernel
theorem d_Model_layWalks_46 : decode jc_Model_layWalks 46 = .ok (.istore 4, 2) := by decide +kernel
theorem d_Model_layWalks_48 : decode jc_Model_layWalks 48 = .ok (.iload 4, 2) := by decide +kernel
theorem d_Model_layWalks_50 : decode jc_Model_layWalks 50 = .ok (.iload_n 2, 1) := by decide +kernel
theorem d_Model_layWalks_51 : decode jc_Model_layWalks 51 = .ok (.if_icmp .ge 88, 3) := by decide +kernel
theorem d_Model_layWalks_54 : decode jc_Model_layWalks 54 = .ok (.iconst 0, 1) := by decide +kernel
theorem d_Model_layWalks_55 : decode jc_Model_layWalks 55 = .ok (.istore 5, 2) := by decide +kernel
theorem d_Model_layWalks_57 : decode jc_Model_layWalks 57 = .ok (.iconst 0, 1) := by decide +kernel
theorem d_Model_layWalks_58 : decode jc_Model_layWalks 58 = .ok (.istore 6, 2) := by decide +kernel
theorem d_Model_layWalks_60 : decode jc_Model_layWalks 60 = .ok (.iload 6, 2) := by decide +kernel
theorem d_Model_layWalks_62 : decode jc_Model_layWalks 62 = .ok (.iload_n 2, 1) := by decide +kernel
theorem d_Model_layWalks_63 : decode jc_Model_layWalks 63 = .ok (.if_icmp .ge 44, 3) := by decide +kernel
theorem d_Model_layWalks_66 : decode jc_Model_layWalks 66 = .ok (.iload 5, 2) := by decide +kernel
theorem d_Model_layWalks_68 : decode jc_Model_layWalks 68 = .ok (.aload_n 0, 1) := by decide +kernel
theorem d_Model_layWalks_69 : decode jc_Model_layWalks 69 = .ok (.iload_n 1, 1) := by decide +kernel
theorem d_Model_layWalks_70 : decode jc_Model_layWalks 70 = .ok (.iload 4, 2) := by decide +kernel
theorem d_Model_layWalks_72 : decode jc_Model_layWalks 72 = .ok (.iload 6, 2) := by decide +kernel
theorem d_Model_layWalks_74 : decode jc_Model_layWalks 74 = .ok (.invokevirtual 67, 3) := by decide +kernel
theorem d_Model_layWalks_77 : decode jc_Model_layWalks 77 = .ok (.ifCond .eq 20, 3) := by decide +kernel
theorem d_Model_layWalks_80 : decode jc_Model_layWalks 80 = .ok (.aload_n 0, 1) := by decide +kernel
theorem d_Model_layWalks_81 : decode jc_Model_layWalks 81 = .ok (.getfield 37, 3) := by decide +kernel
theorem d_Model_layWalks_84 : decode jc_Model_layWalks 84 = .ok (.bipush 12, 2) := by decide +kernel
theorem d_Model_layWalks_86 : decode jc_Model_layWalks 86 = .ok (.iload_n 3, 1) := by decide +kernel
theorem d_Model_layWalks_87 : decode jc_Model_layWalks 87 = .ok (.iconst 1, 1) := by decide +kernel
theorem d_Model_layWalks_88 : decode jc_Model_layWalks 88 = .ok (.isub, 1) := by decide +kernel
theorem d_Model_layWalks_89 : decode jc_Model_layWalks 89 = .ok (.imul, 1) := by decide +kernel
theorem d_Model_layWalks_90 : decode jc_Model_layWalks 90 = .ok (.iload 6, 2) := by decide +kernel
theorem d_Model_layWalks_92 : decode jc_Model_layWalks 92 = .ok (.iadd, 1) := by decide +kernel
theorem d_Model_layWalks_93 : decode jc_Model_layWalks 93 = .ok (.iaload, 1) := by decide +kernel
theorem d_Model_layWalks_94 : decode jc_Model_layWalks 94 = .ok (.goto 4, 3) := by decide +kernel
theorem d_Model_layWalks_97 : decode jc_Model_layWalks 97 = .ok (.iconst 0, 1) := by decide +kernel
theorem d_Model_layWalks_98 : decode jc_Model_layWalks 98 = .ok (.ior, 1) := by decide +kernel
theorem d_Model_layWalks_99 : decode jc_Model_layWalks 99 = .ok (.istore 5, 2) := by decide +kernel
theorem d_Model_layWalks_101 : decode jc_Model_layWalks 101 = .ok (.iinc 6 1, 3) := by decide +kernel
theorem d_Model_layWalks_104 : decode jc_Model_layWalks 104 = .ok (.goto (-44), 3) := by decide +kernel
theorem d_Model_layWalks_107 : decode jc_Model_layWalks 107 = .ok (.aload_n 0, 1) := by decide +kernel
theorem d_Model_layWalks_108 : decode jc_Model_layWalks 108 = .ok (.getfield 37, 3) := by decide +kernel
theorem d_Model_layWalks_111 : decode jc_Model_layWalks 111 = .ok (.bipush 12, 2) := by decide +kernel
theorem d_Model_layWalks_113 : decode jc_Model_layWalks 113 = .ok (.iload_n 3, 1) := by decide +kernel
theorem d_Model_layWalks_114 : decode jc_Model_layWalks 114 = .ok (.imul, 1) := by decide +kernel
theorem d_Model_layWalks_115 : decode jc_Model_layWalks 115 = .ok (.iload 4, 2) := by decide +kernel
theorem d_Model_layWalks_117 : decode jc_Model_layWalks 117 = .ok (.iadd, 1) := by decide +kernel
theorem d_Model_layWalks_118 : decode jc_Model_layWalks 118 = .ok (.iload 5, 2) := by decide +kernel
theorem d_Model_layWalks_120 : decode jc_Model_layWalks 120 = .ok (.iastore, 1) := by decide +kernel
theorem d_Model_layWalks_121 : decode jc_Model_layWalks 121 = .ok (.aload_n 0, 1) := by decide +kernel
theorem d_Model_layWalks_122 : decode jc_Model_layWalks 122 = .ok (.getfield 34, 3) := by decide +kernel
theorem d_Model_layWalks_125 : decode jc_Model_layWalks 125 = .ok (.iload 4, 2) := by decide +kernel
theorem d_Model_layWalks_127 : decode jc_Model_layWalks 127 = .ok (.dup2, 1) := by decide +kernel
theorem d_Model_layWalks_128 : decode jc_Model_layWalks 128 = .ok (.iaload, 1) := by decide +kernel
theorem d_Model_layWalks_129 : decode jc_Model_layWalks 129 = .ok (.iload 5, 2) := by decide +kernel
theorem d_Model_layWalks_131 : decode jc_Model_layWalks 131 = .ok (.ior, 1) := by decide +kernel
theorem d_Model_layWalks_132 : decode jc_Model_layWalks 132 = .ok (.iastore, 1) := by decide +kernel
theorem d_Model_layWalks_133 : decode jc_Model_layWalks 133 = .ok (.iinc 4 1, 3) := by decide +kernel
theorem d_Model_layWalks_136 : decode jc_Model_layWalks 136 = .ok (.goto (-88), 3) := by decide +kernel
theorem d_Model_layWalks_139 : decode jc_Model_layWalks 139 = .ok (.iinc 3 1, 3) := by decide +kernel
theorem d_Model_layWalks_142 : decode jc_Model_layWalks 142 = .ok (.goto (-102), 3) := by decide +kernel
theorem d_Model_layWalks_145 : decode jc_Model_layWalks 145 = .ok (.aload_n 0, 1) := by decide +kernel
theorem d_Model_layWalks_146 : decode jc_Model_layWalks 146 = .ok (.iconst 0, 1) := by decide +kernel
theorem d_Model_layWalks_147 : decode jc_Model_layWalks 147 = .ok (.putfield 183, 3) := by decide +kernel
theorem d_Model_layWalks_150 : decode jc_Model_layWalks 150 = .ok (.iconst 0, 1) := by decide +kernel
theorem d_Model_layWalks_151 : decode jc_Model_layWalks 151 = .ok (.istore_n 3, 1) := by decide +kernel
theorem d_Model_layWalks_152 : decode jc_Model_layWalks 152 = .ok (.iload_n 3, 1) := by decide +kernel
theorem d_Model_layWalks_153 : decode jc_Model_layWalks 153 = .ok (.iload_n 2, 1) := by decide +kernel
theorem d_Model_layWalks_154 : decode jc_Model_layWalks 154 = .ok (.if_icmp .ge 112, 3) := by decide +kernel
theorem d_Model_layWalks_157 : decode jc_Model_layWalks 157 = .ok (.aload_n 0, 1) := by decide +kernel
theorem d_Model_layWalks_158 : decode jc_Model_layWalks 158 = .ok (.getfield 31, 3) := by decide +kernel
theorem d_Model_layWalks_161 : decode jc_Model_layWalks 161 = .ok (.iload_n 3, 1) := by decide +kernel
theorem d_Model_layWalks_162 : decode jc_Model_layWalks 162 = .ok (.iconst (-1), 1) := by decide +kernel
theorem d_Model_layWalks_163 : decode jc_Model_layWalks 163 = .ok (.iastore, 1) := by decide +kernel
theorem d_Model_layWalks_164 : decode jc_Model_layWalks 164 = .ok (.iconst 0, 1) := by decide +kernel
theorem d_Model_layWalks_165 : decode jc_Model_layWalks 165 = .ok (.istore 4, 2) := by decide +kernel
theorem d_Model_layWalks_167 : decode jc_Model_layWalks 167 = .ok (.iload 4, 2) := by decide +kernel
theorem d_Model_layWalks_169 : decode jc_Model_layWalks 169 = .ok (.iload_n 3, 1) := by decide +kernel
theorem d_Model_layWalks_170 : decode jc_Model_layWalks 170 = .ok (.if_icmp .ge 61, 3) := by decide +kernel
theorem d_Model_layWalks_173 : decode jc_Model_layWalks 173 = .ok (.aload_n 0, 1) := by decide +kernel
theorem d_Model_layWalks_174 : decode jc_Model_layWalks 174 = .ok (.getfield 31, 3) := by decide +kernel
theorem d_Model_layWalks_177 : decode jc_Model_layWalks 177 = .ok (.iload_n 3, 1) := by decide +kernel
theorem d_Model_layWalks_178 : decode jc_Model_layWalks 178 = .ok (.aload_n 0, 1) := by decide +kernel
theorem d_Model_layWalks_179 : decode jc_Model_layWalks 179 = .ok (.getfield 34, 3) := by decide +kernel
theorem d_Model_layWalks_182 : decode jc_Model_layWalks 182 = .ok (.iload_n 3, 1) := by decide +kernel
theorem d_Model_layWalks_183 : decode jc_Model_layWalks 183 = .ok (.iaload, 1) := by decide +kernel
theorem d_Model_layWalks_184 : decode jc_Model_layWalks 184 = .ok (.iload 4, 2) := by decide +kernel
theorem d_Model_layWalks_186 : decode jc_Model_layWalks 186 = .ok (.ishr, 1) := by decide +kernel
theorem d_Model_layWalks_187 : decode jc_Model_layWalks 187 = .ok (.iconst 1, 1) := by decide +kernel
theorem d_Model_layWalks_188 : decode jc_Model_layWalks 188 = .ok (.iand, 1) := by decide +kernel
theorem d_Model_layWalks_189 : decode jc_Model_layWalks 189 = .ok (.iconst 1, 1) := by decide +kernel
theorem d_Model_layWalks_190 : decode jc_Model_layWalks 190 = .ok (.if_icmp .ne 28, 3) := by decide +kernel
theorem d_Model_layWalks_193 : decode jc_Model_layWalks 193 = .ok (.aload_n 0, 1) := by decide +kernel
theorem d_Model_layWalks_194 : decode jc_Model_layWalks 194 = .ok (.getfield 34, 3) := by decide +kernel
theorem d_Model_layWalks_197 : decode jc_Model_layWalks 197 = .ok (.iload 4, 2) := by decide +kernel
theorem d_Model_layWalks_199 : decode jc_Model_layWalks 199 = .ok (.iaload, 1) := by decide +kernel
theorem d_Model_layWalks_200 : decode jc_Model_layWalks 200 = .ok (.iload_n 3, 1) := by decide +kernel
theorem d_Model_layWalks_201 : decode jc_Model_layWalks 201 = .ok (.ishr, 1) := by decide +kernel
theorem d_Model_layWalks_202 : decode jc_Model_layWalks 202 = .ok (.iconst 1, 1) := by decide +kernel
theorem d_Model_layWalks_203 : decode jc_Model_layWalks 203 = .ok (.iand, 1) := by decide +kernel
theorem d_Model_layWalks_204 : decode jc_Model_layWalks 204 = .ok (.iconst 1, 1) := by decide +kernel
theorem d_Model_layWalks_205 : decode jc_Model_layWalks 205 = .ok (.if_icmp .ne 13, 3) := by decide +kernel
theorem d_Model_layWalks_208 : decode jc_Model_layWalks 208 = .ok (.aload_n 0, 1) := by decide +kernel
theorem d_Model_layWalks_209 : decode jc_Model_layWalks 209 = .ok (.getfield 31, 3) := by decide +kernel
theorem d_Model_layWalks_212 : decode jc_Model_layWalks 212 = .ok (.iload 4, 2) := by decide +kernel
theorem d_Model_layWalks_214 : decode jc_Model_layWalks 214 = .ok (.iaload, 1) := by decide +kernel
theorem d_Model_layWalks_215 : decode jc_Model_layWalks 215 = .ok (.goto 9, 3) := by decide +kernel
theorem d_Model_layWalks_218 : decode jc_Model_layWalks 218 = .ok (.aload_n 0, 1) := by decide +kernel
theorem d_Model_layWalks_219 : decode jc_Model_layWalks 219 = .ok (.getfield 31, 3) := by decide +kernel
theorem d_Model_layWalks_222 : decode jc_Model_layWalks 222 = .ok (.iload_n 3, 1) := by decide +kernel
theorem d_Model_layWalks_223 : decode jc_Model_layWalks 223 = .ok (.iaload, 1) := by decide +kernel
theorem d_Model_layWalks_224 : decode jc_Model_layWalks 224 = .ok (.iastore, 1) := by decide +kernel
theorem d_Model_layWalks_225 : decode jc_Model_layWalks 225 = .ok (.iinc 4 1, 3) := by decide +kernel
theorem d_Model_layWalks_228 : decode jc_Model_layWalks 228 = .ok (.goto (-61), 3) := by decide +kernel
theorem d_Model_layWalks_231 : decode jc_Model_layWalks 231 = .ok (.aload_n 0, 1) := by decide +kernel
theorem d_Model_layWalks_232 : decode jc_Model_layWalks 232 = .ok (.getfield 31, 3) := by decide +kernel
theorem d_Model_layWalks_235 : decode jc_Model_layWalks 235 = .ok (.iload_n 3, 1) := by decide +kernel
theorem d_Model_layWalks_236 : decode jc_Model_layWalks 236 = .ok (.iaload, 1) := by decide +kernel
theorem d_Model_layWalks_237 : decode jc_Model_layWalks 237 = .ok (.ifCond .ge 23, 3) := by decide +kernel
theorem d_Model_layWalks_240 : decode jc_Model_layWalks 240 = .ok (.aload_n 0, 1) := by decide +kernel
theorem d_Model_layWalks_241 : decode jc_Model_layWalks 241 = .ok (.getfield 31, 3) := by decide +kernel
theorem d_Model_layWalks_244 : decode jc_Model_layWalks 244 = .ok (.iload_n 3, 1) := by decide +kernel
theorem d_Model_layWalks_245 : decode jc_Model_layWalks 245 = .ok (.aload_n 0, 1) := by decide +kernel
theorem d_Model_layWalks_246 : decode jc_Model_layWalks 246 = .ok (.getfield 183, 3) := by decide +kernel
theorem d_Model_layWalks_249 : decode jc_Model_layWalks 249 = .ok (.iastore, 1) := by decide +kernel
theorem d_Model_layWalks_250 : decode jc_Model_layWalks 250 = .ok (.aload_n 0, 1) := by decide +kernel
theorem d_Model_layWalks_251 : decode jc_Model_layWalks 251 = .ok (.dup, 1) := by decide +kernel
theorem d_Model_layWalks_252 : decode jc_Model_layWalks 252 = .ok (.getfield 183, 3) := by decide +kernel
theorem d_Model_layWalks_255 : decode jc_Model_layWalks 255 = .ok (.iconst 1, 1) := by decide +kernel
theorem d_Model_layWalks_256 : decode jc_Model_layWalks 256 = .ok (.iadd, 1) := by decide +kernel
theorem d_Model_layWalks_257 : decode jc_Model_layWalks 257 = .ok (.putfield 183, 3) := by decide +kernel
theorem d_Model_layWalks_260 : decode jc_Model_layWalks 260 = .ok (.iinc 3 1, 3) := by decide +kernel
theorem d_Model_layWalks_263 : decode jc_Model_layWalks 263 = .ok (.goto (-111), 3) := by decide +kernel
theorem d_Model_layWalks_266 : decode jc_Model_layWalks 266 = .ok (.return_, 1) := by decide +kernel
theorem d_Model_membersOf_0 : decode jc_Model_membersOf 0 = .ok (.iconst 0, 1) := by decide +kernel
theorem d_Model_membersOf_1 : decode jc_Model_membersOf 1 = .ok (.istore_n 3, 1) := by decide +kernel
theorem d_Model_membersOf_2 : decode jc_Model_membersOf 2 = .ok (.iconst 0, 1) := by decide +kernel
theorem d_Model_membersOf_3 : decode jc_Model_membersOf 3 = .ok (.istore 4, 2) := by decide +kernel
theorem d_Model_membersOf_5 : decode jc_Model_membersOf 5 = .ok (.iload 4, 2) := by decide +kernel
theorem d_Model_membersOf_7 : decode jc_Model_membersOf 7 = .ok (.aload_n 0, 1) := by decide +kernel
theorem d_Model_membersOf_8 : decode jc_Model_membersOf 8 = .ok (.getfield 13, 3) := by decide +kernel
theorem d_Model_membersOf_11 : decode jc_Model_membersOf 11 = .ok (.iload_n 1, 1) := by decide +kernel
theorem d_Model_membersOf_12 : decode jc_Model_membersOf 12 = .ok (.iaload, 1) := by decide +kernel
theorem d_Model_membersOf_13 : decode jc_Model_membersOf 13 = .ok (.if_icmp .ge 31, 3) := by decide +kernel
theorem d_Model_membersOf_16 : decode jc_Model_membersOf 16 = .ok (.iload_n 3, 1) := by decide +kernel
theorem d_Model_membersOf_17 : decode jc_Model_membersOf 17 = .ok (.aload_n 0, 1) := by decide +kernel
theorem d_Model_membersOf_18 : decode jc_Model_membersOf 18 = .ok (.getfield 31, 3) := by decide +kernel
theorem d_Model_membersOf_21 : decode jc_Model_membersOf 21 = .ok (.iload 4, 2) := by decide +kernel
theorem d_Model_membersOf_23 : decode jc_Model_membersOf 23 = .ok (.iaload, 1) := by decide +kernel
theorem d_Model_membersOf_24 : decode jc_Model_membersOf 24 = .ok (.iload_n 2, 1) := by decide +kernel
theorem d_Model_membersOf_25 : decode jc_Model_membersOf 25 = .ok (.if_icmp .ne 10, 3) := by decide +kernel
theorem d_Model_membersOf_28 : decode jc_Model_membersOf 28 = .ok (.iconst 1, 1) := by decide +kernel
theorem d_Model_membersOf_29 : decode jc_Model_membersOf 29 = .ok (.iload 4, 2) := by decide +kernel
theorem d_Model_membersOf_31 : decode jc_Model_membersOf 31 = .ok (.ishl, 1) := by decide +kernel
theorem d_Model_membersOf_32 : decode jc_Model_membersOf 32 = .ok (.goto 4, 3) := by decide +kernel
theorem d_Model_membersOf_35 : decode jc_Model_membersOf 35 = .ok (.iconst 0, 1) := by decide +kernel
theorem d_Model_membersOf_36 : decode jc_Model_membersOf 36 = .ok (.ior, 1) := by decide +kernel
theorem d_Model_membersOf_37 : decode jc_Model_membersOf 37 = .ok (.istore_n 3, 1) := by decide +kernel
theorem d_Model_membersOf_38 : decode jc_Model_membersOf 38 = .ok (.iinc 4 1, 3) := by decide +kernel
theorem d_Model_membersOf_41 : decode jc_Model_membersOf 41 = .ok (.goto (-36), 3) := by decide +kernel
theorem d_Model_membersOf_44 : decode jc_Model_membersOf 44 = .ok (.iload_n 3, 1) := by decide +kernel
theorem d_Model_membersOf_45 : decode jc_Model_membersOf 45 = .ok (.ireturn, 1) := by decide +kernel
theorem d_Model_leastOf_0 : decode jc_Model_leastOf 0 = .ok (.iconst 0, 1) := by decide +kernel
theorem d_Model_leastOf_1 : decode jc_Model_leastOf 1 = .ok (.istore_n 2, 1) := by decide +kernel
theorem d_Model_leastOf_2 : decode jc_Model_leastOf 2 = .ok (.aload_n 0, 1) := by decide +kernel
theorem d_Model_leastOf_3 : decode jc_Model_leastOf 3 = .ok (.getfield 31, 3) := by decide +kernel
theorem d_Model_leastOf_6 : decode jc_Model_leastOf 6 = .ok (.iload_n 2, 1) := by decide +kernel
theorem d_Model_leastOf_7 : decode jc_Model_leastOf 7 = .ok (.iaload, 1) := by decide +kernel
theorem d_Model_leastOf_8 : decode jc_Model_leastOf 8 = .ok (.iload_n 1, 1) := by decide +kernel
theorem d_Model_leastOf_9 : decode jc_Model_leastOf 9 = .ok (.if_icmp .eq 9, 3) := by decide +kernel
theorem d_Model_leastOf_12 : decode jc_Model_leastOf 12 = .ok (.iinc 2 1, 3) := by decide +kernel
theorem d_Model_leastOf_15 : decode jc_Model_leastOf 15 = .ok (.goto (-13), 3) := by decide +kernel
theorem d_Model_leastOf_18 : decode jc_Model_leastOf 18 = .ok (.iload_n 2, 1) := by decide +kernel
theorem d_Model_leastOf_19 : decode jc_Model_leastOf 19 = .ok (.ireturn, 1) := by decide +kernel
theorem d_Model_divisor_0 : decode jc_Model_divisor 0 = .ok (.iload_n 0, 1) := by decide +kernel
theorem d_Model_divisor_1 : decode jc_Model_divisor 1 = .ok (.istore_n 2, 1) := by decide +kernel
theorem d_Model_divisor_2 : decode jc_Model_divisor 2 = .ok (.iload_n 1, 1) := by decide +kernel
theorem d_Model_divisor_3 : decode jc_Model_divisor 3 = .ok (.istore_n 3, 1) := by decide +kernel
theorem d_Model_divisor_4 : decode jc_Model_divisor 4 = .ok (.iload_n 3, 1) := by decide +kernel
theorem d_Model_divisor_5 : decode jc_Model_divisor 5 = .ok (.ifCond .eq 16, 3) := by decide +kernel
theorem d_Model_divisor_8 : decode jc_Model_divisor 8 = .ok (.iload_n 2, 1) := by decide +kernel
theorem d_Model_divisor_9 : decode jc_Model_divisor 9 = .ok (.iload_n 3, 1) := by decide +kernel
theorem d_Model_divisor_10 : decode jc_Model_divisor 10 = .ok (.irem, 1) := by decide +kernel
theorem d_Model_divisor_11 : decode jc_Model_divisor 11 = .ok (.istore 4, 2) := by decide +kernel
theorem d_Model_divisor_13 : decode jc_Model_divisor 13 = .ok (.iload_n 3, 1) := by decide +kernel
theorem d_Model_divisor_14 : decode jc_Model_divisor 14 = .ok (.istore_n 2, 1) := by decide +kernel
theorem d_Model_divisor_15 : decode jc_Model_divisor 15 = .ok (.iload 4, 2) := by decide +kernel
theorem d_Model_divisor_17 : decode jc_Model_divisor 17 = .ok (.istore_n 3, 1) := by decide +kernel
theorem d_Model_divisor_18 : decode jc_Model_divisor 18 = .ok (.goto (-14), 3) := by decide +kernel
theorem d_Model_divisor_21 : decode jc_Model_divisor 21 = .ok (.iload_n 2, 1) := by decide +kernel
theorem d_Model_divisor_22 : decode jc_Model_divisor 22 = .ok (.ireturn, 1) := by decide +kernel
theorem d_Model_roundsOf_0 : decode jc_Model_roundsOf 0 = .ok (.iconst 0, 1) := by decide +kernel
theorem d_Model_roundsOf_1 : decode jc_Model_roundsOf 1 = .ok (.istore 4, 2) := by decide +kernel
theorem d_Model_roundsOf_3 : decode jc_Model_roundsOf 3 = .ok (.iconst 0, 1) := by decide +kernel
theorem d_Model_roundsOf_4 : decode jc_Model_roundsOf 4 = .ok (.istore 5, 2) := by decide +kernel
theorem d_Model_roundsOf_6 : decode jc_Model_roundsOf 6 = .ok (.iconst 1, 1) := by decide +kernel
theorem d_Model_roundsOf_7 : decode jc_Model_roundsOf 7 = .ok (.istore 6, 2) := by decide +kernel
theorem d_Model_roundsOf_9 : decode jc_Model_roundsOf 9 = .ok (.iload 6, 2) := by decide +kernel
theorem d_Model_roundsOf_11 : decode jc_Model_roundsOf 11 = .ok (.aload_n 0, 1) := by decide +kernel
theorem d_Model_roundsOf_12 : decode jc_Model_roundsOf 12 = .ok (.getfield 13, 3) := by decide +kernel
theorem d_Model_roundsOf_15 : decode jc_Model_roundsOf 15 = .ok (.iload_n 1, 1) := by decide +kernel
theorem d_Model_roundsOf_16 : decode jc_Model_roundsOf 16 = .ok (.iaload, 1) := by decide +kernel
theorem d_Model_roundsOf_17 : decode jc_Model_roundsOf 17 = .ok (.if_icmp .gt 107, 3) := by decide +kernel
theorem d_Model_roundsOf_20 : decode jc_Model_roundsOf 20 = .ok (.iconst 0, 1) := by decide +kernel
theorem d_Model_roundsOf_21 : decode jc_Model_roundsOf 21 = .ok (.istore 7, 2) := by decide +kernel
theorem d_Model_roundsOf_23 : decode jc_Model_roundsOf 23 = .ok (.iload 7, 2) := by decide +kernel
theorem d_Model_roundsOf_25 : decode jc_Model_roundsOf 25 = .ok (.aload_n 0, 1) := by decide +kernel
theorem d_Model_roundsOf_26 : decode jc_Model_roundsOf 26 = .ok (.getfield 13, 3) := by decide +kernel
theorem d_Model_roundsOf_29 : decode jc_Model_roundsOf 29 = .ok (.iload_n 1, 1) := by decide +kernel
theorem d_Model_roundsOf_30 : decode jc_Model_roundsOf 30 = .ok (.iaload, 1) := by decide +kernel
theorem d_Model_roundsOf_31 : decode jc_Model_roundsOf 31 = .ok (.if_icmp .ge 87, 3) := by decide +kernel
theorem d_Model_roundsOf_34 : decode jc_Model_roundsOf 34 = .ok (.aload_n 0, 1) := by decide +kernel
theorem d_Model_roundsOf_35 : decode jc_Model_roundsOf 35 = .ok (.getfield 31, 3) := by decide +kernel
theorem d_Model_roundsOf_38 : decode jc_Model_roundsOf 38 = .ok (.iload 7, 2) := by decide +kernel
theorem d_Model_roundsOf_40 : decode jc_Model_roundsOf 40 = .ok (.iaload, 1) := by decide +kernel
theorem d_Model_roundsOf_41 : decode jc_Model_roundsOf 41 = .ok (.iload_n 2, 1) := by decide +kernel
theorem d_Model_roundsOf_42 : decode jc_Model_roundsOf 42 = .ok (.if_icmp .ne 29, 3) := by decide +kernel
theorem d_Model_roundsOf_45 : decode jc_Model_roundsOf 45 = .ok (.aload_n 0, 1) := by decide +kernel
theorem d_Model_roundsOf_46 : decode jc_Model_roundsOf 46 = .ok (.getfield 37, 3) := by decide +kernel
theorem d_Model_roundsOf_49 : decode jc_Model_roundsOf 49 = .ok (.bipush 12, 2) := by decide +kernel
theorem d_Model_roundsOf_51 : decode jc_Model_roundsOf 51 = .ok (.iload 6, 2) := by decide +kernel
theorem d_Model_roundsOf_53 : decode jc_Model_roundsOf 53 = .ok (.imul, 1) := by decide +kernel
theorem d_Model_roundsOf_54 : decode jc_Model_roundsOf 54 = .ok (.iload 7, 2) := by decide +kernel
theorem d_Model_roundsOf_56 : decode jc_Model_roundsOf 56 = .ok (.iadd, 1) := by decide +kernel
theorem d_Model_roundsOf_57 : decode jc_Model_roundsOf 57 = .ok (.iaload, 1) := by decide +kernel
theorem d_Model_roundsOf_58 : decode jc_Model_roundsOf 58 = .ok (.iload 7, 2) := by decide +kernel
theorem d_Model_roundsOf_60 : decode jc_Model_roundsOf 60 = .ok (.ishr, 1) := by decide +kernel
theorem d_Model_roundsOf_61 : decode jc_Model_roundsOf 61 = .ok (.iconst 1, 1) := by decide +kernel
theorem d_Model_roundsOf_62 : decode jc_Model_roundsOf 62 = .ok (.iand, 1) := by decide +kernel
theorem d_Model_roundsOf_63 : decode jc_Model_roundsOf 63 = .ok (.iconst 1, 1) := by decide +kernel
theorem d_Model_roundsOf_64 : decode jc_Model_roundsOf 64 = .ok (.if_icmp .ne 7, 3) := by decide +kernel
theorem d_Model_roundsOf_67 : decode jc_Model_roundsOf 67 = .ok (.iconst 1, 1) := by decide +kernel
theorem d_Model_roundsOf_68 : decode jc_Model_roundsOf 68 = .ok (.goto 4, 3) := by decide +kernel
theorem d_Model_roundsOf_71 : decode jc_Model_roundsOf 71 = .ok (.iconst 0, 1) := by decide +kernel
theorem d_Model_roundsOf_72 : decode jc_Model_roundsOf 72 = .ok (.istore 8, 2) := by decide +kernel
theorem d_Model_roundsOf_74 : decode jc_Model_roundsOf 74 = .ok (.iload 8, 2) := by decide +kernel
theorem d_Model_roundsOf_76 : decode jc_Model_roundsOf 76 = .ok (.ifCond .eq 13, 3) := by decide +kernel
theorem d_Model_roundsOf_79 : decode jc_Model_roundsOf 79 = .ok (.iload 4, 2) := by decide +kernel
theorem d_Model_roundsOf_81 : decode jc_Model_roundsOf 81 = .ok (.iload 6, 2) := by decide +kernel
theorem d_Model_roundsOf_83 : decode jc_Model_roundsOf 83 = .ok (.invokestatic 186, 3) := by decide +kernel
theorem d_Model_roundsOf_86 : decode jc_Model_roundsOf 86 = .ok (.goto 5, 3) := by decide +kernel
theorem d_Model_roundsOf_89 : decode jc_Model_roundsOf 89 = .ok (.iload 4, 2) := by decide +kernel
theorem d_Model_roundsOf_91 : decode jc_Model_roundsOf 91 = .ok (.istore 4, 2) := by decide +kernel
theorem d_Model_roundsOf_93 : decode jc_Model_roundsOf 93 = .ok (.iload 8, 2) := by decide +kernel
theorem d_Model_roundsOf_95 : decode jc_Model_roundsOf 95 = .ok (.ifCond .eq 13, 3) := by decide +kernel
theorem d_Model_roundsOf_98 : decode jc_Model_roundsOf 98 = .ok (.iload 5, 2) := by decide +kernel
theorem d_Model_roundsOf_100 : decode jc_Model_roundsOf 100 = .ok (.ifCond .ne 8, 3) := by decide +kernel
theorem d_Model_roundsOf_103 : decode jc_Model_roundsOf 103 = .ok (.iload 6, 2) := by decide +kernel
theorem d_Model_roundsOf_105 : decode jc_Model_roundsOf 105 = .ok (.goto 5, 3) := by decide +kernel
theorem d_Model_roundsOf_108 : decode jc_Model_roundsOf 108 = .ok (.iload 5, 2) := by decide +kernel
theorem d_Model_roundsOf_110 : decode jc_Model_roundsOf 110 = .ok (.istore 5, 2) := by decide +kernel
theorem d_Model_roundsOf_112 : decode jc_Model_roundsOf 112 = .ok (.iinc 7 1, 3) := by decide +kernel
theorem d_Model_roundsOf_115 : decode jc_Model_roundsOf 115 = .ok (.goto (-92), 3) := by decide +kernel
theorem d_Model_roundsOf_118 : decode jc_Model_roundsOf 118 = .ok (.iinc 6 1, 3) := by decide +kernel
theorem d_Model_roundsOf_121 : decode jc_Model_roundsOf 121 = .ok (.goto (-112), 3) := by decide +kernel
theorem d_Model_roundsOf_124 : decode jc_Model_roundsOf 124 = .ok (.iload_n 3, 1) := by decide +kernel
theorem d_Model_roundsOf_125 : decode jc_Model_roundsOf 125 = .ok (.ifCond .eq 8, 3) := by decide +kernel
theorem d_Model_roundsOf_128 : decode jc_Model_roundsOf 128 = .ok (.iload 5, 2) := by decide +kernel
theorem d_Model_roundsOf_130 : decode jc_Model_roundsOf 130 = .ok (.goto 5, 3) := by decide +kernel
theorem d_Model_roundsOf_133 : decode jc_Model_roundsOf 133 = .ok (.iload 4, 2) := by decide +kernel
theorem d_Model_roundsOf_135 : decode jc_Model_roundsOf 135 = .ok (.ireturn, 1) := by decide +kernel
theorem d_Model_belowOf_0 : decode jc_Model_belowOf 0 = .ok (.iconst 0, 1) := by decide +kernel
theorem d_Model_belowOf_1 : decode jc_Model_belowOf 1 = .ok (.istore_n 3, 1) := by decide +kernel
theorem d_Model_belowOf_2 : decode jc_Model_belowOf 2 = .ok (.aload_n 0, 1) := by decide +kernel
theorem d_Model_belowOf_3 : decode jc_Model_belowOf 3 = .ok (.getfield 34, 3) := by decide +kernel
theorem d_Model_belowOf_6 : decode jc_Model_belowOf 6 = .ok (.aload_n 0, 1) := by decide +kernel
theorem d_Model_belowOf_7 : decode jc_Model_belowOf 7 = .ok (.iload_n 2, 1) := by decide +kernel
theorem d_Model_belowOf_8 : decode jc_Model_belowOf 8 = .ok (.invokevirtual 189, 3) := by decide +kernel
theorem d_Model_belowOf_11 : decode jc_Model_belowOf 11 = .ok (.iaload, 1) := by decide +kernel
theorem d_Model_belowOf_12 : decode jc_Model_belowOf 12 = .ok (.istore 4, 2) := by decide +kernel
theorem d_Model_belowOf_14 : decode jc_Model_belowOf 14 = .ok (.iconst 0, 1) := by decide +kernel
theorem d_Model_belowOf_15 : decode jc_Model_belowOf 15 = .ok (.istore 5, 2) := by decide +kernel
theorem d_Model_belowOf_17 : decode jc_Model_belowOf 17 = .ok (.iload 5, 2) := by decide +kernel
theorem d_Model_belowOf_19 : decode jc_Model_belowOf 19 = .ok (.aload_n 0, 1) := by decide +kernel
theorem d_Model_belowOf_20 : decode jc_Model_belowOf 20 = .ok (.getfield 13, 3) := by decide +kernel
theorem d_Model_belowOf_23 : decode jc_Model_belowOf 23 = .ok (.iload_n 1, 1) := by decide +kernel
theorem d_Model_belowOf_24 : decode jc_Model_belowOf 24 = .ok (.iaload, 1) := by decide +kernel
theorem d_Model_belowOf_25 : decode jc_Model_belowOf 25 = .ok (.if_icmp .ge 47, 3) := by decide +kernel
theorem d_Model_belowOf_28 : decode jc_Model_belowOf 28 = .ok (.iload_n 3, 1) := by decide +kernel
theorem d_Model_belowOf_29 : decode jc_Model_belowOf 29 = .ok (.iload 4, 2) := by decide +kernel
theorem d_Model_belowOf_31 : decode jc_Model_belowOf 31 = .ok (.iload 5, 2) := by decide +kernel
theorem d_Model_belowOf_33 : decode jc_Model_belowOf 33 = .ok (.ishr, 1) := by decide +kernel
theorem d_Model_belowOf_34 : decode jc_Model_belowOf 34 = .ok (.iconst 1, 1) := by decide +kernel
theorem d_Model_belowOf_35 : decode jc_Model_belowOf 35 = .ok (.iand, 1) := by decide +kernel
theorem d_Model_belowOf_36 : decode jc_Model_belowOf 36 = .ok (.iconst 1, 1) := by decide +kernel
theorem d_Model_belowOf_37 : decode jc_Model_belowOf 37 = .ok (.if_icmp .ne 26, 3) := by decide +kernel
theorem d_Model_belowOf_40 : decode jc_Model_belowOf 40 = .ok (.aload_n 0, 1) := by decide +kernel
theorem d_Model_belowOf_41 : decode jc_Model_belowOf 41 = .ok (.getfield 31, 3) := by decide +kernel
theorem d_Model_belowOf_44 : decode jc_Model_belowOf 44 = .ok (.iload 5, 2) := by decide +kernel
theorem d_Model_belowOf_46 : decode jc_Model_belowOf 46 = .ok (.iaload, 1) := by decide +kernel
theorem d_Model_belowOf_47 : decode jc_Model_belowOf 47 = .ok (.iload_n 2, 1) := by decide +kernel
theorem d_Model_belowOf_48 : decode jc_Model_belowOf 48 = .ok (.if_icmp .eq 15, 3) := by decide +kernel
theorem d_Model_belowOf_51 : decode jc_Model_belowOf 51 = .ok (.iconst 1, 1) := by decide +kernel
theorem d_Model_belowOf_52 : decode jc_Model_belowOf 52 = .ok (.aload_n 0, 1) := by decide +kernel
theorem d_Model_belowOf_53 : decode jc_Model_belowOf 53 = .ok (.getfield 31, 3) := by decide +kernel
theorem d_Model_belowOf_56 : decode jc_Model_belowOf 56 = .ok (.iload 5, 2) := by decide +kernel
theorem d_Model_belowOf_58 : decode jc_Model_belowOf 58 = .ok (.iaload, 1) := by decide +kernel
theorem d_Model_belowOf_59 : decode jc_Model_belowOf 59 = .ok (.ishl, 1) := by decide +kernel
theorem d_Model_belowOf_60 : decode jc_Model_belowOf 60 = .ok (.goto 4, 3) := by decide +kernel
theorem d_Model_belowOf_63 : decode jc_Model_belowOf 63 = .ok (.iconst 0, 1) := by decide +kernel
theorem d_Model_belowOf_64 : decode jc_Model_belowOf 64 = .ok (.ior, 1) := by decide +kernel
theorem d_Model_belowOf_65 : decode jc_Model_belowOf 65 = .ok (.istore_n 3, 1) := by decide +kernel
theorem d_Model_belowOf_66 : decode jc_Model_belowOf 66 = .ok (.iinc 5 1, 3) := by decide +kernel
theorem d_Model_belowOf_69 : decode jc_Model_belowOf 69 = .ok (.goto (-52), 3) := by decide +kernel
theorem d_Model_belowOf_72 : decode jc_Model_belowOf 72 = .ok (.iload_n 3, 1) := by decide +kernel
theorem d_Model_belowOf_73 : decode jc_Model_belowOf 73 = .ok (.ireturn, 1) := by decide +kernel
theorem d_Model_levelOf_0 : decode jc_Model_levelOf 0 = .ok (.iconst 0, 1) := by decide +kernel
theorem d_Model_levelOf_1 : decode jc_Model_levelOf 1 = .ok (.istore_n 3, 1) := by decide +kernel
theorem d_Model_levelOf_2 : decode jc_Model_levelOf 2 = .ok (.iload_n 3, 1) := by decide +kernel
theorem d_Model_levelOf_3 : decode jc_Model_levelOf 3 = .ok (.aload_n 0, 1) := by decide +kernel
theorem d_Model_levelOf_4 : decode jc_Model_levelOf 4 = .ok (.getfield 183, 3) := by decide +kernel
theorem d_Model_levelOf_7 : decode jc_Model_levelOf 7 = .ok (.if_icmp .ge 16, 3) := by decide +kernel
theorem d_Model_levelOf_10 : decode jc_Model_levelOf 10 = .ok (.aload_n 0, 1) := by decide +kernel
theorem d_Model_levelOf_11 : decode jc_Model_levelOf 11 = .ok (.getfield 40, 3) := by decide +kernel
theorem d_Model_levelOf_14 : decode jc_Model_levelOf 14 = .ok (.iload_n 3, 1) := by decide +kernel
theorem d_Model_levelOf_15 : decode jc_Model_levelOf 15 = .ok (.iconst 0, 1) := by decide +kernel
theorem d_Model_levelOf_16 : decode jc_Model_levelOf 16 = .ok (.iastore, 1) := by decide +kernel
theorem d_Model_levelOf_17 : decode jc_Model_levelOf 17 = .ok (.iinc 3 1, 3) := by decide +kernel
theorem d_Model_levelOf_20 : decode jc_Model_levelOf 20 = .ok (.goto (-18), 3) := by decide +kernel
theorem d_Model_levelOf_23 : decode jc_Model_levelOf 23 = .ok (.iconst 1, 1) := by decide +kernel
theorem d_Model_levelOf_24 : decode jc_Model_levelOf 24 = .ok (.istore_n 3, 1) := by decide +kernel
theorem d_Model_levelOf_25 : decode jc_Model_levelOf 25 = .ok (.iload_n 3, 1) := by decide +kernel
theorem d_Model_levelOf_26 : decode jc_Model_levelOf 26 = .ok (.ifCond .eq 153, 3) := by decide +kernel
theorem d_Model_levelOf_29 : decode jc_Model_levelOf 29 = .ok (.iconst 0, 1) := by decide +kernel
theorem d_Model_levelOf_30 : decode jc_Model_levelOf 30 = .ok (.istore_n 3, 1) := by decide +kernel
theorem d_Model_levelOf_31 : decode jc_Model_levelOf 31 = .ok (.iconst 0, 1) := by decide +kernel
theorem d_Model_levelOf_32 : decode jc_Model_levelOf 32 = .ok (.istore 4, 2) := by decide +kernel
theorem d_Model_levelOf_34 : decode jc_Model_levelOf 34 = .ok (.iload 4, 2) := by decide +kernel
theorem d_Model_levelOf_36 : decode jc_Model_levelOf 36 = .ok (.aload_n 0, 1) := by decide +kernel
theorem d_Model_levelOf_37 : decode jc_Model_levelOf 37 = .ok (.getfield 13, 3) := by decide +kernel
theorem d_Model_levelOf_40 : decode jc_Model_levelOf 40 = .ok (.iload_n 1, 1) := by decide +kernel
theorem d_Model_levelOf_41 : decode jc_Model_levelOf 41 = .ok (.iaload, 1) := by decide +kernel
theorem d_Model_levelOf_42 : decode jc_Model_levelOf 42 = .ok (.aload_n 0, 1) := by decide +kernel
theorem d_Model_levelOf_43 : decode jc_Model_levelOf 43 = .ok (.getfield 13, 3) := by decide +kernel
theorem d_Model_levelOf_46 : decode jc_Model_levelOf 46 = .ok (.iload_n 1, 1) := by decide +kernel
theorem d_Model_levelOf_47 : decode jc_Model_levelOf 47 = .ok (.iaload, 1) := by decide +kernel
theorem d_Model_levelOf_48 : decode jc_Model_levelOf 48 = .ok (.imul, 1) := by decide +kernel
theorem d_Model_levelOf_49 : decode jc_Model_levelOf 49 = .ok (.if_icmp .ge 127, 3) := by decide +kernel
theorem d_Model_levelOf_52 : decode jc_Model_levelOf 52 = .ok (.iload 4, 2) := by decide +kernel
theorem d_Model_levelOf_54 : decode jc_Model_levelOf 54 = .ok (.aload_n 0, 1) := by decide +kernel
theorem d_Model_levelOf_55 : decode jc_Model_levelOf 55 = .ok (.getfield 13, 3) := by decide +kernel
theorem d_Model_levelOf_58 : decode jc_Model_levelOf 58 = .ok (.iload_n 1, 1) := by decide +kernel
theorem d_Model_levelOf_59 : decode jc_Model_levelOf 59 = .ok (.iaload, 1) := by decide +kernel
theorem d_Model_levelOf_60 : decode jc_Model_levelOf 60 = .ok (.idiv, 1) := by decide +kernel
theorem d_Model_levelOf_61 : decode jc_Model_levelOf 61 = .ok (.istore 5, 2) := by decide +kernel
theorem d_Model_levelOf_63 : decode jc_Model_levelOf 63 = .ok (.iload 4, 2) := by decide +kernel
theorem d_Model_levelOf_65 : decode jc_Model_levelOf 65 = .ok (.aload_n 0, 1) := by decide +kernel
theorem d_Model_levelOf_66 : decode jc_Model_levelOf 66 = .ok (.getfield 13, 3) := by decide +kernel
theorem d_Model_levelOf_69 : decode jc_Model_levelOf 69 = .ok (.iload_n 1, 1) := by decide +kernel
theorem d_Model_levelOf_70 : decode jc_Model_levelOf 70 = .ok (.iaload, 1) := by decide +kernel
theorem d_Model_levelOf_71 : decode jc_Model_levelOf 71 = .ok (.irem, 1) := by decide +kernel
theorem d_Model_levelOf_72 : decode jc_Model_levelOf 72 = .ok (.istore 6, 2) := by decide +kernel
theorem d_Model_levelOf_74 : decode jc_Model_levelOf 74 = .ok (.aload_n 0, 1) := by decide +kernel
theorem d_Model_levelOf_75 : decode jc_Model_levelOf 75 = .ok (.iload_n 1, 1) := by decide +kernel
theorem d_Model_levelOf_76 : decode jc_Model_levelOf 76 = .ok (.iload 5, 2) := by decide +kernel
theorem d_Model_levelOf_78 : decode jc_Model_levelOf 78 = .ok (.iload 6, 2) := by decide +kernel
theorem d_Model_levelOf_80 : decode jc_Model_levelOf 80 = .ok (.invokevirtual 67, 3) := by decide +kernel
theorem d_Model_levelOf_83 : decode jc_Model_levelOf 83 = .ok (.ifCond .eq 24, 3) := by decide +kernel
theorem d_Model_levelOf_86 : decode jc_Model_levelOf 86 = .ok (.aload_n 0, 1) := by decide +kernel
theorem d_Model_levelOf_87 : decode jc_Model_levelOf 87 = .ok (.getfield 31, 3) := by decide +kernel
theorem d_Model_levelOf_90 : decode jc_Model_levelOf 90 = .ok (.iload 5, 2) := by decide +kernel
theorem d_Model_levelOf_92 : decode jc_Model_levelOf 92 = .ok (.iaload, 1) := by decide +kernel
theorem d_Model_levelOf_93 : decode jc_Model_levelOf 93 = .ok (.aload_n 0, 1) := by decide +kernel
theorem d_Model_levelOf_94 : decode jc_Model_levelOf 94 = .ok (.getfield 31, 3) := by decide +kernel
theorem d_Model_levelOf_97 : decode jc_Model_levelOf 97 = .ok (.iload 6, 2) := by decide +kernel
theorem d_Model_levelOf_99 : decode jc_Model_levelOf 99 = .ok (.iaload, 1) := by decide +kernel
theorem d_Model_levelOf_100 : decode jc_Model_levelOf 100 = .ok (.if_icmp .eq 7, 3) := by decide +kernel
theorem d_Model_levelOf_103 : decode jc_Model_levelOf 103 = .ok (.iconst 1, 1) := by decide +kernel
theorem d_Model_levelOf_104 : decode jc_Model_levelOf 104 = .ok (.goto 4, 3) := by decide +kernel
theorem d_Model_levelOf_107 : decode jc_Model_levelOf 107 = .ok (.iconst 0, 1) := by decide +kernel
theorem d_Model_levelOf_108 : decode jc_Model_levelOf 108 = .ok (.istore 7, 2) := by decide +kernel
theorem d_Model_levelOf_110 : decode jc_Model_levelOf 110 = .ok (.iload 7, 2) := by decide +kernel
theorem d_Model_levelOf_112 : decode jc_Model_levelOf 112 = .ok (.ifCond .eq 58, 3) := by decide +kernel
theorem d_Model_levelOf_115 : decode jc_Model_levelOf 115 = .ok (.aload_n 0, 1) := by decide +kernel
theorem d_Model_levelOf_116 : decode jc_Model_levelOf 116 = .ok (.getfield 40, 3) := by decide +kernel
theorem d_Model_levelOf_119 : decode jc_Model_levelOf 119 = .ok (.aload_n 0, 1) := by decide +kernel
theorem d_Model_levelOf_120 : decode jc_Model_levelOf 120 = .ok (.getfield 31, 3) := by decide +kernel
theorem d_Model_levelOf_123 : decode jc_Model_levelOf 123 = .ok (.iload 6, 2) := by decide +kernel
theorem d_Model_levelOf_125 : decode jc_Model_levelOf 125 = .ok (.iaload, 1) := by decide +kernel
theorem d_Model_levelOf_126 : decode jc_Model_levelOf 126 = .ok (.iaload, 1) := by decide +kernel
theorem d_Model_levelOf_127 : decode jc_Model_levelOf 127 = .ok (.aload_n 0, 1) := by decide +kernel
theorem d_Model_levelOf_128 : decode jc_Model_levelOf 128 = .ok (.getfield 40, 3) := by decide +kernel
theorem d_Model_levelOf_131 : decode jc_Model_levelOf 131 = .ok (.aload_n 0, 1) := by decide +kernel
theorem d_Model_levelOf_132 : decode jc_Model_levelOf 132 = .ok (.getfield 31, 3) := by decide +kernel
theorem d_Model_levelOf_135 : decode jc_Model_levelOf 135 = .ok (.iload 5, 2) := by decide +kernel
theorem d_Model_levelOf_137 : decode jc_Model_levelOf 137 = .ok (.iaload, 1) := by decide +kernel
theorem d_Model_levelOf_138 : decode jc_Model_levelOf 138 = .ok (.iaload, 1) := by decide +kernel
theorem d_Model_levelOf_139 : decode jc_Model_levelOf 139 = .ok (.if_icmp .gt 31, 3) := by decide +kernel
theorem d_Model_levelOf_142 : decode jc_Model_levelOf 142 = .ok (.aload_n 0, 1) := by decide +kernel
theorem d_Model_levelOf_143 : decode jc_Model_levelOf 143 = .ok (.getfield 40, 3) := by decide +kernel
theorem d_Model_levelOf_146 : decode jc_Model_levelOf 146 = .ok (.aload_n 0, 1) := by decide +kernel
theorem d_Model_levelOf_147 : decode jc_Model_levelOf 147 = .ok (.getfield 31, 3) := by decide +kernel
theorem d_Model_levelOf_150 : decode jc_Model_levelOf 150 = .ok (.iload 6, 2) := by decide +kernel
theorem d_Model_levelOf_152 : decode jc_Model_levelOf 152 = .ok (.iaload, 1) := by decide +kernel
theorem d_Model_levelOf_153 : decode jc_Model_levelOf 153 = .ok (.aload_n 0, 1) := by decide +kernel
theorem d_Model_levelOf_154 : decode jc_Model_levelOf 154 = .ok (.getfield 40, 3) := by decide +kernel
theorem d_Model_levelOf_157 : decode jc_Model_levelOf 157 = .ok (.aload_n 0, 1) := by decide +kernel
theorem d_Model_levelOf_158 : decode jc_Model_levelOf 158 = .ok (.getfield 31, 3) := by decide +kernel
theorem d_Model_levelOf_161 : decode jc_Model_levelOf 161 = .ok (.iload 5, 2) := by decide +kernel
theorem d_Model_levelOf_163 : decode jc_Model_levelOf 163 = .ok (.iaload, 1) := by decide +kernel
theorem d_Model_levelOf_164 : decode jc_Model_levelOf 164 = .ok (.iaload, 1) := by decide +kernel
theorem d_Model_levelOf_165 : decode jc_Model_levelOf 165 = .ok (.iconst 1, 1) := by decide +kernel
theorem d_Model_levelOf_166 : decode jc_Model_levelOf 166 = .ok (.iadd, 1) := by decide +kernel
theorem d_Model_levelOf_167 : decode jc_Model_levelOf 167 = .ok (.iastore, 1) := by decide +kernel
theorem d_Model_levelOf_168 : decode jc_Model_levelOf 168 = .ok (.iconst 1, 1) := by decide +kernel
theorem d_Model_levelOf_169 : decode jc_Model_levelOf 169 = .ok (.istore_n 3, 1) := by decide +kernel
theorem d_Model_levelOf_170 : decode jc_Model_levelOf 170 = .ok (.iinc 4 1, 3) := by decide +kernel
theorem d_Model_levelOf_173 : decode jc_Model_levelOf 173 = .ok (.goto (-139), 3) := by decide +kernel
theorem d_Model_levelOf_176 : decode jc_Model_levelOf 176 = .ok (.goto (-151), 3) := by decide +kernel
theorem d_Model_levelOf_179 : decode jc_Model_levelOf 179 = .ok (.aload_n 0, 1) := by decide +kernel
theorem d_Model_levelOf_180 : decode jc_Model_levelOf 180 = .ok (.getfield 40, 3) := by decide +kernel
theorem d_Model_levelOf_183 : decode jc_Model_levelOf 183 = .ok (.iload_n 2, 1) := by decide +kernel
theorem d_Model_levelOf_184 : decode jc_Model_levelOf 184 = .ok (.iaload, 1) := by decide +kernel
theorem d_Model_levelOf_185 : decode jc_Model_levelOf 185 = .ok (.ireturn, 1) := by decide +kernel
theorem d_Model_classes_0 : decode jc_Model_classes 0 = .ok (.aload_n 0, 1) := by decide +kernel
theorem d_Model_classes_1 : decode jc_Model_classes 1 = .ok (.iload_n 1, 1) := by decide +kernel
theorem d_Model_classes_2 : decode jc_Model_classes 2 = .ok (.invokevirtual 117, 3) := by decide +kernel
theorem d_Model_classes_5 : decode jc_Model_classes 5 = .ok (.ifCond .ne 5, 3) := by decide +kernel
theorem d_Model_classes_8 : decode jc_Model_classes 8 = .ok (.iconst (-1), 1) := by decide +kernel
theorem d_Model_classes_9 : decode jc_Model_classes 9 = .ok (.ireturn, 1) := by decide +kernel
theorem d_Model_classes_10 : decode jc_Model_classes 10 = .ok (.aload_n 0, 1) := by decide +kernel
theorem d_Model_classes_11 : decode jc_Model_classes 11 = .ok (.iload_n 1, 1) := by decide +kernel
theorem d_Model_classes_12 : decode jc_Model_classes 12 = .ok (.invokevirtual 192, 3) := by decide +kernel
theorem d_Model_classes_15 : decode jc_Model_classes 15 = .ok (.aload_n 0, 1) := by decide +kernel
theorem d_Model_classes_16 : decode jc_Model_classes 16 = .ok (.getfield 183, 3) := by decide +kernel
theorem d_Model_classes_19 : decode jc_Model_classes 19 = .ok (.ireturn, 1) := by decide +kernel
theorem d_Model_classOf_0 : decode jc_Model_classOf 0 = .ok (.aload_n 0, 1) := by decide +kernel
theorem d_Model_classOf_1 : decode jc_Model_classOf 1 = .ok (.iload_n 1, 1) := by decide +kernel
theorem d_Model_classOf_2 : decode jc_Model_classOf 2 = .ok (.invokevirtual 117, 3) := by decide +kernel
theorem d_Model_classOf_5 : decode jc_Model_classOf 5 = .ok (.ifCond .eq 12, 3) := by decide +kernel
theorem d_Model_classOf_8 : decode jc_Model_classOf 8 = .ok (.aload_n 0, 1) := by decide +kernel
theorem d_Model_classOf_9 : decode jc_Model_classOf 9 = .ok (.iload_n 1, 1) := by decide +kernel
theorem d_Model_classOf_10 : decode jc_Model_classOf 10 = .ok (.iload_n 2, 1) := by decide +kernel
theorem d_Model_classOf_11 : decode jc_Model_classOf 11 = .ok (.invokevirtual 120, 3) := by decide +kernel
theorem d_Model_classOf_14 : decode jc_Model_classOf 14 = .ok (.ifCond .ne 5, 3) := by decide +kernel
theorem d_Model_classOf_17 : decode jc_Model_classOf 17 = .ok (.iconst (-1), 1) := by decide +kernel
theorem d_Model_classOf_18 : decode jc_Model_classOf 18 = .ok (.ireturn, 1) := by decide +kernel
theorem d_Model_classOf_19 : decode jc_Model_classOf 19 = .ok (.aload_n 0, 1) := by decide +kernel
theorem d_Model_classOf_20 : decode jc_Model_classOf 20 = .ok (.iload_n 1, 1) := by decide +kernel
theorem d_Model_classOf_21 : decode jc_Model_classOf 21 = .ok (.invokevirtual 192, 3) := by decide +kernel
theorem d_Model_classOf_24 : decode jc_Model_classOf 24 = .ok (.aload_n 0, 1) := by decide +kernel
theorem d_Model_classOf_25 : decode jc_Model_classOf 25 = .ok (.getfield 31, 3) := by decide +kernel
theorem d_Model_classOf_28 : decode jc_Model_classOf 28 = .ok (.iload_n 2, 1) := by decide +kernel
theorem d_Model_classOf_29 : decode jc_Model_classOf 29 = .ok (.iaload, 1) := by decide +kernel
theorem d_Model_classOf_30 : decode jc_Model_classOf 30 = .ok (.ireturn, 1) := by decide +kernel
theorem d_Model_isClass_0 : decode jc_Model_isClass 0 = .ok (.aload_n 0, 1) := by decide +kernel
theorem d_Model_isClass_1 : decode jc_Model_isClass 1 = .ok (.iload_n 1, 1) := by decide +kernel
theorem d_Model_isClass_2 : decode jc_Model_isClass 2 = .ok (.invokevirtual 117, 3) := by decide +kernel
theorem d_Model_isClass_5 : decode jc_Model_isClass 5 = .ok (.ifCond .ne 5, 3) := by decide +kernel
theorem d_Model_isClass_8 : decode jc_Model_isClass 8 = .ok (.iconst 0, 1) := by decide +kernel
theorem d_Model_isClass_9 : decode jc_Model_isClass 9 = .ok (.ireturn, 1) := by decide +kernel
theorem d_Model_isClass_10 : decode jc_Model_isClass 10 = .ok (.aload_n 0, 1) := by decide +kernel
theorem d_Model_isClass_11 : decode jc_Model_isClass 11 = .ok (.iload_n 1, 1) := by decide +kernel
theorem d_Model_isClass_12 : decode jc_Model_isClass 12 = .ok (.invokevirtual 192, 3) := by decide +kernel
theorem d_Model_isClass_15 : decode jc_Model_isClass 15 = .ok (.iload_n 2, 1) := by decide +kernel
theorem d_Model_isClass_16 : decode jc_Model_isClass 16 = .ok (.ifCond .lt 15, 3) := by decide +kernel
theorem d_Model_isClass_19 : decode jc_Model_isClass 19 = .ok (.iload_n 2, 1) := by decide +kernel
theorem d_Model_isClass_20 : decode jc_Model_isClass 20 = .ok (.aload_n 0, 1) := by decide +kernel
theorem d_Model_isClass_21 : decode jc_Model_isClass 21 = .ok (.getfield 183, 3) := by decide +kernel
theorem d_Model_isClass_24 : decode jc_Model_isClass 24 = .ok (.if_icmp .ge 7, 3) := by decide +kernel
theorem d_Model_isClass_27 : decode jc_Model_isClass 27 = .ok (.iconst 1, 1) := by decide +kernel
theorem d_Model_isClass_28 : decode jc_Model_isClass 28 = .ok (.goto 4, 3) := by decide +kernel
theorem d_Model_isClass_31 : decode jc_Model_isClass 31 = .ok (.iconst 0, 1) := by decide +kernel
theorem d_Model_isClass_32 : decode jc_Model_isClass 32 = .ok (.ireturn, 1) := by decide +kernel
theorem d_Model_ofClass_0 : decode jc_Model_ofClass 0 = .ok (.aload_n 0, 1) := by decide +kernel
theorem d_Model_ofClass_1 : decode jc_Model_ofClass 1 = .ok (.iload_n 1, 1) := by decide +kernel
theorem d_Model_ofClass_2 : decode jc_Model_ofClass 2 = .ok (.iload_n 2, 1) := by decide +kernel
theorem d_Model_ofClass_3 : decode jc_Model_ofClass 3 = .ok (.invokevirtual 195, 3) := by decide +kernel
theorem d_Model_ofClass_6 : decode jc_Model_ofClass 6 = .ok (.ifCond .eq 15, 3) := by decide +kernel
theorem d_Model_ofClass_9 : decode jc_Model_ofClass 9 = .ok (.iload_n 3, 1) := by decide +kernel
theorem d_Model_ofClass_10 : decode jc_Model_ofClass 10 = .ok (.i2l, 1) := by decide +kernel
theorem d_Model_ofClass_11 : decode jc_Model_ofClass 11 = .ok (.lconst 0, 1) := by decide +kernel
theorem d_Model_ofClass_12 : decode jc_Model_ofClass 12 = .ok (.ldc2_w 162, 3) := by decide +kernel
theorem d_Model_ofClass_15 : decode jc_Model_ofClass 15 = .ok (.invokestatic 107, 3) := by decide +kernel
theorem d_Model_ofClass_18 : decode jc_Model_ofClass 18 = .ok (.ifCond .ne 5, 3) := by decide +kernel
theorem d_Model_ofClass_21 : decode jc_Model_ofClass 21 = .ok (.iconst (-1), 1) := by decide +kernel
theorem d_Model_ofClass_22 : decode jc_Model_ofClass 22 = .ok (.ireturn, 1) := by decide +kernel
theorem d_Model_ofClass_23 : decode jc_Model_ofClass 23 = .ok (.iload_n 3, 1) := by decide +kernel
theorem d_Model_ofClass_24 : decode jc_Model_ofClass 24 = .ok (.tableswitch 100 0 6 #[44, 50, 60, 68, 76, 83, 90], 44) := by decide +kernel
theorem d_Model_ofClass_68 : decode jc_Model_ofClass 68 = .ok (.aload_n 0, 1) := by decide +kernel
theorem d_Model_ofClass_69 : decode jc_Model_ofClass 69 = .ok (.iload_n 2, 1) := by decide +kernel
theorem d_Model_ofClass_70 : decode jc_Model_ofClass 70 = .ok (.invokevirtual 189, 3) := by decide +kernel
theorem d_Model_ofClass_73 : decode jc_Model_ofClass 73 = .ok (.ireturn, 1) := by decide +kernel
theorem d_Model_ofClass_74 : decode jc_Model_ofClass 74 = .ok (.aload_n 0, 1) := by decide +kernel
theorem d_Model_ofClass_75 : decode jc_Model_ofClass 75 = .ok (.iload_n 1, 1) := by decide +kernel
theorem d_Model_ofClass_76 : decode jc_Model_ofClass 76 = .ok (.iload_n 2, 1) := by decide +kernel
theorem d_Model_ofClass_77 : decode jc_Model_ofClass 77 = .ok (.invokevirtual 198, 3) := by decide +kernel
theorem d_Model_ofClass_80 : decode jc_Model_ofClass 80 = .ok (.invokestatic 159, 3) := by decide +kernel
theorem d_Model_ofClass_83 : decode jc_Model_ofClass 83 = .ok (.ireturn, 1) := by decide +kernel
theorem d_Model_ofClass_84 : decode jc_Model_ofClass 84 = .ok (.aload_n 0, 1) := by decide +kernel
theorem d_Model_ofClass_85 : decode jc_Model_ofClass 85 = .ok (.iload_n 1, 1) := by decide +kernel
theorem d_Model_ofClass_86 : decode jc_Model_ofClass 86 = .ok (.iload_n 2, 1) := by decide +kernel
theorem d_Model_ofClass_87 : decode jc_Model_ofClass 87 = .ok (.iconst 0, 1) := by decide +kernel
theorem d_Model_ofClass_88 : decode jc_Model_ofClass 88 = .ok (.invokevirtual 201, 3) := by decide +kernel
theorem d_Model_ofClass_91 : decode jc_Model_ofClass 91 = .ok (.ireturn, 1) := by decide +kernel
theorem d_Model_ofClass_92 : decode jc_Model_ofClass 92 = .ok (.aload_n 0, 1) := by decide +kernel
theorem d_Model_ofClass_93 : decode jc_Model_ofClass 93 = .ok (.iload_n 1, 1) := by decide +kernel
theorem d_Model_ofClass_94 : decode jc_Model_ofClass 94 = .ok (.iload_n 2, 1) := by decide +kernel
theorem d_Model_ofClass_95 : decode jc_Model_ofClass 95 = .ok (.iconst 1, 1) := by decide +kernel
theorem d_Model_ofClass_96 : decode jc_Model_ofClass 96 = .ok (.invokevirtual 201, 3) := by decide +kernel
theorem d_Model_ofClass_99 : decode jc_Model_ofClass 99 = .ok (.ireturn, 1) := by decide +kernel
theorem d_Model_ofClass_100 : decode jc_Model_ofClass 100 = .ok (.aload_n 0, 1) := by decide +kernel
theorem d_Model_ofClass_101 : decode jc_Model_ofClass 101 = .ok (.iload_n 1, 1) := by decide +kernel
theorem d_Model_ofClass_102 : decode jc_Model_ofClass 102 = .ok (.iload_n 2, 1) := by decide +kernel
theorem d_Model_ofClass_103 : decode jc_Model_ofClass 103 = .ok (.invokevirtual 205, 3) := by decide +kernel
theorem d_Model_ofClass_106 : decode jc_Model_ofClass 106 = .ok (.ireturn, 1) := by decide +kernel
theorem d_Model_ofClass_107 : decode jc_Model_ofClass 107 = .ok (.aload_n 0, 1) := by decide +kernel
theorem d_Model_ofClass_108 : decode jc_Model_ofClass 108 = .ok (.iload_n 1, 1) := by decide +kernel
theorem d_Model_ofClass_109 : decode jc_Model_ofClass 109 = .ok (.iload_n 2, 1) := by decide +kernel
theorem d_Model_ofClass_110 : decode jc_Model_ofClass 110 = .ok (.invokevirtual 198, 3) := by decide +kernel
theorem d_Model_ofClass_113 : decode jc_Model_ofClass 113 = .ok (.ireturn, 1) := by decide +kernel
theorem d_Model_ofClass_114 : decode jc_Model_ofClass 114 = .ok (.aload_n 0, 1) := by decide +kernel
theorem d_Model_ofClass_115 : decode jc_Model_ofClass 115 = .ok (.iload_n 1, 1) := by decide +kernel
theorem d_Model_ofClass_116 : decode jc_Model_ofClass 116 = .ok (.iload_n 2, 1) := by decide +kernel
theorem d_Model_ofClass_117 : decode jc_Model_ofClass 117 = .ok (.invokevirtual 208, 3) := by decide +kernel
theorem d_Model_ofClass_120 : decode jc_Model_ofClass 120 = .ok (.invokestatic 159, 3) := by decide +kernel
theorem d_Model_ofClass_123 : decode jc_Model_ofClass 123 = .ok (.ireturn, 1) := by decide +kernel
theorem d_Model_ofClass_124 : decode jc_Model_ofClass 124 = .ok (.aload_n 0, 1) := by decide +kernel
theorem d_Model_ofClass_125 : decode jc_Model_ofClass 125 = .ok (.iload_n 1, 1) := by decide +kernel
theorem d_Model_ofClass_126 : decode jc_Model_ofClass 126 = .ok (.iload_n 2, 1) := by decide +kernel
theorem d_Model_ofClass_127 : decode jc_Model_ofClass 127 = .ok (.invokevirtual 208, 3) := by decide +kernel
theorem d_Model_ofClass_130 : decode jc_Model_ofClass 130 = .ok (.ireturn, 1) := by decide +kernel
theorem d_Model_partBy_0 : decode jc_Model_partBy 0 = .ok (.aload_n 0, 1) := by decide +kernel
theorem d_Model_partBy_1 : decode jc_Model_partBy 1 = .ok (.aload_n 0, 1) := by decide +kernel
theorem d_Model_partBy_2 : decode jc_Model_partBy 2 = .ok (.getfield 31, 3) := by decide +kernel
theorem d_Model_partBy_5 : decode jc_Model_partBy 5 = .ok (.iload_n 1, 1) := by decide +kernel
theorem d_Model_partBy_6 : decode jc_Model_partBy 6 = .ok (.iaload, 1) := by decide +kernel
theorem d_Model_partBy_7 : decode jc_Model_partBy 7 = .ok (.invokevirtual 189, 3) := by decide +kernel
theorem d_Model_partBy_10 : decode jc_Model_partBy 10 = .ok (.istore_n 3, 1) := by decide +kernel
theorem d_Model_partBy_11 : decode jc_Model_partBy 11 = .ok (.iconst 0, 1) := by decide +kernel
theorem d_Model_partBy_12 : decode jc_Model_partBy 12 = .ok (.istore 4, 2) := by decide +kernel
theorem d_Model_partBy_14 : decode jc_Model_partBy 14 = .ok (.aload_n 0, 1) := by decide +kernel
theorem d_Model_partBy_15 : decode jc_Model_partBy 15 = .ok (.getfield 37, 3) := by decide +kernel
theorem d_Model_partBy_18 : decode jc_Model_partBy 18 = .ok (.bipush 12, 2) := by decide +kernel
theorem d_Model_partBy_20 : decode jc_Model_partBy 20 = .ok (.iload 4, 2) := by decide +kernel
theorem d_Model_partBy_22 : decode jc_Model_partBy 22 = .ok (.imul, 1) := by decide +kernel
theorem d_Model_partBy_23 : decode jc_Model_partBy 23 = .ok (.iload_n 3, 1) := by decide +kernel
theorem d_Model_partBy_24 : decode jc_Model_partBy 24 = .ok (.iadd, 1) := by decide +kernel
theorem d_Model_partBy_25 : decode jc_Model_partBy 25 = .ok (.iaload, 1) := by decide +kernel
theorem d_Model_partBy_26 : decode jc_Model_partBy 26 = .ok (.iload_n 1, 1) := by decide +kernel
theorem d_Model_partBy_27 : decode jc_Model_partBy 27 = .ok (.ishr, 1) := by decide +kernel
theorem d_Model_partBy_28 : decode jc_Model_partBy 28 = .ok (.iconst 1, 1) := by decide +kernel
theorem d_Model_partBy_29 : decode jc_Model_partBy 29 = .ok (.iand, 1) := by decide +kernel
theorem d_Model_partBy_30 : decode jc_Model_partBy 30 = .ok (.ifCond .ne 9, 3) := by decide +kernel
theorem d_Model_partBy_33 : decode jc_Model_partBy 33 = .ok (.iinc 4 1, 3) := by decide +kernel
theorem d_Model_partBy_36 : decode jc_Model_partBy 36 = .ok (.goto (-22), 3) := by decide +kernel
theorem d_Model_partBy_39 : decode jc_Model_partBy 39 = .ok (.iload 4, 2) := by decide +kernel
theorem d_Model_partBy_41 : decode jc_Model_partBy 41 = .ok (.iload_n 2, 1) := by decide +kernel
theorem d_Model_partBy_42 : decode jc_Model_partBy 42 = .ok (.irem, 1) := by decide +kernel
theorem d_Model_partBy_43 : decode jc_Model_partBy 43 = .ok (.ireturn, 1) := by decide +kernel
theorem d_Model_part_0 : decode jc_Model_part 0 = .ok (.aload_n 0, 1) := by decide +kernel
theorem d_Model_part_1 : decode jc_Model_part 1 = .ok (.iload_n 1, 1) := by decide +kernel
theorem d_Model_part_2 : decode jc_Model_part 2 = .ok (.invokevirtual 117, 3) := by decide +kernel
theorem d_Model_part_5 : decode jc_Model_part 5 = .ok (.ifCond .eq 12, 3) := by decide +kernel
theorem d_Model_part_8 : decode jc_Model_part 8 = .ok (.aload_n 0, 1) := by decide +kernel
theorem d_Model_part_9 : decode jc_Model_part 9 = .ok (.iload_n 1, 1) := by decide +kernel
theorem d_Model_part_10 : decode jc_Model_part 10 = .ok (.iload_n 2, 1) := by decide +kernel
theorem d_Model_part_11 : decode jc_Model_part 11 = .ok (.invokevirtual 120, 3) := by decide +kernel
theorem d_Model_part_14 : decode jc_Model_part 14 = .ok (.ifCond .ne 5, 3) := by decide +kernel
theorem d_Model_part_17 : decode jc_Model_part 17 = .ok (.iconst (-1), 1) := by decide +kernel
theorem d_Model_part_18 : decode jc_Model_part 18 = .ok (.ireturn, 1) := by decide +kernel
theorem d_Model_part_19 : decode jc_Model_part 19 = .ok (.aload_n 0, 1) := by decide +kernel
theorem d_Model_part_20 : decode jc_Model_part 20 = .ok (.iload_n 1, 1) := by decide +kernel
theorem d_Model_part_21 : decode jc_Model_part 21 = .ok (.invokevirtual 192, 3) := by decide +kernel
theorem d_Model_part_24 : decode jc_Model_part 24 = .ok (.aload_n 0, 1) := by decide +kernel
theorem d_Model_part_25 : decode jc_Model_part 25 = .ok (.iload_n 1, 1) := by decide +kernel
theorem d_Model_part_26 : decode jc_Model_part 26 = .ok (.aload_n 0, 1) := by decide +kernel
theorem d_Model_part_27 : decode jc_Model_part 27 = .ok (.getfield 31, 3) := by decide +kernel
theorem d_Model_part_30 : decode jc_Model_part 30 = .ok (.iload_n 2, 1) := by decide +kernel
theorem d_Model_part_31 : decode jc_Model_part 31 = .ok (.iaload, 1) := by decide +kernel
theorem d_Model_part_32 : decode jc_Model_part 32 = .ok (.iconst 0, 1) := by decide +kernel
theorem d_Model_part_33 : decode jc_Model_part 33 = .ok (.invokevirtual 201, 3) := by decide +kernel
theorem d_Model_part_36 : decode jc_Model_part 36 = .ok (.istore_n 3, 1) := by decide +kernel
theorem d_Model_part_37 : decode jc_Model_part 37 = .ok (.iload_n 3, 1) := by decide +kernel
theorem d_Model_part_38 : decode jc_Model_part 38 = .ok (.ifCond .ne 8, 3) := by decide +kernel
theorem d_Model_part_41 : decode jc_Model_part 41 = .ok (.bipush (-15), 2) := by decide +kernel
theorem d_Model_part_43 : decode jc_Model_part 43 = .ok (.goto 9, 3) := by decide +kernel
theorem d_Model_part_46 : decode jc_Model_part 46 = .ok (.aload_n 0, 1) := by decide +kernel
theorem d_Model_part_47 : decode jc_Model_part 47 = .ok (.iload_n 2, 1) := by decide +kernel
theorem d_Model_part_48 : decode jc_Model_part 48 = .ok (.iload_n 3, 1) := by decide +kernel
theorem d_Model_part_49 : decode jc_Model_part 49 = .ok (.invokevirtual 211, 3) := by decide +kernel
theorem d_Model_part_52 : decode jc_Model_part 52 = .ok (.ireturn, 1) := by decide +kernel
theorem d_Model_parts_0 : decode jc_Model_parts 0 = .ok (.aload_n 0, 1) := by decide +kernel
theorem d_Model_parts_1 : decode jc_Model_parts 1 = .ok (.iload_n 1, 1) := by decide +kernel
theorem d_Model_parts_2 : decode jc_Model_parts 2 = .ok (.iload_n 2, 1) := by decide +kernel
theorem d_Model_parts_3 : decode jc_Model_parts 3 = .ok (.invokevirtual 195, 3) := by decide +kernel
theorem d_Model_parts_6 : decode jc_Model_parts 6 = .ok (.ifCond .ne 5, 3) := by decide +kernel
theorem d_Model_parts_9 : decode jc_Model_parts 9 = .ok (.iconst (-1), 1) := by decide +kernel
theorem d_Model_parts_10 : decode jc_Model_parts 10 = .ok (.ireturn, 1) := by decide +kernel
theorem d_Model_parts_11 : decode jc_Model_parts 11 = .ok (.aload_n 0, 1) := by decide +kernel
theorem d_Model_parts_12 : decode jc_Model_parts 12 = .ok (.iload_n 1, 1) := by decide +kernel
theorem d_Model_parts_13 : decode jc_Model_parts 13 = .ok (.iload_n 2, 1) := by decide +kernel
theorem d_Model_parts_14 : decode jc_Model_parts 14 = .ok (.iconst 0, 1) := by decide +kernel
theorem d_Model_parts_15 : decode jc_Model_parts 15 = .ok (.invokevirtual 201, 3) := by decide +kernel
theorem d_Model_parts_18 : decode jc_Model_parts 18 = .ok (.istore 4, 2) := by decide +kernel
theorem d_Model_parts_20 : decode jc_Model_parts 20 = .ok (.iload 4, 2) := by decide +kernel
theorem d_Model_parts_22 : decode jc_Model_parts 22 = .ok (.ifCond .ne 6, 3) := by decide +kernel
theorem d_Model_parts_25 : decode jc_Model_parts 25 = .ok (.bipush (-15), 2) := by decide +kernel
theorem d_Model_parts_27 : decode jc_Model_parts 27 = .ok (.ireturn, 1) := by decide +kernel
theorem d_Model_parts_28 : decode jc_Model_parts 28 = .ok (.iload_n 3, 1) := by decide +kernel
theorem d_Model_parts_29 : decode jc_Model_parts 29 = .ok (.i2l, 1) := by decide +kernel
theorem d_Model_parts_30 : decode jc_Model_parts 30 = .ok (.lconst 0, 1) := by decide +kernel
theorem d_Model_parts_31 : decode jc_Model_parts 31 = .ok (.iload 4, 2) := by decide +kernel
theorem d_Model_parts_33 : decode jc_Model_parts 33 = .ok (.iconst 1, 1) := by decide +kernel
theorem d_Model_parts_34 : decode jc_Model_parts 34 = .ok (.isub, 1) := by decide +kernel
theorem d_Model_parts_35 : decode jc_Model_parts 35 = .ok (.i2l, 1) := by decide +kernel
theorem d_Model_parts_36 : decode jc_Model_parts 36 = .ok (.invokestatic 107, 3) := by decide +kernel
theorem d_Model_parts_39 : decode jc_Model_parts 39 = .ok (.ifCond .ne 5, 3) := by decide +kernel
theorem d_Model_parts_42 : decode jc_Model_parts 42 = .ok (.iconst (-1), 1) := by decide +kernel
theorem d_Model_parts_43 : decode jc_Model_parts 43 = .ok (.ireturn, 1) := by decide +kernel
theorem d_Model_parts_44 : decode jc_Model_parts 44 = .ok (.iconst 0, 1) := by decide +kernel
theorem d_Model_parts_45 : decode jc_Model_parts 45 = .ok (.istore 5, 2) := by decide +kernel
theorem d_Model_parts_47 : decode jc_Model_parts 47 = .ok (.iconst 0, 1) := by decide +kernel
theorem d_Model_parts_48 : decode jc_Model_parts 48 = .ok (.istore 6, 2) := by decide +kernel
theorem d_Model_parts_50 : decode jc_Model_parts 50 = .ok (.iload 6, 2) := by decide +kernel
theorem d_Model_parts_52 : decode jc_Model_parts 52 = .ok (.aload_n 0, 1) := by decide +kernel
theorem d_Model_parts_53 : decode jc_Model_parts 53 = .ok (.getfield 13, 3) := by decide +kernel
theorem d_Model_parts_56 : decode jc_Model_parts 56 = .ok (.iload_n 1, 1) := by decide +kernel
theorem d_Model_parts_57 : decode jc_Model_parts 57 = .ok (.iaload, 1) := by decide +kernel
theorem d_Model_parts_58 : decode jc_Model_parts 58 = .ok (.if_icmp .ge 45, 3) := by decide +kernel
theorem d_Model_parts_61 : decode jc_Model_parts 61 = .ok (.iload 5, 2) := by decide +kernel
theorem d_Model_parts_63 : decode jc_Model_parts 63 = .ok (.aload_n 0, 1) := by decide +kernel
theorem d_Model_parts_64 : decode jc_Model_parts 64 = .ok (.getfield 31, 3) := by decide +kernel
theorem d_Model_parts_67 : decode jc_Model_parts 67 = .ok (.iload 6, 2) := by decide +kernel
theorem d_Model_parts_69 : decode jc_Model_parts 69 = .ok (.iaload, 1) := by decide +kernel
theorem d_Model_parts_70 : decode jc_Model_parts 70 = .ok (.iload_n 2, 1) := by decide +kernel
theorem d_Model_parts_71 : decode jc_Model_parts 71 = .ok (.if_icmp .ne 22, 3) := by decide +kernel
theorem d_Model_parts_74 : decode jc_Model_parts 74 = .ok (.aload_n 0, 1) := by decide +kernel
theorem d_Model_parts_75 : decode jc_Model_parts 75 = .ok (.iload 6, 2) := by decide +kernel
theorem d_Model_parts_77 : decode jc_Model_parts 77 = .ok (.iload 4, 2) := by decide +kernel
theorem d_Model_parts_79 : decode jc_Model_parts 79 = .ok (.invokevirtual 211, 3) := by decide +kernel
theorem d_Model_parts_82 : decode jc_Model_parts 82 = .ok (.iload_n 3, 1) := by decide +kernel
theorem d_Model_parts_83 : decode jc_Model_parts 83 = .ok (.if_icmp .ne 10, 3) := by decide +kernel
theorem d_Model_parts_86 : decode jc_Model_parts 86 = .ok (.iconst 1, 1) := by decide +kernel
theorem d_Model_parts_87 : decode jc_Model_parts 87 = .ok (.iload 6, 2) := by decide +kernel
theorem d_Model_parts_89 : decode jc_Model_parts 89 = .ok (.ishl, 1) := by decide +kernel
theorem d_Model_parts_90 : decode jc_Model_parts 90 = .ok (.goto 4, 3) := by decide +kernel
theorem d_Model_parts_93 : decode jc_Model_parts 93 = .ok (.iconst 0, 1) := by decide +kernel
theorem d_Model_parts_94 : decode jc_Model_parts 94 = .ok (.ior, 1) := by decide +kernel
theorem d_Model_parts_95 : decode jc_Model_parts 95 = .ok (.istore 5, 2) := by decide +kernel
theorem d_Model_parts_97 : decode jc_Model_parts 97 = .ok (.iinc 6 1, 3) := by decide +kernel
theorem d_Model_parts_100 : decode jc_Model_parts 100 = .ok (.goto (-50), 3) := by decide +kernel
theorem d_Model_parts_103 : decode jc_Model_parts 103 = .ok (.iload 5, 2) := by decide +kernel
theorem d_Model_parts_105 : decode jc_Model_parts 105 = .ok (.ireturn, 1) := by decide +kernel
theorem d_Model_rest_0 : decode jc_Model_rest 0 = .ok (.aload_n 0, 1) := by decide +kernel
theorem d_Model_rest_1 : decode jc_Model_rest 1 = .ok (.iload_n 1, 1) := by decide +kernel
theorem d_Model_rest_2 : decode jc_Model_rest 2 = .ok (.iload_n 2, 1) := by decide +kernel
theorem d_Model_rest_3 : decode jc_Model_rest 3 = .ok (.invokevirtual 195, 3) := by decide +kernel
theorem d_Model_rest_6 : decode jc_Model_rest 6 = .ok (.ifCond .ne 5, 3) := by decide +kernel
theorem d_Model_rest_9 : decode jc_Model_rest 9 = .ok (.iconst (-1), 1) := by decide +kernel
theorem d_Model_rest_10 : decode jc_Model_rest 10 = .ok (.ireturn, 1) := by decide +kernel
theorem d_Model_rest_11 : decode jc_Model_rest 11 = .ok (.aload_n 0, 1) := by decide +kernel
theorem d_Model_rest_12 : decode jc_Model_rest 12 = .ok (.iload_n 1, 1) := by decide +kernel
theorem d_Model_rest_13 : decode jc_Model_rest 13 = .ok (.iload_n 2, 1) := by decide +kernel
theorem d_Model_rest_14 : decode jc_Model_rest 14 = .ok (.iconst 0, 1) := by decide +kernel
theorem d_Model_rest_15 : decode jc_Model_rest 15 = .ok (.invokevirtual 201, 3) := by decide +kernel
theorem d_Model_rest_18 : decode jc_Model_rest 18 = .ok (.istore 4, 2) := by decide +kernel
theorem d_Model_rest_20 : decode jc_Model_rest 20 = .ok (.iload 4, 2) := by decide +kernel
theorem d_Model_rest_22 : decode jc_Model_rest 22 = .ok (.ifCond .ne 6, 3) := by decide +kernel
theorem d_Model_rest_25 : decode jc_Model_rest 25 = .ok (.bipush (-15), 2) := by decide +kernel
theorem d_Model_rest_27 : decode jc_Model_rest 27 = .ok (.ireturn, 1) := by decide +kernel
theorem d_Model_rest_28 : decode jc_Model_rest 28 = .ok (.iload_n 3, 1) := by decide +kernel
theorem d_Model_rest_29 : decode jc_Model_rest 29 = .ok (.iload 4, 2) := by decide +kernel
theorem d_Model_rest_31 : decode jc_Model_rest 31 = .ok (.irem, 1) := by decide +kernel
theorem d_Model_rest_32 : decode jc_Model_rest 32 = .ok (.istore 5, 2) := by decide +kernel
theorem d_Model_rest_34 : decode jc_Model_rest 34 = .ok (.iload 5, 2) := by decide +kernel
theorem d_Model_rest_36 : decode jc_Model_rest 36 = .ok (.ifCond .ge 11, 3) := by decide +kernel
theorem d_Model_rest_39 : decode jc_Model_rest 39 = .ok (.iload 5, 2) := by decide +kernel
theorem d_Model_rest_41 : decode jc_Model_rest 41 = .ok (.iload 4, 2) := by decide +kernel
theorem d_Model_rest_43 : decode jc_Model_rest 43 = .ok (.iadd, 1) := by decide +kernel
theorem d_Model_rest_44 : decode jc_Model_rest 44 = .ok (.goto 5, 3) := by decide +kernel
theorem d_Model_rest_47 : decode jc_Model_rest 47 = .ok (.iload 5, 2) := by decide +kernel
theorem d_Model_rest_49 : decode jc_Model_rest 49 = .ok (.ireturn, 1) := by decide +kernel
theorem d_Model_bound_0 : decode jc_Model_bound 0 = .ok (.aload_n 0, 1) := by decide +kernel
theorem d_Model_bound_1 : decode jc_Model_bound 1 = .ok (.iload_n 1, 1) := by decide +kernel
theorem d_Model_bound_2 : decode jc_Model_bound 2 = .ok (.invokevirtual 117, 3) := by decide +kernel
theorem d_Model_bound_5 : decode jc_Model_bound 5 = .ok (.ifCond .eq 15, 3) := by decide +kernel
theorem d_Model_bound_8 : decode jc_Model_bound 8 = .ok (.iload_n 2, 1) := by decide +kernel
theorem d_Model_bound_9 : decode jc_Model_bound 9 = .ok (.i2l, 1) := by decide +kernel
theorem d_Model_bound_10 : decode jc_Model_bound 10 = .ok (.lconst 0, 1) := by decide +kernel
theorem d_Model_bound_11 : decode jc_Model_bound 11 = .ok (.ldc2_w 214, 3) := by decide +kernel
theorem d_Model_bound_14 : decode jc_Model_bound 14 = .ok (.invokestatic 107, 3) := by decide +kernel
theorem d_Model_bound_17 : decode jc_Model_bound 17 = .ok (.ifCond .ne 5, 3) := by decide +kernel
theorem d_Model_bound_20 : decode jc_Model_bound 20 = .ok (.iconst (-1), 1) := by decide +kernel
theorem d_Model_bound_21 : decode jc_Model_bound 21 = .ok (.ireturn, 1) := by decide +kernel
theorem d_Model_bound_22 : decode jc_Model_bound 22 = .ok (.aload_n 0, 1) := by decide +kernel
theorem d_Model_bound_23 : decode jc_Model_bound 23 = .ok (.getfield 13, 3) := by decide +kernel
theorem d_Model_bound_26 : decode jc_Model_bound 26 = .ok (.iload_n 1, 1) := by decide +kernel
theorem d_Model_bound_27 : decode jc_Model_bound 27 = .ok (.iaload, 1) := by decide +kernel
theorem d_Model_bound_28 : decode jc_Model_bound 28 = .ok (.istore_n 3, 1) := by decide +kernel
theorem d_Model_bound_29 : decode jc_Model_bound 29 = .ok (.aload_n 0, 1) := by decide +kernel
theorem d_Model_bound_30 : decode jc_Model_bound 30 = .ok (.iload_n 1, 1) := by decide +kernel
theorem d_Model_bound_31 : decode jc_Model_bound 31 = .ok (.invokevirtual 164, 3) := by decide +kernel
theorem d_Model_bound_34 : decode jc_Model_bound 34 = .ok (.aload_n 0, 1) := by decide +kernel
theorem d_Model_bound_35 : decode jc_Model_bound 35 = .ok (.iload_n 3, 1) := by decide +kernel
theorem d_Model_bound_36 : decode jc_Model_bound 36 = .ok (.invokevirtual 171, 3) := by decide +kernel
theorem d_Model_bound_39 : decode jc_Model_bound 39 = .ok (.ifCond .ne 6, 3) := by decide +kernel
theorem d_Model_bound_42 : decode jc_Model_bound 42 = .ok (.bipush (-2), 2) := by decide +kernel
theorem d_Model_bound_44 : decode jc_Model_bound 44 = .ok (.ireturn, 1) := by decide +kernel
theorem d_Model_bound_45 : decode jc_Model_bound 45 = .ok (.aload_n 0, 1) := by decide +kernel
theorem d_Model_bound_46 : decode jc_Model_bound 46 = .ok (.iload_n 1, 1) := by decide +kernel
theorem d_Model_bound_47 : decode jc_Model_bound 47 = .ok (.invokevirtual 192, 3) := by decide +kernel
theorem d_Model_bound_50 : decode jc_Model_bound 50 = .ok (.iconst 0, 1) := by decide +kernel
theorem d_Model_bound_51 : decode jc_Model_bound 51 = .ok (.istore 4, 2) := by decide +kernel
theorem d_Model_bound_53 : decode jc_Model_bound 53 = .ok (.iconst 0, 1) := by decide +kernel
theorem d_Model_bound_54 : decode jc_Model_bound 54 = .ok (.istore 5, 2) := by decide +kernel
theorem d_Model_bound_56 : decode jc_Model_bound 56 = .ok (.iload 5, 2) := by decide +kernel
theorem d_Model_bound_58 : decode jc_Model_bound 58 = .ok (.iload_n 3, 1) := by decide +kernel
theorem d_Model_bound_59 : decode jc_Model_bound 59 = .ok (.if_icmp .ge 31, 3) := by decide +kernel
theorem d_Model_bound_62 : decode jc_Model_bound 62 = .ok (.iload 4, 2) := by decide +kernel
theorem d_Model_bound_64 : decode jc_Model_bound 64 = .ok (.aload_n 0, 1) := by decide +kernel
theorem d_Model_bound_65 : decode jc_Model_bound 65 = .ok (.iload_n 1, 1) := by decide +kernel
theorem d_Model_bound_66 : decode jc_Model_bound 66 = .ok (.iload 5, 2) := by decide +kernel
theorem d_Model_bound_68 : decode jc_Model_bound 68 = .ok (.iload 5, 2) := by decide +kernel
theorem d_Model_bound_70 : decode jc_Model_bound 70 = .ok (.invokevirtual 67, 3) := by decide +kernel
theorem d_Model_bound_73 : decode jc_Model_bound 73 = .ok (.ifCond .eq 7, 3) := by decide +kernel
theorem d_Model_bound_76 : decode jc_Model_bound 76 = .ok (.iconst 1, 1) := by decide +kernel
theorem d_Model_bound_77 : decode jc_Model_bound 77 = .ok (.goto 4, 3) := by decide +kernel
theorem d_Model_bound_80 : decode jc_Model_bound 80 = .ok (.iconst 0, 1) := by decide +kernel
theorem d_Model_bound_81 : decode jc_Model_bound 81 = .ok (.iadd, 1) := by decide +kernel
theorem d_Model_bound_82 : decode jc_Model_bound 82 = .ok (.istore 4, 2) := by decide +kernel
theorem d_Model_bound_84 : decode jc_Model_bound 84 = .ok (.iinc 5 1, 3) := by decide +kernel
theorem d_Model_bound_87 : decode jc_Model_bound 87 = .ok (.goto (-31), 3) := by decide +kernel
theorem d_Model_bound_90 : decode jc_Model_bound 90 = .ok (.iload_n 2, 1) := by decide +kernel
theorem d_Model_bound_91 : decode jc_Model_bound 91 = .ok (.tableswitch 66 0 2 #[25, 35, 47], 25) := by decide +kernel
theorem d_Model_bound_116 : decode jc_Model_bound 116 = .ok (.iload_n 3, 1) := by decide +kernel
theorem d_Model_bound_117 : decode jc_Model_bound 117 = .ok (.iconst 1, 1) := by decide +kernel
theorem d_Model_bound_118 : decode jc_Model_bound 118 = .ok (.isub, 1) := by decide +kernel
theorem d_Model_bound_119 : decode jc_Model_bound 119 = .ok (.iload_n 3, 1) := by decide +kernel
theorem d_Model_bound_120 : decode jc_Model_bound 120 = .ok (.iconst 1, 1) := by decide +kernel
theorem d_Model_bound_121 : decode jc_Model_bound 121 = .ok (.isub, 1) := by decide +kernel
theorem d_Model_bound_122 : decode jc_Model_bound 122 = .ok (.imul, 1) := by decide +kernel
theorem d_Model_bound_123 : decode jc_Model_bound 123 = .ok (.iconst 1, 1) := by decide +kernel
theorem d_Model_bound_124 : decode jc_Model_bound 124 = .ok (.iadd, 1) := by decide +kernel
theorem d_Model_bound_125 : decode jc_Model_bound 125 = .ok (.ireturn, 1) := by decide +kernel
theorem d_Model_bound_126 : decode jc_Model_bound 126 = .ok (.iload_n 3, 1) := by decide +kernel
theorem d_Model_bound_127 : decode jc_Model_bound 127 = .ok (.aload_n 0, 1) := by decide +kernel
theorem d_Model_bound_128 : decode jc_Model_bound 128 = .ok (.iload_n 1, 1) := by decide +kernel
theorem d_Model_bound_129 : decode jc_Model_bound 129 = .ok (.invokevirtual 216, 3) := by decide +kernel
theorem d_Model_bound_132 : decode jc_Model_bound 132 = .ok (.iload_n 3, 1) := by decide +kernel
theorem d_Model_bound_133 : decode jc_Model_bound 133 = .ok (.iconst 2, 1) := by decide +kernel
theorem d_Model_bound_134 : decode jc_Model_bound 134 = .ok (.isub, 1) := by decide +kernel
theorem d_Model_bound_135 : decode jc_Model_bound 135 = .ok (.imul, 1) := by decide +kernel
theorem d_Model_bound_136 : decode jc_Model_bound 136 = .ok (.iadd, 1) := by decide +kernel
theorem d_Model_bound_137 : decode jc_Model_bound 137 = .ok (.ireturn, 1) := by decide +kernel
theorem d_Model_bound_138 : decode jc_Model_bound 138 = .ok (.iload 4, 2) := by decide +kernel
theorem d_Model_bound_140 : decode jc_Model_bound 140 = .ok (.ifCond .ne 8, 3) := by decide +kernel
theorem d_Model_bound_143 : decode jc_Model_bound 143 = .ok (.bipush (-2), 2) := by decide +kernel
theorem d_Model_bound_145 : decode jc_Model_bound 145 = .ok (.goto 11, 3) := by decide +kernel
theorem d_Model_bound_148 : decode jc_Model_bound 148 = .ok (.iconst 2, 1) := by decide +kernel
theorem d_Model_bound_149 : decode jc_Model_bound 149 = .ok (.iload_n 3, 1) := by decide +kernel
theorem d_Model_bound_150 : decode jc_Model_bound 150 = .ok (.imul, 1) := by decide +kernel
theorem d_Model_bound_151 : decode jc_Model_bound 151 = .ok (.iload 4, 2) := by decide +kernel
theorem d_Model_bound_153 : decode jc_Model_bound 153 = .ok (.isub, 1) := by decide +kernel
theorem d_Model_bound_154 : decode jc_Model_bound 154 = .ok (.iconst 1, 1) := by decide +kernel
theorem d_Model_bound_155 : decode jc_Model_bound 155 = .ok (.isub, 1) := by decide +kernel
theorem d_Model_bound_156 : decode jc_Model_bound 156 = .ok (.ireturn, 1) := by decide +kernel
theorem d_Model_bound_157 : decode jc_Model_bound 157 = .ok (.aload_n 0, 1) := by decide +kernel
theorem d_Model_bound_158 : decode jc_Model_bound 158 = .ok (.iload_n 1, 1) := by decide +kernel
theorem d_Model_bound_159 : decode jc_Model_bound 159 = .ok (.invokevirtual 177, 3) := by decide +kernel
theorem d_Model_bound_162 : decode jc_Model_bound 162 = .ok (.ifCond .ne 8, 3) := by decide +kernel
theorem d_Model_bound_165 : decode jc_Model_bound 165 = .ok (.bipush (-2), 2) := by decide +kernel
theorem d_Model_bound_167 : decode jc_Model_bound 167 = .ok (.goto 17, 3) := by decide +kernel
theorem d_Model_bound_170 : decode jc_Model_bound 170 = .ok (.iload_n 3, 1) := by decide +kernel
theorem d_Model_bound_171 : decode jc_Model_bound 171 = .ok (.iconst 1, 1) := by decide +kernel
theorem d_Model_bound_172 : decode jc_Model_bound 172 = .ok (.if_icmp .ne 7, 3) := by decide +kernel
theorem d_Model_bound_175 : decode jc_Model_bound 175 = .ok (.iconst 1, 1) := by decide +kernel
theorem d_Model_bound_176 : decode jc_Model_bound 176 = .ok (.goto 8, 3) := by decide +kernel
theorem d_Model_bound_179 : decode jc_Model_bound 179 = .ok (.iconst 2, 1) := by decide +kernel
theorem d_Model_bound_180 : decode jc_Model_bound 180 = .ok (.iload_n 3, 1) := by decide +kernel
theorem d_Model_bound_181 : decode jc_Model_bound 181 = .ok (.imul, 1) := by decide +kernel
theorem d_Model_bound_182 : decode jc_Model_bound 182 = .ok (.iconst 2, 1) := by decide +kernel
theorem d_Model_bound_183 : decode jc_Model_bound 183 = .ok (.isub, 1) := by decide +kernel
theorem d_Model_bound_184 : decode jc_Model_bound 184 = .ok (.ireturn, 1) := by decide +kernel
theorem d_Model_leastGirth_0 : decode jc_Model_leastGirth 0 = .ok (.iconst 0, 1) := by decide +kernel
theorem d_Model_leastGirth_1 : decode jc_Model_leastGirth 1 = .ok (.istore_n 2, 1) := by decide +kernel
theorem d_Model_leastGirth_2 : decode jc_Model_leastGirth 2 = .ok (.iconst 0, 1) := by decide +kernel
theorem d_Model_leastGirth_3 : decode jc_Model_leastGirth 3 = .ok (.istore_n 3, 1) := by decide +kernel
theorem d_Model_leastGirth_4 : decode jc_Model_leastGirth 4 = .ok (.iload_n 3, 1) := by decide +kernel
theorem d_Model_leastGirth_5 : decode jc_Model_leastGirth 5 = .ok (.aload_n 0, 1) := by decide +kernel
theorem d_Model_leastGirth_6 : decode jc_Model_leastGirth 6 = .ok (.getfield 183, 3) := by decide +kernel
theorem d_Model_leastGirth_9 : decode jc_Model_leastGirth 9 = .ok (.if_icmp .ge 40, 3) := by decide +kernel
theorem d_Model_leastGirth_12 : decode jc_Model_leastGirth 12 = .ok (.aload_n 0, 1) := by decide +kernel
theorem d_Model_leastGirth_13 : decode jc_Model_leastGirth 13 = .ok (.iload_n 1, 1) := by decide +kernel
theorem d_Model_leastGirth_14 : decode jc_Model_leastGirth 14 = .ok (.iload_n 3, 1) := by decide +kernel
theorem d_Model_leastGirth_15 : decode jc_Model_leastGirth 15 = .ok (.iconst 1, 1) := by decide +kernel
theorem d_Model_leastGirth_16 : decode jc_Model_leastGirth 16 = .ok (.invokevirtual 201, 3) := by decide +kernel
theorem d_Model_leastGirth_19 : decode jc_Model_leastGirth 19 = .ok (.istore 4, 2) := by decide +kernel
theorem d_Model_leastGirth_21 : decode jc_Model_leastGirth 21 = .ok (.iload 4, 2) := by decide +kernel
theorem d_Model_leastGirth_23 : decode jc_Model_leastGirth 23 = .ok (.ifCond .le 18, 3) := by decide +kernel
theorem d_Model_leastGirth_26 : decode jc_Model_leastGirth 26 = .ok (.iload_n 2, 1) := by decide +kernel
theorem d_Model_leastGirth_27 : decode jc_Model_leastGirth 27 = .ok (.ifCond .eq 9, 3) := by decide +kernel
theorem d_Model_leastGirth_30 : decode jc_Model_leastGirth 30 = .ok (.iload 4, 2) := by decide +kernel
theorem d_Model_leastGirth_32 : decode jc_Model_leastGirth 32 = .ok (.iload_n 2, 1) := by decide +kernel
theorem d_Model_leastGirth_33 : decode jc_Model_leastGirth 33 = .ok (.if_icmp .ge 8, 3) := by decide +kernel
theorem d_Model_leastGirth_36 : decode jc_Model_leastGirth 36 = .ok (.iload 4, 2) := by decide +kernel
theorem d_Model_leastGirth_38 : decode jc_Model_leastGirth 38 = .ok (.goto 4, 3) := by decide +kernel
theorem d_Model_leastGirth_41 : decode jc_Model_leastGirth 41 = .ok (.iload_n 2, 1) := by decide +kernel
theorem d_Model_leastGirth_42 : decode jc_Model_leastGirth 42 = .ok (.istore_n 2, 1) := by decide +kernel
theorem d_Model_leastGirth_43 : decode jc_Model_leastGirth 43 = .ok (.iinc 3 1, 3) := by decide +kernel
theorem d_Model_leastGirth_46 : decode jc_Model_leastGirth 46 = .ok (.goto (-42), 3) := by decide +kernel
theorem d_Model_leastGirth_49 : decode jc_Model_leastGirth 49 = .ok (.iload_n 2, 1) := by decide +kernel
theorem d_Model_leastGirth_50 : decode jc_Model_leastGirth 50 = .ok (.ireturn, 1) := by decide +kernel
theorem d_Model_layUnions_0 : decode jc_Model_layUnions 0 = .ok (.aload_n 0, 1) := by decide +kernel
theorem d_Model_layUnions_1 : decode jc_Model_layUnions 1 = .ok (.getfield 13, 3) := by decide +kernel
theorem d_Model_layUnions_4 : decode jc_Model_layUnions 4 = .ok (.iload_n 1, 1) := by decide +kernel
theorem d_Model_layUnions_5 : decode jc_Model_layUnions 5 = .ok (.iaload, 1) := by decide +kernel
theorem d_Model_layUnions_6 : decode jc_Model_layUnions 6 = .ok (.istore_n 2, 1) := by decide +kernel
theorem d_Model_layUnions_7 : decode jc_Model_layUnions 7 = .ok (.iconst 0, 1) := by decide +kernel
theorem d_Model_layUnions_8 : decode jc_Model_layUnions 8 = .ok (.istore_n 3, 1) := by decide +kernel
theorem d_Model_layUnions_9 : decode jc_Model_layUnions 9 = .ok (.iload_n 3, 1) := by decide +kernel
theorem d_Model_layUnions_10 : decode jc_Model_layUnions 10 = .ok (.sipush 4096, 3) := by decide +kernel
theorem d_Model_layUnions_13 : decode jc_Model_layUnions 13 = .ok (.if_icmp .ge 16, 3) := by decide +kernel
theorem d_Model_layUnions_16 : decode jc_Model_layUnions 16 = .ok (.aload_n 0, 1) := by decide +kernel
theorem d_Model_layUnions_17 : decode jc_Model_layUnions 17 = .ok (.getfield 43, 3) := by decide +kernel
theorem d_Model_layUnions_20 : decode jc_Model_layUnions 20 = .ok (.iload_n 3, 1) := by decide +kernel
theorem d_Model_layUnions_21 : decode jc_Model_layUnions 21 = .ok (.iconst 0, 1) := by decide +kernel
theorem d_Model_layUnions_22 : decode jc_Model_layUnions 22 = .ok (.bastore, 1) := by decide +kernel
theorem d_Model_layUnions_23 : decode jc_Model_layUnions 23 = .ok (.iinc 3 1, 3) := by decide +kernel
theorem d_Model_layUnions_26 : decode jc_Model_layUnions 26 = .ok (.goto (-17), 3) := by decide +kernel
theorem d_Model_layUnions_29 : decode jc_Model_layUnions 29 = .ok (.iconst 0, 1) := by decide +kernel
theorem d_Model_layUnions_30 : decode jc_Model_layUnions 30 = .ok (.istore_n 3, 1) := by decide +kernel
theorem d_Model_layUnions_31 : decode jc_Model_layUnions 31 = .ok (.iconst 0, 1) := by decide +kernel
theorem d_Model_layUnions_32 : decode jc_Model_layUnions 32 = .ok (.istore 4, 2) := by decide +kernel
theorem d_Model_layUnions_34 : decode jc_Model_layUnions 34 = .ok (.iload 4, 2) := by decide +kernel
theorem d_Model_layUnions_36 : decode jc_Model_layUnions 36 = .ok (.iconst 1, 1) := by decide +kernel
theorem d_Model_layUnions_37 : decode jc_Model_layUnions 37 = .ok (.iload_n 2, 1) := by decide +kernel
theorem d_Model_layUnions_38 : decode jc_Model_layUnions 38 = .ok (.ishl, 1) := by decide +kernel
theorem d_Model_layUnions_39 : decode jc_Model_layUnions 39 = .ok (.if_icmp .ge 80, 3) := by decide +kernel
theorem d_Model_layUnions_42 : decode jc_Model_layUnions 42 = .ok (.iconst 0, 1) := by decide +kernel
theorem d_Model_layUnions_43 : decode jc_Model_layUnions 43 = .ok (.istore 5, 2) := by decide +kernel
theorem d_Model_layUnions_45 : decode jc_Model_layUnions 45 = .ok (.iconst 0, 1) := by decide +kernel
theorem d_Model_layUnions_46 : decode jc_Model_layUnions 46 = .ok (.istore 6, 2) := by decide +kernel
theorem d_Model_layUnions_48 : decode jc_Model_layUnions 48 = .ok (.iload 6, 2) := by decide +kernel
theorem d_Model_layUnions_50 : decode jc_Model_layUnions 50 = .ok (.iload_n 2, 1) := by decide +kernel
theorem d_Model_layUnions_51 : decode jc_Model_layUnions 51 = .ok (.if_icmp .ge 36, 3) := by decide +kernel
theorem d_Model_layUnions_54 : decode jc_Model_layUnions 54 = .ok (.iload 5, 2) := by decide +kernel
theorem d_Model_layUnions_56 : decode jc_Model_layUnions 56 = .ok (.iload 4, 2) := by decide +kernel
theorem d_Model_layUnions_58 : decode jc_Model_layUnions 58 = .ok (.iload 6, 2) := by decide +kernel
theorem d_Model_layUnions_60 : decode jc_Model_layUnions 60 = .ok (.ishr, 1) := by decide +kernel
theorem d_Model_layUnions_61 : decode jc_Model_layUnions 61 = .ok (.iconst 1, 1) := by decide +kernel
theorem d_Model_layUnions_62 : decode jc_Model_layUnions 62 = .ok (.iand, 1) := by decide +kernel
theorem d_Model_layUnions_63 : decode jc_Model_layUnions 63 = .ok (.iconst 1, 1) := by decide +kernel
theorem d_Model_layUnions_64 : decode jc_Model_layUnions 64 = .ok (.if_icmp .ne 13, 3) := by decide +kernel
theorem d_Model_layUnions_67 : decode jc_Model_layUnions 67 = .ok (.aload_n 0, 1) := by decide +kernel
theorem d_Model_layUnions_68 : decode jc_Model_layUnions 68 = .ok (.iload_n 1, 1) := by decide +kernel
theorem d_Model_layUnions_69 : decode jc_Model_layUnions 69 = .ok (.iload 6, 2) := by decide +kernel
theorem d_Model_layUnions_71 : decode jc_Model_layUnions 71 = .ok (.invokevirtual 71, 3) := by decide +kernel
theorem d_Model_layUnions_74 : decode jc_Model_layUnions 74 = .ok (.goto 4, 3) := by decide +kernel
theorem d_Model_layUnions_77 : decode jc_Model_layUnions 77 = .ok (.iconst 0, 1) := by decide +kernel
theorem d_Model_layUnions_78 : decode jc_Model_layUnions 78 = .ok (.ior, 1) := by decide +kernel
theorem d_Model_layUnions_79 : decode jc_Model_layUnions 79 = .ok (.istore 5, 2) := by decide +kernel
theorem d_Model_layUnions_81 : decode jc_Model_layUnions 81 = .ok (.iinc 6 1, 3) := by decide +kernel
theorem d_Model_layUnions_84 : decode jc_Model_layUnions 84 = .ok (.goto (-36), 3) := by decide +kernel
theorem d_Model_layUnions_87 : decode jc_Model_layUnions 87 = .ok (.iload_n 3, 1) := by decide +kernel
theorem d_Model_layUnions_88 : decode jc_Model_layUnions 88 = .ok (.aload_n 0, 1) := by decide +kernel
theorem d_Model_layUnions_89 : decode jc_Model_layUnions 89 = .ok (.getfield 43, 3) := by decide +kernel
theorem d_Model_layUnions_92 : decode jc_Model_layUnions 92 = .ok (.iload 5, 2) := by decide +kernel
theorem d_Model_layUnions_94 : decode jc_Model_layUnions 94 = .ok (.baload, 1) := by decide +kernel
theorem d_Model_layUnions_95 : decode jc_Model_layUnions 95 = .ok (.ifCond .eq 7, 3) := by decide +kernel
theorem d_Model_layUnions_98 : decode jc_Model_layUnions 98 = .ok (.iconst 0, 1) := by decide +kernel
theorem d_Model_layUnions_99 : decode jc_Model_layUnions 99 = .ok (.goto 4, 3) := by decide +kernel
theorem d_Model_layUnions_102 : decode jc_Model_layUnions 102 = .ok (.iconst 1, 1) := by decide +kernel
theorem d_Model_layUnions_103 : decode jc_Model_layUnions 103 = .ok (.iadd, 1) := by decide +kernel
theorem d_Model_layUnions_104 : decode jc_Model_layUnions 104 = .ok (.istore_n 3, 1) := by decide +kernel
theorem d_Model_layUnions_105 : decode jc_Model_layUnions 105 = .ok (.aload_n 0, 1) := by decide +kernel
theorem d_Model_layUnions_106 : decode jc_Model_layUnions 106 = .ok (.getfield 43, 3) := by decide +kernel
theorem d_Model_layUnions_109 : decode jc_Model_layUnions 109 = .ok (.iload 5, 2) := by decide +kernel
theorem d_Model_layUnions_111 : decode jc_Model_layUnions 111 = .ok (.iconst 1, 1) := by decide +kernel
theorem d_Model_layUnions_112 : decode jc_Model_layUnions 112 = .ok (.bastore, 1) := by decide +kernel
theorem d_Model_layUnions_113 : decode jc_Model_layUnions 113 = .ok (.iinc 4 1, 3) := by decide +kernel
theorem d_Model_layUnions_116 : decode jc_Model_layUnions 116 = .ok (.goto (-82), 3) := by decide +kernel
theorem d_Model_layUnions_119 : decode jc_Model_layUnions 119 = .ok (.iload_n 3, 1) := by decide +kernel
theorem d_Model_layUnions_120 : decode jc_Model_layUnions 120 = .ok (.ireturn, 1) := by decide +kernel
theorem d_Model_layBasis_0 : decode jc_Model_layBasis 0 = .ok (.aload_n 0, 1) := by decide +kernel
theorem d_Model_layBasis_1 : decode jc_Model_layBasis 1 = .ok (.getfield 13, 3) := by decide +kernel
theorem d_Model_layBasis_4 : decode jc_Model_layBasis 4 = .ok (.iload_n 1, 1) := by decide +kernel
theorem d_Model_layBasis_5 : decode jc_Model_layBasis 5 = .ok (.iaload, 1) := by decide +kernel
theorem d_Model_layBasis_6 : decode jc_Model_layBasis 6 = .ok (.istore_n 2, 1) := by decide +kernel
theorem d_Model_layBasis_7 : decode jc_Model_layBasis 7 = .ok (.aload_n 0, 1) := by decide +kernel
theorem d_Model_layBasis_8 : decode jc_Model_layBasis 8 = .ok (.iconst 0, 1) := by decide +kernel
theorem d_Model_layBasis_9 : decode jc_Model_layBasis 9 = .ok (.putfield 219, 3) := by decide +kernel
theorem d_Model_layBasis_12 : decode jc_Model_layBasis 12 = .ok (.iconst 1, 1) := by decide +kernel
theorem d_Model_layBasis_13 : decode jc_Model_layBasis 13 = .ok (.istore_n 3, 1) := by decide +kernel
theorem d_Model_layBasis_14 : decode jc_Model_layBasis 14 = .ok (.iload_n 3, 1) := by decide +kernel
theorem d_Model_layBasis_15 : decode jc_Model_layBasis 15 = .ok (.iconst 1, 1) := by decide +kernel
theorem d_Model_layBasis_16 : decode jc_Model_layBasis 16 = .ok (.iload_n 2, 1) := by decide +kernel
theorem d_Model_layBasis_17 : decode jc_Model_layBasis 17 = .ok (.ishl, 1) := by decide +kernel
theorem d_Model_layBasis_18 : decode jc_Model_layBasis 18 = .ok (.if_icmp .ge 137, 3) := by decide +kernel
theorem d_Model_layBasis_21 : decode jc_Model_layBasis 21 = .ok (.iconst 0, 1) := by decide +kernel
theorem d_Model_layBasis_22 : decode jc_Model_layBasis 22 = .ok (.istore 4, 2) := by decide +kernel
theorem d_Model_layBasis_24 : decode jc_Model_layBasis 24 = .ok (.iconst 0, 1) := by decide +kernel
theorem d_Model_layBasis_25 : decode jc_Model_layBasis 25 = .ok (.istore 5, 2) := by decide +kernel
theorem d_Model_layBasis_27 : decode jc_Model_layBasis 27 = .ok (.iconst 0, 1) := by decide +kernel
theorem d_Model_layBasis_28 : decode jc_Model_layBasis 28 = .ok (.istore 6, 2) := by decide +kernel
theorem d_Model_layBasis_30 : decode jc_Model_layBasis 30 = .ok (.iload 6, 2) := by decide +kernel
theorem d_Model_layBasis_32 : decode jc_Model_layBasis 32 = .ok (.iload_n 2, 1) := by decide +kernel
theorem d_Model_layBasis_33 : decode jc_Model_layBasis 33 = .ok (.if_icmp .ge 85, 3) := by decide +kernel
theorem d_Model_layBasis_36 : decode jc_Model_layBasis 36 = .ok (.iload 4, 2) := by decide +kernel
theorem d_Model_layBasis_38 : decode jc_Model_layBasis 38 = .ok (.ifCond .ne 14, 3) := by decide +kernel
theorem d_Model_layBasis_41 : decode jc_Model_layBasis 41 = .ok (.aload_n 0, 1) := by decide +kernel
theorem d_Model_layBasis_42 : decode jc_Model_layBasis 42 = .ok (.iload_n 1, 1) := by decide +kernel
theorem d_Model_layBasis_43 : decode jc_Model_layBasis 43 = .ok (.iload 6, 2) := by decide +kernel
theorem d_Model_layBasis_45 : decode jc_Model_layBasis 45 = .ok (.invokevirtual 71, 3) := by decide +kernel
theorem d_Model_layBasis_48 : decode jc_Model_layBasis 48 = .ok (.iload_n 3, 1) := by decide +kernel
theorem d_Model_layBasis_49 : decode jc_Model_layBasis 49 = .ok (.if_icmp .ne 7, 3) := by decide +kernel
theorem d_Model_layBasis_52 : decode jc_Model_layBasis 52 = .ok (.iconst 1, 1) := by decide +kernel
theorem d_Model_layBasis_53 : decode jc_Model_layBasis 53 = .ok (.goto 4, 3) := by decide +kernel
theorem d_Model_layBasis_56 : decode jc_Model_layBasis 56 = .ok (.iconst 0, 1) := by decide +kernel
theorem d_Model_layBasis_57 : decode jc_Model_layBasis 57 = .ok (.istore 4, 2) := by decide +kernel
theorem d_Model_layBasis_59 : decode jc_Model_layBasis 59 = .ok (.aload_n 0, 1) := by decide +kernel
theorem d_Model_layBasis_60 : decode jc_Model_layBasis 60 = .ok (.iload_n 1, 1) := by decide +kernel
theorem d_Model_layBasis_61 : decode jc_Model_layBasis 61 = .ok (.iload 6, 2) := by decide +kernel
theorem d_Model_layBasis_63 : decode jc_Model_layBasis 63 = .ok (.invokevirtual 71, 3) := by decide +kernel
theorem d_Model_layBasis_66 : decode jc_Model_layBasis 66 = .ok (.iload_n 3, 1) := by decide +kernel
theorem d_Model_layBasis_67 : decode jc_Model_layBasis 67 = .ok (.if_icmp .eq 21, 3) := by decide +kernel
theorem d_Model_layBasis_70 : decode jc_Model_layBasis 70 = .ok (.aload_n 0, 1) := by decide +kernel
theorem d_Model_layBasis_71 : decode jc_Model_layBasis 71 = .ok (.iload_n 1, 1) := by decide +kernel
theorem d_Model_layBasis_72 : decode jc_Model_layBasis 72 = .ok (.iload 6, 2) := by decide +kernel
theorem d_Model_layBasis_74 : decode jc_Model_layBasis 74 = .ok (.invokevirtual 71, 3) := by decide +kernel
theorem d_Model_layBasis_77 : decode jc_Model_layBasis 77 = .ok (.iload_n 3, 1) := by decide +kernel
theorem d_Model_layBasis_78 : decode jc_Model_layBasis 78 = .ok (.iconst (-1), 1) := by decide +kernel
theorem d_Model_layBasis_79 : decode jc_Model_layBasis 79 = .ok (.ixor, 1) := by decide +kernel
theorem d_Model_layBasis_80 : decode jc_Model_layBasis 80 = .ok (.iand, 1) := by decide +kernel
theorem d_Model_layBasis_81 : decode jc_Model_layBasis 81 = .ok (.ifCond .ne 7, 3) := by decide +kernel
theorem d_Model_layBasis_84 : decode jc_Model_layBasis 84 = .ok (.iconst 1, 1) := by decide +kernel
theorem d_Model_layBasis_85 : decode jc_Model_layBasis 85 = .ok (.goto 4, 3) := by decide +kernel
theorem d_Model_layBasis_88 : decode jc_Model_layBasis 88 = .ok (.iconst 0, 1) := by decide +kernel
theorem d_Model_layBasis_89 : decode jc_Model_layBasis 89 = .ok (.istore 7, 2) := by decide +kernel
theorem d_Model_layBasis_91 : decode jc_Model_layBasis 91 = .ok (.iload 5, 2) := by decide +kernel
theorem d_Model_layBasis_93 : decode jc_Model_layBasis 93 = .ok (.iload 7, 2) := by decide +kernel
theorem d_Model_layBasis_95 : decode jc_Model_layBasis 95 = .ok (.ifCond .eq 13, 3) := by decide +kernel
theorem d_Model_layBasis_98 : decode jc_Model_layBasis 98 = .ok (.aload_n 0, 1) := by decide +kernel
theorem d_Model_layBasis_99 : decode jc_Model_layBasis 99 = .ok (.iload_n 1, 1) := by decide +kernel
theorem d_Model_layBasis_100 : decode jc_Model_layBasis 100 = .ok (.iload 6, 2) := by decide +kernel
theorem d_Model_layBasis_102 : decode jc_Model_layBasis 102 = .ok (.invokevirtual 71, 3) := by decide +kernel
theorem d_Model_layBasis_105 : decode jc_Model_layBasis 105 = .ok (.goto 4, 3) := by decide +kernel
theorem d_Model_layBasis_108 : decode jc_Model_layBasis 108 = .ok (.iconst 0, 1) := by decide +kernel
theorem d_Model_layBasis_109 : decode jc_Model_layBasis 109 = .ok (.ior, 1) := by decide +kernel
theorem d_Model_layBasis_110 : decode jc_Model_layBasis 110 = .ok (.istore 5, 2) := by decide +kernel
theorem d_Model_layBasis_112 : decode jc_Model_layBasis 112 = .ok (.iinc 6 1, 3) := by decide +kernel
theorem d_Model_layBasis_115 : decode jc_Model_layBasis 115 = .ok (.goto (-85), 3) := by decide +kernel
theorem d_Model_layBasis_118 : decode jc_Model_layBasis 118 = .ok (.iload 4, 2) := by decide +kernel
theorem d_Model_layBasis_120 : decode jc_Model_layBasis 120 = .ok (.ifCond .eq 29, 3) := by decide +kernel
theorem d_Model_layBasis_123 : decode jc_Model_layBasis 123 = .ok (.iload 5, 2) := by decide +kernel
theorem d_Model_layBasis_125 : decode jc_Model_layBasis 125 = .ok (.iload_n 3, 1) := by decide +kernel
theorem d_Model_layBasis_126 : decode jc_Model_layBasis 126 = .ok (.if_icmp .eq 23, 3) := by decide +kernel
theorem d_Model_layBasis_129 : decode jc_Model_layBasis 129 = .ok (.aload_n 0, 1) := by decide +kernel
theorem d_Model_layBasis_130 : decode jc_Model_layBasis 130 = .ok (.getfield 47, 3) := by decide +kernel
theorem d_Model_layBasis_133 : decode jc_Model_layBasis 133 = .ok (.aload_n 0, 1) := by decide +kernel
theorem d_Model_layBasis_134 : decode jc_Model_layBasis 134 = .ok (.getfield 219, 3) := by decide +kernel
theorem d_Model_layBasis_137 : decode jc_Model_layBasis 137 = .ok (.iload_n 3, 1) := by decide +kernel
theorem d_Model_layBasis_138 : decode jc_Model_layBasis 138 = .ok (.iastore, 1) := by decide +kernel
theorem d_Model_layBasis_139 : decode jc_Model_layBasis 139 = .ok (.aload_n 0, 1) := by decide +kernel
theorem d_Model_layBasis_140 : decode jc_Model_layBasis 140 = .ok (.dup, 1) := by decide +kernel
theorem d_Model_layBasis_141 : decode jc_Model_layBasis 141 = .ok (.getfield 219, 3) := by decide +kernel
theorem d_Model_layBasis_144 : decode jc_Model_layBasis 144 = .ok (.iconst 1, 1) := by decide +kernel
theorem d_Model_layBasis_145 : decode jc_Model_layBasis 145 = .ok (.iadd, 1) := by decide +kernel
theorem d_Model_layBasis_146 : decode jc_Model_layBasis 146 = .ok (.putfield 219, 3) := by decide +kernel
theorem d_Model_layBasis_149 : decode jc_Model_layBasis 149 = .ok (.iinc 3 1, 3) := by decide +kernel
theorem d_Model_layBasis_152 : decode jc_Model_layBasis 152 = .ok (.goto (-138), 3) := by decide +kernel
theorem d_Model_layBasis_155 : decode jc_Model_layBasis 155 = .ok (.return_, 1) := by decide +kernel
theorem d_Model_isRegular_0 : decode jc_Model_isRegular 0 = .ok (.aload_n 0, 1) := by decide +kernel
theorem d_Model_isRegular_1 : decode jc_Model_isRegular 1 = .ok (.iload_n 1, 1) := by decide +kernel
theorem d_Model_isRegular_2 : decode jc_Model_isRegular 2 = .ok (.bipush 35, 2) := by decide +kernel
theorem d_Model_isRegular_4 : decode jc_Model_isRegular 4 = .ok (.invokevirtual 135, 3) := by decide +kernel
theorem d_Model_isRegular_7 : decode jc_Model_isRegular 7 = .ok (.aload_n 0, 1) := by decide +kernel
theorem d_Model_isRegular_8 : decode jc_Model_isRegular 8 = .ok (.iload_n 1, 1) := by decide +kernel
theorem d_Model_isRegular_9 : decode jc_Model_isRegular 9 = .ok (.bipush 35, 2) := by decide +kernel
theorem d_Model_isRegular_11 : decode jc_Model_isRegular 11 = .ok (.bipush 36, 2) := by decide +kernel
theorem d_Model_isRegular_13 : decode jc_Model_isRegular 13 = .ok (.invokevirtual 88, 3) := by decide +kernel
theorem d_Model_isRegular_16 : decode jc_Model_isRegular 16 = .ok (.aload_n 0, 1) := by decide +kernel
theorem d_Model_isRegular_17 : decode jc_Model_isRegular 17 = .ok (.bipush 36, 2) := by decide +kernel
theorem d_Model_isRegular_19 : decode jc_Model_isRegular 19 = .ok (.iload_n 1, 1) := by decide +kernel
theorem d_Model_isRegular_20 : decode jc_Model_isRegular 20 = .ok (.bipush 37, 2) := by decide +kernel
theorem d_Model_isRegular_22 : decode jc_Model_isRegular 22 = .ok (.invokevirtual 88, 3) := by decide +kernel
theorem d_Model_isRegular_25 : decode jc_Model_isRegular 25 = .ok (.aload_n 0, 1) := by decide +kernel
theorem d_Model_isRegular_26 : decode jc_Model_isRegular 26 = .ok (.iload_n 1, 1) := by decide +kernel
theorem d_Model_isRegular_27 : decode jc_Model_isRegular 27 = .ok (.bipush 37, 2) := by decide +kernel
theorem d_Model_isRegular_29 : decode jc_Model_isRegular 29 = .ok (.invokevirtual 138, 3) := by decide +kernel
theorem d_Model_isRegular_32 : decode jc_Model_isRegular 32 = .ok (.ireturn, 1) := by decide +kernel
theorem d_Model_space_0 : decode jc_Model_space 0 = .ok (.aload_n 0, 1) := by decide +kernel
theorem d_Model_space_1 : decode jc_Model_space 1 = .ok (.iload_n 1, 1) := by decide +kernel
theorem d_Model_space_2 : decode jc_Model_space 2 = .ok (.invokevirtual 117, 3) := by decide +kernel
theorem d_Model_space_5 : decode jc_Model_space 5 = .ok (.ifCond .eq 15, 3) := by decide +kernel
theorem d_Model_space_8 : decode jc_Model_space 8 = .ok (.iload_n 2, 1) := by decide +kernel
theorem d_Model_space_9 : decode jc_Model_space 9 = .ok (.i2l, 1) := by decide +kernel
theorem d_Model_space_10 : decode jc_Model_space 10 = .ok (.lconst 0, 1) := by decide +kernel
theorem d_Model_space_11 : decode jc_Model_space 11 = .ok (.ldc2_w 111, 3) := by decide +kernel
theorem d_Model_space_14 : decode jc_Model_space 14 = .ok (.invokestatic 107, 3) := by decide +kernel
theorem d_Model_space_17 : decode jc_Model_space 17 = .ok (.ifCond .ne 5, 3) := by decide +kernel
theorem d_Model_space_20 : decode jc_Model_space 20 = .ok (.iconst (-1), 1) := by decide +kernel
theorem d_Model_space_21 : decode jc_Model_space 21 = .ok (.ireturn, 1) := by decide +kernel
theorem d_Model_space_22 : decode jc_Model_space 22 = .ok (.iload_n 2, 1) := by decide +kernel
theorem d_Model_space_23 : decode jc_Model_space 23 = .ok (.iconst 4, 1) := by decide +kernel
theorem d_Model_space_24 : decode jc_Model_space 24 = .ok (.if_icmp .ne 17, 3) := by decide +kernel
theorem d_Model_space_27 : decode jc_Model_space 27 = .ok (.aload_n 0, 1) := by decide +kernel
theorem d_Model_space_28 : decode jc_Model_space 28 = .ok (.iload_n 1, 1) := by decide +kernel
theorem d_Model_space_29 : decode jc_Model_space 29 = .ok (.invokevirtual 222, 3) := by decide +kernel
theorem d_Model_space_32 : decode jc_Model_space 32 = .ok (.ifCond .eq 7, 3) := by decide +kernel
theorem d_Model_space_35 : decode jc_Model_space 35 = .ok (.iconst 1, 1) := by decide +kernel
theorem d_Model_space_36 : decode jc_Model_space 36 = .ok (.goto 4, 3) := by decide +kernel
theorem d_Model_space_39 : decode jc_Model_space 39 = .ok (.iconst 0, 1) := by decide +kernel
theorem d_Model_space_40 : decode jc_Model_space 40 = .ok (.ireturn, 1) := by decide +kernel
theorem d_Model_space_41 : decode jc_Model_space 41 = .ok (.iload_n 2, 1) := by decide +kernel
theorem d_Model_space_42 : decode jc_Model_space 42 = .ok (.iconst 2, 1) := by decide +kernel
theorem d_Model_space_43 : decode jc_Model_space 43 = .ok (.if_icmp .ge 13, 3) := by decide +kernel
theorem d_Model_space_46 : decode jc_Model_space 46 = .ok (.aload_n 0, 1) := by decide +kernel
theorem d_Model_space_47 : decode jc_Model_space 47 = .ok (.iload_n 1, 1) := by decide +kernel
theorem d_Model_space_48 : decode jc_Model_space 48 = .ok (.bipush 34, 2) := by decide +kernel
theorem d_Model_space_50 : decode jc_Model_space 50 = .ok (.invokevirtual 85, 3) := by decide +kernel
theorem d_Model_space_53 : decode jc_Model_space 53 = .ok (.goto 10, 3) := by decide +kernel
theorem d_Model_space_56 : decode jc_Model_space 56 = .ok (.aload_n 0, 1) := by decide +kernel
theorem d_Model_space_57 : decode jc_Model_space 57 = .ok (.iload_n 1, 1) := by decide +kernel
theorem d_Model_space_58 : decode jc_Model_space 58 = .ok (.bipush 34, 2) := by decide +kernel
theorem d_Model_space_60 : decode jc_Model_space 60 = .ok (.invokevirtual 95, 3) := by decide +kernel
theorem d_Model_space_63 : decode jc_Model_space 63 = .ok (.aload_n 0, 1) := by decide +kernel
theorem d_Model_space_64 : decode jc_Model_space 64 = .ok (.bipush 34, 2) := by decide +kernel
theorem d_Model_space_66 : decode jc_Model_space 66 = .ok (.invokevirtual 225, 3) := by decide +kernel
theorem d_Model_space_69 : decode jc_Model_space 69 = .ok (.iload_n 2, 1) := by decide +kernel
theorem d_Model_space_70 : decode jc_Model_space 70 = .ok (.iconst 2, 1) := by decide +kernel
theorem d_Model_space_71 : decode jc_Model_space 71 = .ok (.irem, 1) := by decide +kernel
theorem d_Model_space_72 : decode jc_Model_space 72 = .ok (.ifCond .ne 12, 3) := by decide +kernel
theorem d_Model_space_75 : decode jc_Model_space 75 = .ok (.aload_n 0, 1) := by decide +kernel
theorem d_Model_space_76 : decode jc_Model_space 76 = .ok (.bipush 34, 2) := by decide +kernel
theorem d_Model_space_78 : decode jc_Model_space 78 = .ok (.invokevirtual 228, 3) := by decide +kernel
theorem d_Model_space_81 : decode jc_Model_space 81 = .ok (.goto 7, 3) := by decide +kernel
theorem d_Model_space_84 : decode jc_Model_space 84 = .ok (.aload_n 0, 1) := by decide +kernel
theorem d_Model_space_85 : decode jc_Model_space 85 = .ok (.getfield 219, 3) := by decide +kernel
theorem d_Model_space_88 : decode jc_Model_space 88 = .ok (.ireturn, 1) := by decide +kernel
theorem d_Model_basis_0 : decode jc_Model_basis 0 = .ok (.aload_n 0, 1) := by decide +kernel
theorem d_Model_basis_1 : decode jc_Model_basis 1 = .ok (.iload_n 1, 1) := by decide +kernel
theorem d_Model_basis_2 : decode jc_Model_basis 2 = .ok (.invokevirtual 117, 3) := by decide +kernel
theorem d_Model_basis_5 : decode jc_Model_basis 5 = .ok (.ifCond .ne 5, 3) := by decide +kernel
theorem d_Model_basis_8 : decode jc_Model_basis 8 = .ok (.iconst (-1), 1) := by decide +kernel
theorem d_Model_basis_9 : decode jc_Model_basis 9 = .ok (.ireturn, 1) := by decide +kernel
theorem d_Model_basis_10 : decode jc_Model_basis 10 = .ok (.aload_n 0, 1) := by decide +kernel
theorem d_Model_basis_11 : decode jc_Model_basis 11 = .ok (.iload_n 1, 1) := by decide +kernel
theorem d_Model_basis_12 : decode jc_Model_basis 12 = .ok (.invokevirtual 225, 3) := by decide +kernel
theorem d_Model_basis_15 : decode jc_Model_basis 15 = .ok (.iload_n 2, 1) := by decide +kernel
theorem d_Model_basis_16 : decode jc_Model_basis 16 = .ok (.i2l, 1) := by decide +kernel
theorem d_Model_basis_17 : decode jc_Model_basis 17 = .ok (.lconst 0, 1) := by decide +kernel
theorem d_Model_basis_18 : decode jc_Model_basis 18 = .ok (.aload_n 0, 1) := by decide +kernel
theorem d_Model_basis_19 : decode jc_Model_basis 19 = .ok (.getfield 219, 3) := by decide +kernel
theorem d_Model_basis_22 : decode jc_Model_basis 22 = .ok (.iconst 1, 1) := by decide +kernel
theorem d_Model_basis_23 : decode jc_Model_basis 23 = .ok (.isub, 1) := by decide +kernel
theorem d_Model_basis_24 : decode jc_Model_basis 24 = .ok (.i2l, 1) := by decide +kernel
theorem d_Model_basis_25 : decode jc_Model_basis 25 = .ok (.invokestatic 107, 3) := by decide +kernel
theorem d_Model_basis_28 : decode jc_Model_basis 28 = .ok (.ifCond .eq 12, 3) := by decide +kernel
theorem d_Model_basis_31 : decode jc_Model_basis 31 = .ok (.aload_n 0, 1) := by decide +kernel
theorem d_Model_basis_32 : decode jc_Model_basis 32 = .ok (.getfield 47, 3) := by decide +kernel
theorem d_Model_basis_35 : decode jc_Model_basis 35 = .ok (.iload_n 2, 1) := by decide +kernel
theorem d_Model_basis_36 : decode jc_Model_basis 36 = .ok (.iaload, 1) := by decide +kernel
theorem d_Model_basis_37 : decode jc_Model_basis 37 = .ok (.goto 5, 3) := by decide +kernel
theorem d_Model_basis_40 : decode jc_Model_basis 40 = .ok (.bipush (-2), 2) := by decide +kernel
theorem d_Model_basis_42 : decode jc_Model_basis 42 = .ok (.ireturn, 1) := by decide +kernel
theorem d_Model_spans_0 : decode jc_Model_spans 0 = .ok (.aload_n 0, 1) := by decide +kernel
theorem d_Model_spans_1 : decode jc_Model_spans 1 = .ok (.iload_n 1, 1) := by decide +kernel
theorem d_Model_spans_2 : decode jc_Model_spans 2 = .ok (.invokevirtual 117, 3) := by decide +kernel
theorem d_Model_spans_5 : decode jc_Model_spans 5 = .ok (.ifCond .eq 12, 3) := by decide +kernel
theorem d_Model_spans_8 : decode jc_Model_spans 8 = .ok (.aload_n 0, 1) := by decide +kernel
theorem d_Model_spans_9 : decode jc_Model_spans 9 = .ok (.iload_n 1, 1) := by decide +kernel
theorem d_Model_spans_10 : decode jc_Model_spans 10 = .ok (.iload_n 2, 1) := by decide +kernel
theorem d_Model_spans_11 : decode jc_Model_spans 11 = .ok (.invokevirtual 124, 3) := by decide +kernel
theorem d_Model_spans_14 : decode jc_Model_spans 14 = .ok (.ifCond .ne 5, 3) := by decide +kernel
theorem d_Model_spans_17 : decode jc_Model_spans 17 = .ok (.iconst (-1), 1) := by decide +kernel
theorem d_Model_spans_18 : decode jc_Model_spans 18 = .ok (.ireturn, 1) := by decide +kernel
theorem d_Model_spans_19 : decode jc_Model_spans 19 = .ok (.aload_n 0, 1) := by decide +kernel
theorem d_Model_spans_20 : decode jc_Model_spans 20 = .ok (.iload_n 1, 1) := by decide +kernel
theorem d_Model_spans_21 : decode jc_Model_spans 21 = .ok (.invokevirtual 228, 3) := by decide +kernel
theorem d_Model_spans_24 : decode jc_Model_spans 24 = .ok (.istore_n 3, 1) := by decide +kernel
theorem d_Model_spans_25 : decode jc_Model_spans 25 = .ok (.aload_n 0, 1) := by decide +kernel
theorem d_Model_spans_26 : decode jc_Model_spans 26 = .ok (.getfield 43, 3) := by decide +kernel
theorem d_Model_spans_29 : decode jc_Model_spans 29 = .ok (.iload_n 2, 1) := by decide +kernel
theorem d_Model_spans_30 : decode jc_Model_spans 30 = .ok (.baload, 1) := by decide +kernel
theorem d_Model_spans_31 : decode jc_Model_spans 31 = .ok (.ifCond .eq 7, 3) := by decide +kernel
theorem d_Model_spans_34 : decode jc_Model_spans 34 = .ok (.iconst 1, 1) := by decide +kernel
theorem d_Model_spans_35 : decode jc_Model_spans 35 = .ok (.goto 4, 3) := by decide +kernel
theorem d_Model_spans_38 : decode jc_Model_spans 38 = .ok (.iconst 0, 1) := by decide +kernel
theorem d_Model_spans_39 : decode jc_Model_spans 39 = .ok (.ireturn, 1) := by decide +kernel
theorem d_Model_isWithin_0 : decode jc_Model_isWithin 0 = .ok (.aload_n 0, 1) := by decide +kernel
theorem d_Model_isWithin_1 : decode jc_Model_isWithin 1 = .ok (.iload_n 2, 1) := by decide +kernel
theorem d_Model_isWithin_2 : decode jc_Model_isWithin 2 = .ok (.invokevirtual 228, 3) := by decide +kernel
theorem d_Model_isWithin_5 : decode jc_Model_isWithin 5 = .ok (.istore_n 3, 1) := by decide +kernel
theorem d_Model_isWithin_6 : decode jc_Model_isWithin 6 = .ok (.iconst 1, 1) := by decide +kernel
theorem d_Model_isWithin_7 : decode jc_Model_isWithin 7 = .ok (.istore 4, 2) := by decide +kernel
theorem d_Model_isWithin_9 : decode jc_Model_isWithin 9 = .ok (.iconst 0, 1) := by decide +kernel
theorem d_Model_isWithin_10 : decode jc_Model_isWithin 10 = .ok (.istore 5, 2) := by decide +kernel
theorem d_Model_isWithin_12 : decode jc_Model_isWithin 12 = .ok (.iload 5, 2) := by decide +kernel
theorem d_Model_isWithin_14 : decode jc_Model_isWithin 14 = .ok (.aload_n 0, 1) := by decide +kernel
theorem d_Model_isWithin_15 : decode jc_Model_isWithin 15 = .ok (.getfield 13, 3) := by decide +kernel
theorem d_Model_isWithin_18 : decode jc_Model_isWithin 18 = .ok (.iload_n 1, 1) := by decide +kernel
theorem d_Model_isWithin_19 : decode jc_Model_isWithin 19 = .ok (.iaload, 1) := by decide +kernel
theorem d_Model_isWithin_20 : decode jc_Model_isWithin 20 = .ok (.if_icmp .ge 36, 3) := by decide +kernel
theorem d_Model_isWithin_23 : decode jc_Model_isWithin 23 = .ok (.iload 4, 2) := by decide +kernel
theorem d_Model_isWithin_25 : decode jc_Model_isWithin 25 = .ok (.ifCond .eq 22, 3) := by decide +kernel
theorem d_Model_isWithin_28 : decode jc_Model_isWithin 28 = .ok (.aload_n 0, 1) := by decide +kernel
theorem d_Model_isWithin_29 : decode jc_Model_isWithin 29 = .ok (.getfield 43, 3) := by decide +kernel
theorem d_Model_isWithin_32 : decode jc_Model_isWithin 32 = .ok (.aload_n 0, 1) := by decide +kernel
theorem d_Model_isWithin_33 : decode jc_Model_isWithin 33 = .ok (.iload_n 1, 1) := by decide +kernel
theorem d_Model_isWithin_34 : decode jc_Model_isWithin 34 = .ok (.iload 5, 2) := by decide +kernel
theorem d_Model_isWithin_36 : decode jc_Model_isWithin 36 = .ok (.invokevirtual 71, 3) := by decide +kernel
theorem d_Model_isWithin_39 : decode jc_Model_isWithin 39 = .ok (.baload, 1) := by decide +kernel
theorem d_Model_isWithin_40 : decode jc_Model_isWithin 40 = .ok (.ifCond .eq 7, 3) := by decide +kernel
theorem d_Model_isWithin_43 : decode jc_Model_isWithin 43 = .ok (.iconst 1, 1) := by decide +kernel
theorem d_Model_isWithin_44 : decode jc_Model_isWithin 44 = .ok (.goto 4, 3) := by decide +kernel
theorem d_Model_isWithin_47 : decode jc_Model_isWithin 47 = .ok (.iconst 0, 1) := by decide +kernel
theorem d_Model_isWithin_48 : decode jc_Model_isWithin 48 = .ok (.istore 4, 2) := by decide +kernel
theorem d_Model_isWithin_50 : decode jc_Model_isWithin 50 = .ok (.iinc 5 1, 3) := by decide +kernel
theorem d_Model_isWithin_53 : decode jc_Model_isWithin 53 = .ok (.goto (-41), 3) := by decide +kernel
theorem d_Model_isWithin_56 : decode jc_Model_isWithin 56 = .ok (.iload 4, 2) := by decide +kernel
theorem d_Model_isWithin_58 : decode jc_Model_isWithin 58 = .ok (.ireturn, 1) := by decide +kernel
theorem d_Model_alike_0 : decode jc_Model_alike 0 = .ok (.aload_n 0, 1) := by decide +kernel
theorem d_Model_alike_1 : decode jc_Model_alike 1 = .ok (.iload_n 1, 1) := by decide +kernel
theorem d_Model_alike_2 : decode jc_Model_alike 2 = .ok (.invokevirtual 117, 3) := by decide +kernel
theorem d_Model_alike_5 : decode jc_Model_alike 5 = .ok (.ifCond .eq 21, 3) := by decide +kernel
theorem d_Model_alike_8 : decode jc_Model_alike 8 = .ok (.aload_n 0, 1) := by decide +kernel
theorem d_Model_alike_9 : decode jc_Model_alike 9 = .ok (.iload_n 2, 1) := by decide +kernel
theorem d_Model_alike_10 : decode jc_Model_alike 10 = .ok (.invokevirtual 117, 3) := by decide +kernel
theorem d_Model_alike_13 : decode jc_Model_alike 13 = .ok (.ifCond .eq 13, 3) := by decide +kernel
theorem d_Model_alike_16 : decode jc_Model_alike 16 = .ok (.iload_n 3, 1) := by decide +kernel
theorem d_Model_alike_17 : decode jc_Model_alike 17 = .ok (.i2l, 1) := by decide +kernel
theorem d_Model_alike_18 : decode jc_Model_alike 18 = .ok (.lconst 0, 1) := by decide +kernel
theorem d_Model_alike_19 : decode jc_Model_alike 19 = .ok (.lconst 1, 1) := by decide +kernel
theorem d_Model_alike_20 : decode jc_Model_alike 20 = .ok (.invokestatic 107, 3) := by decide +kernel
theorem d_Model_alike_23 : decode jc_Model_alike 23 = .ok (.ifCond .ne 5, 3) := by decide +kernel
theorem d_Model_alike_26 : decode jc_Model_alike 26 = .ok (.iconst (-1), 1) := by decide +kernel
theorem d_Model_alike_27 : decode jc_Model_alike 27 = .ok (.ireturn, 1) := by decide +kernel
theorem d_Model_alike_28 : decode jc_Model_alike 28 = .ok (.aload_n 0, 1) := by decide +kernel
theorem d_Model_alike_29 : decode jc_Model_alike 29 = .ok (.getfield 13, 3) := by decide +kernel
theorem d_Model_alike_32 : decode jc_Model_alike 32 = .ok (.iload_n 1, 1) := by decide +kernel
theorem d_Model_alike_33 : decode jc_Model_alike 33 = .ok (.iaload, 1) := by decide +kernel
theorem d_Model_alike_34 : decode jc_Model_alike 34 = .ok (.aload_n 0, 1) := by decide +kernel
theorem d_Model_alike_35 : decode jc_Model_alike 35 = .ok (.getfield 13, 3) := by decide +kernel
theorem d_Model_alike_38 : decode jc_Model_alike 38 = .ok (.iload_n 2, 1) := by decide +kernel
theorem d_Model_alike_39 : decode jc_Model_alike 39 = .ok (.iaload, 1) := by decide +kernel
theorem d_Model_alike_40 : decode jc_Model_alike 40 = .ok (.if_icmp .eq 6, 3) := by decide +kernel
theorem d_Model_alike_43 : decode jc_Model_alike 43 = .ok (.bipush (-3), 2) := by decide +kernel
theorem d_Model_alike_45 : decode jc_Model_alike 45 = .ok (.ireturn, 1) := by decide +kernel
theorem d_Model_alike_46 : decode jc_Model_alike 46 = .ok (.iload_n 3, 1) := by decide +kernel
theorem d_Model_alike_47 : decode jc_Model_alike 47 = .ok (.ifCond .ne 27, 3) := by decide +kernel
theorem d_Model_alike_50 : decode jc_Model_alike 50 = .ok (.aload_n 0, 1) := by decide +kernel
theorem d_Model_alike_51 : decode jc_Model_alike 51 = .ok (.iload_n 1, 1) := by decide +kernel
theorem d_Model_alike_52 : decode jc_Model_alike 52 = .ok (.iload_n 2, 1) := by decide +kernel
theorem d_Model_alike_53 : decode jc_Model_alike 53 = .ok (.invokevirtual 231, 3) := by decide +kernel
theorem d_Model_alike_56 : decode jc_Model_alike 56 = .ok (.ifCond .eq 16, 3) := by decide +kernel
theorem d_Model_alike_59 : decode jc_Model_alike 59 = .ok (.aload_n 0, 1) := by decide +kernel
theorem d_Model_alike_60 : decode jc_Model_alike 60 = .ok (.iload_n 2, 1) := by decide +kernel
theorem d_Model_alike_61 : decode jc_Model_alike 61 = .ok (.iload_n 1, 1) := by decide +kernel
theorem d_Model_alike_62 : decode jc_Model_alike 62 = .ok (.invokevirtual 231, 3) := by decide +kernel
theorem d_Model_alike_65 : decode jc_Model_alike 65 = .ok (.ifCond .eq 7, 3) := by decide +kernel
theorem d_Model_alike_68 : decode jc_Model_alike 68 = .ok (.iconst 1, 1) := by decide +kernel
theorem d_Model_alike_69 : decode jc_Model_alike 69 = .ok (.goto 4, 3) := by decide +kernel
theorem d_Model_alike_72 : decode jc_Model_alike 72 = .ok (.iconst 0, 1) := by decide +kernel
theorem d_Model_alike_73 : decode jc_Model_alike 73 = .ok (.ireturn, 1) := by decide +kernel
theorem d_Model_alike_74 : decode jc_Model_alike 74 = .ok (.aload_n 0, 1) := by decide +kernel
theorem d_Model_alike_75 : decode jc_Model_alike 75 = .ok (.iload_n 1, 1) := by decide +kernel
theorem d_Model_alike_76 : decode jc_Model_alike 76 = .ok (.bipush 34, 2) := by decide +kernel
theorem d_Model_alike_78 : decode jc_Model_alike 78 = .ok (.invokevirtual 95, 3) := by decide +kernel
theorem d_Model_alike_81 : decode jc_Model_alike 81 = .ok (.aload_n 0, 1) := by decide +kernel
theorem d_Model_alike_82 : decode jc_Model_alike 82 = .ok (.iload_n 2, 1) := by decide +kernel
theorem d_Model_alike_83 : decode jc_Model_alike 83 = .ok (.bipush 35, 2) := by decide +kernel
theorem d_Model_alike_85 : decode jc_Model_alike 85 = .ok (.invokevirtual 95, 3) := by decide +kernel
theorem d_Model_alike_88 : decode jc_Model_alike 88 = .ok (.aload_n 0, 1) := by decide +kernel
theorem d_Model_alike_89 : decode jc_Model_alike 89 = .ok (.bipush 34, 2) := by decide +kernel
theorem d_Model_alike_91 : decode jc_Model_alike 91 = .ok (.bipush 35, 2) := by decide +kernel
theorem d_Model_alike_93 : decode jc_Model_alike 93 = .ok (.invokevirtual 231, 3) := by decide +kernel
theorem d_Model_alike_96 : decode jc_Model_alike 96 = .ok (.ifCond .eq 18, 3) := by decide +kernel
theorem d_Model_alike_99 : decode jc_Model_alike 99 = .ok (.aload_n 0, 1) := by decide +kernel
theorem d_Model_alike_100 : decode jc_Model_alike 100 = .ok (.bipush 35, 2) := by decide +kernel
theorem d_Model_alike_102 : decode jc_Model_alike 102 = .ok (.bipush 34, 2) := by decide +kernel
theorem d_Model_alike_104 : decode jc_Model_alike 104 = .ok (.invokevirtual 231, 3) := by decide +kernel
theorem d_Model_alike_107 : decode jc_Model_alike 107 = .ok (.ifCond .eq 7, 3) := by decide +kernel
theorem d_Model_alike_110 : decode jc_Model_alike 110 = .ok (.iconst 1, 1) := by decide +kernel
theorem d_Model_alike_111 : decode jc_Model_alike 111 = .ok (.goto 4, 3) := by decide +kernel
theorem d_Model_alike_114 : decode jc_Model_alike 114 = .ok (.iconst 0, 1) := by decide +kernel
theorem d_Model_alike_115 : decode jc_Model_alike 115 = .ok (.ireturn, 1) := by decide +kernel
theorem d_Model_layNumber_0 : decode jc_Model_layNumber 0 = .ok (.aload_n 0, 1) := by decide +kernel
theorem d_Model_layNumber_1 : decode jc_Model_layNumber 1 = .ok (.bipush 34, 2) := by decide +kernel
theorem d_Model_layNumber_3 : decode jc_Model_layNumber 3 = .ok (.iload_n 2, 1) := by decide +kernel
theorem d_Model_layNumber_4 : decode jc_Model_layNumber 4 = .ok (.invokevirtual 75, 3) := by decide +kernel
theorem d_Model_layNumber_7 : decode jc_Model_layNumber 7 = .ok (.iconst 0, 1) := by decide +kernel
theorem d_Model_layNumber_8 : decode jc_Model_layNumber 8 = .ok (.istore_n 3, 1) := by decide +kernel
theorem d_Model_layNumber_9 : decode jc_Model_layNumber 9 = .ok (.iload_n 3, 1) := by decide +kernel
theorem d_Model_layNumber_10 : decode jc_Model_layNumber 10 = .ok (.iload_n 2, 1) := by decide +kernel
theorem d_Model_layNumber_11 : decode jc_Model_layNumber 11 = .ok (.if_icmp .ge 30, 3) := by decide +kernel
theorem d_Model_layNumber_14 : decode jc_Model_layNumber 14 = .ok (.aload_n 0, 1) := by decide +kernel
theorem d_Model_layNumber_15 : decode jc_Model_layNumber 15 = .ok (.getfield 7, 3) := by decide +kernel
theorem d_Model_layNumber_18 : decode jc_Model_layNumber 18 = .ok (.sipush 408, 3) := by decide +kernel
theorem d_Model_layNumber_21 : decode jc_Model_layNumber 21 = .ok (.iload_n 3, 1) := by decide +kernel
theorem d_Model_layNumber_22 : decode jc_Model_layNumber 22 = .ok (.iadd, 1) := by decide +kernel
theorem d_Model_layNumber_23 : decode jc_Model_layNumber 23 = .ok (.iload_n 1, 1) := by decide +kernel
theorem d_Model_layNumber_24 : decode jc_Model_layNumber 24 = .ok (.iload_n 2, 1) := by decide +kernel
theorem d_Model_layNumber_25 : decode jc_Model_layNumber 25 = .ok (.iload_n 3, 1) := by decide +kernel
theorem d_Model_layNumber_26 : decode jc_Model_layNumber 26 = .ok (.imul, 1) := by decide +kernel
theorem d_Model_layNumber_27 : decode jc_Model_layNumber 27 = .ok (.ishr, 1) := by decide +kernel
theorem d_Model_layNumber_28 : decode jc_Model_layNumber 28 = .ok (.iconst 1, 1) := by decide +kernel
theorem d_Model_layNumber_29 : decode jc_Model_layNumber 29 = .ok (.iload_n 2, 1) := by decide +kernel
theorem d_Model_layNumber_30 : decode jc_Model_layNumber 30 = .ok (.ishl, 1) := by decide +kernel
theorem d_Model_layNumber_31 : decode jc_Model_layNumber 31 = .ok (.iconst 1, 1) := by decide +kernel
theorem d_Model_layNumber_32 : decode jc_Model_layNumber 32 = .ok (.isub, 1) := by decide +kernel
theorem d_Model_layNumber_33 : decode jc_Model_layNumber 33 = .ok (.iand, 1) := by decide +kernel
theorem d_Model_layNumber_34 : decode jc_Model_layNumber 34 = .ok (.iastore, 1) := by decide +kernel
theorem d_Model_layNumber_35 : decode jc_Model_layNumber 35 = .ok (.iinc 3 1, 3) := by decide +kernel
theorem d_Model_layNumber_38 : decode jc_Model_layNumber 38 = .ok (.goto (-29), 3) := by decide +kernel
theorem d_Model_layNumber_41 : decode jc_Model_layNumber 41 = .ok (.return_, 1) := by decide +kernel
theorem d_Model_isRoot_0 : decode jc_Model_isRoot 0 = .ok (.aload_n 0, 1) := by decide +kernel
theorem d_Model_isRoot_1 : decode jc_Model_isRoot 1 = .ok (.iload_n 2, 1) := by decide +kernel
theorem d_Model_isRoot_2 : decode jc_Model_isRoot 2 = .ok (.aload_n 0, 1) := by decide +kernel
theorem d_Model_isRoot_3 : decode jc_Model_isRoot 3 = .ok (.getfield 13, 3) := by decide +kernel
theorem d_Model_isRoot_6 : decode jc_Model_isRoot 6 = .ok (.iload_n 1, 1) := by decide +kernel
theorem d_Model_isRoot_7 : decode jc_Model_isRoot 7 = .ok (.iaload, 1) := by decide +kernel
theorem d_Model_isRoot_8 : decode jc_Model_isRoot 8 = .ok (.invokevirtual 234, 3) := by decide +kernel
theorem d_Model_isRoot_11 : decode jc_Model_isRoot 11 = .ok (.aload_n 0, 1) := by decide +kernel
theorem d_Model_isRoot_12 : decode jc_Model_isRoot 12 = .ok (.bipush 34, 2) := by decide +kernel
theorem d_Model_isRoot_14 : decode jc_Model_isRoot 14 = .ok (.bipush 35, 2) := by decide +kernel
theorem d_Model_isRoot_16 : decode jc_Model_isRoot 16 = .ok (.invokevirtual 85, 3) := by decide +kernel
theorem d_Model_isRoot_19 : decode jc_Model_isRoot 19 = .ok (.iconst 1, 1) := by decide +kernel
theorem d_Model_isRoot_20 : decode jc_Model_isRoot 20 = .ok (.istore 4, 2) := by decide +kernel
theorem d_Model_isRoot_22 : decode jc_Model_isRoot 22 = .ok (.iload 4, 2) := by decide +kernel
theorem d_Model_isRoot_24 : decode jc_Model_isRoot 24 = .ok (.iload_n 3, 1) := by decide +kernel
theorem d_Model_isRoot_25 : decode jc_Model_isRoot 25 = .ok (.if_icmp .ge 27, 3) := by decide +kernel
theorem d_Model_isRoot_28 : decode jc_Model_isRoot 28 = .ok (.aload_n 0, 1) := by decide +kernel
theorem d_Model_isRoot_29 : decode jc_Model_isRoot 29 = .ok (.bipush 35, 2) := by decide +kernel
theorem d_Model_isRoot_31 : decode jc_Model_isRoot 31 = .ok (.bipush 34, 2) := by decide +kernel
theorem d_Model_isRoot_33 : decode jc_Model_isRoot 33 = .ok (.bipush 36, 2) := by decide +kernel
theorem d_Model_isRoot_35 : decode jc_Model_isRoot 35 = .ok (.invokevirtual 88, 3) := by decide +kernel
theorem d_Model_isRoot_38 : decode jc_Model_isRoot 38 = .ok (.aload_n 0, 1) := by decide +kernel
theorem d_Model_isRoot_39 : decode jc_Model_isRoot 39 = .ok (.bipush 36, 2) := by decide +kernel
theorem d_Model_isRoot_41 : decode jc_Model_isRoot 41 = .ok (.bipush 35, 2) := by decide +kernel
theorem d_Model_isRoot_43 : decode jc_Model_isRoot 43 = .ok (.invokevirtual 85, 3) := by decide +kernel
theorem d_Model_isRoot_46 : decode jc_Model_isRoot 46 = .ok (.iinc 4 1, 3) := by decide +kernel
theorem d_Model_isRoot_49 : decode jc_Model_isRoot 49 = .ok (.goto (-27), 3) := by decide +kernel
theorem d_Model_isRoot_52 : decode jc_Model_isRoot 52 = .ok (.aload_n 0, 1) := by decide +kernel
theorem d_Model_isRoot_53 : decode jc_Model_isRoot 53 = .ok (.bipush 35, 2) := by decide +kernel
theorem d_Model_isRoot_55 : decode jc_Model_isRoot 55 = .ok (.iload_n 1, 1) := by decide +kernel
theorem d_Model_isRoot_56 : decode jc_Model_isRoot 56 = .ok (.invokevirtual 138, 3) := by decide +kernel
theorem d_Model_isRoot_59 : decode jc_Model_isRoot 59 = .ok (.ireturn, 1) := by decide +kernel
theorem d_Model_isDegree_0 : decode jc_Model_isDegree 0 = .ok (.iload_n 0, 1) := by decide +kernel
theorem d_Model_isDegree_1 : decode jc_Model_isDegree 1 = .ok (.i2l, 1) := by decide +kernel
theorem d_Model_isDegree_2 : decode jc_Model_isDegree 2 = .ok (.ldc2_w 237, 3) := by decide +kernel
theorem d_Model_isDegree_5 : decode jc_Model_isDegree 5 = .ok (.ldc2_w 239, 3) := by decide +kernel
theorem d_Model_isDegree_8 : decode jc_Model_isDegree 8 = .ok (.invokestatic 107, 3) := by decide +kernel
theorem d_Model_isDegree_11 : decode jc_Model_isDegree 11 = .ok (.ireturn, 1) := by decide +kernel
theorem d_Model_roots_0 : decode jc_Model_roots 0 = .ok (.aload_n 0, 1) := by decide +kernel
theorem d_Model_roots_1 : decode jc_Model_roots 1 = .ok (.iload_n 1, 1) := by decide +kernel
theorem d_Model_roots_2 : decode jc_Model_roots 2 = .ok (.invokevirtual 117, 3) := by decide +kernel
theorem d_Model_roots_5 : decode jc_Model_roots 5 = .ok (.ifCond .eq 10, 3) := by decide +kernel
theorem d_Model_roots_8 : decode jc_Model_roots 8 = .ok (.iload_n 2, 1) := by decide +kernel
theorem d_Model_roots_9 : decode jc_Model_roots 9 = .ok (.invokestatic 241, 3) := by decide +kernel
theorem d_Model_roots_12 : decode jc_Model_roots 12 = .ok (.ifCond .ne 5, 3) := by decide +kernel
theorem d_Model_roots_15 : decode jc_Model_roots 15 = .ok (.iconst (-1), 1) := by decide +kernel
theorem d_Model_roots_16 : decode jc_Model_roots 16 = .ok (.ireturn, 1) := by decide +kernel
theorem d_Model_roots_17 : decode jc_Model_roots 17 = .ok (.aload_n 0, 1) := by decide +kernel
theorem d_Model_roots_18 : decode jc_Model_roots 18 = .ok (.getfield 13, 3) := by decide +kernel
theorem d_Model_roots_21 : decode jc_Model_roots 21 = .ok (.iload_n 1, 1) := by decide +kernel
theorem d_Model_roots_22 : decode jc_Model_roots 22 = .ok (.iaload, 1) := by decide +kernel
theorem d_Model_roots_23 : decode jc_Model_roots 23 = .ok (.istore_n 3, 1) := by decide +kernel
theorem d_Model_roots_24 : decode jc_Model_roots 24 = .ok (.iload_n 3, 1) := by decide +kernel
theorem d_Model_roots_25 : decode jc_Model_roots 25 = .ok (.iconst 4, 1) := by decide +kernel
theorem d_Model_roots_26 : decode jc_Model_roots 26 = .ok (.if_icmp .le 6, 3) := by decide +kernel
theorem d_Model_roots_29 : decode jc_Model_roots 29 = .ok (.bipush (-5), 2) := by decide +kernel
theorem d_Model_roots_31 : decode jc_Model_roots 31 = .ok (.ireturn, 1) := by decide +kernel
theorem d_Model_roots_32 : decode jc_Model_roots 32 = .ok (.iconst 0, 1) := by decide +kernel
theorem d_Model_roots_33 : decode jc_Model_roots 33 = .ok (.istore 4, 2) := by decide +kernel
theorem d_Model_roots_35 : decode jc_Model_roots 35 = .ok (.iconst 0, 1) := by decide +kernel
theorem d_Model_roots_36 : decode jc_Model_roots 36 = .ok (.istore 5, 2) := by decide +kernel
theorem d_Model_roots_38 : decode jc_Model_roots 38 = .ok (.iload 5, 2) := by decide +kernel
theorem d_Model_roots_40 : decode jc_Model_roots 40 = .ok (.iconst 1, 1) := by decide +kernel
theorem d_Model_roots_41 : decode jc_Model_roots 41 = .ok (.iload_n 3, 1) := by decide +kernel
theorem d_Model_roots_42 : decode jc_Model_roots 42 = .ok (.iload_n 3, 1) := by decide +kernel
theorem d_Model_roots_43 : decode jc_Model_roots 43 = .ok (.imul, 1) := by decide +kernel
theorem d_Model_roots_44 : decode jc_Model_roots 44 = .ok (.ishl, 1) := by decide +kernel
theorem d_Model_roots_45 : decode jc_Model_roots 45 = .ok (.if_icmp .ge 30, 3) := by decide +kernel
theorem d_Model_roots_48 : decode jc_Model_roots 48 = .ok (.iload 4, 2) := by decide +kernel
theorem d_Model_roots_50 : decode jc_Model_roots 50 = .ok (.aload_n 0, 1) := by decide +kernel
theorem d_Model_roots_51 : decode jc_Model_roots 51 = .ok (.iload_n 1, 1) := by decide +kernel
theorem d_Model_roots_52 : decode jc_Model_roots 52 = .ok (.iload 5, 2) := by decide +kernel
theorem d_Model_roots_54 : decode jc_Model_roots 54 = .ok (.iload_n 2, 1) := by decide +kernel
theorem d_Model_roots_55 : decode jc_Model_roots 55 = .ok (.invokevirtual 244, 3) := by decide +kernel
theorem d_Model_roots_58 : decode jc_Model_roots 58 = .ok (.ifCond .eq 7, 3) := by decide +kernel
theorem d_Model_roots_61 : decode jc_Model_roots 61 = .ok (.iconst 1, 1) := by decide +kernel
theorem d_Model_roots_62 : decode jc_Model_roots 62 = .ok (.goto 4, 3) := by decide +kernel
theorem d_Model_roots_65 : decode jc_Model_roots 65 = .ok (.iconst 0, 1) := by decide +kernel
theorem d_Model_roots_66 : decode jc_Model_roots 66 = .ok (.iadd, 1) := by decide +kernel
theorem d_Model_roots_67 : decode jc_Model_roots 67 = .ok (.istore 4, 2) := by decide +kernel
theorem d_Model_roots_69 : decode jc_Model_roots 69 = .ok (.iinc 5 1, 3) := by decide +kernel
theorem d_Model_roots_72 : decode jc_Model_roots 72 = .ok (.goto (-34), 3) := by decide +kernel
theorem d_Model_roots_75 : decode jc_Model_roots 75 = .ok (.iload 4, 2) := by decide +kernel
theorem d_Model_roots_77 : decode jc_Model_roots 77 = .ok (.ireturn, 1) := by decide +kernel
theorem d_Model_root_0 : decode jc_Model_root 0 = .ok (.aload_n 0, 1) := by decide +kernel
theorem d_Model_root_1 : decode jc_Model_root 1 = .ok (.iload_n 1, 1) := by decide +kernel
theorem d_Model_root_2 : decode jc_Model_root 2 = .ok (.invokevirtual 117, 3) := by decide +kernel
theorem d_Model_root_5 : decode jc_Model_root 5 = .ok (.ifCond .eq 17, 3) := by decide +kernel
theorem d_Model_root_8 : decode jc_Model_root 8 = .ok (.iload_n 2, 1) := by decide +kernel
theorem d_Model_root_9 : decode jc_Model_root 9 = .ok (.invokestatic 241, 3) := by decide +kernel
theorem d_Model_root_12 : decode jc_Model_root 12 = .ok (.ifCond .eq 10, 3) := by decide +kernel
theorem d_Model_root_15 : decode jc_Model_root 15 = .ok (.iload_n 3, 1) := by decide +kernel
theorem d_Model_root_16 : decode jc_Model_root 16 = .ok (.invokestatic 63, 3) := by decide +kernel
theorem d_Model_root_19 : decode jc_Model_root 19 = .ok (.ifCond .ne 5, 3) := by decide +kernel
theorem d_Model_root_22 : decode jc_Model_root 22 = .ok (.iconst (-1), 1) := by decide +kernel
theorem d_Model_root_23 : decode jc_Model_root 23 = .ok (.ireturn, 1) := by decide +kernel
theorem d_Model_root_24 : decode jc_Model_root 24 = .ok (.aload_n 0, 1) := by decide +kernel
theorem d_Model_root_25 : decode jc_Model_root 25 = .ok (.getfield 13, 3) := by decide +kernel
theorem d_Model_root_28 : decode jc_Model_root 28 = .ok (.iload_n 1, 1) := by decide +kernel
theorem d_Model_root_29 : decode jc_Model_root 29 = .ok (.iaload, 1) := by decide +kernel
theorem d_Model_root_30 : decode jc_Model_root 30 = .ok (.istore 4, 2) := by decide +kernel
theorem d_Model_root_32 : decode jc_Model_root 32 = .ok (.iload 4, 2) := by decide +kernel
theorem d_Model_root_34 : decode jc_Model_root 34 = .ok (.iconst 4, 1) := by decide +kernel
theorem d_Model_root_35 : decode jc_Model_root 35 = .ok (.if_icmp .le 6, 3) := by decide +kernel
theorem d_Model_root_38 : decode jc_Model_root 38 = .ok (.bipush (-5), 2) := by decide +kernel
theorem d_Model_root_40 : decode jc_Model_root 40 = .ok (.ireturn, 1) := by decide +kernel
theorem d_Model_root_41 : decode jc_Model_root 41 = .ok (.iconst 0, 1) := by decide +kernel
theorem d_Model_root_42 : decode jc_Model_root 42 = .ok (.istore 5, 2) := by decide +kernel
theorem d_Model_root_44 : decode jc_Model_root 44 = .ok (.iload 5, 2) := by decide +kernel
theorem d_Model_root_46 : decode jc_Model_root 46 = .ok (.iconst 1, 1) := by decide +kernel
theorem d_Model_root_47 : decode jc_Model_root 47 = .ok (.iload 4, 2) := by decide +kernel
theorem d_Model_root_49 : decode jc_Model_root 49 = .ok (.iload 4, 2) := by decide +kernel
theorem d_Model_root_51 : decode jc_Model_root 51 = .ok (.imul, 1) := by decide +kernel
theorem d_Model_root_52 : decode jc_Model_root 52 = .ok (.ishl, 1) := by decide +kernel
theorem d_Model_root_53 : decode jc_Model_root 53 = .ok (.if_icmp .ge 38, 3) := by decide +kernel
theorem d_Model_root_56 : decode jc_Model_root 56 = .ok (.aload_n 0, 1) := by decide +kernel
theorem d_Model_root_57 : decode jc_Model_root 57 = .ok (.iload_n 1, 1) := by decide +kernel
theorem d_Model_root_58 : decode jc_Model_root 58 = .ok (.iload 5, 2) := by decide +kernel
theorem d_Model_root_60 : decode jc_Model_root 60 = .ok (.iload_n 2, 1) := by decide +kernel
theorem d_Model_root_61 : decode jc_Model_root 61 = .ok (.invokevirtual 244, 3) := by decide +kernel
theorem d_Model_root_64 : decode jc_Model_root 64 = .ok (.ifCond .eq 21, 3) := by decide +kernel
theorem d_Model_root_67 : decode jc_Model_root 67 = .ok (.aload_n 0, 1) := by decide +kernel
theorem d_Model_root_68 : decode jc_Model_root 68 = .ok (.bipush 34, 2) := by decide +kernel
theorem d_Model_root_70 : decode jc_Model_root 70 = .ok (.bipush 35, 2) := by decide +kernel
theorem d_Model_root_72 : decode jc_Model_root 72 = .ok (.invokevirtual 85, 3) := by decide +kernel
theorem d_Model_root_75 : decode jc_Model_root 75 = .ok (.aload_n 0, 1) := by decide +kernel
theorem d_Model_root_76 : decode jc_Model_root 76 = .ok (.iload_n 3, 1) := by decide +kernel
theorem d_Model_root_77 : decode jc_Model_root 77 = .ok (.invokevirtual 113, 3) := by decide +kernel
theorem d_Model_root_80 : decode jc_Model_root 80 = .ok (.istore 6, 2) := by decide +kernel
theorem d_Model_root_82 : decode jc_Model_root 82 = .ok (.iload 5, 2) := by decide +kernel
theorem d_Model_root_84 : decode jc_Model_root 84 = .ok (.ireturn, 1) := by decide +kernel
theorem d_Model_root_85 : decode jc_Model_root 85 = .ok (.iinc 5 1, 3) := by decide +kernel
theorem d_Model_root_88 : decode jc_Model_root 88 = .ok (.goto (-44), 3) := by decide +kernel
theorem d_Model_root_91 : decode jc_Model_root 91 = .ok (.bipush (-2), 2) := by decide +kernel
theorem d_Model_root_93 : decode jc_Model_root 93 = .ok (.ireturn, 1) := by decide +kernel
theorem d_Model_isLink_0 : decode jc_Model_isLink 0 = .ok (.iload_n 1, 1) := by decide +kernel
theorem d_Model_isLink_1 : decode jc_Model_isLink 1 = .ok (.tableswitch 56 0 6 #[43, 43, 45, 51, 56, 43, 45], 43) := by decide +kernel
theorem d_Model_isLink_44 : decode jc_Model_isLink 44 = .ok (.iconst 1, 1) := by decide +kernel
theorem d_Model_isLink_45 : decode jc_Model_isLink 45 = .ok (.ireturn, 1) := by decide +kernel
theorem d_Model_isLink_46 : decode jc_Model_isLink 46 = .ok (.aload_n 0, 1) := by decide +kernel
theorem d_Model_isLink_47 : decode jc_Model_isLink 47 = .ok (.iload_n 2, 1) := by decide +kernel
theorem d_Model_isLink_48 : decode jc_Model_isLink 48 = .ok (.invokevirtual 117, 3) := by decide +kernel
theorem d_Model_isLink_51 : decode jc_Model_isLink 51 = .ok (.ireturn, 1) := by decide +kernel
theorem d_Model_isLink_52 : decode jc_Model_isLink 52 = .ok (.iload_n 2, 1) := by decide +kernel
theorem d_Model_isLink_53 : decode jc_Model_isLink 53 = .ok (.invokestatic 63, 3) := by decide +kernel
theorem d_Model_isLink_56 : decode jc_Model_isLink 56 = .ok (.ireturn, 1) := by decide +kernel
theorem d_Model_isLink_57 : decode jc_Model_isLink 57 = .ok (.iload_n 1, 1) := by decide +kernel
theorem d_Model_isLink_58 : decode jc_Model_isLink 58 = .ok (.iconst 4, 1) := by decide +kernel
theorem d_Model_isLink_59 : decode jc_Model_isLink 59 = .ok (.if_icmp .ne 19, 3) := by decide +kernel
theorem d_Model_isLink_62 : decode jc_Model_isLink 62 = .ok (.iload_n 2, 1) := by decide +kernel
theorem d_Model_isLink_63 : decode jc_Model_isLink 63 = .ok (.i2l, 1) := by decide +kernel
theorem d_Model_isLink_64 : decode jc_Model_isLink 64 = .ok (.lconst 0, 1) := by decide +kernel
theorem d_Model_isLink_65 : decode jc_Model_isLink 65 = .ok (.ldc2_w 247, 3) := by decide +kernel
theorem d_Model_isLink_68 : decode jc_Model_isLink 68 = .ok (.invokestatic 107, 3) := by decide +kernel
theorem d_Model_isLink_71 : decode jc_Model_isLink 71 = .ok (.ifCond .eq 7, 3) := by decide +kernel
theorem d_Model_isLink_74 : decode jc_Model_isLink 74 = .ok (.iconst 1, 1) := by decide +kernel
theorem d_Model_isLink_75 : decode jc_Model_isLink 75 = .ok (.goto 4, 3) := by decide +kernel
theorem d_Model_isLink_78 : decode jc_Model_isLink 78 = .ok (.iconst 0, 1) := by decide +kernel
theorem d_Model_isLink_79 : decode jc_Model_isLink 79 = .ok (.ireturn, 1) := by decide +kernel
theorem d_Model_link_0 : decode jc_Model_link 0 = .ok (.aload_n 0, 1) := by decide +kernel
theorem d_Model_link_1 : decode jc_Model_link 1 = .ok (.iload_n 1, 1) := by decide +kernel
theorem d_Model_link_2 : decode jc_Model_link 2 = .ok (.iload_n 2, 1) := by decide +kernel
theorem d_Model_link_3 : decode jc_Model_link 3 = .ok (.invokevirtual 249, 3) := by decide +kernel
theorem d_Model_link_6 : decode jc_Model_link 6 = .ok (.ifCond .ne 5, 3) := by decide +kernel
theorem d_Model_link_9 : decode jc_Model_link 9 = .ok (.iconst (-1), 1) := by decide +kernel
theorem d_Model_link_10 : decode jc_Model_link 10 = .ok (.ireturn, 1) := by decide +kernel
theorem d_Model_link_11 : decode jc_Model_link 11 = .ok (.aload_n 0, 1) := by decide +kernel
theorem d_Model_link_12 : decode jc_Model_link 12 = .ok (.getfield 252, 3) := by decide +kernel
theorem d_Model_link_15 : decode jc_Model_link 15 = .ok (.bipush 8, 2) := by decide +kernel
theorem d_Model_link_17 : decode jc_Model_link 17 = .ok (.if_icmp .ne 6, 3) := by decide +kernel
theorem d_Model_link_20 : decode jc_Model_link 20 = .ok (.bipush (-4), 2) := by decide +kernel
theorem d_Model_link_22 : decode jc_Model_link 22 = .ok (.ireturn, 1) := by decide +kernel
theorem d_Model_link_23 : decode jc_Model_link 23 = .ok (.aload_n 0, 1) := by decide +kernel
theorem d_Model_link_24 : decode jc_Model_link 24 = .ok (.getfield 19, 3) := by decide +kernel
theorem d_Model_link_27 : decode jc_Model_link 27 = .ok (.aload_n 0, 1) := by decide +kernel
theorem d_Model_link_28 : decode jc_Model_link 28 = .ok (.getfield 252, 3) := by decide +kernel
theorem d_Model_link_31 : decode jc_Model_link 31 = .ok (.iload_n 1, 1) := by decide +kernel
theorem d_Model_link_32 : decode jc_Model_link 32 = .ok (.iastore, 1) := by decide +kernel
theorem d_Model_link_33 : decode jc_Model_link 33 = .ok (.aload_n 0, 1) := by decide +kernel
theorem d_Model_link_34 : decode jc_Model_link 34 = .ok (.getfield 22, 3) := by decide +kernel
theorem d_Model_link_37 : decode jc_Model_link 37 = .ok (.aload_n 0, 1) := by decide +kernel
theorem d_Model_link_38 : decode jc_Model_link 38 = .ok (.getfield 252, 3) := by decide +kernel
theorem d_Model_link_41 : decode jc_Model_link 41 = .ok (.iload_n 2, 1) := by decide +kernel
theorem d_Model_link_42 : decode jc_Model_link 42 = .ok (.iastore, 1) := by decide +kernel
theorem d_Model_link_43 : decode jc_Model_link 43 = .ok (.iload_n 1, 1) := by decide +kernel
theorem d_Model_link_44 : decode jc_Model_link 44 = .ok (.iconst 2, 1) := by decide +kernel
theorem d_Model_link_45 : decode jc_Model_link 45 = .ok (.if_icmp .eq 9, 3) := by decide +kernel
theorem d_Model_link_48 : decode jc_Model_link 48 = .ok (.iload_n 1, 1) := by decide +kernel
theorem d_Model_link_49 : decode jc_Model_link 49 = .ok (.bipush 6, 2) := by decide +kernel
theorem d_Model_link_51 : decode jc_Model_link 51 = .ok (.if_icmp .ne 15, 3) := by decide +kernel
theorem d_Model_link_54 : decode jc_Model_link 54 = .ok (.aload_n 0, 1) := by decide +kernel
theorem d_Model_link_55 : decode jc_Model_link 55 = .ok (.iload_n 2, 1) := by decide +kernel
theorem d_Model_link_56 : decode jc_Model_link 56 = .ok (.bipush 26, 2) := by decide +kernel
theorem d_Model_link_58 : decode jc_Model_link 58 = .ok (.aload_n 0, 1) := by decide +kernel
theorem d_Model_link_59 : decode jc_Model_link 59 = .ok (.getfield 252, 3) := by decide +kernel
theorem d_Model_link_62 : decode jc_Model_link 62 = .ok (.iadd, 1) := by decide +kernel
theorem d_Model_link_63 : decode jc_Model_link 63 = .ok (.invokevirtual 85, 3) := by decide +kernel
theorem d_Model_link_66 : decode jc_Model_link 66 = .ok (.aload_n 0, 1) := by decide +kernel
theorem d_Model_link_67 : decode jc_Model_link 67 = .ok (.dup, 1) := by decide +kernel
theorem d_Model_link_68 : decode jc_Model_link 68 = .ok (.getfield 252, 3) := by decide +kernel
theorem d_Model_link_71 : decode jc_Model_link 71 = .ok (.iconst 1, 1) := by decide +kernel
theorem d_Model_link_72 : decode jc_Model_link 72 = .ok (.iadd, 1) := by decide +kernel
theorem d_Model_link_73 : decode jc_Model_link 73 = .ok (.putfield 252, 3) := by decide +kernel
theorem d_Model_link_76 : decode jc_Model_link 76 = .ok (.aload_n 0, 1) := by decide +kernel
theorem d_Model_link_77 : decode jc_Model_link 77 = .ok (.getfield 252, 3) := by decide +kernel
theorem d_Model_link_80 : decode jc_Model_link 80 = .ok (.ireturn, 1) := by decide +kernel
theorem d_Model_otherOf_0 : decode jc_Model_otherOf 0 = .ok (.aload_n 0, 1) := by decide +kernel
theorem d_Model_otherOf_1 : decode jc_Model_otherOf 1 = .ok (.getfield 19, 3) := by decide +kernel
theorem d_Model_otherOf_4 : decode jc_Model_otherOf 4 = .ok (.iload_n 1, 1) := by decide +kernel
theorem d_Model_otherOf_5 : decode jc_Model_otherOf 5 = .ok (.iaload, 1) := by decide +kernel
theorem d_Model_otherOf_6 : decode jc_Model_otherOf 6 = .ok (.iconst 3, 1) := by decide +kernel
theorem d_Model_otherOf_7 : decode jc_Model_otherOf 7 = .ok (.if_icmp .ne 12, 3) := by decide +kernel
theorem d_Model_otherOf_10 : decode jc_Model_otherOf 10 = .ok (.aload_n 0, 1) := by decide +kernel
theorem d_Model_otherOf_11 : decode jc_Model_otherOf 11 = .ok (.getfield 22, 3) := by decide +kernel
theorem d_Model_otherOf_14 : decode jc_Model_otherOf 14 = .ok (.iload_n 1, 1) := by decide +kernel
theorem d_Model_otherOf_15 : decode jc_Model_otherOf 15 = .ok (.iaload, 1) := by decide +kernel
theorem d_Model_otherOf_16 : decode jc_Model_otherOf 16 = .ok (.goto 7, 3) := by decide +kernel
theorem d_Model_otherOf_19 : decode jc_Model_otherOf 19 = .ok (.bipush 26, 2) := by decide +kernel
theorem d_Model_otherOf_21 : decode jc_Model_otherOf 21 = .ok (.iload_n 1, 1) := by decide +kernel
theorem d_Model_otherOf_22 : decode jc_Model_otherOf 22 = .ok (.iadd, 1) := by decide +kernel
theorem d_Model_otherOf_23 : decode jc_Model_otherOf 23 = .ok (.ireturn, 1) := by decide +kernel
theorem d_Model_stopsAt_0 : decode jc_Model_stopsAt 0 = .ok (.aload_n 0, 1) := by decide +kernel
theorem d_Model_stopsAt_1 : decode jc_Model_stopsAt 1 = .ok (.getfield 19, 3) := by decide +kernel
theorem d_Model_stopsAt_4 : decode jc_Model_stopsAt 4 = .ok (.iload_n 1, 1) := by decide +kernel
theorem d_Model_stopsAt_5 : decode jc_Model_stopsAt 5 = .ok (.iaload, 1) := by decide +kernel
theorem d_Model_stopsAt_6 : decode jc_Model_stopsAt 6 = .ok (.istore_n 2, 1) := by decide +kernel
theorem d_Model_stopsAt_7 : decode jc_Model_stopsAt 7 = .ok (.iload_n 2, 1) := by decide +kernel
theorem d_Model_stopsAt_8 : decode jc_Model_stopsAt 8 = .ok (.iconst 2, 1) := by decide +kernel
theorem d_Model_stopsAt_9 : decode jc_Model_stopsAt 9 = .ok (.if_icmp .eq 16, 3) := by decide +kernel
theorem d_Model_stopsAt_12 : decode jc_Model_stopsAt 12 = .ok (.iload_n 2, 1) := by decide +kernel
theorem d_Model_stopsAt_13 : decode jc_Model_stopsAt 13 = .ok (.iconst 3, 1) := by decide +kernel
theorem d_Model_stopsAt_14 : decode jc_Model_stopsAt 14 = .ok (.if_icmp .eq 11, 3) := by decide +kernel
theorem d_Model_stopsAt_17 : decode jc_Model_stopsAt 17 = .ok (.iload_n 2, 1) := by decide +kernel
theorem d_Model_stopsAt_18 : decode jc_Model_stopsAt 18 = .ok (.bipush 6, 2) := by decide +kernel
theorem d_Model_stopsAt_20 : decode jc_Model_stopsAt 20 = .ok (.if_icmp .eq 5, 3) := by decide +kernel
theorem d_Model_stopsAt_23 : decode jc_Model_stopsAt 23 = .ok (.iconst 0, 1) := by decide +kernel
theorem d_Model_stopsAt_24 : decode jc_Model_stopsAt 24 = .ok (.ireturn, 1) := by decide +kernel
theorem d_Model_stopsAt_25 : decode jc_Model_stopsAt 25 = .ok (.aload_n 0, 1) := by decide +kernel
theorem d_Model_stopsAt_26 : decode jc_Model_stopsAt 26 = .ok (.getfield 13, 3) := by decide +kernel
theorem d_Model_stopsAt_29 : decode jc_Model_stopsAt 29 = .ok (.aload_n 0, 1) := by decide +kernel
theorem d_Model_stopsAt_30 : decode jc_Model_stopsAt 30 = .ok (.iload_n 1, 1) := by decide +kernel
theorem d_Model_stopsAt_31 : decode jc_Model_stopsAt 31 = .ok (.invokevirtual 255, 3) := by decide +kernel
theorem d_Model_stopsAt_34 : decode jc_Model_stopsAt 34 = .ok (.iaload, 1) := by decide +kernel
theorem d_Model_stopsAt_35 : decode jc_Model_stopsAt 35 = .ok (.istore_n 3, 1) := by decide +kernel
theorem d_Model_stopsAt_36 : decode jc_Model_stopsAt 36 = .ok (.iload_n 3, 1) := by decide +kernel
theorem d_Model_stopsAt_37 : decode jc_Model_stopsAt 37 = .ok (.ifCond .ne 15, 3) := by decide +kernel
theorem d_Model_stopsAt_40 : decode jc_Model_stopsAt 40 = .ok (.bipush 100, 2) := by decide +kernel
theorem d_Model_stopsAt_42 : decode jc_Model_stopsAt 42 = .ok (.aload_n 0, 1) := by decide +kernel
theorem d_Model_stopsAt_43 : decode jc_Model_stopsAt 43 = .ok (.getfield 22, 3) := by decide +kernel
theorem d_Model_stopsAt_46 : decode jc_Model_stopsAt 46 = .ok (.iload_n 1, 1) := by decide +kernel
theorem d_Model_stopsAt_47 : decode jc_Model_stopsAt 47 = .ok (.iaload, 1) := by decide +kernel
theorem d_Model_stopsAt_48 : decode jc_Model_stopsAt 48 = .ok (.iadd, 1) := by decide +kernel
theorem d_Model_stopsAt_49 : decode jc_Model_stopsAt 49 = .ok (.goto 19, 3) := by decide +kernel
theorem d_Model_stopsAt_52 : decode jc_Model_stopsAt 52 = .ok (.iload_n 3, 1) := by decide +kernel
theorem d_Model_stopsAt_53 : decode jc_Model_stopsAt 53 = .ok (.aload_n 0, 1) := by decide +kernel
theorem d_Model_stopsAt_54 : decode jc_Model_stopsAt 54 = .ok (.getfield 13, 3) := by decide +kernel
theorem d_Model_stopsAt_57 : decode jc_Model_stopsAt 57 = .ok (.bipush 34, 2) := by decide +kernel
theorem d_Model_stopsAt_59 : decode jc_Model_stopsAt 59 = .ok (.iaload, 1) := by decide +kernel
theorem d_Model_stopsAt_60 : decode jc_Model_stopsAt 60 = .ok (.if_icmp .eq 7, 3) := by decide +kernel
theorem d_Model_stopsAt_63 : decode jc_Model_stopsAt 63 = .ok (.iload_n 3, 1) := by decide +kernel
theorem d_Model_stopsAt_64 : decode jc_Model_stopsAt 64 = .ok (.goto 4, 3) := by decide +kernel
theorem d_Model_stopsAt_67 : decode jc_Model_stopsAt 67 = .ok (.iconst 0, 1) := by decide +kernel
theorem d_Model_stopsAt_68 : decode jc_Model_stopsAt 68 = .ok (.ireturn, 1) := by decide +kernel
theorem d_Model_goesThrough_0 : decode jc_Model_goesThrough 0 = .ok (.aload_n 0, 1) := by decide +kernel
theorem d_Model_goesThrough_1 : decode jc_Model_goesThrough 1 = .ok (.getfield 19, 3) := by decide +kernel
theorem d_Model_goesThrough_4 : decode jc_Model_goesThrough 4 = .ok (.iload_n 1, 1) := by decide +kernel
theorem d_Model_goesThrough_5 : decode jc_Model_goesThrough 5 = .ok (.iaload, 1) := by decide +kernel
theorem d_Model_goesThrough_6 : decode jc_Model_goesThrough 6 = .ok (.tableswitch 132 0 5 #[38, 49, 66, 82, 104, 121], 38) := by decide +kernel
theorem d_Model_goesThrough_44 : decode jc_Model_goesThrough 44 = .ok (.aload_n 0, 1) := by decide +kernel
theorem d_Model_goesThrough_45 : decode jc_Model_goesThrough 45 = .ok (.bipush 34, 2) := by decide +kernel
theorem d_Model_goesThrough_47 : decode jc_Model_goesThrough 47 = .ok (.bipush 35, 2) := by decide +kernel
theorem d_Model_goesThrough_49 : decode jc_Model_goesThrough 49 = .ok (.invokevirtual 95, 3) := by decide +kernel
theorem d_Model_goesThrough_52 : decode jc_Model_goesThrough 52 = .ok (.goto 105, 3) := by decide +kernel
theorem d_Model_goesThrough_55 : decode jc_Model_goesThrough 55 = .ok (.aload_n 0, 1) := by decide +kernel
theorem d_Model_goesThrough_56 : decode jc_Model_goesThrough 56 = .ok (.bipush 34, 2) := by decide +kernel
theorem d_Model_goesThrough_58 : decode jc_Model_goesThrough 58 = .ok (.bipush 35, 2) := by decide +kernel
theorem d_Model_goesThrough_60 : decode jc_Model_goesThrough 60 = .ok (.invokevirtual 85, 3) := by decide +kernel
theorem d_Model_goesThrough_63 : decode jc_Model_goesThrough 63 = .ok (.aload_n 0, 1) := by decide +kernel
theorem d_Model_goesThrough_64 : decode jc_Model_goesThrough 64 = .ok (.bipush 35, 2) := by decide +kernel
theorem d_Model_goesThrough_66 : decode jc_Model_goesThrough 66 = .ok (.invokevirtual 98, 3) := by decide +kernel
theorem d_Model_goesThrough_69 : decode jc_Model_goesThrough 69 = .ok (.goto 88, 3) := by decide +kernel
theorem d_Model_goesThrough_72 : decode jc_Model_goesThrough 72 = .ok (.aload_n 0, 1) := by decide +kernel
theorem d_Model_goesThrough_73 : decode jc_Model_goesThrough 73 = .ok (.bipush 34, 2) := by decide +kernel
theorem d_Model_goesThrough_75 : decode jc_Model_goesThrough 75 = .ok (.aload_n 0, 1) := by decide +kernel
theorem d_Model_goesThrough_76 : decode jc_Model_goesThrough 76 = .ok (.iload_n 1, 1) := by decide +kernel
theorem d_Model_goesThrough_77 : decode jc_Model_goesThrough 77 = .ok (.invokevirtual 255, 3) := by decide +kernel
theorem d_Model_goesThrough_80 : decode jc_Model_goesThrough 80 = .ok (.bipush 35, 2) := by decide +kernel
theorem d_Model_goesThrough_82 : decode jc_Model_goesThrough 82 = .ok (.invokevirtual 88, 3) := by decide +kernel
theorem d_Model_goesThrough_85 : decode jc_Model_goesThrough 85 = .ok (.goto 72, 3) := by decide +kernel
theorem d_Model_goesThrough_88 : decode jc_Model_goesThrough 88 = .ok (.aload_n 0, 1) := by decide +kernel
theorem d_Model_goesThrough_89 : decode jc_Model_goesThrough 89 = .ok (.bipush 34, 2) := by decide +kernel
theorem d_Model_goesThrough_91 : decode jc_Model_goesThrough 91 = .ok (.bipush 35, 2) := by decide +kernel
theorem d_Model_goesThrough_93 : decode jc_Model_goesThrough 93 = .ok (.invokevirtual 85, 3) := by decide +kernel
theorem d_Model_goesThrough_96 : decode jc_Model_goesThrough 96 = .ok (.aload_n 0, 1) := by decide +kernel
theorem d_Model_goesThrough_97 : decode jc_Model_goesThrough 97 = .ok (.bipush 35, 2) := by decide +kernel
theorem d_Model_goesThrough_99 : decode jc_Model_goesThrough 99 = .ok (.aload_n 0, 1) := by decide +kernel
theorem d_Model_goesThrough_100 : decode jc_Model_goesThrough 100 = .ok (.iload_n 1, 1) := by decide +kernel
theorem d_Model_goesThrough_101 : decode jc_Model_goesThrough 101 = .ok (.invokevirtual 255, 3) := by decide +kernel
theorem d_Model_goesThrough_104 : decode jc_Model_goesThrough 104 = .ok (.invokevirtual 92, 3) := by decide +kernel
theorem d_Model_goesThrough_107 : decode jc_Model_goesThrough 107 = .ok (.goto 50, 3) := by decide +kernel
theorem d_Model_goesThrough_110 : decode jc_Model_goesThrough 110 = .ok (.aload_n 0, 1) := by decide +kernel
theorem d_Model_goesThrough_111 : decode jc_Model_goesThrough 111 = .ok (.bipush 34, 2) := by decide +kernel
theorem d_Model_goesThrough_113 : decode jc_Model_goesThrough 113 = .ok (.aload_n 0, 1) := by decide +kernel
theorem d_Model_goesThrough_114 : decode jc_Model_goesThrough 114 = .ok (.getfield 22, 3) := by decide +kernel
theorem d_Model_goesThrough_117 : decode jc_Model_goesThrough 117 = .ok (.iload_n 1, 1) := by decide +kernel
theorem d_Model_goesThrough_118 : decode jc_Model_goesThrough 118 = .ok (.iaload, 1) := by decide +kernel
theorem d_Model_goesThrough_119 : decode jc_Model_goesThrough 119 = .ok (.bipush 35, 2) := by decide +kernel
theorem d_Model_goesThrough_121 : decode jc_Model_goesThrough 121 = .ok (.invokevirtual 129, 3) := by decide +kernel
theorem d_Model_goesThrough_124 : decode jc_Model_goesThrough 124 = .ok (.goto 33, 3) := by decide +kernel
theorem d_Model_goesThrough_127 : decode jc_Model_goesThrough 127 = .ok (.aload_n 0, 1) := by decide +kernel
theorem d_Model_goesThrough_128 : decode jc_Model_goesThrough 128 = .ok (.bipush 34, 2) := by decide +kernel
theorem d_Model_goesThrough_130 : decode jc_Model_goesThrough 130 = .ok (.bipush 35, 2) := by decide +kernel
theorem d_Model_goesThrough_132 : decode jc_Model_goesThrough 132 = .ok (.invokevirtual 132, 3) := by decide +kernel
theorem d_Model_goesThrough_135 : decode jc_Model_goesThrough 135 = .ok (.goto 22, 3) := by decide +kernel
theorem d_Model_goesThrough_138 : decode jc_Model_goesThrough 138 = .ok (.aload_n 0, 1) := by decide +kernel
theorem d_Model_goesThrough_139 : decode jc_Model_goesThrough 139 = .ok (.bipush 34, 2) := by decide +kernel
theorem d_Model_goesThrough_141 : decode jc_Model_goesThrough 141 = .ok (.bipush 35, 2) := by decide +kernel
theorem d_Model_goesThrough_143 : decode jc_Model_goesThrough 143 = .ok (.invokevirtual 85, 3) := by decide +kernel
theorem d_Model_goesThrough_146 : decode jc_Model_goesThrough 146 = .ok (.aload_n 0, 1) := by decide +kernel
theorem d_Model_goesThrough_147 : decode jc_Model_goesThrough 147 = .ok (.bipush 35, 2) := by decide +kernel
theorem d_Model_goesThrough_149 : decode jc_Model_goesThrough 149 = .ok (.aload_n 0, 1) := by decide +kernel
theorem d_Model_goesThrough_150 : decode jc_Model_goesThrough 150 = .ok (.iload_n 1, 1) := by decide +kernel
theorem d_Model_goesThrough_151 : decode jc_Model_goesThrough 151 = .ok (.invokevirtual 255, 3) := by decide +kernel
theorem d_Model_goesThrough_154 : decode jc_Model_goesThrough 154 = .ok (.invokevirtual 258, 3) := by decide +kernel
theorem d_Model_goesThrough_157 : decode jc_Model_goesThrough 157 = .ok (.aload_n 0, 1) := by decide +kernel
theorem d_Model_goesThrough_158 : decode jc_Model_goesThrough 158 = .ok (.bipush 35, 2) := by decide +kernel
theorem d_Model_goesThrough_160 : decode jc_Model_goesThrough 160 = .ok (.bipush 34, 2) := by decide +kernel
theorem d_Model_goesThrough_162 : decode jc_Model_goesThrough 162 = .ok (.invokevirtual 85, 3) := by decide +kernel
theorem d_Model_goesThrough_165 : decode jc_Model_goesThrough 165 = .ok (.return_, 1) := by decide +kernel
theorem d_Model_goes_0 : decode jc_Model_goes 0 = .ok (.aload_n 0, 1) := by decide +kernel
theorem d_Model_goes_1 : decode jc_Model_goes 1 = .ok (.iload_n 1, 1) := by decide +kernel
theorem d_Model_goes_2 : decode jc_Model_goes 2 = .ok (.bipush 34, 2) := by decide +kernel
theorem d_Model_goes_4 : decode jc_Model_goes 4 = .ok (.invokevirtual 85, 3) := by decide +kernel
theorem d_Model_goes_7 : decode jc_Model_goes 7 = .ok (.aload_n 0, 1) := by decide +kernel
theorem d_Model_goes_8 : decode jc_Model_goes 8 = .ok (.iconst 0, 1) := by decide +kernel
theorem d_Model_goes_9 : decode jc_Model_goes 9 = .ok (.putfield 261, 3) := by decide +kernel
theorem d_Model_goes_12 : decode jc_Model_goes 12 = .ok (.aload_n 0, 1) := by decide +kernel
theorem d_Model_goes_13 : decode jc_Model_goes 13 = .ok (.iconst 0, 1) := by decide +kernel
theorem d_Model_goes_14 : decode jc_Model_goes 14 = .ok (.putfield 264, 3) := by decide +kernel
theorem d_Model_goes_17 : decode jc_Model_goes 17 = .ok (.iconst 0, 1) := by decide +kernel
theorem d_Model_goes_18 : decode jc_Model_goes 18 = .ok (.istore_n 2, 1) := by decide +kernel
theorem d_Model_goes_19 : decode jc_Model_goes 19 = .ok (.iload_n 2, 1) := by decide +kernel
theorem d_Model_goes_20 : decode jc_Model_goes 20 = .ok (.aload_n 0, 1) := by decide +kernel
theorem d_Model_goes_21 : decode jc_Model_goes 21 = .ok (.getfield 252, 3) := by decide +kernel
theorem d_Model_goes_24 : decode jc_Model_goes 24 = .ok (.if_icmp .ge 70, 3) := by decide +kernel
theorem d_Model_goes_27 : decode jc_Model_goes 27 = .ok (.aload_n 0, 1) := by decide +kernel
theorem d_Model_goes_28 : decode jc_Model_goes 28 = .ok (.dup, 1) := by decide +kernel
theorem d_Model_goes_29 : decode jc_Model_goes 29 = .ok (.getfield 261, 3) := by decide +kernel
theorem d_Model_goes_32 : decode jc_Model_goes 32 = .ok (.iconst 1, 1) := by decide +kernel
theorem d_Model_goes_33 : decode jc_Model_goes 33 = .ok (.iadd, 1) := by decide +kernel
theorem d_Model_goes_34 : decode jc_Model_goes 34 = .ok (.putfield 261, 3) := by decide +kernel
theorem d_Model_goes_37 : decode jc_Model_goes 37 = .ok (.aload_n 0, 1) := by decide +kernel
theorem d_Model_goes_38 : decode jc_Model_goes 38 = .ok (.iload_n 2, 1) := by decide +kernel
theorem d_Model_goes_39 : decode jc_Model_goes 39 = .ok (.invokevirtual 267, 3) := by decide +kernel
theorem d_Model_goes_42 : decode jc_Model_goes 42 = .ok (.istore_n 3, 1) := by decide +kernel
theorem d_Model_goes_43 : decode jc_Model_goes 43 = .ok (.iload_n 3, 1) := by decide +kernel
theorem d_Model_goes_44 : decode jc_Model_goes 44 = .ok (.ifCond .le 39, 3) := by decide +kernel
theorem d_Model_goes_47 : decode jc_Model_goes 47 = .ok (.aload_n 0, 1) := by decide +kernel
theorem d_Model_goes_48 : decode jc_Model_goes 48 = .ok (.iconst 3, 1) := by decide +kernel
theorem d_Model_goes_49 : decode jc_Model_goes 49 = .ok (.putfield 264, 3) := by decide +kernel
theorem d_Model_goes_52 : decode jc_Model_goes 52 = .ok (.aload_n 0, 1) := by decide +kernel
theorem d_Model_goes_53 : decode jc_Model_goes 53 = .ok (.getfield 25, 3) := by decide +kernel
theorem d_Model_goes_56 : decode jc_Model_goes 56 = .ok (.iconst 0, 1) := by decide +kernel
theorem d_Model_goes_57 : decode jc_Model_goes 57 = .ok (.iload_n 2, 1) := by decide +kernel
theorem d_Model_goes_58 : decode jc_Model_goes 58 = .ok (.iastore, 1) := by decide +kernel
theorem d_Model_goes_59 : decode jc_Model_goes 59 = .ok (.aload_n 0, 1) := by decide +kernel
theorem d_Model_goes_60 : decode jc_Model_goes 60 = .ok (.getfield 25, 3) := by decide +kernel
theorem d_Model_goes_63 : decode jc_Model_goes 63 = .ok (.iconst 1, 1) := by decide +kernel
theorem d_Model_goes_64 : decode jc_Model_goes 64 = .ok (.aload_n 0, 1) := by decide +kernel
theorem d_Model_goes_65 : decode jc_Model_goes 65 = .ok (.getfield 19, 3) := by decide +kernel
theorem d_Model_goes_68 : decode jc_Model_goes 68 = .ok (.iload_n 2, 1) := by decide +kernel
theorem d_Model_goes_69 : decode jc_Model_goes 69 = .ok (.iaload, 1) := by decide +kernel
theorem d_Model_goes_70 : decode jc_Model_goes 70 = .ok (.iastore, 1) := by decide +kernel
theorem d_Model_goes_71 : decode jc_Model_goes 71 = .ok (.aload_n 0, 1) := by decide +kernel
theorem d_Model_goes_72 : decode jc_Model_goes 72 = .ok (.getfield 25, 3) := by decide +kernel
theorem d_Model_goes_75 : decode jc_Model_goes 75 = .ok (.iconst 2, 1) := by decide +kernel
theorem d_Model_goes_76 : decode jc_Model_goes 76 = .ok (.iload_n 3, 1) := by decide +kernel
theorem d_Model_goes_77 : decode jc_Model_goes 77 = .ok (.iastore, 1) := by decide +kernel
theorem d_Model_goes_78 : decode jc_Model_goes 78 = .ok (.bipush (-20), 2) := by decide +kernel
theorem d_Model_goes_80 : decode jc_Model_goes 80 = .ok (.iload_n 2, 1) := by decide +kernel
theorem d_Model_goes_81 : decode jc_Model_goes 81 = .ok (.isub, 1) := by decide +kernel
theorem d_Model_goes_82 : decode jc_Model_goes 82 = .ok (.ireturn, 1) := by decide +kernel
theorem d_Model_goes_83 : decode jc_Model_goes 83 = .ok (.aload_n 0, 1) := by decide +kernel
theorem d_Model_goes_84 : decode jc_Model_goes 84 = .ok (.iload_n 2, 1) := by decide +kernel
theorem d_Model_goes_85 : decode jc_Model_goes 85 = .ok (.invokevirtual 270, 3) := by decide +kernel
theorem d_Model_goes_88 : decode jc_Model_goes 88 = .ok (.iinc 2 1, 3) := by decide +kernel
theorem d_Model_goes_91 : decode jc_Model_goes 91 = .ok (.goto (-72), 3) := by decide +kernel
theorem d_Model_goes_94 : decode jc_Model_goes 94 = .ok (.iconst 0, 1) := by decide +kernel
theorem d_Model_goes_95 : decode jc_Model_goes 95 = .ok (.ireturn, 1) := by decide +kernel
theorem d_Model_run_0 : decode jc_Model_run 0 = .ok (.aload_n 0, 1) := by decide +kernel
theorem d_Model_run_1 : decode jc_Model_run 1 = .ok (.iload_n 1, 1) := by decide +kernel
theorem d_Model_run_2 : decode jc_Model_run 2 = .ok (.invokevirtual 117, 3) := by decide +kernel
theorem d_Model_run_5 : decode jc_Model_run 5 = .ok (.ifCond .ne 5, 3) := by decide +kernel
theorem d_Model_run_8 : decode jc_Model_run 8 = .ok (.iconst (-1), 1) := by decide +kernel
theorem d_Model_run_9 : decode jc_Model_run 9 = .ok (.ireturn, 1) := by decide +kernel
theorem d_Model_run_10 : decode jc_Model_run 10 = .ok (.aload_n 0, 1) := by decide +kernel
theorem d_Model_run_11 : decode jc_Model_run 11 = .ok (.iload_n 1, 1) := by decide +kernel
theorem d_Model_run_12 : decode jc_Model_run 12 = .ok (.invokevirtual 273, 3) := by decide +kernel
theorem d_Model_run_15 : decode jc_Model_run 15 = .ok (.istore_n 2, 1) := by decide +kernel
theorem d_Model_run_16 : decode jc_Model_run 16 = .ok (.iload_n 2, 1) := by decide +kernel
theorem d_Model_run_17 : decode jc_Model_run 17 = .ok (.ifCond .eq 5, 3) := by decide +kernel
theorem d_Model_run_20 : decode jc_Model_run 20 = .ok (.iload_n 2, 1) := by decide +kernel
theorem d_Model_run_21 : decode jc_Model_run 21 = .ok (.ireturn, 1) := by decide +kernel
theorem d_Model_run_22 : decode jc_Model_run 22 = .ok (.aload_n 0, 1) := by decide +kernel
theorem d_Model_run_23 : decode jc_Model_run 23 = .ok (.bipush 34, 2) := by decide +kernel
theorem d_Model_run_25 : decode jc_Model_run 25 = .ok (.bipush 35, 2) := by decide +kernel
theorem d_Model_run_27 : decode jc_Model_run 27 = .ok (.invokevirtual 85, 3) := by decide +kernel
theorem d_Model_run_30 : decode jc_Model_run 30 = .ok (.aload_n 0, 1) := by decide +kernel
theorem d_Model_run_31 : decode jc_Model_run 31 = .ok (.iload_n 1, 1) := by decide +kernel
theorem d_Model_run_32 : decode jc_Model_run 32 = .ok (.invokevirtual 113, 3) := by decide +kernel
theorem d_Model_run_35 : decode jc_Model_run 35 = .ok (.ireturn, 1) := by decide +kernel
theorem d_Model_would_0 : decode jc_Model_would 0 = .ok (.aload_n 0, 1) := by decide +kernel
theorem d_Model_would_1 : decode jc_Model_would 1 = .ok (.iload_n 1, 1) := by decide +kernel
theorem d_Model_would_2 : decode jc_Model_would 2 = .ok (.invokevirtual 117, 3) := by decide +kernel
theorem d_Model_would_5 : decode jc_Model_would 5 = .ok (.ifCond .ne 5, 3) := by decide +kernel
theorem d_Model_would_8 : decode jc_Model_would 8 = .ok (.iconst (-1), 1) := by decide +kernel
theorem d_Model_would_9 : decode jc_Model_would 9 = .ok (.ireturn, 1) := by decide +kernel
theorem d_Model_would_10 : decode jc_Model_would 10 = .ok (.aload_n 0, 1) := by decide +kernel
theorem d_Model_would_11 : decode jc_Model_would 11 = .ok (.iload_n 1, 1) := by decide +kernel
theorem d_Model_would_12 : decode jc_Model_would 12 = .ok (.invokevirtual 273, 3) := by decide +kernel
theorem d_Model_would_15 : decode jc_Model_would 15 = .ok (.istore_n 2, 1) := by decide +kernel
theorem d_Model_would_16 : decode jc_Model_would 16 = .ok (.iload_n 2, 1) := by decide +kernel
theorem d_Model_would_17 : decode jc_Model_would 17 = .ok (.ifCond .eq 7, 3) := by decide +kernel
theorem d_Model_would_20 : decode jc_Model_would 20 = .ok (.iload_n 2, 1) := by decide +kernel
theorem d_Model_would_21 : decode jc_Model_would 21 = .ok (.goto 9, 3) := by decide +kernel
theorem d_Model_would_24 : decode jc_Model_would 24 = .ok (.aload_n 0, 1) := by decide +kernel
theorem d_Model_would_25 : decode jc_Model_would 25 = .ok (.bipush 34, 2) := by decide +kernel
theorem d_Model_would_27 : decode jc_Model_would 27 = .ok (.invokevirtual 180, 3) := by decide +kernel
theorem d_Model_would_30 : decode jc_Model_would 30 = .ok (.ireturn, 1) := by decide +kernel
theorem d_Model_closing_0 : decode jc_Model_closing 0 = .ok (.iload_n 1, 1) := by decide +kernel
theorem d_Model_closing_1 : decode jc_Model_closing 1 = .ok (.i2l, 1) := by decide +kernel
theorem d_Model_closing_2 : decode jc_Model_closing 2 = .ok (.lconst 0, 1) := by decide +kernel
theorem d_Model_closing_3 : decode jc_Model_closing 3 = .ok (.aload_n 0, 1) := by decide +kernel
theorem d_Model_closing_4 : decode jc_Model_closing 4 = .ok (.getfield 261, 3) := by decide +kernel
theorem d_Model_closing_7 : decode jc_Model_closing 7 = .ok (.iconst 1, 1) := by decide +kernel
theorem d_Model_closing_8 : decode jc_Model_closing 8 = .ok (.isub, 1) := by decide +kernel
theorem d_Model_closing_9 : decode jc_Model_closing 9 = .ok (.i2l, 1) := by decide +kernel
theorem d_Model_closing_10 : decode jc_Model_closing 10 = .ok (.invokestatic 107, 3) := by decide +kernel
theorem d_Model_closing_13 : decode jc_Model_closing 13 = .ok (.ifCond .eq 14, 3) := by decide +kernel
theorem d_Model_closing_16 : decode jc_Model_closing 16 = .ok (.aload_n 0, 1) := by decide +kernel
theorem d_Model_closing_17 : decode jc_Model_closing 17 = .ok (.getfield 261, 3) := by decide +kernel
theorem d_Model_closing_20 : decode jc_Model_closing 20 = .ok (.iconst 1, 1) := by decide +kernel
theorem d_Model_closing_21 : decode jc_Model_closing 21 = .ok (.isub, 1) := by decide +kernel
theorem d_Model_closing_22 : decode jc_Model_closing 22 = .ok (.iload_n 1, 1) := by decide +kernel
theorem d_Model_closing_23 : decode jc_Model_closing 23 = .ok (.isub, 1) := by decide +kernel
theorem d_Model_closing_24 : decode jc_Model_closing 24 = .ok (.goto 5, 3) := by decide +kernel
theorem d_Model_closing_27 : decode jc_Model_closing 27 = .ok (.bipush (-2), 2) := by decide +kernel
theorem d_Model_closing_29 : decode jc_Model_closing 29 = .ok (.ireturn, 1) := by decide +kernel
theorem d_Model_reason_0 : decode jc_Model_reason 0 = .ok (.iload_n 1, 1) := by decide +kernel
theorem d_Model_reason_1 : decode jc_Model_reason 1 = .ok (.i2l, 1) := by decide +kernel
theorem d_Model_reason_2 : decode jc_Model_reason 2 = .ok (.lconst 0, 1) := by decide +kernel
theorem d_Model_reason_3 : decode jc_Model_reason 3 = .ok (.aload_n 0, 1) := by decide +kernel
theorem d_Model_reason_4 : decode jc_Model_reason 4 = .ok (.getfield 264, 3) := by decide +kernel
theorem d_Model_reason_7 : decode jc_Model_reason 7 = .ok (.iconst 1, 1) := by decide +kernel
theorem d_Model_reason_8 : decode jc_Model_reason 8 = .ok (.isub, 1) := by decide +kernel
theorem d_Model_reason_9 : decode jc_Model_reason 9 = .ok (.i2l, 1) := by decide +kernel
theorem d_Model_reason_10 : decode jc_Model_reason 10 = .ok (.invokestatic 107, 3) := by decide +kernel
theorem d_Model_reason_13 : decode jc_Model_reason 13 = .ok (.ifCond .eq 12, 3) := by decide +kernel
theorem d_Model_reason_16 : decode jc_Model_reason 16 = .ok (.aload_n 0, 1) := by decide +kernel
theorem d_Model_reason_17 : decode jc_Model_reason 17 = .ok (.getfield 25, 3) := by decide +kernel
theorem d_Model_reason_20 : decode jc_Model_reason 20 = .ok (.iload_n 1, 1) := by decide +kernel
theorem d_Model_reason_21 : decode jc_Model_reason 21 = .ok (.iaload, 1) := by decide +kernel
theorem d_Model_reason_22 : decode jc_Model_reason 22 = .ok (.goto 5, 3) := by decide +kernel
theorem d_Model_reason_25 : decode jc_Model_reason 25 = .ok (.bipush (-2), 2) := by decide +kernel
theorem d_Model_reason_27 : decode jc_Model_reason 27 = .ok (.ireturn, 1) := by decide +kernel
theorem d_Model_loosen_0 : decode jc_Model_loosen 0 = .ok (.aload_n 0, 1) := by decide +kernel
theorem d_Model_loosen_1 : decode jc_Model_loosen 1 = .ok (.getfield 252, 3) := by decide +kernel
theorem d_Model_loosen_4 : decode jc_Model_loosen 4 = .ok (.istore_n 1, 1) := by decide +kernel
theorem d_Model_loosen_5 : decode jc_Model_loosen 5 = .ok (.aload_n 0, 1) := by decide +kernel
theorem d_Model_loosen_6 : decode jc_Model_loosen 6 = .ok (.iconst 0, 1) := by decide +kernel
theorem d_Model_loosen_7 : decode jc_Model_loosen 7 = .ok (.putfield 252, 3) := by decide +kernel
theorem d_Model_loosen_10 : decode jc_Model_loosen 10 = .ok (.iload_n 1, 1) := by decide +kernel
theorem d_Model_loosen_11 : decode jc_Model_loosen 11 = .ok (.ireturn, 1) := by decide +kernel
theorem d_Model_isSheet_0 : decode jc_Model_isSheet 0 = .ok (.iload_n 0, 1) := by decide +kernel
theorem d_Model_isSheet_1 : decode jc_Model_isSheet 1 = .ok (.ifCond .lt 12, 3) := by decide +kernel
theorem d_Model_isSheet_4 : decode jc_Model_isSheet 4 = .ok (.iload_n 0, 1) := by decide +kernel
theorem d_Model_isSheet_5 : decode jc_Model_isSheet 5 = .ok (.iconst 4, 1) := by decide +kernel
theorem d_Model_isSheet_6 : decode jc_Model_isSheet 6 = .ok (.if_icmp .ge 7, 3) := by decide +kernel
theorem d_Model_isSheet_9 : decode jc_Model_isSheet 9 = .ok (.iconst 1, 1) := by decide +kernel
theorem d_Model_isSheet_10 : decode jc_Model_isSheet 10 = .ok (.goto 4, 3) := by decide +kernel
theorem d_Model_isSheet_13 : decode jc_Model_isSheet 13 = .ok (.iconst 0, 1) := by decide +kernel
theorem d_Model_isSheet_14 : decode jc_Model_isSheet 14 = .ok (.ireturn, 1) := by decide +kernel
theorem d_Model_lowest_0 : decode jc_Model_lowest 0 = .ok (.aload_n 0, 1) := by decide +kernel
theorem d_Model_lowest_1 : decode jc_Model_lowest 1 = .ok (.getfield 50, 3) := by decide +kernel
theorem d_Model_lowest_4 : decode jc_Model_lowest 4 = .ok (.iload_n 1, 1) := by decide +kernel
theorem d_Model_lowest_5 : decode jc_Model_lowest 5 = .ok (.iaload, 1) := by decide +kernel
theorem d_Model_lowest_6 : decode jc_Model_lowest 6 = .ok (.ifCond .ne 8, 3) := by decide +kernel
theorem d_Model_lowest_9 : decode jc_Model_lowest 9 = .ok (.iload_n 2, 1) := by decide +kernel
theorem d_Model_lowest_10 : decode jc_Model_lowest 10 = .ok (.i2b, 1) := by decide +kernel
theorem d_Model_lowest_11 : decode jc_Model_lowest 11 = .ok (.goto 4, 3) := by decide +kernel
theorem d_Model_lowest_14 : decode jc_Model_lowest 14 = .ok (.iload_n 2, 1) := by decide +kernel
theorem d_Model_lowest_15 : decode jc_Model_lowest 15 = .ok (.ireturn, 1) := by decide +kernel
theorem d_Model_sheet_0 : decode jc_Model_sheet 0 = .ok (.iload_n 1, 1) := by decide +kernel
theorem d_Model_sheet_1 : decode jc_Model_sheet 1 = .ok (.invokestatic 141, 3) := by decide +kernel
theorem d_Model_sheet_4 : decode jc_Model_sheet 4 = .ok (.ifCond .eq 25, 3) := by decide +kernel
theorem d_Model_sheet_7 : decode jc_Model_sheet 7 = .ok (.iload_n 2, 1) := by decide +kernel
theorem d_Model_sheet_8 : decode jc_Model_sheet 8 = .ok (.i2l, 1) := by decide +kernel
theorem d_Model_sheet_9 : decode jc_Model_sheet 9 = .ok (.ldc2_w 276, 3) := by decide +kernel
theorem d_Model_sheet_12 : decode jc_Model_sheet 12 = .ok (.lconst 1, 1) := by decide +kernel
theorem d_Model_sheet_13 : decode jc_Model_sheet 13 = .ok (.invokestatic 107, 3) := by decide +kernel
theorem d_Model_sheet_16 : decode jc_Model_sheet 16 = .ok (.ifCond .eq 13, 3) := by decide +kernel
theorem d_Model_sheet_19 : decode jc_Model_sheet 19 = .ok (.iload_n 2, 1) := by decide +kernel
theorem d_Model_sheet_20 : decode jc_Model_sheet 20 = .ok (.ifCond .lt 11, 3) := by decide +kernel
theorem d_Model_sheet_23 : decode jc_Model_sheet 23 = .ok (.iload_n 3, 1) := by decide +kernel
theorem d_Model_sheet_24 : decode jc_Model_sheet 24 = .ok (.bipush 40, 2) := by decide +kernel
theorem d_Model_sheet_26 : decode jc_Model_sheet 26 = .ok (.if_icmp .le 5, 3) := by decide +kernel
theorem d_Model_sheet_29 : decode jc_Model_sheet 29 = .ok (.iconst (-1), 1) := by decide +kernel
theorem d_Model_sheet_30 : decode jc_Model_sheet 30 = .ok (.ireturn, 1) := by decide +kernel
theorem d_Model_sheet_31 : decode jc_Model_sheet 31 = .ok (.iload_n 2, 1) := by decide +kernel
theorem d_Model_sheet_32 : decode jc_Model_sheet 32 = .ok (.ifCond .lt 10, 3) := by decide +kernel
theorem d_Model_sheet_35 : decode jc_Model_sheet 35 = .ok (.iload_n 3, 1) := by decide +kernel
theorem d_Model_sheet_36 : decode jc_Model_sheet 36 = .ok (.ifCond .ge 6, 3) := by decide +kernel
theorem d_Model_sheet_39 : decode jc_Model_sheet 39 = .ok (.bipush (-14), 2) := by decide +kernel
theorem d_Model_sheet_41 : decode jc_Model_sheet 41 = .ok (.ireturn, 1) := by decide +kernel
theorem d_Model_sheet_42 : decode jc_Model_sheet 42 = .ok (.aload_n 0, 1) := by decide +kernel
theorem d_Model_sheet_43 : decode jc_Model_sheet 43 = .ok (.getfield 50, 3) := by decide +kernel
theorem d_Model_sheet_46 : decode jc_Model_sheet 46 = .ok (.iload_n 1, 1) := by decide +kernel
theorem d_Model_sheet_47 : decode jc_Model_sheet 47 = .ok (.iload_n 2, 1) := by decide +kernel
theorem d_Model_sheet_48 : decode jc_Model_sheet 48 = .ok (.iastore, 1) := by decide +kernel
theorem d_Model_sheet_49 : decode jc_Model_sheet 49 = .ok (.aload_n 0, 1) := by decide +kernel
theorem d_Model_sheet_50 : decode jc_Model_sheet 50 = .ok (.getfield 53, 3) := by decide +kernel
theorem d_Model_sheet_53 : decode jc_Model_sheet 53 = .ok (.iload_n 1, 1) := by decide +kernel
theorem d_Model_sheet_54 : decode jc_Model_sheet 54 = .ok (.iload_n 2, 1) := by decide +kernel
theorem d_Model_sheet_55 : decode jc_Model_sheet 55 = .ok (.ifCond .ge 7, 3) := by decide +kernel
theorem d_Model_sheet_58 : decode jc_Model_sheet 58 = .ok (.iconst 0, 1) := by decide +kernel
theorem d_Model_sheet_59 : decode jc_Model_sheet 59 = .ok (.goto 4, 3) := by decide +kernel
theorem d_Model_sheet_62 : decode jc_Model_sheet 62 = .ok (.iload_n 3, 1) := by decide +kernel
theorem d_Model_sheet_63 : decode jc_Model_sheet 63 = .ok (.iastore, 1) := by decide +kernel
theorem d_Model_sheet_64 : decode jc_Model_sheet 64 = .ok (.iconst 0, 1) := by decide +kernel
theorem d_Model_sheet_65 : decode jc_Model_sheet 65 = .ok (.istore 4, 2) := by decide +kernel
theorem d_Model_sheet_67 : decode jc_Model_sheet 67 = .ok (.iload 4, 2) := by decide +kernel
theorem d_Model_sheet_69 : decode jc_Model_sheet 69 = .ok (.bipush 40, 2) := by decide +kernel
theorem d_Model_sheet_71 : decode jc_Model_sheet 71 = .ok (.if_icmp .ge 22, 3) := by decide +kernel
theorem d_Model_sheet_74 : decode jc_Model_sheet 74 = .ok (.aload_n 0, 1) := by decide +kernel
theorem d_Model_sheet_75 : decode jc_Model_sheet 75 = .ok (.getfield 56, 3) := by decide +kernel
theorem d_Model_sheet_78 : decode jc_Model_sheet 78 = .ok (.bipush 40, 2) := by decide +kernel
theorem d_Model_sheet_80 : decode jc_Model_sheet 80 = .ok (.iload_n 1, 1) := by decide +kernel
theorem d_Model_sheet_81 : decode jc_Model_sheet 81 = .ok (.imul, 1) := by decide +kernel
theorem d_Model_sheet_82 : decode jc_Model_sheet 82 = .ok (.iload 4, 2) := by decide +kernel
theorem d_Model_sheet_84 : decode jc_Model_sheet 84 = .ok (.iadd, 1) := by decide +kernel
theorem d_Model_sheet_85 : decode jc_Model_sheet 85 = .ok (.iconst 0, 1) := by decide +kernel
theorem d_Model_sheet_86 : decode jc_Model_sheet 86 = .ok (.iastore, 1) := by decide +kernel
theorem d_Model_sheet_87 : decode jc_Model_sheet 87 = .ok (.iinc 4 1, 3) := by decide +kernel
theorem d_Model_sheet_90 : decode jc_Model_sheet 90 = .ok (.goto (-23), 3) := by decide +kernel
theorem d_Model_sheet_93 : decode jc_Model_sheet 93 = .ok (.iconst 1, 1) := by decide +kernel
theorem d_Model_sheet_94 : decode jc_Model_sheet 94 = .ok (.ireturn, 1) := by decide +kernel
theorem d_Model_cell_0 : decode jc_Model_cell 0 = .ok (.iload_n 1, 1) := by decide +kernel
theorem d_Model_cell_1 : decode jc_Model_cell 1 = .ok (.invokestatic 141, 3) := by decide +kernel
theorem d_Model_cell_4 : decode jc_Model_cell 4 = .ok (.ifCond .ne 5, 3) := by decide +kernel
theorem d_Model_cell_7 : decode jc_Model_cell 7 = .ok (.iconst (-1), 1) := by decide +kernel
theorem d_Model_cell_8 : decode jc_Model_cell 8 = .ok (.ireturn, 1) := by decide +kernel
theorem d_Model_cell_9 : decode jc_Model_cell 9 = .ok (.aload_n 0, 1) := by decide +kernel
theorem d_Model_cell_10 : decode jc_Model_cell 10 = .ok (.getfield 50, 3) := by decide +kernel
theorem d_Model_cell_13 : decode jc_Model_cell 13 = .ok (.iload_n 1, 1) := by decide +kernel
theorem d_Model_cell_14 : decode jc_Model_cell 14 = .ok (.iaload, 1) := by decide +kernel
theorem d_Model_cell_15 : decode jc_Model_cell 15 = .ok (.ifCond .ge 6, 3) := by decide +kernel
theorem d_Model_cell_18 : decode jc_Model_cell 18 = .ok (.bipush (-11), 2) := by decide +kernel
theorem d_Model_cell_20 : decode jc_Model_cell 20 = .ok (.ireturn, 1) := by decide +kernel
theorem d_Model_cell_21 : decode jc_Model_cell 21 = .ok (.iload_n 2, 1) := by decide +kernel
theorem d_Model_cell_22 : decode jc_Model_cell 22 = .ok (.i2l, 1) := by decide +kernel
theorem d_Model_cell_23 : decode jc_Model_cell 23 = .ok (.lconst 0, 1) := by decide +kernel
theorem d_Model_cell_24 : decode jc_Model_cell 24 = .ok (.aload_n 0, 1) := by decide +kernel
theorem d_Model_cell_25 : decode jc_Model_cell 25 = .ok (.getfield 53, 3) := by decide +kernel
theorem d_Model_cell_28 : decode jc_Model_cell 28 = .ok (.iload_n 1, 1) := by decide +kernel
theorem d_Model_cell_29 : decode jc_Model_cell 29 = .ok (.iaload, 1) := by decide +kernel
theorem d_Model_cell_30 : decode jc_Model_cell 30 = .ok (.iconst 1, 1) := by decide +kernel
theorem d_Model_cell_31 : decode jc_Model_cell 31 = .ok (.isub, 1) := by decide +kernel
theorem d_Model_cell_32 : decode jc_Model_cell 32 = .ok (.i2l, 1) := by decide +kernel
theorem d_Model_cell_33 : decode jc_Model_cell 33 = .ok (.invokestatic 107, 3) := by decide +kernel
theorem d_Model_cell_36 : decode jc_Model_cell 36 = .ok (.ifCond .ne 6, 3) := by decide +kernel
theorem d_Model_cell_39 : decode jc_Model_cell 39 = .ok (.bipush (-12), 2) := by decide +kernel
theorem d_Model_cell_41 : decode jc_Model_cell 41 = .ok (.ireturn, 1) := by decide +kernel
theorem d_Model_cell_42 : decode jc_Model_cell 42 = .ok (.aload_n 0, 1) := by decide +kernel
theorem d_Model_cell_43 : decode jc_Model_cell 43 = .ok (.getfield 56, 3) := by decide +kernel
theorem d_Model_cell_46 : decode jc_Model_cell 46 = .ok (.bipush 40, 2) := by decide +kernel
theorem d_Model_cell_48 : decode jc_Model_cell 48 = .ok (.iload_n 1, 1) := by decide +kernel
theorem d_Model_cell_49 : decode jc_Model_cell 49 = .ok (.imul, 1) := by decide +kernel
theorem d_Model_cell_50 : decode jc_Model_cell 50 = .ok (.iload_n 2, 1) := by decide +kernel
theorem d_Model_cell_51 : decode jc_Model_cell 51 = .ok (.iadd, 1) := by decide +kernel
theorem d_Model_cell_52 : decode jc_Model_cell 52 = .ok (.aload_n 0, 1) := by decide +kernel
theorem d_Model_cell_53 : decode jc_Model_cell 53 = .ok (.iload_n 1, 1) := by decide +kernel
theorem d_Model_cell_54 : decode jc_Model_cell 54 = .ok (.iload_n 3, 1) := by decide +kernel
theorem d_Model_cell_55 : decode jc_Model_cell 55 = .ok (.invokevirtual 144, 3) := by decide +kernel
theorem d_Model_cell_58 : decode jc_Model_cell 58 = .ok (.iastore, 1) := by decide +kernel
theorem d_Model_cell_59 : decode jc_Model_cell 59 = .ok (.iconst 1, 1) := by decide +kernel
theorem d_Model_cell_60 : decode jc_Model_cell 60 = .ok (.ireturn, 1) := by decide +kernel
theorem d_Model_item_0 : decode jc_Model_item 0 = .ok (.iload_n 1, 1) := by decide +kernel
theorem d_Model_item_1 : decode jc_Model_item 1 = .ok (.invokestatic 141, 3) := by decide +kernel
theorem d_Model_item_4 : decode jc_Model_item 4 = .ok (.ifCond .eq 36, 3) := by decide +kernel
theorem d_Model_item_7 : decode jc_Model_item 7 = .ok (.iload_n 2, 1) := by decide +kernel
theorem d_Model_item_8 : decode jc_Model_item 8 = .ok (.i2l, 1) := by decide +kernel
theorem d_Model_item_9 : decode jc_Model_item 9 = .ok (.lconst 0, 1) := by decide +kernel
theorem d_Model_item_10 : decode jc_Model_item 10 = .ok (.aload_n 0, 1) := by decide +kernel
theorem d_Model_item_11 : decode jc_Model_item 11 = .ok (.getfield 53, 3) := by decide +kernel
theorem d_Model_item_14 : decode jc_Model_item 14 = .ok (.iload_n 1, 1) := by decide +kernel
theorem d_Model_item_15 : decode jc_Model_item 15 = .ok (.iaload, 1) := by decide +kernel
theorem d_Model_item_16 : decode jc_Model_item 16 = .ok (.iconst 1, 1) := by decide +kernel
theorem d_Model_item_17 : decode jc_Model_item 17 = .ok (.isub, 1) := by decide +kernel
theorem d_Model_item_18 : decode jc_Model_item 18 = .ok (.i2l, 1) := by decide +kernel
theorem d_Model_item_19 : decode jc_Model_item 19 = .ok (.invokestatic 107, 3) := by decide +kernel
theorem d_Model_item_22 : decode jc_Model_item 22 = .ok (.ifCond .eq 18, 3) := by decide +kernel
theorem d_Model_item_25 : decode jc_Model_item 25 = .ok (.aload_n 0, 1) := by decide +kernel
theorem d_Model_item_26 : decode jc_Model_item 26 = .ok (.getfield 56, 3) := by decide +kernel
theorem d_Model_item_29 : decode jc_Model_item 29 = .ok (.bipush 40, 2) := by decide +kernel
theorem d_Model_item_31 : decode jc_Model_item 31 = .ok (.iload_n 1, 1) := by decide +kernel
theorem d_Model_item_32 : decode jc_Model_item 32 = .ok (.imul, 1) := by decide +kernel
theorem d_Model_item_33 : decode jc_Model_item 33 = .ok (.iload_n 2, 1) := by decide +kernel
theorem d_Model_item_34 : decode jc_Model_item 34 = .ok (.iadd, 1) := by decide +kernel
theorem d_Model_item_35 : decode jc_Model_item 35 = .ok (.iaload, 1) := by decide +kernel
theorem d_Model_item_36 : decode jc_Model_item 36 = .ok (.i2l, 1) := by decide +kernel
theorem d_Model_item_37 : decode jc_Model_item 37 = .ok (.goto 6, 3) := by decide +kernel
theorem d_Model_item_40 : decode jc_Model_item 40 = .ok (.ldc2_w 278, 3) := by decide +kernel
theorem d_Model_item_43 : decode jc_Model_item 43 = .ok (.lreturn, 1) := by decide +kernel
theorem d_Model_shift_0 : decode jc_Model_shift 0 = .ok (.iload_n 1, 1) := by decide +kernel
theorem d_Model_shift_1 : decode jc_Model_shift 1 = .ok (.invokestatic 141, 3) := by decide +kernel
theorem d_Model_shift_4 : decode jc_Model_shift 4 = .ok (.ifCond .eq 10, 3) := by decide +kernel
theorem d_Model_shift_7 : decode jc_Model_shift 7 = .ok (.iload_n 3, 1) := by decide +kernel
theorem d_Model_shift_8 : decode jc_Model_shift 8 = .ok (.invokestatic 141, 3) := by decide +kernel
theorem d_Model_shift_11 : decode jc_Model_shift 11 = .ok (.ifCond .ne 5, 3) := by decide +kernel
theorem d_Model_shift_14 : decode jc_Model_shift 14 = .ok (.iconst (-1), 1) := by decide +kernel
theorem d_Model_shift_15 : decode jc_Model_shift 15 = .ok (.ireturn, 1) := by decide +kernel
theorem d_Model_shift_16 : decode jc_Model_shift 16 = .ok (.aload_n 0, 1) := by decide +kernel
theorem d_Model_shift_17 : decode jc_Model_shift 17 = .ok (.getfield 50, 3) := by decide +kernel
theorem d_Model_shift_20 : decode jc_Model_shift 20 = .ok (.iload_n 1, 1) := by decide +kernel
theorem d_Model_shift_21 : decode jc_Model_shift 21 = .ok (.iaload, 1) := by decide +kernel
theorem d_Model_shift_22 : decode jc_Model_shift 22 = .ok (.ifCond .lt 12, 3) := by decide +kernel
theorem d_Model_shift_25 : decode jc_Model_shift 25 = .ok (.aload_n 0, 1) := by decide +kernel
theorem d_Model_shift_26 : decode jc_Model_shift 26 = .ok (.getfield 50, 3) := by decide +kernel
theorem d_Model_shift_29 : decode jc_Model_shift 29 = .ok (.iload_n 3, 1) := by decide +kernel
theorem d_Model_shift_30 : decode jc_Model_shift 30 = .ok (.iaload, 1) := by decide +kernel
theorem d_Model_shift_31 : decode jc_Model_shift 31 = .ok (.ifCond .ge 6, 3) := by decide +kernel
theorem d_Model_shift_34 : decode jc_Model_shift 34 = .ok (.bipush (-11), 2) := by decide +kernel
theorem d_Model_shift_36 : decode jc_Model_shift 36 = .ok (.ireturn, 1) := by decide +kernel
theorem d_Model_shift_37 : decode jc_Model_shift 37 = .ok (.aload_n 0, 1) := by decide +kernel
theorem d_Model_shift_38 : decode jc_Model_shift 38 = .ok (.getfield 50, 3) := by decide +kernel
theorem d_Model_shift_41 : decode jc_Model_shift 41 = .ok (.iload_n 1, 1) := by decide +kernel
theorem d_Model_shift_42 : decode jc_Model_shift 42 = .ok (.iaload, 1) := by decide +kernel
theorem d_Model_shift_43 : decode jc_Model_shift 43 = .ok (.aload_n 0, 1) := by decide +kernel
theorem d_Model_shift_44 : decode jc_Model_shift 44 = .ok (.getfield 50, 3) := by decide +kernel
theorem d_Model_shift_47 : decode jc_Model_shift 47 = .ok (.iload_n 3, 1) := by decide +kernel
theorem d_Model_shift_48 : decode jc_Model_shift 48 = .ok (.iaload, 1) := by decide +kernel
theorem d_Model_shift_49 : decode jc_Model_shift 49 = .ok (.if_icmp .eq 6, 3) := by decide +kernel
theorem d_Model_shift_52 : decode jc_Model_shift 52 = .ok (.bipush (-13), 2) := by decide +kernel
theorem d_Model_shift_54 : decode jc_Model_shift 54 = .ok (.ireturn, 1) := by decide +kernel
theorem d_Model_shift_55 : decode jc_Model_shift 55 = .ok (.iload 5, 2) := by decide +kernel
theorem d_Model_shift_57 : decode jc_Model_shift 57 = .ok (.ifCond .lt 39, 3) := by decide +kernel
theorem d_Model_shift_60 : decode jc_Model_shift 60 = .ok (.iload_n 2, 1) := by decide +kernel
theorem d_Model_shift_61 : decode jc_Model_shift 61 = .ok (.ifCond .lt 35, 3) := by decide +kernel
theorem d_Model_shift_64 : decode jc_Model_shift 64 = .ok (.iload 4, 2) := by decide +kernel
theorem d_Model_shift_66 : decode jc_Model_shift 66 = .ok (.ifCond .lt 30, 3) := by decide +kernel
theorem d_Model_shift_69 : decode jc_Model_shift 69 = .ok (.iload 5, 2) := by decide +kernel
theorem d_Model_shift_71 : decode jc_Model_shift 71 = .ok (.aload_n 0, 1) := by decide +kernel
theorem d_Model_shift_72 : decode jc_Model_shift 72 = .ok (.getfield 53, 3) := by decide +kernel
theorem d_Model_shift_75 : decode jc_Model_shift 75 = .ok (.iload_n 1, 1) := by decide +kernel
theorem d_Model_shift_76 : decode jc_Model_shift 76 = .ok (.iaload, 1) := by decide +kernel
theorem d_Model_shift_77 : decode jc_Model_shift 77 = .ok (.iload_n 2, 1) := by decide +kernel
theorem d_Model_shift_78 : decode jc_Model_shift 78 = .ok (.isub, 1) := by decide +kernel
theorem d_Model_shift_79 : decode jc_Model_shift 79 = .ok (.if_icmp .gt 17, 3) := by decide +kernel
theorem d_Model_shift_82 : decode jc_Model_shift 82 = .ok (.iload 5, 2) := by decide +kernel
theorem d_Model_shift_84 : decode jc_Model_shift 84 = .ok (.aload_n 0, 1) := by decide +kernel
theorem d_Model_shift_85 : decode jc_Model_shift 85 = .ok (.getfield 53, 3) := by decide +kernel
theorem d_Model_shift_88 : decode jc_Model_shift 88 = .ok (.iload_n 3, 1) := by decide +kernel
theorem d_Model_shift_89 : decode jc_Model_shift 89 = .ok (.iaload, 1) := by decide +kernel
theorem d_Model_shift_90 : decode jc_Model_shift 90 = .ok (.iload 4, 2) := by decide +kernel
theorem d_Model_shift_92 : decode jc_Model_shift 92 = .ok (.isub, 1) := by decide +kernel
theorem d_Model_shift_93 : decode jc_Model_shift 93 = .ok (.if_icmp .le 6, 3) := by decide +kernel
theorem d_Model_shift_96 : decode jc_Model_shift 96 = .ok (.bipush (-12), 2) := by decide +kernel
theorem d_Model_shift_98 : decode jc_Model_shift 98 = .ok (.ireturn, 1) := by decide +kernel
theorem d_Model_shift_99 : decode jc_Model_shift 99 = .ok (.bipush 40, 2) := by decide +kernel
theorem d_Model_shift_101 : decode jc_Model_shift 101 = .ok (.iload_n 1, 1) := by decide +kernel
theorem d_Model_shift_102 : decode jc_Model_shift 102 = .ok (.imul, 1) := by decide +kernel
theorem d_Model_shift_103 : decode jc_Model_shift 103 = .ok (.iload_n 2, 1) := by decide +kernel
theorem d_Model_shift_104 : decode jc_Model_shift 104 = .ok (.iadd, 1) := by decide +kernel
theorem d_Model_shift_105 : decode jc_Model_shift 105 = .ok (.bipush 40, 2) := by decide +kernel
theorem d_Model_shift_107 : decode jc_Model_shift 107 = .ok (.iload_n 3, 1) := by decide +kernel
theorem d_Model_shift_108 : decode jc_Model_shift 108 = .ok (.imul, 1) := by decide +kernel
theorem d_Model_shift_109 : decode jc_Model_shift 109 = .ok (.iload 4, 2) := by decide +kernel
theorem d_Model_shift_111 : decode jc_Model_shift 111 = .ok (.iadd, 1) := by decide +kernel
theorem d_Model_shift_112 : decode jc_Model_shift 112 = .ok (.if_icmp .ge 7, 3) := by decide +kernel
theorem d_Model_shift_115 : decode jc_Model_shift 115 = .ok (.iconst 1, 1) := by decide +kernel
theorem d_Model_shift_116 : decode jc_Model_shift 116 = .ok (.goto 4, 3) := by decide +kernel
theorem d_Model_shift_119 : decode jc_Model_shift 119 = .ok (.iconst 0, 1) := by decide +kernel
theorem d_Model_shift_120 : decode jc_Model_shift 120 = .ok (.istore 6, 2) := by decide +kernel
theorem d_Model_shift_122 : decode jc_Model_shift 122 = .ok (.iconst 0, 1) := by decide +kernel
theorem d_Model_shift_123 : decode jc_Model_shift 123 = .ok (.istore 7, 2) := by decide +kernel
theorem d_Model_shift_125 : decode jc_Model_shift 125 = .ok (.iload 7, 2) := by decide +kernel
theorem d_Model_shift_127 : decode jc_Model_shift 127 = .ok (.iload 5, 2) := by decide +kernel
theorem d_Model_shift_129 : decode jc_Model_shift 129 = .ok (.if_icmp .ge 57, 3) := by decide +kernel
theorem d_Model_shift_132 : decode jc_Model_shift 132 = .ok (.iload 6, 2) := by decide +kernel
theorem d_Model_shift_134 : decode jc_Model_shift 134 = .ok (.ifCond .eq 13, 3) := by decide +kernel
theorem d_Model_shift_137 : decode jc_Model_shift 137 = .ok (.iload 5, 2) := by decide +kernel
theorem d_Model_shift_139 : decode jc_Model_shift 139 = .ok (.iconst 1, 1) := by decide +kernel
theorem d_Model_shift_140 : decode jc_Model_shift 140 = .ok (.isub, 1) := by decide +kernel
theorem d_Model_shift_141 : decode jc_Model_shift 141 = .ok (.iload 7, 2) := by decide +kernel
theorem d_Model_shift_143 : decode jc_Model_shift 143 = .ok (.isub, 1) := by decide +kernel
theorem d_Model_shift_144 : decode jc_Model_shift 144 = .ok (.goto 5, 3) := by decide +kernel
theorem d_Model_shift_147 : decode jc_Model_shift 147 = .ok (.iload 7, 2) := by decide +kernel
theorem d_Model_shift_149 : decode jc_Model_shift 149 = .ok (.istore 8, 2) := by decide +kernel
theorem d_Model_shift_151 : decode jc_Model_shift 151 = .ok (.aload_n 0, 1) := by decide +kernel
theorem d_Model_shift_152 : decode jc_Model_shift 152 = .ok (.getfield 56, 3) := by decide +kernel
theorem d_Model_shift_155 : decode jc_Model_shift 155 = .ok (.bipush 40, 2) := by decide +kernel
theorem d_Model_shift_157 : decode jc_Model_shift 157 = .ok (.iload_n 3, 1) := by decide +kernel
theorem d_Model_shift_158 : decode jc_Model_shift 158 = .ok (.imul, 1) := by decide +kernel
theorem d_Model_shift_159 : decode jc_Model_shift 159 = .ok (.iload 4, 2) := by decide +kernel
theorem d_Model_shift_161 : decode jc_Model_shift 161 = .ok (.iadd, 1) := by decide +kernel
theorem d_Model_shift_162 : decode jc_Model_shift 162 = .ok (.iload 8, 2) := by decide +kernel
theorem d_Model_shift_164 : decode jc_Model_shift 164 = .ok (.iadd, 1) := by decide +kernel
theorem d_Model_shift_165 : decode jc_Model_shift 165 = .ok (.aload_n 0, 1) := by decide +kernel
theorem d_Model_shift_166 : decode jc_Model_shift 166 = .ok (.getfield 56, 3) := by decide +kernel
theorem d_Model_shift_169 : decode jc_Model_shift 169 = .ok (.bipush 40, 2) := by decide +kernel
theorem d_Model_shift_171 : decode jc_Model_shift 171 = .ok (.iload_n 1, 1) := by decide +kernel
theorem d_Model_shift_172 : decode jc_Model_shift 172 = .ok (.imul, 1) := by decide +kernel
theorem d_Model_shift_173 : decode jc_Model_shift 173 = .ok (.iload_n 2, 1) := by decide +kernel
theorem d_Model_shift_174 : decode jc_Model_shift 174 = .ok (.iadd, 1) := by decide +kernel
theorem d_Model_shift_175 : decode jc_Model_shift 175 = .ok (.iload 8, 2) := by decide +kernel
theorem d_Model_shift_177 : decode jc_Model_shift 177 = .ok (.iadd, 1) := by decide +kernel
theorem d_Model_shift_178 : decode jc_Model_shift 178 = .ok (.iaload, 1) := by decide +kernel
theorem d_Model_shift_179 : decode jc_Model_shift 179 = .ok (.iastore, 1) := by decide +kernel
theorem d_Model_shift_180 : decode jc_Model_shift 180 = .ok (.iinc 7 1, 3) := by decide +kernel
theorem d_Model_shift_183 : decode jc_Model_shift 183 = .ok (.goto (-58), 3) := by decide +kernel
theorem d_Model_shift_186 : decode jc_Model_shift 186 = .ok (.iload 5, 2) := by decide +kernel
theorem d_Model_shift_188 : decode jc_Model_shift 188 = .ok (.ireturn, 1) := by decide +kernel
theorem d_Model_count_0 : decode jc_Model_count 0 = .ok (.iconst 0, 1) := by decide +kernel
theorem d_Model_count_1 : decode jc_Model_count 1 = .ok (.istore_n 2, 1) := by decide +kernel
theorem d_Model_count_2 : decode jc_Model_count 2 = .ok (.iload_n 1, 1) := by decide +kernel
theorem d_Model_count_3 : decode jc_Model_count 3 = .ok (.tableswitch 110 0 4 #[33, 66, 71, 76, 108], 33) := by decide +kernel
theorem d_Model_count_36 : decode jc_Model_count 36 = .ok (.iconst 0, 1) := by decide +kernel
theorem d_Model_count_37 : decode jc_Model_count 37 = .ok (.istore_n 3, 1) := by decide +kernel
theorem d_Model_count_38 : decode jc_Model_count 38 = .ok (.iload_n 3, 1) := by decide +kernel
theorem d_Model_count_39 : decode jc_Model_count 39 = .ok (.bipush 6, 2) := by decide +kernel
theorem d_Model_count_41 : decode jc_Model_count 41 = .ok (.if_icmp .ge 26, 3) := by decide +kernel
theorem d_Model_count_44 : decode jc_Model_count 44 = .ok (.iload_n 2, 1) := by decide +kernel
theorem d_Model_count_45 : decode jc_Model_count 45 = .ok (.aload_n 0, 1) := by decide +kernel
theorem d_Model_count_46 : decode jc_Model_count 46 = .ok (.getfield 13, 3) := by decide +kernel
theorem d_Model_count_49 : decode jc_Model_count 49 = .ok (.iload_n 3, 1) := by decide +kernel
theorem d_Model_count_50 : decode jc_Model_count 50 = .ok (.iaload, 1) := by decide +kernel
theorem d_Model_count_51 : decode jc_Model_count 51 = .ok (.ifCond .le 7, 3) := by decide +kernel
theorem d_Model_count_54 : decode jc_Model_count 54 = .ok (.iconst 1, 1) := by decide +kernel
theorem d_Model_count_55 : decode jc_Model_count 55 = .ok (.goto 4, 3) := by decide +kernel
theorem d_Model_count_58 : decode jc_Model_count 58 = .ok (.iconst 0, 1) := by decide +kernel
theorem d_Model_count_59 : decode jc_Model_count 59 = .ok (.iadd, 1) := by decide +kernel
theorem d_Model_count_60 : decode jc_Model_count 60 = .ok (.istore_n 2, 1) := by decide +kernel
theorem d_Model_count_61 : decode jc_Model_count 61 = .ok (.iinc 3 1, 3) := by decide +kernel
theorem d_Model_count_64 : decode jc_Model_count 64 = .ok (.goto (-26), 3) := by decide +kernel
theorem d_Model_count_67 : decode jc_Model_count 67 = .ok (.iload_n 2, 1) := by decide +kernel
theorem d_Model_count_68 : decode jc_Model_count 68 = .ok (.ireturn, 1) := by decide +kernel
theorem d_Model_count_69 : decode jc_Model_count 69 = .ok (.aload_n 0, 1) := by decide +kernel
theorem d_Model_count_70 : decode jc_Model_count 70 = .ok (.getfield 252, 3) := by decide +kernel
theorem d_Model_count_73 : decode jc_Model_count 73 = .ok (.ireturn, 1) := by decide +kernel
theorem d_Model_count_74 : decode jc_Model_count 74 = .ok (.aload_n 0, 1) := by decide +kernel
theorem d_Model_count_75 : decode jc_Model_count 75 = .ok (.getfield 59, 3) := by decide +kernel
theorem d_Model_count_78 : decode jc_Model_count 78 = .ok (.ireturn, 1) := by decide +kernel
theorem d_Model_count_79 : decode jc_Model_count 79 = .ok (.iconst 0, 1) := by decide +kernel
theorem d_Model_count_80 : decode jc_Model_count 80 = .ok (.istore_n 3, 1) := by decide +kernel
theorem d_Model_count_81 : decode jc_Model_count 81 = .ok (.iload_n 3, 1) := by decide +kernel
theorem d_Model_count_82 : decode jc_Model_count 82 = .ok (.iconst 4, 1) := by decide +kernel
theorem d_Model_count_83 : decode jc_Model_count 83 = .ok (.if_icmp .ge 26, 3) := by decide +kernel
theorem d_Model_count_86 : decode jc_Model_count 86 = .ok (.iload_n 2, 1) := by decide +kernel
theorem d_Model_count_87 : decode jc_Model_count 87 = .ok (.aload_n 0, 1) := by decide +kernel
theorem d_Model_count_88 : decode jc_Model_count 88 = .ok (.getfield 50, 3) := by decide +kernel
theorem d_Model_count_91 : decode jc_Model_count 91 = .ok (.iload_n 3, 1) := by decide +kernel
theorem d_Model_count_92 : decode jc_Model_count 92 = .ok (.iaload, 1) := by decide +kernel
theorem d_Model_count_93 : decode jc_Model_count 93 = .ok (.ifCond .lt 7, 3) := by decide +kernel
theorem d_Model_count_96 : decode jc_Model_count 96 = .ok (.iconst 1, 1) := by decide +kernel
theorem d_Model_count_97 : decode jc_Model_count 97 = .ok (.goto 4, 3) := by decide +kernel
theorem d_Model_count_100 : decode jc_Model_count 100 = .ok (.iconst 0, 1) := by decide +kernel
theorem d_Model_count_101 : decode jc_Model_count 101 = .ok (.iadd, 1) := by decide +kernel
theorem d_Model_count_102 : decode jc_Model_count 102 = .ok (.istore_n 2, 1) := by decide +kernel
theorem d_Model_count_103 : decode jc_Model_count 103 = .ok (.iinc 3 1, 3) := by decide +kernel
theorem d_Model_count_106 : decode jc_Model_count 106 = .ok (.goto (-25), 3) := by decide +kernel
theorem d_Model_count_109 : decode jc_Model_count 109 = .ok (.iload_n 2, 1) := by decide +kernel
theorem d_Model_count_110 : decode jc_Model_count 110 = .ok (.ireturn, 1) := by decide +kernel
theorem d_Model_count_111 : decode jc_Model_count 111 = .ok (.iconst 0, 1) := by decide +kernel
theorem d_Model_count_112 : decode jc_Model_count 112 = .ok (.ireturn, 1) := by decide +kernel
theorem d_Model_count_113 : decode jc_Model_count 113 = .ok (.iconst (-1), 1) := by decide +kernel
theorem d_Model_count_114 : decode jc_Model_count 114 = .ok (.ireturn, 1) := by decide +kernel

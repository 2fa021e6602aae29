theorem d_Chain_isFull_0 : decode jc_Chain_isFull 0 = .ok (.aload_n 0, 1) := by decide +kernel
theorem d_Chain_isFull_1 : decode jc_Chain_isFull 1 = .ok (.getfield 43, 3) := by decide +kernel
theorem d_Chain_isFull_4 : decode jc_Chain_isFull 4 = .ok (.bipush 8, 2) := by decide +kernel
theorem d_Chain_isFull_6 : decode jc_Chain_isFull 6 = .ok (.if_icmp .lt 7, 3) := by decide +kernel
theorem d_Chain_isFull_9 : decode jc_Chain_isFull 9 = .ok (.iconst 1, 1) := by decide +kernel
theorem d_Chain_isFull_10 : decode jc_Chain_isFull 10 = .ok (.goto 4, 3) := by decide +kernel
theorem d_Chain_isFull_13 : decode jc_Chain_isFull 13 = .ok (.iconst 0, 1) := by decide +kernel
theorem d_Chain_isFull_14 : decode jc_Chain_isFull 14 = .ok (.ireturn, 1) := by decide +kernel
theorem d_Chain_append_0 : decode jc_Chain_append 0 = .ok (.aload_n 0, 1) := by decide +kernel
theorem d_Chain_append_1 : decode jc_Chain_append 1 = .ok (.invokevirtual 47, 3) := by decide +kernel
theorem d_Chain_append_4 : decode jc_Chain_append 4 = .ok (.ifCond .eq 4, 3) := by decide +kernel
theorem d_Chain_append_7 : decode jc_Chain_append 7 = .ok (.return_, 1) := by decide +kernel
theorem d_Chain_append_8 : decode jc_Chain_append 8 = .ok (.aload_n 0, 1) := by decide +kernel
theorem d_Chain_append_9 : decode jc_Chain_append 9 = .ok (.getfield 28, 3) := by decide +kernel
theorem d_Chain_append_12 : decode jc_Chain_append 12 = .ok (.aload_n 0, 1) := by decide +kernel
theorem d_Chain_append_13 : decode jc_Chain_append 13 = .ok (.getfield 43, 3) := by decide +kernel
theorem d_Chain_append_16 : decode jc_Chain_append 16 = .ok (.aaload, 1) := by decide +kernel
theorem d_Chain_append_17 : decode jc_Chain_append 17 = .ok (.astore 4, 2) := by decide +kernel
theorem d_Chain_append_19 : decode jc_Chain_append 19 = .ok (.aload 4, 2) := by decide +kernel
theorem d_Chain_append_21 : decode jc_Chain_append 21 = .ok (.iload_n 1, 1) := by decide +kernel
theorem d_Chain_append_22 : decode jc_Chain_append 22 = .ok (.putfield 51, 3) := by decide +kernel
theorem d_Chain_append_25 : decode jc_Chain_append 25 = .ok (.aload 4, 2) := by decide +kernel
theorem d_Chain_append_27 : decode jc_Chain_append 27 = .ok (.iload_n 2, 1) := by decide +kernel
theorem d_Chain_append_28 : decode jc_Chain_append 28 = .ok (.putfield 54, 3) := by decide +kernel
theorem d_Chain_append_31 : decode jc_Chain_append 31 = .ok (.iload_n 1, 1) := by decide +kernel
theorem d_Chain_append_32 : decode jc_Chain_append 32 = .ok (.iconst 2, 1) := by decide +kernel
theorem d_Chain_append_33 : decode jc_Chain_append 33 = .ok (.if_icmp .eq 9, 3) := by decide +kernel
theorem d_Chain_append_36 : decode jc_Chain_append 36 = .ok (.iload_n 1, 1) := by decide +kernel
theorem d_Chain_append_37 : decode jc_Chain_append 37 = .ok (.bipush 6, 2) := by decide +kernel
theorem d_Chain_append_39 : decode jc_Chain_append 39 = .ok (.if_icmp .ne 14, 3) := by decide +kernel
theorem d_Chain_append_42 : decode jc_Chain_append 42 = .ok (.aload 4, 2) := by decide +kernel
theorem d_Chain_append_44 : decode jc_Chain_append 44 = .ok (.getfield 57, 3) := by decide +kernel
theorem d_Chain_append_47 : decode jc_Chain_append 47 = .ok (.aload_n 3, 1) := by decide +kernel
theorem d_Chain_append_48 : decode jc_Chain_append 48 = .ok (.iload_n 2, 1) := by decide +kernel
theorem d_Chain_append_49 : decode jc_Chain_append 49 = .ok (.aaload, 1) := by decide +kernel
theorem d_Chain_append_50 : decode jc_Chain_append 50 = .ok (.invokevirtual 60, 3) := by decide +kernel
theorem d_Chain_append_53 : decode jc_Chain_append 53 = .ok (.aload_n 0, 1) := by decide +kernel
theorem d_Chain_append_54 : decode jc_Chain_append 54 = .ok (.dup, 1) := by decide +kernel
theorem d_Chain_append_55 : decode jc_Chain_append 55 = .ok (.getfield 43, 3) := by decide +kernel
theorem d_Chain_append_58 : decode jc_Chain_append 58 = .ok (.iconst 1, 1) := by decide +kernel
theorem d_Chain_append_59 : decode jc_Chain_append 59 = .ok (.iadd, 1) := by decide +kernel
theorem d_Chain_append_60 : decode jc_Chain_append 60 = .ok (.putfield 43, 3) := by decide +kernel
theorem d_Chain_append_63 : decode jc_Chain_append 63 = .ok (.return_, 1) := by decide +kernel
theorem d_Chain_pass_0 : decode jc_Chain_pass 0 = .ok (.aload_n 0, 1) := by decide +kernel
theorem d_Chain_pass_1 : decode jc_Chain_pass 1 = .ok (.iconst 0, 1) := by decide +kernel
theorem d_Chain_pass_2 : decode jc_Chain_pass 2 = .ok (.putfield 64, 3) := by decide +kernel
theorem d_Chain_pass_5 : decode jc_Chain_pass 5 = .ok (.aload_n 0, 1) := by decide +kernel
theorem d_Chain_pass_6 : decode jc_Chain_pass 6 = .ok (.iconst 0, 1) := by decide +kernel
theorem d_Chain_pass_7 : decode jc_Chain_pass 7 = .ok (.putfield 67, 3) := by decide +kernel
theorem d_Chain_pass_10 : decode jc_Chain_pass 10 = .ok (.aload_n 0, 1) := by decide +kernel
theorem d_Chain_pass_11 : decode jc_Chain_pass 11 = .ok (.getfield 19, 3) := by decide +kernel
theorem d_Chain_pass_14 : decode jc_Chain_pass 14 = .ok (.aload_n 1, 1) := by decide +kernel
theorem d_Chain_pass_15 : decode jc_Chain_pass 15 = .ok (.invokevirtual 60, 3) := by decide +kernel
theorem d_Chain_pass_18 : decode jc_Chain_pass 18 = .ok (.iconst (-1), 1) := by decide +kernel
theorem d_Chain_pass_19 : decode jc_Chain_pass 19 = .ok (.istore_n 3, 1) := by decide +kernel
theorem d_Chain_pass_20 : decode jc_Chain_pass 20 = .ok (.iconst 0, 1) := by decide +kernel
theorem d_Chain_pass_21 : decode jc_Chain_pass 21 = .ok (.istore 4, 2) := by decide +kernel
theorem d_Chain_pass_23 : decode jc_Chain_pass 23 = .ok (.iload 4, 2) := by decide +kernel
theorem d_Chain_pass_25 : decode jc_Chain_pass 25 = .ok (.aload_n 0, 1) := by decide +kernel
theorem d_Chain_pass_26 : decode jc_Chain_pass 26 = .ok (.getfield 43, 3) := by decide +kernel
theorem d_Chain_pass_29 : decode jc_Chain_pass 29 = .ok (.if_icmp .ge 90, 3) := by decide +kernel
theorem d_Chain_pass_32 : decode jc_Chain_pass 32 = .ok (.iload_n 3, 1) := by decide +kernel
theorem d_Chain_pass_33 : decode jc_Chain_pass 33 = .ok (.ifCond .ge 86, 3) := by decide +kernel
theorem d_Chain_pass_36 : decode jc_Chain_pass 36 = .ok (.aload_n 0, 1) := by decide +kernel
theorem d_Chain_pass_37 : decode jc_Chain_pass 37 = .ok (.getfield 32, 3) := by decide +kernel
theorem d_Chain_pass_40 : decode jc_Chain_pass 40 = .ok (.aload_n 0, 1) := by decide +kernel
theorem d_Chain_pass_41 : decode jc_Chain_pass 41 = .ok (.getfield 70, 3) := by decide +kernel
theorem d_Chain_pass_44 : decode jc_Chain_pass 44 = .ok (.iload 4, 2) := by decide +kernel
theorem d_Chain_pass_46 : decode jc_Chain_pass 46 = .ok (.iastore, 1) := by decide +kernel
theorem d_Chain_pass_47 : decode jc_Chain_pass 47 = .ok (.aload_n 0, 1) := by decide +kernel
theorem d_Chain_pass_48 : decode jc_Chain_pass 48 = .ok (.dup, 1) := by decide +kernel
theorem d_Chain_pass_49 : decode jc_Chain_pass 49 = .ok (.getfield 70, 3) := by decide +kernel
theorem d_Chain_pass_52 : decode jc_Chain_pass 52 = .ok (.iconst 1, 1) := by decide +kernel
theorem d_Chain_pass_53 : decode jc_Chain_pass 53 = .ok (.iadd, 1) := by decide +kernel
theorem d_Chain_pass_54 : decode jc_Chain_pass 54 = .ok (.putfield 70, 3) := by decide +kernel
theorem d_Chain_pass_57 : decode jc_Chain_pass 57 = .ok (.aload_n 0, 1) := by decide +kernel
theorem d_Chain_pass_58 : decode jc_Chain_pass 58 = .ok (.aload_n 0, 1) := by decide +kernel
theorem d_Chain_pass_59 : decode jc_Chain_pass 59 = .ok (.getfield 28, 3) := by decide +kernel
theorem d_Chain_pass_62 : decode jc_Chain_pass 62 = .ok (.iload 4, 2) := by decide +kernel
theorem d_Chain_pass_64 : decode jc_Chain_pass 64 = .ok (.aaload, 1) := by decide +kernel
theorem d_Chain_pass_65 : decode jc_Chain_pass 65 = .ok (.aload_n 2, 1) := by decide +kernel
theorem d_Chain_pass_66 : decode jc_Chain_pass 66 = .ok (.invokevirtual 73, 3) := by decide +kernel
theorem d_Chain_pass_69 : decode jc_Chain_pass 69 = .ok (.astore 5, 2) := by decide +kernel
theorem d_Chain_pass_71 : decode jc_Chain_pass 71 = .ok (.aload 5, 2) := by decide +kernel
theorem d_Chain_pass_73 : decode jc_Chain_pass 73 = .ok (.getfield 77, 3) := by decide +kernel
theorem d_Chain_pass_76 : decode jc_Chain_pass 76 = .ok (.aload_n 0, 1) := by decide +kernel
theorem d_Chain_pass_77 : decode jc_Chain_pass 77 = .ok (.getfield 19, 3) := by decide +kernel
theorem d_Chain_pass_80 : decode jc_Chain_pass 80 = .ok (.getfield 77, 3) := by decide +kernel
theorem d_Chain_pass_83 : decode jc_Chain_pass 83 = .ok (.if_icmp .ne 19, 3) := by decide +kernel
theorem d_Chain_pass_86 : decode jc_Chain_pass 86 = .ok (.aload_n 0, 1) := by decide +kernel
theorem d_Chain_pass_87 : decode jc_Chain_pass 87 = .ok (.aload_n 0, 1) := by decide +kernel
theorem d_Chain_pass_88 : decode jc_Chain_pass 88 = .ok (.getfield 28, 3) := by decide +kernel
theorem d_Chain_pass_91 : decode jc_Chain_pass 91 = .ok (.iload 4, 2) := by decide +kernel
theorem d_Chain_pass_93 : decode jc_Chain_pass 93 = .ok (.aaload, 1) := by decide +kernel
theorem d_Chain_pass_94 : decode jc_Chain_pass 94 = .ok (.aload 5, 2) := by decide +kernel
theorem d_Chain_pass_96 : decode jc_Chain_pass 96 = .ok (.invokevirtual 80, 3) := by decide +kernel
theorem d_Chain_pass_99 : decode jc_Chain_pass 99 = .ok (.goto 14, 3) := by decide +kernel
theorem d_Chain_pass_102 : decode jc_Chain_pass 102 = .ok (.iload 4, 2) := by decide +kernel
theorem d_Chain_pass_104 : decode jc_Chain_pass 104 = .ok (.istore_n 3, 1) := by decide +kernel
theorem d_Chain_pass_105 : decode jc_Chain_pass 105 = .ok (.aload_n 0, 1) := by decide +kernel
theorem d_Chain_pass_106 : decode jc_Chain_pass 106 = .ok (.iload 4, 2) := by decide +kernel
theorem d_Chain_pass_108 : decode jc_Chain_pass 108 = .ok (.aload 5, 2) := by decide +kernel
theorem d_Chain_pass_110 : decode jc_Chain_pass 110 = .ok (.invokevirtual 84, 3) := by decide +kernel
theorem d_Chain_pass_113 : decode jc_Chain_pass 113 = .ok (.iinc 4 1, 3) := by decide +kernel
theorem d_Chain_pass_116 : decode jc_Chain_pass 116 = .ok (.goto (-93), 3) := by decide +kernel
theorem d_Chain_pass_119 : decode jc_Chain_pass 119 = .ok (.aload_n 0, 1) := by decide +kernel
theorem d_Chain_pass_120 : decode jc_Chain_pass 120 = .ok (.invokevirtual 88, 3) := by decide +kernel
theorem d_Chain_pass_123 : decode jc_Chain_pass 123 = .ok (.iload_n 3, 1) := by decide +kernel
theorem d_Chain_pass_124 : decode jc_Chain_pass 124 = .ok (.ireturn, 1) := by decide +kernel
theorem d_Chain_partner_0 : decode jc_Chain_partner 0 = .ok (.aload_n 1, 1) := by decide +kernel
theorem d_Chain_partner_1 : decode jc_Chain_partner 1 = .ok (.getfield 51, 3) := by decide +kernel
theorem d_Chain_partner_4 : decode jc_Chain_partner 4 = .ok (.iconst 2, 1) := by decide +kernel
theorem d_Chain_partner_5 : decode jc_Chain_partner 5 = .ok (.if_icmp .eq 12, 3) := by decide +kernel
theorem d_Chain_partner_8 : decode jc_Chain_partner 8 = .ok (.aload_n 1, 1) := by decide +kernel
theorem d_Chain_partner_9 : decode jc_Chain_partner 9 = .ok (.getfield 51, 3) := by decide +kernel
theorem d_Chain_partner_12 : decode jc_Chain_partner 12 = .ok (.bipush 6, 2) := by decide +kernel
theorem d_Chain_partner_14 : decode jc_Chain_partner 14 = .ok (.if_icmp .ne 8, 3) := by decide +kernel
theorem d_Chain_partner_17 : decode jc_Chain_partner 17 = .ok (.aload_n 1, 1) := by decide +kernel
theorem d_Chain_partner_18 : decode jc_Chain_partner 18 = .ok (.getfield 57, 3) := by decide +kernel
theorem d_Chain_partner_21 : decode jc_Chain_partner 21 = .ok (.areturn, 1) := by decide +kernel
theorem d_Chain_partner_22 : decode jc_Chain_partner 22 = .ok (.aload_n 1, 1) := by decide +kernel
theorem d_Chain_partner_23 : decode jc_Chain_partner 23 = .ok (.getfield 51, 3) := by decide +kernel
theorem d_Chain_partner_26 : decode jc_Chain_partner 26 = .ok (.iconst 3, 1) := by decide +kernel
theorem d_Chain_partner_27 : decode jc_Chain_partner 27 = .ok (.if_icmp .ne 12, 3) := by decide +kernel
theorem d_Chain_partner_30 : decode jc_Chain_partner 30 = .ok (.aload_n 2, 1) := by decide +kernel
theorem d_Chain_partner_31 : decode jc_Chain_partner 31 = .ok (.aload_n 1, 1) := by decide +kernel
theorem d_Chain_partner_32 : decode jc_Chain_partner 32 = .ok (.getfield 54, 3) := by decide +kernel
theorem d_Chain_partner_35 : decode jc_Chain_partner 35 = .ok (.aaload, 1) := by decide +kernel
theorem d_Chain_partner_36 : decode jc_Chain_partner 36 = .ok (.goto 7, 3) := by decide +kernel
theorem d_Chain_partner_39 : decode jc_Chain_partner 39 = .ok (.aload_n 0, 1) := by decide +kernel
theorem d_Chain_partner_40 : decode jc_Chain_partner 40 = .ok (.getfield 19, 3) := by decide +kernel
theorem d_Chain_partner_43 : decode jc_Chain_partner 43 = .ok (.areturn, 1) := by decide +kernel
theorem d_Chain_change_0 : decode jc_Chain_change 0 = .ok (.aload_n 1, 1) := by decide +kernel
theorem d_Chain_change_1 : decode jc_Chain_change 1 = .ok (.getfield 51, 3) := by decide +kernel
theorem d_Chain_change_4 : decode jc_Chain_change 4 = .ok (.tableswitch 140 0 5 #[40, 65, 75, 86, 97, 130], 40) := by decide +kernel
theorem d_Chain_change_44 : decode jc_Chain_change 44 = .ok (.aload_n 0, 1) := by decide +kernel
theorem d_Chain_change_45 : decode jc_Chain_change 45 = .ok (.getfield 23, 3) := by decide +kernel
theorem d_Chain_change_48 : decode jc_Chain_change 48 = .ok (.aload_n 0, 1) := by decide +kernel
theorem d_Chain_change_49 : decode jc_Chain_change 49 = .ok (.getfield 19, 3) := by decide +kernel
theorem d_Chain_change_52 : decode jc_Chain_change 52 = .ok (.invokevirtual 91, 3) := by decide +kernel
theorem d_Chain_change_55 : decode jc_Chain_change 55 = .ok (.aload_n 0, 1) := by decide +kernel
theorem d_Chain_change_56 : decode jc_Chain_change 56 = .ok (.getfield 19, 3) := by decide +kernel
theorem d_Chain_change_59 : decode jc_Chain_change 59 = .ok (.aload_n 0, 1) := by decide +kernel
theorem d_Chain_change_60 : decode jc_Chain_change 60 = .ok (.getfield 23, 3) := by decide +kernel
theorem d_Chain_change_63 : decode jc_Chain_change 63 = .ok (.invokevirtual 60, 3) := by decide +kernel
theorem d_Chain_change_66 : decode jc_Chain_change 66 = .ok (.goto 86, 3) := by decide +kernel
theorem d_Chain_change_69 : decode jc_Chain_change 69 = .ok (.aload_n 0, 1) := by decide +kernel
theorem d_Chain_change_70 : decode jc_Chain_change 70 = .ok (.getfield 19, 3) := by decide +kernel
theorem d_Chain_change_73 : decode jc_Chain_change 73 = .ok (.invokevirtual 94, 3) := by decide +kernel
theorem d_Chain_change_76 : decode jc_Chain_change 76 = .ok (.goto 76, 3) := by decide +kernel
theorem d_Chain_change_79 : decode jc_Chain_change 79 = .ok (.aload_n 0, 1) := by decide +kernel
theorem d_Chain_change_80 : decode jc_Chain_change 80 = .ok (.getfield 19, 3) := by decide +kernel
theorem d_Chain_change_83 : decode jc_Chain_change 83 = .ok (.aload_n 2, 1) := by decide +kernel
theorem d_Chain_change_84 : decode jc_Chain_change 84 = .ok (.invokevirtual 97, 3) := by decide +kernel
theorem d_Chain_change_87 : decode jc_Chain_change 87 = .ok (.goto 65, 3) := by decide +kernel
theorem d_Chain_change_90 : decode jc_Chain_change 90 = .ok (.aload_n 0, 1) := by decide +kernel
theorem d_Chain_change_91 : decode jc_Chain_change 91 = .ok (.getfield 19, 3) := by decide +kernel
theorem d_Chain_change_94 : decode jc_Chain_change 94 = .ok (.aload_n 2, 1) := by decide +kernel
theorem d_Chain_change_95 : decode jc_Chain_change 95 = .ok (.invokevirtual 100, 3) := by decide +kernel
theorem d_Chain_change_98 : decode jc_Chain_change 98 = .ok (.goto 54, 3) := by decide +kernel
theorem d_Chain_change_101 : decode jc_Chain_change 101 = .ok (.aload_n 0, 1) := by decide +kernel
theorem d_Chain_change_102 : decode jc_Chain_change 102 = .ok (.getfield 38, 3) := by decide +kernel
theorem d_Chain_change_105 : decode jc_Chain_change 105 = .ok (.aload_n 0, 1) := by decide +kernel
theorem d_Chain_change_106 : decode jc_Chain_change 106 = .ok (.getfield 19, 3) := by decide +kernel
theorem d_Chain_change_109 : decode jc_Chain_change 109 = .ok (.aload_n 1, 1) := by decide +kernel
theorem d_Chain_change_110 : decode jc_Chain_change 110 = .ok (.getfield 54, 3) := by decide +kernel
theorem d_Chain_change_113 : decode jc_Chain_change 113 = .ok (.aload_n 0, 1) := by decide +kernel
theorem d_Chain_change_114 : decode jc_Chain_change 114 = .ok (.getfield 23, 3) := by decide +kernel
theorem d_Chain_change_117 : decode jc_Chain_change 117 = .ok (.invokevirtual 103, 3) := by decide +kernel
theorem d_Chain_change_120 : decode jc_Chain_change 120 = .ok (.aload_n 0, 1) := by decide +kernel
theorem d_Chain_change_121 : decode jc_Chain_change 121 = .ok (.getfield 19, 3) := by decide +kernel
theorem d_Chain_change_124 : decode jc_Chain_change 124 = .ok (.aload_n 0, 1) := by decide +kernel
theorem d_Chain_change_125 : decode jc_Chain_change 125 = .ok (.getfield 23, 3) := by decide +kernel
theorem d_Chain_change_128 : decode jc_Chain_change 128 = .ok (.invokevirtual 60, 3) := by decide +kernel
theorem d_Chain_change_131 : decode jc_Chain_change 131 = .ok (.goto 21, 3) := by decide +kernel
theorem d_Chain_change_134 : decode jc_Chain_change 134 = .ok (.aload_n 0, 1) := by decide +kernel
theorem d_Chain_change_135 : decode jc_Chain_change 135 = .ok (.getfield 19, 3) := by decide +kernel
theorem d_Chain_change_138 : decode jc_Chain_change 138 = .ok (.invokevirtual 107, 3) := by decide +kernel
theorem d_Chain_change_141 : decode jc_Chain_change 141 = .ok (.goto 11, 3) := by decide +kernel
theorem d_Chain_change_144 : decode jc_Chain_change 144 = .ok (.aload_n 0, 1) := by decide +kernel
theorem d_Chain_change_145 : decode jc_Chain_change 145 = .ok (.getfield 19, 3) := by decide +kernel
theorem d_Chain_change_148 : decode jc_Chain_change 148 = .ok (.aload_n 2, 1) := by decide +kernel
theorem d_Chain_change_149 : decode jc_Chain_change 149 = .ok (.invokevirtual 110, 3) := by decide +kernel
theorem d_Chain_change_152 : decode jc_Chain_change 152 = .ok (.return_, 1) := by decide +kernel
theorem d_Chain_giveReasons_0 : decode jc_Chain_giveReasons 0 = .ok (.aload_n 0, 1) := by decide +kernel
theorem d_Chain_giveReasons_1 : decode jc_Chain_giveReasons 1 = .ok (.getfield 28, 3) := by decide +kernel
theorem d_Chain_giveReasons_4 : decode jc_Chain_giveReasons 4 = .ok (.iload_n 1, 1) := by decide +kernel
theorem d_Chain_giveReasons_5 : decode jc_Chain_giveReasons 5 = .ok (.aaload, 1) := by decide +kernel
theorem d_Chain_giveReasons_6 : decode jc_Chain_giveReasons 6 = .ok (.astore_n 3, 1) := by decide +kernel
theorem d_Chain_giveReasons_7 : decode jc_Chain_giveReasons 7 = .ok (.aload_n 0, 1) := by decide +kernel
theorem d_Chain_giveReasons_8 : decode jc_Chain_giveReasons 8 = .ok (.getfield 13, 3) := by decide +kernel
theorem d_Chain_giveReasons_11 : decode jc_Chain_giveReasons 11 = .ok (.iconst 0, 1) := by decide +kernel
theorem d_Chain_giveReasons_12 : decode jc_Chain_giveReasons 12 = .ok (.iload_n 1, 1) := by decide +kernel
theorem d_Chain_giveReasons_13 : decode jc_Chain_giveReasons 13 = .ok (.iastore, 1) := by decide +kernel
theorem d_Chain_giveReasons_14 : decode jc_Chain_giveReasons 14 = .ok (.aload_n 0, 1) := by decide +kernel
theorem d_Chain_giveReasons_15 : decode jc_Chain_giveReasons 15 = .ok (.getfield 13, 3) := by decide +kernel
theorem d_Chain_giveReasons_18 : decode jc_Chain_giveReasons 18 = .ok (.iconst 1, 1) := by decide +kernel
theorem d_Chain_giveReasons_19 : decode jc_Chain_giveReasons 19 = .ok (.aload_n 3, 1) := by decide +kernel
theorem d_Chain_giveReasons_20 : decode jc_Chain_giveReasons 20 = .ok (.getfield 51, 3) := by decide +kernel
theorem d_Chain_giveReasons_23 : decode jc_Chain_giveReasons 23 = .ok (.iastore, 1) := by decide +kernel
theorem d_Chain_giveReasons_24 : decode jc_Chain_giveReasons 24 = .ok (.aload_n 0, 1) := by decide +kernel
theorem d_Chain_giveReasons_25 : decode jc_Chain_giveReasons 25 = .ok (.getfield 13, 3) := by decide +kernel
theorem d_Chain_giveReasons_28 : decode jc_Chain_giveReasons 28 = .ok (.iconst 2, 1) := by decide +kernel
theorem d_Chain_giveReasons_29 : decode jc_Chain_giveReasons 29 = .ok (.aload_n 2, 1) := by decide +kernel
theorem d_Chain_giveReasons_30 : decode jc_Chain_giveReasons 30 = .ok (.getfield 77, 3) := by decide +kernel
theorem d_Chain_giveReasons_33 : decode jc_Chain_giveReasons 33 = .ok (.ifCond .ne 13, 3) := by decide +kernel
theorem d_Chain_giveReasons_36 : decode jc_Chain_giveReasons 36 = .ok (.bipush 100, 2) := by decide +kernel
theorem d_Chain_giveReasons_38 : decode jc_Chain_giveReasons 38 = .ok (.aload_n 3, 1) := by decide +kernel
theorem d_Chain_giveReasons_39 : decode jc_Chain_giveReasons 39 = .ok (.getfield 54, 3) := by decide +kernel
theorem d_Chain_giveReasons_42 : decode jc_Chain_giveReasons 42 = .ok (.iadd, 1) := by decide +kernel
theorem d_Chain_giveReasons_43 : decode jc_Chain_giveReasons 43 = .ok (.goto 7, 3) := by decide +kernel
theorem d_Chain_giveReasons_46 : decode jc_Chain_giveReasons 46 = .ok (.aload_n 2, 1) := by decide +kernel
theorem d_Chain_giveReasons_47 : decode jc_Chain_giveReasons 47 = .ok (.getfield 77, 3) := by decide +kernel
theorem d_Chain_giveReasons_50 : decode jc_Chain_giveReasons 50 = .ok (.iastore, 1) := by decide +kernel
theorem d_Chain_giveReasons_51 : decode jc_Chain_giveReasons 51 = .ok (.aload_n 0, 1) := by decide +kernel
theorem d_Chain_giveReasons_52 : decode jc_Chain_giveReasons 52 = .ok (.iconst 3, 1) := by decide +kernel
theorem d_Chain_giveReasons_53 : decode jc_Chain_giveReasons 53 = .ok (.putfield 67, 3) := by decide +kernel
theorem d_Chain_giveReasons_56 : decode jc_Chain_giveReasons 56 = .ok (.return_, 1) := by decide +kernel
theorem d_Chain_giveBack_0 : decode jc_Chain_giveBack 0 = .ok (.aload_n 0, 1) := by decide +kernel
theorem d_Chain_giveBack_1 : decode jc_Chain_giveBack 1 = .ok (.getfield 70, 3) := by decide +kernel
theorem d_Chain_giveBack_4 : decode jc_Chain_giveBack 4 = .ok (.iconst 1, 1) := by decide +kernel
theorem d_Chain_giveBack_5 : decode jc_Chain_giveBack 5 = .ok (.isub, 1) := by decide +kernel
theorem d_Chain_giveBack_6 : decode jc_Chain_giveBack 6 = .ok (.istore_n 1, 1) := by decide +kernel
theorem d_Chain_giveBack_7 : decode jc_Chain_giveBack 7 = .ok (.iload_n 1, 1) := by decide +kernel
theorem d_Chain_giveBack_8 : decode jc_Chain_giveBack 8 = .ok (.ifCond .lt 44, 3) := by decide +kernel
theorem d_Chain_giveBack_11 : decode jc_Chain_giveBack 11 = .ok (.aload_n 0, 1) := by decide +kernel
theorem d_Chain_giveBack_12 : decode jc_Chain_giveBack 12 = .ok (.getfield 9, 3) := by decide +kernel
theorem d_Chain_giveBack_15 : decode jc_Chain_giveBack 15 = .ok (.aload_n 0, 1) := by decide +kernel
theorem d_Chain_giveBack_16 : decode jc_Chain_giveBack 16 = .ok (.getfield 64, 3) := by decide +kernel
theorem d_Chain_giveBack_19 : decode jc_Chain_giveBack 19 = .ok (.aload_n 0, 1) := by decide +kernel
theorem d_Chain_giveBack_20 : decode jc_Chain_giveBack 20 = .ok (.getfield 32, 3) := by decide +kernel
theorem d_Chain_giveBack_23 : decode jc_Chain_giveBack 23 = .ok (.iload_n 1, 1) := by decide +kernel
theorem d_Chain_giveBack_24 : decode jc_Chain_giveBack 24 = .ok (.iaload, 1) := by decide +kernel
theorem d_Chain_giveBack_25 : decode jc_Chain_giveBack 25 = .ok (.iastore, 1) := by decide +kernel
theorem d_Chain_giveBack_26 : decode jc_Chain_giveBack 26 = .ok (.aload_n 0, 1) := by decide +kernel
theorem d_Chain_giveBack_27 : decode jc_Chain_giveBack 27 = .ok (.dup, 1) := by decide +kernel
theorem d_Chain_giveBack_28 : decode jc_Chain_giveBack 28 = .ok (.getfield 64, 3) := by decide +kernel
theorem d_Chain_giveBack_31 : decode jc_Chain_giveBack 31 = .ok (.iconst 1, 1) := by decide +kernel
theorem d_Chain_giveBack_32 : decode jc_Chain_giveBack 32 = .ok (.iadd, 1) := by decide +kernel
theorem d_Chain_giveBack_33 : decode jc_Chain_giveBack 33 = .ok (.putfield 64, 3) := by decide +kernel
theorem d_Chain_giveBack_36 : decode jc_Chain_giveBack 36 = .ok (.aload_n 0, 1) := by decide +kernel
theorem d_Chain_giveBack_37 : decode jc_Chain_giveBack 37 = .ok (.dup, 1) := by decide +kernel
theorem d_Chain_giveBack_38 : decode jc_Chain_giveBack 38 = .ok (.getfield 70, 3) := by decide +kernel
theorem d_Chain_giveBack_41 : decode jc_Chain_giveBack 41 = .ok (.iconst 1, 1) := by decide +kernel
theorem d_Chain_giveBack_42 : decode jc_Chain_giveBack 42 = .ok (.isub, 1) := by decide +kernel
theorem d_Chain_giveBack_43 : decode jc_Chain_giveBack 43 = .ok (.putfield 70, 3) := by decide +kernel
theorem d_Chain_giveBack_46 : decode jc_Chain_giveBack 46 = .ok (.iinc 1 (-1), 3) := by decide +kernel
theorem d_Chain_giveBack_49 : decode jc_Chain_giveBack 49 = .ok (.goto (-42), 3) := by decide +kernel
theorem d_Chain_giveBack_52 : decode jc_Chain_giveBack 52 = .ok (.return_, 1) := by decide +kernel
theorem d_Log_note_0 : decode jc_Log_note 0 = .ok (.aload_n 0, 1) := by decide +kernel
theorem d_Log_note_1 : decode jc_Log_note 1 = .ok (.getfield 9, 3) := by decide +kernel
theorem d_Log_note_4 : decode jc_Log_note 4 = .ok (.aload_n 0, 1) := by decide +kernel
theorem d_Log_note_5 : decode jc_Log_note 5 = .ok (.getfield 20, 3) := by decide +kernel
theorem d_Log_note_8 : decode jc_Log_note 8 = .ok (.iload_n 1, 1) := by decide +kernel
theorem d_Log_note_9 : decode jc_Log_note 9 = .ok (.iastore, 1) := by decide +kernel
theorem d_Log_note_10 : decode jc_Log_note 10 = .ok (.aload_n 0, 1) := by decide +kernel
theorem d_Log_note_11 : decode jc_Log_note 11 = .ok (.getfield 15, 3) := by decide +kernel
theorem d_Log_note_14 : decode jc_Log_note 14 = .ok (.aload_n 0, 1) := by decide +kernel
theorem d_Log_note_15 : decode jc_Log_note 15 = .ok (.getfield 20, 3) := by decide +kernel
theorem d_Log_note_18 : decode jc_Log_note 18 = .ok (.aaload, 1) := by decide +kernel
theorem d_Log_note_19 : decode jc_Log_note 19 = .ok (.aload_n 2, 1) := by decide +kernel
theorem d_Log_note_20 : decode jc_Log_note 20 = .ok (.invokevirtual 24, 3) := by decide +kernel
theorem d_Log_note_23 : decode jc_Log_note 23 = .ok (.aload_n 0, 1) := by decide +kernel
theorem d_Log_note_24 : decode jc_Log_note 24 = .ok (.aload_n 0, 1) := by decide +kernel
theorem d_Log_note_25 : decode jc_Log_note 25 = .ok (.getfield 20, 3) := by decide +kernel
theorem d_Log_note_28 : decode jc_Log_note 28 = .ok (.bipush 19, 2) := by decide +kernel
theorem d_Log_note_30 : decode jc_Log_note 30 = .ok (.if_icmp .ne 7, 3) := by decide +kernel
theorem d_Log_note_33 : decode jc_Log_note 33 = .ok (.iconst 0, 1) := by decide +kernel
theorem d_Log_note_34 : decode jc_Log_note 34 = .ok (.goto 9, 3) := by decide +kernel
theorem d_Log_note_37 : decode jc_Log_note 37 = .ok (.aload_n 0, 1) := by decide +kernel
theorem d_Log_note_38 : decode jc_Log_note 38 = .ok (.getfield 20, 3) := by decide +kernel
theorem d_Log_note_41 : decode jc_Log_note 41 = .ok (.iconst 1, 1) := by decide +kernel
theorem d_Log_note_42 : decode jc_Log_note 42 = .ok (.iadd, 1) := by decide +kernel
theorem d_Log_note_43 : decode jc_Log_note 43 = .ok (.putfield 20, 3) := by decide +kernel
theorem d_Log_note_46 : decode jc_Log_note 46 = .ok (.aload_n 0, 1) := by decide +kernel
theorem d_Log_note_47 : decode jc_Log_note 47 = .ok (.aload_n 0, 1) := by decide +kernel
theorem d_Log_note_48 : decode jc_Log_note 48 = .ok (.getfield 28, 3) := by decide +kernel
theorem d_Log_note_51 : decode jc_Log_note 51 = .ok (.iconst 1, 1) := by decide +kernel
theorem d_Log_note_52 : decode jc_Log_note 52 = .ok (.iadd, 1) := by decide +kernel
theorem d_Log_note_53 : decode jc_Log_note 53 = .ok (.bipush 20, 2) := by decide +kernel
theorem d_Log_note_55 : decode jc_Log_note 55 = .ok (.invokestatic 31, 3) := by decide +kernel
theorem d_Log_note_58 : decode jc_Log_note 58 = .ok (.putfield 28, 3) := by decide +kernel
theorem d_Log_note_61 : decode jc_Log_note 61 = .ok (.return_, 1) := by decide +kernel
theorem d_Log_latestSlot_0 : decode jc_Log_latestSlot 0 = .ok (.aload_n 0, 1) := by decide +kernel
theorem d_Log_latestSlot_1 : decode jc_Log_latestSlot 1 = .ok (.getfield 9, 3) := by decide +kernel
theorem d_Log_latestSlot_4 : decode jc_Log_latestSlot 4 = .ok (.aload_n 0, 1) := by decide +kernel
theorem d_Log_latestSlot_5 : decode jc_Log_latestSlot 5 = .ok (.invokevirtual 37, 3) := by decide +kernel
theorem d_Log_latestSlot_8 : decode jc_Log_latestSlot 8 = .ok (.iaload, 1) := by decide +kernel
theorem d_Log_latestSlot_9 : decode jc_Log_latestSlot 9 = .ok (.ireturn, 1) := by decide +kernel
theorem d_Log_latestTable_0 : decode jc_Log_latestTable 0 = .ok (.aload_n 0, 1) := by decide +kernel
theorem d_Log_latestTable_1 : decode jc_Log_latestTable 1 = .ok (.getfield 15, 3) := by decide +kernel
theorem d_Log_latestTable_4 : decode jc_Log_latestTable 4 = .ok (.aload_n 0, 1) := by decide +kernel
theorem d_Log_latestTable_5 : decode jc_Log_latestTable 5 = .ok (.invokevirtual 37, 3) := by decide +kernel
theorem d_Log_latestTable_8 : decode jc_Log_latestTable 8 = .ok (.aaload, 1) := by decide +kernel
theorem d_Log_latestTable_9 : decode jc_Log_latestTable 9 = .ok (.areturn, 1) := by decide +kernel
theorem d_Log_dropLatest_0 : decode jc_Log_dropLatest 0 = .ok (.aload_n 0, 1) := by decide +kernel
theorem d_Log_dropLatest_1 : decode jc_Log_dropLatest 1 = .ok (.getfield 28, 3) := by decide +kernel
theorem d_Log_dropLatest_4 : decode jc_Log_dropLatest 4 = .ok (.ifCond .le 21, 3) := by decide +kernel
theorem d_Log_dropLatest_7 : decode jc_Log_dropLatest 7 = .ok (.aload_n 0, 1) := by decide +kernel
theorem d_Log_dropLatest_8 : decode jc_Log_dropLatest 8 = .ok (.aload_n 0, 1) := by decide +kernel
theorem d_Log_dropLatest_9 : decode jc_Log_dropLatest 9 = .ok (.invokevirtual 37, 3) := by decide +kernel
theorem d_Log_dropLatest_12 : decode jc_Log_dropLatest 12 = .ok (.putfield 20, 3) := by decide +kernel
theorem d_Log_dropLatest_15 : decode jc_Log_dropLatest 15 = .ok (.aload_n 0, 1) := by decide +kernel
theorem d_Log_dropLatest_16 : decode jc_Log_dropLatest 16 = .ok (.dup, 1) := by decide +kernel
theorem d_Log_dropLatest_17 : decode jc_Log_dropLatest 17 = .ok (.getfield 28, 3) := by decide +kernel
theorem d_Log_dropLatest_20 : decode jc_Log_dropLatest 20 = .ok (.iconst 1, 1) := by decide +kernel
theorem d_Log_dropLatest_21 : decode jc_Log_dropLatest 21 = .ok (.isub, 1) := by decide +kernel
theorem d_Log_dropLatest_22 : decode jc_Log_dropLatest 22 = .ok (.putfield 28, 3) := by decide +kernel
theorem d_Log_dropLatest_25 : decode jc_Log_dropLatest 25 = .ok (.return_, 1) := by decide +kernel
theorem d_Log_latest_0 : decode jc_Log_latest 0 = .ok (.aload_n 0, 1) := by decide +kernel
theorem d_Log_latest_1 : decode jc_Log_latest 1 = .ok (.getfield 20, 3) := by decide +kernel
theorem d_Log_latest_4 : decode jc_Log_latest 4 = .ok (.ifCond .ne 8, 3) := by decide +kernel
theorem d_Log_latest_7 : decode jc_Log_latest 7 = .ok (.bipush 19, 2) := by decide +kernel
theorem d_Log_latest_9 : decode jc_Log_latest 9 = .ok (.goto 9, 3) := by decide +kernel
theorem d_Log_latest_12 : decode jc_Log_latest 12 = .ok (.aload_n 0, 1) := by decide +kernel
theorem d_Log_latest_13 : decode jc_Log_latest 13 = .ok (.getfield 20, 3) := by decide +kernel
theorem d_Log_latest_16 : decode jc_Log_latest 16 = .ok (.iconst 1, 1) := by decide +kernel
theorem d_Log_latest_17 : decode jc_Log_latest 17 = .ok (.isub, 1) := by decide +kernel
theorem d_Log_latest_18 : decode jc_Log_latest 18 = .ok (.ireturn, 1) := by decide +kernel
theorem d_Powers_raise_0 : decode jc_Powers_raise 0 = .ok (.aload_n 3, 1) := by decide +kernel
theorem d_Powers_raise_1 : decode jc_Powers_raise 1 = .ok (.aload_n 1, 1) := by decide +kernel
theorem d_Powers_raise_2 : decode jc_Powers_raise 2 = .ok (.getfield 19, 3) := by decide +kernel
theorem d_Powers_raise_5 : decode jc_Powers_raise 5 = .ok (.iconst 2, 1) := by decide +kernel
theorem d_Powers_raise_6 : decode jc_Powers_raise 6 = .ok (.invokevirtual 23, 3) := by decide +kernel
theorem d_Powers_raise_9 : decode jc_Powers_raise 9 = .ok (.aload_n 0, 1) := by decide +kernel
theorem d_Powers_raise_10 : decode jc_Powers_raise 10 = .ok (.getfield 10, 3) := by decide +kernel
theorem d_Powers_raise_13 : decode jc_Powers_raise 13 = .ok (.aload_n 1, 1) := by decide +kernel
theorem d_Powers_raise_14 : decode jc_Powers_raise 14 = .ok (.invokevirtual 27, 3) := by decide +kernel
theorem d_Powers_raise_17 : decode jc_Powers_raise 17 = .ok (.iconst 0, 1) := by decide +kernel
theorem d_Powers_raise_18 : decode jc_Powers_raise 18 = .ok (.istore 4, 2) := by decide +kernel
theorem d_Powers_raise_20 : decode jc_Powers_raise 20 = .ok (.iload 4, 2) := by decide +kernel
theorem d_Powers_raise_22 : decode jc_Powers_raise 22 = .ok (.bipush 20, 2) := by decide +kernel
theorem d_Powers_raise_24 : decode jc_Powers_raise 24 = .ok (.if_icmp .ge 49, 3) := by decide +kernel
theorem d_Powers_raise_27 : decode jc_Powers_raise 27 = .ok (.iload_n 2, 1) := by decide +kernel
theorem d_Powers_raise_28 : decode jc_Powers_raise 28 = .ok (.iload 4, 2) := by decide +kernel
theorem d_Powers_raise_30 : decode jc_Powers_raise 30 = .ok (.ishr, 1) := by decide +kernel
theorem d_Powers_raise_31 : decode jc_Powers_raise 31 = .ok (.iconst 1, 1) := by decide +kernel
theorem d_Powers_raise_32 : decode jc_Powers_raise 32 = .ok (.iand, 1) := by decide +kernel
theorem d_Powers_raise_33 : decode jc_Powers_raise 33 = .ok (.iconst 1, 1) := by decide +kernel
theorem d_Powers_raise_34 : decode jc_Powers_raise 34 = .ok (.if_icmp .ne 11, 3) := by decide +kernel
theorem d_Powers_raise_37 : decode jc_Powers_raise 37 = .ok (.aload_n 3, 1) := by decide +kernel
theorem d_Powers_raise_38 : decode jc_Powers_raise 38 = .ok (.aload_n 0, 1) := by decide +kernel
theorem d_Powers_raise_39 : decode jc_Powers_raise 39 = .ok (.getfield 10, 3) := by decide +kernel
theorem d_Powers_raise_42 : decode jc_Powers_raise 42 = .ok (.invokevirtual 31, 3) := by decide +kernel
theorem d_Powers_raise_45 : decode jc_Powers_raise 45 = .ok (.aload_n 0, 1) := by decide +kernel
theorem d_Powers_raise_46 : decode jc_Powers_raise 46 = .ok (.getfield 16, 3) := by decide +kernel
theorem d_Powers_raise_49 : decode jc_Powers_raise 49 = .ok (.aload_n 0, 1) := by decide +kernel
theorem d_Powers_raise_50 : decode jc_Powers_raise 50 = .ok (.getfield 10, 3) := by decide +kernel
theorem d_Powers_raise_53 : decode jc_Powers_raise 53 = .ok (.invokevirtual 27, 3) := by decide +kernel
theorem d_Powers_raise_56 : decode jc_Powers_raise 56 = .ok (.aload_n 0, 1) := by decide +kernel
theorem d_Powers_raise_57 : decode jc_Powers_raise 57 = .ok (.getfield 10, 3) := by decide +kernel
theorem d_Powers_raise_60 : decode jc_Powers_raise 60 = .ok (.aload_n 0, 1) := by decide +kernel
theorem d_Powers_raise_61 : decode jc_Powers_raise 61 = .ok (.getfield 16, 3) := by decide +kernel
theorem d_Powers_raise_64 : decode jc_Powers_raise 64 = .ok (.invokevirtual 31, 3) := by decide +kernel
theorem d_Powers_raise_67 : decode jc_Powers_raise 67 = .ok (.iinc 4 1, 3) := by decide +kernel
theorem d_Powers_raise_70 : decode jc_Powers_raise 70 = .ok (.goto (-50), 3) := by decide +kernel
theorem d_Powers_raise_73 : decode jc_Powers_raise 73 = .ok (.return_, 1) := by decide +kernel
theorem d_Powers_findCycle_0 : decode jc_Powers_findCycle 0 = .ok (.aload_n 0, 1) := by decide +kernel
theorem d_Powers_findCycle_1 : decode jc_Powers_findCycle 1 = .ok (.aload_n 1, 1) := by decide +kernel
theorem d_Powers_findCycle_2 : decode jc_Powers_findCycle 2 = .ok (.invokevirtual 34, 3) := by decide +kernel
theorem d_Powers_findCycle_5 : decode jc_Powers_findCycle 5 = .ok (.aload_n 0, 1) := by decide +kernel
theorem d_Powers_findCycle_6 : decode jc_Powers_findCycle 6 = .ok (.aload_n 1, 1) := by decide +kernel
theorem d_Powers_findCycle_7 : decode jc_Powers_findCycle 7 = .ok (.invokevirtual 37, 3) := by decide +kernel
theorem d_Powers_findCycle_10 : decode jc_Powers_findCycle 10 = .ok (.return_, 1) := by decide +kernel
theorem d_Powers_findPeriod_0 : decode jc_Powers_findPeriod 0 = .ok (.aload_n 0, 1) := by decide +kernel
theorem d_Powers_findPeriod_1 : decode jc_Powers_findPeriod 1 = .ok (.iconst 1, 1) := by decide +kernel
theorem d_Powers_findPeriod_2 : decode jc_Powers_findPeriod 2 = .ok (.putfield 40, 3) := by decide +kernel
theorem d_Powers_findPeriod_5 : decode jc_Powers_findPeriod 5 = .ok (.aload_n 0, 1) := by decide +kernel
theorem d_Powers_findPeriod_6 : decode jc_Powers_findPeriod 6 = .ok (.getfield 10, 3) := by decide +kernel
theorem d_Powers_findPeriod_9 : decode jc_Powers_findPeriod 9 = .ok (.aload_n 1, 1) := by decide +kernel
theorem d_Powers_findPeriod_10 : decode jc_Powers_findPeriod 10 = .ok (.invokevirtual 27, 3) := by decide +kernel
theorem d_Powers_findPeriod_13 : decode jc_Powers_findPeriod 13 = .ok (.aload_n 0, 1) := by decide +kernel
theorem d_Powers_findPeriod_14 : decode jc_Powers_findPeriod 14 = .ok (.getfield 16, 3) := by decide +kernel
theorem d_Powers_findPeriod_17 : decode jc_Powers_findPeriod 17 = .ok (.aload_n 1, 1) := by decide +kernel
theorem d_Powers_findPeriod_18 : decode jc_Powers_findPeriod 18 = .ok (.invokevirtual 27, 3) := by decide +kernel
theorem d_Powers_findPeriod_21 : decode jc_Powers_findPeriod 21 = .ok (.iconst 1, 1) := by decide +kernel
theorem d_Powers_findPeriod_22 : decode jc_Powers_findPeriod 22 = .ok (.istore_n 2, 1) := by decide +kernel
theorem d_Powers_findPeriod_23 : decode jc_Powers_findPeriod 23 = .ok (.iconst 2, 1) := by decide +kernel
theorem d_Powers_findPeriod_24 : decode jc_Powers_findPeriod 24 = .ok (.istore_n 3, 1) := by decide +kernel
theorem d_Powers_findPeriod_25 : decode jc_Powers_findPeriod 25 = .ok (.iload_n 3, 1) := by decide +kernel
theorem d_Powers_findPeriod_26 : decode jc_Powers_findPeriod 26 = .ok (.sipush 1000, 3) := by decide +kernel
theorem d_Powers_findPeriod_29 : decode jc_Powers_findPeriod 29 = .ok (.if_icmp .ge 59, 3) := by decide +kernel
theorem d_Powers_findPeriod_32 : decode jc_Powers_findPeriod 32 = .ok (.aload_n 0, 1) := by decide +kernel
theorem d_Powers_findPeriod_33 : decode jc_Powers_findPeriod 33 = .ok (.getfield 10, 3) := by decide +kernel
theorem d_Powers_findPeriod_36 : decode jc_Powers_findPeriod 36 = .ok (.aload_n 1, 1) := by decide +kernel
theorem d_Powers_findPeriod_37 : decode jc_Powers_findPeriod 37 = .ok (.invokevirtual 31, 3) := by decide +kernel
theorem d_Powers_findPeriod_40 : decode jc_Powers_findPeriod 40 = .ok (.aload_n 0, 1) := by decide +kernel
theorem d_Powers_findPeriod_41 : decode jc_Powers_findPeriod 41 = .ok (.getfield 10, 3) := by decide +kernel
theorem d_Powers_findPeriod_44 : decode jc_Powers_findPeriod 44 = .ok (.aload_n 0, 1) := by decide +kernel
theorem d_Powers_findPeriod_45 : decode jc_Powers_findPeriod 45 = .ok (.getfield 16, 3) := by decide +kernel
theorem d_Powers_findPeriod_48 : decode jc_Powers_findPeriod 48 = .ok (.invokevirtual 43, 3) := by decide +kernel
theorem d_Powers_findPeriod_51 : decode jc_Powers_findPeriod 51 = .ok (.ifCond .eq 11, 3) := by decide +kernel
theorem d_Powers_findPeriod_54 : decode jc_Powers_findPeriod 54 = .ok (.aload_n 0, 1) := by decide +kernel
theorem d_Powers_findPeriod_55 : decode jc_Powers_findPeriod 55 = .ok (.iload_n 3, 1) := by decide +kernel
theorem d_Powers_findPeriod_56 : decode jc_Powers_findPeriod 56 = .ok (.iload_n 2, 1) := by decide +kernel
theorem d_Powers_findPeriod_57 : decode jc_Powers_findPeriod 57 = .ok (.isub, 1) := by decide +kernel
theorem d_Powers_findPeriod_58 : decode jc_Powers_findPeriod 58 = .ok (.putfield 40, 3) := by decide +kernel
theorem d_Powers_findPeriod_61 : decode jc_Powers_findPeriod 61 = .ok (.return_, 1) := by decide +kernel
theorem d_Powers_findPeriod_62 : decode jc_Powers_findPeriod 62 = .ok (.iload_n 3, 1) := by decide +kernel
theorem d_Powers_findPeriod_63 : decode jc_Powers_findPeriod 63 = .ok (.iconst 2, 1) := by decide +kernel
theorem d_Powers_findPeriod_64 : decode jc_Powers_findPeriod 64 = .ok (.iload_n 2, 1) := by decide +kernel
theorem d_Powers_findPeriod_65 : decode jc_Powers_findPeriod 65 = .ok (.imul, 1) := by decide +kernel
theorem d_Powers_findPeriod_66 : decode jc_Powers_findPeriod 66 = .ok (.if_icmp .ne 16, 3) := by decide +kernel
theorem d_Powers_findPeriod_69 : decode jc_Powers_findPeriod 69 = .ok (.aload_n 0, 1) := by decide +kernel
theorem d_Powers_findPeriod_70 : decode jc_Powers_findPeriod 70 = .ok (.getfield 16, 3) := by decide +kernel
theorem d_Powers_findPeriod_73 : decode jc_Powers_findPeriod 73 = .ok (.aload_n 0, 1) := by decide +kernel
theorem d_Powers_findPeriod_74 : decode jc_Powers_findPeriod 74 = .ok (.getfield 10, 3) := by decide +kernel
theorem d_Powers_findPeriod_77 : decode jc_Powers_findPeriod 77 = .ok (.invokevirtual 27, 3) := by decide +kernel
theorem d_Powers_findPeriod_80 : decode jc_Powers_findPeriod 80 = .ok (.iload_n 3, 1) := by decide +kernel
theorem d_Powers_findPeriod_81 : decode jc_Powers_findPeriod 81 = .ok (.istore_n 2, 1) := by decide +kernel
theorem d_Powers_findPeriod_82 : decode jc_Powers_findPeriod 82 = .ok (.iinc 3 1, 3) := by decide +kernel
theorem d_Powers_findPeriod_85 : decode jc_Powers_findPeriod 85 = .ok (.goto (-60), 3) := by decide +kernel
theorem d_Powers_findPeriod_88 : decode jc_Powers_findPeriod 88 = .ok (.return_, 1) := by decide +kernel
theorem d_Powers_findIndex_0 : decode jc_Powers_findIndex 0 = .ok (.aload_n 0, 1) := by decide +kernel
theorem d_Powers_findIndex_1 : decode jc_Powers_findIndex 1 = .ok (.iconst 1, 1) := by decide +kernel
theorem d_Powers_findIndex_2 : decode jc_Powers_findIndex 2 = .ok (.putfield 47, 3) := by decide +kernel
theorem d_Powers_findIndex_5 : decode jc_Powers_findIndex 5 = .ok (.aload_n 0, 1) := by decide +kernel
theorem d_Powers_findIndex_6 : decode jc_Powers_findIndex 6 = .ok (.getfield 10, 3) := by decide +kernel
theorem d_Powers_findIndex_9 : decode jc_Powers_findIndex 9 = .ok (.aload_n 1, 1) := by decide +kernel
theorem d_Powers_findIndex_10 : decode jc_Powers_findIndex 10 = .ok (.invokevirtual 27, 3) := by decide +kernel
theorem d_Powers_findIndex_13 : decode jc_Powers_findIndex 13 = .ok (.aload_n 0, 1) := by decide +kernel
theorem d_Powers_findIndex_14 : decode jc_Powers_findIndex 14 = .ok (.getfield 16, 3) := by decide +kernel
theorem d_Powers_findIndex_17 : decode jc_Powers_findIndex 17 = .ok (.aload_n 1, 1) := by decide +kernel
theorem d_Powers_findIndex_18 : decode jc_Powers_findIndex 18 = .ok (.invokevirtual 27, 3) := by decide +kernel
theorem d_Powers_findIndex_21 : decode jc_Powers_findIndex 21 = .ok (.iconst 0, 1) := by decide +kernel
theorem d_Powers_findIndex_22 : decode jc_Powers_findIndex 22 = .ok (.istore_n 2, 1) := by decide +kernel
theorem d_Powers_findIndex_23 : decode jc_Powers_findIndex 23 = .ok (.iload_n 2, 1) := by decide +kernel
theorem d_Powers_findIndex_24 : decode jc_Powers_findIndex 24 = .ok (.aload_n 0, 1) := by decide +kernel
theorem d_Powers_findIndex_25 : decode jc_Powers_findIndex 25 = .ok (.getfield 40, 3) := by decide +kernel
theorem d_Powers_findIndex_28 : decode jc_Powers_findIndex 28 = .ok (.if_icmp .ge 17, 3) := by decide +kernel
theorem d_Powers_findIndex_31 : decode jc_Powers_findIndex 31 = .ok (.aload_n 0, 1) := by decide +kernel
theorem d_Powers_findIndex_32 : decode jc_Powers_findIndex 32 = .ok (.getfield 10, 3) := by decide +kernel
theorem d_Powers_findIndex_35 : decode jc_Powers_findIndex 35 = .ok (.aload_n 1, 1) := by decide +kernel
theorem d_Powers_findIndex_36 : decode jc_Powers_findIndex 36 = .ok (.invokevirtual 31, 3) := by decide +kernel
theorem d_Powers_findIndex_39 : decode jc_Powers_findIndex 39 = .ok (.iinc 2 1, 3) := by decide +kernel
theorem d_Powers_findIndex_42 : decode jc_Powers_findIndex 42 = .ok (.goto (-19), 3) := by decide +kernel
theorem d_Powers_findIndex_45 : decode jc_Powers_findIndex 45 = .ok (.iconst 1, 1) := by decide +kernel
theorem d_Powers_findIndex_46 : decode jc_Powers_findIndex 46 = .ok (.istore_n 2, 1) := by decide +kernel
theorem d_Powers_findIndex_47 : decode jc_Powers_findIndex 47 = .ok (.iload_n 2, 1) := by decide +kernel
theorem d_Powers_findIndex_48 : decode jc_Powers_findIndex 48 = .ok (.sipush 1000, 3) := by decide +kernel
theorem d_Powers_findIndex_51 : decode jc_Powers_findIndex 51 = .ok (.if_icmp .ge 45, 3) := by decide +kernel
theorem d_Powers_findIndex_54 : decode jc_Powers_findIndex 54 = .ok (.aload_n 0, 1) := by decide +kernel
theorem d_Powers_findIndex_55 : decode jc_Powers_findIndex 55 = .ok (.getfield 10, 3) := by decide +kernel
theorem d_Powers_findIndex_58 : decode jc_Powers_findIndex 58 = .ok (.aload_n 0, 1) := by decide +kernel
theorem d_Powers_findIndex_59 : decode jc_Powers_findIndex 59 = .ok (.getfield 16, 3) := by decide +kernel
theorem d_Powers_findIndex_62 : decode jc_Powers_findIndex 62 = .ok (.invokevirtual 43, 3) := by decide +kernel
theorem d_Powers_findIndex_65 : decode jc_Powers_findIndex 65 = .ok (.ifCond .eq 9, 3) := by decide +kernel
theorem d_Powers_findIndex_68 : decode jc_Powers_findIndex 68 = .ok (.aload_n 0, 1) := by decide +kernel
theorem d_Powers_findIndex_69 : decode jc_Powers_findIndex 69 = .ok (.iload_n 2, 1) := by decide +kernel
theorem d_Powers_findIndex_70 : decode jc_Powers_findIndex 70 = .ok (.putfield 47, 3) := by decide +kernel
theorem d_Powers_findIndex_73 : decode jc_Powers_findIndex 73 = .ok (.return_, 1) := by decide +kernel
theorem d_Powers_findIndex_74 : decode jc_Powers_findIndex 74 = .ok (.aload_n 0, 1) := by decide +kernel
theorem d_Powers_findIndex_75 : decode jc_Powers_findIndex 75 = .ok (.getfield 10, 3) := by decide +kernel
theorem d_Powers_findIndex_78 : decode jc_Powers_findIndex 78 = .ok (.aload_n 1, 1) := by decide +kernel
theorem d_Powers_findIndex_79 : decode jc_Powers_findIndex 79 = .ok (.invokevirtual 31, 3) := by decide +kernel
theorem d_Powers_findIndex_82 : decode jc_Powers_findIndex 82 = .ok (.aload_n 0, 1) := by decide +kernel
theorem d_Powers_findIndex_83 : decode jc_Powers_findIndex 83 = .ok (.getfield 16, 3) := by decide +kernel
theorem d_Powers_findIndex_86 : decode jc_Powers_findIndex 86 = .ok (.aload_n 1, 1) := by decide +kernel
theorem d_Powers_findIndex_87 : decode jc_Powers_findIndex 87 = .ok (.invokevirtual 31, 3) := by decide +kernel
theorem d_Powers_findIndex_90 : decode jc_Powers_findIndex 90 = .ok (.iinc 2 1, 3) := by decide +kernel
theorem d_Powers_findIndex_93 : decode jc_Powers_findIndex 93 = .ok (.goto (-46), 3) := by decide +kernel
theorem d_Powers_findIndex_96 : decode jc_Powers_findIndex 96 = .ok (.return_, 1) := by decide +kernel
theorem d_Powers_idempotent_0 : decode jc_Powers_idempotent 0 = .ok (.aload_n 0, 1) := by decide +kernel
theorem d_Powers_idempotent_1 : decode jc_Powers_idempotent 1 = .ok (.getfield 40, 3) := by decide +kernel
theorem d_Powers_idempotent_4 : decode jc_Powers_idempotent 4 = .ok (.istore_n 1, 1) := by decide +kernel
theorem d_Powers_idempotent_5 : decode jc_Powers_idempotent 5 = .ok (.iconst 0, 1) := by decide +kernel
theorem d_Powers_idempotent_6 : decode jc_Powers_idempotent 6 = .ok (.istore_n 2, 1) := by decide +kernel
theorem d_Powers_idempotent_7 : decode jc_Powers_idempotent 7 = .ok (.iload_n 2, 1) := by decide +kernel
theorem d_Powers_idempotent_8 : decode jc_Powers_idempotent 8 = .ok (.sipush 1000, 3) := by decide +kernel
theorem d_Powers_idempotent_11 : decode jc_Powers_idempotent 11 = .ok (.if_icmp .ge 24, 3) := by decide +kernel
theorem d_Powers_idempotent_14 : decode jc_Powers_idempotent 14 = .ok (.iload_n 1, 1) := by decide +kernel
theorem d_Powers_idempotent_15 : decode jc_Powers_idempotent 15 = .ok (.aload_n 0, 1) := by decide +kernel
theorem d_Powers_idempotent_16 : decode jc_Powers_idempotent 16 = .ok (.getfield 47, 3) := by decide +kernel
theorem d_Powers_idempotent_19 : decode jc_Powers_idempotent 19 = .ok (.if_icmp .ge 16, 3) := by decide +kernel
theorem d_Powers_idempotent_22 : decode jc_Powers_idempotent 22 = .ok (.iload_n 1, 1) := by decide +kernel
theorem d_Powers_idempotent_23 : decode jc_Powers_idempotent 23 = .ok (.aload_n 0, 1) := by decide +kernel
theorem d_Powers_idempotent_24 : decode jc_Powers_idempotent 24 = .ok (.getfield 40, 3) := by decide +kernel
theorem d_Powers_idempotent_27 : decode jc_Powers_idempotent 27 = .ok (.iadd, 1) := by decide +kernel
theorem d_Powers_idempotent_28 : decode jc_Powers_idempotent 28 = .ok (.istore_n 1, 1) := by decide +kernel
theorem d_Powers_idempotent_29 : decode jc_Powers_idempotent 29 = .ok (.iinc 2 1, 3) := by decide +kernel
theorem d_Powers_idempotent_32 : decode jc_Powers_idempotent 32 = .ok (.goto (-25), 3) := by decide +kernel
theorem d_Powers_idempotent_35 : decode jc_Powers_idempotent 35 = .ok (.iload_n 1, 1) := by decide +kernel
theorem d_Powers_idempotent_36 : decode jc_Powers_idempotent 36 = .ok (.ireturn, 1) := by decide +kernel
theorem d_Powers_exponent_0 : decode jc_Powers_exponent 0 = .ok (.aload_n 0, 1) := by decide +kernel
theorem d_Powers_exponent_1 : decode jc_Powers_exponent 1 = .ok (.getfield 10, 3) := by decide +kernel
theorem d_Powers_exponent_4 : decode jc_Powers_exponent 4 = .ok (.aload_n 1, 1) := by decide +kernel
theorem d_Powers_exponent_5 : decode jc_Powers_exponent 5 = .ok (.invokevirtual 27, 3) := by decide +kernel
theorem d_Powers_exponent_8 : decode jc_Powers_exponent 8 = .ok (.aload_n 1, 1) := by decide +kernel
theorem d_Powers_exponent_9 : decode jc_Powers_exponent 9 = .ok (.getfield 19, 3) := by decide +kernel
theorem d_Powers_exponent_12 : decode jc_Powers_exponent 12 = .ok (.iconst 1, 1) := by decide +kernel
theorem d_Powers_exponent_13 : decode jc_Powers_exponent 13 = .ok (.isub, 1) := by decide +kernel
theorem d_Powers_exponent_14 : decode jc_Powers_exponent 14 = .ok (.aload_n 1, 1) := by decide +kernel
theorem d_Powers_exponent_15 : decode jc_Powers_exponent 15 = .ok (.getfield 19, 3) := by decide +kernel
theorem d_Powers_exponent_18 : decode jc_Powers_exponent 18 = .ok (.iconst 1, 1) := by decide +kernel
theorem d_Powers_exponent_19 : decode jc_Powers_exponent 19 = .ok (.isub, 1) := by decide +kernel
theorem d_Powers_exponent_20 : decode jc_Powers_exponent 20 = .ok (.imul, 1) := by decide +kernel
theorem d_Powers_exponent_21 : decode jc_Powers_exponent 21 = .ok (.iconst 1, 1) := by decide +kernel
theorem d_Powers_exponent_22 : decode jc_Powers_exponent 22 = .ok (.iadd, 1) := by decide +kernel
theorem d_Powers_exponent_23 : decode jc_Powers_exponent 23 = .ok (.istore_n 2, 1) := by decide +kernel
theorem d_Powers_exponent_24 : decode jc_Powers_exponent 24 = .ok (.iconst 1, 1) := by decide +kernel
theorem d_Powers_exponent_25 : decode jc_Powers_exponent 25 = .ok (.istore_n 3, 1) := by decide +kernel
theorem d_Powers_exponent_26 : decode jc_Powers_exponent 26 = .ok (.iload_n 3, 1) := by decide +kernel
theorem d_Powers_exponent_27 : decode jc_Powers_exponent 27 = .ok (.iload_n 2, 1) := by decide +kernel
theorem d_Powers_exponent_28 : decode jc_Powers_exponent 28 = .ok (.if_icmp .gt 29, 3) := by decide +kernel
theorem d_Powers_exponent_31 : decode jc_Powers_exponent 31 = .ok (.aload_n 0, 1) := by decide +kernel
theorem d_Powers_exponent_32 : decode jc_Powers_exponent 32 = .ok (.getfield 10, 3) := by decide +kernel
theorem d_Powers_exponent_35 : decode jc_Powers_exponent 35 = .ok (.invokevirtual 50, 3) := by decide +kernel
theorem d_Powers_exponent_38 : decode jc_Powers_exponent 38 = .ok (.ifCond .eq 5, 3) := by decide +kernel
theorem d_Powers_exponent_41 : decode jc_Powers_exponent 41 = .ok (.iload_n 3, 1) := by decide +kernel
theorem d_Powers_exponent_42 : decode jc_Powers_exponent 42 = .ok (.ireturn, 1) := by decide +kernel
theorem d_Powers_exponent_43 : decode jc_Powers_exponent 43 = .ok (.aload_n 0, 1) := by decide +kernel
theorem d_Powers_exponent_44 : decode jc_Powers_exponent 44 = .ok (.getfield 10, 3) := by decide +kernel
theorem d_Powers_exponent_47 : decode jc_Powers_exponent 47 = .ok (.aload_n 1, 1) := by decide +kernel
theorem d_Powers_exponent_48 : decode jc_Powers_exponent 48 = .ok (.invokevirtual 31, 3) := by decide +kernel
theorem d_Powers_exponent_51 : decode jc_Powers_exponent 51 = .ok (.iinc 3 1, 3) := by decide +kernel
theorem d_Powers_exponent_54 : decode jc_Powers_exponent 54 = .ok (.goto (-28), 3) := by decide +kernel
theorem d_Powers_exponent_57 : decode jc_Powers_exponent 57 = .ok (.iconst 0, 1) := by decide +kernel
theorem d_Powers_exponent_58 : decode jc_Powers_exponent 58 = .ok (.ireturn, 1) := by decide +kernel
theorem d_Powers_firstLike_0 : decode jc_Powers_firstLike 0 = .ok (.aload_n 0, 1) := by decide +kernel
theorem d_Powers_firstLike_1 : decode jc_Powers_firstLike 1 = .ok (.getfield 10, 3) := by decide +kernel
theorem d_Powers_firstLike_4 : decode jc_Powers_firstLike 4 = .ok (.aload_n 1, 1) := by decide +kernel
theorem d_Powers_firstLike_5 : decode jc_Powers_firstLike 5 = .ok (.invokevirtual 27, 3) := by decide +kernel
theorem d_Powers_firstLike_8 : decode jc_Powers_firstLike 8 = .ok (.aload_n 0, 1) := by decide +kernel
theorem d_Powers_firstLike_9 : decode jc_Powers_firstLike 9 = .ok (.getfield 16, 3) := by decide +kernel
theorem d_Powers_firstLike_12 : decode jc_Powers_firstLike 12 = .ok (.aload_n 1, 1) := by decide +kernel
theorem d_Powers_firstLike_13 : decode jc_Powers_firstLike 13 = .ok (.invokevirtual 27, 3) := by decide +kernel
theorem d_Powers_firstLike_16 : decode jc_Powers_firstLike 16 = .ok (.iconst 1, 1) := by decide +kernel
theorem d_Powers_firstLike_17 : decode jc_Powers_firstLike 17 = .ok (.istore 4, 2) := by decide +kernel
theorem d_Powers_firstLike_19 : decode jc_Powers_firstLike 19 = .ok (.iconst 1, 1) := by decide +kernel
theorem d_Powers_firstLike_20 : decode jc_Powers_firstLike 20 = .ok (.istore 5, 2) := by decide +kernel
theorem d_Powers_firstLike_22 : decode jc_Powers_firstLike 22 = .ok (.iload 5, 2) := by decide +kernel
theorem d_Powers_firstLike_24 : decode jc_Powers_firstLike 24 = .ok (.iload_n 3, 1) := by decide +kernel
theorem d_Powers_firstLike_25 : decode jc_Powers_firstLike 25 = .ok (.if_icmp .gt 78, 3) := by decide +kernel
theorem d_Powers_firstLike_28 : decode jc_Powers_firstLike 28 = .ok (.aload_n 0, 1) := by decide +kernel
theorem d_Powers_firstLike_29 : decode jc_Powers_firstLike 29 = .ok (.getfield 10, 3) := by decide +kernel
theorem d_Powers_firstLike_32 : decode jc_Powers_firstLike 32 = .ok (.aload_n 2, 1) := by decide +kernel
theorem d_Powers_firstLike_33 : decode jc_Powers_firstLike 33 = .ok (.invokevirtual 43, 3) := by decide +kernel
theorem d_Powers_firstLike_36 : decode jc_Powers_firstLike 36 = .ok (.ifCond .eq 6, 3) := by decide +kernel
theorem d_Powers_firstLike_39 : decode jc_Powers_firstLike 39 = .ok (.iload 5, 2) := by decide +kernel
theorem d_Powers_firstLike_41 : decode jc_Powers_firstLike 41 = .ok (.ireturn, 1) := by decide +kernel
theorem d_Powers_firstLike_42 : decode jc_Powers_firstLike 42 = .ok (.iload 5, 2) := by decide +kernel
theorem d_Powers_firstLike_44 : decode jc_Powers_firstLike 44 = .ok (.iload 4, 2) := by decide +kernel
theorem d_Powers_firstLike_46 : decode jc_Powers_firstLike 46 = .ok (.if_icmp .le 19, 3) := by decide +kernel
theorem d_Powers_firstLike_49 : decode jc_Powers_firstLike 49 = .ok (.aload_n 0, 1) := by decide +kernel
theorem d_Powers_firstLike_50 : decode jc_Powers_firstLike 50 = .ok (.getfield 10, 3) := by decide +kernel
theorem d_Powers_firstLike_53 : decode jc_Powers_firstLike 53 = .ok (.aload_n 0, 1) := by decide +kernel
theorem d_Powers_firstLike_54 : decode jc_Powers_firstLike 54 = .ok (.getfield 16, 3) := by decide +kernel
theorem d_Powers_firstLike_57 : decode jc_Powers_firstLike 57 = .ok (.invokevirtual 43, 3) := by decide +kernel
theorem d_Powers_firstLike_60 : decode jc_Powers_firstLike 60 = .ok (.ifCond .eq 5, 3) := by decide +kernel
theorem d_Powers_firstLike_63 : decode jc_Powers_firstLike 63 = .ok (.iconst 0, 1) := by decide +kernel
theorem d_Powers_firstLike_64 : decode jc_Powers_firstLike 64 = .ok (.ireturn, 1) := by decide +kernel
theorem d_Powers_firstLike_65 : decode jc_Powers_firstLike 65 = .ok (.iload 5, 2) := by decide +kernel
theorem d_Powers_firstLike_67 : decode jc_Powers_firstLike 67 = .ok (.iconst 2, 1) := by decide +kernel
theorem d_Powers_firstLike_68 : decode jc_Powers_firstLike 68 = .ok (.iload 4, 2) := by decide +kernel
theorem d_Powers_firstLike_70 : decode jc_Powers_firstLike 70 = .ok (.imul, 1) := by decide +kernel
theorem d_Powers_firstLike_71 : decode jc_Powers_firstLike 71 = .ok (.if_icmp .ne 18, 3) := by decide +kernel
theorem d_Powers_firstLike_74 : decode jc_Powers_firstLike 74 = .ok (.aload_n 0, 1) := by decide +kernel
theorem d_Powers_firstLike_75 : decode jc_Powers_firstLike 75 = .ok (.getfield 16, 3) := by decide +kernel
theorem d_Powers_firstLike_78 : decode jc_Powers_firstLike 78 = .ok (.aload_n 0, 1) := by decide +kernel
theorem d_Powers_firstLike_79 : decode jc_Powers_firstLike 79 = .ok (.getfield 10, 3) := by decide +kernel
theorem d_Powers_firstLike_82 : decode jc_Powers_firstLike 82 = .ok (.invokevirtual 27, 3) := by decide +kernel
theorem d_Powers_firstLike_85 : decode jc_Powers_firstLike 85 = .ok (.iload 5, 2) := by decide +kernel
theorem d_Powers_firstLike_87 : decode jc_Powers_firstLike 87 = .ok (.istore 4, 2) := by decide +kernel
theorem d_Powers_firstLike_89 : decode jc_Powers_firstLike 89 = .ok (.aload_n 0, 1) := by decide +kernel
theorem d_Powers_firstLike_90 : decode jc_Powers_firstLike 90 = .ok (.getfield 10, 3) := by decide +kernel
theorem d_Powers_firstLike_93 : decode jc_Powers_firstLike 93 = .ok (.aload_n 1, 1) := by decide +kernel
theorem d_Powers_firstLike_94 : decode jc_Powers_firstLike 94 = .ok (.invokevirtual 31, 3) := by decide +kernel
theorem d_Powers_firstLike_97 : decode jc_Powers_firstLike 97 = .ok (.iinc 5 1, 3) := by decide +kernel
theorem d_Powers_firstLike_100 : decode jc_Powers_firstLike 100 = .ok (.goto (-78), 3) := by decide +kernel
theorem d_Powers_firstLike_103 : decode jc_Powers_firstLike 103 = .ok (.iconst 0, 1) := by decide +kernel
theorem d_Powers_firstLike_104 : decode jc_Powers_firstLike 104 = .ok (.ireturn, 1) := by decide +kernel
theorem d_Rings_read_0 : decode jc_Rings_read 0 = .ok (.aload_n 0, 1) := by decide +kernel
theorem d_Rings_read_1 : decode jc_Rings_read 1 = .ok (.aload_n 1, 1) := by decide +kernel
theorem d_Rings_read_2 : decode jc_Rings_read 2 = .ok (.invokevirtual 44, 3) := by decide +kernel
theorem d_Rings_read_5 : decode jc_Rings_read 5 = .ok (.aload_n 0, 1) := by decide +kernel
theorem d_Rings_read_6 : decode jc_Rings_read 6 = .ok (.aload_n 1, 1) := by decide +kernel
theorem d_Rings_read_7 : decode jc_Rings_read 7 = .ok (.invokevirtual 48, 3) := by decide +kernel
theorem d_Rings_read_10 : decode jc_Rings_read 10 = .ok (.aload_n 0, 1) := by decide +kernel
theorem d_Rings_read_11 : decode jc_Rings_read 11 = .ok (.aload_n 1, 1) := by decide +kernel
theorem d_Rings_read_12 : decode jc_Rings_read 12 = .ok (.invokevirtual 51, 3) := by decide +kernel
theorem d_Rings_read_15 : decode jc_Rings_read 15 = .ok (.iconst 0, 1) := by decide +kernel
theorem d_Rings_read_16 : decode jc_Rings_read 16 = .ok (.istore_n 2, 1) := by decide +kernel
theorem d_Rings_read_17 : decode jc_Rings_read 17 = .ok (.iload_n 2, 1) := by decide +kernel
theorem d_Rings_read_18 : decode jc_Rings_read 18 = .ok (.aload_n 0, 1) := by decide +kernel
theorem d_Rings_read_19 : decode jc_Rings_read 19 = .ok (.getfield 54, 3) := by decide +kernel
theorem d_Rings_read_22 : decode jc_Rings_read 22 = .ok (.if_icmp .ge 26, 3) := by decide +kernel
theorem d_Rings_read_25 : decode jc_Rings_read 25 = .ok (.aload_n 0, 1) := by decide +kernel
theorem d_Rings_read_26 : decode jc_Rings_read 26 = .ok (.aload_n 1, 1) := by decide +kernel
theorem d_Rings_read_27 : decode jc_Rings_read 27 = .ok (.iload_n 2, 1) := by decide +kernel
theorem d_Rings_read_28 : decode jc_Rings_read 28 = .ok (.invokevirtual 58, 3) := by decide +kernel
theorem d_Rings_read_31 : decode jc_Rings_read 31 = .ok (.aload_n 0, 1) := by decide +kernel
theorem d_Rings_read_32 : decode jc_Rings_read 32 = .ok (.aload_n 1, 1) := by decide +kernel
theorem d_Rings_read_33 : decode jc_Rings_read 33 = .ok (.iload_n 2, 1) := by decide +kernel
theorem d_Rings_read_34 : decode jc_Rings_read 34 = .ok (.invokevirtual 62, 3) := by decide +kernel
theorem d_Rings_read_37 : decode jc_Rings_read 37 = .ok (.aload_n 0, 1) := by decide +kernel
theorem d_Rings_read_38 : decode jc_Rings_read 38 = .ok (.iload_n 2, 1) := by decide +kernel
theorem d_Rings_read_39 : decode jc_Rings_read 39 = .ok (.invokevirtual 65, 3) := by decide +kernel
theorem d_Rings_read_42 : decode jc_Rings_read 42 = .ok (.iinc 2 1, 3) := by decide +kernel
theorem d_Rings_read_45 : decode jc_Rings_read 45 = .ok (.goto (-28), 3) := by decide +kernel
theorem d_Rings_read_48 : decode jc_Rings_read 48 = .ok (.return_, 1) := by decide +kernel
theorem d_Rings_partOf_0 : decode jc_Rings_partOf 0 = .ok (.aload_n 0, 1) := by decide +kernel
theorem d_Rings_partOf_1 : decode jc_Rings_partOf 1 = .ok (.getfield 24, 3) := by decide +kernel
theorem d_Rings_partOf_4 : decode jc_Rings_partOf 4 = .ok (.aload_n 0, 1) := by decide +kernel
theorem d_Rings_partOf_5 : decode jc_Rings_partOf 5 = .ok (.getfield 9, 3) := by decide +kernel
theorem d_Rings_partOf_8 : decode jc_Rings_partOf 8 = .ok (.iload_n 1, 1) := by decide +kernel
theorem d_Rings_partOf_9 : decode jc_Rings_partOf 9 = .ok (.iaload, 1) := by decide +kernel
theorem d_Rings_partOf_10 : decode jc_Rings_partOf 10 = .ok (.iaload, 1) := by decide +kernel
theorem d_Rings_partOf_11 : decode jc_Rings_partOf 11 = .ok (.istore_n 2, 1) := by decide +kernel
theorem d_Rings_partOf_12 : decode jc_Rings_partOf 12 = .ok (.iload_n 2, 1) := by decide +kernel
theorem d_Rings_partOf_13 : decode jc_Rings_partOf 13 = .ok (.ifCond .ne 7, 3) := by decide +kernel
theorem d_Rings_partOf_16 : decode jc_Rings_partOf 16 = .ok (.iconst 0, 1) := by decide +kernel
theorem d_Rings_partOf_17 : decode jc_Rings_partOf 17 = .ok (.goto 11, 3) := by decide +kernel
theorem d_Rings_partOf_20 : decode jc_Rings_partOf 20 = .ok (.aload_n 0, 1) := by decide +kernel
theorem d_Rings_partOf_21 : decode jc_Rings_partOf 21 = .ok (.getfield 33, 3) := by decide +kernel
theorem d_Rings_partOf_24 : decode jc_Rings_partOf 24 = .ok (.iload_n 1, 1) := by decide +kernel
theorem d_Rings_partOf_25 : decode jc_Rings_partOf 25 = .ok (.iaload, 1) := by decide +kernel
theorem d_Rings_partOf_26 : decode jc_Rings_partOf 26 = .ok (.iload_n 2, 1) := by decide +kernel
theorem d_Rings_partOf_27 : decode jc_Rings_partOf 27 = .ok (.irem, 1) := by decide +kernel
theorem d_Rings_partOf_28 : decode jc_Rings_partOf 28 = .ok (.ireturn, 1) := by decide +kernel
theorem d_Rings_findClasses_0 : decode jc_Rings_findClasses 0 = .ok (.aload_n 0, 1) := by decide +kernel
theorem d_Rings_findClasses_1 : decode jc_Rings_findClasses 1 = .ok (.getfield 37, 3) := by decide +kernel
theorem d_Rings_findClasses_4 : decode jc_Rings_findClasses 4 = .ok (.aload_n 1, 1) := by decide +kernel
theorem d_Rings_findClasses_5 : decode jc_Rings_findClasses 5 = .ok (.invokevirtual 69, 3) := by decide +kernel
theorem d_Rings_findClasses_8 : decode jc_Rings_findClasses 8 = .ok (.aload_n 0, 1) := by decide +kernel
theorem d_Rings_findClasses_9 : decode jc_Rings_findClasses 9 = .ok (.getfield 37, 3) := by decide +kernel
theorem d_Rings_findClasses_12 : decode jc_Rings_findClasses 12 = .ok (.invokevirtual 72, 3) := by decide +kernel
theorem d_Rings_findClasses_15 : decode jc_Rings_findClasses 15 = .ok (.aload_n 0, 1) := by decide +kernel
theorem d_Rings_findClasses_16 : decode jc_Rings_findClasses 16 = .ok (.iconst 0, 1) := by decide +kernel
theorem d_Rings_findClasses_17 : decode jc_Rings_findClasses 17 = .ok (.putfield 54, 3) := by decide +kernel
theorem d_Rings_findClasses_20 : decode jc_Rings_findClasses 20 = .ok (.iconst 0, 1) := by decide +kernel
theorem d_Rings_findClasses_21 : decode jc_Rings_findClasses 21 = .ok (.istore_n 2, 1) := by decide +kernel
theorem d_Rings_findClasses_22 : decode jc_Rings_findClasses 22 = .ok (.iconst 0, 1) := by decide +kernel
theorem d_Rings_findClasses_23 : decode jc_Rings_findClasses 23 = .ok (.istore_n 3, 1) := by decide +kernel
theorem d_Rings_findClasses_24 : decode jc_Rings_findClasses 24 = .ok (.iload_n 3, 1) := by decide +kernel
theorem d_Rings_findClasses_25 : decode jc_Rings_findClasses 25 = .ok (.aload_n 1, 1) := by decide +kernel
theorem d_Rings_findClasses_26 : decode jc_Rings_findClasses 26 = .ok (.getfield 75, 3) := by decide +kernel
theorem d_Rings_findClasses_29 : decode jc_Rings_findClasses 29 = .ok (.if_icmp .ge 87, 3) := by decide +kernel
theorem d_Rings_findClasses_32 : decode jc_Rings_findClasses 32 = .ok (.iload_n 2, 1) := by decide +kernel
theorem d_Rings_findClasses_33 : decode jc_Rings_findClasses 33 = .ok (.iload_n 3, 1) := by decide +kernel
theorem d_Rings_findClasses_34 : decode jc_Rings_findClasses 34 = .ok (.ishr, 1) := by decide +kernel
theorem d_Rings_findClasses_35 : decode jc_Rings_findClasses 35 = .ok (.iconst 1, 1) := by decide +kernel
theorem d_Rings_findClasses_36 : decode jc_Rings_findClasses 36 = .ok (.iand, 1) := by decide +kernel
theorem d_Rings_findClasses_37 : decode jc_Rings_findClasses 37 = .ok (.ifCond .ne 73, 3) := by decide +kernel
theorem d_Rings_findClasses_40 : decode jc_Rings_findClasses 40 = .ok (.iconst 1, 1) := by decide +kernel
theorem d_Rings_findClasses_41 : decode jc_Rings_findClasses 41 = .ok (.iload_n 3, 1) := by decide +kernel
theorem d_Rings_findClasses_42 : decode jc_Rings_findClasses 42 = .ok (.ishl, 1) := by decide +kernel
theorem d_Rings_findClasses_43 : decode jc_Rings_findClasses 43 = .ok (.aload_n 0, 1) := by decide +kernel
theorem d_Rings_findClasses_44 : decode jc_Rings_findClasses 44 = .ok (.getfield 37, 3) := by decide +kernel
theorem d_Rings_findClasses_47 : decode jc_Rings_findClasses 47 = .ok (.getfield 78, 3) := by decide +kernel
theorem d_Rings_findClasses_50 : decode jc_Rings_findClasses 50 = .ok (.iload_n 3, 1) := by decide +kernel
theorem d_Rings_findClasses_51 : decode jc_Rings_findClasses 51 = .ok (.iaload, 1) := by decide +kernel
theorem d_Rings_findClasses_52 : decode jc_Rings_findClasses 52 = .ok (.aload_n 0, 1) := by decide +kernel
theorem d_Rings_findClasses_53 : decode jc_Rings_findClasses 53 = .ok (.getfield 37, 3) := by decide +kernel
theorem d_Rings_findClasses_56 : decode jc_Rings_findClasses 56 = .ok (.iload_n 3, 1) := by decide +kernel
theorem d_Rings_findClasses_57 : decode jc_Rings_findClasses 57 = .ok (.invokevirtual 81, 3) := by decide +kernel
theorem d_Rings_findClasses_60 : decode jc_Rings_findClasses 60 = .ok (.iand, 1) := by decide +kernel
theorem d_Rings_findClasses_61 : decode jc_Rings_findClasses 61 = .ok (.ior, 1) := by decide +kernel
theorem d_Rings_findClasses_62 : decode jc_Rings_findClasses 62 = .ok (.istore 4, 2) := by decide +kernel
theorem d_Rings_findClasses_64 : decode jc_Rings_findClasses 64 = .ok (.iload_n 2, 1) := by decide +kernel
theorem d_Rings_findClasses_65 : decode jc_Rings_findClasses 65 = .ok (.iload 4, 2) := by decide +kernel
theorem d_Rings_findClasses_67 : decode jc_Rings_findClasses 67 = .ok (.ior, 1) := by decide +kernel
theorem d_Rings_findClasses_68 : decode jc_Rings_findClasses 68 = .ok (.istore_n 2, 1) := by decide +kernel
theorem d_Rings_findClasses_69 : decode jc_Rings_findClasses 69 = .ok (.aload_n 0, 1) := by decide +kernel
theorem d_Rings_findClasses_70 : decode jc_Rings_findClasses 70 = .ok (.getfield 18, 3) := by decide +kernel
theorem d_Rings_findClasses_73 : decode jc_Rings_findClasses 73 = .ok (.aload_n 0, 1) := by decide +kernel
theorem d_Rings_findClasses_74 : decode jc_Rings_findClasses 74 = .ok (.getfield 54, 3) := by decide +kernel
theorem d_Rings_findClasses_77 : decode jc_Rings_findClasses 77 = .ok (.iload_n 3, 1) := by decide +kernel
theorem d_Rings_findClasses_78 : decode jc_Rings_findClasses 78 = .ok (.iastore, 1) := by decide +kernel
theorem d_Rings_findClasses_79 : decode jc_Rings_findClasses 79 = .ok (.aload_n 0, 1) := by decide +kernel
theorem d_Rings_findClasses_80 : decode jc_Rings_findClasses 80 = .ok (.getfield 15, 3) := by decide +kernel
theorem d_Rings_findClasses_83 : decode jc_Rings_findClasses 83 = .ok (.aload_n 0, 1) := by decide +kernel
theorem d_Rings_findClasses_84 : decode jc_Rings_findClasses 84 = .ok (.getfield 54, 3) := by decide +kernel
theorem d_Rings_findClasses_87 : decode jc_Rings_findClasses 87 = .ok (.iload 4, 2) := by decide +kernel
theorem d_Rings_findClasses_89 : decode jc_Rings_findClasses 89 = .ok (.iastore, 1) := by decide +kernel
theorem d_Rings_findClasses_90 : decode jc_Rings_findClasses 90 = .ok (.aload_n 0, 1) := by decide +kernel
theorem d_Rings_findClasses_91 : decode jc_Rings_findClasses 91 = .ok (.iload 4, 2) := by decide +kernel
theorem d_Rings_findClasses_93 : decode jc_Rings_findClasses 93 = .ok (.aload_n 0, 1) := by decide +kernel
theorem d_Rings_findClasses_94 : decode jc_Rings_findClasses 94 = .ok (.getfield 54, 3) := by decide +kernel
theorem d_Rings_findClasses_97 : decode jc_Rings_findClasses 97 = .ok (.invokevirtual 85, 3) := by decide +kernel
theorem d_Rings_findClasses_100 : decode jc_Rings_findClasses 100 = .ok (.aload_n 0, 1) := by decide +kernel
theorem d_Rings_findClasses_101 : decode jc_Rings_findClasses 101 = .ok (.dup, 1) := by decide +kernel
theorem d_Rings_findClasses_102 : decode jc_Rings_findClasses 102 = .ok (.getfield 54, 3) := by decide +kernel
theorem d_Rings_findClasses_105 : decode jc_Rings_findClasses 105 = .ok (.iconst 1, 1) := by decide +kernel
theorem d_Rings_findClasses_106 : decode jc_Rings_findClasses 106 = .ok (.iadd, 1) := by decide +kernel
theorem d_Rings_findClasses_107 : decode jc_Rings_findClasses 107 = .ok (.putfield 54, 3) := by decide +kernel
theorem d_Rings_findClasses_110 : decode jc_Rings_findClasses 110 = .ok (.iinc 3 1, 3) := by decide +kernel
theorem d_Rings_findClasses_113 : decode jc_Rings_findClasses 113 = .ok (.goto (-89), 3) := by decide +kernel
theorem d_Rings_findClasses_116 : decode jc_Rings_findClasses 116 = .ok (.return_, 1) := by decide +kernel
theorem d_Rings_settle_0 : decode jc_Rings_settle 0 = .ok (.iconst 0, 1) := by decide +kernel
theorem d_Rings_settle_1 : decode jc_Rings_settle 1 = .ok (.istore_n 3, 1) := by decide +kernel
theorem d_Rings_settle_2 : decode jc_Rings_settle 2 = .ok (.iload_n 3, 1) := by decide +kernel
theorem d_Rings_settle_3 : decode jc_Rings_settle 3 = .ok (.bipush 12, 2) := by decide +kernel
theorem d_Rings_settle_5 : decode jc_Rings_settle 5 = .ok (.if_icmp .ge 25, 3) := by decide +kernel
theorem d_Rings_settle_8 : decode jc_Rings_settle 8 = .ok (.iload_n 1, 1) := by decide +kernel
theorem d_Rings_settle_9 : decode jc_Rings_settle 9 = .ok (.iload_n 3, 1) := by decide +kernel
theorem d_Rings_settle_10 : decode jc_Rings_settle 10 = .ok (.ishr, 1) := by decide +kernel
theorem d_Rings_settle_11 : decode jc_Rings_settle 11 = .ok (.iconst 1, 1) := by decide +kernel
theorem d_Rings_settle_12 : decode jc_Rings_settle 12 = .ok (.iand, 1) := by decide +kernel
theorem d_Rings_settle_13 : decode jc_Rings_settle 13 = .ok (.iconst 1, 1) := by decide +kernel
theorem d_Rings_settle_14 : decode jc_Rings_settle 14 = .ok (.if_icmp .ne 10, 3) := by decide +kernel
theorem d_Rings_settle_17 : decode jc_Rings_settle 17 = .ok (.aload_n 0, 1) := by decide +kernel
theorem d_Rings_settle_18 : decode jc_Rings_settle 18 = .ok (.getfield 9, 3) := by decide +kernel
theorem d_Rings_settle_21 : decode jc_Rings_settle 21 = .ok (.iload_n 3, 1) := by decide +kernel
theorem d_Rings_settle_22 : decode jc_Rings_settle 22 = .ok (.iload_n 2, 1) := by decide +kernel
theorem d_Rings_settle_23 : decode jc_Rings_settle 23 = .ok (.iastore, 1) := by decide +kernel
theorem d_Rings_settle_24 : decode jc_Rings_settle 24 = .ok (.iinc 3 1, 3) := by decide +kernel
theorem d_Rings_settle_27 : decode jc_Rings_settle 27 = .ok (.goto (-25), 3) := by decide +kernel
theorem d_Rings_settle_30 : decode jc_Rings_settle 30 = .ok (.return_, 1) := by decide +kernel
theorem d_Rings_findGirths_0 : decode jc_Rings_findGirths 0 = .ok (.iconst 0, 1) := by decide +kernel
theorem d_Rings_findGirths_1 : decode jc_Rings_findGirths 1 = .ok (.istore_n 2, 1) := by decide +kernel
theorem d_Rings_findGirths_2 : decode jc_Rings_findGirths 2 = .ok (.iload_n 2, 1) := by decide +kernel
theorem d_Rings_findGirths_3 : decode jc_Rings_findGirths 3 = .ok (.aload_n 0, 1) := by decide +kernel
theorem d_Rings_findGirths_4 : decode jc_Rings_findGirths 4 = .ok (.getfield 54, 3) := by decide +kernel
theorem d_Rings_findGirths_7 : decode jc_Rings_findGirths 7 = .ok (.if_icmp .ge 16, 3) := by decide +kernel
theorem d_Rings_findGirths_10 : decode jc_Rings_findGirths 10 = .ok (.aload_n 0, 1) := by decide +kernel
theorem d_Rings_findGirths_11 : decode jc_Rings_findGirths 11 = .ok (.getfield 21, 3) := by decide +kernel
theorem d_Rings_findGirths_14 : decode jc_Rings_findGirths 14 = .ok (.iload_n 2, 1) := by decide +kernel
theorem d_Rings_findGirths_15 : decode jc_Rings_findGirths 15 = .ok (.iconst 0, 1) := by decide +kernel
theorem d_Rings_findGirths_16 : decode jc_Rings_findGirths 16 = .ok (.iastore, 1) := by decide +kernel
theorem d_Rings_findGirths_17 : decode jc_Rings_findGirths 17 = .ok (.iinc 2 1, 3) := by decide +kernel
theorem d_Rings_findGirths_20 : decode jc_Rings_findGirths 20 = .ok (.goto (-18), 3) := by decide +kernel
theorem d_Rings_findGirths_23 : decode jc_Rings_findGirths 23 = .ok (.aload_n 0, 1) := by decide +kernel
theorem d_Rings_findGirths_24 : decode jc_Rings_findGirths 24 = .ok (.getfield 41, 3) := by decide +kernel
theorem d_Rings_findGirths_27 : decode jc_Rings_findGirths 27 = .ok (.aload_n 1, 1) := by decide +kernel
theorem d_Rings_findGirths_28 : decode jc_Rings_findGirths 28 = .ok (.invokevirtual 69, 3) := by decide +kernel
theorem d_Rings_findGirths_31 : decode jc_Rings_findGirths 31 = .ok (.iconst 1, 1) := by decide +kernel
theorem d_Rings_findGirths_32 : decode jc_Rings_findGirths 32 = .ok (.istore_n 2, 1) := by decide +kernel
theorem d_Rings_findGirths_33 : decode jc_Rings_findGirths 33 = .ok (.iload_n 2, 1) := by decide +kernel
theorem d_Rings_findGirths_34 : decode jc_Rings_findGirths 34 = .ok (.aload_n 1, 1) := by decide +kernel
theorem d_Rings_findGirths_35 : decode jc_Rings_findGirths 35 = .ok (.getfield 75, 3) := by decide +kernel
theorem d_Rings_findGirths_38 : decode jc_Rings_findGirths 38 = .ok (.if_icmp .gt 72, 3) := by decide +kernel
theorem d_Rings_findGirths_41 : decode jc_Rings_findGirths 41 = .ok (.iconst 0, 1) := by decide +kernel
theorem d_Rings_findGirths_42 : decode jc_Rings_findGirths 42 = .ok (.istore_n 3, 1) := by decide +kernel
theorem d_Rings_findGirths_43 : decode jc_Rings_findGirths 43 = .ok (.iload_n 3, 1) := by decide +kernel
theorem d_Rings_findGirths_44 : decode jc_Rings_findGirths 44 = .ok (.aload_n 1, 1) := by decide +kernel
theorem d_Rings_findGirths_45 : decode jc_Rings_findGirths 45 = .ok (.getfield 75, 3) := by decide +kernel
theorem d_Rings_findGirths_48 : decode jc_Rings_findGirths 48 = .ok (.if_icmp .ge 48, 3) := by decide +kernel
theorem d_Rings_findGirths_51 : decode jc_Rings_findGirths 51 = .ok (.aload_n 0, 1) := by decide +kernel
theorem d_Rings_findGirths_52 : decode jc_Rings_findGirths 52 = .ok (.getfield 41, 3) := by decide +kernel
theorem d_Rings_findGirths_55 : decode jc_Rings_findGirths 55 = .ok (.iload_n 3, 1) := by decide +kernel
theorem d_Rings_findGirths_56 : decode jc_Rings_findGirths 56 = .ok (.iload_n 3, 1) := by decide +kernel
theorem d_Rings_findGirths_57 : decode jc_Rings_findGirths 57 = .ok (.invokevirtual 89, 3) := by decide +kernel
theorem d_Rings_findGirths_60 : decode jc_Rings_findGirths 60 = .ok (.iconst 1, 1) := by decide +kernel
theorem d_Rings_findGirths_61 : decode jc_Rings_findGirths 61 = .ok (.if_icmp .ne 29, 3) := by decide +kernel
theorem d_Rings_findGirths_64 : decode jc_Rings_findGirths 64 = .ok (.aload_n 0, 1) := by decide +kernel
theorem d_Rings_findGirths_65 : decode jc_Rings_findGirths 65 = .ok (.getfield 21, 3) := by decide +kernel
theorem d_Rings_findGirths_68 : decode jc_Rings_findGirths 68 = .ok (.aload_n 0, 1) := by decide +kernel
theorem d_Rings_findGirths_69 : decode jc_Rings_findGirths 69 = .ok (.getfield 9, 3) := by decide +kernel
theorem d_Rings_findGirths_72 : decode jc_Rings_findGirths 72 = .ok (.iload_n 3, 1) := by decide +kernel
theorem d_Rings_findGirths_73 : decode jc_Rings_findGirths 73 = .ok (.iaload, 1) := by decide +kernel
theorem d_Rings_findGirths_74 : decode jc_Rings_findGirths 74 = .ok (.iaload, 1) := by decide +kernel
theorem d_Rings_findGirths_75 : decode jc_Rings_findGirths 75 = .ok (.ifCond .ne 15, 3) := by decide +kernel
theorem d_Rings_findGirths_78 : decode jc_Rings_findGirths 78 = .ok (.aload_n 0, 1) := by decide +kernel
theorem d_Rings_findGirths_79 : decode jc_Rings_findGirths 79 = .ok (.getfield 21, 3) := by decide +kernel
theorem d_Rings_findGirths_82 : decode jc_Rings_findGirths 82 = .ok (.aload_n 0, 1) := by decide +kernel
theorem d_Rings_findGirths_83 : decode jc_Rings_findGirths 83 = .ok (.getfield 9, 3) := by decide +kernel
theorem d_Rings_findGirths_86 : decode jc_Rings_findGirths 86 = .ok (.iload_n 3, 1) := by decide +kernel
theorem d_Rings_findGirths_87 : decode jc_Rings_findGirths 87 = .ok (.iaload, 1) := by decide +kernel
theorem d_Rings_findGirths_88 : decode jc_Rings_findGirths 88 = .ok (.iload_n 2, 1) := by decide +kernel
theorem d_Rings_findGirths_89 : decode jc_Rings_findGirths 89 = .ok (.iastore, 1) := by decide +kernel
theorem d_Rings_findGirths_90 : decode jc_Rings_findGirths 90 = .ok (.iinc 3 1, 3) := by decide +kernel
theorem d_Rings_findGirths_93 : decode jc_Rings_findGirths 93 = .ok (.goto (-50), 3) := by decide +kernel
theorem d_Rings_findGirths_96 : decode jc_Rings_findGirths 96 = .ok (.aload_n 0, 1) := by decide +kernel
theorem d_Rings_findGirths_97 : decode jc_Rings_findGirths 97 = .ok (.getfield 41, 3) := by decide +kernel
theorem d_Rings_findGirths_100 : decode jc_Rings_findGirths 100 = .ok (.aload_n 1, 1) := by decide +kernel
theorem d_Rings_findGirths_101 : decode jc_Rings_findGirths 101 = .ok (.invokevirtual 93, 3) := by decide +kernel
theorem d_Rings_findGirths_104 : decode jc_Rings_findGirths 104 = .ok (.iinc 2 1, 3) := by decide +kernel
theorem d_Rings_findGirths_107 : decode jc_Rings_findGirths 107 = .ok (.goto (-74), 3) := by decide +kernel
theorem d_Rings_findGirths_110 : decode jc_Rings_findGirths 110 = .ok (.return_, 1) := by decide +kernel
theorem d_Rings_findLevels_0 : decode jc_Rings_findLevels 0 = .ok (.iconst 0, 1) := by decide +kernel
theorem d_Rings_findLevels_1 : decode jc_Rings_findLevels 1 = .ok (.istore_n 2, 1) := by decide +kernel
theorem d_Rings_findLevels_2 : decode jc_Rings_findLevels 2 = .ok (.iload_n 2, 1) := by decide +kernel
theorem d_Rings_findLevels_3 : decode jc_Rings_findLevels 3 = .ok (.aload_n 0, 1) := by decide +kernel
theorem d_Rings_findLevels_4 : decode jc_Rings_findLevels 4 = .ok (.getfield 54, 3) := by decide +kernel
theorem d_Rings_findLevels_7 : decode jc_Rings_findLevels 7 = .ok (.if_icmp .ge 16, 3) := by decide +kernel
theorem d_Rings_findLevels_10 : decode jc_Rings_findLevels 10 = .ok (.aload_n 0, 1) := by decide +kernel
theorem d_Rings_findLevels_11 : decode jc_Rings_findLevels 11 = .ok (.getfield 27, 3) := by decide +kernel
theorem d_Rings_findLevels_14 : decode jc_Rings_findLevels 14 = .ok (.iload_n 2, 1) := by decide +kernel
theorem d_Rings_findLevels_15 : decode jc_Rings_findLevels 15 = .ok (.iconst 0, 1) := by decide +kernel
theorem d_Rings_findLevels_16 : decode jc_Rings_findLevels 16 = .ok (.iastore, 1) := by decide +kernel
theorem d_Rings_findLevels_17 : decode jc_Rings_findLevels 17 = .ok (.iinc 2 1, 3) := by decide +kernel
theorem d_Rings_findLevels_20 : decode jc_Rings_findLevels 20 = .ok (.goto (-18), 3) := by decide +kernel
theorem d_Rings_findLevels_23 : decode jc_Rings_findLevels 23 = .ok (.iconst 0, 1) := by decide +kernel
theorem d_Rings_findLevels_24 : decode jc_Rings_findLevels 24 = .ok (.istore_n 2, 1) := by decide +kernel
theorem d_Rings_findLevels_25 : decode jc_Rings_findLevels 25 = .ok (.iload_n 2, 1) := by decide +kernel
theorem d_Rings_findLevels_26 : decode jc_Rings_findLevels 26 = .ok (.aload_n 0, 1) := by decide +kernel
theorem d_Rings_findLevels_27 : decode jc_Rings_findLevels 27 = .ok (.getfield 54, 3) := by decide +kernel
theorem d_Rings_findLevels_30 : decode jc_Rings_findLevels 30 = .ok (.if_icmp .ge 31, 3) := by decide +kernel
theorem d_Rings_findLevels_33 : decode jc_Rings_findLevels 33 = .ok (.iconst 0, 1) := by decide +kernel
theorem d_Rings_findLevels_34 : decode jc_Rings_findLevels 34 = .ok (.istore_n 3, 1) := by decide +kernel
theorem d_Rings_findLevels_35 : decode jc_Rings_findLevels 35 = .ok (.iload_n 3, 1) := by decide +kernel
theorem d_Rings_findLevels_36 : decode jc_Rings_findLevels 36 = .ok (.aload_n 1, 1) := by decide +kernel
theorem d_Rings_findLevels_37 : decode jc_Rings_findLevels 37 = .ok (.getfield 75, 3) := by decide +kernel
theorem d_Rings_findLevels_40 : decode jc_Rings_findLevels 40 = .ok (.if_icmp .ge 15, 3) := by decide +kernel
theorem d_Rings_findLevels_43 : decode jc_Rings_findLevels 43 = .ok (.aload_n 0, 1) := by decide +kernel
theorem d_Rings_findLevels_44 : decode jc_Rings_findLevels 44 = .ok (.aload_n 1, 1) := by decide +kernel
theorem d_Rings_findLevels_45 : decode jc_Rings_findLevels 45 = .ok (.iload_n 3, 1) := by decide +kernel
theorem d_Rings_findLevels_46 : decode jc_Rings_findLevels 46 = .ok (.invokevirtual 96, 3) := by decide +kernel
theorem d_Rings_findLevels_49 : decode jc_Rings_findLevels 49 = .ok (.iinc 3 1, 3) := by decide +kernel
theorem d_Rings_findLevels_52 : decode jc_Rings_findLevels 52 = .ok (.goto (-17), 3) := by decide +kernel
theorem d_Rings_findLevels_55 : decode jc_Rings_findLevels 55 = .ok (.iinc 2 1, 3) := by decide +kernel
theorem d_Rings_findLevels_58 : decode jc_Rings_findLevels 58 = .ok (.goto (-33), 3) := by decide +kernel
theorem d_Rings_findLevels_61 : decode jc_Rings_findLevels 61 = .ok (.return_, 1) := by decide +kernel
theorem d_Rings_raiseLevels_0 : decode jc_Rings_raiseLevels 0 = .ok (.iconst 0, 1) := by decide +kernel
theorem d_Rings_raiseLevels_1 : decode jc_Rings_raiseLevels 1 = .ok (.istore_n 3, 1) := by decide +kernel
theorem d_Rings_raiseLevels_2 : decode jc_Rings_raiseLevels 2 = .ok (.iload_n 3, 1) := by decide +kernel
theorem d_Rings_raiseLevels_3 : decode jc_Rings_raiseLevels 3 = .ok (.aload_n 1, 1) := by decide +kernel
theorem d_Rings_raiseLevels_4 : decode jc_Rings_raiseLevels 4 = .ok (.getfield 75, 3) := by decide +kernel
theorem d_Rings_raiseLevels_7 : decode jc_Rings_raiseLevels 7 = .ok (.if_icmp .ge 83, 3) := by decide +kernel
theorem d_Rings_raiseLevels_10 : decode jc_Rings_raiseLevels 10 = .ok (.aload_n 1, 1) := by decide +kernel
theorem d_Rings_raiseLevels_11 : decode jc_Rings_raiseLevels 11 = .ok (.iload_n 2, 1) := by decide +kernel
theorem d_Rings_raiseLevels_12 : decode jc_Rings_raiseLevels 12 = .ok (.iload_n 3, 1) := by decide +kernel
theorem d_Rings_raiseLevels_13 : decode jc_Rings_raiseLevels 13 = .ok (.invokevirtual 89, 3) := by decide +kernel
theorem d_Rings_raiseLevels_16 : decode jc_Rings_raiseLevels 16 = .ok (.iconst 1, 1) := by decide +kernel
theorem d_Rings_raiseLevels_17 : decode jc_Rings_raiseLevels 17 = .ok (.if_icmp .ne 67, 3) := by decide +kernel
theorem d_Rings_raiseLevels_20 : decode jc_Rings_raiseLevels 20 = .ok (.aload_n 0, 1) := by decide +kernel
theorem d_Rings_raiseLevels_21 : decode jc_Rings_raiseLevels 21 = .ok (.getfield 9, 3) := by decide +kernel
theorem d_Rings_raiseLevels_24 : decode jc_Rings_raiseLevels 24 = .ok (.iload_n 2, 1) := by decide +kernel
theorem d_Rings_raiseLevels_25 : decode jc_Rings_raiseLevels 25 = .ok (.iaload, 1) := by decide +kernel
theorem d_Rings_raiseLevels_26 : decode jc_Rings_raiseLevels 26 = .ok (.aload_n 0, 1) := by decide +kernel
theorem d_Rings_raiseLevels_27 : decode jc_Rings_raiseLevels 27 = .ok (.getfield 9, 3) := by decide +kernel
theorem d_Rings_raiseLevels_30 : decode jc_Rings_raiseLevels 30 = .ok (.iload_n 3, 1) := by decide +kernel
theorem d_Rings_raiseLevels_31 : decode jc_Rings_raiseLevels 31 = .ok (.iaload, 1) := by decide +kernel
theorem d_Rings_raiseLevels_32 : decode jc_Rings_raiseLevels 32 = .ok (.if_icmp .eq 52, 3) := by decide +kernel
theorem d_Rings_raiseLevels_35 : decode jc_Rings_raiseLevels 35 = .ok (.aload_n 0, 1) := by decide +kernel
theorem d_Rings_raiseLevels_36 : decode jc_Rings_raiseLevels 36 = .ok (.getfield 27, 3) := by decide +kernel
theorem d_Rings_raiseLevels_39 : decode jc_Rings_raiseLevels 39 = .ok (.aload_n 0, 1) := by decide +kernel
theorem d_Rings_raiseLevels_40 : decode jc_Rings_raiseLevels 40 = .ok (.getfield 9, 3) := by decide +kernel
theorem d_Rings_raiseLevels_43 : decode jc_Rings_raiseLevels 43 = .ok (.iload_n 3, 1) := by decide +kernel
theorem d_Rings_raiseLevels_44 : decode jc_Rings_raiseLevels 44 = .ok (.iaload, 1) := by decide +kernel
theorem d_Rings_raiseLevels_45 : decode jc_Rings_raiseLevels 45 = .ok (.iaload, 1) := by decide +kernel
theorem d_Rings_raiseLevels_46 : decode jc_Rings_raiseLevels 46 = .ok (.aload_n 0, 1) := by decide +kernel
theorem d_Rings_raiseLevels_47 : decode jc_Rings_raiseLevels 47 = .ok (.getfield 27, 3) := by decide +kernel
theorem d_Rings_raiseLevels_50 : decode jc_Rings_raiseLevels 50 = .ok (.aload_n 0, 1) := by decide +kernel
theorem d_Rings_raiseLevels_51 : decode jc_Rings_raiseLevels 51 = .ok (.getfield 9, 3) := by decide +kernel
theorem d_Rings_raiseLevels_54 : decode jc_Rings_raiseLevels 54 = .ok (.iload_n 2, 1) := by decide +kernel
theorem d_Rings_raiseLevels_55 : decode jc_Rings_raiseLevels 55 = .ok (.iaload, 1) := by decide +kernel
theorem d_Rings_raiseLevels_56 : decode jc_Rings_raiseLevels 56 = .ok (.iaload, 1) := by decide +kernel
theorem d_Rings_raiseLevels_57 : decode jc_Rings_raiseLevels 57 = .ok (.if_icmp .gt 27, 3) := by decide +kernel
theorem d_Rings_raiseLevels_60 : decode jc_Rings_raiseLevels 60 = .ok (.aload_n 0, 1) := by decide +kernel
theorem d_Rings_raiseLevels_61 : decode jc_Rings_raiseLevels 61 = .ok (.getfield 27, 3) := by decide +kernel
theorem d_Rings_raiseLevels_64 : decode jc_Rings_raiseLevels 64 = .ok (.aload_n 0, 1) := by decide +kernel
theorem d_Rings_raiseLevels_65 : decode jc_Rings_raiseLevels 65 = .ok (.getfield 9, 3) := by decide +kernel
theorem d_Rings_raiseLevels_68 : decode jc_Rings_raiseLevels 68 = .ok (.iload_n 3, 1) := by decide +kernel
theorem d_Rings_raiseLevels_69 : decode jc_Rings_raiseLevels 69 = .ok (.iaload, 1) := by decide +kernel
theorem d_Rings_raiseLevels_70 : decode jc_Rings_raiseLevels 70 = .ok (.aload_n 0, 1) := by decide +kernel
theorem d_Rings_raiseLevels_71 : decode jc_Rings_raiseLevels 71 = .ok (.getfield 27, 3) := by decide +kernel
theorem d_Rings_raiseLevels_74 : decode jc_Rings_raiseLevels 74 = .ok (.aload_n 0, 1) := by decide +kernel
theorem d_Rings_raiseLevels_75 : decode jc_Rings_raiseLevels 75 = .ok (.getfield 9, 3) := by decide +kernel
theorem d_Rings_raiseLevels_78 : decode jc_Rings_raiseLevels 78 = .ok (.iload_n 2, 1) := by decide +kernel
theorem d_Rings_raiseLevels_79 : decode jc_Rings_raiseLevels 79 = .ok (.iaload, 1) := by decide +kernel
theorem d_Rings_raiseLevels_80 : decode jc_Rings_raiseLevels 80 = .ok (.iaload, 1) := by decide +kernel
theorem d_Rings_raiseLevels_81 : decode jc_Rings_raiseLevels 81 = .ok (.iconst 1, 1) := by decide +kernel
theorem d_Rings_raiseLevels_82 : decode jc_Rings_raiseLevels 82 = .ok (.iadd, 1) := by decide +kernel
theorem d_Rings_raiseLevels_83 : decode jc_Rings_raiseLevels 83 = .ok (.iastore, 1) := by decide +kernel
theorem d_Rings_raiseLevels_84 : decode jc_Rings_raiseLevels 84 = .ok (.iinc 3 1, 3) := by decide +kernel
theorem d_Rings_raiseLevels_87 : decode jc_Rings_raiseLevels 87 = .ok (.goto (-85), 3) := by decide +kernel
theorem d_Rings_raiseLevels_90 : decode jc_Rings_raiseLevels 90 = .ok (.return_, 1) := by decide +kernel
theorem d_Rings_findDistances_0 : decode jc_Rings_findDistances 0 = .ok (.iconst 0, 1) := by decide +kernel
theorem d_Rings_findDistances_1 : decode jc_Rings_findDistances 1 = .ok (.istore_n 3, 1) := by decide +kernel
theorem d_Rings_findDistances_2 : decode jc_Rings_findDistances 2 = .ok (.iconst 1, 1) := by decide +kernel
theorem d_Rings_findDistances_3 : decode jc_Rings_findDistances 3 = .ok (.aload_n 0, 1) := by decide +kernel
theorem d_Rings_findDistances_4 : decode jc_Rings_findDistances 4 = .ok (.getfield 18, 3) := by decide +kernel
theorem d_Rings_findDistances_7 : decode jc_Rings_findDistances 7 = .ok (.iload_n 2, 1) := by decide +kernel
theorem d_Rings_findDistances_8 : decode jc_Rings_findDistances 8 = .ok (.iaload, 1) := by decide +kernel
theorem d_Rings_findDistances_9 : decode jc_Rings_findDistances 9 = .ok (.ishl, 1) := by decide +kernel
theorem d_Rings_findDistances_10 : decode jc_Rings_findDistances 10 = .ok (.istore 4, 2) := by decide +kernel
theorem d_Rings_findDistances_12 : decode jc_Rings_findDistances 12 = .ok (.iconst 0, 1) := by decide +kernel
theorem d_Rings_findDistances_13 : decode jc_Rings_findDistances 13 = .ok (.istore 5, 2) := by decide +kernel
theorem d_Rings_findDistances_15 : decode jc_Rings_findDistances 15 = .ok (.iload 5, 2) := by decide +kernel
theorem d_Rings_findDistances_17 : decode jc_Rings_findDistances 17 = .ok (.aload_n 1, 1) := by decide +kernel
theorem d_Rings_findDistances_18 : decode jc_Rings_findDistances 18 = .ok (.getfield 75, 3) := by decide +kernel
theorem d_Rings_findDistances_21 : decode jc_Rings_findDistances 21 = .ok (.if_icmp .ge 87, 3) := by decide +kernel
theorem d_Rings_findDistances_24 : decode jc_Rings_findDistances 24 = .ok (.iload 4, 2) := by decide +kernel
theorem d_Rings_findDistances_26 : decode jc_Rings_findDistances 26 = .ok (.ifCond .eq 82, 3) := by decide +kernel
theorem d_Rings_findDistances_29 : decode jc_Rings_findDistances 29 = .ok (.iconst 0, 1) := by decide +kernel
theorem d_Rings_findDistances_30 : decode jc_Rings_findDistances 30 = .ok (.istore 6, 2) := by decide +kernel
theorem d_Rings_findDistances_32 : decode jc_Rings_findDistances 32 = .ok (.iconst 0, 1) := by decide +kernel
theorem d_Rings_findDistances_33 : decode jc_Rings_findDistances 33 = .ok (.istore 7, 2) := by decide +kernel
theorem d_Rings_findDistances_35 : decode jc_Rings_findDistances 35 = .ok (.iload 7, 2) := by decide +kernel
theorem d_Rings_findDistances_37 : decode jc_Rings_findDistances 37 = .ok (.aload_n 1, 1) := by decide +kernel
theorem d_Rings_findDistances_38 : decode jc_Rings_findDistances 38 = .ok (.getfield 75, 3) := by decide +kernel
theorem d_Rings_findDistances_41 : decode jc_Rings_findDistances 41 = .ok (.if_icmp .ge 41, 3) := by decide +kernel
theorem d_Rings_findDistances_44 : decode jc_Rings_findDistances 44 = .ok (.iload 4, 2) := by decide +kernel
theorem d_Rings_findDistances_46 : decode jc_Rings_findDistances 46 = .ok (.iload 7, 2) := by decide +kernel
theorem d_Rings_findDistances_48 : decode jc_Rings_findDistances 48 = .ok (.ishr, 1) := by decide +kernel
theorem d_Rings_findDistances_49 : decode jc_Rings_findDistances 49 = .ok (.iconst 1, 1) := by decide +kernel
theorem d_Rings_findDistances_50 : decode jc_Rings_findDistances 50 = .ok (.iand, 1) := by decide +kernel
theorem d_Rings_findDistances_51 : decode jc_Rings_findDistances 51 = .ok (.iconst 1, 1) := by decide +kernel
theorem d_Rings_findDistances_52 : decode jc_Rings_findDistances 52 = .ok (.if_icmp .ne 24, 3) := by decide +kernel
theorem d_Rings_findDistances_55 : decode jc_Rings_findDistances 55 = .ok (.aload_n 0, 1) := by decide +kernel
theorem d_Rings_findDistances_56 : decode jc_Rings_findDistances 56 = .ok (.getfield 33, 3) := by decide +kernel
theorem d_Rings_findDistances_59 : decode jc_Rings_findDistances 59 = .ok (.iload 7, 2) := by decide +kernel
theorem d_Rings_findDistances_61 : decode jc_Rings_findDistances 61 = .ok (.iload 5, 2) := by decide +kernel
theorem d_Rings_findDistances_63 : decode jc_Rings_findDistances 63 = .ok (.iastore, 1) := by decide +kernel
theorem d_Rings_findDistances_64 : decode jc_Rings_findDistances 64 = .ok (.iload 6, 2) := by decide +kernel
theorem d_Rings_findDistances_66 : decode jc_Rings_findDistances 66 = .ok (.aload_n 1, 1) := by decide +kernel
theorem d_Rings_findDistances_67 : decode jc_Rings_findDistances 67 = .ok (.getfield 78, 3) := by decide +kernel
theorem d_Rings_findDistances_70 : decode jc_Rings_findDistances 70 = .ok (.iload 7, 2) := by decide +kernel
theorem d_Rings_findDistances_72 : decode jc_Rings_findDistances 72 = .ok (.iaload, 1) := by decide +kernel
theorem d_Rings_findDistances_73 : decode jc_Rings_findDistances 73 = .ok (.ior, 1) := by decide +kernel
theorem d_Rings_findDistances_74 : decode jc_Rings_findDistances 74 = .ok (.istore 6, 2) := by decide +kernel
theorem d_Rings_findDistances_76 : decode jc_Rings_findDistances 76 = .ok (.iinc 7 1, 3) := by decide +kernel
theorem d_Rings_findDistances_79 : decode jc_Rings_findDistances 79 = .ok (.goto (-44), 3) := by decide +kernel
theorem d_Rings_findDistances_82 : decode jc_Rings_findDistances 82 = .ok (.iload_n 3, 1) := by decide +kernel
theorem d_Rings_findDistances_83 : decode jc_Rings_findDistances 83 = .ok (.iload 4, 2) := by decide +kernel
theorem d_Rings_findDistances_85 : decode jc_Rings_findDistances 85 = .ok (.ior, 1) := by decide +kernel
theorem d_Rings_findDistances_86 : decode jc_Rings_findDistances 86 = .ok (.istore_n 3, 1) := by decide +kernel
theorem d_Rings_findDistances_87 : decode jc_Rings_findDistances 87 = .ok (.iload 6, 2) := by decide +kernel
theorem d_Rings_findDistances_89 : decode jc_Rings_findDistances 89 = .ok (.aload_n 0, 1) := by decide +kernel
theorem d_Rings_findDistances_90 : decode jc_Rings_findDistances 90 = .ok (.getfield 15, 3) := by decide +kernel
theorem d_Rings_findDistances_93 : decode jc_Rings_findDistances 93 = .ok (.iload_n 2, 1) := by decide +kernel
theorem d_Rings_findDistances_94 : decode jc_Rings_findDistances 94 = .ok (.iaload, 1) := by decide +kernel
theorem d_Rings_findDistances_95 : decode jc_Rings_findDistances 95 = .ok (.iand, 1) := by decide +kernel
theorem d_Rings_findDistances_96 : decode jc_Rings_findDistances 96 = .ok (.iload_n 3, 1) := by decide +kernel
theorem d_Rings_findDistances_97 : decode jc_Rings_findDistances 97 = .ok (.iconst (-1), 1) := by decide +kernel
theorem d_Rings_findDistances_98 : decode jc_Rings_findDistances 98 = .ok (.ixor, 1) := by decide +kernel
theorem d_Rings_findDistances_99 : decode jc_Rings_findDistances 99 = .ok (.iand, 1) := by decide +kernel
theorem d_Rings_findDistances_100 : decode jc_Rings_findDistances 100 = .ok (.istore 4, 2) := by decide +kernel
theorem d_Rings_findDistances_102 : decode jc_Rings_findDistances 102 = .ok (.iinc 5 1, 3) := by decide +kernel
theorem d_Rings_findDistances_105 : decode jc_Rings_findDistances 105 = .ok (.goto (-90), 3) := by decide +kernel
theorem d_Rings_findDistances_108 : decode jc_Rings_findDistances 108 = .ok (.return_, 1) := by decide +kernel
theorem d_Rings_findPeriod_0 : decode jc_Rings_findPeriod 0 = .ok (.iconst 0, 1) := by decide +kernel
theorem d_Rings_findPeriod_1 : decode jc_Rings_findPeriod 1 = .ok (.istore_n 3, 1) := by decide +kernel
theorem d_Rings_findPeriod_2 : decode jc_Rings_findPeriod 2 = .ok (.iconst 0, 1) := by decide +kernel
theorem d_Rings_findPeriod_3 : decode jc_Rings_findPeriod 3 = .ok (.istore 4, 2) := by decide +kernel
theorem d_Rings_findPeriod_5 : decode jc_Rings_findPeriod 5 = .ok (.iload 4, 2) := by decide +kernel
theorem d_Rings_findPeriod_7 : decode jc_Rings_findPeriod 7 = .ok (.aload_n 1, 1) := by decide +kernel
theorem d_Rings_findPeriod_8 : decode jc_Rings_findPeriod 8 = .ok (.getfield 75, 3) := by decide +kernel
theorem d_Rings_findPeriod_11 : decode jc_Rings_findPeriod 11 = .ok (.if_icmp .ge 86, 3) := by decide +kernel
theorem d_Rings_findPeriod_14 : decode jc_Rings_findPeriod 14 = .ok (.iconst 0, 1) := by decide +kernel
theorem d_Rings_findPeriod_15 : decode jc_Rings_findPeriod 15 = .ok (.istore 5, 2) := by decide +kernel
theorem d_Rings_findPeriod_17 : decode jc_Rings_findPeriod 17 = .ok (.iload 5, 2) := by decide +kernel
theorem d_Rings_findPeriod_19 : decode jc_Rings_findPeriod 19 = .ok (.aload_n 1, 1) := by decide +kernel
theorem d_Rings_findPeriod_20 : decode jc_Rings_findPeriod 20 = .ok (.getfield 75, 3) := by decide +kernel
theorem d_Rings_findPeriod_23 : decode jc_Rings_findPeriod 23 = .ok (.if_icmp .ge 68, 3) := by decide +kernel
theorem d_Rings_findPeriod_26 : decode jc_Rings_findPeriod 26 = .ok (.aload_n 0, 1) := by decide +kernel
theorem d_Rings_findPeriod_27 : decode jc_Rings_findPeriod 27 = .ok (.getfield 9, 3) := by decide +kernel
theorem d_Rings_findPeriod_30 : decode jc_Rings_findPeriod 30 = .ok (.iload 4, 2) := by decide +kernel
theorem d_Rings_findPeriod_32 : decode jc_Rings_findPeriod 32 = .ok (.iaload, 1) := by decide +kernel
theorem d_Rings_findPeriod_33 : decode jc_Rings_findPeriod 33 = .ok (.iload_n 2, 1) := by decide +kernel
theorem d_Rings_findPeriod_34 : decode jc_Rings_findPeriod 34 = .ok (.if_icmp .ne 51, 3) := by decide +kernel
theorem d_Rings_findPeriod_37 : decode jc_Rings_findPeriod 37 = .ok (.aload_n 0, 1) := by decide +kernel
theorem d_Rings_findPeriod_38 : decode jc_Rings_findPeriod 38 = .ok (.getfield 9, 3) := by decide +kernel
theorem d_Rings_findPeriod_41 : decode jc_Rings_findPeriod 41 = .ok (.iload 5, 2) := by decide +kernel
theorem d_Rings_findPeriod_43 : decode jc_Rings_findPeriod 43 = .ok (.iaload, 1) := by decide +kernel
theorem d_Rings_findPeriod_44 : decode jc_Rings_findPeriod 44 = .ok (.iload_n 2, 1) := by decide +kernel
theorem d_Rings_findPeriod_45 : decode jc_Rings_findPeriod 45 = .ok (.if_icmp .ne 40, 3) := by decide +kernel
theorem d_Rings_findPeriod_48 : decode jc_Rings_findPeriod 48 = .ok (.aload_n 1, 1) := by decide +kernel
theorem d_Rings_findPeriod_49 : decode jc_Rings_findPeriod 49 = .ok (.iload 4, 2) := by decide +kernel
theorem d_Rings_findPeriod_51 : decode jc_Rings_findPeriod 51 = .ok (.iload 5, 2) := by decide +kernel
theorem d_Rings_findPeriod_53 : decode jc_Rings_findPeriod 53 = .ok (.invokevirtual 89, 3) := by decide +kernel
theorem d_Rings_findPeriod_56 : decode jc_Rings_findPeriod 56 = .ok (.iconst 1, 1) := by decide +kernel
theorem d_Rings_findPeriod_57 : decode jc_Rings_findPeriod 57 = .ok (.if_icmp .ne 28, 3) := by decide +kernel
theorem d_Rings_findPeriod_60 : decode jc_Rings_findPeriod 60 = .ok (.aload_n 0, 1) := by decide +kernel
theorem d_Rings_findPeriod_61 : decode jc_Rings_findPeriod 61 = .ok (.getfield 33, 3) := by decide +kernel
theorem d_Rings_findPeriod_64 : decode jc_Rings_findPeriod 64 = .ok (.iload 4, 2) := by decide +kernel
theorem d_Rings_findPeriod_66 : decode jc_Rings_findPeriod 66 = .ok (.iaload, 1) := by decide +kernel
theorem d_Rings_findPeriod_67 : decode jc_Rings_findPeriod 67 = .ok (.iconst 1, 1) := by decide +kernel
theorem d_Rings_findPeriod_68 : decode jc_Rings_findPeriod 68 = .ok (.iadd, 1) := by decide +kernel
theorem d_Rings_findPeriod_69 : decode jc_Rings_findPeriod 69 = .ok (.aload_n 0, 1) := by decide +kernel
theorem d_Rings_findPeriod_70 : decode jc_Rings_findPeriod 70 = .ok (.getfield 33, 3) := by decide +kernel
theorem d_Rings_findPeriod_73 : decode jc_Rings_findPeriod 73 = .ok (.iload 5, 2) := by decide +kernel
theorem d_Rings_findPeriod_75 : decode jc_Rings_findPeriod 75 = .ok (.iaload, 1) := by decide +kernel
theorem d_Rings_findPeriod_76 : decode jc_Rings_findPeriod 76 = .ok (.isub, 1) := by decide +kernel
theorem d_Rings_findPeriod_77 : decode jc_Rings_findPeriod 77 = .ok (.invokestatic 99, 3) := by decide +kernel
theorem d_Rings_findPeriod_80 : decode jc_Rings_findPeriod 80 = .ok (.iload_n 3, 1) := by decide +kernel
theorem d_Rings_findPeriod_81 : decode jc_Rings_findPeriod 81 = .ok (.invokestatic 104, 3) := by decide +kernel
theorem d_Rings_findPeriod_84 : decode jc_Rings_findPeriod 84 = .ok (.istore_n 3, 1) := by decide +kernel
theorem d_Rings_findPeriod_85 : decode jc_Rings_findPeriod 85 = .ok (.iinc 5 1, 3) := by decide +kernel
theorem d_Rings_findPeriod_88 : decode jc_Rings_findPeriod 88 = .ok (.goto (-71), 3) := by decide +kernel
theorem d_Rings_findPeriod_91 : decode jc_Rings_findPeriod 91 = .ok (.iinc 4 1, 3) := by decide +kernel
theorem d_Rings_findPeriod_94 : decode jc_Rings_findPeriod 94 = .ok (.goto (-89), 3) := by decide +kernel
theorem d_Rings_findPeriod_97 : decode jc_Rings_findPeriod 97 = .ok (.aload_n 0, 1) := by decide +kernel
theorem d_Rings_findPeriod_98 : decode jc_Rings_findPeriod 98 = .ok (.getfield 24, 3) := by decide +kernel
theorem d_Rings_findPeriod_101 : decode jc_Rings_findPeriod 101 = .ok (.iload_n 2, 1) := by decide +kernel
theorem d_Rings_findPeriod_102 : decode jc_Rings_findPeriod 102 = .ok (.iload_n 3, 1) := by decide +kernel
theorem d_Rings_findPeriod_103 : decode jc_Rings_findPeriod 103 = .ok (.iastore, 1) := by decide +kernel
theorem d_Rings_findPeriod_104 : decode jc_Rings_findPeriod 104 = .ok (.return_, 1) := by decide +kernel
theorem d_Rings_commonDivisor_0 : decode jc_Rings_commonDivisor 0 = .ok (.iload_n 0, 1) := by decide +kernel
theorem d_Rings_commonDivisor_1 : decode jc_Rings_commonDivisor 1 = .ok (.istore_n 2, 1) := by decide +kernel
theorem d_Rings_commonDivisor_2 : decode jc_Rings_commonDivisor 2 = .ok (.iload_n 1, 1) := by decide +kernel
theorem d_Rings_commonDivisor_3 : decode jc_Rings_commonDivisor 3 = .ok (.istore_n 3, 1) := by decide +kernel
theorem d_Rings_commonDivisor_4 : decode jc_Rings_commonDivisor 4 = .ok (.iconst 0, 1) := by decide +kernel
theorem d_Rings_commonDivisor_5 : decode jc_Rings_commonDivisor 5 = .ok (.istore 4, 2) := by decide +kernel
theorem d_Rings_commonDivisor_7 : decode jc_Rings_commonDivisor 7 = .ok (.iload 4, 2) := by decide +kernel
theorem d_Rings_commonDivisor_9 : decode jc_Rings_commonDivisor 9 = .ok (.bipush 12, 2) := by decide +kernel
theorem d_Rings_commonDivisor_11 : decode jc_Rings_commonDivisor 11 = .ok (.if_icmp .ge 23, 3) := by decide +kernel
theorem d_Rings_commonDivisor_14 : decode jc_Rings_commonDivisor 14 = .ok (.iload_n 3, 1) := by decide +kernel
theorem d_Rings_commonDivisor_15 : decode jc_Rings_commonDivisor 15 = .ok (.ifCond .eq 19, 3) := by decide +kernel
theorem d_Rings_commonDivisor_18 : decode jc_Rings_commonDivisor 18 = .ok (.iload_n 2, 1) := by decide +kernel
theorem d_Rings_commonDivisor_19 : decode jc_Rings_commonDivisor 19 = .ok (.iload_n 3, 1) := by decide +kernel
theorem d_Rings_commonDivisor_20 : decode jc_Rings_commonDivisor 20 = .ok (.irem, 1) := by decide +kernel
theorem d_Rings_commonDivisor_21 : decode jc_Rings_commonDivisor 21 = .ok (.istore 5, 2) := by decide +kernel
theorem d_Rings_commonDivisor_23 : decode jc_Rings_commonDivisor 23 = .ok (.iload_n 3, 1) := by decide +kernel
theorem d_Rings_commonDivisor_24 : decode jc_Rings_commonDivisor 24 = .ok (.istore_n 2, 1) := by decide +kernel
theorem d_Rings_commonDivisor_25 : decode jc_Rings_commonDivisor 25 = .ok (.iload 5, 2) := by decide +kernel
theorem d_Rings_commonDivisor_27 : decode jc_Rings_commonDivisor 27 = .ok (.istore_n 3, 1) := by decide +kernel
theorem d_Rings_commonDivisor_28 : decode jc_Rings_commonDivisor 28 = .ok (.iinc 4 1, 3) := by decide +kernel
theorem d_Rings_commonDivisor_31 : decode jc_Rings_commonDivisor 31 = .ok (.goto (-24), 3) := by decide +kernel
theorem d_Rings_commonDivisor_34 : decode jc_Rings_commonDivisor 34 = .ok (.iload_n 2, 1) := by decide +kernel
theorem d_Rings_commonDivisor_35 : decode jc_Rings_commonDivisor 35 = .ok (.ireturn, 1) := by decide +kernel
theorem d_Rings_findBelow_0 : decode jc_Rings_findBelow 0 = .ok (.iconst 0, 1) := by decide +kernel
theorem d_Rings_findBelow_1 : decode jc_Rings_findBelow 1 = .ok (.istore_n 2, 1) := by decide +kernel
theorem d_Rings_findBelow_2 : decode jc_Rings_findBelow 2 = .ok (.iconst 0, 1) := by decide +kernel
theorem d_Rings_findBelow_3 : decode jc_Rings_findBelow 3 = .ok (.istore_n 3, 1) := by decide +kernel
theorem d_Rings_findBelow_4 : decode jc_Rings_findBelow 4 = .ok (.iload_n 3, 1) := by decide +kernel
theorem d_Rings_findBelow_5 : decode jc_Rings_findBelow 5 = .ok (.aload_n 0, 1) := by decide +kernel
theorem d_Rings_findBelow_6 : decode jc_Rings_findBelow 6 = .ok (.getfield 54, 3) := by decide +kernel
theorem d_Rings_findBelow_9 : decode jc_Rings_findBelow 9 = .ok (.if_icmp .ge 43, 3) := by decide +kernel
theorem d_Rings_findBelow_12 : decode jc_Rings_findBelow 12 = .ok (.iload_n 3, 1) := by decide +kernel
theorem d_Rings_findBelow_13 : decode jc_Rings_findBelow 13 = .ok (.iload_n 1, 1) := by decide +kernel
theorem d_Rings_findBelow_14 : decode jc_Rings_findBelow 14 = .ok (.if_icmp .eq 32, 3) := by decide +kernel
theorem d_Rings_findBelow_17 : decode jc_Rings_findBelow 17 = .ok (.aload_n 0, 1) := by decide +kernel
theorem d_Rings_findBelow_18 : decode jc_Rings_findBelow 18 = .ok (.getfield 37, 3) := by decide +kernel
theorem d_Rings_findBelow_21 : decode jc_Rings_findBelow 21 = .ok (.aload_n 0, 1) := by decide +kernel
theorem d_Rings_findBelow_22 : decode jc_Rings_findBelow 22 = .ok (.getfield 18, 3) := by decide +kernel
theorem d_Rings_findBelow_25 : decode jc_Rings_findBelow 25 = .ok (.iload_n 1, 1) := by decide +kernel
theorem d_Rings_findBelow_26 : decode jc_Rings_findBelow 26 = .ok (.iaload, 1) := by decide +kernel
theorem d_Rings_findBelow_27 : decode jc_Rings_findBelow 27 = .ok (.aload_n 0, 1) := by decide +kernel
theorem d_Rings_findBelow_28 : decode jc_Rings_findBelow 28 = .ok (.getfield 18, 3) := by decide +kernel
theorem d_Rings_findBelow_31 : decode jc_Rings_findBelow 31 = .ok (.iload_n 3, 1) := by decide +kernel
theorem d_Rings_findBelow_32 : decode jc_Rings_findBelow 32 = .ok (.iaload, 1) := by decide +kernel
theorem d_Rings_findBelow_33 : decode jc_Rings_findBelow 33 = .ok (.invokevirtual 89, 3) := by decide +kernel
theorem d_Rings_findBelow_36 : decode jc_Rings_findBelow 36 = .ok (.iconst 1, 1) := by decide +kernel
theorem d_Rings_findBelow_37 : decode jc_Rings_findBelow 37 = .ok (.if_icmp .ne 9, 3) := by decide +kernel
theorem d_Rings_findBelow_40 : decode jc_Rings_findBelow 40 = .ok (.iload_n 2, 1) := by decide +kernel
theorem d_Rings_findBelow_41 : decode jc_Rings_findBelow 41 = .ok (.iconst 1, 1) := by decide +kernel
theorem d_Rings_findBelow_42 : decode jc_Rings_findBelow 42 = .ok (.iload_n 3, 1) := by decide +kernel
theorem d_Rings_findBelow_43 : decode jc_Rings_findBelow 43 = .ok (.ishl, 1) := by decide +kernel
theorem d_Rings_findBelow_44 : decode jc_Rings_findBelow 44 = .ok (.ior, 1) := by decide +kernel
theorem d_Rings_findBelow_45 : decode jc_Rings_findBelow 45 = .ok (.istore_n 2, 1) := by decide +kernel
theorem d_Rings_findBelow_46 : decode jc_Rings_findBelow 46 = .ok (.iinc 3 1, 3) := by decide +kernel
theorem d_Rings_findBelow_49 : decode jc_Rings_findBelow 49 = .ok (.goto (-45), 3) := by decide +kernel
theorem d_Rings_findBelow_52 : decode jc_Rings_findBelow 52 = .ok (.aload_n 0, 1) := by decide +kernel
theorem d_Rings_findBelow_53 : decode jc_Rings_findBelow 53 = .ok (.getfield 30, 3) := by decide +kernel
theorem d_Rings_findBelow_56 : decode jc_Rings_findBelow 56 = .ok (.iload_n 1, 1) := by decide +kernel
theorem d_Rings_findBelow_57 : decode jc_Rings_findBelow 57 = .ok (.iload_n 2, 1) := by decide +kernel
theorem d_Rings_findBelow_58 : decode jc_Rings_findBelow 58 = .ok (.iastore, 1) := by decide +kernel
theorem d_Rings_findBelow_59 : decode jc_Rings_findBelow 59 = .ok (.return_, 1) := by decide +kernel
theorem d_Roots_countOf_0 : decode jc_Roots_countOf 0 = .ok (.iload_n 0, 1) := by decide +kernel
theorem d_Roots_countOf_1 : decode jc_Roots_countOf 1 = .ok (.iload_n 1, 1) := by decide +kernel
theorem d_Roots_countOf_2 : decode jc_Roots_countOf 2 = .ok (.iload_n 2, 1) := by decide +kernel
theorem d_Roots_countOf_3 : decode jc_Roots_countOf 3 = .ok (.iconst 0, 1) := by decide +kernel
theorem d_Roots_countOf_4 : decode jc_Roots_countOf 4 = .ok (.iload_n 0, 1) := by decide +kernel
theorem d_Roots_countOf_5 : decode jc_Roots_countOf 5 = .ok (.iload_n 0, 1) := by decide +kernel
theorem d_Roots_countOf_6 : decode jc_Roots_countOf 6 = .ok (.imul, 1) := by decide +kernel
theorem d_Roots_countOf_7 : decode jc_Roots_countOf 7 = .ok (.invokestatic 7, 3) := by decide +kernel
theorem d_Roots_countOf_10 : decode jc_Roots_countOf 10 = .ok (.ireturn, 1) := by decide +kernel
theorem d_Roots_leastOf_0 : decode jc_Roots_leastOf 0 = .ok (.iload_n 0, 1) := by decide +kernel
theorem d_Roots_leastOf_1 : decode jc_Roots_leastOf 1 = .ok (.iload_n 1, 1) := by decide +kernel
theorem d_Roots_leastOf_2 : decode jc_Roots_leastOf 2 = .ok (.iload_n 2, 1) := by decide +kernel
theorem d_Roots_leastOf_3 : decode jc_Roots_leastOf 3 = .ok (.iconst 0, 1) := by decide +kernel
theorem d_Roots_leastOf_4 : decode jc_Roots_leastOf 4 = .ok (.iload_n 0, 1) := by decide +kernel
theorem d_Roots_leastOf_5 : decode jc_Roots_leastOf 5 = .ok (.iload_n 0, 1) := by decide +kernel
theorem d_Roots_leastOf_6 : decode jc_Roots_leastOf 6 = .ok (.imul, 1) := by decide +kernel
theorem d_Roots_leastOf_7 : decode jc_Roots_leastOf 7 = .ok (.invokestatic 13, 3) := by decide +kernel
theorem d_Roots_leastOf_10 : decode jc_Roots_leastOf 10 = .ok (.ireturn, 1) := by decide +kernel
theorem d_Roots_countBelow_0 : decode jc_Roots_countBelow 0 = .ok (.iload_n 0, 1) := by decide +kernel
theorem d_Roots_countBelow_1 : decode jc_Roots_countBelow 1 = .ok (.iload_n 1, 1) := by decide +kernel
theorem d_Roots_countBelow_2 : decode jc_Roots_countBelow 2 = .ok (.iload_n 3, 1) := by decide +kernel
theorem d_Roots_countBelow_3 : decode jc_Roots_countBelow 3 = .ok (.invokestatic 16, 3) := by decide +kernel
theorem d_Roots_countBelow_6 : decode jc_Roots_countBelow 6 = .ok (.istore 5, 2) := by decide +kernel
theorem d_Roots_countBelow_8 : decode jc_Roots_countBelow 8 = .ok (.iload_n 0, 1) := by decide +kernel
theorem d_Roots_countBelow_9 : decode jc_Roots_countBelow 9 = .ok (.iload_n 1, 1) := by decide +kernel
theorem d_Roots_countBelow_10 : decode jc_Roots_countBelow 10 = .ok (.iload_n 3, 1) := by decide +kernel
theorem d_Roots_countBelow_11 : decode jc_Roots_countBelow 11 = .ok (.iconst 1, 1) := by decide +kernel
theorem d_Roots_countBelow_12 : decode jc_Roots_countBelow 12 = .ok (.iload 4, 2) := by decide +kernel
theorem d_Roots_countBelow_14 : decode jc_Roots_countBelow 14 = .ok (.ishl, 1) := by decide +kernel
theorem d_Roots_countBelow_15 : decode jc_Roots_countBelow 15 = .ok (.iconst 1, 1) := by decide +kernel
theorem d_Roots_countBelow_16 : decode jc_Roots_countBelow 16 = .ok (.isub, 1) := by decide +kernel
theorem d_Roots_countBelow_17 : decode jc_Roots_countBelow 17 = .ok (.ior, 1) := by decide +kernel
theorem d_Roots_countBelow_18 : decode jc_Roots_countBelow 18 = .ok (.invokestatic 16, 3) := by decide +kernel
theorem d_Roots_countBelow_21 : decode jc_Roots_countBelow 21 = .ok (.istore 6, 2) := by decide +kernel
theorem d_Roots_countBelow_23 : decode jc_Roots_countBelow 23 = .ok (.iload 5, 2) := by decide +kernel
theorem d_Roots_countBelow_25 : decode jc_Roots_countBelow 25 = .ok (.iload_n 2, 1) := by decide +kernel
theorem d_Roots_countBelow_26 : decode jc_Roots_countBelow 26 = .ok (.iconst (-1), 1) := by decide +kernel
theorem d_Roots_countBelow_27 : decode jc_Roots_countBelow 27 = .ok (.ixor, 1) := by decide +kernel
theorem d_Roots_countBelow_28 : decode jc_Roots_countBelow 28 = .ok (.iand, 1) := by decide +kernel
theorem d_Roots_countBelow_29 : decode jc_Roots_countBelow 29 = .ok (.ifCond .ne 12, 3) := by decide +kernel
theorem d_Roots_countBelow_32 : decode jc_Roots_countBelow 32 = .ok (.iload_n 2, 1) := by decide +kernel
theorem d_Roots_countBelow_33 : decode jc_Roots_countBelow 33 = .ok (.iload 6, 2) := by decide +kernel
theorem d_Roots_countBelow_35 : decode jc_Roots_countBelow 35 = .ok (.iconst (-1), 1) := by decide +kernel
theorem d_Roots_countBelow_36 : decode jc_Roots_countBelow 36 = .ok (.ixor, 1) := by decide +kernel
theorem d_Roots_countBelow_37 : decode jc_Roots_countBelow 37 = .ok (.iand, 1) := by decide +kernel
theorem d_Roots_countBelow_38 : decode jc_Roots_countBelow 38 = .ok (.ifCond .eq 5, 3) := by decide +kernel
theorem d_Roots_countBelow_41 : decode jc_Roots_countBelow 41 = .ok (.iconst 0, 1) := by decide +kernel
theorem d_Roots_countBelow_42 : decode jc_Roots_countBelow 42 = .ok (.ireturn, 1) := by decide +kernel
theorem d_Roots_countBelow_43 : decode jc_Roots_countBelow 43 = .ok (.iload 5, 2) := by decide +kernel
theorem d_Roots_countBelow_45 : decode jc_Roots_countBelow 45 = .ok (.iload 6, 2) := by decide +kernel
theorem d_Roots_countBelow_47 : decode jc_Roots_countBelow 47 = .ok (.if_icmp .eq 8, 3) := by decide +kernel
theorem d_Roots_countBelow_50 : decode jc_Roots_countBelow 50 = .ok (.iload 4, 2) := by decide +kernel
theorem d_Roots_countBelow_52 : decode jc_Roots_countBelow 52 = .ok (.ifCond .gt 8, 3) := by decide +kernel
theorem d_Roots_countBelow_55 : decode jc_Roots_countBelow 55 = .ok (.iconst 1, 1) := by decide +kernel
theorem d_Roots_countBelow_56 : decode jc_Roots_countBelow 56 = .ok (.iload 4, 2) := by decide +kernel
theorem d_Roots_countBelow_58 : decode jc_Roots_countBelow 58 = .ok (.ishl, 1) := by decide +kernel
theorem d_Roots_countBelow_59 : decode jc_Roots_countBelow 59 = .ok (.ireturn, 1) := by decide +kernel
theorem d_Roots_countBelow_60 : decode jc_Roots_countBelow 60 = .ok (.iload_n 0, 1) := by decide +kernel
theorem d_Roots_countBelow_61 : decode jc_Roots_countBelow 61 = .ok (.iload_n 1, 1) := by decide +kernel
theorem d_Roots_countBelow_62 : decode jc_Roots_countBelow 62 = .ok (.iload_n 2, 1) := by decide +kernel
theorem d_Roots_countBelow_63 : decode jc_Roots_countBelow 63 = .ok (.iload_n 3, 1) := by decide +kernel
theorem d_Roots_countBelow_64 : decode jc_Roots_countBelow 64 = .ok (.iload 4, 2) := by decide +kernel
theorem d_Roots_countBelow_66 : decode jc_Roots_countBelow 66 = .ok (.iconst 1, 1) := by decide +kernel
theorem d_Roots_countBelow_67 : decode jc_Roots_countBelow 67 = .ok (.isub, 1) := by decide +kernel
theorem d_Roots_countBelow_68 : decode jc_Roots_countBelow 68 = .ok (.invokestatic 7, 3) := by decide +kernel
theorem d_Roots_countBelow_71 : decode jc_Roots_countBelow 71 = .ok (.iload_n 0, 1) := by decide +kernel
theorem d_Roots_countBelow_72 : decode jc_Roots_countBelow 72 = .ok (.iload_n 1, 1) := by decide +kernel
theorem d_Roots_countBelow_73 : decode jc_Roots_countBelow 73 = .ok (.iload_n 2, 1) := by decide +kernel
theorem d_Roots_countBelow_74 : decode jc_Roots_countBelow 74 = .ok (.iload_n 3, 1) := by decide +kernel
theorem d_Roots_countBelow_75 : decode jc_Roots_countBelow 75 = .ok (.iconst 1, 1) := by decide +kernel
theorem d_Roots_countBelow_76 : decode jc_Roots_countBelow 76 = .ok (.iload 4, 2) := by decide +kernel
theorem d_Roots_countBelow_78 : decode jc_Roots_countBelow 78 = .ok (.iconst 1, 1) := by decide +kernel
theorem d_Roots_countBelow_79 : decode jc_Roots_countBelow 79 = .ok (.isub, 1) := by decide +kernel
theorem d_Roots_countBelow_80 : decode jc_Roots_countBelow 80 = .ok (.ishl, 1) := by decide +kernel
theorem d_Roots_countBelow_81 : decode jc_Roots_countBelow 81 = .ok (.ior, 1) := by decide +kernel
theorem d_Roots_countBelow_82 : decode jc_Roots_countBelow 82 = .ok (.iload 4, 2) := by decide +kernel
theorem d_Roots_countBelow_84 : decode jc_Roots_countBelow 84 = .ok (.iconst 1, 1) := by decide +kernel
theorem d_Roots_countBelow_85 : decode jc_Roots_countBelow 85 = .ok (.isub, 1) := by decide +kernel
theorem d_Roots_countBelow_86 : decode jc_Roots_countBelow 86 = .ok (.invokestatic 7, 3) := by decide +kernel
theorem d_Roots_countBelow_89 : decode jc_Roots_countBelow 89 = .ok (.iadd, 1) := by decide +kernel
theorem d_Roots_countBelow_90 : decode jc_Roots_countBelow 90 = .ok (.ireturn, 1) := by decide +kernel
theorem d_Roots_leastBelow_0 : decode jc_Roots_leastBelow 0 = .ok (.iload_n 0, 1) := by decide +kernel
theorem d_Roots_leastBelow_1 : decode jc_Roots_leastBelow 1 = .ok (.iload_n 1, 1) := by decide +kernel
theorem d_Roots_leastBelow_2 : decode jc_Roots_leastBelow 2 = .ok (.iload_n 3, 1) := by decide +kernel
theorem d_Roots_leastBelow_3 : decode jc_Roots_leastBelow 3 = .ok (.invokestatic 16, 3) := by decide +kernel
theorem d_Roots_leastBelow_6 : decode jc_Roots_leastBelow 6 = .ok (.istore 5, 2) := by decide +kernel
theorem d_Roots_leastBelow_8 : decode jc_Roots_leastBelow 8 = .ok (.iload_n 0, 1) := by decide +kernel
theorem d_Roots_leastBelow_9 : decode jc_Roots_leastBelow 9 = .ok (.iload_n 1, 1) := by decide +kernel
theorem d_Roots_leastBelow_10 : decode jc_Roots_leastBelow 10 = .ok (.iload_n 3, 1) := by decide +kernel
theorem d_Roots_leastBelow_11 : decode jc_Roots_leastBelow 11 = .ok (.iconst 1, 1) := by decide +kernel
theorem d_Roots_leastBelow_12 : decode jc_Roots_leastBelow 12 = .ok (.iload 4, 2) := by decide +kernel
theorem d_Roots_leastBelow_14 : decode jc_Roots_leastBelow 14 = .ok (.ishl, 1) := by decide +kernel
theorem d_Roots_leastBelow_15 : decode jc_Roots_leastBelow 15 = .ok (.iconst 1, 1) := by decide +kernel
theorem d_Roots_leastBelow_16 : decode jc_Roots_leastBelow 16 = .ok (.isub, 1) := by decide +kernel
theorem d_Roots_leastBelow_17 : decode jc_Roots_leastBelow 17 = .ok (.ior, 1) := by decide +kernel
theorem d_Roots_leastBelow_18 : decode jc_Roots_leastBelow 18 = .ok (.invokestatic 16, 3) := by decide +kernel
theorem d_Roots_leastBelow_21 : decode jc_Roots_leastBelow 21 = .ok (.istore 6, 2) := by decide +kernel
theorem d_Roots_leastBelow_23 : decode jc_Roots_leastBelow 23 = .ok (.iload 5, 2) := by decide +kernel
theorem d_Roots_leastBelow_25 : decode jc_Roots_leastBelow 25 = .ok (.iload_n 2, 1) := by decide +kernel
theorem d_Roots_leastBelow_26 : decode jc_Roots_leastBelow 26 = .ok (.iconst (-1), 1) := by decide +kernel
theorem d_Roots_leastBelow_27 : decode jc_Roots_leastBelow 27 = .ok (.ixor, 1) := by decide +kernel
theorem d_Roots_leastBelow_28 : decode jc_Roots_leastBelow 28 = .ok (.iand, 1) := by decide +kernel
theorem d_Roots_leastBelow_29 : decode jc_Roots_leastBelow 29 = .ok (.ifCond .ne 12, 3) := by decide +kernel
theorem d_Roots_leastBelow_32 : decode jc_Roots_leastBelow 32 = .ok (.iload_n 2, 1) := by decide +kernel
theorem d_Roots_leastBelow_33 : decode jc_Roots_leastBelow 33 = .ok (.iload 6, 2) := by decide +kernel
theorem d_Roots_leastBelow_35 : decode jc_Roots_leastBelow 35 = .ok (.iconst (-1), 1) := by decide +kernel
theorem d_Roots_leastBelow_36 : decode jc_Roots_leastBelow 36 = .ok (.ixor, 1) := by decide +kernel
theorem d_Roots_leastBelow_37 : decode jc_Roots_leastBelow 37 = .ok (.iand, 1) := by decide +kernel
theorem d_Roots_leastBelow_38 : decode jc_Roots_leastBelow 38 = .ok (.ifCond .eq 5, 3) := by decide +kernel
theorem d_Roots_leastBelow_41 : decode jc_Roots_leastBelow 41 = .ok (.iconst (-1), 1) := by decide +kernel
theorem d_Roots_leastBelow_42 : decode jc_Roots_leastBelow 42 = .ok (.ireturn, 1) := by decide +kernel
theorem d_Roots_leastBelow_43 : decode jc_Roots_leastBelow 43 = .ok (.iload 5, 2) := by decide +kernel
theorem d_Roots_leastBelow_45 : decode jc_Roots_leastBelow 45 = .ok (.iload_n 2, 1) := by decide +kernel
theorem d_Roots_leastBelow_46 : decode jc_Roots_leastBelow 46 = .ok (.if_icmp .eq 8, 3) := by decide +kernel
theorem d_Roots_leastBelow_49 : decode jc_Roots_leastBelow 49 = .ok (.iload 4, 2) := by decide +kernel
theorem d_Roots_leastBelow_51 : decode jc_Roots_leastBelow 51 = .ok (.ifCond .gt 5, 3) := by decide +kernel
theorem d_Roots_leastBelow_54 : decode jc_Roots_leastBelow 54 = .ok (.iload_n 3, 1) := by decide +kernel
theorem d_Roots_leastBelow_55 : decode jc_Roots_leastBelow 55 = .ok (.ireturn, 1) := by decide +kernel
theorem d_Roots_leastBelow_56 : decode jc_Roots_leastBelow 56 = .ok (.iload_n 0, 1) := by decide +kernel
theorem d_Roots_leastBelow_57 : decode jc_Roots_leastBelow 57 = .ok (.iload_n 1, 1) := by decide +kernel
theorem d_Roots_leastBelow_58 : decode jc_Roots_leastBelow 58 = .ok (.iload_n 2, 1) := by decide +kernel
theorem d_Roots_leastBelow_59 : decode jc_Roots_leastBelow 59 = .ok (.iload_n 3, 1) := by decide +kernel
theorem d_Roots_leastBelow_60 : decode jc_Roots_leastBelow 60 = .ok (.iload 4, 2) := by decide +kernel
theorem d_Roots_leastBelow_62 : decode jc_Roots_leastBelow 62 = .ok (.iconst 1, 1) := by decide +kernel
theorem d_Roots_leastBelow_63 : decode jc_Roots_leastBelow 63 = .ok (.isub, 1) := by decide +kernel
theorem d_Roots_leastBelow_64 : decode jc_Roots_leastBelow 64 = .ok (.invokestatic 13, 3) := by decide +kernel
theorem d_Roots_leastBelow_67 : decode jc_Roots_leastBelow 67 = .ok (.istore 7, 2) := by decide +kernel
theorem d_Roots_leastBelow_69 : decode jc_Roots_leastBelow 69 = .ok (.iload 7, 2) := by decide +kernel
theorem d_Roots_leastBelow_71 : decode jc_Roots_leastBelow 71 = .ok (.ifCond .lt 8, 3) := by decide +kernel
theorem d_Roots_leastBelow_74 : decode jc_Roots_leastBelow 74 = .ok (.iload 7, 2) := by decide +kernel
theorem d_Roots_leastBelow_76 : decode jc_Roots_leastBelow 76 = .ok (.goto 21, 3) := by decide +kernel
theorem d_Roots_leastBelow_79 : decode jc_Roots_leastBelow 79 = .ok (.iload_n 0, 1) := by decide +kernel
theorem d_Roots_leastBelow_80 : decode jc_Roots_leastBelow 80 = .ok (.iload_n 1, 1) := by decide +kernel
theorem d_Roots_leastBelow_81 : decode jc_Roots_leastBelow 81 = .ok (.iload_n 2, 1) := by decide +kernel
theorem d_Roots_leastBelow_82 : decode jc_Roots_leastBelow 82 = .ok (.iload_n 3, 1) := by decide +kernel
theorem d_Roots_leastBelow_83 : decode jc_Roots_leastBelow 83 = .ok (.iconst 1, 1) := by decide +kernel
theorem d_Roots_leastBelow_84 : decode jc_Roots_leastBelow 84 = .ok (.iload 4, 2) := by decide +kernel
theorem d_Roots_leastBelow_86 : decode jc_Roots_leastBelow 86 = .ok (.iconst 1, 1) := by decide +kernel
theorem d_Roots_leastBelow_87 : decode jc_Roots_leastBelow 87 = .ok (.isub, 1) := by decide +kernel
theorem d_Roots_leastBelow_88 : decode jc_Roots_leastBelow 88 = .ok (.ishl, 1) := by decide +kernel
theorem d_Roots_leastBelow_89 : decode jc_Roots_leastBelow 89 = .ok (.ior, 1) := by decide +kernel
theorem d_Roots_leastBelow_90 : decode jc_Roots_leastBelow 90 = .ok (.iload 4, 2) := by decide +kernel
theorem d_Roots_leastBelow_92 : decode jc_Roots_leastBelow 92 = .ok (.iconst 1, 1) := by decide +kernel
theorem d_Roots_leastBelow_93 : decode jc_Roots_leastBelow 93 = .ok (.isub, 1) := by decide +kernel
theorem d_Roots_leastBelow_94 : decode jc_Roots_leastBelow 94 = .ok (.invokestatic 13, 3) := by decide +kernel
theorem d_Roots_leastBelow_97 : decode jc_Roots_leastBelow 97 = .ok (.ireturn, 1) := by decide +kernel
theorem d_Roots_raised_0 : decode jc_Roots_raised 0 = .ok (.iload_n 2, 1) := by decide +kernel
theorem d_Roots_raised_1 : decode jc_Roots_raised 1 = .ok (.istore_n 3, 1) := by decide +kernel
theorem d_Roots_raised_2 : decode jc_Roots_raised 2 = .ok (.iload_n 1, 1) := by decide +kernel
theorem d_Roots_raised_3 : decode jc_Roots_raised 3 = .ok (.iconst 4, 1) := by decide +kernel
theorem d_Roots_raised_4 : decode jc_Roots_raised 4 = .ok (.if_icmp .ge 7, 3) := by decide +kernel
theorem d_Roots_raised_7 : decode jc_Roots_raised 7 = .ok (.iconst 0, 1) := by decide +kernel
theorem d_Roots_raised_8 : decode jc_Roots_raised 8 = .ok (.goto 14, 3) := by decide +kernel
theorem d_Roots_raised_11 : decode jc_Roots_raised 11 = .ok (.iload_n 1, 1) := by decide +kernel
theorem d_Roots_raised_12 : decode jc_Roots_raised 12 = .ok (.bipush 8, 2) := by decide +kernel
theorem d_Roots_raised_14 : decode jc_Roots_raised 14 = .ok (.if_icmp .ge 7, 3) := by decide +kernel
theorem d_Roots_raised_17 : decode jc_Roots_raised 17 = .ok (.iconst 1, 1) := by decide +kernel
theorem d_Roots_raised_18 : decode jc_Roots_raised 18 = .ok (.goto 4, 3) := by decide +kernel
theorem d_Roots_raised_21 : decode jc_Roots_raised 21 = .ok (.iconst 2, 1) := by decide +kernel
theorem d_Roots_raised_22 : decode jc_Roots_raised 22 = .ok (.istore 4, 2) := by decide +kernel
theorem d_Roots_raised_24 : decode jc_Roots_raised 24 = .ok (.iload 4, 2) := by decide +kernel
theorem d_Roots_raised_26 : decode jc_Roots_raised 26 = .ok (.ifCond .lt 33, 3) := by decide +kernel
theorem d_Roots_raised_29 : decode jc_Roots_raised 29 = .ok (.iload_n 0, 1) := by decide +kernel
theorem d_Roots_raised_30 : decode jc_Roots_raised 30 = .ok (.iload_n 3, 1) := by decide +kernel
theorem d_Roots_raised_31 : decode jc_Roots_raised 31 = .ok (.iload_n 3, 1) := by decide +kernel
theorem d_Roots_raised_32 : decode jc_Roots_raised 32 = .ok (.invokestatic 20, 3) := by decide +kernel
theorem d_Roots_raised_35 : decode jc_Roots_raised 35 = .ok (.istore_n 3, 1) := by decide +kernel
theorem d_Roots_raised_36 : decode jc_Roots_raised 36 = .ok (.iload_n 1, 1) := by decide +kernel
theorem d_Roots_raised_37 : decode jc_Roots_raised 37 = .ok (.iload 4, 2) := by decide +kernel
theorem d_Roots_raised_39 : decode jc_Roots_raised 39 = .ok (.ishr, 1) := by decide +kernel
theorem d_Roots_raised_40 : decode jc_Roots_raised 40 = .ok (.iconst 1, 1) := by decide +kernel
theorem d_Roots_raised_41 : decode jc_Roots_raised 41 = .ok (.iand, 1) := by decide +kernel
theorem d_Roots_raised_42 : decode jc_Roots_raised 42 = .ok (.iconst 1, 1) := by decide +kernel
theorem d_Roots_raised_43 : decode jc_Roots_raised 43 = .ok (.if_icmp .ne 10, 3) := by decide +kernel
theorem d_Roots_raised_46 : decode jc_Roots_raised 46 = .ok (.iload_n 0, 1) := by decide +kernel
theorem d_Roots_raised_47 : decode jc_Roots_raised 47 = .ok (.iload_n 3, 1) := by decide +kernel
theorem d_Roots_raised_48 : decode jc_Roots_raised 48 = .ok (.iload_n 2, 1) := by decide +kernel
theorem d_Roots_raised_49 : decode jc_Roots_raised 49 = .ok (.invokestatic 20, 3) := by decide +kernel
theorem d_Roots_raised_52 : decode jc_Roots_raised 52 = .ok (.istore_n 3, 1) := by decide +kernel
theorem d_Roots_raised_53 : decode jc_Roots_raised 53 = .ok (.iinc 4 (-1), 3) := by decide +kernel
theorem d_Roots_raised_56 : decode jc_Roots_raised 56 = .ok (.goto (-32), 3) := by decide +kernel
theorem d_Roots_raised_59 : decode jc_Roots_raised 59 = .ok (.iload_n 3, 1) := by decide +kernel
theorem d_Roots_raised_60 : decode jc_Roots_raised 60 = .ok (.ireturn, 1) := by decide +kernel
theorem d_Roots_product_0 : decode jc_Roots_product 0 = .ok (.iconst 1, 1) := by decide +kernel
theorem d_Roots_product_1 : decode jc_Roots_product 1 = .ok (.iload_n 0, 1) := by decide +kernel
theorem d_Roots_product_2 : decode jc_Roots_product 2 = .ok (.ishl, 1) := by decide +kernel
theorem d_Roots_product_3 : decode jc_Roots_product 3 = .ok (.iconst 1, 1) := by decide +kernel
theorem d_Roots_product_4 : decode jc_Roots_product 4 = .ok (.isub, 1) := by decide +kernel
theorem d_Roots_product_5 : decode jc_Roots_product 5 = .ok (.istore_n 3, 1) := by decide +kernel
theorem d_Roots_product_6 : decode jc_Roots_product 6 = .ok (.iconst 0, 1) := by decide +kernel
theorem d_Roots_product_7 : decode jc_Roots_product 7 = .ok (.istore 4, 2) := by decide +kernel
theorem d_Roots_product_9 : decode jc_Roots_product 9 = .ok (.iconst 0, 1) := by decide +kernel
theorem d_Roots_product_10 : decode jc_Roots_product 10 = .ok (.istore 5, 2) := by decide +kernel
theorem d_Roots_product_12 : decode jc_Roots_product 12 = .ok (.iload 5, 2) := by decide +kernel
theorem d_Roots_product_14 : decode jc_Roots_product 14 = .ok (.iload_n 0, 1) := by decide +kernel
theorem d_Roots_product_15 : decode jc_Roots_product 15 = .ok (.if_icmp .ge 33, 3) := by decide +kernel
theorem d_Roots_product_18 : decode jc_Roots_product 18 = .ok (.iload 4, 2) := by decide +kernel
theorem d_Roots_product_20 : decode jc_Roots_product 20 = .ok (.iload_n 1, 1) := by decide +kernel
theorem d_Roots_product_21 : decode jc_Roots_product 21 = .ok (.iload 5, 2) := by decide +kernel
theorem d_Roots_product_23 : decode jc_Roots_product 23 = .ok (.ishr, 1) := by decide +kernel
theorem d_Roots_product_24 : decode jc_Roots_product 24 = .ok (.getstatic 23, 3) := by decide +kernel
theorem d_Roots_product_27 : decode jc_Roots_product 27 = .ok (.iload_n 0, 1) := by decide +kernel
theorem d_Roots_product_28 : decode jc_Roots_product 28 = .ok (.iaload, 1) := by decide +kernel
theorem d_Roots_product_29 : decode jc_Roots_product 29 = .ok (.iand, 1) := by decide +kernel
theorem d_Roots_product_30 : decode jc_Roots_product 30 = .ok (.iload_n 2, 1) := by decide +kernel
theorem d_Roots_product_31 : decode jc_Roots_product 31 = .ok (.iload_n 0, 1) := by decide +kernel
theorem d_Roots_product_32 : decode jc_Roots_product 32 = .ok (.iload 5, 2) := by decide +kernel
theorem d_Roots_product_34 : decode jc_Roots_product 34 = .ok (.imul, 1) := by decide +kernel
theorem d_Roots_product_35 : decode jc_Roots_product 35 = .ok (.ishr, 1) := by decide +kernel
theorem d_Roots_product_36 : decode jc_Roots_product 36 = .ok (.iload_n 3, 1) := by decide +kernel
theorem d_Roots_product_37 : decode jc_Roots_product 37 = .ok (.iand, 1) := by decide +kernel
theorem d_Roots_product_38 : decode jc_Roots_product 38 = .ok (.imul, 1) := by decide +kernel
theorem d_Roots_product_39 : decode jc_Roots_product 39 = .ok (.ior, 1) := by decide +kernel
theorem d_Roots_product_40 : decode jc_Roots_product 40 = .ok (.istore 4, 2) := by decide +kernel
theorem d_Roots_product_42 : decode jc_Roots_product 42 = .ok (.iinc 5 1, 3) := by decide +kernel
theorem d_Roots_product_45 : decode jc_Roots_product 45 = .ok (.goto (-33), 3) := by decide +kernel
theorem d_Roots_product_48 : decode jc_Roots_product 48 = .ok (.iload 4, 2) := by decide +kernel
theorem d_Roots_product_50 : decode jc_Roots_product 50 = .ok (.ireturn, 1) := by decide +kernel
theorem d_Sheet_isMissing_0 : decode jc_Sheet_isMissing 0 = .ok (.aload_n 0, 1) := by decide +kernel
theorem d_Sheet_isMissing_1 : decode jc_Sheet_isMissing 1 = .ok (.getfield 7, 3) := by decide +kernel
theorem d_Sheet_isMissing_4 : decode jc_Sheet_isMissing 4 = .ok (.iconst (-1), 1) := by decide +kernel
theorem d_Sheet_isMissing_5 : decode jc_Sheet_isMissing 5 = .ok (.if_icmp .ne 7, 3) := by decide +kernel
theorem d_Sheet_isMissing_8 : decode jc_Sheet_isMissing 8 = .ok (.iconst 1, 1) := by decide +kernel
theorem d_Sheet_isMissing_9 : decode jc_Sheet_isMissing 9 = .ok (.goto 4, 3) := by decide +kernel
theorem d_Sheet_isMissing_12 : decode jc_Sheet_isMissing 12 = .ok (.iconst 0, 1) := by decide +kernel
theorem d_Sheet_isMissing_13 : decode jc_Sheet_isMissing 13 = .ok (.ireturn, 1) := by decide +kernel
theorem d_Sheet_begin_0 : decode jc_Sheet_begin 0 = .ok (.aload_n 0, 1) := by decide +kernel
theorem d_Sheet_begin_1 : decode jc_Sheet_begin 1 = .ok (.iload_n 1, 1) := by decide +kernel
theorem d_Sheet_begin_2 : decode jc_Sheet_begin 2 = .ok (.putfield 7, 3) := by decide +kernel
theorem d_Sheet_begin_5 : decode jc_Sheet_begin 5 = .ok (.aload_n 0, 1) := by decide +kernel
theorem d_Sheet_begin_6 : decode jc_Sheet_begin 6 = .ok (.iload_n 2, 1) := by decide +kernel
theorem d_Sheet_begin_7 : decode jc_Sheet_begin 7 = .ok (.putfield 17, 3) := by decide +kernel
theorem d_Sheet_begin_10 : decode jc_Sheet_begin 10 = .ok (.iconst 0, 1) := by decide +kernel
theorem d_Sheet_begin_11 : decode jc_Sheet_begin 11 = .ok (.istore_n 3, 1) := by decide +kernel
theorem d_Sheet_begin_12 : decode jc_Sheet_begin 12 = .ok (.iload_n 3, 1) := by decide +kernel
theorem d_Sheet_begin_13 : decode jc_Sheet_begin 13 = .ok (.aload_n 0, 1) := by decide +kernel
theorem d_Sheet_begin_14 : decode jc_Sheet_begin 14 = .ok (.getfield 17, 3) := by decide +kernel
theorem d_Sheet_begin_17 : decode jc_Sheet_begin 17 = .ok (.if_icmp .ge 16, 3) := by decide +kernel
theorem d_Sheet_begin_20 : decode jc_Sheet_begin 20 = .ok (.aload_n 0, 1) := by decide +kernel
theorem d_Sheet_begin_21 : decode jc_Sheet_begin 21 = .ok (.getfield 13, 3) := by decide +kernel
theorem d_Sheet_begin_24 : decode jc_Sheet_begin 24 = .ok (.iload_n 3, 1) := by decide +kernel
theorem d_Sheet_begin_25 : decode jc_Sheet_begin 25 = .ok (.iconst 0, 1) := by decide +kernel
theorem d_Sheet_begin_26 : decode jc_Sheet_begin 26 = .ok (.iastore, 1) := by decide +kernel
theorem d_Sheet_begin_27 : decode jc_Sheet_begin 27 = .ok (.iinc 3 1, 3) := by decide +kernel
theorem d_Sheet_begin_30 : decode jc_Sheet_begin 30 = .ok (.goto (-18), 3) := by decide +kernel
theorem d_Sheet_begin_33 : decode jc_Sheet_begin 33 = .ok (.return_, 1) := by decide +kernel
theorem d_Sheet_lacks_0 : decode jc_Sheet_lacks 0 = .ok (.iload_n 1, 1) := by decide +kernel
theorem d_Sheet_lacks_1 : decode jc_Sheet_lacks 1 = .ok (.ifCond .lt 25, 3) := by decide +kernel
theorem d_Sheet_lacks_4 : decode jc_Sheet_lacks 4 = .ok (.iload_n 2, 1) := by decide +kernel
theorem d_Sheet_lacks_5 : decode jc_Sheet_lacks 5 = .ok (.ifCond .lt 21, 3) := by decide +kernel
theorem d_Sheet_lacks_8 : decode jc_Sheet_lacks 8 = .ok (.iload_n 2, 1) := by decide +kernel
theorem d_Sheet_lacks_9 : decode jc_Sheet_lacks 9 = .ok (.aload_n 0, 1) := by decide +kernel
theorem d_Sheet_lacks_10 : decode jc_Sheet_lacks 10 = .ok (.getfield 17, 3) := by decide +kernel
theorem d_Sheet_lacks_13 : decode jc_Sheet_lacks 13 = .ok (.if_icmp .gt 13, 3) := by decide +kernel
theorem d_Sheet_lacks_16 : decode jc_Sheet_lacks 16 = .ok (.iload_n 1, 1) := by decide +kernel
theorem d_Sheet_lacks_17 : decode jc_Sheet_lacks 17 = .ok (.aload_n 0, 1) := by decide +kernel
theorem d_Sheet_lacks_18 : decode jc_Sheet_lacks 18 = .ok (.getfield 17, 3) := by decide +kernel
theorem d_Sheet_lacks_21 : decode jc_Sheet_lacks 21 = .ok (.iload_n 2, 1) := by decide +kernel
theorem d_Sheet_lacks_22 : decode jc_Sheet_lacks 22 = .ok (.isub, 1) := by decide +kernel
theorem d_Sheet_lacks_23 : decode jc_Sheet_lacks 23 = .ok (.if_icmp .le 7, 3) := by decide +kernel
theorem d_Sheet_lacks_26 : decode jc_Sheet_lacks 26 = .ok (.iconst 1, 1) := by decide +kernel
theorem d_Sheet_lacks_27 : decode jc_Sheet_lacks 27 = .ok (.goto 4, 3) := by decide +kernel
theorem d_Sheet_lacks_30 : decode jc_Sheet_lacks 30 = .ok (.iconst 0, 1) := by decide +kernel
theorem d_Sheet_lacks_31 : decode jc_Sheet_lacks 31 = .ok (.ireturn, 1) := by decide +kernel
theorem d_Sheet_write_0 : decode jc_Sheet_write 0 = .ok (.aload_n 0, 1) := by decide +kernel
theorem d_Sheet_write_1 : decode jc_Sheet_write 1 = .ok (.getfield 13, 3) := by decide +kernel
theorem d_Sheet_write_4 : decode jc_Sheet_write 4 = .ok (.iload_n 1, 1) := by decide +kernel
theorem d_Sheet_write_5 : decode jc_Sheet_write 5 = .ok (.aload_n 0, 1) := by decide +kernel
theorem d_Sheet_write_6 : decode jc_Sheet_write 6 = .ok (.getfield 7, 3) := by decide +kernel
theorem d_Sheet_write_9 : decode jc_Sheet_write 9 = .ok (.ifCond .ne 8, 3) := by decide +kernel
theorem d_Sheet_write_12 : decode jc_Sheet_write 12 = .ok (.iload_n 2, 1) := by decide +kernel
theorem d_Sheet_write_13 : decode jc_Sheet_write 13 = .ok (.i2b, 1) := by decide +kernel
theorem d_Sheet_write_14 : decode jc_Sheet_write 14 = .ok (.goto 4, 3) := by decide +kernel
theorem d_Sheet_write_17 : decode jc_Sheet_write 17 = .ok (.iload_n 2, 1) := by decide +kernel
theorem d_Sheet_write_18 : decode jc_Sheet_write 18 = .ok (.iastore, 1) := by decide +kernel
theorem d_Sheet_write_19 : decode jc_Sheet_write 19 = .ok (.return_, 1) := by decide +kernel
theorem d_Sheet_rowAt_0 : decode jc_Sheet_rowAt 0 = .ok (.aload_n 0, 1) := by decide +kernel
theorem d_Sheet_rowAt_1 : decode jc_Sheet_rowAt 1 = .ok (.getfield 7, 3) := by decide +kernel
theorem d_Sheet_rowAt_4 : decode jc_Sheet_rowAt 4 = .ok (.ifCond .ne 16, 3) := by decide +kernel
theorem d_Sheet_rowAt_7 : decode jc_Sheet_rowAt 7 = .ok (.aload_n 0, 1) := by decide +kernel
theorem d_Sheet_rowAt_8 : decode jc_Sheet_rowAt 8 = .ok (.getfield 13, 3) := by decide +kernel
theorem d_Sheet_rowAt_11 : decode jc_Sheet_rowAt 11 = .ok (.iload_n 1, 1) := by decide +kernel
theorem d_Sheet_rowAt_12 : decode jc_Sheet_rowAt 12 = .ok (.iaload, 1) := by decide +kernel
theorem d_Sheet_rowAt_13 : decode jc_Sheet_rowAt 13 = .ok (.sipush 255, 3) := by decide +kernel
theorem d_Sheet_rowAt_16 : decode jc_Sheet_rowAt 16 = .ok (.iand, 1) := by decide +kernel
theorem d_Sheet_rowAt_17 : decode jc_Sheet_rowAt 17 = .ok (.goto 9, 3) := by decide +kernel
theorem d_Sheet_rowAt_20 : decode jc_Sheet_rowAt 20 = .ok (.aload_n 0, 1) := by decide +kernel
theorem d_Sheet_rowAt_21 : decode jc_Sheet_rowAt 21 = .ok (.getfield 13, 3) := by decide +kernel
theorem d_Sheet_rowAt_24 : decode jc_Sheet_rowAt 24 = .ok (.iload_n 1, 1) := by decide +kernel
theorem d_Sheet_rowAt_25 : decode jc_Sheet_rowAt 25 = .ok (.iaload, 1) := by decide +kernel
theorem d_Sheet_rowAt_26 : decode jc_Sheet_rowAt 26 = .ok (.ireturn, 1) := by decide +kernel
theorem d_Spaces_hasUnion_0 : decode jc_Spaces_hasUnion 0 = .ok (.iconst 0, 1) := by decide +kernel
theorem d_Spaces_hasUnion_1 : decode jc_Spaces_hasUnion 1 = .ok (.istore_n 3, 1) := by decide +kernel
theorem d_Spaces_hasUnion_2 : decode jc_Spaces_hasUnion 2 = .ok (.iconst 0, 1) := by decide +kernel
theorem d_Spaces_hasUnion_3 : decode jc_Spaces_hasUnion 3 = .ok (.istore 4, 2) := by decide +kernel
theorem d_Spaces_hasUnion_5 : decode jc_Spaces_hasUnion 5 = .ok (.iload 4, 2) := by decide +kernel
theorem d_Spaces_hasUnion_7 : decode jc_Spaces_hasUnion 7 = .ok (.aload_n 1, 1) := by decide +kernel
theorem d_Spaces_hasUnion_8 : decode jc_Spaces_hasUnion 8 = .ok (.getfield 28, 3) := by decide +kernel
theorem d_Spaces_hasUnion_11 : decode jc_Spaces_hasUnion 11 = .ok (.if_icmp .ge 33, 3) := by decide +kernel
theorem d_Spaces_hasUnion_14 : decode jc_Spaces_hasUnion 14 = .ok (.aload_n 1, 1) := by decide +kernel
theorem d_Spaces_hasUnion_15 : decode jc_Spaces_hasUnion 15 = .ok (.getfield 32, 3) := by decide +kernel
theorem d_Spaces_hasUnion_18 : decode jc_Spaces_hasUnion 18 = .ok (.iload 4, 2) := by decide +kernel
theorem d_Spaces_hasUnion_20 : decode jc_Spaces_hasUnion 20 = .ok (.iaload, 1) := by decide +kernel
theorem d_Spaces_hasUnion_21 : decode jc_Spaces_hasUnion 21 = .ok (.iload_n 2, 1) := by decide +kernel
theorem d_Spaces_hasUnion_22 : decode jc_Spaces_hasUnion 22 = .ok (.iconst (-1), 1) := by decide +kernel
theorem d_Spaces_hasUnion_23 : decode jc_Spaces_hasUnion 23 = .ok (.ixor, 1) := by decide +kernel
theorem d_Spaces_hasUnion_24 : decode jc_Spaces_hasUnion 24 = .ok (.iand, 1) := by decide +kernel
theorem d_Spaces_hasUnion_25 : decode jc_Spaces_hasUnion 25 = .ok (.ifCond .ne 13, 3) := by decide +kernel
theorem d_Spaces_hasUnion_28 : decode jc_Spaces_hasUnion 28 = .ok (.iload_n 3, 1) := by decide +kernel
theorem d_Spaces_hasUnion_29 : decode jc_Spaces_hasUnion 29 = .ok (.aload_n 1, 1) := by decide +kernel
theorem d_Spaces_hasUnion_30 : decode jc_Spaces_hasUnion 30 = .ok (.getfield 32, 3) := by decide +kernel
theorem d_Spaces_hasUnion_33 : decode jc_Spaces_hasUnion 33 = .ok (.iload 4, 2) := by decide +kernel
theorem d_Spaces_hasUnion_35 : decode jc_Spaces_hasUnion 35 = .ok (.iaload, 1) := by decide +kernel
theorem d_Spaces_hasUnion_36 : decode jc_Spaces_hasUnion 36 = .ok (.ior, 1) := by decide +kernel
theorem d_Spaces_hasUnion_37 : decode jc_Spaces_hasUnion 37 = .ok (.istore_n 3, 1) := by decide +kernel
theorem d_Spaces_hasUnion_38 : decode jc_Spaces_hasUnion 38 = .ok (.iinc 4 1, 3) := by decide +kernel
theorem d_Spaces_hasUnion_41 : decode jc_Spaces_hasUnion 41 = .ok (.goto (-36), 3) := by decide +kernel
theorem d_Spaces_hasUnion_44 : decode jc_Spaces_hasUnion 44 = .ok (.iload_n 3, 1) := by decide +kernel
theorem d_Spaces_hasUnion_45 : decode jc_Spaces_hasUnion 45 = .ok (.iload_n 2, 1) := by decide +kernel
theorem d_Spaces_hasUnion_46 : decode jc_Spaces_hasUnion 46 = .ok (.if_icmp .ne 7, 3) := by decide +kernel
theorem d_Spaces_hasUnion_49 : decode jc_Spaces_hasUnion 49 = .ok (.iconst 1, 1) := by decide +kernel
theorem d_Spaces_hasUnion_50 : decode jc_Spaces_hasUnion 50 = .ok (.goto 4, 3) := by decide +kernel
theorem d_Spaces_hasUnion_53 : decode jc_Spaces_hasUnion 53 = .ok (.iconst 0, 1) := by decide +kernel
theorem d_Spaces_hasUnion_54 : decode jc_Spaces_hasUnion 54 = .ok (.ireturn, 1) := by decide +kernel
theorem d_Spaces_unionsOf_0 : decode jc_Spaces_unionsOf 0 = .ok (.iconst 0, 1) := by decide +kernel
theorem d_Spaces_unionsOf_1 : decode jc_Spaces_unionsOf 1 = .ok (.istore_n 2, 1) := by decide +kernel
theorem d_Spaces_unionsOf_2 : decode jc_Spaces_unionsOf 2 = .ok (.aload_n 1, 1) := by decide +kernel
theorem d_Spaces_unionsOf_3 : decode jc_Spaces_unionsOf 3 = .ok (.invokevirtual 36, 3) := by decide +kernel
theorem d_Spaces_unionsOf_6 : decode jc_Spaces_unionsOf 6 = .ok (.istore_n 3, 1) := by decide +kernel
theorem d_Spaces_unionsOf_7 : decode jc_Spaces_unionsOf 7 = .ok (.iconst 0, 1) := by decide +kernel
theorem d_Spaces_unionsOf_8 : decode jc_Spaces_unionsOf 8 = .ok (.istore 4, 2) := by decide +kernel
theorem d_Spaces_unionsOf_10 : decode jc_Spaces_unionsOf 10 = .ok (.iload 4, 2) := by decide +kernel
theorem d_Spaces_unionsOf_12 : decode jc_Spaces_unionsOf 12 = .ok (.iload_n 3, 1) := by decide +kernel
theorem d_Spaces_unionsOf_13 : decode jc_Spaces_unionsOf 13 = .ok (.if_icmp .gt 22, 3) := by decide +kernel
theorem d_Spaces_unionsOf_16 : decode jc_Spaces_unionsOf 16 = .ok (.aload_n 0, 1) := by decide +kernel
theorem d_Spaces_unionsOf_17 : decode jc_Spaces_unionsOf 17 = .ok (.aload_n 1, 1) := by decide +kernel
theorem d_Spaces_unionsOf_18 : decode jc_Spaces_unionsOf 18 = .ok (.iload 4, 2) := by decide +kernel
theorem d_Spaces_unionsOf_20 : decode jc_Spaces_unionsOf 20 = .ok (.invokevirtual 40, 3) := by decide +kernel
theorem d_Spaces_unionsOf_23 : decode jc_Spaces_unionsOf 23 = .ok (.ifCond .eq 6, 3) := by decide +kernel
theorem d_Spaces_unionsOf_26 : decode jc_Spaces_unionsOf 26 = .ok (.iinc 2 1, 3) := by decide +kernel
theorem d_Spaces_unionsOf_29 : decode jc_Spaces_unionsOf 29 = .ok (.iinc 4 1, 3) := by decide +kernel
theorem d_Spaces_unionsOf_32 : decode jc_Spaces_unionsOf 32 = .ok (.goto (-22), 3) := by decide +kernel
theorem d_Spaces_unionsOf_35 : decode jc_Spaces_unionsOf 35 = .ok (.iload_n 2, 1) := by decide +kernel
theorem d_Spaces_unionsOf_36 : decode jc_Spaces_unionsOf 36 = .ok (.ireturn, 1) := by decide +kernel
theorem d_Spaces_basisSize_0 : decode jc_Spaces_basisSize 0 = .ok (.iconst 0, 1) := by decide +kernel
theorem d_Spaces_basisSize_1 : decode jc_Spaces_basisSize 1 = .ok (.istore_n 2, 1) := by decide +kernel
theorem d_Spaces_basisSize_2 : decode jc_Spaces_basisSize 2 = .ok (.aload_n 0, 1) := by decide +kernel
theorem d_Spaces_basisSize_3 : decode jc_Spaces_basisSize 3 = .ok (.aload_n 1, 1) := by decide +kernel
theorem d_Spaces_basisSize_4 : decode jc_Spaces_basisSize 4 = .ok (.iconst 0, 1) := by decide +kernel
theorem d_Spaces_basisSize_5 : decode jc_Spaces_basisSize 5 = .ok (.invokevirtual 44, 3) := by decide +kernel
theorem d_Spaces_basisSize_8 : decode jc_Spaces_basisSize 8 = .ok (.istore_n 3, 1) := by decide +kernel
theorem d_Spaces_basisSize_9 : decode jc_Spaces_basisSize 9 = .ok (.iconst 0, 1) := by decide +kernel
theorem d_Spaces_basisSize_10 : decode jc_Spaces_basisSize 10 = .ok (.istore 4, 2) := by decide +kernel
theorem d_Spaces_basisSize_12 : decode jc_Spaces_basisSize 12 = .ok (.iload 4, 2) := by decide +kernel
theorem d_Spaces_basisSize_14 : decode jc_Spaces_basisSize 14 = .ok (.bipush 12, 2) := by decide +kernel
theorem d_Spaces_basisSize_16 : decode jc_Spaces_basisSize 16 = .ok (.if_icmp .ge 23, 3) := by decide +kernel
theorem d_Spaces_basisSize_19 : decode jc_Spaces_basisSize 19 = .ok (.iload_n 3, 1) := by decide +kernel
theorem d_Spaces_basisSize_20 : decode jc_Spaces_basisSize 20 = .ok (.ifCond .eq 19, 3) := by decide +kernel
theorem d_Spaces_basisSize_23 : decode jc_Spaces_basisSize 23 = .ok (.iinc 2 1, 3) := by decide +kernel
theorem d_Spaces_basisSize_26 : decode jc_Spaces_basisSize 26 = .ok (.aload_n 0, 1) := by decide +kernel
theorem d_Spaces_basisSize_27 : decode jc_Spaces_basisSize 27 = .ok (.aload_n 1, 1) := by decide +kernel
theorem d_Spaces_basisSize_28 : decode jc_Spaces_basisSize 28 = .ok (.iload_n 3, 1) := by decide +kernel
theorem d_Spaces_basisSize_29 : decode jc_Spaces_basisSize 29 = .ok (.invokevirtual 44, 3) := by decide +kernel
theorem d_Spaces_basisSize_32 : decode jc_Spaces_basisSize 32 = .ok (.istore_n 3, 1) := by decide +kernel
theorem d_Spaces_basisSize_33 : decode jc_Spaces_basisSize 33 = .ok (.iinc 4 1, 3) := by decide +kernel
theorem d_Spaces_basisSize_36 : decode jc_Spaces_basisSize 36 = .ok (.goto (-24), 3) := by decide +kernel
theorem d_Spaces_basisSize_39 : decode jc_Spaces_basisSize 39 = .ok (.iload_n 2, 1) := by decide +kernel
theorem d_Spaces_basisSize_40 : decode jc_Spaces_basisSize 40 = .ok (.ireturn, 1) := by decide +kernel
theorem d_Spaces_nextOfBasis_0 : decode jc_Spaces_nextOfBasis 0 = .ok (.iconst 0, 1) := by decide +kernel
theorem d_Spaces_nextOfBasis_1 : decode jc_Spaces_nextOfBasis 1 = .ok (.istore_n 3, 1) := by decide +kernel
theorem d_Spaces_nextOfBasis_2 : decode jc_Spaces_nextOfBasis 2 = .ok (.iconst 0, 1) := by decide +kernel
theorem d_Spaces_nextOfBasis_3 : decode jc_Spaces_nextOfBasis 3 = .ok (.istore 4, 2) := by decide +kernel
theorem d_Spaces_nextOfBasis_5 : decode jc_Spaces_nextOfBasis 5 = .ok (.iload 4, 2) := by decide +kernel
theorem d_Spaces_nextOfBasis_7 : decode jc_Spaces_nextOfBasis 7 = .ok (.aload_n 1, 1) := by decide +kernel
theorem d_Spaces_nextOfBasis_8 : decode jc_Spaces_nextOfBasis 8 = .ok (.getfield 28, 3) := by decide +kernel
theorem d_Spaces_nextOfBasis_11 : decode jc_Spaces_nextOfBasis 11 = .ok (.if_icmp .ge 47, 3) := by decide +kernel
theorem d_Spaces_nextOfBasis_14 : decode jc_Spaces_nextOfBasis 14 = .ok (.aload_n 1, 1) := by decide +kernel
theorem d_Spaces_nextOfBasis_15 : decode jc_Spaces_nextOfBasis 15 = .ok (.getfield 32, 3) := by decide +kernel
theorem d_Spaces_nextOfBasis_18 : decode jc_Spaces_nextOfBasis 18 = .ok (.iload 4, 2) := by decide +kernel
theorem d_Spaces_nextOfBasis_20 : decode jc_Spaces_nextOfBasis 20 = .ok (.iaload, 1) := by decide +kernel
theorem d_Spaces_nextOfBasis_21 : decode jc_Spaces_nextOfBasis 21 = .ok (.istore 5, 2) := by decide +kernel
theorem d_Spaces_nextOfBasis_23 : decode jc_Spaces_nextOfBasis 23 = .ok (.iload 5, 2) := by decide +kernel
theorem d_Spaces_nextOfBasis_25 : decode jc_Spaces_nextOfBasis 25 = .ok (.iload_n 2, 1) := by decide +kernel
theorem d_Spaces_nextOfBasis_26 : decode jc_Spaces_nextOfBasis 26 = .ok (.if_icmp .le 26, 3) := by decide +kernel
theorem d_Spaces_nextOfBasis_29 : decode jc_Spaces_nextOfBasis 29 = .ok (.iload_n 3, 1) := by decide +kernel
theorem d_Spaces_nextOfBasis_30 : decode jc_Spaces_nextOfBasis 30 = .ok (.ifCond .eq 9, 3) := by decide +kernel
theorem d_Spaces_nextOfBasis_33 : decode jc_Spaces_nextOfBasis 33 = .ok (.iload 5, 2) := by decide +kernel
theorem d_Spaces_nextOfBasis_35 : decode jc_Spaces_nextOfBasis 35 = .ok (.iload_n 3, 1) := by decide +kernel
theorem d_Spaces_nextOfBasis_36 : decode jc_Spaces_nextOfBasis 36 = .ok (.if_icmp .ge 16, 3) := by decide +kernel
theorem d_Spaces_nextOfBasis_39 : decode jc_Spaces_nextOfBasis 39 = .ok (.aload_n 0, 1) := by decide +kernel
theorem d_Spaces_nextOfBasis_40 : decode jc_Spaces_nextOfBasis 40 = .ok (.aload_n 1, 1) := by decide +kernel
theorem d_Spaces_nextOfBasis_41 : decode jc_Spaces_nextOfBasis 41 = .ok (.iload 5, 2) := by decide +kernel
theorem d_Spaces_nextOfBasis_43 : decode jc_Spaces_nextOfBasis 43 = .ok (.invokevirtual 48, 3) := by decide +kernel
theorem d_Spaces_nextOfBasis_46 : decode jc_Spaces_nextOfBasis 46 = .ok (.ifCond .ne 6, 3) := by decide +kernel
theorem d_Spaces_nextOfBasis_49 : decode jc_Spaces_nextOfBasis 49 = .ok (.iload 5, 2) := by decide +kernel
theorem d_Spaces_nextOfBasis_51 : decode jc_Spaces_nextOfBasis 51 = .ok (.istore_n 3, 1) := by decide +kernel
theorem d_Spaces_nextOfBasis_52 : decode jc_Spaces_nextOfBasis 52 = .ok (.iinc 4 1, 3) := by decide +kernel
theorem d_Spaces_nextOfBasis_55 : decode jc_Spaces_nextOfBasis 55 = .ok (.goto (-50), 3) := by decide +kernel
theorem d_Spaces_nextOfBasis_58 : decode jc_Spaces_nextOfBasis 58 = .ok (.iload_n 3, 1) := by decide +kernel
theorem d_Spaces_nextOfBasis_59 : decode jc_Spaces_nextOfBasis 59 = .ok (.ireturn, 1) := by decide +kernel
theorem d_Spaces_isMadeUp_0 : decode jc_Spaces_isMadeUp 0 = .ok (.iconst 0, 1) := by decide +kernel
theorem d_Spaces_isMadeUp_1 : decode jc_Spaces_isMadeUp 1 = .ok (.istore_n 3, 1) := by decide +kernel
theorem d_Spaces_isMadeUp_2 : decode jc_Spaces_isMadeUp 2 = .ok (.iconst 0, 1) := by decide +kernel
theorem d_Spaces_isMadeUp_3 : decode jc_Spaces_isMadeUp 3 = .ok (.istore 4, 2) := by decide +kernel
theorem d_Spaces_isMadeUp_5 : decode jc_Spaces_isMadeUp 5 = .ok (.iload 4, 2) := by decide +kernel
theorem d_Spaces_isMadeUp_7 : decode jc_Spaces_isMadeUp 7 = .ok (.aload_n 1, 1) := by decide +kernel
theorem d_Spaces_isMadeUp_8 : decode jc_Spaces_isMadeUp 8 = .ok (.getfield 28, 3) := by decide +kernel
theorem d_Spaces_isMadeUp_11 : decode jc_Spaces_isMadeUp 11 = .ok (.if_icmp .ge 44, 3) := by decide +kernel
theorem d_Spaces_isMadeUp_14 : decode jc_Spaces_isMadeUp 14 = .ok (.aload_n 1, 1) := by decide +kernel
theorem d_Spaces_isMadeUp_15 : decode jc_Spaces_isMadeUp 15 = .ok (.getfield 32, 3) := by decide +kernel
theorem d_Spaces_isMadeUp_18 : decode jc_Spaces_isMadeUp 18 = .ok (.iload 4, 2) := by decide +kernel
theorem d_Spaces_isMadeUp_20 : decode jc_Spaces_isMadeUp 20 = .ok (.iaload, 1) := by decide +kernel
theorem d_Spaces_isMadeUp_21 : decode jc_Spaces_isMadeUp 21 = .ok (.iload_n 2, 1) := by decide +kernel
theorem d_Spaces_isMadeUp_22 : decode jc_Spaces_isMadeUp 22 = .ok (.if_icmp .eq 27, 3) := by decide +kernel
theorem d_Spaces_isMadeUp_25 : decode jc_Spaces_isMadeUp 25 = .ok (.aload_n 1, 1) := by decide +kernel
theorem d_Spaces_isMadeUp_26 : decode jc_Spaces_isMadeUp 26 = .ok (.getfield 32, 3) := by decide +kernel
theorem d_Spaces_isMadeUp_29 : decode jc_Spaces_isMadeUp 29 = .ok (.iload 4, 2) := by decide +kernel
theorem d_Spaces_isMadeUp_31 : decode jc_Spaces_isMadeUp 31 = .ok (.iaload, 1) := by decide +kernel
theorem d_Spaces_isMadeUp_32 : decode jc_Spaces_isMadeUp 32 = .ok (.iload_n 2, 1) := by decide +kernel
theorem d_Spaces_isMadeUp_33 : decode jc_Spaces_isMadeUp 33 = .ok (.iconst (-1), 1) := by decide +kernel
theorem d_Spaces_isMadeUp_34 : decode jc_Spaces_isMadeUp 34 = .ok (.ixor, 1) := by decide +kernel
theorem d_Spaces_isMadeUp_35 : decode jc_Spaces_isMadeUp 35 = .ok (.iand, 1) := by decide +kernel
theorem d_Spaces_isMadeUp_36 : decode jc_Spaces_isMadeUp 36 = .ok (.ifCond .ne 13, 3) := by decide +kernel
theorem d_Spaces_isMadeUp_39 : decode jc_Spaces_isMadeUp 39 = .ok (.iload_n 3, 1) := by decide +kernel
theorem d_Spaces_isMadeUp_40 : decode jc_Spaces_isMadeUp 40 = .ok (.aload_n 1, 1) := by decide +kernel
theorem d_Spaces_isMadeUp_41 : decode jc_Spaces_isMadeUp 41 = .ok (.getfield 32, 3) := by decide +kernel
theorem d_Spaces_isMadeUp_44 : decode jc_Spaces_isMadeUp 44 = .ok (.iload 4, 2) := by decide +kernel
theorem d_Spaces_isMadeUp_46 : decode jc_Spaces_isMadeUp 46 = .ok (.iaload, 1) := by decide +kernel
theorem d_Spaces_isMadeUp_47 : decode jc_Spaces_isMadeUp 47 = .ok (.ior, 1) := by decide +kernel
theorem d_Spaces_isMadeUp_48 : decode jc_Spaces_isMadeUp 48 = .ok (.istore_n 3, 1) := by decide +kernel
theorem d_Spaces_isMadeUp_49 : decode jc_Spaces_isMadeUp 49 = .ok (.iinc 4 1, 3) := by decide +kernel
theorem d_Spaces_isMadeUp_52 : decode jc_Spaces_isMadeUp 52 = .ok (.goto (-47), 3) := by decide +kernel
theorem d_Spaces_isMadeUp_55 : decode jc_Spaces_isMadeUp 55 = .ok (.iload_n 3, 1) := by decide +kernel
theorem d_Spaces_isMadeUp_56 : decode jc_Spaces_isMadeUp 56 = .ok (.iload_n 2, 1) := by decide +kernel
theorem d_Spaces_isMadeUp_57 : decode jc_Spaces_isMadeUp 57 = .ok (.if_icmp .ne 7, 3) := by decide +kernel
theorem d_Spaces_isMadeUp_60 : decode jc_Spaces_isMadeUp 60 = .ok (.iconst 1, 1) := by decide +kernel
theorem d_Spaces_isMadeUp_61 : decode jc_Spaces_isMadeUp 61 = .ok (.goto 4, 3) := by decide +kernel
theorem d_Spaces_isMadeUp_64 : decode jc_Spaces_isMadeUp 64 = .ok (.iconst 0, 1) := by decide +kernel
theorem d_Spaces_isMadeUp_65 : decode jc_Spaces_isMadeUp 65 = .ok (.ireturn, 1) := by decide +kernel
theorem d_Spaces_areAlike_0 : decode jc_Spaces_areAlike 0 = .ok (.aload_n 0, 1) := by decide +kernel
theorem d_Spaces_areAlike_1 : decode jc_Spaces_areAlike 1 = .ok (.getfield 10, 3) := by decide +kernel
theorem d_Spaces_areAlike_4 : decode jc_Spaces_areAlike 4 = .ok (.aload_n 1, 1) := by decide +kernel
theorem d_Spaces_areAlike_5 : decode jc_Spaces_areAlike 5 = .ok (.invokevirtual 51, 3) := by decide +kernel
theorem d_Spaces_areAlike_8 : decode jc_Spaces_areAlike 8 = .ok (.aload_n 0, 1) := by decide +kernel
theorem d_Spaces_areAlike_9 : decode jc_Spaces_areAlike 9 = .ok (.getfield 16, 3) := by decide +kernel
theorem d_Spaces_areAlike_12 : decode jc_Spaces_areAlike 12 = .ok (.aload_n 2, 1) := by decide +kernel
theorem d_Spaces_areAlike_13 : decode jc_Spaces_areAlike 13 = .ok (.invokevirtual 51, 3) := by decide +kernel
theorem d_Spaces_areAlike_16 : decode jc_Spaces_areAlike 16 = .ok (.iload_n 3, 1) := by decide +kernel
theorem d_Spaces_areAlike_17 : decode jc_Spaces_areAlike 17 = .ok (.ifCond .eq 19, 3) := by decide +kernel
theorem d_Spaces_areAlike_20 : decode jc_Spaces_areAlike 20 = .ok (.aload_n 0, 1) := by decide +kernel
theorem d_Spaces_areAlike_21 : decode jc_Spaces_areAlike 21 = .ok (.getfield 10, 3) := by decide +kernel
theorem d_Spaces_areAlike_24 : decode jc_Spaces_areAlike 24 = .ok (.aload_n 1, 1) := by decide +kernel
theorem d_Spaces_areAlike_25 : decode jc_Spaces_areAlike 25 = .ok (.invokevirtual 55, 3) := by decide +kernel
theorem d_Spaces_areAlike_28 : decode jc_Spaces_areAlike 28 = .ok (.aload_n 0, 1) := by decide +kernel
theorem d_Spaces_areAlike_29 : decode jc_Spaces_areAlike 29 = .ok (.getfield 16, 3) := by decide +kernel
theorem d_Spaces_areAlike_32 : decode jc_Spaces_areAlike 32 = .ok (.aload_n 2, 1) := by decide +kernel
theorem d_Spaces_areAlike_33 : decode jc_Spaces_areAlike 33 = .ok (.invokevirtual 55, 3) := by decide +kernel
theorem d_Spaces_areAlike_36 : decode jc_Spaces_areAlike 36 = .ok (.aload_n 0, 1) := by decide +kernel
theorem d_Spaces_areAlike_37 : decode jc_Spaces_areAlike 37 = .ok (.aload_n 0, 1) := by decide +kernel
theorem d_Spaces_areAlike_38 : decode jc_Spaces_areAlike 38 = .ok (.getfield 10, 3) := by decide +kernel
theorem d_Spaces_areAlike_41 : decode jc_Spaces_areAlike 41 = .ok (.aload_n 0, 1) := by decide +kernel
theorem d_Spaces_areAlike_42 : decode jc_Spaces_areAlike 42 = .ok (.getfield 16, 3) := by decide +kernel
theorem d_Spaces_areAlike_45 : decode jc_Spaces_areAlike 45 = .ok (.invokevirtual 58, 3) := by decide +kernel
theorem d_Spaces_areAlike_48 : decode jc_Spaces_areAlike 48 = .ok (.ifCond .eq 22, 3) := by decide +kernel
theorem d_Spaces_areAlike_51 : decode jc_Spaces_areAlike 51 = .ok (.aload_n 0, 1) := by decide +kernel
theorem d_Spaces_areAlike_52 : decode jc_Spaces_areAlike 52 = .ok (.aload_n 0, 1) := by decide +kernel
theorem d_Spaces_areAlike_53 : decode jc_Spaces_areAlike 53 = .ok (.getfield 16, 3) := by decide +kernel
theorem d_Spaces_areAlike_56 : decode jc_Spaces_areAlike 56 = .ok (.aload_n 0, 1) := by decide +kernel
theorem d_Spaces_areAlike_57 : decode jc_Spaces_areAlike 57 = .ok (.getfield 10, 3) := by decide +kernel
theorem d_Spaces_areAlike_60 : decode jc_Spaces_areAlike 60 = .ok (.invokevirtual 58, 3) := by decide +kernel
theorem d_Spaces_areAlike_63 : decode jc_Spaces_areAlike 63 = .ok (.ifCond .eq 7, 3) := by decide +kernel
theorem d_Spaces_areAlike_66 : decode jc_Spaces_areAlike 66 = .ok (.iconst 1, 1) := by decide +kernel
theorem d_Spaces_areAlike_67 : decode jc_Spaces_areAlike 67 = .ok (.goto 4, 3) := by decide +kernel
theorem d_Spaces_areAlike_70 : decode jc_Spaces_areAlike 70 = .ok (.iconst 0, 1) := by decide +kernel
theorem d_Spaces_areAlike_71 : decode jc_Spaces_areAlike 71 = .ok (.ireturn, 1) := by decide +kernel
theorem d_Spaces_spansRows_0 : decode jc_Spaces_spansRows 0 = .ok (.iconst 0, 1) := by decide +kernel
theorem d_Spaces_spansRows_1 : decode jc_Spaces_spansRows 1 = .ok (.istore_n 3, 1) := by decide +kernel
theorem d_Spaces_spansRows_2 : decode jc_Spaces_spansRows 2 = .ok (.iload_n 3, 1) := by decide +kernel
theorem d_Spaces_spansRows_3 : decode jc_Spaces_spansRows 3 = .ok (.aload_n 2, 1) := by decide +kernel
theorem d_Spaces_spansRows_4 : decode jc_Spaces_spansRows 4 = .ok (.getfield 28, 3) := by decide +kernel
theorem d_Spaces_spansRows_7 : decode jc_Spaces_spansRows 7 = .ok (.if_icmp .ge 25, 3) := by decide +kernel
theorem d_Spaces_spansRows_10 : decode jc_Spaces_spansRows 10 = .ok (.aload_n 0, 1) := by decide +kernel
theorem d_Spaces_spansRows_11 : decode jc_Spaces_spansRows 11 = .ok (.aload_n 1, 1) := by decide +kernel
theorem d_Spaces_spansRows_12 : decode jc_Spaces_spansRows 12 = .ok (.aload_n 2, 1) := by decide +kernel
theorem d_Spaces_spansRows_13 : decode jc_Spaces_spansRows 13 = .ok (.getfield 32, 3) := by decide +kernel
theorem d_Spaces_spansRows_16 : decode jc_Spaces_spansRows 16 = .ok (.iload_n 3, 1) := by decide +kernel
theorem d_Spaces_spansRows_17 : decode jc_Spaces_spansRows 17 = .ok (.iaload, 1) := by decide +kernel
theorem d_Spaces_spansRows_18 : decode jc_Spaces_spansRows 18 = .ok (.invokevirtual 40, 3) := by decide +kernel
theorem d_Spaces_spansRows_21 : decode jc_Spaces_spansRows 21 = .ok (.ifCond .ne 5, 3) := by decide +kernel
theorem d_Spaces_spansRows_24 : decode jc_Spaces_spansRows 24 = .ok (.iconst 0, 1) := by decide +kernel
theorem d_Spaces_spansRows_25 : decode jc_Spaces_spansRows 25 = .ok (.ireturn, 1) := by decide +kernel
theorem d_Spaces_spansRows_26 : decode jc_Spaces_spansRows 26 = .ok (.iinc 3 1, 3) := by decide +kernel
theorem d_Spaces_spansRows_29 : decode jc_Spaces_spansRows 29 = .ok (.goto (-27), 3) := by decide +kernel
theorem d_Spaces_spansRows_32 : decode jc_Spaces_spansRows 32 = .ok (.iconst 1, 1) := by decide +kernel
theorem d_Spaces_spansRows_33 : decode jc_Spaces_spansRows 33 = .ok (.ireturn, 1) := by decide +kernel
theorem d_Spaces_findGreatest_0 : decode jc_Spaces_findGreatest 0 = .ok (.aload_n 0, 1) := by decide +kernel
theorem d_Spaces_findGreatest_1 : decode jc_Spaces_findGreatest 1 = .ok (.getfield 10, 3) := by decide +kernel
theorem d_Spaces_findGreatest_4 : decode jc_Spaces_findGreatest 4 = .ok (.aload_n 1, 1) := by decide +kernel
theorem d_Spaces_findGreatest_5 : decode jc_Spaces_findGreatest 5 = .ok (.invokevirtual 55, 3) := by decide +kernel
theorem d_Spaces_findGreatest_8 : decode jc_Spaces_findGreatest 8 = .ok (.aload_n 0, 1) := by decide +kernel
theorem d_Spaces_findGreatest_9 : decode jc_Spaces_findGreatest 9 = .ok (.getfield 19, 3) := by decide +kernel
theorem d_Spaces_findGreatest_12 : decode jc_Spaces_findGreatest 12 = .ok (.aload_n 1, 1) := by decide +kernel
theorem d_Spaces_findGreatest_13 : decode jc_Spaces_findGreatest 13 = .ok (.invokevirtual 51, 3) := by decide +kernel
theorem d_Spaces_findGreatest_16 : decode jc_Spaces_findGreatest 16 = .ok (.aload_n 0, 1) := by decide +kernel
theorem d_Spaces_findGreatest_17 : decode jc_Spaces_findGreatest 17 = .ok (.getfield 19, 3) := by decide +kernel
theorem d_Spaces_findGreatest_20 : decode jc_Spaces_findGreatest 20 = .ok (.invokevirtual 62, 3) := by decide +kernel
theorem d_Spaces_findGreatest_23 : decode jc_Spaces_findGreatest 23 = .ok (.aload_n 2, 1) := by decide +kernel
theorem d_Spaces_findGreatest_24 : decode jc_Spaces_findGreatest 24 = .ok (.aload_n 0, 1) := by decide +kernel
theorem d_Spaces_findGreatest_25 : decode jc_Spaces_findGreatest 25 = .ok (.getfield 10, 3) := by decide +kernel
theorem d_Spaces_findGreatest_28 : decode jc_Spaces_findGreatest 28 = .ok (.invokevirtual 51, 3) := by decide +kernel
theorem d_Spaces_findGreatest_31 : decode jc_Spaces_findGreatest 31 = .ok (.aload_n 2, 1) := by decide +kernel
theorem d_Spaces_findGreatest_32 : decode jc_Spaces_findGreatest 32 = .ok (.aload_n 0, 1) := by decide +kernel
theorem d_Spaces_findGreatest_33 : decode jc_Spaces_findGreatest 33 = .ok (.getfield 19, 3) := by decide +kernel
theorem d_Spaces_findGreatest_36 : decode jc_Spaces_findGreatest 36 = .ok (.invokevirtual 65, 3) := by decide +kernel
theorem d_Spaces_findGreatest_39 : decode jc_Spaces_findGreatest 39 = .ok (.aload_n 2, 1) := by decide +kernel
theorem d_Spaces_findGreatest_40 : decode jc_Spaces_findGreatest 40 = .ok (.aload_n 0, 1) := by decide +kernel
theorem d_Spaces_findGreatest_41 : decode jc_Spaces_findGreatest 41 = .ok (.getfield 10, 3) := by decide +kernel
theorem d_Spaces_findGreatest_44 : decode jc_Spaces_findGreatest 44 = .ok (.invokevirtual 65, 3) := by decide +kernel
theorem d_Spaces_findGreatest_47 : decode jc_Spaces_findGreatest 47 = .ok (.aload_n 2, 1) := by decide +kernel
theorem d_Spaces_findGreatest_48 : decode jc_Spaces_findGreatest 48 = .ok (.invokevirtual 62, 3) := by decide +kernel
theorem d_Spaces_findGreatest_51 : decode jc_Spaces_findGreatest 51 = .ok (.return_, 1) := by decide +kernel
theorem d_Spaces_isRegular_0 : decode jc_Spaces_isRegular 0 = .ok (.aload_n 0, 1) := by decide +kernel
theorem d_Spaces_isRegular_1 : decode jc_Spaces_isRegular 1 = .ok (.aload_n 1, 1) := by decide +kernel
theorem d_Spaces_isRegular_2 : decode jc_Spaces_isRegular 2 = .ok (.aload_n 0, 1) := by decide +kernel
theorem d_Spaces_isRegular_3 : decode jc_Spaces_isRegular 3 = .ok (.getfield 22, 3) := by decide +kernel
theorem d_Spaces_isRegular_6 : decode jc_Spaces_isRegular 6 = .ok (.invokevirtual 68, 3) := by decide +kernel
theorem d_Spaces_isRegular_9 : decode jc_Spaces_isRegular 9 = .ok (.aload_n 0, 1) := by decide +kernel
theorem d_Spaces_isRegular_10 : decode jc_Spaces_isRegular 10 = .ok (.getfield 25, 3) := by decide +kernel
theorem d_Spaces_isRegular_13 : decode jc_Spaces_isRegular 13 = .ok (.aload_n 1, 1) := by decide +kernel
theorem d_Spaces_isRegular_14 : decode jc_Spaces_isRegular 14 = .ok (.invokevirtual 51, 3) := by decide +kernel
theorem d_Spaces_isRegular_17 : decode jc_Spaces_isRegular 17 = .ok (.aload_n 0, 1) := by decide +kernel
theorem d_Spaces_isRegular_18 : decode jc_Spaces_isRegular 18 = .ok (.getfield 25, 3) := by decide +kernel
theorem d_Spaces_isRegular_21 : decode jc_Spaces_isRegular 21 = .ok (.aload_n 0, 1) := by decide +kernel
theorem d_Spaces_isRegular_22 : decode jc_Spaces_isRegular 22 = .ok (.getfield 22, 3) := by decide +kernel
theorem d_Spaces_isRegular_25 : decode jc_Spaces_isRegular 25 = .ok (.invokevirtual 65, 3) := by decide +kernel
theorem d_Spaces_isRegular_28 : decode jc_Spaces_isRegular 28 = .ok (.aload_n 0, 1) := by decide +kernel
theorem d_Spaces_isRegular_29 : decode jc_Spaces_isRegular 29 = .ok (.getfield 25, 3) := by decide +kernel
theorem d_Spaces_isRegular_32 : decode jc_Spaces_isRegular 32 = .ok (.aload_n 1, 1) := by decide +kernel
theorem d_Spaces_isRegular_33 : decode jc_Spaces_isRegular 33 = .ok (.invokevirtual 65, 3) := by decide +kernel
theorem d_Spaces_isRegular_36 : decode jc_Spaces_isRegular 36 = .ok (.aload_n 0, 1) := by decide +kernel
theorem d_Spaces_isRegular_37 : decode jc_Spaces_isRegular 37 = .ok (.getfield 25, 3) := by decide +kernel
theorem d_Spaces_isRegular_40 : decode jc_Spaces_isRegular 40 = .ok (.aload_n 1, 1) := by decide +kernel
theorem d_Spaces_isRegular_41 : decode jc_Spaces_isRegular 41 = .ok (.invokevirtual 72, 3) := by decide +kernel
theorem d_Spaces_isRegular_44 : decode jc_Spaces_isRegular 44 = .ok (.ireturn, 1) := by decide +kernel
theorem d_Table_allColumns_0 : decode jc_Table_allColumns 0 = .ok (.iconst 1, 1) := by decide +kernel
theorem d_Table_allColumns_1 : decode jc_Table_allColumns 1 = .ok (.aload_n 0, 1) := by decide +kernel
theorem d_Table_allColumns_2 : decode jc_Table_allColumns 2 = .ok (.getfield 15, 3) := by decide +kernel
theorem d_Table_allColumns_5 : decode jc_Table_allColumns 5 = .ok (.ishl, 1) := by decide +kernel
theorem d_Table_allColumns_6 : decode jc_Table_allColumns 6 = .ok (.iconst 1, 1) := by decide +kernel
theorem d_Table_allColumns_7 : decode jc_Table_allColumns 7 = .ok (.isub, 1) := by decide +kernel
theorem d_Table_allColumns_8 : decode jc_Table_allColumns 8 = .ok (.ireturn, 1) := by decide +kernel
theorem d_Table_lacksColumnOf_0 : decode jc_Table_lacksColumnOf 0 = .ok (.iload_n 1, 1) := by decide +kernel
theorem d_Table_lacksColumnOf_1 : decode jc_Table_lacksColumnOf 1 = .ok (.aload_n 0, 1) := by decide +kernel
theorem d_Table_lacksColumnOf_2 : decode jc_Table_lacksColumnOf 2 = .ok (.invokevirtual 19, 3) := by decide +kernel
theorem d_Table_lacksColumnOf_5 : decode jc_Table_lacksColumnOf 5 = .ok (.iconst (-1), 1) := by decide +kernel
theorem d_Table_lacksColumnOf_6 : decode jc_Table_lacksColumnOf 6 = .ok (.ixor, 1) := by decide +kernel
theorem d_Table_lacksColumnOf_7 : decode jc_Table_lacksColumnOf 7 = .ok (.iand, 1) := by decide +kernel
theorem d_Table_lacksColumnOf_8 : decode jc_Table_lacksColumnOf 8 = .ok (.ifCond .eq 7, 3) := by decide +kernel
theorem d_Table_lacksColumnOf_11 : decode jc_Table_lacksColumnOf 11 = .ok (.iconst 1, 1) := by decide +kernel
theorem d_Table_lacksColumnOf_12 : decode jc_Table_lacksColumnOf 12 = .ok (.goto 4, 3) := by decide +kernel
theorem d_Table_lacksColumnOf_15 : decode jc_Table_lacksColumnOf 15 = .ok (.iconst 0, 1) := by decide +kernel
theorem d_Table_lacksColumnOf_16 : decode jc_Table_lacksColumnOf 16 = .ok (.ireturn, 1) := by decide +kernel
theorem d_Table_entry_0 : decode jc_Table_entry 0 = .ok (.aload_n 0, 1) := by decide +kernel
theorem d_Table_entry_1 : decode jc_Table_entry 1 = .ok (.getfield 11, 3) := by decide +kernel
theorem d_Table_entry_4 : decode jc_Table_entry 4 = .ok (.iload_n 1, 1) := by decide +kernel
theorem d_Table_entry_5 : decode jc_Table_entry 5 = .ok (.iaload, 1) := by decide +kernel
theorem d_Table_entry_6 : decode jc_Table_entry 6 = .ok (.iload_n 2, 1) := by decide +kernel
theorem d_Table_entry_7 : decode jc_Table_entry 7 = .ok (.ishr, 1) := by decide +kernel
theorem d_Table_entry_8 : decode jc_Table_entry 8 = .ok (.iconst 1, 1) := by decide +kernel
theorem d_Table_entry_9 : decode jc_Table_entry 9 = .ok (.iand, 1) := by decide +kernel
theorem d_Table_entry_10 : decode jc_Table_entry 10 = .ok (.ireturn, 1) := by decide +kernel
theorem d_Table_column_0 : decode jc_Table_column 0 = .ok (.iconst 0, 1) := by decide +kernel
theorem d_Table_column_1 : decode jc_Table_column 1 = .ok (.istore_n 2, 1) := by decide +kernel
theorem d_Table_column_2 : decode jc_Table_column 2 = .ok (.iconst 0, 1) := by decide +kernel
theorem d_Table_column_3 : decode jc_Table_column 3 = .ok (.istore_n 3, 1) := by decide +kernel
theorem d_Table_column_4 : decode jc_Table_column 4 = .ok (.iload_n 3, 1) := by decide +kernel
theorem d_Table_column_5 : decode jc_Table_column 5 = .ok (.aload_n 0, 1) := by decide +kernel
theorem d_Table_column_6 : decode jc_Table_column 6 = .ok (.getfield 15, 3) := by decide +kernel
theorem d_Table_column_9 : decode jc_Table_column 9 = .ok (.if_icmp .ge 20, 3) := by decide +kernel
theorem d_Table_column_12 : decode jc_Table_column 12 = .ok (.iload_n 2, 1) := by decide +kernel
theorem d_Table_column_13 : decode jc_Table_column 13 = .ok (.aload_n 0, 1) := by decide +kernel
theorem d_Table_column_14 : decode jc_Table_column 14 = .ok (.iload_n 3, 1) := by decide +kernel
theorem d_Table_column_15 : decode jc_Table_column 15 = .ok (.iload_n 1, 1) := by decide +kernel
theorem d_Table_column_16 : decode jc_Table_column 16 = .ok (.invokevirtual 23, 3) := by decide +kernel
theorem d_Table_column_19 : decode jc_Table_column 19 = .ok (.iload_n 3, 1) := by decide +kernel
theorem d_Table_column_20 : decode jc_Table_column 20 = .ok (.ishl, 1) := by decide +kernel
theorem d_Table_column_21 : decode jc_Table_column 21 = .ok (.ior, 1) := by decide +kernel
theorem d_Table_column_22 : decode jc_Table_column 22 = .ok (.istore_n 2, 1) := by decide +kernel
theorem d_Table_column_23 : decode jc_Table_column 23 = .ok (.iinc 3 1, 3) := by decide +kernel
theorem d_Table_column_26 : decode jc_Table_column 26 = .ok (.goto (-22), 3) := by decide +kernel
theorem d_Table_column_29 : decode jc_Table_column 29 = .ok (.iload_n 2, 1) := by decide +kernel
theorem d_Table_column_30 : decode jc_Table_column 30 = .ok (.ireturn, 1) := by decide +kernel
theorem d_Table_ones_0 : decode jc_Table_ones 0 = .ok (.iconst 0, 1) := by decide +kernel
theorem d_Table_ones_1 : decode jc_Table_ones 1 = .ok (.istore_n 1, 1) := by decide +kernel
theorem d_Table_ones_2 : decode jc_Table_ones 2 = .ok (.iconst 0, 1) := by decide +kernel
theorem d_Table_ones_3 : decode jc_Table_ones 3 = .ok (.istore_n 2, 1) := by decide +kernel
theorem d_Table_ones_4 : decode jc_Table_ones 4 = .ok (.iload_n 2, 1) := by decide +kernel
theorem d_Table_ones_5 : decode jc_Table_ones 5 = .ok (.aload_n 0, 1) := by decide +kernel
theorem d_Table_ones_6 : decode jc_Table_ones 6 = .ok (.getfield 15, 3) := by decide +kernel
theorem d_Table_ones_9 : decode jc_Table_ones 9 = .ok (.if_icmp .ge 21, 3) := by decide +kernel
theorem d_Table_ones_12 : decode jc_Table_ones 12 = .ok (.iload_n 1, 1) := by decide +kernel
theorem d_Table_ones_13 : decode jc_Table_ones 13 = .ok (.aload_n 0, 1) := by decide +kernel
theorem d_Table_ones_14 : decode jc_Table_ones 14 = .ok (.getfield 11, 3) := by decide +kernel
theorem d_Table_ones_17 : decode jc_Table_ones 17 = .ok (.iload_n 2, 1) := by decide +kernel
theorem d_Table_ones_18 : decode jc_Table_ones 18 = .ok (.iaload, 1) := by decide +kernel
theorem d_Table_ones_19 : decode jc_Table_ones 19 = .ok (.invokestatic 27, 3) := by decide +kernel
theorem d_Table_ones_22 : decode jc_Table_ones 22 = .ok (.iadd, 1) := by decide +kernel
theorem d_Table_ones_23 : decode jc_Table_ones 23 = .ok (.istore_n 1, 1) := by decide +kernel
theorem d_Table_ones_24 : decode jc_Table_ones 24 = .ok (.iinc 2 1, 3) := by decide +kernel
theorem d_Table_ones_27 : decode jc_Table_ones 27 = .ok (.goto (-23), 3) := by decide +kernel
theorem d_Table_ones_30 : decode jc_Table_ones 30 = .ok (.iload_n 1, 1) := by decide +kernel
theorem d_Table_ones_31 : decode jc_Table_ones 31 = .ok (.ireturn, 1) := by decide +kernel
theorem d_Table_loops_0 : decode jc_Table_loops 0 = .ok (.iconst 0, 1) := by decide +kernel
theorem d_Table_loops_1 : decode jc_Table_loops 1 = .ok (.istore_n 1, 1) := by decide +kernel
theorem d_Table_loops_2 : decode jc_Table_loops 2 = .ok (.iconst 0, 1) := by decide +kernel
theorem d_Table_loops_3 : decode jc_Table_loops 3 = .ok (.istore_n 2, 1) := by decide +kernel
theorem d_Table_loops_4 : decode jc_Table_loops 4 = .ok (.iload_n 2, 1) := by decide +kernel
theorem d_Table_loops_5 : decode jc_Table_loops 5 = .ok (.aload_n 0, 1) := by decide +kernel
theorem d_Table_loops_6 : decode jc_Table_loops 6 = .ok (.getfield 15, 3) := by decide +kernel
theorem d_Table_loops_9 : decode jc_Table_loops 9 = .ok (.if_icmp .ge 18, 3) := by decide +kernel
theorem d_Table_loops_12 : decode jc_Table_loops 12 = .ok (.iload_n 1, 1) := by decide +kernel
theorem d_Table_loops_13 : decode jc_Table_loops 13 = .ok (.aload_n 0, 1) := by decide +kernel
theorem d_Table_loops_14 : decode jc_Table_loops 14 = .ok (.iload_n 2, 1) := by decide +kernel
theorem d_Table_loops_15 : decode jc_Table_loops 15 = .ok (.iload_n 2, 1) := by decide +kernel
theorem d_Table_loops_16 : decode jc_Table_loops 16 = .ok (.invokevirtual 23, 3) := by decide +kernel
theorem d_Table_loops_19 : decode jc_Table_loops 19 = .ok (.iadd, 1) := by decide +kernel
theorem d_Table_loops_20 : decode jc_Table_loops 20 = .ok (.istore_n 1, 1) := by decide +kernel
theorem d_Table_loops_21 : decode jc_Table_loops 21 = .ok (.iinc 2 1, 3) := by decide +kernel
theorem d_Table_loops_24 : decode jc_Table_loops 24 = .ok (.goto (-20), 3) := by decide +kernel
theorem d_Table_loops_27 : decode jc_Table_loops 27 = .ok (.iload_n 1, 1) := by decide +kernel
theorem d_Table_loops_28 : decode jc_Table_loops 28 = .ok (.ireturn, 1) := by decide +kernel
theorem d_Table_isEverywhere_0 : decode jc_Table_isEverywhere 0 = .ok (.iconst 0, 1) := by decide +kernel
theorem d_Table_isEverywhere_1 : decode jc_Table_isEverywhere 1 = .ok (.istore_n 1, 1) := by decide +kernel
theorem d_Table_isEverywhere_2 : decode jc_Table_isEverywhere 2 = .ok (.iload_n 1, 1) := by decide +kernel
theorem d_Table_isEverywhere_3 : decode jc_Table_isEverywhere 3 = .ok (.aload_n 0, 1) := by decide +kernel
theorem d_Table_isEverywhere_4 : decode jc_Table_isEverywhere 4 = .ok (.getfield 15, 3) := by decide +kernel
theorem d_Table_isEverywhere_7 : decode jc_Table_isEverywhere 7 = .ok (.if_icmp .ge 24, 3) := by decide +kernel
theorem d_Table_isEverywhere_10 : decode jc_Table_isEverywhere 10 = .ok (.aload_n 0, 1) := by decide +kernel
theorem d_Table_isEverywhere_11 : decode jc_Table_isEverywhere 11 = .ok (.getfield 11, 3) := by decide +kernel
theorem d_Table_isEverywhere_14 : decode jc_Table_isEverywhere 14 = .ok (.iload_n 1, 1) := by decide +kernel
theorem d_Table_isEverywhere_15 : decode jc_Table_isEverywhere 15 = .ok (.iaload, 1) := by decide +kernel
theorem d_Table_isEverywhere_16 : decode jc_Table_isEverywhere 16 = .ok (.aload_n 0, 1) := by decide +kernel
theorem d_Table_isEverywhere_17 : decode jc_Table_isEverywhere 17 = .ok (.invokevirtual 19, 3) := by decide +kernel
theorem d_Table_isEverywhere_20 : decode jc_Table_isEverywhere 20 = .ok (.if_icmp .eq 5, 3) := by decide +kernel
theorem d_Table_isEverywhere_23 : decode jc_Table_isEverywhere 23 = .ok (.iconst 0, 1) := by decide +kernel
theorem d_Table_isEverywhere_24 : decode jc_Table_isEverywhere 24 = .ok (.ireturn, 1) := by decide +kernel
theorem d_Table_isEverywhere_25 : decode jc_Table_isEverywhere 25 = .ok (.iinc 1 1, 3) := by decide +kernel
theorem d_Table_isEverywhere_28 : decode jc_Table_isEverywhere 28 = .ok (.goto (-26), 3) := by decide +kernel
theorem d_Table_isEverywhere_31 : decode jc_Table_isEverywhere 31 = .ok (.iconst 1, 1) := by decide +kernel
theorem d_Table_isEverywhere_32 : decode jc_Table_isEverywhere 32 = .ok (.ireturn, 1) := by decide +kernel
theorem d_Table_isLike_0 : decode jc_Table_isLike 0 = .ok (.aload_n 0, 1) := by decide +kernel
theorem d_Table_isLike_1 : decode jc_Table_isLike 1 = .ok (.getfield 15, 3) := by decide +kernel
theorem d_Table_isLike_4 : decode jc_Table_isLike 4 = .ok (.aload_n 1, 1) := by decide +kernel
theorem d_Table_isLike_5 : decode jc_Table_isLike 5 = .ok (.getfield 15, 3) := by decide +kernel
theorem d_Table_isLike_8 : decode jc_Table_isLike 8 = .ok (.if_icmp .eq 5, 3) := by decide +kernel
theorem d_Table_isLike_11 : decode jc_Table_isLike 11 = .ok (.iconst 0, 1) := by decide +kernel
theorem d_Table_isLike_12 : decode jc_Table_isLike 12 = .ok (.ireturn, 1) := by decide +kernel
theorem d_Table_isLike_13 : decode jc_Table_isLike 13 = .ok (.iconst 0, 1) := by decide +kernel
theorem d_Table_isLike_14 : decode jc_Table_isLike 14 = .ok (.istore_n 2, 1) := by decide +kernel
theorem d_Table_isLike_15 : decode jc_Table_isLike 15 = .ok (.iload_n 2, 1) := by decide +kernel
theorem d_Table_isLike_16 : decode jc_Table_isLike 16 = .ok (.aload_n 0, 1) := by decide +kernel
theorem d_Table_isLike_17 : decode jc_Table_isLike 17 = .ok (.getfield 15, 3) := by decide +kernel
theorem d_Table_isLike_20 : decode jc_Table_isLike 20 = .ok (.if_icmp .ge 26, 3) := by decide +kernel
theorem d_Table_isLike_23 : decode jc_Table_isLike 23 = .ok (.aload_n 0, 1) := by decide +kernel
theorem d_Table_isLike_24 : decode jc_Table_isLike 24 = .ok (.getfield 11, 3) := by decide +kernel
theorem d_Table_isLike_27 : decode jc_Table_isLike 27 = .ok (.iload_n 2, 1) := by decide +kernel
theorem d_Table_isLike_28 : decode jc_Table_isLike 28 = .ok (.iaload, 1) := by decide +kernel
theorem d_Table_isLike_29 : decode jc_Table_isLike 29 = .ok (.aload_n 1, 1) := by decide +kernel
theorem d_Table_isLike_30 : decode jc_Table_isLike 30 = .ok (.getfield 11, 3) := by decide +kernel
theorem d_Table_isLike_33 : decode jc_Table_isLike 33 = .ok (.iload_n 2, 1) := by decide +kernel
theorem d_Table_isLike_34 : decode jc_Table_isLike 34 = .ok (.iaload, 1) := by decide +kernel
theorem d_Table_isLike_35 : decode jc_Table_isLike 35 = .ok (.if_icmp .eq 5, 3) := by decide +kernel
theorem d_Table_isLike_38 : decode jc_Table_isLike 38 = .ok (.iconst 0, 1) := by decide +kernel
theorem d_Table_isLike_39 : decode jc_Table_isLike 39 = .ok (.ireturn, 1) := by decide +kernel
theorem d_Table_isLike_40 : decode jc_Table_isLike 40 = .ok (.iinc 2 1, 3) := by decide +kernel
theorem d_Table_isLike_43 : decode jc_Table_isLike 43 = .ok (.goto (-28), 3) := by decide +kernel
theorem d_Table_isLike_46 : decode jc_Table_isLike 46 = .ok (.iconst 1, 1) := by decide +kernel
theorem d_Table_isLike_47 : decode jc_Table_isLike 47 = .ok (.ireturn, 1) := by decide +kernel
theorem d_Table_number_0 : decode jc_Table_number 0 = .ok (.iconst 0, 1) := by decide +kernel
theorem d_Table_number_1 : decode jc_Table_number 1 = .ok (.istore_n 1, 1) := by decide +kernel
theorem d_Table_number_2 : decode jc_Table_number 2 = .ok (.iconst 0, 1) := by decide +kernel
theorem d_Table_number_3 : decode jc_Table_number 3 = .ok (.istore_n 2, 1) := by decide +kernel
theorem d_Table_number_4 : decode jc_Table_number 4 = .ok (.iload_n 2, 1) := by decide +kernel
theorem d_Table_number_5 : decode jc_Table_number 5 = .ok (.aload_n 0, 1) := by decide +kernel
theorem d_Table_number_6 : decode jc_Table_number 6 = .ok (.getfield 15, 3) := by decide +kernel
theorem d_Table_number_9 : decode jc_Table_number 9 = .ok (.if_icmp .ge 30, 3) := by decide +kernel
theorem d_Table_number_12 : decode jc_Table_number 12 = .ok (.iload_n 2, 1) := by decide +kernel
theorem d_Table_number_13 : decode jc_Table_number 13 = .ok (.iconst 4, 1) := by decide +kernel
theorem d_Table_number_14 : decode jc_Table_number 14 = .ok (.if_icmp .ge 25, 3) := by decide +kernel
theorem d_Table_number_17 : decode jc_Table_number 17 = .ok (.iload_n 1, 1) := by decide +kernel
theorem d_Table_number_18 : decode jc_Table_number 18 = .ok (.aload_n 0, 1) := by decide +kernel
theorem d_Table_number_19 : decode jc_Table_number 19 = .ok (.getfield 11, 3) := by decide +kernel
theorem d_Table_number_22 : decode jc_Table_number 22 = .ok (.iload_n 2, 1) := by decide +kernel
theorem d_Table_number_23 : decode jc_Table_number 23 = .ok (.iaload, 1) := by decide +kernel
theorem d_Table_number_24 : decode jc_Table_number 24 = .ok (.aload_n 0, 1) := by decide +kernel
theorem d_Table_number_25 : decode jc_Table_number 25 = .ok (.getfield 15, 3) := by decide +kernel
theorem d_Table_number_28 : decode jc_Table_number 28 = .ok (.iload_n 2, 1) := by decide +kernel
theorem d_Table_number_29 : decode jc_Table_number 29 = .ok (.imul, 1) := by decide +kernel
theorem d_Table_number_30 : decode jc_Table_number 30 = .ok (.ishl, 1) := by decide +kernel
theorem d_Table_number_31 : decode jc_Table_number 31 = .ok (.ior, 1) := by decide +kernel
theorem d_Table_number_32 : decode jc_Table_number 32 = .ok (.istore_n 1, 1) := by decide +kernel
theorem d_Table_number_33 : decode jc_Table_number 33 = .ok (.iinc 2 1, 3) := by decide +kernel
theorem d_Table_number_36 : decode jc_Table_number 36 = .ok (.goto (-32), 3) := by decide +kernel
theorem d_Table_number_39 : decode jc_Table_number 39 = .ok (.iload_n 1, 1) := by decide +kernel
theorem d_Table_number_40 : decode jc_Table_number 40 = .ok (.ireturn, 1) := by decide +kernel
theorem d_Table_becomeNumbered_0 : decode jc_Table_becomeNumbered 0 = .ok (.aload_n 0, 1) := by decide +kernel
theorem d_Table_becomeNumbered_1 : decode jc_Table_becomeNumbered 1 = .ok (.iload_n 1, 1) := by decide +kernel
theorem d_Table_becomeNumbered_2 : decode jc_Table_becomeNumbered 2 = .ok (.putfield 15, 3) := by decide +kernel
theorem d_Table_becomeNumbered_5 : decode jc_Table_becomeNumbered 5 = .ok (.iconst 0, 1) := by decide +kernel
theorem d_Table_becomeNumbered_6 : decode jc_Table_becomeNumbered 6 = .ok (.istore_n 3, 1) := by decide +kernel
theorem d_Table_becomeNumbered_7 : decode jc_Table_becomeNumbered 7 = .ok (.iload_n 3, 1) := by decide +kernel
theorem d_Table_becomeNumbered_8 : decode jc_Table_becomeNumbered 8 = .ok (.aload_n 0, 1) := by decide +kernel
theorem d_Table_becomeNumbered_9 : decode jc_Table_becomeNumbered 9 = .ok (.getfield 15, 3) := by decide +kernel
theorem d_Table_becomeNumbered_12 : decode jc_Table_becomeNumbered 12 = .ok (.if_icmp .ge 33, 3) := by decide +kernel
theorem d_Table_becomeNumbered_15 : decode jc_Table_becomeNumbered 15 = .ok (.iload_n 3, 1) := by decide +kernel
theorem d_Table_becomeNumbered_16 : decode jc_Table_becomeNumbered 16 = .ok (.iconst 4, 1) := by decide +kernel
theorem d_Table_becomeNumbered_17 : decode jc_Table_becomeNumbered 17 = .ok (.if_icmp .ge 28, 3) := by decide +kernel
theorem d_Table_becomeNumbered_20 : decode jc_Table_becomeNumbered 20 = .ok (.aload_n 0, 1) := by decide +kernel
theorem d_Table_becomeNumbered_21 : decode jc_Table_becomeNumbered 21 = .ok (.getfield 11, 3) := by decide +kernel
theorem d_Table_becomeNumbered_24 : decode jc_Table_becomeNumbered 24 = .ok (.iload_n 3, 1) := by decide +kernel
theorem d_Table_becomeNumbered_25 : decode jc_Table_becomeNumbered 25 = .ok (.iload_n 2, 1) := by decide +kernel
theorem d_Table_becomeNumbered_26 : decode jc_Table_becomeNumbered 26 = .ok (.aload_n 0, 1) := by decide +kernel
theorem d_Table_becomeNumbered_27 : decode jc_Table_becomeNumbered 27 = .ok (.getfield 15, 3) := by decide +kernel
theorem d_Table_becomeNumbered_30 : decode jc_Table_becomeNumbered 30 = .ok (.iload_n 3, 1) := by decide +kernel
theorem d_Table_becomeNumbered_31 : decode jc_Table_becomeNumbered 31 = .ok (.imul, 1) := by decide +kernel
theorem d_Table_becomeNumbered_32 : decode jc_Table_becomeNumbered 32 = .ok (.ishr, 1) := by decide +kernel
theorem d_Table_becomeNumbered_33 : decode jc_Table_becomeNumbered 33 = .ok (.aload_n 0, 1) := by decide +kernel
theorem d_Table_becomeNumbered_34 : decode jc_Table_becomeNumbered 34 = .ok (.invokevirtual 19, 3) := by decide +kernel
theorem d_Table_becomeNumbered_37 : decode jc_Table_becomeNumbered 37 = .ok (.iand, 1) := by decide +kernel
theorem d_Table_becomeNumbered_38 : decode jc_Table_becomeNumbered 38 = .ok (.iastore, 1) := by decide +kernel
theorem d_Table_becomeNumbered_39 : decode jc_Table_becomeNumbered 39 = .ok (.iinc 3 1, 3) := by decide +kernel
theorem d_Table_becomeNumbered_42 : decode jc_Table_becomeNumbered 42 = .ok (.goto (-35), 3) := by decide +kernel
theorem d_Table_becomeNumbered_45 : decode jc_Table_becomeNumbered 45 = .ok (.return_, 1) := by decide +kernel
theorem d_Table_become_0 : decode jc_Table_become 0 = .ok (.aload_n 0, 1) := by decide +kernel
theorem d_Table_become_1 : decode jc_Table_become 1 = .ok (.aload_n 1, 1) := by decide +kernel
theorem d_Table_become_2 : decode jc_Table_become 2 = .ok (.getfield 15, 3) := by decide +kernel
theorem d_Table_become_5 : decode jc_Table_become 5 = .ok (.putfield 15, 3) := by decide +kernel
theorem d_Table_become_8 : decode jc_Table_become 8 = .ok (.iconst 0, 1) := by decide +kernel
theorem d_Table_become_9 : decode jc_Table_become 9 = .ok (.istore_n 2, 1) := by decide +kernel
theorem d_Table_become_10 : decode jc_Table_become 10 = .ok (.iload_n 2, 1) := by decide +kernel
theorem d_Table_become_11 : decode jc_Table_become 11 = .ok (.aload_n 0, 1) := by decide +kernel
theorem d_Table_become_12 : decode jc_Table_become 12 = .ok (.getfield 15, 3) := by decide +kernel
theorem d_Table_become_15 : decode jc_Table_become 15 = .ok (.if_icmp .ge 21, 3) := by decide +kernel
theorem d_Table_become_18 : decode jc_Table_become 18 = .ok (.aload_n 0, 1) := by decide +kernel
theorem d_Table_become_19 : decode jc_Table_become 19 = .ok (.getfield 11, 3) := by decide +kernel
theorem d_Table_become_22 : decode jc_Table_become 22 = .ok (.iload_n 2, 1) := by decide +kernel
theorem d_Table_become_23 : decode jc_Table_become 23 = .ok (.aload_n 1, 1) := by decide +kernel
theorem d_Table_become_24 : decode jc_Table_become 24 = .ok (.getfield 11, 3) := by decide +kernel
theorem d_Table_become_27 : decode jc_Table_become 27 = .ok (.iload_n 2, 1) := by decide +kernel
theorem d_Table_become_28 : decode jc_Table_become 28 = .ok (.iaload, 1) := by decide +kernel
theorem d_Table_become_29 : decode jc_Table_become 29 = .ok (.iastore, 1) := by decide +kernel
theorem d_Table_become_30 : decode jc_Table_become 30 = .ok (.iinc 2 1, 3) := by decide +kernel
theorem d_Table_become_33 : decode jc_Table_become 33 = .ok (.goto (-23), 3) := by decide +kernel
theorem d_Table_become_36 : decode jc_Table_become 36 = .ok (.return_, 1) := by decide +kernel
theorem d_Table_becomePlain_0 : decode jc_Table_becomePlain 0 = .ok (.aload_n 0, 1) := by decide +kernel
theorem d_Table_becomePlain_1 : decode jc_Table_becomePlain 1 = .ok (.iload_n 1, 1) := by decide +kernel
theorem d_Table_becomePlain_2 : decode jc_Table_becomePlain 2 = .ok (.putfield 15, 3) := by decide +kernel
theorem d_Table_becomePlain_5 : decode jc_Table_becomePlain 5 = .ok (.iconst 0, 1) := by decide +kernel
theorem d_Table_becomePlain_6 : decode jc_Table_becomePlain 6 = .ok (.istore_n 3, 1) := by decide +kernel
theorem d_Table_becomePlain_7 : decode jc_Table_becomePlain 7 = .ok (.iload_n 3, 1) := by decide +kernel
theorem d_Table_becomePlain_8 : decode jc_Table_becomePlain 8 = .ok (.aload_n 0, 1) := by decide +kernel
theorem d_Table_becomePlain_9 : decode jc_Table_becomePlain 9 = .ok (.getfield 15, 3) := by decide +kernel
theorem d_Table_becomePlain_12 : decode jc_Table_becomePlain 12 = .ok (.if_icmp .ge 69, 3) := by decide +kernel
theorem d_Table_becomePlain_15 : decode jc_Table_becomePlain 15 = .ok (.iload_n 3, 1) := by decide +kernel
theorem d_Table_becomePlain_16 : decode jc_Table_becomePlain 16 = .ok (.aload_n 0, 1) := by decide +kernel
theorem d_Table_becomePlain_17 : decode jc_Table_becomePlain 17 = .ok (.getfield 15, 3) := by decide +kernel
theorem d_Table_becomePlain_20 : decode jc_Table_becomePlain 20 = .ok (.iconst 1, 1) := by decide +kernel
theorem d_Table_becomePlain_21 : decode jc_Table_becomePlain 21 = .ok (.isub, 1) := by decide +kernel
theorem d_Table_becomePlain_22 : decode jc_Table_becomePlain 22 = .ok (.if_icmp .ne 7, 3) := by decide +kernel
theorem d_Table_becomePlain_25 : decode jc_Table_becomePlain 25 = .ok (.iconst 0, 1) := by decide +kernel
theorem d_Table_becomePlain_26 : decode jc_Table_becomePlain 26 = .ok (.goto 6, 3) := by decide +kernel
theorem d_Table_becomePlain_29 : decode jc_Table_becomePlain 29 = .ok (.iload_n 3, 1) := by decide +kernel
theorem d_Table_becomePlain_30 : decode jc_Table_becomePlain 30 = .ok (.iconst 1, 1) := by decide +kernel
theorem d_Table_becomePlain_31 : decode jc_Table_becomePlain 31 = .ok (.iadd, 1) := by decide +kernel
theorem d_Table_becomePlain_32 : decode jc_Table_becomePlain 32 = .ok (.istore 4, 2) := by decide +kernel
theorem d_Table_becomePlain_34 : decode jc_Table_becomePlain 34 = .ok (.aload_n 0, 1) := by decide +kernel
theorem d_Table_becomePlain_35 : decode jc_Table_becomePlain 35 = .ok (.getfield 11, 3) := by decide +kernel
theorem d_Table_becomePlain_38 : decode jc_Table_becomePlain 38 = .ok (.iload_n 3, 1) := by decide +kernel
theorem d_Table_becomePlain_39 : decode jc_Table_becomePlain 39 = .ok (.iload_n 2, 1) := by decide +kernel
theorem d_Table_becomePlain_40 : decode jc_Table_becomePlain 40 = .ok (.ifCond .ne 7, 3) := by decide +kernel
theorem d_Table_becomePlain_43 : decode jc_Table_becomePlain 43 = .ok (.iconst 0, 1) := by decide +kernel
theorem d_Table_becomePlain_44 : decode jc_Table_becomePlain 44 = .ok (.goto 30, 3) := by decide +kernel
theorem d_Table_becomePlain_47 : decode jc_Table_becomePlain 47 = .ok (.iload_n 2, 1) := by decide +kernel
theorem d_Table_becomePlain_48 : decode jc_Table_becomePlain 48 = .ok (.iconst 1, 1) := by decide +kernel
theorem d_Table_becomePlain_49 : decode jc_Table_becomePlain 49 = .ok (.if_icmp .ne 10, 3) := by decide +kernel
theorem d_Table_becomePlain_52 : decode jc_Table_becomePlain 52 = .ok (.aload_n 0, 1) := by decide +kernel
theorem d_Table_becomePlain_53 : decode jc_Table_becomePlain 53 = .ok (.invokevirtual 19, 3) := by decide +kernel
theorem d_Table_becomePlain_56 : decode jc_Table_becomePlain 56 = .ok (.goto 18, 3) := by decide +kernel
theorem d_Table_becomePlain_59 : decode jc_Table_becomePlain 59 = .ok (.iload_n 2, 1) := by decide +kernel
theorem d_Table_becomePlain_60 : decode jc_Table_becomePlain 60 = .ok (.iconst 2, 1) := by decide +kernel
theorem d_Table_becomePlain_61 : decode jc_Table_becomePlain 61 = .ok (.if_icmp .ne 9, 3) := by decide +kernel
theorem d_Table_becomePlain_64 : decode jc_Table_becomePlain 64 = .ok (.iconst 1, 1) := by decide +kernel
theorem d_Table_becomePlain_65 : decode jc_Table_becomePlain 65 = .ok (.iload_n 3, 1) := by decide +kernel
theorem d_Table_becomePlain_66 : decode jc_Table_becomePlain 66 = .ok (.ishl, 1) := by decide +kernel
theorem d_Table_becomePlain_67 : decode jc_Table_becomePlain 67 = .ok (.goto 7, 3) := by decide +kernel
theorem d_Table_becomePlain_70 : decode jc_Table_becomePlain 70 = .ok (.iconst 1, 1) := by decide +kernel
theorem d_Table_becomePlain_71 : decode jc_Table_becomePlain 71 = .ok (.iload 4, 2) := by decide +kernel
theorem d_Table_becomePlain_73 : decode jc_Table_becomePlain 73 = .ok (.ishl, 1) := by decide +kernel
theorem d_Table_becomePlain_74 : decode jc_Table_becomePlain 74 = .ok (.iastore, 1) := by decide +kernel
theorem d_Table_becomePlain_75 : decode jc_Table_becomePlain 75 = .ok (.iinc 3 1, 3) := by decide +kernel
theorem d_Table_becomePlain_78 : decode jc_Table_becomePlain 78 = .ok (.goto (-71), 3) := by decide +kernel
theorem d_Table_becomePlain_81 : decode jc_Table_becomePlain 81 = .ok (.iload_n 2, 1) := by decide +kernel
theorem d_Table_becomePlain_82 : decode jc_Table_becomePlain 82 = .ok (.iconst 4, 1) := by decide +kernel
theorem d_Table_becomePlain_83 : decode jc_Table_becomePlain 83 = .ok (.if_icmp .ne 26, 3) := by decide +kernel
theorem d_Table_becomePlain_86 : decode jc_Table_becomePlain 86 = .ok (.aload_n 0, 1) := by decide +kernel
theorem d_Table_becomePlain_87 : decode jc_Table_becomePlain 87 = .ok (.getfield 15, 3) := by decide +kernel
theorem d_Table_becomePlain_90 : decode jc_Table_becomePlain 90 = .ok (.iconst 1, 1) := by decide +kernel
theorem d_Table_becomePlain_91 : decode jc_Table_becomePlain 91 = .ok (.if_icmp .le 18, 3) := by decide +kernel
theorem d_Table_becomePlain_94 : decode jc_Table_becomePlain 94 = .ok (.aload_n 0, 1) := by decide +kernel
theorem d_Table_becomePlain_95 : decode jc_Table_becomePlain 95 = .ok (.getfield 11, 3) := by decide +kernel
theorem d_Table_becomePlain_98 : decode jc_Table_becomePlain 98 = .ok (.aload_n 0, 1) := by decide +kernel
theorem d_Table_becomePlain_99 : decode jc_Table_becomePlain 99 = .ok (.getfield 15, 3) := by decide +kernel
theorem d_Table_becomePlain_102 : decode jc_Table_becomePlain 102 = .ok (.iconst 1, 1) := by decide +kernel
theorem d_Table_becomePlain_103 : decode jc_Table_becomePlain 103 = .ok (.isub, 1) := by decide +kernel
theorem d_Table_becomePlain_104 : decode jc_Table_becomePlain 104 = .ok (.dup2, 1) := by decide +kernel
theorem d_Table_becomePlain_105 : decode jc_Table_becomePlain 105 = .ok (.iaload, 1) := by decide +kernel
theorem d_Table_becomePlain_106 : decode jc_Table_becomePlain 106 = .ok (.iconst 2, 1) := by decide +kernel
theorem d_Table_becomePlain_107 : decode jc_Table_becomePlain 107 = .ok (.ior, 1) := by decide +kernel
theorem d_Table_becomePlain_108 : decode jc_Table_becomePlain 108 = .ok (.iastore, 1) := by decide +kernel
theorem d_Table_becomePlain_109 : decode jc_Table_becomePlain 109 = .ok (.return_, 1) := by decide +kernel
theorem d_Table_join_0 : decode jc_Table_join 0 = .ok (.iconst 0, 1) := by decide +kernel
theorem d_Table_join_1 : decode jc_Table_join 1 = .ok (.istore_n 2, 1) := by decide +kernel
theorem d_Table_join_2 : decode jc_Table_join 2 = .ok (.iload_n 2, 1) := by decide +kernel
theorem d_Table_join_3 : decode jc_Table_join 3 = .ok (.aload_n 0, 1) := by decide +kernel
theorem d_Table_join_4 : decode jc_Table_join 4 = .ok (.getfield 15, 3) := by decide +kernel
theorem d_Table_join_7 : decode jc_Table_join 7 = .ok (.if_icmp .ge 24, 3) := by decide +kernel
theorem d_Table_join_10 : decode jc_Table_join 10 = .ok (.aload_n 0, 1) := by decide +kernel
theorem d_Table_join_11 : decode jc_Table_join 11 = .ok (.getfield 11, 3) := by decide +kernel
theorem d_Table_join_14 : decode jc_Table_join 14 = .ok (.iload_n 2, 1) := by decide +kernel
theorem d_Table_join_15 : decode jc_Table_join 15 = .ok (.dup2, 1) := by decide +kernel
theorem d_Table_join_16 : decode jc_Table_join 16 = .ok (.iaload, 1) := by decide +kernel
theorem d_Table_join_17 : decode jc_Table_join 17 = .ok (.aload_n 1, 1) := by decide +kernel
theorem d_Table_join_18 : decode jc_Table_join 18 = .ok (.getfield 11, 3) := by decide +kernel
theorem d_Table_join_21 : decode jc_Table_join 21 = .ok (.iload_n 2, 1) := by decide +kernel
theorem d_Table_join_22 : decode jc_Table_join 22 = .ok (.iaload, 1) := by decide +kernel
theorem d_Table_join_23 : decode jc_Table_join 23 = .ok (.ior, 1) := by decide +kernel
theorem d_Table_join_24 : decode jc_Table_join 24 = .ok (.iastore, 1) := by decide +kernel
theorem d_Table_join_25 : decode jc_Table_join 25 = .ok (.iinc 2 1, 3) := by decide +kernel
theorem d_Table_join_28 : decode jc_Table_join 28 = .ok (.goto (-26), 3) := by decide +kernel
theorem d_Table_join_31 : decode jc_Table_join 31 = .ok (.return_, 1) := by decide +kernel
theorem d_Table_meet_0 : decode jc_Table_meet 0 = .ok (.iconst 0, 1) := by decide +kernel
theorem d_Table_meet_1 : decode jc_Table_meet 1 = .ok (.istore_n 2, 1) := by decide +kernel
theorem d_Table_meet_2 : decode jc_Table_meet 2 = .ok (.iload_n 2, 1) := by decide +kernel
theorem d_Table_meet_3 : decode jc_Table_meet 3 = .ok (.aload_n 0, 1) := by decide +kernel
theorem d_Table_meet_4 : decode jc_Table_meet 4 = .ok (.getfield 15, 3) := by decide +kernel
theorem d_Table_meet_7 : decode jc_Table_meet 7 = .ok (.if_icmp .ge 24, 3) := by decide +kernel
theorem d_Table_meet_10 : decode jc_Table_meet 10 = .ok (.aload_n 0, 1) := by decide +kernel
theorem d_Table_meet_11 : decode jc_Table_meet 11 = .ok (.getfield 11, 3) := by decide +kernel
theorem d_Table_meet_14 : decode jc_Table_meet 14 = .ok (.iload_n 2, 1) := by decide +kernel
theorem d_Table_meet_15 : decode jc_Table_meet 15 = .ok (.dup2, 1) := by decide +kernel
theorem d_Table_meet_16 : decode jc_Table_meet 16 = .ok (.iaload, 1) := by decide +kernel
theorem d_Table_meet_17 : decode jc_Table_meet 17 = .ok (.aload_n 1, 1) := by decide +kernel
theorem d_Table_meet_18 : decode jc_Table_meet 18 = .ok (.getfield 11, 3) := by decide +kernel
theorem d_Table_meet_21 : decode jc_Table_meet 21 = .ok (.iload_n 2, 1) := by decide +kernel
theorem d_Table_meet_22 : decode jc_Table_meet 22 = .ok (.iaload, 1) := by decide +kernel
theorem d_Table_meet_23 : decode jc_Table_meet 23 = .ok (.iand, 1) := by decide +kernel
theorem d_Table_meet_24 : decode jc_Table_meet 24 = .ok (.iastore, 1) := by decide +kernel
theorem d_Table_meet_25 : decode jc_Table_meet 25 = .ok (.iinc 2 1, 3) := by decide +kernel
theorem d_Table_meet_28 : decode jc_Table_meet 28 = .ok (.goto (-26), 3) := by decide +kernel
theorem d_Table_meet_31 : decode jc_Table_meet 31 = .ok (.return_, 1) := by decide +kernel
theorem d_Table_negate_0 : decode jc_Table_negate 0 = .ok (.iconst 0, 1) := by decide +kernel
theorem d_Table_negate_1 : decode jc_Table_negate 1 = .ok (.istore_n 1, 1) := by decide +kernel
theorem d_Table_negate_2 : decode jc_Table_negate 2 = .ok (.iload_n 1, 1) := by decide +kernel
theorem d_Table_negate_3 : decode jc_Table_negate 3 = .ok (.aload_n 0, 1) := by decide +kernel
theorem d_Table_negate_4 : decode jc_Table_negate 4 = .ok (.getfield 15, 3) := by decide +kernel
theorem d_Table_negate_7 : decode jc_Table_negate 7 = .ok (.if_icmp .ge 28, 3) := by decide +kernel
theorem d_Table_negate_10 : decode jc_Table_negate 10 = .ok (.aload_n 0, 1) := by decide +kernel
theorem d_Table_negate_11 : decode jc_Table_negate 11 = .ok (.getfield 11, 3) := by decide +kernel
theorem d_Table_negate_14 : decode jc_Table_negate 14 = .ok (.iload_n 1, 1) := by decide +kernel
theorem d_Table_negate_15 : decode jc_Table_negate 15 = .ok (.aload_n 0, 1) := by decide +kernel
theorem d_Table_negate_16 : decode jc_Table_negate 16 = .ok (.getfield 11, 3) := by decide +kernel
theorem d_Table_negate_19 : decode jc_Table_negate 19 = .ok (.iload_n 1, 1) := by decide +kernel
theorem d_Table_negate_20 : decode jc_Table_negate 20 = .ok (.iaload, 1) := by decide +kernel
theorem d_Table_negate_21 : decode jc_Table_negate 21 = .ok (.iconst (-1), 1) := by decide +kernel
theorem d_Table_negate_22 : decode jc_Table_negate 22 = .ok (.ixor, 1) := by decide +kernel
theorem d_Table_negate_23 : decode jc_Table_negate 23 = .ok (.aload_n 0, 1) := by decide +kernel
theorem d_Table_negate_24 : decode jc_Table_negate 24 = .ok (.invokevirtual 19, 3) := by decide +kernel
theorem d_Table_negate_27 : decode jc_Table_negate 27 = .ok (.iand, 1) := by decide +kernel
theorem d_Table_negate_28 : decode jc_Table_negate 28 = .ok (.iastore, 1) := by decide +kernel
theorem d_Table_negate_29 : decode jc_Table_negate 29 = .ok (.iinc 1 1, 3) := by decide +kernel
theorem d_Table_negate_32 : decode jc_Table_negate 32 = .ok (.goto (-30), 3) := by decide +kernel
theorem d_Table_negate_35 : decode jc_Table_negate 35 = .ok (.return_, 1) := by decide +kernel
theorem d_Table_turn_0 : decode jc_Table_turn 0 = .ok (.aload_n 0, 1) := by decide +kernel
theorem d_Table_turn_1 : decode jc_Table_turn 1 = .ok (.aload_n 1, 1) := by decide +kernel
theorem d_Table_turn_2 : decode jc_Table_turn 2 = .ok (.getfield 15, 3) := by decide +kernel
theorem d_Table_turn_5 : decode jc_Table_turn 5 = .ok (.putfield 15, 3) := by decide +kernel
theorem d_Table_turn_8 : decode jc_Table_turn 8 = .ok (.iconst 0, 1) := by decide +kernel
theorem d_Table_turn_9 : decode jc_Table_turn 9 = .ok (.istore_n 2, 1) := by decide +kernel
theorem d_Table_turn_10 : decode jc_Table_turn 10 = .ok (.iload_n 2, 1) := by decide +kernel
theorem d_Table_turn_11 : decode jc_Table_turn 11 = .ok (.aload_n 0, 1) := by decide +kernel
theorem d_Table_turn_12 : decode jc_Table_turn 12 = .ok (.getfield 15, 3) := by decide +kernel
theorem d_Table_turn_15 : decode jc_Table_turn 15 = .ok (.if_icmp .ge 20, 3) := by decide +kernel
theorem d_Table_turn_18 : decode jc_Table_turn 18 = .ok (.aload_n 0, 1) := by decide +kernel
theorem d_Table_turn_19 : decode jc_Table_turn 19 = .ok (.getfield 11, 3) := by decide +kernel
theorem d_Table_turn_22 : decode jc_Table_turn 22 = .ok (.iload_n 2, 1) := by decide +kernel
theorem d_Table_turn_23 : decode jc_Table_turn 23 = .ok (.aload_n 1, 1) := by decide +kernel
theorem d_Table_turn_24 : decode jc_Table_turn 24 = .ok (.iload_n 2, 1) := by decide +kernel
theorem d_Table_turn_25 : decode jc_Table_turn 25 = .ok (.invokevirtual 33, 3) := by decide +kernel
theorem d_Table_turn_28 : decode jc_Table_turn 28 = .ok (.iastore, 1) := by decide +kernel
theorem d_Table_turn_29 : decode jc_Table_turn 29 = .ok (.iinc 2 1, 3) := by decide +kernel
theorem d_Table_turn_32 : decode jc_Table_turn 32 = .ok (.goto (-22), 3) := by decide +kernel
theorem d_Table_turn_35 : decode jc_Table_turn 35 = .ok (.return_, 1) := by decide +kernel
theorem d_Table_multiplyBy_0 : decode jc_Table_multiplyBy 0 = .ok (.iconst 0, 1) := by decide +kernel
theorem d_Table_multiplyBy_1 : decode jc_Table_multiplyBy 1 = .ok (.istore_n 2, 1) := by decide +kernel
theorem d_Table_multiplyBy_2 : decode jc_Table_multiplyBy 2 = .ok (.iload_n 2, 1) := by decide +kernel
theorem d_Table_multiplyBy_3 : decode jc_Table_multiplyBy 3 = .ok (.aload_n 0, 1) := by decide +kernel
theorem d_Table_multiplyBy_4 : decode jc_Table_multiplyBy 4 = .ok (.getfield 15, 3) := by decide +kernel
theorem d_Table_multiplyBy_7 : decode jc_Table_multiplyBy 7 = .ok (.if_icmp .ge 57, 3) := by decide +kernel
theorem d_Table_multiplyBy_10 : decode jc_Table_multiplyBy 10 = .ok (.iconst 0, 1) := by decide +kernel
theorem d_Table_multiplyBy_11 : decode jc_Table_multiplyBy 11 = .ok (.istore_n 3, 1) := by decide +kernel
theorem d_Table_multiplyBy_12 : decode jc_Table_multiplyBy 12 = .ok (.iconst 0, 1) := by decide +kernel
theorem d_Table_multiplyBy_13 : decode jc_Table_multiplyBy 13 = .ok (.istore 4, 2) := by decide +kernel
theorem d_Table_multiplyBy_15 : decode jc_Table_multiplyBy 15 = .ok (.iload 4, 2) := by decide +kernel
theorem d_Table_multiplyBy_17 : decode jc_Table_multiplyBy 17 = .ok (.aload_n 0, 1) := by decide +kernel
theorem d_Table_multiplyBy_18 : decode jc_Table_multiplyBy 18 = .ok (.getfield 15, 3) := by decide +kernel
theorem d_Table_multiplyBy_21 : decode jc_Table_multiplyBy 21 = .ok (.if_icmp .ge 30, 3) := by decide +kernel
theorem d_Table_multiplyBy_24 : decode jc_Table_multiplyBy 24 = .ok (.aload_n 0, 1) := by decide +kernel
theorem d_Table_multiplyBy_25 : decode jc_Table_multiplyBy 25 = .ok (.iload_n 2, 1) := by decide +kernel
theorem d_Table_multiplyBy_26 : decode jc_Table_multiplyBy 26 = .ok (.iload 4, 2) := by decide +kernel
theorem d_Table_multiplyBy_28 : decode jc_Table_multiplyBy 28 = .ok (.invokevirtual 23, 3) := by decide +kernel
theorem d_Table_multiplyBy_31 : decode jc_Table_multiplyBy 31 = .ok (.iconst 1, 1) := by decide +kernel
theorem d_Table_multiplyBy_32 : decode jc_Table_multiplyBy 32 = .ok (.if_icmp .ne 13, 3) := by decide +kernel
theorem d_Table_multiplyBy_35 : decode jc_Table_multiplyBy 35 = .ok (.iload_n 3, 1) := by decide +kernel
theorem d_Table_multiplyBy_36 : decode jc_Table_multiplyBy 36 = .ok (.aload_n 1, 1) := by decide +kernel
theorem d_Table_multiplyBy_37 : decode jc_Table_multiplyBy 37 = .ok (.getfield 11, 3) := by decide +kernel
theorem d_Table_multiplyBy_40 : decode jc_Table_multiplyBy 40 = .ok (.iload 4, 2) := by decide +kernel
theorem d_Table_multiplyBy_42 : decode jc_Table_multiplyBy 42 = .ok (.iaload, 1) := by decide +kernel
theorem d_Table_multiplyBy_43 : decode jc_Table_multiplyBy 43 = .ok (.ior, 1) := by decide +kernel
theorem d_Table_multiplyBy_44 : decode jc_Table_multiplyBy 44 = .ok (.istore_n 3, 1) := by decide +kernel
theorem d_Table_multiplyBy_45 : decode jc_Table_multiplyBy 45 = .ok (.iinc 4 1, 3) := by decide +kernel
theorem d_Table_multiplyBy_48 : decode jc_Table_multiplyBy 48 = .ok (.goto (-33), 3) := by decide +kernel
theorem d_Table_multiplyBy_51 : decode jc_Table_multiplyBy 51 = .ok (.aload_n 0, 1) := by decide +kernel
theorem d_Table_multiplyBy_52 : decode jc_Table_multiplyBy 52 = .ok (.getfield 11, 3) := by decide +kernel
theorem d_Table_multiplyBy_55 : decode jc_Table_multiplyBy 55 = .ok (.iload_n 2, 1) := by decide +kernel
theorem d_Table_multiplyBy_56 : decode jc_Table_multiplyBy 56 = .ok (.iload_n 3, 1) := by decide +kernel
theorem d_Table_multiplyBy_57 : decode jc_Table_multiplyBy 57 = .ok (.iastore, 1) := by decide +kernel
theorem d_Table_multiplyBy_58 : decode jc_Table_multiplyBy 58 = .ok (.iinc 2 1, 3) := by decide +kernel
theorem d_Table_multiplyBy_61 : decode jc_Table_multiplyBy 61 = .ok (.goto (-59), 3) := by decide +kernel
theorem d_Table_multiplyBy_64 : decode jc_Table_multiplyBy 64 = .ok (.return_, 1) := by decide +kernel
theorem d_Table_close_0 : decode jc_Table_close 0 = .ok (.iconst 0, 1) := by decide +kernel
theorem d_Table_close_1 : decode jc_Table_close 1 = .ok (.istore_n 1, 1) := by decide +kernel
theorem d_Table_close_2 : decode jc_Table_close 2 = .ok (.iload_n 1, 1) := by decide +kernel
theorem d_Table_close_3 : decode jc_Table_close 3 = .ok (.aload_n 0, 1) := by decide +kernel
theorem d_Table_close_4 : decode jc_Table_close 4 = .ok (.getfield 15, 3) := by decide +kernel
theorem d_Table_close_7 : decode jc_Table_close 7 = .ok (.if_icmp .ge 50, 3) := by decide +kernel
theorem d_Table_close_10 : decode jc_Table_close 10 = .ok (.iconst 0, 1) := by decide +kernel
theorem d_Table_close_11 : decode jc_Table_close 11 = .ok (.istore_n 2, 1) := by decide +kernel
theorem d_Table_close_12 : decode jc_Table_close 12 = .ok (.iload_n 2, 1) := by decide +kernel
theorem d_Table_close_13 : decode jc_Table_close 13 = .ok (.aload_n 0, 1) := by decide +kernel
theorem d_Table_close_14 : decode jc_Table_close 14 = .ok (.getfield 15, 3) := by decide +kernel
theorem d_Table_close_17 : decode jc_Table_close 17 = .ok (.if_icmp .ge 34, 3) := by decide +kernel
theorem d_Table_close_20 : decode jc_Table_close 20 = .ok (.aload_n 0, 1) := by decide +kernel
theorem d_Table_close_21 : decode jc_Table_close 21 = .ok (.iload_n 2, 1) := by decide +kernel
theorem d_Table_close_22 : decode jc_Table_close 22 = .ok (.iload_n 1, 1) := by decide +kernel
theorem d_Table_close_23 : decode jc_Table_close 23 = .ok (.invokevirtual 23, 3) := by decide +kernel
theorem d_Table_close_26 : decode jc_Table_close 26 = .ok (.iconst 1, 1) := by decide +kernel
theorem d_Table_close_27 : decode jc_Table_close 27 = .ok (.if_icmp .ne 18, 3) := by decide +kernel
theorem d_Table_close_30 : decode jc_Table_close 30 = .ok (.aload_n 0, 1) := by decide +kernel
theorem d_Table_close_31 : decode jc_Table_close 31 = .ok (.getfield 11, 3) := by decide +kernel
theorem d_Table_close_34 : decode jc_Table_close 34 = .ok (.iload_n 2, 1) := by decide +kernel
theorem d_Table_close_35 : decode jc_Table_close 35 = .ok (.dup2, 1) := by decide +kernel
theorem d_Table_close_36 : decode jc_Table_close 36 = .ok (.iaload, 1) := by decide +kernel
theorem d_Table_close_37 : decode jc_Table_close 37 = .ok (.aload_n 0, 1) := by decide +kernel
theorem d_Table_close_38 : decode jc_Table_close 38 = .ok (.getfield 11, 3) := by decide +kernel
theorem d_Table_close_41 : decode jc_Table_close 41 = .ok (.iload_n 1, 1) := by decide +kernel
theorem d_Table_close_42 : decode jc_Table_close 42 = .ok (.iaload, 1) := by decide +kernel
theorem d_Table_close_43 : decode jc_Table_close 43 = .ok (.ior, 1) := by decide +kernel
theorem d_Table_close_44 : decode jc_Table_close 44 = .ok (.iastore, 1) := by decide +kernel
theorem d_Table_close_45 : decode jc_Table_close 45 = .ok (.iinc 2 1, 3) := by decide +kernel
theorem d_Table_close_48 : decode jc_Table_close 48 = .ok (.goto (-36), 3) := by decide +kernel
theorem d_Table_close_51 : decode jc_Table_close 51 = .ok (.iinc 1 1, 3) := by decide +kernel
theorem d_Table_close_54 : decode jc_Table_close 54 = .ok (.goto (-52), 3) := by decide +kernel
theorem d_Table_close_57 : decode jc_Table_close 57 = .ok (.return_, 1) := by decide +kernel
theorem d_J_bitCount_0 : decode jc_J_bitCount 0 = .ok (.iload_n 0, 1) := by decide +kernel
theorem d_J_bitCount_1 : decode jc_J_bitCount 1 = .ok (.iload_n 0, 1) := by decide +kernel
theorem d_J_bitCount_2 : decode jc_J_bitCount 2 = .ok (.iconst 1, 1) := by decide +kernel
theorem d_J_bitCount_3 : decode jc_J_bitCount 3 = .ok (.iushr, 1) := by decide +kernel
theorem d_J_bitCount_4 : decode jc_J_bitCount 4 = .ok (.ldc_w 265, 3) := by decide +kernel
theorem d_J_bitCount_7 : decode jc_J_bitCount 7 = .ok (.iand, 1) := by decide +kernel
theorem d_J_bitCount_8 : decode jc_J_bitCount 8 = .ok (.isub, 1) := by decide +kernel
theorem d_J_bitCount_9 : decode jc_J_bitCount 9 = .ok (.istore_n 0, 1) := by decide +kernel
theorem d_J_bitCount_10 : decode jc_J_bitCount 10 = .ok (.iload_n 0, 1) := by decide +kernel
theorem d_J_bitCount_11 : decode jc_J_bitCount 11 = .ok (.ldc_w 266, 3) := by decide +kernel
theorem d_J_bitCount_14 : decode jc_J_bitCount 14 = .ok (.iand, 1) := by decide +kernel
theorem d_J_bitCount_15 : decode jc_J_bitCount 15 = .ok (.iload_n 0, 1) := by decide +kernel
theorem d_J_bitCount_16 : decode jc_J_bitCount 16 = .ok (.iconst 2, 1) := by decide +kernel
theorem d_J_bitCount_17 : decode jc_J_bitCount 17 = .ok (.iushr, 1) := by decide +kernel
theorem d_J_bitCount_18 : decode jc_J_bitCount 18 = .ok (.ldc_w 266, 3) := by decide +kernel
theorem d_J_bitCount_21 : decode jc_J_bitCount 21 = .ok (.iand, 1) := by decide +kernel
theorem d_J_bitCount_22 : decode jc_J_bitCount 22 = .ok (.iadd, 1) := by decide +kernel
theorem d_J_bitCount_23 : decode jc_J_bitCount 23 = .ok (.istore_n 0, 1) := by decide +kernel
theorem d_J_bitCount_24 : decode jc_J_bitCount 24 = .ok (.iload_n 0, 1) := by decide +kernel
theorem d_J_bitCount_25 : decode jc_J_bitCount 25 = .ok (.iload_n 0, 1) := by decide +kernel
theorem d_J_bitCount_26 : decode jc_J_bitCount 26 = .ok (.iconst 4, 1) := by decide +kernel
theorem d_J_bitCount_27 : decode jc_J_bitCount 27 = .ok (.iushr, 1) := by decide +kernel
theorem d_J_bitCount_28 : decode jc_J_bitCount 28 = .ok (.iadd, 1) := by decide +kernel
theorem d_J_bitCount_29 : decode jc_J_bitCount 29 = .ok (.ldc_w 267, 3) := by decide +kernel
theorem d_J_bitCount_32 : decode jc_J_bitCount 32 = .ok (.iand, 1) := by decide +kernel
theorem d_J_bitCount_33 : decode jc_J_bitCount 33 = .ok (.istore_n 0, 1) := by decide +kernel
theorem d_J_bitCount_34 : decode jc_J_bitCount 34 = .ok (.iload_n 0, 1) := by decide +kernel
theorem d_J_bitCount_35 : decode jc_J_bitCount 35 = .ok (.iload_n 0, 1) := by decide +kernel
theorem d_J_bitCount_36 : decode jc_J_bitCount 36 = .ok (.bipush 8, 2) := by decide +kernel
theorem d_J_bitCount_38 : decode jc_J_bitCount 38 = .ok (.iushr, 1) := by decide +kernel
theorem d_J_bitCount_39 : decode jc_J_bitCount 39 = .ok (.iadd, 1) := by decide +kernel
theorem d_J_bitCount_40 : decode jc_J_bitCount 40 = .ok (.istore_n 0, 1) := by decide +kernel
theorem d_J_bitCount_41 : decode jc_J_bitCount 41 = .ok (.iload_n 0, 1) := by decide +kernel
theorem d_J_bitCount_42 : decode jc_J_bitCount 42 = .ok (.iload_n 0, 1) := by decide +kernel
theorem d_J_bitCount_43 : decode jc_J_bitCount 43 = .ok (.bipush 16, 2) := by decide +kernel
theorem d_J_bitCount_45 : decode jc_J_bitCount 45 = .ok (.iushr, 1) := by decide +kernel
theorem d_J_bitCount_46 : decode jc_J_bitCount 46 = .ok (.iadd, 1) := by decide +kernel
theorem d_J_bitCount_47 : decode jc_J_bitCount 47 = .ok (.istore_n 0, 1) := by decide +kernel
theorem d_J_bitCount_48 : decode jc_J_bitCount 48 = .ok (.iload_n 0, 1) := by decide +kernel
theorem d_J_bitCount_49 : decode jc_J_bitCount 49 = .ok (.bipush 63, 2) := by decide +kernel
theorem d_J_bitCount_51 : decode jc_J_bitCount 51 = .ok (.iand, 1) := by decide +kernel
theorem d_J_bitCount_52 : decode jc_J_bitCount 52 = .ok (.ireturn, 1) := by decide +kernel
theorem d_J_floorMod_0 : decode jc_J_floorMod 0 = .ok (.iload_n 0, 1) := by decide +kernel
theorem d_J_floorMod_1 : decode jc_J_floorMod 1 = .ok (.iload_n 1, 1) := by decide +kernel
theorem d_J_floorMod_2 : decode jc_J_floorMod 2 = .ok (.irem, 1) := by decide +kernel
theorem d_J_floorMod_3 : decode jc_J_floorMod 3 = .ok (.istore_n 2, 1) := by decide +kernel
theorem d_J_floorMod_4 : decode jc_J_floorMod 4 = .ok (.iload_n 0, 1) := by decide +kernel
theorem d_J_floorMod_5 : decode jc_J_floorMod 5 = .ok (.iload_n 1, 1) := by decide +kernel
theorem d_J_floorMod_6 : decode jc_J_floorMod 6 = .ok (.ixor, 1) := by decide +kernel
theorem d_J_floorMod_7 : decode jc_J_floorMod 7 = .ok (.ifCond .ge 11, 3) := by decide +kernel
theorem d_J_floorMod_10 : decode jc_J_floorMod 10 = .ok (.iload_n 2, 1) := by decide +kernel
theorem d_J_floorMod_11 : decode jc_J_floorMod 11 = .ok (.ifCond .eq 7, 3) := by decide +kernel
theorem d_J_floorMod_14 : decode jc_J_floorMod 14 = .ok (.iload_n 2, 1) := by decide +kernel
theorem d_J_floorMod_15 : decode jc_J_floorMod 15 = .ok (.iload_n 1, 1) := by decide +kernel
theorem d_J_floorMod_16 : decode jc_J_floorMod 16 = .ok (.iadd, 1) := by decide +kernel
theorem d_J_floorMod_17 : decode jc_J_floorMod 17 = .ok (.ireturn, 1) := by decide +kernel
theorem d_J_floorMod_18 : decode jc_J_floorMod 18 = .ok (.iload_n 2, 1) := by decide +kernel
theorem d_J_floorMod_19 : decode jc_J_floorMod 19 = .ok (.ireturn, 1) := by decide +kernel
theorem d_J_abs_0 : decode jc_J_abs 0 = .ok (.iload_n 0, 1) := by decide +kernel
theorem d_J_abs_1 : decode jc_J_abs 1 = .ok (.ifCond .ge 8, 3) := by decide +kernel
theorem d_J_abs_4 : decode jc_J_abs 4 = .ok (.iload_n 0, 1) := by decide +kernel
theorem d_J_abs_5 : decode jc_J_abs 5 = .ok (.ineg, 1) := by decide +kernel
theorem d_J_abs_6 : decode jc_J_abs 6 = .ok (.goto 4, 3) := by decide +kernel
theorem d_J_abs_9 : decode jc_J_abs 9 = .ok (.iload_n 0, 1) := by decide +kernel
theorem d_J_abs_10 : decode jc_J_abs 10 = .ok (.ireturn, 1) := by decide +kernel
theorem d_J_min_0 : decode jc_J_min 0 = .ok (.iload_n 0, 1) := by decide +kernel
theorem d_J_min_1 : decode jc_J_min 1 = .ok (.iload_n 1, 1) := by decide +kernel
theorem d_J_min_2 : decode jc_J_min 2 = .ok (.if_icmp .gt 7, 3) := by decide +kernel
theorem d_J_min_5 : decode jc_J_min 5 = .ok (.iload_n 0, 1) := by decide +kernel
theorem d_J_min_6 : decode jc_J_min 6 = .ok (.goto 4, 3) := by decide +kernel
theorem d_J_min_9 : decode jc_J_min 9 = .ok (.iload_n 1, 1) := by decide +kernel
theorem d_J_min_10 : decode jc_J_min 10 = .ok (.ireturn, 1) := by decide +kernel

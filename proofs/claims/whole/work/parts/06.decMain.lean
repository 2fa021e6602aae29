theorem d_Main_make_0 : decode jc_Main_make 0 = .ok (.iload_n 1, 1) := by decide +kernel
theorem d_Main_make_1 : decode jc_Main_make 1 = .ok (.invokestatic 62, 3) := by decide +kernel
theorem d_Main_make_4 : decode jc_Main_make 4 = .ok (.ifCond .ne 29, 3) := by decide +kernel
theorem d_Main_make_7 : decode jc_Main_make 7 = .ok (.iload_n 2, 1) := by decide +kernel
theorem d_Main_make_8 : decode jc_Main_make 8 = .ok (.invokestatic 66, 3) := by decide +kernel
theorem d_Main_make_11 : decode jc_Main_make 11 = .ok (.ifCond .ne 22, 3) := by decide +kernel
theorem d_Main_make_14 : decode jc_Main_make 14 = .ok (.iload_n 3, 1) := by decide +kernel
theorem d_Main_make_15 : decode jc_Main_make 15 = .ok (.iconst 0, 1) := by decide +kernel
theorem d_Main_make_16 : decode jc_Main_make 16 = .ok (.iconst 4, 1) := by decide +kernel
theorem d_Main_make_17 : decode jc_Main_make 17 = .ok (.invokestatic 69, 3) := by decide +kernel
theorem d_Main_make_20 : decode jc_Main_make 20 = .ok (.ifCond .ne 13, 3) := by decide +kernel
theorem d_Main_make_23 : decode jc_Main_make 23 = .ok (.iload_n 3, 1) := by decide +kernel
theorem d_Main_make_24 : decode jc_Main_make 24 = .ok (.iconst 4, 1) := by decide +kernel
theorem d_Main_make_25 : decode jc_Main_make 25 = .ok (.if_icmp .ne 10, 3) := by decide +kernel
theorem d_Main_make_28 : decode jc_Main_make 28 = .ok (.iload_n 2, 1) := by decide +kernel
theorem d_Main_make_29 : decode jc_Main_make 29 = .ok (.iconst 1, 1) := by decide +kernel
theorem d_Main_make_30 : decode jc_Main_make 30 = .ok (.if_icmp .ne 5, 3) := by decide +kernel
theorem d_Main_make_33 : decode jc_Main_make 33 = .ok (.iconst (-1), 1) := by decide +kernel
theorem d_Main_make_34 : decode jc_Main_make 34 = .ok (.ireturn, 1) := by decide +kernel
theorem d_Main_make_35 : decode jc_Main_make 35 = .ok (.aload_n 0, 1) := by decide +kernel
theorem d_Main_make_36 : decode jc_Main_make 36 = .ok (.getfield 57, 3) := by decide +kernel
theorem d_Main_make_39 : decode jc_Main_make 39 = .ok (.iload_n 2, 1) := by decide +kernel
theorem d_Main_make_40 : decode jc_Main_make 40 = .ok (.iload_n 3, 1) := by decide +kernel
theorem d_Main_make_41 : decode jc_Main_make 41 = .ok (.invokevirtual 73, 3) := by decide +kernel
theorem d_Main_make_44 : decode jc_Main_make 44 = .ok (.aload_n 0, 1) := by decide +kernel
theorem d_Main_make_45 : decode jc_Main_make 45 = .ok (.iload_n 1, 1) := by decide +kernel
theorem d_Main_make_46 : decode jc_Main_make 46 = .ok (.invokevirtual 77, 3) := by decide +kernel
theorem d_Main_make_49 : decode jc_Main_make 49 = .ok (.ireturn, 1) := by decide +kernel
theorem d_Main_put_0 : decode jc_Main_put 0 = .ok (.aload_n 0, 1) := by decide +kernel
theorem d_Main_put_1 : decode jc_Main_put 1 = .ok (.iload_n 1, 1) := by decide +kernel
theorem d_Main_put_2 : decode jc_Main_put 2 = .ok (.iload_n 2, 1) := by decide +kernel
theorem d_Main_put_3 : decode jc_Main_put 3 = .ok (.invokevirtual 81, 3) := by decide +kernel
theorem d_Main_put_6 : decode jc_Main_put 6 = .ok (.ifCond .ne 22, 3) := by decide +kernel
theorem d_Main_put_9 : decode jc_Main_put 9 = .ok (.aload_n 0, 1) := by decide +kernel
theorem d_Main_put_10 : decode jc_Main_put 10 = .ok (.iload_n 1, 1) := by decide +kernel
theorem d_Main_put_11 : decode jc_Main_put 11 = .ok (.iload_n 3, 1) := by decide +kernel
theorem d_Main_put_12 : decode jc_Main_put 12 = .ok (.invokevirtual 81, 3) := by decide +kernel
theorem d_Main_put_15 : decode jc_Main_put 15 = .ok (.ifCond .ne 13, 3) := by decide +kernel
theorem d_Main_put_18 : decode jc_Main_put 18 = .ok (.iload 4, 2) := by decide +kernel
theorem d_Main_put_20 : decode jc_Main_put 20 = .ok (.iconst 0, 1) := by decide +kernel
theorem d_Main_put_21 : decode jc_Main_put 21 = .ok (.iconst 1, 1) := by decide +kernel
theorem d_Main_put_22 : decode jc_Main_put 22 = .ok (.invokestatic 69, 3) := by decide +kernel
theorem d_Main_put_25 : decode jc_Main_put 25 = .ok (.ifCond .eq 5, 3) := by decide +kernel
theorem d_Main_put_28 : decode jc_Main_put 28 = .ok (.iconst (-1), 1) := by decide +kernel
theorem d_Main_put_29 : decode jc_Main_put 29 = .ok (.ireturn, 1) := by decide +kernel
theorem d_Main_put_30 : decode jc_Main_put 30 = .ok (.aload_n 0, 1) := by decide +kernel
theorem d_Main_put_31 : decode jc_Main_put 31 = .ok (.getfield 57, 3) := by decide +kernel
theorem d_Main_put_34 : decode jc_Main_put 34 = .ok (.aload_n 0, 1) := by decide +kernel
theorem d_Main_put_35 : decode jc_Main_put 35 = .ok (.getfield 11, 3) := by decide +kernel
theorem d_Main_put_38 : decode jc_Main_put 38 = .ok (.iload_n 1, 1) := by decide +kernel
theorem d_Main_put_39 : decode jc_Main_put 39 = .ok (.aaload, 1) := by decide +kernel
theorem d_Main_put_40 : decode jc_Main_put 40 = .ok (.invokevirtual 85, 3) := by decide +kernel
theorem d_Main_put_43 : decode jc_Main_put 43 = .ok (.aload_n 0, 1) := by decide +kernel
theorem d_Main_put_44 : decode jc_Main_put 44 = .ok (.getfield 57, 3) := by decide +kernel
theorem d_Main_put_47 : decode jc_Main_put 47 = .ok (.iload_n 2, 1) := by decide +kernel
theorem d_Main_put_48 : decode jc_Main_put 48 = .ok (.iload_n 3, 1) := by decide +kernel
theorem d_Main_put_49 : decode jc_Main_put 49 = .ok (.invokevirtual 89, 3) := by decide +kernel
theorem d_Main_put_52 : decode jc_Main_put 52 = .ok (.istore 5, 2) := by decide +kernel
theorem d_Main_put_54 : decode jc_Main_put 54 = .ok (.aload_n 0, 1) := by decide +kernel
theorem d_Main_put_55 : decode jc_Main_put 55 = .ok (.getfield 57, 3) := by decide +kernel
theorem d_Main_put_58 : decode jc_Main_put 58 = .ok (.getfield 93, 3) := by decide +kernel
theorem d_Main_put_61 : decode jc_Main_put 61 = .ok (.iload_n 2, 1) := by decide +kernel
theorem d_Main_put_62 : decode jc_Main_put 62 = .ok (.iload 4, 2) := by decide +kernel
theorem d_Main_put_64 : decode jc_Main_put 64 = .ok (.iconst 1, 1) := by decide +kernel
theorem d_Main_put_65 : decode jc_Main_put 65 = .ok (.if_icmp .ne 19, 3) := by decide +kernel
theorem d_Main_put_68 : decode jc_Main_put 68 = .ok (.aload_n 0, 1) := by decide +kernel
theorem d_Main_put_69 : decode jc_Main_put 69 = .ok (.getfield 57, 3) := by decide +kernel
theorem d_Main_put_72 : decode jc_Main_put 72 = .ok (.getfield 93, 3) := by decide +kernel
theorem d_Main_put_75 : decode jc_Main_put 75 = .ok (.iload_n 2, 1) := by decide +kernel
theorem d_Main_put_76 : decode jc_Main_put 76 = .ok (.iaload, 1) := by decide +kernel
theorem d_Main_put_77 : decode jc_Main_put 77 = .ok (.iconst 1, 1) := by decide +kernel
theorem d_Main_put_78 : decode jc_Main_put 78 = .ok (.iload_n 3, 1) := by decide +kernel
theorem d_Main_put_79 : decode jc_Main_put 79 = .ok (.ishl, 1) := by decide +kernel
theorem d_Main_put_80 : decode jc_Main_put 80 = .ok (.ior, 1) := by decide +kernel
theorem d_Main_put_81 : decode jc_Main_put 81 = .ok (.goto 18, 3) := by decide +kernel
theorem d_Main_put_84 : decode jc_Main_put 84 = .ok (.aload_n 0, 1) := by decide +kernel
theorem d_Main_put_85 : decode jc_Main_put 85 = .ok (.getfield 57, 3) := by decide +kernel
theorem d_Main_put_88 : decode jc_Main_put 88 = .ok (.getfield 93, 3) := by decide +kernel
theorem d_Main_put_91 : decode jc_Main_put 91 = .ok (.iload_n 2, 1) := by decide +kernel
theorem d_Main_put_92 : decode jc_Main_put 92 = .ok (.iaload, 1) := by decide +kernel
theorem d_Main_put_93 : decode jc_Main_put 93 = .ok (.iconst 1, 1) := by decide +kernel
theorem d_Main_put_94 : decode jc_Main_put 94 = .ok (.iload_n 3, 1) := by decide +kernel
theorem d_Main_put_95 : decode jc_Main_put 95 = .ok (.ishl, 1) := by decide +kernel
theorem d_Main_put_96 : decode jc_Main_put 96 = .ok (.iconst (-1), 1) := by decide +kernel
theorem d_Main_put_97 : decode jc_Main_put 97 = .ok (.ixor, 1) := by decide +kernel
theorem d_Main_put_98 : decode jc_Main_put 98 = .ok (.iand, 1) := by decide +kernel
theorem d_Main_put_99 : decode jc_Main_put 99 = .ok (.iastore, 1) := by decide +kernel
theorem d_Main_put_100 : decode jc_Main_put 100 = .ok (.aload_n 0, 1) := by decide +kernel
theorem d_Main_put_101 : decode jc_Main_put 101 = .ok (.iload_n 1, 1) := by decide +kernel
theorem d_Main_put_102 : decode jc_Main_put 102 = .ok (.invokevirtual 77, 3) := by decide +kernel
theorem d_Main_put_105 : decode jc_Main_put 105 = .ok (.pop, 1) := by decide +kernel
theorem d_Main_put_106 : decode jc_Main_put 106 = .ok (.iload 5, 2) := by decide +kernel
theorem d_Main_put_108 : decode jc_Main_put 108 = .ok (.ireturn, 1) := by decide +kernel
theorem d_Main_at_0 : decode jc_Main_at 0 = .ok (.aload_n 0, 1) := by decide +kernel
theorem d_Main_at_1 : decode jc_Main_at 1 = .ok (.iload_n 1, 1) := by decide +kernel
theorem d_Main_at_2 : decode jc_Main_at 2 = .ok (.iload_n 2, 1) := by decide +kernel
theorem d_Main_at_3 : decode jc_Main_at 3 = .ok (.invokevirtual 81, 3) := by decide +kernel
theorem d_Main_at_6 : decode jc_Main_at 6 = .ok (.ifCond .ne 12, 3) := by decide +kernel
theorem d_Main_at_9 : decode jc_Main_at 9 = .ok (.aload_n 0, 1) := by decide +kernel
theorem d_Main_at_10 : decode jc_Main_at 10 = .ok (.iload_n 1, 1) := by decide +kernel
theorem d_Main_at_11 : decode jc_Main_at 11 = .ok (.iload_n 3, 1) := by decide +kernel
theorem d_Main_at_12 : decode jc_Main_at 12 = .ok (.invokevirtual 81, 3) := by decide +kernel
theorem d_Main_at_15 : decode jc_Main_at 15 = .ok (.ifCond .eq 5, 3) := by decide +kernel
theorem d_Main_at_18 : decode jc_Main_at 18 = .ok (.iconst (-1), 1) := by decide +kernel
theorem d_Main_at_19 : decode jc_Main_at 19 = .ok (.ireturn, 1) := by decide +kernel
theorem d_Main_at_20 : decode jc_Main_at 20 = .ok (.aload_n 0, 1) := by decide +kernel
theorem d_Main_at_21 : decode jc_Main_at 21 = .ok (.getfield 11, 3) := by decide +kernel
theorem d_Main_at_24 : decode jc_Main_at 24 = .ok (.iload_n 1, 1) := by decide +kernel
theorem d_Main_at_25 : decode jc_Main_at 25 = .ok (.aaload, 1) := by decide +kernel
theorem d_Main_at_26 : decode jc_Main_at 26 = .ok (.iload_n 2, 1) := by decide +kernel
theorem d_Main_at_27 : decode jc_Main_at 27 = .ok (.iload_n 3, 1) := by decide +kernel
theorem d_Main_at_28 : decode jc_Main_at 28 = .ok (.invokevirtual 89, 3) := by decide +kernel
theorem d_Main_at_31 : decode jc_Main_at 31 = .ok (.ireturn, 1) := by decide +kernel
theorem d_Main_line_0 : decode jc_Main_line 0 = .ok (.aload_n 0, 1) := by decide +kernel
theorem d_Main_line_1 : decode jc_Main_line 1 = .ok (.iload_n 1, 1) := by decide +kernel
theorem d_Main_line_2 : decode jc_Main_line 2 = .ok (.iload_n 3, 1) := by decide +kernel
theorem d_Main_line_3 : decode jc_Main_line 3 = .ok (.invokevirtual 81, 3) := by decide +kernel
theorem d_Main_line_6 : decode jc_Main_line 6 = .ok (.ifCond .ne 12, 3) := by decide +kernel
theorem d_Main_line_9 : decode jc_Main_line 9 = .ok (.iload_n 2, 1) := by decide +kernel
theorem d_Main_line_10 : decode jc_Main_line 10 = .ok (.iconst 0, 1) := by decide +kernel
theorem d_Main_line_11 : decode jc_Main_line 11 = .ok (.iconst 1, 1) := by decide +kernel
theorem d_Main_line_12 : decode jc_Main_line 12 = .ok (.invokestatic 69, 3) := by decide +kernel
theorem d_Main_line_15 : decode jc_Main_line 15 = .ok (.ifCond .eq 5, 3) := by decide +kernel
theorem d_Main_line_18 : decode jc_Main_line 18 = .ok (.iconst (-1), 1) := by decide +kernel
theorem d_Main_line_19 : decode jc_Main_line 19 = .ok (.ireturn, 1) := by decide +kernel
theorem d_Main_line_20 : decode jc_Main_line 20 = .ok (.iload_n 2, 1) := by decide +kernel
theorem d_Main_line_21 : decode jc_Main_line 21 = .ok (.ifCond .ne 17, 3) := by decide +kernel
theorem d_Main_line_24 : decode jc_Main_line 24 = .ok (.aload_n 0, 1) := by decide +kernel
theorem d_Main_line_25 : decode jc_Main_line 25 = .ok (.getfield 11, 3) := by decide +kernel
theorem d_Main_line_28 : decode jc_Main_line 28 = .ok (.iload_n 1, 1) := by decide +kernel
theorem d_Main_line_29 : decode jc_Main_line 29 = .ok (.aaload, 1) := by decide +kernel
theorem d_Main_line_30 : decode jc_Main_line 30 = .ok (.getfield 93, 3) := by decide +kernel
theorem d_Main_line_33 : decode jc_Main_line 33 = .ok (.iload_n 3, 1) := by decide +kernel
theorem d_Main_line_34 : decode jc_Main_line 34 = .ok (.iaload, 1) := by decide +kernel
theorem d_Main_line_35 : decode jc_Main_line 35 = .ok (.goto 13, 3) := by decide +kernel
theorem d_Main_line_38 : decode jc_Main_line 38 = .ok (.aload_n 0, 1) := by decide +kernel
theorem d_Main_line_39 : decode jc_Main_line 39 = .ok (.getfield 11, 3) := by decide +kernel
theorem d_Main_line_42 : decode jc_Main_line 42 = .ok (.iload_n 1, 1) := by decide +kernel
theorem d_Main_line_43 : decode jc_Main_line 43 = .ok (.aaload, 1) := by decide +kernel
theorem d_Main_line_44 : decode jc_Main_line 44 = .ok (.iload_n 3, 1) := by decide +kernel
theorem d_Main_line_45 : decode jc_Main_line 45 = .ok (.invokevirtual 97, 3) := by decide +kernel
theorem d_Main_line_48 : decode jc_Main_line 48 = .ok (.ireturn, 1) := by decide +kernel
theorem d_Main_setRow_0 : decode jc_Main_setRow 0 = .ok (.aload_n 0, 1) := by decide +kernel
theorem d_Main_setRow_1 : decode jc_Main_setRow 1 = .ok (.iload_n 1, 1) := by decide +kernel
theorem d_Main_setRow_2 : decode jc_Main_setRow 2 = .ok (.iload_n 2, 1) := by decide +kernel
theorem d_Main_setRow_3 : decode jc_Main_setRow 3 = .ok (.invokevirtual 81, 3) := by decide +kernel
theorem d_Main_setRow_6 : decode jc_Main_setRow 6 = .ok (.ifCond .ne 16, 3) := by decide +kernel
theorem d_Main_setRow_9 : decode jc_Main_setRow 9 = .ok (.aload_n 0, 1) := by decide +kernel
theorem d_Main_setRow_10 : decode jc_Main_setRow 10 = .ok (.getfield 11, 3) := by decide +kernel
theorem d_Main_setRow_13 : decode jc_Main_setRow 13 = .ok (.iload_n 1, 1) := by decide +kernel
theorem d_Main_setRow_14 : decode jc_Main_setRow 14 = .ok (.aaload, 1) := by decide +kernel
theorem d_Main_setRow_15 : decode jc_Main_setRow 15 = .ok (.iload_n 3, 1) := by decide +kernel
theorem d_Main_setRow_16 : decode jc_Main_setRow 16 = .ok (.invokevirtual 100, 3) := by decide +kernel
theorem d_Main_setRow_19 : decode jc_Main_setRow 19 = .ok (.ifCond .eq 5, 3) := by decide +kernel
theorem d_Main_setRow_22 : decode jc_Main_setRow 22 = .ok (.iconst (-1), 1) := by decide +kernel
theorem d_Main_setRow_23 : decode jc_Main_setRow 23 = .ok (.ireturn, 1) := by decide +kernel
theorem d_Main_setRow_24 : decode jc_Main_setRow 24 = .ok (.aload_n 0, 1) := by decide +kernel
theorem d_Main_setRow_25 : decode jc_Main_setRow 25 = .ok (.getfield 57, 3) := by decide +kernel
theorem d_Main_setRow_28 : decode jc_Main_setRow 28 = .ok (.aload_n 0, 1) := by decide +kernel
theorem d_Main_setRow_29 : decode jc_Main_setRow 29 = .ok (.getfield 11, 3) := by decide +kernel
theorem d_Main_setRow_32 : decode jc_Main_setRow 32 = .ok (.iload_n 1, 1) := by decide +kernel
theorem d_Main_setRow_33 : decode jc_Main_setRow 33 = .ok (.aaload, 1) := by decide +kernel
theorem d_Main_setRow_34 : decode jc_Main_setRow 34 = .ok (.invokevirtual 85, 3) := by decide +kernel
theorem d_Main_setRow_37 : decode jc_Main_setRow 37 = .ok (.aload_n 0, 1) := by decide +kernel
theorem d_Main_setRow_38 : decode jc_Main_setRow 38 = .ok (.getfield 57, 3) := by decide +kernel
theorem d_Main_setRow_41 : decode jc_Main_setRow 41 = .ok (.getfield 93, 3) := by decide +kernel
theorem d_Main_setRow_44 : decode jc_Main_setRow 44 = .ok (.iload_n 2, 1) := by decide +kernel
theorem d_Main_setRow_45 : decode jc_Main_setRow 45 = .ok (.iaload, 1) := by decide +kernel
theorem d_Main_setRow_46 : decode jc_Main_setRow 46 = .ok (.istore 4, 2) := by decide +kernel
theorem d_Main_setRow_48 : decode jc_Main_setRow 48 = .ok (.aload_n 0, 1) := by decide +kernel
theorem d_Main_setRow_49 : decode jc_Main_setRow 49 = .ok (.getfield 57, 3) := by decide +kernel
theorem d_Main_setRow_52 : decode jc_Main_setRow 52 = .ok (.getfield 93, 3) := by decide +kernel
theorem d_Main_setRow_55 : decode jc_Main_setRow 55 = .ok (.iload_n 2, 1) := by decide +kernel
theorem d_Main_setRow_56 : decode jc_Main_setRow 56 = .ok (.iload_n 3, 1) := by decide +kernel
theorem d_Main_setRow_57 : decode jc_Main_setRow 57 = .ok (.iastore, 1) := by decide +kernel
theorem d_Main_setRow_58 : decode jc_Main_setRow 58 = .ok (.aload_n 0, 1) := by decide +kernel
theorem d_Main_setRow_59 : decode jc_Main_setRow 59 = .ok (.iload_n 1, 1) := by decide +kernel
theorem d_Main_setRow_60 : decode jc_Main_setRow 60 = .ok (.invokevirtual 77, 3) := by decide +kernel
theorem d_Main_setRow_63 : decode jc_Main_setRow 63 = .ok (.pop, 1) := by decide +kernel
theorem d_Main_setRow_64 : decode jc_Main_setRow 64 = .ok (.iload 4, 2) := by decide +kernel
theorem d_Main_setRow_66 : decode jc_Main_setRow 66 = .ok (.ireturn, 1) := by decide +kernel
theorem d_Main_times_0 : decode jc_Main_times 0 = .ok (.aload_n 0, 1) := by decide +kernel
theorem d_Main_times_1 : decode jc_Main_times 1 = .ok (.iload_n 1, 1) := by decide +kernel
theorem d_Main_times_2 : decode jc_Main_times 2 = .ok (.invokevirtual 103, 3) := by decide +kernel
theorem d_Main_times_5 : decode jc_Main_times 5 = .ok (.ifCond .ne 18, 3) := by decide +kernel
theorem d_Main_times_8 : decode jc_Main_times 8 = .ok (.aload_n 0, 1) := by decide +kernel
theorem d_Main_times_9 : decode jc_Main_times 9 = .ok (.iload_n 2, 1) := by decide +kernel
theorem d_Main_times_10 : decode jc_Main_times 10 = .ok (.invokevirtual 103, 3) := by decide +kernel
theorem d_Main_times_13 : decode jc_Main_times 13 = .ok (.ifCond .ne 10, 3) := by decide +kernel
theorem d_Main_times_16 : decode jc_Main_times 16 = .ok (.iload_n 3, 1) := by decide +kernel
theorem d_Main_times_17 : decode jc_Main_times 17 = .ok (.invokestatic 62, 3) := by decide +kernel
theorem d_Main_times_20 : decode jc_Main_times 20 = .ok (.ifCond .eq 5, 3) := by decide +kernel
theorem d_Main_times_23 : decode jc_Main_times 23 = .ok (.iconst (-1), 1) := by decide +kernel
theorem d_Main_times_24 : decode jc_Main_times 24 = .ok (.ireturn, 1) := by decide +kernel
theorem d_Main_times_25 : decode jc_Main_times 25 = .ok (.aload_n 0, 1) := by decide +kernel
theorem d_Main_times_26 : decode jc_Main_times 26 = .ok (.getfield 11, 3) := by decide +kernel
theorem d_Main_times_29 : decode jc_Main_times 29 = .ok (.iload_n 1, 1) := by decide +kernel
theorem d_Main_times_30 : decode jc_Main_times 30 = .ok (.aaload, 1) := by decide +kernel
theorem d_Main_times_31 : decode jc_Main_times 31 = .ok (.getfield 106, 3) := by decide +kernel
theorem d_Main_times_34 : decode jc_Main_times 34 = .ok (.aload_n 0, 1) := by decide +kernel
theorem d_Main_times_35 : decode jc_Main_times 35 = .ok (.getfield 11, 3) := by decide +kernel
theorem d_Main_times_38 : decode jc_Main_times 38 = .ok (.iload_n 2, 1) := by decide +kernel
theorem d_Main_times_39 : decode jc_Main_times 39 = .ok (.aaload, 1) := by decide +kernel
theorem d_Main_times_40 : decode jc_Main_times 40 = .ok (.getfield 106, 3) := by decide +kernel
theorem d_Main_times_43 : decode jc_Main_times 43 = .ok (.if_icmp .eq 6, 3) := by decide +kernel
theorem d_Main_times_46 : decode jc_Main_times 46 = .ok (.bipush (-3), 2) := by decide +kernel
theorem d_Main_times_48 : decode jc_Main_times 48 = .ok (.ireturn, 1) := by decide +kernel
theorem d_Main_times_49 : decode jc_Main_times 49 = .ok (.aload_n 0, 1) := by decide +kernel
theorem d_Main_times_50 : decode jc_Main_times 50 = .ok (.getfield 57, 3) := by decide +kernel
theorem d_Main_times_53 : decode jc_Main_times 53 = .ok (.aload_n 0, 1) := by decide +kernel
theorem d_Main_times_54 : decode jc_Main_times 54 = .ok (.getfield 11, 3) := by decide +kernel
theorem d_Main_times_57 : decode jc_Main_times 57 = .ok (.iload_n 1, 1) := by decide +kernel
theorem d_Main_times_58 : decode jc_Main_times 58 = .ok (.aaload, 1) := by decide +kernel
theorem d_Main_times_59 : decode jc_Main_times 59 = .ok (.invokevirtual 85, 3) := by decide +kernel
theorem d_Main_times_62 : decode jc_Main_times 62 = .ok (.aload_n 0, 1) := by decide +kernel
theorem d_Main_times_63 : decode jc_Main_times 63 = .ok (.getfield 57, 3) := by decide +kernel
theorem d_Main_times_66 : decode jc_Main_times 66 = .ok (.aload_n 0, 1) := by decide +kernel
theorem d_Main_times_67 : decode jc_Main_times 67 = .ok (.getfield 11, 3) := by decide +kernel
theorem d_Main_times_70 : decode jc_Main_times 70 = .ok (.iload_n 2, 1) := by decide +kernel
theorem d_Main_times_71 : decode jc_Main_times 71 = .ok (.aaload, 1) := by decide +kernel
theorem d_Main_times_72 : decode jc_Main_times 72 = .ok (.invokevirtual 110, 3) := by decide +kernel
theorem d_Main_times_75 : decode jc_Main_times 75 = .ok (.aload_n 0, 1) := by decide +kernel
theorem d_Main_times_76 : decode jc_Main_times 76 = .ok (.iload_n 3, 1) := by decide +kernel
theorem d_Main_times_77 : decode jc_Main_times 77 = .ok (.invokevirtual 77, 3) := by decide +kernel
theorem d_Main_times_80 : decode jc_Main_times 80 = .ok (.ireturn, 1) := by decide +kernel
theorem d_Main_plus_0 : decode jc_Main_plus 0 = .ok (.aload_n 0, 1) := by decide +kernel
theorem d_Main_plus_1 : decode jc_Main_plus 1 = .ok (.iload_n 1, 1) := by decide +kernel
theorem d_Main_plus_2 : decode jc_Main_plus 2 = .ok (.invokevirtual 103, 3) := by decide +kernel
theorem d_Main_plus_5 : decode jc_Main_plus 5 = .ok (.ifCond .ne 18, 3) := by decide +kernel
theorem d_Main_plus_8 : decode jc_Main_plus 8 = .ok (.aload_n 0, 1) := by decide +kernel
theorem d_Main_plus_9 : decode jc_Main_plus 9 = .ok (.iload_n 2, 1) := by decide +kernel
theorem d_Main_plus_10 : decode jc_Main_plus 10 = .ok (.invokevirtual 103, 3) := by decide +kernel
theorem d_Main_plus_13 : decode jc_Main_plus 13 = .ok (.ifCond .ne 10, 3) := by decide +kernel
theorem d_Main_plus_16 : decode jc_Main_plus 16 = .ok (.iload_n 3, 1) := by decide +kernel
theorem d_Main_plus_17 : decode jc_Main_plus 17 = .ok (.invokestatic 62, 3) := by decide +kernel
theorem d_Main_plus_20 : decode jc_Main_plus 20 = .ok (.ifCond .eq 5, 3) := by decide +kernel
theorem d_Main_plus_23 : decode jc_Main_plus 23 = .ok (.iconst (-1), 1) := by decide +kernel
theorem d_Main_plus_24 : decode jc_Main_plus 24 = .ok (.ireturn, 1) := by decide +kernel
theorem d_Main_plus_25 : decode jc_Main_plus 25 = .ok (.aload_n 0, 1) := by decide +kernel
theorem d_Main_plus_26 : decode jc_Main_plus 26 = .ok (.getfield 11, 3) := by decide +kernel
theorem d_Main_plus_29 : decode jc_Main_plus 29 = .ok (.iload_n 1, 1) := by decide +kernel
theorem d_Main_plus_30 : decode jc_Main_plus 30 = .ok (.aaload, 1) := by decide +kernel
theorem d_Main_plus_31 : decode jc_Main_plus 31 = .ok (.getfield 106, 3) := by decide +kernel
theorem d_Main_plus_34 : decode jc_Main_plus 34 = .ok (.aload_n 0, 1) := by decide +kernel
theorem d_Main_plus_35 : decode jc_Main_plus 35 = .ok (.getfield 11, 3) := by decide +kernel
theorem d_Main_plus_38 : decode jc_Main_plus 38 = .ok (.iload_n 2, 1) := by decide +kernel
theorem d_Main_plus_39 : decode jc_Main_plus 39 = .ok (.aaload, 1) := by decide +kernel
theorem d_Main_plus_40 : decode jc_Main_plus 40 = .ok (.getfield 106, 3) := by decide +kernel
theorem d_Main_plus_43 : decode jc_Main_plus 43 = .ok (.if_icmp .eq 6, 3) := by decide +kernel
theorem d_Main_plus_46 : decode jc_Main_plus 46 = .ok (.bipush (-3), 2) := by decide +kernel
theorem d_Main_plus_48 : decode jc_Main_plus 48 = .ok (.ireturn, 1) := by decide +kernel
theorem d_Main_plus_49 : decode jc_Main_plus 49 = .ok (.aload_n 0, 1) := by decide +kernel
theorem d_Main_plus_50 : decode jc_Main_plus 50 = .ok (.getfield 57, 3) := by decide +kernel
theorem d_Main_plus_53 : decode jc_Main_plus 53 = .ok (.aload_n 0, 1) := by decide +kernel
theorem d_Main_plus_54 : decode jc_Main_plus 54 = .ok (.getfield 11, 3) := by decide +kernel
theorem d_Main_plus_57 : decode jc_Main_plus 57 = .ok (.iload_n 1, 1) := by decide +kernel
theorem d_Main_plus_58 : decode jc_Main_plus 58 = .ok (.aaload, 1) := by decide +kernel
theorem d_Main_plus_59 : decode jc_Main_plus 59 = .ok (.invokevirtual 85, 3) := by decide +kernel
theorem d_Main_plus_62 : decode jc_Main_plus 62 = .ok (.aload_n 0, 1) := by decide +kernel
theorem d_Main_plus_63 : decode jc_Main_plus 63 = .ok (.getfield 57, 3) := by decide +kernel
theorem d_Main_plus_66 : decode jc_Main_plus 66 = .ok (.aload_n 0, 1) := by decide +kernel
theorem d_Main_plus_67 : decode jc_Main_plus 67 = .ok (.getfield 11, 3) := by decide +kernel
theorem d_Main_plus_70 : decode jc_Main_plus 70 = .ok (.iload_n 2, 1) := by decide +kernel
theorem d_Main_plus_71 : decode jc_Main_plus 71 = .ok (.aaload, 1) := by decide +kernel
theorem d_Main_plus_72 : decode jc_Main_plus 72 = .ok (.invokevirtual 113, 3) := by decide +kernel
theorem d_Main_plus_75 : decode jc_Main_plus 75 = .ok (.aload_n 0, 1) := by decide +kernel
theorem d_Main_plus_76 : decode jc_Main_plus 76 = .ok (.iload_n 3, 1) := by decide +kernel
theorem d_Main_plus_77 : decode jc_Main_plus 77 = .ok (.invokevirtual 77, 3) := by decide +kernel
theorem d_Main_plus_80 : decode jc_Main_plus 80 = .ok (.ireturn, 1) := by decide +kernel
theorem d_Main_power_0 : decode jc_Main_power 0 = .ok (.aload_n 0, 1) := by decide +kernel
theorem d_Main_power_1 : decode jc_Main_power 1 = .ok (.iload_n 1, 1) := by decide +kernel
theorem d_Main_power_2 : decode jc_Main_power 2 = .ok (.invokevirtual 103, 3) := by decide +kernel
theorem d_Main_power_5 : decode jc_Main_power 5 = .ok (.ifCond .ne 20, 3) := by decide +kernel
theorem d_Main_power_8 : decode jc_Main_power 8 = .ok (.iload_n 2, 1) := by decide +kernel
theorem d_Main_power_9 : decode jc_Main_power 9 = .ok (.iconst 0, 1) := by decide +kernel
theorem d_Main_power_10 : decode jc_Main_power 10 = .ok (.ldc 116, 2) := by decide +kernel
theorem d_Main_power_12 : decode jc_Main_power 12 = .ok (.invokestatic 69, 3) := by decide +kernel
theorem d_Main_power_15 : decode jc_Main_power 15 = .ok (.ifCond .ne 10, 3) := by decide +kernel
theorem d_Main_power_18 : decode jc_Main_power 18 = .ok (.iload_n 3, 1) := by decide +kernel
theorem d_Main_power_19 : decode jc_Main_power 19 = .ok (.invokestatic 62, 3) := by decide +kernel
theorem d_Main_power_22 : decode jc_Main_power 22 = .ok (.ifCond .eq 5, 3) := by decide +kernel
theorem d_Main_power_25 : decode jc_Main_power 25 = .ok (.iconst (-1), 1) := by decide +kernel
theorem d_Main_power_26 : decode jc_Main_power 26 = .ok (.ireturn, 1) := by decide +kernel
theorem d_Main_power_27 : decode jc_Main_power 27 = .ok (.aload_n 0, 1) := by decide +kernel
theorem d_Main_power_28 : decode jc_Main_power 28 = .ok (.getfield 31, 3) := by decide +kernel
theorem d_Main_power_31 : decode jc_Main_power 31 = .ok (.aload_n 0, 1) := by decide +kernel
theorem d_Main_power_32 : decode jc_Main_power 32 = .ok (.getfield 11, 3) := by decide +kernel
theorem d_Main_power_35 : decode jc_Main_power 35 = .ok (.iload_n 1, 1) := by decide +kernel
theorem d_Main_power_36 : decode jc_Main_power 36 = .ok (.aaload, 1) := by decide +kernel
theorem d_Main_power_37 : decode jc_Main_power 37 = .ok (.iload_n 2, 1) := by decide +kernel
theorem d_Main_power_38 : decode jc_Main_power 38 = .ok (.aload_n 0, 1) := by decide +kernel
theorem d_Main_power_39 : decode jc_Main_power 39 = .ok (.getfield 57, 3) := by decide +kernel
theorem d_Main_power_42 : decode jc_Main_power 42 = .ok (.invokevirtual 117, 3) := by decide +kernel
theorem d_Main_power_45 : decode jc_Main_power 45 = .ok (.aload_n 0, 1) := by decide +kernel
theorem d_Main_power_46 : decode jc_Main_power 46 = .ok (.iload_n 3, 1) := by decide +kernel
theorem d_Main_power_47 : decode jc_Main_power 47 = .ok (.invokevirtual 77, 3) := by decide +kernel
theorem d_Main_power_50 : decode jc_Main_power 50 = .ok (.ireturn, 1) := by decide +kernel
theorem d_Main_derive_0 : decode jc_Main_derive 0 = .ok (.aload_n 0, 1) := by decide +kernel
theorem d_Main_derive_1 : decode jc_Main_derive 1 = .ok (.iload_n 1, 1) := by decide +kernel
theorem d_Main_derive_2 : decode jc_Main_derive 2 = .ok (.invokevirtual 103, 3) := by decide +kernel
theorem d_Main_derive_5 : decode jc_Main_derive 5 = .ok (.ifCond .ne 19, 3) := by decide +kernel
theorem d_Main_derive_8 : decode jc_Main_derive 8 = .ok (.iload_n 2, 1) := by decide +kernel
theorem d_Main_derive_9 : decode jc_Main_derive 9 = .ok (.iconst 0, 1) := by decide +kernel
theorem d_Main_derive_10 : decode jc_Main_derive 10 = .ok (.iconst 4, 1) := by decide +kernel
theorem d_Main_derive_11 : decode jc_Main_derive 11 = .ok (.invokestatic 69, 3) := by decide +kernel
theorem d_Main_derive_14 : decode jc_Main_derive 14 = .ok (.ifCond .ne 10, 3) := by decide +kernel
theorem d_Main_derive_17 : decode jc_Main_derive 17 = .ok (.iload_n 3, 1) := by decide +kernel
theorem d_Main_derive_18 : decode jc_Main_derive 18 = .ok (.invokestatic 62, 3) := by decide +kernel
theorem d_Main_derive_21 : decode jc_Main_derive 21 = .ok (.ifCond .eq 5, 3) := by decide +kernel
theorem d_Main_derive_24 : decode jc_Main_derive 24 = .ok (.iconst (-1), 1) := by decide +kernel
theorem d_Main_derive_25 : decode jc_Main_derive 25 = .ok (.ireturn, 1) := by decide +kernel
theorem d_Main_derive_26 : decode jc_Main_derive 26 = .ok (.aload_n 0, 1) := by decide +kernel
theorem d_Main_derive_27 : decode jc_Main_derive 27 = .ok (.getfield 11, 3) := by decide +kernel
theorem d_Main_derive_30 : decode jc_Main_derive 30 = .ok (.iload_n 1, 1) := by decide +kernel
theorem d_Main_derive_31 : decode jc_Main_derive 31 = .ok (.aaload, 1) := by decide +kernel
theorem d_Main_derive_32 : decode jc_Main_derive 32 = .ok (.astore 4, 2) := by decide +kernel
theorem d_Main_derive_34 : decode jc_Main_derive 34 = .ok (.iload_n 2, 1) := by decide +kernel
theorem d_Main_derive_35 : decode jc_Main_derive 35 = .ok (.iconst 1, 1) := by decide +kernel
theorem d_Main_derive_36 : decode jc_Main_derive 36 = .ok (.if_icmp .ne 15, 3) := by decide +kernel
theorem d_Main_derive_39 : decode jc_Main_derive 39 = .ok (.aload_n 0, 1) := by decide +kernel
theorem d_Main_derive_40 : decode jc_Main_derive 40 = .ok (.getfield 57, 3) := by decide +kernel
theorem d_Main_derive_43 : decode jc_Main_derive 43 = .ok (.aload 4, 2) := by decide +kernel
theorem d_Main_derive_45 : decode jc_Main_derive 45 = .ok (.invokevirtual 121, 3) := by decide +kernel
theorem d_Main_derive_48 : decode jc_Main_derive 48 = .ok (.goto 33, 3) := by decide +kernel
theorem d_Main_derive_51 : decode jc_Main_derive 51 = .ok (.iload_n 2, 1) := by decide +kernel
theorem d_Main_derive_52 : decode jc_Main_derive 52 = .ok (.iconst 4, 1) := by decide +kernel
theorem d_Main_derive_53 : decode jc_Main_derive 53 = .ok (.if_icmp .ne 19, 3) := by decide +kernel
theorem d_Main_derive_56 : decode jc_Main_derive 56 = .ok (.aload_n 0, 1) := by decide +kernel
theorem d_Main_derive_57 : decode jc_Main_derive 57 = .ok (.getfield 45, 3) := by decide +kernel
theorem d_Main_derive_60 : decode jc_Main_derive 60 = .ok (.aload 4, 2) := by decide +kernel
theorem d_Main_derive_62 : decode jc_Main_derive 62 = .ok (.aload_n 0, 1) := by decide +kernel
theorem d_Main_derive_63 : decode jc_Main_derive 63 = .ok (.getfield 57, 3) := by decide +kernel
theorem d_Main_derive_66 : decode jc_Main_derive 66 = .ok (.invokevirtual 124, 3) := by decide +kernel
theorem d_Main_derive_69 : decode jc_Main_derive 69 = .ok (.goto 12, 3) := by decide +kernel
theorem d_Main_derive_72 : decode jc_Main_derive 72 = .ok (.aload_n 0, 1) := by decide +kernel
theorem d_Main_derive_73 : decode jc_Main_derive 73 = .ok (.getfield 57, 3) := by decide +kernel
theorem d_Main_derive_76 : decode jc_Main_derive 76 = .ok (.aload 4, 2) := by decide +kernel
theorem d_Main_derive_78 : decode jc_Main_derive 78 = .ok (.invokevirtual 85, 3) := by decide +kernel
theorem d_Main_derive_81 : decode jc_Main_derive 81 = .ok (.iload_n 2, 1) := by decide +kernel
theorem d_Main_derive_82 : decode jc_Main_derive 82 = .ok (.iconst 2, 1) := by decide +kernel
theorem d_Main_derive_83 : decode jc_Main_derive 83 = .ok (.if_icmp .ne 13, 3) := by decide +kernel
theorem d_Main_derive_86 : decode jc_Main_derive 86 = .ok (.aload_n 0, 1) := by decide +kernel
theorem d_Main_derive_87 : decode jc_Main_derive 87 = .ok (.getfield 57, 3) := by decide +kernel
theorem d_Main_derive_90 : decode jc_Main_derive 90 = .ok (.invokevirtual 128, 3) := by decide +kernel
theorem d_Main_derive_93 : decode jc_Main_derive 93 = .ok (.goto 15, 3) := by decide +kernel
theorem d_Main_derive_96 : decode jc_Main_derive 96 = .ok (.iload_n 2, 1) := by decide +kernel
theorem d_Main_derive_97 : decode jc_Main_derive 97 = .ok (.iconst 3, 1) := by decide +kernel
theorem d_Main_derive_98 : decode jc_Main_derive 98 = .ok (.if_icmp .ne 10, 3) := by decide +kernel
theorem d_Main_derive_101 : decode jc_Main_derive 101 = .ok (.aload_n 0, 1) := by decide +kernel
theorem d_Main_derive_102 : decode jc_Main_derive 102 = .ok (.getfield 57, 3) := by decide +kernel
theorem d_Main_derive_105 : decode jc_Main_derive 105 = .ok (.invokevirtual 131, 3) := by decide +kernel
theorem d_Main_derive_108 : decode jc_Main_derive 108 = .ok (.aload_n 0, 1) := by decide +kernel
theorem d_Main_derive_109 : decode jc_Main_derive 109 = .ok (.iload_n 3, 1) := by decide +kernel
theorem d_Main_derive_110 : decode jc_Main_derive 110 = .ok (.invokevirtual 77, 3) := by decide +kernel
theorem d_Main_derive_113 : decode jc_Main_derive 113 = .ok (.ireturn, 1) := by decide +kernel
theorem d_Main_clear_0 : decode jc_Main_clear 0 = .ok (.iload_n 1, 1) := by decide +kernel
theorem d_Main_clear_1 : decode jc_Main_clear 1 = .ok (.invokestatic 62, 3) := by decide +kernel
theorem d_Main_clear_4 : decode jc_Main_clear 4 = .ok (.ifCond .eq 5, 3) := by decide +kernel
theorem d_Main_clear_7 : decode jc_Main_clear 7 = .ok (.iconst (-1), 1) := by decide +kernel
theorem d_Main_clear_8 : decode jc_Main_clear 8 = .ok (.ireturn, 1) := by decide +kernel
theorem d_Main_clear_9 : decode jc_Main_clear 9 = .ok (.aload_n 0, 1) := by decide +kernel
theorem d_Main_clear_10 : decode jc_Main_clear 10 = .ok (.getfield 11, 3) := by decide +kernel
theorem d_Main_clear_13 : decode jc_Main_clear 13 = .ok (.iload_n 1, 1) := by decide +kernel
theorem d_Main_clear_14 : decode jc_Main_clear 14 = .ok (.aaload, 1) := by decide +kernel
theorem d_Main_clear_15 : decode jc_Main_clear 15 = .ok (.getfield 106, 3) := by decide +kernel
theorem d_Main_clear_18 : decode jc_Main_clear 18 = .ok (.istore_n 2, 1) := by decide +kernel
theorem d_Main_clear_19 : decode jc_Main_clear 19 = .ok (.iload_n 2, 1) := by decide +kernel
theorem d_Main_clear_20 : decode jc_Main_clear 20 = .ok (.ifCond .le 17, 3) := by decide +kernel
theorem d_Main_clear_23 : decode jc_Main_clear 23 = .ok (.aload_n 0, 1) := by decide +kernel
theorem d_Main_clear_24 : decode jc_Main_clear 24 = .ok (.getfield 57, 3) := by decide +kernel
theorem d_Main_clear_27 : decode jc_Main_clear 27 = .ok (.iconst 0, 1) := by decide +kernel
theorem d_Main_clear_28 : decode jc_Main_clear 28 = .ok (.putfield 106, 3) := by decide +kernel
theorem d_Main_clear_31 : decode jc_Main_clear 31 = .ok (.aload_n 0, 1) := by decide +kernel
theorem d_Main_clear_32 : decode jc_Main_clear 32 = .ok (.iload_n 1, 1) := by decide +kernel
theorem d_Main_clear_33 : decode jc_Main_clear 33 = .ok (.invokevirtual 77, 3) := by decide +kernel
theorem d_Main_clear_36 : decode jc_Main_clear 36 = .ok (.pop, 1) := by decide +kernel
theorem d_Main_clear_37 : decode jc_Main_clear 37 = .ok (.iload_n 2, 1) := by decide +kernel
theorem d_Main_clear_38 : decode jc_Main_clear 38 = .ok (.ireturn, 1) := by decide +kernel
theorem d_Main_same_0 : decode jc_Main_same 0 = .ok (.aload_n 0, 1) := by decide +kernel
theorem d_Main_same_1 : decode jc_Main_same 1 = .ok (.iload_n 1, 1) := by decide +kernel
theorem d_Main_same_2 : decode jc_Main_same 2 = .ok (.invokevirtual 103, 3) := by decide +kernel
theorem d_Main_same_5 : decode jc_Main_same 5 = .ok (.ifCond .ne 11, 3) := by decide +kernel
theorem d_Main_same_8 : decode jc_Main_same 8 = .ok (.aload_n 0, 1) := by decide +kernel
theorem d_Main_same_9 : decode jc_Main_same 9 = .ok (.iload_n 2, 1) := by decide +kernel
theorem d_Main_same_10 : decode jc_Main_same 10 = .ok (.invokevirtual 103, 3) := by decide +kernel
theorem d_Main_same_13 : decode jc_Main_same 13 = .ok (.ifCond .eq 5, 3) := by decide +kernel
theorem d_Main_same_16 : decode jc_Main_same 16 = .ok (.iconst (-1), 1) := by decide +kernel
theorem d_Main_same_17 : decode jc_Main_same 17 = .ok (.ireturn, 1) := by decide +kernel
theorem d_Main_same_18 : decode jc_Main_same 18 = .ok (.aload_n 0, 1) := by decide +kernel
theorem d_Main_same_19 : decode jc_Main_same 19 = .ok (.getfield 11, 3) := by decide +kernel
theorem d_Main_same_22 : decode jc_Main_same 22 = .ok (.iload_n 1, 1) := by decide +kernel
theorem d_Main_same_23 : decode jc_Main_same 23 = .ok (.aaload, 1) := by decide +kernel
theorem d_Main_same_24 : decode jc_Main_same 24 = .ok (.aload_n 0, 1) := by decide +kernel
theorem d_Main_same_25 : decode jc_Main_same 25 = .ok (.getfield 11, 3) := by decide +kernel
theorem d_Main_same_28 : decode jc_Main_same 28 = .ok (.iload_n 2, 1) := by decide +kernel
theorem d_Main_same_29 : decode jc_Main_same 29 = .ok (.aaload, 1) := by decide +kernel
theorem d_Main_same_30 : decode jc_Main_same 30 = .ok (.invokevirtual 134, 3) := by decide +kernel
theorem d_Main_same_33 : decode jc_Main_same 33 = .ok (.ifCond .eq 7, 3) := by decide +kernel
theorem d_Main_same_36 : decode jc_Main_same 36 = .ok (.iconst 1, 1) := by decide +kernel
theorem d_Main_same_37 : decode jc_Main_same 37 = .ok (.goto 4, 3) := by decide +kernel
theorem d_Main_same_40 : decode jc_Main_same 40 = .ok (.iconst 0, 1) := by decide +kernel
theorem d_Main_same_41 : decode jc_Main_same 41 = .ok (.ireturn, 1) := by decide +kernel
theorem d_Main_load_0 : decode jc_Main_load 0 = .ok (.iload_n 1, 1) := by decide +kernel
theorem d_Main_load_1 : decode jc_Main_load 1 = .ok (.invokestatic 62, 3) := by decide +kernel
theorem d_Main_load_4 : decode jc_Main_load 4 = .ok (.ifCond .ne 18, 3) := by decide +kernel
theorem d_Main_load_7 : decode jc_Main_load 7 = .ok (.iload_n 2, 1) := by decide +kernel
theorem d_Main_load_8 : decode jc_Main_load 8 = .ok (.invokestatic 138, 3) := by decide +kernel
theorem d_Main_load_11 : decode jc_Main_load 11 = .ok (.ifCond .ne 11, 3) := by decide +kernel
theorem d_Main_load_14 : decode jc_Main_load 14 = .ok (.iload 4, 2) := by decide +kernel
theorem d_Main_load_16 : decode jc_Main_load 16 = .ok (.invokestatic 66, 3) := by decide +kernel
theorem d_Main_load_19 : decode jc_Main_load 19 = .ok (.ifCond .eq 5, 3) := by decide +kernel
theorem d_Main_load_22 : decode jc_Main_load 22 = .ok (.iconst (-1), 1) := by decide +kernel
theorem d_Main_load_23 : decode jc_Main_load 23 = .ok (.ireturn, 1) := by decide +kernel
theorem d_Main_load_24 : decode jc_Main_load 24 = .ok (.aload_n 0, 1) := by decide +kernel
theorem d_Main_load_25 : decode jc_Main_load 25 = .ok (.getfield 17, 3) := by decide +kernel
theorem d_Main_load_28 : decode jc_Main_load 28 = .ok (.iload_n 2, 1) := by decide +kernel
theorem d_Main_load_29 : decode jc_Main_load 29 = .ok (.aaload, 1) := by decide +kernel
theorem d_Main_load_30 : decode jc_Main_load 30 = .ok (.astore 5, 2) := by decide +kernel
theorem d_Main_load_32 : decode jc_Main_load 32 = .ok (.aload 5, 2) := by decide +kernel
theorem d_Main_load_34 : decode jc_Main_load 34 = .ok (.invokevirtual 141, 3) := by decide +kernel
theorem d_Main_load_37 : decode jc_Main_load 37 = .ok (.ifCond .eq 6, 3) := by decide +kernel
theorem d_Main_load_40 : decode jc_Main_load 40 = .ok (.bipush (-11), 2) := by decide +kernel
theorem d_Main_load_42 : decode jc_Main_load 42 = .ok (.ireturn, 1) := by decide +kernel
theorem d_Main_load_43 : decode jc_Main_load 43 = .ok (.aload 5, 2) := by decide +kernel
theorem d_Main_load_45 : decode jc_Main_load 45 = .ok (.iload_n 3, 1) := by decide +kernel
theorem d_Main_load_46 : decode jc_Main_load 46 = .ok (.iload 4, 2) := by decide +kernel
theorem d_Main_load_48 : decode jc_Main_load 48 = .ok (.invokevirtual 145, 3) := by decide +kernel
theorem d_Main_load_51 : decode jc_Main_load 51 = .ok (.ifCond .eq 6, 3) := by decide +kernel
theorem d_Main_load_54 : decode jc_Main_load 54 = .ok (.bipush (-12), 2) := by decide +kernel
theorem d_Main_load_56 : decode jc_Main_load 56 = .ok (.ireturn, 1) := by decide +kernel
theorem d_Main_load_57 : decode jc_Main_load 57 = .ok (.aload_n 0, 1) := by decide +kernel
theorem d_Main_load_58 : decode jc_Main_load 58 = .ok (.getfield 57, 3) := by decide +kernel
theorem d_Main_load_61 : decode jc_Main_load 61 = .ok (.iload 4, 2) := by decide +kernel
theorem d_Main_load_63 : decode jc_Main_load 63 = .ok (.putfield 106, 3) := by decide +kernel
theorem d_Main_load_66 : decode jc_Main_load 66 = .ok (.iconst 0, 1) := by decide +kernel
theorem d_Main_load_67 : decode jc_Main_load 67 = .ok (.istore 6, 2) := by decide +kernel
theorem d_Main_load_69 : decode jc_Main_load 69 = .ok (.iload 6, 2) := by decide +kernel
theorem d_Main_load_71 : decode jc_Main_load 71 = .ok (.iload 4, 2) := by decide +kernel
theorem d_Main_load_73 : decode jc_Main_load 73 = .ok (.if_icmp .ge 46, 3) := by decide +kernel
theorem d_Main_load_76 : decode jc_Main_load 76 = .ok (.aload 5, 2) := by decide +kernel
theorem d_Main_load_78 : decode jc_Main_load 78 = .ok (.iload_n 3, 1) := by decide +kernel
theorem d_Main_load_79 : decode jc_Main_load 79 = .ok (.iload 6, 2) := by decide +kernel
theorem d_Main_load_81 : decode jc_Main_load 81 = .ok (.iadd, 1) := by decide +kernel
theorem d_Main_load_82 : decode jc_Main_load 82 = .ok (.invokevirtual 148, 3) := by decide +kernel
theorem d_Main_load_85 : decode jc_Main_load 85 = .ok (.istore 7, 2) := by decide +kernel
theorem d_Main_load_87 : decode jc_Main_load 87 = .ok (.aload_n 0, 1) := by decide +kernel
theorem d_Main_load_88 : decode jc_Main_load 88 = .ok (.getfield 57, 3) := by decide +kernel
theorem d_Main_load_91 : decode jc_Main_load 91 = .ok (.iload 7, 2) := by decide +kernel
theorem d_Main_load_93 : decode jc_Main_load 93 = .ok (.invokevirtual 100, 3) := by decide +kernel
theorem d_Main_load_96 : decode jc_Main_load 96 = .ok (.ifCond .eq 5, 3) := by decide +kernel
theorem d_Main_load_99 : decode jc_Main_load 99 = .ok (.iconst (-1), 1) := by decide +kernel
theorem d_Main_load_100 : decode jc_Main_load 100 = .ok (.ireturn, 1) := by decide +kernel
theorem d_Main_load_101 : decode jc_Main_load 101 = .ok (.aload_n 0, 1) := by decide +kernel
theorem d_Main_load_102 : decode jc_Main_load 102 = .ok (.getfield 57, 3) := by decide +kernel
theorem d_Main_load_105 : decode jc_Main_load 105 = .ok (.getfield 93, 3) := by decide +kernel
theorem d_Main_load_108 : decode jc_Main_load 108 = .ok (.iload 6, 2) := by decide +kernel
theorem d_Main_load_110 : decode jc_Main_load 110 = .ok (.iload 7, 2) := by decide +kernel
theorem d_Main_load_112 : decode jc_Main_load 112 = .ok (.iastore, 1) := by decide +kernel
theorem d_Main_load_113 : decode jc_Main_load 113 = .ok (.iinc 6 1, 3) := by decide +kernel
theorem d_Main_load_116 : decode jc_Main_load 116 = .ok (.goto (-47), 3) := by decide +kernel
theorem d_Main_load_119 : decode jc_Main_load 119 = .ok (.aload_n 0, 1) := by decide +kernel
theorem d_Main_load_120 : decode jc_Main_load 120 = .ok (.iload_n 1, 1) := by decide +kernel
theorem d_Main_load_121 : decode jc_Main_load 121 = .ok (.invokevirtual 77, 3) := by decide +kernel
theorem d_Main_load_124 : decode jc_Main_load 124 = .ok (.ireturn, 1) := by decide +kernel
theorem d_Main_spill_0 : decode jc_Main_spill 0 = .ok (.aload_n 0, 1) := by decide +kernel
theorem d_Main_spill_1 : decode jc_Main_spill 1 = .ok (.iload_n 1, 1) := by decide +kernel
theorem d_Main_spill_2 : decode jc_Main_spill 2 = .ok (.invokevirtual 103, 3) := by decide +kernel
theorem d_Main_spill_5 : decode jc_Main_spill 5 = .ok (.ifCond .ne 10, 3) := by decide +kernel
theorem d_Main_spill_8 : decode jc_Main_spill 8 = .ok (.iload_n 2, 1) := by decide +kernel
theorem d_Main_spill_9 : decode jc_Main_spill 9 = .ok (.invokestatic 138, 3) := by decide +kernel
theorem d_Main_spill_12 : decode jc_Main_spill 12 = .ok (.ifCond .eq 5, 3) := by decide +kernel
theorem d_Main_spill_15 : decode jc_Main_spill 15 = .ok (.iconst (-1), 1) := by decide +kernel
theorem d_Main_spill_16 : decode jc_Main_spill 16 = .ok (.ireturn, 1) := by decide +kernel
theorem d_Main_spill_17 : decode jc_Main_spill 17 = .ok (.aload_n 0, 1) := by decide +kernel
theorem d_Main_spill_18 : decode jc_Main_spill 18 = .ok (.getfield 17, 3) := by decide +kernel
theorem d_Main_spill_21 : decode jc_Main_spill 21 = .ok (.iload_n 2, 1) := by decide +kernel
theorem d_Main_spill_22 : decode jc_Main_spill 22 = .ok (.aaload, 1) := by decide +kernel
theorem d_Main_spill_23 : decode jc_Main_spill 23 = .ok (.astore 4, 2) := by decide +kernel
theorem d_Main_spill_25 : decode jc_Main_spill 25 = .ok (.aload 4, 2) := by decide +kernel
theorem d_Main_spill_27 : decode jc_Main_spill 27 = .ok (.invokevirtual 141, 3) := by decide +kernel
theorem d_Main_spill_30 : decode jc_Main_spill 30 = .ok (.ifCond .eq 6, 3) := by decide +kernel
theorem d_Main_spill_33 : decode jc_Main_spill 33 = .ok (.bipush (-11), 2) := by decide +kernel
theorem d_Main_spill_35 : decode jc_Main_spill 35 = .ok (.ireturn, 1) := by decide +kernel
theorem d_Main_spill_36 : decode jc_Main_spill 36 = .ok (.aload 4, 2) := by decide +kernel
theorem d_Main_spill_38 : decode jc_Main_spill 38 = .ok (.iload_n 3, 1) := by decide +kernel
theorem d_Main_spill_39 : decode jc_Main_spill 39 = .ok (.iconst 0, 1) := by decide +kernel
theorem d_Main_spill_40 : decode jc_Main_spill 40 = .ok (.invokevirtual 145, 3) := by decide +kernel
theorem d_Main_spill_43 : decode jc_Main_spill 43 = .ok (.ifCond .eq 6, 3) := by decide +kernel
theorem d_Main_spill_46 : decode jc_Main_spill 46 = .ok (.bipush (-12), 2) := by decide +kernel
theorem d_Main_spill_48 : decode jc_Main_spill 48 = .ok (.ireturn, 1) := by decide +kernel
theorem d_Main_spill_49 : decode jc_Main_spill 49 = .ok (.aload_n 0, 1) := by decide +kernel
theorem d_Main_spill_50 : decode jc_Main_spill 50 = .ok (.getfield 11, 3) := by decide +kernel
theorem d_Main_spill_53 : decode jc_Main_spill 53 = .ok (.iload_n 1, 1) := by decide +kernel
theorem d_Main_spill_54 : decode jc_Main_spill 54 = .ok (.aaload, 1) := by decide +kernel
theorem d_Main_spill_55 : decode jc_Main_spill 55 = .ok (.getfield 106, 3) := by decide +kernel
theorem d_Main_spill_58 : decode jc_Main_spill 58 = .ok (.aload 4, 2) := by decide +kernel
theorem d_Main_spill_60 : decode jc_Main_spill 60 = .ok (.getfield 151, 3) := by decide +kernel
theorem d_Main_spill_63 : decode jc_Main_spill 63 = .ok (.iload_n 3, 1) := by decide +kernel
theorem d_Main_spill_64 : decode jc_Main_spill 64 = .ok (.isub, 1) := by decide +kernel
theorem d_Main_spill_65 : decode jc_Main_spill 65 = .ok (.invokestatic 154, 3) := by decide +kernel
theorem d_Main_spill_68 : decode jc_Main_spill 68 = .ok (.istore 5, 2) := by decide +kernel
theorem d_Main_spill_70 : decode jc_Main_spill 70 = .ok (.iconst 0, 1) := by decide +kernel
theorem d_Main_spill_71 : decode jc_Main_spill 71 = .ok (.istore 6, 2) := by decide +kernel
theorem d_Main_spill_73 : decode jc_Main_spill 73 = .ok (.iload 6, 2) := by decide +kernel
theorem d_Main_spill_75 : decode jc_Main_spill 75 = .ok (.iload 5, 2) := by decide +kernel
theorem d_Main_spill_77 : decode jc_Main_spill 77 = .ok (.if_icmp .ge 30, 3) := by decide +kernel
theorem d_Main_spill_80 : decode jc_Main_spill 80 = .ok (.aload 4, 2) := by decide +kernel
theorem d_Main_spill_82 : decode jc_Main_spill 82 = .ok (.iload_n 3, 1) := by decide +kernel
theorem d_Main_spill_83 : decode jc_Main_spill 83 = .ok (.iload 6, 2) := by decide +kernel
theorem d_Main_spill_85 : decode jc_Main_spill 85 = .ok (.iadd, 1) := by decide +kernel
theorem d_Main_spill_86 : decode jc_Main_spill 86 = .ok (.aload_n 0, 1) := by decide +kernel
theorem d_Main_spill_87 : decode jc_Main_spill 87 = .ok (.getfield 11, 3) := by decide +kernel
theorem d_Main_spill_90 : decode jc_Main_spill 90 = .ok (.iload_n 1, 1) := by decide +kernel
theorem d_Main_spill_91 : decode jc_Main_spill 91 = .ok (.aaload, 1) := by decide +kernel
theorem d_Main_spill_92 : decode jc_Main_spill 92 = .ok (.getfield 93, 3) := by decide +kernel
theorem d_Main_spill_95 : decode jc_Main_spill 95 = .ok (.iload 6, 2) := by decide +kernel
theorem d_Main_spill_97 : decode jc_Main_spill 97 = .ok (.iaload, 1) := by decide +kernel
theorem d_Main_spill_98 : decode jc_Main_spill 98 = .ok (.invokevirtual 159, 3) := by decide +kernel
theorem d_Main_spill_101 : decode jc_Main_spill 101 = .ok (.iinc 6 1, 3) := by decide +kernel
theorem d_Main_spill_104 : decode jc_Main_spill 104 = .ok (.goto (-31), 3) := by decide +kernel
theorem d_Main_spill_107 : decode jc_Main_spill 107 = .ok (.iload 5, 2) := by decide +kernel
theorem d_Main_spill_109 : decode jc_Main_spill 109 = .ok (.ireturn, 1) := by decide +kernel
theorem d_Main_told_0 : decode jc_Main_told 0 = .ok (.iload_n 1, 1) := by decide +kernel
theorem d_Main_told_1 : decode jc_Main_told 1 = .ok (.invokestatic 62, 3) := by decide +kernel
theorem d_Main_told_4 : decode jc_Main_told 4 = .ok (.ifCond .ne 13, 3) := by decide +kernel
theorem d_Main_told_7 : decode jc_Main_told 7 = .ok (.iload_n 2, 1) := by decide +kernel
theorem d_Main_told_8 : decode jc_Main_told 8 = .ok (.iconst 0, 1) := by decide +kernel
theorem d_Main_told_9 : decode jc_Main_told 9 = .ok (.bipush 7, 2) := by decide +kernel
theorem d_Main_told_11 : decode jc_Main_told 11 = .ok (.invokestatic 69, 3) := by decide +kernel
theorem d_Main_told_14 : decode jc_Main_told 14 = .ok (.ifCond .eq 5, 3) := by decide +kernel
theorem d_Main_told_17 : decode jc_Main_told 17 = .ok (.iconst (-1), 1) := by decide +kernel
theorem d_Main_told_18 : decode jc_Main_told 18 = .ok (.ireturn, 1) := by decide +kernel
theorem d_Main_told_19 : decode jc_Main_told 19 = .ok (.aload_n 0, 1) := by decide +kernel
theorem d_Main_told_20 : decode jc_Main_told 20 = .ok (.getfield 11, 3) := by decide +kernel
theorem d_Main_told_23 : decode jc_Main_told 23 = .ok (.iload_n 1, 1) := by decide +kernel
theorem d_Main_told_24 : decode jc_Main_told 24 = .ok (.aaload, 1) := by decide +kernel
theorem d_Main_told_25 : decode jc_Main_told 25 = .ok (.astore_n 3, 1) := by decide +kernel
theorem d_Main_told_26 : decode jc_Main_told 26 = .ok (.iload_n 2, 1) := by decide +kernel
theorem d_Main_told_27 : decode jc_Main_told 27 = .ok (.ifCond .ne 8, 3) := by decide +kernel
theorem d_Main_told_30 : decode jc_Main_told 30 = .ok (.aload_n 3, 1) := by decide +kernel
theorem d_Main_told_31 : decode jc_Main_told 31 = .ok (.getfield 106, 3) := by decide +kernel
theorem d_Main_told_34 : decode jc_Main_told 34 = .ok (.ireturn, 1) := by decide +kernel
theorem d_Main_told_35 : decode jc_Main_told 35 = .ok (.aload_n 3, 1) := by decide +kernel
theorem d_Main_told_36 : decode jc_Main_told 36 = .ok (.getfield 106, 3) := by decide +kernel
theorem d_Main_told_39 : decode jc_Main_told 39 = .ok (.ifCond .ne 5, 3) := by decide +kernel
theorem d_Main_told_42 : decode jc_Main_told 42 = .ok (.iconst (-1), 1) := by decide +kernel
theorem d_Main_told_43 : decode jc_Main_told 43 = .ok (.ireturn, 1) := by decide +kernel
theorem d_Main_told_44 : decode jc_Main_told 44 = .ok (.iload_n 2, 1) := by decide +kernel
theorem d_Main_told_45 : decode jc_Main_told 45 = .ok (.iconst 4, 1) := by decide +kernel
theorem d_Main_told_46 : decode jc_Main_told 46 = .ok (.if_icmp .ne 12, 3) := by decide +kernel
theorem d_Main_told_49 : decode jc_Main_told 49 = .ok (.aload_n 0, 1) := by decide +kernel
theorem d_Main_told_50 : decode jc_Main_told 50 = .ok (.getfield 31, 3) := by decide +kernel
theorem d_Main_told_53 : decode jc_Main_told 53 = .ok (.aload_n 3, 1) := by decide +kernel
theorem d_Main_told_54 : decode jc_Main_told 54 = .ok (.invokevirtual 162, 3) := by decide +kernel
theorem d_Main_told_57 : decode jc_Main_told 57 = .ok (.ireturn, 1) := by decide +kernel
theorem d_Main_told_58 : decode jc_Main_told 58 = .ok (.iload_n 2, 1) := by decide +kernel
theorem d_Main_told_59 : decode jc_Main_told 59 = .ok (.iconst 5, 1) := by decide +kernel
theorem d_Main_told_60 : decode jc_Main_told 60 = .ok (.if_icmp .ne 8, 3) := by decide +kernel
theorem d_Main_told_63 : decode jc_Main_told 63 = .ok (.aload_n 3, 1) := by decide +kernel
theorem d_Main_told_64 : decode jc_Main_told 64 = .ok (.invokevirtual 166, 3) := by decide +kernel
theorem d_Main_told_67 : decode jc_Main_told 67 = .ok (.ireturn, 1) := by decide +kernel
theorem d_Main_told_68 : decode jc_Main_told 68 = .ok (.iload_n 2, 1) := by decide +kernel
theorem d_Main_told_69 : decode jc_Main_told 69 = .ok (.bipush 6, 2) := by decide +kernel
theorem d_Main_told_71 : decode jc_Main_told 71 = .ok (.if_icmp .ne 17, 3) := by decide +kernel
theorem d_Main_told_74 : decode jc_Main_told 74 = .ok (.aload_n 0, 1) := by decide +kernel
theorem d_Main_told_75 : decode jc_Main_told 75 = .ok (.aload_n 3, 1) := by decide +kernel
theorem d_Main_told_76 : decode jc_Main_told 76 = .ok (.invokevirtual 170, 3) := by decide +kernel
theorem d_Main_told_79 : decode jc_Main_told 79 = .ok (.ifCond .eq 7, 3) := by decide +kernel
theorem d_Main_told_82 : decode jc_Main_told 82 = .ok (.iconst 1, 1) := by decide +kernel
theorem d_Main_told_83 : decode jc_Main_told 83 = .ok (.goto 4, 3) := by decide +kernel
theorem d_Main_told_86 : decode jc_Main_told 86 = .ok (.iconst 0, 1) := by decide +kernel
theorem d_Main_told_87 : decode jc_Main_told 87 = .ok (.ireturn, 1) := by decide +kernel
theorem d_Main_told_88 : decode jc_Main_told 88 = .ok (.iload_n 2, 1) := by decide +kernel
theorem d_Main_told_89 : decode jc_Main_told 89 = .ok (.bipush 7, 2) := by decide +kernel
theorem d_Main_told_91 : decode jc_Main_told 91 = .ok (.if_icmp .ne 17, 3) := by decide +kernel
theorem d_Main_told_94 : decode jc_Main_told 94 = .ok (.aload_n 0, 1) := by decide +kernel
theorem d_Main_told_95 : decode jc_Main_told 95 = .ok (.aload_n 3, 1) := by decide +kernel
theorem d_Main_told_96 : decode jc_Main_told 96 = .ok (.invokevirtual 173, 3) := by decide +kernel
theorem d_Main_told_99 : decode jc_Main_told 99 = .ok (.ifCond .eq 7, 3) := by decide +kernel
theorem d_Main_told_102 : decode jc_Main_told 102 = .ok (.iconst 1, 1) := by decide +kernel
theorem d_Main_told_103 : decode jc_Main_told 103 = .ok (.goto 4, 3) := by decide +kernel
theorem d_Main_told_106 : decode jc_Main_told 106 = .ok (.iconst 0, 1) := by decide +kernel
theorem d_Main_told_107 : decode jc_Main_told 107 = .ok (.ireturn, 1) := by decide +kernel
theorem d_Main_told_108 : decode jc_Main_told 108 = .ok (.aload_n 0, 1) := by decide +kernel
theorem d_Main_told_109 : decode jc_Main_told 109 = .ok (.getfield 31, 3) := by decide +kernel
theorem d_Main_told_112 : decode jc_Main_told 112 = .ok (.aload_n 3, 1) := by decide +kernel
theorem d_Main_told_113 : decode jc_Main_told 113 = .ok (.invokevirtual 176, 3) := by decide +kernel
theorem d_Main_told_116 : decode jc_Main_told 116 = .ok (.iload_n 2, 1) := by decide +kernel
theorem d_Main_told_117 : decode jc_Main_told 117 = .ok (.iconst 1, 1) := by decide +kernel
theorem d_Main_told_118 : decode jc_Main_told 118 = .ok (.if_icmp .ne 13, 3) := by decide +kernel
theorem d_Main_told_121 : decode jc_Main_told 121 = .ok (.aload_n 0, 1) := by decide +kernel
theorem d_Main_told_122 : decode jc_Main_told 122 = .ok (.getfield 31, 3) := by decide +kernel
theorem d_Main_told_125 : decode jc_Main_told 125 = .ok (.getfield 179, 3) := by decide +kernel
theorem d_Main_told_128 : decode jc_Main_told 128 = .ok (.goto 25, 3) := by decide +kernel
theorem d_Main_told_131 : decode jc_Main_told 131 = .ok (.iload_n 2, 1) := by decide +kernel
theorem d_Main_told_132 : decode jc_Main_told 132 = .ok (.iconst 2, 1) := by decide +kernel
theorem d_Main_told_133 : decode jc_Main_told 133 = .ok (.if_icmp .ne 13, 3) := by decide +kernel
theorem d_Main_told_136 : decode jc_Main_told 136 = .ok (.aload_n 0, 1) := by decide +kernel
theorem d_Main_told_137 : decode jc_Main_told 137 = .ok (.getfield 31, 3) := by decide +kernel
theorem d_Main_told_140 : decode jc_Main_told 140 = .ok (.getfield 182, 3) := by decide +kernel
theorem d_Main_told_143 : decode jc_Main_told 143 = .ok (.goto 10, 3) := by decide +kernel
theorem d_Main_told_146 : decode jc_Main_told 146 = .ok (.aload_n 0, 1) := by decide +kernel
theorem d_Main_told_147 : decode jc_Main_told 147 = .ok (.getfield 31, 3) := by decide +kernel
theorem d_Main_told_150 : decode jc_Main_told 150 = .ok (.invokevirtual 185, 3) := by decide +kernel
theorem d_Main_told_153 : decode jc_Main_told 153 = .ok (.ireturn, 1) := by decide +kernel
theorem d_Main_reaches_0 : decode jc_Main_reaches 0 = .ok (.aload_n 0, 1) := by decide +kernel
theorem d_Main_reaches_1 : decode jc_Main_reaches 1 = .ok (.iload_n 1, 1) := by decide +kernel
theorem d_Main_reaches_2 : decode jc_Main_reaches 2 = .ok (.invokevirtual 103, 3) := by decide +kernel
theorem d_Main_reaches_5 : decode jc_Main_reaches 5 = .ok (.ifCond .ne 11, 3) := by decide +kernel
theorem d_Main_reaches_8 : decode jc_Main_reaches 8 = .ok (.aload_n 0, 1) := by decide +kernel
theorem d_Main_reaches_9 : decode jc_Main_reaches 9 = .ok (.iload_n 2, 1) := by decide +kernel
theorem d_Main_reaches_10 : decode jc_Main_reaches 10 = .ok (.invokevirtual 103, 3) := by decide +kernel
theorem d_Main_reaches_13 : decode jc_Main_reaches 13 = .ok (.ifCond .eq 5, 3) := by decide +kernel
theorem d_Main_reaches_16 : decode jc_Main_reaches 16 = .ok (.iconst (-1), 1) := by decide +kernel
theorem d_Main_reaches_17 : decode jc_Main_reaches 17 = .ok (.ireturn, 1) := by decide +kernel
theorem d_Main_reaches_18 : decode jc_Main_reaches 18 = .ok (.aload_n 0, 1) := by decide +kernel
theorem d_Main_reaches_19 : decode jc_Main_reaches 19 = .ok (.getfield 11, 3) := by decide +kernel
theorem d_Main_reaches_22 : decode jc_Main_reaches 22 = .ok (.iload_n 1, 1) := by decide +kernel
theorem d_Main_reaches_23 : decode jc_Main_reaches 23 = .ok (.aaload, 1) := by decide +kernel
theorem d_Main_reaches_24 : decode jc_Main_reaches 24 = .ok (.getfield 106, 3) := by decide +kernel
theorem d_Main_reaches_27 : decode jc_Main_reaches 27 = .ok (.aload_n 0, 1) := by decide +kernel
theorem d_Main_reaches_28 : decode jc_Main_reaches 28 = .ok (.getfield 11, 3) := by decide +kernel
theorem d_Main_reaches_31 : decode jc_Main_reaches 31 = .ok (.iload_n 2, 1) := by decide +kernel
theorem d_Main_reaches_32 : decode jc_Main_reaches 32 = .ok (.aaload, 1) := by decide +kernel
theorem d_Main_reaches_33 : decode jc_Main_reaches 33 = .ok (.getfield 106, 3) := by decide +kernel
theorem d_Main_reaches_36 : decode jc_Main_reaches 36 = .ok (.if_icmp .eq 6, 3) := by decide +kernel
theorem d_Main_reaches_39 : decode jc_Main_reaches 39 = .ok (.bipush (-3), 2) := by decide +kernel
theorem d_Main_reaches_41 : decode jc_Main_reaches 41 = .ok (.ireturn, 1) := by decide +kernel
theorem d_Main_reaches_42 : decode jc_Main_reaches 42 = .ok (.aload_n 0, 1) := by decide +kernel
theorem d_Main_reaches_43 : decode jc_Main_reaches 43 = .ok (.getfield 31, 3) := by decide +kernel
theorem d_Main_reaches_46 : decode jc_Main_reaches 46 = .ok (.aload_n 0, 1) := by decide +kernel
theorem d_Main_reaches_47 : decode jc_Main_reaches 47 = .ok (.getfield 11, 3) := by decide +kernel
theorem d_Main_reaches_50 : decode jc_Main_reaches 50 = .ok (.iload_n 1, 1) := by decide +kernel
theorem d_Main_reaches_51 : decode jc_Main_reaches 51 = .ok (.aaload, 1) := by decide +kernel
theorem d_Main_reaches_52 : decode jc_Main_reaches 52 = .ok (.aload_n 0, 1) := by decide +kernel
theorem d_Main_reaches_53 : decode jc_Main_reaches 53 = .ok (.getfield 11, 3) := by decide +kernel
theorem d_Main_reaches_56 : decode jc_Main_reaches 56 = .ok (.iload_n 2, 1) := by decide +kernel
theorem d_Main_reaches_57 : decode jc_Main_reaches 57 = .ok (.aaload, 1) := by decide +kernel
theorem d_Main_reaches_58 : decode jc_Main_reaches 58 = .ok (.sipush 1000, 3) := by decide +kernel
theorem d_Main_reaches_61 : decode jc_Main_reaches 61 = .ok (.invokevirtual 188, 3) := by decide +kernel
theorem d_Main_reaches_64 : decode jc_Main_reaches 64 = .ok (.istore_n 3, 1) := by decide +kernel
theorem d_Main_reaches_65 : decode jc_Main_reaches 65 = .ok (.iload_n 3, 1) := by decide +kernel
theorem d_Main_reaches_66 : decode jc_Main_reaches 66 = .ok (.ifCond .ne 8, 3) := by decide +kernel
theorem d_Main_reaches_69 : decode jc_Main_reaches 69 = .ok (.bipush (-2), 2) := by decide +kernel
theorem d_Main_reaches_71 : decode jc_Main_reaches 71 = .ok (.goto 4, 3) := by decide +kernel
theorem d_Main_reaches_74 : decode jc_Main_reaches 74 = .ok (.iload_n 3, 1) := by decide +kernel
theorem d_Main_reaches_75 : decode jc_Main_reaches 75 = .ok (.ireturn, 1) := by decide +kernel
theorem d_Main_bound_0 : decode jc_Main_bound 0 = .ok (.aload_n 0, 1) := by decide +kernel
theorem d_Main_bound_1 : decode jc_Main_bound 1 = .ok (.iload_n 1, 1) := by decide +kernel
theorem d_Main_bound_2 : decode jc_Main_bound 2 = .ok (.invokevirtual 103, 3) := by decide +kernel
theorem d_Main_bound_5 : decode jc_Main_bound 5 = .ok (.ifCond .ne 12, 3) := by decide +kernel
theorem d_Main_bound_8 : decode jc_Main_bound 8 = .ok (.iload_n 2, 1) := by decide +kernel
theorem d_Main_bound_9 : decode jc_Main_bound 9 = .ok (.iconst 0, 1) := by decide +kernel
theorem d_Main_bound_10 : decode jc_Main_bound 10 = .ok (.iconst 3, 1) := by decide +kernel
theorem d_Main_bound_11 : decode jc_Main_bound 11 = .ok (.invokestatic 69, 3) := by decide +kernel
theorem d_Main_bound_14 : decode jc_Main_bound 14 = .ok (.ifCond .eq 5, 3) := by decide +kernel
theorem d_Main_bound_17 : decode jc_Main_bound 17 = .ok (.iconst (-1), 1) := by decide +kernel
theorem d_Main_bound_18 : decode jc_Main_bound 18 = .ok (.ireturn, 1) := by decide +kernel
theorem d_Main_bound_19 : decode jc_Main_bound 19 = .ok (.aload_n 0, 1) := by decide +kernel
theorem d_Main_bound_20 : decode jc_Main_bound 20 = .ok (.getfield 11, 3) := by decide +kernel
theorem d_Main_bound_23 : decode jc_Main_bound 23 = .ok (.iload_n 1, 1) := by decide +kernel
theorem d_Main_bound_24 : decode jc_Main_bound 24 = .ok (.aaload, 1) := by decide +kernel
theorem d_Main_bound_25 : decode jc_Main_bound 25 = .ok (.astore_n 3, 1) := by decide +kernel
theorem d_Main_bound_26 : decode jc_Main_bound 26 = .ok (.aload_n 3, 1) := by decide +kernel
theorem d_Main_bound_27 : decode jc_Main_bound 27 = .ok (.getfield 106, 3) := by decide +kernel
theorem d_Main_bound_30 : decode jc_Main_bound 30 = .ok (.istore 4, 2) := by decide +kernel
theorem d_Main_bound_32 : decode jc_Main_bound 32 = .ok (.aload_n 0, 1) := by decide +kernel
theorem d_Main_bound_33 : decode jc_Main_bound 33 = .ok (.getfield 31, 3) := by decide +kernel
theorem d_Main_bound_36 : decode jc_Main_bound 36 = .ok (.aload_n 3, 1) := by decide +kernel
theorem d_Main_bound_37 : decode jc_Main_bound 37 = .ok (.invokevirtual 162, 3) := by decide +kernel
theorem d_Main_bound_40 : decode jc_Main_bound 40 = .ok (.ifCond .ne 6, 3) := by decide +kernel
theorem d_Main_bound_43 : decode jc_Main_bound 43 = .ok (.bipush (-2), 2) := by decide +kernel
theorem d_Main_bound_45 : decode jc_Main_bound 45 = .ok (.ireturn, 1) := by decide +kernel
theorem d_Main_bound_46 : decode jc_Main_bound 46 = .ok (.iload_n 2, 1) := by decide +kernel
theorem d_Main_bound_47 : decode jc_Main_bound 47 = .ok (.ifCond .ne 15, 3) := by decide +kernel
theorem d_Main_bound_50 : decode jc_Main_bound 50 = .ok (.iload 4, 2) := by decide +kernel
theorem d_Main_bound_52 : decode jc_Main_bound 52 = .ok (.iconst 1, 1) := by decide +kernel
theorem d_Main_bound_53 : decode jc_Main_bound 53 = .ok (.isub, 1) := by decide +kernel
theorem d_Main_bound_54 : decode jc_Main_bound 54 = .ok (.iload 4, 2) := by decide +kernel
theorem d_Main_bound_56 : decode jc_Main_bound 56 = .ok (.iconst 1, 1) := by decide +kernel
theorem d_Main_bound_57 : decode jc_Main_bound 57 = .ok (.isub, 1) := by decide +kernel
theorem d_Main_bound_58 : decode jc_Main_bound 58 = .ok (.imul, 1) := by decide +kernel
theorem d_Main_bound_59 : decode jc_Main_bound 59 = .ok (.iconst 1, 1) := by decide +kernel
theorem d_Main_bound_60 : decode jc_Main_bound 60 = .ok (.iadd, 1) := by decide +kernel
theorem d_Main_bound_61 : decode jc_Main_bound 61 = .ok (.ireturn, 1) := by decide +kernel
theorem d_Main_bound_62 : decode jc_Main_bound 62 = .ok (.iload_n 2, 1) := by decide +kernel
theorem d_Main_bound_63 : decode jc_Main_bound 63 = .ok (.iconst 1, 1) := by decide +kernel
theorem d_Main_bound_64 : decode jc_Main_bound 64 = .ok (.if_icmp .ne 29, 3) := by decide +kernel
theorem d_Main_bound_67 : decode jc_Main_bound 67 = .ok (.aload_n 0, 1) := by decide +kernel
theorem d_Main_bound_68 : decode jc_Main_bound 68 = .ok (.getfield 38, 3) := by decide +kernel
theorem d_Main_bound_71 : decode jc_Main_bound 71 = .ok (.aload_n 3, 1) := by decide +kernel
theorem d_Main_bound_72 : decode jc_Main_bound 72 = .ok (.invokevirtual 192, 3) := by decide +kernel
theorem d_Main_bound_75 : decode jc_Main_bound 75 = .ok (.iload 4, 2) := by decide +kernel
theorem d_Main_bound_77 : decode jc_Main_bound 77 = .ok (.aload_n 0, 1) := by decide +kernel
theorem d_Main_bound_78 : decode jc_Main_bound 78 = .ok (.getfield 38, 3) := by decide +kernel
theorem d_Main_bound_81 : decode jc_Main_bound 81 = .ok (.getfield 195, 3) := by decide +kernel
theorem d_Main_bound_84 : decode jc_Main_bound 84 = .ok (.iconst 0, 1) := by decide +kernel
theorem d_Main_bound_85 : decode jc_Main_bound 85 = .ok (.iaload, 1) := by decide +kernel
theorem d_Main_bound_86 : decode jc_Main_bound 86 = .ok (.iload 4, 2) := by decide +kernel
theorem d_Main_bound_88 : decode jc_Main_bound 88 = .ok (.iconst 2, 1) := by decide +kernel
theorem d_Main_bound_89 : decode jc_Main_bound 89 = .ok (.isub, 1) := by decide +kernel
theorem d_Main_bound_90 : decode jc_Main_bound 90 = .ok (.imul, 1) := by decide +kernel
theorem d_Main_bound_91 : decode jc_Main_bound 91 = .ok (.iadd, 1) := by decide +kernel
theorem d_Main_bound_92 : decode jc_Main_bound 92 = .ok (.ireturn, 1) := by decide +kernel
theorem d_Main_bound_93 : decode jc_Main_bound 93 = .ok (.iload_n 2, 1) := by decide +kernel
theorem d_Main_bound_94 : decode jc_Main_bound 94 = .ok (.iconst 2, 1) := by decide +kernel
theorem d_Main_bound_95 : decode jc_Main_bound 95 = .ok (.if_icmp .ne 29, 3) := by decide +kernel
theorem d_Main_bound_98 : decode jc_Main_bound 98 = .ok (.aload_n 3, 1) := by decide +kernel
theorem d_Main_bound_99 : decode jc_Main_bound 99 = .ok (.invokevirtual 198, 3) := by decide +kernel
theorem d_Main_bound_102 : decode jc_Main_bound 102 = .ok (.istore 5, 2) := by decide +kernel
theorem d_Main_bound_104 : decode jc_Main_bound 104 = .ok (.iload 5, 2) := by decide +kernel
theorem d_Main_bound_106 : decode jc_Main_bound 106 = .ok (.ifCond .ne 8, 3) := by decide +kernel
theorem d_Main_bound_109 : decode jc_Main_bound 109 = .ok (.bipush (-2), 2) := by decide +kernel
theorem d_Main_bound_111 : decode jc_Main_bound 111 = .ok (.goto 12, 3) := by decide +kernel
theorem d_Main_bound_114 : decode jc_Main_bound 114 = .ok (.iconst 2, 1) := by decide +kernel
theorem d_Main_bound_115 : decode jc_Main_bound 115 = .ok (.iload 4, 2) := by decide +kernel
theorem d_Main_bound_117 : decode jc_Main_bound 117 = .ok (.imul, 1) := by decide +kernel
theorem d_Main_bound_118 : decode jc_Main_bound 118 = .ok (.iload 5, 2) := by decide +kernel
theorem d_Main_bound_120 : decode jc_Main_bound 120 = .ok (.isub, 1) := by decide +kernel
theorem d_Main_bound_121 : decode jc_Main_bound 121 = .ok (.iconst 1, 1) := by decide +kernel
theorem d_Main_bound_122 : decode jc_Main_bound 122 = .ok (.isub, 1) := by decide +kernel
theorem d_Main_bound_123 : decode jc_Main_bound 123 = .ok (.ireturn, 1) := by decide +kernel
theorem d_Main_bound_124 : decode jc_Main_bound 124 = .ok (.aload_n 0, 1) := by decide +kernel
theorem d_Main_bound_125 : decode jc_Main_bound 125 = .ok (.aload_n 3, 1) := by decide +kernel
theorem d_Main_bound_126 : decode jc_Main_bound 126 = .ok (.invokevirtual 173, 3) := by decide +kernel
theorem d_Main_bound_129 : decode jc_Main_bound 129 = .ok (.ifCond .ne 6, 3) := by decide +kernel
theorem d_Main_bound_132 : decode jc_Main_bound 132 = .ok (.bipush (-2), 2) := by decide +kernel
theorem d_Main_bound_134 : decode jc_Main_bound 134 = .ok (.ireturn, 1) := by decide +kernel
theorem d_Main_bound_135 : decode jc_Main_bound 135 = .ok (.iload 4, 2) := by decide +kernel
theorem d_Main_bound_137 : decode jc_Main_bound 137 = .ok (.iconst 1, 1) := by decide +kernel
theorem d_Main_bound_138 : decode jc_Main_bound 138 = .ok (.if_icmp .ne 7, 3) := by decide +kernel
theorem d_Main_bound_141 : decode jc_Main_bound 141 = .ok (.iconst 1, 1) := by decide +kernel
theorem d_Main_bound_142 : decode jc_Main_bound 142 = .ok (.goto 9, 3) := by decide +kernel
theorem d_Main_bound_145 : decode jc_Main_bound 145 = .ok (.iconst 2, 1) := by decide +kernel
theorem d_Main_bound_146 : decode jc_Main_bound 146 = .ok (.iload 4, 2) := by decide +kernel
theorem d_Main_bound_148 : decode jc_Main_bound 148 = .ok (.imul, 1) := by decide +kernel
theorem d_Main_bound_149 : decode jc_Main_bound 149 = .ok (.iconst 2, 1) := by decide +kernel
theorem d_Main_bound_150 : decode jc_Main_bound 150 = .ok (.isub, 1) := by decide +kernel
theorem d_Main_bound_151 : decode jc_Main_bound 151 = .ok (.ireturn, 1) := by decide +kernel
theorem d_Main_classes_0 : decode jc_Main_classes 0 = .ok (.aload_n 0, 1) := by decide +kernel
theorem d_Main_classes_1 : decode jc_Main_classes 1 = .ok (.iload_n 1, 1) := by decide +kernel
theorem d_Main_classes_2 : decode jc_Main_classes 2 = .ok (.invokevirtual 103, 3) := by decide +kernel
theorem d_Main_classes_5 : decode jc_Main_classes 5 = .ok (.ifCond .eq 5, 3) := by decide +kernel
theorem d_Main_classes_8 : decode jc_Main_classes 8 = .ok (.iconst (-1), 1) := by decide +kernel
theorem d_Main_classes_9 : decode jc_Main_classes 9 = .ok (.ireturn, 1) := by decide +kernel
theorem d_Main_classes_10 : decode jc_Main_classes 10 = .ok (.aload_n 0, 1) := by decide +kernel
theorem d_Main_classes_11 : decode jc_Main_classes 11 = .ok (.getfield 38, 3) := by decide +kernel
theorem d_Main_classes_14 : decode jc_Main_classes 14 = .ok (.aload_n 0, 1) := by decide +kernel
theorem d_Main_classes_15 : decode jc_Main_classes 15 = .ok (.getfield 11, 3) := by decide +kernel
theorem d_Main_classes_18 : decode jc_Main_classes 18 = .ok (.iload_n 1, 1) := by decide +kernel
theorem d_Main_classes_19 : decode jc_Main_classes 19 = .ok (.aaload, 1) := by decide +kernel
theorem d_Main_classes_20 : decode jc_Main_classes 20 = .ok (.invokevirtual 192, 3) := by decide +kernel
theorem d_Main_classes_23 : decode jc_Main_classes 23 = .ok (.aload_n 0, 1) := by decide +kernel
theorem d_Main_classes_24 : decode jc_Main_classes 24 = .ok (.getfield 38, 3) := by decide +kernel
theorem d_Main_classes_27 : decode jc_Main_classes 27 = .ok (.getfield 201, 3) := by decide +kernel
theorem d_Main_classes_30 : decode jc_Main_classes 30 = .ok (.ireturn, 1) := by decide +kernel
theorem d_Main_classOf_0 : decode jc_Main_classOf 0 = .ok (.aload_n 0, 1) := by decide +kernel
theorem d_Main_classOf_1 : decode jc_Main_classOf 1 = .ok (.iload_n 1, 1) := by decide +kernel
theorem d_Main_classOf_2 : decode jc_Main_classOf 2 = .ok (.iload_n 2, 1) := by decide +kernel
theorem d_Main_classOf_3 : decode jc_Main_classOf 3 = .ok (.invokevirtual 81, 3) := by decide +kernel
theorem d_Main_classOf_6 : decode jc_Main_classOf 6 = .ok (.ifCond .eq 5, 3) := by decide +kernel
theorem d_Main_classOf_9 : decode jc_Main_classOf 9 = .ok (.iconst (-1), 1) := by decide +kernel
theorem d_Main_classOf_10 : decode jc_Main_classOf 10 = .ok (.ireturn, 1) := by decide +kernel
theorem d_Main_classOf_11 : decode jc_Main_classOf 11 = .ok (.aload_n 0, 1) := by decide +kernel
theorem d_Main_classOf_12 : decode jc_Main_classOf 12 = .ok (.getfield 38, 3) := by decide +kernel
theorem d_Main_classOf_15 : decode jc_Main_classOf 15 = .ok (.aload_n 0, 1) := by decide +kernel
theorem d_Main_classOf_16 : decode jc_Main_classOf 16 = .ok (.getfield 11, 3) := by decide +kernel
theorem d_Main_classOf_19 : decode jc_Main_classOf 19 = .ok (.iload_n 1, 1) := by decide +kernel
theorem d_Main_classOf_20 : decode jc_Main_classOf 20 = .ok (.aaload, 1) := by decide +kernel
theorem d_Main_classOf_21 : decode jc_Main_classOf 21 = .ok (.invokevirtual 192, 3) := by decide +kernel
theorem d_Main_classOf_24 : decode jc_Main_classOf 24 = .ok (.aload_n 0, 1) := by decide +kernel
theorem d_Main_classOf_25 : decode jc_Main_classOf 25 = .ok (.getfield 38, 3) := by decide +kernel
theorem d_Main_classOf_28 : decode jc_Main_classOf 28 = .ok (.getfield 204, 3) := by decide +kernel
theorem d_Main_classOf_31 : decode jc_Main_classOf 31 = .ok (.iload_n 2, 1) := by decide +kernel
theorem d_Main_classOf_32 : decode jc_Main_classOf 32 = .ok (.iaload, 1) := by decide +kernel
theorem d_Main_classOf_33 : decode jc_Main_classOf 33 = .ok (.ireturn, 1) := by decide +kernel
theorem d_Main_ofClass_0 : decode jc_Main_ofClass 0 = .ok (.iload_n 3, 1) := by decide +kernel
theorem d_Main_ofClass_1 : decode jc_Main_ofClass 1 = .ok (.iconst 0, 1) := by decide +kernel
theorem d_Main_ofClass_2 : decode jc_Main_ofClass 2 = .ok (.bipush 7, 2) := by decide +kernel
theorem d_Main_ofClass_4 : decode jc_Main_ofClass 4 = .ok (.invokestatic 69, 3) := by decide +kernel
theorem d_Main_ofClass_7 : decode jc_Main_ofClass 7 = .ok (.ifCond .ne 12, 3) := by decide +kernel
theorem d_Main_ofClass_10 : decode jc_Main_ofClass 10 = .ok (.aload_n 0, 1) := by decide +kernel
theorem d_Main_ofClass_11 : decode jc_Main_ofClass 11 = .ok (.iload_n 1, 1) := by decide +kernel
theorem d_Main_ofClass_12 : decode jc_Main_ofClass 12 = .ok (.iload_n 2, 1) := by decide +kernel
theorem d_Main_ofClass_13 : decode jc_Main_ofClass 13 = .ok (.invokevirtual 207, 3) := by decide +kernel
theorem d_Main_ofClass_16 : decode jc_Main_ofClass 16 = .ok (.ifCond .ne 5, 3) := by decide +kernel
theorem d_Main_ofClass_19 : decode jc_Main_ofClass 19 = .ok (.iconst (-1), 1) := by decide +kernel
theorem d_Main_ofClass_20 : decode jc_Main_ofClass 20 = .ok (.ireturn, 1) := by decide +kernel
theorem d_Main_ofClass_21 : decode jc_Main_ofClass 21 = .ok (.iload_n 3, 1) := by decide +kernel
theorem d_Main_ofClass_22 : decode jc_Main_ofClass 22 = .ok (.tableswitch 118 0 6 #[42, 52, 65, 75, 85, 95, 105], 42) := by decide +kernel
theorem d_Main_ofClass_64 : decode jc_Main_ofClass 64 = .ok (.aload_n 0, 1) := by decide +kernel
theorem d_Main_ofClass_65 : decode jc_Main_ofClass 65 = .ok (.getfield 38, 3) := by decide +kernel
theorem d_Main_ofClass_68 : decode jc_Main_ofClass 68 = .ok (.getfield 210, 3) := by decide +kernel
theorem d_Main_ofClass_71 : decode jc_Main_ofClass 71 = .ok (.iload_n 2, 1) := by decide +kernel
theorem d_Main_ofClass_72 : decode jc_Main_ofClass 72 = .ok (.iaload, 1) := by decide +kernel
theorem d_Main_ofClass_73 : decode jc_Main_ofClass 73 = .ok (.ireturn, 1) := by decide +kernel
theorem d_Main_ofClass_74 : decode jc_Main_ofClass 74 = .ok (.aload_n 0, 1) := by decide +kernel
theorem d_Main_ofClass_75 : decode jc_Main_ofClass 75 = .ok (.getfield 38, 3) := by decide +kernel
theorem d_Main_ofClass_78 : decode jc_Main_ofClass 78 = .ok (.getfield 213, 3) := by decide +kernel
theorem d_Main_ofClass_81 : decode jc_Main_ofClass 81 = .ok (.iload_n 2, 1) := by decide +kernel
theorem d_Main_ofClass_82 : decode jc_Main_ofClass 82 = .ok (.iaload, 1) := by decide +kernel
theorem d_Main_ofClass_83 : decode jc_Main_ofClass 83 = .ok (.invokestatic 216, 3) := by decide +kernel
theorem d_Main_ofClass_86 : decode jc_Main_ofClass 86 = .ok (.ireturn, 1) := by decide +kernel
theorem d_Main_ofClass_87 : decode jc_Main_ofClass 87 = .ok (.aload_n 0, 1) := by decide +kernel
theorem d_Main_ofClass_88 : decode jc_Main_ofClass 88 = .ok (.getfield 38, 3) := by decide +kernel
theorem d_Main_ofClass_91 : decode jc_Main_ofClass 91 = .ok (.getfield 221, 3) := by decide +kernel
theorem d_Main_ofClass_94 : decode jc_Main_ofClass 94 = .ok (.iload_n 2, 1) := by decide +kernel
theorem d_Main_ofClass_95 : decode jc_Main_ofClass 95 = .ok (.iaload, 1) := by decide +kernel
theorem d_Main_ofClass_96 : decode jc_Main_ofClass 96 = .ok (.ireturn, 1) := by decide +kernel
theorem d_Main_ofClass_97 : decode jc_Main_ofClass 97 = .ok (.aload_n 0, 1) := by decide +kernel
theorem d_Main_ofClass_98 : decode jc_Main_ofClass 98 = .ok (.getfield 38, 3) := by decide +kernel
theorem d_Main_ofClass_101 : decode jc_Main_ofClass 101 = .ok (.getfield 195, 3) := by decide +kernel
theorem d_Main_ofClass_104 : decode jc_Main_ofClass 104 = .ok (.iload_n 2, 1) := by decide +kernel
theorem d_Main_ofClass_105 : decode jc_Main_ofClass 105 = .ok (.iaload, 1) := by decide +kernel
theorem d_Main_ofClass_106 : decode jc_Main_ofClass 106 = .ok (.ireturn, 1) := by decide +kernel
theorem d_Main_ofClass_107 : decode jc_Main_ofClass 107 = .ok (.aload_n 0, 1) := by decide +kernel
theorem d_Main_ofClass_108 : decode jc_Main_ofClass 108 = .ok (.getfield 38, 3) := by decide +kernel
theorem d_Main_ofClass_111 : decode jc_Main_ofClass 111 = .ok (.getfield 223, 3) := by decide +kernel
theorem d_Main_ofClass_114 : decode jc_Main_ofClass 114 = .ok (.iload_n 2, 1) := by decide +kernel
theorem d_Main_ofClass_115 : decode jc_Main_ofClass 115 = .ok (.iaload, 1) := by decide +kernel
theorem d_Main_ofClass_116 : decode jc_Main_ofClass 116 = .ok (.ireturn, 1) := by decide +kernel
theorem d_Main_ofClass_117 : decode jc_Main_ofClass 117 = .ok (.aload_n 0, 1) := by decide +kernel
theorem d_Main_ofClass_118 : decode jc_Main_ofClass 118 = .ok (.getfield 38, 3) := by decide +kernel
theorem d_Main_ofClass_121 : decode jc_Main_ofClass 121 = .ok (.getfield 213, 3) := by decide +kernel
theorem d_Main_ofClass_124 : decode jc_Main_ofClass 124 = .ok (.iload_n 2, 1) := by decide +kernel
theorem d_Main_ofClass_125 : decode jc_Main_ofClass 125 = .ok (.iaload, 1) := by decide +kernel
theorem d_Main_ofClass_126 : decode jc_Main_ofClass 126 = .ok (.ireturn, 1) := by decide +kernel
theorem d_Main_ofClass_127 : decode jc_Main_ofClass 127 = .ok (.aload_n 0, 1) := by decide +kernel
theorem d_Main_ofClass_128 : decode jc_Main_ofClass 128 = .ok (.getfield 38, 3) := by decide +kernel
theorem d_Main_ofClass_131 : decode jc_Main_ofClass 131 = .ok (.getfield 226, 3) := by decide +kernel
theorem d_Main_ofClass_134 : decode jc_Main_ofClass 134 = .ok (.iload_n 2, 1) := by decide +kernel
theorem d_Main_ofClass_135 : decode jc_Main_ofClass 135 = .ok (.iaload, 1) := by decide +kernel
theorem d_Main_ofClass_136 : decode jc_Main_ofClass 136 = .ok (.invokestatic 216, 3) := by decide +kernel
theorem d_Main_ofClass_139 : decode jc_Main_ofClass 139 = .ok (.ireturn, 1) := by decide +kernel
theorem d_Main_ofClass_140 : decode jc_Main_ofClass 140 = .ok (.aload_n 0, 1) := by decide +kernel
theorem d_Main_ofClass_141 : decode jc_Main_ofClass 141 = .ok (.getfield 38, 3) := by decide +kernel
theorem d_Main_ofClass_144 : decode jc_Main_ofClass 144 = .ok (.getfield 226, 3) := by decide +kernel
theorem d_Main_ofClass_147 : decode jc_Main_ofClass 147 = .ok (.iload_n 2, 1) := by decide +kernel
theorem d_Main_ofClass_148 : decode jc_Main_ofClass 148 = .ok (.iaload, 1) := by decide +kernel
theorem d_Main_ofClass_149 : decode jc_Main_ofClass 149 = .ok (.ireturn, 1) := by decide +kernel
theorem d_Main_part_0 : decode jc_Main_part 0 = .ok (.aload_n 0, 1) := by decide +kernel
theorem d_Main_part_1 : decode jc_Main_part 1 = .ok (.iload_n 1, 1) := by decide +kernel
theorem d_Main_part_2 : decode jc_Main_part 2 = .ok (.iload_n 2, 1) := by decide +kernel
theorem d_Main_part_3 : decode jc_Main_part 3 = .ok (.invokevirtual 81, 3) := by decide +kernel
theorem d_Main_part_6 : decode jc_Main_part 6 = .ok (.ifCond .eq 5, 3) := by decide +kernel
theorem d_Main_part_9 : decode jc_Main_part 9 = .ok (.iconst (-1), 1) := by decide +kernel
theorem d_Main_part_10 : decode jc_Main_part 10 = .ok (.ireturn, 1) := by decide +kernel
theorem d_Main_part_11 : decode jc_Main_part 11 = .ok (.aload_n 0, 1) := by decide +kernel
theorem d_Main_part_12 : decode jc_Main_part 12 = .ok (.getfield 38, 3) := by decide +kernel
theorem d_Main_part_15 : decode jc_Main_part 15 = .ok (.aload_n 0, 1) := by decide +kernel
theorem d_Main_part_16 : decode jc_Main_part 16 = .ok (.getfield 11, 3) := by decide +kernel
theorem d_Main_part_19 : decode jc_Main_part 19 = .ok (.iload_n 1, 1) := by decide +kernel
theorem d_Main_part_20 : decode jc_Main_part 20 = .ok (.aaload, 1) := by decide +kernel
theorem d_Main_part_21 : decode jc_Main_part 21 = .ok (.invokevirtual 192, 3) := by decide +kernel
theorem d_Main_part_24 : decode jc_Main_part 24 = .ok (.aload_n 0, 1) := by decide +kernel
theorem d_Main_part_25 : decode jc_Main_part 25 = .ok (.getfield 38, 3) := by decide +kernel
theorem d_Main_part_28 : decode jc_Main_part 28 = .ok (.getfield 221, 3) := by decide +kernel
theorem d_Main_part_31 : decode jc_Main_part 31 = .ok (.aload_n 0, 1) := by decide +kernel
theorem d_Main_part_32 : decode jc_Main_part 32 = .ok (.getfield 38, 3) := by decide +kernel
theorem d_Main_part_35 : decode jc_Main_part 35 = .ok (.getfield 204, 3) := by decide +kernel
theorem d_Main_part_38 : decode jc_Main_part 38 = .ok (.iload_n 2, 1) := by decide +kernel
theorem d_Main_part_39 : decode jc_Main_part 39 = .ok (.iaload, 1) := by decide +kernel
theorem d_Main_part_40 : decode jc_Main_part 40 = .ok (.iaload, 1) := by decide +kernel
theorem d_Main_part_41 : decode jc_Main_part 41 = .ok (.ifCond .ne 6, 3) := by decide +kernel
theorem d_Main_part_44 : decode jc_Main_part 44 = .ok (.bipush (-15), 2) := by decide +kernel
theorem d_Main_part_46 : decode jc_Main_part 46 = .ok (.ireturn, 1) := by decide +kernel
theorem d_Main_part_47 : decode jc_Main_part 47 = .ok (.aload_n 0, 1) := by decide +kernel
theorem d_Main_part_48 : decode jc_Main_part 48 = .ok (.getfield 38, 3) := by decide +kernel
theorem d_Main_part_51 : decode jc_Main_part 51 = .ok (.iload_n 2, 1) := by decide +kernel
theorem d_Main_part_52 : decode jc_Main_part 52 = .ok (.invokevirtual 229, 3) := by decide +kernel
theorem d_Main_part_55 : decode jc_Main_part 55 = .ok (.ireturn, 1) := by decide +kernel
theorem d_Main_parts_0 : decode jc_Main_parts 0 = .ok (.aload_n 0, 1) := by decide +kernel
theorem d_Main_parts_1 : decode jc_Main_parts 1 = .ok (.iload_n 1, 1) := by decide +kernel
theorem d_Main_parts_2 : decode jc_Main_parts 2 = .ok (.iload_n 2, 1) := by decide +kernel
theorem d_Main_parts_3 : decode jc_Main_parts 3 = .ok (.invokevirtual 207, 3) := by decide +kernel
theorem d_Main_parts_6 : decode jc_Main_parts 6 = .ok (.ifCond .ne 5, 3) := by decide +kernel
theorem d_Main_parts_9 : decode jc_Main_parts 9 = .ok (.iconst (-1), 1) := by decide +kernel
theorem d_Main_parts_10 : decode jc_Main_parts 10 = .ok (.ireturn, 1) := by decide +kernel
theorem d_Main_parts_11 : decode jc_Main_parts 11 = .ok (.aload_n 0, 1) := by decide +kernel
theorem d_Main_parts_12 : decode jc_Main_parts 12 = .ok (.getfield 38, 3) := by decide +kernel
theorem d_Main_parts_15 : decode jc_Main_parts 15 = .ok (.getfield 221, 3) := by decide +kernel
theorem d_Main_parts_18 : decode jc_Main_parts 18 = .ok (.iload_n 2, 1) := by decide +kernel
theorem d_Main_parts_19 : decode jc_Main_parts 19 = .ok (.iaload, 1) := by decide +kernel
theorem d_Main_parts_20 : decode jc_Main_parts 20 = .ok (.istore 4, 2) := by decide +kernel
theorem d_Main_parts_22 : decode jc_Main_parts 22 = .ok (.iload 4, 2) := by decide +kernel
theorem d_Main_parts_24 : decode jc_Main_parts 24 = .ok (.ifCond .ne 6, 3) := by decide +kernel
theorem d_Main_parts_27 : decode jc_Main_parts 27 = .ok (.bipush (-15), 2) := by decide +kernel
theorem d_Main_parts_29 : decode jc_Main_parts 29 = .ok (.ireturn, 1) := by decide +kernel
theorem d_Main_parts_30 : decode jc_Main_parts 30 = .ok (.iload_n 3, 1) := by decide +kernel
theorem d_Main_parts_31 : decode jc_Main_parts 31 = .ok (.iconst 0, 1) := by decide +kernel
theorem d_Main_parts_32 : decode jc_Main_parts 32 = .ok (.iload 4, 2) := by decide +kernel
theorem d_Main_parts_34 : decode jc_Main_parts 34 = .ok (.iconst 1, 1) := by decide +kernel
theorem d_Main_parts_35 : decode jc_Main_parts 35 = .ok (.isub, 1) := by decide +kernel
theorem d_Main_parts_36 : decode jc_Main_parts 36 = .ok (.invokestatic 69, 3) := by decide +kernel
theorem d_Main_parts_39 : decode jc_Main_parts 39 = .ok (.ifCond .eq 5, 3) := by decide +kernel
theorem d_Main_parts_42 : decode jc_Main_parts 42 = .ok (.iconst (-1), 1) := by decide +kernel
theorem d_Main_parts_43 : decode jc_Main_parts 43 = .ok (.ireturn, 1) := by decide +kernel
theorem d_Main_parts_44 : decode jc_Main_parts 44 = .ok (.iconst 0, 1) := by decide +kernel
theorem d_Main_parts_45 : decode jc_Main_parts 45 = .ok (.istore 5, 2) := by decide +kernel
theorem d_Main_parts_47 : decode jc_Main_parts 47 = .ok (.iconst 0, 1) := by decide +kernel
theorem d_Main_parts_48 : decode jc_Main_parts 48 = .ok (.istore 6, 2) := by decide +kernel
theorem d_Main_parts_50 : decode jc_Main_parts 50 = .ok (.iload 6, 2) := by decide +kernel
theorem d_Main_parts_52 : decode jc_Main_parts 52 = .ok (.aload_n 0, 1) := by decide +kernel
theorem d_Main_parts_53 : decode jc_Main_parts 53 = .ok (.getfield 11, 3) := by decide +kernel
theorem d_Main_parts_56 : decode jc_Main_parts 56 = .ok (.iload_n 1, 1) := by decide +kernel
theorem d_Main_parts_57 : decode jc_Main_parts 57 = .ok (.aaload, 1) := by decide +kernel
theorem d_Main_parts_58 : decode jc_Main_parts 58 = .ok (.getfield 106, 3) := by decide +kernel
theorem d_Main_parts_61 : decode jc_Main_parts 61 = .ok (.if_icmp .ge 45, 3) := by decide +kernel
theorem d_Main_parts_64 : decode jc_Main_parts 64 = .ok (.aload_n 0, 1) := by decide +kernel
theorem d_Main_parts_65 : decode jc_Main_parts 65 = .ok (.getfield 38, 3) := by decide +kernel
theorem d_Main_parts_68 : decode jc_Main_parts 68 = .ok (.getfield 204, 3) := by decide +kernel
theorem d_Main_parts_71 : decode jc_Main_parts 71 = .ok (.iload 6, 2) := by decide +kernel
theorem d_Main_parts_73 : decode jc_Main_parts 73 = .ok (.iaload, 1) := by decide +kernel
theorem d_Main_parts_74 : decode jc_Main_parts 74 = .ok (.iload_n 2, 1) := by decide +kernel
theorem d_Main_parts_75 : decode jc_Main_parts 75 = .ok (.if_icmp .ne 25, 3) := by decide +kernel
theorem d_Main_parts_78 : decode jc_Main_parts 78 = .ok (.aload_n 0, 1) := by decide +kernel
theorem d_Main_parts_79 : decode jc_Main_parts 79 = .ok (.getfield 38, 3) := by decide +kernel
theorem d_Main_parts_82 : decode jc_Main_parts 82 = .ok (.iload 6, 2) := by decide +kernel
theorem d_Main_parts_84 : decode jc_Main_parts 84 = .ok (.invokevirtual 229, 3) := by decide +kernel
theorem d_Main_parts_87 : decode jc_Main_parts 87 = .ok (.iload_n 3, 1) := by decide +kernel
theorem d_Main_parts_88 : decode jc_Main_parts 88 = .ok (.if_icmp .ne 12, 3) := by decide +kernel
theorem d_Main_parts_91 : decode jc_Main_parts 91 = .ok (.iload 5, 2) := by decide +kernel
theorem d_Main_parts_93 : decode jc_Main_parts 93 = .ok (.iconst 1, 1) := by decide +kernel
theorem d_Main_parts_94 : decode jc_Main_parts 94 = .ok (.iload 6, 2) := by decide +kernel
theorem d_Main_parts_96 : decode jc_Main_parts 96 = .ok (.ishl, 1) := by decide +kernel
theorem d_Main_parts_97 : decode jc_Main_parts 97 = .ok (.ior, 1) := by decide +kernel
theorem d_Main_parts_98 : decode jc_Main_parts 98 = .ok (.istore 5, 2) := by decide +kernel
theorem d_Main_parts_100 : decode jc_Main_parts 100 = .ok (.iinc 6 1, 3) := by decide +kernel
theorem d_Main_parts_103 : decode jc_Main_parts 103 = .ok (.goto (-53), 3) := by decide +kernel
theorem d_Main_parts_106 : decode jc_Main_parts 106 = .ok (.iload 5, 2) := by decide +kernel
theorem d_Main_parts_108 : decode jc_Main_parts 108 = .ok (.ireturn, 1) := by decide +kernel
theorem d_Main_rest_0 : decode jc_Main_rest 0 = .ok (.aload_n 0, 1) := by decide +kernel
theorem d_Main_rest_1 : decode jc_Main_rest 1 = .ok (.iload_n 1, 1) := by decide +kernel
theorem d_Main_rest_2 : decode jc_Main_rest 2 = .ok (.iload_n 2, 1) := by decide +kernel
theorem d_Main_rest_3 : decode jc_Main_rest 3 = .ok (.invokevirtual 207, 3) := by decide +kernel
theorem d_Main_rest_6 : decode jc_Main_rest 6 = .ok (.ifCond .ne 5, 3) := by decide +kernel
theorem d_Main_rest_9 : decode jc_Main_rest 9 = .ok (.iconst (-1), 1) := by decide +kernel
theorem d_Main_rest_10 : decode jc_Main_rest 10 = .ok (.ireturn, 1) := by decide +kernel
theorem d_Main_rest_11 : decode jc_Main_rest 11 = .ok (.aload_n 0, 1) := by decide +kernel
theorem d_Main_rest_12 : decode jc_Main_rest 12 = .ok (.getfield 38, 3) := by decide +kernel
theorem d_Main_rest_15 : decode jc_Main_rest 15 = .ok (.getfield 221, 3) := by decide +kernel
theorem d_Main_rest_18 : decode jc_Main_rest 18 = .ok (.iload_n 2, 1) := by decide +kernel
theorem d_Main_rest_19 : decode jc_Main_rest 19 = .ok (.iaload, 1) := by decide +kernel
theorem d_Main_rest_20 : decode jc_Main_rest 20 = .ok (.istore 4, 2) := by decide +kernel
theorem d_Main_rest_22 : decode jc_Main_rest 22 = .ok (.iload 4, 2) := by decide +kernel
theorem d_Main_rest_24 : decode jc_Main_rest 24 = .ok (.ifCond .ne 6, 3) := by decide +kernel
theorem d_Main_rest_27 : decode jc_Main_rest 27 = .ok (.bipush (-15), 2) := by decide +kernel
theorem d_Main_rest_29 : decode jc_Main_rest 29 = .ok (.ireturn, 1) := by decide +kernel
theorem d_Main_rest_30 : decode jc_Main_rest 30 = .ok (.iload_n 3, 1) := by decide +kernel
theorem d_Main_rest_31 : decode jc_Main_rest 31 = .ok (.iload 4, 2) := by decide +kernel
theorem d_Main_rest_33 : decode jc_Main_rest 33 = .ok (.invokestatic 232, 3) := by decide +kernel
theorem d_Main_rest_36 : decode jc_Main_rest 36 = .ok (.ireturn, 1) := by decide +kernel
theorem d_Main_space_0 : decode jc_Main_space 0 = .ok (.aload_n 0, 1) := by decide +kernel
theorem d_Main_space_1 : decode jc_Main_space 1 = .ok (.iload_n 1, 1) := by decide +kernel
theorem d_Main_space_2 : decode jc_Main_space 2 = .ok (.invokevirtual 103, 3) := by decide +kernel
theorem d_Main_space_5 : decode jc_Main_space 5 = .ok (.ifCond .ne 12, 3) := by decide +kernel
theorem d_Main_space_8 : decode jc_Main_space 8 = .ok (.iload_n 2, 1) := by decide +kernel
theorem d_Main_space_9 : decode jc_Main_space 9 = .ok (.iconst 0, 1) := by decide +kernel
theorem d_Main_space_10 : decode jc_Main_space 10 = .ok (.iconst 4, 1) := by decide +kernel
theorem d_Main_space_11 : decode jc_Main_space 11 = .ok (.invokestatic 69, 3) := by decide +kernel
theorem d_Main_space_14 : decode jc_Main_space 14 = .ok (.ifCond .eq 5, 3) := by decide +kernel
theorem d_Main_space_17 : decode jc_Main_space 17 = .ok (.iconst (-1), 1) := by decide +kernel
theorem d_Main_space_18 : decode jc_Main_space 18 = .ok (.ireturn, 1) := by decide +kernel
theorem d_Main_space_19 : decode jc_Main_space 19 = .ok (.aload_n 0, 1) := by decide +kernel
theorem d_Main_space_20 : decode jc_Main_space 20 = .ok (.getfield 11, 3) := by decide +kernel
theorem d_Main_space_23 : decode jc_Main_space 23 = .ok (.iload_n 1, 1) := by decide +kernel
theorem d_Main_space_24 : decode jc_Main_space 24 = .ok (.aaload, 1) := by decide +kernel
theorem d_Main_space_25 : decode jc_Main_space 25 = .ok (.astore_n 3, 1) := by decide +kernel
theorem d_Main_space_26 : decode jc_Main_space 26 = .ok (.iload_n 2, 1) := by decide +kernel
theorem d_Main_space_27 : decode jc_Main_space 27 = .ok (.iconst 4, 1) := by decide +kernel
theorem d_Main_space_28 : decode jc_Main_space 28 = .ok (.if_icmp .ne 20, 3) := by decide +kernel
theorem d_Main_space_31 : decode jc_Main_space 31 = .ok (.aload_n 0, 1) := by decide +kernel
theorem d_Main_space_32 : decode jc_Main_space 32 = .ok (.getfield 45, 3) := by decide +kernel
theorem d_Main_space_35 : decode jc_Main_space 35 = .ok (.aload_n 3, 1) := by decide +kernel
theorem d_Main_space_36 : decode jc_Main_space 36 = .ok (.invokevirtual 235, 3) := by decide +kernel
theorem d_Main_space_39 : decode jc_Main_space 39 = .ok (.ifCond .eq 7, 3) := by decide +kernel
theorem d_Main_space_42 : decode jc_Main_space 42 = .ok (.iconst 1, 1) := by decide +kernel
theorem d_Main_space_43 : decode jc_Main_space 43 = .ok (.goto 4, 3) := by decide +kernel
theorem d_Main_space_46 : decode jc_Main_space 46 = .ok (.iconst 0, 1) := by decide +kernel
theorem d_Main_space_47 : decode jc_Main_space 47 = .ok (.ireturn, 1) := by decide +kernel
theorem d_Main_space_48 : decode jc_Main_space 48 = .ok (.aload_n 0, 1) := by decide +kernel
theorem d_Main_space_49 : decode jc_Main_space 49 = .ok (.getfield 57, 3) := by decide +kernel
theorem d_Main_space_52 : decode jc_Main_space 52 = .ok (.aload_n 3, 1) := by decide +kernel
theorem d_Main_space_53 : decode jc_Main_space 53 = .ok (.invokevirtual 85, 3) := by decide +kernel
theorem d_Main_space_56 : decode jc_Main_space 56 = .ok (.iload_n 2, 1) := by decide +kernel
theorem d_Main_space_57 : decode jc_Main_space 57 = .ok (.iconst 1, 1) := by decide +kernel
theorem d_Main_space_58 : decode jc_Main_space 58 = .ok (.if_icmp .le 11, 3) := by decide +kernel
theorem d_Main_space_61 : decode jc_Main_space 61 = .ok (.aload_n 0, 1) := by decide +kernel
theorem d_Main_space_62 : decode jc_Main_space 62 = .ok (.getfield 57, 3) := by decide +kernel
theorem d_Main_space_65 : decode jc_Main_space 65 = .ok (.aload_n 3, 1) := by decide +kernel
theorem d_Main_space_66 : decode jc_Main_space 66 = .ok (.invokevirtual 121, 3) := by decide +kernel
theorem d_Main_space_69 : decode jc_Main_space 69 = .ok (.iload_n 2, 1) := by decide +kernel
theorem d_Main_space_70 : decode jc_Main_space 70 = .ok (.ifCond .eq 8, 3) := by decide +kernel
theorem d_Main_space_73 : decode jc_Main_space 73 = .ok (.iload_n 2, 1) := by decide +kernel
theorem d_Main_space_74 : decode jc_Main_space 74 = .ok (.iconst 2, 1) := by decide +kernel
theorem d_Main_space_75 : decode jc_Main_space 75 = .ok (.if_icmp .ne 17, 3) := by decide +kernel
theorem d_Main_space_78 : decode jc_Main_space 78 = .ok (.aload_n 0, 1) := by decide +kernel
theorem d_Main_space_79 : decode jc_Main_space 79 = .ok (.getfield 45, 3) := by decide +kernel
theorem d_Main_space_82 : decode jc_Main_space 82 = .ok (.aload_n 0, 1) := by decide +kernel
theorem d_Main_space_83 : decode jc_Main_space 83 = .ok (.getfield 57, 3) := by decide +kernel
theorem d_Main_space_86 : decode jc_Main_space 86 = .ok (.invokevirtual 238, 3) := by decide +kernel
theorem d_Main_space_89 : decode jc_Main_space 89 = .ok (.goto 14, 3) := by decide +kernel
theorem d_Main_space_92 : decode jc_Main_space 92 = .ok (.aload_n 0, 1) := by decide +kernel
theorem d_Main_space_93 : decode jc_Main_space 93 = .ok (.getfield 45, 3) := by decide +kernel
theorem d_Main_space_96 : decode jc_Main_space 96 = .ok (.aload_n 0, 1) := by decide +kernel
theorem d_Main_space_97 : decode jc_Main_space 97 = .ok (.getfield 57, 3) := by decide +kernel
theorem d_Main_space_100 : decode jc_Main_space 100 = .ok (.invokevirtual 241, 3) := by decide +kernel
theorem d_Main_space_103 : decode jc_Main_space 103 = .ok (.ireturn, 1) := by decide +kernel
theorem d_Main_basis_0 : decode jc_Main_basis 0 = .ok (.aload_n 0, 1) := by decide +kernel
theorem d_Main_basis_1 : decode jc_Main_basis 1 = .ok (.iload_n 1, 1) := by decide +kernel
theorem d_Main_basis_2 : decode jc_Main_basis 2 = .ok (.invokevirtual 103, 3) := by decide +kernel
theorem d_Main_basis_5 : decode jc_Main_basis 5 = .ok (.ifCond .eq 5, 3) := by decide +kernel
theorem d_Main_basis_8 : decode jc_Main_basis 8 = .ok (.iconst (-1), 1) := by decide +kernel
theorem d_Main_basis_9 : decode jc_Main_basis 9 = .ok (.ireturn, 1) := by decide +kernel
theorem d_Main_basis_10 : decode jc_Main_basis 10 = .ok (.iload_n 2, 1) := by decide +kernel
theorem d_Main_basis_11 : decode jc_Main_basis 11 = .ok (.ifCond .lt 20, 3) := by decide +kernel
theorem d_Main_basis_14 : decode jc_Main_basis 14 = .ok (.iload_n 2, 1) := by decide +kernel
theorem d_Main_basis_15 : decode jc_Main_basis 15 = .ok (.aload_n 0, 1) := by decide +kernel
theorem d_Main_basis_16 : decode jc_Main_basis 16 = .ok (.getfield 45, 3) := by decide +kernel
theorem d_Main_basis_19 : decode jc_Main_basis 19 = .ok (.aload_n 0, 1) := by decide +kernel
theorem d_Main_basis_20 : decode jc_Main_basis 20 = .ok (.getfield 11, 3) := by decide +kernel
theorem d_Main_basis_23 : decode jc_Main_basis 23 = .ok (.iload_n 1, 1) := by decide +kernel
theorem d_Main_basis_24 : decode jc_Main_basis 24 = .ok (.aaload, 1) := by decide +kernel
theorem d_Main_basis_25 : decode jc_Main_basis 25 = .ok (.invokevirtual 241, 3) := by decide +kernel
theorem d_Main_basis_28 : decode jc_Main_basis 28 = .ok (.if_icmp .lt 6, 3) := by decide +kernel
theorem d_Main_basis_31 : decode jc_Main_basis 31 = .ok (.bipush (-2), 2) := by decide +kernel
theorem d_Main_basis_33 : decode jc_Main_basis 33 = .ok (.ireturn, 1) := by decide +kernel
theorem d_Main_basis_34 : decode jc_Main_basis 34 = .ok (.iconst 0, 1) := by decide +kernel
theorem d_Main_basis_35 : decode jc_Main_basis 35 = .ok (.istore_n 3, 1) := by decide +kernel
theorem d_Main_basis_36 : decode jc_Main_basis 36 = .ok (.iconst 0, 1) := by decide +kernel
theorem d_Main_basis_37 : decode jc_Main_basis 37 = .ok (.istore 4, 2) := by decide +kernel
theorem d_Main_basis_39 : decode jc_Main_basis 39 = .ok (.iload 4, 2) := by decide +kernel
theorem d_Main_basis_41 : decode jc_Main_basis 41 = .ok (.iload_n 2, 1) := by decide +kernel
theorem d_Main_basis_42 : decode jc_Main_basis 42 = .ok (.if_icmp .gt 24, 3) := by decide +kernel
theorem d_Main_basis_45 : decode jc_Main_basis 45 = .ok (.aload_n 0, 1) := by decide +kernel
theorem d_Main_basis_46 : decode jc_Main_basis 46 = .ok (.getfield 45, 3) := by decide +kernel
theorem d_Main_basis_49 : decode jc_Main_basis 49 = .ok (.aload_n 0, 1) := by decide +kernel
theorem d_Main_basis_50 : decode jc_Main_basis 50 = .ok (.getfield 11, 3) := by decide +kernel
theorem d_Main_basis_53 : decode jc_Main_basis 53 = .ok (.iload_n 1, 1) := by decide +kernel
theorem d_Main_basis_54 : decode jc_Main_basis 54 = .ok (.aaload, 1) := by decide +kernel
theorem d_Main_basis_55 : decode jc_Main_basis 55 = .ok (.iload_n 3, 1) := by decide +kernel
theorem d_Main_basis_56 : decode jc_Main_basis 56 = .ok (.invokevirtual 244, 3) := by decide +kernel
theorem d_Main_basis_59 : decode jc_Main_basis 59 = .ok (.istore_n 3, 1) := by decide +kernel
theorem d_Main_basis_60 : decode jc_Main_basis 60 = .ok (.iinc 4 1, 3) := by decide +kernel
theorem d_Main_basis_63 : decode jc_Main_basis 63 = .ok (.goto (-24), 3) := by decide +kernel
theorem d_Main_basis_66 : decode jc_Main_basis 66 = .ok (.iload_n 3, 1) := by decide +kernel
theorem d_Main_basis_67 : decode jc_Main_basis 67 = .ok (.ireturn, 1) := by decide +kernel
theorem d_Main_spans_0 : decode jc_Main_spans 0 = .ok (.aload_n 0, 1) := by decide +kernel
theorem d_Main_spans_1 : decode jc_Main_spans 1 = .ok (.iload_n 1, 1) := by decide +kernel
theorem d_Main_spans_2 : decode jc_Main_spans 2 = .ok (.invokevirtual 103, 3) := by decide +kernel
theorem d_Main_spans_5 : decode jc_Main_spans 5 = .ok (.ifCond .ne 16, 3) := by decide +kernel
theorem d_Main_spans_8 : decode jc_Main_spans 8 = .ok (.aload_n 0, 1) := by decide +kernel
theorem d_Main_spans_9 : decode jc_Main_spans 9 = .ok (.getfield 11, 3) := by decide +kernel
theorem d_Main_spans_12 : decode jc_Main_spans 12 = .ok (.iload_n 1, 1) := by decide +kernel
theorem d_Main_spans_13 : decode jc_Main_spans 13 = .ok (.aaload, 1) := by decide +kernel
theorem d_Main_spans_14 : decode jc_Main_spans 14 = .ok (.iload_n 2, 1) := by decide +kernel
theorem d_Main_spans_15 : decode jc_Main_spans 15 = .ok (.invokevirtual 100, 3) := by decide +kernel
theorem d_Main_spans_18 : decode jc_Main_spans 18 = .ok (.ifCond .eq 5, 3) := by decide +kernel
theorem d_Main_spans_21 : decode jc_Main_spans 21 = .ok (.iconst (-1), 1) := by decide +kernel
theorem d_Main_spans_22 : decode jc_Main_spans 22 = .ok (.ireturn, 1) := by decide +kernel
theorem d_Main_spans_23 : decode jc_Main_spans 23 = .ok (.aload_n 0, 1) := by decide +kernel
theorem d_Main_spans_24 : decode jc_Main_spans 24 = .ok (.getfield 45, 3) := by decide +kernel
theorem d_Main_spans_27 : decode jc_Main_spans 27 = .ok (.aload_n 0, 1) := by decide +kernel
theorem d_Main_spans_28 : decode jc_Main_spans 28 = .ok (.getfield 11, 3) := by decide +kernel
theorem d_Main_spans_31 : decode jc_Main_spans 31 = .ok (.iload_n 1, 1) := by decide +kernel
theorem d_Main_spans_32 : decode jc_Main_spans 32 = .ok (.aaload, 1) := by decide +kernel
theorem d_Main_spans_33 : decode jc_Main_spans 33 = .ok (.iload_n 2, 1) := by decide +kernel
theorem d_Main_spans_34 : decode jc_Main_spans 34 = .ok (.invokevirtual 248, 3) := by decide +kernel
theorem d_Main_spans_37 : decode jc_Main_spans 37 = .ok (.ifCond .eq 7, 3) := by decide +kernel
theorem d_Main_spans_40 : decode jc_Main_spans 40 = .ok (.iconst 1, 1) := by decide +kernel
theorem d_Main_spans_41 : decode jc_Main_spans 41 = .ok (.goto 4, 3) := by decide +kernel
theorem d_Main_spans_44 : decode jc_Main_spans 44 = .ok (.iconst 0, 1) := by decide +kernel
theorem d_Main_spans_45 : decode jc_Main_spans 45 = .ok (.ireturn, 1) := by decide +kernel
theorem d_Main_alike_0 : decode jc_Main_alike 0 = .ok (.aload_n 0, 1) := by decide +kernel
theorem d_Main_alike_1 : decode jc_Main_alike 1 = .ok (.iload_n 1, 1) := by decide +kernel
theorem d_Main_alike_2 : decode jc_Main_alike 2 = .ok (.invokevirtual 103, 3) := by decide +kernel
theorem d_Main_alike_5 : decode jc_Main_alike 5 = .ok (.ifCond .ne 20, 3) := by decide +kernel
theorem d_Main_alike_8 : decode jc_Main_alike 8 = .ok (.aload_n 0, 1) := by decide +kernel
theorem d_Main_alike_9 : decode jc_Main_alike 9 = .ok (.iload_n 2, 1) := by decide +kernel
theorem d_Main_alike_10 : decode jc_Main_alike 10 = .ok (.invokevirtual 103, 3) := by decide +kernel
theorem d_Main_alike_13 : decode jc_Main_alike 13 = .ok (.ifCond .ne 12, 3) := by decide +kernel
theorem d_Main_alike_16 : decode jc_Main_alike 16 = .ok (.iload_n 3, 1) := by decide +kernel
theorem d_Main_alike_17 : decode jc_Main_alike 17 = .ok (.iconst 0, 1) := by decide +kernel
theorem d_Main_alike_18 : decode jc_Main_alike 18 = .ok (.iconst 1, 1) := by decide +kernel
theorem d_Main_alike_19 : decode jc_Main_alike 19 = .ok (.invokestatic 69, 3) := by decide +kernel
theorem d_Main_alike_22 : decode jc_Main_alike 22 = .ok (.ifCond .eq 5, 3) := by decide +kernel
theorem d_Main_alike_25 : decode jc_Main_alike 25 = .ok (.iconst (-1), 1) := by decide +kernel
theorem d_Main_alike_26 : decode jc_Main_alike 26 = .ok (.ireturn, 1) := by decide +kernel
theorem d_Main_alike_27 : decode jc_Main_alike 27 = .ok (.aload_n 0, 1) := by decide +kernel
theorem d_Main_alike_28 : decode jc_Main_alike 28 = .ok (.getfield 11, 3) := by decide +kernel
theorem d_Main_alike_31 : decode jc_Main_alike 31 = .ok (.iload_n 1, 1) := by decide +kernel
theorem d_Main_alike_32 : decode jc_Main_alike 32 = .ok (.aaload, 1) := by decide +kernel
theorem d_Main_alike_33 : decode jc_Main_alike 33 = .ok (.getfield 106, 3) := by decide +kernel
theorem d_Main_alike_36 : decode jc_Main_alike 36 = .ok (.aload_n 0, 1) := by decide +kernel
theorem d_Main_alike_37 : decode jc_Main_alike 37 = .ok (.getfield 11, 3) := by decide +kernel
theorem d_Main_alike_40 : decode jc_Main_alike 40 = .ok (.iload_n 2, 1) := by decide +kernel
theorem d_Main_alike_41 : decode jc_Main_alike 41 = .ok (.aaload, 1) := by decide +kernel
theorem d_Main_alike_42 : decode jc_Main_alike 42 = .ok (.getfield 106, 3) := by decide +kernel
theorem d_Main_alike_45 : decode jc_Main_alike 45 = .ok (.if_icmp .eq 6, 3) := by decide +kernel
theorem d_Main_alike_48 : decode jc_Main_alike 48 = .ok (.bipush (-3), 2) := by decide +kernel
theorem d_Main_alike_50 : decode jc_Main_alike 50 = .ok (.ireturn, 1) := by decide +kernel
theorem d_Main_alike_51 : decode jc_Main_alike 51 = .ok (.aload_n 0, 1) := by decide +kernel
theorem d_Main_alike_52 : decode jc_Main_alike 52 = .ok (.getfield 45, 3) := by decide +kernel
theorem d_Main_alike_55 : decode jc_Main_alike 55 = .ok (.aload_n 0, 1) := by decide +kernel
theorem d_Main_alike_56 : decode jc_Main_alike 56 = .ok (.getfield 11, 3) := by decide +kernel
theorem d_Main_alike_59 : decode jc_Main_alike 59 = .ok (.iload_n 1, 1) := by decide +kernel
theorem d_Main_alike_60 : decode jc_Main_alike 60 = .ok (.aaload, 1) := by decide +kernel
theorem d_Main_alike_61 : decode jc_Main_alike 61 = .ok (.aload_n 0, 1) := by decide +kernel
theorem d_Main_alike_62 : decode jc_Main_alike 62 = .ok (.getfield 11, 3) := by decide +kernel
theorem d_Main_alike_65 : decode jc_Main_alike 65 = .ok (.iload_n 2, 1) := by decide +kernel
theorem d_Main_alike_66 : decode jc_Main_alike 66 = .ok (.aaload, 1) := by decide +kernel
theorem d_Main_alike_67 : decode jc_Main_alike 67 = .ok (.iload_n 3, 1) := by decide +kernel
theorem d_Main_alike_68 : decode jc_Main_alike 68 = .ok (.iconst 1, 1) := by decide +kernel
theorem d_Main_alike_69 : decode jc_Main_alike 69 = .ok (.if_icmp .ne 7, 3) := by decide +kernel
theorem d_Main_alike_72 : decode jc_Main_alike 72 = .ok (.iconst 1, 1) := by decide +kernel
theorem d_Main_alike_73 : decode jc_Main_alike 73 = .ok (.goto 4, 3) := by decide +kernel
theorem d_Main_alike_76 : decode jc_Main_alike 76 = .ok (.iconst 0, 1) := by decide +kernel
theorem d_Main_alike_77 : decode jc_Main_alike 77 = .ok (.invokevirtual 252, 3) := by decide +kernel
theorem d_Main_alike_80 : decode jc_Main_alike 80 = .ok (.ifCond .eq 7, 3) := by decide +kernel
theorem d_Main_alike_83 : decode jc_Main_alike 83 = .ok (.iconst 1, 1) := by decide +kernel
theorem d_Main_alike_84 : decode jc_Main_alike 84 = .ok (.goto 4, 3) := by decide +kernel
theorem d_Main_alike_87 : decode jc_Main_alike 87 = .ok (.iconst 0, 1) := by decide +kernel
theorem d_Main_alike_88 : decode jc_Main_alike 88 = .ok (.ireturn, 1) := by decide +kernel
theorem d_Main_roots_0 : decode jc_Main_roots 0 = .ok (.aload_n 0, 1) := by decide +kernel
theorem d_Main_roots_1 : decode jc_Main_roots 1 = .ok (.iload_n 1, 1) := by decide +kernel
theorem d_Main_roots_2 : decode jc_Main_roots 2 = .ok (.invokevirtual 103, 3) := by decide +kernel
theorem d_Main_roots_5 : decode jc_Main_roots 5 = .ok (.ifCond .ne 13, 3) := by decide +kernel
theorem d_Main_roots_8 : decode jc_Main_roots 8 = .ok (.iload_n 2, 1) := by decide +kernel
theorem d_Main_roots_9 : decode jc_Main_roots 9 = .ok (.iconst 2, 1) := by decide +kernel
theorem d_Main_roots_10 : decode jc_Main_roots 10 = .ok (.bipush 8, 2) := by decide +kernel
theorem d_Main_roots_12 : decode jc_Main_roots 12 = .ok (.invokestatic 69, 3) := by decide +kernel
theorem d_Main_roots_15 : decode jc_Main_roots 15 = .ok (.ifCond .eq 5, 3) := by decide +kernel
theorem d_Main_roots_18 : decode jc_Main_roots 18 = .ok (.iconst (-1), 1) := by decide +kernel
theorem d_Main_roots_19 : decode jc_Main_roots 19 = .ok (.ireturn, 1) := by decide +kernel
theorem d_Main_roots_20 : decode jc_Main_roots 20 = .ok (.aload_n 0, 1) := by decide +kernel
theorem d_Main_roots_21 : decode jc_Main_roots 21 = .ok (.getfield 11, 3) := by decide +kernel
theorem d_Main_roots_24 : decode jc_Main_roots 24 = .ok (.iload_n 1, 1) := by decide +kernel
theorem d_Main_roots_25 : decode jc_Main_roots 25 = .ok (.aaload, 1) := by decide +kernel
theorem d_Main_roots_26 : decode jc_Main_roots 26 = .ok (.astore_n 3, 1) := by decide +kernel
theorem d_Main_roots_27 : decode jc_Main_roots 27 = .ok (.aload_n 3, 1) := by decide +kernel
theorem d_Main_roots_28 : decode jc_Main_roots 28 = .ok (.getfield 106, 3) := by decide +kernel
theorem d_Main_roots_31 : decode jc_Main_roots 31 = .ok (.iconst 4, 1) := by decide +kernel
theorem d_Main_roots_32 : decode jc_Main_roots 32 = .ok (.if_icmp .le 6, 3) := by decide +kernel
theorem d_Main_roots_35 : decode jc_Main_roots 35 = .ok (.bipush (-5), 2) := by decide +kernel
theorem d_Main_roots_37 : decode jc_Main_roots 37 = .ok (.ireturn, 1) := by decide +kernel
theorem d_Main_roots_38 : decode jc_Main_roots 38 = .ok (.aload_n 3, 1) := by decide +kernel
theorem d_Main_roots_39 : decode jc_Main_roots 39 = .ok (.getfield 106, 3) := by decide +kernel
theorem d_Main_roots_42 : decode jc_Main_roots 42 = .ok (.iload_n 2, 1) := by decide +kernel
theorem d_Main_roots_43 : decode jc_Main_roots 43 = .ok (.aload_n 3, 1) := by decide +kernel
theorem d_Main_roots_44 : decode jc_Main_roots 44 = .ok (.invokevirtual 256, 3) := by decide +kernel
theorem d_Main_roots_47 : decode jc_Main_roots 47 = .ok (.invokestatic 258, 3) := by decide +kernel
theorem d_Main_roots_50 : decode jc_Main_roots 50 = .ok (.ireturn, 1) := by decide +kernel
theorem d_Main_root_0 : decode jc_Main_root 0 = .ok (.aload_n 0, 1) := by decide +kernel
theorem d_Main_root_1 : decode jc_Main_root 1 = .ok (.iload_n 1, 1) := by decide +kernel
theorem d_Main_root_2 : decode jc_Main_root 2 = .ok (.invokevirtual 103, 3) := by decide +kernel
theorem d_Main_root_5 : decode jc_Main_root 5 = .ok (.ifCond .ne 20, 3) := by decide +kernel
theorem d_Main_root_8 : decode jc_Main_root 8 = .ok (.iload_n 2, 1) := by decide +kernel
theorem d_Main_root_9 : decode jc_Main_root 9 = .ok (.iconst 2, 1) := by decide +kernel
theorem d_Main_root_10 : decode jc_Main_root 10 = .ok (.bipush 8, 2) := by decide +kernel
theorem d_Main_root_12 : decode jc_Main_root 12 = .ok (.invokestatic 69, 3) := by decide +kernel
theorem d_Main_root_15 : decode jc_Main_root 15 = .ok (.ifCond .ne 10, 3) := by decide +kernel
theorem d_Main_root_18 : decode jc_Main_root 18 = .ok (.iload_n 3, 1) := by decide +kernel
theorem d_Main_root_19 : decode jc_Main_root 19 = .ok (.invokestatic 62, 3) := by decide +kernel
theorem d_Main_root_22 : decode jc_Main_root 22 = .ok (.ifCond .eq 5, 3) := by decide +kernel
theorem d_Main_root_25 : decode jc_Main_root 25 = .ok (.iconst (-1), 1) := by decide +kernel
theorem d_Main_root_26 : decode jc_Main_root 26 = .ok (.ireturn, 1) := by decide +kernel
theorem d_Main_root_27 : decode jc_Main_root 27 = .ok (.aload_n 0, 1) := by decide +kernel
theorem d_Main_root_28 : decode jc_Main_root 28 = .ok (.getfield 11, 3) := by decide +kernel
theorem d_Main_root_31 : decode jc_Main_root 31 = .ok (.iload_n 1, 1) := by decide +kernel
theorem d_Main_root_32 : decode jc_Main_root 32 = .ok (.aaload, 1) := by decide +kernel
theorem d_Main_root_33 : decode jc_Main_root 33 = .ok (.astore 4, 2) := by decide +kernel
theorem d_Main_root_35 : decode jc_Main_root 35 = .ok (.aload 4, 2) := by decide +kernel
theorem d_Main_root_37 : decode jc_Main_root 37 = .ok (.getfield 106, 3) := by decide +kernel
theorem d_Main_root_40 : decode jc_Main_root 40 = .ok (.iconst 4, 1) := by decide +kernel
theorem d_Main_root_41 : decode jc_Main_root 41 = .ok (.if_icmp .le 6, 3) := by decide +kernel
theorem d_Main_root_44 : decode jc_Main_root 44 = .ok (.bipush (-5), 2) := by decide +kernel
theorem d_Main_root_46 : decode jc_Main_root 46 = .ok (.ireturn, 1) := by decide +kernel
theorem d_Main_root_47 : decode jc_Main_root 47 = .ok (.aload 4, 2) := by decide +kernel
theorem d_Main_root_49 : decode jc_Main_root 49 = .ok (.getfield 106, 3) := by decide +kernel
theorem d_Main_root_52 : decode jc_Main_root 52 = .ok (.iload_n 2, 1) := by decide +kernel
theorem d_Main_root_53 : decode jc_Main_root 53 = .ok (.aload 4, 2) := by decide +kernel
theorem d_Main_root_55 : decode jc_Main_root 55 = .ok (.invokevirtual 256, 3) := by decide +kernel
theorem d_Main_root_58 : decode jc_Main_root 58 = .ok (.invokestatic 264, 3) := by decide +kernel
theorem d_Main_root_61 : decode jc_Main_root 61 = .ok (.istore 5, 2) := by decide +kernel
theorem d_Main_root_63 : decode jc_Main_root 63 = .ok (.iload 5, 2) := by decide +kernel
theorem d_Main_root_65 : decode jc_Main_root 65 = .ok (.ifCond .ge 6, 3) := by decide +kernel
theorem d_Main_root_68 : decode jc_Main_root 68 = .ok (.bipush (-2), 2) := by decide +kernel
theorem d_Main_root_70 : decode jc_Main_root 70 = .ok (.ireturn, 1) := by decide +kernel
theorem d_Main_root_71 : decode jc_Main_root 71 = .ok (.aload_n 0, 1) := by decide +kernel
theorem d_Main_root_72 : decode jc_Main_root 72 = .ok (.getfield 57, 3) := by decide +kernel
theorem d_Main_root_75 : decode jc_Main_root 75 = .ok (.aload 4, 2) := by decide +kernel
theorem d_Main_root_77 : decode jc_Main_root 77 = .ok (.getfield 106, 3) := by decide +kernel
theorem d_Main_root_80 : decode jc_Main_root 80 = .ok (.iload 5, 2) := by decide +kernel
theorem d_Main_root_82 : decode jc_Main_root 82 = .ok (.invokevirtual 267, 3) := by decide +kernel
theorem d_Main_root_85 : decode jc_Main_root 85 = .ok (.aload_n 0, 1) := by decide +kernel
theorem d_Main_root_86 : decode jc_Main_root 86 = .ok (.iload_n 3, 1) := by decide +kernel
theorem d_Main_root_87 : decode jc_Main_root 87 = .ok (.invokevirtual 77, 3) := by decide +kernel
theorem d_Main_root_90 : decode jc_Main_root 90 = .ok (.pop, 1) := by decide +kernel
theorem d_Main_root_91 : decode jc_Main_root 91 = .ok (.iload 5, 2) := by decide +kernel
theorem d_Main_root_93 : decode jc_Main_root 93 = .ok (.ireturn, 1) := by decide +kernel
theorem d_Main_link_0 : decode jc_Main_link 0 = .ok (.iload_n 1, 1) := by decide +kernel
theorem d_Main_link_1 : decode jc_Main_link 1 = .ok (.iconst 0, 1) := by decide +kernel
theorem d_Main_link_2 : decode jc_Main_link 2 = .ok (.bipush 6, 2) := by decide +kernel
theorem d_Main_link_4 : decode jc_Main_link 4 = .ok (.invokestatic 69, 3) := by decide +kernel
theorem d_Main_link_7 : decode jc_Main_link 7 = .ok (.ifCond .ne 12, 3) := by decide +kernel
theorem d_Main_link_10 : decode jc_Main_link 10 = .ok (.aload_n 0, 1) := by decide +kernel
theorem d_Main_link_11 : decode jc_Main_link 11 = .ok (.iload_n 1, 1) := by decide +kernel
theorem d_Main_link_12 : decode jc_Main_link 12 = .ok (.iload_n 2, 1) := by decide +kernel
theorem d_Main_link_13 : decode jc_Main_link 13 = .ok (.invokevirtual 270, 3) := by decide +kernel
theorem d_Main_link_16 : decode jc_Main_link 16 = .ok (.ifCond .eq 5, 3) := by decide +kernel
theorem d_Main_link_19 : decode jc_Main_link 19 = .ok (.iconst (-1), 1) := by decide +kernel
theorem d_Main_link_20 : decode jc_Main_link 20 = .ok (.ireturn, 1) := by decide +kernel
theorem d_Main_link_21 : decode jc_Main_link 21 = .ok (.aload_n 0, 1) := by decide +kernel
theorem d_Main_link_22 : decode jc_Main_link 22 = .ok (.getfield 52, 3) := by decide +kernel
theorem d_Main_link_25 : decode jc_Main_link 25 = .ok (.invokevirtual 273, 3) := by decide +kernel
theorem d_Main_link_28 : decode jc_Main_link 28 = .ok (.ifCond .eq 6, 3) := by decide +kernel
theorem d_Main_link_31 : decode jc_Main_link 31 = .ok (.bipush (-4), 2) := by decide +kernel
theorem d_Main_link_33 : decode jc_Main_link 33 = .ok (.ireturn, 1) := by decide +kernel
theorem d_Main_link_34 : decode jc_Main_link 34 = .ok (.aload_n 0, 1) := by decide +kernel
theorem d_Main_link_35 : decode jc_Main_link 35 = .ok (.getfield 52, 3) := by decide +kernel
theorem d_Main_link_38 : decode jc_Main_link 38 = .ok (.iload_n 1, 1) := by decide +kernel
theorem d_Main_link_39 : decode jc_Main_link 39 = .ok (.iload_n 2, 1) := by decide +kernel
theorem d_Main_link_40 : decode jc_Main_link 40 = .ok (.aload_n 0, 1) := by decide +kernel
theorem d_Main_link_41 : decode jc_Main_link 41 = .ok (.getfield 11, 3) := by decide +kernel
theorem d_Main_link_44 : decode jc_Main_link 44 = .ok (.invokevirtual 276, 3) := by decide +kernel
theorem d_Main_link_47 : decode jc_Main_link 47 = .ok (.aload_n 0, 1) := by decide +kernel
theorem d_Main_link_48 : decode jc_Main_link 48 = .ok (.getfield 52, 3) := by decide +kernel
theorem d_Main_link_51 : decode jc_Main_link 51 = .ok (.getfield 280, 3) := by decide +kernel
theorem d_Main_link_54 : decode jc_Main_link 54 = .ok (.ireturn, 1) := by decide +kernel
theorem d_Main_run_0 : decode jc_Main_run 0 = .ok (.aload_n 0, 1) := by decide +kernel
theorem d_Main_run_1 : decode jc_Main_run 1 = .ok (.iload_n 1, 1) := by decide +kernel
theorem d_Main_run_2 : decode jc_Main_run 2 = .ok (.invokevirtual 103, 3) := by decide +kernel
theorem d_Main_run_5 : decode jc_Main_run 5 = .ok (.ifCond .eq 5, 3) := by decide +kernel
theorem d_Main_run_8 : decode jc_Main_run 8 = .ok (.iconst (-1), 1) := by decide +kernel
theorem d_Main_run_9 : decode jc_Main_run 9 = .ok (.ireturn, 1) := by decide +kernel
theorem d_Main_run_10 : decode jc_Main_run 10 = .ok (.aload_n 0, 1) := by decide +kernel
theorem d_Main_run_11 : decode jc_Main_run 11 = .ok (.getfield 52, 3) := by decide +kernel
theorem d_Main_run_14 : decode jc_Main_run 14 = .ok (.aload_n 0, 1) := by decide +kernel
theorem d_Main_run_15 : decode jc_Main_run 15 = .ok (.getfield 11, 3) := by decide +kernel
theorem d_Main_run_18 : decode jc_Main_run 18 = .ok (.iload_n 1, 1) := by decide +kernel
theorem d_Main_run_19 : decode jc_Main_run 19 = .ok (.aaload, 1) := by decide +kernel
theorem d_Main_run_20 : decode jc_Main_run 20 = .ok (.aload_n 0, 1) := by decide +kernel
theorem d_Main_run_21 : decode jc_Main_run 21 = .ok (.getfield 11, 3) := by decide +kernel
theorem d_Main_run_24 : decode jc_Main_run 24 = .ok (.invokevirtual 281, 3) := by decide +kernel
theorem d_Main_run_27 : decode jc_Main_run 27 = .ok (.istore_n 2, 1) := by decide +kernel
theorem d_Main_run_28 : decode jc_Main_run 28 = .ok (.iload_n 2, 1) := by decide +kernel
theorem d_Main_run_29 : decode jc_Main_run 29 = .ok (.ifCond .lt 8, 3) := by decide +kernel
theorem d_Main_run_32 : decode jc_Main_run 32 = .ok (.bipush (-20), 2) := by decide +kernel
theorem d_Main_run_34 : decode jc_Main_run 34 = .ok (.iload_n 2, 1) := by decide +kernel
theorem d_Main_run_35 : decode jc_Main_run 35 = .ok (.isub, 1) := by decide +kernel
theorem d_Main_run_36 : decode jc_Main_run 36 = .ok (.ireturn, 1) := by decide +kernel
theorem d_Main_run_37 : decode jc_Main_run 37 = .ok (.aload_n 0, 1) := by decide +kernel
theorem d_Main_run_38 : decode jc_Main_run 38 = .ok (.getfield 57, 3) := by decide +kernel
theorem d_Main_run_41 : decode jc_Main_run 41 = .ok (.aload_n 0, 1) := by decide +kernel
theorem d_Main_run_42 : decode jc_Main_run 42 = .ok (.getfield 52, 3) := by decide +kernel
theorem d_Main_run_45 : decode jc_Main_run 45 = .ok (.getfield 285, 3) := by decide +kernel
theorem d_Main_run_48 : decode jc_Main_run 48 = .ok (.invokevirtual 85, 3) := by decide +kernel
theorem d_Main_run_51 : decode jc_Main_run 51 = .ok (.aload_n 0, 1) := by decide +kernel
theorem d_Main_run_52 : decode jc_Main_run 52 = .ok (.iload_n 1, 1) := by decide +kernel
theorem d_Main_run_53 : decode jc_Main_run 53 = .ok (.invokevirtual 77, 3) := by decide +kernel
theorem d_Main_run_56 : decode jc_Main_run 56 = .ok (.ireturn, 1) := by decide +kernel
theorem d_Main_would_0 : decode jc_Main_would 0 = .ok (.aload_n 0, 1) := by decide +kernel
theorem d_Main_would_1 : decode jc_Main_would 1 = .ok (.iload_n 1, 1) := by decide +kernel
theorem d_Main_would_2 : decode jc_Main_would 2 = .ok (.invokevirtual 103, 3) := by decide +kernel
theorem d_Main_would_5 : decode jc_Main_would 5 = .ok (.ifCond .eq 5, 3) := by decide +kernel
theorem d_Main_would_8 : decode jc_Main_would 8 = .ok (.iconst (-1), 1) := by decide +kernel
theorem d_Main_would_9 : decode jc_Main_would 9 = .ok (.ireturn, 1) := by decide +kernel
theorem d_Main_would_10 : decode jc_Main_would 10 = .ok (.aload_n 0, 1) := by decide +kernel
theorem d_Main_would_11 : decode jc_Main_would 11 = .ok (.getfield 52, 3) := by decide +kernel
theorem d_Main_would_14 : decode jc_Main_would 14 = .ok (.aload_n 0, 1) := by decide +kernel
theorem d_Main_would_15 : decode jc_Main_would 15 = .ok (.getfield 11, 3) := by decide +kernel
theorem d_Main_would_18 : decode jc_Main_would 18 = .ok (.iload_n 1, 1) := by decide +kernel
theorem d_Main_would_19 : decode jc_Main_would 19 = .ok (.aaload, 1) := by decide +kernel
theorem d_Main_would_20 : decode jc_Main_would 20 = .ok (.aload_n 0, 1) := by decide +kernel
theorem d_Main_would_21 : decode jc_Main_would 21 = .ok (.getfield 11, 3) := by decide +kernel
theorem d_Main_would_24 : decode jc_Main_would 24 = .ok (.invokevirtual 281, 3) := by decide +kernel
theorem d_Main_would_27 : decode jc_Main_would 27 = .ok (.istore_n 2, 1) := by decide +kernel
theorem d_Main_would_28 : decode jc_Main_would 28 = .ok (.iload_n 2, 1) := by decide +kernel
theorem d_Main_would_29 : decode jc_Main_would 29 = .ok (.ifCond .lt 10, 3) := by decide +kernel
theorem d_Main_would_32 : decode jc_Main_would 32 = .ok (.bipush (-20), 2) := by decide +kernel
theorem d_Main_would_34 : decode jc_Main_would 34 = .ok (.iload_n 2, 1) := by decide +kernel
theorem d_Main_would_35 : decode jc_Main_would 35 = .ok (.isub, 1) := by decide +kernel
theorem d_Main_would_36 : decode jc_Main_would 36 = .ok (.goto 13, 3) := by decide +kernel
theorem d_Main_would_39 : decode jc_Main_would 39 = .ok (.aload_n 0, 1) := by decide +kernel
theorem d_Main_would_40 : decode jc_Main_would 40 = .ok (.getfield 52, 3) := by decide +kernel
theorem d_Main_would_43 : decode jc_Main_would 43 = .ok (.getfield 285, 3) := by decide +kernel
theorem d_Main_would_46 : decode jc_Main_would 46 = .ok (.invokevirtual 166, 3) := by decide +kernel
theorem d_Main_would_49 : decode jc_Main_would 49 = .ok (.ireturn, 1) := by decide +kernel
theorem d_Main_closing_0 : decode jc_Main_closing 0 = .ok (.iload_n 1, 1) := by decide +kernel
theorem d_Main_closing_1 : decode jc_Main_closing 1 = .ok (.ifCond .lt 14, 3) := by decide +kernel
theorem d_Main_closing_4 : decode jc_Main_closing 4 = .ok (.iload_n 1, 1) := by decide +kernel
theorem d_Main_closing_5 : decode jc_Main_closing 5 = .ok (.aload_n 0, 1) := by decide +kernel
theorem d_Main_closing_6 : decode jc_Main_closing 6 = .ok (.getfield 52, 3) := by decide +kernel
theorem d_Main_closing_9 : decode jc_Main_closing 9 = .ok (.getfield 288, 3) := by decide +kernel
theorem d_Main_closing_12 : decode jc_Main_closing 12 = .ok (.if_icmp .lt 8, 3) := by decide +kernel
theorem d_Main_closing_15 : decode jc_Main_closing 15 = .ok (.bipush (-2), 2) := by decide +kernel
theorem d_Main_closing_17 : decode jc_Main_closing 17 = .ok (.goto 12, 3) := by decide +kernel
theorem d_Main_closing_20 : decode jc_Main_closing 20 = .ok (.aload_n 0, 1) := by decide +kernel
theorem d_Main_closing_21 : decode jc_Main_closing 21 = .ok (.getfield 52, 3) := by decide +kernel
theorem d_Main_closing_24 : decode jc_Main_closing 24 = .ok (.getfield 291, 3) := by decide +kernel
theorem d_Main_closing_27 : decode jc_Main_closing 27 = .ok (.iload_n 1, 1) := by decide +kernel
theorem d_Main_closing_28 : decode jc_Main_closing 28 = .ok (.iaload, 1) := by decide +kernel
theorem d_Main_closing_29 : decode jc_Main_closing 29 = .ok (.ireturn, 1) := by decide +kernel
theorem d_Main_reason_0 : decode jc_Main_reason 0 = .ok (.iload_n 1, 1) := by decide +kernel
theorem d_Main_reason_1 : decode jc_Main_reason 1 = .ok (.ifCond .lt 14, 3) := by decide +kernel
theorem d_Main_reason_4 : decode jc_Main_reason 4 = .ok (.iload_n 1, 1) := by decide +kernel
theorem d_Main_reason_5 : decode jc_Main_reason 5 = .ok (.aload_n 0, 1) := by decide +kernel
theorem d_Main_reason_6 : decode jc_Main_reason 6 = .ok (.getfield 52, 3) := by decide +kernel
theorem d_Main_reason_9 : decode jc_Main_reason 9 = .ok (.getfield 294, 3) := by decide +kernel
theorem d_Main_reason_12 : decode jc_Main_reason 12 = .ok (.if_icmp .lt 8, 3) := by decide +kernel
theorem d_Main_reason_15 : decode jc_Main_reason 15 = .ok (.bipush (-2), 2) := by decide +kernel
theorem d_Main_reason_17 : decode jc_Main_reason 17 = .ok (.goto 12, 3) := by decide +kernel
theorem d_Main_reason_20 : decode jc_Main_reason 20 = .ok (.aload_n 0, 1) := by decide +kernel
theorem d_Main_reason_21 : decode jc_Main_reason 21 = .ok (.getfield 52, 3) := by decide +kernel
theorem d_Main_reason_24 : decode jc_Main_reason 24 = .ok (.getfield 297, 3) := by decide +kernel
theorem d_Main_reason_27 : decode jc_Main_reason 27 = .ok (.iload_n 1, 1) := by decide +kernel
theorem d_Main_reason_28 : decode jc_Main_reason 28 = .ok (.iaload, 1) := by decide +kernel
theorem d_Main_reason_29 : decode jc_Main_reason 29 = .ok (.ireturn, 1) := by decide +kernel
theorem d_Main_loosen_0 : decode jc_Main_loosen 0 = .ok (.aload_n 0, 1) := by decide +kernel
theorem d_Main_loosen_1 : decode jc_Main_loosen 1 = .ok (.getfield 52, 3) := by decide +kernel
theorem d_Main_loosen_4 : decode jc_Main_loosen 4 = .ok (.getfield 280, 3) := by decide +kernel
theorem d_Main_loosen_7 : decode jc_Main_loosen 7 = .ok (.istore_n 1, 1) := by decide +kernel
theorem d_Main_loosen_8 : decode jc_Main_loosen 8 = .ok (.aload_n 0, 1) := by decide +kernel
theorem d_Main_loosen_9 : decode jc_Main_loosen 9 = .ok (.getfield 52, 3) := by decide +kernel
theorem d_Main_loosen_12 : decode jc_Main_loosen 12 = .ok (.iconst 0, 1) := by decide +kernel
theorem d_Main_loosen_13 : decode jc_Main_loosen 13 = .ok (.putfield 280, 3) := by decide +kernel
theorem d_Main_loosen_16 : decode jc_Main_loosen 16 = .ok (.iload_n 1, 1) := by decide +kernel
theorem d_Main_loosen_17 : decode jc_Main_loosen 17 = .ok (.ireturn, 1) := by decide +kernel
theorem d_Main_undo_0 : decode jc_Main_undo 0 = .ok (.aload_n 0, 1) := by decide +kernel
theorem d_Main_undo_1 : decode jc_Main_undo 1 = .ok (.getfield 24, 3) := by decide +kernel
theorem d_Main_undo_4 : decode jc_Main_undo 4 = .ok (.getfield 300, 3) := by decide +kernel
theorem d_Main_undo_7 : decode jc_Main_undo 7 = .ok (.ifCond .ne 6, 3) := by decide +kernel
theorem d_Main_undo_10 : decode jc_Main_undo 10 = .ok (.bipush (-2), 2) := by decide +kernel
theorem d_Main_undo_12 : decode jc_Main_undo 12 = .ok (.ireturn, 1) := by decide +kernel
theorem d_Main_undo_13 : decode jc_Main_undo 13 = .ok (.aload_n 0, 1) := by decide +kernel
theorem d_Main_undo_14 : decode jc_Main_undo 14 = .ok (.getfield 24, 3) := by decide +kernel
theorem d_Main_undo_17 : decode jc_Main_undo 17 = .ok (.invokevirtual 303, 3) := by decide +kernel
theorem d_Main_undo_20 : decode jc_Main_undo 20 = .ok (.istore_n 1, 1) := by decide +kernel
theorem d_Main_undo_21 : decode jc_Main_undo 21 = .ok (.aload_n 0, 1) := by decide +kernel
theorem d_Main_undo_22 : decode jc_Main_undo 22 = .ok (.getfield 11, 3) := by decide +kernel
theorem d_Main_undo_25 : decode jc_Main_undo 25 = .ok (.iload_n 1, 1) := by decide +kernel
theorem d_Main_undo_26 : decode jc_Main_undo 26 = .ok (.aaload, 1) := by decide +kernel
theorem d_Main_undo_27 : decode jc_Main_undo 27 = .ok (.aload_n 0, 1) := by decide +kernel
theorem d_Main_undo_28 : decode jc_Main_undo 28 = .ok (.getfield 24, 3) := by decide +kernel
theorem d_Main_undo_31 : decode jc_Main_undo 31 = .ok (.invokevirtual 306, 3) := by decide +kernel
theorem d_Main_undo_34 : decode jc_Main_undo 34 = .ok (.invokevirtual 85, 3) := by decide +kernel
theorem d_Main_undo_37 : decode jc_Main_undo 37 = .ok (.aload_n 0, 1) := by decide +kernel
theorem d_Main_undo_38 : decode jc_Main_undo 38 = .ok (.getfield 24, 3) := by decide +kernel
theorem d_Main_undo_41 : decode jc_Main_undo 41 = .ok (.invokevirtual 310, 3) := by decide +kernel
theorem d_Main_undo_44 : decode jc_Main_undo 44 = .ok (.iload_n 1, 1) := by decide +kernel
theorem d_Main_undo_45 : decode jc_Main_undo 45 = .ok (.ireturn, 1) := by decide +kernel
theorem d_Main_sheet_0 : decode jc_Main_sheet 0 = .ok (.iload_n 1, 1) := by decide +kernel
theorem d_Main_sheet_1 : decode jc_Main_sheet 1 = .ok (.invokestatic 138, 3) := by decide +kernel
theorem d_Main_sheet_4 : decode jc_Main_sheet 4 = .ok (.ifCond .ne 12, 3) := by decide +kernel
theorem d_Main_sheet_7 : decode jc_Main_sheet 7 = .ok (.iload_n 2, 1) := by decide +kernel
theorem d_Main_sheet_8 : decode jc_Main_sheet 8 = .ok (.iconst (-1), 1) := by decide +kernel
theorem d_Main_sheet_9 : decode jc_Main_sheet 9 = .ok (.iconst 1, 1) := by decide +kernel
theorem d_Main_sheet_10 : decode jc_Main_sheet 10 = .ok (.invokestatic 69, 3) := by decide +kernel
theorem d_Main_sheet_13 : decode jc_Main_sheet 13 = .ok (.ifCond .eq 5, 3) := by decide +kernel
theorem d_Main_sheet_16 : decode jc_Main_sheet 16 = .ok (.iconst (-1), 1) := by decide +kernel
theorem d_Main_sheet_17 : decode jc_Main_sheet 17 = .ok (.ireturn, 1) := by decide +kernel
theorem d_Main_sheet_18 : decode jc_Main_sheet 18 = .ok (.iload_n 2, 1) := by decide +kernel
theorem d_Main_sheet_19 : decode jc_Main_sheet 19 = .ok (.iconst (-1), 1) := by decide +kernel
theorem d_Main_sheet_20 : decode jc_Main_sheet 20 = .ok (.if_icmp .ne 16, 3) := by decide +kernel
theorem d_Main_sheet_23 : decode jc_Main_sheet 23 = .ok (.aload_n 0, 1) := by decide +kernel
theorem d_Main_sheet_24 : decode jc_Main_sheet 24 = .ok (.getfield 17, 3) := by decide +kernel
theorem d_Main_sheet_27 : decode jc_Main_sheet 27 = .ok (.iload_n 1, 1) := by decide +kernel
theorem d_Main_sheet_28 : decode jc_Main_sheet 28 = .ok (.aaload, 1) := by decide +kernel
theorem d_Main_sheet_29 : decode jc_Main_sheet 29 = .ok (.iconst (-1), 1) := by decide +kernel
theorem d_Main_sheet_30 : decode jc_Main_sheet 30 = .ok (.iconst 0, 1) := by decide +kernel
theorem d_Main_sheet_31 : decode jc_Main_sheet 31 = .ok (.invokevirtual 313, 3) := by decide +kernel
theorem d_Main_sheet_34 : decode jc_Main_sheet 34 = .ok (.iconst 1, 1) := by decide +kernel
theorem d_Main_sheet_35 : decode jc_Main_sheet 35 = .ok (.ireturn, 1) := by decide +kernel
theorem d_Main_sheet_36 : decode jc_Main_sheet 36 = .ok (.iload_n 3, 1) := by decide +kernel
theorem d_Main_sheet_37 : decode jc_Main_sheet 37 = .ok (.bipush 40, 2) := by decide +kernel
theorem d_Main_sheet_39 : decode jc_Main_sheet 39 = .ok (.if_icmp .le 5, 3) := by decide +kernel
theorem d_Main_sheet_42 : decode jc_Main_sheet 42 = .ok (.iconst (-1), 1) := by decide +kernel
theorem d_Main_sheet_43 : decode jc_Main_sheet 43 = .ok (.ireturn, 1) := by decide +kernel
theorem d_Main_sheet_44 : decode jc_Main_sheet 44 = .ok (.iload_n 3, 1) := by decide +kernel
theorem d_Main_sheet_45 : decode jc_Main_sheet 45 = .ok (.ifCond .ge 6, 3) := by decide +kernel
theorem d_Main_sheet_48 : decode jc_Main_sheet 48 = .ok (.bipush (-14), 2) := by decide +kernel
theorem d_Main_sheet_50 : decode jc_Main_sheet 50 = .ok (.ireturn, 1) := by decide +kernel
theorem d_Main_sheet_51 : decode jc_Main_sheet 51 = .ok (.aload_n 0, 1) := by decide +kernel
theorem d_Main_sheet_52 : decode jc_Main_sheet 52 = .ok (.getfield 17, 3) := by decide +kernel
theorem d_Main_sheet_55 : decode jc_Main_sheet 55 = .ok (.iload_n 1, 1) := by decide +kernel
theorem d_Main_sheet_56 : decode jc_Main_sheet 56 = .ok (.aaload, 1) := by decide +kernel
theorem d_Main_sheet_57 : decode jc_Main_sheet 57 = .ok (.iload_n 2, 1) := by decide +kernel
theorem d_Main_sheet_58 : decode jc_Main_sheet 58 = .ok (.iload_n 3, 1) := by decide +kernel
theorem d_Main_sheet_59 : decode jc_Main_sheet 59 = .ok (.invokevirtual 313, 3) := by decide +kernel
theorem d_Main_sheet_62 : decode jc_Main_sheet 62 = .ok (.iconst 1, 1) := by decide +kernel
theorem d_Main_sheet_63 : decode jc_Main_sheet 63 = .ok (.ireturn, 1) := by decide +kernel
theorem d_Main_cell_0 : decode jc_Main_cell 0 = .ok (.iload_n 1, 1) := by decide +kernel
theorem d_Main_cell_1 : decode jc_Main_cell 1 = .ok (.invokestatic 138, 3) := by decide +kernel
theorem d_Main_cell_4 : decode jc_Main_cell 4 = .ok (.ifCond .eq 5, 3) := by decide +kernel
theorem d_Main_cell_7 : decode jc_Main_cell 7 = .ok (.iconst (-1), 1) := by decide +kernel
theorem d_Main_cell_8 : decode jc_Main_cell 8 = .ok (.ireturn, 1) := by decide +kernel
theorem d_Main_cell_9 : decode jc_Main_cell 9 = .ok (.aload_n 0, 1) := by decide +kernel
theorem d_Main_cell_10 : decode jc_Main_cell 10 = .ok (.getfield 17, 3) := by decide +kernel
theorem d_Main_cell_13 : decode jc_Main_cell 13 = .ok (.iload_n 1, 1) := by decide +kernel
theorem d_Main_cell_14 : decode jc_Main_cell 14 = .ok (.aaload, 1) := by decide +kernel
theorem d_Main_cell_15 : decode jc_Main_cell 15 = .ok (.invokevirtual 141, 3) := by decide +kernel
theorem d_Main_cell_18 : decode jc_Main_cell 18 = .ok (.ifCond .eq 6, 3) := by decide +kernel
theorem d_Main_cell_21 : decode jc_Main_cell 21 = .ok (.bipush (-11), 2) := by decide +kernel
theorem d_Main_cell_23 : decode jc_Main_cell 23 = .ok (.ireturn, 1) := by decide +kernel
theorem d_Main_cell_24 : decode jc_Main_cell 24 = .ok (.aload_n 0, 1) := by decide +kernel
theorem d_Main_cell_25 : decode jc_Main_cell 25 = .ok (.getfield 17, 3) := by decide +kernel
theorem d_Main_cell_28 : decode jc_Main_cell 28 = .ok (.iload_n 1, 1) := by decide +kernel
theorem d_Main_cell_29 : decode jc_Main_cell 29 = .ok (.aaload, 1) := by decide +kernel
theorem d_Main_cell_30 : decode jc_Main_cell 30 = .ok (.iload_n 2, 1) := by decide +kernel
theorem d_Main_cell_31 : decode jc_Main_cell 31 = .ok (.iconst 1, 1) := by decide +kernel
theorem d_Main_cell_32 : decode jc_Main_cell 32 = .ok (.invokevirtual 145, 3) := by decide +kernel
theorem d_Main_cell_35 : decode jc_Main_cell 35 = .ok (.ifCond .eq 6, 3) := by decide +kernel
theorem d_Main_cell_38 : decode jc_Main_cell 38 = .ok (.bipush (-12), 2) := by decide +kernel
theorem d_Main_cell_40 : decode jc_Main_cell 40 = .ok (.ireturn, 1) := by decide +kernel
theorem d_Main_cell_41 : decode jc_Main_cell 41 = .ok (.aload_n 0, 1) := by decide +kernel
theorem d_Main_cell_42 : decode jc_Main_cell 42 = .ok (.getfield 17, 3) := by decide +kernel
theorem d_Main_cell_45 : decode jc_Main_cell 45 = .ok (.iload_n 1, 1) := by decide +kernel
theorem d_Main_cell_46 : decode jc_Main_cell 46 = .ok (.aaload, 1) := by decide +kernel
theorem d_Main_cell_47 : decode jc_Main_cell 47 = .ok (.iload_n 2, 1) := by decide +kernel
theorem d_Main_cell_48 : decode jc_Main_cell 48 = .ok (.iload_n 3, 1) := by decide +kernel
theorem d_Main_cell_49 : decode jc_Main_cell 49 = .ok (.invokevirtual 159, 3) := by decide +kernel
theorem d_Main_cell_52 : decode jc_Main_cell 52 = .ok (.iconst 1, 1) := by decide +kernel
theorem d_Main_cell_53 : decode jc_Main_cell 53 = .ok (.ireturn, 1) := by decide +kernel
theorem d_Main_item_0 : decode jc_Main_item 0 = .ok (.iload_n 1, 1) := by decide +kernel
theorem d_Main_item_1 : decode jc_Main_item 1 = .ok (.invokestatic 138, 3) := by decide +kernel
theorem d_Main_item_4 : decode jc_Main_item 4 = .ok (.ifCond .ne 29, 3) := by decide +kernel
theorem d_Main_item_7 : decode jc_Main_item 7 = .ok (.aload_n 0, 1) := by decide +kernel
theorem d_Main_item_8 : decode jc_Main_item 8 = .ok (.getfield 17, 3) := by decide +kernel
theorem d_Main_item_11 : decode jc_Main_item 11 = .ok (.iload_n 1, 1) := by decide +kernel
theorem d_Main_item_12 : decode jc_Main_item 12 = .ok (.aaload, 1) := by decide +kernel
theorem d_Main_item_13 : decode jc_Main_item 13 = .ok (.invokevirtual 141, 3) := by decide +kernel
theorem d_Main_item_16 : decode jc_Main_item 16 = .ok (.ifCond .ne 17, 3) := by decide +kernel
theorem d_Main_item_19 : decode jc_Main_item 19 = .ok (.aload_n 0, 1) := by decide +kernel
theorem d_Main_item_20 : decode jc_Main_item 20 = .ok (.getfield 17, 3) := by decide +kernel
theorem d_Main_item_23 : decode jc_Main_item 23 = .ok (.iload_n 1, 1) := by decide +kernel
theorem d_Main_item_24 : decode jc_Main_item 24 = .ok (.aaload, 1) := by decide +kernel
theorem d_Main_item_25 : decode jc_Main_item 25 = .ok (.iload_n 2, 1) := by decide +kernel
theorem d_Main_item_26 : decode jc_Main_item 26 = .ok (.iconst 1, 1) := by decide +kernel
theorem d_Main_item_27 : decode jc_Main_item 27 = .ok (.invokevirtual 145, 3) := by decide +kernel
theorem d_Main_item_30 : decode jc_Main_item 30 = .ok (.ifCond .eq 7, 3) := by decide +kernel
theorem d_Main_item_33 : decode jc_Main_item 33 = .ok (.ldc2_w 316, 3) := by decide +kernel
theorem d_Main_item_36 : decode jc_Main_item 36 = .ok (.lreturn, 1) := by decide +kernel
theorem d_Main_item_37 : decode jc_Main_item 37 = .ok (.aload_n 0, 1) := by decide +kernel
theorem d_Main_item_38 : decode jc_Main_item 38 = .ok (.getfield 17, 3) := by decide +kernel
theorem d_Main_item_41 : decode jc_Main_item 41 = .ok (.iload_n 1, 1) := by decide +kernel
theorem d_Main_item_42 : decode jc_Main_item 42 = .ok (.aaload, 1) := by decide +kernel
theorem d_Main_item_43 : decode jc_Main_item 43 = .ok (.getfield 318, 3) := by decide +kernel
theorem d_Main_item_46 : decode jc_Main_item 46 = .ok (.iload_n 2, 1) := by decide +kernel
theorem d_Main_item_47 : decode jc_Main_item 47 = .ok (.iaload, 1) := by decide +kernel
theorem d_Main_item_48 : decode jc_Main_item 48 = .ok (.i2l, 1) := by decide +kernel
theorem d_Main_item_49 : decode jc_Main_item 49 = .ok (.lreturn, 1) := by decide +kernel
theorem d_Main_shift_0 : decode jc_Main_shift 0 = .ok (.iload_n 1, 1) := by decide +kernel
theorem d_Main_shift_1 : decode jc_Main_shift 1 = .ok (.invokestatic 138, 3) := by decide +kernel
theorem d_Main_shift_4 : decode jc_Main_shift 4 = .ok (.ifCond .ne 10, 3) := by decide +kernel
theorem d_Main_shift_7 : decode jc_Main_shift 7 = .ok (.iload_n 3, 1) := by decide +kernel
theorem d_Main_shift_8 : decode jc_Main_shift 8 = .ok (.invokestatic 138, 3) := by decide +kernel
theorem d_Main_shift_11 : decode jc_Main_shift 11 = .ok (.ifCond .eq 5, 3) := by decide +kernel
theorem d_Main_shift_14 : decode jc_Main_shift 14 = .ok (.iconst (-1), 1) := by decide +kernel
theorem d_Main_shift_15 : decode jc_Main_shift 15 = .ok (.ireturn, 1) := by decide +kernel
theorem d_Main_shift_16 : decode jc_Main_shift 16 = .ok (.aload_n 0, 1) := by decide +kernel
theorem d_Main_shift_17 : decode jc_Main_shift 17 = .ok (.getfield 17, 3) := by decide +kernel
theorem d_Main_shift_20 : decode jc_Main_shift 20 = .ok (.iload_n 1, 1) := by decide +kernel
theorem d_Main_shift_21 : decode jc_Main_shift 21 = .ok (.aaload, 1) := by decide +kernel
theorem d_Main_shift_22 : decode jc_Main_shift 22 = .ok (.astore 6, 2) := by decide +kernel
theorem d_Main_shift_24 : decode jc_Main_shift 24 = .ok (.aload_n 0, 1) := by decide +kernel
theorem d_Main_shift_25 : decode jc_Main_shift 25 = .ok (.getfield 17, 3) := by decide +kernel
theorem d_Main_shift_28 : decode jc_Main_shift 28 = .ok (.iload_n 3, 1) := by decide +kernel
theorem d_Main_shift_29 : decode jc_Main_shift 29 = .ok (.aaload, 1) := by decide +kernel
theorem d_Main_shift_30 : decode jc_Main_shift 30 = .ok (.astore 7, 2) := by decide +kernel
theorem d_Main_shift_32 : decode jc_Main_shift 32 = .ok (.aload 6, 2) := by decide +kernel
theorem d_Main_shift_34 : decode jc_Main_shift 34 = .ok (.invokevirtual 141, 3) := by decide +kernel
theorem d_Main_shift_37 : decode jc_Main_shift 37 = .ok (.ifCond .ne 11, 3) := by decide +kernel
theorem d_Main_shift_40 : decode jc_Main_shift 40 = .ok (.aload 7, 2) := by decide +kernel
theorem d_Main_shift_42 : decode jc_Main_shift 42 = .ok (.invokevirtual 141, 3) := by decide +kernel
theorem d_Main_shift_45 : decode jc_Main_shift 45 = .ok (.ifCond .eq 6, 3) := by decide +kernel
theorem d_Main_shift_48 : decode jc_Main_shift 48 = .ok (.bipush (-11), 2) := by decide +kernel
theorem d_Main_shift_50 : decode jc_Main_shift 50 = .ok (.ireturn, 1) := by decide +kernel
theorem d_Main_shift_51 : decode jc_Main_shift 51 = .ok (.aload 6, 2) := by decide +kernel
theorem d_Main_shift_53 : decode jc_Main_shift 53 = .ok (.getfield 321, 3) := by decide +kernel
theorem d_Main_shift_56 : decode jc_Main_shift 56 = .ok (.aload 7, 2) := by decide +kernel
theorem d_Main_shift_58 : decode jc_Main_shift 58 = .ok (.getfield 321, 3) := by decide +kernel
theorem d_Main_shift_61 : decode jc_Main_shift 61 = .ok (.if_icmp .eq 6, 3) := by decide +kernel
theorem d_Main_shift_64 : decode jc_Main_shift 64 = .ok (.bipush (-13), 2) := by decide +kernel
theorem d_Main_shift_66 : decode jc_Main_shift 66 = .ok (.ireturn, 1) := by decide +kernel
theorem d_Main_shift_67 : decode jc_Main_shift 67 = .ok (.aload 6, 2) := by decide +kernel
theorem d_Main_shift_69 : decode jc_Main_shift 69 = .ok (.iload_n 2, 1) := by decide +kernel
theorem d_Main_shift_70 : decode jc_Main_shift 70 = .ok (.iload 5, 2) := by decide +kernel
theorem d_Main_shift_72 : decode jc_Main_shift 72 = .ok (.invokevirtual 145, 3) := by decide +kernel
theorem d_Main_shift_75 : decode jc_Main_shift 75 = .ok (.ifCond .ne 15, 3) := by decide +kernel
theorem d_Main_shift_78 : decode jc_Main_shift 78 = .ok (.aload 7, 2) := by decide +kernel
theorem d_Main_shift_80 : decode jc_Main_shift 80 = .ok (.iload 4, 2) := by decide +kernel
theorem d_Main_shift_82 : decode jc_Main_shift 82 = .ok (.iload 5, 2) := by decide +kernel
theorem d_Main_shift_84 : decode jc_Main_shift 84 = .ok (.invokevirtual 145, 3) := by decide +kernel
theorem d_Main_shift_87 : decode jc_Main_shift 87 = .ok (.ifCond .eq 6, 3) := by decide +kernel
theorem d_Main_shift_90 : decode jc_Main_shift 90 = .ok (.bipush (-12), 2) := by decide +kernel
theorem d_Main_shift_92 : decode jc_Main_shift 92 = .ok (.ireturn, 1) := by decide +kernel
theorem d_Main_shift_93 : decode jc_Main_shift 93 = .ok (.aload 6, 2) := by decide +kernel
theorem d_Main_shift_95 : decode jc_Main_shift 95 = .ok (.getfield 318, 3) := by decide +kernel
theorem d_Main_shift_98 : decode jc_Main_shift 98 = .ok (.iload_n 2, 1) := by decide +kernel
theorem d_Main_shift_99 : decode jc_Main_shift 99 = .ok (.aload 7, 2) := by decide +kernel
theorem d_Main_shift_101 : decode jc_Main_shift 101 = .ok (.getfield 318, 3) := by decide +kernel
theorem d_Main_shift_104 : decode jc_Main_shift 104 = .ok (.iload 4, 2) := by decide +kernel
theorem d_Main_shift_106 : decode jc_Main_shift 106 = .ok (.iload 5, 2) := by decide +kernel
theorem d_Main_shift_108 : decode jc_Main_shift 108 = .ok (.invokestatic 324, 3) := by decide +kernel
theorem d_Main_shift_111 : decode jc_Main_shift 111 = .ok (.iload 5, 2) := by decide +kernel
theorem d_Main_shift_113 : decode jc_Main_shift 113 = .ok (.ireturn, 1) := by decide +kernel
theorem d_Main_count_0 : decode jc_Main_count 0 = .ok (.iload_n 1, 1) := by decide +kernel
theorem d_Main_count_1 : decode jc_Main_count 1 = .ok (.tableswitch 69 0 4 #[35, 40, 48, 56, 61], 35) := by decide +kernel
theorem d_Main_count_36 : decode jc_Main_count 36 = .ok (.aload_n 0, 1) := by decide +kernel
theorem d_Main_count_37 : decode jc_Main_count 37 = .ok (.invokevirtual 330, 3) := by decide +kernel
theorem d_Main_count_40 : decode jc_Main_count 40 = .ok (.ireturn, 1) := by decide +kernel
theorem d_Main_count_41 : decode jc_Main_count 41 = .ok (.aload_n 0, 1) := by decide +kernel
theorem d_Main_count_42 : decode jc_Main_count 42 = .ok (.getfield 52, 3) := by decide +kernel
theorem d_Main_count_45 : decode jc_Main_count 45 = .ok (.getfield 280, 3) := by decide +kernel
theorem d_Main_count_48 : decode jc_Main_count 48 = .ok (.ireturn, 1) := by decide +kernel
theorem d_Main_count_49 : decode jc_Main_count 49 = .ok (.aload_n 0, 1) := by decide +kernel
theorem d_Main_count_50 : decode jc_Main_count 50 = .ok (.getfield 24, 3) := by decide +kernel
theorem d_Main_count_53 : decode jc_Main_count 53 = .ok (.getfield 300, 3) := by decide +kernel
theorem d_Main_count_56 : decode jc_Main_count 56 = .ok (.ireturn, 1) := by decide +kernel
theorem d_Main_count_57 : decode jc_Main_count 57 = .ok (.aload_n 0, 1) := by decide +kernel
theorem d_Main_count_58 : decode jc_Main_count 58 = .ok (.invokevirtual 333, 3) := by decide +kernel
theorem d_Main_count_61 : decode jc_Main_count 61 = .ok (.ireturn, 1) := by decide +kernel
theorem d_Main_count_62 : decode jc_Main_count 62 = .ok (.aload_n 0, 1) := by decide +kernel
theorem d_Main_count_63 : decode jc_Main_count 63 = .ok (.getfield 52, 3) := by decide +kernel
theorem d_Main_count_66 : decode jc_Main_count 66 = .ok (.getfield 336, 3) := by decide +kernel
theorem d_Main_count_69 : decode jc_Main_count 69 = .ok (.ireturn, 1) := by decide +kernel
theorem d_Main_count_70 : decode jc_Main_count 70 = .ok (.iconst (-1), 1) := by decide +kernel
theorem d_Main_count_71 : decode jc_Main_count 71 = .ok (.ireturn, 1) := by decide +kernel
theorem d_Main_outOf_0 : decode jc_Main_outOf 0 = .ok (.iload_n 0, 1) := by decide +kernel
theorem d_Main_outOf_1 : decode jc_Main_outOf 1 = .ok (.iload_n 1, 1) := by decide +kernel
theorem d_Main_outOf_2 : decode jc_Main_outOf 2 = .ok (.if_icmp .lt 8, 3) := by decide +kernel
theorem d_Main_outOf_5 : decode jc_Main_outOf 5 = .ok (.iload_n 0, 1) := by decide +kernel
theorem d_Main_outOf_6 : decode jc_Main_outOf 6 = .ok (.iload_n 2, 1) := by decide +kernel
theorem d_Main_outOf_7 : decode jc_Main_outOf 7 = .ok (.if_icmp .le 7, 3) := by decide +kernel
theorem d_Main_outOf_10 : decode jc_Main_outOf 10 = .ok (.iconst 1, 1) := by decide +kernel
theorem d_Main_outOf_11 : decode jc_Main_outOf 11 = .ok (.goto 4, 3) := by decide +kernel
theorem d_Main_outOf_14 : decode jc_Main_outOf 14 = .ok (.iconst 0, 1) := by decide +kernel
theorem d_Main_outOf_15 : decode jc_Main_outOf 15 = .ok (.ireturn, 1) := by decide +kernel
theorem d_Main_noSlot_0 : decode jc_Main_noSlot 0 = .ok (.iload_n 0, 1) := by decide +kernel
theorem d_Main_noSlot_1 : decode jc_Main_noSlot 1 = .ok (.iconst 0, 1) := by decide +kernel
theorem d_Main_noSlot_2 : decode jc_Main_noSlot 2 = .ok (.iconst 5, 1) := by decide +kernel
theorem d_Main_noSlot_3 : decode jc_Main_noSlot 3 = .ok (.invokestatic 69, 3) := by decide +kernel
theorem d_Main_noSlot_6 : decode jc_Main_noSlot 6 = .ok (.ireturn, 1) := by decide +kernel
theorem d_Main_noSheet_0 : decode jc_Main_noSheet 0 = .ok (.iload_n 0, 1) := by decide +kernel
theorem d_Main_noSheet_1 : decode jc_Main_noSheet 1 = .ok (.iconst 0, 1) := by decide +kernel
theorem d_Main_noSheet_2 : decode jc_Main_noSheet 2 = .ok (.iconst 3, 1) := by decide +kernel
theorem d_Main_noSheet_3 : decode jc_Main_noSheet 3 = .ok (.invokestatic 69, 3) := by decide +kernel
theorem d_Main_noSheet_6 : decode jc_Main_noSheet 6 = .ok (.ireturn, 1) := by decide +kernel
theorem d_Main_noSize_0 : decode jc_Main_noSize 0 = .ok (.iload_n 0, 1) := by decide +kernel
theorem d_Main_noSize_1 : decode jc_Main_noSize 1 = .ok (.iconst 1, 1) := by decide +kernel
theorem d_Main_noSize_2 : decode jc_Main_noSize 2 = .ok (.bipush 12, 2) := by decide +kernel
theorem d_Main_noSize_4 : decode jc_Main_noSize 4 = .ok (.invokestatic 69, 3) := by decide +kernel
theorem d_Main_noSize_7 : decode jc_Main_noSize 7 = .ok (.ireturn, 1) := by decide +kernel
theorem d_Main_noTable_0 : decode jc_Main_noTable 0 = .ok (.iload_n 1, 1) := by decide +kernel
theorem d_Main_noTable_1 : decode jc_Main_noTable 1 = .ok (.invokestatic 62, 3) := by decide +kernel
theorem d_Main_noTable_4 : decode jc_Main_noTable 4 = .ok (.ifCond .ne 15, 3) := by decide +kernel
theorem d_Main_noTable_7 : decode jc_Main_noTable 7 = .ok (.aload_n 0, 1) := by decide +kernel
theorem d_Main_noTable_8 : decode jc_Main_noTable 8 = .ok (.getfield 11, 3) := by decide +kernel
theorem d_Main_noTable_11 : decode jc_Main_noTable 11 = .ok (.iload_n 1, 1) := by decide +kernel
theorem d_Main_noTable_12 : decode jc_Main_noTable 12 = .ok (.aaload, 1) := by decide +kernel
theorem d_Main_noTable_13 : decode jc_Main_noTable 13 = .ok (.getfield 106, 3) := by decide +kernel
theorem d_Main_noTable_16 : decode jc_Main_noTable 16 = .ok (.ifCond .ne 7, 3) := by decide +kernel
theorem d_Main_noTable_19 : decode jc_Main_noTable 19 = .ok (.iconst 1, 1) := by decide +kernel
theorem d_Main_noTable_20 : decode jc_Main_noTable 20 = .ok (.goto 4, 3) := by decide +kernel
theorem d_Main_noTable_23 : decode jc_Main_noTable 23 = .ok (.iconst 0, 1) := by decide +kernel
theorem d_Main_noTable_24 : decode jc_Main_noTable 24 = .ok (.ireturn, 1) := by decide +kernel
theorem d_Main_noMember_0 : decode jc_Main_noMember 0 = .ok (.aload_n 0, 1) := by decide +kernel
theorem d_Main_noMember_1 : decode jc_Main_noMember 1 = .ok (.iload_n 1, 1) := by decide +kernel
theorem d_Main_noMember_2 : decode jc_Main_noMember 2 = .ok (.invokevirtual 103, 3) := by decide +kernel
theorem d_Main_noMember_5 : decode jc_Main_noMember 5 = .ok (.ifCond .ne 22, 3) := by decide +kernel
theorem d_Main_noMember_8 : decode jc_Main_noMember 8 = .ok (.iload_n 2, 1) := by decide +kernel
theorem d_Main_noMember_9 : decode jc_Main_noMember 9 = .ok (.iconst 0, 1) := by decide +kernel
theorem d_Main_noMember_10 : decode jc_Main_noMember 10 = .ok (.aload_n 0, 1) := by decide +kernel
theorem d_Main_noMember_11 : decode jc_Main_noMember 11 = .ok (.getfield 11, 3) := by decide +kernel
theorem d_Main_noMember_14 : decode jc_Main_noMember 14 = .ok (.iload_n 1, 1) := by decide +kernel
theorem d_Main_noMember_15 : decode jc_Main_noMember 15 = .ok (.aaload, 1) := by decide +kernel
theorem d_Main_noMember_16 : decode jc_Main_noMember 16 = .ok (.getfield 106, 3) := by decide +kernel
theorem d_Main_noMember_19 : decode jc_Main_noMember 19 = .ok (.iconst 1, 1) := by decide +kernel
theorem d_Main_noMember_20 : decode jc_Main_noMember 20 = .ok (.isub, 1) := by decide +kernel
theorem d_Main_noMember_21 : decode jc_Main_noMember 21 = .ok (.invokestatic 69, 3) := by decide +kernel
theorem d_Main_noMember_24 : decode jc_Main_noMember 24 = .ok (.ifCond .eq 7, 3) := by decide +kernel
theorem d_Main_noMember_27 : decode jc_Main_noMember 27 = .ok (.iconst 1, 1) := by decide +kernel
theorem d_Main_noMember_28 : decode jc_Main_noMember 28 = .ok (.goto 4, 3) := by decide +kernel
theorem d_Main_noMember_31 : decode jc_Main_noMember 31 = .ok (.iconst 0, 1) := by decide +kernel
theorem d_Main_noMember_32 : decode jc_Main_noMember 32 = .ok (.ireturn, 1) := by decide +kernel
theorem d_Main_readsClass_0 : decode jc_Main_readsClass 0 = .ok (.aload_n 0, 1) := by decide +kernel
theorem d_Main_readsClass_1 : decode jc_Main_readsClass 1 = .ok (.iload_n 1, 1) := by decide +kernel
theorem d_Main_readsClass_2 : decode jc_Main_readsClass 2 = .ok (.invokevirtual 103, 3) := by decide +kernel
theorem d_Main_readsClass_5 : decode jc_Main_readsClass 5 = .ok (.ifCond .eq 5, 3) := by decide +kernel
theorem d_Main_readsClass_8 : decode jc_Main_readsClass 8 = .ok (.iconst 0, 1) := by decide +kernel
theorem d_Main_readsClass_9 : decode jc_Main_readsClass 9 = .ok (.ireturn, 1) := by decide +kernel
theorem d_Main_readsClass_10 : decode jc_Main_readsClass 10 = .ok (.aload_n 0, 1) := by decide +kernel
theorem d_Main_readsClass_11 : decode jc_Main_readsClass 11 = .ok (.getfield 38, 3) := by decide +kernel
theorem d_Main_readsClass_14 : decode jc_Main_readsClass 14 = .ok (.aload_n 0, 1) := by decide +kernel
theorem d_Main_readsClass_15 : decode jc_Main_readsClass 15 = .ok (.getfield 11, 3) := by decide +kernel
theorem d_Main_readsClass_18 : decode jc_Main_readsClass 18 = .ok (.iload_n 1, 1) := by decide +kernel
theorem d_Main_readsClass_19 : decode jc_Main_readsClass 19 = .ok (.aaload, 1) := by decide +kernel
theorem d_Main_readsClass_20 : decode jc_Main_readsClass 20 = .ok (.invokevirtual 192, 3) := by decide +kernel
theorem d_Main_readsClass_23 : decode jc_Main_readsClass 23 = .ok (.iload_n 2, 1) := by decide +kernel
theorem d_Main_readsClass_24 : decode jc_Main_readsClass 24 = .ok (.ifCond .lt 18, 3) := by decide +kernel
theorem d_Main_readsClass_27 : decode jc_Main_readsClass 27 = .ok (.iload_n 2, 1) := by decide +kernel
theorem d_Main_readsClass_28 : decode jc_Main_readsClass 28 = .ok (.aload_n 0, 1) := by decide +kernel
theorem d_Main_readsClass_29 : decode jc_Main_readsClass 29 = .ok (.getfield 38, 3) := by decide +kernel
theorem d_Main_readsClass_32 : decode jc_Main_readsClass 32 = .ok (.getfield 201, 3) := by decide +kernel
theorem d_Main_readsClass_35 : decode jc_Main_readsClass 35 = .ok (.if_icmp .ge 7, 3) := by decide +kernel
theorem d_Main_readsClass_38 : decode jc_Main_readsClass 38 = .ok (.iconst 1, 1) := by decide +kernel
theorem d_Main_readsClass_39 : decode jc_Main_readsClass 39 = .ok (.goto 4, 3) := by decide +kernel
theorem d_Main_readsClass_42 : decode jc_Main_readsClass 42 = .ok (.iconst 0, 1) := by decide +kernel
theorem d_Main_readsClass_43 : decode jc_Main_readsClass 43 = .ok (.ireturn, 1) := by decide +kernel
theorem d_Main_badForKind_0 : decode jc_Main_badForKind 0 = .ok (.iload_n 1, 1) := by decide +kernel
theorem d_Main_badForKind_1 : decode jc_Main_badForKind 1 = .ok (.tableswitch 54 2 6 #[35, 41, 46, 54, 35], 35) := by decide +kernel
theorem d_Main_badForKind_36 : decode jc_Main_badForKind 36 = .ok (.aload_n 0, 1) := by decide +kernel
theorem d_Main_badForKind_37 : decode jc_Main_badForKind 37 = .ok (.iload_n 2, 1) := by decide +kernel
theorem d_Main_badForKind_38 : decode jc_Main_badForKind 38 = .ok (.invokevirtual 103, 3) := by decide +kernel
theorem d_Main_badForKind_41 : decode jc_Main_badForKind 41 = .ok (.ireturn, 1) := by decide +kernel
theorem d_Main_badForKind_42 : decode jc_Main_badForKind 42 = .ok (.iload_n 2, 1) := by decide +kernel
theorem d_Main_badForKind_43 : decode jc_Main_badForKind 43 = .ok (.invokestatic 62, 3) := by decide +kernel
theorem d_Main_badForKind_46 : decode jc_Main_badForKind 46 = .ok (.ireturn, 1) := by decide +kernel
theorem d_Main_badForKind_47 : decode jc_Main_badForKind 47 = .ok (.iload_n 2, 1) := by decide +kernel
theorem d_Main_badForKind_48 : decode jc_Main_badForKind 48 = .ok (.iconst 0, 1) := by decide +kernel
theorem d_Main_badForKind_49 : decode jc_Main_badForKind 49 = .ok (.bipush 99, 2) := by decide +kernel
theorem d_Main_badForKind_51 : decode jc_Main_badForKind 51 = .ok (.invokestatic 69, 3) := by decide +kernel
theorem d_Main_badForKind_54 : decode jc_Main_badForKind 54 = .ok (.ireturn, 1) := by decide +kernel
theorem d_Main_badForKind_55 : decode jc_Main_badForKind 55 = .ok (.iconst 0, 1) := by decide +kernel
theorem d_Main_badForKind_56 : decode jc_Main_badForKind 56 = .ok (.ireturn, 1) := by decide +kernel
theorem d_Main_hold_0 : decode jc_Main_hold 0 = .ok (.aload_n 0, 1) := by decide +kernel
theorem d_Main_hold_1 : decode jc_Main_hold 1 = .ok (.getfield 24, 3) := by decide +kernel
theorem d_Main_hold_4 : decode jc_Main_hold 4 = .ok (.iload_n 1, 1) := by decide +kernel
theorem d_Main_hold_5 : decode jc_Main_hold 5 = .ok (.aload_n 0, 1) := by decide +kernel
theorem d_Main_hold_6 : decode jc_Main_hold 6 = .ok (.getfield 11, 3) := by decide +kernel
theorem d_Main_hold_9 : decode jc_Main_hold 9 = .ok (.iload_n 1, 1) := by decide +kernel
theorem d_Main_hold_10 : decode jc_Main_hold 10 = .ok (.aaload, 1) := by decide +kernel
theorem d_Main_hold_11 : decode jc_Main_hold 11 = .ok (.invokevirtual 339, 3) := by decide +kernel
theorem d_Main_hold_14 : decode jc_Main_hold 14 = .ok (.aload_n 0, 1) := by decide +kernel
theorem d_Main_hold_15 : decode jc_Main_hold 15 = .ok (.getfield 11, 3) := by decide +kernel
theorem d_Main_hold_18 : decode jc_Main_hold 18 = .ok (.iload_n 1, 1) := by decide +kernel
theorem d_Main_hold_19 : decode jc_Main_hold 19 = .ok (.aaload, 1) := by decide +kernel
theorem d_Main_hold_20 : decode jc_Main_hold 20 = .ok (.aload_n 0, 1) := by decide +kernel
theorem d_Main_hold_21 : decode jc_Main_hold 21 = .ok (.getfield 57, 3) := by decide +kernel
theorem d_Main_hold_24 : decode jc_Main_hold 24 = .ok (.invokevirtual 85, 3) := by decide +kernel
theorem d_Main_hold_27 : decode jc_Main_hold 27 = .ok (.aload_n 0, 1) := by decide +kernel
theorem d_Main_hold_28 : decode jc_Main_hold 28 = .ok (.getfield 57, 3) := by decide +kernel
theorem d_Main_hold_31 : decode jc_Main_hold 31 = .ok (.getfield 106, 3) := by decide +kernel
theorem d_Main_hold_34 : decode jc_Main_hold 34 = .ok (.ireturn, 1) := by decide +kernel
theorem d_Main_isOwnSquare_0 : decode jc_Main_isOwnSquare 0 = .ok (.aload_n 0, 1) := by decide +kernel
theorem d_Main_isOwnSquare_1 : decode jc_Main_isOwnSquare 1 = .ok (.getfield 57, 3) := by decide +kernel
theorem d_Main_isOwnSquare_4 : decode jc_Main_isOwnSquare 4 = .ok (.aload_n 1, 1) := by decide +kernel
theorem d_Main_isOwnSquare_5 : decode jc_Main_isOwnSquare 5 = .ok (.invokevirtual 85, 3) := by decide +kernel
theorem d_Main_isOwnSquare_8 : decode jc_Main_isOwnSquare 8 = .ok (.aload_n 0, 1) := by decide +kernel
theorem d_Main_isOwnSquare_9 : decode jc_Main_isOwnSquare 9 = .ok (.getfield 57, 3) := by decide +kernel
theorem d_Main_isOwnSquare_12 : decode jc_Main_isOwnSquare 12 = .ok (.aload_n 1, 1) := by decide +kernel
theorem d_Main_isOwnSquare_13 : decode jc_Main_isOwnSquare 13 = .ok (.invokevirtual 110, 3) := by decide +kernel
theorem d_Main_isOwnSquare_16 : decode jc_Main_isOwnSquare 16 = .ok (.aload_n 0, 1) := by decide +kernel
theorem d_Main_isOwnSquare_17 : decode jc_Main_isOwnSquare 17 = .ok (.getfield 57, 3) := by decide +kernel
theorem d_Main_isOwnSquare_20 : decode jc_Main_isOwnSquare 20 = .ok (.aload_n 1, 1) := by decide +kernel
theorem d_Main_isOwnSquare_21 : decode jc_Main_isOwnSquare 21 = .ok (.invokevirtual 134, 3) := by decide +kernel
theorem d_Main_isOwnSquare_24 : decode jc_Main_isOwnSquare 24 = .ok (.ireturn, 1) := by decide +kernel
theorem d_Main_isOwnTranspose_0 : decode jc_Main_isOwnTranspose 0 = .ok (.aload_n 0, 1) := by decide +kernel
theorem d_Main_isOwnTranspose_1 : decode jc_Main_isOwnTranspose 1 = .ok (.getfield 57, 3) := by decide +kernel
theorem d_Main_isOwnTranspose_4 : decode jc_Main_isOwnTranspose 4 = .ok (.aload_n 1, 1) := by decide +kernel
theorem d_Main_isOwnTranspose_5 : decode jc_Main_isOwnTranspose 5 = .ok (.invokevirtual 121, 3) := by decide +kernel
theorem d_Main_isOwnTranspose_8 : decode jc_Main_isOwnTranspose 8 = .ok (.aload_n 0, 1) := by decide +kernel
theorem d_Main_isOwnTranspose_9 : decode jc_Main_isOwnTranspose 9 = .ok (.getfield 57, 3) := by decide +kernel
theorem d_Main_isOwnTranspose_12 : decode jc_Main_isOwnTranspose 12 = .ok (.aload_n 1, 1) := by decide +kernel
theorem d_Main_isOwnTranspose_13 : decode jc_Main_isOwnTranspose 13 = .ok (.invokevirtual 134, 3) := by decide +kernel
theorem d_Main_isOwnTranspose_16 : decode jc_Main_isOwnTranspose 16 = .ok (.ireturn, 1) := by decide +kernel
theorem d_Main_heldTables_0 : decode jc_Main_heldTables 0 = .ok (.iconst 0, 1) := by decide +kernel
theorem d_Main_heldTables_1 : decode jc_Main_heldTables 1 = .ok (.istore_n 1, 1) := by decide +kernel
theorem d_Main_heldTables_2 : decode jc_Main_heldTables 2 = .ok (.iconst 0, 1) := by decide +kernel
theorem d_Main_heldTables_3 : decode jc_Main_heldTables 3 = .ok (.istore_n 2, 1) := by decide +kernel
theorem d_Main_heldTables_4 : decode jc_Main_heldTables 4 = .ok (.iload_n 2, 1) := by decide +kernel
theorem d_Main_heldTables_5 : decode jc_Main_heldTables 5 = .ok (.bipush 6, 2) := by decide +kernel
theorem d_Main_heldTables_7 : decode jc_Main_heldTables 7 = .ok (.if_icmp .ge 24, 3) := by decide +kernel
theorem d_Main_heldTables_10 : decode jc_Main_heldTables 10 = .ok (.aload_n 0, 1) := by decide +kernel
theorem d_Main_heldTables_11 : decode jc_Main_heldTables 11 = .ok (.getfield 11, 3) := by decide +kernel
theorem d_Main_heldTables_14 : decode jc_Main_heldTables 14 = .ok (.iload_n 2, 1) := by decide +kernel
theorem d_Main_heldTables_15 : decode jc_Main_heldTables 15 = .ok (.aaload, 1) := by decide +kernel
theorem d_Main_heldTables_16 : decode jc_Main_heldTables 16 = .ok (.getfield 106, 3) := by decide +kernel
theorem d_Main_heldTables_19 : decode jc_Main_heldTables 19 = .ok (.ifCond .le 6, 3) := by decide +kernel
theorem d_Main_heldTables_22 : decode jc_Main_heldTables 22 = .ok (.iinc 1 1, 3) := by decide +kernel
theorem d_Main_heldTables_25 : decode jc_Main_heldTables 25 = .ok (.iinc 2 1, 3) := by decide +kernel
theorem d_Main_heldTables_28 : decode jc_Main_heldTables 28 = .ok (.goto (-24), 3) := by decide +kernel
theorem d_Main_heldTables_31 : decode jc_Main_heldTables 31 = .ok (.iload_n 1, 1) := by decide +kernel
theorem d_Main_heldTables_32 : decode jc_Main_heldTables 32 = .ok (.ireturn, 1) := by decide +kernel
theorem d_Main_presentSheets_0 : decode jc_Main_presentSheets 0 = .ok (.iconst 0, 1) := by decide +kernel
theorem d_Main_presentSheets_1 : decode jc_Main_presentSheets 1 = .ok (.istore_n 1, 1) := by decide +kernel
theorem d_Main_presentSheets_2 : decode jc_Main_presentSheets 2 = .ok (.iconst 0, 1) := by decide +kernel
theorem d_Main_presentSheets_3 : decode jc_Main_presentSheets 3 = .ok (.istore_n 2, 1) := by decide +kernel
theorem d_Main_presentSheets_4 : decode jc_Main_presentSheets 4 = .ok (.iload_n 2, 1) := by decide +kernel
theorem d_Main_presentSheets_5 : decode jc_Main_presentSheets 5 = .ok (.iconst 4, 1) := by decide +kernel
theorem d_Main_presentSheets_6 : decode jc_Main_presentSheets 6 = .ok (.if_icmp .ge 24, 3) := by decide +kernel
theorem d_Main_presentSheets_9 : decode jc_Main_presentSheets 9 = .ok (.aload_n 0, 1) := by decide +kernel
theorem d_Main_presentSheets_10 : decode jc_Main_presentSheets 10 = .ok (.getfield 17, 3) := by decide +kernel
theorem d_Main_presentSheets_13 : decode jc_Main_presentSheets 13 = .ok (.iload_n 2, 1) := by decide +kernel
theorem d_Main_presentSheets_14 : decode jc_Main_presentSheets 14 = .ok (.aaload, 1) := by decide +kernel
theorem d_Main_presentSheets_15 : decode jc_Main_presentSheets 15 = .ok (.invokevirtual 141, 3) := by decide +kernel
theorem d_Main_presentSheets_18 : decode jc_Main_presentSheets 18 = .ok (.ifCond .ne 6, 3) := by decide +kernel
theorem d_Main_presentSheets_21 : decode jc_Main_presentSheets 21 = .ok (.iinc 1 1, 3) := by decide +kernel
theorem d_Main_presentSheets_24 : decode jc_Main_presentSheets 24 = .ok (.iinc 2 1, 3) := by decide +kernel
theorem d_Main_presentSheets_27 : decode jc_Main_presentSheets 27 = .ok (.goto (-23), 3) := by decide +kernel
theorem d_Main_presentSheets_30 : decode jc_Main_presentSheets 30 = .ok (.iload_n 1, 1) := by decide +kernel
theorem d_Main_presentSheets_31 : decode jc_Main_presentSheets 31 = .ok (.ireturn, 1) := by decide +kernel

theorem dX8_sum_33 : decode cX8_sum 33 = .ok (.aload_n 0, 1) := by decide +kernel
theorem dX8_sum_34 : decode cX8_sum 34 = .ok (.bipush 6, 2) := by decide +kernel
theorem dX8_sum_36 : decode cX8_sum 36 = .ok (.invokevirtual 77, 3) := by decide +kernel
theorem dX8_sum_39 : decode cX8_sum 39 = .ok (.i2l, 1) := by decide +kernel
theorem dX8_sum_40 : decode cX8_sum 40 = .ok (.lreturn, 1) := by decide +kernel
theorem dX8_sum_41 : decode cX8_sum 41 = .ok (.aload_n 0, 1) := by decide +kernel
theorem dX8_sum_42 : decode cX8_sum 42 = .ok (.iconst 0, 1) := by decide +kernel
theorem dX8_sum_43 : decode cX8_sum 43 = .ok (.putfield 63, 3) := by decide +kernel
theorem dX8_sum_46 : decode cX8_sum 46 = .ok (.lload_n 2, 1) := by decide +kernel
theorem dX8_sum_47 : decode cX8_sum 47 = .ok (.lreturn, 1) := by decide +kernel
theorem dX8_slack_0 : decode cX8_slack 0 = .ok (.aload_n 0, 1) := by decide +kernel
theorem dX8_slack_1 : decode cX8_slack 1 = .ok (.iload_n 1, 1) := by decide +kernel
theorem dX8_slack_2 : decode cX8_slack 2 = .ok (.invokevirtual 175, 3) := by decide +kernel
theorem dX8_slack_5 : decode cX8_slack 5 = .ok (.ifCond .eq 25, 3) := by decide +kernel
theorem dX8_slack_8 : decode cX8_slack 8 = .ok (.iload_n 2, 1) := by decide +kernel
theorem dX8_slack_9 : decode cX8_slack 9 = .ok (.iconst 0, 1) := by decide +kernel
theorem dX8_slack_10 : decode cX8_slack 10 = .ok (.sipush 255, 3) := by decide +kernel
theorem dX8_slack_13 : decode cX8_slack 13 = .ok (.invokestatic 68, 3) := by decide +kernel
theorem dX8_slack_16 : decode cX8_slack 16 = .ok (.ifCond .eq 14, 3) := by decide +kernel
theorem dX8_slack_19 : decode cX8_slack 19 = .ok (.iload_n 3, 1) := by decide +kernel
theorem dX8_slack_20 : decode cX8_slack 20 = .ok (.iconst 0, 1) := by decide +kernel
theorem dX8_slack_21 : decode cX8_slack 21 = .ok (.sipush 255, 3) := by decide +kernel
theorem dX8_slack_24 : decode cX8_slack 24 = .ok (.invokestatic 68, 3) := by decide +kernel
theorem dX8_slack_27 : decode cX8_slack 27 = .ok (.ifCond .ne 7, 3) := by decide +kernel
theorem dX8_slack_30 : decode cX8_slack 30 = .ok (.ldc2_w 258, 3) := by decide +kernel
theorem dX8_slack_33 : decode cX8_slack 33 = .ok (.lreturn, 1) := by decide +kernel
theorem dX8_slack_34 : decode cX8_slack 34 = .ok (.aload_n 0, 1) := by decide +kernel
theorem dX8_slack_35 : decode cX8_slack 35 = .ok (.getfield 25, 3) := by decide +kernel
theorem dX8_slack_38 : decode cX8_slack 38 = .ok (.bipush 12, 2) := by decide +kernel
theorem dX8_slack_40 : decode cX8_slack 40 = .ok (.bipush 10, 2) := by decide +kernel
theorem dX8_slack_42 : decode cX8_slack 42 = .ok (.iload_n 1, 1) := by decide +kernel
theorem dX8_slack_43 : decode cX8_slack 43 = .ok (.imul, 1) := by decide +kernel
theorem dX8_slack_44 : decode cX8_slack 44 = .ok (.iadd, 1) := by decide +kernel
theorem dX8_slack_45 : decode cX8_slack 45 = .ok (.invokestatic 196, 3) := by decide +kernel
theorem dX8_slack_48 : decode cX8_slack 48 = .ok (.lconst 0, 1) := by decide +kernel
theorem dX8_slack_49 : decode cX8_slack 49 = .ok (.lcmp, 1) := by decide +kernel
theorem dX8_slack_50 : decode cX8_slack 50 = .ok (.ifCond .ge 11, 3) := by decide +kernel
theorem dX8_slack_53 : decode cX8_slack 53 = .ok (.aload_n 0, 1) := by decide +kernel
theorem dX8_slack_54 : decode cX8_slack 54 = .ok (.bipush 6, 2) := by decide +kernel
theorem dX8_slack_56 : decode cX8_slack 56 = .ok (.invokevirtual 77, 3) := by decide +kernel
theorem dX8_slack_59 : decode cX8_slack 59 = .ok (.i2l, 1) := by decide +kernel
theorem dX8_slack_60 : decode cX8_slack 60 = .ok (.lreturn, 1) := by decide +kernel
theorem dX8_slack_61 : decode cX8_slack 61 = .ok (.aload_n 0, 1) := by decide +kernel
theorem dX8_slack_62 : decode cX8_slack 62 = .ok (.iconst 0, 1) := by decide +kernel
theorem dX8_slack_63 : decode cX8_slack 63 = .ok (.putfield 63, 3) := by decide +kernel
theorem dX8_slack_66 : decode cX8_slack 66 = .ok (.aload_n 0, 1) := by decide +kernel
theorem dX8_slack_67 : decode cX8_slack 67 = .ok (.getfield 25, 3) := by decide +kernel
theorem dX8_slack_70 : decode cX8_slack 70 = .ok (.bipush 12, 2) := by decide +kernel
theorem dX8_slack_72 : decode cX8_slack 72 = .ok (.bipush 10, 2) := by decide +kernel
theorem dX8_slack_74 : decode cX8_slack 74 = .ok (.iload_n 1, 1) := by decide +kernel
theorem dX8_slack_75 : decode cX8_slack 75 = .ok (.imul, 1) := by decide +kernel
theorem dX8_slack_76 : decode cX8_slack 76 = .ok (.iadd, 1) := by decide +kernel
theorem dX8_slack_77 : decode cX8_slack 77 = .ok (.iload_n 2, 1) := by decide +kernel
theorem dX8_slack_78 : decode cX8_slack 78 = .ok (.iload_n 3, 1) := by decide +kernel
theorem dX8_slack_79 : decode cX8_slack 79 = .ok (.invokestatic 206, 3) := by decide +kernel
theorem dX8_slack_82 : decode cX8_slack 82 = .ok (.lreturn, 1) := by decide +kernel
theorem dX8_forced_0 : decode cX8_forced 0 = .ok (.aload_n 0, 1) := by decide +kernel
theorem dX8_forced_1 : decode cX8_forced 1 = .ok (.invokevirtual 171, 3) := by decide +kernel
theorem dX8_forced_4 : decode cX8_forced 4 = .ok (.ifCond .ne 6, 3) := by decide +kernel
theorem dX8_forced_7 : decode cX8_forced 7 = .ok (.ldc 174, 2) := by decide +kernel
theorem dX8_forced_9 : decode cX8_forced 9 = .ok (.ireturn, 1) := by decide +kernel
theorem dX8_forced_10 : decode cX8_forced 10 = .ok (.iload_n 1, 1) := by decide +kernel
theorem dX8_forced_11 : decode cX8_forced 11 = .ok (.iconst 0, 1) := by decide +kernel
theorem dX8_forced_12 : decode cX8_forced 12 = .ok (.sipush 255, 3) := by decide +kernel
theorem dX8_forced_15 : decode cX8_forced 15 = .ok (.invokestatic 68, 3) := by decide +kernel
theorem dX8_forced_18 : decode cX8_forced 18 = .ok (.ifCond .eq 23, 3) := by decide +kernel
theorem dX8_forced_21 : decode cX8_forced 21 = .ok (.iload_n 2, 1) := by decide +kernel
theorem dX8_forced_22 : decode cX8_forced 22 = .ok (.iconst 0, 1) := by decide +kernel
theorem dX8_forced_23 : decode cX8_forced 23 = .ok (.sipush 255, 3) := by decide +kernel
theorem dX8_forced_26 : decode cX8_forced 26 = .ok (.invokestatic 68, 3) := by decide +kernel
theorem dX8_forced_29 : decode cX8_forced 29 = .ok (.ifCond .eq 12, 3) := by decide +kernel
theorem dX8_forced_32 : decode cX8_forced 32 = .ok (.iload_n 3, 1) := by decide +kernel
theorem dX8_forced_33 : decode cX8_forced 33 = .ok (.iconst 0, 1) := by decide +kernel
theorem dX8_forced_34 : decode cX8_forced 34 = .ok (.iconst 2, 1) := by decide +kernel
theorem dX8_forced_35 : decode cX8_forced 35 = .ok (.invokestatic 68, 3) := by decide +kernel
theorem dX8_forced_38 : decode cX8_forced 38 = .ok (.ifCond .ne 6, 3) := by decide +kernel
theorem dX8_forced_41 : decode cX8_forced 41 = .ok (.ldc 76, 2) := by decide +kernel
theorem dX8_forced_43 : decode cX8_forced 43 = .ok (.ireturn, 1) := by decide +kernel
theorem dX8_forced_44 : decode cX8_forced 44 = .ok (.aload_n 0, 1) := by decide +kernel
theorem dX8_forced_45 : decode cX8_forced 45 = .ok (.invokevirtual 222, 3) := by decide +kernel
theorem dX8_forced_48 : decode cX8_forced 48 = .ok (.ifCond .eq 10, 3) := by decide +kernel
theorem dX8_forced_51 : decode cX8_forced 51 = .ok (.aload_n 0, 1) := by decide +kernel
theorem dX8_forced_52 : decode cX8_forced 52 = .ok (.bipush 6, 2) := by decide +kernel
theorem dX8_forced_54 : decode cX8_forced 54 = .ok (.invokevirtual 77, 3) := by decide +kernel
theorem dX8_forced_57 : decode cX8_forced 57 = .ok (.ireturn, 1) := by decide +kernel
theorem dX8_forced_58 : decode cX8_forced 58 = .ok (.aload_n 0, 1) := by decide +kernel
theorem dX8_forced_59 : decode cX8_forced 59 = .ok (.iload_n 1, 1) := by decide +kernel
theorem dX8_forced_60 : decode cX8_forced 60 = .ok (.putfield 200, 3) := by decide +kernel
theorem dX8_forced_63 : decode cX8_forced 63 = .ok (.aload_n 0, 1) := by decide +kernel
theorem dX8_forced_64 : decode cX8_forced 64 = .ok (.iload_n 2, 1) := by decide +kernel
theorem dX8_forced_65 : decode cX8_forced 65 = .ok (.iload_n 1, 1) := by decide +kernel
theorem dX8_forced_66 : decode cX8_forced 66 = .ok (.iand, 1) := by decide +kernel
theorem dX8_forced_67 : decode cX8_forced 67 = .ok (.putfield 203, 3) := by decide +kernel
theorem dX8_forced_70 : decode cX8_forced 70 = .ok (.aload_n 0, 1) := by decide +kernel
theorem dX8_forced_71 : decode cX8_forced 71 = .ok (.ldc 60, 2) := by decide +kernel
theorem dX8_forced_73 : decode cX8_forced 73 = .ok (.iconst 0, 1) := by decide +kernel
theorem dX8_forced_74 : decode cX8_forced 74 = .ok (.iconst 0, 1) := by decide +kernel
theorem dX8_forced_75 : decode cX8_forced 75 = .ok (.invokevirtual 218, 3) := by decide +kernel
theorem dX8_forced_78 : decode cX8_forced 78 = .ok (.istore 4, 2) := by decide +kernel
theorem dX8_forced_80 : decode cX8_forced 80 = .ok (.aload_n 0, 1) := by decide +kernel
theorem dX8_forced_81 : decode cX8_forced 81 = .ok (.iload_n 3, 1) := by decide +kernel
theorem dX8_forced_82 : decode cX8_forced 82 = .ok (.ifCond .ne 16, 3) := by decide +kernel
theorem dX8_forced_85 : decode cX8_forced 85 = .ok (.iload 4, 2) := by decide +kernel
theorem dX8_forced_87 : decode cX8_forced 87 = .ok (.ifCond .eq 7, 3) := by decide +kernel
theorem dX8_forced_90 : decode cX8_forced 90 = .ok (.iconst 1, 1) := by decide +kernel
theorem dX8_forced_91 : decode cX8_forced 91 = .ok (.goto 33, 3) := by decide +kernel
theorem dX8_forced_94 : decode cX8_forced 94 = .ok (.iconst 0, 1) := by decide +kernel
theorem dX8_forced_95 : decode cX8_forced 95 = .ok (.goto 29, 3) := by decide +kernel
theorem dX8_forced_98 : decode cX8_forced 98 = .ok (.iload 4, 2) := by decide +kernel
theorem dX8_forced_100 : decode cX8_forced 100 = .ok (.ifCond .eq 8, 3) := by decide +kernel
theorem dX8_forced_103 : decode cX8_forced 103 = .ok (.ldc 60, 2) := by decide +kernel
theorem dX8_forced_105 : decode cX8_forced 105 = .ok (.goto 19, 3) := by decide +kernel
theorem dX8_forced_108 : decode cX8_forced 108 = .ok (.iload_n 3, 1) := by decide +kernel
theorem dX8_forced_109 : decode cX8_forced 109 = .ok (.iconst 1, 1) := by decide +kernel
theorem dX8_forced_110 : decode cX8_forced 110 = .ok (.if_icmp .ne 10, 3) := by decide +kernel
theorem dX8_forced_113 : decode cX8_forced 113 = .ok (.aload_n 0, 1) := by decide +kernel
theorem dX8_forced_114 : decode cX8_forced 114 = .ok (.getfield 200, 3) := by decide +kernel
theorem dX8_forced_117 : decode cX8_forced 117 = .ok (.goto 7, 3) := by decide +kernel
theorem dX8_forced_120 : decode cX8_forced 120 = .ok (.aload_n 0, 1) := by decide +kernel
theorem dX8_forced_121 : decode cX8_forced 121 = .ok (.getfield 203, 3) := by decide +kernel
theorem dX8_forced_124 : decode cX8_forced 124 = .ok (.invokevirtual 81, 3) := by decide +kernel
theorem dX8_forced_127 : decode cX8_forced 127 = .ok (.ireturn, 1) := by decide +kernel
theorem dX8_solutions_0 : decode cX8_solutions 0 = .ok (.aload_n 0, 1) := by decide +kernel
theorem dX8_solutions_1 : decode cX8_solutions 1 = .ok (.invokevirtual 171, 3) := by decide +kernel
theorem dX8_solutions_4 : decode cX8_solutions 4 = .ok (.ifCond .ne 6, 3) := by decide +kernel
theorem dX8_solutions_7 : decode cX8_solutions 7 = .ok (.ldc 174, 2) := by decide +kernel
theorem dX8_solutions_9 : decode cX8_solutions 9 = .ok (.ireturn, 1) := by decide +kernel
theorem dX8_solutions_10 : decode cX8_solutions 10 = .ok (.iload_n 1, 1) := by decide +kernel
theorem dX8_solutions_11 : decode cX8_solutions 11 = .ok (.iconst 0, 1) := by decide +kernel
theorem dX8_solutions_12 : decode cX8_solutions 12 = .ok (.iconst 2, 1) := by decide +kernel
theorem dX8_solutions_13 : decode cX8_solutions 13 = .ok (.invokestatic 68, 3) := by decide +kernel
theorem dX8_solutions_16 : decode cX8_solutions 16 = .ok (.ifCond .ne 6, 3) := by decide +kernel
theorem dX8_solutions_19 : decode cX8_solutions 19 = .ok (.ldc 76, 2) := by decide +kernel
theorem dX8_solutions_21 : decode cX8_solutions 21 = .ok (.ireturn, 1) := by decide +kernel
theorem dX8_solutions_22 : decode cX8_solutions 22 = .ok (.aload_n 0, 1) := by decide +kernel
theorem dX8_solutions_23 : decode cX8_solutions 23 = .ok (.invokevirtual 222, 3) := by decide +kernel
theorem dX8_solutions_26 : decode cX8_solutions 26 = .ok (.ifCond .eq 10, 3) := by decide +kernel
theorem dX8_solutions_29 : decode cX8_solutions 29 = .ok (.aload_n 0, 1) := by decide +kernel
theorem dX8_solutions_30 : decode cX8_solutions 30 = .ok (.bipush 6, 2) := by decide +kernel
theorem dX8_solutions_32 : decode cX8_solutions 32 = .ok (.invokevirtual 77, 3) := by decide +kernel
theorem dX8_solutions_35 : decode cX8_solutions 35 = .ok (.ireturn, 1) := by decide +kernel
theorem dX8_solutions_36 : decode cX8_solutions 36 = .ok (.iconst 0, 1) := by decide +kernel
theorem dX8_solutions_37 : decode cX8_solutions 37 = .ok (.istore_n 2, 1) := by decide +kernel
theorem dX8_solutions_38 : decode cX8_solutions 38 = .ok (.ldc 60, 2) := by decide +kernel
theorem dX8_solutions_40 : decode cX8_solutions 40 = .ok (.istore_n 3, 1) := by decide +kernel
theorem dX8_solutions_41 : decode cX8_solutions 41 = .ok (.ldc 60, 2) := by decide +kernel
theorem dX8_solutions_43 : decode cX8_solutions 43 = .ok (.istore 4, 2) := by decide +kernel
theorem dX8_solutions_45 : decode cX8_solutions 45 = .ok (.iconst 0, 1) := by decide +kernel
theorem dX8_solutions_46 : decode cX8_solutions 46 = .ok (.istore 5, 2) := by decide +kernel
theorem dX8_solutions_48 : decode cX8_solutions 48 = .ok (.iload 5, 2) := by decide +kernel
theorem dX8_solutions_50 : decode cX8_solutions 50 = .ok (.sipush 256, 3) := by decide +kernel
theorem dX8_solutions_53 : decode cX8_solutions 53 = .ok (.if_icmp .ge 65, 3) := by decide +kernel
theorem dX8_solutions_56 : decode cX8_solutions 56 = .ok (.aload_n 0, 1) := by decide +kernel
theorem dX8_solutions_57 : decode cX8_solutions 57 = .ok (.iload 5, 2) := by decide +kernel
theorem dX8_solutions_59 : decode cX8_solutions 59 = .ok (.invokevirtual 247, 3) := by decide +kernel
theorem dX8_solutions_62 : decode cX8_solutions 62 = .ok (.ifCond .eq 50, 3) := by decide +kernel
theorem dX8_solutions_65 : decode cX8_solutions 65 = .ok (.aload_n 0, 1) := by decide +kernel
theorem dX8_solutions_66 : decode cX8_solutions 66 = .ok (.iload 5, 2) := by decide +kernel
theorem dX8_solutions_68 : decode cX8_solutions 68 = .ok (.invokevirtual 250, 3) := by decide +kernel
theorem dX8_solutions_71 : decode cX8_solutions 71 = .ok (.istore 6, 2) := by decide +kernel
theorem dX8_solutions_73 : decode cX8_solutions 73 = .ok (.iload_n 2, 1) := by decide +kernel
theorem dX8_solutions_74 : decode cX8_solutions 74 = .ok (.ifCond .eq 9, 3) := by decide +kernel
theorem dX8_solutions_77 : decode cX8_solutions 77 = .ok (.iload 6, 2) := by decide +kernel
theorem dX8_solutions_79 : decode cX8_solutions 79 = .ok (.iload_n 3, 1) := by decide +kernel
theorem dX8_solutions_80 : decode cX8_solutions 80 = .ok (.if_icmp .ge 8, 3) := by decide +kernel
theorem dX8_solutions_83 : decode cX8_solutions 83 = .ok (.iload 5, 2) := by decide +kernel
theorem dX8_solutions_85 : decode cX8_solutions 85 = .ok (.goto 5, 3) := by decide +kernel
theorem dX8_solutions_88 : decode cX8_solutions 88 = .ok (.iload 4, 2) := by decide +kernel
theorem dX8_solutions_90 : decode cX8_solutions 90 = .ok (.istore 4, 2) := by decide +kernel
theorem dX8_solutions_92 : decode cX8_solutions 92 = .ok (.iload_n 2, 1) := by decide +kernel
theorem dX8_solutions_93 : decode cX8_solutions 93 = .ok (.ifCond .eq 9, 3) := by decide +kernel
theorem dX8_solutions_96 : decode cX8_solutions 96 = .ok (.iload 6, 2) := by decide +kernel
theorem dX8_solutions_98 : decode cX8_solutions 98 = .ok (.iload_n 3, 1) := by decide +kernel
theorem dX8_solutions_99 : decode cX8_solutions 99 = .ok (.if_icmp .ge 8, 3) := by decide +kernel
theorem dX8_solutions_102 : decode cX8_solutions 102 = .ok (.iload 6, 2) := by decide +kernel
theorem dX8_solutions_104 : decode cX8_solutions 104 = .ok (.goto 4, 3) := by decide +kernel
theorem dX8_solutions_107 : decode cX8_solutions 107 = .ok (.iload_n 3, 1) := by decide +kernel
theorem dX8_solutions_108 : decode cX8_solutions 108 = .ok (.istore_n 3, 1) := by decide +kernel
theorem dX8_solutions_109 : decode cX8_solutions 109 = .ok (.iinc 2 1, 3) := by decide +kernel
theorem dX8_solutions_112 : decode cX8_solutions 112 = .ok (.iinc 5 1, 3) := by decide +kernel
theorem dX8_solutions_115 : decode cX8_solutions 115 = .ok (.goto (-67), 3) := by decide +kernel
theorem dX8_solutions_118 : decode cX8_solutions 118 = .ok (.aload_n 0, 1) := by decide +kernel
theorem dX8_solutions_119 : decode cX8_solutions 119 = .ok (.iload_n 1, 1) := by decide +kernel
theorem dX8_solutions_120 : decode cX8_solutions 120 = .ok (.ifCond .ne 7, 3) := by decide +kernel
theorem dX8_solutions_123 : decode cX8_solutions 123 = .ok (.iload_n 2, 1) := by decide +kernel
theorem dX8_solutions_124 : decode cX8_solutions 124 = .ok (.goto 14, 3) := by decide +kernel
theorem dX8_solutions_127 : decode cX8_solutions 127 = .ok (.iload_n 1, 1) := by decide +kernel
theorem dX8_solutions_128 : decode cX8_solutions 128 = .ok (.iconst 1, 1) := by decide +kernel
theorem dX8_solutions_129 : decode cX8_solutions 129 = .ok (.if_icmp .ne 7, 3) := by decide +kernel
theorem dX8_solutions_132 : decode cX8_solutions 132 = .ok (.iload_n 3, 1) := by decide +kernel
theorem dX8_solutions_133 : decode cX8_solutions 133 = .ok (.goto 5, 3) := by decide +kernel
theorem dX8_solutions_136 : decode cX8_solutions 136 = .ok (.iload 4, 2) := by decide +kernel
theorem dX8_solutions_138 : decode cX8_solutions 138 = .ok (.invokevirtual 81, 3) := by decide +kernel
theorem dX8_solutions_141 : decode cX8_solutions 141 = .ok (.ireturn, 1) := by decide +kernel
theorem dX8_holds_0 : decode cX8_holds 0 = .ok (.aload_n 0, 1) := by decide +kernel
theorem dX8_holds_1 : decode cX8_holds 1 = .ok (.iload_n 1, 1) := by decide +kernel
theorem dX8_holds_2 : decode cX8_holds 2 = .ok (.invokevirtual 175, 3) := by decide +kernel
theorem dX8_holds_5 : decode cX8_holds 5 = .ok (.ifCond .ne 6, 3) := by decide +kernel
theorem dX8_holds_8 : decode cX8_holds 8 = .ok (.ldc 76, 2) := by decide +kernel
theorem dX8_holds_10 : decode cX8_holds 10 = .ok (.ireturn, 1) := by decide +kernel
theorem dX8_holds_11 : decode cX8_holds 11 = .ok (.aload_n 0, 1) := by decide +kernel
theorem dX8_holds_12 : decode cX8_holds 12 = .ok (.getfield 25, 3) := by decide +kernel
theorem dX8_holds_15 : decode cX8_holds 15 = .ok (.bipush 12, 2) := by decide +kernel
theorem dX8_holds_17 : decode cX8_holds 17 = .ok (.bipush 10, 2) := by decide +kernel
theorem dX8_holds_19 : decode cX8_holds 19 = .ok (.iload_n 1, 1) := by decide +kernel
theorem dX8_holds_20 : decode cX8_holds 20 = .ok (.imul, 1) := by decide +kernel
theorem dX8_holds_21 : decode cX8_holds 21 = .ok (.iadd, 1) := by decide +kernel
theorem dX8_holds_22 : decode cX8_holds 22 = .ok (.invokestatic 196, 3) := by decide +kernel
theorem dX8_holds_25 : decode cX8_holds 25 = .ok (.lconst 0, 1) := by decide +kernel
theorem dX8_holds_26 : decode cX8_holds 26 = .ok (.lcmp, 1) := by decide +kernel
theorem dX8_holds_27 : decode cX8_holds 27 = .ok (.ifCond .ge 10, 3) := by decide +kernel
theorem dX8_holds_30 : decode cX8_holds 30 = .ok (.aload_n 0, 1) := by decide +kernel
theorem dX8_holds_31 : decode cX8_holds 31 = .ok (.bipush 6, 2) := by decide +kernel
theorem dX8_holds_33 : decode cX8_holds 33 = .ok (.invokevirtual 77, 3) := by decide +kernel
theorem dX8_holds_36 : decode cX8_holds 36 = .ok (.ireturn, 1) := by decide +kernel
theorem dX8_holds_37 : decode cX8_holds 37 = .ok (.iconst 0, 1) := by decide +kernel
theorem dX8_holds_38 : decode cX8_holds 38 = .ok (.istore_n 2, 1) := by decide +kernel
theorem dX8_holds_39 : decode cX8_holds 39 = .ok (.iconst 0, 1) := by decide +kernel
theorem dX8_holds_40 : decode cX8_holds 40 = .ok (.istore_n 3, 1) := by decide +kernel
theorem dX8_holds_41 : decode cX8_holds 41 = .ok (.iload_n 3, 1) := by decide +kernel
theorem dX8_holds_42 : decode cX8_holds 42 = .ok (.sipush 256, 3) := by decide +kernel
theorem dX8_holds_45 : decode cX8_holds 45 = .ok (.if_icmp .ge 26, 3) := by decide +kernel
theorem dX8_holds_48 : decode cX8_holds 48 = .ok (.iload_n 2, 1) := by decide +kernel
theorem dX8_holds_49 : decode cX8_holds 49 = .ok (.aload_n 0, 1) := by decide +kernel
theorem dX8_holds_50 : decode cX8_holds 50 = .ok (.iload_n 1, 1) := by decide +kernel
theorem dX8_holds_51 : decode cX8_holds 51 = .ok (.iload_n 3, 1) := by decide +kernel
theorem dX8_holds_52 : decode cX8_holds 52 = .ok (.invokevirtual 244, 3) := by decide +kernel
theorem dX8_holds_55 : decode cX8_holds 55 = .ok (.ifCond .eq 7, 3) := by decide +kernel
theorem dX8_holds_58 : decode cX8_holds 58 = .ok (.iconst 1, 1) := by decide +kernel
theorem dX8_holds_59 : decode cX8_holds 59 = .ok (.goto 4, 3) := by decide +kernel
theorem dX8_holds_62 : decode cX8_holds 62 = .ok (.iconst 0, 1) := by decide +kernel
theorem dX8_holds_63 : decode cX8_holds 63 = .ok (.iadd, 1) := by decide +kernel
theorem dX8_holds_64 : decode cX8_holds 64 = .ok (.istore_n 2, 1) := by decide +kernel
theorem dX8_holds_65 : decode cX8_holds 65 = .ok (.iinc 3 1, 3) := by decide +kernel
theorem dX8_holds_68 : decode cX8_holds 68 = .ok (.goto (-27), 3) := by decide +kernel
theorem dX8_holds_71 : decode cX8_holds 71 = .ok (.aload_n 0, 1) := by decide +kernel
theorem dX8_holds_72 : decode cX8_holds 72 = .ok (.iload_n 2, 1) := by decide +kernel
theorem dX8_holds_73 : decode cX8_holds 73 = .ok (.invokevirtual 81, 3) := by decide +kernel
theorem dX8_holds_76 : decode cX8_holds 76 = .ok (.ireturn, 1) := by decide +kernel
theorem dX8_follows_0 : decode cX8_follows 0 = .ok (.aload_n 0, 1) := by decide +kernel
theorem dX8_follows_1 : decode cX8_follows 1 = .ok (.iload_n 1, 1) := by decide +kernel
theorem dX8_follows_2 : decode cX8_follows 2 = .ok (.invokevirtual 175, 3) := by decide +kernel
theorem dX8_follows_5 : decode cX8_follows 5 = .ok (.ifCond .ne 6, 3) := by decide +kernel
theorem dX8_follows_8 : decode cX8_follows 8 = .ok (.ldc 76, 2) := by decide +kernel
theorem dX8_follows_10 : decode cX8_follows 10 = .ok (.ireturn, 1) := by decide +kernel
theorem dX8_follows_11 : decode cX8_follows 11 = .ok (.aload_n 0, 1) := by decide +kernel
theorem dX8_follows_12 : decode cX8_follows 12 = .ok (.invokevirtual 222, 3) := by decide +kernel
theorem dX8_follows_15 : decode cX8_follows 15 = .ok (.ifCond .eq 10, 3) := by decide +kernel
theorem dX8_follows_18 : decode cX8_follows 18 = .ok (.aload_n 0, 1) := by decide +kernel
theorem dX8_follows_19 : decode cX8_follows 19 = .ok (.bipush 6, 2) := by decide +kernel
theorem dX8_follows_21 : decode cX8_follows 21 = .ok (.invokevirtual 77, 3) := by decide +kernel
theorem dX8_follows_24 : decode cX8_follows 24 = .ok (.ireturn, 1) := by decide +kernel
theorem dX8_follows_25 : decode cX8_follows 25 = .ok (.aload_n 0, 1) := by decide +kernel
theorem dX8_follows_26 : decode cX8_follows 26 = .ok (.aload_n 0, 1) := by decide +kernel
theorem dX8_follows_27 : decode cX8_follows 27 = .ok (.aload_n 0, 1) := by decide +kernel
theorem dX8_follows_28 : decode cX8_follows 28 = .ok (.getfield 25, 3) := by decide +kernel
theorem dX8_follows_31 : decode cX8_follows 31 = .ok (.bipush 12, 2) := by decide +kernel
theorem dX8_follows_33 : decode cX8_follows 33 = .ok (.bipush 10, 2) := by decide +kernel
theorem dX8_follows_35 : decode cX8_follows 35 = .ok (.iload_n 1, 1) := by decide +kernel
theorem dX8_follows_36 : decode cX8_follows 36 = .ok (.imul, 1) := by decide +kernel
theorem dX8_follows_37 : decode cX8_follows 37 = .ok (.iadd, 1) := by decide +kernel
theorem dX8_follows_38 : decode cX8_follows 38 = .ok (.iload_n 1, 1) := by decide +kernel
theorem dX8_follows_39 : decode cX8_follows 39 = .ok (.iconst 0, 1) := by decide +kernel
theorem dX8_follows_40 : decode cX8_follows 40 = .ok (.invokevirtual 225, 3) := by decide +kernel
theorem dX8_follows_43 : decode cX8_follows 43 = .ok (.ifCond .eq 7, 3) := by decide +kernel
theorem dX8_follows_46 : decode cX8_follows 46 = .ok (.iconst 1, 1) := by decide +kernel
theorem dX8_follows_47 : decode cX8_follows 47 = .ok (.goto 4, 3) := by decide +kernel
theorem dX8_follows_50 : decode cX8_follows 50 = .ok (.iconst 0, 1) := by decide +kernel
theorem dX8_follows_51 : decode cX8_follows 51 = .ok (.invokevirtual 81, 3) := by decide +kernel
theorem dX8_follows_54 : decode cX8_follows 54 = .ok (.ireturn, 1) := by decide +kernel
theorem dX8_verdict_0 : decode cX8_verdict 0 = .ok (.aload_n 0, 1) := by decide +kernel
theorem dX8_verdict_1 : decode cX8_verdict 1 = .ok (.invokevirtual 171, 3) := by decide +kernel
theorem dX8_verdict_4 : decode cX8_verdict 4 = .ok (.ifCond .ne 6, 3) := by decide +kernel
theorem dX8_verdict_7 : decode cX8_verdict 7 = .ok (.ldc 174, 2) := by decide +kernel
theorem dX8_verdict_9 : decode cX8_verdict 9 = .ok (.ireturn, 1) := by decide +kernel
theorem dX8_verdict_10 : decode cX8_verdict 10 = .ok (.aload_n 0, 1) := by decide +kernel
theorem dX8_verdict_11 : decode cX8_verdict 11 = .ok (.invokevirtual 222, 3) := by decide +kernel
theorem dX8_verdict_14 : decode cX8_verdict 14 = .ok (.ifCond .eq 10, 3) := by decide +kernel
theorem dX8_verdict_17 : decode cX8_verdict 17 = .ok (.aload_n 0, 1) := by decide +kernel
theorem dX8_verdict_18 : decode cX8_verdict 18 = .ok (.bipush 6, 2) := by decide +kernel
theorem dX8_verdict_20 : decode cX8_verdict 20 = .ok (.invokevirtual 77, 3) := by decide +kernel
theorem dX8_verdict_23 : decode cX8_verdict 23 = .ok (.ireturn, 1) := by decide +kernel
theorem dX8_verdict_24 : decode cX8_verdict 24 = .ok (.iconst 0, 1) := by decide +kernel
theorem dX8_verdict_25 : decode cX8_verdict 25 = .ok (.istore_n 1, 1) := by decide +kernel
theorem dX8_verdict_26 : decode cX8_verdict 26 = .ok (.iconst 0, 1) := by decide +kernel
theorem dX8_verdict_27 : decode cX8_verdict 27 = .ok (.istore_n 2, 1) := by decide +kernel
theorem dX8_verdict_28 : decode cX8_verdict 28 = .ok (.iload_n 2, 1) := by decide +kernel
theorem dX8_verdict_29 : decode cX8_verdict 29 = .ok (.bipush 30, 2) := by decide +kernel
theorem dX8_verdict_31 : decode cX8_verdict 31 = .ok (.if_icmp .ge 59, 3) := by decide +kernel
theorem dX8_verdict_34 : decode cX8_verdict 34 = .ok (.iload_n 1, 1) := by decide +kernel
theorem dX8_verdict_35 : decode cX8_verdict 35 = .ok (.ifCond .ne 43, 3) := by decide +kernel
theorem dX8_verdict_38 : decode cX8_verdict 38 = .ok (.aload_n 0, 1) := by decide +kernel
theorem dX8_verdict_39 : decode cX8_verdict 39 = .ok (.iload_n 2, 1) := by decide +kernel
theorem dX8_verdict_40 : decode cX8_verdict 40 = .ok (.invokevirtual 175, 3) := by decide +kernel
theorem dX8_verdict_43 : decode cX8_verdict 43 = .ok (.ifCond .eq 39, 3) := by decide +kernel
theorem dX8_verdict_46 : decode cX8_verdict 46 = .ok (.aload_n 0, 1) := by decide +kernel
theorem dX8_verdict_47 : decode cX8_verdict 47 = .ok (.getfield 25, 3) := by decide +kernel
theorem dX8_verdict_50 : decode cX8_verdict 50 = .ok (.bipush 12, 2) := by decide +kernel
theorem dX8_verdict_52 : decode cX8_verdict 52 = .ok (.bipush 10, 2) := by decide +kernel
theorem dX8_verdict_54 : decode cX8_verdict 54 = .ok (.iload_n 2, 1) := by decide +kernel
theorem dX8_verdict_55 : decode cX8_verdict 55 = .ok (.imul, 1) := by decide +kernel
theorem dX8_verdict_56 : decode cX8_verdict 56 = .ok (.iadd, 1) := by decide +kernel
theorem dX8_verdict_57 : decode cX8_verdict 57 = .ok (.iconst 1, 1) := by decide +kernel
theorem dX8_verdict_58 : decode cX8_verdict 58 = .ok (.iadd, 1) := by decide +kernel
theorem dX8_verdict_59 : decode cX8_verdict 59 = .ok (.laload, 1) := by decide +kernel
theorem dX8_verdict_60 : decode cX8_verdict 60 = .ok (.aload_n 0, 1) := by decide +kernel
theorem dX8_verdict_61 : decode cX8_verdict 61 = .ok (.getfield 25, 3) := by decide +kernel
theorem dX8_verdict_64 : decode cX8_verdict 64 = .ok (.bipush 12, 2) := by decide +kernel
theorem dX8_verdict_66 : decode cX8_verdict 66 = .ok (.bipush 10, 2) := by decide +kernel
theorem dX8_verdict_68 : decode cX8_verdict 68 = .ok (.iload_n 2, 1) := by decide +kernel
theorem dX8_verdict_69 : decode cX8_verdict 69 = .ok (.imul, 1) := by decide +kernel
theorem dX8_verdict_70 : decode cX8_verdict 70 = .ok (.iadd, 1) := by decide +kernel
theorem dX8_verdict_71 : decode cX8_verdict 71 = .ok (.invokestatic 196, 3) := by decide +kernel
theorem dX8_verdict_74 : decode cX8_verdict 74 = .ok (.lcmp, 1) := by decide +kernel
theorem dX8_verdict_75 : decode cX8_verdict 75 = .ok (.ifCond .le 7, 3) := by decide +kernel
theorem dX8_verdict_78 : decode cX8_verdict 78 = .ok (.iconst 1, 1) := by decide +kernel
theorem dX8_verdict_79 : decode cX8_verdict 79 = .ok (.goto 4, 3) := by decide +kernel
theorem dX8_verdict_82 : decode cX8_verdict 82 = .ok (.iconst 0, 1) := by decide +kernel
theorem dX8_verdict_83 : decode cX8_verdict 83 = .ok (.istore_n 1, 1) := by decide +kernel
theorem dX8_verdict_84 : decode cX8_verdict 84 = .ok (.iinc 2 1, 3) := by decide +kernel
theorem dX8_verdict_87 : decode cX8_verdict 87 = .ok (.goto (-59), 3) := by decide +kernel
theorem dX8_verdict_90 : decode cX8_verdict 90 = .ok (.aload_n 0, 1) := by decide +kernel
theorem dX8_verdict_91 : decode cX8_verdict 91 = .ok (.iload_n 1, 1) := by decide +kernel
theorem dX8_verdict_92 : decode cX8_verdict 92 = .ok (.ifCond .ne 7, 3) := by decide +kernel
theorem dX8_verdict_95 : decode cX8_verdict 95 = .ok (.iconst 0, 1) := by decide +kernel
theorem dX8_verdict_96 : decode cX8_verdict 96 = .ok (.goto 22, 3) := by decide +kernel
theorem dX8_verdict_99 : decode cX8_verdict 99 = .ok (.aload_n 0, 1) := by decide +kernel
theorem dX8_verdict_100 : decode cX8_verdict 100 = .ok (.getfield 25, 3) := by decide +kernel
theorem dX8_verdict_103 : decode cX8_verdict 103 = .ok (.bipush 8, 2) := by decide +kernel
theorem dX8_verdict_105 : decode cX8_verdict 105 = .ok (.laload, 1) := by decide +kernel
theorem dX8_verdict_106 : decode cX8_verdict 106 = .ok (.ldc2_w 61, 3) := by decide +kernel
theorem dX8_verdict_109 : decode cX8_verdict 109 = .ok (.lcmp, 1) := by decide +kernel
theorem dX8_verdict_110 : decode cX8_verdict 110 = .ok (.ifCond .ne 7, 3) := by decide +kernel
theorem dX8_verdict_113 : decode cX8_verdict 113 = .ok (.iconst 1, 1) := by decide +kernel
theorem dX8_verdict_114 : decode cX8_verdict 114 = .ok (.goto 4, 3) := by decide +kernel
theorem dX8_verdict_117 : decode cX8_verdict 117 = .ok (.iconst 2, 1) := by decide +kernel
theorem dX8_verdict_118 : decode cX8_verdict 118 = .ok (.invokevirtual 81, 3) := by decide +kernel
theorem dX8_verdict_121 : decode cX8_verdict 121 = .ok (.ireturn, 1) := by decide +kernel
theorem dX8_price_0 : decode cX8_price 0 = .ok (.iload_n 1, 1) := by decide +kernel
theorem dX8_price_1 : decode cX8_price 1 = .ok (.iconst 0, 1) := by decide +kernel
theorem dX8_price_2 : decode cX8_price 2 = .ok (.bipush 7, 2) := by decide +kernel
theorem dX8_price_4 : decode cX8_price 4 = .ok (.invokestatic 68, 3) := by decide +kernel
theorem dX8_price_7 : decode cX8_price 7 = .ok (.ifCond .eq 13, 3) := by decide +kernel
theorem dX8_price_10 : decode cX8_price 10 = .ok (.aload_n 0, 1) := by decide +kernel
theorem dX8_price_11 : decode cX8_price 11 = .ok (.getfield 25, 3) := by decide +kernel
theorem dX8_price_14 : decode cX8_price 14 = .ok (.iload_n 1, 1) := by decide +kernel
theorem dX8_price_15 : decode cX8_price 15 = .ok (.laload, 1) := by decide +kernel
theorem dX8_price_16 : decode cX8_price 16 = .ok (.l2i, 1) := by decide +kernel
theorem dX8_price_17 : decode cX8_price 17 = .ok (.goto 5, 3) := by decide +kernel
theorem dX8_price_20 : decode cX8_price 20 = .ok (.ldc 76, 2) := by decide +kernel
theorem dX8_price_22 : decode cX8_price 22 = .ok (.ireturn, 1) := by decide +kernel
theorem dX8_image_0 : decode cX8_image 0 = .ok (.iload_n 1, 1) := by decide +kernel
theorem dX8_image_1 : decode cX8_image 1 = .ok (.iconst 0, 1) := by decide +kernel
theorem dX8_image_2 : decode cX8_image 2 = .ok (.iconst 1, 1) := by decide +kernel
theorem dX8_image_3 : decode cX8_image 3 = .ok (.invokestatic 68, 3) := by decide +kernel
theorem dX8_image_6 : decode cX8_image 6 = .ok (.ifCond .ne 6, 3) := by decide +kernel
theorem dX8_image_9 : decode cX8_image 9 = .ok (.ldc 76, 2) := by decide +kernel
theorem dX8_image_11 : decode cX8_image 11 = .ok (.ireturn, 1) := by decide +kernel
theorem dX8_image_12 : decode cX8_image 12 = .ok (.aload_n 0, 1) := by decide +kernel
theorem dX8_image_13 : decode cX8_image 13 = .ok (.invokevirtual 171, 3) := by decide +kernel
theorem dX8_image_16 : decode cX8_image 16 = .ok (.ifCond .ne 6, 3) := by decide +kernel
theorem dX8_image_19 : decode cX8_image 19 = .ok (.ldc 174, 2) := by decide +kernel
theorem dX8_image_21 : decode cX8_image 21 = .ok (.ireturn, 1) := by decide +kernel
theorem dX8_image_22 : decode cX8_image 22 = .ok (.aload_n 0, 1) := by decide +kernel
theorem dX8_image_23 : decode cX8_image 23 = .ok (.getfield 25, 3) := by decide +kernel
theorem dX8_image_26 : decode cX8_image 26 = .ok (.iconst 0, 1) := by decide +kernel
theorem dX8_image_27 : decode cX8_image 27 = .ok (.aload_n 0, 1) := by decide +kernel
theorem dX8_image_28 : decode cX8_image 28 = .ok (.getfield 35, 3) := by decide +kernel
theorem dX8_image_31 : decode cX8_image 31 = .ok (.sipush 312, 3) := by decide +kernel
theorem dX8_image_34 : decode cX8_image 34 = .ok (.iload_n 1, 1) := by decide +kernel
theorem dX8_image_35 : decode cX8_image 35 = .ok (.imul, 1) := by decide +kernel
theorem dX8_image_36 : decode cX8_image 36 = .ok (.sipush 312, 3) := by decide +kernel
theorem dX8_image_39 : decode cX8_image 39 = .ok (.invokestatic 154, 3) := by decide +kernel
theorem dX8_image_42 : decode cX8_image 42 = .ok (.aload_n 0, 1) := by decide +kernel
theorem dX8_image_43 : decode cX8_image 43 = .ok (.getfield 38, 3) := by decide +kernel
theorem dX8_image_46 : decode cX8_image 46 = .ok (.iload_n 1, 1) := by decide +kernel
theorem dX8_image_47 : decode cX8_image 47 = .ok (.iconst 1, 1) := by decide +kernel
theorem dX8_image_48 : decode cX8_image 48 = .ok (.bastore, 1) := by decide +kernel
theorem dX8_image_49 : decode cX8_image 49 = .ok (.aload_n 0, 1) := by decide +kernel
theorem dX8_image_50 : decode cX8_image 50 = .ok (.getfield 25, 3) := by decide +kernel
theorem dX8_image_53 : decode cX8_image 53 = .ok (.bipush 10, 2) := by decide +kernel
theorem dX8_image_55 : decode cX8_image 55 = .ok (.laload, 1) := by decide +kernel
theorem dX8_image_56 : decode cX8_image 56 = .ok (.l2i, 1) := by decide +kernel
theorem dX8_image_57 : decode cX8_image 57 = .ok (.invokestatic 255, 3) := by decide +kernel
theorem dX8_image_60 : decode cX8_image 60 = .ok (.ireturn, 1) := by decide +kernel
theorem dX8_restore_0 : decode cX8_restore 0 = .ok (.iload_n 1, 1) := by decide +kernel
theorem dX8_restore_1 : decode cX8_restore 1 = .ok (.iconst 0, 1) := by decide +kernel
theorem dX8_restore_2 : decode cX8_restore 2 = .ok (.iconst 1, 1) := by decide +kernel
theorem dX8_restore_3 : decode cX8_restore 3 = .ok (.invokestatic 68, 3) := by decide +kernel
theorem dX8_restore_6 : decode cX8_restore 6 = .ok (.ifCond .ne 6, 3) := by decide +kernel
theorem dX8_restore_9 : decode cX8_restore 9 = .ok (.ldc 76, 2) := by decide +kernel
theorem dX8_restore_11 : decode cX8_restore 11 = .ok (.ireturn, 1) := by decide +kernel
theorem dX8_restore_12 : decode cX8_restore 12 = .ok (.aload_n 0, 1) := by decide +kernel
theorem dX8_restore_13 : decode cX8_restore 13 = .ok (.getfield 38, 3) := by decide +kernel
theorem dX8_restore_16 : decode cX8_restore 16 = .ok (.iload_n 1, 1) := by decide +kernel
theorem dX8_restore_17 : decode cX8_restore 17 = .ok (.baload, 1) := by decide +kernel
theorem dX8_restore_18 : decode cX8_restore 18 = .ok (.ifCond .ne 6, 3) := by decide +kernel
theorem dX8_restore_21 : decode cX8_restore 21 = .ok (.ldc 174, 2) := by decide +kernel
theorem dX8_restore_23 : decode cX8_restore 23 = .ok (.ireturn, 1) := by decide +kernel
theorem dX8_restore_24 : decode cX8_restore 24 = .ok (.aload_n 0, 1) := by decide +kernel
theorem dX8_restore_25 : decode cX8_restore 25 = .ok (.getfield 35, 3) := by decide +kernel
theorem dX8_restore_28 : decode cX8_restore 28 = .ok (.sipush 312, 3) := by decide +kernel
theorem dX8_restore_31 : decode cX8_restore 31 = .ok (.iload_n 1, 1) := by decide +kernel
theorem dX8_restore_32 : decode cX8_restore 32 = .ok (.imul, 1) := by decide +kernel
theorem dX8_restore_33 : decode cX8_restore 33 = .ok (.aload_n 0, 1) := by decide +kernel
theorem dX8_restore_34 : decode cX8_restore 34 = .ok (.getfield 25, 3) := by decide +kernel
theorem dX8_restore_37 : decode cX8_restore 37 = .ok (.iconst 0, 1) := by decide +kernel
theorem dX8_restore_38 : decode cX8_restore 38 = .ok (.sipush 312, 3) := by decide +kernel
theorem dX8_restore_41 : decode cX8_restore 41 = .ok (.invokestatic 154, 3) := by decide +kernel
theorem dX8_restore_44 : decode cX8_restore 44 = .ok (.aload_n 0, 1) := by decide +kernel
theorem dX8_restore_45 : decode cX8_restore 45 = .ok (.iconst 0, 1) := by decide +kernel
theorem dX8_restore_46 : decode cX8_restore 46 = .ok (.putfield 163, 3) := by decide +kernel
theorem dX8_restore_49 : decode cX8_restore 49 = .ok (.aload_n 0, 1) := by decide +kernel
theorem dX8_restore_50 : decode cX8_restore 50 = .ok (.getfield 25, 3) := by decide +kernel
theorem dX8_restore_53 : decode cX8_restore 53 = .ok (.bipush 10, 2) := by decide +kernel
theorem dX8_restore_55 : decode cX8_restore 55 = .ok (.laload, 1) := by decide +kernel
theorem dX8_restore_56 : decode cX8_restore 56 = .ok (.l2i, 1) := by decide +kernel
theorem dX8_restore_57 : decode cX8_restore 57 = .ok (.invokestatic 255, 3) := by decide +kernel
theorem dX8_restore_60 : decode cX8_restore 60 = .ok (.ireturn, 1) := by decide +kernel
theorem dX8_kindIn_0 : decode cX8_kindIn 0 = .ok (.aload_n 0, 1) := by decide +kernel
theorem dX8_kindIn_1 : decode cX8_kindIn 1 = .ok (.getfield 25, 3) := by decide +kernel
theorem dX8_kindIn_4 : decode cX8_kindIn 4 = .ok (.bipush 12, 2) := by decide +kernel
theorem dX8_kindIn_6 : decode cX8_kindIn 6 = .ok (.bipush 10, 2) := by decide +kernel
theorem dX8_kindIn_8 : decode cX8_kindIn 8 = .ok (.iload_n 1, 1) := by decide +kernel
theorem dX8_kindIn_9 : decode cX8_kindIn 9 = .ok (.imul, 1) := by decide +kernel
theorem dX8_kindIn_10 : decode cX8_kindIn 10 = .ok (.iadd, 1) := by decide +kernel
theorem dX8_kindIn_11 : decode cX8_kindIn 11 = .ok (.laload, 1) := by decide +kernel
theorem dX8_kindIn_12 : decode cX8_kindIn 12 = .ok (.l2i, 1) := by decide +kernel
theorem dX8_kindIn_13 : decode cX8_kindIn 13 = .ok (.ireturn, 1) := by decide +kernel
theorem dX8_variablesOf_0 : decode cX8_variablesOf 0 = .ok (.iconst 0, 1) := by decide +kernel
theorem dX8_variablesOf_1 : decode cX8_variablesOf 1 = .ok (.istore_n 2, 1) := by decide +kernel
theorem dX8_variablesOf_2 : decode cX8_variablesOf 2 = .ok (.iconst 0, 1) := by decide +kernel
theorem dX8_variablesOf_3 : decode cX8_variablesOf 3 = .ok (.istore_n 3, 1) := by decide +kernel
theorem dX8_variablesOf_4 : decode cX8_variablesOf 4 = .ok (.iload_n 3, 1) := by decide +kernel
theorem dX8_variablesOf_5 : decode cX8_variablesOf 5 = .ok (.bipush 8, 2) := by decide +kernel
theorem dX8_variablesOf_7 : decode cX8_variablesOf 7 = .ok (.if_icmp .ge 38, 3) := by decide +kernel
theorem dX8_variablesOf_10 : decode cX8_variablesOf 10 = .ok (.iload_n 2, 1) := by decide +kernel
theorem dX8_variablesOf_11 : decode cX8_variablesOf 11 = .ok (.aload_n 0, 1) := by decide +kernel
theorem dX8_variablesOf_12 : decode cX8_variablesOf 12 = .ok (.getfield 25, 3) := by decide +kernel
theorem dX8_variablesOf_15 : decode cX8_variablesOf 15 = .ok (.bipush 12, 2) := by decide +kernel
theorem dX8_variablesOf_17 : decode cX8_variablesOf 17 = .ok (.bipush 10, 2) := by decide +kernel
theorem dX8_variablesOf_19 : decode cX8_variablesOf 19 = .ok (.iload_n 1, 1) := by decide +kernel
theorem dX8_variablesOf_20 : decode cX8_variablesOf 20 = .ok (.imul, 1) := by decide +kernel
theorem dX8_variablesOf_21 : decode cX8_variablesOf 21 = .ok (.iadd, 1) := by decide +kernel
theorem dX8_variablesOf_22 : decode cX8_variablesOf 22 = .ok (.iconst 2, 1) := by decide +kernel
theorem dX8_variablesOf_23 : decode cX8_variablesOf 23 = .ok (.iadd, 1) := by decide +kernel
theorem dX8_variablesOf_24 : decode cX8_variablesOf 24 = .ok (.iload_n 3, 1) := by decide +kernel
theorem dX8_variablesOf_25 : decode cX8_variablesOf 25 = .ok (.iadd, 1) := by decide +kernel
theorem dX8_variablesOf_26 : decode cX8_variablesOf 26 = .ok (.laload, 1) := by decide +kernel
theorem dX8_variablesOf_27 : decode cX8_variablesOf 27 = .ok (.lconst 0, 1) := by decide +kernel
theorem dX8_variablesOf_28 : decode cX8_variablesOf 28 = .ok (.lcmp, 1) := by decide +kernel
theorem dX8_variablesOf_29 : decode cX8_variablesOf 29 = .ok (.ifCond .eq 7, 3) := by decide +kernel
theorem dX8_variablesOf_32 : decode cX8_variablesOf 32 = .ok (.iconst 1, 1) := by decide +kernel
theorem dX8_variablesOf_33 : decode cX8_variablesOf 33 = .ok (.goto 4, 3) := by decide +kernel
theorem dX8_variablesOf_36 : decode cX8_variablesOf 36 = .ok (.iconst 0, 1) := by decide +kernel
theorem dX8_variablesOf_37 : decode cX8_variablesOf 37 = .ok (.iadd, 1) := by decide +kernel
theorem dX8_variablesOf_38 : decode cX8_variablesOf 38 = .ok (.istore_n 2, 1) := by decide +kernel
theorem dX8_variablesOf_39 : decode cX8_variablesOf 39 = .ok (.iinc 3 1, 3) := by decide +kernel
theorem dX8_variablesOf_42 : decode cX8_variablesOf 42 = .ok (.goto (-38), 3) := by decide +kernel
theorem dX8_variablesOf_45 : decode cX8_variablesOf 45 = .ok (.iload_n 2, 1) := by decide +kernel
theorem dX8_variablesOf_46 : decode cX8_variablesOf 46 = .ok (.ireturn, 1) := by decide +kernel
theorem dX8_leastOf_0 : decode cX8_leastOf 0 = .ok (.iconst 0, 1) := by decide +kernel
theorem dX8_leastOf_1 : decode cX8_leastOf 1 = .ok (.istore_n 2, 1) := by decide +kernel
theorem dX8_leastOf_2 : decode cX8_leastOf 2 = .ok (.iload_n 2, 1) := by decide +kernel
theorem dX8_leastOf_3 : decode cX8_leastOf 3 = .ok (.bipush 8, 2) := by decide +kernel
theorem dX8_leastOf_5 : decode cX8_leastOf 5 = .ok (.if_icmp .ge 32, 3) := by decide +kernel
theorem dX8_leastOf_8 : decode cX8_leastOf 8 = .ok (.aload_n 0, 1) := by decide +kernel
theorem dX8_leastOf_9 : decode cX8_leastOf 9 = .ok (.getfield 25, 3) := by decide +kernel
theorem dX8_leastOf_12 : decode cX8_leastOf 12 = .ok (.bipush 12, 2) := by decide +kernel
theorem dX8_leastOf_14 : decode cX8_leastOf 14 = .ok (.bipush 10, 2) := by decide +kernel
theorem dX8_leastOf_16 : decode cX8_leastOf 16 = .ok (.iload_n 1, 1) := by decide +kernel
theorem dX8_leastOf_17 : decode cX8_leastOf 17 = .ok (.imul, 1) := by decide +kernel
theorem dX8_leastOf_18 : decode cX8_leastOf 18 = .ok (.iadd, 1) := by decide +kernel
theorem dX8_leastOf_19 : decode cX8_leastOf 19 = .ok (.iconst 2, 1) := by decide +kernel
theorem dX8_leastOf_20 : decode cX8_leastOf 20 = .ok (.iadd, 1) := by decide +kernel
theorem dX8_leastOf_21 : decode cX8_leastOf 21 = .ok (.iload_n 2, 1) := by decide +kernel
theorem dX8_leastOf_22 : decode cX8_leastOf 22 = .ok (.iadd, 1) := by decide +kernel
theorem dX8_leastOf_23 : decode cX8_leastOf 23 = .ok (.laload, 1) := by decide +kernel
theorem dX8_leastOf_24 : decode cX8_leastOf 24 = .ok (.lconst 0, 1) := by decide +kernel
theorem dX8_leastOf_25 : decode cX8_leastOf 25 = .ok (.lcmp, 1) := by decide +kernel
theorem dX8_leastOf_26 : decode cX8_leastOf 26 = .ok (.ifCond .eq 5, 3) := by decide +kernel
theorem dX8_leastOf_29 : decode cX8_leastOf 29 = .ok (.iload_n 2, 1) := by decide +kernel
theorem dX8_leastOf_30 : decode cX8_leastOf 30 = .ok (.ireturn, 1) := by decide +kernel
theorem dX8_leastOf_31 : decode cX8_leastOf 31 = .ok (.iinc 2 1, 3) := by decide +kernel
theorem dX8_leastOf_34 : decode cX8_leastOf 34 = .ok (.goto (-32), 3) := by decide +kernel
theorem dX8_leastOf_37 : decode cX8_leastOf 37 = .ok (.bipush 8, 2) := by decide +kernel
theorem dX8_leastOf_39 : decode cX8_leastOf 39 = .ok (.ireturn, 1) := by decide +kernel
theorem dX8_kind_0 : decode cX8_kind 0 = .ok (.aload_n 0, 1) := by decide +kernel
theorem dX8_kind_1 : decode cX8_kind 1 = .ok (.iload_n 1, 1) := by decide +kernel
theorem dX8_kind_2 : decode cX8_kind 2 = .ok (.invokevirtual 175, 3) := by decide +kernel
theorem dX8_kind_5 : decode cX8_kind 5 = .ok (.ifCond .eq 11, 3) := by decide +kernel
theorem dX8_kind_8 : decode cX8_kind 8 = .ok (.aload_n 0, 1) := by decide +kernel
theorem dX8_kind_9 : decode cX8_kind 9 = .ok (.iload_n 1, 1) := by decide +kernel
theorem dX8_kind_10 : decode cX8_kind 10 = .ok (.invokevirtual 260, 3) := by decide +kernel
theorem dX8_kind_13 : decode cX8_kind 13 = .ok (.goto 5, 3) := by decide +kernel
theorem dX8_kind_16 : decode cX8_kind 16 = .ok (.ldc 76, 2) := by decide +kernel
theorem dX8_kind_18 : decode cX8_kind 18 = .ok (.ireturn, 1) := by decide +kernel
theorem dX8_as_0 : decode cX8_as 0 = .ok (.aload_n 0, 1) := by decide +kernel
theorem dX8_as_1 : decode cX8_as 1 = .ok (.iload_n 1, 1) := by decide +kernel
theorem dX8_as_2 : decode cX8_as 2 = .ok (.invokevirtual 175, 3) := by decide +kernel
theorem dX8_as_5 : decode cX8_as 5 = .ok (.ifCond .eq 12, 3) := by decide +kernel
theorem dX8_as_8 : decode cX8_as 8 = .ok (.iload_n 2, 1) := by decide +kernel
theorem dX8_as_9 : decode cX8_as 9 = .ok (.iconst 0, 1) := by decide +kernel
theorem dX8_as_10 : decode cX8_as 10 = .ok (.iconst 5, 1) := by decide +kernel
theorem dX8_as_11 : decode cX8_as 11 = .ok (.invokestatic 68, 3) := by decide +kernel
theorem dX8_as_14 : decode cX8_as 14 = .ok (.ifCond .ne 6, 3) := by decide +kernel
theorem dX8_as_17 : decode cX8_as 17 = .ok (.ldc 76, 2) := by decide +kernel
theorem dX8_as_19 : decode cX8_as 19 = .ok (.ireturn, 1) := by decide +kernel
theorem dX8_as_20 : decode cX8_as 20 = .ok (.aload_n 0, 1) := by decide +kernel
theorem dX8_as_21 : decode cX8_as 21 = .ok (.iload_n 1, 1) := by decide +kernel
theorem dX8_as_22 : decode cX8_as 22 = .ok (.invokevirtual 260, 3) := by decide +kernel
theorem dX8_as_25 : decode cX8_as 25 = .ok (.istore_n 3, 1) := by decide +kernel
theorem dX8_as_26 : decode cX8_as 26 = .ok (.iload_n 2, 1) := by decide +kernel
theorem dX8_as_27 : decode cX8_as 27 = .ok (.ifCond .eq 28, 3) := by decide +kernel
theorem dX8_as_30 : decode cX8_as 30 = .ok (.iload_n 2, 1) := by decide +kernel
theorem dX8_as_31 : decode cX8_as 31 = .ok (.iload_n 3, 1) := by decide +kernel
theorem dX8_as_32 : decode cX8_as 32 = .ok (.if_icmp .eq 23, 3) := by decide +kernel
theorem dX8_as_35 : decode cX8_as 35 = .ok (.iload_n 2, 1) := by decide +kernel
theorem dX8_as_36 : decode cX8_as 36 = .ok (.iconst 1, 1) := by decide +kernel
theorem dX8_as_37 : decode cX8_as 37 = .ok (.if_icmp .ne 8, 3) := by decide +kernel
theorem dX8_as_40 : decode cX8_as 40 = .ok (.iload_n 3, 1) := by decide +kernel
theorem dX8_as_41 : decode cX8_as 41 = .ok (.iconst 4, 1) := by decide +kernel
theorem dX8_as_42 : decode cX8_as 42 = .ok (.if_icmp .lt 13, 3) := by decide +kernel
theorem dX8_as_45 : decode cX8_as 45 = .ok (.iload_n 2, 1) := by decide +kernel
theorem dX8_as_46 : decode cX8_as 46 = .ok (.iconst 4, 1) := by decide +kernel
theorem dX8_as_47 : decode cX8_as 47 = .ok (.if_icmp .ne 12, 3) := by decide +kernel
theorem dX8_as_50 : decode cX8_as 50 = .ok (.iload_n 3, 1) := by decide +kernel
theorem dX8_as_51 : decode cX8_as 51 = .ok (.iconst 5, 1) := by decide +kernel
theorem dX8_as_52 : decode cX8_as 52 = .ok (.if_icmp .ne 7, 3) := by decide +kernel
theorem dX8_as_55 : decode cX8_as 55 = .ok (.iconst 1, 1) := by decide +kernel
theorem dX8_as_56 : decode cX8_as 56 = .ok (.goto 4, 3) := by decide +kernel
theorem dX8_as_59 : decode cX8_as 59 = .ok (.iconst 0, 1) := by decide +kernel
theorem dX8_as_60 : decode cX8_as 60 = .ok (.istore 4, 2) := by decide +kernel
theorem dX8_as_62 : decode cX8_as 62 = .ok (.iload 4, 2) := by decide +kernel
theorem dX8_as_64 : decode cX8_as 64 = .ok (.ifCond .eq 11, 3) := by decide +kernel
theorem dX8_as_67 : decode cX8_as 67 = .ok (.aload_n 0, 1) := by decide +kernel
theorem dX8_as_68 : decode cX8_as 68 = .ok (.iload_n 1, 1) := by decide +kernel
theorem dX8_as_69 : decode cX8_as 69 = .ok (.invokevirtual 81, 3) := by decide +kernel
theorem dX8_as_72 : decode cX8_as 72 = .ok (.goto 8, 3) := by decide +kernel
theorem dX8_as_75 : decode cX8_as 75 = .ok (.aload_n 0, 1) := by decide +kernel
theorem dX8_as_76 : decode cX8_as 76 = .ok (.iconst 3, 1) := by decide +kernel
theorem dX8_as_77 : decode cX8_as 77 = .ok (.invokevirtual 77, 3) := by decide +kernel
theorem dX8_as_80 : decode cX8_as 80 = .ok (.ireturn, 1) := by decide +kernel
theorem dX8_traces_0 : decode cX8_traces 0 = .ok (.aload_n 0, 1) := by decide +kernel
theorem dX8_traces_1 : decode cX8_traces 1 = .ok (.getfield 263, 3) := by decide +kernel
theorem dX8_traces_4 : decode cX8_traces 4 = .ok (.bipush 16, 2) := by decide +kernel
theorem dX8_traces_6 : decode cX8_traces 6 = .ok (.if_icmp .ge 23, 3) := by decide +kernel
theorem dX8_traces_9 : decode cX8_traces 9 = .ok (.aload_n 0, 1) := by decide +kernel
theorem dX8_traces_10 : decode cX8_traces 10 = .ok (.getfield 57, 3) := by decide +kernel
theorem dX8_traces_13 : decode cX8_traces 13 = .ok (.aload_n 0, 1) := by decide +kernel
theorem dX8_traces_14 : decode cX8_traces 14 = .ok (.getfield 263, 3) := by decide +kernel
theorem dX8_traces_17 : decode cX8_traces 17 = .ok (.iload_n 1, 1) := by decide +kernel
theorem dX8_traces_18 : decode cX8_traces 18 = .ok (.iastore, 1) := by decide +kernel
theorem dX8_traces_19 : decode cX8_traces 19 = .ok (.aload_n 0, 1) := by decide +kernel
theorem dX8_traces_20 : decode cX8_traces 20 = .ok (.dup, 1) := by decide +kernel
theorem dX8_traces_21 : decode cX8_traces 21 = .ok (.getfield 263, 3) := by decide +kernel
theorem dX8_traces_24 : decode cX8_traces 24 = .ok (.iconst 1, 1) := by decide +kernel
theorem dX8_traces_25 : decode cX8_traces 25 = .ok (.iadd, 1) := by decide +kernel
theorem dX8_traces_26 : decode cX8_traces 26 = .ok (.putfield 263, 3) := by decide +kernel
theorem dX8_traces_29 : decode cX8_traces 29 = .ok (.return_, 1) := by decide +kernel
theorem dX8_givenMark_0 : decode cX8_givenMark 0 = .ok (.aload_n 0, 1) := by decide +kernel
theorem dX8_givenMark_1 : decode cX8_givenMark 1 = .ok (.iload_n 1, 1) := by decide +kernel
theorem dX8_givenMark_2 : decode cX8_givenMark 2 = .ok (.invokevirtual 260, 3) := by decide +kernel
theorem dX8_givenMark_5 : decode cX8_givenMark 5 = .ok (.istore_n 2, 1) := by decide +kernel
theorem dX8_givenMark_6 : decode cX8_givenMark 6 = .ok (.iload_n 2, 1) := by decide +kernel
theorem dX8_givenMark_7 : decode cX8_givenMark 7 = .ok (.iconst 1, 1) := by decide +kernel
theorem dX8_givenMark_8 : decode cX8_givenMark 8 = .ok (.if_icmp .eq 19, 3) := by decide +kernel
theorem dX8_givenMark_11 : decode cX8_givenMark 11 = .ok (.aload_n 0, 1) := by decide +kernel
theorem dX8_givenMark_12 : decode cX8_givenMark 12 = .ok (.iload_n 2, 1) := by decide +kernel
theorem dX8_givenMark_13 : decode cX8_givenMark 13 = .ok (.iconst 2, 1) := by decide +kernel
theorem dX8_givenMark_14 : decode cX8_givenMark 14 = .ok (.if_icmp .ne 8, 3) := by decide +kernel
theorem dX8_givenMark_17 : decode cX8_givenMark 17 = .ok (.bipush 24, 2) := by decide +kernel
theorem dX8_givenMark_19 : decode cX8_givenMark 19 = .ok (.goto 5, 3) := by decide +kernel
theorem dX8_givenMark_22 : decode cX8_givenMark 22 = .ok (.bipush 22, 2) := by decide +kernel
theorem dX8_givenMark_24 : decode cX8_givenMark 24 = .ok (.invokevirtual 266, 3) := by decide +kernel
theorem dX8_givenMark_27 : decode cX8_givenMark 27 = .ok (.aload_n 0, 1) := by decide +kernel
theorem dX8_givenMark_28 : decode cX8_givenMark 28 = .ok (.bipush 21, 2) := by decide +kernel
theorem dX8_givenMark_30 : decode cX8_givenMark 30 = .ok (.invokevirtual 266, 3) := by decide +kernel
theorem dX8_givenMark_33 : decode cX8_givenMark 33 = .ok (.aload_n 0, 1) := by decide +kernel
theorem dX8_givenMark_34 : decode cX8_givenMark 34 = .ok (.bipush 20, 2) := by decide +kernel
theorem dX8_givenMark_36 : decode cX8_givenMark 36 = .ok (.invokevirtual 266, 3) := by decide +kernel
theorem dX8_givenMark_39 : decode cX8_givenMark 39 = .ok (.iload_n 1, 1) := by decide +kernel
theorem dX8_givenMark_40 : decode cX8_givenMark 40 = .ok (.aload_n 0, 1) := by decide +kernel
theorem dX8_givenMark_41 : decode cX8_givenMark 41 = .ok (.iload_n 1, 1) := by decide +kernel
theorem dX8_givenMark_42 : decode cX8_givenMark 42 = .ok (.invokevirtual 269, 3) := by decide +kernel
theorem dX8_givenMark_45 : decode cX8_givenMark 45 = .ok (.iadd, 1) := by decide +kernel
theorem dX8_givenMark_46 : decode cX8_givenMark 46 = .ok (.istore_n 3, 1) := by decide +kernel
theorem dX8_givenMark_47 : decode cX8_givenMark 47 = .ok (.iload_n 2, 1) := by decide +kernel
theorem dX8_givenMark_48 : decode cX8_givenMark 48 = .ok (.iconst 2, 1) := by decide +kernel
theorem dX8_givenMark_49 : decode cX8_givenMark 49 = .ok (.if_icmp .ne 9, 3) := by decide +kernel
theorem dX8_givenMark_52 : decode cX8_givenMark 52 = .ok (.iconst 2, 1) := by decide +kernel
theorem dX8_givenMark_53 : decode cX8_givenMark 53 = .ok (.iload_n 3, 1) := by decide +kernel
theorem dX8_givenMark_54 : decode cX8_givenMark 54 = .ok (.imul, 1) := by decide +kernel
theorem dX8_givenMark_55 : decode cX8_givenMark 55 = .ok (.goto 17, 3) := by decide +kernel
theorem dX8_givenMark_58 : decode cX8_givenMark 58 = .ok (.iload_n 2, 1) := by decide +kernel
theorem dX8_givenMark_59 : decode cX8_givenMark 59 = .ok (.iconst 3, 1) := by decide +kernel
theorem dX8_givenMark_60 : decode cX8_givenMark 60 = .ok (.if_icmp .ne 11, 3) := by decide +kernel
theorem dX8_givenMark_63 : decode cX8_givenMark 63 = .ok (.iload_n 3, 1) := by decide +kernel
theorem dX8_givenMark_64 : decode cX8_givenMark 64 = .ok (.sipush 1000, 3) := by decide +kernel
theorem dX8_givenMark_67 : decode cX8_givenMark 67 = .ok (.isub, 1) := by decide +kernel
theorem dX8_givenMark_68 : decode cX8_givenMark 68 = .ok (.goto 4, 3) := by decide +kernel
theorem dX8_givenMark_71 : decode cX8_givenMark 71 = .ok (.iload_n 3, 1) := by decide +kernel
theorem dX8_givenMark_72 : decode cX8_givenMark 72 = .ok (.ireturn, 1) := by decide +kernel
theorem dX8_derivedSize_0 : decode cX8_derivedSize 0 = .ok (.aload_n 0, 1) := by decide +kernel
theorem dX8_derivedSize_1 : decode cX8_derivedSize 1 = .ok (.iload_n 1, 1) := by decide +kernel
theorem dX8_derivedSize_2 : decode cX8_derivedSize 2 = .ok (.invokevirtual 260, 3) := by decide +kernel
theorem dX8_derivedSize_5 : decode cX8_derivedSize 5 = .ok (.iconst 5, 1) := by decide +kernel
theorem dX8_derivedSize_6 : decode cX8_derivedSize 6 = .ok (.if_icmp .ne 7, 3) := by decide +kernel
theorem dX8_derivedSize_9 : decode cX8_derivedSize 9 = .ok (.iconst 1, 1) := by decide +kernel
theorem dX8_derivedSize_10 : decode cX8_derivedSize 10 = .ok (.goto 4, 3) := by decide +kernel
theorem dX8_derivedSize_13 : decode cX8_derivedSize 13 = .ok (.iconst 0, 1) := by decide +kernel
theorem dX8_derivedSize_14 : decode cX8_derivedSize 14 = .ok (.istore_n 2, 1) := by decide +kernel
theorem dX8_derivedSize_15 : decode cX8_derivedSize 15 = .ok (.iload_n 2, 1) := by decide +kernel
theorem dX8_derivedSize_16 : decode cX8_derivedSize 16 = .ok (.ifCond .eq 9, 3) := by decide +kernel
theorem dX8_derivedSize_19 : decode cX8_derivedSize 19 = .ok (.aload_n 0, 1) := by decide +kernel
theorem dX8_derivedSize_20 : decode cX8_derivedSize 20 = .ok (.bipush 14, 2) := by decide +kernel
theorem dX8_derivedSize_22 : decode cX8_derivedSize 22 = .ok (.invokevirtual 266, 3) := by decide +kernel
theorem dX8_derivedSize_25 : decode cX8_derivedSize 25 = .ok (.aload_n 0, 1) := by decide +kernel
theorem dX8_derivedSize_26 : decode cX8_derivedSize 26 = .ok (.bipush 13, 2) := by decide +kernel
theorem dX8_derivedSize_28 : decode cX8_derivedSize 28 = .ok (.invokevirtual 266, 3) := by decide +kernel
theorem dX8_derivedSize_31 : decode cX8_derivedSize 31 = .ok (.aload_n 0, 1) := by decide +kernel
theorem dX8_derivedSize_32 : decode cX8_derivedSize 32 = .ok (.bipush 10, 2) := by decide +kernel
theorem dX8_derivedSize_34 : decode cX8_derivedSize 34 = .ok (.invokevirtual 266, 3) := by decide +kernel
theorem dX8_derivedSize_37 : decode cX8_derivedSize 37 = .ok (.aload_n 0, 1) := by decide +kernel
theorem dX8_derivedSize_38 : decode cX8_derivedSize 38 = .ok (.iload_n 1, 1) := by decide +kernel
theorem dX8_derivedSize_39 : decode cX8_derivedSize 39 = .ok (.invokevirtual 272, 3) := by decide +kernel
theorem dX8_derivedSize_42 : decode cX8_derivedSize 42 = .ok (.bipush 100, 2) := by decide +kernel
theorem dX8_derivedSize_44 : decode cX8_derivedSize 44 = .ok (.isub, 1) := by decide +kernel
theorem dX8_derivedSize_45 : decode cX8_derivedSize 45 = .ok (.istore_n 3, 1) := by decide +kernel
theorem dX8_derivedSize_46 : decode cX8_derivedSize 46 = .ok (.iload_n 2, 1) := by decide +kernel
theorem dX8_derivedSize_47 : decode cX8_derivedSize 47 = .ok (.ifCond .eq 9, 3) := by decide +kernel
theorem dX8_derivedSize_50 : decode cX8_derivedSize 50 = .ok (.iconst 2, 1) := by decide +kernel
theorem dX8_derivedSize_51 : decode cX8_derivedSize 51 = .ok (.iload_n 3, 1) := by decide +kernel
theorem dX8_derivedSize_52 : decode cX8_derivedSize 52 = .ok (.imul, 1) := by decide +kernel
theorem dX8_derivedSize_53 : decode cX8_derivedSize 53 = .ok (.goto 4, 3) := by decide +kernel
theorem dX8_derivedSize_56 : decode cX8_derivedSize 56 = .ok (.iload_n 3, 1) := by decide +kernel
theorem dX8_derivedSize_57 : decode cX8_derivedSize 57 = .ok (.ireturn, 1) := by decide +kernel
theorem dX8_givenSize_0 : decode cX8_givenSize 0 = .ok (.aload_n 0, 1) := by decide +kernel
theorem dX8_givenSize_1 : decode cX8_givenSize 1 = .ok (.iload_n 1, 1) := by decide +kernel
theorem dX8_givenSize_2 : decode cX8_givenSize 2 = .ok (.invokevirtual 260, 3) := by decide +kernel
theorem dX8_givenSize_5 : decode cX8_givenSize 5 = .ok (.iconst 2, 1) := by decide +kernel
theorem dX8_givenSize_6 : decode cX8_givenSize 6 = .ok (.if_icmp .ne 7, 3) := by decide +kernel
theorem dX8_givenSize_9 : decode cX8_givenSize 9 = .ok (.iconst 1, 1) := by decide +kernel
theorem dX8_givenSize_10 : decode cX8_givenSize 10 = .ok (.goto 4, 3) := by decide +kernel
theorem dX8_givenSize_13 : decode cX8_givenSize 13 = .ok (.iconst 0, 1) := by decide +kernel
theorem dX8_givenSize_14 : decode cX8_givenSize 14 = .ok (.istore_n 2, 1) := by decide +kernel
theorem dX8_givenSize_15 : decode cX8_givenSize 15 = .ok (.iload_n 2, 1) := by decide +kernel
theorem dX8_givenSize_16 : decode cX8_givenSize 16 = .ok (.ifCond .eq 9, 3) := by decide +kernel
theorem dX8_givenSize_19 : decode cX8_givenSize 19 = .ok (.aload_n 0, 1) := by decide +kernel
theorem dX8_givenSize_20 : decode cX8_givenSize 20 = .ok (.bipush 12, 2) := by decide +kernel
theorem dX8_givenSize_22 : decode cX8_givenSize 22 = .ok (.invokevirtual 266, 3) := by decide +kernel
theorem dX8_givenSize_25 : decode cX8_givenSize 25 = .ok (.aload_n 0, 1) := by decide +kernel
theorem dX8_givenSize_26 : decode cX8_givenSize 26 = .ok (.bipush 11, 2) := by decide +kernel
theorem dX8_givenSize_28 : decode cX8_givenSize 28 = .ok (.invokevirtual 266, 3) := by decide +kernel
theorem dX8_givenSize_31 : decode cX8_givenSize 31 = .ok (.aload_n 0, 1) := by decide +kernel
theorem dX8_givenSize_32 : decode cX8_givenSize 32 = .ok (.bipush 10, 2) := by decide +kernel
theorem dX8_givenSize_34 : decode cX8_givenSize 34 = .ok (.invokevirtual 266, 3) := by decide +kernel
theorem dX8_givenSize_37 : decode cX8_givenSize 37 = .ok (.aload_n 0, 1) := by decide +kernel
theorem dX8_givenSize_38 : decode cX8_givenSize 38 = .ok (.iload_n 1, 1) := by decide +kernel
theorem dX8_givenSize_39 : decode cX8_givenSize 39 = .ok (.invokevirtual 272, 3) := by decide +kernel
theorem dX8_givenSize_42 : decode cX8_givenSize 42 = .ok (.aload_n 0, 1) := by decide +kernel
theorem dX8_givenSize_43 : decode cX8_givenSize 43 = .ok (.iload_n 1, 1) := by decide +kernel
theorem dX8_givenSize_44 : decode cX8_givenSize 44 = .ok (.invokevirtual 275, 3) := by decide +kernel
theorem dX8_givenSize_47 : decode cX8_givenSize 47 = .ok (.iadd, 1) := by decide +kernel
theorem dX8_givenSize_48 : decode cX8_givenSize 48 = .ok (.istore_n 3, 1) := by decide +kernel
theorem dX8_givenSize_49 : decode cX8_givenSize 49 = .ok (.iload_n 2, 1) := by decide +kernel
theorem dX8_givenSize_50 : decode cX8_givenSize 50 = .ok (.ifCond .eq 8, 3) := by decide +kernel
theorem dX8_givenSize_53 : decode cX8_givenSize 53 = .ok (.iload_n 3, 1) := by decide +kernel
theorem dX8_givenSize_54 : decode cX8_givenSize 54 = .ok (.ineg, 1) := by decide +kernel
theorem dX8_givenSize_55 : decode cX8_givenSize 55 = .ok (.goto 4, 3) := by decide +kernel
theorem dX8_givenSize_58 : decode cX8_givenSize 58 = .ok (.iload_n 3, 1) := by decide +kernel
theorem dX8_givenSize_59 : decode cX8_givenSize 59 = .ok (.ireturn, 1) := by decide +kernel
theorem dX8_derivedMark_0 : decode cX8_derivedMark 0 = .ok (.aload_n 0, 1) := by decide +kernel
theorem dX8_derivedMark_1 : decode cX8_derivedMark 1 = .ok (.bipush 23, 2) := by decide +kernel
theorem dX8_derivedMark_3 : decode cX8_derivedMark 3 = .ok (.invokevirtual 266, 3) := by decide +kernel
theorem dX8_derivedMark_6 : decode cX8_derivedMark 6 = .ok (.aload_n 0, 1) := by decide +kernel
theorem dX8_derivedMark_7 : decode cX8_derivedMark 7 = .ok (.bipush 20, 2) := by decide +kernel
theorem dX8_derivedMark_9 : decode cX8_derivedMark 9 = .ok (.invokevirtual 266, 3) := by decide +kernel
theorem dX8_derivedMark_12 : decode cX8_derivedMark 12 = .ok (.iload_n 1, 1) := by decide +kernel
theorem dX8_derivedMark_13 : decode cX8_derivedMark 13 = .ok (.aload_n 0, 1) := by decide +kernel
theorem dX8_derivedMark_14 : decode cX8_derivedMark 14 = .ok (.iload_n 1, 1) := by decide +kernel
theorem dX8_derivedMark_15 : decode cX8_derivedMark 15 = .ok (.invokevirtual 278, 3) := by decide +kernel
theorem dX8_derivedMark_18 : decode cX8_derivedMark 18 = .ok (.isub, 1) := by decide +kernel
theorem dX8_derivedMark_19 : decode cX8_derivedMark 19 = .ok (.ireturn, 1) := by decide +kernel
theorem dX8_ask_0 : decode cX8_ask 0 = .ok (.aload_n 0, 1) := by decide +kernel
theorem dX8_ask_1 : decode cX8_ask 1 = .ok (.iload_n 1, 1) := by decide +kernel
theorem dX8_ask_2 : decode cX8_ask 2 = .ok (.invokevirtual 175, 3) := by decide +kernel
theorem dX8_ask_5 : decode cX8_ask 5 = .ok (.ifCond .eq 12, 3) := by decide +kernel
theorem dX8_ask_8 : decode cX8_ask 8 = .ok (.iload_n 2, 1) := by decide +kernel
theorem dX8_ask_9 : decode cX8_ask 9 = .ok (.iconst 0, 1) := by decide +kernel
theorem dX8_ask_10 : decode cX8_ask 10 = .ok (.iconst 1, 1) := by decide +kernel
theorem dX8_ask_11 : decode cX8_ask 11 = .ok (.invokestatic 68, 3) := by decide +kernel
theorem dX8_ask_14 : decode cX8_ask 14 = .ok (.ifCond .ne 6, 3) := by decide +kernel
theorem dX8_ask_17 : decode cX8_ask 17 = .ok (.ldc 76, 2) := by decide +kernel
theorem dX8_ask_19 : decode cX8_ask 19 = .ok (.ireturn, 1) := by decide +kernel
theorem dX8_ask_20 : decode cX8_ask 20 = .ok (.aload_n 0, 1) := by decide +kernel
theorem dX8_ask_21 : decode cX8_ask 21 = .ok (.iconst 0, 1) := by decide +kernel
theorem dX8_ask_22 : decode cX8_ask 22 = .ok (.putfield 263, 3) := by decide +kernel
theorem dX8_ask_25 : decode cX8_ask 25 = .ok (.aload_n 0, 1) := by decide +kernel
theorem dX8_ask_26 : decode cX8_ask 26 = .ok (.iload_n 1, 1) := by decide +kernel
theorem dX8_ask_27 : decode cX8_ask 27 = .ok (.invokevirtual 260, 3) := by decide +kernel
theorem dX8_ask_30 : decode cX8_ask 30 = .ok (.iconst 4, 1) := by decide +kernel
theorem dX8_ask_31 : decode cX8_ask 31 = .ok (.if_icmp .lt 7, 3) := by decide +kernel
theorem dX8_ask_34 : decode cX8_ask 34 = .ok (.iconst 1, 1) := by decide +kernel
theorem dX8_ask_35 : decode cX8_ask 35 = .ok (.goto 4, 3) := by decide +kernel
theorem dX8_ask_38 : decode cX8_ask 38 = .ok (.iconst 0, 1) := by decide +kernel
theorem dX8_ask_39 : decode cX8_ask 39 = .ok (.istore_n 3, 1) := by decide +kernel
theorem dX8_ask_40 : decode cX8_ask 40 = .ok (.iload_n 2, 1) := by decide +kernel
theorem dX8_ask_41 : decode cX8_ask 41 = .ok (.ifCond .ne 21, 3) := by decide +kernel
theorem dX8_ask_44 : decode cX8_ask 44 = .ok (.iload_n 3, 1) := by decide +kernel
theorem dX8_ask_45 : decode cX8_ask 45 = .ok (.ifCond .eq 11, 3) := by decide +kernel
theorem dX8_ask_48 : decode cX8_ask 48 = .ok (.aload_n 0, 1) := by decide +kernel
theorem dX8_ask_49 : decode cX8_ask 49 = .ok (.iload_n 1, 1) := by decide +kernel
theorem dX8_ask_50 : decode cX8_ask 50 = .ok (.invokevirtual 278, 3) := by decide +kernel
theorem dX8_ask_53 : decode cX8_ask 53 = .ok (.goto 8, 3) := by decide +kernel
theorem dX8_ask_56 : decode cX8_ask 56 = .ok (.aload_n 0, 1) := by decide +kernel
theorem dX8_ask_57 : decode cX8_ask 57 = .ok (.iload_n 1, 1) := by decide +kernel
theorem dX8_ask_58 : decode cX8_ask 58 = .ok (.invokevirtual 281, 3) := by decide +kernel
theorem dX8_ask_61 : decode cX8_ask 61 = .ok (.ireturn, 1) := by decide +kernel
theorem dX8_ask_62 : decode cX8_ask 62 = .ok (.iload_n 3, 1) := by decide +kernel
theorem dX8_ask_63 : decode cX8_ask 63 = .ok (.ifCond .eq 11, 3) := by decide +kernel
theorem dX8_ask_66 : decode cX8_ask 66 = .ok (.aload_n 0, 1) := by decide +kernel
theorem dX8_ask_67 : decode cX8_ask 67 = .ok (.iload_n 1, 1) := by decide +kernel
theorem dX8_ask_68 : decode cX8_ask 68 = .ok (.invokevirtual 284, 3) := by decide +kernel
theorem dX8_ask_71 : decode cX8_ask 71 = .ok (.goto 8, 3) := by decide +kernel
theorem dX8_ask_74 : decode cX8_ask 74 = .ok (.aload_n 0, 1) := by decide +kernel
theorem dX8_ask_75 : decode cX8_ask 75 = .ok (.iload_n 1, 1) := by decide +kernel
theorem dX8_ask_76 : decode cX8_ask 76 = .ok (.invokevirtual 275, 3) := by decide +kernel
theorem dX8_ask_79 : decode cX8_ask 79 = .ok (.ireturn, 1) := by decide +kernel
theorem dX8_trace_0 : decode cX8_trace 0 = .ok (.iload_n 1, 1) := by decide +kernel
theorem dX8_trace_1 : decode cX8_trace 1 = .ok (.iconst 0, 1) := by decide +kernel
theorem dX8_trace_2 : decode cX8_trace 2 = .ok (.aload_n 0, 1) := by decide +kernel
theorem dX8_trace_3 : decode cX8_trace 3 = .ok (.getfield 263, 3) := by decide +kernel
theorem dX8_trace_6 : decode cX8_trace 6 = .ok (.iconst 1, 1) := by decide +kernel
theorem dX8_trace_7 : decode cX8_trace 7 = .ok (.isub, 1) := by decide +kernel
theorem dX8_trace_8 : decode cX8_trace 8 = .ok (.invokestatic 68, 3) := by decide +kernel
theorem dX8_trace_11 : decode cX8_trace 11 = .ok (.ifCond .eq 12, 3) := by decide +kernel
theorem dX8_trace_14 : decode cX8_trace 14 = .ok (.aload_n 0, 1) := by decide +kernel
theorem dX8_trace_15 : decode cX8_trace 15 = .ok (.getfield 57, 3) := by decide +kernel
theorem dX8_trace_18 : decode cX8_trace 18 = .ok (.iload_n 1, 1) := by decide +kernel
theorem dX8_trace_19 : decode cX8_trace 19 = .ok (.iaload, 1) := by decide +kernel
theorem dX8_trace_20 : decode cX8_trace 20 = .ok (.goto 5, 3) := by decide +kernel
theorem dX8_trace_23 : decode cX8_trace 23 = .ok (.ldc 60, 2) := by decide +kernel
theorem dX8_trace_25 : decode cX8_trace 25 = .ok (.ireturn, 1) := by decide +kernel
theorem dX8_count_0 : decode cX8_count 0 = .ok (.iconst 0, 1) := by decide +kernel
theorem dX8_count_1 : decode cX8_count 1 = .ok (.istore_n 2, 1) := by decide +kernel
theorem dX8_count_2 : decode cX8_count 2 = .ok (.iload_n 1, 1) := by decide +kernel
theorem dX8_count_3 : decode cX8_count 3 = .ok (.tableswitch 132 0 7 #[45, 77, 89, 98, 107, 116, 122, 127], 45) := by decide +kernel
theorem dX8_count_48 : decode cX8_count 48 = .ok (.iconst 0, 1) := by decide +kernel
theorem dX8_count_49 : decode cX8_count 49 = .ok (.istore_n 3, 1) := by decide +kernel
theorem dX8_count_50 : decode cX8_count 50 = .ok (.iload_n 3, 1) := by decide +kernel
theorem dX8_count_51 : decode cX8_count 51 = .ok (.bipush 8, 2) := by decide +kernel
theorem dX8_count_53 : decode cX8_count 53 = .ok (.if_icmp .ge 25, 3) := by decide +kernel
theorem dX8_count_56 : decode cX8_count 56 = .ok (.iload_n 2, 1) := by decide +kernel
theorem dX8_count_57 : decode cX8_count 57 = .ok (.aload_n 0, 1) := by decide +kernel
theorem dX8_count_58 : decode cX8_count 58 = .ok (.iload_n 3, 1) := by decide +kernel
theorem dX8_count_59 : decode cX8_count 59 = .ok (.invokevirtual 84, 3) := by decide +kernel
theorem dX8_count_62 : decode cX8_count 62 = .ok (.ifCond .eq 7, 3) := by decide +kernel
theorem dX8_count_65 : decode cX8_count 65 = .ok (.iconst 0, 1) := by decide +kernel
theorem dX8_count_66 : decode cX8_count 66 = .ok (.goto 4, 3) := by decide +kernel
theorem dX8_count_69 : decode cX8_count 69 = .ok (.iconst 1, 1) := by decide +kernel
theorem dX8_count_70 : decode cX8_count 70 = .ok (.iadd, 1) := by decide +kernel
theorem dX8_count_71 : decode cX8_count 71 = .ok (.istore_n 2, 1) := by decide +kernel
theorem dX8_count_72 : decode cX8_count 72 = .ok (.iinc 3 1, 3) := by decide +kernel
theorem dX8_count_75 : decode cX8_count 75 = .ok (.goto (-25), 3) := by decide +kernel
theorem dX8_count_78 : decode cX8_count 78 = .ok (.iload_n 2, 1) := by decide +kernel
theorem dX8_count_79 : decode cX8_count 79 = .ok (.ireturn, 1) := by decide +kernel
theorem dX8_count_80 : decode cX8_count 80 = .ok (.aload_n 0, 1) := by decide +kernel
theorem dX8_count_81 : decode cX8_count 81 = .ok (.getfield 25, 3) := by decide +kernel
theorem dX8_count_84 : decode cX8_count 84 = .ok (.bipush 10, 2) := by decide +kernel
theorem dX8_count_86 : decode cX8_count 86 = .ok (.laload, 1) := by decide +kernel
theorem dX8_count_87 : decode cX8_count 87 = .ok (.l2i, 1) := by decide +kernel
theorem dX8_count_88 : decode cX8_count 88 = .ok (.invokestatic 255, 3) := by decide +kernel
theorem dX8_count_91 : decode cX8_count 91 = .ok (.ireturn, 1) := by decide +kernel
theorem dX8_count_92 : decode cX8_count 92 = .ok (.aload_n 0, 1) := by decide +kernel
theorem dX8_count_93 : decode cX8_count 93 = .ok (.getfield 25, 3) := by decide +kernel
theorem dX8_count_96 : decode cX8_count 96 = .ok (.bipush 9, 2) := by decide +kernel
theorem dX8_count_98 : decode cX8_count 98 = .ok (.laload, 1) := by decide +kernel
theorem dX8_count_99 : decode cX8_count 99 = .ok (.l2i, 1) := by decide +kernel
theorem dX8_count_100 : decode cX8_count 100 = .ok (.ireturn, 1) := by decide +kernel
theorem dX8_count_101 : decode cX8_count 101 = .ok (.aload_n 0, 1) := by decide +kernel
theorem dX8_count_102 : decode cX8_count 102 = .ok (.getfield 25, 3) := by decide +kernel
theorem dX8_count_105 : decode cX8_count 105 = .ok (.bipush 10, 2) := by decide +kernel
theorem dX8_count_107 : decode cX8_count 107 = .ok (.laload, 1) := by decide +kernel
theorem dX8_count_108 : decode cX8_count 108 = .ok (.l2i, 1) := by decide +kernel
theorem dX8_count_109 : decode cX8_count 109 = .ok (.ireturn, 1) := by decide +kernel
theorem dX8_count_110 : decode cX8_count 110 = .ok (.aload_n 0, 1) := by decide +kernel
theorem dX8_count_111 : decode cX8_count 111 = .ok (.getfield 25, 3) := by decide +kernel
theorem dX8_count_114 : decode cX8_count 114 = .ok (.bipush 8, 2) := by decide +kernel
theorem dX8_count_116 : decode cX8_count 116 = .ok (.laload, 1) := by decide +kernel
theorem dX8_count_117 : decode cX8_count 117 = .ok (.l2i, 1) := by decide +kernel
theorem dX8_count_118 : decode cX8_count 118 = .ok (.ireturn, 1) := by decide +kernel
theorem dX8_count_119 : decode cX8_count 119 = .ok (.aload_n 0, 1) := by decide +kernel
theorem dX8_count_120 : decode cX8_count 120 = .ok (.invokevirtual 237, 3) := by decide +kernel
theorem dX8_count_123 : decode cX8_count 123 = .ok (.l2i, 1) := by decide +kernel
theorem dX8_count_124 : decode cX8_count 124 = .ok (.ireturn, 1) := by decide +kernel
theorem dX8_count_125 : decode cX8_count 125 = .ok (.aload_n 0, 1) := by decide +kernel
theorem dX8_count_126 : decode cX8_count 126 = .ok (.getfield 163, 3) := by decide +kernel
theorem dX8_count_129 : decode cX8_count 129 = .ok (.ireturn, 1) := by decide +kernel
theorem dX8_count_130 : decode cX8_count 130 = .ok (.aload_n 0, 1) := by decide +kernel
theorem dX8_count_131 : decode cX8_count 131 = .ok (.getfield 94, 3) := by decide +kernel
theorem dX8_count_134 : decode cX8_count 134 = .ok (.ireturn, 1) := by decide +kernel
theorem dX8_count_135 : decode cX8_count 135 = .ok (.ldc 76, 2) := by decide +kernel
theorem dX8_count_137 : decode cX8_count 137 = .ok (.ireturn, 1) := by decide +kernel
theorem dX8_status_0 : decode cX8_status 0 = .ok (.aload_n 0, 1) := by decide +kernel
theorem dX8_status_1 : decode cX8_status 1 = .ok (.getfield 63, 3) := by decide +kernel
theorem dX8_status_4 : decode cX8_status 4 = .ok (.ireturn, 1) := by decide +kernel
theorem dJ6_bitCount_0f7a4_0 : decode cJ6_bitCount_0f7a4 0 = .ok (.iload_n 0, 1) := by decide +kernel
theorem dJ6_bitCount_0f7a4_1 : decode cJ6_bitCount_0f7a4 1 = .ok (.iload_n 0, 1) := by decide +kernel
theorem dJ6_bitCount_0f7a4_2 : decode cJ6_bitCount_0f7a4 2 = .ok (.iconst 1, 1) := by decide +kernel
theorem dJ6_bitCount_0f7a4_3 : decode cJ6_bitCount_0f7a4 3 = .ok (.iushr, 1) := by decide +kernel
theorem dJ6_bitCount_0f7a4_4 : decode cJ6_bitCount_0f7a4 4 = .ok (.ldc_w 265, 3) := by decide +kernel
theorem dJ6_bitCount_0f7a4_7 : decode cJ6_bitCount_0f7a4 7 = .ok (.iand, 1) := by decide +kernel
theorem dJ6_bitCount_0f7a4_8 : decode cJ6_bitCount_0f7a4 8 = .ok (.isub, 1) := by decide +kernel
theorem dJ6_bitCount_0f7a4_9 : decode cJ6_bitCount_0f7a4 9 = .ok (.istore_n 0, 1) := by decide +kernel
theorem dJ6_bitCount_0f7a4_10 : decode cJ6_bitCount_0f7a4 10 = .ok (.iload_n 0, 1) := by decide +kernel
theorem dJ6_bitCount_0f7a4_11 : decode cJ6_bitCount_0f7a4 11 = .ok (.ldc_w 266, 3) := by decide +kernel
theorem dJ6_bitCount_0f7a4_14 : decode cJ6_bitCount_0f7a4 14 = .ok (.iand, 1) := by decide +kernel
theorem dJ6_bitCount_0f7a4_15 : decode cJ6_bitCount_0f7a4 15 = .ok (.iload_n 0, 1) := by decide +kernel
theorem dJ6_bitCount_0f7a4_16 : decode cJ6_bitCount_0f7a4 16 = .ok (.iconst 2, 1) := by decide +kernel
theorem dJ6_bitCount_0f7a4_17 : decode cJ6_bitCount_0f7a4 17 = .ok (.iushr, 1) := by decide +kernel
theorem dJ6_bitCount_0f7a4_18 : decode cJ6_bitCount_0f7a4 18 = .ok (.ldc_w 266, 3) := by decide +kernel
theorem dJ6_bitCount_0f7a4_21 : decode cJ6_bitCount_0f7a4 21 = .ok (.iand, 1) := by decide +kernel
theorem dJ6_bitCount_0f7a4_22 : decode cJ6_bitCount_0f7a4 22 = .ok (.iadd, 1) := by decide +kernel
theorem dJ6_bitCount_0f7a4_23 : decode cJ6_bitCount_0f7a4 23 = .ok (.istore_n 0, 1) := by decide +kernel
theorem dJ6_bitCount_0f7a4_24 : decode cJ6_bitCount_0f7a4 24 = .ok (.iload_n 0, 1) := by decide +kernel
theorem dJ6_bitCount_0f7a4_25 : decode cJ6_bitCount_0f7a4 25 = .ok (.iload_n 0, 1) := by decide +kernel
theorem dJ6_bitCount_0f7a4_26 : decode cJ6_bitCount_0f7a4 26 = .ok (.iconst 4, 1) := by decide +kernel
theorem dJ6_bitCount_0f7a4_27 : decode cJ6_bitCount_0f7a4 27 = .ok (.iushr, 1) := by decide +kernel
theorem dJ6_bitCount_0f7a4_28 : decode cJ6_bitCount_0f7a4 28 = .ok (.iadd, 1) := by decide +kernel
theorem dJ6_bitCount_0f7a4_29 : decode cJ6_bitCount_0f7a4 29 = .ok (.ldc_w 267, 3) := by decide +kernel
theorem dJ6_bitCount_0f7a4_32 : decode cJ6_bitCount_0f7a4 32 = .ok (.iand, 1) := by decide +kernel
theorem dJ6_bitCount_0f7a4_33 : decode cJ6_bitCount_0f7a4 33 = .ok (.istore_n 0, 1) := by decide +kernel
theorem dJ6_bitCount_0f7a4_34 : decode cJ6_bitCount_0f7a4 34 = .ok (.iload_n 0, 1) := by decide +kernel
theorem dJ6_bitCount_0f7a4_35 : decode cJ6_bitCount_0f7a4 35 = .ok (.iload_n 0, 1) := by decide +kernel
theorem dJ6_bitCount_0f7a4_36 : decode cJ6_bitCount_0f7a4 36 = .ok (.bipush 8, 2) := by decide +kernel
theorem dJ6_bitCount_0f7a4_38 : decode cJ6_bitCount_0f7a4 38 = .ok (.iushr, 1) := by decide +kernel
theorem dJ6_bitCount_0f7a4_39 : decode cJ6_bitCount_0f7a4 39 = .ok (.iadd, 1) := by decide +kernel
theorem dJ6_bitCount_0f7a4_40 : decode cJ6_bitCount_0f7a4 40 = .ok (.istore_n 0, 1) := by decide +kernel
theorem dJ6_bitCount_0f7a4_41 : decode cJ6_bitCount_0f7a4 41 = .ok (.iload_n 0, 1) := by decide +kernel
theorem dJ6_bitCount_0f7a4_42 : decode cJ6_bitCount_0f7a4 42 = .ok (.iload_n 0, 1) := by decide +kernel
theorem dJ6_bitCount_0f7a4_43 : decode cJ6_bitCount_0f7a4 43 = .ok (.bipush 16, 2) := by decide +kernel
theorem dJ6_bitCount_0f7a4_45 : decode cJ6_bitCount_0f7a4 45 = .ok (.iushr, 1) := by decide +kernel
theorem dJ6_bitCount_0f7a4_46 : decode cJ6_bitCount_0f7a4 46 = .ok (.iadd, 1) := by decide +kernel
theorem dJ6_bitCount_0f7a4_47 : decode cJ6_bitCount_0f7a4 47 = .ok (.istore_n 0, 1) := by decide +kernel
theorem dJ6_bitCount_0f7a4_48 : decode cJ6_bitCount_0f7a4 48 = .ok (.iload_n 0, 1) := by decide +kernel
theorem dJ6_bitCount_0f7a4_49 : decode cJ6_bitCount_0f7a4 49 = .ok (.bipush 63, 2) := by decide +kernel
theorem dJ6_bitCount_0f7a4_51 : decode cJ6_bitCount_0f7a4 51 = .ok (.iand, 1) := by decide +kernel
theorem dJ6_bitCount_0f7a4_52 : decode cJ6_bitCount_0f7a4 52 = .ok (.ireturn, 1) := by decide +kernel
theorem dJ9_abs_067f4_0 : decode cJ9_abs_067f4 0 = .ok (.lload_n 0, 1) := by decide +kernel
theorem dJ9_abs_067f4_1 : decode cJ9_abs_067f4 1 = .ok (.lconst 0, 1) := by decide +kernel
theorem dJ9_abs_067f4_2 : decode cJ9_abs_067f4 2 = .ok (.lcmp, 1) := by decide +kernel
theorem dJ9_abs_067f4_3 : decode cJ9_abs_067f4 3 = .ok (.ifCond .ge 8, 3) := by decide +kernel
theorem dJ9_abs_067f4_6 : decode cJ9_abs_067f4 6 = .ok (.lload_n 0, 1) := by decide +kernel
theorem dJ9_abs_067f4_7 : decode cJ9_abs_067f4 7 = .ok (.lneg, 1) := by decide +kernel
theorem dJ9_abs_067f4_8 : decode cJ9_abs_067f4 8 = .ok (.goto 4, 3) := by decide +kernel
theorem dJ9_abs_067f4_11 : decode cJ9_abs_067f4 11 = .ok (.lload_n 0, 1) := by decide +kernel
theorem dJ9_abs_067f4_12 : decode cJ9_abs_067f4 12 = .ok (.lreturn, 1) := by decide +kernel
theorem dJ9_max_f86c9_0 : decode cJ9_max_f86c9 0 = .ok (.lload_n 0, 1) := by decide +kernel
theorem dJ9_max_f86c9_1 : decode cJ9_max_f86c9 1 = .ok (.lload_n 2, 1) := by decide +kernel
theorem dJ9_max_f86c9_2 : decode cJ9_max_f86c9 2 = .ok (.lcmp, 1) := by decide +kernel
theorem dJ9_max_f86c9_3 : decode cJ9_max_f86c9 3 = .ok (.ifCond .lt 7, 3) := by decide +kernel
theorem dJ9_max_f86c9_6 : decode cJ9_max_f86c9 6 = .ok (.lload_n 0, 1) := by decide +kernel
theorem dJ9_max_f86c9_7 : decode cJ9_max_f86c9 7 = .ok (.goto 4, 3) := by decide +kernel
theorem dJ9_max_f86c9_10 : decode cJ9_max_f86c9 10 = .ok (.lload_n 2, 1) := by decide +kernel
theorem dJ9_max_f86c9_11 : decode cJ9_max_f86c9 11 = .ok (.lreturn, 1) := by decide +kernel
theorem dJ9_min_f86c9_0 : decode cJ9_min_f86c9 0 = .ok (.lload_n 0, 1) := by decide +kernel
theorem dJ9_min_f86c9_1 : decode cJ9_min_f86c9 1 = .ok (.lload_n 2, 1) := by decide +kernel
theorem dJ9_min_f86c9_2 : decode cJ9_min_f86c9 2 = .ok (.lcmp, 1) := by decide +kernel
theorem dJ9_min_f86c9_3 : decode cJ9_min_f86c9 3 = .ok (.ifCond .gt 7, 3) := by decide +kernel
theorem dJ9_min_f86c9_6 : decode cJ9_min_f86c9 6 = .ok (.lload_n 0, 1) := by decide +kernel
theorem dJ9_min_f86c9_7 : decode cJ9_min_f86c9 7 = .ok (.goto 4, 3) := by decide +kernel
theorem dJ9_min_f86c9_10 : decode cJ9_min_f86c9 10 = .ok (.lload_n 2, 1) := by decide +kernel
theorem dJ9_min_f86c9_11 : decode cJ9_min_f86c9 11 = .ok (.lreturn, 1) := by decide +kernel
theorem dJ7_fill_d0a16_0 : decode cJ7_fill_d0a16 0 = .ok (.iconst 0, 1) := by decide +kernel
theorem dJ7_fill_d0a16_1 : decode cJ7_fill_d0a16 1 = .ok (.istore_n 3, 1) := by decide +kernel
theorem dJ7_fill_d0a16_2 : decode cJ7_fill_d0a16 2 = .ok (.aload_n 0, 1) := by decide +kernel
theorem dJ7_fill_d0a16_3 : decode cJ7_fill_d0a16 3 = .ok (.arraylength, 1) := by decide +kernel
theorem dJ7_fill_d0a16_4 : decode cJ7_fill_d0a16 4 = .ok (.istore 4, 2) := by decide +kernel
theorem dJ7_fill_d0a16_6 : decode cJ7_fill_d0a16 6 = .ok (.iload_n 3, 1) := by decide +kernel
theorem dJ7_fill_d0a16_7 : decode cJ7_fill_d0a16 7 = .ok (.iload 4, 2) := by decide +kernel
theorem dJ7_fill_d0a16_9 : decode cJ7_fill_d0a16 9 = .ok (.if_icmp .ge 13, 3) := by decide +kernel
theorem dJ7_fill_d0a16_12 : decode cJ7_fill_d0a16 12 = .ok (.aload_n 0, 1) := by decide +kernel
theorem dJ7_fill_d0a16_13 : decode cJ7_fill_d0a16 13 = .ok (.iload_n 3, 1) := by decide +kernel
theorem dJ7_fill_d0a16_14 : decode cJ7_fill_d0a16 14 = .ok (.lload_n 1, 1) := by decide +kernel
theorem dJ7_fill_d0a16_15 : decode cJ7_fill_d0a16 15 = .ok (.lastore, 1) := by decide +kernel
theorem dJ7_fill_d0a16_16 : decode cJ7_fill_d0a16 16 = .ok (.iinc 3 1, 3) := by decide +kernel
theorem dJ7_fill_d0a16_19 : decode cJ7_fill_d0a16 19 = .ok (.goto (-13), 3) := by decide +kernel
theorem dJ7_fill_d0a16_22 : decode cJ7_fill_d0a16 22 = .ok (.return_, 1) := by decide +kernel
theorem dJ7_fill_53178_0 : decode cJ7_fill_53178 0 = .ok (.iconst 0, 1) := by decide +kernel
theorem dJ7_fill_53178_1 : decode cJ7_fill_53178 1 = .ok (.istore_n 2, 1) := by decide +kernel
theorem dJ7_fill_53178_2 : decode cJ7_fill_53178 2 = .ok (.aload_n 0, 1) := by decide +kernel
theorem dJ7_fill_53178_3 : decode cJ7_fill_53178 3 = .ok (.arraylength, 1) := by decide +kernel
theorem dJ7_fill_53178_4 : decode cJ7_fill_53178 4 = .ok (.istore_n 3, 1) := by decide +kernel
theorem dJ7_fill_53178_5 : decode cJ7_fill_53178 5 = .ok (.iload_n 2, 1) := by decide +kernel
theorem dJ7_fill_53178_6 : decode cJ7_fill_53178 6 = .ok (.iload_n 3, 1) := by decide +kernel
theorem dJ7_fill_53178_7 : decode cJ7_fill_53178 7 = .ok (.if_icmp .ge 13, 3) := by decide +kernel
theorem dJ7_fill_53178_10 : decode cJ7_fill_53178 10 = .ok (.aload_n 0, 1) := by decide +kernel
theorem dJ7_fill_53178_11 : decode cJ7_fill_53178 11 = .ok (.iload_n 2, 1) := by decide +kernel
theorem dJ7_fill_53178_12 : decode cJ7_fill_53178 12 = .ok (.iload_n 1, 1) := by decide +kernel
theorem dJ7_fill_53178_13 : decode cJ7_fill_53178 13 = .ok (.iastore, 1) := by decide +kernel
theorem dJ7_fill_53178_14 : decode cJ7_fill_53178 14 = .ok (.iinc 2 1, 3) := by decide +kernel
theorem dJ7_fill_53178_17 : decode cJ7_fill_53178 17 = .ok (.goto (-12), 3) := by decide +kernel
theorem dJ7_fill_53178_20 : decode cJ7_fill_53178 20 = .ok (.return_, 1) := by decide +kernel
theorem dL_law_0 : decode cL_law 0 = .ok (.new 7, 3) := by decide +kernel
theorem dL_law_3 : decode cL_law 3 = .ok (.dup, 1) := by decide +kernel
theorem dL_law_4 : decode cL_law 4 = .ok (.invokespecial 9, 3) := by decide +kernel
theorem dL_law_7 : decode cL_law 7 = .ok (.astore_n 1, 1) := by decide +kernel
theorem dL_law_8 : decode cL_law 8 = .ok (.new 10, 3) := by decide +kernel
theorem dL_law_11 : decode cL_law 11 = .ok (.dup, 1) := by decide +kernel
theorem dL_law_12 : decode cL_law 12 = .ok (.invokespecial 12, 3) := by decide +kernel
theorem dL_law_15 : decode cL_law 15 = .ok (.astore_n 2, 1) := by decide +kernel
theorem dL_law_16 : decode cL_law 16 = .ok (.iconst 0, 1) := by decide +kernel
theorem dL_law_17 : decode cL_law 17 = .ok (.istore_n 3, 1) := by decide +kernel
theorem dL_law_18 : decode cL_law 18 = .ok (.iload_n 3, 1) := by decide +kernel
theorem dL_law_19 : decode cL_law 19 = .ok (.aload_n 0, 1) := by decide +kernel
theorem dL_law_20 : decode cL_law 20 = .ok (.arraylength, 1) := by decide +kernel
theorem dL_law_21 : decode cL_law 21 = .ok (.bipush 6, 2) := by decide +kernel
theorem dL_law_23 : decode cL_law 23 = .ok (.isub, 1) := by decide +kernel
theorem dL_law_24 : decode cL_law 24 = .ok (.if_icmp .gt 1146, 3) := by decide +kernel
theorem dL_law_27 : decode cL_law 27 = .ok (.aload_n 0, 1) := by decide +kernel
theorem dL_law_28 : decode cL_law 28 = .ok (.iload_n 3, 1) := by decide +kernel
theorem dL_law_29 : decode cL_law 29 = .ok (.iaload, 1) := by decide +kernel
theorem dL_law_30 : decode cL_law 30 = .ok (.bipush 63, 2) := by decide +kernel
theorem dL_law_32 : decode cL_law 32 = .ok (.iand, 1) := by decide +kernel
theorem dL_law_33 : decode cL_law 33 = .ok (.tableswitch 1131 0 35 #[159, 202, 245, 308, 331, 354, 367, 380, 413, 446, 479, 502, 535, 568, 581, 604, 627, 650, 663, 687, 721, 745, 789, 832, 855, 878, 901, 914, 937, 960, 983, 1006, 1039, 1072, 1095, 1118], 159) := by decide +kernel
theorem dL_law_192 : decode cL_law 192 = .ok (.aload_n 1, 1) := by decide +kernel
theorem dL_law_193 : decode cL_law 193 = .ok (.aload_n 0, 1) := by decide +kernel
theorem dL_law_194 : decode cL_law 194 = .ok (.iload_n 3, 1) := by decide +kernel
theorem dL_law_195 : decode cL_law 195 = .ok (.iconst 1, 1) := by decide +kernel
theorem dL_law_196 : decode cL_law 196 = .ok (.iadd, 1) := by decide +kernel
theorem dL_law_197 : decode cL_law 197 = .ok (.iaload, 1) := by decide +kernel
theorem dL_law_198 : decode cL_law 198 = .ok (.aload_n 0, 1) := by decide +kernel
theorem dL_law_199 : decode cL_law 199 = .ok (.iload_n 3, 1) := by decide +kernel
theorem dL_law_200 : decode cL_law 200 = .ok (.iconst 2, 1) := by decide +kernel
theorem dL_law_201 : decode cL_law 201 = .ok (.iadd, 1) := by decide +kernel
theorem dL_law_202 : decode cL_law 202 = .ok (.iaload, 1) := by decide +kernel
theorem dL_law_203 : decode cL_law 203 = .ok (.aload_n 0, 1) := by decide +kernel
theorem dL_law_204 : decode cL_law 204 = .ok (.iload_n 3, 1) := by decide +kernel
theorem dL_law_205 : decode cL_law 205 = .ok (.iconst 3, 1) := by decide +kernel
theorem dL_law_206 : decode cL_law 206 = .ok (.iadd, 1) := by decide +kernel
theorem dL_law_207 : decode cL_law 207 = .ok (.iaload, 1) := by decide +kernel
theorem dL_law_208 : decode cL_law 208 = .ok (.invokevirtual 13, 3) := by decide +kernel
theorem dL_law_211 : decode cL_law 211 = .ok (.aload_n 2, 1) := by decide +kernel
theorem dL_law_212 : decode cL_law 212 = .ok (.aload_n 0, 1) := by decide +kernel
theorem dL_law_213 : decode cL_law 213 = .ok (.iload_n 3, 1) := by decide +kernel
theorem dL_law_214 : decode cL_law 214 = .ok (.iconst 1, 1) := by decide +kernel
theorem dL_law_215 : decode cL_law 215 = .ok (.iadd, 1) := by decide +kernel
theorem dL_law_216 : decode cL_law 216 = .ok (.iaload, 1) := by decide +kernel
theorem dL_law_217 : decode cL_law 217 = .ok (.aload_n 0, 1) := by decide +kernel
theorem dL_law_218 : decode cL_law 218 = .ok (.iload_n 3, 1) := by decide +kernel
theorem dL_law_219 : decode cL_law 219 = .ok (.iconst 2, 1) := by decide +kernel
theorem dL_law_220 : decode cL_law 220 = .ok (.iadd, 1) := by decide +kernel
theorem dL_law_221 : decode cL_law 221 = .ok (.iaload, 1) := by decide +kernel
theorem dL_law_222 : decode cL_law 222 = .ok (.aload_n 0, 1) := by decide +kernel
theorem dL_law_223 : decode cL_law 223 = .ok (.iload_n 3, 1) := by decide +kernel
theorem dL_law_224 : decode cL_law 224 = .ok (.iconst 3, 1) := by decide +kernel
theorem dL_law_225 : decode cL_law 225 = .ok (.iadd, 1) := by decide +kernel
theorem dL_law_226 : decode cL_law 226 = .ok (.iaload, 1) := by decide +kernel
theorem dL_law_227 : decode cL_law 227 = .ok (.invokevirtual 17, 3) := by decide +kernel
theorem dL_law_230 : decode cL_law 230 = .ok (.if_icmp .eq 934, 3) := by decide +kernel
theorem dL_law_233 : decode cL_law 233 = .ok (.iconst 0, 1) := by decide +kernel
theorem dL_law_234 : decode cL_law 234 = .ok (.ireturn, 1) := by decide +kernel
theorem dL_law_235 : decode cL_law 235 = .ok (.aload_n 1, 1) := by decide +kernel
theorem dL_law_236 : decode cL_law 236 = .ok (.aload_n 0, 1) := by decide +kernel
theorem dL_law_237 : decode cL_law 237 = .ok (.iload_n 3, 1) := by decide +kernel
theorem dL_law_238 : decode cL_law 238 = .ok (.iconst 1, 1) := by decide +kernel
theorem dL_law_239 : decode cL_law 239 = .ok (.iadd, 1) := by decide +kernel
theorem dL_law_240 : decode cL_law 240 = .ok (.iaload, 1) := by decide +kernel
theorem dL_law_241 : decode cL_law 241 = .ok (.aload_n 0, 1) := by decide +kernel
theorem dL_law_242 : decode cL_law 242 = .ok (.iload_n 3, 1) := by decide +kernel
theorem dL_law_243 : decode cL_law 243 = .ok (.iconst 2, 1) := by decide +kernel
theorem dL_law_244 : decode cL_law 244 = .ok (.iadd, 1) := by decide +kernel
theorem dL_law_245 : decode cL_law 245 = .ok (.iaload, 1) := by decide +kernel
theorem dL_law_246 : decode cL_law 246 = .ok (.aload_n 0, 1) := by decide +kernel
theorem dL_law_247 : decode cL_law 247 = .ok (.iload_n 3, 1) := by decide +kernel
theorem dL_law_248 : decode cL_law 248 = .ok (.iconst 3, 1) := by decide +kernel
theorem dL_law_249 : decode cL_law 249 = .ok (.iadd, 1) := by decide +kernel
theorem dL_law_250 : decode cL_law 250 = .ok (.iaload, 1) := by decide +kernel
theorem dL_law_251 : decode cL_law 251 = .ok (.invokevirtual 18, 3) := by decide +kernel
theorem dL_law_254 : decode cL_law 254 = .ok (.aload_n 2, 1) := by decide +kernel
theorem dL_law_255 : decode cL_law 255 = .ok (.aload_n 0, 1) := by decide +kernel
theorem dL_law_256 : decode cL_law 256 = .ok (.iload_n 3, 1) := by decide +kernel
theorem dL_law_257 : decode cL_law 257 = .ok (.iconst 1, 1) := by decide +kernel
theorem dL_law_258 : decode cL_law 258 = .ok (.iadd, 1) := by decide +kernel
theorem dL_law_259 : decode cL_law 259 = .ok (.iaload, 1) := by decide +kernel
theorem dL_law_260 : decode cL_law 260 = .ok (.aload_n 0, 1) := by decide +kernel
theorem dL_law_261 : decode cL_law 261 = .ok (.iload_n 3, 1) := by decide +kernel
theorem dL_law_262 : decode cL_law 262 = .ok (.iconst 2, 1) := by decide +kernel
theorem dL_law_263 : decode cL_law 263 = .ok (.iadd, 1) := by decide +kernel
theorem dL_law_264 : decode cL_law 264 = .ok (.iaload, 1) := by decide +kernel
theorem dL_law_265 : decode cL_law 265 = .ok (.aload_n 0, 1) := by decide +kernel
theorem dL_law_266 : decode cL_law 266 = .ok (.iload_n 3, 1) := by decide +kernel
theorem dL_law_267 : decode cL_law 267 = .ok (.iconst 3, 1) := by decide +kernel
theorem dL_law_268 : decode cL_law 268 = .ok (.iadd, 1) := by decide +kernel
theorem dL_law_269 : decode cL_law 269 = .ok (.iaload, 1) := by decide +kernel
theorem dL_law_270 : decode cL_law 270 = .ok (.invokevirtual 21, 3) := by decide +kernel
theorem dL_law_273 : decode cL_law 273 = .ok (.if_icmp .eq 891, 3) := by decide +kernel
theorem dL_law_276 : decode cL_law 276 = .ok (.iconst 0, 1) := by decide +kernel
theorem dL_law_277 : decode cL_law 277 = .ok (.ireturn, 1) := by decide +kernel
theorem dL_law_278 : decode cL_law 278 = .ok (.aload_n 1, 1) := by decide +kernel
theorem dL_law_279 : decode cL_law 279 = .ok (.aload_n 0, 1) := by decide +kernel
theorem dL_law_280 : decode cL_law 280 = .ok (.iload_n 3, 1) := by decide +kernel
theorem dL_law_281 : decode cL_law 281 = .ok (.iconst 1, 1) := by decide +kernel
theorem dL_law_282 : decode cL_law 282 = .ok (.iadd, 1) := by decide +kernel
theorem dL_law_283 : decode cL_law 283 = .ok (.iaload, 1) := by decide +kernel
theorem dL_law_284 : decode cL_law 284 = .ok (.aload_n 0, 1) := by decide +kernel
theorem dL_law_285 : decode cL_law 285 = .ok (.iload_n 3, 1) := by decide +kernel
theorem dL_law_286 : decode cL_law 286 = .ok (.iconst 2, 1) := by decide +kernel
theorem dL_law_287 : decode cL_law 287 = .ok (.iadd, 1) := by decide +kernel
theorem dL_law_288 : decode cL_law 288 = .ok (.iaload, 1) := by decide +kernel
theorem dL_law_289 : decode cL_law 289 = .ok (.aload_n 0, 1) := by decide +kernel
theorem dL_law_290 : decode cL_law 290 = .ok (.iload_n 3, 1) := by decide +kernel
theorem dL_law_291 : decode cL_law 291 = .ok (.iconst 3, 1) := by decide +kernel
theorem dL_law_292 : decode cL_law 292 = .ok (.iadd, 1) := by decide +kernel
theorem dL_law_293 : decode cL_law 293 = .ok (.iaload, 1) := by decide +kernel
theorem dL_law_294 : decode cL_law 294 = .ok (.aload_n 0, 1) := by decide +kernel
theorem dL_law_295 : decode cL_law 295 = .ok (.iload_n 3, 1) := by decide +kernel
theorem dL_law_296 : decode cL_law 296 = .ok (.iconst 4, 1) := by decide +kernel
theorem dL_law_297 : decode cL_law 297 = .ok (.iadd, 1) := by decide +kernel
theorem dL_law_298 : decode cL_law 298 = .ok (.iaload, 1) := by decide +kernel
theorem dL_law_299 : decode cL_law 299 = .ok (.aload_n 0, 1) := by decide +kernel
theorem dL_law_300 : decode cL_law 300 = .ok (.iload_n 3, 1) := by decide +kernel
theorem dL_law_301 : decode cL_law 301 = .ok (.iconst 5, 1) := by decide +kernel
theorem dL_law_302 : decode cL_law 302 = .ok (.iadd, 1) := by decide +kernel
theorem dL_law_303 : decode cL_law 303 = .ok (.iaload, 1) := by decide +kernel
theorem dL_law_304 : decode cL_law 304 = .ok (.invokevirtual 22, 3) := by decide +kernel
theorem dL_law_307 : decode cL_law 307 = .ok (.aload_n 2, 1) := by decide +kernel
theorem dL_law_308 : decode cL_law 308 = .ok (.aload_n 0, 1) := by decide +kernel
theorem dL_law_309 : decode cL_law 309 = .ok (.iload_n 3, 1) := by decide +kernel
theorem dL_law_310 : decode cL_law 310 = .ok (.iconst 1, 1) := by decide +kernel
theorem dL_law_311 : decode cL_law 311 = .ok (.iadd, 1) := by decide +kernel
theorem dL_law_312 : decode cL_law 312 = .ok (.iaload, 1) := by decide +kernel
theorem dL_law_313 : decode cL_law 313 = .ok (.aload_n 0, 1) := by decide +kernel
theorem dL_law_314 : decode cL_law 314 = .ok (.iload_n 3, 1) := by decide +kernel
theorem dL_law_315 : decode cL_law 315 = .ok (.iconst 2, 1) := by decide +kernel
theorem dL_law_316 : decode cL_law 316 = .ok (.iadd, 1) := by decide +kernel
theorem dL_law_317 : decode cL_law 317 = .ok (.iaload, 1) := by decide +kernel
theorem dL_law_318 : decode cL_law 318 = .ok (.aload_n 0, 1) := by decide +kernel
theorem dL_law_319 : decode cL_law 319 = .ok (.iload_n 3, 1) := by decide +kernel
theorem dL_law_320 : decode cL_law 320 = .ok (.iconst 3, 1) := by decide +kernel
theorem dL_law_321 : decode cL_law 321 = .ok (.iadd, 1) := by decide +kernel
theorem dL_law_322 : decode cL_law 322 = .ok (.iaload, 1) := by decide +kernel
theorem dL_law_323 : decode cL_law 323 = .ok (.aload_n 0, 1) := by decide +kernel
theorem dL_law_324 : decode cL_law 324 = .ok (.iload_n 3, 1) := by decide +kernel
theorem dL_law_325 : decode cL_law 325 = .ok (.iconst 4, 1) := by decide +kernel
theorem dL_law_326 : decode cL_law 326 = .ok (.iadd, 1) := by decide +kernel
theorem dL_law_327 : decode cL_law 327 = .ok (.iaload, 1) := by decide +kernel
theorem dL_law_328 : decode cL_law 328 = .ok (.aload_n 0, 1) := by decide +kernel
theorem dL_law_329 : decode cL_law 329 = .ok (.iload_n 3, 1) := by decide +kernel
theorem dL_law_330 : decode cL_law 330 = .ok (.iconst 5, 1) := by decide +kernel
theorem dL_law_331 : decode cL_law 331 = .ok (.iadd, 1) := by decide +kernel
theorem dL_law_332 : decode cL_law 332 = .ok (.iaload, 1) := by decide +kernel
theorem dL_law_333 : decode cL_law 333 = .ok (.invokevirtual 26, 3) := by decide +kernel
theorem dL_law_336 : decode cL_law 336 = .ok (.if_icmp .eq 828, 3) := by decide +kernel
theorem dL_law_339 : decode cL_law 339 = .ok (.iconst 0, 1) := by decide +kernel
theorem dL_law_340 : decode cL_law 340 = .ok (.ireturn, 1) := by decide +kernel
theorem dL_law_341 : decode cL_law 341 = .ok (.aload_n 1, 1) := by decide +kernel
theorem dL_law_342 : decode cL_law 342 = .ok (.aload_n 0, 1) := by decide +kernel
theorem dL_law_343 : decode cL_law 343 = .ok (.iload_n 3, 1) := by decide +kernel
theorem dL_law_344 : decode cL_law 344 = .ok (.iconst 1, 1) := by decide +kernel
theorem dL_law_345 : decode cL_law 345 = .ok (.iadd, 1) := by decide +kernel
theorem dL_law_346 : decode cL_law 346 = .ok (.iaload, 1) := by decide +kernel
theorem dL_law_347 : decode cL_law 347 = .ok (.invokevirtual 27, 3) := by decide +kernel
theorem dL_law_350 : decode cL_law 350 = .ok (.aload_n 2, 1) := by decide +kernel
theorem dL_law_351 : decode cL_law 351 = .ok (.aload_n 0, 1) := by decide +kernel
theorem dL_law_352 : decode cL_law 352 = .ok (.iload_n 3, 1) := by decide +kernel
theorem dL_law_353 : decode cL_law 353 = .ok (.iconst 1, 1) := by decide +kernel
theorem dL_law_354 : decode cL_law 354 = .ok (.iadd, 1) := by decide +kernel
theorem dL_law_355 : decode cL_law 355 = .ok (.iaload, 1) := by decide +kernel
theorem dL_law_356 : decode cL_law 356 = .ok (.invokevirtual 31, 3) := by decide +kernel
theorem dL_law_359 : decode cL_law 359 = .ok (.if_icmp .eq 805, 3) := by decide +kernel
theorem dL_law_362 : decode cL_law 362 = .ok (.iconst 0, 1) := by decide +kernel
theorem dL_law_363 : decode cL_law 363 = .ok (.ireturn, 1) := by decide +kernel
theorem dL_law_364 : decode cL_law 364 = .ok (.aload_n 1, 1) := by decide +kernel
theorem dL_law_365 : decode cL_law 365 = .ok (.aload_n 0, 1) := by decide +kernel
theorem dL_law_366 : decode cL_law 366 = .ok (.iload_n 3, 1) := by decide +kernel
theorem dL_law_367 : decode cL_law 367 = .ok (.iconst 1, 1) := by decide +kernel
theorem dL_law_368 : decode cL_law 368 = .ok (.iadd, 1) := by decide +kernel
theorem dL_law_369 : decode cL_law 369 = .ok (.iaload, 1) := by decide +kernel
theorem dL_law_370 : decode cL_law 370 = .ok (.invokevirtual 32, 3) := by decide +kernel
theorem dL_law_373 : decode cL_law 373 = .ok (.aload_n 2, 1) := by decide +kernel
theorem dL_law_374 : decode cL_law 374 = .ok (.aload_n 0, 1) := by decide +kernel
theorem dL_law_375 : decode cL_law 375 = .ok (.iload_n 3, 1) := by decide +kernel
theorem dL_law_376 : decode cL_law 376 = .ok (.iconst 1, 1) := by decide +kernel
theorem dL_law_377 : decode cL_law 377 = .ok (.iadd, 1) := by decide +kernel
theorem dL_law_378 : decode cL_law 378 = .ok (.iaload, 1) := by decide +kernel
theorem dL_law_379 : decode cL_law 379 = .ok (.invokevirtual 35, 3) := by decide +kernel
theorem dL_law_382 : decode cL_law 382 = .ok (.if_icmp .eq 782, 3) := by decide +kernel
theorem dL_law_385 : decode cL_law 385 = .ok (.iconst 0, 1) := by decide +kernel
theorem dL_law_386 : decode cL_law 386 = .ok (.ireturn, 1) := by decide +kernel
theorem dL_law_387 : decode cL_law 387 = .ok (.aload_n 1, 1) := by decide +kernel
theorem dL_law_388 : decode cL_law 388 = .ok (.invokevirtual 36, 3) := by decide +kernel
theorem dL_law_391 : decode cL_law 391 = .ok (.aload_n 2, 1) := by decide +kernel
theorem dL_law_392 : decode cL_law 392 = .ok (.invokevirtual 40, 3) := by decide +kernel
theorem dL_law_395 : decode cL_law 395 = .ok (.if_icmp .eq 769, 3) := by decide +kernel
theorem dL_law_398 : decode cL_law 398 = .ok (.iconst 0, 1) := by decide +kernel
theorem dL_law_399 : decode cL_law 399 = .ok (.ireturn, 1) := by decide +kernel
theorem dL_law_400 : decode cL_law 400 = .ok (.aload_n 1, 1) := by decide +kernel
theorem dL_law_401 : decode cL_law 401 = .ok (.invokevirtual 41, 3) := by decide +kernel
theorem dL_law_404 : decode cL_law 404 = .ok (.aload_n 2, 1) := by decide +kernel
theorem dL_law_405 : decode cL_law 405 = .ok (.invokevirtual 44, 3) := by decide +kernel
theorem dL_law_408 : decode cL_law 408 = .ok (.if_icmp .eq 756, 3) := by decide +kernel
theorem dL_law_411 : decode cL_law 411 = .ok (.iconst 0, 1) := by decide +kernel
theorem dL_law_412 : decode cL_law 412 = .ok (.ireturn, 1) := by decide +kernel
theorem dL_law_413 : decode cL_law 413 = .ok (.aload_n 1, 1) := by decide +kernel
theorem dL_law_414 : decode cL_law 414 = .ok (.aload_n 0, 1) := by decide +kernel
theorem dL_law_415 : decode cL_law 415 = .ok (.iload_n 3, 1) := by decide +kernel
theorem dL_law_416 : decode cL_law 416 = .ok (.iconst 1, 1) := by decide +kernel
theorem dL_law_417 : decode cL_law 417 = .ok (.iadd, 1) := by decide +kernel
theorem dL_law_418 : decode cL_law 418 = .ok (.iaload, 1) := by decide +kernel
theorem dL_law_419 : decode cL_law 419 = .ok (.aload_n 0, 1) := by decide +kernel
theorem dL_law_420 : decode cL_law 420 = .ok (.iload_n 3, 1) := by decide +kernel
theorem dL_law_421 : decode cL_law 421 = .ok (.iconst 2, 1) := by decide +kernel
theorem dL_law_422 : decode cL_law 422 = .ok (.iadd, 1) := by decide +kernel
theorem dL_law_423 : decode cL_law 423 = .ok (.iaload, 1) := by decide +kernel
theorem dL_law_424 : decode cL_law 424 = .ok (.invokevirtual 45, 3) := by decide +kernel
theorem dL_law_427 : decode cL_law 427 = .ok (.aload_n 2, 1) := by decide +kernel
theorem dL_law_428 : decode cL_law 428 = .ok (.aload_n 0, 1) := by decide +kernel
theorem dL_law_429 : decode cL_law 429 = .ok (.iload_n 3, 1) := by decide +kernel
theorem dL_law_430 : decode cL_law 430 = .ok (.iconst 1, 1) := by decide +kernel
theorem dL_law_431 : decode cL_law 431 = .ok (.iadd, 1) := by decide +kernel
theorem dL_law_432 : decode cL_law 432 = .ok (.iaload, 1) := by decide +kernel
theorem dL_law_433 : decode cL_law 433 = .ok (.aload_n 0, 1) := by decide +kernel
theorem dL_law_434 : decode cL_law 434 = .ok (.iload_n 3, 1) := by decide +kernel
theorem dL_law_435 : decode cL_law 435 = .ok (.iconst 2, 1) := by decide +kernel
theorem dL_law_436 : decode cL_law 436 = .ok (.iadd, 1) := by decide +kernel
theorem dL_law_437 : decode cL_law 437 = .ok (.iaload, 1) := by decide +kernel
theorem dL_law_438 : decode cL_law 438 = .ok (.invokevirtual 49, 3) := by decide +kernel
theorem dL_law_441 : decode cL_law 441 = .ok (.if_icmp .eq 723, 3) := by decide +kernel
theorem dL_law_444 : decode cL_law 444 = .ok (.iconst 0, 1) := by decide +kernel
theorem dL_law_445 : decode cL_law 445 = .ok (.ireturn, 1) := by decide +kernel
theorem dL_law_446 : decode cL_law 446 = .ok (.aload_n 1, 1) := by decide +kernel
theorem dL_law_447 : decode cL_law 447 = .ok (.aload_n 0, 1) := by decide +kernel
theorem dL_law_448 : decode cL_law 448 = .ok (.iload_n 3, 1) := by decide +kernel
theorem dL_law_449 : decode cL_law 449 = .ok (.iconst 1, 1) := by decide +kernel
theorem dL_law_450 : decode cL_law 450 = .ok (.iadd, 1) := by decide +kernel
theorem dL_law_451 : decode cL_law 451 = .ok (.iaload, 1) := by decide +kernel
theorem dL_law_452 : decode cL_law 452 = .ok (.aload_n 0, 1) := by decide +kernel
theorem dL_law_453 : decode cL_law 453 = .ok (.iload_n 3, 1) := by decide +kernel
theorem dL_law_454 : decode cL_law 454 = .ok (.iconst 2, 1) := by decide +kernel
theorem dL_law_455 : decode cL_law 455 = .ok (.iadd, 1) := by decide +kernel
theorem dL_law_456 : decode cL_law 456 = .ok (.iaload, 1) := by decide +kernel
theorem dL_law_457 : decode cL_law 457 = .ok (.invokevirtual 50, 3) := by decide +kernel
theorem dL_law_460 : decode cL_law 460 = .ok (.aload_n 2, 1) := by decide +kernel
theorem dL_law_461 : decode cL_law 461 = .ok (.aload_n 0, 1) := by decide +kernel
theorem dL_law_462 : decode cL_law 462 = .ok (.iload_n 3, 1) := by decide +kernel
theorem dL_law_463 : decode cL_law 463 = .ok (.iconst 1, 1) := by decide +kernel
theorem dL_law_464 : decode cL_law 464 = .ok (.iadd, 1) := by decide +kernel
theorem dL_law_465 : decode cL_law 465 = .ok (.iaload, 1) := by decide +kernel
theorem dL_law_466 : decode cL_law 466 = .ok (.aload_n 0, 1) := by decide +kernel
theorem dL_law_467 : decode cL_law 467 = .ok (.iload_n 3, 1) := by decide +kernel
theorem dL_law_468 : decode cL_law 468 = .ok (.iconst 2, 1) := by decide +kernel
theorem dL_law_469 : decode cL_law 469 = .ok (.iadd, 1) := by decide +kernel
theorem dL_law_470 : decode cL_law 470 = .ok (.iaload, 1) := by decide +kernel
theorem dL_law_471 : decode cL_law 471 = .ok (.invokevirtual 53, 3) := by decide +kernel
theorem dL_law_474 : decode cL_law 474 = .ok (.if_icmp .eq 690, 3) := by decide +kernel
theorem dL_law_477 : decode cL_law 477 = .ok (.iconst 0, 1) := by decide +kernel
theorem dL_law_478 : decode cL_law 478 = .ok (.ireturn, 1) := by decide +kernel
theorem dL_law_479 : decode cL_law 479 = .ok (.aload_n 1, 1) := by decide +kernel
theorem dL_law_480 : decode cL_law 480 = .ok (.aload_n 0, 1) := by decide +kernel
theorem dL_law_481 : decode cL_law 481 = .ok (.iload_n 3, 1) := by decide +kernel
theorem dL_law_482 : decode cL_law 482 = .ok (.iconst 1, 1) := by decide +kernel
theorem dL_law_483 : decode cL_law 483 = .ok (.iadd, 1) := by decide +kernel
theorem dL_law_484 : decode cL_law 484 = .ok (.iaload, 1) := by decide +kernel
theorem dL_law_485 : decode cL_law 485 = .ok (.aload_n 0, 1) := by decide +kernel
theorem dL_law_486 : decode cL_law 486 = .ok (.iload_n 3, 1) := by decide +kernel
theorem dL_law_487 : decode cL_law 487 = .ok (.iconst 2, 1) := by decide +kernel
theorem dL_law_488 : decode cL_law 488 = .ok (.iadd, 1) := by decide +kernel
theorem dL_law_489 : decode cL_law 489 = .ok (.iaload, 1) := by decide +kernel
theorem dL_law_490 : decode cL_law 490 = .ok (.invokevirtual 54, 3) := by decide +kernel
theorem dL_law_493 : decode cL_law 493 = .ok (.aload_n 2, 1) := by decide +kernel
theorem dL_law_494 : decode cL_law 494 = .ok (.aload_n 0, 1) := by decide +kernel
theorem dL_law_495 : decode cL_law 495 = .ok (.iload_n 3, 1) := by decide +kernel
theorem dL_law_496 : decode cL_law 496 = .ok (.iconst 1, 1) := by decide +kernel
theorem dL_law_497 : decode cL_law 497 = .ok (.iadd, 1) := by decide +kernel
theorem dL_law_498 : decode cL_law 498 = .ok (.iaload, 1) := by decide +kernel
theorem dL_law_499 : decode cL_law 499 = .ok (.aload_n 0, 1) := by decide +kernel
theorem dL_law_500 : decode cL_law 500 = .ok (.iload_n 3, 1) := by decide +kernel
theorem dL_law_501 : decode cL_law 501 = .ok (.iconst 2, 1) := by decide +kernel
theorem dL_law_502 : decode cL_law 502 = .ok (.iadd, 1) := by decide +kernel
theorem dL_law_503 : decode cL_law 503 = .ok (.iaload, 1) := by decide +kernel
theorem dL_law_504 : decode cL_law 504 = .ok (.invokevirtual 57, 3) := by decide +kernel
theorem dL_law_507 : decode cL_law 507 = .ok (.if_icmp .eq 657, 3) := by decide +kernel
theorem dL_law_510 : decode cL_law 510 = .ok (.iconst 0, 1) := by decide +kernel
theorem dL_law_511 : decode cL_law 511 = .ok (.ireturn, 1) := by decide +kernel
theorem dL_law_512 : decode cL_law 512 = .ok (.aload_n 1, 1) := by decide +kernel
theorem dL_law_513 : decode cL_law 513 = .ok (.aload_n 0, 1) := by decide +kernel
theorem dL_law_514 : decode cL_law 514 = .ok (.iload_n 3, 1) := by decide +kernel
theorem dL_law_515 : decode cL_law 515 = .ok (.iconst 1, 1) := by decide +kernel
theorem dL_law_516 : decode cL_law 516 = .ok (.iadd, 1) := by decide +kernel
theorem dL_law_517 : decode cL_law 517 = .ok (.iaload, 1) := by decide +kernel
theorem dL_law_518 : decode cL_law 518 = .ok (.invokevirtual 58, 3) := by decide +kernel
theorem dL_law_521 : decode cL_law 521 = .ok (.aload_n 2, 1) := by decide +kernel
theorem dL_law_522 : decode cL_law 522 = .ok (.aload_n 0, 1) := by decide +kernel
theorem dL_law_523 : decode cL_law 523 = .ok (.iload_n 3, 1) := by decide +kernel
theorem dL_law_524 : decode cL_law 524 = .ok (.iconst 1, 1) := by decide +kernel
theorem dL_law_525 : decode cL_law 525 = .ok (.iadd, 1) := by decide +kernel
theorem dL_law_526 : decode cL_law 526 = .ok (.iaload, 1) := by decide +kernel
theorem dL_law_527 : decode cL_law 527 = .ok (.invokevirtual 61, 3) := by decide +kernel
theorem dL_law_530 : decode cL_law 530 = .ok (.if_icmp .eq 634, 3) := by decide +kernel
theorem dL_law_533 : decode cL_law 533 = .ok (.iconst 0, 1) := by decide +kernel
theorem dL_law_534 : decode cL_law 534 = .ok (.ireturn, 1) := by decide +kernel
theorem dL_law_535 : decode cL_law 535 = .ok (.aload_n 1, 1) := by decide +kernel
theorem dL_law_536 : decode cL_law 536 = .ok (.aload_n 0, 1) := by decide +kernel
theorem dL_law_537 : decode cL_law 537 = .ok (.iload_n 3, 1) := by decide +kernel
theorem dL_law_538 : decode cL_law 538 = .ok (.iconst 1, 1) := by decide +kernel
theorem dL_law_539 : decode cL_law 539 = .ok (.iadd, 1) := by decide +kernel
theorem dL_law_540 : decode cL_law 540 = .ok (.iaload, 1) := by decide +kernel
theorem dL_law_541 : decode cL_law 541 = .ok (.aload_n 0, 1) := by decide +kernel
theorem dL_law_542 : decode cL_law 542 = .ok (.iload_n 3, 1) := by decide +kernel
theorem dL_law_543 : decode cL_law 543 = .ok (.iconst 2, 1) := by decide +kernel
theorem dL_law_544 : decode cL_law 544 = .ok (.iadd, 1) := by decide +kernel
theorem dL_law_545 : decode cL_law 545 = .ok (.iaload, 1) := by decide +kernel
theorem dL_law_546 : decode cL_law 546 = .ok (.invokevirtual 62, 3) := by decide +kernel
theorem dL_law_549 : decode cL_law 549 = .ok (.aload_n 2, 1) := by decide +kernel
theorem dL_law_550 : decode cL_law 550 = .ok (.aload_n 0, 1) := by decide +kernel
theorem dL_law_551 : decode cL_law 551 = .ok (.iload_n 3, 1) := by decide +kernel
theorem dL_law_552 : decode cL_law 552 = .ok (.iconst 1, 1) := by decide +kernel
theorem dL_law_553 : decode cL_law 553 = .ok (.iadd, 1) := by decide +kernel
theorem dL_law_554 : decode cL_law 554 = .ok (.iaload, 1) := by decide +kernel
theorem dL_law_555 : decode cL_law 555 = .ok (.aload_n 0, 1) := by decide +kernel
theorem dL_law_556 : decode cL_law 556 = .ok (.iload_n 3, 1) := by decide +kernel
theorem dL_law_557 : decode cL_law 557 = .ok (.iconst 2, 1) := by decide +kernel
theorem dL_law_558 : decode cL_law 558 = .ok (.iadd, 1) := by decide +kernel
theorem dL_law_559 : decode cL_law 559 = .ok (.iaload, 1) := by decide +kernel
theorem dL_law_560 : decode cL_law 560 = .ok (.invokevirtual 65, 3) := by decide +kernel
theorem dL_law_563 : decode cL_law 563 = .ok (.if_icmp .eq 601, 3) := by decide +kernel
theorem dL_law_566 : decode cL_law 566 = .ok (.iconst 0, 1) := by decide +kernel
theorem dL_law_567 : decode cL_law 567 = .ok (.ireturn, 1) := by decide +kernel
theorem dL_law_568 : decode cL_law 568 = .ok (.aload_n 1, 1) := by decide +kernel
theorem dL_law_569 : decode cL_law 569 = .ok (.aload_n 0, 1) := by decide +kernel
theorem dL_law_570 : decode cL_law 570 = .ok (.iload_n 3, 1) := by decide +kernel
theorem dL_law_571 : decode cL_law 571 = .ok (.iconst 1, 1) := by decide +kernel
theorem dL_law_572 : decode cL_law 572 = .ok (.iadd, 1) := by decide +kernel
theorem dL_law_573 : decode cL_law 573 = .ok (.iaload, 1) := by decide +kernel
theorem dL_law_574 : decode cL_law 574 = .ok (.aload_n 0, 1) := by decide +kernel
theorem dL_law_575 : decode cL_law 575 = .ok (.iload_n 3, 1) := by decide +kernel
theorem dL_law_576 : decode cL_law 576 = .ok (.iconst 2, 1) := by decide +kernel
theorem dL_law_577 : decode cL_law 577 = .ok (.iadd, 1) := by decide +kernel
theorem dL_law_578 : decode cL_law 578 = .ok (.iaload, 1) := by decide +kernel
theorem dL_law_579 : decode cL_law 579 = .ok (.invokevirtual 66, 3) := by decide +kernel
theorem dL_law_582 : decode cL_law 582 = .ok (.aload_n 2, 1) := by decide +kernel
theorem dL_law_583 : decode cL_law 583 = .ok (.aload_n 0, 1) := by decide +kernel
theorem dL_law_584 : decode cL_law 584 = .ok (.iload_n 3, 1) := by decide +kernel
theorem dL_law_585 : decode cL_law 585 = .ok (.iconst 1, 1) := by decide +kernel
theorem dL_law_586 : decode cL_law 586 = .ok (.iadd, 1) := by decide +kernel
theorem dL_law_587 : decode cL_law 587 = .ok (.iaload, 1) := by decide +kernel
theorem dL_law_588 : decode cL_law 588 = .ok (.aload_n 0, 1) := by decide +kernel
theorem dL_law_589 : decode cL_law 589 = .ok (.iload_n 3, 1) := by decide +kernel
theorem dL_law_590 : decode cL_law 590 = .ok (.iconst 2, 1) := by decide +kernel
theorem dL_law_591 : decode cL_law 591 = .ok (.iadd, 1) := by decide +kernel
theorem dL_law_592 : decode cL_law 592 = .ok (.iaload, 1) := by decide +kernel
theorem dL_law_593 : decode cL_law 593 = .ok (.invokevirtual 69, 3) := by decide +kernel
theorem dL_law_596 : decode cL_law 596 = .ok (.if_icmp .eq 568, 3) := by decide +kernel
theorem dL_law_599 : decode cL_law 599 = .ok (.iconst 0, 1) := by decide +kernel
theorem dL_law_600 : decode cL_law 600 = .ok (.ireturn, 1) := by decide +kernel
theorem dL_law_601 : decode cL_law 601 = .ok (.aload_n 1, 1) := by decide +kernel
theorem dL_law_602 : decode cL_law 602 = .ok (.invokevirtual 70, 3) := by decide +kernel
theorem dL_law_605 : decode cL_law 605 = .ok (.aload_n 2, 1) := by decide +kernel
theorem dL_law_606 : decode cL_law 606 = .ok (.invokevirtual 73, 3) := by decide +kernel
theorem dL_law_609 : decode cL_law 609 = .ok (.if_icmp .eq 555, 3) := by decide +kernel
theorem dL_law_612 : decode cL_law 612 = .ok (.iconst 0, 1) := by decide +kernel
theorem dL_law_613 : decode cL_law 613 = .ok (.ireturn, 1) := by decide +kernel
theorem dL_law_614 : decode cL_law 614 = .ok (.aload_n 1, 1) := by decide +kernel
theorem dL_law_615 : decode cL_law 615 = .ok (.aload_n 0, 1) := by decide +kernel
theorem dL_law_616 : decode cL_law 616 = .ok (.iload_n 3, 1) := by decide +kernel
theorem dL_law_617 : decode cL_law 617 = .ok (.iconst 1, 1) := by decide +kernel
theorem dL_law_618 : decode cL_law 618 = .ok (.iadd, 1) := by decide +kernel
theorem dL_law_619 : decode cL_law 619 = .ok (.iaload, 1) := by decide +kernel
theorem dL_law_620 : decode cL_law 620 = .ok (.invokevirtual 74, 3) := by decide +kernel
theorem dL_law_623 : decode cL_law 623 = .ok (.aload_n 2, 1) := by decide +kernel
theorem dL_law_624 : decode cL_law 624 = .ok (.aload_n 0, 1) := by decide +kernel
theorem dL_law_625 : decode cL_law 625 = .ok (.iload_n 3, 1) := by decide +kernel
theorem dL_law_626 : decode cL_law 626 = .ok (.iconst 1, 1) := by decide +kernel
theorem dL_law_627 : decode cL_law 627 = .ok (.iadd, 1) := by decide +kernel
theorem dL_law_628 : decode cL_law 628 = .ok (.iaload, 1) := by decide +kernel
theorem dL_law_629 : decode cL_law 629 = .ok (.invokevirtual 77, 3) := by decide +kernel
theorem dL_law_632 : decode cL_law 632 = .ok (.if_icmp .eq 532, 3) := by decide +kernel
theorem dL_law_635 : decode cL_law 635 = .ok (.iconst 0, 1) := by decide +kernel
theorem dL_law_636 : decode cL_law 636 = .ok (.ireturn, 1) := by decide +kernel
theorem dL_law_637 : decode cL_law 637 = .ok (.aload_n 1, 1) := by decide +kernel
theorem dL_law_638 : decode cL_law 638 = .ok (.aload_n 0, 1) := by decide +kernel
theorem dL_law_639 : decode cL_law 639 = .ok (.iload_n 3, 1) := by decide +kernel
theorem dL_law_640 : decode cL_law 640 = .ok (.iconst 1, 1) := by decide +kernel
theorem dL_law_641 : decode cL_law 641 = .ok (.iadd, 1) := by decide +kernel
theorem dL_law_642 : decode cL_law 642 = .ok (.iaload, 1) := by decide +kernel
theorem dL_law_643 : decode cL_law 643 = .ok (.invokevirtual 78, 3) := by decide +kernel
theorem dL_law_646 : decode cL_law 646 = .ok (.aload_n 2, 1) := by decide +kernel
theorem dL_law_647 : decode cL_law 647 = .ok (.aload_n 0, 1) := by decide +kernel
theorem dL_law_648 : decode cL_law 648 = .ok (.iload_n 3, 1) := by decide +kernel
theorem dL_law_649 : decode cL_law 649 = .ok (.iconst 1, 1) := by decide +kernel
theorem dL_law_650 : decode cL_law 650 = .ok (.iadd, 1) := by decide +kernel
theorem dL_law_651 : decode cL_law 651 = .ok (.iaload, 1) := by decide +kernel
theorem dL_law_652 : decode cL_law 652 = .ok (.invokevirtual 81, 3) := by decide +kernel
theorem dL_law_655 : decode cL_law 655 = .ok (.if_icmp .eq 509, 3) := by decide +kernel
theorem dL_law_658 : decode cL_law 658 = .ok (.iconst 0, 1) := by decide +kernel
theorem dL_law_659 : decode cL_law 659 = .ok (.ireturn, 1) := by decide +kernel
theorem dL_law_660 : decode cL_law 660 = .ok (.aload_n 1, 1) := by decide +kernel
theorem dL_law_661 : decode cL_law 661 = .ok (.aload_n 0, 1) := by decide +kernel
theorem dL_law_662 : decode cL_law 662 = .ok (.iload_n 3, 1) := by decide +kernel
theorem dL_law_663 : decode cL_law 663 = .ok (.iconst 1, 1) := by decide +kernel
theorem dL_law_664 : decode cL_law 664 = .ok (.iadd, 1) := by decide +kernel
theorem dL_law_665 : decode cL_law 665 = .ok (.iaload, 1) := by decide +kernel
theorem dL_law_666 : decode cL_law 666 = .ok (.invokevirtual 82, 3) := by decide +kernel
theorem dL_law_669 : decode cL_law 669 = .ok (.aload_n 2, 1) := by decide +kernel
theorem dL_law_670 : decode cL_law 670 = .ok (.aload_n 0, 1) := by decide +kernel
theorem dL_law_671 : decode cL_law 671 = .ok (.iload_n 3, 1) := by decide +kernel
theorem dL_law_672 : decode cL_law 672 = .ok (.iconst 1, 1) := by decide +kernel
theorem dL_law_673 : decode cL_law 673 = .ok (.iadd, 1) := by decide +kernel
theorem dL_law_674 : decode cL_law 674 = .ok (.iaload, 1) := by decide +kernel
theorem dL_law_675 : decode cL_law 675 = .ok (.invokevirtual 85, 3) := by decide +kernel
theorem dL_law_678 : decode cL_law 678 = .ok (.if_icmp .eq 486, 3) := by decide +kernel
theorem dL_law_681 : decode cL_law 681 = .ok (.iconst 0, 1) := by decide +kernel
theorem dL_law_682 : decode cL_law 682 = .ok (.ireturn, 1) := by decide +kernel
theorem dL_law_683 : decode cL_law 683 = .ok (.aload_n 1, 1) := by decide +kernel
theorem dL_law_684 : decode cL_law 684 = .ok (.invokevirtual 86, 3) := by decide +kernel
theorem dL_law_687 : decode cL_law 687 = .ok (.aload_n 2, 1) := by decide +kernel
theorem dL_law_688 : decode cL_law 688 = .ok (.invokevirtual 89, 3) := by decide +kernel
theorem dL_law_691 : decode cL_law 691 = .ok (.if_icmp .eq 473, 3) := by decide +kernel
theorem dL_law_694 : decode cL_law 694 = .ok (.iconst 0, 1) := by decide +kernel
theorem dL_law_695 : decode cL_law 695 = .ok (.ireturn, 1) := by decide +kernel
theorem dL_law_696 : decode cL_law 696 = .ok (.aload_n 1, 1) := by decide +kernel
theorem dL_law_697 : decode cL_law 697 = .ok (.aload_n 0, 1) := by decide +kernel
theorem dL_law_698 : decode cL_law 698 = .ok (.iload_n 3, 1) := by decide +kernel
theorem dL_law_699 : decode cL_law 699 = .ok (.iconst 1, 1) := by decide +kernel
theorem dL_law_700 : decode cL_law 700 = .ok (.iadd, 1) := by decide +kernel
theorem dL_law_701 : decode cL_law 701 = .ok (.iaload, 1) := by decide +kernel
theorem dL_law_702 : decode cL_law 702 = .ok (.invokevirtual 90, 3) := by decide +kernel
theorem dL_law_705 : decode cL_law 705 = .ok (.aload_n 2, 1) := by decide +kernel
theorem dL_law_706 : decode cL_law 706 = .ok (.aload_n 0, 1) := by decide +kernel
theorem dL_law_707 : decode cL_law 707 = .ok (.iload_n 3, 1) := by decide +kernel
theorem dL_law_708 : decode cL_law 708 = .ok (.iconst 1, 1) := by decide +kernel
theorem dL_law_709 : decode cL_law 709 = .ok (.iadd, 1) := by decide +kernel
theorem dL_law_710 : decode cL_law 710 = .ok (.iaload, 1) := by decide +kernel
theorem dL_law_711 : decode cL_law 711 = .ok (.invokevirtual 94, 3) := by decide +kernel
theorem dL_law_714 : decode cL_law 714 = .ok (.lcmp, 1) := by decide +kernel
theorem dL_law_715 : decode cL_law 715 = .ok (.ifCond .eq 449, 3) := by decide +kernel
theorem dL_law_718 : decode cL_law 718 = .ok (.iconst 0, 1) := by decide +kernel
theorem dL_law_719 : decode cL_law 719 = .ok (.ireturn, 1) := by decide +kernel
theorem dL_law_720 : decode cL_law 720 = .ok (.aload_n 1, 1) := by decide +kernel
theorem dL_law_721 : decode cL_law 721 = .ok (.aload_n 0, 1) := by decide +kernel
theorem dL_law_722 : decode cL_law 722 = .ok (.iload_n 3, 1) := by decide +kernel
theorem dL_law_723 : decode cL_law 723 = .ok (.iconst 1, 1) := by decide +kernel
theorem dL_law_724 : decode cL_law 724 = .ok (.iadd, 1) := by decide +kernel
theorem dL_law_725 : decode cL_law 725 = .ok (.iaload, 1) := by decide +kernel
theorem dL_law_726 : decode cL_law 726 = .ok (.aload_n 0, 1) := by decide +kernel
theorem dL_law_727 : decode cL_law 727 = .ok (.iload_n 3, 1) := by decide +kernel
theorem dL_law_728 : decode cL_law 728 = .ok (.iconst 2, 1) := by decide +kernel
theorem dL_law_729 : decode cL_law 729 = .ok (.iadd, 1) := by decide +kernel
theorem dL_law_730 : decode cL_law 730 = .ok (.iaload, 1) := by decide +kernel
theorem dL_law_731 : decode cL_law 731 = .ok (.invokevirtual 95, 3) := by decide +kernel
theorem dL_law_734 : decode cL_law 734 = .ok (.aload_n 2, 1) := by decide +kernel
theorem dL_law_735 : decode cL_law 735 = .ok (.aload_n 0, 1) := by decide +kernel
theorem dL_law_736 : decode cL_law 736 = .ok (.iload_n 3, 1) := by decide +kernel
theorem dL_law_737 : decode cL_law 737 = .ok (.iconst 1, 1) := by decide +kernel
theorem dL_law_738 : decode cL_law 738 = .ok (.iadd, 1) := by decide +kernel
theorem dL_law_739 : decode cL_law 739 = .ok (.iaload, 1) := by decide +kernel
theorem dL_law_740 : decode cL_law 740 = .ok (.aload_n 0, 1) := by decide +kernel
theorem dL_law_741 : decode cL_law 741 = .ok (.iload_n 3, 1) := by decide +kernel
theorem dL_law_742 : decode cL_law 742 = .ok (.iconst 2, 1) := by decide +kernel
theorem dL_law_743 : decode cL_law 743 = .ok (.iadd, 1) := by decide +kernel
theorem dL_law_744 : decode cL_law 744 = .ok (.iaload, 1) := by decide +kernel
theorem dL_law_745 : decode cL_law 745 = .ok (.invokevirtual 99, 3) := by decide +kernel
theorem dL_law_748 : decode cL_law 748 = .ok (.lcmp, 1) := by decide +kernel
theorem dL_law_749 : decode cL_law 749 = .ok (.ifCond .eq 415, 3) := by decide +kernel
theorem dL_law_752 : decode cL_law 752 = .ok (.iconst 0, 1) := by decide +kernel
theorem dL_law_753 : decode cL_law 753 = .ok (.ireturn, 1) := by decide +kernel
theorem dL_law_754 : decode cL_law 754 = .ok (.aload_n 1, 1) := by decide +kernel
theorem dL_law_755 : decode cL_law 755 = .ok (.aload_n 0, 1) := by decide +kernel
theorem dL_law_756 : decode cL_law 756 = .ok (.iload_n 3, 1) := by decide +kernel
theorem dL_law_757 : decode cL_law 757 = .ok (.iconst 1, 1) := by decide +kernel
theorem dL_law_758 : decode cL_law 758 = .ok (.iadd, 1) := by decide +kernel
theorem dL_law_759 : decode cL_law 759 = .ok (.iaload, 1) := by decide +kernel
theorem dL_law_760 : decode cL_law 760 = .ok (.invokevirtual 100, 3) := by decide +kernel
theorem dL_law_763 : decode cL_law 763 = .ok (.aload_n 2, 1) := by decide +kernel
theorem dL_law_764 : decode cL_law 764 = .ok (.aload_n 0, 1) := by decide +kernel
theorem dL_law_765 : decode cL_law 765 = .ok (.iload_n 3, 1) := by decide +kernel
theorem dL_law_766 : decode cL_law 766 = .ok (.iconst 1, 1) := by decide +kernel
theorem dL_law_767 : decode cL_law 767 = .ok (.iadd, 1) := by decide +kernel
theorem dL_law_768 : decode cL_law 768 = .ok (.iaload, 1) := by decide +kernel
theorem dL_law_769 : decode cL_law 769 = .ok (.invokevirtual 103, 3) := by decide +kernel
theorem dL_law_772 : decode cL_law 772 = .ok (.lcmp, 1) := by decide +kernel
theorem dL_law_773 : decode cL_law 773 = .ok (.ifCond .eq 391, 3) := by decide +kernel
theorem dL_law_776 : decode cL_law 776 = .ok (.iconst 0, 1) := by decide +kernel
theorem dL_law_777 : decode cL_law 777 = .ok (.ireturn, 1) := by decide +kernel
theorem dL_law_778 : decode cL_law 778 = .ok (.aload_n 1, 1) := by decide +kernel
theorem dL_law_779 : decode cL_law 779 = .ok (.aload_n 0, 1) := by decide +kernel
theorem dL_law_780 : decode cL_law 780 = .ok (.iload_n 3, 1) := by decide +kernel
theorem dL_law_781 : decode cL_law 781 = .ok (.iconst 1, 1) := by decide +kernel
theorem dL_law_782 : decode cL_law 782 = .ok (.iadd, 1) := by decide +kernel
theorem dL_law_783 : decode cL_law 783 = .ok (.iaload, 1) := by decide +kernel
theorem dL_law_784 : decode cL_law 784 = .ok (.aload_n 0, 1) := by decide +kernel
theorem dL_law_785 : decode cL_law 785 = .ok (.iload_n 3, 1) := by decide +kernel
theorem dL_law_786 : decode cL_law 786 = .ok (.iconst 2, 1) := by decide +kernel
theorem dL_law_787 : decode cL_law 787 = .ok (.iadd, 1) := by decide +kernel
theorem dL_law_788 : decode cL_law 788 = .ok (.iaload, 1) := by decide +kernel
theorem dL_law_789 : decode cL_law 789 = .ok (.aload_n 0, 1) := by decide +kernel
theorem dL_law_790 : decode cL_law 790 = .ok (.iload_n 3, 1) := by decide +kernel
theorem dL_law_791 : decode cL_law 791 = .ok (.iconst 3, 1) := by decide +kernel
theorem dL_law_792 : decode cL_law 792 = .ok (.iadd, 1) := by decide +kernel
theorem dL_law_793 : decode cL_law 793 = .ok (.iaload, 1) := by decide +kernel
theorem dL_law_794 : decode cL_law 794 = .ok (.invokevirtual 104, 3) := by decide +kernel
theorem dL_law_797 : decode cL_law 797 = .ok (.aload_n 2, 1) := by decide +kernel
theorem dL_law_798 : decode cL_law 798 = .ok (.aload_n 0, 1) := by decide +kernel
theorem dL_law_799 : decode cL_law 799 = .ok (.iload_n 3, 1) := by decide +kernel
theorem dL_law_800 : decode cL_law 800 = .ok (.iconst 1, 1) := by decide +kernel
theorem dL_law_801 : decode cL_law 801 = .ok (.iadd, 1) := by decide +kernel
theorem dL_law_802 : decode cL_law 802 = .ok (.iaload, 1) := by decide +kernel
theorem dL_law_803 : decode cL_law 803 = .ok (.aload_n 0, 1) := by decide +kernel
theorem dL_law_804 : decode cL_law 804 = .ok (.iload_n 3, 1) := by decide +kernel
theorem dL_law_805 : decode cL_law 805 = .ok (.iconst 2, 1) := by decide +kernel
theorem dL_law_806 : decode cL_law 806 = .ok (.iadd, 1) := by decide +kernel
theorem dL_law_807 : decode cL_law 807 = .ok (.iaload, 1) := by decide +kernel
theorem dL_law_808 : decode cL_law 808 = .ok (.aload_n 0, 1) := by decide +kernel
theorem dL_law_809 : decode cL_law 809 = .ok (.iload_n 3, 1) := by decide +kernel
theorem dL_law_810 : decode cL_law 810 = .ok (.iconst 3, 1) := by decide +kernel
theorem dL_law_811 : decode cL_law 811 = .ok (.iadd, 1) := by decide +kernel
theorem dL_law_812 : decode cL_law 812 = .ok (.iaload, 1) := by decide +kernel
theorem dL_law_813 : decode cL_law 813 = .ok (.invokevirtual 108, 3) := by decide +kernel
theorem dL_law_816 : decode cL_law 816 = .ok (.lcmp, 1) := by decide +kernel
theorem dL_law_817 : decode cL_law 817 = .ok (.ifCond .eq 347, 3) := by decide +kernel
theorem dL_law_820 : decode cL_law 820 = .ok (.iconst 0, 1) := by decide +kernel
theorem dL_law_821 : decode cL_law 821 = .ok (.ireturn, 1) := by decide +kernel
theorem dL_law_822 : decode cL_law 822 = .ok (.aload_n 1, 1) := by decide +kernel
theorem dL_law_823 : decode cL_law 823 = .ok (.aload_n 0, 1) := by decide +kernel
theorem dL_law_824 : decode cL_law 824 = .ok (.iload_n 3, 1) := by decide +kernel
theorem dL_law_825 : decode cL_law 825 = .ok (.iconst 1, 1) := by decide +kernel
theorem dL_law_826 : decode cL_law 826 = .ok (.iadd, 1) := by decide +kernel
theorem dL_law_827 : decode cL_law 827 = .ok (.iaload, 1) := by decide +kernel
theorem dL_law_828 : decode cL_law 828 = .ok (.aload_n 0, 1) := by decide +kernel
theorem dL_law_829 : decode cL_law 829 = .ok (.iload_n 3, 1) := by decide +kernel
theorem dL_law_830 : decode cL_law 830 = .ok (.iconst 2, 1) := by decide +kernel
theorem dL_law_831 : decode cL_law 831 = .ok (.iadd, 1) := by decide +kernel
theorem dL_law_832 : decode cL_law 832 = .ok (.iaload, 1) := by decide +kernel
theorem dL_law_833 : decode cL_law 833 = .ok (.aload_n 0, 1) := by decide +kernel
theorem dL_law_834 : decode cL_law 834 = .ok (.iload_n 3, 1) := by decide +kernel
theorem dL_law_835 : decode cL_law 835 = .ok (.iconst 3, 1) := by decide +kernel
theorem dL_law_836 : decode cL_law 836 = .ok (.iadd, 1) := by decide +kernel
theorem dL_law_837 : decode cL_law 837 = .ok (.iaload, 1) := by decide +kernel
theorem dL_law_838 : decode cL_law 838 = .ok (.invokevirtual 109, 3) := by decide +kernel
theorem dL_law_841 : decode cL_law 841 = .ok (.aload_n 2, 1) := by decide +kernel
theorem dL_law_842 : decode cL_law 842 = .ok (.aload_n 0, 1) := by decide +kernel
theorem dL_law_843 : decode cL_law 843 = .ok (.iload_n 3, 1) := by decide +kernel
theorem dL_law_844 : decode cL_law 844 = .ok (.iconst 1, 1) := by decide +kernel
theorem dL_law_845 : decode cL_law 845 = .ok (.iadd, 1) := by decide +kernel
theorem dL_law_846 : decode cL_law 846 = .ok (.iaload, 1) := by decide +kernel
theorem dL_law_847 : decode cL_law 847 = .ok (.aload_n 0, 1) := by decide +kernel
theorem dL_law_848 : decode cL_law 848 = .ok (.iload_n 3, 1) := by decide +kernel
theorem dL_law_849 : decode cL_law 849 = .ok (.iconst 2, 1) := by decide +kernel
theorem dL_law_850 : decode cL_law 850 = .ok (.iadd, 1) := by decide +kernel
theorem dL_law_851 : decode cL_law 851 = .ok (.iaload, 1) := by decide +kernel
theorem dL_law_852 : decode cL_law 852 = .ok (.aload_n 0, 1) := by decide +kernel
theorem dL_law_853 : decode cL_law 853 = .ok (.iload_n 3, 1) := by decide +kernel
theorem dL_law_854 : decode cL_law 854 = .ok (.iconst 3, 1) := by decide +kernel
theorem dL_law_855 : decode cL_law 855 = .ok (.iadd, 1) := by decide +kernel
theorem dL_law_856 : decode cL_law 856 = .ok (.iaload, 1) := by decide +kernel
theorem dL_law_857 : decode cL_law 857 = .ok (.invokevirtual 112, 3) := by decide +kernel
theorem dL_law_860 : decode cL_law 860 = .ok (.if_icmp .eq 304, 3) := by decide +kernel
theorem dL_law_863 : decode cL_law 863 = .ok (.iconst 0, 1) := by decide +kernel
theorem dL_law_864 : decode cL_law 864 = .ok (.ireturn, 1) := by decide +kernel
theorem dL_law_865 : decode cL_law 865 = .ok (.aload_n 1, 1) := by decide +kernel
theorem dL_law_866 : decode cL_law 866 = .ok (.aload_n 0, 1) := by decide +kernel
theorem dL_law_867 : decode cL_law 867 = .ok (.iload_n 3, 1) := by decide +kernel
theorem dL_law_868 : decode cL_law 868 = .ok (.iconst 1, 1) := by decide +kernel
theorem dL_law_869 : decode cL_law 869 = .ok (.iadd, 1) := by decide +kernel
theorem dL_law_870 : decode cL_law 870 = .ok (.iaload, 1) := by decide +kernel
theorem dL_law_871 : decode cL_law 871 = .ok (.invokevirtual 113, 3) := by decide +kernel
theorem dL_law_874 : decode cL_law 874 = .ok (.aload_n 2, 1) := by decide +kernel
theorem dL_law_875 : decode cL_law 875 = .ok (.aload_n 0, 1) := by decide +kernel
theorem dL_law_876 : decode cL_law 876 = .ok (.iload_n 3, 1) := by decide +kernel
theorem dL_law_877 : decode cL_law 877 = .ok (.iconst 1, 1) := by decide +kernel
theorem dL_law_878 : decode cL_law 878 = .ok (.iadd, 1) := by decide +kernel
theorem dL_law_879 : decode cL_law 879 = .ok (.iaload, 1) := by decide +kernel
theorem dL_law_880 : decode cL_law 880 = .ok (.invokevirtual 116, 3) := by decide +kernel
theorem dL_law_883 : decode cL_law 883 = .ok (.if_icmp .eq 281, 3) := by decide +kernel
theorem dL_law_886 : decode cL_law 886 = .ok (.iconst 0, 1) := by decide +kernel
theorem dL_law_887 : decode cL_law 887 = .ok (.ireturn, 1) := by decide +kernel
theorem dL_law_888 : decode cL_law 888 = .ok (.aload_n 1, 1) := by decide +kernel
theorem dL_law_889 : decode cL_law 889 = .ok (.aload_n 0, 1) := by decide +kernel
theorem dL_law_890 : decode cL_law 890 = .ok (.iload_n 3, 1) := by decide +kernel
theorem dL_law_891 : decode cL_law 891 = .ok (.iconst 1, 1) := by decide +kernel
theorem dL_law_892 : decode cL_law 892 = .ok (.iadd, 1) := by decide +kernel
theorem dL_law_893 : decode cL_law 893 = .ok (.iaload, 1) := by decide +kernel
theorem dL_law_894 : decode cL_law 894 = .ok (.invokevirtual 117, 3) := by decide +kernel
theorem dL_law_897 : decode cL_law 897 = .ok (.aload_n 2, 1) := by decide +kernel
theorem dL_law_898 : decode cL_law 898 = .ok (.aload_n 0, 1) := by decide +kernel
theorem dL_law_899 : decode cL_law 899 = .ok (.iload_n 3, 1) := by decide +kernel
theorem dL_law_900 : decode cL_law 900 = .ok (.iconst 1, 1) := by decide +kernel
theorem dL_law_901 : decode cL_law 901 = .ok (.iadd, 1) := by decide +kernel
theorem dL_law_902 : decode cL_law 902 = .ok (.iaload, 1) := by decide +kernel
theorem dL_law_903 : decode cL_law 903 = .ok (.invokevirtual 120, 3) := by decide +kernel
theorem dL_law_906 : decode cL_law 906 = .ok (.if_icmp .eq 258, 3) := by decide +kernel
theorem dL_law_909 : decode cL_law 909 = .ok (.iconst 0, 1) := by decide +kernel
theorem dL_law_910 : decode cL_law 910 = .ok (.ireturn, 1) := by decide +kernel
theorem dL_law_911 : decode cL_law 911 = .ok (.aload_n 1, 1) := by decide +kernel
theorem dL_law_912 : decode cL_law 912 = .ok (.aload_n 0, 1) := by decide +kernel
theorem dL_law_913 : decode cL_law 913 = .ok (.iload_n 3, 1) := by decide +kernel
theorem dL_law_914 : decode cL_law 914 = .ok (.iconst 1, 1) := by decide +kernel
theorem dL_law_915 : decode cL_law 915 = .ok (.iadd, 1) := by decide +kernel
theorem dL_law_916 : decode cL_law 916 = .ok (.iaload, 1) := by decide +kernel
theorem dL_law_917 : decode cL_law 917 = .ok (.invokevirtual 121, 3) := by decide +kernel
theorem dL_law_920 : decode cL_law 920 = .ok (.aload_n 2, 1) := by decide +kernel
theorem dL_law_921 : decode cL_law 921 = .ok (.aload_n 0, 1) := by decide +kernel
theorem dL_law_922 : decode cL_law 922 = .ok (.iload_n 3, 1) := by decide +kernel
theorem dL_law_923 : decode cL_law 923 = .ok (.iconst 1, 1) := by decide +kernel
theorem dL_law_924 : decode cL_law 924 = .ok (.iadd, 1) := by decide +kernel
theorem dL_law_925 : decode cL_law 925 = .ok (.iaload, 1) := by decide +kernel
theorem dL_law_926 : decode cL_law 926 = .ok (.invokevirtual 124, 3) := by decide +kernel
theorem dL_law_929 : decode cL_law 929 = .ok (.if_icmp .eq 235, 3) := by decide +kernel
theorem dL_law_932 : decode cL_law 932 = .ok (.iconst 0, 1) := by decide +kernel
theorem dL_law_933 : decode cL_law 933 = .ok (.ireturn, 1) := by decide +kernel
theorem dL_law_934 : decode cL_law 934 = .ok (.aload_n 1, 1) := by decide +kernel
theorem dL_law_935 : decode cL_law 935 = .ok (.invokevirtual 125, 3) := by decide +kernel
theorem dL_law_938 : decode cL_law 938 = .ok (.aload_n 2, 1) := by decide +kernel
theorem dL_law_939 : decode cL_law 939 = .ok (.invokevirtual 128, 3) := by decide +kernel
theorem dL_law_942 : decode cL_law 942 = .ok (.if_icmp .eq 222, 3) := by decide +kernel
theorem dL_law_945 : decode cL_law 945 = .ok (.iconst 0, 1) := by decide +kernel
theorem dL_law_946 : decode cL_law 946 = .ok (.ireturn, 1) := by decide +kernel
theorem dL_law_947 : decode cL_law 947 = .ok (.aload_n 1, 1) := by decide +kernel
theorem dL_law_948 : decode cL_law 948 = .ok (.aload_n 0, 1) := by decide +kernel
theorem dL_law_949 : decode cL_law 949 = .ok (.iload_n 3, 1) := by decide +kernel
theorem dL_law_950 : decode cL_law 950 = .ok (.iconst 1, 1) := by decide +kernel
theorem dL_law_951 : decode cL_law 951 = .ok (.iadd, 1) := by decide +kernel
theorem dL_law_952 : decode cL_law 952 = .ok (.iaload, 1) := by decide +kernel
theorem dL_law_953 : decode cL_law 953 = .ok (.invokevirtual 129, 3) := by decide +kernel
theorem dL_law_956 : decode cL_law 956 = .ok (.aload_n 2, 1) := by decide +kernel
theorem dL_law_957 : decode cL_law 957 = .ok (.aload_n 0, 1) := by decide +kernel
theorem dL_law_958 : decode cL_law 958 = .ok (.iload_n 3, 1) := by decide +kernel
theorem dL_law_959 : decode cL_law 959 = .ok (.iconst 1, 1) := by decide +kernel
theorem dL_law_960 : decode cL_law 960 = .ok (.iadd, 1) := by decide +kernel
theorem dL_law_961 : decode cL_law 961 = .ok (.iaload, 1) := by decide +kernel
theorem dL_law_962 : decode cL_law 962 = .ok (.invokevirtual 132, 3) := by decide +kernel
theorem dL_law_965 : decode cL_law 965 = .ok (.if_icmp .eq 199, 3) := by decide +kernel
theorem dL_law_968 : decode cL_law 968 = .ok (.iconst 0, 1) := by decide +kernel
theorem dL_law_969 : decode cL_law 969 = .ok (.ireturn, 1) := by decide +kernel
theorem dL_law_970 : decode cL_law 970 = .ok (.aload_n 1, 1) := by decide +kernel
theorem dL_law_971 : decode cL_law 971 = .ok (.aload_n 0, 1) := by decide +kernel
theorem dL_law_972 : decode cL_law 972 = .ok (.iload_n 3, 1) := by decide +kernel
theorem dL_law_973 : decode cL_law 973 = .ok (.iconst 1, 1) := by decide +kernel
theorem dL_law_974 : decode cL_law 974 = .ok (.iadd, 1) := by decide +kernel
theorem dL_law_975 : decode cL_law 975 = .ok (.iaload, 1) := by decide +kernel
theorem dL_law_976 : decode cL_law 976 = .ok (.invokevirtual 133, 3) := by decide +kernel
theorem dL_law_979 : decode cL_law 979 = .ok (.aload_n 2, 1) := by decide +kernel
theorem dL_law_980 : decode cL_law 980 = .ok (.aload_n 0, 1) := by decide +kernel
theorem dL_law_981 : decode cL_law 981 = .ok (.iload_n 3, 1) := by decide +kernel
theorem dL_law_982 : decode cL_law 982 = .ok (.iconst 1, 1) := by decide +kernel
theorem dL_law_983 : decode cL_law 983 = .ok (.iadd, 1) := by decide +kernel
theorem dL_law_984 : decode cL_law 984 = .ok (.iaload, 1) := by decide +kernel
theorem dL_law_985 : decode cL_law 985 = .ok (.invokevirtual 136, 3) := by decide +kernel
theorem dL_law_988 : decode cL_law 988 = .ok (.if_icmp .eq 176, 3) := by decide +kernel
theorem dL_law_991 : decode cL_law 991 = .ok (.iconst 0, 1) := by decide +kernel
theorem dL_law_992 : decode cL_law 992 = .ok (.ireturn, 1) := by decide +kernel
theorem dL_law_993 : decode cL_law 993 = .ok (.aload_n 1, 1) := by decide +kernel
theorem dL_law_994 : decode cL_law 994 = .ok (.aload_n 0, 1) := by decide +kernel
theorem dL_law_995 : decode cL_law 995 = .ok (.iload_n 3, 1) := by decide +kernel
theorem dL_law_996 : decode cL_law 996 = .ok (.iconst 1, 1) := by decide +kernel
theorem dL_law_997 : decode cL_law 997 = .ok (.iadd, 1) := by decide +kernel
theorem dL_law_998 : decode cL_law 998 = .ok (.iaload, 1) := by decide +kernel
theorem dL_law_999 : decode cL_law 999 = .ok (.invokevirtual 137, 3) := by decide +kernel
theorem dL_law_1002 : decode cL_law 1002 = .ok (.aload_n 2, 1) := by decide +kernel
theorem dL_law_1003 : decode cL_law 1003 = .ok (.aload_n 0, 1) := by decide +kernel
theorem dL_law_1004 : decode cL_law 1004 = .ok (.iload_n 3, 1) := by decide +kernel
theorem dL_law_1005 : decode cL_law 1005 = .ok (.iconst 1, 1) := by decide +kernel
theorem dL_law_1006 : decode cL_law 1006 = .ok (.iadd, 1) := by decide +kernel
theorem dL_law_1007 : decode cL_law 1007 = .ok (.iaload, 1) := by decide +kernel
theorem dL_law_1008 : decode cL_law 1008 = .ok (.invokevirtual 140, 3) := by decide +kernel
theorem dL_law_1011 : decode cL_law 1011 = .ok (.if_icmp .eq 153, 3) := by decide +kernel
theorem dL_law_1014 : decode cL_law 1014 = .ok (.iconst 0, 1) := by decide +kernel
theorem dL_law_1015 : decode cL_law 1015 = .ok (.ireturn, 1) := by decide +kernel
theorem dL_law_1016 : decode cL_law 1016 = .ok (.aload_n 1, 1) := by decide +kernel
theorem dL_law_1017 : decode cL_law 1017 = .ok (.aload_n 0, 1) := by decide +kernel
theorem dL_law_1018 : decode cL_law 1018 = .ok (.iload_n 3, 1) := by decide +kernel
theorem dL_law_1019 : decode cL_law 1019 = .ok (.iconst 1, 1) := by decide +kernel
theorem dL_law_1020 : decode cL_law 1020 = .ok (.iadd, 1) := by decide +kernel
theorem dL_law_1021 : decode cL_law 1021 = .ok (.iaload, 1) := by decide +kernel
theorem dL_law_1022 : decode cL_law 1022 = .ok (.invokevirtual 141, 3) := by decide +kernel
theorem dL_law_1025 : decode cL_law 1025 = .ok (.aload_n 2, 1) := by decide +kernel
theorem dL_law_1026 : decode cL_law 1026 = .ok (.aload_n 0, 1) := by decide +kernel
theorem dL_law_1027 : decode cL_law 1027 = .ok (.iload_n 3, 1) := by decide +kernel
theorem dL_law_1028 : decode cL_law 1028 = .ok (.iconst 1, 1) := by decide +kernel
theorem dL_law_1029 : decode cL_law 1029 = .ok (.iadd, 1) := by decide +kernel
theorem dL_law_1030 : decode cL_law 1030 = .ok (.iaload, 1) := by decide +kernel
theorem dL_law_1031 : decode cL_law 1031 = .ok (.invokevirtual 144, 3) := by decide +kernel
theorem dL_law_1034 : decode cL_law 1034 = .ok (.if_icmp .eq 130, 3) := by decide +kernel
theorem dL_law_1037 : decode cL_law 1037 = .ok (.iconst 0, 1) := by decide +kernel
theorem dL_law_1038 : decode cL_law 1038 = .ok (.ireturn, 1) := by decide +kernel
theorem dL_law_1039 : decode cL_law 1039 = .ok (.aload_n 1, 1) := by decide +kernel
theorem dL_law_1040 : decode cL_law 1040 = .ok (.aload_n 0, 1) := by decide +kernel
theorem dL_law_1041 : decode cL_law 1041 = .ok (.iload_n 3, 1) := by decide +kernel
theorem dL_law_1042 : decode cL_law 1042 = .ok (.iconst 1, 1) := by decide +kernel
theorem dL_law_1043 : decode cL_law 1043 = .ok (.iadd, 1) := by decide +kernel
theorem dL_law_1044 : decode cL_law 1044 = .ok (.iaload, 1) := by decide +kernel
theorem dL_law_1045 : decode cL_law 1045 = .ok (.aload_n 0, 1) := by decide +kernel
theorem dL_law_1046 : decode cL_law 1046 = .ok (.iload_n 3, 1) := by decide +kernel
theorem dL_law_1047 : decode cL_law 1047 = .ok (.iconst 2, 1) := by decide +kernel
theorem dL_law_1048 : decode cL_law 1048 = .ok (.iadd, 1) := by decide +kernel
theorem dL_law_1049 : decode cL_law 1049 = .ok (.iaload, 1) := by decide +kernel
theorem dL_law_1050 : decode cL_law 1050 = .ok (.invokevirtual 145, 3) := by decide +kernel
theorem dL_law_1053 : decode cL_law 1053 = .ok (.aload_n 2, 1) := by decide +kernel

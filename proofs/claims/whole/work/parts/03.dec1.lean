theorem dX5_readsFormula_8 : decode cX5_readsFormula 8 = .ok (.ifCond .eq 14, 3) := by decide +kernel
theorem dX5_readsFormula_11 : decode cX5_readsFormula 11 = .ok (.aload_n 0, 1) := by decide +kernel
theorem dX5_readsFormula_12 : decode cX5_readsFormula 12 = .ok (.invokevirtual 53, 3) := by decide +kernel
theorem dX5_readsFormula_15 : decode cX5_readsFormula 15 = .ok (.ifCond .eq 7, 3) := by decide +kernel
theorem dX5_readsFormula_18 : decode cX5_readsFormula 18 = .ok (.iconst 1, 1) := by decide +kernel
theorem dX5_readsFormula_19 : decode cX5_readsFormula 19 = .ok (.goto 4, 3) := by decide +kernel
theorem dX5_readsFormula_22 : decode cX5_readsFormula 22 = .ok (.iconst 0, 1) := by decide +kernel
theorem dX5_readsFormula_23 : decode cX5_readsFormula 23 = .ok (.ireturn, 1) := by decide +kernel
theorem dX5_readsClaim_0 : decode cX5_readsClaim 0 = .ok (.aload_n 0, 1) := by decide +kernel
theorem dX5_readsClaim_1 : decode cX5_readsClaim 1 = .ok (.invokevirtual 46, 3) := by decide +kernel
theorem dX5_readsClaim_4 : decode cX5_readsClaim 4 = .ok (.aload_n 0, 1) := by decide +kernel
theorem dX5_readsClaim_5 : decode cX5_readsClaim 5 = .ok (.aload_n 0, 1) := by decide +kernel
theorem dX5_readsClaim_6 : decode cX5_readsClaim 6 = .ok (.getfield 17, 3) := by decide +kernel
theorem dX5_readsClaim_9 : decode cX5_readsClaim 9 = .ok (.iconst 0, 1) := by decide +kernel
theorem dX5_readsClaim_10 : decode cX5_readsClaim 10 = .ok (.aaload, 1) := by decide +kernel
theorem dX5_readsClaim_11 : decode cX5_readsClaim 11 = .ok (.invokevirtual 56, 3) := by decide +kernel
theorem dX5_readsClaim_14 : decode cX5_readsClaim 14 = .ok (.ifCond .eq 23, 3) := by decide +kernel
theorem dX5_readsClaim_17 : decode cX5_readsClaim 17 = .ok (.aload_n 0, 1) := by decide +kernel
theorem dX5_readsClaim_18 : decode cX5_readsClaim 18 = .ok (.invokevirtual 60, 3) := by decide +kernel
theorem dX5_readsClaim_21 : decode cX5_readsClaim 21 = .ok (.iconst (-1), 1) := by decide +kernel
theorem dX5_readsClaim_22 : decode cX5_readsClaim 22 = .ok (.if_icmp .eq 11, 3) := by decide +kernel
theorem dX5_readsClaim_25 : decode cX5_readsClaim 25 = .ok (.aload_n 0, 1) := by decide +kernel
theorem dX5_readsClaim_26 : decode cX5_readsClaim 26 = .ok (.iconst 1, 1) := by decide +kernel
theorem dX5_readsClaim_27 : decode cX5_readsClaim 27 = .ok (.invokevirtual 64, 3) := by decide +kernel
theorem dX5_readsClaim_30 : decode cX5_readsClaim 30 = .ok (.ifCond .eq 7, 3) := by decide +kernel
theorem dX5_readsClaim_33 : decode cX5_readsClaim 33 = .ok (.iconst 1, 1) := by decide +kernel
theorem dX5_readsClaim_34 : decode cX5_readsClaim 34 = .ok (.goto 4, 3) := by decide +kernel
theorem dX5_readsClaim_37 : decode cX5_readsClaim 37 = .ok (.iconst 0, 1) := by decide +kernel
theorem dX5_readsClaim_38 : decode cX5_readsClaim 38 = .ok (.ireturn, 1) := by decide +kernel
theorem dX5_readsClauses_0 : decode cX5_readsClauses 0 = .ok (.iconst 0, 1) := by decide +kernel
theorem dX5_readsClauses_1 : decode cX5_readsClauses 1 = .ok (.istore_n 1, 1) := by decide +kernel
theorem dX5_readsClauses_2 : decode cX5_readsClauses 2 = .ok (.iload_n 1, 1) := by decide +kernel
theorem dX5_readsClauses_3 : decode cX5_readsClauses 3 = .ok (.bipush 8, 2) := by decide +kernel
theorem dX5_readsClauses_5 : decode cX5_readsClauses 5 = .ok (.if_icmp .gt 102, 3) := by decide +kernel
theorem dX5_readsClauses_8 : decode cX5_readsClauses 8 = .ok (.aload_n 0, 1) := by decide +kernel
theorem dX5_readsClauses_9 : decode cX5_readsClauses 9 = .ok (.invokevirtual 60, 3) := by decide +kernel
theorem dX5_readsClauses_12 : decode cX5_readsClauses 12 = .ok (.bipush 112, 2) := by decide +kernel
theorem dX5_readsClauses_14 : decode cX5_readsClauses 14 = .ok (.if_icmp .eq 21, 3) := by decide +kernel
theorem dX5_readsClauses_17 : decode cX5_readsClauses 17 = .ok (.aload_n 0, 1) := by decide +kernel
theorem dX5_readsClauses_18 : decode cX5_readsClauses 18 = .ok (.invokevirtual 60, 3) := by decide +kernel
theorem dX5_readsClauses_21 : decode cX5_readsClauses 21 = .ok (.bipush 110, 2) := by decide +kernel
theorem dX5_readsClauses_23 : decode cX5_readsClauses 23 = .ok (.if_icmp .eq 12, 3) := by decide +kernel
theorem dX5_readsClauses_26 : decode cX5_readsClauses 26 = .ok (.aload_n 0, 1) := by decide +kernel
theorem dX5_readsClauses_27 : decode cX5_readsClauses 27 = .ok (.invokevirtual 60, 3) := by decide +kernel
theorem dX5_readsClauses_30 : decode cX5_readsClauses 30 = .ok (.bipush 103, 2) := by decide +kernel
theorem dX5_readsClauses_32 : decode cX5_readsClauses 32 = .ok (.if_icmp .ne 7, 3) := by decide +kernel
theorem dX5_readsClauses_35 : decode cX5_readsClauses 35 = .ok (.iconst 1, 1) := by decide +kernel
theorem dX5_readsClauses_36 : decode cX5_readsClauses 36 = .ok (.goto 4, 3) := by decide +kernel
theorem dX5_readsClauses_39 : decode cX5_readsClauses 39 = .ok (.iconst 0, 1) := by decide +kernel
theorem dX5_readsClauses_40 : decode cX5_readsClauses 40 = .ok (.istore_n 2, 1) := by decide +kernel
theorem dX5_readsClauses_41 : decode cX5_readsClauses 41 = .ok (.iload_n 2, 1) := by decide +kernel
theorem dX5_readsClauses_42 : decode cX5_readsClauses 42 = .ok (.ifCond .ne 12, 3) := by decide +kernel
theorem dX5_readsClauses_45 : decode cX5_readsClauses 45 = .ok (.aload_n 0, 1) := by decide +kernel
theorem dX5_readsClauses_46 : decode cX5_readsClauses 46 = .ok (.getfield 37, 3) := by decide +kernel
theorem dX5_readsClauses_49 : decode cX5_readsClauses 49 = .ok (.ifCond .le 5, 3) := by decide +kernel
theorem dX5_readsClauses_52 : decode cX5_readsClauses 52 = .ok (.iconst 1, 1) := by decide +kernel
theorem dX5_readsClauses_53 : decode cX5_readsClauses 53 = .ok (.ireturn, 1) := by decide +kernel
theorem dX5_readsClauses_54 : decode cX5_readsClauses 54 = .ok (.iload_n 2, 1) := by decide +kernel
theorem dX5_readsClauses_55 : decode cX5_readsClauses 55 = .ok (.ifCond .eq 18, 3) := by decide +kernel
theorem dX5_readsClauses_58 : decode cX5_readsClauses 58 = .ok (.aload_n 0, 1) := by decide +kernel
theorem dX5_readsClauses_59 : decode cX5_readsClauses 59 = .ok (.getfield 37, 3) := by decide +kernel
theorem dX5_readsClauses_62 : decode cX5_readsClauses 62 = .ok (.bipush 8, 2) := by decide +kernel
theorem dX5_readsClauses_64 : decode cX5_readsClauses 64 = .ok (.if_icmp .ne 9, 3) := by decide +kernel
theorem dX5_readsClauses_67 : decode cX5_readsClauses 67 = .ok (.aload_n 0, 1) := by decide +kernel
theorem dX5_readsClauses_68 : decode cX5_readsClauses 68 = .ok (.iconst 3, 1) := by decide +kernel
theorem dX5_readsClauses_69 : decode cX5_readsClauses 69 = .ok (.invokevirtual 64, 3) := by decide +kernel
theorem dX5_readsClauses_72 : decode cX5_readsClauses 72 = .ok (.ireturn, 1) := by decide +kernel
theorem dX5_readsClauses_73 : decode cX5_readsClauses 73 = .ok (.aload_n 0, 1) := by decide +kernel
theorem dX5_readsClauses_74 : decode cX5_readsClauses 74 = .ok (.aload_n 0, 1) := by decide +kernel
theorem dX5_readsClauses_75 : decode cX5_readsClauses 75 = .ok (.getfield 17, 3) := by decide +kernel
theorem dX5_readsClauses_78 : decode cX5_readsClauses 78 = .ok (.aload_n 0, 1) := by decide +kernel
theorem dX5_readsClauses_79 : decode cX5_readsClauses 79 = .ok (.getfield 37, 3) := by decide +kernel
theorem dX5_readsClauses_82 : decode cX5_readsClauses 82 = .ok (.aaload, 1) := by decide +kernel
theorem dX5_readsClauses_83 : decode cX5_readsClauses 83 = .ok (.invokevirtual 56, 3) := by decide +kernel
theorem dX5_readsClauses_86 : decode cX5_readsClauses 86 = .ok (.ifCond .ne 5, 3) := by decide +kernel
theorem dX5_readsClauses_89 : decode cX5_readsClauses 89 = .ok (.iconst 0, 1) := by decide +kernel
theorem dX5_readsClauses_90 : decode cX5_readsClauses 90 = .ok (.ireturn, 1) := by decide +kernel
theorem dX5_readsClauses_91 : decode cX5_readsClauses 91 = .ok (.aload_n 0, 1) := by decide +kernel
theorem dX5_readsClauses_92 : decode cX5_readsClauses 92 = .ok (.dup, 1) := by decide +kernel
theorem dX5_readsClauses_93 : decode cX5_readsClauses 93 = .ok (.getfield 37, 3) := by decide +kernel
theorem dX5_readsClauses_96 : decode cX5_readsClauses 96 = .ok (.iconst 1, 1) := by decide +kernel
theorem dX5_readsClauses_97 : decode cX5_readsClauses 97 = .ok (.iadd, 1) := by decide +kernel
theorem dX5_readsClauses_98 : decode cX5_readsClauses 98 = .ok (.putfield 37, 3) := by decide +kernel
theorem dX5_readsClauses_101 : decode cX5_readsClauses 101 = .ok (.iinc 1 1, 3) := by decide +kernel
theorem dX5_readsClauses_104 : decode cX5_readsClauses 104 = .ok (.goto (-102), 3) := by decide +kernel
theorem dX5_readsClauses_107 : decode cX5_readsClauses 107 = .ok (.iconst 0, 1) := by decide +kernel
theorem dX5_readsClauses_108 : decode cX5_readsClauses 108 = .ok (.ireturn, 1) := by decide +kernel
theorem dX5_readsClause_0 : decode cX5_readsClause 0 = .ok (.aload_n 1, 1) := by decide +kernel
theorem dX5_readsClause_1 : decode cX5_readsClause 1 = .ok (.invokevirtual 68, 3) := by decide +kernel
theorem dX5_readsClause_4 : decode cX5_readsClause 4 = .ok (.iconst 0, 1) := by decide +kernel
theorem dX5_readsClause_5 : decode cX5_readsClause 5 = .ok (.istore_n 2, 1) := by decide +kernel
theorem dX5_readsClause_6 : decode cX5_readsClause 6 = .ok (.iconst 0, 1) := by decide +kernel
theorem dX5_readsClause_7 : decode cX5_readsClause 7 = .ok (.istore_n 3, 1) := by decide +kernel
theorem dX5_readsClause_8 : decode cX5_readsClause 8 = .ok (.iload_n 3, 1) := by decide +kernel
theorem dX5_readsClause_9 : decode cX5_readsClause 9 = .ok (.bipush 8, 2) := by decide +kernel
theorem dX5_readsClause_11 : decode cX5_readsClause 11 = .ok (.if_icmp .gt 143, 3) := by decide +kernel
theorem dX5_readsClause_14 : decode cX5_readsClause 14 = .ok (.aload_n 0, 1) := by decide +kernel
theorem dX5_readsClause_15 : decode cX5_readsClause 15 = .ok (.invokevirtual 60, 3) := by decide +kernel
theorem dX5_readsClause_18 : decode cX5_readsClause 18 = .ok (.istore 4, 2) := by decide +kernel
theorem dX5_readsClause_20 : decode cX5_readsClause 20 = .ok (.iload 4, 2) := by decide +kernel
theorem dX5_readsClause_22 : decode cX5_readsClause 22 = .ok (.bipush 103, 2) := by decide +kernel
theorem dX5_readsClause_24 : decode cX5_readsClause 24 = .ok (.if_icmp .ne 9, 3) := by decide +kernel
theorem dX5_readsClause_27 : decode cX5_readsClause 27 = .ok (.aload_n 0, 1) := by decide +kernel
theorem dX5_readsClause_28 : decode cX5_readsClause 28 = .ok (.aload_n 1, 1) := by decide +kernel
theorem dX5_readsClause_29 : decode cX5_readsClause 29 = .ok (.invokevirtual 71, 3) := by decide +kernel
theorem dX5_readsClause_32 : decode cX5_readsClause 32 = .ok (.ireturn, 1) := by decide +kernel
theorem dX5_readsClause_33 : decode cX5_readsClause 33 = .ok (.iload 4, 2) := by decide +kernel
theorem dX5_readsClause_35 : decode cX5_readsClause 35 = .ok (.bipush 112, 2) := by decide +kernel
theorem dX5_readsClause_37 : decode cX5_readsClause 37 = .ok (.if_icmp .eq 16, 3) := by decide +kernel
theorem dX5_readsClause_40 : decode cX5_readsClause 40 = .ok (.iload 4, 2) := by decide +kernel
theorem dX5_readsClause_42 : decode cX5_readsClause 42 = .ok (.bipush 110, 2) := by decide +kernel
theorem dX5_readsClause_44 : decode cX5_readsClause 44 = .ok (.if_icmp .eq 9, 3) := by decide +kernel
theorem dX5_readsClause_47 : decode cX5_readsClause 47 = .ok (.aload_n 0, 1) := by decide +kernel
theorem dX5_readsClause_48 : decode cX5_readsClause 48 = .ok (.iconst 1, 1) := by decide +kernel
theorem dX5_readsClause_49 : decode cX5_readsClause 49 = .ok (.invokevirtual 64, 3) := by decide +kernel
theorem dX5_readsClause_52 : decode cX5_readsClause 52 = .ok (.ireturn, 1) := by decide +kernel
theorem dX5_readsClause_53 : decode cX5_readsClause 53 = .ok (.aload_n 0, 1) := by decide +kernel
theorem dX5_readsClause_54 : decode cX5_readsClause 54 = .ok (.dup, 1) := by decide +kernel
theorem dX5_readsClause_55 : decode cX5_readsClause 55 = .ok (.getfield 34, 3) := by decide +kernel
theorem dX5_readsClause_58 : decode cX5_readsClause 58 = .ok (.iconst 1, 1) := by decide +kernel
theorem dX5_readsClause_59 : decode cX5_readsClause 59 = .ok (.iadd, 1) := by decide +kernel
theorem dX5_readsClause_60 : decode cX5_readsClause 60 = .ok (.putfield 34, 3) := by decide +kernel
theorem dX5_readsClause_63 : decode cX5_readsClause 63 = .ok (.aload_n 0, 1) := by decide +kernel
theorem dX5_readsClause_64 : decode cX5_readsClause 64 = .ok (.iconst 0, 1) := by decide +kernel
theorem dX5_readsClause_65 : decode cX5_readsClause 65 = .ok (.bipush 7, 2) := by decide +kernel
theorem dX5_readsClause_67 : decode cX5_readsClause 67 = .ok (.iload_n 2, 1) := by decide +kernel
theorem dX5_readsClause_68 : decode cX5_readsClause 68 = .ok (.invokevirtual 74, 3) := by decide +kernel
theorem dX5_readsClause_71 : decode cX5_readsClause 71 = .ok (.ifCond .ne 5, 3) := by decide +kernel
theorem dX5_readsClause_74 : decode cX5_readsClause 74 = .ok (.iconst 0, 1) := by decide +kernel
theorem dX5_readsClause_75 : decode cX5_readsClause 75 = .ok (.ireturn, 1) := by decide +kernel
theorem dX5_readsClause_76 : decode cX5_readsClause 76 = .ok (.aload_n 0, 1) := by decide +kernel
theorem dX5_readsClause_77 : decode cX5_readsClause 77 = .ok (.getfield 78, 3) := by decide +kernel
theorem dX5_readsClause_80 : decode cX5_readsClause 80 = .ok (.istore 5, 2) := by decide +kernel
theorem dX5_readsClause_82 : decode cX5_readsClause 82 = .ok (.iload_n 2, 1) := by decide +kernel
theorem dX5_readsClause_83 : decode cX5_readsClause 83 = .ok (.iconst 1, 1) := by decide +kernel
theorem dX5_readsClause_84 : decode cX5_readsClause 84 = .ok (.iload 5, 2) := by decide +kernel
theorem dX5_readsClause_86 : decode cX5_readsClause 86 = .ok (.ishl, 1) := by decide +kernel
theorem dX5_readsClause_87 : decode cX5_readsClause 87 = .ok (.ior, 1) := by decide +kernel
theorem dX5_readsClause_88 : decode cX5_readsClause 88 = .ok (.istore_n 2, 1) := by decide +kernel
theorem dX5_readsClause_89 : decode cX5_readsClause 89 = .ok (.aload_n 0, 1) := by decide +kernel
theorem dX5_readsClause_90 : decode cX5_readsClause 90 = .ok (.bipush 44, 2) := by decide +kernel
theorem dX5_readsClause_92 : decode cX5_readsClause 92 = .ok (.invokevirtual 81, 3) := by decide +kernel
theorem dX5_readsClause_95 : decode cX5_readsClause 95 = .ok (.ifCond .eq 23, 3) := by decide +kernel
theorem dX5_readsClause_98 : decode cX5_readsClause 98 = .ok (.aload_n 0, 1) := by decide +kernel
theorem dX5_readsClause_99 : decode cX5_readsClause 99 = .ok (.iconst 1, 1) := by decide +kernel
theorem dX5_readsClause_100 : decode cX5_readsClause 100 = .ok (.bipush 99, 2) := by decide +kernel
theorem dX5_readsClause_102 : decode cX5_readsClause 102 = .ok (.iconst 0, 1) := by decide +kernel
theorem dX5_readsClause_103 : decode cX5_readsClause 103 = .ok (.invokevirtual 74, 3) := by decide +kernel
theorem dX5_readsClause_106 : decode cX5_readsClause 106 = .ok (.ifCond .eq 12, 3) := by decide +kernel
theorem dX5_readsClause_109 : decode cX5_readsClause 109 = .ok (.aload_n 0, 1) := by decide +kernel
theorem dX5_readsClause_110 : decode cX5_readsClause 110 = .ok (.bipush 59, 2) := by decide +kernel
theorem dX5_readsClause_112 : decode cX5_readsClause 112 = .ok (.invokevirtual 81, 3) := by decide +kernel
theorem dX5_readsClause_115 : decode cX5_readsClause 115 = .ok (.ifCond .ne 5, 3) := by decide +kernel
theorem dX5_readsClause_118 : decode cX5_readsClause 118 = .ok (.iconst 0, 1) := by decide +kernel
theorem dX5_readsClause_119 : decode cX5_readsClause 119 = .ok (.ireturn, 1) := by decide +kernel
theorem dX5_readsClause_120 : decode cX5_readsClause 120 = .ok (.aload_n 1, 1) := by decide +kernel
theorem dX5_readsClause_121 : decode cX5_readsClause 121 = .ok (.getfield 84, 3) := by decide +kernel
theorem dX5_readsClause_124 : decode cX5_readsClause 124 = .ok (.iload 5, 2) := by decide +kernel
theorem dX5_readsClause_126 : decode cX5_readsClause 126 = .ok (.iload 4, 2) := by decide +kernel
theorem dX5_readsClause_128 : decode cX5_readsClause 128 = .ok (.bipush 112, 2) := by decide +kernel
theorem dX5_readsClause_130 : decode cX5_readsClause 130 = .ok (.if_icmp .ne 11, 3) := by decide +kernel
theorem dX5_readsClause_133 : decode cX5_readsClause 133 = .ok (.aload_n 0, 1) := by decide +kernel
theorem dX5_readsClause_134 : decode cX5_readsClause 134 = .ok (.getfield 78, 3) := by decide +kernel
theorem dX5_readsClause_137 : decode cX5_readsClause 137 = .ok (.i2l, 1) := by decide +kernel
theorem dX5_readsClause_138 : decode cX5_readsClause 138 = .ok (.goto 9, 3) := by decide +kernel
theorem dX5_readsClause_141 : decode cX5_readsClause 141 = .ok (.aload_n 0, 1) := by decide +kernel
theorem dX5_readsClause_142 : decode cX5_readsClause 142 = .ok (.getfield 78, 3) := by decide +kernel
theorem dX5_readsClause_145 : decode cX5_readsClause 145 = .ok (.ineg, 1) := by decide +kernel
theorem dX5_readsClause_146 : decode cX5_readsClause 146 = .ok (.i2l, 1) := by decide +kernel
theorem dX5_readsClause_147 : decode cX5_readsClause 147 = .ok (.lastore, 1) := by decide +kernel
theorem dX5_readsClause_148 : decode cX5_readsClause 148 = .ok (.iinc 3 1, 3) := by decide +kernel
theorem dX5_readsClause_151 : decode cX5_readsClause 151 = .ok (.goto (-143), 3) := by decide +kernel
theorem dX5_readsClause_154 : decode cX5_readsClause 154 = .ok (.iconst 0, 1) := by decide +kernel
theorem dX5_readsClause_155 : decode cX5_readsClause 155 = .ok (.ireturn, 1) := by decide +kernel
theorem dX5_readsDegree_0 : decode cX5_readsDegree 0 = .ok (.aload_n 0, 1) := by decide +kernel
theorem dX5_readsDegree_1 : decode cX5_readsDegree 1 = .ok (.dup, 1) := by decide +kernel
theorem dX5_readsDegree_2 : decode cX5_readsDegree 2 = .ok (.getfield 34, 3) := by decide +kernel
theorem dX5_readsDegree_5 : decode cX5_readsDegree 5 = .ok (.iconst 1, 1) := by decide +kernel
theorem dX5_readsDegree_6 : decode cX5_readsDegree 6 = .ok (.iadd, 1) := by decide +kernel
theorem dX5_readsDegree_7 : decode cX5_readsDegree 7 = .ok (.putfield 34, 3) := by decide +kernel
theorem dX5_readsDegree_10 : decode cX5_readsDegree 10 = .ok (.aload_n 0, 1) := by decide +kernel
theorem dX5_readsDegree_11 : decode cX5_readsDegree 11 = .ok (.iconst 0, 1) := by decide +kernel
theorem dX5_readsDegree_12 : decode cX5_readsDegree 12 = .ok (.bipush 99, 2) := by decide +kernel
theorem dX5_readsDegree_14 : decode cX5_readsDegree 14 = .ok (.iconst 0, 1) := by decide +kernel
theorem dX5_readsDegree_15 : decode cX5_readsDegree 15 = .ok (.invokevirtual 74, 3) := by decide +kernel
theorem dX5_readsDegree_18 : decode cX5_readsDegree 18 = .ok (.ifCond .ne 5, 3) := by decide +kernel
theorem dX5_readsDegree_21 : decode cX5_readsDegree 21 = .ok (.iconst 0, 1) := by decide +kernel
theorem dX5_readsDegree_22 : decode cX5_readsDegree 22 = .ok (.ireturn, 1) := by decide +kernel
theorem dX5_readsDegree_23 : decode cX5_readsDegree 23 = .ok (.aload_n 1, 1) := by decide +kernel
theorem dX5_readsDegree_24 : decode cX5_readsDegree 24 = .ok (.aload_n 0, 1) := by decide +kernel
theorem dX5_readsDegree_25 : decode cX5_readsDegree 25 = .ok (.getfield 78, 3) := by decide +kernel
theorem dX5_readsDegree_28 : decode cX5_readsDegree 28 = .ok (.i2l, 1) := by decide +kernel
theorem dX5_readsDegree_29 : decode cX5_readsDegree 29 = .ok (.putfield 88, 3) := by decide +kernel
theorem dX5_readsDegree_32 : decode cX5_readsDegree 32 = .ok (.aload_n 0, 1) := by decide +kernel
theorem dX5_readsDegree_33 : decode cX5_readsDegree 33 = .ok (.bipush 59, 2) := by decide +kernel
theorem dX5_readsDegree_35 : decode cX5_readsDegree 35 = .ok (.invokevirtual 81, 3) := by decide +kernel
theorem dX5_readsDegree_38 : decode cX5_readsDegree 38 = .ok (.ireturn, 1) := by decide +kernel
theorem dX5_readsPrices_0 : decode cX5_readsPrices 0 = .ok (.iconst 0, 1) := by decide +kernel
theorem dX5_readsPrices_1 : decode cX5_readsPrices 1 = .ok (.istore_n 1, 1) := by decide +kernel
theorem dX5_readsPrices_2 : decode cX5_readsPrices 2 = .ok (.iconst 0, 1) := by decide +kernel
theorem dX5_readsPrices_3 : decode cX5_readsPrices 3 = .ok (.istore_n 2, 1) := by decide +kernel
theorem dX5_readsPrices_4 : decode cX5_readsPrices 4 = .ok (.iload_n 2, 1) := by decide +kernel
theorem dX5_readsPrices_5 : decode cX5_readsPrices 5 = .ok (.bipush 8, 2) := by decide +kernel
theorem dX5_readsPrices_7 : decode cX5_readsPrices 7 = .ok (.if_icmp .gt 93, 3) := by decide +kernel
theorem dX5_readsPrices_10 : decode cX5_readsPrices 10 = .ok (.aload_n 0, 1) := by decide +kernel
theorem dX5_readsPrices_11 : decode cX5_readsPrices 11 = .ok (.invokevirtual 60, 3) := by decide +kernel
theorem dX5_readsPrices_14 : decode cX5_readsPrices 14 = .ok (.iconst (-1), 1) := by decide +kernel
theorem dX5_readsPrices_15 : decode cX5_readsPrices 15 = .ok (.if_icmp .ne 5, 3) := by decide +kernel
theorem dX5_readsPrices_18 : decode cX5_readsPrices 18 = .ok (.iconst 1, 1) := by decide +kernel
theorem dX5_readsPrices_19 : decode cX5_readsPrices 19 = .ok (.ireturn, 1) := by decide +kernel
theorem dX5_readsPrices_20 : decode cX5_readsPrices 20 = .ok (.aload_n 0, 1) := by decide +kernel
theorem dX5_readsPrices_21 : decode cX5_readsPrices 21 = .ok (.bipush 109, 2) := by decide +kernel
theorem dX5_readsPrices_23 : decode cX5_readsPrices 23 = .ok (.invokevirtual 81, 3) := by decide +kernel
theorem dX5_readsPrices_26 : decode cX5_readsPrices 26 = .ok (.ifCond .eq 14, 3) := by decide +kernel
theorem dX5_readsPrices_29 : decode cX5_readsPrices 29 = .ok (.aload_n 0, 1) := by decide +kernel
theorem dX5_readsPrices_30 : decode cX5_readsPrices 30 = .ok (.iconst 0, 1) := by decide +kernel
theorem dX5_readsPrices_31 : decode cX5_readsPrices 31 = .ok (.bipush 7, 2) := by decide +kernel
theorem dX5_readsPrices_33 : decode cX5_readsPrices 33 = .ok (.iload_n 1, 1) := by decide +kernel
theorem dX5_readsPrices_34 : decode cX5_readsPrices 34 = .ok (.invokevirtual 74, 3) := by decide +kernel
theorem dX5_readsPrices_37 : decode cX5_readsPrices 37 = .ok (.ifCond .ne 5, 3) := by decide +kernel
theorem dX5_readsPrices_40 : decode cX5_readsPrices 40 = .ok (.iconst 0, 1) := by decide +kernel
theorem dX5_readsPrices_41 : decode cX5_readsPrices 41 = .ok (.ireturn, 1) := by decide +kernel
theorem dX5_readsPrices_42 : decode cX5_readsPrices 42 = .ok (.aload_n 0, 1) := by decide +kernel
theorem dX5_readsPrices_43 : decode cX5_readsPrices 43 = .ok (.getfield 78, 3) := by decide +kernel
theorem dX5_readsPrices_46 : decode cX5_readsPrices 46 = .ok (.istore_n 3, 1) := by decide +kernel
theorem dX5_readsPrices_47 : decode cX5_readsPrices 47 = .ok (.iload_n 1, 1) := by decide +kernel
theorem dX5_readsPrices_48 : decode cX5_readsPrices 48 = .ok (.iconst 1, 1) := by decide +kernel
theorem dX5_readsPrices_49 : decode cX5_readsPrices 49 = .ok (.iload_n 3, 1) := by decide +kernel
theorem dX5_readsPrices_50 : decode cX5_readsPrices 50 = .ok (.ishl, 1) := by decide +kernel
theorem dX5_readsPrices_51 : decode cX5_readsPrices 51 = .ok (.ior, 1) := by decide +kernel
theorem dX5_readsPrices_52 : decode cX5_readsPrices 52 = .ok (.istore_n 1, 1) := by decide +kernel
theorem dX5_readsPrices_53 : decode cX5_readsPrices 53 = .ok (.aload_n 0, 1) := by decide +kernel
theorem dX5_readsPrices_54 : decode cX5_readsPrices 54 = .ok (.bipush 44, 2) := by decide +kernel
theorem dX5_readsPrices_56 : decode cX5_readsPrices 56 = .ok (.invokevirtual 81, 3) := by decide +kernel
theorem dX5_readsPrices_59 : decode cX5_readsPrices 59 = .ok (.ifCond .eq 23, 3) := by decide +kernel
theorem dX5_readsPrices_62 : decode cX5_readsPrices 62 = .ok (.aload_n 0, 1) := by decide +kernel
theorem dX5_readsPrices_63 : decode cX5_readsPrices 63 = .ok (.iconst 1, 1) := by decide +kernel
theorem dX5_readsPrices_64 : decode cX5_readsPrices 64 = .ok (.bipush 9, 2) := by decide +kernel
theorem dX5_readsPrices_66 : decode cX5_readsPrices 66 = .ok (.iconst 0, 1) := by decide +kernel
theorem dX5_readsPrices_67 : decode cX5_readsPrices 67 = .ok (.invokevirtual 74, 3) := by decide +kernel
theorem dX5_readsPrices_70 : decode cX5_readsPrices 70 = .ok (.ifCond .eq 12, 3) := by decide +kernel
theorem dX5_readsPrices_73 : decode cX5_readsPrices 73 = .ok (.aload_n 0, 1) := by decide +kernel
theorem dX5_readsPrices_74 : decode cX5_readsPrices 74 = .ok (.bipush 59, 2) := by decide +kernel
theorem dX5_readsPrices_76 : decode cX5_readsPrices 76 = .ok (.invokevirtual 81, 3) := by decide +kernel
theorem dX5_readsPrices_79 : decode cX5_readsPrices 79 = .ok (.ifCond .ne 5, 3) := by decide +kernel
theorem dX5_readsPrices_82 : decode cX5_readsPrices 82 = .ok (.iconst 0, 1) := by decide +kernel
theorem dX5_readsPrices_83 : decode cX5_readsPrices 83 = .ok (.ireturn, 1) := by decide +kernel
theorem dX5_readsPrices_84 : decode cX5_readsPrices 84 = .ok (.aload_n 0, 1) := by decide +kernel
theorem dX5_readsPrices_85 : decode cX5_readsPrices 85 = .ok (.getfield 21, 3) := by decide +kernel
theorem dX5_readsPrices_88 : decode cX5_readsPrices 88 = .ok (.iload_n 3, 1) := by decide +kernel
theorem dX5_readsPrices_89 : decode cX5_readsPrices 89 = .ok (.aload_n 0, 1) := by decide +kernel
theorem dX5_readsPrices_90 : decode cX5_readsPrices 90 = .ok (.getfield 78, 3) := by decide +kernel
theorem dX5_readsPrices_93 : decode cX5_readsPrices 93 = .ok (.iastore, 1) := by decide +kernel
theorem dX5_readsPrices_94 : decode cX5_readsPrices 94 = .ok (.iinc 2 1, 3) := by decide +kernel
theorem dX5_readsPrices_97 : decode cX5_readsPrices 97 = .ok (.goto (-93), 3) := by decide +kernel
theorem dX5_readsPrices_100 : decode cX5_readsPrices 100 = .ok (.iconst 0, 1) := by decide +kernel
theorem dX5_readsPrices_101 : decode cX5_readsPrices 101 = .ok (.ireturn, 1) := by decide +kernel
theorem dX5_letter_0 : decode cX5_letter 0 = .ok (.aload_n 0, 1) := by decide +kernel
theorem dX5_letter_1 : decode cX5_letter 1 = .ok (.getfield 34, 3) := by decide +kernel
theorem dX5_letter_4 : decode cX5_letter 4 = .ok (.aload_n 0, 1) := by decide +kernel
theorem dX5_letter_5 : decode cX5_letter 5 = .ok (.getfield 31, 3) := by decide +kernel
theorem dX5_letter_8 : decode cX5_letter 8 = .ok (.if_icmp .ge 15, 3) := by decide +kernel
theorem dX5_letter_11 : decode cX5_letter 11 = .ok (.aload_n 0, 1) := by decide +kernel
theorem dX5_letter_12 : decode cX5_letter 12 = .ok (.getfield 9, 3) := by decide +kernel
theorem dX5_letter_15 : decode cX5_letter 15 = .ok (.aload_n 0, 1) := by decide +kernel
theorem dX5_letter_16 : decode cX5_letter 16 = .ok (.getfield 34, 3) := by decide +kernel
theorem dX5_letter_19 : decode cX5_letter 19 = .ok (.iaload, 1) := by decide +kernel
theorem dX5_letter_20 : decode cX5_letter 20 = .ok (.goto 4, 3) := by decide +kernel
theorem dX5_letter_23 : decode cX5_letter 23 = .ok (.iconst (-1), 1) := by decide +kernel
theorem dX5_letter_24 : decode cX5_letter 24 = .ok (.ireturn, 1) := by decide +kernel
theorem dX5_takes_0 : decode cX5_takes 0 = .ok (.aload_n 0, 1) := by decide +kernel
theorem dX5_takes_1 : decode cX5_takes 1 = .ok (.invokevirtual 60, 3) := by decide +kernel
theorem dX5_takes_4 : decode cX5_takes 4 = .ok (.iload_n 1, 1) := by decide +kernel
theorem dX5_takes_5 : decode cX5_takes 5 = .ok (.if_icmp .eq 9, 3) := by decide +kernel
theorem dX5_takes_8 : decode cX5_takes 8 = .ok (.aload_n 0, 1) := by decide +kernel
theorem dX5_takes_9 : decode cX5_takes 9 = .ok (.iconst 1, 1) := by decide +kernel
theorem dX5_takes_10 : decode cX5_takes 10 = .ok (.invokevirtual 64, 3) := by decide +kernel
theorem dX5_takes_13 : decode cX5_takes 13 = .ok (.ireturn, 1) := by decide +kernel
theorem dX5_takes_14 : decode cX5_takes 14 = .ok (.aload_n 0, 1) := by decide +kernel
theorem dX5_takes_15 : decode cX5_takes 15 = .ok (.dup, 1) := by decide +kernel
theorem dX5_takes_16 : decode cX5_takes 16 = .ok (.getfield 34, 3) := by decide +kernel
theorem dX5_takes_19 : decode cX5_takes 19 = .ok (.iconst 1, 1) := by decide +kernel
theorem dX5_takes_20 : decode cX5_takes 20 = .ok (.iadd, 1) := by decide +kernel
theorem dX5_takes_21 : decode cX5_takes 21 = .ok (.putfield 34, 3) := by decide +kernel
theorem dX5_takes_24 : decode cX5_takes 24 = .ok (.iconst 1, 1) := by decide +kernel
theorem dX5_takes_25 : decode cX5_takes 25 = .ok (.ireturn, 1) := by decide +kernel
theorem dX5_takesNumber_0 : decode cX5_takesNumber 0 = .ok (.iconst 0, 1) := by decide +kernel
theorem dX5_takesNumber_1 : decode cX5_takesNumber 1 = .ok (.istore 4, 2) := by decide +kernel
theorem dX5_takesNumber_3 : decode cX5_takesNumber 3 = .ok (.aload_n 0, 1) := by decide +kernel
theorem dX5_takesNumber_4 : decode cX5_takesNumber 4 = .ok (.iconst 0, 1) := by decide +kernel
theorem dX5_takesNumber_5 : decode cX5_takesNumber 5 = .ok (.putfield 78, 3) := by decide +kernel
theorem dX5_takesNumber_8 : decode cX5_takesNumber 8 = .ok (.aload_n 0, 1) := by decide +kernel
theorem dX5_takesNumber_9 : decode cX5_takesNumber 9 = .ok (.getfield 34, 3) := by decide +kernel
theorem dX5_takesNumber_12 : decode cX5_takesNumber 12 = .ok (.istore 5, 2) := by decide +kernel
theorem dX5_takesNumber_14 : decode cX5_takesNumber 14 = .ok (.iload 5, 2) := by decide +kernel
theorem dX5_takesNumber_16 : decode cX5_takesNumber 16 = .ok (.aload_n 0, 1) := by decide +kernel
theorem dX5_takesNumber_17 : decode cX5_takesNumber 17 = .ok (.getfield 31, 3) := by decide +kernel
theorem dX5_takesNumber_20 : decode cX5_takesNumber 20 = .ok (.if_icmp .ge 53, 3) := by decide +kernel
theorem dX5_takesNumber_23 : decode cX5_takesNumber 23 = .ok (.iload 4, 2) := by decide +kernel
theorem dX5_takesNumber_25 : decode cX5_takesNumber 25 = .ok (.iconst 3, 1) := by decide +kernel
theorem dX5_takesNumber_26 : decode cX5_takesNumber 26 = .ok (.if_icmp .ge 47, 3) := by decide +kernel
theorem dX5_takesNumber_29 : decode cX5_takesNumber 29 = .ok (.aload_n 0, 1) := by decide +kernel
theorem dX5_takesNumber_30 : decode cX5_takesNumber 30 = .ok (.getfield 9, 3) := by decide +kernel
theorem dX5_takesNumber_33 : decode cX5_takesNumber 33 = .ok (.iload 5, 2) := by decide +kernel
theorem dX5_takesNumber_35 : decode cX5_takesNumber 35 = .ok (.iaload, 1) := by decide +kernel
theorem dX5_takesNumber_36 : decode cX5_takesNumber 36 = .ok (.invokestatic 92, 3) := by decide +kernel
theorem dX5_takesNumber_39 : decode cX5_takesNumber 39 = .ok (.ifCond .eq 34, 3) := by decide +kernel
theorem dX5_takesNumber_42 : decode cX5_takesNumber 42 = .ok (.aload_n 0, 1) := by decide +kernel
theorem dX5_takesNumber_43 : decode cX5_takesNumber 43 = .ok (.aload_n 0, 1) := by decide +kernel
theorem dX5_takesNumber_44 : decode cX5_takesNumber 44 = .ok (.getfield 78, 3) := by decide +kernel
theorem dX5_takesNumber_47 : decode cX5_takesNumber 47 = .ok (.bipush 10, 2) := by decide +kernel
theorem dX5_takesNumber_49 : decode cX5_takesNumber 49 = .ok (.imul, 1) := by decide +kernel
theorem dX5_takesNumber_50 : decode cX5_takesNumber 50 = .ok (.aload_n 0, 1) := by decide +kernel
theorem dX5_takesNumber_51 : decode cX5_takesNumber 51 = .ok (.getfield 9, 3) := by decide +kernel
theorem dX5_takesNumber_54 : decode cX5_takesNumber 54 = .ok (.iload 5, 2) := by decide +kernel
theorem dX5_takesNumber_56 : decode cX5_takesNumber 56 = .ok (.iaload, 1) := by decide +kernel
theorem dX5_takesNumber_57 : decode cX5_takesNumber 57 = .ok (.iadd, 1) := by decide +kernel
theorem dX5_takesNumber_58 : decode cX5_takesNumber 58 = .ok (.bipush 48, 2) := by decide +kernel
theorem dX5_takesNumber_60 : decode cX5_takesNumber 60 = .ok (.isub, 1) := by decide +kernel
theorem dX5_takesNumber_61 : decode cX5_takesNumber 61 = .ok (.putfield 78, 3) := by decide +kernel
theorem dX5_takesNumber_64 : decode cX5_takesNumber 64 = .ok (.iinc 4 1, 3) := by decide +kernel
theorem dX5_takesNumber_67 : decode cX5_takesNumber 67 = .ok (.iinc 5 1, 3) := by decide +kernel
theorem dX5_takesNumber_70 : decode cX5_takesNumber 70 = .ok (.goto (-56), 3) := by decide +kernel
theorem dX5_takesNumber_73 : decode cX5_takesNumber 73 = .ok (.iload 4, 2) := by decide +kernel
theorem dX5_takesNumber_75 : decode cX5_takesNumber 75 = .ok (.iconst 1, 1) := by decide +kernel
theorem dX5_takesNumber_76 : decode cX5_takesNumber 76 = .ok (.if_icmp .lt 9, 3) := by decide +kernel
theorem dX5_takesNumber_79 : decode cX5_takesNumber 79 = .ok (.iload 4, 2) := by decide +kernel
theorem dX5_takesNumber_81 : decode cX5_takesNumber 81 = .ok (.iconst 2, 1) := by decide +kernel
theorem dX5_takesNumber_82 : decode cX5_takesNumber 82 = .ok (.if_icmp .le 9, 3) := by decide +kernel
theorem dX5_takesNumber_85 : decode cX5_takesNumber 85 = .ok (.aload_n 0, 1) := by decide +kernel
theorem dX5_takesNumber_86 : decode cX5_takesNumber 86 = .ok (.iconst 1, 1) := by decide +kernel
theorem dX5_takesNumber_87 : decode cX5_takesNumber 87 = .ok (.invokevirtual 64, 3) := by decide +kernel
theorem dX5_takesNumber_90 : decode cX5_takesNumber 90 = .ok (.ireturn, 1) := by decide +kernel
theorem dX5_takesNumber_91 : decode cX5_takesNumber 91 = .ok (.aload_n 0, 1) := by decide +kernel
theorem dX5_takesNumber_92 : decode cX5_takesNumber 92 = .ok (.getfield 78, 3) := by decide +kernel
theorem dX5_takesNumber_95 : decode cX5_takesNumber 95 = .ok (.iload_n 1, 1) := by decide +kernel
theorem dX5_takesNumber_96 : decode cX5_takesNumber 96 = .ok (.if_icmp .lt 27, 3) := by decide +kernel
theorem dX5_takesNumber_99 : decode cX5_takesNumber 99 = .ok (.aload_n 0, 1) := by decide +kernel
theorem dX5_takesNumber_100 : decode cX5_takesNumber 100 = .ok (.getfield 78, 3) := by decide +kernel
theorem dX5_takesNumber_103 : decode cX5_takesNumber 103 = .ok (.iload_n 2, 1) := by decide +kernel
theorem dX5_takesNumber_104 : decode cX5_takesNumber 104 = .ok (.if_icmp .gt 19, 3) := by decide +kernel
theorem dX5_takesNumber_107 : decode cX5_takesNumber 107 = .ok (.iload_n 3, 1) := by decide +kernel
theorem dX5_takesNumber_108 : decode cX5_takesNumber 108 = .ok (.ifCond .eq 21, 3) := by decide +kernel
theorem dX5_takesNumber_111 : decode cX5_takesNumber 111 = .ok (.iload_n 3, 1) := by decide +kernel
theorem dX5_takesNumber_112 : decode cX5_takesNumber 112 = .ok (.aload_n 0, 1) := by decide +kernel
theorem dX5_takesNumber_113 : decode cX5_takesNumber 113 = .ok (.getfield 78, 3) := by decide +kernel
theorem dX5_takesNumber_116 : decode cX5_takesNumber 116 = .ok (.iushr, 1) := by decide +kernel
theorem dX5_takesNumber_117 : decode cX5_takesNumber 117 = .ok (.iconst 1, 1) := by decide +kernel
theorem dX5_takesNumber_118 : decode cX5_takesNumber 118 = .ok (.iand, 1) := by decide +kernel
theorem dX5_takesNumber_119 : decode cX5_takesNumber 119 = .ok (.iconst 1, 1) := by decide +kernel
theorem dX5_takesNumber_120 : decode cX5_takesNumber 120 = .ok (.if_icmp .ne 9, 3) := by decide +kernel
theorem dX5_takesNumber_123 : decode cX5_takesNumber 123 = .ok (.aload_n 0, 1) := by decide +kernel
theorem dX5_takesNumber_124 : decode cX5_takesNumber 124 = .ok (.iconst 2, 1) := by decide +kernel
theorem dX5_takesNumber_125 : decode cX5_takesNumber 125 = .ok (.invokevirtual 64, 3) := by decide +kernel
theorem dX5_takesNumber_128 : decode cX5_takesNumber 128 = .ok (.ireturn, 1) := by decide +kernel
theorem dX5_takesNumber_129 : decode cX5_takesNumber 129 = .ok (.aload_n 0, 1) := by decide +kernel
theorem dX5_takesNumber_130 : decode cX5_takesNumber 130 = .ok (.dup, 1) := by decide +kernel
theorem dX5_takesNumber_131 : decode cX5_takesNumber 131 = .ok (.getfield 34, 3) := by decide +kernel
theorem dX5_takesNumber_134 : decode cX5_takesNumber 134 = .ok (.iload 4, 2) := by decide +kernel
theorem dX5_takesNumber_136 : decode cX5_takesNumber 136 = .ok (.iadd, 1) := by decide +kernel
theorem dX5_takesNumber_137 : decode cX5_takesNumber 137 = .ok (.putfield 34, 3) := by decide +kernel
theorem dX5_takesNumber_140 : decode cX5_takesNumber 140 = .ok (.iconst 1, 1) := by decide +kernel
theorem dX5_takesNumber_141 : decode cX5_takesNumber 141 = .ok (.ireturn, 1) := by decide +kernel
theorem dX5_isFigure_0 : decode cX5_isFigure 0 = .ok (.iload_n 0, 1) := by decide +kernel
theorem dX5_isFigure_1 : decode cX5_isFigure 1 = .ok (.bipush 48, 2) := by decide +kernel
theorem dX5_isFigure_3 : decode cX5_isFigure 3 = .ok (.if_icmp .lt 13, 3) := by decide +kernel
theorem dX5_isFigure_6 : decode cX5_isFigure 6 = .ok (.iload_n 0, 1) := by decide +kernel
theorem dX5_isFigure_7 : decode cX5_isFigure 7 = .ok (.bipush 57, 2) := by decide +kernel
theorem dX5_isFigure_9 : decode cX5_isFigure 9 = .ok (.if_icmp .gt 7, 3) := by decide +kernel
theorem dX5_isFigure_12 : decode cX5_isFigure 12 = .ok (.iconst 1, 1) := by decide +kernel
theorem dX5_isFigure_13 : decode cX5_isFigure 13 = .ok (.goto 4, 3) := by decide +kernel
theorem dX5_isFigure_16 : decode cX5_isFigure 16 = .ok (.iconst 0, 1) := by decide +kernel
theorem dX5_isFigure_17 : decode cX5_isFigure 17 = .ok (.ireturn, 1) := by decide +kernel
theorem dX5_faulty_0 : decode cX5_faulty 0 = .ok (.aload_n 0, 1) := by decide +kernel
theorem dX5_faulty_1 : decode cX5_faulty 1 = .ok (.iload_n 1, 1) := by decide +kernel
theorem dX5_faulty_2 : decode cX5_faulty 2 = .ok (.putfield 95, 3) := by decide +kernel
theorem dX5_faulty_5 : decode cX5_faulty 5 = .ok (.iconst 0, 1) := by decide +kernel
theorem dX5_faulty_6 : decode cX5_faulty 6 = .ok (.ireturn, 1) := by decide +kernel
theorem dX6_init_0 : decode cX6_init 0 = .ok (.aload_n 0, 1) := by decide +kernel
theorem dX6_init_1 : decode cX6_init 1 = .ok (.invokespecial 3, 3) := by decide +kernel
theorem dX6_init_4 : decode cX6_init 4 = .ok (.aload_n 0, 1) := by decide +kernel
theorem dX6_init_5 : decode cX6_init 5 = .ok (.bipush 8, 2) := by decide +kernel
theorem dX6_init_7 : decode cX6_init 7 = .ok (.bipush 40, 2) := by decide +kernel
theorem dX6_init_9 : decode cX6_init 9 = .ok (.multianewarray 9 2, 4) := by decide +kernel
theorem dX6_init_13 : decode cX6_init 13 = .ok (.putfield 11, 3) := by decide +kernel
theorem dX6_init_16 : decode cX6_init 16 = .ok (.aload_n 0, 1) := by decide +kernel
theorem dX6_init_17 : decode cX6_init 17 = .ok (.bipush 8, 2) := by decide +kernel
theorem dX6_init_19 : decode cX6_init 19 = .ok (.newarray .int, 2) := by decide +kernel
theorem dX6_init_21 : decode cX6_init 21 = .ok (.putfield 16, 3) := by decide +kernel
theorem dX6_init_24 : decode cX6_init 24 = .ok (.aload_n 0, 1) := by decide +kernel
theorem dX6_init_25 : decode cX6_init 25 = .ok (.bipush 8, 2) := by decide +kernel
theorem dX6_init_27 : decode cX6_init 27 = .ok (.newarray .int, 2) := by decide +kernel
theorem dX6_init_29 : decode cX6_init 29 = .ok (.putfield 20, 3) := by decide +kernel
theorem dX6_init_32 : decode cX6_init 32 = .ok (.aload_n 0, 1) := by decide +kernel
theorem dX6_init_33 : decode cX6_init 33 = .ok (.getfield 20, 3) := by decide +kernel
theorem dX6_init_36 : decode cX6_init 36 = .ok (.iconst (-1), 1) := by decide +kernel
theorem dX6_init_37 : decode cX6_init 37 = .ok (.invokestatic 23, 3) := by decide +kernel
theorem dX6_init_40 : decode cX6_init 40 = .ok (.return_, 1) := by decide +kernel
theorem dX6_isMissing_0 : decode cX6_isMissing 0 = .ok (.aload_n 0, 1) := by decide +kernel
theorem dX6_isMissing_1 : decode cX6_isMissing 1 = .ok (.getfield 20, 3) := by decide +kernel
theorem dX6_isMissing_4 : decode cX6_isMissing 4 = .ok (.iload_n 1, 1) := by decide +kernel
theorem dX6_isMissing_5 : decode cX6_isMissing 5 = .ok (.iaload, 1) := by decide +kernel
theorem dX6_isMissing_6 : decode cX6_isMissing 6 = .ok (.ifCond .ge 7, 3) := by decide +kernel
theorem dX6_isMissing_9 : decode cX6_isMissing 9 = .ok (.iconst 1, 1) := by decide +kernel
theorem dX6_isMissing_10 : decode cX6_isMissing 10 = .ok (.goto 4, 3) := by decide +kernel
theorem dX6_isMissing_13 : decode cX6_isMissing 13 = .ok (.iconst 0, 1) := by decide +kernel
theorem dX6_isMissing_14 : decode cX6_isMissing 14 = .ok (.ireturn, 1) := by decide +kernel
theorem dX6_make_0 : decode cX6_make 0 = .ok (.aload_n 0, 1) := by decide +kernel
theorem dX6_make_1 : decode cX6_make 1 = .ok (.getfield 11, 3) := by decide +kernel
theorem dX6_make_4 : decode cX6_make 4 = .ok (.iload_n 1, 1) := by decide +kernel
theorem dX6_make_5 : decode cX6_make 5 = .ok (.aaload, 1) := by decide +kernel
theorem dX6_make_6 : decode cX6_make 6 = .ok (.iconst 0, 1) := by decide +kernel
theorem dX6_make_7 : decode cX6_make 7 = .ok (.invokestatic 23, 3) := by decide +kernel
theorem dX6_make_10 : decode cX6_make 10 = .ok (.aload_n 0, 1) := by decide +kernel
theorem dX6_make_11 : decode cX6_make 11 = .ok (.getfield 16, 3) := by decide +kernel
theorem dX6_make_14 : decode cX6_make 14 = .ok (.iload_n 1, 1) := by decide +kernel
theorem dX6_make_15 : decode cX6_make 15 = .ok (.iload_n 2, 1) := by decide +kernel
theorem dX6_make_16 : decode cX6_make 16 = .ok (.iastore, 1) := by decide +kernel
theorem dX6_make_17 : decode cX6_make 17 = .ok (.aload_n 0, 1) := by decide +kernel
theorem dX6_make_18 : decode cX6_make 18 = .ok (.getfield 20, 3) := by decide +kernel
theorem dX6_make_21 : decode cX6_make 21 = .ok (.iload_n 1, 1) := by decide +kernel
theorem dX6_make_22 : decode cX6_make 22 = .ok (.iload_n 3, 1) := by decide +kernel
theorem dX6_make_23 : decode cX6_make 23 = .ok (.iastore, 1) := by decide +kernel
theorem dX6_make_24 : decode cX6_make 24 = .ok (.return_, 1) := by decide +kernel
theorem dX6_put_0 : decode cX6_put 0 = .ok (.iload_n 3, 1) := by decide +kernel
theorem dX6_put_1 : decode cX6_put 1 = .ok (.istore 4, 2) := by decide +kernel
theorem dX6_put_3 : decode cX6_put 3 = .ok (.aload_n 0, 1) := by decide +kernel
theorem dX6_put_4 : decode cX6_put 4 = .ok (.getfield 16, 3) := by decide +kernel
theorem dX6_put_7 : decode cX6_put 7 = .ok (.iload_n 1, 1) := by decide +kernel
theorem dX6_put_8 : decode cX6_put 8 = .ok (.iaload, 1) := by decide +kernel
theorem dX6_put_9 : decode cX6_put 9 = .ok (.ifCond .ne 10, 3) := by decide +kernel
theorem dX6_put_12 : decode cX6_put 12 = .ok (.iload_n 3, 1) := by decide +kernel
theorem dX6_put_13 : decode cX6_put 13 = .ok (.i2b, 1) := by decide +kernel
theorem dX6_put_14 : decode cX6_put 14 = .ok (.istore 4, 2) := by decide +kernel
theorem dX6_put_16 : decode cX6_put 16 = .ok (.goto 17, 3) := by decide +kernel
theorem dX6_put_19 : decode cX6_put 19 = .ok (.aload_n 0, 1) := by decide +kernel
theorem dX6_put_20 : decode cX6_put 20 = .ok (.getfield 16, 3) := by decide +kernel
theorem dX6_put_23 : decode cX6_put 23 = .ok (.iload_n 1, 1) := by decide +kernel
theorem dX6_put_24 : decode cX6_put 24 = .ok (.iaload, 1) := by decide +kernel
theorem dX6_put_25 : decode cX6_put 25 = .ok (.iconst 1, 1) := by decide +kernel
theorem dX6_put_26 : decode cX6_put 26 = .ok (.if_icmp .ne 7, 3) := by decide +kernel
theorem dX6_put_29 : decode cX6_put 29 = .ok (.iload_n 3, 1) := by decide +kernel
theorem dX6_put_30 : decode cX6_put 30 = .ok (.i2s, 1) := by decide +kernel
theorem dX6_put_31 : decode cX6_put 31 = .ok (.istore 4, 2) := by decide +kernel
theorem dX6_put_33 : decode cX6_put 33 = .ok (.aload_n 0, 1) := by decide +kernel
theorem dX6_put_34 : decode cX6_put 34 = .ok (.getfield 11, 3) := by decide +kernel
theorem dX6_put_37 : decode cX6_put 37 = .ok (.iload_n 1, 1) := by decide +kernel
theorem dX6_put_38 : decode cX6_put 38 = .ok (.aaload, 1) := by decide +kernel
theorem dX6_put_39 : decode cX6_put 39 = .ok (.iload_n 2, 1) := by decide +kernel
theorem dX6_put_40 : decode cX6_put 40 = .ok (.iload 4, 2) := by decide +kernel
theorem dX6_put_42 : decode cX6_put 42 = .ok (.iastore, 1) := by decide +kernel
theorem dX6_put_43 : decode cX6_put 43 = .ok (.iload 4, 2) := by decide +kernel
theorem dX6_put_45 : decode cX6_put 45 = .ok (.ireturn, 1) := by decide +kernel
theorem dX6_hasPlaces_0 : decode cX6_hasPlaces 0 = .ok (.iload_n 2, 1) := by decide +kernel
theorem dX6_hasPlaces_1 : decode cX6_hasPlaces 1 = .ok (.ifCond .lt 33, 3) := by decide +kernel
theorem dX6_hasPlaces_4 : decode cX6_hasPlaces 4 = .ok (.iload_n 3, 1) := by decide +kernel
theorem dX6_hasPlaces_5 : decode cX6_hasPlaces 5 = .ok (.ifCond .lt 29, 3) := by decide +kernel
theorem dX6_hasPlaces_8 : decode cX6_hasPlaces 8 = .ok (.iload_n 2, 1) := by decide +kernel
theorem dX6_hasPlaces_9 : decode cX6_hasPlaces 9 = .ok (.aload_n 0, 1) := by decide +kernel
theorem dX6_hasPlaces_10 : decode cX6_hasPlaces 10 = .ok (.getfield 20, 3) := by decide +kernel
theorem dX6_hasPlaces_13 : decode cX6_hasPlaces 13 = .ok (.iload_n 1, 1) := by decide +kernel
theorem dX6_hasPlaces_14 : decode cX6_hasPlaces 14 = .ok (.iaload, 1) := by decide +kernel
theorem dX6_hasPlaces_15 : decode cX6_hasPlaces 15 = .ok (.if_icmp .gt 19, 3) := by decide +kernel
theorem dX6_hasPlaces_18 : decode cX6_hasPlaces 18 = .ok (.iload_n 3, 1) := by decide +kernel
theorem dX6_hasPlaces_19 : decode cX6_hasPlaces 19 = .ok (.aload_n 0, 1) := by decide +kernel
theorem dX6_hasPlaces_20 : decode cX6_hasPlaces 20 = .ok (.getfield 20, 3) := by decide +kernel
theorem dX6_hasPlaces_23 : decode cX6_hasPlaces 23 = .ok (.iload_n 1, 1) := by decide +kernel
theorem dX6_hasPlaces_24 : decode cX6_hasPlaces 24 = .ok (.iaload, 1) := by decide +kernel
theorem dX6_hasPlaces_25 : decode cX6_hasPlaces 25 = .ok (.iload_n 2, 1) := by decide +kernel
theorem dX6_hasPlaces_26 : decode cX6_hasPlaces 26 = .ok (.isub, 1) := by decide +kernel
theorem dX6_hasPlaces_27 : decode cX6_hasPlaces 27 = .ok (.if_icmp .gt 7, 3) := by decide +kernel
theorem dX6_hasPlaces_30 : decode cX6_hasPlaces 30 = .ok (.iconst 1, 1) := by decide +kernel
theorem dX6_hasPlaces_31 : decode cX6_hasPlaces 31 = .ok (.goto 4, 3) := by decide +kernel
theorem dX6_hasPlaces_34 : decode cX6_hasPlaces 34 = .ok (.iconst 0, 1) := by decide +kernel
theorem dX6_hasPlaces_35 : decode cX6_hasPlaces 35 = .ok (.ireturn, 1) := by decide +kernel
theorem dX6_lose_0 : decode cX6_lose 0 = .ok (.aload_n 0, 1) := by decide +kernel
theorem dX6_lose_1 : decode cX6_lose 1 = .ok (.getfield 20, 3) := by decide +kernel
theorem dX6_lose_4 : decode cX6_lose 4 = .ok (.iload_n 1, 1) := by decide +kernel
theorem dX6_lose_5 : decode cX6_lose 5 = .ok (.iaload, 1) := by decide +kernel
theorem dX6_lose_6 : decode cX6_lose 6 = .ok (.istore_n 2, 1) := by decide +kernel
theorem dX6_lose_7 : decode cX6_lose 7 = .ok (.aload_n 0, 1) := by decide +kernel
theorem dX6_lose_8 : decode cX6_lose 8 = .ok (.getfield 20, 3) := by decide +kernel
theorem dX6_lose_11 : decode cX6_lose 11 = .ok (.iload_n 1, 1) := by decide +kernel
theorem dX6_lose_12 : decode cX6_lose 12 = .ok (.iconst (-1), 1) := by decide +kernel
theorem dX6_lose_13 : decode cX6_lose 13 = .ok (.iastore, 1) := by decide +kernel
theorem dX6_lose_14 : decode cX6_lose 14 = .ok (.iload_n 2, 1) := by decide +kernel
theorem dX6_lose_15 : decode cX6_lose 15 = .ok (.ireturn, 1) := by decide +kernel
theorem dX6_isWitness_0 : decode cX6_isWitness 0 = .ok (.aload_n 0, 1) := by decide +kernel
theorem dX6_isWitness_1 : decode cX6_isWitness 1 = .ok (.getfield 20, 3) := by decide +kernel
theorem dX6_isWitness_4 : decode cX6_isWitness 4 = .ok (.iload_n 1, 1) := by decide +kernel
theorem dX6_isWitness_5 : decode cX6_isWitness 5 = .ok (.iaload, 1) := by decide +kernel
theorem dX6_isWitness_6 : decode cX6_isWitness 6 = .ok (.bipush 8, 2) := by decide +kernel
theorem dX6_isWitness_8 : decode cX6_isWitness 8 = .ok (.if_icmp .ge 5, 3) := by decide +kernel
theorem dX6_isWitness_11 : decode cX6_isWitness 11 = .ok (.iconst 0, 1) := by decide +kernel
theorem dX6_isWitness_12 : decode cX6_isWitness 12 = .ok (.ireturn, 1) := by decide +kernel
theorem dX6_isWitness_13 : decode cX6_isWitness 13 = .ok (.iconst 0, 1) := by decide +kernel
theorem dX6_isWitness_14 : decode cX6_isWitness 14 = .ok (.istore_n 2, 1) := by decide +kernel
theorem dX6_isWitness_15 : decode cX6_isWitness 15 = .ok (.iload_n 2, 1) := by decide +kernel
theorem dX6_isWitness_16 : decode cX6_isWitness 16 = .ok (.bipush 8, 2) := by decide +kernel
theorem dX6_isWitness_18 : decode cX6_isWitness 18 = .ok (.if_icmp .ge 35, 3) := by decide +kernel
theorem dX6_isWitness_21 : decode cX6_isWitness 21 = .ok (.aload_n 0, 1) := by decide +kernel
theorem dX6_isWitness_22 : decode cX6_isWitness 22 = .ok (.getfield 11, 3) := by decide +kernel
theorem dX6_isWitness_25 : decode cX6_isWitness 25 = .ok (.iload_n 1, 1) := by decide +kernel
theorem dX6_isWitness_26 : decode cX6_isWitness 26 = .ok (.aaload, 1) := by decide +kernel
theorem dX6_isWitness_27 : decode cX6_isWitness 27 = .ok (.iload_n 2, 1) := by decide +kernel
theorem dX6_isWitness_28 : decode cX6_isWitness 28 = .ok (.iaload, 1) := by decide +kernel
theorem dX6_isWitness_29 : decode cX6_isWitness 29 = .ok (.ifCond .lt 16, 3) := by decide +kernel
theorem dX6_isWitness_32 : decode cX6_isWitness 32 = .ok (.aload_n 0, 1) := by decide +kernel
theorem dX6_isWitness_33 : decode cX6_isWitness 33 = .ok (.getfield 11, 3) := by decide +kernel
theorem dX6_isWitness_36 : decode cX6_isWitness 36 = .ok (.iload_n 1, 1) := by decide +kernel
theorem dX6_isWitness_37 : decode cX6_isWitness 37 = .ok (.aaload, 1) := by decide +kernel
theorem dX6_isWitness_38 : decode cX6_isWitness 38 = .ok (.iload_n 2, 1) := by decide +kernel
theorem dX6_isWitness_39 : decode cX6_isWitness 39 = .ok (.iaload, 1) := by decide +kernel
theorem dX6_isWitness_40 : decode cX6_isWitness 40 = .ok (.bipush 18, 2) := by decide +kernel
theorem dX6_isWitness_42 : decode cX6_isWitness 42 = .ok (.if_icmp .lt 5, 3) := by decide +kernel
theorem dX6_isWitness_45 : decode cX6_isWitness 45 = .ok (.iconst 0, 1) := by decide +kernel
theorem dX6_isWitness_46 : decode cX6_isWitness 46 = .ok (.ireturn, 1) := by decide +kernel
theorem dX6_isWitness_47 : decode cX6_isWitness 47 = .ok (.iinc 2 1, 3) := by decide +kernel
theorem dX6_isWitness_50 : decode cX6_isWitness 50 = .ok (.goto (-35), 3) := by decide +kernel
theorem dX6_isWitness_53 : decode cX6_isWitness 53 = .ok (.iconst 1, 1) := by decide +kernel
theorem dX6_isWitness_54 : decode cX6_isWitness 54 = .ok (.ireturn, 1) := by decide +kernel
theorem dX6_countAll_0 : decode cX6_countAll 0 = .ok (.iconst 0, 1) := by decide +kernel
theorem dX6_countAll_1 : decode cX6_countAll 1 = .ok (.istore_n 1, 1) := by decide +kernel
theorem dX6_countAll_2 : decode cX6_countAll 2 = .ok (.iconst 0, 1) := by decide +kernel
theorem dX6_countAll_3 : decode cX6_countAll 3 = .ok (.istore_n 2, 1) := by decide +kernel
theorem dX6_countAll_4 : decode cX6_countAll 4 = .ok (.iload_n 2, 1) := by decide +kernel
theorem dX6_countAll_5 : decode cX6_countAll 5 = .ok (.bipush 8, 2) := by decide +kernel
theorem dX6_countAll_7 : decode cX6_countAll 7 = .ok (.if_icmp .ge 20, 3) := by decide +kernel
theorem dX6_countAll_10 : decode cX6_countAll 10 = .ok (.aload_n 0, 1) := by decide +kernel
theorem dX6_countAll_11 : decode cX6_countAll 11 = .ok (.iload_n 2, 1) := by decide +kernel
theorem dX6_countAll_12 : decode cX6_countAll 12 = .ok (.invokevirtual 29, 3) := by decide +kernel
theorem dX6_countAll_15 : decode cX6_countAll 15 = .ok (.ifCond .ne 6, 3) := by decide +kernel
theorem dX6_countAll_18 : decode cX6_countAll 18 = .ok (.iinc 1 1, 3) := by decide +kernel
theorem dX6_countAll_21 : decode cX6_countAll 21 = .ok (.iinc 2 1, 3) := by decide +kernel
theorem dX6_countAll_24 : decode cX6_countAll 24 = .ok (.goto (-20), 3) := by decide +kernel
theorem dX6_countAll_27 : decode cX6_countAll 27 = .ok (.iload_n 1, 1) := by decide +kernel
theorem dX6_countAll_28 : decode cX6_countAll 28 = .ok (.ireturn, 1) := by decide +kernel
theorem dX7_init_0 : decode cX7_init 0 = .ok (.aload_n 0, 1) := by decide +kernel
theorem dX7_init_1 : decode cX7_init 1 = .ok (.invokespecial 1, 3) := by decide +kernel
theorem dX7_init_4 : decode cX7_init 4 = .ok (.aload_n 0, 1) := by decide +kernel
theorem dX7_init_5 : decode cX7_init 5 = .ok (.new 7, 3) := by decide +kernel
theorem dX7_init_8 : decode cX7_init 8 = .ok (.dup, 1) := by decide +kernel
theorem dX7_init_9 : decode cX7_init 9 = .ok (.invokespecial 9, 3) := by decide +kernel
theorem dX7_init_12 : decode cX7_init 12 = .ok (.putfield 10, 3) := by decide +kernel
theorem dX7_init_15 : decode cX7_init 15 = .ok (.aload_n 0, 1) := by decide +kernel
theorem dX7_init_16 : decode cX7_init 16 = .ok (.new 16, 3) := by decide +kernel
theorem dX7_init_19 : decode cX7_init 19 = .ok (.dup, 1) := by decide +kernel
theorem dX7_init_20 : decode cX7_init 20 = .ok (.invokespecial 18, 3) := by decide +kernel
theorem dX7_init_23 : decode cX7_init 23 = .ok (.putfield 19, 3) := by decide +kernel
theorem dX7_init_26 : decode cX7_init 26 = .ok (.aload_n 0, 1) := by decide +kernel
theorem dX7_init_27 : decode cX7_init 27 = .ok (.new 23, 3) := by decide +kernel
theorem dX7_init_30 : decode cX7_init 30 = .ok (.dup, 1) := by decide +kernel
theorem dX7_init_31 : decode cX7_init 31 = .ok (.invokespecial 25, 3) := by decide +kernel
theorem dX7_init_34 : decode cX7_init 34 = .ok (.putfield 26, 3) := by decide +kernel
theorem dX7_init_37 : decode cX7_init 37 = .ok (.aload_n 0, 1) := by decide +kernel
theorem dX7_init_38 : decode cX7_init 38 = .ok (.iconst 2, 1) := by decide +kernel
theorem dX7_init_39 : decode cX7_init 39 = .ok (.anewarray 23, 3) := by decide +kernel
theorem dX7_init_42 : decode cX7_init 42 = .ok (.putfield 30, 3) := by decide +kernel
theorem dX7_init_45 : decode cX7_init 45 = .ok (.iconst 0, 1) := by decide +kernel
theorem dX7_init_46 : decode cX7_init 46 = .ok (.istore_n 1, 1) := by decide +kernel
theorem dX7_init_47 : decode cX7_init 47 = .ok (.iload_n 1, 1) := by decide +kernel
theorem dX7_init_48 : decode cX7_init 48 = .ok (.iconst 2, 1) := by decide +kernel
theorem dX7_init_49 : decode cX7_init 49 = .ok (.if_icmp .ge 22, 3) := by decide +kernel
theorem dX7_init_52 : decode cX7_init 52 = .ok (.aload_n 0, 1) := by decide +kernel
theorem dX7_init_53 : decode cX7_init 53 = .ok (.getfield 30, 3) := by decide +kernel
theorem dX7_init_56 : decode cX7_init 56 = .ok (.iload_n 1, 1) := by decide +kernel
theorem dX7_init_57 : decode cX7_init 57 = .ok (.new 23, 3) := by decide +kernel
theorem dX7_init_60 : decode cX7_init 60 = .ok (.dup, 1) := by decide +kernel
theorem dX7_init_61 : decode cX7_init 61 = .ok (.invokespecial 25, 3) := by decide +kernel
theorem dX7_init_64 : decode cX7_init 64 = .ok (.aastore, 1) := by decide +kernel
theorem dX7_init_65 : decode cX7_init 65 = .ok (.iinc 1 1, 3) := by decide +kernel
theorem dX7_init_68 : decode cX7_init 68 = .ok (.goto (-21), 3) := by decide +kernel
theorem dX7_init_71 : decode cX7_init 71 = .ok (.aload_n 0, 1) := by decide +kernel
theorem dX7_init_72 : decode cX7_init 72 = .ok (.new 34, 3) := by decide +kernel
theorem dX7_init_75 : decode cX7_init 75 = .ok (.dup, 1) := by decide +kernel
theorem dX7_init_76 : decode cX7_init 76 = .ok (.invokespecial 36, 3) := by decide +kernel
theorem dX7_init_79 : decode cX7_init 79 = .ok (.putfield 37, 3) := by decide +kernel
theorem dX7_init_82 : decode cX7_init 82 = .ok (.aload_n 0, 1) := by decide +kernel
theorem dX7_init_83 : decode cX7_init 83 = .ok (.new 41, 3) := by decide +kernel
theorem dX7_init_86 : decode cX7_init 86 = .ok (.dup, 1) := by decide +kernel
theorem dX7_init_87 : decode cX7_init 87 = .ok (.aload_n 0, 1) := by decide +kernel
theorem dX7_init_88 : decode cX7_init 88 = .ok (.getfield 26, 3) := by decide +kernel
theorem dX7_init_91 : decode cX7_init 91 = .ok (.invokespecial 43, 3) := by decide +kernel
theorem dX7_init_94 : decode cX7_init 94 = .ok (.putfield 46, 3) := by decide +kernel
theorem dX7_init_97 : decode cX7_init 97 = .ok (.aload_n 0, 1) := by decide +kernel
theorem dX7_init_98 : decode cX7_init 98 = .ok (.new 50, 3) := by decide +kernel
theorem dX7_init_101 : decode cX7_init 101 = .ok (.dup, 1) := by decide +kernel
theorem dX7_init_102 : decode cX7_init 102 = .ok (.invokespecial 52, 3) := by decide +kernel
theorem dX7_init_105 : decode cX7_init 105 = .ok (.putfield 53, 3) := by decide +kernel
theorem dX7_init_108 : decode cX7_init 108 = .ok (.aload_n 0, 1) := by decide +kernel
theorem dX7_init_109 : decode cX7_init 109 = .ok (.iconst 0, 1) := by decide +kernel
theorem dX7_init_110 : decode cX7_init 110 = .ok (.putfield 57, 3) := by decide +kernel
theorem dX7_init_113 : decode cX7_init 113 = .ok (.return_, 1) := by decide +kernel
theorem dX7_row_0 : decode cX7_row 0 = .ok (.iload_n 1, 1) := by decide +kernel
theorem dX7_row_1 : decode cX7_row 1 = .ok (.invokestatic 61, 3) := by decide +kernel
theorem dX7_row_4 : decode cX7_row 4 = .ok (.ifCond .eq 18, 3) := by decide +kernel
theorem dX7_row_7 : decode cX7_row 7 = .ok (.iload_n 2, 1) := by decide +kernel
theorem dX7_row_8 : decode cX7_row 8 = .ok (.ifCond .lt 14, 3) := by decide +kernel
theorem dX7_row_11 : decode cX7_row 11 = .ok (.iload_n 2, 1) := by decide +kernel
theorem dX7_row_12 : decode cX7_row 12 = .ok (.iconst 3, 1) := by decide +kernel
theorem dX7_row_13 : decode cX7_row 13 = .ok (.if_icmp .ge 9, 3) := by decide +kernel
theorem dX7_row_16 : decode cX7_row 16 = .ok (.iload_n 3, 1) := by decide +kernel
theorem dX7_row_17 : decode cX7_row 17 = .ok (.bipush 40, 2) := by decide +kernel
theorem dX7_row_19 : decode cX7_row 19 = .ok (.if_icmp .le 6, 3) := by decide +kernel
theorem dX7_row_22 : decode cX7_row 22 = .ok (.ldc 65, 2) := by decide +kernel
theorem dX7_row_24 : decode cX7_row 24 = .ok (.ireturn, 1) := by decide +kernel
theorem dX7_row_25 : decode cX7_row 25 = .ok (.iload_n 3, 1) := by decide +kernel
theorem dX7_row_26 : decode cX7_row 26 = .ok (.ifCond .ge 9, 3) := by decide +kernel
theorem dX7_row_29 : decode cX7_row 29 = .ok (.aload_n 0, 1) := by decide +kernel
theorem dX7_row_30 : decode cX7_row 30 = .ok (.iconst 4, 1) := by decide +kernel
theorem dX7_row_31 : decode cX7_row 31 = .ok (.invokevirtual 66, 3) := by decide +kernel
theorem dX7_row_34 : decode cX7_row 34 = .ok (.ireturn, 1) := by decide +kernel
theorem dX7_row_35 : decode cX7_row 35 = .ok (.aload_n 0, 1) := by decide +kernel
theorem dX7_row_36 : decode cX7_row 36 = .ok (.getfield 10, 3) := by decide +kernel
theorem dX7_row_39 : decode cX7_row 39 = .ok (.iload_n 1, 1) := by decide +kernel
theorem dX7_row_40 : decode cX7_row 40 = .ok (.iload_n 2, 1) := by decide +kernel
theorem dX7_row_41 : decode cX7_row 41 = .ok (.iload_n 3, 1) := by decide +kernel
theorem dX7_row_42 : decode cX7_row 42 = .ok (.invokevirtual 70, 3) := by decide +kernel
theorem dX7_row_45 : decode cX7_row 45 = .ok (.aload_n 0, 1) := by decide +kernel
theorem dX7_row_46 : decode cX7_row 46 = .ok (.iload_n 3, 1) := by decide +kernel
theorem dX7_row_47 : decode cX7_row 47 = .ok (.invokevirtual 74, 3) := by decide +kernel
theorem dX7_row_50 : decode cX7_row 50 = .ok (.ireturn, 1) := by decide +kernel
theorem dX7_set_0 : decode cX7_set 0 = .ok (.iload_n 1, 1) := by decide +kernel
theorem dX7_set_1 : decode cX7_set 1 = .ok (.invokestatic 61, 3) := by decide +kernel
theorem dX7_set_4 : decode cX7_set 4 = .ok (.ifCond .ne 6, 3) := by decide +kernel
theorem dX7_set_7 : decode cX7_set 7 = .ok (.ldc 65, 2) := by decide +kernel
theorem dX7_set_9 : decode cX7_set 9 = .ok (.ireturn, 1) := by decide +kernel
theorem dX7_set_10 : decode cX7_set 10 = .ok (.aload_n 0, 1) := by decide +kernel
theorem dX7_set_11 : decode cX7_set 11 = .ok (.getfield 10, 3) := by decide +kernel
theorem dX7_set_14 : decode cX7_set 14 = .ok (.iload_n 1, 1) := by decide +kernel
theorem dX7_set_15 : decode cX7_set 15 = .ok (.invokevirtual 77, 3) := by decide +kernel
theorem dX7_set_18 : decode cX7_set 18 = .ok (.ifCond .eq 9, 3) := by decide +kernel
theorem dX7_set_21 : decode cX7_set 21 = .ok (.aload_n 0, 1) := by decide +kernel
theorem dX7_set_22 : decode cX7_set 22 = .ok (.iconst 1, 1) := by decide +kernel
theorem dX7_set_23 : decode cX7_set 23 = .ok (.invokevirtual 66, 3) := by decide +kernel
theorem dX7_set_26 : decode cX7_set 26 = .ok (.ireturn, 1) := by decide +kernel
theorem dX7_set_27 : decode cX7_set 27 = .ok (.iload_n 2, 1) := by decide +kernel
theorem dX7_set_28 : decode cX7_set 28 = .ok (.ifCond .lt 16, 3) := by decide +kernel
theorem dX7_set_31 : decode cX7_set 31 = .ok (.iload_n 2, 1) := by decide +kernel
theorem dX7_set_32 : decode cX7_set 32 = .ok (.aload_n 0, 1) := by decide +kernel
theorem dX7_set_33 : decode cX7_set 33 = .ok (.getfield 10, 3) := by decide +kernel
theorem dX7_set_36 : decode cX7_set 36 = .ok (.getfield 80, 3) := by decide +kernel
theorem dX7_set_39 : decode cX7_set 39 = .ok (.iload_n 1, 1) := by decide +kernel
theorem dX7_set_40 : decode cX7_set 40 = .ok (.iaload, 1) := by decide +kernel
theorem dX7_set_41 : decode cX7_set 41 = .ok (.if_icmp .lt 9, 3) := by decide +kernel
theorem dX7_set_44 : decode cX7_set 44 = .ok (.aload_n 0, 1) := by decide +kernel
theorem dX7_set_45 : decode cX7_set 45 = .ok (.iconst 2, 1) := by decide +kernel
theorem dX7_set_46 : decode cX7_set 46 = .ok (.invokevirtual 66, 3) := by decide +kernel
theorem dX7_set_49 : decode cX7_set 49 = .ok (.ireturn, 1) := by decide +kernel
theorem dX7_set_50 : decode cX7_set 50 = .ok (.aload_n 0, 1) := by decide +kernel
theorem dX7_set_51 : decode cX7_set 51 = .ok (.aload_n 0, 1) := by decide +kernel
theorem dX7_set_52 : decode cX7_set 52 = .ok (.getfield 10, 3) := by decide +kernel
theorem dX7_set_55 : decode cX7_set 55 = .ok (.iload_n 1, 1) := by decide +kernel
theorem dX7_set_56 : decode cX7_set 56 = .ok (.iload_n 2, 1) := by decide +kernel
theorem dX7_set_57 : decode cX7_set 57 = .ok (.iload_n 3, 1) := by decide +kernel
theorem dX7_set_58 : decode cX7_set 58 = .ok (.invokevirtual 84, 3) := by decide +kernel
theorem dX7_set_61 : decode cX7_set 61 = .ok (.invokevirtual 74, 3) := by decide +kernel
theorem dX7_set_64 : decode cX7_set 64 = .ok (.ireturn, 1) := by decide +kernel
theorem dX7_copy_0 : decode cX7_copy 0 = .ok (.iload_n 1, 1) := by decide +kernel
theorem dX7_copy_1 : decode cX7_copy 1 = .ok (.invokestatic 61, 3) := by decide +kernel
theorem dX7_copy_4 : decode cX7_copy 4 = .ok (.ifCond .eq 10, 3) := by decide +kernel
theorem dX7_copy_7 : decode cX7_copy 7 = .ok (.iload_n 3, 1) := by decide +kernel
theorem dX7_copy_8 : decode cX7_copy 8 = .ok (.invokestatic 61, 3) := by decide +kernel
theorem dX7_copy_11 : decode cX7_copy 11 = .ok (.ifCond .ne 6, 3) := by decide +kernel
theorem dX7_copy_14 : decode cX7_copy 14 = .ok (.ldc 65, 2) := by decide +kernel
theorem dX7_copy_16 : decode cX7_copy 16 = .ok (.ireturn, 1) := by decide +kernel
theorem dX7_copy_17 : decode cX7_copy 17 = .ok (.aload_n 0, 1) := by decide +kernel
theorem dX7_copy_18 : decode cX7_copy 18 = .ok (.getfield 10, 3) := by decide +kernel
theorem dX7_copy_21 : decode cX7_copy 21 = .ok (.iload_n 1, 1) := by decide +kernel
theorem dX7_copy_22 : decode cX7_copy 22 = .ok (.invokevirtual 77, 3) := by decide +kernel
theorem dX7_copy_25 : decode cX7_copy 25 = .ok (.ifCond .ne 14, 3) := by decide +kernel
theorem dX7_copy_28 : decode cX7_copy 28 = .ok (.aload_n 0, 1) := by decide +kernel
theorem dX7_copy_29 : decode cX7_copy 29 = .ok (.getfield 10, 3) := by decide +kernel
theorem dX7_copy_32 : decode cX7_copy 32 = .ok (.iload_n 3, 1) := by decide +kernel
theorem dX7_copy_33 : decode cX7_copy 33 = .ok (.invokevirtual 77, 3) := by decide +kernel
theorem dX7_copy_36 : decode cX7_copy 36 = .ok (.ifCond .eq 9, 3) := by decide +kernel
theorem dX7_copy_39 : decode cX7_copy 39 = .ok (.aload_n 0, 1) := by decide +kernel
theorem dX7_copy_40 : decode cX7_copy 40 = .ok (.iconst 1, 1) := by decide +kernel
theorem dX7_copy_41 : decode cX7_copy 41 = .ok (.invokevirtual 66, 3) := by decide +kernel
theorem dX7_copy_44 : decode cX7_copy 44 = .ok (.ireturn, 1) := by decide +kernel
theorem dX7_copy_45 : decode cX7_copy 45 = .ok (.aload_n 0, 1) := by decide +kernel
theorem dX7_copy_46 : decode cX7_copy 46 = .ok (.getfield 10, 3) := by decide +kernel
theorem dX7_copy_49 : decode cX7_copy 49 = .ok (.getfield 88, 3) := by decide +kernel
theorem dX7_copy_52 : decode cX7_copy 52 = .ok (.iload_n 1, 1) := by decide +kernel
theorem dX7_copy_53 : decode cX7_copy 53 = .ok (.iaload, 1) := by decide +kernel
theorem dX7_copy_54 : decode cX7_copy 54 = .ok (.aload_n 0, 1) := by decide +kernel
theorem dX7_copy_55 : decode cX7_copy 55 = .ok (.getfield 10, 3) := by decide +kernel
theorem dX7_copy_58 : decode cX7_copy 58 = .ok (.getfield 88, 3) := by decide +kernel
theorem dX7_copy_61 : decode cX7_copy 61 = .ok (.iload_n 3, 1) := by decide +kernel
theorem dX7_copy_62 : decode cX7_copy 62 = .ok (.iaload, 1) := by decide +kernel
theorem dX7_copy_63 : decode cX7_copy 63 = .ok (.if_icmp .eq 9, 3) := by decide +kernel
theorem dX7_copy_66 : decode cX7_copy 66 = .ok (.aload_n 0, 1) := by decide +kernel
theorem dX7_copy_67 : decode cX7_copy 67 = .ok (.iconst 5, 1) := by decide +kernel
theorem dX7_copy_68 : decode cX7_copy 68 = .ok (.invokevirtual 66, 3) := by decide +kernel
theorem dX7_copy_71 : decode cX7_copy 71 = .ok (.ireturn, 1) := by decide +kernel
theorem dX7_copy_72 : decode cX7_copy 72 = .ok (.aload_n 0, 1) := by decide +kernel
theorem dX7_copy_73 : decode cX7_copy 73 = .ok (.getfield 10, 3) := by decide +kernel
theorem dX7_copy_76 : decode cX7_copy 76 = .ok (.iload_n 1, 1) := by decide +kernel
theorem dX7_copy_77 : decode cX7_copy 77 = .ok (.iload_n 2, 1) := by decide +kernel
theorem dX7_copy_78 : decode cX7_copy 78 = .ok (.iload 5, 2) := by decide +kernel
theorem dX7_copy_80 : decode cX7_copy 80 = .ok (.invokevirtual 91, 3) := by decide +kernel
theorem dX7_copy_83 : decode cX7_copy 83 = .ok (.ifCond .eq 18, 3) := by decide +kernel
theorem dX7_copy_86 : decode cX7_copy 86 = .ok (.aload_n 0, 1) := by decide +kernel
theorem dX7_copy_87 : decode cX7_copy 87 = .ok (.getfield 10, 3) := by decide +kernel
theorem dX7_copy_90 : decode cX7_copy 90 = .ok (.iload_n 3, 1) := by decide +kernel
theorem dX7_copy_91 : decode cX7_copy 91 = .ok (.iload 4, 2) := by decide +kernel
theorem dX7_copy_93 : decode cX7_copy 93 = .ok (.iload 5, 2) := by decide +kernel
theorem dX7_copy_95 : decode cX7_copy 95 = .ok (.invokevirtual 91, 3) := by decide +kernel
theorem dX7_copy_98 : decode cX7_copy 98 = .ok (.ifCond .ne 9, 3) := by decide +kernel
theorem dX7_copy_101 : decode cX7_copy 101 = .ok (.aload_n 0, 1) := by decide +kernel
theorem dX7_copy_102 : decode cX7_copy 102 = .ok (.iconst 2, 1) := by decide +kernel
theorem dX7_copy_103 : decode cX7_copy 103 = .ok (.invokevirtual 66, 3) := by decide +kernel
theorem dX7_copy_106 : decode cX7_copy 106 = .ok (.ireturn, 1) := by decide +kernel
theorem dX7_copy_107 : decode cX7_copy 107 = .ok (.aload_n 0, 1) := by decide +kernel
theorem dX7_copy_108 : decode cX7_copy 108 = .ok (.getfield 10, 3) := by decide +kernel
theorem dX7_copy_111 : decode cX7_copy 111 = .ok (.getfield 95, 3) := by decide +kernel
theorem dX7_copy_114 : decode cX7_copy 114 = .ok (.iload_n 1, 1) := by decide +kernel
theorem dX7_copy_115 : decode cX7_copy 115 = .ok (.aaload, 1) := by decide +kernel
theorem dX7_copy_116 : decode cX7_copy 116 = .ok (.iload_n 2, 1) := by decide +kernel
theorem dX7_copy_117 : decode cX7_copy 117 = .ok (.aload_n 0, 1) := by decide +kernel
theorem dX7_copy_118 : decode cX7_copy 118 = .ok (.getfield 10, 3) := by decide +kernel
theorem dX7_copy_121 : decode cX7_copy 121 = .ok (.getfield 95, 3) := by decide +kernel
theorem dX7_copy_124 : decode cX7_copy 124 = .ok (.iload_n 3, 1) := by decide +kernel
theorem dX7_copy_125 : decode cX7_copy 125 = .ok (.aaload, 1) := by decide +kernel
theorem dX7_copy_126 : decode cX7_copy 126 = .ok (.iload 4, 2) := by decide +kernel
theorem dX7_copy_128 : decode cX7_copy 128 = .ok (.iload 5, 2) := by decide +kernel
theorem dX7_copy_130 : decode cX7_copy 130 = .ok (.invokestatic 99, 3) := by decide +kernel
theorem dX7_copy_133 : decode cX7_copy 133 = .ok (.aload_n 0, 1) := by decide +kernel
theorem dX7_copy_134 : decode cX7_copy 134 = .ok (.iload 5, 2) := by decide +kernel
theorem dX7_copy_136 : decode cX7_copy 136 = .ok (.invokevirtual 74, 3) := by decide +kernel
theorem dX7_copy_139 : decode cX7_copy 139 = .ok (.ireturn, 1) := by decide +kernel
theorem dX7_drop_0 : decode cX7_drop 0 = .ok (.iload_n 1, 1) := by decide +kernel
theorem dX7_drop_1 : decode cX7_drop 1 = .ok (.invokestatic 61, 3) := by decide +kernel
theorem dX7_drop_4 : decode cX7_drop 4 = .ok (.ifCond .ne 6, 3) := by decide +kernel
theorem dX7_drop_7 : decode cX7_drop 7 = .ok (.ldc 65, 2) := by decide +kernel
theorem dX7_drop_9 : decode cX7_drop 9 = .ok (.ireturn, 1) := by decide +kernel
theorem dX7_drop_10 : decode cX7_drop 10 = .ok (.aload_n 0, 1) := by decide +kernel
theorem dX7_drop_11 : decode cX7_drop 11 = .ok (.getfield 10, 3) := by decide +kernel
theorem dX7_drop_14 : decode cX7_drop 14 = .ok (.iload_n 1, 1) := by decide +kernel
theorem dX7_drop_15 : decode cX7_drop 15 = .ok (.invokevirtual 77, 3) := by decide +kernel
theorem dX7_drop_18 : decode cX7_drop 18 = .ok (.ifCond .eq 9, 3) := by decide +kernel
theorem dX7_drop_21 : decode cX7_drop 21 = .ok (.aload_n 0, 1) := by decide +kernel
theorem dX7_drop_22 : decode cX7_drop 22 = .ok (.iconst 1, 1) := by decide +kernel
theorem dX7_drop_23 : decode cX7_drop 23 = .ok (.invokevirtual 66, 3) := by decide +kernel
theorem dX7_drop_26 : decode cX7_drop 26 = .ok (.ireturn, 1) := by decide +kernel
theorem dX7_drop_27 : decode cX7_drop 27 = .ok (.aload_n 0, 1) := by decide +kernel
theorem dX7_drop_28 : decode cX7_drop 28 = .ok (.aload_n 0, 1) := by decide +kernel
theorem dX7_drop_29 : decode cX7_drop 29 = .ok (.getfield 10, 3) := by decide +kernel
theorem dX7_drop_32 : decode cX7_drop 32 = .ok (.iload_n 1, 1) := by decide +kernel
theorem dX7_drop_33 : decode cX7_drop 33 = .ok (.invokevirtual 105, 3) := by decide +kernel
theorem dX7_drop_36 : decode cX7_drop 36 = .ok (.invokevirtual 74, 3) := by decide +kernel
theorem dX7_drop_39 : decode cX7_drop 39 = .ok (.ireturn, 1) := by decide +kernel
theorem dX7_feed_0 : decode cX7_feed 0 = .ok (.iload_n 1, 1) := by decide +kernel
theorem dX7_feed_1 : decode cX7_feed 1 = .ok (.ifCond .lt 10, 3) := by decide +kernel
theorem dX7_feed_4 : decode cX7_feed 4 = .ok (.iload_n 1, 1) := by decide +kernel
theorem dX7_feed_5 : decode cX7_feed 5 = .ok (.sipush 255, 3) := by decide +kernel
theorem dX7_feed_8 : decode cX7_feed 8 = .ok (.if_icmp .le 6, 3) := by decide +kernel
theorem dX7_feed_11 : decode cX7_feed 11 = .ok (.ldc 65, 2) := by decide +kernel
theorem dX7_feed_13 : decode cX7_feed 13 = .ok (.ireturn, 1) := by decide +kernel
theorem dX7_feed_14 : decode cX7_feed 14 = .ok (.aload_n 0, 1) := by decide +kernel
theorem dX7_feed_15 : decode cX7_feed 15 = .ok (.getfield 19, 3) := by decide +kernel
theorem dX7_feed_18 : decode cX7_feed 18 = .ok (.getfield 108, 3) := by decide +kernel
theorem dX7_feed_21 : decode cX7_feed 21 = .ok (.sipush 200, 3) := by decide +kernel
theorem dX7_feed_24 : decode cX7_feed 24 = .ok (.if_icmp .lt 6, 3) := by decide +kernel
theorem dX7_feed_27 : decode cX7_feed 27 = .ok (.ldc 111, 2) := by decide +kernel
theorem dX7_feed_29 : decode cX7_feed 29 = .ok (.ireturn, 1) := by decide +kernel
theorem dX7_feed_30 : decode cX7_feed 30 = .ok (.aload_n 0, 1) := by decide +kernel
theorem dX7_feed_31 : decode cX7_feed 31 = .ok (.getfield 19, 3) := by decide +kernel
theorem dX7_feed_34 : decode cX7_feed 34 = .ok (.iload_n 1, 1) := by decide +kernel
theorem dX7_feed_35 : decode cX7_feed 35 = .ok (.invokevirtual 112, 3) := by decide +kernel
theorem dX7_feed_38 : decode cX7_feed 38 = .ok (.ireturn, 1) := by decide +kernel
theorem dX7_formula_0 : decode cX7_formula 0 = .ok (.aload_n 0, 1) := by decide +kernel
theorem dX7_formula_1 : decode cX7_formula 1 = .ok (.getfield 19, 3) := by decide +kernel
theorem dX7_formula_4 : decode cX7_formula 4 = .ok (.invokevirtual 115, 3) := by decide +kernel
theorem dX7_formula_7 : decode cX7_formula 7 = .ok (.ifCond .ne 14, 3) := by decide +kernel
theorem dX7_formula_10 : decode cX7_formula 10 = .ok (.ldc 119, 2) := by decide +kernel
theorem dX7_formula_12 : decode cX7_formula 12 = .ok (.aload_n 0, 1) := by decide +kernel
theorem dX7_formula_13 : decode cX7_formula 13 = .ok (.getfield 19, 3) := by decide +kernel
theorem dX7_formula_16 : decode cX7_formula 16 = .ok (.getfield 120, 3) := by decide +kernel
theorem dX7_formula_19 : decode cX7_formula 19 = .ok (.isub, 1) := by decide +kernel
theorem dX7_formula_20 : decode cX7_formula 20 = .ok (.ireturn, 1) := by decide +kernel
theorem dX7_formula_21 : decode cX7_formula 21 = .ok (.aload_n 0, 1) := by decide +kernel
theorem dX7_formula_22 : decode cX7_formula 22 = .ok (.getfield 26, 3) := by decide +kernel
theorem dX7_formula_25 : decode cX7_formula 25 = .ok (.aload_n 0, 1) := by decide +kernel
theorem dX7_formula_26 : decode cX7_formula 26 = .ok (.getfield 19, 3) := by decide +kernel
theorem dX7_formula_29 : decode cX7_formula 29 = .ok (.getfield 123, 3) := by decide +kernel
theorem dX7_formula_32 : decode cX7_formula 32 = .ok (.invokevirtual 126, 3) := by decide +kernel
theorem dX7_formula_35 : decode cX7_formula 35 = .ok (.iconst 0, 1) := by decide +kernel
theorem dX7_formula_36 : decode cX7_formula 36 = .ok (.istore_n 1, 1) := by decide +kernel
theorem dX7_formula_37 : decode cX7_formula 37 = .ok (.iload_n 1, 1) := by decide +kernel
theorem dX7_formula_38 : decode cX7_formula 38 = .ok (.aload_n 0, 1) := by decide +kernel
theorem dX7_formula_39 : decode cX7_formula 39 = .ok (.getfield 19, 3) := by decide +kernel
theorem dX7_formula_42 : decode cX7_formula 42 = .ok (.getfield 130, 3) := by decide +kernel
theorem dX7_formula_45 : decode cX7_formula 45 = .ok (.if_icmp .ge 37, 3) := by decide +kernel
theorem dX7_formula_48 : decode cX7_formula 48 = .ok (.aload_n 0, 1) := by decide +kernel
theorem dX7_formula_49 : decode cX7_formula 49 = .ok (.getfield 26, 3) := by decide +kernel
theorem dX7_formula_52 : decode cX7_formula 52 = .ok (.invokevirtual 133, 3) := by decide +kernel
theorem dX7_formula_55 : decode cX7_formula 55 = .ok (.aload_n 0, 1) := by decide +kernel
theorem dX7_formula_56 : decode cX7_formula 56 = .ok (.getfield 19, 3) := by decide +kernel
theorem dX7_formula_59 : decode cX7_formula 59 = .ok (.getfield 137, 3) := by decide +kernel
theorem dX7_formula_62 : decode cX7_formula 62 = .ok (.iload_n 1, 1) := by decide +kernel
theorem dX7_formula_63 : decode cX7_formula 63 = .ok (.aaload, 1) := by decide +kernel
theorem dX7_formula_64 : decode cX7_formula 64 = .ok (.invokevirtual 141, 3) := by decide +kernel
theorem dX7_formula_67 : decode cX7_formula 67 = .ok (.aload_n 0, 1) := by decide +kernel
theorem dX7_formula_68 : decode cX7_formula 68 = .ok (.getfield 26, 3) := by decide +kernel
theorem dX7_formula_71 : decode cX7_formula 71 = .ok (.iconst 1, 1) := by decide +kernel
theorem dX7_formula_72 : decode cX7_formula 72 = .ok (.invokevirtual 147, 3) := by decide +kernel
theorem dX7_formula_75 : decode cX7_formula 75 = .ok (.pop, 1) := by decide +kernel
theorem dX7_formula_76 : decode cX7_formula 76 = .ok (.iinc 1 1, 3) := by decide +kernel
theorem dX7_formula_79 : decode cX7_formula 79 = .ok (.goto (-42), 3) := by decide +kernel
theorem dX7_formula_82 : decode cX7_formula 82 = .ok (.aload_n 0, 1) := by decide +kernel
theorem dX7_formula_83 : decode cX7_formula 83 = .ok (.getfield 37, 3) := by decide +kernel
theorem dX7_formula_86 : decode cX7_formula 86 = .ok (.invokevirtual 150, 3) := by decide +kernel
theorem dX7_formula_89 : decode cX7_formula 89 = .ok (.aload_n 0, 1) := by decide +kernel
theorem dX7_formula_90 : decode cX7_formula 90 = .ok (.getfield 19, 3) := by decide +kernel
theorem dX7_formula_93 : decode cX7_formula 93 = .ok (.getfield 130, 3) := by decide +kernel
theorem dX7_formula_96 : decode cX7_formula 96 = .ok (.ireturn, 1) := by decide +kernel
theorem dX7_fault_0 : decode cX7_fault 0 = .ok (.aload_n 0, 1) := by decide +kernel
theorem dX7_fault_1 : decode cX7_fault 1 = .ok (.getfield 19, 3) := by decide +kernel
theorem dX7_fault_4 : decode cX7_fault 4 = .ok (.getfield 153, 3) := by decide +kernel
theorem dX7_fault_7 : decode cX7_fault 7 = .ok (.ireturn, 1) := by decide +kernel
theorem dX7_plus_0 : decode cX7_plus 0 = .ok (.aload_n 0, 1) := by decide +kernel
theorem dX7_plus_1 : decode cX7_plus 1 = .ok (.aload_n 0, 1) := by decide +kernel
theorem dX7_plus_2 : decode cX7_plus 2 = .ok (.getfield 26, 3) := by decide +kernel
theorem dX7_plus_5 : decode cX7_plus 5 = .ok (.iload_n 1, 1) := by decide +kernel
theorem dX7_plus_6 : decode cX7_plus 6 = .ok (.invokevirtual 156, 3) := by decide +kernel
theorem dX7_plus_9 : decode cX7_plus 9 = .ok (.ifCond .eq 18, 3) := by decide +kernel
theorem dX7_plus_12 : decode cX7_plus 12 = .ok (.aload_n 0, 1) := by decide +kernel
theorem dX7_plus_13 : decode cX7_plus 13 = .ok (.getfield 26, 3) := by decide +kernel
theorem dX7_plus_16 : decode cX7_plus 16 = .ok (.iload_n 2, 1) := by decide +kernel
theorem dX7_plus_17 : decode cX7_plus 17 = .ok (.invokevirtual 156, 3) := by decide +kernel
theorem dX7_plus_20 : decode cX7_plus 20 = .ok (.ifCond .eq 7, 3) := by decide +kernel
theorem dX7_plus_23 : decode cX7_plus 23 = .ok (.iconst 1, 1) := by decide +kernel
theorem dX7_plus_24 : decode cX7_plus 24 = .ok (.goto 4, 3) := by decide +kernel
theorem dX7_plus_27 : decode cX7_plus 27 = .ok (.iconst 0, 1) := by decide +kernel
theorem dX7_plus_28 : decode cX7_plus 28 = .ok (.invokevirtual 159, 3) := by decide +kernel
theorem dX7_plus_31 : decode cX7_plus 31 = .ok (.istore_n 3, 1) := by decide +kernel
theorem dX7_plus_32 : decode cX7_plus 32 = .ok (.iload_n 3, 1) := by decide +kernel
theorem dX7_plus_33 : decode cX7_plus 33 = .ok (.ifCond .eq 5, 3) := by decide +kernel
theorem dX7_plus_36 : decode cX7_plus 36 = .ok (.iload_n 3, 1) := by decide +kernel
theorem dX7_plus_37 : decode cX7_plus 37 = .ok (.ireturn, 1) := by decide +kernel
theorem dX7_plus_38 : decode cX7_plus 38 = .ok (.aload_n 0, 1) := by decide +kernel
theorem dX7_plus_39 : decode cX7_plus 39 = .ok (.getfield 26, 3) := by decide +kernel
theorem dX7_plus_42 : decode cX7_plus 42 = .ok (.invokevirtual 133, 3) := by decide +kernel
theorem dX7_plus_45 : decode cX7_plus 45 = .ok (.aload_n 0, 1) := by decide +kernel
theorem dX7_plus_46 : decode cX7_plus 46 = .ok (.getfield 26, 3) := by decide +kernel
theorem dX7_plus_49 : decode cX7_plus 49 = .ok (.getfield 163, 3) := by decide +kernel
theorem dX7_plus_52 : decode cX7_plus 52 = .ok (.iload_n 1, 1) := by decide +kernel
theorem dX7_plus_53 : decode cX7_plus 53 = .ok (.aaload, 1) := by decide +kernel
theorem dX7_plus_54 : decode cX7_plus 54 = .ok (.aload_n 0, 1) := by decide +kernel
theorem dX7_plus_55 : decode cX7_plus 55 = .ok (.getfield 26, 3) := by decide +kernel
theorem dX7_plus_58 : decode cX7_plus 58 = .ok (.getfield 163, 3) := by decide +kernel
theorem dX7_plus_61 : decode cX7_plus 61 = .ok (.iload_n 2, 1) := by decide +kernel
theorem dX7_plus_62 : decode cX7_plus 62 = .ok (.aaload, 1) := by decide +kernel
theorem dX7_plus_63 : decode cX7_plus 63 = .ok (.invokevirtual 164, 3) := by decide +kernel
theorem dX7_plus_66 : decode cX7_plus 66 = .ok (.ifCond .ne 10, 3) := by decide +kernel
theorem dX7_plus_69 : decode cX7_plus 69 = .ok (.aload_n 0, 1) := by decide +kernel
theorem dX7_plus_70 : decode cX7_plus 70 = .ok (.bipush 6, 2) := by decide +kernel
theorem dX7_plus_72 : decode cX7_plus 72 = .ok (.invokevirtual 66, 3) := by decide +kernel
theorem dX7_plus_75 : decode cX7_plus 75 = .ok (.ireturn, 1) := by decide +kernel
theorem dX7_plus_76 : decode cX7_plus 76 = .ok (.aload_n 0, 1) := by decide +kernel
theorem dX7_plus_77 : decode cX7_plus 77 = .ok (.aload_n 0, 1) := by decide +kernel
theorem dX7_plus_78 : decode cX7_plus 78 = .ok (.iconst 4, 1) := by decide +kernel
theorem dX7_plus_79 : decode cX7_plus 79 = .ok (.invokevirtual 168, 3) := by decide +kernel
theorem dX7_plus_82 : decode cX7_plus 82 = .ok (.invokevirtual 74, 3) := by decide +kernel
theorem dX7_plus_85 : decode cX7_plus 85 = .ok (.ireturn, 1) := by decide +kernel
theorem dX7_times_0 : decode cX7_times 0 = .ok (.aload_n 0, 1) := by decide +kernel
theorem dX7_times_1 : decode cX7_times 1 = .ok (.aload_n 0, 1) := by decide +kernel
theorem dX7_times_2 : decode cX7_times 2 = .ok (.getfield 26, 3) := by decide +kernel
theorem dX7_times_5 : decode cX7_times 5 = .ok (.iload_n 1, 1) := by decide +kernel
theorem dX7_times_6 : decode cX7_times 6 = .ok (.invokevirtual 156, 3) := by decide +kernel
theorem dX7_times_9 : decode cX7_times 9 = .ok (.ifCond .eq 12, 3) := by decide +kernel
theorem dX7_times_12 : decode cX7_times 12 = .ok (.iload_n 2, 1) := by decide +kernel
theorem dX7_times_13 : decode cX7_times 13 = .ok (.iconst 1, 1) := by decide +kernel
theorem dX7_times_14 : decode cX7_times 14 = .ok (.if_icmp .lt 7, 3) := by decide +kernel
theorem dX7_times_17 : decode cX7_times 17 = .ok (.iconst 1, 1) := by decide +kernel
theorem dX7_times_18 : decode cX7_times 18 = .ok (.goto 4, 3) := by decide +kernel
theorem dX7_times_21 : decode cX7_times 21 = .ok (.iconst 0, 1) := by decide +kernel
theorem dX7_times_22 : decode cX7_times 22 = .ok (.invokevirtual 159, 3) := by decide +kernel
theorem dX7_times_25 : decode cX7_times 25 = .ok (.istore_n 3, 1) := by decide +kernel
theorem dX7_times_26 : decode cX7_times 26 = .ok (.iload_n 3, 1) := by decide +kernel
theorem dX7_times_27 : decode cX7_times 27 = .ok (.ifCond .eq 5, 3) := by decide +kernel
theorem dX7_times_30 : decode cX7_times 30 = .ok (.iload_n 3, 1) := by decide +kernel
theorem dX7_times_31 : decode cX7_times 31 = .ok (.ireturn, 1) := by decide +kernel
theorem dX7_times_32 : decode cX7_times 32 = .ok (.aload_n 0, 1) := by decide +kernel
theorem dX7_times_33 : decode cX7_times 33 = .ok (.getfield 26, 3) := by decide +kernel
theorem dX7_times_36 : decode cX7_times 36 = .ok (.invokevirtual 133, 3) := by decide +kernel
theorem dX7_times_39 : decode cX7_times 39 = .ok (.aload_n 0, 1) := by decide +kernel
theorem dX7_times_40 : decode cX7_times 40 = .ok (.getfield 26, 3) := by decide +kernel
theorem dX7_times_43 : decode cX7_times 43 = .ok (.getfield 163, 3) := by decide +kernel
theorem dX7_times_46 : decode cX7_times 46 = .ok (.iload_n 1, 1) := by decide +kernel
theorem dX7_times_47 : decode cX7_times 47 = .ok (.aaload, 1) := by decide +kernel
theorem dX7_times_48 : decode cX7_times 48 = .ok (.iload_n 2, 1) := by decide +kernel
theorem dX7_times_49 : decode cX7_times 49 = .ok (.invokevirtual 171, 3) := by decide +kernel
theorem dX7_times_52 : decode cX7_times 52 = .ok (.ifCond .ne 10, 3) := by decide +kernel
theorem dX7_times_55 : decode cX7_times 55 = .ok (.aload_n 0, 1) := by decide +kernel
theorem dX7_times_56 : decode cX7_times 56 = .ok (.bipush 6, 2) := by decide +kernel
theorem dX7_times_58 : decode cX7_times 58 = .ok (.invokevirtual 66, 3) := by decide +kernel
theorem dX7_times_61 : decode cX7_times 61 = .ok (.ireturn, 1) := by decide +kernel
theorem dX7_times_62 : decode cX7_times 62 = .ok (.aload_n 0, 1) := by decide +kernel
theorem dX7_times_63 : decode cX7_times 63 = .ok (.aload_n 0, 1) := by decide +kernel
theorem dX7_times_64 : decode cX7_times 64 = .ok (.iconst 4, 1) := by decide +kernel
theorem dX7_times_65 : decode cX7_times 65 = .ok (.invokevirtual 168, 3) := by decide +kernel
theorem dX7_times_68 : decode cX7_times 68 = .ok (.invokevirtual 74, 3) := by decide +kernel
theorem dX7_times_71 : decode cX7_times 71 = .ok (.ireturn, 1) := by decide +kernel
theorem dX7_split_0 : decode cX7_split 0 = .ok (.aload_n 0, 1) := by decide +kernel
theorem dX7_split_1 : decode cX7_split 1 = .ok (.aload_n 0, 1) := by decide +kernel
theorem dX7_split_2 : decode cX7_split 2 = .ok (.getfield 26, 3) := by decide +kernel
theorem dX7_split_5 : decode cX7_split 5 = .ok (.iload_n 1, 1) := by decide +kernel
theorem dX7_split_6 : decode cX7_split 6 = .ok (.invokevirtual 156, 3) := by decide +kernel
theorem dX7_split_9 : decode cX7_split 9 = .ok (.ifCond .eq 12, 3) := by decide +kernel
theorem dX7_split_12 : decode cX7_split 12 = .ok (.iload_n 2, 1) := by decide +kernel
theorem dX7_split_13 : decode cX7_split 13 = .ok (.iconst 1, 1) := by decide +kernel
theorem dX7_split_14 : decode cX7_split 14 = .ok (.if_icmp .lt 7, 3) := by decide +kernel
theorem dX7_split_17 : decode cX7_split 17 = .ok (.iconst 1, 1) := by decide +kernel
theorem dX7_split_18 : decode cX7_split 18 = .ok (.goto 4, 3) := by decide +kernel
theorem dX7_split_21 : decode cX7_split 21 = .ok (.iconst 0, 1) := by decide +kernel
theorem dX7_split_22 : decode cX7_split 22 = .ok (.invokevirtual 159, 3) := by decide +kernel
theorem dX7_split_25 : decode cX7_split 25 = .ok (.istore_n 3, 1) := by decide +kernel
theorem dX7_split_26 : decode cX7_split 26 = .ok (.iload_n 3, 1) := by decide +kernel
theorem dX7_split_27 : decode cX7_split 27 = .ok (.ifCond .eq 5, 3) := by decide +kernel
theorem dX7_split_30 : decode cX7_split 30 = .ok (.iload_n 3, 1) := by decide +kernel
theorem dX7_split_31 : decode cX7_split 31 = .ok (.ireturn, 1) := by decide +kernel
theorem dX7_split_32 : decode cX7_split 32 = .ok (.aload_n 0, 1) := by decide +kernel
theorem dX7_split_33 : decode cX7_split 33 = .ok (.getfield 26, 3) := by decide +kernel
theorem dX7_split_36 : decode cX7_split 36 = .ok (.invokevirtual 133, 3) := by decide +kernel
theorem dX7_split_39 : decode cX7_split 39 = .ok (.aload_n 0, 1) := by decide +kernel
theorem dX7_split_40 : decode cX7_split 40 = .ok (.getfield 26, 3) := by decide +kernel
theorem dX7_split_43 : decode cX7_split 43 = .ok (.getfield 163, 3) := by decide +kernel
theorem dX7_split_46 : decode cX7_split 46 = .ok (.iload_n 1, 1) := by decide +kernel
theorem dX7_split_47 : decode cX7_split 47 = .ok (.aaload, 1) := by decide +kernel
theorem dX7_split_48 : decode cX7_split 48 = .ok (.iload_n 2, 1) := by decide +kernel
theorem dX7_split_49 : decode cX7_split 49 = .ok (.invokevirtual 175, 3) := by decide +kernel
theorem dX7_split_52 : decode cX7_split 52 = .ok (.aload_n 0, 1) := by decide +kernel
theorem dX7_split_53 : decode cX7_split 53 = .ok (.iconst 4, 1) := by decide +kernel
theorem dX7_split_54 : decode cX7_split 54 = .ok (.invokevirtual 168, 3) := by decide +kernel
theorem dX7_split_57 : decode cX7_split 57 = .ok (.ireturn, 1) := by decide +kernel
theorem dX7_saturate_0 : decode cX7_saturate 0 = .ok (.aload_n 0, 1) := by decide +kernel
theorem dX7_saturate_1 : decode cX7_saturate 1 = .ok (.aload_n 0, 1) := by decide +kernel
theorem dX7_saturate_2 : decode cX7_saturate 2 = .ok (.getfield 26, 3) := by decide +kernel
theorem dX7_saturate_5 : decode cX7_saturate 5 = .ok (.iload_n 1, 1) := by decide +kernel
theorem dX7_saturate_6 : decode cX7_saturate 6 = .ok (.invokevirtual 156, 3) := by decide +kernel
theorem dX7_saturate_9 : decode cX7_saturate 9 = .ok (.invokevirtual 159, 3) := by decide +kernel
theorem dX7_saturate_12 : decode cX7_saturate 12 = .ok (.istore_n 2, 1) := by decide +kernel
theorem dX7_saturate_13 : decode cX7_saturate 13 = .ok (.iload_n 2, 1) := by decide +kernel
theorem dX7_saturate_14 : decode cX7_saturate 14 = .ok (.ifCond .eq 5, 3) := by decide +kernel
theorem dX7_saturate_17 : decode cX7_saturate 17 = .ok (.iload_n 2, 1) := by decide +kernel
theorem dX7_saturate_18 : decode cX7_saturate 18 = .ok (.ireturn, 1) := by decide +kernel
theorem dX7_saturate_19 : decode cX7_saturate 19 = .ok (.aload_n 0, 1) := by decide +kernel
theorem dX7_saturate_20 : decode cX7_saturate 20 = .ok (.getfield 26, 3) := by decide +kernel
theorem dX7_saturate_23 : decode cX7_saturate 23 = .ok (.invokevirtual 133, 3) := by decide +kernel
theorem dX7_saturate_26 : decode cX7_saturate 26 = .ok (.aload_n 0, 1) := by decide +kernel
theorem dX7_saturate_27 : decode cX7_saturate 27 = .ok (.getfield 26, 3) := by decide +kernel
theorem dX7_saturate_30 : decode cX7_saturate 30 = .ok (.getfield 163, 3) := by decide +kernel
theorem dX7_saturate_33 : decode cX7_saturate 33 = .ok (.iload_n 1, 1) := by decide +kernel
theorem dX7_saturate_34 : decode cX7_saturate 34 = .ok (.aaload, 1) := by decide +kernel
theorem dX7_saturate_35 : decode cX7_saturate 35 = .ok (.invokevirtual 179, 3) := by decide +kernel
theorem dX7_saturate_38 : decode cX7_saturate 38 = .ok (.aload_n 0, 1) := by decide +kernel
theorem dX7_saturate_39 : decode cX7_saturate 39 = .ok (.iconst 4, 1) := by decide +kernel
theorem dX7_saturate_40 : decode cX7_saturate 40 = .ok (.invokevirtual 168, 3) := by decide +kernel
theorem dX7_saturate_43 : decode cX7_saturate 43 = .ok (.ireturn, 1) := by decide +kernel
theorem dX7_weaken_0 : decode cX7_weaken 0 = .ok (.aload_n 0, 1) := by decide +kernel
theorem dX7_weaken_1 : decode cX7_weaken 1 = .ok (.aload_n 0, 1) := by decide +kernel
theorem dX7_weaken_2 : decode cX7_weaken 2 = .ok (.getfield 26, 3) := by decide +kernel
theorem dX7_weaken_5 : decode cX7_weaken 5 = .ok (.iload_n 1, 1) := by decide +kernel
theorem dX7_weaken_6 : decode cX7_weaken 6 = .ok (.invokevirtual 156, 3) := by decide +kernel
theorem dX7_weaken_9 : decode cX7_weaken 9 = .ok (.ifCond .eq 33, 3) := by decide +kernel
theorem dX7_weaken_12 : decode cX7_weaken 12 = .ok (.iload_n 2, 1) := by decide +kernel
theorem dX7_weaken_13 : decode cX7_weaken 13 = .ok (.invokestatic 182, 3) := by decide +kernel
theorem dX7_weaken_16 : decode cX7_weaken 16 = .ok (.ifCond .eq 26, 3) := by decide +kernel
theorem dX7_weaken_19 : decode cX7_weaken 19 = .ok (.aload_n 0, 1) := by decide +kernel
theorem dX7_weaken_20 : decode cX7_weaken 20 = .ok (.getfield 26, 3) := by decide +kernel
theorem dX7_weaken_23 : decode cX7_weaken 23 = .ok (.getfield 163, 3) := by decide +kernel
theorem dX7_weaken_26 : decode cX7_weaken 26 = .ok (.iload_n 1, 1) := by decide +kernel
theorem dX7_weaken_27 : decode cX7_weaken 27 = .ok (.aaload, 1) := by decide +kernel
theorem dX7_weaken_28 : decode cX7_weaken 28 = .ok (.getfield 185, 3) := by decide +kernel
theorem dX7_weaken_31 : decode cX7_weaken 31 = .ok (.iload_n 2, 1) := by decide +kernel
theorem dX7_weaken_32 : decode cX7_weaken 32 = .ok (.laload, 1) := by decide +kernel
theorem dX7_weaken_33 : decode cX7_weaken 33 = .ok (.lconst 0, 1) := by decide +kernel
theorem dX7_weaken_34 : decode cX7_weaken 34 = .ok (.lcmp, 1) := by decide +kernel
theorem dX7_weaken_35 : decode cX7_weaken 35 = .ok (.ifCond .eq 7, 3) := by decide +kernel
theorem dX7_weaken_38 : decode cX7_weaken 38 = .ok (.iconst 1, 1) := by decide +kernel
theorem dX7_weaken_39 : decode cX7_weaken 39 = .ok (.goto 4, 3) := by decide +kernel
theorem dX7_weaken_42 : decode cX7_weaken 42 = .ok (.iconst 0, 1) := by decide +kernel
theorem dX7_weaken_43 : decode cX7_weaken 43 = .ok (.invokevirtual 159, 3) := by decide +kernel
theorem dX7_weaken_46 : decode cX7_weaken 46 = .ok (.istore_n 3, 1) := by decide +kernel
theorem dX7_weaken_47 : decode cX7_weaken 47 = .ok (.iload_n 3, 1) := by decide +kernel
theorem dX7_weaken_48 : decode cX7_weaken 48 = .ok (.ifCond .eq 5, 3) := by decide +kernel
theorem dX7_weaken_51 : decode cX7_weaken 51 = .ok (.iload_n 3, 1) := by decide +kernel
theorem dX7_weaken_52 : decode cX7_weaken 52 = .ok (.ireturn, 1) := by decide +kernel
theorem dX7_weaken_53 : decode cX7_weaken 53 = .ok (.aload_n 0, 1) := by decide +kernel
theorem dX7_weaken_54 : decode cX7_weaken 54 = .ok (.getfield 26, 3) := by decide +kernel
theorem dX7_weaken_57 : decode cX7_weaken 57 = .ok (.invokevirtual 133, 3) := by decide +kernel
theorem dX7_weaken_60 : decode cX7_weaken 60 = .ok (.aload_n 0, 1) := by decide +kernel
theorem dX7_weaken_61 : decode cX7_weaken 61 = .ok (.getfield 26, 3) := by decide +kernel
theorem dX7_weaken_64 : decode cX7_weaken 64 = .ok (.getfield 163, 3) := by decide +kernel
theorem dX7_weaken_67 : decode cX7_weaken 67 = .ok (.iload_n 1, 1) := by decide +kernel
theorem dX7_weaken_68 : decode cX7_weaken 68 = .ok (.aaload, 1) := by decide +kernel
theorem dX7_weaken_69 : decode cX7_weaken 69 = .ok (.iload_n 2, 1) := by decide +kernel
theorem dX7_weaken_70 : decode cX7_weaken 70 = .ok (.invokevirtual 189, 3) := by decide +kernel
theorem dX7_weaken_73 : decode cX7_weaken 73 = .ok (.aload_n 0, 1) := by decide +kernel
theorem dX7_weaken_74 : decode cX7_weaken 74 = .ok (.iconst 4, 1) := by decide +kernel
theorem dX7_weaken_75 : decode cX7_weaken 75 = .ok (.invokevirtual 168, 3) := by decide +kernel
theorem dX7_weaken_78 : decode cX7_weaken 78 = .ok (.ireturn, 1) := by decide +kernel
theorem dX7_axiom_0 : decode cX7_axiom 0 = .ok (.aload_n 0, 1) := by decide +kernel
theorem dX7_axiom_1 : decode cX7_axiom 1 = .ok (.iload_n 1, 1) := by decide +kernel
theorem dX7_axiom_2 : decode cX7_axiom 2 = .ok (.invokestatic 182, 3) := by decide +kernel
theorem dX7_axiom_5 : decode cX7_axiom 5 = .ok (.ifCond .eq 16, 3) := by decide +kernel
theorem dX7_axiom_8 : decode cX7_axiom 8 = .ok (.iload_n 2, 1) := by decide +kernel
theorem dX7_axiom_9 : decode cX7_axiom 9 = .ok (.ifCond .eq 8, 3) := by decide +kernel
theorem dX7_axiom_12 : decode cX7_axiom 12 = .ok (.iload_n 2, 1) := by decide +kernel
theorem dX7_axiom_13 : decode cX7_axiom 13 = .ok (.iconst 1, 1) := by decide +kernel
theorem dX7_axiom_14 : decode cX7_axiom 14 = .ok (.if_icmp .ne 7, 3) := by decide +kernel
theorem dX7_axiom_17 : decode cX7_axiom 17 = .ok (.iconst 1, 1) := by decide +kernel
theorem dX7_axiom_18 : decode cX7_axiom 18 = .ok (.goto 4, 3) := by decide +kernel
theorem dX7_axiom_21 : decode cX7_axiom 21 = .ok (.iconst 0, 1) := by decide +kernel
theorem dX7_axiom_22 : decode cX7_axiom 22 = .ok (.invokevirtual 159, 3) := by decide +kernel
theorem dX7_axiom_25 : decode cX7_axiom 25 = .ok (.istore_n 3, 1) := by decide +kernel
theorem dX7_axiom_26 : decode cX7_axiom 26 = .ok (.iload_n 3, 1) := by decide +kernel
theorem dX7_axiom_27 : decode cX7_axiom 27 = .ok (.ifCond .eq 5, 3) := by decide +kernel
theorem dX7_axiom_30 : decode cX7_axiom 30 = .ok (.iload_n 3, 1) := by decide +kernel
theorem dX7_axiom_31 : decode cX7_axiom 31 = .ok (.ireturn, 1) := by decide +kernel
theorem dX7_axiom_32 : decode cX7_axiom 32 = .ok (.aload_n 0, 1) := by decide +kernel
theorem dX7_axiom_33 : decode cX7_axiom 33 = .ok (.getfield 26, 3) := by decide +kernel
theorem dX7_axiom_36 : decode cX7_axiom 36 = .ok (.invokevirtual 133, 3) := by decide +kernel
theorem dX7_axiom_39 : decode cX7_axiom 39 = .ok (.astore 4, 2) := by decide +kernel
theorem dX7_axiom_41 : decode cX7_axiom 41 = .ok (.aload 4, 2) := by decide +kernel
theorem dX7_axiom_43 : decode cX7_axiom 43 = .ok (.invokevirtual 192, 3) := by decide +kernel
theorem dX7_axiom_46 : decode cX7_axiom 46 = .ok (.aload 4, 2) := by decide +kernel
theorem dX7_axiom_48 : decode cX7_axiom 48 = .ok (.getfield 185, 3) := by decide +kernel
theorem dX7_axiom_51 : decode cX7_axiom 51 = .ok (.iload_n 1, 1) := by decide +kernel
theorem dX7_axiom_52 : decode cX7_axiom 52 = .ok (.iload_n 2, 1) := by decide +kernel
theorem dX7_axiom_53 : decode cX7_axiom 53 = .ok (.iconst 1, 1) := by decide +kernel
theorem dX7_axiom_54 : decode cX7_axiom 54 = .ok (.if_icmp .ne 7, 3) := by decide +kernel
theorem dX7_axiom_57 : decode cX7_axiom 57 = .ok (.lconst 1, 1) := by decide +kernel
theorem dX7_axiom_58 : decode cX7_axiom 58 = .ok (.goto 6, 3) := by decide +kernel
theorem dX7_axiom_61 : decode cX7_axiom 61 = .ok (.ldc2_w 195, 3) := by decide +kernel
theorem dX7_axiom_64 : decode cX7_axiom 64 = .ok (.lastore, 1) := by decide +kernel
theorem dX7_axiom_65 : decode cX7_axiom 65 = .ok (.aload_n 0, 1) := by decide +kernel
theorem dX7_axiom_66 : decode cX7_axiom 66 = .ok (.iconst 2, 1) := by decide +kernel
theorem dX7_axiom_67 : decode cX7_axiom 67 = .ok (.invokevirtual 168, 3) := by decide +kernel
theorem dX7_axiom_70 : decode cX7_axiom 70 = .ok (.ireturn, 1) := by decide +kernel
theorem dX7_claim_0 : decode cX7_claim 0 = .ok (.aload_n 0, 1) := by decide +kernel
theorem dX7_claim_1 : decode cX7_claim 1 = .ok (.getfield 26, 3) := by decide +kernel
theorem dX7_claim_4 : decode cX7_claim 4 = .ok (.getfield 197, 3) := by decide +kernel
theorem dX7_claim_7 : decode cX7_claim 7 = .ok (.ifCond .ne 6, 3) := by decide +kernel
theorem dX7_claim_10 : decode cX7_claim 10 = .ok (.ldc 201, 2) := by decide +kernel
theorem dX7_claim_12 : decode cX7_claim 12 = .ok (.ireturn, 1) := by decide +kernel
theorem dX7_claim_13 : decode cX7_claim 13 = .ok (.aload_n 0, 1) := by decide +kernel
theorem dX7_claim_14 : decode cX7_claim 14 = .ok (.iconst (-1), 1) := by decide +kernel
theorem dX7_claim_15 : decode cX7_claim 15 = .ok (.invokevirtual 202, 3) := by decide +kernel
theorem dX7_claim_18 : decode cX7_claim 18 = .ok (.ireturn, 1) := by decide +kernel
theorem dX7_witness_0 : decode cX7_witness 0 = .ok (.aload_n 0, 1) := by decide +kernel
theorem dX7_witness_1 : decode cX7_witness 1 = .ok (.getfield 26, 3) := by decide +kernel
theorem dX7_witness_4 : decode cX7_witness 4 = .ok (.getfield 197, 3) := by decide +kernel
theorem dX7_witness_7 : decode cX7_witness 7 = .ok (.ifCond .ne 6, 3) := by decide +kernel
theorem dX7_witness_10 : decode cX7_witness 10 = .ok (.ldc 201, 2) := by decide +kernel
theorem dX7_witness_12 : decode cX7_witness 12 = .ok (.ireturn, 1) := by decide +kernel
theorem dX7_witness_13 : decode cX7_witness 13 = .ok (.iload_n 1, 1) := by decide +kernel
theorem dX7_witness_14 : decode cX7_witness 14 = .ok (.invokestatic 61, 3) := by decide +kernel
theorem dX7_witness_17 : decode cX7_witness 17 = .ok (.ifCond .ne 6, 3) := by decide +kernel
theorem dX7_witness_20 : decode cX7_witness 20 = .ok (.ldc 65, 2) := by decide +kernel
theorem dX7_witness_22 : decode cX7_witness 22 = .ok (.ireturn, 1) := by decide +kernel
theorem dX7_witness_23 : decode cX7_witness 23 = .ok (.aload_n 0, 1) := by decide +kernel
theorem dX7_witness_24 : decode cX7_witness 24 = .ok (.getfield 10, 3) := by decide +kernel
theorem dX7_witness_27 : decode cX7_witness 27 = .ok (.iload_n 1, 1) := by decide +kernel
theorem dX7_witness_28 : decode cX7_witness 28 = .ok (.invokevirtual 77, 3) := by decide +kernel
theorem dX7_witness_31 : decode cX7_witness 31 = .ok (.ifCond .eq 9, 3) := by decide +kernel
theorem dX7_witness_34 : decode cX7_witness 34 = .ok (.aload_n 0, 1) := by decide +kernel
theorem dX7_witness_35 : decode cX7_witness 35 = .ok (.iconst 1, 1) := by decide +kernel
theorem dX7_witness_36 : decode cX7_witness 36 = .ok (.invokevirtual 66, 3) := by decide +kernel
theorem dX7_witness_39 : decode cX7_witness 39 = .ok (.ireturn, 1) := by decide +kernel
theorem dX7_witness_40 : decode cX7_witness 40 = .ok (.aload_n 0, 1) := by decide +kernel
theorem dX7_witness_41 : decode cX7_witness 41 = .ok (.getfield 10, 3) := by decide +kernel
theorem dX7_witness_44 : decode cX7_witness 44 = .ok (.iload_n 1, 1) := by decide +kernel
theorem dX7_witness_45 : decode cX7_witness 45 = .ok (.invokevirtual 205, 3) := by decide +kernel
theorem dX7_witness_48 : decode cX7_witness 48 = .ok (.ifCond .ne 9, 3) := by decide +kernel
theorem dX7_witness_51 : decode cX7_witness 51 = .ok (.aload_n 0, 1) := by decide +kernel
theorem dX7_witness_52 : decode cX7_witness 52 = .ok (.iconst 2, 1) := by decide +kernel
theorem dX7_witness_53 : decode cX7_witness 53 = .ok (.invokevirtual 66, 3) := by decide +kernel
theorem dX7_witness_56 : decode cX7_witness 56 = .ok (.ireturn, 1) := by decide +kernel
theorem dX7_witness_57 : decode cX7_witness 57 = .ok (.aload_n 0, 1) := by decide +kernel
theorem dX7_witness_58 : decode cX7_witness 58 = .ok (.iload_n 1, 1) := by decide +kernel
theorem dX7_witness_59 : decode cX7_witness 59 = .ok (.invokevirtual 202, 3) := by decide +kernel
theorem dX7_witness_62 : decode cX7_witness 62 = .ok (.ireturn, 1) := by decide +kernel
theorem dX7_solution_0 : decode cX7_solution 0 = .ok (.aload_n 0, 1) := by decide +kernel
theorem dX7_solution_1 : decode cX7_solution 1 = .ok (.getfield 26, 3) := by decide +kernel
theorem dX7_solution_4 : decode cX7_solution 4 = .ok (.getfield 197, 3) := by decide +kernel
theorem dX7_solution_7 : decode cX7_solution 7 = .ok (.ifCond .ne 6, 3) := by decide +kernel
theorem dX7_solution_10 : decode cX7_solution 10 = .ok (.ldc 201, 2) := by decide +kernel
theorem dX7_solution_12 : decode cX7_solution 12 = .ok (.ireturn, 1) := by decide +kernel
theorem dX7_solution_13 : decode cX7_solution 13 = .ok (.iload_n 1, 1) := by decide +kernel
theorem dX7_solution_14 : decode cX7_solution 14 = .ok (.invokestatic 208, 3) := by decide +kernel
theorem dX7_solution_17 : decode cX7_solution 17 = .ok (.ifCond .ne 6, 3) := by decide +kernel
theorem dX7_solution_20 : decode cX7_solution 20 = .ok (.ldc 65, 2) := by decide +kernel
theorem dX7_solution_22 : decode cX7_solution 22 = .ok (.ireturn, 1) := by decide +kernel
theorem dX7_solution_23 : decode cX7_solution 23 = .ok (.aload_n 0, 1) := by decide +kernel
theorem dX7_solution_24 : decode cX7_solution 24 = .ok (.getfield 26, 3) := by decide +kernel
theorem dX7_solution_27 : decode cX7_solution 27 = .ok (.invokevirtual 211, 3) := by decide +kernel
theorem dX7_solution_30 : decode cX7_solution 30 = .ok (.ifCond .le 7, 3) := by decide +kernel
theorem dX7_solution_33 : decode cX7_solution 33 = .ok (.iconst 1, 1) := by decide +kernel
theorem dX7_solution_34 : decode cX7_solution 34 = .ok (.goto 4, 3) := by decide +kernel
theorem dX7_solution_37 : decode cX7_solution 37 = .ok (.iconst 0, 1) := by decide +kernel
theorem dX7_solution_38 : decode cX7_solution 38 = .ok (.istore_n 2, 1) := by decide +kernel
theorem dX7_solution_39 : decode cX7_solution 39 = .ok (.iload_n 2, 1) := by decide +kernel
theorem dX7_solution_40 : decode cX7_solution 40 = .ok (.ifCond .eq 16, 3) := by decide +kernel
theorem dX7_solution_43 : decode cX7_solution 43 = .ok (.aload_n 0, 1) := by decide +kernel
theorem dX7_solution_44 : decode cX7_solution 44 = .ok (.getfield 26, 3) := by decide +kernel
theorem dX7_solution_47 : decode cX7_solution 47 = .ok (.invokevirtual 215, 3) := by decide +kernel
theorem dX7_solution_50 : decode cX7_solution 50 = .ok (.ifCond .eq 6, 3) := by decide +kernel
theorem dX7_solution_53 : decode cX7_solution 53 = .ok (.ldc 111, 2) := by decide +kernel
theorem dX7_solution_55 : decode cX7_solution 55 = .ok (.ireturn, 1) := by decide +kernel
theorem dX7_solution_56 : decode cX7_solution 56 = .ok (.aload_n 0, 1) := by decide +kernel
theorem dX7_solution_57 : decode cX7_solution 57 = .ok (.getfield 26, 3) := by decide +kernel
theorem dX7_solution_60 : decode cX7_solution 60 = .ok (.invokevirtual 218, 3) := by decide +kernel
theorem dX7_solution_63 : decode cX7_solution 63 = .ok (.ifCond .eq 10, 3) := by decide +kernel
theorem dX7_solution_66 : decode cX7_solution 66 = .ok (.aload_n 0, 1) := by decide +kernel
theorem dX7_solution_67 : decode cX7_solution 67 = .ok (.bipush 6, 2) := by decide +kernel
theorem dX7_solution_69 : decode cX7_solution 69 = .ok (.invokevirtual 66, 3) := by decide +kernel
theorem dX7_solution_72 : decode cX7_solution 72 = .ok (.ireturn, 1) := by decide +kernel
theorem dX7_solution_73 : decode cX7_solution 73 = .ok (.aload_n 0, 1) := by decide +kernel
theorem dX7_solution_74 : decode cX7_solution 74 = .ok (.getfield 26, 3) := by decide +kernel
theorem dX7_solution_77 : decode cX7_solution 77 = .ok (.iload_n 1, 1) := by decide +kernel
theorem dX7_solution_78 : decode cX7_solution 78 = .ok (.invokevirtual 221, 3) := by decide +kernel
theorem dX7_solution_81 : decode cX7_solution 81 = .ok (.ifCond .ne 10, 3) := by decide +kernel
theorem dX7_solution_84 : decode cX7_solution 84 = .ok (.aload_n 0, 1) := by decide +kernel
theorem dX7_solution_85 : decode cX7_solution 85 = .ok (.ldc 224, 2) := by decide +kernel
theorem dX7_solution_87 : decode cX7_solution 87 = .ok (.invokevirtual 74, 3) := by decide +kernel
theorem dX7_solution_90 : decode cX7_solution 90 = .ok (.ireturn, 1) := by decide +kernel
theorem dX7_solution_91 : decode cX7_solution 91 = .ok (.aload_n 0, 1) := by decide +kernel
theorem dX7_solution_92 : decode cX7_solution 92 = .ok (.getfield 37, 3) := by decide +kernel
theorem dX7_solution_95 : decode cX7_solution 95 = .ok (.aload_n 0, 1) := by decide +kernel
theorem dX7_solution_96 : decode cX7_solution 96 = .ok (.getfield 26, 3) := by decide +kernel
theorem dX7_solution_99 : decode cX7_solution 99 = .ok (.invokevirtual 225, 3) := by decide +kernel
theorem dX7_solution_102 : decode cX7_solution 102 = .ok (.aload_n 0, 1) := by decide +kernel
theorem dX7_solution_103 : decode cX7_solution 103 = .ok (.getfield 26, 3) := by decide +kernel
theorem dX7_solution_106 : decode cX7_solution 106 = .ok (.aload_n 0, 1) := by decide +kernel
theorem dX7_solution_107 : decode cX7_solution 107 = .ok (.getfield 26, 3) := by decide +kernel
theorem dX7_solution_110 : decode cX7_solution 110 = .ok (.iload_n 1, 1) := by decide +kernel
theorem dX7_solution_111 : decode cX7_solution 111 = .ok (.invokevirtual 228, 3) := by decide +kernel
theorem dX7_solution_114 : decode cX7_solution 114 = .ok (.putfield 231, 3) := by decide +kernel
theorem dX7_solution_117 : decode cX7_solution 117 = .ok (.iload_n 2, 1) := by decide +kernel
theorem dX7_solution_118 : decode cX7_solution 118 = .ok (.ifCond .eq 43, 3) := by decide +kernel
theorem dX7_solution_121 : decode cX7_solution 121 = .ok (.aload_n 0, 1) := by decide +kernel
theorem dX7_solution_122 : decode cX7_solution 122 = .ok (.getfield 26, 3) := by decide +kernel
theorem dX7_solution_125 : decode cX7_solution 125 = .ok (.invokevirtual 133, 3) := by decide +kernel
theorem dX7_solution_128 : decode cX7_solution 128 = .ok (.aload_n 0, 1) := by decide +kernel
theorem dX7_solution_129 : decode cX7_solution 129 = .ok (.getfield 26, 3) := by decide +kernel
theorem dX7_solution_132 : decode cX7_solution 132 = .ok (.getfield 234, 3) := by decide +kernel
theorem dX7_solution_135 : decode cX7_solution 135 = .ok (.aload_n 0, 1) := by decide +kernel
theorem dX7_solution_136 : decode cX7_solution 136 = .ok (.getfield 26, 3) := by decide +kernel
theorem dX7_solution_139 : decode cX7_solution 139 = .ok (.invokevirtual 211, 3) := by decide +kernel
theorem dX7_solution_142 : decode cX7_solution 142 = .ok (.aload_n 0, 1) := by decide +kernel
theorem dX7_solution_143 : decode cX7_solution 143 = .ok (.getfield 26, 3) := by decide +kernel
theorem dX7_solution_146 : decode cX7_solution 146 = .ok (.getfield 231, 3) := by decide +kernel
theorem dX7_solution_149 : decode cX7_solution 149 = .ok (.invokevirtual 235, 3) := by decide +kernel
theorem dX7_solution_152 : decode cX7_solution 152 = .ok (.aload_n 0, 1) := by decide +kernel
theorem dX7_solution_153 : decode cX7_solution 153 = .ok (.getfield 26, 3) := by decide +kernel
theorem dX7_solution_156 : decode cX7_solution 156 = .ok (.iconst 3, 1) := by decide +kernel
theorem dX7_solution_157 : decode cX7_solution 157 = .ok (.invokevirtual 147, 3) := by decide +kernel
theorem dX7_solution_160 : decode cX7_solution 160 = .ok (.pop, 1) := by decide +kernel
theorem dX7_solution_161 : decode cX7_solution 161 = .ok (.aload_n 0, 1) := by decide +kernel
theorem dX7_solution_162 : decode cX7_solution 162 = .ok (.aload_n 0, 1) := by decide +kernel
theorem dX7_solution_163 : decode cX7_solution 163 = .ok (.getfield 26, 3) := by decide +kernel
theorem dX7_solution_166 : decode cX7_solution 166 = .ok (.getfield 231, 3) := by decide +kernel
theorem dX7_solution_169 : decode cX7_solution 169 = .ok (.invokevirtual 74, 3) := by decide +kernel
theorem dX7_solution_172 : decode cX7_solution 172 = .ok (.ireturn, 1) := by decide +kernel
theorem dX7_remove_0 : decode cX7_remove 0 = .ok (.aload_n 0, 1) := by decide +kernel
theorem dX7_remove_1 : decode cX7_remove 1 = .ok (.getfield 26, 3) := by decide +kernel
theorem dX7_remove_4 : decode cX7_remove 4 = .ok (.getfield 197, 3) := by decide +kernel
theorem dX7_remove_7 : decode cX7_remove 7 = .ok (.ifCond .ne 6, 3) := by decide +kernel
theorem dX7_remove_10 : decode cX7_remove 10 = .ok (.ldc 201, 2) := by decide +kernel
theorem dX7_remove_12 : decode cX7_remove 12 = .ok (.ireturn, 1) := by decide +kernel
theorem dX7_remove_13 : decode cX7_remove 13 = .ok (.aload_n 0, 1) := by decide +kernel
theorem dX7_remove_14 : decode cX7_remove 14 = .ok (.getfield 26, 3) := by decide +kernel
theorem dX7_remove_17 : decode cX7_remove 17 = .ok (.iload_n 1, 1) := by decide +kernel
theorem dX7_remove_18 : decode cX7_remove 18 = .ok (.invokevirtual 156, 3) := by decide +kernel
theorem dX7_remove_21 : decode cX7_remove 21 = .ok (.ifCond .ne 6, 3) := by decide +kernel
theorem dX7_remove_24 : decode cX7_remove 24 = .ok (.ldc 65, 2) := by decide +kernel
theorem dX7_remove_26 : decode cX7_remove 26 = .ok (.ireturn, 1) := by decide +kernel
theorem dX7_remove_27 : decode cX7_remove 27 = .ok (.aload_n 0, 1) := by decide +kernel
theorem dX7_remove_28 : decode cX7_remove 28 = .ok (.getfield 26, 3) := by decide +kernel
theorem dX7_remove_31 : decode cX7_remove 31 = .ok (.getfield 163, 3) := by decide +kernel
theorem dX7_remove_34 : decode cX7_remove 34 = .ok (.iload_n 1, 1) := by decide +kernel
theorem dX7_remove_35 : decode cX7_remove 35 = .ok (.aaload, 1) := by decide +kernel
theorem dX7_remove_36 : decode cX7_remove 36 = .ok (.getfield 239, 3) := by decide +kernel
theorem dX7_remove_39 : decode cX7_remove 39 = .ok (.iconst 4, 1) := by decide +kernel
theorem dX7_remove_40 : decode cX7_remove 40 = .ok (.invokestatic 242, 3) := by decide +kernel
theorem dX7_remove_43 : decode cX7_remove 43 = .ok (.ifCond .ne 38, 3) := by decide +kernel
theorem dX7_remove_46 : decode cX7_remove 46 = .ok (.aload_n 0, 1) := by decide +kernel
theorem dX7_remove_47 : decode cX7_remove 47 = .ok (.getfield 26, 3) := by decide +kernel
theorem dX7_remove_50 : decode cX7_remove 50 = .ok (.invokevirtual 218, 3) := by decide +kernel
theorem dX7_remove_53 : decode cX7_remove 53 = .ok (.ifCond .eq 10, 3) := by decide +kernel
theorem dX7_remove_56 : decode cX7_remove 56 = .ok (.aload_n 0, 1) := by decide +kernel
theorem dX7_remove_57 : decode cX7_remove 57 = .ok (.bipush 6, 2) := by decide +kernel
theorem dX7_remove_59 : decode cX7_remove 59 = .ok (.invokevirtual 66, 3) := by decide +kernel
theorem dX7_remove_62 : decode cX7_remove 62 = .ok (.ireturn, 1) := by decide +kernel
theorem dX7_remove_63 : decode cX7_remove 63 = .ok (.aload_n 0, 1) := by decide +kernel
theorem dX7_remove_64 : decode cX7_remove 64 = .ok (.getfield 46, 3) := by decide +kernel
theorem dX7_remove_67 : decode cX7_remove 67 = .ok (.iload_n 1, 1) := by decide +kernel
theorem dX7_remove_68 : decode cX7_remove 68 = .ok (.invokevirtual 246, 3) := by decide +kernel
theorem dX7_remove_71 : decode cX7_remove 71 = .ok (.ifCond .ne 10, 3) := by decide +kernel
theorem dX7_remove_74 : decode cX7_remove 74 = .ok (.aload_n 0, 1) := by decide +kernel
theorem dX7_remove_75 : decode cX7_remove 75 = .ok (.ldc 224, 2) := by decide +kernel
theorem dX7_remove_77 : decode cX7_remove 77 = .ok (.invokevirtual 74, 3) := by decide +kernel
theorem dX7_remove_80 : decode cX7_remove 80 = .ok (.ireturn, 1) := by decide +kernel
theorem dX7_remove_81 : decode cX7_remove 81 = .ok (.aload_n 0, 1) := by decide +kernel
theorem dX7_remove_82 : decode cX7_remove 82 = .ok (.getfield 37, 3) := by decide +kernel
theorem dX7_remove_85 : decode cX7_remove 85 = .ok (.aload_n 0, 1) := by decide +kernel
theorem dX7_remove_86 : decode cX7_remove 86 = .ok (.getfield 26, 3) := by decide +kernel
theorem dX7_remove_89 : decode cX7_remove 89 = .ok (.invokevirtual 225, 3) := by decide +kernel
theorem dX7_remove_92 : decode cX7_remove 92 = .ok (.aload_n 0, 1) := by decide +kernel
theorem dX7_remove_93 : decode cX7_remove 93 = .ok (.getfield 26, 3) := by decide +kernel
theorem dX7_remove_96 : decode cX7_remove 96 = .ok (.dup, 1) := by decide +kernel
theorem dX7_remove_97 : decode cX7_remove 97 = .ok (.getfield 249, 3) := by decide +kernel
theorem dX7_remove_100 : decode cX7_remove 100 = .ok (.iconst 1, 1) := by decide +kernel
theorem dX7_remove_101 : decode cX7_remove 101 = .ok (.iload_n 1, 1) := by decide +kernel
theorem dX7_remove_102 : decode cX7_remove 102 = .ok (.ishl, 1) := by decide +kernel
theorem dX7_remove_103 : decode cX7_remove 103 = .ok (.iconst (-1), 1) := by decide +kernel
theorem dX7_remove_104 : decode cX7_remove 104 = .ok (.ixor, 1) := by decide +kernel
theorem dX7_remove_105 : decode cX7_remove 105 = .ok (.iand, 1) := by decide +kernel
theorem dX7_remove_106 : decode cX7_remove 106 = .ok (.putfield 249, 3) := by decide +kernel
theorem dX7_remove_109 : decode cX7_remove 109 = .ok (.aload_n 0, 1) := by decide +kernel
theorem dX7_remove_110 : decode cX7_remove 110 = .ok (.aload_n 0, 1) := by decide +kernel
theorem dX7_remove_111 : decode cX7_remove 111 = .ok (.getfield 26, 3) := by decide +kernel
theorem dX7_remove_114 : decode cX7_remove 114 = .ok (.getfield 249, 3) := by decide +kernel
theorem dX7_remove_117 : decode cX7_remove 117 = .ok (.invokestatic 252, 3) := by decide +kernel
theorem dX7_remove_120 : decode cX7_remove 120 = .ok (.invokevirtual 74, 3) := by decide +kernel
theorem dX7_remove_123 : decode cX7_remove 123 = .ok (.ireturn, 1) := by decide +kernel
theorem dX7_undo_0 : decode cX7_undo 0 = .ok (.aload_n 0, 1) := by decide +kernel
theorem dX7_undo_1 : decode cX7_undo 1 = .ok (.getfield 37, 3) := by decide +kernel
theorem dX7_undo_4 : decode cX7_undo 4 = .ok (.getfield 257, 3) := by decide +kernel
theorem dX7_undo_7 : decode cX7_undo 7 = .ok (.ifCond .ne 6, 3) := by decide +kernel
theorem dX7_undo_10 : decode cX7_undo 10 = .ok (.ldc 201, 2) := by decide +kernel
theorem dX7_undo_12 : decode cX7_undo 12 = .ok (.ireturn, 1) := by decide +kernel
theorem dX7_undo_13 : decode cX7_undo 13 = .ok (.aload_n 0, 1) := by decide +kernel
theorem dX7_undo_14 : decode cX7_undo 14 = .ok (.getfield 37, 3) := by decide +kernel
theorem dX7_undo_17 : decode cX7_undo 17 = .ok (.aload_n 0, 1) := by decide +kernel
theorem dX7_undo_18 : decode cX7_undo 18 = .ok (.getfield 26, 3) := by decide +kernel
theorem dX7_undo_21 : decode cX7_undo 21 = .ok (.invokevirtual 260, 3) := by decide +kernel
theorem dX7_undo_24 : decode cX7_undo 24 = .ok (.ireturn, 1) := by decide +kernel
theorem dX7_degree_0 : decode cX7_degree 0 = .ok (.aload_n 0, 1) := by decide +kernel
theorem dX7_degree_1 : decode cX7_degree 1 = .ok (.getfield 26, 3) := by decide +kernel
theorem dX7_degree_4 : decode cX7_degree 4 = .ok (.iload_n 1, 1) := by decide +kernel
theorem dX7_degree_5 : decode cX7_degree 5 = .ok (.invokevirtual 156, 3) := by decide +kernel
theorem dX7_degree_8 : decode cX7_degree 8 = .ok (.ifCond .eq 18, 3) := by decide +kernel
theorem dX7_degree_11 : decode cX7_degree 11 = .ok (.aload_n 0, 1) := by decide +kernel
theorem dX7_degree_12 : decode cX7_degree 12 = .ok (.getfield 26, 3) := by decide +kernel
theorem dX7_degree_15 : decode cX7_degree 15 = .ok (.getfield 163, 3) := by decide +kernel
theorem dX7_degree_18 : decode cX7_degree 18 = .ok (.iload_n 1, 1) := by decide +kernel
theorem dX7_degree_19 : decode cX7_degree 19 = .ok (.aaload, 1) := by decide +kernel
theorem dX7_degree_20 : decode cX7_degree 20 = .ok (.getfield 264, 3) := by decide +kernel
theorem dX7_degree_23 : decode cX7_degree 23 = .ok (.goto 6, 3) := by decide +kernel
theorem dX7_degree_26 : decode cX7_degree 26 = .ok (.ldc2_w 268, 3) := by decide +kernel
theorem dX7_degree_29 : decode cX7_degree 29 = .ok (.lreturn, 1) := by decide +kernel
theorem dX7_coefficient_0 : decode cX7_coefficient 0 = .ok (.aload_n 0, 1) := by decide +kernel
theorem dX7_coefficient_1 : decode cX7_coefficient 1 = .ok (.getfield 26, 3) := by decide +kernel
theorem dX7_coefficient_4 : decode cX7_coefficient 4 = .ok (.iload_n 1, 1) := by decide +kernel
theorem dX7_coefficient_5 : decode cX7_coefficient 5 = .ok (.invokevirtual 156, 3) := by decide +kernel
theorem dX7_coefficient_8 : decode cX7_coefficient 8 = .ok (.ifCond .eq 27, 3) := by decide +kernel
theorem dX7_coefficient_11 : decode cX7_coefficient 11 = .ok (.iload_n 2, 1) := by decide +kernel
theorem dX7_coefficient_12 : decode cX7_coefficient 12 = .ok (.invokestatic 182, 3) := by decide +kernel
theorem dX7_coefficient_15 : decode cX7_coefficient 15 = .ok (.ifCond .eq 20, 3) := by decide +kernel
theorem dX7_coefficient_18 : decode cX7_coefficient 18 = .ok (.aload_n 0, 1) := by decide +kernel
theorem dX7_coefficient_19 : decode cX7_coefficient 19 = .ok (.getfield 26, 3) := by decide +kernel
theorem dX7_coefficient_22 : decode cX7_coefficient 22 = .ok (.getfield 163, 3) := by decide +kernel
theorem dX7_coefficient_25 : decode cX7_coefficient 25 = .ok (.iload_n 1, 1) := by decide +kernel
theorem dX7_coefficient_26 : decode cX7_coefficient 26 = .ok (.aaload, 1) := by decide +kernel
theorem dX7_coefficient_27 : decode cX7_coefficient 27 = .ok (.getfield 185, 3) := by decide +kernel
theorem dX7_coefficient_30 : decode cX7_coefficient 30 = .ok (.iload_n 2, 1) := by decide +kernel
theorem dX7_coefficient_31 : decode cX7_coefficient 31 = .ok (.laload, 1) := by decide +kernel
theorem dX7_coefficient_32 : decode cX7_coefficient 32 = .ok (.goto 6, 3) := by decide +kernel
theorem dX7_coefficient_35 : decode cX7_coefficient 35 = .ok (.ldc2_w 268, 3) := by decide +kernel
theorem dX7_coefficient_38 : decode cX7_coefficient 38 = .ok (.lreturn, 1) := by decide +kernel
theorem dX7_sum_0 : decode cX7_sum 0 = .ok (.aload_n 0, 1) := by decide +kernel
theorem dX7_sum_1 : decode cX7_sum 1 = .ok (.getfield 26, 3) := by decide +kernel
theorem dX7_sum_4 : decode cX7_sum 4 = .ok (.iload_n 1, 1) := by decide +kernel
theorem dX7_sum_5 : decode cX7_sum 5 = .ok (.invokevirtual 156, 3) := by decide +kernel
theorem dX7_sum_8 : decode cX7_sum 8 = .ok (.ifCond .ne 7, 3) := by decide +kernel
theorem dX7_sum_11 : decode cX7_sum 11 = .ok (.ldc2_w 268, 3) := by decide +kernel
theorem dX7_sum_14 : decode cX7_sum 14 = .ok (.lreturn, 1) := by decide +kernel
theorem dX7_sum_15 : decode cX7_sum 15 = .ok (.aload_n 0, 1) := by decide +kernel
theorem dX7_sum_16 : decode cX7_sum 16 = .ok (.getfield 26, 3) := by decide +kernel
theorem dX7_sum_19 : decode cX7_sum 19 = .ok (.getfield 163, 3) := by decide +kernel
theorem dX7_sum_22 : decode cX7_sum 22 = .ok (.iload_n 1, 1) := by decide +kernel
theorem dX7_sum_23 : decode cX7_sum 23 = .ok (.aaload, 1) := by decide +kernel
theorem dX7_sum_24 : decode cX7_sum 24 = .ok (.invokevirtual 270, 3) := by decide +kernel
theorem dX7_sum_27 : decode cX7_sum 27 = .ok (.ifCond .eq 11, 3) := by decide +kernel
theorem dX7_sum_30 : decode cX7_sum 30 = .ok (.aload_n 0, 1) := by decide +kernel
theorem dX7_sum_31 : decode cX7_sum 31 = .ok (.bipush 6, 2) := by decide +kernel
theorem dX7_sum_33 : decode cX7_sum 33 = .ok (.invokevirtual 66, 3) := by decide +kernel
theorem dX7_sum_36 : decode cX7_sum 36 = .ok (.i2l, 1) := by decide +kernel
theorem dX7_sum_37 : decode cX7_sum 37 = .ok (.lreturn, 1) := by decide +kernel
theorem dX7_sum_38 : decode cX7_sum 38 = .ok (.aload_n 0, 1) := by decide +kernel
theorem dX7_sum_39 : decode cX7_sum 39 = .ok (.iconst 0, 1) := by decide +kernel
theorem dX7_sum_40 : decode cX7_sum 40 = .ok (.putfield 57, 3) := by decide +kernel
theorem dX7_sum_43 : decode cX7_sum 43 = .ok (.aload_n 0, 1) := by decide +kernel
theorem dX7_sum_44 : decode cX7_sum 44 = .ok (.getfield 26, 3) := by decide +kernel
theorem dX7_sum_47 : decode cX7_sum 47 = .ok (.getfield 163, 3) := by decide +kernel
theorem dX7_sum_50 : decode cX7_sum 50 = .ok (.iload_n 1, 1) := by decide +kernel
theorem dX7_sum_51 : decode cX7_sum 51 = .ok (.aaload, 1) := by decide +kernel
theorem dX7_sum_52 : decode cX7_sum 52 = .ok (.invokevirtual 271, 3) := by decide +kernel
theorem dX7_sum_55 : decode cX7_sum 55 = .ok (.lreturn, 1) := by decide +kernel
theorem dX7_slack_0 : decode cX7_slack 0 = .ok (.aload_n 0, 1) := by decide +kernel
theorem dX7_slack_1 : decode cX7_slack 1 = .ok (.getfield 26, 3) := by decide +kernel
theorem dX7_slack_4 : decode cX7_slack 4 = .ok (.iload_n 1, 1) := by decide +kernel
theorem dX7_slack_5 : decode cX7_slack 5 = .ok (.invokevirtual 156, 3) := by decide +kernel
theorem dX7_slack_8 : decode cX7_slack 8 = .ok (.ifCond .eq 17, 3) := by decide +kernel
theorem dX7_slack_11 : decode cX7_slack 11 = .ok (.iload_n 2, 1) := by decide +kernel
theorem dX7_slack_12 : decode cX7_slack 12 = .ok (.invokestatic 208, 3) := by decide +kernel
theorem dX7_slack_15 : decode cX7_slack 15 = .ok (.ifCond .eq 10, 3) := by decide +kernel
theorem dX7_slack_18 : decode cX7_slack 18 = .ok (.iload_n 3, 1) := by decide +kernel
theorem dX7_slack_19 : decode cX7_slack 19 = .ok (.invokestatic 208, 3) := by decide +kernel
theorem dX7_slack_22 : decode cX7_slack 22 = .ok (.ifCond .ne 7, 3) := by decide +kernel
theorem dX7_slack_25 : decode cX7_slack 25 = .ok (.ldc2_w 268, 3) := by decide +kernel
theorem dX7_slack_28 : decode cX7_slack 28 = .ok (.lreturn, 1) := by decide +kernel
theorem dX7_slack_29 : decode cX7_slack 29 = .ok (.aload_n 0, 1) := by decide +kernel
theorem dX7_slack_30 : decode cX7_slack 30 = .ok (.getfield 26, 3) := by decide +kernel
theorem dX7_slack_33 : decode cX7_slack 33 = .ok (.getfield 163, 3) := by decide +kernel
theorem dX7_slack_36 : decode cX7_slack 36 = .ok (.iload_n 1, 1) := by decide +kernel
theorem dX7_slack_37 : decode cX7_slack 37 = .ok (.aaload, 1) := by decide +kernel
theorem dX7_slack_38 : decode cX7_slack 38 = .ok (.invokevirtual 270, 3) := by decide +kernel
theorem dX7_slack_41 : decode cX7_slack 41 = .ok (.ifCond .eq 11, 3) := by decide +kernel
theorem dX7_slack_44 : decode cX7_slack 44 = .ok (.aload_n 0, 1) := by decide +kernel
theorem dX7_slack_45 : decode cX7_slack 45 = .ok (.bipush 6, 2) := by decide +kernel
theorem dX7_slack_47 : decode cX7_slack 47 = .ok (.invokevirtual 66, 3) := by decide +kernel
theorem dX7_slack_50 : decode cX7_slack 50 = .ok (.i2l, 1) := by decide +kernel
theorem dX7_slack_51 : decode cX7_slack 51 = .ok (.lreturn, 1) := by decide +kernel
theorem dX7_slack_52 : decode cX7_slack 52 = .ok (.aload_n 0, 1) := by decide +kernel
theorem dX7_slack_53 : decode cX7_slack 53 = .ok (.iconst 0, 1) := by decide +kernel
theorem dX7_slack_54 : decode cX7_slack 54 = .ok (.putfield 57, 3) := by decide +kernel
theorem dX7_slack_57 : decode cX7_slack 57 = .ok (.aload_n 0, 1) := by decide +kernel
theorem dX7_slack_58 : decode cX7_slack 58 = .ok (.getfield 26, 3) := by decide +kernel
theorem dX7_slack_61 : decode cX7_slack 61 = .ok (.getfield 163, 3) := by decide +kernel
theorem dX7_slack_64 : decode cX7_slack 64 = .ok (.iload_n 1, 1) := by decide +kernel
theorem dX7_slack_65 : decode cX7_slack 65 = .ok (.aaload, 1) := by decide +kernel
theorem dX7_slack_66 : decode cX7_slack 66 = .ok (.iload_n 2, 1) := by decide +kernel
theorem dX7_slack_67 : decode cX7_slack 67 = .ok (.iload_n 3, 1) := by decide +kernel
theorem dX7_slack_68 : decode cX7_slack 68 = .ok (.invokevirtual 275, 3) := by decide +kernel
theorem dX7_slack_71 : decode cX7_slack 71 = .ok (.lreturn, 1) := by decide +kernel
theorem dX7_forced_0 : decode cX7_forced 0 = .ok (.aload_n 0, 1) := by decide +kernel
theorem dX7_forced_1 : decode cX7_forced 1 = .ok (.getfield 26, 3) := by decide +kernel
theorem dX7_forced_4 : decode cX7_forced 4 = .ok (.getfield 197, 3) := by decide +kernel
theorem dX7_forced_7 : decode cX7_forced 7 = .ok (.ifCond .ne 6, 3) := by decide +kernel
theorem dX7_forced_10 : decode cX7_forced 10 = .ok (.ldc 201, 2) := by decide +kernel
theorem dX7_forced_12 : decode cX7_forced 12 = .ok (.ireturn, 1) := by decide +kernel
theorem dX7_forced_13 : decode cX7_forced 13 = .ok (.iload_n 1, 1) := by decide +kernel
theorem dX7_forced_14 : decode cX7_forced 14 = .ok (.invokestatic 208, 3) := by decide +kernel
theorem dX7_forced_17 : decode cX7_forced 17 = .ok (.ifCond .eq 19, 3) := by decide +kernel
theorem dX7_forced_20 : decode cX7_forced 20 = .ok (.iload_n 2, 1) := by decide +kernel
theorem dX7_forced_21 : decode cX7_forced 21 = .ok (.invokestatic 208, 3) := by decide +kernel
theorem dX7_forced_24 : decode cX7_forced 24 = .ok (.ifCond .eq 12, 3) := by decide +kernel
theorem dX7_forced_27 : decode cX7_forced 27 = .ok (.iload_n 3, 1) := by decide +kernel
theorem dX7_forced_28 : decode cX7_forced 28 = .ok (.ifCond .lt 8, 3) := by decide +kernel
theorem dX7_forced_31 : decode cX7_forced 31 = .ok (.iload_n 3, 1) := by decide +kernel
theorem dX7_forced_32 : decode cX7_forced 32 = .ok (.iconst 2, 1) := by decide +kernel
theorem dX7_forced_33 : decode cX7_forced 33 = .ok (.if_icmp .le 6, 3) := by decide +kernel
theorem dX7_forced_36 : decode cX7_forced 36 = .ok (.ldc 65, 2) := by decide +kernel
theorem dX7_forced_38 : decode cX7_forced 38 = .ok (.ireturn, 1) := by decide +kernel
theorem dX7_forced_39 : decode cX7_forced 39 = .ok (.aload_n 0, 1) := by decide +kernel
theorem dX7_forced_40 : decode cX7_forced 40 = .ok (.getfield 26, 3) := by decide +kernel
theorem dX7_forced_43 : decode cX7_forced 43 = .ok (.invokevirtual 218, 3) := by decide +kernel
theorem dX7_forced_46 : decode cX7_forced 46 = .ok (.ifCond .eq 10, 3) := by decide +kernel
theorem dX7_forced_49 : decode cX7_forced 49 = .ok (.aload_n 0, 1) := by decide +kernel
theorem dX7_forced_50 : decode cX7_forced 50 = .ok (.bipush 6, 2) := by decide +kernel
theorem dX7_forced_52 : decode cX7_forced 52 = .ok (.invokevirtual 66, 3) := by decide +kernel
theorem dX7_forced_55 : decode cX7_forced 55 = .ok (.ireturn, 1) := by decide +kernel
theorem dX7_forced_56 : decode cX7_forced 56 = .ok (.aload_n 0, 1) := by decide +kernel
theorem dX7_forced_57 : decode cX7_forced 57 = .ok (.getfield 46, 3) := by decide +kernel
theorem dX7_forced_60 : decode cX7_forced 60 = .ok (.iload_n 1, 1) := by decide +kernel
theorem dX7_forced_61 : decode cX7_forced 61 = .ok (.iload_n 2, 1) := by decide +kernel
theorem dX7_forced_62 : decode cX7_forced 62 = .ok (.invokevirtual 279, 3) := by decide +kernel
theorem dX7_forced_65 : decode cX7_forced 65 = .ok (.istore 4, 2) := by decide +kernel
theorem dX7_forced_67 : decode cX7_forced 67 = .ok (.iload_n 3, 1) := by decide +kernel
theorem dX7_forced_68 : decode cX7_forced 68 = .ok (.ifCond .ne 18, 3) := by decide +kernel
theorem dX7_forced_71 : decode cX7_forced 71 = .ok (.aload_n 0, 1) := by decide +kernel
theorem dX7_forced_72 : decode cX7_forced 72 = .ok (.iload 4, 2) := by decide +kernel
theorem dX7_forced_74 : decode cX7_forced 74 = .ok (.ifCond .eq 7, 3) := by decide +kernel
theorem dX7_forced_77 : decode cX7_forced 77 = .ok (.iconst 1, 1) := by decide +kernel
theorem dX7_forced_78 : decode cX7_forced 78 = .ok (.goto 4, 3) := by decide +kernel
theorem dX7_forced_81 : decode cX7_forced 81 = .ok (.iconst 0, 1) := by decide +kernel
theorem dX7_forced_82 : decode cX7_forced 82 = .ok (.invokevirtual 74, 3) := by decide +kernel
theorem dX7_forced_85 : decode cX7_forced 85 = .ok (.ireturn, 1) := by decide +kernel
theorem dX7_forced_86 : decode cX7_forced 86 = .ok (.iload 4, 2) := by decide +kernel
theorem dX7_forced_88 : decode cX7_forced 88 = .ok (.ifCond .eq 10, 3) := by decide +kernel
theorem dX7_forced_91 : decode cX7_forced 91 = .ok (.aload_n 0, 1) := by decide +kernel
theorem dX7_forced_92 : decode cX7_forced 92 = .ok (.ldc 224, 2) := by decide +kernel
theorem dX7_forced_94 : decode cX7_forced 94 = .ok (.invokevirtual 74, 3) := by decide +kernel
theorem dX7_forced_97 : decode cX7_forced 97 = .ok (.ireturn, 1) := by decide +kernel
theorem dX7_forced_98 : decode cX7_forced 98 = .ok (.aload_n 0, 1) := by decide +kernel
theorem dX7_forced_99 : decode cX7_forced 99 = .ok (.iload_n 3, 1) := by decide +kernel
theorem dX7_forced_100 : decode cX7_forced 100 = .ok (.iconst 1, 1) := by decide +kernel
theorem dX7_forced_101 : decode cX7_forced 101 = .ok (.if_icmp .ne 13, 3) := by decide +kernel
theorem dX7_forced_104 : decode cX7_forced 104 = .ok (.aload_n 0, 1) := by decide +kernel
theorem dX7_forced_105 : decode cX7_forced 105 = .ok (.getfield 46, 3) := by decide +kernel
theorem dX7_forced_108 : decode cX7_forced 108 = .ok (.getfield 282, 3) := by decide +kernel
theorem dX7_forced_111 : decode cX7_forced 111 = .ok (.goto 10, 3) := by decide +kernel
theorem dX7_forced_114 : decode cX7_forced 114 = .ok (.aload_n 0, 1) := by decide +kernel
theorem dX7_forced_115 : decode cX7_forced 115 = .ok (.getfield 46, 3) := by decide +kernel
theorem dX7_forced_118 : decode cX7_forced 118 = .ok (.getfield 285, 3) := by decide +kernel
theorem dX7_forced_121 : decode cX7_forced 121 = .ok (.invokevirtual 74, 3) := by decide +kernel
theorem dX7_forced_124 : decode cX7_forced 124 = .ok (.ireturn, 1) := by decide +kernel
theorem dX7_solutions_0 : decode cX7_solutions 0 = .ok (.aload_n 0, 1) := by decide +kernel
theorem dX7_solutions_1 : decode cX7_solutions 1 = .ok (.getfield 26, 3) := by decide +kernel
theorem dX7_solutions_4 : decode cX7_solutions 4 = .ok (.getfield 197, 3) := by decide +kernel
theorem dX7_solutions_7 : decode cX7_solutions 7 = .ok (.ifCond .ne 6, 3) := by decide +kernel
theorem dX7_solutions_10 : decode cX7_solutions 10 = .ok (.ldc 201, 2) := by decide +kernel
theorem dX7_solutions_12 : decode cX7_solutions 12 = .ok (.ireturn, 1) := by decide +kernel
theorem dX7_solutions_13 : decode cX7_solutions 13 = .ok (.iload_n 1, 1) := by decide +kernel
theorem dX7_solutions_14 : decode cX7_solutions 14 = .ok (.ifCond .lt 8, 3) := by decide +kernel
theorem dX7_solutions_17 : decode cX7_solutions 17 = .ok (.iload_n 1, 1) := by decide +kernel
theorem dX7_solutions_18 : decode cX7_solutions 18 = .ok (.iconst 2, 1) := by decide +kernel
theorem dX7_solutions_19 : decode cX7_solutions 19 = .ok (.if_icmp .le 6, 3) := by decide +kernel
theorem dX7_solutions_22 : decode cX7_solutions 22 = .ok (.ldc 65, 2) := by decide +kernel
theorem dX7_solutions_24 : decode cX7_solutions 24 = .ok (.ireturn, 1) := by decide +kernel
theorem dX7_solutions_25 : decode cX7_solutions 25 = .ok (.aload_n 0, 1) := by decide +kernel
theorem dX7_solutions_26 : decode cX7_solutions 26 = .ok (.getfield 26, 3) := by decide +kernel
theorem dX7_solutions_29 : decode cX7_solutions 29 = .ok (.invokevirtual 218, 3) := by decide +kernel
theorem dX7_solutions_32 : decode cX7_solutions 32 = .ok (.ifCond .eq 10, 3) := by decide +kernel
theorem dX7_solutions_35 : decode cX7_solutions 35 = .ok (.aload_n 0, 1) := by decide +kernel
theorem dX7_solutions_36 : decode cX7_solutions 36 = .ok (.bipush 6, 2) := by decide +kernel
theorem dX7_solutions_38 : decode cX7_solutions 38 = .ok (.invokevirtual 66, 3) := by decide +kernel
theorem dX7_solutions_41 : decode cX7_solutions 41 = .ok (.ireturn, 1) := by decide +kernel
theorem dX7_solutions_42 : decode cX7_solutions 42 = .ok (.aload_n 0, 1) := by decide +kernel
theorem dX7_solutions_43 : decode cX7_solutions 43 = .ok (.iload_n 1, 1) := by decide +kernel
theorem dX7_solutions_44 : decode cX7_solutions 44 = .ok (.ifCond .ne 13, 3) := by decide +kernel
theorem dX7_solutions_47 : decode cX7_solutions 47 = .ok (.aload_n 0, 1) := by decide +kernel
theorem dX7_solutions_48 : decode cX7_solutions 48 = .ok (.getfield 26, 3) := by decide +kernel
theorem dX7_solutions_51 : decode cX7_solutions 51 = .ok (.invokevirtual 288, 3) := by decide +kernel
theorem dX7_solutions_54 : decode cX7_solutions 54 = .ok (.goto 8, 3) := by decide +kernel
theorem dX7_solutions_57 : decode cX7_solutions 57 = .ok (.aload_n 0, 1) := by decide +kernel
theorem dX7_solutions_58 : decode cX7_solutions 58 = .ok (.iload_n 1, 1) := by decide +kernel
theorem dX7_solutions_59 : decode cX7_solutions 59 = .ok (.invokevirtual 291, 3) := by decide +kernel
theorem dX7_solutions_62 : decode cX7_solutions 62 = .ok (.invokevirtual 74, 3) := by decide +kernel
theorem dX7_solutions_65 : decode cX7_solutions 65 = .ok (.ireturn, 1) := by decide +kernel
theorem dX7_holds_0 : decode cX7_holds 0 = .ok (.aload_n 0, 1) := by decide +kernel
theorem dX7_holds_1 : decode cX7_holds 1 = .ok (.getfield 26, 3) := by decide +kernel
theorem dX7_holds_4 : decode cX7_holds 4 = .ok (.iload_n 1, 1) := by decide +kernel
theorem dX7_holds_5 : decode cX7_holds 5 = .ok (.invokevirtual 156, 3) := by decide +kernel
theorem dX7_holds_8 : decode cX7_holds 8 = .ok (.ifCond .ne 6, 3) := by decide +kernel
theorem dX7_holds_11 : decode cX7_holds 11 = .ok (.ldc 65, 2) := by decide +kernel
theorem dX7_holds_13 : decode cX7_holds 13 = .ok (.ireturn, 1) := by decide +kernel
theorem dX7_holds_14 : decode cX7_holds 14 = .ok (.aload_n 0, 1) := by decide +kernel
theorem dX7_holds_15 : decode cX7_holds 15 = .ok (.getfield 26, 3) := by decide +kernel
theorem dX7_holds_18 : decode cX7_holds 18 = .ok (.getfield 163, 3) := by decide +kernel
theorem dX7_holds_21 : decode cX7_holds 21 = .ok (.iload_n 1, 1) := by decide +kernel
theorem dX7_holds_22 : decode cX7_holds 22 = .ok (.aaload, 1) := by decide +kernel
theorem dX7_holds_23 : decode cX7_holds 23 = .ok (.invokevirtual 270, 3) := by decide +kernel
theorem dX7_holds_26 : decode cX7_holds 26 = .ok (.ifCond .eq 10, 3) := by decide +kernel
theorem dX7_holds_29 : decode cX7_holds 29 = .ok (.aload_n 0, 1) := by decide +kernel
theorem dX7_holds_30 : decode cX7_holds 30 = .ok (.bipush 6, 2) := by decide +kernel
theorem dX7_holds_32 : decode cX7_holds 32 = .ok (.invokevirtual 66, 3) := by decide +kernel
theorem dX7_holds_35 : decode cX7_holds 35 = .ok (.ireturn, 1) := by decide +kernel
theorem dX7_holds_36 : decode cX7_holds 36 = .ok (.iconst 0, 1) := by decide +kernel
theorem dX7_holds_37 : decode cX7_holds 37 = .ok (.istore_n 2, 1) := by decide +kernel
theorem dX7_holds_38 : decode cX7_holds 38 = .ok (.iconst 0, 1) := by decide +kernel
theorem dX7_holds_39 : decode cX7_holds 39 = .ok (.istore_n 3, 1) := by decide +kernel
theorem dX7_holds_40 : decode cX7_holds 40 = .ok (.iload_n 3, 1) := by decide +kernel
theorem dX7_holds_41 : decode cX7_holds 41 = .ok (.sipush 256, 3) := by decide +kernel
theorem dX7_holds_44 : decode cX7_holds 44 = .ok (.if_icmp .ge 28, 3) := by decide +kernel
theorem dX7_holds_47 : decode cX7_holds 47 = .ok (.aload_n 0, 1) := by decide +kernel
theorem dX7_holds_48 : decode cX7_holds 48 = .ok (.getfield 26, 3) := by decide +kernel
theorem dX7_holds_51 : decode cX7_holds 51 = .ok (.getfield 163, 3) := by decide +kernel
theorem dX7_holds_54 : decode cX7_holds 54 = .ok (.iload_n 1, 1) := by decide +kernel
theorem dX7_holds_55 : decode cX7_holds 55 = .ok (.aaload, 1) := by decide +kernel
theorem dX7_holds_56 : decode cX7_holds 56 = .ok (.iload_n 3, 1) := by decide +kernel
theorem dX7_holds_57 : decode cX7_holds 57 = .ok (.invokevirtual 294, 3) := by decide +kernel
theorem dX7_holds_60 : decode cX7_holds 60 = .ok (.ifCond .eq 6, 3) := by decide +kernel
theorem dX7_holds_63 : decode cX7_holds 63 = .ok (.iinc 2 1, 3) := by decide +kernel
theorem dX7_holds_66 : decode cX7_holds 66 = .ok (.iinc 3 1, 3) := by decide +kernel
theorem dX7_holds_69 : decode cX7_holds 69 = .ok (.goto (-29), 3) := by decide +kernel
theorem dX7_holds_72 : decode cX7_holds 72 = .ok (.aload_n 0, 1) := by decide +kernel
theorem dX7_holds_73 : decode cX7_holds 73 = .ok (.iload_n 2, 1) := by decide +kernel
theorem dX7_holds_74 : decode cX7_holds 74 = .ok (.invokevirtual 74, 3) := by decide +kernel
theorem dX7_holds_77 : decode cX7_holds 77 = .ok (.ireturn, 1) := by decide +kernel
theorem dX7_follows_0 : decode cX7_follows 0 = .ok (.aload_n 0, 1) := by decide +kernel
theorem dX7_follows_1 : decode cX7_follows 1 = .ok (.getfield 26, 3) := by decide +kernel
theorem dX7_follows_4 : decode cX7_follows 4 = .ok (.iload_n 1, 1) := by decide +kernel
theorem dX7_follows_5 : decode cX7_follows 5 = .ok (.invokevirtual 156, 3) := by decide +kernel
theorem dX7_follows_8 : decode cX7_follows 8 = .ok (.ifCond .ne 6, 3) := by decide +kernel
theorem dX7_follows_11 : decode cX7_follows 11 = .ok (.ldc 65, 2) := by decide +kernel
theorem dX7_follows_13 : decode cX7_follows 13 = .ok (.ireturn, 1) := by decide +kernel
theorem dX7_follows_14 : decode cX7_follows 14 = .ok (.aload_n 0, 1) := by decide +kernel
theorem dX7_follows_15 : decode cX7_follows 15 = .ok (.getfield 26, 3) := by decide +kernel
theorem dX7_follows_18 : decode cX7_follows 18 = .ok (.invokevirtual 218, 3) := by decide +kernel
theorem dX7_follows_21 : decode cX7_follows 21 = .ok (.ifCond .eq 10, 3) := by decide +kernel
theorem dX7_follows_24 : decode cX7_follows 24 = .ok (.aload_n 0, 1) := by decide +kernel
theorem dX7_follows_25 : decode cX7_follows 25 = .ok (.bipush 6, 2) := by decide +kernel
theorem dX7_follows_27 : decode cX7_follows 27 = .ok (.invokevirtual 66, 3) := by decide +kernel
theorem dX7_follows_30 : decode cX7_follows 30 = .ok (.ireturn, 1) := by decide +kernel
theorem dX7_follows_31 : decode cX7_follows 31 = .ok (.aload_n 0, 1) := by decide +kernel
theorem dX7_follows_32 : decode cX7_follows 32 = .ok (.aload_n 0, 1) := by decide +kernel
theorem dX7_follows_33 : decode cX7_follows 33 = .ok (.getfield 46, 3) := by decide +kernel
theorem dX7_follows_36 : decode cX7_follows 36 = .ok (.iload_n 1, 1) := by decide +kernel
theorem dX7_follows_37 : decode cX7_follows 37 = .ok (.invokevirtual 246, 3) := by decide +kernel
theorem dX7_follows_40 : decode cX7_follows 40 = .ok (.ifCond .eq 7, 3) := by decide +kernel
theorem dX7_follows_43 : decode cX7_follows 43 = .ok (.iconst 1, 1) := by decide +kernel
theorem dX7_follows_44 : decode cX7_follows 44 = .ok (.goto 4, 3) := by decide +kernel
theorem dX7_follows_47 : decode cX7_follows 47 = .ok (.iconst 0, 1) := by decide +kernel
theorem dX7_follows_48 : decode cX7_follows 48 = .ok (.invokevirtual 74, 3) := by decide +kernel
theorem dX7_follows_51 : decode cX7_follows 51 = .ok (.ireturn, 1) := by decide +kernel
theorem dX7_verdict_0 : decode cX7_verdict 0 = .ok (.aload_n 0, 1) := by decide +kernel
theorem dX7_verdict_1 : decode cX7_verdict 1 = .ok (.getfield 26, 3) := by decide +kernel
theorem dX7_verdict_4 : decode cX7_verdict 4 = .ok (.getfield 197, 3) := by decide +kernel
theorem dX7_verdict_7 : decode cX7_verdict 7 = .ok (.ifCond .ne 6, 3) := by decide +kernel
theorem dX7_verdict_10 : decode cX7_verdict 10 = .ok (.ldc 201, 2) := by decide +kernel
theorem dX7_verdict_12 : decode cX7_verdict 12 = .ok (.ireturn, 1) := by decide +kernel
theorem dX7_verdict_13 : decode cX7_verdict 13 = .ok (.aload_n 0, 1) := by decide +kernel
theorem dX7_verdict_14 : decode cX7_verdict 14 = .ok (.getfield 26, 3) := by decide +kernel
theorem dX7_verdict_17 : decode cX7_verdict 17 = .ok (.invokevirtual 218, 3) := by decide +kernel
theorem dX7_verdict_20 : decode cX7_verdict 20 = .ok (.ifCond .eq 10, 3) := by decide +kernel
theorem dX7_verdict_23 : decode cX7_verdict 23 = .ok (.aload_n 0, 1) := by decide +kernel
theorem dX7_verdict_24 : decode cX7_verdict 24 = .ok (.bipush 6, 2) := by decide +kernel
theorem dX7_verdict_26 : decode cX7_verdict 26 = .ok (.invokevirtual 66, 3) := by decide +kernel
theorem dX7_verdict_29 : decode cX7_verdict 29 = .ok (.ireturn, 1) := by decide +kernel
theorem dX7_verdict_30 : decode cX7_verdict 30 = .ok (.aload_n 0, 1) := by decide +kernel
theorem dX7_verdict_31 : decode cX7_verdict 31 = .ok (.getfield 26, 3) := by decide +kernel
theorem dX7_verdict_34 : decode cX7_verdict 34 = .ok (.invokevirtual 297, 3) := by decide +kernel
theorem dX7_verdict_37 : decode cX7_verdict 37 = .ok (.ifCond .ne 9, 3) := by decide +kernel
theorem dX7_verdict_40 : decode cX7_verdict 40 = .ok (.aload_n 0, 1) := by decide +kernel
theorem dX7_verdict_41 : decode cX7_verdict 41 = .ok (.iconst 0, 1) := by decide +kernel
theorem dX7_verdict_42 : decode cX7_verdict 42 = .ok (.invokevirtual 74, 3) := by decide +kernel
theorem dX7_verdict_45 : decode cX7_verdict 45 = .ok (.ireturn, 1) := by decide +kernel
theorem dX7_verdict_46 : decode cX7_verdict 46 = .ok (.aload_n 0, 1) := by decide +kernel
theorem dX7_verdict_47 : decode cX7_verdict 47 = .ok (.aload_n 0, 1) := by decide +kernel
theorem dX7_verdict_48 : decode cX7_verdict 48 = .ok (.getfield 26, 3) := by decide +kernel
theorem dX7_verdict_51 : decode cX7_verdict 51 = .ok (.getfield 231, 3) := by decide +kernel
theorem dX7_verdict_54 : decode cX7_verdict 54 = .ok (.ldc 224, 2) := by decide +kernel
theorem dX7_verdict_56 : decode cX7_verdict 56 = .ok (.if_icmp .ne 7, 3) := by decide +kernel
theorem dX7_verdict_59 : decode cX7_verdict 59 = .ok (.iconst 1, 1) := by decide +kernel
theorem dX7_verdict_60 : decode cX7_verdict 60 = .ok (.goto 4, 3) := by decide +kernel
theorem dX7_verdict_63 : decode cX7_verdict 63 = .ok (.iconst 2, 1) := by decide +kernel
theorem dX7_verdict_64 : decode cX7_verdict 64 = .ok (.invokevirtual 74, 3) := by decide +kernel
theorem dX7_verdict_67 : decode cX7_verdict 67 = .ok (.ireturn, 1) := by decide +kernel
theorem dX7_price_0 : decode cX7_price 0 = .ok (.iload_n 1, 1) := by decide +kernel
theorem dX7_price_1 : decode cX7_price 1 = .ok (.invokestatic 182, 3) := by decide +kernel
theorem dX7_price_4 : decode cX7_price 4 = .ok (.ifCond .eq 15, 3) := by decide +kernel
theorem dX7_price_7 : decode cX7_price 7 = .ok (.aload_n 0, 1) := by decide +kernel
theorem dX7_price_8 : decode cX7_price 8 = .ok (.getfield 26, 3) := by decide +kernel
theorem dX7_price_11 : decode cX7_price 11 = .ok (.getfield 234, 3) := by decide +kernel
theorem dX7_price_14 : decode cX7_price 14 = .ok (.iload_n 1, 1) := by decide +kernel
theorem dX7_price_15 : decode cX7_price 15 = .ok (.iaload, 1) := by decide +kernel
theorem dX7_price_16 : decode cX7_price 16 = .ok (.goto 5, 3) := by decide +kernel
theorem dX7_price_19 : decode cX7_price 19 = .ok (.ldc 65, 2) := by decide +kernel
theorem dX7_price_21 : decode cX7_price 21 = .ok (.ireturn, 1) := by decide +kernel
theorem dX7_image_0 : decode cX7_image 0 = .ok (.iload_n 1, 1) := by decide +kernel
theorem dX7_image_1 : decode cX7_image 1 = .ok (.ifCond .lt 8, 3) := by decide +kernel
theorem dX7_image_4 : decode cX7_image 4 = .ok (.iload_n 1, 1) := by decide +kernel
theorem dX7_image_5 : decode cX7_image 5 = .ok (.iconst 2, 1) := by decide +kernel
theorem dX7_image_6 : decode cX7_image 6 = .ok (.if_icmp .lt 6, 3) := by decide +kernel
theorem dX7_image_9 : decode cX7_image 9 = .ok (.ldc 65, 2) := by decide +kernel
theorem dX7_image_11 : decode cX7_image 11 = .ok (.ireturn, 1) := by decide +kernel
theorem dX7_image_12 : decode cX7_image 12 = .ok (.aload_n 0, 1) := by decide +kernel
theorem dX7_image_13 : decode cX7_image 13 = .ok (.getfield 26, 3) := by decide +kernel
theorem dX7_image_16 : decode cX7_image 16 = .ok (.getfield 197, 3) := by decide +kernel
theorem dX7_image_19 : decode cX7_image 19 = .ok (.ifCond .ne 6, 3) := by decide +kernel
theorem dX7_image_22 : decode cX7_image 22 = .ok (.ldc 201, 2) := by decide +kernel
theorem dX7_image_24 : decode cX7_image 24 = .ok (.ireturn, 1) := by decide +kernel
theorem dX7_image_25 : decode cX7_image 25 = .ok (.aload_n 0, 1) := by decide +kernel
theorem dX7_image_26 : decode cX7_image 26 = .ok (.getfield 30, 3) := by decide +kernel
theorem dX7_image_29 : decode cX7_image 29 = .ok (.iload_n 1, 1) := by decide +kernel
theorem dX7_image_30 : decode cX7_image 30 = .ok (.aaload, 1) := by decide +kernel
theorem dX7_image_31 : decode cX7_image 31 = .ok (.aload_n 0, 1) := by decide +kernel
theorem dX7_image_32 : decode cX7_image 32 = .ok (.getfield 26, 3) := by decide +kernel
theorem dX7_image_35 : decode cX7_image 35 = .ok (.invokevirtual 300, 3) := by decide +kernel
theorem dX7_image_38 : decode cX7_image 38 = .ok (.aload_n 0, 1) := by decide +kernel
theorem dX7_image_39 : decode cX7_image 39 = .ok (.getfield 26, 3) := by decide +kernel
theorem dX7_image_42 : decode cX7_image 42 = .ok (.getfield 249, 3) := by decide +kernel
theorem dX7_image_45 : decode cX7_image 45 = .ok (.invokestatic 252, 3) := by decide +kernel
theorem dX7_image_48 : decode cX7_image 48 = .ok (.ireturn, 1) := by decide +kernel
theorem dX7_restore_0 : decode cX7_restore 0 = .ok (.iload_n 1, 1) := by decide +kernel
theorem dX7_restore_1 : decode cX7_restore 1 = .ok (.ifCond .lt 8, 3) := by decide +kernel
theorem dX7_restore_4 : decode cX7_restore 4 = .ok (.iload_n 1, 1) := by decide +kernel
theorem dX7_restore_5 : decode cX7_restore 5 = .ok (.iconst 2, 1) := by decide +kernel
theorem dX7_restore_6 : decode cX7_restore 6 = .ok (.if_icmp .lt 6, 3) := by decide +kernel
theorem dX7_restore_9 : decode cX7_restore 9 = .ok (.ldc 65, 2) := by decide +kernel
theorem dX7_restore_11 : decode cX7_restore 11 = .ok (.ireturn, 1) := by decide +kernel
theorem dX7_restore_12 : decode cX7_restore 12 = .ok (.aload_n 0, 1) := by decide +kernel
theorem dX7_restore_13 : decode cX7_restore 13 = .ok (.getfield 30, 3) := by decide +kernel
theorem dX7_restore_16 : decode cX7_restore 16 = .ok (.iload_n 1, 1) := by decide +kernel
theorem dX7_restore_17 : decode cX7_restore 17 = .ok (.aaload, 1) := by decide +kernel
theorem dX7_restore_18 : decode cX7_restore 18 = .ok (.getfield 197, 3) := by decide +kernel
theorem dX7_restore_21 : decode cX7_restore 21 = .ok (.ifCond .ne 6, 3) := by decide +kernel
theorem dX7_restore_24 : decode cX7_restore 24 = .ok (.ldc 201, 2) := by decide +kernel
theorem dX7_restore_26 : decode cX7_restore 26 = .ok (.ireturn, 1) := by decide +kernel
theorem dX7_restore_27 : decode cX7_restore 27 = .ok (.aload_n 0, 1) := by decide +kernel
theorem dX7_restore_28 : decode cX7_restore 28 = .ok (.getfield 26, 3) := by decide +kernel
theorem dX7_restore_31 : decode cX7_restore 31 = .ok (.aload_n 0, 1) := by decide +kernel
theorem dX7_restore_32 : decode cX7_restore 32 = .ok (.getfield 30, 3) := by decide +kernel
theorem dX7_restore_35 : decode cX7_restore 35 = .ok (.iload_n 1, 1) := by decide +kernel
theorem dX7_restore_36 : decode cX7_restore 36 = .ok (.aaload, 1) := by decide +kernel
theorem dX7_restore_37 : decode cX7_restore 37 = .ok (.invokevirtual 300, 3) := by decide +kernel
theorem dX7_restore_40 : decode cX7_restore 40 = .ok (.aload_n 0, 1) := by decide +kernel
theorem dX7_restore_41 : decode cX7_restore 41 = .ok (.getfield 37, 3) := by decide +kernel
theorem dX7_restore_44 : decode cX7_restore 44 = .ok (.invokevirtual 150, 3) := by decide +kernel
theorem dX7_restore_47 : decode cX7_restore 47 = .ok (.aload_n 0, 1) := by decide +kernel
theorem dX7_restore_48 : decode cX7_restore 48 = .ok (.getfield 26, 3) := by decide +kernel
theorem dX7_restore_51 : decode cX7_restore 51 = .ok (.getfield 249, 3) := by decide +kernel
theorem dX7_restore_54 : decode cX7_restore 54 = .ok (.invokestatic 252, 3) := by decide +kernel
theorem dX7_restore_57 : decode cX7_restore 57 = .ok (.ireturn, 1) := by decide +kernel

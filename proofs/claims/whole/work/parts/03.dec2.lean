theorem dX7_kind_0 : decode cX7_kind 0 = .ok (.aload_n 0, 1) := by decide +kernel
theorem dX7_kind_1 : decode cX7_kind 1 = .ok (.getfield 26, 3) := by decide +kernel
theorem dX7_kind_4 : decode cX7_kind 4 = .ok (.iload_n 1, 1) := by decide +kernel
theorem dX7_kind_5 : decode cX7_kind 5 = .ok (.invokevirtual 156, 3) := by decide +kernel
theorem dX7_kind_8 : decode cX7_kind 8 = .ok (.ifCond .eq 18, 3) := by decide +kernel
theorem dX7_kind_11 : decode cX7_kind 11 = .ok (.aload_n 0, 1) := by decide +kernel
theorem dX7_kind_12 : decode cX7_kind 12 = .ok (.getfield 26, 3) := by decide +kernel
theorem dX7_kind_15 : decode cX7_kind 15 = .ok (.getfield 163, 3) := by decide +kernel
theorem dX7_kind_18 : decode cX7_kind 18 = .ok (.iload_n 1, 1) := by decide +kernel
theorem dX7_kind_19 : decode cX7_kind 19 = .ok (.aaload, 1) := by decide +kernel
theorem dX7_kind_20 : decode cX7_kind 20 = .ok (.getfield 239, 3) := by decide +kernel
theorem dX7_kind_23 : decode cX7_kind 23 = .ok (.goto 5, 3) := by decide +kernel
theorem dX7_kind_26 : decode cX7_kind 26 = .ok (.ldc 65, 2) := by decide +kernel
theorem dX7_kind_28 : decode cX7_kind 28 = .ok (.ireturn, 1) := by decide +kernel
theorem dX7_as_0 : decode cX7_as 0 = .ok (.aload_n 0, 1) := by decide +kernel
theorem dX7_as_1 : decode cX7_as 1 = .ok (.getfield 26, 3) := by decide +kernel
theorem dX7_as_4 : decode cX7_as 4 = .ok (.iload_n 1, 1) := by decide +kernel
theorem dX7_as_5 : decode cX7_as 5 = .ok (.invokevirtual 156, 3) := by decide +kernel
theorem dX7_as_8 : decode cX7_as 8 = .ok (.ifCond .eq 12, 3) := by decide +kernel
theorem dX7_as_11 : decode cX7_as 11 = .ok (.iload_n 2, 1) := by decide +kernel
theorem dX7_as_12 : decode cX7_as 12 = .ok (.ifCond .lt 8, 3) := by decide +kernel
theorem dX7_as_15 : decode cX7_as 15 = .ok (.iload_n 2, 1) := by decide +kernel
theorem dX7_as_16 : decode cX7_as 16 = .ok (.iconst 5, 1) := by decide +kernel
theorem dX7_as_17 : decode cX7_as 17 = .ok (.if_icmp .le 6, 3) := by decide +kernel
theorem dX7_as_20 : decode cX7_as 20 = .ok (.ldc 65, 2) := by decide +kernel
theorem dX7_as_22 : decode cX7_as 22 = .ok (.ireturn, 1) := by decide +kernel
theorem dX7_as_23 : decode cX7_as 23 = .ok (.aload_n 0, 1) := by decide +kernel
theorem dX7_as_24 : decode cX7_as 24 = .ok (.getfield 26, 3) := by decide +kernel
theorem dX7_as_27 : decode cX7_as 27 = .ok (.getfield 163, 3) := by decide +kernel
theorem dX7_as_30 : decode cX7_as 30 = .ok (.iload_n 1, 1) := by decide +kernel
theorem dX7_as_31 : decode cX7_as 31 = .ok (.aaload, 1) := by decide +kernel
theorem dX7_as_32 : decode cX7_as 32 = .ok (.getfield 239, 3) := by decide +kernel
theorem dX7_as_35 : decode cX7_as 35 = .ok (.iload_n 2, 1) := by decide +kernel
theorem dX7_as_36 : decode cX7_as 36 = .ok (.invokestatic 242, 3) := by decide +kernel
theorem dX7_as_39 : decode cX7_as 39 = .ok (.ifCond .ne 9, 3) := by decide +kernel
theorem dX7_as_42 : decode cX7_as 42 = .ok (.aload_n 0, 1) := by decide +kernel
theorem dX7_as_43 : decode cX7_as 43 = .ok (.iconst 3, 1) := by decide +kernel
theorem dX7_as_44 : decode cX7_as 44 = .ok (.invokevirtual 66, 3) := by decide +kernel
theorem dX7_as_47 : decode cX7_as 47 = .ok (.ireturn, 1) := by decide +kernel
theorem dX7_as_48 : decode cX7_as 48 = .ok (.aload_n 0, 1) := by decide +kernel
theorem dX7_as_49 : decode cX7_as 49 = .ok (.iload_n 1, 1) := by decide +kernel
theorem dX7_as_50 : decode cX7_as 50 = .ok (.invokevirtual 74, 3) := by decide +kernel
theorem dX7_as_53 : decode cX7_as 53 = .ok (.ireturn, 1) := by decide +kernel
theorem dX7_ask_0 : decode cX7_ask 0 = .ok (.aload_n 0, 1) := by decide +kernel
theorem dX7_ask_1 : decode cX7_ask 1 = .ok (.getfield 26, 3) := by decide +kernel
theorem dX7_ask_4 : decode cX7_ask 4 = .ok (.iload_n 1, 1) := by decide +kernel
theorem dX7_ask_5 : decode cX7_ask 5 = .ok (.invokevirtual 156, 3) := by decide +kernel
theorem dX7_ask_8 : decode cX7_ask 8 = .ok (.ifCond .eq 12, 3) := by decide +kernel
theorem dX7_ask_11 : decode cX7_ask 11 = .ok (.iload_n 2, 1) := by decide +kernel
theorem dX7_ask_12 : decode cX7_ask 12 = .ok (.ifCond .lt 8, 3) := by decide +kernel
theorem dX7_ask_15 : decode cX7_ask 15 = .ok (.iload_n 2, 1) := by decide +kernel
theorem dX7_ask_16 : decode cX7_ask 16 = .ok (.iconst 1, 1) := by decide +kernel
theorem dX7_ask_17 : decode cX7_ask 17 = .ok (.if_icmp .le 6, 3) := by decide +kernel
theorem dX7_ask_20 : decode cX7_ask 20 = .ok (.ldc 65, 2) := by decide +kernel
theorem dX7_ask_22 : decode cX7_ask 22 = .ok (.ireturn, 1) := by decide +kernel
theorem dX7_ask_23 : decode cX7_ask 23 = .ok (.aload_n 0, 1) := by decide +kernel
theorem dX7_ask_24 : decode cX7_ask 24 = .ok (.getfield 53, 3) := by decide +kernel
theorem dX7_ask_27 : decode cX7_ask 27 = .ok (.iconst 0, 1) := by decide +kernel
theorem dX7_ask_28 : decode cX7_ask 28 = .ok (.putfield 302, 3) := by decide +kernel
theorem dX7_ask_31 : decode cX7_ask 31 = .ok (.iload_n 2, 1) := by decide +kernel
theorem dX7_ask_32 : decode cX7_ask 32 = .ok (.ifCond .ne 23, 3) := by decide +kernel
theorem dX7_ask_35 : decode cX7_ask 35 = .ok (.aload_n 0, 1) := by decide +kernel
theorem dX7_ask_36 : decode cX7_ask 36 = .ok (.getfield 53, 3) := by decide +kernel
theorem dX7_ask_39 : decode cX7_ask 39 = .ok (.aload_n 0, 1) := by decide +kernel
theorem dX7_ask_40 : decode cX7_ask 40 = .ok (.getfield 26, 3) := by decide +kernel
theorem dX7_ask_43 : decode cX7_ask 43 = .ok (.getfield 163, 3) := by decide +kernel
theorem dX7_ask_46 : decode cX7_ask 46 = .ok (.iload_n 1, 1) := by decide +kernel
theorem dX7_ask_47 : decode cX7_ask 47 = .ok (.aaload, 1) := by decide +kernel
theorem dX7_ask_48 : decode cX7_ask 48 = .ok (.iconst 0, 1) := by decide +kernel
theorem dX7_ask_49 : decode cX7_ask 49 = .ok (.invokevirtual 303, 3) := by decide +kernel
theorem dX7_ask_52 : decode cX7_ask 52 = .ok (.goto 20, 3) := by decide +kernel
theorem dX7_ask_55 : decode cX7_ask 55 = .ok (.aload_n 0, 1) := by decide +kernel
theorem dX7_ask_56 : decode cX7_ask 56 = .ok (.getfield 53, 3) := by decide +kernel
theorem dX7_ask_59 : decode cX7_ask 59 = .ok (.aload_n 0, 1) := by decide +kernel
theorem dX7_ask_60 : decode cX7_ask 60 = .ok (.getfield 26, 3) := by decide +kernel
theorem dX7_ask_63 : decode cX7_ask 63 = .ok (.getfield 163, 3) := by decide +kernel
theorem dX7_ask_66 : decode cX7_ask 66 = .ok (.iload_n 1, 1) := by decide +kernel
theorem dX7_ask_67 : decode cX7_ask 67 = .ok (.aaload, 1) := by decide +kernel
theorem dX7_ask_68 : decode cX7_ask 68 = .ok (.iconst 0, 1) := by decide +kernel
theorem dX7_ask_69 : decode cX7_ask 69 = .ok (.invokevirtual 307, 3) := by decide +kernel
theorem dX7_ask_72 : decode cX7_ask 72 = .ok (.ireturn, 1) := by decide +kernel
theorem dX7_trace_0 : decode cX7_trace 0 = .ok (.iload_n 1, 1) := by decide +kernel
theorem dX7_trace_1 : decode cX7_trace 1 = .ok (.ifCond .lt 26, 3) := by decide +kernel
theorem dX7_trace_4 : decode cX7_trace 4 = .ok (.iload_n 1, 1) := by decide +kernel
theorem dX7_trace_5 : decode cX7_trace 5 = .ok (.aload_n 0, 1) := by decide +kernel
theorem dX7_trace_6 : decode cX7_trace 6 = .ok (.getfield 53, 3) := by decide +kernel
theorem dX7_trace_9 : decode cX7_trace 9 = .ok (.getfield 302, 3) := by decide +kernel
theorem dX7_trace_12 : decode cX7_trace 12 = .ok (.if_icmp .ge 15, 3) := by decide +kernel
theorem dX7_trace_15 : decode cX7_trace 15 = .ok (.aload_n 0, 1) := by decide +kernel
theorem dX7_trace_16 : decode cX7_trace 16 = .ok (.getfield 53, 3) := by decide +kernel
theorem dX7_trace_19 : decode cX7_trace 19 = .ok (.getfield 310, 3) := by decide +kernel
theorem dX7_trace_22 : decode cX7_trace 22 = .ok (.iload_n 1, 1) := by decide +kernel
theorem dX7_trace_23 : decode cX7_trace 23 = .ok (.iaload, 1) := by decide +kernel
theorem dX7_trace_24 : decode cX7_trace 24 = .ok (.goto 5, 3) := by decide +kernel
theorem dX7_trace_27 : decode cX7_trace 27 = .ok (.ldc 224, 2) := by decide +kernel
theorem dX7_trace_29 : decode cX7_trace 29 = .ok (.ireturn, 1) := by decide +kernel
theorem dX7_count_0 : decode cX7_count 0 = .ok (.iload_n 1, 1) := by decide +kernel
theorem dX7_count_1 : decode cX7_count 1 = .ok (.tableswitch 114 0 7 #[47, 55, 66, 74, 82, 90, 98, 106], 47) := by decide +kernel
theorem dX7_count_48 : decode cX7_count 48 = .ok (.aload_n 0, 1) := by decide +kernel
theorem dX7_count_49 : decode cX7_count 49 = .ok (.getfield 10, 3) := by decide +kernel
theorem dX7_count_52 : decode cX7_count 52 = .ok (.invokevirtual 313, 3) := by decide +kernel
theorem dX7_count_55 : decode cX7_count 55 = .ok (.ireturn, 1) := by decide +kernel
theorem dX7_count_56 : decode cX7_count 56 = .ok (.aload_n 0, 1) := by decide +kernel
theorem dX7_count_57 : decode cX7_count 57 = .ok (.getfield 26, 3) := by decide +kernel
theorem dX7_count_60 : decode cX7_count 60 = .ok (.getfield 249, 3) := by decide +kernel
theorem dX7_count_63 : decode cX7_count 63 = .ok (.invokestatic 252, 3) := by decide +kernel
theorem dX7_count_66 : decode cX7_count 66 = .ok (.ireturn, 1) := by decide +kernel
theorem dX7_count_67 : decode cX7_count 67 = .ok (.aload_n 0, 1) := by decide +kernel
theorem dX7_count_68 : decode cX7_count 68 = .ok (.getfield 26, 3) := by decide +kernel
theorem dX7_count_71 : decode cX7_count 71 = .ok (.getfield 316, 3) := by decide +kernel
theorem dX7_count_74 : decode cX7_count 74 = .ok (.ireturn, 1) := by decide +kernel
theorem dX7_count_75 : decode cX7_count 75 = .ok (.aload_n 0, 1) := by decide +kernel
theorem dX7_count_76 : decode cX7_count 76 = .ok (.getfield 26, 3) := by decide +kernel
theorem dX7_count_79 : decode cX7_count 79 = .ok (.getfield 249, 3) := by decide +kernel
theorem dX7_count_82 : decode cX7_count 82 = .ok (.ireturn, 1) := by decide +kernel
theorem dX7_count_83 : decode cX7_count 83 = .ok (.aload_n 0, 1) := by decide +kernel
theorem dX7_count_84 : decode cX7_count 84 = .ok (.getfield 26, 3) := by decide +kernel
theorem dX7_count_87 : decode cX7_count 87 = .ok (.getfield 231, 3) := by decide +kernel
theorem dX7_count_90 : decode cX7_count 90 = .ok (.ireturn, 1) := by decide +kernel
theorem dX7_count_91 : decode cX7_count 91 = .ok (.aload_n 0, 1) := by decide +kernel
theorem dX7_count_92 : decode cX7_count 92 = .ok (.getfield 26, 3) := by decide +kernel
theorem dX7_count_95 : decode cX7_count 95 = .ok (.invokevirtual 211, 3) := by decide +kernel
theorem dX7_count_98 : decode cX7_count 98 = .ok (.ireturn, 1) := by decide +kernel
theorem dX7_count_99 : decode cX7_count 99 = .ok (.aload_n 0, 1) := by decide +kernel
theorem dX7_count_100 : decode cX7_count 100 = .ok (.getfield 37, 3) := by decide +kernel
theorem dX7_count_103 : decode cX7_count 103 = .ok (.getfield 257, 3) := by decide +kernel
theorem dX7_count_106 : decode cX7_count 106 = .ok (.ireturn, 1) := by decide +kernel
theorem dX7_count_107 : decode cX7_count 107 = .ok (.aload_n 0, 1) := by decide +kernel
theorem dX7_count_108 : decode cX7_count 108 = .ok (.getfield 19, 3) := by decide +kernel
theorem dX7_count_111 : decode cX7_count 111 = .ok (.getfield 108, 3) := by decide +kernel
theorem dX7_count_114 : decode cX7_count 114 = .ok (.ireturn, 1) := by decide +kernel
theorem dX7_count_115 : decode cX7_count 115 = .ok (.ldc 65, 2) := by decide +kernel
theorem dX7_count_117 : decode cX7_count 117 = .ok (.ireturn, 1) := by decide +kernel
theorem dX7_status_0 : decode cX7_status 0 = .ok (.aload_n 0, 1) := by decide +kernel
theorem dX7_status_1 : decode cX7_status 1 = .ok (.getfield 57, 3) := by decide +kernel
theorem dX7_status_4 : decode cX7_status 4 = .ok (.ireturn, 1) := by decide +kernel
theorem dX7_found_0 : decode cX7_found 0 = .ok (.aload_n 0, 1) := by decide +kernel
theorem dX7_found_1 : decode cX7_found 1 = .ok (.iload_n 1, 1) := by decide +kernel
theorem dX7_found_2 : decode cX7_found 2 = .ok (.putfield 57, 3) := by decide +kernel
theorem dX7_found_5 : decode cX7_found 5 = .ok (.ldc_w 319, 3) := by decide +kernel
theorem dX7_found_8 : decode cX7_found 8 = .ok (.iload_n 1, 1) := by decide +kernel
theorem dX7_found_9 : decode cX7_found 9 = .ok (.isub, 1) := by decide +kernel
theorem dX7_found_10 : decode cX7_found 10 = .ok (.ireturn, 1) := by decide +kernel
theorem dX7_well_0 : decode cX7_well 0 = .ok (.aload_n 0, 1) := by decide +kernel
theorem dX7_well_1 : decode cX7_well 1 = .ok (.iconst 0, 1) := by decide +kernel
theorem dX7_well_2 : decode cX7_well 2 = .ok (.putfield 57, 3) := by decide +kernel
theorem dX7_well_5 : decode cX7_well 5 = .ok (.iload_n 1, 1) := by decide +kernel
theorem dX7_well_6 : decode cX7_well 6 = .ok (.ireturn, 1) := by decide +kernel
theorem dX7_stepRefusal_0 : decode cX7_stepRefusal 0 = .ok (.aload_n 0, 1) := by decide +kernel
theorem dX7_stepRefusal_1 : decode cX7_stepRefusal 1 = .ok (.getfield 26, 3) := by decide +kernel
theorem dX7_stepRefusal_4 : decode cX7_stepRefusal 4 = .ok (.getfield 197, 3) := by decide +kernel
theorem dX7_stepRefusal_7 : decode cX7_stepRefusal 7 = .ok (.ifCond .ne 6, 3) := by decide +kernel
theorem dX7_stepRefusal_10 : decode cX7_stepRefusal 10 = .ok (.ldc 201, 2) := by decide +kernel
theorem dX7_stepRefusal_12 : decode cX7_stepRefusal 12 = .ok (.ireturn, 1) := by decide +kernel
theorem dX7_stepRefusal_13 : decode cX7_stepRefusal 13 = .ok (.iload_n 1, 1) := by decide +kernel
theorem dX7_stepRefusal_14 : decode cX7_stepRefusal 14 = .ok (.ifCond .ne 6, 3) := by decide +kernel
theorem dX7_stepRefusal_17 : decode cX7_stepRefusal 17 = .ok (.ldc 65, 2) := by decide +kernel
theorem dX7_stepRefusal_19 : decode cX7_stepRefusal 19 = .ok (.ireturn, 1) := by decide +kernel
theorem dX7_stepRefusal_20 : decode cX7_stepRefusal 20 = .ok (.aload_n 0, 1) := by decide +kernel
theorem dX7_stepRefusal_21 : decode cX7_stepRefusal 21 = .ok (.getfield 26, 3) := by decide +kernel
theorem dX7_stepRefusal_24 : decode cX7_stepRefusal 24 = .ok (.invokevirtual 215, 3) := by decide +kernel
theorem dX7_stepRefusal_27 : decode cX7_stepRefusal 27 = .ok (.ifCond .eq 8, 3) := by decide +kernel
theorem dX7_stepRefusal_30 : decode cX7_stepRefusal 30 = .ok (.ldc 111, 2) := by decide +kernel
theorem dX7_stepRefusal_32 : decode cX7_stepRefusal 32 = .ok (.goto 4, 3) := by decide +kernel
theorem dX7_stepRefusal_35 : decode cX7_stepRefusal 35 = .ok (.iconst 0, 1) := by decide +kernel
theorem dX7_stepRefusal_36 : decode cX7_stepRefusal 36 = .ok (.ireturn, 1) := by decide +kernel
theorem dX7_comes_0 : decode cX7_comes 0 = .ok (.aload_n 0, 1) := by decide +kernel
theorem dX7_comes_1 : decode cX7_comes 1 = .ok (.getfield 37, 3) := by decide +kernel
theorem dX7_comes_4 : decode cX7_comes 4 = .ok (.aload_n 0, 1) := by decide +kernel
theorem dX7_comes_5 : decode cX7_comes 5 = .ok (.getfield 26, 3) := by decide +kernel
theorem dX7_comes_8 : decode cX7_comes 8 = .ok (.invokevirtual 225, 3) := by decide +kernel
theorem dX7_comes_11 : decode cX7_comes 11 = .ok (.aload_n 0, 1) := by decide +kernel
theorem dX7_comes_12 : decode cX7_comes 12 = .ok (.getfield 26, 3) := by decide +kernel
theorem dX7_comes_15 : decode cX7_comes 15 = .ok (.iload_n 1, 1) := by decide +kernel
theorem dX7_comes_16 : decode cX7_comes 16 = .ok (.invokevirtual 147, 3) := by decide +kernel
theorem dX7_comes_19 : decode cX7_comes 19 = .ok (.ireturn, 1) := by decide +kernel
theorem dX7_claimOfTape_0 : decode cX7_claimOfTape 0 = .ok (.aload_n 0, 1) := by decide +kernel
theorem dX7_claimOfTape_1 : decode cX7_claimOfTape 1 = .ok (.getfield 19, 3) := by decide +kernel
theorem dX7_claimOfTape_4 : decode cX7_claimOfTape 4 = .ok (.invokevirtual 320, 3) := by decide +kernel
theorem dX7_claimOfTape_7 : decode cX7_claimOfTape 7 = .ok (.ifCond .ne 14, 3) := by decide +kernel
theorem dX7_claimOfTape_10 : decode cX7_claimOfTape 10 = .ok (.ldc 119, 2) := by decide +kernel
theorem dX7_claimOfTape_12 : decode cX7_claimOfTape 12 = .ok (.aload_n 0, 1) := by decide +kernel
theorem dX7_claimOfTape_13 : decode cX7_claimOfTape 13 = .ok (.getfield 19, 3) := by decide +kernel
theorem dX7_claimOfTape_16 : decode cX7_claimOfTape 16 = .ok (.getfield 120, 3) := by decide +kernel
theorem dX7_claimOfTape_19 : decode cX7_claimOfTape 19 = .ok (.isub, 1) := by decide +kernel
theorem dX7_claimOfTape_20 : decode cX7_claimOfTape 20 = .ok (.ireturn, 1) := by decide +kernel
theorem dX7_claimOfTape_21 : decode cX7_claimOfTape 21 = .ok (.aload_n 0, 1) := by decide +kernel
theorem dX7_claimOfTape_22 : decode cX7_claimOfTape 22 = .ok (.getfield 26, 3) := by decide +kernel
theorem dX7_claimOfTape_25 : decode cX7_claimOfTape 25 = .ok (.invokevirtual 215, 3) := by decide +kernel
theorem dX7_claimOfTape_28 : decode cX7_claimOfTape 28 = .ok (.ifCond .eq 6, 3) := by decide +kernel
theorem dX7_claimOfTape_31 : decode cX7_claimOfTape 31 = .ok (.ldc 111, 2) := by decide +kernel
theorem dX7_claimOfTape_33 : decode cX7_claimOfTape 33 = .ok (.ireturn, 1) := by decide +kernel
theorem dX7_claimOfTape_34 : decode cX7_claimOfTape 34 = .ok (.aload_n 0, 1) := by decide +kernel
theorem dX7_claimOfTape_35 : decode cX7_claimOfTape 35 = .ok (.getfield 26, 3) := by decide +kernel
theorem dX7_claimOfTape_38 : decode cX7_claimOfTape 38 = .ok (.invokevirtual 218, 3) := by decide +kernel
theorem dX7_claimOfTape_41 : decode cX7_claimOfTape 41 = .ok (.ifCond .eq 10, 3) := by decide +kernel
theorem dX7_claimOfTape_44 : decode cX7_claimOfTape 44 = .ok (.aload_n 0, 1) := by decide +kernel
theorem dX7_claimOfTape_45 : decode cX7_claimOfTape 45 = .ok (.bipush 6, 2) := by decide +kernel
theorem dX7_claimOfTape_47 : decode cX7_claimOfTape 47 = .ok (.invokevirtual 66, 3) := by decide +kernel
theorem dX7_claimOfTape_50 : decode cX7_claimOfTape 50 = .ok (.ireturn, 1) := by decide +kernel
theorem dX7_claimOfTape_51 : decode cX7_claimOfTape 51 = .ok (.aload_n 0, 1) := by decide +kernel
theorem dX7_claimOfTape_52 : decode cX7_claimOfTape 52 = .ok (.getfield 19, 3) := by decide +kernel
theorem dX7_claimOfTape_55 : decode cX7_claimOfTape 55 = .ok (.getfield 137, 3) := by decide +kernel
theorem dX7_claimOfTape_58 : decode cX7_claimOfTape 58 = .ok (.iconst 0, 1) := by decide +kernel
theorem dX7_claimOfTape_59 : decode cX7_claimOfTape 59 = .ok (.aaload, 1) := by decide +kernel
theorem dX7_claimOfTape_60 : decode cX7_claimOfTape 60 = .ok (.astore_n 2, 1) := by decide +kernel
theorem dX7_claimOfTape_61 : decode cX7_claimOfTape 61 = .ok (.iload_n 1, 1) := by decide +kernel
theorem dX7_claimOfTape_62 : decode cX7_claimOfTape 62 = .ok (.ifCond .ge 14, 3) := by decide +kernel
theorem dX7_claimOfTape_65 : decode cX7_claimOfTape 65 = .ok (.aload_n 0, 1) := by decide +kernel
theorem dX7_claimOfTape_66 : decode cX7_claimOfTape 66 = .ok (.getfield 46, 3) := by decide +kernel
theorem dX7_claimOfTape_69 : decode cX7_claimOfTape 69 = .ok (.aload_n 2, 1) := by decide +kernel
theorem dX7_claimOfTape_70 : decode cX7_claimOfTape 70 = .ok (.invokevirtual 323, 3) := by decide +kernel
theorem dX7_claimOfTape_73 : decode cX7_claimOfTape 73 = .ok (.goto 20, 3) := by decide +kernel
theorem dX7_claimOfTape_76 : decode cX7_claimOfTape 76 = .ok (.aload_n 0, 1) := by decide +kernel
theorem dX7_claimOfTape_77 : decode cX7_claimOfTape 77 = .ok (.getfield 46, 3) := by decide +kernel
theorem dX7_claimOfTape_80 : decode cX7_claimOfTape 80 = .ok (.aload_n 2, 1) := by decide +kernel
theorem dX7_claimOfTape_81 : decode cX7_claimOfTape 81 = .ok (.aload_n 0, 1) := by decide +kernel
theorem dX7_claimOfTape_82 : decode cX7_claimOfTape 82 = .ok (.getfield 10, 3) := by decide +kernel
theorem dX7_claimOfTape_85 : decode cX7_claimOfTape 85 = .ok (.getfield 95, 3) := by decide +kernel
theorem dX7_claimOfTape_88 : decode cX7_claimOfTape 88 = .ok (.iload_n 1, 1) := by decide +kernel
theorem dX7_claimOfTape_89 : decode cX7_claimOfTape 89 = .ok (.aaload, 1) := by decide +kernel
theorem dX7_claimOfTape_90 : decode cX7_claimOfTape 90 = .ok (.invokevirtual 327, 3) := by decide +kernel
theorem dX7_claimOfTape_93 : decode cX7_claimOfTape 93 = .ok (.istore_n 3, 1) := by decide +kernel
theorem dX7_claimOfTape_94 : decode cX7_claimOfTape 94 = .ok (.iload_n 3, 1) := by decide +kernel
theorem dX7_claimOfTape_95 : decode cX7_claimOfTape 95 = .ok (.ifCond .ne 10, 3) := by decide +kernel
theorem dX7_claimOfTape_98 : decode cX7_claimOfTape 98 = .ok (.aload_n 0, 1) := by decide +kernel
theorem dX7_claimOfTape_99 : decode cX7_claimOfTape 99 = .ok (.ldc 224, 2) := by decide +kernel
theorem dX7_claimOfTape_101 : decode cX7_claimOfTape 101 = .ok (.invokevirtual 74, 3) := by decide +kernel
theorem dX7_claimOfTape_104 : decode cX7_claimOfTape 104 = .ok (.ireturn, 1) := by decide +kernel
theorem dX7_claimOfTape_105 : decode cX7_claimOfTape 105 = .ok (.aload_n 0, 1) := by decide +kernel
theorem dX7_claimOfTape_106 : decode cX7_claimOfTape 106 = .ok (.getfield 26, 3) := by decide +kernel
theorem dX7_claimOfTape_109 : decode cX7_claimOfTape 109 = .ok (.invokevirtual 133, 3) := by decide +kernel
theorem dX7_claimOfTape_112 : decode cX7_claimOfTape 112 = .ok (.aload_n 2, 1) := by decide +kernel
theorem dX7_claimOfTape_113 : decode cX7_claimOfTape 113 = .ok (.invokevirtual 141, 3) := by decide +kernel
theorem dX7_claimOfTape_116 : decode cX7_claimOfTape 116 = .ok (.aload_n 0, 1) := by decide +kernel
theorem dX7_claimOfTape_117 : decode cX7_claimOfTape 117 = .ok (.aload_n 0, 1) := by decide +kernel
theorem dX7_claimOfTape_118 : decode cX7_claimOfTape 118 = .ok (.iconst 5, 1) := by decide +kernel
theorem dX7_claimOfTape_119 : decode cX7_claimOfTape 119 = .ok (.invokevirtual 168, 3) := by decide +kernel
theorem dX7_claimOfTape_122 : decode cX7_claimOfTape 122 = .ok (.invokevirtual 74, 3) := by decide +kernel
theorem dX7_claimOfTape_125 : decode cX7_claimOfTape 125 = .ok (.ireturn, 1) := by decide +kernel
theorem dX7_bestOfAll_0 : decode cX7_bestOfAll 0 = .ok (.aload_n 0, 1) := by decide +kernel
theorem dX7_bestOfAll_1 : decode cX7_bestOfAll 1 = .ok (.getfield 26, 3) := by decide +kernel
theorem dX7_bestOfAll_4 : decode cX7_bestOfAll 4 = .ok (.invokevirtual 331, 3) := by decide +kernel
theorem dX7_bestOfAll_7 : decode cX7_bestOfAll 7 = .ok (.istore_n 2, 1) := by decide +kernel
theorem dX7_bestOfAll_8 : decode cX7_bestOfAll 8 = .ok (.iload_n 2, 1) := by decide +kernel
theorem dX7_bestOfAll_9 : decode cX7_bestOfAll 9 = .ok (.ldc 224, 2) := by decide +kernel
theorem dX7_bestOfAll_11 : decode cX7_bestOfAll 11 = .ok (.if_icmp .ne 6, 3) := by decide +kernel
theorem dX7_bestOfAll_14 : decode cX7_bestOfAll 14 = .ok (.ldc 224, 2) := by decide +kernel
theorem dX7_bestOfAll_16 : decode cX7_bestOfAll 16 = .ok (.ireturn, 1) := by decide +kernel
theorem dX7_bestOfAll_17 : decode cX7_bestOfAll 17 = .ok (.iload_n 1, 1) := by decide +kernel
theorem dX7_bestOfAll_18 : decode cX7_bestOfAll 18 = .ok (.iconst 1, 1) := by decide +kernel
theorem dX7_bestOfAll_19 : decode cX7_bestOfAll 19 = .ok (.if_icmp .ne 14, 3) := by decide +kernel
theorem dX7_bestOfAll_22 : decode cX7_bestOfAll 22 = .ok (.aload_n 0, 1) := by decide +kernel
theorem dX7_bestOfAll_23 : decode cX7_bestOfAll 23 = .ok (.getfield 26, 3) := by decide +kernel
theorem dX7_bestOfAll_26 : decode cX7_bestOfAll 26 = .ok (.iload_n 2, 1) := by decide +kernel
theorem dX7_bestOfAll_27 : decode cX7_bestOfAll 27 = .ok (.invokevirtual 228, 3) := by decide +kernel
theorem dX7_bestOfAll_30 : decode cX7_bestOfAll 30 = .ok (.goto 4, 3) := by decide +kernel
theorem dX7_bestOfAll_33 : decode cX7_bestOfAll 33 = .ok (.iload_n 2, 1) := by decide +kernel
theorem dX7_bestOfAll_34 : decode cX7_bestOfAll 34 = .ok (.ireturn, 1) := by decide +kernel
theorem dX7_isRow_0 : decode cX7_isRow 0 = .ok (.iload_n 0, 1) := by decide +kernel
theorem dX7_isRow_1 : decode cX7_isRow 1 = .ok (.ifCond .lt 13, 3) := by decide +kernel
theorem dX7_isRow_4 : decode cX7_isRow 4 = .ok (.iload_n 0, 1) := by decide +kernel
theorem dX7_isRow_5 : decode cX7_isRow 5 = .ok (.bipush 8, 2) := by decide +kernel
theorem dX7_isRow_7 : decode cX7_isRow 7 = .ok (.if_icmp .ge 7, 3) := by decide +kernel
theorem dX7_isRow_10 : decode cX7_isRow 10 = .ok (.iconst 1, 1) := by decide +kernel
theorem dX7_isRow_11 : decode cX7_isRow 11 = .ok (.goto 4, 3) := by decide +kernel
theorem dX7_isRow_14 : decode cX7_isRow 14 = .ok (.iconst 0, 1) := by decide +kernel
theorem dX7_isRow_15 : decode cX7_isRow 15 = .ok (.ireturn, 1) := by decide +kernel
theorem dX7_isVariable_0 : decode cX7_isVariable 0 = .ok (.iload_n 0, 1) := by decide +kernel
theorem dX7_isVariable_1 : decode cX7_isVariable 1 = .ok (.ifCond .lt 13, 3) := by decide +kernel
theorem dX7_isVariable_4 : decode cX7_isVariable 4 = .ok (.iload_n 0, 1) := by decide +kernel
theorem dX7_isVariable_5 : decode cX7_isVariable 5 = .ok (.bipush 8, 2) := by decide +kernel
theorem dX7_isVariable_7 : decode cX7_isVariable 7 = .ok (.if_icmp .ge 7, 3) := by decide +kernel
theorem dX7_isVariable_10 : decode cX7_isVariable 10 = .ok (.iconst 1, 1) := by decide +kernel
theorem dX7_isVariable_11 : decode cX7_isVariable 11 = .ok (.goto 4, 3) := by decide +kernel
theorem dX7_isVariable_14 : decode cX7_isVariable 14 = .ok (.iconst 0, 1) := by decide +kernel
theorem dX7_isVariable_15 : decode cX7_isVariable 15 = .ok (.ireturn, 1) := by decide +kernel
theorem dX7_isSet_0 : decode cX7_isSet 0 = .ok (.iload_n 0, 1) := by decide +kernel
theorem dX7_isSet_1 : decode cX7_isSet 1 = .ok (.ifCond .lt 14, 3) := by decide +kernel
theorem dX7_isSet_4 : decode cX7_isSet 4 = .ok (.iload_n 0, 1) := by decide +kernel
theorem dX7_isSet_5 : decode cX7_isSet 5 = .ok (.sipush 255, 3) := by decide +kernel
theorem dX7_isSet_8 : decode cX7_isSet 8 = .ok (.if_icmp .gt 7, 3) := by decide +kernel
theorem dX7_isSet_11 : decode cX7_isSet 11 = .ok (.iconst 1, 1) := by decide +kernel
theorem dX7_isSet_12 : decode cX7_isSet 12 = .ok (.goto 4, 3) := by decide +kernel
theorem dX7_isSet_15 : decode cX7_isSet 15 = .ok (.iconst 0, 1) := by decide +kernel
theorem dX7_isSet_16 : decode cX7_isSet 16 = .ok (.ireturn, 1) := by decide +kernel
theorem dX7_isOfKind_0 : decode cX7_isOfKind 0 = .ok (.iload_n 1, 1) := by decide +kernel
theorem dX7_isOfKind_1 : decode cX7_isOfKind 1 = .ok (.ifCond .eq 33, 3) := by decide +kernel
theorem dX7_isOfKind_4 : decode cX7_isOfKind 4 = .ok (.iload_n 0, 1) := by decide +kernel
theorem dX7_isOfKind_5 : decode cX7_isOfKind 5 = .ok (.iload_n 1, 1) := by decide +kernel
theorem dX7_isOfKind_6 : decode cX7_isOfKind 6 = .ok (.if_icmp .eq 28, 3) := by decide +kernel
theorem dX7_isOfKind_9 : decode cX7_isOfKind 9 = .ok (.iload_n 1, 1) := by decide +kernel
theorem dX7_isOfKind_10 : decode cX7_isOfKind 10 = .ok (.iconst 1, 1) := by decide +kernel
theorem dX7_isOfKind_11 : decode cX7_isOfKind 11 = .ok (.if_icmp .ne 13, 3) := by decide +kernel
theorem dX7_isOfKind_14 : decode cX7_isOfKind 14 = .ok (.iload_n 0, 1) := by decide +kernel
theorem dX7_isOfKind_15 : decode cX7_isOfKind 15 = .ok (.iconst 2, 1) := by decide +kernel
theorem dX7_isOfKind_16 : decode cX7_isOfKind 16 = .ok (.if_icmp .eq 18, 3) := by decide +kernel
theorem dX7_isOfKind_19 : decode cX7_isOfKind 19 = .ok (.iload_n 0, 1) := by decide +kernel
theorem dX7_isOfKind_20 : decode cX7_isOfKind 20 = .ok (.iconst 3, 1) := by decide +kernel
theorem dX7_isOfKind_21 : decode cX7_isOfKind 21 = .ok (.if_icmp .eq 13, 3) := by decide +kernel
theorem dX7_isOfKind_24 : decode cX7_isOfKind 24 = .ok (.iload_n 1, 1) := by decide +kernel
theorem dX7_isOfKind_25 : decode cX7_isOfKind 25 = .ok (.iconst 4, 1) := by decide +kernel
theorem dX7_isOfKind_26 : decode cX7_isOfKind 26 = .ok (.if_icmp .ne 12, 3) := by decide +kernel
theorem dX7_isOfKind_29 : decode cX7_isOfKind 29 = .ok (.iload_n 0, 1) := by decide +kernel
theorem dX7_isOfKind_30 : decode cX7_isOfKind 30 = .ok (.iconst 5, 1) := by decide +kernel
theorem dX7_isOfKind_31 : decode cX7_isOfKind 31 = .ok (.if_icmp .ne 7, 3) := by decide +kernel
theorem dX7_isOfKind_34 : decode cX7_isOfKind 34 = .ok (.iconst 1, 1) := by decide +kernel
theorem dX7_isOfKind_35 : decode cX7_isOfKind 35 = .ok (.goto 4, 3) := by decide +kernel
theorem dX7_isOfKind_38 : decode cX7_isOfKind 38 = .ok (.iconst 0, 1) := by decide +kernel
theorem dX7_isOfKind_39 : decode cX7_isOfKind 39 = .ok (.ireturn, 1) := by decide +kernel
theorem dX8_init_0 : decode cX8_init 0 = .ok (.aload_n 0, 1) := by decide +kernel
theorem dX8_init_1 : decode cX8_init 1 = .ok (.invokespecial 1, 3) := by decide +kernel
theorem dX8_init_4 : decode cX8_init 4 = .ok (.aload_n 0, 1) := by decide +kernel
theorem dX8_init_5 : decode cX8_init 5 = .ok (.bipush 8, 2) := by decide +kernel
theorem dX8_init_7 : decode cX8_init 7 = .ok (.newarray .int, 2) := by decide +kernel
theorem dX8_init_9 : decode cX8_init 9 = .ok (.putfield 7, 3) := by decide +kernel
theorem dX8_init_12 : decode cX8_init 12 = .ok (.aload_n 0, 1) := by decide +kernel
theorem dX8_init_13 : decode cX8_init 13 = .ok (.bipush 8, 2) := by decide +kernel
theorem dX8_init_15 : decode cX8_init 15 = .ok (.newarray .int, 2) := by decide +kernel
theorem dX8_init_17 : decode cX8_init 17 = .ok (.putfield 13, 3) := by decide +kernel
theorem dX8_init_20 : decode cX8_init 20 = .ok (.aload_n 0, 1) := by decide +kernel
theorem dX8_init_21 : decode cX8_init 21 = .ok (.sipush 320, 3) := by decide +kernel
theorem dX8_init_24 : decode cX8_init 24 = .ok (.newarray .int, 2) := by decide +kernel
theorem dX8_init_26 : decode cX8_init 26 = .ok (.putfield 16, 3) := by decide +kernel
theorem dX8_init_29 : decode cX8_init 29 = .ok (.aload_n 0, 1) := by decide +kernel
theorem dX8_init_30 : decode cX8_init 30 = .ok (.bipush 40, 2) := by decide +kernel
theorem dX8_init_32 : decode cX8_init 32 = .ok (.newarray .int, 2) := by decide +kernel
theorem dX8_init_34 : decode cX8_init 34 = .ok (.putfield 19, 3) := by decide +kernel
theorem dX8_init_37 : decode cX8_init 37 = .ok (.aload_n 0, 1) := by decide +kernel
theorem dX8_init_38 : decode cX8_init 38 = .ok (.sipush 200, 3) := by decide +kernel
theorem dX8_init_41 : decode cX8_init 41 = .ok (.newarray .int, 2) := by decide +kernel
theorem dX8_init_43 : decode cX8_init 43 = .ok (.putfield 22, 3) := by decide +kernel
theorem dX8_init_46 : decode cX8_init 46 = .ok (.aload_n 0, 1) := by decide +kernel
theorem dX8_init_47 : decode cX8_init 47 = .ok (.sipush 312, 3) := by decide +kernel
theorem dX8_init_50 : decode cX8_init 50 = .ok (.newarray .long, 2) := by decide +kernel
theorem dX8_init_52 : decode cX8_init 52 = .ok (.putfield 25, 3) := by decide +kernel
theorem dX8_init_55 : decode cX8_init 55 = .ok (.aload_n 0, 1) := by decide +kernel
theorem dX8_init_56 : decode cX8_init 56 = .ok (.sipush 312, 3) := by decide +kernel
theorem dX8_init_59 : decode cX8_init 59 = .ok (.newarray .long, 2) := by decide +kernel
theorem dX8_init_61 : decode cX8_init 61 = .ok (.putfield 29, 3) := by decide +kernel
theorem dX8_init_64 : decode cX8_init 64 = .ok (.aload_n 0, 1) := by decide +kernel
theorem dX8_init_65 : decode cX8_init 65 = .ok (.sipush 3744, 3) := by decide +kernel
theorem dX8_init_68 : decode cX8_init 68 = .ok (.newarray .long, 2) := by decide +kernel
theorem dX8_init_70 : decode cX8_init 70 = .ok (.putfield 32, 3) := by decide +kernel
theorem dX8_init_73 : decode cX8_init 73 = .ok (.aload_n 0, 1) := by decide +kernel
theorem dX8_init_74 : decode cX8_init 74 = .ok (.sipush 624, 3) := by decide +kernel
theorem dX8_init_77 : decode cX8_init 77 = .ok (.newarray .long, 2) := by decide +kernel
theorem dX8_init_79 : decode cX8_init 79 = .ok (.putfield 35, 3) := by decide +kernel
theorem dX8_init_82 : decode cX8_init 82 = .ok (.aload_n 0, 1) := by decide +kernel
theorem dX8_init_83 : decode cX8_init 83 = .ok (.iconst 2, 1) := by decide +kernel
theorem dX8_init_84 : decode cX8_init 84 = .ok (.newarray .boolean, 2) := by decide +kernel
theorem dX8_init_86 : decode cX8_init 86 = .ok (.putfield 38, 3) := by decide +kernel
theorem dX8_init_89 : decode cX8_init 89 = .ok (.aload_n 0, 1) := by decide +kernel
theorem dX8_init_90 : decode cX8_init 90 = .ok (.bipush 10, 2) := by decide +kernel
theorem dX8_init_92 : decode cX8_init 92 = .ok (.newarray .long, 2) := by decide +kernel
theorem dX8_init_94 : decode cX8_init 94 = .ok (.putfield 42, 3) := by decide +kernel
theorem dX8_init_97 : decode cX8_init 97 = .ok (.aload_n 0, 1) := by decide +kernel
theorem dX8_init_98 : decode cX8_init 98 = .ok (.bipush 10, 2) := by decide +kernel
theorem dX8_init_100 : decode cX8_init 100 = .ok (.newarray .long, 2) := by decide +kernel
theorem dX8_init_102 : decode cX8_init 102 = .ok (.putfield 45, 3) := by decide +kernel
theorem dX8_init_105 : decode cX8_init 105 = .ok (.aload_n 0, 1) := by decide +kernel
theorem dX8_init_106 : decode cX8_init 106 = .ok (.bipush 10, 2) := by decide +kernel
theorem dX8_init_108 : decode cX8_init 108 = .ok (.newarray .long, 2) := by decide +kernel
theorem dX8_init_110 : decode cX8_init 110 = .ok (.putfield 48, 3) := by decide +kernel
theorem dX8_init_113 : decode cX8_init 113 = .ok (.aload_n 0, 1) := by decide +kernel
theorem dX8_init_114 : decode cX8_init 114 = .ok (.bipush 10, 2) := by decide +kernel
theorem dX8_init_116 : decode cX8_init 116 = .ok (.newarray .long, 2) := by decide +kernel
theorem dX8_init_118 : decode cX8_init 118 = .ok (.putfield 51, 3) := by decide +kernel
theorem dX8_init_121 : decode cX8_init 121 = .ok (.aload_n 0, 1) := by decide +kernel
theorem dX8_init_122 : decode cX8_init 122 = .ok (.bipush 8, 2) := by decide +kernel
theorem dX8_init_124 : decode cX8_init 124 = .ok (.newarray .long, 2) := by decide +kernel
theorem dX8_init_126 : decode cX8_init 126 = .ok (.putfield 54, 3) := by decide +kernel
theorem dX8_init_129 : decode cX8_init 129 = .ok (.aload_n 0, 1) := by decide +kernel
theorem dX8_init_130 : decode cX8_init 130 = .ok (.bipush 16, 2) := by decide +kernel
theorem dX8_init_132 : decode cX8_init 132 = .ok (.newarray .int, 2) := by decide +kernel
theorem dX8_init_134 : decode cX8_init 134 = .ok (.putfield 57, 3) := by decide +kernel
theorem dX8_init_137 : decode cX8_init 137 = .ok (.iconst 0, 1) := by decide +kernel
theorem dX8_init_138 : decode cX8_init 138 = .ok (.istore_n 1, 1) := by decide +kernel
theorem dX8_init_139 : decode cX8_init 139 = .ok (.iload_n 1, 1) := by decide +kernel
theorem dX8_init_140 : decode cX8_init 140 = .ok (.bipush 8, 2) := by decide +kernel
theorem dX8_init_142 : decode cX8_init 142 = .ok (.if_icmp .ge 17, 3) := by decide +kernel
theorem dX8_init_145 : decode cX8_init 145 = .ok (.aload_n 0, 1) := by decide +kernel
theorem dX8_init_146 : decode cX8_init 146 = .ok (.getfield 7, 3) := by decide +kernel
theorem dX8_init_149 : decode cX8_init 149 = .ok (.iload_n 1, 1) := by decide +kernel
theorem dX8_init_150 : decode cX8_init 150 = .ok (.ldc 60, 2) := by decide +kernel
theorem dX8_init_152 : decode cX8_init 152 = .ok (.iastore, 1) := by decide +kernel
theorem dX8_init_153 : decode cX8_init 153 = .ok (.iinc 1 1, 3) := by decide +kernel
theorem dX8_init_156 : decode cX8_init 156 = .ok (.goto (-17), 3) := by decide +kernel
theorem dX8_init_159 : decode cX8_init 159 = .ok (.aload_n 0, 1) := by decide +kernel
theorem dX8_init_160 : decode cX8_init 160 = .ok (.getfield 25, 3) := by decide +kernel
theorem dX8_init_163 : decode cX8_init 163 = .ok (.bipush 8, 2) := by decide +kernel
theorem dX8_init_165 : decode cX8_init 165 = .ok (.ldc2_w 61, 3) := by decide +kernel
theorem dX8_init_168 : decode cX8_init 168 = .ok (.lastore, 1) := by decide +kernel
theorem dX8_init_169 : decode cX8_init 169 = .ok (.return_, 1) := by decide +kernel
theorem dX8_in_0 : decode cX8_in 0 = .ok (.iload_n 0, 1) := by decide +kernel
theorem dX8_in_1 : decode cX8_in 1 = .ok (.iload_n 1, 1) := by decide +kernel
theorem dX8_in_2 : decode cX8_in 2 = .ok (.if_icmp .lt 12, 3) := by decide +kernel
theorem dX8_in_5 : decode cX8_in 5 = .ok (.iload_n 0, 1) := by decide +kernel
theorem dX8_in_6 : decode cX8_in 6 = .ok (.iload_n 2, 1) := by decide +kernel
theorem dX8_in_7 : decode cX8_in 7 = .ok (.if_icmp .gt 7, 3) := by decide +kernel
theorem dX8_in_10 : decode cX8_in 10 = .ok (.iconst 1, 1) := by decide +kernel
theorem dX8_in_11 : decode cX8_in 11 = .ok (.goto 4, 3) := by decide +kernel
theorem dX8_in_14 : decode cX8_in 14 = .ok (.iconst 0, 1) := by decide +kernel
theorem dX8_in_15 : decode cX8_in 15 = .ok (.ireturn, 1) := by decide +kernel
theorem dX8_has_0 : decode cX8_has 0 = .ok (.iload_n 0, 1) := by decide +kernel
theorem dX8_has_1 : decode cX8_has 1 = .ok (.iload_n 1, 1) := by decide +kernel
theorem dX8_has_2 : decode cX8_has 2 = .ok (.ishr, 1) := by decide +kernel
theorem dX8_has_3 : decode cX8_has 3 = .ok (.iconst 1, 1) := by decide +kernel
theorem dX8_has_4 : decode cX8_has 4 = .ok (.iand, 1) := by decide +kernel
theorem dX8_has_5 : decode cX8_has 5 = .ok (.iconst 1, 1) := by decide +kernel
theorem dX8_has_6 : decode cX8_has 6 = .ok (.if_icmp .ne 7, 3) := by decide +kernel
theorem dX8_has_9 : decode cX8_has 9 = .ok (.iconst 1, 1) := by decide +kernel
theorem dX8_has_10 : decode cX8_has 10 = .ok (.goto 4, 3) := by decide +kernel
theorem dX8_has_13 : decode cX8_has 13 = .ok (.iconst 0, 1) := by decide +kernel
theorem dX8_has_14 : decode cX8_has 14 = .ok (.ireturn, 1) := by decide +kernel
theorem dX8_ones_0 : decode cX8_ones 0 = .ok (.iconst 0, 1) := by decide +kernel
theorem dX8_ones_1 : decode cX8_ones 1 = .ok (.istore_n 1, 1) := by decide +kernel
theorem dX8_ones_2 : decode cX8_ones 2 = .ok (.iconst 0, 1) := by decide +kernel
theorem dX8_ones_3 : decode cX8_ones 3 = .ok (.istore_n 2, 1) := by decide +kernel
theorem dX8_ones_4 : decode cX8_ones 4 = .ok (.iload_n 2, 1) := by decide +kernel
theorem dX8_ones_5 : decode cX8_ones 5 = .ok (.bipush 30, 2) := by decide +kernel
theorem dX8_ones_7 : decode cX8_ones 7 = .ok (.if_icmp .ge 17, 3) := by decide +kernel
theorem dX8_ones_10 : decode cX8_ones 10 = .ok (.iload_n 1, 1) := by decide +kernel
theorem dX8_ones_11 : decode cX8_ones 11 = .ok (.iload_n 0, 1) := by decide +kernel
theorem dX8_ones_12 : decode cX8_ones 12 = .ok (.iload_n 2, 1) := by decide +kernel
theorem dX8_ones_13 : decode cX8_ones 13 = .ok (.ishr, 1) := by decide +kernel
theorem dX8_ones_14 : decode cX8_ones 14 = .ok (.iconst 1, 1) := by decide +kernel
theorem dX8_ones_15 : decode cX8_ones 15 = .ok (.iand, 1) := by decide +kernel
theorem dX8_ones_16 : decode cX8_ones 16 = .ok (.iadd, 1) := by decide +kernel
theorem dX8_ones_17 : decode cX8_ones 17 = .ok (.istore_n 1, 1) := by decide +kernel
theorem dX8_ones_18 : decode cX8_ones 18 = .ok (.iinc 2 1, 3) := by decide +kernel
theorem dX8_ones_21 : decode cX8_ones 21 = .ok (.goto (-17), 3) := by decide +kernel
theorem dX8_ones_24 : decode cX8_ones 24 = .ok (.iload_n 1, 1) := by decide +kernel
theorem dX8_ones_25 : decode cX8_ones 25 = .ok (.ireturn, 1) := by decide +kernel
theorem dX8_found_0 : decode cX8_found 0 = .ok (.aload_n 0, 1) := by decide +kernel
theorem dX8_found_1 : decode cX8_found 1 = .ok (.iload_n 1, 1) := by decide +kernel
theorem dX8_found_2 : decode cX8_found 2 = .ok (.putfield 63, 3) := by decide +kernel
theorem dX8_found_5 : decode cX8_found 5 = .ok (.ldc 67, 2) := by decide +kernel
theorem dX8_found_7 : decode cX8_found 7 = .ok (.iload_n 1, 1) := by decide +kernel
theorem dX8_found_8 : decode cX8_found 8 = .ok (.isub, 1) := by decide +kernel
theorem dX8_found_9 : decode cX8_found 9 = .ok (.ireturn, 1) := by decide +kernel
theorem dX8_well_0 : decode cX8_well 0 = .ok (.aload_n 0, 1) := by decide +kernel
theorem dX8_well_1 : decode cX8_well 1 = .ok (.iconst 0, 1) := by decide +kernel
theorem dX8_well_2 : decode cX8_well 2 = .ok (.putfield 63, 3) := by decide +kernel
theorem dX8_well_5 : decode cX8_well 5 = .ok (.iload_n 1, 1) := by decide +kernel
theorem dX8_well_6 : decode cX8_well 6 = .ok (.ireturn, 1) := by decide +kernel
theorem dX8_copies_0 : decode cX8_copies 0 = .ok (.iconst 0, 1) := by decide +kernel
theorem dX8_copies_1 : decode cX8_copies 1 = .ok (.istore 5, 2) := by decide +kernel
theorem dX8_copies_3 : decode cX8_copies 3 = .ok (.iload 5, 2) := by decide +kernel
theorem dX8_copies_5 : decode cX8_copies 5 = .ok (.iload 4, 2) := by decide +kernel
theorem dX8_copies_7 : decode cX8_copies 7 = .ok (.if_icmp .ge 21, 3) := by decide +kernel
theorem dX8_copies_10 : decode cX8_copies 10 = .ok (.aload_n 2, 1) := by decide +kernel
theorem dX8_copies_11 : decode cX8_copies 11 = .ok (.iload_n 3, 1) := by decide +kernel
theorem dX8_copies_12 : decode cX8_copies 12 = .ok (.iload 5, 2) := by decide +kernel
theorem dX8_copies_14 : decode cX8_copies 14 = .ok (.iadd, 1) := by decide +kernel
theorem dX8_copies_15 : decode cX8_copies 15 = .ok (.aload_n 0, 1) := by decide +kernel
theorem dX8_copies_16 : decode cX8_copies 16 = .ok (.iload_n 1, 1) := by decide +kernel
theorem dX8_copies_17 : decode cX8_copies 17 = .ok (.iload 5, 2) := by decide +kernel
theorem dX8_copies_19 : decode cX8_copies 19 = .ok (.iadd, 1) := by decide +kernel
theorem dX8_copies_20 : decode cX8_copies 20 = .ok (.laload, 1) := by decide +kernel
theorem dX8_copies_21 : decode cX8_copies 21 = .ok (.lastore, 1) := by decide +kernel
theorem dX8_copies_22 : decode cX8_copies 22 = .ok (.iinc 5 1, 3) := by decide +kernel
theorem dX8_copies_25 : decode cX8_copies 25 = .ok (.goto (-22), 3) := by decide +kernel
theorem dX8_copies_28 : decode cX8_copies 28 = .ok (.return_, 1) := by decide +kernel
theorem dX8_size_0 : decode cX8_size 0 = .ok (.lload_n 0, 1) := by decide +kernel
theorem dX8_size_1 : decode cX8_size 1 = .ok (.lconst 0, 1) := by decide +kernel
theorem dX8_size_2 : decode cX8_size 2 = .ok (.lcmp, 1) := by decide +kernel
theorem dX8_size_3 : decode cX8_size 3 = .ok (.ifCond .ge 8, 3) := by decide +kernel
theorem dX8_size_6 : decode cX8_size 6 = .ok (.lload_n 0, 1) := by decide +kernel
theorem dX8_size_7 : decode cX8_size 7 = .ok (.lneg, 1) := by decide +kernel
theorem dX8_size_8 : decode cX8_size 8 = .ok (.goto 4, 3) := by decide +kernel
theorem dX8_size_11 : decode cX8_size 11 = .ok (.lload_n 0, 1) := by decide +kernel
theorem dX8_size_12 : decode cX8_size 12 = .ok (.lreturn, 1) := by decide +kernel
theorem dX8_isRow_0 : decode cX8_isRow 0 = .ok (.iload_n 0, 1) := by decide +kernel
theorem dX8_isRow_1 : decode cX8_isRow 1 = .ok (.iconst 0, 1) := by decide +kernel
theorem dX8_isRow_2 : decode cX8_isRow 2 = .ok (.bipush 7, 2) := by decide +kernel
theorem dX8_isRow_4 : decode cX8_isRow 4 = .ok (.invokestatic 68, 3) := by decide +kernel
theorem dX8_isRow_7 : decode cX8_isRow 7 = .ok (.ireturn, 1) := by decide +kernel
theorem dX8_isMissing_0 : decode cX8_isMissing 0 = .ok (.aload_n 0, 1) := by decide +kernel
theorem dX8_isMissing_1 : decode cX8_isMissing 1 = .ok (.getfield 7, 3) := by decide +kernel
theorem dX8_isMissing_4 : decode cX8_isMissing 4 = .ok (.iload_n 1, 1) := by decide +kernel
theorem dX8_isMissing_5 : decode cX8_isMissing 5 = .ok (.iaload, 1) := by decide +kernel
theorem dX8_isMissing_6 : decode cX8_isMissing 6 = .ok (.ldc 60, 2) := by decide +kernel
theorem dX8_isMissing_8 : decode cX8_isMissing 8 = .ok (.if_icmp .ne 7, 3) := by decide +kernel
theorem dX8_isMissing_11 : decode cX8_isMissing 11 = .ok (.iconst 1, 1) := by decide +kernel
theorem dX8_isMissing_12 : decode cX8_isMissing 12 = .ok (.goto 4, 3) := by decide +kernel
theorem dX8_isMissing_15 : decode cX8_isMissing 15 = .ok (.iconst 0, 1) := by decide +kernel
theorem dX8_isMissing_16 : decode cX8_isMissing 16 = .ok (.ireturn, 1) := by decide +kernel
theorem dX8_lowest_0 : decode cX8_lowest 0 = .ok (.iload_n 0, 1) := by decide +kernel
theorem dX8_lowest_1 : decode cX8_lowest 1 = .ok (.ifCond .ne 13, 3) := by decide +kernel
theorem dX8_lowest_4 : decode cX8_lowest 4 = .ok (.iload_n 1, 1) := by decide +kernel
theorem dX8_lowest_5 : decode cX8_lowest 5 = .ok (.bipush 24, 2) := by decide +kernel
theorem dX8_lowest_7 : decode cX8_lowest 7 = .ok (.ishl, 1) := by decide +kernel
theorem dX8_lowest_8 : decode cX8_lowest 8 = .ok (.bipush 24, 2) := by decide +kernel
theorem dX8_lowest_10 : decode cX8_lowest 10 = .ok (.ishr, 1) := by decide +kernel
theorem dX8_lowest_11 : decode cX8_lowest 11 = .ok (.goto 19, 3) := by decide +kernel
theorem dX8_lowest_14 : decode cX8_lowest 14 = .ok (.iload_n 0, 1) := by decide +kernel
theorem dX8_lowest_15 : decode cX8_lowest 15 = .ok (.iconst 1, 1) := by decide +kernel
theorem dX8_lowest_16 : decode cX8_lowest 16 = .ok (.if_icmp .ne 13, 3) := by decide +kernel
theorem dX8_lowest_19 : decode cX8_lowest 19 = .ok (.iload_n 1, 1) := by decide +kernel
theorem dX8_lowest_20 : decode cX8_lowest 20 = .ok (.bipush 16, 2) := by decide +kernel
theorem dX8_lowest_22 : decode cX8_lowest 22 = .ok (.ishl, 1) := by decide +kernel
theorem dX8_lowest_23 : decode cX8_lowest 23 = .ok (.bipush 16, 2) := by decide +kernel
theorem dX8_lowest_25 : decode cX8_lowest 25 = .ok (.ishr, 1) := by decide +kernel
theorem dX8_lowest_26 : decode cX8_lowest 26 = .ok (.goto 4, 3) := by decide +kernel
theorem dX8_lowest_29 : decode cX8_lowest 29 = .ok (.iload_n 1, 1) := by decide +kernel
theorem dX8_lowest_30 : decode cX8_lowest 30 = .ok (.ireturn, 1) := by decide +kernel
theorem dX8_row_0 : decode cX8_row 0 = .ok (.iload_n 1, 1) := by decide +kernel
theorem dX8_row_1 : decode cX8_row 1 = .ok (.invokestatic 72, 3) := by decide +kernel
theorem dX8_row_4 : decode cX8_row 4 = .ok (.ifCond .eq 18, 3) := by decide +kernel
theorem dX8_row_7 : decode cX8_row 7 = .ok (.iload_n 2, 1) := by decide +kernel
theorem dX8_row_8 : decode cX8_row 8 = .ok (.iconst 0, 1) := by decide +kernel
theorem dX8_row_9 : decode cX8_row 9 = .ok (.iconst 2, 1) := by decide +kernel
theorem dX8_row_10 : decode cX8_row 10 = .ok (.invokestatic 68, 3) := by decide +kernel
theorem dX8_row_13 : decode cX8_row 13 = .ok (.ifCond .eq 9, 3) := by decide +kernel
theorem dX8_row_16 : decode cX8_row 16 = .ok (.iload_n 3, 1) := by decide +kernel
theorem dX8_row_17 : decode cX8_row 17 = .ok (.bipush 40, 2) := by decide +kernel
theorem dX8_row_19 : decode cX8_row 19 = .ok (.if_icmp .le 6, 3) := by decide +kernel
theorem dX8_row_22 : decode cX8_row 22 = .ok (.ldc 76, 2) := by decide +kernel
theorem dX8_row_24 : decode cX8_row 24 = .ok (.ireturn, 1) := by decide +kernel
theorem dX8_row_25 : decode cX8_row 25 = .ok (.iload_n 3, 1) := by decide +kernel
theorem dX8_row_26 : decode cX8_row 26 = .ok (.ifCond .ge 9, 3) := by decide +kernel
theorem dX8_row_29 : decode cX8_row 29 = .ok (.aload_n 0, 1) := by decide +kernel
theorem dX8_row_30 : decode cX8_row 30 = .ok (.iconst 4, 1) := by decide +kernel
theorem dX8_row_31 : decode cX8_row 31 = .ok (.invokevirtual 77, 3) := by decide +kernel
theorem dX8_row_34 : decode cX8_row 34 = .ok (.ireturn, 1) := by decide +kernel
theorem dX8_row_35 : decode cX8_row 35 = .ok (.aload_n 0, 1) := by decide +kernel
theorem dX8_row_36 : decode cX8_row 36 = .ok (.getfield 7, 3) := by decide +kernel
theorem dX8_row_39 : decode cX8_row 39 = .ok (.iload_n 1, 1) := by decide +kernel
theorem dX8_row_40 : decode cX8_row 40 = .ok (.iload_n 2, 1) := by decide +kernel
theorem dX8_row_41 : decode cX8_row 41 = .ok (.iastore, 1) := by decide +kernel
theorem dX8_row_42 : decode cX8_row 42 = .ok (.aload_n 0, 1) := by decide +kernel
theorem dX8_row_43 : decode cX8_row 43 = .ok (.getfield 13, 3) := by decide +kernel
theorem dX8_row_46 : decode cX8_row 46 = .ok (.iload_n 1, 1) := by decide +kernel
theorem dX8_row_47 : decode cX8_row 47 = .ok (.iload_n 3, 1) := by decide +kernel
theorem dX8_row_48 : decode cX8_row 48 = .ok (.iastore, 1) := by decide +kernel
theorem dX8_row_49 : decode cX8_row 49 = .ok (.iconst 0, 1) := by decide +kernel
theorem dX8_row_50 : decode cX8_row 50 = .ok (.istore 4, 2) := by decide +kernel
theorem dX8_row_52 : decode cX8_row 52 = .ok (.iload 4, 2) := by decide +kernel
theorem dX8_row_54 : decode cX8_row 54 = .ok (.bipush 40, 2) := by decide +kernel
theorem dX8_row_56 : decode cX8_row 56 = .ok (.if_icmp .ge 22, 3) := by decide +kernel
theorem dX8_row_59 : decode cX8_row 59 = .ok (.aload_n 0, 1) := by decide +kernel
theorem dX8_row_60 : decode cX8_row 60 = .ok (.getfield 16, 3) := by decide +kernel
theorem dX8_row_63 : decode cX8_row 63 = .ok (.bipush 40, 2) := by decide +kernel
theorem dX8_row_65 : decode cX8_row 65 = .ok (.iload_n 1, 1) := by decide +kernel
theorem dX8_row_66 : decode cX8_row 66 = .ok (.imul, 1) := by decide +kernel
theorem dX8_row_67 : decode cX8_row 67 = .ok (.iload 4, 2) := by decide +kernel
theorem dX8_row_69 : decode cX8_row 69 = .ok (.iadd, 1) := by decide +kernel
theorem dX8_row_70 : decode cX8_row 70 = .ok (.iconst 0, 1) := by decide +kernel
theorem dX8_row_71 : decode cX8_row 71 = .ok (.iastore, 1) := by decide +kernel
theorem dX8_row_72 : decode cX8_row 72 = .ok (.iinc 4 1, 3) := by decide +kernel
theorem dX8_row_75 : decode cX8_row 75 = .ok (.goto (-23), 3) := by decide +kernel
theorem dX8_row_78 : decode cX8_row 78 = .ok (.aload_n 0, 1) := by decide +kernel
theorem dX8_row_79 : decode cX8_row 79 = .ok (.iload_n 3, 1) := by decide +kernel
theorem dX8_row_80 : decode cX8_row 80 = .ok (.invokevirtual 81, 3) := by decide +kernel
theorem dX8_row_83 : decode cX8_row 83 = .ok (.ireturn, 1) := by decide +kernel
theorem dX8_set_0 : decode cX8_set 0 = .ok (.iload_n 1, 1) := by decide +kernel
theorem dX8_set_1 : decode cX8_set 1 = .ok (.invokestatic 72, 3) := by decide +kernel
theorem dX8_set_4 : decode cX8_set 4 = .ok (.ifCond .ne 6, 3) := by decide +kernel
theorem dX8_set_7 : decode cX8_set 7 = .ok (.ldc 76, 2) := by decide +kernel
theorem dX8_set_9 : decode cX8_set 9 = .ok (.ireturn, 1) := by decide +kernel
theorem dX8_set_10 : decode cX8_set 10 = .ok (.aload_n 0, 1) := by decide +kernel
theorem dX8_set_11 : decode cX8_set 11 = .ok (.iload_n 1, 1) := by decide +kernel
theorem dX8_set_12 : decode cX8_set 12 = .ok (.invokevirtual 84, 3) := by decide +kernel
theorem dX8_set_15 : decode cX8_set 15 = .ok (.ifCond .eq 9, 3) := by decide +kernel
theorem dX8_set_18 : decode cX8_set 18 = .ok (.aload_n 0, 1) := by decide +kernel
theorem dX8_set_19 : decode cX8_set 19 = .ok (.iconst 1, 1) := by decide +kernel
theorem dX8_set_20 : decode cX8_set 20 = .ok (.invokevirtual 77, 3) := by decide +kernel
theorem dX8_set_23 : decode cX8_set 23 = .ok (.ireturn, 1) := by decide +kernel
theorem dX8_set_24 : decode cX8_set 24 = .ok (.iload_n 2, 1) := by decide +kernel
theorem dX8_set_25 : decode cX8_set 25 = .ok (.iconst 0, 1) := by decide +kernel
theorem dX8_set_26 : decode cX8_set 26 = .ok (.aload_n 0, 1) := by decide +kernel
theorem dX8_set_27 : decode cX8_set 27 = .ok (.getfield 13, 3) := by decide +kernel
theorem dX8_set_30 : decode cX8_set 30 = .ok (.iload_n 1, 1) := by decide +kernel
theorem dX8_set_31 : decode cX8_set 31 = .ok (.iaload, 1) := by decide +kernel
theorem dX8_set_32 : decode cX8_set 32 = .ok (.iconst 1, 1) := by decide +kernel
theorem dX8_set_33 : decode cX8_set 33 = .ok (.isub, 1) := by decide +kernel
theorem dX8_set_34 : decode cX8_set 34 = .ok (.invokestatic 68, 3) := by decide +kernel
theorem dX8_set_37 : decode cX8_set 37 = .ok (.ifCond .ne 9, 3) := by decide +kernel
theorem dX8_set_40 : decode cX8_set 40 = .ok (.aload_n 0, 1) := by decide +kernel
theorem dX8_set_41 : decode cX8_set 41 = .ok (.iconst 2, 1) := by decide +kernel
theorem dX8_set_42 : decode cX8_set 42 = .ok (.invokevirtual 77, 3) := by decide +kernel
theorem dX8_set_45 : decode cX8_set 45 = .ok (.ireturn, 1) := by decide +kernel
theorem dX8_set_46 : decode cX8_set 46 = .ok (.aload_n 0, 1) := by decide +kernel
theorem dX8_set_47 : decode cX8_set 47 = .ok (.getfield 16, 3) := by decide +kernel
theorem dX8_set_50 : decode cX8_set 50 = .ok (.bipush 40, 2) := by decide +kernel
theorem dX8_set_52 : decode cX8_set 52 = .ok (.iload_n 1, 1) := by decide +kernel
theorem dX8_set_53 : decode cX8_set 53 = .ok (.imul, 1) := by decide +kernel
theorem dX8_set_54 : decode cX8_set 54 = .ok (.iload_n 2, 1) := by decide +kernel
theorem dX8_set_55 : decode cX8_set 55 = .ok (.iadd, 1) := by decide +kernel
theorem dX8_set_56 : decode cX8_set 56 = .ok (.aload_n 0, 1) := by decide +kernel
theorem dX8_set_57 : decode cX8_set 57 = .ok (.getfield 7, 3) := by decide +kernel
theorem dX8_set_60 : decode cX8_set 60 = .ok (.iload_n 1, 1) := by decide +kernel
theorem dX8_set_61 : decode cX8_set 61 = .ok (.iaload, 1) := by decide +kernel
theorem dX8_set_62 : decode cX8_set 62 = .ok (.iload_n 3, 1) := by decide +kernel
theorem dX8_set_63 : decode cX8_set 63 = .ok (.invokestatic 87, 3) := by decide +kernel
theorem dX8_set_66 : decode cX8_set 66 = .ok (.iastore, 1) := by decide +kernel
theorem dX8_set_67 : decode cX8_set 67 = .ok (.aload_n 0, 1) := by decide +kernel
theorem dX8_set_68 : decode cX8_set 68 = .ok (.aload_n 0, 1) := by decide +kernel
theorem dX8_set_69 : decode cX8_set 69 = .ok (.getfield 16, 3) := by decide +kernel
theorem dX8_set_72 : decode cX8_set 72 = .ok (.bipush 40, 2) := by decide +kernel
theorem dX8_set_74 : decode cX8_set 74 = .ok (.iload_n 1, 1) := by decide +kernel
theorem dX8_set_75 : decode cX8_set 75 = .ok (.imul, 1) := by decide +kernel
theorem dX8_set_76 : decode cX8_set 76 = .ok (.iload_n 2, 1) := by decide +kernel
theorem dX8_set_77 : decode cX8_set 77 = .ok (.iadd, 1) := by decide +kernel
theorem dX8_set_78 : decode cX8_set 78 = .ok (.iaload, 1) := by decide +kernel
theorem dX8_set_79 : decode cX8_set 79 = .ok (.invokevirtual 81, 3) := by decide +kernel
theorem dX8_set_82 : decode cX8_set 82 = .ok (.ireturn, 1) := by decide +kernel
theorem dX8_isPart_0 : decode cX8_isPart 0 = .ok (.iload_n 2, 1) := by decide +kernel
theorem dX8_isPart_1 : decode cX8_isPart 1 = .ok (.ifCond .lt 33, 3) := by decide +kernel
theorem dX8_isPart_4 : decode cX8_isPart 4 = .ok (.iload_n 3, 1) := by decide +kernel
theorem dX8_isPart_5 : decode cX8_isPart 5 = .ok (.ifCond .lt 29, 3) := by decide +kernel
theorem dX8_isPart_8 : decode cX8_isPart 8 = .ok (.iload_n 2, 1) := by decide +kernel
theorem dX8_isPart_9 : decode cX8_isPart 9 = .ok (.aload_n 0, 1) := by decide +kernel
theorem dX8_isPart_10 : decode cX8_isPart 10 = .ok (.getfield 13, 3) := by decide +kernel
theorem dX8_isPart_13 : decode cX8_isPart 13 = .ok (.iload_n 1, 1) := by decide +kernel
theorem dX8_isPart_14 : decode cX8_isPart 14 = .ok (.iaload, 1) := by decide +kernel
theorem dX8_isPart_15 : decode cX8_isPart 15 = .ok (.if_icmp .gt 19, 3) := by decide +kernel
theorem dX8_isPart_18 : decode cX8_isPart 18 = .ok (.iload_n 3, 1) := by decide +kernel
theorem dX8_isPart_19 : decode cX8_isPart 19 = .ok (.aload_n 0, 1) := by decide +kernel
theorem dX8_isPart_20 : decode cX8_isPart 20 = .ok (.getfield 13, 3) := by decide +kernel
theorem dX8_isPart_23 : decode cX8_isPart 23 = .ok (.iload_n 1, 1) := by decide +kernel
theorem dX8_isPart_24 : decode cX8_isPart 24 = .ok (.iaload, 1) := by decide +kernel
theorem dX8_isPart_25 : decode cX8_isPart 25 = .ok (.iload_n 2, 1) := by decide +kernel
theorem dX8_isPart_26 : decode cX8_isPart 26 = .ok (.isub, 1) := by decide +kernel
theorem dX8_isPart_27 : decode cX8_isPart 27 = .ok (.if_icmp .gt 7, 3) := by decide +kernel
theorem dX8_isPart_30 : decode cX8_isPart 30 = .ok (.iconst 1, 1) := by decide +kernel
theorem dX8_isPart_31 : decode cX8_isPart 31 = .ok (.goto 4, 3) := by decide +kernel
theorem dX8_isPart_34 : decode cX8_isPart 34 = .ok (.iconst 0, 1) := by decide +kernel
theorem dX8_isPart_35 : decode cX8_isPart 35 = .ok (.ireturn, 1) := by decide +kernel
theorem dX8_copy_0 : decode cX8_copy 0 = .ok (.iload_n 1, 1) := by decide +kernel
theorem dX8_copy_1 : decode cX8_copy 1 = .ok (.invokestatic 72, 3) := by decide +kernel
theorem dX8_copy_4 : decode cX8_copy 4 = .ok (.ifCond .eq 10, 3) := by decide +kernel
theorem dX8_copy_7 : decode cX8_copy 7 = .ok (.iload_n 3, 1) := by decide +kernel
theorem dX8_copy_8 : decode cX8_copy 8 = .ok (.invokestatic 72, 3) := by decide +kernel
theorem dX8_copy_11 : decode cX8_copy 11 = .ok (.ifCond .ne 6, 3) := by decide +kernel
theorem dX8_copy_14 : decode cX8_copy 14 = .ok (.ldc 76, 2) := by decide +kernel
theorem dX8_copy_16 : decode cX8_copy 16 = .ok (.ireturn, 1) := by decide +kernel
theorem dX8_copy_17 : decode cX8_copy 17 = .ok (.aload_n 0, 1) := by decide +kernel
theorem dX8_copy_18 : decode cX8_copy 18 = .ok (.iload_n 1, 1) := by decide +kernel
theorem dX8_copy_19 : decode cX8_copy 19 = .ok (.invokevirtual 84, 3) := by decide +kernel
theorem dX8_copy_22 : decode cX8_copy 22 = .ok (.ifCond .ne 11, 3) := by decide +kernel
theorem dX8_copy_25 : decode cX8_copy 25 = .ok (.aload_n 0, 1) := by decide +kernel
theorem dX8_copy_26 : decode cX8_copy 26 = .ok (.iload_n 3, 1) := by decide +kernel
theorem dX8_copy_27 : decode cX8_copy 27 = .ok (.invokevirtual 84, 3) := by decide +kernel
theorem dX8_copy_30 : decode cX8_copy 30 = .ok (.ifCond .eq 9, 3) := by decide +kernel
theorem dX8_copy_33 : decode cX8_copy 33 = .ok (.aload_n 0, 1) := by decide +kernel
theorem dX8_copy_34 : decode cX8_copy 34 = .ok (.iconst 1, 1) := by decide +kernel
theorem dX8_copy_35 : decode cX8_copy 35 = .ok (.invokevirtual 77, 3) := by decide +kernel
theorem dX8_copy_38 : decode cX8_copy 38 = .ok (.ireturn, 1) := by decide +kernel
theorem dX8_copy_39 : decode cX8_copy 39 = .ok (.aload_n 0, 1) := by decide +kernel
theorem dX8_copy_40 : decode cX8_copy 40 = .ok (.getfield 7, 3) := by decide +kernel
theorem dX8_copy_43 : decode cX8_copy 43 = .ok (.iload_n 1, 1) := by decide +kernel
theorem dX8_copy_44 : decode cX8_copy 44 = .ok (.iaload, 1) := by decide +kernel
theorem dX8_copy_45 : decode cX8_copy 45 = .ok (.aload_n 0, 1) := by decide +kernel
theorem dX8_copy_46 : decode cX8_copy 46 = .ok (.getfield 7, 3) := by decide +kernel
theorem dX8_copy_49 : decode cX8_copy 49 = .ok (.iload_n 3, 1) := by decide +kernel
theorem dX8_copy_50 : decode cX8_copy 50 = .ok (.iaload, 1) := by decide +kernel
theorem dX8_copy_51 : decode cX8_copy 51 = .ok (.if_icmp .eq 9, 3) := by decide +kernel
theorem dX8_copy_54 : decode cX8_copy 54 = .ok (.aload_n 0, 1) := by decide +kernel
theorem dX8_copy_55 : decode cX8_copy 55 = .ok (.iconst 5, 1) := by decide +kernel
theorem dX8_copy_56 : decode cX8_copy 56 = .ok (.invokevirtual 77, 3) := by decide +kernel
theorem dX8_copy_59 : decode cX8_copy 59 = .ok (.ireturn, 1) := by decide +kernel
theorem dX8_copy_60 : decode cX8_copy 60 = .ok (.aload_n 0, 1) := by decide +kernel
theorem dX8_copy_61 : decode cX8_copy 61 = .ok (.iload_n 1, 1) := by decide +kernel
theorem dX8_copy_62 : decode cX8_copy 62 = .ok (.iload_n 2, 1) := by decide +kernel
theorem dX8_copy_63 : decode cX8_copy 63 = .ok (.iload 5, 2) := by decide +kernel
theorem dX8_copy_65 : decode cX8_copy 65 = .ok (.invokevirtual 91, 3) := by decide +kernel
theorem dX8_copy_68 : decode cX8_copy 68 = .ok (.ifCond .eq 15, 3) := by decide +kernel
theorem dX8_copy_71 : decode cX8_copy 71 = .ok (.aload_n 0, 1) := by decide +kernel
theorem dX8_copy_72 : decode cX8_copy 72 = .ok (.iload_n 3, 1) := by decide +kernel
theorem dX8_copy_73 : decode cX8_copy 73 = .ok (.iload 4, 2) := by decide +kernel
theorem dX8_copy_75 : decode cX8_copy 75 = .ok (.iload 5, 2) := by decide +kernel
theorem dX8_copy_77 : decode cX8_copy 77 = .ok (.invokevirtual 91, 3) := by decide +kernel
theorem dX8_copy_80 : decode cX8_copy 80 = .ok (.ifCond .ne 9, 3) := by decide +kernel
theorem dX8_copy_83 : decode cX8_copy 83 = .ok (.aload_n 0, 1) := by decide +kernel
theorem dX8_copy_84 : decode cX8_copy 84 = .ok (.iconst 2, 1) := by decide +kernel
theorem dX8_copy_85 : decode cX8_copy 85 = .ok (.invokevirtual 77, 3) := by decide +kernel
theorem dX8_copy_88 : decode cX8_copy 88 = .ok (.ireturn, 1) := by decide +kernel
theorem dX8_copy_89 : decode cX8_copy 89 = .ok (.iconst 0, 1) := by decide +kernel
theorem dX8_copy_90 : decode cX8_copy 90 = .ok (.istore 6, 2) := by decide +kernel
theorem dX8_copy_92 : decode cX8_copy 92 = .ok (.iload 6, 2) := by decide +kernel
theorem dX8_copy_94 : decode cX8_copy 94 = .ok (.iload 5, 2) := by decide +kernel
theorem dX8_copy_96 : decode cX8_copy 96 = .ok (.if_icmp .ge 30, 3) := by decide +kernel
theorem dX8_copy_99 : decode cX8_copy 99 = .ok (.aload_n 0, 1) := by decide +kernel
theorem dX8_copy_100 : decode cX8_copy 100 = .ok (.getfield 19, 3) := by decide +kernel
theorem dX8_copy_103 : decode cX8_copy 103 = .ok (.iload 6, 2) := by decide +kernel
theorem dX8_copy_105 : decode cX8_copy 105 = .ok (.aload_n 0, 1) := by decide +kernel
theorem dX8_copy_106 : decode cX8_copy 106 = .ok (.getfield 16, 3) := by decide +kernel
theorem dX8_copy_109 : decode cX8_copy 109 = .ok (.bipush 40, 2) := by decide +kernel
theorem dX8_copy_111 : decode cX8_copy 111 = .ok (.iload_n 1, 1) := by decide +kernel
theorem dX8_copy_112 : decode cX8_copy 112 = .ok (.imul, 1) := by decide +kernel
theorem dX8_copy_113 : decode cX8_copy 113 = .ok (.iload_n 2, 1) := by decide +kernel
theorem dX8_copy_114 : decode cX8_copy 114 = .ok (.iadd, 1) := by decide +kernel
theorem dX8_copy_115 : decode cX8_copy 115 = .ok (.iload 6, 2) := by decide +kernel
theorem dX8_copy_117 : decode cX8_copy 117 = .ok (.iadd, 1) := by decide +kernel
theorem dX8_copy_118 : decode cX8_copy 118 = .ok (.iaload, 1) := by decide +kernel
theorem dX8_copy_119 : decode cX8_copy 119 = .ok (.iastore, 1) := by decide +kernel
theorem dX8_copy_120 : decode cX8_copy 120 = .ok (.iinc 6 1, 3) := by decide +kernel
theorem dX8_copy_123 : decode cX8_copy 123 = .ok (.goto (-31), 3) := by decide +kernel
theorem dX8_copy_126 : decode cX8_copy 126 = .ok (.iconst 0, 1) := by decide +kernel
theorem dX8_copy_127 : decode cX8_copy 127 = .ok (.istore 6, 2) := by decide +kernel
theorem dX8_copy_129 : decode cX8_copy 129 = .ok (.iload 6, 2) := by decide +kernel
theorem dX8_copy_131 : decode cX8_copy 131 = .ok (.iload 5, 2) := by decide +kernel
theorem dX8_copy_133 : decode cX8_copy 133 = .ok (.if_icmp .ge 31, 3) := by decide +kernel
theorem dX8_copy_136 : decode cX8_copy 136 = .ok (.aload_n 0, 1) := by decide +kernel
theorem dX8_copy_137 : decode cX8_copy 137 = .ok (.getfield 16, 3) := by decide +kernel
theorem dX8_copy_140 : decode cX8_copy 140 = .ok (.bipush 40, 2) := by decide +kernel
theorem dX8_copy_142 : decode cX8_copy 142 = .ok (.iload_n 3, 1) := by decide +kernel
theorem dX8_copy_143 : decode cX8_copy 143 = .ok (.imul, 1) := by decide +kernel
theorem dX8_copy_144 : decode cX8_copy 144 = .ok (.iload 4, 2) := by decide +kernel
theorem dX8_copy_146 : decode cX8_copy 146 = .ok (.iadd, 1) := by decide +kernel
theorem dX8_copy_147 : decode cX8_copy 147 = .ok (.iload 6, 2) := by decide +kernel
theorem dX8_copy_149 : decode cX8_copy 149 = .ok (.iadd, 1) := by decide +kernel
theorem dX8_copy_150 : decode cX8_copy 150 = .ok (.aload_n 0, 1) := by decide +kernel
theorem dX8_copy_151 : decode cX8_copy 151 = .ok (.getfield 19, 3) := by decide +kernel
theorem dX8_copy_154 : decode cX8_copy 154 = .ok (.iload 6, 2) := by decide +kernel
theorem dX8_copy_156 : decode cX8_copy 156 = .ok (.iaload, 1) := by decide +kernel
theorem dX8_copy_157 : decode cX8_copy 157 = .ok (.iastore, 1) := by decide +kernel
theorem dX8_copy_158 : decode cX8_copy 158 = .ok (.iinc 6 1, 3) := by decide +kernel
theorem dX8_copy_161 : decode cX8_copy 161 = .ok (.goto (-32), 3) := by decide +kernel
theorem dX8_copy_164 : decode cX8_copy 164 = .ok (.aload_n 0, 1) := by decide +kernel
theorem dX8_copy_165 : decode cX8_copy 165 = .ok (.iload 5, 2) := by decide +kernel
theorem dX8_copy_167 : decode cX8_copy 167 = .ok (.invokevirtual 81, 3) := by decide +kernel
theorem dX8_copy_170 : decode cX8_copy 170 = .ok (.ireturn, 1) := by decide +kernel
theorem dX8_drop_0 : decode cX8_drop 0 = .ok (.iload_n 1, 1) := by decide +kernel
theorem dX8_drop_1 : decode cX8_drop 1 = .ok (.invokestatic 72, 3) := by decide +kernel
theorem dX8_drop_4 : decode cX8_drop 4 = .ok (.ifCond .ne 6, 3) := by decide +kernel
theorem dX8_drop_7 : decode cX8_drop 7 = .ok (.ldc 76, 2) := by decide +kernel
theorem dX8_drop_9 : decode cX8_drop 9 = .ok (.ireturn, 1) := by decide +kernel
theorem dX8_drop_10 : decode cX8_drop 10 = .ok (.aload_n 0, 1) := by decide +kernel
theorem dX8_drop_11 : decode cX8_drop 11 = .ok (.iload_n 1, 1) := by decide +kernel
theorem dX8_drop_12 : decode cX8_drop 12 = .ok (.invokevirtual 84, 3) := by decide +kernel
theorem dX8_drop_15 : decode cX8_drop 15 = .ok (.ifCond .eq 9, 3) := by decide +kernel
theorem dX8_drop_18 : decode cX8_drop 18 = .ok (.aload_n 0, 1) := by decide +kernel
theorem dX8_drop_19 : decode cX8_drop 19 = .ok (.iconst 1, 1) := by decide +kernel
theorem dX8_drop_20 : decode cX8_drop 20 = .ok (.invokevirtual 77, 3) := by decide +kernel
theorem dX8_drop_23 : decode cX8_drop 23 = .ok (.ireturn, 1) := by decide +kernel
theorem dX8_drop_24 : decode cX8_drop 24 = .ok (.aload_n 0, 1) := by decide +kernel
theorem dX8_drop_25 : decode cX8_drop 25 = .ok (.getfield 7, 3) := by decide +kernel
theorem dX8_drop_28 : decode cX8_drop 28 = .ok (.iload_n 1, 1) := by decide +kernel
theorem dX8_drop_29 : decode cX8_drop 29 = .ok (.ldc 60, 2) := by decide +kernel
theorem dX8_drop_31 : decode cX8_drop 31 = .ok (.iastore, 1) := by decide +kernel
theorem dX8_drop_32 : decode cX8_drop 32 = .ok (.aload_n 0, 1) := by decide +kernel
theorem dX8_drop_33 : decode cX8_drop 33 = .ok (.aload_n 0, 1) := by decide +kernel
theorem dX8_drop_34 : decode cX8_drop 34 = .ok (.getfield 13, 3) := by decide +kernel
theorem dX8_drop_37 : decode cX8_drop 37 = .ok (.iload_n 1, 1) := by decide +kernel
theorem dX8_drop_38 : decode cX8_drop 38 = .ok (.iaload, 1) := by decide +kernel
theorem dX8_drop_39 : decode cX8_drop 39 = .ok (.invokevirtual 81, 3) := by decide +kernel
theorem dX8_drop_42 : decode cX8_drop 42 = .ok (.ireturn, 1) := by decide +kernel
theorem dX8_feed_0 : decode cX8_feed 0 = .ok (.iload_n 1, 1) := by decide +kernel
theorem dX8_feed_1 : decode cX8_feed 1 = .ok (.iconst 0, 1) := by decide +kernel
theorem dX8_feed_2 : decode cX8_feed 2 = .ok (.sipush 255, 3) := by decide +kernel
theorem dX8_feed_5 : decode cX8_feed 5 = .ok (.invokestatic 68, 3) := by decide +kernel
theorem dX8_feed_8 : decode cX8_feed 8 = .ok (.ifCond .ne 6, 3) := by decide +kernel
theorem dX8_feed_11 : decode cX8_feed 11 = .ok (.ldc 76, 2) := by decide +kernel
theorem dX8_feed_13 : decode cX8_feed 13 = .ok (.ireturn, 1) := by decide +kernel
theorem dX8_feed_14 : decode cX8_feed 14 = .ok (.aload_n 0, 1) := by decide +kernel
theorem dX8_feed_15 : decode cX8_feed 15 = .ok (.getfield 94, 3) := by decide +kernel
theorem dX8_feed_18 : decode cX8_feed 18 = .ok (.sipush 200, 3) := by decide +kernel
theorem dX8_feed_21 : decode cX8_feed 21 = .ok (.if_icmp .ne 6, 3) := by decide +kernel
theorem dX8_feed_24 : decode cX8_feed 24 = .ok (.ldc 97, 2) := by decide +kernel
theorem dX8_feed_26 : decode cX8_feed 26 = .ok (.ireturn, 1) := by decide +kernel
theorem dX8_feed_27 : decode cX8_feed 27 = .ok (.aload_n 0, 1) := by decide +kernel
theorem dX8_feed_28 : decode cX8_feed 28 = .ok (.getfield 22, 3) := by decide +kernel
theorem dX8_feed_31 : decode cX8_feed 31 = .ok (.aload_n 0, 1) := by decide +kernel
theorem dX8_feed_32 : decode cX8_feed 32 = .ok (.getfield 94, 3) := by decide +kernel
theorem dX8_feed_35 : decode cX8_feed 35 = .ok (.iload_n 1, 1) := by decide +kernel
theorem dX8_feed_36 : decode cX8_feed 36 = .ok (.iastore, 1) := by decide +kernel
theorem dX8_feed_37 : decode cX8_feed 37 = .ok (.aload_n 0, 1) := by decide +kernel
theorem dX8_feed_38 : decode cX8_feed 38 = .ok (.dup, 1) := by decide +kernel
theorem dX8_feed_39 : decode cX8_feed 39 = .ok (.getfield 94, 3) := by decide +kernel
theorem dX8_feed_42 : decode cX8_feed 42 = .ok (.iconst 1, 1) := by decide +kernel
theorem dX8_feed_43 : decode cX8_feed 43 = .ok (.iadd, 1) := by decide +kernel
theorem dX8_feed_44 : decode cX8_feed 44 = .ok (.putfield 94, 3) := by decide +kernel
theorem dX8_feed_47 : decode cX8_feed 47 = .ok (.aload_n 0, 1) := by decide +kernel
theorem dX8_feed_48 : decode cX8_feed 48 = .ok (.getfield 94, 3) := by decide +kernel
theorem dX8_feed_51 : decode cX8_feed 51 = .ok (.ireturn, 1) := by decide +kernel
theorem dX8_byteAt_0 : decode cX8_byteAt 0 = .ok (.iload_n 1, 1) := by decide +kernel
theorem dX8_byteAt_1 : decode cX8_byteAt 1 = .ok (.aload_n 0, 1) := by decide +kernel
theorem dX8_byteAt_2 : decode cX8_byteAt 2 = .ok (.getfield 94, 3) := by decide +kernel
theorem dX8_byteAt_5 : decode cX8_byteAt 5 = .ok (.if_icmp .ge 12, 3) := by decide +kernel
theorem dX8_byteAt_8 : decode cX8_byteAt 8 = .ok (.aload_n 0, 1) := by decide +kernel
theorem dX8_byteAt_9 : decode cX8_byteAt 9 = .ok (.getfield 22, 3) := by decide +kernel
theorem dX8_byteAt_12 : decode cX8_byteAt 12 = .ok (.iload_n 1, 1) := by decide +kernel
theorem dX8_byteAt_13 : decode cX8_byteAt 13 = .ok (.iaload, 1) := by decide +kernel
theorem dX8_byteAt_14 : decode cX8_byteAt 14 = .ok (.goto 4, 3) := by decide +kernel
theorem dX8_byteAt_17 : decode cX8_byteAt 17 = .ok (.iconst (-1), 1) := by decide +kernel
theorem dX8_byteAt_18 : decode cX8_byteAt 18 = .ok (.ireturn, 1) := by decide +kernel
theorem dX8_advances_0 : decode cX8_advances 0 = .ok (.aload_n 0, 1) := by decide +kernel
theorem dX8_advances_1 : decode cX8_advances 1 = .ok (.aload_n 0, 1) := by decide +kernel
theorem dX8_advances_2 : decode cX8_advances 2 = .ok (.getfield 98, 3) := by decide +kernel
theorem dX8_advances_5 : decode cX8_advances 5 = .ok (.putfield 101, 3) := by decide +kernel
theorem dX8_advances_8 : decode cX8_advances 8 = .ok (.aload_n 0, 1) := by decide +kernel
theorem dX8_advances_9 : decode cX8_advances 9 = .ok (.aload_n 0, 1) := by decide +kernel
theorem dX8_advances_10 : decode cX8_advances 10 = .ok (.getfield 98, 3) := by decide +kernel
theorem dX8_advances_13 : decode cX8_advances 13 = .ok (.invokevirtual 104, 3) := by decide +kernel
theorem dX8_advances_16 : decode cX8_advances 16 = .ok (.istore_n 1, 1) := by decide +kernel
theorem dX8_advances_17 : decode cX8_advances 17 = .ok (.aload_n 0, 1) := by decide +kernel
theorem dX8_advances_18 : decode cX8_advances 18 = .ok (.iload_n 1, 1) := by decide +kernel
theorem dX8_advances_19 : decode cX8_advances 19 = .ok (.putfield 107, 3) := by decide +kernel
theorem dX8_advances_22 : decode cX8_advances 22 = .ok (.iload_n 1, 1) := by decide +kernel
theorem dX8_advances_23 : decode cX8_advances 23 = .ok (.bipush 48, 2) := by decide +kernel
theorem dX8_advances_25 : decode cX8_advances 25 = .ok (.bipush 57, 2) := by decide +kernel
theorem dX8_advances_27 : decode cX8_advances 27 = .ok (.invokestatic 68, 3) := by decide +kernel
theorem dX8_advances_30 : decode cX8_advances 30 = .ok (.ifCond .eq 105, 3) := by decide +kernel
theorem dX8_advances_33 : decode cX8_advances 33 = .ok (.aload_n 0, 1) := by decide +kernel
theorem dX8_advances_34 : decode cX8_advances 34 = .ok (.iconst 0, 1) := by decide +kernel
theorem dX8_advances_35 : decode cX8_advances 35 = .ok (.putfield 107, 3) := by decide +kernel
theorem dX8_advances_38 : decode cX8_advances 38 = .ok (.aload_n 0, 1) := by decide +kernel
theorem dX8_advances_39 : decode cX8_advances 39 = .ok (.aload_n 0, 1) := by decide +kernel
theorem dX8_advances_40 : decode cX8_advances 40 = .ok (.getfield 98, 3) := by decide +kernel
theorem dX8_advances_43 : decode cX8_advances 43 = .ok (.invokevirtual 104, 3) := by decide +kernel
theorem dX8_advances_46 : decode cX8_advances 46 = .ok (.bipush 48, 2) := by decide +kernel
theorem dX8_advances_48 : decode cX8_advances 48 = .ok (.bipush 57, 2) := by decide +kernel
theorem dX8_advances_50 : decode cX8_advances 50 = .ok (.invokestatic 68, 3) := by decide +kernel
theorem dX8_advances_53 : decode cX8_advances 53 = .ok (.ifCond .eq 59, 3) := by decide +kernel
theorem dX8_advances_56 : decode cX8_advances 56 = .ok (.aload_n 0, 1) := by decide +kernel
theorem dX8_advances_57 : decode cX8_advances 57 = .ok (.aload_n 0, 1) := by decide +kernel
theorem dX8_advances_58 : decode cX8_advances 58 = .ok (.getfield 98, 3) := by decide +kernel
theorem dX8_advances_61 : decode cX8_advances 61 = .ok (.aload_n 0, 1) := by decide +kernel
theorem dX8_advances_62 : decode cX8_advances 62 = .ok (.getfield 101, 3) := by decide +kernel
theorem dX8_advances_65 : decode cX8_advances 65 = .ok (.isub, 1) := by decide +kernel
theorem dX8_advances_66 : decode cX8_advances 66 = .ok (.iconst 2, 1) := by decide +kernel
theorem dX8_advances_67 : decode cX8_advances 67 = .ok (.if_icmp .ge 25, 3) := by decide +kernel
theorem dX8_advances_70 : decode cX8_advances 70 = .ok (.bipush 10, 2) := by decide +kernel
theorem dX8_advances_72 : decode cX8_advances 72 = .ok (.aload_n 0, 1) := by decide +kernel
theorem dX8_advances_73 : decode cX8_advances 73 = .ok (.getfield 107, 3) := by decide +kernel
theorem dX8_advances_76 : decode cX8_advances 76 = .ok (.imul, 1) := by decide +kernel
theorem dX8_advances_77 : decode cX8_advances 77 = .ok (.aload_n 0, 1) := by decide +kernel
theorem dX8_advances_78 : decode cX8_advances 78 = .ok (.aload_n 0, 1) := by decide +kernel
theorem dX8_advances_79 : decode cX8_advances 79 = .ok (.getfield 98, 3) := by decide +kernel
theorem dX8_advances_82 : decode cX8_advances 82 = .ok (.invokevirtual 104, 3) := by decide +kernel
theorem dX8_advances_85 : decode cX8_advances 85 = .ok (.iadd, 1) := by decide +kernel
theorem dX8_advances_86 : decode cX8_advances 86 = .ok (.bipush 48, 2) := by decide +kernel
theorem dX8_advances_88 : decode cX8_advances 88 = .ok (.isub, 1) := by decide +kernel
theorem dX8_advances_89 : decode cX8_advances 89 = .ok (.goto 7, 3) := by decide +kernel
theorem dX8_advances_92 : decode cX8_advances 92 = .ok (.aload_n 0, 1) := by decide +kernel
theorem dX8_advances_93 : decode cX8_advances 93 = .ok (.getfield 107, 3) := by decide +kernel
theorem dX8_advances_96 : decode cX8_advances 96 = .ok (.putfield 107, 3) := by decide +kernel
theorem dX8_advances_99 : decode cX8_advances 99 = .ok (.aload_n 0, 1) := by decide +kernel
theorem dX8_advances_100 : decode cX8_advances 100 = .ok (.dup, 1) := by decide +kernel
theorem dX8_advances_101 : decode cX8_advances 101 = .ok (.getfield 98, 3) := by decide +kernel
theorem dX8_advances_104 : decode cX8_advances 104 = .ok (.iconst 1, 1) := by decide +kernel
theorem dX8_advances_105 : decode cX8_advances 105 = .ok (.iadd, 1) := by decide +kernel
theorem dX8_advances_106 : decode cX8_advances 106 = .ok (.putfield 98, 3) := by decide +kernel
theorem dX8_advances_109 : decode cX8_advances 109 = .ok (.goto (-71), 3) := by decide +kernel
theorem dX8_advances_112 : decode cX8_advances 112 = .ok (.aload_n 0, 1) := by decide +kernel
theorem dX8_advances_113 : decode cX8_advances 113 = .ok (.aload_n 0, 1) := by decide +kernel
theorem dX8_advances_114 : decode cX8_advances 114 = .ok (.getfield 98, 3) := by decide +kernel
theorem dX8_advances_117 : decode cX8_advances 117 = .ok (.aload_n 0, 1) := by decide +kernel
theorem dX8_advances_118 : decode cX8_advances 118 = .ok (.getfield 101, 3) := by decide +kernel
theorem dX8_advances_121 : decode cX8_advances 121 = .ok (.isub, 1) := by decide +kernel
theorem dX8_advances_122 : decode cX8_advances 122 = .ok (.iconst 3, 1) := by decide +kernel
theorem dX8_advances_123 : decode cX8_advances 123 = .ok (.if_icmp .ge 7, 3) := by decide +kernel
theorem dX8_advances_126 : decode cX8_advances 126 = .ok (.iconst 2, 1) := by decide +kernel
theorem dX8_advances_127 : decode cX8_advances 127 = .ok (.goto 4, 3) := by decide +kernel
theorem dX8_advances_130 : decode cX8_advances 130 = .ok (.iconst 5, 1) := by decide +kernel
theorem dX8_advances_131 : decode cX8_advances 131 = .ok (.putfield 110, 3) := by decide +kernel
theorem dX8_advances_134 : decode cX8_advances 134 = .ok (.return_, 1) := by decide +kernel
theorem dX8_advances_135 : decode cX8_advances 135 = .ok (.aload_n 0, 1) := by decide +kernel
theorem dX8_advances_136 : decode cX8_advances 136 = .ok (.iload_n 1, 1) := by decide +kernel
theorem dX8_advances_137 : decode cX8_advances 137 = .ok (.ifCond .ge 7, 3) := by decide +kernel
theorem dX8_advances_140 : decode cX8_advances 140 = .ok (.iconst 0, 1) := by decide +kernel
theorem dX8_advances_141 : decode cX8_advances 141 = .ok (.goto 39, 3) := by decide +kernel
theorem dX8_advances_144 : decode cX8_advances 144 = .ok (.iload_n 1, 1) := by decide +kernel
theorem dX8_advances_145 : decode cX8_advances 145 = .ok (.bipush 97, 2) := by decide +kernel
theorem dX8_advances_147 : decode cX8_advances 147 = .ok (.bipush 122, 2) := by decide +kernel
theorem dX8_advances_149 : decode cX8_advances 149 = .ok (.invokestatic 68, 3) := by decide +kernel
theorem dX8_advances_152 : decode cX8_advances 152 = .ok (.ifCond .eq 7, 3) := by decide +kernel
theorem dX8_advances_155 : decode cX8_advances 155 = .ok (.iconst 1, 1) := by decide +kernel
theorem dX8_advances_156 : decode cX8_advances 156 = .ok (.goto 24, 3) := by decide +kernel
theorem dX8_advances_159 : decode cX8_advances 159 = .ok (.iload_n 1, 1) := by decide +kernel
theorem dX8_advances_160 : decode cX8_advances 160 = .ok (.bipush 44, 2) := by decide +kernel
theorem dX8_advances_162 : decode cX8_advances 162 = .ok (.if_icmp .ne 7, 3) := by decide +kernel
theorem dX8_advances_165 : decode cX8_advances 165 = .ok (.iconst 3, 1) := by decide +kernel
theorem dX8_advances_166 : decode cX8_advances 166 = .ok (.goto 14, 3) := by decide +kernel
theorem dX8_advances_169 : decode cX8_advances 169 = .ok (.iload_n 1, 1) := by decide +kernel
theorem dX8_advances_170 : decode cX8_advances 170 = .ok (.bipush 59, 2) := by decide +kernel
theorem dX8_advances_172 : decode cX8_advances 172 = .ok (.if_icmp .ne 7, 3) := by decide +kernel
theorem dX8_advances_175 : decode cX8_advances 175 = .ok (.iconst 4, 1) := by decide +kernel
theorem dX8_advances_176 : decode cX8_advances 176 = .ok (.goto 4, 3) := by decide +kernel
theorem dX8_advances_179 : decode cX8_advances 179 = .ok (.iconst 5, 1) := by decide +kernel
theorem dX8_advances_180 : decode cX8_advances 180 = .ok (.putfield 110, 3) := by decide +kernel
theorem dX8_advances_183 : decode cX8_advances 183 = .ok (.aload_n 0, 1) := by decide +kernel
theorem dX8_advances_184 : decode cX8_advances 184 = .ok (.dup, 1) := by decide +kernel
theorem dX8_advances_185 : decode cX8_advances 185 = .ok (.getfield 98, 3) := by decide +kernel
theorem dX8_advances_188 : decode cX8_advances 188 = .ok (.aload_n 0, 1) := by decide +kernel
theorem dX8_advances_189 : decode cX8_advances 189 = .ok (.getfield 110, 3) := by decide +kernel
theorem dX8_advances_192 : decode cX8_advances 192 = .ok (.ifCond .ne 7, 3) := by decide +kernel
theorem dX8_advances_195 : decode cX8_advances 195 = .ok (.iconst 0, 1) := by decide +kernel
theorem dX8_advances_196 : decode cX8_advances 196 = .ok (.goto 4, 3) := by decide +kernel
theorem dX8_advances_199 : decode cX8_advances 199 = .ok (.iconst 1, 1) := by decide +kernel
theorem dX8_advances_200 : decode cX8_advances 200 = .ok (.iadd, 1) := by decide +kernel
theorem dX8_advances_201 : decode cX8_advances 201 = .ok (.putfield 98, 3) := by decide +kernel
theorem dX8_advances_204 : decode cX8_advances 204 = .ok (.return_, 1) := by decide +kernel
theorem dX8_isWell_0 : decode cX8_isWell 0 = .ok (.aload_n 0, 1) := by decide +kernel
theorem dX8_isWell_1 : decode cX8_isWell 1 = .ok (.getfield 113, 3) := by decide +kernel
theorem dX8_isWell_4 : decode cX8_isWell 4 = .ok (.ifCond .ge 7, 3) := by decide +kernel
theorem dX8_isWell_7 : decode cX8_isWell 7 = .ok (.iconst 1, 1) := by decide +kernel
theorem dX8_isWell_8 : decode cX8_isWell 8 = .ok (.goto 4, 3) := by decide +kernel
theorem dX8_isWell_11 : decode cX8_isWell 11 = .ok (.iconst 0, 1) := by decide +kernel
theorem dX8_isWell_12 : decode cX8_isWell 12 = .ok (.ireturn, 1) := by decide +kernel
theorem dX8_takes_0 : decode cX8_takes 0 = .ok (.aload_n 0, 1) := by decide +kernel
theorem dX8_takes_1 : decode cX8_takes 1 = .ok (.invokevirtual 116, 3) := by decide +kernel
theorem dX8_takes_4 : decode cX8_takes 4 = .ok (.ifCond .ne 5, 3) := by decide +kernel
theorem dX8_takes_7 : decode cX8_takes 7 = .ok (.iconst 0, 1) := by decide +kernel
theorem dX8_takes_8 : decode cX8_takes 8 = .ok (.ireturn, 1) := by decide +kernel
theorem dX8_takes_9 : decode cX8_takes 9 = .ok (.iload_n 1, 1) := by decide +kernel
theorem dX8_takes_10 : decode cX8_takes 10 = .ok (.ifCond .ne 18, 3) := by decide +kernel
theorem dX8_takes_13 : decode cX8_takes 13 = .ok (.aload_n 0, 1) := by decide +kernel
theorem dX8_takes_14 : decode cX8_takes 14 = .ok (.aload_n 0, 1) := by decide +kernel
theorem dX8_takes_15 : decode cX8_takes 15 = .ok (.getfield 101, 3) := by decide +kernel
theorem dX8_takes_18 : decode cX8_takes 18 = .ok (.putfield 113, 3) := by decide +kernel
theorem dX8_takes_21 : decode cX8_takes 21 = .ok (.aload_n 0, 1) := by decide +kernel
theorem dX8_takes_22 : decode cX8_takes 22 = .ok (.iload_n 2, 1) := by decide +kernel
theorem dX8_takes_23 : decode cX8_takes 23 = .ok (.putfield 120, 3) := by decide +kernel
theorem dX8_takes_26 : decode cX8_takes 26 = .ok (.iconst 0, 1) := by decide +kernel
theorem dX8_takes_27 : decode cX8_takes 27 = .ok (.ireturn, 1) := by decide +kernel
theorem dX8_takes_28 : decode cX8_takes 28 = .ok (.aload_n 0, 1) := by decide +kernel
theorem dX8_takes_29 : decode cX8_takes 29 = .ok (.getfield 107, 3) := by decide +kernel
theorem dX8_takes_32 : decode cX8_takes 32 = .ok (.istore_n 3, 1) := by decide +kernel
theorem dX8_takes_33 : decode cX8_takes 33 = .ok (.aload_n 0, 1) := by decide +kernel
theorem dX8_takes_34 : decode cX8_takes 34 = .ok (.invokevirtual 123, 3) := by decide +kernel
theorem dX8_takes_37 : decode cX8_takes 37 = .ok (.iload_n 3, 1) := by decide +kernel
theorem dX8_takes_38 : decode cX8_takes 38 = .ok (.ireturn, 1) := by decide +kernel
theorem dX8_figure_0 : decode cX8_figure 0 = .ok (.aload_n 0, 1) := by decide +kernel
theorem dX8_figure_1 : decode cX8_figure 1 = .ok (.invokevirtual 116, 3) := by decide +kernel
theorem dX8_figure_4 : decode cX8_figure 4 = .ok (.ifCond .eq 18, 3) := by decide +kernel
theorem dX8_figure_7 : decode cX8_figure 7 = .ok (.aload_n 0, 1) := by decide +kernel
theorem dX8_figure_8 : decode cX8_figure 8 = .ok (.getfield 110, 3) := by decide +kernel
theorem dX8_figure_11 : decode cX8_figure 11 = .ok (.iconst 2, 1) := by decide +kernel
theorem dX8_figure_12 : decode cX8_figure 12 = .ok (.if_icmp .eq 10, 3) := by decide +kernel
theorem dX8_figure_15 : decode cX8_figure 15 = .ok (.aload_n 0, 1) := by decide +kernel
theorem dX8_figure_16 : decode cX8_figure 16 = .ok (.iconst 0, 1) := by decide +kernel
theorem dX8_figure_17 : decode cX8_figure 17 = .ok (.iconst 1, 1) := by decide +kernel
theorem dX8_figure_18 : decode cX8_figure 18 = .ok (.invokevirtual 126, 3) := by decide +kernel
theorem dX8_figure_21 : decode cX8_figure 21 = .ok (.ireturn, 1) := by decide +kernel
theorem dX8_figure_22 : decode cX8_figure 22 = .ok (.aload_n 0, 1) := by decide +kernel
theorem dX8_figure_23 : decode cX8_figure 23 = .ok (.aload_n 0, 1) := by decide +kernel
theorem dX8_figure_24 : decode cX8_figure 24 = .ok (.getfield 107, 3) := by decide +kernel
theorem dX8_figure_27 : decode cX8_figure 27 = .ok (.iload_n 1, 1) := by decide +kernel
theorem dX8_figure_28 : decode cX8_figure 28 = .ok (.iload_n 2, 1) := by decide +kernel
theorem dX8_figure_29 : decode cX8_figure 29 = .ok (.invokestatic 68, 3) := by decide +kernel
theorem dX8_figure_32 : decode cX8_figure 32 = .ok (.iconst 2, 1) := by decide +kernel
theorem dX8_figure_33 : decode cX8_figure 33 = .ok (.invokevirtual 126, 3) := by decide +kernel
theorem dX8_figure_36 : decode cX8_figure 36 = .ok (.ireturn, 1) := by decide +kernel
theorem dX8_behind_0 : decode cX8_behind 0 = .ok (.aload_n 0, 1) := by decide +kernel
theorem dX8_behind_1 : decode cX8_behind 1 = .ok (.aload_n 0, 1) := by decide +kernel
theorem dX8_behind_2 : decode cX8_behind 2 = .ok (.getfield 110, 3) := by decide +kernel
theorem dX8_behind_5 : decode cX8_behind 5 = .ok (.iconst 3, 1) := by decide +kernel
theorem dX8_behind_6 : decode cX8_behind 6 = .ok (.if_icmp .ne 7, 3) := by decide +kernel
theorem dX8_behind_9 : decode cX8_behind 9 = .ok (.iconst 1, 1) := by decide +kernel
theorem dX8_behind_10 : decode cX8_behind 10 = .ok (.goto 4, 3) := by decide +kernel
theorem dX8_behind_13 : decode cX8_behind 13 = .ok (.iconst 0, 1) := by decide +kernel
theorem dX8_behind_14 : decode cX8_behind 14 = .ok (.iconst 1, 1) := by decide +kernel
theorem dX8_behind_15 : decode cX8_behind 15 = .ok (.invokevirtual 126, 3) := by decide +kernel
theorem dX8_behind_18 : decode cX8_behind 18 = .ok (.pop, 1) := by decide +kernel
theorem dX8_behind_19 : decode cX8_behind 19 = .ok (.aload_n 0, 1) := by decide +kernel
theorem dX8_behind_20 : decode cX8_behind 20 = .ok (.iload_n 1, 1) := by decide +kernel
theorem dX8_behind_21 : decode cX8_behind 21 = .ok (.iload_n 2, 1) := by decide +kernel
theorem dX8_behind_22 : decode cX8_behind 22 = .ok (.invokevirtual 130, 3) := by decide +kernel
theorem dX8_behind_25 : decode cX8_behind 25 = .ok (.ireturn, 1) := by decide +kernel
theorem dX8_must_0 : decode cX8_must 0 = .ok (.aload_n 0, 1) := by decide +kernel
theorem dX8_must_1 : decode cX8_must 1 = .ok (.invokevirtual 116, 3) := by decide +kernel
theorem dX8_must_4 : decode cX8_must 4 = .ok (.ifCond .eq 14, 3) := by decide +kernel
theorem dX8_must_7 : decode cX8_must 7 = .ok (.iload_n 1, 1) := by decide +kernel
theorem dX8_must_8 : decode cX8_must 8 = .ok (.ifCond .ne 10, 3) := by decide +kernel
theorem dX8_must_11 : decode cX8_must 11 = .ok (.aload_n 0, 1) := by decide +kernel
theorem dX8_must_12 : decode cX8_must 12 = .ok (.iconst 0, 1) := by decide +kernel
theorem dX8_must_13 : decode cX8_must 13 = .ok (.iconst 1, 1) := by decide +kernel
theorem dX8_must_14 : decode cX8_must 14 = .ok (.invokevirtual 126, 3) := by decide +kernel
theorem dX8_must_17 : decode cX8_must 17 = .ok (.pop, 1) := by decide +kernel
theorem dX8_must_18 : decode cX8_must 18 = .ok (.return_, 1) := by decide +kernel
theorem dX8_variable_0 : decode cX8_variable 0 = .ok (.aload_n 0, 1) := by decide +kernel
theorem dX8_variable_1 : decode cX8_variable 1 = .ok (.invokevirtual 116, 3) := by decide +kernel
theorem dX8_variable_4 : decode cX8_variable 4 = .ok (.ifCond .eq 42, 3) := by decide +kernel
theorem dX8_variable_7 : decode cX8_variable 7 = .ok (.aload_n 0, 1) := by decide +kernel
theorem dX8_variable_8 : decode cX8_variable 8 = .ok (.getfield 110, 3) := by decide +kernel
theorem dX8_variable_11 : decode cX8_variable 11 = .ok (.iconst 2, 1) := by decide +kernel
theorem dX8_variable_12 : decode cX8_variable 12 = .ok (.if_icmp .ne 34, 3) := by decide +kernel
theorem dX8_variable_15 : decode cX8_variable 15 = .ok (.aload_n 0, 1) := by decide +kernel
theorem dX8_variable_16 : decode cX8_variable 16 = .ok (.getfield 107, 3) := by decide +kernel
theorem dX8_variable_19 : decode cX8_variable 19 = .ok (.iconst 0, 1) := by decide +kernel
theorem dX8_variable_20 : decode cX8_variable 20 = .ok (.bipush 7, 2) := by decide +kernel
theorem dX8_variable_22 : decode cX8_variable 22 = .ok (.invokestatic 68, 3) := by decide +kernel
theorem dX8_variable_25 : decode cX8_variable 25 = .ok (.ifCond .eq 21, 3) := by decide +kernel
theorem dX8_variable_28 : decode cX8_variable 28 = .ok (.iload_n 1, 1) := by decide +kernel
theorem dX8_variable_29 : decode cX8_variable 29 = .ok (.aload_n 0, 1) := by decide +kernel
theorem dX8_variable_30 : decode cX8_variable 30 = .ok (.getfield 107, 3) := by decide +kernel
theorem dX8_variable_33 : decode cX8_variable 33 = .ok (.invokestatic 133, 3) := by decide +kernel
theorem dX8_variable_36 : decode cX8_variable 36 = .ok (.ifCond .eq 10, 3) := by decide +kernel
theorem dX8_variable_39 : decode cX8_variable 39 = .ok (.aload_n 0, 1) := by decide +kernel
theorem dX8_variable_40 : decode cX8_variable 40 = .ok (.iconst 0, 1) := by decide +kernel
theorem dX8_variable_41 : decode cX8_variable 41 = .ok (.iconst 2, 1) := by decide +kernel
theorem dX8_variable_42 : decode cX8_variable 42 = .ok (.invokevirtual 126, 3) := by decide +kernel
theorem dX8_variable_45 : decode cX8_variable 45 = .ok (.ireturn, 1) := by decide +kernel
theorem dX8_variable_46 : decode cX8_variable 46 = .ok (.aload_n 0, 1) := by decide +kernel
theorem dX8_variable_47 : decode cX8_variable 47 = .ok (.iconst 0, 1) := by decide +kernel
theorem dX8_variable_48 : decode cX8_variable 48 = .ok (.bipush 7, 2) := by decide +kernel
theorem dX8_variable_50 : decode cX8_variable 50 = .ok (.invokevirtual 130, 3) := by decide +kernel
theorem dX8_variable_53 : decode cX8_variable 53 = .ok (.ireturn, 1) := by decide +kernel
theorem dX8_isTerm_0 : decode cX8_isTerm 0 = .ok (.aload_n 0, 1) := by decide +kernel
theorem dX8_isTerm_1 : decode cX8_isTerm 1 = .ok (.invokevirtual 116, 3) := by decide +kernel
theorem dX8_isTerm_4 : decode cX8_isTerm 4 = .ok (.ifCond .eq 33, 3) := by decide +kernel
theorem dX8_isTerm_7 : decode cX8_isTerm 7 = .ok (.aload_n 0, 1) := by decide +kernel
theorem dX8_isTerm_8 : decode cX8_isTerm 8 = .ok (.getfield 110, 3) := by decide +kernel
theorem dX8_isTerm_11 : decode cX8_isTerm 11 = .ok (.iconst 1, 1) := by decide +kernel
theorem dX8_isTerm_12 : decode cX8_isTerm 12 = .ok (.if_icmp .ne 25, 3) := by decide +kernel
theorem dX8_isTerm_15 : decode cX8_isTerm 15 = .ok (.aload_n 0, 1) := by decide +kernel
theorem dX8_isTerm_16 : decode cX8_isTerm 16 = .ok (.getfield 107, 3) := by decide +kernel
theorem dX8_isTerm_19 : decode cX8_isTerm 19 = .ok (.bipush 112, 2) := by decide +kernel
theorem dX8_isTerm_21 : decode cX8_isTerm 21 = .ok (.if_icmp .eq 12, 3) := by decide +kernel
theorem dX8_isTerm_24 : decode cX8_isTerm 24 = .ok (.aload_n 0, 1) := by decide +kernel
theorem dX8_isTerm_25 : decode cX8_isTerm 25 = .ok (.getfield 107, 3) := by decide +kernel
theorem dX8_isTerm_28 : decode cX8_isTerm 28 = .ok (.bipush 110, 2) := by decide +kernel
theorem dX8_isTerm_30 : decode cX8_isTerm 30 = .ok (.if_icmp .ne 7, 3) := by decide +kernel
theorem dX8_isTerm_33 : decode cX8_isTerm 33 = .ok (.iconst 1, 1) := by decide +kernel
theorem dX8_isTerm_34 : decode cX8_isTerm 34 = .ok (.goto 4, 3) := by decide +kernel
theorem dX8_isTerm_37 : decode cX8_isTerm 37 = .ok (.iconst 0, 1) := by decide +kernel
theorem dX8_isTerm_38 : decode cX8_isTerm 38 = .ok (.ireturn, 1) := by decide +kernel
theorem dX8_readsClause_0 : decode cX8_readsClause 0 = .ok (.iconst 0, 1) := by decide +kernel
theorem dX8_readsClause_1 : decode cX8_readsClause 1 = .ok (.istore_n 1, 1) := by decide +kernel
theorem dX8_readsClause_2 : decode cX8_readsClause 2 = .ok (.iconst 0, 1) := by decide +kernel
theorem dX8_readsClause_3 : decode cX8_readsClause 3 = .ok (.istore_n 2, 1) := by decide +kernel
theorem dX8_readsClause_4 : decode cX8_readsClause 4 = .ok (.iload_n 2, 1) := by decide +kernel
theorem dX8_readsClause_5 : decode cX8_readsClause 5 = .ok (.bipush 10, 2) := by decide +kernel
theorem dX8_readsClause_7 : decode cX8_readsClause 7 = .ok (.if_icmp .ge 16, 3) := by decide +kernel
theorem dX8_readsClause_10 : decode cX8_readsClause 10 = .ok (.aload_n 0, 1) := by decide +kernel
theorem dX8_readsClause_11 : decode cX8_readsClause 11 = .ok (.getfield 42, 3) := by decide +kernel
theorem dX8_readsClause_14 : decode cX8_readsClause 14 = .ok (.iload_n 2, 1) := by decide +kernel
theorem dX8_readsClause_15 : decode cX8_readsClause 15 = .ok (.lconst 0, 1) := by decide +kernel
theorem dX8_readsClause_16 : decode cX8_readsClause 16 = .ok (.lastore, 1) := by decide +kernel
theorem dX8_readsClause_17 : decode cX8_readsClause 17 = .ok (.iinc 2 1, 3) := by decide +kernel
theorem dX8_readsClause_20 : decode cX8_readsClause 20 = .ok (.goto (-16), 3) := by decide +kernel
theorem dX8_readsClause_23 : decode cX8_readsClause 23 = .ok (.aload_n 0, 1) := by decide +kernel
theorem dX8_readsClause_24 : decode cX8_readsClause 24 = .ok (.invokevirtual 137, 3) := by decide +kernel
theorem dX8_readsClause_27 : decode cX8_readsClause 27 = .ok (.ifCond .eq 92, 3) := by decide +kernel
theorem dX8_readsClause_30 : decode cX8_readsClause 30 = .ok (.aload_n 0, 1) := by decide +kernel
theorem dX8_readsClause_31 : decode cX8_readsClause 31 = .ok (.iconst 1, 1) := by decide +kernel
theorem dX8_readsClause_32 : decode cX8_readsClause 32 = .ok (.iconst 1, 1) := by decide +kernel
theorem dX8_readsClause_33 : decode cX8_readsClause 33 = .ok (.invokevirtual 126, 3) := by decide +kernel
theorem dX8_readsClause_36 : decode cX8_readsClause 36 = .ok (.bipush 112, 2) := by decide +kernel
theorem dX8_readsClause_38 : decode cX8_readsClause 38 = .ok (.if_icmp .ne 7, 3) := by decide +kernel
theorem dX8_readsClause_41 : decode cX8_readsClause 41 = .ok (.iconst 1, 1) := by decide +kernel
theorem dX8_readsClause_42 : decode cX8_readsClause 42 = .ok (.goto 4, 3) := by decide +kernel
theorem dX8_readsClause_45 : decode cX8_readsClause 45 = .ok (.iconst 0, 1) := by decide +kernel
theorem dX8_readsClause_46 : decode cX8_readsClause 46 = .ok (.istore_n 2, 1) := by decide +kernel
theorem dX8_readsClause_47 : decode cX8_readsClause 47 = .ok (.aload_n 0, 1) := by decide +kernel
theorem dX8_readsClause_48 : decode cX8_readsClause 48 = .ok (.iload_n 1, 1) := by decide +kernel
theorem dX8_readsClause_49 : decode cX8_readsClause 49 = .ok (.invokevirtual 140, 3) := by decide +kernel
theorem dX8_readsClause_52 : decode cX8_readsClause 52 = .ok (.istore_n 3, 1) := by decide +kernel
theorem dX8_readsClause_53 : decode cX8_readsClause 53 = .ok (.aload_n 0, 1) := by decide +kernel
theorem dX8_readsClause_54 : decode cX8_readsClause 54 = .ok (.iconst 1, 1) := by decide +kernel
theorem dX8_readsClause_55 : decode cX8_readsClause 55 = .ok (.bipush 99, 2) := by decide +kernel
theorem dX8_readsClause_57 : decode cX8_readsClause 57 = .ok (.invokevirtual 143, 3) := by decide +kernel
theorem dX8_readsClause_60 : decode cX8_readsClause 60 = .ok (.istore 4, 2) := by decide +kernel
theorem dX8_readsClause_62 : decode cX8_readsClause 62 = .ok (.aload_n 0, 1) := by decide +kernel
theorem dX8_readsClause_63 : decode cX8_readsClause 63 = .ok (.aload_n 0, 1) := by decide +kernel
theorem dX8_readsClause_64 : decode cX8_readsClause 64 = .ok (.getfield 110, 3) := by decide +kernel
theorem dX8_readsClause_67 : decode cX8_readsClause 67 = .ok (.iconst 4, 1) := by decide +kernel
theorem dX8_readsClause_68 : decode cX8_readsClause 68 = .ok (.if_icmp .ne 7, 3) := by decide +kernel
theorem dX8_readsClause_71 : decode cX8_readsClause 71 = .ok (.iconst 1, 1) := by decide +kernel
theorem dX8_readsClause_72 : decode cX8_readsClause 72 = .ok (.goto 4, 3) := by decide +kernel
theorem dX8_readsClause_75 : decode cX8_readsClause 75 = .ok (.iconst 0, 1) := by decide +kernel
theorem dX8_readsClause_76 : decode cX8_readsClause 76 = .ok (.iconst 1, 1) := by decide +kernel
theorem dX8_readsClause_77 : decode cX8_readsClause 77 = .ok (.invokevirtual 126, 3) := by decide +kernel
theorem dX8_readsClause_80 : decode cX8_readsClause 80 = .ok (.pop, 1) := by decide +kernel
theorem dX8_readsClause_81 : decode cX8_readsClause 81 = .ok (.aload_n 0, 1) := by decide +kernel
theorem dX8_readsClause_82 : decode cX8_readsClause 82 = .ok (.invokevirtual 116, 3) := by decide +kernel
theorem dX8_readsClause_85 : decode cX8_readsClause 85 = .ok (.ifCond .eq 31, 3) := by decide +kernel
theorem dX8_readsClause_88 : decode cX8_readsClause 88 = .ok (.iload_n 1, 1) := by decide +kernel
theorem dX8_readsClause_89 : decode cX8_readsClause 89 = .ok (.iconst 1, 1) := by decide +kernel
theorem dX8_readsClause_90 : decode cX8_readsClause 90 = .ok (.iload_n 3, 1) := by decide +kernel
theorem dX8_readsClause_91 : decode cX8_readsClause 91 = .ok (.ishl, 1) := by decide +kernel
theorem dX8_readsClause_92 : decode cX8_readsClause 92 = .ok (.ior, 1) := by decide +kernel
theorem dX8_readsClause_93 : decode cX8_readsClause 93 = .ok (.istore_n 1, 1) := by decide +kernel
theorem dX8_readsClause_94 : decode cX8_readsClause 94 = .ok (.aload_n 0, 1) := by decide +kernel
theorem dX8_readsClause_95 : decode cX8_readsClause 95 = .ok (.getfield 42, 3) := by decide +kernel
theorem dX8_readsClause_98 : decode cX8_readsClause 98 = .ok (.iconst 2, 1) := by decide +kernel
theorem dX8_readsClause_99 : decode cX8_readsClause 99 = .ok (.iload_n 3, 1) := by decide +kernel
theorem dX8_readsClause_100 : decode cX8_readsClause 100 = .ok (.iadd, 1) := by decide +kernel
theorem dX8_readsClause_101 : decode cX8_readsClause 101 = .ok (.iload_n 2, 1) := by decide +kernel
theorem dX8_readsClause_102 : decode cX8_readsClause 102 = .ok (.ifCond .eq 9, 3) := by decide +kernel
theorem dX8_readsClause_105 : decode cX8_readsClause 105 = .ok (.iload 4, 2) := by decide +kernel
theorem dX8_readsClause_107 : decode cX8_readsClause 107 = .ok (.i2l, 1) := by decide +kernel
theorem dX8_readsClause_108 : decode cX8_readsClause 108 = .ok (.goto 7, 3) := by decide +kernel
theorem dX8_readsClause_111 : decode cX8_readsClause 111 = .ok (.iload 4, 2) := by decide +kernel
theorem dX8_readsClause_113 : decode cX8_readsClause 113 = .ok (.ineg, 1) := by decide +kernel
theorem dX8_readsClause_114 : decode cX8_readsClause 114 = .ok (.i2l, 1) := by decide +kernel
theorem dX8_readsClause_115 : decode cX8_readsClause 115 = .ok (.lastore, 1) := by decide +kernel
theorem dX8_readsClause_116 : decode cX8_readsClause 116 = .ok (.goto (-93), 3) := by decide +kernel
theorem dX8_readsClause_119 : decode cX8_readsClause 119 = .ok (.aload_n 0, 1) := by decide +kernel
theorem dX8_readsClause_120 : decode cX8_readsClause 120 = .ok (.aload_n 0, 1) := by decide +kernel
theorem dX8_readsClause_121 : decode cX8_readsClause 121 = .ok (.getfield 110, 3) := by decide +kernel
theorem dX8_readsClause_124 : decode cX8_readsClause 124 = .ok (.iconst 1, 1) := by decide +kernel
theorem dX8_readsClause_125 : decode cX8_readsClause 125 = .ok (.if_icmp .ne 16, 3) := by decide +kernel
theorem dX8_readsClause_128 : decode cX8_readsClause 128 = .ok (.aload_n 0, 1) := by decide +kernel
theorem dX8_readsClause_129 : decode cX8_readsClause 129 = .ok (.getfield 107, 3) := by decide +kernel
theorem dX8_readsClause_132 : decode cX8_readsClause 132 = .ok (.bipush 103, 2) := by decide +kernel
theorem dX8_readsClause_134 : decode cX8_readsClause 134 = .ok (.if_icmp .ne 7, 3) := by decide +kernel
theorem dX8_readsClause_137 : decode cX8_readsClause 137 = .ok (.iconst 1, 1) := by decide +kernel
theorem dX8_readsClause_138 : decode cX8_readsClause 138 = .ok (.goto 4, 3) := by decide +kernel
theorem dX8_readsClause_141 : decode cX8_readsClause 141 = .ok (.iconst 0, 1) := by decide +kernel
theorem dX8_readsClause_142 : decode cX8_readsClause 142 = .ok (.iconst 1, 1) := by decide +kernel
theorem dX8_readsClause_143 : decode cX8_readsClause 143 = .ok (.invokevirtual 126, 3) := by decide +kernel
theorem dX8_readsClause_146 : decode cX8_readsClause 146 = .ok (.pop, 1) := by decide +kernel
theorem dX8_readsClause_147 : decode cX8_readsClause 147 = .ok (.aload_n 0, 1) := by decide +kernel
theorem dX8_readsClause_148 : decode cX8_readsClause 148 = .ok (.getfield 42, 3) := by decide +kernel
theorem dX8_readsClause_151 : decode cX8_readsClause 151 = .ok (.iconst 1, 1) := by decide +kernel
theorem dX8_readsClause_152 : decode cX8_readsClause 152 = .ok (.aload_n 0, 1) := by decide +kernel
theorem dX8_readsClause_153 : decode cX8_readsClause 153 = .ok (.iconst 0, 1) := by decide +kernel
theorem dX8_readsClause_154 : decode cX8_readsClause 154 = .ok (.bipush 99, 2) := by decide +kernel
theorem dX8_readsClause_156 : decode cX8_readsClause 156 = .ok (.invokevirtual 130, 3) := by decide +kernel
theorem dX8_readsClause_159 : decode cX8_readsClause 159 = .ok (.i2l, 1) := by decide +kernel
theorem dX8_readsClause_160 : decode cX8_readsClause 160 = .ok (.lastore, 1) := by decide +kernel
theorem dX8_readsClause_161 : decode cX8_readsClause 161 = .ok (.aload_n 0, 1) := by decide +kernel
theorem dX8_readsClause_162 : decode cX8_readsClause 162 = .ok (.aload_n 0, 1) := by decide +kernel
theorem dX8_readsClause_163 : decode cX8_readsClause 163 = .ok (.getfield 110, 3) := by decide +kernel
theorem dX8_readsClause_166 : decode cX8_readsClause 166 = .ok (.iconst 4, 1) := by decide +kernel
theorem dX8_readsClause_167 : decode cX8_readsClause 167 = .ok (.if_icmp .ne 7, 3) := by decide +kernel
theorem dX8_readsClause_170 : decode cX8_readsClause 170 = .ok (.iconst 1, 1) := by decide +kernel
theorem dX8_readsClause_171 : decode cX8_readsClause 171 = .ok (.goto 4, 3) := by decide +kernel
theorem dX8_readsClause_174 : decode cX8_readsClause 174 = .ok (.iconst 0, 1) := by decide +kernel
theorem dX8_readsClause_175 : decode cX8_readsClause 175 = .ok (.iconst 1, 1) := by decide +kernel
theorem dX8_readsClause_176 : decode cX8_readsClause 176 = .ok (.invokevirtual 126, 3) := by decide +kernel
theorem dX8_readsClause_179 : decode cX8_readsClause 179 = .ok (.pop, 1) := by decide +kernel
theorem dX8_readsClause_180 : decode cX8_readsClause 180 = .ok (.return_, 1) := by decide +kernel
theorem dX8_begins_0 : decode cX8_begins 0 = .ok (.aload_n 0, 1) := by decide +kernel
theorem dX8_begins_1 : decode cX8_begins 1 = .ok (.iconst 0, 1) := by decide +kernel
theorem dX8_begins_2 : decode cX8_begins 2 = .ok (.putfield 98, 3) := by decide +kernel
theorem dX8_begins_5 : decode cX8_begins 5 = .ok (.aload_n 0, 1) := by decide +kernel
theorem dX8_begins_6 : decode cX8_begins 6 = .ok (.iconst (-1), 1) := by decide +kernel
theorem dX8_begins_7 : decode cX8_begins 7 = .ok (.putfield 113, 3) := by decide +kernel
theorem dX8_begins_10 : decode cX8_begins 10 = .ok (.aload_n 0, 1) := by decide +kernel
theorem dX8_begins_11 : decode cX8_begins 11 = .ok (.invokevirtual 123, 3) := by decide +kernel
theorem dX8_begins_14 : decode cX8_begins 14 = .ok (.return_, 1) := by decide +kernel
theorem dX8_formula_0 : decode cX8_formula 0 = .ok (.iconst 0, 1) := by decide +kernel
theorem dX8_formula_1 : decode cX8_formula 1 = .ok (.istore_n 1, 1) := by decide +kernel
theorem dX8_formula_2 : decode cX8_formula 2 = .ok (.iload_n 1, 1) := by decide +kernel
theorem dX8_formula_3 : decode cX8_formula 3 = .ok (.sipush 312, 3) := by decide +kernel
theorem dX8_formula_6 : decode cX8_formula 6 = .ok (.if_icmp .ge 16, 3) := by decide +kernel
theorem dX8_formula_9 : decode cX8_formula 9 = .ok (.aload_n 0, 1) := by decide +kernel
theorem dX8_formula_10 : decode cX8_formula 10 = .ok (.getfield 29, 3) := by decide +kernel
theorem dX8_formula_13 : decode cX8_formula 13 = .ok (.iload_n 1, 1) := by decide +kernel
theorem dX8_formula_14 : decode cX8_formula 14 = .ok (.lconst 0, 1) := by decide +kernel
theorem dX8_formula_15 : decode cX8_formula 15 = .ok (.lastore, 1) := by decide +kernel
theorem dX8_formula_16 : decode cX8_formula 16 = .ok (.iinc 1 1, 3) := by decide +kernel
theorem dX8_formula_19 : decode cX8_formula 19 = .ok (.goto (-17), 3) := by decide +kernel
theorem dX8_formula_22 : decode cX8_formula 22 = .ok (.aload_n 0, 1) := by decide +kernel
theorem dX8_formula_23 : decode cX8_formula 23 = .ok (.getfield 29, 3) := by decide +kernel
theorem dX8_formula_26 : decode cX8_formula 26 = .ok (.bipush 8, 2) := by decide +kernel
theorem dX8_formula_28 : decode cX8_formula 28 = .ok (.ldc2_w 61, 3) := by decide +kernel
theorem dX8_formula_31 : decode cX8_formula 31 = .ok (.lastore, 1) := by decide +kernel
theorem dX8_formula_32 : decode cX8_formula 32 = .ok (.aload_n 0, 1) := by decide +kernel
theorem dX8_formula_33 : decode cX8_formula 33 = .ok (.getfield 29, 3) := by decide +kernel
theorem dX8_formula_36 : decode cX8_formula 36 = .ok (.bipush 11, 2) := by decide +kernel
theorem dX8_formula_38 : decode cX8_formula 38 = .ok (.lconst 1, 1) := by decide +kernel
theorem dX8_formula_39 : decode cX8_formula 39 = .ok (.lastore, 1) := by decide +kernel
theorem dX8_formula_40 : decode cX8_formula 40 = .ok (.aload_n 0, 1) := by decide +kernel
theorem dX8_formula_41 : decode cX8_formula 41 = .ok (.invokevirtual 146, 3) := by decide +kernel
theorem dX8_formula_44 : decode cX8_formula 44 = .ok (.aload_n 0, 1) := by decide +kernel
theorem dX8_formula_45 : decode cX8_formula 45 = .ok (.getfield 29, 3) := by decide +kernel
theorem dX8_formula_48 : decode cX8_formula 48 = .ok (.bipush 9, 2) := by decide +kernel
theorem dX8_formula_50 : decode cX8_formula 50 = .ok (.laload, 1) := by decide +kernel
theorem dX8_formula_51 : decode cX8_formula 51 = .ok (.ldc2_w 149, 3) := by decide +kernel
theorem dX8_formula_54 : decode cX8_formula 54 = .ok (.lcmp, 1) := by decide +kernel
theorem dX8_formula_55 : decode cX8_formula 55 = .ok (.ifCond .ge 7, 3) := by decide +kernel
theorem dX8_formula_58 : decode cX8_formula 58 = .ok (.iconst 1, 1) := by decide +kernel
theorem dX8_formula_59 : decode cX8_formula 59 = .ok (.goto 4, 3) := by decide +kernel
theorem dX8_formula_62 : decode cX8_formula 62 = .ok (.iconst 0, 1) := by decide +kernel
theorem dX8_formula_63 : decode cX8_formula 63 = .ok (.istore_n 1, 1) := by decide +kernel
theorem dX8_formula_64 : decode cX8_formula 64 = .ok (.aload_n 0, 1) := by decide +kernel
theorem dX8_formula_65 : decode cX8_formula 65 = .ok (.invokevirtual 116, 3) := by decide +kernel
theorem dX8_formula_68 : decode cX8_formula 68 = .ok (.ifCond .eq 14, 3) := by decide +kernel
theorem dX8_formula_71 : decode cX8_formula 71 = .ok (.iload_n 1, 1) := by decide +kernel
theorem dX8_formula_72 : decode cX8_formula 72 = .ok (.ifCond .ne 10, 3) := by decide +kernel
theorem dX8_formula_75 : decode cX8_formula 75 = .ok (.aload_n 0, 1) := by decide +kernel
theorem dX8_formula_76 : decode cX8_formula 76 = .ok (.iconst 0, 1) := by decide +kernel
theorem dX8_formula_77 : decode cX8_formula 77 = .ok (.iconst 3, 1) := by decide +kernel
theorem dX8_formula_78 : decode cX8_formula 78 = .ok (.invokevirtual 126, 3) := by decide +kernel
theorem dX8_formula_81 : decode cX8_formula 81 = .ok (.pop, 1) := by decide +kernel
theorem dX8_formula_82 : decode cX8_formula 82 = .ok (.aload_n 0, 1) := by decide +kernel
theorem dX8_formula_83 : decode cX8_formula 83 = .ok (.invokevirtual 151, 3) := by decide +kernel
theorem dX8_formula_86 : decode cX8_formula 86 = .ok (.aload_n 0, 1) := by decide +kernel
theorem dX8_formula_87 : decode cX8_formula 87 = .ok (.invokevirtual 116, 3) := by decide +kernel
theorem dX8_formula_90 : decode cX8_formula 90 = .ok (.ifCond .eq 69, 3) := by decide +kernel
theorem dX8_formula_93 : decode cX8_formula 93 = .ok (.aload_n 0, 1) := by decide +kernel
theorem dX8_formula_94 : decode cX8_formula 94 = .ok (.getfield 42, 3) := by decide +kernel
theorem dX8_formula_97 : decode cX8_formula 97 = .ok (.iconst 0, 1) := by decide +kernel
theorem dX8_formula_98 : decode cX8_formula 98 = .ok (.lconst 1, 1) := by decide +kernel
theorem dX8_formula_99 : decode cX8_formula 99 = .ok (.lastore, 1) := by decide +kernel
theorem dX8_formula_100 : decode cX8_formula 100 = .ok (.aload_n 0, 1) := by decide +kernel
theorem dX8_formula_101 : decode cX8_formula 101 = .ok (.getfield 42, 3) := by decide +kernel
theorem dX8_formula_104 : decode cX8_formula 104 = .ok (.iconst 0, 1) := by decide +kernel
theorem dX8_formula_105 : decode cX8_formula 105 = .ok (.aload_n 0, 1) := by decide +kernel
theorem dX8_formula_106 : decode cX8_formula 106 = .ok (.getfield 29, 3) := by decide +kernel
theorem dX8_formula_109 : decode cX8_formula 109 = .ok (.bipush 12, 2) := by decide +kernel
theorem dX8_formula_111 : decode cX8_formula 111 = .ok (.bipush 10, 2) := by decide +kernel
theorem dX8_formula_113 : decode cX8_formula 113 = .ok (.aload_n 0, 1) := by decide +kernel
theorem dX8_formula_114 : decode cX8_formula 114 = .ok (.getfield 29, 3) := by decide +kernel
theorem dX8_formula_117 : decode cX8_formula 117 = .ok (.bipush 9, 2) := by decide +kernel
theorem dX8_formula_119 : decode cX8_formula 119 = .ok (.laload, 1) := by decide +kernel
theorem dX8_formula_120 : decode cX8_formula 120 = .ok (.l2i, 1) := by decide +kernel
theorem dX8_formula_121 : decode cX8_formula 121 = .ok (.imul, 1) := by decide +kernel
theorem dX8_formula_122 : decode cX8_formula 122 = .ok (.iadd, 1) := by decide +kernel
theorem dX8_formula_123 : decode cX8_formula 123 = .ok (.bipush 10, 2) := by decide +kernel
theorem dX8_formula_125 : decode cX8_formula 125 = .ok (.invokestatic 154, 3) := by decide +kernel
theorem dX8_formula_128 : decode cX8_formula 128 = .ok (.aload_n 0, 1) := by decide +kernel
theorem dX8_formula_129 : decode cX8_formula 129 = .ok (.getfield 29, 3) := by decide +kernel
theorem dX8_formula_132 : decode cX8_formula 132 = .ok (.bipush 10, 2) := by decide +kernel
theorem dX8_formula_134 : decode cX8_formula 134 = .ok (.dup2, 1) := by decide +kernel
theorem dX8_formula_135 : decode cX8_formula 135 = .ok (.laload, 1) := by decide +kernel
theorem dX8_formula_136 : decode cX8_formula 136 = .ok (.lconst 1, 1) := by decide +kernel
theorem dX8_formula_137 : decode cX8_formula 137 = .ok (.aload_n 0, 1) := by decide +kernel
theorem dX8_formula_138 : decode cX8_formula 138 = .ok (.getfield 29, 3) := by decide +kernel
theorem dX8_formula_141 : decode cX8_formula 141 = .ok (.bipush 9, 2) := by decide +kernel
theorem dX8_formula_143 : decode cX8_formula 143 = .ok (.laload, 1) := by decide +kernel
theorem dX8_formula_144 : decode cX8_formula 144 = .ok (.l2i, 1) := by decide +kernel
theorem dX8_formula_145 : decode cX8_formula 145 = .ok (.lshl, 1) := by decide +kernel
theorem dX8_formula_146 : decode cX8_formula 146 = .ok (.lor, 1) := by decide +kernel
theorem dX8_formula_147 : decode cX8_formula 147 = .ok (.lastore, 1) := by decide +kernel
theorem dX8_formula_148 : decode cX8_formula 148 = .ok (.aload_n 0, 1) := by decide +kernel
theorem dX8_formula_149 : decode cX8_formula 149 = .ok (.getfield 29, 3) := by decide +kernel
theorem dX8_formula_152 : decode cX8_formula 152 = .ok (.bipush 9, 2) := by decide +kernel
theorem dX8_formula_154 : decode cX8_formula 154 = .ok (.dup2, 1) := by decide +kernel
theorem dX8_formula_155 : decode cX8_formula 155 = .ok (.laload, 1) := by decide +kernel
theorem dX8_formula_156 : decode cX8_formula 156 = .ok (.lconst 1, 1) := by decide +kernel
theorem dX8_formula_157 : decode cX8_formula 157 = .ok (.ladd, 1) := by decide +kernel
theorem dX8_formula_158 : decode cX8_formula 158 = .ok (.lastore, 1) := by decide +kernel
theorem dX8_formula_159 : decode cX8_formula 159 = .ok (.aload_n 0, 1) := by decide +kernel
theorem dX8_formula_160 : decode cX8_formula 160 = .ok (.invokevirtual 137, 3) := by decide +kernel
theorem dX8_formula_163 : decode cX8_formula 163 = .ok (.ifCond .ne (-119), 3) := by decide +kernel
theorem dX8_formula_166 : decode cX8_formula 166 = .ok (.aload_n 0, 1) := by decide +kernel
theorem dX8_formula_167 : decode cX8_formula 167 = .ok (.invokevirtual 116, 3) := by decide +kernel
theorem dX8_formula_170 : decode cX8_formula 170 = .ok (.ifCond .eq 20, 3) := by decide +kernel
theorem dX8_formula_173 : decode cX8_formula 173 = .ok (.aload_n 0, 1) := by decide +kernel
theorem dX8_formula_174 : decode cX8_formula 174 = .ok (.getfield 110, 3) := by decide +kernel
theorem dX8_formula_177 : decode cX8_formula 177 = .ok (.iconst 1, 1) := by decide +kernel
theorem dX8_formula_178 : decode cX8_formula 178 = .ok (.if_icmp .ne 12, 3) := by decide +kernel
theorem dX8_formula_181 : decode cX8_formula 181 = .ok (.aload_n 0, 1) := by decide +kernel
theorem dX8_formula_182 : decode cX8_formula 182 = .ok (.getfield 107, 3) := by decide +kernel
theorem dX8_formula_185 : decode cX8_formula 185 = .ok (.bipush 103, 2) := by decide +kernel
theorem dX8_formula_187 : decode cX8_formula 187 = .ok (.if_icmp .eq (-143), 3) := by decide +kernel
theorem dX8_formula_190 : decode cX8_formula 190 = .ok (.iconst 0, 1) := by decide +kernel
theorem dX8_formula_191 : decode cX8_formula 191 = .ok (.istore_n 1, 1) := by decide +kernel
theorem dX8_formula_192 : decode cX8_formula 192 = .ok (.aload_n 0, 1) := by decide +kernel
theorem dX8_formula_193 : decode cX8_formula 193 = .ok (.invokevirtual 116, 3) := by decide +kernel
theorem dX8_formula_196 : decode cX8_formula 196 = .ok (.ifCond .eq 84, 3) := by decide +kernel
theorem dX8_formula_199 : decode cX8_formula 199 = .ok (.aload_n 0, 1) := by decide +kernel
theorem dX8_formula_200 : decode cX8_formula 200 = .ok (.getfield 110, 3) := by decide +kernel
theorem dX8_formula_203 : decode cX8_formula 203 = .ok (.iconst 1, 1) := by decide +kernel
theorem dX8_formula_204 : decode cX8_formula 204 = .ok (.if_icmp .ne 76, 3) := by decide +kernel
theorem dX8_formula_207 : decode cX8_formula 207 = .ok (.aload_n 0, 1) := by decide +kernel
theorem dX8_formula_208 : decode cX8_formula 208 = .ok (.getfield 107, 3) := by decide +kernel
theorem dX8_formula_211 : decode cX8_formula 211 = .ok (.bipush 109, 2) := by decide +kernel
theorem dX8_formula_213 : decode cX8_formula 213 = .ok (.if_icmp .ne 67, 3) := by decide +kernel
theorem dX8_formula_216 : decode cX8_formula 216 = .ok (.aload_n 0, 1) := by decide +kernel
theorem dX8_formula_217 : decode cX8_formula 217 = .ok (.iconst 1, 1) := by decide +kernel
theorem dX8_formula_218 : decode cX8_formula 218 = .ok (.iconst 1, 1) := by decide +kernel
theorem dX8_formula_219 : decode cX8_formula 219 = .ok (.invokevirtual 126, 3) := by decide +kernel
theorem dX8_formula_222 : decode cX8_formula 222 = .ok (.pop, 1) := by decide +kernel
theorem dX8_formula_223 : decode cX8_formula 223 = .ok (.aload_n 0, 1) := by decide +kernel
theorem dX8_formula_224 : decode cX8_formula 224 = .ok (.iload_n 1, 1) := by decide +kernel
theorem dX8_formula_225 : decode cX8_formula 225 = .ok (.invokevirtual 140, 3) := by decide +kernel
theorem dX8_formula_228 : decode cX8_formula 228 = .ok (.istore_n 2, 1) := by decide +kernel
theorem dX8_formula_229 : decode cX8_formula 229 = .ok (.aload_n 0, 1) := by decide +kernel
theorem dX8_formula_230 : decode cX8_formula 230 = .ok (.iconst 1, 1) := by decide +kernel
theorem dX8_formula_231 : decode cX8_formula 231 = .ok (.bipush 9, 2) := by decide +kernel
theorem dX8_formula_233 : decode cX8_formula 233 = .ok (.invokevirtual 143, 3) := by decide +kernel
theorem dX8_formula_236 : decode cX8_formula 236 = .ok (.istore_n 3, 1) := by decide +kernel
theorem dX8_formula_237 : decode cX8_formula 237 = .ok (.aload_n 0, 1) := by decide +kernel
theorem dX8_formula_238 : decode cX8_formula 238 = .ok (.aload_n 0, 1) := by decide +kernel
theorem dX8_formula_239 : decode cX8_formula 239 = .ok (.getfield 110, 3) := by decide +kernel
theorem dX8_formula_242 : decode cX8_formula 242 = .ok (.iconst 4, 1) := by decide +kernel
theorem dX8_formula_243 : decode cX8_formula 243 = .ok (.if_icmp .ne 7, 3) := by decide +kernel
theorem dX8_formula_246 : decode cX8_formula 246 = .ok (.iconst 1, 1) := by decide +kernel
theorem dX8_formula_247 : decode cX8_formula 247 = .ok (.goto 4, 3) := by decide +kernel
theorem dX8_formula_250 : decode cX8_formula 250 = .ok (.iconst 0, 1) := by decide +kernel
theorem dX8_formula_251 : decode cX8_formula 251 = .ok (.iconst 1, 1) := by decide +kernel
theorem dX8_formula_252 : decode cX8_formula 252 = .ok (.invokevirtual 126, 3) := by decide +kernel
theorem dX8_formula_255 : decode cX8_formula 255 = .ok (.pop, 1) := by decide +kernel
theorem dX8_formula_256 : decode cX8_formula 256 = .ok (.aload_n 0, 1) := by decide +kernel
theorem dX8_formula_257 : decode cX8_formula 257 = .ok (.invokevirtual 116, 3) := by decide +kernel
theorem dX8_formula_260 : decode cX8_formula 260 = .ok (.ifCond .eq 17, 3) := by decide +kernel
theorem dX8_formula_263 : decode cX8_formula 263 = .ok (.iload_n 1, 1) := by decide +kernel
theorem dX8_formula_264 : decode cX8_formula 264 = .ok (.iconst 1, 1) := by decide +kernel
theorem dX8_formula_265 : decode cX8_formula 265 = .ok (.iload_n 2, 1) := by decide +kernel
theorem dX8_formula_266 : decode cX8_formula 266 = .ok (.ishl, 1) := by decide +kernel
theorem dX8_formula_267 : decode cX8_formula 267 = .ok (.ior, 1) := by decide +kernel
theorem dX8_formula_268 : decode cX8_formula 268 = .ok (.istore_n 1, 1) := by decide +kernel
theorem dX8_formula_269 : decode cX8_formula 269 = .ok (.aload_n 0, 1) := by decide +kernel
theorem dX8_formula_270 : decode cX8_formula 270 = .ok (.getfield 29, 3) := by decide +kernel
theorem dX8_formula_273 : decode cX8_formula 273 = .ok (.iload_n 2, 1) := by decide +kernel
theorem dX8_formula_274 : decode cX8_formula 274 = .ok (.iload_n 3, 1) := by decide +kernel
theorem dX8_formula_275 : decode cX8_formula 275 = .ok (.i2l, 1) := by decide +kernel
theorem dX8_formula_276 : decode cX8_formula 276 = .ok (.lastore, 1) := by decide +kernel
theorem dX8_formula_277 : decode cX8_formula 277 = .ok (.goto (-85), 3) := by decide +kernel
theorem dX8_formula_280 : decode cX8_formula 280 = .ok (.aload_n 0, 1) := by decide +kernel
theorem dX8_formula_281 : decode cX8_formula 281 = .ok (.aload_n 0, 1) := by decide +kernel
theorem dX8_formula_282 : decode cX8_formula 282 = .ok (.getfield 110, 3) := by decide +kernel
theorem dX8_formula_285 : decode cX8_formula 285 = .ok (.ifCond .ne 7, 3) := by decide +kernel
theorem dX8_formula_288 : decode cX8_formula 288 = .ok (.iconst 1, 1) := by decide +kernel
theorem dX8_formula_289 : decode cX8_formula 289 = .ok (.goto 4, 3) := by decide +kernel
theorem dX8_formula_292 : decode cX8_formula 292 = .ok (.iconst 0, 1) := by decide +kernel
theorem dX8_formula_293 : decode cX8_formula 293 = .ok (.invokevirtual 158, 3) := by decide +kernel
theorem dX8_formula_296 : decode cX8_formula 296 = .ok (.aload_n 0, 1) := by decide +kernel
theorem dX8_formula_297 : decode cX8_formula 297 = .ok (.iconst 0, 1) := by decide +kernel
theorem dX8_formula_298 : decode cX8_formula 298 = .ok (.putfield 94, 3) := by decide +kernel
theorem dX8_formula_301 : decode cX8_formula 301 = .ok (.aload_n 0, 1) := by decide +kernel
theorem dX8_formula_302 : decode cX8_formula 302 = .ok (.invokevirtual 116, 3) := by decide +kernel
theorem dX8_formula_305 : decode cX8_formula 305 = .ok (.ifCond .ne 11, 3) := by decide +kernel
theorem dX8_formula_308 : decode cX8_formula 308 = .ok (.ldc 162, 2) := by decide +kernel
theorem dX8_formula_310 : decode cX8_formula 310 = .ok (.aload_n 0, 1) := by decide +kernel
theorem dX8_formula_311 : decode cX8_formula 311 = .ok (.getfield 113, 3) := by decide +kernel
theorem dX8_formula_314 : decode cX8_formula 314 = .ok (.isub, 1) := by decide +kernel
theorem dX8_formula_315 : decode cX8_formula 315 = .ok (.ireturn, 1) := by decide +kernel
theorem dX8_formula_316 : decode cX8_formula 316 = .ok (.aload_n 0, 1) := by decide +kernel
theorem dX8_formula_317 : decode cX8_formula 317 = .ok (.getfield 29, 3) := by decide +kernel
theorem dX8_formula_320 : decode cX8_formula 320 = .ok (.iconst 0, 1) := by decide +kernel
theorem dX8_formula_321 : decode cX8_formula 321 = .ok (.aload_n 0, 1) := by decide +kernel
theorem dX8_formula_322 : decode cX8_formula 322 = .ok (.getfield 25, 3) := by decide +kernel
theorem dX8_formula_325 : decode cX8_formula 325 = .ok (.iconst 0, 1) := by decide +kernel
theorem dX8_formula_326 : decode cX8_formula 326 = .ok (.sipush 312, 3) := by decide +kernel
theorem dX8_formula_329 : decode cX8_formula 329 = .ok (.invokestatic 154, 3) := by decide +kernel
theorem dX8_formula_332 : decode cX8_formula 332 = .ok (.aload_n 0, 1) := by decide +kernel
theorem dX8_formula_333 : decode cX8_formula 333 = .ok (.iconst 0, 1) := by decide +kernel
theorem dX8_formula_334 : decode cX8_formula 334 = .ok (.putfield 163, 3) := by decide +kernel
theorem dX8_formula_337 : decode cX8_formula 337 = .ok (.aload_n 0, 1) := by decide +kernel
theorem dX8_formula_338 : decode cX8_formula 338 = .ok (.getfield 25, 3) := by decide +kernel
theorem dX8_formula_341 : decode cX8_formula 341 = .ok (.bipush 9, 2) := by decide +kernel
theorem dX8_formula_343 : decode cX8_formula 343 = .ok (.laload, 1) := by decide +kernel
theorem dX8_formula_344 : decode cX8_formula 344 = .ok (.l2i, 1) := by decide +kernel
theorem dX8_formula_345 : decode cX8_formula 345 = .ok (.ireturn, 1) := by decide +kernel
theorem dX8_fault_0 : decode cX8_fault 0 = .ok (.aload_n 0, 1) := by decide +kernel
theorem dX8_fault_1 : decode cX8_fault 1 = .ok (.getfield 120, 3) := by decide +kernel
theorem dX8_fault_4 : decode cX8_fault 4 = .ok (.ireturn, 1) := by decide +kernel
theorem dX8_isFormula_0 : decode cX8_isFormula 0 = .ok (.aload_n 0, 1) := by decide +kernel
theorem dX8_isFormula_1 : decode cX8_isFormula 1 = .ok (.getfield 25, 3) := by decide +kernel
theorem dX8_isFormula_4 : decode cX8_isFormula 4 = .ok (.bipush 11, 2) := by decide +kernel
theorem dX8_isFormula_6 : decode cX8_isFormula 6 = .ok (.laload, 1) := by decide +kernel
theorem dX8_isFormula_7 : decode cX8_isFormula 7 = .ok (.lconst 1, 1) := by decide +kernel
theorem dX8_isFormula_8 : decode cX8_isFormula 8 = .ok (.lcmp, 1) := by decide +kernel
theorem dX8_isFormula_9 : decode cX8_isFormula 9 = .ok (.ifCond .ne 7, 3) := by decide +kernel
theorem dX8_isFormula_12 : decode cX8_isFormula 12 = .ok (.iconst 1, 1) := by decide +kernel
theorem dX8_isFormula_13 : decode cX8_isFormula 13 = .ok (.goto 4, 3) := by decide +kernel
theorem dX8_isFormula_16 : decode cX8_isFormula 16 = .ok (.iconst 0, 1) := by decide +kernel
theorem dX8_isFormula_17 : decode cX8_isFormula 17 = .ok (.ireturn, 1) := by decide +kernel
theorem dX8_isLive_0 : decode cX8_isLive 0 = .ok (.iload_n 1, 1) := by decide +kernel
theorem dX8_isLive_1 : decode cX8_isLive 1 = .ok (.iconst 0, 1) := by decide +kernel
theorem dX8_isLive_2 : decode cX8_isLive 2 = .ok (.bipush 29, 2) := by decide +kernel
theorem dX8_isLive_4 : decode cX8_isLive 4 = .ok (.invokestatic 68, 3) := by decide +kernel
theorem dX8_isLive_7 : decode cX8_isLive 7 = .ok (.ifCond .eq 23, 3) := by decide +kernel
theorem dX8_isLive_10 : decode cX8_isLive 10 = .ok (.aload_n 0, 1) := by decide +kernel
theorem dX8_isLive_11 : decode cX8_isLive 11 = .ok (.getfield 25, 3) := by decide +kernel
theorem dX8_isLive_14 : decode cX8_isLive 14 = .ok (.bipush 10, 2) := by decide +kernel
theorem dX8_isLive_16 : decode cX8_isLive 16 = .ok (.laload, 1) := by decide +kernel
theorem dX8_isLive_17 : decode cX8_isLive 17 = .ok (.iload_n 1, 1) := by decide +kernel
theorem dX8_isLive_18 : decode cX8_isLive 18 = .ok (.lshr, 1) := by decide +kernel
theorem dX8_isLive_19 : decode cX8_isLive 19 = .ok (.lconst 1, 1) := by decide +kernel
theorem dX8_isLive_20 : decode cX8_isLive 20 = .ok (.land, 1) := by decide +kernel
theorem dX8_isLive_21 : decode cX8_isLive 21 = .ok (.lconst 1, 1) := by decide +kernel
theorem dX8_isLive_22 : decode cX8_isLive 22 = .ok (.lcmp, 1) := by decide +kernel
theorem dX8_isLive_23 : decode cX8_isLive 23 = .ok (.ifCond .ne 7, 3) := by decide +kernel
theorem dX8_isLive_26 : decode cX8_isLive 26 = .ok (.iconst 1, 1) := by decide +kernel
theorem dX8_isLive_27 : decode cX8_isLive 27 = .ok (.goto 4, 3) := by decide +kernel
theorem dX8_isLive_30 : decode cX8_isLive 30 = .ok (.iconst 0, 1) := by decide +kernel
theorem dX8_isLive_31 : decode cX8_isLive 31 = .ok (.ireturn, 1) := by decide +kernel
theorem dX8_isFull_0 : decode cX8_isFull 0 = .ok (.aload_n 0, 1) := by decide +kernel
theorem dX8_isFull_1 : decode cX8_isFull 1 = .ok (.getfield 25, 3) := by decide +kernel
theorem dX8_isFull_4 : decode cX8_isFull 4 = .ok (.bipush 9, 2) := by decide +kernel
theorem dX8_isFull_6 : decode cX8_isFull 6 = .ok (.laload, 1) := by decide +kernel
theorem dX8_isFull_7 : decode cX8_isFull 7 = .ok (.ldc2_w 166, 3) := by decide +kernel
theorem dX8_isFull_10 : decode cX8_isFull 10 = .ok (.lcmp, 1) := by decide +kernel
theorem dX8_isFull_11 : decode cX8_isFull 11 = .ok (.ifCond .ne 7, 3) := by decide +kernel
theorem dX8_isFull_14 : decode cX8_isFull 14 = .ok (.iconst 1, 1) := by decide +kernel
theorem dX8_isFull_15 : decode cX8_isFull 15 = .ok (.goto 4, 3) := by decide +kernel
theorem dX8_isFull_18 : decode cX8_isFull 18 = .ok (.iconst 0, 1) := by decide +kernel
theorem dX8_isFull_19 : decode cX8_isFull 19 = .ok (.ireturn, 1) := by decide +kernel
theorem dX8_notes_0 : decode cX8_notes 0 = .ok (.aload_n 0, 1) := by decide +kernel
theorem dX8_notes_1 : decode cX8_notes 1 = .ok (.getfield 163, 3) := by decide +kernel
theorem dX8_notes_4 : decode cX8_notes 4 = .ok (.bipush 12, 2) := by decide +kernel
theorem dX8_notes_6 : decode cX8_notes 6 = .ok (.if_icmp .ne 44, 3) := by decide +kernel
theorem dX8_notes_9 : decode cX8_notes 9 = .ok (.iconst 0, 1) := by decide +kernel
theorem dX8_notes_10 : decode cX8_notes 10 = .ok (.istore_n 1, 1) := by decide +kernel
theorem dX8_notes_11 : decode cX8_notes 11 = .ok (.iload_n 1, 1) := by decide +kernel
theorem dX8_notes_12 : decode cX8_notes 12 = .ok (.sipush 3432, 3) := by decide +kernel
theorem dX8_notes_15 : decode cX8_notes 15 = .ok (.if_icmp .ge 25, 3) := by decide +kernel
theorem dX8_notes_18 : decode cX8_notes 18 = .ok (.aload_n 0, 1) := by decide +kernel
theorem dX8_notes_19 : decode cX8_notes 19 = .ok (.getfield 32, 3) := by decide +kernel
theorem dX8_notes_22 : decode cX8_notes 22 = .ok (.iload_n 1, 1) := by decide +kernel
theorem dX8_notes_23 : decode cX8_notes 23 = .ok (.aload_n 0, 1) := by decide +kernel
theorem dX8_notes_24 : decode cX8_notes 24 = .ok (.getfield 32, 3) := by decide +kernel
theorem dX8_notes_27 : decode cX8_notes 27 = .ok (.iload_n 1, 1) := by decide +kernel
theorem dX8_notes_28 : decode cX8_notes 28 = .ok (.sipush 312, 3) := by decide +kernel
theorem dX8_notes_31 : decode cX8_notes 31 = .ok (.iadd, 1) := by decide +kernel
theorem dX8_notes_32 : decode cX8_notes 32 = .ok (.laload, 1) := by decide +kernel
theorem dX8_notes_33 : decode cX8_notes 33 = .ok (.lastore, 1) := by decide +kernel
theorem dX8_notes_34 : decode cX8_notes 34 = .ok (.iinc 1 1, 3) := by decide +kernel
theorem dX8_notes_37 : decode cX8_notes 37 = .ok (.goto (-26), 3) := by decide +kernel
theorem dX8_notes_40 : decode cX8_notes 40 = .ok (.aload_n 0, 1) := by decide +kernel
theorem dX8_notes_41 : decode cX8_notes 41 = .ok (.dup, 1) := by decide +kernel
theorem dX8_notes_42 : decode cX8_notes 42 = .ok (.getfield 163, 3) := by decide +kernel
theorem dX8_notes_45 : decode cX8_notes 45 = .ok (.iconst 1, 1) := by decide +kernel
theorem dX8_notes_46 : decode cX8_notes 46 = .ok (.isub, 1) := by decide +kernel
theorem dX8_notes_47 : decode cX8_notes 47 = .ok (.putfield 163, 3) := by decide +kernel
theorem dX8_notes_50 : decode cX8_notes 50 = .ok (.aload_n 0, 1) := by decide +kernel
theorem dX8_notes_51 : decode cX8_notes 51 = .ok (.getfield 25, 3) := by decide +kernel
theorem dX8_notes_54 : decode cX8_notes 54 = .ok (.iconst 0, 1) := by decide +kernel
theorem dX8_notes_55 : decode cX8_notes 55 = .ok (.aload_n 0, 1) := by decide +kernel
theorem dX8_notes_56 : decode cX8_notes 56 = .ok (.getfield 32, 3) := by decide +kernel
theorem dX8_notes_59 : decode cX8_notes 59 = .ok (.sipush 312, 3) := by decide +kernel
theorem dX8_notes_62 : decode cX8_notes 62 = .ok (.aload_n 0, 1) := by decide +kernel
theorem dX8_notes_63 : decode cX8_notes 63 = .ok (.getfield 163, 3) := by decide +kernel
theorem dX8_notes_66 : decode cX8_notes 66 = .ok (.imul, 1) := by decide +kernel
theorem dX8_notes_67 : decode cX8_notes 67 = .ok (.sipush 312, 3) := by decide +kernel
theorem dX8_notes_70 : decode cX8_notes 70 = .ok (.invokestatic 154, 3) := by decide +kernel
theorem dX8_notes_73 : decode cX8_notes 73 = .ok (.aload_n 0, 1) := by decide +kernel
theorem dX8_notes_74 : decode cX8_notes 74 = .ok (.dup, 1) := by decide +kernel
theorem dX8_notes_75 : decode cX8_notes 75 = .ok (.getfield 163, 3) := by decide +kernel
theorem dX8_notes_78 : decode cX8_notes 78 = .ok (.iconst 1, 1) := by decide +kernel
theorem dX8_notes_79 : decode cX8_notes 79 = .ok (.iadd, 1) := by decide +kernel
theorem dX8_notes_80 : decode cX8_notes 80 = .ok (.putfield 163, 3) := by decide +kernel
theorem dX8_notes_83 : decode cX8_notes 83 = .ok (.return_, 1) := by decide +kernel
theorem dX8_comes_0 : decode cX8_comes 0 = .ok (.aload_n 0, 1) := by decide +kernel
theorem dX8_comes_1 : decode cX8_comes 1 = .ok (.invokevirtual 168, 3) := by decide +kernel
theorem dX8_comes_4 : decode cX8_comes 4 = .ok (.aload_n 0, 1) := by decide +kernel
theorem dX8_comes_5 : decode cX8_comes 5 = .ok (.getfield 25, 3) := by decide +kernel
theorem dX8_comes_8 : decode cX8_comes 8 = .ok (.bipush 9, 2) := by decide +kernel
theorem dX8_comes_10 : decode cX8_comes 10 = .ok (.laload, 1) := by decide +kernel
theorem dX8_comes_11 : decode cX8_comes 11 = .ok (.l2i, 1) := by decide +kernel
theorem dX8_comes_12 : decode cX8_comes 12 = .ok (.istore_n 2, 1) := by decide +kernel
theorem dX8_comes_13 : decode cX8_comes 13 = .ok (.aload_n 0, 1) := by decide +kernel
theorem dX8_comes_14 : decode cX8_comes 14 = .ok (.getfield 42, 3) := by decide +kernel
theorem dX8_comes_17 : decode cX8_comes 17 = .ok (.iconst 0, 1) := by decide +kernel
theorem dX8_comes_18 : decode cX8_comes 18 = .ok (.iload_n 1, 1) := by decide +kernel
theorem dX8_comes_19 : decode cX8_comes 19 = .ok (.i2l, 1) := by decide +kernel
theorem dX8_comes_20 : decode cX8_comes 20 = .ok (.lastore, 1) := by decide +kernel
theorem dX8_comes_21 : decode cX8_comes 21 = .ok (.aload_n 0, 1) := by decide +kernel
theorem dX8_comes_22 : decode cX8_comes 22 = .ok (.getfield 42, 3) := by decide +kernel
theorem dX8_comes_25 : decode cX8_comes 25 = .ok (.iconst 0, 1) := by decide +kernel
theorem dX8_comes_26 : decode cX8_comes 26 = .ok (.aload_n 0, 1) := by decide +kernel
theorem dX8_comes_27 : decode cX8_comes 27 = .ok (.getfield 25, 3) := by decide +kernel
theorem dX8_comes_30 : decode cX8_comes 30 = .ok (.bipush 12, 2) := by decide +kernel
theorem dX8_comes_32 : decode cX8_comes 32 = .ok (.bipush 10, 2) := by decide +kernel
theorem dX8_comes_34 : decode cX8_comes 34 = .ok (.iload_n 2, 1) := by decide +kernel
theorem dX8_comes_35 : decode cX8_comes 35 = .ok (.imul, 1) := by decide +kernel
theorem dX8_comes_36 : decode cX8_comes 36 = .ok (.iadd, 1) := by decide +kernel
theorem dX8_comes_37 : decode cX8_comes 37 = .ok (.bipush 10, 2) := by decide +kernel
theorem dX8_comes_39 : decode cX8_comes 39 = .ok (.invokestatic 154, 3) := by decide +kernel
theorem dX8_comes_42 : decode cX8_comes 42 = .ok (.aload_n 0, 1) := by decide +kernel
theorem dX8_comes_43 : decode cX8_comes 43 = .ok (.getfield 25, 3) := by decide +kernel
theorem dX8_comes_46 : decode cX8_comes 46 = .ok (.bipush 10, 2) := by decide +kernel
theorem dX8_comes_48 : decode cX8_comes 48 = .ok (.dup2, 1) := by decide +kernel
theorem dX8_comes_49 : decode cX8_comes 49 = .ok (.laload, 1) := by decide +kernel
theorem dX8_comes_50 : decode cX8_comes 50 = .ok (.lconst 1, 1) := by decide +kernel
theorem dX8_comes_51 : decode cX8_comes 51 = .ok (.iload_n 2, 1) := by decide +kernel
theorem dX8_comes_52 : decode cX8_comes 52 = .ok (.lshl, 1) := by decide +kernel
theorem dX8_comes_53 : decode cX8_comes 53 = .ok (.lor, 1) := by decide +kernel
theorem dX8_comes_54 : decode cX8_comes 54 = .ok (.lastore, 1) := by decide +kernel
theorem dX8_comes_55 : decode cX8_comes 55 = .ok (.aload_n 0, 1) := by decide +kernel
theorem dX8_comes_56 : decode cX8_comes 56 = .ok (.getfield 25, 3) := by decide +kernel
theorem dX8_comes_59 : decode cX8_comes 59 = .ok (.bipush 9, 2) := by decide +kernel
theorem dX8_comes_61 : decode cX8_comes 61 = .ok (.dup2, 1) := by decide +kernel
theorem dX8_comes_62 : decode cX8_comes 62 = .ok (.laload, 1) := by decide +kernel
theorem dX8_comes_63 : decode cX8_comes 63 = .ok (.lconst 1, 1) := by decide +kernel
theorem dX8_comes_64 : decode cX8_comes 64 = .ok (.ladd, 1) := by decide +kernel
theorem dX8_comes_65 : decode cX8_comes 65 = .ok (.lastore, 1) := by decide +kernel
theorem dX8_comes_66 : decode cX8_comes 66 = .ok (.iload_n 2, 1) := by decide +kernel
theorem dX8_comes_67 : decode cX8_comes 67 = .ok (.ireturn, 1) := by decide +kernel
theorem dX8_takesClause_0 : decode cX8_takesClause 0 = .ok (.aload_n 0, 1) := by decide +kernel
theorem dX8_takesClause_1 : decode cX8_takesClause 1 = .ok (.getfield 25, 3) := by decide +kernel
theorem dX8_takesClause_4 : decode cX8_takesClause 4 = .ok (.bipush 12, 2) := by decide +kernel
theorem dX8_takesClause_6 : decode cX8_takesClause 6 = .ok (.bipush 10, 2) := by decide +kernel
theorem dX8_takesClause_8 : decode cX8_takesClause 8 = .ok (.iload_n 1, 1) := by decide +kernel
theorem dX8_takesClause_9 : decode cX8_takesClause 9 = .ok (.imul, 1) := by decide +kernel
theorem dX8_takesClause_10 : decode cX8_takesClause 10 = .ok (.iadd, 1) := by decide +kernel
theorem dX8_takesClause_11 : decode cX8_takesClause 11 = .ok (.aload_n 0, 1) := by decide +kernel
theorem dX8_takesClause_12 : decode cX8_takesClause 12 = .ok (.getfield 42, 3) := by decide +kernel
theorem dX8_takesClause_15 : decode cX8_takesClause 15 = .ok (.iconst 0, 1) := by decide +kernel
theorem dX8_takesClause_16 : decode cX8_takesClause 16 = .ok (.bipush 10, 2) := by decide +kernel
theorem dX8_takesClause_18 : decode cX8_takesClause 18 = .ok (.invokestatic 154, 3) := by decide +kernel
theorem dX8_takesClause_21 : decode cX8_takesClause 21 = .ok (.return_, 1) := by decide +kernel
theorem dX8_plus_0 : decode cX8_plus 0 = .ok (.aload_n 0, 1) := by decide +kernel
theorem dX8_plus_1 : decode cX8_plus 1 = .ok (.invokevirtual 171, 3) := by decide +kernel
theorem dX8_plus_4 : decode cX8_plus 4 = .ok (.ifCond .ne 6, 3) := by decide +kernel
theorem dX8_plus_7 : decode cX8_plus 7 = .ok (.ldc 174, 2) := by decide +kernel
theorem dX8_plus_9 : decode cX8_plus 9 = .ok (.ireturn, 1) := by decide +kernel
theorem dX8_plus_10 : decode cX8_plus 10 = .ok (.aload_n 0, 1) := by decide +kernel
theorem dX8_plus_11 : decode cX8_plus 11 = .ok (.iload_n 1, 1) := by decide +kernel
theorem dX8_plus_12 : decode cX8_plus 12 = .ok (.invokevirtual 175, 3) := by decide +kernel
theorem dX8_plus_15 : decode cX8_plus 15 = .ok (.ifCond .eq 11, 3) := by decide +kernel
theorem dX8_plus_18 : decode cX8_plus 18 = .ok (.aload_n 0, 1) := by decide +kernel
theorem dX8_plus_19 : decode cX8_plus 19 = .ok (.iload_n 2, 1) := by decide +kernel
theorem dX8_plus_20 : decode cX8_plus 20 = .ok (.invokevirtual 175, 3) := by decide +kernel
theorem dX8_plus_23 : decode cX8_plus 23 = .ok (.ifCond .ne 6, 3) := by decide +kernel
theorem dX8_plus_26 : decode cX8_plus 26 = .ok (.ldc 76, 2) := by decide +kernel
theorem dX8_plus_28 : decode cX8_plus 28 = .ok (.ireturn, 1) := by decide +kernel
theorem dX8_plus_29 : decode cX8_plus 29 = .ok (.aload_n 0, 1) := by decide +kernel
theorem dX8_plus_30 : decode cX8_plus 30 = .ok (.invokevirtual 178, 3) := by decide +kernel
theorem dX8_plus_33 : decode cX8_plus 33 = .ok (.ifCond .eq 6, 3) := by decide +kernel
theorem dX8_plus_36 : decode cX8_plus 36 = .ok (.ldc 97, 2) := by decide +kernel
theorem dX8_plus_38 : decode cX8_plus 38 = .ok (.ireturn, 1) := by decide +kernel
theorem dX8_plus_39 : decode cX8_plus 39 = .ok (.aload_n 0, 1) := by decide +kernel
theorem dX8_plus_40 : decode cX8_plus 40 = .ok (.iload_n 1, 1) := by decide +kernel
theorem dX8_plus_41 : decode cX8_plus 41 = .ok (.invokevirtual 181, 3) := by decide +kernel
theorem dX8_plus_44 : decode cX8_plus 44 = .ok (.bipush 12, 2) := by decide +kernel
theorem dX8_plus_46 : decode cX8_plus 46 = .ok (.bipush 10, 2) := by decide +kernel
theorem dX8_plus_48 : decode cX8_plus 48 = .ok (.iload_n 2, 1) := by decide +kernel
theorem dX8_plus_49 : decode cX8_plus 49 = .ok (.imul, 1) := by decide +kernel
theorem dX8_plus_50 : decode cX8_plus 50 = .ok (.iadd, 1) := by decide +kernel
theorem dX8_plus_51 : decode cX8_plus 51 = .ok (.istore_n 3, 1) := by decide +kernel
theorem dX8_plus_52 : decode cX8_plus 52 = .ok (.aload_n 0, 1) := by decide +kernel
theorem dX8_plus_53 : decode cX8_plus 53 = .ok (.getfield 42, 3) := by decide +kernel
theorem dX8_plus_56 : decode cX8_plus 56 = .ok (.iconst 1, 1) := by decide +kernel
theorem dX8_plus_57 : decode cX8_plus 57 = .ok (.laload, 1) := by decide +kernel
theorem dX8_plus_58 : decode cX8_plus 58 = .ok (.ldc2_w 185, 3) := by decide +kernel
theorem dX8_plus_61 : decode cX8_plus 61 = .ok (.aload_n 0, 1) := by decide +kernel
theorem dX8_plus_62 : decode cX8_plus 62 = .ok (.getfield 25, 3) := by decide +kernel
theorem dX8_plus_65 : decode cX8_plus 65 = .ok (.iload_n 3, 1) := by decide +kernel
theorem dX8_plus_66 : decode cX8_plus 66 = .ok (.iconst 1, 1) := by decide +kernel
theorem dX8_plus_67 : decode cX8_plus 67 = .ok (.iadd, 1) := by decide +kernel
theorem dX8_plus_68 : decode cX8_plus 68 = .ok (.laload, 1) := by decide +kernel
theorem dX8_plus_69 : decode cX8_plus 69 = .ok (.lsub, 1) := by decide +kernel
theorem dX8_plus_70 : decode cX8_plus 70 = .ok (.lcmp, 1) := by decide +kernel
theorem dX8_plus_71 : decode cX8_plus 71 = .ok (.ifCond .le 10, 3) := by decide +kernel
theorem dX8_plus_74 : decode cX8_plus 74 = .ok (.aload_n 0, 1) := by decide +kernel
theorem dX8_plus_75 : decode cX8_plus 75 = .ok (.bipush 6, 2) := by decide +kernel
theorem dX8_plus_77 : decode cX8_plus 77 = .ok (.invokevirtual 77, 3) := by decide +kernel
theorem dX8_plus_80 : decode cX8_plus 80 = .ok (.ireturn, 1) := by decide +kernel
theorem dX8_plus_81 : decode cX8_plus 81 = .ok (.aload_n 0, 1) := by decide +kernel
theorem dX8_plus_82 : decode cX8_plus 82 = .ok (.getfield 42, 3) := by decide +kernel
theorem dX8_plus_85 : decode cX8_plus 85 = .ok (.iconst 1, 1) := by decide +kernel
theorem dX8_plus_86 : decode cX8_plus 86 = .ok (.laload, 1) := by decide +kernel
theorem dX8_plus_87 : decode cX8_plus 87 = .ok (.aload_n 0, 1) := by decide +kernel
theorem dX8_plus_88 : decode cX8_plus 88 = .ok (.getfield 25, 3) := by decide +kernel
theorem dX8_plus_91 : decode cX8_plus 91 = .ok (.iload_n 3, 1) := by decide +kernel
theorem dX8_plus_92 : decode cX8_plus 92 = .ok (.iconst 1, 1) := by decide +kernel
theorem dX8_plus_93 : decode cX8_plus 93 = .ok (.iadd, 1) := by decide +kernel
theorem dX8_plus_94 : decode cX8_plus 94 = .ok (.laload, 1) := by decide +kernel
theorem dX8_plus_95 : decode cX8_plus 95 = .ok (.ladd, 1) := by decide +kernel
theorem dX8_plus_96 : decode cX8_plus 96 = .ok (.lstore 4, 2) := by decide +kernel
theorem dX8_plus_98 : decode cX8_plus 98 = .ok (.iconst 0, 1) := by decide +kernel
theorem dX8_plus_99 : decode cX8_plus 99 = .ok (.istore 6, 2) := by decide +kernel
theorem dX8_plus_101 : decode cX8_plus 101 = .ok (.iload 6, 2) := by decide +kernel
theorem dX8_plus_103 : decode cX8_plus 103 = .ok (.bipush 8, 2) := by decide +kernel
theorem dX8_plus_105 : decode cX8_plus 105 = .ok (.if_icmp .ge 151, 3) := by decide +kernel
theorem dX8_plus_108 : decode cX8_plus 108 = .ok (.aload_n 0, 1) := by decide +kernel
theorem dX8_plus_109 : decode cX8_plus 109 = .ok (.getfield 42, 3) := by decide +kernel
theorem dX8_plus_112 : decode cX8_plus 112 = .ok (.iconst 2, 1) := by decide +kernel
theorem dX8_plus_113 : decode cX8_plus 113 = .ok (.iload 6, 2) := by decide +kernel
theorem dX8_plus_115 : decode cX8_plus 115 = .ok (.iadd, 1) := by decide +kernel
theorem dX8_plus_116 : decode cX8_plus 116 = .ok (.laload, 1) := by decide +kernel
theorem dX8_plus_117 : decode cX8_plus 117 = .ok (.lstore 7, 2) := by decide +kernel
theorem dX8_plus_119 : decode cX8_plus 119 = .ok (.aload_n 0, 1) := by decide +kernel
theorem dX8_plus_120 : decode cX8_plus 120 = .ok (.getfield 25, 3) := by decide +kernel
theorem dX8_plus_123 : decode cX8_plus 123 = .ok (.iload_n 3, 1) := by decide +kernel
theorem dX8_plus_124 : decode cX8_plus 124 = .ok (.iconst 2, 1) := by decide +kernel
theorem dX8_plus_125 : decode cX8_plus 125 = .ok (.iadd, 1) := by decide +kernel
theorem dX8_plus_126 : decode cX8_plus 126 = .ok (.iload 6, 2) := by decide +kernel
theorem dX8_plus_128 : decode cX8_plus 128 = .ok (.iadd, 1) := by decide +kernel
theorem dX8_plus_129 : decode cX8_plus 129 = .ok (.laload, 1) := by decide +kernel
theorem dX8_plus_130 : decode cX8_plus 130 = .ok (.lstore 9, 2) := by decide +kernel
theorem dX8_plus_132 : decode cX8_plus 132 = .ok (.lload 7, 2) := by decide +kernel
theorem dX8_plus_134 : decode cX8_plus 134 = .ok (.lconst 0, 1) := by decide +kernel
theorem dX8_plus_135 : decode cX8_plus 135 = .ok (.lcmp, 1) := by decide +kernel
theorem dX8_plus_136 : decode cX8_plus 136 = .ok (.ifCond .ge 10, 3) := by decide +kernel
theorem dX8_plus_139 : decode cX8_plus 139 = .ok (.lload 9, 2) := by decide +kernel
theorem dX8_plus_141 : decode cX8_plus 141 = .ok (.lconst 0, 1) := by decide +kernel
theorem dX8_plus_142 : decode cX8_plus 142 = .ok (.lcmp, 1) := by decide +kernel
theorem dX8_plus_143 : decode cX8_plus 143 = .ok (.ifCond .gt 17, 3) := by decide +kernel
theorem dX8_plus_146 : decode cX8_plus 146 = .ok (.lload 7, 2) := by decide +kernel
theorem dX8_plus_148 : decode cX8_plus 148 = .ok (.lconst 0, 1) := by decide +kernel
theorem dX8_plus_149 : decode cX8_plus 149 = .ok (.lcmp, 1) := by decide +kernel
theorem dX8_plus_150 : decode cX8_plus 150 = .ok (.ifCond .le 61, 3) := by decide +kernel
theorem dX8_plus_153 : decode cX8_plus 153 = .ok (.lload 9, 2) := by decide +kernel
theorem dX8_plus_155 : decode cX8_plus 155 = .ok (.lconst 0, 1) := by decide +kernel
theorem dX8_plus_156 : decode cX8_plus 156 = .ok (.lcmp, 1) := by decide +kernel
theorem dX8_plus_157 : decode cX8_plus 157 = .ok (.ifCond .ge 54, 3) := by decide +kernel
theorem dX8_plus_160 : decode cX8_plus 160 = .ok (.lload 7, 2) := by decide +kernel
theorem dX8_plus_162 : decode cX8_plus 162 = .ok (.invokestatic 187, 3) := by decide +kernel
theorem dX8_plus_165 : decode cX8_plus 165 = .ok (.lload 9, 2) := by decide +kernel
theorem dX8_plus_167 : decode cX8_plus 167 = .ok (.invokestatic 187, 3) := by decide +kernel
theorem dX8_plus_170 : decode cX8_plus 170 = .ok (.lcmp, 1) := by decide +kernel
theorem dX8_plus_171 : decode cX8_plus 171 = .ok (.ifCond .ge 11, 3) := by decide +kernel
theorem dX8_plus_174 : decode cX8_plus 174 = .ok (.lload 7, 2) := by decide +kernel
theorem dX8_plus_176 : decode cX8_plus 176 = .ok (.invokestatic 187, 3) := by decide +kernel
theorem dX8_plus_179 : decode cX8_plus 179 = .ok (.goto 8, 3) := by decide +kernel
theorem dX8_plus_182 : decode cX8_plus 182 = .ok (.lload 9, 2) := by decide +kernel
theorem dX8_plus_184 : decode cX8_plus 184 = .ok (.invokestatic 187, 3) := by decide +kernel
theorem dX8_plus_187 : decode cX8_plus 187 = .ok (.lstore 11, 2) := by decide +kernel
theorem dX8_plus_189 : decode cX8_plus 189 = .ok (.lload 4, 2) := by decide +kernel
theorem dX8_plus_191 : decode cX8_plus 191 = .ok (.lload 11, 2) := by decide +kernel
theorem dX8_plus_193 : decode cX8_plus 193 = .ok (.lcmp, 1) := by decide +kernel
theorem dX8_plus_194 : decode cX8_plus 194 = .ok (.ifCond .ge 7, 3) := by decide +kernel
theorem dX8_plus_197 : decode cX8_plus 197 = .ok (.lconst 0, 1) := by decide +kernel
theorem dX8_plus_198 : decode cX8_plus 198 = .ok (.goto 8, 3) := by decide +kernel
theorem dX8_plus_201 : decode cX8_plus 201 = .ok (.lload 4, 2) := by decide +kernel
theorem dX8_plus_203 : decode cX8_plus 203 = .ok (.lload 11, 2) := by decide +kernel
theorem dX8_plus_205 : decode cX8_plus 205 = .ok (.lsub, 1) := by decide +kernel

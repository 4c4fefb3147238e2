theorem dX0_init_0 : decode cX0_init 0 = .ok (.aload_n 0, 1) := by decide +kernel
theorem dX0_init_1 : decode cX0_init 1 = .ok (.invokespecial 3, 3) := by decide +kernel
theorem dX0_init_4 : decode cX0_init 4 = .ok (.aload_n 0, 1) := by decide +kernel
theorem dX0_init_5 : decode cX0_init 5 = .ok (.bipush 12, 2) := by decide +kernel
theorem dX0_init_7 : decode cX0_init 7 = .ok (.newarray .int, 2) := by decide +kernel
theorem dX0_init_9 : decode cX0_init 9 = .ok (.putfield 9, 3) := by decide +kernel
theorem dX0_init_12 : decode cX0_init 12 = .ok (.aload_n 0, 1) := by decide +kernel
theorem dX0_init_13 : decode cX0_init 13 = .ok (.bipush 12, 2) := by decide +kernel
theorem dX0_init_15 : decode cX0_init 15 = .ok (.newarray .int, 2) := by decide +kernel
theorem dX0_init_17 : decode cX0_init 17 = .ok (.putfield 15, 3) := by decide +kernel
theorem dX0_init_20 : decode cX0_init 20 = .ok (.aload_n 0, 1) := by decide +kernel
theorem dX0_init_21 : decode cX0_init 21 = .ok (.bipush 12, 2) := by decide +kernel
theorem dX0_init_23 : decode cX0_init 23 = .ok (.newarray .int, 2) := by decide +kernel
theorem dX0_init_25 : decode cX0_init 25 = .ok (.putfield 18, 3) := by decide +kernel
theorem dX0_init_28 : decode cX0_init 28 = .ok (.return_, 1) := by decide +kernel
theorem dX0_forget_0 : decode cX0_forget 0 = .ok (.aload_n 0, 1) := by decide +kernel
theorem dX0_forget_1 : decode cX0_forget 1 = .ok (.iconst 0, 1) := by decide +kernel
theorem dX0_forget_2 : decode cX0_forget 2 = .ok (.putfield 21, 3) := by decide +kernel
theorem dX0_forget_5 : decode cX0_forget 5 = .ok (.aload_n 0, 1) := by decide +kernel
theorem dX0_forget_6 : decode cX0_forget 6 = .ok (.iconst 0, 1) := by decide +kernel
theorem dX0_forget_7 : decode cX0_forget 7 = .ok (.putfield 25, 3) := by decide +kernel
theorem dX0_forget_10 : decode cX0_forget 10 = .ok (.return_, 1) := by decide +kernel
theorem dX0_keep_0 : decode cX0_keep 0 = .ok (.aload_n 0, 1) := by decide +kernel
theorem dX0_keep_1 : decode cX0_keep 1 = .ok (.getfield 25, 3) := by decide +kernel
theorem dX0_keep_4 : decode cX0_keep 4 = .ok (.bipush 12, 2) := by decide +kernel
theorem dX0_keep_6 : decode cX0_keep 6 = .ok (.if_icmp .ne 26, 3) := by decide +kernel
theorem dX0_keep_9 : decode cX0_keep 9 = .ok (.aload_n 0, 1) := by decide +kernel
theorem dX0_keep_10 : decode cX0_keep 10 = .ok (.aload_n 0, 1) := by decide +kernel
theorem dX0_keep_11 : decode cX0_keep 11 = .ok (.getfield 21, 3) := by decide +kernel
theorem dX0_keep_14 : decode cX0_keep 14 = .ok (.iconst 1, 1) := by decide +kernel
theorem dX0_keep_15 : decode cX0_keep 15 = .ok (.iadd, 1) := by decide +kernel
theorem dX0_keep_16 : decode cX0_keep 16 = .ok (.bipush 12, 2) := by decide +kernel
theorem dX0_keep_18 : decode cX0_keep 18 = .ok (.irem, 1) := by decide +kernel
theorem dX0_keep_19 : decode cX0_keep 19 = .ok (.putfield 21, 3) := by decide +kernel
theorem dX0_keep_22 : decode cX0_keep 22 = .ok (.aload_n 0, 1) := by decide +kernel
theorem dX0_keep_23 : decode cX0_keep 23 = .ok (.dup, 1) := by decide +kernel
theorem dX0_keep_24 : decode cX0_keep 24 = .ok (.getfield 25, 3) := by decide +kernel
theorem dX0_keep_27 : decode cX0_keep 27 = .ok (.iconst 1, 1) := by decide +kernel
theorem dX0_keep_28 : decode cX0_keep 28 = .ok (.isub, 1) := by decide +kernel
theorem dX0_keep_29 : decode cX0_keep 29 = .ok (.putfield 25, 3) := by decide +kernel
theorem dX0_keep_32 : decode cX0_keep 32 = .ok (.aload_n 0, 1) := by decide +kernel
theorem dX0_keep_33 : decode cX0_keep 33 = .ok (.getfield 21, 3) := by decide +kernel
theorem dX0_keep_36 : decode cX0_keep 36 = .ok (.aload_n 0, 1) := by decide +kernel
theorem dX0_keep_37 : decode cX0_keep 37 = .ok (.getfield 25, 3) := by decide +kernel
theorem dX0_keep_40 : decode cX0_keep 40 = .ok (.iadd, 1) := by decide +kernel
theorem dX0_keep_41 : decode cX0_keep 41 = .ok (.bipush 12, 2) := by decide +kernel
theorem dX0_keep_43 : decode cX0_keep 43 = .ok (.irem, 1) := by decide +kernel
theorem dX0_keep_44 : decode cX0_keep 44 = .ok (.istore_n 2, 1) := by decide +kernel
theorem dX0_keep_45 : decode cX0_keep 45 = .ok (.aload_n 0, 1) := by decide +kernel
theorem dX0_keep_46 : decode cX0_keep 46 = .ok (.getfield 9, 3) := by decide +kernel
theorem dX0_keep_49 : decode cX0_keep 49 = .ok (.iload_n 2, 1) := by decide +kernel
theorem dX0_keep_50 : decode cX0_keep 50 = .ok (.aload_n 1, 1) := by decide +kernel
theorem dX0_keep_51 : decode cX0_keep 51 = .ok (.getfield 28, 3) := by decide +kernel
theorem dX0_keep_54 : decode cX0_keep 54 = .ok (.iastore, 1) := by decide +kernel
theorem dX0_keep_55 : decode cX0_keep 55 = .ok (.aload_n 0, 1) := by decide +kernel
theorem dX0_keep_56 : decode cX0_keep 56 = .ok (.getfield 15, 3) := by decide +kernel
theorem dX0_keep_59 : decode cX0_keep 59 = .ok (.iload_n 2, 1) := by decide +kernel
theorem dX0_keep_60 : decode cX0_keep 60 = .ok (.aload_n 1, 1) := by decide +kernel
theorem dX0_keep_61 : decode cX0_keep 61 = .ok (.getfield 32, 3) := by decide +kernel
theorem dX0_keep_64 : decode cX0_keep 64 = .ok (.iastore, 1) := by decide +kernel
theorem dX0_keep_65 : decode cX0_keep 65 = .ok (.aload_n 0, 1) := by decide +kernel
theorem dX0_keep_66 : decode cX0_keep 66 = .ok (.getfield 18, 3) := by decide +kernel
theorem dX0_keep_69 : decode cX0_keep 69 = .ok (.iload_n 2, 1) := by decide +kernel
theorem dX0_keep_70 : decode cX0_keep 70 = .ok (.aload_n 1, 1) := by decide +kernel
theorem dX0_keep_71 : decode cX0_keep 71 = .ok (.getfield 34, 3) := by decide +kernel
theorem dX0_keep_74 : decode cX0_keep 74 = .ok (.iastore, 1) := by decide +kernel
theorem dX0_keep_75 : decode cX0_keep 75 = .ok (.aload_n 0, 1) := by decide +kernel
theorem dX0_keep_76 : decode cX0_keep 76 = .ok (.dup, 1) := by decide +kernel
theorem dX0_keep_77 : decode cX0_keep 77 = .ok (.getfield 25, 3) := by decide +kernel
theorem dX0_keep_80 : decode cX0_keep 80 = .ok (.iconst 1, 1) := by decide +kernel
theorem dX0_keep_81 : decode cX0_keep 81 = .ok (.iadd, 1) := by decide +kernel
theorem dX0_keep_82 : decode cX0_keep 82 = .ok (.putfield 25, 3) := by decide +kernel
theorem dX0_keep_85 : decode cX0_keep 85 = .ok (.return_, 1) := by decide +kernel
theorem dX0_takeBack_0 : decode cX0_takeBack 0 = .ok (.aload_n 0, 1) := by decide +kernel
theorem dX0_takeBack_1 : decode cX0_takeBack 1 = .ok (.dup, 1) := by decide +kernel
theorem dX0_takeBack_2 : decode cX0_takeBack 2 = .ok (.getfield 25, 3) := by decide +kernel
theorem dX0_takeBack_5 : decode cX0_takeBack 5 = .ok (.iconst 1, 1) := by decide +kernel
theorem dX0_takeBack_6 : decode cX0_takeBack 6 = .ok (.isub, 1) := by decide +kernel
theorem dX0_takeBack_7 : decode cX0_takeBack 7 = .ok (.putfield 25, 3) := by decide +kernel
theorem dX0_takeBack_10 : decode cX0_takeBack 10 = .ok (.aload_n 0, 1) := by decide +kernel
theorem dX0_takeBack_11 : decode cX0_takeBack 11 = .ok (.getfield 21, 3) := by decide +kernel
theorem dX0_takeBack_14 : decode cX0_takeBack 14 = .ok (.aload_n 0, 1) := by decide +kernel
theorem dX0_takeBack_15 : decode cX0_takeBack 15 = .ok (.getfield 25, 3) := by decide +kernel
theorem dX0_takeBack_18 : decode cX0_takeBack 18 = .ok (.iadd, 1) := by decide +kernel
theorem dX0_takeBack_19 : decode cX0_takeBack 19 = .ok (.bipush 12, 2) := by decide +kernel
theorem dX0_takeBack_21 : decode cX0_takeBack 21 = .ok (.irem, 1) := by decide +kernel
theorem dX0_takeBack_22 : decode cX0_takeBack 22 = .ok (.istore_n 2, 1) := by decide +kernel
theorem dX0_takeBack_23 : decode cX0_takeBack 23 = .ok (.aload_n 1, 1) := by decide +kernel
theorem dX0_takeBack_24 : decode cX0_takeBack 24 = .ok (.aload_n 0, 1) := by decide +kernel
theorem dX0_takeBack_25 : decode cX0_takeBack 25 = .ok (.getfield 9, 3) := by decide +kernel
theorem dX0_takeBack_28 : decode cX0_takeBack 28 = .ok (.iload_n 2, 1) := by decide +kernel
theorem dX0_takeBack_29 : decode cX0_takeBack 29 = .ok (.iaload, 1) := by decide +kernel
theorem dX0_takeBack_30 : decode cX0_takeBack 30 = .ok (.putfield 28, 3) := by decide +kernel
theorem dX0_takeBack_33 : decode cX0_takeBack 33 = .ok (.aload_n 1, 1) := by decide +kernel
theorem dX0_takeBack_34 : decode cX0_takeBack 34 = .ok (.aload_n 0, 1) := by decide +kernel
theorem dX0_takeBack_35 : decode cX0_takeBack 35 = .ok (.getfield 15, 3) := by decide +kernel
theorem dX0_takeBack_38 : decode cX0_takeBack 38 = .ok (.iload_n 2, 1) := by decide +kernel
theorem dX0_takeBack_39 : decode cX0_takeBack 39 = .ok (.iaload, 1) := by decide +kernel
theorem dX0_takeBack_40 : decode cX0_takeBack 40 = .ok (.putfield 32, 3) := by decide +kernel
theorem dX0_takeBack_43 : decode cX0_takeBack 43 = .ok (.aload_n 1, 1) := by decide +kernel
theorem dX0_takeBack_44 : decode cX0_takeBack 44 = .ok (.aload_n 0, 1) := by decide +kernel
theorem dX0_takeBack_45 : decode cX0_takeBack 45 = .ok (.getfield 18, 3) := by decide +kernel
theorem dX0_takeBack_48 : decode cX0_takeBack 48 = .ok (.iload_n 2, 1) := by decide +kernel
theorem dX0_takeBack_49 : decode cX0_takeBack 49 = .ok (.iaload, 1) := by decide +kernel
theorem dX0_takeBack_50 : decode cX0_takeBack 50 = .ok (.putfield 34, 3) := by decide +kernel
theorem dX0_takeBack_53 : decode cX0_takeBack 53 = .ok (.aload_n 0, 1) := by decide +kernel
theorem dX0_takeBack_54 : decode cX0_takeBack 54 = .ok (.getfield 25, 3) := by decide +kernel
theorem dX0_takeBack_57 : decode cX0_takeBack 57 = .ok (.ireturn, 1) := by decide +kernel
theorem dX1_init_0 : decode cX1_init 0 = .ok (.aload_n 0, 1) := by decide +kernel
theorem dX1_init_1 : decode cX1_init 1 = .ok (.invokespecial 3, 3) := by decide +kernel
theorem dX1_init_4 : decode cX1_init 4 = .ok (.aload_n 0, 1) := by decide +kernel
theorem dX1_init_5 : decode cX1_init 5 = .ok (.bipush 16, 2) := by decide +kernel
theorem dX1_init_7 : decode cX1_init 7 = .ok (.newarray .int, 2) := by decide +kernel
theorem dX1_init_9 : decode cX1_init 9 = .ok (.putfield 9, 3) := by decide +kernel
theorem dX1_init_12 : decode cX1_init 12 = .ok (.return_, 1) := by decide +kernel
theorem dX1_begins_0 : decode cX1_begins 0 = .ok (.aload_n 0, 1) := by decide +kernel
theorem dX1_begins_1 : decode cX1_begins 1 = .ok (.getfield 15, 3) := by decide +kernel
theorem dX1_begins_4 : decode cX1_begins 4 = .ok (.bipush 16, 2) := by decide +kernel
theorem dX1_begins_6 : decode cX1_begins 6 = .ok (.if_icmp .ge 23, 3) := by decide +kernel
theorem dX1_begins_9 : decode cX1_begins 9 = .ok (.aload_n 0, 1) := by decide +kernel
theorem dX1_begins_10 : decode cX1_begins 10 = .ok (.getfield 9, 3) := by decide +kernel
theorem dX1_begins_13 : decode cX1_begins 13 = .ok (.aload_n 0, 1) := by decide +kernel
theorem dX1_begins_14 : decode cX1_begins 14 = .ok (.getfield 15, 3) := by decide +kernel
theorem dX1_begins_17 : decode cX1_begins 17 = .ok (.iload_n 1, 1) := by decide +kernel
theorem dX1_begins_18 : decode cX1_begins 18 = .ok (.iastore, 1) := by decide +kernel
theorem dX1_begins_19 : decode cX1_begins 19 = .ok (.aload_n 0, 1) := by decide +kernel
theorem dX1_begins_20 : decode cX1_begins 20 = .ok (.dup, 1) := by decide +kernel
theorem dX1_begins_21 : decode cX1_begins 21 = .ok (.getfield 15, 3) := by decide +kernel
theorem dX1_begins_24 : decode cX1_begins 24 = .ok (.iconst 1, 1) := by decide +kernel
theorem dX1_begins_25 : decode cX1_begins 25 = .ok (.iadd, 1) := by decide +kernel
theorem dX1_begins_26 : decode cX1_begins 26 = .ok (.putfield 15, 3) := by decide +kernel
theorem dX1_begins_29 : decode cX1_begins 29 = .ok (.return_, 1) := by decide +kernel
theorem dX1_sizeOf_0 : decode cX1_sizeOf 0 = .ok (.iload_n 2, 1) := by decide +kernel
theorem dX1_sizeOf_1 : decode cX1_sizeOf 1 = .ok (.bipush 8, 2) := by decide +kernel
theorem dX1_sizeOf_3 : decode cX1_sizeOf 3 = .ok (.if_icmp .le 5, 3) := by decide +kernel
theorem dX1_sizeOf_6 : decode cX1_sizeOf 6 = .ok (.iconst 0, 1) := by decide +kernel
theorem dX1_sizeOf_7 : decode cX1_sizeOf 7 = .ok (.ireturn, 1) := by decide +kernel
theorem dX1_sizeOf_8 : decode cX1_sizeOf 8 = .ok (.aload_n 1, 1) := by decide +kernel
theorem dX1_sizeOf_9 : decode cX1_sizeOf 9 = .ok (.getfield 19, 3) := by decide +kernel
theorem dX1_sizeOf_12 : decode cX1_sizeOf 12 = .ok (.tableswitch 62 1 5 #[36, 43, 36, 50, 56], 36) := by decide +kernel
theorem dX1_sizeOf_48 : decode cX1_sizeOf 48 = .ok (.aload_n 0, 1) := by decide +kernel
theorem dX1_sizeOf_49 : decode cX1_sizeOf 49 = .ok (.aload_n 1, 1) := by decide +kernel
theorem dX1_sizeOf_50 : decode cX1_sizeOf 50 = .ok (.iload_n 2, 1) := by decide +kernel
theorem dX1_sizeOf_51 : decode cX1_sizeOf 51 = .ok (.invokevirtual 24, 3) := by decide +kernel
theorem dX1_sizeOf_54 : decode cX1_sizeOf 54 = .ok (.ireturn, 1) := by decide +kernel
theorem dX1_sizeOf_55 : decode cX1_sizeOf 55 = .ok (.aload_n 0, 1) := by decide +kernel
theorem dX1_sizeOf_56 : decode cX1_sizeOf 56 = .ok (.aload_n 1, 1) := by decide +kernel
theorem dX1_sizeOf_57 : decode cX1_sizeOf 57 = .ok (.iload_n 2, 1) := by decide +kernel
theorem dX1_sizeOf_58 : decode cX1_sizeOf 58 = .ok (.invokevirtual 28, 3) := by decide +kernel
theorem dX1_sizeOf_61 : decode cX1_sizeOf 61 = .ok (.ireturn, 1) := by decide +kernel
theorem dX1_sizeOf_62 : decode cX1_sizeOf 62 = .ok (.aload_n 0, 1) := by decide +kernel
theorem dX1_sizeOf_63 : decode cX1_sizeOf 63 = .ok (.aload_n 1, 1) := by decide +kernel
theorem dX1_sizeOf_64 : decode cX1_sizeOf 64 = .ok (.invokevirtual 31, 3) := by decide +kernel
theorem dX1_sizeOf_67 : decode cX1_sizeOf 67 = .ok (.ireturn, 1) := by decide +kernel
theorem dX1_sizeOf_68 : decode cX1_sizeOf 68 = .ok (.aload_n 0, 1) := by decide +kernel
theorem dX1_sizeOf_69 : decode cX1_sizeOf 69 = .ok (.aload_n 1, 1) := by decide +kernel
theorem dX1_sizeOf_70 : decode cX1_sizeOf 70 = .ok (.invokevirtual 35, 3) := by decide +kernel
theorem dX1_sizeOf_73 : decode cX1_sizeOf 73 = .ok (.ireturn, 1) := by decide +kernel
theorem dX1_sizeOf_74 : decode cX1_sizeOf 74 = .ok (.aload_n 0, 1) := by decide +kernel
theorem dX1_sizeOf_75 : decode cX1_sizeOf 75 = .ok (.aload_n 1, 1) := by decide +kernel
theorem dX1_sizeOf_76 : decode cX1_sizeOf 76 = .ok (.invokevirtual 38, 3) := by decide +kernel
theorem dX1_sizeOf_79 : decode cX1_sizeOf 79 = .ok (.ireturn, 1) := by decide +kernel
theorem dX1_sizeOfAny_0 : decode cX1_sizeOfAny 0 = .ok (.aload_n 0, 1) := by decide +kernel
theorem dX1_sizeOfAny_1 : decode cX1_sizeOfAny 1 = .ok (.bipush 10, 2) := by decide +kernel
theorem dX1_sizeOfAny_3 : decode cX1_sizeOfAny 3 = .ok (.invokevirtual 41, 3) := by decide +kernel
theorem dX1_sizeOfAny_6 : decode cX1_sizeOfAny 6 = .ok (.aload_n 1, 1) := by decide +kernel
theorem dX1_sizeOfAny_7 : decode cX1_sizeOfAny 7 = .ok (.invokevirtual 45, 3) := by decide +kernel
theorem dX1_sizeOfAny_10 : decode cX1_sizeOfAny 10 = .ok (.ireturn, 1) := by decide +kernel
theorem dX1_sizeOfGiven_0 : decode cX1_sizeOfGiven 0 = .ok (.aload_n 0, 1) := by decide +kernel
theorem dX1_sizeOfGiven_1 : decode cX1_sizeOfGiven 1 = .ok (.bipush 11, 2) := by decide +kernel
theorem dX1_sizeOfGiven_3 : decode cX1_sizeOfGiven 3 = .ok (.invokevirtual 41, 3) := by decide +kernel
theorem dX1_sizeOfGiven_6 : decode cX1_sizeOfGiven 6 = .ok (.aload_n 0, 1) := by decide +kernel
theorem dX1_sizeOfGiven_7 : decode cX1_sizeOfGiven 7 = .ok (.aload_n 1, 1) := by decide +kernel
theorem dX1_sizeOfGiven_8 : decode cX1_sizeOfGiven 8 = .ok (.invokevirtual 38, 3) := by decide +kernel
theorem dX1_sizeOfGiven_11 : decode cX1_sizeOfGiven 11 = .ok (.istore_n 3, 1) := by decide +kernel
theorem dX1_sizeOfGiven_12 : decode cX1_sizeOfGiven 12 = .ok (.iload_n 3, 1) := by decide +kernel
theorem dX1_sizeOfGiven_13 : decode cX1_sizeOfGiven 13 = .ok (.aload_n 0, 1) := by decide +kernel
theorem dX1_sizeOfGiven_14 : decode cX1_sizeOfGiven 14 = .ok (.aload_n 1, 1) := by decide +kernel
theorem dX1_sizeOfGiven_15 : decode cX1_sizeOfGiven 15 = .ok (.iload_n 2, 1) := by decide +kernel
theorem dX1_sizeOfGiven_16 : decode cX1_sizeOfGiven 16 = .ok (.iconst 1, 1) := by decide +kernel
theorem dX1_sizeOfGiven_17 : decode cX1_sizeOfGiven 17 = .ok (.iadd, 1) := by decide +kernel
theorem dX1_sizeOfGiven_18 : decode cX1_sizeOfGiven 18 = .ok (.invokevirtual 49, 3) := by decide +kernel
theorem dX1_sizeOfGiven_21 : decode cX1_sizeOfGiven 21 = .ok (.iadd, 1) := by decide +kernel
theorem dX1_sizeOfGiven_22 : decode cX1_sizeOfGiven 22 = .ok (.ireturn, 1) := by decide +kernel
theorem dX1_sizeOfAxiom_0 : decode cX1_sizeOfAxiom 0 = .ok (.aload_n 0, 1) := by decide +kernel
theorem dX1_sizeOfAxiom_1 : decode cX1_sizeOfAxiom 1 = .ok (.bipush 12, 2) := by decide +kernel
theorem dX1_sizeOfAxiom_3 : decode cX1_sizeOfAxiom 3 = .ok (.invokevirtual 41, 3) := by decide +kernel
theorem dX1_sizeOfAxiom_6 : decode cX1_sizeOfAxiom 6 = .ok (.aload_n 0, 1) := by decide +kernel
theorem dX1_sizeOfAxiom_7 : decode cX1_sizeOfAxiom 7 = .ok (.aload_n 1, 1) := by decide +kernel
theorem dX1_sizeOfAxiom_8 : decode cX1_sizeOfAxiom 8 = .ok (.iload_n 2, 1) := by decide +kernel
theorem dX1_sizeOfAxiom_9 : decode cX1_sizeOfAxiom 9 = .ok (.invokevirtual 24, 3) := by decide +kernel
theorem dX1_sizeOfAxiom_12 : decode cX1_sizeOfAxiom 12 = .ok (.ineg, 1) := by decide +kernel
theorem dX1_sizeOfAxiom_13 : decode cX1_sizeOfAxiom 13 = .ok (.ireturn, 1) := by decide +kernel
theorem dX1_sizeOfDerived_0 : decode cX1_sizeOfDerived 0 = .ok (.aload_n 0, 1) := by decide +kernel
theorem dX1_sizeOfDerived_1 : decode cX1_sizeOfDerived 1 = .ok (.bipush 13, 2) := by decide +kernel
theorem dX1_sizeOfDerived_3 : decode cX1_sizeOfDerived 3 = .ok (.invokevirtual 41, 3) := by decide +kernel
theorem dX1_sizeOfDerived_6 : decode cX1_sizeOfDerived 6 = .ok (.aload_n 0, 1) := by decide +kernel
theorem dX1_sizeOfDerived_7 : decode cX1_sizeOfDerived 7 = .ok (.aload_n 1, 1) := by decide +kernel
theorem dX1_sizeOfDerived_8 : decode cX1_sizeOfDerived 8 = .ok (.invokevirtual 38, 3) := by decide +kernel
theorem dX1_sizeOfDerived_11 : decode cX1_sizeOfDerived 11 = .ok (.bipush 100, 2) := by decide +kernel
theorem dX1_sizeOfDerived_13 : decode cX1_sizeOfDerived 13 = .ok (.isub, 1) := by decide +kernel
theorem dX1_sizeOfDerived_14 : decode cX1_sizeOfDerived 14 = .ok (.ireturn, 1) := by decide +kernel
theorem dX1_sizeOfClaimed_0 : decode cX1_sizeOfClaimed 0 = .ok (.aload_n 0, 1) := by decide +kernel
theorem dX1_sizeOfClaimed_1 : decode cX1_sizeOfClaimed 1 = .ok (.bipush 14, 2) := by decide +kernel
theorem dX1_sizeOfClaimed_3 : decode cX1_sizeOfClaimed 3 = .ok (.invokevirtual 41, 3) := by decide +kernel
theorem dX1_sizeOfClaimed_6 : decode cX1_sizeOfClaimed 6 = .ok (.iconst 2, 1) := by decide +kernel
theorem dX1_sizeOfClaimed_7 : decode cX1_sizeOfClaimed 7 = .ok (.aload_n 0, 1) := by decide +kernel
theorem dX1_sizeOfClaimed_8 : decode cX1_sizeOfClaimed 8 = .ok (.aload_n 1, 1) := by decide +kernel
theorem dX1_sizeOfClaimed_9 : decode cX1_sizeOfClaimed 9 = .ok (.invokevirtual 31, 3) := by decide +kernel
theorem dX1_sizeOfClaimed_12 : decode cX1_sizeOfClaimed 12 = .ok (.imul, 1) := by decide +kernel
theorem dX1_sizeOfClaimed_13 : decode cX1_sizeOfClaimed 13 = .ok (.ireturn, 1) := by decide +kernel
theorem dX1_markOf_0 : decode cX1_markOf 0 = .ok (.iload_n 2, 1) := by decide +kernel
theorem dX1_markOf_1 : decode cX1_markOf 1 = .ok (.bipush 8, 2) := by decide +kernel
theorem dX1_markOf_3 : decode cX1_markOf 3 = .ok (.if_icmp .le 5, 3) := by decide +kernel
theorem dX1_markOf_6 : decode cX1_markOf 6 = .ok (.iconst 0, 1) := by decide +kernel
theorem dX1_markOf_7 : decode cX1_markOf 7 = .ok (.ireturn, 1) := by decide +kernel
theorem dX1_markOf_8 : decode cX1_markOf 8 = .ok (.aload_n 1, 1) := by decide +kernel
theorem dX1_markOf_9 : decode cX1_markOf 9 = .ok (.getfield 19, 3) := by decide +kernel
theorem dX1_markOf_12 : decode cX1_markOf 12 = .ok (.tableswitch 61 1 5 #[36, 42, 48, 54, 54], 36) := by decide +kernel
theorem dX1_markOf_48 : decode cX1_markOf 48 = .ok (.aload_n 0, 1) := by decide +kernel
theorem dX1_markOf_49 : decode cX1_markOf 49 = .ok (.aload_n 1, 1) := by decide +kernel
theorem dX1_markOf_50 : decode cX1_markOf 50 = .ok (.invokevirtual 52, 3) := by decide +kernel
theorem dX1_markOf_53 : decode cX1_markOf 53 = .ok (.ireturn, 1) := by decide +kernel
theorem dX1_markOf_54 : decode cX1_markOf 54 = .ok (.aload_n 0, 1) := by decide +kernel
theorem dX1_markOf_55 : decode cX1_markOf 55 = .ok (.aload_n 1, 1) := by decide +kernel
theorem dX1_markOf_56 : decode cX1_markOf 56 = .ok (.invokevirtual 55, 3) := by decide +kernel
theorem dX1_markOf_59 : decode cX1_markOf 59 = .ok (.ireturn, 1) := by decide +kernel
theorem dX1_markOf_60 : decode cX1_markOf 60 = .ok (.aload_n 0, 1) := by decide +kernel
theorem dX1_markOf_61 : decode cX1_markOf 61 = .ok (.aload_n 1, 1) := by decide +kernel
theorem dX1_markOf_62 : decode cX1_markOf 62 = .ok (.invokevirtual 58, 3) := by decide +kernel
theorem dX1_markOf_65 : decode cX1_markOf 65 = .ok (.ireturn, 1) := by decide +kernel
theorem dX1_markOf_66 : decode cX1_markOf 66 = .ok (.aload_n 0, 1) := by decide +kernel
theorem dX1_markOf_67 : decode cX1_markOf 67 = .ok (.aload_n 1, 1) := by decide +kernel
theorem dX1_markOf_68 : decode cX1_markOf 68 = .ok (.iload_n 2, 1) := by decide +kernel
theorem dX1_markOf_69 : decode cX1_markOf 69 = .ok (.invokevirtual 61, 3) := by decide +kernel
theorem dX1_markOf_72 : decode cX1_markOf 72 = .ok (.ireturn, 1) := by decide +kernel
theorem dX1_markOf_73 : decode cX1_markOf 73 = .ok (.aload_n 0, 1) := by decide +kernel
theorem dX1_markOf_74 : decode cX1_markOf 74 = .ok (.aload_n 1, 1) := by decide +kernel
theorem dX1_markOf_75 : decode cX1_markOf 75 = .ok (.invokevirtual 64, 3) := by decide +kernel
theorem dX1_markOf_78 : decode cX1_markOf 78 = .ok (.ireturn, 1) := by decide +kernel
theorem dX1_markOfAny_0 : decode cX1_markOfAny 0 = .ok (.aload_n 0, 1) := by decide +kernel
theorem dX1_markOfAny_1 : decode cX1_markOfAny 1 = .ok (.bipush 20, 2) := by decide +kernel
theorem dX1_markOfAny_3 : decode cX1_markOfAny 3 = .ok (.invokevirtual 41, 3) := by decide +kernel
theorem dX1_markOfAny_6 : decode cX1_markOfAny 6 = .ok (.aload_n 1, 1) := by decide +kernel
theorem dX1_markOfAny_7 : decode cX1_markOfAny 7 = .ok (.getfield 67, 3) := by decide +kernel
theorem dX1_markOfAny_10 : decode cX1_markOfAny 10 = .ok (.ireturn, 1) := by decide +kernel
theorem dX1_markOfGiven_0 : decode cX1_markOfGiven 0 = .ok (.aload_n 0, 1) := by decide +kernel
theorem dX1_markOfGiven_1 : decode cX1_markOfGiven 1 = .ok (.bipush 21, 2) := by decide +kernel
theorem dX1_markOfGiven_3 : decode cX1_markOfGiven 3 = .ok (.invokevirtual 41, 3) := by decide +kernel
theorem dX1_markOfGiven_6 : decode cX1_markOfGiven 6 = .ok (.aload_n 0, 1) := by decide +kernel
theorem dX1_markOfGiven_7 : decode cX1_markOfGiven 7 = .ok (.aload_n 1, 1) := by decide +kernel
theorem dX1_markOfGiven_8 : decode cX1_markOfGiven 8 = .ok (.invokevirtual 64, 3) := by decide +kernel
theorem dX1_markOfGiven_11 : decode cX1_markOfGiven 11 = .ok (.aload_n 1, 1) := by decide +kernel
theorem dX1_markOfGiven_12 : decode cX1_markOfGiven 12 = .ok (.invokevirtual 70, 3) := by decide +kernel
theorem dX1_markOfGiven_15 : decode cX1_markOfGiven 15 = .ok (.iadd, 1) := by decide +kernel
theorem dX1_markOfGiven_16 : decode cX1_markOfGiven 16 = .ok (.ireturn, 1) := by decide +kernel
theorem dX1_markOfBound_0 : decode cX1_markOfBound 0 = .ok (.aload_n 0, 1) := by decide +kernel
theorem dX1_markOfBound_1 : decode cX1_markOfBound 1 = .ok (.bipush 22, 2) := by decide +kernel
theorem dX1_markOfBound_3 : decode cX1_markOfBound 3 = .ok (.invokevirtual 41, 3) := by decide +kernel
theorem dX1_markOfBound_6 : decode cX1_markOfBound 6 = .ok (.aload_n 0, 1) := by decide +kernel
theorem dX1_markOfBound_7 : decode cX1_markOfBound 7 = .ok (.aload_n 1, 1) := by decide +kernel
theorem dX1_markOfBound_8 : decode cX1_markOfBound 8 = .ok (.invokevirtual 52, 3) := by decide +kernel
theorem dX1_markOfBound_11 : decode cX1_markOfBound 11 = .ok (.sipush 1000, 3) := by decide +kernel
theorem dX1_markOfBound_14 : decode cX1_markOfBound 14 = .ok (.isub, 1) := by decide +kernel
theorem dX1_markOfBound_15 : decode cX1_markOfBound 15 = .ok (.ireturn, 1) := by decide +kernel
theorem dX1_markOfDerived_0 : decode cX1_markOfDerived 0 = .ok (.aload_n 0, 1) := by decide +kernel
theorem dX1_markOfDerived_1 : decode cX1_markOfDerived 1 = .ok (.bipush 23, 2) := by decide +kernel
theorem dX1_markOfDerived_3 : decode cX1_markOfDerived 3 = .ok (.invokevirtual 41, 3) := by decide +kernel
theorem dX1_markOfDerived_6 : decode cX1_markOfDerived 6 = .ok (.aload_n 0, 1) := by decide +kernel
theorem dX1_markOfDerived_7 : decode cX1_markOfDerived 7 = .ok (.aload_n 1, 1) := by decide +kernel
theorem dX1_markOfDerived_8 : decode cX1_markOfDerived 8 = .ok (.invokevirtual 64, 3) := by decide +kernel
theorem dX1_markOfDerived_11 : decode cX1_markOfDerived 11 = .ok (.istore_n 3, 1) := by decide +kernel
theorem dX1_markOfDerived_12 : decode cX1_markOfDerived 12 = .ok (.iload_n 3, 1) := by decide +kernel
theorem dX1_markOfDerived_13 : decode cX1_markOfDerived 13 = .ok (.aload_n 0, 1) := by decide +kernel
theorem dX1_markOfDerived_14 : decode cX1_markOfDerived 14 = .ok (.aload_n 1, 1) := by decide +kernel
theorem dX1_markOfDerived_15 : decode cX1_markOfDerived 15 = .ok (.iload_n 2, 1) := by decide +kernel
theorem dX1_markOfDerived_16 : decode cX1_markOfDerived 16 = .ok (.iconst 1, 1) := by decide +kernel
theorem dX1_markOfDerived_17 : decode cX1_markOfDerived 17 = .ok (.iadd, 1) := by decide +kernel
theorem dX1_markOfDerived_18 : decode cX1_markOfDerived 18 = .ok (.invokevirtual 73, 3) := by decide +kernel
theorem dX1_markOfDerived_21 : decode cX1_markOfDerived 21 = .ok (.isub, 1) := by decide +kernel
theorem dX1_markOfDerived_22 : decode cX1_markOfDerived 22 = .ok (.ireturn, 1) := by decide +kernel
theorem dX1_markOfAxiom_0 : decode cX1_markOfAxiom 0 = .ok (.aload_n 0, 1) := by decide +kernel
theorem dX1_markOfAxiom_1 : decode cX1_markOfAxiom 1 = .ok (.bipush 24, 2) := by decide +kernel
theorem dX1_markOfAxiom_3 : decode cX1_markOfAxiom 3 = .ok (.invokevirtual 41, 3) := by decide +kernel
theorem dX1_markOfAxiom_6 : decode cX1_markOfAxiom 6 = .ok (.iconst 2, 1) := by decide +kernel
theorem dX1_markOfAxiom_7 : decode cX1_markOfAxiom 7 = .ok (.aload_n 0, 1) := by decide +kernel
theorem dX1_markOfAxiom_8 : decode cX1_markOfAxiom 8 = .ok (.aload_n 1, 1) := by decide +kernel
theorem dX1_markOfAxiom_9 : decode cX1_markOfAxiom 9 = .ok (.invokevirtual 52, 3) := by decide +kernel
theorem dX1_markOfAxiom_12 : decode cX1_markOfAxiom 12 = .ok (.imul, 1) := by decide +kernel
theorem dX1_markOfAxiom_13 : decode cX1_markOfAxiom 13 = .ok (.ireturn, 1) := by decide +kernel
theorem dX2_init_0 : decode cX2_init 0 = .ok (.aload_n 0, 1) := by decide +kernel
theorem dX2_init_1 : decode cX2_init 1 = .ok (.invokespecial 3, 3) := by decide +kernel
theorem dX2_init_4 : decode cX2_init 4 = .ok (.aload_n 0, 1) := by decide +kernel
theorem dX2_init_5 : decode cX2_init 5 = .ok (.bipush 30, 2) := by decide +kernel
theorem dX2_init_7 : decode cX2_init 7 = .ok (.anewarray 9, 3) := by decide +kernel
theorem dX2_init_10 : decode cX2_init 10 = .ok (.putfield 11, 3) := by decide +kernel
theorem dX2_init_13 : decode cX2_init 13 = .ok (.aload_n 0, 1) := by decide +kernel
theorem dX2_init_14 : decode cX2_init 14 = .ok (.bipush 8, 2) := by decide +kernel
theorem dX2_init_16 : decode cX2_init 16 = .ok (.newarray .int, 2) := by decide +kernel
theorem dX2_init_18 : decode cX2_init 18 = .ok (.putfield 17, 3) := by decide +kernel
theorem dX2_init_21 : decode cX2_init 21 = .ok (.aload_n 0, 1) := by decide +kernel
theorem dX2_init_22 : decode cX2_init 22 = .ok (.ldc 21, 2) := by decide +kernel
theorem dX2_init_24 : decode cX2_init 24 = .ok (.putfield 22, 3) := by decide +kernel
theorem dX2_init_27 : decode cX2_init 27 = .ok (.iconst 0, 1) := by decide +kernel
theorem dX2_init_28 : decode cX2_init 28 = .ok (.istore_n 1, 1) := by decide +kernel
theorem dX2_init_29 : decode cX2_init 29 = .ok (.iload_n 1, 1) := by decide +kernel
theorem dX2_init_30 : decode cX2_init 30 = .ok (.bipush 30, 2) := by decide +kernel
theorem dX2_init_32 : decode cX2_init 32 = .ok (.if_icmp .ge 23, 3) := by decide +kernel
theorem dX2_init_35 : decode cX2_init 35 = .ok (.aload_n 0, 1) := by decide +kernel
theorem dX2_init_36 : decode cX2_init 36 = .ok (.getfield 11, 3) := by decide +kernel
theorem dX2_init_39 : decode cX2_init 39 = .ok (.iload_n 1, 1) := by decide +kernel
theorem dX2_init_40 : decode cX2_init 40 = .ok (.new 9, 3) := by decide +kernel
theorem dX2_init_43 : decode cX2_init 43 = .ok (.dup, 1) := by decide +kernel
theorem dX2_init_44 : decode cX2_init 44 = .ok (.iload_n 1, 1) := by decide +kernel
theorem dX2_init_45 : decode cX2_init 45 = .ok (.invokespecial 26, 3) := by decide +kernel
theorem dX2_init_48 : decode cX2_init 48 = .ok (.aastore, 1) := by decide +kernel
theorem dX2_init_49 : decode cX2_init 49 = .ok (.iinc 1 1, 3) := by decide +kernel
theorem dX2_init_52 : decode cX2_init 52 = .ok (.goto (-23), 3) := by decide +kernel
theorem dX2_init_55 : decode cX2_init 55 = .ok (.return_, 1) := by decide +kernel
theorem dX2_begin_0 : decode cX2_begin 0 = .ok (.aload_n 1, 1) := by decide +kernel
theorem dX2_begin_1 : decode cX2_begin 1 = .ok (.iconst 0, 1) := by decide +kernel
theorem dX2_begin_2 : decode cX2_begin 2 = .ok (.aload_n 0, 1) := by decide +kernel
theorem dX2_begin_3 : decode cX2_begin 3 = .ok (.getfield 17, 3) := by decide +kernel
theorem dX2_begin_6 : decode cX2_begin 6 = .ok (.iconst 0, 1) := by decide +kernel
theorem dX2_begin_7 : decode cX2_begin 7 = .ok (.bipush 8, 2) := by decide +kernel
theorem dX2_begin_9 : decode cX2_begin 9 = .ok (.invokestatic 29, 3) := by decide +kernel
theorem dX2_begin_12 : decode cX2_begin 12 = .ok (.aload_n 0, 1) := by decide +kernel
theorem dX2_begin_13 : decode cX2_begin 13 = .ok (.iconst 1, 1) := by decide +kernel
theorem dX2_begin_14 : decode cX2_begin 14 = .ok (.putfield 35, 3) := by decide +kernel
theorem dX2_begin_17 : decode cX2_begin 17 = .ok (.aload_n 0, 1) := by decide +kernel
theorem dX2_begin_18 : decode cX2_begin 18 = .ok (.iconst 0, 1) := by decide +kernel
theorem dX2_begin_19 : decode cX2_begin 19 = .ok (.putfield 39, 3) := by decide +kernel
theorem dX2_begin_22 : decode cX2_begin 22 = .ok (.aload_n 0, 1) := by decide +kernel
theorem dX2_begin_23 : decode cX2_begin 23 = .ok (.iconst 0, 1) := by decide +kernel
theorem dX2_begin_24 : decode cX2_begin 24 = .ok (.putfield 42, 3) := by decide +kernel
theorem dX2_begin_27 : decode cX2_begin 27 = .ok (.aload_n 0, 1) := by decide +kernel
theorem dX2_begin_28 : decode cX2_begin 28 = .ok (.ldc 21, 2) := by decide +kernel
theorem dX2_begin_30 : decode cX2_begin 30 = .ok (.putfield 22, 3) := by decide +kernel
theorem dX2_begin_33 : decode cX2_begin 33 = .ok (.return_, 1) := by decide +kernel
theorem dX2_become_0 : decode cX2_become 0 = .ok (.aload_n 0, 1) := by decide +kernel
theorem dX2_become_1 : decode cX2_become 1 = .ok (.aload_n 1, 1) := by decide +kernel
theorem dX2_become_2 : decode cX2_become 2 = .ok (.getfield 17, 3) := by decide +kernel
theorem dX2_become_5 : decode cX2_become 5 = .ok (.invokevirtual 45, 3) := by decide +kernel
theorem dX2_become_8 : decode cX2_become 8 = .ok (.iconst 0, 1) := by decide +kernel
theorem dX2_become_9 : decode cX2_become 9 = .ok (.istore_n 2, 1) := by decide +kernel
theorem dX2_become_10 : decode cX2_become 10 = .ok (.iload_n 2, 1) := by decide +kernel
theorem dX2_become_11 : decode cX2_become 11 = .ok (.aload_n 1, 1) := by decide +kernel
theorem dX2_become_12 : decode cX2_become 12 = .ok (.getfield 39, 3) := by decide +kernel
theorem dX2_become_15 : decode cX2_become 15 = .ok (.if_icmp .ge 24, 3) := by decide +kernel
theorem dX2_become_18 : decode cX2_become 18 = .ok (.aload_n 0, 1) := by decide +kernel
theorem dX2_become_19 : decode cX2_become 19 = .ok (.getfield 11, 3) := by decide +kernel
theorem dX2_become_22 : decode cX2_become 22 = .ok (.iload_n 2, 1) := by decide +kernel
theorem dX2_become_23 : decode cX2_become 23 = .ok (.aaload, 1) := by decide +kernel
theorem dX2_become_24 : decode cX2_become 24 = .ok (.aload_n 1, 1) := by decide +kernel
theorem dX2_become_25 : decode cX2_become 25 = .ok (.getfield 11, 3) := by decide +kernel
theorem dX2_become_28 : decode cX2_become 28 = .ok (.iload_n 2, 1) := by decide +kernel
theorem dX2_become_29 : decode cX2_become 29 = .ok (.aaload, 1) := by decide +kernel
theorem dX2_become_30 : decode cX2_become 30 = .ok (.invokevirtual 49, 3) := by decide +kernel
theorem dX2_become_33 : decode cX2_become 33 = .ok (.iinc 2 1, 3) := by decide +kernel
theorem dX2_become_36 : decode cX2_become 36 = .ok (.goto (-26), 3) := by decide +kernel
theorem dX2_become_39 : decode cX2_become 39 = .ok (.aload_n 0, 1) := by decide +kernel
theorem dX2_become_40 : decode cX2_become 40 = .ok (.aload_n 1, 1) := by decide +kernel
theorem dX2_become_41 : decode cX2_become 41 = .ok (.getfield 39, 3) := by decide +kernel
theorem dX2_become_44 : decode cX2_become 44 = .ok (.putfield 39, 3) := by decide +kernel
theorem dX2_become_47 : decode cX2_become 47 = .ok (.aload_n 0, 1) := by decide +kernel
theorem dX2_become_48 : decode cX2_become 48 = .ok (.aload_n 1, 1) := by decide +kernel
theorem dX2_become_49 : decode cX2_become 49 = .ok (.getfield 42, 3) := by decide +kernel
theorem dX2_become_52 : decode cX2_become 52 = .ok (.putfield 42, 3) := by decide +kernel
theorem dX2_become_55 : decode cX2_become 55 = .ok (.aload_n 0, 1) := by decide +kernel
theorem dX2_become_56 : decode cX2_become 56 = .ok (.aload_n 1, 1) := by decide +kernel
theorem dX2_become_57 : decode cX2_become 57 = .ok (.getfield 22, 3) := by decide +kernel
theorem dX2_become_60 : decode cX2_become 60 = .ok (.putfield 22, 3) := by decide +kernel
theorem dX2_become_63 : decode cX2_become 63 = .ok (.return_, 1) := by decide +kernel
theorem dX2_has_0 : decode cX2_has 0 = .ok (.iload_n 1, 1) := by decide +kernel
theorem dX2_has_1 : decode cX2_has 1 = .ok (.ifCond .lt 23, 3) := by decide +kernel
theorem dX2_has_4 : decode cX2_has 4 = .ok (.iload_n 1, 1) := by decide +kernel
theorem dX2_has_5 : decode cX2_has 5 = .ok (.aload_n 0, 1) := by decide +kernel
theorem dX2_has_6 : decode cX2_has 6 = .ok (.getfield 39, 3) := by decide +kernel
theorem dX2_has_9 : decode cX2_has 9 = .ok (.if_icmp .ge 15, 3) := by decide +kernel
theorem dX2_has_12 : decode cX2_has 12 = .ok (.aload_n 0, 1) := by decide +kernel
theorem dX2_has_13 : decode cX2_has 13 = .ok (.iload_n 1, 1) := by decide +kernel
theorem dX2_has_14 : decode cX2_has 14 = .ok (.invokevirtual 53, 3) := by decide +kernel
theorem dX2_has_17 : decode cX2_has 17 = .ok (.ifCond .eq 7, 3) := by decide +kernel
theorem dX2_has_20 : decode cX2_has 20 = .ok (.iconst 1, 1) := by decide +kernel
theorem dX2_has_21 : decode cX2_has 21 = .ok (.goto 4, 3) := by decide +kernel
theorem dX2_has_24 : decode cX2_has 24 = .ok (.iconst 0, 1) := by decide +kernel
theorem dX2_has_25 : decode cX2_has 25 = .ok (.ireturn, 1) := by decide +kernel
theorem dX2_isLive_0 : decode cX2_isLive 0 = .ok (.aload_n 0, 1) := by decide +kernel
theorem dX2_isLive_1 : decode cX2_isLive 1 = .ok (.getfield 42, 3) := by decide +kernel
theorem dX2_isLive_4 : decode cX2_isLive 4 = .ok (.iload_n 1, 1) := by decide +kernel
theorem dX2_isLive_5 : decode cX2_isLive 5 = .ok (.iushr, 1) := by decide +kernel
theorem dX2_isLive_6 : decode cX2_isLive 6 = .ok (.iconst 1, 1) := by decide +kernel
theorem dX2_isLive_7 : decode cX2_isLive 7 = .ok (.iand, 1) := by decide +kernel
theorem dX2_isLive_8 : decode cX2_isLive 8 = .ok (.iconst 1, 1) := by decide +kernel
theorem dX2_isLive_9 : decode cX2_isLive 9 = .ok (.if_icmp .ne 7, 3) := by decide +kernel
theorem dX2_isLive_12 : decode cX2_isLive 12 = .ok (.iconst 1, 1) := by decide +kernel
theorem dX2_isLive_13 : decode cX2_isLive 13 = .ok (.goto 4, 3) := by decide +kernel
theorem dX2_isLive_16 : decode cX2_isLive 16 = .ok (.iconst 0, 1) := by decide +kernel
theorem dX2_isLive_17 : decode cX2_isLive 17 = .ok (.ireturn, 1) := by decide +kernel
theorem dX2_isFull_0 : decode cX2_isFull 0 = .ok (.aload_n 0, 1) := by decide +kernel
theorem dX2_isFull_1 : decode cX2_isFull 1 = .ok (.getfield 39, 3) := by decide +kernel
theorem dX2_isFull_4 : decode cX2_isFull 4 = .ok (.bipush 30, 2) := by decide +kernel
theorem dX2_isFull_6 : decode cX2_isFull 6 = .ok (.if_icmp .lt 7, 3) := by decide +kernel
theorem dX2_isFull_9 : decode cX2_isFull 9 = .ok (.iconst 1, 1) := by decide +kernel
theorem dX2_isFull_10 : decode cX2_isFull 10 = .ok (.goto 4, 3) := by decide +kernel
theorem dX2_isFull_13 : decode cX2_isFull 13 = .ok (.iconst 0, 1) := by decide +kernel
theorem dX2_isFull_14 : decode cX2_isFull 14 = .ok (.ireturn, 1) := by decide +kernel
theorem dX2_next_0 : decode cX2_next 0 = .ok (.aload_n 0, 1) := by decide +kernel
theorem dX2_next_1 : decode cX2_next 1 = .ok (.getfield 11, 3) := by decide +kernel
theorem dX2_next_4 : decode cX2_next 4 = .ok (.aload_n 0, 1) := by decide +kernel
theorem dX2_next_5 : decode cX2_next 5 = .ok (.getfield 39, 3) := by decide +kernel
theorem dX2_next_8 : decode cX2_next 8 = .ok (.aaload, 1) := by decide +kernel
theorem dX2_next_9 : decode cX2_next 9 = .ok (.areturn, 1) := by decide +kernel
theorem dX2_add_0 : decode cX2_add 0 = .ok (.aload_n 0, 1) := by decide +kernel
theorem dX2_add_1 : decode cX2_add 1 = .ok (.getfield 11, 3) := by decide +kernel
theorem dX2_add_4 : decode cX2_add 4 = .ok (.aload_n 0, 1) := by decide +kernel
theorem dX2_add_5 : decode cX2_add 5 = .ok (.getfield 39, 3) := by decide +kernel
theorem dX2_add_8 : decode cX2_add 8 = .ok (.aaload, 1) := by decide +kernel
theorem dX2_add_9 : decode cX2_add 9 = .ok (.iload_n 1, 1) := by decide +kernel
theorem dX2_add_10 : decode cX2_add 10 = .ok (.putfield 57, 3) := by decide +kernel
theorem dX2_add_13 : decode cX2_add 13 = .ok (.aload_n 0, 1) := by decide +kernel
theorem dX2_add_14 : decode cX2_add 14 = .ok (.dup, 1) := by decide +kernel
theorem dX2_add_15 : decode cX2_add 15 = .ok (.getfield 42, 3) := by decide +kernel
theorem dX2_add_18 : decode cX2_add 18 = .ok (.iconst 1, 1) := by decide +kernel
theorem dX2_add_19 : decode cX2_add 19 = .ok (.aload_n 0, 1) := by decide +kernel
theorem dX2_add_20 : decode cX2_add 20 = .ok (.getfield 39, 3) := by decide +kernel
theorem dX2_add_23 : decode cX2_add 23 = .ok (.ishl, 1) := by decide +kernel
theorem dX2_add_24 : decode cX2_add 24 = .ok (.ior, 1) := by decide +kernel
theorem dX2_add_25 : decode cX2_add 25 = .ok (.putfield 42, 3) := by decide +kernel
theorem dX2_add_28 : decode cX2_add 28 = .ok (.aload_n 0, 1) := by decide +kernel
theorem dX2_add_29 : decode cX2_add 29 = .ok (.dup, 1) := by decide +kernel
theorem dX2_add_30 : decode cX2_add 30 = .ok (.getfield 39, 3) := by decide +kernel
theorem dX2_add_33 : decode cX2_add 33 = .ok (.iconst 1, 1) := by decide +kernel
theorem dX2_add_34 : decode cX2_add 34 = .ok (.iadd, 1) := by decide +kernel
theorem dX2_add_35 : decode cX2_add 35 = .ok (.putfield 39, 3) := by decide +kernel
theorem dX2_add_38 : decode cX2_add 38 = .ok (.aload_n 0, 1) := by decide +kernel
theorem dX2_add_39 : decode cX2_add 39 = .ok (.getfield 39, 3) := by decide +kernel
theorem dX2_add_42 : decode cX2_add 42 = .ok (.iconst 1, 1) := by decide +kernel
theorem dX2_add_43 : decode cX2_add 43 = .ok (.isub, 1) := by decide +kernel
theorem dX2_add_44 : decode cX2_add 44 = .ok (.ireturn, 1) := by decide +kernel
theorem dX2_isBeyond_0 : decode cX2_isBeyond 0 = .ok (.iconst 0, 1) := by decide +kernel
theorem dX2_isBeyond_1 : decode cX2_isBeyond 1 = .ok (.istore_n 1, 1) := by decide +kernel
theorem dX2_isBeyond_2 : decode cX2_isBeyond 2 = .ok (.iload_n 1, 1) := by decide +kernel
theorem dX2_isBeyond_3 : decode cX2_isBeyond 3 = .ok (.aload_n 0, 1) := by decide +kernel
theorem dX2_isBeyond_4 : decode cX2_isBeyond 4 = .ok (.getfield 39, 3) := by decide +kernel
theorem dX2_isBeyond_7 : decode cX2_isBeyond 7 = .ok (.if_icmp .ge 31, 3) := by decide +kernel
theorem dX2_isBeyond_10 : decode cX2_isBeyond 10 = .ok (.aload_n 0, 1) := by decide +kernel
theorem dX2_isBeyond_11 : decode cX2_isBeyond 11 = .ok (.iload_n 1, 1) := by decide +kernel
theorem dX2_isBeyond_12 : decode cX2_isBeyond 12 = .ok (.invokevirtual 53, 3) := by decide +kernel
theorem dX2_isBeyond_15 : decode cX2_isBeyond 15 = .ok (.ifCond .eq 17, 3) := by decide +kernel
theorem dX2_isBeyond_18 : decode cX2_isBeyond 18 = .ok (.aload_n 0, 1) := by decide +kernel
theorem dX2_isBeyond_19 : decode cX2_isBeyond 19 = .ok (.getfield 11, 3) := by decide +kernel
theorem dX2_isBeyond_22 : decode cX2_isBeyond 22 = .ok (.iload_n 1, 1) := by decide +kernel
theorem dX2_isBeyond_23 : decode cX2_isBeyond 23 = .ok (.aaload, 1) := by decide +kernel
theorem dX2_isBeyond_24 : decode cX2_isBeyond 24 = .ok (.invokevirtual 60, 3) := by decide +kernel
theorem dX2_isBeyond_27 : decode cX2_isBeyond 27 = .ok (.ifCond .eq 5, 3) := by decide +kernel
theorem dX2_isBeyond_30 : decode cX2_isBeyond 30 = .ok (.iconst 1, 1) := by decide +kernel
theorem dX2_isBeyond_31 : decode cX2_isBeyond 31 = .ok (.ireturn, 1) := by decide +kernel
theorem dX2_isBeyond_32 : decode cX2_isBeyond 32 = .ok (.iinc 1 1, 3) := by decide +kernel
theorem dX2_isBeyond_35 : decode cX2_isBeyond 35 = .ok (.goto (-33), 3) := by decide +kernel
theorem dX2_isBeyond_38 : decode cX2_isBeyond 38 = .ok (.iconst 0, 1) := by decide +kernel
theorem dX2_isBeyond_39 : decode cX2_isBeyond 39 = .ok (.ireturn, 1) := by decide +kernel
theorem dX2_hasImpossible_0 : decode cX2_hasImpossible 0 = .ok (.iconst 0, 1) := by decide +kernel
theorem dX2_hasImpossible_1 : decode cX2_hasImpossible 1 = .ok (.istore_n 1, 1) := by decide +kernel
theorem dX2_hasImpossible_2 : decode cX2_hasImpossible 2 = .ok (.iload_n 1, 1) := by decide +kernel
theorem dX2_hasImpossible_3 : decode cX2_hasImpossible 3 = .ok (.aload_n 0, 1) := by decide +kernel
theorem dX2_hasImpossible_4 : decode cX2_hasImpossible 4 = .ok (.getfield 39, 3) := by decide +kernel
theorem dX2_hasImpossible_7 : decode cX2_hasImpossible 7 = .ok (.if_icmp .ge 41, 3) := by decide +kernel
theorem dX2_hasImpossible_10 : decode cX2_hasImpossible 10 = .ok (.aload_n 0, 1) := by decide +kernel
theorem dX2_hasImpossible_11 : decode cX2_hasImpossible 11 = .ok (.iload_n 1, 1) := by decide +kernel
theorem dX2_hasImpossible_12 : decode cX2_hasImpossible 12 = .ok (.invokevirtual 53, 3) := by decide +kernel
theorem dX2_hasImpossible_15 : decode cX2_hasImpossible 15 = .ok (.ifCond .eq 27, 3) := by decide +kernel
theorem dX2_hasImpossible_18 : decode cX2_hasImpossible 18 = .ok (.aload_n 0, 1) := by decide +kernel
theorem dX2_hasImpossible_19 : decode cX2_hasImpossible 19 = .ok (.getfield 11, 3) := by decide +kernel
theorem dX2_hasImpossible_22 : decode cX2_hasImpossible 22 = .ok (.iload_n 1, 1) := by decide +kernel
theorem dX2_hasImpossible_23 : decode cX2_hasImpossible 23 = .ok (.aaload, 1) := by decide +kernel
theorem dX2_hasImpossible_24 : decode cX2_hasImpossible 24 = .ok (.getfield 64, 3) := by decide +kernel
theorem dX2_hasImpossible_27 : decode cX2_hasImpossible 27 = .ok (.aload_n 0, 1) := by decide +kernel
theorem dX2_hasImpossible_28 : decode cX2_hasImpossible 28 = .ok (.getfield 11, 3) := by decide +kernel
theorem dX2_hasImpossible_31 : decode cX2_hasImpossible 31 = .ok (.iload_n 1, 1) := by decide +kernel
theorem dX2_hasImpossible_32 : decode cX2_hasImpossible 32 = .ok (.aaload, 1) := by decide +kernel
theorem dX2_hasImpossible_33 : decode cX2_hasImpossible 33 = .ok (.invokevirtual 68, 3) := by decide +kernel
theorem dX2_hasImpossible_36 : decode cX2_hasImpossible 36 = .ok (.lcmp, 1) := by decide +kernel
theorem dX2_hasImpossible_37 : decode cX2_hasImpossible 37 = .ok (.ifCond .le 5, 3) := by decide +kernel
theorem dX2_hasImpossible_40 : decode cX2_hasImpossible 40 = .ok (.iconst 1, 1) := by decide +kernel
theorem dX2_hasImpossible_41 : decode cX2_hasImpossible 41 = .ok (.ireturn, 1) := by decide +kernel
theorem dX2_hasImpossible_42 : decode cX2_hasImpossible 42 = .ok (.iinc 1 1, 3) := by decide +kernel
theorem dX2_hasImpossible_45 : decode cX2_hasImpossible 45 = .ok (.goto (-43), 3) := by decide +kernel
theorem dX2_hasImpossible_48 : decode cX2_hasImpossible 48 = .ok (.iconst 0, 1) := by decide +kernel
theorem dX2_hasImpossible_49 : decode cX2_hasImpossible 49 = .ok (.ireturn, 1) := by decide +kernel
theorem dX2_allHold_0 : decode cX2_allHold 0 = .ok (.iconst 0, 1) := by decide +kernel
theorem dX2_allHold_1 : decode cX2_allHold 1 = .ok (.istore_n 2, 1) := by decide +kernel
theorem dX2_allHold_2 : decode cX2_allHold 2 = .ok (.iload_n 2, 1) := by decide +kernel
theorem dX2_allHold_3 : decode cX2_allHold 3 = .ok (.aload_n 0, 1) := by decide +kernel
theorem dX2_allHold_4 : decode cX2_allHold 4 = .ok (.getfield 39, 3) := by decide +kernel
theorem dX2_allHold_7 : decode cX2_allHold 7 = .ok (.if_icmp .ge 32, 3) := by decide +kernel
theorem dX2_allHold_10 : decode cX2_allHold 10 = .ok (.aload_n 0, 1) := by decide +kernel
theorem dX2_allHold_11 : decode cX2_allHold 11 = .ok (.iload_n 2, 1) := by decide +kernel
theorem dX2_allHold_12 : decode cX2_allHold 12 = .ok (.invokevirtual 53, 3) := by decide +kernel
theorem dX2_allHold_15 : decode cX2_allHold 15 = .ok (.ifCond .eq 18, 3) := by decide +kernel
theorem dX2_allHold_18 : decode cX2_allHold 18 = .ok (.aload_n 0, 1) := by decide +kernel
theorem dX2_allHold_19 : decode cX2_allHold 19 = .ok (.getfield 11, 3) := by decide +kernel
theorem dX2_allHold_22 : decode cX2_allHold 22 = .ok (.iload_n 2, 1) := by decide +kernel
theorem dX2_allHold_23 : decode cX2_allHold 23 = .ok (.aaload, 1) := by decide +kernel
theorem dX2_allHold_24 : decode cX2_allHold 24 = .ok (.iload_n 1, 1) := by decide +kernel
theorem dX2_allHold_25 : decode cX2_allHold 25 = .ok (.invokevirtual 72, 3) := by decide +kernel
theorem dX2_allHold_28 : decode cX2_allHold 28 = .ok (.ifCond .ne 5, 3) := by decide +kernel
theorem dX2_allHold_31 : decode cX2_allHold 31 = .ok (.iconst 0, 1) := by decide +kernel
theorem dX2_allHold_32 : decode cX2_allHold 32 = .ok (.ireturn, 1) := by decide +kernel
theorem dX2_allHold_33 : decode cX2_allHold 33 = .ok (.iinc 2 1, 3) := by decide +kernel
theorem dX2_allHold_36 : decode cX2_allHold 36 = .ok (.goto (-34), 3) := by decide +kernel
theorem dX2_allHold_39 : decode cX2_allHold 39 = .ok (.iconst 1, 1) := by decide +kernel
theorem dX2_allHold_40 : decode cX2_allHold 40 = .ok (.ireturn, 1) := by decide +kernel
theorem dX2_countSolutions_0 : decode cX2_countSolutions 0 = .ok (.iconst 0, 1) := by decide +kernel
theorem dX2_countSolutions_1 : decode cX2_countSolutions 1 = .ok (.istore_n 1, 1) := by decide +kernel
theorem dX2_countSolutions_2 : decode cX2_countSolutions 2 = .ok (.iconst 0, 1) := by decide +kernel
theorem dX2_countSolutions_3 : decode cX2_countSolutions 3 = .ok (.istore_n 2, 1) := by decide +kernel
theorem dX2_countSolutions_4 : decode cX2_countSolutions 4 = .ok (.iload_n 2, 1) := by decide +kernel
theorem dX2_countSolutions_5 : decode cX2_countSolutions 5 = .ok (.sipush 256, 3) := by decide +kernel
theorem dX2_countSolutions_8 : decode cX2_countSolutions 8 = .ok (.if_icmp .ge 20, 3) := by decide +kernel
theorem dX2_countSolutions_11 : decode cX2_countSolutions 11 = .ok (.aload_n 0, 1) := by decide +kernel
theorem dX2_countSolutions_12 : decode cX2_countSolutions 12 = .ok (.iload_n 2, 1) := by decide +kernel
theorem dX2_countSolutions_13 : decode cX2_countSolutions 13 = .ok (.invokevirtual 75, 3) := by decide +kernel
theorem dX2_countSolutions_16 : decode cX2_countSolutions 16 = .ok (.ifCond .eq 6, 3) := by decide +kernel
theorem dX2_countSolutions_19 : decode cX2_countSolutions 19 = .ok (.iinc 1 1, 3) := by decide +kernel
theorem dX2_countSolutions_22 : decode cX2_countSolutions 22 = .ok (.iinc 2 1, 3) := by decide +kernel
theorem dX2_countSolutions_25 : decode cX2_countSolutions 25 = .ok (.goto (-21), 3) := by decide +kernel
theorem dX2_countSolutions_28 : decode cX2_countSolutions 28 = .ok (.iload_n 1, 1) := by decide +kernel
theorem dX2_countSolutions_29 : decode cX2_countSolutions 29 = .ok (.ireturn, 1) := by decide +kernel
theorem dX2_bestValues_0 : decode cX2_bestValues 0 = .ok (.ldc 21, 2) := by decide +kernel
theorem dX2_bestValues_2 : decode cX2_bestValues 2 = .ok (.istore_n 1, 1) := by decide +kernel
theorem dX2_bestValues_3 : decode cX2_bestValues 3 = .ok (.iconst 0, 1) := by decide +kernel
theorem dX2_bestValues_4 : decode cX2_bestValues 4 = .ok (.istore_n 2, 1) := by decide +kernel
theorem dX2_bestValues_5 : decode cX2_bestValues 5 = .ok (.iload_n 2, 1) := by decide +kernel
theorem dX2_bestValues_6 : decode cX2_bestValues 6 = .ok (.sipush 256, 3) := by decide +kernel
theorem dX2_bestValues_9 : decode cX2_bestValues 9 = .ok (.if_icmp .ge 38, 3) := by decide +kernel
theorem dX2_bestValues_12 : decode cX2_bestValues 12 = .ok (.iload_n 1, 1) := by decide +kernel
theorem dX2_bestValues_13 : decode cX2_bestValues 13 = .ok (.ldc 21, 2) := by decide +kernel
theorem dX2_bestValues_15 : decode cX2_bestValues 15 = .ok (.if_icmp .eq 16, 3) := by decide +kernel
theorem dX2_bestValues_18 : decode cX2_bestValues 18 = .ok (.aload_n 0, 1) := by decide +kernel
theorem dX2_bestValues_19 : decode cX2_bestValues 19 = .ok (.iload_n 2, 1) := by decide +kernel
theorem dX2_bestValues_20 : decode cX2_bestValues 20 = .ok (.invokevirtual 78, 3) := by decide +kernel
theorem dX2_bestValues_23 : decode cX2_bestValues 23 = .ok (.aload_n 0, 1) := by decide +kernel
theorem dX2_bestValues_24 : decode cX2_bestValues 24 = .ok (.iload_n 1, 1) := by decide +kernel
theorem dX2_bestValues_25 : decode cX2_bestValues 25 = .ok (.invokevirtual 78, 3) := by decide +kernel
theorem dX2_bestValues_28 : decode cX2_bestValues 28 = .ok (.if_icmp .ge 13, 3) := by decide +kernel
theorem dX2_bestValues_31 : decode cX2_bestValues 31 = .ok (.aload_n 0, 1) := by decide +kernel
theorem dX2_bestValues_32 : decode cX2_bestValues 32 = .ok (.iload_n 2, 1) := by decide +kernel
theorem dX2_bestValues_33 : decode cX2_bestValues 33 = .ok (.invokevirtual 75, 3) := by decide +kernel
theorem dX2_bestValues_36 : decode cX2_bestValues 36 = .ok (.ifCond .eq 5, 3) := by decide +kernel
theorem dX2_bestValues_39 : decode cX2_bestValues 39 = .ok (.iload_n 2, 1) := by decide +kernel
theorem dX2_bestValues_40 : decode cX2_bestValues 40 = .ok (.istore_n 1, 1) := by decide +kernel
theorem dX2_bestValues_41 : decode cX2_bestValues 41 = .ok (.iinc 2 1, 3) := by decide +kernel
theorem dX2_bestValues_44 : decode cX2_bestValues 44 = .ok (.goto (-39), 3) := by decide +kernel
theorem dX2_bestValues_47 : decode cX2_bestValues 47 = .ok (.iload_n 1, 1) := by decide +kernel
theorem dX2_bestValues_48 : decode cX2_bestValues 48 = .ok (.ireturn, 1) := by decide +kernel
theorem dX2_priceOf_0 : decode cX2_priceOf 0 = .ok (.iconst 0, 1) := by decide +kernel
theorem dX2_priceOf_1 : decode cX2_priceOf 1 = .ok (.istore_n 2, 1) := by decide +kernel
theorem dX2_priceOf_2 : decode cX2_priceOf 2 = .ok (.iconst 0, 1) := by decide +kernel
theorem dX2_priceOf_3 : decode cX2_priceOf 3 = .ok (.istore_n 3, 1) := by decide +kernel
theorem dX2_priceOf_4 : decode cX2_priceOf 4 = .ok (.iload_n 3, 1) := by decide +kernel
theorem dX2_priceOf_5 : decode cX2_priceOf 5 = .ok (.bipush 8, 2) := by decide +kernel
theorem dX2_priceOf_7 : decode cX2_priceOf 7 = .ok (.if_icmp .ge 27, 3) := by decide +kernel
theorem dX2_priceOf_10 : decode cX2_priceOf 10 = .ok (.iload_n 1, 1) := by decide +kernel
theorem dX2_priceOf_11 : decode cX2_priceOf 11 = .ok (.iload_n 3, 1) := by decide +kernel
theorem dX2_priceOf_12 : decode cX2_priceOf 12 = .ok (.iushr, 1) := by decide +kernel
theorem dX2_priceOf_13 : decode cX2_priceOf 13 = .ok (.iconst 1, 1) := by decide +kernel
theorem dX2_priceOf_14 : decode cX2_priceOf 14 = .ok (.iand, 1) := by decide +kernel
theorem dX2_priceOf_15 : decode cX2_priceOf 15 = .ok (.iconst 1, 1) := by decide +kernel
theorem dX2_priceOf_16 : decode cX2_priceOf 16 = .ok (.if_icmp .ne 12, 3) := by decide +kernel
theorem dX2_priceOf_19 : decode cX2_priceOf 19 = .ok (.iload_n 2, 1) := by decide +kernel
theorem dX2_priceOf_20 : decode cX2_priceOf 20 = .ok (.aload_n 0, 1) := by decide +kernel
theorem dX2_priceOf_21 : decode cX2_priceOf 21 = .ok (.getfield 17, 3) := by decide +kernel
theorem dX2_priceOf_24 : decode cX2_priceOf 24 = .ok (.iload_n 3, 1) := by decide +kernel
theorem dX2_priceOf_25 : decode cX2_priceOf 25 = .ok (.iaload, 1) := by decide +kernel
theorem dX2_priceOf_26 : decode cX2_priceOf 26 = .ok (.iadd, 1) := by decide +kernel
theorem dX2_priceOf_27 : decode cX2_priceOf 27 = .ok (.istore_n 2, 1) := by decide +kernel
theorem dX2_priceOf_28 : decode cX2_priceOf 28 = .ok (.iinc 3 1, 3) := by decide +kernel
theorem dX2_priceOf_31 : decode cX2_priceOf 31 = .ok (.goto (-27), 3) := by decide +kernel
theorem dX2_priceOf_34 : decode cX2_priceOf 34 = .ok (.iload_n 2, 1) := by decide +kernel
theorem dX2_priceOf_35 : decode cX2_priceOf 35 = .ok (.ireturn, 1) := by decide +kernel
theorem dX2_allPrices_0 : decode cX2_allPrices 0 = .ok (.aload_n 0, 1) := by decide +kernel
theorem dX2_allPrices_1 : decode cX2_allPrices 1 = .ok (.sipush 255, 3) := by decide +kernel
theorem dX2_allPrices_4 : decode cX2_allPrices 4 = .ok (.invokevirtual 78, 3) := by decide +kernel
theorem dX2_allPrices_7 : decode cX2_allPrices 7 = .ok (.ireturn, 1) := by decide +kernel
theorem dX3_init_0 : decode cX3_init 0 = .ok (.aload_n 0, 1) := by decide +kernel
theorem dX3_init_1 : decode cX3_init 1 = .ok (.invokespecial 3, 3) := by decide +kernel
theorem dX3_init_4 : decode cX3_init 4 = .ok (.aload_n 0, 1) := by decide +kernel
theorem dX3_init_5 : decode cX3_init 5 = .ok (.bipush 8, 2) := by decide +kernel
theorem dX3_init_7 : decode cX3_init 7 = .ok (.newarray .long, 2) := by decide +kernel
theorem dX3_init_9 : decode cX3_init 9 = .ok (.putfield 9, 3) := by decide +kernel
theorem dX3_init_12 : decode cX3_init 12 = .ok (.aload_n 0, 1) := by decide +kernel
theorem dX3_init_13 : decode cX3_init 13 = .ok (.iload_n 1, 1) := by decide +kernel
theorem dX3_init_14 : decode cX3_init 14 = .ok (.putfield 15, 3) := by decide +kernel
theorem dX3_init_17 : decode cX3_init 17 = .ok (.return_, 1) := by decide +kernel
theorem dX3_clear_0 : decode cX3_clear 0 = .ok (.aload_n 0, 1) := by decide +kernel
theorem dX3_clear_1 : decode cX3_clear 1 = .ok (.getfield 9, 3) := by decide +kernel
theorem dX3_clear_4 : decode cX3_clear 4 = .ok (.lconst 0, 1) := by decide +kernel
theorem dX3_clear_5 : decode cX3_clear 5 = .ok (.invokestatic 19, 3) := by decide +kernel
theorem dX3_clear_8 : decode cX3_clear 8 = .ok (.aload_n 0, 1) := by decide +kernel
theorem dX3_clear_9 : decode cX3_clear 9 = .ok (.lconst 0, 1) := by decide +kernel
theorem dX3_clear_10 : decode cX3_clear 10 = .ok (.putfield 25, 3) := by decide +kernel
theorem dX3_clear_13 : decode cX3_clear 13 = .ok (.return_, 1) := by decide +kernel
theorem dX3_become_0 : decode cX3_become 0 = .ok (.aload_n 1, 1) := by decide +kernel
theorem dX3_become_1 : decode cX3_become 1 = .ok (.getfield 9, 3) := by decide +kernel
theorem dX3_become_4 : decode cX3_become 4 = .ok (.iconst 0, 1) := by decide +kernel
theorem dX3_become_5 : decode cX3_become 5 = .ok (.aload_n 0, 1) := by decide +kernel
theorem dX3_become_6 : decode cX3_become 6 = .ok (.getfield 9, 3) := by decide +kernel
theorem dX3_become_9 : decode cX3_become 9 = .ok (.iconst 0, 1) := by decide +kernel
theorem dX3_become_10 : decode cX3_become 10 = .ok (.bipush 8, 2) := by decide +kernel
theorem dX3_become_12 : decode cX3_become 12 = .ok (.invokestatic 29, 3) := by decide +kernel
theorem dX3_become_15 : decode cX3_become 15 = .ok (.aload_n 0, 1) := by decide +kernel
theorem dX3_become_16 : decode cX3_become 16 = .ok (.aload_n 1, 1) := by decide +kernel
theorem dX3_become_17 : decode cX3_become 17 = .ok (.getfield 25, 3) := by decide +kernel
theorem dX3_become_20 : decode cX3_become 20 = .ok (.putfield 25, 3) := by decide +kernel
theorem dX3_become_23 : decode cX3_become 23 = .ok (.aload_n 0, 1) := by decide +kernel
theorem dX3_become_24 : decode cX3_become 24 = .ok (.aload_n 1, 1) := by decide +kernel
theorem dX3_become_25 : decode cX3_become 25 = .ok (.getfield 35, 3) := by decide +kernel
theorem dX3_become_28 : decode cX3_become 28 = .ok (.putfield 35, 3) := by decide +kernel
theorem dX3_become_31 : decode cX3_become 31 = .ok (.return_, 1) := by decide +kernel
theorem dX3_becomePlus_0 : decode cX3_becomePlus 0 = .ok (.aload_n 1, 1) := by decide +kernel
theorem dX3_becomePlus_1 : decode cX3_becomePlus 1 = .ok (.getfield 25, 3) := by decide +kernel
theorem dX3_becomePlus_4 : decode cX3_becomePlus 4 = .ok (.ldc2_w 38, 3) := by decide +kernel
theorem dX3_becomePlus_7 : decode cX3_becomePlus 7 = .ok (.aload_n 2, 1) := by decide +kernel
theorem dX3_becomePlus_8 : decode cX3_becomePlus 8 = .ok (.getfield 25, 3) := by decide +kernel
theorem dX3_becomePlus_11 : decode cX3_becomePlus 11 = .ok (.lsub, 1) := by decide +kernel
theorem dX3_becomePlus_12 : decode cX3_becomePlus 12 = .ok (.lcmp, 1) := by decide +kernel
theorem dX3_becomePlus_13 : decode cX3_becomePlus 13 = .ok (.ifCond .le 5, 3) := by decide +kernel
theorem dX3_becomePlus_16 : decode cX3_becomePlus 16 = .ok (.iconst 0, 1) := by decide +kernel
theorem dX3_becomePlus_17 : decode cX3_becomePlus 17 = .ok (.ireturn, 1) := by decide +kernel
theorem dX3_becomePlus_18 : decode cX3_becomePlus 18 = .ok (.aload_n 1, 1) := by decide +kernel
theorem dX3_becomePlus_19 : decode cX3_becomePlus 19 = .ok (.getfield 9, 3) := by decide +kernel
theorem dX3_becomePlus_22 : decode cX3_becomePlus 22 = .ok (.iconst 0, 1) := by decide +kernel
theorem dX3_becomePlus_23 : decode cX3_becomePlus 23 = .ok (.aload_n 0, 1) := by decide +kernel
theorem dX3_becomePlus_24 : decode cX3_becomePlus 24 = .ok (.getfield 9, 3) := by decide +kernel
theorem dX3_becomePlus_27 : decode cX3_becomePlus 27 = .ok (.iconst 0, 1) := by decide +kernel
theorem dX3_becomePlus_28 : decode cX3_becomePlus 28 = .ok (.bipush 8, 2) := by decide +kernel
theorem dX3_becomePlus_30 : decode cX3_becomePlus 30 = .ok (.invokestatic 29, 3) := by decide +kernel
theorem dX3_becomePlus_33 : decode cX3_becomePlus 33 = .ok (.aload_n 0, 1) := by decide +kernel
theorem dX3_becomePlus_34 : decode cX3_becomePlus 34 = .ok (.aload_n 1, 1) := by decide +kernel
theorem dX3_becomePlus_35 : decode cX3_becomePlus 35 = .ok (.getfield 25, 3) := by decide +kernel
theorem dX3_becomePlus_38 : decode cX3_becomePlus 38 = .ok (.aload_n 2, 1) := by decide +kernel
theorem dX3_becomePlus_39 : decode cX3_becomePlus 39 = .ok (.getfield 25, 3) := by decide +kernel
theorem dX3_becomePlus_42 : decode cX3_becomePlus 42 = .ok (.ladd, 1) := by decide +kernel
theorem dX3_becomePlus_43 : decode cX3_becomePlus 43 = .ok (.putfield 25, 3) := by decide +kernel
theorem dX3_becomePlus_46 : decode cX3_becomePlus 46 = .ok (.iconst 0, 1) := by decide +kernel
theorem dX3_becomePlus_47 : decode cX3_becomePlus 47 = .ok (.istore_n 3, 1) := by decide +kernel
theorem dX3_becomePlus_48 : decode cX3_becomePlus 48 = .ok (.iload_n 3, 1) := by decide +kernel
theorem dX3_becomePlus_49 : decode cX3_becomePlus 49 = .ok (.bipush 8, 2) := by decide +kernel
theorem dX3_becomePlus_51 : decode cX3_becomePlus 51 = .ok (.if_icmp .ge 25, 3) := by decide +kernel
theorem dX3_becomePlus_54 : decode cX3_becomePlus 54 = .ok (.aload_n 0, 1) := by decide +kernel
theorem dX3_becomePlus_55 : decode cX3_becomePlus 55 = .ok (.iload_n 3, 1) := by decide +kernel
theorem dX3_becomePlus_56 : decode cX3_becomePlus 56 = .ok (.aload_n 2, 1) := by decide +kernel
theorem dX3_becomePlus_57 : decode cX3_becomePlus 57 = .ok (.getfield 9, 3) := by decide +kernel
theorem dX3_becomePlus_60 : decode cX3_becomePlus 60 = .ok (.iload_n 3, 1) := by decide +kernel
theorem dX3_becomePlus_61 : decode cX3_becomePlus 61 = .ok (.laload, 1) := by decide +kernel
theorem dX3_becomePlus_62 : decode cX3_becomePlus 62 = .ok (.invokevirtual 40, 3) := by decide +kernel
theorem dX3_becomePlus_65 : decode cX3_becomePlus 65 = .ok (.ifCond .ne 5, 3) := by decide +kernel
theorem dX3_becomePlus_68 : decode cX3_becomePlus 68 = .ok (.iconst 0, 1) := by decide +kernel
theorem dX3_becomePlus_69 : decode cX3_becomePlus 69 = .ok (.ireturn, 1) := by decide +kernel
theorem dX3_becomePlus_70 : decode cX3_becomePlus 70 = .ok (.iinc 3 1, 3) := by decide +kernel
theorem dX3_becomePlus_73 : decode cX3_becomePlus 73 = .ok (.goto (-25), 3) := by decide +kernel
theorem dX3_becomePlus_76 : decode cX3_becomePlus 76 = .ok (.iconst 1, 1) := by decide +kernel
theorem dX3_becomePlus_77 : decode cX3_becomePlus 77 = .ok (.ireturn, 1) := by decide +kernel
theorem dX3_joins_0 : decode cX3_joins 0 = .ok (.aload_n 0, 1) := by decide +kernel
theorem dX3_joins_1 : decode cX3_joins 1 = .ok (.getfield 9, 3) := by decide +kernel
theorem dX3_joins_4 : decode cX3_joins 4 = .ok (.iload_n 1, 1) := by decide +kernel
theorem dX3_joins_5 : decode cX3_joins 5 = .ok (.laload, 1) := by decide +kernel
theorem dX3_joins_6 : decode cX3_joins 6 = .ok (.lstore 4, 2) := by decide +kernel
theorem dX3_joins_8 : decode cX3_joins 8 = .ok (.lload 4, 2) := by decide +kernel
theorem dX3_joins_10 : decode cX3_joins 10 = .ok (.lconst 0, 1) := by decide +kernel
theorem dX3_joins_11 : decode cX3_joins 11 = .ok (.lcmp, 1) := by decide +kernel
theorem dX3_joins_12 : decode cX3_joins 12 = .ok (.ifCond .eq 63, 3) := by decide +kernel
theorem dX3_joins_15 : decode cX3_joins 15 = .ok (.lload_n 2, 1) := by decide +kernel
theorem dX3_joins_16 : decode cX3_joins 16 = .ok (.lconst 0, 1) := by decide +kernel
theorem dX3_joins_17 : decode cX3_joins 17 = .ok (.lcmp, 1) := by decide +kernel
theorem dX3_joins_18 : decode cX3_joins 18 = .ok (.ifCond .eq 57, 3) := by decide +kernel
theorem dX3_joins_21 : decode cX3_joins 21 = .ok (.lload 4, 2) := by decide +kernel
theorem dX3_joins_23 : decode cX3_joins 23 = .ok (.lconst 0, 1) := by decide +kernel
theorem dX3_joins_24 : decode cX3_joins 24 = .ok (.lcmp, 1) := by decide +kernel
theorem dX3_joins_25 : decode cX3_joins 25 = .ok (.ifCond .le 7, 3) := by decide +kernel
theorem dX3_joins_28 : decode cX3_joins 28 = .ok (.iconst 1, 1) := by decide +kernel
theorem dX3_joins_29 : decode cX3_joins 29 = .ok (.goto 4, 3) := by decide +kernel
theorem dX3_joins_32 : decode cX3_joins 32 = .ok (.iconst 0, 1) := by decide +kernel
theorem dX3_joins_33 : decode cX3_joins 33 = .ok (.lload_n 2, 1) := by decide +kernel
theorem dX3_joins_34 : decode cX3_joins 34 = .ok (.lconst 0, 1) := by decide +kernel
theorem dX3_joins_35 : decode cX3_joins 35 = .ok (.lcmp, 1) := by decide +kernel
theorem dX3_joins_36 : decode cX3_joins 36 = .ok (.ifCond .le 7, 3) := by decide +kernel
theorem dX3_joins_39 : decode cX3_joins 39 = .ok (.iconst 1, 1) := by decide +kernel
theorem dX3_joins_40 : decode cX3_joins 40 = .ok (.goto 4, 3) := by decide +kernel
theorem dX3_joins_43 : decode cX3_joins 43 = .ok (.iconst 0, 1) := by decide +kernel
theorem dX3_joins_44 : decode cX3_joins 44 = .ok (.if_icmp .eq 31, 3) := by decide +kernel
theorem dX3_joins_47 : decode cX3_joins 47 = .ok (.aload_n 0, 1) := by decide +kernel
theorem dX3_joins_48 : decode cX3_joins 48 = .ok (.lconst 0, 1) := by decide +kernel
theorem dX3_joins_49 : decode cX3_joins 49 = .ok (.aload_n 0, 1) := by decide +kernel
theorem dX3_joins_50 : decode cX3_joins 50 = .ok (.getfield 25, 3) := by decide +kernel
theorem dX3_joins_53 : decode cX3_joins 53 = .ok (.lload 4, 2) := by decide +kernel
theorem dX3_joins_55 : decode cX3_joins 55 = .ok (.invokestatic 44, 3) := by decide +kernel
theorem dX3_joins_58 : decode cX3_joins 58 = .ok (.lload_n 2, 1) := by decide +kernel
theorem dX3_joins_59 : decode cX3_joins 59 = .ok (.invokestatic 44, 3) := by decide +kernel
theorem dX3_joins_62 : decode cX3_joins 62 = .ok (.invokestatic 50, 3) := by decide +kernel
theorem dX3_joins_65 : decode cX3_joins 65 = .ok (.lsub, 1) := by decide +kernel
theorem dX3_joins_66 : decode cX3_joins 66 = .ok (.invokestatic 54, 3) := by decide +kernel
theorem dX3_joins_69 : decode cX3_joins 69 = .ok (.putfield 25, 3) := by decide +kernel
theorem dX3_joins_72 : decode cX3_joins 72 = .ok (.goto 22, 3) := by decide +kernel
theorem dX3_joins_75 : decode cX3_joins 75 = .ok (.lload 4, 2) := by decide +kernel
theorem dX3_joins_77 : decode cX3_joins 77 = .ok (.invokestatic 44, 3) := by decide +kernel
theorem dX3_joins_80 : decode cX3_joins 80 = .ok (.ldc2_w 38, 3) := by decide +kernel
theorem dX3_joins_83 : decode cX3_joins 83 = .ok (.lload_n 2, 1) := by decide +kernel
theorem dX3_joins_84 : decode cX3_joins 84 = .ok (.invokestatic 44, 3) := by decide +kernel
theorem dX3_joins_87 : decode cX3_joins 87 = .ok (.lsub, 1) := by decide +kernel
theorem dX3_joins_88 : decode cX3_joins 88 = .ok (.lcmp, 1) := by decide +kernel
theorem dX3_joins_89 : decode cX3_joins 89 = .ok (.ifCond .le 5, 3) := by decide +kernel
theorem dX3_joins_92 : decode cX3_joins 92 = .ok (.iconst 0, 1) := by decide +kernel
theorem dX3_joins_93 : decode cX3_joins 93 = .ok (.ireturn, 1) := by decide +kernel
theorem dX3_joins_94 : decode cX3_joins 94 = .ok (.aload_n 0, 1) := by decide +kernel
theorem dX3_joins_95 : decode cX3_joins 95 = .ok (.getfield 9, 3) := by decide +kernel
theorem dX3_joins_98 : decode cX3_joins 98 = .ok (.iload_n 1, 1) := by decide +kernel
theorem dX3_joins_99 : decode cX3_joins 99 = .ok (.lload 4, 2) := by decide +kernel
theorem dX3_joins_101 : decode cX3_joins 101 = .ok (.lload_n 2, 1) := by decide +kernel
theorem dX3_joins_102 : decode cX3_joins 102 = .ok (.ladd, 1) := by decide +kernel
theorem dX3_joins_103 : decode cX3_joins 103 = .ok (.lastore, 1) := by decide +kernel
theorem dX3_joins_104 : decode cX3_joins 104 = .ok (.iconst 1, 1) := by decide +kernel
theorem dX3_joins_105 : decode cX3_joins 105 = .ok (.ireturn, 1) := by decide +kernel
theorem dX3_becomeTimes_0 : decode cX3_becomeTimes 0 = .ok (.iload_n 2, 1) := by decide +kernel
theorem dX3_becomeTimes_1 : decode cX3_becomeTimes 1 = .ok (.iconst 1, 1) := by decide +kernel
theorem dX3_becomeTimes_2 : decode cX3_becomeTimes 2 = .ok (.if_icmp .ge 5, 3) := by decide +kernel
theorem dX3_becomeTimes_5 : decode cX3_becomeTimes 5 = .ok (.iconst 0, 1) := by decide +kernel
theorem dX3_becomeTimes_6 : decode cX3_becomeTimes 6 = .ok (.ireturn, 1) := by decide +kernel
theorem dX3_becomeTimes_7 : decode cX3_becomeTimes 7 = .ok (.ldc2_w 38, 3) := by decide +kernel
theorem dX3_becomeTimes_10 : decode cX3_becomeTimes 10 = .ok (.iload_n 2, 1) := by decide +kernel
theorem dX3_becomeTimes_11 : decode cX3_becomeTimes 11 = .ok (.i2l, 1) := by decide +kernel
theorem dX3_becomeTimes_12 : decode cX3_becomeTimes 12 = .ok (.ldiv, 1) := by decide +kernel
theorem dX3_becomeTimes_13 : decode cX3_becomeTimes 13 = .ok (.lstore_n 3, 1) := by decide +kernel
theorem dX3_becomeTimes_14 : decode cX3_becomeTimes 14 = .ok (.aload_n 1, 1) := by decide +kernel
theorem dX3_becomeTimes_15 : decode cX3_becomeTimes 15 = .ok (.getfield 25, 3) := by decide +kernel
theorem dX3_becomeTimes_18 : decode cX3_becomeTimes 18 = .ok (.lload_n 3, 1) := by decide +kernel
theorem dX3_becomeTimes_19 : decode cX3_becomeTimes 19 = .ok (.lcmp, 1) := by decide +kernel
theorem dX3_becomeTimes_20 : decode cX3_becomeTimes 20 = .ok (.ifCond .le 5, 3) := by decide +kernel
theorem dX3_becomeTimes_23 : decode cX3_becomeTimes 23 = .ok (.iconst 0, 1) := by decide +kernel
theorem dX3_becomeTimes_24 : decode cX3_becomeTimes 24 = .ok (.ireturn, 1) := by decide +kernel
theorem dX3_becomeTimes_25 : decode cX3_becomeTimes 25 = .ok (.aload_n 0, 1) := by decide +kernel
theorem dX3_becomeTimes_26 : decode cX3_becomeTimes 26 = .ok (.aload_n 1, 1) := by decide +kernel
theorem dX3_becomeTimes_27 : decode cX3_becomeTimes 27 = .ok (.getfield 25, 3) := by decide +kernel
theorem dX3_becomeTimes_30 : decode cX3_becomeTimes 30 = .ok (.iload_n 2, 1) := by decide +kernel
theorem dX3_becomeTimes_31 : decode cX3_becomeTimes 31 = .ok (.i2l, 1) := by decide +kernel
theorem dX3_becomeTimes_32 : decode cX3_becomeTimes 32 = .ok (.lmul, 1) := by decide +kernel
theorem dX3_becomeTimes_33 : decode cX3_becomeTimes 33 = .ok (.putfield 25, 3) := by decide +kernel
theorem dX3_becomeTimes_36 : decode cX3_becomeTimes 36 = .ok (.iconst 0, 1) := by decide +kernel
theorem dX3_becomeTimes_37 : decode cX3_becomeTimes 37 = .ok (.istore 5, 2) := by decide +kernel
theorem dX3_becomeTimes_39 : decode cX3_becomeTimes 39 = .ok (.iload 5, 2) := by decide +kernel
theorem dX3_becomeTimes_41 : decode cX3_becomeTimes 41 = .ok (.bipush 8, 2) := by decide +kernel
theorem dX3_becomeTimes_43 : decode cX3_becomeTimes 43 = .ok (.if_icmp .ge 43, 3) := by decide +kernel
theorem dX3_becomeTimes_46 : decode cX3_becomeTimes 46 = .ok (.aload_n 1, 1) := by decide +kernel
theorem dX3_becomeTimes_47 : decode cX3_becomeTimes 47 = .ok (.getfield 9, 3) := by decide +kernel
theorem dX3_becomeTimes_50 : decode cX3_becomeTimes 50 = .ok (.iload 5, 2) := by decide +kernel
theorem dX3_becomeTimes_52 : decode cX3_becomeTimes 52 = .ok (.laload, 1) := by decide +kernel
theorem dX3_becomeTimes_53 : decode cX3_becomeTimes 53 = .ok (.invokestatic 44, 3) := by decide +kernel
theorem dX3_becomeTimes_56 : decode cX3_becomeTimes 56 = .ok (.lload_n 3, 1) := by decide +kernel
theorem dX3_becomeTimes_57 : decode cX3_becomeTimes 57 = .ok (.lcmp, 1) := by decide +kernel
theorem dX3_becomeTimes_58 : decode cX3_becomeTimes 58 = .ok (.ifCond .le 5, 3) := by decide +kernel
theorem dX3_becomeTimes_61 : decode cX3_becomeTimes 61 = .ok (.iconst 0, 1) := by decide +kernel
theorem dX3_becomeTimes_62 : decode cX3_becomeTimes 62 = .ok (.ireturn, 1) := by decide +kernel
theorem dX3_becomeTimes_63 : decode cX3_becomeTimes 63 = .ok (.aload_n 0, 1) := by decide +kernel
theorem dX3_becomeTimes_64 : decode cX3_becomeTimes 64 = .ok (.getfield 9, 3) := by decide +kernel
theorem dX3_becomeTimes_67 : decode cX3_becomeTimes 67 = .ok (.iload 5, 2) := by decide +kernel
theorem dX3_becomeTimes_69 : decode cX3_becomeTimes 69 = .ok (.aload_n 1, 1) := by decide +kernel
theorem dX3_becomeTimes_70 : decode cX3_becomeTimes 70 = .ok (.getfield 9, 3) := by decide +kernel
theorem dX3_becomeTimes_73 : decode cX3_becomeTimes 73 = .ok (.iload 5, 2) := by decide +kernel
theorem dX3_becomeTimes_75 : decode cX3_becomeTimes 75 = .ok (.laload, 1) := by decide +kernel
theorem dX3_becomeTimes_76 : decode cX3_becomeTimes 76 = .ok (.iload_n 2, 1) := by decide +kernel
theorem dX3_becomeTimes_77 : decode cX3_becomeTimes 77 = .ok (.i2l, 1) := by decide +kernel
theorem dX3_becomeTimes_78 : decode cX3_becomeTimes 78 = .ok (.lmul, 1) := by decide +kernel
theorem dX3_becomeTimes_79 : decode cX3_becomeTimes 79 = .ok (.lastore, 1) := by decide +kernel
theorem dX3_becomeTimes_80 : decode cX3_becomeTimes 80 = .ok (.iinc 5 1, 3) := by decide +kernel
theorem dX3_becomeTimes_83 : decode cX3_becomeTimes 83 = .ok (.goto (-44), 3) := by decide +kernel
theorem dX3_becomeTimes_86 : decode cX3_becomeTimes 86 = .ok (.iconst 1, 1) := by decide +kernel
theorem dX3_becomeTimes_87 : decode cX3_becomeTimes 87 = .ok (.ireturn, 1) := by decide +kernel
theorem dX3_becomeSplit_0 : decode cX3_becomeSplit 0 = .ok (.aload_n 0, 1) := by decide +kernel
theorem dX3_becomeSplit_1 : decode cX3_becomeSplit 1 = .ok (.aload_n 1, 1) := by decide +kernel
theorem dX3_becomeSplit_2 : decode cX3_becomeSplit 2 = .ok (.getfield 25, 3) := by decide +kernel
theorem dX3_becomeSplit_5 : decode cX3_becomeSplit 5 = .ok (.iload_n 2, 1) := by decide +kernel
theorem dX3_becomeSplit_6 : decode cX3_becomeSplit 6 = .ok (.invokestatic 57, 3) := by decide +kernel
theorem dX3_becomeSplit_9 : decode cX3_becomeSplit 9 = .ok (.putfield 25, 3) := by decide +kernel
theorem dX3_becomeSplit_12 : decode cX3_becomeSplit 12 = .ok (.iconst 0, 1) := by decide +kernel
theorem dX3_becomeSplit_13 : decode cX3_becomeSplit 13 = .ok (.istore_n 3, 1) := by decide +kernel
theorem dX3_becomeSplit_14 : decode cX3_becomeSplit 14 = .ok (.iload_n 3, 1) := by decide +kernel
theorem dX3_becomeSplit_15 : decode cX3_becomeSplit 15 = .ok (.bipush 8, 2) := by decide +kernel
theorem dX3_becomeSplit_17 : decode cX3_becomeSplit 17 = .ok (.if_icmp .ge 25, 3) := by decide +kernel
theorem dX3_becomeSplit_20 : decode cX3_becomeSplit 20 = .ok (.aload_n 0, 1) := by decide +kernel
theorem dX3_becomeSplit_21 : decode cX3_becomeSplit 21 = .ok (.getfield 9, 3) := by decide +kernel
theorem dX3_becomeSplit_24 : decode cX3_becomeSplit 24 = .ok (.iload_n 3, 1) := by decide +kernel
theorem dX3_becomeSplit_25 : decode cX3_becomeSplit 25 = .ok (.aload_n 1, 1) := by decide +kernel
theorem dX3_becomeSplit_26 : decode cX3_becomeSplit 26 = .ok (.getfield 9, 3) := by decide +kernel
theorem dX3_becomeSplit_29 : decode cX3_becomeSplit 29 = .ok (.iload_n 3, 1) := by decide +kernel
theorem dX3_becomeSplit_30 : decode cX3_becomeSplit 30 = .ok (.laload, 1) := by decide +kernel
theorem dX3_becomeSplit_31 : decode cX3_becomeSplit 31 = .ok (.iload_n 2, 1) := by decide +kernel
theorem dX3_becomeSplit_32 : decode cX3_becomeSplit 32 = .ok (.invokestatic 57, 3) := by decide +kernel
theorem dX3_becomeSplit_35 : decode cX3_becomeSplit 35 = .ok (.lastore, 1) := by decide +kernel
theorem dX3_becomeSplit_36 : decode cX3_becomeSplit 36 = .ok (.iinc 3 1, 3) := by decide +kernel
theorem dX3_becomeSplit_39 : decode cX3_becomeSplit 39 = .ok (.goto (-25), 3) := by decide +kernel
theorem dX3_becomeSplit_42 : decode cX3_becomeSplit 42 = .ok (.return_, 1) := by decide +kernel
theorem dX3_splitUp_0 : decode cX3_splitUp 0 = .ok (.iload_n 2, 1) := by decide +kernel
theorem dX3_splitUp_1 : decode cX3_splitUp 1 = .ok (.iconst 1, 1) := by decide +kernel
theorem dX3_splitUp_2 : decode cX3_splitUp 2 = .ok (.if_icmp .ge 5, 3) := by decide +kernel
theorem dX3_splitUp_5 : decode cX3_splitUp 5 = .ok (.lload_n 0, 1) := by decide +kernel
theorem dX3_splitUp_6 : decode cX3_splitUp 6 = .ok (.lreturn, 1) := by decide +kernel
theorem dX3_splitUp_7 : decode cX3_splitUp 7 = .ok (.lload_n 0, 1) := by decide +kernel
theorem dX3_splitUp_8 : decode cX3_splitUp 8 = .ok (.iload_n 2, 1) := by decide +kernel
theorem dX3_splitUp_9 : decode cX3_splitUp 9 = .ok (.i2l, 1) := by decide +kernel
theorem dX3_splitUp_10 : decode cX3_splitUp 10 = .ok (.ldiv, 1) := by decide +kernel
theorem dX3_splitUp_11 : decode cX3_splitUp 11 = .ok (.lstore_n 3, 1) := by decide +kernel
theorem dX3_splitUp_12 : decode cX3_splitUp 12 = .ok (.lload_n 0, 1) := by decide +kernel
theorem dX3_splitUp_13 : decode cX3_splitUp 13 = .ok (.iload_n 2, 1) := by decide +kernel
theorem dX3_splitUp_14 : decode cX3_splitUp 14 = .ok (.i2l, 1) := by decide +kernel
theorem dX3_splitUp_15 : decode cX3_splitUp 15 = .ok (.lrem, 1) := by decide +kernel
theorem dX3_splitUp_16 : decode cX3_splitUp 16 = .ok (.lconst 0, 1) := by decide +kernel
theorem dX3_splitUp_17 : decode cX3_splitUp 17 = .ok (.lcmp, 1) := by decide +kernel
theorem dX3_splitUp_18 : decode cX3_splitUp 18 = .ok (.ifCond .ne 5, 3) := by decide +kernel
theorem dX3_splitUp_21 : decode cX3_splitUp 21 = .ok (.lload_n 3, 1) := by decide +kernel
theorem dX3_splitUp_22 : decode cX3_splitUp 22 = .ok (.lreturn, 1) := by decide +kernel
theorem dX3_splitUp_23 : decode cX3_splitUp 23 = .ok (.lload_n 0, 1) := by decide +kernel
theorem dX3_splitUp_24 : decode cX3_splitUp 24 = .ok (.lconst 0, 1) := by decide +kernel
theorem dX3_splitUp_25 : decode cX3_splitUp 25 = .ok (.lcmp, 1) := by decide +kernel
theorem dX3_splitUp_26 : decode cX3_splitUp 26 = .ok (.ifCond .le 9, 3) := by decide +kernel
theorem dX3_splitUp_29 : decode cX3_splitUp 29 = .ok (.lload_n 3, 1) := by decide +kernel
theorem dX3_splitUp_30 : decode cX3_splitUp 30 = .ok (.lconst 1, 1) := by decide +kernel
theorem dX3_splitUp_31 : decode cX3_splitUp 31 = .ok (.ladd, 1) := by decide +kernel
theorem dX3_splitUp_32 : decode cX3_splitUp 32 = .ok (.goto 6, 3) := by decide +kernel
theorem dX3_splitUp_35 : decode cX3_splitUp 35 = .ok (.lload_n 3, 1) := by decide +kernel
theorem dX3_splitUp_36 : decode cX3_splitUp 36 = .ok (.lconst 1, 1) := by decide +kernel
theorem dX3_splitUp_37 : decode cX3_splitUp 37 = .ok (.lsub, 1) := by decide +kernel
theorem dX3_splitUp_38 : decode cX3_splitUp 38 = .ok (.lreturn, 1) := by decide +kernel
theorem dX3_becomeSaturated_0 : decode cX3_becomeSaturated 0 = .ok (.aload_n 0, 1) := by decide +kernel
theorem dX3_becomeSaturated_1 : decode cX3_becomeSaturated 1 = .ok (.aload_n 1, 1) := by decide +kernel
theorem dX3_becomeSaturated_2 : decode cX3_becomeSaturated 2 = .ok (.getfield 25, 3) := by decide +kernel
theorem dX3_becomeSaturated_5 : decode cX3_becomeSaturated 5 = .ok (.putfield 25, 3) := by decide +kernel
theorem dX3_becomeSaturated_8 : decode cX3_becomeSaturated 8 = .ok (.iconst 0, 1) := by decide +kernel
theorem dX3_becomeSaturated_9 : decode cX3_becomeSaturated 9 = .ok (.istore_n 2, 1) := by decide +kernel
theorem dX3_becomeSaturated_10 : decode cX3_becomeSaturated 10 = .ok (.iload_n 2, 1) := by decide +kernel
theorem dX3_becomeSaturated_11 : decode cX3_becomeSaturated 11 = .ok (.bipush 8, 2) := by decide +kernel
theorem dX3_becomeSaturated_13 : decode cX3_becomeSaturated 13 = .ok (.if_icmp .ge 36, 3) := by decide +kernel
theorem dX3_becomeSaturated_16 : decode cX3_becomeSaturated 16 = .ok (.aload_n 0, 1) := by decide +kernel
theorem dX3_becomeSaturated_17 : decode cX3_becomeSaturated 17 = .ok (.getfield 9, 3) := by decide +kernel
theorem dX3_becomeSaturated_20 : decode cX3_becomeSaturated 20 = .ok (.iload_n 2, 1) := by decide +kernel
theorem dX3_becomeSaturated_21 : decode cX3_becomeSaturated 21 = .ok (.aload_n 0, 1) := by decide +kernel
theorem dX3_becomeSaturated_22 : decode cX3_becomeSaturated 22 = .ok (.getfield 25, 3) := by decide +kernel
theorem dX3_becomeSaturated_25 : decode cX3_becomeSaturated 25 = .ok (.lneg, 1) := by decide +kernel
theorem dX3_becomeSaturated_26 : decode cX3_becomeSaturated 26 = .ok (.aload_n 0, 1) := by decide +kernel
theorem dX3_becomeSaturated_27 : decode cX3_becomeSaturated 27 = .ok (.getfield 25, 3) := by decide +kernel
theorem dX3_becomeSaturated_30 : decode cX3_becomeSaturated 30 = .ok (.aload_n 1, 1) := by decide +kernel
theorem dX3_becomeSaturated_31 : decode cX3_becomeSaturated 31 = .ok (.getfield 9, 3) := by decide +kernel
theorem dX3_becomeSaturated_34 : decode cX3_becomeSaturated 34 = .ok (.iload_n 2, 1) := by decide +kernel
theorem dX3_becomeSaturated_35 : decode cX3_becomeSaturated 35 = .ok (.laload, 1) := by decide +kernel
theorem dX3_becomeSaturated_36 : decode cX3_becomeSaturated 36 = .ok (.invokestatic 50, 3) := by decide +kernel
theorem dX3_becomeSaturated_39 : decode cX3_becomeSaturated 39 = .ok (.invokestatic 54, 3) := by decide +kernel
theorem dX3_becomeSaturated_42 : decode cX3_becomeSaturated 42 = .ok (.lastore, 1) := by decide +kernel
theorem dX3_becomeSaturated_43 : decode cX3_becomeSaturated 43 = .ok (.iinc 2 1, 3) := by decide +kernel
theorem dX3_becomeSaturated_46 : decode cX3_becomeSaturated 46 = .ok (.goto (-36), 3) := by decide +kernel
theorem dX3_becomeSaturated_49 : decode cX3_becomeSaturated 49 = .ok (.return_, 1) := by decide +kernel
theorem dX3_becomeWeakened_0 : decode cX3_becomeWeakened 0 = .ok (.aload_n 1, 1) := by decide +kernel
theorem dX3_becomeWeakened_1 : decode cX3_becomeWeakened 1 = .ok (.getfield 9, 3) := by decide +kernel
theorem dX3_becomeWeakened_4 : decode cX3_becomeWeakened 4 = .ok (.iconst 0, 1) := by decide +kernel
theorem dX3_becomeWeakened_5 : decode cX3_becomeWeakened 5 = .ok (.aload_n 0, 1) := by decide +kernel
theorem dX3_becomeWeakened_6 : decode cX3_becomeWeakened 6 = .ok (.getfield 9, 3) := by decide +kernel
theorem dX3_becomeWeakened_9 : decode cX3_becomeWeakened 9 = .ok (.iconst 0, 1) := by decide +kernel
theorem dX3_becomeWeakened_10 : decode cX3_becomeWeakened 10 = .ok (.bipush 8, 2) := by decide +kernel
theorem dX3_becomeWeakened_12 : decode cX3_becomeWeakened 12 = .ok (.invokestatic 29, 3) := by decide +kernel
theorem dX3_becomeWeakened_15 : decode cX3_becomeWeakened 15 = .ok (.aload_n 0, 1) := by decide +kernel
theorem dX3_becomeWeakened_16 : decode cX3_becomeWeakened 16 = .ok (.lconst 0, 1) := by decide +kernel
theorem dX3_becomeWeakened_17 : decode cX3_becomeWeakened 17 = .ok (.aload_n 1, 1) := by decide +kernel
theorem dX3_becomeWeakened_18 : decode cX3_becomeWeakened 18 = .ok (.getfield 25, 3) := by decide +kernel
theorem dX3_becomeWeakened_21 : decode cX3_becomeWeakened 21 = .ok (.aload_n 1, 1) := by decide +kernel
theorem dX3_becomeWeakened_22 : decode cX3_becomeWeakened 22 = .ok (.getfield 9, 3) := by decide +kernel
theorem dX3_becomeWeakened_25 : decode cX3_becomeWeakened 25 = .ok (.iload_n 2, 1) := by decide +kernel
theorem dX3_becomeWeakened_26 : decode cX3_becomeWeakened 26 = .ok (.laload, 1) := by decide +kernel
theorem dX3_becomeWeakened_27 : decode cX3_becomeWeakened 27 = .ok (.invokestatic 44, 3) := by decide +kernel
theorem dX3_becomeWeakened_30 : decode cX3_becomeWeakened 30 = .ok (.lsub, 1) := by decide +kernel
theorem dX3_becomeWeakened_31 : decode cX3_becomeWeakened 31 = .ok (.invokestatic 54, 3) := by decide +kernel
theorem dX3_becomeWeakened_34 : decode cX3_becomeWeakened 34 = .ok (.putfield 25, 3) := by decide +kernel
theorem dX3_becomeWeakened_37 : decode cX3_becomeWeakened 37 = .ok (.aload_n 0, 1) := by decide +kernel
theorem dX3_becomeWeakened_38 : decode cX3_becomeWeakened 38 = .ok (.getfield 9, 3) := by decide +kernel
theorem dX3_becomeWeakened_41 : decode cX3_becomeWeakened 41 = .ok (.iload_n 2, 1) := by decide +kernel
theorem dX3_becomeWeakened_42 : decode cX3_becomeWeakened 42 = .ok (.lconst 0, 1) := by decide +kernel
theorem dX3_becomeWeakened_43 : decode cX3_becomeWeakened 43 = .ok (.lastore, 1) := by decide +kernel
theorem dX3_becomeWeakened_44 : decode cX3_becomeWeakened 44 = .ok (.return_, 1) := by decide +kernel
theorem dX3_becomeBound_0 : decode cX3_becomeBound 0 = .ok (.iconst 0, 1) := by decide +kernel
theorem dX3_becomeBound_1 : decode cX3_becomeBound 1 = .ok (.istore 4, 2) := by decide +kernel
theorem dX3_becomeBound_3 : decode cX3_becomeBound 3 = .ok (.iload 4, 2) := by decide +kernel
theorem dX3_becomeBound_5 : decode cX3_becomeBound 5 = .ok (.bipush 8, 2) := by decide +kernel
theorem dX3_becomeBound_7 : decode cX3_becomeBound 7 = .ok (.if_icmp .ge 22, 3) := by decide +kernel
theorem dX3_becomeBound_10 : decode cX3_becomeBound 10 = .ok (.aload_n 0, 1) := by decide +kernel
theorem dX3_becomeBound_11 : decode cX3_becomeBound 11 = .ok (.getfield 9, 3) := by decide +kernel
theorem dX3_becomeBound_14 : decode cX3_becomeBound 14 = .ok (.iload 4, 2) := by decide +kernel
theorem dX3_becomeBound_16 : decode cX3_becomeBound 16 = .ok (.aload_n 1, 1) := by decide +kernel
theorem dX3_becomeBound_17 : decode cX3_becomeBound 17 = .ok (.iload 4, 2) := by decide +kernel
theorem dX3_becomeBound_19 : decode cX3_becomeBound 19 = .ok (.iaload, 1) := by decide +kernel
theorem dX3_becomeBound_20 : decode cX3_becomeBound 20 = .ok (.ineg, 1) := by decide +kernel
theorem dX3_becomeBound_21 : decode cX3_becomeBound 21 = .ok (.i2l, 1) := by decide +kernel
theorem dX3_becomeBound_22 : decode cX3_becomeBound 22 = .ok (.lastore, 1) := by decide +kernel
theorem dX3_becomeBound_23 : decode cX3_becomeBound 23 = .ok (.iinc 4 1, 3) := by decide +kernel
theorem dX3_becomeBound_26 : decode cX3_becomeBound 26 = .ok (.goto (-23), 3) := by decide +kernel
theorem dX3_becomeBound_29 : decode cX3_becomeBound 29 = .ok (.aload_n 0, 1) := by decide +kernel
theorem dX3_becomeBound_30 : decode cX3_becomeBound 30 = .ok (.iload_n 2, 1) := by decide +kernel
theorem dX3_becomeBound_31 : decode cX3_becomeBound 31 = .ok (.iload_n 3, 1) := by decide +kernel
theorem dX3_becomeBound_32 : decode cX3_becomeBound 32 = .ok (.isub, 1) := by decide +kernel
theorem dX3_becomeBound_33 : decode cX3_becomeBound 33 = .ok (.iconst 1, 1) := by decide +kernel
theorem dX3_becomeBound_34 : decode cX3_becomeBound 34 = .ok (.iadd, 1) := by decide +kernel
theorem dX3_becomeBound_35 : decode cX3_becomeBound 35 = .ok (.i2l, 1) := by decide +kernel
theorem dX3_becomeBound_36 : decode cX3_becomeBound 36 = .ok (.putfield 25, 3) := by decide +kernel
theorem dX3_becomeBound_39 : decode cX3_becomeBound 39 = .ok (.return_, 1) := by decide +kernel
theorem dX3_becomeContrary_0 : decode cX3_becomeContrary 0 = .ok (.iconst 0, 1) := by decide +kernel
theorem dX3_becomeContrary_1 : decode cX3_becomeContrary 1 = .ok (.istore_n 2, 1) := by decide +kernel
theorem dX3_becomeContrary_2 : decode cX3_becomeContrary 2 = .ok (.iload_n 2, 1) := by decide +kernel
theorem dX3_becomeContrary_3 : decode cX3_becomeContrary 3 = .ok (.bipush 8, 2) := by decide +kernel
theorem dX3_becomeContrary_5 : decode cX3_becomeContrary 5 = .ok (.if_icmp .ge 22, 3) := by decide +kernel
theorem dX3_becomeContrary_8 : decode cX3_becomeContrary 8 = .ok (.aload_n 0, 1) := by decide +kernel
theorem dX3_becomeContrary_9 : decode cX3_becomeContrary 9 = .ok (.getfield 9, 3) := by decide +kernel
theorem dX3_becomeContrary_12 : decode cX3_becomeContrary 12 = .ok (.iload_n 2, 1) := by decide +kernel
theorem dX3_becomeContrary_13 : decode cX3_becomeContrary 13 = .ok (.aload_n 1, 1) := by decide +kernel
theorem dX3_becomeContrary_14 : decode cX3_becomeContrary 14 = .ok (.getfield 9, 3) := by decide +kernel
theorem dX3_becomeContrary_17 : decode cX3_becomeContrary 17 = .ok (.iload_n 2, 1) := by decide +kernel
theorem dX3_becomeContrary_18 : decode cX3_becomeContrary 18 = .ok (.laload, 1) := by decide +kernel
theorem dX3_becomeContrary_19 : decode cX3_becomeContrary 19 = .ok (.lneg, 1) := by decide +kernel
theorem dX3_becomeContrary_20 : decode cX3_becomeContrary 20 = .ok (.lastore, 1) := by decide +kernel
theorem dX3_becomeContrary_21 : decode cX3_becomeContrary 21 = .ok (.iinc 2 1, 3) := by decide +kernel
theorem dX3_becomeContrary_24 : decode cX3_becomeContrary 24 = .ok (.goto (-22), 3) := by decide +kernel
theorem dX3_becomeContrary_27 : decode cX3_becomeContrary 27 = .ok (.aload_n 1, 1) := by decide +kernel
theorem dX3_becomeContrary_28 : decode cX3_becomeContrary 28 = .ok (.invokevirtual 61, 3) := by decide +kernel
theorem dX3_becomeContrary_31 : decode cX3_becomeContrary 31 = .ok (.aload_n 1, 1) := by decide +kernel
theorem dX3_becomeContrary_32 : decode cX3_becomeContrary 32 = .ok (.getfield 25, 3) := by decide +kernel
theorem dX3_becomeContrary_35 : decode cX3_becomeContrary 35 = .ok (.lsub, 1) := by decide +kernel
theorem dX3_becomeContrary_36 : decode cX3_becomeContrary 36 = .ok (.lstore_n 2, 1) := by decide +kernel
theorem dX3_becomeContrary_37 : decode cX3_becomeContrary 37 = .ok (.aload_n 0, 1) := by decide +kernel
theorem dX3_becomeContrary_38 : decode cX3_becomeContrary 38 = .ok (.lload_n 2, 1) := by decide +kernel
theorem dX3_becomeContrary_39 : decode cX3_becomeContrary 39 = .ok (.lconst 0, 1) := by decide +kernel
theorem dX3_becomeContrary_40 : decode cX3_becomeContrary 40 = .ok (.lcmp, 1) := by decide +kernel
theorem dX3_becomeContrary_41 : decode cX3_becomeContrary 41 = .ok (.ifCond .ge 7, 3) := by decide +kernel
theorem dX3_becomeContrary_44 : decode cX3_becomeContrary 44 = .ok (.lconst 0, 1) := by decide +kernel
theorem dX3_becomeContrary_45 : decode cX3_becomeContrary 45 = .ok (.goto 6, 3) := by decide +kernel
theorem dX3_becomeContrary_48 : decode cX3_becomeContrary 48 = .ok (.lload_n 2, 1) := by decide +kernel
theorem dX3_becomeContrary_49 : decode cX3_becomeContrary 49 = .ok (.lconst 1, 1) := by decide +kernel
theorem dX3_becomeContrary_50 : decode cX3_becomeContrary 50 = .ok (.ladd, 1) := by decide +kernel
theorem dX3_becomeContrary_51 : decode cX3_becomeContrary 51 = .ok (.putfield 25, 3) := by decide +kernel
theorem dX3_becomeContrary_54 : decode cX3_becomeContrary 54 = .ok (.return_, 1) := by decide +kernel
theorem dX3_becomePut_0 : decode cX3_becomePut 0 = .ok (.aload_n 0, 1) := by decide +kernel
theorem dX3_becomePut_1 : decode cX3_becomePut 1 = .ok (.invokevirtual 65, 3) := by decide +kernel
theorem dX3_becomePut_4 : decode cX3_becomePut 4 = .ok (.aload_n 0, 1) := by decide +kernel
theorem dX3_becomePut_5 : decode cX3_becomePut 5 = .ok (.aload_n 1, 1) := by decide +kernel
theorem dX3_becomePut_6 : decode cX3_becomePut 6 = .ok (.getfield 25, 3) := by decide +kernel
theorem dX3_becomePut_9 : decode cX3_becomePut 9 = .ok (.putfield 25, 3) := by decide +kernel
theorem dX3_becomePut_12 : decode cX3_becomePut 12 = .ok (.iconst 0, 1) := by decide +kernel
theorem dX3_becomePut_13 : decode cX3_becomePut 13 = .ok (.istore_n 3, 1) := by decide +kernel
theorem dX3_becomePut_14 : decode cX3_becomePut 14 = .ok (.iload_n 3, 1) := by decide +kernel
theorem dX3_becomePut_15 : decode cX3_becomePut 15 = .ok (.bipush 8, 2) := by decide +kernel
theorem dX3_becomePut_17 : decode cX3_becomePut 17 = .ok (.if_icmp .ge 52, 3) := by decide +kernel
theorem dX3_becomePut_20 : decode cX3_becomePut 20 = .ok (.aload_n 1, 1) := by decide +kernel
theorem dX3_becomePut_21 : decode cX3_becomePut 21 = .ok (.getfield 9, 3) := by decide +kernel
theorem dX3_becomePut_24 : decode cX3_becomePut 24 = .ok (.iload_n 3, 1) := by decide +kernel
theorem dX3_becomePut_25 : decode cX3_becomePut 25 = .ok (.laload, 1) := by decide +kernel
theorem dX3_becomePut_26 : decode cX3_becomePut 26 = .ok (.lstore 4, 2) := by decide +kernel
theorem dX3_becomePut_28 : decode cX3_becomePut 28 = .ok (.lload 4, 2) := by decide +kernel
theorem dX3_becomePut_30 : decode cX3_becomePut 30 = .ok (.lconst 0, 1) := by decide +kernel
theorem dX3_becomePut_31 : decode cX3_becomePut 31 = .ok (.lcmp, 1) := by decide +kernel
theorem dX3_becomePut_32 : decode cX3_becomePut 32 = .ok (.ifCond .eq 31, 3) := by decide +kernel
theorem dX3_becomePut_35 : decode cX3_becomePut 35 = .ok (.aload_n 0, 1) := by decide +kernel
theorem dX3_becomePut_36 : decode cX3_becomePut 36 = .ok (.lload 4, 2) := by decide +kernel
theorem dX3_becomePut_38 : decode cX3_becomePut 38 = .ok (.lconst 0, 1) := by decide +kernel
theorem dX3_becomePut_39 : decode cX3_becomePut 39 = .ok (.lcmp, 1) := by decide +kernel
theorem dX3_becomePut_40 : decode cX3_becomePut 40 = .ok (.ifCond .le 9, 3) := by decide +kernel
theorem dX3_becomePut_43 : decode cX3_becomePut 43 = .ok (.aload_n 2, 1) := by decide +kernel
theorem dX3_becomePut_44 : decode cX3_becomePut 44 = .ok (.iload_n 3, 1) := by decide +kernel
theorem dX3_becomePut_45 : decode cX3_becomePut 45 = .ok (.iaload, 1) := by decide +kernel
theorem dX3_becomePut_46 : decode cX3_becomePut 46 = .ok (.goto 9, 3) := by decide +kernel
theorem dX3_becomePut_49 : decode cX3_becomePut 49 = .ok (.aload_n 2, 1) := by decide +kernel
theorem dX3_becomePut_50 : decode cX3_becomePut 50 = .ok (.iload_n 3, 1) := by decide +kernel
theorem dX3_becomePut_51 : decode cX3_becomePut 51 = .ok (.iaload, 1) := by decide +kernel
theorem dX3_becomePut_52 : decode cX3_becomePut 52 = .ok (.invokestatic 68, 3) := by decide +kernel
theorem dX3_becomePut_55 : decode cX3_becomePut 55 = .ok (.lload 4, 2) := by decide +kernel
theorem dX3_becomePut_57 : decode cX3_becomePut 57 = .ok (.invokestatic 44, 3) := by decide +kernel
theorem dX3_becomePut_60 : decode cX3_becomePut 60 = .ok (.invokevirtual 72, 3) := by decide +kernel
theorem dX3_becomePut_63 : decode cX3_becomePut 63 = .ok (.iinc 3 1, 3) := by decide +kernel
theorem dX3_becomePut_66 : decode cX3_becomePut 66 = .ok (.goto (-52), 3) := by decide +kernel
theorem dX3_becomePut_69 : decode cX3_becomePut 69 = .ok (.return_, 1) := by decide +kernel
theorem dX3_becomePriceKept_0 : decode cX3_becomePriceKept 0 = .ok (.aload_n 0, 1) := by decide +kernel
theorem dX3_becomePriceKept_1 : decode cX3_becomePriceKept 1 = .ok (.invokevirtual 65, 3) := by decide +kernel
theorem dX3_becomePriceKept_4 : decode cX3_becomePriceKept 4 = .ok (.iconst 0, 1) := by decide +kernel
theorem dX3_becomePriceKept_5 : decode cX3_becomePriceKept 5 = .ok (.istore_n 3, 1) := by decide +kernel
theorem dX3_becomePriceKept_6 : decode cX3_becomePriceKept 6 = .ok (.iload_n 3, 1) := by decide +kernel
theorem dX3_becomePriceKept_7 : decode cX3_becomePriceKept 7 = .ok (.bipush 8, 2) := by decide +kernel
theorem dX3_becomePriceKept_9 : decode cX3_becomePriceKept 9 = .ok (.if_icmp .ge 22, 3) := by decide +kernel
theorem dX3_becomePriceKept_12 : decode cX3_becomePriceKept 12 = .ok (.aload_n 0, 1) := by decide +kernel
theorem dX3_becomePriceKept_13 : decode cX3_becomePriceKept 13 = .ok (.dup, 1) := by decide +kernel
theorem dX3_becomePriceKept_14 : decode cX3_becomePriceKept 14 = .ok (.getfield 25, 3) := by decide +kernel
theorem dX3_becomePriceKept_17 : decode cX3_becomePriceKept 17 = .ok (.aload_n 1, 1) := by decide +kernel
theorem dX3_becomePriceKept_18 : decode cX3_becomePriceKept 18 = .ok (.iload_n 3, 1) := by decide +kernel
theorem dX3_becomePriceKept_19 : decode cX3_becomePriceKept 19 = .ok (.iaload, 1) := by decide +kernel
theorem dX3_becomePriceKept_20 : decode cX3_becomePriceKept 20 = .ok (.i2l, 1) := by decide +kernel
theorem dX3_becomePriceKept_21 : decode cX3_becomePriceKept 21 = .ok (.ladd, 1) := by decide +kernel
theorem dX3_becomePriceKept_22 : decode cX3_becomePriceKept 22 = .ok (.putfield 25, 3) := by decide +kernel
theorem dX3_becomePriceKept_25 : decode cX3_becomePriceKept 25 = .ok (.iinc 3 1, 3) := by decide +kernel
theorem dX3_becomePriceKept_28 : decode cX3_becomePriceKept 28 = .ok (.goto (-22), 3) := by decide +kernel
theorem dX3_becomePriceKept_31 : decode cX3_becomePriceKept 31 = .ok (.iconst 0, 1) := by decide +kernel
theorem dX3_becomePriceKept_32 : decode cX3_becomePriceKept 32 = .ok (.istore_n 3, 1) := by decide +kernel
theorem dX3_becomePriceKept_33 : decode cX3_becomePriceKept 33 = .ok (.iload_n 3, 1) := by decide +kernel
theorem dX3_becomePriceKept_34 : decode cX3_becomePriceKept 34 = .ok (.bipush 8, 2) := by decide +kernel
theorem dX3_becomePriceKept_36 : decode cX3_becomePriceKept 36 = .ok (.if_icmp .ge 33, 3) := by decide +kernel
theorem dX3_becomePriceKept_39 : decode cX3_becomePriceKept 39 = .ok (.aload_n 0, 1) := by decide +kernel
theorem dX3_becomePriceKept_40 : decode cX3_becomePriceKept 40 = .ok (.iload_n 3, 1) := by decide +kernel
theorem dX3_becomePriceKept_41 : decode cX3_becomePriceKept 41 = .ok (.aload_n 1, 1) := by decide +kernel
theorem dX3_becomePriceKept_42 : decode cX3_becomePriceKept 42 = .ok (.iload_n 3, 1) := by decide +kernel
theorem dX3_becomePriceKept_43 : decode cX3_becomePriceKept 43 = .ok (.iaload, 1) := by decide +kernel
theorem dX3_becomePriceKept_44 : decode cX3_becomePriceKept 44 = .ok (.i2l, 1) := by decide +kernel
theorem dX3_becomePriceKept_45 : decode cX3_becomePriceKept 45 = .ok (.invokevirtual 40, 3) := by decide +kernel
theorem dX3_becomePriceKept_48 : decode cX3_becomePriceKept 48 = .ok (.pop, 1) := by decide +kernel
theorem dX3_becomePriceKept_49 : decode cX3_becomePriceKept 49 = .ok (.aload_n 0, 1) := by decide +kernel
theorem dX3_becomePriceKept_50 : decode cX3_becomePriceKept 50 = .ok (.aload_n 2, 1) := by decide +kernel
theorem dX3_becomePriceKept_51 : decode cX3_becomePriceKept 51 = .ok (.iload_n 3, 1) := by decide +kernel
theorem dX3_becomePriceKept_52 : decode cX3_becomePriceKept 52 = .ok (.iaload, 1) := by decide +kernel
theorem dX3_becomePriceKept_53 : decode cX3_becomePriceKept 53 = .ok (.invokestatic 68, 3) := by decide +kernel
theorem dX3_becomePriceKept_56 : decode cX3_becomePriceKept 56 = .ok (.aload_n 1, 1) := by decide +kernel
theorem dX3_becomePriceKept_57 : decode cX3_becomePriceKept 57 = .ok (.iload_n 3, 1) := by decide +kernel
theorem dX3_becomePriceKept_58 : decode cX3_becomePriceKept 58 = .ok (.iaload, 1) := by decide +kernel
theorem dX3_becomePriceKept_59 : decode cX3_becomePriceKept 59 = .ok (.i2l, 1) := by decide +kernel
theorem dX3_becomePriceKept_60 : decode cX3_becomePriceKept 60 = .ok (.invokevirtual 72, 3) := by decide +kernel
theorem dX3_becomePriceKept_63 : decode cX3_becomePriceKept 63 = .ok (.iinc 3 1, 3) := by decide +kernel
theorem dX3_becomePriceKept_66 : decode cX3_becomePriceKept 66 = .ok (.goto (-33), 3) := by decide +kernel
theorem dX3_becomePriceKept_69 : decode cX3_becomePriceKept 69 = .ok (.return_, 1) := by decide +kernel
theorem dX3_joinsPut_0 : decode cX3_joinsPut 0 = .ok (.iload_n 1, 1) := by decide +kernel
theorem dX3_joinsPut_1 : decode cX3_joinsPut 1 = .ok (.iconst 1, 1) := by decide +kernel
theorem dX3_joinsPut_2 : decode cX3_joinsPut 2 = .ok (.if_icmp .ne 20, 3) := by decide +kernel
theorem dX3_joinsPut_5 : decode cX3_joinsPut 5 = .ok (.aload_n 0, 1) := by decide +kernel
theorem dX3_joinsPut_6 : decode cX3_joinsPut 6 = .ok (.lconst 0, 1) := by decide +kernel
theorem dX3_joinsPut_7 : decode cX3_joinsPut 7 = .ok (.aload_n 0, 1) := by decide +kernel
theorem dX3_joinsPut_8 : decode cX3_joinsPut 8 = .ok (.getfield 25, 3) := by decide +kernel
theorem dX3_joinsPut_11 : decode cX3_joinsPut 11 = .ok (.lload_n 2, 1) := by decide +kernel
theorem dX3_joinsPut_12 : decode cX3_joinsPut 12 = .ok (.lsub, 1) := by decide +kernel
theorem dX3_joinsPut_13 : decode cX3_joinsPut 13 = .ok (.invokestatic 54, 3) := by decide +kernel
theorem dX3_joinsPut_16 : decode cX3_joinsPut 16 = .ok (.putfield 25, 3) := by decide +kernel
theorem dX3_joinsPut_19 : decode cX3_joinsPut 19 = .ok (.goto 49, 3) := by decide +kernel
theorem dX3_joinsPut_22 : decode cX3_joinsPut 22 = .ok (.iload_n 1, 1) := by decide +kernel
theorem dX3_joinsPut_23 : decode cX3_joinsPut 23 = .ok (.bipush 10, 2) := by decide +kernel
theorem dX3_joinsPut_25 : decode cX3_joinsPut 25 = .ok (.if_icmp .lt 23, 3) := by decide +kernel
theorem dX3_joinsPut_28 : decode cX3_joinsPut 28 = .ok (.iload_n 1, 1) := by decide +kernel
theorem dX3_joinsPut_29 : decode cX3_joinsPut 29 = .ok (.bipush 18, 2) := by decide +kernel
theorem dX3_joinsPut_31 : decode cX3_joinsPut 31 = .ok (.if_icmp .ge 17, 3) := by decide +kernel
theorem dX3_joinsPut_34 : decode cX3_joinsPut 34 = .ok (.aload_n 0, 1) := by decide +kernel
theorem dX3_joinsPut_35 : decode cX3_joinsPut 35 = .ok (.iload_n 1, 1) := by decide +kernel
theorem dX3_joinsPut_36 : decode cX3_joinsPut 36 = .ok (.bipush 10, 2) := by decide +kernel
theorem dX3_joinsPut_38 : decode cX3_joinsPut 38 = .ok (.isub, 1) := by decide +kernel
theorem dX3_joinsPut_39 : decode cX3_joinsPut 39 = .ok (.lload_n 2, 1) := by decide +kernel
theorem dX3_joinsPut_40 : decode cX3_joinsPut 40 = .ok (.lneg, 1) := by decide +kernel
theorem dX3_joinsPut_41 : decode cX3_joinsPut 41 = .ok (.invokevirtual 40, 3) := by decide +kernel
theorem dX3_joinsPut_44 : decode cX3_joinsPut 44 = .ok (.pop, 1) := by decide +kernel
theorem dX3_joinsPut_45 : decode cX3_joinsPut 45 = .ok (.goto 23, 3) := by decide +kernel
theorem dX3_joinsPut_48 : decode cX3_joinsPut 48 = .ok (.iload_n 1, 1) := by decide +kernel
theorem dX3_joinsPut_49 : decode cX3_joinsPut 49 = .ok (.iconst 2, 1) := by decide +kernel
theorem dX3_joinsPut_50 : decode cX3_joinsPut 50 = .ok (.if_icmp .lt 18, 3) := by decide +kernel
theorem dX3_joinsPut_53 : decode cX3_joinsPut 53 = .ok (.iload_n 1, 1) := by decide +kernel
theorem dX3_joinsPut_54 : decode cX3_joinsPut 54 = .ok (.bipush 10, 2) := by decide +kernel
theorem dX3_joinsPut_56 : decode cX3_joinsPut 56 = .ok (.if_icmp .ge 12, 3) := by decide +kernel
theorem dX3_joinsPut_59 : decode cX3_joinsPut 59 = .ok (.aload_n 0, 1) := by decide +kernel
theorem dX3_joinsPut_60 : decode cX3_joinsPut 60 = .ok (.iload_n 1, 1) := by decide +kernel
theorem dX3_joinsPut_61 : decode cX3_joinsPut 61 = .ok (.iconst 2, 1) := by decide +kernel
theorem dX3_joinsPut_62 : decode cX3_joinsPut 62 = .ok (.isub, 1) := by decide +kernel
theorem dX3_joinsPut_63 : decode cX3_joinsPut 63 = .ok (.lload_n 2, 1) := by decide +kernel
theorem dX3_joinsPut_64 : decode cX3_joinsPut 64 = .ok (.invokevirtual 40, 3) := by decide +kernel
theorem dX3_joinsPut_67 : decode cX3_joinsPut 67 = .ok (.pop, 1) := by decide +kernel
theorem dX3_joinsPut_68 : decode cX3_joinsPut 68 = .ok (.return_, 1) := by decide +kernel
theorem dX3_contraryOf_0 : decode cX3_contraryOf 0 = .ok (.iload_n 0, 1) := by decide +kernel
theorem dX3_contraryOf_1 : decode cX3_contraryOf 1 = .ok (.iconst 2, 1) := by decide +kernel
theorem dX3_contraryOf_2 : decode cX3_contraryOf 2 = .ok (.if_icmp .ge 7, 3) := by decide +kernel
theorem dX3_contraryOf_5 : decode cX3_contraryOf 5 = .ok (.iconst 1, 1) := by decide +kernel
theorem dX3_contraryOf_6 : decode cX3_contraryOf 6 = .ok (.iload_n 0, 1) := by decide +kernel
theorem dX3_contraryOf_7 : decode cX3_contraryOf 7 = .ok (.isub, 1) := by decide +kernel
theorem dX3_contraryOf_8 : decode cX3_contraryOf 8 = .ok (.ireturn, 1) := by decide +kernel
theorem dX3_contraryOf_9 : decode cX3_contraryOf 9 = .ok (.iload_n 0, 1) := by decide +kernel
theorem dX3_contraryOf_10 : decode cX3_contraryOf 10 = .ok (.bipush 10, 2) := by decide +kernel
theorem dX3_contraryOf_12 : decode cX3_contraryOf 12 = .ok (.if_icmp .ge 10, 3) := by decide +kernel
theorem dX3_contraryOf_15 : decode cX3_contraryOf 15 = .ok (.iload_n 0, 1) := by decide +kernel
theorem dX3_contraryOf_16 : decode cX3_contraryOf 16 = .ok (.bipush 8, 2) := by decide +kernel
theorem dX3_contraryOf_18 : decode cX3_contraryOf 18 = .ok (.iadd, 1) := by decide +kernel
theorem dX3_contraryOf_19 : decode cX3_contraryOf 19 = .ok (.goto 7, 3) := by decide +kernel
theorem dX3_contraryOf_22 : decode cX3_contraryOf 22 = .ok (.iload_n 0, 1) := by decide +kernel
theorem dX3_contraryOf_23 : decode cX3_contraryOf 23 = .ok (.bipush 8, 2) := by decide +kernel
theorem dX3_contraryOf_25 : decode cX3_contraryOf 25 = .ok (.isub, 1) := by decide +kernel
theorem dX3_contraryOf_26 : decode cX3_contraryOf 26 = .ok (.ireturn, 1) := by decide +kernel
theorem dX3_total_0 : decode cX3_total 0 = .ok (.lconst 0, 1) := by decide +kernel
theorem dX3_total_1 : decode cX3_total 1 = .ok (.lstore_n 1, 1) := by decide +kernel
theorem dX3_total_2 : decode cX3_total 2 = .ok (.iconst 0, 1) := by decide +kernel
theorem dX3_total_3 : decode cX3_total 3 = .ok (.istore_n 3, 1) := by decide +kernel
theorem dX3_total_4 : decode cX3_total 4 = .ok (.iload_n 3, 1) := by decide +kernel
theorem dX3_total_5 : decode cX3_total 5 = .ok (.bipush 8, 2) := by decide +kernel
theorem dX3_total_7 : decode cX3_total 7 = .ok (.if_icmp .ge 40, 3) := by decide +kernel
theorem dX3_total_10 : decode cX3_total 10 = .ok (.aload_n 0, 1) := by decide +kernel
theorem dX3_total_11 : decode cX3_total 11 = .ok (.getfield 9, 3) := by decide +kernel
theorem dX3_total_14 : decode cX3_total 14 = .ok (.iload_n 3, 1) := by decide +kernel
theorem dX3_total_15 : decode cX3_total 15 = .ok (.laload, 1) := by decide +kernel
theorem dX3_total_16 : decode cX3_total 16 = .ok (.invokestatic 44, 3) := by decide +kernel
theorem dX3_total_19 : decode cX3_total 19 = .ok (.lstore 4, 2) := by decide +kernel
theorem dX3_total_21 : decode cX3_total 21 = .ok (.lload_n 1, 1) := by decide +kernel
theorem dX3_total_22 : decode cX3_total 22 = .ok (.ldc2_w 38, 3) := by decide +kernel
theorem dX3_total_25 : decode cX3_total 25 = .ok (.lload 4, 2) := by decide +kernel
theorem dX3_total_27 : decode cX3_total 27 = .ok (.lsub, 1) := by decide +kernel
theorem dX3_total_28 : decode cX3_total 28 = .ok (.lcmp, 1) := by decide +kernel
theorem dX3_total_29 : decode cX3_total 29 = .ok (.ifCond .le 7, 3) := by decide +kernel
theorem dX3_total_32 : decode cX3_total 32 = .ok (.ldc2_w 76, 3) := by decide +kernel
theorem dX3_total_35 : decode cX3_total 35 = .ok (.lreturn, 1) := by decide +kernel
theorem dX3_total_36 : decode cX3_total 36 = .ok (.lload_n 1, 1) := by decide +kernel
theorem dX3_total_37 : decode cX3_total 37 = .ok (.lload 4, 2) := by decide +kernel
theorem dX3_total_39 : decode cX3_total 39 = .ok (.ladd, 1) := by decide +kernel
theorem dX3_total_40 : decode cX3_total 40 = .ok (.lstore_n 1, 1) := by decide +kernel
theorem dX3_total_41 : decode cX3_total 41 = .ok (.iinc 3 1, 3) := by decide +kernel
theorem dX3_total_44 : decode cX3_total 44 = .ok (.goto (-40), 3) := by decide +kernel
theorem dX3_total_47 : decode cX3_total 47 = .ok (.lload_n 1, 1) := by decide +kernel
theorem dX3_total_48 : decode cX3_total 48 = .ok (.lreturn, 1) := by decide +kernel
theorem dX3_isBeyond_0 : decode cX3_isBeyond 0 = .ok (.aload_n 0, 1) := by decide +kernel
theorem dX3_isBeyond_1 : decode cX3_isBeyond 1 = .ok (.invokevirtual 61, 3) := by decide +kernel
theorem dX3_isBeyond_4 : decode cX3_isBeyond 4 = .ok (.lconst 0, 1) := by decide +kernel
theorem dX3_isBeyond_5 : decode cX3_isBeyond 5 = .ok (.lcmp, 1) := by decide +kernel
theorem dX3_isBeyond_6 : decode cX3_isBeyond 6 = .ok (.ifCond .ge 7, 3) := by decide +kernel
theorem dX3_isBeyond_9 : decode cX3_isBeyond 9 = .ok (.iconst 1, 1) := by decide +kernel
theorem dX3_isBeyond_10 : decode cX3_isBeyond 10 = .ok (.goto 4, 3) := by decide +kernel
theorem dX3_isBeyond_13 : decode cX3_isBeyond 13 = .ok (.iconst 0, 1) := by decide +kernel
theorem dX3_isBeyond_14 : decode cX3_isBeyond 14 = .ok (.ireturn, 1) := by decide +kernel
theorem dX3_slackBy_0 : decode cX3_slackBy 0 = .ok (.lconst 0, 1) := by decide +kernel
theorem dX3_slackBy_1 : decode cX3_slackBy 1 = .ok (.lstore_n 3, 1) := by decide +kernel
theorem dX3_slackBy_2 : decode cX3_slackBy 2 = .ok (.iconst 0, 1) := by decide +kernel
theorem dX3_slackBy_3 : decode cX3_slackBy 3 = .ok (.istore 5, 2) := by decide +kernel
theorem dX3_slackBy_5 : decode cX3_slackBy 5 = .ok (.iload 5, 2) := by decide +kernel
theorem dX3_slackBy_7 : decode cX3_slackBy 7 = .ok (.bipush 8, 2) := by decide +kernel
theorem dX3_slackBy_9 : decode cX3_slackBy 9 = .ok (.if_icmp .ge 82, 3) := by decide +kernel
theorem dX3_slackBy_12 : decode cX3_slackBy 12 = .ok (.iload_n 2, 1) := by decide +kernel
theorem dX3_slackBy_13 : decode cX3_slackBy 13 = .ok (.iload 5, 2) := by decide +kernel
theorem dX3_slackBy_15 : decode cX3_slackBy 15 = .ok (.iushr, 1) := by decide +kernel
theorem dX3_slackBy_16 : decode cX3_slackBy 16 = .ok (.iconst 1, 1) := by decide +kernel
theorem dX3_slackBy_17 : decode cX3_slackBy 17 = .ok (.iand, 1) := by decide +kernel
theorem dX3_slackBy_18 : decode cX3_slackBy 18 = .ok (.iconst 1, 1) := by decide +kernel
theorem dX3_slackBy_19 : decode cX3_slackBy 19 = .ok (.if_icmp .ne 7, 3) := by decide +kernel
theorem dX3_slackBy_22 : decode cX3_slackBy 22 = .ok (.iconst 1, 1) := by decide +kernel
theorem dX3_slackBy_23 : decode cX3_slackBy 23 = .ok (.goto 4, 3) := by decide +kernel
theorem dX3_slackBy_26 : decode cX3_slackBy 26 = .ok (.iconst 0, 1) := by decide +kernel
theorem dX3_slackBy_27 : decode cX3_slackBy 27 = .ok (.istore 6, 2) := by decide +kernel
theorem dX3_slackBy_29 : decode cX3_slackBy 29 = .ok (.iload_n 1, 1) := by decide +kernel
theorem dX3_slackBy_30 : decode cX3_slackBy 30 = .ok (.iload 5, 2) := by decide +kernel
theorem dX3_slackBy_32 : decode cX3_slackBy 32 = .ok (.iushr, 1) := by decide +kernel
theorem dX3_slackBy_33 : decode cX3_slackBy 33 = .ok (.iconst 1, 1) := by decide +kernel
theorem dX3_slackBy_34 : decode cX3_slackBy 34 = .ok (.iand, 1) := by decide +kernel
theorem dX3_slackBy_35 : decode cX3_slackBy 35 = .ok (.ifCond .ne 7, 3) := by decide +kernel
theorem dX3_slackBy_38 : decode cX3_slackBy 38 = .ok (.iconst 1, 1) := by decide +kernel
theorem dX3_slackBy_39 : decode cX3_slackBy 39 = .ok (.goto 4, 3) := by decide +kernel
theorem dX3_slackBy_42 : decode cX3_slackBy 42 = .ok (.iconst 0, 1) := by decide +kernel
theorem dX3_slackBy_43 : decode cX3_slackBy 43 = .ok (.istore 7, 2) := by decide +kernel
theorem dX3_slackBy_45 : decode cX3_slackBy 45 = .ok (.iload 7, 2) := by decide +kernel
theorem dX3_slackBy_47 : decode cX3_slackBy 47 = .ok (.ifCond .ne 25, 3) := by decide +kernel
theorem dX3_slackBy_50 : decode cX3_slackBy 50 = .ok (.iload 6, 2) := by decide +kernel
theorem dX3_slackBy_52 : decode cX3_slackBy 52 = .ok (.aload_n 0, 1) := by decide +kernel
theorem dX3_slackBy_53 : decode cX3_slackBy 53 = .ok (.getfield 9, 3) := by decide +kernel
theorem dX3_slackBy_56 : decode cX3_slackBy 56 = .ok (.iload 5, 2) := by decide +kernel
theorem dX3_slackBy_58 : decode cX3_slackBy 58 = .ok (.laload, 1) := by decide +kernel
theorem dX3_slackBy_59 : decode cX3_slackBy 59 = .ok (.lconst 0, 1) := by decide +kernel
theorem dX3_slackBy_60 : decode cX3_slackBy 60 = .ok (.lcmp, 1) := by decide +kernel
theorem dX3_slackBy_61 : decode cX3_slackBy 61 = .ok (.ifCond .le 7, 3) := by decide +kernel
theorem dX3_slackBy_64 : decode cX3_slackBy 64 = .ok (.iconst 1, 1) := by decide +kernel
theorem dX3_slackBy_65 : decode cX3_slackBy 65 = .ok (.goto 4, 3) := by decide +kernel
theorem dX3_slackBy_68 : decode cX3_slackBy 68 = .ok (.iconst 0, 1) := by decide +kernel
theorem dX3_slackBy_69 : decode cX3_slackBy 69 = .ok (.if_icmp .ne 16, 3) := by decide +kernel
theorem dX3_slackBy_72 : decode cX3_slackBy 72 = .ok (.lload_n 3, 1) := by decide +kernel
theorem dX3_slackBy_73 : decode cX3_slackBy 73 = .ok (.aload_n 0, 1) := by decide +kernel
theorem dX3_slackBy_74 : decode cX3_slackBy 74 = .ok (.getfield 9, 3) := by decide +kernel
theorem dX3_slackBy_77 : decode cX3_slackBy 77 = .ok (.iload 5, 2) := by decide +kernel
theorem dX3_slackBy_79 : decode cX3_slackBy 79 = .ok (.laload, 1) := by decide +kernel
theorem dX3_slackBy_80 : decode cX3_slackBy 80 = .ok (.invokestatic 44, 3) := by decide +kernel
theorem dX3_slackBy_83 : decode cX3_slackBy 83 = .ok (.ladd, 1) := by decide +kernel
theorem dX3_slackBy_84 : decode cX3_slackBy 84 = .ok (.lstore_n 3, 1) := by decide +kernel
theorem dX3_slackBy_85 : decode cX3_slackBy 85 = .ok (.iinc 5 1, 3) := by decide +kernel
theorem dX3_slackBy_88 : decode cX3_slackBy 88 = .ok (.goto (-83), 3) := by decide +kernel
theorem dX3_slackBy_91 : decode cX3_slackBy 91 = .ok (.lload_n 3, 1) := by decide +kernel
theorem dX3_slackBy_92 : decode cX3_slackBy 92 = .ok (.aload_n 0, 1) := by decide +kernel
theorem dX3_slackBy_93 : decode cX3_slackBy 93 = .ok (.getfield 25, 3) := by decide +kernel
theorem dX3_slackBy_96 : decode cX3_slackBy 96 = .ok (.lsub, 1) := by decide +kernel
theorem dX3_slackBy_97 : decode cX3_slackBy 97 = .ok (.lreturn, 1) := by decide +kernel
theorem dX3_holdsBy_0 : decode cX3_holdsBy 0 = .ok (.aload_n 0, 1) := by decide +kernel
theorem dX3_holdsBy_1 : decode cX3_holdsBy 1 = .ok (.sipush 255, 3) := by decide +kernel
theorem dX3_holdsBy_4 : decode cX3_holdsBy 4 = .ok (.iload_n 1, 1) := by decide +kernel
theorem dX3_holdsBy_5 : decode cX3_holdsBy 5 = .ok (.invokevirtual 78, 3) := by decide +kernel
theorem dX3_holdsBy_8 : decode cX3_holdsBy 8 = .ok (.lconst 0, 1) := by decide +kernel
theorem dX3_holdsBy_9 : decode cX3_holdsBy 9 = .ok (.lcmp, 1) := by decide +kernel
theorem dX3_holdsBy_10 : decode cX3_holdsBy 10 = .ok (.ifCond .lt 7, 3) := by decide +kernel
theorem dX3_holdsBy_13 : decode cX3_holdsBy 13 = .ok (.iconst 1, 1) := by decide +kernel
theorem dX3_holdsBy_14 : decode cX3_holdsBy 14 = .ok (.goto 4, 3) := by decide +kernel
theorem dX3_holdsBy_17 : decode cX3_holdsBy 17 = .ok (.iconst 0, 1) := by decide +kernel
theorem dX3_holdsBy_18 : decode cX3_holdsBy 18 = .ok (.ireturn, 1) := by decide +kernel
theorem dX3_countVariables_0 : decode cX3_countVariables 0 = .ok (.iconst 0, 1) := by decide +kernel
theorem dX3_countVariables_1 : decode cX3_countVariables 1 = .ok (.istore_n 1, 1) := by decide +kernel
theorem dX3_countVariables_2 : decode cX3_countVariables 2 = .ok (.iconst 0, 1) := by decide +kernel
theorem dX3_countVariables_3 : decode cX3_countVariables 3 = .ok (.istore_n 2, 1) := by decide +kernel
theorem dX3_countVariables_4 : decode cX3_countVariables 4 = .ok (.iload_n 2, 1) := by decide +kernel
theorem dX3_countVariables_5 : decode cX3_countVariables 5 = .ok (.bipush 8, 2) := by decide +kernel
theorem dX3_countVariables_7 : decode cX3_countVariables 7 = .ok (.if_icmp .ge 23, 3) := by decide +kernel
theorem dX3_countVariables_10 : decode cX3_countVariables 10 = .ok (.aload_n 0, 1) := by decide +kernel
theorem dX3_countVariables_11 : decode cX3_countVariables 11 = .ok (.getfield 9, 3) := by decide +kernel
theorem dX3_countVariables_14 : decode cX3_countVariables 14 = .ok (.iload_n 2, 1) := by decide +kernel
theorem dX3_countVariables_15 : decode cX3_countVariables 15 = .ok (.laload, 1) := by decide +kernel
theorem dX3_countVariables_16 : decode cX3_countVariables 16 = .ok (.lconst 0, 1) := by decide +kernel
theorem dX3_countVariables_17 : decode cX3_countVariables 17 = .ok (.lcmp, 1) := by decide +kernel
theorem dX3_countVariables_18 : decode cX3_countVariables 18 = .ok (.ifCond .eq 6, 3) := by decide +kernel
theorem dX3_countVariables_21 : decode cX3_countVariables 21 = .ok (.iinc 1 1, 3) := by decide +kernel
theorem dX3_countVariables_24 : decode cX3_countVariables 24 = .ok (.iinc 2 1, 3) := by decide +kernel
theorem dX3_countVariables_27 : decode cX3_countVariables 27 = .ok (.goto (-23), 3) := by decide +kernel
theorem dX3_countVariables_30 : decode cX3_countVariables 30 = .ok (.iload_n 1, 1) := by decide +kernel
theorem dX3_countVariables_31 : decode cX3_countVariables 31 = .ok (.ireturn, 1) := by decide +kernel
theorem dX3_leastVariable_0 : decode cX3_leastVariable 0 = .ok (.iconst 0, 1) := by decide +kernel
theorem dX3_leastVariable_1 : decode cX3_leastVariable 1 = .ok (.istore_n 1, 1) := by decide +kernel
theorem dX3_leastVariable_2 : decode cX3_leastVariable 2 = .ok (.iload_n 1, 1) := by decide +kernel
theorem dX3_leastVariable_3 : decode cX3_leastVariable 3 = .ok (.bipush 8, 2) := by decide +kernel
theorem dX3_leastVariable_5 : decode cX3_leastVariable 5 = .ok (.if_icmp .ge 22, 3) := by decide +kernel
theorem dX3_leastVariable_8 : decode cX3_leastVariable 8 = .ok (.aload_n 0, 1) := by decide +kernel
theorem dX3_leastVariable_9 : decode cX3_leastVariable 9 = .ok (.getfield 9, 3) := by decide +kernel
theorem dX3_leastVariable_12 : decode cX3_leastVariable 12 = .ok (.iload_n 1, 1) := by decide +kernel
theorem dX3_leastVariable_13 : decode cX3_leastVariable 13 = .ok (.laload, 1) := by decide +kernel
theorem dX3_leastVariable_14 : decode cX3_leastVariable 14 = .ok (.lconst 0, 1) := by decide +kernel
theorem dX3_leastVariable_15 : decode cX3_leastVariable 15 = .ok (.lcmp, 1) := by decide +kernel
theorem dX3_leastVariable_16 : decode cX3_leastVariable 16 = .ok (.ifCond .eq 5, 3) := by decide +kernel
theorem dX3_leastVariable_19 : decode cX3_leastVariable 19 = .ok (.iload_n 1, 1) := by decide +kernel
theorem dX3_leastVariable_20 : decode cX3_leastVariable 20 = .ok (.ireturn, 1) := by decide +kernel
theorem dX3_leastVariable_21 : decode cX3_leastVariable 21 = .ok (.iinc 1 1, 3) := by decide +kernel
theorem dX3_leastVariable_24 : decode cX3_leastVariable 24 = .ok (.goto (-22), 3) := by decide +kernel
theorem dX3_leastVariable_27 : decode cX3_leastVariable 27 = .ok (.bipush 8, 2) := by decide +kernel
theorem dX3_leastVariable_29 : decode cX3_leastVariable 29 = .ok (.ireturn, 1) := by decide +kernel
theorem dX4_init_0 : decode cX4_init 0 = .ok (.aload_n 0, 1) := by decide +kernel
theorem dX4_init_1 : decode cX4_init 1 = .ok (.invokespecial 3, 3) := by decide +kernel
theorem dX4_init_4 : decode cX4_init 4 = .ok (.aload_n 0, 1) := by decide +kernel
theorem dX4_init_5 : decode cX4_init 5 = .ok (.new 9, 3) := by decide +kernel
theorem dX4_init_8 : decode cX4_init 8 = .ok (.dup, 1) := by decide +kernel
theorem dX4_init_9 : decode cX4_init 9 = .ok (.iconst (-1), 1) := by decide +kernel
theorem dX4_init_10 : decode cX4_init 10 = .ok (.invokespecial 11, 3) := by decide +kernel
theorem dX4_init_13 : decode cX4_init 13 = .ok (.putfield 14, 3) := by decide +kernel
theorem dX4_init_16 : decode cX4_init 16 = .ok (.aload_n 0, 1) := by decide +kernel
theorem dX4_init_17 : decode cX4_init 17 = .ok (.new 9, 3) := by decide +kernel
theorem dX4_init_20 : decode cX4_init 20 = .ok (.dup, 1) := by decide +kernel
theorem dX4_init_21 : decode cX4_init 21 = .ok (.iconst (-1), 1) := by decide +kernel
theorem dX4_init_22 : decode cX4_init 22 = .ok (.invokespecial 11, 3) := by decide +kernel
theorem dX4_init_25 : decode cX4_init 25 = .ok (.putfield 20, 3) := by decide +kernel
theorem dX4_init_28 : decode cX4_init 28 = .ok (.aload_n 0, 1) := by decide +kernel
theorem dX4_init_29 : decode cX4_init 29 = .ok (.new 9, 3) := by decide +kernel
theorem dX4_init_32 : decode cX4_init 32 = .ok (.dup, 1) := by decide +kernel
theorem dX4_init_33 : decode cX4_init 33 = .ok (.iconst (-1), 1) := by decide +kernel
theorem dX4_init_34 : decode cX4_init 34 = .ok (.invokespecial 11, 3) := by decide +kernel
theorem dX4_init_37 : decode cX4_init 37 = .ok (.putfield 23, 3) := by decide +kernel
theorem dX4_init_40 : decode cX4_init 40 = .ok (.aload_n 0, 1) := by decide +kernel
theorem dX4_init_41 : decode cX4_init 41 = .ok (.new 9, 3) := by decide +kernel
theorem dX4_init_44 : decode cX4_init 44 = .ok (.dup, 1) := by decide +kernel
theorem dX4_init_45 : decode cX4_init 45 = .ok (.iconst (-1), 1) := by decide +kernel
theorem dX4_init_46 : decode cX4_init 46 = .ok (.invokespecial 11, 3) := by decide +kernel
theorem dX4_init_49 : decode cX4_init 49 = .ok (.putfield 26, 3) := by decide +kernel
theorem dX4_init_52 : decode cX4_init 52 = .ok (.aload_n 0, 1) := by decide +kernel
theorem dX4_init_53 : decode cX4_init 53 = .ok (.aload_n 1, 1) := by decide +kernel
theorem dX4_init_54 : decode cX4_init 54 = .ok (.putfield 29, 3) := by decide +kernel
theorem dX4_init_57 : decode cX4_init 57 = .ok (.return_, 1) := by decide +kernel
theorem dX4_conflictByKnown_0 : decode cX4_conflictByKnown 0 = .ok (.aload_n 0, 1) := by decide +kernel
theorem dX4_conflictByKnown_1 : decode cX4_conflictByKnown 1 = .ok (.iload_n 1, 1) := by decide +kernel
theorem dX4_conflictByKnown_2 : decode cX4_conflictByKnown 2 = .ok (.putfield 33, 3) := by decide +kernel
theorem dX4_conflictByKnown_5 : decode cX4_conflictByKnown 5 = .ok (.aload_n 0, 1) := by decide +kernel
theorem dX4_conflictByKnown_6 : decode cX4_conflictByKnown 6 = .ok (.iload_n 1, 1) := by decide +kernel
theorem dX4_conflictByKnown_7 : decode cX4_conflictByKnown 7 = .ok (.iload_n 2, 1) := by decide +kernel
theorem dX4_conflictByKnown_8 : decode cX4_conflictByKnown 8 = .ok (.iand, 1) := by decide +kernel
theorem dX4_conflictByKnown_9 : decode cX4_conflictByKnown 9 = .ok (.putfield 37, 3) := by decide +kernel
theorem dX4_conflictByKnown_12 : decode cX4_conflictByKnown 12 = .ok (.aload_n 0, 1) := by decide +kernel
theorem dX4_conflictByKnown_13 : decode cX4_conflictByKnown 13 = .ok (.aload_n 0, 1) := by decide +kernel
theorem dX4_conflictByKnown_14 : decode cX4_conflictByKnown 14 = .ok (.getfield 29, 3) := by decide +kernel
theorem dX4_conflictByKnown_17 : decode cX4_conflictByKnown 17 = .ok (.getfield 40, 3) := by decide +kernel
theorem dX4_conflictByKnown_20 : decode cX4_conflictByKnown 20 = .ok (.aload_n 0, 1) := by decide +kernel
theorem dX4_conflictByKnown_21 : decode cX4_conflictByKnown 21 = .ok (.getfield 14, 3) := by decide +kernel
theorem dX4_conflictByKnown_24 : decode cX4_conflictByKnown 24 = .ok (.aload_n 0, 1) := by decide +kernel
theorem dX4_conflictByKnown_25 : decode cX4_conflictByKnown 25 = .ok (.getfield 14, 3) := by decide +kernel
theorem dX4_conflictByKnown_28 : decode cX4_conflictByKnown 28 = .ok (.invokevirtual 45, 3) := by decide +kernel
theorem dX4_conflictByKnown_31 : decode cX4_conflictByKnown 31 = .ok (.ireturn, 1) := by decide +kernel
theorem dX4_followsFromAll_0 : decode cX4_followsFromAll 0 = .ok (.aload_n 0, 1) := by decide +kernel
theorem dX4_followsFromAll_1 : decode cX4_followsFromAll 1 = .ok (.aload_n 1, 1) := by decide +kernel
theorem dX4_followsFromAll_2 : decode cX4_followsFromAll 2 = .ok (.aload_n 0, 1) := by decide +kernel
theorem dX4_followsFromAll_3 : decode cX4_followsFromAll 3 = .ok (.getfield 29, 3) := by decide +kernel
theorem dX4_followsFromAll_6 : decode cX4_followsFromAll 6 = .ok (.getfield 40, 3) := by decide +kernel
theorem dX4_followsFromAll_9 : decode cX4_followsFromAll 9 = .ok (.aload_n 0, 1) := by decide +kernel
theorem dX4_followsFromAll_10 : decode cX4_followsFromAll 10 = .ok (.getfield 14, 3) := by decide +kernel
theorem dX4_followsFromAll_13 : decode cX4_followsFromAll 13 = .ok (.invokevirtual 49, 3) := by decide +kernel
theorem dX4_followsFromAll_16 : decode cX4_followsFromAll 16 = .ok (.ireturn, 1) := by decide +kernel
theorem dX4_followsFromOthers_0 : decode cX4_followsFromOthers 0 = .ok (.aload_n 0, 1) := by decide +kernel
theorem dX4_followsFromOthers_1 : decode cX4_followsFromOthers 1 = .ok (.aload_n 0, 1) := by decide +kernel
theorem dX4_followsFromOthers_2 : decode cX4_followsFromOthers 2 = .ok (.getfield 29, 3) := by decide +kernel
theorem dX4_followsFromOthers_5 : decode cX4_followsFromOthers 5 = .ok (.getfield 53, 3) := by decide +kernel
theorem dX4_followsFromOthers_8 : decode cX4_followsFromOthers 8 = .ok (.iload_n 1, 1) := by decide +kernel
theorem dX4_followsFromOthers_9 : decode cX4_followsFromOthers 9 = .ok (.aaload, 1) := by decide +kernel
theorem dX4_followsFromOthers_10 : decode cX4_followsFromOthers 10 = .ok (.aload_n 0, 1) := by decide +kernel
theorem dX4_followsFromOthers_11 : decode cX4_followsFromOthers 11 = .ok (.getfield 29, 3) := by decide +kernel
theorem dX4_followsFromOthers_14 : decode cX4_followsFromOthers 14 = .ok (.getfield 40, 3) := by decide +kernel
theorem dX4_followsFromOthers_17 : decode cX4_followsFromOthers 17 = .ok (.iconst 1, 1) := by decide +kernel
theorem dX4_followsFromOthers_18 : decode cX4_followsFromOthers 18 = .ok (.iload_n 1, 1) := by decide +kernel
theorem dX4_followsFromOthers_19 : decode cX4_followsFromOthers 19 = .ok (.ishl, 1) := by decide +kernel
theorem dX4_followsFromOthers_20 : decode cX4_followsFromOthers 20 = .ok (.iconst (-1), 1) := by decide +kernel
theorem dX4_followsFromOthers_21 : decode cX4_followsFromOthers 21 = .ok (.ixor, 1) := by decide +kernel
theorem dX4_followsFromOthers_22 : decode cX4_followsFromOthers 22 = .ok (.iand, 1) := by decide +kernel
theorem dX4_followsFromOthers_23 : decode cX4_followsFromOthers 23 = .ok (.aload_n 0, 1) := by decide +kernel
theorem dX4_followsFromOthers_24 : decode cX4_followsFromOthers 24 = .ok (.getfield 14, 3) := by decide +kernel
theorem dX4_followsFromOthers_27 : decode cX4_followsFromOthers 27 = .ok (.invokevirtual 49, 3) := by decide +kernel
theorem dX4_followsFromOthers_30 : decode cX4_followsFromOthers 30 = .ok (.ireturn, 1) := by decide +kernel
theorem dX4_comesByWitness_0 : decode cX4_comesByWitness 0 = .ok (.aload_n 0, 1) := by decide +kernel
theorem dX4_comesByWitness_1 : decode cX4_comesByWitness 1 = .ok (.getfield 23, 3) := by decide +kernel
theorem dX4_comesByWitness_4 : decode cX4_comesByWitness 4 = .ok (.aload_n 1, 1) := by decide +kernel
theorem dX4_comesByWitness_5 : decode cX4_comesByWitness 5 = .ok (.invokevirtual 57, 3) := by decide +kernel
theorem dX4_comesByWitness_8 : decode cX4_comesByWitness 8 = .ok (.iconst 0, 1) := by decide +kernel
theorem dX4_comesByWitness_9 : decode cX4_comesByWitness 9 = .ok (.istore_n 3, 1) := by decide +kernel
theorem dX4_comesByWitness_10 : decode cX4_comesByWitness 10 = .ok (.iload_n 3, 1) := by decide +kernel
theorem dX4_comesByWitness_11 : decode cX4_comesByWitness 11 = .ok (.aload_n 0, 1) := by decide +kernel
theorem dX4_comesByWitness_12 : decode cX4_comesByWitness 12 = .ok (.getfield 29, 3) := by decide +kernel
theorem dX4_comesByWitness_15 : decode cX4_comesByWitness 15 = .ok (.getfield 61, 3) := by decide +kernel
theorem dX4_comesByWitness_18 : decode cX4_comesByWitness 18 = .ok (.if_icmp .ge 61, 3) := by decide +kernel
theorem dX4_comesByWitness_21 : decode cX4_comesByWitness 21 = .ok (.aload_n 0, 1) := by decide +kernel
theorem dX4_comesByWitness_22 : decode cX4_comesByWitness 22 = .ok (.getfield 29, 3) := by decide +kernel
theorem dX4_comesByWitness_25 : decode cX4_comesByWitness 25 = .ok (.iload_n 3, 1) := by decide +kernel
theorem dX4_comesByWitness_26 : decode cX4_comesByWitness 26 = .ok (.invokevirtual 64, 3) := by decide +kernel
theorem dX4_comesByWitness_29 : decode cX4_comesByWitness 29 = .ok (.ifCond .eq 44, 3) := by decide +kernel
theorem dX4_comesByWitness_32 : decode cX4_comesByWitness 32 = .ok (.aload_n 0, 1) := by decide +kernel
theorem dX4_comesByWitness_33 : decode cX4_comesByWitness 33 = .ok (.getfield 26, 3) := by decide +kernel
theorem dX4_comesByWitness_36 : decode cX4_comesByWitness 36 = .ok (.aload_n 0, 1) := by decide +kernel
theorem dX4_comesByWitness_37 : decode cX4_comesByWitness 37 = .ok (.getfield 29, 3) := by decide +kernel
theorem dX4_comesByWitness_40 : decode cX4_comesByWitness 40 = .ok (.getfield 53, 3) := by decide +kernel
theorem dX4_comesByWitness_43 : decode cX4_comesByWitness 43 = .ok (.iload_n 3, 1) := by decide +kernel
theorem dX4_comesByWitness_44 : decode cX4_comesByWitness 44 = .ok (.aaload, 1) := by decide +kernel
theorem dX4_comesByWitness_45 : decode cX4_comesByWitness 45 = .ok (.aload_n 2, 1) := by decide +kernel
theorem dX4_comesByWitness_46 : decode cX4_comesByWitness 46 = .ok (.invokevirtual 68, 3) := by decide +kernel
theorem dX4_comesByWitness_49 : decode cX4_comesByWitness 49 = .ok (.aload_n 0, 1) := by decide +kernel
theorem dX4_comesByWitness_50 : decode cX4_comesByWitness 50 = .ok (.aload_n 0, 1) := by decide +kernel
theorem dX4_comesByWitness_51 : decode cX4_comesByWitness 51 = .ok (.getfield 26, 3) := by decide +kernel
theorem dX4_comesByWitness_54 : decode cX4_comesByWitness 54 = .ok (.aload_n 0, 1) := by decide +kernel
theorem dX4_comesByWitness_55 : decode cX4_comesByWitness 55 = .ok (.getfield 29, 3) := by decide +kernel
theorem dX4_comesByWitness_58 : decode cX4_comesByWitness 58 = .ok (.getfield 40, 3) := by decide +kernel
theorem dX4_comesByWitness_61 : decode cX4_comesByWitness 61 = .ok (.aload_n 0, 1) := by decide +kernel
theorem dX4_comesByWitness_62 : decode cX4_comesByWitness 62 = .ok (.getfield 23, 3) := by decide +kernel
theorem dX4_comesByWitness_65 : decode cX4_comesByWitness 65 = .ok (.invokevirtual 49, 3) := by decide +kernel
theorem dX4_comesByWitness_68 : decode cX4_comesByWitness 68 = .ok (.ifCond .ne 5, 3) := by decide +kernel
theorem dX4_comesByWitness_71 : decode cX4_comesByWitness 71 = .ok (.iconst 0, 1) := by decide +kernel
theorem dX4_comesByWitness_72 : decode cX4_comesByWitness 72 = .ok (.ireturn, 1) := by decide +kernel
theorem dX4_comesByWitness_73 : decode cX4_comesByWitness 73 = .ok (.iinc 3 1, 3) := by decide +kernel
theorem dX4_comesByWitness_76 : decode cX4_comesByWitness 76 = .ok (.goto (-66), 3) := by decide +kernel
theorem dX4_comesByWitness_79 : decode cX4_comesByWitness 79 = .ok (.aload_n 0, 1) := by decide +kernel
theorem dX4_comesByWitness_80 : decode cX4_comesByWitness 80 = .ok (.getfield 26, 3) := by decide +kernel
theorem dX4_comesByWitness_83 : decode cX4_comesByWitness 83 = .ok (.aload_n 1, 1) := by decide +kernel
theorem dX4_comesByWitness_84 : decode cX4_comesByWitness 84 = .ok (.aload_n 2, 1) := by decide +kernel
theorem dX4_comesByWitness_85 : decode cX4_comesByWitness 85 = .ok (.invokevirtual 68, 3) := by decide +kernel
theorem dX4_comesByWitness_88 : decode cX4_comesByWitness 88 = .ok (.aload_n 0, 1) := by decide +kernel
theorem dX4_comesByWitness_89 : decode cX4_comesByWitness 89 = .ok (.aload_n 0, 1) := by decide +kernel
theorem dX4_comesByWitness_90 : decode cX4_comesByWitness 90 = .ok (.getfield 26, 3) := by decide +kernel
theorem dX4_comesByWitness_93 : decode cX4_comesByWitness 93 = .ok (.aload_n 0, 1) := by decide +kernel
theorem dX4_comesByWitness_94 : decode cX4_comesByWitness 94 = .ok (.getfield 29, 3) := by decide +kernel
theorem dX4_comesByWitness_97 : decode cX4_comesByWitness 97 = .ok (.getfield 40, 3) := by decide +kernel
theorem dX4_comesByWitness_100 : decode cX4_comesByWitness 100 = .ok (.aload_n 0, 1) := by decide +kernel
theorem dX4_comesByWitness_101 : decode cX4_comesByWitness 101 = .ok (.getfield 23, 3) := by decide +kernel
theorem dX4_comesByWitness_104 : decode cX4_comesByWitness 104 = .ok (.invokevirtual 49, 3) := by decide +kernel
theorem dX4_comesByWitness_107 : decode cX4_comesByWitness 107 = .ok (.ifCond .ne 5, 3) := by decide +kernel
theorem dX4_comesByWitness_110 : decode cX4_comesByWitness 110 = .ok (.iconst 0, 1) := by decide +kernel
theorem dX4_comesByWitness_111 : decode cX4_comesByWitness 111 = .ok (.ireturn, 1) := by decide +kernel
theorem dX4_comesByWitness_112 : decode cX4_comesByWitness 112 = .ok (.aload_n 0, 1) := by decide +kernel
theorem dX4_comesByWitness_113 : decode cX4_comesByWitness 113 = .ok (.getfield 29, 3) := by decide +kernel
theorem dX4_comesByWitness_116 : decode cX4_comesByWitness 116 = .ok (.invokevirtual 72, 3) := by decide +kernel
theorem dX4_comesByWitness_119 : decode cX4_comesByWitness 119 = .ok (.ifCond .ne 5, 3) := by decide +kernel
theorem dX4_comesByWitness_122 : decode cX4_comesByWitness 122 = .ok (.iconst 1, 1) := by decide +kernel
theorem dX4_comesByWitness_123 : decode cX4_comesByWitness 123 = .ok (.ireturn, 1) := by decide +kernel
theorem dX4_comesByWitness_124 : decode cX4_comesByWitness 124 = .ok (.aload_n 0, 1) := by decide +kernel
theorem dX4_comesByWitness_125 : decode cX4_comesByWitness 125 = .ok (.getfield 26, 3) := by decide +kernel
theorem dX4_comesByWitness_128 : decode cX4_comesByWitness 128 = .ok (.aload_n 0, 1) := by decide +kernel
theorem dX4_comesByWitness_129 : decode cX4_comesByWitness 129 = .ok (.getfield 29, 3) := by decide +kernel
theorem dX4_comesByWitness_132 : decode cX4_comesByWitness 132 = .ok (.getfield 76, 3) := by decide +kernel
theorem dX4_comesByWitness_135 : decode cX4_comesByWitness 135 = .ok (.aload_n 2, 1) := by decide +kernel
theorem dX4_comesByWitness_136 : decode cX4_comesByWitness 136 = .ok (.invokevirtual 80, 3) := by decide +kernel
theorem dX4_comesByWitness_139 : decode cX4_comesByWitness 139 = .ok (.aload_n 0, 1) := by decide +kernel
theorem dX4_comesByWitness_140 : decode cX4_comesByWitness 140 = .ok (.aload_n 0, 1) := by decide +kernel
theorem dX4_comesByWitness_141 : decode cX4_comesByWitness 141 = .ok (.getfield 26, 3) := by decide +kernel
theorem dX4_comesByWitness_144 : decode cX4_comesByWitness 144 = .ok (.aload_n 0, 1) := by decide +kernel
theorem dX4_comesByWitness_145 : decode cX4_comesByWitness 145 = .ok (.getfield 29, 3) := by decide +kernel
theorem dX4_comesByWitness_148 : decode cX4_comesByWitness 148 = .ok (.getfield 40, 3) := by decide +kernel
theorem dX4_comesByWitness_151 : decode cX4_comesByWitness 151 = .ok (.aload_n 0, 1) := by decide +kernel
theorem dX4_comesByWitness_152 : decode cX4_comesByWitness 152 = .ok (.getfield 23, 3) := by decide +kernel
theorem dX4_comesByWitness_155 : decode cX4_comesByWitness 155 = .ok (.invokevirtual 49, 3) := by decide +kernel
theorem dX4_comesByWitness_158 : decode cX4_comesByWitness 158 = .ok (.ireturn, 1) := by decide +kernel
theorem dX4_followsFrom_0 : decode cX4_followsFrom 0 = .ok (.aload_n 1, 1) := by decide +kernel
theorem dX4_followsFrom_1 : decode cX4_followsFrom 1 = .ok (.getfield 84, 3) := by decide +kernel
theorem dX4_followsFrom_4 : decode cX4_followsFrom 4 = .ok (.lconst 0, 1) := by decide +kernel
theorem dX4_followsFrom_5 : decode cX4_followsFrom 5 = .ok (.lcmp, 1) := by decide +kernel
theorem dX4_followsFrom_6 : decode cX4_followsFrom 6 = .ok (.ifCond .ne 5, 3) := by decide +kernel
theorem dX4_followsFrom_9 : decode cX4_followsFrom 9 = .ok (.iconst 1, 1) := by decide +kernel
theorem dX4_followsFrom_10 : decode cX4_followsFrom 10 = .ok (.ireturn, 1) := by decide +kernel
theorem dX4_followsFrom_11 : decode cX4_followsFrom 11 = .ok (.aload_n 0, 1) := by decide +kernel
theorem dX4_followsFrom_12 : decode cX4_followsFrom 12 = .ok (.getfield 20, 3) := by decide +kernel
theorem dX4_followsFrom_15 : decode cX4_followsFrom 15 = .ok (.aload_n 1, 1) := by decide +kernel
theorem dX4_followsFrom_16 : decode cX4_followsFrom 16 = .ok (.invokevirtual 57, 3) := by decide +kernel
theorem dX4_followsFrom_19 : decode cX4_followsFrom 19 = .ok (.aload_n 0, 1) := by decide +kernel
theorem dX4_followsFrom_20 : decode cX4_followsFrom 20 = .ok (.iconst 0, 1) := by decide +kernel
theorem dX4_followsFrom_21 : decode cX4_followsFrom 21 = .ok (.putfield 33, 3) := by decide +kernel
theorem dX4_followsFrom_24 : decode cX4_followsFrom 24 = .ok (.aload_n 0, 1) := by decide +kernel
theorem dX4_followsFrom_25 : decode cX4_followsFrom 25 = .ok (.iconst 0, 1) := by decide +kernel
theorem dX4_followsFrom_26 : decode cX4_followsFrom 26 = .ok (.putfield 37, 3) := by decide +kernel
theorem dX4_followsFrom_29 : decode cX4_followsFrom 29 = .ok (.aload_n 0, 1) := by decide +kernel
theorem dX4_followsFrom_30 : decode cX4_followsFrom 30 = .ok (.iload_n 2, 1) := by decide +kernel
theorem dX4_followsFrom_31 : decode cX4_followsFrom 31 = .ok (.aload_n 3, 1) := by decide +kernel
theorem dX4_followsFrom_32 : decode cX4_followsFrom 32 = .ok (.aload_n 0, 1) := by decide +kernel
theorem dX4_followsFrom_33 : decode cX4_followsFrom 33 = .ok (.getfield 20, 3) := by decide +kernel
theorem dX4_followsFrom_36 : decode cX4_followsFrom 36 = .ok (.invokevirtual 45, 3) := by decide +kernel
theorem dX4_followsFrom_39 : decode cX4_followsFrom 39 = .ok (.ireturn, 1) := by decide +kernel
theorem dX4_drives_0 : decode cX4_drives 0 = .ok (.iconst 0, 1) := by decide +kernel
theorem dX4_drives_1 : decode cX4_drives 1 = .ok (.istore 4, 2) := by decide +kernel
theorem dX4_drives_3 : decode cX4_drives 3 = .ok (.iload 4, 2) := by decide +kernel
theorem dX4_drives_5 : decode cX4_drives 5 = .ok (.bipush 8, 2) := by decide +kernel
theorem dX4_drives_7 : decode cX4_drives 7 = .ok (.if_icmp .gt 94, 3) := by decide +kernel
theorem dX4_drives_10 : decode cX4_drives 10 = .ok (.aload_n 0, 1) := by decide +kernel
theorem dX4_drives_11 : decode cX4_drives 11 = .ok (.getfield 33, 3) := by decide +kernel
theorem dX4_drives_14 : decode cX4_drives 14 = .ok (.istore 5, 2) := by decide +kernel
theorem dX4_drives_16 : decode cX4_drives 16 = .ok (.iconst 0, 1) := by decide +kernel
theorem dX4_drives_17 : decode cX4_drives 17 = .ok (.istore 6, 2) := by decide +kernel
theorem dX4_drives_19 : decode cX4_drives 19 = .ok (.iload 6, 2) := by decide +kernel
theorem dX4_drives_21 : decode cX4_drives 21 = .ok (.aload_n 0, 1) := by decide +kernel
theorem dX4_drives_22 : decode cX4_drives 22 = .ok (.getfield 29, 3) := by decide +kernel
theorem dX4_drives_25 : decode cX4_drives 25 = .ok (.getfield 61, 3) := by decide +kernel
theorem dX4_drives_28 : decode cX4_drives 28 = .ok (.if_icmp .ge 38, 3) := by decide +kernel
theorem dX4_drives_31 : decode cX4_drives 31 = .ok (.iload_n 1, 1) := by decide +kernel
theorem dX4_drives_32 : decode cX4_drives 32 = .ok (.iload 6, 2) := by decide +kernel
theorem dX4_drives_34 : decode cX4_drives 34 = .ok (.iushr, 1) := by decide +kernel
theorem dX4_drives_35 : decode cX4_drives 35 = .ok (.iconst 1, 1) := by decide +kernel
theorem dX4_drives_36 : decode cX4_drives 36 = .ok (.iand, 1) := by decide +kernel
theorem dX4_drives_37 : decode cX4_drives 37 = .ok (.iconst 1, 1) := by decide +kernel
theorem dX4_drives_38 : decode cX4_drives 38 = .ok (.if_icmp .ne 22, 3) := by decide +kernel
theorem dX4_drives_41 : decode cX4_drives 41 = .ok (.aload_n 0, 1) := by decide +kernel
theorem dX4_drives_42 : decode cX4_drives 42 = .ok (.aload_n 0, 1) := by decide +kernel
theorem dX4_drives_43 : decode cX4_drives 43 = .ok (.getfield 29, 3) := by decide +kernel
theorem dX4_drives_46 : decode cX4_drives 46 = .ok (.getfield 53, 3) := by decide +kernel
theorem dX4_drives_49 : decode cX4_drives 49 = .ok (.iload 6, 2) := by decide +kernel
theorem dX4_drives_51 : decode cX4_drives 51 = .ok (.aaload, 1) := by decide +kernel
theorem dX4_drives_52 : decode cX4_drives 52 = .ok (.invokevirtual 88, 3) := by decide +kernel
theorem dX4_drives_55 : decode cX4_drives 55 = .ok (.ifCond .eq 5, 3) := by decide +kernel
theorem dX4_drives_58 : decode cX4_drives 58 = .ok (.iconst 1, 1) := by decide +kernel
theorem dX4_drives_59 : decode cX4_drives 59 = .ok (.ireturn, 1) := by decide +kernel
theorem dX4_drives_60 : decode cX4_drives 60 = .ok (.iinc 6 1, 3) := by decide +kernel
theorem dX4_drives_63 : decode cX4_drives 63 = .ok (.goto (-44), 3) := by decide +kernel
theorem dX4_drives_66 : decode cX4_drives 66 = .ok (.aload_n 0, 1) := by decide +kernel
theorem dX4_drives_67 : decode cX4_drives 67 = .ok (.aload_n 2, 1) := by decide +kernel
theorem dX4_drives_68 : decode cX4_drives 68 = .ok (.invokevirtual 88, 3) := by decide +kernel
theorem dX4_drives_71 : decode cX4_drives 71 = .ok (.ifCond .ne 11, 3) := by decide +kernel
theorem dX4_drives_74 : decode cX4_drives 74 = .ok (.aload_n 0, 1) := by decide +kernel
theorem dX4_drives_75 : decode cX4_drives 75 = .ok (.aload_n 3, 1) := by decide +kernel
theorem dX4_drives_76 : decode cX4_drives 76 = .ok (.invokevirtual 88, 3) := by decide +kernel
theorem dX4_drives_79 : decode cX4_drives 79 = .ok (.ifCond .eq 5, 3) := by decide +kernel
theorem dX4_drives_82 : decode cX4_drives 82 = .ok (.iconst 1, 1) := by decide +kernel
theorem dX4_drives_83 : decode cX4_drives 83 = .ok (.ireturn, 1) := by decide +kernel
theorem dX4_drives_84 : decode cX4_drives 84 = .ok (.aload_n 0, 1) := by decide +kernel
theorem dX4_drives_85 : decode cX4_drives 85 = .ok (.getfield 33, 3) := by decide +kernel
theorem dX4_drives_88 : decode cX4_drives 88 = .ok (.iload 5, 2) := by decide +kernel
theorem dX4_drives_90 : decode cX4_drives 90 = .ok (.if_icmp .ne 5, 3) := by decide +kernel
theorem dX4_drives_93 : decode cX4_drives 93 = .ok (.iconst 0, 1) := by decide +kernel
theorem dX4_drives_94 : decode cX4_drives 94 = .ok (.ireturn, 1) := by decide +kernel
theorem dX4_drives_95 : decode cX4_drives 95 = .ok (.iinc 4 1, 3) := by decide +kernel
theorem dX4_drives_98 : decode cX4_drives 98 = .ok (.goto (-95), 3) := by decide +kernel
theorem dX4_drives_101 : decode cX4_drives 101 = .ok (.iconst 0, 1) := by decide +kernel
theorem dX4_drives_102 : decode cX4_drives 102 = .ok (.ireturn, 1) := by decide +kernel
theorem dX4_conflicts_0 : decode cX4_conflicts 0 = .ok (.aload_n 1, 1) := by decide +kernel
theorem dX4_conflicts_1 : decode cX4_conflicts 1 = .ok (.aload_n 0, 1) := by decide +kernel
theorem dX4_conflicts_2 : decode cX4_conflicts 2 = .ok (.getfield 33, 3) := by decide +kernel
theorem dX4_conflicts_5 : decode cX4_conflicts 5 = .ok (.aload_n 0, 1) := by decide +kernel
theorem dX4_conflicts_6 : decode cX4_conflicts 6 = .ok (.getfield 37, 3) := by decide +kernel
theorem dX4_conflicts_9 : decode cX4_conflicts 9 = .ok (.invokevirtual 92, 3) := by decide +kernel
theorem dX4_conflicts_12 : decode cX4_conflicts 12 = .ok (.lstore_n 2, 1) := by decide +kernel
theorem dX4_conflicts_13 : decode cX4_conflicts 13 = .ok (.lload_n 2, 1) := by decide +kernel
theorem dX4_conflicts_14 : decode cX4_conflicts 14 = .ok (.lconst 0, 1) := by decide +kernel
theorem dX4_conflicts_15 : decode cX4_conflicts 15 = .ok (.lcmp, 1) := by decide +kernel
theorem dX4_conflicts_16 : decode cX4_conflicts 16 = .ok (.ifCond .ge 5, 3) := by decide +kernel
theorem dX4_conflicts_19 : decode cX4_conflicts 19 = .ok (.iconst 1, 1) := by decide +kernel
theorem dX4_conflicts_20 : decode cX4_conflicts 20 = .ok (.ireturn, 1) := by decide +kernel
theorem dX4_conflicts_21 : decode cX4_conflicts 21 = .ok (.iconst 0, 1) := by decide +kernel
theorem dX4_conflicts_22 : decode cX4_conflicts 22 = .ok (.istore 4, 2) := by decide +kernel
theorem dX4_conflicts_24 : decode cX4_conflicts 24 = .ok (.iload 4, 2) := by decide +kernel
theorem dX4_conflicts_26 : decode cX4_conflicts 26 = .ok (.bipush 8, 2) := by decide +kernel
theorem dX4_conflicts_28 : decode cX4_conflicts 28 = .ok (.if_icmp .ge 86, 3) := by decide +kernel
theorem dX4_conflicts_31 : decode cX4_conflicts 31 = .ok (.aload_n 0, 1) := by decide +kernel
theorem dX4_conflicts_32 : decode cX4_conflicts 32 = .ok (.getfield 33, 3) := by decide +kernel
theorem dX4_conflicts_35 : decode cX4_conflicts 35 = .ok (.iload 4, 2) := by decide +kernel
theorem dX4_conflicts_37 : decode cX4_conflicts 37 = .ok (.iushr, 1) := by decide +kernel
theorem dX4_conflicts_38 : decode cX4_conflicts 38 = .ok (.iconst 1, 1) := by decide +kernel
theorem dX4_conflicts_39 : decode cX4_conflicts 39 = .ok (.iand, 1) := by decide +kernel
theorem dX4_conflicts_40 : decode cX4_conflicts 40 = .ok (.ifCond .ne 7, 3) := by decide +kernel
theorem dX4_conflicts_43 : decode cX4_conflicts 43 = .ok (.iconst 1, 1) := by decide +kernel
theorem dX4_conflicts_44 : decode cX4_conflicts 44 = .ok (.goto 4, 3) := by decide +kernel
theorem dX4_conflicts_47 : decode cX4_conflicts 47 = .ok (.iconst 0, 1) := by decide +kernel
theorem dX4_conflicts_48 : decode cX4_conflicts 48 = .ok (.istore 5, 2) := by decide +kernel
theorem dX4_conflicts_50 : decode cX4_conflicts 50 = .ok (.iload 5, 2) := by decide +kernel
theorem dX4_conflicts_52 : decode cX4_conflicts 52 = .ok (.ifCond .eq 56, 3) := by decide +kernel
theorem dX4_conflicts_55 : decode cX4_conflicts 55 = .ok (.aload_n 1, 1) := by decide +kernel
theorem dX4_conflicts_56 : decode cX4_conflicts 56 = .ok (.getfield 96, 3) := by decide +kernel
theorem dX4_conflicts_59 : decode cX4_conflicts 59 = .ok (.iload 4, 2) := by decide +kernel
theorem dX4_conflicts_61 : decode cX4_conflicts 61 = .ok (.laload, 1) := by decide +kernel
theorem dX4_conflicts_62 : decode cX4_conflicts 62 = .ok (.invokestatic 100, 3) := by decide +kernel
theorem dX4_conflicts_65 : decode cX4_conflicts 65 = .ok (.lload_n 2, 1) := by decide +kernel
theorem dX4_conflicts_66 : decode cX4_conflicts 66 = .ok (.lcmp, 1) := by decide +kernel
theorem dX4_conflicts_67 : decode cX4_conflicts 67 = .ok (.ifCond .le 41, 3) := by decide +kernel
theorem dX4_conflicts_70 : decode cX4_conflicts 70 = .ok (.aload_n 0, 1) := by decide +kernel
theorem dX4_conflicts_71 : decode cX4_conflicts 71 = .ok (.dup, 1) := by decide +kernel
theorem dX4_conflicts_72 : decode cX4_conflicts 72 = .ok (.getfield 33, 3) := by decide +kernel
theorem dX4_conflicts_75 : decode cX4_conflicts 75 = .ok (.iconst 1, 1) := by decide +kernel
theorem dX4_conflicts_76 : decode cX4_conflicts 76 = .ok (.iload 4, 2) := by decide +kernel
theorem dX4_conflicts_78 : decode cX4_conflicts 78 = .ok (.ishl, 1) := by decide +kernel
theorem dX4_conflicts_79 : decode cX4_conflicts 79 = .ok (.ior, 1) := by decide +kernel
theorem dX4_conflicts_80 : decode cX4_conflicts 80 = .ok (.putfield 33, 3) := by decide +kernel
theorem dX4_conflicts_83 : decode cX4_conflicts 83 = .ok (.aload_n 1, 1) := by decide +kernel
theorem dX4_conflicts_84 : decode cX4_conflicts 84 = .ok (.getfield 96, 3) := by decide +kernel
theorem dX4_conflicts_87 : decode cX4_conflicts 87 = .ok (.iload 4, 2) := by decide +kernel
theorem dX4_conflicts_89 : decode cX4_conflicts 89 = .ok (.laload, 1) := by decide +kernel
theorem dX4_conflicts_90 : decode cX4_conflicts 90 = .ok (.lconst 0, 1) := by decide +kernel
theorem dX4_conflicts_91 : decode cX4_conflicts 91 = .ok (.lcmp, 1) := by decide +kernel
theorem dX4_conflicts_92 : decode cX4_conflicts 92 = .ok (.ifCond .le 16, 3) := by decide +kernel
theorem dX4_conflicts_95 : decode cX4_conflicts 95 = .ok (.aload_n 0, 1) := by decide +kernel
theorem dX4_conflicts_96 : decode cX4_conflicts 96 = .ok (.dup, 1) := by decide +kernel
theorem dX4_conflicts_97 : decode cX4_conflicts 97 = .ok (.getfield 37, 3) := by decide +kernel
theorem dX4_conflicts_100 : decode cX4_conflicts 100 = .ok (.iconst 1, 1) := by decide +kernel
theorem dX4_conflicts_101 : decode cX4_conflicts 101 = .ok (.iload 4, 2) := by decide +kernel
theorem dX4_conflicts_103 : decode cX4_conflicts 103 = .ok (.ishl, 1) := by decide +kernel
theorem dX4_conflicts_104 : decode cX4_conflicts 104 = .ok (.ior, 1) := by decide +kernel
theorem dX4_conflicts_105 : decode cX4_conflicts 105 = .ok (.putfield 37, 3) := by decide +kernel
theorem dX4_conflicts_108 : decode cX4_conflicts 108 = .ok (.iinc 4 1, 3) := by decide +kernel
theorem dX4_conflicts_111 : decode cX4_conflicts 111 = .ok (.goto (-87), 3) := by decide +kernel
theorem dX4_conflicts_114 : decode cX4_conflicts 114 = .ok (.iconst 0, 1) := by decide +kernel
theorem dX4_conflicts_115 : decode cX4_conflicts 115 = .ok (.ireturn, 1) := by decide +kernel
theorem dX5_init_0 : decode cX5_init 0 = .ok (.aload_n 0, 1) := by decide +kernel
theorem dX5_init_1 : decode cX5_init 1 = .ok (.invokespecial 3, 3) := by decide +kernel
theorem dX5_init_4 : decode cX5_init 4 = .ok (.aload_n 0, 1) := by decide +kernel
theorem dX5_init_5 : decode cX5_init 5 = .ok (.sipush 200, 3) := by decide +kernel
theorem dX5_init_8 : decode cX5_init 8 = .ok (.newarray .int, 2) := by decide +kernel
theorem dX5_init_10 : decode cX5_init 10 = .ok (.putfield 9, 3) := by decide +kernel
theorem dX5_init_13 : decode cX5_init 13 = .ok (.aload_n 0, 1) := by decide +kernel
theorem dX5_init_14 : decode cX5_init 14 = .ok (.bipush 8, 2) := by decide +kernel
theorem dX5_init_16 : decode cX5_init 16 = .ok (.anewarray 15, 3) := by decide +kernel
theorem dX5_init_19 : decode cX5_init 19 = .ok (.putfield 17, 3) := by decide +kernel
theorem dX5_init_22 : decode cX5_init 22 = .ok (.aload_n 0, 1) := by decide +kernel
theorem dX5_init_23 : decode cX5_init 23 = .ok (.bipush 8, 2) := by decide +kernel
theorem dX5_init_25 : decode cX5_init 25 = .ok (.newarray .int, 2) := by decide +kernel
theorem dX5_init_27 : decode cX5_init 27 = .ok (.putfield 21, 3) := by decide +kernel
theorem dX5_init_30 : decode cX5_init 30 = .ok (.iconst 0, 1) := by decide +kernel
theorem dX5_init_31 : decode cX5_init 31 = .ok (.istore_n 1, 1) := by decide +kernel
theorem dX5_init_32 : decode cX5_init 32 = .ok (.iload_n 1, 1) := by decide +kernel
theorem dX5_init_33 : decode cX5_init 33 = .ok (.bipush 8, 2) := by decide +kernel
theorem dX5_init_35 : decode cX5_init 35 = .ok (.if_icmp .ge 23, 3) := by decide +kernel
theorem dX5_init_38 : decode cX5_init 38 = .ok (.aload_n 0, 1) := by decide +kernel
theorem dX5_init_39 : decode cX5_init 39 = .ok (.getfield 17, 3) := by decide +kernel
theorem dX5_init_42 : decode cX5_init 42 = .ok (.iload_n 1, 1) := by decide +kernel
theorem dX5_init_43 : decode cX5_init 43 = .ok (.new 15, 3) := by decide +kernel
theorem dX5_init_46 : decode cX5_init 46 = .ok (.dup, 1) := by decide +kernel
theorem dX5_init_47 : decode cX5_init 47 = .ok (.iload_n 1, 1) := by decide +kernel
theorem dX5_init_48 : decode cX5_init 48 = .ok (.invokespecial 24, 3) := by decide +kernel
theorem dX5_init_51 : decode cX5_init 51 = .ok (.aastore, 1) := by decide +kernel
theorem dX5_init_52 : decode cX5_init 52 = .ok (.iinc 1 1, 3) := by decide +kernel
theorem dX5_init_55 : decode cX5_init 55 = .ok (.goto (-23), 3) := by decide +kernel
theorem dX5_init_58 : decode cX5_init 58 = .ok (.return_, 1) := by decide +kernel
theorem dX5_take_0 : decode cX5_take 0 = .ok (.aload_n 0, 1) := by decide +kernel
theorem dX5_take_1 : decode cX5_take 1 = .ok (.getfield 27, 3) := by decide +kernel
theorem dX5_take_4 : decode cX5_take 4 = .ok (.sipush 200, 3) := by decide +kernel
theorem dX5_take_7 : decode cX5_take 7 = .ok (.if_icmp .ge 23, 3) := by decide +kernel
theorem dX5_take_10 : decode cX5_take 10 = .ok (.aload_n 0, 1) := by decide +kernel
theorem dX5_take_11 : decode cX5_take 11 = .ok (.getfield 9, 3) := by decide +kernel
theorem dX5_take_14 : decode cX5_take 14 = .ok (.aload_n 0, 1) := by decide +kernel
theorem dX5_take_15 : decode cX5_take 15 = .ok (.getfield 27, 3) := by decide +kernel
theorem dX5_take_18 : decode cX5_take 18 = .ok (.iload_n 1, 1) := by decide +kernel
theorem dX5_take_19 : decode cX5_take 19 = .ok (.iastore, 1) := by decide +kernel
theorem dX5_take_20 : decode cX5_take 20 = .ok (.aload_n 0, 1) := by decide +kernel
theorem dX5_take_21 : decode cX5_take 21 = .ok (.dup, 1) := by decide +kernel
theorem dX5_take_22 : decode cX5_take 22 = .ok (.getfield 27, 3) := by decide +kernel
theorem dX5_take_25 : decode cX5_take 25 = .ok (.iconst 1, 1) := by decide +kernel
theorem dX5_take_26 : decode cX5_take 26 = .ok (.iadd, 1) := by decide +kernel
theorem dX5_take_27 : decode cX5_take 27 = .ok (.putfield 27, 3) := by decide +kernel
theorem dX5_take_30 : decode cX5_take 30 = .ok (.aload_n 0, 1) := by decide +kernel
theorem dX5_take_31 : decode cX5_take 31 = .ok (.getfield 27, 3) := by decide +kernel
theorem dX5_take_34 : decode cX5_take 34 = .ok (.ireturn, 1) := by decide +kernel
theorem dX5_begin_0 : decode cX5_begin 0 = .ok (.aload_n 0, 1) := by decide +kernel
theorem dX5_begin_1 : decode cX5_begin 1 = .ok (.aload_n 0, 1) := by decide +kernel
theorem dX5_begin_2 : decode cX5_begin 2 = .ok (.getfield 27, 3) := by decide +kernel
theorem dX5_begin_5 : decode cX5_begin 5 = .ok (.putfield 31, 3) := by decide +kernel
theorem dX5_begin_8 : decode cX5_begin 8 = .ok (.aload_n 0, 1) := by decide +kernel
theorem dX5_begin_9 : decode cX5_begin 9 = .ok (.iconst 0, 1) := by decide +kernel
theorem dX5_begin_10 : decode cX5_begin 10 = .ok (.putfield 27, 3) := by decide +kernel
theorem dX5_begin_13 : decode cX5_begin 13 = .ok (.aload_n 0, 1) := by decide +kernel
theorem dX5_begin_14 : decode cX5_begin 14 = .ok (.iconst 0, 1) := by decide +kernel
theorem dX5_begin_15 : decode cX5_begin 15 = .ok (.putfield 34, 3) := by decide +kernel
theorem dX5_begin_18 : decode cX5_begin 18 = .ok (.aload_n 0, 1) := by decide +kernel
theorem dX5_begin_19 : decode cX5_begin 19 = .ok (.iconst 0, 1) := by decide +kernel
theorem dX5_begin_20 : decode cX5_begin 20 = .ok (.putfield 37, 3) := by decide +kernel
theorem dX5_begin_23 : decode cX5_begin 23 = .ok (.aload_n 0, 1) := by decide +kernel
theorem dX5_begin_24 : decode cX5_begin 24 = .ok (.getfield 21, 3) := by decide +kernel
theorem dX5_begin_27 : decode cX5_begin 27 = .ok (.iconst 0, 1) := by decide +kernel
theorem dX5_begin_28 : decode cX5_begin 28 = .ok (.invokestatic 40, 3) := by decide +kernel
theorem dX5_begin_31 : decode cX5_begin 31 = .ok (.return_, 1) := by decide +kernel
theorem dX5_readsFormula_0 : decode cX5_readsFormula 0 = .ok (.aload_n 0, 1) := by decide +kernel
theorem dX5_readsFormula_1 : decode cX5_readsFormula 1 = .ok (.invokevirtual 46, 3) := by decide +kernel
theorem dX5_readsFormula_4 : decode cX5_readsFormula 4 = .ok (.aload_n 0, 1) := by decide +kernel
theorem dX5_readsFormula_5 : decode cX5_readsFormula 5 = .ok (.invokevirtual 49, 3) := by decide +kernel

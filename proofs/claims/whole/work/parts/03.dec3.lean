theorem dX8_plus_206 : decode cX8_plus 206 = .ok (.lstore 4, 2) := by decide +kernel
theorem dX8_plus_208 : decode cX8_plus 208 = .ok (.goto 28, 3) := by decide +kernel
theorem dX8_plus_211 : decode cX8_plus 211 = .ok (.lload 7, 2) := by decide +kernel
theorem dX8_plus_213 : decode cX8_plus 213 = .ok (.invokestatic 187, 3) := by decide +kernel
theorem dX8_plus_216 : decode cX8_plus 216 = .ok (.ldc2_w 185, 3) := by decide +kernel
theorem dX8_plus_219 : decode cX8_plus 219 = .ok (.lload 9, 2) := by decide +kernel
theorem dX8_plus_221 : decode cX8_plus 221 = .ok (.invokestatic 187, 3) := by decide +kernel
theorem dX8_plus_224 : decode cX8_plus 224 = .ok (.lsub, 1) := by decide +kernel
theorem dX8_plus_225 : decode cX8_plus 225 = .ok (.lcmp, 1) := by decide +kernel
theorem dX8_plus_226 : decode cX8_plus 226 = .ok (.ifCond .le 10, 3) := by decide +kernel
theorem dX8_plus_229 : decode cX8_plus 229 = .ok (.aload_n 0, 1) := by decide +kernel
theorem dX8_plus_230 : decode cX8_plus 230 = .ok (.bipush 6, 2) := by decide +kernel
theorem dX8_plus_232 : decode cX8_plus 232 = .ok (.invokevirtual 77, 3) := by decide +kernel
theorem dX8_plus_235 : decode cX8_plus 235 = .ok (.ireturn, 1) := by decide +kernel
theorem dX8_plus_236 : decode cX8_plus 236 = .ok (.aload_n 0, 1) := by decide +kernel
theorem dX8_plus_237 : decode cX8_plus 237 = .ok (.getfield 42, 3) := by decide +kernel
theorem dX8_plus_240 : decode cX8_plus 240 = .ok (.iconst 2, 1) := by decide +kernel
theorem dX8_plus_241 : decode cX8_plus 241 = .ok (.iload 6, 2) := by decide +kernel
theorem dX8_plus_243 : decode cX8_plus 243 = .ok (.iadd, 1) := by decide +kernel
theorem dX8_plus_244 : decode cX8_plus 244 = .ok (.lload 7, 2) := by decide +kernel
theorem dX8_plus_246 : decode cX8_plus 246 = .ok (.lload 9, 2) := by decide +kernel
theorem dX8_plus_248 : decode cX8_plus 248 = .ok (.ladd, 1) := by decide +kernel
theorem dX8_plus_249 : decode cX8_plus 249 = .ok (.lastore, 1) := by decide +kernel
theorem dX8_plus_250 : decode cX8_plus 250 = .ok (.iinc 6 1, 3) := by decide +kernel
theorem dX8_plus_253 : decode cX8_plus 253 = .ok (.goto (-152), 3) := by decide +kernel
theorem dX8_plus_256 : decode cX8_plus 256 = .ok (.aload_n 0, 1) := by decide +kernel
theorem dX8_plus_257 : decode cX8_plus 257 = .ok (.getfield 42, 3) := by decide +kernel
theorem dX8_plus_260 : decode cX8_plus 260 = .ok (.iconst 1, 1) := by decide +kernel
theorem dX8_plus_261 : decode cX8_plus 261 = .ok (.lload 4, 2) := by decide +kernel
theorem dX8_plus_263 : decode cX8_plus 263 = .ok (.lastore, 1) := by decide +kernel
theorem dX8_plus_264 : decode cX8_plus 264 = .ok (.aload_n 0, 1) := by decide +kernel
theorem dX8_plus_265 : decode cX8_plus 265 = .ok (.aload_n 0, 1) := by decide +kernel
theorem dX8_plus_266 : decode cX8_plus 266 = .ok (.iconst 4, 1) := by decide +kernel
theorem dX8_plus_267 : decode cX8_plus 267 = .ok (.invokevirtual 191, 3) := by decide +kernel
theorem dX8_plus_270 : decode cX8_plus 270 = .ok (.invokevirtual 81, 3) := by decide +kernel
theorem dX8_plus_273 : decode cX8_plus 273 = .ok (.ireturn, 1) := by decide +kernel
theorem dX8_times_0 : decode cX8_times 0 = .ok (.aload_n 0, 1) := by decide +kernel
theorem dX8_times_1 : decode cX8_times 1 = .ok (.invokevirtual 171, 3) := by decide +kernel
theorem dX8_times_4 : decode cX8_times 4 = .ok (.ifCond .ne 6, 3) := by decide +kernel
theorem dX8_times_7 : decode cX8_times 7 = .ok (.ldc 174, 2) := by decide +kernel
theorem dX8_times_9 : decode cX8_times 9 = .ok (.ireturn, 1) := by decide +kernel
theorem dX8_times_10 : decode cX8_times 10 = .ok (.aload_n 0, 1) := by decide +kernel
theorem dX8_times_11 : decode cX8_times 11 = .ok (.iload_n 1, 1) := by decide +kernel
theorem dX8_times_12 : decode cX8_times 12 = .ok (.invokevirtual 175, 3) := by decide +kernel
theorem dX8_times_15 : decode cX8_times 15 = .ok (.ifCond .eq 8, 3) := by decide +kernel
theorem dX8_times_18 : decode cX8_times 18 = .ok (.iload_n 2, 1) := by decide +kernel
theorem dX8_times_19 : decode cX8_times 19 = .ok (.iconst 1, 1) := by decide +kernel
theorem dX8_times_20 : decode cX8_times 20 = .ok (.if_icmp .ge 6, 3) := by decide +kernel
theorem dX8_times_23 : decode cX8_times 23 = .ok (.ldc 76, 2) := by decide +kernel
theorem dX8_times_25 : decode cX8_times 25 = .ok (.ireturn, 1) := by decide +kernel
theorem dX8_times_26 : decode cX8_times 26 = .ok (.aload_n 0, 1) := by decide +kernel
theorem dX8_times_27 : decode cX8_times 27 = .ok (.invokevirtual 178, 3) := by decide +kernel
theorem dX8_times_30 : decode cX8_times 30 = .ok (.ifCond .eq 6, 3) := by decide +kernel
theorem dX8_times_33 : decode cX8_times 33 = .ok (.ldc 97, 2) := by decide +kernel
theorem dX8_times_35 : decode cX8_times 35 = .ok (.ireturn, 1) := by decide +kernel
theorem dX8_times_36 : decode cX8_times 36 = .ok (.aload_n 0, 1) := by decide +kernel
theorem dX8_times_37 : decode cX8_times 37 = .ok (.iload_n 1, 1) := by decide +kernel
theorem dX8_times_38 : decode cX8_times 38 = .ok (.invokevirtual 181, 3) := by decide +kernel
theorem dX8_times_41 : decode cX8_times 41 = .ok (.iconst 1, 1) := by decide +kernel
theorem dX8_times_42 : decode cX8_times 42 = .ok (.istore_n 3, 1) := by decide +kernel
theorem dX8_times_43 : decode cX8_times 43 = .ok (.iload_n 3, 1) := by decide +kernel
theorem dX8_times_44 : decode cX8_times 44 = .ok (.bipush 10, 2) := by decide +kernel
theorem dX8_times_46 : decode cX8_times 46 = .ok (.if_icmp .ge 46, 3) := by decide +kernel
theorem dX8_times_49 : decode cX8_times 49 = .ok (.aload_n 0, 1) := by decide +kernel
theorem dX8_times_50 : decode cX8_times 50 = .ok (.getfield 42, 3) := by decide +kernel
theorem dX8_times_53 : decode cX8_times 53 = .ok (.iload_n 3, 1) := by decide +kernel
theorem dX8_times_54 : decode cX8_times 54 = .ok (.laload, 1) := by decide +kernel
theorem dX8_times_55 : decode cX8_times 55 = .ok (.invokestatic 187, 3) := by decide +kernel
theorem dX8_times_58 : decode cX8_times 58 = .ok (.ldc2_w 185, 3) := by decide +kernel
theorem dX8_times_61 : decode cX8_times 61 = .ok (.iload_n 2, 1) := by decide +kernel
theorem dX8_times_62 : decode cX8_times 62 = .ok (.i2l, 1) := by decide +kernel
theorem dX8_times_63 : decode cX8_times 63 = .ok (.ldiv, 1) := by decide +kernel
theorem dX8_times_64 : decode cX8_times 64 = .ok (.lcmp, 1) := by decide +kernel
theorem dX8_times_65 : decode cX8_times 65 = .ok (.ifCond .le 10, 3) := by decide +kernel
theorem dX8_times_68 : decode cX8_times 68 = .ok (.aload_n 0, 1) := by decide +kernel
theorem dX8_times_69 : decode cX8_times 69 = .ok (.bipush 6, 2) := by decide +kernel
theorem dX8_times_71 : decode cX8_times 71 = .ok (.invokevirtual 77, 3) := by decide +kernel
theorem dX8_times_74 : decode cX8_times 74 = .ok (.ireturn, 1) := by decide +kernel
theorem dX8_times_75 : decode cX8_times 75 = .ok (.aload_n 0, 1) := by decide +kernel
theorem dX8_times_76 : decode cX8_times 76 = .ok (.getfield 42, 3) := by decide +kernel
theorem dX8_times_79 : decode cX8_times 79 = .ok (.iload_n 3, 1) := by decide +kernel
theorem dX8_times_80 : decode cX8_times 80 = .ok (.dup2, 1) := by decide +kernel
theorem dX8_times_81 : decode cX8_times 81 = .ok (.laload, 1) := by decide +kernel
theorem dX8_times_82 : decode cX8_times 82 = .ok (.iload_n 2, 1) := by decide +kernel
theorem dX8_times_83 : decode cX8_times 83 = .ok (.i2l, 1) := by decide +kernel
theorem dX8_times_84 : decode cX8_times 84 = .ok (.lmul, 1) := by decide +kernel
theorem dX8_times_85 : decode cX8_times 85 = .ok (.lastore, 1) := by decide +kernel
theorem dX8_times_86 : decode cX8_times 86 = .ok (.iinc 3 1, 3) := by decide +kernel
theorem dX8_times_89 : decode cX8_times 89 = .ok (.goto (-46), 3) := by decide +kernel
theorem dX8_times_92 : decode cX8_times 92 = .ok (.aload_n 0, 1) := by decide +kernel
theorem dX8_times_93 : decode cX8_times 93 = .ok (.aload_n 0, 1) := by decide +kernel
theorem dX8_times_94 : decode cX8_times 94 = .ok (.iconst 4, 1) := by decide +kernel
theorem dX8_times_95 : decode cX8_times 95 = .ok (.invokevirtual 191, 3) := by decide +kernel
theorem dX8_times_98 : decode cX8_times 98 = .ok (.invokevirtual 81, 3) := by decide +kernel
theorem dX8_times_101 : decode cX8_times 101 = .ok (.ireturn, 1) := by decide +kernel
theorem dX8_split_0 : decode cX8_split 0 = .ok (.aload_n 0, 1) := by decide +kernel
theorem dX8_split_1 : decode cX8_split 1 = .ok (.invokevirtual 171, 3) := by decide +kernel
theorem dX8_split_4 : decode cX8_split 4 = .ok (.ifCond .ne 6, 3) := by decide +kernel
theorem dX8_split_7 : decode cX8_split 7 = .ok (.ldc 174, 2) := by decide +kernel
theorem dX8_split_9 : decode cX8_split 9 = .ok (.ireturn, 1) := by decide +kernel
theorem dX8_split_10 : decode cX8_split 10 = .ok (.aload_n 0, 1) := by decide +kernel
theorem dX8_split_11 : decode cX8_split 11 = .ok (.iload_n 1, 1) := by decide +kernel
theorem dX8_split_12 : decode cX8_split 12 = .ok (.invokevirtual 175, 3) := by decide +kernel
theorem dX8_split_15 : decode cX8_split 15 = .ok (.ifCond .eq 8, 3) := by decide +kernel
theorem dX8_split_18 : decode cX8_split 18 = .ok (.iload_n 2, 1) := by decide +kernel
theorem dX8_split_19 : decode cX8_split 19 = .ok (.iconst 1, 1) := by decide +kernel
theorem dX8_split_20 : decode cX8_split 20 = .ok (.if_icmp .ge 6, 3) := by decide +kernel
theorem dX8_split_23 : decode cX8_split 23 = .ok (.ldc 76, 2) := by decide +kernel
theorem dX8_split_25 : decode cX8_split 25 = .ok (.ireturn, 1) := by decide +kernel
theorem dX8_split_26 : decode cX8_split 26 = .ok (.aload_n 0, 1) := by decide +kernel
theorem dX8_split_27 : decode cX8_split 27 = .ok (.invokevirtual 178, 3) := by decide +kernel
theorem dX8_split_30 : decode cX8_split 30 = .ok (.ifCond .eq 6, 3) := by decide +kernel
theorem dX8_split_33 : decode cX8_split 33 = .ok (.ldc 97, 2) := by decide +kernel
theorem dX8_split_35 : decode cX8_split 35 = .ok (.ireturn, 1) := by decide +kernel
theorem dX8_split_36 : decode cX8_split 36 = .ok (.aload_n 0, 1) := by decide +kernel
theorem dX8_split_37 : decode cX8_split 37 = .ok (.iload_n 1, 1) := by decide +kernel
theorem dX8_split_38 : decode cX8_split 38 = .ok (.invokevirtual 181, 3) := by decide +kernel
theorem dX8_split_41 : decode cX8_split 41 = .ok (.iconst 1, 1) := by decide +kernel
theorem dX8_split_42 : decode cX8_split 42 = .ok (.istore_n 3, 1) := by decide +kernel
theorem dX8_split_43 : decode cX8_split 43 = .ok (.iload_n 3, 1) := by decide +kernel
theorem dX8_split_44 : decode cX8_split 44 = .ok (.bipush 10, 2) := by decide +kernel
theorem dX8_split_46 : decode cX8_split 46 = .ok (.if_icmp .ge 71, 3) := by decide +kernel
theorem dX8_split_49 : decode cX8_split 49 = .ok (.aload_n 0, 1) := by decide +kernel
theorem dX8_split_50 : decode cX8_split 50 = .ok (.getfield 42, 3) := by decide +kernel
theorem dX8_split_53 : decode cX8_split 53 = .ok (.iload_n 3, 1) := by decide +kernel
theorem dX8_split_54 : decode cX8_split 54 = .ok (.laload, 1) := by decide +kernel
theorem dX8_split_55 : decode cX8_split 55 = .ok (.invokestatic 187, 3) := by decide +kernel
theorem dX8_split_58 : decode cX8_split 58 = .ok (.iload_n 2, 1) := by decide +kernel
theorem dX8_split_59 : decode cX8_split 59 = .ok (.i2l, 1) := by decide +kernel
theorem dX8_split_60 : decode cX8_split 60 = .ok (.ldiv, 1) := by decide +kernel
theorem dX8_split_61 : decode cX8_split 61 = .ok (.aload_n 0, 1) := by decide +kernel
theorem dX8_split_62 : decode cX8_split 62 = .ok (.getfield 42, 3) := by decide +kernel
theorem dX8_split_65 : decode cX8_split 65 = .ok (.iload_n 3, 1) := by decide +kernel
theorem dX8_split_66 : decode cX8_split 66 = .ok (.laload, 1) := by decide +kernel
theorem dX8_split_67 : decode cX8_split 67 = .ok (.invokestatic 187, 3) := by decide +kernel
theorem dX8_split_70 : decode cX8_split 70 = .ok (.iload_n 2, 1) := by decide +kernel
theorem dX8_split_71 : decode cX8_split 71 = .ok (.i2l, 1) := by decide +kernel
theorem dX8_split_72 : decode cX8_split 72 = .ok (.lrem, 1) := by decide +kernel
theorem dX8_split_73 : decode cX8_split 73 = .ok (.lconst 0, 1) := by decide +kernel
theorem dX8_split_74 : decode cX8_split 74 = .ok (.lcmp, 1) := by decide +kernel
theorem dX8_split_75 : decode cX8_split 75 = .ok (.ifCond .le 7, 3) := by decide +kernel
theorem dX8_split_78 : decode cX8_split 78 = .ok (.lconst 1, 1) := by decide +kernel
theorem dX8_split_79 : decode cX8_split 79 = .ok (.goto 4, 3) := by decide +kernel
theorem dX8_split_82 : decode cX8_split 82 = .ok (.lconst 0, 1) := by decide +kernel
theorem dX8_split_83 : decode cX8_split 83 = .ok (.ladd, 1) := by decide +kernel
theorem dX8_split_84 : decode cX8_split 84 = .ok (.lstore 4, 2) := by decide +kernel
theorem dX8_split_86 : decode cX8_split 86 = .ok (.aload_n 0, 1) := by decide +kernel
theorem dX8_split_87 : decode cX8_split 87 = .ok (.getfield 42, 3) := by decide +kernel
theorem dX8_split_90 : decode cX8_split 90 = .ok (.iload_n 3, 1) := by decide +kernel
theorem dX8_split_91 : decode cX8_split 91 = .ok (.aload_n 0, 1) := by decide +kernel
theorem dX8_split_92 : decode cX8_split 92 = .ok (.getfield 42, 3) := by decide +kernel
theorem dX8_split_95 : decode cX8_split 95 = .ok (.iload_n 3, 1) := by decide +kernel
theorem dX8_split_96 : decode cX8_split 96 = .ok (.laload, 1) := by decide +kernel
theorem dX8_split_97 : decode cX8_split 97 = .ok (.lconst 0, 1) := by decide +kernel
theorem dX8_split_98 : decode cX8_split 98 = .ok (.lcmp, 1) := by decide +kernel
theorem dX8_split_99 : decode cX8_split 99 = .ok (.ifCond .ge 9, 3) := by decide +kernel
theorem dX8_split_102 : decode cX8_split 102 = .ok (.lload 4, 2) := by decide +kernel
theorem dX8_split_104 : decode cX8_split 104 = .ok (.lneg, 1) := by decide +kernel
theorem dX8_split_105 : decode cX8_split 105 = .ok (.goto 5, 3) := by decide +kernel
theorem dX8_split_108 : decode cX8_split 108 = .ok (.lload 4, 2) := by decide +kernel
theorem dX8_split_110 : decode cX8_split 110 = .ok (.lastore, 1) := by decide +kernel
theorem dX8_split_111 : decode cX8_split 111 = .ok (.iinc 3 1, 3) := by decide +kernel
theorem dX8_split_114 : decode cX8_split 114 = .ok (.goto (-71), 3) := by decide +kernel
theorem dX8_split_117 : decode cX8_split 117 = .ok (.aload_n 0, 1) := by decide +kernel
theorem dX8_split_118 : decode cX8_split 118 = .ok (.iconst 4, 1) := by decide +kernel
theorem dX8_split_119 : decode cX8_split 119 = .ok (.invokevirtual 191, 3) := by decide +kernel
theorem dX8_split_122 : decode cX8_split 122 = .ok (.ireturn, 1) := by decide +kernel
theorem dX8_saturate_0 : decode cX8_saturate 0 = .ok (.aload_n 0, 1) := by decide +kernel
theorem dX8_saturate_1 : decode cX8_saturate 1 = .ok (.invokevirtual 171, 3) := by decide +kernel
theorem dX8_saturate_4 : decode cX8_saturate 4 = .ok (.ifCond .ne 6, 3) := by decide +kernel
theorem dX8_saturate_7 : decode cX8_saturate 7 = .ok (.ldc 174, 2) := by decide +kernel
theorem dX8_saturate_9 : decode cX8_saturate 9 = .ok (.ireturn, 1) := by decide +kernel
theorem dX8_saturate_10 : decode cX8_saturate 10 = .ok (.aload_n 0, 1) := by decide +kernel
theorem dX8_saturate_11 : decode cX8_saturate 11 = .ok (.iload_n 1, 1) := by decide +kernel
theorem dX8_saturate_12 : decode cX8_saturate 12 = .ok (.invokevirtual 175, 3) := by decide +kernel
theorem dX8_saturate_15 : decode cX8_saturate 15 = .ok (.ifCond .ne 6, 3) := by decide +kernel
theorem dX8_saturate_18 : decode cX8_saturate 18 = .ok (.ldc 76, 2) := by decide +kernel
theorem dX8_saturate_20 : decode cX8_saturate 20 = .ok (.ireturn, 1) := by decide +kernel
theorem dX8_saturate_21 : decode cX8_saturate 21 = .ok (.aload_n 0, 1) := by decide +kernel
theorem dX8_saturate_22 : decode cX8_saturate 22 = .ok (.invokevirtual 178, 3) := by decide +kernel
theorem dX8_saturate_25 : decode cX8_saturate 25 = .ok (.ifCond .eq 6, 3) := by decide +kernel
theorem dX8_saturate_28 : decode cX8_saturate 28 = .ok (.ldc 97, 2) := by decide +kernel
theorem dX8_saturate_30 : decode cX8_saturate 30 = .ok (.ireturn, 1) := by decide +kernel
theorem dX8_saturate_31 : decode cX8_saturate 31 = .ok (.aload_n 0, 1) := by decide +kernel
theorem dX8_saturate_32 : decode cX8_saturate 32 = .ok (.iload_n 1, 1) := by decide +kernel
theorem dX8_saturate_33 : decode cX8_saturate 33 = .ok (.invokevirtual 181, 3) := by decide +kernel
theorem dX8_saturate_36 : decode cX8_saturate 36 = .ok (.iconst 2, 1) := by decide +kernel
theorem dX8_saturate_37 : decode cX8_saturate 37 = .ok (.istore_n 2, 1) := by decide +kernel
theorem dX8_saturate_38 : decode cX8_saturate 38 = .ok (.iload_n 2, 1) := by decide +kernel
theorem dX8_saturate_39 : decode cX8_saturate 39 = .ok (.bipush 10, 2) := by decide +kernel
theorem dX8_saturate_41 : decode cX8_saturate 41 = .ok (.if_icmp .ge 70, 3) := by decide +kernel
theorem dX8_saturate_44 : decode cX8_saturate 44 = .ok (.aload_n 0, 1) := by decide +kernel
theorem dX8_saturate_45 : decode cX8_saturate 45 = .ok (.getfield 42, 3) := by decide +kernel
theorem dX8_saturate_48 : decode cX8_saturate 48 = .ok (.iload_n 2, 1) := by decide +kernel
theorem dX8_saturate_49 : decode cX8_saturate 49 = .ok (.laload, 1) := by decide +kernel
theorem dX8_saturate_50 : decode cX8_saturate 50 = .ok (.invokestatic 187, 3) := by decide +kernel
theorem dX8_saturate_53 : decode cX8_saturate 53 = .ok (.aload_n 0, 1) := by decide +kernel
theorem dX8_saturate_54 : decode cX8_saturate 54 = .ok (.getfield 42, 3) := by decide +kernel
theorem dX8_saturate_57 : decode cX8_saturate 57 = .ok (.iconst 1, 1) := by decide +kernel
theorem dX8_saturate_58 : decode cX8_saturate 58 = .ok (.laload, 1) := by decide +kernel
theorem dX8_saturate_59 : decode cX8_saturate 59 = .ok (.lcmp, 1) := by decide +kernel
theorem dX8_saturate_60 : decode cX8_saturate 60 = .ok (.ifCond .le 12, 3) := by decide +kernel
theorem dX8_saturate_63 : decode cX8_saturate 63 = .ok (.aload_n 0, 1) := by decide +kernel
theorem dX8_saturate_64 : decode cX8_saturate 64 = .ok (.getfield 42, 3) := by decide +kernel
theorem dX8_saturate_67 : decode cX8_saturate 67 = .ok (.iconst 1, 1) := by decide +kernel
theorem dX8_saturate_68 : decode cX8_saturate 68 = .ok (.laload, 1) := by decide +kernel
theorem dX8_saturate_69 : decode cX8_saturate 69 = .ok (.goto 12, 3) := by decide +kernel
theorem dX8_saturate_72 : decode cX8_saturate 72 = .ok (.aload_n 0, 1) := by decide +kernel
theorem dX8_saturate_73 : decode cX8_saturate 73 = .ok (.getfield 42, 3) := by decide +kernel
theorem dX8_saturate_76 : decode cX8_saturate 76 = .ok (.iload_n 2, 1) := by decide +kernel
theorem dX8_saturate_77 : decode cX8_saturate 77 = .ok (.laload, 1) := by decide +kernel
theorem dX8_saturate_78 : decode cX8_saturate 78 = .ok (.invokestatic 187, 3) := by decide +kernel
theorem dX8_saturate_81 : decode cX8_saturate 81 = .ok (.lstore_n 3, 1) := by decide +kernel
theorem dX8_saturate_82 : decode cX8_saturate 82 = .ok (.aload_n 0, 1) := by decide +kernel
theorem dX8_saturate_83 : decode cX8_saturate 83 = .ok (.getfield 42, 3) := by decide +kernel
theorem dX8_saturate_86 : decode cX8_saturate 86 = .ok (.iload_n 2, 1) := by decide +kernel
theorem dX8_saturate_87 : decode cX8_saturate 87 = .ok (.aload_n 0, 1) := by decide +kernel
theorem dX8_saturate_88 : decode cX8_saturate 88 = .ok (.getfield 42, 3) := by decide +kernel
theorem dX8_saturate_91 : decode cX8_saturate 91 = .ok (.iload_n 2, 1) := by decide +kernel
theorem dX8_saturate_92 : decode cX8_saturate 92 = .ok (.laload, 1) := by decide +kernel
theorem dX8_saturate_93 : decode cX8_saturate 93 = .ok (.lconst 0, 1) := by decide +kernel
theorem dX8_saturate_94 : decode cX8_saturate 94 = .ok (.lcmp, 1) := by decide +kernel
theorem dX8_saturate_95 : decode cX8_saturate 95 = .ok (.ifCond .ge 8, 3) := by decide +kernel
theorem dX8_saturate_98 : decode cX8_saturate 98 = .ok (.lload_n 3, 1) := by decide +kernel
theorem dX8_saturate_99 : decode cX8_saturate 99 = .ok (.lneg, 1) := by decide +kernel
theorem dX8_saturate_100 : decode cX8_saturate 100 = .ok (.goto 4, 3) := by decide +kernel
theorem dX8_saturate_103 : decode cX8_saturate 103 = .ok (.lload_n 3, 1) := by decide +kernel
theorem dX8_saturate_104 : decode cX8_saturate 104 = .ok (.lastore, 1) := by decide +kernel
theorem dX8_saturate_105 : decode cX8_saturate 105 = .ok (.iinc 2 1, 3) := by decide +kernel
theorem dX8_saturate_108 : decode cX8_saturate 108 = .ok (.goto (-70), 3) := by decide +kernel
theorem dX8_saturate_111 : decode cX8_saturate 111 = .ok (.aload_n 0, 1) := by decide +kernel
theorem dX8_saturate_112 : decode cX8_saturate 112 = .ok (.iconst 4, 1) := by decide +kernel
theorem dX8_saturate_113 : decode cX8_saturate 113 = .ok (.invokevirtual 191, 3) := by decide +kernel
theorem dX8_saturate_116 : decode cX8_saturate 116 = .ok (.ireturn, 1) := by decide +kernel
theorem dX8_weaken_0 : decode cX8_weaken 0 = .ok (.aload_n 0, 1) := by decide +kernel
theorem dX8_weaken_1 : decode cX8_weaken 1 = .ok (.invokevirtual 171, 3) := by decide +kernel
theorem dX8_weaken_4 : decode cX8_weaken 4 = .ok (.ifCond .ne 6, 3) := by decide +kernel
theorem dX8_weaken_7 : decode cX8_weaken 7 = .ok (.ldc 174, 2) := by decide +kernel
theorem dX8_weaken_9 : decode cX8_weaken 9 = .ok (.ireturn, 1) := by decide +kernel
theorem dX8_weaken_10 : decode cX8_weaken 10 = .ok (.aload_n 0, 1) := by decide +kernel
theorem dX8_weaken_11 : decode cX8_weaken 11 = .ok (.iload_n 1, 1) := by decide +kernel
theorem dX8_weaken_12 : decode cX8_weaken 12 = .ok (.invokevirtual 175, 3) := by decide +kernel
theorem dX8_weaken_15 : decode cX8_weaken 15 = .ok (.ifCond .eq 34, 3) := by decide +kernel
theorem dX8_weaken_18 : decode cX8_weaken 18 = .ok (.iload_n 2, 1) := by decide +kernel
theorem dX8_weaken_19 : decode cX8_weaken 19 = .ok (.iconst 0, 1) := by decide +kernel
theorem dX8_weaken_20 : decode cX8_weaken 20 = .ok (.bipush 7, 2) := by decide +kernel
theorem dX8_weaken_22 : decode cX8_weaken 22 = .ok (.invokestatic 68, 3) := by decide +kernel
theorem dX8_weaken_25 : decode cX8_weaken 25 = .ok (.ifCond .eq 24, 3) := by decide +kernel
theorem dX8_weaken_28 : decode cX8_weaken 28 = .ok (.aload_n 0, 1) := by decide +kernel
theorem dX8_weaken_29 : decode cX8_weaken 29 = .ok (.getfield 25, 3) := by decide +kernel
theorem dX8_weaken_32 : decode cX8_weaken 32 = .ok (.bipush 12, 2) := by decide +kernel
theorem dX8_weaken_34 : decode cX8_weaken 34 = .ok (.bipush 10, 2) := by decide +kernel
theorem dX8_weaken_36 : decode cX8_weaken 36 = .ok (.iload_n 1, 1) := by decide +kernel
theorem dX8_weaken_37 : decode cX8_weaken 37 = .ok (.imul, 1) := by decide +kernel
theorem dX8_weaken_38 : decode cX8_weaken 38 = .ok (.iadd, 1) := by decide +kernel
theorem dX8_weaken_39 : decode cX8_weaken 39 = .ok (.iconst 2, 1) := by decide +kernel
theorem dX8_weaken_40 : decode cX8_weaken 40 = .ok (.iadd, 1) := by decide +kernel
theorem dX8_weaken_41 : decode cX8_weaken 41 = .ok (.iload_n 2, 1) := by decide +kernel
theorem dX8_weaken_42 : decode cX8_weaken 42 = .ok (.iadd, 1) := by decide +kernel
theorem dX8_weaken_43 : decode cX8_weaken 43 = .ok (.laload, 1) := by decide +kernel
theorem dX8_weaken_44 : decode cX8_weaken 44 = .ok (.lconst 0, 1) := by decide +kernel
theorem dX8_weaken_45 : decode cX8_weaken 45 = .ok (.lcmp, 1) := by decide +kernel
theorem dX8_weaken_46 : decode cX8_weaken 46 = .ok (.ifCond .ne 6, 3) := by decide +kernel
theorem dX8_weaken_49 : decode cX8_weaken 49 = .ok (.ldc 76, 2) := by decide +kernel
theorem dX8_weaken_51 : decode cX8_weaken 51 = .ok (.ireturn, 1) := by decide +kernel
theorem dX8_weaken_52 : decode cX8_weaken 52 = .ok (.aload_n 0, 1) := by decide +kernel
theorem dX8_weaken_53 : decode cX8_weaken 53 = .ok (.invokevirtual 178, 3) := by decide +kernel
theorem dX8_weaken_56 : decode cX8_weaken 56 = .ok (.ifCond .eq 6, 3) := by decide +kernel
theorem dX8_weaken_59 : decode cX8_weaken 59 = .ok (.ldc 97, 2) := by decide +kernel
theorem dX8_weaken_61 : decode cX8_weaken 61 = .ok (.ireturn, 1) := by decide +kernel
theorem dX8_weaken_62 : decode cX8_weaken 62 = .ok (.aload_n 0, 1) := by decide +kernel
theorem dX8_weaken_63 : decode cX8_weaken 63 = .ok (.iload_n 1, 1) := by decide +kernel
theorem dX8_weaken_64 : decode cX8_weaken 64 = .ok (.invokevirtual 181, 3) := by decide +kernel
theorem dX8_weaken_67 : decode cX8_weaken 67 = .ok (.aload_n 0, 1) := by decide +kernel
theorem dX8_weaken_68 : decode cX8_weaken 68 = .ok (.getfield 42, 3) := by decide +kernel
theorem dX8_weaken_71 : decode cX8_weaken 71 = .ok (.iconst 2, 1) := by decide +kernel
theorem dX8_weaken_72 : decode cX8_weaken 72 = .ok (.iload_n 2, 1) := by decide +kernel
theorem dX8_weaken_73 : decode cX8_weaken 73 = .ok (.iadd, 1) := by decide +kernel
theorem dX8_weaken_74 : decode cX8_weaken 74 = .ok (.laload, 1) := by decide +kernel
theorem dX8_weaken_75 : decode cX8_weaken 75 = .ok (.invokestatic 187, 3) := by decide +kernel
theorem dX8_weaken_78 : decode cX8_weaken 78 = .ok (.lstore_n 3, 1) := by decide +kernel
theorem dX8_weaken_79 : decode cX8_weaken 79 = .ok (.aload_n 0, 1) := by decide +kernel
theorem dX8_weaken_80 : decode cX8_weaken 80 = .ok (.getfield 42, 3) := by decide +kernel
theorem dX8_weaken_83 : decode cX8_weaken 83 = .ok (.iconst 1, 1) := by decide +kernel
theorem dX8_weaken_84 : decode cX8_weaken 84 = .ok (.aload_n 0, 1) := by decide +kernel
theorem dX8_weaken_85 : decode cX8_weaken 85 = .ok (.getfield 42, 3) := by decide +kernel
theorem dX8_weaken_88 : decode cX8_weaken 88 = .ok (.iconst 1, 1) := by decide +kernel
theorem dX8_weaken_89 : decode cX8_weaken 89 = .ok (.laload, 1) := by decide +kernel
theorem dX8_weaken_90 : decode cX8_weaken 90 = .ok (.lload_n 3, 1) := by decide +kernel
theorem dX8_weaken_91 : decode cX8_weaken 91 = .ok (.lcmp, 1) := by decide +kernel
theorem dX8_weaken_92 : decode cX8_weaken 92 = .ok (.ifCond .ge 7, 3) := by decide +kernel
theorem dX8_weaken_95 : decode cX8_weaken 95 = .ok (.lconst 0, 1) := by decide +kernel
theorem dX8_weaken_96 : decode cX8_weaken 96 = .ok (.goto 11, 3) := by decide +kernel
theorem dX8_weaken_99 : decode cX8_weaken 99 = .ok (.aload_n 0, 1) := by decide +kernel
theorem dX8_weaken_100 : decode cX8_weaken 100 = .ok (.getfield 42, 3) := by decide +kernel
theorem dX8_weaken_103 : decode cX8_weaken 103 = .ok (.iconst 1, 1) := by decide +kernel
theorem dX8_weaken_104 : decode cX8_weaken 104 = .ok (.laload, 1) := by decide +kernel
theorem dX8_weaken_105 : decode cX8_weaken 105 = .ok (.lload_n 3, 1) := by decide +kernel
theorem dX8_weaken_106 : decode cX8_weaken 106 = .ok (.lsub, 1) := by decide +kernel
theorem dX8_weaken_107 : decode cX8_weaken 107 = .ok (.lastore, 1) := by decide +kernel
theorem dX8_weaken_108 : decode cX8_weaken 108 = .ok (.aload_n 0, 1) := by decide +kernel
theorem dX8_weaken_109 : decode cX8_weaken 109 = .ok (.getfield 42, 3) := by decide +kernel
theorem dX8_weaken_112 : decode cX8_weaken 112 = .ok (.iconst 2, 1) := by decide +kernel
theorem dX8_weaken_113 : decode cX8_weaken 113 = .ok (.iload_n 2, 1) := by decide +kernel
theorem dX8_weaken_114 : decode cX8_weaken 114 = .ok (.iadd, 1) := by decide +kernel
theorem dX8_weaken_115 : decode cX8_weaken 115 = .ok (.lconst 0, 1) := by decide +kernel
theorem dX8_weaken_116 : decode cX8_weaken 116 = .ok (.lastore, 1) := by decide +kernel
theorem dX8_weaken_117 : decode cX8_weaken 117 = .ok (.aload_n 0, 1) := by decide +kernel
theorem dX8_weaken_118 : decode cX8_weaken 118 = .ok (.iconst 4, 1) := by decide +kernel
theorem dX8_weaken_119 : decode cX8_weaken 119 = .ok (.invokevirtual 191, 3) := by decide +kernel
theorem dX8_weaken_122 : decode cX8_weaken 122 = .ok (.ireturn, 1) := by decide +kernel
theorem dX8_axiom_0 : decode cX8_axiom 0 = .ok (.aload_n 0, 1) := by decide +kernel
theorem dX8_axiom_1 : decode cX8_axiom 1 = .ok (.invokevirtual 171, 3) := by decide +kernel
theorem dX8_axiom_4 : decode cX8_axiom 4 = .ok (.ifCond .ne 6, 3) := by decide +kernel
theorem dX8_axiom_7 : decode cX8_axiom 7 = .ok (.ldc 174, 2) := by decide +kernel
theorem dX8_axiom_9 : decode cX8_axiom 9 = .ok (.ireturn, 1) := by decide +kernel
theorem dX8_axiom_10 : decode cX8_axiom 10 = .ok (.iload_n 1, 1) := by decide +kernel
theorem dX8_axiom_11 : decode cX8_axiom 11 = .ok (.iconst 0, 1) := by decide +kernel
theorem dX8_axiom_12 : decode cX8_axiom 12 = .ok (.bipush 7, 2) := by decide +kernel
theorem dX8_axiom_14 : decode cX8_axiom 14 = .ok (.invokestatic 68, 3) := by decide +kernel
theorem dX8_axiom_17 : decode cX8_axiom 17 = .ok (.ifCond .eq 12, 3) := by decide +kernel
theorem dX8_axiom_20 : decode cX8_axiom 20 = .ok (.iload_n 2, 1) := by decide +kernel
theorem dX8_axiom_21 : decode cX8_axiom 21 = .ok (.iconst 0, 1) := by decide +kernel
theorem dX8_axiom_22 : decode cX8_axiom 22 = .ok (.iconst 1, 1) := by decide +kernel
theorem dX8_axiom_23 : decode cX8_axiom 23 = .ok (.invokestatic 68, 3) := by decide +kernel
theorem dX8_axiom_26 : decode cX8_axiom 26 = .ok (.ifCond .ne 6, 3) := by decide +kernel
theorem dX8_axiom_29 : decode cX8_axiom 29 = .ok (.ldc 76, 2) := by decide +kernel
theorem dX8_axiom_31 : decode cX8_axiom 31 = .ok (.ireturn, 1) := by decide +kernel
theorem dX8_axiom_32 : decode cX8_axiom 32 = .ok (.aload_n 0, 1) := by decide +kernel
theorem dX8_axiom_33 : decode cX8_axiom 33 = .ok (.invokevirtual 178, 3) := by decide +kernel
theorem dX8_axiom_36 : decode cX8_axiom 36 = .ok (.ifCond .eq 6, 3) := by decide +kernel
theorem dX8_axiom_39 : decode cX8_axiom 39 = .ok (.ldc 97, 2) := by decide +kernel
theorem dX8_axiom_41 : decode cX8_axiom 41 = .ok (.ireturn, 1) := by decide +kernel
theorem dX8_axiom_42 : decode cX8_axiom 42 = .ok (.iconst 0, 1) := by decide +kernel
theorem dX8_axiom_43 : decode cX8_axiom 43 = .ok (.istore_n 3, 1) := by decide +kernel
theorem dX8_axiom_44 : decode cX8_axiom 44 = .ok (.iload_n 3, 1) := by decide +kernel
theorem dX8_axiom_45 : decode cX8_axiom 45 = .ok (.bipush 10, 2) := by decide +kernel
theorem dX8_axiom_47 : decode cX8_axiom 47 = .ok (.if_icmp .ge 16, 3) := by decide +kernel
theorem dX8_axiom_50 : decode cX8_axiom 50 = .ok (.aload_n 0, 1) := by decide +kernel
theorem dX8_axiom_51 : decode cX8_axiom 51 = .ok (.getfield 42, 3) := by decide +kernel
theorem dX8_axiom_54 : decode cX8_axiom 54 = .ok (.iload_n 3, 1) := by decide +kernel
theorem dX8_axiom_55 : decode cX8_axiom 55 = .ok (.lconst 0, 1) := by decide +kernel
theorem dX8_axiom_56 : decode cX8_axiom 56 = .ok (.lastore, 1) := by decide +kernel
theorem dX8_axiom_57 : decode cX8_axiom 57 = .ok (.iinc 3 1, 3) := by decide +kernel
theorem dX8_axiom_60 : decode cX8_axiom 60 = .ok (.goto (-16), 3) := by decide +kernel
theorem dX8_axiom_63 : decode cX8_axiom 63 = .ok (.aload_n 0, 1) := by decide +kernel
theorem dX8_axiom_64 : decode cX8_axiom 64 = .ok (.getfield 42, 3) := by decide +kernel
theorem dX8_axiom_67 : decode cX8_axiom 67 = .ok (.iconst 2, 1) := by decide +kernel
theorem dX8_axiom_68 : decode cX8_axiom 68 = .ok (.iload_n 1, 1) := by decide +kernel
theorem dX8_axiom_69 : decode cX8_axiom 69 = .ok (.iadd, 1) := by decide +kernel
theorem dX8_axiom_70 : decode cX8_axiom 70 = .ok (.iload_n 2, 1) := by decide +kernel
theorem dX8_axiom_71 : decode cX8_axiom 71 = .ok (.iconst 1, 1) := by decide +kernel
theorem dX8_axiom_72 : decode cX8_axiom 72 = .ok (.if_icmp .ne 7, 3) := by decide +kernel
theorem dX8_axiom_75 : decode cX8_axiom 75 = .ok (.lconst 1, 1) := by decide +kernel
theorem dX8_axiom_76 : decode cX8_axiom 76 = .ok (.goto 6, 3) := by decide +kernel
theorem dX8_axiom_79 : decode cX8_axiom 79 = .ok (.ldc2_w 194, 3) := by decide +kernel
theorem dX8_axiom_82 : decode cX8_axiom 82 = .ok (.lastore, 1) := by decide +kernel
theorem dX8_axiom_83 : decode cX8_axiom 83 = .ok (.aload_n 0, 1) := by decide +kernel
theorem dX8_axiom_84 : decode cX8_axiom 84 = .ok (.iconst 2, 1) := by decide +kernel
theorem dX8_axiom_85 : decode cX8_axiom 85 = .ok (.invokevirtual 191, 3) := by decide +kernel
theorem dX8_axiom_88 : decode cX8_axiom 88 = .ok (.ireturn, 1) := by decide +kernel
theorem dX8_sumOf_0 : decode cX8_sumOf 0 = .ok (.lconst 0, 1) := by decide +kernel
theorem dX8_sumOf_1 : decode cX8_sumOf 1 = .ok (.lstore_n 2, 1) := by decide +kernel
theorem dX8_sumOf_2 : decode cX8_sumOf 2 = .ok (.iconst 0, 1) := by decide +kernel
theorem dX8_sumOf_3 : decode cX8_sumOf 3 = .ok (.istore 4, 2) := by decide +kernel
theorem dX8_sumOf_5 : decode cX8_sumOf 5 = .ok (.iload 4, 2) := by decide +kernel
theorem dX8_sumOf_7 : decode cX8_sumOf 7 = .ok (.bipush 8, 2) := by decide +kernel
theorem dX8_sumOf_9 : decode cX8_sumOf 9 = .ok (.if_icmp .ge 42, 3) := by decide +kernel
theorem dX8_sumOf_12 : decode cX8_sumOf 12 = .ok (.aload_n 0, 1) := by decide +kernel
theorem dX8_sumOf_13 : decode cX8_sumOf 13 = .ok (.iload_n 1, 1) := by decide +kernel
theorem dX8_sumOf_14 : decode cX8_sumOf 14 = .ok (.iconst 2, 1) := by decide +kernel
theorem dX8_sumOf_15 : decode cX8_sumOf 15 = .ok (.iadd, 1) := by decide +kernel
theorem dX8_sumOf_16 : decode cX8_sumOf 16 = .ok (.iload 4, 2) := by decide +kernel
theorem dX8_sumOf_18 : decode cX8_sumOf 18 = .ok (.iadd, 1) := by decide +kernel
theorem dX8_sumOf_19 : decode cX8_sumOf 19 = .ok (.laload, 1) := by decide +kernel
theorem dX8_sumOf_20 : decode cX8_sumOf 20 = .ok (.invokestatic 187, 3) := by decide +kernel
theorem dX8_sumOf_23 : decode cX8_sumOf 23 = .ok (.lstore 5, 2) := by decide +kernel
theorem dX8_sumOf_25 : decode cX8_sumOf 25 = .ok (.lload 5, 2) := by decide +kernel
theorem dX8_sumOf_27 : decode cX8_sumOf 27 = .ok (.ldc2_w 185, 3) := by decide +kernel
theorem dX8_sumOf_30 : decode cX8_sumOf 30 = .ok (.lload_n 2, 1) := by decide +kernel
theorem dX8_sumOf_31 : decode cX8_sumOf 31 = .ok (.lsub, 1) := by decide +kernel
theorem dX8_sumOf_32 : decode cX8_sumOf 32 = .ok (.lcmp, 1) := by decide +kernel
theorem dX8_sumOf_33 : decode cX8_sumOf 33 = .ok (.ifCond .le 7, 3) := by decide +kernel
theorem dX8_sumOf_36 : decode cX8_sumOf 36 = .ok (.ldc2_w 194, 3) := by decide +kernel
theorem dX8_sumOf_39 : decode cX8_sumOf 39 = .ok (.lreturn, 1) := by decide +kernel
theorem dX8_sumOf_40 : decode cX8_sumOf 40 = .ok (.lload_n 2, 1) := by decide +kernel
theorem dX8_sumOf_41 : decode cX8_sumOf 41 = .ok (.lload 5, 2) := by decide +kernel
theorem dX8_sumOf_43 : decode cX8_sumOf 43 = .ok (.ladd, 1) := by decide +kernel
theorem dX8_sumOf_44 : decode cX8_sumOf 44 = .ok (.lstore_n 2, 1) := by decide +kernel
theorem dX8_sumOf_45 : decode cX8_sumOf 45 = .ok (.iinc 4 1, 3) := by decide +kernel
theorem dX8_sumOf_48 : decode cX8_sumOf 48 = .ok (.goto (-43), 3) := by decide +kernel
theorem dX8_sumOf_51 : decode cX8_sumOf 51 = .ok (.lload_n 2, 1) := by decide +kernel
theorem dX8_sumOf_52 : decode cX8_sumOf 52 = .ok (.lreturn, 1) := by decide +kernel
theorem dX8_isOver_0 : decode cX8_isOver 0 = .ok (.iconst 0, 1) := by decide +kernel
theorem dX8_isOver_1 : decode cX8_isOver 1 = .ok (.istore_n 1, 1) := by decide +kernel
theorem dX8_isOver_2 : decode cX8_isOver 2 = .ok (.iconst 0, 1) := by decide +kernel
theorem dX8_isOver_3 : decode cX8_isOver 3 = .ok (.istore_n 2, 1) := by decide +kernel
theorem dX8_isOver_4 : decode cX8_isOver 4 = .ok (.iload_n 2, 1) := by decide +kernel
theorem dX8_isOver_5 : decode cX8_isOver 5 = .ok (.bipush 30, 2) := by decide +kernel
theorem dX8_isOver_7 : decode cX8_isOver 7 = .ok (.if_icmp .ge 46, 3) := by decide +kernel
theorem dX8_isOver_10 : decode cX8_isOver 10 = .ok (.iload_n 1, 1) := by decide +kernel
theorem dX8_isOver_11 : decode cX8_isOver 11 = .ok (.ifCond .ne 30, 3) := by decide +kernel
theorem dX8_isOver_14 : decode cX8_isOver 14 = .ok (.aload_n 0, 1) := by decide +kernel
theorem dX8_isOver_15 : decode cX8_isOver 15 = .ok (.iload_n 2, 1) := by decide +kernel
theorem dX8_isOver_16 : decode cX8_isOver 16 = .ok (.invokevirtual 175, 3) := by decide +kernel
theorem dX8_isOver_19 : decode cX8_isOver 19 = .ok (.ifCond .eq 26, 3) := by decide +kernel
theorem dX8_isOver_22 : decode cX8_isOver 22 = .ok (.aload_n 0, 1) := by decide +kernel
theorem dX8_isOver_23 : decode cX8_isOver 23 = .ok (.getfield 25, 3) := by decide +kernel
theorem dX8_isOver_26 : decode cX8_isOver 26 = .ok (.bipush 12, 2) := by decide +kernel
theorem dX8_isOver_28 : decode cX8_isOver 28 = .ok (.bipush 10, 2) := by decide +kernel
theorem dX8_isOver_30 : decode cX8_isOver 30 = .ok (.iload_n 2, 1) := by decide +kernel
theorem dX8_isOver_31 : decode cX8_isOver 31 = .ok (.imul, 1) := by decide +kernel
theorem dX8_isOver_32 : decode cX8_isOver 32 = .ok (.iadd, 1) := by decide +kernel
theorem dX8_isOver_33 : decode cX8_isOver 33 = .ok (.invokestatic 196, 3) := by decide +kernel
theorem dX8_isOver_36 : decode cX8_isOver 36 = .ok (.lconst 0, 1) := by decide +kernel
theorem dX8_isOver_37 : decode cX8_isOver 37 = .ok (.lcmp, 1) := by decide +kernel
theorem dX8_isOver_38 : decode cX8_isOver 38 = .ok (.ifCond .ge 7, 3) := by decide +kernel
theorem dX8_isOver_41 : decode cX8_isOver 41 = .ok (.iconst 1, 1) := by decide +kernel
theorem dX8_isOver_42 : decode cX8_isOver 42 = .ok (.goto 4, 3) := by decide +kernel
theorem dX8_isOver_45 : decode cX8_isOver 45 = .ok (.iconst 0, 1) := by decide +kernel
theorem dX8_isOver_46 : decode cX8_isOver 46 = .ok (.istore_n 1, 1) := by decide +kernel
theorem dX8_isOver_47 : decode cX8_isOver 47 = .ok (.iinc 2 1, 3) := by decide +kernel
theorem dX8_isOver_50 : decode cX8_isOver 50 = .ok (.goto (-46), 3) := by decide +kernel
theorem dX8_isOver_53 : decode cX8_isOver 53 = .ok (.iload_n 1, 1) := by decide +kernel
theorem dX8_isOver_54 : decode cX8_isOver 54 = .ok (.ireturn, 1) := by decide +kernel
theorem dX8_slackOf_0 : decode cX8_slackOf 0 = .ok (.lconst 0, 1) := by decide +kernel
theorem dX8_slackOf_1 : decode cX8_slackOf 1 = .ok (.lstore 4, 2) := by decide +kernel
theorem dX8_slackOf_3 : decode cX8_slackOf 3 = .ok (.iconst 0, 1) := by decide +kernel
theorem dX8_slackOf_4 : decode cX8_slackOf 4 = .ok (.istore 6, 2) := by decide +kernel
theorem dX8_slackOf_6 : decode cX8_slackOf 6 = .ok (.iload 6, 2) := by decide +kernel
theorem dX8_slackOf_8 : decode cX8_slackOf 8 = .ok (.bipush 8, 2) := by decide +kernel
theorem dX8_slackOf_10 : decode cX8_slackOf 10 = .ok (.if_icmp .ge 75, 3) := by decide +kernel
theorem dX8_slackOf_13 : decode cX8_slackOf 13 = .ok (.aload_n 0, 1) := by decide +kernel
theorem dX8_slackOf_14 : decode cX8_slackOf 14 = .ok (.iload_n 1, 1) := by decide +kernel
theorem dX8_slackOf_15 : decode cX8_slackOf 15 = .ok (.iconst 2, 1) := by decide +kernel
theorem dX8_slackOf_16 : decode cX8_slackOf 16 = .ok (.iadd, 1) := by decide +kernel
theorem dX8_slackOf_17 : decode cX8_slackOf 17 = .ok (.iload 6, 2) := by decide +kernel
theorem dX8_slackOf_19 : decode cX8_slackOf 19 = .ok (.iadd, 1) := by decide +kernel
theorem dX8_slackOf_20 : decode cX8_slackOf 20 = .ok (.laload, 1) := by decide +kernel
theorem dX8_slackOf_21 : decode cX8_slackOf 21 = .ok (.lstore 7, 2) := by decide +kernel
theorem dX8_slackOf_23 : decode cX8_slackOf 23 = .ok (.iload_n 2, 1) := by decide +kernel
theorem dX8_slackOf_24 : decode cX8_slackOf 24 = .ok (.iload 6, 2) := by decide +kernel
theorem dX8_slackOf_26 : decode cX8_slackOf 26 = .ok (.invokestatic 133, 3) := by decide +kernel
theorem dX8_slackOf_29 : decode cX8_slackOf 29 = .ok (.ifCond .eq 28, 3) := by decide +kernel
theorem dX8_slackOf_32 : decode cX8_slackOf 32 = .ok (.iload_n 3, 1) := by decide +kernel
theorem dX8_slackOf_33 : decode cX8_slackOf 33 = .ok (.iload 6, 2) := by decide +kernel
theorem dX8_slackOf_35 : decode cX8_slackOf 35 = .ok (.invokestatic 133, 3) := by decide +kernel
theorem dX8_slackOf_38 : decode cX8_slackOf 38 = .ok (.lload 7, 2) := by decide +kernel
theorem dX8_slackOf_40 : decode cX8_slackOf 40 = .ok (.lconst 0, 1) := by decide +kernel
theorem dX8_slackOf_41 : decode cX8_slackOf 41 = .ok (.lcmp, 1) := by decide +kernel
theorem dX8_slackOf_42 : decode cX8_slackOf 42 = .ok (.ifCond .ge 7, 3) := by decide +kernel
theorem dX8_slackOf_45 : decode cX8_slackOf 45 = .ok (.iconst 1, 1) := by decide +kernel
theorem dX8_slackOf_46 : decode cX8_slackOf 46 = .ok (.goto 4, 3) := by decide +kernel
theorem dX8_slackOf_49 : decode cX8_slackOf 49 = .ok (.iconst 0, 1) := by decide +kernel
theorem dX8_slackOf_50 : decode cX8_slackOf 50 = .ok (.if_icmp .ne 7, 3) := by decide +kernel
theorem dX8_slackOf_53 : decode cX8_slackOf 53 = .ok (.iconst 1, 1) := by decide +kernel
theorem dX8_slackOf_54 : decode cX8_slackOf 54 = .ok (.goto 4, 3) := by decide +kernel
theorem dX8_slackOf_57 : decode cX8_slackOf 57 = .ok (.iconst 0, 1) := by decide +kernel
theorem dX8_slackOf_58 : decode cX8_slackOf 58 = .ok (.istore 9, 2) := by decide +kernel
theorem dX8_slackOf_60 : decode cX8_slackOf 60 = .ok (.lload 4, 2) := by decide +kernel
theorem dX8_slackOf_62 : decode cX8_slackOf 62 = .ok (.iload 9, 2) := by decide +kernel
theorem dX8_slackOf_64 : decode cX8_slackOf 64 = .ok (.ifCond .eq 7, 3) := by decide +kernel
theorem dX8_slackOf_67 : decode cX8_slackOf 67 = .ok (.lconst 0, 1) := by decide +kernel
theorem dX8_slackOf_68 : decode cX8_slackOf 68 = .ok (.goto 8, 3) := by decide +kernel
theorem dX8_slackOf_71 : decode cX8_slackOf 71 = .ok (.lload 7, 2) := by decide +kernel
theorem dX8_slackOf_73 : decode cX8_slackOf 73 = .ok (.invokestatic 187, 3) := by decide +kernel
theorem dX8_slackOf_76 : decode cX8_slackOf 76 = .ok (.ladd, 1) := by decide +kernel
theorem dX8_slackOf_77 : decode cX8_slackOf 77 = .ok (.lstore 4, 2) := by decide +kernel
theorem dX8_slackOf_79 : decode cX8_slackOf 79 = .ok (.iinc 6 1, 3) := by decide +kernel
theorem dX8_slackOf_82 : decode cX8_slackOf 82 = .ok (.goto (-76), 3) := by decide +kernel
theorem dX8_slackOf_85 : decode cX8_slackOf 85 = .ok (.lload 4, 2) := by decide +kernel
theorem dX8_slackOf_87 : decode cX8_slackOf 87 = .ok (.aload_n 0, 1) := by decide +kernel
theorem dX8_slackOf_88 : decode cX8_slackOf 88 = .ok (.iload_n 1, 1) := by decide +kernel
theorem dX8_slackOf_89 : decode cX8_slackOf 89 = .ok (.iconst 1, 1) := by decide +kernel
theorem dX8_slackOf_90 : decode cX8_slackOf 90 = .ok (.iadd, 1) := by decide +kernel
theorem dX8_slackOf_91 : decode cX8_slackOf 91 = .ok (.laload, 1) := by decide +kernel
theorem dX8_slackOf_92 : decode cX8_slackOf 92 = .ok (.lsub, 1) := by decide +kernel
theorem dX8_slackOf_93 : decode cX8_slackOf 93 = .ok (.lreturn, 1) := by decide +kernel
theorem dX8_forces_0 : decode cX8_forces 0 = .ok (.aload_n 1, 1) := by decide +kernel
theorem dX8_forces_1 : decode cX8_forces 1 = .ok (.iload_n 2, 1) := by decide +kernel
theorem dX8_forces_2 : decode cX8_forces 2 = .ok (.aload_n 0, 1) := by decide +kernel
theorem dX8_forces_3 : decode cX8_forces 3 = .ok (.getfield 200, 3) := by decide +kernel
theorem dX8_forces_6 : decode cX8_forces 6 = .ok (.aload_n 0, 1) := by decide +kernel
theorem dX8_forces_7 : decode cX8_forces 7 = .ok (.getfield 203, 3) := by decide +kernel
theorem dX8_forces_10 : decode cX8_forces 10 = .ok (.invokestatic 206, 3) := by decide +kernel
theorem dX8_forces_13 : decode cX8_forces 13 = .ok (.lstore_n 3, 1) := by decide +kernel
theorem dX8_forces_14 : decode cX8_forces 14 = .ok (.lload_n 3, 1) := by decide +kernel
theorem dX8_forces_15 : decode cX8_forces 15 = .ok (.lconst 0, 1) := by decide +kernel
theorem dX8_forces_16 : decode cX8_forces 16 = .ok (.lcmp, 1) := by decide +kernel
theorem dX8_forces_17 : decode cX8_forces 17 = .ok (.ifCond .ge 5, 3) := by decide +kernel
theorem dX8_forces_20 : decode cX8_forces 20 = .ok (.iconst (-1), 1) := by decide +kernel
theorem dX8_forces_21 : decode cX8_forces 21 = .ok (.ireturn, 1) := by decide +kernel
theorem dX8_forces_22 : decode cX8_forces 22 = .ok (.iconst 0, 1) := by decide +kernel
theorem dX8_forces_23 : decode cX8_forces 23 = .ok (.istore 5, 2) := by decide +kernel
theorem dX8_forces_25 : decode cX8_forces 25 = .ok (.iconst 0, 1) := by decide +kernel
theorem dX8_forces_26 : decode cX8_forces 26 = .ok (.istore 6, 2) := by decide +kernel
theorem dX8_forces_28 : decode cX8_forces 28 = .ok (.iload 6, 2) := by decide +kernel
theorem dX8_forces_30 : decode cX8_forces 30 = .ok (.bipush 8, 2) := by decide +kernel
theorem dX8_forces_32 : decode cX8_forces 32 = .ok (.if_icmp .ge 81, 3) := by decide +kernel
theorem dX8_forces_35 : decode cX8_forces 35 = .ok (.aload_n 1, 1) := by decide +kernel
theorem dX8_forces_36 : decode cX8_forces 36 = .ok (.iload_n 2, 1) := by decide +kernel
theorem dX8_forces_37 : decode cX8_forces 37 = .ok (.iconst 2, 1) := by decide +kernel
theorem dX8_forces_38 : decode cX8_forces 38 = .ok (.iadd, 1) := by decide +kernel
theorem dX8_forces_39 : decode cX8_forces 39 = .ok (.iload 6, 2) := by decide +kernel
theorem dX8_forces_41 : decode cX8_forces 41 = .ok (.iadd, 1) := by decide +kernel
theorem dX8_forces_42 : decode cX8_forces 42 = .ok (.laload, 1) := by decide +kernel
theorem dX8_forces_43 : decode cX8_forces 43 = .ok (.lstore 7, 2) := by decide +kernel
theorem dX8_forces_45 : decode cX8_forces 45 = .ok (.aload_n 0, 1) := by decide +kernel
theorem dX8_forces_46 : decode cX8_forces 46 = .ok (.getfield 200, 3) := by decide +kernel
theorem dX8_forces_49 : decode cX8_forces 49 = .ok (.iload 6, 2) := by decide +kernel
theorem dX8_forces_51 : decode cX8_forces 51 = .ok (.invokestatic 133, 3) := by decide +kernel
theorem dX8_forces_54 : decode cX8_forces 54 = .ok (.ifCond .ne 53, 3) := by decide +kernel
theorem dX8_forces_57 : decode cX8_forces 57 = .ok (.lload 7, 2) := by decide +kernel
theorem dX8_forces_59 : decode cX8_forces 59 = .ok (.invokestatic 187, 3) := by decide +kernel
theorem dX8_forces_62 : decode cX8_forces 62 = .ok (.lload_n 3, 1) := by decide +kernel
theorem dX8_forces_63 : decode cX8_forces 63 = .ok (.lcmp, 1) := by decide +kernel
theorem dX8_forces_64 : decode cX8_forces 64 = .ok (.ifCond .le 43, 3) := by decide +kernel
theorem dX8_forces_67 : decode cX8_forces 67 = .ok (.aload_n 0, 1) := by decide +kernel
theorem dX8_forces_68 : decode cX8_forces 68 = .ok (.dup, 1) := by decide +kernel
theorem dX8_forces_69 : decode cX8_forces 69 = .ok (.getfield 200, 3) := by decide +kernel
theorem dX8_forces_72 : decode cX8_forces 72 = .ok (.iconst 1, 1) := by decide +kernel
theorem dX8_forces_73 : decode cX8_forces 73 = .ok (.iload 6, 2) := by decide +kernel
theorem dX8_forces_75 : decode cX8_forces 75 = .ok (.ishl, 1) := by decide +kernel
theorem dX8_forces_76 : decode cX8_forces 76 = .ok (.ior, 1) := by decide +kernel
theorem dX8_forces_77 : decode cX8_forces 77 = .ok (.putfield 200, 3) := by decide +kernel
theorem dX8_forces_80 : decode cX8_forces 80 = .ok (.aload_n 0, 1) := by decide +kernel
theorem dX8_forces_81 : decode cX8_forces 81 = .ok (.dup, 1) := by decide +kernel
theorem dX8_forces_82 : decode cX8_forces 82 = .ok (.getfield 203, 3) := by decide +kernel
theorem dX8_forces_85 : decode cX8_forces 85 = .ok (.lload 7, 2) := by decide +kernel
theorem dX8_forces_87 : decode cX8_forces 87 = .ok (.lconst 0, 1) := by decide +kernel
theorem dX8_forces_88 : decode cX8_forces 88 = .ok (.lcmp, 1) := by decide +kernel
theorem dX8_forces_89 : decode cX8_forces 89 = .ok (.ifCond .le 10, 3) := by decide +kernel
theorem dX8_forces_92 : decode cX8_forces 92 = .ok (.iconst 1, 1) := by decide +kernel
theorem dX8_forces_93 : decode cX8_forces 93 = .ok (.iload 6, 2) := by decide +kernel
theorem dX8_forces_95 : decode cX8_forces 95 = .ok (.ishl, 1) := by decide +kernel
theorem dX8_forces_96 : decode cX8_forces 96 = .ok (.goto 4, 3) := by decide +kernel
theorem dX8_forces_99 : decode cX8_forces 99 = .ok (.iconst 0, 1) := by decide +kernel
theorem dX8_forces_100 : decode cX8_forces 100 = .ok (.ior, 1) := by decide +kernel
theorem dX8_forces_101 : decode cX8_forces 101 = .ok (.putfield 203, 3) := by decide +kernel
theorem dX8_forces_104 : decode cX8_forces 104 = .ok (.iconst 1, 1) := by decide +kernel
theorem dX8_forces_105 : decode cX8_forces 105 = .ok (.istore 5, 2) := by decide +kernel
theorem dX8_forces_107 : decode cX8_forces 107 = .ok (.iinc 6 1, 3) := by decide +kernel
theorem dX8_forces_110 : decode cX8_forces 110 = .ok (.goto (-82), 3) := by decide +kernel
theorem dX8_forces_113 : decode cX8_forces 113 = .ok (.iload 5, 2) := by decide +kernel
theorem dX8_forces_115 : decode cX8_forces 115 = .ok (.ireturn, 1) := by decide +kernel
theorem dX8_isConflict_0 : decode cX8_isConflict 0 = .ok (.iconst 1, 1) := by decide +kernel
theorem dX8_isConflict_1 : decode cX8_isConflict 1 = .ok (.istore 4, 2) := by decide +kernel
theorem dX8_isConflict_3 : decode cX8_isConflict 3 = .ok (.iload 4, 2) := by decide +kernel
theorem dX8_isConflict_5 : decode cX8_isConflict 5 = .ok (.ifCond .eq 142, 3) := by decide +kernel
theorem dX8_isConflict_8 : decode cX8_isConflict 8 = .ok (.iconst 0, 1) := by decide +kernel
theorem dX8_isConflict_9 : decode cX8_isConflict 9 = .ok (.istore 4, 2) := by decide +kernel
theorem dX8_isConflict_11 : decode cX8_isConflict 11 = .ok (.iconst 0, 1) := by decide +kernel
theorem dX8_isConflict_12 : decode cX8_isConflict 12 = .ok (.istore 5, 2) := by decide +kernel
theorem dX8_isConflict_14 : decode cX8_isConflict 14 = .ok (.iload 5, 2) := by decide +kernel
theorem dX8_isConflict_16 : decode cX8_isConflict 16 = .ok (.bipush 32, 2) := by decide +kernel
theorem dX8_isConflict_18 : decode cX8_isConflict 18 = .ok (.if_icmp .ge 126, 3) := by decide +kernel
theorem dX8_isConflict_21 : decode cX8_isConflict 21 = .ok (.iconst 0, 1) := by decide +kernel
theorem dX8_isConflict_22 : decode cX8_isConflict 22 = .ok (.istore 6, 2) := by decide +kernel
theorem dX8_isConflict_24 : decode cX8_isConflict 24 = .ok (.iload 5, 2) := by decide +kernel
theorem dX8_isConflict_26 : decode cX8_isConflict 26 = .ok (.bipush 30, 2) := by decide +kernel
theorem dX8_isConflict_28 : decode cX8_isConflict 28 = .ok (.if_icmp .ge 39, 3) := by decide +kernel
theorem dX8_isConflict_31 : decode cX8_isConflict 31 = .ok (.iload 5, 2) := by decide +kernel
theorem dX8_isConflict_33 : decode cX8_isConflict 33 = .ok (.iload_n 1, 1) := by decide +kernel
theorem dX8_isConflict_34 : decode cX8_isConflict 34 = .ok (.if_icmp .eq 33, 3) := by decide +kernel
theorem dX8_isConflict_37 : decode cX8_isConflict 37 = .ok (.aload_n 0, 1) := by decide +kernel
theorem dX8_isConflict_38 : decode cX8_isConflict 38 = .ok (.iload 5, 2) := by decide +kernel
theorem dX8_isConflict_40 : decode cX8_isConflict 40 = .ok (.invokevirtual 175, 3) := by decide +kernel
theorem dX8_isConflict_43 : decode cX8_isConflict 43 = .ok (.ifCond .eq 24, 3) := by decide +kernel
theorem dX8_isConflict_46 : decode cX8_isConflict 46 = .ok (.aload_n 0, 1) := by decide +kernel
theorem dX8_isConflict_47 : decode cX8_isConflict 47 = .ok (.aload_n 0, 1) := by decide +kernel
theorem dX8_isConflict_48 : decode cX8_isConflict 48 = .ok (.getfield 25, 3) := by decide +kernel
theorem dX8_isConflict_51 : decode cX8_isConflict 51 = .ok (.bipush 12, 2) := by decide +kernel
theorem dX8_isConflict_53 : decode cX8_isConflict 53 = .ok (.bipush 10, 2) := by decide +kernel
theorem dX8_isConflict_55 : decode cX8_isConflict 55 = .ok (.iload 5, 2) := by decide +kernel
theorem dX8_isConflict_57 : decode cX8_isConflict 57 = .ok (.imul, 1) := by decide +kernel
theorem dX8_isConflict_58 : decode cX8_isConflict 58 = .ok (.iadd, 1) := by decide +kernel
theorem dX8_isConflict_59 : decode cX8_isConflict 59 = .ok (.invokevirtual 210, 3) := by decide +kernel
theorem dX8_isConflict_62 : decode cX8_isConflict 62 = .ok (.istore 6, 2) := by decide +kernel
theorem dX8_isConflict_64 : decode cX8_isConflict 64 = .ok (.goto 50, 3) := by decide +kernel
theorem dX8_isConflict_67 : decode cX8_isConflict 67 = .ok (.iload 5, 2) := by decide +kernel
theorem dX8_isConflict_69 : decode cX8_isConflict 69 = .ok (.bipush 30, 2) := by decide +kernel
theorem dX8_isConflict_71 : decode cX8_isConflict 71 = .ok (.if_icmp .ne 21, 3) := by decide +kernel
theorem dX8_isConflict_74 : decode cX8_isConflict 74 = .ok (.iload_n 2, 1) := by decide +kernel
theorem dX8_isConflict_75 : decode cX8_isConflict 75 = .ok (.ifCond .eq 17, 3) := by decide +kernel
theorem dX8_isConflict_78 : decode cX8_isConflict 78 = .ok (.aload_n 0, 1) := by decide +kernel
theorem dX8_isConflict_79 : decode cX8_isConflict 79 = .ok (.aload_n 0, 1) := by decide +kernel
theorem dX8_isConflict_80 : decode cX8_isConflict 80 = .ok (.getfield 48, 3) := by decide +kernel
theorem dX8_isConflict_83 : decode cX8_isConflict 83 = .ok (.iconst 0, 1) := by decide +kernel
theorem dX8_isConflict_84 : decode cX8_isConflict 84 = .ok (.invokevirtual 210, 3) := by decide +kernel
theorem dX8_isConflict_87 : decode cX8_isConflict 87 = .ok (.istore 6, 2) := by decide +kernel
theorem dX8_isConflict_89 : decode cX8_isConflict 89 = .ok (.goto 25, 3) := by decide +kernel
theorem dX8_isConflict_92 : decode cX8_isConflict 92 = .ok (.iload 5, 2) := by decide +kernel
theorem dX8_isConflict_94 : decode cX8_isConflict 94 = .ok (.bipush 31, 2) := by decide +kernel
theorem dX8_isConflict_96 : decode cX8_isConflict 96 = .ok (.if_icmp .ne 18, 3) := by decide +kernel
theorem dX8_isConflict_99 : decode cX8_isConflict 99 = .ok (.iload_n 3, 1) := by decide +kernel
theorem dX8_isConflict_100 : decode cX8_isConflict 100 = .ok (.ifCond .eq 14, 3) := by decide +kernel
theorem dX8_isConflict_103 : decode cX8_isConflict 103 = .ok (.aload_n 0, 1) := by decide +kernel
theorem dX8_isConflict_104 : decode cX8_isConflict 104 = .ok (.aload_n 0, 1) := by decide +kernel
theorem dX8_isConflict_105 : decode cX8_isConflict 105 = .ok (.getfield 51, 3) := by decide +kernel
theorem dX8_isConflict_108 : decode cX8_isConflict 108 = .ok (.iconst 0, 1) := by decide +kernel
theorem dX8_isConflict_109 : decode cX8_isConflict 109 = .ok (.invokevirtual 210, 3) := by decide +kernel
theorem dX8_isConflict_112 : decode cX8_isConflict 112 = .ok (.istore 6, 2) := by decide +kernel
theorem dX8_isConflict_114 : decode cX8_isConflict 114 = .ok (.iload 6, 2) := by decide +kernel
theorem dX8_isConflict_116 : decode cX8_isConflict 116 = .ok (.ifCond .ge 5, 3) := by decide +kernel
theorem dX8_isConflict_119 : decode cX8_isConflict 119 = .ok (.iconst 1, 1) := by decide +kernel
theorem dX8_isConflict_120 : decode cX8_isConflict 120 = .ok (.ireturn, 1) := by decide +kernel
theorem dX8_isConflict_121 : decode cX8_isConflict 121 = .ok (.iload 4, 2) := by decide +kernel
theorem dX8_isConflict_123 : decode cX8_isConflict 123 = .ok (.ifCond .ne 8, 3) := by decide +kernel
theorem dX8_isConflict_126 : decode cX8_isConflict 126 = .ok (.iload 6, 2) := by decide +kernel
theorem dX8_isConflict_128 : decode cX8_isConflict 128 = .ok (.ifCond .le 7, 3) := by decide +kernel
theorem dX8_isConflict_131 : decode cX8_isConflict 131 = .ok (.iconst 1, 1) := by decide +kernel
theorem dX8_isConflict_132 : decode cX8_isConflict 132 = .ok (.goto 4, 3) := by decide +kernel
theorem dX8_isConflict_135 : decode cX8_isConflict 135 = .ok (.iconst 0, 1) := by decide +kernel
theorem dX8_isConflict_136 : decode cX8_isConflict 136 = .ok (.istore 4, 2) := by decide +kernel
theorem dX8_isConflict_138 : decode cX8_isConflict 138 = .ok (.iinc 5 1, 3) := by decide +kernel
theorem dX8_isConflict_141 : decode cX8_isConflict 141 = .ok (.goto (-127), 3) := by decide +kernel
theorem dX8_isConflict_144 : decode cX8_isConflict 144 = .ok (.goto (-141), 3) := by decide +kernel
theorem dX8_isConflict_147 : decode cX8_isConflict 147 = .ok (.iconst 0, 1) := by decide +kernel
theorem dX8_isConflict_148 : decode cX8_isConflict 148 = .ok (.ireturn, 1) := by decide +kernel
theorem dX8_turns_0 : decode cX8_turns 0 = .ok (.aload_n 0, 1) := by decide +kernel
theorem dX8_turns_1 : decode cX8_turns 1 = .ok (.iload_n 1, 1) := by decide +kernel
theorem dX8_turns_2 : decode cX8_turns 2 = .ok (.invokestatic 196, 3) := by decide +kernel
theorem dX8_turns_5 : decode cX8_turns 5 = .ok (.aload_n 0, 1) := by decide +kernel
theorem dX8_turns_6 : decode cX8_turns 6 = .ok (.iload_n 1, 1) := by decide +kernel
theorem dX8_turns_7 : decode cX8_turns 7 = .ok (.iconst 1, 1) := by decide +kernel
theorem dX8_turns_8 : decode cX8_turns 8 = .ok (.iadd, 1) := by decide +kernel
theorem dX8_turns_9 : decode cX8_turns 9 = .ok (.laload, 1) := by decide +kernel
theorem dX8_turns_10 : decode cX8_turns 10 = .ok (.lsub, 1) := by decide +kernel
theorem dX8_turns_11 : decode cX8_turns 11 = .ok (.lconst 1, 1) := by decide +kernel
theorem dX8_turns_12 : decode cX8_turns 12 = .ok (.ladd, 1) := by decide +kernel
theorem dX8_turns_13 : decode cX8_turns 13 = .ok (.lstore_n 3, 1) := by decide +kernel
theorem dX8_turns_14 : decode cX8_turns 14 = .ok (.aload_n 2, 1) := by decide +kernel
theorem dX8_turns_15 : decode cX8_turns 15 = .ok (.iconst 1, 1) := by decide +kernel
theorem dX8_turns_16 : decode cX8_turns 16 = .ok (.lload_n 3, 1) := by decide +kernel
theorem dX8_turns_17 : decode cX8_turns 17 = .ok (.lconst 0, 1) := by decide +kernel
theorem dX8_turns_18 : decode cX8_turns 18 = .ok (.lcmp, 1) := by decide +kernel
theorem dX8_turns_19 : decode cX8_turns 19 = .ok (.ifCond .ge 7, 3) := by decide +kernel
theorem dX8_turns_22 : decode cX8_turns 22 = .ok (.lconst 0, 1) := by decide +kernel
theorem dX8_turns_23 : decode cX8_turns 23 = .ok (.goto 4, 3) := by decide +kernel
theorem dX8_turns_26 : decode cX8_turns 26 = .ok (.lload_n 3, 1) := by decide +kernel
theorem dX8_turns_27 : decode cX8_turns 27 = .ok (.lastore, 1) := by decide +kernel
theorem dX8_turns_28 : decode cX8_turns 28 = .ok (.iconst 0, 1) := by decide +kernel
theorem dX8_turns_29 : decode cX8_turns 29 = .ok (.istore 5, 2) := by decide +kernel
theorem dX8_turns_31 : decode cX8_turns 31 = .ok (.iload 5, 2) := by decide +kernel
theorem dX8_turns_33 : decode cX8_turns 33 = .ok (.bipush 8, 2) := by decide +kernel
theorem dX8_turns_35 : decode cX8_turns 35 = .ok (.if_icmp .ge 24, 3) := by decide +kernel
theorem dX8_turns_38 : decode cX8_turns 38 = .ok (.aload_n 2, 1) := by decide +kernel
theorem dX8_turns_39 : decode cX8_turns 39 = .ok (.iconst 2, 1) := by decide +kernel
theorem dX8_turns_40 : decode cX8_turns 40 = .ok (.iload 5, 2) := by decide +kernel
theorem dX8_turns_42 : decode cX8_turns 42 = .ok (.iadd, 1) := by decide +kernel
theorem dX8_turns_43 : decode cX8_turns 43 = .ok (.aload_n 0, 1) := by decide +kernel
theorem dX8_turns_44 : decode cX8_turns 44 = .ok (.iload_n 1, 1) := by decide +kernel
theorem dX8_turns_45 : decode cX8_turns 45 = .ok (.iconst 2, 1) := by decide +kernel
theorem dX8_turns_46 : decode cX8_turns 46 = .ok (.iadd, 1) := by decide +kernel
theorem dX8_turns_47 : decode cX8_turns 47 = .ok (.iload 5, 2) := by decide +kernel
theorem dX8_turns_49 : decode cX8_turns 49 = .ok (.iadd, 1) := by decide +kernel
theorem dX8_turns_50 : decode cX8_turns 50 = .ok (.laload, 1) := by decide +kernel
theorem dX8_turns_51 : decode cX8_turns 51 = .ok (.lneg, 1) := by decide +kernel
theorem dX8_turns_52 : decode cX8_turns 52 = .ok (.lastore, 1) := by decide +kernel
theorem dX8_turns_53 : decode cX8_turns 53 = .ok (.iinc 5 1, 3) := by decide +kernel
theorem dX8_turns_56 : decode cX8_turns 56 = .ok (.goto (-25), 3) := by decide +kernel
theorem dX8_turns_59 : decode cX8_turns 59 = .ok (.return_, 1) := by decide +kernel
theorem dX8_isFollowing_0 : decode cX8_isFollowing 0 = .ok (.aload_n 1, 1) := by decide +kernel
theorem dX8_isFollowing_1 : decode cX8_isFollowing 1 = .ok (.iload_n 2, 1) := by decide +kernel
theorem dX8_isFollowing_2 : decode cX8_isFollowing 2 = .ok (.iconst 1, 1) := by decide +kernel
theorem dX8_isFollowing_3 : decode cX8_isFollowing 3 = .ok (.iadd, 1) := by decide +kernel
theorem dX8_isFollowing_4 : decode cX8_isFollowing 4 = .ok (.laload, 1) := by decide +kernel
theorem dX8_isFollowing_5 : decode cX8_isFollowing 5 = .ok (.lconst 0, 1) := by decide +kernel
theorem dX8_isFollowing_6 : decode cX8_isFollowing 6 = .ok (.lcmp, 1) := by decide +kernel
theorem dX8_isFollowing_7 : decode cX8_isFollowing 7 = .ok (.ifCond .ne 5, 3) := by decide +kernel
theorem dX8_isFollowing_10 : decode cX8_isFollowing 10 = .ok (.iconst 1, 1) := by decide +kernel
theorem dX8_isFollowing_11 : decode cX8_isFollowing 11 = .ok (.ireturn, 1) := by decide +kernel
theorem dX8_isFollowing_12 : decode cX8_isFollowing 12 = .ok (.aload_n 1, 1) := by decide +kernel
theorem dX8_isFollowing_13 : decode cX8_isFollowing 13 = .ok (.iload_n 2, 1) := by decide +kernel
theorem dX8_isFollowing_14 : decode cX8_isFollowing 14 = .ok (.aload_n 0, 1) := by decide +kernel
theorem dX8_isFollowing_15 : decode cX8_isFollowing 15 = .ok (.getfield 51, 3) := by decide +kernel
theorem dX8_isFollowing_18 : decode cX8_isFollowing 18 = .ok (.invokestatic 214, 3) := by decide +kernel
theorem dX8_isFollowing_21 : decode cX8_isFollowing 21 = .ok (.aload_n 0, 1) := by decide +kernel
theorem dX8_isFollowing_22 : decode cX8_isFollowing 22 = .ok (.iconst 0, 1) := by decide +kernel
theorem dX8_isFollowing_23 : decode cX8_isFollowing 23 = .ok (.putfield 200, 3) := by decide +kernel
theorem dX8_isFollowing_26 : decode cX8_isFollowing 26 = .ok (.aload_n 0, 1) := by decide +kernel
theorem dX8_isFollowing_27 : decode cX8_isFollowing 27 = .ok (.iconst 0, 1) := by decide +kernel
theorem dX8_isFollowing_28 : decode cX8_isFollowing 28 = .ok (.putfield 203, 3) := by decide +kernel
theorem dX8_isFollowing_31 : decode cX8_isFollowing 31 = .ok (.aload_n 0, 1) := by decide +kernel
theorem dX8_isFollowing_32 : decode cX8_isFollowing 32 = .ok (.iload_n 3, 1) := by decide +kernel
theorem dX8_isFollowing_33 : decode cX8_isFollowing 33 = .ok (.iload 4, 2) := by decide +kernel
theorem dX8_isFollowing_35 : decode cX8_isFollowing 35 = .ok (.iconst 1, 1) := by decide +kernel
theorem dX8_isFollowing_36 : decode cX8_isFollowing 36 = .ok (.invokevirtual 218, 3) := by decide +kernel
theorem dX8_isFollowing_39 : decode cX8_isFollowing 39 = .ok (.ireturn, 1) := by decide +kernel
theorem dX8_claim_0 : decode cX8_claim 0 = .ok (.aload_n 0, 1) := by decide +kernel
theorem dX8_claim_1 : decode cX8_claim 1 = .ok (.invokevirtual 171, 3) := by decide +kernel
theorem dX8_claim_4 : decode cX8_claim 4 = .ok (.ifCond .ne 6, 3) := by decide +kernel
theorem dX8_claim_7 : decode cX8_claim 7 = .ok (.ldc 174, 2) := by decide +kernel
theorem dX8_claim_9 : decode cX8_claim 9 = .ok (.ireturn, 1) := by decide +kernel
theorem dX8_claim_10 : decode cX8_claim 10 = .ok (.aload_n 0, 1) := by decide +kernel
theorem dX8_claim_11 : decode cX8_claim 11 = .ok (.invokevirtual 146, 3) := by decide +kernel
theorem dX8_claim_14 : decode cX8_claim 14 = .ok (.aload_n 0, 1) := by decide +kernel
theorem dX8_claim_15 : decode cX8_claim 15 = .ok (.invokevirtual 151, 3) := by decide +kernel
theorem dX8_claim_18 : decode cX8_claim 18 = .ok (.aload_n 0, 1) := by decide +kernel
theorem dX8_claim_19 : decode cX8_claim 19 = .ok (.aload_n 0, 1) := by decide +kernel
theorem dX8_claim_20 : decode cX8_claim 20 = .ok (.getfield 110, 3) := by decide +kernel
theorem dX8_claim_23 : decode cX8_claim 23 = .ok (.ifCond .ne 7, 3) := by decide +kernel
theorem dX8_claim_26 : decode cX8_claim 26 = .ok (.iconst 1, 1) := by decide +kernel
theorem dX8_claim_27 : decode cX8_claim 27 = .ok (.goto 4, 3) := by decide +kernel
theorem dX8_claim_30 : decode cX8_claim 30 = .ok (.iconst 0, 1) := by decide +kernel
theorem dX8_claim_31 : decode cX8_claim 31 = .ok (.invokevirtual 158, 3) := by decide +kernel
theorem dX8_claim_34 : decode cX8_claim 34 = .ok (.aload_n 0, 1) := by decide +kernel
theorem dX8_claim_35 : decode cX8_claim 35 = .ok (.iconst 0, 1) := by decide +kernel
theorem dX8_claim_36 : decode cX8_claim 36 = .ok (.putfield 94, 3) := by decide +kernel
theorem dX8_claim_39 : decode cX8_claim 39 = .ok (.aload_n 0, 1) := by decide +kernel
theorem dX8_claim_40 : decode cX8_claim 40 = .ok (.invokevirtual 116, 3) := by decide +kernel
theorem dX8_claim_43 : decode cX8_claim 43 = .ok (.ifCond .ne 11, 3) := by decide +kernel
theorem dX8_claim_46 : decode cX8_claim 46 = .ok (.ldc 162, 2) := by decide +kernel
theorem dX8_claim_48 : decode cX8_claim 48 = .ok (.aload_n 0, 1) := by decide +kernel
theorem dX8_claim_49 : decode cX8_claim 49 = .ok (.getfield 113, 3) := by decide +kernel
theorem dX8_claim_52 : decode cX8_claim 52 = .ok (.isub, 1) := by decide +kernel
theorem dX8_claim_53 : decode cX8_claim 53 = .ok (.ireturn, 1) := by decide +kernel
theorem dX8_claim_54 : decode cX8_claim 54 = .ok (.aload_n 0, 1) := by decide +kernel
theorem dX8_claim_55 : decode cX8_claim 55 = .ok (.invokevirtual 178, 3) := by decide +kernel
theorem dX8_claim_58 : decode cX8_claim 58 = .ok (.ifCond .eq 6, 3) := by decide +kernel
theorem dX8_claim_61 : decode cX8_claim 61 = .ok (.ldc 97, 2) := by decide +kernel
theorem dX8_claim_63 : decode cX8_claim 63 = .ok (.ireturn, 1) := by decide +kernel
theorem dX8_claim_64 : decode cX8_claim 64 = .ok (.aload_n 0, 1) := by decide +kernel
theorem dX8_claim_65 : decode cX8_claim 65 = .ok (.invokevirtual 222, 3) := by decide +kernel
theorem dX8_claim_68 : decode cX8_claim 68 = .ok (.ifCond .eq 10, 3) := by decide +kernel
theorem dX8_claim_71 : decode cX8_claim 71 = .ok (.aload_n 0, 1) := by decide +kernel
theorem dX8_claim_72 : decode cX8_claim 72 = .ok (.bipush 6, 2) := by decide +kernel
theorem dX8_claim_74 : decode cX8_claim 74 = .ok (.invokevirtual 77, 3) := by decide +kernel
theorem dX8_claim_77 : decode cX8_claim 77 = .ok (.ireturn, 1) := by decide +kernel
theorem dX8_claim_78 : decode cX8_claim 78 = .ok (.aload_n 0, 1) := by decide +kernel
theorem dX8_claim_79 : decode cX8_claim 79 = .ok (.aload_n 0, 1) := by decide +kernel
theorem dX8_claim_80 : decode cX8_claim 80 = .ok (.aload_n 0, 1) := by decide +kernel
theorem dX8_claim_81 : decode cX8_claim 81 = .ok (.getfield 42, 3) := by decide +kernel
theorem dX8_claim_84 : decode cX8_claim 84 = .ok (.iconst 0, 1) := by decide +kernel
theorem dX8_claim_85 : decode cX8_claim 85 = .ok (.ldc 60, 2) := by decide +kernel
theorem dX8_claim_87 : decode cX8_claim 87 = .ok (.iconst 0, 1) := by decide +kernel
theorem dX8_claim_88 : decode cX8_claim 88 = .ok (.invokevirtual 225, 3) := by decide +kernel
theorem dX8_claim_91 : decode cX8_claim 91 = .ok (.ifCond .eq 11, 3) := by decide +kernel
theorem dX8_claim_94 : decode cX8_claim 94 = .ok (.aload_n 0, 1) := by decide +kernel
theorem dX8_claim_95 : decode cX8_claim 95 = .ok (.iconst 5, 1) := by decide +kernel
theorem dX8_claim_96 : decode cX8_claim 96 = .ok (.invokevirtual 191, 3) := by decide +kernel
theorem dX8_claim_99 : decode cX8_claim 99 = .ok (.goto 5, 3) := by decide +kernel
theorem dX8_claim_102 : decode cX8_claim 102 = .ok (.ldc 60, 2) := by decide +kernel
theorem dX8_claim_104 : decode cX8_claim 104 = .ok (.invokevirtual 81, 3) := by decide +kernel
theorem dX8_claim_107 : decode cX8_claim 107 = .ok (.ireturn, 1) := by decide +kernel
theorem dX8_puts_0 : decode cX8_puts 0 = .ok (.aload_n 0, 1) := by decide +kernel
theorem dX8_puts_1 : decode cX8_puts 1 = .ok (.getfield 16, 3) := by decide +kernel
theorem dX8_puts_4 : decode cX8_puts 4 = .ok (.bipush 40, 2) := by decide +kernel
theorem dX8_puts_6 : decode cX8_puts 6 = .ok (.iload_n 1, 1) := by decide +kernel
theorem dX8_puts_7 : decode cX8_puts 7 = .ok (.imul, 1) := by decide +kernel
theorem dX8_puts_8 : decode cX8_puts 8 = .ok (.iload_n 2, 1) := by decide +kernel
theorem dX8_puts_9 : decode cX8_puts 9 = .ok (.iadd, 1) := by decide +kernel
theorem dX8_puts_10 : decode cX8_puts 10 = .ok (.iaload, 1) := by decide +kernel
theorem dX8_puts_11 : decode cX8_puts 11 = .ok (.istore 5, 2) := by decide +kernel
theorem dX8_puts_13 : decode cX8_puts 13 = .ok (.lload_n 3, 1) := by decide +kernel
theorem dX8_puts_14 : decode cX8_puts 14 = .ok (.lconst 0, 1) := by decide +kernel
theorem dX8_puts_15 : decode cX8_puts 15 = .ok (.lcmp, 1) := by decide +kernel
theorem dX8_puts_16 : decode cX8_puts 16 = .ok (.ifCond .le 7, 3) := by decide +kernel
theorem dX8_puts_19 : decode cX8_puts 19 = .ok (.iconst 1, 1) := by decide +kernel
theorem dX8_puts_20 : decode cX8_puts 20 = .ok (.goto 4, 3) := by decide +kernel
theorem dX8_puts_23 : decode cX8_puts 23 = .ok (.iconst 0, 1) := by decide +kernel
theorem dX8_puts_24 : decode cX8_puts 24 = .ok (.istore 6, 2) := by decide +kernel
theorem dX8_puts_26 : decode cX8_puts 26 = .ok (.iload 5, 2) := by decide +kernel
theorem dX8_puts_28 : decode cX8_puts 28 = .ok (.iconst 2, 1) := by decide +kernel
theorem dX8_puts_29 : decode cX8_puts 29 = .ok (.if_icmp .ge 39, 3) := by decide +kernel
theorem dX8_puts_32 : decode cX8_puts 32 = .ok (.aload_n 0, 1) := by decide +kernel
theorem dX8_puts_33 : decode cX8_puts 33 = .ok (.getfield 45, 3) := by decide +kernel
theorem dX8_puts_36 : decode cX8_puts 36 = .ok (.iconst 1, 1) := by decide +kernel
theorem dX8_puts_37 : decode cX8_puts 37 = .ok (.dup2, 1) := by decide +kernel
theorem dX8_puts_38 : decode cX8_puts 38 = .ok (.laload, 1) := by decide +kernel
theorem dX8_puts_39 : decode cX8_puts 39 = .ok (.iload 5, 2) := by decide +kernel
theorem dX8_puts_41 : decode cX8_puts 41 = .ok (.iconst 1, 1) := by decide +kernel
theorem dX8_puts_42 : decode cX8_puts 42 = .ok (.if_icmp .ne 7, 3) := by decide +kernel
theorem dX8_puts_45 : decode cX8_puts 45 = .ok (.iconst 1, 1) := by decide +kernel
theorem dX8_puts_46 : decode cX8_puts 46 = .ok (.goto 4, 3) := by decide +kernel
theorem dX8_puts_49 : decode cX8_puts 49 = .ok (.iconst 0, 1) := by decide +kernel
theorem dX8_puts_50 : decode cX8_puts 50 = .ok (.iload 6, 2) := by decide +kernel
theorem dX8_puts_52 : decode cX8_puts 52 = .ok (.if_icmp .ne 10, 3) := by decide +kernel
theorem dX8_puts_55 : decode cX8_puts 55 = .ok (.lload_n 3, 1) := by decide +kernel
theorem dX8_puts_56 : decode cX8_puts 56 = .ok (.invokestatic 187, 3) := by decide +kernel
theorem dX8_puts_59 : decode cX8_puts 59 = .ok (.goto 4, 3) := by decide +kernel
theorem dX8_puts_62 : decode cX8_puts 62 = .ok (.lconst 0, 1) := by decide +kernel
theorem dX8_puts_63 : decode cX8_puts 63 = .ok (.lsub, 1) := by decide +kernel
theorem dX8_puts_64 : decode cX8_puts 64 = .ok (.lastore, 1) := by decide +kernel
theorem dX8_puts_65 : decode cX8_puts 65 = .ok (.goto 96, 3) := by decide +kernel
theorem dX8_puts_68 : decode cX8_puts 68 = .ok (.iload 5, 2) := by decide +kernel
theorem dX8_puts_70 : decode cX8_puts 70 = .ok (.bipush 10, 2) := by decide +kernel
theorem dX8_puts_72 : decode cX8_puts 72 = .ok (.if_icmp .ge 10, 3) := by decide +kernel
theorem dX8_puts_75 : decode cX8_puts 75 = .ok (.iload 5, 2) := by decide +kernel
theorem dX8_puts_77 : decode cX8_puts 77 = .ok (.iconst 2, 1) := by decide +kernel
theorem dX8_puts_78 : decode cX8_puts 78 = .ok (.isub, 1) := by decide +kernel
theorem dX8_puts_79 : decode cX8_puts 79 = .ok (.goto 8, 3) := by decide +kernel
theorem dX8_puts_82 : decode cX8_puts 82 = .ok (.iload 5, 2) := by decide +kernel
theorem dX8_puts_84 : decode cX8_puts 84 = .ok (.bipush 10, 2) := by decide +kernel
theorem dX8_puts_86 : decode cX8_puts 86 = .ok (.isub, 1) := by decide +kernel
theorem dX8_puts_87 : decode cX8_puts 87 = .ok (.istore 7, 2) := by decide +kernel
theorem dX8_puts_89 : decode cX8_puts 89 = .ok (.iload 5, 2) := by decide +kernel
theorem dX8_puts_91 : decode cX8_puts 91 = .ok (.bipush 10, 2) := by decide +kernel
theorem dX8_puts_93 : decode cX8_puts 93 = .ok (.if_icmp .ge 7, 3) := by decide +kernel
theorem dX8_puts_96 : decode cX8_puts 96 = .ok (.iconst 1, 1) := by decide +kernel
theorem dX8_puts_97 : decode cX8_puts 97 = .ok (.goto 4, 3) := by decide +kernel
theorem dX8_puts_100 : decode cX8_puts 100 = .ok (.iconst 0, 1) := by decide +kernel
theorem dX8_puts_101 : decode cX8_puts 101 = .ok (.iload 6, 2) := by decide +kernel
theorem dX8_puts_103 : decode cX8_puts 103 = .ok (.if_icmp .ne 7, 3) := by decide +kernel
theorem dX8_puts_106 : decode cX8_puts 106 = .ok (.iconst 1, 1) := by decide +kernel
theorem dX8_puts_107 : decode cX8_puts 107 = .ok (.goto 4, 3) := by decide +kernel
theorem dX8_puts_110 : decode cX8_puts 110 = .ok (.iconst 0, 1) := by decide +kernel
theorem dX8_puts_111 : decode cX8_puts 111 = .ok (.istore 8, 2) := by decide +kernel
theorem dX8_puts_113 : decode cX8_puts 113 = .ok (.aload_n 0, 1) := by decide +kernel
theorem dX8_puts_114 : decode cX8_puts 114 = .ok (.getfield 54, 3) := by decide +kernel
theorem dX8_puts_117 : decode cX8_puts 117 = .ok (.iload 7, 2) := by decide +kernel
theorem dX8_puts_119 : decode cX8_puts 119 = .ok (.dup2, 1) := by decide +kernel
theorem dX8_puts_120 : decode cX8_puts 120 = .ok (.laload, 1) := by decide +kernel
theorem dX8_puts_121 : decode cX8_puts 121 = .ok (.iload 8, 2) := by decide +kernel
theorem dX8_puts_123 : decode cX8_puts 123 = .ok (.ifCond .eq 10, 3) := by decide +kernel
theorem dX8_puts_126 : decode cX8_puts 126 = .ok (.lload_n 3, 1) := by decide +kernel
theorem dX8_puts_127 : decode cX8_puts 127 = .ok (.invokestatic 187, 3) := by decide +kernel
theorem dX8_puts_130 : decode cX8_puts 130 = .ok (.goto 4, 3) := by decide +kernel
theorem dX8_puts_133 : decode cX8_puts 133 = .ok (.lconst 0, 1) := by decide +kernel
theorem dX8_puts_134 : decode cX8_puts 134 = .ok (.ladd, 1) := by decide +kernel
theorem dX8_puts_135 : decode cX8_puts 135 = .ok (.lastore, 1) := by decide +kernel
theorem dX8_puts_136 : decode cX8_puts 136 = .ok (.aload_n 0, 1) := by decide +kernel
theorem dX8_puts_137 : decode cX8_puts 137 = .ok (.getfield 45, 3) := by decide +kernel
theorem dX8_puts_140 : decode cX8_puts 140 = .ok (.iconst 2, 1) := by decide +kernel
theorem dX8_puts_141 : decode cX8_puts 141 = .ok (.iload 7, 2) := by decide +kernel
theorem dX8_puts_143 : decode cX8_puts 143 = .ok (.iadd, 1) := by decide +kernel
theorem dX8_puts_144 : decode cX8_puts 144 = .ok (.dup2, 1) := by decide +kernel
theorem dX8_puts_145 : decode cX8_puts 145 = .ok (.laload, 1) := by decide +kernel
theorem dX8_puts_146 : decode cX8_puts 146 = .ok (.iload 8, 2) := by decide +kernel
theorem dX8_puts_148 : decode cX8_puts 148 = .ok (.ifCond .eq 7, 3) := by decide +kernel
theorem dX8_puts_151 : decode cX8_puts 151 = .ok (.lconst 0, 1) := by decide +kernel
theorem dX8_puts_152 : decode cX8_puts 152 = .ok (.goto 7, 3) := by decide +kernel
theorem dX8_puts_155 : decode cX8_puts 155 = .ok (.lload_n 3, 1) := by decide +kernel
theorem dX8_puts_156 : decode cX8_puts 156 = .ok (.invokestatic 187, 3) := by decide +kernel
theorem dX8_puts_159 : decode cX8_puts 159 = .ok (.ladd, 1) := by decide +kernel
theorem dX8_puts_160 : decode cX8_puts 160 = .ok (.lastore, 1) := by decide +kernel
theorem dX8_puts_161 : decode cX8_puts 161 = .ok (.return_, 1) := by decide +kernel
theorem dX8_putsAll_0 : decode cX8_putsAll 0 = .ok (.iconst 0, 1) := by decide +kernel
theorem dX8_putsAll_1 : decode cX8_putsAll 1 = .ok (.istore 4, 2) := by decide +kernel
theorem dX8_putsAll_3 : decode cX8_putsAll 3 = .ok (.iload 4, 2) := by decide +kernel
theorem dX8_putsAll_5 : decode cX8_putsAll 5 = .ok (.bipush 8, 2) := by decide +kernel
theorem dX8_putsAll_7 : decode cX8_putsAll 7 = .ok (.if_icmp .ge 27, 3) := by decide +kernel
theorem dX8_putsAll_10 : decode cX8_putsAll 10 = .ok (.aload_n 0, 1) := by decide +kernel
theorem dX8_putsAll_11 : decode cX8_putsAll 11 = .ok (.getfield 54, 3) := by decide +kernel
theorem dX8_putsAll_14 : decode cX8_putsAll 14 = .ok (.iload 4, 2) := by decide +kernel
theorem dX8_putsAll_16 : decode cX8_putsAll 16 = .ok (.lconst 0, 1) := by decide +kernel
theorem dX8_putsAll_17 : decode cX8_putsAll 17 = .ok (.lastore, 1) := by decide +kernel
theorem dX8_putsAll_18 : decode cX8_putsAll 18 = .ok (.aload_n 0, 1) := by decide +kernel
theorem dX8_putsAll_19 : decode cX8_putsAll 19 = .ok (.getfield 45, 3) := by decide +kernel
theorem dX8_putsAll_22 : decode cX8_putsAll 22 = .ok (.iconst 2, 1) := by decide +kernel
theorem dX8_putsAll_23 : decode cX8_putsAll 23 = .ok (.iload 4, 2) := by decide +kernel
theorem dX8_putsAll_25 : decode cX8_putsAll 25 = .ok (.iadd, 1) := by decide +kernel
theorem dX8_putsAll_26 : decode cX8_putsAll 26 = .ok (.lconst 0, 1) := by decide +kernel
theorem dX8_putsAll_27 : decode cX8_putsAll 27 = .ok (.lastore, 1) := by decide +kernel
theorem dX8_putsAll_28 : decode cX8_putsAll 28 = .ok (.iinc 4 1, 3) := by decide +kernel
theorem dX8_putsAll_31 : decode cX8_putsAll 31 = .ok (.goto (-28), 3) := by decide +kernel
theorem dX8_putsAll_34 : decode cX8_putsAll 34 = .ok (.aload_n 0, 1) := by decide +kernel
theorem dX8_putsAll_35 : decode cX8_putsAll 35 = .ok (.getfield 45, 3) := by decide +kernel
theorem dX8_putsAll_38 : decode cX8_putsAll 38 = .ok (.iconst 1, 1) := by decide +kernel
theorem dX8_putsAll_39 : decode cX8_putsAll 39 = .ok (.aload_n 1, 1) := by decide +kernel
theorem dX8_putsAll_40 : decode cX8_putsAll 40 = .ok (.iload_n 2, 1) := by decide +kernel
theorem dX8_putsAll_41 : decode cX8_putsAll 41 = .ok (.iconst 1, 1) := by decide +kernel
theorem dX8_putsAll_42 : decode cX8_putsAll 42 = .ok (.iadd, 1) := by decide +kernel
theorem dX8_putsAll_43 : decode cX8_putsAll 43 = .ok (.laload, 1) := by decide +kernel
theorem dX8_putsAll_44 : decode cX8_putsAll 44 = .ok (.lastore, 1) := by decide +kernel
theorem dX8_putsAll_45 : decode cX8_putsAll 45 = .ok (.iconst 0, 1) := by decide +kernel
theorem dX8_putsAll_46 : decode cX8_putsAll 46 = .ok (.istore 4, 2) := by decide +kernel
theorem dX8_putsAll_48 : decode cX8_putsAll 48 = .ok (.iload 4, 2) := by decide +kernel
theorem dX8_putsAll_50 : decode cX8_putsAll 50 = .ok (.bipush 8, 2) := by decide +kernel
theorem dX8_putsAll_52 : decode cX8_putsAll 52 = .ok (.if_icmp .ge 37, 3) := by decide +kernel
theorem dX8_putsAll_55 : decode cX8_putsAll 55 = .ok (.aload_n 1, 1) := by decide +kernel
theorem dX8_putsAll_56 : decode cX8_putsAll 56 = .ok (.iload_n 2, 1) := by decide +kernel
theorem dX8_putsAll_57 : decode cX8_putsAll 57 = .ok (.iconst 2, 1) := by decide +kernel
theorem dX8_putsAll_58 : decode cX8_putsAll 58 = .ok (.iadd, 1) := by decide +kernel
theorem dX8_putsAll_59 : decode cX8_putsAll 59 = .ok (.iload 4, 2) := by decide +kernel
theorem dX8_putsAll_61 : decode cX8_putsAll 61 = .ok (.iadd, 1) := by decide +kernel
theorem dX8_putsAll_62 : decode cX8_putsAll 62 = .ok (.laload, 1) := by decide +kernel
theorem dX8_putsAll_63 : decode cX8_putsAll 63 = .ok (.lconst 0, 1) := by decide +kernel
theorem dX8_putsAll_64 : decode cX8_putsAll 64 = .ok (.lcmp, 1) := by decide +kernel
theorem dX8_putsAll_65 : decode cX8_putsAll 65 = .ok (.ifCond .eq 18, 3) := by decide +kernel
theorem dX8_putsAll_68 : decode cX8_putsAll 68 = .ok (.aload_n 0, 1) := by decide +kernel
theorem dX8_putsAll_69 : decode cX8_putsAll 69 = .ok (.iload_n 3, 1) := by decide +kernel
theorem dX8_putsAll_70 : decode cX8_putsAll 70 = .ok (.iload 4, 2) := by decide +kernel
theorem dX8_putsAll_72 : decode cX8_putsAll 72 = .ok (.aload_n 1, 1) := by decide +kernel
theorem dX8_putsAll_73 : decode cX8_putsAll 73 = .ok (.iload_n 2, 1) := by decide +kernel
theorem dX8_putsAll_74 : decode cX8_putsAll 74 = .ok (.iconst 2, 1) := by decide +kernel
theorem dX8_putsAll_75 : decode cX8_putsAll 75 = .ok (.iadd, 1) := by decide +kernel
theorem dX8_putsAll_76 : decode cX8_putsAll 76 = .ok (.iload 4, 2) := by decide +kernel
theorem dX8_putsAll_78 : decode cX8_putsAll 78 = .ok (.iadd, 1) := by decide +kernel
theorem dX8_putsAll_79 : decode cX8_putsAll 79 = .ok (.laload, 1) := by decide +kernel
theorem dX8_putsAll_80 : decode cX8_putsAll 80 = .ok (.invokevirtual 229, 3) := by decide +kernel
theorem dX8_putsAll_83 : decode cX8_putsAll 83 = .ok (.iinc 4 1, 3) := by decide +kernel
theorem dX8_putsAll_86 : decode cX8_putsAll 86 = .ok (.goto (-38), 3) := by decide +kernel
theorem dX8_putsAll_89 : decode cX8_putsAll 89 = .ok (.iconst 0, 1) := by decide +kernel
theorem dX8_putsAll_90 : decode cX8_putsAll 90 = .ok (.istore 4, 2) := by decide +kernel
theorem dX8_putsAll_92 : decode cX8_putsAll 92 = .ok (.iload 4, 2) := by decide +kernel
theorem dX8_putsAll_94 : decode cX8_putsAll 94 = .ok (.bipush 8, 2) := by decide +kernel
theorem dX8_putsAll_96 : decode cX8_putsAll 96 = .ok (.if_icmp .ge 87, 3) := by decide +kernel
theorem dX8_putsAll_99 : decode cX8_putsAll 99 = .ok (.aload_n 0, 1) := by decide +kernel
theorem dX8_putsAll_100 : decode cX8_putsAll 100 = .ok (.getfield 54, 3) := by decide +kernel
theorem dX8_putsAll_103 : decode cX8_putsAll 103 = .ok (.iload 4, 2) := by decide +kernel
theorem dX8_putsAll_105 : decode cX8_putsAll 105 = .ok (.laload, 1) := by decide +kernel
theorem dX8_putsAll_106 : decode cX8_putsAll 106 = .ok (.aload_n 0, 1) := by decide +kernel
theorem dX8_putsAll_107 : decode cX8_putsAll 107 = .ok (.getfield 45, 3) := by decide +kernel
theorem dX8_putsAll_110 : decode cX8_putsAll 110 = .ok (.iconst 2, 1) := by decide +kernel
theorem dX8_putsAll_111 : decode cX8_putsAll 111 = .ok (.iload 4, 2) := by decide +kernel
theorem dX8_putsAll_113 : decode cX8_putsAll 113 = .ok (.iadd, 1) := by decide +kernel
theorem dX8_putsAll_114 : decode cX8_putsAll 114 = .ok (.laload, 1) := by decide +kernel
theorem dX8_putsAll_115 : decode cX8_putsAll 115 = .ok (.lcmp, 1) := by decide +kernel
theorem dX8_putsAll_116 : decode cX8_putsAll 116 = .ok (.ifCond .ge 13, 3) := by decide +kernel
theorem dX8_putsAll_119 : decode cX8_putsAll 119 = .ok (.aload_n 0, 1) := by decide +kernel
theorem dX8_putsAll_120 : decode cX8_putsAll 120 = .ok (.getfield 54, 3) := by decide +kernel
theorem dX8_putsAll_123 : decode cX8_putsAll 123 = .ok (.iload 4, 2) := by decide +kernel
theorem dX8_putsAll_125 : decode cX8_putsAll 125 = .ok (.laload, 1) := by decide +kernel
theorem dX8_putsAll_126 : decode cX8_putsAll 126 = .ok (.goto 12, 3) := by decide +kernel
theorem dX8_putsAll_129 : decode cX8_putsAll 129 = .ok (.aload_n 0, 1) := by decide +kernel
theorem dX8_putsAll_130 : decode cX8_putsAll 130 = .ok (.getfield 45, 3) := by decide +kernel
theorem dX8_putsAll_133 : decode cX8_putsAll 133 = .ok (.iconst 2, 1) := by decide +kernel
theorem dX8_putsAll_134 : decode cX8_putsAll 134 = .ok (.iload 4, 2) := by decide +kernel
theorem dX8_putsAll_136 : decode cX8_putsAll 136 = .ok (.iadd, 1) := by decide +kernel
theorem dX8_putsAll_137 : decode cX8_putsAll 137 = .ok (.laload, 1) := by decide +kernel
theorem dX8_putsAll_138 : decode cX8_putsAll 138 = .ok (.lstore 5, 2) := by decide +kernel
theorem dX8_putsAll_140 : decode cX8_putsAll 140 = .ok (.aload_n 0, 1) := by decide +kernel
theorem dX8_putsAll_141 : decode cX8_putsAll 141 = .ok (.getfield 45, 3) := by decide +kernel
theorem dX8_putsAll_144 : decode cX8_putsAll 144 = .ok (.iconst 1, 1) := by decide +kernel
theorem dX8_putsAll_145 : decode cX8_putsAll 145 = .ok (.dup2, 1) := by decide +kernel
theorem dX8_putsAll_146 : decode cX8_putsAll 146 = .ok (.laload, 1) := by decide +kernel
theorem dX8_putsAll_147 : decode cX8_putsAll 147 = .ok (.lload 5, 2) := by decide +kernel
theorem dX8_putsAll_149 : decode cX8_putsAll 149 = .ok (.lsub, 1) := by decide +kernel
theorem dX8_putsAll_150 : decode cX8_putsAll 150 = .ok (.lastore, 1) := by decide +kernel
theorem dX8_putsAll_151 : decode cX8_putsAll 151 = .ok (.aload_n 0, 1) := by decide +kernel
theorem dX8_putsAll_152 : decode cX8_putsAll 152 = .ok (.getfield 45, 3) := by decide +kernel
theorem dX8_putsAll_155 : decode cX8_putsAll 155 = .ok (.iconst 2, 1) := by decide +kernel
theorem dX8_putsAll_156 : decode cX8_putsAll 156 = .ok (.iload 4, 2) := by decide +kernel
theorem dX8_putsAll_158 : decode cX8_putsAll 158 = .ok (.iadd, 1) := by decide +kernel
theorem dX8_putsAll_159 : decode cX8_putsAll 159 = .ok (.aload_n 0, 1) := by decide +kernel
theorem dX8_putsAll_160 : decode cX8_putsAll 160 = .ok (.getfield 54, 3) := by decide +kernel
theorem dX8_putsAll_163 : decode cX8_putsAll 163 = .ok (.iload 4, 2) := by decide +kernel
theorem dX8_putsAll_165 : decode cX8_putsAll 165 = .ok (.laload, 1) := by decide +kernel
theorem dX8_putsAll_166 : decode cX8_putsAll 166 = .ok (.aload_n 0, 1) := by decide +kernel
theorem dX8_putsAll_167 : decode cX8_putsAll 167 = .ok (.getfield 45, 3) := by decide +kernel
theorem dX8_putsAll_170 : decode cX8_putsAll 170 = .ok (.iconst 2, 1) := by decide +kernel
theorem dX8_putsAll_171 : decode cX8_putsAll 171 = .ok (.iload 4, 2) := by decide +kernel
theorem dX8_putsAll_173 : decode cX8_putsAll 173 = .ok (.iadd, 1) := by decide +kernel
theorem dX8_putsAll_174 : decode cX8_putsAll 174 = .ok (.laload, 1) := by decide +kernel
theorem dX8_putsAll_175 : decode cX8_putsAll 175 = .ok (.lsub, 1) := by decide +kernel
theorem dX8_putsAll_176 : decode cX8_putsAll 176 = .ok (.lastore, 1) := by decide +kernel
theorem dX8_putsAll_177 : decode cX8_putsAll 177 = .ok (.iinc 4 1, 3) := by decide +kernel
theorem dX8_putsAll_180 : decode cX8_putsAll 180 = .ok (.goto (-88), 3) := by decide +kernel
theorem dX8_putsAll_183 : decode cX8_putsAll 183 = .ok (.aload_n 0, 1) := by decide +kernel
theorem dX8_putsAll_184 : decode cX8_putsAll 184 = .ok (.getfield 45, 3) := by decide +kernel
theorem dX8_putsAll_187 : decode cX8_putsAll 187 = .ok (.iconst 1, 1) := by decide +kernel
theorem dX8_putsAll_188 : decode cX8_putsAll 188 = .ok (.aload_n 0, 1) := by decide +kernel
theorem dX8_putsAll_189 : decode cX8_putsAll 189 = .ok (.getfield 45, 3) := by decide +kernel
theorem dX8_putsAll_192 : decode cX8_putsAll 192 = .ok (.iconst 1, 1) := by decide +kernel
theorem dX8_putsAll_193 : decode cX8_putsAll 193 = .ok (.laload, 1) := by decide +kernel
theorem dX8_putsAll_194 : decode cX8_putsAll 194 = .ok (.lconst 0, 1) := by decide +kernel
theorem dX8_putsAll_195 : decode cX8_putsAll 195 = .ok (.lcmp, 1) := by decide +kernel
theorem dX8_putsAll_196 : decode cX8_putsAll 196 = .ok (.ifCond .ge 7, 3) := by decide +kernel
theorem dX8_putsAll_199 : decode cX8_putsAll 199 = .ok (.lconst 0, 1) := by decide +kernel
theorem dX8_putsAll_200 : decode cX8_putsAll 200 = .ok (.goto 9, 3) := by decide +kernel
theorem dX8_putsAll_203 : decode cX8_putsAll 203 = .ok (.aload_n 0, 1) := by decide +kernel
theorem dX8_putsAll_204 : decode cX8_putsAll 204 = .ok (.getfield 45, 3) := by decide +kernel
theorem dX8_putsAll_207 : decode cX8_putsAll 207 = .ok (.iconst 1, 1) := by decide +kernel
theorem dX8_putsAll_208 : decode cX8_putsAll 208 = .ok (.laload, 1) := by decide +kernel
theorem dX8_putsAll_209 : decode cX8_putsAll 209 = .ok (.lastore, 1) := by decide +kernel
theorem dX8_putsAll_210 : decode cX8_putsAll 210 = .ok (.return_, 1) := by decide +kernel
theorem dX8_pricesPut_0 : decode cX8_pricesPut 0 = .ok (.lconst 0, 1) := by decide +kernel
theorem dX8_pricesPut_1 : decode cX8_pricesPut 1 = .ok (.lstore_n 2, 1) := by decide +kernel
theorem dX8_pricesPut_2 : decode cX8_pricesPut 2 = .ok (.iconst 0, 1) := by decide +kernel
theorem dX8_pricesPut_3 : decode cX8_pricesPut 3 = .ok (.istore 4, 2) := by decide +kernel
theorem dX8_pricesPut_5 : decode cX8_pricesPut 5 = .ok (.iload 4, 2) := by decide +kernel
theorem dX8_pricesPut_7 : decode cX8_pricesPut 7 = .ok (.bipush 8, 2) := by decide +kernel
theorem dX8_pricesPut_9 : decode cX8_pricesPut 9 = .ok (.if_icmp .ge 23, 3) := by decide +kernel
theorem dX8_pricesPut_12 : decode cX8_pricesPut 12 = .ok (.aload_n 0, 1) := by decide +kernel
theorem dX8_pricesPut_13 : decode cX8_pricesPut 13 = .ok (.getfield 54, 3) := by decide +kernel
theorem dX8_pricesPut_16 : decode cX8_pricesPut 16 = .ok (.iload 4, 2) := by decide +kernel
theorem dX8_pricesPut_18 : decode cX8_pricesPut 18 = .ok (.aload_n 0, 1) := by decide +kernel
theorem dX8_pricesPut_19 : decode cX8_pricesPut 19 = .ok (.getfield 25, 3) := by decide +kernel
theorem dX8_pricesPut_22 : decode cX8_pricesPut 22 = .ok (.iload 4, 2) := by decide +kernel
theorem dX8_pricesPut_24 : decode cX8_pricesPut 24 = .ok (.laload, 1) := by decide +kernel
theorem dX8_pricesPut_25 : decode cX8_pricesPut 25 = .ok (.lastore, 1) := by decide +kernel
theorem dX8_pricesPut_26 : decode cX8_pricesPut 26 = .ok (.iinc 4 1, 3) := by decide +kernel
theorem dX8_pricesPut_29 : decode cX8_pricesPut 29 = .ok (.goto (-24), 3) := by decide +kernel
theorem dX8_pricesPut_32 : decode cX8_pricesPut 32 = .ok (.iconst 0, 1) := by decide +kernel
theorem dX8_pricesPut_33 : decode cX8_pricesPut 33 = .ok (.istore 4, 2) := by decide +kernel
theorem dX8_pricesPut_35 : decode cX8_pricesPut 35 = .ok (.iload 4, 2) := by decide +kernel
theorem dX8_pricesPut_37 : decode cX8_pricesPut 37 = .ok (.bipush 8, 2) := by decide +kernel
theorem dX8_pricesPut_39 : decode cX8_pricesPut 39 = .ok (.if_icmp .ge 107, 3) := by decide +kernel
theorem dX8_pricesPut_42 : decode cX8_pricesPut 42 = .ok (.aload_n 0, 1) := by decide +kernel
theorem dX8_pricesPut_43 : decode cX8_pricesPut 43 = .ok (.getfield 16, 3) := by decide +kernel
theorem dX8_pricesPut_46 : decode cX8_pricesPut 46 = .ok (.bipush 40, 2) := by decide +kernel
theorem dX8_pricesPut_48 : decode cX8_pricesPut 48 = .ok (.iload_n 1, 1) := by decide +kernel
theorem dX8_pricesPut_49 : decode cX8_pricesPut 49 = .ok (.imul, 1) := by decide +kernel
theorem dX8_pricesPut_50 : decode cX8_pricesPut 50 = .ok (.iload 4, 2) := by decide +kernel
theorem dX8_pricesPut_52 : decode cX8_pricesPut 52 = .ok (.iadd, 1) := by decide +kernel
theorem dX8_pricesPut_53 : decode cX8_pricesPut 53 = .ok (.iaload, 1) := by decide +kernel
theorem dX8_pricesPut_54 : decode cX8_pricesPut 54 = .ok (.istore 5, 2) := by decide +kernel
theorem dX8_pricesPut_56 : decode cX8_pricesPut 56 = .ok (.iload 5, 2) := by decide +kernel
theorem dX8_pricesPut_58 : decode cX8_pricesPut 58 = .ok (.iconst 1, 1) := by decide +kernel
theorem dX8_pricesPut_59 : decode cX8_pricesPut 59 = .ok (.if_icmp .ne 16, 3) := by decide +kernel
theorem dX8_pricesPut_62 : decode cX8_pricesPut 62 = .ok (.lload_n 2, 1) := by decide +kernel
theorem dX8_pricesPut_63 : decode cX8_pricesPut 63 = .ok (.aload_n 0, 1) := by decide +kernel
theorem dX8_pricesPut_64 : decode cX8_pricesPut 64 = .ok (.getfield 25, 3) := by decide +kernel
theorem dX8_pricesPut_67 : decode cX8_pricesPut 67 = .ok (.iload 4, 2) := by decide +kernel
theorem dX8_pricesPut_69 : decode cX8_pricesPut 69 = .ok (.laload, 1) := by decide +kernel
theorem dX8_pricesPut_70 : decode cX8_pricesPut 70 = .ok (.ladd, 1) := by decide +kernel
theorem dX8_pricesPut_71 : decode cX8_pricesPut 71 = .ok (.lstore_n 2, 1) := by decide +kernel
theorem dX8_pricesPut_72 : decode cX8_pricesPut 72 = .ok (.goto 68, 3) := by decide +kernel
theorem dX8_pricesPut_75 : decode cX8_pricesPut 75 = .ok (.iload 5, 2) := by decide +kernel
theorem dX8_pricesPut_77 : decode cX8_pricesPut 77 = .ok (.bipush 9, 2) := by decide +kernel
theorem dX8_pricesPut_79 : decode cX8_pricesPut 79 = .ok (.if_icmp .le 36, 3) := by decide +kernel
theorem dX8_pricesPut_82 : decode cX8_pricesPut 82 = .ok (.lload_n 2, 1) := by decide +kernel
theorem dX8_pricesPut_83 : decode cX8_pricesPut 83 = .ok (.aload_n 0, 1) := by decide +kernel
theorem dX8_pricesPut_84 : decode cX8_pricesPut 84 = .ok (.getfield 25, 3) := by decide +kernel
theorem dX8_pricesPut_87 : decode cX8_pricesPut 87 = .ok (.iload 4, 2) := by decide +kernel
theorem dX8_pricesPut_89 : decode cX8_pricesPut 89 = .ok (.laload, 1) := by decide +kernel
theorem dX8_pricesPut_90 : decode cX8_pricesPut 90 = .ok (.ladd, 1) := by decide +kernel
theorem dX8_pricesPut_91 : decode cX8_pricesPut 91 = .ok (.lstore_n 2, 1) := by decide +kernel
theorem dX8_pricesPut_92 : decode cX8_pricesPut 92 = .ok (.aload_n 0, 1) := by decide +kernel
theorem dX8_pricesPut_93 : decode cX8_pricesPut 93 = .ok (.getfield 54, 3) := by decide +kernel
theorem dX8_pricesPut_96 : decode cX8_pricesPut 96 = .ok (.iload 5, 2) := by decide +kernel
theorem dX8_pricesPut_98 : decode cX8_pricesPut 98 = .ok (.bipush 10, 2) := by decide +kernel
theorem dX8_pricesPut_100 : decode cX8_pricesPut 100 = .ok (.isub, 1) := by decide +kernel
theorem dX8_pricesPut_101 : decode cX8_pricesPut 101 = .ok (.dup2, 1) := by decide +kernel
theorem dX8_pricesPut_102 : decode cX8_pricesPut 102 = .ok (.laload, 1) := by decide +kernel
theorem dX8_pricesPut_103 : decode cX8_pricesPut 103 = .ok (.aload_n 0, 1) := by decide +kernel
theorem dX8_pricesPut_104 : decode cX8_pricesPut 104 = .ok (.getfield 25, 3) := by decide +kernel
theorem dX8_pricesPut_107 : decode cX8_pricesPut 107 = .ok (.iload 4, 2) := by decide +kernel
theorem dX8_pricesPut_109 : decode cX8_pricesPut 109 = .ok (.laload, 1) := by decide +kernel
theorem dX8_pricesPut_110 : decode cX8_pricesPut 110 = .ok (.ladd, 1) := by decide +kernel
theorem dX8_pricesPut_111 : decode cX8_pricesPut 111 = .ok (.lastore, 1) := by decide +kernel
theorem dX8_pricesPut_112 : decode cX8_pricesPut 112 = .ok (.goto 28, 3) := by decide +kernel
theorem dX8_pricesPut_115 : decode cX8_pricesPut 115 = .ok (.iload 5, 2) := by decide +kernel
theorem dX8_pricesPut_117 : decode cX8_pricesPut 117 = .ok (.iconst 1, 1) := by decide +kernel
theorem dX8_pricesPut_118 : decode cX8_pricesPut 118 = .ok (.if_icmp .le 22, 3) := by decide +kernel
theorem dX8_pricesPut_121 : decode cX8_pricesPut 121 = .ok (.aload_n 0, 1) := by decide +kernel
theorem dX8_pricesPut_122 : decode cX8_pricesPut 122 = .ok (.getfield 54, 3) := by decide +kernel
theorem dX8_pricesPut_125 : decode cX8_pricesPut 125 = .ok (.iload 5, 2) := by decide +kernel
theorem dX8_pricesPut_127 : decode cX8_pricesPut 127 = .ok (.iconst 2, 1) := by decide +kernel
theorem dX8_pricesPut_128 : decode cX8_pricesPut 128 = .ok (.isub, 1) := by decide +kernel
theorem dX8_pricesPut_129 : decode cX8_pricesPut 129 = .ok (.dup2, 1) := by decide +kernel
theorem dX8_pricesPut_130 : decode cX8_pricesPut 130 = .ok (.laload, 1) := by decide +kernel
theorem dX8_pricesPut_131 : decode cX8_pricesPut 131 = .ok (.aload_n 0, 1) := by decide +kernel
theorem dX8_pricesPut_132 : decode cX8_pricesPut 132 = .ok (.getfield 25, 3) := by decide +kernel
theorem dX8_pricesPut_135 : decode cX8_pricesPut 135 = .ok (.iload 4, 2) := by decide +kernel
theorem dX8_pricesPut_137 : decode cX8_pricesPut 137 = .ok (.laload, 1) := by decide +kernel
theorem dX8_pricesPut_138 : decode cX8_pricesPut 138 = .ok (.lsub, 1) := by decide +kernel
theorem dX8_pricesPut_139 : decode cX8_pricesPut 139 = .ok (.lastore, 1) := by decide +kernel
theorem dX8_pricesPut_140 : decode cX8_pricesPut 140 = .ok (.iinc 4 1, 3) := by decide +kernel
theorem dX8_pricesPut_143 : decode cX8_pricesPut 143 = .ok (.goto (-108), 3) := by decide +kernel
theorem dX8_pricesPut_146 : decode cX8_pricesPut 146 = .ok (.iconst 0, 1) := by decide +kernel
theorem dX8_pricesPut_147 : decode cX8_pricesPut 147 = .ok (.istore 4, 2) := by decide +kernel
theorem dX8_pricesPut_149 : decode cX8_pricesPut 149 = .ok (.iload 4, 2) := by decide +kernel
theorem dX8_pricesPut_151 : decode cX8_pricesPut 151 = .ok (.bipush 8, 2) := by decide +kernel
theorem dX8_pricesPut_153 : decode cX8_pricesPut 153 = .ok (.if_icmp .ge 52, 3) := by decide +kernel
theorem dX8_pricesPut_156 : decode cX8_pricesPut 156 = .ok (.aload_n 0, 1) := by decide +kernel
theorem dX8_pricesPut_157 : decode cX8_pricesPut 157 = .ok (.getfield 45, 3) := by decide +kernel
theorem dX8_pricesPut_160 : decode cX8_pricesPut 160 = .ok (.iconst 2, 1) := by decide +kernel
theorem dX8_pricesPut_161 : decode cX8_pricesPut 161 = .ok (.iload 4, 2) := by decide +kernel
theorem dX8_pricesPut_163 : decode cX8_pricesPut 163 = .ok (.iadd, 1) := by decide +kernel
theorem dX8_pricesPut_164 : decode cX8_pricesPut 164 = .ok (.aload_n 0, 1) := by decide +kernel
theorem dX8_pricesPut_165 : decode cX8_pricesPut 165 = .ok (.getfield 54, 3) := by decide +kernel
theorem dX8_pricesPut_168 : decode cX8_pricesPut 168 = .ok (.iload 4, 2) := by decide +kernel
theorem dX8_pricesPut_170 : decode cX8_pricesPut 170 = .ok (.laload, 1) := by decide +kernel
theorem dX8_pricesPut_171 : decode cX8_pricesPut 171 = .ok (.lastore, 1) := by decide +kernel
theorem dX8_pricesPut_172 : decode cX8_pricesPut 172 = .ok (.lload_n 2, 1) := by decide +kernel
theorem dX8_pricesPut_173 : decode cX8_pricesPut 173 = .ok (.aload_n 0, 1) := by decide +kernel
theorem dX8_pricesPut_174 : decode cX8_pricesPut 174 = .ok (.getfield 54, 3) := by decide +kernel
theorem dX8_pricesPut_177 : decode cX8_pricesPut 177 = .ok (.iload 4, 2) := by decide +kernel
theorem dX8_pricesPut_179 : decode cX8_pricesPut 179 = .ok (.laload, 1) := by decide +kernel
theorem dX8_pricesPut_180 : decode cX8_pricesPut 180 = .ok (.lconst 0, 1) := by decide +kernel
theorem dX8_pricesPut_181 : decode cX8_pricesPut 181 = .ok (.lcmp, 1) := by decide +kernel
theorem dX8_pricesPut_182 : decode cX8_pricesPut 182 = .ok (.ifCond .ge 14, 3) := by decide +kernel
theorem dX8_pricesPut_185 : decode cX8_pricesPut 185 = .ok (.aload_n 0, 1) := by decide +kernel
theorem dX8_pricesPut_186 : decode cX8_pricesPut 186 = .ok (.getfield 54, 3) := by decide +kernel
theorem dX8_pricesPut_189 : decode cX8_pricesPut 189 = .ok (.iload 4, 2) := by decide +kernel
theorem dX8_pricesPut_191 : decode cX8_pricesPut 191 = .ok (.laload, 1) := by decide +kernel
theorem dX8_pricesPut_192 : decode cX8_pricesPut 192 = .ok (.lneg, 1) := by decide +kernel
theorem dX8_pricesPut_193 : decode cX8_pricesPut 193 = .ok (.goto 4, 3) := by decide +kernel
theorem dX8_pricesPut_196 : decode cX8_pricesPut 196 = .ok (.lconst 0, 1) := by decide +kernel
theorem dX8_pricesPut_197 : decode cX8_pricesPut 197 = .ok (.ladd, 1) := by decide +kernel
theorem dX8_pricesPut_198 : decode cX8_pricesPut 198 = .ok (.lstore_n 2, 1) := by decide +kernel
theorem dX8_pricesPut_199 : decode cX8_pricesPut 199 = .ok (.iinc 4 1, 3) := by decide +kernel
theorem dX8_pricesPut_202 : decode cX8_pricesPut 202 = .ok (.goto (-53), 3) := by decide +kernel
theorem dX8_pricesPut_205 : decode cX8_pricesPut 205 = .ok (.aload_n 0, 1) := by decide +kernel
theorem dX8_pricesPut_206 : decode cX8_pricesPut 206 = .ok (.getfield 45, 3) := by decide +kernel
theorem dX8_pricesPut_209 : decode cX8_pricesPut 209 = .ok (.iconst 1, 1) := by decide +kernel
theorem dX8_pricesPut_210 : decode cX8_pricesPut 210 = .ok (.lload_n 2, 1) := by decide +kernel
theorem dX8_pricesPut_211 : decode cX8_pricesPut 211 = .ok (.lconst 0, 1) := by decide +kernel
theorem dX8_pricesPut_212 : decode cX8_pricesPut 212 = .ok (.lcmp, 1) := by decide +kernel
theorem dX8_pricesPut_213 : decode cX8_pricesPut 213 = .ok (.ifCond .ge 7, 3) := by decide +kernel
theorem dX8_pricesPut_216 : decode cX8_pricesPut 216 = .ok (.lconst 0, 1) := by decide +kernel
theorem dX8_pricesPut_217 : decode cX8_pricesPut 217 = .ok (.goto 4, 3) := by decide +kernel
theorem dX8_pricesPut_220 : decode cX8_pricesPut 220 = .ok (.lload_n 2, 1) := by decide +kernel
theorem dX8_pricesPut_221 : decode cX8_pricesPut 221 = .ok (.lastore, 1) := by decide +kernel
theorem dX8_pricesPut_222 : decode cX8_pricesPut 222 = .ok (.return_, 1) := by decide +kernel
theorem dX8_allPrices_0 : decode cX8_allPrices 0 = .ok (.lconst 0, 1) := by decide +kernel
theorem dX8_allPrices_1 : decode cX8_allPrices 1 = .ok (.lstore_n 1, 1) := by decide +kernel
theorem dX8_allPrices_2 : decode cX8_allPrices 2 = .ok (.iconst 0, 1) := by decide +kernel
theorem dX8_allPrices_3 : decode cX8_allPrices 3 = .ok (.istore_n 3, 1) := by decide +kernel
theorem dX8_allPrices_4 : decode cX8_allPrices 4 = .ok (.iload_n 3, 1) := by decide +kernel
theorem dX8_allPrices_5 : decode cX8_allPrices 5 = .ok (.bipush 8, 2) := by decide +kernel
theorem dX8_allPrices_7 : decode cX8_allPrices 7 = .ok (.if_icmp .ge 18, 3) := by decide +kernel
theorem dX8_allPrices_10 : decode cX8_allPrices 10 = .ok (.lload_n 1, 1) := by decide +kernel
theorem dX8_allPrices_11 : decode cX8_allPrices 11 = .ok (.aload_n 0, 1) := by decide +kernel
theorem dX8_allPrices_12 : decode cX8_allPrices 12 = .ok (.getfield 25, 3) := by decide +kernel
theorem dX8_allPrices_15 : decode cX8_allPrices 15 = .ok (.iload_n 3, 1) := by decide +kernel
theorem dX8_allPrices_16 : decode cX8_allPrices 16 = .ok (.laload, 1) := by decide +kernel
theorem dX8_allPrices_17 : decode cX8_allPrices 17 = .ok (.ladd, 1) := by decide +kernel
theorem dX8_allPrices_18 : decode cX8_allPrices 18 = .ok (.lstore_n 1, 1) := by decide +kernel
theorem dX8_allPrices_19 : decode cX8_allPrices 19 = .ok (.iinc 3 1, 3) := by decide +kernel
theorem dX8_allPrices_22 : decode cX8_allPrices 22 = .ok (.goto (-18), 3) := by decide +kernel
theorem dX8_allPrices_25 : decode cX8_allPrices 25 = .ok (.lload_n 1, 1) := by decide +kernel
theorem dX8_allPrices_26 : decode cX8_allPrices 26 = .ok (.lreturn, 1) := by decide +kernel
theorem dX8_witness_0 : decode cX8_witness 0 = .ok (.aload_n 0, 1) := by decide +kernel
theorem dX8_witness_1 : decode cX8_witness 1 = .ok (.invokevirtual 171, 3) := by decide +kernel
theorem dX8_witness_4 : decode cX8_witness 4 = .ok (.ifCond .ne 6, 3) := by decide +kernel
theorem dX8_witness_7 : decode cX8_witness 7 = .ok (.ldc 174, 2) := by decide +kernel
theorem dX8_witness_9 : decode cX8_witness 9 = .ok (.ireturn, 1) := by decide +kernel
theorem dX8_witness_10 : decode cX8_witness 10 = .ok (.iload_n 1, 1) := by decide +kernel
theorem dX8_witness_11 : decode cX8_witness 11 = .ok (.invokestatic 72, 3) := by decide +kernel
theorem dX8_witness_14 : decode cX8_witness 14 = .ok (.ifCond .ne 6, 3) := by decide +kernel
theorem dX8_witness_17 : decode cX8_witness 17 = .ok (.ldc 76, 2) := by decide +kernel
theorem dX8_witness_19 : decode cX8_witness 19 = .ok (.ireturn, 1) := by decide +kernel
theorem dX8_witness_20 : decode cX8_witness 20 = .ok (.aload_n 0, 1) := by decide +kernel
theorem dX8_witness_21 : decode cX8_witness 21 = .ok (.iload_n 1, 1) := by decide +kernel
theorem dX8_witness_22 : decode cX8_witness 22 = .ok (.invokevirtual 84, 3) := by decide +kernel
theorem dX8_witness_25 : decode cX8_witness 25 = .ok (.ifCond .eq 9, 3) := by decide +kernel
theorem dX8_witness_28 : decode cX8_witness 28 = .ok (.aload_n 0, 1) := by decide +kernel
theorem dX8_witness_29 : decode cX8_witness 29 = .ok (.iconst 1, 1) := by decide +kernel
theorem dX8_witness_30 : decode cX8_witness 30 = .ok (.invokevirtual 77, 3) := by decide +kernel
theorem dX8_witness_33 : decode cX8_witness 33 = .ok (.ireturn, 1) := by decide +kernel
theorem dX8_witness_34 : decode cX8_witness 34 = .ok (.aload_n 0, 1) := by decide +kernel
theorem dX8_witness_35 : decode cX8_witness 35 = .ok (.iload_n 1, 1) := by decide +kernel
theorem dX8_witness_36 : decode cX8_witness 36 = .ok (.iconst 0, 1) := by decide +kernel
theorem dX8_witness_37 : decode cX8_witness 37 = .ok (.bipush 8, 2) := by decide +kernel
theorem dX8_witness_39 : decode cX8_witness 39 = .ok (.invokevirtual 91, 3) := by decide +kernel
theorem dX8_witness_42 : decode cX8_witness 42 = .ok (.ifCond .ne 9, 3) := by decide +kernel
theorem dX8_witness_45 : decode cX8_witness 45 = .ok (.aload_n 0, 1) := by decide +kernel
theorem dX8_witness_46 : decode cX8_witness 46 = .ok (.iconst 2, 1) := by decide +kernel
theorem dX8_witness_47 : decode cX8_witness 47 = .ok (.invokevirtual 77, 3) := by decide +kernel
theorem dX8_witness_50 : decode cX8_witness 50 = .ok (.ireturn, 1) := by decide +kernel
theorem dX8_witness_51 : decode cX8_witness 51 = .ok (.iconst 0, 1) := by decide +kernel
theorem dX8_witness_52 : decode cX8_witness 52 = .ok (.istore_n 2, 1) := by decide +kernel
theorem dX8_witness_53 : decode cX8_witness 53 = .ok (.iload_n 2, 1) := by decide +kernel
theorem dX8_witness_54 : decode cX8_witness 54 = .ok (.bipush 8, 2) := by decide +kernel
theorem dX8_witness_56 : decode cX8_witness 56 = .ok (.if_icmp .ge 35, 3) := by decide +kernel
theorem dX8_witness_59 : decode cX8_witness 59 = .ok (.aload_n 0, 1) := by decide +kernel
theorem dX8_witness_60 : decode cX8_witness 60 = .ok (.getfield 16, 3) := by decide +kernel
theorem dX8_witness_63 : decode cX8_witness 63 = .ok (.bipush 40, 2) := by decide +kernel
theorem dX8_witness_65 : decode cX8_witness 65 = .ok (.iload_n 1, 1) := by decide +kernel
theorem dX8_witness_66 : decode cX8_witness 66 = .ok (.imul, 1) := by decide +kernel
theorem dX8_witness_67 : decode cX8_witness 67 = .ok (.iload_n 2, 1) := by decide +kernel
theorem dX8_witness_68 : decode cX8_witness 68 = .ok (.iadd, 1) := by decide +kernel
theorem dX8_witness_69 : decode cX8_witness 69 = .ok (.iaload, 1) := by decide +kernel
theorem dX8_witness_70 : decode cX8_witness 70 = .ok (.iconst 0, 1) := by decide +kernel
theorem dX8_witness_71 : decode cX8_witness 71 = .ok (.bipush 17, 2) := by decide +kernel
theorem dX8_witness_73 : decode cX8_witness 73 = .ok (.invokestatic 68, 3) := by decide +kernel
theorem dX8_witness_76 : decode cX8_witness 76 = .ok (.ifCond .ne 9, 3) := by decide +kernel
theorem dX8_witness_79 : decode cX8_witness 79 = .ok (.aload_n 0, 1) := by decide +kernel
theorem dX8_witness_80 : decode cX8_witness 80 = .ok (.iconst 2, 1) := by decide +kernel
theorem dX8_witness_81 : decode cX8_witness 81 = .ok (.invokevirtual 77, 3) := by decide +kernel
theorem dX8_witness_84 : decode cX8_witness 84 = .ok (.ireturn, 1) := by decide +kernel
theorem dX8_witness_85 : decode cX8_witness 85 = .ok (.iinc 2 1, 3) := by decide +kernel
theorem dX8_witness_88 : decode cX8_witness 88 = .ok (.goto (-35), 3) := by decide +kernel
theorem dX8_witness_91 : decode cX8_witness 91 = .ok (.aload_n 0, 1) := by decide +kernel
theorem dX8_witness_92 : decode cX8_witness 92 = .ok (.invokevirtual 146, 3) := by decide +kernel
theorem dX8_witness_95 : decode cX8_witness 95 = .ok (.aload_n 0, 1) := by decide +kernel
theorem dX8_witness_96 : decode cX8_witness 96 = .ok (.invokevirtual 151, 3) := by decide +kernel
theorem dX8_witness_99 : decode cX8_witness 99 = .ok (.aload_n 0, 1) := by decide +kernel
theorem dX8_witness_100 : decode cX8_witness 100 = .ok (.aload_n 0, 1) := by decide +kernel
theorem dX8_witness_101 : decode cX8_witness 101 = .ok (.getfield 110, 3) := by decide +kernel
theorem dX8_witness_104 : decode cX8_witness 104 = .ok (.ifCond .ne 7, 3) := by decide +kernel
theorem dX8_witness_107 : decode cX8_witness 107 = .ok (.iconst 1, 1) := by decide +kernel
theorem dX8_witness_108 : decode cX8_witness 108 = .ok (.goto 4, 3) := by decide +kernel
theorem dX8_witness_111 : decode cX8_witness 111 = .ok (.iconst 0, 1) := by decide +kernel
theorem dX8_witness_112 : decode cX8_witness 112 = .ok (.invokevirtual 158, 3) := by decide +kernel
theorem dX8_witness_115 : decode cX8_witness 115 = .ok (.aload_n 0, 1) := by decide +kernel
theorem dX8_witness_116 : decode cX8_witness 116 = .ok (.iconst 0, 1) := by decide +kernel
theorem dX8_witness_117 : decode cX8_witness 117 = .ok (.putfield 94, 3) := by decide +kernel
theorem dX8_witness_120 : decode cX8_witness 120 = .ok (.aload_n 0, 1) := by decide +kernel
theorem dX8_witness_121 : decode cX8_witness 121 = .ok (.invokevirtual 116, 3) := by decide +kernel
theorem dX8_witness_124 : decode cX8_witness 124 = .ok (.ifCond .ne 11, 3) := by decide +kernel
theorem dX8_witness_127 : decode cX8_witness 127 = .ok (.ldc 162, 2) := by decide +kernel
theorem dX8_witness_129 : decode cX8_witness 129 = .ok (.aload_n 0, 1) := by decide +kernel
theorem dX8_witness_130 : decode cX8_witness 130 = .ok (.getfield 113, 3) := by decide +kernel
theorem dX8_witness_133 : decode cX8_witness 133 = .ok (.isub, 1) := by decide +kernel
theorem dX8_witness_134 : decode cX8_witness 134 = .ok (.ireturn, 1) := by decide +kernel
theorem dX8_witness_135 : decode cX8_witness 135 = .ok (.aload_n 0, 1) := by decide +kernel
theorem dX8_witness_136 : decode cX8_witness 136 = .ok (.invokevirtual 178, 3) := by decide +kernel
theorem dX8_witness_139 : decode cX8_witness 139 = .ok (.ifCond .eq 6, 3) := by decide +kernel
theorem dX8_witness_142 : decode cX8_witness 142 = .ok (.ldc 97, 2) := by decide +kernel
theorem dX8_witness_144 : decode cX8_witness 144 = .ok (.ireturn, 1) := by decide +kernel
theorem dX8_witness_145 : decode cX8_witness 145 = .ok (.aload_n 0, 1) := by decide +kernel
theorem dX8_witness_146 : decode cX8_witness 146 = .ok (.invokevirtual 222, 3) := by decide +kernel
theorem dX8_witness_149 : decode cX8_witness 149 = .ok (.ifCond .eq 10, 3) := by decide +kernel
theorem dX8_witness_152 : decode cX8_witness 152 = .ok (.aload_n 0, 1) := by decide +kernel
theorem dX8_witness_153 : decode cX8_witness 153 = .ok (.bipush 6, 2) := by decide +kernel
theorem dX8_witness_155 : decode cX8_witness 155 = .ok (.invokevirtual 77, 3) := by decide +kernel
theorem dX8_witness_158 : decode cX8_witness 158 = .ok (.ireturn, 1) := by decide +kernel
theorem dX8_witness_159 : decode cX8_witness 159 = .ok (.aload_n 0, 1) := by decide +kernel
theorem dX8_witness_160 : decode cX8_witness 160 = .ok (.getfield 42, 3) := by decide +kernel
theorem dX8_witness_163 : decode cX8_witness 163 = .ok (.iconst 0, 1) := by decide +kernel
theorem dX8_witness_164 : decode cX8_witness 164 = .ok (.aload_n 0, 1) := by decide +kernel
theorem dX8_witness_165 : decode cX8_witness 165 = .ok (.getfield 48, 3) := by decide +kernel
theorem dX8_witness_168 : decode cX8_witness 168 = .ok (.invokestatic 214, 3) := by decide +kernel
theorem dX8_witness_171 : decode cX8_witness 171 = .ok (.iconst 1, 1) := by decide +kernel
theorem dX8_witness_172 : decode cX8_witness 172 = .ok (.istore_n 2, 1) := by decide +kernel
theorem dX8_witness_173 : decode cX8_witness 173 = .ok (.iconst 0, 1) := by decide +kernel
theorem dX8_witness_174 : decode cX8_witness 174 = .ok (.istore_n 3, 1) := by decide +kernel
theorem dX8_witness_175 : decode cX8_witness 175 = .ok (.iload_n 3, 1) := by decide +kernel
theorem dX8_witness_176 : decode cX8_witness 176 = .ok (.bipush 30, 2) := by decide +kernel
theorem dX8_witness_178 : decode cX8_witness 178 = .ok (.if_icmp .ge 50, 3) := by decide +kernel
theorem dX8_witness_181 : decode cX8_witness 181 = .ok (.iload_n 2, 1) := by decide +kernel
theorem dX8_witness_182 : decode cX8_witness 182 = .ok (.ifCond .eq 40, 3) := by decide +kernel
theorem dX8_witness_185 : decode cX8_witness 185 = .ok (.aload_n 0, 1) := by decide +kernel
theorem dX8_witness_186 : decode cX8_witness 186 = .ok (.iload_n 3, 1) := by decide +kernel
theorem dX8_witness_187 : decode cX8_witness 187 = .ok (.invokevirtual 175, 3) := by decide +kernel
theorem dX8_witness_190 : decode cX8_witness 190 = .ok (.ifCond .eq 32, 3) := by decide +kernel
theorem dX8_witness_193 : decode cX8_witness 193 = .ok (.aload_n 0, 1) := by decide +kernel
theorem dX8_witness_194 : decode cX8_witness 194 = .ok (.aload_n 0, 1) := by decide +kernel
theorem dX8_witness_195 : decode cX8_witness 195 = .ok (.getfield 25, 3) := by decide +kernel
theorem dX8_witness_198 : decode cX8_witness 198 = .ok (.bipush 12, 2) := by decide +kernel
theorem dX8_witness_200 : decode cX8_witness 200 = .ok (.bipush 10, 2) := by decide +kernel
theorem dX8_witness_202 : decode cX8_witness 202 = .ok (.iload_n 3, 1) := by decide +kernel
theorem dX8_witness_203 : decode cX8_witness 203 = .ok (.imul, 1) := by decide +kernel
theorem dX8_witness_204 : decode cX8_witness 204 = .ok (.iadd, 1) := by decide +kernel
theorem dX8_witness_205 : decode cX8_witness 205 = .ok (.iload_n 1, 1) := by decide +kernel
theorem dX8_witness_206 : decode cX8_witness 206 = .ok (.invokevirtual 233, 3) := by decide +kernel
theorem dX8_witness_209 : decode cX8_witness 209 = .ok (.aload_n 0, 1) := by decide +kernel
theorem dX8_witness_210 : decode cX8_witness 210 = .ok (.aload_n 0, 1) := by decide +kernel
theorem dX8_witness_211 : decode cX8_witness 211 = .ok (.getfield 45, 3) := by decide +kernel
theorem dX8_witness_214 : decode cX8_witness 214 = .ok (.iconst 0, 1) := by decide +kernel
theorem dX8_witness_215 : decode cX8_witness 215 = .ok (.ldc 60, 2) := by decide +kernel
theorem dX8_witness_217 : decode cX8_witness 217 = .ok (.iconst 1, 1) := by decide +kernel
theorem dX8_witness_218 : decode cX8_witness 218 = .ok (.invokevirtual 225, 3) := by decide +kernel
theorem dX8_witness_221 : decode cX8_witness 221 = .ok (.istore_n 2, 1) := by decide +kernel
theorem dX8_witness_222 : decode cX8_witness 222 = .ok (.iinc 3 1, 3) := by decide +kernel
theorem dX8_witness_225 : decode cX8_witness 225 = .ok (.goto (-50), 3) := by decide +kernel
theorem dX8_witness_228 : decode cX8_witness 228 = .ok (.iload_n 2, 1) := by decide +kernel
theorem dX8_witness_229 : decode cX8_witness 229 = .ok (.ifCond .eq 26, 3) := by decide +kernel
theorem dX8_witness_232 : decode cX8_witness 232 = .ok (.aload_n 0, 1) := by decide +kernel
theorem dX8_witness_233 : decode cX8_witness 233 = .ok (.aload_n 0, 1) := by decide +kernel
theorem dX8_witness_234 : decode cX8_witness 234 = .ok (.getfield 42, 3) := by decide +kernel
theorem dX8_witness_237 : decode cX8_witness 237 = .ok (.iconst 0, 1) := by decide +kernel
theorem dX8_witness_238 : decode cX8_witness 238 = .ok (.iload_n 1, 1) := by decide +kernel
theorem dX8_witness_239 : decode cX8_witness 239 = .ok (.invokevirtual 233, 3) := by decide +kernel
theorem dX8_witness_242 : decode cX8_witness 242 = .ok (.aload_n 0, 1) := by decide +kernel
theorem dX8_witness_243 : decode cX8_witness 243 = .ok (.aload_n 0, 1) := by decide +kernel
theorem dX8_witness_244 : decode cX8_witness 244 = .ok (.getfield 45, 3) := by decide +kernel
theorem dX8_witness_247 : decode cX8_witness 247 = .ok (.iconst 0, 1) := by decide +kernel
theorem dX8_witness_248 : decode cX8_witness 248 = .ok (.ldc 60, 2) := by decide +kernel
theorem dX8_witness_250 : decode cX8_witness 250 = .ok (.iconst 1, 1) := by decide +kernel
theorem dX8_witness_251 : decode cX8_witness 251 = .ok (.invokevirtual 225, 3) := by decide +kernel
theorem dX8_witness_254 : decode cX8_witness 254 = .ok (.istore_n 2, 1) := by decide +kernel
theorem dX8_witness_255 : decode cX8_witness 255 = .ok (.iload_n 2, 1) := by decide +kernel
theorem dX8_witness_256 : decode cX8_witness 256 = .ok (.ifCond .eq 30, 3) := by decide +kernel
theorem dX8_witness_259 : decode cX8_witness 259 = .ok (.aload_n 0, 1) := by decide +kernel
theorem dX8_witness_260 : decode cX8_witness 260 = .ok (.invokevirtual 237, 3) := by decide +kernel
theorem dX8_witness_263 : decode cX8_witness 263 = .ok (.lconst 0, 1) := by decide +kernel
theorem dX8_witness_264 : decode cX8_witness 264 = .ok (.lcmp, 1) := by decide +kernel
theorem dX8_witness_265 : decode cX8_witness 265 = .ok (.ifCond .le 21, 3) := by decide +kernel
theorem dX8_witness_268 : decode cX8_witness 268 = .ok (.aload_n 0, 1) := by decide +kernel
theorem dX8_witness_269 : decode cX8_witness 269 = .ok (.iload_n 1, 1) := by decide +kernel
theorem dX8_witness_270 : decode cX8_witness 270 = .ok (.invokevirtual 241, 3) := by decide +kernel
theorem dX8_witness_273 : decode cX8_witness 273 = .ok (.aload_n 0, 1) := by decide +kernel
theorem dX8_witness_274 : decode cX8_witness 274 = .ok (.aload_n 0, 1) := by decide +kernel
theorem dX8_witness_275 : decode cX8_witness 275 = .ok (.getfield 45, 3) := by decide +kernel
theorem dX8_witness_278 : decode cX8_witness 278 = .ok (.iconst 0, 1) := by decide +kernel
theorem dX8_witness_279 : decode cX8_witness 279 = .ok (.ldc 60, 2) := by decide +kernel
theorem dX8_witness_281 : decode cX8_witness 281 = .ok (.iconst 1, 1) := by decide +kernel
theorem dX8_witness_282 : decode cX8_witness 282 = .ok (.invokevirtual 225, 3) := by decide +kernel
theorem dX8_witness_285 : decode cX8_witness 285 = .ok (.istore_n 2, 1) := by decide +kernel
theorem dX8_witness_286 : decode cX8_witness 286 = .ok (.aload_n 0, 1) := by decide +kernel
theorem dX8_witness_287 : decode cX8_witness 287 = .ok (.iload_n 2, 1) := by decide +kernel
theorem dX8_witness_288 : decode cX8_witness 288 = .ok (.ifCond .eq 11, 3) := by decide +kernel
theorem dX8_witness_291 : decode cX8_witness 291 = .ok (.aload_n 0, 1) := by decide +kernel
theorem dX8_witness_292 : decode cX8_witness 292 = .ok (.iconst 5, 1) := by decide +kernel
theorem dX8_witness_293 : decode cX8_witness 293 = .ok (.invokevirtual 191, 3) := by decide +kernel
theorem dX8_witness_296 : decode cX8_witness 296 = .ok (.goto 5, 3) := by decide +kernel
theorem dX8_witness_299 : decode cX8_witness 299 = .ok (.ldc 60, 2) := by decide +kernel
theorem dX8_witness_301 : decode cX8_witness 301 = .ok (.invokevirtual 81, 3) := by decide +kernel
theorem dX8_witness_304 : decode cX8_witness 304 = .ok (.ireturn, 1) := by decide +kernel
theorem dX8_isHolding_0 : decode cX8_isHolding 0 = .ok (.aload_n 0, 1) := by decide +kernel
theorem dX8_isHolding_1 : decode cX8_isHolding 1 = .ok (.getfield 25, 3) := by decide +kernel
theorem dX8_isHolding_4 : decode cX8_isHolding 4 = .ok (.bipush 12, 2) := by decide +kernel
theorem dX8_isHolding_6 : decode cX8_isHolding 6 = .ok (.bipush 10, 2) := by decide +kernel
theorem dX8_isHolding_8 : decode cX8_isHolding 8 = .ok (.iload_n 1, 1) := by decide +kernel
theorem dX8_isHolding_9 : decode cX8_isHolding 9 = .ok (.imul, 1) := by decide +kernel
theorem dX8_isHolding_10 : decode cX8_isHolding 10 = .ok (.iadd, 1) := by decide +kernel
theorem dX8_isHolding_11 : decode cX8_isHolding 11 = .ok (.sipush 255, 3) := by decide +kernel
theorem dX8_isHolding_14 : decode cX8_isHolding 14 = .ok (.iload_n 2, 1) := by decide +kernel
theorem dX8_isHolding_15 : decode cX8_isHolding 15 = .ok (.invokestatic 206, 3) := by decide +kernel
theorem dX8_isHolding_18 : decode cX8_isHolding 18 = .ok (.lconst 0, 1) := by decide +kernel
theorem dX8_isHolding_19 : decode cX8_isHolding 19 = .ok (.lcmp, 1) := by decide +kernel
theorem dX8_isHolding_20 : decode cX8_isHolding 20 = .ok (.ifCond .lt 7, 3) := by decide +kernel
theorem dX8_isHolding_23 : decode cX8_isHolding 23 = .ok (.iconst 1, 1) := by decide +kernel
theorem dX8_isHolding_24 : decode cX8_isHolding 24 = .ok (.goto 4, 3) := by decide +kernel
theorem dX8_isHolding_27 : decode cX8_isHolding 27 = .ok (.iconst 0, 1) := by decide +kernel
theorem dX8_isHolding_28 : decode cX8_isHolding 28 = .ok (.ireturn, 1) := by decide +kernel
theorem dX8_areHolding_0 : decode cX8_areHolding 0 = .ok (.iconst 1, 1) := by decide +kernel
theorem dX8_areHolding_1 : decode cX8_areHolding 1 = .ok (.istore_n 2, 1) := by decide +kernel
theorem dX8_areHolding_2 : decode cX8_areHolding 2 = .ok (.iconst 0, 1) := by decide +kernel
theorem dX8_areHolding_3 : decode cX8_areHolding 3 = .ok (.istore_n 3, 1) := by decide +kernel
theorem dX8_areHolding_4 : decode cX8_areHolding 4 = .ok (.iload_n 3, 1) := by decide +kernel
theorem dX8_areHolding_5 : decode cX8_areHolding 5 = .ok (.bipush 30, 2) := by decide +kernel
theorem dX8_areHolding_7 : decode cX8_areHolding 7 = .ok (.if_icmp .ge 36, 3) := by decide +kernel
theorem dX8_areHolding_10 : decode cX8_areHolding 10 = .ok (.iload_n 2, 1) := by decide +kernel
theorem dX8_areHolding_11 : decode cX8_areHolding 11 = .ok (.ifCond .eq 24, 3) := by decide +kernel
theorem dX8_areHolding_14 : decode cX8_areHolding 14 = .ok (.aload_n 0, 1) := by decide +kernel
theorem dX8_areHolding_15 : decode cX8_areHolding 15 = .ok (.iload_n 3, 1) := by decide +kernel
theorem dX8_areHolding_16 : decode cX8_areHolding 16 = .ok (.invokevirtual 175, 3) := by decide +kernel
theorem dX8_areHolding_19 : decode cX8_areHolding 19 = .ok (.ifCond .eq 12, 3) := by decide +kernel
theorem dX8_areHolding_22 : decode cX8_areHolding 22 = .ok (.aload_n 0, 1) := by decide +kernel
theorem dX8_areHolding_23 : decode cX8_areHolding 23 = .ok (.iload_n 3, 1) := by decide +kernel
theorem dX8_areHolding_24 : decode cX8_areHolding 24 = .ok (.iload_n 1, 1) := by decide +kernel
theorem dX8_areHolding_25 : decode cX8_areHolding 25 = .ok (.invokevirtual 244, 3) := by decide +kernel
theorem dX8_areHolding_28 : decode cX8_areHolding 28 = .ok (.ifCond .eq 7, 3) := by decide +kernel
theorem dX8_areHolding_31 : decode cX8_areHolding 31 = .ok (.iconst 1, 1) := by decide +kernel
theorem dX8_areHolding_32 : decode cX8_areHolding 32 = .ok (.goto 4, 3) := by decide +kernel
theorem dX8_areHolding_35 : decode cX8_areHolding 35 = .ok (.iconst 0, 1) := by decide +kernel
theorem dX8_areHolding_36 : decode cX8_areHolding 36 = .ok (.istore_n 2, 1) := by decide +kernel
theorem dX8_areHolding_37 : decode cX8_areHolding 37 = .ok (.iinc 3 1, 3) := by decide +kernel
theorem dX8_areHolding_40 : decode cX8_areHolding 40 = .ok (.goto (-36), 3) := by decide +kernel
theorem dX8_areHolding_43 : decode cX8_areHolding 43 = .ok (.iload_n 2, 1) := by decide +kernel
theorem dX8_areHolding_44 : decode cX8_areHolding 44 = .ok (.ireturn, 1) := by decide +kernel
theorem dX8_priceOf_0 : decode cX8_priceOf 0 = .ok (.iconst 0, 1) := by decide +kernel
theorem dX8_priceOf_1 : decode cX8_priceOf 1 = .ok (.istore_n 2, 1) := by decide +kernel
theorem dX8_priceOf_2 : decode cX8_priceOf 2 = .ok (.iconst 0, 1) := by decide +kernel
theorem dX8_priceOf_3 : decode cX8_priceOf 3 = .ok (.istore_n 3, 1) := by decide +kernel
theorem dX8_priceOf_4 : decode cX8_priceOf 4 = .ok (.iload_n 3, 1) := by decide +kernel
theorem dX8_priceOf_5 : decode cX8_priceOf 5 = .ok (.bipush 8, 2) := by decide +kernel
theorem dX8_priceOf_7 : decode cX8_priceOf 7 = .ok (.if_icmp .ge 31, 3) := by decide +kernel
theorem dX8_priceOf_10 : decode cX8_priceOf 10 = .ok (.iload_n 2, 1) := by decide +kernel
theorem dX8_priceOf_11 : decode cX8_priceOf 11 = .ok (.iload_n 1, 1) := by decide +kernel
theorem dX8_priceOf_12 : decode cX8_priceOf 12 = .ok (.iload_n 3, 1) := by decide +kernel
theorem dX8_priceOf_13 : decode cX8_priceOf 13 = .ok (.invokestatic 133, 3) := by decide +kernel
theorem dX8_priceOf_16 : decode cX8_priceOf 16 = .ok (.ifCond .eq 13, 3) := by decide +kernel
theorem dX8_priceOf_19 : decode cX8_priceOf 19 = .ok (.aload_n 0, 1) := by decide +kernel
theorem dX8_priceOf_20 : decode cX8_priceOf 20 = .ok (.getfield 25, 3) := by decide +kernel
theorem dX8_priceOf_23 : decode cX8_priceOf 23 = .ok (.iload_n 3, 1) := by decide +kernel
theorem dX8_priceOf_24 : decode cX8_priceOf 24 = .ok (.laload, 1) := by decide +kernel
theorem dX8_priceOf_25 : decode cX8_priceOf 25 = .ok (.l2i, 1) := by decide +kernel
theorem dX8_priceOf_26 : decode cX8_priceOf 26 = .ok (.goto 4, 3) := by decide +kernel
theorem dX8_priceOf_29 : decode cX8_priceOf 29 = .ok (.iconst 0, 1) := by decide +kernel
theorem dX8_priceOf_30 : decode cX8_priceOf 30 = .ok (.iadd, 1) := by decide +kernel
theorem dX8_priceOf_31 : decode cX8_priceOf 31 = .ok (.istore_n 2, 1) := by decide +kernel
theorem dX8_priceOf_32 : decode cX8_priceOf 32 = .ok (.iinc 3 1, 3) := by decide +kernel
theorem dX8_priceOf_35 : decode cX8_priceOf 35 = .ok (.goto (-31), 3) := by decide +kernel
theorem dX8_priceOf_38 : decode cX8_priceOf 38 = .ok (.iload_n 2, 1) := by decide +kernel
theorem dX8_priceOf_39 : decode cX8_priceOf 39 = .ok (.ireturn, 1) := by decide +kernel
theorem dX8_solution_0 : decode cX8_solution 0 = .ok (.aload_n 0, 1) := by decide +kernel
theorem dX8_solution_1 : decode cX8_solution 1 = .ok (.invokevirtual 171, 3) := by decide +kernel
theorem dX8_solution_4 : decode cX8_solution 4 = .ok (.ifCond .ne 6, 3) := by decide +kernel
theorem dX8_solution_7 : decode cX8_solution 7 = .ok (.ldc 174, 2) := by decide +kernel
theorem dX8_solution_9 : decode cX8_solution 9 = .ok (.ireturn, 1) := by decide +kernel
theorem dX8_solution_10 : decode cX8_solution 10 = .ok (.iload_n 1, 1) := by decide +kernel
theorem dX8_solution_11 : decode cX8_solution 11 = .ok (.iconst 0, 1) := by decide +kernel
theorem dX8_solution_12 : decode cX8_solution 12 = .ok (.sipush 255, 3) := by decide +kernel
theorem dX8_solution_15 : decode cX8_solution 15 = .ok (.invokestatic 68, 3) := by decide +kernel
theorem dX8_solution_18 : decode cX8_solution 18 = .ok (.ifCond .ne 6, 3) := by decide +kernel
theorem dX8_solution_21 : decode cX8_solution 21 = .ok (.ldc 76, 2) := by decide +kernel
theorem dX8_solution_23 : decode cX8_solution 23 = .ok (.ireturn, 1) := by decide +kernel
theorem dX8_solution_24 : decode cX8_solution 24 = .ok (.aload_n 0, 1) := by decide +kernel
theorem dX8_solution_25 : decode cX8_solution 25 = .ok (.invokevirtual 237, 3) := by decide +kernel
theorem dX8_solution_28 : decode cX8_solution 28 = .ok (.lconst 0, 1) := by decide +kernel
theorem dX8_solution_29 : decode cX8_solution 29 = .ok (.lcmp, 1) := by decide +kernel
theorem dX8_solution_30 : decode cX8_solution 30 = .ok (.ifCond .le 7, 3) := by decide +kernel
theorem dX8_solution_33 : decode cX8_solution 33 = .ok (.iconst 1, 1) := by decide +kernel
theorem dX8_solution_34 : decode cX8_solution 34 = .ok (.goto 4, 3) := by decide +kernel
theorem dX8_solution_37 : decode cX8_solution 37 = .ok (.iconst 0, 1) := by decide +kernel
theorem dX8_solution_38 : decode cX8_solution 38 = .ok (.istore_n 2, 1) := by decide +kernel
theorem dX8_solution_39 : decode cX8_solution 39 = .ok (.iload_n 2, 1) := by decide +kernel
theorem dX8_solution_40 : decode cX8_solution 40 = .ok (.ifCond .eq 13, 3) := by decide +kernel
theorem dX8_solution_43 : decode cX8_solution 43 = .ok (.aload_n 0, 1) := by decide +kernel
theorem dX8_solution_44 : decode cX8_solution 44 = .ok (.invokevirtual 178, 3) := by decide +kernel
theorem dX8_solution_47 : decode cX8_solution 47 = .ok (.ifCond .eq 6, 3) := by decide +kernel
theorem dX8_solution_50 : decode cX8_solution 50 = .ok (.ldc 97, 2) := by decide +kernel
theorem dX8_solution_52 : decode cX8_solution 52 = .ok (.ireturn, 1) := by decide +kernel
theorem dX8_solution_53 : decode cX8_solution 53 = .ok (.aload_n 0, 1) := by decide +kernel
theorem dX8_solution_54 : decode cX8_solution 54 = .ok (.invokevirtual 222, 3) := by decide +kernel
theorem dX8_solution_57 : decode cX8_solution 57 = .ok (.ifCond .eq 10, 3) := by decide +kernel
theorem dX8_solution_60 : decode cX8_solution 60 = .ok (.aload_n 0, 1) := by decide +kernel
theorem dX8_solution_61 : decode cX8_solution 61 = .ok (.bipush 6, 2) := by decide +kernel
theorem dX8_solution_63 : decode cX8_solution 63 = .ok (.invokevirtual 77, 3) := by decide +kernel
theorem dX8_solution_66 : decode cX8_solution 66 = .ok (.ireturn, 1) := by decide +kernel
theorem dX8_solution_67 : decode cX8_solution 67 = .ok (.aload_n 0, 1) := by decide +kernel
theorem dX8_solution_68 : decode cX8_solution 68 = .ok (.iload_n 1, 1) := by decide +kernel
theorem dX8_solution_69 : decode cX8_solution 69 = .ok (.invokevirtual 247, 3) := by decide +kernel
theorem dX8_solution_72 : decode cX8_solution 72 = .ok (.ifCond .ne 10, 3) := by decide +kernel
theorem dX8_solution_75 : decode cX8_solution 75 = .ok (.aload_n 0, 1) := by decide +kernel
theorem dX8_solution_76 : decode cX8_solution 76 = .ok (.ldc 60, 2) := by decide +kernel
theorem dX8_solution_78 : decode cX8_solution 78 = .ok (.invokevirtual 81, 3) := by decide +kernel
theorem dX8_solution_81 : decode cX8_solution 81 = .ok (.ireturn, 1) := by decide +kernel
theorem dX8_solution_82 : decode cX8_solution 82 = .ok (.aload_n 0, 1) := by decide +kernel
theorem dX8_solution_83 : decode cX8_solution 83 = .ok (.iload_n 1, 1) := by decide +kernel
theorem dX8_solution_84 : decode cX8_solution 84 = .ok (.invokevirtual 250, 3) := by decide +kernel
theorem dX8_solution_87 : decode cX8_solution 87 = .ok (.istore_n 3, 1) := by decide +kernel
theorem dX8_solution_88 : decode cX8_solution 88 = .ok (.iload_n 2, 1) := by decide +kernel
theorem dX8_solution_89 : decode cX8_solution 89 = .ok (.ifCond .eq 60, 3) := by decide +kernel
theorem dX8_solution_92 : decode cX8_solution 92 = .ok (.aload_n 0, 1) := by decide +kernel
theorem dX8_solution_93 : decode cX8_solution 93 = .ok (.getfield 42, 3) := by decide +kernel
theorem dX8_solution_96 : decode cX8_solution 96 = .ok (.iconst 1, 1) := by decide +kernel
theorem dX8_solution_97 : decode cX8_solution 97 = .ok (.aload_n 0, 1) := by decide +kernel
theorem dX8_solution_98 : decode cX8_solution 98 = .ok (.invokevirtual 237, 3) := by decide +kernel
theorem dX8_solution_101 : decode cX8_solution 101 = .ok (.iload_n 3, 1) := by decide +kernel
theorem dX8_solution_102 : decode cX8_solution 102 = .ok (.i2l, 1) := by decide +kernel
theorem dX8_solution_103 : decode cX8_solution 103 = .ok (.lsub, 1) := by decide +kernel
theorem dX8_solution_104 : decode cX8_solution 104 = .ok (.lconst 1, 1) := by decide +kernel
theorem dX8_solution_105 : decode cX8_solution 105 = .ok (.ladd, 1) := by decide +kernel
theorem dX8_solution_106 : decode cX8_solution 106 = .ok (.lastore, 1) := by decide +kernel
theorem dX8_solution_107 : decode cX8_solution 107 = .ok (.iconst 0, 1) := by decide +kernel
theorem dX8_solution_108 : decode cX8_solution 108 = .ok (.istore 4, 2) := by decide +kernel
theorem dX8_solution_110 : decode cX8_solution 110 = .ok (.iload 4, 2) := by decide +kernel
theorem dX8_solution_112 : decode cX8_solution 112 = .ok (.bipush 8, 2) := by decide +kernel
theorem dX8_solution_114 : decode cX8_solution 114 = .ok (.if_icmp .ge 26, 3) := by decide +kernel
theorem dX8_solution_117 : decode cX8_solution 117 = .ok (.aload_n 0, 1) := by decide +kernel
theorem dX8_solution_118 : decode cX8_solution 118 = .ok (.getfield 42, 3) := by decide +kernel
theorem dX8_solution_121 : decode cX8_solution 121 = .ok (.iconst 2, 1) := by decide +kernel
theorem dX8_solution_122 : decode cX8_solution 122 = .ok (.iload 4, 2) := by decide +kernel
theorem dX8_solution_124 : decode cX8_solution 124 = .ok (.iadd, 1) := by decide +kernel
theorem dX8_solution_125 : decode cX8_solution 125 = .ok (.aload_n 0, 1) := by decide +kernel
theorem dX8_solution_126 : decode cX8_solution 126 = .ok (.getfield 25, 3) := by decide +kernel
theorem dX8_solution_129 : decode cX8_solution 129 = .ok (.iload 4, 2) := by decide +kernel
theorem dX8_solution_131 : decode cX8_solution 131 = .ok (.laload, 1) := by decide +kernel
theorem dX8_solution_132 : decode cX8_solution 132 = .ok (.lneg, 1) := by decide +kernel
theorem dX8_solution_133 : decode cX8_solution 133 = .ok (.lastore, 1) := by decide +kernel
theorem dX8_solution_134 : decode cX8_solution 134 = .ok (.iinc 4 1, 3) := by decide +kernel
theorem dX8_solution_137 : decode cX8_solution 137 = .ok (.goto (-27), 3) := by decide +kernel
theorem dX8_solution_140 : decode cX8_solution 140 = .ok (.aload_n 0, 1) := by decide +kernel
theorem dX8_solution_141 : decode cX8_solution 141 = .ok (.iconst 3, 1) := by decide +kernel
theorem dX8_solution_142 : decode cX8_solution 142 = .ok (.invokevirtual 191, 3) := by decide +kernel
theorem dX8_solution_145 : decode cX8_solution 145 = .ok (.pop, 1) := by decide +kernel
theorem dX8_solution_146 : decode cX8_solution 146 = .ok (.goto 7, 3) := by decide +kernel
theorem dX8_solution_149 : decode cX8_solution 149 = .ok (.aload_n 0, 1) := by decide +kernel
theorem dX8_solution_150 : decode cX8_solution 150 = .ok (.invokevirtual 168, 3) := by decide +kernel
theorem dX8_solution_153 : decode cX8_solution 153 = .ok (.aload_n 0, 1) := by decide +kernel
theorem dX8_solution_154 : decode cX8_solution 154 = .ok (.getfield 25, 3) := by decide +kernel
theorem dX8_solution_157 : decode cX8_solution 157 = .ok (.bipush 8, 2) := by decide +kernel
theorem dX8_solution_159 : decode cX8_solution 159 = .ok (.iload_n 3, 1) := by decide +kernel
theorem dX8_solution_160 : decode cX8_solution 160 = .ok (.i2l, 1) := by decide +kernel
theorem dX8_solution_161 : decode cX8_solution 161 = .ok (.lastore, 1) := by decide +kernel
theorem dX8_solution_162 : decode cX8_solution 162 = .ok (.aload_n 0, 1) := by decide +kernel
theorem dX8_solution_163 : decode cX8_solution 163 = .ok (.iload_n 3, 1) := by decide +kernel
theorem dX8_solution_164 : decode cX8_solution 164 = .ok (.invokevirtual 81, 3) := by decide +kernel
theorem dX8_solution_167 : decode cX8_solution 167 = .ok (.ireturn, 1) := by decide +kernel
theorem dX8_remove_0 : decode cX8_remove 0 = .ok (.aload_n 0, 1) := by decide +kernel
theorem dX8_remove_1 : decode cX8_remove 1 = .ok (.invokevirtual 171, 3) := by decide +kernel
theorem dX8_remove_4 : decode cX8_remove 4 = .ok (.ifCond .ne 6, 3) := by decide +kernel
theorem dX8_remove_7 : decode cX8_remove 7 = .ok (.ldc 174, 2) := by decide +kernel
theorem dX8_remove_9 : decode cX8_remove 9 = .ok (.ireturn, 1) := by decide +kernel
theorem dX8_remove_10 : decode cX8_remove 10 = .ok (.aload_n 0, 1) := by decide +kernel
theorem dX8_remove_11 : decode cX8_remove 11 = .ok (.iload_n 1, 1) := by decide +kernel
theorem dX8_remove_12 : decode cX8_remove 12 = .ok (.invokevirtual 175, 3) := by decide +kernel
theorem dX8_remove_15 : decode cX8_remove 15 = .ok (.ifCond .ne 6, 3) := by decide +kernel
theorem dX8_remove_18 : decode cX8_remove 18 = .ok (.ldc 76, 2) := by decide +kernel
theorem dX8_remove_20 : decode cX8_remove 20 = .ok (.ireturn, 1) := by decide +kernel
theorem dX8_remove_21 : decode cX8_remove 21 = .ok (.aload_n 0, 1) := by decide +kernel
theorem dX8_remove_22 : decode cX8_remove 22 = .ok (.getfield 25, 3) := by decide +kernel
theorem dX8_remove_25 : decode cX8_remove 25 = .ok (.bipush 12, 2) := by decide +kernel
theorem dX8_remove_27 : decode cX8_remove 27 = .ok (.bipush 10, 2) := by decide +kernel
theorem dX8_remove_29 : decode cX8_remove 29 = .ok (.iload_n 1, 1) := by decide +kernel
theorem dX8_remove_30 : decode cX8_remove 30 = .ok (.imul, 1) := by decide +kernel
theorem dX8_remove_31 : decode cX8_remove 31 = .ok (.iadd, 1) := by decide +kernel
theorem dX8_remove_32 : decode cX8_remove 32 = .ok (.laload, 1) := by decide +kernel
theorem dX8_remove_33 : decode cX8_remove 33 = .ok (.ldc2_w 253, 3) := by decide +kernel
theorem dX8_remove_36 : decode cX8_remove 36 = .ok (.lcmp, 1) := by decide +kernel
theorem dX8_remove_37 : decode cX8_remove 37 = .ok (.ifCond .ge 44, 3) := by decide +kernel
theorem dX8_remove_40 : decode cX8_remove 40 = .ok (.aload_n 0, 1) := by decide +kernel
theorem dX8_remove_41 : decode cX8_remove 41 = .ok (.invokevirtual 222, 3) := by decide +kernel
theorem dX8_remove_44 : decode cX8_remove 44 = .ok (.ifCond .eq 10, 3) := by decide +kernel
theorem dX8_remove_47 : decode cX8_remove 47 = .ok (.aload_n 0, 1) := by decide +kernel
theorem dX8_remove_48 : decode cX8_remove 48 = .ok (.bipush 6, 2) := by decide +kernel
theorem dX8_remove_50 : decode cX8_remove 50 = .ok (.invokevirtual 77, 3) := by decide +kernel
theorem dX8_remove_53 : decode cX8_remove 53 = .ok (.ireturn, 1) := by decide +kernel
theorem dX8_remove_54 : decode cX8_remove 54 = .ok (.aload_n 0, 1) := by decide +kernel
theorem dX8_remove_55 : decode cX8_remove 55 = .ok (.aload_n 0, 1) := by decide +kernel
theorem dX8_remove_56 : decode cX8_remove 56 = .ok (.getfield 25, 3) := by decide +kernel
theorem dX8_remove_59 : decode cX8_remove 59 = .ok (.bipush 12, 2) := by decide +kernel
theorem dX8_remove_61 : decode cX8_remove 61 = .ok (.bipush 10, 2) := by decide +kernel
theorem dX8_remove_63 : decode cX8_remove 63 = .ok (.iload_n 1, 1) := by decide +kernel
theorem dX8_remove_64 : decode cX8_remove 64 = .ok (.imul, 1) := by decide +kernel
theorem dX8_remove_65 : decode cX8_remove 65 = .ok (.iadd, 1) := by decide +kernel
theorem dX8_remove_66 : decode cX8_remove 66 = .ok (.iload_n 1, 1) := by decide +kernel
theorem dX8_remove_67 : decode cX8_remove 67 = .ok (.iconst 0, 1) := by decide +kernel
theorem dX8_remove_68 : decode cX8_remove 68 = .ok (.invokevirtual 225, 3) := by decide +kernel
theorem dX8_remove_71 : decode cX8_remove 71 = .ok (.ifCond .ne 10, 3) := by decide +kernel
theorem dX8_remove_74 : decode cX8_remove 74 = .ok (.aload_n 0, 1) := by decide +kernel
theorem dX8_remove_75 : decode cX8_remove 75 = .ok (.ldc 60, 2) := by decide +kernel
theorem dX8_remove_77 : decode cX8_remove 77 = .ok (.invokevirtual 81, 3) := by decide +kernel
theorem dX8_remove_80 : decode cX8_remove 80 = .ok (.ireturn, 1) := by decide +kernel
theorem dX8_remove_81 : decode cX8_remove 81 = .ok (.aload_n 0, 1) := by decide +kernel
theorem dX8_remove_82 : decode cX8_remove 82 = .ok (.invokevirtual 168, 3) := by decide +kernel
theorem dX8_remove_85 : decode cX8_remove 85 = .ok (.aload_n 0, 1) := by decide +kernel
theorem dX8_remove_86 : decode cX8_remove 86 = .ok (.getfield 25, 3) := by decide +kernel
theorem dX8_remove_89 : decode cX8_remove 89 = .ok (.bipush 10, 2) := by decide +kernel
theorem dX8_remove_91 : decode cX8_remove 91 = .ok (.dup2, 1) := by decide +kernel
theorem dX8_remove_92 : decode cX8_remove 92 = .ok (.laload, 1) := by decide +kernel
theorem dX8_remove_93 : decode cX8_remove 93 = .ok (.lconst 1, 1) := by decide +kernel
theorem dX8_remove_94 : decode cX8_remove 94 = .ok (.iload_n 1, 1) := by decide +kernel
theorem dX8_remove_95 : decode cX8_remove 95 = .ok (.lshl, 1) := by decide +kernel
theorem dX8_remove_96 : decode cX8_remove 96 = .ok (.ldc2_w 194, 3) := by decide +kernel
theorem dX8_remove_99 : decode cX8_remove 99 = .ok (.lxor, 1) := by decide +kernel
theorem dX8_remove_100 : decode cX8_remove 100 = .ok (.land, 1) := by decide +kernel
theorem dX8_remove_101 : decode cX8_remove 101 = .ok (.lastore, 1) := by decide +kernel
theorem dX8_remove_102 : decode cX8_remove 102 = .ok (.aload_n 0, 1) := by decide +kernel
theorem dX8_remove_103 : decode cX8_remove 103 = .ok (.aload_n 0, 1) := by decide +kernel
theorem dX8_remove_104 : decode cX8_remove 104 = .ok (.getfield 25, 3) := by decide +kernel
theorem dX8_remove_107 : decode cX8_remove 107 = .ok (.bipush 10, 2) := by decide +kernel
theorem dX8_remove_109 : decode cX8_remove 109 = .ok (.laload, 1) := by decide +kernel
theorem dX8_remove_110 : decode cX8_remove 110 = .ok (.l2i, 1) := by decide +kernel
theorem dX8_remove_111 : decode cX8_remove 111 = .ok (.invokestatic 255, 3) := by decide +kernel
theorem dX8_remove_114 : decode cX8_remove 114 = .ok (.invokevirtual 81, 3) := by decide +kernel
theorem dX8_remove_117 : decode cX8_remove 117 = .ok (.ireturn, 1) := by decide +kernel
theorem dX8_undo_0 : decode cX8_undo 0 = .ok (.aload_n 0, 1) := by decide +kernel
theorem dX8_undo_1 : decode cX8_undo 1 = .ok (.getfield 163, 3) := by decide +kernel
theorem dX8_undo_4 : decode cX8_undo 4 = .ok (.ifCond .ne 6, 3) := by decide +kernel
theorem dX8_undo_7 : decode cX8_undo 7 = .ok (.ldc 174, 2) := by decide +kernel
theorem dX8_undo_9 : decode cX8_undo 9 = .ok (.ireturn, 1) := by decide +kernel
theorem dX8_undo_10 : decode cX8_undo 10 = .ok (.aload_n 0, 1) := by decide +kernel
theorem dX8_undo_11 : decode cX8_undo 11 = .ok (.dup, 1) := by decide +kernel
theorem dX8_undo_12 : decode cX8_undo 12 = .ok (.getfield 163, 3) := by decide +kernel
theorem dX8_undo_15 : decode cX8_undo 15 = .ok (.iconst 1, 1) := by decide +kernel
theorem dX8_undo_16 : decode cX8_undo 16 = .ok (.isub, 1) := by decide +kernel
theorem dX8_undo_17 : decode cX8_undo 17 = .ok (.putfield 163, 3) := by decide +kernel
theorem dX8_undo_20 : decode cX8_undo 20 = .ok (.aload_n 0, 1) := by decide +kernel
theorem dX8_undo_21 : decode cX8_undo 21 = .ok (.getfield 32, 3) := by decide +kernel
theorem dX8_undo_24 : decode cX8_undo 24 = .ok (.sipush 312, 3) := by decide +kernel
theorem dX8_undo_27 : decode cX8_undo 27 = .ok (.aload_n 0, 1) := by decide +kernel
theorem dX8_undo_28 : decode cX8_undo 28 = .ok (.getfield 163, 3) := by decide +kernel
theorem dX8_undo_31 : decode cX8_undo 31 = .ok (.imul, 1) := by decide +kernel
theorem dX8_undo_32 : decode cX8_undo 32 = .ok (.aload_n 0, 1) := by decide +kernel
theorem dX8_undo_33 : decode cX8_undo 33 = .ok (.getfield 25, 3) := by decide +kernel
theorem dX8_undo_36 : decode cX8_undo 36 = .ok (.iconst 0, 1) := by decide +kernel
theorem dX8_undo_37 : decode cX8_undo 37 = .ok (.sipush 312, 3) := by decide +kernel
theorem dX8_undo_40 : decode cX8_undo 40 = .ok (.invokestatic 154, 3) := by decide +kernel
theorem dX8_undo_43 : decode cX8_undo 43 = .ok (.aload_n 0, 1) := by decide +kernel
theorem dX8_undo_44 : decode cX8_undo 44 = .ok (.getfield 163, 3) := by decide +kernel
theorem dX8_undo_47 : decode cX8_undo 47 = .ok (.ireturn, 1) := by decide +kernel
theorem dX8_degree_0 : decode cX8_degree 0 = .ok (.aload_n 0, 1) := by decide +kernel
theorem dX8_degree_1 : decode cX8_degree 1 = .ok (.iload_n 1, 1) := by decide +kernel
theorem dX8_degree_2 : decode cX8_degree 2 = .ok (.invokevirtual 175, 3) := by decide +kernel
theorem dX8_degree_5 : decode cX8_degree 5 = .ok (.ifCond .eq 20, 3) := by decide +kernel
theorem dX8_degree_8 : decode cX8_degree 8 = .ok (.aload_n 0, 1) := by decide +kernel
theorem dX8_degree_9 : decode cX8_degree 9 = .ok (.getfield 25, 3) := by decide +kernel
theorem dX8_degree_12 : decode cX8_degree 12 = .ok (.bipush 12, 2) := by decide +kernel
theorem dX8_degree_14 : decode cX8_degree 14 = .ok (.bipush 10, 2) := by decide +kernel
theorem dX8_degree_16 : decode cX8_degree 16 = .ok (.iload_n 1, 1) := by decide +kernel
theorem dX8_degree_17 : decode cX8_degree 17 = .ok (.imul, 1) := by decide +kernel
theorem dX8_degree_18 : decode cX8_degree 18 = .ok (.iadd, 1) := by decide +kernel
theorem dX8_degree_19 : decode cX8_degree 19 = .ok (.iconst 1, 1) := by decide +kernel
theorem dX8_degree_20 : decode cX8_degree 20 = .ok (.iadd, 1) := by decide +kernel
theorem dX8_degree_21 : decode cX8_degree 21 = .ok (.laload, 1) := by decide +kernel
theorem dX8_degree_22 : decode cX8_degree 22 = .ok (.goto 6, 3) := by decide +kernel
theorem dX8_degree_25 : decode cX8_degree 25 = .ok (.ldc2_w 258, 3) := by decide +kernel
theorem dX8_degree_28 : decode cX8_degree 28 = .ok (.lreturn, 1) := by decide +kernel
theorem dX8_coefficient_0 : decode cX8_coefficient 0 = .ok (.aload_n 0, 1) := by decide +kernel
theorem dX8_coefficient_1 : decode cX8_coefficient 1 = .ok (.iload_n 1, 1) := by decide +kernel
theorem dX8_coefficient_2 : decode cX8_coefficient 2 = .ok (.invokevirtual 175, 3) := by decide +kernel
theorem dX8_coefficient_5 : decode cX8_coefficient 5 = .ok (.ifCond .eq 32, 3) := by decide +kernel
theorem dX8_coefficient_8 : decode cX8_coefficient 8 = .ok (.iload_n 2, 1) := by decide +kernel
theorem dX8_coefficient_9 : decode cX8_coefficient 9 = .ok (.iconst 0, 1) := by decide +kernel
theorem dX8_coefficient_10 : decode cX8_coefficient 10 = .ok (.bipush 7, 2) := by decide +kernel
theorem dX8_coefficient_12 : decode cX8_coefficient 12 = .ok (.invokestatic 68, 3) := by decide +kernel
theorem dX8_coefficient_15 : decode cX8_coefficient 15 = .ok (.ifCond .eq 22, 3) := by decide +kernel
theorem dX8_coefficient_18 : decode cX8_coefficient 18 = .ok (.aload_n 0, 1) := by decide +kernel
theorem dX8_coefficient_19 : decode cX8_coefficient 19 = .ok (.getfield 25, 3) := by decide +kernel
theorem dX8_coefficient_22 : decode cX8_coefficient 22 = .ok (.bipush 12, 2) := by decide +kernel
theorem dX8_coefficient_24 : decode cX8_coefficient 24 = .ok (.bipush 10, 2) := by decide +kernel
theorem dX8_coefficient_26 : decode cX8_coefficient 26 = .ok (.iload_n 1, 1) := by decide +kernel
theorem dX8_coefficient_27 : decode cX8_coefficient 27 = .ok (.imul, 1) := by decide +kernel
theorem dX8_coefficient_28 : decode cX8_coefficient 28 = .ok (.iadd, 1) := by decide +kernel
theorem dX8_coefficient_29 : decode cX8_coefficient 29 = .ok (.iconst 2, 1) := by decide +kernel
theorem dX8_coefficient_30 : decode cX8_coefficient 30 = .ok (.iadd, 1) := by decide +kernel
theorem dX8_coefficient_31 : decode cX8_coefficient 31 = .ok (.iload_n 2, 1) := by decide +kernel
theorem dX8_coefficient_32 : decode cX8_coefficient 32 = .ok (.iadd, 1) := by decide +kernel
theorem dX8_coefficient_33 : decode cX8_coefficient 33 = .ok (.laload, 1) := by decide +kernel
theorem dX8_coefficient_34 : decode cX8_coefficient 34 = .ok (.goto 6, 3) := by decide +kernel
theorem dX8_coefficient_37 : decode cX8_coefficient 37 = .ok (.ldc2_w 258, 3) := by decide +kernel
theorem dX8_coefficient_40 : decode cX8_coefficient 40 = .ok (.lreturn, 1) := by decide +kernel
theorem dX8_sum_0 : decode cX8_sum 0 = .ok (.aload_n 0, 1) := by decide +kernel
theorem dX8_sum_1 : decode cX8_sum 1 = .ok (.iload_n 1, 1) := by decide +kernel
theorem dX8_sum_2 : decode cX8_sum 2 = .ok (.invokevirtual 175, 3) := by decide +kernel
theorem dX8_sum_5 : decode cX8_sum 5 = .ok (.ifCond .ne 7, 3) := by decide +kernel
theorem dX8_sum_8 : decode cX8_sum 8 = .ok (.ldc2_w 258, 3) := by decide +kernel
theorem dX8_sum_11 : decode cX8_sum 11 = .ok (.lreturn, 1) := by decide +kernel
theorem dX8_sum_12 : decode cX8_sum 12 = .ok (.aload_n 0, 1) := by decide +kernel
theorem dX8_sum_13 : decode cX8_sum 13 = .ok (.getfield 25, 3) := by decide +kernel
theorem dX8_sum_16 : decode cX8_sum 16 = .ok (.bipush 12, 2) := by decide +kernel
theorem dX8_sum_18 : decode cX8_sum 18 = .ok (.bipush 10, 2) := by decide +kernel
theorem dX8_sum_20 : decode cX8_sum 20 = .ok (.iload_n 1, 1) := by decide +kernel
theorem dX8_sum_21 : decode cX8_sum 21 = .ok (.imul, 1) := by decide +kernel
theorem dX8_sum_22 : decode cX8_sum 22 = .ok (.iadd, 1) := by decide +kernel
theorem dX8_sum_23 : decode cX8_sum 23 = .ok (.invokestatic 196, 3) := by decide +kernel
theorem dX8_sum_26 : decode cX8_sum 26 = .ok (.lstore_n 2, 1) := by decide +kernel
theorem dX8_sum_27 : decode cX8_sum 27 = .ok (.lload_n 2, 1) := by decide +kernel
theorem dX8_sum_28 : decode cX8_sum 28 = .ok (.lconst 0, 1) := by decide +kernel
theorem dX8_sum_29 : decode cX8_sum 29 = .ok (.lcmp, 1) := by decide +kernel
theorem dX8_sum_30 : decode cX8_sum 30 = .ok (.ifCond .ge 11, 3) := by decide +kernel

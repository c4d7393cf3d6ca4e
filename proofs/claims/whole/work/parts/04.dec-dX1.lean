theorem dX1_init_0 : decode cX1_init 0 = .ok (.aload_n 0, 1) := by decide +kernel
theorem dX1_init_1 : decode cX1_init 1 = .ok (.invokespecial 1, 3) := by decide +kernel
theorem dX1_init_4 : decode cX1_init 4 = .ok (.aload_n 0, 1) := by decide +kernel
theorem dX1_init_5 : decode cX1_init 5 = .ok (.sipush 6144, 3) := by decide +kernel
theorem dX1_init_8 : decode cX1_init 8 = .ok (.newarray .int, 2) := by decide +kernel
theorem dX1_init_10 : decode cX1_init 10 = .ok (.putfield 7, 3) := by decide +kernel
theorem dX1_init_13 : decode cX1_init 13 = .ok (.aload_n 0, 1) := by decide +kernel
theorem dX1_init_14 : decode cX1_init 14 = .ok (.bipush 64, 2) := by decide +kernel
theorem dX1_init_16 : decode cX1_init 16 = .ok (.newarray .int, 2) := by decide +kernel
theorem dX1_init_18 : decode cX1_init 18 = .ok (.putfield 13, 3) := by decide +kernel
theorem dX1_init_21 : decode cX1_init 21 = .ok (.aload_n 0, 1) := by decide +kernel
theorem dX1_init_22 : decode cX1_init 22 = .ok (.bipush 24, 2) := by decide +kernel
theorem dX1_init_24 : decode cX1_init 24 = .ok (.newarray .int, 2) := by decide +kernel
theorem dX1_init_26 : decode cX1_init 26 = .ok (.putfield 16, 3) := by decide +kernel
theorem dX1_init_29 : decode cX1_init 29 = .ok (.aload_n 0, 1) := by decide +kernel
theorem dX1_init_30 : decode cX1_init 30 = .ok (.sipush 1536, 3) := by decide +kernel
theorem dX1_init_33 : decode cX1_init 33 = .ok (.newarray .int, 2) := by decide +kernel
theorem dX1_init_35 : decode cX1_init 35 = .ok (.putfield 19, 3) := by decide +kernel
theorem dX1_init_38 : decode cX1_init 38 = .ok (.aload_n 0, 1) := by decide +kernel
theorem dX1_init_39 : decode cX1_init 39 = .ok (.ldc2_w 22, 3) := by decide +kernel
theorem dX1_init_42 : decode cX1_init 42 = .ok (.putfield 24, 3) := by decide +kernel
theorem dX1_init_45 : decode cX1_init 45 = .ok (.aload_n 0, 1) := by decide +kernel
theorem dX1_init_46 : decode cX1_init 46 = .ok (.bipush 64, 2) := by decide +kernel
theorem dX1_init_48 : decode cX1_init 48 = .ok (.newarray .int, 2) := by decide +kernel
theorem dX1_init_50 : decode cX1_init 50 = .ok (.putfield 28, 3) := by decide +kernel
theorem dX1_init_53 : decode cX1_init 53 = .ok (.return_, 1) := by decide +kernel
theorem dX1_thrown_0 : decode cX1_thrown 0 = .ok (.aload_n 0, 1) := by decide +kernel
theorem dX1_thrown_1 : decode cX1_thrown 1 = .ok (.getfield 31, 3) := by decide +kernel
theorem dX1_thrown_4 : decode cX1_thrown 4 = .ok (.ireturn, 1) := by decide +kernel
theorem dX1_fails_0 : decode cX1_fails 0 = .ok (.aload_n 0, 1) := by decide +kernel
theorem dX1_fails_1 : decode cX1_fails 1 = .ok (.iload_n 1, 1) := by decide +kernel
theorem dX1_fails_2 : decode cX1_fails 2 = .ok (.ifCond .eq 7, 3) := by decide +kernel
theorem dX1_fails_5 : decode cX1_fails 5 = .ok (.iload_n 2, 1) := by decide +kernel
theorem dX1_fails_6 : decode cX1_fails 6 = .ok (.goto 4, 3) := by decide +kernel
theorem dX1_fails_9 : decode cX1_fails 9 = .ok (.iconst 0, 1) := by decide +kernel
theorem dX1_fails_10 : decode cX1_fails 10 = .ok (.putfield 31, 3) := by decide +kernel
theorem dX1_fails_13 : decode cX1_fails 13 = .ok (.iload_n 1, 1) := by decide +kernel
theorem dX1_fails_14 : decode cX1_fails 14 = .ok (.ireturn, 1) := by decide +kernel
theorem dX1_within_0 : decode cX1_within 0 = .ok (.lload_n 0, 1) := by decide +kernel
theorem dX1_within_1 : decode cX1_within 1 = .ok (.lload_n 2, 1) := by decide +kernel
theorem dX1_within_2 : decode cX1_within 2 = .ok (.lcmp, 1) := by decide +kernel
theorem dX1_within_3 : decode cX1_within 3 = .ok (.ifCond .lt 14, 3) := by decide +kernel
theorem dX1_within_6 : decode cX1_within 6 = .ok (.lload_n 0, 1) := by decide +kernel
theorem dX1_within_7 : decode cX1_within 7 = .ok (.lload 4, 2) := by decide +kernel
theorem dX1_within_9 : decode cX1_within 9 = .ok (.lcmp, 1) := by decide +kernel
theorem dX1_within_10 : decode cX1_within 10 = .ok (.ifCond .gt 7, 3) := by decide +kernel
theorem dX1_within_13 : decode cX1_within 13 = .ok (.iconst 1, 1) := by decide +kernel
theorem dX1_within_14 : decode cX1_within 14 = .ok (.goto 4, 3) := by decide +kernel
theorem dX1_within_17 : decode cX1_within 17 = .ok (.iconst 0, 1) := by decide +kernel
theorem dX1_within_18 : decode cX1_within 18 = .ok (.ireturn, 1) := by decide +kernel
theorem dX1_writes_0 : decode cX1_writes 0 = .ok (.aload_n 0, 1) := by decide +kernel
theorem dX1_writes_1 : decode cX1_writes 1 = .ok (.aload_n 0, 1) := by decide +kernel
theorem dX1_writes_2 : decode cX1_writes 2 = .ok (.getfield 35, 3) := by decide +kernel
theorem dX1_writes_5 : decode cX1_writes 5 = .ok (.ifCond .ne 12, 3) := by decide +kernel
theorem dX1_writes_8 : decode cX1_writes 8 = .ok (.aload_n 0, 1) := by decide +kernel
theorem dX1_writes_9 : decode cX1_writes 9 = .ok (.getfield 24, 3) := by decide +kernel
theorem dX1_writes_12 : decode cX1_writes 12 = .ok (.lconst 0, 1) := by decide +kernel
theorem dX1_writes_13 : decode cX1_writes 13 = .ok (.lcmp, 1) := by decide +kernel
theorem dX1_writes_14 : decode cX1_writes 14 = .ok (.ifCond .ne 7, 3) := by decide +kernel
theorem dX1_writes_17 : decode cX1_writes 17 = .ok (.iconst 1, 1) := by decide +kernel
theorem dX1_writes_18 : decode cX1_writes 18 = .ok (.goto 4, 3) := by decide +kernel
theorem dX1_writes_21 : decode cX1_writes 21 = .ok (.iconst 0, 1) := by decide +kernel
theorem dX1_writes_22 : decode cX1_writes 22 = .ok (.putfield 35, 3) := by decide +kernel
theorem dX1_writes_25 : decode cX1_writes 25 = .ok (.aload_n 0, 1) := by decide +kernel
theorem dX1_writes_26 : decode cX1_writes 26 = .ok (.getfield 35, 3) := by decide +kernel
theorem dX1_writes_29 : decode cX1_writes 29 = .ok (.ifCond .eq 5, 3) := by decide +kernel
theorem dX1_writes_32 : decode cX1_writes 32 = .ok (.iconst 0, 1) := by decide +kernel
theorem dX1_writes_33 : decode cX1_writes 33 = .ok (.ireturn, 1) := by decide +kernel
theorem dX1_writes_34 : decode cX1_writes 34 = .ok (.aload_n 0, 1) := by decide +kernel
theorem dX1_writes_35 : decode cX1_writes 35 = .ok (.dup, 1) := by decide +kernel
theorem dX1_writes_36 : decode cX1_writes 36 = .ok (.getfield 24, 3) := by decide +kernel
theorem dX1_writes_39 : decode cX1_writes 39 = .ok (.aload_n 0, 1) := by decide +kernel
theorem dX1_writes_40 : decode cX1_writes 40 = .ok (.getfield 24, 3) := by decide +kernel
theorem dX1_writes_43 : decode cX1_writes 43 = .ok (.lconst 0, 1) := by decide +kernel
theorem dX1_writes_44 : decode cX1_writes 44 = .ok (.lcmp, 1) := by decide +kernel
theorem dX1_writes_45 : decode cX1_writes 45 = .ok (.ifCond .le 7, 3) := by decide +kernel
theorem dX1_writes_48 : decode cX1_writes 48 = .ok (.lconst 1, 1) := by decide +kernel
theorem dX1_writes_49 : decode cX1_writes 49 = .ok (.goto 4, 3) := by decide +kernel
theorem dX1_writes_52 : decode cX1_writes 52 = .ok (.lconst 0, 1) := by decide +kernel
theorem dX1_writes_53 : decode cX1_writes 53 = .ok (.lsub, 1) := by decide +kernel
theorem dX1_writes_54 : decode cX1_writes 54 = .ok (.putfield 24, 3) := by decide +kernel
theorem dX1_writes_57 : decode cX1_writes 57 = .ok (.aload_n 0, 1) := by decide +kernel
theorem dX1_writes_58 : decode cX1_writes 58 = .ok (.dup, 1) := by decide +kernel
theorem dX1_writes_59 : decode cX1_writes 59 = .ok (.getfield 39, 3) := by decide +kernel
theorem dX1_writes_62 : decode cX1_writes 62 = .ok (.lconst 1, 1) := by decide +kernel
theorem dX1_writes_63 : decode cX1_writes 63 = .ok (.ladd, 1) := by decide +kernel
theorem dX1_writes_64 : decode cX1_writes 64 = .ok (.putfield 39, 3) := by decide +kernel
theorem dX1_writes_67 : decode cX1_writes 67 = .ok (.iconst 0, 1) := by decide +kernel
theorem dX1_writes_68 : decode cX1_writes 68 = .ok (.istore_n 2, 1) := by decide +kernel
theorem dX1_writes_69 : decode cX1_writes 69 = .ok (.iload_n 2, 1) := by decide +kernel
theorem dX1_writes_70 : decode cX1_writes 70 = .ok (.bipush 64, 2) := by decide +kernel
theorem dX1_writes_72 : decode cX1_writes 72 = .ok (.if_icmp .ge 26, 3) := by decide +kernel
theorem dX1_writes_75 : decode cX1_writes 75 = .ok (.aload_n 0, 1) := by decide +kernel
theorem dX1_writes_76 : decode cX1_writes 76 = .ok (.getfield 7, 3) := by decide +kernel
theorem dX1_writes_79 : decode cX1_writes 79 = .ok (.bipush 64, 2) := by decide +kernel
theorem dX1_writes_81 : decode cX1_writes 81 = .ok (.iload_n 1, 1) := by decide +kernel
theorem dX1_writes_82 : decode cX1_writes 82 = .ok (.imul, 1) := by decide +kernel
theorem dX1_writes_83 : decode cX1_writes 83 = .ok (.iload_n 2, 1) := by decide +kernel
theorem dX1_writes_84 : decode cX1_writes 84 = .ok (.iadd, 1) := by decide +kernel
theorem dX1_writes_85 : decode cX1_writes 85 = .ok (.aload_n 0, 1) := by decide +kernel
theorem dX1_writes_86 : decode cX1_writes 86 = .ok (.getfield 28, 3) := by decide +kernel
theorem dX1_writes_89 : decode cX1_writes 89 = .ok (.iload_n 2, 1) := by decide +kernel
theorem dX1_writes_90 : decode cX1_writes 90 = .ok (.iaload, 1) := by decide +kernel
theorem dX1_writes_91 : decode cX1_writes 91 = .ok (.iastore, 1) := by decide +kernel
theorem dX1_writes_92 : decode cX1_writes 92 = .ok (.iinc 2 1, 3) := by decide +kernel
theorem dX1_writes_95 : decode cX1_writes 95 = .ok (.goto (-26), 3) := by decide +kernel
theorem dX1_writes_98 : decode cX1_writes 98 = .ok (.iconst 1, 1) := by decide +kernel
theorem dX1_writes_99 : decode cX1_writes 99 = .ok (.ireturn, 1) := by decide +kernel
theorem dX1_number_0 : decode cX1_number 0 = .ok (.lconst 0, 1) := by decide +kernel
theorem dX1_number_1 : decode cX1_number 1 = .ok (.lstore_n 3, 1) := by decide +kernel
theorem dX1_number_2 : decode cX1_number 2 = .ok (.iload_n 2, 1) := by decide +kernel
theorem dX1_number_3 : decode cX1_number 3 = .ok (.iconst 1, 1) := by decide +kernel
theorem dX1_number_4 : decode cX1_number 4 = .ok (.isub, 1) := by decide +kernel
theorem dX1_number_5 : decode cX1_number 5 = .ok (.istore 5, 2) := by decide +kernel
theorem dX1_number_7 : decode cX1_number 7 = .ok (.iload 5, 2) := by decide +kernel
theorem dX1_number_9 : decode cX1_number 9 = .ok (.ifCond .lt 26, 3) := by decide +kernel
theorem dX1_number_12 : decode cX1_number 12 = .ok (.lload_n 3, 1) := by decide +kernel
theorem dX1_number_13 : decode cX1_number 13 = .ok (.ldc2_w 42, 3) := by decide +kernel
theorem dX1_number_16 : decode cX1_number 16 = .ok (.lmul, 1) := by decide +kernel
theorem dX1_number_17 : decode cX1_number 17 = .ok (.aload_n 0, 1) := by decide +kernel
theorem dX1_number_18 : decode cX1_number 18 = .ok (.getfield 7, 3) := by decide +kernel
theorem dX1_number_21 : decode cX1_number 21 = .ok (.iload_n 1, 1) := by decide +kernel
theorem dX1_number_22 : decode cX1_number 22 = .ok (.iload 5, 2) := by decide +kernel
theorem dX1_number_24 : decode cX1_number 24 = .ok (.iadd, 1) := by decide +kernel
theorem dX1_number_25 : decode cX1_number 25 = .ok (.iaload, 1) := by decide +kernel
theorem dX1_number_26 : decode cX1_number 26 = .ok (.i2l, 1) := by decide +kernel
theorem dX1_number_27 : decode cX1_number 27 = .ok (.ladd, 1) := by decide +kernel
theorem dX1_number_28 : decode cX1_number 28 = .ok (.lstore_n 3, 1) := by decide +kernel
theorem dX1_number_29 : decode cX1_number 29 = .ok (.iinc 5 (-1), 3) := by decide +kernel
theorem dX1_number_32 : decode cX1_number 32 = .ok (.goto (-25), 3) := by decide +kernel
theorem dX1_number_35 : decode cX1_number 35 = .ok (.lload_n 3, 1) := by decide +kernel
theorem dX1_number_36 : decode cX1_number 36 = .ok (.lreturn, 1) := by decide +kernel
theorem dX1_check_0 : decode cX1_check 0 = .ok (.ldc2_w 44, 3) := by decide +kernel
theorem dX1_check_3 : decode cX1_check 3 = .ok (.lstore_n 2, 1) := by decide +kernel
theorem dX1_check_4 : decode cX1_check 4 = .ok (.iconst 0, 1) := by decide +kernel
theorem dX1_check_5 : decode cX1_check 5 = .ok (.istore 4, 2) := by decide +kernel
theorem dX1_check_7 : decode cX1_check 7 = .ok (.iload 4, 2) := by decide +kernel
theorem dX1_check_9 : decode cX1_check 9 = .ok (.bipush 64, 2) := by decide +kernel
theorem dX1_check_11 : decode cX1_check 11 = .ok (.iload_n 1, 1) := by decide +kernel
theorem dX1_check_12 : decode cX1_check 12 = .ok (.imul, 1) := by decide +kernel
theorem dX1_check_13 : decode cX1_check 13 = .ok (.if_icmp .ge 79, 3) := by decide +kernel
theorem dX1_check_16 : decode cX1_check 16 = .ok (.iconst 0, 1) := by decide +kernel
theorem dX1_check_17 : decode cX1_check 17 = .ok (.istore 5, 2) := by decide +kernel
theorem dX1_check_19 : decode cX1_check 19 = .ok (.iload 5, 2) := by decide +kernel
theorem dX1_check_21 : decode cX1_check 21 = .ok (.bipush 8, 2) := by decide +kernel
theorem dX1_check_23 : decode cX1_check 23 = .ok (.if_icmp .ge 63, 3) := by decide +kernel
theorem dX1_check_26 : decode cX1_check 26 = .ok (.aload_n 0, 1) := by decide +kernel
theorem dX1_check_27 : decode cX1_check 27 = .ok (.getfield 7, 3) := by decide +kernel
theorem dX1_check_30 : decode cX1_check 30 = .ok (.bipush 64, 2) := by decide +kernel
theorem dX1_check_32 : decode cX1_check 32 = .ok (.iload 4, 2) := by decide +kernel
theorem dX1_check_34 : decode cX1_check 34 = .ok (.iadd, 1) := by decide +kernel
theorem dX1_check_35 : decode cX1_check 35 = .ok (.iaload, 1) := by decide +kernel
theorem dX1_check_36 : decode cX1_check 36 = .ok (.iload 5, 2) := by decide +kernel
theorem dX1_check_38 : decode cX1_check 38 = .ok (.ishr, 1) := by decide +kernel
theorem dX1_check_39 : decode cX1_check 39 = .ok (.iconst 1, 1) := by decide +kernel
theorem dX1_check_40 : decode cX1_check 40 = .ok (.iand, 1) := by decide +kernel
theorem dX1_check_41 : decode cX1_check 41 = .ok (.i2l, 1) := by decide +kernel
theorem dX1_check_42 : decode cX1_check 42 = .ok (.lstore 6, 2) := by decide +kernel
theorem dX1_check_44 : decode cX1_check 44 = .ok (.lload_n 2, 1) := by decide +kernel
theorem dX1_check_45 : decode cX1_check 45 = .ok (.bipush 31, 2) := by decide +kernel
theorem dX1_check_47 : decode cX1_check 47 = .ok (.lshr, 1) := by decide +kernel
theorem dX1_check_48 : decode cX1_check 48 = .ok (.lload 6, 2) := by decide +kernel
theorem dX1_check_50 : decode cX1_check 50 = .ok (.lcmp, 1) := by decide +kernel
theorem dX1_check_51 : decode cX1_check 51 = .ok (.ifCond .eq 7, 3) := by decide +kernel
theorem dX1_check_54 : decode cX1_check 54 = .ok (.iconst 1, 1) := by decide +kernel
theorem dX1_check_55 : decode cX1_check 55 = .ok (.goto 4, 3) := by decide +kernel
theorem dX1_check_58 : decode cX1_check 58 = .ok (.iconst 0, 1) := by decide +kernel
theorem dX1_check_59 : decode cX1_check 59 = .ok (.istore 8, 2) := by decide +kernel
theorem dX1_check_61 : decode cX1_check 61 = .ok (.lload_n 2, 1) := by decide +kernel
theorem dX1_check_62 : decode cX1_check 62 = .ok (.iconst 1, 1) := by decide +kernel
theorem dX1_check_63 : decode cX1_check 63 = .ok (.lshl, 1) := by decide +kernel
theorem dX1_check_64 : decode cX1_check 64 = .ok (.ldc2_w 44, 3) := by decide +kernel
theorem dX1_check_67 : decode cX1_check 67 = .ok (.land, 1) := by decide +kernel
theorem dX1_check_68 : decode cX1_check 68 = .ok (.lstore_n 2, 1) := by decide +kernel
theorem dX1_check_69 : decode cX1_check 69 = .ok (.iload 8, 2) := by decide +kernel
theorem dX1_check_71 : decode cX1_check 71 = .ok (.ifCond .eq 9, 3) := by decide +kernel
theorem dX1_check_74 : decode cX1_check 74 = .ok (.lload_n 2, 1) := by decide +kernel
theorem dX1_check_75 : decode cX1_check 75 = .ok (.ldc2_w 46, 3) := by decide +kernel
theorem dX1_check_78 : decode cX1_check 78 = .ok (.lxor, 1) := by decide +kernel
theorem dX1_check_79 : decode cX1_check 79 = .ok (.lstore_n 2, 1) := by decide +kernel
theorem dX1_check_80 : decode cX1_check 80 = .ok (.iinc 5 1, 3) := by decide +kernel
theorem dX1_check_83 : decode cX1_check 83 = .ok (.goto (-64), 3) := by decide +kernel
theorem dX1_check_86 : decode cX1_check 86 = .ok (.iinc 4 1, 3) := by decide +kernel
theorem dX1_check_89 : decode cX1_check 89 = .ok (.goto (-82), 3) := by decide +kernel
theorem dX1_check_92 : decode cX1_check 92 = .ok (.lconst 0, 1) := by decide +kernel
theorem dX1_check_93 : decode cX1_check 93 = .ok (.lstore 4, 2) := by decide +kernel
theorem dX1_check_95 : decode cX1_check 95 = .ok (.iconst 0, 1) := by decide +kernel
theorem dX1_check_96 : decode cX1_check 96 = .ok (.istore 6, 2) := by decide +kernel
theorem dX1_check_98 : decode cX1_check 98 = .ok (.iload 6, 2) := by decide +kernel
theorem dX1_check_100 : decode cX1_check 100 = .ok (.bipush 32, 2) := by decide +kernel
theorem dX1_check_102 : decode cX1_check 102 = .ok (.if_icmp .ge 26, 3) := by decide +kernel
theorem dX1_check_105 : decode cX1_check 105 = .ok (.lload 4, 2) := by decide +kernel
theorem dX1_check_107 : decode cX1_check 107 = .ok (.lload_n 2, 1) := by decide +kernel
theorem dX1_check_108 : decode cX1_check 108 = .ok (.iload 6, 2) := by decide +kernel
theorem dX1_check_110 : decode cX1_check 110 = .ok (.lshr, 1) := by decide +kernel
theorem dX1_check_111 : decode cX1_check 111 = .ok (.lconst 1, 1) := by decide +kernel
theorem dX1_check_112 : decode cX1_check 112 = .ok (.land, 1) := by decide +kernel
theorem dX1_check_113 : decode cX1_check 113 = .ok (.bipush 31, 2) := by decide +kernel
theorem dX1_check_115 : decode cX1_check 115 = .ok (.iload 6, 2) := by decide +kernel
theorem dX1_check_117 : decode cX1_check 117 = .ok (.isub, 1) := by decide +kernel
theorem dX1_check_118 : decode cX1_check 118 = .ok (.lshl, 1) := by decide +kernel
theorem dX1_check_119 : decode cX1_check 119 = .ok (.lor, 1) := by decide +kernel
theorem dX1_check_120 : decode cX1_check 120 = .ok (.lstore 4, 2) := by decide +kernel
theorem dX1_check_122 : decode cX1_check 122 = .ok (.iinc 6 1, 3) := by decide +kernel
theorem dX1_check_125 : decode cX1_check 125 = .ok (.goto (-27), 3) := by decide +kernel
theorem dX1_check_128 : decode cX1_check 128 = .ok (.lload 4, 2) := by decide +kernel
theorem dX1_check_130 : decode cX1_check 130 = .ok (.ldc2_w 44, 3) := by decide +kernel
theorem dX1_check_133 : decode cX1_check 133 = .ok (.lxor, 1) := by decide +kernel
theorem dX1_check_134 : decode cX1_check 134 = .ok (.lreturn, 1) := by decide +kernel
theorem dX1_target_0 : decode cX1_target 0 = .ok (.aload_n 0, 1) := by decide +kernel
theorem dX1_target_1 : decode cX1_target 1 = .ok (.iconst 5, 1) := by decide +kernel
theorem dX1_target_2 : decode cX1_target 2 = .ok (.iconst 2, 1) := by decide +kernel
theorem dX1_target_3 : decode cX1_target 3 = .ok (.iload_n 1, 1) := by decide +kernel
theorem dX1_target_4 : decode cX1_target 4 = .ok (.imul, 1) := by decide +kernel
theorem dX1_target_5 : decode cX1_target 5 = .ok (.iadd, 1) := by decide +kernel
theorem dX1_target_6 : decode cX1_target 6 = .ok (.iconst 2, 1) := by decide +kernel
theorem dX1_target_7 : decode cX1_target 7 = .ok (.invokevirtual 48, 3) := by decide +kernel
theorem dX1_target_10 : decode cX1_target 10 = .ok (.l2i, 1) := by decide +kernel
theorem dX1_target_11 : decode cX1_target 11 = .ok (.ireturn, 1) := by decide +kernel
theorem dX1_isRight_0 : decode cX1_isRight 0 = .ok (.aload_n 0, 1) := by decide +kernel
theorem dX1_isRight_1 : decode cX1_isRight 1 = .ok (.getfield 7, 3) := by decide +kernel
theorem dX1_isRight_4 : decode cX1_isRight 4 = .ok (.iconst 4, 1) := by decide +kernel
theorem dX1_isRight_5 : decode cX1_isRight 5 = .ok (.iaload, 1) := by decide +kernel
theorem dX1_isRight_6 : decode cX1_isRight 6 = .ok (.istore_n 1, 1) := by decide +kernel
theorem dX1_isRight_7 : decode cX1_isRight 7 = .ok (.iload_n 1, 1) := by decide +kernel
theorem dX1_isRight_8 : decode cX1_isRight 8 = .ok (.i2l, 1) := by decide +kernel
theorem dX1_isRight_9 : decode cX1_isRight 9 = .ok (.lconst 1, 1) := by decide +kernel
theorem dX1_isRight_10 : decode cX1_isRight 10 = .ok (.ldc2_w 52, 3) := by decide +kernel
theorem dX1_isRight_13 : decode cX1_isRight 13 = .ok (.invokestatic 54, 3) := by decide +kernel
theorem dX1_isRight_16 : decode cX1_isRight 16 = .ok (.ifCond .ne 5, 3) := by decide +kernel
theorem dX1_isRight_19 : decode cX1_isRight 19 = .ok (.iconst 0, 1) := by decide +kernel
theorem dX1_isRight_20 : decode cX1_isRight 20 = .ok (.ireturn, 1) := by decide +kernel
theorem dX1_isRight_21 : decode cX1_isRight 21 = .ok (.iconst 1, 1) := by decide +kernel
theorem dX1_isRight_22 : decode cX1_isRight 22 = .ok (.istore_n 2, 1) := by decide +kernel
theorem dX1_isRight_23 : decode cX1_isRight 23 = .ok (.iconst 0, 1) := by decide +kernel
theorem dX1_isRight_24 : decode cX1_isRight 24 = .ok (.istore_n 3, 1) := by decide +kernel
theorem dX1_isRight_25 : decode cX1_isRight 25 = .ok (.iload_n 3, 1) := by decide +kernel
theorem dX1_isRight_26 : decode cX1_isRight 26 = .ok (.iload_n 1, 1) := by decide +kernel
theorem dX1_isRight_27 : decode cX1_isRight 27 = .ok (.if_icmp .ge 56, 3) := by decide +kernel
theorem dX1_isRight_30 : decode cX1_isRight 30 = .ok (.iload_n 2, 1) := by decide +kernel
theorem dX1_isRight_31 : decode cX1_isRight 31 = .ok (.ifCond .eq 44, 3) := by decide +kernel
theorem dX1_isRight_34 : decode cX1_isRight 34 = .ok (.aload_n 0, 1) := by decide +kernel
theorem dX1_isRight_35 : decode cX1_isRight 35 = .ok (.iload_n 3, 1) := by decide +kernel
theorem dX1_isRight_36 : decode cX1_isRight 36 = .ok (.invokevirtual 58, 3) := by decide +kernel
theorem dX1_isRight_39 : decode cX1_isRight 39 = .ok (.i2l, 1) := by decide +kernel
theorem dX1_isRight_40 : decode cX1_isRight 40 = .ok (.ldc2_w 62, 3) := by decide +kernel
theorem dX1_isRight_43 : decode cX1_isRight 43 = .ok (.ldc2_w 64, 3) := by decide +kernel
theorem dX1_isRight_46 : decode cX1_isRight 46 = .ok (.invokestatic 54, 3) := by decide +kernel
theorem dX1_isRight_49 : decode cX1_isRight 49 = .ok (.ifCond .eq 26, 3) := by decide +kernel
theorem dX1_isRight_52 : decode cX1_isRight 52 = .ok (.iload_n 3, 1) := by decide +kernel
theorem dX1_isRight_53 : decode cX1_isRight 53 = .ok (.ifCond .eq 18, 3) := by decide +kernel
theorem dX1_isRight_56 : decode cX1_isRight 56 = .ok (.aload_n 0, 1) := by decide +kernel
theorem dX1_isRight_57 : decode cX1_isRight 57 = .ok (.iload_n 3, 1) := by decide +kernel
theorem dX1_isRight_58 : decode cX1_isRight 58 = .ok (.invokevirtual 58, 3) := by decide +kernel
theorem dX1_isRight_61 : decode cX1_isRight 61 = .ok (.aload_n 0, 1) := by decide +kernel
theorem dX1_isRight_62 : decode cX1_isRight 62 = .ok (.iload_n 3, 1) := by decide +kernel
theorem dX1_isRight_63 : decode cX1_isRight 63 = .ok (.iconst 1, 1) := by decide +kernel
theorem dX1_isRight_64 : decode cX1_isRight 64 = .ok (.isub, 1) := by decide +kernel
theorem dX1_isRight_65 : decode cX1_isRight 65 = .ok (.invokevirtual 58, 3) := by decide +kernel
theorem dX1_isRight_68 : decode cX1_isRight 68 = .ok (.if_icmp .le 7, 3) := by decide +kernel
theorem dX1_isRight_71 : decode cX1_isRight 71 = .ok (.iconst 1, 1) := by decide +kernel
theorem dX1_isRight_72 : decode cX1_isRight 72 = .ok (.goto 4, 3) := by decide +kernel
theorem dX1_isRight_75 : decode cX1_isRight 75 = .ok (.iconst 0, 1) := by decide +kernel
theorem dX1_isRight_76 : decode cX1_isRight 76 = .ok (.istore_n 2, 1) := by decide +kernel
theorem dX1_isRight_77 : decode cX1_isRight 77 = .ok (.iinc 3 1, 3) := by decide +kernel
theorem dX1_isRight_80 : decode cX1_isRight 80 = .ok (.goto (-55), 3) := by decide +kernel
theorem dX1_isRight_83 : decode cX1_isRight 83 = .ok (.iload_n 2, 1) := by decide +kernel
theorem dX1_isRight_84 : decode cX1_isRight 84 = .ok (.ifCond .eq 23, 3) := by decide +kernel
theorem dX1_isRight_87 : decode cX1_isRight 87 = .ok (.aload_n 0, 1) := by decide +kernel
theorem dX1_isRight_88 : decode cX1_isRight 88 = .ok (.bipush 59, 2) := by decide +kernel
theorem dX1_isRight_90 : decode cX1_isRight 90 = .ok (.iconst 4, 1) := by decide +kernel
theorem dX1_isRight_91 : decode cX1_isRight 91 = .ok (.invokevirtual 48, 3) := by decide +kernel
theorem dX1_isRight_94 : decode cX1_isRight 94 = .ok (.aload_n 0, 1) := by decide +kernel
theorem dX1_isRight_95 : decode cX1_isRight 95 = .ok (.iload_n 1, 1) := by decide +kernel
theorem dX1_isRight_96 : decode cX1_isRight 96 = .ok (.invokevirtual 66, 3) := by decide +kernel
theorem dX1_isRight_99 : decode cX1_isRight 99 = .ok (.lcmp, 1) := by decide +kernel
theorem dX1_isRight_100 : decode cX1_isRight 100 = .ok (.ifCond .ne 7, 3) := by decide +kernel
theorem dX1_isRight_103 : decode cX1_isRight 103 = .ok (.iconst 1, 1) := by decide +kernel
theorem dX1_isRight_104 : decode cX1_isRight 104 = .ok (.goto 4, 3) := by decide +kernel
theorem dX1_isRight_107 : decode cX1_isRight 107 = .ok (.iconst 0, 1) := by decide +kernel
theorem dX1_isRight_108 : decode cX1_isRight 108 = .ok (.ireturn, 1) := by decide +kernel
theorem dX1_feed_0 : decode cX1_feed 0 = .ok (.aload_n 0, 1) := by decide +kernel
theorem dX1_feed_1 : decode cX1_feed 1 = .ok (.iload_n 1, 1) := by decide +kernel
theorem dX1_feed_2 : decode cX1_feed 2 = .ok (.i2l, 1) := by decide +kernel
theorem dX1_feed_3 : decode cX1_feed 3 = .ok (.lconst 1, 1) := by decide +kernel
theorem dX1_feed_4 : decode cX1_feed 4 = .ok (.ldc2_w 70, 3) := by decide +kernel
theorem dX1_feed_7 : decode cX1_feed 7 = .ok (.invokestatic 54, 3) := by decide +kernel
theorem dX1_feed_10 : decode cX1_feed 10 = .ok (.ifCond .ne 7, 3) := by decide +kernel
theorem dX1_feed_13 : decode cX1_feed 13 = .ok (.iconst 1, 1) := by decide +kernel
theorem dX1_feed_14 : decode cX1_feed 14 = .ok (.goto 4, 3) := by decide +kernel
theorem dX1_feed_17 : decode cX1_feed 17 = .ok (.iconst 0, 1) := by decide +kernel
theorem dX1_feed_18 : decode cX1_feed 18 = .ok (.iconst 1, 1) := by decide +kernel
theorem dX1_feed_19 : decode cX1_feed 19 = .ok (.invokevirtual 72, 3) := by decide +kernel
theorem dX1_feed_22 : decode cX1_feed 22 = .ok (.ifCond .ne 27, 3) := by decide +kernel
theorem dX1_feed_25 : decode cX1_feed 25 = .ok (.aload_n 0, 1) := by decide +kernel
theorem dX1_feed_26 : decode cX1_feed 26 = .ok (.aload_n 0, 1) := by decide +kernel
theorem dX1_feed_27 : decode cX1_feed 27 = .ok (.getfield 76, 3) := by decide +kernel
theorem dX1_feed_30 : decode cX1_feed 30 = .ok (.iload_n 1, 1) := by decide +kernel
theorem dX1_feed_31 : decode cX1_feed 31 = .ok (.iadd, 1) := by decide +kernel
theorem dX1_feed_32 : decode cX1_feed 32 = .ok (.bipush 64, 2) := by decide +kernel
theorem dX1_feed_34 : decode cX1_feed 34 = .ok (.if_icmp .le 7, 3) := by decide +kernel
theorem dX1_feed_37 : decode cX1_feed 37 = .ok (.iconst 1, 1) := by decide +kernel
theorem dX1_feed_38 : decode cX1_feed 38 = .ok (.goto 4, 3) := by decide +kernel
theorem dX1_feed_41 : decode cX1_feed 41 = .ok (.iconst 0, 1) := by decide +kernel
theorem dX1_feed_42 : decode cX1_feed 42 = .ok (.iconst 2, 1) := by decide +kernel
theorem dX1_feed_43 : decode cX1_feed 43 = .ok (.invokevirtual 72, 3) := by decide +kernel
theorem dX1_feed_46 : decode cX1_feed 46 = .ok (.ifCond .eq 5, 3) := by decide +kernel
theorem dX1_feed_49 : decode cX1_feed 49 = .ok (.iconst 0, 1) := by decide +kernel
theorem dX1_feed_50 : decode cX1_feed 50 = .ok (.ireturn, 1) := by decide +kernel
theorem dX1_feed_51 : decode cX1_feed 51 = .ok (.iconst 0, 1) := by decide +kernel
theorem dX1_feed_52 : decode cX1_feed 52 = .ok (.istore 4, 2) := by decide +kernel
theorem dX1_feed_54 : decode cX1_feed 54 = .ok (.iload 4, 2) := by decide +kernel
theorem dX1_feed_56 : decode cX1_feed 56 = .ok (.iload_n 1, 1) := by decide +kernel
theorem dX1_feed_57 : decode cX1_feed 57 = .ok (.if_icmp .ge 33, 3) := by decide +kernel
theorem dX1_feed_60 : decode cX1_feed 60 = .ok (.aload_n 0, 1) := by decide +kernel
theorem dX1_feed_61 : decode cX1_feed 61 = .ok (.getfield 13, 3) := by decide +kernel
theorem dX1_feed_64 : decode cX1_feed 64 = .ok (.aload_n 0, 1) := by decide +kernel
theorem dX1_feed_65 : decode cX1_feed 65 = .ok (.getfield 76, 3) := by decide +kernel
theorem dX1_feed_68 : decode cX1_feed 68 = .ok (.iload 4, 2) := by decide +kernel
theorem dX1_feed_70 : decode cX1_feed 70 = .ok (.iadd, 1) := by decide +kernel
theorem dX1_feed_71 : decode cX1_feed 71 = .ok (.lload_n 2, 1) := by decide +kernel
theorem dX1_feed_72 : decode cX1_feed 72 = .ok (.bipush 8, 2) := by decide +kernel
theorem dX1_feed_74 : decode cX1_feed 74 = .ok (.iload 4, 2) := by decide +kernel
theorem dX1_feed_76 : decode cX1_feed 76 = .ok (.imul, 1) := by decide +kernel
theorem dX1_feed_77 : decode cX1_feed 77 = .ok (.lshr, 1) := by decide +kernel
theorem dX1_feed_78 : decode cX1_feed 78 = .ok (.ldc2_w 79, 3) := by decide +kernel
theorem dX1_feed_81 : decode cX1_feed 81 = .ok (.land, 1) := by decide +kernel
theorem dX1_feed_82 : decode cX1_feed 82 = .ok (.l2i, 1) := by decide +kernel
theorem dX1_feed_83 : decode cX1_feed 83 = .ok (.iastore, 1) := by decide +kernel
theorem dX1_feed_84 : decode cX1_feed 84 = .ok (.iinc 4 1, 3) := by decide +kernel
theorem dX1_feed_87 : decode cX1_feed 87 = .ok (.goto (-33), 3) := by decide +kernel
theorem dX1_feed_90 : decode cX1_feed 90 = .ok (.aload_n 0, 1) := by decide +kernel
theorem dX1_feed_91 : decode cX1_feed 91 = .ok (.dup, 1) := by decide +kernel
theorem dX1_feed_92 : decode cX1_feed 92 = .ok (.getfield 76, 3) := by decide +kernel
theorem dX1_feed_95 : decode cX1_feed 95 = .ok (.iload_n 1, 1) := by decide +kernel
theorem dX1_feed_96 : decode cX1_feed 96 = .ok (.iadd, 1) := by decide +kernel
theorem dX1_feed_97 : decode cX1_feed 97 = .ok (.putfield 76, 3) := by decide +kernel
theorem dX1_feed_100 : decode cX1_feed 100 = .ok (.aload_n 0, 1) := by decide +kernel
theorem dX1_feed_101 : decode cX1_feed 101 = .ok (.getfield 76, 3) := by decide +kernel
theorem dX1_feed_104 : decode cX1_feed 104 = .ok (.ireturn, 1) := by decide +kernel
theorem dX1_find_0 : decode cX1_find 0 = .ok (.iconst 0, 1) := by decide +kernel
theorem dX1_find_1 : decode cX1_find 1 = .ok (.istore_n 2, 1) := by decide +kernel
theorem dX1_find_2 : decode cX1_find 2 = .ok (.iload_n 2, 1) := by decide +kernel
theorem dX1_find_3 : decode cX1_find 3 = .ok (.aload_n 0, 1) := by decide +kernel
theorem dX1_find_4 : decode cX1_find 4 = .ok (.getfield 81, 3) := by decide +kernel
theorem dX1_find_7 : decode cX1_find 7 = .ok (.if_icmp .ge 21, 3) := by decide +kernel
theorem dX1_find_10 : decode cX1_find 10 = .ok (.aload_n 0, 1) := by decide +kernel
theorem dX1_find_11 : decode cX1_find 11 = .ok (.getfield 16, 3) := by decide +kernel
theorem dX1_find_14 : decode cX1_find 14 = .ok (.iload_n 2, 1) := by decide +kernel
theorem dX1_find_15 : decode cX1_find 15 = .ok (.iaload, 1) := by decide +kernel
theorem dX1_find_16 : decode cX1_find 16 = .ok (.iload_n 1, 1) := by decide +kernel
theorem dX1_find_17 : decode cX1_find 17 = .ok (.if_icmp .ne 5, 3) := by decide +kernel
theorem dX1_find_20 : decode cX1_find 20 = .ok (.iload_n 2, 1) := by decide +kernel
theorem dX1_find_21 : decode cX1_find 21 = .ok (.ireturn, 1) := by decide +kernel
theorem dX1_find_22 : decode cX1_find 22 = .ok (.iinc 2 1, 3) := by decide +kernel
theorem dX1_find_25 : decode cX1_find 25 = .ok (.goto (-23), 3) := by decide +kernel
theorem dX1_find_28 : decode cX1_find 28 = .ok (.iconst (-1), 1) := by decide +kernel
theorem dX1_find_29 : decode cX1_find 29 = .ok (.ireturn, 1) := by decide +kernel
theorem dX1_put_0 : decode cX1_put 0 = .ok (.aload_n 0, 1) := by decide +kernel
theorem dX1_put_1 : decode cX1_put 1 = .ok (.iload_n 1, 1) := by decide +kernel
theorem dX1_put_2 : decode cX1_put 2 = .ok (.i2l, 1) := by decide +kernel
theorem dX1_put_3 : decode cX1_put 3 = .ok (.ldc2_w 62, 3) := by decide +kernel
theorem dX1_put_6 : decode cX1_put 6 = .ok (.ldc2_w 64, 3) := by decide +kernel
theorem dX1_put_9 : decode cX1_put 9 = .ok (.invokestatic 54, 3) := by decide +kernel
theorem dX1_put_12 : decode cX1_put 12 = .ok (.ifCond .ne 7, 3) := by decide +kernel
theorem dX1_put_15 : decode cX1_put 15 = .ok (.iconst 1, 1) := by decide +kernel
theorem dX1_put_16 : decode cX1_put 16 = .ok (.goto 4, 3) := by decide +kernel
theorem dX1_put_19 : decode cX1_put 19 = .ok (.iconst 0, 1) := by decide +kernel
theorem dX1_put_20 : decode cX1_put 20 = .ok (.iconst 1, 1) := by decide +kernel
theorem dX1_put_21 : decode cX1_put 21 = .ok (.invokevirtual 72, 3) := by decide +kernel
theorem dX1_put_24 : decode cX1_put 24 = .ok (.ifCond .ne 33, 3) := by decide +kernel
theorem dX1_put_27 : decode cX1_put 27 = .ok (.aload_n 0, 1) := by decide +kernel
theorem dX1_put_28 : decode cX1_put 28 = .ok (.aload_n 0, 1) := by decide +kernel
theorem dX1_put_29 : decode cX1_put 29 = .ok (.iload_n 1, 1) := by decide +kernel
theorem dX1_put_30 : decode cX1_put 30 = .ok (.invokevirtual 84, 3) := by decide +kernel
theorem dX1_put_33 : decode cX1_put 33 = .ok (.ifCond .ge 16, 3) := by decide +kernel
theorem dX1_put_36 : decode cX1_put 36 = .ok (.aload_n 0, 1) := by decide +kernel
theorem dX1_put_37 : decode cX1_put 37 = .ok (.getfield 81, 3) := by decide +kernel
theorem dX1_put_40 : decode cX1_put 40 = .ok (.bipush 24, 2) := by decide +kernel
theorem dX1_put_42 : decode cX1_put 42 = .ok (.if_icmp .ne 7, 3) := by decide +kernel
theorem dX1_put_45 : decode cX1_put 45 = .ok (.iconst 1, 1) := by decide +kernel
theorem dX1_put_46 : decode cX1_put 46 = .ok (.goto 4, 3) := by decide +kernel
theorem dX1_put_49 : decode cX1_put 49 = .ok (.iconst 0, 1) := by decide +kernel
theorem dX1_put_50 : decode cX1_put 50 = .ok (.iconst 2, 1) := by decide +kernel
theorem dX1_put_51 : decode cX1_put 51 = .ok (.invokevirtual 72, 3) := by decide +kernel
theorem dX1_put_54 : decode cX1_put 54 = .ok (.ifCond .eq 5, 3) := by decide +kernel
theorem dX1_put_57 : decode cX1_put 57 = .ok (.iconst 0, 1) := by decide +kernel
theorem dX1_put_58 : decode cX1_put 58 = .ok (.ireturn, 1) := by decide +kernel
theorem dX1_put_59 : decode cX1_put 59 = .ok (.aload_n 0, 1) := by decide +kernel
theorem dX1_put_60 : decode cX1_put 60 = .ok (.iload_n 1, 1) := by decide +kernel
theorem dX1_put_61 : decode cX1_put 61 = .ok (.invokevirtual 84, 3) := by decide +kernel
theorem dX1_put_64 : decode cX1_put 64 = .ok (.ifCond .ge 10, 3) := by decide +kernel
theorem dX1_put_67 : decode cX1_put 67 = .ok (.aload_n 0, 1) := by decide +kernel
theorem dX1_put_68 : decode cX1_put 68 = .ok (.getfield 81, 3) := by decide +kernel
theorem dX1_put_71 : decode cX1_put 71 = .ok (.goto 8, 3) := by decide +kernel
theorem dX1_put_74 : decode cX1_put 74 = .ok (.aload_n 0, 1) := by decide +kernel
theorem dX1_put_75 : decode cX1_put 75 = .ok (.iload_n 1, 1) := by decide +kernel
theorem dX1_put_76 : decode cX1_put 76 = .ok (.invokevirtual 84, 3) := by decide +kernel
theorem dX1_put_79 : decode cX1_put 79 = .ok (.istore_n 2, 1) := by decide +kernel
theorem dX1_put_80 : decode cX1_put 80 = .ok (.iload_n 2, 1) := by decide +kernel
theorem dX1_put_81 : decode cX1_put 81 = .ok (.aload_n 0, 1) := by decide +kernel
theorem dX1_put_82 : decode cX1_put 82 = .ok (.getfield 81, 3) := by decide +kernel
theorem dX1_put_85 : decode cX1_put 85 = .ok (.if_icmp .ne 13, 3) := by decide +kernel
theorem dX1_put_88 : decode cX1_put 88 = .ok (.aload_n 0, 1) := by decide +kernel
theorem dX1_put_89 : decode cX1_put 89 = .ok (.dup, 1) := by decide +kernel
theorem dX1_put_90 : decode cX1_put 90 = .ok (.getfield 81, 3) := by decide +kernel
theorem dX1_put_93 : decode cX1_put 93 = .ok (.iconst 1, 1) := by decide +kernel
theorem dX1_put_94 : decode cX1_put 94 = .ok (.iadd, 1) := by decide +kernel
theorem dX1_put_95 : decode cX1_put 95 = .ok (.putfield 81, 3) := by decide +kernel
theorem dX1_put_98 : decode cX1_put 98 = .ok (.aload_n 0, 1) := by decide +kernel
theorem dX1_put_99 : decode cX1_put 99 = .ok (.getfield 16, 3) := by decide +kernel
theorem dX1_put_102 : decode cX1_put 102 = .ok (.iload_n 2, 1) := by decide +kernel
theorem dX1_put_103 : decode cX1_put 103 = .ok (.iload_n 1, 1) := by decide +kernel
theorem dX1_put_104 : decode cX1_put 104 = .ok (.iastore, 1) := by decide +kernel
theorem dX1_put_105 : decode cX1_put 105 = .ok (.iconst 0, 1) := by decide +kernel
theorem dX1_put_106 : decode cX1_put 106 = .ok (.istore_n 3, 1) := by decide +kernel
theorem dX1_put_107 : decode cX1_put 107 = .ok (.iload_n 3, 1) := by decide +kernel
theorem dX1_put_108 : decode cX1_put 108 = .ok (.bipush 64, 2) := by decide +kernel
theorem dX1_put_110 : decode cX1_put 110 = .ok (.if_icmp .ge 38, 3) := by decide +kernel
theorem dX1_put_113 : decode cX1_put 113 = .ok (.aload_n 0, 1) := by decide +kernel
theorem dX1_put_114 : decode cX1_put 114 = .ok (.getfield 19, 3) := by decide +kernel
theorem dX1_put_117 : decode cX1_put 117 = .ok (.bipush 64, 2) := by decide +kernel
theorem dX1_put_119 : decode cX1_put 119 = .ok (.iload_n 2, 1) := by decide +kernel
theorem dX1_put_120 : decode cX1_put 120 = .ok (.imul, 1) := by decide +kernel
theorem dX1_put_121 : decode cX1_put 121 = .ok (.iload_n 3, 1) := by decide +kernel
theorem dX1_put_122 : decode cX1_put 122 = .ok (.iadd, 1) := by decide +kernel
theorem dX1_put_123 : decode cX1_put 123 = .ok (.iload_n 3, 1) := by decide +kernel
theorem dX1_put_124 : decode cX1_put 124 = .ok (.aload_n 0, 1) := by decide +kernel
theorem dX1_put_125 : decode cX1_put 125 = .ok (.getfield 76, 3) := by decide +kernel
theorem dX1_put_128 : decode cX1_put 128 = .ok (.if_icmp .ge 12, 3) := by decide +kernel
theorem dX1_put_131 : decode cX1_put 131 = .ok (.aload_n 0, 1) := by decide +kernel
theorem dX1_put_132 : decode cX1_put 132 = .ok (.getfield 13, 3) := by decide +kernel
theorem dX1_put_135 : decode cX1_put 135 = .ok (.iload_n 3, 1) := by decide +kernel
theorem dX1_put_136 : decode cX1_put 136 = .ok (.iaload, 1) := by decide +kernel
theorem dX1_put_137 : decode cX1_put 137 = .ok (.goto 4, 3) := by decide +kernel
theorem dX1_put_140 : decode cX1_put 140 = .ok (.iconst 0, 1) := by decide +kernel
theorem dX1_put_141 : decode cX1_put 141 = .ok (.iastore, 1) := by decide +kernel
theorem dX1_put_142 : decode cX1_put 142 = .ok (.iinc 3 1, 3) := by decide +kernel
theorem dX1_put_145 : decode cX1_put 145 = .ok (.goto (-38), 3) := by decide +kernel
theorem dX1_put_148 : decode cX1_put 148 = .ok (.aload_n 0, 1) := by decide +kernel
theorem dX1_put_149 : decode cX1_put 149 = .ok (.iconst 0, 1) := by decide +kernel
theorem dX1_put_150 : decode cX1_put 150 = .ok (.putfield 76, 3) := by decide +kernel
theorem dX1_put_153 : decode cX1_put 153 = .ok (.aload_n 0, 1) := by decide +kernel
theorem dX1_put_154 : decode cX1_put 154 = .ok (.getfield 81, 3) := by decide +kernel
theorem dX1_put_157 : decode cX1_put 157 = .ok (.ireturn, 1) := by decide +kernel
theorem dX1_drop_0 : decode cX1_drop 0 = .ok (.aload_n 0, 1) := by decide +kernel
theorem dX1_drop_1 : decode cX1_drop 1 = .ok (.iconst 0, 1) := by decide +kernel
theorem dX1_drop_2 : decode cX1_drop 2 = .ok (.putfield 31, 3) := by decide +kernel
theorem dX1_drop_5 : decode cX1_drop 5 = .ok (.aload_n 0, 1) := by decide +kernel
theorem dX1_drop_6 : decode cX1_drop 6 = .ok (.getfield 81, 3) := by decide +kernel
theorem dX1_drop_9 : decode cX1_drop 9 = .ok (.istore_n 1, 1) := by decide +kernel
theorem dX1_drop_10 : decode cX1_drop 10 = .ok (.aload_n 0, 1) := by decide +kernel
theorem dX1_drop_11 : decode cX1_drop 11 = .ok (.iconst 0, 1) := by decide +kernel
theorem dX1_drop_12 : decode cX1_drop 12 = .ok (.putfield 81, 3) := by decide +kernel
theorem dX1_drop_15 : decode cX1_drop 15 = .ok (.iload_n 1, 1) := by decide +kernel
theorem dX1_drop_16 : decode cX1_drop 16 = .ok (.ireturn, 1) := by decide +kernel
theorem dX1_ranked_0 : decode cX1_ranked 0 = .ok (.iconst 0, 1) := by decide +kernel
theorem dX1_ranked_1 : decode cX1_ranked 1 = .ok (.istore_n 2, 1) := by decide +kernel
theorem dX1_ranked_2 : decode cX1_ranked 2 = .ok (.iload_n 2, 1) := by decide +kernel
theorem dX1_ranked_3 : decode cX1_ranked 3 = .ok (.aload_n 0, 1) := by decide +kernel
theorem dX1_ranked_4 : decode cX1_ranked 4 = .ok (.getfield 81, 3) := by decide +kernel
theorem dX1_ranked_7 : decode cX1_ranked 7 = .ok (.if_icmp .ge 60, 3) := by decide +kernel
theorem dX1_ranked_10 : decode cX1_ranked 10 = .ok (.iconst 0, 1) := by decide +kernel
theorem dX1_ranked_11 : decode cX1_ranked 11 = .ok (.istore_n 3, 1) := by decide +kernel
theorem dX1_ranked_12 : decode cX1_ranked 12 = .ok (.iconst 0, 1) := by decide +kernel
theorem dX1_ranked_13 : decode cX1_ranked 13 = .ok (.istore 4, 2) := by decide +kernel
theorem dX1_ranked_15 : decode cX1_ranked 15 = .ok (.iload 4, 2) := by decide +kernel
theorem dX1_ranked_17 : decode cX1_ranked 17 = .ok (.aload_n 0, 1) := by decide +kernel
theorem dX1_ranked_18 : decode cX1_ranked 18 = .ok (.getfield 81, 3) := by decide +kernel
theorem dX1_ranked_21 : decode cX1_ranked 21 = .ok (.if_icmp .ge 33, 3) := by decide +kernel
theorem dX1_ranked_24 : decode cX1_ranked 24 = .ok (.iload_n 3, 1) := by decide +kernel
theorem dX1_ranked_25 : decode cX1_ranked 25 = .ok (.aload_n 0, 1) := by decide +kernel
theorem dX1_ranked_26 : decode cX1_ranked 26 = .ok (.getfield 16, 3) := by decide +kernel
theorem dX1_ranked_29 : decode cX1_ranked 29 = .ok (.iload 4, 2) := by decide +kernel
theorem dX1_ranked_31 : decode cX1_ranked 31 = .ok (.iaload, 1) := by decide +kernel
theorem dX1_ranked_32 : decode cX1_ranked 32 = .ok (.aload_n 0, 1) := by decide +kernel
theorem dX1_ranked_33 : decode cX1_ranked 33 = .ok (.getfield 16, 3) := by decide +kernel
theorem dX1_ranked_36 : decode cX1_ranked 36 = .ok (.iload_n 2, 1) := by decide +kernel
theorem dX1_ranked_37 : decode cX1_ranked 37 = .ok (.iaload, 1) := by decide +kernel
theorem dX1_ranked_38 : decode cX1_ranked 38 = .ok (.if_icmp .ge 7, 3) := by decide +kernel
theorem dX1_ranked_41 : decode cX1_ranked 41 = .ok (.iconst 1, 1) := by decide +kernel
theorem dX1_ranked_42 : decode cX1_ranked 42 = .ok (.goto 4, 3) := by decide +kernel
theorem dX1_ranked_45 : decode cX1_ranked 45 = .ok (.iconst 0, 1) := by decide +kernel
theorem dX1_ranked_46 : decode cX1_ranked 46 = .ok (.iadd, 1) := by decide +kernel
theorem dX1_ranked_47 : decode cX1_ranked 47 = .ok (.istore_n 3, 1) := by decide +kernel
theorem dX1_ranked_48 : decode cX1_ranked 48 = .ok (.iinc 4 1, 3) := by decide +kernel
theorem dX1_ranked_51 : decode cX1_ranked 51 = .ok (.goto (-36), 3) := by decide +kernel
theorem dX1_ranked_54 : decode cX1_ranked 54 = .ok (.iload_n 3, 1) := by decide +kernel
theorem dX1_ranked_55 : decode cX1_ranked 55 = .ok (.iload_n 1, 1) := by decide +kernel
theorem dX1_ranked_56 : decode cX1_ranked 56 = .ok (.if_icmp .ne 5, 3) := by decide +kernel
theorem dX1_ranked_59 : decode cX1_ranked 59 = .ok (.iload_n 2, 1) := by decide +kernel
theorem dX1_ranked_60 : decode cX1_ranked 60 = .ok (.ireturn, 1) := by decide +kernel
theorem dX1_ranked_61 : decode cX1_ranked 61 = .ok (.iinc 2 1, 3) := by decide +kernel
theorem dX1_ranked_64 : decode cX1_ranked 64 = .ok (.goto (-62), 3) := by decide +kernel
theorem dX1_ranked_67 : decode cX1_ranked 67 = .ok (.iconst (-1), 1) := by decide +kernel
theorem dX1_ranked_68 : decode cX1_ranked 68 = .ok (.ireturn, 1) := by decide +kernel
theorem dX1_headed_0 : decode cX1_headed 0 = .ok (.iconst 0, 1) := by decide +kernel
theorem dX1_headed_1 : decode cX1_headed 1 = .ok (.istore 4, 2) := by decide +kernel
theorem dX1_headed_3 : decode cX1_headed 3 = .ok (.iload 4, 2) := by decide +kernel
theorem dX1_headed_5 : decode cX1_headed 5 = .ok (.bipush 64, 2) := by decide +kernel
theorem dX1_headed_7 : decode cX1_headed 7 = .ok (.if_icmp .ge 17, 3) := by decide +kernel
theorem dX1_headed_10 : decode cX1_headed 10 = .ok (.aload_n 0, 1) := by decide +kernel
theorem dX1_headed_11 : decode cX1_headed 11 = .ok (.getfield 28, 3) := by decide +kernel
theorem dX1_headed_14 : decode cX1_headed 14 = .ok (.iload 4, 2) := by decide +kernel
theorem dX1_headed_16 : decode cX1_headed 16 = .ok (.iconst 0, 1) := by decide +kernel
theorem dX1_headed_17 : decode cX1_headed 17 = .ok (.iastore, 1) := by decide +kernel
theorem dX1_headed_18 : decode cX1_headed 18 = .ok (.iinc 4 1, 3) := by decide +kernel
theorem dX1_headed_21 : decode cX1_headed 21 = .ok (.goto (-18), 3) := by decide +kernel
theorem dX1_headed_24 : decode cX1_headed 24 = .ok (.iconst 0, 1) := by decide +kernel
theorem dX1_headed_25 : decode cX1_headed 25 = .ok (.istore 4, 2) := by decide +kernel
theorem dX1_headed_27 : decode cX1_headed 27 = .ok (.iload 4, 2) := by decide +kernel
theorem dX1_headed_29 : decode cX1_headed 29 = .ok (.iconst 4, 1) := by decide +kernel
theorem dX1_headed_30 : decode cX1_headed 30 = .ok (.if_icmp .ge 28, 3) := by decide +kernel
theorem dX1_headed_33 : decode cX1_headed 33 = .ok (.aload_n 0, 1) := by decide +kernel
theorem dX1_headed_34 : decode cX1_headed 34 = .ok (.getfield 28, 3) := by decide +kernel
theorem dX1_headed_37 : decode cX1_headed 37 = .ok (.iload 4, 2) := by decide +kernel
theorem dX1_headed_39 : decode cX1_headed 39 = .ok (.lload_n 1, 1) := by decide +kernel
theorem dX1_headed_40 : decode cX1_headed 40 = .ok (.bipush 8, 2) := by decide +kernel
theorem dX1_headed_42 : decode cX1_headed 42 = .ok (.iload 4, 2) := by decide +kernel
theorem dX1_headed_44 : decode cX1_headed 44 = .ok (.imul, 1) := by decide +kernel
theorem dX1_headed_45 : decode cX1_headed 45 = .ok (.lshr, 1) := by decide +kernel
theorem dX1_headed_46 : decode cX1_headed 46 = .ok (.ldc2_w 79, 3) := by decide +kernel
theorem dX1_headed_49 : decode cX1_headed 49 = .ok (.land, 1) := by decide +kernel
theorem dX1_headed_50 : decode cX1_headed 50 = .ok (.l2i, 1) := by decide +kernel
theorem dX1_headed_51 : decode cX1_headed 51 = .ok (.iastore, 1) := by decide +kernel
theorem dX1_headed_52 : decode cX1_headed 52 = .ok (.iinc 4 1, 3) := by decide +kernel
theorem dX1_headed_55 : decode cX1_headed 55 = .ok (.goto (-28), 3) := by decide +kernel
theorem dX1_headed_58 : decode cX1_headed 58 = .ok (.iload_n 3, 1) := by decide +kernel
theorem dX1_headed_59 : decode cX1_headed 59 = .ok (.ifCond .ne 4, 3) := by decide +kernel
theorem dX1_headed_62 : decode cX1_headed 62 = .ok (.return_, 1) := by decide +kernel
theorem dX1_headed_63 : decode cX1_headed 63 = .ok (.aload_n 0, 1) := by decide +kernel
theorem dX1_headed_64 : decode cX1_headed 64 = .ok (.getfield 28, 3) := by decide +kernel
theorem dX1_headed_67 : decode cX1_headed 67 = .ok (.iconst 4, 1) := by decide +kernel
theorem dX1_headed_68 : decode cX1_headed 68 = .ok (.iload_n 3, 1) := by decide +kernel
theorem dX1_headed_69 : decode cX1_headed 69 = .ok (.iastore, 1) := by decide +kernel
theorem dX1_headed_70 : decode cX1_headed 70 = .ok (.aload_n 0, 1) := by decide +kernel
theorem dX1_headed_71 : decode cX1_headed 71 = .ok (.iload_n 3, 1) := by decide +kernel
theorem dX1_headed_72 : decode cX1_headed 72 = .ok (.invokevirtual 66, 3) := by decide +kernel
theorem dX1_headed_75 : decode cX1_headed 75 = .ok (.lstore 4, 2) := by decide +kernel
theorem dX1_headed_77 : decode cX1_headed 77 = .ok (.iconst 0, 1) := by decide +kernel
theorem dX1_headed_78 : decode cX1_headed 78 = .ok (.istore 6, 2) := by decide +kernel
theorem dX1_headed_80 : decode cX1_headed 80 = .ok (.iload 6, 2) := by decide +kernel
theorem dX1_headed_82 : decode cX1_headed 82 = .ok (.iload_n 3, 1) := by decide +kernel
theorem dX1_headed_83 : decode cX1_headed 83 = .ok (.if_icmp .ge 61, 3) := by decide +kernel
theorem dX1_headed_86 : decode cX1_headed 86 = .ok (.aload_n 0, 1) := by decide +kernel
theorem dX1_headed_87 : decode cX1_headed 87 = .ok (.getfield 28, 3) := by decide +kernel
theorem dX1_headed_90 : decode cX1_headed 90 = .ok (.iconst 5, 1) := by decide +kernel
theorem dX1_headed_91 : decode cX1_headed 91 = .ok (.iconst 2, 1) := by decide +kernel
theorem dX1_headed_92 : decode cX1_headed 92 = .ok (.iload 6, 2) := by decide +kernel
theorem dX1_headed_94 : decode cX1_headed 94 = .ok (.imul, 1) := by decide +kernel
theorem dX1_headed_95 : decode cX1_headed 95 = .ok (.iadd, 1) := by decide +kernel
theorem dX1_headed_96 : decode cX1_headed 96 = .ok (.aload_n 0, 1) := by decide +kernel
theorem dX1_headed_97 : decode cX1_headed 97 = .ok (.getfield 16, 3) := by decide +kernel
theorem dX1_headed_100 : decode cX1_headed 100 = .ok (.aload_n 0, 1) := by decide +kernel
theorem dX1_headed_101 : decode cX1_headed 101 = .ok (.iload 6, 2) := by decide +kernel
theorem dX1_headed_103 : decode cX1_headed 103 = .ok (.invokevirtual 87, 3) := by decide +kernel
theorem dX1_headed_106 : decode cX1_headed 106 = .ok (.iaload, 1) := by decide +kernel
theorem dX1_headed_107 : decode cX1_headed 107 = .ok (.sipush 255, 3) := by decide +kernel
theorem dX1_headed_110 : decode cX1_headed 110 = .ok (.iand, 1) := by decide +kernel
theorem dX1_headed_111 : decode cX1_headed 111 = .ok (.iastore, 1) := by decide +kernel
theorem dX1_headed_112 : decode cX1_headed 112 = .ok (.aload_n 0, 1) := by decide +kernel
theorem dX1_headed_113 : decode cX1_headed 113 = .ok (.getfield 28, 3) := by decide +kernel
theorem dX1_headed_116 : decode cX1_headed 116 = .ok (.bipush 6, 2) := by decide +kernel
theorem dX1_headed_118 : decode cX1_headed 118 = .ok (.iconst 2, 1) := by decide +kernel
theorem dX1_headed_119 : decode cX1_headed 119 = .ok (.iload 6, 2) := by decide +kernel
theorem dX1_headed_121 : decode cX1_headed 121 = .ok (.imul, 1) := by decide +kernel
theorem dX1_headed_122 : decode cX1_headed 122 = .ok (.iadd, 1) := by decide +kernel
theorem dX1_headed_123 : decode cX1_headed 123 = .ok (.aload_n 0, 1) := by decide +kernel
theorem dX1_headed_124 : decode cX1_headed 124 = .ok (.getfield 16, 3) := by decide +kernel
theorem dX1_headed_127 : decode cX1_headed 127 = .ok (.aload_n 0, 1) := by decide +kernel
theorem dX1_headed_128 : decode cX1_headed 128 = .ok (.iload 6, 2) := by decide +kernel
theorem dX1_headed_130 : decode cX1_headed 130 = .ok (.invokevirtual 87, 3) := by decide +kernel
theorem dX1_headed_133 : decode cX1_headed 133 = .ok (.iaload, 1) := by decide +kernel
theorem dX1_headed_134 : decode cX1_headed 134 = .ok (.bipush 8, 2) := by decide +kernel
theorem dX1_headed_136 : decode cX1_headed 136 = .ok (.ishr, 1) := by decide +kernel
theorem dX1_headed_137 : decode cX1_headed 137 = .ok (.iastore, 1) := by decide +kernel
theorem dX1_headed_138 : decode cX1_headed 138 = .ok (.iinc 6 1, 3) := by decide +kernel
theorem dX1_headed_141 : decode cX1_headed 141 = .ok (.goto (-61), 3) := by decide +kernel
theorem dX1_headed_144 : decode cX1_headed 144 = .ok (.iconst 0, 1) := by decide +kernel
theorem dX1_headed_145 : decode cX1_headed 145 = .ok (.istore 6, 2) := by decide +kernel
theorem dX1_headed_147 : decode cX1_headed 147 = .ok (.iload 6, 2) := by decide +kernel
theorem dX1_headed_149 : decode cX1_headed 149 = .ok (.iconst 4, 1) := by decide +kernel
theorem dX1_headed_150 : decode cX1_headed 150 = .ok (.if_icmp .ge 32, 3) := by decide +kernel
theorem dX1_headed_153 : decode cX1_headed 153 = .ok (.aload_n 0, 1) := by decide +kernel
theorem dX1_headed_154 : decode cX1_headed 154 = .ok (.getfield 28, 3) := by decide +kernel
theorem dX1_headed_157 : decode cX1_headed 157 = .ok (.bipush 59, 2) := by decide +kernel
theorem dX1_headed_159 : decode cX1_headed 159 = .ok (.iload 6, 2) := by decide +kernel
theorem dX1_headed_161 : decode cX1_headed 161 = .ok (.iadd, 1) := by decide +kernel
theorem dX1_headed_162 : decode cX1_headed 162 = .ok (.lload 4, 2) := by decide +kernel
theorem dX1_headed_164 : decode cX1_headed 164 = .ok (.bipush 8, 2) := by decide +kernel
theorem dX1_headed_166 : decode cX1_headed 166 = .ok (.iload 6, 2) := by decide +kernel
theorem dX1_headed_168 : decode cX1_headed 168 = .ok (.imul, 1) := by decide +kernel
theorem dX1_headed_169 : decode cX1_headed 169 = .ok (.lshr, 1) := by decide +kernel
theorem dX1_headed_170 : decode cX1_headed 170 = .ok (.ldc2_w 79, 3) := by decide +kernel
theorem dX1_headed_173 : decode cX1_headed 173 = .ok (.land, 1) := by decide +kernel
theorem dX1_headed_174 : decode cX1_headed 174 = .ok (.l2i, 1) := by decide +kernel
theorem dX1_headed_175 : decode cX1_headed 175 = .ok (.iastore, 1) := by decide +kernel
theorem dX1_headed_176 : decode cX1_headed 176 = .ok (.iinc 6 1, 3) := by decide +kernel
theorem dX1_headed_179 : decode cX1_headed 179 = .ok (.goto (-32), 3) := by decide +kernel
theorem dX1_headed_182 : decode cX1_headed 182 = .ok (.return_, 1) := by decide +kernel
theorem dX1_commits_0 : decode cX1_commits 0 = .ok (.iload_n 1, 1) := by decide +kernel
theorem dX1_commits_1 : decode cX1_commits 1 = .ok (.iload_n 2, 1) := by decide +kernel
theorem dX1_commits_2 : decode cX1_commits 2 = .ok (.if_icmp .eq 12, 3) := by decide +kernel
theorem dX1_commits_5 : decode cX1_commits 5 = .ok (.iload_n 1, 1) := by decide +kernel
theorem dX1_commits_6 : decode cX1_commits 6 = .ok (.iconst 2, 1) := by decide +kernel
theorem dX1_commits_7 : decode cX1_commits 7 = .ok (.iload_n 2, 1) := by decide +kernel
theorem dX1_commits_8 : decode cX1_commits 8 = .ok (.imul, 1) := by decide +kernel
theorem dX1_commits_9 : decode cX1_commits 9 = .ok (.iconst 1, 1) := by decide +kernel
theorem dX1_commits_10 : decode cX1_commits 10 = .ok (.iadd, 1) := by decide +kernel
theorem dX1_commits_11 : decode cX1_commits 11 = .ok (.if_icmp .ne 35, 3) := by decide +kernel
theorem dX1_commits_14 : decode cX1_commits 14 = .ok (.aload_n 0, 1) := by decide +kernel
theorem dX1_commits_15 : decode cX1_commits 15 = .ok (.iload_n 1, 1) := by decide +kernel
theorem dX1_commits_16 : decode cX1_commits 16 = .ok (.iload_n 2, 1) := by decide +kernel
theorem dX1_commits_17 : decode cX1_commits 17 = .ok (.if_icmp .ne 7, 3) := by decide +kernel
theorem dX1_commits_20 : decode cX1_commits 20 = .ok (.lload_n 3, 1) := by decide +kernel
theorem dX1_commits_21 : decode cX1_commits 21 = .ok (.goto 6, 3) := by decide +kernel
theorem dX1_commits_24 : decode cX1_commits 24 = .ok (.lload_n 3, 1) := by decide +kernel
theorem dX1_commits_25 : decode cX1_commits 25 = .ok (.lconst 1, 1) := by decide +kernel
theorem dX1_commits_26 : decode cX1_commits 26 = .ok (.ladd, 1) := by decide +kernel
theorem dX1_commits_27 : decode cX1_commits 27 = .ok (.iload_n 1, 1) := by decide +kernel
theorem dX1_commits_28 : decode cX1_commits 28 = .ok (.iload_n 2, 1) := by decide +kernel
theorem dX1_commits_29 : decode cX1_commits 29 = .ok (.if_icmp .ne 7, 3) := by decide +kernel
theorem dX1_commits_32 : decode cX1_commits 32 = .ok (.iload_n 2, 1) := by decide +kernel
theorem dX1_commits_33 : decode cX1_commits 33 = .ok (.goto 4, 3) := by decide +kernel
theorem dX1_commits_36 : decode cX1_commits 36 = .ok (.iconst 0, 1) := by decide +kernel
theorem dX1_commits_37 : decode cX1_commits 37 = .ok (.invokevirtual 90, 3) := by decide +kernel
theorem dX1_commits_40 : decode cX1_commits 40 = .ok (.aload_n 0, 1) := by decide +kernel
theorem dX1_commits_41 : decode cX1_commits 41 = .ok (.iconst 0, 1) := by decide +kernel
theorem dX1_commits_42 : decode cX1_commits 42 = .ok (.invokevirtual 94, 3) := by decide +kernel
theorem dX1_commits_45 : decode cX1_commits 45 = .ok (.ireturn, 1) := by decide +kernel
theorem dX1_commits_46 : decode cX1_commits 46 = .ok (.aload_n 0, 1) := by decide +kernel
theorem dX1_commits_47 : decode cX1_commits 47 = .ok (.iload_n 1, 1) := by decide +kernel
theorem dX1_commits_48 : decode cX1_commits 48 = .ok (.iload_n 2, 1) := by decide +kernel
theorem dX1_commits_49 : decode cX1_commits 49 = .ok (.if_icmp .ge 7, 3) := by decide +kernel
theorem dX1_commits_52 : decode cX1_commits 52 = .ok (.iload_n 1, 1) := by decide +kernel
theorem dX1_commits_53 : decode cX1_commits 53 = .ok (.goto 8, 3) := by decide +kernel
theorem dX1_commits_56 : decode cX1_commits 56 = .ok (.iload_n 1, 1) := by decide +kernel
theorem dX1_commits_57 : decode cX1_commits 57 = .ok (.iload_n 2, 1) := by decide +kernel
theorem dX1_commits_58 : decode cX1_commits 58 = .ok (.isub, 1) := by decide +kernel
theorem dX1_commits_59 : decode cX1_commits 59 = .ok (.iconst 1, 1) := by decide +kernel
theorem dX1_commits_60 : decode cX1_commits 60 = .ok (.isub, 1) := by decide +kernel
theorem dX1_commits_61 : decode cX1_commits 61 = .ok (.invokevirtual 87, 3) := by decide +kernel
theorem dX1_commits_64 : decode cX1_commits 64 = .ok (.istore 5, 2) := by decide +kernel
theorem dX1_commits_66 : decode cX1_commits 66 = .ok (.iconst 0, 1) := by decide +kernel
theorem dX1_commits_67 : decode cX1_commits 67 = .ok (.istore 6, 2) := by decide +kernel
theorem dX1_commits_69 : decode cX1_commits 69 = .ok (.iload 6, 2) := by decide +kernel
theorem dX1_commits_71 : decode cX1_commits 71 = .ok (.bipush 64, 2) := by decide +kernel
theorem dX1_commits_73 : decode cX1_commits 73 = .ok (.if_icmp .ge 29, 3) := by decide +kernel
theorem dX1_commits_76 : decode cX1_commits 76 = .ok (.aload_n 0, 1) := by decide +kernel
theorem dX1_commits_77 : decode cX1_commits 77 = .ok (.getfield 28, 3) := by decide +kernel
theorem dX1_commits_80 : decode cX1_commits 80 = .ok (.iload 6, 2) := by decide +kernel
theorem dX1_commits_82 : decode cX1_commits 82 = .ok (.aload_n 0, 1) := by decide +kernel
theorem dX1_commits_83 : decode cX1_commits 83 = .ok (.getfield 19, 3) := by decide +kernel
theorem dX1_commits_86 : decode cX1_commits 86 = .ok (.bipush 64, 2) := by decide +kernel
theorem dX1_commits_88 : decode cX1_commits 88 = .ok (.iload 5, 2) := by decide +kernel
theorem dX1_commits_90 : decode cX1_commits 90 = .ok (.imul, 1) := by decide +kernel
theorem dX1_commits_91 : decode cX1_commits 91 = .ok (.iload 6, 2) := by decide +kernel
theorem dX1_commits_93 : decode cX1_commits 93 = .ok (.iadd, 1) := by decide +kernel
theorem dX1_commits_94 : decode cX1_commits 94 = .ok (.iaload, 1) := by decide +kernel
theorem dX1_commits_95 : decode cX1_commits 95 = .ok (.iastore, 1) := by decide +kernel
theorem dX1_commits_96 : decode cX1_commits 96 = .ok (.iinc 6 1, 3) := by decide +kernel
theorem dX1_commits_99 : decode cX1_commits 99 = .ok (.goto (-30), 3) := by decide +kernel
theorem dX1_commits_102 : decode cX1_commits 102 = .ok (.aload_n 0, 1) := by decide +kernel
theorem dX1_commits_103 : decode cX1_commits 103 = .ok (.iload_n 1, 1) := by decide +kernel
theorem dX1_commits_104 : decode cX1_commits 104 = .ok (.iload_n 2, 1) := by decide +kernel
theorem dX1_commits_105 : decode cX1_commits 105 = .ok (.if_icmp .ge 9, 3) := by decide +kernel
theorem dX1_commits_108 : decode cX1_commits 108 = .ok (.iconst 1, 1) := by decide +kernel
theorem dX1_commits_109 : decode cX1_commits 109 = .ok (.iload_n 1, 1) := by decide +kernel
theorem dX1_commits_110 : decode cX1_commits 110 = .ok (.iadd, 1) := by decide +kernel
theorem dX1_commits_111 : decode cX1_commits 111 = .ok (.goto 10, 3) := by decide +kernel
theorem dX1_commits_114 : decode cX1_commits 114 = .ok (.aload_n 0, 1) := by decide +kernel
theorem dX1_commits_115 : decode cX1_commits 115 = .ok (.getfield 16, 3) := by decide +kernel
theorem dX1_commits_118 : decode cX1_commits 118 = .ok (.iload 5, 2) := by decide +kernel
theorem dX1_commits_120 : decode cX1_commits 120 = .ok (.iaload, 1) := by decide +kernel
theorem dX1_commits_121 : decode cX1_commits 121 = .ok (.invokevirtual 94, 3) := by decide +kernel
theorem dX1_commits_124 : decode cX1_commits 124 = .ok (.ireturn, 1) := by decide +kernel
theorem dX1_commit_0 : decode cX1_commit 0 = .ok (.aload_n 0, 1) := by decide +kernel
theorem dX1_commit_1 : decode cX1_commit 1 = .ok (.aload_n 0, 1) := by decide +kernel
theorem dX1_commit_2 : decode cX1_commit 2 = .ok (.getfield 81, 3) := by decide +kernel
theorem dX1_commit_5 : decode cX1_commit 5 = .ok (.ifCond .eq 10, 3) := by decide +kernel
theorem dX1_commit_8 : decode cX1_commit 8 = .ok (.aload_n 0, 1) := by decide +kernel
theorem dX1_commit_9 : decode cX1_commit 9 = .ok (.getfield 35, 3) := by decide +kernel
theorem dX1_commit_12 : decode cX1_commit 12 = .ok (.ifCond .eq 7, 3) := by decide +kernel
theorem dX1_commit_15 : decode cX1_commit 15 = .ok (.iconst 1, 1) := by decide +kernel
theorem dX1_commit_16 : decode cX1_commit 16 = .ok (.goto 4, 3) := by decide +kernel
theorem dX1_commit_19 : decode cX1_commit 19 = .ok (.iconst 0, 1) := by decide +kernel
theorem dX1_commit_20 : decode cX1_commit 20 = .ok (.iconst 1, 1) := by decide +kernel
theorem dX1_commit_21 : decode cX1_commit 21 = .ok (.invokevirtual 72, 3) := by decide +kernel
theorem dX1_commit_24 : decode cX1_commit 24 = .ok (.ifCond .eq 5, 3) := by decide +kernel
theorem dX1_commit_27 : decode cX1_commit 27 = .ok (.iconst 0, 1) := by decide +kernel
theorem dX1_commit_28 : decode cX1_commit 28 = .ok (.ireturn, 1) := by decide +kernel
theorem dX1_commit_29 : decode cX1_commit 29 = .ok (.aload_n 0, 1) := by decide +kernel
theorem dX1_commit_30 : decode cX1_commit 30 = .ok (.iconst 0, 1) := by decide +kernel
theorem dX1_commit_31 : decode cX1_commit 31 = .ok (.iconst 4, 1) := by decide +kernel
theorem dX1_commit_32 : decode cX1_commit 32 = .ok (.invokevirtual 48, 3) := by decide +kernel
theorem dX1_commit_35 : decode cX1_commit 35 = .ok (.lstore_n 1, 1) := by decide +kernel
theorem dX1_commit_36 : decode cX1_commit 36 = .ok (.iconst 1, 1) := by decide +kernel
theorem dX1_commit_37 : decode cX1_commit 37 = .ok (.istore_n 3, 1) := by decide +kernel
theorem dX1_commit_38 : decode cX1_commit 38 = .ok (.iconst 0, 1) := by decide +kernel
theorem dX1_commit_39 : decode cX1_commit 39 = .ok (.istore 4, 2) := by decide +kernel
theorem dX1_commit_41 : decode cX1_commit 41 = .ok (.iload 4, 2) := by decide +kernel
theorem dX1_commit_43 : decode cX1_commit 43 = .ok (.iconst 2, 1) := by decide +kernel
theorem dX1_commit_44 : decode cX1_commit 44 = .ok (.aload_n 0, 1) := by decide +kernel
theorem dX1_commit_45 : decode cX1_commit 45 = .ok (.getfield 81, 3) := by decide +kernel
theorem dX1_commit_48 : decode cX1_commit 48 = .ok (.imul, 1) := by decide +kernel
theorem dX1_commit_49 : decode cX1_commit 49 = .ok (.iconst 2, 1) := by decide +kernel
theorem dX1_commit_50 : decode cX1_commit 50 = .ok (.iadd, 1) := by decide +kernel
theorem dX1_commit_51 : decode cX1_commit 51 = .ok (.if_icmp .ge 25, 3) := by decide +kernel
theorem dX1_commit_54 : decode cX1_commit 54 = .ok (.iload_n 3, 1) := by decide +kernel
theorem dX1_commit_55 : decode cX1_commit 55 = .ok (.ifCond .eq 21, 3) := by decide +kernel
theorem dX1_commit_58 : decode cX1_commit 58 = .ok (.aload_n 0, 1) := by decide +kernel
theorem dX1_commit_59 : decode cX1_commit 59 = .ok (.iload 4, 2) := by decide +kernel
theorem dX1_commit_61 : decode cX1_commit 61 = .ok (.aload_n 0, 1) := by decide +kernel
theorem dX1_commit_62 : decode cX1_commit 62 = .ok (.getfield 81, 3) := by decide +kernel
theorem dX1_commit_65 : decode cX1_commit 65 = .ok (.lload_n 1, 1) := by decide +kernel
theorem dX1_commit_66 : decode cX1_commit 66 = .ok (.invokevirtual 98, 3) := by decide +kernel
theorem dX1_commit_69 : decode cX1_commit 69 = .ok (.istore_n 3, 1) := by decide +kernel
theorem dX1_commit_70 : decode cX1_commit 70 = .ok (.iinc 4 1, 3) := by decide +kernel
theorem dX1_commit_73 : decode cX1_commit 73 = .ok (.goto (-32), 3) := by decide +kernel
theorem dX1_commit_76 : decode cX1_commit 76 = .ok (.aload_n 0, 1) := by decide +kernel
theorem dX1_commit_77 : decode cX1_commit 77 = .ok (.iconst 0, 1) := by decide +kernel
theorem dX1_commit_78 : decode cX1_commit 78 = .ok (.putfield 81, 3) := by decide +kernel
theorem dX1_commit_81 : decode cX1_commit 81 = .ok (.iload_n 3, 1) := by decide +kernel
theorem dX1_commit_82 : decode cX1_commit 82 = .ok (.ireturn, 1) := by decide +kernel
theorem dX1_recover_0 : decode cX1_recover 0 = .ok (.aload_n 0, 1) := by decide +kernel
theorem dX1_recover_1 : decode cX1_recover 1 = .ok (.aload_n 0, 1) := by decide +kernel
theorem dX1_recover_2 : decode cX1_recover 2 = .ok (.getfield 35, 3) := by decide +kernel
theorem dX1_recover_5 : decode cX1_recover 5 = .ok (.iconst 1, 1) := by decide +kernel
theorem dX1_recover_6 : decode cX1_recover 6 = .ok (.invokevirtual 72, 3) := by decide +kernel
theorem dX1_recover_9 : decode cX1_recover 9 = .ok (.ifCond .eq 5, 3) := by decide +kernel
theorem dX1_recover_12 : decode cX1_recover 12 = .ok (.iconst 0, 1) := by decide +kernel
theorem dX1_recover_13 : decode cX1_recover 13 = .ok (.ireturn, 1) := by decide +kernel
theorem dX1_recover_14 : decode cX1_recover 14 = .ok (.aload_n 0, 1) := by decide +kernel
theorem dX1_recover_15 : decode cX1_recover 15 = .ok (.invokevirtual 102, 3) := by decide +kernel
theorem dX1_recover_18 : decode cX1_recover 18 = .ok (.ifCond .ne 5, 3) := by decide +kernel
theorem dX1_recover_21 : decode cX1_recover 21 = .ok (.iconst 0, 1) := by decide +kernel
theorem dX1_recover_22 : decode cX1_recover 22 = .ok (.ireturn, 1) := by decide +kernel
theorem dX1_recover_23 : decode cX1_recover 23 = .ok (.aload_n 0, 1) := by decide +kernel
theorem dX1_recover_24 : decode cX1_recover 24 = .ok (.getfield 7, 3) := by decide +kernel
theorem dX1_recover_27 : decode cX1_recover 27 = .ok (.iconst 4, 1) := by decide +kernel
theorem dX1_recover_28 : decode cX1_recover 28 = .ok (.iaload, 1) := by decide +kernel
theorem dX1_recover_29 : decode cX1_recover 29 = .ok (.istore_n 1, 1) := by decide +kernel
theorem dX1_recover_30 : decode cX1_recover 30 = .ok (.aload_n 0, 1) := by decide +kernel
theorem dX1_recover_31 : decode cX1_recover 31 = .ok (.iconst 0, 1) := by decide +kernel
theorem dX1_recover_32 : decode cX1_recover 32 = .ok (.iconst 4, 1) := by decide +kernel
theorem dX1_recover_33 : decode cX1_recover 33 = .ok (.invokevirtual 48, 3) := by decide +kernel
theorem dX1_recover_36 : decode cX1_recover 36 = .ok (.lstore_n 2, 1) := by decide +kernel
theorem dX1_recover_37 : decode cX1_recover 37 = .ok (.iconst 0, 1) := by decide +kernel
theorem dX1_recover_38 : decode cX1_recover 38 = .ok (.istore 4, 2) := by decide +kernel
theorem dX1_recover_40 : decode cX1_recover 40 = .ok (.iload 4, 2) := by decide +kernel
theorem dX1_recover_42 : decode cX1_recover 42 = .ok (.iload_n 1, 1) := by decide +kernel
theorem dX1_recover_43 : decode cX1_recover 43 = .ok (.if_icmp .ge 62, 3) := by decide +kernel
theorem dX1_recover_46 : decode cX1_recover 46 = .ok (.iconst 0, 1) := by decide +kernel
theorem dX1_recover_47 : decode cX1_recover 47 = .ok (.istore 5, 2) := by decide +kernel
theorem dX1_recover_49 : decode cX1_recover 49 = .ok (.iload 5, 2) := by decide +kernel
theorem dX1_recover_51 : decode cX1_recover 51 = .ok (.bipush 64, 2) := by decide +kernel
theorem dX1_recover_53 : decode cX1_recover 53 = .ok (.if_icmp .ge 31, 3) := by decide +kernel
theorem dX1_recover_56 : decode cX1_recover 56 = .ok (.aload_n 0, 1) := by decide +kernel
theorem dX1_recover_57 : decode cX1_recover 57 = .ok (.getfield 28, 3) := by decide +kernel
theorem dX1_recover_60 : decode cX1_recover 60 = .ok (.iload 5, 2) := by decide +kernel
theorem dX1_recover_62 : decode cX1_recover 62 = .ok (.aload_n 0, 1) := by decide +kernel
theorem dX1_recover_63 : decode cX1_recover 63 = .ok (.getfield 7, 3) := by decide +kernel
theorem dX1_recover_66 : decode cX1_recover 66 = .ok (.bipush 64, 2) := by decide +kernel
theorem dX1_recover_68 : decode cX1_recover 68 = .ok (.iconst 1, 1) := by decide +kernel
theorem dX1_recover_69 : decode cX1_recover 69 = .ok (.iload 4, 2) := by decide +kernel
theorem dX1_recover_71 : decode cX1_recover 71 = .ok (.iadd, 1) := by decide +kernel
theorem dX1_recover_72 : decode cX1_recover 72 = .ok (.imul, 1) := by decide +kernel
theorem dX1_recover_73 : decode cX1_recover 73 = .ok (.iload 5, 2) := by decide +kernel
theorem dX1_recover_75 : decode cX1_recover 75 = .ok (.iadd, 1) := by decide +kernel
theorem dX1_recover_76 : decode cX1_recover 76 = .ok (.iaload, 1) := by decide +kernel
theorem dX1_recover_77 : decode cX1_recover 77 = .ok (.iastore, 1) := by decide +kernel
theorem dX1_recover_78 : decode cX1_recover 78 = .ok (.iinc 5 1, 3) := by decide +kernel
theorem dX1_recover_81 : decode cX1_recover 81 = .ok (.goto (-32), 3) := by decide +kernel
theorem dX1_recover_84 : decode cX1_recover 84 = .ok (.aload_n 0, 1) := by decide +kernel
theorem dX1_recover_85 : decode cX1_recover 85 = .ok (.aload_n 0, 1) := by decide +kernel
theorem dX1_recover_86 : decode cX1_recover 86 = .ok (.iload 4, 2) := by decide +kernel
theorem dX1_recover_88 : decode cX1_recover 88 = .ok (.invokevirtual 58, 3) := by decide +kernel
theorem dX1_recover_91 : decode cX1_recover 91 = .ok (.invokevirtual 94, 3) := by decide +kernel
theorem dX1_recover_94 : decode cX1_recover 94 = .ok (.ifCond .ne 5, 3) := by decide +kernel
theorem dX1_recover_97 : decode cX1_recover 97 = .ok (.iconst (-1), 1) := by decide +kernel
theorem dX1_recover_98 : decode cX1_recover 98 = .ok (.ireturn, 1) := by decide +kernel
theorem dX1_recover_99 : decode cX1_recover 99 = .ok (.iinc 4 1, 3) := by decide +kernel
theorem dX1_recover_102 : decode cX1_recover 102 = .ok (.goto (-62), 3) := by decide +kernel
theorem dX1_recover_105 : decode cX1_recover 105 = .ok (.aload_n 0, 1) := by decide +kernel
theorem dX1_recover_106 : decode cX1_recover 106 = .ok (.lload_n 2, 1) := by decide +kernel
theorem dX1_recover_107 : decode cX1_recover 107 = .ok (.lconst 1, 1) := by decide +kernel
theorem dX1_recover_108 : decode cX1_recover 108 = .ok (.ladd, 1) := by decide +kernel
theorem dX1_recover_109 : decode cX1_recover 109 = .ok (.iconst 0, 1) := by decide +kernel
theorem dX1_recover_110 : decode cX1_recover 110 = .ok (.invokevirtual 90, 3) := by decide +kernel
theorem dX1_recover_113 : decode cX1_recover 113 = .ok (.aload_n 0, 1) := by decide +kernel
theorem dX1_recover_114 : decode cX1_recover 114 = .ok (.iconst 0, 1) := by decide +kernel
theorem dX1_recover_115 : decode cX1_recover 115 = .ok (.invokevirtual 94, 3) := by decide +kernel
theorem dX1_recover_118 : decode cX1_recover 118 = .ok (.ifCond .eq 7, 3) := by decide +kernel
theorem dX1_recover_121 : decode cX1_recover 121 = .ok (.iload_n 1, 1) := by decide +kernel
theorem dX1_recover_122 : decode cX1_recover 122 = .ok (.goto 4, 3) := by decide +kernel
theorem dX1_recover_125 : decode cX1_recover 125 = .ok (.iconst (-1), 1) := by decide +kernel
theorem dX1_recover_126 : decode cX1_recover 126 = .ok (.ireturn, 1) := by decide +kernel
theorem dX1_lose_0 : decode cX1_lose 0 = .ok (.aload_n 0, 1) := by decide +kernel
theorem dX1_lose_1 : decode cX1_lose 1 = .ok (.iload_n 1, 1) := by decide +kernel
theorem dX1_lose_2 : decode cX1_lose 2 = .ok (.iconst 1, 1) := by decide +kernel
theorem dX1_lose_3 : decode cX1_lose 3 = .ok (.if_icmp .ge 7, 3) := by decide +kernel
theorem dX1_lose_6 : decode cX1_lose 6 = .ok (.iconst 1, 1) := by decide +kernel
theorem dX1_lose_7 : decode cX1_lose 7 = .ok (.goto 4, 3) := by decide +kernel
theorem dX1_lose_10 : decode cX1_lose 10 = .ok (.iconst 0, 1) := by decide +kernel
theorem dX1_lose_11 : decode cX1_lose 11 = .ok (.iconst 1, 1) := by decide +kernel
theorem dX1_lose_12 : decode cX1_lose 12 = .ok (.invokevirtual 72, 3) := by decide +kernel
theorem dX1_lose_15 : decode cX1_lose 15 = .ok (.ifCond .ne 15, 3) := by decide +kernel
theorem dX1_lose_18 : decode cX1_lose 18 = .ok (.aload_n 0, 1) := by decide +kernel
theorem dX1_lose_19 : decode cX1_lose 19 = .ok (.aload_n 0, 1) := by decide +kernel
theorem dX1_lose_20 : decode cX1_lose 20 = .ok (.getfield 35, 3) := by decide +kernel
theorem dX1_lose_23 : decode cX1_lose 23 = .ok (.iconst 2, 1) := by decide +kernel
theorem dX1_lose_24 : decode cX1_lose 24 = .ok (.invokevirtual 72, 3) := by decide +kernel
theorem dX1_lose_27 : decode cX1_lose 27 = .ok (.ifCond .eq 4, 3) := by decide +kernel
theorem dX1_lose_30 : decode cX1_lose 30 = .ok (.return_, 1) := by decide +kernel
theorem dX1_lose_31 : decode cX1_lose 31 = .ok (.aload_n 0, 1) := by decide +kernel
theorem dX1_lose_32 : decode cX1_lose 32 = .ok (.iload_n 1, 1) := by decide +kernel
theorem dX1_lose_33 : decode cX1_lose 33 = .ok (.i2l, 1) := by decide +kernel
theorem dX1_lose_34 : decode cX1_lose 34 = .ok (.lconst 1, 1) := by decide +kernel
theorem dX1_lose_35 : decode cX1_lose 35 = .ok (.lsub, 1) := by decide +kernel
theorem dX1_lose_36 : decode cX1_lose 36 = .ok (.putfield 24, 3) := by decide +kernel
theorem dX1_lose_39 : decode cX1_lose 39 = .ok (.return_, 1) := by decide +kernel
theorem dX1_power_0 : decode cX1_power 0 = .ok (.aload_n 0, 1) := by decide +kernel
theorem dX1_power_1 : decode cX1_power 1 = .ok (.iconst 0, 1) := by decide +kernel
theorem dX1_power_2 : decode cX1_power 2 = .ok (.putfield 31, 3) := by decide +kernel
theorem dX1_power_5 : decode cX1_power 5 = .ok (.aload_n 0, 1) := by decide +kernel
theorem dX1_power_6 : decode cX1_power 6 = .ok (.getfield 35, 3) := by decide +kernel
theorem dX1_power_9 : decode cX1_power 9 = .ok (.istore_n 1, 1) := by decide +kernel
theorem dX1_power_10 : decode cX1_power 10 = .ok (.aload_n 0, 1) := by decide +kernel
theorem dX1_power_11 : decode cX1_power 11 = .ok (.iconst 0, 1) := by decide +kernel
theorem dX1_power_12 : decode cX1_power 12 = .ok (.putfield 35, 3) := by decide +kernel
theorem dX1_power_15 : decode cX1_power 15 = .ok (.aload_n 0, 1) := by decide +kernel
theorem dX1_power_16 : decode cX1_power 16 = .ok (.ldc2_w 22, 3) := by decide +kernel
theorem dX1_power_19 : decode cX1_power 19 = .ok (.putfield 24, 3) := by decide +kernel
theorem dX1_power_22 : decode cX1_power 22 = .ok (.iload_n 1, 1) := by decide +kernel
theorem dX1_power_23 : decode cX1_power 23 = .ok (.ireturn, 1) := by decide +kernel
theorem dX1_spoil_0 : decode cX1_spoil 0 = .ok (.aload_n 0, 1) := by decide +kernel
theorem dX1_spoil_1 : decode cX1_spoil 1 = .ok (.iload_n 1, 1) := by decide +kernel
theorem dX1_spoil_2 : decode cX1_spoil 2 = .ok (.i2l, 1) := by decide +kernel
theorem dX1_spoil_3 : decode cX1_spoil 3 = .ok (.lconst 0, 1) := by decide +kernel
theorem dX1_spoil_4 : decode cX1_spoil 4 = .ok (.ldc2_w 64, 3) := by decide +kernel
theorem dX1_spoil_7 : decode cX1_spoil 7 = .ok (.invokestatic 54, 3) := by decide +kernel
theorem dX1_spoil_10 : decode cX1_spoil 10 = .ok (.ifCond .eq 15, 3) := by decide +kernel
theorem dX1_spoil_13 : decode cX1_spoil 13 = .ok (.iload_n 2, 1) := by decide +kernel
theorem dX1_spoil_14 : decode cX1_spoil 14 = .ok (.i2l, 1) := by decide +kernel
theorem dX1_spoil_15 : decode cX1_spoil 15 = .ok (.lconst 0, 1) := by decide +kernel
theorem dX1_spoil_16 : decode cX1_spoil 16 = .ok (.ldc2_w 106, 3) := by decide +kernel
theorem dX1_spoil_19 : decode cX1_spoil 19 = .ok (.invokestatic 54, 3) := by decide +kernel
theorem dX1_spoil_22 : decode cX1_spoil 22 = .ok (.ifCond .ne 7, 3) := by decide +kernel
theorem dX1_spoil_25 : decode cX1_spoil 25 = .ok (.iconst 1, 1) := by decide +kernel
theorem dX1_spoil_26 : decode cX1_spoil 26 = .ok (.goto 4, 3) := by decide +kernel
theorem dX1_spoil_29 : decode cX1_spoil 29 = .ok (.iconst 0, 1) := by decide +kernel
theorem dX1_spoil_30 : decode cX1_spoil 30 = .ok (.iconst 1, 1) := by decide +kernel
theorem dX1_spoil_31 : decode cX1_spoil 31 = .ok (.invokevirtual 72, 3) := by decide +kernel
theorem dX1_spoil_34 : decode cX1_spoil 34 = .ok (.ifCond .eq 5, 3) := by decide +kernel
theorem dX1_spoil_37 : decode cX1_spoil 37 = .ok (.iconst 0, 1) := by decide +kernel
theorem dX1_spoil_38 : decode cX1_spoil 38 = .ok (.ireturn, 1) := by decide +kernel
theorem dX1_spoil_39 : decode cX1_spoil 39 = .ok (.aload_n 0, 1) := by decide +kernel
theorem dX1_spoil_40 : decode cX1_spoil 40 = .ok (.getfield 7, 3) := by decide +kernel
theorem dX1_spoil_43 : decode cX1_spoil 43 = .ok (.bipush 64, 2) := by decide +kernel
theorem dX1_spoil_45 : decode cX1_spoil 45 = .ok (.iload_n 1, 1) := by decide +kernel
theorem dX1_spoil_46 : decode cX1_spoil 46 = .ok (.imul, 1) := by decide +kernel
theorem dX1_spoil_47 : decode cX1_spoil 47 = .ok (.iload_n 2, 1) := by decide +kernel
theorem dX1_spoil_48 : decode cX1_spoil 48 = .ok (.iadd, 1) := by decide +kernel
theorem dX1_spoil_49 : decode cX1_spoil 49 = .ok (.iaload, 1) := by decide +kernel
theorem dX1_spoil_50 : decode cX1_spoil 50 = .ok (.istore 4, 2) := by decide +kernel
theorem dX1_spoil_52 : decode cX1_spoil 52 = .ok (.aload_n 0, 1) := by decide +kernel
theorem dX1_spoil_53 : decode cX1_spoil 53 = .ok (.getfield 7, 3) := by decide +kernel
theorem dX1_spoil_56 : decode cX1_spoil 56 = .ok (.bipush 64, 2) := by decide +kernel
theorem dX1_spoil_58 : decode cX1_spoil 58 = .ok (.iload_n 1, 1) := by decide +kernel
theorem dX1_spoil_59 : decode cX1_spoil 59 = .ok (.imul, 1) := by decide +kernel
theorem dX1_spoil_60 : decode cX1_spoil 60 = .ok (.iload_n 2, 1) := by decide +kernel
theorem dX1_spoil_61 : decode cX1_spoil 61 = .ok (.iadd, 1) := by decide +kernel
theorem dX1_spoil_62 : decode cX1_spoil 62 = .ok (.iload_n 3, 1) := by decide +kernel
theorem dX1_spoil_63 : decode cX1_spoil 63 = .ok (.sipush 255, 3) := by decide +kernel
theorem dX1_spoil_66 : decode cX1_spoil 66 = .ok (.iand, 1) := by decide +kernel
theorem dX1_spoil_67 : decode cX1_spoil 67 = .ok (.iastore, 1) := by decide +kernel
theorem dX1_spoil_68 : decode cX1_spoil 68 = .ok (.iload 4, 2) := by decide +kernel
theorem dX1_spoil_70 : decode cX1_spoil 70 = .ok (.ireturn, 1) := by decide +kernel
theorem dX1_at_0 : decode cX1_at 0 = .ok (.aload_n 0, 1) := by decide +kernel
theorem dX1_at_1 : decode cX1_at 1 = .ok (.iload_n 1, 1) := by decide +kernel
theorem dX1_at_2 : decode cX1_at 2 = .ok (.i2l, 1) := by decide +kernel
theorem dX1_at_3 : decode cX1_at 3 = .ok (.lconst 0, 1) := by decide +kernel
theorem dX1_at_4 : decode cX1_at 4 = .ok (.ldc2_w 64, 3) := by decide +kernel
theorem dX1_at_7 : decode cX1_at 7 = .ok (.invokestatic 54, 3) := by decide +kernel
theorem dX1_at_10 : decode cX1_at 10 = .ok (.ifCond .eq 15, 3) := by decide +kernel
theorem dX1_at_13 : decode cX1_at 13 = .ok (.iload_n 2, 1) := by decide +kernel
theorem dX1_at_14 : decode cX1_at 14 = .ok (.i2l, 1) := by decide +kernel
theorem dX1_at_15 : decode cX1_at 15 = .ok (.lconst 0, 1) := by decide +kernel
theorem dX1_at_16 : decode cX1_at 16 = .ok (.ldc2_w 106, 3) := by decide +kernel
theorem dX1_at_19 : decode cX1_at 19 = .ok (.invokestatic 54, 3) := by decide +kernel
theorem dX1_at_22 : decode cX1_at 22 = .ok (.ifCond .ne 7, 3) := by decide +kernel
theorem dX1_at_25 : decode cX1_at 25 = .ok (.iconst 1, 1) := by decide +kernel
theorem dX1_at_26 : decode cX1_at 26 = .ok (.goto 4, 3) := by decide +kernel
theorem dX1_at_29 : decode cX1_at 29 = .ok (.iconst 0, 1) := by decide +kernel
theorem dX1_at_30 : decode cX1_at 30 = .ok (.iconst 1, 1) := by decide +kernel
theorem dX1_at_31 : decode cX1_at 31 = .ok (.invokevirtual 72, 3) := by decide +kernel
theorem dX1_at_34 : decode cX1_at 34 = .ok (.ifCond .eq 7, 3) := by decide +kernel
theorem dX1_at_37 : decode cX1_at 37 = .ok (.iconst 0, 1) := by decide +kernel
theorem dX1_at_38 : decode cX1_at 38 = .ok (.goto 14, 3) := by decide +kernel
theorem dX1_at_41 : decode cX1_at 41 = .ok (.aload_n 0, 1) := by decide +kernel
theorem dX1_at_42 : decode cX1_at 42 = .ok (.getfield 7, 3) := by decide +kernel
theorem dX1_at_45 : decode cX1_at 45 = .ok (.bipush 64, 2) := by decide +kernel
theorem dX1_at_47 : decode cX1_at 47 = .ok (.iload_n 1, 1) := by decide +kernel
theorem dX1_at_48 : decode cX1_at 48 = .ok (.imul, 1) := by decide +kernel
theorem dX1_at_49 : decode cX1_at 49 = .ok (.iload_n 2, 1) := by decide +kernel
theorem dX1_at_50 : decode cX1_at 50 = .ok (.iadd, 1) := by decide +kernel
theorem dX1_at_51 : decode cX1_at 51 = .ok (.iaload, 1) := by decide +kernel
theorem dX1_at_52 : decode cX1_at 52 = .ok (.ireturn, 1) := by decide +kernel
theorem dX1_change_0 : decode cX1_change 0 = .ok (.aload_n 0, 1) := by decide +kernel
theorem dX1_change_1 : decode cX1_change 1 = .ok (.iload_n 1, 1) := by decide +kernel
theorem dX1_change_2 : decode cX1_change 2 = .ok (.i2l, 1) := by decide +kernel
theorem dX1_change_3 : decode cX1_change 3 = .ok (.lconst 0, 1) := by decide +kernel
theorem dX1_change_4 : decode cX1_change 4 = .ok (.aload_n 0, 1) := by decide +kernel
theorem dX1_change_5 : decode cX1_change 5 = .ok (.getfield 81, 3) := by decide +kernel
theorem dX1_change_8 : decode cX1_change 8 = .ok (.iconst 1, 1) := by decide +kernel
theorem dX1_change_9 : decode cX1_change 9 = .ok (.isub, 1) := by decide +kernel
theorem dX1_change_10 : decode cX1_change 10 = .ok (.i2l, 1) := by decide +kernel
theorem dX1_change_11 : decode cX1_change 11 = .ok (.invokestatic 54, 3) := by decide +kernel
theorem dX1_change_14 : decode cX1_change 14 = .ok (.ifCond .ne 7, 3) := by decide +kernel
theorem dX1_change_17 : decode cX1_change 17 = .ok (.iconst 1, 1) := by decide +kernel
theorem dX1_change_18 : decode cX1_change 18 = .ok (.goto 4, 3) := by decide +kernel
theorem dX1_change_21 : decode cX1_change 21 = .ok (.iconst 0, 1) := by decide +kernel
theorem dX1_change_22 : decode cX1_change 22 = .ok (.iconst 1, 1) := by decide +kernel
theorem dX1_change_23 : decode cX1_change 23 = .ok (.invokevirtual 72, 3) := by decide +kernel
theorem dX1_change_26 : decode cX1_change 26 = .ok (.ifCond .eq 7, 3) := by decide +kernel
theorem dX1_change_29 : decode cX1_change 29 = .ok (.iconst 0, 1) := by decide +kernel
theorem dX1_change_30 : decode cX1_change 30 = .ok (.goto 13, 3) := by decide +kernel
theorem dX1_change_33 : decode cX1_change 33 = .ok (.aload_n 0, 1) := by decide +kernel
theorem dX1_change_34 : decode cX1_change 34 = .ok (.getfield 16, 3) := by decide +kernel
theorem dX1_change_37 : decode cX1_change 37 = .ok (.aload_n 0, 1) := by decide +kernel
theorem dX1_change_38 : decode cX1_change 38 = .ok (.iload_n 1, 1) := by decide +kernel
theorem dX1_change_39 : decode cX1_change 39 = .ok (.invokevirtual 87, 3) := by decide +kernel
theorem dX1_change_42 : decode cX1_change 42 = .ok (.iaload, 1) := by decide +kernel
theorem dX1_change_43 : decode cX1_change 43 = .ok (.ireturn, 1) := by decide +kernel
theorem dX1_look_0 : decode cX1_look 0 = .ok (.aload_n 0, 1) := by decide +kernel
theorem dX1_look_1 : decode cX1_look 1 = .ok (.iload_n 1, 1) := by decide +kernel
theorem dX1_look_2 : decode cX1_look 2 = .ok (.i2l, 1) := by decide +kernel
theorem dX1_look_3 : decode cX1_look 3 = .ok (.lconst 0, 1) := by decide +kernel
theorem dX1_look_4 : decode cX1_look 4 = .ok (.ldc2_w 108, 3) := by decide +kernel
theorem dX1_look_7 : decode cX1_look 7 = .ok (.invokestatic 54, 3) := by decide +kernel
theorem dX1_look_10 : decode cX1_look 10 = .ok (.ifCond .ne 7, 3) := by decide +kernel
theorem dX1_look_13 : decode cX1_look 13 = .ok (.iconst 1, 1) := by decide +kernel
theorem dX1_look_14 : decode cX1_look 14 = .ok (.goto 4, 3) := by decide +kernel
theorem dX1_look_17 : decode cX1_look 17 = .ok (.iconst 0, 1) := by decide +kernel
theorem dX1_look_18 : decode cX1_look 18 = .ok (.iconst 1, 1) := by decide +kernel
theorem dX1_look_19 : decode cX1_look 19 = .ok (.invokevirtual 72, 3) := by decide +kernel
theorem dX1_look_22 : decode cX1_look 22 = .ok (.ifCond .eq 5, 3) := by decide +kernel
theorem dX1_look_25 : decode cX1_look 25 = .ok (.lconst 0, 1) := by decide +kernel
theorem dX1_look_26 : decode cX1_look 26 = .ok (.lreturn, 1) := by decide +kernel
theorem dX1_look_27 : decode cX1_look 27 = .ok (.iload_n 1, 1) := by decide +kernel
theorem dX1_look_28 : decode cX1_look 28 = .ok (.tableswitch 92 0 5 #[40, 47, 55, 68, 74, 79], 40) := by decide +kernel
theorem dX1_look_68 : decode cX1_look 68 = .ok (.aload_n 0, 1) := by decide +kernel
theorem dX1_look_69 : decode cX1_look 69 = .ok (.iconst 0, 1) := by decide +kernel
theorem dX1_look_70 : decode cX1_look 70 = .ok (.iconst 4, 1) := by decide +kernel
theorem dX1_look_71 : decode cX1_look 71 = .ok (.invokevirtual 48, 3) := by decide +kernel
theorem dX1_look_74 : decode cX1_look 74 = .ok (.lreturn, 1) := by decide +kernel
theorem dX1_look_75 : decode cX1_look 75 = .ok (.aload_n 0, 1) := by decide +kernel
theorem dX1_look_76 : decode cX1_look 76 = .ok (.getfield 7, 3) := by decide +kernel
theorem dX1_look_79 : decode cX1_look 79 = .ok (.iconst 4, 1) := by decide +kernel
theorem dX1_look_80 : decode cX1_look 80 = .ok (.iaload, 1) := by decide +kernel
theorem dX1_look_81 : decode cX1_look 81 = .ok (.i2l, 1) := by decide +kernel
theorem dX1_look_82 : decode cX1_look 82 = .ok (.lreturn, 1) := by decide +kernel
theorem dX1_look_83 : decode cX1_look 83 = .ok (.aload_n 0, 1) := by decide +kernel
theorem dX1_look_84 : decode cX1_look 84 = .ok (.invokevirtual 102, 3) := by decide +kernel
theorem dX1_look_87 : decode cX1_look 87 = .ok (.ifCond .eq 7, 3) := by decide +kernel
theorem dX1_look_90 : decode cX1_look 90 = .ok (.lconst 1, 1) := by decide +kernel
theorem dX1_look_91 : decode cX1_look 91 = .ok (.goto 4, 3) := by decide +kernel
theorem dX1_look_94 : decode cX1_look 94 = .ok (.lconst 0, 1) := by decide +kernel
theorem dX1_look_95 : decode cX1_look 95 = .ok (.lreturn, 1) := by decide +kernel
theorem dX1_look_96 : decode cX1_look 96 = .ok (.aload_n 0, 1) := by decide +kernel
theorem dX1_look_97 : decode cX1_look 97 = .ok (.getfield 81, 3) := by decide +kernel
theorem dX1_look_100 : decode cX1_look 100 = .ok (.i2l, 1) := by decide +kernel
theorem dX1_look_101 : decode cX1_look 101 = .ok (.lreturn, 1) := by decide +kernel
theorem dX1_look_102 : decode cX1_look 102 = .ok (.aload_n 0, 1) := by decide +kernel
theorem dX1_look_103 : decode cX1_look 103 = .ok (.getfield 39, 3) := by decide +kernel
theorem dX1_look_106 : decode cX1_look 106 = .ok (.lreturn, 1) := by decide +kernel
theorem dX1_look_107 : decode cX1_look 107 = .ok (.aload_n 0, 1) := by decide +kernel
theorem dX1_look_108 : decode cX1_look 108 = .ok (.getfield 35, 3) := by decide +kernel
theorem dX1_look_111 : decode cX1_look 111 = .ok (.ifCond .eq 7, 3) := by decide +kernel
theorem dX1_look_114 : decode cX1_look 114 = .ok (.lconst 1, 1) := by decide +kernel
theorem dX1_look_115 : decode cX1_look 115 = .ok (.goto 4, 3) := by decide +kernel
theorem dX1_look_118 : decode cX1_look 118 = .ok (.lconst 0, 1) := by decide +kernel
theorem dX1_look_119 : decode cX1_look 119 = .ok (.lreturn, 1) := by decide +kernel
theorem dX1_look_120 : decode cX1_look 120 = .ok (.aload_n 0, 1) := by decide +kernel
theorem dX1_look_121 : decode cX1_look 121 = .ok (.getfield 35, 3) := by decide +kernel
theorem dX1_look_124 : decode cX1_look 124 = .ok (.ifCond .eq 7, 3) := by decide +kernel
theorem dX1_look_127 : decode cX1_look 127 = .ok (.lconst 0, 1) := by decide +kernel
theorem dX1_look_128 : decode cX1_look 128 = .ok (.goto 7, 3) := by decide +kernel
theorem dX1_look_131 : decode cX1_look 131 = .ok (.aload_n 0, 1) := by decide +kernel
theorem dX1_look_132 : decode cX1_look 132 = .ok (.getfield 24, 3) := by decide +kernel
theorem dX1_look_135 : decode cX1_look 135 = .ok (.lreturn, 1) := by decide +kernel

theorem dX0_init_0 : decode cX0_init 0 = .ok (.aload_n 0, 1) := by decide +kernel
theorem dX0_init_1 : decode cX0_init 1 = .ok (.invokespecial 1, 3) := by decide +kernel
theorem dX0_init_4 : decode cX0_init 4 = .ok (.aload_n 0, 1) := by decide +kernel
theorem dX0_init_5 : decode cX0_init 5 = .ok (.sipush 6144, 3) := by decide +kernel
theorem dX0_init_8 : decode cX0_init 8 = .ok (.newarray .int, 2) := by decide +kernel
theorem dX0_init_10 : decode cX0_init 10 = .ok (.putfield 9, 3) := by decide +kernel
theorem dX0_init_13 : decode cX0_init 13 = .ok (.aload_n 0, 1) := by decide +kernel
theorem dX0_init_14 : decode cX0_init 14 = .ok (.sipush 256, 3) := by decide +kernel
theorem dX0_init_17 : decode cX0_init 17 = .ok (.newarray .int, 2) := by decide +kernel
theorem dX0_init_19 : decode cX0_init 19 = .ok (.putfield 13, 3) := by decide +kernel
theorem dX0_init_22 : decode cX0_init 22 = .ok (.aload_n 0, 1) := by decide +kernel
theorem dX0_init_23 : decode cX0_init 23 = .ok (.bipush 64, 2) := by decide +kernel
theorem dX0_init_25 : decode cX0_init 25 = .ok (.newarray .int, 2) := by decide +kernel
theorem dX0_init_27 : decode cX0_init 27 = .ok (.putfield 16, 3) := by decide +kernel
theorem dX0_init_30 : decode cX0_init 30 = .ok (.aload_n 0, 1) := by decide +kernel
theorem dX0_init_31 : decode cX0_init 31 = .ok (.bipush 64, 2) := by decide +kernel
theorem dX0_init_33 : decode cX0_init 33 = .ok (.newarray .int, 2) := by decide +kernel
theorem dX0_init_35 : decode cX0_init 35 = .ok (.putfield 19, 3) := by decide +kernel
theorem dX0_init_38 : decode cX0_init 38 = .ok (.aload_n 0, 1) := by decide +kernel
theorem dX0_init_39 : decode cX0_init 39 = .ok (.bipush 24, 2) := by decide +kernel
theorem dX0_init_41 : decode cX0_init 41 = .ok (.newarray .int, 2) := by decide +kernel
theorem dX0_init_43 : decode cX0_init 43 = .ok (.putfield 22, 3) := by decide +kernel
theorem dX0_init_46 : decode cX0_init 46 = .ok (.aload_n 0, 1) := by decide +kernel
theorem dX0_init_47 : decode cX0_init 47 = .ok (.sipush 1536, 3) := by decide +kernel
theorem dX0_init_50 : decode cX0_init 50 = .ok (.newarray .int, 2) := by decide +kernel
theorem dX0_init_52 : decode cX0_init 52 = .ok (.putfield 25, 3) := by decide +kernel
theorem dX0_init_55 : decode cX0_init 55 = .ok (.aload_n 0, 1) := by decide +kernel
theorem dX0_init_56 : decode cX0_init 56 = .ok (.iconst (-1), 1) := by decide +kernel
theorem dX0_init_57 : decode cX0_init 57 = .ok (.putfield 28, 3) := by decide +kernel
theorem dX0_init_60 : decode cX0_init 60 = .ok (.iconst 0, 1) := by decide +kernel
theorem dX0_init_61 : decode cX0_init 61 = .ok (.istore_n 1, 1) := by decide +kernel
theorem dX0_init_62 : decode cX0_init 62 = .ok (.iload_n 1, 1) := by decide +kernel
theorem dX0_init_63 : decode cX0_init 63 = .ok (.sipush 255, 3) := by decide +kernel
theorem dX0_init_66 : decode cX0_init 66 = .ok (.if_icmp .gt 19, 3) := by decide +kernel
theorem dX0_init_69 : decode cX0_init 69 = .ok (.aload_n 0, 1) := by decide +kernel
theorem dX0_init_70 : decode cX0_init 70 = .ok (.getfield 13, 3) := by decide +kernel
theorem dX0_init_73 : decode cX0_init 73 = .ok (.iload_n 1, 1) := by decide +kernel
theorem dX0_init_74 : decode cX0_init 74 = .ok (.iload_n 1, 1) := by decide +kernel
theorem dX0_init_75 : decode cX0_init 75 = .ok (.invokestatic 32, 3) := by decide +kernel
theorem dX0_init_78 : decode cX0_init 78 = .ok (.iastore, 1) := by decide +kernel
theorem dX0_init_79 : decode cX0_init 79 = .ok (.iinc 1 1, 3) := by decide +kernel
theorem dX0_init_82 : decode cX0_init 82 = .ok (.goto (-20), 3) := by decide +kernel
theorem dX0_init_85 : decode cX0_init 85 = .ok (.return_, 1) := by decide +kernel
theorem dX0_feed_0 : decode cX0_feed 0 = .ok (.iload_n 1, 1) := by decide +kernel
theorem dX0_feed_1 : decode cX0_feed 1 = .ok (.iconst 1, 1) := by decide +kernel
theorem dX0_feed_2 : decode cX0_feed 2 = .ok (.if_icmp .lt 9, 3) := by decide +kernel
theorem dX0_feed_5 : decode cX0_feed 5 = .ok (.iload_n 1, 1) := by decide +kernel
theorem dX0_feed_6 : decode cX0_feed 6 = .ok (.bipush 8, 2) := by decide +kernel
theorem dX0_feed_8 : decode cX0_feed 8 = .ok (.if_icmp .le 13, 3) := by decide +kernel
theorem dX0_feed_11 : decode cX0_feed 11 = .ok (.new 36, 3) := by decide +kernel
theorem dX0_feed_14 : decode cX0_feed 14 = .ok (.dup, 1) := by decide +kernel
theorem dX0_feed_15 : decode cX0_feed 15 = .ok (.ldc 38, 2) := by decide +kernel
theorem dX0_feed_17 : decode cX0_feed 17 = .ok (.invokespecial 40, 3) := by decide +kernel
theorem dX0_feed_20 : decode cX0_feed 20 = .ok (.athrow, 1) := by decide +kernel
theorem dX0_feed_21 : decode cX0_feed 21 = .ok (.aload_n 0, 1) := by decide +kernel
theorem dX0_feed_22 : decode cX0_feed 22 = .ok (.getfield 43, 3) := by decide +kernel
theorem dX0_feed_25 : decode cX0_feed 25 = .ok (.iload_n 1, 1) := by decide +kernel
theorem dX0_feed_26 : decode cX0_feed 26 = .ok (.iadd, 1) := by decide +kernel
theorem dX0_feed_27 : decode cX0_feed 27 = .ok (.bipush 64, 2) := by decide +kernel
theorem dX0_feed_29 : decode cX0_feed 29 = .ok (.if_icmp .le 13, 3) := by decide +kernel
theorem dX0_feed_32 : decode cX0_feed 32 = .ok (.new 46, 3) := by decide +kernel
theorem dX0_feed_35 : decode cX0_feed 35 = .ok (.dup, 1) := by decide +kernel
theorem dX0_feed_36 : decode cX0_feed 36 = .ok (.ldc 48, 2) := by decide +kernel
theorem dX0_feed_38 : decode cX0_feed 38 = .ok (.invokespecial 50, 3) := by decide +kernel
theorem dX0_feed_41 : decode cX0_feed 41 = .ok (.athrow, 1) := by decide +kernel
theorem dX0_feed_42 : decode cX0_feed 42 = .ok (.iconst 0, 1) := by decide +kernel
theorem dX0_feed_43 : decode cX0_feed 43 = .ok (.istore 4, 2) := by decide +kernel
theorem dX0_feed_45 : decode cX0_feed 45 = .ok (.iload 4, 2) := by decide +kernel
theorem dX0_feed_47 : decode cX0_feed 47 = .ok (.iload_n 1, 1) := by decide +kernel
theorem dX0_feed_48 : decode cX0_feed 48 = .ok (.if_icmp .ge 33, 3) := by decide +kernel
theorem dX0_feed_51 : decode cX0_feed 51 = .ok (.aload_n 0, 1) := by decide +kernel
theorem dX0_feed_52 : decode cX0_feed 52 = .ok (.getfield 19, 3) := by decide +kernel
theorem dX0_feed_55 : decode cX0_feed 55 = .ok (.aload_n 0, 1) := by decide +kernel
theorem dX0_feed_56 : decode cX0_feed 56 = .ok (.getfield 43, 3) := by decide +kernel
theorem dX0_feed_59 : decode cX0_feed 59 = .ok (.iload 4, 2) := by decide +kernel
theorem dX0_feed_61 : decode cX0_feed 61 = .ok (.iadd, 1) := by decide +kernel
theorem dX0_feed_62 : decode cX0_feed 62 = .ok (.lload_n 2, 1) := by decide +kernel
theorem dX0_feed_63 : decode cX0_feed 63 = .ok (.bipush 8, 2) := by decide +kernel
theorem dX0_feed_65 : decode cX0_feed 65 = .ok (.iload 4, 2) := by decide +kernel
theorem dX0_feed_67 : decode cX0_feed 67 = .ok (.imul, 1) := by decide +kernel
theorem dX0_feed_68 : decode cX0_feed 68 = .ok (.lushr, 1) := by decide +kernel
theorem dX0_feed_69 : decode cX0_feed 69 = .ok (.l2i, 1) := by decide +kernel
theorem dX0_feed_70 : decode cX0_feed 70 = .ok (.sipush 255, 3) := by decide +kernel
theorem dX0_feed_73 : decode cX0_feed 73 = .ok (.iand, 1) := by decide +kernel
theorem dX0_feed_74 : decode cX0_feed 74 = .ok (.iastore, 1) := by decide +kernel
theorem dX0_feed_75 : decode cX0_feed 75 = .ok (.iinc 4 1, 3) := by decide +kernel
theorem dX0_feed_78 : decode cX0_feed 78 = .ok (.goto (-33), 3) := by decide +kernel
theorem dX0_feed_81 : decode cX0_feed 81 = .ok (.aload_n 0, 1) := by decide +kernel
theorem dX0_feed_82 : decode cX0_feed 82 = .ok (.dup, 1) := by decide +kernel
theorem dX0_feed_83 : decode cX0_feed 83 = .ok (.getfield 43, 3) := by decide +kernel
theorem dX0_feed_86 : decode cX0_feed 86 = .ok (.iload_n 1, 1) := by decide +kernel
theorem dX0_feed_87 : decode cX0_feed 87 = .ok (.iadd, 1) := by decide +kernel
theorem dX0_feed_88 : decode cX0_feed 88 = .ok (.putfield 43, 3) := by decide +kernel
theorem dX0_feed_91 : decode cX0_feed 91 = .ok (.aload_n 0, 1) := by decide +kernel
theorem dX0_feed_92 : decode cX0_feed 92 = .ok (.getfield 43, 3) := by decide +kernel
theorem dX0_feed_95 : decode cX0_feed 95 = .ok (.ireturn, 1) := by decide +kernel
theorem dX0_put_0 : decode cX0_put 0 = .ok (.iload_n 1, 1) := by decide +kernel
theorem dX0_put_1 : decode cX0_put 1 = .ok (.invokestatic 51, 3) := by decide +kernel
theorem dX0_put_4 : decode cX0_put 4 = .ok (.ifCond .ne 13, 3) := by decide +kernel
theorem dX0_put_7 : decode cX0_put 7 = .ok (.new 36, 3) := by decide +kernel
theorem dX0_put_10 : decode cX0_put 10 = .ok (.dup, 1) := by decide +kernel
theorem dX0_put_11 : decode cX0_put 11 = .ok (.ldc 55, 2) := by decide +kernel
theorem dX0_put_13 : decode cX0_put 13 = .ok (.invokespecial 40, 3) := by decide +kernel
theorem dX0_put_16 : decode cX0_put 16 = .ok (.athrow, 1) := by decide +kernel
theorem dX0_put_17 : decode cX0_put 17 = .ok (.aload_n 0, 1) := by decide +kernel
theorem dX0_put_18 : decode cX0_put 18 = .ok (.iload_n 1, 1) := by decide +kernel
theorem dX0_put_19 : decode cX0_put 19 = .ok (.invokevirtual 57, 3) := by decide +kernel
theorem dX0_put_22 : decode cX0_put 22 = .ok (.istore_n 2, 1) := by decide +kernel
theorem dX0_put_23 : decode cX0_put 23 = .ok (.aload_n 0, 1) := by decide +kernel
theorem dX0_put_24 : decode cX0_put 24 = .ok (.iload_n 2, 1) := by decide +kernel
theorem dX0_put_25 : decode cX0_put 25 = .ok (.iload_n 1, 1) := by decide +kernel
theorem dX0_put_26 : decode cX0_put 26 = .ok (.invokevirtual 60, 3) := by decide +kernel
theorem dX0_put_29 : decode cX0_put 29 = .ok (.ifCond .ne 28, 3) := by decide +kernel
theorem dX0_put_32 : decode cX0_put 32 = .ok (.aload_n 0, 1) := by decide +kernel
theorem dX0_put_33 : decode cX0_put 33 = .ok (.getfield 64, 3) := by decide +kernel
theorem dX0_put_36 : decode cX0_put 36 = .ok (.bipush 24, 2) := by decide +kernel
theorem dX0_put_38 : decode cX0_put 38 = .ok (.if_icmp .lt 13, 3) := by decide +kernel
theorem dX0_put_41 : decode cX0_put 41 = .ok (.new 46, 3) := by decide +kernel
theorem dX0_put_44 : decode cX0_put 44 = .ok (.dup, 1) := by decide +kernel
theorem dX0_put_45 : decode cX0_put 45 = .ok (.ldc 67, 2) := by decide +kernel
theorem dX0_put_47 : decode cX0_put 47 = .ok (.invokespecial 50, 3) := by decide +kernel
theorem dX0_put_50 : decode cX0_put 50 = .ok (.athrow, 1) := by decide +kernel
theorem dX0_put_51 : decode cX0_put 51 = .ok (.aload_n 0, 1) := by decide +kernel
theorem dX0_put_52 : decode cX0_put 52 = .ok (.iload_n 2, 1) := by decide +kernel
theorem dX0_put_53 : decode cX0_put 53 = .ok (.iload_n 1, 1) := by decide +kernel
theorem dX0_put_54 : decode cX0_put 54 = .ok (.invokevirtual 69, 3) := by decide +kernel
theorem dX0_put_57 : decode cX0_put 57 = .ok (.aload_n 0, 1) := by decide +kernel
theorem dX0_put_58 : decode cX0_put 58 = .ok (.getfield 19, 3) := by decide +kernel
theorem dX0_put_61 : decode cX0_put 61 = .ok (.iconst 0, 1) := by decide +kernel
theorem dX0_put_62 : decode cX0_put 62 = .ok (.aload_n 0, 1) := by decide +kernel
theorem dX0_put_63 : decode cX0_put 63 = .ok (.getfield 25, 3) := by decide +kernel
theorem dX0_put_66 : decode cX0_put 66 = .ok (.iload_n 2, 1) := by decide +kernel
theorem dX0_put_67 : decode cX0_put 67 = .ok (.bipush 64, 2) := by decide +kernel
theorem dX0_put_69 : decode cX0_put 69 = .ok (.imul, 1) := by decide +kernel
theorem dX0_put_70 : decode cX0_put 70 = .ok (.bipush 64, 2) := by decide +kernel
theorem dX0_put_72 : decode cX0_put 72 = .ok (.invokestatic 73, 3) := by decide +kernel
theorem dX0_put_75 : decode cX0_put 75 = .ok (.aload_n 0, 1) := by decide +kernel
theorem dX0_put_76 : decode cX0_put 76 = .ok (.getfield 19, 3) := by decide +kernel
theorem dX0_put_79 : decode cX0_put 79 = .ok (.iconst 0, 1) := by decide +kernel
theorem dX0_put_80 : decode cX0_put 80 = .ok (.invokestatic 79, 3) := by decide +kernel
theorem dX0_put_83 : decode cX0_put 83 = .ok (.aload_n 0, 1) := by decide +kernel
theorem dX0_put_84 : decode cX0_put 84 = .ok (.iconst 0, 1) := by decide +kernel
theorem dX0_put_85 : decode cX0_put 85 = .ok (.putfield 43, 3) := by decide +kernel
theorem dX0_put_88 : decode cX0_put 88 = .ok (.aload_n 0, 1) := by decide +kernel
theorem dX0_put_89 : decode cX0_put 89 = .ok (.getfield 64, 3) := by decide +kernel
theorem dX0_put_92 : decode cX0_put 92 = .ok (.ireturn, 1) := by decide +kernel
theorem dX0_drop_0 : decode cX0_drop 0 = .ok (.aload_n 0, 1) := by decide +kernel
theorem dX0_drop_1 : decode cX0_drop 1 = .ok (.getfield 64, 3) := by decide +kernel
theorem dX0_drop_4 : decode cX0_drop 4 = .ok (.istore_n 1, 1) := by decide +kernel
theorem dX0_drop_5 : decode cX0_drop 5 = .ok (.aload_n 0, 1) := by decide +kernel
theorem dX0_drop_6 : decode cX0_drop 6 = .ok (.iconst 0, 1) := by decide +kernel
theorem dX0_drop_7 : decode cX0_drop 7 = .ok (.putfield 64, 3) := by decide +kernel
theorem dX0_drop_10 : decode cX0_drop 10 = .ok (.iload_n 1, 1) := by decide +kernel
theorem dX0_drop_11 : decode cX0_drop 11 = .ok (.ireturn, 1) := by decide +kernel
theorem dX0_commit_0 : decode cX0_commit 0 = .ok (.aload_n 0, 1) := by decide +kernel
theorem dX0_commit_1 : decode cX0_commit 1 = .ok (.getfield 64, 3) := by decide +kernel
theorem dX0_commit_4 : decode cX0_commit 4 = .ok (.ifCond .eq 10, 3) := by decide +kernel
theorem dX0_commit_7 : decode cX0_commit 7 = .ok (.aload_n 0, 1) := by decide +kernel
theorem dX0_commit_8 : decode cX0_commit 8 = .ok (.getfield 85, 3) := by decide +kernel
theorem dX0_commit_11 : decode cX0_commit 11 = .ok (.ifCond .eq 13, 3) := by decide +kernel
theorem dX0_commit_14 : decode cX0_commit 14 = .ok (.new 46, 3) := by decide +kernel
theorem dX0_commit_17 : decode cX0_commit 17 = .ok (.dup, 1) := by decide +kernel
theorem dX0_commit_18 : decode cX0_commit 18 = .ok (.ldc 89, 2) := by decide +kernel
theorem dX0_commit_20 : decode cX0_commit 20 = .ok (.invokespecial 50, 3) := by decide +kernel
theorem dX0_commit_23 : decode cX0_commit 23 = .ok (.athrow, 1) := by decide +kernel
theorem dX0_commit_24 : decode cX0_commit 24 = .ok (.aload_n 0, 1) := by decide +kernel
theorem dX0_commit_25 : decode cX0_commit 25 = .ok (.iconst 0, 1) := by decide +kernel
theorem dX0_commit_26 : decode cX0_commit 26 = .ok (.invokevirtual 91, 3) := by decide +kernel
theorem dX0_commit_29 : decode cX0_commit 29 = .ok (.istore_n 1, 1) := by decide +kernel
theorem dX0_commit_30 : decode cX0_commit 30 = .ok (.iconst 0, 1) := by decide +kernel
theorem dX0_commit_31 : decode cX0_commit 31 = .ok (.istore_n 2, 1) := by decide +kernel
theorem dX0_commit_32 : decode cX0_commit 32 = .ok (.iload_n 2, 1) := by decide +kernel
theorem dX0_commit_33 : decode cX0_commit 33 = .ok (.aload_n 0, 1) := by decide +kernel
theorem dX0_commit_34 : decode cX0_commit 34 = .ok (.getfield 64, 3) := by decide +kernel
theorem dX0_commit_37 : decode cX0_commit 37 = .ok (.if_icmp .ge 24, 3) := by decide +kernel
theorem dX0_commit_40 : decode cX0_commit 40 = .ok (.aload_n 0, 1) := by decide +kernel
theorem dX0_commit_41 : decode cX0_commit 41 = .ok (.iconst 1, 1) := by decide +kernel
theorem dX0_commit_42 : decode cX0_commit 42 = .ok (.iload_n 2, 1) := by decide +kernel
theorem dX0_commit_43 : decode cX0_commit 43 = .ok (.iadd, 1) := by decide +kernel
theorem dX0_commit_44 : decode cX0_commit 44 = .ok (.aload_n 0, 1) := by decide +kernel
theorem dX0_commit_45 : decode cX0_commit 45 = .ok (.getfield 25, 3) := by decide +kernel
theorem dX0_commit_48 : decode cX0_commit 48 = .ok (.iload_n 2, 1) := by decide +kernel
theorem dX0_commit_49 : decode cX0_commit 49 = .ok (.bipush 64, 2) := by decide +kernel
theorem dX0_commit_51 : decode cX0_commit 51 = .ok (.imul, 1) := by decide +kernel
theorem dX0_commit_52 : decode cX0_commit 52 = .ok (.invokevirtual 94, 3) := by decide +kernel
theorem dX0_commit_55 : decode cX0_commit 55 = .ok (.iinc 2 1, 3) := by decide +kernel
theorem dX0_commit_58 : decode cX0_commit 58 = .ok (.goto (-26), 3) := by decide +kernel
theorem dX0_commit_61 : decode cX0_commit 61 = .ok (.aload_n 0, 1) := by decide +kernel
theorem dX0_commit_62 : decode cX0_commit 62 = .ok (.iload_n 1, 1) := by decide +kernel
theorem dX0_commit_63 : decode cX0_commit 63 = .ok (.invokevirtual 98, 3) := by decide +kernel
theorem dX0_commit_66 : decode cX0_commit 66 = .ok (.iconst 0, 1) := by decide +kernel
theorem dX0_commit_67 : decode cX0_commit 67 = .ok (.istore_n 2, 1) := by decide +kernel
theorem dX0_commit_68 : decode cX0_commit 68 = .ok (.iload_n 2, 1) := by decide +kernel
theorem dX0_commit_69 : decode cX0_commit 69 = .ok (.aload_n 0, 1) := by decide +kernel
theorem dX0_commit_70 : decode cX0_commit 70 = .ok (.getfield 64, 3) := by decide +kernel
theorem dX0_commit_73 : decode cX0_commit 73 = .ok (.if_icmp .ge 27, 3) := by decide +kernel
theorem dX0_commit_76 : decode cX0_commit 76 = .ok (.aload_n 0, 1) := by decide +kernel
theorem dX0_commit_77 : decode cX0_commit 77 = .ok (.aload_n 0, 1) := by decide +kernel
theorem dX0_commit_78 : decode cX0_commit 78 = .ok (.getfield 22, 3) := by decide +kernel
theorem dX0_commit_81 : decode cX0_commit 81 = .ok (.iload_n 2, 1) := by decide +kernel
theorem dX0_commit_82 : decode cX0_commit 82 = .ok (.iaload, 1) := by decide +kernel
theorem dX0_commit_83 : decode cX0_commit 83 = .ok (.aload_n 0, 1) := by decide +kernel
theorem dX0_commit_84 : decode cX0_commit 84 = .ok (.getfield 25, 3) := by decide +kernel
theorem dX0_commit_87 : decode cX0_commit 87 = .ok (.iload_n 2, 1) := by decide +kernel
theorem dX0_commit_88 : decode cX0_commit 88 = .ok (.bipush 64, 2) := by decide +kernel
theorem dX0_commit_90 : decode cX0_commit 90 = .ok (.imul, 1) := by decide +kernel
theorem dX0_commit_91 : decode cX0_commit 91 = .ok (.invokevirtual 94, 3) := by decide +kernel
theorem dX0_commit_94 : decode cX0_commit 94 = .ok (.iinc 2 1, 3) := by decide +kernel
theorem dX0_commit_97 : decode cX0_commit 97 = .ok (.goto (-29), 3) := by decide +kernel
theorem dX0_commit_100 : decode cX0_commit 100 = .ok (.aload_n 0, 1) := by decide +kernel
theorem dX0_commit_101 : decode cX0_commit 101 = .ok (.iload_n 1, 1) := by decide +kernel
theorem dX0_commit_102 : decode cX0_commit 102 = .ok (.iconst 1, 1) := by decide +kernel
theorem dX0_commit_103 : decode cX0_commit 103 = .ok (.iadd, 1) := by decide +kernel
theorem dX0_commit_104 : decode cX0_commit 104 = .ok (.invokevirtual 102, 3) := by decide +kernel
theorem dX0_commit_107 : decode cX0_commit 107 = .ok (.aload_n 0, 1) := by decide +kernel
theorem dX0_commit_108 : decode cX0_commit 108 = .ok (.iconst 0, 1) := by decide +kernel
theorem dX0_commit_109 : decode cX0_commit 109 = .ok (.putfield 64, 3) := by decide +kernel
theorem dX0_commit_112 : decode cX0_commit 112 = .ok (.aload_n 0, 1) := by decide +kernel
theorem dX0_commit_113 : decode cX0_commit 113 = .ok (.getfield 85, 3) := by decide +kernel
theorem dX0_commit_116 : decode cX0_commit 116 = .ok (.ifCond .ne 7, 3) := by decide +kernel
theorem dX0_commit_119 : decode cX0_commit 119 = .ok (.iconst 1, 1) := by decide +kernel
theorem dX0_commit_120 : decode cX0_commit 120 = .ok (.goto 4, 3) := by decide +kernel
theorem dX0_commit_123 : decode cX0_commit 123 = .ok (.iconst 0, 1) := by decide +kernel
theorem dX0_commit_124 : decode cX0_commit 124 = .ok (.ireturn, 1) := by decide +kernel
theorem dX0_recover_0 : decode cX0_recover 0 = .ok (.aload_n 0, 1) := by decide +kernel
theorem dX0_recover_1 : decode cX0_recover 1 = .ok (.getfield 85, 3) := by decide +kernel
theorem dX0_recover_4 : decode cX0_recover 4 = .ok (.ifCond .eq 13, 3) := by decide +kernel
theorem dX0_recover_7 : decode cX0_recover 7 = .ok (.new 46, 3) := by decide +kernel
theorem dX0_recover_10 : decode cX0_recover 10 = .ok (.dup, 1) := by decide +kernel
theorem dX0_recover_11 : decode cX0_recover 11 = .ok (.ldc 105, 2) := by decide +kernel
theorem dX0_recover_13 : decode cX0_recover 13 = .ok (.invokespecial 50, 3) := by decide +kernel
theorem dX0_recover_16 : decode cX0_recover 16 = .ok (.athrow, 1) := by decide +kernel
theorem dX0_recover_17 : decode cX0_recover 17 = .ok (.aload_n 0, 1) := by decide +kernel
theorem dX0_recover_18 : decode cX0_recover 18 = .ok (.invokevirtual 107, 3) := by decide +kernel
theorem dX0_recover_21 : decode cX0_recover 21 = .ok (.ifCond .ne 5, 3) := by decide +kernel
theorem dX0_recover_24 : decode cX0_recover 24 = .ok (.iconst 0, 1) := by decide +kernel
theorem dX0_recover_25 : decode cX0_recover 25 = .ok (.ireturn, 1) := by decide +kernel
theorem dX0_recover_26 : decode cX0_recover 26 = .ok (.aload_n 0, 1) := by decide +kernel
theorem dX0_recover_27 : decode cX0_recover 27 = .ok (.invokevirtual 111, 3) := by decide +kernel
theorem dX0_recover_30 : decode cX0_recover 30 = .ok (.istore_n 1, 1) := by decide +kernel
theorem dX0_recover_31 : decode cX0_recover 31 = .ok (.iconst 0, 1) := by decide +kernel
theorem dX0_recover_32 : decode cX0_recover 32 = .ok (.istore_n 2, 1) := by decide +kernel
theorem dX0_recover_33 : decode cX0_recover 33 = .ok (.iload_n 2, 1) := by decide +kernel
theorem dX0_recover_34 : decode cX0_recover 34 = .ok (.iload_n 1, 1) := by decide +kernel
theorem dX0_recover_35 : decode cX0_recover 35 = .ok (.if_icmp .ge 28, 3) := by decide +kernel
theorem dX0_recover_38 : decode cX0_recover 38 = .ok (.aload_n 0, 1) := by decide +kernel
theorem dX0_recover_39 : decode cX0_recover 39 = .ok (.aload_n 0, 1) := by decide +kernel
theorem dX0_recover_40 : decode cX0_recover 40 = .ok (.iload_n 2, 1) := by decide +kernel
theorem dX0_recover_41 : decode cX0_recover 41 = .ok (.invokevirtual 115, 3) := by decide +kernel
theorem dX0_recover_44 : decode cX0_recover 44 = .ok (.aload_n 0, 1) := by decide +kernel
theorem dX0_recover_45 : decode cX0_recover 45 = .ok (.getfield 9, 3) := by decide +kernel
theorem dX0_recover_48 : decode cX0_recover 48 = .ok (.iconst 1, 1) := by decide +kernel
theorem dX0_recover_49 : decode cX0_recover 49 = .ok (.iload_n 2, 1) := by decide +kernel
theorem dX0_recover_50 : decode cX0_recover 50 = .ok (.iadd, 1) := by decide +kernel
theorem dX0_recover_51 : decode cX0_recover 51 = .ok (.bipush 64, 2) := by decide +kernel
theorem dX0_recover_53 : decode cX0_recover 53 = .ok (.imul, 1) := by decide +kernel
theorem dX0_recover_54 : decode cX0_recover 54 = .ok (.invokevirtual 94, 3) := by decide +kernel
theorem dX0_recover_57 : decode cX0_recover 57 = .ok (.iinc 2 1, 3) := by decide +kernel
theorem dX0_recover_60 : decode cX0_recover 60 = .ok (.goto (-27), 3) := by decide +kernel
theorem dX0_recover_63 : decode cX0_recover 63 = .ok (.aload_n 0, 1) := by decide +kernel
theorem dX0_recover_64 : decode cX0_recover 64 = .ok (.aload_n 0, 1) := by decide +kernel
theorem dX0_recover_65 : decode cX0_recover 65 = .ok (.iconst 0, 1) := by decide +kernel
theorem dX0_recover_66 : decode cX0_recover 66 = .ok (.invokevirtual 91, 3) := by decide +kernel
theorem dX0_recover_69 : decode cX0_recover 69 = .ok (.iconst 1, 1) := by decide +kernel
theorem dX0_recover_70 : decode cX0_recover 70 = .ok (.iadd, 1) := by decide +kernel
theorem dX0_recover_71 : decode cX0_recover 71 = .ok (.invokevirtual 102, 3) := by decide +kernel
theorem dX0_recover_74 : decode cX0_recover 74 = .ok (.aload_n 0, 1) := by decide +kernel
theorem dX0_recover_75 : decode cX0_recover 75 = .ok (.getfield 85, 3) := by decide +kernel
theorem dX0_recover_78 : decode cX0_recover 78 = .ok (.ifCond .eq 7, 3) := by decide +kernel
theorem dX0_recover_81 : decode cX0_recover 81 = .ok (.iconst (-1), 1) := by decide +kernel
theorem dX0_recover_82 : decode cX0_recover 82 = .ok (.goto 4, 3) := by decide +kernel
theorem dX0_recover_85 : decode cX0_recover 85 = .ok (.iload_n 1, 1) := by decide +kernel
theorem dX0_recover_86 : decode cX0_recover 86 = .ok (.ireturn, 1) := by decide +kernel
theorem dX0_lose_0 : decode cX0_lose 0 = .ok (.iload_n 1, 1) := by decide +kernel
theorem dX0_lose_1 : decode cX0_lose 1 = .ok (.iconst 1, 1) := by decide +kernel
theorem dX0_lose_2 : decode cX0_lose 2 = .ok (.if_icmp .ge 13, 3) := by decide +kernel
theorem dX0_lose_5 : decode cX0_lose 5 = .ok (.new 36, 3) := by decide +kernel
theorem dX0_lose_8 : decode cX0_lose 8 = .ok (.dup, 1) := by decide +kernel
theorem dX0_lose_9 : decode cX0_lose 9 = .ok (.ldc 118, 2) := by decide +kernel
theorem dX0_lose_11 : decode cX0_lose 11 = .ok (.invokespecial 40, 3) := by decide +kernel
theorem dX0_lose_14 : decode cX0_lose 14 = .ok (.athrow, 1) := by decide +kernel
theorem dX0_lose_15 : decode cX0_lose 15 = .ok (.aload_n 0, 1) := by decide +kernel
theorem dX0_lose_16 : decode cX0_lose 16 = .ok (.getfield 85, 3) := by decide +kernel
theorem dX0_lose_19 : decode cX0_lose 19 = .ok (.ifCond .eq 13, 3) := by decide +kernel
theorem dX0_lose_22 : decode cX0_lose 22 = .ok (.new 46, 3) := by decide +kernel
theorem dX0_lose_25 : decode cX0_lose 25 = .ok (.dup, 1) := by decide +kernel
theorem dX0_lose_26 : decode cX0_lose 26 = .ok (.ldc 105, 2) := by decide +kernel
theorem dX0_lose_28 : decode cX0_lose 28 = .ok (.invokespecial 50, 3) := by decide +kernel
theorem dX0_lose_31 : decode cX0_lose 31 = .ok (.athrow, 1) := by decide +kernel
theorem dX0_lose_32 : decode cX0_lose 32 = .ok (.aload_n 0, 1) := by decide +kernel
theorem dX0_lose_33 : decode cX0_lose 33 = .ok (.iload_n 1, 1) := by decide +kernel
theorem dX0_lose_34 : decode cX0_lose 34 = .ok (.iconst 1, 1) := by decide +kernel
theorem dX0_lose_35 : decode cX0_lose 35 = .ok (.isub, 1) := by decide +kernel
theorem dX0_lose_36 : decode cX0_lose 36 = .ok (.putfield 28, 3) := by decide +kernel
theorem dX0_lose_39 : decode cX0_lose 39 = .ok (.return_, 1) := by decide +kernel
theorem dX0_power_0 : decode cX0_power 0 = .ok (.aload_n 0, 1) := by decide +kernel
theorem dX0_power_1 : decode cX0_power 1 = .ok (.getfield 85, 3) := by decide +kernel
theorem dX0_power_4 : decode cX0_power 4 = .ok (.istore_n 1, 1) := by decide +kernel
theorem dX0_power_5 : decode cX0_power 5 = .ok (.aload_n 0, 1) := by decide +kernel
theorem dX0_power_6 : decode cX0_power 6 = .ok (.iconst 0, 1) := by decide +kernel
theorem dX0_power_7 : decode cX0_power 7 = .ok (.putfield 85, 3) := by decide +kernel
theorem dX0_power_10 : decode cX0_power 10 = .ok (.aload_n 0, 1) := by decide +kernel
theorem dX0_power_11 : decode cX0_power 11 = .ok (.iconst (-1), 1) := by decide +kernel
theorem dX0_power_12 : decode cX0_power 12 = .ok (.putfield 28, 3) := by decide +kernel
theorem dX0_power_15 : decode cX0_power 15 = .ok (.iload_n 1, 1) := by decide +kernel
theorem dX0_power_16 : decode cX0_power 16 = .ok (.ireturn, 1) := by decide +kernel
theorem dX0_spoil_0 : decode cX0_spoil 0 = .ok (.iload_n 1, 1) := by decide +kernel
theorem dX0_spoil_1 : decode cX0_spoil 1 = .ok (.iload_n 2, 1) := by decide +kernel
theorem dX0_spoil_2 : decode cX0_spoil 2 = .ok (.invokestatic 120, 3) := by decide +kernel
theorem dX0_spoil_5 : decode cX0_spoil 5 = .ok (.ifCond .ne 13, 3) := by decide +kernel
theorem dX0_spoil_8 : decode cX0_spoil 8 = .ok (.new 36, 3) := by decide +kernel
theorem dX0_spoil_11 : decode cX0_spoil 11 = .ok (.dup, 1) := by decide +kernel
theorem dX0_spoil_12 : decode cX0_spoil 12 = .ok (.ldc 123, 2) := by decide +kernel
theorem dX0_spoil_14 : decode cX0_spoil 14 = .ok (.invokespecial 40, 3) := by decide +kernel
theorem dX0_spoil_17 : decode cX0_spoil 17 = .ok (.athrow, 1) := by decide +kernel
theorem dX0_spoil_18 : decode cX0_spoil 18 = .ok (.aload_n 0, 1) := by decide +kernel
theorem dX0_spoil_19 : decode cX0_spoil 19 = .ok (.getfield 9, 3) := by decide +kernel
theorem dX0_spoil_22 : decode cX0_spoil 22 = .ok (.iload_n 1, 1) := by decide +kernel
theorem dX0_spoil_23 : decode cX0_spoil 23 = .ok (.bipush 64, 2) := by decide +kernel
theorem dX0_spoil_25 : decode cX0_spoil 25 = .ok (.imul, 1) := by decide +kernel
theorem dX0_spoil_26 : decode cX0_spoil 26 = .ok (.iload_n 2, 1) := by decide +kernel
theorem dX0_spoil_27 : decode cX0_spoil 27 = .ok (.iadd, 1) := by decide +kernel
theorem dX0_spoil_28 : decode cX0_spoil 28 = .ok (.iaload, 1) := by decide +kernel
theorem dX0_spoil_29 : decode cX0_spoil 29 = .ok (.istore 4, 2) := by decide +kernel
theorem dX0_spoil_31 : decode cX0_spoil 31 = .ok (.aload_n 0, 1) := by decide +kernel
theorem dX0_spoil_32 : decode cX0_spoil 32 = .ok (.getfield 9, 3) := by decide +kernel
theorem dX0_spoil_35 : decode cX0_spoil 35 = .ok (.iload_n 1, 1) := by decide +kernel
theorem dX0_spoil_36 : decode cX0_spoil 36 = .ok (.bipush 64, 2) := by decide +kernel
theorem dX0_spoil_38 : decode cX0_spoil 38 = .ok (.imul, 1) := by decide +kernel
theorem dX0_spoil_39 : decode cX0_spoil 39 = .ok (.iload_n 2, 1) := by decide +kernel
theorem dX0_spoil_40 : decode cX0_spoil 40 = .ok (.iadd, 1) := by decide +kernel
theorem dX0_spoil_41 : decode cX0_spoil 41 = .ok (.iload_n 3, 1) := by decide +kernel
theorem dX0_spoil_42 : decode cX0_spoil 42 = .ok (.sipush 255, 3) := by decide +kernel
theorem dX0_spoil_45 : decode cX0_spoil 45 = .ok (.iand, 1) := by decide +kernel
theorem dX0_spoil_46 : decode cX0_spoil 46 = .ok (.iastore, 1) := by decide +kernel
theorem dX0_spoil_47 : decode cX0_spoil 47 = .ok (.iload 4, 2) := by decide +kernel
theorem dX0_spoil_49 : decode cX0_spoil 49 = .ok (.ireturn, 1) := by decide +kernel
theorem dX0_at_0 : decode cX0_at 0 = .ok (.iload_n 1, 1) := by decide +kernel
theorem dX0_at_1 : decode cX0_at 1 = .ok (.iload_n 2, 1) := by decide +kernel
theorem dX0_at_2 : decode cX0_at 2 = .ok (.invokestatic 120, 3) := by decide +kernel
theorem dX0_at_5 : decode cX0_at 5 = .ok (.ifCond .ne 13, 3) := by decide +kernel
theorem dX0_at_8 : decode cX0_at 8 = .ok (.new 36, 3) := by decide +kernel
theorem dX0_at_11 : decode cX0_at 11 = .ok (.dup, 1) := by decide +kernel
theorem dX0_at_12 : decode cX0_at 12 = .ok (.ldc 123, 2) := by decide +kernel
theorem dX0_at_14 : decode cX0_at 14 = .ok (.invokespecial 40, 3) := by decide +kernel
theorem dX0_at_17 : decode cX0_at 17 = .ok (.athrow, 1) := by decide +kernel
theorem dX0_at_18 : decode cX0_at 18 = .ok (.aload_n 0, 1) := by decide +kernel
theorem dX0_at_19 : decode cX0_at 19 = .ok (.getfield 9, 3) := by decide +kernel
theorem dX0_at_22 : decode cX0_at 22 = .ok (.iload_n 1, 1) := by decide +kernel
theorem dX0_at_23 : decode cX0_at 23 = .ok (.bipush 64, 2) := by decide +kernel
theorem dX0_at_25 : decode cX0_at 25 = .ok (.imul, 1) := by decide +kernel
theorem dX0_at_26 : decode cX0_at 26 = .ok (.iload_n 2, 1) := by decide +kernel
theorem dX0_at_27 : decode cX0_at 27 = .ok (.iadd, 1) := by decide +kernel
theorem dX0_at_28 : decode cX0_at 28 = .ok (.iaload, 1) := by decide +kernel
theorem dX0_at_29 : decode cX0_at 29 = .ok (.ireturn, 1) := by decide +kernel
theorem dX0_change_0 : decode cX0_change 0 = .ok (.iload_n 1, 1) := by decide +kernel
theorem dX0_change_1 : decode cX0_change 1 = .ok (.ifCond .lt 11, 3) := by decide +kernel
theorem dX0_change_4 : decode cX0_change 4 = .ok (.iload_n 1, 1) := by decide +kernel
theorem dX0_change_5 : decode cX0_change 5 = .ok (.aload_n 0, 1) := by decide +kernel
theorem dX0_change_6 : decode cX0_change 6 = .ok (.getfield 64, 3) := by decide +kernel
theorem dX0_change_9 : decode cX0_change 9 = .ok (.if_icmp .lt 13, 3) := by decide +kernel
theorem dX0_change_12 : decode cX0_change 12 = .ok (.new 125, 3) := by decide +kernel
theorem dX0_change_15 : decode cX0_change 15 = .ok (.dup, 1) := by decide +kernel
theorem dX0_change_16 : decode cX0_change 16 = .ok (.ldc 127, 2) := by decide +kernel
theorem dX0_change_18 : decode cX0_change 18 = .ok (.invokespecial 129, 3) := by decide +kernel
theorem dX0_change_21 : decode cX0_change 21 = .ok (.athrow, 1) := by decide +kernel
theorem dX0_change_22 : decode cX0_change 22 = .ok (.aload_n 0, 1) := by decide +kernel
theorem dX0_change_23 : decode cX0_change 23 = .ok (.getfield 22, 3) := by decide +kernel
theorem dX0_change_26 : decode cX0_change 26 = .ok (.iload_n 1, 1) := by decide +kernel
theorem dX0_change_27 : decode cX0_change 27 = .ok (.iaload, 1) := by decide +kernel
theorem dX0_change_28 : decode cX0_change 28 = .ok (.ireturn, 1) := by decide +kernel
theorem dX0_look_0 : decode cX0_look 0 = .ok (.iload_n 1, 1) := by decide +kernel
theorem dX0_look_1 : decode cX0_look 1 = .ok (.tableswitch 103 0 6 #[43, 54, 60, 73, 79, 84, 97], 43) := by decide +kernel
theorem dX0_look_44 : decode cX0_look 44 = .ok (.aload_n 0, 1) := by decide +kernel
theorem dX0_look_45 : decode cX0_look 45 = .ok (.iconst 0, 1) := by decide +kernel
theorem dX0_look_46 : decode cX0_look 46 = .ok (.invokevirtual 91, 3) := by decide +kernel
theorem dX0_look_49 : decode cX0_look 49 = .ok (.i2l, 1) := by decide +kernel
theorem dX0_look_50 : decode cX0_look 50 = .ok (.ldc2_w 130, 3) := by decide +kernel
theorem dX0_look_53 : decode cX0_look 53 = .ok (.land, 1) := by decide +kernel
theorem dX0_look_54 : decode cX0_look 54 = .ok (.lreturn, 1) := by decide +kernel
theorem dX0_look_55 : decode cX0_look 55 = .ok (.aload_n 0, 1) := by decide +kernel
theorem dX0_look_56 : decode cX0_look 56 = .ok (.invokevirtual 111, 3) := by decide +kernel
theorem dX0_look_59 : decode cX0_look 59 = .ok (.i2l, 1) := by decide +kernel
theorem dX0_look_60 : decode cX0_look 60 = .ok (.lreturn, 1) := by decide +kernel
theorem dX0_look_61 : decode cX0_look 61 = .ok (.aload_n 0, 1) := by decide +kernel
theorem dX0_look_62 : decode cX0_look 62 = .ok (.invokevirtual 107, 3) := by decide +kernel
theorem dX0_look_65 : decode cX0_look 65 = .ok (.ifCond .eq 7, 3) := by decide +kernel
theorem dX0_look_68 : decode cX0_look 68 = .ok (.lconst 1, 1) := by decide +kernel
theorem dX0_look_69 : decode cX0_look 69 = .ok (.goto 4, 3) := by decide +kernel
theorem dX0_look_72 : decode cX0_look 72 = .ok (.lconst 0, 1) := by decide +kernel
theorem dX0_look_73 : decode cX0_look 73 = .ok (.lreturn, 1) := by decide +kernel
theorem dX0_look_74 : decode cX0_look 74 = .ok (.aload_n 0, 1) := by decide +kernel
theorem dX0_look_75 : decode cX0_look 75 = .ok (.getfield 64, 3) := by decide +kernel
theorem dX0_look_78 : decode cX0_look 78 = .ok (.i2l, 1) := by decide +kernel
theorem dX0_look_79 : decode cX0_look 79 = .ok (.lreturn, 1) := by decide +kernel
theorem dX0_look_80 : decode cX0_look 80 = .ok (.aload_n 0, 1) := by decide +kernel
theorem dX0_look_81 : decode cX0_look 81 = .ok (.getfield 132, 3) := by decide +kernel
theorem dX0_look_84 : decode cX0_look 84 = .ok (.lreturn, 1) := by decide +kernel
theorem dX0_look_85 : decode cX0_look 85 = .ok (.aload_n 0, 1) := by decide +kernel
theorem dX0_look_86 : decode cX0_look 86 = .ok (.getfield 85, 3) := by decide +kernel
theorem dX0_look_89 : decode cX0_look 89 = .ok (.ifCond .eq 7, 3) := by decide +kernel
theorem dX0_look_92 : decode cX0_look 92 = .ok (.lconst 1, 1) := by decide +kernel
theorem dX0_look_93 : decode cX0_look 93 = .ok (.goto 4, 3) := by decide +kernel
theorem dX0_look_96 : decode cX0_look 96 = .ok (.lconst 0, 1) := by decide +kernel
theorem dX0_look_97 : decode cX0_look 97 = .ok (.lreturn, 1) := by decide +kernel
theorem dX0_look_98 : decode cX0_look 98 = .ok (.aload_n 0, 1) := by decide +kernel
theorem dX0_look_99 : decode cX0_look 99 = .ok (.getfield 28, 3) := by decide +kernel
theorem dX0_look_102 : decode cX0_look 102 = .ok (.i2l, 1) := by decide +kernel
theorem dX0_look_103 : decode cX0_look 103 = .ok (.lreturn, 1) := by decide +kernel
theorem dX0_look_104 : decode cX0_look 104 = .ok (.new 125, 3) := by decide +kernel
theorem dX0_look_107 : decode cX0_look 107 = .ok (.dup, 1) := by decide +kernel
theorem dX0_look_108 : decode cX0_look 108 = .ok (.ldc 136, 2) := by decide +kernel
theorem dX0_look_110 : decode cX0_look 110 = .ok (.invokespecial 129, 3) := by decide +kernel
theorem dX0_look_113 : decode cX0_look 113 = .ok (.athrow, 1) := by decide +kernel
theorem dX0_isTarget_0 : decode cX0_isTarget 0 = .ok (.iload_n 0, 1) := by decide +kernel
theorem dX0_isTarget_1 : decode cX0_isTarget 1 = .ok (.bipush 25, 2) := by decide +kernel
theorem dX0_isTarget_3 : decode cX0_isTarget 3 = .ok (.if_icmp .lt 13, 3) := by decide +kernel
theorem dX0_isTarget_6 : decode cX0_isTarget 6 = .ok (.iload_n 0, 1) := by decide +kernel
theorem dX0_isTarget_7 : decode cX0_isTarget 7 = .ok (.bipush 96, 2) := by decide +kernel
theorem dX0_isTarget_9 : decode cX0_isTarget 9 = .ok (.if_icmp .ge 7, 3) := by decide +kernel
theorem dX0_isTarget_12 : decode cX0_isTarget 12 = .ok (.iconst 1, 1) := by decide +kernel
theorem dX0_isTarget_13 : decode cX0_isTarget 13 = .ok (.goto 4, 3) := by decide +kernel
theorem dX0_isTarget_16 : decode cX0_isTarget 16 = .ok (.iconst 0, 1) := by decide +kernel
theorem dX0_isTarget_17 : decode cX0_isTarget 17 = .ok (.ireturn, 1) := by decide +kernel
theorem dX0_isInStore_0 : decode cX0_isInStore 0 = .ok (.iload_n 0, 1) := by decide +kernel
theorem dX0_isInStore_1 : decode cX0_isInStore 1 = .ok (.ifCond .lt 23, 3) := by decide +kernel
theorem dX0_isInStore_4 : decode cX0_isInStore 4 = .ok (.iload_n 0, 1) := by decide +kernel
theorem dX0_isInStore_5 : decode cX0_isInStore 5 = .ok (.bipush 96, 2) := by decide +kernel
theorem dX0_isInStore_7 : decode cX0_isInStore 7 = .ok (.if_icmp .ge 17, 3) := by decide +kernel
theorem dX0_isInStore_10 : decode cX0_isInStore 10 = .ok (.iload_n 1, 1) := by decide +kernel
theorem dX0_isInStore_11 : decode cX0_isInStore 11 = .ok (.ifCond .lt 13, 3) := by decide +kernel
theorem dX0_isInStore_14 : decode cX0_isInStore 14 = .ok (.iload_n 1, 1) := by decide +kernel
theorem dX0_isInStore_15 : decode cX0_isInStore 15 = .ok (.bipush 64, 2) := by decide +kernel
theorem dX0_isInStore_17 : decode cX0_isInStore 17 = .ok (.if_icmp .ge 7, 3) := by decide +kernel
theorem dX0_isInStore_20 : decode cX0_isInStore 20 = .ok (.iconst 1, 1) := by decide +kernel
theorem dX0_isInStore_21 : decode cX0_isInStore 21 = .ok (.goto 4, 3) := by decide +kernel
theorem dX0_isInStore_24 : decode cX0_isInStore 24 = .ok (.iconst 0, 1) := by decide +kernel
theorem dX0_isInStore_25 : decode cX0_isInStore 25 = .ok (.ireturn, 1) := by decide +kernel
theorem dX0_placeOf_0 : decode cX0_placeOf 0 = .ok (.iconst 0, 1) := by decide +kernel
theorem dX0_placeOf_1 : decode cX0_placeOf 1 = .ok (.istore_n 2, 1) := by decide +kernel
theorem dX0_placeOf_2 : decode cX0_placeOf 2 = .ok (.iload_n 2, 1) := by decide +kernel
theorem dX0_placeOf_3 : decode cX0_placeOf 3 = .ok (.aload_n 0, 1) := by decide +kernel
theorem dX0_placeOf_4 : decode cX0_placeOf 4 = .ok (.getfield 64, 3) := by decide +kernel
theorem dX0_placeOf_7 : decode cX0_placeOf 7 = .ok (.if_icmp .ge 19, 3) := by decide +kernel
theorem dX0_placeOf_10 : decode cX0_placeOf 10 = .ok (.aload_n 0, 1) := by decide +kernel
theorem dX0_placeOf_11 : decode cX0_placeOf 11 = .ok (.getfield 22, 3) := by decide +kernel
theorem dX0_placeOf_14 : decode cX0_placeOf 14 = .ok (.iload_n 2, 1) := by decide +kernel
theorem dX0_placeOf_15 : decode cX0_placeOf 15 = .ok (.iaload, 1) := by decide +kernel
theorem dX0_placeOf_16 : decode cX0_placeOf 16 = .ok (.iload_n 1, 1) := by decide +kernel
theorem dX0_placeOf_17 : decode cX0_placeOf 17 = .ok (.if_icmp .ge 9, 3) := by decide +kernel
theorem dX0_placeOf_20 : decode cX0_placeOf 20 = .ok (.iinc 2 1, 3) := by decide +kernel
theorem dX0_placeOf_23 : decode cX0_placeOf 23 = .ok (.goto (-21), 3) := by decide +kernel
theorem dX0_placeOf_26 : decode cX0_placeOf 26 = .ok (.iload_n 2, 1) := by decide +kernel
theorem dX0_placeOf_27 : decode cX0_placeOf 27 = .ok (.ireturn, 1) := by decide +kernel
theorem dX0_isChangeOf_0 : decode cX0_isChangeOf 0 = .ok (.iload_n 1, 1) := by decide +kernel
theorem dX0_isChangeOf_1 : decode cX0_isChangeOf 1 = .ok (.aload_n 0, 1) := by decide +kernel
theorem dX0_isChangeOf_2 : decode cX0_isChangeOf 2 = .ok (.getfield 64, 3) := by decide +kernel
theorem dX0_isChangeOf_5 : decode cX0_isChangeOf 5 = .ok (.if_icmp .ge 17, 3) := by decide +kernel
theorem dX0_isChangeOf_8 : decode cX0_isChangeOf 8 = .ok (.aload_n 0, 1) := by decide +kernel
theorem dX0_isChangeOf_9 : decode cX0_isChangeOf 9 = .ok (.getfield 22, 3) := by decide +kernel
theorem dX0_isChangeOf_12 : decode cX0_isChangeOf 12 = .ok (.iload_n 1, 1) := by decide +kernel
theorem dX0_isChangeOf_13 : decode cX0_isChangeOf 13 = .ok (.iaload, 1) := by decide +kernel
theorem dX0_isChangeOf_14 : decode cX0_isChangeOf 14 = .ok (.iload_n 2, 1) := by decide +kernel
theorem dX0_isChangeOf_15 : decode cX0_isChangeOf 15 = .ok (.if_icmp .ne 7, 3) := by decide +kernel
theorem dX0_isChangeOf_18 : decode cX0_isChangeOf 18 = .ok (.iconst 1, 1) := by decide +kernel
theorem dX0_isChangeOf_19 : decode cX0_isChangeOf 19 = .ok (.goto 4, 3) := by decide +kernel
theorem dX0_isChangeOf_22 : decode cX0_isChangeOf 22 = .ok (.iconst 0, 1) := by decide +kernel
theorem dX0_isChangeOf_23 : decode cX0_isChangeOf 23 = .ok (.ireturn, 1) := by decide +kernel
theorem dX0_openPlace_0 : decode cX0_openPlace 0 = .ok (.aload_n 0, 1) := by decide +kernel
theorem dX0_openPlace_1 : decode cX0_openPlace 1 = .ok (.getfield 64, 3) := by decide +kernel
theorem dX0_openPlace_4 : decode cX0_openPlace 4 = .ok (.iload_n 1, 1) := by decide +kernel
theorem dX0_openPlace_5 : decode cX0_openPlace 5 = .ok (.isub, 1) := by decide +kernel
theorem dX0_openPlace_6 : decode cX0_openPlace 6 = .ok (.istore_n 3, 1) := by decide +kernel
theorem dX0_openPlace_7 : decode cX0_openPlace 7 = .ok (.aload_n 0, 1) := by decide +kernel
theorem dX0_openPlace_8 : decode cX0_openPlace 8 = .ok (.getfield 22, 3) := by decide +kernel
theorem dX0_openPlace_11 : decode cX0_openPlace 11 = .ok (.iload_n 1, 1) := by decide +kernel
theorem dX0_openPlace_12 : decode cX0_openPlace 12 = .ok (.aload_n 0, 1) := by decide +kernel
theorem dX0_openPlace_13 : decode cX0_openPlace 13 = .ok (.getfield 22, 3) := by decide +kernel
theorem dX0_openPlace_16 : decode cX0_openPlace 16 = .ok (.iload_n 1, 1) := by decide +kernel
theorem dX0_openPlace_17 : decode cX0_openPlace 17 = .ok (.iconst 1, 1) := by decide +kernel
theorem dX0_openPlace_18 : decode cX0_openPlace 18 = .ok (.iadd, 1) := by decide +kernel
theorem dX0_openPlace_19 : decode cX0_openPlace 19 = .ok (.iload_n 3, 1) := by decide +kernel
theorem dX0_openPlace_20 : decode cX0_openPlace 20 = .ok (.invokestatic 73, 3) := by decide +kernel
theorem dX0_openPlace_23 : decode cX0_openPlace 23 = .ok (.aload_n 0, 1) := by decide +kernel
theorem dX0_openPlace_24 : decode cX0_openPlace 24 = .ok (.getfield 25, 3) := by decide +kernel
theorem dX0_openPlace_27 : decode cX0_openPlace 27 = .ok (.iload_n 1, 1) := by decide +kernel
theorem dX0_openPlace_28 : decode cX0_openPlace 28 = .ok (.bipush 64, 2) := by decide +kernel
theorem dX0_openPlace_30 : decode cX0_openPlace 30 = .ok (.imul, 1) := by decide +kernel
theorem dX0_openPlace_31 : decode cX0_openPlace 31 = .ok (.aload_n 0, 1) := by decide +kernel
theorem dX0_openPlace_32 : decode cX0_openPlace 32 = .ok (.getfield 25, 3) := by decide +kernel
theorem dX0_openPlace_35 : decode cX0_openPlace 35 = .ok (.iload_n 1, 1) := by decide +kernel
theorem dX0_openPlace_36 : decode cX0_openPlace 36 = .ok (.iconst 1, 1) := by decide +kernel
theorem dX0_openPlace_37 : decode cX0_openPlace 37 = .ok (.iadd, 1) := by decide +kernel
theorem dX0_openPlace_38 : decode cX0_openPlace 38 = .ok (.bipush 64, 2) := by decide +kernel
theorem dX0_openPlace_40 : decode cX0_openPlace 40 = .ok (.imul, 1) := by decide +kernel
theorem dX0_openPlace_41 : decode cX0_openPlace 41 = .ok (.iload_n 3, 1) := by decide +kernel
theorem dX0_openPlace_42 : decode cX0_openPlace 42 = .ok (.bipush 64, 2) := by decide +kernel
theorem dX0_openPlace_44 : decode cX0_openPlace 44 = .ok (.imul, 1) := by decide +kernel
theorem dX0_openPlace_45 : decode cX0_openPlace 45 = .ok (.invokestatic 73, 3) := by decide +kernel
theorem dX0_openPlace_48 : decode cX0_openPlace 48 = .ok (.aload_n 0, 1) := by decide +kernel
theorem dX0_openPlace_49 : decode cX0_openPlace 49 = .ok (.getfield 22, 3) := by decide +kernel
theorem dX0_openPlace_52 : decode cX0_openPlace 52 = .ok (.iload_n 1, 1) := by decide +kernel
theorem dX0_openPlace_53 : decode cX0_openPlace 53 = .ok (.iload_n 2, 1) := by decide +kernel
theorem dX0_openPlace_54 : decode cX0_openPlace 54 = .ok (.iastore, 1) := by decide +kernel
theorem dX0_openPlace_55 : decode cX0_openPlace 55 = .ok (.aload_n 0, 1) := by decide +kernel
theorem dX0_openPlace_56 : decode cX0_openPlace 56 = .ok (.dup, 1) := by decide +kernel
theorem dX0_openPlace_57 : decode cX0_openPlace 57 = .ok (.getfield 64, 3) := by decide +kernel
theorem dX0_openPlace_60 : decode cX0_openPlace 60 = .ok (.iconst 1, 1) := by decide +kernel
theorem dX0_openPlace_61 : decode cX0_openPlace 61 = .ok (.iadd, 1) := by decide +kernel
theorem dX0_openPlace_62 : decode cX0_openPlace 62 = .ok (.putfield 64, 3) := by decide +kernel
theorem dX0_openPlace_65 : decode cX0_openPlace 65 = .ok (.return_, 1) := by decide +kernel
theorem dX0_write_0 : decode cX0_write 0 = .ok (.aload_n 0, 1) := by decide +kernel
theorem dX0_write_1 : decode cX0_write 1 = .ok (.getfield 28, 3) := by decide +kernel
theorem dX0_write_4 : decode cX0_write 4 = .ok (.ifCond .ne 9, 3) := by decide +kernel
theorem dX0_write_7 : decode cX0_write 7 = .ok (.aload_n 0, 1) := by decide +kernel
theorem dX0_write_8 : decode cX0_write 8 = .ok (.iconst 1, 1) := by decide +kernel
theorem dX0_write_9 : decode cX0_write 9 = .ok (.putfield 85, 3) := by decide +kernel
theorem dX0_write_12 : decode cX0_write 12 = .ok (.return_, 1) := by decide +kernel
theorem dX0_write_13 : decode cX0_write 13 = .ok (.aload_n 0, 1) := by decide +kernel
theorem dX0_write_14 : decode cX0_write 14 = .ok (.getfield 28, 3) := by decide +kernel
theorem dX0_write_17 : decode cX0_write 17 = .ok (.ifCond .le 13, 3) := by decide +kernel
theorem dX0_write_20 : decode cX0_write 20 = .ok (.aload_n 0, 1) := by decide +kernel
theorem dX0_write_21 : decode cX0_write 21 = .ok (.dup, 1) := by decide +kernel
theorem dX0_write_22 : decode cX0_write 22 = .ok (.getfield 28, 3) := by decide +kernel
theorem dX0_write_25 : decode cX0_write 25 = .ok (.iconst 1, 1) := by decide +kernel
theorem dX0_write_26 : decode cX0_write 26 = .ok (.isub, 1) := by decide +kernel
theorem dX0_write_27 : decode cX0_write 27 = .ok (.putfield 28, 3) := by decide +kernel
theorem dX0_write_30 : decode cX0_write 30 = .ok (.aload_n 2, 1) := by decide +kernel
theorem dX0_write_31 : decode cX0_write 31 = .ok (.iload_n 3, 1) := by decide +kernel
theorem dX0_write_32 : decode cX0_write 32 = .ok (.aload_n 0, 1) := by decide +kernel
theorem dX0_write_33 : decode cX0_write 33 = .ok (.getfield 9, 3) := by decide +kernel
theorem dX0_write_36 : decode cX0_write 36 = .ok (.iload_n 1, 1) := by decide +kernel
theorem dX0_write_37 : decode cX0_write 37 = .ok (.bipush 64, 2) := by decide +kernel
theorem dX0_write_39 : decode cX0_write 39 = .ok (.imul, 1) := by decide +kernel
theorem dX0_write_40 : decode cX0_write 40 = .ok (.bipush 64, 2) := by decide +kernel
theorem dX0_write_42 : decode cX0_write 42 = .ok (.invokestatic 73, 3) := by decide +kernel
theorem dX0_write_45 : decode cX0_write 45 = .ok (.aload_n 0, 1) := by decide +kernel
theorem dX0_write_46 : decode cX0_write 46 = .ok (.dup, 1) := by decide +kernel
theorem dX0_write_47 : decode cX0_write 47 = .ok (.getfield 132, 3) := by decide +kernel
theorem dX0_write_50 : decode cX0_write 50 = .ok (.lconst 1, 1) := by decide +kernel
theorem dX0_write_51 : decode cX0_write 51 = .ok (.ladd, 1) := by decide +kernel
theorem dX0_write_52 : decode cX0_write 52 = .ok (.putfield 132, 3) := by decide +kernel
theorem dX0_write_55 : decode cX0_write 55 = .ok (.return_, 1) := by decide +kernel
theorem dX0_writeFullHead_0 : decode cX0_writeFullHead 0 = .ok (.aload_n 0, 1) := by decide +kernel
theorem dX0_writeFullHead_1 : decode cX0_writeFullHead 1 = .ok (.getfield 16, 3) := by decide +kernel
theorem dX0_writeFullHead_4 : decode cX0_writeFullHead 4 = .ok (.iconst 0, 1) := by decide +kernel
theorem dX0_writeFullHead_5 : decode cX0_writeFullHead 5 = .ok (.invokestatic 79, 3) := by decide +kernel
theorem dX0_writeFullHead_8 : decode cX0_writeFullHead 8 = .ok (.aload_n 0, 1) := by decide +kernel
theorem dX0_writeFullHead_9 : decode cX0_writeFullHead 9 = .ok (.iconst 0, 1) := by decide +kernel
theorem dX0_writeFullHead_10 : decode cX0_writeFullHead 10 = .ok (.iload_n 1, 1) := by decide +kernel
theorem dX0_writeFullHead_11 : decode cX0_writeFullHead 11 = .ok (.invokevirtual 138, 3) := by decide +kernel
theorem dX0_writeFullHead_14 : decode cX0_writeFullHead 14 = .ok (.aload_n 0, 1) := by decide +kernel
theorem dX0_writeFullHead_15 : decode cX0_writeFullHead 15 = .ok (.getfield 16, 3) := by decide +kernel
theorem dX0_writeFullHead_18 : decode cX0_writeFullHead 18 = .ok (.iconst 4, 1) := by decide +kernel
theorem dX0_writeFullHead_19 : decode cX0_writeFullHead 19 = .ok (.aload_n 0, 1) := by decide +kernel
theorem dX0_writeFullHead_20 : decode cX0_writeFullHead 20 = .ok (.getfield 64, 3) := by decide +kernel
theorem dX0_writeFullHead_23 : decode cX0_writeFullHead 23 = .ok (.iastore, 1) := by decide +kernel
theorem dX0_writeFullHead_24 : decode cX0_writeFullHead 24 = .ok (.iconst 0, 1) := by decide +kernel
theorem dX0_writeFullHead_25 : decode cX0_writeFullHead 25 = .ok (.istore_n 2, 1) := by decide +kernel
theorem dX0_writeFullHead_26 : decode cX0_writeFullHead 26 = .ok (.iload_n 2, 1) := by decide +kernel
theorem dX0_writeFullHead_27 : decode cX0_writeFullHead 27 = .ok (.aload_n 0, 1) := by decide +kernel
theorem dX0_writeFullHead_28 : decode cX0_writeFullHead 28 = .ok (.getfield 64, 3) := by decide +kernel
theorem dX0_writeFullHead_31 : decode cX0_writeFullHead 31 = .ok (.if_icmp .ge 50, 3) := by decide +kernel
theorem dX0_writeFullHead_34 : decode cX0_writeFullHead 34 = .ok (.aload_n 0, 1) := by decide +kernel
theorem dX0_writeFullHead_35 : decode cX0_writeFullHead 35 = .ok (.getfield 16, 3) := by decide +kernel
theorem dX0_writeFullHead_38 : decode cX0_writeFullHead 38 = .ok (.iconst 5, 1) := by decide +kernel
theorem dX0_writeFullHead_39 : decode cX0_writeFullHead 39 = .ok (.iconst 2, 1) := by decide +kernel
theorem dX0_writeFullHead_40 : decode cX0_writeFullHead 40 = .ok (.iload_n 2, 1) := by decide +kernel
theorem dX0_writeFullHead_41 : decode cX0_writeFullHead 41 = .ok (.imul, 1) := by decide +kernel
theorem dX0_writeFullHead_42 : decode cX0_writeFullHead 42 = .ok (.iadd, 1) := by decide +kernel
theorem dX0_writeFullHead_43 : decode cX0_writeFullHead 43 = .ok (.aload_n 0, 1) := by decide +kernel
theorem dX0_writeFullHead_44 : decode cX0_writeFullHead 44 = .ok (.getfield 22, 3) := by decide +kernel
theorem dX0_writeFullHead_47 : decode cX0_writeFullHead 47 = .ok (.iload_n 2, 1) := by decide +kernel
theorem dX0_writeFullHead_48 : decode cX0_writeFullHead 48 = .ok (.iaload, 1) := by decide +kernel
theorem dX0_writeFullHead_49 : decode cX0_writeFullHead 49 = .ok (.sipush 255, 3) := by decide +kernel
theorem dX0_writeFullHead_52 : decode cX0_writeFullHead 52 = .ok (.iand, 1) := by decide +kernel
theorem dX0_writeFullHead_53 : decode cX0_writeFullHead 53 = .ok (.iastore, 1) := by decide +kernel
theorem dX0_writeFullHead_54 : decode cX0_writeFullHead 54 = .ok (.aload_n 0, 1) := by decide +kernel
theorem dX0_writeFullHead_55 : decode cX0_writeFullHead 55 = .ok (.getfield 16, 3) := by decide +kernel
theorem dX0_writeFullHead_58 : decode cX0_writeFullHead 58 = .ok (.iconst 5, 1) := by decide +kernel
theorem dX0_writeFullHead_59 : decode cX0_writeFullHead 59 = .ok (.iconst 2, 1) := by decide +kernel
theorem dX0_writeFullHead_60 : decode cX0_writeFullHead 60 = .ok (.iload_n 2, 1) := by decide +kernel
theorem dX0_writeFullHead_61 : decode cX0_writeFullHead 61 = .ok (.imul, 1) := by decide +kernel
theorem dX0_writeFullHead_62 : decode cX0_writeFullHead 62 = .ok (.iadd, 1) := by decide +kernel
theorem dX0_writeFullHead_63 : decode cX0_writeFullHead 63 = .ok (.iconst 1, 1) := by decide +kernel
theorem dX0_writeFullHead_64 : decode cX0_writeFullHead 64 = .ok (.iadd, 1) := by decide +kernel
theorem dX0_writeFullHead_65 : decode cX0_writeFullHead 65 = .ok (.aload_n 0, 1) := by decide +kernel
theorem dX0_writeFullHead_66 : decode cX0_writeFullHead 66 = .ok (.getfield 22, 3) := by decide +kernel
theorem dX0_writeFullHead_69 : decode cX0_writeFullHead 69 = .ok (.iload_n 2, 1) := by decide +kernel
theorem dX0_writeFullHead_70 : decode cX0_writeFullHead 70 = .ok (.iaload, 1) := by decide +kernel
theorem dX0_writeFullHead_71 : decode cX0_writeFullHead 71 = .ok (.bipush 8, 2) := by decide +kernel
theorem dX0_writeFullHead_73 : decode cX0_writeFullHead 73 = .ok (.iushr, 1) := by decide +kernel
theorem dX0_writeFullHead_74 : decode cX0_writeFullHead 74 = .ok (.iastore, 1) := by decide +kernel
theorem dX0_writeFullHead_75 : decode cX0_writeFullHead 75 = .ok (.iinc 2 1, 3) := by decide +kernel
theorem dX0_writeFullHead_78 : decode cX0_writeFullHead 78 = .ok (.goto (-52), 3) := by decide +kernel
theorem dX0_writeFullHead_81 : decode cX0_writeFullHead 81 = .ok (.aload_n 0, 1) := by decide +kernel
theorem dX0_writeFullHead_82 : decode cX0_writeFullHead 82 = .ok (.bipush 59, 2) := by decide +kernel
theorem dX0_writeFullHead_84 : decode cX0_writeFullHead 84 = .ok (.aload_n 0, 1) := by decide +kernel
theorem dX0_writeFullHead_85 : decode cX0_writeFullHead 85 = .ok (.aload_n 0, 1) := by decide +kernel
theorem dX0_writeFullHead_86 : decode cX0_writeFullHead 86 = .ok (.getfield 64, 3) := by decide +kernel
theorem dX0_writeFullHead_89 : decode cX0_writeFullHead 89 = .ok (.invokevirtual 141, 3) := by decide +kernel
theorem dX0_writeFullHead_92 : decode cX0_writeFullHead 92 = .ok (.invokevirtual 138, 3) := by decide +kernel
theorem dX0_writeFullHead_95 : decode cX0_writeFullHead 95 = .ok (.aload_n 0, 1) := by decide +kernel
theorem dX0_writeFullHead_96 : decode cX0_writeFullHead 96 = .ok (.iconst 0, 1) := by decide +kernel
theorem dX0_writeFullHead_97 : decode cX0_writeFullHead 97 = .ok (.aload_n 0, 1) := by decide +kernel
theorem dX0_writeFullHead_98 : decode cX0_writeFullHead 98 = .ok (.getfield 16, 3) := by decide +kernel
theorem dX0_writeFullHead_101 : decode cX0_writeFullHead 101 = .ok (.iconst 0, 1) := by decide +kernel
theorem dX0_writeFullHead_102 : decode cX0_writeFullHead 102 = .ok (.invokevirtual 94, 3) := by decide +kernel
theorem dX0_writeFullHead_105 : decode cX0_writeFullHead 105 = .ok (.return_, 1) := by decide +kernel
theorem dX0_writeEmptyHead_0 : decode cX0_writeEmptyHead 0 = .ok (.aload_n 0, 1) := by decide +kernel
theorem dX0_writeEmptyHead_1 : decode cX0_writeEmptyHead 1 = .ok (.getfield 16, 3) := by decide +kernel
theorem dX0_writeEmptyHead_4 : decode cX0_writeEmptyHead 4 = .ok (.iconst 0, 1) := by decide +kernel
theorem dX0_writeEmptyHead_5 : decode cX0_writeEmptyHead 5 = .ok (.invokestatic 79, 3) := by decide +kernel
theorem dX0_writeEmptyHead_8 : decode cX0_writeEmptyHead 8 = .ok (.aload_n 0, 1) := by decide +kernel
theorem dX0_writeEmptyHead_9 : decode cX0_writeEmptyHead 9 = .ok (.iconst 0, 1) := by decide +kernel
theorem dX0_writeEmptyHead_10 : decode cX0_writeEmptyHead 10 = .ok (.iload_n 1, 1) := by decide +kernel
theorem dX0_writeEmptyHead_11 : decode cX0_writeEmptyHead 11 = .ok (.invokevirtual 138, 3) := by decide +kernel
theorem dX0_writeEmptyHead_14 : decode cX0_writeEmptyHead 14 = .ok (.aload_n 0, 1) := by decide +kernel
theorem dX0_writeEmptyHead_15 : decode cX0_writeEmptyHead 15 = .ok (.iconst 0, 1) := by decide +kernel
theorem dX0_writeEmptyHead_16 : decode cX0_writeEmptyHead 16 = .ok (.aload_n 0, 1) := by decide +kernel
theorem dX0_writeEmptyHead_17 : decode cX0_writeEmptyHead 17 = .ok (.getfield 16, 3) := by decide +kernel
theorem dX0_writeEmptyHead_20 : decode cX0_writeEmptyHead 20 = .ok (.iconst 0, 1) := by decide +kernel
theorem dX0_writeEmptyHead_21 : decode cX0_writeEmptyHead 21 = .ok (.invokevirtual 94, 3) := by decide +kernel
theorem dX0_writeEmptyHead_24 : decode cX0_writeEmptyHead 24 = .ok (.return_, 1) := by decide +kernel
theorem dX0_setWord_0 : decode cX0_setWord 0 = .ok (.iconst 0, 1) := by decide +kernel
theorem dX0_setWord_1 : decode cX0_setWord 1 = .ok (.istore_n 3, 1) := by decide +kernel
theorem dX0_setWord_2 : decode cX0_setWord 2 = .ok (.iload_n 3, 1) := by decide +kernel
theorem dX0_setWord_3 : decode cX0_setWord 3 = .ok (.iconst 4, 1) := by decide +kernel
theorem dX0_setWord_4 : decode cX0_setWord 4 = .ok (.if_icmp .ge 27, 3) := by decide +kernel
theorem dX0_setWord_7 : decode cX0_setWord 7 = .ok (.aload_n 0, 1) := by decide +kernel
theorem dX0_setWord_8 : decode cX0_setWord 8 = .ok (.getfield 16, 3) := by decide +kernel
theorem dX0_setWord_11 : decode cX0_setWord 11 = .ok (.iload_n 1, 1) := by decide +kernel
theorem dX0_setWord_12 : decode cX0_setWord 12 = .ok (.iload_n 3, 1) := by decide +kernel
theorem dX0_setWord_13 : decode cX0_setWord 13 = .ok (.iadd, 1) := by decide +kernel
theorem dX0_setWord_14 : decode cX0_setWord 14 = .ok (.iload_n 2, 1) := by decide +kernel
theorem dX0_setWord_15 : decode cX0_setWord 15 = .ok (.bipush 8, 2) := by decide +kernel
theorem dX0_setWord_17 : decode cX0_setWord 17 = .ok (.iload_n 3, 1) := by decide +kernel
theorem dX0_setWord_18 : decode cX0_setWord 18 = .ok (.imul, 1) := by decide +kernel
theorem dX0_setWord_19 : decode cX0_setWord 19 = .ok (.iushr, 1) := by decide +kernel
theorem dX0_setWord_20 : decode cX0_setWord 20 = .ok (.sipush 255, 3) := by decide +kernel
theorem dX0_setWord_23 : decode cX0_setWord 23 = .ok (.iand, 1) := by decide +kernel
theorem dX0_setWord_24 : decode cX0_setWord 24 = .ok (.iastore, 1) := by decide +kernel
theorem dX0_setWord_25 : decode cX0_setWord 25 = .ok (.iinc 3 1, 3) := by decide +kernel
theorem dX0_setWord_28 : decode cX0_setWord 28 = .ok (.goto (-26), 3) := by decide +kernel
theorem dX0_setWord_31 : decode cX0_setWord 31 = .ok (.return_, 1) := by decide +kernel
theorem dX0_headWord_0 : decode cX0_headWord 0 = .ok (.iconst 0, 1) := by decide +kernel
theorem dX0_headWord_1 : decode cX0_headWord 1 = .ok (.istore_n 2, 1) := by decide +kernel
theorem dX0_headWord_2 : decode cX0_headWord 2 = .ok (.iconst 0, 1) := by decide +kernel
theorem dX0_headWord_3 : decode cX0_headWord 3 = .ok (.istore_n 3, 1) := by decide +kernel
theorem dX0_headWord_4 : decode cX0_headWord 4 = .ok (.iload_n 3, 1) := by decide +kernel
theorem dX0_headWord_5 : decode cX0_headWord 5 = .ok (.iconst 4, 1) := by decide +kernel
theorem dX0_headWord_6 : decode cX0_headWord 6 = .ok (.if_icmp .ge 27, 3) := by decide +kernel
theorem dX0_headWord_9 : decode cX0_headWord 9 = .ok (.iload_n 2, 1) := by decide +kernel
theorem dX0_headWord_10 : decode cX0_headWord 10 = .ok (.aload_n 0, 1) := by decide +kernel
theorem dX0_headWord_11 : decode cX0_headWord 11 = .ok (.getfield 9, 3) := by decide +kernel
theorem dX0_headWord_14 : decode cX0_headWord 14 = .ok (.iconst 0, 1) := by decide +kernel
theorem dX0_headWord_15 : decode cX0_headWord 15 = .ok (.iload_n 1, 1) := by decide +kernel
theorem dX0_headWord_16 : decode cX0_headWord 16 = .ok (.iadd, 1) := by decide +kernel
theorem dX0_headWord_17 : decode cX0_headWord 17 = .ok (.iload_n 3, 1) := by decide +kernel
theorem dX0_headWord_18 : decode cX0_headWord 18 = .ok (.iadd, 1) := by decide +kernel
theorem dX0_headWord_19 : decode cX0_headWord 19 = .ok (.iaload, 1) := by decide +kernel
theorem dX0_headWord_20 : decode cX0_headWord 20 = .ok (.bipush 8, 2) := by decide +kernel
theorem dX0_headWord_22 : decode cX0_headWord 22 = .ok (.iload_n 3, 1) := by decide +kernel
theorem dX0_headWord_23 : decode cX0_headWord 23 = .ok (.imul, 1) := by decide +kernel
theorem dX0_headWord_24 : decode cX0_headWord 24 = .ok (.ishl, 1) := by decide +kernel
theorem dX0_headWord_25 : decode cX0_headWord 25 = .ok (.ior, 1) := by decide +kernel
theorem dX0_headWord_26 : decode cX0_headWord 26 = .ok (.istore_n 2, 1) := by decide +kernel
theorem dX0_headWord_27 : decode cX0_headWord 27 = .ok (.iinc 3 1, 3) := by decide +kernel
theorem dX0_headWord_30 : decode cX0_headWord 30 = .ok (.goto (-26), 3) := by decide +kernel
theorem dX0_headWord_33 : decode cX0_headWord 33 = .ok (.iload_n 2, 1) := by decide +kernel
theorem dX0_headWord_34 : decode cX0_headWord 34 = .ok (.ireturn, 1) := by decide +kernel
theorem dX0_headCount_0 : decode cX0_headCount 0 = .ok (.aload_n 0, 1) := by decide +kernel
theorem dX0_headCount_1 : decode cX0_headCount 1 = .ok (.getfield 9, 3) := by decide +kernel
theorem dX0_headCount_4 : decode cX0_headCount 4 = .ok (.iconst 4, 1) := by decide +kernel
theorem dX0_headCount_5 : decode cX0_headCount 5 = .ok (.iaload, 1) := by decide +kernel
theorem dX0_headCount_6 : decode cX0_headCount 6 = .ok (.ireturn, 1) := by decide +kernel
theorem dX0_headTarget_0 : decode cX0_headTarget 0 = .ok (.iconst 5, 1) := by decide +kernel
theorem dX0_headTarget_1 : decode cX0_headTarget 1 = .ok (.iconst 2, 1) := by decide +kernel
theorem dX0_headTarget_2 : decode cX0_headTarget 2 = .ok (.iload_n 1, 1) := by decide +kernel
theorem dX0_headTarget_3 : decode cX0_headTarget 3 = .ok (.imul, 1) := by decide +kernel
theorem dX0_headTarget_4 : decode cX0_headTarget 4 = .ok (.iadd, 1) := by decide +kernel
theorem dX0_headTarget_5 : decode cX0_headTarget 5 = .ok (.istore_n 2, 1) := by decide +kernel
theorem dX0_headTarget_6 : decode cX0_headTarget 6 = .ok (.aload_n 0, 1) := by decide +kernel
theorem dX0_headTarget_7 : decode cX0_headTarget 7 = .ok (.getfield 9, 3) := by decide +kernel
theorem dX0_headTarget_10 : decode cX0_headTarget 10 = .ok (.iload_n 2, 1) := by decide +kernel
theorem dX0_headTarget_11 : decode cX0_headTarget 11 = .ok (.iaload, 1) := by decide +kernel
theorem dX0_headTarget_12 : decode cX0_headTarget 12 = .ok (.aload_n 0, 1) := by decide +kernel
theorem dX0_headTarget_13 : decode cX0_headTarget 13 = .ok (.getfield 9, 3) := by decide +kernel
theorem dX0_headTarget_16 : decode cX0_headTarget 16 = .ok (.iload_n 2, 1) := by decide +kernel
theorem dX0_headTarget_17 : decode cX0_headTarget 17 = .ok (.iconst 1, 1) := by decide +kernel
theorem dX0_headTarget_18 : decode cX0_headTarget 18 = .ok (.iadd, 1) := by decide +kernel
theorem dX0_headTarget_19 : decode cX0_headTarget 19 = .ok (.iaload, 1) := by decide +kernel
theorem dX0_headTarget_20 : decode cX0_headTarget 20 = .ok (.bipush 8, 2) := by decide +kernel
theorem dX0_headTarget_22 : decode cX0_headTarget 22 = .ok (.ishl, 1) := by decide +kernel
theorem dX0_headTarget_23 : decode cX0_headTarget 23 = .ok (.ior, 1) := by decide +kernel
theorem dX0_headTarget_24 : decode cX0_headTarget 24 = .ok (.ireturn, 1) := by decide +kernel
theorem dX0_headIsRight_0 : decode cX0_headIsRight 0 = .ok (.aload_n 0, 1) := by decide +kernel
theorem dX0_headIsRight_1 : decode cX0_headIsRight 1 = .ok (.invokevirtual 111, 3) := by decide +kernel
theorem dX0_headIsRight_4 : decode cX0_headIsRight 4 = .ok (.istore_n 1, 1) := by decide +kernel
theorem dX0_headIsRight_5 : decode cX0_headIsRight 5 = .ok (.iload_n 1, 1) := by decide +kernel
theorem dX0_headIsRight_6 : decode cX0_headIsRight 6 = .ok (.iconst 1, 1) := by decide +kernel
theorem dX0_headIsRight_7 : decode cX0_headIsRight 7 = .ok (.if_icmp .lt 35, 3) := by decide +kernel
theorem dX0_headIsRight_10 : decode cX0_headIsRight 10 = .ok (.iload_n 1, 1) := by decide +kernel
theorem dX0_headIsRight_11 : decode cX0_headIsRight 11 = .ok (.bipush 24, 2) := by decide +kernel
theorem dX0_headIsRight_13 : decode cX0_headIsRight 13 = .ok (.if_icmp .gt 29, 3) := by decide +kernel
theorem dX0_headIsRight_16 : decode cX0_headIsRight 16 = .ok (.aload_n 0, 1) := by decide +kernel
theorem dX0_headIsRight_17 : decode cX0_headIsRight 17 = .ok (.iload_n 1, 1) := by decide +kernel
theorem dX0_headIsRight_18 : decode cX0_headIsRight 18 = .ok (.invokevirtual 144, 3) := by decide +kernel
theorem dX0_headIsRight_21 : decode cX0_headIsRight 21 = .ok (.ifCond .eq 21, 3) := by decide +kernel
theorem dX0_headIsRight_24 : decode cX0_headIsRight 24 = .ok (.aload_n 0, 1) := by decide +kernel
theorem dX0_headIsRight_25 : decode cX0_headIsRight 25 = .ok (.bipush 59, 2) := by decide +kernel
theorem dX0_headIsRight_27 : decode cX0_headIsRight 27 = .ok (.invokevirtual 91, 3) := by decide +kernel
theorem dX0_headIsRight_30 : decode cX0_headIsRight 30 = .ok (.aload_n 0, 1) := by decide +kernel
theorem dX0_headIsRight_31 : decode cX0_headIsRight 31 = .ok (.iload_n 1, 1) := by decide +kernel
theorem dX0_headIsRight_32 : decode cX0_headIsRight 32 = .ok (.invokevirtual 141, 3) := by decide +kernel
theorem dX0_headIsRight_35 : decode cX0_headIsRight 35 = .ok (.if_icmp .ne 7, 3) := by decide +kernel
theorem dX0_headIsRight_38 : decode cX0_headIsRight 38 = .ok (.iconst 1, 1) := by decide +kernel
theorem dX0_headIsRight_39 : decode cX0_headIsRight 39 = .ok (.goto 4, 3) := by decide +kernel
theorem dX0_headIsRight_42 : decode cX0_headIsRight 42 = .ok (.iconst 0, 1) := by decide +kernel
theorem dX0_headIsRight_43 : decode cX0_headIsRight 43 = .ok (.ireturn, 1) := by decide +kernel
theorem dX0_targetsAreRight_0 : decode cX0_targetsAreRight 0 = .ok (.iconst 0, 1) := by decide +kernel
theorem dX0_targetsAreRight_1 : decode cX0_targetsAreRight 1 = .ok (.istore_n 2, 1) := by decide +kernel
theorem dX0_targetsAreRight_2 : decode cX0_targetsAreRight 2 = .ok (.iconst 0, 1) := by decide +kernel
theorem dX0_targetsAreRight_3 : decode cX0_targetsAreRight 3 = .ok (.istore_n 3, 1) := by decide +kernel
theorem dX0_targetsAreRight_4 : decode cX0_targetsAreRight 4 = .ok (.iload_n 3, 1) := by decide +kernel
theorem dX0_targetsAreRight_5 : decode cX0_targetsAreRight 5 = .ok (.iload_n 1, 1) := by decide +kernel
theorem dX0_targetsAreRight_6 : decode cX0_targetsAreRight 6 = .ok (.if_icmp .ge 35, 3) := by decide +kernel
theorem dX0_targetsAreRight_9 : decode cX0_targetsAreRight 9 = .ok (.aload_n 0, 1) := by decide +kernel
theorem dX0_targetsAreRight_10 : decode cX0_targetsAreRight 10 = .ok (.iload_n 3, 1) := by decide +kernel
theorem dX0_targetsAreRight_11 : decode cX0_targetsAreRight 11 = .ok (.invokevirtual 115, 3) := by decide +kernel
theorem dX0_targetsAreRight_14 : decode cX0_targetsAreRight 14 = .ok (.istore 4, 2) := by decide +kernel
theorem dX0_targetsAreRight_16 : decode cX0_targetsAreRight 16 = .ok (.iload 4, 2) := by decide +kernel
theorem dX0_targetsAreRight_18 : decode cX0_targetsAreRight 18 = .ok (.invokestatic 51, 3) := by decide +kernel
theorem dX0_targetsAreRight_21 : decode cX0_targetsAreRight 21 = .ok (.ifCond .eq 9, 3) := by decide +kernel
theorem dX0_targetsAreRight_24 : decode cX0_targetsAreRight 24 = .ok (.iload 4, 2) := by decide +kernel
theorem dX0_targetsAreRight_26 : decode cX0_targetsAreRight 26 = .ok (.iload_n 2, 1) := by decide +kernel
theorem dX0_targetsAreRight_27 : decode cX0_targetsAreRight 27 = .ok (.if_icmp .gt 5, 3) := by decide +kernel
theorem dX0_targetsAreRight_30 : decode cX0_targetsAreRight 30 = .ok (.iconst 0, 1) := by decide +kernel
theorem dX0_targetsAreRight_31 : decode cX0_targetsAreRight 31 = .ok (.ireturn, 1) := by decide +kernel
theorem dX0_targetsAreRight_32 : decode cX0_targetsAreRight 32 = .ok (.iload 4, 2) := by decide +kernel
theorem dX0_targetsAreRight_34 : decode cX0_targetsAreRight 34 = .ok (.istore_n 2, 1) := by decide +kernel
theorem dX0_targetsAreRight_35 : decode cX0_targetsAreRight 35 = .ok (.iinc 3 1, 3) := by decide +kernel
theorem dX0_targetsAreRight_38 : decode cX0_targetsAreRight 38 = .ok (.goto (-34), 3) := by decide +kernel
theorem dX0_targetsAreRight_41 : decode cX0_targetsAreRight 41 = .ok (.iconst 1, 1) := by decide +kernel
theorem dX0_targetsAreRight_42 : decode cX0_targetsAreRight 42 = .ok (.ireturn, 1) := by decide +kernel
theorem dX0_payloadCheck_0 : decode cX0_payloadCheck 0 = .ok (.iconst (-1), 1) := by decide +kernel
theorem dX0_payloadCheck_1 : decode cX0_payloadCheck 1 = .ok (.istore_n 2, 1) := by decide +kernel
theorem dX0_payloadCheck_2 : decode cX0_payloadCheck 2 = .ok (.iconst 1, 1) := by decide +kernel
theorem dX0_payloadCheck_3 : decode cX0_payloadCheck 3 = .ok (.iload_n 1, 1) := by decide +kernel
theorem dX0_payloadCheck_4 : decode cX0_payloadCheck 4 = .ok (.iadd, 1) := by decide +kernel
theorem dX0_payloadCheck_5 : decode cX0_payloadCheck 5 = .ok (.bipush 64, 2) := by decide +kernel
theorem dX0_payloadCheck_7 : decode cX0_payloadCheck 7 = .ok (.imul, 1) := by decide +kernel
theorem dX0_payloadCheck_8 : decode cX0_payloadCheck 8 = .ok (.istore_n 3, 1) := by decide +kernel
theorem dX0_payloadCheck_9 : decode cX0_payloadCheck 9 = .ok (.bipush 64, 2) := by decide +kernel
theorem dX0_payloadCheck_11 : decode cX0_payloadCheck 11 = .ok (.istore 4, 2) := by decide +kernel
theorem dX0_payloadCheck_13 : decode cX0_payloadCheck 13 = .ok (.iload 4, 2) := by decide +kernel
theorem dX0_payloadCheck_15 : decode cX0_payloadCheck 15 = .ok (.iload_n 3, 1) := by decide +kernel
theorem dX0_payloadCheck_16 : decode cX0_payloadCheck 16 = .ok (.if_icmp .ge 33, 3) := by decide +kernel
theorem dX0_payloadCheck_19 : decode cX0_payloadCheck 19 = .ok (.iload_n 2, 1) := by decide +kernel
theorem dX0_payloadCheck_20 : decode cX0_payloadCheck 20 = .ok (.bipush 8, 2) := by decide +kernel
theorem dX0_payloadCheck_22 : decode cX0_payloadCheck 22 = .ok (.iushr, 1) := by decide +kernel
theorem dX0_payloadCheck_23 : decode cX0_payloadCheck 23 = .ok (.aload_n 0, 1) := by decide +kernel
theorem dX0_payloadCheck_24 : decode cX0_payloadCheck 24 = .ok (.getfield 13, 3) := by decide +kernel
theorem dX0_payloadCheck_27 : decode cX0_payloadCheck 27 = .ok (.iload_n 2, 1) := by decide +kernel
theorem dX0_payloadCheck_28 : decode cX0_payloadCheck 28 = .ok (.aload_n 0, 1) := by decide +kernel
theorem dX0_payloadCheck_29 : decode cX0_payloadCheck 29 = .ok (.getfield 9, 3) := by decide +kernel
theorem dX0_payloadCheck_32 : decode cX0_payloadCheck 32 = .ok (.iload 4, 2) := by decide +kernel
theorem dX0_payloadCheck_34 : decode cX0_payloadCheck 34 = .ok (.iaload, 1) := by decide +kernel
theorem dX0_payloadCheck_35 : decode cX0_payloadCheck 35 = .ok (.ixor, 1) := by decide +kernel
theorem dX0_payloadCheck_36 : decode cX0_payloadCheck 36 = .ok (.sipush 255, 3) := by decide +kernel
theorem dX0_payloadCheck_39 : decode cX0_payloadCheck 39 = .ok (.iand, 1) := by decide +kernel
theorem dX0_payloadCheck_40 : decode cX0_payloadCheck 40 = .ok (.iaload, 1) := by decide +kernel
theorem dX0_payloadCheck_41 : decode cX0_payloadCheck 41 = .ok (.ixor, 1) := by decide +kernel
theorem dX0_payloadCheck_42 : decode cX0_payloadCheck 42 = .ok (.istore_n 2, 1) := by decide +kernel
theorem dX0_payloadCheck_43 : decode cX0_payloadCheck 43 = .ok (.iinc 4 1, 3) := by decide +kernel
theorem dX0_payloadCheck_46 : decode cX0_payloadCheck 46 = .ok (.goto (-33), 3) := by decide +kernel
theorem dX0_payloadCheck_49 : decode cX0_payloadCheck 49 = .ok (.iload_n 2, 1) := by decide +kernel
theorem dX0_payloadCheck_50 : decode cX0_payloadCheck 50 = .ok (.iconst (-1), 1) := by decide +kernel
theorem dX0_payloadCheck_51 : decode cX0_payloadCheck 51 = .ok (.ixor, 1) := by decide +kernel
theorem dX0_payloadCheck_52 : decode cX0_payloadCheck 52 = .ok (.ireturn, 1) := by decide +kernel
theorem dX0_eightSteps_0 : decode cX0_eightSteps 0 = .ok (.iconst 0, 1) := by decide +kernel
theorem dX0_eightSteps_1 : decode cX0_eightSteps 1 = .ok (.istore_n 1, 1) := by decide +kernel
theorem dX0_eightSteps_2 : decode cX0_eightSteps 2 = .ok (.iload_n 1, 1) := by decide +kernel
theorem dX0_eightSteps_3 : decode cX0_eightSteps 3 = .ok (.bipush 8, 2) := by decide +kernel
theorem dX0_eightSteps_5 : decode cX0_eightSteps 5 = .ok (.if_icmp .ge 27, 3) := by decide +kernel
theorem dX0_eightSteps_8 : decode cX0_eightSteps 8 = .ok (.iload_n 0, 1) := by decide +kernel
theorem dX0_eightSteps_9 : decode cX0_eightSteps 9 = .ok (.iconst 1, 1) := by decide +kernel
theorem dX0_eightSteps_10 : decode cX0_eightSteps 10 = .ok (.iand, 1) := by decide +kernel
theorem dX0_eightSteps_11 : decode cX0_eightSteps 11 = .ok (.istore_n 2, 1) := by decide +kernel
theorem dX0_eightSteps_12 : decode cX0_eightSteps 12 = .ok (.iload_n 0, 1) := by decide +kernel
theorem dX0_eightSteps_13 : decode cX0_eightSteps 13 = .ok (.iconst 1, 1) := by decide +kernel
theorem dX0_eightSteps_14 : decode cX0_eightSteps 14 = .ok (.iushr, 1) := by decide +kernel
theorem dX0_eightSteps_15 : decode cX0_eightSteps 15 = .ok (.istore_n 0, 1) := by decide +kernel
theorem dX0_eightSteps_16 : decode cX0_eightSteps 16 = .ok (.iload_n 2, 1) := by decide +kernel
theorem dX0_eightSteps_17 : decode cX0_eightSteps 17 = .ok (.iconst 1, 1) := by decide +kernel
theorem dX0_eightSteps_18 : decode cX0_eightSteps 18 = .ok (.if_icmp .ne 8, 3) := by decide +kernel
theorem dX0_eightSteps_21 : decode cX0_eightSteps 21 = .ok (.iload_n 0, 1) := by decide +kernel
theorem dX0_eightSteps_22 : decode cX0_eightSteps 22 = .ok (.ldc 147, 2) := by decide +kernel
theorem dX0_eightSteps_24 : decode cX0_eightSteps 24 = .ok (.ixor, 1) := by decide +kernel
theorem dX0_eightSteps_25 : decode cX0_eightSteps 25 = .ok (.istore_n 0, 1) := by decide +kernel
theorem dX0_eightSteps_26 : decode cX0_eightSteps 26 = .ok (.iinc 1 1, 3) := by decide +kernel
theorem dX0_eightSteps_29 : decode cX0_eightSteps 29 = .ok (.goto (-27), 3) := by decide +kernel
theorem dX0_eightSteps_32 : decode cX0_eightSteps 32 = .ok (.iload_n 0, 1) := by decide +kernel
theorem dX0_eightSteps_33 : decode cX0_eightSteps 33 = .ok (.ireturn, 1) := by decide +kernel

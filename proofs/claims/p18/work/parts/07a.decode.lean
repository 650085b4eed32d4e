theorem dJ0_length_8abf5_0 : decode cJ0_length_8abf5 0 = .ok (.aload_n 0, 1) := by decide +kernel
theorem dX0_copyBehind_0 : decode cX0_copyBehind 0 = .ok (.iload_n 2, 1) := by decide +kernel
theorem dX0_copyBehind_1 : decode cX0_copyBehind 1 = .ok (.istore 5, 2) := by decide +kernel
theorem dX0_copyBehind_3 : decode cX0_copyBehind 3 = .ok (.iconst 0, 1) := by decide +kernel
theorem dX0_copyBehind_4 : decode cX0_copyBehind 4 = .ok (.istore 6, 2) := by decide +kernel
theorem dX0_copyBehind_6 : decode cX0_copyBehind 6 = .ok (.iload 6, 2) := by decide +kernel
theorem dX0_copyBehind_8 : decode cX0_copyBehind 8 = .ok (.bipush 40, 2) := by decide +kernel
theorem dX0_copyBehind_10 : decode cX0_copyBehind 10 = .ok (.if_icmp .ge 88, 3) := by decide +kernel
theorem dX0_copyBehind_13 : decode cX0_copyBehind 13 = .ok (.aload_n 1, 1) := by decide +kernel
theorem dX0_copyBehind_14 : decode cX0_copyBehind 14 = .ok (.iload 5, 2) := by decide +kernel
theorem dX0_copyBehind_16 : decode cX0_copyBehind 16 = .ok (.invokevirtual 35, 3) := by decide +kernel
theorem dX0_copyBehind_19 : decode cX0_copyBehind 19 = .ok (.invokestatic 112, 3) := by decide +kernel
theorem dX0_copyBehind_22 : decode cX0_copyBehind 22 = .ok (.ifCond .eq 76, 3) := by decide +kernel
theorem dX0_copyBehind_25 : decode cX0_copyBehind 25 = .ok (.aload_n 1, 1) := by decide +kernel
theorem dX0_copyBehind_26 : decode cX0_copyBehind 26 = .ok (.iload 5, 2) := by decide +kernel
theorem dX0_copyBehind_28 : decode cX0_copyBehind 28 = .ok (.invokevirtual 115, 3) := by decide +kernel
theorem dX0_copyBehind_31 : decode cX0_copyBehind 31 = .ok (.istore 7, 2) := by decide +kernel
theorem dX0_copyBehind_33 : decode cX0_copyBehind 33 = .ok (.aload_n 1, 1) := by decide +kernel
theorem dX0_copyBehind_34 : decode cX0_copyBehind 34 = .ok (.bipush 100, 2) := by decide +kernel
theorem dX0_copyBehind_36 : decode cX0_copyBehind 36 = .ok (.iload_n 3, 1) := by decide +kernel
theorem dX0_copyBehind_37 : decode cX0_copyBehind 37 = .ok (.iadd, 1) := by decide +kernel
theorem dX0_copyBehind_38 : decode cX0_copyBehind 38 = .ok (.iload 5, 2) := by decide +kernel
theorem dX0_copyBehind_40 : decode cX0_copyBehind 40 = .ok (.iload 7, 2) := by decide +kernel
theorem dX0_copyBehind_42 : decode cX0_copyBehind 42 = .ok (.invokevirtual 102, 3) := by decide +kernel
theorem dX0_copyBehind_45 : decode cX0_copyBehind 45 = .ok (.istore 8, 2) := by decide +kernel
theorem dX0_copyBehind_47 : decode cX0_copyBehind 47 = .ok (.iload 8, 2) := by decide +kernel
theorem dX0_copyBehind_49 : decode cX0_copyBehind 49 = .ok (.ifCond .eq 16, 3) := by decide +kernel
theorem dX0_copyBehind_52 : decode cX0_copyBehind 52 = .ok (.aload_n 1, 1) := by decide +kernel
theorem dX0_copyBehind_53 : decode cX0_copyBehind 53 = .ok (.iload 5, 2) := by decide +kernel
theorem dX0_copyBehind_55 : decode cX0_copyBehind 55 = .ok (.invokevirtual 35, 3) := by decide +kernel
theorem dX0_copyBehind_58 : decode cX0_copyBehind 58 = .ok (.invokestatic 43, 3) := by decide +kernel
theorem dX0_copyBehind_61 : decode cX0_copyBehind 61 = .ok (.ifCond .eq 4, 3) := by decide +kernel
theorem dX0_copyBehind_64 : decode cX0_copyBehind 64 = .ok (.return_, 1) := by decide +kernel
theorem dX0_copyBehind_65 : decode cX0_copyBehind 65 = .ok (.aload_n 1, 1) := by decide +kernel
theorem dX0_copyBehind_66 : decode cX0_copyBehind 66 = .ok (.bipush 20, 2) := by decide +kernel
theorem dX0_copyBehind_68 : decode cX0_copyBehind 68 = .ok (.iload_n 3, 1) := by decide +kernel
theorem dX0_copyBehind_69 : decode cX0_copyBehind 69 = .ok (.iadd, 1) := by decide +kernel
theorem dX0_copyBehind_70 : decode cX0_copyBehind 70 = .ok (.bipush 20, 2) := by decide +kernel
theorem dX0_copyBehind_72 : decode cX0_copyBehind 72 = .ok (.iload 4, 2) := by decide +kernel
theorem dX0_copyBehind_74 : decode cX0_copyBehind 74 = .ok (.iadd, 1) := by decide +kernel
theorem dX0_copyBehind_75 : decode cX0_copyBehind 75 = .ok (.iload 5, 2) := by decide +kernel
theorem dX0_copyBehind_77 : decode cX0_copyBehind 77 = .ok (.iload 7, 2) := by decide +kernel
theorem dX0_copyBehind_79 : decode cX0_copyBehind 79 = .ok (.invokevirtual 118, 3) := by decide +kernel
theorem dX0_copyBehind_82 : decode cX0_copyBehind 82 = .ok (.iload 8, 2) := by decide +kernel
theorem dX0_copyBehind_84 : decode cX0_copyBehind 84 = .ok (.ifCond .eq 4, 3) := by decide +kernel
theorem dX0_copyBehind_87 : decode cX0_copyBehind 87 = .ok (.return_, 1) := by decide +kernel
theorem dX0_copyBehind_88 : decode cX0_copyBehind 88 = .ok (.iload 7, 2) := by decide +kernel
theorem dX0_copyBehind_90 : decode cX0_copyBehind 90 = .ok (.istore 5, 2) := by decide +kernel
theorem dX0_copyBehind_92 : decode cX0_copyBehind 92 = .ok (.iinc 6 1, 3) := by decide +kernel
theorem dX0_copyBehind_95 : decode cX0_copyBehind 95 = .ok (.goto (-89), 3) := by decide +kernel
theorem dX0_copyBehind_98 : decode cX0_copyBehind 98 = .ok (.return_, 1) := by decide +kernel
theorem dX0_dead_0 : decode cX0_dead 0 = .ok (.iconst 1, 1) := by decide +kernel
theorem dX0_dead_1 : decode cX0_dead 1 = .ok (.istore_n 2, 1) := by decide +kernel
theorem dX0_dead_2 : decode cX0_dead 2 = .ok (.iconst 0, 1) := by decide +kernel
theorem dX0_dead_3 : decode cX0_dead 3 = .ok (.istore_n 3, 1) := by decide +kernel
theorem dX0_dead_4 : decode cX0_dead 4 = .ok (.iload_n 3, 1) := by decide +kernel
theorem dX0_dead_5 : decode cX0_dead 5 = .ok (.bipush 40, 2) := by decide +kernel
theorem dX0_dead_7 : decode cX0_dead 7 = .ok (.if_icmp .gt 114, 3) := by decide +kernel
theorem dX0_dead_10 : decode cX0_dead 10 = .ok (.iload_n 2, 1) := by decide +kernel
theorem dX0_dead_11 : decode cX0_dead 11 = .ok (.ifCond .eq 110, 3) := by decide +kernel
theorem dX0_dead_14 : decode cX0_dead 14 = .ok (.iconst 0, 1) := by decide +kernel
theorem dX0_dead_15 : decode cX0_dead 15 = .ok (.istore_n 2, 1) := by decide +kernel
theorem dX0_dead_16 : decode cX0_dead 16 = .ok (.aload_n 0, 1) := by decide +kernel
theorem dX0_dead_17 : decode cX0_dead 17 = .ok (.getfield 23, 3) := by decide +kernel
theorem dX0_dead_20 : decode cX0_dead 20 = .ok (.aload_n 1, 1) := by decide +kernel
theorem dX0_dead_21 : decode cX0_dead 21 = .ok (.invokevirtual 74, 3) := by decide +kernel
theorem dX0_dead_24 : decode cX0_dead 24 = .ok (.aload_n 0, 1) := by decide +kernel
theorem dX0_dead_25 : decode cX0_dead 25 = .ok (.getfield 23, 3) := by decide +kernel
theorem dX0_dead_28 : decode cX0_dead 28 = .ok (.getfield 77, 3) := by decide +kernel
theorem dX0_dead_31 : decode cX0_dead 31 = .ok (.iconst 1, 1) := by decide +kernel
theorem dX0_dead_32 : decode cX0_dead 32 = .ok (.isub, 1) := by decide +kernel
theorem dX0_dead_33 : decode cX0_dead 33 = .ok (.istore 4, 2) := by decide +kernel
theorem dX0_dead_35 : decode cX0_dead 35 = .ok (.iload 4, 2) := by decide +kernel
theorem dX0_dead_37 : decode cX0_dead 37 = .ok (.ifCond .lt 78, 3) := by decide +kernel
theorem dX0_dead_40 : decode cX0_dead 40 = .ok (.aload_n 0, 1) := by decide +kernel
theorem dX0_dead_41 : decode cX0_dead 41 = .ok (.getfield 23, 3) := by decide +kernel
theorem dX0_dead_44 : decode cX0_dead 44 = .ok (.iload 4, 2) := by decide +kernel
theorem dX0_dead_46 : decode cX0_dead 46 = .ok (.invokevirtual 80, 3) := by decide +kernel
theorem dX0_dead_49 : decode cX0_dead 49 = .ok (.istore 5, 2) := by decide +kernel
theorem dX0_dead_51 : decode cX0_dead 51 = .ok (.iload 5, 2) := by decide +kernel
theorem dX0_dead_53 : decode cX0_dead 53 = .ok (.ifCond .eq 56, 3) := by decide +kernel
theorem dX0_dead_56 : decode cX0_dead 56 = .ok (.iload 5, 2) := by decide +kernel
theorem dX0_dead_58 : decode cX0_dead 58 = .ok (.aload_n 0, 1) := by decide +kernel
theorem dX0_dead_59 : decode cX0_dead 59 = .ok (.getfield 23, 3) := by decide +kernel
theorem dX0_dead_62 : decode cX0_dead 62 = .ok (.iload 4, 2) := by decide +kernel
theorem dX0_dead_64 : decode cX0_dead 64 = .ok (.invokevirtual 83, 3) := by decide +kernel
theorem dX0_dead_67 : decode cX0_dead 67 = .ok (.iand, 1) := by decide +kernel
theorem dX0_dead_68 : decode cX0_dead 68 = .ok (.ifCond .ne 41, 3) := by decide +kernel
theorem dX0_dead_71 : decode cX0_dead 71 = .ok (.aload_n 0, 1) := by decide +kernel
theorem dX0_dead_72 : decode cX0_dead 72 = .ok (.getfield 23, 3) := by decide +kernel
theorem dX0_dead_75 : decode cX0_dead 75 = .ok (.iload 4, 2) := by decide +kernel
theorem dX0_dead_77 : decode cX0_dead 77 = .ok (.invokevirtual 86, 3) := by decide +kernel
theorem dX0_dead_80 : decode cX0_dead 80 = .ok (.ifCond .eq 29, 3) := by decide +kernel
theorem dX0_dead_83 : decode cX0_dead 83 = .ok (.aload_n 1, 1) := by decide +kernel
theorem dX0_dead_84 : decode cX0_dead 84 = .ok (.aload_n 0, 1) := by decide +kernel
theorem dX0_dead_85 : decode cX0_dead 85 = .ok (.getfield 23, 3) := by decide +kernel
theorem dX0_dead_88 : decode cX0_dead 88 = .ok (.getfield 89, 3) := by decide +kernel
theorem dX0_dead_91 : decode cX0_dead 91 = .ok (.iload 4, 2) := by decide +kernel
theorem dX0_dead_93 : decode cX0_dead 93 = .ok (.iaload, 1) := by decide +kernel
theorem dX0_dead_94 : decode cX0_dead 94 = .ok (.aload_n 0, 1) := by decide +kernel
theorem dX0_dead_95 : decode cX0_dead 95 = .ok (.getfield 23, 3) := by decide +kernel
theorem dX0_dead_98 : decode cX0_dead 98 = .ok (.getfield 93, 3) := by decide +kernel
theorem dX0_dead_101 : decode cX0_dead 101 = .ok (.iload 4, 2) := by decide +kernel
theorem dX0_dead_103 : decode cX0_dead 103 = .ok (.iaload, 1) := by decide +kernel
theorem dX0_dead_104 : decode cX0_dead 104 = .ok (.invokevirtual 65, 3) := by decide +kernel
theorem dX0_dead_107 : decode cX0_dead 107 = .ok (.iconst 1, 1) := by decide +kernel
theorem dX0_dead_108 : decode cX0_dead 108 = .ok (.istore_n 2, 1) := by decide +kernel
theorem dX0_dead_109 : decode cX0_dead 109 = .ok (.iinc 4 (-1), 3) := by decide +kernel
theorem dX0_dead_112 : decode cX0_dead 112 = .ok (.goto (-77), 3) := by decide +kernel
theorem dX0_dead_115 : decode cX0_dead 115 = .ok (.iinc 3 1, 3) := by decide +kernel
theorem dX0_dead_118 : decode cX0_dead 118 = .ok (.goto (-114), 3) := by decide +kernel
theorem dX0_dead_121 : decode cX0_dead 121 = .ok (.return_, 1) := by decide +kernel
theorem dX0_fold_0 : decode cX0_fold 0 = .ok (.aload_n 0, 1) := by decide +kernel
theorem dX0_fold_1 : decode cX0_fold 1 = .ok (.aload_n 1, 1) := by decide +kernel
theorem dX0_fold_2 : decode cX0_fold 2 = .ok (.invokevirtual 27, 3) := by decide +kernel
theorem dX0_fold_5 : decode cX0_fold 5 = .ok (.aload_n 1, 1) := by decide +kernel
theorem dX0_fold_6 : decode cX0_fold 6 = .ok (.getfield 31, 3) := by decide +kernel
theorem dX0_fold_9 : decode cX0_fold 9 = .ok (.iconst 1, 1) := by decide +kernel
theorem dX0_fold_10 : decode cX0_fold 10 = .ok (.isub, 1) := by decide +kernel
theorem dX0_fold_11 : decode cX0_fold 11 = .ok (.istore_n 2, 1) := by decide +kernel
theorem dX0_fold_12 : decode cX0_fold 12 = .ok (.iload_n 2, 1) := by decide +kernel
theorem dX0_fold_13 : decode cX0_fold 13 = .ok (.ifCond .lt 86, 3) := by decide +kernel
theorem dX0_fold_16 : decode cX0_fold 16 = .ok (.aload_n 1, 1) := by decide +kernel
theorem dX0_fold_17 : decode cX0_fold 17 = .ok (.iload_n 2, 1) := by decide +kernel
theorem dX0_fold_18 : decode cX0_fold 18 = .ok (.iconst 2, 1) := by decide +kernel
theorem dX0_fold_19 : decode cX0_fold 19 = .ok (.iadd, 1) := by decide +kernel
theorem dX0_fold_20 : decode cX0_fold 20 = .ok (.invokevirtual 35, 3) := by decide +kernel
theorem dX0_fold_23 : decode cX0_fold 23 = .ok (.invokestatic 39, 3) := by decide +kernel
theorem dX0_fold_26 : decode cX0_fold 26 = .ok (.ifCond .eq 20, 3) := by decide +kernel
theorem dX0_fold_29 : decode cX0_fold 29 = .ok (.aload_n 1, 1) := by decide +kernel
theorem dX0_fold_30 : decode cX0_fold 30 = .ok (.iload_n 2, 1) := by decide +kernel
theorem dX0_fold_31 : decode cX0_fold 31 = .ok (.iconst 3, 1) := by decide +kernel
theorem dX0_fold_32 : decode cX0_fold 32 = .ok (.iadd, 1) := by decide +kernel
theorem dX0_fold_33 : decode cX0_fold 33 = .ok (.invokevirtual 35, 3) := by decide +kernel
theorem dX0_fold_36 : decode cX0_fold 36 = .ok (.invokestatic 39, 3) := by decide +kernel
theorem dX0_fold_39 : decode cX0_fold 39 = .ok (.ifCond .eq 7, 3) := by decide +kernel
theorem dX0_fold_42 : decode cX0_fold 42 = .ok (.iconst 1, 1) := by decide +kernel
theorem dX0_fold_43 : decode cX0_fold 43 = .ok (.goto 4, 3) := by decide +kernel
theorem dX0_fold_46 : decode cX0_fold 46 = .ok (.iconst 0, 1) := by decide +kernel
theorem dX0_fold_47 : decode cX0_fold 47 = .ok (.istore_n 3, 1) := by decide +kernel
theorem dX0_fold_48 : decode cX0_fold 48 = .ok (.aload_n 1, 1) := by decide +kernel
theorem dX0_fold_49 : decode cX0_fold 49 = .ok (.iload_n 2, 1) := by decide +kernel
theorem dX0_fold_50 : decode cX0_fold 50 = .ok (.invokevirtual 35, 3) := by decide +kernel
theorem dX0_fold_53 : decode cX0_fold 53 = .ok (.invokestatic 43, 3) := by decide +kernel
theorem dX0_fold_56 : decode cX0_fold 56 = .ok (.ifCond .eq 37, 3) := by decide +kernel
theorem dX0_fold_59 : decode cX0_fold 59 = .ok (.iload_n 3, 1) := by decide +kernel
theorem dX0_fold_60 : decode cX0_fold 60 = .ok (.ifCond .eq 33, 3) := by decide +kernel
theorem dX0_fold_63 : decode cX0_fold 63 = .ok (.aload_n 0, 1) := by decide +kernel
theorem dX0_fold_64 : decode cX0_fold 64 = .ok (.aload_n 1, 1) := by decide +kernel
theorem dX0_fold_65 : decode cX0_fold 65 = .ok (.iload_n 2, 1) := by decide +kernel
theorem dX0_fold_66 : decode cX0_fold 66 = .ok (.aload_n 1, 1) := by decide +kernel
theorem dX0_fold_67 : decode cX0_fold 67 = .ok (.iload_n 2, 1) := by decide +kernel
theorem dX0_fold_68 : decode cX0_fold 68 = .ok (.iconst 1, 1) := by decide +kernel
theorem dX0_fold_69 : decode cX0_fold 69 = .ok (.iadd, 1) := by decide +kernel
theorem dX0_fold_70 : decode cX0_fold 70 = .ok (.invokevirtual 35, 3) := by decide +kernel
theorem dX0_fold_73 : decode cX0_fold 73 = .ok (.aload_n 1, 1) := by decide +kernel
theorem dX0_fold_74 : decode cX0_fold 74 = .ok (.iload_n 2, 1) := by decide +kernel
theorem dX0_fold_75 : decode cX0_fold 75 = .ok (.iconst 2, 1) := by decide +kernel
theorem dX0_fold_76 : decode cX0_fold 76 = .ok (.iadd, 1) := by decide +kernel
theorem dX0_fold_77 : decode cX0_fold 77 = .ok (.invokevirtual 35, 3) := by decide +kernel
theorem dX0_fold_80 : decode cX0_fold 80 = .ok (.aload_n 1, 1) := by decide +kernel
theorem dX0_fold_81 : decode cX0_fold 81 = .ok (.iload_n 2, 1) := by decide +kernel
theorem dX0_fold_82 : decode cX0_fold 82 = .ok (.iconst 3, 1) := by decide +kernel
theorem dX0_fold_83 : decode cX0_fold 83 = .ok (.iadd, 1) := by decide +kernel
theorem dX0_fold_84 : decode cX0_fold 84 = .ok (.invokevirtual 35, 3) := by decide +kernel
theorem dX0_fold_87 : decode cX0_fold 87 = .ok (.invokestatic 46, 3) := by decide +kernel
theorem dX0_fold_90 : decode cX0_fold 90 = .ok (.invokevirtual 50, 3) := by decide +kernel
theorem dX0_fold_93 : decode cX0_fold 93 = .ok (.iinc 2 (-1), 3) := by decide +kernel
theorem dX0_fold_96 : decode cX0_fold 96 = .ok (.goto (-84), 3) := by decide +kernel
theorem dX0_fold_99 : decode cX0_fold 99 = .ok (.return_, 1) := by decide +kernel
theorem dX0_foldBranch_0 : decode cX0_foldBranch 0 = .ok (.aload_n 1, 1) := by decide +kernel
theorem dX0_foldBranch_1 : decode cX0_foldBranch 1 = .ok (.iload_n 2, 1) := by decide +kernel
theorem dX0_foldBranch_2 : decode cX0_foldBranch 2 = .ok (.invokevirtual 68, 3) := by decide +kernel
theorem dX0_foldBranch_5 : decode cX0_foldBranch 5 = .ok (.istore 4, 2) := by decide +kernel
theorem dX0_foldBranch_7 : decode cX0_foldBranch 7 = .ok (.aload_n 1, 1) := by decide +kernel
theorem dX0_foldBranch_8 : decode cX0_foldBranch 8 = .ok (.iload_n 2, 1) := by decide +kernel
theorem dX0_foldBranch_9 : decode cX0_foldBranch 9 = .ok (.invokevirtual 35, 3) := by decide +kernel
theorem dX0_foldBranch_12 : decode cX0_foldBranch 12 = .ok (.bipush 115, 2) := by decide +kernel
theorem dX0_foldBranch_14 : decode cX0_foldBranch 14 = .ok (.if_icmp .ne 17, 3) := by decide +kernel
theorem dX0_foldBranch_17 : decode cX0_foldBranch 17 = .ok (.iload_n 3, 1) := by decide +kernel
theorem dX0_foldBranch_18 : decode cX0_foldBranch 18 = .ok (.ifCond .ne 12, 3) := by decide +kernel
theorem dX0_foldBranch_21 : decode cX0_foldBranch 21 = .ok (.aload_n 1, 1) := by decide +kernel
theorem dX0_foldBranch_22 : decode cX0_foldBranch 22 = .ok (.iload_n 2, 1) := by decide +kernel
theorem dX0_foldBranch_23 : decode cX0_foldBranch 23 = .ok (.iload 4, 2) := by decide +kernel
theorem dX0_foldBranch_25 : decode cX0_foldBranch 25 = .ok (.iconst 1, 1) := by decide +kernel
theorem dX0_foldBranch_26 : decode cX0_foldBranch 26 = .ok (.iadd, 1) := by decide +kernel
theorem dX0_foldBranch_27 : decode cX0_foldBranch 27 = .ok (.invokevirtual 65, 3) := by decide +kernel
theorem dX0_foldBranch_30 : decode cX0_foldBranch 30 = .ok (.return_, 1) := by decide +kernel
theorem dX0_foldBranch_31 : decode cX0_foldBranch 31 = .ok (.aload_n 1, 1) := by decide +kernel
theorem dX0_foldBranch_32 : decode cX0_foldBranch 32 = .ok (.iload_n 2, 1) := by decide +kernel
theorem dX0_foldBranch_33 : decode cX0_foldBranch 33 = .ok (.invokevirtual 71, 3) := by decide +kernel
theorem dX0_foldBranch_36 : decode cX0_foldBranch 36 = .ok (.istore 5, 2) := by decide +kernel
theorem dX0_foldBranch_38 : decode cX0_foldBranch 38 = .ok (.iload_n 3, 1) := by decide +kernel
theorem dX0_foldBranch_39 : decode cX0_foldBranch 39 = .ok (.ifCond .eq 24, 3) := by decide +kernel
theorem dX0_foldBranch_42 : decode cX0_foldBranch 42 = .ok (.aload_n 1, 1) := by decide +kernel
theorem dX0_foldBranch_43 : decode cX0_foldBranch 43 = .ok (.iload 5, 2) := by decide +kernel
theorem dX0_foldBranch_45 : decode cX0_foldBranch 45 = .ok (.iload 4, 2) := by decide +kernel
theorem dX0_foldBranch_47 : decode cX0_foldBranch 47 = .ok (.iconst 1, 1) := by decide +kernel
theorem dX0_foldBranch_48 : decode cX0_foldBranch 48 = .ok (.iadd, 1) := by decide +kernel
theorem dX0_foldBranch_49 : decode cX0_foldBranch 49 = .ok (.invokevirtual 65, 3) := by decide +kernel
theorem dX0_foldBranch_52 : decode cX0_foldBranch 52 = .ok (.aload_n 1, 1) := by decide +kernel
theorem dX0_foldBranch_53 : decode cX0_foldBranch 53 = .ok (.iload_n 2, 1) := by decide +kernel
theorem dX0_foldBranch_54 : decode cX0_foldBranch 54 = .ok (.iload_n 2, 1) := by decide +kernel
theorem dX0_foldBranch_55 : decode cX0_foldBranch 55 = .ok (.iconst 4, 1) := by decide +kernel
theorem dX0_foldBranch_56 : decode cX0_foldBranch 56 = .ok (.iadd, 1) := by decide +kernel
theorem dX0_foldBranch_57 : decode cX0_foldBranch 57 = .ok (.invokevirtual 65, 3) := by decide +kernel
theorem dX0_foldBranch_60 : decode cX0_foldBranch 60 = .ok (.goto 22, 3) := by decide +kernel
theorem dX0_foldBranch_63 : decode cX0_foldBranch 63 = .ok (.aload_n 1, 1) := by decide +kernel
theorem dX0_foldBranch_64 : decode cX0_foldBranch 64 = .ok (.iload 4, 2) := by decide +kernel
theorem dX0_foldBranch_66 : decode cX0_foldBranch 66 = .ok (.iload 4, 2) := by decide +kernel
theorem dX0_foldBranch_68 : decode cX0_foldBranch 68 = .ok (.iconst 1, 1) := by decide +kernel
theorem dX0_foldBranch_69 : decode cX0_foldBranch 69 = .ok (.iadd, 1) := by decide +kernel
theorem dX0_foldBranch_70 : decode cX0_foldBranch 70 = .ok (.invokevirtual 65, 3) := by decide +kernel
theorem dX0_foldBranch_73 : decode cX0_foldBranch 73 = .ok (.aload_n 1, 1) := by decide +kernel
theorem dX0_foldBranch_74 : decode cX0_foldBranch 74 = .ok (.iload_n 2, 1) := by decide +kernel
theorem dX0_foldBranch_75 : decode cX0_foldBranch 75 = .ok (.iload 5, 2) := by decide +kernel
theorem dX0_foldBranch_77 : decode cX0_foldBranch 77 = .ok (.iconst 1, 1) := by decide +kernel
theorem dX0_foldBranch_78 : decode cX0_foldBranch 78 = .ok (.iadd, 1) := by decide +kernel
theorem dX0_foldBranch_79 : decode cX0_foldBranch 79 = .ok (.invokevirtual 65, 3) := by decide +kernel
theorem dX0_foldBranch_82 : decode cX0_foldBranch 82 = .ok (.return_, 1) := by decide +kernel
theorem dX0_foldOperations_0 : decode cX0_foldOperations 0 = .ok (.aload_n 1, 1) := by decide +kernel
theorem dX0_foldOperations_1 : decode cX0_foldOperations 1 = .ok (.getfield 31, 3) := by decide +kernel
theorem dX0_foldOperations_4 : decode cX0_foldOperations 4 = .ok (.iconst 1, 1) := by decide +kernel
theorem dX0_foldOperations_5 : decode cX0_foldOperations 5 = .ok (.isub, 1) := by decide +kernel
theorem dX0_foldOperations_6 : decode cX0_foldOperations 6 = .ok (.istore_n 2, 1) := by decide +kernel
theorem dX0_foldOperations_7 : decode cX0_foldOperations 7 = .ok (.iload_n 2, 1) := by decide +kernel
theorem dX0_foldOperations_8 : decode cX0_foldOperations 8 = .ok (.ifCond .lt 79, 3) := by decide +kernel
theorem dX0_foldOperations_11 : decode cX0_foldOperations 11 = .ok (.aload_n 1, 1) := by decide +kernel
theorem dX0_foldOperations_12 : decode cX0_foldOperations 12 = .ok (.iload_n 2, 1) := by decide +kernel
theorem dX0_foldOperations_13 : decode cX0_foldOperations 13 = .ok (.invokevirtual 35, 3) := by decide +kernel
theorem dX0_foldOperations_16 : decode cX0_foldOperations 16 = .ok (.istore_n 3, 1) := by decide +kernel
theorem dX0_foldOperations_17 : decode cX0_foldOperations 17 = .ok (.aload_n 1, 1) := by decide +kernel
theorem dX0_foldOperations_18 : decode cX0_foldOperations 18 = .ok (.iload_n 2, 1) := by decide +kernel
theorem dX0_foldOperations_19 : decode cX0_foldOperations 19 = .ok (.iconst 1, 1) := by decide +kernel
theorem dX0_foldOperations_20 : decode cX0_foldOperations 20 = .ok (.iadd, 1) := by decide +kernel
theorem dX0_foldOperations_21 : decode cX0_foldOperations 21 = .ok (.invokevirtual 35, 3) := by decide +kernel
theorem dX0_foldOperations_24 : decode cX0_foldOperations 24 = .ok (.istore 4, 2) := by decide +kernel
theorem dX0_foldOperations_26 : decode cX0_foldOperations 26 = .ok (.aload_n 1, 1) := by decide +kernel
theorem dX0_foldOperations_27 : decode cX0_foldOperations 27 = .ok (.iload_n 2, 1) := by decide +kernel
theorem dX0_foldOperations_28 : decode cX0_foldOperations 28 = .ok (.iconst 2, 1) := by decide +kernel
theorem dX0_foldOperations_29 : decode cX0_foldOperations 29 = .ok (.iadd, 1) := by decide +kernel
theorem dX0_foldOperations_30 : decode cX0_foldOperations 30 = .ok (.invokevirtual 35, 3) := by decide +kernel
theorem dX0_foldOperations_33 : decode cX0_foldOperations 33 = .ok (.istore 5, 2) := by decide +kernel
theorem dX0_foldOperations_35 : decode cX0_foldOperations 35 = .ok (.iload_n 3, 1) := by decide +kernel
theorem dX0_foldOperations_36 : decode cX0_foldOperations 36 = .ok (.invokestatic 54, 3) := by decide +kernel
theorem dX0_foldOperations_39 : decode cX0_foldOperations 39 = .ok (.ifCond .eq 42, 3) := by decide +kernel
theorem dX0_foldOperations_42 : decode cX0_foldOperations 42 = .ok (.iload 4, 2) := by decide +kernel
theorem dX0_foldOperations_44 : decode cX0_foldOperations 44 = .ok (.invokestatic 39, 3) := by decide +kernel
theorem dX0_foldOperations_47 : decode cX0_foldOperations 47 = .ok (.ifCond .eq 34, 3) := by decide +kernel
theorem dX0_foldOperations_50 : decode cX0_foldOperations 50 = .ok (.iload 5, 2) := by decide +kernel
theorem dX0_foldOperations_52 : decode cX0_foldOperations 52 = .ok (.invokestatic 39, 3) := by decide +kernel
theorem dX0_foldOperations_55 : decode cX0_foldOperations 55 = .ok (.ifCond .eq 26, 3) := by decide +kernel
theorem dX0_foldOperations_58 : decode cX0_foldOperations 58 = .ok (.aload_n 1, 1) := by decide +kernel
theorem dX0_foldOperations_59 : decode cX0_foldOperations 59 = .ok (.iload_n 2, 1) := by decide +kernel
theorem dX0_foldOperations_60 : decode cX0_foldOperations 60 = .ok (.iload_n 3, 1) := by decide +kernel
theorem dX0_foldOperations_61 : decode cX0_foldOperations 61 = .ok (.iload 4, 2) := by decide +kernel
theorem dX0_foldOperations_63 : decode cX0_foldOperations 63 = .ok (.iload 5, 2) := by decide +kernel
theorem dX0_foldOperations_65 : decode cX0_foldOperations 65 = .ok (.invokestatic 57, 3) := by decide +kernel
theorem dX0_foldOperations_68 : decode cX0_foldOperations 68 = .ok (.invokevirtual 61, 3) := by decide +kernel
theorem dX0_foldOperations_71 : decode cX0_foldOperations 71 = .ok (.aload_n 1, 1) := by decide +kernel
theorem dX0_foldOperations_72 : decode cX0_foldOperations 72 = .ok (.iload_n 2, 1) := by decide +kernel
theorem dX0_foldOperations_73 : decode cX0_foldOperations 73 = .ok (.iconst 1, 1) := by decide +kernel
theorem dX0_foldOperations_74 : decode cX0_foldOperations 74 = .ok (.iadd, 1) := by decide +kernel
theorem dX0_foldOperations_75 : decode cX0_foldOperations 75 = .ok (.iload_n 2, 1) := by decide +kernel
theorem dX0_foldOperations_76 : decode cX0_foldOperations 76 = .ok (.iconst 3, 1) := by decide +kernel
theorem dX0_foldOperations_77 : decode cX0_foldOperations 77 = .ok (.iadd, 1) := by decide +kernel
theorem dX0_foldOperations_78 : decode cX0_foldOperations 78 = .ok (.invokevirtual 65, 3) := by decide +kernel
theorem dX0_foldOperations_81 : decode cX0_foldOperations 81 = .ok (.iinc 2 (-1), 3) := by decide +kernel
theorem dX0_foldOperations_84 : decode cX0_foldOperations 84 = .ok (.goto (-77), 3) := by decide +kernel
theorem dX0_foldOperations_87 : decode cX0_foldOperations 87 = .ok (.return_, 1) := by decide +kernel
theorem dX0_hastyCopy_0 : decode cX0_hastyCopy 0 = .ok (.iconst 0, 1) := by decide +kernel
theorem dX0_hastyCopy_1 : decode cX0_hastyCopy 1 = .ok (.istore_n 2, 1) := by decide +kernel
theorem dX0_hastyCopy_2 : decode cX0_hastyCopy 2 = .ok (.iload_n 2, 1) := by decide +kernel
theorem dX0_hastyCopy_3 : decode cX0_hastyCopy 3 = .ok (.aload_n 1, 1) := by decide +kernel
theorem dX0_hastyCopy_4 : decode cX0_hastyCopy 4 = .ok (.getfield 31, 3) := by decide +kernel
theorem dX0_hastyCopy_7 : decode cX0_hastyCopy 7 = .ok (.if_icmp .ge 71, 3) := by decide +kernel
theorem dX0_hastyCopy_10 : decode cX0_hastyCopy 10 = .ok (.aload_n 1, 1) := by decide +kernel
theorem dX0_hastyCopy_11 : decode cX0_hastyCopy 11 = .ok (.iload_n 2, 1) := by decide +kernel
theorem dX0_hastyCopy_12 : decode cX0_hastyCopy 12 = .ok (.invokevirtual 35, 3) := by decide +kernel
theorem dX0_hastyCopy_15 : decode cX0_hastyCopy 15 = .ok (.bipush 100, 2) := by decide +kernel
theorem dX0_hastyCopy_17 : decode cX0_hastyCopy 17 = .ok (.isub, 1) := by decide +kernel
theorem dX0_hastyCopy_18 : decode cX0_hastyCopy 18 = .ok (.istore_n 3, 1) := by decide +kernel
theorem dX0_hastyCopy_19 : decode cX0_hastyCopy 19 = .ok (.aload_n 1, 1) := by decide +kernel
theorem dX0_hastyCopy_20 : decode cX0_hastyCopy 20 = .ok (.iload_n 2, 1) := by decide +kernel
theorem dX0_hastyCopy_21 : decode cX0_hastyCopy 21 = .ok (.iconst 1, 1) := by decide +kernel
theorem dX0_hastyCopy_22 : decode cX0_hastyCopy 22 = .ok (.iadd, 1) := by decide +kernel
theorem dX0_hastyCopy_23 : decode cX0_hastyCopy 23 = .ok (.invokevirtual 35, 3) := by decide +kernel
theorem dX0_hastyCopy_26 : decode cX0_hastyCopy 26 = .ok (.bipush 20, 2) := by decide +kernel
theorem dX0_hastyCopy_28 : decode cX0_hastyCopy 28 = .ok (.isub, 1) := by decide +kernel
theorem dX0_hastyCopy_29 : decode cX0_hastyCopy 29 = .ok (.istore 4, 2) := by decide +kernel
theorem dX0_hastyCopy_31 : decode cX0_hastyCopy 31 = .ok (.aload_n 1, 1) := by decide +kernel
theorem dX0_hastyCopy_32 : decode cX0_hastyCopy 32 = .ok (.iload_n 2, 1) := by decide +kernel
theorem dX0_hastyCopy_33 : decode cX0_hastyCopy 33 = .ok (.invokevirtual 35, 3) := by decide +kernel
theorem dX0_hastyCopy_36 : decode cX0_hastyCopy 36 = .ok (.invokestatic 99, 3) := by decide +kernel
theorem dX0_hastyCopy_39 : decode cX0_hastyCopy 39 = .ok (.ifCond .eq 33, 3) := by decide +kernel
theorem dX0_hastyCopy_42 : decode cX0_hastyCopy 42 = .ok (.aload_n 1, 1) := by decide +kernel
theorem dX0_hastyCopy_43 : decode cX0_hastyCopy 43 = .ok (.iload_n 2, 1) := by decide +kernel
theorem dX0_hastyCopy_44 : decode cX0_hastyCopy 44 = .ok (.iconst 1, 1) := by decide +kernel
theorem dX0_hastyCopy_45 : decode cX0_hastyCopy 45 = .ok (.iadd, 1) := by decide +kernel
theorem dX0_hastyCopy_46 : decode cX0_hastyCopy 46 = .ok (.invokevirtual 35, 3) := by decide +kernel
theorem dX0_hastyCopy_49 : decode cX0_hastyCopy 49 = .ok (.invokestatic 105, 3) := by decide +kernel
theorem dX0_hastyCopy_52 : decode cX0_hastyCopy 52 = .ok (.ifCond .eq 20, 3) := by decide +kernel
theorem dX0_hastyCopy_55 : decode cX0_hastyCopy 55 = .ok (.iload_n 3, 1) := by decide +kernel
theorem dX0_hastyCopy_56 : decode cX0_hastyCopy 56 = .ok (.iload 4, 2) := by decide +kernel
theorem dX0_hastyCopy_58 : decode cX0_hastyCopy 58 = .ok (.if_icmp .eq 14, 3) := by decide +kernel
theorem dX0_hastyCopy_61 : decode cX0_hastyCopy 61 = .ok (.aload_n 0, 1) := by decide +kernel
theorem dX0_hastyCopy_62 : decode cX0_hastyCopy 62 = .ok (.aload_n 1, 1) := by decide +kernel
theorem dX0_hastyCopy_63 : decode cX0_hastyCopy 63 = .ok (.iload_n 2, 1) := by decide +kernel
theorem dX0_hastyCopy_64 : decode cX0_hastyCopy 64 = .ok (.iconst 2, 1) := by decide +kernel
theorem dX0_hastyCopy_65 : decode cX0_hastyCopy 65 = .ok (.iadd, 1) := by decide +kernel
theorem dX0_hastyCopy_66 : decode cX0_hastyCopy 66 = .ok (.iload_n 3, 1) := by decide +kernel
theorem dX0_hastyCopy_67 : decode cX0_hastyCopy 67 = .ok (.iload 4, 2) := by decide +kernel
theorem dX0_hastyCopy_69 : decode cX0_hastyCopy 69 = .ok (.invokevirtual 108, 3) := by decide +kernel
theorem dX0_hastyCopy_72 : decode cX0_hastyCopy 72 = .ok (.iinc 2 1, 3) := by decide +kernel
theorem dX0_hastyCopy_75 : decode cX0_hastyCopy 75 = .ok (.goto (-73), 3) := by decide +kernel
theorem dX0_hastyCopy_78 : decode cX0_hastyCopy 78 = .ok (.return_, 1) := by decide +kernel
theorem dX0_hastyDead_0 : decode cX0_hastyDead 0 = .ok (.aload_n 1, 1) := by decide +kernel
theorem dX0_hastyDead_1 : decode cX0_hastyDead 1 = .ok (.getfield 31, 3) := by decide +kernel
theorem dX0_hastyDead_4 : decode cX0_hastyDead 4 = .ok (.iconst 1, 1) := by decide +kernel
theorem dX0_hastyDead_5 : decode cX0_hastyDead 5 = .ok (.isub, 1) := by decide +kernel
theorem dX0_hastyDead_6 : decode cX0_hastyDead 6 = .ok (.istore_n 2, 1) := by decide +kernel
theorem dX0_hastyDead_7 : decode cX0_hastyDead 7 = .ok (.iload_n 2, 1) := by decide +kernel
theorem dX0_hastyDead_8 : decode cX0_hastyDead 8 = .ok (.ifCond .lt 58, 3) := by decide +kernel
theorem dX0_hastyDead_11 : decode cX0_hastyDead 11 = .ok (.aload_n 1, 1) := by decide +kernel
theorem dX0_hastyDead_12 : decode cX0_hastyDead 12 = .ok (.iload_n 2, 1) := by decide +kernel
theorem dX0_hastyDead_13 : decode cX0_hastyDead 13 = .ok (.invokevirtual 35, 3) := by decide +kernel
theorem dX0_hastyDead_16 : decode cX0_hastyDead 16 = .ok (.istore_n 3, 1) := by decide +kernel
theorem dX0_hastyDead_17 : decode cX0_hastyDead 17 = .ok (.aload_n 1, 1) := by decide +kernel
theorem dX0_hastyDead_18 : decode cX0_hastyDead 18 = .ok (.iload_n 2, 1) := by decide +kernel
theorem dX0_hastyDead_19 : decode cX0_hastyDead 19 = .ok (.iconst 1, 1) := by decide +kernel
theorem dX0_hastyDead_20 : decode cX0_hastyDead 20 = .ok (.iadd, 1) := by decide +kernel
theorem dX0_hastyDead_21 : decode cX0_hastyDead 21 = .ok (.invokevirtual 96, 3) := by decide +kernel
theorem dX0_hastyDead_24 : decode cX0_hastyDead 24 = .ok (.istore 4, 2) := by decide +kernel
theorem dX0_hastyDead_26 : decode cX0_hastyDead 26 = .ok (.iload_n 3, 1) := by decide +kernel
theorem dX0_hastyDead_27 : decode cX0_hastyDead 27 = .ok (.invokestatic 99, 3) := by decide +kernel
theorem dX0_hastyDead_30 : decode cX0_hastyDead 30 = .ok (.ifCond .eq 30, 3) := by decide +kernel
theorem dX0_hastyDead_33 : decode cX0_hastyDead 33 = .ok (.aload_n 1, 1) := by decide +kernel
theorem dX0_hastyDead_34 : decode cX0_hastyDead 34 = .ok (.iload_n 3, 1) := by decide +kernel
theorem dX0_hastyDead_35 : decode cX0_hastyDead 35 = .ok (.bipush 100, 2) := by decide +kernel
theorem dX0_hastyDead_37 : decode cX0_hastyDead 37 = .ok (.isub, 1) := by decide +kernel
theorem dX0_hastyDead_38 : decode cX0_hastyDead 38 = .ok (.bipush 20, 2) := by decide +kernel
theorem dX0_hastyDead_40 : decode cX0_hastyDead 40 = .ok (.iadd, 1) := by decide +kernel
theorem dX0_hastyDead_41 : decode cX0_hastyDead 41 = .ok (.iload 4, 2) := by decide +kernel
theorem dX0_hastyDead_43 : decode cX0_hastyDead 43 = .ok (.aload_n 1, 1) := by decide +kernel
theorem dX0_hastyDead_44 : decode cX0_hastyDead 44 = .ok (.getfield 31, 3) := by decide +kernel
theorem dX0_hastyDead_47 : decode cX0_hastyDead 47 = .ok (.invokevirtual 102, 3) := by decide +kernel
theorem dX0_hastyDead_50 : decode cX0_hastyDead 50 = .ok (.ifCond .ne 10, 3) := by decide +kernel
theorem dX0_hastyDead_53 : decode cX0_hastyDead 53 = .ok (.aload_n 1, 1) := by decide +kernel
theorem dX0_hastyDead_54 : decode cX0_hastyDead 54 = .ok (.iload_n 2, 1) := by decide +kernel
theorem dX0_hastyDead_55 : decode cX0_hastyDead 55 = .ok (.iload 4, 2) := by decide +kernel
theorem dX0_hastyDead_57 : decode cX0_hastyDead 57 = .ok (.invokevirtual 65, 3) := by decide +kernel
theorem dX0_hastyDead_60 : decode cX0_hastyDead 60 = .ok (.iinc 2 (-1), 3) := by decide +kernel
theorem dX0_hastyDead_63 : decode cX0_hastyDead 63 = .ok (.goto (-56), 3) := by decide +kernel
theorem dX0_hastyDead_66 : decode cX0_hastyDead 66 = .ok (.return_, 1) := by decide +kernel
theorem dX0_unroll_0 : decode cX0_unroll 0 = .ok (.aload_n 0, 1) := by decide +kernel
theorem dX0_unroll_1 : decode cX0_unroll 1 = .ok (.getfield 14, 3) := by decide +kernel
theorem dX0_unroll_4 : decode cX0_unroll 4 = .ok (.iconst 0, 1) := by decide +kernel
theorem dX0_unroll_5 : decode cX0_unroll 5 = .ok (.putfield 31, 3) := by decide +kernel
theorem dX0_unroll_8 : decode cX0_unroll 8 = .ok (.iconst 0, 1) := by decide +kernel
theorem dX0_unroll_9 : decode cX0_unroll 9 = .ok (.istore_n 2, 1) := by decide +kernel
theorem dX0_unroll_10 : decode cX0_unroll 10 = .ok (.iload_n 2, 1) := by decide +kernel
theorem dX0_unroll_11 : decode cX0_unroll 11 = .ok (.aload_n 1, 1) := by decide +kernel
theorem dX0_unroll_12 : decode cX0_unroll 12 = .ok (.getfield 31, 3) := by decide +kernel
theorem dX0_unroll_15 : decode cX0_unroll 15 = .ok (.if_icmp .ge 97, 3) := by decide +kernel
theorem dX0_unroll_18 : decode cX0_unroll 18 = .ok (.aload_n 1, 1) := by decide +kernel
theorem dX0_unroll_19 : decode cX0_unroll 19 = .ok (.iload_n 2, 1) := by decide +kernel
theorem dX0_unroll_20 : decode cX0_unroll 20 = .ok (.invokevirtual 35, 3) := by decide +kernel
theorem dX0_unroll_23 : decode cX0_unroll 23 = .ok (.bipush 115, 2) := by decide +kernel
theorem dX0_unroll_25 : decode cX0_unroll 25 = .ok (.if_icmp .ne 69, 3) := by decide +kernel
theorem dX0_unroll_28 : decode cX0_unroll 28 = .ok (.aload_n 1, 1) := by decide +kernel
theorem dX0_unroll_29 : decode cX0_unroll 29 = .ok (.iload_n 2, 1) := by decide +kernel
theorem dX0_unroll_30 : decode cX0_unroll 30 = .ok (.invokevirtual 68, 3) := by decide +kernel
theorem dX0_unroll_33 : decode cX0_unroll 33 = .ok (.istore_n 3, 1) := by decide +kernel
theorem dX0_unroll_34 : decode cX0_unroll 34 = .ok (.aload_n 0, 1) := by decide +kernel
theorem dX0_unroll_35 : decode cX0_unroll 35 = .ok (.getfield 14, 3) := by decide +kernel
theorem dX0_unroll_38 : decode cX0_unroll 38 = .ok (.bipush 112, 2) := by decide +kernel
theorem dX0_unroll_40 : decode cX0_unroll 40 = .ok (.invokevirtual 122, 3) := by decide +kernel
theorem dX0_unroll_43 : decode cX0_unroll 43 = .ok (.aload_n 0, 1) := by decide +kernel
theorem dX0_unroll_44 : decode cX0_unroll 44 = .ok (.getfield 14, 3) := by decide +kernel
theorem dX0_unroll_47 : decode cX0_unroll 47 = .ok (.aload_n 1, 1) := by decide +kernel
theorem dX0_unroll_48 : decode cX0_unroll 48 = .ok (.iload_n 2, 1) := by decide +kernel
theorem dX0_unroll_49 : decode cX0_unroll 49 = .ok (.iconst 1, 1) := by decide +kernel
theorem dX0_unroll_50 : decode cX0_unroll 50 = .ok (.iadd, 1) := by decide +kernel
theorem dX0_unroll_51 : decode cX0_unroll 51 = .ok (.iload_n 3, 1) := by decide +kernel
theorem dX0_unroll_52 : decode cX0_unroll 52 = .ok (.invokevirtual 125, 3) := by decide +kernel
theorem dX0_unroll_55 : decode cX0_unroll 55 = .ok (.aload_n 0, 1) := by decide +kernel
theorem dX0_unroll_56 : decode cX0_unroll 56 = .ok (.getfield 14, 3) := by decide +kernel
theorem dX0_unroll_59 : decode cX0_unroll 59 = .ok (.aload_n 1, 1) := by decide +kernel
theorem dX0_unroll_60 : decode cX0_unroll 60 = .ok (.iload_n 2, 1) := by decide +kernel
theorem dX0_unroll_61 : decode cX0_unroll 61 = .ok (.iload_n 3, 1) := by decide +kernel
theorem dX0_unroll_62 : decode cX0_unroll 62 = .ok (.iconst 1, 1) := by decide +kernel
theorem dX0_unroll_63 : decode cX0_unroll 63 = .ok (.iadd, 1) := by decide +kernel
theorem dX0_unroll_64 : decode cX0_unroll 64 = .ok (.invokevirtual 125, 3) := by decide +kernel
theorem dX0_unroll_67 : decode cX0_unroll 67 = .ok (.aload_n 0, 1) := by decide +kernel
theorem dX0_unroll_68 : decode cX0_unroll 68 = .ok (.getfield 14, 3) := by decide +kernel
theorem dX0_unroll_71 : decode cX0_unroll 71 = .ok (.bipush 113, 2) := by decide +kernel
theorem dX0_unroll_73 : decode cX0_unroll 73 = .ok (.invokevirtual 122, 3) := by decide +kernel
theorem dX0_unroll_76 : decode cX0_unroll 76 = .ok (.aload_n 0, 1) := by decide +kernel
theorem dX0_unroll_77 : decode cX0_unroll 77 = .ok (.getfield 14, 3) := by decide +kernel
theorem dX0_unroll_80 : decode cX0_unroll 80 = .ok (.bipush 114, 2) := by decide +kernel
theorem dX0_unroll_82 : decode cX0_unroll 82 = .ok (.invokevirtual 122, 3) := by decide +kernel
theorem dX0_unroll_85 : decode cX0_unroll 85 = .ok (.iload_n 2, 1) := by decide +kernel
theorem dX0_unroll_86 : decode cX0_unroll 86 = .ok (.iload_n 3, 1) := by decide +kernel
theorem dX0_unroll_87 : decode cX0_unroll 87 = .ok (.invokestatic 129, 3) := by decide +kernel
theorem dX0_unroll_90 : decode cX0_unroll 90 = .ok (.istore_n 2, 1) := by decide +kernel
theorem dX0_unroll_91 : decode cX0_unroll 91 = .ok (.goto 15, 3) := by decide +kernel
theorem dX0_unroll_94 : decode cX0_unroll 94 = .ok (.aload_n 0, 1) := by decide +kernel
theorem dX0_unroll_95 : decode cX0_unroll 95 = .ok (.getfield 14, 3) := by decide +kernel
theorem dX0_unroll_98 : decode cX0_unroll 98 = .ok (.aload_n 1, 1) := by decide +kernel
theorem dX0_unroll_99 : decode cX0_unroll 99 = .ok (.iload_n 2, 1) := by decide +kernel
theorem dX0_unroll_100 : decode cX0_unroll 100 = .ok (.invokevirtual 35, 3) := by decide +kernel
theorem dX0_unroll_103 : decode cX0_unroll 103 = .ok (.invokevirtual 122, 3) := by decide +kernel
theorem dX0_unroll_106 : decode cX0_unroll 106 = .ok (.iinc 2 1, 3) := by decide +kernel
theorem dX0_unroll_109 : decode cX0_unroll 109 = .ok (.goto (-99), 3) := by decide +kernel
theorem dX0_unroll_112 : decode cX0_unroll 112 = .ok (.aload_n 1, 1) := by decide +kernel
theorem dX0_unroll_113 : decode cX0_unroll 113 = .ok (.aload_n 0, 1) := by decide +kernel
theorem dX0_unroll_114 : decode cX0_unroll 114 = .ok (.getfield 14, 3) := by decide +kernel
theorem dX0_unroll_117 : decode cX0_unroll 117 = .ok (.invokevirtual 135, 3) := by decide +kernel
theorem dX0_unroll_120 : decode cX0_unroll 120 = .ok (.return_, 1) := by decide +kernel
theorem dX10_advance_0 : decode cX10_advance 0 = .ok (.aload_n 0, 1) := by decide +kernel
theorem dX10_advance_1 : decode cX10_advance 1 = .ok (.aload_n 0, 1) := by decide +kernel
theorem dX10_advance_2 : decode cX10_advance 2 = .ok (.getfield 19, 3) := by decide +kernel
theorem dX10_advance_5 : decode cX10_advance 5 = .ok (.putfield 22, 3) := by decide +kernel
theorem dX10_advance_8 : decode cX10_advance 8 = .ok (.aload_n 0, 1) := by decide +kernel
theorem dX10_advance_9 : decode cX10_advance 9 = .ok (.getfield 19, 3) := by decide +kernel
theorem dX10_advance_12 : decode cX10_advance 12 = .ok (.istore_n 2, 1) := by decide +kernel
theorem dX10_advance_13 : decode cX10_advance 13 = .ok (.iload_n 2, 1) := by decide +kernel
theorem dX10_advance_14 : decode cX10_advance 14 = .ok (.aload_n 0, 1) := by decide +kernel
theorem dX10_advance_15 : decode cX10_advance 15 = .ok (.getfield 15, 3) := by decide +kernel
theorem dX10_advance_18 : decode cX10_advance 18 = .ok (.if_icmp .ge 36, 3) := by decide +kernel
theorem dX10_advance_21 : decode cX10_advance 21 = .ok (.aload_n 0, 1) := by decide +kernel
theorem dX10_advance_22 : decode cX10_advance 22 = .ok (.iload_n 2, 1) := by decide +kernel
theorem dX10_advance_23 : decode cX10_advance 23 = .ok (.invokevirtual 31, 3) := by decide +kernel
theorem dX10_advance_26 : decode cX10_advance 26 = .ok (.bipush 32, 2) := by decide +kernel
theorem dX10_advance_28 : decode cX10_advance 28 = .ok (.if_icmp .eq 13, 3) := by decide +kernel
theorem dX10_advance_31 : decode cX10_advance 31 = .ok (.aload_n 0, 1) := by decide +kernel
theorem dX10_advance_32 : decode cX10_advance 32 = .ok (.iload_n 2, 1) := by decide +kernel
theorem dX10_advance_33 : decode cX10_advance 33 = .ok (.invokevirtual 31, 3) := by decide +kernel
theorem dX10_advance_36 : decode cX10_advance 36 = .ok (.bipush 10, 2) := by decide +kernel
theorem dX10_advance_38 : decode cX10_advance 38 = .ok (.if_icmp .ne 16, 3) := by decide +kernel
theorem dX10_advance_41 : decode cX10_advance 41 = .ok (.aload_n 0, 1) := by decide +kernel
theorem dX10_advance_42 : decode cX10_advance 42 = .ok (.iload_n 2, 1) := by decide +kernel
theorem dX10_advance_43 : decode cX10_advance 43 = .ok (.iconst 1, 1) := by decide +kernel
theorem dX10_advance_44 : decode cX10_advance 44 = .ok (.iadd, 1) := by decide +kernel
theorem dX10_advance_45 : decode cX10_advance 45 = .ok (.putfield 22, 3) := by decide +kernel
theorem dX10_advance_48 : decode cX10_advance 48 = .ok (.iinc 2 1, 3) := by decide +kernel
theorem dX10_advance_51 : decode cX10_advance 51 = .ok (.goto (-38), 3) := by decide +kernel
theorem dX10_advance_54 : decode cX10_advance 54 = .ok (.aload_n 0, 1) := by decide +kernel
theorem dX10_advance_55 : decode cX10_advance 55 = .ok (.aload_n 0, 1) := by decide +kernel
theorem dX10_advance_56 : decode cX10_advance 56 = .ok (.getfield 22, 3) := by decide +kernel
theorem dX10_advance_59 : decode cX10_advance 59 = .ok (.invokevirtual 31, 3) := by decide +kernel
theorem dX10_advance_62 : decode cX10_advance 62 = .ok (.istore_n 2, 1) := by decide +kernel
theorem dX10_advance_63 : decode cX10_advance 63 = .ok (.iload_n 2, 1) := by decide +kernel
theorem dX10_advance_64 : decode cX10_advance 64 = .ok (.invokestatic 35, 3) := by decide +kernel
theorem dX10_advance_67 : decode cX10_advance 67 = .ok (.ifCond .eq 10, 3) := by decide +kernel
theorem dX10_advance_70 : decode cX10_advance 70 = .ok (.aload_n 0, 1) := by decide +kernel
theorem dX10_advance_77 : decode cX10_advance 77 = .ok (.iload_n 2, 1) := by decide +kernel
theorem dX10_advance_78 : decode cX10_advance 78 = .ok (.invokestatic 42, 3) := by decide +kernel
theorem dX10_advance_81 : decode cX10_advance 81 = .ok (.ifCond .eq 10, 3) := by decide +kernel
theorem dX10_advance_84 : decode cX10_advance 84 = .ok (.aload_n 0, 1) := by decide +kernel
theorem dX10_advance_85 : decode cX10_advance 85 = .ok (.invokevirtual 45, 3) := by decide +kernel
theorem dX10_advance_88 : decode cX10_advance 88 = .ok (.goto 9, 3) := by decide +kernel
theorem dX10_advance_91 : decode cX10_advance 91 = .ok (.aload_n 0, 1) := by decide +kernel
theorem dX10_advance_92 : decode cX10_advance 92 = .ok (.iload_n 2, 1) := by decide +kernel
theorem dX10_advance_93 : decode cX10_advance 93 = .ok (.iload_n 1, 1) := by decide +kernel
theorem dX10_advance_94 : decode cX10_advance 94 = .ok (.invokevirtual 48, 3) := by decide +kernel
theorem dX10_byteAt_0 : decode cX10_byteAt 0 = .ok (.iload_n 1, 1) := by decide +kernel
theorem dX10_byteAt_1 : decode cX10_byteAt 1 = .ok (.ifCond .lt 20, 3) := by decide +kernel
theorem dX10_byteAt_4 : decode cX10_byteAt 4 = .ok (.iload_n 1, 1) := by decide +kernel
theorem dX10_byteAt_5 : decode cX10_byteAt 5 = .ok (.aload_n 0, 1) := by decide +kernel
theorem dX10_byteAt_6 : decode cX10_byteAt 6 = .ok (.getfield 15, 3) := by decide +kernel
theorem dX10_byteAt_9 : decode cX10_byteAt 9 = .ok (.if_icmp .ge 12, 3) := by decide +kernel
theorem dX10_byteAt_12 : decode cX10_byteAt 12 = .ok (.aload_n 0, 1) := by decide +kernel
theorem dX10_byteAt_13 : decode cX10_byteAt 13 = .ok (.getfield 11, 3) := by decide +kernel
theorem dX10_byteAt_16 : decode cX10_byteAt 16 = .ok (.iload_n 1, 1) := by decide +kernel
theorem dX10_byteAt_17 : decode cX10_byteAt 17 = .ok (.iaload, 1) := by decide +kernel
theorem dX10_byteAt_18 : decode cX10_byteAt 18 = .ok (.goto 4, 3) := by decide +kernel
theorem dX10_byteAt_21 : decode cX10_byteAt 21 = .ok (.iconst (-1), 1) := by decide +kernel
theorem dX10_byteAt_22 : decode cX10_byteAt 22 = .ok (.ireturn, 1) := by decide +kernel
theorem dX10_isDigit_0 : decode cX10_isDigit 0 = .ok (.iload_n 0, 1) := by decide +kernel
theorem dX10_isDigit_1 : decode cX10_isDigit 1 = .ok (.bipush 48, 2) := by decide +kernel
theorem dX10_isDigit_3 : decode cX10_isDigit 3 = .ok (.if_icmp .lt 13, 3) := by decide +kernel
theorem dX10_isDigit_6 : decode cX10_isDigit 6 = .ok (.iload_n 0, 1) := by decide +kernel
theorem dX10_isDigit_7 : decode cX10_isDigit 7 = .ok (.bipush 57, 2) := by decide +kernel
theorem dX10_isDigit_9 : decode cX10_isDigit 9 = .ok (.if_icmp .gt 7, 3) := by decide +kernel
theorem dX10_isDigit_12 : decode cX10_isDigit 12 = .ok (.iconst 1, 1) := by decide +kernel
theorem dX10_isDigit_13 : decode cX10_isDigit 13 = .ok (.goto 4, 3) := by decide +kernel
theorem dX10_isDigit_16 : decode cX10_isDigit 16 = .ok (.iconst 0, 1) := by decide +kernel
theorem dX10_isDigit_17 : decode cX10_isDigit 17 = .ok (.ireturn, 1) := by decide +kernel
theorem dX10_isLetter_0 : decode cX10_isLetter 0 = .ok (.iload_n 0, 1) := by decide +kernel
theorem dX10_isLetter_1 : decode cX10_isLetter 1 = .ok (.invokestatic 52, 3) := by decide +kernel
theorem dX10_isLetter_4 : decode cX10_isLetter 4 = .ok (.ifCond .ne 15, 3) := by decide +kernel
theorem dX10_isLetter_7 : decode cX10_isLetter 7 = .ok (.iload_n 0, 1) := by decide +kernel
theorem dX10_isLetter_8 : decode cX10_isLetter 8 = .ok (.bipush 65, 2) := by decide +kernel
theorem dX10_isLetter_10 : decode cX10_isLetter 10 = .ok (.if_icmp .lt 13, 3) := by decide +kernel
theorem dX10_isLetter_13 : decode cX10_isLetter 13 = .ok (.iload_n 0, 1) := by decide +kernel
theorem dX10_isLetter_14 : decode cX10_isLetter 14 = .ok (.bipush 90, 2) := by decide +kernel
theorem dX10_isLetter_16 : decode cX10_isLetter 16 = .ok (.if_icmp .gt 7, 3) := by decide +kernel
theorem dX10_isLetter_19 : decode cX10_isLetter 19 = .ok (.iconst 1, 1) := by decide +kernel
theorem dX10_isLetter_20 : decode cX10_isLetter 20 = .ok (.goto 4, 3) := by decide +kernel
theorem dX10_isLetter_23 : decode cX10_isLetter 23 = .ok (.iconst 0, 1) := by decide +kernel
theorem dX10_isLetter_24 : decode cX10_isLetter 24 = .ok (.ireturn, 1) := by decide +kernel
theorem dX10_isSign_0 : decode cX10_isSign 0 = .ok (.iload_n 0, 1) := by decide +kernel
theorem dX10_isSign_1 : decode cX10_isSign 1 = .ok (.bipush 43, 2) := by decide +kernel
theorem dX10_isSign_3 : decode cX10_isSign 3 = .ok (.if_icmp .eq 27, 3) := by decide +kernel
theorem dX10_isSign_6 : decode cX10_isSign 6 = .ok (.iload_n 0, 1) := by decide +kernel
theorem dX10_isSign_7 : decode cX10_isSign 7 = .ok (.bipush 45, 2) := by decide +kernel
theorem dX10_isSign_9 : decode cX10_isSign 9 = .ok (.if_icmp .eq 21, 3) := by decide +kernel
theorem dX10_isSign_12 : decode cX10_isSign 12 = .ok (.iload_n 0, 1) := by decide +kernel
theorem dX10_isSign_13 : decode cX10_isSign 13 = .ok (.bipush 42, 2) := by decide +kernel
theorem dX10_isSign_15 : decode cX10_isSign 15 = .ok (.if_icmp .eq 15, 3) := by decide +kernel
theorem dX10_isSign_18 : decode cX10_isSign 18 = .ok (.iload_n 0, 1) := by decide +kernel
theorem dX10_isSign_19 : decode cX10_isSign 19 = .ok (.bipush 40, 2) := by decide +kernel
theorem dX10_isSign_21 : decode cX10_isSign 21 = .ok (.if_icmp .eq 9, 3) := by decide +kernel
theorem dX10_isSign_24 : decode cX10_isSign 24 = .ok (.iload_n 0, 1) := by decide +kernel
theorem dX10_isSign_25 : decode cX10_isSign 25 = .ok (.bipush 41, 2) := by decide +kernel
theorem dX10_isSign_27 : decode cX10_isSign 27 = .ok (.if_icmp .ne 7, 3) := by decide +kernel
theorem dX10_isSign_30 : decode cX10_isSign 30 = .ok (.iconst 1, 1) := by decide +kernel
theorem dX10_isSign_31 : decode cX10_isSign 31 = .ok (.goto 4, 3) := by decide +kernel
theorem dX10_isSign_34 : decode cX10_isSign 34 = .ok (.iconst 0, 1) := by decide +kernel
theorem dX10_isSign_35 : decode cX10_isSign 35 = .ok (.istore_n 1, 1) := by decide +kernel
theorem dX10_isSign_36 : decode cX10_isSign 36 = .ok (.iload_n 0, 1) := by decide +kernel
theorem dX10_isSign_37 : decode cX10_isSign 37 = .ok (.bipush 60, 2) := by decide +kernel
theorem dX10_isSign_39 : decode cX10_isSign 39 = .ok (.if_icmp .eq 15, 3) := by decide +kernel
theorem dX10_isSign_42 : decode cX10_isSign 42 = .ok (.iload_n 0, 1) := by decide +kernel
theorem dX10_isSign_43 : decode cX10_isSign 43 = .ok (.bipush 61, 2) := by decide +kernel
theorem dX10_isSign_45 : decode cX10_isSign 45 = .ok (.if_icmp .eq 9, 3) := by decide +kernel
theorem dX10_isSign_48 : decode cX10_isSign 48 = .ok (.iload_n 0, 1) := by decide +kernel
theorem dX10_isSign_49 : decode cX10_isSign 49 = .ok (.bipush 62, 2) := by decide +kernel
theorem dX10_isSign_51 : decode cX10_isSign 51 = .ok (.if_icmp .ne 7, 3) := by decide +kernel
theorem dX10_isSign_54 : decode cX10_isSign 54 = .ok (.iconst 1, 1) := by decide +kernel
theorem dX10_isSign_55 : decode cX10_isSign 55 = .ok (.goto 4, 3) := by decide +kernel
theorem dX10_isSign_58 : decode cX10_isSign 58 = .ok (.iconst 0, 1) := by decide +kernel
theorem dX10_isSign_59 : decode cX10_isSign 59 = .ok (.istore_n 2, 1) := by decide +kernel
theorem dX10_isSign_60 : decode cX10_isSign 60 = .ok (.iload_n 1, 1) := by decide +kernel
theorem dX10_isSign_61 : decode cX10_isSign 61 = .ok (.ifCond .ne 25, 3) := by decide +kernel
theorem dX10_isSign_64 : decode cX10_isSign 64 = .ok (.iload_n 2, 1) := by decide +kernel
theorem dX10_isSign_65 : decode cX10_isSign 65 = .ok (.ifCond .ne 21, 3) := by decide +kernel
theorem dX10_isSign_68 : decode cX10_isSign 68 = .ok (.iload_n 0, 1) := by decide +kernel
theorem dX10_isSign_69 : decode cX10_isSign 69 = .ok (.bipush 59, 2) := by decide +kernel
theorem dX10_isSign_71 : decode cX10_isSign 71 = .ok (.if_icmp .eq 15, 3) := by decide +kernel
theorem dX10_isSign_74 : decode cX10_isSign 74 = .ok (.iload_n 0, 1) := by decide +kernel
theorem dX10_isSign_75 : decode cX10_isSign 75 = .ok (.bipush 123, 2) := by decide +kernel
theorem dX10_isSign_77 : decode cX10_isSign 77 = .ok (.if_icmp .eq 9, 3) := by decide +kernel
theorem dX10_isSign_80 : decode cX10_isSign 80 = .ok (.iload_n 0, 1) := by decide +kernel
theorem dX10_isSign_81 : decode cX10_isSign 81 = .ok (.bipush 125, 2) := by decide +kernel
theorem dX10_isSign_83 : decode cX10_isSign 83 = .ok (.if_icmp .ne 7, 3) := by decide +kernel
theorem dX10_isSign_86 : decode cX10_isSign 86 = .ok (.iconst 1, 1) := by decide +kernel
theorem dX10_isSign_87 : decode cX10_isSign 87 = .ok (.goto 4, 3) := by decide +kernel
theorem dX10_isSign_90 : decode cX10_isSign 90 = .ok (.iconst 0, 1) := by decide +kernel
theorem dX10_isSign_91 : decode cX10_isSign 91 = .ok (.ireturn, 1) := by decide +kernel
theorem dX10_isSmallLetter_0 : decode cX10_isSmallLetter 0 = .ok (.iload_n 0, 1) := by decide +kernel
theorem dX10_isSmallLetter_1 : decode cX10_isSmallLetter 1 = .ok (.bipush 97, 2) := by decide +kernel
theorem dX10_isSmallLetter_3 : decode cX10_isSmallLetter 3 = .ok (.if_icmp .lt 13, 3) := by decide +kernel
theorem dX10_isSmallLetter_6 : decode cX10_isSmallLetter 6 = .ok (.iload_n 0, 1) := by decide +kernel
theorem dX10_isSmallLetter_7 : decode cX10_isSmallLetter 7 = .ok (.bipush 122, 2) := by decide +kernel
theorem dX10_isSmallLetter_9 : decode cX10_isSmallLetter 9 = .ok (.if_icmp .gt 7, 3) := by decide +kernel
theorem dX10_isSmallLetter_12 : decode cX10_isSmallLetter 12 = .ok (.iconst 1, 1) := by decide +kernel
theorem dX10_isSmallLetter_13 : decode cX10_isSmallLetter 13 = .ok (.goto 4, 3) := by decide +kernel
theorem dX10_isSmallLetter_16 : decode cX10_isSmallLetter 16 = .ok (.iconst 0, 1) := by decide +kernel
theorem dX10_isSmallLetter_17 : decode cX10_isSmallLetter 17 = .ok (.ireturn, 1) := by decide +kernel
theorem dX10_isText_0 : decode cX10_isText 0 = .ok (.aload_n 1, 1) := by decide +kernel
theorem dX10_put_0 : decode cX10_put 0 = .ok (.bipush 24, 2) := by decide +kernel
theorem dX10_put_2 : decode cX10_put 2 = .ok (.istore_n 2, 1) := by decide +kernel
theorem dX10_put_3 : decode cX10_put 3 = .ok (.iload_n 2, 1) := by decide +kernel
theorem dX10_put_4 : decode cX10_put 4 = .ok (.ifCond .lt 47, 3) := by decide +kernel
theorem dX10_put_7 : decode cX10_put 7 = .ok (.aload_n 0, 1) := by decide +kernel
theorem dX10_put_8 : decode cX10_put 8 = .ok (.getfield 15, 3) := by decide +kernel
theorem dX10_put_11 : decode cX10_put 11 = .ok (.aload_n 0, 1) := by decide +kernel
theorem dX10_put_12 : decode cX10_put 12 = .ok (.getfield 11, 3) := by decide +kernel
theorem dX10_put_15 : decode cX10_put 15 = .ok (.arraylength, 1) := by decide +kernel
theorem dX10_put_16 : decode cX10_put 16 = .ok (.if_icmp .ge 35, 3) := by decide +kernel
theorem dX10_put_19 : decode cX10_put 19 = .ok (.aload_n 0, 1) := by decide +kernel
theorem dX10_put_20 : decode cX10_put 20 = .ok (.getfield 11, 3) := by decide +kernel
theorem dX10_put_23 : decode cX10_put 23 = .ok (.aload_n 0, 1) := by decide +kernel
theorem dX10_put_24 : decode cX10_put 24 = .ok (.getfield 15, 3) := by decide +kernel
theorem dX10_put_27 : decode cX10_put 27 = .ok (.iload_n 1, 1) := by decide +kernel
theorem dX10_put_28 : decode cX10_put 28 = .ok (.iload_n 2, 1) := by decide +kernel
theorem dX10_put_29 : decode cX10_put 29 = .ok (.iushr, 1) := by decide +kernel
theorem dX10_put_30 : decode cX10_put 30 = .ok (.sipush 255, 3) := by decide +kernel
theorem dX10_put_33 : decode cX10_put 33 = .ok (.iand, 1) := by decide +kernel
theorem dX10_put_34 : decode cX10_put 34 = .ok (.iastore, 1) := by decide +kernel
theorem dX10_put_35 : decode cX10_put 35 = .ok (.aload_n 0, 1) := by decide +kernel
theorem dX10_put_36 : decode cX10_put 36 = .ok (.dup, 1) := by decide +kernel
theorem dX10_put_37 : decode cX10_put 37 = .ok (.getfield 15, 3) := by decide +kernel
theorem dX10_put_40 : decode cX10_put 40 = .ok (.iconst 1, 1) := by decide +kernel
theorem dX10_put_41 : decode cX10_put 41 = .ok (.iadd, 1) := by decide +kernel
theorem dX10_put_42 : decode cX10_put 42 = .ok (.putfield 15, 3) := by decide +kernel
theorem dX10_put_45 : decode cX10_put 45 = .ok (.iinc 2 (-8), 3) := by decide +kernel
theorem dX10_put_48 : decode cX10_put 48 = .ok (.goto (-45), 3) := by decide +kernel
theorem dX10_put_51 : decode cX10_put 51 = .ok (.return_, 1) := by decide +kernel
theorem dX10_rewind_0 : decode cX10_rewind 0 = .ok (.aload_n 0, 1) := by decide +kernel
theorem dX10_rewind_1 : decode cX10_rewind 1 = .ok (.iconst 0, 1) := by decide +kernel
theorem dX10_rewind_2 : decode cX10_rewind 2 = .ok (.putfield 19, 3) := by decide +kernel
theorem dX10_rewind_5 : decode cX10_rewind 5 = .ok (.aload_n 0, 1) := by decide +kernel
theorem dX10_rewind_6 : decode cX10_rewind 6 = .ok (.iconst 0, 1) := by decide +kernel
theorem dX10_rewind_7 : decode cX10_rewind 7 = .ok (.putfield 22, 3) := by decide +kernel
theorem dX10_rewind_10 : decode cX10_rewind 10 = .ok (.aload_n 0, 1) := by decide +kernel
theorem dX10_rewind_11 : decode cX10_rewind 11 = .ok (.iconst 0, 1) := by decide +kernel
theorem dX10_rewind_12 : decode cX10_rewind 12 = .ok (.putfield 25, 3) := by decide +kernel
theorem dX10_rewind_15 : decode cX10_rewind 15 = .ok (.aload_n 0, 1) := by decide +kernel
theorem dX10_rewind_16 : decode cX10_rewind 16 = .ok (.iconst 0, 1) := by decide +kernel
theorem dX10_rewind_17 : decode cX10_rewind 17 = .ok (.putfield 28, 3) := by decide +kernel
theorem dX10_rewind_20 : decode cX10_rewind 20 = .ok (.return_, 1) := by decide +kernel
theorem dX10_shorten_0 : decode cX10_shorten 0 = .ok (.iload_n 1, 1) := by decide +kernel
theorem dX10_shorten_1 : decode cX10_shorten 1 = .ok (.ifCond .lt 11, 3) := by decide +kernel
theorem dX10_shorten_4 : decode cX10_shorten 4 = .ok (.iload_n 1, 1) := by decide +kernel
theorem dX10_shorten_5 : decode cX10_shorten 5 = .ok (.aload_n 0, 1) := by decide +kernel
theorem dX10_shorten_6 : decode cX10_shorten 6 = .ok (.getfield 15, 3) := by decide +kernel
theorem dX10_shorten_9 : decode cX10_shorten 9 = .ok (.if_icmp .le 5, 3) := by decide +kernel
theorem dX10_shorten_12 : decode cX10_shorten 12 = .ok (.iconst 0, 1) := by decide +kernel
theorem dX10_shorten_13 : decode cX10_shorten 13 = .ok (.ireturn, 1) := by decide +kernel
theorem dX10_shorten_14 : decode cX10_shorten 14 = .ok (.aload_n 0, 1) := by decide +kernel
theorem dX10_shorten_15 : decode cX10_shorten 15 = .ok (.iload_n 1, 1) := by decide +kernel
theorem dX10_shorten_16 : decode cX10_shorten 16 = .ok (.putfield 15, 3) := by decide +kernel
theorem dX10_shorten_19 : decode cX10_shorten 19 = .ok (.iconst 1, 1) := by decide +kernel
theorem dX10_shorten_20 : decode cX10_shorten 20 = .ok (.ireturn, 1) := by decide +kernel
theorem dX10_takeDigits_0 : decode cX10_takeDigits 0 = .ok (.aload_n 0, 1) := by decide +kernel
theorem dX10_takeDigits_1 : decode cX10_takeDigits 1 = .ok (.aload_n 0, 1) := by decide +kernel
theorem dX10_takeDigits_2 : decode cX10_takeDigits 2 = .ok (.getfield 22, 3) := by decide +kernel
theorem dX10_takeDigits_5 : decode cX10_takeDigits 5 = .ok (.putfield 19, 3) := by decide +kernel
theorem dX10_takeDigits_8 : decode cX10_takeDigits 8 = .ok (.aload_n 0, 1) := by decide +kernel
theorem dX10_takeDigits_9 : decode cX10_takeDigits 9 = .ok (.iconst 0, 1) := by decide +kernel
theorem dX10_takeDigits_10 : decode cX10_takeDigits 10 = .ok (.putfield 28, 3) := by decide +kernel
theorem dX10_takeDigits_13 : decode cX10_takeDigits 13 = .ok (.aload_n 0, 1) := by decide +kernel
theorem dX10_takeDigits_14 : decode cX10_takeDigits 14 = .ok (.getfield 22, 3) := by decide +kernel
theorem dX10_takeDigits_17 : decode cX10_takeDigits 17 = .ok (.istore_n 1, 1) := by decide +kernel
theorem dX10_takeDigits_18 : decode cX10_takeDigits 18 = .ok (.iload_n 1, 1) := by decide +kernel
theorem dX10_takeDigits_19 : decode cX10_takeDigits 19 = .ok (.aload_n 0, 1) := by decide +kernel
theorem dX10_takeDigits_20 : decode cX10_takeDigits 20 = .ok (.getfield 15, 3) := by decide +kernel
theorem dX10_takeDigits_23 : decode cX10_takeDigits 23 = .ok (.if_icmp .ge 64, 3) := by decide +kernel
theorem dX10_takeDigits_26 : decode cX10_takeDigits 26 = .ok (.aload_n 0, 1) := by decide +kernel
theorem dX10_takeDigits_27 : decode cX10_takeDigits 27 = .ok (.iload_n 1, 1) := by decide +kernel
theorem dX10_takeDigits_28 : decode cX10_takeDigits 28 = .ok (.invokevirtual 31, 3) := by decide +kernel
theorem dX10_takeDigits_31 : decode cX10_takeDigits 31 = .ok (.invokestatic 42, 3) := by decide +kernel
theorem dX10_takeDigits_34 : decode cX10_takeDigits 34 = .ok (.ifCond .eq 53, 3) := by decide +kernel
theorem dX10_takeDigits_37 : decode cX10_takeDigits 37 = .ok (.aload_n 0, 1) := by decide +kernel
theorem dX10_takeDigits_38 : decode cX10_takeDigits 38 = .ok (.iload_n 1, 1) := by decide +kernel
theorem dX10_takeDigits_39 : decode cX10_takeDigits 39 = .ok (.aload_n 0, 1) := by decide +kernel
theorem dX10_takeDigits_40 : decode cX10_takeDigits 40 = .ok (.getfield 22, 3) := by decide +kernel
theorem dX10_takeDigits_43 : decode cX10_takeDigits 43 = .ok (.isub, 1) := by decide +kernel
theorem dX10_takeDigits_44 : decode cX10_takeDigits 44 = .ok (.iconst 4, 1) := by decide +kernel
theorem dX10_takeDigits_45 : decode cX10_takeDigits 45 = .ok (.if_icmp .ge 22, 3) := by decide +kernel
theorem dX10_takeDigits_48 : decode cX10_takeDigits 48 = .ok (.aload_n 0, 1) := by decide +kernel
theorem dX10_takeDigits_49 : decode cX10_takeDigits 49 = .ok (.getfield 28, 3) := by decide +kernel
theorem dX10_takeDigits_52 : decode cX10_takeDigits 52 = .ok (.bipush 10, 2) := by decide +kernel
theorem dX10_takeDigits_54 : decode cX10_takeDigits 54 = .ok (.imul, 1) := by decide +kernel
theorem dX10_takeDigits_55 : decode cX10_takeDigits 55 = .ok (.aload_n 0, 1) := by decide +kernel
theorem dX10_takeDigits_56 : decode cX10_takeDigits 56 = .ok (.iload_n 1, 1) := by decide +kernel
theorem dX10_takeDigits_57 : decode cX10_takeDigits 57 = .ok (.invokevirtual 31, 3) := by decide +kernel
theorem dX10_takeDigits_60 : decode cX10_takeDigits 60 = .ok (.iadd, 1) := by decide +kernel
theorem dX10_takeDigits_61 : decode cX10_takeDigits 61 = .ok (.bipush 48, 2) := by decide +kernel
theorem dX10_takeDigits_63 : decode cX10_takeDigits 63 = .ok (.isub, 1) := by decide +kernel
theorem dX10_takeDigits_64 : decode cX10_takeDigits 64 = .ok (.goto 7, 3) := by decide +kernel
theorem dX10_takeDigits_67 : decode cX10_takeDigits 67 = .ok (.aload_n 0, 1) := by decide +kernel
theorem dX10_takeDigits_68 : decode cX10_takeDigits 68 = .ok (.getfield 28, 3) := by decide +kernel
theorem dX10_takeDigits_71 : decode cX10_takeDigits 71 = .ok (.putfield 28, 3) := by decide +kernel
theorem dX10_takeDigits_74 : decode cX10_takeDigits 74 = .ok (.aload_n 0, 1) := by decide +kernel
theorem dX10_takeDigits_75 : decode cX10_takeDigits 75 = .ok (.iload_n 1, 1) := by decide +kernel
theorem dX10_takeDigits_76 : decode cX10_takeDigits 76 = .ok (.iconst 1, 1) := by decide +kernel
theorem dX10_takeDigits_77 : decode cX10_takeDigits 77 = .ok (.iadd, 1) := by decide +kernel
theorem dX10_takeDigits_78 : decode cX10_takeDigits 78 = .ok (.putfield 19, 3) := by decide +kernel
theorem dX10_takeDigits_81 : decode cX10_takeDigits 81 = .ok (.iinc 1 1, 3) := by decide +kernel
theorem dX10_takeDigits_84 : decode cX10_takeDigits 84 = .ok (.goto (-66), 3) := by decide +kernel
theorem dX10_takeDigits_87 : decode cX10_takeDigits 87 = .ok (.aload_n 0, 1) := by decide +kernel
theorem dX10_takeDigits_88 : decode cX10_takeDigits 88 = .ok (.aload_n 0, 1) := by decide +kernel
theorem dX10_takeDigits_89 : decode cX10_takeDigits 89 = .ok (.getfield 19, 3) := by decide +kernel
theorem dX10_takeDigits_92 : decode cX10_takeDigits 92 = .ok (.aload_n 0, 1) := by decide +kernel
theorem dX10_takeDigits_93 : decode cX10_takeDigits 93 = .ok (.getfield 22, 3) := by decide +kernel
theorem dX10_takeDigits_96 : decode cX10_takeDigits 96 = .ok (.isub, 1) := by decide +kernel
theorem dX10_takeDigits_97 : decode cX10_takeDigits 97 = .ok (.iconst 4, 1) := by decide +kernel
theorem dX10_takeDigits_98 : decode cX10_takeDigits 98 = .ok (.if_icmp .gt 7, 3) := by decide +kernel
theorem dX10_takeDigits_101 : decode cX10_takeDigits 101 = .ok (.iconst 2, 1) := by decide +kernel
theorem dX10_takeDigits_102 : decode cX10_takeDigits 102 = .ok (.goto 4, 3) := by decide +kernel
theorem dX10_takeDigits_105 : decode cX10_takeDigits 105 = .ok (.iconst 0, 1) := by decide +kernel
theorem dX10_takeDigits_106 : decode cX10_takeDigits 106 = .ok (.putfield 25, 3) := by decide +kernel
theorem dX10_takeDigits_109 : decode cX10_takeDigits 109 = .ok (.return_, 1) := by decide +kernel
theorem dX10_takeLetters_0 : decode cX10_takeLetters 0 = .ok (.aload_n 0, 1) := by decide +kernel
theorem dX10_takeLetters_1 : decode cX10_takeLetters 1 = .ok (.aload_n 0, 1) := by decide +kernel
theorem dX10_takeLetters_2 : decode cX10_takeLetters 2 = .ok (.getfield 22, 3) := by decide +kernel
theorem dX10_takeLetters_5 : decode cX10_takeLetters 5 = .ok (.putfield 19, 3) := by decide +kernel
theorem dX10_takeLetters_8 : decode cX10_takeLetters 8 = .ok (.aload_n 0, 1) := by decide +kernel
theorem dX10_takeLetters_9 : decode cX10_takeLetters 9 = .ok (.getfield 22, 3) := by decide +kernel
theorem dX10_takeLetters_12 : decode cX10_takeLetters 12 = .ok (.istore_n 1, 1) := by decide +kernel
theorem dX10_takeLetters_13 : decode cX10_takeLetters 13 = .ok (.iload_n 1, 1) := by decide +kernel
theorem dX10_takeLetters_14 : decode cX10_takeLetters 14 = .ok (.aload_n 0, 1) := by decide +kernel
theorem dX10_takeLetters_15 : decode cX10_takeLetters 15 = .ok (.getfield 15, 3) := by decide +kernel
theorem dX10_takeLetters_18 : decode cX10_takeLetters 18 = .ok (.if_icmp .ge 27, 3) := by decide +kernel
theorem dX10_takeLetters_21 : decode cX10_takeLetters 21 = .ok (.aload_n 0, 1) := by decide +kernel
theorem dX10_takeLetters_22 : decode cX10_takeLetters 22 = .ok (.iload_n 1, 1) := by decide +kernel
theorem dX10_takeLetters_23 : decode cX10_takeLetters 23 = .ok (.invokevirtual 31, 3) := by decide +kernel
theorem dX10_takeLetters_26 : decode cX10_takeLetters 26 = .ok (.invokestatic 35, 3) := by decide +kernel
theorem dX10_takeLetters_29 : decode cX10_takeLetters 29 = .ok (.ifCond .eq 16, 3) := by decide +kernel
theorem dX10_takeLetters_32 : decode cX10_takeLetters 32 = .ok (.aload_n 0, 1) := by decide +kernel
theorem dX10_takeLetters_33 : decode cX10_takeLetters 33 = .ok (.iload_n 1, 1) := by decide +kernel
theorem dX10_takeLetters_34 : decode cX10_takeLetters 34 = .ok (.iconst 1, 1) := by decide +kernel
theorem dX10_takeLetters_35 : decode cX10_takeLetters 35 = .ok (.iadd, 1) := by decide +kernel
theorem dX10_takeLetters_36 : decode cX10_takeLetters 36 = .ok (.putfield 19, 3) := by decide +kernel
theorem dX10_takeLetters_39 : decode cX10_takeLetters 39 = .ok (.iinc 1 1, 3) := by decide +kernel
theorem dX10_takeLetters_42 : decode cX10_takeLetters 42 = .ok (.goto (-29), 3) := by decide +kernel
theorem dX10_takeLetters_45 : decode cX10_takeLetters 45 = .ok (.aload_n 0, 1) := by decide +kernel
theorem dX10_takeLetters_46 : decode cX10_takeLetters 46 = .ok (.aload_n 0, 1) := by decide +kernel
theorem dX10_takeLetters_47 : decode cX10_takeLetters 47 = .ok (.aload_n 0, 1) := by decide +kernel
theorem dX10_takeLetters_48 : decode cX10_takeLetters 48 = .ok (.getfield 22, 3) := by decide +kernel
theorem dX10_takeLetters_51 : decode cX10_takeLetters 51 = .ok (.invokevirtual 31, 3) := by decide +kernel
theorem dX10_takeLetters_54 : decode cX10_takeLetters 54 = .ok (.bipush 97, 2) := by decide +kernel
theorem dX10_takeLetters_56 : decode cX10_takeLetters 56 = .ok (.isub, 1) := by decide +kernel
theorem dX10_takeLetters_57 : decode cX10_takeLetters 57 = .ok (.putfield 28, 3) := by decide +kernel
theorem dX10_takeLetters_60 : decode cX10_takeLetters 60 = .ok (.aload_n 0, 1) := by decide +kernel
theorem dX10_takeLetters_61 : decode cX10_takeLetters 61 = .ok (.getfield 19, 3) := by decide +kernel
theorem dX10_takeLetters_64 : decode cX10_takeLetters 64 = .ok (.aload_n 0, 1) := by decide +kernel
theorem dX10_takeLetters_65 : decode cX10_takeLetters 65 = .ok (.getfield 22, 3) := by decide +kernel
theorem dX10_takeLetters_68 : decode cX10_takeLetters 68 = .ok (.isub, 1) := by decide +kernel
theorem dX10_takeLetters_69 : decode cX10_takeLetters 69 = .ok (.iconst 1, 1) := by decide +kernel
theorem dX10_takeLetters_70 : decode cX10_takeLetters 70 = .ok (.if_icmp .ne 29, 3) := by decide +kernel
theorem dX10_takeLetters_99 : decode cX10_takeLetters 99 = .ok (.aload_n 0, 1) := by decide +kernel
theorem dX10_takeSign_0 : decode cX10_takeSign 0 = .ok (.aload_n 0, 1) := by decide +kernel
theorem dX10_takeSign_1 : decode cX10_takeSign 1 = .ok (.aload_n 0, 1) := by decide +kernel
theorem dX10_takeSign_2 : decode cX10_takeSign 2 = .ok (.getfield 22, 3) := by decide +kernel
theorem dX10_takeSign_5 : decode cX10_takeSign 5 = .ok (.iconst 1, 1) := by decide +kernel
theorem dX10_takeSign_6 : decode cX10_takeSign 6 = .ok (.iadd, 1) := by decide +kernel
theorem dX10_takeSign_7 : decode cX10_takeSign 7 = .ok (.putfield 19, 3) := by decide +kernel
theorem dX10_takeSign_10 : decode cX10_takeSign 10 = .ok (.iload_n 1, 1) := by decide +kernel
theorem dX10_takeSign_11 : decode cX10_takeSign 11 = .ok (.iconst (-1), 1) := by decide +kernel
theorem dX10_takeSign_12 : decode cX10_takeSign 12 = .ok (.if_icmp .ne 19, 3) := by decide +kernel
theorem dX10_takeSign_15 : decode cX10_takeSign 15 = .ok (.aload_n 0, 1) := by decide +kernel
theorem dX10_takeSign_16 : decode cX10_takeSign 16 = .ok (.iconst 1, 1) := by decide +kernel
theorem dX10_takeSign_17 : decode cX10_takeSign 17 = .ok (.putfield 25, 3) := by decide +kernel
theorem dX10_takeSign_20 : decode cX10_takeSign 20 = .ok (.aload_n 0, 1) := by decide +kernel
theorem dX10_takeSign_21 : decode cX10_takeSign 21 = .ok (.aload_n 0, 1) := by decide +kernel
theorem dX10_takeSign_22 : decode cX10_takeSign 22 = .ok (.getfield 22, 3) := by decide +kernel
theorem dX10_takeSign_25 : decode cX10_takeSign 25 = .ok (.putfield 19, 3) := by decide +kernel
theorem dX10_takeSign_28 : decode cX10_takeSign 28 = .ok (.goto 63, 3) := by decide +kernel
theorem dX10_takeSign_31 : decode cX10_takeSign 31 = .ok (.iload_n 2, 1) := by decide +kernel
theorem dX10_takeSign_32 : decode cX10_takeSign 32 = .ok (.ifCond .eq 43, 3) := by decide +kernel
theorem dX10_takeSign_35 : decode cX10_takeSign 35 = .ok (.iload_n 1, 1) := by decide +kernel
theorem dX10_takeSign_36 : decode cX10_takeSign 36 = .ok (.bipush 45, 2) := by decide +kernel
theorem dX10_takeSign_38 : decode cX10_takeSign 38 = .ok (.if_icmp .ne 37, 3) := by decide +kernel
theorem dX10_takeSign_41 : decode cX10_takeSign 41 = .ok (.aload_n 0, 1) := by decide +kernel
theorem dX10_takeSign_42 : decode cX10_takeSign 42 = .ok (.aload_n 0, 1) := by decide +kernel
theorem dX10_takeSign_43 : decode cX10_takeSign 43 = .ok (.getfield 22, 3) := by decide +kernel
theorem dX10_takeSign_46 : decode cX10_takeSign 46 = .ok (.iconst 1, 1) := by decide +kernel
theorem dX10_takeSign_47 : decode cX10_takeSign 47 = .ok (.iadd, 1) := by decide +kernel
theorem dX10_takeSign_48 : decode cX10_takeSign 48 = .ok (.invokevirtual 31, 3) := by decide +kernel
theorem dX10_takeSign_51 : decode cX10_takeSign 51 = .ok (.bipush 62, 2) := by decide +kernel
theorem dX10_takeSign_53 : decode cX10_takeSign 53 = .ok (.if_icmp .ne 22, 3) := by decide +kernel
theorem dX10_takeSign_56 : decode cX10_takeSign 56 = .ok (.aload_n 0, 1) := by decide +kernel
theorem dX10_takeSign_57 : decode cX10_takeSign 57 = .ok (.bipush 9, 2) := by decide +kernel
theorem dX10_takeSign_59 : decode cX10_takeSign 59 = .ok (.putfield 25, 3) := by decide +kernel
theorem dX10_takeSign_62 : decode cX10_takeSign 62 = .ok (.aload_n 0, 1) := by decide +kernel
theorem dX10_takeSign_63 : decode cX10_takeSign 63 = .ok (.aload_n 0, 1) := by decide +kernel
theorem dX10_takeSign_64 : decode cX10_takeSign 64 = .ok (.getfield 22, 3) := by decide +kernel
theorem dX10_takeSign_67 : decode cX10_takeSign 67 = .ok (.iconst 2, 1) := by decide +kernel
theorem dX10_takeSign_68 : decode cX10_takeSign 68 = .ok (.iadd, 1) := by decide +kernel
theorem dX10_takeSign_69 : decode cX10_takeSign 69 = .ok (.putfield 19, 3) := by decide +kernel
theorem dX10_takeSign_72 : decode cX10_takeSign 72 = .ok (.goto 19, 3) := by decide +kernel
theorem dX10_takeSign_75 : decode cX10_takeSign 75 = .ok (.aload_n 0, 1) := by decide +kernel
theorem dX10_takeSign_76 : decode cX10_takeSign 76 = .ok (.iload_n 1, 1) := by decide +kernel
theorem dX10_takeSign_77 : decode cX10_takeSign 77 = .ok (.invokestatic 78, 3) := by decide +kernel
theorem dX10_takeSign_80 : decode cX10_takeSign 80 = .ok (.ifCond .eq 7, 3) := by decide +kernel
theorem dX10_takeSign_83 : decode cX10_takeSign 83 = .ok (.iload_n 1, 1) := by decide +kernel
theorem dX10_takeSign_84 : decode cX10_takeSign 84 = .ok (.goto 4, 3) := by decide +kernel
theorem dX10_takeSign_87 : decode cX10_takeSign 87 = .ok (.iconst 0, 1) := by decide +kernel
theorem dX10_takeSign_88 : decode cX10_takeSign 88 = .ok (.putfield 25, 3) := by decide +kernel
theorem dX10_takeSign_91 : decode cX10_takeSign 91 = .ok (.return_, 1) := by decide +kernel
theorem dX11_apply_0 : decode cX11_apply 0 = .ok (.aload_n 0, 1) := by decide +kernel
theorem dX11_apply_1 : decode cX11_apply 1 = .ok (.iload_n 1, 1) := by decide +kernel
theorem dX11_at_0 : decode cX11_at 0 = .ok (.aload_n 0, 1) := by decide +kernel
theorem dX11_at_1 : decode cX11_at 1 = .ok (.iload_n 1, 1) := by decide +kernel
theorem dX11_blame_0 : decode cX11_blame 0 = .ok (.aload_n 0, 1) := by decide +kernel
theorem dX11_blame_1 : decode cX11_blame 1 = .ok (.iload_n 1, 1) := by decide +kernel
theorem dX11_clash_0 : decode cX11_clash 0 = .ok (.aload_n 0, 1) := by decide +kernel
theorem dX11_clash_1 : decode cX11_clash 1 = .ok (.iload_n 1, 1) := by decide +kernel
theorem dX11_clear_0 : decode cX11_clear 0 = .ok (.aload_n 0, 1) := by decide +kernel
theorem dX11_clear_1 : decode cX11_clear 1 = .ok (.getfield 50, 3) := by decide +kernel
theorem dX11_clear_4 : decode cX11_clear 4 = .ok (.iload_n 1, 1) := by decide +kernel
theorem dX11_clear_5 : decode cX11_clear 5 = .ok (.invokevirtual 195, 3) := by decide +kernel
theorem dX11_clear_8 : decode cX11_clear 8 = .ok (.ireturn, 1) := by decide +kernel
theorem dX11_cut_0 : decode cX11_cut 0 = .ok (.aload_n 0, 1) := by decide +kernel
theorem dX11_cut_1 : decode cX11_cut 1 = .ok (.iload_n 2, 1) := by decide +kernel
theorem dX11_end_0 : decode cX11_end 0 = .ok (.aload_n 0, 1) := by decide +kernel
theorem dX11_end_1 : decode cX11_end 1 = .ok (.getfield 29, 3) := by decide +kernel
theorem dX11_end_4 : decode cX11_end 4 = .ok (.getfield 61, 3) := by decide +kernel
theorem dX11_end_7 : decode cX11_end 7 = .ok (.iload_n 1, 1) := by decide +kernel
theorem dX11_end_8 : decode cX11_end 8 = .ok (.invokevirtual 73, 3) := by decide +kernel
theorem dX11_end_11 : decode cX11_end 11 = .ok (.ireturn, 1) := by decide +kernel
theorem dX11_fault_0 : decode cX11_fault 0 = .ok (.iload_n 1, 1) := by decide +kernel
theorem dX11_fault_1 : decode cX11_fault 1 = .ok (.ifCond .ne 11, 3) := by decide +kernel
theorem dX11_fault_4 : decode cX11_fault 4 = .ok (.aload_n 0, 1) := by decide +kernel
theorem dX11_fault_5 : decode cX11_fault 5 = .ok (.getfield 29, 3) := by decide +kernel
theorem dX11_fault_8 : decode cX11_fault 8 = .ok (.getfield 107, 3) := by decide +kernel
theorem dX11_fault_11 : decode cX11_fault 11 = .ok (.ireturn, 1) := by decide +kernel
theorem dX11_fault_12 : decode cX11_fault 12 = .ok (.iload_n 1, 1) := by decide +kernel
theorem dX11_fault_13 : decode cX11_fault 13 = .ok (.iconst 1, 1) := by decide +kernel
theorem dX11_fault_14 : decode cX11_fault 14 = .ok (.if_icmp .ne 13, 3) := by decide +kernel
theorem dX11_fault_17 : decode cX11_fault 17 = .ok (.aload_n 0, 1) := by decide +kernel
theorem dX11_fault_18 : decode cX11_fault 18 = .ok (.getfield 29, 3) := by decide +kernel
theorem dX11_fault_21 : decode cX11_fault 21 = .ok (.getfield 110, 3) := by decide +kernel
theorem dX11_fault_24 : decode cX11_fault 24 = .ok (.goto 4, 3) := by decide +kernel
theorem dX11_fault_27 : decode cX11_fault 27 = .ok (.iconst (-1), 1) := by decide +kernel
theorem dX11_fault_28 : decode cX11_fault 28 = .ok (.ireturn, 1) := by decide +kernel
theorem dX11_feed_0 : decode cX11_feed 0 = .ok (.aload_n 0, 1) := by decide +kernel
theorem dX11_feed_1 : decode cX11_feed 1 = .ok (.getfield 29, 3) := by decide +kernel
theorem dX11_feed_4 : decode cX11_feed 4 = .ok (.getfield 61, 3) := by decide +kernel
theorem dX11_feed_7 : decode cX11_feed 7 = .ok (.astore 6, 2) := by decide +kernel
theorem dX11_feed_9 : decode cX11_feed 9 = .ok (.aload 6, 2) := by decide +kernel
theorem dX11_feed_11 : decode cX11_feed 11 = .ok (.getfield 65, 3) := by decide +kernel
theorem dX11_feed_14 : decode cX11_feed 14 = .ok (.bipush 20, 2) := by decide +kernel
theorem dX11_feed_16 : decode cX11_feed 16 = .ok (.iadd, 1) := by decide +kernel
theorem dX11_feed_17 : decode cX11_feed 17 = .ok (.sipush 800, 3) := by decide +kernel
theorem dX11_feed_20 : decode cX11_feed 20 = .ok (.if_icmp .le 5, 3) := by decide +kernel
theorem dX11_feed_23 : decode cX11_feed 23 = .ok (.iconst (-1), 1) := by decide +kernel
theorem dX11_feed_24 : decode cX11_feed 24 = .ok (.ireturn, 1) := by decide +kernel
theorem dX11_feed_25 : decode cX11_feed 25 = .ok (.aload 6, 2) := by decide +kernel
theorem dX11_feed_27 : decode cX11_feed 27 = .ok (.iload_n 1, 1) := by decide +kernel
theorem dX11_feed_28 : decode cX11_feed 28 = .ok (.invokevirtual 70, 3) := by decide +kernel
theorem dX11_feed_31 : decode cX11_feed 31 = .ok (.aload 6, 2) := by decide +kernel
theorem dX11_feed_33 : decode cX11_feed 33 = .ok (.iload_n 2, 1) := by decide +kernel
theorem dX11_feed_34 : decode cX11_feed 34 = .ok (.invokevirtual 70, 3) := by decide +kernel
theorem dX11_feed_37 : decode cX11_feed 37 = .ok (.aload 6, 2) := by decide +kernel
theorem dX11_feed_39 : decode cX11_feed 39 = .ok (.iload_n 3, 1) := by decide +kernel
theorem dX11_feed_40 : decode cX11_feed 40 = .ok (.invokevirtual 70, 3) := by decide +kernel
theorem dX11_feed_43 : decode cX11_feed 43 = .ok (.aload 6, 2) := by decide +kernel
theorem dX11_feed_45 : decode cX11_feed 45 = .ok (.iload 4, 2) := by decide +kernel
theorem dX11_feed_47 : decode cX11_feed 47 = .ok (.invokevirtual 70, 3) := by decide +kernel
theorem dX11_feed_50 : decode cX11_feed 50 = .ok (.aload 6, 2) := by decide +kernel
theorem dX11_feed_52 : decode cX11_feed 52 = .ok (.iload 5, 2) := by decide +kernel
theorem dX11_feed_54 : decode cX11_feed 54 = .ok (.invokevirtual 70, 3) := by decide +kernel
theorem dX11_feed_57 : decode cX11_feed 57 = .ok (.aload 6, 2) := by decide +kernel
theorem dX11_feed_59 : decode cX11_feed 59 = .ok (.getfield 65, 3) := by decide +kernel
theorem dX11_feed_62 : decode cX11_feed 62 = .ok (.ireturn, 1) := by decide +kernel
theorem dX11_isVariable_0 : decode cX11_isVariable 0 = .ok (.iload_n 0, 1) := by decide +kernel
theorem dX11_isVariable_1 : decode cX11_isVariable 1 = .ok (.ifCond .lt 13, 3) := by decide +kernel
theorem dX11_isVariable_4 : decode cX11_isVariable 4 = .ok (.iload_n 0, 1) := by decide +kernel
theorem dX11_isVariable_5 : decode cX11_isVariable 5 = .ok (.bipush 6, 2) := by decide +kernel
theorem dX11_isVariable_7 : decode cX11_isVariable 7 = .ok (.if_icmp .ge 7, 3) := by decide +kernel
theorem dX11_isVariable_10 : decode cX11_isVariable 10 = .ok (.iconst 1, 1) := by decide +kernel
theorem dX11_isVariable_11 : decode cX11_isVariable 11 = .ok (.goto 4, 3) := by decide +kernel
theorem dX11_isVariable_14 : decode cX11_isVariable 14 = .ok (.iconst 0, 1) := by decide +kernel
theorem dX11_isVariable_15 : decode cX11_isVariable 15 = .ok (.ireturn, 1) := by decide +kernel
theorem dX11_isWord_0 : decode cX11_isWord 0 = .ok (.iload_n 0, 1) := by decide +kernel
theorem dX11_isWord_1 : decode cX11_isWord 1 = .ok (.ifCond .lt 13, 3) := by decide +kernel
theorem dX11_isWord_4 : decode cX11_isWord 4 = .ok (.iload_n 0, 1) := by decide +kernel
theorem dX11_isWord_5 : decode cX11_isWord 5 = .ok (.bipush 16, 2) := by decide +kernel
theorem dX11_isWord_7 : decode cX11_isWord 7 = .ok (.if_icmp .ge 7, 3) := by decide +kernel
theorem dX11_isWord_10 : decode cX11_isWord 10 = .ok (.iconst 1, 1) := by decide +kernel
theorem dX11_isWord_11 : decode cX11_isWord 11 = .ok (.goto 4, 3) := by decide +kernel
theorem dX11_isWord_14 : decode cX11_isWord 14 = .ok (.iconst 0, 1) := by decide +kernel
theorem dX11_isWord_15 : decode cX11_isWord 15 = .ok (.ireturn, 1) := by decide +kernel
theorem dX11_item_0 : decode cX11_item 0 = .ok (.iload_n 2, 1) := by decide +kernel
theorem dX11_item_1 : decode cX11_item 1 = .ok (.ifCond .lt 15, 3) := by decide +kernel
theorem dX11_item_4 : decode cX11_item 4 = .ok (.iload_n 2, 1) := by decide +kernel
theorem dX11_item_5 : decode cX11_item 5 = .ok (.aload_n 0, 1) := by decide +kernel
theorem dX11_item_6 : decode cX11_item 6 = .ok (.getfield 18, 3) := by decide +kernel
theorem dX11_item_9 : decode cX11_item 9 = .ok (.if_icmp .ge 7, 3) := by decide +kernel
theorem dX11_item_12 : decode cX11_item 12 = .ok (.iconst 1, 1) := by decide +kernel
theorem dX11_item_13 : decode cX11_item 13 = .ok (.goto 4, 3) := by decide +kernel
theorem dX11_item_16 : decode cX11_item 16 = .ok (.iconst 0, 1) := by decide +kernel
theorem dX11_item_17 : decode cX11_item 17 = .ok (.istore_n 3, 1) := by decide +kernel
theorem dX11_item_18 : decode cX11_item 18 = .ok (.iload_n 2, 1) := by decide +kernel
theorem dX11_item_19 : decode cX11_item 19 = .ok (.bipush 20, 2) := by decide +kernel
theorem dX11_item_21 : decode cX11_item 21 = .ok (.if_icmp .lt 13, 3) := by decide +kernel
theorem dX11_item_24 : decode cX11_item 24 = .ok (.iload_n 2, 1) := by decide +kernel
theorem dX11_item_25 : decode cX11_item 25 = .ok (.bipush 24, 2) := by decide +kernel
theorem dX11_item_27 : decode cX11_item 27 = .ok (.if_icmp .gt 7, 3) := by decide +kernel
theorem dX11_item_30 : decode cX11_item 30 = .ok (.iconst 1, 1) := by decide +kernel
theorem dX11_item_31 : decode cX11_item 31 = .ok (.goto 4, 3) := by decide +kernel
theorem dX11_item_34 : decode cX11_item 34 = .ok (.iconst 0, 1) := by decide +kernel
theorem dX11_item_35 : decode cX11_item 35 = .ok (.istore 4, 2) := by decide +kernel
theorem dX11_item_37 : decode cX11_item 37 = .ok (.iload_n 3, 1) := by decide +kernel
theorem dX11_item_38 : decode cX11_item 38 = .ok (.ifCond .ne 10, 3) := by decide +kernel
theorem dX11_item_41 : decode cX11_item 41 = .ok (.iload 4, 2) := by decide +kernel
theorem dX11_item_43 : decode cX11_item 43 = .ok (.ifCond .ne 5, 3) := by decide +kernel
theorem dX11_item_46 : decode cX11_item 46 = .ok (.iconst (-1), 1) := by decide +kernel
theorem dX11_item_48 : decode cX11_item 48 = .ok (.aload_n 0, 1) := by decide +kernel
theorem dX11_item_49 : decode cX11_item 49 = .ok (.getfield 50, 3) := by decide +kernel
theorem dX11_item_52 : decode cX11_item 52 = .ok (.iload_n 1, 1) := by decide +kernel
theorem dX11_item_53 : decode cX11_item 53 = .ok (.iload_n 2, 1) := by decide +kernel
theorem dX11_judge_0 : decode cX11_judge 0 = .ok (.aload_n 0, 1) := by decide +kernel
theorem dX11_judge_1 : decode cX11_judge 1 = .ok (.iload_n 1, 1) := by decide +kernel
theorem dX11_make_0 : decode cX11_make 0 = .ok (.aload_n 0, 1) := by decide +kernel
theorem dX11_make_1 : decode cX11_make 1 = .ok (.iload_n 2, 1) := by decide +kernel
theorem dX11_places_0 : decode cX11_places 0 = .ok (.aload_n 0, 1) := by decide +kernel
theorem dX11_places_1 : decode cX11_places 1 = .ok (.iload_n 1, 1) := by decide +kernel
theorem dX11_program_0 : decode cX11_program 0 = .ok (.aload_n 0, 1) := by decide +kernel
theorem dX11_program_1 : decode cX11_program 1 = .ok (.iload_n 1, 1) := by decide +kernel
theorem dX11_registers_0 : decode cX11_registers 0 = .ok (.aload_n 0, 1) := by decide +kernel
theorem dX11_registers_1 : decode cX11_registers 1 = .ok (.iload_n 1, 1) := by decide +kernel
theorem dX11_rule_0 : decode cX11_rule 0 = .ok (.aload_n 0, 1) := by decide +kernel
theorem dX11_rule_1 : decode cX11_rule 1 = .ok (.getfield 50, 3) := by decide +kernel
theorem dX11_rule_4 : decode cX11_rule 4 = .ok (.aload_n 0, 1) := by decide +kernel
theorem dX11_rule_5 : decode cX11_rule 5 = .ok (.getfield 18, 3) := by decide +kernel
theorem dX11_ruleAt_0 : decode cX11_ruleAt 0 = .ok (.iload_n 1, 1) := by decide +kernel
theorem dX11_ruleAt_1 : decode cX11_ruleAt 1 = .ok (.aload_n 0, 1) := by decide +kernel
theorem dX11_ruleAt_2 : decode cX11_ruleAt 2 = .ok (.getfield 18, 3) := by decide +kernel
theorem dX11_ruleAt_5 : decode cX11_ruleAt 5 = .ok (.if_icmp .ge 14, 3) := by decide +kernel
theorem dX11_ruleAt_8 : decode cX11_ruleAt 8 = .ok (.aload_n 0, 1) := by decide +kernel
theorem dX11_ruleAt_9 : decode cX11_ruleAt 9 = .ok (.getfield 50, 3) := by decide +kernel
theorem dX11_ruleAt_12 : decode cX11_ruleAt 12 = .ok (.iload_n 1, 1) := by decide +kernel
theorem dX11_ruleAt_19 : decode cX11_ruleAt 19 = .ok (.aconst_null, 1) := by decide +kernel
theorem dX11_ruleOf_0 : decode cX11_ruleOf 0 = .ok (.aload_n 0, 1) := by decide +kernel
theorem dX11_ruleOf_1 : decode cX11_ruleOf 1 = .ok (.iload_n 1, 1) := by decide +kernel
theorem dX11_run_0 : decode cX11_run 0 = .ok (.aload_n 0, 1) := by decide +kernel
theorem dX11_run_1 : decode cX11_run 1 = .ok (.iload_n 1, 1) := by decide +kernel
theorem dX11_size_0 : decode cX11_size 0 = .ok (.aload_n 0, 1) := by decide +kernel
theorem dX11_size_1 : decode cX11_size 1 = .ok (.iload_n 1, 1) := by decide +kernel
theorem dX11_slotAt_0 : decode cX11_slotAt 0 = .ok (.iload_n 1, 1) := by decide +kernel
theorem dX11_slotAt_1 : decode cX11_slotAt 1 = .ok (.ifCond .lt 21, 3) := by decide +kernel
theorem dX11_slotAt_4 : decode cX11_slotAt 4 = .ok (.iload_n 1, 1) := by decide +kernel
theorem dX11_slotAt_5 : decode cX11_slotAt 5 = .ok (.aload_n 0, 1) := by decide +kernel
theorem dX11_slotAt_6 : decode cX11_slotAt 6 = .ok (.getfield 11, 3) := by decide +kernel
theorem dX11_slotAt_9 : decode cX11_slotAt 9 = .ok (.arraylength, 1) := by decide +kernel
theorem dX11_slotAt_10 : decode cX11_slotAt 10 = .ok (.if_icmp .ge 12, 3) := by decide +kernel
theorem dX11_slotAt_13 : decode cX11_slotAt 13 = .ok (.aload_n 0, 1) := by decide +kernel
theorem dX11_slotAt_14 : decode cX11_slotAt 14 = .ok (.getfield 11, 3) := by decide +kernel
theorem dX11_slotAt_17 : decode cX11_slotAt 17 = .ok (.iload_n 1, 1) := by decide +kernel
theorem dX1_aheadOf_0 : decode cX1_aheadOf 0 = .ok (.aload_n 0, 1) := by decide +kernel
theorem dX1_aheadOf_1 : decode cX1_aheadOf 1 = .ok (.iload_n 1, 1) := by decide +kernel
theorem dX1_aheadOf_2 : decode cX1_aheadOf 2 = .ok (.invokevirtual 70, 3) := by decide +kernel
theorem dX1_aheadOf_5 : decode cX1_aheadOf 5 = .ok (.ifCond .eq 12, 3) := by decide +kernel
theorem dX1_aheadOf_8 : decode cX1_aheadOf 8 = .ok (.aload_n 0, 1) := by decide +kernel
theorem dX1_aheadOf_9 : decode cX1_aheadOf 9 = .ok (.getfield 45, 3) := by decide +kernel
theorem dX1_aheadOf_12 : decode cX1_aheadOf 12 = .ok (.iload_n 1, 1) := by decide +kernel
theorem dX1_aheadOf_13 : decode cX1_aheadOf 13 = .ok (.iaload, 1) := by decide +kernel
theorem dX1_aheadOf_14 : decode cX1_aheadOf 14 = .ok (.goto 4, 3) := by decide +kernel
theorem dX1_aheadOf_17 : decode cX1_aheadOf 17 = .ok (.iconst 0, 1) := by decide +kernel
theorem dX1_aheadOf_18 : decode cX1_aheadOf 18 = .ok (.ireturn, 1) := by decide +kernel
theorem dX1_begin_0 : decode cX1_begin 0 = .ok (.aload_n 0, 1) := by decide +kernel
theorem dX1_begin_1 : decode cX1_begin 1 = .ok (.getfield 57, 3) := by decide +kernel
theorem dX1_begin_4 : decode cX1_begin 4 = .ok (.bipush 40, 2) := by decide +kernel
theorem dX1_begin_6 : decode cX1_begin 6 = .ok (.if_icmp .lt 4, 3) := by decide +kernel
theorem dX1_begin_9 : decode cX1_begin 9 = .ok (.return_, 1) := by decide +kernel
theorem dX1_begin_10 : decode cX1_begin 10 = .ok (.aload_n 0, 1) := by decide +kernel
theorem dX1_begin_11 : decode cX1_begin 11 = .ok (.getfield 20, 3) := by decide +kernel
theorem dX1_begin_14 : decode cX1_begin 14 = .ok (.aload_n 0, 1) := by decide +kernel
theorem dX1_begin_15 : decode cX1_begin 15 = .ok (.getfield 57, 3) := by decide +kernel
theorem dX1_begin_18 : decode cX1_begin 18 = .ok (.iload_n 1, 1) := by decide +kernel
theorem dX1_begin_19 : decode cX1_begin 19 = .ok (.iastore, 1) := by decide +kernel
theorem dX1_begin_20 : decode cX1_begin 20 = .ok (.aload_n 0, 1) := by decide +kernel
theorem dX1_begin_21 : decode cX1_begin 21 = .ok (.getfield 24, 3) := by decide +kernel
theorem dX1_begin_24 : decode cX1_begin 24 = .ok (.aload_n 0, 1) := by decide +kernel
theorem dX1_begin_25 : decode cX1_begin 25 = .ok (.getfield 57, 3) := by decide +kernel
theorem dX1_begin_28 : decode cX1_begin 28 = .ok (.iload_n 2, 1) := by decide +kernel
theorem dX1_begin_29 : decode cX1_begin 29 = .ok (.iastore, 1) := by decide +kernel
theorem dX1_begin_30 : decode cX1_begin 30 = .ok (.aload_n 0, 1) := by decide +kernel
theorem dX1_begin_31 : decode cX1_begin 31 = .ok (.getfield 42, 3) := by decide +kernel
theorem dX1_begin_34 : decode cX1_begin 34 = .ok (.aload_n 0, 1) := by decide +kernel
theorem dX1_begin_35 : decode cX1_begin 35 = .ok (.getfield 57, 3) := by decide +kernel
theorem dX1_begin_38 : decode cX1_begin 38 = .ok (.iload_n 2, 1) := by decide +kernel
theorem dX1_begin_39 : decode cX1_begin 39 = .ok (.invokestatic 100, 3) := by decide +kernel
theorem dX1_begin_42 : decode cX1_begin 42 = .ok (.ifCond .eq 12, 3) := by decide +kernel
theorem dX1_begin_45 : decode cX1_begin 45 = .ok (.iconst 1, 1) := by decide +kernel
theorem dX1_begin_46 : decode cX1_begin 46 = .ok (.iload_n 2, 1) := by decide +kernel
theorem dX1_begin_47 : decode cX1_begin 47 = .ok (.bipush 100, 2) := by decide +kernel
theorem dX1_begin_49 : decode cX1_begin 49 = .ok (.isub, 1) := by decide +kernel
theorem dX1_begin_50 : decode cX1_begin 50 = .ok (.ishl, 1) := by decide +kernel
theorem dX1_begin_51 : decode cX1_begin 51 = .ok (.goto 4, 3) := by decide +kernel
theorem dX1_begin_54 : decode cX1_begin 54 = .ok (.iconst 0, 1) := by decide +kernel
theorem dX1_begin_55 : decode cX1_begin 55 = .ok (.iastore, 1) := by decide +kernel
theorem dX1_begin_56 : decode cX1_begin 56 = .ok (.aload_n 0, 1) := by decide +kernel
theorem dX1_begin_57 : decode cX1_begin 57 = .ok (.getfield 27, 3) := by decide +kernel
theorem dX1_begin_60 : decode cX1_begin 60 = .ok (.aload_n 0, 1) := by decide +kernel
theorem dX1_begin_61 : decode cX1_begin 61 = .ok (.getfield 57, 3) := by decide +kernel
theorem dX1_begin_64 : decode cX1_begin 64 = .ok (.iload_n 2, 1) := by decide +kernel
theorem dX1_begin_65 : decode cX1_begin 65 = .ok (.invokestatic 87, 3) := by decide +kernel
theorem dX1_begin_68 : decode cX1_begin 68 = .ok (.ifCond .eq 9, 3) := by decide +kernel
theorem dX1_begin_71 : decode cX1_begin 71 = .ok (.iload_n 1, 1) := by decide +kernel
theorem dX1_begin_72 : decode cX1_begin 72 = .ok (.iconst 2, 1) := by decide +kernel
theorem dX1_begin_73 : decode cX1_begin 73 = .ok (.iadd, 1) := by decide +kernel
theorem dX1_begin_74 : decode cX1_begin 74 = .ok (.goto 6, 3) := by decide +kernel
theorem dX1_begin_77 : decode cX1_begin 77 = .ok (.iload_n 1, 1) := by decide +kernel
theorem dX1_begin_78 : decode cX1_begin 78 = .ok (.iconst 1, 1) := by decide +kernel
theorem dX1_begin_79 : decode cX1_begin 79 = .ok (.iadd, 1) := by decide +kernel
theorem dX1_begin_80 : decode cX1_begin 80 = .ok (.iastore, 1) := by decide +kernel
theorem dX1_begin_81 : decode cX1_begin 81 = .ok (.aload_n 0, 1) := by decide +kernel
theorem dX1_begin_82 : decode cX1_begin 82 = .ok (.getfield 30, 3) := by decide +kernel
theorem dX1_begin_85 : decode cX1_begin 85 = .ok (.aload_n 0, 1) := by decide +kernel
theorem dX1_begin_86 : decode cX1_begin 86 = .ok (.getfield 57, 3) := by decide +kernel
theorem dX1_begin_89 : decode cX1_begin 89 = .ok (.aload_n 0, 1) := by decide +kernel
theorem dX1_begin_90 : decode cX1_begin 90 = .ok (.getfield 27, 3) := by decide +kernel
theorem dX1_begin_93 : decode cX1_begin 93 = .ok (.aload_n 0, 1) := by decide +kernel
theorem dX1_begin_94 : decode cX1_begin 94 = .ok (.getfield 57, 3) := by decide +kernel
theorem dX1_begin_97 : decode cX1_begin 97 = .ok (.iaload, 1) := by decide +kernel
theorem dX1_begin_98 : decode cX1_begin 98 = .ok (.iastore, 1) := by decide +kernel
theorem dX1_begin_99 : decode cX1_begin 99 = .ok (.aload_n 0, 1) := by decide +kernel
theorem dX1_begin_100 : decode cX1_begin 100 = .ok (.getfield 39, 3) := by decide +kernel
theorem dX1_begin_103 : decode cX1_begin 103 = .ok (.aload_n 0, 1) := by decide +kernel
theorem dX1_begin_104 : decode cX1_begin 104 = .ok (.getfield 57, 3) := by decide +kernel
theorem dX1_begin_107 : decode cX1_begin 107 = .ok (.iconst 0, 1) := by decide +kernel
theorem dX1_begin_108 : decode cX1_begin 108 = .ok (.iastore, 1) := by decide +kernel
theorem dX1_begin_109 : decode cX1_begin 109 = .ok (.aload_n 0, 1) := by decide +kernel
theorem dX1_begin_110 : decode cX1_begin 110 = .ok (.getfield 33, 3) := by decide +kernel
theorem dX1_begin_113 : decode cX1_begin 113 = .ok (.aload_n 0, 1) := by decide +kernel
theorem dX1_begin_114 : decode cX1_begin 114 = .ok (.getfield 57, 3) := by decide +kernel
theorem dX1_begin_117 : decode cX1_begin 117 = .ok (.iconst (-1), 1) := by decide +kernel
theorem dX1_begin_118 : decode cX1_begin 118 = .ok (.iastore, 1) := by decide +kernel
theorem dX1_begin_119 : decode cX1_begin 119 = .ok (.aload_n 0, 1) := by decide +kernel
theorem dX1_begin_120 : decode cX1_begin 120 = .ok (.getfield 36, 3) := by decide +kernel
theorem dX1_begin_123 : decode cX1_begin 123 = .ok (.aload_n 0, 1) := by decide +kernel
theorem dX1_begin_124 : decode cX1_begin 124 = .ok (.getfield 57, 3) := by decide +kernel
theorem dX1_begin_127 : decode cX1_begin 127 = .ok (.iconst (-1), 1) := by decide +kernel
theorem dX1_begin_128 : decode cX1_begin 128 = .ok (.iastore, 1) := by decide +kernel
theorem dX1_begin_129 : decode cX1_begin 129 = .ok (.aload_n 0, 1) := by decide +kernel
theorem dX1_begin_130 : decode cX1_begin 130 = .ok (.dup, 1) := by decide +kernel
theorem dX1_begin_131 : decode cX1_begin 131 = .ok (.getfield 57, 3) := by decide +kernel
theorem dX1_begin_134 : decode cX1_begin 134 = .ok (.iconst 1, 1) := by decide +kernel
theorem dX1_begin_135 : decode cX1_begin 135 = .ok (.iadd, 1) := by decide +kernel
theorem dX1_begin_136 : decode cX1_begin 136 = .ok (.putfield 57, 3) := by decide +kernel
theorem dX1_begin_139 : decode cX1_begin 139 = .ok (.return_, 1) := by decide +kernel
theorem dX1_behind_0 : decode cX1_behind 0 = .ok (.aload_n 0, 1) := by decide +kernel
theorem dX1_behind_1 : decode cX1_behind 1 = .ok (.iload_n 1, 1) := by decide +kernel
theorem dX1_behind_2 : decode cX1_behind 2 = .ok (.invokevirtual 70, 3) := by decide +kernel
theorem dX1_behind_5 : decode cX1_behind 5 = .ok (.ifCond .eq 27, 3) := by decide +kernel
theorem dX1_behind_8 : decode cX1_behind 8 = .ok (.aload_n 0, 1) := by decide +kernel
theorem dX1_behind_9 : decode cX1_behind 9 = .ok (.aload_n 0, 1) := by decide +kernel
theorem dX1_behind_10 : decode cX1_behind 10 = .ok (.getfield 33, 3) := by decide +kernel
theorem dX1_behind_13 : decode cX1_behind 13 = .ok (.iload_n 1, 1) := by decide +kernel
theorem dX1_behind_14 : decode cX1_behind 14 = .ok (.iaload, 1) := by decide +kernel
theorem dX1_behind_15 : decode cX1_behind 15 = .ok (.invokevirtual 74, 3) := by decide +kernel
theorem dX1_behind_18 : decode cX1_behind 18 = .ok (.aload_n 0, 1) := by decide +kernel
theorem dX1_behind_19 : decode cX1_behind 19 = .ok (.aload_n 0, 1) := by decide +kernel
theorem dX1_behind_20 : decode cX1_behind 20 = .ok (.getfield 36, 3) := by decide +kernel
theorem dX1_behind_23 : decode cX1_behind 23 = .ok (.iload_n 1, 1) := by decide +kernel
theorem dX1_behind_24 : decode cX1_behind 24 = .ok (.iaload, 1) := by decide +kernel
theorem dX1_behind_25 : decode cX1_behind 25 = .ok (.invokevirtual 74, 3) := by decide +kernel
theorem dX1_behind_28 : decode cX1_behind 28 = .ok (.ior, 1) := by decide +kernel
theorem dX1_behind_29 : decode cX1_behind 29 = .ok (.goto 4, 3) := by decide +kernel
theorem dX1_behind_32 : decode cX1_behind 32 = .ok (.iconst 0, 1) := by decide +kernel
theorem dX1_behind_33 : decode cX1_behind 33 = .ok (.ireturn, 1) := by decide +kernel
theorem dX1_isHere_0 : decode cX1_isHere 0 = .ok (.iload_n 1, 1) := by decide +kernel
theorem dX1_isHere_1 : decode cX1_isHere 1 = .ok (.ifCond .lt 21, 3) := by decide +kernel
theorem dX1_isHere_4 : decode cX1_isHere 4 = .ok (.iload_n 1, 1) := by decide +kernel
theorem dX1_isHere_5 : decode cX1_isHere 5 = .ok (.aload_n 0, 1) := by decide +kernel
theorem dX1_isHere_6 : decode cX1_isHere 6 = .ok (.getfield 57, 3) := by decide +kernel
theorem dX1_isHere_9 : decode cX1_isHere 9 = .ok (.if_icmp .ge 13, 3) := by decide +kernel
theorem dX1_isHere_12 : decode cX1_isHere 12 = .ok (.iload_n 1, 1) := by decide +kernel
theorem dX1_isHere_13 : decode cX1_isHere 13 = .ok (.bipush 40, 2) := by decide +kernel
theorem dX1_isHere_15 : decode cX1_isHere 15 = .ok (.if_icmp .ge 7, 3) := by decide +kernel
theorem dX1_isHere_18 : decode cX1_isHere 18 = .ok (.iconst 1, 1) := by decide +kernel
theorem dX1_isHere_19 : decode cX1_isHere 19 = .ok (.goto 4, 3) := by decide +kernel
theorem dX1_isHere_22 : decode cX1_isHere 22 = .ok (.iconst 0, 1) := by decide +kernel
theorem dX1_isHere_23 : decode cX1_isHere 23 = .ok (.ireturn, 1) := by decide +kernel
theorem dX1_link_0 : decode cX1_link 0 = .ok (.iconst (-1), 1) := by decide +kernel
theorem dX1_link_1 : decode cX1_link 1 = .ok (.istore_n 1, 1) := by decide +kernel
theorem dX1_link_2 : decode cX1_link 2 = .ok (.aload_n 0, 1) := by decide +kernel
theorem dX1_link_3 : decode cX1_link 3 = .ok (.getfield 14, 3) := by decide +kernel
theorem dX1_link_6 : decode cX1_link 6 = .ok (.getfield 78, 3) := by decide +kernel
theorem dX1_link_9 : decode cX1_link 9 = .ok (.aload_n 0, 1) := by decide +kernel
theorem dX1_link_10 : decode cX1_link 10 = .ok (.getfield 54, 3) := by decide +kernel
theorem dX1_link_13 : decode cX1_link 13 = .ok (.arraylength, 1) := by decide +kernel
theorem dX1_link_14 : decode cX1_link 14 = .ok (.invokestatic 103, 3) := by decide +kernel
theorem dX1_link_17 : decode cX1_link 17 = .ok (.iconst 1, 1) := by decide +kernel
theorem dX1_link_18 : decode cX1_link 18 = .ok (.isub, 1) := by decide +kernel
theorem dX1_link_19 : decode cX1_link 19 = .ok (.istore_n 2, 1) := by decide +kernel
theorem dX1_link_20 : decode cX1_link 20 = .ok (.iload_n 2, 1) := by decide +kernel
theorem dX1_link_21 : decode cX1_link 21 = .ok (.ifCond .lt 39, 3) := by decide +kernel
theorem dX1_link_24 : decode cX1_link 24 = .ok (.aload_n 0, 1) := by decide +kernel
theorem dX1_link_25 : decode cX1_link 25 = .ok (.getfield 54, 3) := by decide +kernel
theorem dX1_link_28 : decode cX1_link 28 = .ok (.iload_n 2, 1) := by decide +kernel
theorem dX1_link_29 : decode cX1_link 29 = .ok (.iaload, 1) := by decide +kernel
theorem dX1_link_30 : decode cX1_link 30 = .ok (.istore_n 3, 1) := by decide +kernel
theorem dX1_link_31 : decode cX1_link 31 = .ok (.aload_n 0, 1) := by decide +kernel
theorem dX1_link_32 : decode cX1_link 32 = .ok (.iload_n 3, 1) := by decide +kernel
theorem dX1_link_33 : decode cX1_link 33 = .ok (.invokevirtual 70, 3) := by decide +kernel
theorem dX1_link_36 : decode cX1_link 36 = .ok (.ifCond .eq 18, 3) := by decide +kernel
theorem dX1_link_39 : decode cX1_link 39 = .ok (.aload_n 0, 1) := by decide +kernel
theorem dX1_link_40 : decode cX1_link 40 = .ok (.aload_n 0, 1) := by decide +kernel
theorem dX1_link_41 : decode cX1_link 41 = .ok (.getfield 14, 3) := by decide +kernel
theorem dX1_link_44 : decode cX1_link 44 = .ok (.iload_n 2, 1) := by decide +kernel
theorem dX1_link_45 : decode cX1_link 45 = .ok (.invokevirtual 81, 3) := by decide +kernel
theorem dX1_link_48 : decode cX1_link 48 = .ok (.iload_n 3, 1) := by decide +kernel
theorem dX1_link_49 : decode cX1_link 49 = .ok (.iload_n 1, 1) := by decide +kernel
theorem dX1_link_50 : decode cX1_link 50 = .ok (.invokevirtual 109, 3) := by decide +kernel
theorem dX1_link_53 : decode cX1_link 53 = .ok (.istore_n 1, 1) := by decide +kernel
theorem dX1_link_54 : decode cX1_link 54 = .ok (.iinc 2 (-1), 3) := by decide +kernel
theorem dX1_link_57 : decode cX1_link 57 = .ok (.goto (-37), 3) := by decide +kernel
theorem dX1_link_60 : decode cX1_link 60 = .ok (.return_, 1) := by decide +kernel
theorem dX1_linkAt_0 : decode cX1_linkAt 0 = .ok (.aload_n 0, 1) := by decide +kernel
theorem dX1_linkAt_1 : decode cX1_linkAt 1 = .ok (.iload_n 2, 1) := by decide +kernel
theorem dX1_linkAt_2 : decode cX1_linkAt 2 = .ok (.invokevirtual 70, 3) := by decide +kernel
theorem dX1_linkAt_5 : decode cX1_linkAt 5 = .ok (.ifCond .ne 5, 3) := by decide +kernel
theorem dX1_linkAt_8 : decode cX1_linkAt 8 = .ok (.iload_n 3, 1) := by decide +kernel
theorem dX1_linkAt_9 : decode cX1_linkAt 9 = .ok (.ireturn, 1) := by decide +kernel
theorem dX1_linkAt_10 : decode cX1_linkAt 10 = .ok (.iload_n 1, 1) := by decide +kernel
theorem dX1_linkAt_11 : decode cX1_linkAt 11 = .ok (.bipush 114, 2) := by decide +kernel
theorem dX1_linkAt_13 : decode cX1_linkAt 13 = .ok (.if_icmp .ne 27, 3) := by decide +kernel
theorem dX1_linkAt_16 : decode cX1_linkAt 16 = .ok (.aload_n 0, 1) := by decide +kernel
theorem dX1_linkAt_17 : decode cX1_linkAt 17 = .ok (.getfield 48, 3) := by decide +kernel
theorem dX1_linkAt_20 : decode cX1_linkAt 20 = .ok (.iload_n 2, 1) := by decide +kernel
theorem dX1_linkAt_21 : decode cX1_linkAt 21 = .ok (.iload_n 3, 1) := by decide +kernel
theorem dX1_linkAt_22 : decode cX1_linkAt 22 = .ok (.iastore, 1) := by decide +kernel
theorem dX1_linkAt_23 : decode cX1_linkAt 23 = .ok (.aload_n 0, 1) := by decide +kernel
theorem dX1_linkAt_24 : decode cX1_linkAt 24 = .ok (.getfield 24, 3) := by decide +kernel
theorem dX1_linkAt_27 : decode cX1_linkAt 27 = .ok (.iload_n 2, 1) := by decide +kernel
theorem dX1_linkAt_28 : decode cX1_linkAt 28 = .ok (.iaload, 1) := by decide +kernel
theorem dX1_linkAt_29 : decode cX1_linkAt 29 = .ok (.bipush 115, 2) := by decide +kernel
theorem dX1_linkAt_31 : decode cX1_linkAt 31 = .ok (.if_icmp .ne 7, 3) := by decide +kernel
theorem dX1_linkAt_34 : decode cX1_linkAt 34 = .ok (.iload_n 2, 1) := by decide +kernel
theorem dX1_linkAt_35 : decode cX1_linkAt 35 = .ok (.goto 4, 3) := by decide +kernel
theorem dX1_linkAt_38 : decode cX1_linkAt 38 = .ok (.iload_n 3, 1) := by decide +kernel
theorem dX1_linkAt_39 : decode cX1_linkAt 39 = .ok (.ireturn, 1) := by decide +kernel
theorem dX1_linkAt_40 : decode cX1_linkAt 40 = .ok (.iload_n 1, 1) := by decide +kernel
theorem dX1_linkAt_41 : decode cX1_linkAt 41 = .ok (.bipush 113, 2) := by decide +kernel
theorem dX1_linkAt_43 : decode cX1_linkAt 43 = .ok (.if_icmp .ne 17, 3) := by decide +kernel
theorem dX1_linkAt_46 : decode cX1_linkAt 46 = .ok (.aload_n 0, 1) := by decide +kernel
theorem dX1_linkAt_47 : decode cX1_linkAt 47 = .ok (.getfield 36, 3) := by decide +kernel
theorem dX1_linkAt_50 : decode cX1_linkAt 50 = .ok (.iload_n 2, 1) := by decide +kernel
theorem dX1_linkAt_51 : decode cX1_linkAt 51 = .ok (.iload_n 3, 1) := by decide +kernel
theorem dX1_linkAt_52 : decode cX1_linkAt 52 = .ok (.iastore, 1) := by decide +kernel
theorem dX1_linkAt_53 : decode cX1_linkAt 53 = .ok (.aload_n 0, 1) := by decide +kernel
theorem dX1_linkAt_54 : decode cX1_linkAt 54 = .ok (.getfield 48, 3) := by decide +kernel
theorem dX1_linkAt_57 : decode cX1_linkAt 57 = .ok (.iload_n 2, 1) := by decide +kernel
theorem dX1_linkAt_58 : decode cX1_linkAt 58 = .ok (.iaload, 1) := by decide +kernel
theorem dX1_linkAt_59 : decode cX1_linkAt 59 = .ok (.ireturn, 1) := by decide +kernel
theorem dX1_linkAt_60 : decode cX1_linkAt 60 = .ok (.iload_n 1, 1) := by decide +kernel
theorem dX1_linkAt_61 : decode cX1_linkAt 61 = .ok (.bipush 111, 2) := by decide +kernel
theorem dX1_linkAt_63 : decode cX1_linkAt 63 = .ok (.if_icmp .eq 10, 3) := by decide +kernel
theorem dX1_linkAt_66 : decode cX1_linkAt 66 = .ok (.aload_n 0, 1) := by decide +kernel
theorem dX1_linkAt_67 : decode cX1_linkAt 67 = .ok (.getfield 33, 3) := by decide +kernel
theorem dX1_linkAt_70 : decode cX1_linkAt 70 = .ok (.iload_n 2, 1) := by decide +kernel
theorem dX1_linkAt_71 : decode cX1_linkAt 71 = .ok (.iload_n 3, 1) := by decide +kernel
theorem dX1_linkAt_72 : decode cX1_linkAt 72 = .ok (.iastore, 1) := by decide +kernel
theorem dX1_linkAt_73 : decode cX1_linkAt 73 = .ok (.iload_n 1, 1) := by decide +kernel
theorem dX1_linkAt_74 : decode cX1_linkAt 74 = .ok (.bipush 115, 2) := by decide +kernel
theorem dX1_linkAt_76 : decode cX1_linkAt 76 = .ok (.if_icmp .ne 15, 3) := by decide +kernel
theorem dX1_linkAt_79 : decode cX1_linkAt 79 = .ok (.aload_n 0, 1) := by decide +kernel
theorem dX1_linkAt_80 : decode cX1_linkAt 80 = .ok (.getfield 36, 3) := by decide +kernel
theorem dX1_linkAt_83 : decode cX1_linkAt 83 = .ok (.iload_n 2, 1) := by decide +kernel
theorem dX1_linkAt_84 : decode cX1_linkAt 84 = .ok (.aload_n 0, 1) := by decide +kernel
theorem dX1_linkAt_85 : decode cX1_linkAt 85 = .ok (.getfield 48, 3) := by decide +kernel
theorem dX1_linkAt_88 : decode cX1_linkAt 88 = .ok (.iload_n 2, 1) := by decide +kernel
theorem dX1_linkAt_89 : decode cX1_linkAt 89 = .ok (.iaload, 1) := by decide +kernel
theorem dX1_linkAt_90 : decode cX1_linkAt 90 = .ok (.iastore, 1) := by decide +kernel
theorem dX1_linkAt_91 : decode cX1_linkAt 91 = .ok (.iload_n 2, 1) := by decide +kernel
theorem dX1_linkAt_92 : decode cX1_linkAt 92 = .ok (.ireturn, 1) := by decide +kernel
theorem dX1_number_0 : decode cX1_number 0 = .ok (.iconst 0, 1) := by decide +kernel
theorem dX1_number_1 : decode cX1_number 1 = .ok (.istore_n 1, 1) := by decide +kernel
theorem dX1_number_2 : decode cX1_number 2 = .ok (.aload_n 0, 1) := by decide +kernel
theorem dX1_number_3 : decode cX1_number 3 = .ok (.iconst 0, 1) := by decide +kernel
theorem dX1_number_4 : decode cX1_number 4 = .ok (.putfield 57, 3) := by decide +kernel
theorem dX1_number_7 : decode cX1_number 7 = .ok (.iconst 0, 1) := by decide +kernel
theorem dX1_number_8 : decode cX1_number 8 = .ok (.istore_n 2, 1) := by decide +kernel
theorem dX1_number_9 : decode cX1_number 9 = .ok (.iload_n 2, 1) := by decide +kernel
theorem dX1_number_10 : decode cX1_number 10 = .ok (.aload_n 0, 1) := by decide +kernel
theorem dX1_number_11 : decode cX1_number 11 = .ok (.getfield 14, 3) := by decide +kernel
theorem dX1_number_14 : decode cX1_number 14 = .ok (.getfield 78, 3) := by decide +kernel
theorem dX1_number_17 : decode cX1_number 17 = .ok (.if_icmp .ge 218, 3) := by decide +kernel
theorem dX1_number_20 : decode cX1_number 20 = .ok (.iload_n 2, 1) := by decide +kernel
theorem dX1_number_21 : decode cX1_number 21 = .ok (.aload_n 0, 1) := by decide +kernel
theorem dX1_number_22 : decode cX1_number 22 = .ok (.getfield 54, 3) := by decide +kernel
theorem dX1_number_25 : decode cX1_number 25 = .ok (.arraylength, 1) := by decide +kernel
theorem dX1_number_26 : decode cX1_number 26 = .ok (.if_icmp .ge 209, 3) := by decide +kernel
theorem dX1_number_29 : decode cX1_number 29 = .ok (.aload_n 0, 1) := by decide +kernel
theorem dX1_number_30 : decode cX1_number 30 = .ok (.getfield 14, 3) := by decide +kernel
theorem dX1_number_33 : decode cX1_number 33 = .ok (.iload_n 2, 1) := by decide +kernel
theorem dX1_number_34 : decode cX1_number 34 = .ok (.invokevirtual 81, 3) := by decide +kernel
theorem dX1_number_37 : decode cX1_number 37 = .ok (.istore_n 3, 1) := by decide +kernel
theorem dX1_number_38 : decode cX1_number 38 = .ok (.aload_n 0, 1) := by decide +kernel
theorem dX1_number_39 : decode cX1_number 39 = .ok (.getfield 54, 3) := by decide +kernel
theorem dX1_number_42 : decode cX1_number 42 = .ok (.iload_n 2, 1) := by decide +kernel
theorem dX1_number_43 : decode cX1_number 43 = .ok (.iconst (-1), 1) := by decide +kernel
theorem dX1_number_44 : decode cX1_number 44 = .ok (.iastore, 1) := by decide +kernel
theorem dX1_number_45 : decode cX1_number 45 = .ok (.iload_n 3, 1) := by decide +kernel
theorem dX1_number_46 : decode cX1_number 46 = .ok (.invokestatic 84, 3) := by decide +kernel
theorem dX1_number_49 : decode cX1_number 49 = .ok (.ifCond .eq 60, 3) := by decide +kernel
theorem dX1_number_52 : decode cX1_number 52 = .ok (.aload_n 0, 1) := by decide +kernel
theorem dX1_number_53 : decode cX1_number 53 = .ok (.getfield 57, 3) := by decide +kernel
theorem dX1_number_56 : decode cX1_number 56 = .ok (.bipush 40, 2) := by decide +kernel
theorem dX1_number_58 : decode cX1_number 58 = .ok (.if_icmp .ge 51, 3) := by decide +kernel
theorem dX1_number_61 : decode cX1_number 61 = .ok (.aload_n 0, 1) := by decide +kernel
theorem dX1_number_62 : decode cX1_number 62 = .ok (.getfield 54, 3) := by decide +kernel
theorem dX1_number_65 : decode cX1_number 65 = .ok (.iload_n 2, 1) := by decide +kernel
theorem dX1_number_66 : decode cX1_number 66 = .ok (.aload_n 0, 1) := by decide +kernel
theorem dX1_number_67 : decode cX1_number 67 = .ok (.getfield 57, 3) := by decide +kernel
theorem dX1_number_70 : decode cX1_number 70 = .ok (.iastore, 1) := by decide +kernel
theorem dX1_number_71 : decode cX1_number 71 = .ok (.iload_n 3, 1) := by decide +kernel
theorem dX1_number_72 : decode cX1_number 72 = .ok (.invokestatic 87, 3) := by decide +kernel
theorem dX1_number_75 : decode cX1_number 75 = .ok (.ifCond .eq 25, 3) := by decide +kernel
theorem dX1_number_78 : decode cX1_number 78 = .ok (.iload_n 1, 1) := by decide +kernel
theorem dX1_number_79 : decode cX1_number 79 = .ok (.aload_n 0, 1) := by decide +kernel
theorem dX1_number_80 : decode cX1_number 80 = .ok (.getfield 51, 3) := by decide +kernel
theorem dX1_number_83 : decode cX1_number 83 = .ok (.arraylength, 1) := by decide +kernel
theorem dX1_number_84 : decode cX1_number 84 = .ok (.if_icmp .ge 16, 3) := by decide +kernel
theorem dX1_number_87 : decode cX1_number 87 = .ok (.aload_n 0, 1) := by decide +kernel
theorem dX1_number_88 : decode cX1_number 88 = .ok (.getfield 51, 3) := by decide +kernel
theorem dX1_number_91 : decode cX1_number 91 = .ok (.iload_n 1, 1) := by decide +kernel
theorem dX1_number_92 : decode cX1_number 92 = .ok (.aload_n 0, 1) := by decide +kernel
theorem dX1_number_93 : decode cX1_number 93 = .ok (.getfield 57, 3) := by decide +kernel
theorem dX1_number_96 : decode cX1_number 96 = .ok (.iastore, 1) := by decide +kernel
theorem dX1_number_97 : decode cX1_number 97 = .ok (.iinc 1 1, 3) := by decide +kernel
theorem dX1_number_100 : decode cX1_number 100 = .ok (.aload_n 0, 1) := by decide +kernel
theorem dX1_number_101 : decode cX1_number 101 = .ok (.iload_n 2, 1) := by decide +kernel
theorem dX1_number_102 : decode cX1_number 102 = .ok (.iload_n 3, 1) := by decide +kernel
theorem dX1_number_103 : decode cX1_number 103 = .ok (.invokevirtual 90, 3) := by decide +kernel
theorem dX1_number_106 : decode cX1_number 106 = .ok (.goto 123, 3) := by decide +kernel
theorem dX1_number_109 : decode cX1_number 109 = .ok (.iload_n 3, 1) := by decide +kernel
theorem dX1_number_110 : decode cX1_number 110 = .ok (.bipush 113, 2) := by decide +kernel
theorem dX1_number_112 : decode cX1_number 112 = .ok (.if_icmp .ne 24, 3) := by decide +kernel
theorem dX1_number_115 : decode cX1_number 115 = .ok (.iload_n 1, 1) := by decide +kernel
theorem dX1_number_116 : decode cX1_number 116 = .ok (.ifCond .le 20, 3) := by decide +kernel

theorem dX12_end_14 : decode cX12_end 14 = .ok (.aload_n 0, 1) := by decide +kernel
theorem dX12_end_15 : decode cX12_end 15 = .ok (.iload_n 1, 1) := by decide +kernel
theorem dX12_end_16 : decode cX12_end 16 = .ok (.putfield 124, 3) := by decide +kernel
theorem dX12_end_19 : decode cX12_end 19 = .ok (.iconst 1, 1) := by decide +kernel
theorem dX12_end_20 : decode cX12_end 20 = .ok (.ireturn, 1) := by decide +kernel
theorem dX12_endOf_0 : decode cX12_endOf 0 = .ok (.aload_n 0, 1) := by decide +kernel
theorem dX12_endOf_1 : decode cX12_endOf 1 = .ok (.getfield 16, 3) := by decide +kernel
theorem dX12_endOf_4 : decode cX12_endOf 4 = .ok (.iload_n 1, 1) := by decide +kernel
theorem dX12_endOf_5 : decode cX12_endOf 5 = .ok (.iaload, 1) := by decide +kernel
theorem dX12_endOf_6 : decode cX12_endOf 6 = .ok (.bipush 120, 2) := by decide +kernel
theorem dX12_endOf_8 : decode cX12_endOf 8 = .ok (.bipush 122, 2) := by decide +kernel
theorem dX12_endOf_10 : decode cX12_endOf 10 = .ok (.invokestatic 90, 3) := by decide +kernel
theorem dX12_endOf_13 : decode cX12_endOf 13 = .ok (.ifCond .eq 17, 3) := by decide +kernel
theorem dX12_endOf_16 : decode cX12_endOf 16 = .ok (.aload_n 0, 1) := by decide +kernel
theorem dX12_endOf_17 : decode cX12_endOf 17 = .ok (.aload_n 0, 1) := by decide +kernel
theorem dX12_endOf_18 : decode cX12_endOf 18 = .ok (.iload_n 1, 1) := by decide +kernel
theorem dX12_endOf_19 : decode cX12_endOf 19 = .ok (.iconst 1, 1) := by decide +kernel
theorem dX12_endOf_20 : decode cX12_endOf 20 = .ok (.iadd, 1) := by decide +kernel
theorem dX12_endOf_21 : decode cX12_endOf 21 = .ok (.invokevirtual 94, 3) := by decide +kernel
theorem dX12_endOf_24 : decode cX12_endOf 24 = .ok (.invokevirtual 94, 3) := by decide +kernel
theorem dX12_endOf_27 : decode cX12_endOf 27 = .ok (.goto 6, 3) := by decide +kernel
theorem dX12_endOf_30 : decode cX12_endOf 30 = .ok (.iload_n 1, 1) := by decide +kernel
theorem dX12_endOf_31 : decode cX12_endOf 31 = .ok (.iconst 1, 1) := by decide +kernel
theorem dX12_endOf_32 : decode cX12_endOf 32 = .ok (.iadd, 1) := by decide +kernel
theorem dX12_endOf_33 : decode cX12_endOf 33 = .ok (.ireturn, 1) := by decide +kernel
theorem dX12_ends_0 : decode cX12_ends 0 = .ok (.aload_n 0, 1) := by decide +kernel
theorem dX12_ends_1 : decode cX12_ends 1 = .ok (.iconst 0, 1) := by decide +kernel
theorem dX12_ends_2 : decode cX12_ends 2 = .ok (.putfield 124, 3) := by decide +kernel
theorem dX12_ends_5 : decode cX12_ends 5 = .ok (.aload_n 0, 1) := by decide +kernel
theorem dX12_ends_6 : decode cX12_ends 6 = .ok (.aload_n 0, 1) := by decide +kernel
theorem dX12_ends_7 : decode cX12_ends 7 = .ok (.getfield 179, 3) := by decide +kernel
theorem dX12_ends_10 : decode cX12_ends 10 = .ok (.putfield 246, 3) := by decide +kernel
theorem dX12_ends_13 : decode cX12_ends 13 = .ok (.aload_n 0, 1) := by decide +kernel
theorem dX12_ends_14 : decode cX12_ends 14 = .ok (.aload_n 0, 1) := by decide +kernel
theorem dX12_ends_15 : decode cX12_ends 15 = .ok (.getfield 179, 3) := by decide +kernel
theorem dX12_ends_18 : decode cX12_ends 18 = .ok (.ifCond .ne 7, 3) := by decide +kernel
theorem dX12_ends_21 : decode cX12_ends 21 = .ok (.iconst (-1), 1) := by decide +kernel
theorem dX12_ends_22 : decode cX12_ends 22 = .ok (.goto 7, 3) := by decide +kernel
theorem dX12_ends_25 : decode cX12_ends 25 = .ok (.aload_n 0, 1) := by decide +kernel
theorem dX12_ends_26 : decode cX12_ends 26 = .ok (.getfield 182, 3) := by decide +kernel
theorem dX12_ends_29 : decode cX12_ends 29 = .ok (.putfield 25, 3) := by decide +kernel
theorem dX12_ends_32 : decode cX12_ends 32 = .ok (.return_, 1) := by decide +kernel
theorem dX12_enough_0 : decode cX12_enough 0 = .ok (.iconst 0, 1) := by decide +kernel
theorem dX12_enough_1 : decode cX12_enough 1 = .ok (.istore_n 2, 1) := by decide +kernel
theorem dX12_enough_2 : decode cX12_enough 2 = .ok (.aload_n 0, 1) := by decide +kernel
theorem dX12_enough_3 : decode cX12_enough 3 = .ok (.iload_n 1, 1) := by decide +kernel
theorem dX12_enough_4 : decode cX12_enough 4 = .ok (.iload_n 2, 1) := by decide +kernel
theorem dX12_enough_5 : decode cX12_enough 5 = .ok (.invokevirtual 466, 3) := by decide +kernel
theorem dX12_enough_8 : decode cX12_enough 8 = .ok (.ifCond .ne 9, 3) := by decide +kernel
theorem dX12_enough_11 : decode cX12_enough 11 = .ok (.iinc 2 1, 3) := by decide +kernel
theorem dX12_enough_14 : decode cX12_enough 14 = .ok (.goto (-12), 3) := by decide +kernel
theorem dX12_enough_17 : decode cX12_enough 17 = .ok (.iload_n 2, 1) := by decide +kernel
theorem dX12_enough_18 : decode cX12_enough 18 = .ok (.ireturn, 1) := by decide +kernel
theorem dX12_fault_0 : decode cX12_fault 0 = .ok (.iload_n 1, 1) := by decide +kernel
theorem dX12_fault_1 : decode cX12_fault 1 = .ok (.ifCond .ne 10, 3) := by decide +kernel
theorem dX12_fault_4 : decode cX12_fault 4 = .ok (.aload_n 0, 1) := by decide +kernel
theorem dX12_fault_5 : decode cX12_fault 5 = .ok (.getfield 246, 3) := by decide +kernel
theorem dX12_fault_8 : decode cX12_fault 8 = .ok (.goto 16, 3) := by decide +kernel
theorem dX12_fault_11 : decode cX12_fault 11 = .ok (.iload_n 1, 1) := by decide +kernel
theorem dX12_fault_12 : decode cX12_fault 12 = .ok (.iconst 1, 1) := by decide +kernel
theorem dX12_fault_13 : decode cX12_fault 13 = .ok (.if_icmp .ne 10, 3) := by decide +kernel
theorem dX12_fault_16 : decode cX12_fault 16 = .ok (.aload_n 0, 1) := by decide +kernel
theorem dX12_fault_17 : decode cX12_fault 17 = .ok (.getfield 25, 3) := by decide +kernel
theorem dX12_fault_20 : decode cX12_fault 20 = .ok (.goto 4, 3) := by decide +kernel
theorem dX12_fault_23 : decode cX12_fault 23 = .ok (.iconst (-1), 1) := by decide +kernel
theorem dX12_fault_24 : decode cX12_fault 24 = .ok (.ireturn, 1) := by decide +kernel
theorem dX12_feed_0 : decode cX12_feed 0 = .ok (.aload_n 0, 1) := by decide +kernel
theorem dX12_feed_1 : decode cX12_feed 1 = .ok (.getfield 124, 3) := by decide +kernel
theorem dX12_feed_4 : decode cX12_feed 4 = .ok (.bipush 20, 2) := by decide +kernel
theorem dX12_feed_6 : decode cX12_feed 6 = .ok (.iadd, 1) := by decide +kernel
theorem dX12_feed_7 : decode cX12_feed 7 = .ok (.sipush 800, 3) := by decide +kernel
theorem dX12_feed_10 : decode cX12_feed 10 = .ok (.if_icmp .le 5, 3) := by decide +kernel
theorem dX12_feed_13 : decode cX12_feed 13 = .ok (.iconst (-1), 1) := by decide +kernel
theorem dX12_feed_14 : decode cX12_feed 14 = .ok (.ireturn, 1) := by decide +kernel
theorem dX12_feed_15 : decode cX12_feed 15 = .ok (.iconst 0, 1) := by decide +kernel
theorem dX12_feed_16 : decode cX12_feed 16 = .ok (.istore 6, 2) := by decide +kernel
theorem dX12_feed_18 : decode cX12_feed 18 = .ok (.iload 6, 2) := by decide +kernel
theorem dX12_feed_20 : decode cX12_feed 20 = .ok (.bipush 20, 2) := by decide +kernel
theorem dX12_feed_22 : decode cX12_feed 22 = .ok (.if_icmp .ge 93, 3) := by decide +kernel
theorem dX12_feed_25 : decode cX12_feed 25 = .ok (.iload 6, 2) := by decide +kernel
theorem dX12_feed_27 : decode cX12_feed 27 = .ok (.iconst 4, 1) := by decide +kernel
theorem dX12_feed_28 : decode cX12_feed 28 = .ok (.if_icmp .ge 7, 3) := by decide +kernel
theorem dX12_feed_31 : decode cX12_feed 31 = .ok (.iload_n 1, 1) := by decide +kernel
theorem dX12_feed_32 : decode cX12_feed 32 = .ok (.goto 39, 3) := by decide +kernel
theorem dX12_feed_35 : decode cX12_feed 35 = .ok (.iload 6, 2) := by decide +kernel
theorem dX12_feed_37 : decode cX12_feed 37 = .ok (.bipush 8, 2) := by decide +kernel
theorem dX12_feed_39 : decode cX12_feed 39 = .ok (.if_icmp .ge 7, 3) := by decide +kernel
theorem dX12_feed_42 : decode cX12_feed 42 = .ok (.iload_n 2, 1) := by decide +kernel
theorem dX12_feed_43 : decode cX12_feed 43 = .ok (.goto 28, 3) := by decide +kernel
theorem dX12_feed_46 : decode cX12_feed 46 = .ok (.iload 6, 2) := by decide +kernel
theorem dX12_feed_48 : decode cX12_feed 48 = .ok (.bipush 12, 2) := by decide +kernel
theorem dX12_feed_50 : decode cX12_feed 50 = .ok (.if_icmp .ge 7, 3) := by decide +kernel
theorem dX12_feed_53 : decode cX12_feed 53 = .ok (.iload_n 3, 1) := by decide +kernel
theorem dX12_feed_54 : decode cX12_feed 54 = .ok (.goto 17, 3) := by decide +kernel
theorem dX12_feed_57 : decode cX12_feed 57 = .ok (.iload 6, 2) := by decide +kernel
theorem dX12_feed_59 : decode cX12_feed 59 = .ok (.bipush 16, 2) := by decide +kernel
theorem dX12_feed_61 : decode cX12_feed 61 = .ok (.if_icmp .ge 8, 3) := by decide +kernel
theorem dX12_feed_64 : decode cX12_feed 64 = .ok (.iload 4, 2) := by decide +kernel
theorem dX12_feed_66 : decode cX12_feed 66 = .ok (.goto 5, 3) := by decide +kernel
theorem dX12_feed_69 : decode cX12_feed 69 = .ok (.iload 5, 2) := by decide +kernel
theorem dX12_feed_71 : decode cX12_feed 71 = .ok (.istore 7, 2) := by decide +kernel
theorem dX12_feed_73 : decode cX12_feed 73 = .ok (.aload_n 0, 1) := by decide +kernel
theorem dX12_feed_74 : decode cX12_feed 74 = .ok (.getfield 22, 3) := by decide +kernel
theorem dX12_feed_77 : decode cX12_feed 77 = .ok (.aload_n 0, 1) := by decide +kernel
theorem dX12_feed_78 : decode cX12_feed 78 = .ok (.getfield 124, 3) := by decide +kernel
theorem dX12_feed_81 : decode cX12_feed 81 = .ok (.iload 7, 2) := by decide +kernel
theorem dX12_feed_83 : decode cX12_feed 83 = .ok (.bipush 24, 2) := by decide +kernel
theorem dX12_feed_85 : decode cX12_feed 85 = .ok (.bipush 8, 2) := by decide +kernel
theorem dX12_feed_87 : decode cX12_feed 87 = .ok (.iload 6, 2) := by decide +kernel
theorem dX12_feed_89 : decode cX12_feed 89 = .ok (.iconst 4, 1) := by decide +kernel
theorem dX12_feed_90 : decode cX12_feed 90 = .ok (.irem, 1) := by decide +kernel
theorem dX12_feed_91 : decode cX12_feed 91 = .ok (.imul, 1) := by decide +kernel
theorem dX12_feed_92 : decode cX12_feed 92 = .ok (.isub, 1) := by decide +kernel
theorem dX12_feed_93 : decode cX12_feed 93 = .ok (.ishr, 1) := by decide +kernel
theorem dX12_feed_94 : decode cX12_feed 94 = .ok (.sipush 255, 3) := by decide +kernel
theorem dX12_feed_97 : decode cX12_feed 97 = .ok (.iand, 1) := by decide +kernel
theorem dX12_feed_98 : decode cX12_feed 98 = .ok (.iastore, 1) := by decide +kernel
theorem dX12_feed_99 : decode cX12_feed 99 = .ok (.aload_n 0, 1) := by decide +kernel
theorem dX12_feed_100 : decode cX12_feed 100 = .ok (.dup, 1) := by decide +kernel
theorem dX12_feed_101 : decode cX12_feed 101 = .ok (.getfield 124, 3) := by decide +kernel
theorem dX12_feed_104 : decode cX12_feed 104 = .ok (.iconst 1, 1) := by decide +kernel
theorem dX12_feed_105 : decode cX12_feed 105 = .ok (.iadd, 1) := by decide +kernel
theorem dX12_feed_106 : decode cX12_feed 106 = .ok (.putfield 124, 3) := by decide +kernel
theorem dX12_feed_109 : decode cX12_feed 109 = .ok (.iinc 6 1, 3) := by decide +kernel
theorem dX12_feed_112 : decode cX12_feed 112 = .ok (.goto (-94), 3) := by decide +kernel
theorem dX12_feed_115 : decode cX12_feed 115 = .ok (.aload_n 0, 1) := by decide +kernel
theorem dX12_feed_116 : decode cX12_feed 116 = .ok (.getfield 124, 3) := by decide +kernel
theorem dX12_feed_119 : decode cX12_feed 119 = .ok (.ireturn, 1) := by decide +kernel
theorem dX12_fits_0 : decode cX12_fits 0 = .ok (.aload_n 0, 1) := by decide +kernel
theorem dX12_fits_1 : decode cX12_fits 1 = .ok (.getfield 29, 3) := by decide +kernel
theorem dX12_fits_4 : decode cX12_fits 4 = .ok (.bipush 40, 2) := by decide +kernel
theorem dX12_fits_6 : decode cX12_fits 6 = .ok (.iload_n 1, 1) := by decide +kernel
theorem dX12_fits_7 : decode cX12_fits 7 = .ok (.imul, 1) := by decide +kernel
theorem dX12_fits_8 : decode cX12_fits 8 = .ok (.aload_n 0, 1) := by decide +kernel
theorem dX12_fits_9 : decode cX12_fits 9 = .ok (.getfield 354, 3) := by decide +kernel
theorem dX12_fits_12 : decode cX12_fits 12 = .ok (.iadd, 1) := by decide +kernel
theorem dX12_fits_13 : decode cX12_fits 13 = .ok (.iaload, 1) := by decide +kernel
theorem dX12_fits_14 : decode cX12_fits 14 = .ok (.istore_n 3, 1) := by decide +kernel
theorem dX12_fits_15 : decode cX12_fits 15 = .ok (.aload_n 0, 1) := by decide +kernel
theorem dX12_fits_16 : decode cX12_fits 16 = .ok (.dup, 1) := by decide +kernel
theorem dX12_fits_17 : decode cX12_fits 17 = .ok (.getfield 354, 3) := by decide +kernel
theorem dX12_fits_20 : decode cX12_fits 20 = .ok (.iconst 1, 1) := by decide +kernel
theorem dX12_fits_21 : decode cX12_fits 21 = .ok (.iadd, 1) := by decide +kernel
theorem dX12_fits_22 : decode cX12_fits 22 = .ok (.putfield 354, 3) := by decide +kernel
theorem dX12_fits_25 : decode cX12_fits 25 = .ok (.iload_n 3, 1) := by decide +kernel
theorem dX12_fits_26 : decode cX12_fits 26 = .ok (.bipush 30, 2) := by decide +kernel
theorem dX12_fits_28 : decode cX12_fits 28 = .ok (.bipush 32, 2) := by decide +kernel
theorem dX12_fits_30 : decode cX12_fits 30 = .ok (.invokestatic 90, 3) := by decide +kernel
theorem dX12_fits_33 : decode cX12_fits 33 = .ok (.ifCond .eq 43, 3) := by decide +kernel
theorem dX12_fits_36 : decode cX12_fits 36 = .ok (.iload_n 3, 1) := by decide +kernel
theorem dX12_fits_37 : decode cX12_fits 37 = .ok (.bipush 30, 2) := by decide +kernel
theorem dX12_fits_39 : decode cX12_fits 39 = .ok (.isub, 1) := by decide +kernel
theorem dX12_fits_40 : decode cX12_fits 40 = .ok (.istore 4, 2) := by decide +kernel
theorem dX12_fits_42 : decode cX12_fits 42 = .ok (.aload_n 0, 1) := by decide +kernel
theorem dX12_fits_43 : decode cX12_fits 43 = .ok (.getfield 65, 3) := by decide +kernel
theorem dX12_fits_46 : decode cX12_fits 46 = .ok (.iload 4, 2) := by decide +kernel
theorem dX12_fits_48 : decode cX12_fits 48 = .ok (.iaload, 1) := by decide +kernel
theorem dX12_fits_49 : decode cX12_fits 49 = .ok (.iconst (-1), 1) := by decide +kernel
theorem dX12_fits_50 : decode cX12_fits 50 = .ok (.if_icmp .eq 16, 3) := by decide +kernel
theorem dX12_fits_53 : decode cX12_fits 53 = .ok (.aload_n 0, 1) := by decide +kernel
theorem dX12_fits_54 : decode cX12_fits 54 = .ok (.aload_n 0, 1) := by decide +kernel
theorem dX12_fits_55 : decode cX12_fits 55 = .ok (.getfield 65, 3) := by decide +kernel
theorem dX12_fits_58 : decode cX12_fits 58 = .ok (.iload 4, 2) := by decide +kernel
theorem dX12_fits_60 : decode cX12_fits 60 = .ok (.iaload, 1) := by decide +kernel
theorem dX12_fits_61 : decode cX12_fits 61 = .ok (.iload_n 2, 1) := by decide +kernel
theorem dX12_fits_62 : decode cX12_fits 62 = .ok (.invokevirtual 357, 3) := by decide +kernel
theorem dX12_fits_65 : decode cX12_fits 65 = .ok (.ireturn, 1) := by decide +kernel
theorem dX12_fits_66 : decode cX12_fits 66 = .ok (.aload_n 0, 1) := by decide +kernel
theorem dX12_fits_67 : decode cX12_fits 67 = .ok (.getfield 65, 3) := by decide +kernel
theorem dX12_fits_70 : decode cX12_fits 70 = .ok (.iload 4, 2) := by decide +kernel
theorem dX12_fits_72 : decode cX12_fits 72 = .ok (.iload_n 2, 1) := by decide +kernel
theorem dX12_fits_73 : decode cX12_fits 73 = .ok (.iastore, 1) := by decide +kernel
theorem dX12_fits_74 : decode cX12_fits 74 = .ok (.iconst 1, 1) := by decide +kernel
theorem dX12_fits_75 : decode cX12_fits 75 = .ok (.ireturn, 1) := by decide +kernel
theorem dX12_fits_76 : decode cX12_fits 76 = .ok (.aload_n 0, 1) := by decide +kernel
theorem dX12_fits_77 : decode cX12_fits 77 = .ok (.getfield 16, 3) := by decide +kernel
theorem dX12_fits_80 : decode cX12_fits 80 = .ok (.iload_n 2, 1) := by decide +kernel
theorem dX12_fits_81 : decode cX12_fits 81 = .ok (.iaload, 1) := by decide +kernel
theorem dX12_fits_82 : decode cX12_fits 82 = .ok (.iload_n 3, 1) := by decide +kernel
theorem dX12_fits_83 : decode cX12_fits 83 = .ok (.if_icmp .eq 5, 3) := by decide +kernel
theorem dX12_fits_86 : decode cX12_fits 86 = .ok (.iconst 0, 1) := by decide +kernel
theorem dX12_fits_87 : decode cX12_fits 87 = .ok (.ireturn, 1) := by decide +kernel
theorem dX12_fits_88 : decode cX12_fits 88 = .ok (.iload_n 3, 1) := by decide +kernel
theorem dX12_fits_89 : decode cX12_fits 89 = .ok (.bipush 120, 2) := by decide +kernel
theorem dX12_fits_91 : decode cX12_fits 91 = .ok (.if_icmp .ge 5, 3) := by decide +kernel
theorem dX12_fits_94 : decode cX12_fits 94 = .ok (.iconst 1, 1) := by decide +kernel
theorem dX12_fits_95 : decode cX12_fits 95 = .ok (.ireturn, 1) := by decide +kernel
theorem dX12_fits_96 : decode cX12_fits 96 = .ok (.aload_n 0, 1) := by decide +kernel
theorem dX12_fits_97 : decode cX12_fits 97 = .ok (.iload_n 1, 1) := by decide +kernel
theorem dX12_fits_98 : decode cX12_fits 98 = .ok (.iload_n 2, 1) := by decide +kernel
theorem dX12_fits_99 : decode cX12_fits 99 = .ok (.iconst 1, 1) := by decide +kernel
theorem dX12_fits_100 : decode cX12_fits 100 = .ok (.iadd, 1) := by decide +kernel
theorem dX12_fits_101 : decode cX12_fits 101 = .ok (.invokevirtual 361, 3) := by decide +kernel
theorem dX12_fits_104 : decode cX12_fits 104 = .ok (.ifCond .eq 22, 3) := by decide +kernel
theorem dX12_fits_107 : decode cX12_fits 107 = .ok (.aload_n 0, 1) := by decide +kernel
theorem dX12_fits_108 : decode cX12_fits 108 = .ok (.iload_n 1, 1) := by decide +kernel
theorem dX12_fits_109 : decode cX12_fits 109 = .ok (.aload_n 0, 1) := by decide +kernel
theorem dX12_fits_110 : decode cX12_fits 110 = .ok (.iload_n 2, 1) := by decide +kernel
theorem dX12_fits_111 : decode cX12_fits 111 = .ok (.iconst 1, 1) := by decide +kernel
theorem dX12_fits_112 : decode cX12_fits 112 = .ok (.iadd, 1) := by decide +kernel
theorem dX12_fits_113 : decode cX12_fits 113 = .ok (.invokevirtual 94, 3) := by decide +kernel
theorem dX12_fits_116 : decode cX12_fits 116 = .ok (.invokevirtual 361, 3) := by decide +kernel
theorem dX12_fits_119 : decode cX12_fits 119 = .ok (.ifCond .eq 7, 3) := by decide +kernel
theorem dX12_fits_122 : decode cX12_fits 122 = .ok (.iconst 1, 1) := by decide +kernel
theorem dX12_fits_123 : decode cX12_fits 123 = .ok (.goto 4, 3) := by decide +kernel
theorem dX12_fits_126 : decode cX12_fits 126 = .ok (.iconst 0, 1) := by decide +kernel
theorem dX12_fits_127 : decode cX12_fits 127 = .ok (.ireturn, 1) := by decide +kernel
theorem dX12_foldAll_0 : decode cX12_foldAll 0 = .ok (.iload_n 1, 1) := by decide +kernel
theorem dX12_foldAll_1 : decode cX12_foldAll 1 = .ok (.istore_n 2, 1) := by decide +kernel
theorem dX12_foldAll_2 : decode cX12_foldAll 2 = .ok (.aload_n 0, 1) := by decide +kernel
theorem dX12_foldAll_3 : decode cX12_foldAll 3 = .ok (.iload_n 2, 1) := by decide +kernel
theorem dX12_foldAll_4 : decode cX12_foldAll 4 = .ok (.invokevirtual 107, 3) := by decide +kernel
theorem dX12_foldAll_7 : decode cX12_foldAll 7 = .ok (.ifCond .ne 17, 3) := by decide +kernel
theorem dX12_foldAll_10 : decode cX12_foldAll 10 = .ok (.aload_n 0, 1) := by decide +kernel
theorem dX12_foldAll_11 : decode cX12_foldAll 11 = .ok (.iload_n 2, 1) := by decide +kernel
theorem dX12_foldAll_12 : decode cX12_foldAll 12 = .ok (.invokevirtual 403, 3) := by decide +kernel
theorem dX12_foldAll_15 : decode cX12_foldAll 15 = .ok (.aload_n 0, 1) := by decide +kernel
theorem dX12_foldAll_16 : decode cX12_foldAll 16 = .ok (.iload_n 2, 1) := by decide +kernel
theorem dX12_foldAll_17 : decode cX12_foldAll 17 = .ok (.invokevirtual 104, 3) := by decide +kernel
theorem dX12_foldAll_20 : decode cX12_foldAll 20 = .ok (.istore_n 2, 1) := by decide +kernel
theorem dX12_foldAll_21 : decode cX12_foldAll 21 = .ok (.goto (-19), 3) := by decide +kernel
theorem dX12_foldAll_24 : decode cX12_foldAll 24 = .ok (.return_, 1) := by decide +kernel
theorem dX12_foldOne_0 : decode cX12_foldOne 0 = .ok (.aload_n 0, 1) := by decide +kernel
theorem dX12_foldOne_1 : decode cX12_foldOne 1 = .ok (.getfield 16, 3) := by decide +kernel
theorem dX12_foldOne_4 : decode cX12_foldOne 4 = .ok (.iload_n 1, 1) := by decide +kernel
theorem dX12_foldOne_5 : decode cX12_foldOne 5 = .ok (.iaload, 1) := by decide +kernel
theorem dX12_foldOne_6 : decode cX12_foldOne 6 = .ok (.istore_n 2, 1) := by decide +kernel
theorem dX12_foldOne_7 : decode cX12_foldOne 7 = .ok (.iload_n 2, 1) := by decide +kernel
theorem dX12_foldOne_8 : decode cX12_foldOne 8 = .ok (.bipush 111, 2) := by decide +kernel
theorem dX12_foldOne_10 : decode cX12_foldOne 10 = .ok (.if_icmp .ne 9, 3) := by decide +kernel
theorem dX12_foldOne_13 : decode cX12_foldOne 13 = .ok (.aload_n 0, 1) := by decide +kernel
theorem dX12_foldOne_14 : decode cX12_foldOne 14 = .ok (.iload_n 2, 1) := by decide +kernel
theorem dX12_foldOne_15 : decode cX12_foldOne 15 = .ok (.invokevirtual 120, 3) := by decide +kernel
theorem dX12_foldOne_18 : decode cX12_foldOne 18 = .ok (.return_, 1) := by decide +kernel
theorem dX12_foldOne_19 : decode cX12_foldOne 19 = .ok (.aload_n 0, 1) := by decide +kernel
theorem dX12_foldOne_20 : decode cX12_foldOne 20 = .ok (.getfield 117, 3) := by decide +kernel
theorem dX12_foldOne_23 : decode cX12_foldOne 23 = .ok (.istore_n 3, 1) := by decide +kernel
theorem dX12_foldOne_24 : decode cX12_foldOne 24 = .ok (.aload_n 0, 1) := by decide +kernel
theorem dX12_foldOne_25 : decode cX12_foldOne 25 = .ok (.iload_n 2, 1) := by decide +kernel
theorem dX12_foldOne_26 : decode cX12_foldOne 26 = .ok (.invokevirtual 120, 3) := by decide +kernel
theorem dX12_foldOne_29 : decode cX12_foldOne 29 = .ok (.iload_n 2, 1) := by decide +kernel
theorem dX12_foldOne_30 : decode cX12_foldOne 30 = .ok (.bipush 112, 2) := by decide +kernel
theorem dX12_foldOne_32 : decode cX12_foldOne 32 = .ok (.if_icmp .eq 18, 3) := by decide +kernel
theorem dX12_foldOne_35 : decode cX12_foldOne 35 = .ok (.iload_n 2, 1) := by decide +kernel
theorem dX12_foldOne_36 : decode cX12_foldOne 36 = .ok (.bipush 115, 2) := by decide +kernel
theorem dX12_foldOne_38 : decode cX12_foldOne 38 = .ok (.if_icmp .eq 12, 3) := by decide +kernel
theorem dX12_foldOne_41 : decode cX12_foldOne 41 = .ok (.aload_n 0, 1) := by decide +kernel
theorem dX12_foldOne_42 : decode cX12_foldOne 42 = .ok (.iload_n 1, 1) := by decide +kernel
theorem dX12_foldOne_43 : decode cX12_foldOne 43 = .ok (.iconst 1, 1) := by decide +kernel
theorem dX12_foldOne_44 : decode cX12_foldOne 44 = .ok (.iadd, 1) := by decide +kernel
theorem dX12_foldOne_45 : decode cX12_foldOne 45 = .ok (.invokevirtual 400, 3) := by decide +kernel
theorem dX12_foldOne_48 : decode cX12_foldOne 48 = .ok (.pop, 1) := by decide +kernel
theorem dX12_foldOne_49 : decode cX12_foldOne 49 = .ok (.return_, 1) := by decide +kernel
theorem dX12_foldOne_50 : decode cX12_foldOne 50 = .ok (.aload_n 0, 1) := by decide +kernel
theorem dX12_foldOne_51 : decode cX12_foldOne 51 = .ok (.aload_n 0, 1) := by decide +kernel
theorem dX12_foldOne_52 : decode cX12_foldOne 52 = .ok (.getfield 16, 3) := by decide +kernel
theorem dX12_foldOne_55 : decode cX12_foldOne 55 = .ok (.iload_n 1, 1) := by decide +kernel
theorem dX12_foldOne_56 : decode cX12_foldOne 56 = .ok (.iconst 1, 1) := by decide +kernel
theorem dX12_foldOne_57 : decode cX12_foldOne 57 = .ok (.iadd, 1) := by decide +kernel
theorem dX12_foldOne_58 : decode cX12_foldOne 58 = .ok (.iaload, 1) := by decide +kernel
theorem dX12_foldOne_59 : decode cX12_foldOne 59 = .ok (.invokevirtual 120, 3) := by decide +kernel
theorem dX12_foldOne_62 : decode cX12_foldOne 62 = .ok (.aload_n 0, 1) := by decide +kernel
theorem dX12_foldOne_63 : decode cX12_foldOne 63 = .ok (.iload_n 1, 1) := by decide +kernel
theorem dX12_foldOne_64 : decode cX12_foldOne 64 = .ok (.iconst 2, 1) := by decide +kernel
theorem dX12_foldOne_65 : decode cX12_foldOne 65 = .ok (.iadd, 1) := by decide +kernel
theorem dX12_foldOne_66 : decode cX12_foldOne 66 = .ok (.invokevirtual 400, 3) := by decide +kernel
theorem dX12_foldOne_69 : decode cX12_foldOne 69 = .ok (.istore 4, 2) := by decide +kernel
theorem dX12_foldOne_71 : decode cX12_foldOne 71 = .ok (.aload_n 0, 1) := by decide +kernel
theorem dX12_foldOne_72 : decode cX12_foldOne 72 = .ok (.aload_n 0, 1) := by decide +kernel
theorem dX12_foldOne_73 : decode cX12_foldOne 73 = .ok (.iload_n 1, 1) := by decide +kernel
theorem dX12_foldOne_74 : decode cX12_foldOne 74 = .ok (.iconst 2, 1) := by decide +kernel
theorem dX12_foldOne_75 : decode cX12_foldOne 75 = .ok (.iadd, 1) := by decide +kernel
theorem dX12_foldOne_76 : decode cX12_foldOne 76 = .ok (.invokevirtual 94, 3) := by decide +kernel
theorem dX12_foldOne_79 : decode cX12_foldOne 79 = .ok (.invokevirtual 400, 3) := by decide +kernel
theorem dX12_foldOne_82 : decode cX12_foldOne 82 = .ok (.istore 5, 2) := by decide +kernel
theorem dX12_foldOne_84 : decode cX12_foldOne 84 = .ok (.aload_n 0, 1) := by decide +kernel
theorem dX12_foldOne_85 : decode cX12_foldOne 85 = .ok (.aload_n 0, 1) := by decide +kernel
theorem dX12_foldOne_86 : decode cX12_foldOne 86 = .ok (.iload_n 1, 1) := by decide +kernel
theorem dX12_foldOne_87 : decode cX12_foldOne 87 = .ok (.invokevirtual 101, 3) := by decide +kernel
theorem dX12_foldOne_90 : decode cX12_foldOne 90 = .ok (.invokevirtual 309, 3) := by decide +kernel
theorem dX12_foldOne_93 : decode cX12_foldOne 93 = .ok (.istore 6, 2) := by decide +kernel
theorem dX12_foldOne_95 : decode cX12_foldOne 95 = .ok (.iload 4, 2) := by decide +kernel
theorem dX12_foldOne_97 : decode cX12_foldOne 97 = .ok (.ifCond .eq 168, 3) := by decide +kernel
theorem dX12_foldOne_100 : decode cX12_foldOne 100 = .ok (.iload 5, 2) := by decide +kernel
theorem dX12_foldOne_102 : decode cX12_foldOne 102 = .ok (.ifCond .eq 163, 3) := by decide +kernel
theorem dX12_foldOne_105 : decode cX12_foldOne 105 = .ok (.aload_n 0, 1) := by decide +kernel
theorem dX12_foldOne_106 : decode cX12_foldOne 106 = .ok (.getfield 19, 3) := by decide +kernel
theorem dX12_foldOne_109 : decode cX12_foldOne 109 = .ok (.iload_n 3, 1) := by decide +kernel
theorem dX12_foldOne_110 : decode cX12_foldOne 110 = .ok (.iconst 2, 1) := by decide +kernel
theorem dX12_foldOne_111 : decode cX12_foldOne 111 = .ok (.iadd, 1) := by decide +kernel
theorem dX12_foldOne_112 : decode cX12_foldOne 112 = .ok (.iaload, 1) := by decide +kernel
theorem dX12_foldOne_113 : decode cX12_foldOne 113 = .ok (.istore 7, 2) := by decide +kernel
theorem dX12_foldOne_115 : decode cX12_foldOne 115 = .ok (.aload_n 0, 1) := by decide +kernel
theorem dX12_foldOne_116 : decode cX12_foldOne 116 = .ok (.getfield 19, 3) := by decide +kernel
theorem dX12_foldOne_119 : decode cX12_foldOne 119 = .ok (.iload_n 3, 1) := by decide +kernel
theorem dX12_foldOne_120 : decode cX12_foldOne 120 = .ok (.iconst 3, 1) := by decide +kernel
theorem dX12_foldOne_121 : decode cX12_foldOne 121 = .ok (.iadd, 1) := by decide +kernel
theorem dX12_foldOne_122 : decode cX12_foldOne 122 = .ok (.iaload, 1) := by decide +kernel
theorem dX12_foldOne_123 : decode cX12_foldOne 123 = .ok (.istore 8, 2) := by decide +kernel
theorem dX12_foldOne_125 : decode cX12_foldOne 125 = .ok (.aload_n 0, 1) := by decide +kernel
theorem dX12_foldOne_126 : decode cX12_foldOne 126 = .ok (.getfield 16, 3) := by decide +kernel
theorem dX12_foldOne_129 : decode cX12_foldOne 129 = .ok (.iload_n 1, 1) := by decide +kernel
theorem dX12_foldOne_130 : decode cX12_foldOne 130 = .ok (.iconst 1, 1) := by decide +kernel
theorem dX12_foldOne_131 : decode cX12_foldOne 131 = .ok (.iadd, 1) := by decide +kernel
theorem dX12_foldOne_132 : decode cX12_foldOne 132 = .ok (.iaload, 1) := by decide +kernel
theorem dX12_foldOne_133 : decode cX12_foldOne 133 = .ok (.sipush 130, 3) := by decide +kernel
theorem dX12_foldOne_136 : decode cX12_foldOne 136 = .ok (.if_icmp .ne 18, 3) := by decide +kernel
theorem dX12_foldOne_139 : decode cX12_foldOne 139 = .ok (.iload 7, 2) := by decide +kernel
theorem dX12_foldOne_141 : decode cX12_foldOne 141 = .ok (.iload 8, 2) := by decide +kernel
theorem dX12_foldOne_143 : decode cX12_foldOne 143 = .ok (.if_icmp .ge 7, 3) := by decide +kernel
theorem dX12_foldOne_146 : decode cX12_foldOne 146 = .ok (.iconst 1, 1) := by decide +kernel
theorem dX12_foldOne_147 : decode cX12_foldOne 147 = .ok (.goto 48, 3) := by decide +kernel
theorem dX12_foldOne_150 : decode cX12_foldOne 150 = .ok (.iconst 0, 1) := by decide +kernel
theorem dX12_foldOne_151 : decode cX12_foldOne 151 = .ok (.goto 44, 3) := by decide +kernel
theorem dX12_foldOne_154 : decode cX12_foldOne 154 = .ok (.aload_n 0, 1) := by decide +kernel
theorem dX12_foldOne_155 : decode cX12_foldOne 155 = .ok (.getfield 16, 3) := by decide +kernel
theorem dX12_foldOne_158 : decode cX12_foldOne 158 = .ok (.iload_n 1, 1) := by decide +kernel
theorem dX12_foldOne_159 : decode cX12_foldOne 159 = .ok (.iconst 1, 1) := by decide +kernel
theorem dX12_foldOne_160 : decode cX12_foldOne 160 = .ok (.iadd, 1) := by decide +kernel
theorem dX12_foldOne_161 : decode cX12_foldOne 161 = .ok (.iaload, 1) := by decide +kernel
theorem dX12_foldOne_162 : decode cX12_foldOne 162 = .ok (.sipush 131, 3) := by decide +kernel
theorem dX12_foldOne_165 : decode cX12_foldOne 165 = .ok (.if_icmp .ne 18, 3) := by decide +kernel
theorem dX12_foldOne_168 : decode cX12_foldOne 168 = .ok (.iload 7, 2) := by decide +kernel
theorem dX12_foldOne_170 : decode cX12_foldOne 170 = .ok (.iload 8, 2) := by decide +kernel
theorem dX12_foldOne_172 : decode cX12_foldOne 172 = .ok (.if_icmp .ne 7, 3) := by decide +kernel
theorem dX12_foldOne_175 : decode cX12_foldOne 175 = .ok (.iconst 1, 1) := by decide +kernel
theorem dX12_foldOne_176 : decode cX12_foldOne 176 = .ok (.goto 19, 3) := by decide +kernel
theorem dX12_foldOne_179 : decode cX12_foldOne 179 = .ok (.iconst 0, 1) := by decide +kernel
theorem dX12_foldOne_180 : decode cX12_foldOne 180 = .ok (.goto 15, 3) := by decide +kernel
theorem dX12_foldOne_183 : decode cX12_foldOne 183 = .ok (.iload 7, 2) := by decide +kernel
theorem dX12_foldOne_185 : decode cX12_foldOne 185 = .ok (.iload 8, 2) := by decide +kernel
theorem dX12_foldOne_187 : decode cX12_foldOne 187 = .ok (.if_icmp .le 7, 3) := by decide +kernel
theorem dX12_foldOne_190 : decode cX12_foldOne 190 = .ok (.iconst 1, 1) := by decide +kernel
theorem dX12_foldOne_191 : decode cX12_foldOne 191 = .ok (.goto 4, 3) := by decide +kernel
theorem dX12_foldOne_194 : decode cX12_foldOne 194 = .ok (.iconst 0, 1) := by decide +kernel
theorem dX12_foldOne_195 : decode cX12_foldOne 195 = .ok (.istore 9, 2) := by decide +kernel
theorem dX12_foldOne_197 : decode cX12_foldOne 197 = .ok (.iload_n 2, 1) := by decide +kernel
theorem dX12_foldOne_198 : decode cX12_foldOne 198 = .ok (.bipush 112, 2) := by decide +kernel
theorem dX12_foldOne_200 : decode cX12_foldOne 200 = .ok (.if_icmp .eq 8, 3) := by decide +kernel
theorem dX12_foldOne_203 : decode cX12_foldOne 203 = .ok (.iload 9, 2) := by decide +kernel
theorem dX12_foldOne_205 : decode cX12_foldOne 205 = .ok (.ifCond .ne 60, 3) := by decide +kernel
theorem dX12_foldOne_208 : decode cX12_foldOne 208 = .ok (.aload_n 0, 1) := by decide +kernel
theorem dX12_foldOne_209 : decode cX12_foldOne 209 = .ok (.iload_n 3, 1) := by decide +kernel
theorem dX12_foldOne_210 : decode cX12_foldOne 210 = .ok (.putfield 117, 3) := by decide +kernel
theorem dX12_foldOne_213 : decode cX12_foldOne 213 = .ok (.iload_n 2, 1) := by decide +kernel
theorem dX12_foldOne_214 : decode cX12_foldOne 214 = .ok (.bipush 112, 2) := by decide +kernel
theorem dX12_foldOne_216 : decode cX12_foldOne 216 = .ok (.if_icmp .ne 17, 3) := by decide +kernel
theorem dX12_foldOne_219 : decode cX12_foldOne 219 = .ok (.iload 9, 2) := by decide +kernel
theorem dX12_foldOne_221 : decode cX12_foldOne 221 = .ok (.ifCond .eq 12, 3) := by decide +kernel
theorem dX12_foldOne_224 : decode cX12_foldOne 224 = .ok (.aload_n 0, 1) := by decide +kernel
theorem dX12_foldOne_225 : decode cX12_foldOne 225 = .ok (.aload_n 0, 1) := by decide +kernel
theorem dX12_foldOne_226 : decode cX12_foldOne 226 = .ok (.iload_n 1, 1) := by decide +kernel
theorem dX12_foldOne_227 : decode cX12_foldOne 227 = .ok (.invokevirtual 101, 3) := by decide +kernel
theorem dX12_foldOne_230 : decode cX12_foldOne 230 = .ok (.invokevirtual 406, 3) := by decide +kernel
theorem dX12_foldOne_233 : decode cX12_foldOne 233 = .ok (.iload_n 2, 1) := by decide +kernel
theorem dX12_foldOne_234 : decode cX12_foldOne 234 = .ok (.bipush 112, 2) := by decide +kernel
theorem dX12_foldOne_236 : decode cX12_foldOne 236 = .ok (.if_icmp .ne 28, 3) := by decide +kernel
theorem dX12_foldOne_239 : decode cX12_foldOne 239 = .ok (.iload 9, 2) := by decide +kernel
theorem dX12_foldOne_241 : decode cX12_foldOne 241 = .ok (.ifCond .ne 23, 3) := by decide +kernel
theorem dX12_foldOne_244 : decode cX12_foldOne 244 = .ok (.aload_n 0, 1) := by decide +kernel
theorem dX12_foldOne_245 : decode cX12_foldOne 245 = .ok (.getfield 16, 3) := by decide +kernel
theorem dX12_foldOne_248 : decode cX12_foldOne 248 = .ok (.iload 6, 2) := by decide +kernel
theorem dX12_foldOne_250 : decode cX12_foldOne 250 = .ok (.iaload, 1) := by decide +kernel
theorem dX12_foldOne_251 : decode cX12_foldOne 251 = .ok (.bipush 113, 2) := by decide +kernel
theorem dX12_foldOne_253 : decode cX12_foldOne 253 = .ok (.if_icmp .ne 11, 3) := by decide +kernel
theorem dX12_foldOne_256 : decode cX12_foldOne 256 = .ok (.aload_n 0, 1) := by decide +kernel
theorem dX12_foldOne_257 : decode cX12_foldOne 257 = .ok (.iload 6, 2) := by decide +kernel
theorem dX12_foldOne_259 : decode cX12_foldOne 259 = .ok (.iconst 1, 1) := by decide +kernel
theorem dX12_foldOne_260 : decode cX12_foldOne 260 = .ok (.iadd, 1) := by decide +kernel
theorem dX12_foldOne_261 : decode cX12_foldOne 261 = .ok (.invokevirtual 406, 3) := by decide +kernel
theorem dX12_foldOne_264 : decode cX12_foldOne 264 = .ok (.return_, 1) := by decide +kernel
theorem dX12_foldOne_265 : decode cX12_foldOne 265 = .ok (.aload_n 0, 1) := by decide +kernel
theorem dX12_foldOne_266 : decode cX12_foldOne 266 = .ok (.aload_n 0, 1) := by decide +kernel
theorem dX12_foldOne_267 : decode cX12_foldOne 267 = .ok (.iload_n 1, 1) := by decide +kernel
theorem dX12_foldOne_268 : decode cX12_foldOne 268 = .ok (.invokevirtual 101, 3) := by decide +kernel
theorem dX12_foldOne_271 : decode cX12_foldOne 271 = .ok (.invokevirtual 406, 3) := by decide +kernel
theorem dX12_foldOne_274 : decode cX12_foldOne 274 = .ok (.aload_n 0, 1) := by decide +kernel
theorem dX12_foldOne_275 : decode cX12_foldOne 275 = .ok (.getfield 16, 3) := by decide +kernel
theorem dX12_foldOne_278 : decode cX12_foldOne 278 = .ok (.iload 6, 2) := by decide +kernel
theorem dX12_foldOne_280 : decode cX12_foldOne 280 = .ok (.iaload, 1) := by decide +kernel
theorem dX12_foldOne_281 : decode cX12_foldOne 281 = .ok (.bipush 113, 2) := by decide +kernel
theorem dX12_foldOne_283 : decode cX12_foldOne 283 = .ok (.if_icmp .ne 17, 3) := by decide +kernel
theorem dX12_foldOne_286 : decode cX12_foldOne 286 = .ok (.aload_n 0, 1) := by decide +kernel
theorem dX12_foldOne_287 : decode cX12_foldOne 287 = .ok (.bipush 113, 2) := by decide +kernel
theorem dX12_foldOne_289 : decode cX12_foldOne 289 = .ok (.invokevirtual 120, 3) := by decide +kernel
theorem dX12_foldOne_292 : decode cX12_foldOne 292 = .ok (.aload_n 0, 1) := by decide +kernel
theorem dX12_foldOne_293 : decode cX12_foldOne 293 = .ok (.iload 6, 2) := by decide +kernel
theorem dX12_foldOne_295 : decode cX12_foldOne 295 = .ok (.iconst 1, 1) := by decide +kernel
theorem dX12_foldOne_296 : decode cX12_foldOne 296 = .ok (.iadd, 1) := by decide +kernel
theorem dX12_foldOne_297 : decode cX12_foldOne 297 = .ok (.invokevirtual 406, 3) := by decide +kernel
theorem dX12_foldOne_300 : decode cX12_foldOne 300 = .ok (.aload_n 0, 1) := by decide +kernel
theorem dX12_foldOne_301 : decode cX12_foldOne 301 = .ok (.bipush 114, 2) := by decide +kernel
theorem dX12_foldOne_303 : decode cX12_foldOne 303 = .ok (.invokevirtual 120, 3) := by decide +kernel
theorem dX12_foldOne_306 : decode cX12_foldOne 306 = .ok (.return_, 1) := by decide +kernel
theorem dX12_folds_0 : decode cX12_folds 0 = .ok (.aload_n 0, 1) := by decide +kernel
theorem dX12_folds_1 : decode cX12_folds 1 = .ok (.getfield 16, 3) := by decide +kernel
theorem dX12_folds_4 : decode cX12_folds 4 = .ok (.iload_n 1, 1) := by decide +kernel
theorem dX12_folds_5 : decode cX12_folds 5 = .ok (.iaload, 1) := by decide +kernel
theorem dX12_folds_6 : decode cX12_folds 6 = .ok (.bipush 120, 2) := by decide +kernel
theorem dX12_folds_8 : decode cX12_folds 8 = .ok (.bipush 122, 2) := by decide +kernel
theorem dX12_folds_10 : decode cX12_folds 10 = .ok (.invokestatic 90, 3) := by decide +kernel
theorem dX12_folds_13 : decode cX12_folds 13 = .ok (.ifCond .ne 30, 3) := by decide +kernel
theorem dX12_folds_16 : decode cX12_folds 16 = .ok (.aload_n 0, 1) := by decide +kernel
theorem dX12_folds_17 : decode cX12_folds 17 = .ok (.aload_n 0, 1) := by decide +kernel
theorem dX12_folds_18 : decode cX12_folds 18 = .ok (.getfield 16, 3) := by decide +kernel
theorem dX12_folds_21 : decode cX12_folds 21 = .ok (.iload_n 1, 1) := by decide +kernel
theorem dX12_folds_22 : decode cX12_folds 22 = .ok (.iaload, 1) := by decide +kernel
theorem dX12_folds_23 : decode cX12_folds 23 = .ok (.invokevirtual 120, 3) := by decide +kernel
theorem dX12_folds_26 : decode cX12_folds 26 = .ok (.aload_n 0, 1) := by decide +kernel
theorem dX12_folds_27 : decode cX12_folds 27 = .ok (.getfield 16, 3) := by decide +kernel
theorem dX12_folds_30 : decode cX12_folds 30 = .ok (.iload_n 1, 1) := by decide +kernel
theorem dX12_folds_31 : decode cX12_folds 31 = .ok (.iaload, 1) := by decide +kernel
theorem dX12_folds_32 : decode cX12_folds 32 = .ok (.bipush 20, 2) := by decide +kernel
theorem dX12_folds_34 : decode cX12_folds 34 = .ok (.if_icmp .ge 7, 3) := by decide +kernel
theorem dX12_folds_37 : decode cX12_folds 37 = .ok (.iconst 1, 1) := by decide +kernel
theorem dX12_folds_38 : decode cX12_folds 38 = .ok (.goto 4, 3) := by decide +kernel
theorem dX12_folds_41 : decode cX12_folds 41 = .ok (.iconst 0, 1) := by decide +kernel
theorem dX12_folds_42 : decode cX12_folds 42 = .ok (.ireturn, 1) := by decide +kernel
theorem dX12_folds_43 : decode cX12_folds 43 = .ok (.aload_n 0, 1) := by decide +kernel
theorem dX12_folds_44 : decode cX12_folds 44 = .ok (.getfield 117, 3) := by decide +kernel
theorem dX12_folds_47 : decode cX12_folds 47 = .ok (.istore_n 2, 1) := by decide +kernel
theorem dX12_folds_48 : decode cX12_folds 48 = .ok (.aload_n 0, 1) := by decide +kernel
theorem dX12_folds_49 : decode cX12_folds 49 = .ok (.aload_n 0, 1) := by decide +kernel
theorem dX12_folds_50 : decode cX12_folds 50 = .ok (.getfield 16, 3) := by decide +kernel
theorem dX12_folds_53 : decode cX12_folds 53 = .ok (.iload_n 1, 1) := by decide +kernel
theorem dX12_folds_54 : decode cX12_folds 54 = .ok (.iaload, 1) := by decide +kernel
theorem dX12_folds_55 : decode cX12_folds 55 = .ok (.invokevirtual 120, 3) := by decide +kernel
theorem dX12_folds_58 : decode cX12_folds 58 = .ok (.aload_n 0, 1) := by decide +kernel
theorem dX12_folds_59 : decode cX12_folds 59 = .ok (.iload_n 1, 1) := by decide +kernel
theorem dX12_folds_60 : decode cX12_folds 60 = .ok (.iconst 1, 1) := by decide +kernel
theorem dX12_folds_61 : decode cX12_folds 61 = .ok (.iadd, 1) := by decide +kernel
theorem dX12_folds_62 : decode cX12_folds 62 = .ok (.invokevirtual 400, 3) := by decide +kernel
theorem dX12_folds_65 : decode cX12_folds 65 = .ok (.istore_n 3, 1) := by decide +kernel
theorem dX12_folds_66 : decode cX12_folds 66 = .ok (.aload_n 0, 1) := by decide +kernel
theorem dX12_folds_67 : decode cX12_folds 67 = .ok (.aload_n 0, 1) := by decide +kernel
theorem dX12_folds_68 : decode cX12_folds 68 = .ok (.iload_n 1, 1) := by decide +kernel
theorem dX12_folds_69 : decode cX12_folds 69 = .ok (.iconst 1, 1) := by decide +kernel
theorem dX12_folds_70 : decode cX12_folds 70 = .ok (.iadd, 1) := by decide +kernel
theorem dX12_folds_71 : decode cX12_folds 71 = .ok (.invokevirtual 94, 3) := by decide +kernel
theorem dX12_folds_74 : decode cX12_folds 74 = .ok (.invokevirtual 400, 3) := by decide +kernel
theorem dX12_folds_77 : decode cX12_folds 77 = .ok (.istore 4, 2) := by decide +kernel
theorem dX12_folds_79 : decode cX12_folds 79 = .ok (.iload_n 3, 1) := by decide +kernel
theorem dX12_folds_80 : decode cX12_folds 80 = .ok (.ifCond .eq 8, 3) := by decide +kernel
theorem dX12_folds_83 : decode cX12_folds 83 = .ok (.iload 4, 2) := by decide +kernel
theorem dX12_folds_85 : decode cX12_folds 85 = .ok (.ifCond .ne 5, 3) := by decide +kernel
theorem dX12_folds_88 : decode cX12_folds 88 = .ok (.iconst 0, 1) := by decide +kernel
theorem dX12_folds_89 : decode cX12_folds 89 = .ok (.ireturn, 1) := by decide +kernel
theorem dX12_folds_90 : decode cX12_folds 90 = .ok (.aload_n 0, 1) := by decide +kernel
theorem dX12_folds_91 : decode cX12_folds 91 = .ok (.getfield 19, 3) := by decide +kernel
theorem dX12_folds_94 : decode cX12_folds 94 = .ok (.iload_n 2, 1) := by decide +kernel
theorem dX12_folds_95 : decode cX12_folds 95 = .ok (.aload_n 0, 1) := by decide +kernel
theorem dX12_folds_96 : decode cX12_folds 96 = .ok (.getfield 16, 3) := by decide +kernel
theorem dX12_folds_99 : decode cX12_folds 99 = .ok (.iload_n 1, 1) := by decide +kernel
theorem dX12_folds_100 : decode cX12_folds 100 = .ok (.iaload, 1) := by decide +kernel
theorem dX12_folds_101 : decode cX12_folds 101 = .ok (.aload_n 0, 1) := by decide +kernel
theorem dX12_folds_102 : decode cX12_folds 102 = .ok (.getfield 19, 3) := by decide +kernel
theorem dX12_folds_105 : decode cX12_folds 105 = .ok (.iload_n 2, 1) := by decide +kernel
theorem dX12_folds_106 : decode cX12_folds 106 = .ok (.iconst 1, 1) := by decide +kernel
theorem dX12_folds_107 : decode cX12_folds 107 = .ok (.iadd, 1) := by decide +kernel
theorem dX12_folds_108 : decode cX12_folds 108 = .ok (.iaload, 1) := by decide +kernel
theorem dX12_folds_109 : decode cX12_folds 109 = .ok (.aload_n 0, 1) := by decide +kernel
theorem dX12_folds_110 : decode cX12_folds 110 = .ok (.getfield 19, 3) := by decide +kernel
theorem dX12_folds_113 : decode cX12_folds 113 = .ok (.iload_n 2, 1) := by decide +kernel
theorem dX12_folds_114 : decode cX12_folds 114 = .ok (.iconst 2, 1) := by decide +kernel
theorem dX12_folds_115 : decode cX12_folds 115 = .ok (.iadd, 1) := by decide +kernel
theorem dX12_folds_116 : decode cX12_folds 116 = .ok (.iaload, 1) := by decide +kernel
theorem dX12_folds_117 : decode cX12_folds 117 = .ok (.invokestatic 287, 3) := by decide +kernel
theorem dX12_folds_120 : decode cX12_folds 120 = .ok (.iastore, 1) := by decide +kernel
theorem dX12_folds_121 : decode cX12_folds 121 = .ok (.aload_n 0, 1) := by decide +kernel
theorem dX12_folds_122 : decode cX12_folds 122 = .ok (.iload_n 2, 1) := by decide +kernel
theorem dX12_folds_123 : decode cX12_folds 123 = .ok (.iconst 1, 1) := by decide +kernel
theorem dX12_folds_124 : decode cX12_folds 124 = .ok (.iadd, 1) := by decide +kernel
theorem dX12_folds_125 : decode cX12_folds 125 = .ok (.putfield 117, 3) := by decide +kernel
theorem dX12_folds_128 : decode cX12_folds 128 = .ok (.iconst 1, 1) := by decide +kernel
theorem dX12_folds_129 : decode cX12_folds 129 = .ok (.ireturn, 1) := by decide +kernel
theorem dX12_forms_0 : decode cX12_forms 0 = .ok (.aload_n 0, 1) := by decide +kernel
theorem dX12_forms_1 : decode cX12_forms 1 = .ok (.getfield 29, 3) := by decide +kernel
theorem dX12_forms_4 : decode cX12_forms 4 = .ok (.bipush 40, 2) := by decide +kernel
theorem dX12_forms_6 : decode cX12_forms 6 = .ok (.iload_n 1, 1) := by decide +kernel
theorem dX12_forms_7 : decode cX12_forms 7 = .ok (.imul, 1) := by decide +kernel
theorem dX12_forms_8 : decode cX12_forms 8 = .ok (.aload_n 0, 1) := by decide +kernel
theorem dX12_forms_9 : decode cX12_forms 9 = .ok (.getfield 281, 3) := by decide +kernel
theorem dX12_forms_12 : decode cX12_forms 12 = .ok (.iadd, 1) := by decide +kernel
theorem dX12_forms_13 : decode cX12_forms 13 = .ok (.iaload, 1) := by decide +kernel
theorem dX12_forms_14 : decode cX12_forms 14 = .ok (.istore_n 3, 1) := by decide +kernel
theorem dX12_forms_15 : decode cX12_forms 15 = .ok (.aload_n 0, 1) := by decide +kernel
theorem dX12_forms_16 : decode cX12_forms 16 = .ok (.dup, 1) := by decide +kernel
theorem dX12_forms_17 : decode cX12_forms 17 = .ok (.getfield 281, 3) := by decide +kernel
theorem dX12_forms_20 : decode cX12_forms 20 = .ok (.iconst 1, 1) := by decide +kernel
theorem dX12_forms_21 : decode cX12_forms 21 = .ok (.iadd, 1) := by decide +kernel
theorem dX12_forms_22 : decode cX12_forms 22 = .ok (.putfield 281, 3) := by decide +kernel
theorem dX12_forms_25 : decode cX12_forms 25 = .ok (.iconst 0, 1) := by decide +kernel
theorem dX12_forms_26 : decode cX12_forms 26 = .ok (.istore 4, 2) := by decide +kernel
theorem dX12_forms_28 : decode cX12_forms 28 = .ok (.iload 4, 2) := by decide +kernel
theorem dX12_forms_30 : decode cX12_forms 30 = .ok (.sipush 512, 3) := by decide +kernel
theorem dX12_forms_33 : decode cX12_forms 33 = .ok (.if_icmp .ge 23, 3) := by decide +kernel
theorem dX12_forms_36 : decode cX12_forms 36 = .ok (.aload_n 0, 1) := by decide +kernel
theorem dX12_forms_37 : decode cX12_forms 37 = .ok (.getfield 59, 3) := by decide +kernel
theorem dX12_forms_40 : decode cX12_forms 40 = .ok (.sipush 512, 3) := by decide +kernel
theorem dX12_forms_43 : decode cX12_forms 43 = .ok (.iload_n 2, 1) := by decide +kernel
theorem dX12_forms_44 : decode cX12_forms 44 = .ok (.imul, 1) := by decide +kernel
theorem dX12_forms_45 : decode cX12_forms 45 = .ok (.iload 4, 2) := by decide +kernel
theorem dX12_forms_47 : decode cX12_forms 47 = .ok (.iadd, 1) := by decide +kernel
theorem dX12_forms_48 : decode cX12_forms 48 = .ok (.iconst 0, 1) := by decide +kernel
theorem dX12_forms_49 : decode cX12_forms 49 = .ok (.iastore, 1) := by decide +kernel
theorem dX12_forms_50 : decode cX12_forms 50 = .ok (.iinc 4 1, 3) := by decide +kernel
theorem dX12_forms_53 : decode cX12_forms 53 = .ok (.goto (-25), 3) := by decide +kernel
theorem dX12_forms_56 : decode cX12_forms 56 = .ok (.iload_n 3, 1) := by decide +kernel
theorem dX12_forms_57 : decode cX12_forms 57 = .ok (.bipush 20, 2) := by decide +kernel
theorem dX12_forms_59 : decode cX12_forms 59 = .ok (.if_icmp .ge 17, 3) := by decide +kernel
theorem dX12_forms_62 : decode cX12_forms 62 = .ok (.aload_n 0, 1) := by decide +kernel
theorem dX12_forms_63 : decode cX12_forms 63 = .ok (.getfield 59, 3) := by decide +kernel
theorem dX12_forms_66 : decode cX12_forms 66 = .ok (.sipush 512, 3) := by decide +kernel
theorem dX12_forms_69 : decode cX12_forms 69 = .ok (.iload_n 2, 1) := by decide +kernel
theorem dX12_forms_70 : decode cX12_forms 70 = .ok (.imul, 1) := by decide +kernel
theorem dX12_forms_71 : decode cX12_forms 71 = .ok (.iload_n 3, 1) := by decide +kernel
theorem dX12_forms_72 : decode cX12_forms 72 = .ok (.iastore, 1) := by decide +kernel
theorem dX12_forms_73 : decode cX12_forms 73 = .ok (.goto 137, 3) := by decide +kernel
theorem dX12_forms_76 : decode cX12_forms 76 = .ok (.iload_n 3, 1) := by decide +kernel
theorem dX12_forms_77 : decode cX12_forms 77 = .ok (.bipush 120, 2) := by decide +kernel
theorem dX12_forms_79 : decode cX12_forms 79 = .ok (.if_icmp .ge 41, 3) := by decide +kernel
theorem dX12_forms_82 : decode cX12_forms 82 = .ok (.aload_n 0, 1) := by decide +kernel
theorem dX12_forms_83 : decode cX12_forms 83 = .ok (.getfield 59, 3) := by decide +kernel
theorem dX12_forms_86 : decode cX12_forms 86 = .ok (.sipush 512, 3) := by decide +kernel
theorem dX12_forms_89 : decode cX12_forms 89 = .ok (.iload_n 2, 1) := by decide +kernel
theorem dX12_forms_90 : decode cX12_forms 90 = .ok (.imul, 1) := by decide +kernel
theorem dX12_forms_91 : decode cX12_forms 91 = .ok (.iload_n 3, 1) := by decide +kernel
theorem dX12_forms_92 : decode cX12_forms 92 = .ok (.bipush 30, 2) := by decide +kernel
theorem dX12_forms_94 : decode cX12_forms 94 = .ok (.if_icmp .ne 8, 3) := by decide +kernel
theorem dX12_forms_97 : decode cX12_forms 97 = .ok (.bipush 64, 2) := by decide +kernel
theorem dX12_forms_99 : decode cX12_forms 99 = .ok (.goto 15, 3) := by decide +kernel
theorem dX12_forms_102 : decode cX12_forms 102 = .ok (.iload_n 3, 1) := by decide +kernel
theorem dX12_forms_103 : decode cX12_forms 103 = .ok (.bipush 31, 2) := by decide +kernel
theorem dX12_forms_105 : decode cX12_forms 105 = .ok (.if_icmp .ne 8, 3) := by decide +kernel
theorem dX12_forms_108 : decode cX12_forms 108 = .ok (.bipush 8, 2) := by decide +kernel
theorem dX12_forms_110 : decode cX12_forms 110 = .ok (.goto 4, 3) := by decide +kernel
theorem dX12_forms_113 : decode cX12_forms 113 = .ok (.iconst 1, 1) := by decide +kernel
theorem dX12_forms_114 : decode cX12_forms 114 = .ok (.iadd, 1) := by decide +kernel
theorem dX12_forms_115 : decode cX12_forms 115 = .ok (.iconst 1, 1) := by decide +kernel
theorem dX12_forms_116 : decode cX12_forms 116 = .ok (.iastore, 1) := by decide +kernel
theorem dX12_forms_117 : decode cX12_forms 117 = .ok (.goto 93, 3) := by decide +kernel
theorem dX12_forms_120 : decode cX12_forms 120 = .ok (.aload_n 0, 1) := by decide +kernel
theorem dX12_forms_121 : decode cX12_forms 121 = .ok (.iload_n 1, 1) := by decide +kernel
theorem dX12_forms_122 : decode cX12_forms 122 = .ok (.iload_n 2, 1) := by decide +kernel
theorem dX12_forms_123 : decode cX12_forms 123 = .ok (.invokevirtual 339, 3) := by decide +kernel
theorem dX12_forms_126 : decode cX12_forms 126 = .ok (.aload_n 0, 1) := by decide +kernel
theorem dX12_forms_127 : decode cX12_forms 127 = .ok (.iload_n 1, 1) := by decide +kernel
theorem dX12_forms_128 : decode cX12_forms 128 = .ok (.iload_n 2, 1) := by decide +kernel
theorem dX12_forms_129 : decode cX12_forms 129 = .ok (.iconst 1, 1) := by decide +kernel
theorem dX12_forms_130 : decode cX12_forms 130 = .ok (.iadd, 1) := by decide +kernel
theorem dX12_forms_131 : decode cX12_forms 131 = .ok (.invokevirtual 339, 3) := by decide +kernel
theorem dX12_forms_134 : decode cX12_forms 134 = .ok (.iload_n 3, 1) := by decide +kernel
theorem dX12_forms_135 : decode cX12_forms 135 = .ok (.bipush 122, 2) := by decide +kernel
theorem dX12_forms_137 : decode cX12_forms 137 = .ok (.if_icmp .ge 68, 3) := by decide +kernel
theorem dX12_forms_140 : decode cX12_forms 140 = .ok (.iconst 0, 1) := by decide +kernel
theorem dX12_forms_141 : decode cX12_forms 141 = .ok (.istore 4, 2) := by decide +kernel
theorem dX12_forms_143 : decode cX12_forms 143 = .ok (.iload 4, 2) := by decide +kernel
theorem dX12_forms_145 : decode cX12_forms 145 = .ok (.sipush 512, 3) := by decide +kernel
theorem dX12_forms_148 : decode cX12_forms 148 = .ok (.if_icmp .ge 54, 3) := by decide +kernel
theorem dX12_forms_151 : decode cX12_forms 151 = .ok (.aload_n 0, 1) := by decide +kernel
theorem dX12_forms_152 : decode cX12_forms 152 = .ok (.getfield 59, 3) := by decide +kernel
theorem dX12_forms_155 : decode cX12_forms 155 = .ok (.sipush 512, 3) := by decide +kernel
theorem dX12_forms_158 : decode cX12_forms 158 = .ok (.iload_n 2, 1) := by decide +kernel
theorem dX12_forms_159 : decode cX12_forms 159 = .ok (.imul, 1) := by decide +kernel
theorem dX12_forms_160 : decode cX12_forms 160 = .ok (.iload 4, 2) := by decide +kernel
theorem dX12_forms_162 : decode cX12_forms 162 = .ok (.iadd, 1) := by decide +kernel
theorem dX12_forms_163 : decode cX12_forms 163 = .ok (.iload_n 3, 1) := by decide +kernel
theorem dX12_forms_164 : decode cX12_forms 164 = .ok (.aload_n 0, 1) := by decide +kernel
theorem dX12_forms_165 : decode cX12_forms 165 = .ok (.getfield 59, 3) := by decide +kernel
theorem dX12_forms_168 : decode cX12_forms 168 = .ok (.sipush 512, 3) := by decide +kernel
theorem dX12_forms_171 : decode cX12_forms 171 = .ok (.iload_n 2, 1) := by decide +kernel
theorem dX12_forms_172 : decode cX12_forms 172 = .ok (.imul, 1) := by decide +kernel
theorem dX12_forms_173 : decode cX12_forms 173 = .ok (.iload 4, 2) := by decide +kernel
theorem dX12_forms_175 : decode cX12_forms 175 = .ok (.iadd, 1) := by decide +kernel
theorem dX12_forms_176 : decode cX12_forms 176 = .ok (.iaload, 1) := by decide +kernel
theorem dX12_forms_177 : decode cX12_forms 177 = .ok (.aload_n 0, 1) := by decide +kernel
theorem dX12_forms_178 : decode cX12_forms 178 = .ok (.getfield 59, 3) := by decide +kernel
theorem dX12_forms_181 : decode cX12_forms 181 = .ok (.sipush 512, 3) := by decide +kernel
theorem dX12_forms_184 : decode cX12_forms 184 = .ok (.iload_n 2, 1) := by decide +kernel
theorem dX12_forms_185 : decode cX12_forms 185 = .ok (.iconst 1, 1) := by decide +kernel
theorem dX12_forms_186 : decode cX12_forms 186 = .ok (.iadd, 1) := by decide +kernel
theorem dX12_forms_187 : decode cX12_forms 187 = .ok (.imul, 1) := by decide +kernel
theorem dX12_forms_188 : decode cX12_forms 188 = .ok (.iload 4, 2) := by decide +kernel
theorem dX12_forms_190 : decode cX12_forms 190 = .ok (.iadd, 1) := by decide +kernel
theorem dX12_forms_191 : decode cX12_forms 191 = .ok (.iaload, 1) := by decide +kernel
theorem dX12_forms_192 : decode cX12_forms 192 = .ok (.invokestatic 287, 3) := by decide +kernel
theorem dX12_forms_195 : decode cX12_forms 195 = .ok (.iastore, 1) := by decide +kernel
theorem dX12_forms_196 : decode cX12_forms 196 = .ok (.iinc 4 1, 3) := by decide +kernel
theorem dX12_forms_199 : decode cX12_forms 199 = .ok (.goto (-56), 3) := by decide +kernel
theorem dX12_forms_202 : decode cX12_forms 202 = .ok (.goto 8, 3) := by decide +kernel
theorem dX12_forms_205 : decode cX12_forms 205 = .ok (.aload_n 0, 1) := by decide +kernel
theorem dX12_forms_206 : decode cX12_forms 206 = .ok (.iload_n 2, 1) := by decide +kernel
theorem dX12_forms_207 : decode cX12_forms 207 = .ok (.invokevirtual 342, 3) := by decide +kernel
theorem dX12_forms_210 : decode cX12_forms 210 = .ok (.return_, 1) := by decide +kernel
theorem dX12_hastyCopy_0 : decode cX12_hastyCopy 0 = .ok (.iconst 0, 1) := by decide +kernel
theorem dX12_hastyCopy_1 : decode cX12_hastyCopy 1 = .ok (.istore_n 1, 1) := by decide +kernel
theorem dX12_hastyCopy_2 : decode cX12_hastyCopy 2 = .ok (.iload_n 1, 1) := by decide +kernel
theorem dX12_hastyCopy_3 : decode cX12_hastyCopy 3 = .ok (.aload_n 0, 1) := by decide +kernel
theorem dX12_hastyCopy_4 : decode cX12_hastyCopy 4 = .ok (.getfield 98, 3) := by decide +kernel
theorem dX12_hastyCopy_7 : decode cX12_hastyCopy 7 = .ok (.if_icmp .ge 80, 3) := by decide +kernel
theorem dX12_hastyCopy_10 : decode cX12_hastyCopy 10 = .ok (.aload_n 0, 1) := by decide +kernel
theorem dX12_hastyCopy_11 : decode cX12_hastyCopy 11 = .ok (.getfield 16, 3) := by decide +kernel
theorem dX12_hastyCopy_14 : decode cX12_hastyCopy 14 = .ok (.iload_n 1, 1) := by decide +kernel
theorem dX12_hastyCopy_15 : decode cX12_hastyCopy 15 = .ok (.iaload, 1) := by decide +kernel
theorem dX12_hastyCopy_16 : decode cX12_hastyCopy 16 = .ok (.bipush 100, 2) := by decide +kernel
theorem dX12_hastyCopy_18 : decode cX12_hastyCopy 18 = .ok (.bipush 105, 2) := by decide +kernel
theorem dX12_hastyCopy_20 : decode cX12_hastyCopy 20 = .ok (.invokestatic 90, 3) := by decide +kernel
theorem dX12_hastyCopy_23 : decode cX12_hastyCopy 23 = .ok (.ifCond .eq 58, 3) := by decide +kernel
theorem dX12_hastyCopy_26 : decode cX12_hastyCopy 26 = .ok (.aload_n 0, 1) := by decide +kernel
theorem dX12_hastyCopy_27 : decode cX12_hastyCopy 27 = .ok (.getfield 16, 3) := by decide +kernel
theorem dX12_hastyCopy_30 : decode cX12_hastyCopy 30 = .ok (.iload_n 1, 1) := by decide +kernel
theorem dX12_hastyCopy_31 : decode cX12_hastyCopy 31 = .ok (.iconst 1, 1) := by decide +kernel
theorem dX12_hastyCopy_32 : decode cX12_hastyCopy 32 = .ok (.iadd, 1) := by decide +kernel
theorem dX12_hastyCopy_33 : decode cX12_hastyCopy 33 = .ok (.iaload, 1) := by decide +kernel
theorem dX12_hastyCopy_34 : decode cX12_hastyCopy 34 = .ok (.bipush 20, 2) := by decide +kernel
theorem dX12_hastyCopy_36 : decode cX12_hastyCopy 36 = .ok (.bipush 25, 2) := by decide +kernel
theorem dX12_hastyCopy_38 : decode cX12_hastyCopy 38 = .ok (.invokestatic 90, 3) := by decide +kernel
theorem dX12_hastyCopy_41 : decode cX12_hastyCopy 41 = .ok (.ifCond .ne 6, 3) := by decide +kernel
theorem dX12_hastyCopy_44 : decode cX12_hastyCopy 44 = .ok (.goto 37, 3) := by decide +kernel
theorem dX12_hastyCopy_47 : decode cX12_hastyCopy 47 = .ok (.aload_n 0, 1) := by decide +kernel
theorem dX12_hastyCopy_48 : decode cX12_hastyCopy 48 = .ok (.getfield 16, 3) := by decide +kernel
theorem dX12_hastyCopy_51 : decode cX12_hastyCopy 51 = .ok (.iload_n 1, 1) := by decide +kernel
theorem dX12_hastyCopy_52 : decode cX12_hastyCopy 52 = .ok (.iaload, 1) := by decide +kernel
theorem dX12_hastyCopy_53 : decode cX12_hastyCopy 53 = .ok (.bipush 100, 2) := by decide +kernel
theorem dX12_hastyCopy_55 : decode cX12_hastyCopy 55 = .ok (.isub, 1) := by decide +kernel
theorem dX12_hastyCopy_56 : decode cX12_hastyCopy 56 = .ok (.istore_n 2, 1) := by decide +kernel
theorem dX12_hastyCopy_57 : decode cX12_hastyCopy 57 = .ok (.aload_n 0, 1) := by decide +kernel
theorem dX12_hastyCopy_58 : decode cX12_hastyCopy 58 = .ok (.getfield 16, 3) := by decide +kernel
theorem dX12_hastyCopy_61 : decode cX12_hastyCopy 61 = .ok (.iload_n 1, 1) := by decide +kernel
theorem dX12_hastyCopy_62 : decode cX12_hastyCopy 62 = .ok (.iconst 1, 1) := by decide +kernel
theorem dX12_hastyCopy_63 : decode cX12_hastyCopy 63 = .ok (.iadd, 1) := by decide +kernel
theorem dX12_hastyCopy_64 : decode cX12_hastyCopy 64 = .ok (.iaload, 1) := by decide +kernel
theorem dX12_hastyCopy_65 : decode cX12_hastyCopy 65 = .ok (.bipush 20, 2) := by decide +kernel
theorem dX12_hastyCopy_67 : decode cX12_hastyCopy 67 = .ok (.isub, 1) := by decide +kernel
theorem dX12_hastyCopy_68 : decode cX12_hastyCopy 68 = .ok (.istore_n 3, 1) := by decide +kernel
theorem dX12_hastyCopy_69 : decode cX12_hastyCopy 69 = .ok (.iload_n 2, 1) := by decide +kernel
theorem dX12_hastyCopy_70 : decode cX12_hastyCopy 70 = .ok (.iload_n 3, 1) := by decide +kernel
theorem dX12_hastyCopy_71 : decode cX12_hastyCopy 71 = .ok (.if_icmp .eq 10, 3) := by decide +kernel
theorem dX12_hastyCopy_74 : decode cX12_hastyCopy 74 = .ok (.aload_n 0, 1) := by decide +kernel
theorem dX12_hastyCopy_75 : decode cX12_hastyCopy 75 = .ok (.iload_n 1, 1) := by decide +kernel
theorem dX12_hastyCopy_76 : decode cX12_hastyCopy 76 = .ok (.iload_n 2, 1) := by decide +kernel
theorem dX12_hastyCopy_77 : decode cX12_hastyCopy 77 = .ok (.iload_n 3, 1) := by decide +kernel
theorem dX12_hastyCopy_78 : decode cX12_hastyCopy 78 = .ok (.invokevirtual 416, 3) := by decide +kernel
theorem dX12_hastyCopy_81 : decode cX12_hastyCopy 81 = .ok (.iinc 1 1, 3) := by decide +kernel
theorem dX12_hastyCopy_84 : decode cX12_hastyCopy 84 = .ok (.goto (-82), 3) := by decide +kernel
theorem dX12_hastyCopy_87 : decode cX12_hastyCopy 87 = .ok (.return_, 1) := by decide +kernel
theorem dX12_inRow_0 : decode cX12_inRow 0 = .ok (.aload_n 0, 1) := by decide +kernel
theorem dX12_inRow_1 : decode cX12_inRow 1 = .ok (.iconst 0, 1) := by decide +kernel
theorem dX12_inRow_2 : decode cX12_inRow 2 = .ok (.aload_n 0, 1) := by decide +kernel
theorem dX12_inRow_3 : decode cX12_inRow 3 = .ok (.getfield 98, 3) := by decide +kernel
theorem dX12_inRow_6 : decode cX12_inRow 6 = .ok (.invokevirtual 379, 3) := by decide +kernel
theorem dX12_inRow_9 : decode cX12_inRow 9 = .ok (.istore_n 1, 1) := by decide +kernel
theorem dX12_inRow_10 : decode cX12_inRow 10 = .ok (.iconst 0, 1) := by decide +kernel
theorem dX12_inRow_11 : decode cX12_inRow 11 = .ok (.istore_n 2, 1) := by decide +kernel
theorem dX12_inRow_12 : decode cX12_inRow 12 = .ok (.iload_n 2, 1) := by decide +kernel
theorem dX12_inRow_13 : decode cX12_inRow 13 = .ok (.bipush 6, 2) := by decide +kernel
theorem dX12_inRow_15 : decode cX12_inRow 15 = .ok (.if_icmp .ge 32, 3) := by decide +kernel
theorem dX12_inRow_18 : decode cX12_inRow 18 = .ok (.iload_n 1, 1) := by decide +kernel
theorem dX12_inRow_19 : decode cX12_inRow 19 = .ok (.aload_n 0, 1) := by decide +kernel
theorem dX12_inRow_20 : decode cX12_inRow 20 = .ok (.iconst 0, 1) := by decide +kernel
theorem dX12_inRow_21 : decode cX12_inRow 21 = .ok (.aload_n 0, 1) := by decide +kernel
theorem dX12_inRow_22 : decode cX12_inRow 22 = .ok (.getfield 98, 3) := by decide +kernel
theorem dX12_inRow_25 : decode cX12_inRow 25 = .ok (.iload_n 2, 1) := by decide +kernel
theorem dX12_inRow_26 : decode cX12_inRow 26 = .ok (.invokevirtual 409, 3) := by decide +kernel
theorem dX12_inRow_29 : decode cX12_inRow 29 = .ok (.ifCond .eq 9, 3) := by decide +kernel
theorem dX12_inRow_32 : decode cX12_inRow 32 = .ok (.iconst 1, 1) := by decide +kernel
theorem dX12_inRow_33 : decode cX12_inRow 33 = .ok (.iload_n 2, 1) := by decide +kernel
theorem dX12_inRow_34 : decode cX12_inRow 34 = .ok (.ishl, 1) := by decide +kernel
theorem dX12_inRow_35 : decode cX12_inRow 35 = .ok (.goto 4, 3) := by decide +kernel
theorem dX12_inRow_38 : decode cX12_inRow 38 = .ok (.iconst 0, 1) := by decide +kernel
theorem dX12_inRow_39 : decode cX12_inRow 39 = .ok (.ior, 1) := by decide +kernel
theorem dX12_inRow_40 : decode cX12_inRow 40 = .ok (.istore_n 1, 1) := by decide +kernel
theorem dX12_inRow_41 : decode cX12_inRow 41 = .ok (.iinc 2 1, 3) := by decide +kernel
theorem dX12_inRow_44 : decode cX12_inRow 44 = .ok (.goto (-32), 3) := by decide +kernel
theorem dX12_inRow_47 : decode cX12_inRow 47 = .ok (.iload_n 1, 1) := by decide +kernel
theorem dX12_inRow_48 : decode cX12_inRow 48 = .ok (.ireturn, 1) := by decide +kernel
theorem dX12_is_0 : decode cX12_is 0 = .ok (.aload_n 0, 1) := by decide +kernel
theorem dX12_is_1 : decode cX12_is 1 = .ok (.getfield 127, 3) := by decide +kernel
theorem dX12_is_4 : decode cX12_is 4 = .ok (.aload_n 0, 1) := by decide +kernel
theorem dX12_is_5 : decode cX12_is 5 = .ok (.getfield 130, 3) := by decide +kernel
theorem dX12_is_8 : decode cX12_is 8 = .ok (.isub, 1) := by decide +kernel
theorem dX12_is_9 : decode cX12_is 9 = .ok (.aload_n 1, 1) := by decide +kernel
theorem dX12_is_10 : decode cX12_is 10 = .ok (.invokevirtual 133, 3) := by decide +kernel
theorem dX12_is_13 : decode cX12_is 13 = .ok (.if_icmp .ne 7, 3) := by decide +kernel
theorem dX12_is_16 : decode cX12_is 16 = .ok (.iconst 1, 1) := by decide +kernel
theorem dX12_is_17 : decode cX12_is 17 = .ok (.goto 4, 3) := by decide +kernel
theorem dX12_is_20 : decode cX12_is 20 = .ok (.iconst 0, 1) := by decide +kernel
theorem dX12_is_21 : decode cX12_is 21 = .ok (.istore_n 2, 1) := by decide +kernel
theorem dX12_is_22 : decode cX12_is 22 = .ok (.iconst 0, 1) := by decide +kernel
theorem dX12_is_23 : decode cX12_is 23 = .ok (.istore_n 3, 1) := by decide +kernel
theorem dX12_is_24 : decode cX12_is 24 = .ok (.iload_n 3, 1) := by decide +kernel
theorem dX12_is_25 : decode cX12_is 25 = .ok (.aload_n 1, 1) := by decide +kernel
theorem dX12_is_26 : decode cX12_is 26 = .ok (.invokevirtual 133, 3) := by decide +kernel
theorem dX12_is_29 : decode cX12_is 29 = .ok (.if_icmp .ge 38, 3) := by decide +kernel
theorem dX12_is_32 : decode cX12_is 32 = .ok (.iload_n 2, 1) := by decide +kernel
theorem dX12_is_33 : decode cX12_is 33 = .ok (.ifCond .eq 34, 3) := by decide +kernel
theorem dX12_is_36 : decode cX12_is 36 = .ok (.aload_n 0, 1) := by decide +kernel
theorem dX12_is_37 : decode cX12_is 37 = .ok (.getfield 22, 3) := by decide +kernel
theorem dX12_is_40 : decode cX12_is 40 = .ok (.aload_n 0, 1) := by decide +kernel
theorem dX12_is_41 : decode cX12_is 41 = .ok (.getfield 130, 3) := by decide +kernel
theorem dX12_is_44 : decode cX12_is 44 = .ok (.iload_n 3, 1) := by decide +kernel
theorem dX12_is_45 : decode cX12_is 45 = .ok (.iadd, 1) := by decide +kernel
theorem dX12_is_46 : decode cX12_is 46 = .ok (.iaload, 1) := by decide +kernel
theorem dX12_is_47 : decode cX12_is 47 = .ok (.aload_n 1, 1) := by decide +kernel
theorem dX12_is_48 : decode cX12_is 48 = .ok (.iload_n 3, 1) := by decide +kernel
theorem dX12_is_49 : decode cX12_is 49 = .ok (.invokevirtual 139, 3) := by decide +kernel
theorem dX12_is_52 : decode cX12_is 52 = .ok (.if_icmp .ne 7, 3) := by decide +kernel
theorem dX12_is_55 : decode cX12_is 55 = .ok (.iconst 1, 1) := by decide +kernel
theorem dX12_is_56 : decode cX12_is 56 = .ok (.goto 4, 3) := by decide +kernel
theorem dX12_is_59 : decode cX12_is 59 = .ok (.iconst 0, 1) := by decide +kernel
theorem dX12_is_60 : decode cX12_is 60 = .ok (.istore_n 2, 1) := by decide +kernel
theorem dX12_is_61 : decode cX12_is 61 = .ok (.iinc 3 1, 3) := by decide +kernel
theorem dX12_is_64 : decode cX12_is 64 = .ok (.goto (-40), 3) := by decide +kernel
theorem dX12_is_67 : decode cX12_is 67 = .ok (.iload_n 2, 1) := by decide +kernel
theorem dX12_is_68 : decode cX12_is 68 = .ok (.ireturn, 1) := by decide +kernel
theorem dX12_isAlike_0 : decode cX12_isAlike 0 = .ok (.aload_n 0, 1) := by decide +kernel
theorem dX12_isAlike_1 : decode cX12_isAlike 1 = .ok (.iconst 0, 1) := by decide +kernel
theorem dX12_isAlike_2 : decode cX12_isAlike 2 = .ok (.putfield 281, 3) := by decide +kernel
theorem dX12_isAlike_5 : decode cX12_isAlike 5 = .ok (.aload_n 0, 1) := by decide +kernel
theorem dX12_isAlike_6 : decode cX12_isAlike 6 = .ok (.iload_n 1, 1) := by decide +kernel
theorem dX12_isAlike_7 : decode cX12_isAlike 7 = .ok (.invokevirtual 336, 3) := by decide +kernel
theorem dX12_isAlike_10 : decode cX12_isAlike 10 = .ok (.istore_n 2, 1) := by decide +kernel
theorem dX12_isAlike_11 : decode cX12_isAlike 11 = .ok (.iload_n 2, 1) := by decide +kernel
theorem dX12_isAlike_12 : decode cX12_isAlike 12 = .ok (.aload_n 0, 1) := by decide +kernel
theorem dX12_isAlike_13 : decode cX12_isAlike 13 = .ok (.iload_n 1, 1) := by decide +kernel
theorem dX12_isAlike_14 : decode cX12_isAlike 14 = .ok (.invokevirtual 336, 3) := by decide +kernel
theorem dX12_isAlike_17 : decode cX12_isAlike 17 = .ok (.if_icmp .ne 7, 3) := by decide +kernel
theorem dX12_isAlike_20 : decode cX12_isAlike 20 = .ok (.iconst 1, 1) := by decide +kernel
theorem dX12_isAlike_21 : decode cX12_isAlike 21 = .ok (.goto 4, 3) := by decide +kernel
theorem dX12_isAlike_24 : decode cX12_isAlike 24 = .ok (.iconst 0, 1) := by decide +kernel
theorem dX12_isAlike_25 : decode cX12_isAlike 25 = .ok (.ireturn, 1) := by decide +kernel
theorem dX12_isDigit_0 : decode cX12_isDigit 0 = .ok (.iload_n 0, 1) := by decide +kernel
theorem dX12_isDigit_1 : decode cX12_isDigit 1 = .ok (.bipush 48, 2) := by decide +kernel
theorem dX12_isDigit_3 : decode cX12_isDigit 3 = .ok (.bipush 57, 2) := by decide +kernel
theorem dX12_isDigit_5 : decode cX12_isDigit 5 = .ok (.invokestatic 90, 3) := by decide +kernel
theorem dX12_isDigit_8 : decode cX12_isDigit 8 = .ok (.ireturn, 1) := by decide +kernel
theorem dX12_isIn_0 : decode cX12_isIn 0 = .ok (.iload_n 0, 1) := by decide +kernel
theorem dX12_isIn_1 : decode cX12_isIn 1 = .ok (.iload_n 1, 1) := by decide +kernel
theorem dX12_isIn_2 : decode cX12_isIn 2 = .ok (.if_icmp .lt 12, 3) := by decide +kernel
theorem dX12_isIn_5 : decode cX12_isIn 5 = .ok (.iload_n 0, 1) := by decide +kernel
theorem dX12_isIn_6 : decode cX12_isIn 6 = .ok (.iload_n 2, 1) := by decide +kernel
theorem dX12_isIn_7 : decode cX12_isIn 7 = .ok (.if_icmp .gt 7, 3) := by decide +kernel
theorem dX12_isIn_10 : decode cX12_isIn 10 = .ok (.iconst 1, 1) := by decide +kernel
theorem dX12_isIn_11 : decode cX12_isIn 11 = .ok (.goto 4, 3) := by decide +kernel
theorem dX12_isIn_14 : decode cX12_isIn 14 = .ok (.iconst 0, 1) := by decide +kernel
theorem dX12_isIn_15 : decode cX12_isIn 15 = .ok (.ireturn, 1) := by decide +kernel
theorem dX12_isLast_0 : decode cX12_isLast 0 = .ok (.iload_n 1, 1) := by decide +kernel
theorem dX12_isLast_1 : decode cX12_isLast 1 = .ok (.aload_n 0, 1) := by decide +kernel
theorem dX12_isLast_2 : decode cX12_isLast 2 = .ok (.getfield 98, 3) := by decide +kernel
theorem dX12_isLast_5 : decode cX12_isLast 5 = .ok (.if_icmp .eq 25, 3) := by decide +kernel
theorem dX12_isLast_8 : decode cX12_isLast 8 = .ok (.aload_n 0, 1) := by decide +kernel
theorem dX12_isLast_9 : decode cX12_isLast 9 = .ok (.getfield 16, 3) := by decide +kernel
theorem dX12_isLast_12 : decode cX12_isLast 12 = .ok (.iload_n 1, 1) := by decide +kernel
theorem dX12_isLast_13 : decode cX12_isLast 13 = .ok (.iaload, 1) := by decide +kernel
theorem dX12_isLast_14 : decode cX12_isLast 14 = .ok (.bipush 113, 2) := by decide +kernel
theorem dX12_isLast_16 : decode cX12_isLast 16 = .ok (.if_icmp .eq 14, 3) := by decide +kernel
theorem dX12_isLast_19 : decode cX12_isLast 19 = .ok (.aload_n 0, 1) := by decide +kernel
theorem dX12_isLast_20 : decode cX12_isLast 20 = .ok (.getfield 16, 3) := by decide +kernel
theorem dX12_isLast_23 : decode cX12_isLast 23 = .ok (.iload_n 1, 1) := by decide +kernel
theorem dX12_isLast_24 : decode cX12_isLast 24 = .ok (.iaload, 1) := by decide +kernel
theorem dX12_isLast_25 : decode cX12_isLast 25 = .ok (.bipush 114, 2) := by decide +kernel
theorem dX12_isLast_27 : decode cX12_isLast 27 = .ok (.if_icmp .ne 7, 3) := by decide +kernel
theorem dX12_isLast_30 : decode cX12_isLast 30 = .ok (.iconst 1, 1) := by decide +kernel
theorem dX12_isLast_31 : decode cX12_isLast 31 = .ok (.goto 4, 3) := by decide +kernel
theorem dX12_isLast_34 : decode cX12_isLast 34 = .ok (.iconst 0, 1) := by decide +kernel
theorem dX12_isLast_35 : decode cX12_isLast 35 = .ok (.ireturn, 1) := by decide +kernel
theorem dX12_isLetter_0 : decode cX12_isLetter 0 = .ok (.iload_n 0, 1) := by decide +kernel
theorem dX12_isLetter_1 : decode cX12_isLetter 1 = .ok (.bipush 97, 2) := by decide +kernel
theorem dX12_isLetter_3 : decode cX12_isLetter 3 = .ok (.bipush 122, 2) := by decide +kernel
theorem dX12_isLetter_5 : decode cX12_isLetter 5 = .ok (.invokestatic 90, 3) := by decide +kernel
theorem dX12_isLetter_8 : decode cX12_isLetter 8 = .ok (.ifCond .ne 14, 3) := by decide +kernel
theorem dX12_isLetter_11 : decode cX12_isLetter 11 = .ok (.iload_n 0, 1) := by decide +kernel
theorem dX12_isLetter_12 : decode cX12_isLetter 12 = .ok (.bipush 65, 2) := by decide +kernel
theorem dX12_isLetter_14 : decode cX12_isLetter 14 = .ok (.bipush 90, 2) := by decide +kernel
theorem dX12_isLetter_16 : decode cX12_isLetter 16 = .ok (.invokestatic 90, 3) := by decide +kernel
theorem dX12_isLetter_19 : decode cX12_isLetter 19 = .ok (.ifCond .eq 7, 3) := by decide +kernel
theorem dX12_isLetter_22 : decode cX12_isLetter 22 = .ok (.iconst 1, 1) := by decide +kernel
theorem dX12_isLetter_23 : decode cX12_isLetter 23 = .ok (.goto 4, 3) := by decide +kernel
theorem dX12_isLetter_26 : decode cX12_isLetter 26 = .ok (.iconst 0, 1) := by decide +kernel
theorem dX12_isLetter_27 : decode cX12_isLetter 27 = .ok (.ireturn, 1) := by decide +kernel
theorem dX12_isPart_0 : decode cX12_isPart 0 = .ok (.iload_n 1, 1) := by decide +kernel
theorem dX12_isPart_1 : decode cX12_isPart 1 = .ok (.iconst 0, 1) := by decide +kernel
theorem dX12_isPart_2 : decode cX12_isPart 2 = .ok (.bipush 15, 2) := by decide +kernel
theorem dX12_isPart_4 : decode cX12_isPart 4 = .ok (.invokestatic 90, 3) := by decide +kernel
theorem dX12_isPart_7 : decode cX12_isPart 7 = .ok (.ifCond .ne 25, 3) := by decide +kernel
theorem dX12_isPart_10 : decode cX12_isPart 10 = .ok (.iload_n 1, 1) := by decide +kernel
theorem dX12_isPart_11 : decode cX12_isPart 11 = .ok (.bipush 20, 2) := by decide +kernel
theorem dX12_isPart_13 : decode cX12_isPart 13 = .ok (.bipush 25, 2) := by decide +kernel
theorem dX12_isPart_15 : decode cX12_isPart 15 = .ok (.invokestatic 90, 3) := by decide +kernel
theorem dX12_isPart_18 : decode cX12_isPart 18 = .ok (.ifCond .ne 14, 3) := by decide +kernel
theorem dX12_isPart_21 : decode cX12_isPart 21 = .ok (.iload_n 1, 1) := by decide +kernel
theorem dX12_isPart_22 : decode cX12_isPart 22 = .ok (.bipush 120, 2) := by decide +kernel
theorem dX12_isPart_24 : decode cX12_isPart 24 = .ok (.bipush 122, 2) := by decide +kernel
theorem dX12_isPart_26 : decode cX12_isPart 26 = .ok (.invokestatic 90, 3) := by decide +kernel
theorem dX12_isPart_29 : decode cX12_isPart 29 = .ok (.ifCond .eq 7, 3) := by decide +kernel
theorem dX12_isPart_32 : decode cX12_isPart 32 = .ok (.iconst 1, 1) := by decide +kernel
theorem dX12_isPart_33 : decode cX12_isPart 33 = .ok (.goto 4, 3) := by decide +kernel
theorem dX12_isPart_36 : decode cX12_isPart 36 = .ok (.iconst 0, 1) := by decide +kernel
theorem dX12_isPart_37 : decode cX12_isPart 37 = .ok (.ireturn, 1) := by decide +kernel
theorem dX12_isPass_0 : decode cX12_isPass 0 = .ok (.iload_n 0, 1) := by decide +kernel
theorem dX12_isPass_1 : decode cX12_isPass 1 = .ok (.iconst 0, 1) := by decide +kernel
theorem dX12_isPass_2 : decode cX12_isPass 2 = .ok (.iconst 5, 1) := by decide +kernel
theorem dX12_isPass_3 : decode cX12_isPass 3 = .ok (.invokestatic 90, 3) := by decide +kernel
theorem dX12_isPass_6 : decode cX12_isPass 6 = .ok (.ireturn, 1) := by decide +kernel
theorem dX12_isSlot_0 : decode cX12_isSlot 0 = .ok (.iload_n 0, 1) := by decide +kernel
theorem dX12_isSlot_1 : decode cX12_isSlot 1 = .ok (.iconst 0, 1) := by decide +kernel
theorem dX12_isSlot_2 : decode cX12_isSlot 2 = .ok (.iconst 5, 1) := by decide +kernel
theorem dX12_isSlot_3 : decode cX12_isSlot 3 = .ok (.invokestatic 90, 3) := by decide +kernel
theorem dX12_isSlot_6 : decode cX12_isSlot 6 = .ok (.ireturn, 1) := by decide +kernel
theorem dX12_isSmall_0 : decode cX12_isSmall 0 = .ok (.aload_n 0, 1) := by decide +kernel
theorem dX12_isSmall_1 : decode cX12_isSmall 1 = .ok (.invokevirtual 265, 3) := by decide +kernel
theorem dX12_isSmall_4 : decode cX12_isSmall 4 = .ok (.bipush 40, 2) := by decide +kernel
theorem dX12_isSmall_6 : decode cX12_isSmall 6 = .ok (.if_icmp .gt 17, 3) := by decide +kernel
theorem dX12_isSmall_9 : decode cX12_isSmall 9 = .ok (.aload_n 0, 1) := by decide +kernel
theorem dX12_isSmall_10 : decode cX12_isSmall 10 = .ok (.invokevirtual 274, 3) := by decide +kernel
theorem dX12_isSmall_13 : decode cX12_isSmall 13 = .ok (.sipush 300, 3) := by decide +kernel
theorem dX12_isSmall_16 : decode cX12_isSmall 16 = .ok (.if_icmp .gt 7, 3) := by decide +kernel
theorem dX12_isSmall_19 : decode cX12_isSmall 19 = .ok (.iconst 1, 1) := by decide +kernel
theorem dX12_isSmall_20 : decode cX12_isSmall 20 = .ok (.goto 4, 3) := by decide +kernel
theorem dX12_isSmall_23 : decode cX12_isSmall 23 = .ok (.iconst 0, 1) := by decide +kernel
theorem dX12_isSmall_24 : decode cX12_isSmall 24 = .ok (.ireturn, 1) := by decide +kernel
theorem dX12_isSo_0 : decode cX12_isSo 0 = .ok (.aload_n 0, 1) := by decide +kernel
theorem dX12_isSo_1 : decode cX12_isSo 1 = .ok (.iload_n 1, 1) := by decide +kernel
theorem dX12_isSo_2 : decode cX12_isSo 2 = .ok (.iconst 2, 1) := by decide +kernel
theorem dX12_isSo_3 : decode cX12_isSo 3 = .ok (.iadd, 1) := by decide +kernel
theorem dX12_isSo_4 : decode cX12_isSo 4 = .ok (.putfield 281, 3) := by decide +kernel
theorem dX12_isSo_7 : decode cX12_isSo 7 = .ok (.aload_n 0, 1) := by decide +kernel
theorem dX12_isSo_8 : decode cX12_isSo 8 = .ok (.invokevirtual 284, 3) := by decide +kernel
theorem dX12_isSo_11 : decode cX12_isSo 11 = .ok (.istore_n 2, 1) := by decide +kernel
theorem dX12_isSo_12 : decode cX12_isSo 12 = .ok (.aload_n 0, 1) := by decide +kernel
theorem dX12_isSo_13 : decode cX12_isSo 13 = .ok (.invokevirtual 284, 3) := by decide +kernel
theorem dX12_isSo_16 : decode cX12_isSo 16 = .ok (.istore_n 3, 1) := by decide +kernel
theorem dX12_isSo_17 : decode cX12_isSo 17 = .ok (.aload_n 0, 1) := by decide +kernel
theorem dX12_isSo_18 : decode cX12_isSo 18 = .ok (.getfield 16, 3) := by decide +kernel
theorem dX12_isSo_21 : decode cX12_isSo 21 = .ok (.iload_n 1, 1) := by decide +kernel
theorem dX12_isSo_22 : decode cX12_isSo 22 = .ok (.iconst 1, 1) := by decide +kernel
theorem dX12_isSo_23 : decode cX12_isSo 23 = .ok (.iadd, 1) := by decide +kernel
theorem dX12_isSo_24 : decode cX12_isSo 24 = .ok (.iaload, 1) := by decide +kernel
theorem dX12_isSo_25 : decode cX12_isSo 25 = .ok (.istore 4, 2) := by decide +kernel
theorem dX12_isSo_27 : decode cX12_isSo 27 = .ok (.iload 4, 2) := by decide +kernel
theorem dX12_isSo_29 : decode cX12_isSo 29 = .ok (.sipush 130, 3) := by decide +kernel
theorem dX12_isSo_32 : decode cX12_isSo 32 = .ok (.if_icmp .ne 16, 3) := by decide +kernel
theorem dX12_isSo_35 : decode cX12_isSo 35 = .ok (.iload_n 2, 1) := by decide +kernel
theorem dX12_isSo_36 : decode cX12_isSo 36 = .ok (.iload_n 3, 1) := by decide +kernel
theorem dX12_isSo_37 : decode cX12_isSo 37 = .ok (.if_icmp .ge 7, 3) := by decide +kernel
theorem dX12_isSo_40 : decode cX12_isSo 40 = .ok (.iconst 1, 1) := by decide +kernel
theorem dX12_isSo_41 : decode cX12_isSo 41 = .ok (.goto 38, 3) := by decide +kernel
theorem dX12_isSo_44 : decode cX12_isSo 44 = .ok (.iconst 0, 1) := by decide +kernel
theorem dX12_isSo_45 : decode cX12_isSo 45 = .ok (.goto 34, 3) := by decide +kernel
theorem dX12_isSo_48 : decode cX12_isSo 48 = .ok (.iload 4, 2) := by decide +kernel
theorem dX12_isSo_50 : decode cX12_isSo 50 = .ok (.sipush 131, 3) := by decide +kernel
theorem dX12_isSo_53 : decode cX12_isSo 53 = .ok (.if_icmp .ne 16, 3) := by decide +kernel
theorem dX12_isSo_56 : decode cX12_isSo 56 = .ok (.iload_n 2, 1) := by decide +kernel
theorem dX12_isSo_57 : decode cX12_isSo 57 = .ok (.iload_n 3, 1) := by decide +kernel
theorem dX12_isSo_58 : decode cX12_isSo 58 = .ok (.if_icmp .ne 7, 3) := by decide +kernel
theorem dX12_isSo_61 : decode cX12_isSo 61 = .ok (.iconst 1, 1) := by decide +kernel
theorem dX12_isSo_62 : decode cX12_isSo 62 = .ok (.goto 17, 3) := by decide +kernel
theorem dX12_isSo_65 : decode cX12_isSo 65 = .ok (.iconst 0, 1) := by decide +kernel
theorem dX12_isSo_66 : decode cX12_isSo 66 = .ok (.goto 13, 3) := by decide +kernel
theorem dX12_isSo_69 : decode cX12_isSo 69 = .ok (.iload_n 2, 1) := by decide +kernel
theorem dX12_isSo_70 : decode cX12_isSo 70 = .ok (.iload_n 3, 1) := by decide +kernel
theorem dX12_isSo_71 : decode cX12_isSo 71 = .ok (.if_icmp .le 7, 3) := by decide +kernel
theorem dX12_isSo_74 : decode cX12_isSo 74 = .ok (.iconst 1, 1) := by decide +kernel
theorem dX12_isSo_75 : decode cX12_isSo 75 = .ok (.goto 4, 3) := by decide +kernel
theorem dX12_isSo_78 : decode cX12_isSo 78 = .ok (.iconst 0, 1) := by decide +kernel
theorem dX12_isSo_79 : decode cX12_isSo 79 = .ok (.ireturn, 1) := by decide +kernel
theorem dX12_isStatement_0 : decode cX12_isStatement 0 = .ok (.iload_n 0, 1) := by decide +kernel
theorem dX12_isStatement_1 : decode cX12_isStatement 1 = .ok (.bipush 100, 2) := by decide +kernel
theorem dX12_isStatement_3 : decode cX12_isStatement 3 = .ok (.bipush 105, 2) := by decide +kernel
theorem dX12_isStatement_5 : decode cX12_isStatement 5 = .ok (.invokestatic 90, 3) := by decide +kernel
theorem dX12_isStatement_8 : decode cX12_isStatement 8 = .ok (.ifCond .ne 27, 3) := by decide +kernel
theorem dX12_isStatement_11 : decode cX12_isStatement 11 = .ok (.iload_n 0, 1) := by decide +kernel
theorem dX12_isStatement_12 : decode cX12_isStatement 12 = .ok (.bipush 110, 2) := by decide +kernel
theorem dX12_isStatement_14 : decode cX12_isStatement 14 = .ok (.if_icmp .eq 21, 3) := by decide +kernel
theorem dX12_isStatement_17 : decode cX12_isStatement 17 = .ok (.iload_n 0, 1) := by decide +kernel
theorem dX12_isStatement_18 : decode cX12_isStatement 18 = .ok (.bipush 111, 2) := by decide +kernel
theorem dX12_isStatement_20 : decode cX12_isStatement 20 = .ok (.if_icmp .eq 15, 3) := by decide +kernel
theorem dX12_isStatement_23 : decode cX12_isStatement 23 = .ok (.iload_n 0, 1) := by decide +kernel
theorem dX12_isStatement_24 : decode cX12_isStatement 24 = .ok (.bipush 112, 2) := by decide +kernel
theorem dX12_isStatement_26 : decode cX12_isStatement 26 = .ok (.if_icmp .eq 9, 3) := by decide +kernel
theorem dX12_isStatement_29 : decode cX12_isStatement 29 = .ok (.iload_n 0, 1) := by decide +kernel
theorem dX12_isStatement_30 : decode cX12_isStatement 30 = .ok (.bipush 115, 2) := by decide +kernel
theorem dX12_isStatement_32 : decode cX12_isStatement 32 = .ok (.if_icmp .ne 7, 3) := by decide +kernel
theorem dX12_isStatement_35 : decode cX12_isStatement 35 = .ok (.iconst 1, 1) := by decide +kernel
theorem dX12_isStatement_36 : decode cX12_isStatement 36 = .ok (.goto 4, 3) := by decide +kernel
theorem dX12_isStatement_39 : decode cX12_isStatement 39 = .ok (.iconst 0, 1) := by decide +kernel
theorem dX12_isStatement_40 : decode cX12_isStatement 40 = .ok (.ireturn, 1) := by decide +kernel
theorem dX12_isWrong_0 : decode cX12_isWrong 0 = .ok (.aload_n 0, 1) := by decide +kernel
theorem dX12_isWrong_1 : decode cX12_isWrong 1 = .ok (.invokevirtual 330, 3) := by decide +kernel
theorem dX12_isWrong_4 : decode cX12_isWrong 4 = .ok (.aload_n 0, 1) := by decide +kernel
theorem dX12_isWrong_5 : decode cX12_isWrong 5 = .ok (.iload_n 1, 1) := by decide +kernel
theorem dX12_isWrong_6 : decode cX12_isWrong 6 = .ok (.invokevirtual 439, 3) := by decide +kernel
theorem dX12_isWrong_9 : decode cX12_isWrong 9 = .ok (.ifCond .ne 5, 3) := by decide +kernel
theorem dX12_isWrong_12 : decode cX12_isWrong 12 = .ok (.iconst 0, 1) := by decide +kernel
theorem dX12_isWrong_13 : decode cX12_isWrong 13 = .ok (.ireturn, 1) := by decide +kernel
theorem dX12_isWrong_14 : decode cX12_isWrong 14 = .ok (.aload_n 0, 1) := by decide +kernel
theorem dX12_isWrong_15 : decode cX12_isWrong 15 = .ok (.invokevirtual 333, 3) := by decide +kernel
theorem dX12_isWrong_18 : decode cX12_isWrong 18 = .ok (.aload_n 0, 1) := by decide +kernel
theorem dX12_isWrong_19 : decode cX12_isWrong 19 = .ok (.getfield 318, 3) := by decide +kernel
theorem dX12_isWrong_22 : decode cX12_isWrong 22 = .ok (.iconst (-1), 1) := by decide +kernel
theorem dX12_isWrong_23 : decode cX12_isWrong 23 = .ok (.if_icmp .eq 7, 3) := by decide +kernel
theorem dX12_isWrong_26 : decode cX12_isWrong 26 = .ok (.iconst 1, 1) := by decide +kernel
theorem dX12_isWrong_27 : decode cX12_isWrong 27 = .ok (.goto 4, 3) := by decide +kernel
theorem dX12_isWrong_30 : decode cX12_isWrong 30 = .ok (.iconst 0, 1) := by decide +kernel
theorem dX12_isWrong_31 : decode cX12_isWrong 31 = .ok (.ireturn, 1) := by decide +kernel
theorem dX12_item_0 : decode cX12_item 0 = .ok (.iload_n 1, 1) := by decide +kernel
theorem dX12_item_1 : decode cX12_item 1 = .ok (.invokestatic 423, 3) := by decide +kernel
theorem dX12_item_4 : decode cX12_item 4 = .ok (.ifCond .eq 39, 3) := by decide +kernel
theorem dX12_item_7 : decode cX12_item 7 = .ok (.iload_n 2, 1) := by decide +kernel
theorem dX12_item_8 : decode cX12_item 8 = .ok (.iconst 0, 1) := by decide +kernel
theorem dX12_item_9 : decode cX12_item 9 = .ok (.aload_n 0, 1) := by decide +kernel
theorem dX12_item_10 : decode cX12_item 10 = .ok (.getfield 268, 3) := by decide +kernel
theorem dX12_item_13 : decode cX12_item 13 = .ok (.iconst 1, 1) := by decide +kernel
theorem dX12_item_14 : decode cX12_item 14 = .ok (.isub, 1) := by decide +kernel
theorem dX12_item_15 : decode cX12_item 15 = .ok (.invokestatic 90, 3) := by decide +kernel
theorem dX12_item_18 : decode cX12_item 18 = .ok (.ifCond .ne 14, 3) := by decide +kernel
theorem dX12_item_21 : decode cX12_item 21 = .ok (.iload_n 2, 1) := by decide +kernel
theorem dX12_item_22 : decode cX12_item 22 = .ok (.bipush 20, 2) := by decide +kernel
theorem dX12_item_24 : decode cX12_item 24 = .ok (.bipush 24, 2) := by decide +kernel
theorem dX12_item_26 : decode cX12_item 26 = .ok (.invokestatic 90, 3) := by decide +kernel
theorem dX12_item_29 : decode cX12_item 29 = .ok (.ifCond .eq 14, 3) := by decide +kernel
theorem dX12_item_32 : decode cX12_item 32 = .ok (.aload_n 0, 1) := by decide +kernel
theorem dX12_item_33 : decode cX12_item 33 = .ok (.getfield 75, 3) := by decide +kernel
theorem dX12_item_36 : decode cX12_item 36 = .ok (.iload_n 1, 1) := by decide +kernel
theorem dX12_item_37 : decode cX12_item 37 = .ok (.iaload, 1) := by decide +kernel
theorem dX12_item_38 : decode cX12_item 38 = .ok (.bipush 8, 2) := by decide +kernel
theorem dX12_item_40 : decode cX12_item 40 = .ok (.if_icmp .ne 5, 3) := by decide +kernel
theorem dX12_item_43 : decode cX12_item 43 = .ok (.iconst (-1), 1) := by decide +kernel
theorem dX12_item_44 : decode cX12_item 44 = .ok (.ireturn, 1) := by decide +kernel
theorem dX12_item_45 : decode cX12_item 45 = .ok (.aload_n 0, 1) := by decide +kernel
theorem dX12_item_46 : decode cX12_item 46 = .ok (.getfield 72, 3) := by decide +kernel
theorem dX12_item_49 : decode cX12_item 49 = .ok (.bipush 8, 2) := by decide +kernel
theorem dX12_item_51 : decode cX12_item 51 = .ok (.iload_n 1, 1) := by decide +kernel
theorem dX12_item_52 : decode cX12_item 52 = .ok (.imul, 1) := by decide +kernel
theorem dX12_item_53 : decode cX12_item 53 = .ok (.aload_n 0, 1) := by decide +kernel
theorem dX12_item_54 : decode cX12_item 54 = .ok (.getfield 75, 3) := by decide +kernel
theorem dX12_item_57 : decode cX12_item 57 = .ok (.iload_n 1, 1) := by decide +kernel
theorem dX12_item_58 : decode cX12_item 58 = .ok (.iaload, 1) := by decide +kernel
theorem dX12_item_59 : decode cX12_item 59 = .ok (.iadd, 1) := by decide +kernel
theorem dX12_item_60 : decode cX12_item 60 = .ok (.iload_n 2, 1) := by decide +kernel
theorem dX12_item_61 : decode cX12_item 61 = .ok (.iastore, 1) := by decide +kernel
theorem dX12_item_62 : decode cX12_item 62 = .ok (.aload_n 0, 1) := by decide +kernel
theorem dX12_item_63 : decode cX12_item 63 = .ok (.getfield 75, 3) := by decide +kernel
theorem dX12_item_66 : decode cX12_item 66 = .ok (.iload_n 1, 1) := by decide +kernel
theorem dX12_item_67 : decode cX12_item 67 = .ok (.dup2, 1) := by decide +kernel
theorem dX12_item_68 : decode cX12_item 68 = .ok (.iaload, 1) := by decide +kernel
theorem dX12_item_69 : decode cX12_item 69 = .ok (.iconst 1, 1) := by decide +kernel
theorem dX12_item_70 : decode cX12_item 70 = .ok (.iadd, 1) := by decide +kernel
theorem dX12_item_71 : decode cX12_item 71 = .ok (.iastore, 1) := by decide +kernel
theorem dX12_item_72 : decode cX12_item 72 = .ok (.aload_n 0, 1) := by decide +kernel
theorem dX12_item_73 : decode cX12_item 73 = .ok (.getfield 75, 3) := by decide +kernel
theorem dX12_item_76 : decode cX12_item 76 = .ok (.iload_n 1, 1) := by decide +kernel
theorem dX12_item_77 : decode cX12_item 77 = .ok (.iaload, 1) := by decide +kernel
theorem dX12_item_78 : decode cX12_item 78 = .ok (.ireturn, 1) := by decide +kernel
theorem dX12_judge_0 : decode cX12_judge 0 = .ok (.iload_n 1, 1) := by decide +kernel
theorem dX12_judge_1 : decode cX12_judge 1 = .ok (.invokestatic 249, 3) := by decide +kernel
theorem dX12_judge_4 : decode cX12_judge 4 = .ok (.ifCond .eq 19, 3) := by decide +kernel
theorem dX12_judge_7 : decode cX12_judge 7 = .ok (.iload_n 2, 1) := by decide +kernel
theorem dX12_judge_8 : decode cX12_judge 8 = .ok (.invokestatic 249, 3) := by decide +kernel
theorem dX12_judge_11 : decode cX12_judge 11 = .ok (.ifCond .eq 12, 3) := by decide +kernel
theorem dX12_judge_14 : decode cX12_judge 14 = .ok (.iload_n 3, 1) := by decide +kernel
theorem dX12_judge_15 : decode cX12_judge 15 = .ok (.iconst 0, 1) := by decide +kernel
theorem dX12_judge_16 : decode cX12_judge 16 = .ok (.iconst 3, 1) := by decide +kernel
theorem dX12_judge_17 : decode cX12_judge 17 = .ok (.invokestatic 90, 3) := by decide +kernel
theorem dX12_judge_20 : decode cX12_judge 20 = .ok (.ifCond .ne 5, 3) := by decide +kernel
theorem dX12_judge_23 : decode cX12_judge 23 = .ok (.iconst (-1), 1) := by decide +kernel
theorem dX12_judge_24 : decode cX12_judge 24 = .ok (.ireturn, 1) := by decide +kernel
theorem dX12_judge_25 : decode cX12_judge 25 = .ok (.aload_n 0, 1) := by decide +kernel
theorem dX12_judge_26 : decode cX12_judge 26 = .ok (.iload_n 1, 1) := by decide +kernel
theorem dX12_judge_27 : decode cX12_judge 27 = .ok (.invokevirtual 271, 3) := by decide +kernel
theorem dX12_judge_30 : decode cX12_judge 30 = .ok (.aload_n 0, 1) := by decide +kernel
theorem dX12_judge_31 : decode cX12_judge 31 = .ok (.invokevirtual 330, 3) := by decide +kernel
theorem dX12_judge_34 : decode cX12_judge 34 = .ok (.aload_n 0, 1) := by decide +kernel
theorem dX12_judge_35 : decode cX12_judge 35 = .ok (.iload_n 2, 1) := by decide +kernel
theorem dX12_judge_36 : decode cX12_judge 36 = .ok (.invokevirtual 271, 3) := by decide +kernel
theorem dX12_judge_39 : decode cX12_judge 39 = .ok (.aload_n 0, 1) := by decide +kernel
theorem dX12_judge_40 : decode cX12_judge 40 = .ok (.invokevirtual 333, 3) := by decide +kernel
theorem dX12_judge_43 : decode cX12_judge 43 = .ok (.iload_n 3, 1) := by decide +kernel
theorem dX12_judge_44 : decode cX12_judge 44 = .ok (.tableswitch 63 0 2 #[28, 53, 58], 28) := by decide +kernel
theorem dX12_judge_72 : decode cX12_judge 72 = .ok (.aload_n 0, 1) := by decide +kernel
theorem dX12_judge_73 : decode cX12_judge 73 = .ok (.getfield 318, 3) := by decide +kernel
theorem dX12_judge_76 : decode cX12_judge 76 = .ok (.iconst (-1), 1) := by decide +kernel
theorem dX12_judge_77 : decode cX12_judge 77 = .ok (.if_icmp .eq 7, 3) := by decide +kernel
theorem dX12_judge_80 : decode cX12_judge 80 = .ok (.iconst 1, 1) := by decide +kernel
theorem dX12_judge_81 : decode cX12_judge 81 = .ok (.goto 15, 3) := by decide +kernel
theorem dX12_judge_84 : decode cX12_judge 84 = .ok (.aload_n 0, 1) := by decide +kernel
theorem dX12_judge_85 : decode cX12_judge 85 = .ok (.getfield 327, 3) := by decide +kernel
theorem dX12_judge_88 : decode cX12_judge 88 = .ok (.ifCond .eq 7, 3) := by decide +kernel
theorem dX12_judge_91 : decode cX12_judge 91 = .ok (.iconst 2, 1) := by decide +kernel
theorem dX12_judge_92 : decode cX12_judge 92 = .ok (.goto 4, 3) := by decide +kernel
theorem dX12_judge_95 : decode cX12_judge 95 = .ok (.iconst 0, 1) := by decide +kernel
theorem dX12_judge_96 : decode cX12_judge 96 = .ok (.ireturn, 1) := by decide +kernel
theorem dX12_judge_97 : decode cX12_judge 97 = .ok (.aload_n 0, 1) := by decide +kernel
theorem dX12_judge_98 : decode cX12_judge 98 = .ok (.getfield 318, 3) := by decide +kernel
theorem dX12_judge_101 : decode cX12_judge 101 = .ok (.ireturn, 1) := by decide +kernel
theorem dX12_judge_102 : decode cX12_judge 102 = .ok (.aload_n 0, 1) := by decide +kernel
theorem dX12_judge_103 : decode cX12_judge 103 = .ok (.getfield 321, 3) := by decide +kernel
theorem dX12_judge_106 : decode cX12_judge 106 = .ok (.ireturn, 1) := by decide +kernel
theorem dX12_judge_107 : decode cX12_judge 107 = .ok (.aload_n 0, 1) := by decide +kernel
theorem dX12_judge_108 : decode cX12_judge 108 = .ok (.getfield 324, 3) := by decide +kernel
theorem dX12_judge_111 : decode cX12_judge 111 = .ok (.ireturn, 1) := by decide +kernel
theorem dX12_keeps_0 : decode cX12_keeps 0 = .ok (.iconst 0, 1) := by decide +kernel
theorem dX12_keeps_1 : decode cX12_keeps 1 = .ok (.istore_n 1, 1) := by decide +kernel
theorem dX12_keeps_2 : decode cX12_keeps 2 = .ok (.iload_n 1, 1) := by decide +kernel
theorem dX12_keeps_3 : decode cX12_keeps 3 = .ok (.sipush 256, 3) := by decide +kernel
theorem dX12_keeps_6 : decode cX12_keeps 6 = .ok (.if_icmp .ge 74, 3) := by decide +kernel
theorem dX12_keeps_9 : decode cX12_keeps 9 = .ok (.aload_n 0, 1) := by decide +kernel
theorem dX12_keeps_10 : decode cX12_keeps 10 = .ok (.iload_n 1, 1) := by decide +kernel
theorem dX12_keeps_11 : decode cX12_keeps 11 = .ok (.bipush 16, 2) := by decide +kernel
theorem dX12_keeps_13 : decode cX12_keeps 13 = .ok (.idiv, 1) := by decide +kernel
theorem dX12_keeps_14 : decode cX12_keeps 14 = .ok (.iload_n 1, 1) := by decide +kernel
theorem dX12_keeps_15 : decode cX12_keeps 15 = .ok (.bipush 16, 2) := by decide +kernel
theorem dX12_keeps_17 : decode cX12_keeps 17 = .ok (.irem, 1) := by decide +kernel
theorem dX12_keeps_18 : decode cX12_keeps 18 = .ok (.invokevirtual 315, 3) := by decide +kernel
theorem dX12_keeps_21 : decode cX12_keeps 21 = .ok (.aload_n 0, 1) := by decide +kernel
theorem dX12_keeps_22 : decode cX12_keeps 22 = .ok (.getfield 47, 3) := by decide +kernel
theorem dX12_keeps_25 : decode cX12_keeps 25 = .ok (.iload_n 1, 1) := by decide +kernel
theorem dX12_keeps_26 : decode cX12_keeps 26 = .ok (.aload_n 0, 1) := by decide +kernel
theorem dX12_keeps_27 : decode cX12_keeps 27 = .ok (.getfield 294, 3) := by decide +kernel
theorem dX12_keeps_30 : decode cX12_keeps 30 = .ok (.iastore, 1) := by decide +kernel
theorem dX12_keeps_31 : decode cX12_keeps 31 = .ok (.aload_n 0, 1) := by decide +kernel
theorem dX12_keeps_32 : decode cX12_keeps 32 = .ok (.getfield 50, 3) := by decide +kernel
theorem dX12_keeps_35 : decode cX12_keeps 35 = .ok (.iload_n 1, 1) := by decide +kernel
theorem dX12_keeps_36 : decode cX12_keeps 36 = .ok (.aload_n 0, 1) := by decide +kernel
theorem dX12_keeps_37 : decode cX12_keeps 37 = .ok (.getfield 312, 3) := by decide +kernel
theorem dX12_keeps_40 : decode cX12_keeps 40 = .ok (.iastore, 1) := by decide +kernel
theorem dX12_keeps_41 : decode cX12_keeps 41 = .ok (.iconst 0, 1) := by decide +kernel
theorem dX12_keeps_42 : decode cX12_keeps 42 = .ok (.istore_n 2, 1) := by decide +kernel
theorem dX12_keeps_43 : decode cX12_keeps 43 = .ok (.iload_n 2, 1) := by decide +kernel
theorem dX12_keeps_44 : decode cX12_keeps 44 = .ok (.aload_n 0, 1) := by decide +kernel
theorem dX12_keeps_45 : decode cX12_keeps 45 = .ok (.getfield 312, 3) := by decide +kernel
theorem dX12_keeps_48 : decode cX12_keeps 48 = .ok (.if_icmp .ge 26, 3) := by decide +kernel
theorem dX12_keeps_51 : decode cX12_keeps 51 = .ok (.aload_n 0, 1) := by decide +kernel
theorem dX12_keeps_52 : decode cX12_keeps 52 = .ok (.getfield 53, 3) := by decide +kernel
theorem dX12_keeps_55 : decode cX12_keeps 55 = .ok (.bipush 101, 2) := by decide +kernel
theorem dX12_keeps_57 : decode cX12_keeps 57 = .ok (.iload_n 1, 1) := by decide +kernel
theorem dX12_keeps_58 : decode cX12_keeps 58 = .ok (.imul, 1) := by decide +kernel
theorem dX12_keeps_59 : decode cX12_keeps 59 = .ok (.iload_n 2, 1) := by decide +kernel
theorem dX12_keeps_60 : decode cX12_keeps 60 = .ok (.iadd, 1) := by decide +kernel
theorem dX12_keeps_61 : decode cX12_keeps 61 = .ok (.aload_n 0, 1) := by decide +kernel
theorem dX12_keeps_62 : decode cX12_keeps 62 = .ok (.getfield 44, 3) := by decide +kernel
theorem dX12_keeps_65 : decode cX12_keeps 65 = .ok (.iload_n 2, 1) := by decide +kernel
theorem dX12_keeps_66 : decode cX12_keeps 66 = .ok (.iaload, 1) := by decide +kernel
theorem dX12_keeps_67 : decode cX12_keeps 67 = .ok (.iastore, 1) := by decide +kernel
theorem dX12_keeps_68 : decode cX12_keeps 68 = .ok (.iinc 2 1, 3) := by decide +kernel
theorem dX12_keeps_71 : decode cX12_keeps 71 = .ok (.goto (-28), 3) := by decide +kernel
theorem dX12_keeps_74 : decode cX12_keeps 74 = .ok (.iinc 1 1, 3) := by decide +kernel
theorem dX12_keeps_77 : decode cX12_keeps 77 = .ok (.goto (-75), 3) := by decide +kernel
theorem dX12_keeps_80 : decode cX12_keeps 80 = .ok (.return_, 1) := by decide +kernel
theorem dX12_keepsWhole_0 : decode cX12_keepsWhole 0 = .ok (.aload_n 0, 1) := by decide +kernel
theorem dX12_keepsWhole_1 : decode cX12_keepsWhole 1 = .ok (.aload_n 0, 1) := by decide +kernel
theorem dX12_keepsWhole_2 : decode cX12_keepsWhole 2 = .ok (.getfield 98, 3) := by decide +kernel
theorem dX12_keepsWhole_5 : decode cX12_keepsWhole 5 = .ok (.putfield 442, 3) := by decide +kernel
theorem dX12_keepsWhole_8 : decode cX12_keepsWhole 8 = .ok (.iconst 0, 1) := by decide +kernel
theorem dX12_keepsWhole_9 : decode cX12_keepsWhole 9 = .ok (.istore_n 1, 1) := by decide +kernel
theorem dX12_keepsWhole_10 : decode cX12_keepsWhole 10 = .ok (.iload_n 1, 1) := by decide +kernel
theorem dX12_keepsWhole_11 : decode cX12_keepsWhole 11 = .ok (.aload_n 0, 1) := by decide +kernel
theorem dX12_keepsWhole_12 : decode cX12_keepsWhole 12 = .ok (.getfield 98, 3) := by decide +kernel
theorem dX12_keepsWhole_15 : decode cX12_keepsWhole 15 = .ok (.if_icmp .ge 21, 3) := by decide +kernel
theorem dX12_keepsWhole_18 : decode cX12_keepsWhole 18 = .ok (.aload_n 0, 1) := by decide +kernel
theorem dX12_keepsWhole_19 : decode cX12_keepsWhole 19 = .ok (.getfield 78, 3) := by decide +kernel
theorem dX12_keepsWhole_22 : decode cX12_keepsWhole 22 = .ok (.iload_n 1, 1) := by decide +kernel
theorem dX12_keepsWhole_23 : decode cX12_keepsWhole 23 = .ok (.aload_n 0, 1) := by decide +kernel
theorem dX12_keepsWhole_24 : decode cX12_keepsWhole 24 = .ok (.getfield 16, 3) := by decide +kernel
theorem dX12_keepsWhole_27 : decode cX12_keepsWhole 27 = .ok (.iload_n 1, 1) := by decide +kernel
theorem dX12_keepsWhole_28 : decode cX12_keepsWhole 28 = .ok (.iaload, 1) := by decide +kernel
theorem dX12_keepsWhole_29 : decode cX12_keepsWhole 29 = .ok (.iastore, 1) := by decide +kernel
theorem dX12_keepsWhole_30 : decode cX12_keepsWhole 30 = .ok (.iinc 1 1, 3) := by decide +kernel
theorem dX12_keepsWhole_33 : decode cX12_keepsWhole 33 = .ok (.goto (-23), 3) := by decide +kernel
theorem dX12_keepsWhole_36 : decode cX12_keepsWhole 36 = .ok (.return_, 1) := by decide +kernel
theorem dX12_liveAt_0 : decode cX12_liveAt 0 = .ok (.aload_n 0, 1) := by decide +kernel
theorem dX12_liveAt_1 : decode cX12_liveAt 1 = .ok (.getfield 16, 3) := by decide +kernel
theorem dX12_liveAt_4 : decode cX12_liveAt 4 = .ok (.iload_n 1, 1) := by decide +kernel
theorem dX12_liveAt_5 : decode cX12_liveAt 5 = .ok (.iaload, 1) := by decide +kernel
theorem dX12_liveAt_6 : decode cX12_liveAt 6 = .ok (.istore_n 3, 1) := by decide +kernel
theorem dX12_liveAt_7 : decode cX12_liveAt 7 = .ok (.iload_n 3, 1) := by decide +kernel
theorem dX12_liveAt_8 : decode cX12_liveAt 8 = .ok (.bipush 111, 2) := by decide +kernel
theorem dX12_liveAt_10 : decode cX12_liveAt 10 = .ok (.if_icmp .ne 5, 3) := by decide +kernel
theorem dX12_liveAt_13 : decode cX12_liveAt 13 = .ok (.iconst 0, 1) := by decide +kernel
theorem dX12_liveAt_14 : decode cX12_liveAt 14 = .ok (.ireturn, 1) := by decide +kernel
theorem dX12_liveAt_15 : decode cX12_liveAt 15 = .ok (.iload_n 3, 1) := by decide +kernel
theorem dX12_liveAt_16 : decode cX12_liveAt 16 = .ok (.bipush 110, 2) := by decide +kernel
theorem dX12_liveAt_18 : decode cX12_liveAt 18 = .ok (.if_icmp .ne 16, 3) := by decide +kernel
theorem dX12_liveAt_21 : decode cX12_liveAt 21 = .ok (.iload_n 2, 1) := by decide +kernel
theorem dX12_liveAt_22 : decode cX12_liveAt 22 = .ok (.aload_n 0, 1) := by decide +kernel
theorem dX12_liveAt_23 : decode cX12_liveAt 23 = .ok (.iload_n 1, 1) := by decide +kernel
theorem dX12_liveAt_24 : decode cX12_liveAt 24 = .ok (.aload_n 0, 1) := by decide +kernel
theorem dX12_liveAt_25 : decode cX12_liveAt 25 = .ok (.iload_n 1, 1) := by decide +kernel
theorem dX12_liveAt_26 : decode cX12_liveAt 26 = .ok (.invokevirtual 104, 3) := by decide +kernel
theorem dX12_liveAt_29 : decode cX12_liveAt 29 = .ok (.invokevirtual 379, 3) := by decide +kernel
theorem dX12_liveAt_32 : decode cX12_liveAt 32 = .ok (.ior, 1) := by decide +kernel
theorem dX12_liveAt_33 : decode cX12_liveAt 33 = .ok (.ireturn, 1) := by decide +kernel
theorem dX12_liveAt_34 : decode cX12_liveAt 34 = .ok (.iload_n 3, 1) := by decide +kernel
theorem dX12_liveAt_35 : decode cX12_liveAt 35 = .ok (.bipush 110, 2) := by decide +kernel
theorem dX12_liveAt_37 : decode cX12_liveAt 37 = .ok (.if_icmp .ge 25, 3) := by decide +kernel
theorem dX12_liveAt_40 : decode cX12_liveAt 40 = .ok (.iload_n 2, 1) := by decide +kernel
theorem dX12_liveAt_41 : decode cX12_liveAt 41 = .ok (.iconst 1, 1) := by decide +kernel
theorem dX12_liveAt_42 : decode cX12_liveAt 42 = .ok (.iload_n 3, 1) := by decide +kernel
theorem dX12_liveAt_43 : decode cX12_liveAt 43 = .ok (.bipush 100, 2) := by decide +kernel
theorem dX12_liveAt_45 : decode cX12_liveAt 45 = .ok (.isub, 1) := by decide +kernel
theorem dX12_liveAt_46 : decode cX12_liveAt 46 = .ok (.ishl, 1) := by decide +kernel
theorem dX12_liveAt_47 : decode cX12_liveAt 47 = .ok (.iconst (-1), 1) := by decide +kernel
theorem dX12_liveAt_48 : decode cX12_liveAt 48 = .ok (.ixor, 1) := by decide +kernel
theorem dX12_liveAt_49 : decode cX12_liveAt 49 = .ok (.iand, 1) := by decide +kernel
theorem dX12_liveAt_50 : decode cX12_liveAt 50 = .ok (.aload_n 0, 1) := by decide +kernel
theorem dX12_liveAt_51 : decode cX12_liveAt 51 = .ok (.iload_n 1, 1) := by decide +kernel
theorem dX12_liveAt_52 : decode cX12_liveAt 52 = .ok (.aload_n 0, 1) := by decide +kernel
theorem dX12_liveAt_53 : decode cX12_liveAt 53 = .ok (.iload_n 1, 1) := by decide +kernel
theorem dX12_liveAt_54 : decode cX12_liveAt 54 = .ok (.invokevirtual 104, 3) := by decide +kernel
theorem dX12_liveAt_57 : decode cX12_liveAt 57 = .ok (.invokevirtual 379, 3) := by decide +kernel
theorem dX12_liveAt_60 : decode cX12_liveAt 60 = .ok (.ior, 1) := by decide +kernel
theorem dX12_liveAt_61 : decode cX12_liveAt 61 = .ok (.ireturn, 1) := by decide +kernel
theorem dX12_liveAt_62 : decode cX12_liveAt 62 = .ok (.aload_n 0, 1) := by decide +kernel
theorem dX12_liveAt_63 : decode cX12_liveAt 63 = .ok (.iload_n 1, 1) := by decide +kernel
theorem dX12_liveAt_64 : decode cX12_liveAt 64 = .ok (.invokevirtual 101, 3) := by decide +kernel
theorem dX12_liveAt_67 : decode cX12_liveAt 67 = .ok (.istore 4, 2) := by decide +kernel
theorem dX12_liveAt_69 : decode cX12_liveAt 69 = .ok (.aload_n 0, 1) := by decide +kernel
theorem dX12_liveAt_70 : decode cX12_liveAt 70 = .ok (.iload_n 1, 1) := by decide +kernel
theorem dX12_liveAt_71 : decode cX12_liveAt 71 = .ok (.iconst 2, 1) := by decide +kernel
theorem dX12_liveAt_72 : decode cX12_liveAt 72 = .ok (.iadd, 1) := by decide +kernel
theorem dX12_liveAt_73 : decode cX12_liveAt 73 = .ok (.iload 4, 2) := by decide +kernel
theorem dX12_liveAt_75 : decode cX12_liveAt 75 = .ok (.invokevirtual 379, 3) := by decide +kernel
theorem dX12_liveAt_78 : decode cX12_liveAt 78 = .ok (.istore 5, 2) := by decide +kernel
theorem dX12_liveAt_80 : decode cX12_liveAt 80 = .ok (.iload_n 3, 1) := by decide +kernel
theorem dX12_liveAt_81 : decode cX12_liveAt 81 = .ok (.bipush 112, 2) := by decide +kernel
theorem dX12_liveAt_83 : decode cX12_liveAt 83 = .ok (.if_icmp .ne 48, 3) := by decide +kernel
theorem dX12_liveAt_86 : decode cX12_liveAt 86 = .ok (.aload_n 0, 1) := by decide +kernel
theorem dX12_liveAt_87 : decode cX12_liveAt 87 = .ok (.iload 4, 2) := by decide +kernel
theorem dX12_liveAt_89 : decode cX12_liveAt 89 = .ok (.invokevirtual 309, 3) := by decide +kernel
theorem dX12_liveAt_92 : decode cX12_liveAt 92 = .ok (.istore 6, 2) := by decide +kernel
theorem dX12_liveAt_94 : decode cX12_liveAt 94 = .ok (.iload 5, 2) := by decide +kernel
theorem dX12_liveAt_96 : decode cX12_liveAt 96 = .ok (.aload_n 0, 1) := by decide +kernel
theorem dX12_liveAt_97 : decode cX12_liveAt 97 = .ok (.iload 4, 2) := by decide +kernel
theorem dX12_liveAt_99 : decode cX12_liveAt 99 = .ok (.iload_n 2, 1) := by decide +kernel
theorem dX12_liveAt_100 : decode cX12_liveAt 100 = .ok (.invokevirtual 277, 3) := by decide +kernel
theorem dX12_liveAt_103 : decode cX12_liveAt 103 = .ok (.ior, 1) := by decide +kernel
theorem dX12_liveAt_104 : decode cX12_liveAt 104 = .ok (.aload_n 0, 1) := by decide +kernel
theorem dX12_liveAt_105 : decode cX12_liveAt 105 = .ok (.getfield 16, 3) := by decide +kernel
theorem dX12_liveAt_108 : decode cX12_liveAt 108 = .ok (.iload 6, 2) := by decide +kernel
theorem dX12_liveAt_110 : decode cX12_liveAt 110 = .ok (.iaload, 1) := by decide +kernel
theorem dX12_liveAt_111 : decode cX12_liveAt 111 = .ok (.bipush 113, 2) := by decide +kernel
theorem dX12_liveAt_113 : decode cX12_liveAt 113 = .ok (.if_icmp .ne 15, 3) := by decide +kernel
theorem dX12_liveAt_116 : decode cX12_liveAt 116 = .ok (.aload_n 0, 1) := by decide +kernel
theorem dX12_liveAt_117 : decode cX12_liveAt 117 = .ok (.iload 6, 2) := by decide +kernel
theorem dX12_liveAt_119 : decode cX12_liveAt 119 = .ok (.iconst 1, 1) := by decide +kernel
theorem dX12_liveAt_120 : decode cX12_liveAt 120 = .ok (.iadd, 1) := by decide +kernel
theorem dX12_liveAt_121 : decode cX12_liveAt 121 = .ok (.iload_n 2, 1) := by decide +kernel
theorem dX12_liveAt_122 : decode cX12_liveAt 122 = .ok (.invokevirtual 277, 3) := by decide +kernel
theorem dX12_liveAt_125 : decode cX12_liveAt 125 = .ok (.goto 4, 3) := by decide +kernel
theorem dX12_liveAt_128 : decode cX12_liveAt 128 = .ok (.iload_n 2, 1) := by decide +kernel
theorem dX12_liveAt_129 : decode cX12_liveAt 129 = .ok (.ior, 1) := by decide +kernel
theorem dX12_liveAt_130 : decode cX12_liveAt 130 = .ok (.ireturn, 1) := by decide +kernel
theorem dX12_liveAt_131 : decode cX12_liveAt 131 = .ok (.iload 5, 2) := by decide +kernel
theorem dX12_liveAt_133 : decode cX12_liveAt 133 = .ok (.iload_n 2, 1) := by decide +kernel
theorem dX12_liveAt_134 : decode cX12_liveAt 134 = .ok (.ior, 1) := by decide +kernel
theorem dX12_liveAt_135 : decode cX12_liveAt 135 = .ok (.istore 6, 2) := by decide +kernel
theorem dX12_liveAt_137 : decode cX12_liveAt 137 = .ok (.iload 6, 2) := by decide +kernel
theorem dX12_liveAt_139 : decode cX12_liveAt 139 = .ok (.aload_n 0, 1) := by decide +kernel
theorem dX12_liveAt_140 : decode cX12_liveAt 140 = .ok (.iload 4, 2) := by decide +kernel
theorem dX12_liveAt_142 : decode cX12_liveAt 142 = .ok (.iload 6, 2) := by decide +kernel
theorem dX12_liveAt_144 : decode cX12_liveAt 144 = .ok (.invokevirtual 277, 3) := by decide +kernel
theorem dX12_liveAt_147 : decode cX12_liveAt 147 = .ok (.ior, 1) := by decide +kernel
theorem dX12_liveAt_148 : decode cX12_liveAt 148 = .ok (.iload 6, 2) := by decide +kernel
theorem dX12_liveAt_150 : decode cX12_liveAt 150 = .ok (.if_icmp .eq 19, 3) := by decide +kernel
theorem dX12_liveAt_153 : decode cX12_liveAt 153 = .ok (.iload 6, 2) := by decide +kernel
theorem dX12_liveAt_155 : decode cX12_liveAt 155 = .ok (.aload_n 0, 1) := by decide +kernel
theorem dX12_liveAt_156 : decode cX12_liveAt 156 = .ok (.iload 4, 2) := by decide +kernel
theorem dX12_liveAt_158 : decode cX12_liveAt 158 = .ok (.iload 6, 2) := by decide +kernel
theorem dX12_liveAt_160 : decode cX12_liveAt 160 = .ok (.invokevirtual 277, 3) := by decide +kernel
theorem dX12_liveAt_163 : decode cX12_liveAt 163 = .ok (.ior, 1) := by decide +kernel
theorem dX12_liveAt_164 : decode cX12_liveAt 164 = .ok (.istore 6, 2) := by decide +kernel
theorem dX12_liveAt_166 : decode cX12_liveAt 166 = .ok (.goto (-29), 3) := by decide +kernel
theorem dX12_liveAt_169 : decode cX12_liveAt 169 = .ok (.iload 6, 2) := by decide +kernel
theorem dX12_liveAt_171 : decode cX12_liveAt 171 = .ok (.ireturn, 1) := by decide +kernel
theorem dX12_liveFrom_0 : decode cX12_liveFrom 0 = .ok (.aload_n 0, 1) := by decide +kernel
theorem dX12_liveFrom_1 : decode cX12_liveFrom 1 = .ok (.iload_n 1, 1) := by decide +kernel
theorem dX12_liveFrom_2 : decode cX12_liveFrom 2 = .ok (.invokevirtual 107, 3) := by decide +kernel
theorem dX12_liveFrom_5 : decode cX12_liveFrom 5 = .ok (.ifCond .eq 7, 3) := by decide +kernel
theorem dX12_liveFrom_8 : decode cX12_liveFrom 8 = .ok (.iload_n 2, 1) := by decide +kernel
theorem dX12_liveFrom_9 : decode cX12_liveFrom 9 = .ok (.goto 18, 3) := by decide +kernel
theorem dX12_liveFrom_12 : decode cX12_liveFrom 12 = .ok (.aload_n 0, 1) := by decide +kernel
theorem dX12_liveFrom_13 : decode cX12_liveFrom 13 = .ok (.iload_n 1, 1) := by decide +kernel
theorem dX12_liveFrom_14 : decode cX12_liveFrom 14 = .ok (.aload_n 0, 1) := by decide +kernel
theorem dX12_liveFrom_15 : decode cX12_liveFrom 15 = .ok (.aload_n 0, 1) := by decide +kernel
theorem dX12_liveFrom_16 : decode cX12_liveFrom 16 = .ok (.iload_n 1, 1) := by decide +kernel
theorem dX12_liveFrom_17 : decode cX12_liveFrom 17 = .ok (.invokevirtual 104, 3) := by decide +kernel
theorem dX12_liveFrom_20 : decode cX12_liveFrom 20 = .ok (.iload_n 2, 1) := by decide +kernel
theorem dX12_liveFrom_21 : decode cX12_liveFrom 21 = .ok (.invokevirtual 277, 3) := by decide +kernel
theorem dX12_liveFrom_24 : decode cX12_liveFrom 24 = .ok (.invokevirtual 376, 3) := by decide +kernel
theorem dX12_liveFrom_27 : decode cX12_liveFrom 27 = .ok (.ireturn, 1) := by decide +kernel
theorem dX12_make_0 : decode cX12_make 0 = .ok (.iload_n 1, 1) := by decide +kernel
theorem dX12_make_1 : decode cX12_make 1 = .ok (.invokestatic 423, 3) := by decide +kernel
theorem dX12_make_4 : decode cX12_make 4 = .ok (.ifCond .eq 17, 3) := by decide +kernel
theorem dX12_make_7 : decode cX12_make 7 = .ok (.iload_n 2, 1) := by decide +kernel
theorem dX12_make_8 : decode cX12_make 8 = .ok (.invokestatic 249, 3) := by decide +kernel
theorem dX12_make_11 : decode cX12_make 11 = .ok (.ifCond .eq 10, 3) := by decide +kernel
theorem dX12_make_14 : decode cX12_make 14 = .ok (.iload_n 3, 1) := by decide +kernel
theorem dX12_make_15 : decode cX12_make 15 = .ok (.invokestatic 249, 3) := by decide +kernel
theorem dX12_make_18 : decode cX12_make 18 = .ok (.ifCond .ne 5, 3) := by decide +kernel
theorem dX12_make_21 : decode cX12_make 21 = .ok (.iconst (-1), 1) := by decide +kernel
theorem dX12_make_22 : decode cX12_make 22 = .ok (.ireturn, 1) := by decide +kernel
theorem dX12_make_23 : decode cX12_make 23 = .ok (.aload_n 0, 1) := by decide +kernel
theorem dX12_make_24 : decode cX12_make 24 = .ok (.iload_n 2, 1) := by decide +kernel
theorem dX12_make_25 : decode cX12_make 25 = .ok (.invokevirtual 271, 3) := by decide +kernel
theorem dX12_make_28 : decode cX12_make 28 = .ok (.aload_n 0, 1) := by decide +kernel
theorem dX12_make_29 : decode cX12_make 29 = .ok (.iload_n 1, 1) := by decide +kernel
theorem dX12_make_30 : decode cX12_make 30 = .ok (.invokevirtual 439, 3) := by decide +kernel
theorem dX12_make_33 : decode cX12_make 33 = .ok (.ifCond .ne 5, 3) := by decide +kernel
theorem dX12_make_36 : decode cX12_make 36 = .ok (.iconst (-1), 1) := by decide +kernel
theorem dX12_make_37 : decode cX12_make 37 = .ok (.ireturn, 1) := by decide +kernel
theorem dX12_make_38 : decode cX12_make 38 = .ok (.aload_n 0, 1) := by decide +kernel
theorem dX12_make_39 : decode cX12_make 39 = .ok (.iload_n 3, 1) := by decide +kernel
theorem dX12_make_40 : decode cX12_make 40 = .ok (.invokevirtual 262, 3) := by decide +kernel
theorem dX12_make_43 : decode cX12_make 43 = .ok (.aload_n 0, 1) := by decide +kernel
theorem dX12_make_44 : decode cX12_make 44 = .ok (.invokevirtual 265, 3) := by decide +kernel
theorem dX12_make_47 : decode cX12_make 47 = .ok (.ireturn, 1) := by decide +kernel
theorem dX12_makes_0 : decode cX12_makes 0 = .ok (.iconst 0, 1) := by decide +kernel
theorem dX12_makes_1 : decode cX12_makes 1 = .ok (.istore_n 2, 1) := by decide +kernel
theorem dX12_makes_2 : decode cX12_makes 2 = .ok (.iload_n 2, 1) := by decide +kernel
theorem dX12_makes_3 : decode cX12_makes 3 = .ok (.aload_n 0, 1) := by decide +kernel
theorem dX12_makes_4 : decode cX12_makes 4 = .ok (.getfield 75, 3) := by decide +kernel
theorem dX12_makes_7 : decode cX12_makes 7 = .ok (.iload_n 1, 1) := by decide +kernel
theorem dX12_makes_8 : decode cX12_makes 8 = .ok (.iaload, 1) := by decide +kernel
theorem dX12_makes_9 : decode cX12_makes 9 = .ok (.if_icmp .ge 118, 3) := by decide +kernel
theorem dX12_makes_12 : decode cX12_makes 12 = .ok (.aload_n 0, 1) := by decide +kernel
theorem dX12_makes_13 : decode cX12_makes 13 = .ok (.getfield 72, 3) := by decide +kernel
theorem dX12_makes_16 : decode cX12_makes 16 = .ok (.bipush 8, 2) := by decide +kernel
theorem dX12_makes_18 : decode cX12_makes 18 = .ok (.iload_n 1, 1) := by decide +kernel
theorem dX12_makes_19 : decode cX12_makes 19 = .ok (.imul, 1) := by decide +kernel
theorem dX12_makes_20 : decode cX12_makes 20 = .ok (.iload_n 2, 1) := by decide +kernel
theorem dX12_makes_21 : decode cX12_makes 21 = .ok (.iadd, 1) := by decide +kernel
theorem dX12_makes_22 : decode cX12_makes 22 = .ok (.iaload, 1) := by decide +kernel
theorem dX12_makes_23 : decode cX12_makes 23 = .ok (.istore_n 3, 1) := by decide +kernel
theorem dX12_makes_24 : decode cX12_makes 24 = .ok (.iload_n 3, 1) := by decide +kernel
theorem dX12_makes_25 : decode cX12_makes 25 = .ok (.bipush 20, 2) := by decide +kernel
theorem dX12_makes_27 : decode cX12_makes 27 = .ok (.if_icmp .ge 13, 3) := by decide +kernel
theorem dX12_makes_30 : decode cX12_makes 30 = .ok (.aload_n 0, 1) := by decide +kernel
theorem dX12_makes_31 : decode cX12_makes 31 = .ok (.iload_n 3, 1) := by decide +kernel
theorem dX12_makes_32 : decode cX12_makes 32 = .ok (.invokevirtual 426, 3) := by decide +kernel
theorem dX12_makes_35 : decode cX12_makes 35 = .ok (.ifCond .ne 5, 3) := by decide +kernel
theorem dX12_makes_38 : decode cX12_makes 38 = .ok (.iconst 0, 1) := by decide +kernel
theorem dX12_makes_39 : decode cX12_makes 39 = .ok (.ireturn, 1) := by decide +kernel
theorem dX12_makes_40 : decode cX12_makes 40 = .ok (.aload_n 0, 1) := by decide +kernel
theorem dX12_makes_41 : decode cX12_makes 41 = .ok (.iconst 0, 1) := by decide +kernel
theorem dX12_makes_42 : decode cX12_makes 42 = .ok (.putfield 117, 3) := by decide +kernel
theorem dX12_makes_45 : decode cX12_makes 45 = .ok (.iload_n 3, 1) := by decide +kernel
theorem dX12_makes_46 : decode cX12_makes 46 = .ok (.bipush 20, 2) := by decide +kernel
theorem dX12_makes_48 : decode cX12_makes 48 = .ok (.if_icmp .ne 12, 3) := by decide +kernel
theorem dX12_makes_51 : decode cX12_makes 51 = .ok (.aload_n 0, 1) := by decide +kernel
theorem dX12_makes_52 : decode cX12_makes 52 = .ok (.iconst 0, 1) := by decide +kernel
theorem dX12_makes_53 : decode cX12_makes 53 = .ok (.invokevirtual 406, 3) := by decide +kernel
theorem dX12_makes_56 : decode cX12_makes 56 = .ok (.aload_n 0, 1) := by decide +kernel
theorem dX12_makes_57 : decode cX12_makes 57 = .ok (.invokevirtual 259, 3) := by decide +kernel
theorem dX12_makes_60 : decode cX12_makes 60 = .ok (.iload_n 3, 1) := by decide +kernel
theorem dX12_makes_61 : decode cX12_makes 61 = .ok (.bipush 21, 2) := by decide +kernel
theorem dX12_makes_63 : decode cX12_makes 63 = .ok (.if_icmp .eq 9, 3) := by decide +kernel
theorem dX12_makes_66 : decode cX12_makes 66 = .ok (.iload_n 3, 1) := by decide +kernel
theorem dX12_makes_67 : decode cX12_makes 67 = .ok (.bipush 22, 2) := by decide +kernel
theorem dX12_makes_69 : decode cX12_makes 69 = .ok (.if_icmp .ne 18, 3) := by decide +kernel
theorem dX12_makes_72 : decode cX12_makes 72 = .ok (.aload_n 0, 1) := by decide +kernel
theorem dX12_makes_73 : decode cX12_makes 73 = .ok (.iload_n 3, 1) := by decide +kernel
theorem dX12_makes_74 : decode cX12_makes 74 = .ok (.bipush 22, 2) := by decide +kernel
theorem dX12_makes_76 : decode cX12_makes 76 = .ok (.if_icmp .ne 7, 3) := by decide +kernel
theorem dX12_makes_79 : decode cX12_makes 79 = .ok (.iconst 1, 1) := by decide +kernel
theorem dX12_makes_80 : decode cX12_makes 80 = .ok (.goto 4, 3) := by decide +kernel
theorem dX12_makes_83 : decode cX12_makes 83 = .ok (.iconst 0, 1) := by decide +kernel
theorem dX12_makes_84 : decode cX12_makes 84 = .ok (.invokevirtual 429, 3) := by decide +kernel
theorem dX12_makes_87 : decode cX12_makes 87 = .ok (.iload_n 3, 1) := by decide +kernel
theorem dX12_makes_88 : decode cX12_makes 88 = .ok (.bipush 23, 2) := by decide +kernel
theorem dX12_makes_90 : decode cX12_makes 90 = .ok (.if_icmp .ne 7, 3) := by decide +kernel
theorem dX12_makes_93 : decode cX12_makes 93 = .ok (.aload_n 0, 1) := by decide +kernel
theorem dX12_makes_94 : decode cX12_makes 94 = .ok (.invokevirtual 433, 3) := by decide +kernel
theorem dX12_makes_97 : decode cX12_makes 97 = .ok (.iload_n 3, 1) := by decide +kernel
theorem dX12_makes_98 : decode cX12_makes 98 = .ok (.bipush 24, 2) := by decide +kernel
theorem dX12_makes_100 : decode cX12_makes 100 = .ok (.if_icmp .ne 12, 3) := by decide +kernel
theorem dX12_makes_103 : decode cX12_makes 103 = .ok (.aload_n 0, 1) := by decide +kernel
theorem dX12_makes_104 : decode cX12_makes 104 = .ok (.iconst 0, 1) := by decide +kernel
theorem dX12_makes_105 : decode cX12_makes 105 = .ok (.invokevirtual 420, 3) := by decide +kernel
theorem dX12_makes_108 : decode cX12_makes 108 = .ok (.aload_n 0, 1) := by decide +kernel
theorem dX12_makes_109 : decode cX12_makes 109 = .ok (.invokevirtual 259, 3) := by decide +kernel
theorem dX12_makes_112 : decode cX12_makes 112 = .ok (.aload_n 0, 1) := by decide +kernel
theorem dX12_makes_113 : decode cX12_makes 113 = .ok (.invokevirtual 436, 3) := by decide +kernel
theorem dX12_makes_116 : decode cX12_makes 116 = .ok (.ifCond .ne 5, 3) := by decide +kernel
theorem dX12_makes_119 : decode cX12_makes 119 = .ok (.iconst 0, 1) := by decide +kernel
theorem dX12_makes_120 : decode cX12_makes 120 = .ok (.ireturn, 1) := by decide +kernel
theorem dX12_makes_121 : decode cX12_makes 121 = .ok (.iinc 2 1, 3) := by decide +kernel
theorem dX12_makes_124 : decode cX12_makes 124 = .ok (.goto (-122), 3) := by decide +kernel
theorem dX12_makes_127 : decode cX12_makes 127 = .ok (.iconst 1, 1) := by decide +kernel
theorem dX12_makes_128 : decode cX12_makes 128 = .ok (.ireturn, 1) := by decide +kernel
theorem dX12_marks_0 : decode cX12_marks 0 = .ok (.iload_n 1, 1) := by decide +kernel
theorem dX12_marks_1 : decode cX12_marks 1 = .ok (.istore_n 3, 1) := by decide +kernel
theorem dX12_marks_2 : decode cX12_marks 2 = .ok (.aload_n 0, 1) := by decide +kernel
theorem dX12_marks_3 : decode cX12_marks 3 = .ok (.iload_n 3, 1) := by decide +kernel
theorem dX12_marks_4 : decode cX12_marks 4 = .ok (.invokevirtual 107, 3) := by decide +kernel
theorem dX12_marks_7 : decode cX12_marks 7 = .ok (.ifCond .ne 139, 3) := by decide +kernel
theorem dX12_marks_10 : decode cX12_marks 10 = .ok (.aload_n 0, 1) := by decide +kernel
theorem dX12_marks_11 : decode cX12_marks 11 = .ok (.aload_n 0, 1) := by decide +kernel
theorem dX12_marks_12 : decode cX12_marks 12 = .ok (.iload_n 3, 1) := by decide +kernel
theorem dX12_marks_13 : decode cX12_marks 13 = .ok (.invokevirtual 104, 3) := by decide +kernel
theorem dX12_marks_16 : decode cX12_marks 16 = .ok (.iload_n 2, 1) := by decide +kernel
theorem dX12_marks_17 : decode cX12_marks 17 = .ok (.invokevirtual 277, 3) := by decide +kernel
theorem dX12_marks_20 : decode cX12_marks 20 = .ok (.istore 4, 2) := by decide +kernel
theorem dX12_marks_22 : decode cX12_marks 22 = .ok (.aload_n 0, 1) := by decide +kernel
theorem dX12_marks_23 : decode cX12_marks 23 = .ok (.getfield 16, 3) := by decide +kernel
theorem dX12_marks_26 : decode cX12_marks 26 = .ok (.iload_n 3, 1) := by decide +kernel
theorem dX12_marks_27 : decode cX12_marks 27 = .ok (.iaload, 1) := by decide +kernel
theorem dX12_marks_28 : decode cX12_marks 28 = .ok (.istore 5, 2) := by decide +kernel
theorem dX12_marks_30 : decode cX12_marks 30 = .ok (.iload 5, 2) := by decide +kernel
theorem dX12_marks_32 : decode cX12_marks 32 = .ok (.bipush 100, 2) := by decide +kernel
theorem dX12_marks_34 : decode cX12_marks 34 = .ok (.bipush 105, 2) := by decide +kernel
theorem dX12_marks_36 : decode cX12_marks 36 = .ok (.invokestatic 90, 3) := by decide +kernel
theorem dX12_marks_39 : decode cX12_marks 39 = .ok (.ifCond .eq 21, 3) := by decide +kernel
theorem dX12_marks_42 : decode cX12_marks 42 = .ok (.iload 4, 2) := by decide +kernel
theorem dX12_marks_44 : decode cX12_marks 44 = .ok (.iload 5, 2) := by decide +kernel
theorem dX12_marks_46 : decode cX12_marks 46 = .ok (.bipush 100, 2) := by decide +kernel
theorem dX12_marks_48 : decode cX12_marks 48 = .ok (.isub, 1) := by decide +kernel
theorem dX12_marks_49 : decode cX12_marks 49 = .ok (.ishr, 1) := by decide +kernel
theorem dX12_marks_50 : decode cX12_marks 50 = .ok (.iconst 1, 1) := by decide +kernel
theorem dX12_marks_51 : decode cX12_marks 51 = .ok (.iand, 1) := by decide +kernel
theorem dX12_marks_52 : decode cX12_marks 52 = .ok (.ifCond .ne 8, 3) := by decide +kernel
theorem dX12_marks_55 : decode cX12_marks 55 = .ok (.aload_n 0, 1) := by decide +kernel
theorem dX12_marks_56 : decode cX12_marks 56 = .ok (.iload_n 3, 1) := by decide +kernel
theorem dX12_marks_57 : decode cX12_marks 57 = .ok (.invokevirtual 385, 3) := by decide +kernel
theorem dX12_marks_60 : decode cX12_marks 60 = .ok (.iload 5, 2) := by decide +kernel
theorem dX12_marks_62 : decode cX12_marks 62 = .ok (.bipush 115, 2) := by decide +kernel
theorem dX12_marks_64 : decode cX12_marks 64 = .ok (.if_icmp .ne 19, 3) := by decide +kernel
theorem dX12_marks_67 : decode cX12_marks 67 = .ok (.aload_n 0, 1) := by decide +kernel
theorem dX12_marks_68 : decode cX12_marks 68 = .ok (.aload_n 0, 1) := by decide +kernel
theorem dX12_marks_69 : decode cX12_marks 69 = .ok (.iload_n 3, 1) := by decide +kernel
theorem dX12_marks_70 : decode cX12_marks 70 = .ok (.invokevirtual 101, 3) := by decide +kernel
theorem dX12_marks_73 : decode cX12_marks 73 = .ok (.aload_n 0, 1) := by decide +kernel
theorem dX12_marks_74 : decode cX12_marks 74 = .ok (.iload_n 3, 1) := by decide +kernel
theorem dX12_marks_75 : decode cX12_marks 75 = .ok (.iload 4, 2) := by decide +kernel
theorem dX12_marks_77 : decode cX12_marks 77 = .ok (.invokevirtual 376, 3) := by decide +kernel
theorem dX12_marks_80 : decode cX12_marks 80 = .ok (.invokevirtual 388, 3) := by decide +kernel
theorem dX12_marks_83 : decode cX12_marks 83 = .ok (.iload 5, 2) := by decide +kernel
theorem dX12_marks_85 : decode cX12_marks 85 = .ok (.bipush 112, 2) := by decide +kernel
theorem dX12_marks_87 : decode cX12_marks 87 = .ok (.if_icmp .eq 6, 3) := by decide +kernel
theorem dX12_marks_90 : decode cX12_marks 90 = .ok (.goto 47, 3) := by decide +kernel
theorem dX12_marks_93 : decode cX12_marks 93 = .ok (.aload_n 0, 1) := by decide +kernel
theorem dX12_marks_94 : decode cX12_marks 94 = .ok (.aload_n 0, 1) := by decide +kernel
theorem dX12_marks_95 : decode cX12_marks 95 = .ok (.iload_n 3, 1) := by decide +kernel
theorem dX12_marks_96 : decode cX12_marks 96 = .ok (.invokevirtual 101, 3) := by decide +kernel
theorem dX12_marks_99 : decode cX12_marks 99 = .ok (.invokevirtual 309, 3) := by decide +kernel
theorem dX12_marks_102 : decode cX12_marks 102 = .ok (.istore 6, 2) := by decide +kernel
theorem dX12_marks_104 : decode cX12_marks 104 = .ok (.aload_n 0, 1) := by decide +kernel
theorem dX12_marks_105 : decode cX12_marks 105 = .ok (.aload_n 0, 1) := by decide +kernel
theorem dX12_marks_106 : decode cX12_marks 106 = .ok (.iload_n 3, 1) := by decide +kernel
theorem dX12_marks_107 : decode cX12_marks 107 = .ok (.invokevirtual 101, 3) := by decide +kernel
theorem dX12_marks_110 : decode cX12_marks 110 = .ok (.iload 4, 2) := by decide +kernel
theorem dX12_marks_112 : decode cX12_marks 112 = .ok (.invokevirtual 388, 3) := by decide +kernel
theorem dX12_marks_115 : decode cX12_marks 115 = .ok (.aload_n 0, 1) := by decide +kernel
theorem dX12_marks_116 : decode cX12_marks 116 = .ok (.getfield 16, 3) := by decide +kernel
theorem dX12_marks_119 : decode cX12_marks 119 = .ok (.iload 6, 2) := by decide +kernel
theorem dX12_marks_121 : decode cX12_marks 121 = .ok (.iaload, 1) := by decide +kernel
theorem dX12_marks_122 : decode cX12_marks 122 = .ok (.bipush 113, 2) := by decide +kernel
theorem dX12_marks_124 : decode cX12_marks 124 = .ok (.if_icmp .ne 13, 3) := by decide +kernel
theorem dX12_marks_127 : decode cX12_marks 127 = .ok (.aload_n 0, 1) := by decide +kernel
theorem dX12_marks_128 : decode cX12_marks 128 = .ok (.iload 6, 2) := by decide +kernel
theorem dX12_marks_130 : decode cX12_marks 130 = .ok (.iconst 1, 1) := by decide +kernel
theorem dX12_marks_131 : decode cX12_marks 131 = .ok (.iadd, 1) := by decide +kernel
theorem dX12_marks_132 : decode cX12_marks 132 = .ok (.iload 4, 2) := by decide +kernel
theorem dX12_marks_134 : decode cX12_marks 134 = .ok (.invokevirtual 388, 3) := by decide +kernel
theorem dX12_marks_137 : decode cX12_marks 137 = .ok (.aload_n 0, 1) := by decide +kernel
theorem dX12_marks_138 : decode cX12_marks 138 = .ok (.iload_n 3, 1) := by decide +kernel
theorem dX12_marks_139 : decode cX12_marks 139 = .ok (.invokevirtual 104, 3) := by decide +kernel
theorem dX12_marks_142 : decode cX12_marks 142 = .ok (.istore_n 3, 1) := by decide +kernel
theorem dX12_marks_143 : decode cX12_marks 143 = .ok (.goto (-141), 3) := by decide +kernel
theorem dX12_marks_146 : decode cX12_marks 146 = .ok (.return_, 1) := by decide +kernel
theorem dX12_marksHasty_0 : decode cX12_marksHasty 0 = .ok (.iconst 0, 1) := by decide +kernel
theorem dX12_marksHasty_1 : decode cX12_marksHasty 1 = .ok (.istore_n 1, 1) := by decide +kernel
theorem dX12_marksHasty_2 : decode cX12_marksHasty 2 = .ok (.iload_n 1, 1) := by decide +kernel
theorem dX12_marksHasty_3 : decode cX12_marksHasty 3 = .ok (.aload_n 0, 1) := by decide +kernel
theorem dX12_marksHasty_4 : decode cX12_marksHasty 4 = .ok (.getfield 98, 3) := by decide +kernel
theorem dX12_marksHasty_7 : decode cX12_marksHasty 7 = .ok (.if_icmp .ge 58, 3) := by decide +kernel
theorem dX12_marksHasty_10 : decode cX12_marksHasty 10 = .ok (.aload_n 0, 1) := by decide +kernel
theorem dX12_marksHasty_11 : decode cX12_marksHasty 11 = .ok (.getfield 16, 3) := by decide +kernel
theorem dX12_marksHasty_14 : decode cX12_marksHasty 14 = .ok (.iload_n 1, 1) := by decide +kernel
theorem dX12_marksHasty_15 : decode cX12_marksHasty 15 = .ok (.iaload, 1) := by decide +kernel
theorem dX12_marksHasty_16 : decode cX12_marksHasty 16 = .ok (.bipush 100, 2) := by decide +kernel
theorem dX12_marksHasty_18 : decode cX12_marksHasty 18 = .ok (.bipush 105, 2) := by decide +kernel
theorem dX12_marksHasty_20 : decode cX12_marksHasty 20 = .ok (.invokestatic 90, 3) := by decide +kernel
theorem dX12_marksHasty_23 : decode cX12_marksHasty 23 = .ok (.ifCond .eq 36, 3) := by decide +kernel
theorem dX12_marksHasty_26 : decode cX12_marksHasty 26 = .ok (.aload_n 0, 1) := by decide +kernel
theorem dX12_marksHasty_27 : decode cX12_marksHasty 27 = .ok (.aload_n 0, 1) := by decide +kernel
theorem dX12_marksHasty_28 : decode cX12_marksHasty 28 = .ok (.iload_n 1, 1) := by decide +kernel
theorem dX12_marksHasty_29 : decode cX12_marksHasty 29 = .ok (.invokevirtual 104, 3) := by decide +kernel
theorem dX12_marksHasty_32 : decode cX12_marksHasty 32 = .ok (.aload_n 0, 1) := by decide +kernel
theorem dX12_marksHasty_33 : decode cX12_marksHasty 33 = .ok (.getfield 98, 3) := by decide +kernel
theorem dX12_marksHasty_36 : decode cX12_marksHasty 36 = .ok (.invokevirtual 379, 3) := by decide +kernel
theorem dX12_marksHasty_39 : decode cX12_marksHasty 39 = .ok (.aload_n 0, 1) := by decide +kernel
theorem dX12_marksHasty_40 : decode cX12_marksHasty 40 = .ok (.getfield 16, 3) := by decide +kernel
theorem dX12_marksHasty_43 : decode cX12_marksHasty 43 = .ok (.iload_n 1, 1) := by decide +kernel
theorem dX12_marksHasty_44 : decode cX12_marksHasty 44 = .ok (.iaload, 1) := by decide +kernel
theorem dX12_marksHasty_45 : decode cX12_marksHasty 45 = .ok (.bipush 100, 2) := by decide +kernel
theorem dX12_marksHasty_47 : decode cX12_marksHasty 47 = .ok (.isub, 1) := by decide +kernel
theorem dX12_marksHasty_48 : decode cX12_marksHasty 48 = .ok (.ishr, 1) := by decide +kernel
theorem dX12_marksHasty_49 : decode cX12_marksHasty 49 = .ok (.iconst 1, 1) := by decide +kernel
theorem dX12_marksHasty_50 : decode cX12_marksHasty 50 = .ok (.iand, 1) := by decide +kernel
theorem dX12_marksHasty_51 : decode cX12_marksHasty 51 = .ok (.ifCond .ne 8, 3) := by decide +kernel
theorem dX12_marksHasty_54 : decode cX12_marksHasty 54 = .ok (.aload_n 0, 1) := by decide +kernel
theorem dX12_marksHasty_55 : decode cX12_marksHasty 55 = .ok (.iload_n 1, 1) := by decide +kernel
theorem dX12_marksHasty_56 : decode cX12_marksHasty 56 = .ok (.invokevirtual 385, 3) := by decide +kernel
theorem dX12_marksHasty_59 : decode cX12_marksHasty 59 = .ok (.iinc 1 1, 3) := by decide +kernel
theorem dX12_marksHasty_62 : decode cX12_marksHasty 62 = .ok (.goto (-60), 3) := by decide +kernel
theorem dX12_marksHasty_65 : decode cX12_marksHasty 65 = .ok (.return_, 1) := by decide +kernel
theorem dX12_match_0 : decode cX12_match 0 = .ok (.iconst 0, 1) := by decide +kernel
theorem dX12_match_1 : decode cX12_match 1 = .ok (.istore_n 3, 1) := by decide +kernel
theorem dX12_match_2 : decode cX12_match 2 = .ok (.iconst 0, 1) := by decide +kernel
theorem dX12_match_3 : decode cX12_match 3 = .ok (.istore 4, 2) := by decide +kernel
theorem dX12_match_5 : decode cX12_match 5 = .ok (.iload 4, 2) := by decide +kernel
theorem dX12_match_7 : decode cX12_match 7 = .ok (.aload_n 0, 1) := by decide +kernel
theorem dX12_match_8 : decode cX12_match 8 = .ok (.getfield 98, 3) := by decide +kernel
theorem dX12_match_11 : decode cX12_match 11 = .ok (.if_icmp .ge 47, 3) := by decide +kernel
theorem dX12_match_14 : decode cX12_match 14 = .ok (.aload_n 0, 1) := by decide +kernel
theorem dX12_match_15 : decode cX12_match 15 = .ok (.aload_n 0, 1) := by decide +kernel
theorem dX12_match_16 : decode cX12_match 16 = .ok (.getfield 16, 3) := by decide +kernel
theorem dX12_match_19 : decode cX12_match 19 = .ok (.iload 4, 2) := by decide +kernel
theorem dX12_match_21 : decode cX12_match 21 = .ok (.iaload, 1) := by decide +kernel
theorem dX12_match_22 : decode cX12_match 22 = .ok (.invokevirtual 114, 3) := by decide +kernel
theorem dX12_match_25 : decode cX12_match 25 = .ok (.ifCond .eq 27, 3) := by decide +kernel
theorem dX12_match_28 : decode cX12_match 28 = .ok (.aload_n 0, 1) := by decide +kernel
theorem dX12_match_29 : decode cX12_match 29 = .ok (.iload_n 1, 1) := by decide +kernel
theorem dX12_match_30 : decode cX12_match 30 = .ok (.iload 4, 2) := by decide +kernel
theorem dX12_match_32 : decode cX12_match 32 = .ok (.invokevirtual 364, 3) := by decide +kernel
theorem dX12_match_35 : decode cX12_match 35 = .ok (.ifCond .ne 6, 3) := by decide +kernel
theorem dX12_match_38 : decode cX12_match 38 = .ok (.goto 14, 3) := by decide +kernel
theorem dX12_match_41 : decode cX12_match 41 = .ok (.iload_n 3, 1) := by decide +kernel
theorem dX12_match_42 : decode cX12_match 42 = .ok (.iload_n 2, 1) := by decide +kernel
theorem dX12_match_43 : decode cX12_match 43 = .ok (.if_icmp .ne 6, 3) := by decide +kernel
theorem dX12_match_46 : decode cX12_match 46 = .ok (.iload 4, 2) := by decide +kernel
theorem dX12_match_48 : decode cX12_match 48 = .ok (.ireturn, 1) := by decide +kernel
theorem dX12_match_49 : decode cX12_match 49 = .ok (.iinc 3 1, 3) := by decide +kernel
theorem dX12_match_52 : decode cX12_match 52 = .ok (.iinc 4 1, 3) := by decide +kernel
theorem dX12_match_55 : decode cX12_match 55 = .ok (.goto (-50), 3) := by decide +kernel
theorem dX12_match_58 : decode cX12_match 58 = .ok (.iconst (-1), 1) := by decide +kernel
theorem dX12_match_59 : decode cX12_match 59 = .ok (.ireturn, 1) := by decide +kernel
theorem dX12_matches_0 : decode cX12_matches 0 = .ok (.aload_n 0, 1) := by decide +kernel
theorem dX12_matches_1 : decode cX12_matches 1 = .ok (.iconst 0, 1) := by decide +kernel
theorem dX12_matches_2 : decode cX12_matches 2 = .ok (.putfield 354, 3) := by decide +kernel
theorem dX12_matches_5 : decode cX12_matches 5 = .ok (.iconst 0, 1) := by decide +kernel
theorem dX12_matches_6 : decode cX12_matches 6 = .ok (.istore_n 3, 1) := by decide +kernel
theorem dX12_matches_7 : decode cX12_matches 7 = .ok (.iload_n 3, 1) := by decide +kernel
theorem dX12_matches_8 : decode cX12_matches 8 = .ok (.iconst 3, 1) := by decide +kernel
theorem dX12_matches_9 : decode cX12_matches 9 = .ok (.if_icmp .ge 16, 3) := by decide +kernel
theorem dX12_matches_12 : decode cX12_matches 12 = .ok (.aload_n 0, 1) := by decide +kernel
theorem dX12_matches_13 : decode cX12_matches 13 = .ok (.getfield 65, 3) := by decide +kernel
theorem dX12_matches_16 : decode cX12_matches 16 = .ok (.iload_n 3, 1) := by decide +kernel
theorem dX12_matches_17 : decode cX12_matches 17 = .ok (.iconst (-1), 1) := by decide +kernel
theorem dX12_matches_18 : decode cX12_matches 18 = .ok (.iastore, 1) := by decide +kernel
theorem dX12_matches_19 : decode cX12_matches 19 = .ok (.iinc 3 1, 3) := by decide +kernel
theorem dX12_matches_22 : decode cX12_matches 22 = .ok (.goto (-15), 3) := by decide +kernel
theorem dX12_matches_25 : decode cX12_matches 25 = .ok (.aload_n 0, 1) := by decide +kernel
theorem dX12_matches_26 : decode cX12_matches 26 = .ok (.aload_n 0, 1) := by decide +kernel
theorem dX12_matches_27 : decode cX12_matches 27 = .ok (.getfield 16, 3) := by decide +kernel
theorem dX12_matches_30 : decode cX12_matches 30 = .ok (.iload_n 2, 1) := by decide +kernel
theorem dX12_matches_31 : decode cX12_matches 31 = .ok (.iaload, 1) := by decide +kernel
theorem dX12_matches_32 : decode cX12_matches 32 = .ok (.invokevirtual 114, 3) := by decide +kernel
theorem dX12_matches_35 : decode cX12_matches 35 = .ok (.ifCond .eq 16, 3) := by decide +kernel
theorem dX12_matches_38 : decode cX12_matches 38 = .ok (.aload_n 0, 1) := by decide +kernel
theorem dX12_matches_39 : decode cX12_matches 39 = .ok (.iload_n 1, 1) := by decide +kernel
theorem dX12_matches_40 : decode cX12_matches 40 = .ok (.iload_n 2, 1) := by decide +kernel
theorem dX12_matches_41 : decode cX12_matches 41 = .ok (.invokevirtual 361, 3) := by decide +kernel
theorem dX12_matches_44 : decode cX12_matches 44 = .ok (.ifCond .eq 7, 3) := by decide +kernel
theorem dX12_matches_47 : decode cX12_matches 47 = .ok (.iconst 1, 1) := by decide +kernel
theorem dX12_matches_48 : decode cX12_matches 48 = .ok (.goto 4, 3) := by decide +kernel
theorem dX12_matches_51 : decode cX12_matches 51 = .ok (.iconst 0, 1) := by decide +kernel
theorem dX12_matches_52 : decode cX12_matches 52 = .ok (.ireturn, 1) := by decide +kernel
theorem dX12_need_0 : decode cX12_need 0 = .ok (.aload_n 0, 1) := by decide +kernel
theorem dX12_need_1 : decode cX12_need 1 = .ok (.getfield 164, 3) := by decide +kernel
theorem dX12_need_4 : decode cX12_need 4 = .ok (.iload_n 1, 1) := by decide +kernel
theorem dX12_need_5 : decode cX12_need 5 = .ok (.if_icmp .eq 9, 3) := by decide +kernel
theorem dX12_need_8 : decode cX12_need 8 = .ok (.aload_n 0, 1) := by decide +kernel
theorem dX12_need_9 : decode cX12_need 9 = .ok (.iconst 1, 1) := by decide +kernel
theorem dX12_need_10 : decode cX12_need 10 = .ok (.invokevirtual 185, 3) := by decide +kernel
theorem dX12_need_13 : decode cX12_need 13 = .ok (.ireturn, 1) := by decide +kernel
theorem dX12_need_14 : decode cX12_need 14 = .ok (.aload_n 0, 1) := by decide +kernel
theorem dX12_need_15 : decode cX12_need 15 = .ok (.invokevirtual 188, 3) := by decide +kernel
theorem dX12_need_18 : decode cX12_need 18 = .ok (.iconst 1, 1) := by decide +kernel
theorem dX12_need_19 : decode cX12_need 19 = .ok (.ireturn, 1) := by decide +kernel
theorem dX12_next0_0 : decode cX12_next0 0 = .ok (.aload_n 0, 1) := by decide +kernel
theorem dX12_next0_1 : decode cX12_next0 1 = .ok (.aload_n 0, 1) := by decide +kernel
theorem dX12_next0_2 : decode cX12_next0 2 = .ok (.getfield 127, 3) := by decide +kernel
theorem dX12_next0_5 : decode cX12_next0 5 = .ok (.invokevirtual 161, 3) := by decide +kernel
theorem dX12_next0_8 : decode cX12_next0 8 = .ok (.bipush 32, 2) := by decide +kernel
theorem dX12_next0_10 : decode cX12_next0 10 = .ok (.if_icmp .eq 16, 3) := by decide +kernel
theorem dX12_next0_13 : decode cX12_next0 13 = .ok (.aload_n 0, 1) := by decide +kernel
theorem dX12_next0_14 : decode cX12_next0 14 = .ok (.aload_n 0, 1) := by decide +kernel
theorem dX12_next0_15 : decode cX12_next0 15 = .ok (.getfield 127, 3) := by decide +kernel
theorem dX12_next0_18 : decode cX12_next0 18 = .ok (.invokevirtual 161, 3) := by decide +kernel
theorem dX12_next0_21 : decode cX12_next0 21 = .ok (.bipush 10, 2) := by decide +kernel
theorem dX12_next0_23 : decode cX12_next0 23 = .ok (.if_icmp .ne 16, 3) := by decide +kernel
theorem dX12_next0_26 : decode cX12_next0 26 = .ok (.aload_n 0, 1) := by decide +kernel
theorem dX12_next0_27 : decode cX12_next0 27 = .ok (.dup, 1) := by decide +kernel
theorem dX12_next0_28 : decode cX12_next0 28 = .ok (.getfield 127, 3) := by decide +kernel
theorem dX12_next0_31 : decode cX12_next0 31 = .ok (.iconst 1, 1) := by decide +kernel
theorem dX12_next0_32 : decode cX12_next0 32 = .ok (.iadd, 1) := by decide +kernel
theorem dX12_next0_33 : decode cX12_next0 33 = .ok (.putfield 127, 3) := by decide +kernel
theorem dX12_next0_36 : decode cX12_next0 36 = .ok (.goto (-36), 3) := by decide +kernel
theorem dX12_next0_39 : decode cX12_next0 39 = .ok (.aload_n 0, 1) := by decide +kernel

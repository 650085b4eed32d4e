theorem dX12_spills_23 : decode cX12_spills 23 = .ok (.if_icmp .eq 17, 3) := by decide +kernel
theorem dX12_spills_40 : decode cX12_spills 40 = .ok (.aload_n 0, 1) := by decide +kernel
theorem dX12_spills_41 : decode cX12_spills 41 = .ok (.iload_n 1, 1) := by decide +kernel
theorem dX12_spills_42 : decode cX12_spills 42 = .ok (.iload 4, 2) := by decide +kernel
theorem dX12_spills_44 : decode cX12_spills 44 = .ok (.iconst (-1), 1) := by decide +kernel
theorem dX12_spills_45 : decode cX12_spills 45 = .ok (.ixor, 1) := by decide +kernel
theorem dX12_spills_46 : decode cX12_spills 46 = .ok (.iand, 1) := by decide +kernel
theorem dX12_spills_47 : decode cX12_spills 47 = .ok (.iload_n 2, 1) := by decide +kernel
theorem dX12_spills_48 : decode cX12_spills 48 = .ok (.invokevirtual 466, 3) := by decide +kernel
theorem dX12_spills_51 : decode cX12_spills 51 = .ok (.ifCond .eq 6, 3) := by decide +kernel
theorem dX12_spills_54 : decode cX12_spills 54 = .ok (.iload 4, 2) := by decide +kernel
theorem dX12_spills_56 : decode cX12_spills 56 = .ok (.istore_n 3, 1) := by decide +kernel
theorem dX12_spills_57 : decode cX12_spills 57 = .ok (.iinc 4 1, 3) := by decide +kernel
theorem dX12_spills_60 : decode cX12_spills 60 = .ok (.goto (-55), 3) := by decide +kernel
theorem dX12_spills_63 : decode cX12_spills 63 = .ok (.iload_n 3, 1) := by decide +kernel
theorem dX12_spills_64 : decode cX12_spills 64 = .ok (.ireturn, 1) := by decide +kernel
theorem dX12_statements_0 : decode cX12_statements 0 = .ok (.iconst 0, 1) := by decide +kernel
theorem dX12_statements_1 : decode cX12_statements 1 = .ok (.istore_n 1, 1) := by decide +kernel
theorem dX12_statements_2 : decode cX12_statements 2 = .ok (.iconst 0, 1) := by decide +kernel
theorem dX12_statements_3 : decode cX12_statements 3 = .ok (.istore_n 2, 1) := by decide +kernel
theorem dX12_statements_4 : decode cX12_statements 4 = .ok (.iload_n 2, 1) := by decide +kernel
theorem dX12_statements_5 : decode cX12_statements 5 = .ok (.aload_n 0, 1) := by decide +kernel
theorem dX12_statements_6 : decode cX12_statements 6 = .ok (.getfield 98, 3) := by decide +kernel
theorem dX12_statements_9 : decode cX12_statements 9 = .ok (.if_icmp .ge 29, 3) := by decide +kernel
theorem dX12_statements_38 : decode cX12_statements 38 = .ok (.iload_n 1, 1) := by decide +kernel
theorem dX12_statements_39 : decode cX12_statements 39 = .ok (.ireturn, 1) := by decide +kernel
theorem dX12_sumUp_0 : decode cX12_sumUp 0 = .ok (.aload_n 0, 1) := by decide +kernel
theorem dX12_sumUp_1 : decode cX12_sumUp 1 = .ok (.getfield 117, 3) := by decide +kernel
theorem dX12_sumUp_4 : decode cX12_sumUp 4 = .ok (.istore_n 1, 1) := by decide +kernel
theorem dX12_sumUp_5 : decode cX12_sumUp 5 = .ok (.aload_n 0, 1) := by decide +kernel
theorem dX12_sumUp_6 : decode cX12_sumUp 6 = .ok (.invokevirtual 203, 3) := by decide +kernel
theorem dX12_sumUp_9 : decode cX12_sumUp 9 = .ok (.ifCond .ne 5, 3) := by decide +kernel
theorem dX12_sumUp_12 : decode cX12_sumUp 12 = .ok (.iconst 0, 1) := by decide +kernel
theorem dX12_sumUp_13 : decode cX12_sumUp 13 = .ok (.ireturn, 1) := by decide +kernel
theorem dX12_takes_0 : decode cX12_takes 0 = .ok (.aload_n 0, 1) := by decide +kernel
theorem dX12_takes_1 : decode cX12_takes 1 = .ok (.aload_n 0, 1) := by decide +kernel
theorem dX12_takes_2 : decode cX12_takes 2 = .ok (.getfield 13, 3) := by decide +kernel
theorem dX12_takes_5 : decode cX12_takes 5 = .ok (.iload_n 1, 1) := by decide +kernel
theorem dX12_takes_6 : decode cX12_takes 6 = .ok (.iaload, 1) := by decide +kernel
theorem dX12_takes_7 : decode cX12_takes 7 = .ok (.putfield 98, 3) := by decide +kernel
theorem dX12_takes_10 : decode cX12_takes 10 = .ok (.iconst 0, 1) := by decide +kernel
theorem dX12_takes_11 : decode cX12_takes 11 = .ok (.istore_n 2, 1) := by decide +kernel
theorem dX12_takes_12 : decode cX12_takes 12 = .ok (.iload_n 2, 1) := by decide +kernel
theorem dX12_takes_13 : decode cX12_takes 13 = .ok (.aload_n 0, 1) := by decide +kernel
theorem dX12_takes_14 : decode cX12_takes 14 = .ok (.getfield 98, 3) := by decide +kernel
theorem dX12_takes_17 : decode cX12_takes 17 = .ok (.if_icmp .ge 27, 3) := by decide +kernel
theorem dX12_takes_44 : decode cX12_takes 44 = .ok (.return_, 1) := by decide +kernel
theorem dX12_turns_0 : decode cX12_turns 0 = .ok (.aload_n 0, 1) := by decide +kernel
theorem dX12_turns_1 : decode cX12_turns 1 = .ok (.aload_n 0, 1) := by decide +kernel
theorem dX12_turns_2 : decode cX12_turns 2 = .ok (.getfield 117, 3) := by decide +kernel
theorem dX12_turns_5 : decode cX12_turns 5 = .ok (.putfield 98, 3) := by decide +kernel
theorem dX12_turns_8 : decode cX12_turns 8 = .ok (.iconst 0, 1) := by decide +kernel
theorem dX12_turns_9 : decode cX12_turns 9 = .ok (.istore_n 1, 1) := by decide +kernel
theorem dX12_turns_10 : decode cX12_turns 10 = .ok (.iload_n 1, 1) := by decide +kernel
theorem dX12_turns_11 : decode cX12_turns 11 = .ok (.aload_n 0, 1) := by decide +kernel
theorem dX12_turns_12 : decode cX12_turns 12 = .ok (.getfield 98, 3) := by decide +kernel
theorem dX12_turns_15 : decode cX12_turns 15 = .ok (.if_icmp .ge 21, 3) := by decide +kernel
theorem dX12_turns_36 : decode cX12_turns 36 = .ok (.aload_n 0, 1) := by decide +kernel
theorem dX12_turns_37 : decode cX12_turns 37 = .ok (.iconst 0, 1) := by decide +kernel
theorem dX12_turns_38 : decode cX12_turns 38 = .ok (.putfield 117, 3) := by decide +kernel
theorem dX12_turns_41 : decode cX12_turns 41 = .ok (.return_, 1) := by decide +kernel
theorem dX12_unit_0 : decode cX12_unit 0 = .ok (.aload_n 0, 1) := by decide +kernel
theorem dX12_unit_1 : decode cX12_unit 1 = .ok (.getfield 164, 3) := by decide +kernel
theorem dX12_unit_4 : decode cX12_unit 4 = .ok (.bipush 40, 2) := by decide +kernel
theorem dX12_unit_6 : decode cX12_unit 6 = .ok (.if_icmp .ne 34, 3) := by decide +kernel
theorem dX12_unit_40 : decode cX12_unit 40 = .ok (.aload_n 0, 1) := by decide +kernel
theorem dX12_unit_41 : decode cX12_unit 41 = .ok (.getfield 164, 3) := by decide +kernel
theorem dX12_unit_44 : decode cX12_unit 44 = .ok (.iconst 2, 1) := by decide +kernel
theorem dX12_unit_45 : decode cX12_unit 45 = .ok (.if_icmp .ne 18, 3) := by decide +kernel
theorem dX12_unit_63 : decode cX12_unit 63 = .ok (.aload_n 0, 1) := by decide +kernel
theorem dX12_unit_64 : decode cX12_unit 64 = .ok (.getfield 164, 3) := by decide +kernel
theorem dX12_unit_67 : decode cX12_unit 67 = .ok (.sipush 320, 3) := by decide +kernel
theorem dX12_unit_70 : decode cX12_unit 70 = .ok (.if_icmp .lt 7, 3) := by decide +kernel
theorem dX12_unit_77 : decode cX12_unit 77 = .ok (.iconst 0, 1) := by decide +kernel
theorem dX12_unit_78 : decode cX12_unit 78 = .ok (.istore_n 1, 1) := by decide +kernel
theorem dX12_unit_79 : decode cX12_unit 79 = .ok (.aload_n 0, 1) := by decide +kernel
theorem dX12_unit_80 : decode cX12_unit 80 = .ok (.getfield 164, 3) := by decide +kernel
theorem dX12_unit_83 : decode cX12_unit 83 = .ok (.iconst 2, 1) := by decide +kernel
theorem dX12_unit_84 : decode cX12_unit 84 = .ok (.if_icmp .eq 13, 3) := by decide +kernel
theorem dX12_unit_87 : decode cX12_unit 87 = .ok (.iload_n 1, 1) := by decide +kernel
theorem dX12_unit_88 : decode cX12_unit 88 = .ok (.ifCond .ne 9, 3) := by decide +kernel
theorem dX12_unit_91 : decode cX12_unit 91 = .ok (.aload_n 0, 1) := by decide +kernel
theorem dX12_unit_92 : decode cX12_unit 92 = .ok (.iconst 1, 1) := by decide +kernel
theorem dX12_unit_93 : decode cX12_unit 93 = .ok (.invokevirtual 185, 3) := by decide +kernel
theorem dX12_unit_96 : decode cX12_unit 96 = .ok (.ireturn, 1) := by decide +kernel
theorem dX1_aheadOf_0 : decode cX1_aheadOf 0 = .ok (.aload_n 0, 1) := by decide +kernel
theorem dX1_aheadOf_1 : decode cX1_aheadOf 1 = .ok (.iload_n 1, 1) := by decide +kernel
theorem dX1_aheadOf_2 : decode cX1_aheadOf 2 = .ok (.invokevirtual 70, 3) := by decide +kernel
theorem dX1_aheadOf_5 : decode cX1_aheadOf 5 = .ok (.ifCond .eq 12, 3) := by decide +kernel
theorem dX1_aheadOf_17 : decode cX1_aheadOf 17 = .ok (.iconst 0, 1) := by decide +kernel
theorem dX1_aheadOf_18 : decode cX1_aheadOf 18 = .ok (.ireturn, 1) := by decide +kernel
theorem dX1_init_0 : decode cX1_init 0 = .ok (.aload_n 0, 1) := by decide +kernel
theorem dX1_init_1 : decode cX1_init 1 = .ok (.invokespecial 3, 3) := by decide +kernel
theorem dX1_init_4 : decode cX1_init 4 = .ok (.aload_n 0, 1) := by decide +kernel
theorem dX1_init_5 : decode cX1_init 5 = .ok (.new 9, 3) := by decide +kernel
theorem dX1_init_8 : decode cX1_init 8 = .ok (.dup, 1) := by decide +kernel
theorem dX1_init_9 : decode cX1_init 9 = .ok (.iconst 1, 1) := by decide +kernel
theorem dX1_init_10 : decode cX1_init 10 = .ok (.invokespecial 11, 3) := by decide +kernel
theorem dX1_init_13 : decode cX1_init 13 = .ok (.putfield 14, 3) := by decide +kernel
theorem dX1_init_16 : decode cX1_init 16 = .ok (.aload_n 0, 1) := by decide +kernel
theorem dX1_init_17 : decode cX1_init 17 = .ok (.bipush 40, 2) := by decide +kernel
theorem dX1_init_19 : decode cX1_init 19 = .ok (.newarray .int, 2) := by decide +kernel
theorem dX1_init_21 : decode cX1_init 21 = .ok (.putfield 20, 3) := by decide +kernel
theorem dX1_init_24 : decode cX1_init 24 = .ok (.aload_n 0, 1) := by decide +kernel
theorem dX1_init_25 : decode cX1_init 25 = .ok (.bipush 40, 2) := by decide +kernel
theorem dX1_init_27 : decode cX1_init 27 = .ok (.newarray .int, 2) := by decide +kernel
theorem dX1_init_29 : decode cX1_init 29 = .ok (.putfield 24, 3) := by decide +kernel
theorem dX1_init_32 : decode cX1_init 32 = .ok (.aload_n 0, 1) := by decide +kernel
theorem dX1_init_33 : decode cX1_init 33 = .ok (.bipush 40, 2) := by decide +kernel
theorem dX1_init_35 : decode cX1_init 35 = .ok (.newarray .int, 2) := by decide +kernel
theorem dX1_init_37 : decode cX1_init 37 = .ok (.putfield 27, 3) := by decide +kernel
theorem dX1_init_40 : decode cX1_init 40 = .ok (.aload_n 0, 1) := by decide +kernel
theorem dX1_init_41 : decode cX1_init 41 = .ok (.bipush 40, 2) := by decide +kernel
theorem dX1_init_43 : decode cX1_init 43 = .ok (.newarray .int, 2) := by decide +kernel
theorem dX1_init_45 : decode cX1_init 45 = .ok (.putfield 30, 3) := by decide +kernel
theorem dX1_init_48 : decode cX1_init 48 = .ok (.aload_n 0, 1) := by decide +kernel
theorem dX1_init_49 : decode cX1_init 49 = .ok (.bipush 40, 2) := by decide +kernel
theorem dX1_init_51 : decode cX1_init 51 = .ok (.newarray .int, 2) := by decide +kernel
theorem dX1_init_53 : decode cX1_init 53 = .ok (.putfield 33, 3) := by decide +kernel
theorem dX1_init_56 : decode cX1_init 56 = .ok (.aload_n 0, 1) := by decide +kernel
theorem dX1_init_57 : decode cX1_init 57 = .ok (.bipush 40, 2) := by decide +kernel
theorem dX1_init_59 : decode cX1_init 59 = .ok (.newarray .int, 2) := by decide +kernel
theorem dX1_init_61 : decode cX1_init 61 = .ok (.putfield 36, 3) := by decide +kernel
theorem dX1_init_64 : decode cX1_init 64 = .ok (.aload_n 0, 1) := by decide +kernel
theorem dX1_init_65 : decode cX1_init 65 = .ok (.bipush 40, 2) := by decide +kernel
theorem dX1_init_67 : decode cX1_init 67 = .ok (.newarray .int, 2) := by decide +kernel
theorem dX1_init_69 : decode cX1_init 69 = .ok (.putfield 39, 3) := by decide +kernel
theorem dX1_init_72 : decode cX1_init 72 = .ok (.aload_n 0, 1) := by decide +kernel
theorem dX1_init_73 : decode cX1_init 73 = .ok (.bipush 40, 2) := by decide +kernel
theorem dX1_init_75 : decode cX1_init 75 = .ok (.newarray .int, 2) := by decide +kernel
theorem dX1_init_77 : decode cX1_init 77 = .ok (.putfield 42, 3) := by decide +kernel
theorem dX1_init_80 : decode cX1_init 80 = .ok (.aload_n 0, 1) := by decide +kernel
theorem dX1_init_81 : decode cX1_init 81 = .ok (.bipush 40, 2) := by decide +kernel
theorem dX1_init_83 : decode cX1_init 83 = .ok (.newarray .int, 2) := by decide +kernel
theorem dX1_init_85 : decode cX1_init 85 = .ok (.putfield 45, 3) := by decide +kernel
theorem dX1_init_88 : decode cX1_init 88 = .ok (.aload_n 0, 1) := by decide +kernel
theorem dX1_init_89 : decode cX1_init 89 = .ok (.bipush 40, 2) := by decide +kernel
theorem dX1_init_91 : decode cX1_init 91 = .ok (.newarray .int, 2) := by decide +kernel
theorem dX1_init_93 : decode cX1_init 93 = .ok (.putfield 48, 3) := by decide +kernel
theorem dX1_init_96 : decode cX1_init 96 = .ok (.aload_n 0, 1) := by decide +kernel
theorem dX1_init_97 : decode cX1_init 97 = .ok (.bipush 40, 2) := by decide +kernel
theorem dX1_init_99 : decode cX1_init 99 = .ok (.newarray .int, 2) := by decide +kernel
theorem dX1_init_101 : decode cX1_init 101 = .ok (.putfield 51, 3) := by decide +kernel
theorem dX1_init_104 : decode cX1_init 104 = .ok (.aload_n 0, 1) := by decide +kernel
theorem dX1_init_105 : decode cX1_init 105 = .ok (.sipush 480, 3) := by decide +kernel
theorem dX1_init_108 : decode cX1_init 108 = .ok (.newarray .int, 2) := by decide +kernel
theorem dX1_init_110 : decode cX1_init 110 = .ok (.putfield 54, 3) := by decide +kernel
theorem dX1_init_113 : decode cX1_init 113 = .ok (.aload_n 0, 1) := by decide +kernel
theorem dX1_init_114 : decode cX1_init 114 = .ok (.iconst 0, 1) := by decide +kernel
theorem dX1_init_115 : decode cX1_init 115 = .ok (.putfield 57, 3) := by decide +kernel
theorem dX1_init_118 : decode cX1_init 118 = .ok (.return_, 1) := by decide +kernel
theorem dX1_isHere_0 : decode cX1_isHere 0 = .ok (.iload_n 1, 1) := by decide +kernel
theorem dX1_isHere_1 : decode cX1_isHere 1 = .ok (.ifCond .lt 21, 3) := by decide +kernel
theorem dX1_isHere_4 : decode cX1_isHere 4 = .ok (.iload_n 1, 1) := by decide +kernel
theorem dX1_isHere_5 : decode cX1_isHere 5 = .ok (.aload_n 0, 1) := by decide +kernel
theorem dX1_isHere_6 : decode cX1_isHere 6 = .ok (.getfield 57, 3) := by decide +kernel
theorem dX1_isHere_9 : decode cX1_isHere 9 = .ok (.if_icmp .ge 13, 3) := by decide +kernel
theorem dX1_isHere_22 : decode cX1_isHere 22 = .ok (.iconst 0, 1) := by decide +kernel
theorem dX1_isHere_23 : decode cX1_isHere 23 = .ok (.ireturn, 1) := by decide +kernel
theorem dX1_link_0 : decode cX1_link 0 = .ok (.iconst (-1), 1) := by decide +kernel
theorem dX1_link_1 : decode cX1_link 1 = .ok (.istore_n 1, 1) := by decide +kernel
theorem dX1_link_2 : decode cX1_link 2 = .ok (.aload_n 0, 1) := by decide +kernel
theorem dX1_link_3 : decode cX1_link 3 = .ok (.getfield 14, 3) := by decide +kernel
theorem dX1_link_6 : decode cX1_link 6 = .ok (.getfield 78, 3) := by decide +kernel
theorem dX1_link_9 : decode cX1_link 9 = .ok (.aload_n 0, 1) := by decide +kernel
theorem dX1_link_10 : decode cX1_link 10 = .ok (.getfield 54, 3) := by decide +kernel
theorem dX1_link_13 : decode cX1_link 13 = .ok (.arraylength, 1) := by decide +kernel
theorem dX1_link_14 : decode cX1_link 14 = .ok (.invokestatic 103, 3) := by decide +kernel
theorem dX1_link_17 : decode cX1_link 17 = .ok (.iconst 1, 1) := by decide +kernel
theorem dX1_link_18 : decode cX1_link 18 = .ok (.isub, 1) := by decide +kernel
theorem dX1_link_19 : decode cX1_link 19 = .ok (.istore_n 2, 1) := by decide +kernel
theorem dX1_link_20 : decode cX1_link 20 = .ok (.iload_n 2, 1) := by decide +kernel
theorem dX1_link_21 : decode cX1_link 21 = .ok (.ifCond .lt 39, 3) := by decide +kernel
theorem dX1_link_60 : decode cX1_link 60 = .ok (.return_, 1) := by decide +kernel
theorem dX1_number_0 : decode cX1_number 0 = .ok (.iconst 0, 1) := by decide +kernel
theorem dX1_number_1 : decode cX1_number 1 = .ok (.istore_n 1, 1) := by decide +kernel
theorem dX1_number_2 : decode cX1_number 2 = .ok (.aload_n 0, 1) := by decide +kernel
theorem dX1_number_3 : decode cX1_number 3 = .ok (.iconst 0, 1) := by decide +kernel
theorem dX1_number_4 : decode cX1_number 4 = .ok (.putfield 57, 3) := by decide +kernel
theorem dX1_number_7 : decode cX1_number 7 = .ok (.iconst 0, 1) := by decide +kernel
theorem dX1_number_8 : decode cX1_number 8 = .ok (.istore_n 2, 1) := by decide +kernel
theorem dX1_number_9 : decode cX1_number 9 = .ok (.iload_n 2, 1) := by decide +kernel
theorem dX1_number_10 : decode cX1_number 10 = .ok (.aload_n 0, 1) := by decide +kernel
theorem dX1_number_11 : decode cX1_number 11 = .ok (.getfield 14, 3) := by decide +kernel
theorem dX1_number_14 : decode cX1_number 14 = .ok (.getfield 78, 3) := by decide +kernel
theorem dX1_number_17 : decode cX1_number 17 = .ok (.if_icmp .ge 218, 3) := by decide +kernel
theorem dX1_number_235 : decode cX1_number 235 = .ok (.return_, 1) := by decide +kernel
theorem dX1_settle_0 : decode cX1_settle 0 = .ok (.iconst 0, 1) := by decide +kernel
theorem dX1_settle_1 : decode cX1_settle 1 = .ok (.istore_n 1, 1) := by decide +kernel
theorem dX1_settle_2 : decode cX1_settle 2 = .ok (.iload_n 1, 1) := by decide +kernel
theorem dX1_settle_3 : decode cX1_settle 3 = .ok (.aload_n 0, 1) := by decide +kernel
theorem dX1_settle_4 : decode cX1_settle 4 = .ok (.getfield 57, 3) := by decide +kernel
theorem dX1_settle_7 : decode cX1_settle 7 = .ok (.if_icmp .ge 22, 3) := by decide +kernel
theorem dX1_settle_29 : decode cX1_settle 29 = .ok (.iconst 1, 1) := by decide +kernel
theorem dX1_settle_30 : decode cX1_settle 30 = .ok (.istore_n 1, 1) := by decide +kernel
theorem dX1_settle_31 : decode cX1_settle 31 = .ok (.iconst 0, 1) := by decide +kernel
theorem dX1_settle_32 : decode cX1_settle 32 = .ok (.istore_n 2, 1) := by decide +kernel
theorem dX1_settle_33 : decode cX1_settle 33 = .ok (.iload_n 2, 1) := by decide +kernel
theorem dX1_settle_34 : decode cX1_settle 34 = .ok (.sipush 241, 3) := by decide +kernel
theorem dX1_settle_37 : decode cX1_settle 37 = .ok (.if_icmp .ge 105, 3) := by decide +kernel
theorem dX1_settle_40 : decode cX1_settle 40 = .ok (.iload_n 1, 1) := by decide +kernel
theorem dX1_settle_41 : decode cX1_settle 41 = .ok (.ifCond .eq 101, 3) := by decide +kernel
theorem dX1_settle_44 : decode cX1_settle 44 = .ok (.iconst 0, 1) := by decide +kernel
theorem dX1_settle_45 : decode cX1_settle 45 = .ok (.istore_n 1, 1) := by decide +kernel
theorem dX1_settle_46 : decode cX1_settle 46 = .ok (.aload_n 0, 1) := by decide +kernel
theorem dX1_settle_47 : decode cX1_settle 47 = .ok (.getfield 57, 3) := by decide +kernel
theorem dX1_settle_50 : decode cX1_settle 50 = .ok (.bipush 40, 2) := by decide +kernel
theorem dX1_settle_52 : decode cX1_settle 52 = .ok (.invokestatic 103, 3) := by decide +kernel
theorem dX1_settle_55 : decode cX1_settle 55 = .ok (.iconst 1, 1) := by decide +kernel
theorem dX1_settle_56 : decode cX1_settle 56 = .ok (.isub, 1) := by decide +kernel
theorem dX1_settle_57 : decode cX1_settle 57 = .ok (.istore_n 3, 1) := by decide +kernel
theorem dX1_settle_58 : decode cX1_settle 58 = .ok (.iload_n 3, 1) := by decide +kernel
theorem dX1_settle_59 : decode cX1_settle 59 = .ok (.ifCond .lt 77, 3) := by decide +kernel
theorem dX1_settle_136 : decode cX1_settle 136 = .ok (.iinc 2 1, 3) := by decide +kernel
theorem dX1_settle_139 : decode cX1_settle 139 = .ok (.goto (-106), 3) := by decide +kernel
theorem dX1_settle_142 : decode cX1_settle 142 = .ok (.return_, 1) := by decide +kernel
theorem dX1_trace_0 : decode cX1_trace 0 = .ok (.aload_n 0, 1) := by decide +kernel
theorem dX1_trace_1 : decode cX1_trace 1 = .ok (.aload_n 1, 1) := by decide +kernel
theorem dX1_trace_2 : decode cX1_trace 2 = .ok (.putfield 14, 3) := by decide +kernel
theorem dX1_trace_5 : decode cX1_trace 5 = .ok (.aload_n 0, 1) := by decide +kernel
theorem dX1_trace_6 : decode cX1_trace 6 = .ok (.invokevirtual 61, 3) := by decide +kernel
theorem dX1_trace_9 : decode cX1_trace 9 = .ok (.aload_n 0, 1) := by decide +kernel
theorem dX1_trace_10 : decode cX1_trace 10 = .ok (.invokevirtual 64, 3) := by decide +kernel
theorem dX1_trace_13 : decode cX1_trace 13 = .ok (.aload_n 0, 1) := by decide +kernel
theorem dX1_trace_14 : decode cX1_trace 14 = .ok (.invokevirtual 67, 3) := by decide +kernel
theorem dX1_trace_17 : decode cX1_trace 17 = .ok (.return_, 1) := by decide +kernel
theorem dX2_compare_0 : decode cX2_compare 0 = .ok (.aload_n 0, 1) := by decide +kernel
theorem dX2_compare_1 : decode cX2_compare 1 = .ok (.iconst (-1), 1) := by decide +kernel
theorem dX2_compare_2 : decode cX2_compare 2 = .ok (.putfield 21, 3) := by decide +kernel
theorem dX2_compare_5 : decode cX2_compare 5 = .ok (.aload_n 0, 1) := by decide +kernel
theorem dX2_compare_6 : decode cX2_compare 6 = .ok (.iconst (-1), 1) := by decide +kernel
theorem dX2_compare_7 : decode cX2_compare 7 = .ok (.putfield 25, 3) := by decide +kernel
theorem dX2_compare_10 : decode cX2_compare 10 = .ok (.aload_n 0, 1) := by decide +kernel
theorem dX2_compare_11 : decode cX2_compare 11 = .ok (.iconst 0, 1) := by decide +kernel
theorem dX2_compare_12 : decode cX2_compare 12 = .ok (.putfield 28, 3) := by decide +kernel
theorem dX2_compare_15 : decode cX2_compare 15 = .ok (.aload_n 0, 1) := by decide +kernel
theorem dX2_compare_16 : decode cX2_compare 16 = .ok (.iconst 0, 1) := by decide +kernel
theorem dX2_compare_17 : decode cX2_compare 17 = .ok (.putfield 31, 3) := by decide +kernel
theorem dX2_compare_20 : decode cX2_compare 20 = .ok (.aload_n 0, 1) := by decide +kernel
theorem dX2_compare_21 : decode cX2_compare 21 = .ok (.getfield 12, 3) := by decide +kernel
theorem dX2_compare_24 : decode cX2_compare 24 = .ok (.getfield 35, 3) := by decide +kernel
theorem dX2_compare_27 : decode cX2_compare 27 = .ok (.aload_n 1, 1) := by decide +kernel
theorem dX2_compare_28 : decode cX2_compare 28 = .ok (.invokevirtual 39, 3) := by decide +kernel
theorem dX2_compare_31 : decode cX2_compare 31 = .ok (.aload_n 0, 1) := by decide +kernel
theorem dX2_compare_32 : decode cX2_compare 32 = .ok (.getfield 18, 3) := by decide +kernel
theorem dX2_compare_35 : decode cX2_compare 35 = .ok (.getfield 35, 3) := by decide +kernel
theorem dX2_compare_38 : decode cX2_compare 38 = .ok (.aload_n 2, 1) := by decide +kernel
theorem dX2_compare_39 : decode cX2_compare 39 = .ok (.invokevirtual 39, 3) := by decide +kernel
theorem dX2_compare_42 : decode cX2_compare 42 = .ok (.aload_n 0, 1) := by decide +kernel
theorem dX2_compare_43 : decode cX2_compare 43 = .ok (.getfield 12, 3) := by decide +kernel
theorem dX2_compare_46 : decode cX2_compare 46 = .ok (.getfield 35, 3) := by decide +kernel
theorem dX2_compare_49 : decode cX2_compare 49 = .ok (.iconst 0, 1) := by decide +kernel
theorem dX2_compare_50 : decode cX2_compare 50 = .ok (.invokevirtual 45, 3) := by decide +kernel
theorem dX2_compare_53 : decode cX2_compare 53 = .ok (.aload_n 0, 1) := by decide +kernel
theorem dX2_compare_54 : decode cX2_compare 54 = .ok (.getfield 18, 3) := by decide +kernel
theorem dX2_compare_57 : decode cX2_compare 57 = .ok (.getfield 35, 3) := by decide +kernel
theorem dX2_compare_60 : decode cX2_compare 60 = .ok (.iconst 0, 1) := by decide +kernel
theorem dX2_compare_61 : decode cX2_compare 61 = .ok (.invokevirtual 45, 3) := by decide +kernel
theorem dX2_compare_64 : decode cX2_compare 64 = .ok (.ior, 1) := by decide +kernel
theorem dX2_compare_65 : decode cX2_compare 65 = .ok (.istore 4, 2) := by decide +kernel
theorem dX2_compare_67 : decode cX2_compare 67 = .ok (.iload 4, 2) := by decide +kernel
theorem dX2_compare_69 : decode cX2_compare 69 = .ok (.iconst 1, 1) := by decide +kernel
theorem dX2_compare_70 : decode cX2_compare 70 = .ok (.iand, 1) := by decide +kernel
theorem dX2_compare_71 : decode cX2_compare 71 = .ok (.ifCond .eq 7, 3) := by decide +kernel
theorem dX2_compare_78 : decode cX2_compare 78 = .ok (.bipush 16, 2) := by decide +kernel
theorem dX2_compare_80 : decode cX2_compare 80 = .ok (.istore 5, 2) := by decide +kernel
theorem dX2_compare_82 : decode cX2_compare 82 = .ok (.iload 4, 2) := by decide +kernel
theorem dX2_compare_84 : decode cX2_compare 84 = .ok (.iconst 2, 1) := by decide +kernel
theorem dX2_compare_85 : decode cX2_compare 85 = .ok (.iand, 1) := by decide +kernel
theorem dX2_compare_86 : decode cX2_compare 86 = .ok (.ifCond .eq 7, 3) := by decide +kernel
theorem dX2_compare_93 : decode cX2_compare 93 = .ok (.bipush 16, 2) := by decide +kernel
theorem dX2_compare_95 : decode cX2_compare 95 = .ok (.istore 6, 2) := by decide +kernel
theorem dX2_compare_97 : decode cX2_compare 97 = .ok (.iconst 0, 1) := by decide +kernel
theorem dX2_compare_98 : decode cX2_compare 98 = .ok (.istore 7, 2) := by decide +kernel
theorem dX2_compare_100 : decode cX2_compare 100 = .ok (.iload 7, 2) := by decide +kernel
theorem dX2_compare_102 : decode cX2_compare 102 = .ok (.bipush 16, 2) := by decide +kernel
theorem dX2_compare_104 : decode cX2_compare 104 = .ok (.if_icmp .ge 85, 3) := by decide +kernel
theorem dX2_compare_107 : decode cX2_compare 107 = .ok (.iconst 0, 1) := by decide +kernel
theorem dX2_compare_108 : decode cX2_compare 108 = .ok (.istore 8, 2) := by decide +kernel
theorem dX2_compare_110 : decode cX2_compare 110 = .ok (.iload 8, 2) := by decide +kernel
theorem dX2_compare_112 : decode cX2_compare 112 = .ok (.bipush 16, 2) := by decide +kernel
theorem dX2_compare_114 : decode cX2_compare 114 = .ok (.if_icmp .ge 65, 3) := by decide +kernel
theorem dX2_compare_117 : decode cX2_compare 117 = .ok (.aload_n 0, 1) := by decide +kernel
theorem dX2_compare_118 : decode cX2_compare 118 = .ok (.getfield 12, 3) := by decide +kernel
theorem dX2_compare_121 : decode cX2_compare 121 = .ok (.iload 7, 2) := by decide +kernel
theorem dX2_compare_123 : decode cX2_compare 123 = .ok (.iload 8, 2) := by decide +kernel
theorem dX2_compare_125 : decode cX2_compare 125 = .ok (.invokevirtual 49, 3) := by decide +kernel
theorem dX2_compare_128 : decode cX2_compare 128 = .ok (.aload_n 0, 1) := by decide +kernel
theorem dX2_compare_129 : decode cX2_compare 129 = .ok (.getfield 18, 3) := by decide +kernel
theorem dX2_compare_132 : decode cX2_compare 132 = .ok (.iload 7, 2) := by decide +kernel
theorem dX2_compare_134 : decode cX2_compare 134 = .ok (.iload 8, 2) := by decide +kernel
theorem dX2_compare_136 : decode cX2_compare 136 = .ok (.invokevirtual 49, 3) := by decide +kernel
theorem dX2_compare_139 : decode cX2_compare 139 = .ok (.aload_n 0, 1) := by decide +kernel
theorem dX2_compare_140 : decode cX2_compare 140 = .ok (.bipush 16, 2) := by decide +kernel
theorem dX2_compare_142 : decode cX2_compare 142 = .ok (.iload 7, 2) := by decide +kernel
theorem dX2_compare_144 : decode cX2_compare 144 = .ok (.imul, 1) := by decide +kernel
theorem dX2_compare_145 : decode cX2_compare 145 = .ok (.iload 8, 2) := by decide +kernel
theorem dX2_compare_147 : decode cX2_compare 147 = .ok (.iadd, 1) := by decide +kernel
theorem dX2_compare_148 : decode cX2_compare 148 = .ok (.iload 5, 2) := by decide +kernel
theorem dX2_compare_150 : decode cX2_compare 150 = .ok (.iload 6, 2) := by decide +kernel
theorem dX2_compare_152 : decode cX2_compare 152 = .ok (.imul, 1) := by decide +kernel
theorem dX2_compare_153 : decode cX2_compare 153 = .ok (.invokevirtual 53, 3) := by decide +kernel
theorem dX2_compare_156 : decode cX2_compare 156 = .ok (.iload_n 3, 1) := by decide +kernel
theorem dX2_compare_157 : decode cX2_compare 157 = .ok (.ifCond .eq 12, 3) := by decide +kernel
theorem dX2_compare_169 : decode cX2_compare 169 = .ok (.iload 8, 2) := by decide +kernel
theorem dX2_compare_171 : decode cX2_compare 171 = .ok (.iload 6, 2) := by decide +kernel
theorem dX2_compare_173 : decode cX2_compare 173 = .ok (.iadd, 1) := by decide +kernel
theorem dX2_compare_174 : decode cX2_compare 174 = .ok (.istore 8, 2) := by decide +kernel
theorem dX2_compare_176 : decode cX2_compare 176 = .ok (.goto (-66), 3) := by decide +kernel
theorem dX2_compare_179 : decode cX2_compare 179 = .ok (.iload 7, 2) := by decide +kernel
theorem dX2_compare_181 : decode cX2_compare 181 = .ok (.iload 5, 2) := by decide +kernel
theorem dX2_compare_183 : decode cX2_compare 183 = .ok (.iadd, 1) := by decide +kernel
theorem dX2_compare_184 : decode cX2_compare 184 = .ok (.istore 7, 2) := by decide +kernel
theorem dX2_compare_186 : decode cX2_compare 186 = .ok (.goto (-86), 3) := by decide +kernel
theorem dX2_compare_189 : decode cX2_compare 189 = .ok (.aload_n 0, 1) := by decide +kernel
theorem dX2_compare_190 : decode cX2_compare 190 = .ok (.getfield 28, 3) := by decide +kernel
theorem dX2_compare_193 : decode cX2_compare 193 = .ok (.ifCond .le 7, 3) := by decide +kernel
theorem dX2_compare_200 : decode cX2_compare 200 = .ok (.iconst 0, 1) := by decide +kernel
theorem dX2_compare_201 : decode cX2_compare 201 = .ok (.ireturn, 1) := by decide +kernel
theorem dX2_init_0 : decode cX2_init 0 = .ok (.aload_n 0, 1) := by decide +kernel
theorem dX2_init_1 : decode cX2_init 1 = .ok (.invokespecial 3, 3) := by decide +kernel
theorem dX2_init_4 : decode cX2_init 4 = .ok (.aload_n 0, 1) := by decide +kernel
theorem dX2_init_5 : decode cX2_init 5 = .ok (.new 9, 3) := by decide +kernel
theorem dX2_init_8 : decode cX2_init 8 = .ok (.dup, 1) := by decide +kernel
theorem dX2_init_9 : decode cX2_init 9 = .ok (.invokespecial 11, 3) := by decide +kernel
theorem dX2_init_12 : decode cX2_init 12 = .ok (.putfield 12, 3) := by decide +kernel
theorem dX2_init_15 : decode cX2_init 15 = .ok (.aload_n 0, 1) := by decide +kernel
theorem dX2_init_16 : decode cX2_init 16 = .ok (.new 9, 3) := by decide +kernel
theorem dX2_init_19 : decode cX2_init 19 = .ok (.dup, 1) := by decide +kernel
theorem dX2_init_20 : decode cX2_init 20 = .ok (.invokespecial 11, 3) := by decide +kernel
theorem dX2_init_23 : decode cX2_init 23 = .ok (.putfield 18, 3) := by decide +kernel
theorem dX2_init_26 : decode cX2_init 26 = .ok (.aload_n 0, 1) := by decide +kernel
theorem dX2_init_27 : decode cX2_init 27 = .ok (.iconst (-1), 1) := by decide +kernel
theorem dX2_init_28 : decode cX2_init 28 = .ok (.putfield 21, 3) := by decide +kernel
theorem dX2_init_31 : decode cX2_init 31 = .ok (.aload_n 0, 1) := by decide +kernel
theorem dX2_init_32 : decode cX2_init 32 = .ok (.iconst (-1), 1) := by decide +kernel
theorem dX2_init_33 : decode cX2_init 33 = .ok (.putfield 25, 3) := by decide +kernel
theorem dX2_init_36 : decode cX2_init 36 = .ok (.return_, 1) := by decide +kernel
theorem dX2_note_0 : decode cX2_note 0 = .ok (.aload_n 0, 1) := by decide +kernel
theorem dX2_note_1 : decode cX2_note 1 = .ok (.invokevirtual 56, 3) := by decide +kernel
theorem dX2_note_4 : decode cX2_note 4 = .ok (.istore_n 3, 1) := by decide +kernel
theorem dX2_note_5 : decode cX2_note 5 = .ok (.aload_n 0, 1) := by decide +kernel
theorem dX2_note_6 : decode cX2_note 6 = .ok (.getfield 12, 3) := by decide +kernel
theorem dX2_note_9 : decode cX2_note 9 = .ok (.invokevirtual 60, 3) := by decide +kernel
theorem dX2_note_12 : decode cX2_note 12 = .ok (.ifCond .ne 13, 3) := by decide +kernel
theorem dX2_note_15 : decode cX2_note 15 = .ok (.aload_n 0, 1) := by decide +kernel
theorem dX2_note_16 : decode cX2_note 16 = .ok (.getfield 18, 3) := by decide +kernel
theorem dX2_note_19 : decode cX2_note 19 = .ok (.invokevirtual 60, 3) := by decide +kernel
theorem dX2_note_22 : decode cX2_note 22 = .ok (.ifCond .eq 7, 3) := by decide +kernel
theorem dX2_note_29 : decode cX2_note 29 = .ok (.iconst 0, 1) := by decide +kernel
theorem dX2_note_30 : decode cX2_note 30 = .ok (.istore 4, 2) := by decide +kernel
theorem dX2_note_32 : decode cX2_note 32 = .ok (.aload_n 0, 1) := by decide +kernel
theorem dX2_note_33 : decode cX2_note 33 = .ok (.getfield 12, 3) := by decide +kernel
theorem dX2_note_36 : decode cX2_note 36 = .ok (.getfield 64, 3) := by decide +kernel
theorem dX2_note_39 : decode cX2_note 39 = .ok (.aload_n 0, 1) := by decide +kernel
theorem dX2_note_40 : decode cX2_note 40 = .ok (.getfield 18, 3) := by decide +kernel
theorem dX2_note_43 : decode cX2_note 43 = .ok (.getfield 64, 3) := by decide +kernel
theorem dX2_note_46 : decode cX2_note 46 = .ok (.if_icmp .ne 20, 3) := by decide +kernel
theorem dX2_note_49 : decode cX2_note 49 = .ok (.aload_n 0, 1) := by decide +kernel
theorem dX2_note_50 : decode cX2_note 50 = .ok (.getfield 12, 3) := by decide +kernel
theorem dX2_note_53 : decode cX2_note 53 = .ok (.getfield 67, 3) := by decide +kernel
theorem dX2_note_56 : decode cX2_note 56 = .ok (.aload_n 0, 1) := by decide +kernel
theorem dX2_note_57 : decode cX2_note 57 = .ok (.getfield 18, 3) := by decide +kernel
theorem dX2_note_60 : decode cX2_note 60 = .ok (.getfield 67, 3) := by decide +kernel
theorem dX2_note_63 : decode cX2_note 63 = .ok (.if_icmp .eq 7, 3) := by decide +kernel
theorem dX2_note_70 : decode cX2_note 70 = .ok (.iconst 0, 1) := by decide +kernel
theorem dX2_note_71 : decode cX2_note 71 = .ok (.istore 5, 2) := by decide +kernel
theorem dX2_note_73 : decode cX2_note 73 = .ok (.aload_n 0, 1) := by decide +kernel
theorem dX2_note_74 : decode cX2_note 74 = .ok (.aload_n 0, 1) := by decide +kernel
theorem dX2_note_75 : decode cX2_note 75 = .ok (.getfield 31, 3) := by decide +kernel
theorem dX2_note_78 : decode cX2_note 78 = .ok (.ifCond .ne 8, 3) := by decide +kernel
theorem dX2_note_81 : decode cX2_note 81 = .ok (.iload 4, 2) := by decide +kernel
theorem dX2_note_83 : decode cX2_note 83 = .ok (.ifCond .eq 7, 3) := by decide +kernel
theorem dX2_note_90 : decode cX2_note 90 = .ok (.iconst 0, 1) := by decide +kernel
theorem dX2_note_91 : decode cX2_note 91 = .ok (.putfield 31, 3) := by decide +kernel
theorem dX2_note_94 : decode cX2_note 94 = .ok (.iload_n 3, 1) := by decide +kernel
theorem dX2_note_95 : decode cX2_note 95 = .ok (.iconst (-1), 1) := by decide +kernel
theorem dX2_note_96 : decode cX2_note 96 = .ok (.if_icmp .ne 14, 3) := by decide +kernel
theorem dX2_note_99 : decode cX2_note 99 = .ok (.iload 4, 2) := by decide +kernel
theorem dX2_note_101 : decode cX2_note 101 = .ok (.ifCond .ne 8, 3) := by decide +kernel
theorem dX2_note_104 : decode cX2_note 104 = .ok (.iload 5, 2) := by decide +kernel
theorem dX2_note_106 : decode cX2_note 106 = .ok (.ifCond .ne 4, 3) := by decide +kernel
theorem dX2_note_109 : decode cX2_note 109 = .ok (.return_, 1) := by decide +kernel
theorem dX2_placeThatDiffers_0 : decode cX2_placeThatDiffers 0 = .ok (.aload_n 0, 1) := by decide +kernel
theorem dX2_placeThatDiffers_1 : decode cX2_placeThatDiffers 1 = .ok (.getfield 12, 3) := by decide +kernel
theorem dX2_placeThatDiffers_4 : decode cX2_placeThatDiffers 4 = .ok (.getfield 64, 3) := by decide +kernel
theorem dX2_placeThatDiffers_7 : decode cX2_placeThatDiffers 7 = .ok (.aload_n 0, 1) := by decide +kernel
theorem dX2_placeThatDiffers_8 : decode cX2_placeThatDiffers 8 = .ok (.getfield 18, 3) := by decide +kernel
theorem dX2_placeThatDiffers_11 : decode cX2_placeThatDiffers 11 = .ok (.getfield 64, 3) := by decide +kernel
theorem dX2_placeThatDiffers_14 : decode cX2_placeThatDiffers 14 = .ok (.invokestatic 70, 3) := by decide +kernel
theorem dX2_placeThatDiffers_17 : decode cX2_placeThatDiffers 17 = .ok (.istore_n 1, 1) := by decide +kernel
theorem dX2_placeThatDiffers_18 : decode cX2_placeThatDiffers 18 = .ok (.iconst 0, 1) := by decide +kernel
theorem dX2_placeThatDiffers_19 : decode cX2_placeThatDiffers 19 = .ok (.istore_n 2, 1) := by decide +kernel
theorem dX2_placeThatDiffers_20 : decode cX2_placeThatDiffers 20 = .ok (.iload_n 2, 1) := by decide +kernel
theorem dX2_placeThatDiffers_21 : decode cX2_placeThatDiffers 21 = .ok (.iload_n 1, 1) := by decide +kernel
theorem dX2_placeThatDiffers_22 : decode cX2_placeThatDiffers 22 = .ok (.if_icmp .ge 30, 3) := by decide +kernel
theorem dX2_placeThatDiffers_52 : decode cX2_placeThatDiffers 52 = .ok (.iconst (-1), 1) := by decide +kernel
theorem dX2_placeThatDiffers_53 : decode cX2_placeThatDiffers 53 = .ok (.ireturn, 1) := by decide +kernel
theorem dX2_verdict_0 : decode cX2_verdict 0 = .ok (.aload_n 0, 1) := by decide +kernel
theorem dX2_verdict_1 : decode cX2_verdict 1 = .ok (.getfield 28, 3) := by decide +kernel
theorem dX2_verdict_4 : decode cX2_verdict 4 = .ok (.ifCond .le 7, 3) := by decide +kernel
theorem dX2_verdict_11 : decode cX2_verdict 11 = .ok (.aload_n 0, 1) := by decide +kernel
theorem dX2_verdict_12 : decode cX2_verdict 12 = .ok (.getfield 31, 3) := by decide +kernel
theorem dX2_verdict_15 : decode cX2_verdict 15 = .ok (.ifCond .eq 7, 3) := by decide +kernel
theorem dX2_verdict_22 : decode cX2_verdict 22 = .ok (.iconst 0, 1) := by decide +kernel
theorem dX2_verdict_23 : decode cX2_verdict 23 = .ok (.ireturn, 1) := by decide +kernel
theorem dX3_go_0 : decode cX3_go 0 = .ok (.iconst 0, 1) := by decide +kernel
theorem dX3_go_1 : decode cX3_go 1 = .ok (.istore_n 3, 1) := by decide +kernel
theorem dX3_go_2 : decode cX3_go 2 = .ok (.iload_n 3, 1) := by decide +kernel
theorem dX3_go_3 : decode cX3_go 3 = .ok (.aload_n 0, 1) := by decide +kernel
theorem dX3_go_4 : decode cX3_go 4 = .ok (.getfield 22, 3) := by decide +kernel
theorem dX3_go_7 : decode cX3_go 7 = .ok (.arraylength, 1) := by decide +kernel
theorem dX3_go_8 : decode cX3_go 8 = .ok (.if_icmp .ge 33, 3) := by decide +kernel
theorem dX3_go_11 : decode cX3_go 11 = .ok (.aload_n 0, 1) := by decide +kernel
theorem dX3_go_12 : decode cX3_go 12 = .ok (.getfield 22, 3) := by decide +kernel
theorem dX3_go_15 : decode cX3_go 15 = .ok (.iload_n 3, 1) := by decide +kernel
theorem dX3_go_16 : decode cX3_go 16 = .ok (.iload_n 3, 1) := by decide +kernel
theorem dX3_go_17 : decode cX3_go 17 = .ok (.ifCond .ne 7, 3) := by decide +kernel
theorem dX3_go_20 : decode cX3_go 20 = .ok (.iload_n 1, 1) := by decide +kernel
theorem dX3_go_21 : decode cX3_go 21 = .ok (.goto 13, 3) := by decide +kernel
theorem dX3_go_24 : decode cX3_go 24 = .ok (.iload_n 3, 1) := by decide +kernel
theorem dX3_go_25 : decode cX3_go 25 = .ok (.iconst 1, 1) := by decide +kernel
theorem dX3_go_26 : decode cX3_go 26 = .ok (.if_icmp .ne 7, 3) := by decide +kernel
theorem dX3_go_29 : decode cX3_go 29 = .ok (.iload_n 2, 1) := by decide +kernel
theorem dX3_go_30 : decode cX3_go 30 = .ok (.goto 4, 3) := by decide +kernel
theorem dX3_go_33 : decode cX3_go 33 = .ok (.iconst 0, 1) := by decide +kernel
theorem dX3_go_34 : decode cX3_go 34 = .ok (.iastore, 1) := by decide +kernel
theorem dX3_go_35 : decode cX3_go 35 = .ok (.iinc 3 1, 3) := by decide +kernel
theorem dX3_go_38 : decode cX3_go 38 = .ok (.goto (-36), 3) := by decide +kernel
theorem dX3_go_41 : decode cX3_go 41 = .ok (.aload_n 0, 1) := by decide +kernel
theorem dX3_go_42 : decode cX3_go 42 = .ok (.iconst 0, 1) := by decide +kernel
theorem dX3_go_43 : decode cX3_go 43 = .ok (.putfield 28, 3) := by decide +kernel
theorem dX3_go_46 : decode cX3_go 46 = .ok (.aload_n 0, 1) := by decide +kernel
theorem dX3_go_47 : decode cX3_go 47 = .ok (.getfield 12, 3) := by decide +kernel
theorem dX3_go_50 : decode cX3_go 50 = .ok (.getfield 32, 3) := by decide +kernel
theorem dX3_go_53 : decode cX3_go 53 = .ok (.ifCond .le 7, 3) := by decide +kernel
theorem dX3_go_60 : decode cX3_go 60 = .ok (.iconst (-1), 1) := by decide +kernel
theorem dX3_go_61 : decode cX3_go 61 = .ok (.istore_n 3, 1) := by decide +kernel
theorem dX3_go_62 : decode cX3_go 62 = .ok (.aload_n 0, 1) := by decide +kernel
theorem dX3_go_63 : decode cX3_go 63 = .ok (.iconst 0, 1) := by decide +kernel
theorem dX3_go_64 : decode cX3_go 64 = .ok (.putfield 35, 3) := by decide +kernel
theorem dX3_go_67 : decode cX3_go 67 = .ok (.aload_n 0, 1) := by decide +kernel
theorem dX3_go_68 : decode cX3_go 68 = .ok (.getfield 35, 3) := by decide +kernel
theorem dX3_go_71 : decode cX3_go 71 = .ok (.bipush 100, 2) := by decide +kernel
theorem dX3_go_73 : decode cX3_go 73 = .ok (.if_icmp .ge 26, 3) := by decide +kernel
theorem dX3_go_76 : decode cX3_go 76 = .ok (.iload_n 3, 1) := by decide +kernel
theorem dX3_go_77 : decode cX3_go 77 = .ok (.ifCond .lt 22, 3) := by decide +kernel
theorem dX3_go_99 : decode cX3_go 99 = .ok (.aload_n 0, 1) := by decide +kernel
theorem dX3_go_100 : decode cX3_go 100 = .ok (.iload_n 3, 1) := by decide +kernel
theorem dX3_go_101 : decode cX3_go 101 = .ok (.bipush (-2), 2) := by decide +kernel
theorem dX3_go_103 : decode cX3_go 103 = .ok (.if_icmp .ne 7, 3) := by decide +kernel
theorem dX3_go_110 : decode cX3_go 110 = .ok (.iload_n 3, 1) := by decide +kernel
theorem dX3_go_111 : decode cX3_go 111 = .ok (.ifCond .lt 7, 3) := by decide +kernel
theorem dX3_go_118 : decode cX3_go 118 = .ok (.iconst 0, 1) := by decide +kernel
theorem dX3_go_119 : decode cX3_go 119 = .ok (.putfield 42, 3) := by decide +kernel
theorem dX3_go_122 : decode cX3_go 122 = .ok (.return_, 1) := by decide +kernel
theorem dX3_init_0 : decode cX3_init 0 = .ok (.aload_n 0, 1) := by decide +kernel
theorem dX3_init_1 : decode cX3_init 1 = .ok (.invokespecial 3, 3) := by decide +kernel
theorem dX3_init_4 : decode cX3_init 4 = .ok (.aload_n 0, 1) := by decide +kernel
theorem dX3_init_5 : decode cX3_init 5 = .ok (.new 9, 3) := by decide +kernel
theorem dX3_init_8 : decode cX3_init 8 = .ok (.dup, 1) := by decide +kernel
theorem dX3_init_9 : decode cX3_init 9 = .ok (.invokespecial 11, 3) := by decide +kernel
theorem dX3_init_12 : decode cX3_init 12 = .ok (.putfield 12, 3) := by decide +kernel
theorem dX3_init_15 : decode cX3_init 15 = .ok (.aload_n 0, 1) := by decide +kernel
theorem dX3_init_16 : decode cX3_init 16 = .ok (.bipush 100, 2) := by decide +kernel
theorem dX3_init_18 : decode cX3_init 18 = .ok (.newarray .int, 2) := by decide +kernel
theorem dX3_init_20 : decode cX3_init 20 = .ok (.putfield 18, 3) := by decide +kernel
theorem dX3_init_23 : decode cX3_init 23 = .ok (.aload_n 0, 1) := by decide +kernel
theorem dX3_init_24 : decode cX3_init 24 = .ok (.bipush 6, 2) := by decide +kernel
theorem dX3_init_26 : decode cX3_init 26 = .ok (.newarray .int, 2) := by decide +kernel
theorem dX3_init_28 : decode cX3_init 28 = .ok (.putfield 22, 3) := by decide +kernel
theorem dX3_init_31 : decode cX3_init 31 = .ok (.aload_n 0, 1) := by decide +kernel
theorem dX3_init_32 : decode cX3_init 32 = .ok (.sipush 300, 3) := by decide +kernel
theorem dX3_init_35 : decode cX3_init 35 = .ok (.newarray .int, 2) := by decide +kernel
theorem dX3_init_37 : decode cX3_init 37 = .ok (.putfield 25, 3) := by decide +kernel
theorem dX3_init_40 : decode cX3_init 40 = .ok (.return_, 1) := by decide +kernel
theorem dX3_isTired_0 : decode cX3_isTired 0 = .ok (.aload_n 0, 1) := by decide +kernel
theorem dX3_isTired_1 : decode cX3_isTired 1 = .ok (.getfield 42, 3) := by decide +kernel
theorem dX3_isTired_4 : decode cX3_isTired 4 = .ok (.iconst 2, 1) := by decide +kernel
theorem dX3_isTired_5 : decode cX3_isTired 5 = .ok (.if_icmp .ne 7, 3) := by decide +kernel
theorem dX3_isTired_12 : decode cX3_isTired 12 = .ok (.iconst 0, 1) := by decide +kernel
theorem dX3_isTired_13 : decode cX3_isTired 13 = .ok (.ireturn, 1) := by decide +kernel
theorem dX3_output_0 : decode cX3_output 0 = .ok (.iload_n 1, 1) := by decide +kernel
theorem dX3_output_1 : decode cX3_output 1 = .ok (.ifCond .lt 29, 3) := by decide +kernel
theorem dX3_output_4 : decode cX3_output 4 = .ok (.iload_n 1, 1) := by decide +kernel
theorem dX3_output_5 : decode cX3_output 5 = .ok (.aload_n 0, 1) := by decide +kernel
theorem dX3_output_6 : decode cX3_output 6 = .ok (.getfield 28, 3) := by decide +kernel
theorem dX3_output_9 : decode cX3_output 9 = .ok (.if_icmp .ge 21, 3) := by decide +kernel
theorem dX3_output_30 : decode cX3_output 30 = .ok (.iconst (-1), 1) := by decide +kernel
theorem dX3_output_31 : decode cX3_output 31 = .ok (.ireturn, 1) := by decide +kernel
theorem dX3_tell_0 : decode cX3_tell 0 = .ok (.iload_n 1, 1) := by decide +kernel
theorem dX3_tell_1 : decode cX3_tell 1 = .ok (.ifCond .ne 8, 3) := by decide +kernel
theorem dX3_tell_4 : decode cX3_tell 4 = .ok (.aload_n 0, 1) := by decide +kernel
theorem dX3_tell_5 : decode cX3_tell 5 = .ok (.getfield 42, 3) := by decide +kernel
theorem dX3_tell_8 : decode cX3_tell 8 = .ok (.ireturn, 1) := by decide +kernel
theorem dX3_tell_9 : decode cX3_tell 9 = .ok (.iload_n 1, 1) := by decide +kernel
theorem dX3_tell_10 : decode cX3_tell 10 = .ok (.iconst 1, 1) := by decide +kernel
theorem dX3_tell_11 : decode cX3_tell 11 = .ok (.if_icmp .ne 8, 3) := by decide +kernel
theorem dX3_tell_14 : decode cX3_tell 14 = .ok (.aload_n 0, 1) := by decide +kernel
theorem dX3_tell_15 : decode cX3_tell 15 = .ok (.getfield 35, 3) := by decide +kernel
theorem dX3_tell_18 : decode cX3_tell 18 = .ok (.ireturn, 1) := by decide +kernel
theorem dX3_tell_19 : decode cX3_tell 19 = .ok (.iload_n 1, 1) := by decide +kernel
theorem dX3_tell_20 : decode cX3_tell 20 = .ok (.iconst 2, 1) := by decide +kernel
theorem dX3_tell_21 : decode cX3_tell 21 = .ok (.if_icmp .ne 8, 3) := by decide +kernel
theorem dX3_tell_24 : decode cX3_tell 24 = .ok (.aload_n 0, 1) := by decide +kernel
theorem dX3_tell_25 : decode cX3_tell 25 = .ok (.getfield 28, 3) := by decide +kernel
theorem dX3_tell_28 : decode cX3_tell 28 = .ok (.ireturn, 1) := by decide +kernel
theorem dX3_tell_29 : decode cX3_tell 29 = .ok (.iload_n 1, 1) := by decide +kernel
theorem dX3_tell_30 : decode cX3_tell 30 = .ok (.bipush 10, 2) := by decide +kernel
theorem dX3_tell_32 : decode cX3_tell 32 = .ok (.if_icmp .lt 19, 3) := by decide +kernel
theorem dX3_tell_35 : decode cX3_tell 35 = .ok (.iload_n 1, 1) := by decide +kernel
theorem dX3_tell_36 : decode cX3_tell 36 = .ok (.bipush 16, 2) := by decide +kernel
theorem dX3_tell_38 : decode cX3_tell 38 = .ok (.if_icmp .ge 13, 3) := by decide +kernel
theorem dX3_tell_41 : decode cX3_tell 41 = .ok (.aload_n 0, 1) := by decide +kernel
theorem dX3_tell_42 : decode cX3_tell 42 = .ok (.getfield 22, 3) := by decide +kernel
theorem dX3_tell_45 : decode cX3_tell 45 = .ok (.iload_n 1, 1) := by decide +kernel
theorem dX3_tell_46 : decode cX3_tell 46 = .ok (.bipush 10, 2) := by decide +kernel
theorem dX3_tell_48 : decode cX3_tell 48 = .ok (.isub, 1) := by decide +kernel
theorem dX3_tell_49 : decode cX3_tell 49 = .ok (.iaload, 1) := by decide +kernel
theorem dX3_tell_50 : decode cX3_tell 50 = .ok (.ireturn, 1) := by decide +kernel
theorem dX3_tell_51 : decode cX3_tell 51 = .ok (.iload_n 1, 1) := by decide +kernel
theorem dX3_tell_52 : decode cX3_tell 52 = .ok (.bipush 100, 2) := by decide +kernel
theorem dX3_tell_54 : decode cX3_tell 54 = .ok (.if_icmp .lt 14, 3) := by decide +kernel
theorem dX3_tell_57 : decode cX3_tell 57 = .ok (.aload_n 0, 1) := by decide +kernel
theorem dX3_tell_58 : decode cX3_tell 58 = .ok (.iload_n 1, 1) := by decide +kernel
theorem dX3_tell_59 : decode cX3_tell 59 = .ok (.bipush 100, 2) := by decide +kernel
theorem dX3_tell_61 : decode cX3_tell 61 = .ok (.isub, 1) := by decide +kernel
theorem dX3_tell_62 : decode cX3_tell 62 = .ok (.invokevirtual 45, 3) := by decide +kernel
theorem dX3_tell_65 : decode cX3_tell 65 = .ok (.goto 4, 3) := by decide +kernel
theorem dX3_tell_68 : decode cX3_tell 68 = .ok (.iconst (-1), 1) := by decide +kernel
theorem dX3_tell_69 : decode cX3_tell 69 = .ok (.ireturn, 1) := by decide +kernel
theorem dX4_addItem_0 : decode cX4_addItem 0 = .ok (.iload_n 1, 1) := by decide +kernel
theorem dX4_addItem_1 : decode cX4_addItem 1 = .ok (.invokestatic 63, 3) := by decide +kernel
theorem dX4_addItem_4 : decode cX4_addItem 4 = .ok (.ifCond .eq 14, 3) := by decide +kernel
theorem dX4_addItem_7 : decode cX4_addItem 7 = .ok (.aload_n 0, 1) := by decide +kernel
theorem dX4_addItem_8 : decode cX4_addItem 8 = .ok (.getfield 23, 3) := by decide +kernel
theorem dX4_addItem_11 : decode cX4_addItem 11 = .ok (.iload_n 1, 1) := by decide +kernel
theorem dX4_addItem_12 : decode cX4_addItem 12 = .ok (.iaload, 1) := by decide +kernel
theorem dX4_addItem_13 : decode cX4_addItem 13 = .ok (.bipush 8, 2) := by decide +kernel
theorem dX4_addItem_15 : decode cX4_addItem 15 = .ok (.if_icmp .lt 5, 3) := by decide +kernel
theorem dX4_addItem_18 : decode cX4_addItem 18 = .ok (.iconst (-1), 1) := by decide +kernel
theorem dX4_addItem_19 : decode cX4_addItem 19 = .ok (.ireturn, 1) := by decide +kernel
theorem dX4_addItem_20 : decode cX4_addItem 20 = .ok (.aload_n 0, 1) := by decide +kernel
theorem dX4_addItem_21 : decode cX4_addItem 21 = .ok (.getfield 20, 3) := by decide +kernel
theorem dX4_addItem_24 : decode cX4_addItem 24 = .ok (.iload_n 1, 1) := by decide +kernel
theorem dX4_addItem_25 : decode cX4_addItem 25 = .ok (.aaload, 1) := by decide +kernel
theorem dX4_addItem_26 : decode cX4_addItem 26 = .ok (.aload_n 0, 1) := by decide +kernel
theorem dX4_addItem_27 : decode cX4_addItem 27 = .ok (.getfield 23, 3) := by decide +kernel
theorem dX4_addItem_30 : decode cX4_addItem 30 = .ok (.iload_n 1, 1) := by decide +kernel
theorem dX4_addItem_31 : decode cX4_addItem 31 = .ok (.iaload, 1) := by decide +kernel
theorem dX4_addItem_32 : decode cX4_addItem 32 = .ok (.iload_n 2, 1) := by decide +kernel
theorem dX4_addItem_33 : decode cX4_addItem 33 = .ok (.iastore, 1) := by decide +kernel
theorem dX4_addItem_34 : decode cX4_addItem 34 = .ok (.aload_n 0, 1) := by decide +kernel
theorem dX4_addItem_35 : decode cX4_addItem 35 = .ok (.getfield 23, 3) := by decide +kernel
theorem dX4_addItem_38 : decode cX4_addItem 38 = .ok (.iload_n 1, 1) := by decide +kernel
theorem dX4_addItem_39 : decode cX4_addItem 39 = .ok (.dup2, 1) := by decide +kernel
theorem dX4_addItem_40 : decode cX4_addItem 40 = .ok (.iaload, 1) := by decide +kernel
theorem dX4_addItem_41 : decode cX4_addItem 41 = .ok (.iconst 1, 1) := by decide +kernel
theorem dX4_addItem_42 : decode cX4_addItem 42 = .ok (.iadd, 1) := by decide +kernel
theorem dX4_addItem_43 : decode cX4_addItem 43 = .ok (.iastore, 1) := by decide +kernel
theorem dX4_addItem_44 : decode cX4_addItem 44 = .ok (.aload_n 0, 1) := by decide +kernel
theorem dX4_addItem_45 : decode cX4_addItem 45 = .ok (.getfield 23, 3) := by decide +kernel
theorem dX4_addItem_48 : decode cX4_addItem 48 = .ok (.iload_n 1, 1) := by decide +kernel
theorem dX4_addItem_49 : decode cX4_addItem 49 = .ok (.iaload, 1) := by decide +kernel
theorem dX4_addItem_50 : decode cX4_addItem 50 = .ok (.ireturn, 1) := by decide +kernel
theorem dX4_cutDown_0 : decode cX4_cutDown 0 = .ok (.aload_n 2, 1) := by decide +kernel
theorem dX4_cutDown_1 : decode cX4_cutDown 1 = .ok (.invokevirtual 127, 3) := by decide +kernel
theorem dX4_cutDown_4 : decode cX4_cutDown 4 = .ok (.istore_n 3, 1) := by decide +kernel
theorem dX4_cutDown_5 : decode cX4_cutDown 5 = .ok (.iload_n 3, 1) := by decide +kernel
theorem dX4_cutDown_6 : decode cX4_cutDown 6 = .ok (.iconst 1, 1) := by decide +kernel
theorem dX4_cutDown_7 : decode cX4_cutDown 7 = .ok (.if_icmp .lt 26, 3) := by decide +kernel
theorem dX4_cutDown_33 : decode cX4_cutDown 33 = .ok (.iconst 0, 1) := by decide +kernel
theorem dX4_cutDown_34 : decode cX4_cutDown 34 = .ok (.ireturn, 1) := by decide +kernel
theorem dX4_dropItems_0 : decode cX4_dropItems 0 = .ok (.iload_n 1, 1) := by decide +kernel
theorem dX4_dropItems_1 : decode cX4_dropItems 1 = .ok (.invokestatic 63, 3) := by decide +kernel
theorem dX4_dropItems_4 : decode cX4_dropItems 4 = .ok (.ifCond .ne 5, 3) := by decide +kernel
theorem dX4_dropItems_7 : decode cX4_dropItems 7 = .ok (.iconst 0, 1) := by decide +kernel
theorem dX4_dropItems_8 : decode cX4_dropItems 8 = .ok (.ireturn, 1) := by decide +kernel
theorem dX4_dropItems_9 : decode cX4_dropItems 9 = .ok (.aload_n 0, 1) := by decide +kernel
theorem dX4_dropItems_10 : decode cX4_dropItems 10 = .ok (.getfield 23, 3) := by decide +kernel
theorem dX4_dropItems_13 : decode cX4_dropItems 13 = .ok (.iload_n 1, 1) := by decide +kernel
theorem dX4_dropItems_14 : decode cX4_dropItems 14 = .ok (.iconst 0, 1) := by decide +kernel
theorem dX4_dropItems_15 : decode cX4_dropItems 15 = .ok (.iastore, 1) := by decide +kernel
theorem dX4_dropItems_16 : decode cX4_dropItems 16 = .ok (.iconst 1, 1) := by decide +kernel
theorem dX4_dropItems_17 : decode cX4_dropItems 17 = .ok (.ireturn, 1) := by decide +kernel
theorem dX4_findBad_0 : decode cX4_findBad 0 = .ok (.aload_n 0, 1) := by decide +kernel
theorem dX4_findBad_1 : decode cX4_findBad 1 = .ok (.iconst (-1), 1) := by decide +kernel
theorem dX4_findBad_2 : decode cX4_findBad 2 = .ok (.putfield 56, 3) := by decide +kernel
theorem dX4_findBad_5 : decode cX4_findBad 5 = .ok (.aload_n 0, 1) := by decide +kernel
theorem dX4_findBad_6 : decode cX4_findBad 6 = .ok (.iconst (-1), 1) := by decide +kernel
theorem dX4_findBad_7 : decode cX4_findBad 7 = .ok (.putfield 60, 3) := by decide +kernel
theorem dX4_findBad_10 : decode cX4_findBad 10 = .ok (.aload_n 0, 1) := by decide +kernel
theorem dX4_findBad_11 : decode cX4_findBad 11 = .ok (.getfield 43, 3) := by decide +kernel
theorem dX4_findBad_14 : decode cX4_findBad 14 = .ok (.aload_n 1, 1) := by decide +kernel
theorem dX4_findBad_15 : decode cX4_findBad 15 = .ok (.invokevirtual 67, 3) := by decide +kernel
theorem dX4_findBad_18 : decode cX4_findBad 18 = .ok (.iconst 0, 1) := by decide +kernel
theorem dX4_findBad_19 : decode cX4_findBad 19 = .ok (.istore_n 2, 1) := by decide +kernel
theorem dX4_findBad_20 : decode cX4_findBad 20 = .ok (.iload_n 2, 1) := by decide +kernel
theorem dX4_findBad_21 : decode cX4_findBad 21 = .ok (.bipush 6, 2) := by decide +kernel
theorem dX4_findBad_23 : decode cX4_findBad 23 = .ok (.if_icmp .ge 78, 3) := by decide +kernel
theorem dX4_findBad_26 : decode cX4_findBad 26 = .ok (.aload_n 0, 1) := by decide +kernel
theorem dX4_findBad_27 : decode cX4_findBad 27 = .ok (.getfield 56, 3) := by decide +kernel
theorem dX4_findBad_30 : decode cX4_findBad 30 = .ok (.iconst (-1), 1) := by decide +kernel
theorem dX4_findBad_31 : decode cX4_findBad 31 = .ok (.if_icmp .ne 70, 3) := by decide +kernel
theorem dX4_findBad_34 : decode cX4_findBad 34 = .ok (.aload_n 0, 1) := by decide +kernel
theorem dX4_findBad_35 : decode cX4_findBad 35 = .ok (.iload_n 2, 1) := by decide +kernel
theorem dX4_findBad_36 : decode cX4_findBad 36 = .ok (.aload_n 0, 1) := by decide +kernel
theorem dX4_findBad_37 : decode cX4_findBad 37 = .ok (.getfield 43, 3) := by decide +kernel
theorem dX4_findBad_40 : decode cX4_findBad 40 = .ok (.invokevirtual 109, 3) := by decide +kernel
theorem dX4_findBad_43 : decode cX4_findBad 43 = .ok (.ifCond .ne 11, 3) := by decide +kernel
theorem dX4_findBad_54 : decode cX4_findBad 54 = .ok (.aload_n 0, 1) := by decide +kernel
theorem dX4_findBad_55 : decode cX4_findBad 55 = .ok (.aload_n 0, 1) := by decide +kernel
theorem dX4_findBad_56 : decode cX4_findBad 56 = .ok (.getfield 43, 3) := by decide +kernel
theorem dX4_findBad_59 : decode cX4_findBad 59 = .ok (.invokevirtual 113, 3) := by decide +kernel
theorem dX4_findBad_62 : decode cX4_findBad 62 = .ok (.ifCond .eq 22, 3) := by decide +kernel
theorem dX4_findBad_84 : decode cX4_findBad 84 = .ok (.aload_n 0, 1) := by decide +kernel
theorem dX4_findBad_85 : decode cX4_findBad 85 = .ok (.getfield 43, 3) := by decide +kernel
theorem dX4_findBad_88 : decode cX4_findBad 88 = .ok (.aload_n 0, 1) := by decide +kernel
theorem dX4_findBad_89 : decode cX4_findBad 89 = .ok (.getfield 39, 3) := by decide +kernel
theorem dX4_findBad_92 : decode cX4_findBad 92 = .ok (.invokevirtual 67, 3) := by decide +kernel
theorem dX4_findBad_95 : decode cX4_findBad 95 = .ok (.iinc 2 1, 3) := by decide +kernel
theorem dX4_findBad_98 : decode cX4_findBad 98 = .ok (.goto (-78), 3) := by decide +kernel
theorem dX4_findBad_101 : decode cX4_findBad 101 = .ok (.return_, 1) := by decide +kernel
theorem dX4_init_0 : decode cX4_init 0 = .ok (.aload_n 0, 1) := by decide +kernel
theorem dX4_init_1 : decode cX4_init 1 = .ok (.invokespecial 3, 3) := by decide +kernel
theorem dX4_init_4 : decode cX4_init 4 = .ok (.aload_n 0, 1) := by decide +kernel
theorem dX4_init_5 : decode cX4_init 5 = .ok (.bipush 12, 2) := by decide +kernel
theorem dX4_init_7 : decode cX4_init 7 = .ok (.anewarray 9, 3) := by decide +kernel
theorem dX4_init_10 : decode cX4_init 10 = .ok (.putfield 11, 3) := by decide +kernel
theorem dX4_init_13 : decode cX4_init 13 = .ok (.iconst 0, 1) := by decide +kernel
theorem dX4_init_14 : decode cX4_init 14 = .ok (.istore_n 1, 1) := by decide +kernel
theorem dX4_init_15 : decode cX4_init 15 = .ok (.iload_n 1, 1) := by decide +kernel
theorem dX4_init_16 : decode cX4_init 16 = .ok (.bipush 12, 2) := by decide +kernel
theorem dX4_init_18 : decode cX4_init 18 = .ok (.if_icmp .ge 22, 3) := by decide +kernel
theorem dX4_init_21 : decode cX4_init 21 = .ok (.aload_n 0, 1) := by decide +kernel
theorem dX4_init_22 : decode cX4_init 22 = .ok (.getfield 11, 3) := by decide +kernel
theorem dX4_init_25 : decode cX4_init 25 = .ok (.iload_n 1, 1) := by decide +kernel
theorem dX4_init_26 : decode cX4_init 26 = .ok (.new 9, 3) := by decide +kernel
theorem dX4_init_29 : decode cX4_init 29 = .ok (.dup, 1) := by decide +kernel
theorem dX4_init_30 : decode cX4_init 30 = .ok (.invokespecial 17, 3) := by decide +kernel
theorem dX4_init_33 : decode cX4_init 33 = .ok (.aastore, 1) := by decide +kernel
theorem dX4_init_34 : decode cX4_init 34 = .ok (.iinc 1 1, 3) := by decide +kernel
theorem dX4_init_37 : decode cX4_init 37 = .ok (.goto (-22), 3) := by decide +kernel
theorem dX4_init_40 : decode cX4_init 40 = .ok (.aload_n 0, 1) := by decide +kernel
theorem dX4_init_41 : decode cX4_init 41 = .ok (.bipush 6, 2) := by decide +kernel
theorem dX4_init_43 : decode cX4_init 43 = .ok (.bipush 8, 2) := by decide +kernel
theorem dX4_init_45 : decode cX4_init 45 = .ok (.multianewarray 18 2, 4) := by decide +kernel
theorem dX4_init_49 : decode cX4_init 49 = .ok (.putfield 20, 3) := by decide +kernel
theorem dX4_init_52 : decode cX4_init 52 = .ok (.aload_n 0, 1) := by decide +kernel
theorem dX4_init_53 : decode cX4_init 53 = .ok (.bipush 6, 2) := by decide +kernel
theorem dX4_init_55 : decode cX4_init 55 = .ok (.newarray .int, 2) := by decide +kernel
theorem dX4_init_57 : decode cX4_init 57 = .ok (.putfield 23, 3) := by decide +kernel
theorem dX4_init_60 : decode cX4_init 60 = .ok (.aload_n 0, 1) := by decide +kernel
theorem dX4_init_61 : decode cX4_init 61 = .ok (.new 27, 3) := by decide +kernel
theorem dX4_init_64 : decode cX4_init 64 = .ok (.dup, 1) := by decide +kernel
theorem dX4_init_65 : decode cX4_init 65 = .ok (.invokespecial 29, 3) := by decide +kernel
theorem dX4_init_68 : decode cX4_init 68 = .ok (.putfield 30, 3) := by decide +kernel
theorem dX4_init_71 : decode cX4_init 71 = .ok (.aload_n 0, 1) := by decide +kernel
theorem dX4_init_72 : decode cX4_init 72 = .ok (.new 34, 3) := by decide +kernel
theorem dX4_init_75 : decode cX4_init 75 = .ok (.dup, 1) := by decide +kernel
theorem dX4_init_76 : decode cX4_init 76 = .ok (.sipush 1000, 3) := by decide +kernel
theorem dX4_init_79 : decode cX4_init 79 = .ok (.invokespecial 36, 3) := by decide +kernel
theorem dX4_init_82 : decode cX4_init 82 = .ok (.putfield 39, 3) := by decide +kernel
theorem dX4_init_85 : decode cX4_init 85 = .ok (.aload_n 0, 1) := by decide +kernel
theorem dX4_init_86 : decode cX4_init 86 = .ok (.new 34, 3) := by decide +kernel
theorem dX4_init_89 : decode cX4_init 89 = .ok (.dup, 1) := by decide +kernel
theorem dX4_init_90 : decode cX4_init 90 = .ok (.sipush 480, 3) := by decide +kernel
theorem dX4_init_93 : decode cX4_init 93 = .ok (.invokespecial 36, 3) := by decide +kernel
theorem dX4_init_96 : decode cX4_init 96 = .ok (.putfield 43, 3) := by decide +kernel
theorem dX4_init_99 : decode cX4_init 99 = .ok (.aload_n 0, 1) := by decide +kernel
theorem dX4_init_100 : decode cX4_init 100 = .ok (.new 34, 3) := by decide +kernel
theorem dX4_init_103 : decode cX4_init 103 = .ok (.dup, 1) := by decide +kernel
theorem dX4_init_104 : decode cX4_init 104 = .ok (.sipush 480, 3) := by decide +kernel
theorem dX4_init_107 : decode cX4_init 107 = .ok (.invokespecial 36, 3) := by decide +kernel
theorem dX4_init_110 : decode cX4_init 110 = .ok (.putfield 46, 3) := by decide +kernel
theorem dX4_init_113 : decode cX4_init 113 = .ok (.aload_n 0, 1) := by decide +kernel
theorem dX4_init_114 : decode cX4_init 114 = .ok (.new 49, 3) := by decide +kernel
theorem dX4_init_117 : decode cX4_init 117 = .ok (.dup, 1) := by decide +kernel
theorem dX4_init_118 : decode cX4_init 118 = .ok (.invokespecial 51, 3) := by decide +kernel
theorem dX4_init_121 : decode cX4_init 121 = .ok (.putfield 52, 3) := by decide +kernel
theorem dX4_init_124 : decode cX4_init 124 = .ok (.aload_n 0, 1) := by decide +kernel
theorem dX4_init_125 : decode cX4_init 125 = .ok (.iconst (-1), 1) := by decide +kernel
theorem dX4_init_126 : decode cX4_init 126 = .ok (.putfield 56, 3) := by decide +kernel
theorem dX4_init_129 : decode cX4_init 129 = .ok (.aload_n 0, 1) := by decide +kernel
theorem dX4_init_130 : decode cX4_init 130 = .ok (.iconst (-1), 1) := by decide +kernel
theorem dX4_init_131 : decode cX4_init 131 = .ok (.putfield 60, 3) := by decide +kernel
theorem dX4_init_134 : decode cX4_init 134 = .ok (.return_, 1) := by decide +kernel
theorem dX4_isPass_0 : decode cX4_isPass 0 = .ok (.iload_n 0, 1) := by decide +kernel
theorem dX4_isPass_1 : decode cX4_isPass 1 = .ok (.ifCond .lt 13, 3) := by decide +kernel
theorem dX4_isPass_4 : decode cX4_isPass 4 = .ok (.iload_n 0, 1) := by decide +kernel
theorem dX4_isPass_5 : decode cX4_isPass 5 = .ok (.bipush 6, 2) := by decide +kernel
theorem dX4_isPass_7 : decode cX4_isPass 7 = .ok (.if_icmp .ge 7, 3) := by decide +kernel
theorem dX4_isPass_10 : decode cX4_isPass 10 = .ok (.iconst 1, 1) := by decide +kernel
theorem dX4_isPass_11 : decode cX4_isPass 11 = .ok (.goto 4, 3) := by decide +kernel
theorem dX4_isPass_14 : decode cX4_isPass 14 = .ok (.iconst 0, 1) := by decide +kernel
theorem dX4_isPass_15 : decode cX4_isPass 15 = .ok (.ireturn, 1) := by decide +kernel
theorem dX4_madeWrong_0 : decode cX4_madeWrong 0 = .ok (.aload_n 1, 1) := by decide +kernel
theorem dX4_madeWrong_1 : decode cX4_madeWrong 1 = .ok (.aload_n 0, 1) := by decide +kernel
theorem dX4_madeWrong_2 : decode cX4_madeWrong 2 = .ok (.getfield 39, 3) := by decide +kernel
theorem dX4_madeWrong_5 : decode cX4_madeWrong 5 = .ok (.invokevirtual 120, 3) := by decide +kernel
theorem dX4_madeWrong_8 : decode cX4_madeWrong 8 = .ok (.ifCond .ne 23, 3) := by decide +kernel
theorem dX4_madeWrong_31 : decode cX4_madeWrong 31 = .ok (.iconst 0, 1) := by decide +kernel
theorem dX4_madeWrong_32 : decode cX4_madeWrong 32 = .ok (.ireturn, 1) := by decide +kernel
theorem dX4_makeOf_0 : decode cX4_makeOf 0 = .ok (.iload_n 1, 1) := by decide +kernel
theorem dX4_makeOf_1 : decode cX4_makeOf 1 = .ok (.invokestatic 63, 3) := by decide +kernel
theorem dX4_makeOf_4 : decode cX4_makeOf 4 = .ok (.ifCond .ne 5, 3) := by decide +kernel
theorem dX4_makeOf_7 : decode cX4_makeOf 7 = .ok (.iconst 0, 1) := by decide +kernel
theorem dX4_makeOf_8 : decode cX4_makeOf 8 = .ok (.ireturn, 1) := by decide +kernel
theorem dX4_makeOf_9 : decode cX4_makeOf 9 = .ok (.aload_n 0, 1) := by decide +kernel
theorem dX4_makeOf_10 : decode cX4_makeOf 10 = .ok (.getfield 39, 3) := by decide +kernel
theorem dX4_makeOf_13 : decode cX4_makeOf 13 = .ok (.aload_n 2, 1) := by decide +kernel
theorem dX4_makeOf_14 : decode cX4_makeOf 14 = .ok (.invokevirtual 67, 3) := by decide +kernel
theorem dX4_makeOf_17 : decode cX4_makeOf 17 = .ok (.iconst 0, 1) := by decide +kernel
theorem dX4_makeOf_18 : decode cX4_makeOf 18 = .ok (.istore_n 3, 1) := by decide +kernel
theorem dX4_makeOf_19 : decode cX4_makeOf 19 = .ok (.iload_n 3, 1) := by decide +kernel
theorem dX4_makeOf_20 : decode cX4_makeOf 20 = .ok (.aload_n 0, 1) := by decide +kernel
theorem dX4_makeOf_21 : decode cX4_makeOf 21 = .ok (.getfield 23, 3) := by decide +kernel
theorem dX4_makeOf_24 : decode cX4_makeOf 24 = .ok (.iload_n 1, 1) := by decide +kernel
theorem dX4_makeOf_25 : decode cX4_makeOf 25 = .ok (.iaload, 1) := by decide +kernel
theorem dX4_makeOf_26 : decode cX4_makeOf 26 = .ok (.if_icmp .ge 165, 3) := by decide +kernel
theorem dX4_makeOf_191 : decode cX4_makeOf 191 = .ok (.iconst 1, 1) := by decide +kernel
theorem dX4_makeOf_192 : decode cX4_makeOf 192 = .ok (.ireturn, 1) := by decide +kernel
theorem dX4_ruleAt_0 : decode cX4_ruleAt 0 = .ok (.iload_n 1, 1) := by decide +kernel
theorem dX4_ruleAt_1 : decode cX4_ruleAt 1 = .ok (.ifCond .lt 21, 3) := by decide +kernel
theorem dX4_ruleAt_4 : decode cX4_ruleAt 4 = .ok (.iload_n 1, 1) := by decide +kernel
theorem dX4_ruleAt_5 : decode cX4_ruleAt 5 = .ok (.aload_n 0, 1) := by decide +kernel
theorem dX4_ruleAt_6 : decode cX4_ruleAt 6 = .ok (.getfield 11, 3) := by decide +kernel
theorem dX4_ruleAt_9 : decode cX4_ruleAt 9 = .ok (.arraylength, 1) := by decide +kernel
theorem dX4_ruleAt_10 : decode cX4_ruleAt 10 = .ok (.if_icmp .ge 12, 3) := by decide +kernel
theorem dX4_ruleAt_13 : decode cX4_ruleAt 13 = .ok (.aload_n 0, 1) := by decide +kernel
theorem dX4_ruleAt_14 : decode cX4_ruleAt 14 = .ok (.getfield 11, 3) := by decide +kernel
theorem dX4_ruleAt_17 : decode cX4_ruleAt 17 = .ok (.iload_n 1, 1) := by decide +kernel
theorem dX4_ruleAt_18 : decode cX4_ruleAt 18 = .ok (.aaload, 1) := by decide +kernel
theorem dX4_ruleAt_19 : decode cX4_ruleAt 19 = .ok (.goto 4, 3) := by decide +kernel
theorem dX4_ruleAt_22 : decode cX4_ruleAt 22 = .ok (.aconst_null, 1) := by decide +kernel
theorem dX4_ruleAt_23 : decode cX4_ruleAt 23 = .ok (.areturn, 1) := by decide +kernel
theorem dX5_init_0 : decode cX5_init 0 = .ok (.aload_n 0, 1) := by decide +kernel
theorem dX5_init_1 : decode cX5_init 1 = .ok (.invokespecial 3, 3) := by decide +kernel
theorem dX5_init_4 : decode cX5_init 4 = .ok (.aload_n 0, 1) := by decide +kernel
theorem dX5_init_5 : decode cX5_init 5 = .ok (.iconst 3, 1) := by decide +kernel
theorem dX5_init_6 : decode cX5_init 6 = .ok (.newarray .int, 2) := by decide +kernel
theorem dX5_init_8 : decode cX5_init 8 = .ok (.putfield 9, 3) := by decide +kernel
theorem dX5_init_11 : decode cX5_init 11 = .ok (.aload_n 0, 1) := by decide +kernel
theorem dX5_init_12 : decode cX5_init 12 = .ok (.bipush 40, 2) := by decide +kernel
theorem dX5_init_14 : decode cX5_init 14 = .ok (.newarray .int, 2) := by decide +kernel
theorem dX5_init_16 : decode cX5_init 16 = .ok (.putfield 15, 3) := by decide +kernel
theorem dX5_init_19 : decode cX5_init 19 = .ok (.aload_n 0, 1) := by decide +kernel
theorem dX5_init_20 : decode cX5_init 20 = .ok (.bipush 20, 2) := by decide +kernel
theorem dX5_init_22 : decode cX5_init 22 = .ok (.sipush 512, 3) := by decide +kernel
theorem dX5_init_25 : decode cX5_init 25 = .ok (.multianewarray 18 2, 4) := by decide +kernel
theorem dX5_init_29 : decode cX5_init 29 = .ok (.putfield 20, 3) := by decide +kernel
theorem dX5_init_32 : decode cX5_init 32 = .ok (.aload_n 0, 1) := by decide +kernel
theorem dX5_init_33 : decode cX5_init 33 = .ok (.sipush 512, 3) := by decide +kernel
theorem dX5_init_36 : decode cX5_init 36 = .ok (.newarray .int, 2) := by decide +kernel
theorem dX5_init_38 : decode cX5_init 38 = .ok (.putfield 23, 3) := by decide +kernel
theorem dX5_init_41 : decode cX5_init 41 = .ok (.aload_n 0, 1) := by decide +kernel
theorem dX5_init_42 : decode cX5_init 42 = .ok (.sipush 512, 3) := by decide +kernel
theorem dX5_init_45 : decode cX5_init 45 = .ok (.newarray .int, 2) := by decide +kernel
theorem dX5_init_47 : decode cX5_init 47 = .ok (.putfield 26, 3) := by decide +kernel
theorem dX5_init_50 : decode cX5_init 50 = .ok (.aload_n 0, 1) := by decide +kernel
theorem dX5_init_51 : decode cX5_init 51 = .ok (.iconst (-1), 1) := by decide +kernel
theorem dX5_init_52 : decode cX5_init 52 = .ok (.putfield 29, 3) := by decide +kernel
theorem dX5_init_55 : decode cX5_init 55 = .ok (.return_, 1) := by decide +kernel
theorem dX6_begin_0 : decode cX6_begin 0 = .ok (.aload_n 0, 1) := by decide +kernel
theorem dX6_begin_1 : decode cX6_begin 1 = .ok (.iconst 0, 1) := by decide +kernel
theorem dX6_begin_2 : decode cX6_begin 2 = .ok (.putfield 37, 3) := by decide +kernel
theorem dX6_begin_5 : decode cX6_begin 5 = .ok (.aload_n 0, 1) := by decide +kernel
theorem dX6_begin_6 : decode cX6_begin 6 = .ok (.iconst (-1), 1) := by decide +kernel
theorem dX6_begin_7 : decode cX6_begin 7 = .ok (.putfield 41, 3) := by decide +kernel
theorem dX6_begin_10 : decode cX6_begin 10 = .ok (.aload_n 0, 1) := by decide +kernel
theorem dX6_begin_11 : decode cX6_begin 11 = .ok (.aload_n 1, 1) := by decide +kernel
theorem dX6_begin_12 : decode cX6_begin 12 = .ok (.putfield 23, 3) := by decide +kernel
theorem dX6_begin_15 : decode cX6_begin 15 = .ok (.aload_n 0, 1) := by decide +kernel
theorem dX6_begin_16 : decode cX6_begin 16 = .ok (.getfield 23, 3) := by decide +kernel
theorem dX6_begin_19 : decode cX6_begin 19 = .ok (.iconst 0, 1) := by decide +kernel
theorem dX6_begin_20 : decode cX6_begin 20 = .ok (.putfield 66, 3) := by decide +kernel
theorem dX6_begin_23 : decode cX6_begin 23 = .ok (.aload_n 0, 1) := by decide +kernel
theorem dX6_begin_24 : decode cX6_begin 24 = .ok (.aload_n 2, 1) := by decide +kernel
theorem dX6_begin_25 : decode cX6_begin 25 = .ok (.putfield 69, 3) := by decide +kernel
theorem dX6_begin_28 : decode cX6_begin 28 = .ok (.aload_n 0, 1) := by decide +kernel
theorem dX6_begin_29 : decode cX6_begin 29 = .ok (.iconst 0, 1) := by decide +kernel
theorem dX6_begin_30 : decode cX6_begin 30 = .ok (.putfield 73, 3) := by decide +kernel
theorem dX6_begin_33 : decode cX6_begin 33 = .ok (.aload_n 0, 1) := by decide +kernel
theorem dX6_begin_34 : decode cX6_begin 34 = .ok (.iconst 0, 1) := by decide +kernel
theorem dX6_begin_35 : decode cX6_begin 35 = .ok (.putfield 76, 3) := by decide +kernel
theorem dX6_begin_38 : decode cX6_begin 38 = .ok (.aload_n 0, 1) := by decide +kernel
theorem dX6_begin_39 : decode cX6_begin 39 = .ok (.iload_n 3, 1) := by decide +kernel
theorem dX6_begin_40 : decode cX6_begin 40 = .ok (.putfield 79, 3) := by decide +kernel
theorem dX6_begin_43 : decode cX6_begin 43 = .ok (.aload_n 0, 1) := by decide +kernel
theorem dX6_begin_44 : decode cX6_begin 44 = .ok (.iconst 0, 1) := by decide +kernel
theorem dX6_begin_45 : decode cX6_begin 45 = .ok (.putfield 82, 3) := by decide +kernel
theorem dX6_begin_48 : decode cX6_begin 48 = .ok (.aload_n 0, 1) := by decide +kernel
theorem dX6_begin_49 : decode cX6_begin 49 = .ok (.getfield 12, 3) := by decide +kernel
theorem dX6_begin_52 : decode cX6_begin 52 = .ok (.invokevirtual 85, 3) := by decide +kernel
theorem dX6_begin_55 : decode cX6_begin 55 = .ok (.return_, 1) := by decide +kernel
theorem dX6_beginExpression_0 : decode cX6_beginExpression 0 = .ok (.aload_n 0, 1) := by decide +kernel
theorem dX6_beginExpression_1 : decode cX6_beginExpression 1 = .ok (.iload_n 1, 1) := by decide +kernel
theorem dX6_beginExpression_2 : decode cX6_beginExpression 2 = .ok (.putfield 140, 3) := by decide +kernel
theorem dX6_beginExpression_5 : decode cX6_beginExpression 5 = .ok (.aload_n 0, 1) := by decide +kernel
theorem dX6_beginExpression_6 : decode cX6_beginExpression 6 = .ok (.aload_n 0, 1) := by decide +kernel
theorem dX6_beginExpression_7 : decode cX6_beginExpression 7 = .ok (.getfield 23, 3) := by decide +kernel
theorem dX6_beginExpression_10 : decode cX6_beginExpression 10 = .ok (.getfield 66, 3) := by decide +kernel
theorem dX6_beginExpression_13 : decode cX6_beginExpression 13 = .ok (.putfield 143, 3) := by decide +kernel
theorem dX6_beginExpression_16 : decode cX6_beginExpression 16 = .ok (.aload_n 0, 1) := by decide +kernel
theorem dX6_beginExpression_17 : decode cX6_beginExpression 17 = .ok (.aload_n 0, 1) := by decide +kernel
theorem dX6_beginExpression_18 : decode cX6_beginExpression 18 = .ok (.getfield 23, 3) := by decide +kernel
theorem dX6_beginExpression_21 : decode cX6_beginExpression 21 = .ok (.getfield 66, 3) := by decide +kernel
theorem dX6_beginExpression_24 : decode cX6_beginExpression 24 = .ok (.putfield 146, 3) := by decide +kernel
theorem dX6_beginExpression_27 : decode cX6_beginExpression 27 = .ok (.aload_n 0, 1) := by decide +kernel
theorem dX6_beginExpression_28 : decode cX6_beginExpression 28 = .ok (.iconst 5, 1) := by decide +kernel
theorem dX6_beginExpression_29 : decode cX6_beginExpression 29 = .ok (.putfield 52, 3) := by decide +kernel
theorem dX6_beginExpression_32 : decode cX6_beginExpression 32 = .ok (.return_, 1) := by decide +kernel
theorem dX6_beginProgram_0 : decode cX6_beginProgram 0 = .ok (.aload_n 0, 1) := by decide +kernel
theorem dX6_beginProgram_1 : decode cX6_beginProgram 1 = .ok (.aload_n 1, 1) := by decide +kernel
theorem dX6_beginProgram_2 : decode cX6_beginProgram 2 = .ok (.aconst_null, 1) := by decide +kernel
theorem dX6_beginProgram_3 : decode cX6_beginProgram 3 = .ok (.sipush 300, 3) := by decide +kernel
theorem dX6_beginProgram_6 : decode cX6_beginProgram 6 = .ok (.invokevirtual 48, 3) := by decide +kernel
theorem dX6_beginProgram_9 : decode cX6_beginProgram 9 = .ok (.aload_n 0, 1) := by decide +kernel
theorem dX6_beginProgram_10 : decode cX6_beginProgram 10 = .ok (.iconst 0, 1) := by decide +kernel
theorem dX6_beginProgram_11 : decode cX6_beginProgram 11 = .ok (.putfield 52, 3) := by decide +kernel
theorem dX6_beginProgram_14 : decode cX6_beginProgram 14 = .ok (.return_, 1) := by decide +kernel
theorem dX6_beginRule_0 : decode cX6_beginRule 0 = .ok (.aload_n 1, 1) := by decide +kernel
theorem dX6_beginRule_1 : decode cX6_beginRule 1 = .ok (.invokevirtual 55, 3) := by decide +kernel
theorem dX6_beginRule_4 : decode cX6_beginRule 4 = .ok (.aload_n 0, 1) := by decide +kernel
theorem dX6_beginRule_5 : decode cX6_beginRule 5 = .ok (.aload_n 1, 1) := by decide +kernel
theorem dX6_beginRule_6 : decode cX6_beginRule 6 = .ok (.getfield 60, 3) := by decide +kernel
theorem dX6_beginRule_9 : decode cX6_beginRule 9 = .ok (.aload_n 1, 1) := by decide +kernel
theorem dX6_beginRule_10 : decode cX6_beginRule 10 = .ok (.bipush 40, 2) := by decide +kernel
theorem dX6_beginRule_12 : decode cX6_beginRule 12 = .ok (.invokevirtual 48, 3) := by decide +kernel
theorem dX6_beginRule_15 : decode cX6_beginRule 15 = .ok (.aload_n 0, 1) := by decide +kernel
theorem dX6_beginRule_16 : decode cX6_beginRule 16 = .ok (.iconst 3, 1) := by decide +kernel
theorem dX6_beginRule_17 : decode cX6_beginRule 17 = .ok (.invokevirtual 63, 3) := by decide +kernel
theorem dX6_beginRule_20 : decode cX6_beginRule 20 = .ok (.return_, 1) := by decide +kernel
theorem dX6_drop_0 : decode cX6_drop 0 = .ok (.aload_n 0, 1) := by decide +kernel
theorem dX6_drop_1 : decode cX6_drop 1 = .ok (.iconst 0, 1) := by decide +kernel
theorem dX6_drop_2 : decode cX6_drop 2 = .ok (.putfield 37, 3) := by decide +kernel
theorem dX6_drop_5 : decode cX6_drop 5 = .ok (.aload_n 0, 1) := by decide +kernel
theorem dX6_drop_6 : decode cX6_drop 6 = .ok (.iconst (-1), 1) := by decide +kernel
theorem dX6_drop_7 : decode cX6_drop 7 = .ok (.putfield 41, 3) := by decide +kernel
theorem dX6_drop_10 : decode cX6_drop 10 = .ok (.aload_n 0, 1) := by decide +kernel
theorem dX6_drop_11 : decode cX6_drop 11 = .ok (.getfield 12, 3) := by decide +kernel
theorem dX6_drop_14 : decode cX6_drop 14 = .ok (.iconst 0, 1) := by decide +kernel
theorem dX6_drop_15 : decode cX6_drop 15 = .ok (.invokevirtual 44, 3) := by decide +kernel
theorem dX6_drop_18 : decode cX6_drop 18 = .ok (.pop, 1) := by decide +kernel
theorem dX6_drop_19 : decode cX6_drop 19 = .ok (.return_, 1) := by decide +kernel
theorem dX6_init_0 : decode cX6_init 0 = .ok (.aload_n 0, 1) := by decide +kernel
theorem dX6_init_1 : decode cX6_init 1 = .ok (.invokespecial 3, 3) := by decide +kernel
theorem dX6_init_4 : decode cX6_init 4 = .ok (.aload_n 0, 1) := by decide +kernel
theorem dX6_init_5 : decode cX6_init 5 = .ok (.new 9, 3) := by decide +kernel
theorem dX6_init_8 : decode cX6_init 8 = .ok (.dup, 1) := by decide +kernel
theorem dX6_init_9 : decode cX6_init 9 = .ok (.invokespecial 11, 3) := by decide +kernel
theorem dX6_init_12 : decode cX6_init 12 = .ok (.putfield 12, 3) := by decide +kernel
theorem dX6_init_15 : decode cX6_init 15 = .ok (.aload_n 0, 1) := by decide +kernel
theorem dX6_init_16 : decode cX6_init 16 = .ok (.new 18, 3) := by decide +kernel
theorem dX6_init_19 : decode cX6_init 19 = .ok (.dup, 1) := by decide +kernel
theorem dX6_init_20 : decode cX6_init 20 = .ok (.iconst 1, 1) := by decide +kernel
theorem dX6_init_21 : decode cX6_init 21 = .ok (.invokespecial 20, 3) := by decide +kernel
theorem dX6_init_24 : decode cX6_init 24 = .ok (.putfield 23, 3) := by decide +kernel
theorem dX6_init_27 : decode cX6_init 27 = .ok (.aload_n 0, 1) := by decide +kernel
theorem dX6_init_28 : decode cX6_init 28 = .ok (.bipush 8, 2) := by decide +kernel
theorem dX6_init_30 : decode cX6_init 30 = .ok (.newarray .int, 2) := by decide +kernel
theorem dX6_init_32 : decode cX6_init 32 = .ok (.putfield 27, 3) := by decide +kernel
theorem dX6_init_35 : decode cX6_init 35 = .ok (.aload_n 0, 1) := by decide +kernel
theorem dX6_init_36 : decode cX6_init 36 = .ok (.bipush 8, 2) := by decide +kernel
theorem dX6_init_38 : decode cX6_init 38 = .ok (.newarray .int, 2) := by decide +kernel
theorem dX6_init_40 : decode cX6_init 40 = .ok (.putfield 31, 3) := by decide +kernel
theorem dX6_init_43 : decode cX6_init 43 = .ok (.aload_n 0, 1) := by decide +kernel
theorem dX6_init_44 : decode cX6_init 44 = .ok (.bipush 8, 2) := by decide +kernel
theorem dX6_init_46 : decode cX6_init 46 = .ok (.newarray .int, 2) := by decide +kernel
theorem dX6_init_48 : decode cX6_init 48 = .ok (.putfield 34, 3) := by decide +kernel
theorem dX6_init_51 : decode cX6_init 51 = .ok (.aload_n 0, 1) := by decide +kernel
theorem dX6_init_52 : decode cX6_init 52 = .ok (.iconst 0, 1) := by decide +kernel
theorem dX6_init_53 : decode cX6_init 53 = .ok (.putfield 37, 3) := by decide +kernel
theorem dX6_init_56 : decode cX6_init 56 = .ok (.aload_n 0, 1) := by decide +kernel
theorem dX6_init_57 : decode cX6_init 57 = .ok (.iconst (-1), 1) := by decide +kernel
theorem dX6_init_58 : decode cX6_init 58 = .ok (.putfield 41, 3) := by decide +kernel
theorem dX6_init_61 : decode cX6_init 61 = .ok (.return_, 1) := by decide +kernel
theorem dX6_readAll_0 : decode cX6_readAll 0 = .ok (.iconst 0, 1) := by decide +kernel
theorem dX6_readAll_1 : decode cX6_readAll 1 = .ok (.istore_n 1, 1) := by decide +kernel
theorem dX6_readAll_2 : decode cX6_readAll 2 = .ok (.iload_n 1, 1) := by decide +kernel
theorem dX6_readAll_3 : decode cX6_readAll 3 = .ok (.sipush 800, 3) := by decide +kernel
theorem dX6_readAll_6 : decode cX6_readAll 6 = .ok (.if_icmp .gt 134, 3) := by decide +kernel
theorem dX6_readAll_9 : decode cX6_readAll 9 = .ok (.aload_n 0, 1) := by decide +kernel
theorem dX6_readAll_10 : decode cX6_readAll 10 = .ok (.getfield 37, 3) := by decide +kernel
theorem dX6_readAll_13 : decode cX6_readAll 13 = .ok (.ifCond .ne 127, 3) := by decide +kernel
theorem dX6_readAll_16 : decode cX6_readAll 16 = .ok (.aload_n 0, 1) := by decide +kernel
theorem dX6_readAll_17 : decode cX6_readAll 17 = .ok (.getfield 12, 3) := by decide +kernel
theorem dX6_readAll_20 : decode cX6_readAll 20 = .ok (.getfield 88, 3) := by decide +kernel
theorem dX6_readAll_23 : decode cX6_readAll 23 = .ok (.iconst 1, 1) := by decide +kernel
theorem dX6_readAll_24 : decode cX6_readAll 24 = .ok (.if_icmp .eq 116, 3) := by decide +kernel
theorem dX6_readAll_27 : decode cX6_readAll 27 = .ok (.aload_n 0, 1) := by decide +kernel
theorem dX6_readAll_28 : decode cX6_readAll 28 = .ok (.getfield 12, 3) := by decide +kernel
theorem dX6_readAll_31 : decode cX6_readAll 31 = .ok (.aload_n 0, 1) := by decide +kernel
theorem dX6_readAll_32 : decode cX6_readAll 32 = .ok (.getfield 69, 3) := by decide +kernel
theorem dX6_readAll_35 : decode cX6_readAll 35 = .ok (.ifnull 7, 3) := by decide +kernel
theorem dX6_readAll_38 : decode cX6_readAll 38 = .ok (.iconst 1, 1) := by decide +kernel
theorem dX6_readAll_39 : decode cX6_readAll 39 = .ok (.goto 4, 3) := by decide +kernel
theorem dX6_readAll_42 : decode cX6_readAll 42 = .ok (.iconst 0, 1) := by decide +kernel
theorem dX6_readAll_43 : decode cX6_readAll 43 = .ok (.invokevirtual 91, 3) := by decide +kernel
theorem dX6_readAll_46 : decode cX6_readAll 46 = .ok (.aload_n 0, 1) := by decide +kernel
theorem dX6_readAll_47 : decode cX6_readAll 47 = .ok (.getfield 52, 3) := by decide +kernel
theorem dX6_readAll_50 : decode cX6_readAll 50 = .ok (.tableswitch 80 1 6 #[38, 45, 52, 59, 66, 73], 38) := by decide +kernel
theorem dX6_readAll_116 : decode cX6_readAll 116 = .ok (.aload_n 0, 1) := by decide +kernel
theorem dX6_readAll_117 : decode cX6_readAll 117 = .ok (.invokevirtual 107, 3) := by decide +kernel
theorem dX6_readAll_120 : decode cX6_readAll 120 = .ok (.goto 14, 3) := by decide +kernel
theorem dX6_readAll_130 : decode cX6_readAll 130 = .ok (.aload_n 0, 1) := by decide +kernel
theorem dX6_readAll_131 : decode cX6_readAll 131 = .ok (.invokevirtual 113, 3) := by decide +kernel
theorem dX6_readAll_134 : decode cX6_readAll 134 = .ok (.iinc 1 1, 3) := by decide +kernel
theorem dX6_readAll_137 : decode cX6_readAll 137 = .ok (.goto (-135), 3) := by decide +kernel
theorem dX6_readAll_140 : decode cX6_readAll 140 = .ok (.aload_n 0, 1) := by decide +kernel
theorem dX6_readAll_141 : decode cX6_readAll 141 = .ok (.getfield 12, 3) := by decide +kernel
theorem dX6_readAll_144 : decode cX6_readAll 144 = .ok (.iconst 0, 1) := by decide +kernel
theorem dX6_readAll_145 : decode cX6_readAll 145 = .ok (.invokevirtual 44, 3) := by decide +kernel
theorem dX6_readAll_148 : decode cX6_readAll 148 = .ok (.pop, 1) := by decide +kernel
theorem dX6_readAll_149 : decode cX6_readAll 149 = .ok (.aload_n 0, 1) := by decide +kernel
theorem dX6_readAll_150 : decode cX6_readAll 150 = .ok (.getfield 37, 3) := by decide +kernel
theorem dX6_readAll_153 : decode cX6_readAll 153 = .ok (.ifCond .ne 7, 3) := by decide +kernel
theorem dX6_readAll_156 : decode cX6_readAll 156 = .ok (.iconst 1, 1) := by decide +kernel
theorem dX6_readAll_157 : decode cX6_readAll 157 = .ok (.goto 4, 3) := by decide +kernel
theorem dX6_readAll_160 : decode cX6_readAll 160 = .ok (.iconst 0, 1) := by decide +kernel
theorem dX6_readAll_161 : decode cX6_readAll 161 = .ok (.ireturn, 1) := by decide +kernel
theorem dX6_refuse_0 : decode cX6_refuse 0 = .ok (.aload_n 0, 1) := by decide +kernel
theorem dX6_refuse_1 : decode cX6_refuse 1 = .ok (.iload_n 1, 1) := by decide +kernel
theorem dX6_refuse_2 : decode cX6_refuse 2 = .ok (.putfield 37, 3) := by decide +kernel
theorem dX6_refuse_5 : decode cX6_refuse 5 = .ok (.aload_n 0, 1) := by decide +kernel
theorem dX6_refuse_6 : decode cX6_refuse 6 = .ok (.aload_n 0, 1) := by decide +kernel
theorem dX6_refuse_7 : decode cX6_refuse 7 = .ok (.getfield 12, 3) := by decide +kernel
theorem dX6_refuse_10 : decode cX6_refuse 10 = .ok (.getfield 116, 3) := by decide +kernel
theorem dX6_refuse_13 : decode cX6_refuse 13 = .ok (.putfield 41, 3) := by decide +kernel
theorem dX6_refuse_16 : decode cX6_refuse 16 = .ok (.return_, 1) := by decide +kernel
theorem dX6_takeOperand_0 : decode cX6_takeOperand 0 = .ok (.aload_n 0, 1) := by decide +kernel
theorem dX6_takeOperand_1 : decode cX6_takeOperand 1 = .ok (.getfield 12, 3) := by decide +kernel
theorem dX6_takeOperand_4 : decode cX6_takeOperand 4 = .ok (.getfield 88, 3) := by decide +kernel
theorem dX6_takeOperand_7 : decode cX6_takeOperand 7 = .ok (.bipush 40, 2) := by decide +kernel
theorem dX6_takeOperand_9 : decode cX6_takeOperand 9 = .ok (.if_icmp .ne 36, 3) := by decide +kernel
theorem dX6_takeOperand_45 : decode cX6_takeOperand 45 = .ok (.aload_n 0, 1) := by decide +kernel
theorem dX6_takeOperand_46 : decode cX6_takeOperand 46 = .ok (.getfield 12, 3) := by decide +kernel
theorem dX6_takeOperand_49 : decode cX6_takeOperand 49 = .ok (.getfield 88, 3) := by decide +kernel
theorem dX6_takeOperand_52 : decode cX6_takeOperand 52 = .ok (.iconst 2, 1) := by decide +kernel
theorem dX6_takeOperand_53 : decode cX6_takeOperand 53 = .ok (.if_icmp .ne 10, 3) := by decide +kernel
theorem dX6_takeOperand_63 : decode cX6_takeOperand 63 = .ok (.aload_n 0, 1) := by decide +kernel
theorem dX6_takeOperand_64 : decode cX6_takeOperand 64 = .ok (.getfield 12, 3) := by decide +kernel
theorem dX6_takeOperand_67 : decode cX6_takeOperand 67 = .ok (.getfield 88, 3) := by decide +kernel
theorem dX6_takeOperand_70 : decode cX6_takeOperand 70 = .ok (.iconst 3, 1) := by decide +kernel
theorem dX6_takeOperand_71 : decode cX6_takeOperand 71 = .ok (.if_icmp .ne 10, 3) := by decide +kernel
theorem dX6_takeOperand_81 : decode cX6_takeOperand 81 = .ok (.aload_n 0, 1) := by decide +kernel
theorem dX6_takeOperand_82 : decode cX6_takeOperand 82 = .ok (.iconst 1, 1) := by decide +kernel
theorem dX6_takeOperand_83 : decode cX6_takeOperand 83 = .ok (.invokevirtual 125, 3) := by decide +kernel
theorem dX6_takeOperand_86 : decode cX6_takeOperand 86 = .ok (.return_, 1) := by decide +kernel
theorem dX6_takeStatement_0 : decode cX6_takeStatement 0 = .ok (.aload_n 0, 1) := by decide +kernel
theorem dX6_takeStatement_1 : decode cX6_takeStatement 1 = .ok (.getfield 12, 3) := by decide +kernel
theorem dX6_takeStatement_4 : decode cX6_takeStatement 4 = .ok (.getfield 88, 3) := by decide +kernel
theorem dX6_takeStatement_7 : decode cX6_takeStatement 7 = .ok (.istore_n 1, 1) := by decide +kernel
theorem dX6_takeStatement_8 : decode cX6_takeStatement 8 = .ok (.iload_n 1, 1) := by decide +kernel
theorem dX6_takeStatement_9 : decode cX6_takeStatement 9 = .ok (.iconst 1, 1) := by decide +kernel
theorem dX6_takeStatement_10 : decode cX6_takeStatement 10 = .ok (.if_icmp .ne 11, 3) := by decide +kernel
theorem dX6_takeStatement_13 : decode cX6_takeStatement 13 = .ok (.aload_n 0, 1) := by decide +kernel
theorem dX6_takeStatement_14 : decode cX6_takeStatement 14 = .ok (.getfield 82, 3) := by decide +kernel
theorem dX6_takeStatement_17 : decode cX6_takeStatement 17 = .ok (.ifCond .ne 4, 3) := by decide +kernel
theorem dX6_takeStatement_20 : decode cX6_takeStatement 20 = .ok (.return_, 1) := by decide +kernel
theorem dX7_clashing_0 : decode cX7_clashing 0 = .ok (.iload_n 1, 1) := by decide +kernel
theorem dX7_clashing_1 : decode cX7_clashing 1 = .ok (.invokestatic 71, 3) := by decide +kernel
theorem dX7_clashing_4 : decode cX7_clashing 4 = .ok (.ifCond .eq 27, 3) := by decide +kernel
theorem dX7_clashing_7 : decode cX7_clashing 7 = .ok (.iload_n 2, 1) := by decide +kernel
theorem dX7_clashing_8 : decode cX7_clashing 8 = .ok (.invokestatic 71, 3) := by decide +kernel
theorem dX7_clashing_11 : decode cX7_clashing 11 = .ok (.ifCond .eq 20, 3) := by decide +kernel
theorem dX7_clashing_14 : decode cX7_clashing 14 = .ok (.aload_n 0, 1) := by decide +kernel
theorem dX7_clashing_15 : decode cX7_clashing 15 = .ok (.getfield 18, 3) := by decide +kernel
theorem dX7_clashing_18 : decode cX7_clashing 18 = .ok (.iload_n 1, 1) := by decide +kernel
theorem dX7_clashing_19 : decode cX7_clashing 19 = .ok (.iaload, 1) := by decide +kernel
theorem dX7_clashing_20 : decode cX7_clashing 20 = .ok (.iload_n 2, 1) := by decide +kernel
theorem dX7_clashing_21 : decode cX7_clashing 21 = .ok (.ishr, 1) := by decide +kernel
theorem dX7_clashing_22 : decode cX7_clashing 22 = .ok (.iconst 1, 1) := by decide +kernel
theorem dX7_clashing_23 : decode cX7_clashing 23 = .ok (.iand, 1) := by decide +kernel
theorem dX7_clashing_24 : decode cX7_clashing 24 = .ok (.ifCond .eq 7, 3) := by decide +kernel
theorem dX7_clashing_31 : decode cX7_clashing 31 = .ok (.iconst 0, 1) := by decide +kernel
theorem dX7_clashing_32 : decode cX7_clashing 32 = .ok (.ireturn, 1) := by decide +kernel
theorem dX7_comingsOf_0 : decode cX7_comingsOf 0 = .ok (.iconst 0, 1) := by decide +kernel
theorem dX7_comingsOf_1 : decode cX7_comingsOf 1 = .ok (.istore_n 2, 1) := by decide +kernel
theorem dX7_comingsOf_2 : decode cX7_comingsOf 2 = .ok (.iconst 0, 1) := by decide +kernel
theorem dX7_comingsOf_3 : decode cX7_comingsOf 3 = .ok (.istore_n 3, 1) := by decide +kernel
theorem dX7_comingsOf_4 : decode cX7_comingsOf 4 = .ok (.iload_n 3, 1) := by decide +kernel
theorem dX7_comingsOf_5 : decode cX7_comingsOf 5 = .ok (.bipush 6, 2) := by decide +kernel
theorem dX7_comingsOf_7 : decode cX7_comingsOf 7 = .ok (.if_icmp .ge 30, 3) := by decide +kernel
theorem dX7_comingsOf_10 : decode cX7_comingsOf 10 = .ok (.iload_n 2, 1) := by decide +kernel
theorem dX7_comingsOf_11 : decode cX7_comingsOf 11 = .ok (.iload_n 1, 1) := by decide +kernel
theorem dX7_comingsOf_12 : decode cX7_comingsOf 12 = .ok (.iload_n 3, 1) := by decide +kernel
theorem dX7_comingsOf_13 : decode cX7_comingsOf 13 = .ok (.ishr, 1) := by decide +kernel
theorem dX7_comingsOf_14 : decode cX7_comingsOf 14 = .ok (.iconst 1, 1) := by decide +kernel
theorem dX7_comingsOf_15 : decode cX7_comingsOf 15 = .ok (.iand, 1) := by decide +kernel
theorem dX7_comingsOf_16 : decode cX7_comingsOf 16 = .ok (.ifCond .eq 12, 3) := by decide +kernel
theorem dX7_comingsOf_19 : decode cX7_comingsOf 19 = .ok (.aload_n 0, 1) := by decide +kernel
theorem dX7_comingsOf_20 : decode cX7_comingsOf 20 = .ok (.getfield 22, 3) := by decide +kernel
theorem dX7_comingsOf_23 : decode cX7_comingsOf 23 = .ok (.iload_n 3, 1) := by decide +kernel
theorem dX7_comingsOf_24 : decode cX7_comingsOf 24 = .ok (.iaload, 1) := by decide +kernel
theorem dX7_comingsOf_25 : decode cX7_comingsOf 25 = .ok (.goto 4, 3) := by decide +kernel
theorem dX7_comingsOf_28 : decode cX7_comingsOf 28 = .ok (.iconst 0, 1) := by decide +kernel
theorem dX7_comingsOf_29 : decode cX7_comingsOf 29 = .ok (.iadd, 1) := by decide +kernel
theorem dX7_comingsOf_30 : decode cX7_comingsOf 30 = .ok (.istore_n 2, 1) := by decide +kernel
theorem dX7_comingsOf_31 : decode cX7_comingsOf 31 = .ok (.iinc 3 1, 3) := by decide +kernel
theorem dX7_comingsOf_34 : decode cX7_comingsOf 34 = .ok (.goto (-30), 3) := by decide +kernel
theorem dX7_comingsOf_37 : decode cX7_comingsOf 37 = .ok (.iload_n 2, 1) := by decide +kernel
theorem dX7_comingsOf_38 : decode cX7_comingsOf 38 = .ok (.ireturn, 1) := by decide +kernel
theorem dX7_deal_0 : decode cX7_deal 0 = .ok (.iload_n 1, 1) := by decide +kernel
theorem dX7_deal_1 : decode cX7_deal 1 = .ok (.invokestatic 71, 3) := by decide +kernel
theorem dX7_deal_4 : decode cX7_deal 4 = .ok (.ifCond .ne 5, 3) := by decide +kernel
theorem dX7_deal_7 : decode cX7_deal 7 = .ok (.iconst 1, 1) := by decide +kernel
theorem dX7_deal_8 : decode cX7_deal 8 = .ok (.ireturn, 1) := by decide +kernel
theorem dX7_deal_9 : decode cX7_deal 9 = .ok (.aload_n 0, 1) := by decide +kernel
theorem dX7_deal_10 : decode cX7_deal 10 = .ok (.getfield 25, 3) := by decide +kernel
theorem dX7_deal_13 : decode cX7_deal 13 = .ok (.iload_n 1, 1) := by decide +kernel
theorem dX7_deal_14 : decode cX7_deal 14 = .ok (.iconst (-1), 1) := by decide +kernel
theorem dX7_deal_15 : decode cX7_deal 15 = .ok (.iastore, 1) := by decide +kernel
theorem dX7_deal_16 : decode cX7_deal 16 = .ok (.iload_n 2, 1) := by decide +kernel
theorem dX7_deal_17 : decode cX7_deal 17 = .ok (.iload_n 1, 1) := by decide +kernel
theorem dX7_deal_18 : decode cX7_deal 18 = .ok (.ishr, 1) := by decide +kernel
theorem dX7_deal_19 : decode cX7_deal 19 = .ok (.iconst 1, 1) := by decide +kernel
theorem dX7_deal_20 : decode cX7_deal 20 = .ok (.iand, 1) := by decide +kernel
theorem dX7_deal_21 : decode cX7_deal 21 = .ok (.ifCond .ne 13, 3) := by decide +kernel
theorem dX7_deal_24 : decode cX7_deal 24 = .ok (.aload_n 0, 1) := by decide +kernel
theorem dX7_deal_25 : decode cX7_deal 25 = .ok (.iload_n 1, 1) := by decide +kernel
theorem dX7_deal_26 : decode cX7_deal 26 = .ok (.iconst 1, 1) := by decide +kernel
theorem dX7_deal_27 : decode cX7_deal 27 = .ok (.iadd, 1) := by decide +kernel
theorem dX7_deal_28 : decode cX7_deal 28 = .ok (.iload_n 2, 1) := by decide +kernel
theorem dX7_deal_29 : decode cX7_deal 29 = .ok (.iload_n 3, 1) := by decide +kernel
theorem dX7_deal_30 : decode cX7_deal 30 = .ok (.invokevirtual 74, 3) := by decide +kernel
theorem dX7_deal_33 : decode cX7_deal 33 = .ok (.ireturn, 1) := by decide +kernel
theorem dX7_fewest_0 : decode cX7_fewest 0 = .ok (.iconst 0, 1) := by decide +kernel
theorem dX7_fewest_1 : decode cX7_fewest 1 = .ok (.istore_n 1, 1) := by decide +kernel
theorem dX7_fewest_2 : decode cX7_fewest 2 = .ok (.iload_n 1, 1) := by decide +kernel
theorem dX7_fewest_3 : decode cX7_fewest 3 = .ok (.bipush 6, 2) := by decide +kernel
theorem dX7_fewest_5 : decode cX7_fewest 5 = .ok (.if_icmp .ge 24, 3) := by decide +kernel
theorem dX7_fewest_8 : decode cX7_fewest 8 = .ok (.aload_n 0, 1) := by decide +kernel
theorem dX7_fewest_9 : decode cX7_fewest 9 = .ok (.iconst 0, 1) := by decide +kernel
theorem dX7_fewest_10 : decode cX7_fewest 10 = .ok (.aload_n 0, 1) := by decide +kernel
theorem dX7_fewest_11 : decode cX7_fewest 11 = .ok (.getfield 32, 3) := by decide +kernel
theorem dX7_fewest_14 : decode cX7_fewest 14 = .ok (.iload_n 1, 1) := by decide +kernel
theorem dX7_fewest_15 : decode cX7_fewest 15 = .ok (.invokevirtual 74, 3) := by decide +kernel
theorem dX7_fewest_18 : decode cX7_fewest 18 = .ok (.ifCond .eq 5, 3) := by decide +kernel
theorem dX7_fewest_21 : decode cX7_fewest 21 = .ok (.iload_n 1, 1) := by decide +kernel
theorem dX7_fewest_22 : decode cX7_fewest 22 = .ok (.ireturn, 1) := by decide +kernel
theorem dX7_init_0 : decode cX7_init 0 = .ok (.aload_n 0, 1) := by decide +kernel
theorem dX7_init_1 : decode cX7_init 1 = .ok (.invokespecial 3, 3) := by decide +kernel
theorem dX7_init_4 : decode cX7_init 4 = .ok (.aload_n 0, 1) := by decide +kernel
theorem dX7_init_5 : decode cX7_init 5 = .ok (.new 9, 3) := by decide +kernel
theorem dX7_init_8 : decode cX7_init 8 = .ok (.dup, 1) := by decide +kernel
theorem dX7_init_9 : decode cX7_init 9 = .ok (.invokespecial 11, 3) := by decide +kernel
theorem dX7_init_12 : decode cX7_init 12 = .ok (.putfield 12, 3) := by decide +kernel
theorem dX7_init_15 : decode cX7_init 15 = .ok (.aload_n 0, 1) := by decide +kernel
theorem dX7_init_16 : decode cX7_init 16 = .ok (.bipush 6, 2) := by decide +kernel
theorem dX7_init_18 : decode cX7_init 18 = .ok (.newarray .int, 2) := by decide +kernel
theorem dX7_init_20 : decode cX7_init 20 = .ok (.putfield 18, 3) := by decide +kernel
theorem dX7_init_23 : decode cX7_init 23 = .ok (.aload_n 0, 1) := by decide +kernel
theorem dX7_init_24 : decode cX7_init 24 = .ok (.bipush 6, 2) := by decide +kernel
theorem dX7_init_26 : decode cX7_init 26 = .ok (.newarray .int, 2) := by decide +kernel
theorem dX7_init_28 : decode cX7_init 28 = .ok (.putfield 22, 3) := by decide +kernel
theorem dX7_init_31 : decode cX7_init 31 = .ok (.aload_n 0, 1) := by decide +kernel
theorem dX7_init_32 : decode cX7_init 32 = .ok (.bipush 6, 2) := by decide +kernel
theorem dX7_init_34 : decode cX7_init 34 = .ok (.newarray .int, 2) := by decide +kernel
theorem dX7_init_36 : decode cX7_init 36 = .ok (.putfield 25, 3) := by decide +kernel
theorem dX7_init_39 : decode cX7_init 39 = .ok (.return_, 1) := by decide +kernel
theorem dX7_registerOf_0 : decode cX7_registerOf 0 = .ok (.aload_n 0, 1) := by decide +kernel
theorem dX7_registerOf_1 : decode cX7_registerOf 1 = .ok (.invokevirtual 78, 3) := by decide +kernel
theorem dX7_registerOf_4 : decode cX7_registerOf 4 = .ok (.pop, 1) := by decide +kernel
theorem dX7_registerOf_5 : decode cX7_registerOf 5 = .ok (.iload_n 1, 1) := by decide +kernel
theorem dX7_registerOf_6 : decode cX7_registerOf 6 = .ok (.invokestatic 71, 3) := by decide +kernel
theorem dX7_registerOf_9 : decode cX7_registerOf 9 = .ok (.ifCond .eq 12, 3) := by decide +kernel
theorem dX7_registerOf_12 : decode cX7_registerOf 12 = .ok (.aload_n 0, 1) := by decide +kernel
theorem dX7_registerOf_13 : decode cX7_registerOf 13 = .ok (.getfield 25, 3) := by decide +kernel
theorem dX7_registerOf_16 : decode cX7_registerOf 16 = .ok (.iload_n 1, 1) := by decide +kernel
theorem dX7_registerOf_17 : decode cX7_registerOf 17 = .ok (.iaload, 1) := by decide +kernel
theorem dX7_registerOf_18 : decode cX7_registerOf 18 = .ok (.goto 4, 3) := by decide +kernel
theorem dX7_registerOf_21 : decode cX7_registerOf 21 = .ok (.iconst (-1), 1) := by decide +kernel
theorem dX7_registerOf_22 : decode cX7_registerOf 22 = .ok (.ireturn, 1) := by decide +kernel
theorem dX7_spills_0 : decode cX7_spills 0 = .ok (.aload_n 0, 1) := by decide +kernel
theorem dX7_spills_1 : decode cX7_spills 1 = .ok (.getfield 32, 3) := by decide +kernel
theorem dX7_spills_4 : decode cX7_spills 4 = .ok (.istore_n 2, 1) := by decide +kernel
theorem dX7_spills_5 : decode cX7_spills 5 = .ok (.aload_n 0, 1) := by decide +kernel
theorem dX7_spills_6 : decode cX7_spills 6 = .ok (.aload_n 0, 1) := by decide +kernel
theorem dX7_spills_7 : decode cX7_spills 7 = .ok (.getfield 32, 3) := by decide +kernel
theorem dX7_spills_10 : decode cX7_spills 10 = .ok (.invokevirtual 82, 3) := by decide +kernel
theorem dX7_spills_13 : decode cX7_spills 13 = .ok (.istore_n 3, 1) := by decide +kernel
theorem dX7_spills_14 : decode cX7_spills 14 = .ok (.iconst 0, 1) := by decide +kernel
theorem dX7_spills_15 : decode cX7_spills 15 = .ok (.istore 4, 2) := by decide +kernel
theorem dX7_spills_17 : decode cX7_spills 17 = .ok (.iload 4, 2) := by decide +kernel
theorem dX7_spills_19 : decode cX7_spills 19 = .ok (.bipush 64, 2) := by decide +kernel
theorem dX7_spills_21 : decode cX7_spills 21 = .ok (.if_icmp .ge 47, 3) := by decide +kernel
theorem dX7_spills_24 : decode cX7_spills 24 = .ok (.aload_n 0, 1) := by decide +kernel
theorem dX7_spills_25 : decode cX7_spills 25 = .ok (.iload 4, 2) := by decide +kernel
theorem dX7_spills_27 : decode cX7_spills 27 = .ok (.invokevirtual 82, 3) := by decide +kernel
theorem dX7_spills_30 : decode cX7_spills 30 = .ok (.istore 5, 2) := by decide +kernel
theorem dX7_spills_32 : decode cX7_spills 32 = .ok (.iload 5, 2) := by decide +kernel
theorem dX7_spills_34 : decode cX7_spills 34 = .ok (.iload_n 3, 1) := by decide +kernel
theorem dX7_spills_35 : decode cX7_spills 35 = .ok (.if_icmp .ge 27, 3) := by decide +kernel
theorem dX7_spills_62 : decode cX7_spills 62 = .ok (.iinc 4 1, 3) := by decide +kernel
theorem dX7_spills_65 : decode cX7_spills 65 = .ok (.goto (-48), 3) := by decide +kernel
theorem dX7_spills_68 : decode cX7_spills 68 = .ok (.iload_n 2, 1) := by decide +kernel
theorem dX7_spills_69 : decode cX7_spills 69 = .ok (.ireturn, 1) := by decide +kernel
theorem dX7_study_0 : decode cX7_study 0 = .ok (.aload_n 0, 1) := by decide +kernel
theorem dX7_study_1 : decode cX7_study 1 = .ok (.getfield 12, 3) := by decide +kernel
theorem dX7_study_4 : decode cX7_study 4 = .ok (.aload_n 1, 1) := by decide +kernel
theorem dX7_study_5 : decode cX7_study 5 = .ok (.invokevirtual 28, 3) := by decide +kernel
theorem dX7_study_8 : decode cX7_study 8 = .ok (.aload_n 0, 1) := by decide +kernel
theorem dX7_study_9 : decode cX7_study 9 = .ok (.iconst 0, 1) := by decide +kernel
theorem dX7_study_10 : decode cX7_study 10 = .ok (.putfield 32, 3) := by decide +kernel
theorem dX7_study_13 : decode cX7_study 13 = .ok (.iconst 0, 1) := by decide +kernel
theorem dX7_study_14 : decode cX7_study 14 = .ok (.istore_n 2, 1) := by decide +kernel
theorem dX7_study_15 : decode cX7_study 15 = .ok (.iload_n 2, 1) := by decide +kernel
theorem dX7_study_16 : decode cX7_study 16 = .ok (.bipush 6, 2) := by decide +kernel
theorem dX7_study_18 : decode cX7_study 18 = .ok (.if_icmp .ge 23, 3) := by decide +kernel
theorem dX7_study_21 : decode cX7_study 21 = .ok (.aload_n 0, 1) := by decide +kernel
theorem dX7_study_22 : decode cX7_study 22 = .ok (.getfield 18, 3) := by decide +kernel
theorem dX7_study_25 : decode cX7_study 25 = .ok (.iload_n 2, 1) := by decide +kernel
theorem dX7_study_26 : decode cX7_study 26 = .ok (.iconst 0, 1) := by decide +kernel
theorem dX7_study_27 : decode cX7_study 27 = .ok (.iastore, 1) := by decide +kernel
theorem dX7_study_28 : decode cX7_study 28 = .ok (.aload_n 0, 1) := by decide +kernel
theorem dX7_study_29 : decode cX7_study 29 = .ok (.getfield 22, 3) := by decide +kernel
theorem dX7_study_32 : decode cX7_study 32 = .ok (.iload_n 2, 1) := by decide +kernel
theorem dX7_study_33 : decode cX7_study 33 = .ok (.iconst 0, 1) := by decide +kernel
theorem dX7_study_34 : decode cX7_study 34 = .ok (.iastore, 1) := by decide +kernel
theorem dX7_study_35 : decode cX7_study 35 = .ok (.iinc 2 1, 3) := by decide +kernel
theorem dX7_study_38 : decode cX7_study 38 = .ok (.goto (-23), 3) := by decide +kernel
theorem dX7_study_41 : decode cX7_study 41 = .ok (.iconst 0, 1) := by decide +kernel
theorem dX7_study_42 : decode cX7_study 42 = .ok (.istore_n 2, 1) := by decide +kernel
theorem dX7_study_43 : decode cX7_study 43 = .ok (.iload_n 2, 1) := by decide +kernel
theorem dX7_study_44 : decode cX7_study 44 = .ok (.aload_n 1, 1) := by decide +kernel
theorem dX7_study_45 : decode cX7_study 45 = .ok (.getfield 36, 3) := by decide +kernel
theorem dX7_study_48 : decode cX7_study 48 = .ok (.if_icmp .ge 18, 3) := by decide +kernel
theorem dX7_study_66 : decode cX7_study 66 = .ok (.iconst 0, 1) := by decide +kernel
theorem dX7_study_67 : decode cX7_study 67 = .ok (.istore_n 2, 1) := by decide +kernel
theorem dX7_study_68 : decode cX7_study 68 = .ok (.iload_n 2, 1) := by decide +kernel
theorem dX7_study_69 : decode cX7_study 69 = .ok (.aload_n 0, 1) := by decide +kernel
theorem dX7_study_70 : decode cX7_study 70 = .ok (.getfield 12, 3) := by decide +kernel
theorem dX7_study_73 : decode cX7_study 73 = .ok (.getfield 49, 3) := by decide +kernel
theorem dX7_study_76 : decode cX7_study 76 = .ok (.if_icmp .ge 49, 3) := by decide +kernel
theorem dX7_study_125 : decode cX7_study 125 = .ok (.return_, 1) := by decide +kernel
theorem dX8_addPart_0 : decode cX8_addPart 0 = .ok (.iload_n 3, 1) := by decide +kernel
theorem dX8_addPart_1 : decode cX8_addPart 1 = .ok (.iload_n 2, 1) := by decide +kernel
theorem dX8_addPart_2 : decode cX8_addPart 2 = .ok (.isub, 1) := by decide +kernel
theorem dX8_addPart_3 : decode cX8_addPart 3 = .ok (.istore 4, 2) := by decide +kernel
theorem dX8_addPart_5 : decode cX8_addPart 5 = .ok (.iload_n 2, 1) := by decide +kernel
theorem dX8_addPart_6 : decode cX8_addPart 6 = .ok (.ifCond .lt 60, 3) := by decide +kernel
theorem dX8_addPart_9 : decode cX8_addPart 9 = .ok (.iload 4, 2) := by decide +kernel
theorem dX8_addPart_11 : decode cX8_addPart 11 = .ok (.ifCond .le 55, 3) := by decide +kernel
theorem dX8_addPart_66 : decode cX8_addPart 66 = .ok (.return_, 1) := by decide +kernel
theorem dX8_cell_0 : decode cX8_cell 0 = .ok (.iload_n 1, 1) := by decide +kernel
theorem dX8_cell_1 : decode cX8_cell 1 = .ok (.ifCond .lt 20, 3) := by decide +kernel
theorem dX8_cell_4 : decode cX8_cell 4 = .ok (.iload_n 1, 1) := by decide +kernel
theorem dX8_cell_5 : decode cX8_cell 5 = .ok (.aload_n 0, 1) := by decide +kernel
theorem dX8_cell_6 : decode cX8_cell 6 = .ok (.getfield 21, 3) := by decide +kernel
theorem dX8_cell_9 : decode cX8_cell 9 = .ok (.if_icmp .ge 12, 3) := by decide +kernel
theorem dX8_cell_21 : decode cX8_cell 21 = .ok (.iconst (-1), 1) := by decide +kernel
theorem dX8_cell_22 : decode cX8_cell 22 = .ok (.ireturn, 1) := by decide +kernel
theorem dX8_copy_0 : decode cX8_copy 0 = .ok (.aload_n 1, 1) := by decide +kernel
theorem dX8_copy_1 : decode cX8_copy 1 = .ok (.aload_n 0, 1) := by decide +kernel
theorem dX8_copy_2 : decode cX8_copy 2 = .ok (.if_acmp .eq 18, 3) := by decide +kernel
theorem dX8_copy_5 : decode cX8_copy 5 = .ok (.aload_n 0, 1) := by decide +kernel
theorem dX8_copy_6 : decode cX8_copy 6 = .ok (.iconst 0, 1) := by decide +kernel
theorem dX8_copy_7 : decode cX8_copy 7 = .ok (.putfield 21, 3) := by decide +kernel
theorem dX8_copy_10 : decode cX8_copy 10 = .ok (.aload_n 0, 1) := by decide +kernel
theorem dX8_copy_11 : decode cX8_copy 11 = .ok (.aload_n 1, 1) := by decide +kernel
theorem dX8_copy_12 : decode cX8_copy 12 = .ok (.iconst 0, 1) := by decide +kernel
theorem dX8_copy_13 : decode cX8_copy 13 = .ok (.aload_n 1, 1) := by decide +kernel
theorem dX8_copy_14 : decode cX8_copy 14 = .ok (.getfield 21, 3) := by decide +kernel
theorem dX8_copy_17 : decode cX8_copy 17 = .ok (.invokevirtual 31, 3) := by decide +kernel
theorem dX8_copy_20 : decode cX8_copy 20 = .ok (.return_, 1) := by decide +kernel
theorem dX8_expressions_0 : decode cX8_expressions 0 = .ok (.iconst 0, 1) := by decide +kernel
theorem dX8_expressions_1 : decode cX8_expressions 1 = .ok (.istore_n 1, 1) := by decide +kernel
theorem dX8_expressions_2 : decode cX8_expressions 2 = .ok (.iconst 0, 1) := by decide +kernel
theorem dX8_expressions_3 : decode cX8_expressions 3 = .ok (.istore_n 2, 1) := by decide +kernel
theorem dX8_expressions_4 : decode cX8_expressions 4 = .ok (.iload_n 2, 1) := by decide +kernel
theorem dX8_expressions_5 : decode cX8_expressions 5 = .ok (.aload_n 0, 1) := by decide +kernel
theorem dX8_expressions_6 : decode cX8_expressions 6 = .ok (.getfield 21, 3) := by decide +kernel
theorem dX8_expressions_9 : decode cX8_expressions 9 = .ok (.if_icmp .ge 24, 3) := by decide +kernel
theorem dX8_expressions_33 : decode cX8_expressions 33 = .ok (.iload_n 1, 1) := by decide +kernel
theorem dX8_expressions_34 : decode cX8_expressions 34 = .ok (.ireturn, 1) := by decide +kernel
theorem dX8_init_0 : decode cX8_init 0 = .ok (.aload_n 0, 1) := by decide +kernel
theorem dX8_init_1 : decode cX8_init 1 = .ok (.invokespecial 3, 3) := by decide +kernel
theorem dX8_init_4 : decode cX8_init 4 = .ok (.aload_n 0, 1) := by decide +kernel
theorem dX8_init_5 : decode cX8_init 5 = .ok (.iload_n 1, 1) := by decide +kernel
theorem dX8_init_6 : decode cX8_init 6 = .ok (.iconst 1, 1) := by decide +kernel
theorem dX8_init_7 : decode cX8_init 7 = .ok (.invokestatic 9, 3) := by decide +kernel
theorem dX8_init_10 : decode cX8_init 10 = .ok (.newarray .int, 2) := by decide +kernel
theorem dX8_init_12 : decode cX8_init 12 = .ok (.putfield 15, 3) := by decide +kernel
theorem dX8_init_15 : decode cX8_init 15 = .ok (.aload_n 0, 1) := by decide +kernel
theorem dX8_init_16 : decode cX8_init 16 = .ok (.iconst 0, 1) := by decide +kernel
theorem dX8_init_17 : decode cX8_init 17 = .ok (.putfield 21, 3) := by decide +kernel
theorem dX8_init_20 : decode cX8_init 20 = .ok (.return_, 1) := by decide +kernel
theorem dX8_isLike_0 : decode cX8_isLike 0 = .ok (.aload_n 0, 1) := by decide +kernel
theorem dX8_isLike_1 : decode cX8_isLike 1 = .ok (.getfield 21, 3) := by decide +kernel
theorem dX8_isLike_4 : decode cX8_isLike 4 = .ok (.aload_n 1, 1) := by decide +kernel
theorem dX8_isLike_5 : decode cX8_isLike 5 = .ok (.getfield 21, 3) := by decide +kernel
theorem dX8_isLike_8 : decode cX8_isLike 8 = .ok (.if_icmp .eq 5, 3) := by decide +kernel
theorem dX8_isLike_13 : decode cX8_isLike 13 = .ok (.iconst 0, 1) := by decide +kernel
theorem dX8_isLike_14 : decode cX8_isLike 14 = .ok (.istore_n 2, 1) := by decide +kernel
theorem dX8_isLike_15 : decode cX8_isLike 15 = .ok (.iload_n 2, 1) := by decide +kernel
theorem dX8_isLike_16 : decode cX8_isLike 16 = .ok (.aload_n 0, 1) := by decide +kernel
theorem dX8_isLike_17 : decode cX8_isLike 17 = .ok (.getfield 21, 3) := by decide +kernel
theorem dX8_isLike_20 : decode cX8_isLike 20 = .ok (.if_icmp .ge 26, 3) := by decide +kernel
theorem dX8_isLike_46 : decode cX8_isLike 46 = .ok (.iconst 1, 1) := by decide +kernel

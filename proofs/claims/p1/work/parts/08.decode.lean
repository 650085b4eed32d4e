theorem dX11_run_58 : decode cX11_run 58 = .ok (.ireturn, 1) := by decide +kernel
theorem dX11_size_0 : decode cX11_size 0 = .ok (.aload_n 0, 1) := by decide +kernel
theorem dX11_size_1 : decode cX11_size 1 = .ok (.iload_n 1, 1) := by decide +kernel
theorem dX11_size_2 : decode cX11_size 2 = .ok (.invokevirtual 77, 3) := by decide +kernel
theorem dX11_size_5 : decode cX11_size 5 = .ok (.astore_n 3, 1) := by decide +kernel
theorem dX11_size_6 : decode cX11_size 6 = .ok (.aload_n 3, 1) := by decide +kernel
theorem dX11_size_7 : decode cX11_size 7 = .ok (.ifnonnull 5, 3) := by decide +kernel
theorem dX11_size_10 : decode cX11_size 10 = .ok (.iconst (-1), 1) := by decide +kernel
theorem dX11_size_11 : decode cX11_size 11 = .ok (.ireturn, 1) := by decide +kernel
theorem dX11_size_12 : decode cX11_size 12 = .ok (.iload_n 2, 1) := by decide +kernel
theorem dX11_size_13 : decode cX11_size 13 = .ok (.tableswitch 69 0 3 #[31, 36, 41, 46], 31) := by decide +kernel
theorem dX11_size_44 : decode cX11_size 44 = .ok (.aload_n 3, 1) := by decide +kernel
theorem dX11_size_45 : decode cX11_size 45 = .ok (.invokevirtual 95, 3) := by decide +kernel
theorem dX11_size_48 : decode cX11_size 48 = .ok (.ireturn, 1) := by decide +kernel
theorem dX11_size_49 : decode cX11_size 49 = .ok (.aload_n 3, 1) := by decide +kernel
theorem dX11_size_50 : decode cX11_size 50 = .ok (.invokevirtual 117, 3) := by decide +kernel
theorem dX11_size_53 : decode cX11_size 53 = .ok (.ireturn, 1) := by decide +kernel
theorem dX11_size_54 : decode cX11_size 54 = .ok (.aload_n 3, 1) := by decide +kernel
theorem dX11_size_55 : decode cX11_size 55 = .ok (.getfield 120, 3) := by decide +kernel
theorem dX11_size_58 : decode cX11_size 58 = .ok (.ireturn, 1) := by decide +kernel
theorem dX11_size_59 : decode cX11_size 59 = .ok (.aload_n 0, 1) := by decide +kernel
theorem dX11_size_60 : decode cX11_size 60 = .ok (.getfield 36, 3) := by decide +kernel
theorem dX11_size_63 : decode cX11_size 63 = .ok (.getfield 121, 3) := by decide +kernel
theorem dX11_size_66 : decode cX11_size 66 = .ok (.aload_n 3, 1) := by decide +kernel
theorem dX11_size_67 : decode cX11_size 67 = .ok (.invokevirtual 125, 3) := by decide +kernel
theorem dX11_size_70 : decode cX11_size 70 = .ok (.aload_n 0, 1) := by decide +kernel
theorem dX11_size_71 : decode cX11_size 71 = .ok (.getfield 36, 3) := by decide +kernel
theorem dX11_size_74 : decode cX11_size 74 = .ok (.getfield 121, 3) := by decide +kernel
theorem dX11_size_77 : decode cX11_size 77 = .ok (.iconst 0, 1) := by decide +kernel
theorem dX11_size_78 : decode cX11_size 78 = .ok (.invokevirtual 130, 3) := by decide +kernel
theorem dX11_size_81 : decode cX11_size 81 = .ok (.ireturn, 1) := by decide +kernel
theorem dX11_size_82 : decode cX11_size 82 = .ok (.iconst (-1), 1) := by decide +kernel
theorem dX11_size_83 : decode cX11_size 83 = .ok (.ireturn, 1) := by decide +kernel
theorem dX11_slotAt_0 : decode cX11_slotAt 0 = .ok (.iload_n 1, 1) := by decide +kernel
theorem dX11_slotAt_1 : decode cX11_slotAt 1 = .ok (.ifCond .lt 21, 3) := by decide +kernel
theorem dX11_slotAt_4 : decode cX11_slotAt 4 = .ok (.iload_n 1, 1) := by decide +kernel
theorem dX11_slotAt_5 : decode cX11_slotAt 5 = .ok (.aload_n 0, 1) := by decide +kernel
theorem dX11_slotAt_6 : decode cX11_slotAt 6 = .ok (.getfield 11, 3) := by decide +kernel
theorem dX11_slotAt_9 : decode cX11_slotAt 9 = .ok (.arraylength, 1) := by decide +kernel
theorem dX11_slotAt_10 : decode cX11_slotAt 10 = .ok (.if_icmp .ge 12, 3) := by decide +kernel
theorem dX11_slotAt_13 : decode cX11_slotAt 13 = .ok (.aload_n 0, 1) := by decide +kernel
theorem dX11_slotAt_14 : decode cX11_slotAt 14 = .ok (.getfield 11, 3) := by decide +kernel
theorem dX11_slotAt_17 : decode cX11_slotAt 17 = .ok (.iload_n 1, 1) := by decide +kernel
theorem dX11_slotAt_18 : decode cX11_slotAt 18 = .ok (.aaload, 1) := by decide +kernel
theorem dX11_slotAt_19 : decode cX11_slotAt 19 = .ok (.goto 4, 3) := by decide +kernel
theorem dX11_slotAt_22 : decode cX11_slotAt 22 = .ok (.aconst_null, 1) := by decide +kernel
theorem dX11_slotAt_23 : decode cX11_slotAt 23 = .ok (.areturn, 1) := by decide +kernel
theorem dX12_apply_0 : decode cX12_apply 0 = .ok (.iload_n 1, 1) := by decide +kernel
theorem dX12_apply_1 : decode cX12_apply 1 = .ok (.iconst 0, 1) := by decide +kernel
theorem dX12_apply_2 : decode cX12_apply 2 = .ok (.aload_n 0, 1) := by decide +kernel
theorem dX12_apply_3 : decode cX12_apply 3 = .ok (.getfield 268, 3) := by decide +kernel
theorem dX12_apply_6 : decode cX12_apply 6 = .ok (.iconst 1, 1) := by decide +kernel
theorem dX12_apply_7 : decode cX12_apply 7 = .ok (.isub, 1) := by decide +kernel
theorem dX12_apply_8 : decode cX12_apply 8 = .ok (.invokestatic 90, 3) := by decide +kernel
theorem dX12_apply_11 : decode cX12_apply 11 = .ok (.ifCond .eq 22, 3) := by decide +kernel
theorem dX12_apply_33 : decode cX12_apply 33 = .ok (.iconst 0, 1) := by decide +kernel
theorem dX12_apply_34 : decode cX12_apply 34 = .ok (.ireturn, 1) := by decide +kernel
theorem dX12_at_0 : decode cX12_at 0 = .ok (.iload_n 1, 1) := by decide +kernel
theorem dX12_at_1 : decode cX12_at 1 = .ok (.invokestatic 249, 3) := by decide +kernel
theorem dX12_at_4 : decode cX12_at 4 = .ok (.ifCond .eq 34, 3) := by decide +kernel
theorem dX12_at_7 : decode cX12_at 7 = .ok (.iload_n 2, 1) := by decide +kernel
theorem dX12_at_8 : decode cX12_at 8 = .ok (.iconst 0, 1) := by decide +kernel
theorem dX12_at_9 : decode cX12_at 9 = .ok (.aload_n 0, 1) := by decide +kernel
theorem dX12_at_10 : decode cX12_at 10 = .ok (.getfield 13, 3) := by decide +kernel
theorem dX12_at_13 : decode cX12_at 13 = .ok (.iload_n 1, 1) := by decide +kernel
theorem dX12_at_14 : decode cX12_at 14 = .ok (.iaload, 1) := by decide +kernel
theorem dX12_at_15 : decode cX12_at 15 = .ok (.iconst 1, 1) := by decide +kernel
theorem dX12_at_16 : decode cX12_at 16 = .ok (.isub, 1) := by decide +kernel
theorem dX12_at_17 : decode cX12_at 17 = .ok (.invokestatic 90, 3) := by decide +kernel
theorem dX12_at_20 : decode cX12_at 20 = .ok (.ifCond .eq 18, 3) := by decide +kernel
theorem dX12_at_38 : decode cX12_at 38 = .ok (.iconst (-1), 1) := by decide +kernel
theorem dX12_at_39 : decode cX12_at 39 = .ok (.ireturn, 1) := by decide +kernel
theorem dX12_bad_0 : decode cX12_bad 0 = .ok (.aload_n 0, 1) := by decide +kernel
theorem dX12_bad_1 : decode cX12_bad 1 = .ok (.iload_n 1, 1) := by decide +kernel
theorem dX12_bad_2 : decode cX12_bad 2 = .ok (.putfield 179, 3) := by decide +kernel
theorem dX12_bad_5 : decode cX12_bad 5 = .ok (.aload_n 0, 1) := by decide +kernel
theorem dX12_bad_6 : decode cX12_bad 6 = .ok (.aload_n 0, 1) := by decide +kernel
theorem dX12_bad_7 : decode cX12_bad 7 = .ok (.getfield 130, 3) := by decide +kernel
theorem dX12_bad_10 : decode cX12_bad 10 = .ok (.putfield 182, 3) := by decide +kernel
theorem dX12_bad_13 : decode cX12_bad 13 = .ok (.iconst 0, 1) := by decide +kernel
theorem dX12_bad_14 : decode cX12_bad 14 = .ok (.ireturn, 1) := by decide +kernel
theorem dX12_begins_0 : decode cX12_begins 0 = .ok (.aload_n 0, 1) := by decide +kernel
theorem dX12_begins_1 : decode cX12_begins 1 = .ok (.iload_n 1, 1) := by decide +kernel
theorem dX12_begins_2 : decode cX12_begins 2 = .ok (.putfield 143, 3) := by decide +kernel
theorem dX12_begins_5 : decode cX12_begins 5 = .ok (.aload_n 0, 1) := by decide +kernel
theorem dX12_begins_6 : decode cX12_begins 6 = .ok (.iconst 0, 1) := by decide +kernel
theorem dX12_begins_7 : decode cX12_begins 7 = .ok (.putfield 225, 3) := by decide +kernel
theorem dX12_begins_10 : decode cX12_begins 10 = .ok (.aload_n 0, 1) := by decide +kernel
theorem dX12_begins_11 : decode cX12_begins 11 = .ok (.iload_n 2, 1) := by decide +kernel
theorem dX12_begins_12 : decode cX12_begins 12 = .ok (.putfield 200, 3) := by decide +kernel
theorem dX12_begins_15 : decode cX12_begins 15 = .ok (.aload_n 0, 1) := by decide +kernel
theorem dX12_begins_16 : decode cX12_begins 16 = .ok (.iconst 0, 1) := by decide +kernel
theorem dX12_begins_17 : decode cX12_begins 17 = .ok (.putfield 179, 3) := by decide +kernel
theorem dX12_begins_20 : decode cX12_begins 20 = .ok (.aload_n 0, 1) := by decide +kernel
theorem dX12_begins_21 : decode cX12_begins 21 = .ok (.iconst (-1), 1) := by decide +kernel
theorem dX12_begins_22 : decode cX12_begins 22 = .ok (.putfield 182, 3) := by decide +kernel
theorem dX12_begins_25 : decode cX12_begins 25 = .ok (.aload_n 0, 1) := by decide +kernel
theorem dX12_begins_26 : decode cX12_begins 26 = .ok (.iconst 0, 1) := by decide +kernel
theorem dX12_begins_27 : decode cX12_begins 27 = .ok (.putfield 127, 3) := by decide +kernel
theorem dX12_begins_30 : decode cX12_begins 30 = .ok (.aload_n 0, 1) := by decide +kernel
theorem dX12_begins_31 : decode cX12_begins 31 = .ok (.iconst 0, 1) := by decide +kernel
theorem dX12_begins_32 : decode cX12_begins 32 = .ok (.putfield 191, 3) := by decide +kernel
theorem dX12_begins_35 : decode cX12_begins 35 = .ok (.aload_n 0, 1) := by decide +kernel
theorem dX12_begins_36 : decode cX12_begins 36 = .ok (.iconst 0, 1) := by decide +kernel
theorem dX12_begins_37 : decode cX12_begins 37 = .ok (.putfield 197, 3) := by decide +kernel
theorem dX12_begins_40 : decode cX12_begins 40 = .ok (.aload_n 0, 1) := by decide +kernel
theorem dX12_begins_41 : decode cX12_begins 41 = .ok (.iconst 0, 1) := by decide +kernel
theorem dX12_begins_42 : decode cX12_begins 42 = .ok (.putfield 237, 3) := by decide +kernel
theorem dX12_begins_45 : decode cX12_begins 45 = .ok (.aload_n 0, 1) := by decide +kernel
theorem dX12_begins_46 : decode cX12_begins 46 = .ok (.iconst 0, 1) := by decide +kernel
theorem dX12_begins_47 : decode cX12_begins 47 = .ok (.putfield 228, 3) := by decide +kernel
theorem dX12_begins_50 : decode cX12_begins 50 = .ok (.aload_n 0, 1) := by decide +kernel
theorem dX12_begins_51 : decode cX12_begins 51 = .ok (.iconst 0, 1) := by decide +kernel
theorem dX12_begins_52 : decode cX12_begins 52 = .ok (.putfield 117, 3) := by decide +kernel
theorem dX12_begins_55 : decode cX12_begins 55 = .ok (.aload_n 0, 1) := by decide +kernel
theorem dX12_begins_56 : decode cX12_begins 56 = .ok (.invokevirtual 188, 3) := by decide +kernel
theorem dX12_begins_59 : decode cX12_begins 59 = .ok (.return_, 1) := by decide +kernel
theorem dX12_blame_0 : decode cX12_blame 0 = .ok (.iload_n 1, 1) := by decide +kernel
theorem dX12_blame_1 : decode cX12_blame 1 = .ok (.invokestatic 249, 3) := by decide +kernel
theorem dX12_blame_4 : decode cX12_blame 4 = .ok (.ifCond .eq 12, 3) := by decide +kernel
theorem dX12_blame_7 : decode cX12_blame 7 = .ok (.iload_n 2, 1) := by decide +kernel
theorem dX12_blame_8 : decode cX12_blame 8 = .ok (.iconst 0, 1) := by decide +kernel
theorem dX12_blame_9 : decode cX12_blame 9 = .ok (.iconst 1, 1) := by decide +kernel
theorem dX12_blame_10 : decode cX12_blame 10 = .ok (.invokestatic 90, 3) := by decide +kernel
theorem dX12_blame_13 : decode cX12_blame 13 = .ok (.ifCond .ne 5, 3) := by decide +kernel
theorem dX12_blame_16 : decode cX12_blame 16 = .ok (.iconst (-1), 1) := by decide +kernel
theorem dX12_blame_17 : decode cX12_blame 17 = .ok (.ireturn, 1) := by decide +kernel
theorem dX12_blame_18 : decode cX12_blame 18 = .ok (.aload_n 0, 1) := by decide +kernel
theorem dX12_blame_19 : decode cX12_blame 19 = .ok (.iload_n 1, 1) := by decide +kernel
theorem dX12_blame_20 : decode cX12_blame 20 = .ok (.invokevirtual 271, 3) := by decide +kernel
theorem dX12_blame_23 : decode cX12_blame 23 = .ok (.iconst 0, 1) := by decide +kernel
theorem dX12_blame_24 : decode cX12_blame 24 = .ok (.istore_n 3, 1) := by decide +kernel
theorem dX12_blame_25 : decode cX12_blame 25 = .ok (.iload_n 3, 1) := by decide +kernel
theorem dX12_blame_26 : decode cX12_blame 26 = .ok (.bipush 6, 2) := by decide +kernel
theorem dX12_blame_28 : decode cX12_blame 28 = .ok (.if_icmp .ge 68, 3) := by decide +kernel
theorem dX12_blame_31 : decode cX12_blame 31 = .ok (.aload_n 0, 1) := by decide +kernel
theorem dX12_blame_32 : decode cX12_blame 32 = .ok (.getfield 75, 3) := by decide +kernel
theorem dX12_blame_35 : decode cX12_blame 35 = .ok (.iload_n 3, 1) := by decide +kernel
theorem dX12_blame_36 : decode cX12_blame 36 = .ok (.iaload, 1) := by decide +kernel
theorem dX12_blame_37 : decode cX12_blame 37 = .ok (.ifCond .ne 6, 3) := by decide +kernel
theorem dX12_blame_40 : decode cX12_blame 40 = .ok (.goto 50, 3) := by decide +kernel
theorem dX12_blame_90 : decode cX12_blame 90 = .ok (.iinc 3 1, 3) := by decide +kernel
theorem dX12_blame_93 : decode cX12_blame 93 = .ok (.goto (-68), 3) := by decide +kernel
theorem dX12_blame_96 : decode cX12_blame 96 = .ok (.iconst (-1), 1) := by decide +kernel
theorem dX12_blame_97 : decode cX12_blame 97 = .ok (.ireturn, 1) := by decide +kernel
theorem dX12_clash_0 : decode cX12_clash 0 = .ok (.iload_n 1, 1) := by decide +kernel
theorem dX12_clash_1 : decode cX12_clash 1 = .ok (.invokestatic 249, 3) := by decide +kernel
theorem dX12_clash_4 : decode cX12_clash 4 = .ok (.ifCond .eq 26, 3) := by decide +kernel
theorem dX12_clash_7 : decode cX12_clash 7 = .ok (.iload_n 2, 1) := by decide +kernel
theorem dX12_clash_8 : decode cX12_clash 8 = .ok (.iconst 0, 1) := by decide +kernel
theorem dX12_clash_9 : decode cX12_clash 9 = .ok (.iconst 5, 1) := by decide +kernel
theorem dX12_clash_10 : decode cX12_clash 10 = .ok (.invokestatic 90, 3) := by decide +kernel
theorem dX12_clash_13 : decode cX12_clash 13 = .ok (.ifCond .eq 17, 3) := by decide +kernel
theorem dX12_clash_16 : decode cX12_clash 16 = .ok (.iload_n 3, 1) := by decide +kernel
theorem dX12_clash_17 : decode cX12_clash 17 = .ok (.iconst 0, 1) := by decide +kernel
theorem dX12_clash_18 : decode cX12_clash 18 = .ok (.iconst 5, 1) := by decide +kernel
theorem dX12_clash_19 : decode cX12_clash 19 = .ok (.invokestatic 90, 3) := by decide +kernel
theorem dX12_clash_22 : decode cX12_clash 22 = .ok (.ifCond .eq 8, 3) := by decide +kernel
theorem dX12_clash_25 : decode cX12_clash 25 = .ok (.iload_n 2, 1) := by decide +kernel
theorem dX12_clash_26 : decode cX12_clash 26 = .ok (.iload_n 3, 1) := by decide +kernel
theorem dX12_clash_27 : decode cX12_clash 27 = .ok (.if_icmp .ne 5, 3) := by decide +kernel
theorem dX12_clash_30 : decode cX12_clash 30 = .ok (.iconst (-1), 1) := by decide +kernel
theorem dX12_clash_31 : decode cX12_clash 31 = .ok (.ireturn, 1) := by decide +kernel
theorem dX12_clash_32 : decode cX12_clash 32 = .ok (.aload_n 0, 1) := by decide +kernel
theorem dX12_clash_33 : decode cX12_clash 33 = .ok (.iload_n 1, 1) := by decide +kernel
theorem dX12_clash_34 : decode cX12_clash 34 = .ok (.invokevirtual 472, 3) := by decide +kernel
theorem dX12_clash_37 : decode cX12_clash 37 = .ok (.aload_n 0, 1) := by decide +kernel
theorem dX12_clash_38 : decode cX12_clash 38 = .ok (.getfield 84, 3) := by decide +kernel
theorem dX12_clash_41 : decode cX12_clash 41 = .ok (.iload_n 2, 1) := by decide +kernel
theorem dX12_clash_42 : decode cX12_clash 42 = .ok (.iaload, 1) := by decide +kernel
theorem dX12_clash_43 : decode cX12_clash 43 = .ok (.iload_n 3, 1) := by decide +kernel
theorem dX12_clash_44 : decode cX12_clash 44 = .ok (.ishr, 1) := by decide +kernel
theorem dX12_clash_45 : decode cX12_clash 45 = .ok (.iconst 1, 1) := by decide +kernel
theorem dX12_clash_46 : decode cX12_clash 46 = .ok (.iand, 1) := by decide +kernel
theorem dX12_clash_47 : decode cX12_clash 47 = .ok (.ireturn, 1) := by decide +kernel
theorem dX12_clashFrom_0 : decode cX12_clashFrom 0 = .ok (.iload_n 1, 1) := by decide +kernel
theorem dX12_clashFrom_1 : decode cX12_clashFrom 1 = .ok (.istore_n 3, 1) := by decide +kernel
theorem dX12_clashFrom_2 : decode cX12_clashFrom 2 = .ok (.aload_n 0, 1) := by decide +kernel
theorem dX12_clashFrom_3 : decode cX12_clashFrom 3 = .ok (.iload_n 3, 1) := by decide +kernel
theorem dX12_clashFrom_4 : decode cX12_clashFrom 4 = .ok (.invokevirtual 107, 3) := by decide +kernel
theorem dX12_clashFrom_7 : decode cX12_clashFrom 7 = .ok (.ifCond .ne 143, 3) := by decide +kernel
theorem dX12_clashFrom_150 : decode cX12_clashFrom 150 = .ok (.return_, 1) := by decide +kernel
theorem dX12_clashIn_0 : decode cX12_clashIn 0 = .ok (.aload_n 0, 1) := by decide +kernel
theorem dX12_clashIn_1 : decode cX12_clashIn 1 = .ok (.iload_n 1, 1) := by decide +kernel
theorem dX12_clashIn_2 : decode cX12_clashIn 2 = .ok (.invokevirtual 271, 3) := by decide +kernel
theorem dX12_clashIn_5 : decode cX12_clashIn 5 = .ok (.iconst 0, 1) := by decide +kernel
theorem dX12_clashIn_6 : decode cX12_clashIn 6 = .ok (.istore_n 2, 1) := by decide +kernel
theorem dX12_clashIn_7 : decode cX12_clashIn 7 = .ok (.iload_n 2, 1) := by decide +kernel
theorem dX12_clashIn_8 : decode cX12_clashIn 8 = .ok (.bipush 6, 2) := by decide +kernel
theorem dX12_clashIn_10 : decode cX12_clashIn 10 = .ok (.if_icmp .ge 16, 3) := by decide +kernel
theorem dX12_clashIn_13 : decode cX12_clashIn 13 = .ok (.aload_n 0, 1) := by decide +kernel
theorem dX12_clashIn_14 : decode cX12_clashIn 14 = .ok (.getfield 84, 3) := by decide +kernel
theorem dX12_clashIn_17 : decode cX12_clashIn 17 = .ok (.iload_n 2, 1) := by decide +kernel
theorem dX12_clashIn_18 : decode cX12_clashIn 18 = .ok (.iconst 0, 1) := by decide +kernel
theorem dX12_clashIn_19 : decode cX12_clashIn 19 = .ok (.iastore, 1) := by decide +kernel
theorem dX12_clashIn_20 : decode cX12_clashIn 20 = .ok (.iinc 2 1, 3) := by decide +kernel
theorem dX12_clashIn_23 : decode cX12_clashIn 23 = .ok (.goto (-16), 3) := by decide +kernel
theorem dX12_clashIn_26 : decode cX12_clashIn 26 = .ok (.aload_n 0, 1) := by decide +kernel
theorem dX12_clashIn_27 : decode cX12_clashIn 27 = .ok (.iconst 0, 1) := by decide +kernel
theorem dX12_clashIn_28 : decode cX12_clashIn 28 = .ok (.iconst 0, 1) := by decide +kernel
theorem dX12_clashIn_29 : decode cX12_clashIn 29 = .ok (.invokevirtual 463, 3) := by decide +kernel
theorem dX12_clashIn_32 : decode cX12_clashIn 32 = .ok (.return_, 1) := by decide +kernel
theorem dX12_clear_0 : decode cX12_clear 0 = .ok (.iload_n 1, 1) := by decide +kernel
theorem dX12_clear_1 : decode cX12_clear 1 = .ok (.invokestatic 423, 3) := by decide +kernel
theorem dX12_clear_4 : decode cX12_clear 4 = .ok (.ifCond .ne 5, 3) := by decide +kernel
theorem dX12_clear_7 : decode cX12_clear 7 = .ok (.iconst 0, 1) := by decide +kernel
theorem dX12_clear_8 : decode cX12_clear 8 = .ok (.ireturn, 1) := by decide +kernel
theorem dX12_clear_9 : decode cX12_clear 9 = .ok (.aload_n 0, 1) := by decide +kernel
theorem dX12_clear_10 : decode cX12_clear 10 = .ok (.getfield 75, 3) := by decide +kernel
theorem dX12_clear_13 : decode cX12_clear 13 = .ok (.iload_n 1, 1) := by decide +kernel
theorem dX12_clear_14 : decode cX12_clear 14 = .ok (.iconst 0, 1) := by decide +kernel
theorem dX12_clear_15 : decode cX12_clear 15 = .ok (.iastore, 1) := by decide +kernel
theorem dX12_clear_16 : decode cX12_clear 16 = .ok (.iconst 1, 1) := by decide +kernel
theorem dX12_clear_17 : decode cX12_clear 17 = .ok (.ireturn, 1) := by decide +kernel
theorem dX12_compares_0 : decode cX12_compares 0 = .ok (.aload_n 0, 1) := by decide +kernel
theorem dX12_compares_1 : decode cX12_compares 1 = .ok (.iconst (-1), 1) := by decide +kernel
theorem dX12_compares_2 : decode cX12_compares 2 = .ok (.putfield 318, 3) := by decide +kernel
theorem dX12_compares_5 : decode cX12_compares 5 = .ok (.aload_n 0, 1) := by decide +kernel
theorem dX12_compares_6 : decode cX12_compares 6 = .ok (.iconst (-1), 1) := by decide +kernel
theorem dX12_compares_7 : decode cX12_compares 7 = .ok (.putfield 321, 3) := by decide +kernel
theorem dX12_compares_10 : decode cX12_compares 10 = .ok (.aload_n 0, 1) := by decide +kernel
theorem dX12_compares_11 : decode cX12_compares 11 = .ok (.iconst 0, 1) := by decide +kernel
theorem dX12_compares_12 : decode cX12_compares 12 = .ok (.putfield 324, 3) := by decide +kernel
theorem dX12_compares_15 : decode cX12_compares 15 = .ok (.aload_n 0, 1) := by decide +kernel
theorem dX12_compares_16 : decode cX12_compares 16 = .ok (.iconst 0, 1) := by decide +kernel
theorem dX12_compares_17 : decode cX12_compares 17 = .ok (.putfield 327, 3) := by decide +kernel
theorem dX12_compares_20 : decode cX12_compares 20 = .ok (.iconst 0, 1) := by decide +kernel
theorem dX12_compares_21 : decode cX12_compares 21 = .ok (.istore_n 1, 1) := by decide +kernel
theorem dX12_compares_22 : decode cX12_compares 22 = .ok (.iload_n 1, 1) := by decide +kernel
theorem dX12_compares_23 : decode cX12_compares 23 = .ok (.sipush 256, 3) := by decide +kernel
theorem dX12_compares_26 : decode cX12_compares 26 = .ok (.if_icmp .ge 214, 3) := by decide +kernel
theorem dX12_compares_29 : decode cX12_compares 29 = .ok (.aload_n 0, 1) := by decide +kernel
theorem dX12_compares_30 : decode cX12_compares 30 = .ok (.iload_n 1, 1) := by decide +kernel
theorem dX12_compares_31 : decode cX12_compares 31 = .ok (.bipush 16, 2) := by decide +kernel
theorem dX12_compares_33 : decode cX12_compares 33 = .ok (.idiv, 1) := by decide +kernel
theorem dX12_compares_34 : decode cX12_compares 34 = .ok (.iload_n 1, 1) := by decide +kernel
theorem dX12_compares_35 : decode cX12_compares 35 = .ok (.bipush 16, 2) := by decide +kernel
theorem dX12_compares_37 : decode cX12_compares 37 = .ok (.irem, 1) := by decide +kernel
theorem dX12_compares_38 : decode cX12_compares 38 = .ok (.invokevirtual 315, 3) := by decide +kernel
theorem dX12_compares_41 : decode cX12_compares 41 = .ok (.iconst 0, 1) := by decide +kernel
theorem dX12_compares_42 : decode cX12_compares 42 = .ok (.istore_n 2, 1) := by decide +kernel
theorem dX12_compares_43 : decode cX12_compares 43 = .ok (.iload_n 2, 1) := by decide +kernel
theorem dX12_compares_44 : decode cX12_compares 44 = .ok (.aload_n 0, 1) := by decide +kernel
theorem dX12_compares_45 : decode cX12_compares 45 = .ok (.getfield 312, 3) := by decide +kernel
theorem dX12_compares_48 : decode cX12_compares 48 = .ok (.if_icmp .ge 39, 3) := by decide +kernel
theorem dX12_compares_87 : decode cX12_compares 87 = .ok (.iload_n 2, 1) := by decide +kernel
theorem dX12_compares_88 : decode cX12_compares 88 = .ok (.aload_n 0, 1) := by decide +kernel
theorem dX12_compares_89 : decode cX12_compares 89 = .ok (.getfield 312, 3) := by decide +kernel
theorem dX12_compares_92 : decode cX12_compares 92 = .ok (.if_icmp .ge 17, 3) := by decide +kernel
theorem dX12_compares_109 : decode cX12_compares 109 = .ok (.iconst 0, 1) := by decide +kernel
theorem dX12_compares_110 : decode cX12_compares 110 = .ok (.istore_n 3, 1) := by decide +kernel
theorem dX12_compares_111 : decode cX12_compares 111 = .ok (.aload_n 0, 1) := by decide +kernel
theorem dX12_compares_112 : decode cX12_compares 112 = .ok (.getfield 294, 3) := by decide +kernel
theorem dX12_compares_115 : decode cX12_compares 115 = .ok (.iconst 2, 1) := by decide +kernel
theorem dX12_compares_116 : decode cX12_compares 116 = .ok (.if_icmp .eq 13, 3) := by decide +kernel
theorem dX12_compares_119 : decode cX12_compares 119 = .ok (.aload_n 0, 1) := by decide +kernel
theorem dX12_compares_120 : decode cX12_compares 120 = .ok (.getfield 47, 3) := by decide +kernel
theorem dX12_compares_123 : decode cX12_compares 123 = .ok (.iload_n 1, 1) := by decide +kernel
theorem dX12_compares_124 : decode cX12_compares 124 = .ok (.iaload, 1) := by decide +kernel
theorem dX12_compares_125 : decode cX12_compares 125 = .ok (.iconst 2, 1) := by decide +kernel
theorem dX12_compares_126 : decode cX12_compares 126 = .ok (.if_icmp .ne 7, 3) := by decide +kernel
theorem dX12_compares_133 : decode cX12_compares 133 = .ok (.iconst 0, 1) := by decide +kernel
theorem dX12_compares_134 : decode cX12_compares 134 = .ok (.istore 4, 2) := by decide +kernel
theorem dX12_compares_136 : decode cX12_compares 136 = .ok (.aload_n 0, 1) := by decide +kernel
theorem dX12_compares_137 : decode cX12_compares 137 = .ok (.aload_n 0, 1) := by decide +kernel
theorem dX12_compares_138 : decode cX12_compares 138 = .ok (.getfield 327, 3) := by decide +kernel
theorem dX12_compares_141 : decode cX12_compares 141 = .ok (.ifCond .ne 8, 3) := by decide +kernel
theorem dX12_compares_144 : decode cX12_compares 144 = .ok (.iload 4, 2) := by decide +kernel
theorem dX12_compares_146 : decode cX12_compares 146 = .ok (.ifCond .eq 7, 3) := by decide +kernel
theorem dX12_compares_153 : decode cX12_compares 153 = .ok (.iconst 0, 1) := by decide +kernel
theorem dX12_compares_154 : decode cX12_compares 154 = .ok (.putfield 327, 3) := by decide +kernel
theorem dX12_compares_157 : decode cX12_compares 157 = .ok (.iload_n 3, 1) := by decide +kernel
theorem dX12_compares_158 : decode cX12_compares 158 = .ok (.ifCond .ne 37, 3) := by decide +kernel
theorem dX12_compares_161 : decode cX12_compares 161 = .ok (.iload 4, 2) := by decide +kernel
theorem dX12_compares_163 : decode cX12_compares 163 = .ok (.ifCond .ne 71, 3) := by decide +kernel
theorem dX12_compares_166 : decode cX12_compares 166 = .ok (.aload_n 0, 1) := by decide +kernel
theorem dX12_compares_167 : decode cX12_compares 167 = .ok (.getfield 312, 3) := by decide +kernel
theorem dX12_compares_170 : decode cX12_compares 170 = .ok (.aload_n 0, 1) := by decide +kernel
theorem dX12_compares_171 : decode cX12_compares 171 = .ok (.getfield 50, 3) := by decide +kernel
theorem dX12_compares_174 : decode cX12_compares 174 = .ok (.iload_n 1, 1) := by decide +kernel
theorem dX12_compares_175 : decode cX12_compares 175 = .ok (.iaload, 1) := by decide +kernel
theorem dX12_compares_176 : decode cX12_compares 176 = .ok (.if_icmp .ne 19, 3) := by decide +kernel
theorem dX12_compares_179 : decode cX12_compares 179 = .ok (.aload_n 0, 1) := by decide +kernel
theorem dX12_compares_180 : decode cX12_compares 180 = .ok (.getfield 294, 3) := by decide +kernel
theorem dX12_compares_183 : decode cX12_compares 183 = .ok (.aload_n 0, 1) := by decide +kernel
theorem dX12_compares_184 : decode cX12_compares 184 = .ok (.getfield 47, 3) := by decide +kernel
theorem dX12_compares_187 : decode cX12_compares 187 = .ok (.iload_n 1, 1) := by decide +kernel
theorem dX12_compares_188 : decode cX12_compares 188 = .ok (.iaload, 1) := by decide +kernel
theorem dX12_compares_189 : decode cX12_compares 189 = .ok (.if_icmp .ne 6, 3) := by decide +kernel
theorem dX12_compares_192 : decode cX12_compares 192 = .ok (.goto 42, 3) := by decide +kernel
theorem dX12_compares_234 : decode cX12_compares 234 = .ok (.iinc 1 1, 3) := by decide +kernel
theorem dX12_compares_237 : decode cX12_compares 237 = .ok (.goto (-215), 3) := by decide +kernel
theorem dX12_compares_240 : decode cX12_compares 240 = .ok (.return_, 1) := by decide +kernel
theorem dX12_cut_0 : decode cX12_cut 0 = .ok (.iload_n 1, 1) := by decide +kernel
theorem dX12_cut_1 : decode cX12_cut 1 = .ok (.invokestatic 423, 3) := by decide +kernel
theorem dX12_cut_4 : decode cX12_cut 4 = .ok (.ifCond .eq 17, 3) := by decide +kernel
theorem dX12_cut_7 : decode cX12_cut 7 = .ok (.iload_n 2, 1) := by decide +kernel
theorem dX12_cut_8 : decode cX12_cut 8 = .ok (.invokestatic 249, 3) := by decide +kernel
theorem dX12_cut_11 : decode cX12_cut 11 = .ok (.ifCond .eq 10, 3) := by decide +kernel
theorem dX12_cut_14 : decode cX12_cut 14 = .ok (.iload_n 3, 1) := by decide +kernel
theorem dX12_cut_15 : decode cX12_cut 15 = .ok (.invokestatic 249, 3) := by decide +kernel
theorem dX12_cut_18 : decode cX12_cut 18 = .ok (.ifCond .ne 5, 3) := by decide +kernel
theorem dX12_cut_21 : decode cX12_cut 21 = .ok (.iconst (-1), 1) := by decide +kernel
theorem dX12_cut_22 : decode cX12_cut 22 = .ok (.ireturn, 1) := by decide +kernel
theorem dX12_cut_23 : decode cX12_cut 23 = .ok (.aload_n 0, 1) := by decide +kernel
theorem dX12_cut_24 : decode cX12_cut 24 = .ok (.iload_n 2, 1) := by decide +kernel
theorem dX12_cut_25 : decode cX12_cut 25 = .ok (.invokevirtual 271, 3) := by decide +kernel
theorem dX12_cut_28 : decode cX12_cut 28 = .ok (.aload_n 0, 1) := by decide +kernel
theorem dX12_cut_29 : decode cX12_cut 29 = .ok (.invokevirtual 265, 3) := by decide +kernel
theorem dX12_cut_32 : decode cX12_cut 32 = .ok (.iconst 1, 1) := by decide +kernel
theorem dX12_cut_33 : decode cX12_cut 33 = .ok (.bipush 12, 2) := by decide +kernel
theorem dX12_cut_35 : decode cX12_cut 35 = .ok (.invokestatic 90, 3) := by decide +kernel
theorem dX12_cut_38 : decode cX12_cut 38 = .ok (.ifCond .ne 5, 3) := by decide +kernel
theorem dX12_cut_41 : decode cX12_cut 41 = .ok (.iconst (-1), 1) := by decide +kernel
theorem dX12_cut_42 : decode cX12_cut 42 = .ok (.ireturn, 1) := by decide +kernel
theorem dX12_deals_0 : decode cX12_deals 0 = .ok (.iconst 1, 1) := by decide +kernel
theorem dX12_deals_1 : decode cX12_deals 1 = .ok (.istore_n 3, 1) := by decide +kernel
theorem dX12_deals_2 : decode cX12_deals 2 = .ok (.iconst 0, 1) := by decide +kernel
theorem dX12_deals_3 : decode cX12_deals 3 = .ok (.istore 4, 2) := by decide +kernel
theorem dX12_deals_5 : decode cX12_deals 5 = .ok (.iload 4, 2) := by decide +kernel
theorem dX12_deals_7 : decode cX12_deals 7 = .ok (.bipush 6, 2) := by decide +kernel
theorem dX12_deals_9 : decode cX12_deals 9 = .ok (.if_icmp .ge 27, 3) := by decide +kernel
theorem dX12_deals_12 : decode cX12_deals 12 = .ok (.iload_n 3, 1) := by decide +kernel
theorem dX12_deals_13 : decode cX12_deals 13 = .ok (.iload_n 1, 1) := by decide +kernel
theorem dX12_deals_14 : decode cX12_deals 14 = .ok (.iload 4, 2) := by decide +kernel
theorem dX12_deals_16 : decode cX12_deals 16 = .ok (.ishr, 1) := by decide +kernel
theorem dX12_deals_17 : decode cX12_deals 17 = .ok (.iconst 1, 1) := by decide +kernel
theorem dX12_deals_18 : decode cX12_deals 18 = .ok (.iand, 1) := by decide +kernel
theorem dX12_deals_19 : decode cX12_deals 19 = .ok (.iconst 1, 1) := by decide +kernel
theorem dX12_deals_20 : decode cX12_deals 20 = .ok (.if_icmp .ne 7, 3) := by decide +kernel
theorem dX12_deals_27 : decode cX12_deals 27 = .ok (.iconst 1, 1) := by decide +kernel
theorem dX12_deals_28 : decode cX12_deals 28 = .ok (.imul, 1) := by decide +kernel
theorem dX12_deals_29 : decode cX12_deals 29 = .ok (.istore_n 3, 1) := by decide +kernel
theorem dX12_deals_30 : decode cX12_deals 30 = .ok (.iinc 4 1, 3) := by decide +kernel
theorem dX12_deals_33 : decode cX12_deals 33 = .ok (.goto (-28), 3) := by decide +kernel
theorem dX12_deals_36 : decode cX12_deals 36 = .ok (.iconst 0, 1) := by decide +kernel
theorem dX12_deals_37 : decode cX12_deals 37 = .ok (.istore 4, 2) := by decide +kernel
theorem dX12_deals_39 : decode cX12_deals 39 = .ok (.iload 4, 2) := by decide +kernel
theorem dX12_deals_41 : decode cX12_deals 41 = .ok (.iload_n 3, 1) := by decide +kernel
theorem dX12_deals_42 : decode cX12_deals 42 = .ok (.if_icmp .ge 161, 3) := by decide +kernel
theorem dX12_deals_45 : decode cX12_deals 45 = .ok (.iload 4, 2) := by decide +kernel
theorem dX12_deals_47 : decode cX12_deals 47 = .ok (.istore 5, 2) := by decide +kernel
theorem dX12_deals_49 : decode cX12_deals 49 = .ok (.iconst 5, 1) := by decide +kernel
theorem dX12_deals_50 : decode cX12_deals 50 = .ok (.istore 6, 2) := by decide +kernel
theorem dX12_deals_52 : decode cX12_deals 52 = .ok (.iload 6, 2) := by decide +kernel
theorem dX12_deals_54 : decode cX12_deals 54 = .ok (.ifCond .lt 46, 3) := by decide +kernel
theorem dX12_deals_57 : decode cX12_deals 57 = .ok (.aload_n 0, 1) := by decide +kernel
theorem dX12_deals_58 : decode cX12_deals 58 = .ok (.getfield 87, 3) := by decide +kernel
theorem dX12_deals_61 : decode cX12_deals 61 = .ok (.iload 6, 2) := by decide +kernel
theorem dX12_deals_63 : decode cX12_deals 63 = .ok (.iconst (-1), 1) := by decide +kernel
theorem dX12_deals_64 : decode cX12_deals 64 = .ok (.iastore, 1) := by decide +kernel
theorem dX12_deals_65 : decode cX12_deals 65 = .ok (.iload_n 1, 1) := by decide +kernel
theorem dX12_deals_66 : decode cX12_deals 66 = .ok (.iload 6, 2) := by decide +kernel
theorem dX12_deals_68 : decode cX12_deals 68 = .ok (.ishr, 1) := by decide +kernel
theorem dX12_deals_69 : decode cX12_deals 69 = .ok (.iconst 1, 1) := by decide +kernel
theorem dX12_deals_70 : decode cX12_deals 70 = .ok (.iand, 1) := by decide +kernel
theorem dX12_deals_71 : decode cX12_deals 71 = .ok (.ifCond .ne 6, 3) := by decide +kernel
theorem dX12_deals_74 : decode cX12_deals 74 = .ok (.goto 20, 3) := by decide +kernel
theorem dX12_deals_94 : decode cX12_deals 94 = .ok (.iinc 6 (-1), 3) := by decide +kernel
theorem dX12_deals_97 : decode cX12_deals 97 = .ok (.goto (-45), 3) := by decide +kernel
theorem dX12_deals_100 : decode cX12_deals 100 = .ok (.iconst 1, 1) := by decide +kernel
theorem dX12_deals_101 : decode cX12_deals 101 = .ok (.istore 6, 2) := by decide +kernel
theorem dX12_deals_103 : decode cX12_deals 103 = .ok (.iconst 0, 1) := by decide +kernel
theorem dX12_deals_104 : decode cX12_deals 104 = .ok (.istore 7, 2) := by decide +kernel
theorem dX12_deals_106 : decode cX12_deals 106 = .ok (.iload 7, 2) := by decide +kernel
theorem dX12_deals_108 : decode cX12_deals 108 = .ok (.bipush 6, 2) := by decide +kernel
theorem dX12_deals_110 : decode cX12_deals 110 = .ok (.if_icmp .ge 80, 3) := by decide +kernel
theorem dX12_deals_113 : decode cX12_deals 113 = .ok (.iconst 0, 1) := by decide +kernel
theorem dX12_deals_114 : decode cX12_deals 114 = .ok (.istore 8, 2) := by decide +kernel
theorem dX12_deals_116 : decode cX12_deals 116 = .ok (.iload 8, 2) := by decide +kernel
theorem dX12_deals_118 : decode cX12_deals 118 = .ok (.iload 7, 2) := by decide +kernel
theorem dX12_deals_120 : decode cX12_deals 120 = .ok (.if_icmp .ge 64, 3) := by decide +kernel
theorem dX12_deals_123 : decode cX12_deals 123 = .ok (.iload 6, 2) := by decide +kernel
theorem dX12_deals_125 : decode cX12_deals 125 = .ok (.ifCond .eq 50, 3) := by decide +kernel
theorem dX12_deals_128 : decode cX12_deals 128 = .ok (.aload_n 0, 1) := by decide +kernel
theorem dX12_deals_129 : decode cX12_deals 129 = .ok (.getfield 87, 3) := by decide +kernel
theorem dX12_deals_132 : decode cX12_deals 132 = .ok (.iload 7, 2) := by decide +kernel
theorem dX12_deals_134 : decode cX12_deals 134 = .ok (.iaload, 1) := by decide +kernel
theorem dX12_deals_135 : decode cX12_deals 135 = .ok (.iconst (-1), 1) := by decide +kernel
theorem dX12_deals_136 : decode cX12_deals 136 = .ok (.if_icmp .eq 35, 3) := by decide +kernel
theorem dX12_deals_171 : decode cX12_deals 171 = .ok (.iconst 1, 1) := by decide +kernel
theorem dX12_deals_172 : decode cX12_deals 172 = .ok (.goto 4, 3) := by decide +kernel
theorem dX12_deals_176 : decode cX12_deals 176 = .ok (.istore 6, 2) := by decide +kernel
theorem dX12_deals_178 : decode cX12_deals 178 = .ok (.iinc 8 1, 3) := by decide +kernel
theorem dX12_deals_181 : decode cX12_deals 181 = .ok (.goto (-65), 3) := by decide +kernel
theorem dX12_deals_184 : decode cX12_deals 184 = .ok (.iinc 7 1, 3) := by decide +kernel
theorem dX12_deals_187 : decode cX12_deals 187 = .ok (.goto (-81), 3) := by decide +kernel
theorem dX12_deals_190 : decode cX12_deals 190 = .ok (.iload 6, 2) := by decide +kernel
theorem dX12_deals_192 : decode cX12_deals 192 = .ok (.ifCond .eq 5, 3) := by decide +kernel
theorem dX12_deals_195 : decode cX12_deals 195 = .ok (.iconst 1, 1) := by decide +kernel
theorem dX12_deals_196 : decode cX12_deals 196 = .ok (.ireturn, 1) := by decide +kernel
theorem dX12_does_0 : decode cX12_does 0 = .ok (.iload_n 1, 1) := by decide +kernel
theorem dX12_does_1 : decode cX12_does 1 = .ok (.istore_n 2, 1) := by decide +kernel
theorem dX12_does_2 : decode cX12_does 2 = .ok (.aload_n 0, 1) := by decide +kernel
theorem dX12_does_3 : decode cX12_does 3 = .ok (.iload_n 2, 1) := by decide +kernel
theorem dX12_does_4 : decode cX12_does 4 = .ok (.invokevirtual 107, 3) := by decide +kernel
theorem dX12_does_7 : decode cX12_does 7 = .ok (.ifCond .ne 22, 3) := by decide +kernel
theorem dX12_does_29 : decode cX12_does 29 = .ok (.iconst 1, 1) := by decide +kernel
theorem dX12_does_30 : decode cX12_does 30 = .ok (.ireturn, 1) := by decide +kernel
theorem dX12_end_0 : decode cX12_end 0 = .ok (.iload_n 1, 1) := by decide +kernel
theorem dX12_end_1 : decode cX12_end 1 = .ok (.iconst 0, 1) := by decide +kernel
theorem dX12_end_2 : decode cX12_end 2 = .ok (.aload_n 0, 1) := by decide +kernel
theorem dX12_end_3 : decode cX12_end 3 = .ok (.getfield 124, 3) := by decide +kernel
theorem dX12_end_6 : decode cX12_end 6 = .ok (.invokestatic 90, 3) := by decide +kernel
theorem dX12_end_9 : decode cX12_end 9 = .ok (.ifCond .ne 5, 3) := by decide +kernel
theorem dX12_end_12 : decode cX12_end 12 = .ok (.iconst 0, 1) := by decide +kernel
theorem dX12_end_13 : decode cX12_end 13 = .ok (.ireturn, 1) := by decide +kernel
theorem dX12_end_14 : decode cX12_end 14 = .ok (.aload_n 0, 1) := by decide +kernel
theorem dX12_end_15 : decode cX12_end 15 = .ok (.iload_n 1, 1) := by decide +kernel
theorem dX12_end_16 : decode cX12_end 16 = .ok (.putfield 124, 3) := by decide +kernel
theorem dX12_end_19 : decode cX12_end 19 = .ok (.iconst 1, 1) := by decide +kernel
theorem dX12_end_20 : decode cX12_end 20 = .ok (.ireturn, 1) := by decide +kernel
theorem dX12_ends_0 : decode cX12_ends 0 = .ok (.aload_n 0, 1) := by decide +kernel
theorem dX12_ends_1 : decode cX12_ends 1 = .ok (.iconst 0, 1) := by decide +kernel
theorem dX12_ends_2 : decode cX12_ends 2 = .ok (.putfield 124, 3) := by decide +kernel
theorem dX12_ends_5 : decode cX12_ends 5 = .ok (.aload_n 0, 1) := by decide +kernel
theorem dX12_ends_6 : decode cX12_ends 6 = .ok (.aload_n 0, 1) := by decide +kernel
theorem dX12_ends_7 : decode cX12_ends 7 = .ok (.getfield 179, 3) := by decide +kernel
theorem dX12_ends_10 : decode cX12_ends 10 = .ok (.putfield 246, 3) := by decide +kernel
theorem dX12_ends_13 : decode cX12_ends 13 = .ok (.aload_n 0, 1) := by decide +kernel
theorem dX12_ends_14 : decode cX12_ends 14 = .ok (.aload_n 0, 1) := by decide +kernel
theorem dX12_ends_15 : decode cX12_ends 15 = .ok (.getfield 179, 3) := by decide +kernel
theorem dX12_ends_18 : decode cX12_ends 18 = .ok (.ifCond .ne 7, 3) := by decide +kernel
theorem dX12_ends_21 : decode cX12_ends 21 = .ok (.iconst (-1), 1) := by decide +kernel
theorem dX12_ends_22 : decode cX12_ends 22 = .ok (.goto 7, 3) := by decide +kernel
theorem dX12_ends_25 : decode cX12_ends 25 = .ok (.aload_n 0, 1) := by decide +kernel
theorem dX12_ends_26 : decode cX12_ends 26 = .ok (.getfield 182, 3) := by decide +kernel
theorem dX12_ends_29 : decode cX12_ends 29 = .ok (.putfield 25, 3) := by decide +kernel
theorem dX12_ends_32 : decode cX12_ends 32 = .ok (.return_, 1) := by decide +kernel
theorem dX12_enough_0 : decode cX12_enough 0 = .ok (.iconst 0, 1) := by decide +kernel
theorem dX12_enough_1 : decode cX12_enough 1 = .ok (.istore_n 2, 1) := by decide +kernel
theorem dX12_enough_2 : decode cX12_enough 2 = .ok (.aload_n 0, 1) := by decide +kernel
theorem dX12_enough_3 : decode cX12_enough 3 = .ok (.iload_n 1, 1) := by decide +kernel
theorem dX12_enough_4 : decode cX12_enough 4 = .ok (.iload_n 2, 1) := by decide +kernel
theorem dX12_enough_5 : decode cX12_enough 5 = .ok (.invokevirtual 466, 3) := by decide +kernel
theorem dX12_enough_8 : decode cX12_enough 8 = .ok (.ifCond .ne 9, 3) := by decide +kernel
theorem dX12_enough_17 : decode cX12_enough 17 = .ok (.iload_n 2, 1) := by decide +kernel
theorem dX12_enough_18 : decode cX12_enough 18 = .ok (.ireturn, 1) := by decide +kernel
theorem dX12_fault_0 : decode cX12_fault 0 = .ok (.iload_n 1, 1) := by decide +kernel
theorem dX12_fault_1 : decode cX12_fault 1 = .ok (.ifCond .ne 10, 3) := by decide +kernel
theorem dX12_fault_4 : decode cX12_fault 4 = .ok (.aload_n 0, 1) := by decide +kernel
theorem dX12_fault_5 : decode cX12_fault 5 = .ok (.getfield 246, 3) := by decide +kernel
theorem dX12_fault_8 : decode cX12_fault 8 = .ok (.goto 16, 3) := by decide +kernel
theorem dX12_fault_11 : decode cX12_fault 11 = .ok (.iload_n 1, 1) := by decide +kernel
theorem dX12_fault_12 : decode cX12_fault 12 = .ok (.iconst 1, 1) := by decide +kernel
theorem dX12_fault_13 : decode cX12_fault 13 = .ok (.if_icmp .ne 10, 3) := by decide +kernel
theorem dX12_fault_16 : decode cX12_fault 16 = .ok (.aload_n 0, 1) := by decide +kernel
theorem dX12_fault_17 : decode cX12_fault 17 = .ok (.getfield 25, 3) := by decide +kernel
theorem dX12_fault_20 : decode cX12_fault 20 = .ok (.goto 4, 3) := by decide +kernel
theorem dX12_fault_23 : decode cX12_fault 23 = .ok (.iconst (-1), 1) := by decide +kernel
theorem dX12_fault_24 : decode cX12_fault 24 = .ok (.ireturn, 1) := by decide +kernel
theorem dX12_feed_0 : decode cX12_feed 0 = .ok (.aload_n 0, 1) := by decide +kernel
theorem dX12_feed_1 : decode cX12_feed 1 = .ok (.getfield 124, 3) := by decide +kernel
theorem dX12_feed_4 : decode cX12_feed 4 = .ok (.bipush 20, 2) := by decide +kernel
theorem dX12_feed_6 : decode cX12_feed 6 = .ok (.iadd, 1) := by decide +kernel
theorem dX12_feed_7 : decode cX12_feed 7 = .ok (.sipush 800, 3) := by decide +kernel
theorem dX12_feed_10 : decode cX12_feed 10 = .ok (.if_icmp .le 5, 3) := by decide +kernel
theorem dX12_feed_15 : decode cX12_feed 15 = .ok (.iconst 0, 1) := by decide +kernel
theorem dX12_feed_16 : decode cX12_feed 16 = .ok (.istore 6, 2) := by decide +kernel
theorem dX12_feed_18 : decode cX12_feed 18 = .ok (.iload 6, 2) := by decide +kernel
theorem dX12_feed_20 : decode cX12_feed 20 = .ok (.bipush 20, 2) := by decide +kernel
theorem dX12_feed_22 : decode cX12_feed 22 = .ok (.if_icmp .ge 93, 3) := by decide +kernel
theorem dX12_feed_25 : decode cX12_feed 25 = .ok (.iload 6, 2) := by decide +kernel
theorem dX12_feed_27 : decode cX12_feed 27 = .ok (.iconst 4, 1) := by decide +kernel
theorem dX12_feed_28 : decode cX12_feed 28 = .ok (.if_icmp .ge 7, 3) := by decide +kernel
theorem dX12_feed_31 : decode cX12_feed 31 = .ok (.iload_n 1, 1) := by decide +kernel
theorem dX12_feed_32 : decode cX12_feed 32 = .ok (.goto 39, 3) := by decide +kernel
theorem dX12_feed_35 : decode cX12_feed 35 = .ok (.iload 6, 2) := by decide +kernel
theorem dX12_feed_37 : decode cX12_feed 37 = .ok (.bipush 8, 2) := by decide +kernel
theorem dX12_feed_39 : decode cX12_feed 39 = .ok (.if_icmp .ge 7, 3) := by decide +kernel
theorem dX12_feed_42 : decode cX12_feed 42 = .ok (.iload_n 2, 1) := by decide +kernel
theorem dX12_feed_43 : decode cX12_feed 43 = .ok (.goto 28, 3) := by decide +kernel
theorem dX12_feed_46 : decode cX12_feed 46 = .ok (.iload 6, 2) := by decide +kernel
theorem dX12_feed_48 : decode cX12_feed 48 = .ok (.bipush 12, 2) := by decide +kernel
theorem dX12_feed_50 : decode cX12_feed 50 = .ok (.if_icmp .ge 7, 3) := by decide +kernel
theorem dX12_feed_53 : decode cX12_feed 53 = .ok (.iload_n 3, 1) := by decide +kernel
theorem dX12_feed_54 : decode cX12_feed 54 = .ok (.goto 17, 3) := by decide +kernel
theorem dX12_feed_57 : decode cX12_feed 57 = .ok (.iload 6, 2) := by decide +kernel
theorem dX12_feed_59 : decode cX12_feed 59 = .ok (.bipush 16, 2) := by decide +kernel
theorem dX12_feed_61 : decode cX12_feed 61 = .ok (.if_icmp .ge 8, 3) := by decide +kernel
theorem dX12_feed_64 : decode cX12_feed 64 = .ok (.iload 4, 2) := by decide +kernel
theorem dX12_feed_66 : decode cX12_feed 66 = .ok (.goto 5, 3) := by decide +kernel
theorem dX12_feed_69 : decode cX12_feed 69 = .ok (.iload 5, 2) := by decide +kernel
theorem dX12_feed_71 : decode cX12_feed 71 = .ok (.istore 7, 2) := by decide +kernel
theorem dX12_feed_73 : decode cX12_feed 73 = .ok (.aload_n 0, 1) := by decide +kernel
theorem dX12_feed_74 : decode cX12_feed 74 = .ok (.getfield 22, 3) := by decide +kernel
theorem dX12_feed_77 : decode cX12_feed 77 = .ok (.aload_n 0, 1) := by decide +kernel
theorem dX12_feed_78 : decode cX12_feed 78 = .ok (.getfield 124, 3) := by decide +kernel
theorem dX12_feed_81 : decode cX12_feed 81 = .ok (.iload 7, 2) := by decide +kernel
theorem dX12_feed_83 : decode cX12_feed 83 = .ok (.bipush 24, 2) := by decide +kernel
theorem dX12_feed_85 : decode cX12_feed 85 = .ok (.bipush 8, 2) := by decide +kernel
theorem dX12_feed_87 : decode cX12_feed 87 = .ok (.iload 6, 2) := by decide +kernel
theorem dX12_feed_89 : decode cX12_feed 89 = .ok (.iconst 4, 1) := by decide +kernel
theorem dX12_feed_90 : decode cX12_feed 90 = .ok (.irem, 1) := by decide +kernel
theorem dX12_feed_91 : decode cX12_feed 91 = .ok (.imul, 1) := by decide +kernel
theorem dX12_feed_92 : decode cX12_feed 92 = .ok (.isub, 1) := by decide +kernel
theorem dX12_feed_93 : decode cX12_feed 93 = .ok (.ishr, 1) := by decide +kernel
theorem dX12_feed_94 : decode cX12_feed 94 = .ok (.sipush 255, 3) := by decide +kernel
theorem dX12_feed_97 : decode cX12_feed 97 = .ok (.iand, 1) := by decide +kernel
theorem dX12_feed_98 : decode cX12_feed 98 = .ok (.iastore, 1) := by decide +kernel
theorem dX12_feed_99 : decode cX12_feed 99 = .ok (.aload_n 0, 1) := by decide +kernel
theorem dX12_feed_100 : decode cX12_feed 100 = .ok (.dup, 1) := by decide +kernel
theorem dX12_feed_101 : decode cX12_feed 101 = .ok (.getfield 124, 3) := by decide +kernel
theorem dX12_feed_104 : decode cX12_feed 104 = .ok (.iconst 1, 1) := by decide +kernel
theorem dX12_feed_105 : decode cX12_feed 105 = .ok (.iadd, 1) := by decide +kernel
theorem dX12_feed_106 : decode cX12_feed 106 = .ok (.putfield 124, 3) := by decide +kernel
theorem dX12_feed_109 : decode cX12_feed 109 = .ok (.iinc 6 1, 3) := by decide +kernel
theorem dX12_feed_112 : decode cX12_feed 112 = .ok (.goto (-94), 3) := by decide +kernel
theorem dX12_feed_115 : decode cX12_feed 115 = .ok (.aload_n 0, 1) := by decide +kernel
theorem dX12_feed_116 : decode cX12_feed 116 = .ok (.getfield 124, 3) := by decide +kernel
theorem dX12_feed_119 : decode cX12_feed 119 = .ok (.ireturn, 1) := by decide +kernel
theorem dX12_inRow_0 : decode cX12_inRow 0 = .ok (.aload_n 0, 1) := by decide +kernel
theorem dX12_inRow_1 : decode cX12_inRow 1 = .ok (.iconst 0, 1) := by decide +kernel
theorem dX12_inRow_2 : decode cX12_inRow 2 = .ok (.aload_n 0, 1) := by decide +kernel
theorem dX12_inRow_3 : decode cX12_inRow 3 = .ok (.getfield 98, 3) := by decide +kernel
theorem dX12_inRow_6 : decode cX12_inRow 6 = .ok (.invokevirtual 379, 3) := by decide +kernel
theorem dX12_inRow_9 : decode cX12_inRow 9 = .ok (.istore_n 1, 1) := by decide +kernel
theorem dX12_inRow_10 : decode cX12_inRow 10 = .ok (.iconst 0, 1) := by decide +kernel
theorem dX12_inRow_11 : decode cX12_inRow 11 = .ok (.istore_n 2, 1) := by decide +kernel
theorem dX12_inRow_12 : decode cX12_inRow 12 = .ok (.iload_n 2, 1) := by decide +kernel
theorem dX12_inRow_13 : decode cX12_inRow 13 = .ok (.bipush 6, 2) := by decide +kernel
theorem dX12_inRow_15 : decode cX12_inRow 15 = .ok (.if_icmp .ge 32, 3) := by decide +kernel
theorem dX12_inRow_18 : decode cX12_inRow 18 = .ok (.iload_n 1, 1) := by decide +kernel
theorem dX12_inRow_19 : decode cX12_inRow 19 = .ok (.aload_n 0, 1) := by decide +kernel
theorem dX12_inRow_20 : decode cX12_inRow 20 = .ok (.iconst 0, 1) := by decide +kernel
theorem dX12_inRow_21 : decode cX12_inRow 21 = .ok (.aload_n 0, 1) := by decide +kernel
theorem dX12_inRow_22 : decode cX12_inRow 22 = .ok (.getfield 98, 3) := by decide +kernel
theorem dX12_inRow_25 : decode cX12_inRow 25 = .ok (.iload_n 2, 1) := by decide +kernel
theorem dX12_inRow_26 : decode cX12_inRow 26 = .ok (.invokevirtual 409, 3) := by decide +kernel
theorem dX12_inRow_29 : decode cX12_inRow 29 = .ok (.ifCond .eq 9, 3) := by decide +kernel
theorem dX12_inRow_38 : decode cX12_inRow 38 = .ok (.iconst 0, 1) := by decide +kernel
theorem dX12_inRow_39 : decode cX12_inRow 39 = .ok (.ior, 1) := by decide +kernel
theorem dX12_inRow_40 : decode cX12_inRow 40 = .ok (.istore_n 1, 1) := by decide +kernel
theorem dX12_inRow_41 : decode cX12_inRow 41 = .ok (.iinc 2 1, 3) := by decide +kernel
theorem dX12_inRow_44 : decode cX12_inRow 44 = .ok (.goto (-32), 3) := by decide +kernel
theorem dX12_inRow_47 : decode cX12_inRow 47 = .ok (.iload_n 1, 1) := by decide +kernel
theorem dX12_inRow_48 : decode cX12_inRow 48 = .ok (.ireturn, 1) := by decide +kernel
theorem dX12_init_0 : decode cX12_init 0 = .ok (.aload_n 0, 1) := by decide +kernel
theorem dX12_init_1 : decode cX12_init 1 = .ok (.invokespecial 1, 3) := by decide +kernel
theorem dX12_init_4 : decode cX12_init 4 = .ok (.aload_n 0, 1) := by decide +kernel
theorem dX12_init_5 : decode cX12_init 5 = .ok (.sipush 3120, 3) := by decide +kernel
theorem dX12_init_8 : decode cX12_init 8 = .ok (.newarray .int, 2) := by decide +kernel
theorem dX12_init_10 : decode cX12_init 10 = .ok (.putfield 7, 3) := by decide +kernel
theorem dX12_init_13 : decode cX12_init 13 = .ok (.aload_n 0, 1) := by decide +kernel
theorem dX12_init_14 : decode cX12_init 14 = .ok (.bipush 6, 2) := by decide +kernel
theorem dX12_init_16 : decode cX12_init 16 = .ok (.newarray .int, 2) := by decide +kernel
theorem dX12_init_18 : decode cX12_init 18 = .ok (.putfield 13, 3) := by decide +kernel
theorem dX12_init_21 : decode cX12_init 21 = .ok (.aload_n 0, 1) := by decide +kernel
theorem dX12_init_22 : decode cX12_init 22 = .ok (.sipush 2400, 3) := by decide +kernel
theorem dX12_init_25 : decode cX12_init 25 = .ok (.newarray .int, 2) := by decide +kernel
theorem dX12_init_27 : decode cX12_init 27 = .ok (.putfield 16, 3) := by decide +kernel
theorem dX12_init_30 : decode cX12_init 30 = .ok (.aload_n 0, 1) := by decide +kernel
theorem dX12_init_31 : decode cX12_init 31 = .ok (.sipush 2400, 3) := by decide +kernel
theorem dX12_init_34 : decode cX12_init 34 = .ok (.newarray .int, 2) := by decide +kernel
theorem dX12_init_36 : decode cX12_init 36 = .ok (.putfield 19, 3) := by decide +kernel
theorem dX12_init_39 : decode cX12_init 39 = .ok (.aload_n 0, 1) := by decide +kernel
theorem dX12_init_40 : decode cX12_init 40 = .ok (.sipush 800, 3) := by decide +kernel
theorem dX12_init_43 : decode cX12_init 43 = .ok (.newarray .int, 2) := by decide +kernel
theorem dX12_init_45 : decode cX12_init 45 = .ok (.putfield 22, 3) := by decide +kernel
theorem dX12_init_48 : decode cX12_init 48 = .ok (.aload_n 0, 1) := by decide +kernel
theorem dX12_init_49 : decode cX12_init 49 = .ok (.iconst (-1), 1) := by decide +kernel
theorem dX12_init_50 : decode cX12_init 50 = .ok (.putfield 25, 3) := by decide +kernel
theorem dX12_init_53 : decode cX12_init 53 = .ok (.aload_n 0, 1) := by decide +kernel
theorem dX12_init_54 : decode cX12_init 54 = .ok (.sipush 512, 3) := by decide +kernel
theorem dX12_init_57 : decode cX12_init 57 = .ok (.newarray .int, 2) := by decide +kernel
theorem dX12_init_59 : decode cX12_init 59 = .ok (.putfield 29, 3) := by decide +kernel
theorem dX12_init_62 : decode cX12_init 62 = .ok (.aload_n 0, 1) := by decide +kernel
theorem dX12_init_63 : decode cX12_init 63 = .ok (.bipush 12, 2) := by decide +kernel
theorem dX12_init_65 : decode cX12_init 65 = .ok (.newarray .int, 2) := by decide +kernel
theorem dX12_init_67 : decode cX12_init 67 = .ok (.putfield 32, 3) := by decide +kernel
theorem dX12_init_70 : decode cX12_init 70 = .ok (.aload_n 0, 1) := by decide +kernel
theorem dX12_init_71 : decode cX12_init 71 = .ok (.bipush 12, 2) := by decide +kernel
theorem dX12_init_73 : decode cX12_init 73 = .ok (.newarray .int, 2) := by decide +kernel
theorem dX12_init_75 : decode cX12_init 75 = .ok (.putfield 35, 3) := by decide +kernel
theorem dX12_init_78 : decode cX12_init 78 = .ok (.aload_n 0, 1) := by decide +kernel
theorem dX12_init_79 : decode cX12_init 79 = .ok (.bipush 12, 2) := by decide +kernel
theorem dX12_init_81 : decode cX12_init 81 = .ok (.newarray .int, 2) := by decide +kernel
theorem dX12_init_83 : decode cX12_init 83 = .ok (.putfield 38, 3) := by decide +kernel
theorem dX12_init_86 : decode cX12_init 86 = .ok (.aload_n 0, 1) := by decide +kernel
theorem dX12_init_87 : decode cX12_init 87 = .ok (.bipush 6, 2) := by decide +kernel
theorem dX12_init_89 : decode cX12_init 89 = .ok (.newarray .int, 2) := by decide +kernel
theorem dX12_init_91 : decode cX12_init 91 = .ok (.putfield 41, 3) := by decide +kernel
theorem dX12_init_94 : decode cX12_init 94 = .ok (.aload_n 0, 1) := by decide +kernel
theorem dX12_init_95 : decode cX12_init 95 = .ok (.bipush 101, 2) := by decide +kernel
theorem dX12_init_97 : decode cX12_init 97 = .ok (.newarray .int, 2) := by decide +kernel
theorem dX12_init_99 : decode cX12_init 99 = .ok (.putfield 44, 3) := by decide +kernel
theorem dX12_init_102 : decode cX12_init 102 = .ok (.aload_n 0, 1) := by decide +kernel
theorem dX12_init_103 : decode cX12_init 103 = .ok (.sipush 256, 3) := by decide +kernel
theorem dX12_init_106 : decode cX12_init 106 = .ok (.newarray .int, 2) := by decide +kernel
theorem dX12_init_108 : decode cX12_init 108 = .ok (.putfield 47, 3) := by decide +kernel
theorem dX12_init_111 : decode cX12_init 111 = .ok (.aload_n 0, 1) := by decide +kernel
theorem dX12_init_112 : decode cX12_init 112 = .ok (.sipush 256, 3) := by decide +kernel
theorem dX12_init_115 : decode cX12_init 115 = .ok (.newarray .int, 2) := by decide +kernel
theorem dX12_init_117 : decode cX12_init 117 = .ok (.putfield 50, 3) := by decide +kernel
theorem dX12_init_120 : decode cX12_init 120 = .ok (.aload_n 0, 1) := by decide +kernel
theorem dX12_init_121 : decode cX12_init 121 = .ok (.sipush 25856, 3) := by decide +kernel
theorem dX12_init_124 : decode cX12_init 124 = .ok (.newarray .int, 2) := by decide +kernel
theorem dX12_init_126 : decode cX12_init 126 = .ok (.putfield 53, 3) := by decide +kernel
theorem dX12_init_129 : decode cX12_init 129 = .ok (.aload_n 0, 1) := by decide +kernel
theorem dX12_init_130 : decode cX12_init 130 = .ok (.iconst 3, 1) := by decide +kernel
theorem dX12_init_131 : decode cX12_init 131 = .ok (.newarray .int, 2) := by decide +kernel
theorem dX12_init_133 : decode cX12_init 133 = .ok (.putfield 56, 3) := by decide +kernel
theorem dX12_init_136 : decode cX12_init 136 = .ok (.aload_n 0, 1) := by decide +kernel
theorem dX12_init_137 : decode cX12_init 137 = .ok (.sipush 21504, 3) := by decide +kernel
theorem dX12_init_140 : decode cX12_init 140 = .ok (.newarray .int, 2) := by decide +kernel
theorem dX12_init_142 : decode cX12_init 142 = .ok (.putfield 59, 3) := by decide +kernel
theorem dX12_init_145 : decode cX12_init 145 = .ok (.aload_n 0, 1) := by decide +kernel
theorem dX12_init_146 : decode cX12_init 146 = .ok (.sipush 512, 3) := by decide +kernel
theorem dX12_init_149 : decode cX12_init 149 = .ok (.newarray .int, 2) := by decide +kernel
theorem dX12_init_151 : decode cX12_init 151 = .ok (.putfield 62, 3) := by decide +kernel
theorem dX12_init_154 : decode cX12_init 154 = .ok (.aload_n 0, 1) := by decide +kernel
theorem dX12_init_155 : decode cX12_init 155 = .ok (.iconst 3, 1) := by decide +kernel
theorem dX12_init_156 : decode cX12_init 156 = .ok (.newarray .int, 2) := by decide +kernel
theorem dX12_init_158 : decode cX12_init 158 = .ok (.putfield 65, 3) := by decide +kernel
theorem dX12_init_161 : decode cX12_init 161 = .ok (.aload_n 0, 1) := by decide +kernel
theorem dX12_init_162 : decode cX12_init 162 = .ok (.sipush 2400, 3) := by decide +kernel
theorem dX12_init_165 : decode cX12_init 165 = .ok (.newarray .boolean, 2) := by decide +kernel
theorem dX12_init_167 : decode cX12_init 167 = .ok (.putfield 68, 3) := by decide +kernel
theorem dX12_init_170 : decode cX12_init 170 = .ok (.aload_n 0, 1) := by decide +kernel
theorem dX12_init_171 : decode cX12_init 171 = .ok (.bipush 48, 2) := by decide +kernel
theorem dX12_init_173 : decode cX12_init 173 = .ok (.newarray .int, 2) := by decide +kernel
theorem dX12_init_175 : decode cX12_init 175 = .ok (.putfield 72, 3) := by decide +kernel
theorem dX12_init_178 : decode cX12_init 178 = .ok (.aload_n 0, 1) := by decide +kernel
theorem dX12_init_179 : decode cX12_init 179 = .ok (.bipush 6, 2) := by decide +kernel
theorem dX12_init_181 : decode cX12_init 181 = .ok (.newarray .int, 2) := by decide +kernel
theorem dX12_init_183 : decode cX12_init 183 = .ok (.putfield 75, 3) := by decide +kernel
theorem dX12_init_186 : decode cX12_init 186 = .ok (.aload_n 0, 1) := by decide +kernel
theorem dX12_init_187 : decode cX12_init 187 = .ok (.sipush 2400, 3) := by decide +kernel
theorem dX12_init_190 : decode cX12_init 190 = .ok (.newarray .int, 2) := by decide +kernel
theorem dX12_init_192 : decode cX12_init 192 = .ok (.putfield 78, 3) := by decide +kernel
theorem dX12_init_195 : decode cX12_init 195 = .ok (.aload_n 0, 1) := by decide +kernel
theorem dX12_init_196 : decode cX12_init 196 = .ok (.sipush 2400, 3) := by decide +kernel
theorem dX12_init_199 : decode cX12_init 199 = .ok (.newarray .int, 2) := by decide +kernel
theorem dX12_init_201 : decode cX12_init 201 = .ok (.putfield 81, 3) := by decide +kernel
theorem dX12_init_204 : decode cX12_init 204 = .ok (.aload_n 0, 1) := by decide +kernel
theorem dX12_init_205 : decode cX12_init 205 = .ok (.bipush 6, 2) := by decide +kernel
theorem dX12_init_207 : decode cX12_init 207 = .ok (.newarray .int, 2) := by decide +kernel
theorem dX12_init_209 : decode cX12_init 209 = .ok (.putfield 84, 3) := by decide +kernel
theorem dX12_init_212 : decode cX12_init 212 = .ok (.aload_n 0, 1) := by decide +kernel
theorem dX12_init_213 : decode cX12_init 213 = .ok (.bipush 6, 2) := by decide +kernel
theorem dX12_init_215 : decode cX12_init 215 = .ok (.newarray .int, 2) := by decide +kernel
theorem dX12_init_217 : decode cX12_init 217 = .ok (.putfield 87, 3) := by decide +kernel
theorem dX12_init_220 : decode cX12_init 220 = .ok (.return_, 1) := by decide +kernel
theorem dX12_isIn_0 : decode cX12_isIn 0 = .ok (.iload_n 0, 1) := by decide +kernel
theorem dX12_isIn_1 : decode cX12_isIn 1 = .ok (.iload_n 1, 1) := by decide +kernel
theorem dX12_isIn_2 : decode cX12_isIn 2 = .ok (.if_icmp .lt 12, 3) := by decide +kernel
theorem dX12_isIn_5 : decode cX12_isIn 5 = .ok (.iload_n 0, 1) := by decide +kernel
theorem dX12_isIn_6 : decode cX12_isIn 6 = .ok (.iload_n 2, 1) := by decide +kernel
theorem dX12_isIn_7 : decode cX12_isIn 7 = .ok (.if_icmp .gt 7, 3) := by decide +kernel
theorem dX12_isIn_10 : decode cX12_isIn 10 = .ok (.iconst 1, 1) := by decide +kernel
theorem dX12_isIn_11 : decode cX12_isIn 11 = .ok (.goto 4, 3) := by decide +kernel
theorem dX12_isIn_14 : decode cX12_isIn 14 = .ok (.iconst 0, 1) := by decide +kernel
theorem dX12_isIn_15 : decode cX12_isIn 15 = .ok (.ireturn, 1) := by decide +kernel
theorem dX12_isLast_0 : decode cX12_isLast 0 = .ok (.iload_n 1, 1) := by decide +kernel
theorem dX12_isLast_1 : decode cX12_isLast 1 = .ok (.aload_n 0, 1) := by decide +kernel
theorem dX12_isLast_2 : decode cX12_isLast 2 = .ok (.getfield 98, 3) := by decide +kernel
theorem dX12_isLast_5 : decode cX12_isLast 5 = .ok (.if_icmp .eq 25, 3) := by decide +kernel
theorem dX12_isLast_30 : decode cX12_isLast 30 = .ok (.iconst 1, 1) := by decide +kernel
theorem dX12_isLast_31 : decode cX12_isLast 31 = .ok (.goto 4, 3) := by decide +kernel
theorem dX12_isLast_35 : decode cX12_isLast 35 = .ok (.ireturn, 1) := by decide +kernel
theorem dX12_isPass_0 : decode cX12_isPass 0 = .ok (.iload_n 0, 1) := by decide +kernel
theorem dX12_isPass_1 : decode cX12_isPass 1 = .ok (.iconst 0, 1) := by decide +kernel
theorem dX12_isPass_2 : decode cX12_isPass 2 = .ok (.iconst 5, 1) := by decide +kernel
theorem dX12_isPass_3 : decode cX12_isPass 3 = .ok (.invokestatic 90, 3) := by decide +kernel
theorem dX12_isPass_6 : decode cX12_isPass 6 = .ok (.ireturn, 1) := by decide +kernel
theorem dX12_isSlot_0 : decode cX12_isSlot 0 = .ok (.iload_n 0, 1) := by decide +kernel
theorem dX12_isSlot_1 : decode cX12_isSlot 1 = .ok (.iconst 0, 1) := by decide +kernel
theorem dX12_isSlot_2 : decode cX12_isSlot 2 = .ok (.iconst 5, 1) := by decide +kernel
theorem dX12_isSlot_3 : decode cX12_isSlot 3 = .ok (.invokestatic 90, 3) := by decide +kernel
theorem dX12_isSlot_6 : decode cX12_isSlot 6 = .ok (.ireturn, 1) := by decide +kernel
theorem dX12_item_0 : decode cX12_item 0 = .ok (.iload_n 1, 1) := by decide +kernel
theorem dX12_item_1 : decode cX12_item 1 = .ok (.invokestatic 423, 3) := by decide +kernel
theorem dX12_item_4 : decode cX12_item 4 = .ok (.ifCond .eq 39, 3) := by decide +kernel
theorem dX12_item_7 : decode cX12_item 7 = .ok (.iload_n 2, 1) := by decide +kernel
theorem dX12_item_8 : decode cX12_item 8 = .ok (.iconst 0, 1) := by decide +kernel
theorem dX12_item_9 : decode cX12_item 9 = .ok (.aload_n 0, 1) := by decide +kernel
theorem dX12_item_10 : decode cX12_item 10 = .ok (.getfield 268, 3) := by decide +kernel
theorem dX12_item_13 : decode cX12_item 13 = .ok (.iconst 1, 1) := by decide +kernel
theorem dX12_item_14 : decode cX12_item 14 = .ok (.isub, 1) := by decide +kernel
theorem dX12_item_15 : decode cX12_item 15 = .ok (.invokestatic 90, 3) := by decide +kernel
theorem dX12_item_18 : decode cX12_item 18 = .ok (.ifCond .ne 14, 3) := by decide +kernel
theorem dX12_item_21 : decode cX12_item 21 = .ok (.iload_n 2, 1) := by decide +kernel
theorem dX12_item_22 : decode cX12_item 22 = .ok (.bipush 20, 2) := by decide +kernel
theorem dX12_item_24 : decode cX12_item 24 = .ok (.bipush 24, 2) := by decide +kernel
theorem dX12_item_26 : decode cX12_item 26 = .ok (.invokestatic 90, 3) := by decide +kernel
theorem dX12_item_29 : decode cX12_item 29 = .ok (.ifCond .eq 14, 3) := by decide +kernel
theorem dX12_item_32 : decode cX12_item 32 = .ok (.aload_n 0, 1) := by decide +kernel
theorem dX12_item_33 : decode cX12_item 33 = .ok (.getfield 75, 3) := by decide +kernel
theorem dX12_item_36 : decode cX12_item 36 = .ok (.iload_n 1, 1) := by decide +kernel
theorem dX12_item_37 : decode cX12_item 37 = .ok (.iaload, 1) := by decide +kernel
theorem dX12_item_38 : decode cX12_item 38 = .ok (.bipush 8, 2) := by decide +kernel
theorem dX12_item_40 : decode cX12_item 40 = .ok (.if_icmp .ne 5, 3) := by decide +kernel
theorem dX12_item_43 : decode cX12_item 43 = .ok (.iconst (-1), 1) := by decide +kernel
theorem dX12_item_44 : decode cX12_item 44 = .ok (.ireturn, 1) := by decide +kernel
theorem dX12_item_45 : decode cX12_item 45 = .ok (.aload_n 0, 1) := by decide +kernel
theorem dX12_item_46 : decode cX12_item 46 = .ok (.getfield 72, 3) := by decide +kernel
theorem dX12_item_49 : decode cX12_item 49 = .ok (.bipush 8, 2) := by decide +kernel
theorem dX12_item_51 : decode cX12_item 51 = .ok (.iload_n 1, 1) := by decide +kernel
theorem dX12_item_52 : decode cX12_item 52 = .ok (.imul, 1) := by decide +kernel
theorem dX12_item_53 : decode cX12_item 53 = .ok (.aload_n 0, 1) := by decide +kernel
theorem dX12_item_54 : decode cX12_item 54 = .ok (.getfield 75, 3) := by decide +kernel
theorem dX12_item_57 : decode cX12_item 57 = .ok (.iload_n 1, 1) := by decide +kernel
theorem dX12_item_58 : decode cX12_item 58 = .ok (.iaload, 1) := by decide +kernel
theorem dX12_item_59 : decode cX12_item 59 = .ok (.iadd, 1) := by decide +kernel
theorem dX12_item_60 : decode cX12_item 60 = .ok (.iload_n 2, 1) := by decide +kernel
theorem dX12_item_61 : decode cX12_item 61 = .ok (.iastore, 1) := by decide +kernel
theorem dX12_item_62 : decode cX12_item 62 = .ok (.aload_n 0, 1) := by decide +kernel
theorem dX12_item_63 : decode cX12_item 63 = .ok (.getfield 75, 3) := by decide +kernel
theorem dX12_item_66 : decode cX12_item 66 = .ok (.iload_n 1, 1) := by decide +kernel
theorem dX12_item_67 : decode cX12_item 67 = .ok (.dup2, 1) := by decide +kernel
theorem dX12_item_68 : decode cX12_item 68 = .ok (.iaload, 1) := by decide +kernel
theorem dX12_item_69 : decode cX12_item 69 = .ok (.iconst 1, 1) := by decide +kernel
theorem dX12_item_70 : decode cX12_item 70 = .ok (.iadd, 1) := by decide +kernel
theorem dX12_item_71 : decode cX12_item 71 = .ok (.iastore, 1) := by decide +kernel
theorem dX12_item_72 : decode cX12_item 72 = .ok (.aload_n 0, 1) := by decide +kernel
theorem dX12_item_73 : decode cX12_item 73 = .ok (.getfield 75, 3) := by decide +kernel
theorem dX12_item_76 : decode cX12_item 76 = .ok (.iload_n 1, 1) := by decide +kernel
theorem dX12_item_77 : decode cX12_item 77 = .ok (.iaload, 1) := by decide +kernel
theorem dX12_item_78 : decode cX12_item 78 = .ok (.ireturn, 1) := by decide +kernel
theorem dX12_judge_0 : decode cX12_judge 0 = .ok (.iload_n 1, 1) := by decide +kernel
theorem dX12_judge_1 : decode cX12_judge 1 = .ok (.invokestatic 249, 3) := by decide +kernel
theorem dX12_judge_4 : decode cX12_judge 4 = .ok (.ifCond .eq 19, 3) := by decide +kernel
theorem dX12_judge_7 : decode cX12_judge 7 = .ok (.iload_n 2, 1) := by decide +kernel
theorem dX12_judge_8 : decode cX12_judge 8 = .ok (.invokestatic 249, 3) := by decide +kernel
theorem dX12_judge_11 : decode cX12_judge 11 = .ok (.ifCond .eq 12, 3) := by decide +kernel
theorem dX12_judge_14 : decode cX12_judge 14 = .ok (.iload_n 3, 1) := by decide +kernel
theorem dX12_judge_15 : decode cX12_judge 15 = .ok (.iconst 0, 1) := by decide +kernel
theorem dX12_judge_16 : decode cX12_judge 16 = .ok (.iconst 3, 1) := by decide +kernel
theorem dX12_judge_17 : decode cX12_judge 17 = .ok (.invokestatic 90, 3) := by decide +kernel
theorem dX12_judge_20 : decode cX12_judge 20 = .ok (.ifCond .ne 5, 3) := by decide +kernel
theorem dX12_judge_23 : decode cX12_judge 23 = .ok (.iconst (-1), 1) := by decide +kernel
theorem dX12_judge_24 : decode cX12_judge 24 = .ok (.ireturn, 1) := by decide +kernel
theorem dX12_judge_25 : decode cX12_judge 25 = .ok (.aload_n 0, 1) := by decide +kernel
theorem dX12_judge_26 : decode cX12_judge 26 = .ok (.iload_n 1, 1) := by decide +kernel
theorem dX12_judge_27 : decode cX12_judge 27 = .ok (.invokevirtual 271, 3) := by decide +kernel
theorem dX12_judge_30 : decode cX12_judge 30 = .ok (.aload_n 0, 1) := by decide +kernel
theorem dX12_judge_31 : decode cX12_judge 31 = .ok (.invokevirtual 330, 3) := by decide +kernel
theorem dX12_judge_34 : decode cX12_judge 34 = .ok (.aload_n 0, 1) := by decide +kernel
theorem dX12_judge_35 : decode cX12_judge 35 = .ok (.iload_n 2, 1) := by decide +kernel
theorem dX12_judge_36 : decode cX12_judge 36 = .ok (.invokevirtual 271, 3) := by decide +kernel
theorem dX12_judge_39 : decode cX12_judge 39 = .ok (.aload_n 0, 1) := by decide +kernel
theorem dX12_judge_40 : decode cX12_judge 40 = .ok (.invokevirtual 333, 3) := by decide +kernel
theorem dX12_judge_43 : decode cX12_judge 43 = .ok (.iload_n 3, 1) := by decide +kernel
theorem dX12_judge_44 : decode cX12_judge 44 = .ok (.tableswitch 63 0 2 #[28, 53, 58], 28) := by decide +kernel
theorem dX12_judge_72 : decode cX12_judge 72 = .ok (.aload_n 0, 1) := by decide +kernel
theorem dX12_judge_73 : decode cX12_judge 73 = .ok (.getfield 318, 3) := by decide +kernel
theorem dX12_judge_76 : decode cX12_judge 76 = .ok (.iconst (-1), 1) := by decide +kernel
theorem dX12_judge_77 : decode cX12_judge 77 = .ok (.if_icmp .eq 7, 3) := by decide +kernel
theorem dX12_judge_84 : decode cX12_judge 84 = .ok (.aload_n 0, 1) := by decide +kernel
theorem dX12_judge_85 : decode cX12_judge 85 = .ok (.getfield 327, 3) := by decide +kernel
theorem dX12_judge_88 : decode cX12_judge 88 = .ok (.ifCond .eq 7, 3) := by decide +kernel
theorem dX12_judge_95 : decode cX12_judge 95 = .ok (.iconst 0, 1) := by decide +kernel
theorem dX12_judge_96 : decode cX12_judge 96 = .ok (.ireturn, 1) := by decide +kernel
theorem dX12_judge_97 : decode cX12_judge 97 = .ok (.aload_n 0, 1) := by decide +kernel
theorem dX12_judge_98 : decode cX12_judge 98 = .ok (.getfield 318, 3) := by decide +kernel
theorem dX12_judge_101 : decode cX12_judge 101 = .ok (.ireturn, 1) := by decide +kernel
theorem dX12_judge_102 : decode cX12_judge 102 = .ok (.aload_n 0, 1) := by decide +kernel
theorem dX12_judge_103 : decode cX12_judge 103 = .ok (.getfield 321, 3) := by decide +kernel
theorem dX12_judge_106 : decode cX12_judge 106 = .ok (.ireturn, 1) := by decide +kernel
theorem dX12_judge_107 : decode cX12_judge 107 = .ok (.aload_n 0, 1) := by decide +kernel
theorem dX12_judge_108 : decode cX12_judge 108 = .ok (.getfield 324, 3) := by decide +kernel
theorem dX12_judge_111 : decode cX12_judge 111 = .ok (.ireturn, 1) := by decide +kernel
theorem dX12_keeps_0 : decode cX12_keeps 0 = .ok (.iconst 0, 1) := by decide +kernel
theorem dX12_keeps_1 : decode cX12_keeps 1 = .ok (.istore_n 1, 1) := by decide +kernel
theorem dX12_keeps_2 : decode cX12_keeps 2 = .ok (.iload_n 1, 1) := by decide +kernel
theorem dX12_keeps_3 : decode cX12_keeps 3 = .ok (.sipush 256, 3) := by decide +kernel
theorem dX12_keeps_6 : decode cX12_keeps 6 = .ok (.if_icmp .ge 74, 3) := by decide +kernel
theorem dX12_keeps_9 : decode cX12_keeps 9 = .ok (.aload_n 0, 1) := by decide +kernel
theorem dX12_keeps_10 : decode cX12_keeps 10 = .ok (.iload_n 1, 1) := by decide +kernel
theorem dX12_keeps_11 : decode cX12_keeps 11 = .ok (.bipush 16, 2) := by decide +kernel
theorem dX12_keeps_13 : decode cX12_keeps 13 = .ok (.idiv, 1) := by decide +kernel
theorem dX12_keeps_14 : decode cX12_keeps 14 = .ok (.iload_n 1, 1) := by decide +kernel
theorem dX12_keeps_15 : decode cX12_keeps 15 = .ok (.bipush 16, 2) := by decide +kernel
theorem dX12_keeps_17 : decode cX12_keeps 17 = .ok (.irem, 1) := by decide +kernel
theorem dX12_keeps_18 : decode cX12_keeps 18 = .ok (.invokevirtual 315, 3) := by decide +kernel
theorem dX12_keeps_21 : decode cX12_keeps 21 = .ok (.aload_n 0, 1) := by decide +kernel
theorem dX12_keeps_22 : decode cX12_keeps 22 = .ok (.getfield 47, 3) := by decide +kernel
theorem dX12_keeps_25 : decode cX12_keeps 25 = .ok (.iload_n 1, 1) := by decide +kernel
theorem dX12_keeps_26 : decode cX12_keeps 26 = .ok (.aload_n 0, 1) := by decide +kernel
theorem dX12_keeps_27 : decode cX12_keeps 27 = .ok (.getfield 294, 3) := by decide +kernel
theorem dX12_keeps_30 : decode cX12_keeps 30 = .ok (.iastore, 1) := by decide +kernel
theorem dX12_keeps_31 : decode cX12_keeps 31 = .ok (.aload_n 0, 1) := by decide +kernel
theorem dX12_keeps_32 : decode cX12_keeps 32 = .ok (.getfield 50, 3) := by decide +kernel
theorem dX12_keeps_35 : decode cX12_keeps 35 = .ok (.iload_n 1, 1) := by decide +kernel
theorem dX12_keeps_36 : decode cX12_keeps 36 = .ok (.aload_n 0, 1) := by decide +kernel
theorem dX12_keeps_37 : decode cX12_keeps 37 = .ok (.getfield 312, 3) := by decide +kernel
theorem dX12_keeps_40 : decode cX12_keeps 40 = .ok (.iastore, 1) := by decide +kernel
theorem dX12_keeps_41 : decode cX12_keeps 41 = .ok (.iconst 0, 1) := by decide +kernel
theorem dX12_keeps_42 : decode cX12_keeps 42 = .ok (.istore_n 2, 1) := by decide +kernel
theorem dX12_keeps_43 : decode cX12_keeps 43 = .ok (.iload_n 2, 1) := by decide +kernel
theorem dX12_keeps_44 : decode cX12_keeps 44 = .ok (.aload_n 0, 1) := by decide +kernel
theorem dX12_keeps_45 : decode cX12_keeps 45 = .ok (.getfield 312, 3) := by decide +kernel
theorem dX12_keeps_48 : decode cX12_keeps 48 = .ok (.if_icmp .ge 26, 3) := by decide +kernel
theorem dX12_keeps_74 : decode cX12_keeps 74 = .ok (.iinc 1 1, 3) := by decide +kernel
theorem dX12_keeps_77 : decode cX12_keeps 77 = .ok (.goto (-75), 3) := by decide +kernel
theorem dX12_keeps_80 : decode cX12_keeps 80 = .ok (.return_, 1) := by decide +kernel
theorem dX12_liveFrom_0 : decode cX12_liveFrom 0 = .ok (.aload_n 0, 1) := by decide +kernel
theorem dX12_liveFrom_1 : decode cX12_liveFrom 1 = .ok (.iload_n 1, 1) := by decide +kernel
theorem dX12_liveFrom_2 : decode cX12_liveFrom 2 = .ok (.invokevirtual 107, 3) := by decide +kernel
theorem dX12_liveFrom_5 : decode cX12_liveFrom 5 = .ok (.ifCond .eq 7, 3) := by decide +kernel
theorem dX12_liveFrom_8 : decode cX12_liveFrom 8 = .ok (.iload_n 2, 1) := by decide +kernel
theorem dX12_liveFrom_9 : decode cX12_liveFrom 9 = .ok (.goto 18, 3) := by decide +kernel
theorem dX12_liveFrom_27 : decode cX12_liveFrom 27 = .ok (.ireturn, 1) := by decide +kernel
theorem dX12_make_0 : decode cX12_make 0 = .ok (.iload_n 1, 1) := by decide +kernel
theorem dX12_make_1 : decode cX12_make 1 = .ok (.invokestatic 423, 3) := by decide +kernel
theorem dX12_make_4 : decode cX12_make 4 = .ok (.ifCond .eq 17, 3) := by decide +kernel
theorem dX12_make_7 : decode cX12_make 7 = .ok (.iload_n 2, 1) := by decide +kernel
theorem dX12_make_8 : decode cX12_make 8 = .ok (.invokestatic 249, 3) := by decide +kernel
theorem dX12_make_11 : decode cX12_make 11 = .ok (.ifCond .eq 10, 3) := by decide +kernel
theorem dX12_make_14 : decode cX12_make 14 = .ok (.iload_n 3, 1) := by decide +kernel
theorem dX12_make_15 : decode cX12_make 15 = .ok (.invokestatic 249, 3) := by decide +kernel
theorem dX12_make_18 : decode cX12_make 18 = .ok (.ifCond .ne 5, 3) := by decide +kernel
theorem dX12_make_21 : decode cX12_make 21 = .ok (.iconst (-1), 1) := by decide +kernel
theorem dX12_make_22 : decode cX12_make 22 = .ok (.ireturn, 1) := by decide +kernel
theorem dX12_make_23 : decode cX12_make 23 = .ok (.aload_n 0, 1) := by decide +kernel
theorem dX12_make_24 : decode cX12_make 24 = .ok (.iload_n 2, 1) := by decide +kernel
theorem dX12_make_25 : decode cX12_make 25 = .ok (.invokevirtual 271, 3) := by decide +kernel
theorem dX12_make_28 : decode cX12_make 28 = .ok (.aload_n 0, 1) := by decide +kernel
theorem dX12_make_29 : decode cX12_make 29 = .ok (.iload_n 1, 1) := by decide +kernel
theorem dX12_make_30 : decode cX12_make 30 = .ok (.invokevirtual 439, 3) := by decide +kernel
theorem dX12_make_33 : decode cX12_make 33 = .ok (.ifCond .ne 5, 3) := by decide +kernel
theorem dX12_make_38 : decode cX12_make 38 = .ok (.aload_n 0, 1) := by decide +kernel
theorem dX12_make_39 : decode cX12_make 39 = .ok (.iload_n 3, 1) := by decide +kernel
theorem dX12_make_40 : decode cX12_make 40 = .ok (.invokevirtual 262, 3) := by decide +kernel
theorem dX12_make_43 : decode cX12_make 43 = .ok (.aload_n 0, 1) := by decide +kernel
theorem dX12_make_44 : decode cX12_make 44 = .ok (.invokevirtual 265, 3) := by decide +kernel
theorem dX12_make_47 : decode cX12_make 47 = .ok (.ireturn, 1) := by decide +kernel
theorem dX12_makes_0 : decode cX12_makes 0 = .ok (.iconst 0, 1) := by decide +kernel
theorem dX12_makes_1 : decode cX12_makes 1 = .ok (.istore_n 2, 1) := by decide +kernel
theorem dX12_makes_2 : decode cX12_makes 2 = .ok (.iload_n 2, 1) := by decide +kernel
theorem dX12_makes_3 : decode cX12_makes 3 = .ok (.aload_n 0, 1) := by decide +kernel
theorem dX12_makes_4 : decode cX12_makes 4 = .ok (.getfield 75, 3) := by decide +kernel
theorem dX12_makes_7 : decode cX12_makes 7 = .ok (.iload_n 1, 1) := by decide +kernel
theorem dX12_makes_8 : decode cX12_makes 8 = .ok (.iaload, 1) := by decide +kernel
theorem dX12_makes_9 : decode cX12_makes 9 = .ok (.if_icmp .ge 118, 3) := by decide +kernel
theorem dX12_makes_127 : decode cX12_makes 127 = .ok (.iconst 1, 1) := by decide +kernel
theorem dX12_makes_128 : decode cX12_makes 128 = .ok (.ireturn, 1) := by decide +kernel
theorem dX12_next0_0 : decode cX12_next0 0 = .ok (.aload_n 0, 1) := by decide +kernel
theorem dX12_next0_1 : decode cX12_next0 1 = .ok (.aload_n 0, 1) := by decide +kernel
theorem dX12_next0_2 : decode cX12_next0 2 = .ok (.getfield 127, 3) := by decide +kernel
theorem dX12_next0_5 : decode cX12_next0 5 = .ok (.invokevirtual 161, 3) := by decide +kernel
theorem dX12_next0_8 : decode cX12_next0 8 = .ok (.bipush 32, 2) := by decide +kernel
theorem dX12_next0_10 : decode cX12_next0 10 = .ok (.if_icmp .eq 16, 3) := by decide +kernel
theorem dX12_next0_13 : decode cX12_next0 13 = .ok (.aload_n 0, 1) := by decide +kernel
theorem dX12_next0_14 : decode cX12_next0 14 = .ok (.aload_n 0, 1) := by decide +kernel
theorem dX12_next0_15 : decode cX12_next0 15 = .ok (.getfield 127, 3) := by decide +kernel
theorem dX12_next0_18 : decode cX12_next0 18 = .ok (.invokevirtual 161, 3) := by decide +kernel
theorem dX12_next0_21 : decode cX12_next0 21 = .ok (.bipush 10, 2) := by decide +kernel
theorem dX12_next0_23 : decode cX12_next0 23 = .ok (.if_icmp .ne 16, 3) := by decide +kernel
theorem dX12_next0_39 : decode cX12_next0 39 = .ok (.aload_n 0, 1) := by decide +kernel
theorem dX12_next0_40 : decode cX12_next0 40 = .ok (.aload_n 0, 1) := by decide +kernel
theorem dX12_next0_41 : decode cX12_next0 41 = .ok (.getfield 127, 3) := by decide +kernel
theorem dX12_next0_44 : decode cX12_next0 44 = .ok (.putfield 130, 3) := by decide +kernel
theorem dX12_next0_47 : decode cX12_next0 47 = .ok (.aload_n 0, 1) := by decide +kernel
theorem dX12_next0_48 : decode cX12_next0 48 = .ok (.aload_n 0, 1) := by decide +kernel
theorem dX12_next0_49 : decode cX12_next0 49 = .ok (.getfield 127, 3) := by decide +kernel
theorem dX12_next0_52 : decode cX12_next0 52 = .ok (.invokevirtual 161, 3) := by decide +kernel
theorem dX12_next0_55 : decode cX12_next0 55 = .ok (.istore_n 1, 1) := by decide +kernel
theorem dX12_next0_56 : decode cX12_next0 56 = .ok (.iload_n 1, 1) := by decide +kernel
theorem dX12_next0_57 : decode cX12_next0 57 = .ok (.iconst (-1), 1) := by decide +kernel
theorem dX12_next0_58 : decode cX12_next0 58 = .ok (.if_icmp .ne 11, 3) := by decide +kernel
theorem dX12_next0_61 : decode cX12_next0 61 = .ok (.aload_n 0, 1) := by decide +kernel
theorem dX12_next0_62 : decode cX12_next0 62 = .ok (.iconst 0, 1) := by decide +kernel
theorem dX12_next0_63 : decode cX12_next0 63 = .ok (.putfield 164, 3) := by decide +kernel
theorem dX12_next0_66 : decode cX12_next0 66 = .ok (.goto 285, 3) := by decide +kernel
theorem dX12_next0_351 : decode cX12_next0 351 = .ok (.return_, 1) := by decide +kernel
theorem dX12_parts_0 : decode cX12_parts 0 = .ok (.iconst 0, 1) := by decide +kernel
theorem dX12_parts_1 : decode cX12_parts 1 = .ok (.istore_n 1, 1) := by decide +kernel
theorem dX12_parts_2 : decode cX12_parts 2 = .ok (.iconst 0, 1) := by decide +kernel
theorem dX12_parts_3 : decode cX12_parts 3 = .ok (.istore_n 2, 1) := by decide +kernel
theorem dX12_parts_4 : decode cX12_parts 4 = .ok (.iload_n 2, 1) := by decide +kernel
theorem dX12_parts_5 : decode cX12_parts 5 = .ok (.aload_n 0, 1) := by decide +kernel
theorem dX12_parts_6 : decode cX12_parts 6 = .ok (.getfield 98, 3) := by decide +kernel
theorem dX12_parts_9 : decode cX12_parts 9 = .ok (.if_icmp .ge 30, 3) := by decide +kernel
theorem dX12_parts_39 : decode cX12_parts 39 = .ok (.iload_n 1, 1) := by decide +kernel
theorem dX12_parts_40 : decode cX12_parts 40 = .ok (.ireturn, 1) := by decide +kernel
theorem dX12_places_0 : decode cX12_places 0 = .ok (.iload_n 1, 1) := by decide +kernel
theorem dX12_places_1 : decode cX12_places 1 = .ok (.iconst 0, 1) := by decide +kernel
theorem dX12_places_2 : decode cX12_places 2 = .ok (.aload_n 0, 1) := by decide +kernel
theorem dX12_places_3 : decode cX12_places 3 = .ok (.getfield 268, 3) := by decide +kernel
theorem dX12_places_6 : decode cX12_places 6 = .ok (.iconst 1, 1) := by decide +kernel
theorem dX12_places_7 : decode cX12_places 7 = .ok (.isub, 1) := by decide +kernel
theorem dX12_places_8 : decode cX12_places 8 = .ok (.invokestatic 90, 3) := by decide +kernel
theorem dX12_places_11 : decode cX12_places 11 = .ok (.ifCond .eq 10, 3) := by decide +kernel
theorem dX12_places_21 : decode cX12_places 21 = .ok (.iconst (-1), 1) := by decide +kernel
theorem dX12_places_22 : decode cX12_places 22 = .ok (.ireturn, 1) := by decide +kernel
theorem dX12_product_0 : decode cX12_product 0 = .ok (.aload_n 0, 1) := by decide +kernel
theorem dX12_product_1 : decode cX12_product 1 = .ok (.getfield 117, 3) := by decide +kernel
theorem dX12_product_4 : decode cX12_product 4 = .ok (.istore_n 1, 1) := by decide +kernel
theorem dX12_product_5 : decode cX12_product 5 = .ok (.aload_n 0, 1) := by decide +kernel
theorem dX12_product_6 : decode cX12_product 6 = .ok (.invokevirtual 213, 3) := by decide +kernel
theorem dX12_product_9 : decode cX12_product 9 = .ok (.ifCond .ne 5, 3) := by decide +kernel
theorem dX12_product_12 : decode cX12_product 12 = .ok (.iconst 0, 1) := by decide +kernel
theorem dX12_product_13 : decode cX12_product 13 = .ok (.ireturn, 1) := by decide +kernel
theorem dX12_program_0 : decode cX12_program 0 = .ok (.aload_n 0, 1) := by decide +kernel
theorem dX12_program_1 : decode cX12_program 1 = .ok (.iconst 0, 1) := by decide +kernel
theorem dX12_program_2 : decode cX12_program 2 = .ok (.putfield 179, 3) := by decide +kernel
theorem dX12_program_5 : decode cX12_program 5 = .ok (.iload_n 1, 1) := by decide +kernel
theorem dX12_program_6 : decode cX12_program 6 = .ok (.invokestatic 249, 3) := by decide +kernel
theorem dX12_program_9 : decode cX12_program 9 = .ok (.ifCond .ne 9, 3) := by decide +kernel
theorem dX12_program_12 : decode cX12_program 12 = .ok (.aload_n 0, 1) := by decide +kernel
theorem dX12_program_13 : decode cX12_program 13 = .ok (.invokevirtual 252, 3) := by decide +kernel
theorem dX12_program_16 : decode cX12_program 16 = .ok (.iconst (-1), 1) := by decide +kernel
theorem dX12_program_17 : decode cX12_program 17 = .ok (.ireturn, 1) := by decide +kernel
theorem dX12_program_18 : decode cX12_program 18 = .ok (.aload_n 0, 1) := by decide +kernel
theorem dX12_program_19 : decode cX12_program 19 = .ok (.iconst 0, 1) := by decide +kernel
theorem dX12_program_20 : decode cX12_program 20 = .ok (.sipush 300, 3) := by decide +kernel
theorem dX12_program_23 : decode cX12_program 23 = .ok (.invokevirtual 255, 3) := by decide +kernel
theorem dX12_program_26 : decode cX12_program 26 = .ok (.iconst 1, 1) := by decide +kernel
theorem dX12_program_27 : decode cX12_program 27 = .ok (.istore_n 2, 1) := by decide +kernel
theorem dX12_program_28 : decode cX12_program 28 = .ok (.iload_n 2, 1) := by decide +kernel
theorem dX12_program_29 : decode cX12_program 29 = .ok (.ifCond .eq 18, 3) := by decide +kernel
theorem dX12_program_32 : decode cX12_program 32 = .ok (.aload_n 0, 1) := by decide +kernel
theorem dX12_program_33 : decode cX12_program 33 = .ok (.getfield 164, 3) := by decide +kernel
theorem dX12_program_36 : decode cX12_program 36 = .ok (.ifCond .eq 11, 3) := by decide +kernel
theorem dX12_program_47 : decode cX12_program 47 = .ok (.aload_n 0, 1) := by decide +kernel
theorem dX12_program_48 : decode cX12_program 48 = .ok (.invokevirtual 252, 3) := by decide +kernel
theorem dX12_program_51 : decode cX12_program 51 = .ok (.iload_n 2, 1) := by decide +kernel
theorem dX12_program_52 : decode cX12_program 52 = .ok (.ifCond .ne 5, 3) := by decide +kernel
theorem dX12_program_57 : decode cX12_program 57 = .ok (.aload_n 0, 1) := by decide +kernel
theorem dX12_program_58 : decode cX12_program 58 = .ok (.invokevirtual 259, 3) := by decide +kernel
theorem dX12_program_61 : decode cX12_program 61 = .ok (.aload_n 0, 1) := by decide +kernel
theorem dX12_program_62 : decode cX12_program 62 = .ok (.iload_n 1, 1) := by decide +kernel
theorem dX12_program_63 : decode cX12_program 63 = .ok (.invokevirtual 262, 3) := by decide +kernel
theorem dX12_program_66 : decode cX12_program 66 = .ok (.aload_n 0, 1) := by decide +kernel
theorem dX12_program_67 : decode cX12_program 67 = .ok (.invokevirtual 265, 3) := by decide +kernel
theorem dX12_program_70 : decode cX12_program 70 = .ok (.ireturn, 1) := by decide +kernel
theorem dX12_puts_0 : decode cX12_puts 0 = .ok (.aload_n 0, 1) := by decide +kernel
theorem dX12_puts_1 : decode cX12_puts 1 = .ok (.getfield 13, 3) := by decide +kernel
theorem dX12_puts_4 : decode cX12_puts 4 = .ok (.iload_n 1, 1) := by decide +kernel
theorem dX12_puts_5 : decode cX12_puts 5 = .ok (.aload_n 0, 1) := by decide +kernel
theorem dX12_puts_6 : decode cX12_puts 6 = .ok (.getfield 98, 3) := by decide +kernel
theorem dX12_puts_9 : decode cX12_puts 9 = .ok (.iastore, 1) := by decide +kernel
theorem dX12_puts_10 : decode cX12_puts 10 = .ok (.iconst 0, 1) := by decide +kernel
theorem dX12_puts_11 : decode cX12_puts 11 = .ok (.istore_n 2, 1) := by decide +kernel
theorem dX12_puts_12 : decode cX12_puts 12 = .ok (.iload_n 2, 1) := by decide +kernel
theorem dX12_puts_13 : decode cX12_puts 13 = .ok (.aload_n 0, 1) := by decide +kernel
theorem dX12_puts_14 : decode cX12_puts 14 = .ok (.getfield 98, 3) := by decide +kernel
theorem dX12_puts_17 : decode cX12_puts 17 = .ok (.if_icmp .ge 27, 3) := by decide +kernel
theorem dX12_puts_44 : decode cX12_puts 44 = .ok (.return_, 1) := by decide +kernel
theorem dX12_reads_0 : decode cX12_reads 0 = .ok (.iconst 0, 1) := by decide +kernel
theorem dX12_reads_1 : decode cX12_reads 1 = .ok (.istore_n 3, 1) := by decide +kernel
theorem dX12_reads_2 : decode cX12_reads 2 = .ok (.iload_n 1, 1) := by decide +kernel
theorem dX12_reads_3 : decode cX12_reads 3 = .ok (.istore 4, 2) := by decide +kernel
theorem dX12_reads_5 : decode cX12_reads 5 = .ok (.iload 4, 2) := by decide +kernel
theorem dX12_reads_7 : decode cX12_reads 7 = .ok (.iload_n 2, 1) := by decide +kernel
theorem dX12_reads_8 : decode cX12_reads 8 = .ok (.if_icmp .ge 45, 3) := by decide +kernel
theorem dX12_reads_53 : decode cX12_reads 53 = .ok (.iload_n 3, 1) := by decide +kernel
theorem dX12_reads_54 : decode cX12_reads 54 = .ok (.ireturn, 1) := by decide +kernel
theorem dX12_registers_0 : decode cX12_registers 0 = .ok (.iload_n 1, 1) := by decide +kernel
theorem dX12_registers_1 : decode cX12_registers 1 = .ok (.invokestatic 249, 3) := by decide +kernel
theorem dX12_registers_4 : decode cX12_registers 4 = .ok (.ifCond .eq 29, 3) := by decide +kernel
theorem dX12_registers_7 : decode cX12_registers 7 = .ok (.iload_n 2, 1) := by decide +kernel
theorem dX12_registers_8 : decode cX12_registers 8 = .ok (.ifCond .eq 27, 3) := by decide +kernel
theorem dX12_registers_11 : decode cX12_registers 11 = .ok (.iload_n 2, 1) := by decide +kernel
theorem dX12_registers_12 : decode cX12_registers 12 = .ok (.bipush 10, 2) := by decide +kernel
theorem dX12_registers_14 : decode cX12_registers 14 = .ok (.bipush 15, 2) := by decide +kernel
theorem dX12_registers_16 : decode cX12_registers 16 = .ok (.invokestatic 90, 3) := by decide +kernel
theorem dX12_registers_19 : decode cX12_registers 19 = .ok (.ifCond .ne 16, 3) := by decide +kernel
theorem dX12_registers_22 : decode cX12_registers 22 = .ok (.iload_n 2, 1) := by decide +kernel
theorem dX12_registers_23 : decode cX12_registers 23 = .ok (.bipush 20, 2) := by decide +kernel
theorem dX12_registers_25 : decode cX12_registers 25 = .ok (.bipush 26, 2) := by decide +kernel
theorem dX12_registers_27 : decode cX12_registers 27 = .ok (.invokestatic 90, 3) := by decide +kernel
theorem dX12_registers_30 : decode cX12_registers 30 = .ok (.ifCond .ne 5, 3) := by decide +kernel
theorem dX12_registers_33 : decode cX12_registers 33 = .ok (.iconst (-1), 1) := by decide +kernel
theorem dX12_registers_34 : decode cX12_registers 34 = .ok (.ireturn, 1) := by decide +kernel
theorem dX12_registers_35 : decode cX12_registers 35 = .ok (.aload_n 0, 1) := by decide +kernel
theorem dX12_registers_36 : decode cX12_registers 36 = .ok (.iload_n 1, 1) := by decide +kernel
theorem dX12_registers_37 : decode cX12_registers 37 = .ok (.invokevirtual 472, 3) := by decide +kernel
theorem dX12_registers_40 : decode cX12_registers 40 = .ok (.aload_n 0, 1) := by decide +kernel
theorem dX12_registers_41 : decode cX12_registers 41 = .ok (.invokevirtual 475, 3) := by decide +kernel
theorem dX12_registers_44 : decode cX12_registers 44 = .ok (.istore_n 3, 1) := by decide +kernel
theorem dX12_registers_45 : decode cX12_registers 45 = .ok (.iload_n 2, 1) := by decide +kernel
theorem dX12_registers_46 : decode cX12_registers 46 = .ok (.bipush 15, 2) := by decide +kernel
theorem dX12_registers_48 : decode cX12_registers 48 = .ok (.if_icmp .le 13, 3) := by decide +kernel
theorem dX12_registers_51 : decode cX12_registers 51 = .ok (.aload_n 0, 1) := by decide +kernel
theorem dX12_registers_52 : decode cX12_registers 52 = .ok (.iload_n 3, 1) := by decide +kernel
theorem dX12_registers_53 : decode cX12_registers 53 = .ok (.iload_n 2, 1) := by decide +kernel
theorem dX12_registers_54 : decode cX12_registers 54 = .ok (.bipush 20, 2) := by decide +kernel
theorem dX12_registers_56 : decode cX12_registers 56 = .ok (.isub, 1) := by decide +kernel
theorem dX12_registers_57 : decode cX12_registers 57 = .ok (.invokevirtual 478, 3) := by decide +kernel
theorem dX12_registers_60 : decode cX12_registers 60 = .ok (.ireturn, 1) := by decide +kernel
theorem dX12_registers_61 : decode cX12_registers 61 = .ok (.aload_n 0, 1) := by decide +kernel
theorem dX12_registers_62 : decode cX12_registers 62 = .ok (.iload_n 3, 1) := by decide +kernel
theorem dX12_registers_63 : decode cX12_registers 63 = .ok (.invokevirtual 481, 3) := by decide +kernel
theorem dX12_registers_66 : decode cX12_registers 66 = .ok (.istore 4, 2) := by decide +kernel
theorem dX12_registers_68 : decode cX12_registers 68 = .ok (.iload_n 2, 1) := by decide +kernel
theorem dX12_registers_69 : decode cX12_registers 69 = .ok (.ifCond .ne 8, 3) := by decide +kernel
theorem dX12_registers_72 : decode cX12_registers 72 = .ok (.iload 4, 2) := by decide +kernel
theorem dX12_registers_74 : decode cX12_registers 74 = .ok (.goto 12, 3) := by decide +kernel
theorem dX12_registers_77 : decode cX12_registers 77 = .ok (.aload_n 0, 1) := by decide +kernel
theorem dX12_registers_78 : decode cX12_registers 78 = .ok (.getfield 87, 3) := by decide +kernel
theorem dX12_registers_81 : decode cX12_registers 81 = .ok (.iload_n 2, 1) := by decide +kernel
theorem dX12_registers_82 : decode cX12_registers 82 = .ok (.bipush 10, 2) := by decide +kernel
theorem dX12_registers_84 : decode cX12_registers 84 = .ok (.isub, 1) := by decide +kernel
theorem dX12_registers_85 : decode cX12_registers 85 = .ok (.iaload, 1) := by decide +kernel
theorem dX12_registers_86 : decode cX12_registers 86 = .ok (.ireturn, 1) := by decide +kernel
theorem dX12_rule_0 : decode cX12_rule 0 = .ok (.aload_n 0, 1) := by decide +kernel
theorem dX12_rule_1 : decode cX12_rule 1 = .ok (.iconst 0, 1) := by decide +kernel
theorem dX12_rule_2 : decode cX12_rule 2 = .ok (.putfield 179, 3) := by decide +kernel
theorem dX12_rule_5 : decode cX12_rule 5 = .ok (.aload_n 0, 1) := by decide +kernel
theorem dX12_rule_6 : decode cX12_rule 6 = .ok (.getfield 268, 3) := by decide +kernel
theorem dX12_rule_9 : decode cX12_rule 9 = .ok (.bipush 12, 2) := by decide +kernel
theorem dX12_rule_11 : decode cX12_rule 11 = .ok (.if_icmp .ne 9, 3) := by decide +kernel
theorem dX12_rule_20 : decode cX12_rule 20 = .ok (.aload_n 0, 1) := by decide +kernel
theorem dX12_rule_21 : decode cX12_rule 21 = .ok (.iconst 1, 1) := by decide +kernel
theorem dX12_rule_22 : decode cX12_rule 22 = .ok (.bipush 40, 2) := by decide +kernel
theorem dX12_rule_24 : decode cX12_rule 24 = .ok (.invokevirtual 255, 3) := by decide +kernel
theorem dX12_rule_27 : decode cX12_rule 27 = .ok (.aload_n 0, 1) := by decide +kernel
theorem dX12_rule_28 : decode cX12_rule 28 = .ok (.invokevirtual 219, 3) := by decide +kernel
theorem dX12_rule_31 : decode cX12_rule 31 = .ok (.ifCond .eq 16, 3) := by decide +kernel
theorem dX12_rule_47 : decode cX12_rule 47 = .ok (.iconst 0, 1) := by decide +kernel
theorem dX12_rule_48 : decode cX12_rule 48 = .ok (.istore_n 1, 1) := by decide +kernel
theorem dX12_rule_49 : decode cX12_rule 49 = .ok (.aload_n 0, 1) := by decide +kernel
theorem dX12_rule_50 : decode cX12_rule 50 = .ok (.getfield 117, 3) := by decide +kernel
theorem dX12_rule_53 : decode cX12_rule 53 = .ok (.istore_n 2, 1) := by decide +kernel
theorem dX12_rule_54 : decode cX12_rule 54 = .ok (.aload_n 0, 1) := by decide +kernel
theorem dX12_rule_55 : decode cX12_rule 55 = .ok (.iconst 1, 1) := by decide +kernel
theorem dX12_rule_56 : decode cX12_rule 56 = .ok (.putfield 225, 3) := by decide +kernel
theorem dX12_rule_59 : decode cX12_rule 59 = .ok (.iload_n 1, 1) := by decide +kernel
theorem dX12_rule_60 : decode cX12_rule 60 = .ok (.ifCond .eq 29, 3) := by decide +kernel
theorem dX12_rule_89 : decode cX12_rule 89 = .ok (.iconst 0, 1) := by decide +kernel
theorem dX12_rule_90 : decode cX12_rule 90 = .ok (.istore_n 1, 1) := by decide +kernel
theorem dX12_rule_91 : decode cX12_rule 91 = .ok (.aload_n 0, 1) := by decide +kernel
theorem dX12_rule_92 : decode cX12_rule 92 = .ok (.invokevirtual 252, 3) := by decide +kernel
theorem dX12_rule_95 : decode cX12_rule 95 = .ok (.iload_n 1, 1) := by decide +kernel
theorem dX12_rule_96 : decode cX12_rule 96 = .ok (.ifCond .ne 5, 3) := by decide +kernel
theorem dX12_rule_99 : decode cX12_rule 99 = .ok (.iconst (-1), 1) := by decide +kernel
theorem dX12_rule_100 : decode cX12_rule 100 = .ok (.ireturn, 1) := by decide +kernel
theorem dX12_ruleOf_0 : decode cX12_ruleOf 0 = .ok (.iload_n 1, 1) := by decide +kernel
theorem dX12_ruleOf_1 : decode cX12_ruleOf 1 = .ok (.iconst 0, 1) := by decide +kernel
theorem dX12_ruleOf_2 : decode cX12_ruleOf 2 = .ok (.aload_n 0, 1) := by decide +kernel
theorem dX12_ruleOf_3 : decode cX12_ruleOf 3 = .ok (.getfield 268, 3) := by decide +kernel
theorem dX12_ruleOf_6 : decode cX12_ruleOf 6 = .ok (.iconst 1, 1) := by decide +kernel
theorem dX12_ruleOf_7 : decode cX12_ruleOf 7 = .ok (.isub, 1) := by decide +kernel
theorem dX12_ruleOf_8 : decode cX12_ruleOf 8 = .ok (.invokestatic 90, 3) := by decide +kernel
theorem dX12_ruleOf_11 : decode cX12_ruleOf 11 = .ok (.ifCond .eq 12, 3) := by decide +kernel
theorem dX12_ruleOf_23 : decode cX12_ruleOf 23 = .ok (.bipush (-2), 2) := by decide +kernel
theorem dX12_ruleOf_25 : decode cX12_ruleOf 25 = .ok (.ireturn, 1) := by decide +kernel
theorem dX12_run_0 : decode cX12_run 0 = .ok (.iload_n 1, 1) := by decide +kernel
theorem dX12_run_1 : decode cX12_run 1 = .ok (.invokestatic 249, 3) := by decide +kernel
theorem dX12_run_4 : decode cX12_run 4 = .ok (.ifCond .eq 23, 3) := by decide +kernel
theorem dX12_run_7 : decode cX12_run 7 = .ok (.iload_n 2, 1) := by decide +kernel
theorem dX12_run_8 : decode cX12_run 8 = .ok (.iconst 0, 1) := by decide +kernel
theorem dX12_run_9 : decode cX12_run 9 = .ok (.bipush 15, 2) := by decide +kernel
theorem dX12_run_11 : decode cX12_run 11 = .ok (.invokestatic 90, 3) := by decide +kernel
theorem dX12_run_14 : decode cX12_run 14 = .ok (.ifCond .eq 13, 3) := by decide +kernel
theorem dX12_run_17 : decode cX12_run 17 = .ok (.iload_n 3, 1) := by decide +kernel
theorem dX12_run_18 : decode cX12_run 18 = .ok (.iconst 0, 1) := by decide +kernel
theorem dX12_run_19 : decode cX12_run 19 = .ok (.bipush 15, 2) := by decide +kernel
theorem dX12_run_21 : decode cX12_run 21 = .ok (.invokestatic 90, 3) := by decide +kernel
theorem dX12_run_24 : decode cX12_run 24 = .ok (.ifCond .ne 5, 3) := by decide +kernel
theorem dX12_run_27 : decode cX12_run 27 = .ok (.iconst (-1), 1) := by decide +kernel
theorem dX12_run_28 : decode cX12_run 28 = .ok (.ireturn, 1) := by decide +kernel
theorem dX12_run_29 : decode cX12_run 29 = .ok (.aload_n 0, 1) := by decide +kernel
theorem dX12_run_30 : decode cX12_run 30 = .ok (.iload_n 1, 1) := by decide +kernel
theorem dX12_run_31 : decode cX12_run 31 = .ok (.invokevirtual 271, 3) := by decide +kernel
theorem dX12_run_34 : decode cX12_run 34 = .ok (.aload_n 0, 1) := by decide +kernel
theorem dX12_run_35 : decode cX12_run 35 = .ok (.iload_n 2, 1) := by decide +kernel
theorem dX12_run_36 : decode cX12_run 36 = .ok (.iload_n 3, 1) := by decide +kernel
theorem dX12_run_37 : decode cX12_run 37 = .ok (.invokevirtual 315, 3) := by decide +kernel
theorem dX12_run_40 : decode cX12_run 40 = .ok (.iload 4, 2) := by decide +kernel
theorem dX12_run_42 : decode cX12_run 42 = .ok (.bipush 10, 2) := by decide +kernel
theorem dX12_run_44 : decode cX12_run 44 = .ok (.bipush 15, 2) := by decide +kernel
theorem dX12_run_46 : decode cX12_run 46 = .ok (.invokestatic 90, 3) := by decide +kernel
theorem dX12_run_49 : decode cX12_run 49 = .ok (.ifCond .eq 14, 3) := by decide +kernel
theorem dX12_run_52 : decode cX12_run 52 = .ok (.aload_n 0, 1) := by decide +kernel
theorem dX12_run_53 : decode cX12_run 53 = .ok (.getfield 41, 3) := by decide +kernel
theorem dX12_run_56 : decode cX12_run 56 = .ok (.iload 4, 2) := by decide +kernel
theorem dX12_run_58 : decode cX12_run 58 = .ok (.bipush 10, 2) := by decide +kernel
theorem dX12_run_60 : decode cX12_run 60 = .ok (.isub, 1) := by decide +kernel
theorem dX12_run_61 : decode cX12_run 61 = .ok (.iaload, 1) := by decide +kernel
theorem dX12_run_62 : decode cX12_run 62 = .ok (.ireturn, 1) := by decide +kernel
theorem dX12_run_63 : decode cX12_run 63 = .ok (.iload 4, 2) := by decide +kernel
theorem dX12_run_65 : decode cX12_run 65 = .ok (.bipush 100, 2) := by decide +kernel
theorem dX12_run_67 : decode cX12_run 67 = .ok (.bipush 99, 2) := by decide +kernel
theorem dX12_run_69 : decode cX12_run 69 = .ok (.aload_n 0, 1) := by decide +kernel
theorem dX12_run_70 : decode cX12_run 70 = .ok (.getfield 312, 3) := by decide +kernel
theorem dX12_run_73 : decode cX12_run 73 = .ok (.iadd, 1) := by decide +kernel
theorem dX12_run_74 : decode cX12_run 74 = .ok (.invokestatic 90, 3) := by decide +kernel
theorem dX12_run_77 : decode cX12_run 77 = .ok (.ifCond .eq 14, 3) := by decide +kernel
theorem dX12_run_91 : decode cX12_run 91 = .ok (.iload 4, 2) := by decide +kernel
theorem dX12_run_93 : decode cX12_run 93 = .ok (.ifCond .ne 10, 3) := by decide +kernel
theorem dX12_run_96 : decode cX12_run 96 = .ok (.aload_n 0, 1) := by decide +kernel
theorem dX12_run_97 : decode cX12_run 97 = .ok (.getfield 294, 3) := by decide +kernel
theorem dX12_run_100 : decode cX12_run 100 = .ok (.goto 30, 3) := by decide +kernel
theorem dX12_run_103 : decode cX12_run 103 = .ok (.iload 4, 2) := by decide +kernel
theorem dX12_run_105 : decode cX12_run 105 = .ok (.iconst 1, 1) := by decide +kernel
theorem dX12_run_106 : decode cX12_run 106 = .ok (.if_icmp .ne 10, 3) := by decide +kernel
theorem dX12_run_109 : decode cX12_run 109 = .ok (.aload_n 0, 1) := by decide +kernel
theorem dX12_run_110 : decode cX12_run 110 = .ok (.getfield 291, 3) := by decide +kernel
theorem dX12_run_113 : decode cX12_run 113 = .ok (.goto 17, 3) := by decide +kernel
theorem dX12_run_116 : decode cX12_run 116 = .ok (.iload 4, 2) := by decide +kernel
theorem dX12_run_118 : decode cX12_run 118 = .ok (.iconst 2, 1) := by decide +kernel
theorem dX12_run_119 : decode cX12_run 119 = .ok (.if_icmp .ne 10, 3) := by decide +kernel
theorem dX12_run_122 : decode cX12_run 122 = .ok (.aload_n 0, 1) := by decide +kernel
theorem dX12_run_123 : decode cX12_run 123 = .ok (.getfield 312, 3) := by decide +kernel
theorem dX12_run_126 : decode cX12_run 126 = .ok (.goto 4, 3) := by decide +kernel
theorem dX12_run_129 : decode cX12_run 129 = .ok (.iconst (-1), 1) := by decide +kernel
theorem dX12_run_130 : decode cX12_run 130 = .ok (.ireturn, 1) := by decide +kernel
theorem dX12_runs_0 : decode cX12_runs 0 = .ok (.iconst 0, 1) := by decide +kernel
theorem dX12_runs_1 : decode cX12_runs 1 = .ok (.istore_n 3, 1) := by decide +kernel
theorem dX12_runs_2 : decode cX12_runs 2 = .ok (.iload_n 3, 1) := by decide +kernel
theorem dX12_runs_3 : decode cX12_runs 3 = .ok (.bipush 6, 2) := by decide +kernel
theorem dX12_runs_5 : decode cX12_runs 5 = .ok (.if_icmp .ge 33, 3) := by decide +kernel
theorem dX12_runs_8 : decode cX12_runs 8 = .ok (.aload_n 0, 1) := by decide +kernel
theorem dX12_runs_9 : decode cX12_runs 9 = .ok (.getfield 41, 3) := by decide +kernel
theorem dX12_runs_12 : decode cX12_runs 12 = .ok (.iload_n 3, 1) := by decide +kernel
theorem dX12_runs_13 : decode cX12_runs 13 = .ok (.iload_n 3, 1) := by decide +kernel
theorem dX12_runs_14 : decode cX12_runs 14 = .ok (.ifCond .ne 7, 3) := by decide +kernel
theorem dX12_runs_17 : decode cX12_runs 17 = .ok (.iload_n 1, 1) := by decide +kernel
theorem dX12_runs_18 : decode cX12_runs 18 = .ok (.goto 13, 3) := by decide +kernel
theorem dX12_runs_21 : decode cX12_runs 21 = .ok (.iload_n 3, 1) := by decide +kernel
theorem dX12_runs_22 : decode cX12_runs 22 = .ok (.iconst 1, 1) := by decide +kernel
theorem dX12_runs_23 : decode cX12_runs 23 = .ok (.if_icmp .ne 7, 3) := by decide +kernel
theorem dX12_runs_26 : decode cX12_runs 26 = .ok (.iload_n 2, 1) := by decide +kernel
theorem dX12_runs_27 : decode cX12_runs 27 = .ok (.goto 4, 3) := by decide +kernel
theorem dX12_runs_30 : decode cX12_runs 30 = .ok (.iconst 0, 1) := by decide +kernel
theorem dX12_runs_31 : decode cX12_runs 31 = .ok (.iastore, 1) := by decide +kernel
theorem dX12_runs_32 : decode cX12_runs 32 = .ok (.iinc 3 1, 3) := by decide +kernel
theorem dX12_runs_35 : decode cX12_runs 35 = .ok (.goto (-33), 3) := by decide +kernel
theorem dX12_runs_38 : decode cX12_runs 38 = .ok (.aload_n 0, 1) := by decide +kernel
theorem dX12_runs_39 : decode cX12_runs 39 = .ok (.iconst 0, 1) := by decide +kernel
theorem dX12_runs_40 : decode cX12_runs 40 = .ok (.putfield 291, 3) := by decide +kernel
theorem dX12_runs_43 : decode cX12_runs 43 = .ok (.aload_n 0, 1) := by decide +kernel
theorem dX12_runs_44 : decode cX12_runs 44 = .ok (.iconst 0, 1) := by decide +kernel
theorem dX12_runs_45 : decode cX12_runs 45 = .ok (.putfield 294, 3) := by decide +kernel
theorem dX12_runs_48 : decode cX12_runs 48 = .ok (.aload_n 0, 1) := by decide +kernel
theorem dX12_runs_49 : decode cX12_runs 49 = .ok (.iconst 0, 1) := by decide +kernel
theorem dX12_runs_50 : decode cX12_runs 50 = .ok (.putfield 312, 3) := by decide +kernel
theorem dX12_runs_53 : decode cX12_runs 53 = .ok (.aload_n 0, 1) := by decide +kernel
theorem dX12_runs_54 : decode cX12_runs 54 = .ok (.iconst 0, 1) := by decide +kernel
theorem dX12_runs_55 : decode cX12_runs 55 = .ok (.invokevirtual 306, 3) := by decide +kernel
theorem dX12_runs_58 : decode cX12_runs 58 = .ok (.pop, 1) := by decide +kernel
theorem dX12_runs_59 : decode cX12_runs 59 = .ok (.return_, 1) := by decide +kernel
theorem dX12_see_0 : decode cX12_see 0 = .ok (.iload_n 1, 1) := by decide +kernel
theorem dX12_see_1 : decode cX12_see 1 = .ok (.aload_n 0, 1) := by decide +kernel
theorem dX12_see_2 : decode cX12_see 2 = .ok (.getfield 124, 3) := by decide +kernel
theorem dX12_see_5 : decode cX12_see 5 = .ok (.if_icmp .ge 12, 3) := by decide +kernel
theorem dX12_see_17 : decode cX12_see 17 = .ok (.iconst (-1), 1) := by decide +kernel
theorem dX12_see_18 : decode cX12_see 18 = .ok (.ireturn, 1) := by decide +kernel
theorem dX12_sets_0 : decode cX12_sets 0 = .ok (.iconst 0, 1) := by decide +kernel
theorem dX12_sets_1 : decode cX12_sets 1 = .ok (.istore 4, 2) := by decide +kernel
theorem dX12_sets_3 : decode cX12_sets 3 = .ok (.iload_n 1, 1) := by decide +kernel
theorem dX12_sets_4 : decode cX12_sets 4 = .ok (.istore 5, 2) := by decide +kernel
theorem dX12_sets_6 : decode cX12_sets 6 = .ok (.iload 5, 2) := by decide +kernel
theorem dX12_sets_8 : decode cX12_sets 8 = .ok (.iload_n 2, 1) := by decide +kernel
theorem dX12_sets_9 : decode cX12_sets 9 = .ok (.if_icmp .ge 35, 3) := by decide +kernel
theorem dX12_sets_44 : decode cX12_sets 44 = .ok (.iload 4, 2) := by decide +kernel
theorem dX12_sets_46 : decode cX12_sets 46 = .ok (.ireturn, 1) := by decide +kernel
theorem dX12_size_0 : decode cX12_size 0 = .ok (.iload_n 1, 1) := by decide +kernel
theorem dX12_size_1 : decode cX12_size 1 = .ok (.invokestatic 249, 3) := by decide +kernel
theorem dX12_size_4 : decode cX12_size 4 = .ok (.ifCond .eq 12, 3) := by decide +kernel
theorem dX12_size_7 : decode cX12_size 7 = .ok (.iload_n 2, 1) := by decide +kernel
theorem dX12_size_8 : decode cX12_size 8 = .ok (.iconst 0, 1) := by decide +kernel
theorem dX12_size_9 : decode cX12_size 9 = .ok (.iconst 3, 1) := by decide +kernel
theorem dX12_size_10 : decode cX12_size 10 = .ok (.invokestatic 90, 3) := by decide +kernel
theorem dX12_size_13 : decode cX12_size 13 = .ok (.ifCond .ne 5, 3) := by decide +kernel
theorem dX12_size_16 : decode cX12_size 16 = .ok (.iconst (-1), 1) := by decide +kernel
theorem dX12_size_17 : decode cX12_size 17 = .ok (.ireturn, 1) := by decide +kernel
theorem dX12_size_18 : decode cX12_size 18 = .ok (.aload_n 0, 1) := by decide +kernel
theorem dX12_size_19 : decode cX12_size 19 = .ok (.iload_n 1, 1) := by decide +kernel
theorem dX12_size_20 : decode cX12_size 20 = .ok (.invokevirtual 271, 3) := by decide +kernel
theorem dX12_size_23 : decode cX12_size 23 = .ok (.iload_n 2, 1) := by decide +kernel
theorem dX12_size_24 : decode cX12_size 24 = .ok (.ifCond .ne 10, 3) := by decide +kernel
theorem dX12_size_27 : decode cX12_size 27 = .ok (.aload_n 0, 1) := by decide +kernel
theorem dX12_size_28 : decode cX12_size 28 = .ok (.invokevirtual 265, 3) := by decide +kernel
theorem dX12_size_31 : decode cX12_size 31 = .ok (.goto 33, 3) := by decide +kernel
theorem dX12_size_34 : decode cX12_size 34 = .ok (.iload_n 2, 1) := by decide +kernel
theorem dX12_size_35 : decode cX12_size 35 = .ok (.iconst 1, 1) := by decide +kernel
theorem dX12_size_36 : decode cX12_size 36 = .ok (.if_icmp .ne 10, 3) := by decide +kernel
theorem dX12_size_39 : decode cX12_size 39 = .ok (.aload_n 0, 1) := by decide +kernel
theorem dX12_size_40 : decode cX12_size 40 = .ok (.invokevirtual 274, 3) := by decide +kernel
theorem dX12_size_43 : decode cX12_size 43 = .ok (.goto 21, 3) := by decide +kernel
theorem dX12_size_46 : decode cX12_size 46 = .ok (.iload_n 2, 1) := by decide +kernel
theorem dX12_size_47 : decode cX12_size 47 = .ok (.iconst 2, 1) := by decide +kernel
theorem dX12_size_48 : decode cX12_size 48 = .ok (.if_icmp .ne 10, 3) := by decide +kernel
theorem dX12_size_51 : decode cX12_size 51 = .ok (.aload_n 0, 1) := by decide +kernel
theorem dX12_size_52 : decode cX12_size 52 = .ok (.getfield 98, 3) := by decide +kernel
theorem dX12_size_55 : decode cX12_size 55 = .ok (.goto 9, 3) := by decide +kernel
theorem dX12_size_58 : decode cX12_size 58 = .ok (.aload_n 0, 1) := by decide +kernel
theorem dX12_size_59 : decode cX12_size 59 = .ok (.iconst 0, 1) := by decide +kernel
theorem dX12_size_60 : decode cX12_size 60 = .ok (.iconst 0, 1) := by decide +kernel
theorem dX12_size_61 : decode cX12_size 61 = .ok (.invokevirtual 277, 3) := by decide +kernel
theorem dX12_size_64 : decode cX12_size 64 = .ok (.ireturn, 1) := by decide +kernel
theorem dX12_spills_0 : decode cX12_spills 0 = .ok (.iconst (-1), 1) := by decide +kernel
theorem dX12_spills_1 : decode cX12_spills 1 = .ok (.istore_n 3, 1) := by decide +kernel
theorem dX12_spills_2 : decode cX12_spills 2 = .ok (.iconst 0, 1) := by decide +kernel
theorem dX12_spills_3 : decode cX12_spills 3 = .ok (.istore 4, 2) := by decide +kernel
theorem dX12_spills_5 : decode cX12_spills 5 = .ok (.iload 4, 2) := by decide +kernel
theorem dX12_spills_7 : decode cX12_spills 7 = .ok (.bipush 64, 2) := by decide +kernel
theorem dX12_spills_9 : decode cX12_spills 9 = .ok (.if_icmp .ge 54, 3) := by decide +kernel
theorem dX12_spills_12 : decode cX12_spills 12 = .ok (.iload 4, 2) := by decide +kernel
theorem dX12_spills_14 : decode cX12_spills 14 = .ok (.iload_n 1, 1) := by decide +kernel
theorem dX12_spills_15 : decode cX12_spills 15 = .ok (.iconst (-1), 1) := by decide +kernel
theorem dX12_spills_16 : decode cX12_spills 16 = .ok (.ixor, 1) := by decide +kernel
theorem dX12_spills_17 : decode cX12_spills 17 = .ok (.iand, 1) := by decide +kernel
theorem dX12_spills_18 : decode cX12_spills 18 = .ok (.ifCond .ne 39, 3) := by decide +kernel
theorem dX12_spills_21 : decode cX12_spills 21 = .ok (.iload_n 3, 1) := by decide +kernel
theorem dX12_spills_22 : decode cX12_spills 22 = .ok (.iconst (-1), 1) := by decide +kernel

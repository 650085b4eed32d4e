theorem dX0_init_0 : decode cX0_init 0 = .ok (.aload_n 0, 1) := by decide +kernel
theorem dX0_init_1 : decode cX0_init 1 = .ok (.invokespecial 3, 3) := by decide +kernel
theorem dX0_init_4 : decode cX0_init 4 = .ok (.aload_n 0, 1) := by decide +kernel
theorem dX0_init_5 : decode cX0_init 5 = .ok (.new 9, 3) := by decide +kernel
theorem dX0_init_8 : decode cX0_init 8 = .ok (.dup, 1) := by decide +kernel
theorem dX0_init_9 : decode cX0_init 9 = .ok (.sipush 1000, 3) := by decide +kernel
theorem dX0_init_12 : decode cX0_init 12 = .ok (.invokespecial 11, 3) := by decide +kernel
theorem dX0_init_15 : decode cX0_init 15 = .ok (.putfield 14, 3) := by decide +kernel
theorem dX0_init_18 : decode cX0_init 18 = .ok (.aload_n 0, 1) := by decide +kernel
theorem dX0_init_19 : decode cX0_init 19 = .ok (.new 20, 3) := by decide +kernel
theorem dX0_init_22 : decode cX0_init 22 = .ok (.dup, 1) := by decide +kernel
theorem dX0_init_23 : decode cX0_init 23 = .ok (.invokespecial 22, 3) := by decide +kernel
theorem dX0_init_26 : decode cX0_init 26 = .ok (.putfield 23, 3) := by decide +kernel
theorem dX0_init_29 : decode cX0_init 29 = .ok (.return_, 1) := by decide +kernel
theorem dX10_advance_0 : decode cX10_advance 0 = .ok (.aload_n 0, 1) := by decide +kernel
theorem dX10_advance_1 : decode cX10_advance 1 = .ok (.aload_n 0, 1) := by decide +kernel
theorem dX10_advance_2 : decode cX10_advance 2 = .ok (.getfield 19, 3) := by decide +kernel
theorem dX10_advance_5 : decode cX10_advance 5 = .ok (.putfield 22, 3) := by decide +kernel
theorem dX10_advance_8 : decode cX10_advance 8 = .ok (.aload_n 0, 1) := by decide +kernel
theorem dX10_advance_9 : decode cX10_advance 9 = .ok (.getfield 19, 3) := by decide +kernel
theorem dX10_advance_12 : decode cX10_advance 12 = .ok (.istore_n 2, 1) := by decide +kernel
theorem dX10_advance_13 : decode cX10_advance 13 = .ok (.iload_n 2, 1) := by decide +kernel
theorem dX10_advance_14 : decode cX10_advance 14 = .ok (.aload_n 0, 1) := by decide +kernel
theorem dX10_advance_15 : decode cX10_advance 15 = .ok (.getfield 15, 3) := by decide +kernel
theorem dX10_advance_18 : decode cX10_advance 18 = .ok (.if_icmp .ge 36, 3) := by decide +kernel
theorem dX10_advance_54 : decode cX10_advance 54 = .ok (.aload_n 0, 1) := by decide +kernel
theorem dX10_advance_55 : decode cX10_advance 55 = .ok (.aload_n 0, 1) := by decide +kernel
theorem dX10_advance_56 : decode cX10_advance 56 = .ok (.getfield 22, 3) := by decide +kernel
theorem dX10_advance_59 : decode cX10_advance 59 = .ok (.invokevirtual 31, 3) := by decide +kernel
theorem dX10_advance_62 : decode cX10_advance 62 = .ok (.istore_n 2, 1) := by decide +kernel
theorem dX10_advance_63 : decode cX10_advance 63 = .ok (.iload_n 2, 1) := by decide +kernel
theorem dX10_advance_64 : decode cX10_advance 64 = .ok (.invokestatic 35, 3) := by decide +kernel
theorem dX10_advance_67 : decode cX10_advance 67 = .ok (.ifCond .eq 10, 3) := by decide +kernel
theorem dX10_advance_77 : decode cX10_advance 77 = .ok (.iload_n 2, 1) := by decide +kernel
theorem dX10_advance_78 : decode cX10_advance 78 = .ok (.invokestatic 42, 3) := by decide +kernel
theorem dX10_advance_81 : decode cX10_advance 81 = .ok (.ifCond .eq 10, 3) := by decide +kernel
theorem dX10_advance_91 : decode cX10_advance 91 = .ok (.aload_n 0, 1) := by decide +kernel
theorem dX10_advance_92 : decode cX10_advance 92 = .ok (.iload_n 2, 1) := by decide +kernel
theorem dX10_advance_93 : decode cX10_advance 93 = .ok (.iload_n 1, 1) := by decide +kernel
theorem dX10_advance_94 : decode cX10_advance 94 = .ok (.invokevirtual 48, 3) := by decide +kernel
theorem dX10_advance_97 : decode cX10_advance 97 = .ok (.return_, 1) := by decide +kernel
theorem dX10_byteAt_0 : decode cX10_byteAt 0 = .ok (.iload_n 1, 1) := by decide +kernel
theorem dX10_byteAt_1 : decode cX10_byteAt 1 = .ok (.ifCond .lt 20, 3) := by decide +kernel
theorem dX10_byteAt_4 : decode cX10_byteAt 4 = .ok (.iload_n 1, 1) := by decide +kernel
theorem dX10_byteAt_5 : decode cX10_byteAt 5 = .ok (.aload_n 0, 1) := by decide +kernel
theorem dX10_byteAt_6 : decode cX10_byteAt 6 = .ok (.getfield 15, 3) := by decide +kernel
theorem dX10_byteAt_9 : decode cX10_byteAt 9 = .ok (.if_icmp .ge 12, 3) := by decide +kernel
theorem dX10_byteAt_21 : decode cX10_byteAt 21 = .ok (.iconst (-1), 1) := by decide +kernel
theorem dX10_byteAt_22 : decode cX10_byteAt 22 = .ok (.ireturn, 1) := by decide +kernel
theorem dX10_init_0 : decode cX10_init 0 = .ok (.aload_n 0, 1) := by decide +kernel
theorem dX10_init_1 : decode cX10_init 1 = .ok (.invokespecial 3, 3) := by decide +kernel
theorem dX10_init_4 : decode cX10_init 4 = .ok (.aload_n 0, 1) := by decide +kernel
theorem dX10_init_5 : decode cX10_init 5 = .ok (.sipush 800, 3) := by decide +kernel
theorem dX10_init_8 : decode cX10_init 8 = .ok (.newarray .int, 2) := by decide +kernel
theorem dX10_init_10 : decode cX10_init 10 = .ok (.putfield 11, 3) := by decide +kernel
theorem dX10_init_13 : decode cX10_init 13 = .ok (.aload_n 0, 1) := by decide +kernel
theorem dX10_init_14 : decode cX10_init 14 = .ok (.iconst 0, 1) := by decide +kernel
theorem dX10_init_15 : decode cX10_init 15 = .ok (.putfield 15, 3) := by decide +kernel
theorem dX10_init_18 : decode cX10_init 18 = .ok (.return_, 1) := by decide +kernel
theorem dX10_isDigit_0 : decode cX10_isDigit 0 = .ok (.iload_n 0, 1) := by decide +kernel
theorem dX10_isDigit_1 : decode cX10_isDigit 1 = .ok (.bipush 48, 2) := by decide +kernel
theorem dX10_isDigit_3 : decode cX10_isDigit 3 = .ok (.if_icmp .lt 13, 3) := by decide +kernel
theorem dX10_isDigit_6 : decode cX10_isDigit 6 = .ok (.iload_n 0, 1) := by decide +kernel
theorem dX10_isDigit_7 : decode cX10_isDigit 7 = .ok (.bipush 57, 2) := by decide +kernel
theorem dX10_isDigit_9 : decode cX10_isDigit 9 = .ok (.if_icmp .gt 7, 3) := by decide +kernel
theorem dX10_isDigit_12 : decode cX10_isDigit 12 = .ok (.iconst 1, 1) := by decide +kernel
theorem dX10_isDigit_13 : decode cX10_isDigit 13 = .ok (.goto 4, 3) := by decide +kernel
theorem dX10_isDigit_16 : decode cX10_isDigit 16 = .ok (.iconst 0, 1) := by decide +kernel
theorem dX10_isDigit_17 : decode cX10_isDigit 17 = .ok (.ireturn, 1) := by decide +kernel
theorem dX10_isLetter_0 : decode cX10_isLetter 0 = .ok (.iload_n 0, 1) := by decide +kernel
theorem dX10_isLetter_1 : decode cX10_isLetter 1 = .ok (.invokestatic 52, 3) := by decide +kernel
theorem dX10_isLetter_4 : decode cX10_isLetter 4 = .ok (.ifCond .ne 15, 3) := by decide +kernel
theorem dX10_isLetter_7 : decode cX10_isLetter 7 = .ok (.iload_n 0, 1) := by decide +kernel
theorem dX10_isLetter_8 : decode cX10_isLetter 8 = .ok (.bipush 65, 2) := by decide +kernel
theorem dX10_isLetter_10 : decode cX10_isLetter 10 = .ok (.if_icmp .lt 13, 3) := by decide +kernel
theorem dX10_isLetter_13 : decode cX10_isLetter 13 = .ok (.iload_n 0, 1) := by decide +kernel
theorem dX10_isLetter_14 : decode cX10_isLetter 14 = .ok (.bipush 90, 2) := by decide +kernel
theorem dX10_isLetter_16 : decode cX10_isLetter 16 = .ok (.if_icmp .gt 7, 3) := by decide +kernel
theorem dX10_isLetter_19 : decode cX10_isLetter 19 = .ok (.iconst 1, 1) := by decide +kernel
theorem dX10_isLetter_20 : decode cX10_isLetter 20 = .ok (.goto 4, 3) := by decide +kernel
theorem dX10_isLetter_23 : decode cX10_isLetter 23 = .ok (.iconst 0, 1) := by decide +kernel
theorem dX10_isLetter_24 : decode cX10_isLetter 24 = .ok (.ireturn, 1) := by decide +kernel
theorem dX10_isSmallLetter_0 : decode cX10_isSmallLetter 0 = .ok (.iload_n 0, 1) := by decide +kernel
theorem dX10_isSmallLetter_1 : decode cX10_isSmallLetter 1 = .ok (.bipush 97, 2) := by decide +kernel
theorem dX10_isSmallLetter_3 : decode cX10_isSmallLetter 3 = .ok (.if_icmp .lt 13, 3) := by decide +kernel
theorem dX10_isSmallLetter_6 : decode cX10_isSmallLetter 6 = .ok (.iload_n 0, 1) := by decide +kernel
theorem dX10_isSmallLetter_7 : decode cX10_isSmallLetter 7 = .ok (.bipush 122, 2) := by decide +kernel
theorem dX10_isSmallLetter_9 : decode cX10_isSmallLetter 9 = .ok (.if_icmp .gt 7, 3) := by decide +kernel
theorem dX10_isSmallLetter_12 : decode cX10_isSmallLetter 12 = .ok (.iconst 1, 1) := by decide +kernel
theorem dX10_isSmallLetter_13 : decode cX10_isSmallLetter 13 = .ok (.goto 4, 3) := by decide +kernel
theorem dX10_isSmallLetter_16 : decode cX10_isSmallLetter 16 = .ok (.iconst 0, 1) := by decide +kernel
theorem dX10_isSmallLetter_17 : decode cX10_isSmallLetter 17 = .ok (.ireturn, 1) := by decide +kernel
theorem dX10_put_0 : decode cX10_put 0 = .ok (.bipush 24, 2) := by decide +kernel
theorem dX10_put_2 : decode cX10_put 2 = .ok (.istore_n 2, 1) := by decide +kernel
theorem dX10_put_3 : decode cX10_put 3 = .ok (.iload_n 2, 1) := by decide +kernel
theorem dX10_put_4 : decode cX10_put 4 = .ok (.ifCond .lt 47, 3) := by decide +kernel
theorem dX10_put_7 : decode cX10_put 7 = .ok (.aload_n 0, 1) := by decide +kernel
theorem dX10_put_8 : decode cX10_put 8 = .ok (.getfield 15, 3) := by decide +kernel
theorem dX10_put_11 : decode cX10_put 11 = .ok (.aload_n 0, 1) := by decide +kernel
theorem dX10_put_12 : decode cX10_put 12 = .ok (.getfield 11, 3) := by decide +kernel
theorem dX10_put_15 : decode cX10_put 15 = .ok (.arraylength, 1) := by decide +kernel
theorem dX10_put_16 : decode cX10_put 16 = .ok (.if_icmp .ge 35, 3) := by decide +kernel
theorem dX10_put_19 : decode cX10_put 19 = .ok (.aload_n 0, 1) := by decide +kernel
theorem dX10_put_20 : decode cX10_put 20 = .ok (.getfield 11, 3) := by decide +kernel
theorem dX10_put_23 : decode cX10_put 23 = .ok (.aload_n 0, 1) := by decide +kernel
theorem dX10_put_24 : decode cX10_put 24 = .ok (.getfield 15, 3) := by decide +kernel
theorem dX10_put_27 : decode cX10_put 27 = .ok (.iload_n 1, 1) := by decide +kernel
theorem dX10_put_28 : decode cX10_put 28 = .ok (.iload_n 2, 1) := by decide +kernel
theorem dX10_put_29 : decode cX10_put 29 = .ok (.iushr, 1) := by decide +kernel
theorem dX10_put_30 : decode cX10_put 30 = .ok (.sipush 255, 3) := by decide +kernel
theorem dX10_put_33 : decode cX10_put 33 = .ok (.iand, 1) := by decide +kernel
theorem dX10_put_34 : decode cX10_put 34 = .ok (.iastore, 1) := by decide +kernel
theorem dX10_put_35 : decode cX10_put 35 = .ok (.aload_n 0, 1) := by decide +kernel
theorem dX10_put_36 : decode cX10_put 36 = .ok (.dup, 1) := by decide +kernel
theorem dX10_put_37 : decode cX10_put 37 = .ok (.getfield 15, 3) := by decide +kernel
theorem dX10_put_40 : decode cX10_put 40 = .ok (.iconst 1, 1) := by decide +kernel
theorem dX10_put_41 : decode cX10_put 41 = .ok (.iadd, 1) := by decide +kernel
theorem dX10_put_42 : decode cX10_put 42 = .ok (.putfield 15, 3) := by decide +kernel
theorem dX10_put_45 : decode cX10_put 45 = .ok (.iinc 2 (-8), 3) := by decide +kernel
theorem dX10_put_48 : decode cX10_put 48 = .ok (.goto (-45), 3) := by decide +kernel
theorem dX10_put_51 : decode cX10_put 51 = .ok (.return_, 1) := by decide +kernel
theorem dX10_rewind_0 : decode cX10_rewind 0 = .ok (.aload_n 0, 1) := by decide +kernel
theorem dX10_rewind_1 : decode cX10_rewind 1 = .ok (.iconst 0, 1) := by decide +kernel
theorem dX10_rewind_2 : decode cX10_rewind 2 = .ok (.putfield 19, 3) := by decide +kernel
theorem dX10_rewind_5 : decode cX10_rewind 5 = .ok (.aload_n 0, 1) := by decide +kernel
theorem dX10_rewind_6 : decode cX10_rewind 6 = .ok (.iconst 0, 1) := by decide +kernel
theorem dX10_rewind_7 : decode cX10_rewind 7 = .ok (.putfield 22, 3) := by decide +kernel
theorem dX10_rewind_10 : decode cX10_rewind 10 = .ok (.aload_n 0, 1) := by decide +kernel
theorem dX10_rewind_11 : decode cX10_rewind 11 = .ok (.iconst 0, 1) := by decide +kernel
theorem dX10_rewind_12 : decode cX10_rewind 12 = .ok (.putfield 25, 3) := by decide +kernel
theorem dX10_rewind_15 : decode cX10_rewind 15 = .ok (.aload_n 0, 1) := by decide +kernel
theorem dX10_rewind_16 : decode cX10_rewind 16 = .ok (.iconst 0, 1) := by decide +kernel
theorem dX10_rewind_17 : decode cX10_rewind 17 = .ok (.putfield 28, 3) := by decide +kernel
theorem dX10_rewind_20 : decode cX10_rewind 20 = .ok (.return_, 1) := by decide +kernel
theorem dX10_shorten_0 : decode cX10_shorten 0 = .ok (.iload_n 1, 1) := by decide +kernel
theorem dX10_shorten_1 : decode cX10_shorten 1 = .ok (.ifCond .lt 11, 3) := by decide +kernel
theorem dX10_shorten_4 : decode cX10_shorten 4 = .ok (.iload_n 1, 1) := by decide +kernel
theorem dX10_shorten_5 : decode cX10_shorten 5 = .ok (.aload_n 0, 1) := by decide +kernel
theorem dX10_shorten_6 : decode cX10_shorten 6 = .ok (.getfield 15, 3) := by decide +kernel
theorem dX10_shorten_9 : decode cX10_shorten 9 = .ok (.if_icmp .le 5, 3) := by decide +kernel
theorem dX10_shorten_12 : decode cX10_shorten 12 = .ok (.iconst 0, 1) := by decide +kernel
theorem dX10_shorten_13 : decode cX10_shorten 13 = .ok (.ireturn, 1) := by decide +kernel
theorem dX10_shorten_14 : decode cX10_shorten 14 = .ok (.aload_n 0, 1) := by decide +kernel
theorem dX10_shorten_15 : decode cX10_shorten 15 = .ok (.iload_n 1, 1) := by decide +kernel
theorem dX10_shorten_16 : decode cX10_shorten 16 = .ok (.putfield 15, 3) := by decide +kernel
theorem dX10_shorten_19 : decode cX10_shorten 19 = .ok (.iconst 1, 1) := by decide +kernel
theorem dX10_shorten_20 : decode cX10_shorten 20 = .ok (.ireturn, 1) := by decide +kernel
theorem dX10_takeSign_0 : decode cX10_takeSign 0 = .ok (.aload_n 0, 1) := by decide +kernel
theorem dX10_takeSign_1 : decode cX10_takeSign 1 = .ok (.aload_n 0, 1) := by decide +kernel
theorem dX10_takeSign_2 : decode cX10_takeSign 2 = .ok (.getfield 22, 3) := by decide +kernel
theorem dX10_takeSign_5 : decode cX10_takeSign 5 = .ok (.iconst 1, 1) := by decide +kernel
theorem dX10_takeSign_6 : decode cX10_takeSign 6 = .ok (.iadd, 1) := by decide +kernel
theorem dX10_takeSign_7 : decode cX10_takeSign 7 = .ok (.putfield 19, 3) := by decide +kernel
theorem dX10_takeSign_10 : decode cX10_takeSign 10 = .ok (.iload_n 1, 1) := by decide +kernel
theorem dX10_takeSign_11 : decode cX10_takeSign 11 = .ok (.iconst (-1), 1) := by decide +kernel
theorem dX10_takeSign_12 : decode cX10_takeSign 12 = .ok (.if_icmp .ne 19, 3) := by decide +kernel
theorem dX10_takeSign_15 : decode cX10_takeSign 15 = .ok (.aload_n 0, 1) := by decide +kernel
theorem dX10_takeSign_16 : decode cX10_takeSign 16 = .ok (.iconst 1, 1) := by decide +kernel
theorem dX10_takeSign_17 : decode cX10_takeSign 17 = .ok (.putfield 25, 3) := by decide +kernel
theorem dX10_takeSign_20 : decode cX10_takeSign 20 = .ok (.aload_n 0, 1) := by decide +kernel
theorem dX10_takeSign_21 : decode cX10_takeSign 21 = .ok (.aload_n 0, 1) := by decide +kernel
theorem dX10_takeSign_22 : decode cX10_takeSign 22 = .ok (.getfield 22, 3) := by decide +kernel
theorem dX10_takeSign_25 : decode cX10_takeSign 25 = .ok (.putfield 19, 3) := by decide +kernel
theorem dX10_takeSign_28 : decode cX10_takeSign 28 = .ok (.goto 63, 3) := by decide +kernel
theorem dX10_takeSign_91 : decode cX10_takeSign 91 = .ok (.return_, 1) := by decide +kernel
theorem dX11_apply_0 : decode cX11_apply 0 = .ok (.aload_n 0, 1) := by decide +kernel
theorem dX11_apply_1 : decode cX11_apply 1 = .ok (.iload_n 1, 1) := by decide +kernel
theorem dX11_apply_2 : decode cX11_apply 2 = .ok (.invokevirtual 165, 3) := by decide +kernel
theorem dX11_apply_5 : decode cX11_apply 5 = .ok (.astore 5, 2) := by decide +kernel
theorem dX11_apply_7 : decode cX11_apply 7 = .ok (.aload_n 0, 1) := by decide +kernel
theorem dX11_apply_8 : decode cX11_apply 8 = .ok (.iload_n 2, 1) := by decide +kernel
theorem dX11_apply_9 : decode cX11_apply 9 = .ok (.invokevirtual 77, 3) := by decide +kernel
theorem dX11_apply_12 : decode cX11_apply 12 = .ok (.astore 6, 2) := by decide +kernel
theorem dX11_apply_14 : decode cX11_apply 14 = .ok (.aload_n 0, 1) := by decide +kernel
theorem dX11_apply_15 : decode cX11_apply 15 = .ok (.iload 4, 2) := by decide +kernel
theorem dX11_apply_17 : decode cX11_apply 17 = .ok (.invokevirtual 77, 3) := by decide +kernel
theorem dX11_apply_20 : decode cX11_apply 20 = .ok (.astore 7, 2) := by decide +kernel
theorem dX11_apply_22 : decode cX11_apply 22 = .ok (.aload 5, 2) := by decide +kernel
theorem dX11_apply_24 : decode cX11_apply 24 = .ok (.ifnull 13, 3) := by decide +kernel
theorem dX11_apply_37 : decode cX11_apply 37 = .ok (.iconst 0, 1) := by decide +kernel
theorem dX11_apply_38 : decode cX11_apply 38 = .ok (.ireturn, 1) := by decide +kernel
theorem dX11_at_0 : decode cX11_at 0 = .ok (.aload_n 0, 1) := by decide +kernel
theorem dX11_at_1 : decode cX11_at 1 = .ok (.iload_n 1, 1) := by decide +kernel
theorem dX11_at_2 : decode cX11_at 2 = .ok (.invokevirtual 77, 3) := by decide +kernel
theorem dX11_at_5 : decode cX11_at 5 = .ok (.astore_n 3, 1) := by decide +kernel
theorem dX11_at_6 : decode cX11_at 6 = .ok (.aload_n 3, 1) := by decide +kernel
theorem dX11_at_7 : decode cX11_at 7 = .ok (.ifnonnull 7, 3) := by decide +kernel
theorem dX11_at_10 : decode cX11_at 10 = .ok (.iconst (-1), 1) := by decide +kernel
theorem dX11_at_11 : decode cX11_at 11 = .ok (.goto 8, 3) := by decide +kernel
theorem dX11_at_14 : decode cX11_at 14 = .ok (.aload_n 3, 1) := by decide +kernel
theorem dX11_at_15 : decode cX11_at 15 = .ok (.iload_n 2, 1) := by decide +kernel
theorem dX11_at_16 : decode cX11_at 16 = .ok (.invokevirtual 113, 3) := by decide +kernel
theorem dX11_at_19 : decode cX11_at 19 = .ok (.ireturn, 1) := by decide +kernel
theorem dX11_blame_0 : decode cX11_blame 0 = .ok (.aload_n 0, 1) := by decide +kernel
theorem dX11_blame_1 : decode cX11_blame 1 = .ok (.iload_n 1, 1) := by decide +kernel
theorem dX11_blame_2 : decode cX11_blame 2 = .ok (.invokevirtual 77, 3) := by decide +kernel
theorem dX11_blame_5 : decode cX11_blame 5 = .ok (.astore_n 3, 1) := by decide +kernel
theorem dX11_blame_6 : decode cX11_blame 6 = .ok (.aload_n 3, 1) := by decide +kernel
theorem dX11_blame_7 : decode cX11_blame 7 = .ok (.ifnull 12, 3) := by decide +kernel
theorem dX11_blame_10 : decode cX11_blame 10 = .ok (.iload_n 2, 1) := by decide +kernel
theorem dX11_blame_11 : decode cX11_blame 11 = .ok (.ifCond .lt 8, 3) := by decide +kernel
theorem dX11_blame_14 : decode cX11_blame 14 = .ok (.iload_n 2, 1) := by decide +kernel
theorem dX11_blame_15 : decode cX11_blame 15 = .ok (.iconst 1, 1) := by decide +kernel
theorem dX11_blame_16 : decode cX11_blame 16 = .ok (.if_icmp .le 5, 3) := by decide +kernel
theorem dX11_blame_19 : decode cX11_blame 19 = .ok (.iconst (-1), 1) := by decide +kernel
theorem dX11_blame_20 : decode cX11_blame 20 = .ok (.ireturn, 1) := by decide +kernel
theorem dX11_blame_21 : decode cX11_blame 21 = .ok (.aload_n 0, 1) := by decide +kernel
theorem dX11_blame_22 : decode cX11_blame 22 = .ok (.getfield 50, 3) := by decide +kernel
theorem dX11_blame_25 : decode cX11_blame 25 = .ok (.aload_n 3, 1) := by decide +kernel
theorem dX11_blame_26 : decode cX11_blame 26 = .ok (.invokevirtual 205, 3) := by decide +kernel
theorem dX11_blame_29 : decode cX11_blame 29 = .ok (.iload_n 2, 1) := by decide +kernel
theorem dX11_blame_30 : decode cX11_blame 30 = .ok (.ifCond .ne 13, 3) := by decide +kernel
theorem dX11_blame_33 : decode cX11_blame 33 = .ok (.aload_n 0, 1) := by decide +kernel
theorem dX11_blame_34 : decode cX11_blame 34 = .ok (.getfield 50, 3) := by decide +kernel
theorem dX11_blame_37 : decode cX11_blame 37 = .ok (.getfield 208, 3) := by decide +kernel
theorem dX11_blame_40 : decode cX11_blame 40 = .ok (.goto 10, 3) := by decide +kernel
theorem dX11_blame_43 : decode cX11_blame 43 = .ok (.aload_n 0, 1) := by decide +kernel
theorem dX11_blame_44 : decode cX11_blame 44 = .ok (.getfield 50, 3) := by decide +kernel
theorem dX11_blame_47 : decode cX11_blame 47 = .ok (.getfield 211, 3) := by decide +kernel
theorem dX11_blame_50 : decode cX11_blame 50 = .ok (.ireturn, 1) := by decide +kernel
theorem dX11_clash_0 : decode cX11_clash 0 = .ok (.aload_n 0, 1) := by decide +kernel
theorem dX11_clash_1 : decode cX11_clash 1 = .ok (.iload_n 1, 1) := by decide +kernel
theorem dX11_clash_2 : decode cX11_clash 2 = .ok (.invokevirtual 77, 3) := by decide +kernel
theorem dX11_clash_5 : decode cX11_clash 5 = .ok (.astore 4, 2) := by decide +kernel
theorem dX11_clash_7 : decode cX11_clash 7 = .ok (.aload 4, 2) := by decide +kernel
theorem dX11_clash_9 : decode cX11_clash 9 = .ok (.ifnull 22, 3) := by decide +kernel
theorem dX11_clash_12 : decode cX11_clash 12 = .ok (.iload_n 2, 1) := by decide +kernel
theorem dX11_clash_13 : decode cX11_clash 13 = .ok (.invokestatic 232, 3) := by decide +kernel
theorem dX11_clash_16 : decode cX11_clash 16 = .ok (.ifCond .eq 15, 3) := by decide +kernel
theorem dX11_clash_19 : decode cX11_clash 19 = .ok (.iload_n 3, 1) := by decide +kernel
theorem dX11_clash_20 : decode cX11_clash 20 = .ok (.invokestatic 232, 3) := by decide +kernel
theorem dX11_clash_23 : decode cX11_clash 23 = .ok (.ifCond .eq 8, 3) := by decide +kernel
theorem dX11_clash_26 : decode cX11_clash 26 = .ok (.iload_n 2, 1) := by decide +kernel
theorem dX11_clash_27 : decode cX11_clash 27 = .ok (.iload_n 3, 1) := by decide +kernel
theorem dX11_clash_28 : decode cX11_clash 28 = .ok (.if_icmp .ne 5, 3) := by decide +kernel
theorem dX11_clash_31 : decode cX11_clash 31 = .ok (.iconst (-1), 1) := by decide +kernel
theorem dX11_clash_32 : decode cX11_clash 32 = .ok (.ireturn, 1) := by decide +kernel
theorem dX11_clash_33 : decode cX11_clash 33 = .ok (.aload_n 0, 1) := by decide +kernel
theorem dX11_clash_34 : decode cX11_clash 34 = .ok (.getfield 57, 3) := by decide +kernel
theorem dX11_clash_37 : decode cX11_clash 37 = .ok (.aload 4, 2) := by decide +kernel
theorem dX11_clash_39 : decode cX11_clash 39 = .ok (.invokevirtual 220, 3) := by decide +kernel
theorem dX11_clash_42 : decode cX11_clash 42 = .ok (.aload_n 0, 1) := by decide +kernel
theorem dX11_clash_43 : decode cX11_clash 43 = .ok (.getfield 57, 3) := by decide +kernel
theorem dX11_clash_46 : decode cX11_clash 46 = .ok (.iload_n 2, 1) := by decide +kernel
theorem dX11_clash_47 : decode cX11_clash 47 = .ok (.iload_n 3, 1) := by decide +kernel
theorem dX11_clash_48 : decode cX11_clash 48 = .ok (.invokevirtual 235, 3) := by decide +kernel
theorem dX11_clash_51 : decode cX11_clash 51 = .ok (.ifCond .eq 7, 3) := by decide +kernel
theorem dX11_clash_54 : decode cX11_clash 54 = .ok (.iconst 1, 1) := by decide +kernel
theorem dX11_clash_55 : decode cX11_clash 55 = .ok (.goto 4, 3) := by decide +kernel
theorem dX11_clash_58 : decode cX11_clash 58 = .ok (.iconst 0, 1) := by decide +kernel
theorem dX11_clash_59 : decode cX11_clash 59 = .ok (.ireturn, 1) := by decide +kernel
theorem dX11_clear_0 : decode cX11_clear 0 = .ok (.aload_n 0, 1) := by decide +kernel
theorem dX11_clear_1 : decode cX11_clear 1 = .ok (.getfield 50, 3) := by decide +kernel
theorem dX11_clear_4 : decode cX11_clear 4 = .ok (.iload_n 1, 1) := by decide +kernel
theorem dX11_clear_5 : decode cX11_clear 5 = .ok (.invokevirtual 195, 3) := by decide +kernel
theorem dX11_clear_8 : decode cX11_clear 8 = .ok (.ireturn, 1) := by decide +kernel
theorem dX11_cut_0 : decode cX11_cut 0 = .ok (.aload_n 0, 1) := by decide +kernel
theorem dX11_cut_1 : decode cX11_cut 1 = .ok (.iload_n 2, 1) := by decide +kernel
theorem dX11_cut_2 : decode cX11_cut 2 = .ok (.invokevirtual 77, 3) := by decide +kernel
theorem dX11_cut_5 : decode cX11_cut 5 = .ok (.astore 4, 2) := by decide +kernel
theorem dX11_cut_7 : decode cX11_cut 7 = .ok (.aload_n 0, 1) := by decide +kernel
theorem dX11_cut_8 : decode cX11_cut 8 = .ok (.iload_n 3, 1) := by decide +kernel
theorem dX11_cut_9 : decode cX11_cut 9 = .ok (.invokevirtual 77, 3) := by decide +kernel
theorem dX11_cut_12 : decode cX11_cut 12 = .ok (.astore 5, 2) := by decide +kernel
theorem dX11_cut_14 : decode cX11_cut 14 = .ok (.aload 4, 2) := by decide +kernel
theorem dX11_cut_16 : decode cX11_cut 16 = .ok (.ifnull 21, 3) := by decide +kernel
theorem dX11_cut_19 : decode cX11_cut 19 = .ok (.aload 5, 2) := by decide +kernel
theorem dX11_cut_21 : decode cX11_cut 21 = .ok (.ifnull 16, 3) := by decide +kernel
theorem dX11_cut_24 : decode cX11_cut 24 = .ok (.aload_n 0, 1) := by decide +kernel
theorem dX11_cut_25 : decode cX11_cut 25 = .ok (.getfield 50, 3) := by decide +kernel
theorem dX11_cut_28 : decode cX11_cut 28 = .ok (.iload_n 1, 1) := by decide +kernel
theorem dX11_cut_29 : decode cX11_cut 29 = .ok (.aload 4, 2) := by decide +kernel
theorem dX11_cut_31 : decode cX11_cut 31 = .ok (.invokevirtual 214, 3) := by decide +kernel
theorem dX11_cut_34 : decode cX11_cut 34 = .ok (.ifCond .ne 5, 3) := by decide +kernel
theorem dX11_cut_37 : decode cX11_cut 37 = .ok (.iconst (-1), 1) := by decide +kernel
theorem dX11_cut_38 : decode cX11_cut 38 = .ok (.ireturn, 1) := by decide +kernel
theorem dX11_end_0 : decode cX11_end 0 = .ok (.aload_n 0, 1) := by decide +kernel
theorem dX11_end_1 : decode cX11_end 1 = .ok (.getfield 29, 3) := by decide +kernel
theorem dX11_end_4 : decode cX11_end 4 = .ok (.getfield 61, 3) := by decide +kernel
theorem dX11_end_7 : decode cX11_end 7 = .ok (.iload_n 1, 1) := by decide +kernel
theorem dX11_end_8 : decode cX11_end 8 = .ok (.invokevirtual 73, 3) := by decide +kernel
theorem dX11_end_11 : decode cX11_end 11 = .ok (.ireturn, 1) := by decide +kernel
theorem dX11_fault_0 : decode cX11_fault 0 = .ok (.iload_n 1, 1) := by decide +kernel
theorem dX11_fault_1 : decode cX11_fault 1 = .ok (.ifCond .ne 11, 3) := by decide +kernel
theorem dX11_fault_4 : decode cX11_fault 4 = .ok (.aload_n 0, 1) := by decide +kernel
theorem dX11_fault_5 : decode cX11_fault 5 = .ok (.getfield 29, 3) := by decide +kernel
theorem dX11_fault_8 : decode cX11_fault 8 = .ok (.getfield 107, 3) := by decide +kernel
theorem dX11_fault_11 : decode cX11_fault 11 = .ok (.ireturn, 1) := by decide +kernel
theorem dX11_fault_12 : decode cX11_fault 12 = .ok (.iload_n 1, 1) := by decide +kernel
theorem dX11_fault_13 : decode cX11_fault 13 = .ok (.iconst 1, 1) := by decide +kernel
theorem dX11_fault_14 : decode cX11_fault 14 = .ok (.if_icmp .ne 13, 3) := by decide +kernel
theorem dX11_fault_17 : decode cX11_fault 17 = .ok (.aload_n 0, 1) := by decide +kernel
theorem dX11_fault_18 : decode cX11_fault 18 = .ok (.getfield 29, 3) := by decide +kernel
theorem dX11_fault_21 : decode cX11_fault 21 = .ok (.getfield 110, 3) := by decide +kernel
theorem dX11_fault_24 : decode cX11_fault 24 = .ok (.goto 4, 3) := by decide +kernel
theorem dX11_fault_27 : decode cX11_fault 27 = .ok (.iconst (-1), 1) := by decide +kernel
theorem dX11_fault_28 : decode cX11_fault 28 = .ok (.ireturn, 1) := by decide +kernel
theorem dX11_feed_0 : decode cX11_feed 0 = .ok (.aload_n 0, 1) := by decide +kernel
theorem dX11_feed_1 : decode cX11_feed 1 = .ok (.getfield 29, 3) := by decide +kernel
theorem dX11_feed_4 : decode cX11_feed 4 = .ok (.getfield 61, 3) := by decide +kernel
theorem dX11_feed_7 : decode cX11_feed 7 = .ok (.astore 6, 2) := by decide +kernel
theorem dX11_feed_9 : decode cX11_feed 9 = .ok (.aload 6, 2) := by decide +kernel
theorem dX11_feed_11 : decode cX11_feed 11 = .ok (.getfield 65, 3) := by decide +kernel
theorem dX11_feed_14 : decode cX11_feed 14 = .ok (.bipush 20, 2) := by decide +kernel
theorem dX11_feed_16 : decode cX11_feed 16 = .ok (.iadd, 1) := by decide +kernel
theorem dX11_feed_17 : decode cX11_feed 17 = .ok (.sipush 800, 3) := by decide +kernel
theorem dX11_feed_20 : decode cX11_feed 20 = .ok (.if_icmp .le 5, 3) := by decide +kernel
theorem dX11_feed_25 : decode cX11_feed 25 = .ok (.aload 6, 2) := by decide +kernel
theorem dX11_feed_27 : decode cX11_feed 27 = .ok (.iload_n 1, 1) := by decide +kernel
theorem dX11_feed_28 : decode cX11_feed 28 = .ok (.invokevirtual 70, 3) := by decide +kernel
theorem dX11_feed_31 : decode cX11_feed 31 = .ok (.aload 6, 2) := by decide +kernel
theorem dX11_feed_33 : decode cX11_feed 33 = .ok (.iload_n 2, 1) := by decide +kernel
theorem dX11_feed_34 : decode cX11_feed 34 = .ok (.invokevirtual 70, 3) := by decide +kernel
theorem dX11_feed_37 : decode cX11_feed 37 = .ok (.aload 6, 2) := by decide +kernel
theorem dX11_feed_39 : decode cX11_feed 39 = .ok (.iload_n 3, 1) := by decide +kernel
theorem dX11_feed_40 : decode cX11_feed 40 = .ok (.invokevirtual 70, 3) := by decide +kernel
theorem dX11_feed_43 : decode cX11_feed 43 = .ok (.aload 6, 2) := by decide +kernel
theorem dX11_feed_45 : decode cX11_feed 45 = .ok (.iload 4, 2) := by decide +kernel
theorem dX11_feed_47 : decode cX11_feed 47 = .ok (.invokevirtual 70, 3) := by decide +kernel
theorem dX11_feed_50 : decode cX11_feed 50 = .ok (.aload 6, 2) := by decide +kernel
theorem dX11_feed_52 : decode cX11_feed 52 = .ok (.iload 5, 2) := by decide +kernel
theorem dX11_feed_54 : decode cX11_feed 54 = .ok (.invokevirtual 70, 3) := by decide +kernel
theorem dX11_feed_57 : decode cX11_feed 57 = .ok (.aload 6, 2) := by decide +kernel
theorem dX11_feed_59 : decode cX11_feed 59 = .ok (.getfield 65, 3) := by decide +kernel
theorem dX11_feed_62 : decode cX11_feed 62 = .ok (.ireturn, 1) := by decide +kernel
theorem dX11_init_0 : decode cX11_init 0 = .ok (.aload_n 0, 1) := by decide +kernel
theorem dX11_init_1 : decode cX11_init 1 = .ok (.invokespecial 1, 3) := by decide +kernel
theorem dX11_init_4 : decode cX11_init 4 = .ok (.aload_n 0, 1) := by decide +kernel
theorem dX11_init_5 : decode cX11_init 5 = .ok (.bipush 6, 2) := by decide +kernel
theorem dX11_init_7 : decode cX11_init 7 = .ok (.anewarray 9, 3) := by decide +kernel
theorem dX11_init_10 : decode cX11_init 10 = .ok (.putfield 11, 3) := by decide +kernel
theorem dX11_init_13 : decode cX11_init 13 = .ok (.iconst 0, 1) := by decide +kernel
theorem dX11_init_14 : decode cX11_init 14 = .ok (.istore_n 1, 1) := by decide +kernel
theorem dX11_init_15 : decode cX11_init 15 = .ok (.iload_n 1, 1) := by decide +kernel
theorem dX11_init_16 : decode cX11_init 16 = .ok (.bipush 6, 2) := by decide +kernel
theorem dX11_init_18 : decode cX11_init 18 = .ok (.if_icmp .ge 25, 3) := by decide +kernel
theorem dX11_init_21 : decode cX11_init 21 = .ok (.aload_n 0, 1) := by decide +kernel
theorem dX11_init_22 : decode cX11_init 22 = .ok (.getfield 11, 3) := by decide +kernel
theorem dX11_init_25 : decode cX11_init 25 = .ok (.iload_n 1, 1) := by decide +kernel
theorem dX11_init_26 : decode cX11_init 26 = .ok (.new 9, 3) := by decide +kernel
theorem dX11_init_29 : decode cX11_init 29 = .ok (.dup, 1) := by decide +kernel
theorem dX11_init_30 : decode cX11_init 30 = .ok (.sipush 480, 3) := by decide +kernel
theorem dX11_init_33 : decode cX11_init 33 = .ok (.invokespecial 15, 3) := by decide +kernel
theorem dX11_init_36 : decode cX11_init 36 = .ok (.aastore, 1) := by decide +kernel
theorem dX11_init_37 : decode cX11_init 37 = .ok (.iinc 1 1, 3) := by decide +kernel
theorem dX11_init_40 : decode cX11_init 40 = .ok (.goto (-25), 3) := by decide +kernel
theorem dX11_init_43 : decode cX11_init 43 = .ok (.aload_n 0, 1) := by decide +kernel
theorem dX11_init_44 : decode cX11_init 44 = .ok (.iconst 0, 1) := by decide +kernel
theorem dX11_init_45 : decode cX11_init 45 = .ok (.putfield 18, 3) := by decide +kernel
theorem dX11_init_48 : decode cX11_init 48 = .ok (.aload_n 0, 1) := by decide +kernel
theorem dX11_init_49 : decode cX11_init 49 = .ok (.new 9, 3) := by decide +kernel
theorem dX11_init_52 : decode cX11_init 52 = .ok (.dup, 1) := by decide +kernel
theorem dX11_init_53 : decode cX11_init 53 = .ok (.sipush 1000, 3) := by decide +kernel
theorem dX11_init_56 : decode cX11_init 56 = .ok (.invokespecial 15, 3) := by decide +kernel
theorem dX11_init_59 : decode cX11_init 59 = .ok (.putfield 22, 3) := by decide +kernel
theorem dX11_init_62 : decode cX11_init 62 = .ok (.aload_n 0, 1) := by decide +kernel
theorem dX11_init_63 : decode cX11_init 63 = .ok (.new 26, 3) := by decide +kernel
theorem dX11_init_66 : decode cX11_init 66 = .ok (.dup, 1) := by decide +kernel
theorem dX11_init_67 : decode cX11_init 67 = .ok (.invokespecial 28, 3) := by decide +kernel
theorem dX11_init_70 : decode cX11_init 70 = .ok (.putfield 29, 3) := by decide +kernel
theorem dX11_init_73 : decode cX11_init 73 = .ok (.aload_n 0, 1) := by decide +kernel
theorem dX11_init_74 : decode cX11_init 74 = .ok (.new 33, 3) := by decide +kernel
theorem dX11_init_77 : decode cX11_init 77 = .ok (.dup, 1) := by decide +kernel
theorem dX11_init_78 : decode cX11_init 78 = .ok (.invokespecial 35, 3) := by decide +kernel
theorem dX11_init_81 : decode cX11_init 81 = .ok (.putfield 36, 3) := by decide +kernel
theorem dX11_init_84 : decode cX11_init 84 = .ok (.aload_n 0, 1) := by decide +kernel
theorem dX11_init_85 : decode cX11_init 85 = .ok (.new 40, 3) := by decide +kernel
theorem dX11_init_88 : decode cX11_init 88 = .ok (.dup, 1) := by decide +kernel
theorem dX11_init_89 : decode cX11_init 89 = .ok (.invokespecial 42, 3) := by decide +kernel
theorem dX11_init_92 : decode cX11_init 92 = .ok (.putfield 43, 3) := by decide +kernel
theorem dX11_init_95 : decode cX11_init 95 = .ok (.aload_n 0, 1) := by decide +kernel
theorem dX11_init_96 : decode cX11_init 96 = .ok (.new 47, 3) := by decide +kernel
theorem dX11_init_99 : decode cX11_init 99 = .ok (.dup, 1) := by decide +kernel
theorem dX11_init_100 : decode cX11_init 100 = .ok (.invokespecial 49, 3) := by decide +kernel
theorem dX11_init_103 : decode cX11_init 103 = .ok (.putfield 50, 3) := by decide +kernel
theorem dX11_init_106 : decode cX11_init 106 = .ok (.aload_n 0, 1) := by decide +kernel
theorem dX11_init_107 : decode cX11_init 107 = .ok (.new 54, 3) := by decide +kernel
theorem dX11_init_110 : decode cX11_init 110 = .ok (.dup, 1) := by decide +kernel
theorem dX11_init_111 : decode cX11_init 111 = .ok (.invokespecial 56, 3) := by decide +kernel
theorem dX11_init_114 : decode cX11_init 114 = .ok (.putfield 57, 3) := by decide +kernel
theorem dX11_init_117 : decode cX11_init 117 = .ok (.return_, 1) := by decide +kernel
theorem dX11_isVariable_0 : decode cX11_isVariable 0 = .ok (.iload_n 0, 1) := by decide +kernel
theorem dX11_isVariable_1 : decode cX11_isVariable 1 = .ok (.ifCond .lt 13, 3) := by decide +kernel
theorem dX11_isVariable_4 : decode cX11_isVariable 4 = .ok (.iload_n 0, 1) := by decide +kernel
theorem dX11_isVariable_5 : decode cX11_isVariable 5 = .ok (.bipush 6, 2) := by decide +kernel
theorem dX11_isVariable_7 : decode cX11_isVariable 7 = .ok (.if_icmp .ge 7, 3) := by decide +kernel
theorem dX11_isVariable_10 : decode cX11_isVariable 10 = .ok (.iconst 1, 1) := by decide +kernel
theorem dX11_isVariable_11 : decode cX11_isVariable 11 = .ok (.goto 4, 3) := by decide +kernel
theorem dX11_isVariable_14 : decode cX11_isVariable 14 = .ok (.iconst 0, 1) := by decide +kernel
theorem dX11_isVariable_15 : decode cX11_isVariable 15 = .ok (.ireturn, 1) := by decide +kernel
theorem dX11_isWord_0 : decode cX11_isWord 0 = .ok (.iload_n 0, 1) := by decide +kernel
theorem dX11_isWord_1 : decode cX11_isWord 1 = .ok (.ifCond .lt 13, 3) := by decide +kernel
theorem dX11_isWord_4 : decode cX11_isWord 4 = .ok (.iload_n 0, 1) := by decide +kernel
theorem dX11_isWord_5 : decode cX11_isWord 5 = .ok (.bipush 16, 2) := by decide +kernel
theorem dX11_isWord_7 : decode cX11_isWord 7 = .ok (.if_icmp .ge 7, 3) := by decide +kernel
theorem dX11_isWord_10 : decode cX11_isWord 10 = .ok (.iconst 1, 1) := by decide +kernel
theorem dX11_isWord_11 : decode cX11_isWord 11 = .ok (.goto 4, 3) := by decide +kernel
theorem dX11_isWord_14 : decode cX11_isWord 14 = .ok (.iconst 0, 1) := by decide +kernel
theorem dX11_isWord_15 : decode cX11_isWord 15 = .ok (.ireturn, 1) := by decide +kernel
theorem dX11_item_0 : decode cX11_item 0 = .ok (.iload_n 2, 1) := by decide +kernel
theorem dX11_item_1 : decode cX11_item 1 = .ok (.ifCond .lt 15, 3) := by decide +kernel
theorem dX11_item_4 : decode cX11_item 4 = .ok (.iload_n 2, 1) := by decide +kernel
theorem dX11_item_5 : decode cX11_item 5 = .ok (.aload_n 0, 1) := by decide +kernel
theorem dX11_item_6 : decode cX11_item 6 = .ok (.getfield 18, 3) := by decide +kernel
theorem dX11_item_9 : decode cX11_item 9 = .ok (.if_icmp .ge 7, 3) := by decide +kernel
theorem dX11_item_16 : decode cX11_item 16 = .ok (.iconst 0, 1) := by decide +kernel
theorem dX11_item_17 : decode cX11_item 17 = .ok (.istore_n 3, 1) := by decide +kernel
theorem dX11_item_18 : decode cX11_item 18 = .ok (.iload_n 2, 1) := by decide +kernel
theorem dX11_item_19 : decode cX11_item 19 = .ok (.bipush 20, 2) := by decide +kernel
theorem dX11_item_21 : decode cX11_item 21 = .ok (.if_icmp .lt 13, 3) := by decide +kernel
theorem dX11_item_24 : decode cX11_item 24 = .ok (.iload_n 2, 1) := by decide +kernel
theorem dX11_item_25 : decode cX11_item 25 = .ok (.bipush 24, 2) := by decide +kernel
theorem dX11_item_27 : decode cX11_item 27 = .ok (.if_icmp .gt 7, 3) := by decide +kernel
theorem dX11_item_30 : decode cX11_item 30 = .ok (.iconst 1, 1) := by decide +kernel
theorem dX11_item_31 : decode cX11_item 31 = .ok (.goto 4, 3) := by decide +kernel
theorem dX11_item_34 : decode cX11_item 34 = .ok (.iconst 0, 1) := by decide +kernel
theorem dX11_item_35 : decode cX11_item 35 = .ok (.istore 4, 2) := by decide +kernel
theorem dX11_item_37 : decode cX11_item 37 = .ok (.iload_n 3, 1) := by decide +kernel
theorem dX11_item_38 : decode cX11_item 38 = .ok (.ifCond .ne 10, 3) := by decide +kernel
theorem dX11_item_41 : decode cX11_item 41 = .ok (.iload 4, 2) := by decide +kernel
theorem dX11_item_43 : decode cX11_item 43 = .ok (.ifCond .ne 5, 3) := by decide +kernel
theorem dX11_item_46 : decode cX11_item 46 = .ok (.iconst (-1), 1) := by decide +kernel
theorem dX11_item_47 : decode cX11_item 47 = .ok (.ireturn, 1) := by decide +kernel
theorem dX11_item_48 : decode cX11_item 48 = .ok (.aload_n 0, 1) := by decide +kernel
theorem dX11_item_49 : decode cX11_item 49 = .ok (.getfield 50, 3) := by decide +kernel
theorem dX11_item_52 : decode cX11_item 52 = .ok (.iload_n 1, 1) := by decide +kernel
theorem dX11_item_53 : decode cX11_item 53 = .ok (.iload_n 2, 1) := by decide +kernel
theorem dX11_item_54 : decode cX11_item 54 = .ok (.invokevirtual 191, 3) := by decide +kernel
theorem dX11_item_57 : decode cX11_item 57 = .ok (.ireturn, 1) := by decide +kernel
theorem dX11_judge_0 : decode cX11_judge 0 = .ok (.aload_n 0, 1) := by decide +kernel
theorem dX11_judge_1 : decode cX11_judge 1 = .ok (.iload_n 1, 1) := by decide +kernel
theorem dX11_judge_2 : decode cX11_judge 2 = .ok (.invokevirtual 77, 3) := by decide +kernel
theorem dX11_judge_5 : decode cX11_judge 5 = .ok (.astore 4, 2) := by decide +kernel
theorem dX11_judge_7 : decode cX11_judge 7 = .ok (.aload_n 0, 1) := by decide +kernel
theorem dX11_judge_8 : decode cX11_judge 8 = .ok (.iload_n 2, 1) := by decide +kernel
theorem dX11_judge_9 : decode cX11_judge 9 = .ok (.invokevirtual 77, 3) := by decide +kernel
theorem dX11_judge_12 : decode cX11_judge 12 = .ok (.astore 5, 2) := by decide +kernel
theorem dX11_judge_14 : decode cX11_judge 14 = .ok (.aload 4, 2) := by decide +kernel
theorem dX11_judge_16 : decode cX11_judge 16 = .ok (.ifnull 17, 3) := by decide +kernel
theorem dX11_judge_19 : decode cX11_judge 19 = .ok (.aload 5, 2) := by decide +kernel
theorem dX11_judge_21 : decode cX11_judge 21 = .ok (.ifnull 12, 3) := by decide +kernel
theorem dX11_judge_24 : decode cX11_judge 24 = .ok (.iload_n 3, 1) := by decide +kernel
theorem dX11_judge_25 : decode cX11_judge 25 = .ok (.ifCond .lt 8, 3) := by decide +kernel
theorem dX11_judge_28 : decode cX11_judge 28 = .ok (.iload_n 3, 1) := by decide +kernel
theorem dX11_judge_29 : decode cX11_judge 29 = .ok (.iconst 3, 1) := by decide +kernel
theorem dX11_judge_30 : decode cX11_judge 30 = .ok (.if_icmp .le 5, 3) := by decide +kernel
theorem dX11_judge_33 : decode cX11_judge 33 = .ok (.iconst (-1), 1) := by decide +kernel
theorem dX11_judge_34 : decode cX11_judge 34 = .ok (.ireturn, 1) := by decide +kernel
theorem dX11_judge_35 : decode cX11_judge 35 = .ok (.aload_n 0, 1) := by decide +kernel
theorem dX11_judge_36 : decode cX11_judge 36 = .ok (.getfield 50, 3) := by decide +kernel
theorem dX11_judge_39 : decode cX11_judge 39 = .ok (.getfield 143, 3) := by decide +kernel
theorem dX11_judge_42 : decode cX11_judge 42 = .ok (.astore 6, 2) := by decide +kernel
theorem dX11_judge_44 : decode cX11_judge 44 = .ok (.aload 6, 2) := by decide +kernel
theorem dX11_judge_46 : decode cX11_judge 46 = .ok (.aload 4, 2) := by decide +kernel
theorem dX11_judge_48 : decode cX11_judge 48 = .ok (.aload 5, 2) := by decide +kernel
theorem dX11_judge_50 : decode cX11_judge 50 = .ok (.iconst 0, 1) := by decide +kernel
theorem dX11_judge_51 : decode cX11_judge 51 = .ok (.invokevirtual 147, 3) := by decide +kernel
theorem dX11_judge_54 : decode cX11_judge 54 = .ok (.pop, 1) := by decide +kernel
theorem dX11_judge_55 : decode cX11_judge 55 = .ok (.iload_n 3, 1) := by decide +kernel
theorem dX11_judge_56 : decode cX11_judge 56 = .ok (.tableswitch 46 0 2 #[28, 34, 40], 28) := by decide +kernel
theorem dX11_judge_84 : decode cX11_judge 84 = .ok (.aload 6, 2) := by decide +kernel
theorem dX11_judge_86 : decode cX11_judge 86 = .ok (.invokevirtual 153, 3) := by decide +kernel
theorem dX11_judge_89 : decode cX11_judge 89 = .ok (.ireturn, 1) := by decide +kernel
theorem dX11_judge_90 : decode cX11_judge 90 = .ok (.aload 6, 2) := by decide +kernel
theorem dX11_judge_92 : decode cX11_judge 92 = .ok (.getfield 156, 3) := by decide +kernel
theorem dX11_judge_95 : decode cX11_judge 95 = .ok (.ireturn, 1) := by decide +kernel
theorem dX11_judge_96 : decode cX11_judge 96 = .ok (.aload 6, 2) := by decide +kernel
theorem dX11_judge_98 : decode cX11_judge 98 = .ok (.getfield 159, 3) := by decide +kernel
theorem dX11_judge_101 : decode cX11_judge 101 = .ok (.ireturn, 1) := by decide +kernel
theorem dX11_judge_102 : decode cX11_judge 102 = .ok (.aload 6, 2) := by decide +kernel
theorem dX11_judge_104 : decode cX11_judge 104 = .ok (.getfield 162, 3) := by decide +kernel
theorem dX11_judge_107 : decode cX11_judge 107 = .ok (.ireturn, 1) := by decide +kernel
theorem dX11_make_0 : decode cX11_make 0 = .ok (.aload_n 0, 1) := by decide +kernel
theorem dX11_make_1 : decode cX11_make 1 = .ok (.iload_n 2, 1) := by decide +kernel
theorem dX11_make_2 : decode cX11_make 2 = .ok (.invokevirtual 77, 3) := by decide +kernel
theorem dX11_make_5 : decode cX11_make 5 = .ok (.astore 4, 2) := by decide +kernel
theorem dX11_make_7 : decode cX11_make 7 = .ok (.aload_n 0, 1) := by decide +kernel
theorem dX11_make_8 : decode cX11_make 8 = .ok (.iload_n 3, 1) := by decide +kernel
theorem dX11_make_9 : decode cX11_make 9 = .ok (.invokevirtual 77, 3) := by decide +kernel
theorem dX11_make_12 : decode cX11_make 12 = .ok (.astore 5, 2) := by decide +kernel
theorem dX11_make_14 : decode cX11_make 14 = .ok (.aload 4, 2) := by decide +kernel
theorem dX11_make_16 : decode cX11_make 16 = .ok (.ifnull 21, 3) := by decide +kernel
theorem dX11_make_19 : decode cX11_make 19 = .ok (.aload 5, 2) := by decide +kernel
theorem dX11_make_21 : decode cX11_make 21 = .ok (.ifnull 16, 3) := by decide +kernel
theorem dX11_make_24 : decode cX11_make 24 = .ok (.aload_n 0, 1) := by decide +kernel
theorem dX11_make_25 : decode cX11_make 25 = .ok (.getfield 50, 3) := by decide +kernel
theorem dX11_make_28 : decode cX11_make 28 = .ok (.iload_n 1, 1) := by decide +kernel
theorem dX11_make_29 : decode cX11_make 29 = .ok (.aload 4, 2) := by decide +kernel
theorem dX11_make_31 : decode cX11_make 31 = .ok (.invokevirtual 198, 3) := by decide +kernel
theorem dX11_make_34 : decode cX11_make 34 = .ok (.ifCond .ne 5, 3) := by decide +kernel
theorem dX11_make_37 : decode cX11_make 37 = .ok (.iconst (-1), 1) := by decide +kernel
theorem dX11_make_38 : decode cX11_make 38 = .ok (.ireturn, 1) := by decide +kernel
theorem dX11_make_39 : decode cX11_make 39 = .ok (.aload 5, 2) := by decide +kernel
theorem dX11_make_41 : decode cX11_make 41 = .ok (.aload_n 0, 1) := by decide +kernel
theorem dX11_make_42 : decode cX11_make 42 = .ok (.getfield 50, 3) := by decide +kernel
theorem dX11_make_45 : decode cX11_make 45 = .ok (.getfield 202, 3) := by decide +kernel
theorem dX11_make_48 : decode cX11_make 48 = .ok (.invokevirtual 92, 3) := by decide +kernel
theorem dX11_make_51 : decode cX11_make 51 = .ok (.aload 5, 2) := by decide +kernel
theorem dX11_make_53 : decode cX11_make 53 = .ok (.invokevirtual 95, 3) := by decide +kernel
theorem dX11_make_56 : decode cX11_make 56 = .ok (.ireturn, 1) := by decide +kernel
theorem dX11_places_0 : decode cX11_places 0 = .ok (.aload_n 0, 1) := by decide +kernel
theorem dX11_places_1 : decode cX11_places 1 = .ok (.iload_n 1, 1) := by decide +kernel
theorem dX11_places_2 : decode cX11_places 2 = .ok (.invokevirtual 165, 3) := by decide +kernel
theorem dX11_places_5 : decode cX11_places 5 = .ok (.astore_n 3, 1) := by decide +kernel
theorem dX11_places_6 : decode cX11_places 6 = .ok (.aload_n 0, 1) := by decide +kernel
theorem dX11_places_7 : decode cX11_places 7 = .ok (.iload_n 2, 1) := by decide +kernel
theorem dX11_places_8 : decode cX11_places 8 = .ok (.invokevirtual 77, 3) := by decide +kernel
theorem dX11_places_11 : decode cX11_places 11 = .ok (.astore 4, 2) := by decide +kernel
theorem dX11_places_13 : decode cX11_places 13 = .ok (.aload_n 3, 1) := by decide +kernel
theorem dX11_places_14 : decode cX11_places 14 = .ok (.ifnull 8, 3) := by decide +kernel
theorem dX11_places_22 : decode cX11_places 22 = .ok (.iconst (-1), 1) := by decide +kernel
theorem dX11_places_23 : decode cX11_places 23 = .ok (.goto 9, 3) := by decide +kernel
theorem dX11_places_32 : decode cX11_places 32 = .ok (.ireturn, 1) := by decide +kernel
theorem dX11_program_0 : decode cX11_program 0 = .ok (.aload_n 0, 1) := by decide +kernel
theorem dX11_program_1 : decode cX11_program 1 = .ok (.iload_n 1, 1) := by decide +kernel
theorem dX11_program_2 : decode cX11_program 2 = .ok (.invokevirtual 77, 3) := by decide +kernel
theorem dX11_program_5 : decode cX11_program 5 = .ok (.astore_n 2, 1) := by decide +kernel
theorem dX11_program_6 : decode cX11_program 6 = .ok (.aload_n 2, 1) := by decide +kernel
theorem dX11_program_7 : decode cX11_program 7 = .ok (.ifnonnull 12, 3) := by decide +kernel
theorem dX11_program_10 : decode cX11_program 10 = .ok (.aload_n 0, 1) := by decide +kernel
theorem dX11_program_11 : decode cX11_program 11 = .ok (.getfield 29, 3) := by decide +kernel
theorem dX11_program_14 : decode cX11_program 14 = .ok (.invokevirtual 81, 3) := by decide +kernel
theorem dX11_program_17 : decode cX11_program 17 = .ok (.iconst (-1), 1) := by decide +kernel
theorem dX11_program_18 : decode cX11_program 18 = .ok (.ireturn, 1) := by decide +kernel
theorem dX11_program_19 : decode cX11_program 19 = .ok (.aload_n 0, 1) := by decide +kernel
theorem dX11_program_20 : decode cX11_program 20 = .ok (.getfield 29, 3) := by decide +kernel
theorem dX11_program_23 : decode cX11_program 23 = .ok (.aload_n 0, 1) := by decide +kernel
theorem dX11_program_24 : decode cX11_program 24 = .ok (.getfield 22, 3) := by decide +kernel
theorem dX11_program_27 : decode cX11_program 27 = .ok (.invokevirtual 84, 3) := by decide +kernel
theorem dX11_program_30 : decode cX11_program 30 = .ok (.aload_n 0, 1) := by decide +kernel
theorem dX11_program_31 : decode cX11_program 31 = .ok (.getfield 29, 3) := by decide +kernel
theorem dX11_program_34 : decode cX11_program 34 = .ok (.invokevirtual 88, 3) := by decide +kernel
theorem dX11_program_37 : decode cX11_program 37 = .ok (.ifCond .ne 5, 3) := by decide +kernel
theorem dX11_program_42 : decode cX11_program 42 = .ok (.aload_n 2, 1) := by decide +kernel
theorem dX11_program_43 : decode cX11_program 43 = .ok (.aload_n 0, 1) := by decide +kernel
theorem dX11_program_44 : decode cX11_program 44 = .ok (.getfield 22, 3) := by decide +kernel
theorem dX11_program_47 : decode cX11_program 47 = .ok (.invokevirtual 92, 3) := by decide +kernel
theorem dX11_program_50 : decode cX11_program 50 = .ok (.aload_n 2, 1) := by decide +kernel
theorem dX11_program_51 : decode cX11_program 51 = .ok (.invokevirtual 95, 3) := by decide +kernel
theorem dX11_program_54 : decode cX11_program 54 = .ok (.ireturn, 1) := by decide +kernel
theorem dX11_registers_0 : decode cX11_registers 0 = .ok (.aload_n 0, 1) := by decide +kernel
theorem dX11_registers_1 : decode cX11_registers 1 = .ok (.iload_n 1, 1) := by decide +kernel
theorem dX11_registers_2 : decode cX11_registers 2 = .ok (.invokevirtual 77, 3) := by decide +kernel
theorem dX11_registers_5 : decode cX11_registers 5 = .ok (.astore_n 3, 1) := by decide +kernel
theorem dX11_registers_6 : decode cX11_registers 6 = .ok (.aload_n 3, 1) := by decide +kernel
theorem dX11_registers_7 : decode cX11_registers 7 = .ok (.ifnonnull 5, 3) := by decide +kernel
theorem dX11_registers_10 : decode cX11_registers 10 = .ok (.iconst (-1), 1) := by decide +kernel
theorem dX11_registers_11 : decode cX11_registers 11 = .ok (.ireturn, 1) := by decide +kernel
theorem dX11_registers_12 : decode cX11_registers 12 = .ok (.aload_n 0, 1) := by decide +kernel
theorem dX11_registers_13 : decode cX11_registers 13 = .ok (.getfield 57, 3) := by decide +kernel
theorem dX11_registers_16 : decode cX11_registers 16 = .ok (.aload_n 3, 1) := by decide +kernel
theorem dX11_registers_17 : decode cX11_registers 17 = .ok (.invokevirtual 220, 3) := by decide +kernel
theorem dX11_registers_20 : decode cX11_registers 20 = .ok (.iload_n 2, 1) := by decide +kernel
theorem dX11_registers_21 : decode cX11_registers 21 = .ok (.ifCond .ne 11, 3) := by decide +kernel
theorem dX11_registers_24 : decode cX11_registers 24 = .ok (.aload_n 0, 1) := by decide +kernel
theorem dX11_registers_25 : decode cX11_registers 25 = .ok (.getfield 57, 3) := by decide +kernel
theorem dX11_registers_28 : decode cX11_registers 28 = .ok (.invokevirtual 223, 3) := by decide +kernel
theorem dX11_registers_31 : decode cX11_registers 31 = .ok (.ireturn, 1) := by decide +kernel
theorem dX11_registers_32 : decode cX11_registers 32 = .ok (.iload_n 2, 1) := by decide +kernel
theorem dX11_registers_33 : decode cX11_registers 33 = .ok (.bipush 10, 2) := by decide +kernel
theorem dX11_registers_35 : decode cX11_registers 35 = .ok (.if_icmp .lt 21, 3) := by decide +kernel
theorem dX11_registers_38 : decode cX11_registers 38 = .ok (.iload_n 2, 1) := by decide +kernel
theorem dX11_registers_39 : decode cX11_registers 39 = .ok (.bipush 16, 2) := by decide +kernel
theorem dX11_registers_41 : decode cX11_registers 41 = .ok (.if_icmp .ge 15, 3) := by decide +kernel
theorem dX11_registers_44 : decode cX11_registers 44 = .ok (.aload_n 0, 1) := by decide +kernel
theorem dX11_registers_45 : decode cX11_registers 45 = .ok (.getfield 57, 3) := by decide +kernel
theorem dX11_registers_48 : decode cX11_registers 48 = .ok (.iload_n 2, 1) := by decide +kernel
theorem dX11_registers_49 : decode cX11_registers 49 = .ok (.bipush 10, 2) := by decide +kernel
theorem dX11_registers_51 : decode cX11_registers 51 = .ok (.isub, 1) := by decide +kernel
theorem dX11_registers_52 : decode cX11_registers 52 = .ok (.invokevirtual 226, 3) := by decide +kernel
theorem dX11_registers_55 : decode cX11_registers 55 = .ok (.ireturn, 1) := by decide +kernel
theorem dX11_registers_56 : decode cX11_registers 56 = .ok (.iload_n 2, 1) := by decide +kernel
theorem dX11_registers_57 : decode cX11_registers 57 = .ok (.bipush 20, 2) := by decide +kernel
theorem dX11_registers_59 : decode cX11_registers 59 = .ok (.if_icmp .lt 23, 3) := by decide +kernel
theorem dX11_registers_62 : decode cX11_registers 62 = .ok (.iload_n 2, 1) := by decide +kernel
theorem dX11_registers_63 : decode cX11_registers 63 = .ok (.bipush 26, 2) := by decide +kernel
theorem dX11_registers_65 : decode cX11_registers 65 = .ok (.if_icmp .gt 17, 3) := by decide +kernel
theorem dX11_registers_68 : decode cX11_registers 68 = .ok (.aload_n 0, 1) := by decide +kernel
theorem dX11_registers_69 : decode cX11_registers 69 = .ok (.getfield 57, 3) := by decide +kernel
theorem dX11_registers_72 : decode cX11_registers 72 = .ok (.iload_n 2, 1) := by decide +kernel
theorem dX11_registers_73 : decode cX11_registers 73 = .ok (.bipush 20, 2) := by decide +kernel
theorem dX11_registers_75 : decode cX11_registers 75 = .ok (.isub, 1) := by decide +kernel
theorem dX11_registers_76 : decode cX11_registers 76 = .ok (.invokevirtual 229, 3) := by decide +kernel
theorem dX11_registers_79 : decode cX11_registers 79 = .ok (.goto 4, 3) := by decide +kernel
theorem dX11_registers_82 : decode cX11_registers 82 = .ok (.iconst (-1), 1) := by decide +kernel
theorem dX11_registers_83 : decode cX11_registers 83 = .ok (.ireturn, 1) := by decide +kernel
theorem dX11_rule_0 : decode cX11_rule 0 = .ok (.aload_n 0, 1) := by decide +kernel
theorem dX11_rule_1 : decode cX11_rule 1 = .ok (.getfield 50, 3) := by decide +kernel
theorem dX11_rule_4 : decode cX11_rule 4 = .ok (.aload_n 0, 1) := by decide +kernel
theorem dX11_rule_5 : decode cX11_rule 5 = .ok (.getfield 18, 3) := by decide +kernel
theorem dX11_rule_8 : decode cX11_rule 8 = .ok (.invokevirtual 99, 3) := by decide +kernel
theorem dX11_rule_11 : decode cX11_rule 11 = .ok (.astore_n 1, 1) := by decide +kernel
theorem dX11_rule_12 : decode cX11_rule 12 = .ok (.aload_n 1, 1) := by decide +kernel
theorem dX11_rule_13 : decode cX11_rule 13 = .ok (.ifnonnull 12, 3) := by decide +kernel
theorem dX11_rule_25 : decode cX11_rule 25 = .ok (.aload_n 0, 1) := by decide +kernel
theorem dX11_rule_26 : decode cX11_rule 26 = .ok (.getfield 29, 3) := by decide +kernel
theorem dX11_rule_29 : decode cX11_rule 29 = .ok (.aload_n 1, 1) := by decide +kernel
theorem dX11_rule_30 : decode cX11_rule 30 = .ok (.invokevirtual 103, 3) := by decide +kernel
theorem dX11_rule_33 : decode cX11_rule 33 = .ok (.aload_n 0, 1) := by decide +kernel
theorem dX11_rule_34 : decode cX11_rule 34 = .ok (.getfield 29, 3) := by decide +kernel
theorem dX11_rule_37 : decode cX11_rule 37 = .ok (.invokevirtual 88, 3) := by decide +kernel
theorem dX11_rule_40 : decode cX11_rule 40 = .ok (.ifCond .ne 5, 3) := by decide +kernel
theorem dX11_rule_43 : decode cX11_rule 43 = .ok (.iconst (-1), 1) := by decide +kernel
theorem dX11_rule_44 : decode cX11_rule 44 = .ok (.ireturn, 1) := by decide +kernel
theorem dX11_ruleAt_0 : decode cX11_ruleAt 0 = .ok (.iload_n 1, 1) := by decide +kernel
theorem dX11_ruleAt_1 : decode cX11_ruleAt 1 = .ok (.aload_n 0, 1) := by decide +kernel
theorem dX11_ruleAt_2 : decode cX11_ruleAt 2 = .ok (.getfield 18, 3) := by decide +kernel
theorem dX11_ruleAt_5 : decode cX11_ruleAt 5 = .ok (.if_icmp .ge 14, 3) := by decide +kernel
theorem dX11_ruleAt_8 : decode cX11_ruleAt 8 = .ok (.aload_n 0, 1) := by decide +kernel
theorem dX11_ruleAt_9 : decode cX11_ruleAt 9 = .ok (.getfield 50, 3) := by decide +kernel
theorem dX11_ruleAt_12 : decode cX11_ruleAt 12 = .ok (.iload_n 1, 1) := by decide +kernel
theorem dX11_ruleAt_13 : decode cX11_ruleAt 13 = .ok (.invokevirtual 99, 3) := by decide +kernel
theorem dX11_ruleAt_16 : decode cX11_ruleAt 16 = .ok (.goto 4, 3) := by decide +kernel
theorem dX11_ruleAt_19 : decode cX11_ruleAt 19 = .ok (.aconst_null, 1) := by decide +kernel
theorem dX11_ruleAt_20 : decode cX11_ruleAt 20 = .ok (.areturn, 1) := by decide +kernel
theorem dX11_ruleOf_0 : decode cX11_ruleOf 0 = .ok (.aload_n 0, 1) := by decide +kernel
theorem dX11_ruleOf_1 : decode cX11_ruleOf 1 = .ok (.iload_n 1, 1) := by decide +kernel
theorem dX11_ruleOf_2 : decode cX11_ruleOf 2 = .ok (.invokevirtual 165, 3) := by decide +kernel
theorem dX11_ruleOf_5 : decode cX11_ruleOf 5 = .ok (.astore_n 3, 1) := by decide +kernel
theorem dX11_ruleOf_6 : decode cX11_ruleOf 6 = .ok (.aload_n 3, 1) := by decide +kernel
theorem dX11_ruleOf_7 : decode cX11_ruleOf 7 = .ok (.ifnonnull 6, 3) := by decide +kernel
theorem dX11_ruleOf_10 : decode cX11_ruleOf 10 = .ok (.bipush (-2), 2) := by decide +kernel
theorem dX11_ruleOf_12 : decode cX11_ruleOf 12 = .ok (.ireturn, 1) := by decide +kernel
theorem dX11_run_0 : decode cX11_run 0 = .ok (.aload_n 0, 1) := by decide +kernel
theorem dX11_run_1 : decode cX11_run 1 = .ok (.iload_n 1, 1) := by decide +kernel
theorem dX11_run_2 : decode cX11_run 2 = .ok (.invokevirtual 77, 3) := by decide +kernel
theorem dX11_run_5 : decode cX11_run 5 = .ok (.astore 5, 2) := by decide +kernel
theorem dX11_run_7 : decode cX11_run 7 = .ok (.aload 5, 2) := by decide +kernel
theorem dX11_run_9 : decode cX11_run 9 = .ok (.ifnull 17, 3) := by decide +kernel
theorem dX11_run_12 : decode cX11_run 12 = .ok (.iload_n 2, 1) := by decide +kernel
theorem dX11_run_13 : decode cX11_run 13 = .ok (.invokestatic 133, 3) := by decide +kernel
theorem dX11_run_16 : decode cX11_run 16 = .ok (.ifCond .eq 10, 3) := by decide +kernel
theorem dX11_run_19 : decode cX11_run 19 = .ok (.iload_n 3, 1) := by decide +kernel
theorem dX11_run_20 : decode cX11_run 20 = .ok (.invokestatic 133, 3) := by decide +kernel
theorem dX11_run_23 : decode cX11_run 23 = .ok (.ifCond .ne 5, 3) := by decide +kernel
theorem dX11_run_26 : decode cX11_run 26 = .ok (.iconst (-1), 1) := by decide +kernel
theorem dX11_run_27 : decode cX11_run 27 = .ok (.ireturn, 1) := by decide +kernel
theorem dX11_run_28 : decode cX11_run 28 = .ok (.aload_n 0, 1) := by decide +kernel
theorem dX11_run_29 : decode cX11_run 29 = .ok (.getfield 36, 3) := by decide +kernel
theorem dX11_run_32 : decode cX11_run 32 = .ok (.getfield 121, 3) := by decide +kernel
theorem dX11_run_35 : decode cX11_run 35 = .ok (.aload 5, 2) := by decide +kernel
theorem dX11_run_37 : decode cX11_run 37 = .ok (.invokevirtual 125, 3) := by decide +kernel
theorem dX11_run_40 : decode cX11_run 40 = .ok (.aload_n 0, 1) := by decide +kernel
theorem dX11_run_41 : decode cX11_run 41 = .ok (.getfield 36, 3) := by decide +kernel
theorem dX11_run_44 : decode cX11_run 44 = .ok (.iload_n 2, 1) := by decide +kernel
theorem dX11_run_45 : decode cX11_run 45 = .ok (.iload_n 3, 1) := by decide +kernel
theorem dX11_run_46 : decode cX11_run 46 = .ok (.invokevirtual 136, 3) := by decide +kernel
theorem dX11_run_49 : decode cX11_run 49 = .ok (.aload_n 0, 1) := by decide +kernel
theorem dX11_run_50 : decode cX11_run 50 = .ok (.getfield 36, 3) := by decide +kernel
theorem dX11_run_53 : decode cX11_run 53 = .ok (.iload 4, 2) := by decide +kernel
theorem dX11_run_55 : decode cX11_run 55 = .ok (.invokevirtual 140, 3) := by decide +kernel
theorem dX11_run_58 : decode cX11_run 58 = .ok (.ireturn, 1) := by decide +kernel
theorem dX11_size_0 : decode cX11_size 0 = .ok (.aload_n 0, 1) := by decide +kernel
theorem dX11_size_1 : decode cX11_size 1 = .ok (.iload_n 1, 1) := by decide +kernel
theorem dX11_size_2 : decode cX11_size 2 = .ok (.invokevirtual 77, 3) := by decide +kernel
theorem dX11_size_5 : decode cX11_size 5 = .ok (.astore_n 3, 1) := by decide +kernel
theorem dX11_size_6 : decode cX11_size 6 = .ok (.aload_n 3, 1) := by decide +kernel
theorem dX11_size_7 : decode cX11_size 7 = .ok (.ifnonnull 5, 3) := by decide +kernel
theorem dX11_size_10 : decode cX11_size 10 = .ok (.iconst (-1), 1) := by decide +kernel
theorem dX11_size_11 : decode cX11_size 11 = .ok (.ireturn, 1) := by decide +kernel
theorem dX11_size_12 : decode cX11_size 12 = .ok (.iload_n 2, 1) := by decide +kernel
theorem dX11_size_13 : decode cX11_size 13 = .ok (.tableswitch 69 0 3 #[31, 36, 41, 46], 31) := by decide +kernel
theorem dX11_size_44 : decode cX11_size 44 = .ok (.aload_n 3, 1) := by decide +kernel
theorem dX11_size_45 : decode cX11_size 45 = .ok (.invokevirtual 95, 3) := by decide +kernel
theorem dX11_size_48 : decode cX11_size 48 = .ok (.ireturn, 1) := by decide +kernel
theorem dX11_size_49 : decode cX11_size 49 = .ok (.aload_n 3, 1) := by decide +kernel
theorem dX11_size_50 : decode cX11_size 50 = .ok (.invokevirtual 117, 3) := by decide +kernel
theorem dX11_size_53 : decode cX11_size 53 = .ok (.ireturn, 1) := by decide +kernel
theorem dX11_size_54 : decode cX11_size 54 = .ok (.aload_n 3, 1) := by decide +kernel
theorem dX11_size_55 : decode cX11_size 55 = .ok (.getfield 120, 3) := by decide +kernel
theorem dX11_size_58 : decode cX11_size 58 = .ok (.ireturn, 1) := by decide +kernel
theorem dX11_size_59 : decode cX11_size 59 = .ok (.aload_n 0, 1) := by decide +kernel
theorem dX11_size_60 : decode cX11_size 60 = .ok (.getfield 36, 3) := by decide +kernel
theorem dX11_size_63 : decode cX11_size 63 = .ok (.getfield 121, 3) := by decide +kernel
theorem dX11_size_66 : decode cX11_size 66 = .ok (.aload_n 3, 1) := by decide +kernel
theorem dX11_size_67 : decode cX11_size 67 = .ok (.invokevirtual 125, 3) := by decide +kernel
theorem dX11_size_70 : decode cX11_size 70 = .ok (.aload_n 0, 1) := by decide +kernel
theorem dX11_size_71 : decode cX11_size 71 = .ok (.getfield 36, 3) := by decide +kernel
theorem dX11_size_74 : decode cX11_size 74 = .ok (.getfield 121, 3) := by decide +kernel
theorem dX11_size_77 : decode cX11_size 77 = .ok (.iconst 0, 1) := by decide +kernel
theorem dX11_size_78 : decode cX11_size 78 = .ok (.invokevirtual 130, 3) := by decide +kernel
theorem dX11_size_81 : decode cX11_size 81 = .ok (.ireturn, 1) := by decide +kernel
theorem dX11_size_82 : decode cX11_size 82 = .ok (.iconst (-1), 1) := by decide +kernel
theorem dX11_size_83 : decode cX11_size 83 = .ok (.ireturn, 1) := by decide +kernel
theorem dX11_slotAt_0 : decode cX11_slotAt 0 = .ok (.iload_n 1, 1) := by decide +kernel
theorem dX11_slotAt_1 : decode cX11_slotAt 1 = .ok (.ifCond .lt 21, 3) := by decide +kernel
theorem dX11_slotAt_4 : decode cX11_slotAt 4 = .ok (.iload_n 1, 1) := by decide +kernel
theorem dX11_slotAt_5 : decode cX11_slotAt 5 = .ok (.aload_n 0, 1) := by decide +kernel
theorem dX11_slotAt_6 : decode cX11_slotAt 6 = .ok (.getfield 11, 3) := by decide +kernel
theorem dX11_slotAt_9 : decode cX11_slotAt 9 = .ok (.arraylength, 1) := by decide +kernel
theorem dX11_slotAt_10 : decode cX11_slotAt 10 = .ok (.if_icmp .ge 12, 3) := by decide +kernel
theorem dX11_slotAt_13 : decode cX11_slotAt 13 = .ok (.aload_n 0, 1) := by decide +kernel
theorem dX11_slotAt_14 : decode cX11_slotAt 14 = .ok (.getfield 11, 3) := by decide +kernel
theorem dX11_slotAt_17 : decode cX11_slotAt 17 = .ok (.iload_n 1, 1) := by decide +kernel
theorem dX11_slotAt_18 : decode cX11_slotAt 18 = .ok (.aaload, 1) := by decide +kernel
theorem dX11_slotAt_19 : decode cX11_slotAt 19 = .ok (.goto 4, 3) := by decide +kernel
theorem dX11_slotAt_22 : decode cX11_slotAt 22 = .ok (.aconst_null, 1) := by decide +kernel
theorem dX11_slotAt_23 : decode cX11_slotAt 23 = .ok (.areturn, 1) := by decide +kernel
theorem dX12_apply_0 : decode cX12_apply 0 = .ok (.iload_n 1, 1) := by decide +kernel
theorem dX12_apply_1 : decode cX12_apply 1 = .ok (.iconst 0, 1) := by decide +kernel
theorem dX12_apply_2 : decode cX12_apply 2 = .ok (.aload_n 0, 1) := by decide +kernel
theorem dX12_apply_3 : decode cX12_apply 3 = .ok (.getfield 268, 3) := by decide +kernel
theorem dX12_apply_6 : decode cX12_apply 6 = .ok (.iconst 1, 1) := by decide +kernel
theorem dX12_apply_7 : decode cX12_apply 7 = .ok (.isub, 1) := by decide +kernel
theorem dX12_apply_8 : decode cX12_apply 8 = .ok (.invokestatic 90, 3) := by decide +kernel
theorem dX12_apply_11 : decode cX12_apply 11 = .ok (.ifCond .eq 22, 3) := by decide +kernel
theorem dX12_apply_33 : decode cX12_apply 33 = .ok (.iconst 0, 1) := by decide +kernel
theorem dX12_apply_34 : decode cX12_apply 34 = .ok (.ireturn, 1) := by decide +kernel
theorem dX12_at_0 : decode cX12_at 0 = .ok (.iload_n 1, 1) := by decide +kernel
theorem dX12_at_1 : decode cX12_at 1 = .ok (.invokestatic 249, 3) := by decide +kernel
theorem dX12_at_4 : decode cX12_at 4 = .ok (.ifCond .eq 34, 3) := by decide +kernel
theorem dX12_at_7 : decode cX12_at 7 = .ok (.iload_n 2, 1) := by decide +kernel
theorem dX12_at_8 : decode cX12_at 8 = .ok (.iconst 0, 1) := by decide +kernel
theorem dX12_at_9 : decode cX12_at 9 = .ok (.aload_n 0, 1) := by decide +kernel
theorem dX12_at_10 : decode cX12_at 10 = .ok (.getfield 13, 3) := by decide +kernel
theorem dX12_at_13 : decode cX12_at 13 = .ok (.iload_n 1, 1) := by decide +kernel
theorem dX12_at_14 : decode cX12_at 14 = .ok (.iaload, 1) := by decide +kernel
theorem dX12_at_15 : decode cX12_at 15 = .ok (.iconst 1, 1) := by decide +kernel
theorem dX12_at_16 : decode cX12_at 16 = .ok (.isub, 1) := by decide +kernel
theorem dX12_at_17 : decode cX12_at 17 = .ok (.invokestatic 90, 3) := by decide +kernel
theorem dX12_at_20 : decode cX12_at 20 = .ok (.ifCond .eq 18, 3) := by decide +kernel
theorem dX12_at_38 : decode cX12_at 38 = .ok (.iconst (-1), 1) := by decide +kernel
theorem dX12_at_39 : decode cX12_at 39 = .ok (.ireturn, 1) := by decide +kernel
theorem dX12_bad_0 : decode cX12_bad 0 = .ok (.aload_n 0, 1) := by decide +kernel
theorem dX12_bad_1 : decode cX12_bad 1 = .ok (.iload_n 1, 1) := by decide +kernel
theorem dX12_bad_2 : decode cX12_bad 2 = .ok (.putfield 179, 3) := by decide +kernel
theorem dX12_bad_5 : decode cX12_bad 5 = .ok (.aload_n 0, 1) := by decide +kernel
theorem dX12_bad_6 : decode cX12_bad 6 = .ok (.aload_n 0, 1) := by decide +kernel
theorem dX12_bad_7 : decode cX12_bad 7 = .ok (.getfield 130, 3) := by decide +kernel
theorem dX12_bad_10 : decode cX12_bad 10 = .ok (.putfield 182, 3) := by decide +kernel
theorem dX12_bad_13 : decode cX12_bad 13 = .ok (.iconst 0, 1) := by decide +kernel
theorem dX12_bad_14 : decode cX12_bad 14 = .ok (.ireturn, 1) := by decide +kernel
theorem dX12_begins_0 : decode cX12_begins 0 = .ok (.aload_n 0, 1) := by decide +kernel
theorem dX12_begins_1 : decode cX12_begins 1 = .ok (.iload_n 1, 1) := by decide +kernel
theorem dX12_begins_2 : decode cX12_begins 2 = .ok (.putfield 143, 3) := by decide +kernel
theorem dX12_begins_5 : decode cX12_begins 5 = .ok (.aload_n 0, 1) := by decide +kernel
theorem dX12_begins_6 : decode cX12_begins 6 = .ok (.iconst 0, 1) := by decide +kernel
theorem dX12_begins_7 : decode cX12_begins 7 = .ok (.putfield 225, 3) := by decide +kernel
theorem dX12_begins_10 : decode cX12_begins 10 = .ok (.aload_n 0, 1) := by decide +kernel
theorem dX12_begins_11 : decode cX12_begins 11 = .ok (.iload_n 2, 1) := by decide +kernel
theorem dX12_begins_12 : decode cX12_begins 12 = .ok (.putfield 200, 3) := by decide +kernel
theorem dX12_begins_15 : decode cX12_begins 15 = .ok (.aload_n 0, 1) := by decide +kernel
theorem dX12_begins_16 : decode cX12_begins 16 = .ok (.iconst 0, 1) := by decide +kernel
theorem dX12_begins_17 : decode cX12_begins 17 = .ok (.putfield 179, 3) := by decide +kernel
theorem dX12_begins_20 : decode cX12_begins 20 = .ok (.aload_n 0, 1) := by decide +kernel
theorem dX12_begins_21 : decode cX12_begins 21 = .ok (.iconst (-1), 1) := by decide +kernel
theorem dX12_begins_22 : decode cX12_begins 22 = .ok (.putfield 182, 3) := by decide +kernel
theorem dX12_begins_25 : decode cX12_begins 25 = .ok (.aload_n 0, 1) := by decide +kernel
theorem dX12_begins_26 : decode cX12_begins 26 = .ok (.iconst 0, 1) := by decide +kernel
theorem dX12_begins_27 : decode cX12_begins 27 = .ok (.putfield 127, 3) := by decide +kernel
theorem dX12_begins_30 : decode cX12_begins 30 = .ok (.aload_n 0, 1) := by decide +kernel
theorem dX12_begins_31 : decode cX12_begins 31 = .ok (.iconst 0, 1) := by decide +kernel
theorem dX12_begins_32 : decode cX12_begins 32 = .ok (.putfield 191, 3) := by decide +kernel
theorem dX12_begins_35 : decode cX12_begins 35 = .ok (.aload_n 0, 1) := by decide +kernel
theorem dX12_begins_36 : decode cX12_begins 36 = .ok (.iconst 0, 1) := by decide +kernel
theorem dX12_begins_37 : decode cX12_begins 37 = .ok (.putfield 197, 3) := by decide +kernel
theorem dX12_begins_40 : decode cX12_begins 40 = .ok (.aload_n 0, 1) := by decide +kernel
theorem dX12_begins_41 : decode cX12_begins 41 = .ok (.iconst 0, 1) := by decide +kernel
theorem dX12_begins_42 : decode cX12_begins 42 = .ok (.putfield 237, 3) := by decide +kernel
theorem dX12_begins_45 : decode cX12_begins 45 = .ok (.aload_n 0, 1) := by decide +kernel
theorem dX12_begins_46 : decode cX12_begins 46 = .ok (.iconst 0, 1) := by decide +kernel
theorem dX12_begins_47 : decode cX12_begins 47 = .ok (.putfield 228, 3) := by decide +kernel
theorem dX12_begins_50 : decode cX12_begins 50 = .ok (.aload_n 0, 1) := by decide +kernel
theorem dX12_begins_51 : decode cX12_begins 51 = .ok (.iconst 0, 1) := by decide +kernel
theorem dX12_begins_52 : decode cX12_begins 52 = .ok (.putfield 117, 3) := by decide +kernel
theorem dX12_begins_55 : decode cX12_begins 55 = .ok (.aload_n 0, 1) := by decide +kernel
theorem dX12_begins_56 : decode cX12_begins 56 = .ok (.invokevirtual 188, 3) := by decide +kernel
theorem dX12_begins_59 : decode cX12_begins 59 = .ok (.return_, 1) := by decide +kernel
theorem dX12_blame_0 : decode cX12_blame 0 = .ok (.iload_n 1, 1) := by decide +kernel
theorem dX12_blame_1 : decode cX12_blame 1 = .ok (.invokestatic 249, 3) := by decide +kernel
theorem dX12_blame_4 : decode cX12_blame 4 = .ok (.ifCond .eq 12, 3) := by decide +kernel
theorem dX12_blame_7 : decode cX12_blame 7 = .ok (.iload_n 2, 1) := by decide +kernel
theorem dX12_blame_8 : decode cX12_blame 8 = .ok (.iconst 0, 1) := by decide +kernel
theorem dX12_blame_9 : decode cX12_blame 9 = .ok (.iconst 1, 1) := by decide +kernel
theorem dX12_blame_10 : decode cX12_blame 10 = .ok (.invokestatic 90, 3) := by decide +kernel
theorem dX12_blame_13 : decode cX12_blame 13 = .ok (.ifCond .ne 5, 3) := by decide +kernel
theorem dX12_blame_16 : decode cX12_blame 16 = .ok (.iconst (-1), 1) := by decide +kernel
theorem dX12_blame_17 : decode cX12_blame 17 = .ok (.ireturn, 1) := by decide +kernel
theorem dX12_blame_18 : decode cX12_blame 18 = .ok (.aload_n 0, 1) := by decide +kernel
theorem dX12_blame_19 : decode cX12_blame 19 = .ok (.iload_n 1, 1) := by decide +kernel
theorem dX12_blame_20 : decode cX12_blame 20 = .ok (.invokevirtual 271, 3) := by decide +kernel
theorem dX12_blame_23 : decode cX12_blame 23 = .ok (.iconst 0, 1) := by decide +kernel
theorem dX12_blame_24 : decode cX12_blame 24 = .ok (.istore_n 3, 1) := by decide +kernel
theorem dX12_blame_25 : decode cX12_blame 25 = .ok (.iload_n 3, 1) := by decide +kernel
theorem dX12_blame_26 : decode cX12_blame 26 = .ok (.bipush 6, 2) := by decide +kernel
theorem dX12_blame_28 : decode cX12_blame 28 = .ok (.if_icmp .ge 68, 3) := by decide +kernel
theorem dX12_blame_31 : decode cX12_blame 31 = .ok (.aload_n 0, 1) := by decide +kernel
theorem dX12_blame_32 : decode cX12_blame 32 = .ok (.getfield 75, 3) := by decide +kernel
theorem dX12_blame_35 : decode cX12_blame 35 = .ok (.iload_n 3, 1) := by decide +kernel
theorem dX12_blame_36 : decode cX12_blame 36 = .ok (.iaload, 1) := by decide +kernel
theorem dX12_blame_37 : decode cX12_blame 37 = .ok (.ifCond .ne 6, 3) := by decide +kernel
theorem dX12_blame_40 : decode cX12_blame 40 = .ok (.goto 50, 3) := by decide +kernel
theorem dX12_blame_90 : decode cX12_blame 90 = .ok (.iinc 3 1, 3) := by decide +kernel
theorem dX12_blame_93 : decode cX12_blame 93 = .ok (.goto (-68), 3) := by decide +kernel
theorem dX12_blame_96 : decode cX12_blame 96 = .ok (.iconst (-1), 1) := by decide +kernel
theorem dX12_blame_97 : decode cX12_blame 97 = .ok (.ireturn, 1) := by decide +kernel
theorem dX12_clash_0 : decode cX12_clash 0 = .ok (.iload_n 1, 1) := by decide +kernel
theorem dX12_clash_1 : decode cX12_clash 1 = .ok (.invokestatic 249, 3) := by decide +kernel
theorem dX12_clash_4 : decode cX12_clash 4 = .ok (.ifCond .eq 26, 3) := by decide +kernel
theorem dX12_clash_7 : decode cX12_clash 7 = .ok (.iload_n 2, 1) := by decide +kernel
theorem dX12_clash_8 : decode cX12_clash 8 = .ok (.iconst 0, 1) := by decide +kernel
theorem dX12_clash_9 : decode cX12_clash 9 = .ok (.iconst 5, 1) := by decide +kernel
theorem dX12_clash_10 : decode cX12_clash 10 = .ok (.invokestatic 90, 3) := by decide +kernel
theorem dX12_clash_13 : decode cX12_clash 13 = .ok (.ifCond .eq 17, 3) := by decide +kernel
theorem dX12_clash_16 : decode cX12_clash 16 = .ok (.iload_n 3, 1) := by decide +kernel
theorem dX12_clash_17 : decode cX12_clash 17 = .ok (.iconst 0, 1) := by decide +kernel
theorem dX12_clash_18 : decode cX12_clash 18 = .ok (.iconst 5, 1) := by decide +kernel
theorem dX12_clash_19 : decode cX12_clash 19 = .ok (.invokestatic 90, 3) := by decide +kernel
theorem dX12_clash_22 : decode cX12_clash 22 = .ok (.ifCond .eq 8, 3) := by decide +kernel
theorem dX12_clash_25 : decode cX12_clash 25 = .ok (.iload_n 2, 1) := by decide +kernel
theorem dX12_clash_26 : decode cX12_clash 26 = .ok (.iload_n 3, 1) := by decide +kernel
theorem dX12_clash_27 : decode cX12_clash 27 = .ok (.if_icmp .ne 5, 3) := by decide +kernel
theorem dX12_clash_30 : decode cX12_clash 30 = .ok (.iconst (-1), 1) := by decide +kernel
theorem dX12_clash_31 : decode cX12_clash 31 = .ok (.ireturn, 1) := by decide +kernel
theorem dX12_clash_32 : decode cX12_clash 32 = .ok (.aload_n 0, 1) := by decide +kernel
theorem dX12_clash_33 : decode cX12_clash 33 = .ok (.iload_n 1, 1) := by decide +kernel
theorem dX12_clash_34 : decode cX12_clash 34 = .ok (.invokevirtual 472, 3) := by decide +kernel
theorem dX12_clash_37 : decode cX12_clash 37 = .ok (.aload_n 0, 1) := by decide +kernel
theorem dX12_clash_38 : decode cX12_clash 38 = .ok (.getfield 84, 3) := by decide +kernel
theorem dX12_clash_41 : decode cX12_clash 41 = .ok (.iload_n 2, 1) := by decide +kernel
theorem dX12_clash_42 : decode cX12_clash 42 = .ok (.iaload, 1) := by decide +kernel
theorem dX12_clash_43 : decode cX12_clash 43 = .ok (.iload_n 3, 1) := by decide +kernel
theorem dX12_clash_44 : decode cX12_clash 44 = .ok (.ishr, 1) := by decide +kernel
theorem dX12_clash_45 : decode cX12_clash 45 = .ok (.iconst 1, 1) := by decide +kernel
theorem dX12_clash_46 : decode cX12_clash 46 = .ok (.iand, 1) := by decide +kernel
theorem dX12_clash_47 : decode cX12_clash 47 = .ok (.ireturn, 1) := by decide +kernel
theorem dX12_clashFrom_0 : decode cX12_clashFrom 0 = .ok (.iload_n 1, 1) := by decide +kernel
theorem dX12_clashFrom_1 : decode cX12_clashFrom 1 = .ok (.istore_n 3, 1) := by decide +kernel
theorem dX12_clashFrom_2 : decode cX12_clashFrom 2 = .ok (.aload_n 0, 1) := by decide +kernel
theorem dX12_clashFrom_3 : decode cX12_clashFrom 3 = .ok (.iload_n 3, 1) := by decide +kernel
theorem dX12_clashFrom_4 : decode cX12_clashFrom 4 = .ok (.invokevirtual 107, 3) := by decide +kernel
theorem dX12_clashFrom_7 : decode cX12_clashFrom 7 = .ok (.ifCond .ne 143, 3) := by decide +kernel
theorem dX12_clashFrom_150 : decode cX12_clashFrom 150 = .ok (.return_, 1) := by decide +kernel
theorem dX12_clashIn_0 : decode cX12_clashIn 0 = .ok (.aload_n 0, 1) := by decide +kernel
theorem dX12_clashIn_1 : decode cX12_clashIn 1 = .ok (.iload_n 1, 1) := by decide +kernel
theorem dX12_clashIn_2 : decode cX12_clashIn 2 = .ok (.invokevirtual 271, 3) := by decide +kernel
theorem dX12_clashIn_5 : decode cX12_clashIn 5 = .ok (.iconst 0, 1) := by decide +kernel
theorem dX12_clashIn_6 : decode cX12_clashIn 6 = .ok (.istore_n 2, 1) := by decide +kernel
theorem dX12_clashIn_7 : decode cX12_clashIn 7 = .ok (.iload_n 2, 1) := by decide +kernel
theorem dX12_clashIn_8 : decode cX12_clashIn 8 = .ok (.bipush 6, 2) := by decide +kernel
theorem dX12_clashIn_10 : decode cX12_clashIn 10 = .ok (.if_icmp .ge 16, 3) := by decide +kernel
theorem dX12_clashIn_13 : decode cX12_clashIn 13 = .ok (.aload_n 0, 1) := by decide +kernel
theorem dX12_clashIn_14 : decode cX12_clashIn 14 = .ok (.getfield 84, 3) := by decide +kernel
theorem dX12_clashIn_17 : decode cX12_clashIn 17 = .ok (.iload_n 2, 1) := by decide +kernel
theorem dX12_clashIn_18 : decode cX12_clashIn 18 = .ok (.iconst 0, 1) := by decide +kernel
theorem dX12_clashIn_19 : decode cX12_clashIn 19 = .ok (.iastore, 1) := by decide +kernel
theorem dX12_clashIn_20 : decode cX12_clashIn 20 = .ok (.iinc 2 1, 3) := by decide +kernel
theorem dX12_clashIn_23 : decode cX12_clashIn 23 = .ok (.goto (-16), 3) := by decide +kernel
theorem dX12_clashIn_26 : decode cX12_clashIn 26 = .ok (.aload_n 0, 1) := by decide +kernel
theorem dX12_clashIn_27 : decode cX12_clashIn 27 = .ok (.iconst 0, 1) := by decide +kernel
theorem dX12_clashIn_28 : decode cX12_clashIn 28 = .ok (.iconst 0, 1) := by decide +kernel
theorem dX12_clashIn_29 : decode cX12_clashIn 29 = .ok (.invokevirtual 463, 3) := by decide +kernel
theorem dX12_clashIn_32 : decode cX12_clashIn 32 = .ok (.return_, 1) := by decide +kernel
theorem dX12_clear_0 : decode cX12_clear 0 = .ok (.iload_n 1, 1) := by decide +kernel
theorem dX12_clear_1 : decode cX12_clear 1 = .ok (.invokestatic 423, 3) := by decide +kernel
theorem dX12_clear_4 : decode cX12_clear 4 = .ok (.ifCond .ne 5, 3) := by decide +kernel
theorem dX12_clear_7 : decode cX12_clear 7 = .ok (.iconst 0, 1) := by decide +kernel
theorem dX12_clear_8 : decode cX12_clear 8 = .ok (.ireturn, 1) := by decide +kernel
theorem dX12_clear_9 : decode cX12_clear 9 = .ok (.aload_n 0, 1) := by decide +kernel
theorem dX12_clear_10 : decode cX12_clear 10 = .ok (.getfield 75, 3) := by decide +kernel
theorem dX12_clear_13 : decode cX12_clear 13 = .ok (.iload_n 1, 1) := by decide +kernel
theorem dX12_clear_14 : decode cX12_clear 14 = .ok (.iconst 0, 1) := by decide +kernel
theorem dX12_clear_15 : decode cX12_clear 15 = .ok (.iastore, 1) := by decide +kernel
theorem dX12_clear_16 : decode cX12_clear 16 = .ok (.iconst 1, 1) := by decide +kernel
theorem dX12_clear_17 : decode cX12_clear 17 = .ok (.ireturn, 1) := by decide +kernel
theorem dX12_compares_0 : decode cX12_compares 0 = .ok (.aload_n 0, 1) := by decide +kernel
theorem dX12_compares_1 : decode cX12_compares 1 = .ok (.iconst (-1), 1) := by decide +kernel
theorem dX12_compares_2 : decode cX12_compares 2 = .ok (.putfield 318, 3) := by decide +kernel
theorem dX12_compares_5 : decode cX12_compares 5 = .ok (.aload_n 0, 1) := by decide +kernel
theorem dX12_compares_6 : decode cX12_compares 6 = .ok (.iconst (-1), 1) := by decide +kernel
theorem dX12_compares_7 : decode cX12_compares 7 = .ok (.putfield 321, 3) := by decide +kernel
theorem dX12_compares_10 : decode cX12_compares 10 = .ok (.aload_n 0, 1) := by decide +kernel
theorem dX12_compares_11 : decode cX12_compares 11 = .ok (.iconst 0, 1) := by decide +kernel
theorem dX12_compares_12 : decode cX12_compares 12 = .ok (.putfield 324, 3) := by decide +kernel
theorem dX12_compares_15 : decode cX12_compares 15 = .ok (.aload_n 0, 1) := by decide +kernel
theorem dX12_compares_16 : decode cX12_compares 16 = .ok (.iconst 0, 1) := by decide +kernel
theorem dX12_compares_17 : decode cX12_compares 17 = .ok (.putfield 327, 3) := by decide +kernel
theorem dX12_compares_20 : decode cX12_compares 20 = .ok (.iconst 0, 1) := by decide +kernel
theorem dX12_compares_21 : decode cX12_compares 21 = .ok (.istore_n 1, 1) := by decide +kernel
theorem dX12_compares_22 : decode cX12_compares 22 = .ok (.iload_n 1, 1) := by decide +kernel
theorem dX12_compares_23 : decode cX12_compares 23 = .ok (.sipush 256, 3) := by decide +kernel
theorem dX12_compares_26 : decode cX12_compares 26 = .ok (.if_icmp .ge 214, 3) := by decide +kernel
theorem dX12_compares_29 : decode cX12_compares 29 = .ok (.aload_n 0, 1) := by decide +kernel
theorem dX12_compares_30 : decode cX12_compares 30 = .ok (.iload_n 1, 1) := by decide +kernel
theorem dX12_compares_31 : decode cX12_compares 31 = .ok (.bipush 16, 2) := by decide +kernel
theorem dX12_compares_33 : decode cX12_compares 33 = .ok (.idiv, 1) := by decide +kernel
theorem dX12_compares_34 : decode cX12_compares 34 = .ok (.iload_n 1, 1) := by decide +kernel
theorem dX12_compares_35 : decode cX12_compares 35 = .ok (.bipush 16, 2) := by decide +kernel
theorem dX12_compares_37 : decode cX12_compares 37 = .ok (.irem, 1) := by decide +kernel
theorem dX12_compares_38 : decode cX12_compares 38 = .ok (.invokevirtual 315, 3) := by decide +kernel
theorem dX12_compares_41 : decode cX12_compares 41 = .ok (.iconst 0, 1) := by decide +kernel
theorem dX12_compares_42 : decode cX12_compares 42 = .ok (.istore_n 2, 1) := by decide +kernel
theorem dX12_compares_43 : decode cX12_compares 43 = .ok (.iload_n 2, 1) := by decide +kernel
theorem dX12_compares_44 : decode cX12_compares 44 = .ok (.aload_n 0, 1) := by decide +kernel
theorem dX12_compares_45 : decode cX12_compares 45 = .ok (.getfield 312, 3) := by decide +kernel
theorem dX12_compares_48 : decode cX12_compares 48 = .ok (.if_icmp .ge 39, 3) := by decide +kernel
theorem dX12_compares_87 : decode cX12_compares 87 = .ok (.iload_n 2, 1) := by decide +kernel
theorem dX12_compares_88 : decode cX12_compares 88 = .ok (.aload_n 0, 1) := by decide +kernel
theorem dX12_compares_89 : decode cX12_compares 89 = .ok (.getfield 312, 3) := by decide +kernel
theorem dX12_compares_92 : decode cX12_compares 92 = .ok (.if_icmp .ge 17, 3) := by decide +kernel
theorem dX12_compares_109 : decode cX12_compares 109 = .ok (.iconst 0, 1) := by decide +kernel
theorem dX12_compares_110 : decode cX12_compares 110 = .ok (.istore_n 3, 1) := by decide +kernel
theorem dX12_compares_111 : decode cX12_compares 111 = .ok (.aload_n 0, 1) := by decide +kernel
theorem dX12_compares_112 : decode cX12_compares 112 = .ok (.getfield 294, 3) := by decide +kernel
theorem dX12_compares_115 : decode cX12_compares 115 = .ok (.iconst 2, 1) := by decide +kernel
theorem dX12_compares_116 : decode cX12_compares 116 = .ok (.if_icmp .eq 13, 3) := by decide +kernel
theorem dX12_compares_119 : decode cX12_compares 119 = .ok (.aload_n 0, 1) := by decide +kernel
theorem dX12_compares_120 : decode cX12_compares 120 = .ok (.getfield 47, 3) := by decide +kernel
theorem dX12_compares_123 : decode cX12_compares 123 = .ok (.iload_n 1, 1) := by decide +kernel
theorem dX12_compares_124 : decode cX12_compares 124 = .ok (.iaload, 1) := by decide +kernel
theorem dX12_compares_125 : decode cX12_compares 125 = .ok (.iconst 2, 1) := by decide +kernel
theorem dX12_compares_126 : decode cX12_compares 126 = .ok (.if_icmp .ne 7, 3) := by decide +kernel
theorem dX12_compares_133 : decode cX12_compares 133 = .ok (.iconst 0, 1) := by decide +kernel
theorem dX12_compares_134 : decode cX12_compares 134 = .ok (.istore 4, 2) := by decide +kernel
theorem dX12_compares_136 : decode cX12_compares 136 = .ok (.aload_n 0, 1) := by decide +kernel
theorem dX12_compares_137 : decode cX12_compares 137 = .ok (.aload_n 0, 1) := by decide +kernel
theorem dX12_compares_138 : decode cX12_compares 138 = .ok (.getfield 327, 3) := by decide +kernel
theorem dX12_compares_141 : decode cX12_compares 141 = .ok (.ifCond .ne 8, 3) := by decide +kernel
theorem dX12_compares_144 : decode cX12_compares 144 = .ok (.iload 4, 2) := by decide +kernel
theorem dX12_compares_146 : decode cX12_compares 146 = .ok (.ifCond .eq 7, 3) := by decide +kernel
theorem dX12_compares_153 : decode cX12_compares 153 = .ok (.iconst 0, 1) := by decide +kernel
theorem dX12_compares_154 : decode cX12_compares 154 = .ok (.putfield 327, 3) := by decide +kernel
theorem dX12_compares_157 : decode cX12_compares 157 = .ok (.iload_n 3, 1) := by decide +kernel
theorem dX12_compares_158 : decode cX12_compares 158 = .ok (.ifCond .ne 37, 3) := by decide +kernel
theorem dX12_compares_161 : decode cX12_compares 161 = .ok (.iload 4, 2) := by decide +kernel
theorem dX12_compares_163 : decode cX12_compares 163 = .ok (.ifCond .ne 71, 3) := by decide +kernel
theorem dX12_compares_166 : decode cX12_compares 166 = .ok (.aload_n 0, 1) := by decide +kernel
theorem dX12_compares_167 : decode cX12_compares 167 = .ok (.getfield 312, 3) := by decide +kernel
theorem dX12_compares_170 : decode cX12_compares 170 = .ok (.aload_n 0, 1) := by decide +kernel
theorem dX12_compares_171 : decode cX12_compares 171 = .ok (.getfield 50, 3) := by decide +kernel
theorem dX12_compares_174 : decode cX12_compares 174 = .ok (.iload_n 1, 1) := by decide +kernel
theorem dX12_compares_175 : decode cX12_compares 175 = .ok (.iaload, 1) := by decide +kernel
theorem dX12_compares_176 : decode cX12_compares 176 = .ok (.if_icmp .ne 19, 3) := by decide +kernel
theorem dX12_compares_179 : decode cX12_compares 179 = .ok (.aload_n 0, 1) := by decide +kernel
theorem dX12_compares_180 : decode cX12_compares 180 = .ok (.getfield 294, 3) := by decide +kernel
theorem dX12_compares_183 : decode cX12_compares 183 = .ok (.aload_n 0, 1) := by decide +kernel
theorem dX12_compares_184 : decode cX12_compares 184 = .ok (.getfield 47, 3) := by decide +kernel
theorem dX12_compares_187 : decode cX12_compares 187 = .ok (.iload_n 1, 1) := by decide +kernel
theorem dX12_compares_188 : decode cX12_compares 188 = .ok (.iaload, 1) := by decide +kernel
theorem dX12_compares_189 : decode cX12_compares 189 = .ok (.if_icmp .ne 6, 3) := by decide +kernel
theorem dX12_compares_192 : decode cX12_compares 192 = .ok (.goto 42, 3) := by decide +kernel
theorem dX12_compares_234 : decode cX12_compares 234 = .ok (.iinc 1 1, 3) := by decide +kernel
theorem dX12_compares_237 : decode cX12_compares 237 = .ok (.goto (-215), 3) := by decide +kernel
theorem dX12_compares_240 : decode cX12_compares 240 = .ok (.return_, 1) := by decide +kernel
theorem dX12_cut_0 : decode cX12_cut 0 = .ok (.iload_n 1, 1) := by decide +kernel
theorem dX12_cut_1 : decode cX12_cut 1 = .ok (.invokestatic 423, 3) := by decide +kernel
theorem dX12_cut_4 : decode cX12_cut 4 = .ok (.ifCond .eq 17, 3) := by decide +kernel
theorem dX12_cut_7 : decode cX12_cut 7 = .ok (.iload_n 2, 1) := by decide +kernel
theorem dX12_cut_8 : decode cX12_cut 8 = .ok (.invokestatic 249, 3) := by decide +kernel
theorem dX12_cut_11 : decode cX12_cut 11 = .ok (.ifCond .eq 10, 3) := by decide +kernel
theorem dX12_cut_14 : decode cX12_cut 14 = .ok (.iload_n 3, 1) := by decide +kernel
theorem dX12_cut_15 : decode cX12_cut 15 = .ok (.invokestatic 249, 3) := by decide +kernel
theorem dX12_cut_18 : decode cX12_cut 18 = .ok (.ifCond .ne 5, 3) := by decide +kernel
theorem dX12_cut_21 : decode cX12_cut 21 = .ok (.iconst (-1), 1) := by decide +kernel
theorem dX12_cut_22 : decode cX12_cut 22 = .ok (.ireturn, 1) := by decide +kernel
theorem dX12_cut_23 : decode cX12_cut 23 = .ok (.aload_n 0, 1) := by decide +kernel
theorem dX12_cut_24 : decode cX12_cut 24 = .ok (.iload_n 2, 1) := by decide +kernel
theorem dX12_cut_25 : decode cX12_cut 25 = .ok (.invokevirtual 271, 3) := by decide +kernel
theorem dX12_cut_28 : decode cX12_cut 28 = .ok (.aload_n 0, 1) := by decide +kernel
theorem dX12_cut_29 : decode cX12_cut 29 = .ok (.invokevirtual 265, 3) := by decide +kernel
theorem dX12_cut_32 : decode cX12_cut 32 = .ok (.iconst 1, 1) := by decide +kernel
theorem dX12_cut_33 : decode cX12_cut 33 = .ok (.bipush 12, 2) := by decide +kernel
theorem dX12_cut_35 : decode cX12_cut 35 = .ok (.invokestatic 90, 3) := by decide +kernel
theorem dX12_cut_38 : decode cX12_cut 38 = .ok (.ifCond .ne 5, 3) := by decide +kernel
theorem dX12_cut_41 : decode cX12_cut 41 = .ok (.iconst (-1), 1) := by decide +kernel
theorem dX12_cut_42 : decode cX12_cut 42 = .ok (.ireturn, 1) := by decide +kernel
theorem dX12_deals_0 : decode cX12_deals 0 = .ok (.iconst 1, 1) := by decide +kernel
theorem dX12_deals_1 : decode cX12_deals 1 = .ok (.istore_n 3, 1) := by decide +kernel
theorem dX12_deals_2 : decode cX12_deals 2 = .ok (.iconst 0, 1) := by decide +kernel
theorem dX12_deals_3 : decode cX12_deals 3 = .ok (.istore 4, 2) := by decide +kernel
theorem dX12_deals_5 : decode cX12_deals 5 = .ok (.iload 4, 2) := by decide +kernel
theorem dX12_deals_7 : decode cX12_deals 7 = .ok (.bipush 6, 2) := by decide +kernel
theorem dX12_deals_9 : decode cX12_deals 9 = .ok (.if_icmp .ge 27, 3) := by decide +kernel
theorem dX12_deals_12 : decode cX12_deals 12 = .ok (.iload_n 3, 1) := by decide +kernel
theorem dX12_deals_13 : decode cX12_deals 13 = .ok (.iload_n 1, 1) := by decide +kernel
theorem dX12_deals_14 : decode cX12_deals 14 = .ok (.iload 4, 2) := by decide +kernel
theorem dX12_deals_16 : decode cX12_deals 16 = .ok (.ishr, 1) := by decide +kernel
theorem dX12_deals_17 : decode cX12_deals 17 = .ok (.iconst 1, 1) := by decide +kernel
theorem dX12_deals_18 : decode cX12_deals 18 = .ok (.iand, 1) := by decide +kernel
theorem dX12_deals_19 : decode cX12_deals 19 = .ok (.iconst 1, 1) := by decide +kernel
theorem dX12_deals_20 : decode cX12_deals 20 = .ok (.if_icmp .ne 7, 3) := by decide +kernel
theorem dX12_deals_27 : decode cX12_deals 27 = .ok (.iconst 1, 1) := by decide +kernel
theorem dX12_deals_28 : decode cX12_deals 28 = .ok (.imul, 1) := by decide +kernel
theorem dX12_deals_29 : decode cX12_deals 29 = .ok (.istore_n 3, 1) := by decide +kernel
theorem dX12_deals_30 : decode cX12_deals 30 = .ok (.iinc 4 1, 3) := by decide +kernel
theorem dX12_deals_33 : decode cX12_deals 33 = .ok (.goto (-28), 3) := by decide +kernel
theorem dX12_deals_36 : decode cX12_deals 36 = .ok (.iconst 0, 1) := by decide +kernel
theorem dX12_deals_37 : decode cX12_deals 37 = .ok (.istore 4, 2) := by decide +kernel
theorem dX12_deals_39 : decode cX12_deals 39 = .ok (.iload 4, 2) := by decide +kernel
theorem dX12_deals_41 : decode cX12_deals 41 = .ok (.iload_n 3, 1) := by decide +kernel
theorem dX12_deals_42 : decode cX12_deals 42 = .ok (.if_icmp .ge 161, 3) := by decide +kernel
theorem dX12_deals_45 : decode cX12_deals 45 = .ok (.iload 4, 2) := by decide +kernel
theorem dX12_deals_47 : decode cX12_deals 47 = .ok (.istore 5, 2) := by decide +kernel
theorem dX12_deals_49 : decode cX12_deals 49 = .ok (.iconst 5, 1) := by decide +kernel
theorem dX12_deals_50 : decode cX12_deals 50 = .ok (.istore 6, 2) := by decide +kernel
theorem dX12_deals_52 : decode cX12_deals 52 = .ok (.iload 6, 2) := by decide +kernel
theorem dX12_deals_54 : decode cX12_deals 54 = .ok (.ifCond .lt 46, 3) := by decide +kernel
theorem dX12_deals_57 : decode cX12_deals 57 = .ok (.aload_n 0, 1) := by decide +kernel
theorem dX12_deals_58 : decode cX12_deals 58 = .ok (.getfield 87, 3) := by decide +kernel
theorem dX12_deals_61 : decode cX12_deals 61 = .ok (.iload 6, 2) := by decide +kernel
theorem dX12_deals_63 : decode cX12_deals 63 = .ok (.iconst (-1), 1) := by decide +kernel
theorem dX12_deals_64 : decode cX12_deals 64 = .ok (.iastore, 1) := by decide +kernel
theorem dX12_deals_65 : decode cX12_deals 65 = .ok (.iload_n 1, 1) := by decide +kernel
theorem dX12_deals_66 : decode cX12_deals 66 = .ok (.iload 6, 2) := by decide +kernel
theorem dX12_deals_68 : decode cX12_deals 68 = .ok (.ishr, 1) := by decide +kernel
theorem dX12_deals_69 : decode cX12_deals 69 = .ok (.iconst 1, 1) := by decide +kernel
theorem dX12_deals_70 : decode cX12_deals 70 = .ok (.iand, 1) := by decide +kernel
theorem dX12_deals_71 : decode cX12_deals 71 = .ok (.ifCond .ne 6, 3) := by decide +kernel
theorem dX12_deals_74 : decode cX12_deals 74 = .ok (.goto 20, 3) := by decide +kernel
theorem dX12_deals_94 : decode cX12_deals 94 = .ok (.iinc 6 (-1), 3) := by decide +kernel
theorem dX12_deals_97 : decode cX12_deals 97 = .ok (.goto (-45), 3) := by decide +kernel
theorem dX12_deals_100 : decode cX12_deals 100 = .ok (.iconst 1, 1) := by decide +kernel
theorem dX12_deals_101 : decode cX12_deals 101 = .ok (.istore 6, 2) := by decide +kernel
theorem dX12_deals_103 : decode cX12_deals 103 = .ok (.iconst 0, 1) := by decide +kernel
theorem dX12_deals_104 : decode cX12_deals 104 = .ok (.istore 7, 2) := by decide +kernel
theorem dX12_deals_106 : decode cX12_deals 106 = .ok (.iload 7, 2) := by decide +kernel
theorem dX12_deals_108 : decode cX12_deals 108 = .ok (.bipush 6, 2) := by decide +kernel
theorem dX12_deals_110 : decode cX12_deals 110 = .ok (.if_icmp .ge 80, 3) := by decide +kernel
theorem dX12_deals_113 : decode cX12_deals 113 = .ok (.iconst 0, 1) := by decide +kernel
theorem dX12_deals_114 : decode cX12_deals 114 = .ok (.istore 8, 2) := by decide +kernel
theorem dX12_deals_116 : decode cX12_deals 116 = .ok (.iload 8, 2) := by decide +kernel
theorem dX12_deals_118 : decode cX12_deals 118 = .ok (.iload 7, 2) := by decide +kernel
theorem dX12_deals_120 : decode cX12_deals 120 = .ok (.if_icmp .ge 64, 3) := by decide +kernel
theorem dX12_deals_123 : decode cX12_deals 123 = .ok (.iload 6, 2) := by decide +kernel
theorem dX12_deals_125 : decode cX12_deals 125 = .ok (.ifCond .eq 50, 3) := by decide +kernel
theorem dX12_deals_128 : decode cX12_deals 128 = .ok (.aload_n 0, 1) := by decide +kernel
theorem dX12_deals_129 : decode cX12_deals 129 = .ok (.getfield 87, 3) := by decide +kernel
theorem dX12_deals_132 : decode cX12_deals 132 = .ok (.iload 7, 2) := by decide +kernel
theorem dX12_deals_134 : decode cX12_deals 134 = .ok (.iaload, 1) := by decide +kernel
theorem dX12_deals_135 : decode cX12_deals 135 = .ok (.iconst (-1), 1) := by decide +kernel
theorem dX12_deals_136 : decode cX12_deals 136 = .ok (.if_icmp .eq 35, 3) := by decide +kernel
theorem dX12_deals_171 : decode cX12_deals 171 = .ok (.iconst 1, 1) := by decide +kernel
theorem dX12_deals_172 : decode cX12_deals 172 = .ok (.goto 4, 3) := by decide +kernel
theorem dX12_deals_176 : decode cX12_deals 176 = .ok (.istore 6, 2) := by decide +kernel
theorem dX12_deals_178 : decode cX12_deals 178 = .ok (.iinc 8 1, 3) := by decide +kernel
theorem dX12_deals_181 : decode cX12_deals 181 = .ok (.goto (-65), 3) := by decide +kernel
theorem dX12_deals_184 : decode cX12_deals 184 = .ok (.iinc 7 1, 3) := by decide +kernel
theorem dX12_deals_187 : decode cX12_deals 187 = .ok (.goto (-81), 3) := by decide +kernel
theorem dX12_deals_190 : decode cX12_deals 190 = .ok (.iload 6, 2) := by decide +kernel
theorem dX12_deals_192 : decode cX12_deals 192 = .ok (.ifCond .eq 5, 3) := by decide +kernel
theorem dX12_deals_195 : decode cX12_deals 195 = .ok (.iconst 1, 1) := by decide +kernel
theorem dX12_deals_196 : decode cX12_deals 196 = .ok (.ireturn, 1) := by decide +kernel
theorem dX12_does_0 : decode cX12_does 0 = .ok (.iload_n 1, 1) := by decide +kernel
theorem dX12_does_1 : decode cX12_does 1 = .ok (.istore_n 2, 1) := by decide +kernel
theorem dX12_does_2 : decode cX12_does 2 = .ok (.aload_n 0, 1) := by decide +kernel
theorem dX12_does_3 : decode cX12_does 3 = .ok (.iload_n 2, 1) := by decide +kernel
theorem dX12_does_4 : decode cX12_does 4 = .ok (.invokevirtual 107, 3) := by decide +kernel
theorem dX12_does_7 : decode cX12_does 7 = .ok (.ifCond .ne 22, 3) := by decide +kernel
theorem dX12_does_29 : decode cX12_does 29 = .ok (.iconst 1, 1) := by decide +kernel
theorem dX12_does_30 : decode cX12_does 30 = .ok (.ireturn, 1) := by decide +kernel
theorem dX12_end_0 : decode cX12_end 0 = .ok (.iload_n 1, 1) := by decide +kernel
theorem dX12_end_1 : decode cX12_end 1 = .ok (.iconst 0, 1) := by decide +kernel
theorem dX12_end_2 : decode cX12_end 2 = .ok (.aload_n 0, 1) := by decide +kernel
theorem dX12_end_3 : decode cX12_end 3 = .ok (.getfield 124, 3) := by decide +kernel
theorem dX12_end_6 : decode cX12_end 6 = .ok (.invokestatic 90, 3) := by decide +kernel
theorem dX12_end_9 : decode cX12_end 9 = .ok (.ifCond .ne 5, 3) := by decide +kernel
theorem dX12_end_12 : decode cX12_end 12 = .ok (.iconst 0, 1) := by decide +kernel
theorem dX12_end_13 : decode cX12_end 13 = .ok (.ireturn, 1) := by decide +kernel
theorem dX12_end_14 : decode cX12_end 14 = .ok (.aload_n 0, 1) := by decide +kernel
theorem dX12_end_15 : decode cX12_end 15 = .ok (.iload_n 1, 1) := by decide +kernel
theorem dX12_end_16 : decode cX12_end 16 = .ok (.putfield 124, 3) := by decide +kernel
theorem dX12_end_19 : decode cX12_end 19 = .ok (.iconst 1, 1) := by decide +kernel
theorem dX12_end_20 : decode cX12_end 20 = .ok (.ireturn, 1) := by decide +kernel
theorem dX12_ends_0 : decode cX12_ends 0 = .ok (.aload_n 0, 1) := by decide +kernel
theorem dX12_ends_1 : decode cX12_ends 1 = .ok (.iconst 0, 1) := by decide +kernel
theorem dX12_ends_2 : decode cX12_ends 2 = .ok (.putfield 124, 3) := by decide +kernel
theorem dX12_ends_5 : decode cX12_ends 5 = .ok (.aload_n 0, 1) := by decide +kernel
theorem dX12_ends_6 : decode cX12_ends 6 = .ok (.aload_n 0, 1) := by decide +kernel
theorem dX12_ends_7 : decode cX12_ends 7 = .ok (.getfield 179, 3) := by decide +kernel
theorem dX12_ends_10 : decode cX12_ends 10 = .ok (.putfield 246, 3) := by decide +kernel
theorem dX12_ends_13 : decode cX12_ends 13 = .ok (.aload_n 0, 1) := by decide +kernel
theorem dX12_ends_14 : decode cX12_ends 14 = .ok (.aload_n 0, 1) := by decide +kernel
theorem dX12_ends_15 : decode cX12_ends 15 = .ok (.getfield 179, 3) := by decide +kernel
theorem dX12_ends_18 : decode cX12_ends 18 = .ok (.ifCond .ne 7, 3) := by decide +kernel
theorem dX12_ends_21 : decode cX12_ends 21 = .ok (.iconst (-1), 1) := by decide +kernel
theorem dX12_ends_22 : decode cX12_ends 22 = .ok (.goto 7, 3) := by decide +kernel
theorem dX12_ends_25 : decode cX12_ends 25 = .ok (.aload_n 0, 1) := by decide +kernel
theorem dX12_ends_26 : decode cX12_ends 26 = .ok (.getfield 182, 3) := by decide +kernel
theorem dX12_ends_29 : decode cX12_ends 29 = .ok (.putfield 25, 3) := by decide +kernel
theorem dX12_ends_32 : decode cX12_ends 32 = .ok (.return_, 1) := by decide +kernel
theorem dX12_enough_0 : decode cX12_enough 0 = .ok (.iconst 0, 1) := by decide +kernel
theorem dX12_enough_1 : decode cX12_enough 1 = .ok (.istore_n 2, 1) := by decide +kernel
theorem dX12_enough_2 : decode cX12_enough 2 = .ok (.aload_n 0, 1) := by decide +kernel
theorem dX12_enough_3 : decode cX12_enough 3 = .ok (.iload_n 1, 1) := by decide +kernel
theorem dX12_enough_4 : decode cX12_enough 4 = .ok (.iload_n 2, 1) := by decide +kernel
theorem dX12_enough_5 : decode cX12_enough 5 = .ok (.invokevirtual 466, 3) := by decide +kernel
theorem dX12_enough_8 : decode cX12_enough 8 = .ok (.ifCond .ne 9, 3) := by decide +kernel
theorem dX12_enough_17 : decode cX12_enough 17 = .ok (.iload_n 2, 1) := by decide +kernel
theorem dX12_enough_18 : decode cX12_enough 18 = .ok (.ireturn, 1) := by decide +kernel
theorem dX12_fault_0 : decode cX12_fault 0 = .ok (.iload_n 1, 1) := by decide +kernel
theorem dX12_fault_1 : decode cX12_fault 1 = .ok (.ifCond .ne 10, 3) := by decide +kernel
theorem dX12_fault_4 : decode cX12_fault 4 = .ok (.aload_n 0, 1) := by decide +kernel
theorem dX12_fault_5 : decode cX12_fault 5 = .ok (.getfield 246, 3) := by decide +kernel
theorem dX12_fault_8 : decode cX12_fault 8 = .ok (.goto 16, 3) := by decide +kernel
theorem dX12_fault_11 : decode cX12_fault 11 = .ok (.iload_n 1, 1) := by decide +kernel
theorem dX12_fault_12 : decode cX12_fault 12 = .ok (.iconst 1, 1) := by decide +kernel
theorem dX12_fault_13 : decode cX12_fault 13 = .ok (.if_icmp .ne 10, 3) := by decide +kernel
theorem dX12_fault_16 : decode cX12_fault 16 = .ok (.aload_n 0, 1) := by decide +kernel
theorem dX12_fault_17 : decode cX12_fault 17 = .ok (.getfield 25, 3) := by decide +kernel
theorem dX12_fault_20 : decode cX12_fault 20 = .ok (.goto 4, 3) := by decide +kernel
theorem dX12_fault_23 : decode cX12_fault 23 = .ok (.iconst (-1), 1) := by decide +kernel
theorem dX12_fault_24 : decode cX12_fault 24 = .ok (.ireturn, 1) := by decide +kernel
theorem dX12_feed_0 : decode cX12_feed 0 = .ok (.aload_n 0, 1) := by decide +kernel
theorem dX12_feed_1 : decode cX12_feed 1 = .ok (.getfield 124, 3) := by decide +kernel
theorem dX12_feed_4 : decode cX12_feed 4 = .ok (.bipush 20, 2) := by decide +kernel
theorem dX12_feed_6 : decode cX12_feed 6 = .ok (.iadd, 1) := by decide +kernel
theorem dX12_feed_7 : decode cX12_feed 7 = .ok (.sipush 800, 3) := by decide +kernel
theorem dX12_feed_10 : decode cX12_feed 10 = .ok (.if_icmp .le 5, 3) := by decide +kernel
theorem dX12_feed_15 : decode cX12_feed 15 = .ok (.iconst 0, 1) := by decide +kernel
theorem dX12_feed_16 : decode cX12_feed 16 = .ok (.istore 6, 2) := by decide +kernel
theorem dX12_feed_18 : decode cX12_feed 18 = .ok (.iload 6, 2) := by decide +kernel
theorem dX12_feed_20 : decode cX12_feed 20 = .ok (.bipush 20, 2) := by decide +kernel
theorem dX12_feed_22 : decode cX12_feed 22 = .ok (.if_icmp .ge 93, 3) := by decide +kernel
theorem dX12_feed_25 : decode cX12_feed 25 = .ok (.iload 6, 2) := by decide +kernel
theorem dX12_feed_27 : decode cX12_feed 27 = .ok (.iconst 4, 1) := by decide +kernel
theorem dX12_feed_28 : decode cX12_feed 28 = .ok (.if_icmp .ge 7, 3) := by decide +kernel
theorem dX12_feed_31 : decode cX12_feed 31 = .ok (.iload_n 1, 1) := by decide +kernel
theorem dX12_feed_32 : decode cX12_feed 32 = .ok (.goto 39, 3) := by decide +kernel
theorem dX12_feed_35 : decode cX12_feed 35 = .ok (.iload 6, 2) := by decide +kernel
theorem dX12_feed_37 : decode cX12_feed 37 = .ok (.bipush 8, 2) := by decide +kernel
theorem dX12_feed_39 : decode cX12_feed 39 = .ok (.if_icmp .ge 7, 3) := by decide +kernel
theorem dX12_feed_42 : decode cX12_feed 42 = .ok (.iload_n 2, 1) := by decide +kernel
theorem dX12_feed_43 : decode cX12_feed 43 = .ok (.goto 28, 3) := by decide +kernel
theorem dX12_feed_46 : decode cX12_feed 46 = .ok (.iload 6, 2) := by decide +kernel
theorem dX12_feed_48 : decode cX12_feed 48 = .ok (.bipush 12, 2) := by decide +kernel
theorem dX12_feed_50 : decode cX12_feed 50 = .ok (.if_icmp .ge 7, 3) := by decide +kernel
theorem dX12_feed_53 : decode cX12_feed 53 = .ok (.iload_n 3, 1) := by decide +kernel
theorem dX12_feed_54 : decode cX12_feed 54 = .ok (.goto 17, 3) := by decide +kernel
theorem dX12_feed_57 : decode cX12_feed 57 = .ok (.iload 6, 2) := by decide +kernel
theorem dX12_feed_59 : decode cX12_feed 59 = .ok (.bipush 16, 2) := by decide +kernel
theorem dX12_feed_61 : decode cX12_feed 61 = .ok (.if_icmp .ge 8, 3) := by decide +kernel
theorem dX12_feed_64 : decode cX12_feed 64 = .ok (.iload 4, 2) := by decide +kernel
theorem dX12_feed_66 : decode cX12_feed 66 = .ok (.goto 5, 3) := by decide +kernel
theorem dX12_feed_69 : decode cX12_feed 69 = .ok (.iload 5, 2) := by decide +kernel
theorem dX12_feed_71 : decode cX12_feed 71 = .ok (.istore 7, 2) := by decide +kernel
theorem dX12_feed_73 : decode cX12_feed 73 = .ok (.aload_n 0, 1) := by decide +kernel
theorem dX12_feed_74 : decode cX12_feed 74 = .ok (.getfield 22, 3) := by decide +kernel
theorem dX12_feed_77 : decode cX12_feed 77 = .ok (.aload_n 0, 1) := by decide +kernel
theorem dX12_feed_78 : decode cX12_feed 78 = .ok (.getfield 124, 3) := by decide +kernel
theorem dX12_feed_81 : decode cX12_feed 81 = .ok (.iload 7, 2) := by decide +kernel
theorem dX12_feed_83 : decode cX12_feed 83 = .ok (.bipush 24, 2) := by decide +kernel
theorem dX12_feed_85 : decode cX12_feed 85 = .ok (.bipush 8, 2) := by decide +kernel
theorem dX12_feed_87 : decode cX12_feed 87 = .ok (.iload 6, 2) := by decide +kernel
theorem dX12_feed_89 : decode cX12_feed 89 = .ok (.iconst 4, 1) := by decide +kernel
theorem dX12_feed_90 : decode cX12_feed 90 = .ok (.irem, 1) := by decide +kernel
theorem dX12_feed_91 : decode cX12_feed 91 = .ok (.imul, 1) := by decide +kernel
theorem dX12_feed_92 : decode cX12_feed 92 = .ok (.isub, 1) := by decide +kernel
theorem dX12_feed_93 : decode cX12_feed 93 = .ok (.ishr, 1) := by decide +kernel
theorem dX12_feed_94 : decode cX12_feed 94 = .ok (.sipush 255, 3) := by decide +kernel
theorem dX12_feed_97 : decode cX12_feed 97 = .ok (.iand, 1) := by decide +kernel
theorem dX12_feed_98 : decode cX12_feed 98 = .ok (.iastore, 1) := by decide +kernel
theorem dX12_feed_99 : decode cX12_feed 99 = .ok (.aload_n 0, 1) := by decide +kernel
theorem dX12_feed_100 : decode cX12_feed 100 = .ok (.dup, 1) := by decide +kernel
theorem dX12_feed_101 : decode cX12_feed 101 = .ok (.getfield 124, 3) := by decide +kernel
theorem dX12_feed_104 : decode cX12_feed 104 = .ok (.iconst 1, 1) := by decide +kernel
theorem dX12_feed_105 : decode cX12_feed 105 = .ok (.iadd, 1) := by decide +kernel
theorem dX12_feed_106 : decode cX12_feed 106 = .ok (.putfield 124, 3) := by decide +kernel
theorem dX12_feed_109 : decode cX12_feed 109 = .ok (.iinc 6 1, 3) := by decide +kernel
theorem dX12_feed_112 : decode cX12_feed 112 = .ok (.goto (-94), 3) := by decide +kernel
theorem dX12_feed_115 : decode cX12_feed 115 = .ok (.aload_n 0, 1) := by decide +kernel
theorem dX12_feed_116 : decode cX12_feed 116 = .ok (.getfield 124, 3) := by decide +kernel
theorem dX12_feed_119 : decode cX12_feed 119 = .ok (.ireturn, 1) := by decide +kernel
theorem dX12_inRow_0 : decode cX12_inRow 0 = .ok (.aload_n 0, 1) := by decide +kernel
theorem dX12_inRow_1 : decode cX12_inRow 1 = .ok (.iconst 0, 1) := by decide +kernel
theorem dX12_inRow_2 : decode cX12_inRow 2 = .ok (.aload_n 0, 1) := by decide +kernel
theorem dX12_inRow_3 : decode cX12_inRow 3 = .ok (.getfield 98, 3) := by decide +kernel
theorem dX12_inRow_6 : decode cX12_inRow 6 = .ok (.invokevirtual 379, 3) := by decide +kernel
theorem dX12_inRow_9 : decode cX12_inRow 9 = .ok (.istore_n 1, 1) := by decide +kernel
theorem dX12_inRow_10 : decode cX12_inRow 10 = .ok (.iconst 0, 1) := by decide +kernel
theorem dX12_inRow_11 : decode cX12_inRow 11 = .ok (.istore_n 2, 1) := by decide +kernel
theorem dX12_inRow_12 : decode cX12_inRow 12 = .ok (.iload_n 2, 1) := by decide +kernel
theorem dX12_inRow_13 : decode cX12_inRow 13 = .ok (.bipush 6, 2) := by decide +kernel
theorem dX12_inRow_15 : decode cX12_inRow 15 = .ok (.if_icmp .ge 32, 3) := by decide +kernel
theorem dX12_inRow_18 : decode cX12_inRow 18 = .ok (.iload_n 1, 1) := by decide +kernel
theorem dX12_inRow_19 : decode cX12_inRow 19 = .ok (.aload_n 0, 1) := by decide +kernel
theorem dX12_inRow_20 : decode cX12_inRow 20 = .ok (.iconst 0, 1) := by decide +kernel
theorem dX12_inRow_21 : decode cX12_inRow 21 = .ok (.aload_n 0, 1) := by decide +kernel
theorem dX12_inRow_22 : decode cX12_inRow 22 = .ok (.getfield 98, 3) := by decide +kernel
theorem dX12_inRow_25 : decode cX12_inRow 25 = .ok (.iload_n 2, 1) := by decide +kernel
theorem dX12_inRow_26 : decode cX12_inRow 26 = .ok (.invokevirtual 409, 3) := by decide +kernel
theorem dX12_inRow_29 : decode cX12_inRow 29 = .ok (.ifCond .eq 9, 3) := by decide +kernel
theorem dX12_inRow_38 : decode cX12_inRow 38 = .ok (.iconst 0, 1) := by decide +kernel
theorem dX12_inRow_39 : decode cX12_inRow 39 = .ok (.ior, 1) := by decide +kernel
theorem dX12_inRow_40 : decode cX12_inRow 40 = .ok (.istore_n 1, 1) := by decide +kernel
theorem dX12_inRow_41 : decode cX12_inRow 41 = .ok (.iinc 2 1, 3) := by decide +kernel
theorem dX12_inRow_44 : decode cX12_inRow 44 = .ok (.goto (-32), 3) := by decide +kernel
theorem dX12_inRow_47 : decode cX12_inRow 47 = .ok (.iload_n 1, 1) := by decide +kernel
theorem dX12_inRow_48 : decode cX12_inRow 48 = .ok (.ireturn, 1) := by decide +kernel
theorem dX12_init_0 : decode cX12_init 0 = .ok (.aload_n 0, 1) := by decide +kernel
theorem dX12_init_1 : decode cX12_init 1 = .ok (.invokespecial 1, 3) := by decide +kernel
theorem dX12_init_4 : decode cX12_init 4 = .ok (.aload_n 0, 1) := by decide +kernel
theorem dX12_init_5 : decode cX12_init 5 = .ok (.sipush 3120, 3) := by decide +kernel
theorem dX12_init_8 : decode cX12_init 8 = .ok (.newarray .int, 2) := by decide +kernel
theorem dX12_init_10 : decode cX12_init 10 = .ok (.putfield 7, 3) := by decide +kernel
theorem dX12_init_13 : decode cX12_init 13 = .ok (.aload_n 0, 1) := by decide +kernel
theorem dX12_init_14 : decode cX12_init 14 = .ok (.bipush 6, 2) := by decide +kernel
theorem dX12_init_16 : decode cX12_init 16 = .ok (.newarray .int, 2) := by decide +kernel
theorem dX12_init_18 : decode cX12_init 18 = .ok (.putfield 13, 3) := by decide +kernel
theorem dX12_init_21 : decode cX12_init 21 = .ok (.aload_n 0, 1) := by decide +kernel
theorem dX12_init_22 : decode cX12_init 22 = .ok (.sipush 2400, 3) := by decide +kernel

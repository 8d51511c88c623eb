theorem dX0_init_0 : decode cX0_init 0 = .ok (.aload_n 0, 1) := by decide +kernel
theorem dX0_init_1 : decode cX0_init 1 = .ok (.invokespecial 3, 3) := by decide +kernel
theorem dX0_init_4 : decode cX0_init 4 = .ok (.aload_n 0, 1) := by decide +kernel
theorem dX0_init_5 : decode cX0_init 5 = .ok (.sipush 191, 3) := by decide +kernel
theorem dX0_init_8 : decode cX0_init 8 = .ok (.newarray .int, 2) := by decide +kernel
theorem dX0_init_10 : decode cX0_init 10 = .ok (.putfield 9, 3) := by decide +kernel
theorem dX0_init_13 : decode cX0_init 13 = .ok (.aload_n 0, 1) := by decide +kernel
theorem dX0_init_14 : decode cX0_init 14 = .ok (.bipush 12, 2) := by decide +kernel
theorem dX0_init_16 : decode cX0_init 16 = .ok (.sipush 1000, 3) := by decide +kernel
theorem dX0_init_19 : decode cX0_init 19 = .ok (.invokevirtual 13, 3) := by decide +kernel
theorem dX0_init_22 : decode cX0_init 22 = .ok (.iconst 0, 1) := by decide +kernel
theorem dX0_init_23 : decode cX0_init 23 = .ok (.istore_n 1, 1) := by decide +kernel
theorem dX0_init_24 : decode cX0_init 24 = .ok (.iload_n 1, 1) := by decide +kernel
theorem dX0_init_25 : decode cX0_init 25 = .ok (.bipush 32, 2) := by decide +kernel
theorem dX0_init_27 : decode cX0_init 27 = .ok (.if_icmp .ge 20, 3) := by decide +kernel
theorem dX0_init_30 : decode cX0_init 30 = .ok (.aload_n 0, 1) := by decide +kernel
theorem dX0_init_31 : decode cX0_init 31 = .ok (.bipush 63, 2) := by decide +kernel
theorem dX0_init_33 : decode cX0_init 33 = .ok (.iload_n 1, 1) := by decide +kernel
theorem dX0_init_34 : decode cX0_init 34 = .ok (.iconst 4, 1) := by decide +kernel
theorem dX0_init_35 : decode cX0_init 35 = .ok (.imul, 1) := by decide +kernel
theorem dX0_init_36 : decode cX0_init 36 = .ok (.iadd, 1) := by decide +kernel
theorem dX0_init_37 : decode cX0_init 37 = .ok (.iconst (-1), 1) := by decide +kernel
theorem dX0_init_38 : decode cX0_init 38 = .ok (.invokevirtual 13, 3) := by decide +kernel
theorem dX0_init_41 : decode cX0_init 41 = .ok (.iinc 1 1, 3) := by decide +kernel
theorem dX0_init_44 : decode cX0_init 44 = .ok (.goto (-20), 3) := by decide +kernel
theorem dX0_init_47 : decode cX0_init 47 = .ok (.return_, 1) := by decide +kernel
theorem dX0_at_0 : decode cX0_at 0 = .ok (.iload_n 1, 1) := by decide +kernel
theorem dX0_at_1 : decode cX0_at 1 = .ok (.ifCond .lt 21, 3) := by decide +kernel
theorem dX0_at_4 : decode cX0_at 4 = .ok (.iload_n 1, 1) := by decide +kernel
theorem dX0_at_5 : decode cX0_at 5 = .ok (.aload_n 0, 1) := by decide +kernel
theorem dX0_at_6 : decode cX0_at 6 = .ok (.getfield 9, 3) := by decide +kernel
theorem dX0_at_9 : decode cX0_at 9 = .ok (.arraylength, 1) := by decide +kernel
theorem dX0_at_10 : decode cX0_at 10 = .ok (.if_icmp .ge 12, 3) := by decide +kernel
theorem dX0_at_13 : decode cX0_at 13 = .ok (.aload_n 0, 1) := by decide +kernel
theorem dX0_at_14 : decode cX0_at 14 = .ok (.getfield 9, 3) := by decide +kernel
theorem dX0_at_17 : decode cX0_at 17 = .ok (.iload_n 1, 1) := by decide +kernel
theorem dX0_at_18 : decode cX0_at 18 = .ok (.iaload, 1) := by decide +kernel
theorem dX0_at_19 : decode cX0_at 19 = .ok (.goto 4, 3) := by decide +kernel
theorem dX0_at_22 : decode cX0_at 22 = .ok (.iconst 0, 1) := by decide +kernel
theorem dX0_at_23 : decode cX0_at 23 = .ok (.ireturn, 1) := by decide +kernel
theorem dX0_put_0 : decode cX0_put 0 = .ok (.iload_n 1, 1) := by decide +kernel
theorem dX0_put_1 : decode cX0_put 1 = .ok (.ifCond .lt 19, 3) := by decide +kernel
theorem dX0_put_4 : decode cX0_put 4 = .ok (.iload_n 1, 1) := by decide +kernel
theorem dX0_put_5 : decode cX0_put 5 = .ok (.aload_n 0, 1) := by decide +kernel
theorem dX0_put_6 : decode cX0_put 6 = .ok (.getfield 9, 3) := by decide +kernel
theorem dX0_put_9 : decode cX0_put 9 = .ok (.arraylength, 1) := by decide +kernel
theorem dX0_put_10 : decode cX0_put 10 = .ok (.if_icmp .ge 10, 3) := by decide +kernel
theorem dX0_put_13 : decode cX0_put 13 = .ok (.aload_n 0, 1) := by decide +kernel
theorem dX0_put_14 : decode cX0_put 14 = .ok (.getfield 9, 3) := by decide +kernel
theorem dX0_put_17 : decode cX0_put 17 = .ok (.iload_n 1, 1) := by decide +kernel
theorem dX0_put_18 : decode cX0_put 18 = .ok (.iload_n 2, 1) := by decide +kernel
theorem dX0_put_19 : decode cX0_put 19 = .ok (.iastore, 1) := by decide +kernel
theorem dX0_put_20 : decode cX0_put 20 = .ok (.return_, 1) := by decide +kernel
theorem dX0_sumAt_0 : decode cX0_sumAt 0 = .ok (.aload_n 0, 1) := by decide +kernel
theorem dX0_sumAt_1 : decode cX0_sumAt 1 = .ok (.iload_n 1, 1) := by decide +kernel
theorem dX0_sumAt_2 : decode cX0_sumAt 2 = .ok (.iconst 1, 1) := by decide +kernel
theorem dX0_sumAt_3 : decode cX0_sumAt 3 = .ok (.iadd, 1) := by decide +kernel
theorem dX0_sumAt_4 : decode cX0_sumAt 4 = .ok (.invokevirtual 17, 3) := by decide +kernel
theorem dX0_sumAt_7 : decode cX0_sumAt 7 = .ok (.i2l, 1) := by decide +kernel
theorem dX0_sumAt_8 : decode cX0_sumAt 8 = .ok (.bipush 32, 2) := by decide +kernel
theorem dX0_sumAt_10 : decode cX0_sumAt 10 = .ok (.lshl, 1) := by decide +kernel
theorem dX0_sumAt_11 : decode cX0_sumAt 11 = .ok (.aload_n 0, 1) := by decide +kernel
theorem dX0_sumAt_12 : decode cX0_sumAt 12 = .ok (.iload_n 1, 1) := by decide +kernel
theorem dX0_sumAt_13 : decode cX0_sumAt 13 = .ok (.invokevirtual 17, 3) := by decide +kernel
theorem dX0_sumAt_16 : decode cX0_sumAt 16 = .ok (.i2l, 1) := by decide +kernel
theorem dX0_sumAt_17 : decode cX0_sumAt 17 = .ok (.ldc2_w 21, 3) := by decide +kernel
theorem dX0_sumAt_20 : decode cX0_sumAt 20 = .ok (.land, 1) := by decide +kernel
theorem dX0_sumAt_21 : decode cX0_sumAt 21 = .ok (.lor, 1) := by decide +kernel
theorem dX0_sumAt_22 : decode cX0_sumAt 22 = .ok (.lreturn, 1) := by decide +kernel
theorem dX0_piecesOf_0 : decode cX0_piecesOf 0 = .ok (.aload_n 0, 1) := by decide +kernel
theorem dX0_piecesOf_1 : decode cX0_piecesOf 1 = .ok (.iload_n 1, 1) := by decide +kernel
theorem dX0_piecesOf_2 : decode cX0_piecesOf 2 = .ok (.invokestatic 23, 3) := by decide +kernel
theorem dX0_piecesOf_5 : decode cX0_piecesOf 5 = .ok (.invokevirtual 17, 3) := by decide +kernel
theorem dX0_piecesOf_8 : decode cX0_piecesOf 8 = .ok (.ireturn, 1) := by decide +kernel
theorem dX0_centsOf_0 : decode cX0_centsOf 0 = .ok (.aload_n 0, 1) := by decide +kernel
theorem dX0_centsOf_1 : decode cX0_centsOf 1 = .ok (.iload_n 1, 1) := by decide +kernel
theorem dX0_centsOf_2 : decode cX0_centsOf 2 = .ok (.invokestatic 23, 3) := by decide +kernel
theorem dX0_centsOf_5 : decode cX0_centsOf 5 = .ok (.iconst 1, 1) := by decide +kernel
theorem dX0_centsOf_6 : decode cX0_centsOf 6 = .ok (.iadd, 1) := by decide +kernel
theorem dX0_centsOf_7 : decode cX0_centsOf 7 = .ok (.invokevirtual 26, 3) := by decide +kernel
theorem dX0_centsOf_10 : decode cX0_centsOf 10 = .ok (.lreturn, 1) := by decide +kernel
theorem dX0_piecesOn_0 : decode cX0_piecesOn 0 = .ok (.iload_n 1, 1) := by decide +kernel
theorem dX0_piecesOn_1 : decode cX0_piecesOn 1 = .ok (.invokestatic 30, 3) := by decide +kernel
theorem dX0_piecesOn_4 : decode cX0_piecesOn 4 = .ok (.istore_n 2, 1) := by decide +kernel
theorem dX0_piecesOn_5 : decode cX0_piecesOn 5 = .ok (.aload_n 0, 1) := by decide +kernel
theorem dX0_piecesOn_6 : decode cX0_piecesOn 6 = .ok (.iload_n 2, 1) := by decide +kernel
theorem dX0_piecesOn_7 : decode cX0_piecesOn 7 = .ok (.invokevirtual 17, 3) := by decide +kernel
theorem dX0_piecesOn_10 : decode cX0_piecesOn 10 = .ok (.iload_n 1, 1) := by decide +kernel
theorem dX0_piecesOn_11 : decode cX0_piecesOn 11 = .ok (.if_icmp .ne 13, 3) := by decide +kernel
theorem dX0_piecesOn_14 : decode cX0_piecesOn 14 = .ok (.aload_n 0, 1) := by decide +kernel
theorem dX0_piecesOn_15 : decode cX0_piecesOn 15 = .ok (.iload_n 2, 1) := by decide +kernel
theorem dX0_piecesOn_16 : decode cX0_piecesOn 16 = .ok (.iconst 1, 1) := by decide +kernel
theorem dX0_piecesOn_17 : decode cX0_piecesOn 17 = .ok (.iadd, 1) := by decide +kernel
theorem dX0_piecesOn_18 : decode cX0_piecesOn 18 = .ok (.invokevirtual 17, 3) := by decide +kernel
theorem dX0_piecesOn_21 : decode cX0_piecesOn 21 = .ok (.goto 4, 3) := by decide +kernel
theorem dX0_piecesOn_24 : decode cX0_piecesOn 24 = .ok (.iconst 0, 1) := by decide +kernel
theorem dX0_piecesOn_25 : decode cX0_piecesOn 25 = .ok (.ireturn, 1) := by decide +kernel
theorem dX0_centsOn_0 : decode cX0_centsOn 0 = .ok (.iload_n 1, 1) := by decide +kernel
theorem dX0_centsOn_1 : decode cX0_centsOn 1 = .ok (.invokestatic 30, 3) := by decide +kernel
theorem dX0_centsOn_4 : decode cX0_centsOn 4 = .ok (.istore_n 2, 1) := by decide +kernel
theorem dX0_centsOn_5 : decode cX0_centsOn 5 = .ok (.aload_n 0, 1) := by decide +kernel
theorem dX0_centsOn_6 : decode cX0_centsOn 6 = .ok (.iload_n 2, 1) := by decide +kernel
theorem dX0_centsOn_7 : decode cX0_centsOn 7 = .ok (.invokevirtual 17, 3) := by decide +kernel
theorem dX0_centsOn_10 : decode cX0_centsOn 10 = .ok (.iload_n 1, 1) := by decide +kernel
theorem dX0_centsOn_11 : decode cX0_centsOn 11 = .ok (.if_icmp .ne 13, 3) := by decide +kernel
theorem dX0_centsOn_14 : decode cX0_centsOn 14 = .ok (.aload_n 0, 1) := by decide +kernel
theorem dX0_centsOn_15 : decode cX0_centsOn 15 = .ok (.iload_n 2, 1) := by decide +kernel
theorem dX0_centsOn_16 : decode cX0_centsOn 16 = .ok (.iconst 2, 1) := by decide +kernel
theorem dX0_centsOn_17 : decode cX0_centsOn 17 = .ok (.iadd, 1) := by decide +kernel
theorem dX0_centsOn_18 : decode cX0_centsOn 18 = .ok (.invokevirtual 26, 3) := by decide +kernel
theorem dX0_centsOn_21 : decode cX0_centsOn 21 = .ok (.goto 4, 3) := by decide +kernel
theorem dX0_centsOn_24 : decode cX0_centsOn 24 = .ok (.lconst 0, 1) := by decide +kernel
theorem dX0_centsOn_25 : decode cX0_centsOn 25 = .ok (.lreturn, 1) := by decide +kernel
theorem dX0_registersAddUp_0 : decode cX0_registersAddUp 0 = .ok (.aload_n 0, 1) := by decide +kernel
theorem dX0_registersAddUp_1 : decode cX0_registersAddUp 1 = .ok (.iconst 0, 1) := by decide +kernel
theorem dX0_registersAddUp_2 : decode cX0_registersAddUp 2 = .ok (.invokevirtual 26, 3) := by decide +kernel
theorem dX0_registersAddUp_5 : decode cX0_registersAddUp 5 = .ok (.aload_n 0, 1) := by decide +kernel
theorem dX0_registersAddUp_6 : decode cX0_registersAddUp 6 = .ok (.iconst 2, 1) := by decide +kernel
theorem dX0_registersAddUp_7 : decode cX0_registersAddUp 7 = .ok (.invokevirtual 26, 3) := by decide +kernel
theorem dX0_registersAddUp_10 : decode cX0_registersAddUp 10 = .ok (.ladd, 1) := by decide +kernel
theorem dX0_registersAddUp_11 : decode cX0_registersAddUp 11 = .ok (.aload_n 0, 1) := by decide +kernel
theorem dX0_registersAddUp_12 : decode cX0_registersAddUp 12 = .ok (.iconst 4, 1) := by decide +kernel
theorem dX0_registersAddUp_13 : decode cX0_registersAddUp 13 = .ok (.invokevirtual 26, 3) := by decide +kernel
theorem dX0_registersAddUp_16 : decode cX0_registersAddUp 16 = .ok (.aload_n 0, 1) := by decide +kernel
theorem dX0_registersAddUp_17 : decode cX0_registersAddUp 17 = .ok (.bipush 6, 2) := by decide +kernel
theorem dX0_registersAddUp_19 : decode cX0_registersAddUp 19 = .ok (.invokevirtual 26, 3) := by decide +kernel
theorem dX0_registersAddUp_22 : decode cX0_registersAddUp 22 = .ok (.ladd, 1) := by decide +kernel
theorem dX0_registersAddUp_23 : decode cX0_registersAddUp 23 = .ok (.lcmp, 1) := by decide +kernel
theorem dX0_registersAddUp_24 : decode cX0_registersAddUp 24 = .ok (.ifCond .ne 7, 3) := by decide +kernel
theorem dX0_registersAddUp_27 : decode cX0_registersAddUp 27 = .ok (.iconst 1, 1) := by decide +kernel
theorem dX0_registersAddUp_28 : decode cX0_registersAddUp 28 = .ok (.goto 4, 3) := by decide +kernel
theorem dX0_registersAddUp_31 : decode cX0_registersAddUp 31 = .ok (.iconst 0, 1) := by decide +kernel
theorem dX0_registersAddUp_32 : decode cX0_registersAddUp 32 = .ok (.ireturn, 1) := by decide +kernel
theorem dX0_departmentsAddUp_0 : decode cX0_departmentsAddUp 0 = .ok (.lconst 0, 1) := by decide +kernel
theorem dX0_departmentsAddUp_1 : decode cX0_departmentsAddUp 1 = .ok (.lstore_n 1, 1) := by decide +kernel
theorem dX0_departmentsAddUp_2 : decode cX0_departmentsAddUp 2 = .ok (.lconst 0, 1) := by decide +kernel
theorem dX0_departmentsAddUp_3 : decode cX0_departmentsAddUp 3 = .ok (.lstore_n 3, 1) := by decide +kernel
theorem dX0_departmentsAddUp_4 : decode cX0_departmentsAddUp 4 = .ok (.iconst 0, 1) := by decide +kernel
theorem dX0_departmentsAddUp_5 : decode cX0_departmentsAddUp 5 = .ok (.istore 5, 2) := by decide +kernel
theorem dX0_departmentsAddUp_7 : decode cX0_departmentsAddUp 7 = .ok (.iload 5, 2) := by decide +kernel
theorem dX0_departmentsAddUp_9 : decode cX0_departmentsAddUp 9 = .ok (.bipush 16, 2) := by decide +kernel
theorem dX0_departmentsAddUp_11 : decode cX0_departmentsAddUp 11 = .ok (.if_icmp .ge 28, 3) := by decide +kernel
theorem dX0_departmentsAddUp_14 : decode cX0_departmentsAddUp 14 = .ok (.lload_n 1, 1) := by decide +kernel
theorem dX0_departmentsAddUp_15 : decode cX0_departmentsAddUp 15 = .ok (.aload_n 0, 1) := by decide +kernel
theorem dX0_departmentsAddUp_16 : decode cX0_departmentsAddUp 16 = .ok (.iload 5, 2) := by decide +kernel
theorem dX0_departmentsAddUp_18 : decode cX0_departmentsAddUp 18 = .ok (.invokevirtual 33, 3) := by decide +kernel
theorem dX0_departmentsAddUp_21 : decode cX0_departmentsAddUp 21 = .ok (.i2l, 1) := by decide +kernel
theorem dX0_departmentsAddUp_22 : decode cX0_departmentsAddUp 22 = .ok (.ladd, 1) := by decide +kernel
theorem dX0_departmentsAddUp_23 : decode cX0_departmentsAddUp 23 = .ok (.lstore_n 1, 1) := by decide +kernel
theorem dX0_departmentsAddUp_24 : decode cX0_departmentsAddUp 24 = .ok (.lload_n 3, 1) := by decide +kernel
theorem dX0_departmentsAddUp_25 : decode cX0_departmentsAddUp 25 = .ok (.aload_n 0, 1) := by decide +kernel
theorem dX0_departmentsAddUp_26 : decode cX0_departmentsAddUp 26 = .ok (.iload 5, 2) := by decide +kernel
theorem dX0_departmentsAddUp_28 : decode cX0_departmentsAddUp 28 = .ok (.invokevirtual 36, 3) := by decide +kernel
theorem dX0_departmentsAddUp_31 : decode cX0_departmentsAddUp 31 = .ok (.ladd, 1) := by decide +kernel
theorem dX0_departmentsAddUp_32 : decode cX0_departmentsAddUp 32 = .ok (.lstore_n 3, 1) := by decide +kernel
theorem dX0_departmentsAddUp_33 : decode cX0_departmentsAddUp 33 = .ok (.iinc 5 1, 3) := by decide +kernel
theorem dX0_departmentsAddUp_36 : decode cX0_departmentsAddUp 36 = .ok (.goto (-29), 3) := by decide +kernel
theorem dX0_departmentsAddUp_39 : decode cX0_departmentsAddUp 39 = .ok (.lload_n 1, 1) := by decide +kernel
theorem dX0_departmentsAddUp_40 : decode cX0_departmentsAddUp 40 = .ok (.aload_n 0, 1) := by decide +kernel
theorem dX0_departmentsAddUp_41 : decode cX0_departmentsAddUp 41 = .ok (.bipush 8, 2) := by decide +kernel
theorem dX0_departmentsAddUp_43 : decode cX0_departmentsAddUp 43 = .ok (.invokevirtual 17, 3) := by decide +kernel
theorem dX0_departmentsAddUp_46 : decode cX0_departmentsAddUp 46 = .ok (.i2l, 1) := by decide +kernel
theorem dX0_departmentsAddUp_47 : decode cX0_departmentsAddUp 47 = .ok (.lcmp, 1) := by decide +kernel
theorem dX0_departmentsAddUp_48 : decode cX0_departmentsAddUp 48 = .ok (.ifCond .ne 17, 3) := by decide +kernel
theorem dX0_departmentsAddUp_51 : decode cX0_departmentsAddUp 51 = .ok (.lload_n 3, 1) := by decide +kernel
theorem dX0_departmentsAddUp_52 : decode cX0_departmentsAddUp 52 = .ok (.aload_n 0, 1) := by decide +kernel
theorem dX0_departmentsAddUp_53 : decode cX0_departmentsAddUp 53 = .ok (.iconst 0, 1) := by decide +kernel
theorem dX0_departmentsAddUp_54 : decode cX0_departmentsAddUp 54 = .ok (.invokevirtual 26, 3) := by decide +kernel
theorem dX0_departmentsAddUp_57 : decode cX0_departmentsAddUp 57 = .ok (.lcmp, 1) := by decide +kernel
theorem dX0_departmentsAddUp_58 : decode cX0_departmentsAddUp 58 = .ok (.ifCond .ne 7, 3) := by decide +kernel
theorem dX0_departmentsAddUp_61 : decode cX0_departmentsAddUp 61 = .ok (.iconst 1, 1) := by decide +kernel
theorem dX0_departmentsAddUp_62 : decode cX0_departmentsAddUp 62 = .ok (.goto 4, 3) := by decide +kernel
theorem dX0_departmentsAddUp_65 : decode cX0_departmentsAddUp 65 = .ok (.iconst 0, 1) := by decide +kernel
theorem dX0_departmentsAddUp_66 : decode cX0_departmentsAddUp 66 = .ok (.ireturn, 1) := by decide +kernel
theorem dX0_apply_0 : decode cX0_apply 0 = .ok (.iload_n 1, 1) := by decide +kernel
theorem dX0_apply_1 : decode cX0_apply 1 = .ok (.tableswitch 173 1 9 #[51, 72, 82, 90, 111, 133, 143, 153, 163], 51) := by decide +kernel
theorem dX0_apply_52 : decode cX0_apply 52 = .ok (.aload_n 0, 1) := by decide +kernel
theorem dX0_apply_53 : decode cX0_apply 53 = .ok (.iload_n 2, 1) := by decide +kernel
theorem dX0_apply_54 : decode cX0_apply 54 = .ok (.iload_n 3, 1) := by decide +kernel
theorem dX0_apply_55 : decode cX0_apply 55 = .ok (.bipush 16, 2) := by decide +kernel
theorem dX0_apply_57 : decode cX0_apply 57 = .ok (.irem, 1) := by decide +kernel
theorem dX0_apply_58 : decode cX0_apply 58 = .ok (.invokevirtual 39, 3) := by decide +kernel
theorem dX0_apply_61 : decode cX0_apply 61 = .ok (.aload_n 0, 1) := by decide +kernel
theorem dX0_apply_62 : decode cX0_apply 62 = .ok (.iload_n 2, 1) := by decide +kernel
theorem dX0_apply_63 : decode cX0_apply 63 = .ok (.iload_n 3, 1) := by decide +kernel
theorem dX0_apply_64 : decode cX0_apply 64 = .ok (.bipush 16, 2) := by decide +kernel
theorem dX0_apply_66 : decode cX0_apply 66 = .ok (.idiv, 1) := by decide +kernel
theorem dX0_apply_67 : decode cX0_apply 67 = .ok (.invokevirtual 42, 3) := by decide +kernel
theorem dX0_apply_70 : decode cX0_apply 70 = .ok (.goto 104, 3) := by decide +kernel
theorem dX0_apply_73 : decode cX0_apply 73 = .ok (.aload_n 0, 1) := by decide +kernel
theorem dX0_apply_74 : decode cX0_apply 74 = .ok (.bipush 14, 2) := by decide +kernel
theorem dX0_apply_76 : decode cX0_apply 76 = .ok (.iconst 0, 1) := by decide +kernel
theorem dX0_apply_77 : decode cX0_apply 77 = .ok (.invokevirtual 13, 3) := by decide +kernel
theorem dX0_apply_80 : decode cX0_apply 80 = .ok (.goto 94, 3) := by decide +kernel
theorem dX0_apply_83 : decode cX0_apply 83 = .ok (.aload_n 0, 1) := by decide +kernel
theorem dX0_apply_84 : decode cX0_apply 84 = .ok (.iload_n 2, 1) := by decide +kernel
theorem dX0_apply_85 : decode cX0_apply 85 = .ok (.invokevirtual 45, 3) := by decide +kernel
theorem dX0_apply_88 : decode cX0_apply 88 = .ok (.goto 86, 3) := by decide +kernel
theorem dX0_apply_91 : decode cX0_apply 91 = .ok (.aload_n 0, 1) := by decide +kernel
theorem dX0_apply_92 : decode cX0_apply 92 = .ok (.iconst 2, 1) := by decide +kernel
theorem dX0_apply_93 : decode cX0_apply 93 = .ok (.iload_n 2, 1) := by decide +kernel
theorem dX0_apply_94 : decode cX0_apply 94 = .ok (.invokevirtual 49, 3) := by decide +kernel
theorem dX0_apply_97 : decode cX0_apply 97 = .ok (.aload_n 0, 1) := by decide +kernel
theorem dX0_apply_98 : decode cX0_apply 98 = .ok (.iconst 4, 1) := by decide +kernel
theorem dX0_apply_99 : decode cX0_apply 99 = .ok (.iload_n 2, 1) := by decide +kernel
theorem dX0_apply_100 : decode cX0_apply 100 = .ok (.invokevirtual 49, 3) := by decide +kernel
theorem dX0_apply_103 : decode cX0_apply 103 = .ok (.aload_n 0, 1) := by decide +kernel
theorem dX0_apply_104 : decode cX0_apply 104 = .ok (.bipush 10, 2) := by decide +kernel
theorem dX0_apply_106 : decode cX0_apply 106 = .ok (.invokevirtual 52, 3) := by decide +kernel
theorem dX0_apply_109 : decode cX0_apply 109 = .ok (.goto 65, 3) := by decide +kernel
theorem dX0_apply_112 : decode cX0_apply 112 = .ok (.aload_n 0, 1) := by decide +kernel
theorem dX0_apply_113 : decode cX0_apply 113 = .ok (.iconst 2, 1) := by decide +kernel
theorem dX0_apply_114 : decode cX0_apply 114 = .ok (.iload_n 2, 1) := by decide +kernel
theorem dX0_apply_115 : decode cX0_apply 115 = .ok (.invokevirtual 49, 3) := by decide +kernel
theorem dX0_apply_118 : decode cX0_apply 118 = .ok (.aload_n 0, 1) := by decide +kernel
theorem dX0_apply_119 : decode cX0_apply 119 = .ok (.bipush 6, 2) := by decide +kernel
theorem dX0_apply_121 : decode cX0_apply 121 = .ok (.iload_n 2, 1) := by decide +kernel
theorem dX0_apply_122 : decode cX0_apply 122 = .ok (.invokevirtual 49, 3) := by decide +kernel
theorem dX0_apply_125 : decode cX0_apply 125 = .ok (.aload_n 0, 1) := by decide +kernel
theorem dX0_apply_126 : decode cX0_apply 126 = .ok (.bipush 9, 2) := by decide +kernel
theorem dX0_apply_128 : decode cX0_apply 128 = .ok (.invokevirtual 52, 3) := by decide +kernel
theorem dX0_apply_131 : decode cX0_apply 131 = .ok (.goto 43, 3) := by decide +kernel
theorem dX0_apply_134 : decode cX0_apply 134 = .ok (.aload_n 0, 1) := by decide +kernel
theorem dX0_apply_135 : decode cX0_apply 135 = .ok (.bipush 12, 2) := by decide +kernel
theorem dX0_apply_137 : decode cX0_apply 137 = .ok (.iload_n 2, 1) := by decide +kernel
theorem dX0_apply_138 : decode cX0_apply 138 = .ok (.invokevirtual 13, 3) := by decide +kernel
theorem dX0_apply_141 : decode cX0_apply 141 = .ok (.goto 33, 3) := by decide +kernel
theorem dX0_apply_144 : decode cX0_apply 144 = .ok (.aload_n 0, 1) := by decide +kernel
theorem dX0_apply_145 : decode cX0_apply 145 = .ok (.bipush 11, 2) := by decide +kernel
theorem dX0_apply_147 : decode cX0_apply 147 = .ok (.iconst 1, 1) := by decide +kernel
theorem dX0_apply_148 : decode cX0_apply 148 = .ok (.invokevirtual 13, 3) := by decide +kernel
theorem dX0_apply_151 : decode cX0_apply 151 = .ok (.goto 23, 3) := by decide +kernel
theorem dX0_apply_154 : decode cX0_apply 154 = .ok (.aload_n 0, 1) := by decide +kernel
theorem dX0_apply_155 : decode cX0_apply 155 = .ok (.bipush 11, 2) := by decide +kernel
theorem dX0_apply_157 : decode cX0_apply 157 = .ok (.iconst 0, 1) := by decide +kernel
theorem dX0_apply_158 : decode cX0_apply 158 = .ok (.invokevirtual 13, 3) := by decide +kernel
theorem dX0_apply_161 : decode cX0_apply 161 = .ok (.goto 13, 3) := by decide +kernel
theorem dX0_apply_164 : decode cX0_apply 164 = .ok (.aload_n 0, 1) := by decide +kernel
theorem dX0_apply_165 : decode cX0_apply 165 = .ok (.bipush 13, 2) := by decide +kernel
theorem dX0_apply_167 : decode cX0_apply 167 = .ok (.iload_n 2, 1) := by decide +kernel
theorem dX0_apply_168 : decode cX0_apply 168 = .ok (.invokevirtual 13, 3) := by decide +kernel
theorem dX0_apply_171 : decode cX0_apply 171 = .ok (.goto 3, 3) := by decide +kernel
theorem dX0_apply_174 : decode cX0_apply 174 = .ok (.return_, 1) := by decide +kernel
theorem dX0_addPiece_0 : decode cX0_addPiece 0 = .ok (.aload_n 0, 1) := by decide +kernel
theorem dX0_addPiece_1 : decode cX0_addPiece 1 = .ok (.iconst 0, 1) := by decide +kernel
theorem dX0_addPiece_2 : decode cX0_addPiece 2 = .ok (.iload_n 1, 1) := by decide +kernel
theorem dX0_addPiece_3 : decode cX0_addPiece 3 = .ok (.invokevirtual 49, 3) := by decide +kernel
theorem dX0_addPiece_6 : decode cX0_addPiece 6 = .ok (.aload_n 0, 1) := by decide +kernel
theorem dX0_addPiece_7 : decode cX0_addPiece 7 = .ok (.iconst 2, 1) := by decide +kernel
theorem dX0_addPiece_8 : decode cX0_addPiece 8 = .ok (.iload_n 1, 1) := by decide +kernel
theorem dX0_addPiece_9 : decode cX0_addPiece 9 = .ok (.ineg, 1) := by decide +kernel
theorem dX0_addPiece_10 : decode cX0_addPiece 10 = .ok (.invokevirtual 49, 3) := by decide +kernel
theorem dX0_addPiece_13 : decode cX0_addPiece 13 = .ok (.aload_n 0, 1) := by decide +kernel
theorem dX0_addPiece_14 : decode cX0_addPiece 14 = .ok (.bipush 8, 2) := by decide +kernel
theorem dX0_addPiece_16 : decode cX0_addPiece 16 = .ok (.invokevirtual 52, 3) := by decide +kernel
theorem dX0_addPiece_19 : decode cX0_addPiece 19 = .ok (.aload_n 0, 1) := by decide +kernel
theorem dX0_addPiece_20 : decode cX0_addPiece 20 = .ok (.iload_n 2, 1) := by decide +kernel
theorem dX0_addPiece_21 : decode cX0_addPiece 21 = .ok (.invokestatic 23, 3) := by decide +kernel
theorem dX0_addPiece_24 : decode cX0_addPiece 24 = .ok (.invokevirtual 52, 3) := by decide +kernel
theorem dX0_addPiece_27 : decode cX0_addPiece 27 = .ok (.aload_n 0, 1) := by decide +kernel
theorem dX0_addPiece_28 : decode cX0_addPiece 28 = .ok (.iload_n 2, 1) := by decide +kernel
theorem dX0_addPiece_29 : decode cX0_addPiece 29 = .ok (.invokestatic 23, 3) := by decide +kernel
theorem dX0_addPiece_32 : decode cX0_addPiece 32 = .ok (.iconst 1, 1) := by decide +kernel
theorem dX0_addPiece_33 : decode cX0_addPiece 33 = .ok (.iadd, 1) := by decide +kernel
theorem dX0_addPiece_34 : decode cX0_addPiece 34 = .ok (.iload_n 1, 1) := by decide +kernel
theorem dX0_addPiece_35 : decode cX0_addPiece 35 = .ok (.invokevirtual 49, 3) := by decide +kernel
theorem dX0_addPiece_38 : decode cX0_addPiece 38 = .ok (.aload_n 0, 1) := by decide +kernel
theorem dX0_addPiece_39 : decode cX0_addPiece 39 = .ok (.bipush 14, 2) := by decide +kernel
theorem dX0_addPiece_41 : decode cX0_addPiece 41 = .ok (.iload_n 1, 1) := by decide +kernel
theorem dX0_addPiece_42 : decode cX0_addPiece 42 = .ok (.invokevirtual 13, 3) := by decide +kernel
theorem dX0_addPiece_45 : decode cX0_addPiece 45 = .ok (.return_, 1) := by decide +kernel
theorem dX0_addToDay_0 : decode cX0_addToDay 0 = .ok (.iload_n 2, 1) := by decide +kernel
theorem dX0_addToDay_1 : decode cX0_addToDay 1 = .ok (.invokestatic 30, 3) := by decide +kernel
theorem dX0_addToDay_4 : decode cX0_addToDay 4 = .ok (.istore_n 3, 1) := by decide +kernel
theorem dX0_addToDay_5 : decode cX0_addToDay 5 = .ok (.aload_n 0, 1) := by decide +kernel
theorem dX0_addToDay_6 : decode cX0_addToDay 6 = .ok (.iload_n 3, 1) := by decide +kernel
theorem dX0_addToDay_7 : decode cX0_addToDay 7 = .ok (.invokevirtual 17, 3) := by decide +kernel
theorem dX0_addToDay_10 : decode cX0_addToDay 10 = .ok (.iconst (-1), 1) := by decide +kernel
theorem dX0_addToDay_11 : decode cX0_addToDay 11 = .ok (.if_icmp .eq 12, 3) := by decide +kernel
theorem dX0_addToDay_14 : decode cX0_addToDay 14 = .ok (.aload_n 0, 1) := by decide +kernel
theorem dX0_addToDay_15 : decode cX0_addToDay 15 = .ok (.iload_n 3, 1) := by decide +kernel
theorem dX0_addToDay_16 : decode cX0_addToDay 16 = .ok (.invokevirtual 17, 3) := by decide +kernel
theorem dX0_addToDay_19 : decode cX0_addToDay 19 = .ok (.iload_n 2, 1) := by decide +kernel
theorem dX0_addToDay_20 : decode cX0_addToDay 20 = .ok (.if_icmp .ge 33, 3) := by decide +kernel
theorem dX0_addToDay_23 : decode cX0_addToDay 23 = .ok (.aload_n 0, 1) := by decide +kernel
theorem dX0_addToDay_24 : decode cX0_addToDay 24 = .ok (.iload_n 3, 1) := by decide +kernel
theorem dX0_addToDay_25 : decode cX0_addToDay 25 = .ok (.iload_n 2, 1) := by decide +kernel
theorem dX0_addToDay_26 : decode cX0_addToDay 26 = .ok (.invokevirtual 13, 3) := by decide +kernel
theorem dX0_addToDay_29 : decode cX0_addToDay 29 = .ok (.aload_n 0, 1) := by decide +kernel
theorem dX0_addToDay_30 : decode cX0_addToDay 30 = .ok (.iload_n 3, 1) := by decide +kernel
theorem dX0_addToDay_31 : decode cX0_addToDay 31 = .ok (.iconst 1, 1) := by decide +kernel
theorem dX0_addToDay_32 : decode cX0_addToDay 32 = .ok (.iadd, 1) := by decide +kernel
theorem dX0_addToDay_33 : decode cX0_addToDay 33 = .ok (.iconst 0, 1) := by decide +kernel
theorem dX0_addToDay_34 : decode cX0_addToDay 34 = .ok (.invokevirtual 13, 3) := by decide +kernel
theorem dX0_addToDay_37 : decode cX0_addToDay 37 = .ok (.aload_n 0, 1) := by decide +kernel
theorem dX0_addToDay_38 : decode cX0_addToDay 38 = .ok (.iload_n 3, 1) := by decide +kernel
theorem dX0_addToDay_39 : decode cX0_addToDay 39 = .ok (.iconst 2, 1) := by decide +kernel
theorem dX0_addToDay_40 : decode cX0_addToDay 40 = .ok (.iadd, 1) := by decide +kernel
theorem dX0_addToDay_41 : decode cX0_addToDay 41 = .ok (.iconst 0, 1) := by decide +kernel
theorem dX0_addToDay_42 : decode cX0_addToDay 42 = .ok (.invokevirtual 13, 3) := by decide +kernel
theorem dX0_addToDay_45 : decode cX0_addToDay 45 = .ok (.aload_n 0, 1) := by decide +kernel
theorem dX0_addToDay_46 : decode cX0_addToDay 46 = .ok (.iload_n 3, 1) := by decide +kernel
theorem dX0_addToDay_47 : decode cX0_addToDay 47 = .ok (.iconst 3, 1) := by decide +kernel
theorem dX0_addToDay_48 : decode cX0_addToDay 48 = .ok (.iadd, 1) := by decide +kernel
theorem dX0_addToDay_49 : decode cX0_addToDay 49 = .ok (.iconst 0, 1) := by decide +kernel
theorem dX0_addToDay_50 : decode cX0_addToDay 50 = .ok (.invokevirtual 13, 3) := by decide +kernel
theorem dX0_addToDay_53 : decode cX0_addToDay 53 = .ok (.aload_n 0, 1) := by decide +kernel
theorem dX0_addToDay_54 : decode cX0_addToDay 54 = .ok (.iload_n 3, 1) := by decide +kernel
theorem dX0_addToDay_55 : decode cX0_addToDay 55 = .ok (.invokevirtual 17, 3) := by decide +kernel
theorem dX0_addToDay_58 : decode cX0_addToDay 58 = .ok (.iload_n 2, 1) := by decide +kernel
theorem dX0_addToDay_59 : decode cX0_addToDay 59 = .ok (.if_icmp .ne 18, 3) := by decide +kernel
theorem dX0_addToDay_62 : decode cX0_addToDay 62 = .ok (.aload_n 0, 1) := by decide +kernel
theorem dX0_addToDay_63 : decode cX0_addToDay 63 = .ok (.iload_n 3, 1) := by decide +kernel
theorem dX0_addToDay_64 : decode cX0_addToDay 64 = .ok (.iconst 1, 1) := by decide +kernel
theorem dX0_addToDay_65 : decode cX0_addToDay 65 = .ok (.iadd, 1) := by decide +kernel
theorem dX0_addToDay_66 : decode cX0_addToDay 66 = .ok (.invokevirtual 52, 3) := by decide +kernel
theorem dX0_addToDay_69 : decode cX0_addToDay 69 = .ok (.aload_n 0, 1) := by decide +kernel
theorem dX0_addToDay_70 : decode cX0_addToDay 70 = .ok (.iload_n 3, 1) := by decide +kernel
theorem dX0_addToDay_71 : decode cX0_addToDay 71 = .ok (.iconst 2, 1) := by decide +kernel
theorem dX0_addToDay_72 : decode cX0_addToDay 72 = .ok (.iadd, 1) := by decide +kernel
theorem dX0_addToDay_73 : decode cX0_addToDay 73 = .ok (.iload_n 1, 1) := by decide +kernel
theorem dX0_addToDay_74 : decode cX0_addToDay 74 = .ok (.invokevirtual 49, 3) := by decide +kernel
theorem dX0_addToDay_77 : decode cX0_addToDay 77 = .ok (.return_, 1) := by decide +kernel
theorem dX0_settleFor_0 : decode cX0_settleFor 0 = .ok (.iload_n 1, 1) := by decide +kernel
theorem dX0_settleFor_1 : decode cX0_settleFor 1 = .ok (.ifCond .ne 26, 3) := by decide +kernel
theorem dX0_settleFor_4 : decode cX0_settleFor 4 = .ok (.aload_n 0, 1) := by decide +kernel
theorem dX0_settleFor_5 : decode cX0_settleFor 5 = .ok (.iconst 2, 1) := by decide +kernel
theorem dX0_settleFor_6 : decode cX0_settleFor 6 = .ok (.aload_n 0, 1) := by decide +kernel
theorem dX0_settleFor_7 : decode cX0_settleFor 7 = .ok (.bipush 14, 2) := by decide +kernel
theorem dX0_settleFor_9 : decode cX0_settleFor 9 = .ok (.invokevirtual 17, 3) := by decide +kernel
theorem dX0_settleFor_12 : decode cX0_settleFor 12 = .ok (.invokevirtual 49, 3) := by decide +kernel
theorem dX0_settleFor_15 : decode cX0_settleFor 15 = .ok (.aload_n 0, 1) := by decide +kernel
theorem dX0_settleFor_16 : decode cX0_settleFor 16 = .ok (.bipush 6, 2) := by decide +kernel
theorem dX0_settleFor_18 : decode cX0_settleFor 18 = .ok (.aload_n 0, 1) := by decide +kernel
theorem dX0_settleFor_19 : decode cX0_settleFor 19 = .ok (.bipush 14, 2) := by decide +kernel
theorem dX0_settleFor_21 : decode cX0_settleFor 21 = .ok (.invokevirtual 17, 3) := by decide +kernel
theorem dX0_settleFor_24 : decode cX0_settleFor 24 = .ok (.invokevirtual 49, 3) := by decide +kernel
theorem dX0_settleFor_27 : decode cX0_settleFor 27 = .ok (.aload_n 0, 1) := by decide +kernel
theorem dX0_settleFor_28 : decode cX0_settleFor 28 = .ok (.bipush 14, 2) := by decide +kernel
theorem dX0_settleFor_30 : decode cX0_settleFor 30 = .ok (.iconst 0, 1) := by decide +kernel
theorem dX0_settleFor_31 : decode cX0_settleFor 31 = .ok (.invokevirtual 13, 3) := by decide +kernel
theorem dX0_settleFor_34 : decode cX0_settleFor 34 = .ok (.return_, 1) := by decide +kernel
theorem dX0_addOne_0 : decode cX0_addOne 0 = .ok (.aload_n 0, 1) := by decide +kernel
theorem dX0_addOne_1 : decode cX0_addOne 1 = .ok (.iload_n 1, 1) := by decide +kernel
theorem dX0_addOne_2 : decode cX0_addOne 2 = .ok (.aload_n 0, 1) := by decide +kernel
theorem dX0_addOne_3 : decode cX0_addOne 3 = .ok (.iload_n 1, 1) := by decide +kernel
theorem dX0_addOne_4 : decode cX0_addOne 4 = .ok (.invokevirtual 17, 3) := by decide +kernel
theorem dX0_addOne_7 : decode cX0_addOne 7 = .ok (.iconst 1, 1) := by decide +kernel
theorem dX0_addOne_8 : decode cX0_addOne 8 = .ok (.iadd, 1) := by decide +kernel
theorem dX0_addOne_9 : decode cX0_addOne 9 = .ok (.invokevirtual 13, 3) := by decide +kernel
theorem dX0_addOne_12 : decode cX0_addOne 12 = .ok (.return_, 1) := by decide +kernel
theorem dX0_addToSum_0 : decode cX0_addToSum 0 = .ok (.aload_n 0, 1) := by decide +kernel
theorem dX0_addToSum_1 : decode cX0_addToSum 1 = .ok (.iload_n 1, 1) := by decide +kernel
theorem dX0_addToSum_2 : decode cX0_addToSum 2 = .ok (.invokevirtual 26, 3) := by decide +kernel
theorem dX0_addToSum_5 : decode cX0_addToSum 5 = .ok (.iload_n 2, 1) := by decide +kernel
theorem dX0_addToSum_6 : decode cX0_addToSum 6 = .ok (.i2l, 1) := by decide +kernel
theorem dX0_addToSum_7 : decode cX0_addToSum 7 = .ok (.ladd, 1) := by decide +kernel
theorem dX0_addToSum_8 : decode cX0_addToSum 8 = .ok (.lstore_n 3, 1) := by decide +kernel
theorem dX0_addToSum_9 : decode cX0_addToSum 9 = .ok (.aload_n 0, 1) := by decide +kernel
theorem dX0_addToSum_10 : decode cX0_addToSum 10 = .ok (.iload_n 1, 1) := by decide +kernel
theorem dX0_addToSum_11 : decode cX0_addToSum 11 = .ok (.lload_n 3, 1) := by decide +kernel
theorem dX0_addToSum_12 : decode cX0_addToSum 12 = .ok (.l2i, 1) := by decide +kernel
theorem dX0_addToSum_13 : decode cX0_addToSum 13 = .ok (.invokevirtual 13, 3) := by decide +kernel
theorem dX0_addToSum_16 : decode cX0_addToSum 16 = .ok (.aload_n 0, 1) := by decide +kernel
theorem dX0_addToSum_17 : decode cX0_addToSum 17 = .ok (.iload_n 1, 1) := by decide +kernel
theorem dX0_addToSum_18 : decode cX0_addToSum 18 = .ok (.iconst 1, 1) := by decide +kernel
theorem dX0_addToSum_19 : decode cX0_addToSum 19 = .ok (.iadd, 1) := by decide +kernel
theorem dX0_addToSum_20 : decode cX0_addToSum 20 = .ok (.lload_n 3, 1) := by decide +kernel
theorem dX0_addToSum_21 : decode cX0_addToSum 21 = .ok (.bipush 32, 2) := by decide +kernel
theorem dX0_addToSum_23 : decode cX0_addToSum 23 = .ok (.lushr, 1) := by decide +kernel
theorem dX0_addToSum_24 : decode cX0_addToSum 24 = .ok (.l2i, 1) := by decide +kernel
theorem dX0_addToSum_25 : decode cX0_addToSum 25 = .ok (.invokevirtual 13, 3) := by decide +kernel
theorem dX0_addToSum_28 : decode cX0_addToSum 28 = .ok (.return_, 1) := by decide +kernel
theorem dX0_departmentAt_0 : decode cX0_departmentAt 0 = .ok (.bipush 15, 2) := by decide +kernel
theorem dX0_departmentAt_2 : decode cX0_departmentAt 2 = .ok (.iload_n 0, 1) := by decide +kernel
theorem dX0_departmentAt_3 : decode cX0_departmentAt 3 = .ok (.iconst 3, 1) := by decide +kernel
theorem dX0_departmentAt_4 : decode cX0_departmentAt 4 = .ok (.imul, 1) := by decide +kernel
theorem dX0_departmentAt_5 : decode cX0_departmentAt 5 = .ok (.iadd, 1) := by decide +kernel
theorem dX0_departmentAt_6 : decode cX0_departmentAt 6 = .ok (.ireturn, 1) := by decide +kernel
theorem dX0_placeOfDay_0 : decode cX0_placeOfDay 0 = .ok (.bipush 63, 2) := by decide +kernel
theorem dX0_placeOfDay_2 : decode cX0_placeOfDay 2 = .ok (.iload_n 0, 1) := by decide +kernel
theorem dX0_placeOfDay_3 : decode cX0_placeOfDay 3 = .ok (.bipush 32, 2) := by decide +kernel
theorem dX0_placeOfDay_5 : decode cX0_placeOfDay 5 = .ok (.irem, 1) := by decide +kernel
theorem dX0_placeOfDay_6 : decode cX0_placeOfDay 6 = .ok (.iconst 4, 1) := by decide +kernel
theorem dX0_placeOfDay_7 : decode cX0_placeOfDay 7 = .ok (.imul, 1) := by decide +kernel
theorem dX0_placeOfDay_8 : decode cX0_placeOfDay 8 = .ok (.iadd, 1) := by decide +kernel
theorem dX0_placeOfDay_9 : decode cX0_placeOfDay 9 = .ok (.ireturn, 1) := by decide +kernel
theorem dX1_init_0 : decode cX1_init 0 = .ok (.aload_n 0, 1) := by decide +kernel
theorem dX1_init_1 : decode cX1_init 1 = .ok (.invokespecial 7, 3) := by decide +kernel
theorem dX1_init_4 : decode cX1_init 4 = .ok (.aload_n 0, 1) := by decide +kernel
theorem dX1_init_5 : decode cX1_init 5 = .ok (.aload_n 1, 1) := by decide +kernel
theorem dX1_init_6 : decode cX1_init 6 = .ok (.putfield 13, 3) := by decide +kernel
theorem dX1_init_9 : decode cX1_init 9 = .ok (.aload_n 0, 1) := by decide +kernel
theorem dX1_init_10 : decode cX1_init 10 = .ok (.aload_n 2, 1) := by decide +kernel
theorem dX1_init_11 : decode cX1_init 11 = .ok (.putfield 17, 3) := by decide +kernel
theorem dX1_init_14 : decode cX1_init 14 = .ok (.aload_n 0, 1) := by decide +kernel
theorem dX1_init_15 : decode cX1_init 15 = .ok (.iconst 0, 1) := by decide +kernel
theorem dX1_init_16 : decode cX1_init 16 = .ok (.iconst 1, 1) := by decide +kernel
theorem dX1_init_17 : decode cX1_init 17 = .ok (.invokevirtual 21, 3) := by decide +kernel
theorem dX1_init_20 : decode cX1_init 20 = .ok (.pop, 1) := by decide +kernel
theorem dX1_init_21 : decode cX1_init 21 = .ok (.return_, 1) := by decide +kernel
theorem dX1_lastNumber_0 : decode cX1_lastNumber 0 = .ok (.aload_n 0, 1) := by decide +kernel
theorem dX1_lastNumber_1 : decode cX1_lastNumber 1 = .ok (.getfield 25, 3) := by decide +kernel
theorem dX1_lastNumber_4 : decode cX1_lastNumber 4 = .ok (.ireturn, 1) := by decide +kernel
theorem dX1_append_0 : decode cX1_append 0 = .ok (.aload_n 0, 1) := by decide +kernel
theorem dX1_append_1 : decode cX1_append 1 = .ok (.invokevirtual 29, 3) := by decide +kernel
theorem dX1_append_4 : decode cX1_append 4 = .ok (.ifCond .ne 36, 3) := by decide +kernel
theorem dX1_append_7 : decode cX1_append 7 = .ok (.aload_n 0, 1) := by decide +kernel
theorem dX1_append_8 : decode cX1_append 8 = .ok (.aload_n 0, 1) := by decide +kernel
theorem dX1_append_9 : decode cX1_append 9 = .ok (.getfield 33, 3) := by decide +kernel
theorem dX1_append_12 : decode cX1_append 12 = .ok (.iconst 1, 1) := by decide +kernel
theorem dX1_append_13 : decode cX1_append 13 = .ok (.iadd, 1) := by decide +kernel
theorem dX1_append_14 : decode cX1_append 14 = .ok (.bipush 16, 2) := by decide +kernel
theorem dX1_append_16 : decode cX1_append 16 = .ok (.irem, 1) := by decide +kernel
theorem dX1_append_17 : decode cX1_append 17 = .ok (.aload_n 0, 1) := by decide +kernel
theorem dX1_append_18 : decode cX1_append 18 = .ok (.getfield 13, 3) := by decide +kernel
theorem dX1_append_21 : decode cX1_append 21 = .ok (.aload_n 0, 1) := by decide +kernel
theorem dX1_append_22 : decode cX1_append 22 = .ok (.getfield 33, 3) := by decide +kernel
theorem dX1_append_25 : decode cX1_append 25 = .ok (.iconst 0, 1) := by decide +kernel
theorem dX1_append_26 : decode cX1_append 26 = .ok (.invokevirtual 38, 3) := by decide +kernel
theorem dX1_append_29 : decode cX1_append 29 = .ok (.iconst 1, 1) := by decide +kernel
theorem dX1_append_30 : decode cX1_append 30 = .ok (.iadd, 1) := by decide +kernel
theorem dX1_append_31 : decode cX1_append 31 = .ok (.invokevirtual 21, 3) := by decide +kernel
theorem dX1_append_34 : decode cX1_append 34 = .ok (.ifCond .ne 6, 3) := by decide +kernel
theorem dX1_append_37 : decode cX1_append 37 = .ok (.bipush (-7), 2) := by decide +kernel
theorem dX1_append_39 : decode cX1_append 39 = .ok (.ireturn, 1) := by decide +kernel
theorem dX1_append_40 : decode cX1_append 40 = .ok (.aload_n 0, 1) := by decide +kernel
theorem dX1_append_41 : decode cX1_append 41 = .ok (.getfield 42, 3) := by decide +kernel
theorem dX1_append_44 : decode cX1_append 44 = .ok (.invokestatic 45, 3) := by decide +kernel
theorem dX1_append_47 : decode cX1_append 47 = .ok (.istore 4, 2) := by decide +kernel
theorem dX1_append_49 : decode cX1_append 49 = .ok (.aload_n 0, 1) := by decide +kernel
theorem dX1_append_50 : decode cX1_append 50 = .ok (.getfield 13, 3) := by decide +kernel
theorem dX1_append_53 : decode cX1_append 53 = .ok (.aload_n 0, 1) := by decide +kernel
theorem dX1_append_54 : decode cX1_append 54 = .ok (.getfield 33, 3) := by decide +kernel
theorem dX1_append_57 : decode cX1_append 57 = .ok (.iload 4, 2) := by decide +kernel
theorem dX1_append_59 : decode cX1_append 59 = .ok (.aload_n 0, 1) := by decide +kernel
theorem dX1_append_60 : decode cX1_append 60 = .ok (.getfield 25, 3) := by decide +kernel
theorem dX1_append_63 : decode cX1_append 63 = .ok (.iconst 1, 1) := by decide +kernel
theorem dX1_append_64 : decode cX1_append 64 = .ok (.iadd, 1) := by decide +kernel
theorem dX1_append_65 : decode cX1_append 65 = .ok (.invokevirtual 49, 3) := by decide +kernel
theorem dX1_append_68 : decode cX1_append 68 = .ok (.ifCond .eq 96, 3) := by decide +kernel
theorem dX1_append_71 : decode cX1_append 71 = .ok (.aload_n 0, 1) := by decide +kernel
theorem dX1_append_72 : decode cX1_append 72 = .ok (.getfield 13, 3) := by decide +kernel
theorem dX1_append_75 : decode cX1_append 75 = .ok (.aload_n 0, 1) := by decide +kernel
theorem dX1_append_76 : decode cX1_append 76 = .ok (.getfield 33, 3) := by decide +kernel
theorem dX1_append_79 : decode cX1_append 79 = .ok (.iload 4, 2) := by decide +kernel
theorem dX1_append_81 : decode cX1_append 81 = .ok (.iconst 1, 1) := by decide +kernel
theorem dX1_append_82 : decode cX1_append 82 = .ok (.iadd, 1) := by decide +kernel
theorem dX1_append_83 : decode cX1_append 83 = .ok (.iload_n 1, 1) := by decide +kernel
theorem dX1_append_84 : decode cX1_append 84 = .ok (.invokevirtual 49, 3) := by decide +kernel
theorem dX1_append_87 : decode cX1_append 87 = .ok (.ifCond .eq 77, 3) := by decide +kernel
theorem dX1_append_90 : decode cX1_append 90 = .ok (.aload_n 0, 1) := by decide +kernel
theorem dX1_append_91 : decode cX1_append 91 = .ok (.getfield 13, 3) := by decide +kernel
theorem dX1_append_94 : decode cX1_append 94 = .ok (.aload_n 0, 1) := by decide +kernel
theorem dX1_append_95 : decode cX1_append 95 = .ok (.getfield 33, 3) := by decide +kernel
theorem dX1_append_98 : decode cX1_append 98 = .ok (.iload 4, 2) := by decide +kernel
theorem dX1_append_100 : decode cX1_append 100 = .ok (.iconst 2, 1) := by decide +kernel
theorem dX1_append_101 : decode cX1_append 101 = .ok (.iadd, 1) := by decide +kernel
theorem dX1_append_102 : decode cX1_append 102 = .ok (.iload_n 2, 1) := by decide +kernel
theorem dX1_append_103 : decode cX1_append 103 = .ok (.invokevirtual 49, 3) := by decide +kernel
theorem dX1_append_106 : decode cX1_append 106 = .ok (.ifCond .eq 58, 3) := by decide +kernel
theorem dX1_append_109 : decode cX1_append 109 = .ok (.aload_n 0, 1) := by decide +kernel
theorem dX1_append_110 : decode cX1_append 110 = .ok (.getfield 13, 3) := by decide +kernel
theorem dX1_append_113 : decode cX1_append 113 = .ok (.aload_n 0, 1) := by decide +kernel
theorem dX1_append_114 : decode cX1_append 114 = .ok (.getfield 33, 3) := by decide +kernel
theorem dX1_append_117 : decode cX1_append 117 = .ok (.iload 4, 2) := by decide +kernel
theorem dX1_append_119 : decode cX1_append 119 = .ok (.iconst 3, 1) := by decide +kernel
theorem dX1_append_120 : decode cX1_append 120 = .ok (.iadd, 1) := by decide +kernel
theorem dX1_append_121 : decode cX1_append 121 = .ok (.iload_n 3, 1) := by decide +kernel
theorem dX1_append_122 : decode cX1_append 122 = .ok (.invokevirtual 49, 3) := by decide +kernel
theorem dX1_append_125 : decode cX1_append 125 = .ok (.ifCond .eq 39, 3) := by decide +kernel
theorem dX1_append_128 : decode cX1_append 128 = .ok (.aload_n 0, 1) := by decide +kernel
theorem dX1_append_129 : decode cX1_append 129 = .ok (.getfield 13, 3) := by decide +kernel
theorem dX1_append_132 : decode cX1_append 132 = .ok (.aload_n 0, 1) := by decide +kernel
theorem dX1_append_133 : decode cX1_append 133 = .ok (.getfield 33, 3) := by decide +kernel
theorem dX1_append_136 : decode cX1_append 136 = .ok (.iload 4, 2) := by decide +kernel
theorem dX1_append_138 : decode cX1_append 138 = .ok (.iconst 4, 1) := by decide +kernel
theorem dX1_append_139 : decode cX1_append 139 = .ok (.iadd, 1) := by decide +kernel
theorem dX1_append_140 : decode cX1_append 140 = .ok (.aload_n 0, 1) := by decide +kernel
theorem dX1_append_141 : decode cX1_append 141 = .ok (.getfield 13, 3) := by decide +kernel
theorem dX1_append_144 : decode cX1_append 144 = .ok (.aload_n 0, 1) := by decide +kernel
theorem dX1_append_145 : decode cX1_append 145 = .ok (.getfield 33, 3) := by decide +kernel
theorem dX1_append_148 : decode cX1_append 148 = .ok (.iload 4, 2) := by decide +kernel
theorem dX1_append_150 : decode cX1_append 150 = .ok (.iconst 4, 1) := by decide +kernel
theorem dX1_append_151 : decode cX1_append 151 = .ok (.invokevirtual 53, 3) := by decide +kernel
theorem dX1_append_154 : decode cX1_append 154 = .ok (.invokevirtual 49, 3) := by decide +kernel
theorem dX1_append_157 : decode cX1_append 157 = .ok (.ifCond .eq 7, 3) := by decide +kernel
theorem dX1_append_160 : decode cX1_append 160 = .ok (.iconst 1, 1) := by decide +kernel
theorem dX1_append_161 : decode cX1_append 161 = .ok (.goto 4, 3) := by decide +kernel
theorem dX1_append_164 : decode cX1_append 164 = .ok (.iconst 0, 1) := by decide +kernel
theorem dX1_append_165 : decode cX1_append 165 = .ok (.istore 5, 2) := by decide +kernel
theorem dX1_append_167 : decode cX1_append 167 = .ok (.iload 5, 2) := by decide +kernel
theorem dX1_append_169 : decode cX1_append 169 = .ok (.ifCond .ne 6, 3) := by decide +kernel
theorem dX1_append_172 : decode cX1_append 172 = .ok (.bipush (-7), 2) := by decide +kernel
theorem dX1_append_174 : decode cX1_append 174 = .ok (.ireturn, 1) := by decide +kernel
theorem dX1_append_175 : decode cX1_append 175 = .ok (.aload_n 0, 1) := by decide +kernel
theorem dX1_append_176 : decode cX1_append 176 = .ok (.getfield 17, 3) := by decide +kernel
theorem dX1_append_179 : decode cX1_append 179 = .ok (.iload_n 1, 1) := by decide +kernel
theorem dX1_append_180 : decode cX1_append 180 = .ok (.iload_n 2, 1) := by decide +kernel
theorem dX1_append_181 : decode cX1_append 181 = .ok (.iload_n 3, 1) := by decide +kernel
theorem dX1_append_182 : decode cX1_append 182 = .ok (.invokevirtual 57, 3) := by decide +kernel
theorem dX1_append_185 : decode cX1_append 185 = .ok (.aload_n 0, 1) := by decide +kernel
theorem dX1_append_186 : decode cX1_append 186 = .ok (.dup, 1) := by decide +kernel
theorem dX1_append_187 : decode cX1_append 187 = .ok (.getfield 42, 3) := by decide +kernel
theorem dX1_append_190 : decode cX1_append 190 = .ok (.iconst 1, 1) := by decide +kernel
theorem dX1_append_191 : decode cX1_append 191 = .ok (.iadd, 1) := by decide +kernel
theorem dX1_append_192 : decode cX1_append 192 = .ok (.putfield 42, 3) := by decide +kernel
theorem dX1_append_195 : decode cX1_append 195 = .ok (.aload_n 0, 1) := by decide +kernel
theorem dX1_append_196 : decode cX1_append 196 = .ok (.dup, 1) := by decide +kernel
theorem dX1_append_197 : decode cX1_append 197 = .ok (.getfield 25, 3) := by decide +kernel
theorem dX1_append_200 : decode cX1_append 200 = .ok (.iconst 1, 1) := by decide +kernel
theorem dX1_append_201 : decode cX1_append 201 = .ok (.iadd, 1) := by decide +kernel
theorem dX1_append_202 : decode cX1_append 202 = .ok (.putfield 25, 3) := by decide +kernel
theorem dX1_append_205 : decode cX1_append 205 = .ok (.iconst 1, 1) := by decide +kernel
theorem dX1_append_206 : decode cX1_append 206 = .ok (.ireturn, 1) := by decide +kernel
theorem dX1_reopen_0 : decode cX1_reopen 0 = .ok (.aload_n 0, 1) := by decide +kernel
theorem dX1_reopen_1 : decode cX1_reopen 1 = .ok (.aload_n 0, 1) := by decide +kernel
theorem dX1_reopen_2 : decode cX1_reopen 2 = .ok (.invokevirtual 61, 3) := by decide +kernel
theorem dX1_reopen_5 : decode cX1_reopen 5 = .ok (.putfield 33, 3) := by decide +kernel
theorem dX1_reopen_8 : decode cX1_reopen 8 = .ok (.aload_n 0, 1) := by decide +kernel
theorem dX1_reopen_9 : decode cX1_reopen 9 = .ok (.iconst 0, 1) := by decide +kernel
theorem dX1_reopen_10 : decode cX1_reopen 10 = .ok (.putfield 42, 3) := by decide +kernel
theorem dX1_reopen_13 : decode cX1_reopen 13 = .ok (.aload_n 0, 1) := by decide +kernel
theorem dX1_reopen_14 : decode cX1_reopen 14 = .ok (.aload_n 0, 1) := by decide +kernel
theorem dX1_reopen_15 : decode cX1_reopen 15 = .ok (.getfield 13, 3) := by decide +kernel
theorem dX1_reopen_18 : decode cX1_reopen 18 = .ok (.aload_n 0, 1) := by decide +kernel
theorem dX1_reopen_19 : decode cX1_reopen 19 = .ok (.getfield 33, 3) := by decide +kernel
theorem dX1_reopen_22 : decode cX1_reopen 22 = .ok (.iconst 1, 1) := by decide +kernel
theorem dX1_reopen_23 : decode cX1_reopen 23 = .ok (.invokevirtual 38, 3) := by decide +kernel
theorem dX1_reopen_26 : decode cX1_reopen 26 = .ok (.putfield 25, 3) := by decide +kernel
theorem dX1_reopen_29 : decode cX1_reopen 29 = .ok (.iconst 0, 1) := by decide +kernel
theorem dX1_reopen_30 : decode cX1_reopen 30 = .ok (.istore_n 1, 1) := by decide +kernel
theorem dX1_reopen_31 : decode cX1_reopen 31 = .ok (.iload_n 1, 1) := by decide +kernel
theorem dX1_reopen_32 : decode cX1_reopen 32 = .ok (.sipush 191, 3) := by decide +kernel
theorem dX1_reopen_35 : decode cX1_reopen 35 = .ok (.if_icmp .ge 31, 3) := by decide +kernel
theorem dX1_reopen_38 : decode cX1_reopen 38 = .ok (.aload_n 0, 1) := by decide +kernel
theorem dX1_reopen_39 : decode cX1_reopen 39 = .ok (.getfield 17, 3) := by decide +kernel
theorem dX1_reopen_42 : decode cX1_reopen 42 = .ok (.iload_n 1, 1) := by decide +kernel
theorem dX1_reopen_43 : decode cX1_reopen 43 = .ok (.aload_n 0, 1) := by decide +kernel
theorem dX1_reopen_44 : decode cX1_reopen 44 = .ok (.getfield 13, 3) := by decide +kernel
theorem dX1_reopen_47 : decode cX1_reopen 47 = .ok (.aload_n 0, 1) := by decide +kernel
theorem dX1_reopen_48 : decode cX1_reopen 48 = .ok (.getfield 33, 3) := by decide +kernel
theorem dX1_reopen_51 : decode cX1_reopen 51 = .ok (.iconst 2, 1) := by decide +kernel
theorem dX1_reopen_52 : decode cX1_reopen 52 = .ok (.iload_n 1, 1) := by decide +kernel
theorem dX1_reopen_53 : decode cX1_reopen 53 = .ok (.iadd, 1) := by decide +kernel
theorem dX1_reopen_54 : decode cX1_reopen 54 = .ok (.invokevirtual 38, 3) := by decide +kernel
theorem dX1_reopen_57 : decode cX1_reopen 57 = .ok (.invokevirtual 65, 3) := by decide +kernel
theorem dX1_reopen_60 : decode cX1_reopen 60 = .ok (.iinc 1 1, 3) := by decide +kernel
theorem dX1_reopen_63 : decode cX1_reopen 63 = .ok (.goto (-32), 3) := by decide +kernel
theorem dX1_reopen_66 : decode cX1_reopen 66 = .ok (.iconst 0, 1) := by decide +kernel
theorem dX1_reopen_67 : decode cX1_reopen 67 = .ok (.istore_n 1, 1) := by decide +kernel
theorem dX1_reopen_68 : decode cX1_reopen 68 = .ok (.iload_n 1, 1) := by decide +kernel
theorem dX1_reopen_69 : decode cX1_reopen 69 = .ok (.bipush 12, 2) := by decide +kernel
theorem dX1_reopen_71 : decode cX1_reopen 71 = .ok (.if_icmp .ge 94, 3) := by decide +kernel
theorem dX1_reopen_74 : decode cX1_reopen 74 = .ok (.aload_n 0, 1) := by decide +kernel
theorem dX1_reopen_75 : decode cX1_reopen 75 = .ok (.iload_n 1, 1) := by decide +kernel
theorem dX1_reopen_76 : decode cX1_reopen 76 = .ok (.invokestatic 45, 3) := by decide +kernel
theorem dX1_reopen_79 : decode cX1_reopen 79 = .ok (.invokevirtual 69, 3) := by decide +kernel
theorem dX1_reopen_82 : decode cX1_reopen 82 = .ok (.ifCond .eq 83, 3) := by decide +kernel
theorem dX1_reopen_85 : decode cX1_reopen 85 = .ok (.iload_n 1, 1) := by decide +kernel
theorem dX1_reopen_86 : decode cX1_reopen 86 = .ok (.invokestatic 45, 3) := by decide +kernel
theorem dX1_reopen_89 : decode cX1_reopen 89 = .ok (.istore_n 2, 1) := by decide +kernel
theorem dX1_reopen_90 : decode cX1_reopen 90 = .ok (.aload_n 0, 1) := by decide +kernel
theorem dX1_reopen_91 : decode cX1_reopen 91 = .ok (.getfield 17, 3) := by decide +kernel
theorem dX1_reopen_94 : decode cX1_reopen 94 = .ok (.aload_n 0, 1) := by decide +kernel
theorem dX1_reopen_95 : decode cX1_reopen 95 = .ok (.getfield 13, 3) := by decide +kernel
theorem dX1_reopen_98 : decode cX1_reopen 98 = .ok (.aload_n 0, 1) := by decide +kernel
theorem dX1_reopen_99 : decode cX1_reopen 99 = .ok (.getfield 33, 3) := by decide +kernel
theorem dX1_reopen_102 : decode cX1_reopen 102 = .ok (.iload_n 2, 1) := by decide +kernel
theorem dX1_reopen_103 : decode cX1_reopen 103 = .ok (.iconst 1, 1) := by decide +kernel
theorem dX1_reopen_104 : decode cX1_reopen 104 = .ok (.iadd, 1) := by decide +kernel
theorem dX1_reopen_105 : decode cX1_reopen 105 = .ok (.invokevirtual 38, 3) := by decide +kernel
theorem dX1_reopen_108 : decode cX1_reopen 108 = .ok (.aload_n 0, 1) := by decide +kernel
theorem dX1_reopen_109 : decode cX1_reopen 109 = .ok (.getfield 13, 3) := by decide +kernel
theorem dX1_reopen_112 : decode cX1_reopen 112 = .ok (.aload_n 0, 1) := by decide +kernel
theorem dX1_reopen_113 : decode cX1_reopen 113 = .ok (.getfield 33, 3) := by decide +kernel
theorem dX1_reopen_116 : decode cX1_reopen 116 = .ok (.iload_n 2, 1) := by decide +kernel
theorem dX1_reopen_117 : decode cX1_reopen 117 = .ok (.iconst 2, 1) := by decide +kernel
theorem dX1_reopen_118 : decode cX1_reopen 118 = .ok (.iadd, 1) := by decide +kernel
theorem dX1_reopen_119 : decode cX1_reopen 119 = .ok (.invokevirtual 38, 3) := by decide +kernel
theorem dX1_reopen_122 : decode cX1_reopen 122 = .ok (.aload_n 0, 1) := by decide +kernel
theorem dX1_reopen_123 : decode cX1_reopen 123 = .ok (.getfield 13, 3) := by decide +kernel
theorem dX1_reopen_126 : decode cX1_reopen 126 = .ok (.aload_n 0, 1) := by decide +kernel
theorem dX1_reopen_127 : decode cX1_reopen 127 = .ok (.getfield 33, 3) := by decide +kernel
theorem dX1_reopen_130 : decode cX1_reopen 130 = .ok (.iload_n 2, 1) := by decide +kernel
theorem dX1_reopen_131 : decode cX1_reopen 131 = .ok (.iconst 3, 1) := by decide +kernel
theorem dX1_reopen_132 : decode cX1_reopen 132 = .ok (.iadd, 1) := by decide +kernel
theorem dX1_reopen_133 : decode cX1_reopen 133 = .ok (.invokevirtual 38, 3) := by decide +kernel
theorem dX1_reopen_136 : decode cX1_reopen 136 = .ok (.invokevirtual 57, 3) := by decide +kernel
theorem dX1_reopen_139 : decode cX1_reopen 139 = .ok (.aload_n 0, 1) := by decide +kernel
theorem dX1_reopen_140 : decode cX1_reopen 140 = .ok (.dup, 1) := by decide +kernel
theorem dX1_reopen_141 : decode cX1_reopen 141 = .ok (.getfield 42, 3) := by decide +kernel
theorem dX1_reopen_144 : decode cX1_reopen 144 = .ok (.iconst 1, 1) := by decide +kernel
theorem dX1_reopen_145 : decode cX1_reopen 145 = .ok (.iadd, 1) := by decide +kernel
theorem dX1_reopen_146 : decode cX1_reopen 146 = .ok (.putfield 42, 3) := by decide +kernel
theorem dX1_reopen_149 : decode cX1_reopen 149 = .ok (.aload_n 0, 1) := by decide +kernel
theorem dX1_reopen_150 : decode cX1_reopen 150 = .ok (.dup, 1) := by decide +kernel
theorem dX1_reopen_151 : decode cX1_reopen 151 = .ok (.getfield 25, 3) := by decide +kernel
theorem dX1_reopen_154 : decode cX1_reopen 154 = .ok (.iconst 1, 1) := by decide +kernel
theorem dX1_reopen_155 : decode cX1_reopen 155 = .ok (.iadd, 1) := by decide +kernel
theorem dX1_reopen_156 : decode cX1_reopen 156 = .ok (.putfield 25, 3) := by decide +kernel
theorem dX1_reopen_159 : decode cX1_reopen 159 = .ok (.iinc 1 1, 3) := by decide +kernel
theorem dX1_reopen_162 : decode cX1_reopen 162 = .ok (.goto (-94), 3) := by decide +kernel
theorem dX1_reopen_165 : decode cX1_reopen 165 = .ok (.return_, 1) := by decide +kernel
theorem dX1_hasRoom_0 : decode cX1_hasRoom 0 = .ok (.aload_n 0, 1) := by decide +kernel
theorem dX1_hasRoom_1 : decode cX1_hasRoom 1 = .ok (.getfield 42, 3) := by decide +kernel
theorem dX1_hasRoom_4 : decode cX1_hasRoom 4 = .ok (.bipush 12, 2) := by decide +kernel
theorem dX1_hasRoom_6 : decode cX1_hasRoom 6 = .ok (.if_icmp .ge 29, 3) := by decide +kernel
theorem dX1_hasRoom_9 : decode cX1_hasRoom 9 = .ok (.aload_n 0, 1) := by decide +kernel
theorem dX1_hasRoom_10 : decode cX1_hasRoom 10 = .ok (.getfield 13, 3) := by decide +kernel
theorem dX1_hasRoom_13 : decode cX1_hasRoom 13 = .ok (.aload_n 0, 1) := by decide +kernel
theorem dX1_hasRoom_14 : decode cX1_hasRoom 14 = .ok (.getfield 33, 3) := by decide +kernel
theorem dX1_hasRoom_17 : decode cX1_hasRoom 17 = .ok (.aload_n 0, 1) := by decide +kernel
theorem dX1_hasRoom_18 : decode cX1_hasRoom 18 = .ok (.getfield 42, 3) := by decide +kernel
theorem dX1_hasRoom_21 : decode cX1_hasRoom 21 = .ok (.invokestatic 45, 3) := by decide +kernel
theorem dX1_hasRoom_24 : decode cX1_hasRoom 24 = .ok (.iconst 5, 1) := by decide +kernel
theorem dX1_hasRoom_25 : decode cX1_hasRoom 25 = .ok (.invokevirtual 73, 3) := by decide +kernel
theorem dX1_hasRoom_28 : decode cX1_hasRoom 28 = .ok (.ifCond .eq 7, 3) := by decide +kernel
theorem dX1_hasRoom_31 : decode cX1_hasRoom 31 = .ok (.iconst 1, 1) := by decide +kernel
theorem dX1_hasRoom_32 : decode cX1_hasRoom 32 = .ok (.goto 4, 3) := by decide +kernel
theorem dX1_hasRoom_35 : decode cX1_hasRoom 35 = .ok (.iconst 0, 1) := by decide +kernel
theorem dX1_hasRoom_36 : decode cX1_hasRoom 36 = .ok (.ireturn, 1) := by decide +kernel
theorem dX1_startSector_0 : decode cX1_startSector 0 = .ok (.aload_n 0, 1) := by decide +kernel
theorem dX1_startSector_1 : decode cX1_startSector 1 = .ok (.getfield 13, 3) := by decide +kernel
theorem dX1_startSector_4 : decode cX1_startSector 4 = .ok (.iload_n 1, 1) := by decide +kernel
theorem dX1_startSector_5 : decode cX1_startSector 5 = .ok (.invokevirtual 76, 3) := by decide +kernel
theorem dX1_startSector_8 : decode cX1_startSector 8 = .ok (.ifCond .eq 70, 3) := by decide +kernel
theorem dX1_startSector_11 : decode cX1_startSector 11 = .ok (.aload_n 0, 1) := by decide +kernel
theorem dX1_startSector_12 : decode cX1_startSector 12 = .ok (.getfield 13, 3) := by decide +kernel
theorem dX1_startSector_15 : decode cX1_startSector 15 = .ok (.iload_n 1, 1) := by decide +kernel
theorem dX1_startSector_16 : decode cX1_startSector 16 = .ok (.iconst 0, 1) := by decide +kernel
theorem dX1_startSector_17 : decode cX1_startSector 17 = .ok (.iload_n 2, 1) := by decide +kernel
theorem dX1_startSector_18 : decode cX1_startSector 18 = .ok (.invokevirtual 49, 3) := by decide +kernel
theorem dX1_startSector_21 : decode cX1_startSector 21 = .ok (.ifCond .eq 57, 3) := by decide +kernel
theorem dX1_startSector_24 : decode cX1_startSector 24 = .ok (.aload_n 0, 1) := by decide +kernel
theorem dX1_startSector_25 : decode cX1_startSector 25 = .ok (.getfield 13, 3) := by decide +kernel
theorem dX1_startSector_28 : decode cX1_startSector 28 = .ok (.iload_n 1, 1) := by decide +kernel
theorem dX1_startSector_29 : decode cX1_startSector 29 = .ok (.iconst 1, 1) := by decide +kernel
theorem dX1_startSector_30 : decode cX1_startSector 30 = .ok (.aload_n 0, 1) := by decide +kernel
theorem dX1_startSector_31 : decode cX1_startSector 31 = .ok (.getfield 25, 3) := by decide +kernel
theorem dX1_startSector_34 : decode cX1_startSector 34 = .ok (.invokevirtual 49, 3) := by decide +kernel
theorem dX1_startSector_37 : decode cX1_startSector 37 = .ok (.ifCond .eq 41, 3) := by decide +kernel
theorem dX1_startSector_40 : decode cX1_startSector 40 = .ok (.aload_n 0, 1) := by decide +kernel
theorem dX1_startSector_41 : decode cX1_startSector 41 = .ok (.iload_n 1, 1) := by decide +kernel
theorem dX1_startSector_42 : decode cX1_startSector 42 = .ok (.invokevirtual 79, 3) := by decide +kernel
theorem dX1_startSector_45 : decode cX1_startSector 45 = .ok (.ifCond .eq 33, 3) := by decide +kernel
theorem dX1_startSector_48 : decode cX1_startSector 48 = .ok (.aload_n 0, 1) := by decide +kernel
theorem dX1_startSector_49 : decode cX1_startSector 49 = .ok (.getfield 13, 3) := by decide +kernel
theorem dX1_startSector_52 : decode cX1_startSector 52 = .ok (.iload_n 1, 1) := by decide +kernel
theorem dX1_startSector_53 : decode cX1_startSector 53 = .ok (.sipush 193, 3) := by decide +kernel
theorem dX1_startSector_56 : decode cX1_startSector 56 = .ok (.aload_n 0, 1) := by decide +kernel
theorem dX1_startSector_57 : decode cX1_startSector 57 = .ok (.getfield 13, 3) := by decide +kernel
theorem dX1_startSector_60 : decode cX1_startSector 60 = .ok (.iload_n 1, 1) := by decide +kernel
theorem dX1_startSector_61 : decode cX1_startSector 61 = .ok (.iconst 0, 1) := by decide +kernel
theorem dX1_startSector_62 : decode cX1_startSector 62 = .ok (.sipush 193, 3) := by decide +kernel
theorem dX1_startSector_65 : decode cX1_startSector 65 = .ok (.invokevirtual 53, 3) := by decide +kernel
theorem dX1_startSector_68 : decode cX1_startSector 68 = .ok (.invokevirtual 49, 3) := by decide +kernel
theorem dX1_startSector_71 : decode cX1_startSector 71 = .ok (.ifCond .eq 7, 3) := by decide +kernel
theorem dX1_startSector_74 : decode cX1_startSector 74 = .ok (.iconst 1, 1) := by decide +kernel
theorem dX1_startSector_75 : decode cX1_startSector 75 = .ok (.goto 4, 3) := by decide +kernel
theorem dX1_startSector_78 : decode cX1_startSector 78 = .ok (.iconst 0, 1) := by decide +kernel
theorem dX1_startSector_79 : decode cX1_startSector 79 = .ok (.istore_n 3, 1) := by decide +kernel
theorem dX1_startSector_80 : decode cX1_startSector 80 = .ok (.iload_n 3, 1) := by decide +kernel
theorem dX1_startSector_81 : decode cX1_startSector 81 = .ok (.ifCond .eq 13, 3) := by decide +kernel
theorem dX1_startSector_84 : decode cX1_startSector 84 = .ok (.aload_n 0, 1) := by decide +kernel
theorem dX1_startSector_85 : decode cX1_startSector 85 = .ok (.iload_n 1, 1) := by decide +kernel
theorem dX1_startSector_86 : decode cX1_startSector 86 = .ok (.putfield 33, 3) := by decide +kernel
theorem dX1_startSector_89 : decode cX1_startSector 89 = .ok (.aload_n 0, 1) := by decide +kernel
theorem dX1_startSector_90 : decode cX1_startSector 90 = .ok (.iconst 0, 1) := by decide +kernel
theorem dX1_startSector_91 : decode cX1_startSector 91 = .ok (.putfield 42, 3) := by decide +kernel
theorem dX1_startSector_94 : decode cX1_startSector 94 = .ok (.iload_n 3, 1) := by decide +kernel
theorem dX1_startSector_95 : decode cX1_startSector 95 = .ok (.ireturn, 1) := by decide +kernel
theorem dX1_writeBooks_0 : decode cX1_writeBooks 0 = .ok (.iconst 0, 1) := by decide +kernel
theorem dX1_writeBooks_1 : decode cX1_writeBooks 1 = .ok (.istore_n 2, 1) := by decide +kernel
theorem dX1_writeBooks_2 : decode cX1_writeBooks 2 = .ok (.iload_n 2, 1) := by decide +kernel
theorem dX1_writeBooks_3 : decode cX1_writeBooks 3 = .ok (.sipush 191, 3) := by decide +kernel
theorem dX1_writeBooks_6 : decode cX1_writeBooks 6 = .ok (.if_icmp .ge 33, 3) := by decide +kernel
theorem dX1_writeBooks_9 : decode cX1_writeBooks 9 = .ok (.aload_n 0, 1) := by decide +kernel
theorem dX1_writeBooks_10 : decode cX1_writeBooks 10 = .ok (.getfield 13, 3) := by decide +kernel
theorem dX1_writeBooks_13 : decode cX1_writeBooks 13 = .ok (.iload_n 1, 1) := by decide +kernel
theorem dX1_writeBooks_14 : decode cX1_writeBooks 14 = .ok (.iconst 2, 1) := by decide +kernel
theorem dX1_writeBooks_15 : decode cX1_writeBooks 15 = .ok (.iload_n 2, 1) := by decide +kernel
theorem dX1_writeBooks_16 : decode cX1_writeBooks 16 = .ok (.iadd, 1) := by decide +kernel
theorem dX1_writeBooks_17 : decode cX1_writeBooks 17 = .ok (.aload_n 0, 1) := by decide +kernel
theorem dX1_writeBooks_18 : decode cX1_writeBooks 18 = .ok (.getfield 17, 3) := by decide +kernel
theorem dX1_writeBooks_21 : decode cX1_writeBooks 21 = .ok (.iload_n 2, 1) := by decide +kernel
theorem dX1_writeBooks_22 : decode cX1_writeBooks 22 = .ok (.invokevirtual 82, 3) := by decide +kernel
theorem dX1_writeBooks_25 : decode cX1_writeBooks 25 = .ok (.invokevirtual 49, 3) := by decide +kernel
theorem dX1_writeBooks_28 : decode cX1_writeBooks 28 = .ok (.ifCond .ne 5, 3) := by decide +kernel
theorem dX1_writeBooks_31 : decode cX1_writeBooks 31 = .ok (.iconst 0, 1) := by decide +kernel
theorem dX1_writeBooks_32 : decode cX1_writeBooks 32 = .ok (.ireturn, 1) := by decide +kernel
theorem dX1_writeBooks_33 : decode cX1_writeBooks 33 = .ok (.iinc 2 1, 3) := by decide +kernel
theorem dX1_writeBooks_36 : decode cX1_writeBooks 36 = .ok (.goto (-34), 3) := by decide +kernel
theorem dX1_writeBooks_39 : decode cX1_writeBooks 39 = .ok (.iconst 1, 1) := by decide +kernel
theorem dX1_writeBooks_40 : decode cX1_writeBooks 40 = .ok (.ireturn, 1) := by decide +kernel
theorem dX1_newestSector_0 : decode cX1_newestSector 0 = .ok (.aload_n 0, 1) := by decide +kernel
theorem dX1_newestSector_1 : decode cX1_newestSector 1 = .ok (.getfield 33, 3) := by decide +kernel
theorem dX1_newestSector_4 : decode cX1_newestSector 4 = .ok (.istore_n 1, 1) := by decide +kernel
theorem dX1_newestSector_5 : decode cX1_newestSector 5 = .ok (.iconst 0, 1) := by decide +kernel
theorem dX1_newestSector_6 : decode cX1_newestSector 6 = .ok (.istore_n 2, 1) := by decide +kernel
theorem dX1_newestSector_7 : decode cX1_newestSector 7 = .ok (.iconst 0, 1) := by decide +kernel
theorem dX1_newestSector_8 : decode cX1_newestSector 8 = .ok (.istore_n 3, 1) := by decide +kernel
theorem dX1_newestSector_9 : decode cX1_newestSector 9 = .ok (.iload_n 3, 1) := by decide +kernel
theorem dX1_newestSector_10 : decode cX1_newestSector 10 = .ok (.bipush 16, 2) := by decide +kernel
theorem dX1_newestSector_12 : decode cX1_newestSector 12 = .ok (.if_icmp .ge 34, 3) := by decide +kernel
theorem dX1_newestSector_15 : decode cX1_newestSector 15 = .ok (.aload_n 0, 1) := by decide +kernel
theorem dX1_newestSector_16 : decode cX1_newestSector 16 = .ok (.iload_n 3, 1) := by decide +kernel
theorem dX1_newestSector_17 : decode cX1_newestSector 17 = .ok (.invokevirtual 85, 3) := by decide +kernel
theorem dX1_newestSector_20 : decode cX1_newestSector 20 = .ok (.ifCond .eq 20, 3) := by decide +kernel
theorem dX1_newestSector_23 : decode cX1_newestSector 23 = .ok (.iload_n 2, 1) := by decide +kernel
theorem dX1_newestSector_24 : decode cX1_newestSector 24 = .ok (.ifCond .eq 12, 3) := by decide +kernel
theorem dX1_newestSector_27 : decode cX1_newestSector 27 = .ok (.aload_n 0, 1) := by decide +kernel
theorem dX1_newestSector_28 : decode cX1_newestSector 28 = .ok (.iload_n 3, 1) := by decide +kernel
theorem dX1_newestSector_29 : decode cX1_newestSector 29 = .ok (.iload_n 1, 1) := by decide +kernel
theorem dX1_newestSector_30 : decode cX1_newestSector 30 = .ok (.invokevirtual 88, 3) := by decide +kernel
theorem dX1_newestSector_33 : decode cX1_newestSector 33 = .ok (.ifCond .eq 7, 3) := by decide +kernel
theorem dX1_newestSector_36 : decode cX1_newestSector 36 = .ok (.iload_n 3, 1) := by decide +kernel
theorem dX1_newestSector_37 : decode cX1_newestSector 37 = .ok (.istore_n 1, 1) := by decide +kernel
theorem dX1_newestSector_38 : decode cX1_newestSector 38 = .ok (.iconst 1, 1) := by decide +kernel
theorem dX1_newestSector_39 : decode cX1_newestSector 39 = .ok (.istore_n 2, 1) := by decide +kernel
theorem dX1_newestSector_40 : decode cX1_newestSector 40 = .ok (.iinc 3 1, 3) := by decide +kernel
theorem dX1_newestSector_43 : decode cX1_newestSector 43 = .ok (.goto (-34), 3) := by decide +kernel
theorem dX1_newestSector_46 : decode cX1_newestSector 46 = .ok (.iload_n 1, 1) := by decide +kernel
theorem dX1_newestSector_47 : decode cX1_newestSector 47 = .ok (.ireturn, 1) := by decide +kernel
theorem dX1_isMarked_0 : decode cX1_isMarked 0 = .ok (.aload_n 0, 1) := by decide +kernel
theorem dX1_isMarked_1 : decode cX1_isMarked 1 = .ok (.getfield 13, 3) := by decide +kernel
theorem dX1_isMarked_4 : decode cX1_isMarked 4 = .ok (.iload_n 1, 1) := by decide +kernel
theorem dX1_isMarked_5 : decode cX1_isMarked 5 = .ok (.sipush 193, 3) := by decide +kernel
theorem dX1_isMarked_8 : decode cX1_isMarked 8 = .ok (.invokevirtual 38, 3) := by decide +kernel
theorem dX1_isMarked_11 : decode cX1_isMarked 11 = .ok (.aload_n 0, 1) := by decide +kernel
theorem dX1_isMarked_12 : decode cX1_isMarked 12 = .ok (.getfield 13, 3) := by decide +kernel
theorem dX1_isMarked_15 : decode cX1_isMarked 15 = .ok (.iload_n 1, 1) := by decide +kernel
theorem dX1_isMarked_16 : decode cX1_isMarked 16 = .ok (.iconst 0, 1) := by decide +kernel
theorem dX1_isMarked_17 : decode cX1_isMarked 17 = .ok (.sipush 193, 3) := by decide +kernel
theorem dX1_isMarked_20 : decode cX1_isMarked 20 = .ok (.invokevirtual 53, 3) := by decide +kernel
theorem dX1_isMarked_23 : decode cX1_isMarked 23 = .ok (.if_icmp .ne 7, 3) := by decide +kernel
theorem dX1_isMarked_26 : decode cX1_isMarked 26 = .ok (.iconst 1, 1) := by decide +kernel
theorem dX1_isMarked_27 : decode cX1_isMarked 27 = .ok (.goto 4, 3) := by decide +kernel
theorem dX1_isMarked_30 : decode cX1_isMarked 30 = .ok (.iconst 0, 1) := by decide +kernel
theorem dX1_isMarked_31 : decode cX1_isMarked 31 = .ok (.ireturn, 1) := by decide +kernel
theorem dX1_isNewer_0 : decode cX1_isNewer 0 = .ok (.aload_n 0, 1) := by decide +kernel
theorem dX1_isNewer_1 : decode cX1_isNewer 1 = .ok (.getfield 13, 3) := by decide +kernel
theorem dX1_isNewer_4 : decode cX1_isNewer 4 = .ok (.iload_n 1, 1) := by decide +kernel
theorem dX1_isNewer_5 : decode cX1_isNewer 5 = .ok (.iconst 0, 1) := by decide +kernel
theorem dX1_isNewer_6 : decode cX1_isNewer 6 = .ok (.invokevirtual 38, 3) := by decide +kernel
theorem dX1_isNewer_9 : decode cX1_isNewer 9 = .ok (.aload_n 0, 1) := by decide +kernel
theorem dX1_isNewer_10 : decode cX1_isNewer 10 = .ok (.getfield 13, 3) := by decide +kernel
theorem dX1_isNewer_13 : decode cX1_isNewer 13 = .ok (.iload_n 2, 1) := by decide +kernel
theorem dX1_isNewer_14 : decode cX1_isNewer 14 = .ok (.iconst 0, 1) := by decide +kernel
theorem dX1_isNewer_15 : decode cX1_isNewer 15 = .ok (.invokevirtual 38, 3) := by decide +kernel
theorem dX1_isNewer_18 : decode cX1_isNewer 18 = .ok (.if_icmp .le 7, 3) := by decide +kernel
theorem dX1_isNewer_21 : decode cX1_isNewer 21 = .ok (.iconst 1, 1) := by decide +kernel
theorem dX1_isNewer_22 : decode cX1_isNewer 22 = .ok (.goto 4, 3) := by decide +kernel
theorem dX1_isNewer_25 : decode cX1_isNewer 25 = .ok (.iconst 0, 1) := by decide +kernel
theorem dX1_isNewer_26 : decode cX1_isNewer 26 = .ok (.ireturn, 1) := by decide +kernel
theorem dX1_isNextRecord_0 : decode cX1_isNextRecord 0 = .ok (.aload_n 0, 1) := by decide +kernel
theorem dX1_isNextRecord_1 : decode cX1_isNextRecord 1 = .ok (.getfield 13, 3) := by decide +kernel
theorem dX1_isNextRecord_4 : decode cX1_isNextRecord 4 = .ok (.aload_n 0, 1) := by decide +kernel
theorem dX1_isNextRecord_5 : decode cX1_isNextRecord 5 = .ok (.getfield 33, 3) := by decide +kernel
theorem dX1_isNextRecord_8 : decode cX1_isNextRecord 8 = .ok (.iload_n 1, 1) := by decide +kernel
theorem dX1_isNextRecord_9 : decode cX1_isNextRecord 9 = .ok (.invokevirtual 38, 3) := by decide +kernel
theorem dX1_isNextRecord_12 : decode cX1_isNextRecord 12 = .ok (.aload_n 0, 1) := by decide +kernel
theorem dX1_isNextRecord_13 : decode cX1_isNextRecord 13 = .ok (.getfield 25, 3) := by decide +kernel
theorem dX1_isNextRecord_16 : decode cX1_isNextRecord 16 = .ok (.iconst 1, 1) := by decide +kernel
theorem dX1_isNextRecord_17 : decode cX1_isNextRecord 17 = .ok (.iadd, 1) := by decide +kernel
theorem dX1_isNextRecord_18 : decode cX1_isNextRecord 18 = .ok (.if_icmp .ne 37, 3) := by decide +kernel
theorem dX1_isNextRecord_21 : decode cX1_isNextRecord 21 = .ok (.aload_n 0, 1) := by decide +kernel
theorem dX1_isNextRecord_22 : decode cX1_isNextRecord 22 = .ok (.getfield 13, 3) := by decide +kernel
theorem dX1_isNextRecord_25 : decode cX1_isNextRecord 25 = .ok (.aload_n 0, 1) := by decide +kernel
theorem dX1_isNextRecord_26 : decode cX1_isNextRecord 26 = .ok (.getfield 33, 3) := by decide +kernel
theorem dX1_isNextRecord_29 : decode cX1_isNextRecord 29 = .ok (.iload_n 1, 1) := by decide +kernel
theorem dX1_isNextRecord_30 : decode cX1_isNextRecord 30 = .ok (.iconst 4, 1) := by decide +kernel
theorem dX1_isNextRecord_31 : decode cX1_isNextRecord 31 = .ok (.iadd, 1) := by decide +kernel
theorem dX1_isNextRecord_32 : decode cX1_isNextRecord 32 = .ok (.invokevirtual 38, 3) := by decide +kernel
theorem dX1_isNextRecord_35 : decode cX1_isNextRecord 35 = .ok (.aload_n 0, 1) := by decide +kernel
theorem dX1_isNextRecord_36 : decode cX1_isNextRecord 36 = .ok (.getfield 13, 3) := by decide +kernel
theorem dX1_isNextRecord_39 : decode cX1_isNextRecord 39 = .ok (.aload_n 0, 1) := by decide +kernel
theorem dX1_isNextRecord_40 : decode cX1_isNextRecord 40 = .ok (.getfield 33, 3) := by decide +kernel
theorem dX1_isNextRecord_43 : decode cX1_isNextRecord 43 = .ok (.iload_n 1, 1) := by decide +kernel
theorem dX1_isNextRecord_44 : decode cX1_isNextRecord 44 = .ok (.iconst 4, 1) := by decide +kernel
theorem dX1_isNextRecord_45 : decode cX1_isNextRecord 45 = .ok (.invokevirtual 53, 3) := by decide +kernel
theorem dX1_isNextRecord_48 : decode cX1_isNextRecord 48 = .ok (.if_icmp .ne 7, 3) := by decide +kernel
theorem dX1_isNextRecord_51 : decode cX1_isNextRecord 51 = .ok (.iconst 1, 1) := by decide +kernel
theorem dX1_isNextRecord_52 : decode cX1_isNextRecord 52 = .ok (.goto 4, 3) := by decide +kernel
theorem dX1_isNextRecord_55 : decode cX1_isNextRecord 55 = .ok (.iconst 0, 1) := by decide +kernel
theorem dX1_isNextRecord_56 : decode cX1_isNextRecord 56 = .ok (.ireturn, 1) := by decide +kernel
theorem dX1_recordAt_0 : decode cX1_recordAt 0 = .ok (.sipush 194, 3) := by decide +kernel
theorem dX1_recordAt_3 : decode cX1_recordAt 3 = .ok (.iload_n 0, 1) := by decide +kernel
theorem dX1_recordAt_4 : decode cX1_recordAt 4 = .ok (.iconst 5, 1) := by decide +kernel
theorem dX1_recordAt_5 : decode cX1_recordAt 5 = .ok (.imul, 1) := by decide +kernel
theorem dX1_recordAt_6 : decode cX1_recordAt 6 = .ok (.iadd, 1) := by decide +kernel
theorem dX1_recordAt_7 : decode cX1_recordAt 7 = .ok (.ireturn, 1) := by decide +kernel
theorem dX2_init_0 : decode cX2_init 0 = .ok (.aload_n 0, 1) := by decide +kernel
theorem dX2_init_1 : decode cX2_init 1 = .ok (.invokespecial 1, 3) := by decide +kernel
theorem dX2_init_4 : decode cX2_init 4 = .ok (.aload_n 0, 1) := by decide +kernel
theorem dX2_init_5 : decode cX2_init 5 = .ok (.sipush 4096, 3) := by decide +kernel
theorem dX2_init_8 : decode cX2_init 8 = .ok (.newarray .int, 2) := by decide +kernel
theorem dX2_init_10 : decode cX2_init 10 = .ok (.putfield 9, 3) := by decide +kernel
theorem dX2_init_13 : decode cX2_init 13 = .ok (.aload_n 0, 1) := by decide +kernel
theorem dX2_init_14 : decode cX2_init 14 = .ok (.bipush 16, 2) := by decide +kernel
theorem dX2_init_16 : decode cX2_init 16 = .ok (.newarray .int, 2) := by decide +kernel
theorem dX2_init_18 : decode cX2_init 18 = .ok (.putfield 13, 3) := by decide +kernel
theorem dX2_init_21 : decode cX2_init 21 = .ok (.aload_n 0, 1) := by decide +kernel
theorem dX2_init_22 : decode cX2_init 22 = .ok (.iconst 1, 1) := by decide +kernel
theorem dX2_init_23 : decode cX2_init 23 = .ok (.putfield 16, 3) := by decide +kernel
theorem dX2_init_26 : decode cX2_init 26 = .ok (.aload_n 0, 1) := by decide +kernel
theorem dX2_init_27 : decode cX2_init 27 = .ok (.getfield 9, 3) := by decide +kernel
theorem dX2_init_30 : decode cX2_init 30 = .ok (.iconst (-1), 1) := by decide +kernel
theorem dX2_init_31 : decode cX2_init 31 = .ok (.invokestatic 20, 3) := by decide +kernel
theorem dX2_init_34 : decode cX2_init 34 = .ok (.return_, 1) := by decide +kernel
theorem dX2_holds_0 : decode cX2_holds 0 = .ok (.iload_n 1, 1) := by decide +kernel
theorem dX2_holds_1 : decode cX2_holds 1 = .ok (.ifCond .lt 24, 3) := by decide +kernel
theorem dX2_holds_4 : decode cX2_holds 4 = .ok (.iload_n 1, 1) := by decide +kernel
theorem dX2_holds_5 : decode cX2_holds 5 = .ok (.bipush 16, 2) := by decide +kernel
theorem dX2_holds_7 : decode cX2_holds 7 = .ok (.if_icmp .ge 18, 3) := by decide +kernel
theorem dX2_holds_10 : decode cX2_holds 10 = .ok (.iload_n 2, 1) := by decide +kernel
theorem dX2_holds_11 : decode cX2_holds 11 = .ok (.ifCond .lt 14, 3) := by decide +kernel
theorem dX2_holds_14 : decode cX2_holds 14 = .ok (.iload_n 2, 1) := by decide +kernel
theorem dX2_holds_15 : decode cX2_holds 15 = .ok (.sipush 256, 3) := by decide +kernel
theorem dX2_holds_18 : decode cX2_holds 18 = .ok (.if_icmp .ge 7, 3) := by decide +kernel
theorem dX2_holds_21 : decode cX2_holds 21 = .ok (.iconst 1, 1) := by decide +kernel
theorem dX2_holds_22 : decode cX2_holds 22 = .ok (.goto 4, 3) := by decide +kernel
theorem dX2_holds_25 : decode cX2_holds 25 = .ok (.iconst 0, 1) := by decide +kernel
theorem dX2_holds_26 : decode cX2_holds 26 = .ok (.ireturn, 1) := by decide +kernel
theorem dX2_read_0 : decode cX2_read 0 = .ok (.aload_n 0, 1) := by decide +kernel
theorem dX2_read_1 : decode cX2_read 1 = .ok (.iload_n 1, 1) := by decide +kernel
theorem dX2_read_2 : decode cX2_read 2 = .ok (.iload_n 2, 1) := by decide +kernel
theorem dX2_read_3 : decode cX2_read 3 = .ok (.invokevirtual 26, 3) := by decide +kernel
theorem dX2_read_6 : decode cX2_read 6 = .ok (.ifCond .eq 18, 3) := by decide +kernel
theorem dX2_read_9 : decode cX2_read 9 = .ok (.aload_n 0, 1) := by decide +kernel
theorem dX2_read_10 : decode cX2_read 10 = .ok (.getfield 9, 3) := by decide +kernel
theorem dX2_read_13 : decode cX2_read 13 = .ok (.iload_n 1, 1) := by decide +kernel
theorem dX2_read_14 : decode cX2_read 14 = .ok (.sipush 256, 3) := by decide +kernel
theorem dX2_read_17 : decode cX2_read 17 = .ok (.imul, 1) := by decide +kernel
theorem dX2_read_18 : decode cX2_read 18 = .ok (.iload_n 2, 1) := by decide +kernel
theorem dX2_read_19 : decode cX2_read 19 = .ok (.iadd, 1) := by decide +kernel
theorem dX2_read_20 : decode cX2_read 20 = .ok (.iaload, 1) := by decide +kernel
theorem dX2_read_21 : decode cX2_read 21 = .ok (.goto 4, 3) := by decide +kernel
theorem dX2_read_24 : decode cX2_read 24 = .ok (.iconst (-1), 1) := by decide +kernel
theorem dX2_read_25 : decode cX2_read 25 = .ok (.ireturn, 1) := by decide +kernel
theorem dX2_write_0 : decode cX2_write 0 = .ok (.aload_n 0, 1) := by decide +kernel
theorem dX2_write_1 : decode cX2_write 1 = .ok (.iload_n 1, 1) := by decide +kernel
theorem dX2_write_2 : decode cX2_write 2 = .ok (.iload_n 2, 1) := by decide +kernel
theorem dX2_write_3 : decode cX2_write 3 = .ok (.invokevirtual 26, 3) := by decide +kernel
theorem dX2_write_6 : decode cX2_write 6 = .ok (.ifCond .eq 10, 3) := by decide +kernel
theorem dX2_write_9 : decode cX2_write 9 = .ok (.aload_n 0, 1) := by decide +kernel
theorem dX2_write_10 : decode cX2_write 10 = .ok (.invokevirtual 30, 3) := by decide +kernel
theorem dX2_write_13 : decode cX2_write 13 = .ok (.ifCond .ne 5, 3) := by decide +kernel
theorem dX2_write_16 : decode cX2_write 16 = .ok (.iconst 0, 1) := by decide +kernel
theorem dX2_write_17 : decode cX2_write 17 = .ok (.ireturn, 1) := by decide +kernel
theorem dX2_write_18 : decode cX2_write 18 = .ok (.aload_n 0, 1) := by decide +kernel
theorem dX2_write_19 : decode cX2_write 19 = .ok (.getfield 9, 3) := by decide +kernel
theorem dX2_write_22 : decode cX2_write 22 = .ok (.iload_n 1, 1) := by decide +kernel
theorem dX2_write_23 : decode cX2_write 23 = .ok (.sipush 256, 3) := by decide +kernel
theorem dX2_write_26 : decode cX2_write 26 = .ok (.imul, 1) := by decide +kernel
theorem dX2_write_27 : decode cX2_write 27 = .ok (.iload_n 2, 1) := by decide +kernel
theorem dX2_write_28 : decode cX2_write 28 = .ok (.iadd, 1) := by decide +kernel
theorem dX2_write_29 : decode cX2_write 29 = .ok (.iload_n 3, 1) := by decide +kernel
theorem dX2_write_30 : decode cX2_write 30 = .ok (.iastore, 1) := by decide +kernel
theorem dX2_write_31 : decode cX2_write 31 = .ok (.iconst 1, 1) := by decide +kernel
theorem dX2_write_32 : decode cX2_write 32 = .ok (.ireturn, 1) := by decide +kernel
theorem dX2_eraseSector_0 : decode cX2_eraseSector 0 = .ok (.aload_n 0, 1) := by decide +kernel
theorem dX2_eraseSector_1 : decode cX2_eraseSector 1 = .ok (.getfield 16, 3) := by decide +kernel
theorem dX2_eraseSector_4 : decode cX2_eraseSector 4 = .ok (.ifCond .eq 12, 3) := by decide +kernel
theorem dX2_eraseSector_7 : decode cX2_eraseSector 7 = .ok (.aload_n 0, 1) := by decide +kernel
theorem dX2_eraseSector_8 : decode cX2_eraseSector 8 = .ok (.iload_n 1, 1) := by decide +kernel
theorem dX2_eraseSector_9 : decode cX2_eraseSector 9 = .ok (.iconst 0, 1) := by decide +kernel
theorem dX2_eraseSector_10 : decode cX2_eraseSector 10 = .ok (.invokevirtual 26, 3) := by decide +kernel
theorem dX2_eraseSector_13 : decode cX2_eraseSector 13 = .ok (.ifCond .ne 5, 3) := by decide +kernel
theorem dX2_eraseSector_16 : decode cX2_eraseSector 16 = .ok (.iconst 0, 1) := by decide +kernel
theorem dX2_eraseSector_17 : decode cX2_eraseSector 17 = .ok (.ireturn, 1) := by decide +kernel
theorem dX2_eraseSector_18 : decode cX2_eraseSector 18 = .ok (.aload_n 0, 1) := by decide +kernel
theorem dX2_eraseSector_19 : decode cX2_eraseSector 19 = .ok (.invokevirtual 30, 3) := by decide +kernel
theorem dX2_eraseSector_22 : decode cX2_eraseSector 22 = .ok (.istore_n 2, 1) := by decide +kernel
theorem dX2_eraseSector_23 : decode cX2_eraseSector 23 = .ok (.aload_n 0, 1) := by decide +kernel
theorem dX2_eraseSector_24 : decode cX2_eraseSector 24 = .ok (.getfield 13, 3) := by decide +kernel
theorem dX2_eraseSector_27 : decode cX2_eraseSector 27 = .ok (.iload_n 1, 1) := by decide +kernel
theorem dX2_eraseSector_28 : decode cX2_eraseSector 28 = .ok (.dup2, 1) := by decide +kernel
theorem dX2_eraseSector_29 : decode cX2_eraseSector 29 = .ok (.iaload, 1) := by decide +kernel
theorem dX2_eraseSector_30 : decode cX2_eraseSector 30 = .ok (.iconst 1, 1) := by decide +kernel
theorem dX2_eraseSector_31 : decode cX2_eraseSector 31 = .ok (.iadd, 1) := by decide +kernel
theorem dX2_eraseSector_32 : decode cX2_eraseSector 32 = .ok (.iastore, 1) := by decide +kernel
theorem dX2_eraseSector_33 : decode cX2_eraseSector 33 = .ok (.iload_n 2, 1) := by decide +kernel
theorem dX2_eraseSector_34 : decode cX2_eraseSector 34 = .ok (.ifCond .eq 7, 3) := by decide +kernel
theorem dX2_eraseSector_37 : decode cX2_eraseSector 37 = .ok (.iconst 0, 1) := by decide +kernel
theorem dX2_eraseSector_38 : decode cX2_eraseSector 38 = .ok (.goto 7, 3) := by decide +kernel
theorem dX2_eraseSector_41 : decode cX2_eraseSector 41 = .ok (.aload_n 0, 1) := by decide +kernel
theorem dX2_eraseSector_42 : decode cX2_eraseSector 42 = .ok (.getfield 34, 3) := by decide +kernel
theorem dX2_eraseSector_45 : decode cX2_eraseSector 45 = .ok (.istore_n 3, 1) := by decide +kernel
theorem dX2_eraseSector_46 : decode cX2_eraseSector 46 = .ok (.iconst 0, 1) := by decide +kernel
theorem dX2_eraseSector_47 : decode cX2_eraseSector 47 = .ok (.istore 4, 2) := by decide +kernel
theorem dX2_eraseSector_49 : decode cX2_eraseSector 49 = .ok (.iload 4, 2) := by decide +kernel
theorem dX2_eraseSector_51 : decode cX2_eraseSector 51 = .ok (.sipush 256, 3) := by decide +kernel
theorem dX2_eraseSector_54 : decode cX2_eraseSector 54 = .ok (.if_icmp .ge 35, 3) := by decide +kernel
theorem dX2_eraseSector_57 : decode cX2_eraseSector 57 = .ok (.iload_n 3, 1) := by decide +kernel
theorem dX2_eraseSector_58 : decode cX2_eraseSector 58 = .ok (.iload 4, 2) := by decide +kernel
theorem dX2_eraseSector_60 : decode cX2_eraseSector 60 = .ok (.bipush 32, 2) := by decide +kernel
theorem dX2_eraseSector_62 : decode cX2_eraseSector 62 = .ok (.irem, 1) := by decide +kernel
theorem dX2_eraseSector_63 : decode cX2_eraseSector 63 = .ok (.iushr, 1) := by decide +kernel
theorem dX2_eraseSector_64 : decode cX2_eraseSector 64 = .ok (.iconst 1, 1) := by decide +kernel
theorem dX2_eraseSector_65 : decode cX2_eraseSector 65 = .ok (.iand, 1) := by decide +kernel
theorem dX2_eraseSector_66 : decode cX2_eraseSector 66 = .ok (.ifCond .ne 17, 3) := by decide +kernel
theorem dX2_eraseSector_69 : decode cX2_eraseSector 69 = .ok (.aload_n 0, 1) := by decide +kernel
theorem dX2_eraseSector_70 : decode cX2_eraseSector 70 = .ok (.getfield 9, 3) := by decide +kernel
theorem dX2_eraseSector_73 : decode cX2_eraseSector 73 = .ok (.iload_n 1, 1) := by decide +kernel
theorem dX2_eraseSector_74 : decode cX2_eraseSector 74 = .ok (.sipush 256, 3) := by decide +kernel
theorem dX2_eraseSector_77 : decode cX2_eraseSector 77 = .ok (.imul, 1) := by decide +kernel
theorem dX2_eraseSector_78 : decode cX2_eraseSector 78 = .ok (.iload 4, 2) := by decide +kernel
theorem dX2_eraseSector_80 : decode cX2_eraseSector 80 = .ok (.iadd, 1) := by decide +kernel
theorem dX2_eraseSector_81 : decode cX2_eraseSector 81 = .ok (.iconst (-1), 1) := by decide +kernel
theorem dX2_eraseSector_82 : decode cX2_eraseSector 82 = .ok (.iastore, 1) := by decide +kernel
theorem dX2_eraseSector_83 : decode cX2_eraseSector 83 = .ok (.iinc 4 1, 3) := by decide +kernel
theorem dX2_eraseSector_86 : decode cX2_eraseSector 86 = .ok (.goto (-37), 3) := by decide +kernel
theorem dX2_eraseSector_89 : decode cX2_eraseSector 89 = .ok (.iload_n 2, 1) := by decide +kernel
theorem dX2_eraseSector_90 : decode cX2_eraseSector 90 = .ok (.ireturn, 1) := by decide +kernel
theorem dX2_markOf_0 : decode cX2_markOf 0 = .ok (.bipush 17, 2) := by decide +kernel
theorem dX2_markOf_2 : decode cX2_markOf 2 = .ok (.istore 4, 2) := by decide +kernel
theorem dX2_markOf_4 : decode cX2_markOf 4 = .ok (.iconst 0, 1) := by decide +kernel
theorem dX2_markOf_5 : decode cX2_markOf 5 = .ok (.istore 5, 2) := by decide +kernel
theorem dX2_markOf_7 : decode cX2_markOf 7 = .ok (.iload 5, 2) := by decide +kernel
theorem dX2_markOf_9 : decode cX2_markOf 9 = .ok (.iload_n 3, 1) := by decide +kernel
theorem dX2_markOf_10 : decode cX2_markOf 10 = .ok (.if_icmp .ge 34, 3) := by decide +kernel
theorem dX2_markOf_13 : decode cX2_markOf 13 = .ok (.iload 5, 2) := by decide +kernel
theorem dX2_markOf_15 : decode cX2_markOf 15 = .ok (.sipush 256, 3) := by decide +kernel
theorem dX2_markOf_18 : decode cX2_markOf 18 = .ok (.if_icmp .ge 26, 3) := by decide +kernel
theorem dX2_markOf_21 : decode cX2_markOf 21 = .ok (.bipush 31, 2) := by decide +kernel
theorem dX2_markOf_23 : decode cX2_markOf 23 = .ok (.iload 4, 2) := by decide +kernel
theorem dX2_markOf_25 : decode cX2_markOf 25 = .ok (.imul, 1) := by decide +kernel
theorem dX2_markOf_26 : decode cX2_markOf 26 = .ok (.aload_n 0, 1) := by decide +kernel
theorem dX2_markOf_27 : decode cX2_markOf 27 = .ok (.iload_n 1, 1) := by decide +kernel
theorem dX2_markOf_28 : decode cX2_markOf 28 = .ok (.iload_n 2, 1) := by decide +kernel
theorem dX2_markOf_29 : decode cX2_markOf 29 = .ok (.iload 5, 2) := by decide +kernel
theorem dX2_markOf_31 : decode cX2_markOf 31 = .ok (.iadd, 1) := by decide +kernel
theorem dX2_markOf_32 : decode cX2_markOf 32 = .ok (.invokevirtual 38, 3) := by decide +kernel
theorem dX2_markOf_35 : decode cX2_markOf 35 = .ok (.iadd, 1) := by decide +kernel
theorem dX2_markOf_36 : decode cX2_markOf 36 = .ok (.istore 4, 2) := by decide +kernel
theorem dX2_markOf_38 : decode cX2_markOf 38 = .ok (.iinc 5 1, 3) := by decide +kernel
theorem dX2_markOf_41 : decode cX2_markOf 41 = .ok (.goto (-34), 3) := by decide +kernel
theorem dX2_markOf_44 : decode cX2_markOf 44 = .ok (.iload 4, 2) := by decide +kernel
theorem dX2_markOf_46 : decode cX2_markOf 46 = .ok (.ldc 42, 2) := by decide +kernel
theorem dX2_markOf_48 : decode cX2_markOf 48 = .ok (.ixor, 1) := by decide +kernel
theorem dX2_markOf_49 : decode cX2_markOf 49 = .ok (.istore 4, 2) := by decide +kernel
theorem dX2_markOf_51 : decode cX2_markOf 51 = .ok (.iload 4, 2) := by decide +kernel
theorem dX2_markOf_53 : decode cX2_markOf 53 = .ok (.iconst (-1), 1) := by decide +kernel
theorem dX2_markOf_54 : decode cX2_markOf 54 = .ok (.if_icmp .ne 7, 3) := by decide +kernel
theorem dX2_markOf_57 : decode cX2_markOf 57 = .ok (.iconst 0, 1) := by decide +kernel
theorem dX2_markOf_58 : decode cX2_markOf 58 = .ok (.goto 5, 3) := by decide +kernel
theorem dX2_markOf_61 : decode cX2_markOf 61 = .ok (.iload 4, 2) := by decide +kernel
theorem dX2_markOf_63 : decode cX2_markOf 63 = .ok (.ireturn, 1) := by decide +kernel
theorem dX2_areBlank_0 : decode cX2_areBlank 0 = .ok (.iconst 0, 1) := by decide +kernel
theorem dX2_areBlank_1 : decode cX2_areBlank 1 = .ok (.istore 4, 2) := by decide +kernel
theorem dX2_areBlank_3 : decode cX2_areBlank 3 = .ok (.iload 4, 2) := by decide +kernel
theorem dX2_areBlank_5 : decode cX2_areBlank 5 = .ok (.iload_n 3, 1) := by decide +kernel
theorem dX2_areBlank_6 : decode cX2_areBlank 6 = .ok (.if_icmp .ge 32, 3) := by decide +kernel
theorem dX2_areBlank_9 : decode cX2_areBlank 9 = .ok (.iload 4, 2) := by decide +kernel
theorem dX2_areBlank_11 : decode cX2_areBlank 11 = .ok (.sipush 256, 3) := by decide +kernel
theorem dX2_areBlank_14 : decode cX2_areBlank 14 = .ok (.if_icmp .ge 24, 3) := by decide +kernel
theorem dX2_areBlank_17 : decode cX2_areBlank 17 = .ok (.aload_n 0, 1) := by decide +kernel
theorem dX2_areBlank_18 : decode cX2_areBlank 18 = .ok (.iload_n 1, 1) := by decide +kernel
theorem dX2_areBlank_19 : decode cX2_areBlank 19 = .ok (.iload_n 2, 1) := by decide +kernel
theorem dX2_areBlank_20 : decode cX2_areBlank 20 = .ok (.iload 4, 2) := by decide +kernel
theorem dX2_areBlank_22 : decode cX2_areBlank 22 = .ok (.iadd, 1) := by decide +kernel
theorem dX2_areBlank_23 : decode cX2_areBlank 23 = .ok (.invokevirtual 38, 3) := by decide +kernel
theorem dX2_areBlank_26 : decode cX2_areBlank 26 = .ok (.iconst (-1), 1) := by decide +kernel
theorem dX2_areBlank_27 : decode cX2_areBlank 27 = .ok (.if_icmp .eq 5, 3) := by decide +kernel
theorem dX2_areBlank_30 : decode cX2_areBlank 30 = .ok (.iconst 0, 1) := by decide +kernel
theorem dX2_areBlank_31 : decode cX2_areBlank 31 = .ok (.ireturn, 1) := by decide +kernel
theorem dX2_areBlank_32 : decode cX2_areBlank 32 = .ok (.iinc 4 1, 3) := by decide +kernel
theorem dX2_areBlank_35 : decode cX2_areBlank 35 = .ok (.goto (-32), 3) := by decide +kernel
theorem dX2_areBlank_38 : decode cX2_areBlank 38 = .ok (.iconst 1, 1) := by decide +kernel
theorem dX2_areBlank_39 : decode cX2_areBlank 39 = .ok (.ireturn, 1) := by decide +kernel
theorem dX2_erasesOf_0 : decode cX2_erasesOf 0 = .ok (.aload_n 0, 1) := by decide +kernel
theorem dX2_erasesOf_1 : decode cX2_erasesOf 1 = .ok (.iload_n 1, 1) := by decide +kernel
theorem dX2_erasesOf_2 : decode cX2_erasesOf 2 = .ok (.iconst 0, 1) := by decide +kernel
theorem dX2_erasesOf_3 : decode cX2_erasesOf 3 = .ok (.invokevirtual 26, 3) := by decide +kernel
theorem dX2_erasesOf_6 : decode cX2_erasesOf 6 = .ok (.ifCond .eq 12, 3) := by decide +kernel
theorem dX2_erasesOf_9 : decode cX2_erasesOf 9 = .ok (.aload_n 0, 1) := by decide +kernel
theorem dX2_erasesOf_10 : decode cX2_erasesOf 10 = .ok (.getfield 13, 3) := by decide +kernel
theorem dX2_erasesOf_13 : decode cX2_erasesOf 13 = .ok (.iload_n 1, 1) := by decide +kernel
theorem dX2_erasesOf_14 : decode cX2_erasesOf 14 = .ok (.iaload, 1) := by decide +kernel
theorem dX2_erasesOf_15 : decode cX2_erasesOf 15 = .ok (.goto 4, 3) := by decide +kernel
theorem dX2_erasesOf_18 : decode cX2_erasesOf 18 = .ok (.iconst 0, 1) := by decide +kernel
theorem dX2_erasesOf_19 : decode cX2_erasesOf 19 = .ok (.ireturn, 1) := by decide +kernel
theorem dX2_wearSpread_0 : decode cX2_wearSpread 0 = .ok (.aload_n 0, 1) := by decide +kernel
theorem dX2_wearSpread_1 : decode cX2_wearSpread 1 = .ok (.iconst 0, 1) := by decide +kernel
theorem dX2_wearSpread_2 : decode cX2_wearSpread 2 = .ok (.invokevirtual 43, 3) := by decide +kernel
theorem dX2_wearSpread_5 : decode cX2_wearSpread 5 = .ok (.istore_n 1, 1) := by decide +kernel
theorem dX2_wearSpread_6 : decode cX2_wearSpread 6 = .ok (.iload_n 1, 1) := by decide +kernel
theorem dX2_wearSpread_7 : decode cX2_wearSpread 7 = .ok (.istore_n 2, 1) := by decide +kernel
theorem dX2_wearSpread_8 : decode cX2_wearSpread 8 = .ok (.iconst 1, 1) := by decide +kernel
theorem dX2_wearSpread_9 : decode cX2_wearSpread 9 = .ok (.istore_n 3, 1) := by decide +kernel
theorem dX2_wearSpread_10 : decode cX2_wearSpread 10 = .ok (.iload_n 3, 1) := by decide +kernel
theorem dX2_wearSpread_11 : decode cX2_wearSpread 11 = .ok (.bipush 16, 2) := by decide +kernel
theorem dX2_wearSpread_13 : decode cX2_wearSpread 13 = .ok (.if_icmp .ge 29, 3) := by decide +kernel
theorem dX2_wearSpread_16 : decode cX2_wearSpread 16 = .ok (.iload_n 1, 1) := by decide +kernel
theorem dX2_wearSpread_17 : decode cX2_wearSpread 17 = .ok (.aload_n 0, 1) := by decide +kernel
theorem dX2_wearSpread_18 : decode cX2_wearSpread 18 = .ok (.iload_n 3, 1) := by decide +kernel
theorem dX2_wearSpread_19 : decode cX2_wearSpread 19 = .ok (.invokevirtual 43, 3) := by decide +kernel
theorem dX2_wearSpread_22 : decode cX2_wearSpread 22 = .ok (.invokestatic 47, 3) := by decide +kernel
theorem dX2_wearSpread_25 : decode cX2_wearSpread 25 = .ok (.istore_n 1, 1) := by decide +kernel
theorem dX2_wearSpread_26 : decode cX2_wearSpread 26 = .ok (.iload_n 2, 1) := by decide +kernel
theorem dX2_wearSpread_27 : decode cX2_wearSpread 27 = .ok (.aload_n 0, 1) := by decide +kernel
theorem dX2_wearSpread_28 : decode cX2_wearSpread 28 = .ok (.iload_n 3, 1) := by decide +kernel
theorem dX2_wearSpread_29 : decode cX2_wearSpread 29 = .ok (.invokevirtual 43, 3) := by decide +kernel
theorem dX2_wearSpread_32 : decode cX2_wearSpread 32 = .ok (.invokestatic 52, 3) := by decide +kernel
theorem dX2_wearSpread_35 : decode cX2_wearSpread 35 = .ok (.istore_n 2, 1) := by decide +kernel
theorem dX2_wearSpread_36 : decode cX2_wearSpread 36 = .ok (.iinc 3 1, 3) := by decide +kernel
theorem dX2_wearSpread_39 : decode cX2_wearSpread 39 = .ok (.goto (-29), 3) := by decide +kernel
theorem dX2_wearSpread_42 : decode cX2_wearSpread 42 = .ok (.iload_n 2, 1) := by decide +kernel
theorem dX2_wearSpread_43 : decode cX2_wearSpread 43 = .ok (.iload_n 1, 1) := by decide +kernel
theorem dX2_wearSpread_44 : decode cX2_wearSpread 44 = .ok (.isub, 1) := by decide +kernel
theorem dX2_wearSpread_45 : decode cX2_wearSpread 45 = .ok (.ireturn, 1) := by decide +kernel
theorem dX2_expectCut_0 : decode cX2_expectCut 0 = .ok (.aload_n 0, 1) := by decide +kernel
theorem dX2_expectCut_1 : decode cX2_expectCut 1 = .ok (.iconst 1, 1) := by decide +kernel
theorem dX2_expectCut_2 : decode cX2_expectCut 2 = .ok (.putfield 55, 3) := by decide +kernel
theorem dX2_expectCut_5 : decode cX2_expectCut 5 = .ok (.aload_n 0, 1) := by decide +kernel
theorem dX2_expectCut_6 : decode cX2_expectCut 6 = .ok (.iload_n 1, 1) := by decide +kernel
theorem dX2_expectCut_7 : decode cX2_expectCut 7 = .ok (.putfield 58, 3) := by decide +kernel
theorem dX2_expectCut_10 : decode cX2_expectCut 10 = .ok (.aload_n 0, 1) := by decide +kernel
theorem dX2_expectCut_11 : decode cX2_expectCut 11 = .ok (.iload_n 2, 1) := by decide +kernel
theorem dX2_expectCut_12 : decode cX2_expectCut 12 = .ok (.putfield 34, 3) := by decide +kernel
theorem dX2_expectCut_15 : decode cX2_expectCut 15 = .ok (.return_, 1) := by decide +kernel
theorem dX2_cutsSuffered_0 : decode cX2_cutsSuffered 0 = .ok (.aload_n 0, 1) := by decide +kernel
theorem dX2_cutsSuffered_1 : decode cX2_cutsSuffered 1 = .ok (.getfield 61, 3) := by decide +kernel
theorem dX2_cutsSuffered_4 : decode cX2_cutsSuffered 4 = .ok (.ireturn, 1) := by decide +kernel
theorem dX2_hasPower_0 : decode cX2_hasPower 0 = .ok (.aload_n 0, 1) := by decide +kernel
theorem dX2_hasPower_1 : decode cX2_hasPower 1 = .ok (.getfield 16, 3) := by decide +kernel
theorem dX2_hasPower_4 : decode cX2_hasPower 4 = .ok (.ireturn, 1) := by decide +kernel
theorem dX2_restorePower_0 : decode cX2_restorePower 0 = .ok (.aload_n 0, 1) := by decide +kernel
theorem dX2_restorePower_1 : decode cX2_restorePower 1 = .ok (.iconst 1, 1) := by decide +kernel
theorem dX2_restorePower_2 : decode cX2_restorePower 2 = .ok (.putfield 16, 3) := by decide +kernel
theorem dX2_restorePower_5 : decode cX2_restorePower 5 = .ok (.return_, 1) := by decide +kernel
theorem dX2_spendOne_0 : decode cX2_spendOne 0 = .ok (.aload_n 0, 1) := by decide +kernel
theorem dX2_spendOne_1 : decode cX2_spendOne 1 = .ok (.getfield 16, 3) := by decide +kernel
theorem dX2_spendOne_4 : decode cX2_spendOne 4 = .ok (.ifCond .ne 5, 3) := by decide +kernel
theorem dX2_spendOne_7 : decode cX2_spendOne 7 = .ok (.iconst 0, 1) := by decide +kernel
theorem dX2_spendOne_8 : decode cX2_spendOne 8 = .ok (.ireturn, 1) := by decide +kernel
theorem dX2_spendOne_9 : decode cX2_spendOne 9 = .ok (.aload_n 0, 1) := by decide +kernel
theorem dX2_spendOne_10 : decode cX2_spendOne 10 = .ok (.getfield 55, 3) := by decide +kernel
theorem dX2_spendOne_13 : decode cX2_spendOne 13 = .ok (.ifCond .ne 5, 3) := by decide +kernel
theorem dX2_spendOne_16 : decode cX2_spendOne 16 = .ok (.iconst 1, 1) := by decide +kernel
theorem dX2_spendOne_17 : decode cX2_spendOne 17 = .ok (.ireturn, 1) := by decide +kernel
theorem dX2_spendOne_18 : decode cX2_spendOne 18 = .ok (.aload_n 0, 1) := by decide +kernel
theorem dX2_spendOne_19 : decode cX2_spendOne 19 = .ok (.getfield 58, 3) := by decide +kernel
theorem dX2_spendOne_22 : decode cX2_spendOne 22 = .ok (.ifCond .le 15, 3) := by decide +kernel
theorem dX2_spendOne_25 : decode cX2_spendOne 25 = .ok (.aload_n 0, 1) := by decide +kernel
theorem dX2_spendOne_26 : decode cX2_spendOne 26 = .ok (.dup, 1) := by decide +kernel
theorem dX2_spendOne_27 : decode cX2_spendOne 27 = .ok (.getfield 58, 3) := by decide +kernel
theorem dX2_spendOne_30 : decode cX2_spendOne 30 = .ok (.iconst 1, 1) := by decide +kernel
theorem dX2_spendOne_31 : decode cX2_spendOne 31 = .ok (.isub, 1) := by decide +kernel
theorem dX2_spendOne_32 : decode cX2_spendOne 32 = .ok (.putfield 58, 3) := by decide +kernel
theorem dX2_spendOne_35 : decode cX2_spendOne 35 = .ok (.iconst 1, 1) := by decide +kernel
theorem dX2_spendOne_36 : decode cX2_spendOne 36 = .ok (.ireturn, 1) := by decide +kernel
theorem dX2_spendOne_37 : decode cX2_spendOne 37 = .ok (.aload_n 0, 1) := by decide +kernel
theorem dX2_spendOne_38 : decode cX2_spendOne 38 = .ok (.iconst 0, 1) := by decide +kernel
theorem dX2_spendOne_39 : decode cX2_spendOne 39 = .ok (.putfield 55, 3) := by decide +kernel
theorem dX2_spendOne_42 : decode cX2_spendOne 42 = .ok (.aload_n 0, 1) := by decide +kernel
theorem dX2_spendOne_43 : decode cX2_spendOne 43 = .ok (.iconst 0, 1) := by decide +kernel
theorem dX2_spendOne_44 : decode cX2_spendOne 44 = .ok (.putfield 16, 3) := by decide +kernel
theorem dX2_spendOne_47 : decode cX2_spendOne 47 = .ok (.aload_n 0, 1) := by decide +kernel
theorem dX2_spendOne_48 : decode cX2_spendOne 48 = .ok (.dup, 1) := by decide +kernel
theorem dX2_spendOne_49 : decode cX2_spendOne 49 = .ok (.getfield 61, 3) := by decide +kernel
theorem dX2_spendOne_52 : decode cX2_spendOne 52 = .ok (.iconst 1, 1) := by decide +kernel
theorem dX2_spendOne_53 : decode cX2_spendOne 53 = .ok (.iadd, 1) := by decide +kernel
theorem dX2_spendOne_54 : decode cX2_spendOne 54 = .ok (.putfield 61, 3) := by decide +kernel
theorem dX2_spendOne_57 : decode cX2_spendOne 57 = .ok (.iconst 0, 1) := by decide +kernel
theorem dX2_spendOne_58 : decode cX2_spendOne 58 = .ok (.ireturn, 1) := by decide +kernel
theorem dX3_init_0 : decode cX3_init 0 = .ok (.aload_n 0, 1) := by decide +kernel
theorem dX3_init_1 : decode cX3_init 1 = .ok (.invokespecial 1, 3) := by decide +kernel
theorem dX3_init_4 : decode cX3_init 4 = .ok (.aload_n 0, 1) := by decide +kernel
theorem dX3_init_5 : decode cX3_init 5 = .ok (.sipush 320, 3) := by decide +kernel
theorem dX3_init_8 : decode cX3_init 8 = .ok (.newarray .int, 2) := by decide +kernel
theorem dX3_init_10 : decode cX3_init 10 = .ok (.putfield 9, 3) := by decide +kernel
theorem dX3_init_13 : decode cX3_init 13 = .ok (.aload_n 0, 1) := by decide +kernel
theorem dX3_init_14 : decode cX3_init 14 = .ok (.sipush 320, 3) := by decide +kernel
theorem dX3_init_17 : decode cX3_init 17 = .ok (.newarray .int, 2) := by decide +kernel
theorem dX3_init_19 : decode cX3_init 19 = .ok (.putfield 13, 3) := by decide +kernel
theorem dX3_init_22 : decode cX3_init 22 = .ok (.return_, 1) := by decide +kernel
theorem dX3_draft_0 : decode cX3_draft 0 = .ok (.iload_n 1, 1) := by decide +kernel
theorem dX3_draft_1 : decode cX3_draft 1 = .ok (.iload_n 2, 1) := by decide +kernel
theorem dX3_draft_2 : decode cX3_draft 2 = .ok (.iload_n 3, 1) := by decide +kernel
theorem dX3_draft_3 : decode cX3_draft 3 = .ok (.invokestatic 16, 3) := by decide +kernel
theorem dX3_draft_6 : decode cX3_draft 6 = .ok (.istore 5, 2) := by decide +kernel
theorem dX3_draft_8 : decode cX3_draft 8 = .ok (.iload 5, 2) := by decide +kernel
theorem dX3_draft_10 : decode cX3_draft 10 = .ok (.ifCond .lt 13, 3) := by decide +kernel
theorem dX3_draft_13 : decode cX3_draft 13 = .ok (.iload 5, 2) := by decide +kernel
theorem dX3_draft_15 : decode cX3_draft 15 = .ok (.aload_n 0, 1) := by decide +kernel
theorem dX3_draft_16 : decode cX3_draft 16 = .ok (.getfield 9, 3) := by decide +kernel
theorem dX3_draft_19 : decode cX3_draft 19 = .ok (.arraylength, 1) := by decide +kernel
theorem dX3_draft_20 : decode cX3_draft 20 = .ok (.if_icmp .lt 5, 3) := by decide +kernel
theorem dX3_draft_23 : decode cX3_draft 23 = .ok (.iconst 0, 1) := by decide +kernel
theorem dX3_draft_24 : decode cX3_draft 24 = .ok (.ireturn, 1) := by decide +kernel
theorem dX3_draft_25 : decode cX3_draft 25 = .ok (.aload_n 0, 1) := by decide +kernel
theorem dX3_draft_26 : decode cX3_draft 26 = .ok (.getfield 9, 3) := by decide +kernel
theorem dX3_draft_29 : decode cX3_draft 29 = .ok (.iload 5, 2) := by decide +kernel
theorem dX3_draft_31 : decode cX3_draft 31 = .ok (.iload 4, 2) := by decide +kernel
theorem dX3_draft_33 : decode cX3_draft 33 = .ok (.iastore, 1) := by decide +kernel
theorem dX3_draft_34 : decode cX3_draft 34 = .ok (.iconst 1, 1) := by decide +kernel
theorem dX3_draft_35 : decode cX3_draft 35 = .ok (.ireturn, 1) := by decide +kernel
theorem dX3_useDrafts_0 : decode cX3_useDrafts 0 = .ok (.iconst 0, 1) := by decide +kernel
theorem dX3_useDrafts_1 : decode cX3_useDrafts 1 = .ok (.istore_n 1, 1) := by decide +kernel
theorem dX3_useDrafts_2 : decode cX3_useDrafts 2 = .ok (.iload_n 1, 1) := by decide +kernel
theorem dX3_useDrafts_3 : decode cX3_useDrafts 3 = .ok (.aload_n 0, 1) := by decide +kernel
theorem dX3_useDrafts_4 : decode cX3_useDrafts 4 = .ok (.getfield 13, 3) := by decide +kernel
theorem dX3_useDrafts_7 : decode cX3_useDrafts 7 = .ok (.arraylength, 1) := by decide +kernel
theorem dX3_useDrafts_8 : decode cX3_useDrafts 8 = .ok (.if_icmp .ge 30, 3) := by decide +kernel
theorem dX3_useDrafts_11 : decode cX3_useDrafts 11 = .ok (.iload_n 1, 1) := by decide +kernel
theorem dX3_useDrafts_12 : decode cX3_useDrafts 12 = .ok (.aload_n 0, 1) := by decide +kernel
theorem dX3_useDrafts_13 : decode cX3_useDrafts 13 = .ok (.getfield 9, 3) := by decide +kernel
theorem dX3_useDrafts_16 : decode cX3_useDrafts 16 = .ok (.arraylength, 1) := by decide +kernel
theorem dX3_useDrafts_17 : decode cX3_useDrafts 17 = .ok (.if_icmp .ge 21, 3) := by decide +kernel
theorem dX3_useDrafts_20 : decode cX3_useDrafts 20 = .ok (.aload_n 0, 1) := by decide +kernel
theorem dX3_useDrafts_21 : decode cX3_useDrafts 21 = .ok (.getfield 13, 3) := by decide +kernel
theorem dX3_useDrafts_24 : decode cX3_useDrafts 24 = .ok (.iload_n 1, 1) := by decide +kernel
theorem dX3_useDrafts_25 : decode cX3_useDrafts 25 = .ok (.aload_n 0, 1) := by decide +kernel
theorem dX3_useDrafts_26 : decode cX3_useDrafts 26 = .ok (.getfield 9, 3) := by decide +kernel
theorem dX3_useDrafts_29 : decode cX3_useDrafts 29 = .ok (.iload_n 1, 1) := by decide +kernel
theorem dX3_useDrafts_30 : decode cX3_useDrafts 30 = .ok (.iaload, 1) := by decide +kernel
theorem dX3_useDrafts_31 : decode cX3_useDrafts 31 = .ok (.iastore, 1) := by decide +kernel
theorem dX3_useDrafts_32 : decode cX3_useDrafts 32 = .ok (.iinc 1 1, 3) := by decide +kernel
theorem dX3_useDrafts_35 : decode cX3_useDrafts 35 = .ok (.goto (-33), 3) := by decide +kernel
theorem dX3_useDrafts_38 : decode cX3_useDrafts 38 = .ok (.return_, 1) := by decide +kernel
theorem dX3_priceOf_0 : decode cX3_priceOf 0 = .ok (.iload_n 2, 1) := by decide +kernel
theorem dX3_priceOf_1 : decode cX3_priceOf 1 = .ok (.iconst 1, 1) := by decide +kernel
theorem dX3_priceOf_2 : decode cX3_priceOf 2 = .ok (.if_icmp .ge 5, 3) := by decide +kernel
theorem dX3_priceOf_5 : decode cX3_priceOf 5 = .ok (.iconst 0, 1) := by decide +kernel
theorem dX3_priceOf_6 : decode cX3_priceOf 6 = .ok (.ireturn, 1) := by decide +kernel
theorem dX3_priceOf_7 : decode cX3_priceOf 7 = .ok (.iload_n 1, 1) := by decide +kernel
theorem dX3_priceOf_8 : decode cX3_priceOf 8 = .ok (.iload_n 2, 1) := by decide +kernel
theorem dX3_priceOf_9 : decode cX3_priceOf 9 = .ok (.iconst 1, 1) := by decide +kernel
theorem dX3_priceOf_10 : decode cX3_priceOf 10 = .ok (.isub, 1) := by decide +kernel
theorem dX3_priceOf_11 : decode cX3_priceOf 11 = .ok (.bipush 50, 2) := by decide +kernel
theorem dX3_priceOf_13 : decode cX3_priceOf 13 = .ok (.idiv, 1) := by decide +kernel
theorem dX3_priceOf_14 : decode cX3_priceOf 14 = .ok (.iload_n 3, 1) := by decide +kernel
theorem dX3_priceOf_15 : decode cX3_priceOf 15 = .ok (.invokestatic 16, 3) := by decide +kernel
theorem dX3_priceOf_18 : decode cX3_priceOf 18 = .ok (.istore 4, 2) := by decide +kernel
theorem dX3_priceOf_20 : decode cX3_priceOf 20 = .ok (.iload 4, 2) := by decide +kernel
theorem dX3_priceOf_22 : decode cX3_priceOf 22 = .ok (.ifCond .lt 23, 3) := by decide +kernel
theorem dX3_priceOf_25 : decode cX3_priceOf 25 = .ok (.iload 4, 2) := by decide +kernel
theorem dX3_priceOf_27 : decode cX3_priceOf 27 = .ok (.aload_n 0, 1) := by decide +kernel
theorem dX3_priceOf_28 : decode cX3_priceOf 28 = .ok (.getfield 13, 3) := by decide +kernel
theorem dX3_priceOf_31 : decode cX3_priceOf 31 = .ok (.arraylength, 1) := by decide +kernel
theorem dX3_priceOf_32 : decode cX3_priceOf 32 = .ok (.if_icmp .ge 13, 3) := by decide +kernel
theorem dX3_priceOf_35 : decode cX3_priceOf 35 = .ok (.aload_n 0, 1) := by decide +kernel
theorem dX3_priceOf_36 : decode cX3_priceOf 36 = .ok (.getfield 13, 3) := by decide +kernel
theorem dX3_priceOf_39 : decode cX3_priceOf 39 = .ok (.iload 4, 2) := by decide +kernel
theorem dX3_priceOf_41 : decode cX3_priceOf 41 = .ok (.iaload, 1) := by decide +kernel
theorem dX3_priceOf_42 : decode cX3_priceOf 42 = .ok (.goto 4, 3) := by decide +kernel
theorem dX3_priceOf_45 : decode cX3_priceOf 45 = .ok (.iconst 0, 1) := by decide +kernel
theorem dX3_priceOf_46 : decode cX3_priceOf 46 = .ok (.ireturn, 1) := by decide +kernel
theorem dX3_placeOf_0 : decode cX3_placeOf 0 = .ok (.iload_n 0, 1) := by decide +kernel
theorem dX3_placeOf_1 : decode cX3_placeOf 1 = .ok (.ifCond .lt 32, 3) := by decide +kernel
theorem dX3_placeOf_4 : decode cX3_placeOf 4 = .ok (.iload_n 0, 1) := by decide +kernel
theorem dX3_placeOf_5 : decode cX3_placeOf 5 = .ok (.bipush 8, 2) := by decide +kernel
theorem dX3_placeOf_7 : decode cX3_placeOf 7 = .ok (.if_icmp .ge 26, 3) := by decide +kernel
theorem dX3_placeOf_10 : decode cX3_placeOf 10 = .ok (.iload_n 1, 1) := by decide +kernel
theorem dX3_placeOf_11 : decode cX3_placeOf 11 = .ok (.ifCond .lt 22, 3) := by decide +kernel
theorem dX3_placeOf_14 : decode cX3_placeOf 14 = .ok (.iload_n 1, 1) := by decide +kernel
theorem dX3_placeOf_15 : decode cX3_placeOf 15 = .ok (.bipush 10, 2) := by decide +kernel
theorem dX3_placeOf_17 : decode cX3_placeOf 17 = .ok (.if_icmp .ge 16, 3) := by decide +kernel
theorem dX3_placeOf_20 : decode cX3_placeOf 20 = .ok (.iload_n 2, 1) := by decide +kernel
theorem dX3_placeOf_21 : decode cX3_placeOf 21 = .ok (.ifCond .lt 12, 3) := by decide +kernel
theorem dX3_placeOf_24 : decode cX3_placeOf 24 = .ok (.iload_n 2, 1) := by decide +kernel
theorem dX3_placeOf_25 : decode cX3_placeOf 25 = .ok (.iconst 4, 1) := by decide +kernel
theorem dX3_placeOf_26 : decode cX3_placeOf 26 = .ok (.if_icmp .ge 7, 3) := by decide +kernel
theorem dX3_placeOf_29 : decode cX3_placeOf 29 = .ok (.iconst 1, 1) := by decide +kernel
theorem dX3_placeOf_30 : decode cX3_placeOf 30 = .ok (.goto 4, 3) := by decide +kernel
theorem dX3_placeOf_33 : decode cX3_placeOf 33 = .ok (.iconst 0, 1) := by decide +kernel
theorem dX3_placeOf_34 : decode cX3_placeOf 34 = .ok (.istore_n 3, 1) := by decide +kernel
theorem dX3_placeOf_35 : decode cX3_placeOf 35 = .ok (.iload_n 3, 1) := by decide +kernel
theorem dX3_placeOf_36 : decode cX3_placeOf 36 = .ok (.ifCond .eq 16, 3) := by decide +kernel
theorem dX3_placeOf_39 : decode cX3_placeOf 39 = .ok (.iload_n 0, 1) := by decide +kernel
theorem dX3_placeOf_40 : decode cX3_placeOf 40 = .ok (.bipush 10, 2) := by decide +kernel
theorem dX3_placeOf_42 : decode cX3_placeOf 42 = .ok (.imul, 1) := by decide +kernel
theorem dX3_placeOf_43 : decode cX3_placeOf 43 = .ok (.iload_n 1, 1) := by decide +kernel
theorem dX3_placeOf_44 : decode cX3_placeOf 44 = .ok (.iadd, 1) := by decide +kernel
theorem dX3_placeOf_45 : decode cX3_placeOf 45 = .ok (.iconst 4, 1) := by decide +kernel
theorem dX3_placeOf_46 : decode cX3_placeOf 46 = .ok (.imul, 1) := by decide +kernel
theorem dX3_placeOf_47 : decode cX3_placeOf 47 = .ok (.iload_n 2, 1) := by decide +kernel
theorem dX3_placeOf_48 : decode cX3_placeOf 48 = .ok (.iadd, 1) := by decide +kernel
theorem dX3_placeOf_49 : decode cX3_placeOf 49 = .ok (.goto 4, 3) := by decide +kernel
theorem dX3_placeOf_52 : decode cX3_placeOf 52 = .ok (.iconst (-1), 1) := by decide +kernel
theorem dX3_placeOf_53 : decode cX3_placeOf 53 = .ok (.ireturn, 1) := by decide +kernel
theorem dX4_init_0 : decode cX4_init 0 = .ok (.aload_n 0, 1) := by decide +kernel
theorem dX4_init_1 : decode cX4_init 1 = .ok (.invokespecial 1, 3) := by decide +kernel
theorem dX4_init_4 : decode cX4_init 4 = .ok (.aload_n 0, 1) := by decide +kernel
theorem dX4_init_5 : decode cX4_init 5 = .ok (.iconst 1, 1) := by decide +kernel
theorem dX4_init_6 : decode cX4_init 6 = .ok (.iload_n 1, 1) := by decide +kernel
theorem dX4_init_7 : decode cX4_init 7 = .ok (.ldc 9, 2) := by decide +kernel
theorem dX4_init_9 : decode cX4_init 9 = .ok (.invokestatic 10, 3) := by decide +kernel
theorem dX4_init_12 : decode cX4_init 12 = .ok (.invokestatic 16, 3) := by decide +kernel
theorem dX4_init_15 : decode cX4_init 15 = .ok (.putfield 19, 3) := by decide +kernel
theorem dX4_init_18 : decode cX4_init 18 = .ok (.aload_n 0, 1) := by decide +kernel
theorem dX4_init_19 : decode cX4_init 19 = .ok (.new 23, 3) := by decide +kernel
theorem dX4_init_22 : decode cX4_init 22 = .ok (.dup, 1) := by decide +kernel
theorem dX4_init_23 : decode cX4_init 23 = .ok (.invokespecial 25, 3) := by decide +kernel
theorem dX4_init_26 : decode cX4_init 26 = .ok (.putfield 26, 3) := by decide +kernel
theorem dX4_init_29 : decode cX4_init 29 = .ok (.aload_n 0, 1) := by decide +kernel
theorem dX4_init_30 : decode cX4_init 30 = .ok (.new 30, 3) := by decide +kernel
theorem dX4_init_33 : decode cX4_init 33 = .ok (.dup, 1) := by decide +kernel
theorem dX4_init_34 : decode cX4_init 34 = .ok (.invokespecial 32, 3) := by decide +kernel
theorem dX4_init_37 : decode cX4_init 37 = .ok (.putfield 33, 3) := by decide +kernel
theorem dX4_init_40 : decode cX4_init 40 = .ok (.aload_n 0, 1) := by decide +kernel
theorem dX4_init_41 : decode cX4_init 41 = .ok (.new 37, 3) := by decide +kernel
theorem dX4_init_44 : decode cX4_init 44 = .ok (.dup, 1) := by decide +kernel
theorem dX4_init_45 : decode cX4_init 45 = .ok (.invokespecial 39, 3) := by decide +kernel
theorem dX4_init_48 : decode cX4_init 48 = .ok (.putfield 40, 3) := by decide +kernel
theorem dX4_init_51 : decode cX4_init 51 = .ok (.aload_n 0, 1) := by decide +kernel
theorem dX4_init_52 : decode cX4_init 52 = .ok (.new 44, 3) := by decide +kernel
theorem dX4_init_55 : decode cX4_init 55 = .ok (.dup, 1) := by decide +kernel
theorem dX4_init_56 : decode cX4_init 56 = .ok (.aload_n 0, 1) := by decide +kernel
theorem dX4_init_57 : decode cX4_init 57 = .ok (.getfield 33, 3) := by decide +kernel
theorem dX4_init_60 : decode cX4_init 60 = .ok (.aload_n 0, 1) := by decide +kernel
theorem dX4_init_61 : decode cX4_init 61 = .ok (.getfield 40, 3) := by decide +kernel
theorem dX4_init_64 : decode cX4_init 64 = .ok (.invokespecial 46, 3) := by decide +kernel
theorem dX4_init_67 : decode cX4_init 67 = .ok (.putfield 49, 3) := by decide +kernel
theorem dX4_init_70 : decode cX4_init 70 = .ok (.return_, 1) := by decide +kernel
theorem dX4_rate_0 : decode cX4_rate 0 = .ok (.iload 4, 2) := by decide +kernel
theorem dX4_rate_2 : decode cX4_rate 2 = .ok (.ifCond .lt 10, 3) := by decide +kernel
theorem dX4_rate_5 : decode cX4_rate 5 = .ok (.iload 4, 2) := by decide +kernel
theorem dX4_rate_7 : decode cX4_rate 7 = .ok (.ldc 53, 2) := by decide +kernel
theorem dX4_rate_9 : decode cX4_rate 9 = .ok (.if_icmp .le 5, 3) := by decide +kernel
theorem dX4_rate_12 : decode cX4_rate 12 = .ok (.iconst (-1), 1) := by decide +kernel
theorem dX4_rate_13 : decode cX4_rate 13 = .ok (.ireturn, 1) := by decide +kernel
theorem dX4_rate_14 : decode cX4_rate 14 = .ok (.aload_n 0, 1) := by decide +kernel
theorem dX4_rate_15 : decode cX4_rate 15 = .ok (.getfield 26, 3) := by decide +kernel
theorem dX4_rate_18 : decode cX4_rate 18 = .ok (.iload_n 1, 1) := by decide +kernel
theorem dX4_rate_19 : decode cX4_rate 19 = .ok (.iload_n 2, 1) := by decide +kernel
theorem dX4_rate_20 : decode cX4_rate 20 = .ok (.iload_n 3, 1) := by decide +kernel
theorem dX4_rate_21 : decode cX4_rate 21 = .ok (.iload 4, 2) := by decide +kernel
theorem dX4_rate_23 : decode cX4_rate 23 = .ok (.invokevirtual 54, 3) := by decide +kernel
theorem dX4_rate_26 : decode cX4_rate 26 = .ok (.ifCond .eq 7, 3) := by decide +kernel
theorem dX4_rate_29 : decode cX4_rate 29 = .ok (.iconst 1, 1) := by decide +kernel
theorem dX4_rate_30 : decode cX4_rate 30 = .ok (.goto 4, 3) := by decide +kernel
theorem dX4_rate_33 : decode cX4_rate 33 = .ok (.iconst (-1), 1) := by decide +kernel
theorem dX4_rate_34 : decode cX4_rate 34 = .ok (.ireturn, 1) := by decide +kernel
theorem dX4_loadTable_0 : decode cX4_loadTable 0 = .ok (.aload_n 0, 1) := by decide +kernel
theorem dX4_loadTable_1 : decode cX4_loadTable 1 = .ok (.getfield 33, 3) := by decide +kernel
theorem dX4_loadTable_4 : decode cX4_loadTable 4 = .ok (.invokevirtual 58, 3) := by decide +kernel
theorem dX4_loadTable_7 : decode cX4_loadTable 7 = .ok (.ifCond .ne 6, 3) := by decide +kernel
theorem dX4_loadTable_10 : decode cX4_loadTable 10 = .ok (.bipush (-7), 2) := by decide +kernel
theorem dX4_loadTable_12 : decode cX4_loadTable 12 = .ok (.ireturn, 1) := by decide +kernel
theorem dX4_loadTable_13 : decode cX4_loadTable 13 = .ok (.iload_n 1, 1) := by decide +kernel
theorem dX4_loadTable_14 : decode cX4_loadTable 14 = .ok (.ifCond .lt 16, 3) := by decide +kernel
theorem dX4_loadTable_17 : decode cX4_loadTable 17 = .ok (.iload_n 1, 1) := by decide +kernel
theorem dX4_loadTable_18 : decode cX4_loadTable 18 = .ok (.aload_n 0, 1) := by decide +kernel
theorem dX4_loadTable_19 : decode cX4_loadTable 19 = .ok (.getfield 40, 3) := by decide +kernel
theorem dX4_loadTable_22 : decode cX4_loadTable 22 = .ok (.bipush 13, 2) := by decide +kernel
theorem dX4_loadTable_24 : decode cX4_loadTable 24 = .ok (.invokevirtual 62, 3) := by decide +kernel
theorem dX4_loadTable_27 : decode cX4_loadTable 27 = .ok (.if_icmp .ge 5, 3) := by decide +kernel
theorem dX4_loadTable_30 : decode cX4_loadTable 30 = .ok (.iconst 0, 1) := by decide +kernel
theorem dX4_loadTable_31 : decode cX4_loadTable 31 = .ok (.ireturn, 1) := by decide +kernel
theorem dX4_loadTable_32 : decode cX4_loadTable 32 = .ok (.aload_n 0, 1) := by decide +kernel
theorem dX4_loadTable_33 : decode cX4_loadTable 33 = .ok (.getfield 49, 3) := by decide +kernel
theorem dX4_loadTable_36 : decode cX4_loadTable 36 = .ok (.bipush 9, 2) := by decide +kernel
theorem dX4_loadTable_38 : decode cX4_loadTable 38 = .ok (.iload_n 1, 1) := by decide +kernel
theorem dX4_loadTable_39 : decode cX4_loadTable 39 = .ok (.iconst 0, 1) := by decide +kernel
theorem dX4_loadTable_40 : decode cX4_loadTable 40 = .ok (.invokevirtual 66, 3) := by decide +kernel
theorem dX4_loadTable_43 : decode cX4_loadTable 43 = .ok (.istore_n 2, 1) := by decide +kernel
theorem dX4_loadTable_44 : decode cX4_loadTable 44 = .ok (.iload_n 2, 1) := by decide +kernel
theorem dX4_loadTable_45 : decode cX4_loadTable 45 = .ok (.iconst 1, 1) := by decide +kernel
theorem dX4_loadTable_46 : decode cX4_loadTable 46 = .ok (.if_icmp .ne 10, 3) := by decide +kernel
theorem dX4_loadTable_49 : decode cX4_loadTable 49 = .ok (.aload_n 0, 1) := by decide +kernel
theorem dX4_loadTable_50 : decode cX4_loadTable 50 = .ok (.getfield 26, 3) := by decide +kernel
theorem dX4_loadTable_53 : decode cX4_loadTable 53 = .ok (.invokevirtual 70, 3) := by decide +kernel
theorem dX4_loadTable_56 : decode cX4_loadTable 56 = .ok (.iload_n 2, 1) := by decide +kernel
theorem dX4_loadTable_57 : decode cX4_loadTable 57 = .ok (.ireturn, 1) := by decide +kernel
theorem dX4_weigh_0 : decode cX4_weigh 0 = .ok (.aload_n 0, 1) := by decide +kernel
theorem dX4_weigh_1 : decode cX4_weigh 1 = .ok (.getfield 26, 3) := by decide +kernel
theorem dX4_weigh_4 : decode cX4_weigh 4 = .ok (.iload_n 1, 1) := by decide +kernel
theorem dX4_weigh_5 : decode cX4_weigh 5 = .ok (.iload_n 2, 1) := by decide +kernel
theorem dX4_weigh_6 : decode cX4_weigh 6 = .ok (.iload_n 3, 1) := by decide +kernel
theorem dX4_weigh_7 : decode cX4_weigh 7 = .ok (.invokevirtual 73, 3) := by decide +kernel
theorem dX4_weigh_10 : decode cX4_weigh 10 = .ok (.istore 4, 2) := by decide +kernel
theorem dX4_weigh_12 : decode cX4_weigh 12 = .ok (.iload 4, 2) := by decide +kernel
theorem dX4_weigh_14 : decode cX4_weigh 14 = .ok (.ifCond .ne 7, 3) := by decide +kernel
theorem dX4_weigh_17 : decode cX4_weigh 17 = .ok (.iconst (-1), 1) := by decide +kernel
theorem dX4_weigh_18 : decode cX4_weigh 18 = .ok (.goto 5, 3) := by decide +kernel
theorem dX4_weigh_21 : decode cX4_weigh 21 = .ok (.iload 4, 2) := by decide +kernel
theorem dX4_weigh_23 : decode cX4_weigh 23 = .ok (.ireturn, 1) := by decide +kernel
theorem dX4_frank_0 : decode cX4_frank 0 = .ok (.aload_n 0, 1) := by decide +kernel
theorem dX4_frank_1 : decode cX4_frank 1 = .ok (.getfield 33, 3) := by decide +kernel
theorem dX4_frank_4 : decode cX4_frank 4 = .ok (.invokevirtual 58, 3) := by decide +kernel
theorem dX4_frank_7 : decode cX4_frank 7 = .ok (.ifCond .ne 6, 3) := by decide +kernel
theorem dX4_frank_10 : decode cX4_frank 10 = .ok (.bipush (-7), 2) := by decide +kernel
theorem dX4_frank_12 : decode cX4_frank 12 = .ok (.ireturn, 1) := by decide +kernel
theorem dX4_frank_13 : decode cX4_frank 13 = .ok (.aload_n 0, 1) := by decide +kernel
theorem dX4_frank_14 : decode cX4_frank 14 = .ok (.iload_n 1, 1) := by decide +kernel
theorem dX4_frank_15 : decode cX4_frank 15 = .ok (.iload_n 2, 1) := by decide +kernel
theorem dX4_frank_16 : decode cX4_frank 16 = .ok (.iload_n 3, 1) := by decide +kernel
theorem dX4_frank_17 : decode cX4_frank 17 = .ok (.invokevirtual 76, 3) := by decide +kernel
theorem dX4_frank_20 : decode cX4_frank 20 = .ok (.ifCond .ne 5, 3) := by decide +kernel
theorem dX4_frank_23 : decode cX4_frank 23 = .ok (.iconst 0, 1) := by decide +kernel
theorem dX4_frank_24 : decode cX4_frank 24 = .ok (.ireturn, 1) := by decide +kernel
theorem dX4_frank_25 : decode cX4_frank 25 = .ok (.aload_n 0, 1) := by decide +kernel
theorem dX4_frank_26 : decode cX4_frank 26 = .ok (.getfield 49, 3) := by decide +kernel
theorem dX4_frank_29 : decode cX4_frank 29 = .ok (.iconst 1, 1) := by decide +kernel
theorem dX4_frank_30 : decode cX4_frank 30 = .ok (.iload_n 2, 1) := by decide +kernel
theorem dX4_frank_31 : decode cX4_frank 31 = .ok (.iload_n 1, 1) := by decide +kernel
theorem dX4_frank_32 : decode cX4_frank 32 = .ok (.bipush 16, 2) := by decide +kernel
theorem dX4_frank_34 : decode cX4_frank 34 = .ok (.iload_n 3, 1) := by decide +kernel
theorem dX4_frank_35 : decode cX4_frank 35 = .ok (.imul, 1) := by decide +kernel
theorem dX4_frank_36 : decode cX4_frank 36 = .ok (.iadd, 1) := by decide +kernel
theorem dX4_frank_37 : decode cX4_frank 37 = .ok (.invokevirtual 66, 3) := by decide +kernel
theorem dX4_frank_40 : decode cX4_frank 40 = .ok (.iconst 1, 1) := by decide +kernel
theorem dX4_frank_41 : decode cX4_frank 41 = .ok (.if_icmp .eq 6, 3) := by decide +kernel
theorem dX4_frank_44 : decode cX4_frank 44 = .ok (.bipush (-7), 2) := by decide +kernel
theorem dX4_frank_46 : decode cX4_frank 46 = .ok (.ireturn, 1) := by decide +kernel
theorem dX4_frank_47 : decode cX4_frank 47 = .ok (.aload_n 0, 1) := by decide +kernel
theorem dX4_frank_48 : decode cX4_frank 48 = .ok (.dup, 1) := by decide +kernel
theorem dX4_frank_49 : decode cX4_frank 49 = .ok (.getfield 80, 3) := by decide +kernel
theorem dX4_frank_52 : decode cX4_frank 52 = .ok (.lconst 1, 1) := by decide +kernel
theorem dX4_frank_53 : decode cX4_frank 53 = .ok (.ladd, 1) := by decide +kernel
theorem dX4_frank_54 : decode cX4_frank 54 = .ok (.putfield 80, 3) := by decide +kernel
theorem dX4_frank_57 : decode cX4_frank 57 = .ok (.aload_n 0, 1) := by decide +kernel
theorem dX4_frank_58 : decode cX4_frank 58 = .ok (.dup, 1) := by decide +kernel
theorem dX4_frank_59 : decode cX4_frank 59 = .ok (.getfield 84, 3) := by decide +kernel
theorem dX4_frank_62 : decode cX4_frank 62 = .ok (.iload_n 2, 1) := by decide +kernel
theorem dX4_frank_63 : decode cX4_frank 63 = .ok (.i2l, 1) := by decide +kernel
theorem dX4_frank_64 : decode cX4_frank 64 = .ok (.ladd, 1) := by decide +kernel
theorem dX4_frank_65 : decode cX4_frank 65 = .ok (.putfield 84, 3) := by decide +kernel
theorem dX4_frank_68 : decode cX4_frank 68 = .ok (.aload_n 0, 1) := by decide +kernel
theorem dX4_frank_69 : decode cX4_frank 69 = .ok (.getfield 49, 3) := by decide +kernel
theorem dX4_frank_72 : decode cX4_frank 72 = .ok (.iconst 2, 1) := by decide +kernel
theorem dX4_frank_73 : decode cX4_frank 73 = .ok (.iconst 0, 1) := by decide +kernel
theorem dX4_frank_74 : decode cX4_frank 74 = .ok (.iconst 0, 1) := by decide +kernel
theorem dX4_frank_75 : decode cX4_frank 75 = .ok (.invokevirtual 66, 3) := by decide +kernel
theorem dX4_frank_78 : decode cX4_frank 78 = .ok (.ireturn, 1) := by decide +kernel
theorem dX4_printed_0 : decode cX4_printed 0 = .ok (.iload_n 1, 1) := by decide +kernel
theorem dX4_printed_1 : decode cX4_printed 1 = .ok (.lookupswitch 37 #[(0, 27), (1, 32)], 27) := by decide +kernel
theorem dX4_printed_28 : decode cX4_printed 28 = .ok (.aload_n 0, 1) := by decide +kernel
theorem dX4_printed_29 : decode cX4_printed 29 = .ok (.getfield 80, 3) := by decide +kernel
theorem dX4_printed_32 : decode cX4_printed 32 = .ok (.lreturn, 1) := by decide +kernel
theorem dX4_printed_33 : decode cX4_printed 33 = .ok (.aload_n 0, 1) := by decide +kernel
theorem dX4_printed_34 : decode cX4_printed 34 = .ok (.getfield 84, 3) := by decide +kernel
theorem dX4_printed_37 : decode cX4_printed 37 = .ok (.lreturn, 1) := by decide +kernel
theorem dX4_printed_38 : decode cX4_printed 38 = .ok (.ldc2_w 87, 3) := by decide +kernel
theorem dX4_printed_41 : decode cX4_printed 41 = .ok (.lreturn, 1) := by decide +kernel
theorem dX4_refill_0 : decode cX4_refill 0 = .ok (.aload_n 0, 1) := by decide +kernel
theorem dX4_refill_1 : decode cX4_refill 1 = .ok (.getfield 33, 3) := by decide +kernel
theorem dX4_refill_4 : decode cX4_refill 4 = .ok (.invokevirtual 58, 3) := by decide +kernel
theorem dX4_refill_7 : decode cX4_refill 7 = .ok (.ifCond .ne 6, 3) := by decide +kernel
theorem dX4_refill_10 : decode cX4_refill 10 = .ok (.bipush (-7), 2) := by decide +kernel
theorem dX4_refill_12 : decode cX4_refill 12 = .ok (.ireturn, 1) := by decide +kernel
theorem dX4_refill_13 : decode cX4_refill 13 = .ok (.iload_n 1, 1) := by decide +kernel
theorem dX4_refill_14 : decode cX4_refill 14 = .ok (.invokestatic 89, 3) := by decide +kernel
theorem dX4_refill_17 : decode cX4_refill 17 = .ok (.ifCond .eq 21, 3) := by decide +kernel
theorem dX4_refill_20 : decode cX4_refill 20 = .ok (.iload_n 2, 1) := by decide +kernel
theorem dX4_refill_21 : decode cX4_refill 21 = .ok (.aload_n 0, 1) := by decide +kernel
theorem dX4_refill_22 : decode cX4_refill 22 = .ok (.aload_n 0, 1) := by decide +kernel
theorem dX4_refill_23 : decode cX4_refill 23 = .ok (.getfield 40, 3) := by decide +kernel
theorem dX4_refill_26 : decode cX4_refill 26 = .ok (.bipush 10, 2) := by decide +kernel
theorem dX4_refill_28 : decode cX4_refill 28 = .ok (.invokevirtual 62, 3) := by decide +kernel
theorem dX4_refill_31 : decode cX4_refill 31 = .ok (.iload_n 1, 1) := by decide +kernel
theorem dX4_refill_32 : decode cX4_refill 32 = .ok (.invokevirtual 93, 3) := by decide +kernel
theorem dX4_refill_35 : decode cX4_refill 35 = .ok (.if_icmp .eq 5, 3) := by decide +kernel
theorem dX4_refill_38 : decode cX4_refill 38 = .ok (.iconst 0, 1) := by decide +kernel
theorem dX4_refill_39 : decode cX4_refill 39 = .ok (.ireturn, 1) := by decide +kernel
theorem dX4_refill_40 : decode cX4_refill 40 = .ok (.aload_n 0, 1) := by decide +kernel
theorem dX4_refill_41 : decode cX4_refill 41 = .ok (.getfield 40, 3) := by decide +kernel
theorem dX4_refill_44 : decode cX4_refill 44 = .ok (.iconst 4, 1) := by decide +kernel
theorem dX4_refill_45 : decode cX4_refill 45 = .ok (.invokevirtual 96, 3) := by decide +kernel
theorem dX4_refill_48 : decode cX4_refill 48 = .ok (.iload_n 1, 1) := by decide +kernel
theorem dX4_refill_49 : decode cX4_refill 49 = .ok (.i2l, 1) := by decide +kernel
theorem dX4_refill_50 : decode cX4_refill 50 = .ok (.ladd, 1) := by decide +kernel
theorem dX4_refill_51 : decode cX4_refill 51 = .ok (.ldc2_w 100, 3) := by decide +kernel
theorem dX4_refill_54 : decode cX4_refill 54 = .ok (.lcmp, 1) := by decide +kernel
theorem dX4_refill_55 : decode cX4_refill 55 = .ok (.ifCond .lt 5, 3) := by decide +kernel
theorem dX4_refill_58 : decode cX4_refill 58 = .ok (.iconst 0, 1) := by decide +kernel
theorem dX4_refill_59 : decode cX4_refill 59 = .ok (.ireturn, 1) := by decide +kernel
theorem dX4_refill_60 : decode cX4_refill 60 = .ok (.aload_n 0, 1) := by decide +kernel
theorem dX4_refill_61 : decode cX4_refill 61 = .ok (.getfield 49, 3) := by decide +kernel
theorem dX4_refill_64 : decode cX4_refill 64 = .ok (.iconst 4, 1) := by decide +kernel
theorem dX4_refill_65 : decode cX4_refill 65 = .ok (.iload_n 1, 1) := by decide +kernel
theorem dX4_refill_66 : decode cX4_refill 66 = .ok (.iconst 0, 1) := by decide +kernel
theorem dX4_refill_67 : decode cX4_refill 67 = .ok (.invokevirtual 66, 3) := by decide +kernel
theorem dX4_refill_70 : decode cX4_refill 70 = .ok (.ireturn, 1) := by decide +kernel
theorem dX4_codeFor_0 : decode cX4_codeFor 0 = .ok (.iload_n 1, 1) := by decide +kernel
theorem dX4_codeFor_1 : decode cX4_codeFor 1 = .ok (.ifCond .lt 7, 3) := by decide +kernel
theorem dX4_codeFor_4 : decode cX4_codeFor 4 = .ok (.iload_n 2, 1) := by decide +kernel
theorem dX4_codeFor_5 : decode cX4_codeFor 5 = .ok (.ifCond .ge 5, 3) := by decide +kernel
theorem dX4_codeFor_8 : decode cX4_codeFor 8 = .ok (.iconst (-1), 1) := by decide +kernel
theorem dX4_codeFor_9 : decode cX4_codeFor 9 = .ok (.ireturn, 1) := by decide +kernel
theorem dX4_codeFor_10 : decode cX4_codeFor 10 = .ok (.aload_n 0, 1) := by decide +kernel
theorem dX4_codeFor_11 : decode cX4_codeFor 11 = .ok (.getfield 19, 3) := by decide +kernel
theorem dX4_codeFor_14 : decode cX4_codeFor 14 = .ok (.i2l, 1) := by decide +kernel
theorem dX4_codeFor_15 : decode cX4_codeFor 15 = .ok (.ldc2_w 102, 3) := by decide +kernel
theorem dX4_codeFor_18 : decode cX4_codeFor 18 = .ok (.lmul, 1) := by decide +kernel
theorem dX4_codeFor_19 : decode cX4_codeFor 19 = .ok (.iload_n 1, 1) := by decide +kernel
theorem dX4_codeFor_20 : decode cX4_codeFor 20 = .ok (.i2l, 1) := by decide +kernel
theorem dX4_codeFor_21 : decode cX4_codeFor 21 = .ok (.ladd, 1) := by decide +kernel
theorem dX4_codeFor_22 : decode cX4_codeFor 22 = .ok (.ldc2_w 104, 3) := by decide +kernel
theorem dX4_codeFor_25 : decode cX4_codeFor 25 = .ok (.lmul, 1) := by decide +kernel
theorem dX4_codeFor_26 : decode cX4_codeFor 26 = .ok (.iload_n 2, 1) := by decide +kernel
theorem dX4_codeFor_27 : decode cX4_codeFor 27 = .ok (.i2l, 1) := by decide +kernel
theorem dX4_codeFor_28 : decode cX4_codeFor 28 = .ok (.ldc2_w 106, 3) := by decide +kernel
theorem dX4_codeFor_31 : decode cX4_codeFor 31 = .ok (.lmul, 1) := by decide +kernel
theorem dX4_codeFor_32 : decode cX4_codeFor 32 = .ok (.ladd, 1) := by decide +kernel
theorem dX4_codeFor_33 : decode cX4_codeFor 33 = .ok (.lstore_n 3, 1) := by decide +kernel
theorem dX4_codeFor_34 : decode cX4_codeFor 34 = .ok (.lload_n 3, 1) := by decide +kernel
theorem dX4_codeFor_35 : decode cX4_codeFor 35 = .ok (.ldc2_w 108, 3) := by decide +kernel
theorem dX4_codeFor_38 : decode cX4_codeFor 38 = .ok (.lrem, 1) := by decide +kernel
theorem dX4_codeFor_39 : decode cX4_codeFor 39 = .ok (.l2i, 1) := by decide +kernel
theorem dX4_codeFor_40 : decode cX4_codeFor 40 = .ok (.ireturn, 1) := by decide +kernel
theorem dX4_claimBack_0 : decode cX4_claimBack 0 = .ok (.aload_n 0, 1) := by decide +kernel
theorem dX4_claimBack_1 : decode cX4_claimBack 1 = .ok (.getfield 33, 3) := by decide +kernel
theorem dX4_claimBack_4 : decode cX4_claimBack 4 = .ok (.invokevirtual 58, 3) := by decide +kernel
theorem dX4_claimBack_7 : decode cX4_claimBack 7 = .ok (.ifCond .ne 6, 3) := by decide +kernel
theorem dX4_claimBack_10 : decode cX4_claimBack 10 = .ok (.bipush (-7), 2) := by decide +kernel
theorem dX4_claimBack_12 : decode cX4_claimBack 12 = .ok (.ireturn, 1) := by decide +kernel
theorem dX4_claimBack_13 : decode cX4_claimBack 13 = .ok (.aload_n 0, 1) := by decide +kernel
theorem dX4_claimBack_14 : decode cX4_claimBack 14 = .ok (.getfield 40, 3) := by decide +kernel
theorem dX4_claimBack_17 : decode cX4_claimBack 17 = .ok (.bipush 9, 2) := by decide +kernel
theorem dX4_claimBack_19 : decode cX4_claimBack 19 = .ok (.invokevirtual 62, 3) := by decide +kernel
theorem dX4_claimBack_22 : decode cX4_claimBack 22 = .ok (.iconst 1, 1) := by decide +kernel
theorem dX4_claimBack_23 : decode cX4_claimBack 23 = .ok (.iadd, 1) := by decide +kernel
theorem dX4_claimBack_24 : decode cX4_claimBack 24 = .ok (.aload_n 0, 1) := by decide +kernel
theorem dX4_claimBack_25 : decode cX4_claimBack 25 = .ok (.getfield 40, 3) := by decide +kernel
theorem dX4_claimBack_28 : decode cX4_claimBack 28 = .ok (.bipush 8, 2) := by decide +kernel
theorem dX4_claimBack_30 : decode cX4_claimBack 30 = .ok (.invokevirtual 62, 3) := by decide +kernel
theorem dX4_claimBack_33 : decode cX4_claimBack 33 = .ok (.bipush 100, 2) := by decide +kernel
theorem dX4_claimBack_35 : decode cX4_claimBack 35 = .ok (.idiv, 1) := by decide +kernel
theorem dX4_claimBack_36 : decode cX4_claimBack 36 = .ok (.if_icmp .le 5, 3) := by decide +kernel
theorem dX4_claimBack_39 : decode cX4_claimBack 39 = .ok (.iconst 0, 1) := by decide +kernel
theorem dX4_claimBack_40 : decode cX4_claimBack 40 = .ok (.ireturn, 1) := by decide +kernel
theorem dX4_claimBack_41 : decode cX4_claimBack 41 = .ok (.iload_n 2, 1) := by decide +kernel
theorem dX4_claimBack_42 : decode cX4_claimBack 42 = .ok (.invokestatic 89, 3) := by decide +kernel
theorem dX4_claimBack_45 : decode cX4_claimBack 45 = .ok (.ifCond .eq 24, 3) := by decide +kernel
theorem dX4_claimBack_48 : decode cX4_claimBack 48 = .ok (.iload_n 2, 1) := by decide +kernel
theorem dX4_claimBack_49 : decode cX4_claimBack 49 = .ok (.i2l, 1) := by decide +kernel
theorem dX4_claimBack_50 : decode cX4_claimBack 50 = .ok (.aload_n 0, 1) := by decide +kernel
theorem dX4_claimBack_51 : decode cX4_claimBack 51 = .ok (.getfield 40, 3) := by decide +kernel
theorem dX4_claimBack_54 : decode cX4_claimBack 54 = .ok (.iconst 0, 1) := by decide +kernel
theorem dX4_claimBack_55 : decode cX4_claimBack 55 = .ok (.invokevirtual 96, 3) := by decide +kernel
theorem dX4_claimBack_58 : decode cX4_claimBack 58 = .ok (.lcmp, 1) := by decide +kernel
theorem dX4_claimBack_59 : decode cX4_claimBack 59 = .ok (.ifCond .gt 10, 3) := by decide +kernel
theorem dX4_claimBack_62 : decode cX4_claimBack 62 = .ok (.iload_n 1, 1) := by decide +kernel
theorem dX4_claimBack_63 : decode cX4_claimBack 63 = .ok (.invokestatic 110, 3) := by decide +kernel
theorem dX4_claimBack_66 : decode cX4_claimBack 66 = .ok (.ifCond .ne 5, 3) := by decide +kernel
theorem dX4_claimBack_69 : decode cX4_claimBack 69 = .ok (.iconst 0, 1) := by decide +kernel
theorem dX4_claimBack_70 : decode cX4_claimBack 70 = .ok (.ireturn, 1) := by decide +kernel
theorem dX4_claimBack_71 : decode cX4_claimBack 71 = .ok (.aload_n 0, 1) := by decide +kernel
theorem dX4_claimBack_72 : decode cX4_claimBack 72 = .ok (.getfield 49, 3) := by decide +kernel
theorem dX4_claimBack_75 : decode cX4_claimBack 75 = .ok (.iconst 5, 1) := by decide +kernel
theorem dX4_claimBack_76 : decode cX4_claimBack 76 = .ok (.iload_n 2, 1) := by decide +kernel
theorem dX4_claimBack_77 : decode cX4_claimBack 77 = .ok (.iload_n 1, 1) := by decide +kernel
theorem dX4_claimBack_78 : decode cX4_claimBack 78 = .ok (.invokevirtual 66, 3) := by decide +kernel
theorem dX4_claimBack_81 : decode cX4_claimBack 81 = .ok (.ireturn, 1) := by decide +kernel
theorem dX4_book_0 : decode cX4_book 0 = .ok (.aload_n 0, 1) := by decide +kernel
theorem dX4_book_1 : decode cX4_book 1 = .ok (.getfield 33, 3) := by decide +kernel
theorem dX4_book_4 : decode cX4_book 4 = .ok (.invokevirtual 58, 3) := by decide +kernel
theorem dX4_book_7 : decode cX4_book 7 = .ok (.ifCond .ne 7, 3) := by decide +kernel
theorem dX4_book_10 : decode cX4_book 10 = .ok (.ldc2_w 113, 3) := by decide +kernel
theorem dX4_book_13 : decode cX4_book 13 = .ok (.lreturn, 1) := by decide +kernel
theorem dX4_book_14 : decode cX4_book 14 = .ok (.iload_n 1, 1) := by decide +kernel
theorem dX4_book_15 : decode cX4_book 15 = .ok (.tableswitch 156 0 9 #[53, 62, 71, 80, 90, 101, 112, 123, 134, 145], 53) := by decide +kernel
theorem dX4_book_68 : decode cX4_book 68 = .ok (.aload_n 0, 1) := by decide +kernel
theorem dX4_book_69 : decode cX4_book 69 = .ok (.getfield 40, 3) := by decide +kernel
theorem dX4_book_72 : decode cX4_book 72 = .ok (.iconst 0, 1) := by decide +kernel
theorem dX4_book_73 : decode cX4_book 73 = .ok (.invokevirtual 96, 3) := by decide +kernel
theorem dX4_book_76 : decode cX4_book 76 = .ok (.lreturn, 1) := by decide +kernel
theorem dX4_book_77 : decode cX4_book 77 = .ok (.aload_n 0, 1) := by decide +kernel
theorem dX4_book_78 : decode cX4_book 78 = .ok (.getfield 40, 3) := by decide +kernel
theorem dX4_book_81 : decode cX4_book 81 = .ok (.iconst 2, 1) := by decide +kernel
theorem dX4_book_82 : decode cX4_book 82 = .ok (.invokevirtual 96, 3) := by decide +kernel
theorem dX4_book_85 : decode cX4_book 85 = .ok (.lreturn, 1) := by decide +kernel
theorem dX4_book_86 : decode cX4_book 86 = .ok (.aload_n 0, 1) := by decide +kernel
theorem dX4_book_87 : decode cX4_book 87 = .ok (.getfield 40, 3) := by decide +kernel
theorem dX4_book_90 : decode cX4_book 90 = .ok (.iconst 4, 1) := by decide +kernel
theorem dX4_book_91 : decode cX4_book 91 = .ok (.invokevirtual 96, 3) := by decide +kernel
theorem dX4_book_94 : decode cX4_book 94 = .ok (.lreturn, 1) := by decide +kernel
theorem dX4_book_95 : decode cX4_book 95 = .ok (.aload_n 0, 1) := by decide +kernel
theorem dX4_book_96 : decode cX4_book 96 = .ok (.getfield 40, 3) := by decide +kernel
theorem dX4_book_99 : decode cX4_book 99 = .ok (.bipush 6, 2) := by decide +kernel
theorem dX4_book_101 : decode cX4_book 101 = .ok (.invokevirtual 96, 3) := by decide +kernel
theorem dX4_book_104 : decode cX4_book 104 = .ok (.lreturn, 1) := by decide +kernel
theorem dX4_book_105 : decode cX4_book 105 = .ok (.aload_n 0, 1) := by decide +kernel
theorem dX4_book_106 : decode cX4_book 106 = .ok (.getfield 40, 3) := by decide +kernel
theorem dX4_book_109 : decode cX4_book 109 = .ok (.bipush 8, 2) := by decide +kernel
theorem dX4_book_111 : decode cX4_book 111 = .ok (.invokevirtual 62, 3) := by decide +kernel
theorem dX4_book_114 : decode cX4_book 114 = .ok (.i2l, 1) := by decide +kernel
theorem dX4_book_115 : decode cX4_book 115 = .ok (.lreturn, 1) := by decide +kernel
theorem dX4_book_116 : decode cX4_book 116 = .ok (.aload_n 0, 1) := by decide +kernel
theorem dX4_book_117 : decode cX4_book 117 = .ok (.getfield 40, 3) := by decide +kernel
theorem dX4_book_120 : decode cX4_book 120 = .ok (.bipush 9, 2) := by decide +kernel
theorem dX4_book_122 : decode cX4_book 122 = .ok (.invokevirtual 62, 3) := by decide +kernel
theorem dX4_book_125 : decode cX4_book 125 = .ok (.i2l, 1) := by decide +kernel
theorem dX4_book_126 : decode cX4_book 126 = .ok (.lreturn, 1) := by decide +kernel
theorem dX4_book_127 : decode cX4_book 127 = .ok (.aload_n 0, 1) := by decide +kernel
theorem dX4_book_128 : decode cX4_book 128 = .ok (.getfield 40, 3) := by decide +kernel
theorem dX4_book_131 : decode cX4_book 131 = .ok (.bipush 10, 2) := by decide +kernel
theorem dX4_book_133 : decode cX4_book 133 = .ok (.invokevirtual 62, 3) := by decide +kernel
theorem dX4_book_136 : decode cX4_book 136 = .ok (.i2l, 1) := by decide +kernel
theorem dX4_book_137 : decode cX4_book 137 = .ok (.lreturn, 1) := by decide +kernel
theorem dX4_book_138 : decode cX4_book 138 = .ok (.aload_n 0, 1) := by decide +kernel
theorem dX4_book_139 : decode cX4_book 139 = .ok (.getfield 40, 3) := by decide +kernel
theorem dX4_book_142 : decode cX4_book 142 = .ok (.bipush 11, 2) := by decide +kernel
theorem dX4_book_144 : decode cX4_book 144 = .ok (.invokevirtual 62, 3) := by decide +kernel
theorem dX4_book_147 : decode cX4_book 147 = .ok (.i2l, 1) := by decide +kernel
theorem dX4_book_148 : decode cX4_book 148 = .ok (.lreturn, 1) := by decide +kernel
theorem dX4_book_149 : decode cX4_book 149 = .ok (.aload_n 0, 1) := by decide +kernel
theorem dX4_book_150 : decode cX4_book 150 = .ok (.getfield 40, 3) := by decide +kernel
theorem dX4_book_153 : decode cX4_book 153 = .ok (.bipush 12, 2) := by decide +kernel
theorem dX4_book_155 : decode cX4_book 155 = .ok (.invokevirtual 62, 3) := by decide +kernel
theorem dX4_book_158 : decode cX4_book 158 = .ok (.i2l, 1) := by decide +kernel
theorem dX4_book_159 : decode cX4_book 159 = .ok (.lreturn, 1) := by decide +kernel
theorem dX4_book_160 : decode cX4_book 160 = .ok (.aload_n 0, 1) := by decide +kernel
theorem dX4_book_161 : decode cX4_book 161 = .ok (.getfield 40, 3) := by decide +kernel
theorem dX4_book_164 : decode cX4_book 164 = .ok (.bipush 13, 2) := by decide +kernel
theorem dX4_book_166 : decode cX4_book 166 = .ok (.invokevirtual 62, 3) := by decide +kernel
theorem dX4_book_169 : decode cX4_book 169 = .ok (.i2l, 1) := by decide +kernel
theorem dX4_book_170 : decode cX4_book 170 = .ok (.lreturn, 1) := by decide +kernel
theorem dX4_book_171 : decode cX4_book 171 = .ok (.ldc2_w 87, 3) := by decide +kernel
theorem dX4_book_174 : decode cX4_book 174 = .ok (.lreturn, 1) := by decide +kernel
theorem dX4_counter_0 : decode cX4_counter 0 = .ok (.aload_n 0, 1) := by decide +kernel
theorem dX4_counter_1 : decode cX4_counter 1 = .ok (.getfield 33, 3) := by decide +kernel
theorem dX4_counter_4 : decode cX4_counter 4 = .ok (.invokevirtual 58, 3) := by decide +kernel
theorem dX4_counter_7 : decode cX4_counter 7 = .ok (.ifCond .ne 7, 3) := by decide +kernel
theorem dX4_counter_10 : decode cX4_counter 10 = .ok (.ldc2_w 113, 3) := by decide +kernel
theorem dX4_counter_13 : decode cX4_counter 13 = .ok (.lreturn, 1) := by decide +kernel
theorem dX4_counter_14 : decode cX4_counter 14 = .ok (.iload_n 1, 1) := by decide +kernel
theorem dX4_counter_15 : decode cX4_counter 15 = .ok (.invokestatic 115, 3) := by decide +kernel
theorem dX4_counter_18 : decode cX4_counter 18 = .ok (.ifCond .eq 10, 3) := by decide +kernel
theorem dX4_counter_21 : decode cX4_counter 21 = .ok (.iload_n 2, 1) := by decide +kernel
theorem dX4_counter_22 : decode cX4_counter 22 = .ok (.invokestatic 118, 3) := by decide +kernel
theorem dX4_counter_25 : decode cX4_counter 25 = .ok (.ifCond .ne 7, 3) := by decide +kernel
theorem dX4_counter_28 : decode cX4_counter 28 = .ok (.ldc2_w 87, 3) := by decide +kernel
theorem dX4_counter_31 : decode cX4_counter 31 = .ok (.lreturn, 1) := by decide +kernel
theorem dX4_counter_32 : decode cX4_counter 32 = .ok (.iload_n 2, 1) := by decide +kernel
theorem dX4_counter_33 : decode cX4_counter 33 = .ok (.ifCond .ne 15, 3) := by decide +kernel
theorem dX4_counter_36 : decode cX4_counter 36 = .ok (.aload_n 0, 1) := by decide +kernel
theorem dX4_counter_37 : decode cX4_counter 37 = .ok (.getfield 40, 3) := by decide +kernel
theorem dX4_counter_40 : decode cX4_counter 40 = .ok (.iload_n 1, 1) := by decide +kernel
theorem dX4_counter_41 : decode cX4_counter 41 = .ok (.invokevirtual 121, 3) := by decide +kernel
theorem dX4_counter_44 : decode cX4_counter 44 = .ok (.i2l, 1) := by decide +kernel
theorem dX4_counter_45 : decode cX4_counter 45 = .ok (.goto 11, 3) := by decide +kernel
theorem dX4_counter_48 : decode cX4_counter 48 = .ok (.aload_n 0, 1) := by decide +kernel
theorem dX4_counter_49 : decode cX4_counter 49 = .ok (.getfield 40, 3) := by decide +kernel
theorem dX4_counter_52 : decode cX4_counter 52 = .ok (.iload_n 1, 1) := by decide +kernel
theorem dX4_counter_53 : decode cX4_counter 53 = .ok (.invokevirtual 124, 3) := by decide +kernel
theorem dX4_counter_56 : decode cX4_counter 56 = .ok (.lreturn, 1) := by decide +kernel
theorem dX4_dayTotal_0 : decode cX4_dayTotal 0 = .ok (.aload_n 0, 1) := by decide +kernel
theorem dX4_dayTotal_1 : decode cX4_dayTotal 1 = .ok (.getfield 33, 3) := by decide +kernel
theorem dX4_dayTotal_4 : decode cX4_dayTotal 4 = .ok (.invokevirtual 58, 3) := by decide +kernel
theorem dX4_dayTotal_7 : decode cX4_dayTotal 7 = .ok (.ifCond .ne 7, 3) := by decide +kernel
theorem dX4_dayTotal_10 : decode cX4_dayTotal 10 = .ok (.ldc2_w 113, 3) := by decide +kernel
theorem dX4_dayTotal_13 : decode cX4_dayTotal 13 = .ok (.lreturn, 1) := by decide +kernel
theorem dX4_dayTotal_14 : decode cX4_dayTotal 14 = .ok (.iload_n 1, 1) := by decide +kernel
theorem dX4_dayTotal_15 : decode cX4_dayTotal 15 = .ok (.invokestatic 110, 3) := by decide +kernel
theorem dX4_dayTotal_18 : decode cX4_dayTotal 18 = .ok (.ifCond .eq 10, 3) := by decide +kernel
theorem dX4_dayTotal_21 : decode cX4_dayTotal 21 = .ok (.iload_n 2, 1) := by decide +kernel
theorem dX4_dayTotal_22 : decode cX4_dayTotal 22 = .ok (.invokestatic 118, 3) := by decide +kernel
theorem dX4_dayTotal_25 : decode cX4_dayTotal 25 = .ok (.ifCond .ne 7, 3) := by decide +kernel
theorem dX4_dayTotal_28 : decode cX4_dayTotal 28 = .ok (.ldc2_w 87, 3) := by decide +kernel
theorem dX4_dayTotal_31 : decode cX4_dayTotal 31 = .ok (.lreturn, 1) := by decide +kernel
theorem dX4_dayTotal_32 : decode cX4_dayTotal 32 = .ok (.iload_n 2, 1) := by decide +kernel
theorem dX4_dayTotal_33 : decode cX4_dayTotal 33 = .ok (.ifCond .ne 15, 3) := by decide +kernel
theorem dX4_dayTotal_36 : decode cX4_dayTotal 36 = .ok (.aload_n 0, 1) := by decide +kernel
theorem dX4_dayTotal_37 : decode cX4_dayTotal 37 = .ok (.getfield 40, 3) := by decide +kernel
theorem dX4_dayTotal_40 : decode cX4_dayTotal 40 = .ok (.iload_n 1, 1) := by decide +kernel
theorem dX4_dayTotal_41 : decode cX4_dayTotal 41 = .ok (.invokevirtual 127, 3) := by decide +kernel
theorem dX4_dayTotal_44 : decode cX4_dayTotal 44 = .ok (.i2l, 1) := by decide +kernel
theorem dX4_dayTotal_45 : decode cX4_dayTotal 45 = .ok (.goto 11, 3) := by decide +kernel
theorem dX4_dayTotal_48 : decode cX4_dayTotal 48 = .ok (.aload_n 0, 1) := by decide +kernel
theorem dX4_dayTotal_49 : decode cX4_dayTotal 49 = .ok (.getfield 40, 3) := by decide +kernel
theorem dX4_dayTotal_52 : decode cX4_dayTotal 52 = .ok (.iload_n 1, 1) := by decide +kernel
theorem dX4_dayTotal_53 : decode cX4_dayTotal 53 = .ok (.invokevirtual 130, 3) := by decide +kernel
theorem dX4_dayTotal_56 : decode cX4_dayTotal 56 = .ok (.lreturn, 1) := by decide +kernel
theorem dX4_inspect_0 : decode cX4_inspect 0 = .ok (.aload_n 0, 1) := by decide +kernel
theorem dX4_inspect_1 : decode cX4_inspect 1 = .ok (.getfield 33, 3) := by decide +kernel
theorem dX4_inspect_4 : decode cX4_inspect 4 = .ok (.invokevirtual 58, 3) := by decide +kernel
theorem dX4_inspect_7 : decode cX4_inspect 7 = .ok (.ifCond .ne 6, 3) := by decide +kernel
theorem dX4_inspect_10 : decode cX4_inspect 10 = .ok (.bipush (-7), 2) := by decide +kernel
theorem dX4_inspect_12 : decode cX4_inspect 12 = .ok (.ireturn, 1) := by decide +kernel
theorem dX4_inspect_13 : decode cX4_inspect 13 = .ok (.iload_n 1, 1) := by decide +kernel
theorem dX4_inspect_14 : decode cX4_inspect 14 = .ok (.invokestatic 110, 3) := by decide +kernel
theorem dX4_inspect_17 : decode cX4_inspect 17 = .ok (.ifCond .eq 16, 3) := by decide +kernel
theorem dX4_inspect_20 : decode cX4_inspect 20 = .ok (.iload_n 1, 1) := by decide +kernel
theorem dX4_inspect_21 : decode cX4_inspect 21 = .ok (.aload_n 0, 1) := by decide +kernel
theorem dX4_inspect_22 : decode cX4_inspect 22 = .ok (.getfield 40, 3) := by decide +kernel
theorem dX4_inspect_25 : decode cX4_inspect 25 = .ok (.bipush 12, 2) := by decide +kernel
theorem dX4_inspect_27 : decode cX4_inspect 27 = .ok (.invokevirtual 62, 3) := by decide +kernel
theorem dX4_inspect_30 : decode cX4_inspect 30 = .ok (.if_icmp .ge 5, 3) := by decide +kernel
theorem dX4_inspect_33 : decode cX4_inspect 33 = .ok (.iconst 0, 1) := by decide +kernel
theorem dX4_inspect_34 : decode cX4_inspect 34 = .ok (.ireturn, 1) := by decide +kernel
theorem dX4_inspect_35 : decode cX4_inspect 35 = .ok (.aload_n 0, 1) := by decide +kernel
theorem dX4_inspect_36 : decode cX4_inspect 36 = .ok (.getfield 49, 3) := by decide +kernel
theorem dX4_inspect_39 : decode cX4_inspect 39 = .ok (.bipush 6, 2) := by decide +kernel
theorem dX4_inspect_41 : decode cX4_inspect 41 = .ok (.iload_n 1, 1) := by decide +kernel
theorem dX4_inspect_42 : decode cX4_inspect 42 = .ok (.iconst 0, 1) := by decide +kernel
theorem dX4_inspect_43 : decode cX4_inspect 43 = .ok (.invokevirtual 66, 3) := by decide +kernel
theorem dX4_inspect_46 : decode cX4_inspect 46 = .ok (.ireturn, 1) := by decide +kernel
theorem dX4_lock_0 : decode cX4_lock 0 = .ok (.aload_n 0, 1) := by decide +kernel
theorem dX4_lock_1 : decode cX4_lock 1 = .ok (.getfield 33, 3) := by decide +kernel
theorem dX4_lock_4 : decode cX4_lock 4 = .ok (.invokevirtual 58, 3) := by decide +kernel
theorem dX4_lock_7 : decode cX4_lock 7 = .ok (.ifCond .ne 6, 3) := by decide +kernel
theorem dX4_lock_10 : decode cX4_lock 10 = .ok (.bipush (-7), 2) := by decide +kernel
theorem dX4_lock_12 : decode cX4_lock 12 = .ok (.ireturn, 1) := by decide +kernel
theorem dX4_lock_13 : decode cX4_lock 13 = .ok (.aload_n 0, 1) := by decide +kernel
theorem dX4_lock_14 : decode cX4_lock 14 = .ok (.invokevirtual 133, 3) := by decide +kernel
theorem dX4_lock_17 : decode cX4_lock 17 = .ok (.ifCond .eq 7, 3) := by decide +kernel
theorem dX4_lock_20 : decode cX4_lock 20 = .ok (.iconst 0, 1) := by decide +kernel
theorem dX4_lock_21 : decode cX4_lock 21 = .ok (.goto 14, 3) := by decide +kernel
theorem dX4_lock_24 : decode cX4_lock 24 = .ok (.aload_n 0, 1) := by decide +kernel
theorem dX4_lock_25 : decode cX4_lock 25 = .ok (.getfield 49, 3) := by decide +kernel
theorem dX4_lock_28 : decode cX4_lock 28 = .ok (.bipush 7, 2) := by decide +kernel
theorem dX4_lock_30 : decode cX4_lock 30 = .ok (.iconst 0, 1) := by decide +kernel
theorem dX4_lock_31 : decode cX4_lock 31 = .ok (.iconst 0, 1) := by decide +kernel
theorem dX4_lock_32 : decode cX4_lock 32 = .ok (.invokevirtual 66, 3) := by decide +kernel
theorem dX4_lock_35 : decode cX4_lock 35 = .ok (.ireturn, 1) := by decide +kernel
theorem dX4_unlock_0 : decode cX4_unlock 0 = .ok (.aload_n 0, 1) := by decide +kernel
theorem dX4_unlock_1 : decode cX4_unlock 1 = .ok (.getfield 33, 3) := by decide +kernel
theorem dX4_unlock_4 : decode cX4_unlock 4 = .ok (.invokevirtual 58, 3) := by decide +kernel
theorem dX4_unlock_7 : decode cX4_unlock 7 = .ok (.ifCond .ne 6, 3) := by decide +kernel
theorem dX4_unlock_10 : decode cX4_unlock 10 = .ok (.bipush (-7), 2) := by decide +kernel
theorem dX4_unlock_12 : decode cX4_unlock 12 = .ok (.ireturn, 1) := by decide +kernel
theorem dX4_unlock_13 : decode cX4_unlock 13 = .ok (.aload_n 0, 1) := by decide +kernel
theorem dX4_unlock_14 : decode cX4_unlock 14 = .ok (.invokevirtual 133, 3) := by decide +kernel
theorem dX4_unlock_17 : decode cX4_unlock 17 = .ok (.ifCond .eq 21, 3) := by decide +kernel
theorem dX4_unlock_20 : decode cX4_unlock 20 = .ok (.iload_n 1, 1) := by decide +kernel
theorem dX4_unlock_21 : decode cX4_unlock 21 = .ok (.aload_n 0, 1) := by decide +kernel
theorem dX4_unlock_22 : decode cX4_unlock 22 = .ok (.aload_n 0, 1) := by decide +kernel
theorem dX4_unlock_23 : decode cX4_unlock 23 = .ok (.getfield 40, 3) := by decide +kernel
theorem dX4_unlock_26 : decode cX4_unlock 26 = .ok (.bipush 10, 2) := by decide +kernel
theorem dX4_unlock_28 : decode cX4_unlock 28 = .ok (.invokevirtual 62, 3) := by decide +kernel
theorem dX4_unlock_31 : decode cX4_unlock 31 = .ok (.iconst 0, 1) := by decide +kernel
theorem dX4_unlock_32 : decode cX4_unlock 32 = .ok (.invokevirtual 93, 3) := by decide +kernel
theorem dX4_unlock_35 : decode cX4_unlock 35 = .ok (.if_icmp .eq 5, 3) := by decide +kernel
theorem dX4_unlock_38 : decode cX4_unlock 38 = .ok (.iconst 0, 1) := by decide +kernel
theorem dX4_unlock_39 : decode cX4_unlock 39 = .ok (.ireturn, 1) := by decide +kernel
theorem dX4_unlock_40 : decode cX4_unlock 40 = .ok (.aload_n 0, 1) := by decide +kernel
theorem dX4_unlock_41 : decode cX4_unlock 41 = .ok (.getfield 49, 3) := by decide +kernel
theorem dX4_unlock_44 : decode cX4_unlock 44 = .ok (.bipush 8, 2) := by decide +kernel
theorem dX4_unlock_46 : decode cX4_unlock 46 = .ok (.iconst 0, 1) := by decide +kernel
theorem dX4_unlock_47 : decode cX4_unlock 47 = .ok (.iconst 0, 1) := by decide +kernel
theorem dX4_unlock_48 : decode cX4_unlock 48 = .ok (.invokevirtual 66, 3) := by decide +kernel
theorem dX4_unlock_51 : decode cX4_unlock 51 = .ok (.ireturn, 1) := by decide +kernel
theorem dX4_cut_0 : decode cX4_cut 0 = .ok (.iload_n 1, 1) := by decide +kernel
theorem dX4_cut_1 : decode cX4_cut 1 = .ok (.ifCond .lt 9, 3) := by decide +kernel
theorem dX4_cut_4 : decode cX4_cut 4 = .ok (.iload_n 1, 1) := by decide +kernel
theorem dX4_cut_5 : decode cX4_cut 5 = .ok (.ldc 136, 2) := by decide +kernel
theorem dX4_cut_7 : decode cX4_cut 7 = .ok (.if_icmp .le 5, 3) := by decide +kernel
theorem dX4_cut_10 : decode cX4_cut 10 = .ok (.iconst (-1), 1) := by decide +kernel
theorem dX4_cut_11 : decode cX4_cut 11 = .ok (.ireturn, 1) := by decide +kernel
theorem dX4_cut_12 : decode cX4_cut 12 = .ok (.aload_n 0, 1) := by decide +kernel
theorem dX4_cut_13 : decode cX4_cut 13 = .ok (.getfield 33, 3) := by decide +kernel
theorem dX4_cut_16 : decode cX4_cut 16 = .ok (.iload_n 1, 1) := by decide +kernel
theorem dX4_cut_17 : decode cX4_cut 17 = .ok (.iload_n 2, 1) := by decide +kernel
theorem dX4_cut_18 : decode cX4_cut 18 = .ok (.invokevirtual 137, 3) := by decide +kernel
theorem dX4_cut_21 : decode cX4_cut 21 = .ok (.iconst 1, 1) := by decide +kernel
theorem dX4_cut_22 : decode cX4_cut 22 = .ok (.ireturn, 1) := by decide +kernel
theorem dX4_mount_0 : decode cX4_mount 0 = .ok (.aload_n 0, 1) := by decide +kernel
theorem dX4_mount_1 : decode cX4_mount 1 = .ok (.getfield 33, 3) := by decide +kernel
theorem dX4_mount_4 : decode cX4_mount 4 = .ok (.invokevirtual 58, 3) := by decide +kernel
theorem dX4_mount_7 : decode cX4_mount 7 = .ok (.ifCond .ne 17, 3) := by decide +kernel
theorem dX4_mount_10 : decode cX4_mount 10 = .ok (.aload_n 0, 1) := by decide +kernel
theorem dX4_mount_11 : decode cX4_mount 11 = .ok (.getfield 33, 3) := by decide +kernel
theorem dX4_mount_14 : decode cX4_mount 14 = .ok (.invokevirtual 141, 3) := by decide +kernel
theorem dX4_mount_17 : decode cX4_mount 17 = .ok (.aload_n 0, 1) := by decide +kernel
theorem dX4_mount_18 : decode cX4_mount 18 = .ok (.getfield 49, 3) := by decide +kernel
theorem dX4_mount_21 : decode cX4_mount 21 = .ok (.invokevirtual 144, 3) := by decide +kernel
theorem dX4_mount_24 : decode cX4_mount 24 = .ok (.aload_n 0, 1) := by decide +kernel
theorem dX4_mount_25 : decode cX4_mount 25 = .ok (.getfield 49, 3) := by decide +kernel
theorem dX4_mount_28 : decode cX4_mount 28 = .ok (.invokevirtual 147, 3) := by decide +kernel
theorem dX4_mount_31 : decode cX4_mount 31 = .ok (.ireturn, 1) := by decide +kernel
theorem dX4_uncertain_0 : decode cX4_uncertain 0 = .ok (.aload_n 0, 1) := by decide +kernel
theorem dX4_uncertain_1 : decode cX4_uncertain 1 = .ok (.getfield 33, 3) := by decide +kernel
theorem dX4_uncertain_4 : decode cX4_uncertain 4 = .ok (.invokevirtual 58, 3) := by decide +kernel
theorem dX4_uncertain_7 : decode cX4_uncertain 7 = .ok (.ifCond .ne 6, 3) := by decide +kernel
theorem dX4_uncertain_10 : decode cX4_uncertain 10 = .ok (.bipush (-7), 2) := by decide +kernel
theorem dX4_uncertain_12 : decode cX4_uncertain 12 = .ok (.ireturn, 1) := by decide +kernel
theorem dX4_uncertain_13 : decode cX4_uncertain 13 = .ok (.aload_n 0, 1) := by decide +kernel
theorem dX4_uncertain_14 : decode cX4_uncertain 14 = .ok (.invokevirtual 151, 3) := by decide +kernel
theorem dX4_uncertain_17 : decode cX4_uncertain 17 = .ok (.ifCond .eq 7, 3) := by decide +kernel
theorem dX4_uncertain_20 : decode cX4_uncertain 20 = .ok (.iconst 1, 1) := by decide +kernel
theorem dX4_uncertain_21 : decode cX4_uncertain 21 = .ok (.goto 4, 3) := by decide +kernel
theorem dX4_uncertain_24 : decode cX4_uncertain 24 = .ok (.iconst 0, 1) := by decide +kernel
theorem dX4_uncertain_25 : decode cX4_uncertain 25 = .ok (.ireturn, 1) := by decide +kernel
theorem dX4_settle_0 : decode cX4_settle 0 = .ok (.aload_n 0, 1) := by decide +kernel
theorem dX4_settle_1 : decode cX4_settle 1 = .ok (.getfield 33, 3) := by decide +kernel
theorem dX4_settle_4 : decode cX4_settle 4 = .ok (.invokevirtual 58, 3) := by decide +kernel
theorem dX4_settle_7 : decode cX4_settle 7 = .ok (.ifCond .ne 6, 3) := by decide +kernel
theorem dX4_settle_10 : decode cX4_settle 10 = .ok (.bipush (-7), 2) := by decide +kernel
theorem dX4_settle_12 : decode cX4_settle 12 = .ok (.ireturn, 1) := by decide +kernel
theorem dX4_settle_13 : decode cX4_settle 13 = .ok (.aload_n 0, 1) := by decide +kernel
theorem dX4_settle_14 : decode cX4_settle 14 = .ok (.invokevirtual 151, 3) := by decide +kernel
theorem dX4_settle_17 : decode cX4_settle 17 = .ok (.ifCond .eq 24, 3) := by decide +kernel
theorem dX4_settle_20 : decode cX4_settle 20 = .ok (.aload_n 0, 1) := by decide +kernel
theorem dX4_settle_21 : decode cX4_settle 21 = .ok (.getfield 49, 3) := by decide +kernel
theorem dX4_settle_24 : decode cX4_settle 24 = .ok (.iconst 3, 1) := by decide +kernel
theorem dX4_settle_25 : decode cX4_settle 25 = .ok (.iload_n 1, 1) := by decide +kernel
theorem dX4_settle_26 : decode cX4_settle 26 = .ok (.ifCond .eq 7, 3) := by decide +kernel
theorem dX4_settle_29 : decode cX4_settle 29 = .ok (.iconst 1, 1) := by decide +kernel
theorem dX4_settle_30 : decode cX4_settle 30 = .ok (.goto 4, 3) := by decide +kernel
theorem dX4_settle_33 : decode cX4_settle 33 = .ok (.iconst 0, 1) := by decide +kernel
theorem dX4_settle_34 : decode cX4_settle 34 = .ok (.iconst 0, 1) := by decide +kernel
theorem dX4_settle_35 : decode cX4_settle 35 = .ok (.invokevirtual 66, 3) := by decide +kernel
theorem dX4_settle_38 : decode cX4_settle 38 = .ok (.goto 4, 3) := by decide +kernel
theorem dX4_settle_41 : decode cX4_settle 41 = .ok (.iconst 0, 1) := by decide +kernel
theorem dX4_settle_42 : decode cX4_settle 42 = .ok (.ireturn, 1) := by decide +kernel
theorem dX4_wear_0 : decode cX4_wear 0 = .ok (.aload_n 0, 1) := by decide +kernel
theorem dX4_wear_1 : decode cX4_wear 1 = .ok (.getfield 33, 3) := by decide +kernel
theorem dX4_wear_4 : decode cX4_wear 4 = .ok (.iload_n 1, 1) := by decide +kernel
theorem dX4_wear_5 : decode cX4_wear 5 = .ok (.iconst 0, 1) := by decide +kernel
theorem dX4_wear_6 : decode cX4_wear 6 = .ok (.invokevirtual 154, 3) := by decide +kernel
theorem dX4_wear_9 : decode cX4_wear 9 = .ok (.ifCond .eq 14, 3) := by decide +kernel
theorem dX4_wear_12 : decode cX4_wear 12 = .ok (.aload_n 0, 1) := by decide +kernel
theorem dX4_wear_13 : decode cX4_wear 13 = .ok (.getfield 33, 3) := by decide +kernel
theorem dX4_wear_16 : decode cX4_wear 16 = .ok (.iload_n 1, 1) := by decide +kernel
theorem dX4_wear_17 : decode cX4_wear 17 = .ok (.invokevirtual 158, 3) := by decide +kernel
theorem dX4_wear_20 : decode cX4_wear 20 = .ok (.goto 4, 3) := by decide +kernel
theorem dX4_wear_23 : decode cX4_wear 23 = .ok (.iconst (-1), 1) := by decide +kernel
theorem dX4_wear_24 : decode cX4_wear 24 = .ok (.ireturn, 1) := by decide +kernel
theorem dX4_word_0 : decode cX4_word 0 = .ok (.aload_n 0, 1) := by decide +kernel
theorem dX4_word_1 : decode cX4_word 1 = .ok (.getfield 33, 3) := by decide +kernel
theorem dX4_word_4 : decode cX4_word 4 = .ok (.iload_n 1, 1) := by decide +kernel
theorem dX4_word_5 : decode cX4_word 5 = .ok (.iload_n 2, 1) := by decide +kernel
theorem dX4_word_6 : decode cX4_word 6 = .ok (.invokevirtual 154, 3) := by decide +kernel
theorem dX4_word_9 : decode cX4_word 9 = .ok (.ifCond .eq 15, 3) := by decide +kernel
theorem dX4_word_12 : decode cX4_word 12 = .ok (.aload_n 0, 1) := by decide +kernel
theorem dX4_word_13 : decode cX4_word 13 = .ok (.getfield 33, 3) := by decide +kernel
theorem dX4_word_16 : decode cX4_word 16 = .ok (.iload_n 1, 1) := by decide +kernel
theorem dX4_word_17 : decode cX4_word 17 = .ok (.iload_n 2, 1) := by decide +kernel
theorem dX4_word_18 : decode cX4_word 18 = .ok (.invokevirtual 161, 3) := by decide +kernel
theorem dX4_word_21 : decode cX4_word 21 = .ok (.goto 4, 3) := by decide +kernel
theorem dX4_word_24 : decode cX4_word 24 = .ok (.iconst (-1), 1) := by decide +kernel
theorem dX4_word_25 : decode cX4_word 25 = .ok (.ireturn, 1) := by decide +kernel
theorem dX4_sound_0 : decode cX4_sound 0 = .ok (.aload_n 0, 1) := by decide +kernel
theorem dX4_sound_1 : decode cX4_sound 1 = .ok (.getfield 33, 3) := by decide +kernel
theorem dX4_sound_4 : decode cX4_sound 4 = .ok (.invokevirtual 58, 3) := by decide +kernel
theorem dX4_sound_7 : decode cX4_sound 7 = .ok (.ifCond .ne 6, 3) := by decide +kernel
theorem dX4_sound_10 : decode cX4_sound 10 = .ok (.bipush (-7), 2) := by decide +kernel
theorem dX4_sound_12 : decode cX4_sound 12 = .ok (.ireturn, 1) := by decide +kernel
theorem dX4_sound_13 : decode cX4_sound 13 = .ok (.aload_n 0, 1) := by decide +kernel
theorem dX4_sound_14 : decode cX4_sound 14 = .ok (.getfield 40, 3) := by decide +kernel
theorem dX4_sound_17 : decode cX4_sound 17 = .ok (.invokevirtual 164, 3) := by decide +kernel
theorem dX4_sound_20 : decode cX4_sound 20 = .ok (.ifCond .eq 70, 3) := by decide +kernel
theorem dX4_sound_23 : decode cX4_sound 23 = .ok (.aload_n 0, 1) := by decide +kernel
theorem dX4_sound_24 : decode cX4_sound 24 = .ok (.getfield 40, 3) := by decide +kernel
theorem dX4_sound_27 : decode cX4_sound 27 = .ok (.invokevirtual 167, 3) := by decide +kernel
theorem dX4_sound_30 : decode cX4_sound 30 = .ok (.ifCond .eq 60, 3) := by decide +kernel
theorem dX4_sound_33 : decode cX4_sound 33 = .ok (.aload_n 0, 1) := by decide +kernel
theorem dX4_sound_34 : decode cX4_sound 34 = .ok (.getfield 80, 3) := by decide +kernel
theorem dX4_sound_37 : decode cX4_sound 37 = .ok (.aload_n 0, 1) := by decide +kernel
theorem dX4_sound_38 : decode cX4_sound 38 = .ok (.getfield 40, 3) := by decide +kernel
theorem dX4_sound_41 : decode cX4_sound 41 = .ok (.bipush 8, 2) := by decide +kernel
theorem dX4_sound_43 : decode cX4_sound 43 = .ok (.invokevirtual 62, 3) := by decide +kernel
theorem dX4_sound_46 : decode cX4_sound 46 = .ok (.i2l, 1) := by decide +kernel
theorem dX4_sound_47 : decode cX4_sound 47 = .ok (.lcmp, 1) := by decide +kernel
theorem dX4_sound_48 : decode cX4_sound 48 = .ok (.ifCond .gt 42, 3) := by decide +kernel
theorem dX4_sound_51 : decode cX4_sound 51 = .ok (.aload_n 0, 1) := by decide +kernel
theorem dX4_sound_52 : decode cX4_sound 52 = .ok (.getfield 84, 3) := by decide +kernel
theorem dX4_sound_55 : decode cX4_sound 55 = .ok (.aload_n 0, 1) := by decide +kernel
theorem dX4_sound_56 : decode cX4_sound 56 = .ok (.getfield 40, 3) := by decide +kernel
theorem dX4_sound_59 : decode cX4_sound 59 = .ok (.iconst 0, 1) := by decide +kernel
theorem dX4_sound_60 : decode cX4_sound 60 = .ok (.invokevirtual 96, 3) := by decide +kernel
theorem dX4_sound_63 : decode cX4_sound 63 = .ok (.lcmp, 1) := by decide +kernel
theorem dX4_sound_64 : decode cX4_sound 64 = .ok (.ifCond .gt 26, 3) := by decide +kernel
theorem dX4_sound_67 : decode cX4_sound 67 = .ok (.aload_n 0, 1) := by decide +kernel
theorem dX4_sound_68 : decode cX4_sound 68 = .ok (.getfield 33, 3) := by decide +kernel
theorem dX4_sound_71 : decode cX4_sound 71 = .ok (.invokevirtual 170, 3) := by decide +kernel
theorem dX4_sound_74 : decode cX4_sound 74 = .ok (.iconst 1, 1) := by decide +kernel
theorem dX4_sound_75 : decode cX4_sound 75 = .ok (.aload_n 0, 1) := by decide +kernel
theorem dX4_sound_76 : decode cX4_sound 76 = .ok (.getfield 33, 3) := by decide +kernel
theorem dX4_sound_79 : decode cX4_sound 79 = .ok (.invokevirtual 173, 3) := by decide +kernel
theorem dX4_sound_82 : decode cX4_sound 82 = .ok (.iadd, 1) := by decide +kernel
theorem dX4_sound_83 : decode cX4_sound 83 = .ok (.if_icmp .gt 7, 3) := by decide +kernel
theorem dX4_sound_86 : decode cX4_sound 86 = .ok (.iconst 1, 1) := by decide +kernel
theorem dX4_sound_87 : decode cX4_sound 87 = .ok (.goto 4, 3) := by decide +kernel
theorem dX4_sound_90 : decode cX4_sound 90 = .ok (.iconst 0, 1) := by decide +kernel
theorem dX4_sound_91 : decode cX4_sound 91 = .ok (.istore_n 1, 1) := by decide +kernel
theorem dX4_sound_92 : decode cX4_sound 92 = .ok (.iload_n 1, 1) := by decide +kernel
theorem dX4_sound_93 : decode cX4_sound 93 = .ok (.ifCond .eq 7, 3) := by decide +kernel
theorem dX4_sound_96 : decode cX4_sound 96 = .ok (.iconst 1, 1) := by decide +kernel
theorem dX4_sound_97 : decode cX4_sound 97 = .ok (.goto 4, 3) := by decide +kernel
theorem dX4_sound_100 : decode cX4_sound 100 = .ok (.iconst 0, 1) := by decide +kernel
theorem dX4_sound_101 : decode cX4_sound 101 = .ok (.ireturn, 1) := by decide +kernel
theorem dX4_mayFrank_0 : decode cX4_mayFrank 0 = .ok (.iload_n 1, 1) := by decide +kernel
theorem dX4_mayFrank_1 : decode cX4_mayFrank 1 = .ok (.invokestatic 115, 3) := by decide +kernel
theorem dX4_mayFrank_4 : decode cX4_mayFrank 4 = .ok (.ifCond .eq 62, 3) := by decide +kernel
theorem dX4_mayFrank_7 : decode cX4_mayFrank 7 = .ok (.iload_n 3, 1) := by decide +kernel
theorem dX4_mayFrank_8 : decode cX4_mayFrank 8 = .ok (.invokestatic 110, 3) := by decide +kernel
theorem dX4_mayFrank_11 : decode cX4_mayFrank 11 = .ok (.ifCond .eq 55, 3) := by decide +kernel
theorem dX4_mayFrank_14 : decode cX4_mayFrank 14 = .ok (.iload_n 2, 1) := by decide +kernel
theorem dX4_mayFrank_15 : decode cX4_mayFrank 15 = .ok (.invokestatic 89, 3) := by decide +kernel
theorem dX4_mayFrank_18 : decode cX4_mayFrank 18 = .ok (.ifCond .eq 48, 3) := by decide +kernel
theorem dX4_mayFrank_21 : decode cX4_mayFrank 21 = .ok (.iload_n 2, 1) := by decide +kernel
theorem dX4_mayFrank_22 : decode cX4_mayFrank 22 = .ok (.i2l, 1) := by decide +kernel
theorem dX4_mayFrank_23 : decode cX4_mayFrank 23 = .ok (.aload_n 0, 1) := by decide +kernel
theorem dX4_mayFrank_24 : decode cX4_mayFrank 24 = .ok (.getfield 40, 3) := by decide +kernel
theorem dX4_mayFrank_27 : decode cX4_mayFrank 27 = .ok (.iconst 2, 1) := by decide +kernel
theorem dX4_mayFrank_28 : decode cX4_mayFrank 28 = .ok (.invokevirtual 96, 3) := by decide +kernel
theorem dX4_mayFrank_31 : decode cX4_mayFrank 31 = .ok (.lcmp, 1) := by decide +kernel
theorem dX4_mayFrank_32 : decode cX4_mayFrank 32 = .ok (.ifCond .gt 34, 3) := by decide +kernel
theorem dX4_mayFrank_35 : decode cX4_mayFrank 35 = .ok (.iload_n 3, 1) := by decide +kernel
theorem dX4_mayFrank_36 : decode cX4_mayFrank 36 = .ok (.aload_n 0, 1) := by decide +kernel
theorem dX4_mayFrank_37 : decode cX4_mayFrank 37 = .ok (.getfield 40, 3) := by decide +kernel
theorem dX4_mayFrank_40 : decode cX4_mayFrank 40 = .ok (.bipush 12, 2) := by decide +kernel
theorem dX4_mayFrank_42 : decode cX4_mayFrank 42 = .ok (.invokevirtual 62, 3) := by decide +kernel
theorem dX4_mayFrank_45 : decode cX4_mayFrank 45 = .ok (.if_icmp .gt 21, 3) := by decide +kernel
theorem dX4_mayFrank_48 : decode cX4_mayFrank 48 = .ok (.aload_n 0, 1) := by decide +kernel
theorem dX4_mayFrank_49 : decode cX4_mayFrank 49 = .ok (.invokevirtual 133, 3) := by decide +kernel
theorem dX4_mayFrank_52 : decode cX4_mayFrank 52 = .ok (.ifCond .ne 14, 3) := by decide +kernel
theorem dX4_mayFrank_55 : decode cX4_mayFrank 55 = .ok (.aload_n 0, 1) := by decide +kernel
theorem dX4_mayFrank_56 : decode cX4_mayFrank 56 = .ok (.invokevirtual 151, 3) := by decide +kernel
theorem dX4_mayFrank_59 : decode cX4_mayFrank 59 = .ok (.ifCond .ne 7, 3) := by decide +kernel
theorem dX4_mayFrank_62 : decode cX4_mayFrank 62 = .ok (.iconst 1, 1) := by decide +kernel
theorem dX4_mayFrank_63 : decode cX4_mayFrank 63 = .ok (.goto 4, 3) := by decide +kernel
theorem dX4_mayFrank_66 : decode cX4_mayFrank 66 = .ok (.iconst 0, 1) := by decide +kernel
theorem dX4_mayFrank_67 : decode cX4_mayFrank 67 = .ok (.ireturn, 1) := by decide +kernel
theorem dX4_isLocked_0 : decode cX4_isLocked 0 = .ok (.aload_n 0, 1) := by decide +kernel
theorem dX4_isLocked_1 : decode cX4_isLocked 1 = .ok (.getfield 40, 3) := by decide +kernel
theorem dX4_isLocked_4 : decode cX4_isLocked 4 = .ok (.bipush 11, 2) := by decide +kernel
theorem dX4_isLocked_6 : decode cX4_isLocked 6 = .ok (.invokevirtual 62, 3) := by decide +kernel
theorem dX4_isLocked_9 : decode cX4_isLocked 9 = .ok (.ifCond .eq 7, 3) := by decide +kernel
theorem dX4_isLocked_12 : decode cX4_isLocked 12 = .ok (.iconst 1, 1) := by decide +kernel
theorem dX4_isLocked_13 : decode cX4_isLocked 13 = .ok (.goto 4, 3) := by decide +kernel
theorem dX4_isLocked_16 : decode cX4_isLocked 16 = .ok (.iconst 0, 1) := by decide +kernel
theorem dX4_isLocked_17 : decode cX4_isLocked 17 = .ok (.ireturn, 1) := by decide +kernel
theorem dX4_isUncertain_0 : decode cX4_isUncertain 0 = .ok (.aload_n 0, 1) := by decide +kernel
theorem dX4_isUncertain_1 : decode cX4_isUncertain 1 = .ok (.getfield 40, 3) := by decide +kernel
theorem dX4_isUncertain_4 : decode cX4_isUncertain 4 = .ok (.bipush 14, 2) := by decide +kernel
theorem dX4_isUncertain_6 : decode cX4_isUncertain 6 = .ok (.invokevirtual 62, 3) := by decide +kernel
theorem dX4_isUncertain_9 : decode cX4_isUncertain 9 = .ok (.ifCond .eq 7, 3) := by decide +kernel
theorem dX4_isUncertain_12 : decode cX4_isUncertain 12 = .ok (.iconst 1, 1) := by decide +kernel
theorem dX4_isUncertain_13 : decode cX4_isUncertain 13 = .ok (.goto 4, 3) := by decide +kernel
theorem dX4_isUncertain_16 : decode cX4_isUncertain 16 = .ok (.iconst 0, 1) := by decide +kernel
theorem dX4_isUncertain_17 : decode cX4_isUncertain 17 = .ok (.ireturn, 1) := by decide +kernel
theorem dX4_areCents_0 : decode cX4_areCents 0 = .ok (.iload_n 0, 1) := by decide +kernel
theorem dX4_areCents_1 : decode cX4_areCents 1 = .ok (.iconst 1, 1) := by decide +kernel
theorem dX4_areCents_2 : decode cX4_areCents 2 = .ok (.if_icmp .lt 13, 3) := by decide +kernel
theorem dX4_areCents_5 : decode cX4_areCents 5 = .ok (.iload_n 0, 1) := by decide +kernel
theorem dX4_areCents_6 : decode cX4_areCents 6 = .ok (.ldc 53, 2) := by decide +kernel
theorem dX4_areCents_8 : decode cX4_areCents 8 = .ok (.if_icmp .gt 7, 3) := by decide +kernel
theorem dX4_areCents_11 : decode cX4_areCents 11 = .ok (.iconst 1, 1) := by decide +kernel
theorem dX4_areCents_12 : decode cX4_areCents 12 = .ok (.goto 4, 3) := by decide +kernel
theorem dX4_areCents_15 : decode cX4_areCents 15 = .ok (.iconst 0, 1) := by decide +kernel
theorem dX4_areCents_16 : decode cX4_areCents 16 = .ok (.ireturn, 1) := by decide +kernel
theorem dX4_isDay_0 : decode cX4_isDay 0 = .ok (.iload_n 0, 1) := by decide +kernel
theorem dX4_isDay_1 : decode cX4_isDay 1 = .ok (.ifCond .lt 13, 3) := by decide +kernel
theorem dX4_isDay_4 : decode cX4_isDay 4 = .ok (.iload_n 0, 1) := by decide +kernel
theorem dX4_isDay_5 : decode cX4_isDay 5 = .ok (.ldc 136, 2) := by decide +kernel
theorem dX4_isDay_7 : decode cX4_isDay 7 = .ok (.if_icmp .gt 7, 3) := by decide +kernel
theorem dX4_isDay_10 : decode cX4_isDay 10 = .ok (.iconst 1, 1) := by decide +kernel
theorem dX4_isDay_11 : decode cX4_isDay 11 = .ok (.goto 4, 3) := by decide +kernel
theorem dX4_isDay_14 : decode cX4_isDay 14 = .ok (.iconst 0, 1) := by decide +kernel
theorem dX4_isDay_15 : decode cX4_isDay 15 = .ok (.ireturn, 1) := by decide +kernel
theorem dX4_isDepartment_0 : decode cX4_isDepartment 0 = .ok (.iload_n 0, 1) := by decide +kernel
theorem dX4_isDepartment_1 : decode cX4_isDepartment 1 = .ok (.ifCond .lt 13, 3) := by decide +kernel
theorem dX4_isDepartment_4 : decode cX4_isDepartment 4 = .ok (.iload_n 0, 1) := by decide +kernel
theorem dX4_isDepartment_5 : decode cX4_isDepartment 5 = .ok (.bipush 16, 2) := by decide +kernel
theorem dX4_isDepartment_7 : decode cX4_isDepartment 7 = .ok (.if_icmp .ge 7, 3) := by decide +kernel
theorem dX4_isDepartment_10 : decode cX4_isDepartment 10 = .ok (.iconst 1, 1) := by decide +kernel
theorem dX4_isDepartment_11 : decode cX4_isDepartment 11 = .ok (.goto 4, 3) := by decide +kernel
theorem dX4_isDepartment_14 : decode cX4_isDepartment 14 = .ok (.iconst 0, 1) := by decide +kernel
theorem dX4_isDepartment_15 : decode cX4_isDepartment 15 = .ok (.ireturn, 1) := by decide +kernel
theorem dX4_isPiecesOrCents_0 : decode cX4_isPiecesOrCents 0 = .ok (.iload_n 0, 1) := by decide +kernel
theorem dX4_isPiecesOrCents_1 : decode cX4_isPiecesOrCents 1 = .ok (.ifCond .eq 8, 3) := by decide +kernel
theorem dX4_isPiecesOrCents_4 : decode cX4_isPiecesOrCents 4 = .ok (.iload_n 0, 1) := by decide +kernel
theorem dX4_isPiecesOrCents_5 : decode cX4_isPiecesOrCents 5 = .ok (.iconst 1, 1) := by decide +kernel
theorem dX4_isPiecesOrCents_6 : decode cX4_isPiecesOrCents 6 = .ok (.if_icmp .ne 7, 3) := by decide +kernel
theorem dX4_isPiecesOrCents_9 : decode cX4_isPiecesOrCents 9 = .ok (.iconst 1, 1) := by decide +kernel
theorem dX4_isPiecesOrCents_10 : decode cX4_isPiecesOrCents 10 = .ok (.goto 4, 3) := by decide +kernel
theorem dX4_isPiecesOrCents_13 : decode cX4_isPiecesOrCents 13 = .ok (.iconst 0, 1) := by decide +kernel
theorem dX4_isPiecesOrCents_14 : decode cX4_isPiecesOrCents 14 = .ok (.ireturn, 1) := by decide +kernel
theorem dJ9_max_7cf53_0 : decode cJ9_max_7cf53 0 = .ok (.iload_n 0, 1) := by decide +kernel
theorem dJ9_max_7cf53_1 : decode cJ9_max_7cf53 1 = .ok (.iload_n 1, 1) := by decide +kernel
theorem dJ9_max_7cf53_2 : decode cJ9_max_7cf53 2 = .ok (.if_icmp .lt 7, 3) := by decide +kernel
theorem dJ9_max_7cf53_5 : decode cJ9_max_7cf53 5 = .ok (.iload_n 0, 1) := by decide +kernel
theorem dJ9_max_7cf53_6 : decode cJ9_max_7cf53 6 = .ok (.goto 4, 3) := by decide +kernel
theorem dJ9_max_7cf53_9 : decode cJ9_max_7cf53 9 = .ok (.iload_n 1, 1) := by decide +kernel
theorem dJ9_max_7cf53_10 : decode cJ9_max_7cf53 10 = .ok (.ireturn, 1) := by decide +kernel
theorem dJ9_min_7cf53_0 : decode cJ9_min_7cf53 0 = .ok (.iload_n 0, 1) := by decide +kernel
theorem dJ9_min_7cf53_1 : decode cJ9_min_7cf53 1 = .ok (.iload_n 1, 1) := by decide +kernel
theorem dJ9_min_7cf53_2 : decode cJ9_min_7cf53 2 = .ok (.if_icmp .gt 7, 3) := by decide +kernel
theorem dJ9_min_7cf53_5 : decode cJ9_min_7cf53 5 = .ok (.iload_n 0, 1) := by decide +kernel
theorem dJ9_min_7cf53_6 : decode cJ9_min_7cf53 6 = .ok (.goto 4, 3) := by decide +kernel
theorem dJ9_min_7cf53_9 : decode cJ9_min_7cf53 9 = .ok (.iload_n 1, 1) := by decide +kernel
theorem dJ9_min_7cf53_10 : decode cJ9_min_7cf53 10 = .ok (.ireturn, 1) := by decide +kernel
theorem dJ7_fill_53178_0 : decode cJ7_fill_53178 0 = .ok (.iconst 0, 1) := by decide +kernel
theorem dJ7_fill_53178_1 : decode cJ7_fill_53178 1 = .ok (.istore_n 2, 1) := by decide +kernel
theorem dJ7_fill_53178_2 : decode cJ7_fill_53178 2 = .ok (.aload_n 0, 1) := by decide +kernel
theorem dJ7_fill_53178_3 : decode cJ7_fill_53178 3 = .ok (.arraylength, 1) := by decide +kernel
theorem dJ7_fill_53178_4 : decode cJ7_fill_53178 4 = .ok (.istore_n 3, 1) := by decide +kernel
theorem dJ7_fill_53178_5 : decode cJ7_fill_53178 5 = .ok (.iload_n 2, 1) := by decide +kernel
theorem dJ7_fill_53178_6 : decode cJ7_fill_53178 6 = .ok (.iload_n 3, 1) := by decide +kernel
theorem dJ7_fill_53178_7 : decode cJ7_fill_53178 7 = .ok (.if_icmp .ge 13, 3) := by decide +kernel
theorem dJ7_fill_53178_10 : decode cJ7_fill_53178 10 = .ok (.aload_n 0, 1) := by decide +kernel
theorem dJ7_fill_53178_11 : decode cJ7_fill_53178 11 = .ok (.iload_n 2, 1) := by decide +kernel
theorem dJ7_fill_53178_12 : decode cJ7_fill_53178 12 = .ok (.iload_n 1, 1) := by decide +kernel
theorem dJ7_fill_53178_13 : decode cJ7_fill_53178 13 = .ok (.iastore, 1) := by decide +kernel
theorem dJ7_fill_53178_14 : decode cJ7_fill_53178 14 = .ok (.iinc 2 1, 3) := by decide +kernel
theorem dJ7_fill_53178_17 : decode cJ7_fill_53178 17 = .ok (.goto (-12), 3) := by decide +kernel
theorem dJ7_fill_53178_20 : decode cJ7_fill_53178 20 = .ok (.return_, 1) := by decide +kernel

theorem dX5_init_0 : decode cX5_init 0 = .ok (.aload_n 0, 1) := by decide +kernel
theorem dX5_init_1 : decode cX5_init 1 = .ok (.invokespecial 1, 3) := by decide +kernel
theorem dX5_init_4 : decode cX5_init 4 = .ok (.aload_n 0, 1) := by decide +kernel
theorem dX5_init_5 : decode cX5_init 5 = .ok (.sipush 4096, 3) := by decide +kernel
theorem dX5_init_8 : decode cX5_init 8 = .ok (.newarray .int, 2) := by decide +kernel
theorem dX5_init_10 : decode cX5_init 10 = .ok (.putfield 7, 3) := by decide +kernel
theorem dX5_init_13 : decode cX5_init 13 = .ok (.aload_n 0, 1) := by decide +kernel
theorem dX5_init_14 : decode cX5_init 14 = .ok (.bipush 16, 2) := by decide +kernel
theorem dX5_init_16 : decode cX5_init 16 = .ok (.newarray .int, 2) := by decide +kernel
theorem dX5_init_18 : decode cX5_init 18 = .ok (.putfield 13, 3) := by decide +kernel
theorem dX5_init_21 : decode cX5_init 21 = .ok (.aload_n 0, 1) := by decide +kernel
theorem dX5_init_22 : decode cX5_init 22 = .ok (.sipush 193, 3) := by decide +kernel
theorem dX5_init_25 : decode cX5_init 25 = .ok (.newarray .int, 2) := by decide +kernel
theorem dX5_init_27 : decode cX5_init 27 = .ok (.putfield 16, 3) := by decide +kernel
theorem dX5_init_30 : decode cX5_init 30 = .ok (.aload_n 0, 1) := by decide +kernel
theorem dX5_init_31 : decode cX5_init 31 = .ok (.iconst 5, 1) := by decide +kernel
theorem dX5_init_32 : decode cX5_init 32 = .ok (.newarray .int, 2) := by decide +kernel
theorem dX5_init_34 : decode cX5_init 34 = .ok (.putfield 19, 3) := by decide +kernel
theorem dX5_init_37 : decode cX5_init 37 = .ok (.aload_n 0, 1) := by decide +kernel
theorem dX5_init_38 : decode cX5_init 38 = .ok (.sipush 320, 3) := by decide +kernel
theorem dX5_init_41 : decode cX5_init 41 = .ok (.newarray .int, 2) := by decide +kernel
theorem dX5_init_43 : decode cX5_init 43 = .ok (.putfield 22, 3) := by decide +kernel
theorem dX5_init_46 : decode cX5_init 46 = .ok (.aload_n 0, 1) := by decide +kernel
theorem dX5_init_47 : decode cX5_init 47 = .ok (.sipush 320, 3) := by decide +kernel
theorem dX5_init_50 : decode cX5_init 50 = .ok (.newarray .int, 2) := by decide +kernel
theorem dX5_init_52 : decode cX5_init 52 = .ok (.putfield 25, 3) := by decide +kernel
theorem dX5_init_55 : decode cX5_init 55 = .ok (.aload_n 0, 1) := by decide +kernel
theorem dX5_init_56 : decode cX5_init 56 = .ok (.iconst 1, 1) := by decide +kernel
theorem dX5_init_57 : decode cX5_init 57 = .ok (.putfield 28, 3) := by decide +kernel
theorem dX5_init_60 : decode cX5_init 60 = .ok (.aload_n 0, 1) := by decide +kernel
theorem dX5_init_61 : decode cX5_init 61 = .ok (.iconst (-1), 1) := by decide +kernel
theorem dX5_init_62 : decode cX5_init 62 = .ok (.putfield 32, 3) := by decide +kernel
theorem dX5_init_65 : decode cX5_init 65 = .ok (.aload_n 0, 1) := by decide +kernel
theorem dX5_init_66 : decode cX5_init 66 = .ok (.iload_n 1, 1) := by decide +kernel
theorem dX5_init_67 : decode cX5_init 67 = .ok (.iconst 1, 1) := by decide +kernel
theorem dX5_init_68 : decode cX5_init 68 = .ok (.if_icmp .ge 7, 3) := by decide +kernel
theorem dX5_init_71 : decode cX5_init 71 = .ok (.iconst 1, 1) := by decide +kernel
theorem dX5_init_72 : decode cX5_init 72 = .ok (.goto 15, 3) := by decide +kernel
theorem dX5_init_75 : decode cX5_init 75 = .ok (.iload_n 1, 1) := by decide +kernel
theorem dX5_init_76 : decode cX5_init 76 = .ok (.ldc 36, 2) := by decide +kernel
theorem dX5_init_78 : decode cX5_init 78 = .ok (.if_icmp .le 8, 3) := by decide +kernel
theorem dX5_init_81 : decode cX5_init 81 = .ok (.ldc 36, 2) := by decide +kernel
theorem dX5_init_83 : decode cX5_init 83 = .ok (.goto 4, 3) := by decide +kernel
theorem dX5_init_86 : decode cX5_init 86 = .ok (.iload_n 1, 1) := by decide +kernel
theorem dX5_init_87 : decode cX5_init 87 = .ok (.putfield 37, 3) := by decide +kernel
theorem dX5_init_90 : decode cX5_init 90 = .ok (.iconst 0, 1) := by decide +kernel
theorem dX5_init_91 : decode cX5_init 91 = .ok (.istore_n 2, 1) := by decide +kernel
theorem dX5_init_92 : decode cX5_init 92 = .ok (.iload_n 2, 1) := by decide +kernel
theorem dX5_init_93 : decode cX5_init 93 = .ok (.sipush 4096, 3) := by decide +kernel
theorem dX5_init_96 : decode cX5_init 96 = .ok (.if_icmp .ge 16, 3) := by decide +kernel
theorem dX5_init_99 : decode cX5_init 99 = .ok (.aload_n 0, 1) := by decide +kernel
theorem dX5_init_100 : decode cX5_init 100 = .ok (.getfield 7, 3) := by decide +kernel
theorem dX5_init_103 : decode cX5_init 103 = .ok (.iload_n 2, 1) := by decide +kernel
theorem dX5_init_104 : decode cX5_init 104 = .ok (.iconst (-1), 1) := by decide +kernel
theorem dX5_init_105 : decode cX5_init 105 = .ok (.iastore, 1) := by decide +kernel
theorem dX5_init_106 : decode cX5_init 106 = .ok (.iinc 2 1, 3) := by decide +kernel
theorem dX5_init_109 : decode cX5_init 109 = .ok (.goto (-17), 3) := by decide +kernel
theorem dX5_init_112 : decode cX5_init 112 = .ok (.iconst 0, 1) := by decide +kernel
theorem dX5_init_113 : decode cX5_init 113 = .ok (.istore_n 2, 1) := by decide +kernel
theorem dX5_init_114 : decode cX5_init 114 = .ok (.iload_n 2, 1) := by decide +kernel
theorem dX5_init_115 : decode cX5_init 115 = .ok (.bipush 32, 2) := by decide +kernel
theorem dX5_init_117 : decode cX5_init 117 = .ok (.if_icmp .ge 21, 3) := by decide +kernel
theorem dX5_init_120 : decode cX5_init 120 = .ok (.aload_n 0, 1) := by decide +kernel
theorem dX5_init_121 : decode cX5_init 121 = .ok (.getfield 16, 3) := by decide +kernel
theorem dX5_init_124 : decode cX5_init 124 = .ok (.bipush 65, 2) := by decide +kernel
theorem dX5_init_126 : decode cX5_init 126 = .ok (.iconst 4, 1) := by decide +kernel
theorem dX5_init_127 : decode cX5_init 127 = .ok (.iload_n 2, 1) := by decide +kernel
theorem dX5_init_128 : decode cX5_init 128 = .ok (.imul, 1) := by decide +kernel
theorem dX5_init_129 : decode cX5_init 129 = .ok (.iadd, 1) := by decide +kernel
theorem dX5_init_130 : decode cX5_init 130 = .ok (.iconst (-1), 1) := by decide +kernel
theorem dX5_init_131 : decode cX5_init 131 = .ok (.iastore, 1) := by decide +kernel
theorem dX5_init_132 : decode cX5_init 132 = .ok (.iinc 2 1, 3) := by decide +kernel
theorem dX5_init_135 : decode cX5_init 135 = .ok (.goto (-21), 3) := by decide +kernel
theorem dX5_init_138 : decode cX5_init 138 = .ok (.aload_n 0, 1) := by decide +kernel
theorem dX5_init_139 : decode cX5_init 139 = .ok (.getfield 16, 3) := by decide +kernel
theorem dX5_init_142 : decode cX5_init 142 = .ok (.bipush 14, 2) := by decide +kernel
theorem dX5_init_144 : decode cX5_init 144 = .ok (.sipush 1000, 3) := by decide +kernel
theorem dX5_init_147 : decode cX5_init 147 = .ok (.iastore, 1) := by decide +kernel
theorem dX5_init_148 : decode cX5_init 148 = .ok (.aload_n 0, 1) := by decide +kernel
theorem dX5_init_149 : decode cX5_init 149 = .ok (.bipush 15, 2) := by decide +kernel
theorem dX5_init_151 : decode cX5_init 151 = .ok (.putfield 40, 3) := by decide +kernel
theorem dX5_init_154 : decode cX5_init 154 = .ok (.aload_n 0, 1) := by decide +kernel
theorem dX5_init_155 : decode cX5_init 155 = .ok (.iconst 1, 1) := by decide +kernel
theorem dX5_init_156 : decode cX5_init 156 = .ok (.invokevirtual 43, 3) := by decide +kernel
theorem dX5_init_159 : decode cX5_init 159 = .ok (.return_, 1) := by decide +kernel
theorem dX5_in_0 : decode cX5_in 0 = .ok (.lload_n 0, 1) := by decide +kernel
theorem dX5_in_1 : decode cX5_in 1 = .ok (.lload_n 2, 1) := by decide +kernel
theorem dX5_in_2 : decode cX5_in 2 = .ok (.lcmp, 1) := by decide +kernel
theorem dX5_in_3 : decode cX5_in 3 = .ok (.ifCond .lt 14, 3) := by decide +kernel
theorem dX5_in_6 : decode cX5_in 6 = .ok (.lload_n 0, 1) := by decide +kernel
theorem dX5_in_7 : decode cX5_in 7 = .ok (.lload 4, 2) := by decide +kernel
theorem dX5_in_9 : decode cX5_in 9 = .ok (.lcmp, 1) := by decide +kernel
theorem dX5_in_10 : decode cX5_in 10 = .ok (.ifCond .gt 7, 3) := by decide +kernel
theorem dX5_in_13 : decode cX5_in 13 = .ok (.iconst 1, 1) := by decide +kernel
theorem dX5_in_14 : decode cX5_in 14 = .ok (.goto 4, 3) := by decide +kernel
theorem dX5_in_17 : decode cX5_in 17 = .ok (.iconst 0, 1) := by decide +kernel
theorem dX5_in_18 : decode cX5_in 18 = .ok (.ireturn, 1) := by decide +kernel
theorem dX5_isMoney_0 : decode cX5_isMoney 0 = .ok (.iload_n 0, 1) := by decide +kernel
theorem dX5_isMoney_1 : decode cX5_isMoney 1 = .ok (.i2l, 1) := by decide +kernel
theorem dX5_isMoney_2 : decode cX5_isMoney 2 = .ok (.lconst 1, 1) := by decide +kernel
theorem dX5_isMoney_3 : decode cX5_isMoney 3 = .ok (.ldc2_w 50, 3) := by decide +kernel
theorem dX5_isMoney_6 : decode cX5_isMoney 6 = .ok (.invokestatic 52, 3) := by decide +kernel
theorem dX5_isMoney_9 : decode cX5_isMoney 9 = .ok (.ireturn, 1) := by decide +kernel
theorem dX5_isDone_0 : decode cX5_isDone 0 = .ok (.aload_n 0, 1) := by decide +kernel
theorem dX5_isDone_1 : decode cX5_isDone 1 = .ok (.getfield 32, 3) := by decide +kernel
theorem dX5_isDone_4 : decode cX5_isDone 4 = .ok (.ifCond .ne 15, 3) := by decide +kernel
theorem dX5_isDone_7 : decode cX5_isDone 7 = .ok (.aload_n 0, 1) := by decide +kernel
theorem dX5_isDone_8 : decode cX5_isDone 8 = .ok (.iconst (-1), 1) := by decide +kernel
theorem dX5_isDone_9 : decode cX5_isDone 9 = .ok (.putfield 32, 3) := by decide +kernel
theorem dX5_isDone_12 : decode cX5_isDone 12 = .ok (.aload_n 0, 1) := by decide +kernel
theorem dX5_isDone_13 : decode cX5_isDone 13 = .ok (.iconst 0, 1) := by decide +kernel
theorem dX5_isDone_14 : decode cX5_isDone 14 = .ok (.putfield 28, 3) := by decide +kernel
theorem dX5_isDone_17 : decode cX5_isDone 17 = .ok (.iconst 0, 1) := by decide +kernel
theorem dX5_isDone_18 : decode cX5_isDone 18 = .ok (.ireturn, 1) := by decide +kernel
theorem dX5_isDone_19 : decode cX5_isDone 19 = .ok (.aload_n 0, 1) := by decide +kernel
theorem dX5_isDone_20 : decode cX5_isDone 20 = .ok (.aload_n 0, 1) := by decide +kernel
theorem dX5_isDone_21 : decode cX5_isDone 21 = .ok (.getfield 32, 3) := by decide +kernel
theorem dX5_isDone_24 : decode cX5_isDone 24 = .ok (.ifCond .le 12, 3) := by decide +kernel
theorem dX5_isDone_27 : decode cX5_isDone 27 = .ok (.aload_n 0, 1) := by decide +kernel
theorem dX5_isDone_28 : decode cX5_isDone 28 = .ok (.getfield 32, 3) := by decide +kernel
theorem dX5_isDone_31 : decode cX5_isDone 31 = .ok (.iconst 1, 1) := by decide +kernel
theorem dX5_isDone_32 : decode cX5_isDone 32 = .ok (.isub, 1) := by decide +kernel
theorem dX5_isDone_33 : decode cX5_isDone 33 = .ok (.goto 7, 3) := by decide +kernel
theorem dX5_isDone_36 : decode cX5_isDone 36 = .ok (.aload_n 0, 1) := by decide +kernel
theorem dX5_isDone_37 : decode cX5_isDone 37 = .ok (.getfield 32, 3) := by decide +kernel
theorem dX5_isDone_40 : decode cX5_isDone 40 = .ok (.putfield 32, 3) := by decide +kernel
theorem dX5_isDone_43 : decode cX5_isDone 43 = .ok (.iconst 1, 1) := by decide +kernel
theorem dX5_isDone_44 : decode cX5_isDone 44 = .ok (.ireturn, 1) := by decide +kernel
theorem dX5_write_0 : decode cX5_write 0 = .ok (.aload_n 0, 1) := by decide +kernel
theorem dX5_write_1 : decode cX5_write 1 = .ok (.getfield 28, 3) := by decide +kernel
theorem dX5_write_4 : decode cX5_write 4 = .ok (.ifCond .eq 26, 3) := by decide +kernel
theorem dX5_write_7 : decode cX5_write 7 = .ok (.aload_n 0, 1) := by decide +kernel
theorem dX5_write_8 : decode cX5_write 8 = .ok (.invokevirtual 56, 3) := by decide +kernel
theorem dX5_write_11 : decode cX5_write 11 = .ok (.ifCond .eq 19, 3) := by decide +kernel
theorem dX5_write_14 : decode cX5_write 14 = .ok (.aload_n 0, 1) := by decide +kernel
theorem dX5_write_15 : decode cX5_write 15 = .ok (.getfield 7, 3) := by decide +kernel
theorem dX5_write_18 : decode cX5_write 18 = .ok (.sipush 256, 3) := by decide +kernel
theorem dX5_write_21 : decode cX5_write 21 = .ok (.aload_n 0, 1) := by decide +kernel
theorem dX5_write_22 : decode cX5_write 22 = .ok (.getfield 40, 3) := by decide +kernel
theorem dX5_write_25 : decode cX5_write 25 = .ok (.imul, 1) := by decide +kernel
theorem dX5_write_26 : decode cX5_write 26 = .ok (.iload_n 1, 1) := by decide +kernel
theorem dX5_write_27 : decode cX5_write 27 = .ok (.iadd, 1) := by decide +kernel
theorem dX5_write_28 : decode cX5_write 28 = .ok (.iload_n 2, 1) := by decide +kernel
theorem dX5_write_29 : decode cX5_write 29 = .ok (.iastore, 1) := by decide +kernel
theorem dX5_write_30 : decode cX5_write 30 = .ok (.return_, 1) := by decide +kernel
theorem dX5_erase_0 : decode cX5_erase 0 = .ok (.aload_n 0, 1) := by decide +kernel
theorem dX5_erase_1 : decode cX5_erase 1 = .ok (.getfield 28, 3) := by decide +kernel
theorem dX5_erase_4 : decode cX5_erase 4 = .ok (.ifCond .ne 4, 3) := by decide +kernel
theorem dX5_erase_7 : decode cX5_erase 7 = .ok (.return_, 1) := by decide +kernel
theorem dX5_erase_8 : decode cX5_erase 8 = .ok (.aload_n 0, 1) := by decide +kernel
theorem dX5_erase_9 : decode cX5_erase 9 = .ok (.getfield 13, 3) := by decide +kernel
theorem dX5_erase_12 : decode cX5_erase 12 = .ok (.iload_n 1, 1) := by decide +kernel
theorem dX5_erase_13 : decode cX5_erase 13 = .ok (.dup2, 1) := by decide +kernel
theorem dX5_erase_14 : decode cX5_erase 14 = .ok (.iaload, 1) := by decide +kernel
theorem dX5_erase_15 : decode cX5_erase 15 = .ok (.iconst 1, 1) := by decide +kernel
theorem dX5_erase_16 : decode cX5_erase 16 = .ok (.iadd, 1) := by decide +kernel
theorem dX5_erase_17 : decode cX5_erase 17 = .ok (.iastore, 1) := by decide +kernel
theorem dX5_erase_18 : decode cX5_erase 18 = .ok (.aload_n 0, 1) := by decide +kernel
theorem dX5_erase_19 : decode cX5_erase 19 = .ok (.invokevirtual 56, 3) := by decide +kernel
theorem dX5_erase_22 : decode cX5_erase 22 = .ok (.istore_n 2, 1) := by decide +kernel
theorem dX5_erase_23 : decode cX5_erase 23 = .ok (.iconst 0, 1) := by decide +kernel
theorem dX5_erase_24 : decode cX5_erase 24 = .ok (.istore_n 3, 1) := by decide +kernel
theorem dX5_erase_25 : decode cX5_erase 25 = .ok (.iload_n 3, 1) := by decide +kernel
theorem dX5_erase_26 : decode cX5_erase 26 = .ok (.sipush 256, 3) := by decide +kernel
theorem dX5_erase_29 : decode cX5_erase 29 = .ok (.if_icmp .ge 68, 3) := by decide +kernel
theorem dX5_erase_32 : decode cX5_erase 32 = .ok (.iload_n 2, 1) := by decide +kernel
theorem dX5_erase_33 : decode cX5_erase 33 = .ok (.ifCond .ne 22, 3) := by decide +kernel
theorem dX5_erase_36 : decode cX5_erase 36 = .ok (.aload_n 0, 1) := by decide +kernel
theorem dX5_erase_37 : decode cX5_erase 37 = .ok (.getfield 60, 3) := by decide +kernel
theorem dX5_erase_40 : decode cX5_erase 40 = .ok (.iload_n 3, 1) := by decide +kernel
theorem dX5_erase_41 : decode cX5_erase 41 = .ok (.bipush 32, 2) := by decide +kernel
theorem dX5_erase_43 : decode cX5_erase 43 = .ok (.irem, 1) := by decide +kernel
theorem dX5_erase_44 : decode cX5_erase 44 = .ok (.ishr, 1) := by decide +kernel
theorem dX5_erase_45 : decode cX5_erase 45 = .ok (.iconst 1, 1) := by decide +kernel
theorem dX5_erase_46 : decode cX5_erase 46 = .ok (.iand, 1) := by decide +kernel
theorem dX5_erase_47 : decode cX5_erase 47 = .ok (.iconst 1, 1) := by decide +kernel
theorem dX5_erase_48 : decode cX5_erase 48 = .ok (.if_icmp .ne 7, 3) := by decide +kernel
theorem dX5_erase_51 : decode cX5_erase 51 = .ok (.iconst 1, 1) := by decide +kernel
theorem dX5_erase_52 : decode cX5_erase 52 = .ok (.goto 4, 3) := by decide +kernel
theorem dX5_erase_55 : decode cX5_erase 55 = .ok (.iconst 0, 1) := by decide +kernel
theorem dX5_erase_56 : decode cX5_erase 56 = .ok (.istore 4, 2) := by decide +kernel
theorem dX5_erase_58 : decode cX5_erase 58 = .ok (.aload_n 0, 1) := by decide +kernel
theorem dX5_erase_59 : decode cX5_erase 59 = .ok (.getfield 7, 3) := by decide +kernel
theorem dX5_erase_62 : decode cX5_erase 62 = .ok (.sipush 256, 3) := by decide +kernel
theorem dX5_erase_65 : decode cX5_erase 65 = .ok (.iload_n 1, 1) := by decide +kernel
theorem dX5_erase_66 : decode cX5_erase 66 = .ok (.imul, 1) := by decide +kernel
theorem dX5_erase_67 : decode cX5_erase 67 = .ok (.iload_n 3, 1) := by decide +kernel
theorem dX5_erase_68 : decode cX5_erase 68 = .ok (.iadd, 1) := by decide +kernel
theorem dX5_erase_69 : decode cX5_erase 69 = .ok (.iload 4, 2) := by decide +kernel
theorem dX5_erase_71 : decode cX5_erase 71 = .ok (.ifCond .eq 18, 3) := by decide +kernel
theorem dX5_erase_74 : decode cX5_erase 74 = .ok (.aload_n 0, 1) := by decide +kernel
theorem dX5_erase_75 : decode cX5_erase 75 = .ok (.getfield 7, 3) := by decide +kernel
theorem dX5_erase_78 : decode cX5_erase 78 = .ok (.sipush 256, 3) := by decide +kernel
theorem dX5_erase_81 : decode cX5_erase 81 = .ok (.iload_n 1, 1) := by decide +kernel
theorem dX5_erase_82 : decode cX5_erase 82 = .ok (.imul, 1) := by decide +kernel
theorem dX5_erase_83 : decode cX5_erase 83 = .ok (.iload_n 3, 1) := by decide +kernel
theorem dX5_erase_84 : decode cX5_erase 84 = .ok (.iadd, 1) := by decide +kernel
theorem dX5_erase_85 : decode cX5_erase 85 = .ok (.iaload, 1) := by decide +kernel
theorem dX5_erase_86 : decode cX5_erase 86 = .ok (.goto 4, 3) := by decide +kernel
theorem dX5_erase_89 : decode cX5_erase 89 = .ok (.iconst (-1), 1) := by decide +kernel
theorem dX5_erase_90 : decode cX5_erase 90 = .ok (.iastore, 1) := by decide +kernel
theorem dX5_erase_91 : decode cX5_erase 91 = .ok (.iinc 3 1, 3) := by decide +kernel
theorem dX5_erase_94 : decode cX5_erase 94 = .ok (.goto (-69), 3) := by decide +kernel
theorem dX5_erase_97 : decode cX5_erase 97 = .ok (.return_, 1) := by decide +kernel
theorem dX5_marked_0 : decode cX5_marked 0 = .ok (.iload_n 0, 1) := by decide +kernel
theorem dX5_marked_1 : decode cX5_marked 1 = .ok (.ldc 63, 2) := by decide +kernel
theorem dX5_marked_3 : decode cX5_marked 3 = .ok (.ixor, 1) := by decide +kernel
theorem dX5_marked_4 : decode cX5_marked 4 = .ok (.istore_n 1, 1) := by decide +kernel
theorem dX5_marked_5 : decode cX5_marked 5 = .ok (.iload_n 1, 1) := by decide +kernel
theorem dX5_marked_6 : decode cX5_marked 6 = .ok (.iconst (-1), 1) := by decide +kernel
theorem dX5_marked_7 : decode cX5_marked 7 = .ok (.if_icmp .ne 7, 3) := by decide +kernel
theorem dX5_marked_10 : decode cX5_marked 10 = .ok (.iconst 0, 1) := by decide +kernel
theorem dX5_marked_11 : decode cX5_marked 11 = .ok (.goto 4, 3) := by decide +kernel
theorem dX5_marked_14 : decode cX5_marked 14 = .ok (.iload_n 1, 1) := by decide +kernel
theorem dX5_marked_15 : decode cX5_marked 15 = .ok (.ireturn, 1) := by decide +kernel
theorem dX5_markOf_0 : decode cX5_markOf 0 = .ok (.bipush 17, 2) := by decide +kernel
theorem dX5_markOf_2 : decode cX5_markOf 2 = .ok (.istore_n 3, 1) := by decide +kernel
theorem dX5_markOf_3 : decode cX5_markOf 3 = .ok (.iload_n 1, 1) := by decide +kernel
theorem dX5_markOf_4 : decode cX5_markOf 4 = .ok (.istore 4, 2) := by decide +kernel
theorem dX5_markOf_6 : decode cX5_markOf 6 = .ok (.iload 4, 2) := by decide +kernel
theorem dX5_markOf_8 : decode cX5_markOf 8 = .ok (.iload_n 1, 1) := by decide +kernel
theorem dX5_markOf_9 : decode cX5_markOf 9 = .ok (.iload_n 2, 1) := by decide +kernel
theorem dX5_markOf_10 : decode cX5_markOf 10 = .ok (.iadd, 1) := by decide +kernel
theorem dX5_markOf_11 : decode cX5_markOf 11 = .ok (.if_icmp .ge 22, 3) := by decide +kernel
theorem dX5_markOf_14 : decode cX5_markOf 14 = .ok (.bipush 31, 2) := by decide +kernel
theorem dX5_markOf_16 : decode cX5_markOf 16 = .ok (.iload_n 3, 1) := by decide +kernel
theorem dX5_markOf_17 : decode cX5_markOf 17 = .ok (.imul, 1) := by decide +kernel
theorem dX5_markOf_18 : decode cX5_markOf 18 = .ok (.aload_n 0, 1) := by decide +kernel
theorem dX5_markOf_19 : decode cX5_markOf 19 = .ok (.getfield 7, 3) := by decide +kernel
theorem dX5_markOf_22 : decode cX5_markOf 22 = .ok (.iload 4, 2) := by decide +kernel
theorem dX5_markOf_24 : decode cX5_markOf 24 = .ok (.iaload, 1) := by decide +kernel
theorem dX5_markOf_25 : decode cX5_markOf 25 = .ok (.iadd, 1) := by decide +kernel
theorem dX5_markOf_26 : decode cX5_markOf 26 = .ok (.istore_n 3, 1) := by decide +kernel
theorem dX5_markOf_27 : decode cX5_markOf 27 = .ok (.iinc 4 1, 3) := by decide +kernel
theorem dX5_markOf_30 : decode cX5_markOf 30 = .ok (.goto (-24), 3) := by decide +kernel
theorem dX5_markOf_33 : decode cX5_markOf 33 = .ok (.iload_n 3, 1) := by decide +kernel
theorem dX5_markOf_34 : decode cX5_markOf 34 = .ok (.invokestatic 64, 3) := by decide +kernel
theorem dX5_markOf_37 : decode cX5_markOf 37 = .ok (.ireturn, 1) := by decide +kernel
theorem dX5_begin_0 : decode cX5_begin 0 = .ok (.aload_n 0, 1) := by decide +kernel
theorem dX5_begin_1 : decode cX5_begin 1 = .ok (.aload_n 0, 1) := by decide +kernel
theorem dX5_begin_2 : decode cX5_begin 2 = .ok (.getfield 40, 3) := by decide +kernel
theorem dX5_begin_5 : decode cX5_begin 5 = .ok (.iconst 1, 1) := by decide +kernel
theorem dX5_begin_6 : decode cX5_begin 6 = .ok (.iadd, 1) := by decide +kernel
theorem dX5_begin_7 : decode cX5_begin 7 = .ok (.bipush 16, 2) := by decide +kernel
theorem dX5_begin_9 : decode cX5_begin 9 = .ok (.irem, 1) := by decide +kernel
theorem dX5_begin_10 : decode cX5_begin 10 = .ok (.putfield 40, 3) := by decide +kernel
theorem dX5_begin_13 : decode cX5_begin 13 = .ok (.aload_n 0, 1) := by decide +kernel
theorem dX5_begin_14 : decode cX5_begin 14 = .ok (.aload_n 0, 1) := by decide +kernel
theorem dX5_begin_15 : decode cX5_begin 15 = .ok (.getfield 40, 3) := by decide +kernel
theorem dX5_begin_18 : decode cX5_begin 18 = .ok (.invokevirtual 68, 3) := by decide +kernel
theorem dX5_begin_21 : decode cX5_begin 21 = .ok (.aload_n 0, 1) := by decide +kernel
theorem dX5_begin_22 : decode cX5_begin 22 = .ok (.iconst 0, 1) := by decide +kernel
theorem dX5_begin_23 : decode cX5_begin 23 = .ok (.putfield 71, 3) := by decide +kernel
theorem dX5_begin_26 : decode cX5_begin 26 = .ok (.bipush 31, 2) := by decide +kernel
theorem dX5_begin_28 : decode cX5_begin 28 = .ok (.sipush 527, 3) := by decide +kernel
theorem dX5_begin_31 : decode cX5_begin 31 = .ok (.iload_n 1, 1) := by decide +kernel
theorem dX5_begin_32 : decode cX5_begin 32 = .ok (.iadd, 1) := by decide +kernel
theorem dX5_begin_33 : decode cX5_begin 33 = .ok (.imul, 1) := by decide +kernel
theorem dX5_begin_34 : decode cX5_begin 34 = .ok (.aload_n 0, 1) := by decide +kernel
theorem dX5_begin_35 : decode cX5_begin 35 = .ok (.getfield 74, 3) := by decide +kernel
theorem dX5_begin_38 : decode cX5_begin 38 = .ok (.iadd, 1) := by decide +kernel
theorem dX5_begin_39 : decode cX5_begin 39 = .ok (.istore_n 2, 1) := by decide +kernel
theorem dX5_begin_40 : decode cX5_begin 40 = .ok (.aload_n 0, 1) := by decide +kernel
theorem dX5_begin_41 : decode cX5_begin 41 = .ok (.iconst 0, 1) := by decide +kernel
theorem dX5_begin_42 : decode cX5_begin 42 = .ok (.iload_n 1, 1) := by decide +kernel
theorem dX5_begin_43 : decode cX5_begin 43 = .ok (.invokevirtual 77, 3) := by decide +kernel
theorem dX5_begin_46 : decode cX5_begin 46 = .ok (.aload_n 0, 1) := by decide +kernel
theorem dX5_begin_47 : decode cX5_begin 47 = .ok (.iconst 1, 1) := by decide +kernel
theorem dX5_begin_48 : decode cX5_begin 48 = .ok (.aload_n 0, 1) := by decide +kernel
theorem dX5_begin_49 : decode cX5_begin 49 = .ok (.getfield 74, 3) := by decide +kernel
theorem dX5_begin_52 : decode cX5_begin 52 = .ok (.invokevirtual 77, 3) := by decide +kernel
theorem dX5_begin_55 : decode cX5_begin 55 = .ok (.iconst 2, 1) := by decide +kernel
theorem dX5_begin_56 : decode cX5_begin 56 = .ok (.istore_n 3, 1) := by decide +kernel
theorem dX5_begin_57 : decode cX5_begin 57 = .ok (.iload_n 3, 1) := by decide +kernel
theorem dX5_begin_58 : decode cX5_begin 58 = .ok (.sipush 193, 3) := by decide +kernel
theorem dX5_begin_61 : decode cX5_begin 61 = .ok (.if_icmp .ge 32, 3) := by decide +kernel
theorem dX5_begin_64 : decode cX5_begin 64 = .ok (.aload_n 0, 1) := by decide +kernel
theorem dX5_begin_65 : decode cX5_begin 65 = .ok (.iload_n 3, 1) := by decide +kernel
theorem dX5_begin_66 : decode cX5_begin 66 = .ok (.aload_n 0, 1) := by decide +kernel
theorem dX5_begin_67 : decode cX5_begin 67 = .ok (.getfield 16, 3) := by decide +kernel
theorem dX5_begin_70 : decode cX5_begin 70 = .ok (.iload_n 3, 1) := by decide +kernel
theorem dX5_begin_71 : decode cX5_begin 71 = .ok (.iaload, 1) := by decide +kernel
theorem dX5_begin_72 : decode cX5_begin 72 = .ok (.invokevirtual 77, 3) := by decide +kernel
theorem dX5_begin_75 : decode cX5_begin 75 = .ok (.bipush 31, 2) := by decide +kernel
theorem dX5_begin_77 : decode cX5_begin 77 = .ok (.iload_n 2, 1) := by decide +kernel
theorem dX5_begin_78 : decode cX5_begin 78 = .ok (.imul, 1) := by decide +kernel
theorem dX5_begin_79 : decode cX5_begin 79 = .ok (.aload_n 0, 1) := by decide +kernel
theorem dX5_begin_80 : decode cX5_begin 80 = .ok (.getfield 16, 3) := by decide +kernel
theorem dX5_begin_83 : decode cX5_begin 83 = .ok (.iload_n 3, 1) := by decide +kernel
theorem dX5_begin_84 : decode cX5_begin 84 = .ok (.iaload, 1) := by decide +kernel
theorem dX5_begin_85 : decode cX5_begin 85 = .ok (.iadd, 1) := by decide +kernel
theorem dX5_begin_86 : decode cX5_begin 86 = .ok (.istore_n 2, 1) := by decide +kernel
theorem dX5_begin_87 : decode cX5_begin 87 = .ok (.iinc 3 1, 3) := by decide +kernel
theorem dX5_begin_90 : decode cX5_begin 90 = .ok (.goto (-33), 3) := by decide +kernel
theorem dX5_begin_93 : decode cX5_begin 93 = .ok (.aload_n 0, 1) := by decide +kernel
theorem dX5_begin_94 : decode cX5_begin 94 = .ok (.sipush 193, 3) := by decide +kernel
theorem dX5_begin_97 : decode cX5_begin 97 = .ok (.iload_n 2, 1) := by decide +kernel
theorem dX5_begin_98 : decode cX5_begin 98 = .ok (.invokestatic 64, 3) := by decide +kernel
theorem dX5_begin_101 : decode cX5_begin 101 = .ok (.invokevirtual 77, 3) := by decide +kernel
theorem dX5_begin_104 : decode cX5_begin 104 = .ok (.return_, 1) := by decide +kernel
theorem dX5_isFree_0 : decode cX5_isFree 0 = .ok (.iconst 1, 1) := by decide +kernel
theorem dX5_isFree_1 : decode cX5_isFree 1 = .ok (.istore_n 2, 1) := by decide +kernel
theorem dX5_isFree_2 : decode cX5_isFree 2 = .ok (.iconst 0, 1) := by decide +kernel
theorem dX5_isFree_3 : decode cX5_isFree 3 = .ok (.istore_n 3, 1) := by decide +kernel
theorem dX5_isFree_4 : decode cX5_isFree 4 = .ok (.iload_n 3, 1) := by decide +kernel
theorem dX5_isFree_5 : decode cX5_isFree 5 = .ok (.iconst 5, 1) := by decide +kernel
theorem dX5_isFree_6 : decode cX5_isFree 6 = .ok (.if_icmp .ge 40, 3) := by decide +kernel
theorem dX5_isFree_9 : decode cX5_isFree 9 = .ok (.iload_n 2, 1) := by decide +kernel
theorem dX5_isFree_10 : decode cX5_isFree 10 = .ok (.ifCond .eq 28, 3) := by decide +kernel
theorem dX5_isFree_13 : decode cX5_isFree 13 = .ok (.aload_n 0, 1) := by decide +kernel
theorem dX5_isFree_14 : decode cX5_isFree 14 = .ok (.getfield 7, 3) := by decide +kernel
theorem dX5_isFree_17 : decode cX5_isFree 17 = .ok (.sipush 256, 3) := by decide +kernel
theorem dX5_isFree_20 : decode cX5_isFree 20 = .ok (.aload_n 0, 1) := by decide +kernel
theorem dX5_isFree_21 : decode cX5_isFree 21 = .ok (.getfield 40, 3) := by decide +kernel
theorem dX5_isFree_24 : decode cX5_isFree 24 = .ok (.imul, 1) := by decide +kernel
theorem dX5_isFree_25 : decode cX5_isFree 25 = .ok (.iload_n 1, 1) := by decide +kernel
theorem dX5_isFree_26 : decode cX5_isFree 26 = .ok (.iadd, 1) := by decide +kernel
theorem dX5_isFree_27 : decode cX5_isFree 27 = .ok (.iload_n 3, 1) := by decide +kernel
theorem dX5_isFree_28 : decode cX5_isFree 28 = .ok (.iadd, 1) := by decide +kernel
theorem dX5_isFree_29 : decode cX5_isFree 29 = .ok (.iaload, 1) := by decide +kernel
theorem dX5_isFree_30 : decode cX5_isFree 30 = .ok (.iconst (-1), 1) := by decide +kernel
theorem dX5_isFree_31 : decode cX5_isFree 31 = .ok (.if_icmp .ne 7, 3) := by decide +kernel
theorem dX5_isFree_34 : decode cX5_isFree 34 = .ok (.iconst 1, 1) := by decide +kernel
theorem dX5_isFree_35 : decode cX5_isFree 35 = .ok (.goto 4, 3) := by decide +kernel
theorem dX5_isFree_38 : decode cX5_isFree 38 = .ok (.iconst 0, 1) := by decide +kernel
theorem dX5_isFree_39 : decode cX5_isFree 39 = .ok (.istore_n 2, 1) := by decide +kernel
theorem dX5_isFree_40 : decode cX5_isFree 40 = .ok (.iinc 3 1, 3) := by decide +kernel
theorem dX5_isFree_43 : decode cX5_isFree 43 = .ok (.goto (-39), 3) := by decide +kernel
theorem dX5_isFree_46 : decode cX5_isFree 46 = .ok (.iload_n 2, 1) := by decide +kernel
theorem dX5_isFree_47 : decode cX5_isFree 47 = .ok (.ireturn, 1) := by decide +kernel
theorem dX5_put_0 : decode cX5_put 0 = .ok (.aload_n 0, 1) := by decide +kernel
theorem dX5_put_1 : decode cX5_put 1 = .ok (.getfield 71, 3) := by decide +kernel
theorem dX5_put_4 : decode cX5_put 4 = .ok (.bipush 12, 2) := by decide +kernel
theorem dX5_put_6 : decode cX5_put 6 = .ok (.if_icmp .eq 20, 3) := by decide +kernel
theorem dX5_put_9 : decode cX5_put 9 = .ok (.aload_n 0, 1) := by decide +kernel
theorem dX5_put_10 : decode cX5_put 10 = .ok (.sipush 194, 3) := by decide +kernel
theorem dX5_put_13 : decode cX5_put 13 = .ok (.iconst 5, 1) := by decide +kernel
theorem dX5_put_14 : decode cX5_put 14 = .ok (.aload_n 0, 1) := by decide +kernel
theorem dX5_put_15 : decode cX5_put 15 = .ok (.getfield 71, 3) := by decide +kernel
theorem dX5_put_18 : decode cX5_put 18 = .ok (.imul, 1) := by decide +kernel
theorem dX5_put_19 : decode cX5_put 19 = .ok (.iadd, 1) := by decide +kernel
theorem dX5_put_20 : decode cX5_put 20 = .ok (.invokevirtual 81, 3) := by decide +kernel
theorem dX5_put_23 : decode cX5_put 23 = .ok (.ifCond .ne 22, 3) := by decide +kernel
theorem dX5_put_26 : decode cX5_put 26 = .ok (.aload_n 0, 1) := by decide +kernel
theorem dX5_put_27 : decode cX5_put 27 = .ok (.aload_n 0, 1) := by decide +kernel
theorem dX5_put_28 : decode cX5_put 28 = .ok (.getfield 7, 3) := by decide +kernel
theorem dX5_put_31 : decode cX5_put 31 = .ok (.sipush 256, 3) := by decide +kernel
theorem dX5_put_34 : decode cX5_put 34 = .ok (.aload_n 0, 1) := by decide +kernel
theorem dX5_put_35 : decode cX5_put 35 = .ok (.getfield 40, 3) := by decide +kernel
theorem dX5_put_38 : decode cX5_put 38 = .ok (.imul, 1) := by decide +kernel
theorem dX5_put_39 : decode cX5_put 39 = .ok (.iaload, 1) := by decide +kernel
theorem dX5_put_40 : decode cX5_put 40 = .ok (.iconst 1, 1) := by decide +kernel
theorem dX5_put_41 : decode cX5_put 41 = .ok (.iadd, 1) := by decide +kernel
theorem dX5_put_42 : decode cX5_put 42 = .ok (.invokevirtual 43, 3) := by decide +kernel
theorem dX5_put_45 : decode cX5_put 45 = .ok (.sipush 194, 3) := by decide +kernel
theorem dX5_put_48 : decode cX5_put 48 = .ok (.iconst 5, 1) := by decide +kernel
theorem dX5_put_49 : decode cX5_put 49 = .ok (.aload_n 0, 1) := by decide +kernel
theorem dX5_put_50 : decode cX5_put 50 = .ok (.getfield 71, 3) := by decide +kernel
theorem dX5_put_53 : decode cX5_put 53 = .ok (.imul, 1) := by decide +kernel
theorem dX5_put_54 : decode cX5_put 54 = .ok (.iadd, 1) := by decide +kernel
theorem dX5_put_55 : decode cX5_put 55 = .ok (.istore 4, 2) := by decide +kernel
theorem dX5_put_57 : decode cX5_put 57 = .ok (.aload_n 0, 1) := by decide +kernel
theorem dX5_put_58 : decode cX5_put 58 = .ok (.getfield 19, 3) := by decide +kernel
theorem dX5_put_61 : decode cX5_put 61 = .ok (.iconst 0, 1) := by decide +kernel
theorem dX5_put_62 : decode cX5_put 62 = .ok (.aload_n 0, 1) := by decide +kernel
theorem dX5_put_63 : decode cX5_put 63 = .ok (.getfield 74, 3) := by decide +kernel
theorem dX5_put_66 : decode cX5_put 66 = .ok (.iconst 1, 1) := by decide +kernel
theorem dX5_put_67 : decode cX5_put 67 = .ok (.iadd, 1) := by decide +kernel
theorem dX5_put_68 : decode cX5_put 68 = .ok (.iastore, 1) := by decide +kernel
theorem dX5_put_69 : decode cX5_put 69 = .ok (.aload_n 0, 1) := by decide +kernel
theorem dX5_put_70 : decode cX5_put 70 = .ok (.getfield 19, 3) := by decide +kernel
theorem dX5_put_73 : decode cX5_put 73 = .ok (.iconst 1, 1) := by decide +kernel
theorem dX5_put_74 : decode cX5_put 74 = .ok (.iload_n 1, 1) := by decide +kernel
theorem dX5_put_75 : decode cX5_put 75 = .ok (.iastore, 1) := by decide +kernel
theorem dX5_put_76 : decode cX5_put 76 = .ok (.aload_n 0, 1) := by decide +kernel
theorem dX5_put_77 : decode cX5_put 77 = .ok (.getfield 19, 3) := by decide +kernel
theorem dX5_put_80 : decode cX5_put 80 = .ok (.iconst 2, 1) := by decide +kernel
theorem dX5_put_81 : decode cX5_put 81 = .ok (.iload_n 2, 1) := by decide +kernel
theorem dX5_put_82 : decode cX5_put 82 = .ok (.iastore, 1) := by decide +kernel
theorem dX5_put_83 : decode cX5_put 83 = .ok (.aload_n 0, 1) := by decide +kernel
theorem dX5_put_84 : decode cX5_put 84 = .ok (.getfield 19, 3) := by decide +kernel
theorem dX5_put_87 : decode cX5_put 87 = .ok (.iconst 3, 1) := by decide +kernel
theorem dX5_put_88 : decode cX5_put 88 = .ok (.iload_n 3, 1) := by decide +kernel
theorem dX5_put_89 : decode cX5_put 89 = .ok (.iastore, 1) := by decide +kernel
theorem dX5_put_90 : decode cX5_put 90 = .ok (.bipush 17, 2) := by decide +kernel
theorem dX5_put_92 : decode cX5_put 92 = .ok (.istore 5, 2) := by decide +kernel
theorem dX5_put_94 : decode cX5_put 94 = .ok (.iconst 0, 1) := by decide +kernel
theorem dX5_put_95 : decode cX5_put 95 = .ok (.istore 6, 2) := by decide +kernel
theorem dX5_put_97 : decode cX5_put 97 = .ok (.iload 6, 2) := by decide +kernel
theorem dX5_put_99 : decode cX5_put 99 = .ok (.iconst 4, 1) := by decide +kernel
theorem dX5_put_100 : decode cX5_put 100 = .ok (.if_icmp .ge 24, 3) := by decide +kernel
theorem dX5_put_103 : decode cX5_put 103 = .ok (.bipush 31, 2) := by decide +kernel
theorem dX5_put_105 : decode cX5_put 105 = .ok (.iload 5, 2) := by decide +kernel
theorem dX5_put_107 : decode cX5_put 107 = .ok (.imul, 1) := by decide +kernel
theorem dX5_put_108 : decode cX5_put 108 = .ok (.aload_n 0, 1) := by decide +kernel
theorem dX5_put_109 : decode cX5_put 109 = .ok (.getfield 19, 3) := by decide +kernel
theorem dX5_put_112 : decode cX5_put 112 = .ok (.iload 6, 2) := by decide +kernel
theorem dX5_put_114 : decode cX5_put 114 = .ok (.iaload, 1) := by decide +kernel
theorem dX5_put_115 : decode cX5_put 115 = .ok (.iadd, 1) := by decide +kernel
theorem dX5_put_116 : decode cX5_put 116 = .ok (.istore 5, 2) := by decide +kernel
theorem dX5_put_118 : decode cX5_put 118 = .ok (.iinc 6 1, 3) := by decide +kernel
theorem dX5_put_121 : decode cX5_put 121 = .ok (.goto (-24), 3) := by decide +kernel
theorem dX5_put_124 : decode cX5_put 124 = .ok (.aload_n 0, 1) := by decide +kernel
theorem dX5_put_125 : decode cX5_put 125 = .ok (.getfield 19, 3) := by decide +kernel
theorem dX5_put_128 : decode cX5_put 128 = .ok (.iconst 4, 1) := by decide +kernel
theorem dX5_put_129 : decode cX5_put 129 = .ok (.iload 5, 2) := by decide +kernel
theorem dX5_put_131 : decode cX5_put 131 = .ok (.invokestatic 64, 3) := by decide +kernel
theorem dX5_put_134 : decode cX5_put 134 = .ok (.iastore, 1) := by decide +kernel
theorem dX5_put_135 : decode cX5_put 135 = .ok (.iconst 0, 1) := by decide +kernel
theorem dX5_put_136 : decode cX5_put 136 = .ok (.istore 6, 2) := by decide +kernel
theorem dX5_put_138 : decode cX5_put 138 = .ok (.iload 6, 2) := by decide +kernel
theorem dX5_put_140 : decode cX5_put 140 = .ok (.iconst 5, 1) := by decide +kernel
theorem dX5_put_141 : decode cX5_put 141 = .ok (.if_icmp .ge 25, 3) := by decide +kernel
theorem dX5_put_144 : decode cX5_put 144 = .ok (.aload_n 0, 1) := by decide +kernel
theorem dX5_put_145 : decode cX5_put 145 = .ok (.iload 4, 2) := by decide +kernel
theorem dX5_put_147 : decode cX5_put 147 = .ok (.iload 6, 2) := by decide +kernel
theorem dX5_put_149 : decode cX5_put 149 = .ok (.iadd, 1) := by decide +kernel
theorem dX5_put_150 : decode cX5_put 150 = .ok (.aload_n 0, 1) := by decide +kernel
theorem dX5_put_151 : decode cX5_put 151 = .ok (.getfield 19, 3) := by decide +kernel
theorem dX5_put_154 : decode cX5_put 154 = .ok (.iload 6, 2) := by decide +kernel
theorem dX5_put_156 : decode cX5_put 156 = .ok (.iaload, 1) := by decide +kernel
theorem dX5_put_157 : decode cX5_put 157 = .ok (.invokevirtual 77, 3) := by decide +kernel
theorem dX5_put_160 : decode cX5_put 160 = .ok (.iinc 6 1, 3) := by decide +kernel
theorem dX5_put_163 : decode cX5_put 163 = .ok (.goto (-25), 3) := by decide +kernel
theorem dX5_put_166 : decode cX5_put 166 = .ok (.aload_n 0, 1) := by decide +kernel
theorem dX5_put_167 : decode cX5_put 167 = .ok (.getfield 28, 3) := by decide +kernel
theorem dX5_put_170 : decode cX5_put 170 = .ok (.ifCond .eq 30, 3) := by decide +kernel
theorem dX5_put_173 : decode cX5_put 173 = .ok (.aload_n 0, 1) := by decide +kernel
theorem dX5_put_174 : decode cX5_put 174 = .ok (.iload_n 1, 1) := by decide +kernel
theorem dX5_put_175 : decode cX5_put 175 = .ok (.iload_n 2, 1) := by decide +kernel
theorem dX5_put_176 : decode cX5_put 176 = .ok (.iload_n 3, 1) := by decide +kernel
theorem dX5_put_177 : decode cX5_put 177 = .ok (.invokevirtual 85, 3) := by decide +kernel
theorem dX5_put_180 : decode cX5_put 180 = .ok (.aload_n 0, 1) := by decide +kernel
theorem dX5_put_181 : decode cX5_put 181 = .ok (.dup, 1) := by decide +kernel
theorem dX5_put_182 : decode cX5_put 182 = .ok (.getfield 71, 3) := by decide +kernel
theorem dX5_put_185 : decode cX5_put 185 = .ok (.iconst 1, 1) := by decide +kernel
theorem dX5_put_186 : decode cX5_put 186 = .ok (.iadd, 1) := by decide +kernel
theorem dX5_put_187 : decode cX5_put 187 = .ok (.putfield 71, 3) := by decide +kernel
theorem dX5_put_190 : decode cX5_put 190 = .ok (.aload_n 0, 1) := by decide +kernel
theorem dX5_put_191 : decode cX5_put 191 = .ok (.dup, 1) := by decide +kernel
theorem dX5_put_192 : decode cX5_put 192 = .ok (.getfield 74, 3) := by decide +kernel
theorem dX5_put_195 : decode cX5_put 195 = .ok (.iconst 1, 1) := by decide +kernel
theorem dX5_put_196 : decode cX5_put 196 = .ok (.iadd, 1) := by decide +kernel
theorem dX5_put_197 : decode cX5_put 197 = .ok (.putfield 74, 3) := by decide +kernel
theorem dX5_put_200 : decode cX5_put 200 = .ok (.aload_n 0, 1) := by decide +kernel
theorem dX5_put_201 : decode cX5_put 201 = .ok (.getfield 28, 3) := by decide +kernel
theorem dX5_put_204 : decode cX5_put 204 = .ok (.ireturn, 1) := by decide +kernel
theorem dX5_sum_0 : decode cX5_sum 0 = .ok (.aload_n 0, 1) := by decide +kernel
theorem dX5_sum_1 : decode cX5_sum 1 = .ok (.getfield 16, 3) := by decide +kernel
theorem dX5_sum_4 : decode cX5_sum 4 = .ok (.iload_n 1, 1) := by decide +kernel
theorem dX5_sum_5 : decode cX5_sum 5 = .ok (.iaload, 1) := by decide +kernel
theorem dX5_sum_6 : decode cX5_sum 6 = .ok (.i2l, 1) := by decide +kernel
theorem dX5_sum_7 : decode cX5_sum 7 = .ok (.ldc2_w 89, 3) := by decide +kernel
theorem dX5_sum_10 : decode cX5_sum 10 = .ok (.land, 1) := by decide +kernel
theorem dX5_sum_11 : decode cX5_sum 11 = .ok (.aload_n 0, 1) := by decide +kernel
theorem dX5_sum_12 : decode cX5_sum 12 = .ok (.getfield 16, 3) := by decide +kernel
theorem dX5_sum_15 : decode cX5_sum 15 = .ok (.iload_n 1, 1) := by decide +kernel
theorem dX5_sum_16 : decode cX5_sum 16 = .ok (.iconst 1, 1) := by decide +kernel
theorem dX5_sum_17 : decode cX5_sum 17 = .ok (.iadd, 1) := by decide +kernel
theorem dX5_sum_18 : decode cX5_sum 18 = .ok (.iaload, 1) := by decide +kernel
theorem dX5_sum_19 : decode cX5_sum 19 = .ok (.i2l, 1) := by decide +kernel
theorem dX5_sum_20 : decode cX5_sum 20 = .ok (.bipush 32, 2) := by decide +kernel
theorem dX5_sum_22 : decode cX5_sum 22 = .ok (.lshl, 1) := by decide +kernel
theorem dX5_sum_23 : decode cX5_sum 23 = .ok (.ladd, 1) := by decide +kernel
theorem dX5_sum_24 : decode cX5_sum 24 = .ok (.lreturn, 1) := by decide +kernel
theorem dX5_more_0 : decode cX5_more 0 = .ok (.aload_n 0, 1) := by decide +kernel
theorem dX5_more_1 : decode cX5_more 1 = .ok (.iload_n 1, 1) := by decide +kernel
theorem dX5_more_2 : decode cX5_more 2 = .ok (.invokevirtual 91, 3) := by decide +kernel
theorem dX5_more_5 : decode cX5_more 5 = .ok (.lload_n 2, 1) := by decide +kernel
theorem dX5_more_6 : decode cX5_more 6 = .ok (.ladd, 1) := by decide +kernel
theorem dX5_more_7 : decode cX5_more 7 = .ok (.lstore 4, 2) := by decide +kernel
theorem dX5_more_9 : decode cX5_more 9 = .ok (.aload_n 0, 1) := by decide +kernel
theorem dX5_more_10 : decode cX5_more 10 = .ok (.getfield 16, 3) := by decide +kernel
theorem dX5_more_13 : decode cX5_more 13 = .ok (.iload_n 1, 1) := by decide +kernel
theorem dX5_more_14 : decode cX5_more 14 = .ok (.lload 4, 2) := by decide +kernel
theorem dX5_more_16 : decode cX5_more 16 = .ok (.l2i, 1) := by decide +kernel
theorem dX5_more_17 : decode cX5_more 17 = .ok (.iastore, 1) := by decide +kernel
theorem dX5_more_18 : decode cX5_more 18 = .ok (.aload_n 0, 1) := by decide +kernel
theorem dX5_more_19 : decode cX5_more 19 = .ok (.getfield 16, 3) := by decide +kernel
theorem dX5_more_22 : decode cX5_more 22 = .ok (.iload_n 1, 1) := by decide +kernel
theorem dX5_more_23 : decode cX5_more 23 = .ok (.iconst 1, 1) := by decide +kernel
theorem dX5_more_24 : decode cX5_more 24 = .ok (.iadd, 1) := by decide +kernel
theorem dX5_more_25 : decode cX5_more 25 = .ok (.lload 4, 2) := by decide +kernel
theorem dX5_more_27 : decode cX5_more 27 = .ok (.bipush 32, 2) := by decide +kernel
theorem dX5_more_29 : decode cX5_more 29 = .ok (.lshr, 1) := by decide +kernel
theorem dX5_more_30 : decode cX5_more 30 = .ok (.l2i, 1) := by decide +kernel
theorem dX5_more_31 : decode cX5_more 31 = .ok (.iastore, 1) := by decide +kernel
theorem dX5_more_32 : decode cX5_more 32 = .ok (.return_, 1) := by decide +kernel
theorem dX5_act_0 : decode cX5_act 0 = .ok (.iload_n 1, 1) := by decide +kernel
theorem dX5_act_1 : decode cX5_act 1 = .ok (.tableswitch 219 1 8 #[47, 63, 74, 128, 157, 186, 197, 208], 47) := by decide +kernel
theorem dX5_act_48 : decode cX5_act 48 = .ok (.aload_n 0, 1) := by decide +kernel
theorem dX5_act_49 : decode cX5_act 49 = .ok (.iload_n 2, 1) := by decide +kernel
theorem dX5_act_50 : decode cX5_act 50 = .ok (.iload_n 3, 1) := by decide +kernel
theorem dX5_act_51 : decode cX5_act 51 = .ok (.bipush 16, 2) := by decide +kernel
theorem dX5_act_53 : decode cX5_act 53 = .ok (.irem, 1) := by decide +kernel
theorem dX5_act_54 : decode cX5_act 54 = .ok (.iload_n 3, 1) := by decide +kernel
theorem dX5_act_55 : decode cX5_act 55 = .ok (.bipush 16, 2) := by decide +kernel
theorem dX5_act_57 : decode cX5_act 57 = .ok (.idiv, 1) := by decide +kernel
theorem dX5_act_58 : decode cX5_act 58 = .ok (.invokevirtual 95, 3) := by decide +kernel
theorem dX5_act_61 : decode cX5_act 61 = .ok (.goto 167, 3) := by decide +kernel
theorem dX5_act_64 : decode cX5_act 64 = .ok (.aload_n 0, 1) := by decide +kernel
theorem dX5_act_65 : decode cX5_act 65 = .ok (.getfield 16, 3) := by decide +kernel
theorem dX5_act_68 : decode cX5_act 68 = .ok (.bipush 16, 2) := by decide +kernel
theorem dX5_act_70 : decode cX5_act 70 = .ok (.iconst 0, 1) := by decide +kernel
theorem dX5_act_71 : decode cX5_act 71 = .ok (.iastore, 1) := by decide +kernel
theorem dX5_act_72 : decode cX5_act 72 = .ok (.goto 156, 3) := by decide +kernel
theorem dX5_act_75 : decode cX5_act 75 = .ok (.aload_n 0, 1) := by decide +kernel
theorem dX5_act_76 : decode cX5_act 76 = .ok (.iconst 4, 1) := by decide +kernel
theorem dX5_act_77 : decode cX5_act 77 = .ok (.iload_n 2, 1) := by decide +kernel
theorem dX5_act_78 : decode cX5_act 78 = .ok (.ifCond .ne 14, 3) := by decide +kernel
theorem dX5_act_81 : decode cX5_act 81 = .ok (.aload_n 0, 1) := by decide +kernel
theorem dX5_act_82 : decode cX5_act 82 = .ok (.getfield 16, 3) := by decide +kernel
theorem dX5_act_85 : decode cX5_act 85 = .ok (.bipush 16, 2) := by decide +kernel
theorem dX5_act_87 : decode cX5_act 87 = .ok (.iaload, 1) := by decide +kernel
theorem dX5_act_88 : decode cX5_act 88 = .ok (.i2l, 1) := by decide +kernel
theorem dX5_act_89 : decode cX5_act 89 = .ok (.goto 4, 3) := by decide +kernel
theorem dX5_act_92 : decode cX5_act 92 = .ok (.lconst 0, 1) := by decide +kernel
theorem dX5_act_93 : decode cX5_act 93 = .ok (.invokevirtual 98, 3) := by decide +kernel
theorem dX5_act_96 : decode cX5_act 96 = .ok (.aload_n 0, 1) := by decide +kernel
theorem dX5_act_97 : decode cX5_act 97 = .ok (.bipush 8, 2) := by decide +kernel
theorem dX5_act_99 : decode cX5_act 99 = .ok (.iload_n 2, 1) := by decide +kernel
theorem dX5_act_100 : decode cX5_act 100 = .ok (.ifCond .ne 14, 3) := by decide +kernel
theorem dX5_act_103 : decode cX5_act 103 = .ok (.aload_n 0, 1) := by decide +kernel
theorem dX5_act_104 : decode cX5_act 104 = .ok (.getfield 16, 3) := by decide +kernel
theorem dX5_act_107 : decode cX5_act 107 = .ok (.bipush 16, 2) := by decide +kernel
theorem dX5_act_109 : decode cX5_act 109 = .ok (.iaload, 1) := by decide +kernel
theorem dX5_act_110 : decode cX5_act 110 = .ok (.i2l, 1) := by decide +kernel
theorem dX5_act_111 : decode cX5_act 111 = .ok (.goto 4, 3) := by decide +kernel
theorem dX5_act_114 : decode cX5_act 114 = .ok (.lconst 0, 1) := by decide +kernel
theorem dX5_act_115 : decode cX5_act 115 = .ok (.invokevirtual 98, 3) := by decide +kernel
theorem dX5_act_118 : decode cX5_act 118 = .ok (.aload_n 0, 1) := by decide +kernel
theorem dX5_act_119 : decode cX5_act 119 = .ok (.getfield 16, 3) := by decide +kernel
theorem dX5_act_122 : decode cX5_act 122 = .ok (.bipush 16, 2) := by decide +kernel
theorem dX5_act_124 : decode cX5_act 124 = .ok (.iconst 0, 1) := by decide +kernel
theorem dX5_act_125 : decode cX5_act 125 = .ok (.iastore, 1) := by decide +kernel
theorem dX5_act_126 : decode cX5_act 126 = .ok (.goto 102, 3) := by decide +kernel
theorem dX5_act_129 : decode cX5_act 129 = .ok (.aload_n 0, 1) := by decide +kernel
theorem dX5_act_130 : decode cX5_act 130 = .ok (.iconst 4, 1) := by decide +kernel
theorem dX5_act_131 : decode cX5_act 131 = .ok (.iload_n 2, 1) := by decide +kernel
theorem dX5_act_132 : decode cX5_act 132 = .ok (.i2l, 1) := by decide +kernel
theorem dX5_act_133 : decode cX5_act 133 = .ok (.invokevirtual 98, 3) := by decide +kernel
theorem dX5_act_136 : decode cX5_act 136 = .ok (.aload_n 0, 1) := by decide +kernel
theorem dX5_act_137 : decode cX5_act 137 = .ok (.bipush 6, 2) := by decide +kernel
theorem dX5_act_139 : decode cX5_act 139 = .ok (.iload_n 2, 1) := by decide +kernel
theorem dX5_act_140 : decode cX5_act 140 = .ok (.i2l, 1) := by decide +kernel
theorem dX5_act_141 : decode cX5_act 141 = .ok (.invokevirtual 98, 3) := by decide +kernel
theorem dX5_act_144 : decode cX5_act 144 = .ok (.aload_n 0, 1) := by decide +kernel
theorem dX5_act_145 : decode cX5_act 145 = .ok (.getfield 16, 3) := by decide +kernel
theorem dX5_act_148 : decode cX5_act 148 = .ok (.bipush 12, 2) := by decide +kernel
theorem dX5_act_150 : decode cX5_act 150 = .ok (.dup2, 1) := by decide +kernel
theorem dX5_act_151 : decode cX5_act 151 = .ok (.iaload, 1) := by decide +kernel
theorem dX5_act_152 : decode cX5_act 152 = .ok (.iconst 1, 1) := by decide +kernel
theorem dX5_act_153 : decode cX5_act 153 = .ok (.iadd, 1) := by decide +kernel
theorem dX5_act_154 : decode cX5_act 154 = .ok (.iastore, 1) := by decide +kernel
theorem dX5_act_155 : decode cX5_act 155 = .ok (.goto 73, 3) := by decide +kernel
theorem dX5_act_158 : decode cX5_act 158 = .ok (.aload_n 0, 1) := by decide +kernel
theorem dX5_act_159 : decode cX5_act 159 = .ok (.iconst 4, 1) := by decide +kernel
theorem dX5_act_160 : decode cX5_act 160 = .ok (.iload_n 2, 1) := by decide +kernel
theorem dX5_act_161 : decode cX5_act 161 = .ok (.i2l, 1) := by decide +kernel
theorem dX5_act_162 : decode cX5_act 162 = .ok (.invokevirtual 98, 3) := by decide +kernel
theorem dX5_act_165 : decode cX5_act 165 = .ok (.aload_n 0, 1) := by decide +kernel
theorem dX5_act_166 : decode cX5_act 166 = .ok (.bipush 8, 2) := by decide +kernel
theorem dX5_act_168 : decode cX5_act 168 = .ok (.iload_n 2, 1) := by decide +kernel
theorem dX5_act_169 : decode cX5_act 169 = .ok (.i2l, 1) := by decide +kernel
theorem dX5_act_170 : decode cX5_act 170 = .ok (.invokevirtual 98, 3) := by decide +kernel
theorem dX5_act_173 : decode cX5_act 173 = .ok (.aload_n 0, 1) := by decide +kernel
theorem dX5_act_174 : decode cX5_act 174 = .ok (.getfield 16, 3) := by decide +kernel
theorem dX5_act_177 : decode cX5_act 177 = .ok (.bipush 11, 2) := by decide +kernel
theorem dX5_act_179 : decode cX5_act 179 = .ok (.dup2, 1) := by decide +kernel
theorem dX5_act_180 : decode cX5_act 180 = .ok (.iaload, 1) := by decide +kernel
theorem dX5_act_181 : decode cX5_act 181 = .ok (.iconst 1, 1) := by decide +kernel
theorem dX5_act_182 : decode cX5_act 182 = .ok (.iadd, 1) := by decide +kernel
theorem dX5_act_183 : decode cX5_act 183 = .ok (.iastore, 1) := by decide +kernel
theorem dX5_act_184 : decode cX5_act 184 = .ok (.goto 44, 3) := by decide +kernel
theorem dX5_act_187 : decode cX5_act 187 = .ok (.aload_n 0, 1) := by decide +kernel
theorem dX5_act_188 : decode cX5_act 188 = .ok (.getfield 16, 3) := by decide +kernel
theorem dX5_act_191 : decode cX5_act 191 = .ok (.bipush 14, 2) := by decide +kernel
theorem dX5_act_193 : decode cX5_act 193 = .ok (.iload_n 2, 1) := by decide +kernel
theorem dX5_act_194 : decode cX5_act 194 = .ok (.iastore, 1) := by decide +kernel
theorem dX5_act_195 : decode cX5_act 195 = .ok (.goto 33, 3) := by decide +kernel
theorem dX5_act_198 : decode cX5_act 198 = .ok (.aload_n 0, 1) := by decide +kernel
theorem dX5_act_199 : decode cX5_act 199 = .ok (.getfield 16, 3) := by decide +kernel
theorem dX5_act_202 : decode cX5_act 202 = .ok (.bipush 13, 2) := by decide +kernel
theorem dX5_act_204 : decode cX5_act 204 = .ok (.iconst 1, 1) := by decide +kernel
theorem dX5_act_205 : decode cX5_act 205 = .ok (.iastore, 1) := by decide +kernel
theorem dX5_act_206 : decode cX5_act 206 = .ok (.goto 22, 3) := by decide +kernel
theorem dX5_act_209 : decode cX5_act 209 = .ok (.aload_n 0, 1) := by decide +kernel
theorem dX5_act_210 : decode cX5_act 210 = .ok (.getfield 16, 3) := by decide +kernel
theorem dX5_act_213 : decode cX5_act 213 = .ok (.bipush 13, 2) := by decide +kernel
theorem dX5_act_215 : decode cX5_act 215 = .ok (.iconst 0, 1) := by decide +kernel
theorem dX5_act_216 : decode cX5_act 216 = .ok (.iastore, 1) := by decide +kernel
theorem dX5_act_217 : decode cX5_act 217 = .ok (.goto 11, 3) := by decide +kernel
theorem dX5_act_220 : decode cX5_act 220 = .ok (.aload_n 0, 1) := by decide +kernel
theorem dX5_act_221 : decode cX5_act 221 = .ok (.getfield 16, 3) := by decide +kernel
theorem dX5_act_224 : decode cX5_act 224 = .ok (.bipush 15, 2) := by decide +kernel
theorem dX5_act_226 : decode cX5_act 226 = .ok (.iload_n 2, 1) := by decide +kernel
theorem dX5_act_227 : decode cX5_act 227 = .ok (.iastore, 1) := by decide +kernel
theorem dX5_act_228 : decode cX5_act 228 = .ok (.return_, 1) := by decide +kernel
theorem dX5_piece_0 : decode cX5_piece 0 = .ok (.bipush 17, 2) := by decide +kernel
theorem dX5_piece_2 : decode cX5_piece 2 = .ok (.iconst 3, 1) := by decide +kernel
theorem dX5_piece_3 : decode cX5_piece 3 = .ok (.iload_n 2, 1) := by decide +kernel
theorem dX5_piece_4 : decode cX5_piece 4 = .ok (.imul, 1) := by decide +kernel
theorem dX5_piece_5 : decode cX5_piece 5 = .ok (.iadd, 1) := by decide +kernel
theorem dX5_piece_6 : decode cX5_piece 6 = .ok (.istore 4, 2) := by decide +kernel
theorem dX5_piece_8 : decode cX5_piece 8 = .ok (.aload_n 0, 1) := by decide +kernel
theorem dX5_piece_9 : decode cX5_piece 9 = .ok (.iconst 2, 1) := by decide +kernel
theorem dX5_piece_10 : decode cX5_piece 10 = .ok (.iload_n 1, 1) := by decide +kernel
theorem dX5_piece_11 : decode cX5_piece 11 = .ok (.i2l, 1) := by decide +kernel
theorem dX5_piece_12 : decode cX5_piece 12 = .ok (.invokevirtual 98, 3) := by decide +kernel
theorem dX5_piece_15 : decode cX5_piece 15 = .ok (.aload_n 0, 1) := by decide +kernel
theorem dX5_piece_16 : decode cX5_piece 16 = .ok (.iconst 4, 1) := by decide +kernel
theorem dX5_piece_17 : decode cX5_piece 17 = .ok (.iload_n 1, 1) := by decide +kernel
theorem dX5_piece_18 : decode cX5_piece 18 = .ok (.ineg, 1) := by decide +kernel
theorem dX5_piece_19 : decode cX5_piece 19 = .ok (.i2l, 1) := by decide +kernel
theorem dX5_piece_20 : decode cX5_piece 20 = .ok (.invokevirtual 98, 3) := by decide +kernel
theorem dX5_piece_23 : decode cX5_piece 23 = .ok (.aload_n 0, 1) := by decide +kernel
theorem dX5_piece_24 : decode cX5_piece 24 = .ok (.iload 4, 2) := by decide +kernel
theorem dX5_piece_26 : decode cX5_piece 26 = .ok (.iconst 1, 1) := by decide +kernel
theorem dX5_piece_27 : decode cX5_piece 27 = .ok (.iadd, 1) := by decide +kernel
theorem dX5_piece_28 : decode cX5_piece 28 = .ok (.iload_n 1, 1) := by decide +kernel
theorem dX5_piece_29 : decode cX5_piece 29 = .ok (.i2l, 1) := by decide +kernel
theorem dX5_piece_30 : decode cX5_piece 30 = .ok (.invokevirtual 98, 3) := by decide +kernel
theorem dX5_piece_33 : decode cX5_piece 33 = .ok (.aload_n 0, 1) := by decide +kernel
theorem dX5_piece_34 : decode cX5_piece 34 = .ok (.getfield 16, 3) := by decide +kernel
theorem dX5_piece_37 : decode cX5_piece 37 = .ok (.iload 4, 2) := by decide +kernel
theorem dX5_piece_39 : decode cX5_piece 39 = .ok (.dup2, 1) := by decide +kernel
theorem dX5_piece_40 : decode cX5_piece 40 = .ok (.iaload, 1) := by decide +kernel
theorem dX5_piece_41 : decode cX5_piece 41 = .ok (.iconst 1, 1) := by decide +kernel
theorem dX5_piece_42 : decode cX5_piece 42 = .ok (.iadd, 1) := by decide +kernel
theorem dX5_piece_43 : decode cX5_piece 43 = .ok (.iastore, 1) := by decide +kernel
theorem dX5_piece_44 : decode cX5_piece 44 = .ok (.aload_n 0, 1) := by decide +kernel
theorem dX5_piece_45 : decode cX5_piece 45 = .ok (.getfield 16, 3) := by decide +kernel
theorem dX5_piece_48 : decode cX5_piece 48 = .ok (.bipush 10, 2) := by decide +kernel
theorem dX5_piece_50 : decode cX5_piece 50 = .ok (.dup2, 1) := by decide +kernel
theorem dX5_piece_51 : decode cX5_piece 51 = .ok (.iaload, 1) := by decide +kernel
theorem dX5_piece_52 : decode cX5_piece 52 = .ok (.iconst 1, 1) := by decide +kernel
theorem dX5_piece_53 : decode cX5_piece 53 = .ok (.iadd, 1) := by decide +kernel
theorem dX5_piece_54 : decode cX5_piece 54 = .ok (.iastore, 1) := by decide +kernel
theorem dX5_piece_55 : decode cX5_piece 55 = .ok (.aload_n 0, 1) := by decide +kernel
theorem dX5_piece_56 : decode cX5_piece 56 = .ok (.getfield 16, 3) := by decide +kernel
theorem dX5_piece_59 : decode cX5_piece 59 = .ok (.bipush 16, 2) := by decide +kernel
theorem dX5_piece_61 : decode cX5_piece 61 = .ok (.iload_n 1, 1) := by decide +kernel
theorem dX5_piece_62 : decode cX5_piece 62 = .ok (.iastore, 1) := by decide +kernel
theorem dX5_piece_63 : decode cX5_piece 63 = .ok (.bipush 65, 2) := by decide +kernel
theorem dX5_piece_65 : decode cX5_piece 65 = .ok (.iconst 4, 1) := by decide +kernel
theorem dX5_piece_66 : decode cX5_piece 66 = .ok (.iload_n 3, 1) := by decide +kernel
theorem dX5_piece_67 : decode cX5_piece 67 = .ok (.bipush 32, 2) := by decide +kernel
theorem dX5_piece_69 : decode cX5_piece 69 = .ok (.irem, 1) := by decide +kernel
theorem dX5_piece_70 : decode cX5_piece 70 = .ok (.imul, 1) := by decide +kernel
theorem dX5_piece_71 : decode cX5_piece 71 = .ok (.iadd, 1) := by decide +kernel
theorem dX5_piece_72 : decode cX5_piece 72 = .ok (.istore 5, 2) := by decide +kernel
theorem dX5_piece_74 : decode cX5_piece 74 = .ok (.aload_n 0, 1) := by decide +kernel
theorem dX5_piece_75 : decode cX5_piece 75 = .ok (.getfield 16, 3) := by decide +kernel
theorem dX5_piece_78 : decode cX5_piece 78 = .ok (.iload 5, 2) := by decide +kernel
theorem dX5_piece_80 : decode cX5_piece 80 = .ok (.iaload, 1) := by decide +kernel
theorem dX5_piece_81 : decode cX5_piece 81 = .ok (.iload_n 3, 1) := by decide +kernel
theorem dX5_piece_82 : decode cX5_piece 82 = .ok (.if_icmp .ge 41, 3) := by decide +kernel
theorem dX5_piece_85 : decode cX5_piece 85 = .ok (.aload_n 0, 1) := by decide +kernel
theorem dX5_piece_86 : decode cX5_piece 86 = .ok (.getfield 16, 3) := by decide +kernel
theorem dX5_piece_89 : decode cX5_piece 89 = .ok (.iload 5, 2) := by decide +kernel
theorem dX5_piece_91 : decode cX5_piece 91 = .ok (.iload_n 3, 1) := by decide +kernel
theorem dX5_piece_92 : decode cX5_piece 92 = .ok (.iastore, 1) := by decide +kernel
theorem dX5_piece_93 : decode cX5_piece 93 = .ok (.aload_n 0, 1) := by decide +kernel
theorem dX5_piece_94 : decode cX5_piece 94 = .ok (.getfield 16, 3) := by decide +kernel
theorem dX5_piece_97 : decode cX5_piece 97 = .ok (.iload 5, 2) := by decide +kernel
theorem dX5_piece_99 : decode cX5_piece 99 = .ok (.iconst 1, 1) := by decide +kernel
theorem dX5_piece_100 : decode cX5_piece 100 = .ok (.iadd, 1) := by decide +kernel
theorem dX5_piece_101 : decode cX5_piece 101 = .ok (.iconst 0, 1) := by decide +kernel
theorem dX5_piece_102 : decode cX5_piece 102 = .ok (.iastore, 1) := by decide +kernel
theorem dX5_piece_103 : decode cX5_piece 103 = .ok (.aload_n 0, 1) := by decide +kernel
theorem dX5_piece_104 : decode cX5_piece 104 = .ok (.getfield 16, 3) := by decide +kernel
theorem dX5_piece_107 : decode cX5_piece 107 = .ok (.iload 5, 2) := by decide +kernel
theorem dX5_piece_109 : decode cX5_piece 109 = .ok (.iconst 2, 1) := by decide +kernel
theorem dX5_piece_110 : decode cX5_piece 110 = .ok (.iadd, 1) := by decide +kernel
theorem dX5_piece_111 : decode cX5_piece 111 = .ok (.iconst 0, 1) := by decide +kernel
theorem dX5_piece_112 : decode cX5_piece 112 = .ok (.iastore, 1) := by decide +kernel
theorem dX5_piece_113 : decode cX5_piece 113 = .ok (.aload_n 0, 1) := by decide +kernel
theorem dX5_piece_114 : decode cX5_piece 114 = .ok (.getfield 16, 3) := by decide +kernel
theorem dX5_piece_117 : decode cX5_piece 117 = .ok (.iload 5, 2) := by decide +kernel
theorem dX5_piece_119 : decode cX5_piece 119 = .ok (.iconst 3, 1) := by decide +kernel
theorem dX5_piece_120 : decode cX5_piece 120 = .ok (.iadd, 1) := by decide +kernel
theorem dX5_piece_121 : decode cX5_piece 121 = .ok (.iconst 0, 1) := by decide +kernel
theorem dX5_piece_122 : decode cX5_piece 122 = .ok (.iastore, 1) := by decide +kernel
theorem dX5_piece_123 : decode cX5_piece 123 = .ok (.aload_n 0, 1) := by decide +kernel
theorem dX5_piece_124 : decode cX5_piece 124 = .ok (.getfield 16, 3) := by decide +kernel
theorem dX5_piece_127 : decode cX5_piece 127 = .ok (.iload 5, 2) := by decide +kernel
theorem dX5_piece_129 : decode cX5_piece 129 = .ok (.iaload, 1) := by decide +kernel
theorem dX5_piece_130 : decode cX5_piece 130 = .ok (.iload_n 3, 1) := by decide +kernel
theorem dX5_piece_131 : decode cX5_piece 131 = .ok (.if_icmp .ne 26, 3) := by decide +kernel
theorem dX5_piece_134 : decode cX5_piece 134 = .ok (.aload_n 0, 1) := by decide +kernel
theorem dX5_piece_135 : decode cX5_piece 135 = .ok (.getfield 16, 3) := by decide +kernel
theorem dX5_piece_138 : decode cX5_piece 138 = .ok (.iload 5, 2) := by decide +kernel
theorem dX5_piece_140 : decode cX5_piece 140 = .ok (.iconst 1, 1) := by decide +kernel
theorem dX5_piece_141 : decode cX5_piece 141 = .ok (.iadd, 1) := by decide +kernel
theorem dX5_piece_142 : decode cX5_piece 142 = .ok (.dup2, 1) := by decide +kernel
theorem dX5_piece_143 : decode cX5_piece 143 = .ok (.iaload, 1) := by decide +kernel
theorem dX5_piece_144 : decode cX5_piece 144 = .ok (.iconst 1, 1) := by decide +kernel
theorem dX5_piece_145 : decode cX5_piece 145 = .ok (.iadd, 1) := by decide +kernel
theorem dX5_piece_146 : decode cX5_piece 146 = .ok (.iastore, 1) := by decide +kernel
theorem dX5_piece_147 : decode cX5_piece 147 = .ok (.aload_n 0, 1) := by decide +kernel
theorem dX5_piece_148 : decode cX5_piece 148 = .ok (.iload 5, 2) := by decide +kernel
theorem dX5_piece_150 : decode cX5_piece 150 = .ok (.iconst 2, 1) := by decide +kernel
theorem dX5_piece_151 : decode cX5_piece 151 = .ok (.iadd, 1) := by decide +kernel
theorem dX5_piece_152 : decode cX5_piece 152 = .ok (.iload_n 1, 1) := by decide +kernel
theorem dX5_piece_153 : decode cX5_piece 153 = .ok (.i2l, 1) := by decide +kernel
theorem dX5_piece_154 : decode cX5_piece 154 = .ok (.invokevirtual 98, 3) := by decide +kernel
theorem dX5_piece_157 : decode cX5_piece 157 = .ok (.return_, 1) := by decide +kernel
theorem dX5_isRate_0 : decode cX5_isRate 0 = .ok (.iload_n 0, 1) := by decide +kernel
theorem dX5_isRate_1 : decode cX5_isRate 1 = .ok (.i2l, 1) := by decide +kernel
theorem dX5_isRate_2 : decode cX5_isRate 2 = .ok (.lconst 0, 1) := by decide +kernel
theorem dX5_isRate_3 : decode cX5_isRate 3 = .ok (.ldc2_w 102, 3) := by decide +kernel
theorem dX5_isRate_6 : decode cX5_isRate 6 = .ok (.invokestatic 52, 3) := by decide +kernel
theorem dX5_isRate_9 : decode cX5_isRate 9 = .ok (.ifCond .eq 31, 3) := by decide +kernel
theorem dX5_isRate_12 : decode cX5_isRate 12 = .ok (.iload_n 1, 1) := by decide +kernel
theorem dX5_isRate_13 : decode cX5_isRate 13 = .ok (.i2l, 1) := by decide +kernel
theorem dX5_isRate_14 : decode cX5_isRate 14 = .ok (.lconst 0, 1) := by decide +kernel
theorem dX5_isRate_15 : decode cX5_isRate 15 = .ok (.ldc2_w 104, 3) := by decide +kernel
theorem dX5_isRate_18 : decode cX5_isRate 18 = .ok (.invokestatic 52, 3) := by decide +kernel
theorem dX5_isRate_21 : decode cX5_isRate 21 = .ok (.ifCond .eq 19, 3) := by decide +kernel
theorem dX5_isRate_24 : decode cX5_isRate 24 = .ok (.iload_n 2, 1) := by decide +kernel
theorem dX5_isRate_25 : decode cX5_isRate 25 = .ok (.i2l, 1) := by decide +kernel
theorem dX5_isRate_26 : decode cX5_isRate 26 = .ok (.lconst 0, 1) := by decide +kernel
theorem dX5_isRate_27 : decode cX5_isRate 27 = .ok (.ldc2_w 106, 3) := by decide +kernel
theorem dX5_isRate_30 : decode cX5_isRate 30 = .ok (.invokestatic 52, 3) := by decide +kernel
theorem dX5_isRate_33 : decode cX5_isRate 33 = .ok (.ifCond .eq 7, 3) := by decide +kernel
theorem dX5_isRate_36 : decode cX5_isRate 36 = .ok (.iconst 1, 1) := by decide +kernel
theorem dX5_isRate_37 : decode cX5_isRate 37 = .ok (.goto 4, 3) := by decide +kernel
theorem dX5_isRate_40 : decode cX5_isRate 40 = .ok (.iconst 0, 1) := by decide +kernel
theorem dX5_isRate_41 : decode cX5_isRate 41 = .ok (.ireturn, 1) := by decide +kernel
theorem dX5_place_0 : decode cX5_place 0 = .ok (.bipush 40, 2) := by decide +kernel
theorem dX5_place_2 : decode cX5_place 2 = .ok (.iload_n 0, 1) := by decide +kernel
theorem dX5_place_3 : decode cX5_place 3 = .ok (.imul, 1) := by decide +kernel
theorem dX5_place_4 : decode cX5_place 4 = .ok (.iconst 4, 1) := by decide +kernel
theorem dX5_place_5 : decode cX5_place 5 = .ok (.iload_n 1, 1) := by decide +kernel
theorem dX5_place_6 : decode cX5_place 6 = .ok (.imul, 1) := by decide +kernel
theorem dX5_place_7 : decode cX5_place 7 = .ok (.iadd, 1) := by decide +kernel
theorem dX5_place_8 : decode cX5_place 8 = .ok (.iload_n 2, 1) := by decide +kernel
theorem dX5_place_9 : decode cX5_place 9 = .ok (.iadd, 1) := by decide +kernel
theorem dX5_place_10 : decode cX5_place 10 = .ok (.ireturn, 1) := by decide +kernel
theorem dX5_rate_0 : decode cX5_rate 0 = .ok (.aload_n 0, 1) := by decide +kernel
theorem dX5_rate_1 : decode cX5_rate 1 = .ok (.iconst 0, 1) := by decide +kernel
theorem dX5_rate_2 : decode cX5_rate 2 = .ok (.putfield 47, 3) := by decide +kernel
theorem dX5_rate_5 : decode cX5_rate 5 = .ok (.iload_n 1, 1) := by decide +kernel
theorem dX5_rate_6 : decode cX5_rate 6 = .ok (.iload_n 2, 1) := by decide +kernel
theorem dX5_rate_7 : decode cX5_rate 7 = .ok (.iload_n 3, 1) := by decide +kernel
theorem dX5_rate_8 : decode cX5_rate 8 = .ok (.invokestatic 108, 3) := by decide +kernel
theorem dX5_rate_11 : decode cX5_rate 11 = .ok (.ifCond .eq 16, 3) := by decide +kernel
theorem dX5_rate_14 : decode cX5_rate 14 = .ok (.iload 4, 2) := by decide +kernel
theorem dX5_rate_16 : decode cX5_rate 16 = .ok (.i2l, 1) := by decide +kernel
theorem dX5_rate_17 : decode cX5_rate 17 = .ok (.lconst 0, 1) := by decide +kernel
theorem dX5_rate_18 : decode cX5_rate 18 = .ok (.ldc2_w 50, 3) := by decide +kernel
theorem dX5_rate_21 : decode cX5_rate 21 = .ok (.invokestatic 52, 3) := by decide +kernel
theorem dX5_rate_24 : decode cX5_rate 24 = .ok (.ifCond .ne 5, 3) := by decide +kernel
theorem dX5_rate_27 : decode cX5_rate 27 = .ok (.iconst (-1), 1) := by decide +kernel
theorem dX5_rate_28 : decode cX5_rate 28 = .ok (.ireturn, 1) := by decide +kernel
theorem dX5_rate_29 : decode cX5_rate 29 = .ok (.aload_n 0, 1) := by decide +kernel
theorem dX5_rate_30 : decode cX5_rate 30 = .ok (.getfield 22, 3) := by decide +kernel
theorem dX5_rate_33 : decode cX5_rate 33 = .ok (.iload_n 1, 1) := by decide +kernel
theorem dX5_rate_34 : decode cX5_rate 34 = .ok (.iload_n 2, 1) := by decide +kernel
theorem dX5_rate_35 : decode cX5_rate 35 = .ok (.iload_n 3, 1) := by decide +kernel
theorem dX5_rate_36 : decode cX5_rate 36 = .ok (.invokestatic 112, 3) := by decide +kernel
theorem dX5_rate_39 : decode cX5_rate 39 = .ok (.iload 4, 2) := by decide +kernel
theorem dX5_rate_41 : decode cX5_rate 41 = .ok (.iastore, 1) := by decide +kernel
theorem dX5_rate_42 : decode cX5_rate 42 = .ok (.iconst 1, 1) := by decide +kernel
theorem dX5_rate_43 : decode cX5_rate 43 = .ok (.ireturn, 1) := by decide +kernel
theorem dX5_loadTable_0 : decode cX5_loadTable 0 = .ok (.aload_n 0, 1) := by decide +kernel
theorem dX5_loadTable_1 : decode cX5_loadTable 1 = .ok (.iconst 0, 1) := by decide +kernel
theorem dX5_loadTable_2 : decode cX5_loadTable 2 = .ok (.putfield 47, 3) := by decide +kernel
theorem dX5_loadTable_5 : decode cX5_loadTable 5 = .ok (.aload_n 0, 1) := by decide +kernel
theorem dX5_loadTable_6 : decode cX5_loadTable 6 = .ok (.getfield 28, 3) := by decide +kernel
theorem dX5_loadTable_9 : decode cX5_loadTable 9 = .ok (.ifCond .ne 6, 3) := by decide +kernel
theorem dX5_loadTable_12 : decode cX5_loadTable 12 = .ok (.bipush (-7), 2) := by decide +kernel
theorem dX5_loadTable_14 : decode cX5_loadTable 14 = .ok (.ireturn, 1) := by decide +kernel
theorem dX5_loadTable_15 : decode cX5_loadTable 15 = .ok (.iload_n 1, 1) := by decide +kernel
theorem dX5_loadTable_16 : decode cX5_loadTable 16 = .ok (.ifCond .lt 14, 3) := by decide +kernel
theorem dX5_loadTable_19 : decode cX5_loadTable 19 = .ok (.iload_n 1, 1) := by decide +kernel
theorem dX5_loadTable_20 : decode cX5_loadTable 20 = .ok (.aload_n 0, 1) := by decide +kernel
theorem dX5_loadTable_21 : decode cX5_loadTable 21 = .ok (.getfield 16, 3) := by decide +kernel
theorem dX5_loadTable_24 : decode cX5_loadTable 24 = .ok (.bipush 15, 2) := by decide +kernel
theorem dX5_loadTable_26 : decode cX5_loadTable 26 = .ok (.iaload, 1) := by decide +kernel
theorem dX5_loadTable_27 : decode cX5_loadTable 27 = .ok (.if_icmp .ge 5, 3) := by decide +kernel
theorem dX5_loadTable_30 : decode cX5_loadTable 30 = .ok (.iconst 0, 1) := by decide +kernel
theorem dX5_loadTable_31 : decode cX5_loadTable 31 = .ok (.ireturn, 1) := by decide +kernel
theorem dX5_loadTable_32 : decode cX5_loadTable 32 = .ok (.aload_n 0, 1) := by decide +kernel
theorem dX5_loadTable_33 : decode cX5_loadTable 33 = .ok (.bipush 9, 2) := by decide +kernel
theorem dX5_loadTable_35 : decode cX5_loadTable 35 = .ok (.iload_n 1, 1) := by decide +kernel
theorem dX5_loadTable_36 : decode cX5_loadTable 36 = .ok (.iconst 0, 1) := by decide +kernel
theorem dX5_loadTable_37 : decode cX5_loadTable 37 = .ok (.invokevirtual 116, 3) := by decide +kernel
theorem dX5_loadTable_40 : decode cX5_loadTable 40 = .ok (.ifCond .ne 6, 3) := by decide +kernel
theorem dX5_loadTable_43 : decode cX5_loadTable 43 = .ok (.bipush (-7), 2) := by decide +kernel
theorem dX5_loadTable_45 : decode cX5_loadTable 45 = .ok (.ireturn, 1) := by decide +kernel
theorem dX5_loadTable_46 : decode cX5_loadTable 46 = .ok (.iconst 0, 1) := by decide +kernel
theorem dX5_loadTable_47 : decode cX5_loadTable 47 = .ok (.istore_n 2, 1) := by decide +kernel
theorem dX5_loadTable_48 : decode cX5_loadTable 48 = .ok (.iload_n 2, 1) := by decide +kernel
theorem dX5_loadTable_49 : decode cX5_loadTable 49 = .ok (.sipush 320, 3) := by decide +kernel
theorem dX5_loadTable_52 : decode cX5_loadTable 52 = .ok (.if_icmp .ge 21, 3) := by decide +kernel
theorem dX5_loadTable_55 : decode cX5_loadTable 55 = .ok (.aload_n 0, 1) := by decide +kernel
theorem dX5_loadTable_56 : decode cX5_loadTable 56 = .ok (.getfield 25, 3) := by decide +kernel
theorem dX5_loadTable_59 : decode cX5_loadTable 59 = .ok (.iload_n 2, 1) := by decide +kernel
theorem dX5_loadTable_60 : decode cX5_loadTable 60 = .ok (.aload_n 0, 1) := by decide +kernel
theorem dX5_loadTable_61 : decode cX5_loadTable 61 = .ok (.getfield 22, 3) := by decide +kernel
theorem dX5_loadTable_64 : decode cX5_loadTable 64 = .ok (.iload_n 2, 1) := by decide +kernel
theorem dX5_loadTable_65 : decode cX5_loadTable 65 = .ok (.iaload, 1) := by decide +kernel
theorem dX5_loadTable_66 : decode cX5_loadTable 66 = .ok (.iastore, 1) := by decide +kernel
theorem dX5_loadTable_67 : decode cX5_loadTable 67 = .ok (.iinc 2 1, 3) := by decide +kernel
theorem dX5_loadTable_70 : decode cX5_loadTable 70 = .ok (.goto (-22), 3) := by decide +kernel
theorem dX5_loadTable_73 : decode cX5_loadTable 73 = .ok (.iconst 1, 1) := by decide +kernel
theorem dX5_loadTable_74 : decode cX5_loadTable 74 = .ok (.ireturn, 1) := by decide +kernel
theorem dX5_weigh_0 : decode cX5_weigh 0 = .ok (.aload_n 0, 1) := by decide +kernel
theorem dX5_weigh_1 : decode cX5_weigh 1 = .ok (.iconst 0, 1) := by decide +kernel
theorem dX5_weigh_2 : decode cX5_weigh 2 = .ok (.putfield 47, 3) := by decide +kernel
theorem dX5_weigh_5 : decode cX5_weigh 5 = .ok (.iload_n 2, 1) := by decide +kernel
theorem dX5_weigh_6 : decode cX5_weigh 6 = .ok (.iconst 1, 1) := by decide +kernel
theorem dX5_weigh_7 : decode cX5_weigh 7 = .ok (.isub, 1) := by decide +kernel
theorem dX5_weigh_8 : decode cX5_weigh 8 = .ok (.bipush 50, 2) := by decide +kernel
theorem dX5_weigh_10 : decode cX5_weigh 10 = .ok (.idiv, 1) := by decide +kernel
theorem dX5_weigh_11 : decode cX5_weigh 11 = .ok (.istore 4, 2) := by decide +kernel
theorem dX5_weigh_13 : decode cX5_weigh 13 = .ok (.iload_n 2, 1) := by decide +kernel
theorem dX5_weigh_14 : decode cX5_weigh 14 = .ok (.i2l, 1) := by decide +kernel
theorem dX5_weigh_15 : decode cX5_weigh 15 = .ok (.lconst 1, 1) := by decide +kernel
theorem dX5_weigh_16 : decode cX5_weigh 16 = .ok (.ldc2_w 119, 3) := by decide +kernel
theorem dX5_weigh_19 : decode cX5_weigh 19 = .ok (.invokestatic 52, 3) := by decide +kernel
theorem dX5_weigh_22 : decode cX5_weigh 22 = .ok (.ifCond .eq 13, 3) := by decide +kernel
theorem dX5_weigh_25 : decode cX5_weigh 25 = .ok (.iload_n 1, 1) := by decide +kernel
theorem dX5_weigh_26 : decode cX5_weigh 26 = .ok (.iload 4, 2) := by decide +kernel
theorem dX5_weigh_28 : decode cX5_weigh 28 = .ok (.iload_n 3, 1) := by decide +kernel
theorem dX5_weigh_29 : decode cX5_weigh 29 = .ok (.invokestatic 108, 3) := by decide +kernel
theorem dX5_weigh_32 : decode cX5_weigh 32 = .ok (.ifCond .ne 5, 3) := by decide +kernel
theorem dX5_weigh_35 : decode cX5_weigh 35 = .ok (.iconst (-1), 1) := by decide +kernel
theorem dX5_weigh_36 : decode cX5_weigh 36 = .ok (.ireturn, 1) := by decide +kernel
theorem dX5_weigh_37 : decode cX5_weigh 37 = .ok (.aload_n 0, 1) := by decide +kernel
theorem dX5_weigh_38 : decode cX5_weigh 38 = .ok (.getfield 25, 3) := by decide +kernel
theorem dX5_weigh_41 : decode cX5_weigh 41 = .ok (.iload_n 1, 1) := by decide +kernel
theorem dX5_weigh_42 : decode cX5_weigh 42 = .ok (.iload 4, 2) := by decide +kernel
theorem dX5_weigh_44 : decode cX5_weigh 44 = .ok (.iload_n 3, 1) := by decide +kernel
theorem dX5_weigh_45 : decode cX5_weigh 45 = .ok (.invokestatic 112, 3) := by decide +kernel
theorem dX5_weigh_48 : decode cX5_weigh 48 = .ok (.iaload, 1) := by decide +kernel
theorem dX5_weigh_49 : decode cX5_weigh 49 = .ok (.istore 5, 2) := by decide +kernel
theorem dX5_weigh_51 : decode cX5_weigh 51 = .ok (.iload 5, 2) := by decide +kernel
theorem dX5_weigh_53 : decode cX5_weigh 53 = .ok (.ifCond .ne 7, 3) := by decide +kernel
theorem dX5_weigh_56 : decode cX5_weigh 56 = .ok (.iconst (-1), 1) := by decide +kernel
theorem dX5_weigh_57 : decode cX5_weigh 57 = .ok (.goto 5, 3) := by decide +kernel
theorem dX5_weigh_60 : decode cX5_weigh 60 = .ok (.iload 5, 2) := by decide +kernel
theorem dX5_weigh_62 : decode cX5_weigh 62 = .ok (.ireturn, 1) := by decide +kernel
theorem dX5_isDay_0 : decode cX5_isDay 0 = .ok (.iload_n 0, 1) := by decide +kernel
theorem dX5_isDay_1 : decode cX5_isDay 1 = .ok (.i2l, 1) := by decide +kernel
theorem dX5_isDay_2 : decode cX5_isDay 2 = .ok (.lconst 0, 1) := by decide +kernel
theorem dX5_isDay_3 : decode cX5_isDay 3 = .ok (.ldc2_w 121, 3) := by decide +kernel
theorem dX5_isDay_6 : decode cX5_isDay 6 = .ok (.invokestatic 52, 3) := by decide +kernel
theorem dX5_isDay_9 : decode cX5_isDay 9 = .ok (.ireturn, 1) := by decide +kernel
theorem dX5_frank_0 : decode cX5_frank 0 = .ok (.aload_n 0, 1) := by decide +kernel
theorem dX5_frank_1 : decode cX5_frank 1 = .ok (.iconst 0, 1) := by decide +kernel
theorem dX5_frank_2 : decode cX5_frank 2 = .ok (.putfield 47, 3) := by decide +kernel
theorem dX5_frank_5 : decode cX5_frank 5 = .ok (.aload_n 0, 1) := by decide +kernel
theorem dX5_frank_6 : decode cX5_frank 6 = .ok (.getfield 28, 3) := by decide +kernel
theorem dX5_frank_9 : decode cX5_frank 9 = .ok (.ifCond .ne 6, 3) := by decide +kernel
theorem dX5_frank_12 : decode cX5_frank 12 = .ok (.bipush (-7), 2) := by decide +kernel
theorem dX5_frank_14 : decode cX5_frank 14 = .ok (.ireturn, 1) := by decide +kernel
theorem dX5_frank_15 : decode cX5_frank 15 = .ok (.aload_n 0, 1) := by decide +kernel
theorem dX5_frank_16 : decode cX5_frank 16 = .ok (.getfield 16, 3) := by decide +kernel
theorem dX5_frank_19 : decode cX5_frank 19 = .ok (.bipush 13, 2) := by decide +kernel
theorem dX5_frank_21 : decode cX5_frank 21 = .ok (.iaload, 1) := by decide +kernel
theorem dX5_frank_22 : decode cX5_frank 22 = .ok (.ifCond .ne 37, 3) := by decide +kernel
theorem dX5_frank_25 : decode cX5_frank 25 = .ok (.iload_n 3, 1) := by decide +kernel
theorem dX5_frank_26 : decode cX5_frank 26 = .ok (.invokestatic 123, 3) := by decide +kernel
theorem dX5_frank_29 : decode cX5_frank 29 = .ok (.ifCond .eq 30, 3) := by decide +kernel
theorem dX5_frank_32 : decode cX5_frank 32 = .ok (.iload_n 3, 1) := by decide +kernel
theorem dX5_frank_33 : decode cX5_frank 33 = .ok (.aload_n 0, 1) := by decide +kernel
theorem dX5_frank_34 : decode cX5_frank 34 = .ok (.getfield 16, 3) := by decide +kernel
theorem dX5_frank_37 : decode cX5_frank 37 = .ok (.bipush 14, 2) := by decide +kernel
theorem dX5_frank_39 : decode cX5_frank 39 = .ok (.iaload, 1) := by decide +kernel
theorem dX5_frank_40 : decode cX5_frank 40 = .ok (.if_icmp .gt 19, 3) := by decide +kernel
theorem dX5_frank_43 : decode cX5_frank 43 = .ok (.iload_n 1, 1) := by decide +kernel
theorem dX5_frank_44 : decode cX5_frank 44 = .ok (.i2l, 1) := by decide +kernel
theorem dX5_frank_45 : decode cX5_frank 45 = .ok (.lconst 0, 1) := by decide +kernel
theorem dX5_frank_46 : decode cX5_frank 46 = .ok (.ldc2_w 126, 3) := by decide +kernel
theorem dX5_frank_49 : decode cX5_frank 49 = .ok (.invokestatic 52, 3) := by decide +kernel
theorem dX5_frank_52 : decode cX5_frank 52 = .ok (.ifCond .eq 7, 3) := by decide +kernel
theorem dX5_frank_55 : decode cX5_frank 55 = .ok (.iconst 1, 1) := by decide +kernel
theorem dX5_frank_56 : decode cX5_frank 56 = .ok (.goto 4, 3) := by decide +kernel
theorem dX5_frank_59 : decode cX5_frank 59 = .ok (.iconst 0, 1) := by decide +kernel
theorem dX5_frank_60 : decode cX5_frank 60 = .ok (.istore 4, 2) := by decide +kernel
theorem dX5_frank_62 : decode cX5_frank 62 = .ok (.iload 4, 2) := by decide +kernel
theorem dX5_frank_64 : decode cX5_frank 64 = .ok (.ifCond .eq 31, 3) := by decide +kernel
theorem dX5_frank_67 : decode cX5_frank 67 = .ok (.iload_n 2, 1) := by decide +kernel
theorem dX5_frank_68 : decode cX5_frank 68 = .ok (.invokestatic 128, 3) := by decide +kernel
theorem dX5_frank_71 : decode cX5_frank 71 = .ok (.ifCond .eq 24, 3) := by decide +kernel
theorem dX5_frank_74 : decode cX5_frank 74 = .ok (.iload_n 2, 1) := by decide +kernel
theorem dX5_frank_75 : decode cX5_frank 75 = .ok (.i2l, 1) := by decide +kernel
theorem dX5_frank_76 : decode cX5_frank 76 = .ok (.aload_n 0, 1) := by decide +kernel
theorem dX5_frank_77 : decode cX5_frank 77 = .ok (.iconst 4, 1) := by decide +kernel
theorem dX5_frank_78 : decode cX5_frank 78 = .ok (.invokevirtual 91, 3) := by decide +kernel
theorem dX5_frank_81 : decode cX5_frank 81 = .ok (.lcmp, 1) := by decide +kernel
theorem dX5_frank_82 : decode cX5_frank 82 = .ok (.ifCond .gt 13, 3) := by decide +kernel
theorem dX5_frank_85 : decode cX5_frank 85 = .ok (.aload_n 0, 1) := by decide +kernel
theorem dX5_frank_86 : decode cX5_frank 86 = .ok (.getfield 16, 3) := by decide +kernel
theorem dX5_frank_89 : decode cX5_frank 89 = .ok (.bipush 16, 2) := by decide +kernel
theorem dX5_frank_91 : decode cX5_frank 91 = .ok (.iaload, 1) := by decide +kernel
theorem dX5_frank_92 : decode cX5_frank 92 = .ok (.ifCond .eq 5, 3) := by decide +kernel
theorem dX5_frank_95 : decode cX5_frank 95 = .ok (.iconst 0, 1) := by decide +kernel
theorem dX5_frank_96 : decode cX5_frank 96 = .ok (.ireturn, 1) := by decide +kernel
theorem dX5_frank_97 : decode cX5_frank 97 = .ok (.aload_n 0, 1) := by decide +kernel
theorem dX5_frank_98 : decode cX5_frank 98 = .ok (.iconst 1, 1) := by decide +kernel
theorem dX5_frank_99 : decode cX5_frank 99 = .ok (.iload_n 2, 1) := by decide +kernel
theorem dX5_frank_100 : decode cX5_frank 100 = .ok (.iload_n 1, 1) := by decide +kernel
theorem dX5_frank_101 : decode cX5_frank 101 = .ok (.bipush 16, 2) := by decide +kernel
theorem dX5_frank_103 : decode cX5_frank 103 = .ok (.iload_n 3, 1) := by decide +kernel
theorem dX5_frank_104 : decode cX5_frank 104 = .ok (.imul, 1) := by decide +kernel
theorem dX5_frank_105 : decode cX5_frank 105 = .ok (.iadd, 1) := by decide +kernel
theorem dX5_frank_106 : decode cX5_frank 106 = .ok (.invokevirtual 116, 3) := by decide +kernel
theorem dX5_frank_109 : decode cX5_frank 109 = .ok (.ifCond .ne 6, 3) := by decide +kernel
theorem dX5_frank_112 : decode cX5_frank 112 = .ok (.bipush (-7), 2) := by decide +kernel
theorem dX5_frank_114 : decode cX5_frank 114 = .ok (.ireturn, 1) := by decide +kernel
theorem dX5_frank_115 : decode cX5_frank 115 = .ok (.aload_n 0, 1) := by decide +kernel
theorem dX5_frank_116 : decode cX5_frank 116 = .ok (.dup, 1) := by decide +kernel
theorem dX5_frank_117 : decode cX5_frank 117 = .ok (.getfield 131, 3) := by decide +kernel
theorem dX5_frank_120 : decode cX5_frank 120 = .ok (.iconst 1, 1) := by decide +kernel
theorem dX5_frank_121 : decode cX5_frank 121 = .ok (.iadd, 1) := by decide +kernel
theorem dX5_frank_122 : decode cX5_frank 122 = .ok (.putfield 131, 3) := by decide +kernel
theorem dX5_frank_125 : decode cX5_frank 125 = .ok (.aload_n 0, 1) := by decide +kernel
theorem dX5_frank_126 : decode cX5_frank 126 = .ok (.aload_n 0, 1) := by decide +kernel
theorem dX5_frank_127 : decode cX5_frank 127 = .ok (.getfield 134, 3) := by decide +kernel
theorem dX5_frank_130 : decode cX5_frank 130 = .ok (.iload_n 2, 1) := by decide +kernel
theorem dX5_frank_131 : decode cX5_frank 131 = .ok (.i2l, 1) := by decide +kernel
theorem dX5_frank_132 : decode cX5_frank 132 = .ok (.ladd, 1) := by decide +kernel
theorem dX5_frank_133 : decode cX5_frank 133 = .ok (.putfield 134, 3) := by decide +kernel
theorem dX5_frank_136 : decode cX5_frank 136 = .ok (.aload_n 0, 1) := by decide +kernel
theorem dX5_frank_137 : decode cX5_frank 137 = .ok (.iconst 2, 1) := by decide +kernel
theorem dX5_frank_138 : decode cX5_frank 138 = .ok (.iconst 0, 1) := by decide +kernel
theorem dX5_frank_139 : decode cX5_frank 139 = .ok (.iconst 0, 1) := by decide +kernel
theorem dX5_frank_140 : decode cX5_frank 140 = .ok (.invokevirtual 116, 3) := by decide +kernel
theorem dX5_frank_143 : decode cX5_frank 143 = .ok (.ifCond .eq 7, 3) := by decide +kernel
theorem dX5_frank_146 : decode cX5_frank 146 = .ok (.iconst 1, 1) := by decide +kernel
theorem dX5_frank_147 : decode cX5_frank 147 = .ok (.goto 5, 3) := by decide +kernel
theorem dX5_frank_150 : decode cX5_frank 150 = .ok (.bipush (-7), 2) := by decide +kernel
theorem dX5_frank_152 : decode cX5_frank 152 = .ok (.ireturn, 1) := by decide +kernel
theorem dX5_printed_0 : decode cX5_printed 0 = .ok (.aload_n 0, 1) := by decide +kernel
theorem dX5_printed_1 : decode cX5_printed 1 = .ok (.iconst 0, 1) := by decide +kernel
theorem dX5_printed_2 : decode cX5_printed 2 = .ok (.putfield 47, 3) := by decide +kernel
theorem dX5_printed_5 : decode cX5_printed 5 = .ok (.iload_n 1, 1) := by decide +kernel
theorem dX5_printed_6 : decode cX5_printed 6 = .ok (.ifCond .ne 11, 3) := by decide +kernel
theorem dX5_printed_9 : decode cX5_printed 9 = .ok (.aload_n 0, 1) := by decide +kernel
theorem dX5_printed_10 : decode cX5_printed 10 = .ok (.getfield 131, 3) := by decide +kernel
theorem dX5_printed_13 : decode cX5_printed 13 = .ok (.i2l, 1) := by decide +kernel
theorem dX5_printed_14 : decode cX5_printed 14 = .ok (.goto 18, 3) := by decide +kernel
theorem dX5_printed_17 : decode cX5_printed 17 = .ok (.iload_n 1, 1) := by decide +kernel
theorem dX5_printed_18 : decode cX5_printed 18 = .ok (.iconst 1, 1) := by decide +kernel
theorem dX5_printed_19 : decode cX5_printed 19 = .ok (.if_icmp .ne 10, 3) := by decide +kernel
theorem dX5_printed_22 : decode cX5_printed 22 = .ok (.aload_n 0, 1) := by decide +kernel
theorem dX5_printed_23 : decode cX5_printed 23 = .ok (.getfield 134, 3) := by decide +kernel
theorem dX5_printed_26 : decode cX5_printed 26 = .ok (.goto 6, 3) := by decide +kernel
theorem dX5_printed_29 : decode cX5_printed 29 = .ok (.ldc2_w 138, 3) := by decide +kernel
theorem dX5_printed_32 : decode cX5_printed 32 = .ok (.lreturn, 1) := by decide +kernel
theorem dX5_code_0 : decode cX5_code 0 = .ok (.aload_n 0, 1) := by decide +kernel
theorem dX5_code_1 : decode cX5_code 1 = .ok (.getfield 37, 3) := by decide +kernel
theorem dX5_code_4 : decode cX5_code 4 = .ok (.i2l, 1) := by decide +kernel
theorem dX5_code_5 : decode cX5_code 5 = .ok (.ldc2_w 140, 3) := by decide +kernel
theorem dX5_code_8 : decode cX5_code 8 = .ok (.lmul, 1) := by decide +kernel
theorem dX5_code_9 : decode cX5_code 9 = .ok (.iload_n 1, 1) := by decide +kernel
theorem dX5_code_10 : decode cX5_code 10 = .ok (.i2l, 1) := by decide +kernel
theorem dX5_code_11 : decode cX5_code 11 = .ok (.ladd, 1) := by decide +kernel
theorem dX5_code_12 : decode cX5_code 12 = .ok (.ldc2_w 142, 3) := by decide +kernel
theorem dX5_code_15 : decode cX5_code 15 = .ok (.lmul, 1) := by decide +kernel
theorem dX5_code_16 : decode cX5_code 16 = .ok (.iload_n 2, 1) := by decide +kernel
theorem dX5_code_17 : decode cX5_code 17 = .ok (.i2l, 1) := by decide +kernel
theorem dX5_code_18 : decode cX5_code 18 = .ok (.ldc2_w 144, 3) := by decide +kernel
theorem dX5_code_21 : decode cX5_code 21 = .ok (.lmul, 1) := by decide +kernel
theorem dX5_code_22 : decode cX5_code 22 = .ok (.ladd, 1) := by decide +kernel
theorem dX5_code_23 : decode cX5_code 23 = .ok (.lstore_n 3, 1) := by decide +kernel
theorem dX5_code_24 : decode cX5_code 24 = .ok (.lload_n 3, 1) := by decide +kernel
theorem dX5_code_25 : decode cX5_code 25 = .ok (.ldc2_w 146, 3) := by decide +kernel
theorem dX5_code_28 : decode cX5_code 28 = .ok (.lrem, 1) := by decide +kernel
theorem dX5_code_29 : decode cX5_code 29 = .ok (.l2i, 1) := by decide +kernel
theorem dX5_code_30 : decode cX5_code 30 = .ok (.ireturn, 1) := by decide +kernel
theorem dX5_refill_0 : decode cX5_refill 0 = .ok (.aload_n 0, 1) := by decide +kernel
theorem dX5_refill_1 : decode cX5_refill 1 = .ok (.iconst 0, 1) := by decide +kernel
theorem dX5_refill_2 : decode cX5_refill 2 = .ok (.putfield 47, 3) := by decide +kernel
theorem dX5_refill_5 : decode cX5_refill 5 = .ok (.aload_n 0, 1) := by decide +kernel
theorem dX5_refill_6 : decode cX5_refill 6 = .ok (.getfield 28, 3) := by decide +kernel
theorem dX5_refill_9 : decode cX5_refill 9 = .ok (.ifCond .ne 6, 3) := by decide +kernel
theorem dX5_refill_12 : decode cX5_refill 12 = .ok (.bipush (-7), 2) := by decide +kernel
theorem dX5_refill_14 : decode cX5_refill 14 = .ok (.ireturn, 1) := by decide +kernel
theorem dX5_refill_15 : decode cX5_refill 15 = .ok (.iload_n 1, 1) := by decide +kernel
theorem dX5_refill_16 : decode cX5_refill 16 = .ok (.invokestatic 128, 3) := by decide +kernel
theorem dX5_refill_19 : decode cX5_refill 19 = .ok (.ifCond .eq 35, 3) := by decide +kernel
theorem dX5_refill_22 : decode cX5_refill 22 = .ok (.iload_n 2, 1) := by decide +kernel
theorem dX5_refill_23 : decode cX5_refill 23 = .ok (.aload_n 0, 1) := by decide +kernel
theorem dX5_refill_24 : decode cX5_refill 24 = .ok (.aload_n 0, 1) := by decide +kernel
theorem dX5_refill_25 : decode cX5_refill 25 = .ok (.getfield 16, 3) := by decide +kernel
theorem dX5_refill_28 : decode cX5_refill 28 = .ok (.bipush 12, 2) := by decide +kernel
theorem dX5_refill_30 : decode cX5_refill 30 = .ok (.iaload, 1) := by decide +kernel
theorem dX5_refill_31 : decode cX5_refill 31 = .ok (.iload_n 1, 1) := by decide +kernel
theorem dX5_refill_32 : decode cX5_refill 32 = .ok (.invokevirtual 148, 3) := by decide +kernel
theorem dX5_refill_35 : decode cX5_refill 35 = .ok (.if_icmp .ne 19, 3) := by decide +kernel
theorem dX5_refill_38 : decode cX5_refill 38 = .ok (.aload_n 0, 1) := by decide +kernel
theorem dX5_refill_39 : decode cX5_refill 39 = .ok (.bipush 6, 2) := by decide +kernel
theorem dX5_refill_41 : decode cX5_refill 41 = .ok (.invokevirtual 91, 3) := by decide +kernel
theorem dX5_refill_44 : decode cX5_refill 44 = .ok (.iload_n 1, 1) := by decide +kernel
theorem dX5_refill_45 : decode cX5_refill 45 = .ok (.i2l, 1) := by decide +kernel
theorem dX5_refill_46 : decode cX5_refill 46 = .ok (.ladd, 1) := by decide +kernel
theorem dX5_refill_47 : decode cX5_refill 47 = .ok (.ldc2_w 152, 3) := by decide +kernel
theorem dX5_refill_50 : decode cX5_refill 50 = .ok (.lcmp, 1) := by decide +kernel
theorem dX5_refill_51 : decode cX5_refill 51 = .ok (.ifCond .lt 5, 3) := by decide +kernel
theorem dX5_refill_54 : decode cX5_refill 54 = .ok (.iconst 0, 1) := by decide +kernel
theorem dX5_refill_55 : decode cX5_refill 55 = .ok (.ireturn, 1) := by decide +kernel
theorem dX5_refill_56 : decode cX5_refill 56 = .ok (.aload_n 0, 1) := by decide +kernel
theorem dX5_refill_57 : decode cX5_refill 57 = .ok (.iconst 4, 1) := by decide +kernel
theorem dX5_refill_58 : decode cX5_refill 58 = .ok (.iload_n 1, 1) := by decide +kernel
theorem dX5_refill_59 : decode cX5_refill 59 = .ok (.iconst 0, 1) := by decide +kernel
theorem dX5_refill_60 : decode cX5_refill 60 = .ok (.invokevirtual 116, 3) := by decide +kernel
theorem dX5_refill_63 : decode cX5_refill 63 = .ok (.ifCond .eq 7, 3) := by decide +kernel
theorem dX5_refill_66 : decode cX5_refill 66 = .ok (.iconst 1, 1) := by decide +kernel
theorem dX5_refill_67 : decode cX5_refill 67 = .ok (.goto 5, 3) := by decide +kernel
theorem dX5_refill_70 : decode cX5_refill 70 = .ok (.bipush (-7), 2) := by decide +kernel
theorem dX5_refill_72 : decode cX5_refill 72 = .ok (.ireturn, 1) := by decide +kernel
theorem dX5_codeFor_0 : decode cX5_codeFor 0 = .ok (.aload_n 0, 1) := by decide +kernel
theorem dX5_codeFor_1 : decode cX5_codeFor 1 = .ok (.iconst 0, 1) := by decide +kernel
theorem dX5_codeFor_2 : decode cX5_codeFor 2 = .ok (.putfield 47, 3) := by decide +kernel
theorem dX5_codeFor_5 : decode cX5_codeFor 5 = .ok (.iload_n 1, 1) := by decide +kernel
theorem dX5_codeFor_6 : decode cX5_codeFor 6 = .ok (.ifCond .lt 7, 3) := by decide +kernel
theorem dX5_codeFor_9 : decode cX5_codeFor 9 = .ok (.iload_n 2, 1) := by decide +kernel
theorem dX5_codeFor_10 : decode cX5_codeFor 10 = .ok (.ifCond .ge 7, 3) := by decide +kernel
theorem dX5_codeFor_13 : decode cX5_codeFor 13 = .ok (.iconst (-1), 1) := by decide +kernel
theorem dX5_codeFor_14 : decode cX5_codeFor 14 = .ok (.goto 9, 3) := by decide +kernel
theorem dX5_codeFor_17 : decode cX5_codeFor 17 = .ok (.aload_n 0, 1) := by decide +kernel
theorem dX5_codeFor_18 : decode cX5_codeFor 18 = .ok (.iload_n 1, 1) := by decide +kernel
theorem dX5_codeFor_19 : decode cX5_codeFor 19 = .ok (.iload_n 2, 1) := by decide +kernel
theorem dX5_codeFor_20 : decode cX5_codeFor 20 = .ok (.invokevirtual 148, 3) := by decide +kernel
theorem dX5_codeFor_23 : decode cX5_codeFor 23 = .ok (.ireturn, 1) := by decide +kernel
theorem dX5_claimBack_0 : decode cX5_claimBack 0 = .ok (.aload_n 0, 1) := by decide +kernel
theorem dX5_claimBack_1 : decode cX5_claimBack 1 = .ok (.iconst 0, 1) := by decide +kernel
theorem dX5_claimBack_2 : decode cX5_claimBack 2 = .ok (.putfield 47, 3) := by decide +kernel
theorem dX5_claimBack_5 : decode cX5_claimBack 5 = .ok (.aload_n 0, 1) := by decide +kernel
theorem dX5_claimBack_6 : decode cX5_claimBack 6 = .ok (.getfield 28, 3) := by decide +kernel
theorem dX5_claimBack_9 : decode cX5_claimBack 9 = .ok (.ifCond .ne 6, 3) := by decide +kernel
theorem dX5_claimBack_12 : decode cX5_claimBack 12 = .ok (.bipush (-7), 2) := by decide +kernel
theorem dX5_claimBack_14 : decode cX5_claimBack 14 = .ok (.ireturn, 1) := by decide +kernel
theorem dX5_claimBack_15 : decode cX5_claimBack 15 = .ok (.aload_n 0, 1) := by decide +kernel
theorem dX5_claimBack_16 : decode cX5_claimBack 16 = .ok (.getfield 16, 3) := by decide +kernel
theorem dX5_claimBack_19 : decode cX5_claimBack 19 = .ok (.bipush 11, 2) := by decide +kernel
theorem dX5_claimBack_21 : decode cX5_claimBack 21 = .ok (.iaload, 1) := by decide +kernel
theorem dX5_claimBack_22 : decode cX5_claimBack 22 = .ok (.iconst 1, 1) := by decide +kernel
theorem dX5_claimBack_23 : decode cX5_claimBack 23 = .ok (.iadd, 1) := by decide +kernel
theorem dX5_claimBack_24 : decode cX5_claimBack 24 = .ok (.aload_n 0, 1) := by decide +kernel
theorem dX5_claimBack_25 : decode cX5_claimBack 25 = .ok (.getfield 16, 3) := by decide +kernel
theorem dX5_claimBack_28 : decode cX5_claimBack 28 = .ok (.bipush 10, 2) := by decide +kernel
theorem dX5_claimBack_30 : decode cX5_claimBack 30 = .ok (.iaload, 1) := by decide +kernel
theorem dX5_claimBack_31 : decode cX5_claimBack 31 = .ok (.bipush 100, 2) := by decide +kernel
theorem dX5_claimBack_33 : decode cX5_claimBack 33 = .ok (.idiv, 1) := by decide +kernel
theorem dX5_claimBack_34 : decode cX5_claimBack 34 = .ok (.if_icmp .le 7, 3) := by decide +kernel
theorem dX5_claimBack_37 : decode cX5_claimBack 37 = .ok (.iconst 1, 1) := by decide +kernel
theorem dX5_claimBack_38 : decode cX5_claimBack 38 = .ok (.goto 4, 3) := by decide +kernel
theorem dX5_claimBack_41 : decode cX5_claimBack 41 = .ok (.iconst 0, 1) := by decide +kernel
theorem dX5_claimBack_42 : decode cX5_claimBack 42 = .ok (.istore_n 3, 1) := by decide +kernel
theorem dX5_claimBack_43 : decode cX5_claimBack 43 = .ok (.iload_n 3, 1) := by decide +kernel
theorem dX5_claimBack_44 : decode cX5_claimBack 44 = .ok (.ifCond .ne 28, 3) := by decide +kernel
theorem dX5_claimBack_47 : decode cX5_claimBack 47 = .ok (.iload_n 2, 1) := by decide +kernel
theorem dX5_claimBack_48 : decode cX5_claimBack 48 = .ok (.invokestatic 128, 3) := by decide +kernel
theorem dX5_claimBack_51 : decode cX5_claimBack 51 = .ok (.ifCond .eq 21, 3) := by decide +kernel
theorem dX5_claimBack_54 : decode cX5_claimBack 54 = .ok (.iload_n 2, 1) := by decide +kernel
theorem dX5_claimBack_55 : decode cX5_claimBack 55 = .ok (.i2l, 1) := by decide +kernel
theorem dX5_claimBack_56 : decode cX5_claimBack 56 = .ok (.aload_n 0, 1) := by decide +kernel
theorem dX5_claimBack_57 : decode cX5_claimBack 57 = .ok (.iconst 2, 1) := by decide +kernel
theorem dX5_claimBack_58 : decode cX5_claimBack 58 = .ok (.invokevirtual 91, 3) := by decide +kernel
theorem dX5_claimBack_61 : decode cX5_claimBack 61 = .ok (.lcmp, 1) := by decide +kernel
theorem dX5_claimBack_62 : decode cX5_claimBack 62 = .ok (.ifCond .gt 10, 3) := by decide +kernel
theorem dX5_claimBack_65 : decode cX5_claimBack 65 = .ok (.iload_n 1, 1) := by decide +kernel
theorem dX5_claimBack_66 : decode cX5_claimBack 66 = .ok (.invokestatic 123, 3) := by decide +kernel
theorem dX5_claimBack_69 : decode cX5_claimBack 69 = .ok (.ifCond .ne 5, 3) := by decide +kernel
theorem dX5_claimBack_72 : decode cX5_claimBack 72 = .ok (.iconst 0, 1) := by decide +kernel
theorem dX5_claimBack_73 : decode cX5_claimBack 73 = .ok (.ireturn, 1) := by decide +kernel
theorem dX5_claimBack_74 : decode cX5_claimBack 74 = .ok (.aload_n 0, 1) := by decide +kernel
theorem dX5_claimBack_75 : decode cX5_claimBack 75 = .ok (.iconst 5, 1) := by decide +kernel
theorem dX5_claimBack_76 : decode cX5_claimBack 76 = .ok (.iload_n 2, 1) := by decide +kernel
theorem dX5_claimBack_77 : decode cX5_claimBack 77 = .ok (.iload_n 1, 1) := by decide +kernel
theorem dX5_claimBack_78 : decode cX5_claimBack 78 = .ok (.invokevirtual 116, 3) := by decide +kernel
theorem dX5_claimBack_81 : decode cX5_claimBack 81 = .ok (.ifCond .eq 7, 3) := by decide +kernel
theorem dX5_claimBack_84 : decode cX5_claimBack 84 = .ok (.iconst 1, 1) := by decide +kernel
theorem dX5_claimBack_85 : decode cX5_claimBack 85 = .ok (.goto 5, 3) := by decide +kernel
theorem dX5_claimBack_88 : decode cX5_claimBack 88 = .ok (.bipush (-7), 2) := by decide +kernel
theorem dX5_claimBack_90 : decode cX5_claimBack 90 = .ok (.ireturn, 1) := by decide +kernel
theorem dX5_book_0 : decode cX5_book 0 = .ok (.aload_n 0, 1) := by decide +kernel
theorem dX5_book_1 : decode cX5_book 1 = .ok (.iconst 0, 1) := by decide +kernel
theorem dX5_book_2 : decode cX5_book 2 = .ok (.putfield 47, 3) := by decide +kernel
theorem dX5_book_5 : decode cX5_book 5 = .ok (.aload_n 0, 1) := by decide +kernel
theorem dX5_book_6 : decode cX5_book 6 = .ok (.getfield 28, 3) := by decide +kernel
theorem dX5_book_9 : decode cX5_book 9 = .ok (.ifCond .ne 7, 3) := by decide +kernel
theorem dX5_book_12 : decode cX5_book 12 = .ok (.ldc2_w 154, 3) := by decide +kernel
theorem dX5_book_15 : decode cX5_book 15 = .ok (.lreturn, 1) := by decide +kernel
theorem dX5_book_16 : decode cX5_book 16 = .ok (.iload_n 1, 1) := by decide +kernel
theorem dX5_book_17 : decode cX5_book 17 = .ok (.i2l, 1) := by decide +kernel
theorem dX5_book_18 : decode cX5_book 18 = .ok (.lconst 0, 1) := by decide +kernel
theorem dX5_book_19 : decode cX5_book 19 = .ok (.ldc2_w 104, 3) := by decide +kernel
theorem dX5_book_22 : decode cX5_book 22 = .ok (.invokestatic 52, 3) := by decide +kernel
theorem dX5_book_25 : decode cX5_book 25 = .ok (.ifCond .ne 9, 3) := by decide +kernel
theorem dX5_book_28 : decode cX5_book 28 = .ok (.ldc2_w 138, 3) := by decide +kernel
theorem dX5_book_31 : decode cX5_book 31 = .ok (.goto 30, 3) := by decide +kernel
theorem dX5_book_34 : decode cX5_book 34 = .ok (.iload_n 1, 1) := by decide +kernel
theorem dX5_book_35 : decode cX5_book 35 = .ok (.iconst 4, 1) := by decide +kernel
theorem dX5_book_36 : decode cX5_book 36 = .ok (.if_icmp .ge 15, 3) := by decide +kernel
theorem dX5_book_39 : decode cX5_book 39 = .ok (.aload_n 0, 1) := by decide +kernel
theorem dX5_book_40 : decode cX5_book 40 = .ok (.iconst 2, 1) := by decide +kernel
theorem dX5_book_41 : decode cX5_book 41 = .ok (.iconst 2, 1) := by decide +kernel
theorem dX5_book_42 : decode cX5_book 42 = .ok (.iload_n 1, 1) := by decide +kernel
theorem dX5_book_43 : decode cX5_book 43 = .ok (.imul, 1) := by decide +kernel
theorem dX5_book_44 : decode cX5_book 44 = .ok (.iadd, 1) := by decide +kernel
theorem dX5_book_45 : decode cX5_book 45 = .ok (.invokevirtual 91, 3) := by decide +kernel
theorem dX5_book_48 : decode cX5_book 48 = .ok (.goto 13, 3) := by decide +kernel
theorem dX5_book_51 : decode cX5_book 51 = .ok (.aload_n 0, 1) := by decide +kernel
theorem dX5_book_52 : decode cX5_book 52 = .ok (.getfield 16, 3) := by decide +kernel
theorem dX5_book_55 : decode cX5_book 55 = .ok (.bipush 6, 2) := by decide +kernel
theorem dX5_book_57 : decode cX5_book 57 = .ok (.iload_n 1, 1) := by decide +kernel
theorem dX5_book_58 : decode cX5_book 58 = .ok (.iadd, 1) := by decide +kernel
theorem dX5_book_59 : decode cX5_book 59 = .ok (.iaload, 1) := by decide +kernel
theorem dX5_book_60 : decode cX5_book 60 = .ok (.i2l, 1) := by decide +kernel
theorem dX5_book_61 : decode cX5_book 61 = .ok (.lreturn, 1) := by decide +kernel
theorem dX5_counter_0 : decode cX5_counter 0 = .ok (.aload_n 0, 1) := by decide +kernel
theorem dX5_counter_1 : decode cX5_counter 1 = .ok (.iconst 0, 1) := by decide +kernel
theorem dX5_counter_2 : decode cX5_counter 2 = .ok (.putfield 47, 3) := by decide +kernel
theorem dX5_counter_5 : decode cX5_counter 5 = .ok (.aload_n 0, 1) := by decide +kernel
theorem dX5_counter_6 : decode cX5_counter 6 = .ok (.getfield 28, 3) := by decide +kernel
theorem dX5_counter_9 : decode cX5_counter 9 = .ok (.ifCond .ne 7, 3) := by decide +kernel
theorem dX5_counter_12 : decode cX5_counter 12 = .ok (.ldc2_w 154, 3) := by decide +kernel
theorem dX5_counter_15 : decode cX5_counter 15 = .ok (.lreturn, 1) := by decide +kernel
theorem dX5_counter_16 : decode cX5_counter 16 = .ok (.iload_n 1, 1) := by decide +kernel
theorem dX5_counter_17 : decode cX5_counter 17 = .ok (.i2l, 1) := by decide +kernel
theorem dX5_counter_18 : decode cX5_counter 18 = .ok (.lconst 0, 1) := by decide +kernel
theorem dX5_counter_19 : decode cX5_counter 19 = .ok (.ldc2_w 126, 3) := by decide +kernel
theorem dX5_counter_22 : decode cX5_counter 22 = .ok (.invokestatic 52, 3) := by decide +kernel
theorem dX5_counter_25 : decode cX5_counter 25 = .ok (.ifCond .eq 13, 3) := by decide +kernel
theorem dX5_counter_28 : decode cX5_counter 28 = .ok (.iload_n 2, 1) := by decide +kernel
theorem dX5_counter_29 : decode cX5_counter 29 = .ok (.i2l, 1) := by decide +kernel
theorem dX5_counter_30 : decode cX5_counter 30 = .ok (.lconst 0, 1) := by decide +kernel
theorem dX5_counter_31 : decode cX5_counter 31 = .ok (.lconst 1, 1) := by decide +kernel
theorem dX5_counter_32 : decode cX5_counter 32 = .ok (.invokestatic 52, 3) := by decide +kernel
theorem dX5_counter_35 : decode cX5_counter 35 = .ok (.ifCond .ne 7, 3) := by decide +kernel
theorem dX5_counter_38 : decode cX5_counter 38 = .ok (.ldc2_w 138, 3) := by decide +kernel
theorem dX5_counter_41 : decode cX5_counter 41 = .ok (.lreturn, 1) := by decide +kernel
theorem dX5_counter_42 : decode cX5_counter 42 = .ok (.bipush 17, 2) := by decide +kernel
theorem dX5_counter_44 : decode cX5_counter 44 = .ok (.iconst 3, 1) := by decide +kernel
theorem dX5_counter_45 : decode cX5_counter 45 = .ok (.iload_n 1, 1) := by decide +kernel
theorem dX5_counter_46 : decode cX5_counter 46 = .ok (.imul, 1) := by decide +kernel
theorem dX5_counter_47 : decode cX5_counter 47 = .ok (.iadd, 1) := by decide +kernel
theorem dX5_counter_48 : decode cX5_counter 48 = .ok (.istore_n 3, 1) := by decide +kernel
theorem dX5_counter_49 : decode cX5_counter 49 = .ok (.iload_n 2, 1) := by decide +kernel
theorem dX5_counter_50 : decode cX5_counter 50 = .ok (.ifCond .ne 13, 3) := by decide +kernel
theorem dX5_counter_53 : decode cX5_counter 53 = .ok (.aload_n 0, 1) := by decide +kernel
theorem dX5_counter_54 : decode cX5_counter 54 = .ok (.getfield 16, 3) := by decide +kernel
theorem dX5_counter_57 : decode cX5_counter 57 = .ok (.iload_n 3, 1) := by decide +kernel
theorem dX5_counter_58 : decode cX5_counter 58 = .ok (.iaload, 1) := by decide +kernel
theorem dX5_counter_59 : decode cX5_counter 59 = .ok (.i2l, 1) := by decide +kernel
theorem dX5_counter_60 : decode cX5_counter 60 = .ok (.goto 10, 3) := by decide +kernel
theorem dX5_counter_63 : decode cX5_counter 63 = .ok (.aload_n 0, 1) := by decide +kernel
theorem dX5_counter_64 : decode cX5_counter 64 = .ok (.iload_n 3, 1) := by decide +kernel
theorem dX5_counter_65 : decode cX5_counter 65 = .ok (.iconst 1, 1) := by decide +kernel
theorem dX5_counter_66 : decode cX5_counter 66 = .ok (.iadd, 1) := by decide +kernel
theorem dX5_counter_67 : decode cX5_counter 67 = .ok (.invokevirtual 91, 3) := by decide +kernel
theorem dX5_counter_70 : decode cX5_counter 70 = .ok (.lreturn, 1) := by decide +kernel
theorem dX5_dayTotal_0 : decode cX5_dayTotal 0 = .ok (.aload_n 0, 1) := by decide +kernel
theorem dX5_dayTotal_1 : decode cX5_dayTotal 1 = .ok (.iconst 0, 1) := by decide +kernel
theorem dX5_dayTotal_2 : decode cX5_dayTotal 2 = .ok (.putfield 47, 3) := by decide +kernel
theorem dX5_dayTotal_5 : decode cX5_dayTotal 5 = .ok (.aload_n 0, 1) := by decide +kernel
theorem dX5_dayTotal_6 : decode cX5_dayTotal 6 = .ok (.getfield 28, 3) := by decide +kernel
theorem dX5_dayTotal_9 : decode cX5_dayTotal 9 = .ok (.ifCond .ne 7, 3) := by decide +kernel
theorem dX5_dayTotal_12 : decode cX5_dayTotal 12 = .ok (.ldc2_w 154, 3) := by decide +kernel
theorem dX5_dayTotal_15 : decode cX5_dayTotal 15 = .ok (.lreturn, 1) := by decide +kernel
theorem dX5_dayTotal_16 : decode cX5_dayTotal 16 = .ok (.iload_n 1, 1) := by decide +kernel
theorem dX5_dayTotal_17 : decode cX5_dayTotal 17 = .ok (.invokestatic 123, 3) := by decide +kernel
theorem dX5_dayTotal_20 : decode cX5_dayTotal 20 = .ok (.ifCond .eq 13, 3) := by decide +kernel
theorem dX5_dayTotal_23 : decode cX5_dayTotal 23 = .ok (.iload_n 2, 1) := by decide +kernel
theorem dX5_dayTotal_24 : decode cX5_dayTotal 24 = .ok (.i2l, 1) := by decide +kernel
theorem dX5_dayTotal_25 : decode cX5_dayTotal 25 = .ok (.lconst 0, 1) := by decide +kernel
theorem dX5_dayTotal_26 : decode cX5_dayTotal 26 = .ok (.lconst 1, 1) := by decide +kernel
theorem dX5_dayTotal_27 : decode cX5_dayTotal 27 = .ok (.invokestatic 52, 3) := by decide +kernel
theorem dX5_dayTotal_30 : decode cX5_dayTotal 30 = .ok (.ifCond .ne 7, 3) := by decide +kernel
theorem dX5_dayTotal_33 : decode cX5_dayTotal 33 = .ok (.ldc2_w 138, 3) := by decide +kernel
theorem dX5_dayTotal_36 : decode cX5_dayTotal 36 = .ok (.lreturn, 1) := by decide +kernel
theorem dX5_dayTotal_37 : decode cX5_dayTotal 37 = .ok (.bipush 65, 2) := by decide +kernel
theorem dX5_dayTotal_39 : decode cX5_dayTotal 39 = .ok (.iconst 4, 1) := by decide +kernel
theorem dX5_dayTotal_40 : decode cX5_dayTotal 40 = .ok (.iload_n 1, 1) := by decide +kernel
theorem dX5_dayTotal_41 : decode cX5_dayTotal 41 = .ok (.bipush 32, 2) := by decide +kernel
theorem dX5_dayTotal_43 : decode cX5_dayTotal 43 = .ok (.irem, 1) := by decide +kernel
theorem dX5_dayTotal_44 : decode cX5_dayTotal 44 = .ok (.imul, 1) := by decide +kernel
theorem dX5_dayTotal_45 : decode cX5_dayTotal 45 = .ok (.iadd, 1) := by decide +kernel
theorem dX5_dayTotal_46 : decode cX5_dayTotal 46 = .ok (.istore_n 3, 1) := by decide +kernel
theorem dX5_dayTotal_47 : decode cX5_dayTotal 47 = .ok (.aload_n 0, 1) := by decide +kernel
theorem dX5_dayTotal_48 : decode cX5_dayTotal 48 = .ok (.getfield 16, 3) := by decide +kernel
theorem dX5_dayTotal_51 : decode cX5_dayTotal 51 = .ok (.iload_n 3, 1) := by decide +kernel
theorem dX5_dayTotal_52 : decode cX5_dayTotal 52 = .ok (.iaload, 1) := by decide +kernel
theorem dX5_dayTotal_53 : decode cX5_dayTotal 53 = .ok (.iload_n 1, 1) := by decide +kernel
theorem dX5_dayTotal_54 : decode cX5_dayTotal 54 = .ok (.if_icmp .eq 7, 3) := by decide +kernel
theorem dX5_dayTotal_57 : decode cX5_dayTotal 57 = .ok (.lconst 0, 1) := by decide +kernel
theorem dX5_dayTotal_58 : decode cX5_dayTotal 58 = .ok (.goto 26, 3) := by decide +kernel
theorem dX5_dayTotal_61 : decode cX5_dayTotal 61 = .ok (.iload_n 2, 1) := by decide +kernel
theorem dX5_dayTotal_62 : decode cX5_dayTotal 62 = .ok (.ifCond .ne 15, 3) := by decide +kernel
theorem dX5_dayTotal_65 : decode cX5_dayTotal 65 = .ok (.aload_n 0, 1) := by decide +kernel
theorem dX5_dayTotal_66 : decode cX5_dayTotal 66 = .ok (.getfield 16, 3) := by decide +kernel
theorem dX5_dayTotal_69 : decode cX5_dayTotal 69 = .ok (.iload_n 3, 1) := by decide +kernel
theorem dX5_dayTotal_70 : decode cX5_dayTotal 70 = .ok (.iconst 1, 1) := by decide +kernel
theorem dX5_dayTotal_71 : decode cX5_dayTotal 71 = .ok (.iadd, 1) := by decide +kernel
theorem dX5_dayTotal_72 : decode cX5_dayTotal 72 = .ok (.iaload, 1) := by decide +kernel
theorem dX5_dayTotal_73 : decode cX5_dayTotal 73 = .ok (.i2l, 1) := by decide +kernel
theorem dX5_dayTotal_74 : decode cX5_dayTotal 74 = .ok (.goto 10, 3) := by decide +kernel
theorem dX5_dayTotal_77 : decode cX5_dayTotal 77 = .ok (.aload_n 0, 1) := by decide +kernel
theorem dX5_dayTotal_78 : decode cX5_dayTotal 78 = .ok (.iload_n 3, 1) := by decide +kernel
theorem dX5_dayTotal_79 : decode cX5_dayTotal 79 = .ok (.iconst 2, 1) := by decide +kernel
theorem dX5_dayTotal_80 : decode cX5_dayTotal 80 = .ok (.iadd, 1) := by decide +kernel
theorem dX5_dayTotal_81 : decode cX5_dayTotal 81 = .ok (.invokevirtual 91, 3) := by decide +kernel
theorem dX5_dayTotal_84 : decode cX5_dayTotal 84 = .ok (.lreturn, 1) := by decide +kernel
theorem dX5_inspect_0 : decode cX5_inspect 0 = .ok (.aload_n 0, 1) := by decide +kernel
theorem dX5_inspect_1 : decode cX5_inspect 1 = .ok (.iconst 0, 1) := by decide +kernel
theorem dX5_inspect_2 : decode cX5_inspect 2 = .ok (.putfield 47, 3) := by decide +kernel
theorem dX5_inspect_5 : decode cX5_inspect 5 = .ok (.aload_n 0, 1) := by decide +kernel
theorem dX5_inspect_6 : decode cX5_inspect 6 = .ok (.getfield 28, 3) := by decide +kernel
theorem dX5_inspect_9 : decode cX5_inspect 9 = .ok (.ifCond .ne 6, 3) := by decide +kernel
theorem dX5_inspect_12 : decode cX5_inspect 12 = .ok (.bipush (-7), 2) := by decide +kernel
theorem dX5_inspect_14 : decode cX5_inspect 14 = .ok (.ireturn, 1) := by decide +kernel
theorem dX5_inspect_15 : decode cX5_inspect 15 = .ok (.iload_n 1, 1) := by decide +kernel
theorem dX5_inspect_16 : decode cX5_inspect 16 = .ok (.invokestatic 123, 3) := by decide +kernel
theorem dX5_inspect_19 : decode cX5_inspect 19 = .ok (.ifCond .eq 14, 3) := by decide +kernel
theorem dX5_inspect_22 : decode cX5_inspect 22 = .ok (.iload_n 1, 1) := by decide +kernel
theorem dX5_inspect_23 : decode cX5_inspect 23 = .ok (.aload_n 0, 1) := by decide +kernel
theorem dX5_inspect_24 : decode cX5_inspect 24 = .ok (.getfield 16, 3) := by decide +kernel
theorem dX5_inspect_27 : decode cX5_inspect 27 = .ok (.bipush 14, 2) := by decide +kernel
theorem dX5_inspect_29 : decode cX5_inspect 29 = .ok (.iaload, 1) := by decide +kernel
theorem dX5_inspect_30 : decode cX5_inspect 30 = .ok (.if_icmp .ge 5, 3) := by decide +kernel
theorem dX5_inspect_33 : decode cX5_inspect 33 = .ok (.iconst 0, 1) := by decide +kernel
theorem dX5_inspect_34 : decode cX5_inspect 34 = .ok (.ireturn, 1) := by decide +kernel
theorem dX5_inspect_35 : decode cX5_inspect 35 = .ok (.aload_n 0, 1) := by decide +kernel
theorem dX5_inspect_36 : decode cX5_inspect 36 = .ok (.bipush 6, 2) := by decide +kernel
theorem dX5_inspect_38 : decode cX5_inspect 38 = .ok (.iload_n 1, 1) := by decide +kernel
theorem dX5_inspect_39 : decode cX5_inspect 39 = .ok (.iconst 0, 1) := by decide +kernel
theorem dX5_inspect_40 : decode cX5_inspect 40 = .ok (.invokevirtual 116, 3) := by decide +kernel
theorem dX5_inspect_43 : decode cX5_inspect 43 = .ok (.ifCond .eq 7, 3) := by decide +kernel
theorem dX5_inspect_46 : decode cX5_inspect 46 = .ok (.iconst 1, 1) := by decide +kernel
theorem dX5_inspect_47 : decode cX5_inspect 47 = .ok (.goto 5, 3) := by decide +kernel
theorem dX5_inspect_50 : decode cX5_inspect 50 = .ok (.bipush (-7), 2) := by decide +kernel
theorem dX5_inspect_52 : decode cX5_inspect 52 = .ok (.ireturn, 1) := by decide +kernel
theorem dX5_lock_0 : decode cX5_lock 0 = .ok (.aload_n 0, 1) := by decide +kernel
theorem dX5_lock_1 : decode cX5_lock 1 = .ok (.iconst 0, 1) := by decide +kernel
theorem dX5_lock_2 : decode cX5_lock 2 = .ok (.putfield 47, 3) := by decide +kernel
theorem dX5_lock_5 : decode cX5_lock 5 = .ok (.aload_n 0, 1) := by decide +kernel
theorem dX5_lock_6 : decode cX5_lock 6 = .ok (.getfield 28, 3) := by decide +kernel
theorem dX5_lock_9 : decode cX5_lock 9 = .ok (.ifCond .ne 6, 3) := by decide +kernel
theorem dX5_lock_12 : decode cX5_lock 12 = .ok (.bipush (-7), 2) := by decide +kernel
theorem dX5_lock_14 : decode cX5_lock 14 = .ok (.ireturn, 1) := by decide +kernel
theorem dX5_lock_15 : decode cX5_lock 15 = .ok (.aload_n 0, 1) := by decide +kernel
theorem dX5_lock_16 : decode cX5_lock 16 = .ok (.getfield 16, 3) := by decide +kernel
theorem dX5_lock_19 : decode cX5_lock 19 = .ok (.bipush 13, 2) := by decide +kernel
theorem dX5_lock_21 : decode cX5_lock 21 = .ok (.iaload, 1) := by decide +kernel
theorem dX5_lock_22 : decode cX5_lock 22 = .ok (.iconst 1, 1) := by decide +kernel
theorem dX5_lock_23 : decode cX5_lock 23 = .ok (.if_icmp .ne 5, 3) := by decide +kernel
theorem dX5_lock_26 : decode cX5_lock 26 = .ok (.iconst 0, 1) := by decide +kernel
theorem dX5_lock_27 : decode cX5_lock 27 = .ok (.ireturn, 1) := by decide +kernel
theorem dX5_lock_28 : decode cX5_lock 28 = .ok (.aload_n 0, 1) := by decide +kernel
theorem dX5_lock_29 : decode cX5_lock 29 = .ok (.bipush 7, 2) := by decide +kernel
theorem dX5_lock_31 : decode cX5_lock 31 = .ok (.iconst 0, 1) := by decide +kernel
theorem dX5_lock_32 : decode cX5_lock 32 = .ok (.iconst 0, 1) := by decide +kernel
theorem dX5_lock_33 : decode cX5_lock 33 = .ok (.invokevirtual 116, 3) := by decide +kernel
theorem dX5_lock_36 : decode cX5_lock 36 = .ok (.ifCond .eq 7, 3) := by decide +kernel
theorem dX5_lock_39 : decode cX5_lock 39 = .ok (.iconst 1, 1) := by decide +kernel
theorem dX5_lock_40 : decode cX5_lock 40 = .ok (.goto 5, 3) := by decide +kernel
theorem dX5_lock_43 : decode cX5_lock 43 = .ok (.bipush (-7), 2) := by decide +kernel
theorem dX5_lock_45 : decode cX5_lock 45 = .ok (.ireturn, 1) := by decide +kernel
theorem dX5_unlock_0 : decode cX5_unlock 0 = .ok (.aload_n 0, 1) := by decide +kernel
theorem dX5_unlock_1 : decode cX5_unlock 1 = .ok (.iconst 0, 1) := by decide +kernel
theorem dX5_unlock_2 : decode cX5_unlock 2 = .ok (.putfield 47, 3) := by decide +kernel
theorem dX5_unlock_5 : decode cX5_unlock 5 = .ok (.aload_n 0, 1) := by decide +kernel
theorem dX5_unlock_6 : decode cX5_unlock 6 = .ok (.getfield 28, 3) := by decide +kernel
theorem dX5_unlock_9 : decode cX5_unlock 9 = .ok (.ifCond .ne 6, 3) := by decide +kernel
theorem dX5_unlock_12 : decode cX5_unlock 12 = .ok (.bipush (-7), 2) := by decide +kernel
theorem dX5_unlock_14 : decode cX5_unlock 14 = .ok (.ireturn, 1) := by decide +kernel
theorem dX5_unlock_15 : decode cX5_unlock 15 = .ok (.aload_n 0, 1) := by decide +kernel
theorem dX5_unlock_16 : decode cX5_unlock 16 = .ok (.getfield 16, 3) := by decide +kernel
theorem dX5_unlock_19 : decode cX5_unlock 19 = .ok (.bipush 13, 2) := by decide +kernel
theorem dX5_unlock_21 : decode cX5_unlock 21 = .ok (.iaload, 1) := by decide +kernel
theorem dX5_unlock_22 : decode cX5_unlock 22 = .ok (.ifCond .eq 19, 3) := by decide +kernel
theorem dX5_unlock_25 : decode cX5_unlock 25 = .ok (.iload_n 1, 1) := by decide +kernel
theorem dX5_unlock_26 : decode cX5_unlock 26 = .ok (.aload_n 0, 1) := by decide +kernel
theorem dX5_unlock_27 : decode cX5_unlock 27 = .ok (.aload_n 0, 1) := by decide +kernel
theorem dX5_unlock_28 : decode cX5_unlock 28 = .ok (.getfield 16, 3) := by decide +kernel
theorem dX5_unlock_31 : decode cX5_unlock 31 = .ok (.bipush 12, 2) := by decide +kernel
theorem dX5_unlock_33 : decode cX5_unlock 33 = .ok (.iaload, 1) := by decide +kernel
theorem dX5_unlock_34 : decode cX5_unlock 34 = .ok (.iconst 0, 1) := by decide +kernel
theorem dX5_unlock_35 : decode cX5_unlock 35 = .ok (.invokevirtual 148, 3) := by decide +kernel
theorem dX5_unlock_38 : decode cX5_unlock 38 = .ok (.if_icmp .eq 5, 3) := by decide +kernel
theorem dX5_unlock_41 : decode cX5_unlock 41 = .ok (.iconst 0, 1) := by decide +kernel
theorem dX5_unlock_42 : decode cX5_unlock 42 = .ok (.ireturn, 1) := by decide +kernel
theorem dX5_unlock_43 : decode cX5_unlock 43 = .ok (.aload_n 0, 1) := by decide +kernel
theorem dX5_unlock_44 : decode cX5_unlock 44 = .ok (.bipush 8, 2) := by decide +kernel
theorem dX5_unlock_46 : decode cX5_unlock 46 = .ok (.iconst 0, 1) := by decide +kernel
theorem dX5_unlock_47 : decode cX5_unlock 47 = .ok (.iconst 0, 1) := by decide +kernel
theorem dX5_unlock_48 : decode cX5_unlock 48 = .ok (.invokevirtual 116, 3) := by decide +kernel
theorem dX5_unlock_51 : decode cX5_unlock 51 = .ok (.ifCond .eq 7, 3) := by decide +kernel
theorem dX5_unlock_54 : decode cX5_unlock 54 = .ok (.iconst 1, 1) := by decide +kernel
theorem dX5_unlock_55 : decode cX5_unlock 55 = .ok (.goto 5, 3) := by decide +kernel
theorem dX5_unlock_58 : decode cX5_unlock 58 = .ok (.bipush (-7), 2) := by decide +kernel
theorem dX5_unlock_60 : decode cX5_unlock 60 = .ok (.ireturn, 1) := by decide +kernel
theorem dX5_cut_0 : decode cX5_cut 0 = .ok (.aload_n 0, 1) := by decide +kernel
theorem dX5_cut_1 : decode cX5_cut 1 = .ok (.iconst 0, 1) := by decide +kernel
theorem dX5_cut_2 : decode cX5_cut 2 = .ok (.putfield 47, 3) := by decide +kernel
theorem dX5_cut_5 : decode cX5_cut 5 = .ok (.iload_n 1, 1) := by decide +kernel
theorem dX5_cut_6 : decode cX5_cut 6 = .ok (.i2l, 1) := by decide +kernel
theorem dX5_cut_7 : decode cX5_cut 7 = .ok (.lconst 0, 1) := by decide +kernel
theorem dX5_cut_8 : decode cX5_cut 8 = .ok (.ldc2_w 121, 3) := by decide +kernel
theorem dX5_cut_11 : decode cX5_cut 11 = .ok (.invokestatic 52, 3) := by decide +kernel
theorem dX5_cut_14 : decode cX5_cut 14 = .ok (.ifCond .ne 5, 3) := by decide +kernel
theorem dX5_cut_17 : decode cX5_cut 17 = .ok (.iconst (-1), 1) := by decide +kernel
theorem dX5_cut_18 : decode cX5_cut 18 = .ok (.ireturn, 1) := by decide +kernel
theorem dX5_cut_19 : decode cX5_cut 19 = .ok (.aload_n 0, 1) := by decide +kernel
theorem dX5_cut_20 : decode cX5_cut 20 = .ok (.iload_n 1, 1) := by decide +kernel
theorem dX5_cut_21 : decode cX5_cut 21 = .ok (.putfield 32, 3) := by decide +kernel
theorem dX5_cut_24 : decode cX5_cut 24 = .ok (.aload_n 0, 1) := by decide +kernel
theorem dX5_cut_25 : decode cX5_cut 25 = .ok (.iload_n 2, 1) := by decide +kernel
theorem dX5_cut_26 : decode cX5_cut 26 = .ok (.putfield 60, 3) := by decide +kernel
theorem dX5_cut_29 : decode cX5_cut 29 = .ok (.iconst 1, 1) := by decide +kernel
theorem dX5_cut_30 : decode cX5_cut 30 = .ok (.ireturn, 1) := by decide +kernel
theorem dX5_mount_0 : decode cX5_mount 0 = .ok (.aload_n 0, 1) := by decide +kernel
theorem dX5_mount_1 : decode cX5_mount 1 = .ok (.iconst 0, 1) := by decide +kernel
theorem dX5_mount_2 : decode cX5_mount 2 = .ok (.putfield 47, 3) := by decide +kernel
theorem dX5_mount_5 : decode cX5_mount 5 = .ok (.aload_n 0, 1) := by decide +kernel
theorem dX5_mount_6 : decode cX5_mount 6 = .ok (.iconst 1, 1) := by decide +kernel
theorem dX5_mount_7 : decode cX5_mount 7 = .ok (.putfield 28, 3) := by decide +kernel
theorem dX5_mount_10 : decode cX5_mount 10 = .ok (.iconst (-1), 1) := by decide +kernel
theorem dX5_mount_11 : decode cX5_mount 11 = .ok (.istore_n 1, 1) := by decide +kernel
theorem dX5_mount_12 : decode cX5_mount 12 = .ok (.iconst 0, 1) := by decide +kernel
theorem dX5_mount_13 : decode cX5_mount 13 = .ok (.istore_n 2, 1) := by decide +kernel
theorem dX5_mount_14 : decode cX5_mount 14 = .ok (.iload_n 2, 1) := by decide +kernel
theorem dX5_mount_15 : decode cX5_mount 15 = .ok (.bipush 16, 2) := by decide +kernel
theorem dX5_mount_17 : decode cX5_mount 17 = .ok (.if_icmp .ge 81, 3) := by decide +kernel
theorem dX5_mount_20 : decode cX5_mount 20 = .ok (.aload_n 0, 1) := by decide +kernel
theorem dX5_mount_21 : decode cX5_mount 21 = .ok (.getfield 7, 3) := by decide +kernel
theorem dX5_mount_24 : decode cX5_mount 24 = .ok (.sipush 256, 3) := by decide +kernel
theorem dX5_mount_27 : decode cX5_mount 27 = .ok (.iload_n 2, 1) := by decide +kernel
theorem dX5_mount_28 : decode cX5_mount 28 = .ok (.imul, 1) := by decide +kernel
theorem dX5_mount_29 : decode cX5_mount 29 = .ok (.sipush 193, 3) := by decide +kernel
theorem dX5_mount_32 : decode cX5_mount 32 = .ok (.iadd, 1) := by decide +kernel
theorem dX5_mount_33 : decode cX5_mount 33 = .ok (.iaload, 1) := by decide +kernel
theorem dX5_mount_34 : decode cX5_mount 34 = .ok (.aload_n 0, 1) := by decide +kernel
theorem dX5_mount_35 : decode cX5_mount 35 = .ok (.sipush 256, 3) := by decide +kernel
theorem dX5_mount_38 : decode cX5_mount 38 = .ok (.iload_n 2, 1) := by decide +kernel
theorem dX5_mount_39 : decode cX5_mount 39 = .ok (.imul, 1) := by decide +kernel
theorem dX5_mount_40 : decode cX5_mount 40 = .ok (.sipush 193, 3) := by decide +kernel
theorem dX5_mount_43 : decode cX5_mount 43 = .ok (.invokevirtual 156, 3) := by decide +kernel
theorem dX5_mount_46 : decode cX5_mount 46 = .ok (.if_icmp .ne 7, 3) := by decide +kernel
theorem dX5_mount_49 : decode cX5_mount 49 = .ok (.iconst 1, 1) := by decide +kernel
theorem dX5_mount_50 : decode cX5_mount 50 = .ok (.goto 4, 3) := by decide +kernel
theorem dX5_mount_53 : decode cX5_mount 53 = .ok (.iconst 0, 1) := by decide +kernel
theorem dX5_mount_54 : decode cX5_mount 54 = .ok (.istore_n 3, 1) := by decide +kernel
theorem dX5_mount_55 : decode cX5_mount 55 = .ok (.iload_n 3, 1) := by decide +kernel
theorem dX5_mount_56 : decode cX5_mount 56 = .ok (.ifCond .eq 34, 3) := by decide +kernel
theorem dX5_mount_59 : decode cX5_mount 59 = .ok (.iload_n 1, 1) := by decide +kernel
theorem dX5_mount_60 : decode cX5_mount 60 = .ok (.ifCond .lt 26, 3) := by decide +kernel
theorem dX5_mount_63 : decode cX5_mount 63 = .ok (.aload_n 0, 1) := by decide +kernel
theorem dX5_mount_64 : decode cX5_mount 64 = .ok (.getfield 7, 3) := by decide +kernel
theorem dX5_mount_67 : decode cX5_mount 67 = .ok (.sipush 256, 3) := by decide +kernel
theorem dX5_mount_70 : decode cX5_mount 70 = .ok (.iload_n 2, 1) := by decide +kernel
theorem dX5_mount_71 : decode cX5_mount 71 = .ok (.imul, 1) := by decide +kernel
theorem dX5_mount_72 : decode cX5_mount 72 = .ok (.iaload, 1) := by decide +kernel
theorem dX5_mount_73 : decode cX5_mount 73 = .ok (.aload_n 0, 1) := by decide +kernel
theorem dX5_mount_74 : decode cX5_mount 74 = .ok (.getfield 7, 3) := by decide +kernel
theorem dX5_mount_77 : decode cX5_mount 77 = .ok (.sipush 256, 3) := by decide +kernel
theorem dX5_mount_80 : decode cX5_mount 80 = .ok (.iload_n 1, 1) := by decide +kernel
theorem dX5_mount_81 : decode cX5_mount 81 = .ok (.imul, 1) := by decide +kernel
theorem dX5_mount_82 : decode cX5_mount 82 = .ok (.iaload, 1) := by decide +kernel
theorem dX5_mount_83 : decode cX5_mount 83 = .ok (.if_icmp .le 7, 3) := by decide +kernel
theorem dX5_mount_86 : decode cX5_mount 86 = .ok (.iload_n 2, 1) := by decide +kernel
theorem dX5_mount_87 : decode cX5_mount 87 = .ok (.goto 4, 3) := by decide +kernel
theorem dX5_mount_90 : decode cX5_mount 90 = .ok (.iload_n 1, 1) := by decide +kernel
theorem dX5_mount_91 : decode cX5_mount 91 = .ok (.istore_n 1, 1) := by decide +kernel
theorem dX5_mount_92 : decode cX5_mount 92 = .ok (.iinc 2 1, 3) := by decide +kernel
theorem dX5_mount_95 : decode cX5_mount 95 = .ok (.goto (-81), 3) := by decide +kernel
theorem dX5_mount_98 : decode cX5_mount 98 = .ok (.aload_n 0, 1) := by decide +kernel
theorem dX5_mount_99 : decode cX5_mount 99 = .ok (.iload_n 1, 1) := by decide +kernel
theorem dX5_mount_100 : decode cX5_mount 100 = .ok (.putfield 40, 3) := by decide +kernel
theorem dX5_mount_103 : decode cX5_mount 103 = .ok (.aload_n 0, 1) := by decide +kernel
theorem dX5_mount_104 : decode cX5_mount 104 = .ok (.aload_n 0, 1) := by decide +kernel
theorem dX5_mount_105 : decode cX5_mount 105 = .ok (.getfield 7, 3) := by decide +kernel
theorem dX5_mount_108 : decode cX5_mount 108 = .ok (.sipush 256, 3) := by decide +kernel
theorem dX5_mount_111 : decode cX5_mount 111 = .ok (.iload_n 1, 1) := by decide +kernel
theorem dX5_mount_112 : decode cX5_mount 112 = .ok (.imul, 1) := by decide +kernel
theorem dX5_mount_113 : decode cX5_mount 113 = .ok (.iconst 1, 1) := by decide +kernel
theorem dX5_mount_114 : decode cX5_mount 114 = .ok (.iadd, 1) := by decide +kernel
theorem dX5_mount_115 : decode cX5_mount 115 = .ok (.iaload, 1) := by decide +kernel
theorem dX5_mount_116 : decode cX5_mount 116 = .ok (.putfield 74, 3) := by decide +kernel
theorem dX5_mount_119 : decode cX5_mount 119 = .ok (.iconst 2, 1) := by decide +kernel
theorem dX5_mount_120 : decode cX5_mount 120 = .ok (.istore_n 2, 1) := by decide +kernel
theorem dX5_mount_121 : decode cX5_mount 121 = .ok (.iload_n 2, 1) := by decide +kernel
theorem dX5_mount_122 : decode cX5_mount 122 = .ok (.sipush 193, 3) := by decide +kernel
theorem dX5_mount_125 : decode cX5_mount 125 = .ok (.if_icmp .ge 27, 3) := by decide +kernel
theorem dX5_mount_128 : decode cX5_mount 128 = .ok (.aload_n 0, 1) := by decide +kernel
theorem dX5_mount_129 : decode cX5_mount 129 = .ok (.getfield 16, 3) := by decide +kernel
theorem dX5_mount_132 : decode cX5_mount 132 = .ok (.iload_n 2, 1) := by decide +kernel
theorem dX5_mount_133 : decode cX5_mount 133 = .ok (.aload_n 0, 1) := by decide +kernel
theorem dX5_mount_134 : decode cX5_mount 134 = .ok (.getfield 7, 3) := by decide +kernel
theorem dX5_mount_137 : decode cX5_mount 137 = .ok (.sipush 256, 3) := by decide +kernel
theorem dX5_mount_140 : decode cX5_mount 140 = .ok (.iload_n 1, 1) := by decide +kernel
theorem dX5_mount_141 : decode cX5_mount 141 = .ok (.imul, 1) := by decide +kernel
theorem dX5_mount_142 : decode cX5_mount 142 = .ok (.iload_n 2, 1) := by decide +kernel
theorem dX5_mount_143 : decode cX5_mount 143 = .ok (.iadd, 1) := by decide +kernel
theorem dX5_mount_144 : decode cX5_mount 144 = .ok (.iaload, 1) := by decide +kernel
theorem dX5_mount_145 : decode cX5_mount 145 = .ok (.iastore, 1) := by decide +kernel
theorem dX5_mount_146 : decode cX5_mount 146 = .ok (.iinc 2 1, 3) := by decide +kernel
theorem dX5_mount_149 : decode cX5_mount 149 = .ok (.goto (-28), 3) := by decide +kernel
theorem dX5_mount_152 : decode cX5_mount 152 = .ok (.aload_n 0, 1) := by decide +kernel
theorem dX5_mount_153 : decode cX5_mount 153 = .ok (.iconst 0, 1) := by decide +kernel
theorem dX5_mount_154 : decode cX5_mount 154 = .ok (.putfield 71, 3) := by decide +kernel
theorem dX5_mount_157 : decode cX5_mount 157 = .ok (.iconst 1, 1) := by decide +kernel
theorem dX5_mount_158 : decode cX5_mount 158 = .ok (.istore_n 2, 1) := by decide +kernel
theorem dX5_mount_159 : decode cX5_mount 159 = .ok (.iload_n 2, 1) := by decide +kernel
theorem dX5_mount_160 : decode cX5_mount 160 = .ok (.ifCond .eq 122, 3) := by decide +kernel
theorem dX5_mount_163 : decode cX5_mount 163 = .ok (.aload_n 0, 1) := by decide +kernel
theorem dX5_mount_164 : decode cX5_mount 164 = .ok (.getfield 71, 3) := by decide +kernel
theorem dX5_mount_167 : decode cX5_mount 167 = .ok (.bipush 12, 2) := by decide +kernel
theorem dX5_mount_169 : decode cX5_mount 169 = .ok (.if_icmp .ge 113, 3) := by decide +kernel
theorem dX5_mount_172 : decode cX5_mount 172 = .ok (.sipush 256, 3) := by decide +kernel
theorem dX5_mount_175 : decode cX5_mount 175 = .ok (.iload_n 1, 1) := by decide +kernel
theorem dX5_mount_176 : decode cX5_mount 176 = .ok (.imul, 1) := by decide +kernel
theorem dX5_mount_177 : decode cX5_mount 177 = .ok (.sipush 194, 3) := by decide +kernel
theorem dX5_mount_180 : decode cX5_mount 180 = .ok (.iadd, 1) := by decide +kernel
theorem dX5_mount_181 : decode cX5_mount 181 = .ok (.iconst 5, 1) := by decide +kernel
theorem dX5_mount_182 : decode cX5_mount 182 = .ok (.aload_n 0, 1) := by decide +kernel
theorem dX5_mount_183 : decode cX5_mount 183 = .ok (.getfield 71, 3) := by decide +kernel
theorem dX5_mount_186 : decode cX5_mount 186 = .ok (.imul, 1) := by decide +kernel
theorem dX5_mount_187 : decode cX5_mount 187 = .ok (.iadd, 1) := by decide +kernel
theorem dX5_mount_188 : decode cX5_mount 188 = .ok (.istore_n 3, 1) := by decide +kernel
theorem dX5_mount_189 : decode cX5_mount 189 = .ok (.aload_n 0, 1) := by decide +kernel
theorem dX5_mount_190 : decode cX5_mount 190 = .ok (.getfield 7, 3) := by decide +kernel
theorem dX5_mount_193 : decode cX5_mount 193 = .ok (.iload_n 3, 1) := by decide +kernel
theorem dX5_mount_194 : decode cX5_mount 194 = .ok (.iaload, 1) := by decide +kernel
theorem dX5_mount_195 : decode cX5_mount 195 = .ok (.aload_n 0, 1) := by decide +kernel
theorem dX5_mount_196 : decode cX5_mount 196 = .ok (.getfield 74, 3) := by decide +kernel
theorem dX5_mount_199 : decode cX5_mount 199 = .ok (.iconst 1, 1) := by decide +kernel
theorem dX5_mount_200 : decode cX5_mount 200 = .ok (.iadd, 1) := by decide +kernel
theorem dX5_mount_201 : decode cX5_mount 201 = .ok (.if_icmp .ne 24, 3) := by decide +kernel
theorem dX5_mount_204 : decode cX5_mount 204 = .ok (.aload_n 0, 1) := by decide +kernel
theorem dX5_mount_205 : decode cX5_mount 205 = .ok (.getfield 7, 3) := by decide +kernel
theorem dX5_mount_208 : decode cX5_mount 208 = .ok (.iload_n 3, 1) := by decide +kernel
theorem dX5_mount_209 : decode cX5_mount 209 = .ok (.iconst 4, 1) := by decide +kernel
theorem dX5_mount_210 : decode cX5_mount 210 = .ok (.iadd, 1) := by decide +kernel
theorem dX5_mount_211 : decode cX5_mount 211 = .ok (.iaload, 1) := by decide +kernel
theorem dX5_mount_212 : decode cX5_mount 212 = .ok (.aload_n 0, 1) := by decide +kernel
theorem dX5_mount_213 : decode cX5_mount 213 = .ok (.iload_n 3, 1) := by decide +kernel
theorem dX5_mount_214 : decode cX5_mount 214 = .ok (.iconst 4, 1) := by decide +kernel
theorem dX5_mount_215 : decode cX5_mount 215 = .ok (.invokevirtual 156, 3) := by decide +kernel
theorem dX5_mount_218 : decode cX5_mount 218 = .ok (.if_icmp .ne 7, 3) := by decide +kernel
theorem dX5_mount_221 : decode cX5_mount 221 = .ok (.iconst 1, 1) := by decide +kernel
theorem dX5_mount_222 : decode cX5_mount 222 = .ok (.goto 4, 3) := by decide +kernel
theorem dX5_mount_225 : decode cX5_mount 225 = .ok (.iconst 0, 1) := by decide +kernel
theorem dX5_mount_226 : decode cX5_mount 226 = .ok (.istore_n 2, 1) := by decide +kernel
theorem dX5_mount_227 : decode cX5_mount 227 = .ok (.iload_n 2, 1) := by decide +kernel
theorem dX5_mount_228 : decode cX5_mount 228 = .ok (.ifCond .eq 51, 3) := by decide +kernel
theorem dX5_mount_231 : decode cX5_mount 231 = .ok (.aload_n 0, 1) := by decide +kernel
theorem dX5_mount_232 : decode cX5_mount 232 = .ok (.aload_n 0, 1) := by decide +kernel
theorem dX5_mount_233 : decode cX5_mount 233 = .ok (.getfield 7, 3) := by decide +kernel
theorem dX5_mount_236 : decode cX5_mount 236 = .ok (.iload_n 3, 1) := by decide +kernel
theorem dX5_mount_237 : decode cX5_mount 237 = .ok (.iconst 1, 1) := by decide +kernel
theorem dX5_mount_238 : decode cX5_mount 238 = .ok (.iadd, 1) := by decide +kernel
theorem dX5_mount_239 : decode cX5_mount 239 = .ok (.iaload, 1) := by decide +kernel
theorem dX5_mount_240 : decode cX5_mount 240 = .ok (.aload_n 0, 1) := by decide +kernel
theorem dX5_mount_241 : decode cX5_mount 241 = .ok (.getfield 7, 3) := by decide +kernel
theorem dX5_mount_244 : decode cX5_mount 244 = .ok (.iload_n 3, 1) := by decide +kernel
theorem dX5_mount_245 : decode cX5_mount 245 = .ok (.iconst 2, 1) := by decide +kernel
theorem dX5_mount_246 : decode cX5_mount 246 = .ok (.iadd, 1) := by decide +kernel
theorem dX5_mount_247 : decode cX5_mount 247 = .ok (.iaload, 1) := by decide +kernel
theorem dX5_mount_248 : decode cX5_mount 248 = .ok (.aload_n 0, 1) := by decide +kernel
theorem dX5_mount_249 : decode cX5_mount 249 = .ok (.getfield 7, 3) := by decide +kernel
theorem dX5_mount_252 : decode cX5_mount 252 = .ok (.iload_n 3, 1) := by decide +kernel
theorem dX5_mount_253 : decode cX5_mount 253 = .ok (.iconst 3, 1) := by decide +kernel
theorem dX5_mount_254 : decode cX5_mount 254 = .ok (.iadd, 1) := by decide +kernel
theorem dX5_mount_255 : decode cX5_mount 255 = .ok (.iaload, 1) := by decide +kernel
theorem dX5_mount_256 : decode cX5_mount 256 = .ok (.invokevirtual 85, 3) := by decide +kernel
theorem dX5_mount_259 : decode cX5_mount 259 = .ok (.aload_n 0, 1) := by decide +kernel
theorem dX5_mount_260 : decode cX5_mount 260 = .ok (.dup, 1) := by decide +kernel
theorem dX5_mount_261 : decode cX5_mount 261 = .ok (.getfield 71, 3) := by decide +kernel
theorem dX5_mount_264 : decode cX5_mount 264 = .ok (.iconst 1, 1) := by decide +kernel
theorem dX5_mount_265 : decode cX5_mount 265 = .ok (.iadd, 1) := by decide +kernel
theorem dX5_mount_266 : decode cX5_mount 266 = .ok (.putfield 71, 3) := by decide +kernel
theorem dX5_mount_269 : decode cX5_mount 269 = .ok (.aload_n 0, 1) := by decide +kernel
theorem dX5_mount_270 : decode cX5_mount 270 = .ok (.dup, 1) := by decide +kernel
theorem dX5_mount_271 : decode cX5_mount 271 = .ok (.getfield 74, 3) := by decide +kernel
theorem dX5_mount_274 : decode cX5_mount 274 = .ok (.iconst 1, 1) := by decide +kernel
theorem dX5_mount_275 : decode cX5_mount 275 = .ok (.iadd, 1) := by decide +kernel
theorem dX5_mount_276 : decode cX5_mount 276 = .ok (.putfield 74, 3) := by decide +kernel
theorem dX5_mount_279 : decode cX5_mount 279 = .ok (.goto (-120), 3) := by decide +kernel
theorem dX5_mount_282 : decode cX5_mount 282 = .ok (.aload_n 0, 1) := by decide +kernel
theorem dX5_mount_283 : decode cX5_mount 283 = .ok (.getfield 74, 3) := by decide +kernel
theorem dX5_mount_286 : decode cX5_mount 286 = .ok (.ireturn, 1) := by decide +kernel
theorem dX5_uncertain_0 : decode cX5_uncertain 0 = .ok (.aload_n 0, 1) := by decide +kernel
theorem dX5_uncertain_1 : decode cX5_uncertain 1 = .ok (.iconst 0, 1) := by decide +kernel
theorem dX5_uncertain_2 : decode cX5_uncertain 2 = .ok (.putfield 47, 3) := by decide +kernel
theorem dX5_uncertain_5 : decode cX5_uncertain 5 = .ok (.aload_n 0, 1) := by decide +kernel
theorem dX5_uncertain_6 : decode cX5_uncertain 6 = .ok (.getfield 28, 3) := by decide +kernel
theorem dX5_uncertain_9 : decode cX5_uncertain 9 = .ok (.ifCond .ne 8, 3) := by decide +kernel
theorem dX5_uncertain_12 : decode cX5_uncertain 12 = .ok (.bipush (-7), 2) := by decide +kernel
theorem dX5_uncertain_14 : decode cX5_uncertain 14 = .ok (.goto 18, 3) := by decide +kernel
theorem dX5_uncertain_17 : decode cX5_uncertain 17 = .ok (.aload_n 0, 1) := by decide +kernel
theorem dX5_uncertain_18 : decode cX5_uncertain 18 = .ok (.getfield 16, 3) := by decide +kernel
theorem dX5_uncertain_21 : decode cX5_uncertain 21 = .ok (.bipush 16, 2) := by decide +kernel
theorem dX5_uncertain_23 : decode cX5_uncertain 23 = .ok (.iaload, 1) := by decide +kernel
theorem dX5_uncertain_24 : decode cX5_uncertain 24 = .ok (.ifCond .eq 7, 3) := by decide +kernel
theorem dX5_uncertain_27 : decode cX5_uncertain 27 = .ok (.iconst 1, 1) := by decide +kernel
theorem dX5_uncertain_28 : decode cX5_uncertain 28 = .ok (.goto 4, 3) := by decide +kernel
theorem dX5_uncertain_31 : decode cX5_uncertain 31 = .ok (.iconst 0, 1) := by decide +kernel
theorem dX5_uncertain_32 : decode cX5_uncertain 32 = .ok (.ireturn, 1) := by decide +kernel
theorem dX5_settle_0 : decode cX5_settle 0 = .ok (.aload_n 0, 1) := by decide +kernel
theorem dX5_settle_1 : decode cX5_settle 1 = .ok (.iconst 0, 1) := by decide +kernel
theorem dX5_settle_2 : decode cX5_settle 2 = .ok (.putfield 47, 3) := by decide +kernel
theorem dX5_settle_5 : decode cX5_settle 5 = .ok (.aload_n 0, 1) := by decide +kernel
theorem dX5_settle_6 : decode cX5_settle 6 = .ok (.getfield 28, 3) := by decide +kernel
theorem dX5_settle_9 : decode cX5_settle 9 = .ok (.ifCond .ne 6, 3) := by decide +kernel
theorem dX5_settle_12 : decode cX5_settle 12 = .ok (.bipush (-7), 2) := by decide +kernel
theorem dX5_settle_14 : decode cX5_settle 14 = .ok (.ireturn, 1) := by decide +kernel
theorem dX5_settle_15 : decode cX5_settle 15 = .ok (.aload_n 0, 1) := by decide +kernel
theorem dX5_settle_16 : decode cX5_settle 16 = .ok (.getfield 16, 3) := by decide +kernel
theorem dX5_settle_19 : decode cX5_settle 19 = .ok (.bipush 16, 2) := by decide +kernel
theorem dX5_settle_21 : decode cX5_settle 21 = .ok (.iaload, 1) := by decide +kernel
theorem dX5_settle_22 : decode cX5_settle 22 = .ok (.ifCond .ne 5, 3) := by decide +kernel
theorem dX5_settle_25 : decode cX5_settle 25 = .ok (.iconst 0, 1) := by decide +kernel
theorem dX5_settle_26 : decode cX5_settle 26 = .ok (.ireturn, 1) := by decide +kernel
theorem dX5_settle_27 : decode cX5_settle 27 = .ok (.aload_n 0, 1) := by decide +kernel
theorem dX5_settle_28 : decode cX5_settle 28 = .ok (.iconst 3, 1) := by decide +kernel
theorem dX5_settle_29 : decode cX5_settle 29 = .ok (.iload_n 1, 1) := by decide +kernel
theorem dX5_settle_30 : decode cX5_settle 30 = .ok (.ifCond .eq 7, 3) := by decide +kernel
theorem dX5_settle_33 : decode cX5_settle 33 = .ok (.iconst 1, 1) := by decide +kernel
theorem dX5_settle_34 : decode cX5_settle 34 = .ok (.goto 4, 3) := by decide +kernel
theorem dX5_settle_37 : decode cX5_settle 37 = .ok (.iconst 0, 1) := by decide +kernel
theorem dX5_settle_38 : decode cX5_settle 38 = .ok (.iconst 0, 1) := by decide +kernel
theorem dX5_settle_39 : decode cX5_settle 39 = .ok (.invokevirtual 116, 3) := by decide +kernel
theorem dX5_settle_42 : decode cX5_settle 42 = .ok (.ifCond .eq 7, 3) := by decide +kernel
theorem dX5_settle_45 : decode cX5_settle 45 = .ok (.iconst 1, 1) := by decide +kernel
theorem dX5_settle_46 : decode cX5_settle 46 = .ok (.goto 5, 3) := by decide +kernel
theorem dX5_settle_49 : decode cX5_settle 49 = .ok (.bipush (-7), 2) := by decide +kernel
theorem dX5_settle_51 : decode cX5_settle 51 = .ok (.ireturn, 1) := by decide +kernel
theorem dX5_wear_0 : decode cX5_wear 0 = .ok (.aload_n 0, 1) := by decide +kernel
theorem dX5_wear_1 : decode cX5_wear 1 = .ok (.iconst 0, 1) := by decide +kernel
theorem dX5_wear_2 : decode cX5_wear 2 = .ok (.putfield 47, 3) := by decide +kernel
theorem dX5_wear_5 : decode cX5_wear 5 = .ok (.iload_n 1, 1) := by decide +kernel
theorem dX5_wear_6 : decode cX5_wear 6 = .ok (.i2l, 1) := by decide +kernel
theorem dX5_wear_7 : decode cX5_wear 7 = .ok (.lconst 0, 1) := by decide +kernel
theorem dX5_wear_8 : decode cX5_wear 8 = .ok (.ldc2_w 126, 3) := by decide +kernel
theorem dX5_wear_11 : decode cX5_wear 11 = .ok (.invokestatic 52, 3) := by decide +kernel
theorem dX5_wear_14 : decode cX5_wear 14 = .ok (.ifCond .eq 12, 3) := by decide +kernel
theorem dX5_wear_17 : decode cX5_wear 17 = .ok (.aload_n 0, 1) := by decide +kernel
theorem dX5_wear_18 : decode cX5_wear 18 = .ok (.getfield 13, 3) := by decide +kernel
theorem dX5_wear_21 : decode cX5_wear 21 = .ok (.iload_n 1, 1) := by decide +kernel
theorem dX5_wear_22 : decode cX5_wear 22 = .ok (.iaload, 1) := by decide +kernel
theorem dX5_wear_23 : decode cX5_wear 23 = .ok (.goto 4, 3) := by decide +kernel
theorem dX5_wear_26 : decode cX5_wear 26 = .ok (.iconst (-1), 1) := by decide +kernel
theorem dX5_wear_27 : decode cX5_wear 27 = .ok (.ireturn, 1) := by decide +kernel
theorem dX5_word_0 : decode cX5_word 0 = .ok (.aload_n 0, 1) := by decide +kernel
theorem dX5_word_1 : decode cX5_word 1 = .ok (.iconst 0, 1) := by decide +kernel
theorem dX5_word_2 : decode cX5_word 2 = .ok (.putfield 47, 3) := by decide +kernel
theorem dX5_word_5 : decode cX5_word 5 = .ok (.iload_n 1, 1) := by decide +kernel
theorem dX5_word_6 : decode cX5_word 6 = .ok (.i2l, 1) := by decide +kernel
theorem dX5_word_7 : decode cX5_word 7 = .ok (.lconst 0, 1) := by decide +kernel
theorem dX5_word_8 : decode cX5_word 8 = .ok (.ldc2_w 126, 3) := by decide +kernel
theorem dX5_word_11 : decode cX5_word 11 = .ok (.invokestatic 52, 3) := by decide +kernel
theorem dX5_word_14 : decode cX5_word 14 = .ok (.ifCond .eq 30, 3) := by decide +kernel
theorem dX5_word_17 : decode cX5_word 17 = .ok (.iload_n 2, 1) := by decide +kernel
theorem dX5_word_18 : decode cX5_word 18 = .ok (.i2l, 1) := by decide +kernel
theorem dX5_word_19 : decode cX5_word 19 = .ok (.lconst 0, 1) := by decide +kernel
theorem dX5_word_20 : decode cX5_word 20 = .ok (.ldc2_w 159, 3) := by decide +kernel
theorem dX5_word_23 : decode cX5_word 23 = .ok (.invokestatic 52, 3) := by decide +kernel
theorem dX5_word_26 : decode cX5_word 26 = .ok (.ifCond .eq 18, 3) := by decide +kernel
theorem dX5_word_29 : decode cX5_word 29 = .ok (.aload_n 0, 1) := by decide +kernel
theorem dX5_word_30 : decode cX5_word 30 = .ok (.getfield 7, 3) := by decide +kernel
theorem dX5_word_33 : decode cX5_word 33 = .ok (.sipush 256, 3) := by decide +kernel
theorem dX5_word_36 : decode cX5_word 36 = .ok (.iload_n 1, 1) := by decide +kernel
theorem dX5_word_37 : decode cX5_word 37 = .ok (.imul, 1) := by decide +kernel
theorem dX5_word_38 : decode cX5_word 38 = .ok (.iload_n 2, 1) := by decide +kernel
theorem dX5_word_39 : decode cX5_word 39 = .ok (.iadd, 1) := by decide +kernel
theorem dX5_word_40 : decode cX5_word 40 = .ok (.iaload, 1) := by decide +kernel
theorem dX5_word_41 : decode cX5_word 41 = .ok (.goto 4, 3) := by decide +kernel
theorem dX5_word_44 : decode cX5_word 44 = .ok (.iconst (-1), 1) := by decide +kernel
theorem dX5_word_45 : decode cX5_word 45 = .ok (.ireturn, 1) := by decide +kernel
theorem dX5_sound_0 : decode cX5_sound 0 = .ok (.aload_n 0, 1) := by decide +kernel
theorem dX5_sound_1 : decode cX5_sound 1 = .ok (.iconst 0, 1) := by decide +kernel
theorem dX5_sound_2 : decode cX5_sound 2 = .ok (.putfield 47, 3) := by decide +kernel
theorem dX5_sound_5 : decode cX5_sound 5 = .ok (.aload_n 0, 1) := by decide +kernel
theorem dX5_sound_6 : decode cX5_sound 6 = .ok (.getfield 28, 3) := by decide +kernel
theorem dX5_sound_9 : decode cX5_sound 9 = .ok (.ifCond .eq 7, 3) := by decide +kernel
theorem dX5_sound_12 : decode cX5_sound 12 = .ok (.iconst 1, 1) := by decide +kernel
theorem dX5_sound_13 : decode cX5_sound 13 = .ok (.goto 5, 3) := by decide +kernel
theorem dX5_sound_16 : decode cX5_sound 16 = .ok (.bipush (-7), 2) := by decide +kernel
theorem dX5_sound_18 : decode cX5_sound 18 = .ok (.ireturn, 1) := by decide +kernel

theorem dX10_init_0 : decode cX10_init 0 = .ok (.aload_n 0, 1) := by decide +kernel
theorem dX10_init_1 : decode cX10_init 1 = .ok (.invokespecial 1, 3) := by decide +kernel
theorem dX10_init_4 : decode cX10_init 4 = .ok (.aload_n 0, 1) := by decide +kernel
theorem dX10_init_5 : decode cX10_init 5 = .ok (.bipush 6, 2) := by decide +kernel
theorem dX10_init_7 : decode cX10_init 7 = .ok (.newarray .int, 2) := by decide +kernel
theorem dX10_init_9 : decode cX10_init 9 = .ok (.putfield 7, 3) := by decide +kernel
theorem dX10_init_12 : decode cX10_init 12 = .ok (.aload_n 0, 1) := by decide +kernel
theorem dX10_init_13 : decode cX10_init 13 = .ok (.bipush 6, 2) := by decide +kernel
theorem dX10_init_15 : decode cX10_init 15 = .ok (.newarray .int, 2) := by decide +kernel
theorem dX10_init_17 : decode cX10_init 17 = .ok (.putfield 13, 3) := by decide +kernel
theorem dX10_init_20 : decode cX10_init 20 = .ok (.aload_n 0, 1) := by decide +kernel
theorem dX10_init_21 : decode cX10_init 21 = .ok (.bipush 6, 2) := by decide +kernel
theorem dX10_init_23 : decode cX10_init 23 = .ok (.newarray .int, 2) := by decide +kernel
theorem dX10_init_25 : decode cX10_init 25 = .ok (.putfield 16, 3) := by decide +kernel
theorem dX10_init_28 : decode cX10_init 28 = .ok (.aload_n 0, 1) := by decide +kernel
theorem dX10_init_29 : decode cX10_init 29 = .ok (.bipush 40, 2) := by decide +kernel
theorem dX10_init_31 : decode cX10_init 31 = .ok (.newarray .int, 2) := by decide +kernel
theorem dX10_init_33 : decode cX10_init 33 = .ok (.putfield 19, 3) := by decide +kernel
theorem dX10_init_36 : decode cX10_init 36 = .ok (.aload_n 0, 1) := by decide +kernel
theorem dX10_init_37 : decode cX10_init 37 = .ok (.bipush 30, 2) := by decide +kernel
theorem dX10_init_39 : decode cX10_init 39 = .ok (.newarray .int, 2) := by decide +kernel
theorem dX10_init_41 : decode cX10_init 41 = .ok (.putfield 22, 3) := by decide +kernel
theorem dX10_init_44 : decode cX10_init 44 = .ok (.aload_n 0, 1) := by decide +kernel
theorem dX10_init_45 : decode cX10_init 45 = .ok (.bipush 48, 2) := by decide +kernel
theorem dX10_init_47 : decode cX10_init 47 = .ok (.newarray .int, 2) := by decide +kernel
theorem dX10_init_49 : decode cX10_init 49 = .ok (.putfield 25, 3) := by decide +kernel
theorem dX10_init_52 : decode cX10_init 52 = .ok (.aload_n 0, 1) := by decide +kernel
theorem dX10_init_53 : decode cX10_init 53 = .ok (.bipush 63, 2) := by decide +kernel
theorem dX10_init_55 : decode cX10_init 55 = .ok (.putfield 28, 3) := by decide +kernel
theorem dX10_init_58 : decode cX10_init 58 = .ok (.aload_n 0, 1) := by decide +kernel
theorem dX10_init_59 : decode cX10_init 59 = .ok (.bipush 6, 2) := by decide +kernel
theorem dX10_init_61 : decode cX10_init 61 = .ok (.newarray .int, 2) := by decide +kernel
theorem dX10_init_63 : decode cX10_init 63 = .ok (.putfield 32, 3) := by decide +kernel
theorem dX10_init_66 : decode cX10_init 66 = .ok (.aload_n 0, 1) := by decide +kernel
theorem dX10_init_67 : decode cX10_init 67 = .ok (.sipush 280, 3) := by decide +kernel
theorem dX10_init_70 : decode cX10_init 70 = .ok (.newarray .int, 2) := by decide +kernel
theorem dX10_init_72 : decode cX10_init 72 = .ok (.putfield 35, 3) := by decide +kernel
theorem dX10_init_75 : decode cX10_init 75 = .ok (.aload_n 0, 1) := by decide +kernel
theorem dX10_init_76 : decode cX10_init 76 = .ok (.bipush 61, 2) := by decide +kernel
theorem dX10_init_78 : decode cX10_init 78 = .ok (.newarray .int, 2) := by decide +kernel
theorem dX10_init_80 : decode cX10_init 80 = .ok (.putfield 38, 3) := by decide +kernel
theorem dX10_init_83 : decode cX10_init 83 = .ok (.aload_n 0, 1) := by decide +kernel
theorem dX10_init_84 : decode cX10_init 84 = .ok (.bipush 6, 2) := by decide +kernel
theorem dX10_init_86 : decode cX10_init 86 = .ok (.newarray .int, 2) := by decide +kernel
theorem dX10_init_88 : decode cX10_init 88 = .ok (.putfield 41, 3) := by decide +kernel
theorem dX10_init_91 : decode cX10_init 91 = .ok (.aload_n 0, 1) := by decide +kernel
theorem dX10_init_92 : decode cX10_init 92 = .ok (.bipush 6, 2) := by decide +kernel
theorem dX10_init_94 : decode cX10_init 94 = .ok (.newarray .int, 2) := by decide +kernel
theorem dX10_init_96 : decode cX10_init 96 = .ok (.putfield 44, 3) := by decide +kernel
theorem dX10_init_99 : decode cX10_init 99 = .ok (.aload_n 0, 1) := by decide +kernel
theorem dX10_init_100 : decode cX10_init 100 = .ok (.bipush 6, 2) := by decide +kernel
theorem dX10_init_102 : decode cX10_init 102 = .ok (.newarray .int, 2) := by decide +kernel
theorem dX10_init_104 : decode cX10_init 104 = .ok (.putfield 47, 3) := by decide +kernel
theorem dX10_init_107 : decode cX10_init 107 = .ok (.aload_n 0, 1) := by decide +kernel
theorem dX10_init_108 : decode cX10_init 108 = .ok (.iconst 2, 1) := by decide +kernel
theorem dX10_init_109 : decode cX10_init 109 = .ok (.newarray .boolean, 2) := by decide +kernel
theorem dX10_init_111 : decode cX10_init 111 = .ok (.putfield 50, 3) := by decide +kernel
theorem dX10_init_114 : decode cX10_init 114 = .ok (.aload_n 0, 1) := by decide +kernel
theorem dX10_init_115 : decode cX10_init 115 = .ok (.bipush 40, 2) := by decide +kernel
theorem dX10_init_117 : decode cX10_init 117 = .ok (.newarray .int, 2) := by decide +kernel
theorem dX10_init_119 : decode cX10_init 119 = .ok (.putfield 54, 3) := by decide +kernel
theorem dX10_init_122 : decode cX10_init 122 = .ok (.return_, 1) := by decide +kernel
theorem dX10_in_0 : decode cX10_in 0 = .ok (.lload_n 0, 1) := by decide +kernel
theorem dX10_in_1 : decode cX10_in 1 = .ok (.lload_n 2, 1) := by decide +kernel
theorem dX10_in_2 : decode cX10_in 2 = .ok (.lcmp, 1) := by decide +kernel
theorem dX10_in_3 : decode cX10_in 3 = .ok (.ifCond .lt 14, 3) := by decide +kernel
theorem dX10_in_6 : decode cX10_in 6 = .ok (.lload_n 0, 1) := by decide +kernel
theorem dX10_in_7 : decode cX10_in 7 = .ok (.lload 4, 2) := by decide +kernel
theorem dX10_in_9 : decode cX10_in 9 = .ok (.lcmp, 1) := by decide +kernel
theorem dX10_in_10 : decode cX10_in 10 = .ok (.ifCond .gt 7, 3) := by decide +kernel
theorem dX10_in_13 : decode cX10_in 13 = .ok (.iconst 1, 1) := by decide +kernel
theorem dX10_in_14 : decode cX10_in 14 = .ok (.goto 4, 3) := by decide +kernel
theorem dX10_in_17 : decode cX10_in 17 = .ok (.iconst 0, 1) := by decide +kernel
theorem dX10_in_18 : decode cX10_in 18 = .ok (.ireturn, 1) := by decide +kernel
theorem dX10_has_0 : decode cX10_has 0 = .ok (.iload_n 0, 1) := by decide +kernel
theorem dX10_has_1 : decode cX10_has 1 = .ok (.iload_n 1, 1) := by decide +kernel
theorem dX10_has_2 : decode cX10_has 2 = .ok (.ishr, 1) := by decide +kernel
theorem dX10_has_3 : decode cX10_has 3 = .ok (.iconst 1, 1) := by decide +kernel
theorem dX10_has_4 : decode cX10_has 4 = .ok (.iand, 1) := by decide +kernel
theorem dX10_has_5 : decode cX10_has 5 = .ok (.iconst 1, 1) := by decide +kernel
theorem dX10_has_6 : decode cX10_has 6 = .ok (.if_icmp .ne 7, 3) := by decide +kernel
theorem dX10_has_9 : decode cX10_has 9 = .ok (.iconst 1, 1) := by decide +kernel
theorem dX10_has_10 : decode cX10_has 10 = .ok (.goto 4, 3) := by decide +kernel
theorem dX10_has_13 : decode cX10_has 13 = .ok (.iconst 0, 1) := by decide +kernel
theorem dX10_has_14 : decode cX10_has 14 = .ok (.ireturn, 1) := by decide +kernel
theorem dX10_ones_0 : decode cX10_ones 0 = .ok (.iconst 0, 1) := by decide +kernel
theorem dX10_ones_1 : decode cX10_ones 1 = .ok (.istore_n 1, 1) := by decide +kernel
theorem dX10_ones_2 : decode cX10_ones 2 = .ok (.iconst 0, 1) := by decide +kernel
theorem dX10_ones_3 : decode cX10_ones 3 = .ok (.istore_n 2, 1) := by decide +kernel
theorem dX10_ones_4 : decode cX10_ones 4 = .ok (.iload_n 2, 1) := by decide +kernel
theorem dX10_ones_5 : decode cX10_ones 5 = .ok (.bipush 10, 2) := by decide +kernel
theorem dX10_ones_7 : decode cX10_ones 7 = .ok (.if_icmp .ge 17, 3) := by decide +kernel
theorem dX10_ones_10 : decode cX10_ones 10 = .ok (.iload_n 1, 1) := by decide +kernel
theorem dX10_ones_11 : decode cX10_ones 11 = .ok (.iload_n 0, 1) := by decide +kernel
theorem dX10_ones_12 : decode cX10_ones 12 = .ok (.iload_n 2, 1) := by decide +kernel
theorem dX10_ones_13 : decode cX10_ones 13 = .ok (.ishr, 1) := by decide +kernel
theorem dX10_ones_14 : decode cX10_ones 14 = .ok (.iconst 1, 1) := by decide +kernel
theorem dX10_ones_15 : decode cX10_ones 15 = .ok (.iand, 1) := by decide +kernel
theorem dX10_ones_16 : decode cX10_ones 16 = .ok (.iadd, 1) := by decide +kernel
theorem dX10_ones_17 : decode cX10_ones 17 = .ok (.istore_n 1, 1) := by decide +kernel
theorem dX10_ones_18 : decode cX10_ones 18 = .ok (.iinc 2 1, 3) := by decide +kernel
theorem dX10_ones_21 : decode cX10_ones 21 = .ok (.goto (-17), 3) := by decide +kernel
theorem dX10_ones_24 : decode cX10_ones 24 = .ok (.iload_n 1, 1) := by decide +kernel
theorem dX10_ones_25 : decode cX10_ones 25 = .ok (.ireturn, 1) := by decide +kernel
theorem dX10_write_0 : decode cX10_write 0 = .ok (.iload_n 1, 1) := by decide +kernel
theorem dX10_write_1 : decode cX10_write 1 = .ok (.i2l, 1) := by decide +kernel
theorem dX10_write_2 : decode cX10_write 2 = .ok (.lconst 0, 1) := by decide +kernel
theorem dX10_write_3 : decode cX10_write 3 = .ok (.ldc2_w 57, 3) := by decide +kernel
theorem dX10_write_6 : decode cX10_write 6 = .ok (.invokestatic 59, 3) := by decide +kernel
theorem dX10_write_9 : decode cX10_write 9 = .ok (.ifCond .ne 6, 3) := by decide +kernel
theorem dX10_write_12 : decode cX10_write 12 = .ok (.bipush (-2), 2) := by decide +kernel
theorem dX10_write_14 : decode cX10_write 14 = .ok (.ireturn, 1) := by decide +kernel
theorem dX10_write_15 : decode cX10_write 15 = .ok (.aload_n 0, 1) := by decide +kernel
theorem dX10_write_16 : decode cX10_write 16 = .ok (.getfield 63, 3) := by decide +kernel
theorem dX10_write_19 : decode cX10_write 19 = .ok (.bipush 48, 2) := by decide +kernel
theorem dX10_write_21 : decode cX10_write 21 = .ok (.if_icmp .ne 6, 3) := by decide +kernel
theorem dX10_write_24 : decode cX10_write 24 = .ok (.bipush (-4), 2) := by decide +kernel
theorem dX10_write_26 : decode cX10_write 26 = .ok (.ireturn, 1) := by decide +kernel
theorem dX10_write_27 : decode cX10_write 27 = .ok (.aload_n 0, 1) := by decide +kernel
theorem dX10_write_28 : decode cX10_write 28 = .ok (.getfield 25, 3) := by decide +kernel
theorem dX10_write_31 : decode cX10_write 31 = .ok (.aload_n 0, 1) := by decide +kernel
theorem dX10_write_32 : decode cX10_write 32 = .ok (.getfield 63, 3) := by decide +kernel
theorem dX10_write_35 : decode cX10_write 35 = .ok (.iload_n 1, 1) := by decide +kernel
theorem dX10_write_36 : decode cX10_write 36 = .ok (.iastore, 1) := by decide +kernel
theorem dX10_write_37 : decode cX10_write 37 = .ok (.aload_n 0, 1) := by decide +kernel
theorem dX10_write_38 : decode cX10_write 38 = .ok (.dup, 1) := by decide +kernel
theorem dX10_write_39 : decode cX10_write 39 = .ok (.getfield 63, 3) := by decide +kernel
theorem dX10_write_42 : decode cX10_write 42 = .ok (.iconst 1, 1) := by decide +kernel
theorem dX10_write_43 : decode cX10_write 43 = .ok (.iadd, 1) := by decide +kernel
theorem dX10_write_44 : decode cX10_write 44 = .ok (.putfield 63, 3) := by decide +kernel
theorem dX10_write_47 : decode cX10_write 47 = .ok (.aload_n 0, 1) := by decide +kernel
theorem dX10_write_48 : decode cX10_write 48 = .ok (.getfield 63, 3) := by decide +kernel
theorem dX10_write_51 : decode cX10_write 51 = .ok (.ireturn, 1) := by decide +kernel
theorem dX10_wipe_0 : decode cX10_wipe 0 = .ok (.aload_n 0, 1) := by decide +kernel
theorem dX10_wipe_1 : decode cX10_wipe 1 = .ok (.getfield 63, 3) := by decide +kernel
theorem dX10_wipe_4 : decode cX10_wipe 4 = .ok (.istore_n 1, 1) := by decide +kernel
theorem dX10_wipe_5 : decode cX10_wipe 5 = .ok (.aload_n 0, 1) := by decide +kernel
theorem dX10_wipe_6 : decode cX10_wipe 6 = .ok (.iconst 0, 1) := by decide +kernel
theorem dX10_wipe_7 : decode cX10_wipe 7 = .ok (.putfield 63, 3) := by decide +kernel
theorem dX10_wipe_10 : decode cX10_wipe 10 = .ok (.iload_n 1, 1) := by decide +kernel
theorem dX10_wipe_11 : decode cX10_wipe 11 = .ok (.ireturn, 1) := by decide +kernel
theorem dX10_figureOf_0 : decode cX10_figureOf 0 = .ok (.aload_n 0, 1) := by decide +kernel
theorem dX10_figureOf_1 : decode cX10_figureOf 1 = .ok (.getfield 66, 3) := by decide +kernel
theorem dX10_figureOf_4 : decode cX10_figureOf 4 = .ok (.bipush (-9), 2) := by decide +kernel
theorem dX10_figureOf_6 : decode cX10_figureOf 6 = .ok (.if_icmp .ne 18, 3) := by decide +kernel
theorem dX10_figureOf_9 : decode cX10_figureOf 9 = .ok (.aload_n 0, 1) := by decide +kernel
theorem dX10_figureOf_10 : decode cX10_figureOf 10 = .ok (.getfield 69, 3) := by decide +kernel
theorem dX10_figureOf_13 : decode cX10_figureOf 13 = .ok (.aload_n 0, 1) := by decide +kernel
theorem dX10_figureOf_14 : decode cX10_figureOf 14 = .ok (.getfield 63, 3) := by decide +kernel
theorem dX10_figureOf_17 : decode cX10_figureOf 17 = .ok (.if_icmp .ge 7, 3) := by decide +kernel
theorem dX10_figureOf_20 : decode cX10_figureOf 20 = .ok (.iconst 1, 1) := by decide +kernel
theorem dX10_figureOf_21 : decode cX10_figureOf 21 = .ok (.goto 4, 3) := by decide +kernel
theorem dX10_figureOf_24 : decode cX10_figureOf 24 = .ok (.iconst 0, 1) := by decide +kernel
theorem dX10_figureOf_25 : decode cX10_figureOf 25 = .ok (.istore_n 2, 1) := by decide +kernel
theorem dX10_figureOf_26 : decode cX10_figureOf 26 = .ok (.iload_n 2, 1) := by decide +kernel
theorem dX10_figureOf_27 : decode cX10_figureOf 27 = .ok (.ifCond .eq 18, 3) := by decide +kernel
theorem dX10_figureOf_30 : decode cX10_figureOf 30 = .ok (.aload_n 0, 1) := by decide +kernel
theorem dX10_figureOf_31 : decode cX10_figureOf 31 = .ok (.getfield 25, 3) := by decide +kernel
theorem dX10_figureOf_34 : decode cX10_figureOf 34 = .ok (.aload_n 0, 1) := by decide +kernel
theorem dX10_figureOf_35 : decode cX10_figureOf 35 = .ok (.getfield 69, 3) := by decide +kernel
theorem dX10_figureOf_38 : decode cX10_figureOf 38 = .ok (.iaload, 1) := by decide +kernel
theorem dX10_figureOf_39 : decode cX10_figureOf 39 = .ok (.bipush 48, 2) := by decide +kernel
theorem dX10_figureOf_41 : decode cX10_figureOf 41 = .ok (.isub, 1) := by decide +kernel
theorem dX10_figureOf_42 : decode cX10_figureOf 42 = .ok (.goto 4, 3) := by decide +kernel
theorem dX10_figureOf_45 : decode cX10_figureOf 45 = .ok (.iconst 0, 1) := by decide +kernel
theorem dX10_figureOf_46 : decode cX10_figureOf 46 = .ok (.istore_n 3, 1) := by decide +kernel
theorem dX10_figureOf_47 : decode cX10_figureOf 47 = .ok (.iload_n 2, 1) := by decide +kernel
theorem dX10_figureOf_48 : decode cX10_figureOf 48 = .ok (.ifCond .eq 23, 3) := by decide +kernel
theorem dX10_figureOf_51 : decode cX10_figureOf 51 = .ok (.iload_n 3, 1) := by decide +kernel
theorem dX10_figureOf_52 : decode cX10_figureOf 52 = .ok (.i2l, 1) := by decide +kernel
theorem dX10_figureOf_53 : decode cX10_figureOf 53 = .ok (.lconst 0, 1) := by decide +kernel
theorem dX10_figureOf_54 : decode cX10_figureOf 54 = .ok (.ldc2_w 72, 3) := by decide +kernel
theorem dX10_figureOf_57 : decode cX10_figureOf 57 = .ok (.invokestatic 59, 3) := by decide +kernel
theorem dX10_figureOf_60 : decode cX10_figureOf 60 = .ok (.ifCond .eq 11, 3) := by decide +kernel
theorem dX10_figureOf_63 : decode cX10_figureOf 63 = .ok (.iload_n 1, 1) := by decide +kernel
theorem dX10_figureOf_64 : decode cX10_figureOf 64 = .ok (.iload_n 3, 1) := by decide +kernel
theorem dX10_figureOf_65 : decode cX10_figureOf 65 = .ok (.invokestatic 74, 3) := by decide +kernel
theorem dX10_figureOf_68 : decode cX10_figureOf 68 = .ok (.ifCond .ne 29, 3) := by decide +kernel
theorem dX10_figureOf_71 : decode cX10_figureOf 71 = .ok (.aload_n 0, 1) := by decide +kernel
theorem dX10_figureOf_72 : decode cX10_figureOf 72 = .ok (.aload_n 0, 1) := by decide +kernel
theorem dX10_figureOf_73 : decode cX10_figureOf 73 = .ok (.getfield 66, 3) := by decide +kernel
theorem dX10_figureOf_76 : decode cX10_figureOf 76 = .ok (.bipush (-9), 2) := by decide +kernel
theorem dX10_figureOf_78 : decode cX10_figureOf 78 = .ok (.if_icmp .ne 10, 3) := by decide +kernel
theorem dX10_figureOf_81 : decode cX10_figureOf 81 = .ok (.aload_n 0, 1) := by decide +kernel
theorem dX10_figureOf_82 : decode cX10_figureOf 82 = .ok (.getfield 69, 3) := by decide +kernel
theorem dX10_figureOf_85 : decode cX10_figureOf 85 = .ok (.goto 7, 3) := by decide +kernel
theorem dX10_figureOf_88 : decode cX10_figureOf 88 = .ok (.aload_n 0, 1) := by decide +kernel
theorem dX10_figureOf_89 : decode cX10_figureOf 89 = .ok (.getfield 66, 3) := by decide +kernel
theorem dX10_figureOf_92 : decode cX10_figureOf 92 = .ok (.putfield 66, 3) := by decide +kernel
theorem dX10_figureOf_95 : decode cX10_figureOf 95 = .ok (.iconst 0, 1) := by decide +kernel
theorem dX10_figureOf_96 : decode cX10_figureOf 96 = .ok (.ireturn, 1) := by decide +kernel
theorem dX10_figureOf_97 : decode cX10_figureOf 97 = .ok (.aload_n 0, 1) := by decide +kernel
theorem dX10_figureOf_98 : decode cX10_figureOf 98 = .ok (.dup, 1) := by decide +kernel
theorem dX10_figureOf_99 : decode cX10_figureOf 99 = .ok (.getfield 69, 3) := by decide +kernel
theorem dX10_figureOf_102 : decode cX10_figureOf 102 = .ok (.iconst 1, 1) := by decide +kernel
theorem dX10_figureOf_103 : decode cX10_figureOf 103 = .ok (.iadd, 1) := by decide +kernel
theorem dX10_figureOf_104 : decode cX10_figureOf 104 = .ok (.putfield 69, 3) := by decide +kernel
theorem dX10_figureOf_107 : decode cX10_figureOf 107 = .ok (.iload_n 3, 1) := by decide +kernel
theorem dX10_figureOf_108 : decode cX10_figureOf 108 = .ok (.ireturn, 1) := by decide +kernel
theorem dX10_readText_0 : decode cX10_readText 0 = .ok (.aload_n 0, 1) := by decide +kernel
theorem dX10_readText_1 : decode cX10_readText 1 = .ok (.iconst 0, 1) := by decide +kernel
theorem dX10_readText_2 : decode cX10_readText 2 = .ok (.putfield 69, 3) := by decide +kernel
theorem dX10_readText_5 : decode cX10_readText 5 = .ok (.aload_n 0, 1) := by decide +kernel
theorem dX10_readText_6 : decode cX10_readText 6 = .ok (.bipush (-9), 2) := by decide +kernel
theorem dX10_readText_8 : decode cX10_readText 8 = .ok (.putfield 66, 3) := by decide +kernel
theorem dX10_readText_11 : decode cX10_readText 11 = .ok (.aload_n 0, 1) := by decide +kernel
theorem dX10_readText_12 : decode cX10_readText 12 = .ok (.iconst 0, 1) := by decide +kernel
theorem dX10_readText_13 : decode cX10_readText 13 = .ok (.putfield 78, 3) := by decide +kernel
theorem dX10_readText_16 : decode cX10_readText 16 = .ok (.aload_n 0, 1) := by decide +kernel
theorem dX10_readText_17 : decode cX10_readText 17 = .ok (.iconst 0, 1) := by decide +kernel
theorem dX10_readText_18 : decode cX10_readText 18 = .ok (.putfield 81, 3) := by decide +kernel
theorem dX10_readText_21 : decode cX10_readText 21 = .ok (.aload_n 0, 1) := by decide +kernel
theorem dX10_readText_22 : decode cX10_readText 22 = .ok (.getfield 63, 3) := by decide +kernel
theorem dX10_readText_25 : decode cX10_readText 25 = .ok (.ifCond .eq 14, 3) := by decide +kernel
theorem dX10_readText_28 : decode cX10_readText 28 = .ok (.aload_n 0, 1) := by decide +kernel
theorem dX10_readText_29 : decode cX10_readText 29 = .ok (.getfield 25, 3) := by decide +kernel
theorem dX10_readText_32 : decode cX10_readText 32 = .ok (.iconst 0, 1) := by decide +kernel
theorem dX10_readText_33 : decode cX10_readText 33 = .ok (.iaload, 1) := by decide +kernel
theorem dX10_readText_34 : decode cX10_readText 34 = .ok (.bipush 67, 2) := by decide +kernel
theorem dX10_readText_36 : decode cX10_readText 36 = .ok (.if_icmp .eq 5, 3) := by decide +kernel
theorem dX10_readText_39 : decode cX10_readText 39 = .ok (.iconst 0, 1) := by decide +kernel
theorem dX10_readText_40 : decode cX10_readText 40 = .ok (.ireturn, 1) := by decide +kernel
theorem dX10_readText_41 : decode cX10_readText 41 = .ok (.aload_n 0, 1) := by decide +kernel
theorem dX10_readText_42 : decode cX10_readText 42 = .ok (.iconst 1, 1) := by decide +kernel
theorem dX10_readText_43 : decode cX10_readText 43 = .ok (.putfield 69, 3) := by decide +kernel
theorem dX10_readText_46 : decode cX10_readText 46 = .ok (.aload_n 0, 1) := by decide +kernel
theorem dX10_readText_47 : decode cX10_readText 47 = .ok (.getfield 66, 3) := by decide +kernel
theorem dX10_readText_50 : decode cX10_readText 50 = .ok (.bipush (-9), 2) := by decide +kernel
theorem dX10_readText_52 : decode cX10_readText 52 = .ok (.if_icmp .ne 30, 3) := by decide +kernel
theorem dX10_readText_55 : decode cX10_readText 55 = .ok (.aload_n 0, 1) := by decide +kernel
theorem dX10_readText_56 : decode cX10_readText 56 = .ok (.getfield 69, 3) := by decide +kernel
theorem dX10_readText_59 : decode cX10_readText 59 = .ok (.aload_n 0, 1) := by decide +kernel
theorem dX10_readText_60 : decode cX10_readText 60 = .ok (.getfield 63, 3) := by decide +kernel
theorem dX10_readText_63 : decode cX10_readText 63 = .ok (.if_icmp .ge 19, 3) := by decide +kernel
theorem dX10_readText_66 : decode cX10_readText 66 = .ok (.aload_n 0, 1) := by decide +kernel
theorem dX10_readText_67 : decode cX10_readText 67 = .ok (.aload_n 0, 1) := by decide +kernel
theorem dX10_readText_68 : decode cX10_readText 68 = .ok (.getfield 25, 3) := by decide +kernel
theorem dX10_readText_71 : decode cX10_readText 71 = .ok (.aload_n 0, 1) := by decide +kernel
theorem dX10_readText_72 : decode cX10_readText 72 = .ok (.getfield 69, 3) := by decide +kernel
theorem dX10_readText_75 : decode cX10_readText 75 = .ok (.iaload, 1) := by decide +kernel
theorem dX10_readText_76 : decode cX10_readText 76 = .ok (.invokevirtual 84, 3) := by decide +kernel
theorem dX10_readText_79 : decode cX10_readText 79 = .ok (.goto (-33), 3) := by decide +kernel
theorem dX10_readText_82 : decode cX10_readText 82 = .ok (.aload_n 0, 1) := by decide +kernel
theorem dX10_readText_83 : decode cX10_readText 83 = .ok (.getfield 66, 3) := by decide +kernel
theorem dX10_readText_86 : decode cX10_readText 86 = .ok (.ireturn, 1) := by decide +kernel
theorem dX10_readPart_0 : decode cX10_readPart 0 = .ok (.iload_n 1, 1) := by decide +kernel
theorem dX10_readPart_1 : decode cX10_readPart 1 = .ok (.bipush 83, 2) := by decide +kernel
theorem dX10_readPart_3 : decode cX10_readPart 3 = .ok (.if_icmp .ne 12, 3) := by decide +kernel
theorem dX10_readPart_6 : decode cX10_readPart 6 = .ok (.aload_n 0, 1) := by decide +kernel
theorem dX10_readPart_7 : decode cX10_readPart 7 = .ok (.getfield 78, 3) := by decide +kernel
theorem dX10_readPart_10 : decode cX10_readPart 10 = .ok (.bipush 6, 2) := by decide +kernel
theorem dX10_readPart_12 : decode cX10_readPart 12 = .ok (.if_icmp .ne 12, 3) := by decide +kernel
theorem dX10_readPart_15 : decode cX10_readPart 15 = .ok (.aload_n 0, 1) := by decide +kernel
theorem dX10_readPart_16 : decode cX10_readPart 16 = .ok (.aload_n 0, 1) := by decide +kernel
theorem dX10_readPart_17 : decode cX10_readPart 17 = .ok (.getfield 69, 3) := by decide +kernel
theorem dX10_readPart_20 : decode cX10_readPart 20 = .ok (.putfield 66, 3) := by decide +kernel
theorem dX10_readPart_23 : decode cX10_readPart 23 = .ok (.return_, 1) := by decide +kernel
theorem dX10_readPart_24 : decode cX10_readPart 24 = .ok (.aload_n 0, 1) := by decide +kernel
theorem dX10_readPart_25 : decode cX10_readPart 25 = .ok (.dup, 1) := by decide +kernel
theorem dX10_readPart_26 : decode cX10_readPart 26 = .ok (.getfield 69, 3) := by decide +kernel
theorem dX10_readPart_29 : decode cX10_readPart 29 = .ok (.iconst 1, 1) := by decide +kernel
theorem dX10_readPart_30 : decode cX10_readPart 30 = .ok (.iadd, 1) := by decide +kernel
theorem dX10_readPart_31 : decode cX10_readPart 31 = .ok (.putfield 69, 3) := by decide +kernel
theorem dX10_readPart_34 : decode cX10_readPart 34 = .ok (.iconst 5, 1) := by decide +kernel
theorem dX10_readPart_35 : decode cX10_readPart 35 = .ok (.aload_n 0, 1) := by decide +kernel
theorem dX10_readPart_36 : decode cX10_readPart 36 = .ok (.getfield 78, 3) := by decide +kernel
theorem dX10_readPart_39 : decode cX10_readPart 39 = .ok (.imul, 1) := by decide +kernel
theorem dX10_readPart_40 : decode cX10_readPart 40 = .ok (.istore_n 2, 1) := by decide +kernel
theorem dX10_readPart_41 : decode cX10_readPart 41 = .ok (.aload_n 0, 1) := by decide +kernel
theorem dX10_readPart_42 : decode cX10_readPart 42 = .ok (.getfield 22, 3) := by decide +kernel
theorem dX10_readPart_45 : decode cX10_readPart 45 = .ok (.iload_n 2, 1) := by decide +kernel
theorem dX10_readPart_46 : decode cX10_readPart 46 = .ok (.aload_n 0, 1) := by decide +kernel
theorem dX10_readPart_47 : decode cX10_readPart 47 = .ok (.sipush 255, 3) := by decide +kernel
theorem dX10_readPart_50 : decode cX10_readPart 50 = .ok (.aload_n 0, 1) := by decide +kernel
theorem dX10_readPart_51 : decode cX10_readPart 51 = .ok (.getfield 81, 3) := by decide +kernel
theorem dX10_readPart_54 : decode cX10_readPart 54 = .ok (.iconst (-1), 1) := by decide +kernel
theorem dX10_readPart_55 : decode cX10_readPart 55 = .ok (.ixor, 1) := by decide +kernel
theorem dX10_readPart_56 : decode cX10_readPart 56 = .ok (.iand, 1) := by decide +kernel
theorem dX10_readPart_57 : decode cX10_readPart 57 = .ok (.invokevirtual 88, 3) := by decide +kernel
theorem dX10_readPart_60 : decode cX10_readPart 60 = .ok (.iastore, 1) := by decide +kernel
theorem dX10_readPart_61 : decode cX10_readPart 61 = .ok (.iconst 1, 1) := by decide +kernel
theorem dX10_readPart_62 : decode cX10_readPart 62 = .ok (.istore_n 3, 1) := by decide +kernel
theorem dX10_readPart_63 : decode cX10_readPart 63 = .ok (.iload_n 3, 1) := by decide +kernel
theorem dX10_readPart_64 : decode cX10_readPart 64 = .ok (.iconst 4, 1) := by decide +kernel
theorem dX10_readPart_65 : decode cX10_readPart 65 = .ok (.if_icmp .ge 24, 3) := by decide +kernel
theorem dX10_readPart_68 : decode cX10_readPart 68 = .ok (.aload_n 0, 1) := by decide +kernel
theorem dX10_readPart_69 : decode cX10_readPart 69 = .ok (.getfield 22, 3) := by decide +kernel
theorem dX10_readPart_72 : decode cX10_readPart 72 = .ok (.iload_n 2, 1) := by decide +kernel
theorem dX10_readPart_73 : decode cX10_readPart 73 = .ok (.iload_n 3, 1) := by decide +kernel
theorem dX10_readPart_74 : decode cX10_readPart 74 = .ok (.iadd, 1) := by decide +kernel
theorem dX10_readPart_75 : decode cX10_readPart 75 = .ok (.aload_n 0, 1) := by decide +kernel
theorem dX10_readPart_76 : decode cX10_readPart 76 = .ok (.sipush 1023, 3) := by decide +kernel
theorem dX10_readPart_79 : decode cX10_readPart 79 = .ok (.invokevirtual 88, 3) := by decide +kernel
theorem dX10_readPart_82 : decode cX10_readPart 82 = .ok (.iastore, 1) := by decide +kernel
theorem dX10_readPart_83 : decode cX10_readPart 83 = .ok (.iinc 3 1, 3) := by decide +kernel
theorem dX10_readPart_86 : decode cX10_readPart 86 = .ok (.goto (-23), 3) := by decide +kernel
theorem dX10_readPart_89 : decode cX10_readPart 89 = .ok (.aload_n 0, 1) := by decide +kernel
theorem dX10_readPart_90 : decode cX10_readPart 90 = .ok (.getfield 22, 3) := by decide +kernel
theorem dX10_readPart_93 : decode cX10_readPart 93 = .ok (.iload_n 2, 1) := by decide +kernel
theorem dX10_readPart_94 : decode cX10_readPart 94 = .ok (.iconst 4, 1) := by decide +kernel
theorem dX10_readPart_95 : decode cX10_readPart 95 = .ok (.iadd, 1) := by decide +kernel
theorem dX10_readPart_96 : decode cX10_readPart 96 = .ok (.aload_n 0, 1) := by decide +kernel
theorem dX10_readPart_97 : decode cX10_readPart 97 = .ok (.bipush 15, 2) := by decide +kernel
theorem dX10_readPart_99 : decode cX10_readPart 99 = .ok (.invokevirtual 88, 3) := by decide +kernel
theorem dX10_readPart_102 : decode cX10_readPart 102 = .ok (.iastore, 1) := by decide +kernel
theorem dX10_readPart_103 : decode cX10_readPart 103 = .ok (.aload_n 0, 1) := by decide +kernel
theorem dX10_readPart_104 : decode cX10_readPart 104 = .ok (.dup, 1) := by decide +kernel
theorem dX10_readPart_105 : decode cX10_readPart 105 = .ok (.getfield 81, 3) := by decide +kernel
theorem dX10_readPart_108 : decode cX10_readPart 108 = .ok (.iconst 1, 1) := by decide +kernel
theorem dX10_readPart_109 : decode cX10_readPart 109 = .ok (.aload_n 0, 1) := by decide +kernel
theorem dX10_readPart_110 : decode cX10_readPart 110 = .ok (.getfield 22, 3) := by decide +kernel
theorem dX10_readPart_113 : decode cX10_readPart 113 = .ok (.iload_n 2, 1) := by decide +kernel
theorem dX10_readPart_114 : decode cX10_readPart 114 = .ok (.iaload, 1) := by decide +kernel
theorem dX10_readPart_115 : decode cX10_readPart 115 = .ok (.ishl, 1) := by decide +kernel
theorem dX10_readPart_116 : decode cX10_readPart 116 = .ok (.ior, 1) := by decide +kernel
theorem dX10_readPart_117 : decode cX10_readPart 117 = .ok (.putfield 81, 3) := by decide +kernel
theorem dX10_readPart_120 : decode cX10_readPart 120 = .ok (.aload_n 0, 1) := by decide +kernel
theorem dX10_readPart_121 : decode cX10_readPart 121 = .ok (.dup, 1) := by decide +kernel
theorem dX10_readPart_122 : decode cX10_readPart 122 = .ok (.getfield 78, 3) := by decide +kernel
theorem dX10_readPart_125 : decode cX10_readPart 125 = .ok (.iconst 1, 1) := by decide +kernel
theorem dX10_readPart_126 : decode cX10_readPart 126 = .ok (.iadd, 1) := by decide +kernel
theorem dX10_readPart_127 : decode cX10_readPart 127 = .ok (.putfield 78, 3) := by decide +kernel
theorem dX10_readPart_130 : decode cX10_readPart 130 = .ok (.return_, 1) := by decide +kernel
theorem dX10_fault_0 : decode cX10_fault 0 = .ok (.aload_n 0, 1) := by decide +kernel
theorem dX10_fault_1 : decode cX10_fault 1 = .ok (.invokevirtual 92, 3) := by decide +kernel
theorem dX10_fault_4 : decode cX10_fault 4 = .ok (.ireturn, 1) := by decide +kernel
theorem dX10_choir_0 : decode cX10_choir 0 = .ok (.aload_n 0, 1) := by decide +kernel
theorem dX10_choir_1 : decode cX10_choir 1 = .ok (.invokevirtual 92, 3) := by decide +kernel
theorem dX10_choir_4 : decode cX10_choir 4 = .ok (.bipush (-9), 2) := by decide +kernel
theorem dX10_choir_6 : decode cX10_choir 6 = .ok (.if_icmp .eq 6, 3) := by decide +kernel
theorem dX10_choir_9 : decode cX10_choir 9 = .ok (.bipush (-3), 2) := by decide +kernel
theorem dX10_choir_11 : decode cX10_choir 11 = .ok (.ireturn, 1) := by decide +kernel
theorem dX10_choir_12 : decode cX10_choir 12 = .ok (.aload_n 0, 1) := by decide +kernel
theorem dX10_choir_13 : decode cX10_choir 13 = .ok (.aload_n 0, 1) := by decide +kernel
theorem dX10_choir_14 : decode cX10_choir 14 = .ok (.getfield 78, 3) := by decide +kernel
theorem dX10_choir_17 : decode cX10_choir 17 = .ok (.putfield 96, 3) := by decide +kernel
theorem dX10_choir_20 : decode cX10_choir 20 = .ok (.iconst 0, 1) := by decide +kernel
theorem dX10_choir_21 : decode cX10_choir 21 = .ok (.istore_n 1, 1) := by decide +kernel
theorem dX10_choir_22 : decode cX10_choir 22 = .ok (.iload_n 1, 1) := by decide +kernel
theorem dX10_choir_23 : decode cX10_choir 23 = .ok (.bipush 20, 2) := by decide +kernel
theorem dX10_choir_25 : decode cX10_choir 25 = .ok (.if_icmp .ge 16, 3) := by decide +kernel
theorem dX10_choir_28 : decode cX10_choir 28 = .ok (.aload_n 0, 1) := by decide +kernel
theorem dX10_choir_29 : decode cX10_choir 29 = .ok (.getfield 19, 3) := by decide +kernel
theorem dX10_choir_32 : decode cX10_choir 32 = .ok (.iload_n 1, 1) := by decide +kernel
theorem dX10_choir_33 : decode cX10_choir 33 = .ok (.iconst 0, 1) := by decide +kernel
theorem dX10_choir_34 : decode cX10_choir 34 = .ok (.iastore, 1) := by decide +kernel
theorem dX10_choir_35 : decode cX10_choir 35 = .ok (.iinc 1 1, 3) := by decide +kernel
theorem dX10_choir_38 : decode cX10_choir 38 = .ok (.goto (-16), 3) := by decide +kernel
theorem dX10_choir_41 : decode cX10_choir 41 = .ok (.iconst 0, 1) := by decide +kernel
theorem dX10_choir_42 : decode cX10_choir 42 = .ok (.istore_n 1, 1) := by decide +kernel
theorem dX10_choir_43 : decode cX10_choir 43 = .ok (.iload_n 1, 1) := by decide +kernel
theorem dX10_choir_44 : decode cX10_choir 44 = .ok (.aload_n 0, 1) := by decide +kernel
theorem dX10_choir_45 : decode cX10_choir 45 = .ok (.getfield 96, 3) := by decide +kernel
theorem dX10_choir_48 : decode cX10_choir 48 = .ok (.if_icmp .ge 105, 3) := by decide +kernel
theorem dX10_choir_51 : decode cX10_choir 51 = .ok (.aload_n 0, 1) := by decide +kernel
theorem dX10_choir_52 : decode cX10_choir 52 = .ok (.getfield 19, 3) := by decide +kernel
theorem dX10_choir_55 : decode cX10_choir 55 = .ok (.iload_n 1, 1) := by decide +kernel
theorem dX10_choir_56 : decode cX10_choir 56 = .ok (.aload_n 0, 1) := by decide +kernel
theorem dX10_choir_57 : decode cX10_choir 57 = .ok (.getfield 22, 3) := by decide +kernel
theorem dX10_choir_60 : decode cX10_choir 60 = .ok (.iconst 5, 1) := by decide +kernel
theorem dX10_choir_61 : decode cX10_choir 61 = .ok (.iload_n 1, 1) := by decide +kernel
theorem dX10_choir_62 : decode cX10_choir 62 = .ok (.imul, 1) := by decide +kernel
theorem dX10_choir_63 : decode cX10_choir 63 = .ok (.iaload, 1) := by decide +kernel
theorem dX10_choir_64 : decode cX10_choir 64 = .ok (.iastore, 1) := by decide +kernel
theorem dX10_choir_65 : decode cX10_choir 65 = .ok (.aload_n 0, 1) := by decide +kernel
theorem dX10_choir_66 : decode cX10_choir 66 = .ok (.getfield 7, 3) := by decide +kernel
theorem dX10_choir_69 : decode cX10_choir 69 = .ok (.iload_n 1, 1) := by decide +kernel
theorem dX10_choir_70 : decode cX10_choir 70 = .ok (.aload_n 0, 1) := by decide +kernel
theorem dX10_choir_71 : decode cX10_choir 71 = .ok (.getfield 22, 3) := by decide +kernel
theorem dX10_choir_74 : decode cX10_choir 74 = .ok (.iconst 5, 1) := by decide +kernel
theorem dX10_choir_75 : decode cX10_choir 75 = .ok (.iload_n 1, 1) := by decide +kernel
theorem dX10_choir_76 : decode cX10_choir 76 = .ok (.imul, 1) := by decide +kernel
theorem dX10_choir_77 : decode cX10_choir 77 = .ok (.iconst 1, 1) := by decide +kernel
theorem dX10_choir_78 : decode cX10_choir 78 = .ok (.iadd, 1) := by decide +kernel
theorem dX10_choir_79 : decode cX10_choir 79 = .ok (.iaload, 1) := by decide +kernel
theorem dX10_choir_80 : decode cX10_choir 80 = .ok (.iastore, 1) := by decide +kernel
theorem dX10_choir_81 : decode cX10_choir 81 = .ok (.aload_n 0, 1) := by decide +kernel
theorem dX10_choir_82 : decode cX10_choir 82 = .ok (.getfield 13, 3) := by decide +kernel
theorem dX10_choir_85 : decode cX10_choir 85 = .ok (.iload_n 1, 1) := by decide +kernel
theorem dX10_choir_86 : decode cX10_choir 86 = .ok (.aload_n 0, 1) := by decide +kernel
theorem dX10_choir_87 : decode cX10_choir 87 = .ok (.getfield 22, 3) := by decide +kernel
theorem dX10_choir_90 : decode cX10_choir 90 = .ok (.iconst 5, 1) := by decide +kernel
theorem dX10_choir_91 : decode cX10_choir 91 = .ok (.iload_n 1, 1) := by decide +kernel
theorem dX10_choir_92 : decode cX10_choir 92 = .ok (.imul, 1) := by decide +kernel
theorem dX10_choir_93 : decode cX10_choir 93 = .ok (.iconst 2, 1) := by decide +kernel
theorem dX10_choir_94 : decode cX10_choir 94 = .ok (.iadd, 1) := by decide +kernel
theorem dX10_choir_95 : decode cX10_choir 95 = .ok (.iaload, 1) := by decide +kernel
theorem dX10_choir_96 : decode cX10_choir 96 = .ok (.iastore, 1) := by decide +kernel
theorem dX10_choir_97 : decode cX10_choir 97 = .ok (.aload_n 0, 1) := by decide +kernel
theorem dX10_choir_98 : decode cX10_choir 98 = .ok (.getfield 19, 3) := by decide +kernel
theorem dX10_choir_101 : decode cX10_choir 101 = .ok (.bipush 6, 2) := by decide +kernel
theorem dX10_choir_103 : decode cX10_choir 103 = .ok (.iload_n 1, 1) := by decide +kernel
theorem dX10_choir_104 : decode cX10_choir 104 = .ok (.iadd, 1) := by decide +kernel
theorem dX10_choir_105 : decode cX10_choir 105 = .ok (.aload_n 0, 1) := by decide +kernel
theorem dX10_choir_106 : decode cX10_choir 106 = .ok (.getfield 22, 3) := by decide +kernel
theorem dX10_choir_109 : decode cX10_choir 109 = .ok (.iconst 5, 1) := by decide +kernel
theorem dX10_choir_110 : decode cX10_choir 110 = .ok (.iload_n 1, 1) := by decide +kernel
theorem dX10_choir_111 : decode cX10_choir 111 = .ok (.imul, 1) := by decide +kernel
theorem dX10_choir_112 : decode cX10_choir 112 = .ok (.iconst 3, 1) := by decide +kernel
theorem dX10_choir_113 : decode cX10_choir 113 = .ok (.iadd, 1) := by decide +kernel
theorem dX10_choir_114 : decode cX10_choir 114 = .ok (.iaload, 1) := by decide +kernel
theorem dX10_choir_115 : decode cX10_choir 115 = .ok (.iastore, 1) := by decide +kernel
theorem dX10_choir_116 : decode cX10_choir 116 = .ok (.aload_n 0, 1) := by decide +kernel
theorem dX10_choir_117 : decode cX10_choir 117 = .ok (.getfield 16, 3) := by decide +kernel
theorem dX10_choir_120 : decode cX10_choir 120 = .ok (.iload_n 1, 1) := by decide +kernel
theorem dX10_choir_121 : decode cX10_choir 121 = .ok (.aload_n 0, 1) := by decide +kernel
theorem dX10_choir_122 : decode cX10_choir 122 = .ok (.getfield 22, 3) := by decide +kernel
theorem dX10_choir_125 : decode cX10_choir 125 = .ok (.iconst 5, 1) := by decide +kernel
theorem dX10_choir_126 : decode cX10_choir 126 = .ok (.iload_n 1, 1) := by decide +kernel
theorem dX10_choir_127 : decode cX10_choir 127 = .ok (.imul, 1) := by decide +kernel
theorem dX10_choir_128 : decode cX10_choir 128 = .ok (.iconst 4, 1) := by decide +kernel
theorem dX10_choir_129 : decode cX10_choir 129 = .ok (.iadd, 1) := by decide +kernel
theorem dX10_choir_130 : decode cX10_choir 130 = .ok (.iaload, 1) := by decide +kernel
theorem dX10_choir_131 : decode cX10_choir 131 = .ok (.iastore, 1) := by decide +kernel
theorem dX10_choir_132 : decode cX10_choir 132 = .ok (.aload_n 0, 1) := by decide +kernel
theorem dX10_choir_133 : decode cX10_choir 133 = .ok (.getfield 19, 3) := by decide +kernel
theorem dX10_choir_136 : decode cX10_choir 136 = .ok (.bipush 12, 2) := by decide +kernel
theorem dX10_choir_138 : decode cX10_choir 138 = .ok (.iload_n 1, 1) := by decide +kernel
theorem dX10_choir_139 : decode cX10_choir 139 = .ok (.iadd, 1) := by decide +kernel
theorem dX10_choir_140 : decode cX10_choir 140 = .ok (.aload_n 0, 1) := by decide +kernel
theorem dX10_choir_141 : decode cX10_choir 141 = .ok (.getfield 7, 3) := by decide +kernel
theorem dX10_choir_144 : decode cX10_choir 144 = .ok (.iload_n 1, 1) := by decide +kernel
theorem dX10_choir_145 : decode cX10_choir 145 = .ok (.iaload, 1) := by decide +kernel
theorem dX10_choir_146 : decode cX10_choir 146 = .ok (.iastore, 1) := by decide +kernel
theorem dX10_choir_147 : decode cX10_choir 147 = .ok (.iinc 1 1, 3) := by decide +kernel
theorem dX10_choir_150 : decode cX10_choir 150 = .ok (.goto (-107), 3) := by decide +kernel
theorem dX10_choir_153 : decode cX10_choir 153 = .ok (.aload_n 0, 1) := by decide +kernel
theorem dX10_choir_154 : decode cX10_choir 154 = .ok (.iconst 0, 1) := by decide +kernel
theorem dX10_choir_155 : decode cX10_choir 155 = .ok (.putfield 99, 3) := by decide +kernel
theorem dX10_choir_158 : decode cX10_choir 158 = .ok (.aload_n 0, 1) := by decide +kernel
theorem dX10_choir_159 : decode cX10_choir 159 = .ok (.getfield 50, 3) := by decide +kernel
theorem dX10_choir_162 : decode cX10_choir 162 = .ok (.iconst 0, 1) := by decide +kernel
theorem dX10_choir_163 : decode cX10_choir 163 = .ok (.iconst 0, 1) := by decide +kernel
theorem dX10_choir_164 : decode cX10_choir 164 = .ok (.bastore, 1) := by decide +kernel
theorem dX10_choir_165 : decode cX10_choir 165 = .ok (.aload_n 0, 1) := by decide +kernel
theorem dX10_choir_166 : decode cX10_choir 166 = .ok (.getfield 50, 3) := by decide +kernel
theorem dX10_choir_169 : decode cX10_choir 169 = .ok (.iconst 1, 1) := by decide +kernel
theorem dX10_choir_170 : decode cX10_choir 170 = .ok (.iconst 0, 1) := by decide +kernel
theorem dX10_choir_171 : decode cX10_choir 171 = .ok (.bastore, 1) := by decide +kernel
theorem dX10_choir_172 : decode cX10_choir 172 = .ok (.aload_n 0, 1) := by decide +kernel
theorem dX10_choir_173 : decode cX10_choir 173 = .ok (.getfield 96, 3) := by decide +kernel
theorem dX10_choir_176 : decode cX10_choir 176 = .ok (.ireturn, 1) := by decide +kernel
theorem dX10_isSinger_0 : decode cX10_isSinger 0 = .ok (.iload_n 1, 1) := by decide +kernel
theorem dX10_isSinger_1 : decode cX10_isSinger 1 = .ok (.i2l, 1) := by decide +kernel
theorem dX10_isSinger_2 : decode cX10_isSinger 2 = .ok (.lconst 0, 1) := by decide +kernel
theorem dX10_isSinger_3 : decode cX10_isSinger 3 = .ok (.aload_n 0, 1) := by decide +kernel
theorem dX10_isSinger_4 : decode cX10_isSinger 4 = .ok (.getfield 96, 3) := by decide +kernel
theorem dX10_isSinger_7 : decode cX10_isSinger 7 = .ok (.iconst 1, 1) := by decide +kernel
theorem dX10_isSinger_8 : decode cX10_isSinger 8 = .ok (.isub, 1) := by decide +kernel
theorem dX10_isSinger_9 : decode cX10_isSinger 9 = .ok (.i2l, 1) := by decide +kernel
theorem dX10_isSinger_10 : decode cX10_isSinger 10 = .ok (.invokestatic 59, 3) := by decide +kernel
theorem dX10_isSinger_13 : decode cX10_isSinger 13 = .ok (.ireturn, 1) := by decide +kernel
theorem dX10_seesOf_0 : decode cX10_seesOf 0 = .ok (.iconst 0, 1) := by decide +kernel
theorem dX10_seesOf_1 : decode cX10_seesOf 1 = .ok (.istore_n 3, 1) := by decide +kernel
theorem dX10_seesOf_2 : decode cX10_seesOf 2 = .ok (.iconst 0, 1) := by decide +kernel
theorem dX10_seesOf_3 : decode cX10_seesOf 3 = .ok (.istore 4, 2) := by decide +kernel
theorem dX10_seesOf_5 : decode cX10_seesOf 5 = .ok (.iload 4, 2) := by decide +kernel
theorem dX10_seesOf_7 : decode cX10_seesOf 7 = .ok (.aload_n 0, 1) := by decide +kernel
theorem dX10_seesOf_8 : decode cX10_seesOf 8 = .ok (.getfield 96, 3) := by decide +kernel
theorem dX10_seesOf_11 : decode cX10_seesOf 11 = .ok (.if_icmp .ge 79, 3) := by decide +kernel
theorem dX10_seesOf_14 : decode cX10_seesOf 14 = .ok (.aload_n 0, 1) := by decide +kernel
theorem dX10_seesOf_15 : decode cX10_seesOf 15 = .ok (.getfield 19, 3) := by decide +kernel
theorem dX10_seesOf_18 : decode cX10_seesOf 18 = .ok (.bipush 20, 2) := by decide +kernel
theorem dX10_seesOf_20 : decode cX10_seesOf 20 = .ok (.iload_n 1, 1) := by decide +kernel
theorem dX10_seesOf_21 : decode cX10_seesOf 21 = .ok (.imul, 1) := by decide +kernel
theorem dX10_seesOf_22 : decode cX10_seesOf 22 = .ok (.iload 4, 2) := by decide +kernel
theorem dX10_seesOf_24 : decode cX10_seesOf 24 = .ok (.iadd, 1) := by decide +kernel
theorem dX10_seesOf_25 : decode cX10_seesOf 25 = .ok (.iaload, 1) := by decide +kernel
theorem dX10_seesOf_26 : decode cX10_seesOf 26 = .ok (.aload_n 0, 1) := by decide +kernel
theorem dX10_seesOf_27 : decode cX10_seesOf 27 = .ok (.getfield 19, 3) := by decide +kernel
theorem dX10_seesOf_30 : decode cX10_seesOf 30 = .ok (.bipush 20, 2) := by decide +kernel
theorem dX10_seesOf_32 : decode cX10_seesOf 32 = .ok (.iload_n 1, 1) := by decide +kernel
theorem dX10_seesOf_33 : decode cX10_seesOf 33 = .ok (.imul, 1) := by decide +kernel
theorem dX10_seesOf_34 : decode cX10_seesOf 34 = .ok (.iload_n 2, 1) := by decide +kernel
theorem dX10_seesOf_35 : decode cX10_seesOf 35 = .ok (.iadd, 1) := by decide +kernel
theorem dX10_seesOf_36 : decode cX10_seesOf 36 = .ok (.iaload, 1) := by decide +kernel
theorem dX10_seesOf_37 : decode cX10_seesOf 37 = .ok (.isub, 1) := by decide +kernel
theorem dX10_seesOf_38 : decode cX10_seesOf 38 = .ok (.istore 5, 2) := by decide +kernel
theorem dX10_seesOf_40 : decode cX10_seesOf 40 = .ok (.iload_n 3, 1) := by decide +kernel
theorem dX10_seesOf_41 : decode cX10_seesOf 41 = .ok (.iload 4, 2) := by decide +kernel
theorem dX10_seesOf_43 : decode cX10_seesOf 43 = .ok (.iload_n 2, 1) := by decide +kernel
theorem dX10_seesOf_44 : decode cX10_seesOf 44 = .ok (.if_icmp .eq 37, 3) := by decide +kernel
theorem dX10_seesOf_47 : decode cX10_seesOf 47 = .ok (.aload_n 0, 1) := by decide +kernel
theorem dX10_seesOf_48 : decode cX10_seesOf 48 = .ok (.getfield 28, 3) := by decide +kernel
theorem dX10_seesOf_51 : decode cX10_seesOf 51 = .ok (.iload 4, 2) := by decide +kernel
theorem dX10_seesOf_53 : decode cX10_seesOf 53 = .ok (.invokestatic 74, 3) := by decide +kernel
theorem dX10_seesOf_56 : decode cX10_seesOf 56 = .ok (.ifCond .eq 25, 3) := by decide +kernel
theorem dX10_seesOf_59 : decode cX10_seesOf 59 = .ok (.iload 5, 2) := by decide +kernel
theorem dX10_seesOf_61 : decode cX10_seesOf 61 = .ok (.i2l, 1) := by decide +kernel
theorem dX10_seesOf_62 : decode cX10_seesOf 62 = .ok (.ldc2_w 102, 3) := by decide +kernel
theorem dX10_seesOf_65 : decode cX10_seesOf 65 = .ok (.ldc2_w 104, 3) := by decide +kernel
theorem dX10_seesOf_68 : decode cX10_seesOf 68 = .ok (.invokestatic 59, 3) := by decide +kernel
theorem dX10_seesOf_71 : decode cX10_seesOf 71 = .ok (.ifCond .eq 10, 3) := by decide +kernel
theorem dX10_seesOf_74 : decode cX10_seesOf 74 = .ok (.iconst 1, 1) := by decide +kernel
theorem dX10_seesOf_75 : decode cX10_seesOf 75 = .ok (.iload 4, 2) := by decide +kernel
theorem dX10_seesOf_77 : decode cX10_seesOf 77 = .ok (.ishl, 1) := by decide +kernel
theorem dX10_seesOf_78 : decode cX10_seesOf 78 = .ok (.goto 4, 3) := by decide +kernel
theorem dX10_seesOf_81 : decode cX10_seesOf 81 = .ok (.iconst 0, 1) := by decide +kernel
theorem dX10_seesOf_82 : decode cX10_seesOf 82 = .ok (.ior, 1) := by decide +kernel
theorem dX10_seesOf_83 : decode cX10_seesOf 83 = .ok (.istore_n 3, 1) := by decide +kernel
theorem dX10_seesOf_84 : decode cX10_seesOf 84 = .ok (.iinc 4 1, 3) := by decide +kernel
theorem dX10_seesOf_87 : decode cX10_seesOf 87 = .ok (.goto (-82), 3) := by decide +kernel
theorem dX10_seesOf_90 : decode cX10_seesOf 90 = .ok (.iload_n 3, 1) := by decide +kernel
theorem dX10_seesOf_91 : decode cX10_seesOf 91 = .ok (.ireturn, 1) := by decide +kernel
theorem dX10_kindNow_0 : decode cX10_kindNow 0 = .ok (.aload_n 0, 1) := by decide +kernel
theorem dX10_kindNow_1 : decode cX10_kindNow 1 = .ok (.getfield 19, 3) := by decide +kernel
theorem dX10_kindNow_4 : decode cX10_kindNow 4 = .ok (.bipush 20, 2) := by decide +kernel
theorem dX10_kindNow_6 : decode cX10_kindNow 6 = .ok (.iload_n 1, 1) := by decide +kernel
theorem dX10_kindNow_7 : decode cX10_kindNow 7 = .ok (.imul, 1) := by decide +kernel
theorem dX10_kindNow_8 : decode cX10_kindNow 8 = .ok (.bipush 18, 2) := by decide +kernel
theorem dX10_kindNow_10 : decode cX10_kindNow 10 = .ok (.iadd, 1) := by decide +kernel
theorem dX10_kindNow_11 : decode cX10_kindNow 11 = .ok (.iaload, 1) := by decide +kernel
theorem dX10_kindNow_12 : decode cX10_kindNow 12 = .ok (.iload_n 2, 1) := by decide +kernel
theorem dX10_kindNow_13 : decode cX10_kindNow 13 = .ok (.invokestatic 74, 3) := by decide +kernel
theorem dX10_kindNow_16 : decode cX10_kindNow 16 = .ok (.ifCond .eq 7, 3) := by decide +kernel
theorem dX10_kindNow_19 : decode cX10_kindNow 19 = .ok (.iconst 1, 1) := by decide +kernel
theorem dX10_kindNow_20 : decode cX10_kindNow 20 = .ok (.goto 9, 3) := by decide +kernel
theorem dX10_kindNow_23 : decode cX10_kindNow 23 = .ok (.aload_n 0, 1) := by decide +kernel
theorem dX10_kindNow_24 : decode cX10_kindNow 24 = .ok (.getfield 16, 3) := by decide +kernel
theorem dX10_kindNow_27 : decode cX10_kindNow 27 = .ok (.iload_n 2, 1) := by decide +kernel
theorem dX10_kindNow_28 : decode cX10_kindNow 28 = .ok (.iaload, 1) := by decide +kernel
theorem dX10_kindNow_29 : decode cX10_kindNow 29 = .ok (.ireturn, 1) := by decide +kernel
theorem dX10_enviesOf_0 : decode cX10_enviesOf 0 = .ok (.aload_n 0, 1) := by decide +kernel
theorem dX10_enviesOf_1 : decode cX10_enviesOf 1 = .ok (.iload_n 1, 1) := by decide +kernel
theorem dX10_enviesOf_2 : decode cX10_enviesOf 2 = .ok (.iload_n 2, 1) := by decide +kernel
theorem dX10_enviesOf_3 : decode cX10_enviesOf 3 = .ok (.invokevirtual 106, 3) := by decide +kernel
theorem dX10_enviesOf_6 : decode cX10_enviesOf 6 = .ok (.istore_n 3, 1) := by decide +kernel
theorem dX10_enviesOf_7 : decode cX10_enviesOf 7 = .ok (.iload_n 3, 1) := by decide +kernel
theorem dX10_enviesOf_8 : decode cX10_enviesOf 8 = .ok (.ifCond .eq 11, 3) := by decide +kernel
theorem dX10_enviesOf_11 : decode cX10_enviesOf 11 = .ok (.iload_n 3, 1) := by decide +kernel
theorem dX10_enviesOf_12 : decode cX10_enviesOf 12 = .ok (.iconst 3, 1) := by decide +kernel
theorem dX10_enviesOf_13 : decode cX10_enviesOf 13 = .ok (.if_icmp .eq 6, 3) := by decide +kernel
theorem dX10_enviesOf_16 : decode cX10_enviesOf 16 = .ok (.bipush (-9), 2) := by decide +kernel
theorem dX10_enviesOf_18 : decode cX10_enviesOf 18 = .ok (.ireturn, 1) := by decide +kernel
theorem dX10_enviesOf_19 : decode cX10_enviesOf 19 = .ok (.bipush 20, 2) := by decide +kernel
theorem dX10_enviesOf_21 : decode cX10_enviesOf 21 = .ok (.iload_n 1, 1) := by decide +kernel
theorem dX10_enviesOf_22 : decode cX10_enviesOf 22 = .ok (.imul, 1) := by decide +kernel
theorem dX10_enviesOf_23 : decode cX10_enviesOf 23 = .ok (.iload_n 3, 1) := by decide +kernel
theorem dX10_enviesOf_24 : decode cX10_enviesOf 24 = .ok (.ifCond .ne 8, 3) := by decide +kernel
theorem dX10_enviesOf_27 : decode cX10_enviesOf 27 = .ok (.bipush 6, 2) := by decide +kernel
theorem dX10_enviesOf_29 : decode cX10_enviesOf 29 = .ok (.goto 5, 3) := by decide +kernel
theorem dX10_enviesOf_32 : decode cX10_enviesOf 32 = .ok (.bipush 12, 2) := by decide +kernel
theorem dX10_enviesOf_34 : decode cX10_enviesOf 34 = .ok (.iadd, 1) := by decide +kernel
theorem dX10_enviesOf_35 : decode cX10_enviesOf 35 = .ok (.istore 4, 2) := by decide +kernel
theorem dX10_enviesOf_37 : decode cX10_enviesOf 37 = .ok (.aload_n 0, 1) := by decide +kernel
theorem dX10_enviesOf_38 : decode cX10_enviesOf 38 = .ok (.iload_n 1, 1) := by decide +kernel
theorem dX10_enviesOf_39 : decode cX10_enviesOf 39 = .ok (.iload_n 2, 1) := by decide +kernel
theorem dX10_enviesOf_40 : decode cX10_enviesOf 40 = .ok (.invokevirtual 110, 3) := by decide +kernel
theorem dX10_enviesOf_43 : decode cX10_enviesOf 43 = .ok (.istore 5, 2) := by decide +kernel
theorem dX10_enviesOf_45 : decode cX10_enviesOf 45 = .ok (.bipush (-9), 2) := by decide +kernel
theorem dX10_enviesOf_47 : decode cX10_enviesOf 47 = .ok (.istore 6, 2) := by decide +kernel
theorem dX10_enviesOf_49 : decode cX10_enviesOf 49 = .ok (.aload_n 0, 1) := by decide +kernel
theorem dX10_enviesOf_50 : decode cX10_enviesOf 50 = .ok (.getfield 19, 3) := by decide +kernel
theorem dX10_enviesOf_53 : decode cX10_enviesOf 53 = .ok (.iload 4, 2) := by decide +kernel
theorem dX10_enviesOf_55 : decode cX10_enviesOf 55 = .ok (.iload_n 2, 1) := by decide +kernel
theorem dX10_enviesOf_56 : decode cX10_enviesOf 56 = .ok (.iadd, 1) := by decide +kernel
theorem dX10_enviesOf_57 : decode cX10_enviesOf 57 = .ok (.iaload, 1) := by decide +kernel
theorem dX10_enviesOf_58 : decode cX10_enviesOf 58 = .ok (.istore 7, 2) := by decide +kernel
theorem dX10_enviesOf_60 : decode cX10_enviesOf 60 = .ok (.iconst 0, 1) := by decide +kernel
theorem dX10_enviesOf_61 : decode cX10_enviesOf 61 = .ok (.istore 8, 2) := by decide +kernel
theorem dX10_enviesOf_63 : decode cX10_enviesOf 63 = .ok (.iload 8, 2) := by decide +kernel
theorem dX10_enviesOf_65 : decode cX10_enviesOf 65 = .ok (.aload_n 0, 1) := by decide +kernel
theorem dX10_enviesOf_66 : decode cX10_enviesOf 66 = .ok (.getfield 96, 3) := by decide +kernel
theorem dX10_enviesOf_69 : decode cX10_enviesOf 69 = .ok (.if_icmp .ge 50, 3) := by decide +kernel
theorem dX10_enviesOf_72 : decode cX10_enviesOf 72 = .ok (.iload 5, 2) := by decide +kernel
theorem dX10_enviesOf_74 : decode cX10_enviesOf 74 = .ok (.iload 8, 2) := by decide +kernel
theorem dX10_enviesOf_76 : decode cX10_enviesOf 76 = .ok (.invokestatic 74, 3) := by decide +kernel
theorem dX10_enviesOf_79 : decode cX10_enviesOf 79 = .ok (.ifCond .eq 34, 3) := by decide +kernel
theorem dX10_enviesOf_82 : decode cX10_enviesOf 82 = .ok (.aload_n 0, 1) := by decide +kernel
theorem dX10_enviesOf_83 : decode cX10_enviesOf 83 = .ok (.getfield 19, 3) := by decide +kernel
theorem dX10_enviesOf_86 : decode cX10_enviesOf 86 = .ok (.iload 4, 2) := by decide +kernel
theorem dX10_enviesOf_88 : decode cX10_enviesOf 88 = .ok (.iload 8, 2) := by decide +kernel
theorem dX10_enviesOf_90 : decode cX10_enviesOf 90 = .ok (.iadd, 1) := by decide +kernel
theorem dX10_enviesOf_91 : decode cX10_enviesOf 91 = .ok (.iaload, 1) := by decide +kernel
theorem dX10_enviesOf_92 : decode cX10_enviesOf 92 = .ok (.iload 7, 2) := by decide +kernel
theorem dX10_enviesOf_94 : decode cX10_enviesOf 94 = .ok (.if_icmp .le 19, 3) := by decide +kernel
theorem dX10_enviesOf_97 : decode cX10_enviesOf 97 = .ok (.iload 8, 2) := by decide +kernel
theorem dX10_enviesOf_99 : decode cX10_enviesOf 99 = .ok (.istore 6, 2) := by decide +kernel
theorem dX10_enviesOf_101 : decode cX10_enviesOf 101 = .ok (.aload_n 0, 1) := by decide +kernel
theorem dX10_enviesOf_102 : decode cX10_enviesOf 102 = .ok (.getfield 19, 3) := by decide +kernel
theorem dX10_enviesOf_105 : decode cX10_enviesOf 105 = .ok (.iload 4, 2) := by decide +kernel
theorem dX10_enviesOf_107 : decode cX10_enviesOf 107 = .ok (.iload 8, 2) := by decide +kernel
theorem dX10_enviesOf_109 : decode cX10_enviesOf 109 = .ok (.iadd, 1) := by decide +kernel
theorem dX10_enviesOf_110 : decode cX10_enviesOf 110 = .ok (.iaload, 1) := by decide +kernel
theorem dX10_enviesOf_111 : decode cX10_enviesOf 111 = .ok (.istore 7, 2) := by decide +kernel
theorem dX10_enviesOf_113 : decode cX10_enviesOf 113 = .ok (.iinc 8 1, 3) := by decide +kernel
theorem dX10_enviesOf_116 : decode cX10_enviesOf 116 = .ok (.goto (-53), 3) := by decide +kernel
theorem dX10_enviesOf_119 : decode cX10_enviesOf 119 = .ok (.iload 6, 2) := by decide +kernel
theorem dX10_enviesOf_121 : decode cX10_enviesOf 121 = .ok (.ireturn, 1) := by decide +kernel
theorem dX10_noteThen_0 : decode cX10_noteThen 0 = .ok (.aload_n 0, 1) := by decide +kernel
theorem dX10_noteThen_1 : decode cX10_noteThen 1 = .ok (.iload_n 1, 1) := by decide +kernel
theorem dX10_noteThen_2 : decode cX10_noteThen 2 = .ok (.iload_n 2, 1) := by decide +kernel
theorem dX10_noteThen_3 : decode cX10_noteThen 3 = .ok (.invokevirtual 113, 3) := by decide +kernel
theorem dX10_noteThen_6 : decode cX10_noteThen 6 = .ok (.istore_n 3, 1) := by decide +kernel
theorem dX10_noteThen_7 : decode cX10_noteThen 7 = .ok (.iload_n 3, 1) := by decide +kernel
theorem dX10_noteThen_8 : decode cX10_noteThen 8 = .ok (.bipush (-9), 2) := by decide +kernel
theorem dX10_noteThen_10 : decode cX10_noteThen 10 = .ok (.if_icmp .ne 37, 3) := by decide +kernel
theorem dX10_noteThen_13 : decode cX10_noteThen 13 = .ok (.aload_n 0, 1) := by decide +kernel
theorem dX10_noteThen_14 : decode cX10_noteThen 14 = .ok (.iload_n 1, 1) := by decide +kernel
theorem dX10_noteThen_15 : decode cX10_noteThen 15 = .ok (.iload_n 2, 1) := by decide +kernel
theorem dX10_noteThen_16 : decode cX10_noteThen 16 = .ok (.invokevirtual 106, 3) := by decide +kernel
theorem dX10_noteThen_19 : decode cX10_noteThen 19 = .ok (.iconst 1, 1) := by decide +kernel
theorem dX10_noteThen_20 : decode cX10_noteThen 20 = .ok (.if_icmp .ne 20, 3) := by decide +kernel
theorem dX10_noteThen_23 : decode cX10_noteThen 23 = .ok (.aload_n 0, 1) := by decide +kernel
theorem dX10_noteThen_24 : decode cX10_noteThen 24 = .ok (.getfield 19, 3) := by decide +kernel
theorem dX10_noteThen_27 : decode cX10_noteThen 27 = .ok (.bipush 20, 2) := by decide +kernel
theorem dX10_noteThen_29 : decode cX10_noteThen 29 = .ok (.iload_n 1, 1) := by decide +kernel
theorem dX10_noteThen_30 : decode cX10_noteThen 30 = .ok (.imul, 1) := by decide +kernel
theorem dX10_noteThen_31 : decode cX10_noteThen 31 = .ok (.bipush 12, 2) := by decide +kernel
theorem dX10_noteThen_33 : decode cX10_noteThen 33 = .ok (.iadd, 1) := by decide +kernel
theorem dX10_noteThen_34 : decode cX10_noteThen 34 = .ok (.iload_n 2, 1) := by decide +kernel
theorem dX10_noteThen_35 : decode cX10_noteThen 35 = .ok (.iadd, 1) := by decide +kernel
theorem dX10_noteThen_36 : decode cX10_noteThen 36 = .ok (.iaload, 1) := by decide +kernel
theorem dX10_noteThen_37 : decode cX10_noteThen 37 = .ok (.goto 9, 3) := by decide +kernel
theorem dX10_noteThen_40 : decode cX10_noteThen 40 = .ok (.aload_n 0, 1) := by decide +kernel
theorem dX10_noteThen_41 : decode cX10_noteThen 41 = .ok (.getfield 7, 3) := by decide +kernel
theorem dX10_noteThen_44 : decode cX10_noteThen 44 = .ok (.iload_n 2, 1) := by decide +kernel
theorem dX10_noteThen_45 : decode cX10_noteThen 45 = .ok (.iaload, 1) := by decide +kernel
theorem dX10_noteThen_46 : decode cX10_noteThen 46 = .ok (.ireturn, 1) := by decide +kernel
theorem dX10_noteThen_47 : decode cX10_noteThen 47 = .ok (.aload_n 0, 1) := by decide +kernel
theorem dX10_noteThen_48 : decode cX10_noteThen 48 = .ok (.getfield 19, 3) := by decide +kernel
theorem dX10_noteThen_51 : decode cX10_noteThen 51 = .ok (.bipush 20, 2) := by decide +kernel
theorem dX10_noteThen_53 : decode cX10_noteThen 53 = .ok (.iload_n 1, 1) := by decide +kernel
theorem dX10_noteThen_54 : decode cX10_noteThen 54 = .ok (.imul, 1) := by decide +kernel
theorem dX10_noteThen_55 : decode cX10_noteThen 55 = .ok (.bipush 12, 2) := by decide +kernel
theorem dX10_noteThen_57 : decode cX10_noteThen 57 = .ok (.iadd, 1) := by decide +kernel
theorem dX10_noteThen_58 : decode cX10_noteThen 58 = .ok (.iload_n 3, 1) := by decide +kernel
theorem dX10_noteThen_59 : decode cX10_noteThen 59 = .ok (.iadd, 1) := by decide +kernel
theorem dX10_noteThen_60 : decode cX10_noteThen 60 = .ok (.iaload, 1) := by decide +kernel
theorem dX10_noteThen_61 : decode cX10_noteThen 61 = .ok (.istore 4, 2) := by decide +kernel
theorem dX10_noteThen_63 : decode cX10_noteThen 63 = .ok (.aload_n 0, 1) := by decide +kernel
theorem dX10_noteThen_64 : decode cX10_noteThen 64 = .ok (.getfield 7, 3) := by decide +kernel
theorem dX10_noteThen_67 : decode cX10_noteThen 67 = .ok (.iload_n 2, 1) := by decide +kernel
theorem dX10_noteThen_68 : decode cX10_noteThen 68 = .ok (.iaload, 1) := by decide +kernel
theorem dX10_noteThen_69 : decode cX10_noteThen 69 = .ok (.aload_n 0, 1) := by decide +kernel
theorem dX10_noteThen_70 : decode cX10_noteThen 70 = .ok (.getfield 13, 3) := by decide +kernel
theorem dX10_noteThen_73 : decode cX10_noteThen 73 = .ok (.iload_n 2, 1) := by decide +kernel
theorem dX10_noteThen_74 : decode cX10_noteThen 74 = .ok (.iaload, 1) := by decide +kernel
theorem dX10_noteThen_75 : decode cX10_noteThen 75 = .ok (.iadd, 1) := by decide +kernel
theorem dX10_noteThen_76 : decode cX10_noteThen 76 = .ok (.istore 5, 2) := by decide +kernel
theorem dX10_noteThen_78 : decode cX10_noteThen 78 = .ok (.aload_n 0, 1) := by decide +kernel
theorem dX10_noteThen_79 : decode cX10_noteThen 79 = .ok (.getfield 7, 3) := by decide +kernel
theorem dX10_noteThen_82 : decode cX10_noteThen 82 = .ok (.iload_n 2, 1) := by decide +kernel
theorem dX10_noteThen_83 : decode cX10_noteThen 83 = .ok (.iaload, 1) := by decide +kernel
theorem dX10_noteThen_84 : decode cX10_noteThen 84 = .ok (.aload_n 0, 1) := by decide +kernel
theorem dX10_noteThen_85 : decode cX10_noteThen 85 = .ok (.getfield 13, 3) := by decide +kernel
theorem dX10_noteThen_88 : decode cX10_noteThen 88 = .ok (.iload_n 2, 1) := by decide +kernel
theorem dX10_noteThen_89 : decode cX10_noteThen 89 = .ok (.iaload, 1) := by decide +kernel
theorem dX10_noteThen_90 : decode cX10_noteThen 90 = .ok (.isub, 1) := by decide +kernel
theorem dX10_noteThen_91 : decode cX10_noteThen 91 = .ok (.istore 6, 2) := by decide +kernel
theorem dX10_noteThen_93 : decode cX10_noteThen 93 = .ok (.iload 4, 2) := by decide +kernel
theorem dX10_noteThen_95 : decode cX10_noteThen 95 = .ok (.iload 5, 2) := by decide +kernel
theorem dX10_noteThen_97 : decode cX10_noteThen 97 = .ok (.if_icmp .le 8, 3) := by decide +kernel
theorem dX10_noteThen_100 : decode cX10_noteThen 100 = .ok (.iload 5, 2) := by decide +kernel
theorem dX10_noteThen_102 : decode cX10_noteThen 102 = .ok (.goto 17, 3) := by decide +kernel
theorem dX10_noteThen_105 : decode cX10_noteThen 105 = .ok (.iload 4, 2) := by decide +kernel
theorem dX10_noteThen_107 : decode cX10_noteThen 107 = .ok (.iload 6, 2) := by decide +kernel
theorem dX10_noteThen_109 : decode cX10_noteThen 109 = .ok (.if_icmp .ge 8, 3) := by decide +kernel
theorem dX10_noteThen_112 : decode cX10_noteThen 112 = .ok (.iload 6, 2) := by decide +kernel
theorem dX10_noteThen_114 : decode cX10_noteThen 114 = .ok (.goto 5, 3) := by decide +kernel
theorem dX10_noteThen_117 : decode cX10_noteThen 117 = .ok (.iload 4, 2) := by decide +kernel
theorem dX10_noteThen_119 : decode cX10_noteThen 119 = .ok (.ireturn, 1) := by decide +kernel
theorem dX10_passOn_0 : decode cX10_passOn 0 = .ok (.iconst 0, 1) := by decide +kernel
theorem dX10_passOn_1 : decode cX10_passOn 1 = .ok (.istore_n 2, 1) := by decide +kernel
theorem dX10_passOn_2 : decode cX10_passOn 2 = .ok (.iload_n 2, 1) := by decide +kernel
theorem dX10_passOn_3 : decode cX10_passOn 3 = .ok (.aload_n 0, 1) := by decide +kernel
theorem dX10_passOn_4 : decode cX10_passOn 4 = .ok (.getfield 96, 3) := by decide +kernel
theorem dX10_passOn_7 : decode cX10_passOn 7 = .ok (.if_icmp .ge 21, 3) := by decide +kernel
theorem dX10_passOn_10 : decode cX10_passOn 10 = .ok (.aload_n 0, 1) := by decide +kernel
theorem dX10_passOn_11 : decode cX10_passOn 11 = .ok (.getfield 32, 3) := by decide +kernel
theorem dX10_passOn_14 : decode cX10_passOn 14 = .ok (.iload_n 2, 1) := by decide +kernel
theorem dX10_passOn_15 : decode cX10_passOn 15 = .ok (.aload_n 0, 1) := by decide +kernel
theorem dX10_passOn_16 : decode cX10_passOn 16 = .ok (.iload_n 1, 1) := by decide +kernel
theorem dX10_passOn_17 : decode cX10_passOn 17 = .ok (.iload_n 2, 1) := by decide +kernel
theorem dX10_passOn_18 : decode cX10_passOn 18 = .ok (.invokevirtual 116, 3) := by decide +kernel
theorem dX10_passOn_21 : decode cX10_passOn 21 = .ok (.iastore, 1) := by decide +kernel
theorem dX10_passOn_22 : decode cX10_passOn 22 = .ok (.iinc 2 1, 3) := by decide +kernel
theorem dX10_passOn_25 : decode cX10_passOn 25 = .ok (.goto (-23), 3) := by decide +kernel
theorem dX10_passOn_28 : decode cX10_passOn 28 = .ok (.iconst 0, 1) := by decide +kernel
theorem dX10_passOn_29 : decode cX10_passOn 29 = .ok (.istore_n 2, 1) := by decide +kernel
theorem dX10_passOn_30 : decode cX10_passOn 30 = .ok (.iload_n 2, 1) := by decide +kernel
theorem dX10_passOn_31 : decode cX10_passOn 31 = .ok (.aload_n 0, 1) := by decide +kernel
theorem dX10_passOn_32 : decode cX10_passOn 32 = .ok (.getfield 96, 3) := by decide +kernel
theorem dX10_passOn_35 : decode cX10_passOn 35 = .ok (.if_icmp .ge 29, 3) := by decide +kernel
theorem dX10_passOn_38 : decode cX10_passOn 38 = .ok (.aload_n 0, 1) := by decide +kernel
theorem dX10_passOn_39 : decode cX10_passOn 39 = .ok (.getfield 19, 3) := by decide +kernel
theorem dX10_passOn_42 : decode cX10_passOn 42 = .ok (.bipush 20, 2) := by decide +kernel
theorem dX10_passOn_44 : decode cX10_passOn 44 = .ok (.iload_n 1, 1) := by decide +kernel
theorem dX10_passOn_45 : decode cX10_passOn 45 = .ok (.imul, 1) := by decide +kernel
theorem dX10_passOn_46 : decode cX10_passOn 46 = .ok (.bipush 12, 2) := by decide +kernel
theorem dX10_passOn_48 : decode cX10_passOn 48 = .ok (.iadd, 1) := by decide +kernel
theorem dX10_passOn_49 : decode cX10_passOn 49 = .ok (.iload_n 2, 1) := by decide +kernel
theorem dX10_passOn_50 : decode cX10_passOn 50 = .ok (.iadd, 1) := by decide +kernel
theorem dX10_passOn_51 : decode cX10_passOn 51 = .ok (.aload_n 0, 1) := by decide +kernel
theorem dX10_passOn_52 : decode cX10_passOn 52 = .ok (.getfield 32, 3) := by decide +kernel
theorem dX10_passOn_55 : decode cX10_passOn 55 = .ok (.iload_n 2, 1) := by decide +kernel
theorem dX10_passOn_56 : decode cX10_passOn 56 = .ok (.iaload, 1) := by decide +kernel
theorem dX10_passOn_57 : decode cX10_passOn 57 = .ok (.iastore, 1) := by decide +kernel
theorem dX10_passOn_58 : decode cX10_passOn 58 = .ok (.iinc 2 1, 3) := by decide +kernel
theorem dX10_passOn_61 : decode cX10_passOn 61 = .ok (.goto (-31), 3) := by decide +kernel
theorem dX10_passOn_64 : decode cX10_passOn 64 = .ok (.aload_n 0, 1) := by decide +kernel
theorem dX10_passOn_65 : decode cX10_passOn 65 = .ok (.getfield 19, 3) := by decide +kernel
theorem dX10_passOn_68 : decode cX10_passOn 68 = .ok (.bipush 20, 2) := by decide +kernel
theorem dX10_passOn_70 : decode cX10_passOn 70 = .ok (.iload_n 1, 1) := by decide +kernel
theorem dX10_passOn_71 : decode cX10_passOn 71 = .ok (.imul, 1) := by decide +kernel
theorem dX10_passOn_72 : decode cX10_passOn 72 = .ok (.bipush 19, 2) := by decide +kernel
theorem dX10_passOn_74 : decode cX10_passOn 74 = .ok (.iadd, 1) := by decide +kernel
theorem dX10_passOn_75 : decode cX10_passOn 75 = .ok (.dup2, 1) := by decide +kernel
theorem dX10_passOn_76 : decode cX10_passOn 76 = .ok (.iaload, 1) := by decide +kernel
theorem dX10_passOn_77 : decode cX10_passOn 77 = .ok (.iconst 1, 1) := by decide +kernel
theorem dX10_passOn_78 : decode cX10_passOn 78 = .ok (.iadd, 1) := by decide +kernel
theorem dX10_passOn_79 : decode cX10_passOn 79 = .ok (.iastore, 1) := by decide +kernel
theorem dX10_passOn_80 : decode cX10_passOn 80 = .ok (.return_, 1) := by decide +kernel
theorem dX10_notesOn_0 : decode cX10_notesOn 0 = .ok (.iconst 0, 1) := by decide +kernel
theorem dX10_notesOn_1 : decode cX10_notesOn 1 = .ok (.istore_n 2, 1) := by decide +kernel
theorem dX10_notesOn_2 : decode cX10_notesOn 2 = .ok (.iconst 0, 1) := by decide +kernel
theorem dX10_notesOn_3 : decode cX10_notesOn 3 = .ok (.istore_n 3, 1) := by decide +kernel
theorem dX10_notesOn_4 : decode cX10_notesOn 4 = .ok (.iload_n 3, 1) := by decide +kernel
theorem dX10_notesOn_5 : decode cX10_notesOn 5 = .ok (.aload_n 0, 1) := by decide +kernel
theorem dX10_notesOn_6 : decode cX10_notesOn 6 = .ok (.getfield 96, 3) := by decide +kernel
theorem dX10_notesOn_9 : decode cX10_notesOn 9 = .ok (.if_icmp .ge 43, 3) := by decide +kernel
theorem dX10_notesOn_12 : decode cX10_notesOn 12 = .ok (.iload_n 2, 1) := by decide +kernel
theorem dX10_notesOn_13 : decode cX10_notesOn 13 = .ok (.aload_n 0, 1) := by decide +kernel
theorem dX10_notesOn_14 : decode cX10_notesOn 14 = .ok (.getfield 28, 3) := by decide +kernel
theorem dX10_notesOn_17 : decode cX10_notesOn 17 = .ok (.iload_n 3, 1) := by decide +kernel
theorem dX10_notesOn_18 : decode cX10_notesOn 18 = .ok (.invokestatic 74, 3) := by decide +kernel
theorem dX10_notesOn_21 : decode cX10_notesOn 21 = .ok (.ifCond .eq 22, 3) := by decide +kernel
theorem dX10_notesOn_24 : decode cX10_notesOn 24 = .ok (.iconst 1, 1) := by decide +kernel
theorem dX10_notesOn_25 : decode cX10_notesOn 25 = .ok (.aload_n 0, 1) := by decide +kernel
theorem dX10_notesOn_26 : decode cX10_notesOn 26 = .ok (.getfield 19, 3) := by decide +kernel
theorem dX10_notesOn_29 : decode cX10_notesOn 29 = .ok (.bipush 20, 2) := by decide +kernel
theorem dX10_notesOn_31 : decode cX10_notesOn 31 = .ok (.iload_n 1, 1) := by decide +kernel
theorem dX10_notesOn_32 : decode cX10_notesOn 32 = .ok (.imul, 1) := by decide +kernel
theorem dX10_notesOn_33 : decode cX10_notesOn 33 = .ok (.bipush 12, 2) := by decide +kernel
theorem dX10_notesOn_35 : decode cX10_notesOn 35 = .ok (.iadd, 1) := by decide +kernel
theorem dX10_notesOn_36 : decode cX10_notesOn 36 = .ok (.iload_n 3, 1) := by decide +kernel
theorem dX10_notesOn_37 : decode cX10_notesOn 37 = .ok (.iadd, 1) := by decide +kernel
theorem dX10_notesOn_38 : decode cX10_notesOn 38 = .ok (.iaload, 1) := by decide +kernel
theorem dX10_notesOn_39 : decode cX10_notesOn 39 = .ok (.ishl, 1) := by decide +kernel
theorem dX10_notesOn_40 : decode cX10_notesOn 40 = .ok (.goto 4, 3) := by decide +kernel
theorem dX10_notesOn_43 : decode cX10_notesOn 43 = .ok (.iconst 0, 1) := by decide +kernel
theorem dX10_notesOn_44 : decode cX10_notesOn 44 = .ok (.ior, 1) := by decide +kernel
theorem dX10_notesOn_45 : decode cX10_notesOn 45 = .ok (.istore_n 2, 1) := by decide +kernel
theorem dX10_notesOn_46 : decode cX10_notesOn 46 = .ok (.iinc 3 1, 3) := by decide +kernel
theorem dX10_notesOn_49 : decode cX10_notesOn 49 = .ok (.goto (-45), 3) := by decide +kernel
theorem dX10_notesOn_52 : decode cX10_notesOn 52 = .ok (.iload_n 2, 1) := by decide +kernel
theorem dX10_notesOn_53 : decode cX10_notesOn 53 = .ok (.ireturn, 1) := by decide +kernel
theorem dX10_pitchOn_0 : decode cX10_pitchOn 0 = .ok (.iconst 0, 1) := by decide +kernel
theorem dX10_pitchOn_1 : decode cX10_pitchOn 1 = .ok (.istore_n 2, 1) := by decide +kernel
theorem dX10_pitchOn_2 : decode cX10_pitchOn 2 = .ok (.iload_n 2, 1) := by decide +kernel
theorem dX10_pitchOn_3 : decode cX10_pitchOn 3 = .ok (.aload_n 0, 1) := by decide +kernel
theorem dX10_pitchOn_4 : decode cX10_pitchOn 4 = .ok (.getfield 96, 3) := by decide +kernel
theorem dX10_pitchOn_7 : decode cX10_pitchOn 7 = .ok (.if_icmp .ge 29, 3) := by decide +kernel
theorem dX10_pitchOn_10 : decode cX10_pitchOn 10 = .ok (.aload_n 0, 1) := by decide +kernel
theorem dX10_pitchOn_11 : decode cX10_pitchOn 11 = .ok (.getfield 19, 3) := by decide +kernel
theorem dX10_pitchOn_14 : decode cX10_pitchOn 14 = .ok (.bipush 20, 2) := by decide +kernel
theorem dX10_pitchOn_16 : decode cX10_pitchOn 16 = .ok (.iload_n 1, 1) := by decide +kernel
theorem dX10_pitchOn_17 : decode cX10_pitchOn 17 = .ok (.imul, 1) := by decide +kernel
theorem dX10_pitchOn_18 : decode cX10_pitchOn 18 = .ok (.bipush 12, 2) := by decide +kernel
theorem dX10_pitchOn_20 : decode cX10_pitchOn 20 = .ok (.iadd, 1) := by decide +kernel
theorem dX10_pitchOn_21 : decode cX10_pitchOn 21 = .ok (.iload_n 2, 1) := by decide +kernel
theorem dX10_pitchOn_22 : decode cX10_pitchOn 22 = .ok (.iadd, 1) := by decide +kernel
theorem dX10_pitchOn_23 : decode cX10_pitchOn 23 = .ok (.aload_n 0, 1) := by decide +kernel
theorem dX10_pitchOn_24 : decode cX10_pitchOn 24 = .ok (.getfield 7, 3) := by decide +kernel
theorem dX10_pitchOn_27 : decode cX10_pitchOn 27 = .ok (.iload_n 2, 1) := by decide +kernel
theorem dX10_pitchOn_28 : decode cX10_pitchOn 28 = .ok (.iaload, 1) := by decide +kernel
theorem dX10_pitchOn_29 : decode cX10_pitchOn 29 = .ok (.iastore, 1) := by decide +kernel
theorem dX10_pitchOn_30 : decode cX10_pitchOn 30 = .ok (.iinc 2 1, 3) := by decide +kernel
theorem dX10_pitchOn_33 : decode cX10_pitchOn 33 = .ok (.goto (-31), 3) := by decide +kernel
theorem dX10_pitchOn_36 : decode cX10_pitchOn 36 = .ok (.return_, 1) := by decide +kernel
theorem dX10_singer_0 : decode cX10_singer 0 = .ok (.aload_n 0, 1) := by decide +kernel
theorem dX10_singer_1 : decode cX10_singer 1 = .ok (.iload_n 1, 1) := by decide +kernel
theorem dX10_singer_2 : decode cX10_singer 2 = .ok (.invokevirtual 119, 3) := by decide +kernel
theorem dX10_singer_5 : decode cX10_singer 5 = .ok (.ifCond .ne 5, 3) := by decide +kernel
theorem dX10_singer_8 : decode cX10_singer 8 = .ok (.iconst (-1), 1) := by decide +kernel
theorem dX10_singer_9 : decode cX10_singer 9 = .ok (.ireturn, 1) := by decide +kernel
theorem dX10_singer_10 : decode cX10_singer 10 = .ok (.iload_n 2, 1) := by decide +kernel
theorem dX10_singer_11 : decode cX10_singer 11 = .ok (.tableswitch 123 0 8 #[49, 56, 63, 70, 80, 87, 97, 104, 111], 49) := by decide +kernel
theorem dX10_singer_60 : decode cX10_singer 60 = .ok (.aload_n 0, 1) := by decide +kernel
theorem dX10_singer_61 : decode cX10_singer 61 = .ok (.getfield 19, 3) := by decide +kernel
theorem dX10_singer_64 : decode cX10_singer 64 = .ok (.iload_n 1, 1) := by decide +kernel
theorem dX10_singer_65 : decode cX10_singer 65 = .ok (.iaload, 1) := by decide +kernel
theorem dX10_singer_66 : decode cX10_singer 66 = .ok (.ireturn, 1) := by decide +kernel
theorem dX10_singer_67 : decode cX10_singer 67 = .ok (.aload_n 0, 1) := by decide +kernel
theorem dX10_singer_68 : decode cX10_singer 68 = .ok (.getfield 7, 3) := by decide +kernel
theorem dX10_singer_71 : decode cX10_singer 71 = .ok (.iload_n 1, 1) := by decide +kernel
theorem dX10_singer_72 : decode cX10_singer 72 = .ok (.iaload, 1) := by decide +kernel
theorem dX10_singer_73 : decode cX10_singer 73 = .ok (.ireturn, 1) := by decide +kernel
theorem dX10_singer_74 : decode cX10_singer 74 = .ok (.aload_n 0, 1) := by decide +kernel
theorem dX10_singer_75 : decode cX10_singer 75 = .ok (.getfield 13, 3) := by decide +kernel
theorem dX10_singer_78 : decode cX10_singer 78 = .ok (.iload_n 1, 1) := by decide +kernel
theorem dX10_singer_79 : decode cX10_singer 79 = .ok (.iaload, 1) := by decide +kernel
theorem dX10_singer_80 : decode cX10_singer 80 = .ok (.ireturn, 1) := by decide +kernel
theorem dX10_singer_81 : decode cX10_singer 81 = .ok (.aload_n 0, 1) := by decide +kernel
theorem dX10_singer_82 : decode cX10_singer 82 = .ok (.getfield 19, 3) := by decide +kernel
theorem dX10_singer_85 : decode cX10_singer 85 = .ok (.bipush 6, 2) := by decide +kernel
theorem dX10_singer_87 : decode cX10_singer 87 = .ok (.iload_n 1, 1) := by decide +kernel
theorem dX10_singer_88 : decode cX10_singer 88 = .ok (.iadd, 1) := by decide +kernel
theorem dX10_singer_89 : decode cX10_singer 89 = .ok (.iaload, 1) := by decide +kernel
theorem dX10_singer_90 : decode cX10_singer 90 = .ok (.ireturn, 1) := by decide +kernel
theorem dX10_singer_91 : decode cX10_singer 91 = .ok (.aload_n 0, 1) := by decide +kernel
theorem dX10_singer_92 : decode cX10_singer 92 = .ok (.getfield 16, 3) := by decide +kernel
theorem dX10_singer_95 : decode cX10_singer 95 = .ok (.iload_n 1, 1) := by decide +kernel
theorem dX10_singer_96 : decode cX10_singer 96 = .ok (.iaload, 1) := by decide +kernel
theorem dX10_singer_97 : decode cX10_singer 97 = .ok (.ireturn, 1) := by decide +kernel
theorem dX10_singer_98 : decode cX10_singer 98 = .ok (.aload_n 0, 1) := by decide +kernel
theorem dX10_singer_99 : decode cX10_singer 99 = .ok (.getfield 19, 3) := by decide +kernel
theorem dX10_singer_102 : decode cX10_singer 102 = .ok (.bipush 12, 2) := by decide +kernel
theorem dX10_singer_104 : decode cX10_singer 104 = .ok (.iload_n 1, 1) := by decide +kernel
theorem dX10_singer_105 : decode cX10_singer 105 = .ok (.iadd, 1) := by decide +kernel
theorem dX10_singer_106 : decode cX10_singer 106 = .ok (.iaload, 1) := by decide +kernel
theorem dX10_singer_107 : decode cX10_singer 107 = .ok (.ireturn, 1) := by decide +kernel
theorem dX10_singer_108 : decode cX10_singer 108 = .ok (.aload_n 0, 1) := by decide +kernel
theorem dX10_singer_109 : decode cX10_singer 109 = .ok (.iconst 0, 1) := by decide +kernel
theorem dX10_singer_110 : decode cX10_singer 110 = .ok (.iload_n 1, 1) := by decide +kernel
theorem dX10_singer_111 : decode cX10_singer 111 = .ok (.invokevirtual 110, 3) := by decide +kernel
theorem dX10_singer_114 : decode cX10_singer 114 = .ok (.ireturn, 1) := by decide +kernel
theorem dX10_singer_115 : decode cX10_singer 115 = .ok (.aload_n 0, 1) := by decide +kernel
theorem dX10_singer_116 : decode cX10_singer 116 = .ok (.iconst 0, 1) := by decide +kernel
theorem dX10_singer_117 : decode cX10_singer 117 = .ok (.iload_n 1, 1) := by decide +kernel
theorem dX10_singer_118 : decode cX10_singer 118 = .ok (.invokevirtual 113, 3) := by decide +kernel
theorem dX10_singer_121 : decode cX10_singer 121 = .ok (.ireturn, 1) := by decide +kernel
theorem dX10_singer_122 : decode cX10_singer 122 = .ok (.aload_n 0, 1) := by decide +kernel
theorem dX10_singer_123 : decode cX10_singer 123 = .ok (.getfield 19, 3) := by decide +kernel
theorem dX10_singer_126 : decode cX10_singer 126 = .ok (.bipush 18, 2) := by decide +kernel
theorem dX10_singer_128 : decode cX10_singer 128 = .ok (.iaload, 1) := by decide +kernel
theorem dX10_singer_129 : decode cX10_singer 129 = .ok (.iload_n 1, 1) := by decide +kernel
theorem dX10_singer_130 : decode cX10_singer 130 = .ok (.ishr, 1) := by decide +kernel
theorem dX10_singer_131 : decode cX10_singer 131 = .ok (.iconst 1, 1) := by decide +kernel
theorem dX10_singer_132 : decode cX10_singer 132 = .ok (.iand, 1) := by decide +kernel
theorem dX10_singer_133 : decode cX10_singer 133 = .ok (.ireturn, 1) := by decide +kernel
theorem dX10_singer_134 : decode cX10_singer 134 = .ok (.bipush (-2), 2) := by decide +kernel
theorem dX10_singer_136 : decode cX10_singer 136 = .ok (.ireturn, 1) := by decide +kernel
theorem dX10_whoAt_0 : decode cX10_whoAt 0 = .ok (.iconst 0, 1) := by decide +kernel
theorem dX10_whoAt_1 : decode cX10_whoAt 1 = .ok (.istore_n 2, 1) := by decide +kernel
theorem dX10_whoAt_2 : decode cX10_whoAt 2 = .ok (.iload_n 2, 1) := by decide +kernel
theorem dX10_whoAt_3 : decode cX10_whoAt 3 = .ok (.aload_n 0, 1) := by decide +kernel
theorem dX10_whoAt_4 : decode cX10_whoAt 4 = .ok (.getfield 96, 3) := by decide +kernel
theorem dX10_whoAt_7 : decode cX10_whoAt 7 = .ok (.if_icmp .ge 21, 3) := by decide +kernel
theorem dX10_whoAt_10 : decode cX10_whoAt 10 = .ok (.aload_n 0, 1) := by decide +kernel
theorem dX10_whoAt_11 : decode cX10_whoAt 11 = .ok (.getfield 19, 3) := by decide +kernel
theorem dX10_whoAt_14 : decode cX10_whoAt 14 = .ok (.iload_n 2, 1) := by decide +kernel
theorem dX10_whoAt_15 : decode cX10_whoAt 15 = .ok (.iaload, 1) := by decide +kernel
theorem dX10_whoAt_16 : decode cX10_whoAt 16 = .ok (.iload_n 1, 1) := by decide +kernel
theorem dX10_whoAt_17 : decode cX10_whoAt 17 = .ok (.if_icmp .ne 5, 3) := by decide +kernel
theorem dX10_whoAt_20 : decode cX10_whoAt 20 = .ok (.iload_n 2, 1) := by decide +kernel
theorem dX10_whoAt_21 : decode cX10_whoAt 21 = .ok (.ireturn, 1) := by decide +kernel
theorem dX10_whoAt_22 : decode cX10_whoAt 22 = .ok (.iinc 2 1, 3) := by decide +kernel
theorem dX10_whoAt_25 : decode cX10_whoAt 25 = .ok (.goto (-23), 3) := by decide +kernel
theorem dX10_whoAt_28 : decode cX10_whoAt 28 = .ok (.bipush (-9), 2) := by decide +kernel
theorem dX10_whoAt_30 : decode cX10_whoAt 30 = .ok (.ireturn, 1) := by decide +kernel
theorem dX10_seat_0 : decode cX10_seat 0 = .ok (.iload_n 1, 1) := by decide +kernel
theorem dX10_seat_1 : decode cX10_seat 1 = .ok (.i2l, 1) := by decide +kernel
theorem dX10_seat_2 : decode cX10_seat 2 = .ok (.lconst 0, 1) := by decide +kernel
theorem dX10_seat_3 : decode cX10_seat 3 = .ok (.ldc2_w 123, 3) := by decide +kernel
theorem dX10_seat_6 : decode cX10_seat 6 = .ok (.invokestatic 59, 3) := by decide +kernel
theorem dX10_seat_9 : decode cX10_seat 9 = .ok (.ifCond .eq 11, 3) := by decide +kernel
theorem dX10_seat_12 : decode cX10_seat 12 = .ok (.aload_n 0, 1) := by decide +kernel
theorem dX10_seat_13 : decode cX10_seat 13 = .ok (.iload_n 1, 1) := by decide +kernel
theorem dX10_seat_14 : decode cX10_seat 14 = .ok (.invokevirtual 125, 3) := by decide +kernel
theorem dX10_seat_17 : decode cX10_seat 17 = .ok (.goto 4, 3) := by decide +kernel
theorem dX10_seat_20 : decode cX10_seat 20 = .ok (.iconst (-1), 1) := by decide +kernel
theorem dX10_seat_21 : decode cX10_seat 21 = .ok (.ireturn, 1) := by decide +kernel
theorem dX10_keepAct_0 : decode cX10_keepAct 0 = .ok (.iconst 0, 1) := by decide +kernel
theorem dX10_keepAct_1 : decode cX10_keepAct 1 = .ok (.istore_n 1, 1) := by decide +kernel
theorem dX10_keepAct_2 : decode cX10_keepAct 2 = .ok (.iload_n 1, 1) := by decide +kernel
theorem dX10_keepAct_3 : decode cX10_keepAct 3 = .ok (.bipush 20, 2) := by decide +kernel
theorem dX10_keepAct_5 : decode cX10_keepAct 5 = .ok (.if_icmp .ge 29, 3) := by decide +kernel
theorem dX10_keepAct_8 : decode cX10_keepAct 8 = .ok (.aload_n 0, 1) := by decide +kernel
theorem dX10_keepAct_9 : decode cX10_keepAct 9 = .ok (.getfield 35, 3) := by decide +kernel
theorem dX10_keepAct_12 : decode cX10_keepAct 12 = .ok (.bipush 20, 2) := by decide +kernel
theorem dX10_keepAct_14 : decode cX10_keepAct 14 = .ok (.aload_n 0, 1) := by decide +kernel
theorem dX10_keepAct_15 : decode cX10_keepAct 15 = .ok (.getfield 128, 3) := by decide +kernel
theorem dX10_keepAct_18 : decode cX10_keepAct 18 = .ok (.imul, 1) := by decide +kernel
theorem dX10_keepAct_19 : decode cX10_keepAct 19 = .ok (.iload_n 1, 1) := by decide +kernel
theorem dX10_keepAct_20 : decode cX10_keepAct 20 = .ok (.iadd, 1) := by decide +kernel
theorem dX10_keepAct_21 : decode cX10_keepAct 21 = .ok (.aload_n 0, 1) := by decide +kernel
theorem dX10_keepAct_22 : decode cX10_keepAct 22 = .ok (.getfield 19, 3) := by decide +kernel
theorem dX10_keepAct_25 : decode cX10_keepAct 25 = .ok (.iload_n 1, 1) := by decide +kernel
theorem dX10_keepAct_26 : decode cX10_keepAct 26 = .ok (.iaload, 1) := by decide +kernel
theorem dX10_keepAct_27 : decode cX10_keepAct 27 = .ok (.iastore, 1) := by decide +kernel
theorem dX10_keepAct_28 : decode cX10_keepAct 28 = .ok (.iinc 1 1, 3) := by decide +kernel
theorem dX10_keepAct_31 : decode cX10_keepAct 31 = .ok (.goto (-29), 3) := by decide +kernel
theorem dX10_keepAct_34 : decode cX10_keepAct 34 = .ok (.aload_n 0, 1) := by decide +kernel
theorem dX10_keepAct_35 : decode cX10_keepAct 35 = .ok (.aload_n 0, 1) := by decide +kernel
theorem dX10_keepAct_36 : decode cX10_keepAct 36 = .ok (.getfield 128, 3) := by decide +kernel
theorem dX10_keepAct_39 : decode cX10_keepAct 39 = .ok (.iconst 1, 1) := by decide +kernel
theorem dX10_keepAct_40 : decode cX10_keepAct 40 = .ok (.iadd, 1) := by decide +kernel
theorem dX10_keepAct_41 : decode cX10_keepAct 41 = .ok (.bipush 14, 2) := by decide +kernel
theorem dX10_keepAct_43 : decode cX10_keepAct 43 = .ok (.irem, 1) := by decide +kernel
theorem dX10_keepAct_44 : decode cX10_keepAct 44 = .ok (.putfield 128, 3) := by decide +kernel
theorem dX10_keepAct_47 : decode cX10_keepAct 47 = .ok (.aload_n 0, 1) := by decide +kernel
theorem dX10_keepAct_48 : decode cX10_keepAct 48 = .ok (.aload_n 0, 1) := by decide +kernel
theorem dX10_keepAct_49 : decode cX10_keepAct 49 = .ok (.getfield 99, 3) := by decide +kernel
theorem dX10_keepAct_52 : decode cX10_keepAct 52 = .ok (.bipush 14, 2) := by decide +kernel
theorem dX10_keepAct_54 : decode cX10_keepAct 54 = .ok (.if_icmp .ge 12, 3) := by decide +kernel
theorem dX10_keepAct_57 : decode cX10_keepAct 57 = .ok (.aload_n 0, 1) := by decide +kernel
theorem dX10_keepAct_58 : decode cX10_keepAct 58 = .ok (.getfield 99, 3) := by decide +kernel
theorem dX10_keepAct_61 : decode cX10_keepAct 61 = .ok (.iconst 1, 1) := by decide +kernel
theorem dX10_keepAct_62 : decode cX10_keepAct 62 = .ok (.iadd, 1) := by decide +kernel
theorem dX10_keepAct_63 : decode cX10_keepAct 63 = .ok (.goto 5, 3) := by decide +kernel
theorem dX10_keepAct_66 : decode cX10_keepAct 66 = .ok (.bipush 14, 2) := by decide +kernel
theorem dX10_keepAct_68 : decode cX10_keepAct 68 = .ok (.putfield 99, 3) := by decide +kernel
theorem dX10_keepAct_71 : decode cX10_keepAct 71 = .ok (.return_, 1) := by decide +kernel
theorem dX10_bar_0 : decode cX10_bar 0 = .ok (.aload_n 0, 1) := by decide +kernel
theorem dX10_bar_1 : decode cX10_bar 1 = .ok (.invokevirtual 131, 3) := by decide +kernel
theorem dX10_bar_4 : decode cX10_bar 4 = .ok (.aload_n 0, 1) := by decide +kernel
theorem dX10_bar_5 : decode cX10_bar 5 = .ok (.iconst 0, 1) := by decide +kernel
theorem dX10_bar_6 : decode cX10_bar 6 = .ok (.invokevirtual 134, 3) := by decide +kernel
theorem dX10_bar_9 : decode cX10_bar 9 = .ok (.aload_n 0, 1) := by decide +kernel
theorem dX10_bar_10 : decode cX10_bar 10 = .ok (.iconst 0, 1) := by decide +kernel
theorem dX10_bar_11 : decode cX10_bar 11 = .ok (.invokevirtual 137, 3) := by decide +kernel
theorem dX10_bar_14 : decode cX10_bar 14 = .ok (.invokestatic 140, 3) := by decide +kernel
theorem dX10_bar_17 : decode cX10_bar 17 = .ok (.ireturn, 1) := by decide +kernel
theorem dX10_giveOn_0 : decode cX10_giveOn 0 = .ok (.bipush 20, 2) := by decide +kernel
theorem dX10_giveOn_2 : decode cX10_giveOn 2 = .ok (.iload_n 1, 1) := by decide +kernel
theorem dX10_giveOn_3 : decode cX10_giveOn 3 = .ok (.imul, 1) := by decide +kernel
theorem dX10_giveOn_4 : decode cX10_giveOn 4 = .ok (.bipush 6, 2) := by decide +kernel
theorem dX10_giveOn_6 : decode cX10_giveOn 6 = .ok (.iadd, 1) := by decide +kernel
theorem dX10_giveOn_7 : decode cX10_giveOn 7 = .ok (.iload_n 2, 1) := by decide +kernel
theorem dX10_giveOn_8 : decode cX10_giveOn 8 = .ok (.iadd, 1) := by decide +kernel
theorem dX10_giveOn_9 : decode cX10_giveOn 9 = .ok (.istore 4, 2) := by decide +kernel
theorem dX10_giveOn_11 : decode cX10_giveOn 11 = .ok (.aload_n 0, 1) := by decide +kernel
theorem dX10_giveOn_12 : decode cX10_giveOn 12 = .ok (.getfield 19, 3) := by decide +kernel
theorem dX10_giveOn_15 : decode cX10_giveOn 15 = .ok (.iload 4, 2) := by decide +kernel
theorem dX10_giveOn_17 : decode cX10_giveOn 17 = .ok (.aload_n 0, 1) := by decide +kernel
theorem dX10_giveOn_18 : decode cX10_giveOn 18 = .ok (.getfield 19, 3) := by decide +kernel
theorem dX10_giveOn_21 : decode cX10_giveOn 21 = .ok (.iload 4, 2) := by decide +kernel
theorem dX10_giveOn_23 : decode cX10_giveOn 23 = .ok (.iaload, 1) := by decide +kernel
theorem dX10_giveOn_24 : decode cX10_giveOn 24 = .ok (.iload_n 3, 1) := by decide +kernel
theorem dX10_giveOn_25 : decode cX10_giveOn 25 = .ok (.iadd, 1) := by decide +kernel
theorem dX10_giveOn_26 : decode cX10_giveOn 26 = .ok (.bipush 99, 2) := by decide +kernel
theorem dX10_giveOn_28 : decode cX10_giveOn 28 = .ok (.if_icmp .le 8, 3) := by decide +kernel
theorem dX10_giveOn_31 : decode cX10_giveOn 31 = .ok (.bipush 99, 2) := by decide +kernel
theorem dX10_giveOn_33 : decode cX10_giveOn 33 = .ok (.goto 12, 3) := by decide +kernel
theorem dX10_giveOn_36 : decode cX10_giveOn 36 = .ok (.aload_n 0, 1) := by decide +kernel
theorem dX10_giveOn_37 : decode cX10_giveOn 37 = .ok (.getfield 19, 3) := by decide +kernel
theorem dX10_giveOn_40 : decode cX10_giveOn 40 = .ok (.iload 4, 2) := by decide +kernel
theorem dX10_giveOn_42 : decode cX10_giveOn 42 = .ok (.iaload, 1) := by decide +kernel
theorem dX10_giveOn_43 : decode cX10_giveOn 43 = .ok (.iload_n 3, 1) := by decide +kernel
theorem dX10_giveOn_44 : decode cX10_giveOn 44 = .ok (.iadd, 1) := by decide +kernel
theorem dX10_giveOn_45 : decode cX10_giveOn 45 = .ok (.iastore, 1) := by decide +kernel
theorem dX10_giveOn_46 : decode cX10_giveOn 46 = .ok (.return_, 1) := by decide +kernel
theorem dX10_gift_0 : decode cX10_gift 0 = .ok (.aload_n 0, 1) := by decide +kernel
theorem dX10_gift_1 : decode cX10_gift 1 = .ok (.iload_n 1, 1) := by decide +kernel
theorem dX10_gift_2 : decode cX10_gift 2 = .ok (.invokevirtual 119, 3) := by decide +kernel
theorem dX10_gift_5 : decode cX10_gift 5 = .ok (.ifCond .ne 5, 3) := by decide +kernel
theorem dX10_gift_8 : decode cX10_gift 8 = .ok (.iconst (-1), 1) := by decide +kernel
theorem dX10_gift_9 : decode cX10_gift 9 = .ok (.ireturn, 1) := by decide +kernel
theorem dX10_gift_10 : decode cX10_gift 10 = .ok (.iload_n 2, 1) := by decide +kernel
theorem dX10_gift_11 : decode cX10_gift 11 = .ok (.i2l, 1) := by decide +kernel
theorem dX10_gift_12 : decode cX10_gift 12 = .ok (.lconst 1, 1) := by decide +kernel
theorem dX10_gift_13 : decode cX10_gift 13 = .ok (.ldc2_w 72, 3) := by decide +kernel
theorem dX10_gift_16 : decode cX10_gift 16 = .ok (.invokestatic 59, 3) := by decide +kernel
theorem dX10_gift_19 : decode cX10_gift 19 = .ok (.ifCond .ne 6, 3) := by decide +kernel
theorem dX10_gift_22 : decode cX10_gift 22 = .ok (.bipush (-2), 2) := by decide +kernel
theorem dX10_gift_24 : decode cX10_gift 24 = .ok (.ireturn, 1) := by decide +kernel
theorem dX10_gift_25 : decode cX10_gift 25 = .ok (.aload_n 0, 1) := by decide +kernel
theorem dX10_gift_26 : decode cX10_gift 26 = .ok (.invokevirtual 131, 3) := by decide +kernel
theorem dX10_gift_29 : decode cX10_gift 29 = .ok (.aload_n 0, 1) := by decide +kernel
theorem dX10_gift_30 : decode cX10_gift 30 = .ok (.iconst 0, 1) := by decide +kernel
theorem dX10_gift_31 : decode cX10_gift 31 = .ok (.iload_n 1, 1) := by decide +kernel
theorem dX10_gift_32 : decode cX10_gift 32 = .ok (.iload_n 2, 1) := by decide +kernel
theorem dX10_gift_33 : decode cX10_gift 33 = .ok (.invokevirtual 143, 3) := by decide +kernel
theorem dX10_gift_36 : decode cX10_gift 36 = .ok (.aload_n 0, 1) := by decide +kernel
theorem dX10_gift_37 : decode cX10_gift 37 = .ok (.getfield 19, 3) := by decide +kernel
theorem dX10_gift_40 : decode cX10_gift 40 = .ok (.bipush 6, 2) := by decide +kernel
theorem dX10_gift_42 : decode cX10_gift 42 = .ok (.iload_n 1, 1) := by decide +kernel
theorem dX10_gift_43 : decode cX10_gift 43 = .ok (.iadd, 1) := by decide +kernel
theorem dX10_gift_44 : decode cX10_gift 44 = .ok (.iaload, 1) := by decide +kernel
theorem dX10_gift_45 : decode cX10_gift 45 = .ok (.ireturn, 1) := by decide +kernel
theorem dX10_changeOn_0 : decode cX10_changeOn 0 = .ok (.aload_n 0, 1) := by decide +kernel
theorem dX10_changeOn_1 : decode cX10_changeOn 1 = .ok (.getfield 19, 3) := by decide +kernel
theorem dX10_changeOn_4 : decode cX10_changeOn 4 = .ok (.bipush 20, 2) := by decide +kernel
theorem dX10_changeOn_6 : decode cX10_changeOn 6 = .ok (.iload_n 1, 1) := by decide +kernel
theorem dX10_changeOn_7 : decode cX10_changeOn 7 = .ok (.imul, 1) := by decide +kernel
theorem dX10_changeOn_8 : decode cX10_changeOn 8 = .ok (.iload_n 2, 1) := by decide +kernel
theorem dX10_changeOn_9 : decode cX10_changeOn 9 = .ok (.iadd, 1) := by decide +kernel
theorem dX10_changeOn_10 : decode cX10_changeOn 10 = .ok (.iaload, 1) := by decide +kernel
theorem dX10_changeOn_11 : decode cX10_changeOn 11 = .ok (.istore 4, 2) := by decide +kernel
theorem dX10_changeOn_13 : decode cX10_changeOn 13 = .ok (.aload_n 0, 1) := by decide +kernel
theorem dX10_changeOn_14 : decode cX10_changeOn 14 = .ok (.getfield 19, 3) := by decide +kernel
theorem dX10_changeOn_17 : decode cX10_changeOn 17 = .ok (.bipush 20, 2) := by decide +kernel
theorem dX10_changeOn_19 : decode cX10_changeOn 19 = .ok (.iload_n 1, 1) := by decide +kernel
theorem dX10_changeOn_20 : decode cX10_changeOn 20 = .ok (.imul, 1) := by decide +kernel
theorem dX10_changeOn_21 : decode cX10_changeOn 21 = .ok (.iload_n 2, 1) := by decide +kernel
theorem dX10_changeOn_22 : decode cX10_changeOn 22 = .ok (.iadd, 1) := by decide +kernel
theorem dX10_changeOn_23 : decode cX10_changeOn 23 = .ok (.aload_n 0, 1) := by decide +kernel
theorem dX10_changeOn_24 : decode cX10_changeOn 24 = .ok (.getfield 19, 3) := by decide +kernel
theorem dX10_changeOn_27 : decode cX10_changeOn 27 = .ok (.bipush 20, 2) := by decide +kernel
theorem dX10_changeOn_29 : decode cX10_changeOn 29 = .ok (.iload_n 1, 1) := by decide +kernel
theorem dX10_changeOn_30 : decode cX10_changeOn 30 = .ok (.imul, 1) := by decide +kernel
theorem dX10_changeOn_31 : decode cX10_changeOn 31 = .ok (.iload_n 3, 1) := by decide +kernel
theorem dX10_changeOn_32 : decode cX10_changeOn 32 = .ok (.iadd, 1) := by decide +kernel
theorem dX10_changeOn_33 : decode cX10_changeOn 33 = .ok (.iaload, 1) := by decide +kernel
theorem dX10_changeOn_34 : decode cX10_changeOn 34 = .ok (.iastore, 1) := by decide +kernel
theorem dX10_changeOn_35 : decode cX10_changeOn 35 = .ok (.aload_n 0, 1) := by decide +kernel
theorem dX10_changeOn_36 : decode cX10_changeOn 36 = .ok (.getfield 19, 3) := by decide +kernel
theorem dX10_changeOn_39 : decode cX10_changeOn 39 = .ok (.bipush 20, 2) := by decide +kernel
theorem dX10_changeOn_41 : decode cX10_changeOn 41 = .ok (.iload_n 1, 1) := by decide +kernel
theorem dX10_changeOn_42 : decode cX10_changeOn 42 = .ok (.imul, 1) := by decide +kernel
theorem dX10_changeOn_43 : decode cX10_changeOn 43 = .ok (.iload_n 3, 1) := by decide +kernel
theorem dX10_changeOn_44 : decode cX10_changeOn 44 = .ok (.iadd, 1) := by decide +kernel
theorem dX10_changeOn_45 : decode cX10_changeOn 45 = .ok (.iload 4, 2) := by decide +kernel
theorem dX10_changeOn_47 : decode cX10_changeOn 47 = .ok (.iastore, 1) := by decide +kernel
theorem dX10_changeOn_48 : decode cX10_changeOn 48 = .ok (.return_, 1) := by decide +kernel
theorem dX10_change_0 : decode cX10_change 0 = .ok (.aload_n 0, 1) := by decide +kernel
theorem dX10_change_1 : decode cX10_change 1 = .ok (.iload_n 1, 1) := by decide +kernel
theorem dX10_change_2 : decode cX10_change 2 = .ok (.invokevirtual 119, 3) := by decide +kernel
theorem dX10_change_5 : decode cX10_change 5 = .ok (.ifCond .eq 11, 3) := by decide +kernel
theorem dX10_change_8 : decode cX10_change 8 = .ok (.aload_n 0, 1) := by decide +kernel
theorem dX10_change_9 : decode cX10_change 9 = .ok (.iload_n 2, 1) := by decide +kernel
theorem dX10_change_10 : decode cX10_change 10 = .ok (.invokevirtual 119, 3) := by decide +kernel
theorem dX10_change_13 : decode cX10_change 13 = .ok (.ifCond .ne 5, 3) := by decide +kernel
theorem dX10_change_16 : decode cX10_change 16 = .ok (.iconst (-1), 1) := by decide +kernel
theorem dX10_change_17 : decode cX10_change 17 = .ok (.ireturn, 1) := by decide +kernel
theorem dX10_change_18 : decode cX10_change 18 = .ok (.iload_n 1, 1) := by decide +kernel
theorem dX10_change_19 : decode cX10_change 19 = .ok (.iload_n 2, 1) := by decide +kernel
theorem dX10_change_20 : decode cX10_change 20 = .ok (.if_icmp .ne 6, 3) := by decide +kernel
theorem dX10_change_23 : decode cX10_change 23 = .ok (.bipush (-2), 2) := by decide +kernel
theorem dX10_change_25 : decode cX10_change 25 = .ok (.ireturn, 1) := by decide +kernel
theorem dX10_change_26 : decode cX10_change 26 = .ok (.aload_n 0, 1) := by decide +kernel
theorem dX10_change_27 : decode cX10_change 27 = .ok (.invokevirtual 131, 3) := by decide +kernel
theorem dX10_change_30 : decode cX10_change 30 = .ok (.aload_n 0, 1) := by decide +kernel
theorem dX10_change_31 : decode cX10_change 31 = .ok (.iconst 0, 1) := by decide +kernel
theorem dX10_change_32 : decode cX10_change 32 = .ok (.iload_n 1, 1) := by decide +kernel
theorem dX10_change_33 : decode cX10_change 33 = .ok (.iload_n 2, 1) := by decide +kernel
theorem dX10_change_34 : decode cX10_change 34 = .ok (.invokevirtual 147, 3) := by decide +kernel
theorem dX10_change_37 : decode cX10_change 37 = .ok (.aload_n 0, 1) := by decide +kernel
theorem dX10_change_38 : decode cX10_change 38 = .ok (.getfield 19, 3) := by decide +kernel
theorem dX10_change_41 : decode cX10_change 41 = .ok (.iload_n 1, 1) := by decide +kernel
theorem dX10_change_42 : decode cX10_change 42 = .ok (.iaload, 1) := by decide +kernel
theorem dX10_change_43 : decode cX10_change 43 = .ok (.ireturn, 1) := by decide +kernel
theorem dX10_pitch_0 : decode cX10_pitch 0 = .ok (.aload_n 0, 1) := by decide +kernel
theorem dX10_pitch_1 : decode cX10_pitch 1 = .ok (.invokevirtual 131, 3) := by decide +kernel
theorem dX10_pitch_4 : decode cX10_pitch 4 = .ok (.aload_n 0, 1) := by decide +kernel
theorem dX10_pitch_5 : decode cX10_pitch 5 = .ok (.iconst 0, 1) := by decide +kernel
theorem dX10_pitch_6 : decode cX10_pitch 6 = .ok (.invokevirtual 150, 3) := by decide +kernel
theorem dX10_pitch_9 : decode cX10_pitch 9 = .ok (.aload_n 0, 1) := by decide +kernel
theorem dX10_pitch_10 : decode cX10_pitch 10 = .ok (.iconst 0, 1) := by decide +kernel
theorem dX10_pitch_11 : decode cX10_pitch 11 = .ok (.invokevirtual 137, 3) := by decide +kernel
theorem dX10_pitch_14 : decode cX10_pitch 14 = .ok (.invokestatic 140, 3) := by decide +kernel
theorem dX10_pitch_17 : decode cX10_pitch 17 = .ok (.ireturn, 1) := by decide +kernel
theorem dX10_hold_0 : decode cX10_hold 0 = .ok (.aload_n 0, 1) := by decide +kernel
theorem dX10_hold_1 : decode cX10_hold 1 = .ok (.iload_n 1, 1) := by decide +kernel
theorem dX10_hold_2 : decode cX10_hold 2 = .ok (.invokevirtual 119, 3) := by decide +kernel
theorem dX10_hold_5 : decode cX10_hold 5 = .ok (.ifCond .ne 5, 3) := by decide +kernel
theorem dX10_hold_8 : decode cX10_hold 8 = .ok (.iconst (-1), 1) := by decide +kernel
theorem dX10_hold_9 : decode cX10_hold 9 = .ok (.ireturn, 1) := by decide +kernel
theorem dX10_hold_10 : decode cX10_hold 10 = .ok (.aload_n 0, 1) := by decide +kernel
theorem dX10_hold_11 : decode cX10_hold 11 = .ok (.invokevirtual 131, 3) := by decide +kernel
theorem dX10_hold_14 : decode cX10_hold 14 = .ok (.aload_n 0, 1) := by decide +kernel
theorem dX10_hold_15 : decode cX10_hold 15 = .ok (.getfield 19, 3) := by decide +kernel
theorem dX10_hold_18 : decode cX10_hold 18 = .ok (.bipush 18, 2) := by decide +kernel
theorem dX10_hold_20 : decode cX10_hold 20 = .ok (.dup2, 1) := by decide +kernel
theorem dX10_hold_21 : decode cX10_hold 21 = .ok (.iaload, 1) := by decide +kernel
theorem dX10_hold_22 : decode cX10_hold 22 = .ok (.iconst 1, 1) := by decide +kernel
theorem dX10_hold_23 : decode cX10_hold 23 = .ok (.iload_n 1, 1) := by decide +kernel
theorem dX10_hold_24 : decode cX10_hold 24 = .ok (.ishl, 1) := by decide +kernel
theorem dX10_hold_25 : decode cX10_hold 25 = .ok (.ixor, 1) := by decide +kernel
theorem dX10_hold_26 : decode cX10_hold 26 = .ok (.iastore, 1) := by decide +kernel
theorem dX10_hold_27 : decode cX10_hold 27 = .ok (.aload_n 0, 1) := by decide +kernel
theorem dX10_hold_28 : decode cX10_hold 28 = .ok (.getfield 19, 3) := by decide +kernel
theorem dX10_hold_31 : decode cX10_hold 31 = .ok (.bipush 18, 2) := by decide +kernel
theorem dX10_hold_33 : decode cX10_hold 33 = .ok (.iaload, 1) := by decide +kernel
theorem dX10_hold_34 : decode cX10_hold 34 = .ok (.iload_n 1, 1) := by decide +kernel
theorem dX10_hold_35 : decode cX10_hold 35 = .ok (.ishr, 1) := by decide +kernel
theorem dX10_hold_36 : decode cX10_hold 36 = .ok (.iconst 1, 1) := by decide +kernel
theorem dX10_hold_37 : decode cX10_hold 37 = .ok (.iand, 1) := by decide +kernel
theorem dX10_hold_38 : decode cX10_hold 38 = .ok (.ireturn, 1) := by decide +kernel
theorem dX10_undo_0 : decode cX10_undo 0 = .ok (.aload_n 0, 1) := by decide +kernel
theorem dX10_undo_1 : decode cX10_undo 1 = .ok (.getfield 99, 3) := by decide +kernel
theorem dX10_undo_4 : decode cX10_undo 4 = .ok (.ifCond .ne 6, 3) := by decide +kernel
theorem dX10_undo_7 : decode cX10_undo 7 = .ok (.bipush (-3), 2) := by decide +kernel
theorem dX10_undo_9 : decode cX10_undo 9 = .ok (.ireturn, 1) := by decide +kernel
theorem dX10_undo_10 : decode cX10_undo 10 = .ok (.aload_n 0, 1) := by decide +kernel
theorem dX10_undo_11 : decode cX10_undo 11 = .ok (.dup, 1) := by decide +kernel
theorem dX10_undo_12 : decode cX10_undo 12 = .ok (.getfield 99, 3) := by decide +kernel
theorem dX10_undo_15 : decode cX10_undo 15 = .ok (.iconst 1, 1) := by decide +kernel
theorem dX10_undo_16 : decode cX10_undo 16 = .ok (.isub, 1) := by decide +kernel
theorem dX10_undo_17 : decode cX10_undo 17 = .ok (.putfield 99, 3) := by decide +kernel
theorem dX10_undo_20 : decode cX10_undo 20 = .ok (.aload_n 0, 1) := by decide +kernel
theorem dX10_undo_21 : decode cX10_undo 21 = .ok (.aload_n 0, 1) := by decide +kernel
theorem dX10_undo_22 : decode cX10_undo 22 = .ok (.getfield 128, 3) := by decide +kernel
theorem dX10_undo_25 : decode cX10_undo 25 = .ok (.bipush 13, 2) := by decide +kernel
theorem dX10_undo_27 : decode cX10_undo 27 = .ok (.iadd, 1) := by decide +kernel
theorem dX10_undo_28 : decode cX10_undo 28 = .ok (.bipush 14, 2) := by decide +kernel
theorem dX10_undo_30 : decode cX10_undo 30 = .ok (.irem, 1) := by decide +kernel
theorem dX10_undo_31 : decode cX10_undo 31 = .ok (.putfield 128, 3) := by decide +kernel
theorem dX10_undo_34 : decode cX10_undo 34 = .ok (.iconst 0, 1) := by decide +kernel
theorem dX10_undo_35 : decode cX10_undo 35 = .ok (.istore_n 1, 1) := by decide +kernel
theorem dX10_undo_36 : decode cX10_undo 36 = .ok (.iload_n 1, 1) := by decide +kernel
theorem dX10_undo_37 : decode cX10_undo 37 = .ok (.bipush 20, 2) := by decide +kernel
theorem dX10_undo_39 : decode cX10_undo 39 = .ok (.if_icmp .ge 29, 3) := by decide +kernel
theorem dX10_undo_42 : decode cX10_undo 42 = .ok (.aload_n 0, 1) := by decide +kernel
theorem dX10_undo_43 : decode cX10_undo 43 = .ok (.getfield 19, 3) := by decide +kernel
theorem dX10_undo_46 : decode cX10_undo 46 = .ok (.iload_n 1, 1) := by decide +kernel
theorem dX10_undo_47 : decode cX10_undo 47 = .ok (.aload_n 0, 1) := by decide +kernel
theorem dX10_undo_48 : decode cX10_undo 48 = .ok (.getfield 35, 3) := by decide +kernel
theorem dX10_undo_51 : decode cX10_undo 51 = .ok (.bipush 20, 2) := by decide +kernel
theorem dX10_undo_53 : decode cX10_undo 53 = .ok (.aload_n 0, 1) := by decide +kernel
theorem dX10_undo_54 : decode cX10_undo 54 = .ok (.getfield 128, 3) := by decide +kernel
theorem dX10_undo_57 : decode cX10_undo 57 = .ok (.imul, 1) := by decide +kernel
theorem dX10_undo_58 : decode cX10_undo 58 = .ok (.iload_n 1, 1) := by decide +kernel
theorem dX10_undo_59 : decode cX10_undo 59 = .ok (.iadd, 1) := by decide +kernel
theorem dX10_undo_60 : decode cX10_undo 60 = .ok (.iaload, 1) := by decide +kernel
theorem dX10_undo_61 : decode cX10_undo 61 = .ok (.iastore, 1) := by decide +kernel
theorem dX10_undo_62 : decode cX10_undo 62 = .ok (.iinc 1 1, 3) := by decide +kernel
theorem dX10_undo_65 : decode cX10_undo 65 = .ok (.goto (-29), 3) := by decide +kernel
theorem dX10_undo_68 : decode cX10_undo 68 = .ok (.aload_n 0, 1) := by decide +kernel
theorem dX10_undo_69 : decode cX10_undo 69 = .ok (.getfield 99, 3) := by decide +kernel
theorem dX10_undo_72 : decode cX10_undo 72 = .ok (.ireturn, 1) := by decide +kernel
theorem dX10_layTrial_0 : decode cX10_layTrial 0 = .ok (.iconst 0, 1) := by decide +kernel
theorem dX10_layTrial_1 : decode cX10_layTrial 1 = .ok (.istore_n 1, 1) := by decide +kernel
theorem dX10_layTrial_2 : decode cX10_layTrial 2 = .ok (.iload_n 1, 1) := by decide +kernel
theorem dX10_layTrial_3 : decode cX10_layTrial 3 = .ok (.bipush 20, 2) := by decide +kernel
theorem dX10_layTrial_5 : decode cX10_layTrial 5 = .ok (.if_icmp .ge 24, 3) := by decide +kernel
theorem dX10_layTrial_8 : decode cX10_layTrial 8 = .ok (.aload_n 0, 1) := by decide +kernel
theorem dX10_layTrial_9 : decode cX10_layTrial 9 = .ok (.getfield 19, 3) := by decide +kernel
theorem dX10_layTrial_12 : decode cX10_layTrial 12 = .ok (.bipush 20, 2) := by decide +kernel
theorem dX10_layTrial_14 : decode cX10_layTrial 14 = .ok (.iload_n 1, 1) := by decide +kernel
theorem dX10_layTrial_15 : decode cX10_layTrial 15 = .ok (.iadd, 1) := by decide +kernel
theorem dX10_layTrial_16 : decode cX10_layTrial 16 = .ok (.aload_n 0, 1) := by decide +kernel
theorem dX10_layTrial_17 : decode cX10_layTrial 17 = .ok (.getfield 19, 3) := by decide +kernel
theorem dX10_layTrial_20 : decode cX10_layTrial 20 = .ok (.iload_n 1, 1) := by decide +kernel
theorem dX10_layTrial_21 : decode cX10_layTrial 21 = .ok (.iaload, 1) := by decide +kernel
theorem dX10_layTrial_22 : decode cX10_layTrial 22 = .ok (.iastore, 1) := by decide +kernel
theorem dX10_layTrial_23 : decode cX10_layTrial 23 = .ok (.iinc 1 1, 3) := by decide +kernel
theorem dX10_layTrial_26 : decode cX10_layTrial 26 = .ok (.goto (-24), 3) := by decide +kernel
theorem dX10_layTrial_29 : decode cX10_layTrial 29 = .ok (.return_, 1) := by decide +kernel
theorem dX10_goOn_0 : decode cX10_goOn 0 = .ok (.iconst 0, 1) := by decide +kernel
theorem dX10_goOn_1 : decode cX10_goOn 1 = .ok (.istore_n 2, 1) := by decide +kernel
theorem dX10_goOn_2 : decode cX10_goOn 2 = .ok (.iload_n 2, 1) := by decide +kernel
theorem dX10_goOn_3 : decode cX10_goOn 3 = .ok (.iload_n 1, 1) := by decide +kernel
theorem dX10_goOn_4 : decode cX10_goOn 4 = .ok (.if_icmp .ge 14, 3) := by decide +kernel
theorem dX10_goOn_7 : decode cX10_goOn 7 = .ok (.aload_n 0, 1) := by decide +kernel
theorem dX10_goOn_8 : decode cX10_goOn 8 = .ok (.iconst 1, 1) := by decide +kernel
theorem dX10_goOn_9 : decode cX10_goOn 9 = .ok (.invokevirtual 134, 3) := by decide +kernel
theorem dX10_goOn_12 : decode cX10_goOn 12 = .ok (.iinc 2 1, 3) := by decide +kernel
theorem dX10_goOn_15 : decode cX10_goOn 15 = .ok (.goto (-13), 3) := by decide +kernel
theorem dX10_goOn_18 : decode cX10_goOn 18 = .ok (.return_, 1) := by decide +kernel
theorem dX10_sings_0 : decode cX10_sings 0 = .ok (.aload_n 0, 1) := by decide +kernel
theorem dX10_sings_1 : decode cX10_sings 1 = .ok (.iload_n 1, 1) := by decide +kernel
theorem dX10_sings_2 : decode cX10_sings 2 = .ok (.invokevirtual 119, 3) := by decide +kernel
theorem dX10_sings_5 : decode cX10_sings 5 = .ok (.ifCond .ne 5, 3) := by decide +kernel
theorem dX10_sings_8 : decode cX10_sings 8 = .ok (.iconst (-1), 1) := by decide +kernel
theorem dX10_sings_9 : decode cX10_sings 9 = .ok (.ireturn, 1) := by decide +kernel
theorem dX10_sings_10 : decode cX10_sings 10 = .ok (.iload_n 2, 1) := by decide +kernel
theorem dX10_sings_11 : decode cX10_sings 11 = .ok (.i2l, 1) := by decide +kernel
theorem dX10_sings_12 : decode cX10_sings 12 = .ok (.lconst 0, 1) := by decide +kernel
theorem dX10_sings_13 : decode cX10_sings 13 = .ok (.ldc2_w 153, 3) := by decide +kernel
theorem dX10_sings_16 : decode cX10_sings 16 = .ok (.invokestatic 59, 3) := by decide +kernel
theorem dX10_sings_19 : decode cX10_sings 19 = .ok (.ifCond .ne 6, 3) := by decide +kernel
theorem dX10_sings_22 : decode cX10_sings 22 = .ok (.bipush (-2), 2) := by decide +kernel
theorem dX10_sings_24 : decode cX10_sings 24 = .ok (.ireturn, 1) := by decide +kernel
theorem dX10_sings_25 : decode cX10_sings 25 = .ok (.aload_n 0, 1) := by decide +kernel
theorem dX10_sings_26 : decode cX10_sings 26 = .ok (.invokevirtual 155, 3) := by decide +kernel
theorem dX10_sings_29 : decode cX10_sings 29 = .ok (.aload_n 0, 1) := by decide +kernel
theorem dX10_sings_30 : decode cX10_sings 30 = .ok (.iload_n 2, 1) := by decide +kernel
theorem dX10_sings_31 : decode cX10_sings 31 = .ok (.invokevirtual 158, 3) := by decide +kernel
theorem dX10_sings_34 : decode cX10_sings 34 = .ok (.aload_n 0, 1) := by decide +kernel
theorem dX10_sings_35 : decode cX10_sings 35 = .ok (.getfield 19, 3) := by decide +kernel
theorem dX10_sings_38 : decode cX10_sings 38 = .ok (.bipush 32, 2) := by decide +kernel
theorem dX10_sings_40 : decode cX10_sings 40 = .ok (.iload_n 1, 1) := by decide +kernel
theorem dX10_sings_41 : decode cX10_sings 41 = .ok (.iadd, 1) := by decide +kernel
theorem dX10_sings_42 : decode cX10_sings 42 = .ok (.iaload, 1) := by decide +kernel
theorem dX10_sings_43 : decode cX10_sings 43 = .ok (.ireturn, 1) := by decide +kernel
theorem dX10_notes_0 : decode cX10_notes 0 = .ok (.iload_n 1, 1) := by decide +kernel
theorem dX10_notes_1 : decode cX10_notes 1 = .ok (.i2l, 1) := by decide +kernel
theorem dX10_notes_2 : decode cX10_notes 2 = .ok (.lconst 0, 1) := by decide +kernel
theorem dX10_notes_3 : decode cX10_notes 3 = .ok (.ldc2_w 153, 3) := by decide +kernel
theorem dX10_notes_6 : decode cX10_notes 6 = .ok (.invokestatic 59, 3) := by decide +kernel
theorem dX10_notes_9 : decode cX10_notes 9 = .ok (.ifCond .ne 6, 3) := by decide +kernel
theorem dX10_notes_12 : decode cX10_notes 12 = .ok (.bipush (-2), 2) := by decide +kernel
theorem dX10_notes_14 : decode cX10_notes 14 = .ok (.ireturn, 1) := by decide +kernel
theorem dX10_notes_15 : decode cX10_notes 15 = .ok (.aload_n 0, 1) := by decide +kernel
theorem dX10_notes_16 : decode cX10_notes 16 = .ok (.invokevirtual 155, 3) := by decide +kernel
theorem dX10_notes_19 : decode cX10_notes 19 = .ok (.aload_n 0, 1) := by decide +kernel
theorem dX10_notes_20 : decode cX10_notes 20 = .ok (.iload_n 1, 1) := by decide +kernel
theorem dX10_notes_21 : decode cX10_notes 21 = .ok (.invokevirtual 158, 3) := by decide +kernel
theorem dX10_notes_24 : decode cX10_notes 24 = .ok (.aload_n 0, 1) := by decide +kernel
theorem dX10_notes_25 : decode cX10_notes 25 = .ok (.iconst 1, 1) := by decide +kernel
theorem dX10_notes_26 : decode cX10_notes 26 = .ok (.invokevirtual 137, 3) := by decide +kernel
theorem dX10_notes_29 : decode cX10_notes 29 = .ok (.invokestatic 140, 3) := by decide +kernel
theorem dX10_notes_32 : decode cX10_notes 32 = .ok (.ireturn, 1) := by decide +kernel
theorem dX10_singAll_0 : decode cX10_singAll 0 = .ok (.aload_n 0, 1) := by decide +kernel
theorem dX10_singAll_1 : decode cX10_singAll 1 = .ok (.invokevirtual 155, 3) := by decide +kernel
theorem dX10_singAll_4 : decode cX10_singAll 4 = .ok (.iconst 0, 1) := by decide +kernel
theorem dX10_singAll_5 : decode cX10_singAll 5 = .ok (.istore_n 1, 1) := by decide +kernel
theorem dX10_singAll_6 : decode cX10_singAll 6 = .ok (.iload_n 1, 1) := by decide +kernel
theorem dX10_singAll_7 : decode cX10_singAll 7 = .ok (.bipush 60, 2) := by decide +kernel
theorem dX10_singAll_9 : decode cX10_singAll 9 = .ok (.if_icmp .gt 62, 3) := by decide +kernel
theorem dX10_singAll_12 : decode cX10_singAll 12 = .ok (.aload_n 0, 1) := by decide +kernel
theorem dX10_singAll_13 : decode cX10_singAll 13 = .ok (.getfield 38, 3) := by decide +kernel
theorem dX10_singAll_16 : decode cX10_singAll 16 = .ok (.iload_n 1, 1) := by decide +kernel
theorem dX10_singAll_17 : decode cX10_singAll 17 = .ok (.iconst 0, 1) := by decide +kernel
theorem dX10_singAll_18 : decode cX10_singAll 18 = .ok (.iastore, 1) := by decide +kernel
theorem dX10_singAll_19 : decode cX10_singAll 19 = .ok (.iconst 0, 1) := by decide +kernel
theorem dX10_singAll_20 : decode cX10_singAll 20 = .ok (.istore_n 2, 1) := by decide +kernel
theorem dX10_singAll_21 : decode cX10_singAll 21 = .ok (.iload_n 2, 1) := by decide +kernel
theorem dX10_singAll_22 : decode cX10_singAll 22 = .ok (.aload_n 0, 1) := by decide +kernel
theorem dX10_singAll_23 : decode cX10_singAll 23 = .ok (.getfield 96, 3) := by decide +kernel
theorem dX10_singAll_26 : decode cX10_singAll 26 = .ok (.if_icmp .ge 34, 3) := by decide +kernel
theorem dX10_singAll_29 : decode cX10_singAll 29 = .ok (.aload_n 0, 1) := by decide +kernel
theorem dX10_singAll_30 : decode cX10_singAll 30 = .ok (.getfield 38, 3) := by decide +kernel
theorem dX10_singAll_33 : decode cX10_singAll 33 = .ok (.iload_n 1, 1) := by decide +kernel
theorem dX10_singAll_34 : decode cX10_singAll 34 = .ok (.bipush 10, 2) := by decide +kernel
theorem dX10_singAll_36 : decode cX10_singAll 36 = .ok (.aload_n 0, 1) := by decide +kernel
theorem dX10_singAll_37 : decode cX10_singAll 37 = .ok (.getfield 38, 3) := by decide +kernel
theorem dX10_singAll_40 : decode cX10_singAll 40 = .ok (.iload_n 1, 1) := by decide +kernel
theorem dX10_singAll_41 : decode cX10_singAll 41 = .ok (.iaload, 1) := by decide +kernel
theorem dX10_singAll_42 : decode cX10_singAll 42 = .ok (.imul, 1) := by decide +kernel
theorem dX10_singAll_43 : decode cX10_singAll 43 = .ok (.aload_n 0, 1) := by decide +kernel
theorem dX10_singAll_44 : decode cX10_singAll 44 = .ok (.getfield 19, 3) := by decide +kernel
theorem dX10_singAll_47 : decode cX10_singAll 47 = .ok (.bipush 32, 2) := by decide +kernel
theorem dX10_singAll_49 : decode cX10_singAll 49 = .ok (.iload_n 2, 1) := by decide +kernel
theorem dX10_singAll_50 : decode cX10_singAll 50 = .ok (.iadd, 1) := by decide +kernel
theorem dX10_singAll_51 : decode cX10_singAll 51 = .ok (.iaload, 1) := by decide +kernel
theorem dX10_singAll_52 : decode cX10_singAll 52 = .ok (.iadd, 1) := by decide +kernel
theorem dX10_singAll_53 : decode cX10_singAll 53 = .ok (.iastore, 1) := by decide +kernel
theorem dX10_singAll_54 : decode cX10_singAll 54 = .ok (.iinc 2 1, 3) := by decide +kernel
theorem dX10_singAll_57 : decode cX10_singAll 57 = .ok (.goto (-36), 3) := by decide +kernel
theorem dX10_singAll_60 : decode cX10_singAll 60 = .ok (.aload_n 0, 1) := by decide +kernel
theorem dX10_singAll_61 : decode cX10_singAll 61 = .ok (.iconst 1, 1) := by decide +kernel
theorem dX10_singAll_62 : decode cX10_singAll 62 = .ok (.invokevirtual 134, 3) := by decide +kernel
theorem dX10_singAll_65 : decode cX10_singAll 65 = .ok (.iinc 1 1, 3) := by decide +kernel
theorem dX10_singAll_68 : decode cX10_singAll 68 = .ok (.goto (-62), 3) := by decide +kernel
theorem dX10_singAll_71 : decode cX10_singAll 71 = .ok (.return_, 1) := by decide +kernel
theorem dX10_round_0 : decode cX10_round 0 = .ok (.iload_n 1, 1) := by decide +kernel
theorem dX10_round_1 : decode cX10_round 1 = .ok (.i2l, 1) := by decide +kernel
theorem dX10_round_2 : decode cX10_round 2 = .ok (.lconst 0, 1) := by decide +kernel
theorem dX10_round_3 : decode cX10_round 3 = .ok (.lconst 1, 1) := by decide +kernel
theorem dX10_round_4 : decode cX10_round 4 = .ok (.invokestatic 59, 3) := by decide +kernel
theorem dX10_round_7 : decode cX10_round 7 = .ok (.ifCond .ne 6, 3) := by decide +kernel
theorem dX10_round_10 : decode cX10_round 10 = .ok (.bipush (-2), 2) := by decide +kernel
theorem dX10_round_12 : decode cX10_round 12 = .ok (.ireturn, 1) := by decide +kernel
theorem dX10_round_13 : decode cX10_round 13 = .ok (.aload_n 0, 1) := by decide +kernel
theorem dX10_round_14 : decode cX10_round 14 = .ok (.invokevirtual 161, 3) := by decide +kernel
theorem dX10_round_17 : decode cX10_round 17 = .ok (.iconst 0, 1) := by decide +kernel
theorem dX10_round_18 : decode cX10_round 18 = .ok (.istore_n 2, 1) := by decide +kernel
theorem dX10_round_19 : decode cX10_round 19 = .ok (.iload_n 2, 1) := by decide +kernel
theorem dX10_round_20 : decode cX10_round 20 = .ok (.bipush 60, 2) := by decide +kernel
theorem dX10_round_22 : decode cX10_round 22 = .ok (.if_icmp .ge 52, 3) := by decide +kernel
theorem dX10_round_25 : decode cX10_round 25 = .ok (.iconst 1, 1) := by decide +kernel
theorem dX10_round_26 : decode cX10_round 26 = .ok (.istore_n 3, 1) := by decide +kernel
theorem dX10_round_27 : decode cX10_round 27 = .ok (.iload_n 2, 1) := by decide +kernel
theorem dX10_round_28 : decode cX10_round 28 = .ok (.iload_n 3, 1) := by decide +kernel
theorem dX10_round_29 : decode cX10_round 29 = .ok (.iadd, 1) := by decide +kernel
theorem dX10_round_30 : decode cX10_round 30 = .ok (.bipush 60, 2) := by decide +kernel
theorem dX10_round_32 : decode cX10_round 32 = .ok (.if_icmp .gt 36, 3) := by decide +kernel
theorem dX10_round_35 : decode cX10_round 35 = .ok (.aload_n 0, 1) := by decide +kernel
theorem dX10_round_36 : decode cX10_round 36 = .ok (.getfield 38, 3) := by decide +kernel
theorem dX10_round_39 : decode cX10_round 39 = .ok (.iload_n 2, 1) := by decide +kernel
theorem dX10_round_40 : decode cX10_round 40 = .ok (.iaload, 1) := by decide +kernel
theorem dX10_round_41 : decode cX10_round 41 = .ok (.aload_n 0, 1) := by decide +kernel
theorem dX10_round_42 : decode cX10_round 42 = .ok (.getfield 38, 3) := by decide +kernel
theorem dX10_round_45 : decode cX10_round 45 = .ok (.iload_n 2, 1) := by decide +kernel
theorem dX10_round_46 : decode cX10_round 46 = .ok (.iload_n 3, 1) := by decide +kernel
theorem dX10_round_47 : decode cX10_round 47 = .ok (.iadd, 1) := by decide +kernel
theorem dX10_round_48 : decode cX10_round 48 = .ok (.iaload, 1) := by decide +kernel
theorem dX10_round_49 : decode cX10_round 49 = .ok (.if_icmp .ne 13, 3) := by decide +kernel
theorem dX10_round_52 : decode cX10_round 52 = .ok (.iload_n 1, 1) := by decide +kernel
theorem dX10_round_53 : decode cX10_round 53 = .ok (.ifCond .ne 7, 3) := by decide +kernel
theorem dX10_round_56 : decode cX10_round 56 = .ok (.iload_n 2, 1) := by decide +kernel
theorem dX10_round_57 : decode cX10_round 57 = .ok (.goto 4, 3) := by decide +kernel
theorem dX10_round_60 : decode cX10_round 60 = .ok (.iload_n 3, 1) := by decide +kernel
theorem dX10_round_61 : decode cX10_round 61 = .ok (.ireturn, 1) := by decide +kernel
theorem dX10_round_62 : decode cX10_round 62 = .ok (.iinc 3 1, 3) := by decide +kernel
theorem dX10_round_65 : decode cX10_round 65 = .ok (.goto (-38), 3) := by decide +kernel
theorem dX10_round_68 : decode cX10_round 68 = .ok (.iinc 2 1, 3) := by decide +kernel
theorem dX10_round_71 : decode cX10_round 71 = .ok (.goto (-52), 3) := by decide +kernel
theorem dX10_round_74 : decode cX10_round 74 = .ok (.bipush (-9), 2) := by decide +kernel
theorem dX10_round_76 : decode cX10_round 76 = .ok (.ireturn, 1) := by decide +kernel
theorem dX10_unison_0 : decode cX10_unison 0 = .ok (.aload_n 0, 1) := by decide +kernel
theorem dX10_unison_1 : decode cX10_unison 1 = .ok (.invokevirtual 155, 3) := by decide +kernel
theorem dX10_unison_4 : decode cX10_unison 4 = .ok (.iconst 0, 1) := by decide +kernel
theorem dX10_unison_5 : decode cX10_unison 5 = .ok (.istore_n 1, 1) := by decide +kernel
theorem dX10_unison_6 : decode cX10_unison 6 = .ok (.iload_n 1, 1) := by decide +kernel
theorem dX10_unison_7 : decode cX10_unison 7 = .ok (.bipush 60, 2) := by decide +kernel
theorem dX10_unison_9 : decode cX10_unison 9 = .ok (.if_icmp .gt 28, 3) := by decide +kernel
theorem dX10_unison_12 : decode cX10_unison 12 = .ok (.aload_n 0, 1) := by decide +kernel
theorem dX10_unison_13 : decode cX10_unison 13 = .ok (.iconst 1, 1) := by decide +kernel
theorem dX10_unison_14 : decode cX10_unison 14 = .ok (.invokevirtual 137, 3) := by decide +kernel
theorem dX10_unison_17 : decode cX10_unison 17 = .ok (.invokestatic 140, 3) := by decide +kernel
theorem dX10_unison_20 : decode cX10_unison 20 = .ok (.iconst 2, 1) := by decide +kernel
theorem dX10_unison_21 : decode cX10_unison 21 = .ok (.if_icmp .ge 5, 3) := by decide +kernel
theorem dX10_unison_24 : decode cX10_unison 24 = .ok (.iload_n 1, 1) := by decide +kernel
theorem dX10_unison_25 : decode cX10_unison 25 = .ok (.ireturn, 1) := by decide +kernel
theorem dX10_unison_26 : decode cX10_unison 26 = .ok (.aload_n 0, 1) := by decide +kernel
theorem dX10_unison_27 : decode cX10_unison 27 = .ok (.iconst 1, 1) := by decide +kernel
theorem dX10_unison_28 : decode cX10_unison 28 = .ok (.invokevirtual 134, 3) := by decide +kernel
theorem dX10_unison_31 : decode cX10_unison 31 = .ok (.iinc 1 1, 3) := by decide +kernel
theorem dX10_unison_34 : decode cX10_unison 34 = .ok (.goto (-28), 3) := by decide +kernel
theorem dX10_unison_37 : decode cX10_unison 37 = .ok (.bipush (-9), 2) := by decide +kernel
theorem dX10_unison_39 : decode cX10_unison 39 = .ok (.ireturn, 1) := by decide +kernel
theorem dX10_isSung_0 : decode cX10_isSung 0 = .ok (.aload_n 0, 1) := by decide +kernel
theorem dX10_isSung_1 : decode cX10_isSung 1 = .ok (.invokevirtual 155, 3) := by decide +kernel
theorem dX10_isSung_4 : decode cX10_isSung 4 = .ok (.iload 4, 2) := by decide +kernel
theorem dX10_isSung_6 : decode cX10_isSung 6 = .ok (.bipush (-9), 2) := by decide +kernel
theorem dX10_isSung_8 : decode cX10_isSung 8 = .ok (.if_icmp .eq 12, 3) := by decide +kernel
theorem dX10_isSung_11 : decode cX10_isSung 11 = .ok (.aload_n 0, 1) := by decide +kernel
theorem dX10_isSung_12 : decode cX10_isSung 12 = .ok (.iconst 1, 1) := by decide +kernel
theorem dX10_isSung_13 : decode cX10_isSung 13 = .ok (.iload 4, 2) := by decide +kernel
theorem dX10_isSung_15 : decode cX10_isSung 15 = .ok (.iload 5, 2) := by decide +kernel
theorem dX10_isSung_17 : decode cX10_isSung 17 = .ok (.invokevirtual 143, 3) := by decide +kernel
theorem dX10_isSung_20 : decode cX10_isSung 20 = .ok (.aload_n 0, 1) := by decide +kernel
theorem dX10_isSung_21 : decode cX10_isSung 21 = .ok (.iload_n 3, 1) := by decide +kernel
theorem dX10_isSung_22 : decode cX10_isSung 22 = .ok (.invokevirtual 158, 3) := by decide +kernel
theorem dX10_isSung_25 : decode cX10_isSung 25 = .ok (.aload_n 0, 1) := by decide +kernel
theorem dX10_isSung_26 : decode cX10_isSung 26 = .ok (.getfield 19, 3) := by decide +kernel
theorem dX10_isSung_29 : decode cX10_isSung 29 = .ok (.bipush 32, 2) := by decide +kernel
theorem dX10_isSung_31 : decode cX10_isSung 31 = .ok (.iload_n 1, 1) := by decide +kernel
theorem dX10_isSung_32 : decode cX10_isSung 32 = .ok (.iadd, 1) := by decide +kernel
theorem dX10_isSung_33 : decode cX10_isSung 33 = .ok (.iaload, 1) := by decide +kernel
theorem dX10_isSung_34 : decode cX10_isSung 34 = .ok (.iload_n 2, 1) := by decide +kernel
theorem dX10_isSung_35 : decode cX10_isSung 35 = .ok (.if_icmp .ne 7, 3) := by decide +kernel
theorem dX10_isSung_38 : decode cX10_isSung 38 = .ok (.iconst 1, 1) := by decide +kernel
theorem dX10_isSung_39 : decode cX10_isSung 39 = .ok (.goto 4, 3) := by decide +kernel
theorem dX10_isSung_42 : decode cX10_isSung 42 = .ok (.iconst 0, 1) := by decide +kernel
theorem dX10_isSung_43 : decode cX10_isSung 43 = .ok (.ireturn, 1) := by decide +kernel
theorem dX10_leastGift_0 : decode cX10_leastGift 0 = .ok (.aload_n 0, 1) := by decide +kernel
theorem dX10_leastGift_1 : decode cX10_leastGift 1 = .ok (.iload_n 1, 1) := by decide +kernel
theorem dX10_leastGift_2 : decode cX10_leastGift 2 = .ok (.iload_n 2, 1) := by decide +kernel
theorem dX10_leastGift_3 : decode cX10_leastGift 3 = .ok (.iload_n 3, 1) := by decide +kernel
theorem dX10_leastGift_4 : decode cX10_leastGift 4 = .ok (.bipush (-9), 2) := by decide +kernel
theorem dX10_leastGift_6 : decode cX10_leastGift 6 = .ok (.iconst 0, 1) := by decide +kernel
theorem dX10_leastGift_7 : decode cX10_leastGift 7 = .ok (.invokevirtual 164, 3) := by decide +kernel
theorem dX10_leastGift_10 : decode cX10_leastGift 10 = .ok (.ifCond .eq 6, 3) := by decide +kernel
theorem dX10_leastGift_13 : decode cX10_leastGift 13 = .ok (.bipush 9, 2) := by decide +kernel
theorem dX10_leastGift_15 : decode cX10_leastGift 15 = .ok (.ireturn, 1) := by decide +kernel
theorem dX10_leastGift_16 : decode cX10_leastGift 16 = .ok (.iconst 1, 1) := by decide +kernel
theorem dX10_leastGift_17 : decode cX10_leastGift 17 = .ok (.istore 4, 2) := by decide +kernel
theorem dX10_leastGift_19 : decode cX10_leastGift 19 = .ok (.iload 4, 2) := by decide +kernel
theorem dX10_leastGift_21 : decode cX10_leastGift 21 = .ok (.bipush 10, 2) := by decide +kernel
theorem dX10_leastGift_23 : decode cX10_leastGift 23 = .ok (.if_icmp .ge 50, 3) := by decide +kernel
theorem dX10_leastGift_26 : decode cX10_leastGift 26 = .ok (.iconst 0, 1) := by decide +kernel
theorem dX10_leastGift_27 : decode cX10_leastGift 27 = .ok (.istore 5, 2) := by decide +kernel
theorem dX10_leastGift_29 : decode cX10_leastGift 29 = .ok (.iload 5, 2) := by decide +kernel
theorem dX10_leastGift_31 : decode cX10_leastGift 31 = .ok (.aload_n 0, 1) := by decide +kernel
theorem dX10_leastGift_32 : decode cX10_leastGift 32 = .ok (.getfield 96, 3) := by decide +kernel
theorem dX10_leastGift_35 : decode cX10_leastGift 35 = .ok (.if_icmp .ge 32, 3) := by decide +kernel
theorem dX10_leastGift_38 : decode cX10_leastGift 38 = .ok (.aload_n 0, 1) := by decide +kernel
theorem dX10_leastGift_39 : decode cX10_leastGift 39 = .ok (.iload_n 1, 1) := by decide +kernel
theorem dX10_leastGift_40 : decode cX10_leastGift 40 = .ok (.iload_n 2, 1) := by decide +kernel
theorem dX10_leastGift_41 : decode cX10_leastGift 41 = .ok (.iload_n 3, 1) := by decide +kernel
theorem dX10_leastGift_42 : decode cX10_leastGift 42 = .ok (.iload 5, 2) := by decide +kernel
theorem dX10_leastGift_44 : decode cX10_leastGift 44 = .ok (.iload 4, 2) := by decide +kernel
theorem dX10_leastGift_46 : decode cX10_leastGift 46 = .ok (.invokevirtual 164, 3) := by decide +kernel
theorem dX10_leastGift_49 : decode cX10_leastGift 49 = .ok (.ifCond .eq 12, 3) := by decide +kernel
theorem dX10_leastGift_52 : decode cX10_leastGift 52 = .ok (.bipush 10, 2) := by decide +kernel
theorem dX10_leastGift_54 : decode cX10_leastGift 54 = .ok (.iload 4, 2) := by decide +kernel
theorem dX10_leastGift_56 : decode cX10_leastGift 56 = .ok (.imul, 1) := by decide +kernel
theorem dX10_leastGift_57 : decode cX10_leastGift 57 = .ok (.iload 5, 2) := by decide +kernel
theorem dX10_leastGift_59 : decode cX10_leastGift 59 = .ok (.iadd, 1) := by decide +kernel
theorem dX10_leastGift_60 : decode cX10_leastGift 60 = .ok (.ireturn, 1) := by decide +kernel
theorem dX10_leastGift_61 : decode cX10_leastGift 61 = .ok (.iinc 5 1, 3) := by decide +kernel
theorem dX10_leastGift_64 : decode cX10_leastGift 64 = .ok (.goto (-35), 3) := by decide +kernel
theorem dX10_leastGift_67 : decode cX10_leastGift 67 = .ok (.iinc 4 1, 3) := by decide +kernel
theorem dX10_leastGift_70 : decode cX10_leastGift 70 = .ok (.goto (-51), 3) := by decide +kernel
theorem dX10_leastGift_73 : decode cX10_leastGift 73 = .ok (.bipush (-9), 2) := by decide +kernel
theorem dX10_leastGift_75 : decode cX10_leastGift 75 = .ok (.ireturn, 1) := by decide +kernel
theorem dX10_gets_0 : decode cX10_gets 0 = .ok (.aload_n 0, 1) := by decide +kernel
theorem dX10_gets_1 : decode cX10_gets 1 = .ok (.iload_n 1, 1) := by decide +kernel
theorem dX10_gets_2 : decode cX10_gets 2 = .ok (.invokevirtual 119, 3) := by decide +kernel
theorem dX10_gets_5 : decode cX10_gets 5 = .ok (.ifCond .ne 5, 3) := by decide +kernel
theorem dX10_gets_8 : decode cX10_gets 8 = .ok (.iconst (-1), 1) := by decide +kernel
theorem dX10_gets_9 : decode cX10_gets 9 = .ok (.ireturn, 1) := by decide +kernel
theorem dX10_gets_10 : decode cX10_gets 10 = .ok (.iload_n 2, 1) := by decide +kernel
theorem dX10_gets_11 : decode cX10_gets 11 = .ok (.i2l, 1) := by decide +kernel
theorem dX10_gets_12 : decode cX10_gets 12 = .ok (.lconst 0, 1) := by decide +kernel
theorem dX10_gets_13 : decode cX10_gets 13 = .ok (.ldc2_w 72, 3) := by decide +kernel
theorem dX10_gets_16 : decode cX10_gets 16 = .ok (.invokestatic 59, 3) := by decide +kernel
theorem dX10_gets_19 : decode cX10_gets 19 = .ok (.ifCond .eq 26, 3) := by decide +kernel
theorem dX10_gets_22 : decode cX10_gets 22 = .ok (.iload_n 3, 1) := by decide +kernel
theorem dX10_gets_23 : decode cX10_gets 23 = .ok (.i2l, 1) := by decide +kernel
theorem dX10_gets_24 : decode cX10_gets 24 = .ok (.lconst 1, 1) := by decide +kernel
theorem dX10_gets_25 : decode cX10_gets 25 = .ok (.ldc2_w 72, 3) := by decide +kernel
theorem dX10_gets_28 : decode cX10_gets 28 = .ok (.invokestatic 59, 3) := by decide +kernel
theorem dX10_gets_31 : decode cX10_gets 31 = .ok (.ifCond .eq 14, 3) := by decide +kernel
theorem dX10_gets_34 : decode cX10_gets 34 = .ok (.iload 4, 2) := by decide +kernel
theorem dX10_gets_36 : decode cX10_gets 36 = .ok (.i2l, 1) := by decide +kernel
theorem dX10_gets_37 : decode cX10_gets 37 = .ok (.lconst 0, 1) := by decide +kernel
theorem dX10_gets_38 : decode cX10_gets 38 = .ok (.lconst 1, 1) := by decide +kernel
theorem dX10_gets_39 : decode cX10_gets 39 = .ok (.invokestatic 59, 3) := by decide +kernel
theorem dX10_gets_42 : decode cX10_gets 42 = .ok (.ifCond .ne 6, 3) := by decide +kernel
theorem dX10_gets_45 : decode cX10_gets 45 = .ok (.bipush (-2), 2) := by decide +kernel
theorem dX10_gets_47 : decode cX10_gets 47 = .ok (.ireturn, 1) := by decide +kernel
theorem dX10_gets_48 : decode cX10_gets 48 = .ok (.aload_n 0, 1) := by decide +kernel
theorem dX10_gets_49 : decode cX10_gets 49 = .ok (.iload_n 1, 1) := by decide +kernel
theorem dX10_gets_50 : decode cX10_gets 50 = .ok (.iload_n 2, 1) := by decide +kernel
theorem dX10_gets_51 : decode cX10_gets 51 = .ok (.iload_n 3, 1) := by decide +kernel
theorem dX10_gets_52 : decode cX10_gets 52 = .ok (.invokevirtual 168, 3) := by decide +kernel
theorem dX10_gets_55 : decode cX10_gets 55 = .ok (.istore 5, 2) := by decide +kernel
theorem dX10_gets_57 : decode cX10_gets 57 = .ok (.iload 5, 2) := by decide +kernel
theorem dX10_gets_59 : decode cX10_gets 59 = .ok (.bipush (-9), 2) := by decide +kernel
theorem dX10_gets_61 : decode cX10_gets 61 = .ok (.if_icmp .ne 6, 3) := by decide +kernel
theorem dX10_gets_64 : decode cX10_gets 64 = .ok (.bipush (-9), 2) := by decide +kernel
theorem dX10_gets_66 : decode cX10_gets 66 = .ok (.ireturn, 1) := by decide +kernel
theorem dX10_gets_67 : decode cX10_gets 67 = .ok (.iload 4, 2) := by decide +kernel
theorem dX10_gets_69 : decode cX10_gets 69 = .ok (.ifCond .ne 11, 3) := by decide +kernel
theorem dX10_gets_72 : decode cX10_gets 72 = .ok (.iload 5, 2) := by decide +kernel
theorem dX10_gets_74 : decode cX10_gets 74 = .ok (.bipush 10, 2) := by decide +kernel
theorem dX10_gets_76 : decode cX10_gets 76 = .ok (.idiv, 1) := by decide +kernel
theorem dX10_gets_77 : decode cX10_gets 77 = .ok (.goto 20, 3) := by decide +kernel
theorem dX10_gets_80 : decode cX10_gets 80 = .ok (.iload 5, 2) := by decide +kernel
theorem dX10_gets_82 : decode cX10_gets 82 = .ok (.bipush 9, 2) := by decide +kernel
theorem dX10_gets_84 : decode cX10_gets 84 = .ok (.if_icmp .ne 8, 3) := by decide +kernel
theorem dX10_gets_87 : decode cX10_gets 87 = .ok (.bipush (-9), 2) := by decide +kernel
theorem dX10_gets_89 : decode cX10_gets 89 = .ok (.goto 8, 3) := by decide +kernel
theorem dX10_gets_92 : decode cX10_gets 92 = .ok (.iload 5, 2) := by decide +kernel
theorem dX10_gets_94 : decode cX10_gets 94 = .ok (.bipush 10, 2) := by decide +kernel
theorem dX10_gets_96 : decode cX10_gets 96 = .ok (.irem, 1) := by decide +kernel
theorem dX10_gets_97 : decode cX10_gets 97 = .ok (.ireturn, 1) := by decide +kernel
theorem dX10_notesBy_0 : decode cX10_notesBy 0 = .ok (.aload_n 0, 1) := by decide +kernel
theorem dX10_notesBy_1 : decode cX10_notesBy 1 = .ok (.invokevirtual 155, 3) := by decide +kernel
theorem dX10_notesBy_4 : decode cX10_notesBy 4 = .ok (.iload_n 1, 1) := by decide +kernel
theorem dX10_notesBy_5 : decode cX10_notesBy 5 = .ok (.iload_n 2, 1) := by decide +kernel
theorem dX10_notesBy_6 : decode cX10_notesBy 6 = .ok (.if_icmp .eq 10, 3) := by decide +kernel
theorem dX10_notesBy_9 : decode cX10_notesBy 9 = .ok (.aload_n 0, 1) := by decide +kernel
theorem dX10_notesBy_10 : decode cX10_notesBy 10 = .ok (.iconst 1, 1) := by decide +kernel
theorem dX10_notesBy_11 : decode cX10_notesBy 11 = .ok (.iload_n 1, 1) := by decide +kernel
theorem dX10_notesBy_12 : decode cX10_notesBy 12 = .ok (.iload_n 2, 1) := by decide +kernel
theorem dX10_notesBy_13 : decode cX10_notesBy 13 = .ok (.invokevirtual 147, 3) := by decide +kernel
theorem dX10_notesBy_16 : decode cX10_notesBy 16 = .ok (.aload_n 0, 1) := by decide +kernel
theorem dX10_notesBy_17 : decode cX10_notesBy 17 = .ok (.iload_n 3, 1) := by decide +kernel
theorem dX10_notesBy_18 : decode cX10_notesBy 18 = .ok (.invokevirtual 158, 3) := by decide +kernel
theorem dX10_notesBy_21 : decode cX10_notesBy 21 = .ok (.aload_n 0, 1) := by decide +kernel
theorem dX10_notesBy_22 : decode cX10_notesBy 22 = .ok (.iconst 1, 1) := by decide +kernel
theorem dX10_notesBy_23 : decode cX10_notesBy 23 = .ok (.invokevirtual 137, 3) := by decide +kernel
theorem dX10_notesBy_26 : decode cX10_notesBy 26 = .ok (.invokestatic 140, 3) := by decide +kernel
theorem dX10_notesBy_29 : decode cX10_notesBy 29 = .ok (.ireturn, 1) := by decide +kernel
theorem dX10_best_0 : decode cX10_best 0 = .ok (.iload_n 1, 1) := by decide +kernel
theorem dX10_best_1 : decode cX10_best 1 = .ok (.i2l, 1) := by decide +kernel
theorem dX10_best_2 : decode cX10_best 2 = .ok (.lconst 1, 1) := by decide +kernel
theorem dX10_best_3 : decode cX10_best 3 = .ok (.ldc2_w 72, 3) := by decide +kernel
theorem dX10_best_6 : decode cX10_best 6 = .ok (.invokestatic 59, 3) := by decide +kernel
theorem dX10_best_9 : decode cX10_best 9 = .ok (.ifCond .eq 13, 3) := by decide +kernel
theorem dX10_best_12 : decode cX10_best 12 = .ok (.iload_n 2, 1) := by decide +kernel
theorem dX10_best_13 : decode cX10_best 13 = .ok (.i2l, 1) := by decide +kernel
theorem dX10_best_14 : decode cX10_best 14 = .ok (.lconst 0, 1) := by decide +kernel
theorem dX10_best_15 : decode cX10_best 15 = .ok (.lconst 1, 1) := by decide +kernel
theorem dX10_best_16 : decode cX10_best 16 = .ok (.invokestatic 59, 3) := by decide +kernel
theorem dX10_best_19 : decode cX10_best 19 = .ok (.ifCond .ne 6, 3) := by decide +kernel
theorem dX10_best_22 : decode cX10_best 22 = .ok (.bipush (-2), 2) := by decide +kernel
theorem dX10_best_24 : decode cX10_best 24 = .ok (.ireturn, 1) := by decide +kernel
theorem dX10_best_25 : decode cX10_best 25 = .ok (.aload_n 0, 1) := by decide +kernel
theorem dX10_best_26 : decode cX10_best 26 = .ok (.iconst 0, 1) := by decide +kernel
theorem dX10_best_27 : decode cX10_best 27 = .ok (.iconst 0, 1) := by decide +kernel
theorem dX10_best_28 : decode cX10_best 28 = .ok (.iload_n 1, 1) := by decide +kernel
theorem dX10_best_29 : decode cX10_best 29 = .ok (.invokevirtual 172, 3) := by decide +kernel
theorem dX10_best_32 : decode cX10_best 32 = .ok (.istore_n 3, 1) := by decide +kernel
theorem dX10_best_33 : decode cX10_best 33 = .ok (.bipush 99, 2) := by decide +kernel
theorem dX10_best_35 : decode cX10_best 35 = .ok (.istore 4, 2) := by decide +kernel
theorem dX10_best_37 : decode cX10_best 37 = .ok (.iconst 0, 1) := by decide +kernel
theorem dX10_best_38 : decode cX10_best 38 = .ok (.istore 5, 2) := by decide +kernel
theorem dX10_best_40 : decode cX10_best 40 = .ok (.iload 5, 2) := by decide +kernel
theorem dX10_best_42 : decode cX10_best 42 = .ok (.aload_n 0, 1) := by decide +kernel
theorem dX10_best_43 : decode cX10_best 43 = .ok (.getfield 96, 3) := by decide +kernel
theorem dX10_best_46 : decode cX10_best 46 = .ok (.aload_n 0, 1) := by decide +kernel
theorem dX10_best_47 : decode cX10_best 47 = .ok (.getfield 96, 3) := by decide +kernel
theorem dX10_best_50 : decode cX10_best 50 = .ok (.imul, 1) := by decide +kernel
theorem dX10_best_51 : decode cX10_best 51 = .ok (.if_icmp .ge 84, 3) := by decide +kernel
theorem dX10_best_54 : decode cX10_best 54 = .ok (.iload 5, 2) := by decide +kernel
theorem dX10_best_56 : decode cX10_best 56 = .ok (.aload_n 0, 1) := by decide +kernel
theorem dX10_best_57 : decode cX10_best 57 = .ok (.getfield 96, 3) := by decide +kernel
theorem dX10_best_60 : decode cX10_best 60 = .ok (.idiv, 1) := by decide +kernel
theorem dX10_best_61 : decode cX10_best 61 = .ok (.istore 6, 2) := by decide +kernel
theorem dX10_best_63 : decode cX10_best 63 = .ok (.iload 5, 2) := by decide +kernel
theorem dX10_best_65 : decode cX10_best 65 = .ok (.aload_n 0, 1) := by decide +kernel
theorem dX10_best_66 : decode cX10_best 66 = .ok (.getfield 96, 3) := by decide +kernel
theorem dX10_best_69 : decode cX10_best 69 = .ok (.irem, 1) := by decide +kernel
theorem dX10_best_70 : decode cX10_best 70 = .ok (.istore 7, 2) := by decide +kernel
theorem dX10_best_72 : decode cX10_best 72 = .ok (.iload 6, 2) := by decide +kernel
theorem dX10_best_74 : decode cX10_best 74 = .ok (.iload 7, 2) := by decide +kernel
theorem dX10_best_76 : decode cX10_best 76 = .ok (.if_icmp .ge 15, 3) := by decide +kernel
theorem dX10_best_79 : decode cX10_best 79 = .ok (.aload_n 0, 1) := by decide +kernel
theorem dX10_best_80 : decode cX10_best 80 = .ok (.iload 6, 2) := by decide +kernel
theorem dX10_best_82 : decode cX10_best 82 = .ok (.iload 7, 2) := by decide +kernel
theorem dX10_best_84 : decode cX10_best 84 = .ok (.iload_n 1, 1) := by decide +kernel
theorem dX10_best_85 : decode cX10_best 85 = .ok (.invokevirtual 172, 3) := by decide +kernel
theorem dX10_best_88 : decode cX10_best 88 = .ok (.goto 5, 3) := by decide +kernel
theorem dX10_best_91 : decode cX10_best 91 = .ok (.bipush (-9), 2) := by decide +kernel
theorem dX10_best_93 : decode cX10_best 93 = .ok (.istore 8, 2) := by decide +kernel
theorem dX10_best_95 : decode cX10_best 95 = .ok (.iload 8, 2) := by decide +kernel
theorem dX10_best_97 : decode cX10_best 97 = .ok (.iload_n 3, 1) := by decide +kernel
theorem dX10_best_98 : decode cX10_best 98 = .ok (.if_icmp .le 14, 3) := by decide +kernel
theorem dX10_best_101 : decode cX10_best 101 = .ok (.bipush 10, 2) := by decide +kernel
theorem dX10_best_103 : decode cX10_best 103 = .ok (.iload 6, 2) := by decide +kernel
theorem dX10_best_105 : decode cX10_best 105 = .ok (.imul, 1) := by decide +kernel
theorem dX10_best_106 : decode cX10_best 106 = .ok (.iload 7, 2) := by decide +kernel
theorem dX10_best_108 : decode cX10_best 108 = .ok (.iadd, 1) := by decide +kernel
theorem dX10_best_109 : decode cX10_best 109 = .ok (.goto 5, 3) := by decide +kernel
theorem dX10_best_112 : decode cX10_best 112 = .ok (.iload 4, 2) := by decide +kernel
theorem dX10_best_114 : decode cX10_best 114 = .ok (.istore 4, 2) := by decide +kernel
theorem dX10_best_116 : decode cX10_best 116 = .ok (.iload 8, 2) := by decide +kernel
theorem dX10_best_118 : decode cX10_best 118 = .ok (.iload_n 3, 1) := by decide +kernel
theorem dX10_best_119 : decode cX10_best 119 = .ok (.if_icmp .le 8, 3) := by decide +kernel
theorem dX10_best_122 : decode cX10_best 122 = .ok (.iload 8, 2) := by decide +kernel
theorem dX10_best_124 : decode cX10_best 124 = .ok (.goto 4, 3) := by decide +kernel
theorem dX10_best_127 : decode cX10_best 127 = .ok (.iload_n 3, 1) := by decide +kernel
theorem dX10_best_128 : decode cX10_best 128 = .ok (.istore_n 3, 1) := by decide +kernel
theorem dX10_best_129 : decode cX10_best 129 = .ok (.iinc 5 1, 3) := by decide +kernel
theorem dX10_best_132 : decode cX10_best 132 = .ok (.goto (-92), 3) := by decide +kernel
theorem dX10_best_135 : decode cX10_best 135 = .ok (.iload_n 2, 1) := by decide +kernel
theorem dX10_best_136 : decode cX10_best 136 = .ok (.ifCond .ne 7, 3) := by decide +kernel
theorem dX10_best_139 : decode cX10_best 139 = .ok (.iload_n 3, 1) := by decide +kernel
theorem dX10_best_140 : decode cX10_best 140 = .ok (.goto 5, 3) := by decide +kernel
theorem dX10_best_143 : decode cX10_best 143 = .ok (.iload 4, 2) := by decide +kernel
theorem dX10_best_145 : decode cX10_best 145 = .ok (.ireturn, 1) := by decide +kernel
theorem dX10_tryThing_0 : decode cX10_tryThing 0 = .ok (.iload_n 1, 1) := by decide +kernel
theorem dX10_tryThing_1 : decode cX10_tryThing 1 = .ok (.tableswitch 213 0 5 #[39, 58, 92, 135, 154, 181], 39) := by decide +kernel
theorem dX10_tryThing_40 : decode cX10_tryThing 40 = .ok (.aload_n 0, 1) := by decide +kernel
theorem dX10_tryThing_41 : decode cX10_tryThing 41 = .ok (.iconst 1, 1) := by decide +kernel
theorem dX10_tryThing_42 : decode cX10_tryThing 42 = .ok (.invokevirtual 134, 3) := by decide +kernel
theorem dX10_tryThing_45 : decode cX10_tryThing 45 = .ok (.iload_n 2, 1) := by decide +kernel
theorem dX10_tryThing_46 : decode cX10_tryThing 46 = .ok (.ifCond .ne 11, 3) := by decide +kernel
theorem dX10_tryThing_49 : decode cX10_tryThing 49 = .ok (.iload_n 3, 1) := by decide +kernel
theorem dX10_tryThing_50 : decode cX10_tryThing 50 = .ok (.ifCond .ne 7, 3) := by decide +kernel
theorem dX10_tryThing_53 : decode cX10_tryThing 53 = .ok (.iconst 1, 1) := by decide +kernel
theorem dX10_tryThing_54 : decode cX10_tryThing 54 = .ok (.goto 4, 3) := by decide +kernel
theorem dX10_tryThing_57 : decode cX10_tryThing 57 = .ok (.iconst 0, 1) := by decide +kernel
theorem dX10_tryThing_58 : decode cX10_tryThing 58 = .ok (.ireturn, 1) := by decide +kernel
theorem dX10_tryThing_59 : decode cX10_tryThing 59 = .ok (.aload_n 0, 1) := by decide +kernel
theorem dX10_tryThing_60 : decode cX10_tryThing 60 = .ok (.iload_n 2, 1) := by decide +kernel
theorem dX10_tryThing_61 : decode cX10_tryThing 61 = .ok (.invokevirtual 119, 3) := by decide +kernel
theorem dX10_tryThing_64 : decode cX10_tryThing 64 = .ok (.ifCond .eq 11, 3) := by decide +kernel
theorem dX10_tryThing_67 : decode cX10_tryThing 67 = .ok (.iload_n 3, 1) := by decide +kernel
theorem dX10_tryThing_68 : decode cX10_tryThing 68 = .ok (.ifCond .le 7, 3) := by decide +kernel
theorem dX10_tryThing_71 : decode cX10_tryThing 71 = .ok (.iconst 1, 1) := by decide +kernel
theorem dX10_tryThing_72 : decode cX10_tryThing 72 = .ok (.goto 4, 3) := by decide +kernel
theorem dX10_tryThing_75 : decode cX10_tryThing 75 = .ok (.iconst 0, 1) := by decide +kernel
theorem dX10_tryThing_76 : decode cX10_tryThing 76 = .ok (.istore 4, 2) := by decide +kernel
theorem dX10_tryThing_78 : decode cX10_tryThing 78 = .ok (.iload 4, 2) := by decide +kernel
theorem dX10_tryThing_80 : decode cX10_tryThing 80 = .ok (.ifCond .eq 10, 3) := by decide +kernel
theorem dX10_tryThing_83 : decode cX10_tryThing 83 = .ok (.aload_n 0, 1) := by decide +kernel
theorem dX10_tryThing_84 : decode cX10_tryThing 84 = .ok (.iconst 1, 1) := by decide +kernel
theorem dX10_tryThing_85 : decode cX10_tryThing 85 = .ok (.iload_n 2, 1) := by decide +kernel
theorem dX10_tryThing_86 : decode cX10_tryThing 86 = .ok (.iload_n 3, 1) := by decide +kernel
theorem dX10_tryThing_87 : decode cX10_tryThing 87 = .ok (.invokevirtual 143, 3) := by decide +kernel
theorem dX10_tryThing_90 : decode cX10_tryThing 90 = .ok (.iload 4, 2) := by decide +kernel
theorem dX10_tryThing_92 : decode cX10_tryThing 92 = .ok (.ireturn, 1) := by decide +kernel
theorem dX10_tryThing_93 : decode cX10_tryThing 93 = .ok (.aload_n 0, 1) := by decide +kernel
theorem dX10_tryThing_94 : decode cX10_tryThing 94 = .ok (.iload_n 2, 1) := by decide +kernel
theorem dX10_tryThing_95 : decode cX10_tryThing 95 = .ok (.invokevirtual 119, 3) := by decide +kernel
theorem dX10_tryThing_98 : decode cX10_tryThing 98 = .ok (.ifCond .eq 20, 3) := by decide +kernel
theorem dX10_tryThing_101 : decode cX10_tryThing 101 = .ok (.aload_n 0, 1) := by decide +kernel
theorem dX10_tryThing_102 : decode cX10_tryThing 102 = .ok (.iload_n 3, 1) := by decide +kernel
theorem dX10_tryThing_103 : decode cX10_tryThing 103 = .ok (.invokevirtual 119, 3) := by decide +kernel
theorem dX10_tryThing_106 : decode cX10_tryThing 106 = .ok (.ifCond .eq 12, 3) := by decide +kernel
theorem dX10_tryThing_109 : decode cX10_tryThing 109 = .ok (.iload_n 2, 1) := by decide +kernel
theorem dX10_tryThing_110 : decode cX10_tryThing 110 = .ok (.iload_n 3, 1) := by decide +kernel
theorem dX10_tryThing_111 : decode cX10_tryThing 111 = .ok (.if_icmp .eq 7, 3) := by decide +kernel
theorem dX10_tryThing_114 : decode cX10_tryThing 114 = .ok (.iconst 1, 1) := by decide +kernel
theorem dX10_tryThing_115 : decode cX10_tryThing 115 = .ok (.goto 4, 3) := by decide +kernel
theorem dX10_tryThing_118 : decode cX10_tryThing 118 = .ok (.iconst 0, 1) := by decide +kernel
theorem dX10_tryThing_119 : decode cX10_tryThing 119 = .ok (.istore 5, 2) := by decide +kernel
theorem dX10_tryThing_121 : decode cX10_tryThing 121 = .ok (.iload 5, 2) := by decide +kernel
theorem dX10_tryThing_123 : decode cX10_tryThing 123 = .ok (.ifCond .eq 10, 3) := by decide +kernel
theorem dX10_tryThing_126 : decode cX10_tryThing 126 = .ok (.aload_n 0, 1) := by decide +kernel
theorem dX10_tryThing_127 : decode cX10_tryThing 127 = .ok (.iconst 1, 1) := by decide +kernel
theorem dX10_tryThing_128 : decode cX10_tryThing 128 = .ok (.iload_n 2, 1) := by decide +kernel
theorem dX10_tryThing_129 : decode cX10_tryThing 129 = .ok (.iload_n 3, 1) := by decide +kernel
theorem dX10_tryThing_130 : decode cX10_tryThing 130 = .ok (.invokevirtual 147, 3) := by decide +kernel
theorem dX10_tryThing_133 : decode cX10_tryThing 133 = .ok (.iload 5, 2) := by decide +kernel
theorem dX10_tryThing_135 : decode cX10_tryThing 135 = .ok (.ireturn, 1) := by decide +kernel
theorem dX10_tryThing_136 : decode cX10_tryThing 136 = .ok (.aload_n 0, 1) := by decide +kernel
theorem dX10_tryThing_137 : decode cX10_tryThing 137 = .ok (.iconst 1, 1) := by decide +kernel
theorem dX10_tryThing_138 : decode cX10_tryThing 138 = .ok (.invokevirtual 150, 3) := by decide +kernel
theorem dX10_tryThing_141 : decode cX10_tryThing 141 = .ok (.iload_n 2, 1) := by decide +kernel
theorem dX10_tryThing_142 : decode cX10_tryThing 142 = .ok (.ifCond .ne 11, 3) := by decide +kernel
theorem dX10_tryThing_145 : decode cX10_tryThing 145 = .ok (.iload_n 3, 1) := by decide +kernel
theorem dX10_tryThing_146 : decode cX10_tryThing 146 = .ok (.ifCond .ne 7, 3) := by decide +kernel
theorem dX10_tryThing_149 : decode cX10_tryThing 149 = .ok (.iconst 1, 1) := by decide +kernel
theorem dX10_tryThing_150 : decode cX10_tryThing 150 = .ok (.goto 4, 3) := by decide +kernel
theorem dX10_tryThing_153 : decode cX10_tryThing 153 = .ok (.iconst 0, 1) := by decide +kernel
theorem dX10_tryThing_154 : decode cX10_tryThing 154 = .ok (.ireturn, 1) := by decide +kernel
theorem dX10_tryThing_155 : decode cX10_tryThing 155 = .ok (.aload_n 0, 1) := by decide +kernel
theorem dX10_tryThing_156 : decode cX10_tryThing 156 = .ok (.iload_n 2, 1) := by decide +kernel
theorem dX10_tryThing_157 : decode cX10_tryThing 157 = .ok (.invokevirtual 119, 3) := by decide +kernel
theorem dX10_tryThing_160 : decode cX10_tryThing 160 = .ok (.ifCond .eq 20, 3) := by decide +kernel
theorem dX10_tryThing_163 : decode cX10_tryThing 163 = .ok (.aload_n 0, 1) := by decide +kernel
theorem dX10_tryThing_164 : decode cX10_tryThing 164 = .ok (.getfield 19, 3) := by decide +kernel
theorem dX10_tryThing_167 : decode cX10_tryThing 167 = .ok (.bipush 32, 2) := by decide +kernel
theorem dX10_tryThing_169 : decode cX10_tryThing 169 = .ok (.iload_n 2, 1) := by decide +kernel
theorem dX10_tryThing_170 : decode cX10_tryThing 170 = .ok (.iadd, 1) := by decide +kernel
theorem dX10_tryThing_171 : decode cX10_tryThing 171 = .ok (.iaload, 1) := by decide +kernel
theorem dX10_tryThing_172 : decode cX10_tryThing 172 = .ok (.iload_n 3, 1) := by decide +kernel
theorem dX10_tryThing_173 : decode cX10_tryThing 173 = .ok (.if_icmp .ne 7, 3) := by decide +kernel
theorem dX10_tryThing_176 : decode cX10_tryThing 176 = .ok (.iconst 1, 1) := by decide +kernel
theorem dX10_tryThing_177 : decode cX10_tryThing 177 = .ok (.goto 4, 3) := by decide +kernel
theorem dX10_tryThing_180 : decode cX10_tryThing 180 = .ok (.iconst 0, 1) := by decide +kernel
theorem dX10_tryThing_181 : decode cX10_tryThing 181 = .ok (.ireturn, 1) := by decide +kernel
theorem dX10_tryThing_182 : decode cX10_tryThing 182 = .ok (.aload_n 0, 1) := by decide +kernel
theorem dX10_tryThing_183 : decode cX10_tryThing 183 = .ok (.iload_n 2, 1) := by decide +kernel
theorem dX10_tryThing_184 : decode cX10_tryThing 184 = .ok (.invokevirtual 119, 3) := by decide +kernel
theorem dX10_tryThing_187 : decode cX10_tryThing 187 = .ok (.ifCond .eq 25, 3) := by decide +kernel
theorem dX10_tryThing_190 : decode cX10_tryThing 190 = .ok (.aload_n 0, 1) := by decide +kernel
theorem dX10_tryThing_191 : decode cX10_tryThing 191 = .ok (.iload_n 3, 1) := by decide +kernel
theorem dX10_tryThing_192 : decode cX10_tryThing 192 = .ok (.invokevirtual 119, 3) := by decide +kernel
theorem dX10_tryThing_195 : decode cX10_tryThing 195 = .ok (.ifCond .eq 17, 3) := by decide +kernel
theorem dX10_tryThing_198 : decode cX10_tryThing 198 = .ok (.aload_n 0, 1) := by decide +kernel
theorem dX10_tryThing_199 : decode cX10_tryThing 199 = .ok (.iconst 1, 1) := by decide +kernel
theorem dX10_tryThing_200 : decode cX10_tryThing 200 = .ok (.iload_n 2, 1) := by decide +kernel
theorem dX10_tryThing_201 : decode cX10_tryThing 201 = .ok (.invokevirtual 113, 3) := by decide +kernel
theorem dX10_tryThing_204 : decode cX10_tryThing 204 = .ok (.iload_n 3, 1) := by decide +kernel
theorem dX10_tryThing_205 : decode cX10_tryThing 205 = .ok (.if_icmp .ne 7, 3) := by decide +kernel
theorem dX10_tryThing_208 : decode cX10_tryThing 208 = .ok (.iconst 1, 1) := by decide +kernel
theorem dX10_tryThing_209 : decode cX10_tryThing 209 = .ok (.goto 4, 3) := by decide +kernel
theorem dX10_tryThing_212 : decode cX10_tryThing 212 = .ok (.iconst 0, 1) := by decide +kernel
theorem dX10_tryThing_213 : decode cX10_tryThing 213 = .ok (.ireturn, 1) := by decide +kernel
theorem dX10_tryThing_214 : decode cX10_tryThing 214 = .ok (.iconst 0, 1) := by decide +kernel
theorem dX10_tryThing_215 : decode cX10_tryThing 215 = .ok (.ireturn, 1) := by decide +kernel
theorem dX10_thousandTo_0 : decode cX10_thousandTo 0 = .ok (.lconst 1, 1) := by decide +kernel
theorem dX10_thousandTo_1 : decode cX10_thousandTo 1 = .ok (.lstore_n 1, 1) := by decide +kernel
theorem dX10_thousandTo_2 : decode cX10_thousandTo 2 = .ok (.iconst 0, 1) := by decide +kernel
theorem dX10_thousandTo_3 : decode cX10_thousandTo 3 = .ok (.istore_n 3, 1) := by decide +kernel
theorem dX10_thousandTo_4 : decode cX10_thousandTo 4 = .ok (.iload_n 3, 1) := by decide +kernel
theorem dX10_thousandTo_5 : decode cX10_thousandTo 5 = .ok (.iload_n 0, 1) := by decide +kernel
theorem dX10_thousandTo_6 : decode cX10_thousandTo 6 = .ok (.if_icmp .ge 15, 3) := by decide +kernel
theorem dX10_thousandTo_9 : decode cX10_thousandTo 9 = .ok (.lload_n 1, 1) := by decide +kernel
theorem dX10_thousandTo_10 : decode cX10_thousandTo 10 = .ok (.ldc2_w 175, 3) := by decide +kernel
theorem dX10_thousandTo_13 : decode cX10_thousandTo 13 = .ok (.lmul, 1) := by decide +kernel
theorem dX10_thousandTo_14 : decode cX10_thousandTo 14 = .ok (.lstore_n 1, 1) := by decide +kernel
theorem dX10_thousandTo_15 : decode cX10_thousandTo 15 = .ok (.iinc 3 1, 3) := by decide +kernel
theorem dX10_thousandTo_18 : decode cX10_thousandTo 18 = .ok (.goto (-14), 3) := by decide +kernel
theorem dX10_thousandTo_21 : decode cX10_thousandTo 21 = .ok (.lload_n 1, 1) := by decide +kernel
theorem dX10_thousandTo_22 : decode cX10_thousandTo 22 = .ok (.lreturn, 1) := by decide +kernel
theorem dX10_judge_0 : decode cX10_judge 0 = .ok (.iload_n 1, 1) := by decide +kernel
theorem dX10_judge_1 : decode cX10_judge 1 = .ok (.i2l, 1) := by decide +kernel
theorem dX10_judge_2 : decode cX10_judge 2 = .ok (.lconst 1, 1) := by decide +kernel
theorem dX10_judge_3 : decode cX10_judge 3 = .ok (.ldc2_w 177, 3) := by decide +kernel
theorem dX10_judge_6 : decode cX10_judge 6 = .ok (.invokestatic 59, 3) := by decide +kernel
theorem dX10_judge_9 : decode cX10_judge 9 = .ok (.ifCond .eq 17, 3) := by decide +kernel
theorem dX10_judge_12 : decode cX10_judge 12 = .ok (.lload_n 2, 1) := by decide +kernel
theorem dX10_judge_13 : decode cX10_judge 13 = .ok (.lconst 0, 1) := by decide +kernel
theorem dX10_judge_14 : decode cX10_judge 14 = .ok (.iload_n 1, 1) := by decide +kernel
theorem dX10_judge_15 : decode cX10_judge 15 = .ok (.invokestatic 179, 3) := by decide +kernel
theorem dX10_judge_18 : decode cX10_judge 18 = .ok (.lconst 1, 1) := by decide +kernel
theorem dX10_judge_19 : decode cX10_judge 19 = .ok (.lsub, 1) := by decide +kernel
theorem dX10_judge_20 : decode cX10_judge 20 = .ok (.invokestatic 59, 3) := by decide +kernel
theorem dX10_judge_23 : decode cX10_judge 23 = .ok (.ifCond .ne 6, 3) := by decide +kernel
theorem dX10_judge_26 : decode cX10_judge 26 = .ok (.bipush (-2), 2) := by decide +kernel
theorem dX10_judge_28 : decode cX10_judge 28 = .ok (.ireturn, 1) := by decide +kernel
theorem dX10_judge_29 : decode cX10_judge 29 = .ok (.aload_n 0, 1) := by decide +kernel
theorem dX10_judge_30 : decode cX10_judge 30 = .ok (.invokevirtual 155, 3) := by decide +kernel
theorem dX10_judge_33 : decode cX10_judge 33 = .ok (.iconst 0, 1) := by decide +kernel
theorem dX10_judge_34 : decode cX10_judge 34 = .ok (.istore 4, 2) := by decide +kernel
theorem dX10_judge_36 : decode cX10_judge 36 = .ok (.iload 4, 2) := by decide +kernel
theorem dX10_judge_38 : decode cX10_judge 38 = .ok (.iload_n 1, 1) := by decide +kernel
theorem dX10_judge_39 : decode cX10_judge 39 = .ok (.if_icmp .ge 55, 3) := by decide +kernel
theorem dX10_judge_42 : decode cX10_judge 42 = .ok (.lload_n 2, 1) := by decide +kernel
theorem dX10_judge_43 : decode cX10_judge 43 = .ok (.iload_n 1, 1) := by decide +kernel
theorem dX10_judge_44 : decode cX10_judge 44 = .ok (.iconst 1, 1) := by decide +kernel
theorem dX10_judge_45 : decode cX10_judge 45 = .ok (.isub, 1) := by decide +kernel
theorem dX10_judge_46 : decode cX10_judge 46 = .ok (.iload 4, 2) := by decide +kernel
theorem dX10_judge_48 : decode cX10_judge 48 = .ok (.isub, 1) := by decide +kernel
theorem dX10_judge_49 : decode cX10_judge 49 = .ok (.invokestatic 179, 3) := by decide +kernel
theorem dX10_judge_52 : decode cX10_judge 52 = .ok (.ldiv, 1) := by decide +kernel
theorem dX10_judge_53 : decode cX10_judge 53 = .ok (.ldc2_w 175, 3) := by decide +kernel
theorem dX10_judge_56 : decode cX10_judge 56 = .ok (.lrem, 1) := by decide +kernel
theorem dX10_judge_57 : decode cX10_judge 57 = .ok (.l2i, 1) := by decide +kernel
theorem dX10_judge_58 : decode cX10_judge 58 = .ok (.istore 5, 2) := by decide +kernel
theorem dX10_judge_60 : decode cX10_judge 60 = .ok (.aload_n 0, 1) := by decide +kernel
theorem dX10_judge_61 : decode cX10_judge 61 = .ok (.iload 5, 2) := by decide +kernel
theorem dX10_judge_63 : decode cX10_judge 63 = .ok (.bipush 100, 2) := by decide +kernel
theorem dX10_judge_65 : decode cX10_judge 65 = .ok (.idiv, 1) := by decide +kernel
theorem dX10_judge_66 : decode cX10_judge 66 = .ok (.iload 5, 2) := by decide +kernel
theorem dX10_judge_68 : decode cX10_judge 68 = .ok (.bipush 10, 2) := by decide +kernel
theorem dX10_judge_70 : decode cX10_judge 70 = .ok (.idiv, 1) := by decide +kernel
theorem dX10_judge_71 : decode cX10_judge 71 = .ok (.bipush 10, 2) := by decide +kernel
theorem dX10_judge_73 : decode cX10_judge 73 = .ok (.irem, 1) := by decide +kernel
theorem dX10_judge_74 : decode cX10_judge 74 = .ok (.iload 5, 2) := by decide +kernel
theorem dX10_judge_76 : decode cX10_judge 76 = .ok (.bipush 10, 2) := by decide +kernel
theorem dX10_judge_78 : decode cX10_judge 78 = .ok (.irem, 1) := by decide +kernel
theorem dX10_judge_79 : decode cX10_judge 79 = .ok (.invokevirtual 183, 3) := by decide +kernel
theorem dX10_judge_82 : decode cX10_judge 82 = .ok (.ifCond .ne 6, 3) := by decide +kernel
theorem dX10_judge_85 : decode cX10_judge 85 = .ok (.iload 4, 2) := by decide +kernel
theorem dX10_judge_87 : decode cX10_judge 87 = .ok (.ireturn, 1) := by decide +kernel
theorem dX10_judge_88 : decode cX10_judge 88 = .ok (.iinc 4 1, 3) := by decide +kernel
theorem dX10_judge_91 : decode cX10_judge 91 = .ok (.goto (-55), 3) := by decide +kernel
theorem dX10_judge_94 : decode cX10_judge 94 = .ok (.bipush (-9), 2) := by decide +kernel
theorem dX10_judge_96 : decode cX10_judge 96 = .ok (.ireturn, 1) := by decide +kernel
theorem dX10_hear_0 : decode cX10_hear 0 = .ok (.aload_n 0, 1) := by decide +kernel
theorem dX10_hear_1 : decode cX10_hear 1 = .ok (.iload_n 1, 1) := by decide +kernel
theorem dX10_hear_2 : decode cX10_hear 2 = .ok (.invokevirtual 119, 3) := by decide +kernel
theorem dX10_hear_5 : decode cX10_hear 5 = .ok (.ifCond .ne 5, 3) := by decide +kernel
theorem dX10_hear_8 : decode cX10_hear 8 = .ok (.iconst (-1), 1) := by decide +kernel
theorem dX10_hear_9 : decode cX10_hear 9 = .ok (.ireturn, 1) := by decide +kernel
theorem dX10_hear_10 : decode cX10_hear 10 = .ok (.iload_n 2, 1) := by decide +kernel
theorem dX10_hear_11 : decode cX10_hear 11 = .ok (.i2l, 1) := by decide +kernel
theorem dX10_hear_12 : decode cX10_hear 12 = .ok (.lconst 0, 1) := by decide +kernel
theorem dX10_hear_13 : decode cX10_hear 13 = .ok (.ldc2_w 72, 3) := by decide +kernel
theorem dX10_hear_16 : decode cX10_hear 16 = .ok (.invokestatic 59, 3) := by decide +kernel
theorem dX10_hear_19 : decode cX10_hear 19 = .ok (.ifCond .eq 15, 3) := by decide +kernel
theorem dX10_hear_22 : decode cX10_hear 22 = .ok (.iload_n 3, 1) := by decide +kernel
theorem dX10_hear_23 : decode cX10_hear 23 = .ok (.i2l, 1) := by decide +kernel
theorem dX10_hear_24 : decode cX10_hear 24 = .ok (.lconst 0, 1) := by decide +kernel
theorem dX10_hear_25 : decode cX10_hear 25 = .ok (.ldc2_w 72, 3) := by decide +kernel
theorem dX10_hear_28 : decode cX10_hear 28 = .ok (.invokestatic 59, 3) := by decide +kernel
theorem dX10_hear_31 : decode cX10_hear 31 = .ok (.ifCond .ne 6, 3) := by decide +kernel
theorem dX10_hear_34 : decode cX10_hear 34 = .ok (.bipush (-2), 2) := by decide +kernel
theorem dX10_hear_36 : decode cX10_hear 36 = .ok (.ireturn, 1) := by decide +kernel
theorem dX10_hear_37 : decode cX10_hear 37 = .ok (.aload_n 0, 1) := by decide +kernel
theorem dX10_hear_38 : decode cX10_hear 38 = .ok (.getfield 187, 3) := by decide +kernel
theorem dX10_hear_41 : decode cX10_hear 41 = .ok (.bipush 6, 2) := by decide +kernel
theorem dX10_hear_43 : decode cX10_hear 43 = .ok (.if_icmp .ne 6, 3) := by decide +kernel
theorem dX10_hear_46 : decode cX10_hear 46 = .ok (.bipush (-4), 2) := by decide +kernel
theorem dX10_hear_48 : decode cX10_hear 48 = .ok (.ireturn, 1) := by decide +kernel
theorem dX10_hear_49 : decode cX10_hear 49 = .ok (.aload_n 0, 1) := by decide +kernel
theorem dX10_hear_50 : decode cX10_hear 50 = .ok (.getfield 41, 3) := by decide +kernel
theorem dX10_hear_53 : decode cX10_hear 53 = .ok (.aload_n 0, 1) := by decide +kernel
theorem dX10_hear_54 : decode cX10_hear 54 = .ok (.getfield 187, 3) := by decide +kernel
theorem dX10_hear_57 : decode cX10_hear 57 = .ok (.iload_n 1, 1) := by decide +kernel
theorem dX10_hear_58 : decode cX10_hear 58 = .ok (.iastore, 1) := by decide +kernel
theorem dX10_hear_59 : decode cX10_hear 59 = .ok (.aload_n 0, 1) := by decide +kernel
theorem dX10_hear_60 : decode cX10_hear 60 = .ok (.getfield 44, 3) := by decide +kernel
theorem dX10_hear_63 : decode cX10_hear 63 = .ok (.aload_n 0, 1) := by decide +kernel
theorem dX10_hear_64 : decode cX10_hear 64 = .ok (.getfield 187, 3) := by decide +kernel
theorem dX10_hear_67 : decode cX10_hear 67 = .ok (.iload_n 2, 1) := by decide +kernel
theorem dX10_hear_68 : decode cX10_hear 68 = .ok (.iastore, 1) := by decide +kernel
theorem dX10_hear_69 : decode cX10_hear 69 = .ok (.aload_n 0, 1) := by decide +kernel
theorem dX10_hear_70 : decode cX10_hear 70 = .ok (.getfield 47, 3) := by decide +kernel
theorem dX10_hear_73 : decode cX10_hear 73 = .ok (.aload_n 0, 1) := by decide +kernel
theorem dX10_hear_74 : decode cX10_hear 74 = .ok (.getfield 187, 3) := by decide +kernel
theorem dX10_hear_77 : decode cX10_hear 77 = .ok (.iload_n 3, 1) := by decide +kernel
theorem dX10_hear_78 : decode cX10_hear 78 = .ok (.iastore, 1) := by decide +kernel
theorem dX10_hear_79 : decode cX10_hear 79 = .ok (.aload_n 0, 1) := by decide +kernel
theorem dX10_hear_80 : decode cX10_hear 80 = .ok (.dup, 1) := by decide +kernel
theorem dX10_hear_81 : decode cX10_hear 81 = .ok (.getfield 187, 3) := by decide +kernel
theorem dX10_hear_84 : decode cX10_hear 84 = .ok (.iconst 1, 1) := by decide +kernel
theorem dX10_hear_85 : decode cX10_hear 85 = .ok (.iadd, 1) := by decide +kernel
theorem dX10_hear_86 : decode cX10_hear 86 = .ok (.putfield 187, 3) := by decide +kernel
theorem dX10_hear_89 : decode cX10_hear 89 = .ok (.aload_n 0, 1) := by decide +kernel
theorem dX10_hear_90 : decode cX10_hear 90 = .ok (.getfield 187, 3) := by decide +kernel
theorem dX10_hear_93 : decode cX10_hear 93 = .ok (.ireturn, 1) := by decide +kernel
theorem dX10_unhear_0 : decode cX10_unhear 0 = .ok (.aload_n 0, 1) := by decide +kernel
theorem dX10_unhear_1 : decode cX10_unhear 1 = .ok (.getfield 187, 3) := by decide +kernel
theorem dX10_unhear_4 : decode cX10_unhear 4 = .ok (.istore_n 1, 1) := by decide +kernel
theorem dX10_unhear_5 : decode cX10_unhear 5 = .ok (.aload_n 0, 1) := by decide +kernel
theorem dX10_unhear_6 : decode cX10_unhear 6 = .ok (.iconst 0, 1) := by decide +kernel
theorem dX10_unhear_7 : decode cX10_unhear 7 = .ok (.putfield 187, 3) := by decide +kernel
theorem dX10_unhear_10 : decode cX10_unhear 10 = .ok (.iload_n 1, 1) := by decide +kernel
theorem dX10_unhear_11 : decode cX10_unhear 11 = .ok (.ireturn, 1) := by decide +kernel
theorem dX10_mayHave_0 : decode cX10_mayHave 0 = .ok (.iconst 1, 1) := by decide +kernel
theorem dX10_mayHave_1 : decode cX10_mayHave 1 = .ok (.istore_n 3, 1) := by decide +kernel
theorem dX10_mayHave_2 : decode cX10_mayHave 2 = .ok (.iconst 0, 1) := by decide +kernel
theorem dX10_mayHave_3 : decode cX10_mayHave 3 = .ok (.istore 4, 2) := by decide +kernel
theorem dX10_mayHave_5 : decode cX10_mayHave 5 = .ok (.iload 4, 2) := by decide +kernel
theorem dX10_mayHave_7 : decode cX10_mayHave 7 = .ok (.aload_n 0, 1) := by decide +kernel
theorem dX10_mayHave_8 : decode cX10_mayHave 8 = .ok (.getfield 187, 3) := by decide +kernel
theorem dX10_mayHave_11 : decode cX10_mayHave 11 = .ok (.if_icmp .ge 83, 3) := by decide +kernel
theorem dX10_mayHave_14 : decode cX10_mayHave 14 = .ok (.aload_n 0, 1) := by decide +kernel
theorem dX10_mayHave_15 : decode cX10_mayHave 15 = .ok (.invokevirtual 155, 3) := by decide +kernel
theorem dX10_mayHave_18 : decode cX10_mayHave 18 = .ok (.aload_n 0, 1) := by decide +kernel
theorem dX10_mayHave_19 : decode cX10_mayHave 19 = .ok (.getfield 19, 3) := by decide +kernel
theorem dX10_mayHave_22 : decode cX10_mayHave 22 = .ok (.bipush 26, 2) := by decide +kernel
theorem dX10_mayHave_24 : decode cX10_mayHave 24 = .ok (.iload_n 1, 1) := by decide +kernel
theorem dX10_mayHave_25 : decode cX10_mayHave 25 = .ok (.iadd, 1) := by decide +kernel
theorem dX10_mayHave_26 : decode cX10_mayHave 26 = .ok (.iload_n 2, 1) := by decide +kernel
theorem dX10_mayHave_27 : decode cX10_mayHave 27 = .ok (.iastore, 1) := by decide +kernel
theorem dX10_mayHave_28 : decode cX10_mayHave 28 = .ok (.aload_n 0, 1) := by decide +kernel
theorem dX10_mayHave_29 : decode cX10_mayHave 29 = .ok (.aload_n 0, 1) := by decide +kernel
theorem dX10_mayHave_30 : decode cX10_mayHave 30 = .ok (.getfield 44, 3) := by decide +kernel
theorem dX10_mayHave_33 : decode cX10_mayHave 33 = .ok (.iload 4, 2) := by decide +kernel
theorem dX10_mayHave_35 : decode cX10_mayHave 35 = .ok (.iaload, 1) := by decide +kernel
theorem dX10_mayHave_36 : decode cX10_mayHave 36 = .ok (.invokevirtual 158, 3) := by decide +kernel
theorem dX10_mayHave_39 : decode cX10_mayHave 39 = .ok (.iload_n 3, 1) := by decide +kernel
theorem dX10_mayHave_40 : decode cX10_mayHave 40 = .ok (.ifCond .eq 46, 3) := by decide +kernel
theorem dX10_mayHave_43 : decode cX10_mayHave 43 = .ok (.aload_n 0, 1) := by decide +kernel
theorem dX10_mayHave_44 : decode cX10_mayHave 44 = .ok (.aload_n 0, 1) := by decide +kernel
theorem dX10_mayHave_45 : decode cX10_mayHave 45 = .ok (.getfield 41, 3) := by decide +kernel
theorem dX10_mayHave_48 : decode cX10_mayHave 48 = .ok (.iload 4, 2) := by decide +kernel
theorem dX10_mayHave_50 : decode cX10_mayHave 50 = .ok (.iaload, 1) := by decide +kernel
theorem dX10_mayHave_51 : decode cX10_mayHave 51 = .ok (.invokevirtual 119, 3) := by decide +kernel
theorem dX10_mayHave_54 : decode cX10_mayHave 54 = .ok (.ifCond .eq 28, 3) := by decide +kernel
theorem dX10_mayHave_57 : decode cX10_mayHave 57 = .ok (.aload_n 0, 1) := by decide +kernel
theorem dX10_mayHave_58 : decode cX10_mayHave 58 = .ok (.getfield 19, 3) := by decide +kernel
theorem dX10_mayHave_61 : decode cX10_mayHave 61 = .ok (.bipush 32, 2) := by decide +kernel
theorem dX10_mayHave_63 : decode cX10_mayHave 63 = .ok (.aload_n 0, 1) := by decide +kernel
theorem dX10_mayHave_64 : decode cX10_mayHave 64 = .ok (.getfield 41, 3) := by decide +kernel
theorem dX10_mayHave_67 : decode cX10_mayHave 67 = .ok (.iload 4, 2) := by decide +kernel
theorem dX10_mayHave_69 : decode cX10_mayHave 69 = .ok (.iaload, 1) := by decide +kernel
theorem dX10_mayHave_70 : decode cX10_mayHave 70 = .ok (.iadd, 1) := by decide +kernel
theorem dX10_mayHave_71 : decode cX10_mayHave 71 = .ok (.iaload, 1) := by decide +kernel
theorem dX10_mayHave_72 : decode cX10_mayHave 72 = .ok (.aload_n 0, 1) := by decide +kernel
theorem dX10_mayHave_73 : decode cX10_mayHave 73 = .ok (.getfield 47, 3) := by decide +kernel
theorem dX10_mayHave_76 : decode cX10_mayHave 76 = .ok (.iload 4, 2) := by decide +kernel
theorem dX10_mayHave_78 : decode cX10_mayHave 78 = .ok (.iaload, 1) := by decide +kernel
theorem dX10_mayHave_79 : decode cX10_mayHave 79 = .ok (.if_icmp .ne 7, 3) := by decide +kernel
theorem dX10_mayHave_82 : decode cX10_mayHave 82 = .ok (.iconst 1, 1) := by decide +kernel
theorem dX10_mayHave_83 : decode cX10_mayHave 83 = .ok (.goto 4, 3) := by decide +kernel
theorem dX10_mayHave_86 : decode cX10_mayHave 86 = .ok (.iconst 0, 1) := by decide +kernel
theorem dX10_mayHave_87 : decode cX10_mayHave 87 = .ok (.istore_n 3, 1) := by decide +kernel
theorem dX10_mayHave_88 : decode cX10_mayHave 88 = .ok (.iinc 4 1, 3) := by decide +kernel
theorem dX10_mayHave_91 : decode cX10_mayHave 91 = .ok (.goto (-86), 3) := by decide +kernel
theorem dX10_mayHave_94 : decode cX10_mayHave 94 = .ok (.iload_n 3, 1) := by decide +kernel
theorem dX10_mayHave_95 : decode cX10_mayHave 95 = .ok (.ireturn, 1) := by decide +kernel
theorem dX10_had_0 : decode cX10_had 0 = .ok (.aload_n 0, 1) := by decide +kernel
theorem dX10_had_1 : decode cX10_had 1 = .ok (.iload_n 1, 1) := by decide +kernel
theorem dX10_had_2 : decode cX10_had 2 = .ok (.invokevirtual 119, 3) := by decide +kernel
theorem dX10_had_5 : decode cX10_had 5 = .ok (.ifCond .ne 5, 3) := by decide +kernel
theorem dX10_had_8 : decode cX10_had 8 = .ok (.iconst (-1), 1) := by decide +kernel
theorem dX10_had_9 : decode cX10_had 9 = .ok (.ireturn, 1) := by decide +kernel
theorem dX10_had_10 : decode cX10_had 10 = .ok (.iconst 0, 1) := by decide +kernel
theorem dX10_had_11 : decode cX10_had 11 = .ok (.istore_n 2, 1) := by decide +kernel
theorem dX10_had_12 : decode cX10_had 12 = .ok (.iconst 0, 1) := by decide +kernel
theorem dX10_had_13 : decode cX10_had 13 = .ok (.istore_n 3, 1) := by decide +kernel
theorem dX10_had_14 : decode cX10_had 14 = .ok (.iload_n 3, 1) := by decide +kernel
theorem dX10_had_15 : decode cX10_had 15 = .ok (.bipush 10, 2) := by decide +kernel
theorem dX10_had_17 : decode cX10_had 17 = .ok (.if_icmp .ge 28, 3) := by decide +kernel
theorem dX10_had_20 : decode cX10_had 20 = .ok (.iload_n 2, 1) := by decide +kernel
theorem dX10_had_21 : decode cX10_had 21 = .ok (.aload_n 0, 1) := by decide +kernel
theorem dX10_had_22 : decode cX10_had 22 = .ok (.iload_n 1, 1) := by decide +kernel
theorem dX10_had_23 : decode cX10_had 23 = .ok (.iload_n 3, 1) := by decide +kernel
theorem dX10_had_24 : decode cX10_had 24 = .ok (.invokevirtual 190, 3) := by decide +kernel
theorem dX10_had_27 : decode cX10_had 27 = .ok (.ifCond .eq 9, 3) := by decide +kernel
theorem dX10_had_30 : decode cX10_had 30 = .ok (.iconst 1, 1) := by decide +kernel
theorem dX10_had_31 : decode cX10_had 31 = .ok (.iload_n 3, 1) := by decide +kernel
theorem dX10_had_32 : decode cX10_had 32 = .ok (.ishl, 1) := by decide +kernel
theorem dX10_had_33 : decode cX10_had 33 = .ok (.goto 4, 3) := by decide +kernel
theorem dX10_had_36 : decode cX10_had 36 = .ok (.iconst 0, 1) := by decide +kernel
theorem dX10_had_37 : decode cX10_had 37 = .ok (.ior, 1) := by decide +kernel
theorem dX10_had_38 : decode cX10_had 38 = .ok (.istore_n 2, 1) := by decide +kernel
theorem dX10_had_39 : decode cX10_had 39 = .ok (.iinc 3 1, 3) := by decide +kernel
theorem dX10_had_42 : decode cX10_had 42 = .ok (.goto (-28), 3) := by decide +kernel
theorem dX10_had_45 : decode cX10_had 45 = .ok (.iload_n 2, 1) := by decide +kernel
theorem dX10_had_46 : decode cX10_had 46 = .ok (.ireturn, 1) := by decide +kernel
theorem dX10_factorial_0 : decode cX10_factorial 0 = .ok (.iconst 1, 1) := by decide +kernel
theorem dX10_factorial_1 : decode cX10_factorial 1 = .ok (.istore_n 1, 1) := by decide +kernel
theorem dX10_factorial_2 : decode cX10_factorial 2 = .ok (.iconst 2, 1) := by decide +kernel
theorem dX10_factorial_3 : decode cX10_factorial 3 = .ok (.istore_n 2, 1) := by decide +kernel
theorem dX10_factorial_4 : decode cX10_factorial 4 = .ok (.iload_n 2, 1) := by decide +kernel
theorem dX10_factorial_5 : decode cX10_factorial 5 = .ok (.iload_n 0, 1) := by decide +kernel
theorem dX10_factorial_6 : decode cX10_factorial 6 = .ok (.if_icmp .gt 13, 3) := by decide +kernel
theorem dX10_factorial_9 : decode cX10_factorial 9 = .ok (.iload_n 1, 1) := by decide +kernel
theorem dX10_factorial_10 : decode cX10_factorial 10 = .ok (.iload_n 2, 1) := by decide +kernel
theorem dX10_factorial_11 : decode cX10_factorial 11 = .ok (.imul, 1) := by decide +kernel
theorem dX10_factorial_12 : decode cX10_factorial 12 = .ok (.istore_n 1, 1) := by decide +kernel
theorem dX10_factorial_13 : decode cX10_factorial 13 = .ok (.iinc 2 1, 3) := by decide +kernel
theorem dX10_factorial_16 : decode cX10_factorial 16 = .ok (.goto (-12), 3) := by decide +kernel
theorem dX10_factorial_19 : decode cX10_factorial 19 = .ok (.iload_n 1, 1) := by decide +kernel
theorem dX10_factorial_20 : decode cX10_factorial 20 = .ok (.ireturn, 1) := by decide +kernel
theorem dX10_common_0 : decode cX10_common 0 = .ok (.iload_n 0, 1) := by decide +kernel
theorem dX10_common_1 : decode cX10_common 1 = .ok (.ifCond .ge 8, 3) := by decide +kernel
theorem dX10_common_4 : decode cX10_common 4 = .ok (.iload_n 0, 1) := by decide +kernel
theorem dX10_common_5 : decode cX10_common 5 = .ok (.ineg, 1) := by decide +kernel
theorem dX10_common_6 : decode cX10_common 6 = .ok (.goto 4, 3) := by decide +kernel
theorem dX10_common_9 : decode cX10_common 9 = .ok (.iload_n 0, 1) := by decide +kernel
theorem dX10_common_10 : decode cX10_common 10 = .ok (.istore_n 2, 1) := by decide +kernel
theorem dX10_common_11 : decode cX10_common 11 = .ok (.iload_n 1, 1) := by decide +kernel
theorem dX10_common_12 : decode cX10_common 12 = .ok (.istore_n 3, 1) := by decide +kernel
theorem dX10_common_13 : decode cX10_common 13 = .ok (.iload_n 3, 1) := by decide +kernel
theorem dX10_common_14 : decode cX10_common 14 = .ok (.ifCond .eq 16, 3) := by decide +kernel
theorem dX10_common_17 : decode cX10_common 17 = .ok (.iload_n 2, 1) := by decide +kernel
theorem dX10_common_18 : decode cX10_common 18 = .ok (.iload_n 3, 1) := by decide +kernel
theorem dX10_common_19 : decode cX10_common 19 = .ok (.irem, 1) := by decide +kernel
theorem dX10_common_20 : decode cX10_common 20 = .ok (.istore 4, 2) := by decide +kernel
theorem dX10_common_22 : decode cX10_common 22 = .ok (.iload_n 3, 1) := by decide +kernel
theorem dX10_common_23 : decode cX10_common 23 = .ok (.istore_n 2, 1) := by decide +kernel
theorem dX10_common_24 : decode cX10_common 24 = .ok (.iload 4, 2) := by decide +kernel
theorem dX10_common_26 : decode cX10_common 26 = .ok (.istore_n 3, 1) := by decide +kernel
theorem dX10_common_27 : decode cX10_common 27 = .ok (.goto (-14), 3) := by decide +kernel
theorem dX10_common_30 : decode cX10_common 30 = .ok (.iload_n 2, 1) := by decide +kernel
theorem dX10_common_31 : decode cX10_common 31 = .ok (.ireturn, 1) := by decide +kernel
theorem dX10_notesOf_0 : decode cX10_notesOf 0 = .ok (.aload_n 0, 1) := by decide +kernel
theorem dX10_notesOf_1 : decode cX10_notesOf 1 = .ok (.iload_n 1, 1) := by decide +kernel
theorem dX10_notesOf_2 : decode cX10_notesOf 2 = .ok (.putfield 28, 3) := by decide +kernel
theorem dX10_notesOf_5 : decode cX10_notesOf 5 = .ok (.aload_n 0, 1) := by decide +kernel
theorem dX10_notesOf_6 : decode cX10_notesOf 6 = .ok (.invokevirtual 155, 3) := by decide +kernel
theorem dX10_notesOf_9 : decode cX10_notesOf 9 = .ok (.aload_n 0, 1) := by decide +kernel
theorem dX10_notesOf_10 : decode cX10_notesOf 10 = .ok (.iload_n 2, 1) := by decide +kernel
theorem dX10_notesOf_11 : decode cX10_notesOf 11 = .ok (.invokevirtual 158, 3) := by decide +kernel
theorem dX10_notesOf_14 : decode cX10_notesOf 14 = .ok (.aload_n 0, 1) := by decide +kernel
theorem dX10_notesOf_15 : decode cX10_notesOf 15 = .ok (.iconst 1, 1) := by decide +kernel
theorem dX10_notesOf_16 : decode cX10_notesOf 16 = .ok (.invokevirtual 137, 3) := by decide +kernel
theorem dX10_notesOf_19 : decode cX10_notesOf 19 = .ok (.invokestatic 140, 3) := by decide +kernel
theorem dX10_notesOf_22 : decode cX10_notesOf 22 = .ok (.istore_n 3, 1) := by decide +kernel
theorem dX10_notesOf_23 : decode cX10_notesOf 23 = .ok (.aload_n 0, 1) := by decide +kernel
theorem dX10_notesOf_24 : decode cX10_notesOf 24 = .ok (.bipush 63, 2) := by decide +kernel
theorem dX10_notesOf_26 : decode cX10_notesOf 26 = .ok (.putfield 28, 3) := by decide +kernel
theorem dX10_notesOf_29 : decode cX10_notesOf 29 = .ok (.iload_n 3, 1) := by decide +kernel
theorem dX10_notesOf_30 : decode cX10_notesOf 30 = .ok (.ireturn, 1) := by decide +kernel
theorem dX10_share_0 : decode cX10_share 0 = .ok (.aload_n 0, 1) := by decide +kernel
theorem dX10_share_1 : decode cX10_share 1 = .ok (.iload_n 1, 1) := by decide +kernel
theorem dX10_share_2 : decode cX10_share 2 = .ok (.invokevirtual 119, 3) := by decide +kernel
theorem dX10_share_5 : decode cX10_share 5 = .ok (.ifCond .ne 5, 3) := by decide +kernel
theorem dX10_share_8 : decode cX10_share 8 = .ok (.iconst (-1), 1) := by decide +kernel
theorem dX10_share_9 : decode cX10_share 9 = .ok (.ireturn, 1) := by decide +kernel
theorem dX10_share_10 : decode cX10_share 10 = .ok (.iconst 0, 1) := by decide +kernel
theorem dX10_share_11 : decode cX10_share 11 = .ok (.istore_n 3, 1) := by decide +kernel
theorem dX10_share_12 : decode cX10_share 12 = .ok (.iconst 0, 1) := by decide +kernel
theorem dX10_share_13 : decode cX10_share 13 = .ok (.istore 4, 2) := by decide +kernel
theorem dX10_share_15 : decode cX10_share 15 = .ok (.iload 4, 2) := by decide +kernel
theorem dX10_share_17 : decode cX10_share 17 = .ok (.iconst 1, 1) := by decide +kernel
theorem dX10_share_18 : decode cX10_share 18 = .ok (.aload_n 0, 1) := by decide +kernel
theorem dX10_share_19 : decode cX10_share 19 = .ok (.getfield 96, 3) := by decide +kernel
theorem dX10_share_22 : decode cX10_share 22 = .ok (.ishl, 1) := by decide +kernel
theorem dX10_share_23 : decode cX10_share 23 = .ok (.if_icmp .ge 71, 3) := by decide +kernel
theorem dX10_share_26 : decode cX10_share 26 = .ok (.iload 4, 2) := by decide +kernel
theorem dX10_share_28 : decode cX10_share 28 = .ok (.iload_n 1, 1) := by decide +kernel
theorem dX10_share_29 : decode cX10_share 29 = .ok (.invokestatic 74, 3) := by decide +kernel
theorem dX10_share_32 : decode cX10_share 32 = .ok (.ifCond .ne 56, 3) := by decide +kernel
theorem dX10_share_35 : decode cX10_share 35 = .ok (.iload 4, 2) := by decide +kernel
theorem dX10_share_37 : decode cX10_share 37 = .ok (.invokestatic 140, 3) := by decide +kernel
theorem dX10_share_40 : decode cX10_share 40 = .ok (.invokestatic 193, 3) := by decide +kernel
theorem dX10_share_43 : decode cX10_share 43 = .ok (.aload_n 0, 1) := by decide +kernel
theorem dX10_share_44 : decode cX10_share 44 = .ok (.getfield 96, 3) := by decide +kernel
theorem dX10_share_47 : decode cX10_share 47 = .ok (.iconst 1, 1) := by decide +kernel
theorem dX10_share_48 : decode cX10_share 48 = .ok (.isub, 1) := by decide +kernel
theorem dX10_share_49 : decode cX10_share 49 = .ok (.iload 4, 2) := by decide +kernel
theorem dX10_share_51 : decode cX10_share 51 = .ok (.invokestatic 140, 3) := by decide +kernel
theorem dX10_share_54 : decode cX10_share 54 = .ok (.isub, 1) := by decide +kernel
theorem dX10_share_55 : decode cX10_share 55 = .ok (.invokestatic 193, 3) := by decide +kernel
theorem dX10_share_58 : decode cX10_share 58 = .ok (.imul, 1) := by decide +kernel
theorem dX10_share_59 : decode cX10_share 59 = .ok (.istore 5, 2) := by decide +kernel
theorem dX10_share_61 : decode cX10_share 61 = .ok (.iload_n 3, 1) := by decide +kernel
theorem dX10_share_62 : decode cX10_share 62 = .ok (.iload 5, 2) := by decide +kernel
theorem dX10_share_64 : decode cX10_share 64 = .ok (.aload_n 0, 1) := by decide +kernel
theorem dX10_share_65 : decode cX10_share 65 = .ok (.iload 4, 2) := by decide +kernel
theorem dX10_share_67 : decode cX10_share 67 = .ok (.iconst 1, 1) := by decide +kernel
theorem dX10_share_68 : decode cX10_share 68 = .ok (.iload_n 1, 1) := by decide +kernel
theorem dX10_share_69 : decode cX10_share 69 = .ok (.ishl, 1) := by decide +kernel
theorem dX10_share_70 : decode cX10_share 70 = .ok (.ior, 1) := by decide +kernel
theorem dX10_share_71 : decode cX10_share 71 = .ok (.bipush 6, 2) := by decide +kernel
theorem dX10_share_73 : decode cX10_share 73 = .ok (.invokevirtual 196, 3) := by decide +kernel
theorem dX10_share_76 : decode cX10_share 76 = .ok (.aload_n 0, 1) := by decide +kernel
theorem dX10_share_77 : decode cX10_share 77 = .ok (.iload 4, 2) := by decide +kernel
theorem dX10_share_79 : decode cX10_share 79 = .ok (.bipush 6, 2) := by decide +kernel
theorem dX10_share_81 : decode cX10_share 81 = .ok (.invokevirtual 196, 3) := by decide +kernel
theorem dX10_share_84 : decode cX10_share 84 = .ok (.isub, 1) := by decide +kernel
theorem dX10_share_85 : decode cX10_share 85 = .ok (.imul, 1) := by decide +kernel
theorem dX10_share_86 : decode cX10_share 86 = .ok (.iadd, 1) := by decide +kernel
theorem dX10_share_87 : decode cX10_share 87 = .ok (.istore_n 3, 1) := by decide +kernel
theorem dX10_share_88 : decode cX10_share 88 = .ok (.iinc 4 1, 3) := by decide +kernel
theorem dX10_share_91 : decode cX10_share 91 = .ok (.goto (-76), 3) := by decide +kernel
theorem dX10_share_94 : decode cX10_share 94 = .ok (.iload_n 3, 1) := by decide +kernel
theorem dX10_share_95 : decode cX10_share 95 = .ok (.aload_n 0, 1) := by decide +kernel
theorem dX10_share_96 : decode cX10_share 96 = .ok (.getfield 96, 3) := by decide +kernel
theorem dX10_share_99 : decode cX10_share 99 = .ok (.invokestatic 193, 3) := by decide +kernel
theorem dX10_share_102 : decode cX10_share 102 = .ok (.invokestatic 199, 3) := by decide +kernel
theorem dX10_share_105 : decode cX10_share 105 = .ok (.istore 4, 2) := by decide +kernel
theorem dX10_share_107 : decode cX10_share 107 = .ok (.iload_n 2, 1) := by decide +kernel
theorem dX10_share_108 : decode cX10_share 108 = .ok (.ifCond .eq 10, 3) := by decide +kernel
theorem dX10_share_111 : decode cX10_share 111 = .ok (.iload_n 3, 1) := by decide +kernel
theorem dX10_share_112 : decode cX10_share 112 = .ok (.iload 4, 2) := by decide +kernel
theorem dX10_share_114 : decode cX10_share 114 = .ok (.idiv, 1) := by decide +kernel
theorem dX10_share_115 : decode cX10_share 115 = .ok (.goto 13, 3) := by decide +kernel
theorem dX10_share_118 : decode cX10_share 118 = .ok (.aload_n 0, 1) := by decide +kernel
theorem dX10_share_119 : decode cX10_share 119 = .ok (.getfield 96, 3) := by decide +kernel
theorem dX10_share_122 : decode cX10_share 122 = .ok (.invokestatic 193, 3) := by decide +kernel
theorem dX10_share_125 : decode cX10_share 125 = .ok (.iload 4, 2) := by decide +kernel
theorem dX10_share_127 : decode cX10_share 127 = .ok (.idiv, 1) := by decide +kernel
theorem dX10_share_128 : decode cX10_share 128 = .ok (.ireturn, 1) := by decide +kernel
theorem dX10_gain_0 : decode cX10_gain 0 = .ok (.aload_n 0, 1) := by decide +kernel
theorem dX10_gain_1 : decode cX10_gain 1 = .ok (.invokevirtual 155, 3) := by decide +kernel
theorem dX10_gain_4 : decode cX10_gain 4 = .ok (.aload_n 0, 1) := by decide +kernel
theorem dX10_gain_5 : decode cX10_gain 5 = .ok (.iconst 1, 1) := by decide +kernel
theorem dX10_gain_6 : decode cX10_gain 6 = .ok (.iload_n 2, 1) := by decide +kernel
theorem dX10_gain_7 : decode cX10_gain 7 = .ok (.iconst 4, 1) := by decide +kernel
theorem dX10_gain_8 : decode cX10_gain 8 = .ok (.invokevirtual 143, 3) := by decide +kernel
theorem dX10_gain_11 : decode cX10_gain 11 = .ok (.aload_n 0, 1) := by decide +kernel
theorem dX10_gain_12 : decode cX10_gain 12 = .ok (.iconst 1, 1) := by decide +kernel
theorem dX10_gain_13 : decode cX10_gain 13 = .ok (.iload_n 3, 1) := by decide +kernel
theorem dX10_gain_14 : decode cX10_gain 14 = .ok (.iconst 4, 1) := by decide +kernel
theorem dX10_gain_15 : decode cX10_gain 15 = .ok (.invokevirtual 143, 3) := by decide +kernel
theorem dX10_gain_18 : decode cX10_gain 18 = .ok (.aload_n 0, 1) := by decide +kernel
theorem dX10_gain_19 : decode cX10_gain 19 = .ok (.bipush 6, 2) := by decide +kernel
theorem dX10_gain_21 : decode cX10_gain 21 = .ok (.invokevirtual 158, 3) := by decide +kernel
theorem dX10_gain_24 : decode cX10_gain 24 = .ok (.iconst 0, 1) := by decide +kernel
theorem dX10_gain_25 : decode cX10_gain 25 = .ok (.istore 4, 2) := by decide +kernel
theorem dX10_gain_27 : decode cX10_gain 27 = .ok (.iconst 0, 1) := by decide +kernel
theorem dX10_gain_28 : decode cX10_gain 28 = .ok (.istore 5, 2) := by decide +kernel
theorem dX10_gain_30 : decode cX10_gain 30 = .ok (.iload 5, 2) := by decide +kernel
theorem dX10_gain_32 : decode cX10_gain 32 = .ok (.aload_n 0, 1) := by decide +kernel
theorem dX10_gain_33 : decode cX10_gain 33 = .ok (.getfield 96, 3) := by decide +kernel
theorem dX10_gain_36 : decode cX10_gain 36 = .ok (.if_icmp .ge 38, 3) := by decide +kernel
theorem dX10_gain_39 : decode cX10_gain 39 = .ok (.iload 4, 2) := by decide +kernel
theorem dX10_gain_41 : decode cX10_gain 41 = .ok (.aload_n 0, 1) := by decide +kernel
theorem dX10_gain_42 : decode cX10_gain 42 = .ok (.getfield 19, 3) := by decide +kernel
theorem dX10_gain_45 : decode cX10_gain 45 = .ok (.bipush 32, 2) := by decide +kernel
theorem dX10_gain_47 : decode cX10_gain 47 = .ok (.iload 5, 2) := by decide +kernel
theorem dX10_gain_49 : decode cX10_gain 49 = .ok (.iadd, 1) := by decide +kernel
theorem dX10_gain_50 : decode cX10_gain 50 = .ok (.iaload, 1) := by decide +kernel
theorem dX10_gain_51 : decode cX10_gain 51 = .ok (.aload_n 0, 1) := by decide +kernel
theorem dX10_gain_52 : decode cX10_gain 52 = .ok (.getfield 7, 3) := by decide +kernel
theorem dX10_gain_55 : decode cX10_gain 55 = .ok (.iload_n 1, 1) := by decide +kernel
theorem dX10_gain_56 : decode cX10_gain 56 = .ok (.iaload, 1) := by decide +kernel
theorem dX10_gain_57 : decode cX10_gain 57 = .ok (.if_icmp .ne 7, 3) := by decide +kernel
theorem dX10_gain_60 : decode cX10_gain 60 = .ok (.iconst 1, 1) := by decide +kernel
theorem dX10_gain_61 : decode cX10_gain 61 = .ok (.goto 4, 3) := by decide +kernel
theorem dX10_gain_64 : decode cX10_gain 64 = .ok (.iconst 0, 1) := by decide +kernel
theorem dX10_gain_65 : decode cX10_gain 65 = .ok (.iadd, 1) := by decide +kernel
theorem dX10_gain_66 : decode cX10_gain 66 = .ok (.istore 4, 2) := by decide +kernel
theorem dX10_gain_68 : decode cX10_gain 68 = .ok (.iinc 5 1, 3) := by decide +kernel
theorem dX10_gain_71 : decode cX10_gain 71 = .ok (.goto (-41), 3) := by decide +kernel
theorem dX10_gain_74 : decode cX10_gain 74 = .ok (.iload 4, 2) := by decide +kernel
theorem dX10_gain_76 : decode cX10_gain 76 = .ok (.ireturn, 1) := by decide +kernel
theorem dX10_isRest_0 : decode cX10_isRest 0 = .ok (.iconst 1, 1) := by decide +kernel
theorem dX10_isRest_1 : decode cX10_isRest 1 = .ok (.istore 5, 2) := by decide +kernel
theorem dX10_isRest_3 : decode cX10_isRest 3 = .ok (.iconst 0, 1) := by decide +kernel
theorem dX10_isRest_4 : decode cX10_isRest 4 = .ok (.istore 6, 2) := by decide +kernel
theorem dX10_isRest_6 : decode cX10_isRest 6 = .ok (.iload 6, 2) := by decide +kernel
theorem dX10_isRest_8 : decode cX10_isRest 8 = .ok (.aload_n 0, 1) := by decide +kernel
theorem dX10_isRest_9 : decode cX10_isRest 9 = .ok (.getfield 96, 3) := by decide +kernel
theorem dX10_isRest_12 : decode cX10_isRest 12 = .ok (.if_icmp .ge 60, 3) := by decide +kernel
theorem dX10_isRest_15 : decode cX10_isRest 15 = .ok (.iload 5, 2) := by decide +kernel
theorem dX10_isRest_17 : decode cX10_isRest 17 = .ok (.ifCond .eq 46, 3) := by decide +kernel
theorem dX10_isRest_20 : decode cX10_isRest 20 = .ok (.aload_n 0, 1) := by decide +kernel
theorem dX10_isRest_21 : decode cX10_isRest 21 = .ok (.iload_n 1, 1) := by decide +kernel
theorem dX10_isRest_22 : decode cX10_isRest 22 = .ok (.iload 6, 2) := by decide +kernel
theorem dX10_isRest_24 : decode cX10_isRest 24 = .ok (.iload 4, 2) := by decide +kernel
theorem dX10_isRest_26 : decode cX10_isRest 26 = .ok (.invokevirtual 202, 3) := by decide +kernel
theorem dX10_isRest_29 : decode cX10_isRest 29 = .ok (.aload_n 0, 1) := by decide +kernel
theorem dX10_isRest_30 : decode cX10_isRest 30 = .ok (.iload_n 1, 1) := by decide +kernel
theorem dX10_isRest_31 : decode cX10_isRest 31 = .ok (.iload_n 3, 1) := by decide +kernel
theorem dX10_isRest_32 : decode cX10_isRest 32 = .ok (.iload 4, 2) := by decide +kernel
theorem dX10_isRest_34 : decode cX10_isRest 34 = .ok (.invokevirtual 202, 3) := by decide +kernel
theorem dX10_isRest_37 : decode cX10_isRest 37 = .ok (.if_icmp .gt 26, 3) := by decide +kernel
theorem dX10_isRest_40 : decode cX10_isRest 40 = .ok (.aload_n 0, 1) := by decide +kernel
theorem dX10_isRest_41 : decode cX10_isRest 41 = .ok (.iload_n 2, 1) := by decide +kernel
theorem dX10_isRest_42 : decode cX10_isRest 42 = .ok (.iload_n 3, 1) := by decide +kernel
theorem dX10_isRest_43 : decode cX10_isRest 43 = .ok (.iload 6, 2) := by decide +kernel
theorem dX10_isRest_45 : decode cX10_isRest 45 = .ok (.invokevirtual 202, 3) := by decide +kernel
theorem dX10_isRest_48 : decode cX10_isRest 48 = .ok (.aload_n 0, 1) := by decide +kernel
theorem dX10_isRest_49 : decode cX10_isRest 49 = .ok (.iload_n 2, 1) := by decide +kernel
theorem dX10_isRest_50 : decode cX10_isRest 50 = .ok (.iload_n 3, 1) := by decide +kernel
theorem dX10_isRest_51 : decode cX10_isRest 51 = .ok (.iload 4, 2) := by decide +kernel
theorem dX10_isRest_53 : decode cX10_isRest 53 = .ok (.invokevirtual 202, 3) := by decide +kernel
theorem dX10_isRest_56 : decode cX10_isRest 56 = .ok (.if_icmp .gt 7, 3) := by decide +kernel
theorem dX10_isRest_59 : decode cX10_isRest 59 = .ok (.iconst 1, 1) := by decide +kernel
theorem dX10_isRest_60 : decode cX10_isRest 60 = .ok (.goto 4, 3) := by decide +kernel
theorem dX10_isRest_63 : decode cX10_isRest 63 = .ok (.iconst 0, 1) := by decide +kernel
theorem dX10_isRest_64 : decode cX10_isRest 64 = .ok (.istore 5, 2) := by decide +kernel
theorem dX10_isRest_66 : decode cX10_isRest 66 = .ok (.iinc 6 1, 3) := by decide +kernel
theorem dX10_isRest_69 : decode cX10_isRest 69 = .ok (.goto (-63), 3) := by decide +kernel
theorem dX10_isRest_72 : decode cX10_isRest 72 = .ok (.iload 5, 2) := by decide +kernel
theorem dX10_isRest_74 : decode cX10_isRest 74 = .ok (.ireturn, 1) := by decide +kernel
theorem dX10_rests_0 : decode cX10_rests 0 = .ok (.aload_n 0, 1) := by decide +kernel
theorem dX10_rests_1 : decode cX10_rests 1 = .ok (.iload_n 1, 1) := by decide +kernel
theorem dX10_rests_2 : decode cX10_rests 2 = .ok (.invokevirtual 119, 3) := by decide +kernel
theorem dX10_rests_5 : decode cX10_rests 5 = .ok (.ifCond .eq 11, 3) := by decide +kernel
theorem dX10_rests_8 : decode cX10_rests 8 = .ok (.aload_n 0, 1) := by decide +kernel
theorem dX10_rests_9 : decode cX10_rests 9 = .ok (.iload_n 2, 1) := by decide +kernel
theorem dX10_rests_10 : decode cX10_rests 10 = .ok (.invokevirtual 119, 3) := by decide +kernel
theorem dX10_rests_13 : decode cX10_rests 13 = .ok (.ifCond .ne 5, 3) := by decide +kernel
theorem dX10_rests_16 : decode cX10_rests 16 = .ok (.iconst (-1), 1) := by decide +kernel
theorem dX10_rests_17 : decode cX10_rests 17 = .ok (.ireturn, 1) := by decide +kernel
theorem dX10_rests_18 : decode cX10_rests 18 = .ok (.iload_n 1, 1) := by decide +kernel
theorem dX10_rests_19 : decode cX10_rests 19 = .ok (.iload_n 2, 1) := by decide +kernel
theorem dX10_rests_20 : decode cX10_rests 20 = .ok (.if_icmp .eq 13, 3) := by decide +kernel
theorem dX10_rests_23 : decode cX10_rests 23 = .ok (.iload_n 3, 1) := by decide +kernel
theorem dX10_rests_24 : decode cX10_rests 24 = .ok (.i2l, 1) := by decide +kernel
theorem dX10_rests_25 : decode cX10_rests 25 = .ok (.lconst 0, 1) := by decide +kernel
theorem dX10_rests_26 : decode cX10_rests 26 = .ok (.lconst 1, 1) := by decide +kernel
theorem dX10_rests_27 : decode cX10_rests 27 = .ok (.invokestatic 59, 3) := by decide +kernel
theorem dX10_rests_30 : decode cX10_rests 30 = .ok (.ifCond .ne 6, 3) := by decide +kernel
theorem dX10_rests_33 : decode cX10_rests 33 = .ok (.bipush (-2), 2) := by decide +kernel
theorem dX10_rests_35 : decode cX10_rests 35 = .ok (.ireturn, 1) := by decide +kernel
theorem dX10_rests_36 : decode cX10_rests 36 = .ok (.iconst 0, 1) := by decide +kernel
theorem dX10_rests_37 : decode cX10_rests 37 = .ok (.istore 4, 2) := by decide +kernel
theorem dX10_rests_39 : decode cX10_rests 39 = .ok (.bipush (-9), 2) := by decide +kernel
theorem dX10_rests_41 : decode cX10_rests 41 = .ok (.istore 5, 2) := by decide +kernel
theorem dX10_rests_43 : decode cX10_rests 43 = .ok (.iconst 0, 1) := by decide +kernel
theorem dX10_rests_44 : decode cX10_rests 44 = .ok (.istore 6, 2) := by decide +kernel
theorem dX10_rests_46 : decode cX10_rests 46 = .ok (.iload 6, 2) := by decide +kernel
theorem dX10_rests_48 : decode cX10_rests 48 = .ok (.aload_n 0, 1) := by decide +kernel
theorem dX10_rests_49 : decode cX10_rests 49 = .ok (.getfield 96, 3) := by decide +kernel
theorem dX10_rests_52 : decode cX10_rests 52 = .ok (.aload_n 0, 1) := by decide +kernel
theorem dX10_rests_53 : decode cX10_rests 53 = .ok (.getfield 96, 3) := by decide +kernel
theorem dX10_rests_56 : decode cX10_rests 56 = .ok (.imul, 1) := by decide +kernel
theorem dX10_rests_57 : decode cX10_rests 57 = .ok (.if_icmp .ge 65, 3) := by decide +kernel
theorem dX10_rests_60 : decode cX10_rests 60 = .ok (.aload_n 0, 1) := by decide +kernel
theorem dX10_rests_61 : decode cX10_rests 61 = .ok (.iload_n 1, 1) := by decide +kernel
theorem dX10_rests_62 : decode cX10_rests 62 = .ok (.iload_n 2, 1) := by decide +kernel
theorem dX10_rests_63 : decode cX10_rests 63 = .ok (.iload 6, 2) := by decide +kernel
theorem dX10_rests_65 : decode cX10_rests 65 = .ok (.aload_n 0, 1) := by decide +kernel
theorem dX10_rests_66 : decode cX10_rests 66 = .ok (.getfield 96, 3) := by decide +kernel
theorem dX10_rests_69 : decode cX10_rests 69 = .ok (.idiv, 1) := by decide +kernel
theorem dX10_rests_70 : decode cX10_rests 70 = .ok (.iload 6, 2) := by decide +kernel
theorem dX10_rests_72 : decode cX10_rests 72 = .ok (.aload_n 0, 1) := by decide +kernel
theorem dX10_rests_73 : decode cX10_rests 73 = .ok (.getfield 96, 3) := by decide +kernel
theorem dX10_rests_76 : decode cX10_rests 76 = .ok (.irem, 1) := by decide +kernel
theorem dX10_rests_77 : decode cX10_rests 77 = .ok (.invokevirtual 205, 3) := by decide +kernel
theorem dX10_rests_80 : decode cX10_rests 80 = .ok (.ifCond .eq 36, 3) := by decide +kernel
theorem dX10_rests_83 : decode cX10_rests 83 = .ok (.iload 4, 2) := by decide +kernel
theorem dX10_rests_85 : decode cX10_rests 85 = .ok (.ifCond .ne 24, 3) := by decide +kernel
theorem dX10_rests_88 : decode cX10_rests 88 = .ok (.bipush 10, 2) := by decide +kernel
theorem dX10_rests_90 : decode cX10_rests 90 = .ok (.iload 6, 2) := by decide +kernel
theorem dX10_rests_92 : decode cX10_rests 92 = .ok (.aload_n 0, 1) := by decide +kernel
theorem dX10_rests_93 : decode cX10_rests 93 = .ok (.getfield 96, 3) := by decide +kernel
theorem dX10_rests_96 : decode cX10_rests 96 = .ok (.idiv, 1) := by decide +kernel
theorem dX10_rests_97 : decode cX10_rests 97 = .ok (.imul, 1) := by decide +kernel
theorem dX10_rests_98 : decode cX10_rests 98 = .ok (.iload 6, 2) := by decide +kernel
theorem dX10_rests_100 : decode cX10_rests 100 = .ok (.aload_n 0, 1) := by decide +kernel
theorem dX10_rests_101 : decode cX10_rests 101 = .ok (.getfield 96, 3) := by decide +kernel
theorem dX10_rests_104 : decode cX10_rests 104 = .ok (.irem, 1) := by decide +kernel
theorem dX10_rests_105 : decode cX10_rests 105 = .ok (.iadd, 1) := by decide +kernel
theorem dX10_rests_106 : decode cX10_rests 106 = .ok (.goto 5, 3) := by decide +kernel
theorem dX10_rests_109 : decode cX10_rests 109 = .ok (.iload 5, 2) := by decide +kernel
theorem dX10_rests_111 : decode cX10_rests 111 = .ok (.istore 5, 2) := by decide +kernel
theorem dX10_rests_113 : decode cX10_rests 113 = .ok (.iinc 4 1, 3) := by decide +kernel
theorem dX10_rests_116 : decode cX10_rests 116 = .ok (.iinc 6 1, 3) := by decide +kernel
theorem dX10_rests_119 : decode cX10_rests 119 = .ok (.goto (-73), 3) := by decide +kernel
theorem dX10_rests_122 : decode cX10_rests 122 = .ok (.iload_n 3, 1) := by decide +kernel
theorem dX10_rests_123 : decode cX10_rests 123 = .ok (.ifCond .ne 8, 3) := by decide +kernel
theorem dX10_rests_126 : decode cX10_rests 126 = .ok (.iload 4, 2) := by decide +kernel
theorem dX10_rests_128 : decode cX10_rests 128 = .ok (.goto 5, 3) := by decide +kernel
theorem dX10_rests_131 : decode cX10_rests 131 = .ok (.iload 5, 2) := by decide +kernel
theorem dX10_rests_133 : decode cX10_rests 133 = .ok (.ireturn, 1) := by decide +kernel
theorem dX10_power_0 : decode cX10_power 0 = .ok (.iconst 1, 1) := by decide +kernel
theorem dX10_power_1 : decode cX10_power 1 = .ok (.istore_n 2, 1) := by decide +kernel
theorem dX10_power_2 : decode cX10_power 2 = .ok (.iconst 0, 1) := by decide +kernel
theorem dX10_power_3 : decode cX10_power 3 = .ok (.istore_n 3, 1) := by decide +kernel
theorem dX10_power_4 : decode cX10_power 4 = .ok (.iload_n 3, 1) := by decide +kernel
theorem dX10_power_5 : decode cX10_power 5 = .ok (.iload_n 1, 1) := by decide +kernel
theorem dX10_power_6 : decode cX10_power 6 = .ok (.if_icmp .ge 13, 3) := by decide +kernel
theorem dX10_power_9 : decode cX10_power 9 = .ok (.iload_n 2, 1) := by decide +kernel
theorem dX10_power_10 : decode cX10_power 10 = .ok (.iload_n 0, 1) := by decide +kernel
theorem dX10_power_11 : decode cX10_power 11 = .ok (.imul, 1) := by decide +kernel
theorem dX10_power_12 : decode cX10_power 12 = .ok (.istore_n 2, 1) := by decide +kernel
theorem dX10_power_13 : decode cX10_power 13 = .ok (.iinc 3 1, 3) := by decide +kernel
theorem dX10_power_16 : decode cX10_power 16 = .ok (.goto (-12), 3) := by decide +kernel
theorem dX10_power_19 : decode cX10_power 19 = .ok (.iload_n 2, 1) := by decide +kernel
theorem dX10_power_20 : decode cX10_power 20 = .ok (.ireturn, 1) := by decide +kernel
theorem dX10_hoarse_0 : decode cX10_hoarse 0 = .ok (.iload_n 1, 1) := by decide +kernel
theorem dX10_hoarse_1 : decode cX10_hoarse 1 = .ok (.i2l, 1) := by decide +kernel
theorem dX10_hoarse_2 : decode cX10_hoarse 2 = .ok (.lconst 0, 1) := by decide +kernel
theorem dX10_hoarse_3 : decode cX10_hoarse 3 = .ok (.ldc2_w 72, 3) := by decide +kernel
theorem dX10_hoarse_6 : decode cX10_hoarse 6 = .ok (.invokestatic 59, 3) := by decide +kernel
theorem dX10_hoarse_9 : decode cX10_hoarse 9 = .ok (.ifCond .eq 15, 3) := by decide +kernel
theorem dX10_hoarse_12 : decode cX10_hoarse 12 = .ok (.iload_n 2, 1) := by decide +kernel
theorem dX10_hoarse_13 : decode cX10_hoarse 13 = .ok (.i2l, 1) := by decide +kernel
theorem dX10_hoarse_14 : decode cX10_hoarse 14 = .ok (.lconst 0, 1) := by decide +kernel
theorem dX10_hoarse_15 : decode cX10_hoarse 15 = .ok (.ldc2_w 209, 3) := by decide +kernel
theorem dX10_hoarse_18 : decode cX10_hoarse 18 = .ok (.invokestatic 59, 3) := by decide +kernel
theorem dX10_hoarse_21 : decode cX10_hoarse 21 = .ok (.ifCond .ne 6, 3) := by decide +kernel
theorem dX10_hoarse_24 : decode cX10_hoarse 24 = .ok (.bipush (-2), 2) := by decide +kernel
theorem dX10_hoarse_26 : decode cX10_hoarse 26 = .ok (.ireturn, 1) := by decide +kernel
theorem dX10_hoarse_27 : decode cX10_hoarse 27 = .ok (.iconst 0, 1) := by decide +kernel
theorem dX10_hoarse_28 : decode cX10_hoarse 28 = .ok (.istore 4, 2) := by decide +kernel
theorem dX10_hoarse_30 : decode cX10_hoarse 30 = .ok (.iconst 0, 1) := by decide +kernel
theorem dX10_hoarse_31 : decode cX10_hoarse 31 = .ok (.istore 5, 2) := by decide +kernel
theorem dX10_hoarse_33 : decode cX10_hoarse 33 = .ok (.iconst 0, 1) := by decide +kernel
theorem dX10_hoarse_34 : decode cX10_hoarse 34 = .ok (.istore 6, 2) := by decide +kernel
theorem dX10_hoarse_36 : decode cX10_hoarse 36 = .ok (.iload 6, 2) := by decide +kernel
theorem dX10_hoarse_38 : decode cX10_hoarse 38 = .ok (.iconst 1, 1) := by decide +kernel
theorem dX10_hoarse_39 : decode cX10_hoarse 39 = .ok (.aload_n 0, 1) := by decide +kernel
theorem dX10_hoarse_40 : decode cX10_hoarse 40 = .ok (.getfield 96, 3) := by decide +kernel
theorem dX10_hoarse_43 : decode cX10_hoarse 43 = .ok (.ishl, 1) := by decide +kernel
theorem dX10_hoarse_44 : decode cX10_hoarse 44 = .ok (.if_icmp .ge 67, 3) := by decide +kernel
theorem dX10_hoarse_47 : decode cX10_hoarse 47 = .ok (.bipush 10, 2) := by decide +kernel
theorem dX10_hoarse_49 : decode cX10_hoarse 49 = .ok (.iload_n 2, 1) := by decide +kernel
theorem dX10_hoarse_50 : decode cX10_hoarse 50 = .ok (.isub, 1) := by decide +kernel
theorem dX10_hoarse_51 : decode cX10_hoarse 51 = .ok (.iload 6, 2) := by decide +kernel
theorem dX10_hoarse_53 : decode cX10_hoarse 53 = .ok (.invokestatic 140, 3) := by decide +kernel
theorem dX10_hoarse_56 : decode cX10_hoarse 56 = .ok (.invokestatic 211, 3) := by decide +kernel
theorem dX10_hoarse_59 : decode cX10_hoarse 59 = .ok (.iload_n 2, 1) := by decide +kernel
theorem dX10_hoarse_60 : decode cX10_hoarse 60 = .ok (.aload_n 0, 1) := by decide +kernel
theorem dX10_hoarse_61 : decode cX10_hoarse 61 = .ok (.getfield 96, 3) := by decide +kernel
theorem dX10_hoarse_64 : decode cX10_hoarse 64 = .ok (.iload 6, 2) := by decide +kernel
theorem dX10_hoarse_66 : decode cX10_hoarse 66 = .ok (.invokestatic 140, 3) := by decide +kernel
theorem dX10_hoarse_69 : decode cX10_hoarse 69 = .ok (.isub, 1) := by decide +kernel
theorem dX10_hoarse_70 : decode cX10_hoarse 70 = .ok (.invokestatic 211, 3) := by decide +kernel
theorem dX10_hoarse_73 : decode cX10_hoarse 73 = .ok (.imul, 1) := by decide +kernel
theorem dX10_hoarse_74 : decode cX10_hoarse 74 = .ok (.istore 7, 2) := by decide +kernel
theorem dX10_hoarse_76 : decode cX10_hoarse 76 = .ok (.iload 5, 2) := by decide +kernel
theorem dX10_hoarse_78 : decode cX10_hoarse 78 = .ok (.iload 7, 2) := by decide +kernel
theorem dX10_hoarse_80 : decode cX10_hoarse 80 = .ok (.iadd, 1) := by decide +kernel
theorem dX10_hoarse_81 : decode cX10_hoarse 81 = .ok (.istore 5, 2) := by decide +kernel
theorem dX10_hoarse_83 : decode cX10_hoarse 83 = .ok (.iload 4, 2) := by decide +kernel
theorem dX10_hoarse_85 : decode cX10_hoarse 85 = .ok (.aload_n 0, 1) := by decide +kernel
theorem dX10_hoarse_86 : decode cX10_hoarse 86 = .ok (.iload 6, 2) := by decide +kernel
theorem dX10_hoarse_88 : decode cX10_hoarse 88 = .ok (.iload_n 1, 1) := by decide +kernel
theorem dX10_hoarse_89 : decode cX10_hoarse 89 = .ok (.invokevirtual 196, 3) := by decide +kernel
theorem dX10_hoarse_92 : decode cX10_hoarse 92 = .ok (.iconst 2, 1) := by decide +kernel
theorem dX10_hoarse_93 : decode cX10_hoarse 93 = .ok (.if_icmp .ge 8, 3) := by decide +kernel
theorem dX10_hoarse_96 : decode cX10_hoarse 96 = .ok (.iload 7, 2) := by decide +kernel
theorem dX10_hoarse_98 : decode cX10_hoarse 98 = .ok (.goto 4, 3) := by decide +kernel
theorem dX10_hoarse_101 : decode cX10_hoarse 101 = .ok (.iconst 0, 1) := by decide +kernel
theorem dX10_hoarse_102 : decode cX10_hoarse 102 = .ok (.iadd, 1) := by decide +kernel
theorem dX10_hoarse_103 : decode cX10_hoarse 103 = .ok (.istore 4, 2) := by decide +kernel
theorem dX10_hoarse_105 : decode cX10_hoarse 105 = .ok (.iinc 6 1, 3) := by decide +kernel
theorem dX10_hoarse_108 : decode cX10_hoarse 108 = .ok (.goto (-72), 3) := by decide +kernel
theorem dX10_hoarse_111 : decode cX10_hoarse 111 = .ok (.iload 4, 2) := by decide +kernel
theorem dX10_hoarse_113 : decode cX10_hoarse 113 = .ok (.iload 5, 2) := by decide +kernel
theorem dX10_hoarse_115 : decode cX10_hoarse 115 = .ok (.invokestatic 199, 3) := by decide +kernel
theorem dX10_hoarse_118 : decode cX10_hoarse 118 = .ok (.istore 6, 2) := by decide +kernel
theorem dX10_hoarse_120 : decode cX10_hoarse 120 = .ok (.iload_n 3, 1) := by decide +kernel
theorem dX10_hoarse_121 : decode cX10_hoarse 121 = .ok (.ifCond .eq 11, 3) := by decide +kernel
theorem dX10_hoarse_124 : decode cX10_hoarse 124 = .ok (.iload 4, 2) := by decide +kernel
theorem dX10_hoarse_126 : decode cX10_hoarse 126 = .ok (.iload 6, 2) := by decide +kernel
theorem dX10_hoarse_128 : decode cX10_hoarse 128 = .ok (.idiv, 1) := by decide +kernel
theorem dX10_hoarse_129 : decode cX10_hoarse 129 = .ok (.goto 8, 3) := by decide +kernel
theorem dX10_hoarse_132 : decode cX10_hoarse 132 = .ok (.iload 5, 2) := by decide +kernel
theorem dX10_hoarse_134 : decode cX10_hoarse 134 = .ok (.iload 6, 2) := by decide +kernel
theorem dX10_hoarse_136 : decode cX10_hoarse 136 = .ok (.idiv, 1) := by decide +kernel
theorem dX10_hoarse_137 : decode cX10_hoarse 137 = .ok (.ireturn, 1) := by decide +kernel
theorem dX10_seed_0 : decode cX10_seed 0 = .ok (.aload_n 0, 1) := by decide +kernel
theorem dX10_seed_1 : decode cX10_seed 1 = .ok (.getfield 214, 3) := by decide +kernel
theorem dX10_seed_4 : decode cX10_seed 4 = .ok (.lstore_n 3, 1) := by decide +kernel
theorem dX10_seed_5 : decode cX10_seed 5 = .ok (.aload_n 0, 1) := by decide +kernel
theorem dX10_seed_6 : decode cX10_seed 6 = .ok (.lload_n 1, 1) := by decide +kernel
theorem dX10_seed_7 : decode cX10_seed 7 = .ok (.putfield 214, 3) := by decide +kernel
theorem dX10_seed_10 : decode cX10_seed 10 = .ok (.lload_n 3, 1) := by decide +kernel
theorem dX10_seed_11 : decode cX10_seed 11 = .ok (.lreturn, 1) := by decide +kernel
theorem dX10_years_0 : decode cX10_years 0 = .ok (.iload_n 1, 1) := by decide +kernel
theorem dX10_years_1 : decode cX10_years 1 = .ok (.i2l, 1) := by decide +kernel
theorem dX10_years_2 : decode cX10_years 2 = .ok (.lconst 1, 1) := by decide +kernel
theorem dX10_years_3 : decode cX10_years 3 = .ok (.ldc2_w 218, 3) := by decide +kernel
theorem dX10_years_6 : decode cX10_years 6 = .ok (.invokestatic 59, 3) := by decide +kernel
theorem dX10_years_9 : decode cX10_years 9 = .ok (.ifCond .ne 6, 3) := by decide +kernel
theorem dX10_years_12 : decode cX10_years 12 = .ok (.bipush (-2), 2) := by decide +kernel
theorem dX10_years_14 : decode cX10_years 14 = .ok (.ireturn, 1) := by decide +kernel
theorem dX10_years_15 : decode cX10_years 15 = .ok (.aload_n 0, 1) := by decide +kernel
theorem dX10_years_16 : decode cX10_years 16 = .ok (.invokevirtual 155, 3) := by decide +kernel
theorem dX10_years_19 : decode cX10_years 19 = .ok (.iconst 0, 1) := by decide +kernel
theorem dX10_years_20 : decode cX10_years 20 = .ok (.istore_n 2, 1) := by decide +kernel
theorem dX10_years_21 : decode cX10_years 21 = .ok (.iconst 0, 1) := by decide +kernel
theorem dX10_years_22 : decode cX10_years 22 = .ok (.istore_n 3, 1) := by decide +kernel
theorem dX10_years_23 : decode cX10_years 23 = .ok (.iload_n 3, 1) := by decide +kernel
theorem dX10_years_24 : decode cX10_years 24 = .ok (.iload_n 1, 1) := by decide +kernel
theorem dX10_years_25 : decode cX10_years 25 = .ok (.if_icmp .ge 157, 3) := by decide +kernel
theorem dX10_years_28 : decode cX10_years 28 = .ok (.aload_n 0, 1) := by decide +kernel
theorem dX10_years_29 : decode cX10_years 29 = .ok (.aload_n 0, 1) := by decide +kernel
theorem dX10_years_30 : decode cX10_years 30 = .ok (.getfield 214, 3) := by decide +kernel
theorem dX10_years_33 : decode cX10_years 33 = .ok (.ldc2_w 220, 3) := by decide +kernel
theorem dX10_years_36 : decode cX10_years 36 = .ok (.lmul, 1) := by decide +kernel
theorem dX10_years_37 : decode cX10_years 37 = .ok (.ldc2_w 222, 3) := by decide +kernel
theorem dX10_years_40 : decode cX10_years 40 = .ok (.ladd, 1) := by decide +kernel
theorem dX10_years_41 : decode cX10_years 41 = .ok (.putfield 214, 3) := by decide +kernel
theorem dX10_years_44 : decode cX10_years 44 = .ok (.aload_n 0, 1) := by decide +kernel
theorem dX10_years_45 : decode cX10_years 45 = .ok (.getfield 214, 3) := by decide +kernel
theorem dX10_years_48 : decode cX10_years 48 = .ok (.bipush 33, 2) := by decide +kernel
theorem dX10_years_50 : decode cX10_years 50 = .ok (.lushr, 1) := by decide +kernel
theorem dX10_years_51 : decode cX10_years 51 = .ok (.ldc2_w 224, 3) := by decide +kernel
theorem dX10_years_54 : decode cX10_years 54 = .ok (.lrem, 1) := by decide +kernel
theorem dX10_years_55 : decode cX10_years 55 = .ok (.l2i, 1) := by decide +kernel
theorem dX10_years_56 : decode cX10_years 56 = .ok (.istore 4, 2) := by decide +kernel
theorem dX10_years_58 : decode cX10_years 58 = .ok (.iload 4, 2) := by decide +kernel
theorem dX10_years_60 : decode cX10_years 60 = .ok (.bipush 17, 2) := by decide +kernel
theorem dX10_years_62 : decode cX10_years 62 = .ok (.if_icmp .le 11, 3) := by decide +kernel
theorem dX10_years_65 : decode cX10_years 65 = .ok (.aload_n 0, 1) := by decide +kernel
theorem dX10_years_66 : decode cX10_years 66 = .ok (.iconst 1, 1) := by decide +kernel
theorem dX10_years_67 : decode cX10_years 67 = .ok (.invokevirtual 134, 3) := by decide +kernel
theorem dX10_years_70 : decode cX10_years 70 = .ok (.goto 95, 3) := by decide +kernel
theorem dX10_years_73 : decode cX10_years 73 = .ok (.iload 4, 2) := by decide +kernel
theorem dX10_years_75 : decode cX10_years 75 = .ok (.bipush 17, 2) := by decide +kernel
theorem dX10_years_77 : decode cX10_years 77 = .ok (.if_icmp .ne 11, 3) := by decide +kernel
theorem dX10_years_80 : decode cX10_years 80 = .ok (.aload_n 0, 1) := by decide +kernel
theorem dX10_years_81 : decode cX10_years 81 = .ok (.iconst 1, 1) := by decide +kernel
theorem dX10_years_82 : decode cX10_years 82 = .ok (.invokevirtual 150, 3) := by decide +kernel
theorem dX10_years_85 : decode cX10_years 85 = .ok (.goto 80, 3) := by decide +kernel
theorem dX10_years_88 : decode cX10_years 88 = .ok (.iload 4, 2) := by decide +kernel
theorem dX10_years_90 : decode cX10_years 90 = .ok (.bipush 11, 2) := by decide +kernel
theorem dX10_years_92 : decode cX10_years 92 = .ok (.if_icmp .le 22, 3) := by decide +kernel
theorem dX10_years_95 : decode cX10_years 95 = .ok (.aload_n 0, 1) := by decide +kernel
theorem dX10_years_96 : decode cX10_years 96 = .ok (.iconst 2, 1) := by decide +kernel
theorem dX10_years_97 : decode cX10_years 97 = .ok (.iload 4, 2) := by decide +kernel
theorem dX10_years_99 : decode cX10_years 99 = .ok (.bipush 12, 2) := by decide +kernel
theorem dX10_years_101 : decode cX10_years 101 = .ok (.isub, 1) := by decide +kernel
theorem dX10_years_102 : decode cX10_years 102 = .ok (.iload 4, 2) := by decide +kernel
theorem dX10_years_104 : decode cX10_years 104 = .ok (.bipush 11, 2) := by decide +kernel
theorem dX10_years_106 : decode cX10_years 106 = .ok (.isub, 1) := by decide +kernel
theorem dX10_years_107 : decode cX10_years 107 = .ok (.invokevirtual 183, 3) := by decide +kernel
theorem dX10_years_110 : decode cX10_years 110 = .ok (.pop, 1) := by decide +kernel
theorem dX10_years_111 : decode cX10_years 111 = .ok (.goto 54, 3) := by decide +kernel
theorem dX10_years_114 : decode cX10_years 114 = .ok (.iload 4, 2) := by decide +kernel
theorem dX10_years_116 : decode cX10_years 116 = .ok (.iconst 5, 1) := by decide +kernel
theorem dX10_years_117 : decode cX10_years 117 = .ok (.if_icmp .le 39, 3) := by decide +kernel
theorem dX10_years_120 : decode cX10_years 120 = .ok (.aload_n 0, 1) := by decide +kernel
theorem dX10_years_121 : decode cX10_years 121 = .ok (.getfield 19, 3) := by decide +kernel
theorem dX10_years_124 : decode cX10_years 124 = .ok (.bipush 38, 2) := by decide +kernel
theorem dX10_years_126 : decode cX10_years 126 = .ok (.dup2, 1) := by decide +kernel
theorem dX10_years_127 : decode cX10_years 127 = .ok (.iaload, 1) := by decide +kernel
theorem dX10_years_128 : decode cX10_years 128 = .ok (.aload_n 0, 1) := by decide +kernel
theorem dX10_years_129 : decode cX10_years 129 = .ok (.iload 4, 2) := by decide +kernel
theorem dX10_years_131 : decode cX10_years 131 = .ok (.bipush 6, 2) := by decide +kernel
theorem dX10_years_133 : decode cX10_years 133 = .ok (.isub, 1) := by decide +kernel
theorem dX10_years_134 : decode cX10_years 134 = .ok (.invokevirtual 119, 3) := by decide +kernel
theorem dX10_years_137 : decode cX10_years 137 = .ok (.ifCond .eq 13, 3) := by decide +kernel
theorem dX10_years_140 : decode cX10_years 140 = .ok (.iconst 1, 1) := by decide +kernel
theorem dX10_years_141 : decode cX10_years 141 = .ok (.iload 4, 2) := by decide +kernel
theorem dX10_years_143 : decode cX10_years 143 = .ok (.bipush 6, 2) := by decide +kernel
theorem dX10_years_145 : decode cX10_years 145 = .ok (.isub, 1) := by decide +kernel
theorem dX10_years_146 : decode cX10_years 146 = .ok (.ishl, 1) := by decide +kernel
theorem dX10_years_147 : decode cX10_years 147 = .ok (.goto 4, 3) := by decide +kernel
theorem dX10_years_150 : decode cX10_years 150 = .ok (.iconst 0, 1) := by decide +kernel
theorem dX10_years_151 : decode cX10_years 151 = .ok (.ixor, 1) := by decide +kernel
theorem dX10_years_152 : decode cX10_years 152 = .ok (.iastore, 1) := by decide +kernel
theorem dX10_years_153 : decode cX10_years 153 = .ok (.goto 12, 3) := by decide +kernel
theorem dX10_years_156 : decode cX10_years 156 = .ok (.aload_n 0, 1) := by decide +kernel
theorem dX10_years_157 : decode cX10_years 157 = .ok (.iconst 1, 1) := by decide +kernel
theorem dX10_years_158 : decode cX10_years 158 = .ok (.iload 4, 2) := by decide +kernel
theorem dX10_years_160 : decode cX10_years 160 = .ok (.iconst 1, 1) := by decide +kernel
theorem dX10_years_161 : decode cX10_years 161 = .ok (.invokevirtual 183, 3) := by decide +kernel
theorem dX10_years_164 : decode cX10_years 164 = .ok (.pop, 1) := by decide +kernel
theorem dX10_years_165 : decode cX10_years 165 = .ok (.iload_n 2, 1) := by decide +kernel
theorem dX10_years_166 : decode cX10_years 166 = .ok (.aload_n 0, 1) := by decide +kernel
theorem dX10_years_167 : decode cX10_years 167 = .ok (.iconst 1, 1) := by decide +kernel
theorem dX10_years_168 : decode cX10_years 168 = .ok (.invokevirtual 137, 3) := by decide +kernel
theorem dX10_years_171 : decode cX10_years 171 = .ok (.invokestatic 140, 3) := by decide +kernel
theorem dX10_years_174 : decode cX10_years 174 = .ok (.iadd, 1) := by decide +kernel
theorem dX10_years_175 : decode cX10_years 175 = .ok (.istore_n 2, 1) := by decide +kernel
theorem dX10_years_176 : decode cX10_years 176 = .ok (.iinc 3 1, 3) := by decide +kernel
theorem dX10_years_179 : decode cX10_years 179 = .ok (.goto (-156), 3) := by decide +kernel
theorem dX10_years_182 : decode cX10_years 182 = .ok (.iload_n 2, 1) := by decide +kernel
theorem dX10_years_183 : decode cX10_years 183 = .ok (.ireturn, 1) := by decide +kernel
theorem dX10_keep_0 : decode cX10_keep 0 = .ok (.iload_n 1, 1) := by decide +kernel
theorem dX10_keep_1 : decode cX10_keep 1 = .ok (.i2l, 1) := by decide +kernel
theorem dX10_keep_2 : decode cX10_keep 2 = .ok (.lconst 0, 1) := by decide +kernel
theorem dX10_keep_3 : decode cX10_keep 3 = .ok (.lconst 1, 1) := by decide +kernel
theorem dX10_keep_4 : decode cX10_keep 4 = .ok (.invokestatic 59, 3) := by decide +kernel
theorem dX10_keep_7 : decode cX10_keep 7 = .ok (.ifCond .ne 5, 3) := by decide +kernel
theorem dX10_keep_10 : decode cX10_keep 10 = .ok (.iconst (-1), 1) := by decide +kernel
theorem dX10_keep_11 : decode cX10_keep 11 = .ok (.ireturn, 1) := by decide +kernel
theorem dX10_keep_12 : decode cX10_keep 12 = .ok (.aload_n 0, 1) := by decide +kernel
theorem dX10_keep_13 : decode cX10_keep 13 = .ok (.getfield 50, 3) := by decide +kernel
theorem dX10_keep_16 : decode cX10_keep 16 = .ok (.iload_n 1, 1) := by decide +kernel
theorem dX10_keep_17 : decode cX10_keep 17 = .ok (.iconst 1, 1) := by decide +kernel
theorem dX10_keep_18 : decode cX10_keep 18 = .ok (.bastore, 1) := by decide +kernel
theorem dX10_keep_19 : decode cX10_keep 19 = .ok (.iconst 0, 1) := by decide +kernel
theorem dX10_keep_20 : decode cX10_keep 20 = .ok (.istore_n 2, 1) := by decide +kernel
theorem dX10_keep_21 : decode cX10_keep 21 = .ok (.iload_n 2, 1) := by decide +kernel
theorem dX10_keep_22 : decode cX10_keep 22 = .ok (.bipush 20, 2) := by decide +kernel
theorem dX10_keep_24 : decode cX10_keep 24 = .ok (.if_icmp .ge 26, 3) := by decide +kernel
theorem dX10_keep_27 : decode cX10_keep 27 = .ok (.aload_n 0, 1) := by decide +kernel
theorem dX10_keep_28 : decode cX10_keep 28 = .ok (.getfield 54, 3) := by decide +kernel
theorem dX10_keep_31 : decode cX10_keep 31 = .ok (.bipush 20, 2) := by decide +kernel
theorem dX10_keep_33 : decode cX10_keep 33 = .ok (.iload_n 1, 1) := by decide +kernel
theorem dX10_keep_34 : decode cX10_keep 34 = .ok (.imul, 1) := by decide +kernel
theorem dX10_keep_35 : decode cX10_keep 35 = .ok (.iload_n 2, 1) := by decide +kernel
theorem dX10_keep_36 : decode cX10_keep 36 = .ok (.iadd, 1) := by decide +kernel
theorem dX10_keep_37 : decode cX10_keep 37 = .ok (.aload_n 0, 1) := by decide +kernel
theorem dX10_keep_38 : decode cX10_keep 38 = .ok (.getfield 19, 3) := by decide +kernel
theorem dX10_keep_41 : decode cX10_keep 41 = .ok (.iload_n 2, 1) := by decide +kernel
theorem dX10_keep_42 : decode cX10_keep 42 = .ok (.iaload, 1) := by decide +kernel
theorem dX10_keep_43 : decode cX10_keep 43 = .ok (.iastore, 1) := by decide +kernel
theorem dX10_keep_44 : decode cX10_keep 44 = .ok (.iinc 2 1, 3) := by decide +kernel
theorem dX10_keep_47 : decode cX10_keep 47 = .ok (.goto (-26), 3) := by decide +kernel
theorem dX10_keep_50 : decode cX10_keep 50 = .ok (.aload_n 0, 1) := by decide +kernel
theorem dX10_keep_51 : decode cX10_keep 51 = .ok (.getfield 19, 3) := by decide +kernel
theorem dX10_keep_54 : decode cX10_keep 54 = .ok (.bipush 19, 2) := by decide +kernel
theorem dX10_keep_56 : decode cX10_keep 56 = .ok (.iaload, 1) := by decide +kernel
theorem dX10_keep_57 : decode cX10_keep 57 = .ok (.ireturn, 1) := by decide +kernel
theorem dX10_again_0 : decode cX10_again 0 = .ok (.iload_n 1, 1) := by decide +kernel
theorem dX10_again_1 : decode cX10_again 1 = .ok (.i2l, 1) := by decide +kernel
theorem dX10_again_2 : decode cX10_again 2 = .ok (.lconst 0, 1) := by decide +kernel
theorem dX10_again_3 : decode cX10_again 3 = .ok (.lconst 1, 1) := by decide +kernel
theorem dX10_again_4 : decode cX10_again 4 = .ok (.invokestatic 59, 3) := by decide +kernel
theorem dX10_again_7 : decode cX10_again 7 = .ok (.ifCond .ne 5, 3) := by decide +kernel
theorem dX10_again_10 : decode cX10_again 10 = .ok (.iconst (-1), 1) := by decide +kernel
theorem dX10_again_11 : decode cX10_again 11 = .ok (.ireturn, 1) := by decide +kernel
theorem dX10_again_12 : decode cX10_again 12 = .ok (.aload_n 0, 1) := by decide +kernel
theorem dX10_again_13 : decode cX10_again 13 = .ok (.getfield 50, 3) := by decide +kernel
theorem dX10_again_16 : decode cX10_again 16 = .ok (.iload_n 1, 1) := by decide +kernel
theorem dX10_again_17 : decode cX10_again 17 = .ok (.baload, 1) := by decide +kernel
theorem dX10_again_18 : decode cX10_again 18 = .ok (.ifCond .ne 6, 3) := by decide +kernel
theorem dX10_again_21 : decode cX10_again 21 = .ok (.bipush (-3), 2) := by decide +kernel
theorem dX10_again_23 : decode cX10_again 23 = .ok (.ireturn, 1) := by decide +kernel
theorem dX10_again_24 : decode cX10_again 24 = .ok (.iconst 0, 1) := by decide +kernel
theorem dX10_again_25 : decode cX10_again 25 = .ok (.istore_n 2, 1) := by decide +kernel
theorem dX10_again_26 : decode cX10_again 26 = .ok (.iload_n 2, 1) := by decide +kernel
theorem dX10_again_27 : decode cX10_again 27 = .ok (.bipush 20, 2) := by decide +kernel
theorem dX10_again_29 : decode cX10_again 29 = .ok (.if_icmp .ge 26, 3) := by decide +kernel
theorem dX10_again_32 : decode cX10_again 32 = .ok (.aload_n 0, 1) := by decide +kernel
theorem dX10_again_33 : decode cX10_again 33 = .ok (.getfield 19, 3) := by decide +kernel
theorem dX10_again_36 : decode cX10_again 36 = .ok (.iload_n 2, 1) := by decide +kernel
theorem dX10_again_37 : decode cX10_again 37 = .ok (.aload_n 0, 1) := by decide +kernel
theorem dX10_again_38 : decode cX10_again 38 = .ok (.getfield 54, 3) := by decide +kernel
theorem dX10_again_41 : decode cX10_again 41 = .ok (.bipush 20, 2) := by decide +kernel
theorem dX10_again_43 : decode cX10_again 43 = .ok (.iload_n 1, 1) := by decide +kernel
theorem dX10_again_44 : decode cX10_again 44 = .ok (.imul, 1) := by decide +kernel
theorem dX10_again_45 : decode cX10_again 45 = .ok (.iload_n 2, 1) := by decide +kernel
theorem dX10_again_46 : decode cX10_again 46 = .ok (.iadd, 1) := by decide +kernel
theorem dX10_again_47 : decode cX10_again 47 = .ok (.iaload, 1) := by decide +kernel
theorem dX10_again_48 : decode cX10_again 48 = .ok (.iastore, 1) := by decide +kernel
theorem dX10_again_49 : decode cX10_again 49 = .ok (.iinc 2 1, 3) := by decide +kernel
theorem dX10_again_52 : decode cX10_again 52 = .ok (.goto (-26), 3) := by decide +kernel
theorem dX10_again_55 : decode cX10_again 55 = .ok (.aload_n 0, 1) := by decide +kernel
theorem dX10_again_56 : decode cX10_again 56 = .ok (.iconst 0, 1) := by decide +kernel
theorem dX10_again_57 : decode cX10_again 57 = .ok (.putfield 99, 3) := by decide +kernel
theorem dX10_again_60 : decode cX10_again 60 = .ok (.aload_n 0, 1) := by decide +kernel
theorem dX10_again_61 : decode cX10_again 61 = .ok (.getfield 19, 3) := by decide +kernel
theorem dX10_again_64 : decode cX10_again 64 = .ok (.bipush 19, 2) := by decide +kernel
theorem dX10_again_66 : decode cX10_again 66 = .ok (.iaload, 1) := by decide +kernel
theorem dX10_again_67 : decode cX10_again 67 = .ok (.ireturn, 1) := by decide +kernel
theorem dX10_takenSeats_0 : decode cX10_takenSeats 0 = .ok (.iconst 0, 1) := by decide +kernel
theorem dX10_takenSeats_1 : decode cX10_takenSeats 1 = .ok (.istore_n 1, 1) := by decide +kernel
theorem dX10_takenSeats_2 : decode cX10_takenSeats 2 = .ok (.iconst 0, 1) := by decide +kernel
theorem dX10_takenSeats_3 : decode cX10_takenSeats 3 = .ok (.istore_n 2, 1) := by decide +kernel
theorem dX10_takenSeats_4 : decode cX10_takenSeats 4 = .ok (.iload_n 2, 1) := by decide +kernel
theorem dX10_takenSeats_5 : decode cX10_takenSeats 5 = .ok (.aload_n 0, 1) := by decide +kernel
theorem dX10_takenSeats_6 : decode cX10_takenSeats 6 = .ok (.getfield 96, 3) := by decide +kernel
theorem dX10_takenSeats_9 : decode cX10_takenSeats 9 = .ok (.if_icmp .ge 20, 3) := by decide +kernel
theorem dX10_takenSeats_12 : decode cX10_takenSeats 12 = .ok (.iload_n 1, 1) := by decide +kernel
theorem dX10_takenSeats_13 : decode cX10_takenSeats 13 = .ok (.iconst 1, 1) := by decide +kernel
theorem dX10_takenSeats_14 : decode cX10_takenSeats 14 = .ok (.aload_n 0, 1) := by decide +kernel
theorem dX10_takenSeats_15 : decode cX10_takenSeats 15 = .ok (.getfield 19, 3) := by decide +kernel
theorem dX10_takenSeats_18 : decode cX10_takenSeats 18 = .ok (.iload_n 2, 1) := by decide +kernel
theorem dX10_takenSeats_19 : decode cX10_takenSeats 19 = .ok (.iaload, 1) := by decide +kernel
theorem dX10_takenSeats_20 : decode cX10_takenSeats 20 = .ok (.ishl, 1) := by decide +kernel
theorem dX10_takenSeats_21 : decode cX10_takenSeats 21 = .ok (.ior, 1) := by decide +kernel
theorem dX10_takenSeats_22 : decode cX10_takenSeats 22 = .ok (.istore_n 1, 1) := by decide +kernel
theorem dX10_takenSeats_23 : decode cX10_takenSeats 23 = .ok (.iinc 2 1, 3) := by decide +kernel
theorem dX10_takenSeats_26 : decode cX10_takenSeats 26 = .ok (.goto (-22), 3) := by decide +kernel
theorem dX10_takenSeats_29 : decode cX10_takenSeats 29 = .ok (.iload_n 1, 1) := by decide +kernel
theorem dX10_takenSeats_30 : decode cX10_takenSeats 30 = .ok (.ireturn, 1) := by decide +kernel
theorem dX10_goodsOfAll_0 : decode cX10_goodsOfAll 0 = .ok (.iconst 0, 1) := by decide +kernel
theorem dX10_goodsOfAll_1 : decode cX10_goodsOfAll 1 = .ok (.istore_n 1, 1) := by decide +kernel
theorem dX10_goodsOfAll_2 : decode cX10_goodsOfAll 2 = .ok (.iconst 0, 1) := by decide +kernel
theorem dX10_goodsOfAll_3 : decode cX10_goodsOfAll 3 = .ok (.istore_n 2, 1) := by decide +kernel
theorem dX10_goodsOfAll_4 : decode cX10_goodsOfAll 4 = .ok (.iload_n 2, 1) := by decide +kernel
theorem dX10_goodsOfAll_5 : decode cX10_goodsOfAll 5 = .ok (.aload_n 0, 1) := by decide +kernel
theorem dX10_goodsOfAll_6 : decode cX10_goodsOfAll 6 = .ok (.getfield 96, 3) := by decide +kernel
theorem dX10_goodsOfAll_9 : decode cX10_goodsOfAll 9 = .ok (.if_icmp .ge 21, 3) := by decide +kernel
theorem dX10_goodsOfAll_12 : decode cX10_goodsOfAll 12 = .ok (.iload_n 1, 1) := by decide +kernel
theorem dX10_goodsOfAll_13 : decode cX10_goodsOfAll 13 = .ok (.aload_n 0, 1) := by decide +kernel
theorem dX10_goodsOfAll_14 : decode cX10_goodsOfAll 14 = .ok (.getfield 19, 3) := by decide +kernel
theorem dX10_goodsOfAll_17 : decode cX10_goodsOfAll 17 = .ok (.bipush 6, 2) := by decide +kernel
theorem dX10_goodsOfAll_19 : decode cX10_goodsOfAll 19 = .ok (.iload_n 2, 1) := by decide +kernel
theorem dX10_goodsOfAll_20 : decode cX10_goodsOfAll 20 = .ok (.iadd, 1) := by decide +kernel
theorem dX10_goodsOfAll_21 : decode cX10_goodsOfAll 21 = .ok (.iaload, 1) := by decide +kernel
theorem dX10_goodsOfAll_22 : decode cX10_goodsOfAll 22 = .ok (.iadd, 1) := by decide +kernel
theorem dX10_goodsOfAll_23 : decode cX10_goodsOfAll 23 = .ok (.istore_n 1, 1) := by decide +kernel
theorem dX10_goodsOfAll_24 : decode cX10_goodsOfAll 24 = .ok (.iinc 2 1, 3) := by decide +kernel
theorem dX10_goodsOfAll_27 : decode cX10_goodsOfAll 27 = .ok (.goto (-23), 3) := by decide +kernel
theorem dX10_goodsOfAll_30 : decode cX10_goodsOfAll 30 = .ok (.iload_n 1, 1) := by decide +kernel
theorem dX10_goodsOfAll_31 : decode cX10_goodsOfAll 31 = .ok (.ireturn, 1) := by decide +kernel
theorem dX10_jealous_0 : decode cX10_jealous 0 = .ok (.iconst 0, 1) := by decide +kernel
theorem dX10_jealous_1 : decode cX10_jealous 1 = .ok (.istore_n 1, 1) := by decide +kernel
theorem dX10_jealous_2 : decode cX10_jealous 2 = .ok (.iconst 0, 1) := by decide +kernel
theorem dX10_jealous_3 : decode cX10_jealous 3 = .ok (.istore_n 2, 1) := by decide +kernel
theorem dX10_jealous_4 : decode cX10_jealous 4 = .ok (.iload_n 2, 1) := by decide +kernel
theorem dX10_jealous_5 : decode cX10_jealous 5 = .ok (.aload_n 0, 1) := by decide +kernel
theorem dX10_jealous_6 : decode cX10_jealous 6 = .ok (.getfield 96, 3) := by decide +kernel
theorem dX10_jealous_9 : decode cX10_jealous 9 = .ok (.if_icmp .ge 30, 3) := by decide +kernel
theorem dX10_jealous_12 : decode cX10_jealous 12 = .ok (.iload_n 1, 1) := by decide +kernel
theorem dX10_jealous_13 : decode cX10_jealous 13 = .ok (.aload_n 0, 1) := by decide +kernel
theorem dX10_jealous_14 : decode cX10_jealous 14 = .ok (.iconst 0, 1) := by decide +kernel
theorem dX10_jealous_15 : decode cX10_jealous 15 = .ok (.iload_n 2, 1) := by decide +kernel
theorem dX10_jealous_16 : decode cX10_jealous 16 = .ok (.invokevirtual 113, 3) := by decide +kernel
theorem dX10_jealous_19 : decode cX10_jealous 19 = .ok (.bipush (-9), 2) := by decide +kernel
theorem dX10_jealous_21 : decode cX10_jealous 21 = .ok (.if_icmp .ne 7, 3) := by decide +kernel
theorem dX10_jealous_24 : decode cX10_jealous 24 = .ok (.iconst 0, 1) := by decide +kernel
theorem dX10_jealous_25 : decode cX10_jealous 25 = .ok (.goto 6, 3) := by decide +kernel
theorem dX10_jealous_28 : decode cX10_jealous 28 = .ok (.iconst 1, 1) := by decide +kernel
theorem dX10_jealous_29 : decode cX10_jealous 29 = .ok (.iload_n 2, 1) := by decide +kernel
theorem dX10_jealous_30 : decode cX10_jealous 30 = .ok (.ishl, 1) := by decide +kernel
theorem dX10_jealous_31 : decode cX10_jealous 31 = .ok (.ior, 1) := by decide +kernel
theorem dX10_jealous_32 : decode cX10_jealous 32 = .ok (.istore_n 1, 1) := by decide +kernel
theorem dX10_jealous_33 : decode cX10_jealous 33 = .ok (.iinc 2 1, 3) := by decide +kernel
theorem dX10_jealous_36 : decode cX10_jealous 36 = .ok (.goto (-32), 3) := by decide +kernel
theorem dX10_jealous_39 : decode cX10_jealous 39 = .ok (.iload_n 1, 1) := by decide +kernel
theorem dX10_jealous_40 : decode cX10_jealous 40 = .ok (.ireturn, 1) := by decide +kernel
theorem dX10_count_0 : decode cX10_count 0 = .ok (.iload_n 1, 1) := by decide +kernel
theorem dX10_count_1 : decode cX10_count 1 = .ok (.tableswitch 112 0 9 #[55, 60, 65, 73, 78, 84, 89, 94, 102, 107], 55) := by decide +kernel
theorem dX10_count_56 : decode cX10_count 56 = .ok (.aload_n 0, 1) := by decide +kernel
theorem dX10_count_57 : decode cX10_count 57 = .ok (.getfield 63, 3) := by decide +kernel
theorem dX10_count_60 : decode cX10_count 60 = .ok (.ireturn, 1) := by decide +kernel
theorem dX10_count_61 : decode cX10_count 61 = .ok (.aload_n 0, 1) := by decide +kernel
theorem dX10_count_62 : decode cX10_count 62 = .ok (.getfield 96, 3) := by decide +kernel
theorem dX10_count_65 : decode cX10_count 65 = .ok (.ireturn, 1) := by decide +kernel
theorem dX10_count_66 : decode cX10_count 66 = .ok (.aload_n 0, 1) := by decide +kernel
theorem dX10_count_67 : decode cX10_count 67 = .ok (.getfield 19, 3) := by decide +kernel
theorem dX10_count_70 : decode cX10_count 70 = .ok (.bipush 19, 2) := by decide +kernel
theorem dX10_count_72 : decode cX10_count 72 = .ok (.iaload, 1) := by decide +kernel
theorem dX10_count_73 : decode cX10_count 73 = .ok (.ireturn, 1) := by decide +kernel
theorem dX10_count_74 : decode cX10_count 74 = .ok (.aload_n 0, 1) := by decide +kernel
theorem dX10_count_75 : decode cX10_count 75 = .ok (.invokevirtual 226, 3) := by decide +kernel
theorem dX10_count_78 : decode cX10_count 78 = .ok (.ireturn, 1) := by decide +kernel
theorem dX10_count_79 : decode cX10_count 79 = .ok (.aload_n 0, 1) := by decide +kernel
theorem dX10_count_80 : decode cX10_count 80 = .ok (.iconst 0, 1) := by decide +kernel
theorem dX10_count_81 : decode cX10_count 81 = .ok (.invokevirtual 137, 3) := by decide +kernel
theorem dX10_count_84 : decode cX10_count 84 = .ok (.ireturn, 1) := by decide +kernel
theorem dX10_count_85 : decode cX10_count 85 = .ok (.aload_n 0, 1) := by decide +kernel
theorem dX10_count_86 : decode cX10_count 86 = .ok (.invokevirtual 229, 3) := by decide +kernel
theorem dX10_count_89 : decode cX10_count 89 = .ok (.ireturn, 1) := by decide +kernel
theorem dX10_count_90 : decode cX10_count 90 = .ok (.aload_n 0, 1) := by decide +kernel
theorem dX10_count_91 : decode cX10_count 91 = .ok (.invokevirtual 232, 3) := by decide +kernel
theorem dX10_count_94 : decode cX10_count 94 = .ok (.ireturn, 1) := by decide +kernel
theorem dX10_count_95 : decode cX10_count 95 = .ok (.aload_n 0, 1) := by decide +kernel
theorem dX10_count_96 : decode cX10_count 96 = .ok (.getfield 19, 3) := by decide +kernel
theorem dX10_count_99 : decode cX10_count 99 = .ok (.bipush 18, 2) := by decide +kernel
theorem dX10_count_101 : decode cX10_count 101 = .ok (.iaload, 1) := by decide +kernel
theorem dX10_count_102 : decode cX10_count 102 = .ok (.ireturn, 1) := by decide +kernel
theorem dX10_count_103 : decode cX10_count 103 = .ok (.aload_n 0, 1) := by decide +kernel
theorem dX10_count_104 : decode cX10_count 104 = .ok (.getfield 99, 3) := by decide +kernel
theorem dX10_count_107 : decode cX10_count 107 = .ok (.ireturn, 1) := by decide +kernel
theorem dX10_count_108 : decode cX10_count 108 = .ok (.aload_n 0, 1) := by decide +kernel
theorem dX10_count_109 : decode cX10_count 109 = .ok (.getfield 187, 3) := by decide +kernel
theorem dX10_count_112 : decode cX10_count 112 = .ok (.ireturn, 1) := by decide +kernel
theorem dX10_count_113 : decode cX10_count 113 = .ok (.bipush (-2), 2) := by decide +kernel
theorem dX10_count_115 : decode cX10_count 115 = .ok (.ireturn, 1) := by decide +kernel

theorem dX0_init_0 : decode cX0_init 0 = .ok (.aload_n 0, 1) := by decide +kernel
theorem dX0_init_1 : decode cX0_init 1 = .ok (.invokespecial 3, 3) := by decide +kernel
theorem dX0_init_4 : decode cX0_init 4 = .ok (.aload_n 0, 1) := by decide +kernel
theorem dX0_init_5 : decode cX0_init 5 = .ok (.bipush 14, 2) := by decide +kernel
theorem dX0_init_7 : decode cX0_init 7 = .ok (.anewarray 9, 3) := by decide +kernel
theorem dX0_init_10 : decode cX0_init 10 = .ok (.putfield 11, 3) := by decide +kernel
theorem dX0_init_13 : decode cX0_init 13 = .ok (.aload_n 0, 1) := by decide +kernel
theorem dX0_init_14 : decode cX0_init 14 = .ok (.iconst 0, 1) := by decide +kernel
theorem dX0_init_15 : decode cX0_init 15 = .ok (.putfield 17, 3) := by decide +kernel
theorem dX0_init_18 : decode cX0_init 18 = .ok (.aload_n 0, 1) := by decide +kernel
theorem dX0_init_19 : decode cX0_init 19 = .ok (.iconst 0, 1) := by decide +kernel
theorem dX0_init_20 : decode cX0_init 20 = .ok (.putfield 21, 3) := by decide +kernel
theorem dX0_init_23 : decode cX0_init 23 = .ok (.iconst 0, 1) := by decide +kernel
theorem dX0_init_24 : decode cX0_init 24 = .ok (.istore_n 2, 1) := by decide +kernel
theorem dX0_init_25 : decode cX0_init 25 = .ok (.iload_n 2, 1) := by decide +kernel
theorem dX0_init_26 : decode cX0_init 26 = .ok (.aload_n 0, 1) := by decide +kernel
theorem dX0_init_27 : decode cX0_init 27 = .ok (.getfield 11, 3) := by decide +kernel
theorem dX0_init_30 : decode cX0_init 30 = .ok (.arraylength, 1) := by decide +kernel
theorem dX0_init_31 : decode cX0_init 31 = .ok (.if_icmp .ge 23, 3) := by decide +kernel
theorem dX0_init_34 : decode cX0_init 34 = .ok (.aload_n 0, 1) := by decide +kernel
theorem dX0_init_35 : decode cX0_init 35 = .ok (.getfield 11, 3) := by decide +kernel
theorem dX0_init_38 : decode cX0_init 38 = .ok (.iload_n 2, 1) := by decide +kernel
theorem dX0_init_39 : decode cX0_init 39 = .ok (.new 9, 3) := by decide +kernel
theorem dX0_init_42 : decode cX0_init 42 = .ok (.dup, 1) := by decide +kernel
theorem dX0_init_43 : decode cX0_init 43 = .ok (.aload_n 1, 1) := by decide +kernel
theorem dX0_init_44 : decode cX0_init 44 = .ok (.invokespecial 24, 3) := by decide +kernel
theorem dX0_init_47 : decode cX0_init 47 = .ok (.aastore, 1) := by decide +kernel
theorem dX0_init_48 : decode cX0_init 48 = .ok (.iinc 2 1, 3) := by decide +kernel
theorem dX0_init_51 : decode cX0_init 51 = .ok (.goto (-26), 3) := by decide +kernel
theorem dX0_init_54 : decode cX0_init 54 = .ok (.return_, 1) := by decide +kernel
theorem dX0_forgetAll_0 : decode cX0_forgetAll 0 = .ok (.aload_n 0, 1) := by decide +kernel
theorem dX0_forgetAll_1 : decode cX0_forgetAll 1 = .ok (.iconst 0, 1) := by decide +kernel
theorem dX0_forgetAll_2 : decode cX0_forgetAll 2 = .ok (.putfield 21, 3) := by decide +kernel
theorem dX0_forgetAll_5 : decode cX0_forgetAll 5 = .ok (.return_, 1) := by decide +kernel
theorem dX0_remember_0 : decode cX0_remember 0 = .ok (.aload_n 0, 1) := by decide +kernel
theorem dX0_remember_1 : decode cX0_remember 1 = .ok (.getfield 11, 3) := by decide +kernel
theorem dX0_remember_4 : decode cX0_remember 4 = .ok (.aload_n 0, 1) := by decide +kernel
theorem dX0_remember_5 : decode cX0_remember 5 = .ok (.getfield 17, 3) := by decide +kernel
theorem dX0_remember_8 : decode cX0_remember 8 = .ok (.aaload, 1) := by decide +kernel
theorem dX0_remember_9 : decode cX0_remember 9 = .ok (.aload_n 1, 1) := by decide +kernel
theorem dX0_remember_10 : decode cX0_remember 10 = .ok (.invokevirtual 27, 3) := by decide +kernel
theorem dX0_remember_13 : decode cX0_remember 13 = .ok (.aload_n 0, 1) := by decide +kernel
theorem dX0_remember_14 : decode cX0_remember 14 = .ok (.aload_n 0, 1) := by decide +kernel
theorem dX0_remember_15 : decode cX0_remember 15 = .ok (.getfield 17, 3) := by decide +kernel
theorem dX0_remember_18 : decode cX0_remember 18 = .ok (.iconst 1, 1) := by decide +kernel
theorem dX0_remember_19 : decode cX0_remember 19 = .ok (.iadd, 1) := by decide +kernel
theorem dX0_remember_20 : decode cX0_remember 20 = .ok (.bipush 14, 2) := by decide +kernel
theorem dX0_remember_22 : decode cX0_remember 22 = .ok (.if_icmp .ge 12, 3) := by decide +kernel
theorem dX0_remember_25 : decode cX0_remember 25 = .ok (.aload_n 0, 1) := by decide +kernel
theorem dX0_remember_26 : decode cX0_remember 26 = .ok (.getfield 17, 3) := by decide +kernel
theorem dX0_remember_29 : decode cX0_remember 29 = .ok (.iconst 1, 1) := by decide +kernel
theorem dX0_remember_30 : decode cX0_remember 30 = .ok (.iadd, 1) := by decide +kernel
theorem dX0_remember_31 : decode cX0_remember 31 = .ok (.goto 4, 3) := by decide +kernel
theorem dX0_remember_34 : decode cX0_remember 34 = .ok (.iconst 0, 1) := by decide +kernel
theorem dX0_remember_35 : decode cX0_remember 35 = .ok (.putfield 17, 3) := by decide +kernel
theorem dX0_remember_38 : decode cX0_remember 38 = .ok (.aload_n 0, 1) := by decide +kernel
theorem dX0_remember_39 : decode cX0_remember 39 = .ok (.aload_n 0, 1) := by decide +kernel
theorem dX0_remember_40 : decode cX0_remember 40 = .ok (.getfield 21, 3) := by decide +kernel
theorem dX0_remember_43 : decode cX0_remember 43 = .ok (.iconst 1, 1) := by decide +kernel
theorem dX0_remember_44 : decode cX0_remember 44 = .ok (.iadd, 1) := by decide +kernel
theorem dX0_remember_45 : decode cX0_remember 45 = .ok (.bipush 14, 2) := by decide +kernel
theorem dX0_remember_47 : decode cX0_remember 47 = .ok (.invokestatic 31, 3) := by decide +kernel
theorem dX0_remember_50 : decode cX0_remember 50 = .ok (.putfield 21, 3) := by decide +kernel
theorem dX0_remember_53 : decode cX0_remember 53 = .ok (.return_, 1) := by decide +kernel
theorem dX0_giveBack_0 : decode cX0_giveBack 0 = .ok (.aload_n 0, 1) := by decide +kernel
theorem dX0_giveBack_1 : decode cX0_giveBack 1 = .ok (.getfield 21, 3) := by decide +kernel
theorem dX0_giveBack_4 : decode cX0_giveBack 4 = .ok (.ifCond .ne 5, 3) := by decide +kernel
theorem dX0_giveBack_7 : decode cX0_giveBack 7 = .ok (.iconst 0, 1) := by decide +kernel
theorem dX0_giveBack_8 : decode cX0_giveBack 8 = .ok (.ireturn, 1) := by decide +kernel
theorem dX0_giveBack_9 : decode cX0_giveBack 9 = .ok (.aload_n 0, 1) := by decide +kernel
theorem dX0_giveBack_10 : decode cX0_giveBack 10 = .ok (.aload_n 0, 1) := by decide +kernel
theorem dX0_giveBack_11 : decode cX0_giveBack 11 = .ok (.getfield 17, 3) := by decide +kernel
theorem dX0_giveBack_14 : decode cX0_giveBack 14 = .ok (.ifCond .le 12, 3) := by decide +kernel
theorem dX0_giveBack_17 : decode cX0_giveBack 17 = .ok (.aload_n 0, 1) := by decide +kernel
theorem dX0_giveBack_18 : decode cX0_giveBack 18 = .ok (.getfield 17, 3) := by decide +kernel
theorem dX0_giveBack_21 : decode cX0_giveBack 21 = .ok (.iconst 1, 1) := by decide +kernel
theorem dX0_giveBack_22 : decode cX0_giveBack 22 = .ok (.isub, 1) := by decide +kernel
theorem dX0_giveBack_23 : decode cX0_giveBack 23 = .ok (.goto 5, 3) := by decide +kernel
theorem dX0_giveBack_26 : decode cX0_giveBack 26 = .ok (.bipush 13, 2) := by decide +kernel
theorem dX0_giveBack_28 : decode cX0_giveBack 28 = .ok (.putfield 17, 3) := by decide +kernel
theorem dX0_giveBack_31 : decode cX0_giveBack 31 = .ok (.aload_n 0, 1) := by decide +kernel
theorem dX0_giveBack_32 : decode cX0_giveBack 32 = .ok (.dup, 1) := by decide +kernel
theorem dX0_giveBack_33 : decode cX0_giveBack 33 = .ok (.getfield 21, 3) := by decide +kernel
theorem dX0_giveBack_36 : decode cX0_giveBack 36 = .ok (.iconst 1, 1) := by decide +kernel
theorem dX0_giveBack_37 : decode cX0_giveBack 37 = .ok (.isub, 1) := by decide +kernel
theorem dX0_giveBack_38 : decode cX0_giveBack 38 = .ok (.putfield 21, 3) := by decide +kernel
theorem dX0_giveBack_41 : decode cX0_giveBack 41 = .ok (.aload_n 1, 1) := by decide +kernel
theorem dX0_giveBack_42 : decode cX0_giveBack 42 = .ok (.aload_n 0, 1) := by decide +kernel
theorem dX0_giveBack_43 : decode cX0_giveBack 43 = .ok (.getfield 11, 3) := by decide +kernel
theorem dX0_giveBack_46 : decode cX0_giveBack 46 = .ok (.aload_n 0, 1) := by decide +kernel
theorem dX0_giveBack_47 : decode cX0_giveBack 47 = .ok (.getfield 17, 3) := by decide +kernel
theorem dX0_giveBack_50 : decode cX0_giveBack 50 = .ok (.aaload, 1) := by decide +kernel
theorem dX0_giveBack_51 : decode cX0_giveBack 51 = .ok (.invokevirtual 27, 3) := by decide +kernel
theorem dX0_giveBack_54 : decode cX0_giveBack 54 = .ok (.iconst 1, 1) := by decide +kernel
theorem dX0_giveBack_55 : decode cX0_giveBack 55 = .ok (.ireturn, 1) := by decide +kernel
theorem dX1_init_0 : decode cX1_init 0 = .ok (.aload_n 0, 1) := by decide +kernel
theorem dX1_init_1 : decode cX1_init 1 = .ok (.invokespecial 3, 3) := by decide +kernel
theorem dX1_init_4 : decode cX1_init 4 = .ok (.aload_n 0, 1) := by decide +kernel
theorem dX1_init_5 : decode cX1_init 5 = .ok (.bipush 64, 2) := by decide +kernel
theorem dX1_init_7 : decode cX1_init 7 = .ok (.newarray .int, 2) := by decide +kernel
theorem dX1_init_9 : decode cX1_init 9 = .ok (.putfield 9, 3) := by decide +kernel
theorem dX1_init_12 : decode cX1_init 12 = .ok (.aload_n 0, 1) := by decide +kernel
theorem dX1_init_13 : decode cX1_init 13 = .ok (.bipush 36, 2) := by decide +kernel
theorem dX1_init_15 : decode cX1_init 15 = .ok (.newarray .int, 2) := by decide +kernel
theorem dX1_init_17 : decode cX1_init 17 = .ok (.putfield 15, 3) := by decide +kernel
theorem dX1_init_20 : decode cX1_init 20 = .ok (.aload_n 0, 1) := by decide +kernel
theorem dX1_init_21 : decode cX1_init 21 = .ok (.bipush 36, 2) := by decide +kernel
theorem dX1_init_23 : decode cX1_init 23 = .ok (.newarray .int, 2) := by decide +kernel
theorem dX1_init_25 : decode cX1_init 25 = .ok (.putfield 18, 3) := by decide +kernel
theorem dX1_init_28 : decode cX1_init 28 = .ok (.aload_n 0, 1) := by decide +kernel
theorem dX1_init_29 : decode cX1_init 29 = .ok (.aload_n 1, 1) := by decide +kernel
theorem dX1_init_30 : decode cX1_init 30 = .ok (.putfield 21, 3) := by decide +kernel
theorem dX1_init_33 : decode cX1_init 33 = .ok (.aload_n 0, 1) := by decide +kernel
theorem dX1_init_34 : decode cX1_init 34 = .ok (.aload_n 2, 1) := by decide +kernel
theorem dX1_init_35 : decode cX1_init 35 = .ok (.putfield 25, 3) := by decide +kernel
theorem dX1_init_38 : decode cX1_init 38 = .ok (.aload_n 0, 1) := by decide +kernel
theorem dX1_init_39 : decode cX1_init 39 = .ok (.aload_n 3, 1) := by decide +kernel
theorem dX1_init_40 : decode cX1_init 40 = .ok (.putfield 29, 3) := by decide +kernel
theorem dX1_init_43 : decode cX1_init 43 = .ok (.return_, 1) := by decide +kernel
theorem dX1_richnessOfSome_0 : decode cX1_richnessOfSome 0 = .ok (.aload_n 0, 1) := by decide +kernel
theorem dX1_richnessOfSome_1 : decode cX1_richnessOfSome 1 = .ok (.getfield 29, 3) := by decide +kernel
theorem dX1_richnessOfSome_4 : decode cX1_richnessOfSome 4 = .ok (.aload_n 0, 1) := by decide +kernel
theorem dX1_richnessOfSome_5 : decode cX1_richnessOfSome 5 = .ok (.getfield 25, 3) := by decide +kernel
theorem dX1_richnessOfSome_8 : decode cX1_richnessOfSome 8 = .ok (.invokevirtual 32, 3) := by decide +kernel
theorem dX1_richnessOfSome_11 : decode cX1_richnessOfSome 11 = .ok (.aload_n 0, 1) := by decide +kernel
theorem dX1_richnessOfSome_12 : decode cX1_richnessOfSome 12 = .ok (.getfield 29, 3) := by decide +kernel
theorem dX1_richnessOfSome_15 : decode cX1_richnessOfSome 15 = .ok (.iload_n 1, 1) := by decide +kernel
theorem dX1_richnessOfSome_16 : decode cX1_richnessOfSome 16 = .ok (.putfield 38, 3) := by decide +kernel
theorem dX1_richnessOfSome_19 : decode cX1_richnessOfSome 19 = .ok (.aload_n 0, 1) := by decide +kernel
theorem dX1_richnessOfSome_20 : decode cX1_richnessOfSome 20 = .ok (.getfield 29, 3) := by decide +kernel
theorem dX1_richnessOfSome_23 : decode cX1_richnessOfSome 23 = .ok (.iload_n 2, 1) := by decide +kernel
theorem dX1_richnessOfSome_24 : decode cX1_richnessOfSome 24 = .ok (.invokevirtual 42, 3) := by decide +kernel
theorem dX1_richnessOfSome_27 : decode cX1_richnessOfSome 27 = .ok (.aload_n 0, 1) := by decide +kernel
theorem dX1_richnessOfSome_28 : decode cX1_richnessOfSome 28 = .ok (.getfield 29, 3) := by decide +kernel
theorem dX1_richnessOfSome_31 : decode cX1_richnessOfSome 31 = .ok (.invokevirtual 46, 3) := by decide +kernel
theorem dX1_richnessOfSome_34 : decode cX1_richnessOfSome 34 = .ok (.ireturn, 1) := by decide +kernel
theorem dX1_meanGain_0 : decode cX1_meanGain 0 = .ok (.aload_n 0, 1) := by decide +kernel
theorem dX1_meanGain_1 : decode cX1_meanGain 1 = .ok (.getfield 21, 3) := by decide +kernel
theorem dX1_meanGain_4 : decode cX1_meanGain 4 = .ok (.invokevirtual 50, 3) := by decide +kernel
theorem dX1_meanGain_7 : decode cX1_meanGain 7 = .ok (.istore_n 3, 1) := by decide +kernel
theorem dX1_meanGain_8 : decode cX1_meanGain 8 = .ok (.iconst 0, 1) := by decide +kernel
theorem dX1_meanGain_9 : decode cX1_meanGain 9 = .ok (.istore 4, 2) := by decide +kernel
theorem dX1_meanGain_11 : decode cX1_meanGain 11 = .ok (.iload 4, 2) := by decide +kernel
theorem dX1_meanGain_13 : decode cX1_meanGain 13 = .ok (.iload_n 3, 1) := by decide +kernel
theorem dX1_meanGain_14 : decode cX1_meanGain 14 = .ok (.if_icmp .gt 34, 3) := by decide +kernel
theorem dX1_meanGain_17 : decode cX1_meanGain 17 = .ok (.iload 4, 2) := by decide +kernel
theorem dX1_meanGain_19 : decode cX1_meanGain 19 = .ok (.aload_n 0, 1) := by decide +kernel
theorem dX1_meanGain_20 : decode cX1_meanGain 20 = .ok (.getfield 9, 3) := by decide +kernel
theorem dX1_meanGain_23 : decode cX1_meanGain 23 = .ok (.arraylength, 1) := by decide +kernel
theorem dX1_meanGain_24 : decode cX1_meanGain 24 = .ok (.if_icmp .ge 24, 3) := by decide +kernel
theorem dX1_meanGain_27 : decode cX1_meanGain 27 = .ok (.aload_n 0, 1) := by decide +kernel
theorem dX1_meanGain_28 : decode cX1_meanGain 28 = .ok (.getfield 9, 3) := by decide +kernel
theorem dX1_meanGain_31 : decode cX1_meanGain 31 = .ok (.iload 4, 2) := by decide +kernel
theorem dX1_meanGain_33 : decode cX1_meanGain 33 = .ok (.aload_n 0, 1) := by decide +kernel
theorem dX1_meanGain_34 : decode cX1_meanGain 34 = .ok (.iload 4, 2) := by decide +kernel
theorem dX1_meanGain_36 : decode cX1_meanGain 36 = .ok (.bipush 6, 2) := by decide +kernel
theorem dX1_meanGain_38 : decode cX1_meanGain 38 = .ok (.invokevirtual 55, 3) := by decide +kernel
theorem dX1_meanGain_41 : decode cX1_meanGain 41 = .ok (.iastore, 1) := by decide +kernel
theorem dX1_meanGain_42 : decode cX1_meanGain 42 = .ok (.iinc 4 1, 3) := by decide +kernel
theorem dX1_meanGain_45 : decode cX1_meanGain 45 = .ok (.goto (-34), 3) := by decide +kernel
theorem dX1_meanGain_48 : decode cX1_meanGain 48 = .ok (.iconst 0, 1) := by decide +kernel
theorem dX1_meanGain_49 : decode cX1_meanGain 49 = .ok (.istore 4, 2) := by decide +kernel
theorem dX1_meanGain_51 : decode cX1_meanGain 51 = .ok (.iconst 0, 1) := by decide +kernel
theorem dX1_meanGain_52 : decode cX1_meanGain 52 = .ok (.istore 5, 2) := by decide +kernel
theorem dX1_meanGain_54 : decode cX1_meanGain 54 = .ok (.iload 5, 2) := by decide +kernel
theorem dX1_meanGain_56 : decode cX1_meanGain 56 = .ok (.iload_n 3, 1) := by decide +kernel
theorem dX1_meanGain_57 : decode cX1_meanGain 57 = .ok (.if_icmp .gt 69, 3) := by decide +kernel
theorem dX1_meanGain_60 : decode cX1_meanGain 60 = .ok (.iload 5, 2) := by decide +kernel
theorem dX1_meanGain_62 : decode cX1_meanGain 62 = .ok (.aload_n 0, 1) := by decide +kernel
theorem dX1_meanGain_63 : decode cX1_meanGain 63 = .ok (.getfield 9, 3) := by decide +kernel
theorem dX1_meanGain_66 : decode cX1_meanGain 66 = .ok (.arraylength, 1) := by decide +kernel
theorem dX1_meanGain_67 : decode cX1_meanGain 67 = .ok (.if_icmp .ge 59, 3) := by decide +kernel
theorem dX1_meanGain_70 : decode cX1_meanGain 70 = .ok (.iload 5, 2) := by decide +kernel
theorem dX1_meanGain_72 : decode cX1_meanGain 72 = .ok (.iload_n 1, 1) := by decide +kernel
theorem dX1_meanGain_73 : decode cX1_meanGain 73 = .ok (.ishr, 1) := by decide +kernel
theorem dX1_meanGain_74 : decode cX1_meanGain 74 = .ok (.iconst 1, 1) := by decide +kernel
theorem dX1_meanGain_75 : decode cX1_meanGain 75 = .ok (.iand, 1) := by decide +kernel
theorem dX1_meanGain_76 : decode cX1_meanGain 76 = .ok (.iconst 1, 1) := by decide +kernel
theorem dX1_meanGain_77 : decode cX1_meanGain 77 = .ok (.if_icmp .ne 43, 3) := by decide +kernel
theorem dX1_meanGain_80 : decode cX1_meanGain 80 = .ok (.aload_n 0, 1) := by decide +kernel
theorem dX1_meanGain_81 : decode cX1_meanGain 81 = .ok (.getfield 9, 3) := by decide +kernel
theorem dX1_meanGain_84 : decode cX1_meanGain 84 = .ok (.iload 5, 2) := by decide +kernel
theorem dX1_meanGain_86 : decode cX1_meanGain 86 = .ok (.iaload, 1) := by decide +kernel
theorem dX1_meanGain_87 : decode cX1_meanGain 87 = .ok (.aload_n 0, 1) := by decide +kernel
theorem dX1_meanGain_88 : decode cX1_meanGain 88 = .ok (.getfield 9, 3) := by decide +kernel
theorem dX1_meanGain_91 : decode cX1_meanGain 91 = .ok (.iload 5, 2) := by decide +kernel
theorem dX1_meanGain_93 : decode cX1_meanGain 93 = .ok (.iconst 1, 1) := by decide +kernel
theorem dX1_meanGain_94 : decode cX1_meanGain 94 = .ok (.iload_n 1, 1) := by decide +kernel
theorem dX1_meanGain_95 : decode cX1_meanGain 95 = .ok (.ishl, 1) := by decide +kernel
theorem dX1_meanGain_96 : decode cX1_meanGain 96 = .ok (.iconst (-1), 1) := by decide +kernel
theorem dX1_meanGain_97 : decode cX1_meanGain 97 = .ok (.ixor, 1) := by decide +kernel
theorem dX1_meanGain_98 : decode cX1_meanGain 98 = .ok (.iand, 1) := by decide +kernel
theorem dX1_meanGain_99 : decode cX1_meanGain 99 = .ok (.iaload, 1) := by decide +kernel
theorem dX1_meanGain_100 : decode cX1_meanGain 100 = .ok (.isub, 1) := by decide +kernel
theorem dX1_meanGain_101 : decode cX1_meanGain 101 = .ok (.istore 6, 2) := by decide +kernel
theorem dX1_meanGain_103 : decode cX1_meanGain 103 = .ok (.iload 4, 2) := by decide +kernel
theorem dX1_meanGain_105 : decode cX1_meanGain 105 = .ok (.iload 6, 2) := by decide +kernel
theorem dX1_meanGain_107 : decode cX1_meanGain 107 = .ok (.aload_n 0, 1) := by decide +kernel
theorem dX1_meanGain_108 : decode cX1_meanGain 108 = .ok (.iload 5, 2) := by decide +kernel
theorem dX1_meanGain_110 : decode cX1_meanGain 110 = .ok (.invokestatic 59, 3) := by decide +kernel
theorem dX1_meanGain_113 : decode cX1_meanGain 113 = .ok (.invokevirtual 65, 3) := by decide +kernel
theorem dX1_meanGain_116 : decode cX1_meanGain 116 = .ok (.imul, 1) := by decide +kernel
theorem dX1_meanGain_117 : decode cX1_meanGain 117 = .ok (.iadd, 1) := by decide +kernel
theorem dX1_meanGain_118 : decode cX1_meanGain 118 = .ok (.istore 4, 2) := by decide +kernel
theorem dX1_meanGain_120 : decode cX1_meanGain 120 = .ok (.iinc 5 1, 3) := by decide +kernel
theorem dX1_meanGain_123 : decode cX1_meanGain 123 = .ok (.goto (-69), 3) := by decide +kernel
theorem dX1_meanGain_126 : decode cX1_meanGain 126 = .ok (.iload 4, 2) := by decide +kernel
theorem dX1_meanGain_128 : decode cX1_meanGain 128 = .ok (.aload_n 0, 1) := by decide +kernel
theorem dX1_meanGain_129 : decode cX1_meanGain 129 = .ok (.getfield 21, 3) := by decide +kernel
theorem dX1_meanGain_132 : decode cX1_meanGain 132 = .ok (.getfield 68, 3) := by decide +kernel
theorem dX1_meanGain_135 : decode cX1_meanGain 135 = .ok (.invokestatic 71, 3) := by decide +kernel
theorem dX1_meanGain_138 : decode cX1_meanGain 138 = .ok (.iload_n 2, 1) := by decide +kernel
theorem dX1_meanGain_139 : decode cX1_meanGain 139 = .ok (.invokestatic 74, 3) := by decide +kernel
theorem dX1_meanGain_142 : decode cX1_meanGain 142 = .ok (.ireturn, 1) := by decide +kernel
theorem dX1_ordersOf_0 : decode cX1_ordersOf 0 = .ok (.iload_n 1, 1) := by decide +kernel
theorem dX1_ordersOf_1 : decode cX1_ordersOf 1 = .ok (.iconst 1, 1) := by decide +kernel
theorem dX1_ordersOf_2 : decode cX1_ordersOf 2 = .ok (.isub, 1) := by decide +kernel
theorem dX1_ordersOf_3 : decode cX1_ordersOf 3 = .ok (.invokestatic 71, 3) := by decide +kernel
theorem dX1_ordersOf_6 : decode cX1_ordersOf 6 = .ok (.aload_n 0, 1) := by decide +kernel
theorem dX1_ordersOf_7 : decode cX1_ordersOf 7 = .ok (.getfield 21, 3) := by decide +kernel
theorem dX1_ordersOf_10 : decode cX1_ordersOf 10 = .ok (.getfield 68, 3) := by decide +kernel
theorem dX1_ordersOf_13 : decode cX1_ordersOf 13 = .ok (.iload_n 1, 1) := by decide +kernel
theorem dX1_ordersOf_14 : decode cX1_ordersOf 14 = .ok (.isub, 1) := by decide +kernel
theorem dX1_ordersOf_15 : decode cX1_ordersOf 15 = .ok (.invokestatic 71, 3) := by decide +kernel
theorem dX1_ordersOf_18 : decode cX1_ordersOf 18 = .ok (.imul, 1) := by decide +kernel
theorem dX1_ordersOf_19 : decode cX1_ordersOf 19 = .ok (.ireturn, 1) := by decide +kernel
theorem dX1_factorial_0 : decode cX1_factorial 0 = .ok (.iload_n 0, 1) := by decide +kernel
theorem dX1_factorial_1 : decode cX1_factorial 1 = .ok (.ifCond .lt 19, 3) := by decide +kernel
theorem dX1_factorial_4 : decode cX1_factorial 4 = .ok (.iload_n 0, 1) := by decide +kernel
theorem dX1_factorial_5 : decode cX1_factorial 5 = .ok (.getstatic 78, 3) := by decide +kernel
theorem dX1_factorial_8 : decode cX1_factorial 8 = .ok (.arraylength, 1) := by decide +kernel
theorem dX1_factorial_9 : decode cX1_factorial 9 = .ok (.if_icmp .ge 11, 3) := by decide +kernel
theorem dX1_factorial_12 : decode cX1_factorial 12 = .ok (.getstatic 78, 3) := by decide +kernel
theorem dX1_factorial_15 : decode cX1_factorial 15 = .ok (.iload_n 0, 1) := by decide +kernel
theorem dX1_factorial_16 : decode cX1_factorial 16 = .ok (.iaload, 1) := by decide +kernel
theorem dX1_factorial_17 : decode cX1_factorial 17 = .ok (.goto 4, 3) := by decide +kernel
theorem dX1_factorial_20 : decode cX1_factorial 20 = .ok (.iconst 1, 1) := by decide +kernel
theorem dX1_factorial_21 : decode cX1_factorial 21 = .ok (.ireturn, 1) := by decide +kernel
theorem dX1_restingPairs_0 : decode cX1_restingPairs 0 = .ok (.iconst 0, 1) := by decide +kernel
theorem dX1_restingPairs_1 : decode cX1_restingPairs 1 = .ok (.istore 4, 2) := by decide +kernel
theorem dX1_restingPairs_3 : decode cX1_restingPairs 3 = .ok (.iload 4, 2) := by decide +kernel
theorem dX1_restingPairs_5 : decode cX1_restingPairs 5 = .ok (.aload_n 0, 1) := by decide +kernel
theorem dX1_restingPairs_6 : decode cX1_restingPairs 6 = .ok (.getfield 21, 3) := by decide +kernel
theorem dX1_restingPairs_9 : decode cX1_restingPairs 9 = .ok (.getfield 68, 3) := by decide +kernel
theorem dX1_restingPairs_12 : decode cX1_restingPairs 12 = .ok (.if_icmp .ge 40, 3) := by decide +kernel
theorem dX1_restingPairs_15 : decode cX1_restingPairs 15 = .ok (.iconst 0, 1) := by decide +kernel
theorem dX1_restingPairs_16 : decode cX1_restingPairs 16 = .ok (.istore 5, 2) := by decide +kernel
theorem dX1_restingPairs_18 : decode cX1_restingPairs 18 = .ok (.iload 5, 2) := by decide +kernel
theorem dX1_restingPairs_20 : decode cX1_restingPairs 20 = .ok (.aload_n 0, 1) := by decide +kernel
theorem dX1_restingPairs_21 : decode cX1_restingPairs 21 = .ok (.getfield 21, 3) := by decide +kernel
theorem dX1_restingPairs_24 : decode cX1_restingPairs 24 = .ok (.getfield 68, 3) := by decide +kernel
theorem dX1_restingPairs_27 : decode cX1_restingPairs 27 = .ok (.if_icmp .ge 19, 3) := by decide +kernel
theorem dX1_restingPairs_30 : decode cX1_restingPairs 30 = .ok (.aload_n 0, 1) := by decide +kernel
theorem dX1_restingPairs_31 : decode cX1_restingPairs 31 = .ok (.iload_n 1, 1) := by decide +kernel
theorem dX1_restingPairs_32 : decode cX1_restingPairs 32 = .ok (.iload_n 2, 1) := by decide +kernel
theorem dX1_restingPairs_33 : decode cX1_restingPairs 33 = .ok (.iload 4, 2) := by decide +kernel
theorem dX1_restingPairs_35 : decode cX1_restingPairs 35 = .ok (.iload 5, 2) := by decide +kernel
theorem dX1_restingPairs_37 : decode cX1_restingPairs 37 = .ok (.invokevirtual 81, 3) := by decide +kernel
theorem dX1_restingPairs_40 : decode cX1_restingPairs 40 = .ok (.iinc 5 1, 3) := by decide +kernel
theorem dX1_restingPairs_43 : decode cX1_restingPairs 43 = .ok (.goto (-25), 3) := by decide +kernel
theorem dX1_restingPairs_46 : decode cX1_restingPairs 46 = .ok (.iinc 4 1, 3) := by decide +kernel
theorem dX1_restingPairs_49 : decode cX1_restingPairs 49 = .ok (.goto (-46), 3) := by decide +kernel
theorem dX1_restingPairs_52 : decode cX1_restingPairs 52 = .ok (.iconst 0, 1) := by decide +kernel
theorem dX1_restingPairs_53 : decode cX1_restingPairs 53 = .ok (.istore 4, 2) := by decide +kernel
theorem dX1_restingPairs_55 : decode cX1_restingPairs 55 = .ok (.bipush (-9), 2) := by decide +kernel
theorem dX1_restingPairs_57 : decode cX1_restingPairs 57 = .ok (.istore 5, 2) := by decide +kernel
theorem dX1_restingPairs_59 : decode cX1_restingPairs 59 = .ok (.iconst 0, 1) := by decide +kernel
theorem dX1_restingPairs_60 : decode cX1_restingPairs 60 = .ok (.istore 6, 2) := by decide +kernel
theorem dX1_restingPairs_62 : decode cX1_restingPairs 62 = .ok (.iload 6, 2) := by decide +kernel
theorem dX1_restingPairs_64 : decode cX1_restingPairs 64 = .ok (.aload_n 0, 1) := by decide +kernel
theorem dX1_restingPairs_65 : decode cX1_restingPairs 65 = .ok (.getfield 21, 3) := by decide +kernel
theorem dX1_restingPairs_68 : decode cX1_restingPairs 68 = .ok (.getfield 68, 3) := by decide +kernel
theorem dX1_restingPairs_71 : decode cX1_restingPairs 71 = .ok (.if_icmp .ge 64, 3) := by decide +kernel
theorem dX1_restingPairs_74 : decode cX1_restingPairs 74 = .ok (.iconst 0, 1) := by decide +kernel
theorem dX1_restingPairs_75 : decode cX1_restingPairs 75 = .ok (.istore 7, 2) := by decide +kernel
theorem dX1_restingPairs_77 : decode cX1_restingPairs 77 = .ok (.iload 7, 2) := by decide +kernel
theorem dX1_restingPairs_79 : decode cX1_restingPairs 79 = .ok (.aload_n 0, 1) := by decide +kernel
theorem dX1_restingPairs_80 : decode cX1_restingPairs 80 = .ok (.getfield 21, 3) := by decide +kernel
theorem dX1_restingPairs_83 : decode cX1_restingPairs 83 = .ok (.getfield 68, 3) := by decide +kernel
theorem dX1_restingPairs_86 : decode cX1_restingPairs 86 = .ok (.if_icmp .ge 43, 3) := by decide +kernel
theorem dX1_restingPairs_89 : decode cX1_restingPairs 89 = .ok (.aload_n 0, 1) := by decide +kernel
theorem dX1_restingPairs_90 : decode cX1_restingPairs 90 = .ok (.iload 6, 2) := by decide +kernel
theorem dX1_restingPairs_92 : decode cX1_restingPairs 92 = .ok (.iload 7, 2) := by decide +kernel
theorem dX1_restingPairs_94 : decode cX1_restingPairs 94 = .ok (.invokevirtual 85, 3) := by decide +kernel
theorem dX1_restingPairs_97 : decode cX1_restingPairs 97 = .ok (.ifCond .eq 26, 3) := by decide +kernel
theorem dX1_restingPairs_100 : decode cX1_restingPairs 100 = .ok (.iload 4, 2) := by decide +kernel
theorem dX1_restingPairs_102 : decode cX1_restingPairs 102 = .ok (.ifCond .ne 14, 3) := by decide +kernel
theorem dX1_restingPairs_105 : decode cX1_restingPairs 105 = .ok (.bipush 10, 2) := by decide +kernel
theorem dX1_restingPairs_107 : decode cX1_restingPairs 107 = .ok (.iload 6, 2) := by decide +kernel
theorem dX1_restingPairs_109 : decode cX1_restingPairs 109 = .ok (.imul, 1) := by decide +kernel
theorem dX1_restingPairs_110 : decode cX1_restingPairs 110 = .ok (.iload 7, 2) := by decide +kernel
theorem dX1_restingPairs_112 : decode cX1_restingPairs 112 = .ok (.iadd, 1) := by decide +kernel
theorem dX1_restingPairs_113 : decode cX1_restingPairs 113 = .ok (.goto 5, 3) := by decide +kernel
theorem dX1_restingPairs_116 : decode cX1_restingPairs 116 = .ok (.iload 5, 2) := by decide +kernel
theorem dX1_restingPairs_118 : decode cX1_restingPairs 118 = .ok (.istore 5, 2) := by decide +kernel
theorem dX1_restingPairs_120 : decode cX1_restingPairs 120 = .ok (.iinc 4 1, 3) := by decide +kernel
theorem dX1_restingPairs_123 : decode cX1_restingPairs 123 = .ok (.iinc 7 1, 3) := by decide +kernel
theorem dX1_restingPairs_126 : decode cX1_restingPairs 126 = .ok (.goto (-49), 3) := by decide +kernel
theorem dX1_restingPairs_129 : decode cX1_restingPairs 129 = .ok (.iinc 6 1, 3) := by decide +kernel
theorem dX1_restingPairs_132 : decode cX1_restingPairs 132 = .ok (.goto (-70), 3) := by decide +kernel
theorem dX1_restingPairs_135 : decode cX1_restingPairs 135 = .ok (.iload_n 3, 1) := by decide +kernel
theorem dX1_restingPairs_136 : decode cX1_restingPairs 136 = .ok (.ifCond .eq 8, 3) := by decide +kernel
theorem dX1_restingPairs_139 : decode cX1_restingPairs 139 = .ok (.iload 5, 2) := by decide +kernel
theorem dX1_restingPairs_141 : decode cX1_restingPairs 141 = .ok (.goto 5, 3) := by decide +kernel
theorem dX1_restingPairs_144 : decode cX1_restingPairs 144 = .ok (.iload 4, 2) := by decide +kernel
theorem dX1_restingPairs_146 : decode cX1_restingPairs 146 = .ok (.ireturn, 1) := by decide +kernel
theorem dX1_giveAndCount_0 : decode cX1_giveAndCount 0 = .ok (.aload_n 0, 1) := by decide +kernel
theorem dX1_giveAndCount_1 : decode cX1_giveAndCount 1 = .ok (.getfield 29, 3) := by decide +kernel
theorem dX1_giveAndCount_4 : decode cX1_giveAndCount 4 = .ok (.aload_n 0, 1) := by decide +kernel
theorem dX1_giveAndCount_5 : decode cX1_giveAndCount 5 = .ok (.getfield 25, 3) := by decide +kernel
theorem dX1_giveAndCount_8 : decode cX1_giveAndCount 8 = .ok (.invokevirtual 32, 3) := by decide +kernel
theorem dX1_giveAndCount_11 : decode cX1_giveAndCount 11 = .ok (.aload_n 0, 1) := by decide +kernel
theorem dX1_giveAndCount_12 : decode cX1_giveAndCount 12 = .ok (.getfield 29, 3) := by decide +kernel
theorem dX1_giveAndCount_15 : decode cX1_giveAndCount 15 = .ok (.iload_n 3, 1) := by decide +kernel
theorem dX1_giveAndCount_16 : decode cX1_giveAndCount 16 = .ok (.iconst 4, 1) := by decide +kernel
theorem dX1_giveAndCount_17 : decode cX1_giveAndCount 17 = .ok (.invokevirtual 89, 3) := by decide +kernel
theorem dX1_giveAndCount_20 : decode cX1_giveAndCount 20 = .ok (.aload_n 0, 1) := by decide +kernel
theorem dX1_giveAndCount_21 : decode cX1_giveAndCount 21 = .ok (.getfield 29, 3) := by decide +kernel
theorem dX1_giveAndCount_24 : decode cX1_giveAndCount 24 = .ok (.iload 4, 2) := by decide +kernel
theorem dX1_giveAndCount_26 : decode cX1_giveAndCount 26 = .ok (.iconst 4, 1) := by decide +kernel
theorem dX1_giveAndCount_27 : decode cX1_giveAndCount 27 = .ok (.invokevirtual 89, 3) := by decide +kernel
theorem dX1_giveAndCount_30 : decode cX1_giveAndCount 30 = .ok (.aload_n 0, 1) := by decide +kernel
theorem dX1_giveAndCount_31 : decode cX1_giveAndCount 31 = .ok (.getfield 29, 3) := by decide +kernel
theorem dX1_giveAndCount_34 : decode cX1_giveAndCount 34 = .ok (.bipush 6, 2) := by decide +kernel
theorem dX1_giveAndCount_36 : decode cX1_giveAndCount 36 = .ok (.invokevirtual 42, 3) := by decide +kernel
theorem dX1_giveAndCount_39 : decode cX1_giveAndCount 39 = .ok (.aload_n 0, 1) := by decide +kernel
theorem dX1_giveAndCount_40 : decode cX1_giveAndCount 40 = .ok (.getfield 15, 3) := by decide +kernel
theorem dX1_giveAndCount_43 : decode cX1_giveAndCount 43 = .ok (.iload_n 3, 1) := by decide +kernel
theorem dX1_giveAndCount_44 : decode cX1_giveAndCount 44 = .ok (.bipush 6, 2) := by decide +kernel
theorem dX1_giveAndCount_46 : decode cX1_giveAndCount 46 = .ok (.imul, 1) := by decide +kernel
theorem dX1_giveAndCount_47 : decode cX1_giveAndCount 47 = .ok (.iload 4, 2) := by decide +kernel
theorem dX1_giveAndCount_49 : decode cX1_giveAndCount 49 = .ok (.iadd, 1) := by decide +kernel
theorem dX1_giveAndCount_50 : decode cX1_giveAndCount 50 = .ok (.aload_n 0, 1) := by decide +kernel
theorem dX1_giveAndCount_51 : decode cX1_giveAndCount 51 = .ok (.getfield 29, 3) := by decide +kernel
theorem dX1_giveAndCount_54 : decode cX1_giveAndCount 54 = .ok (.aload_n 0, 1) := by decide +kernel
theorem dX1_giveAndCount_55 : decode cX1_giveAndCount 55 = .ok (.getfield 21, 3) := by decide +kernel
theorem dX1_giveAndCount_58 : decode cX1_giveAndCount 58 = .ok (.getfield 93, 3) := by decide +kernel
theorem dX1_giveAndCount_61 : decode cX1_giveAndCount 61 = .ok (.iload_n 1, 1) := by decide +kernel
theorem dX1_giveAndCount_62 : decode cX1_giveAndCount 62 = .ok (.iaload, 1) := by decide +kernel
theorem dX1_giveAndCount_63 : decode cX1_giveAndCount 63 = .ok (.invokevirtual 96, 3) := by decide +kernel
theorem dX1_giveAndCount_66 : decode cX1_giveAndCount 66 = .ok (.iastore, 1) := by decide +kernel
theorem dX1_giveAndCount_67 : decode cX1_giveAndCount 67 = .ok (.aload_n 0, 1) := by decide +kernel
theorem dX1_giveAndCount_68 : decode cX1_giveAndCount 68 = .ok (.getfield 18, 3) := by decide +kernel
theorem dX1_giveAndCount_71 : decode cX1_giveAndCount 71 = .ok (.iload_n 3, 1) := by decide +kernel
theorem dX1_giveAndCount_72 : decode cX1_giveAndCount 72 = .ok (.bipush 6, 2) := by decide +kernel
theorem dX1_giveAndCount_74 : decode cX1_giveAndCount 74 = .ok (.imul, 1) := by decide +kernel
theorem dX1_giveAndCount_75 : decode cX1_giveAndCount 75 = .ok (.iload 4, 2) := by decide +kernel
theorem dX1_giveAndCount_77 : decode cX1_giveAndCount 77 = .ok (.iadd, 1) := by decide +kernel
theorem dX1_giveAndCount_78 : decode cX1_giveAndCount 78 = .ok (.aload_n 0, 1) := by decide +kernel
theorem dX1_giveAndCount_79 : decode cX1_giveAndCount 79 = .ok (.getfield 29, 3) := by decide +kernel
theorem dX1_giveAndCount_82 : decode cX1_giveAndCount 82 = .ok (.aload_n 0, 1) := by decide +kernel
theorem dX1_giveAndCount_83 : decode cX1_giveAndCount 83 = .ok (.getfield 21, 3) := by decide +kernel
theorem dX1_giveAndCount_86 : decode cX1_giveAndCount 86 = .ok (.getfield 93, 3) := by decide +kernel
theorem dX1_giveAndCount_89 : decode cX1_giveAndCount 89 = .ok (.iload_n 2, 1) := by decide +kernel
theorem dX1_giveAndCount_90 : decode cX1_giveAndCount 90 = .ok (.iaload, 1) := by decide +kernel
theorem dX1_giveAndCount_91 : decode cX1_giveAndCount 91 = .ok (.invokevirtual 96, 3) := by decide +kernel
theorem dX1_giveAndCount_94 : decode cX1_giveAndCount 94 = .ok (.iastore, 1) := by decide +kernel
theorem dX1_giveAndCount_95 : decode cX1_giveAndCount 95 = .ok (.return_, 1) := by decide +kernel
theorem dX1_isAtRest_0 : decode cX1_isAtRest 0 = .ok (.iload_n 1, 1) := by decide +kernel
theorem dX1_isAtRest_1 : decode cX1_isAtRest 1 = .ok (.bipush 6, 2) := by decide +kernel
theorem dX1_isAtRest_3 : decode cX1_isAtRest 3 = .ok (.imul, 1) := by decide +kernel
theorem dX1_isAtRest_4 : decode cX1_isAtRest 4 = .ok (.iload_n 2, 1) := by decide +kernel
theorem dX1_isAtRest_5 : decode cX1_isAtRest 5 = .ok (.iadd, 1) := by decide +kernel
theorem dX1_isAtRest_6 : decode cX1_isAtRest 6 = .ok (.istore_n 3, 1) := by decide +kernel
theorem dX1_isAtRest_7 : decode cX1_isAtRest 7 = .ok (.iconst 0, 1) := by decide +kernel
theorem dX1_isAtRest_8 : decode cX1_isAtRest 8 = .ok (.istore 4, 2) := by decide +kernel
theorem dX1_isAtRest_10 : decode cX1_isAtRest 10 = .ok (.iload 4, 2) := by decide +kernel
theorem dX1_isAtRest_12 : decode cX1_isAtRest 12 = .ok (.aload_n 0, 1) := by decide +kernel
theorem dX1_isAtRest_13 : decode cX1_isAtRest 13 = .ok (.getfield 21, 3) := by decide +kernel
theorem dX1_isAtRest_16 : decode cX1_isAtRest 16 = .ok (.getfield 68, 3) := by decide +kernel
theorem dX1_isAtRest_19 : decode cX1_isAtRest 19 = .ok (.if_icmp .ge 53, 3) := by decide +kernel
theorem dX1_isAtRest_22 : decode cX1_isAtRest 22 = .ok (.aload_n 0, 1) := by decide +kernel
theorem dX1_isAtRest_23 : decode cX1_isAtRest 23 = .ok (.getfield 15, 3) := by decide +kernel
theorem dX1_isAtRest_26 : decode cX1_isAtRest 26 = .ok (.iload 4, 2) := by decide +kernel
theorem dX1_isAtRest_28 : decode cX1_isAtRest 28 = .ok (.bipush 6, 2) := by decide +kernel
theorem dX1_isAtRest_30 : decode cX1_isAtRest 30 = .ok (.imul, 1) := by decide +kernel
theorem dX1_isAtRest_31 : decode cX1_isAtRest 31 = .ok (.iload_n 2, 1) := by decide +kernel
theorem dX1_isAtRest_32 : decode cX1_isAtRest 32 = .ok (.iadd, 1) := by decide +kernel
theorem dX1_isAtRest_33 : decode cX1_isAtRest 33 = .ok (.iaload, 1) := by decide +kernel
theorem dX1_isAtRest_34 : decode cX1_isAtRest 34 = .ok (.aload_n 0, 1) := by decide +kernel
theorem dX1_isAtRest_35 : decode cX1_isAtRest 35 = .ok (.getfield 15, 3) := by decide +kernel
theorem dX1_isAtRest_38 : decode cX1_isAtRest 38 = .ok (.iload_n 3, 1) := by decide +kernel
theorem dX1_isAtRest_39 : decode cX1_isAtRest 39 = .ok (.iaload, 1) := by decide +kernel
theorem dX1_isAtRest_40 : decode cX1_isAtRest 40 = .ok (.if_icmp .gt 24, 3) := by decide +kernel
theorem dX1_isAtRest_43 : decode cX1_isAtRest 43 = .ok (.aload_n 0, 1) := by decide +kernel
theorem dX1_isAtRest_44 : decode cX1_isAtRest 44 = .ok (.getfield 18, 3) := by decide +kernel
theorem dX1_isAtRest_47 : decode cX1_isAtRest 47 = .ok (.iload_n 1, 1) := by decide +kernel
theorem dX1_isAtRest_48 : decode cX1_isAtRest 48 = .ok (.bipush 6, 2) := by decide +kernel
theorem dX1_isAtRest_50 : decode cX1_isAtRest 50 = .ok (.imul, 1) := by decide +kernel
theorem dX1_isAtRest_51 : decode cX1_isAtRest 51 = .ok (.iload 4, 2) := by decide +kernel
theorem dX1_isAtRest_53 : decode cX1_isAtRest 53 = .ok (.iadd, 1) := by decide +kernel
theorem dX1_isAtRest_54 : decode cX1_isAtRest 54 = .ok (.iaload, 1) := by decide +kernel
theorem dX1_isAtRest_55 : decode cX1_isAtRest 55 = .ok (.aload_n 0, 1) := by decide +kernel
theorem dX1_isAtRest_56 : decode cX1_isAtRest 56 = .ok (.getfield 18, 3) := by decide +kernel
theorem dX1_isAtRest_59 : decode cX1_isAtRest 59 = .ok (.iload_n 3, 1) := by decide +kernel
theorem dX1_isAtRest_60 : decode cX1_isAtRest 60 = .ok (.iaload, 1) := by decide +kernel
theorem dX1_isAtRest_61 : decode cX1_isAtRest 61 = .ok (.if_icmp .le 5, 3) := by decide +kernel
theorem dX1_isAtRest_64 : decode cX1_isAtRest 64 = .ok (.iconst 0, 1) := by decide +kernel
theorem dX1_isAtRest_65 : decode cX1_isAtRest 65 = .ok (.ireturn, 1) := by decide +kernel
theorem dX1_isAtRest_66 : decode cX1_isAtRest 66 = .ok (.iinc 4 1, 3) := by decide +kernel
theorem dX1_isAtRest_69 : decode cX1_isAtRest 69 = .ok (.goto (-59), 3) := by decide +kernel
theorem dX1_isAtRest_72 : decode cX1_isAtRest 72 = .ok (.iconst 1, 1) := by decide +kernel
theorem dX1_isAtRest_73 : decode cX1_isAtRest 73 = .ok (.ireturn, 1) := by decide +kernel
theorem dX1_chanceOfOneNote_0 : decode cX1_chanceOfOneNote 0 = .ok (.aload_n 0, 1) := by decide +kernel
theorem dX1_chanceOfOneNote_1 : decode cX1_chanceOfOneNote 1 = .ok (.getfield 21, 3) := by decide +kernel
theorem dX1_chanceOfOneNote_4 : decode cX1_chanceOfOneNote 4 = .ok (.invokevirtual 50, 3) := by decide +kernel
theorem dX1_chanceOfOneNote_7 : decode cX1_chanceOfOneNote 7 = .ok (.istore 4, 2) := by decide +kernel
theorem dX1_chanceOfOneNote_9 : decode cX1_chanceOfOneNote 9 = .ok (.iconst 0, 1) := by decide +kernel
theorem dX1_chanceOfOneNote_10 : decode cX1_chanceOfOneNote 10 = .ok (.istore 5, 2) := by decide +kernel
theorem dX1_chanceOfOneNote_12 : decode cX1_chanceOfOneNote 12 = .ok (.iconst 0, 1) := by decide +kernel
theorem dX1_chanceOfOneNote_13 : decode cX1_chanceOfOneNote 13 = .ok (.istore 6, 2) := by decide +kernel
theorem dX1_chanceOfOneNote_15 : decode cX1_chanceOfOneNote 15 = .ok (.iload 6, 2) := by decide +kernel
theorem dX1_chanceOfOneNote_17 : decode cX1_chanceOfOneNote 17 = .ok (.iload 4, 2) := by decide +kernel
theorem dX1_chanceOfOneNote_19 : decode cX1_chanceOfOneNote 19 = .ok (.if_icmp .gt 65, 3) := by decide +kernel
theorem dX1_chanceOfOneNote_22 : decode cX1_chanceOfOneNote 22 = .ok (.iload 6, 2) := by decide +kernel
theorem dX1_chanceOfOneNote_24 : decode cX1_chanceOfOneNote 24 = .ok (.invokestatic 59, 3) := by decide +kernel
theorem dX1_chanceOfOneNote_27 : decode cX1_chanceOfOneNote 27 = .ok (.istore 7, 2) := by decide +kernel
theorem dX1_chanceOfOneNote_29 : decode cX1_chanceOfOneNote 29 = .ok (.iload_n 2, 1) := by decide +kernel
theorem dX1_chanceOfOneNote_30 : decode cX1_chanceOfOneNote 30 = .ok (.aload_n 0, 1) := by decide +kernel
theorem dX1_chanceOfOneNote_31 : decode cX1_chanceOfOneNote 31 = .ok (.getfield 21, 3) := by decide +kernel
theorem dX1_chanceOfOneNote_34 : decode cX1_chanceOfOneNote 34 = .ok (.getfield 68, 3) := by decide +kernel
theorem dX1_chanceOfOneNote_37 : decode cX1_chanceOfOneNote 37 = .ok (.iload 7, 2) := by decide +kernel
theorem dX1_chanceOfOneNote_39 : decode cX1_chanceOfOneNote 39 = .ok (.isub, 1) := by decide +kernel
theorem dX1_chanceOfOneNote_40 : decode cX1_chanceOfOneNote 40 = .ok (.invokestatic 99, 3) := by decide +kernel
theorem dX1_chanceOfOneNote_43 : decode cX1_chanceOfOneNote 43 = .ok (.bipush 10, 2) := by decide +kernel
theorem dX1_chanceOfOneNote_45 : decode cX1_chanceOfOneNote 45 = .ok (.iload_n 2, 1) := by decide +kernel
theorem dX1_chanceOfOneNote_46 : decode cX1_chanceOfOneNote 46 = .ok (.isub, 1) := by decide +kernel
theorem dX1_chanceOfOneNote_47 : decode cX1_chanceOfOneNote 47 = .ok (.iload 7, 2) := by decide +kernel
theorem dX1_chanceOfOneNote_49 : decode cX1_chanceOfOneNote 49 = .ok (.invokestatic 99, 3) := by decide +kernel
theorem dX1_chanceOfOneNote_52 : decode cX1_chanceOfOneNote 52 = .ok (.imul, 1) := by decide +kernel
theorem dX1_chanceOfOneNote_53 : decode cX1_chanceOfOneNote 53 = .ok (.istore 8, 2) := by decide +kernel
theorem dX1_chanceOfOneNote_55 : decode cX1_chanceOfOneNote 55 = .ok (.iload 8, 2) := by decide +kernel
theorem dX1_chanceOfOneNote_57 : decode cX1_chanceOfOneNote 57 = .ok (.ifCond .le 21, 3) := by decide +kernel
theorem dX1_chanceOfOneNote_60 : decode cX1_chanceOfOneNote 60 = .ok (.aload_n 0, 1) := by decide +kernel
theorem dX1_chanceOfOneNote_61 : decode cX1_chanceOfOneNote 61 = .ok (.iload 6, 2) := by decide +kernel
theorem dX1_chanceOfOneNote_63 : decode cX1_chanceOfOneNote 63 = .ok (.iload_n 1, 1) := by decide +kernel
theorem dX1_chanceOfOneNote_64 : decode cX1_chanceOfOneNote 64 = .ok (.invokevirtual 55, 3) := by decide +kernel
theorem dX1_chanceOfOneNote_67 : decode cX1_chanceOfOneNote 67 = .ok (.iconst 1, 1) := by decide +kernel
theorem dX1_chanceOfOneNote_68 : decode cX1_chanceOfOneNote 68 = .ok (.if_icmp .gt 10, 3) := by decide +kernel
theorem dX1_chanceOfOneNote_71 : decode cX1_chanceOfOneNote 71 = .ok (.iload 5, 2) := by decide +kernel
theorem dX1_chanceOfOneNote_73 : decode cX1_chanceOfOneNote 73 = .ok (.iload 8, 2) := by decide +kernel
theorem dX1_chanceOfOneNote_75 : decode cX1_chanceOfOneNote 75 = .ok (.iadd, 1) := by decide +kernel
theorem dX1_chanceOfOneNote_76 : decode cX1_chanceOfOneNote 76 = .ok (.istore 5, 2) := by decide +kernel
theorem dX1_chanceOfOneNote_78 : decode cX1_chanceOfOneNote 78 = .ok (.iinc 6 1, 3) := by decide +kernel
theorem dX1_chanceOfOneNote_81 : decode cX1_chanceOfOneNote 81 = .ok (.goto (-66), 3) := by decide +kernel
theorem dX1_chanceOfOneNote_84 : decode cX1_chanceOfOneNote 84 = .ok (.iload 5, 2) := by decide +kernel
theorem dX1_chanceOfOneNote_86 : decode cX1_chanceOfOneNote 86 = .ok (.bipush 10, 2) := by decide +kernel
theorem dX1_chanceOfOneNote_88 : decode cX1_chanceOfOneNote 88 = .ok (.aload_n 0, 1) := by decide +kernel
theorem dX1_chanceOfOneNote_89 : decode cX1_chanceOfOneNote 89 = .ok (.getfield 21, 3) := by decide +kernel
theorem dX1_chanceOfOneNote_92 : decode cX1_chanceOfOneNote 92 = .ok (.getfield 68, 3) := by decide +kernel
theorem dX1_chanceOfOneNote_95 : decode cX1_chanceOfOneNote 95 = .ok (.invokestatic 99, 3) := by decide +kernel
theorem dX1_chanceOfOneNote_98 : decode cX1_chanceOfOneNote 98 = .ok (.iload_n 3, 1) := by decide +kernel
theorem dX1_chanceOfOneNote_99 : decode cX1_chanceOfOneNote 99 = .ok (.invokestatic 74, 3) := by decide +kernel
theorem dX1_chanceOfOneNote_102 : decode cX1_chanceOfOneNote 102 = .ok (.ireturn, 1) := by decide +kernel
theorem dX2_init_0 : decode cX2_init 0 = .ok (.aload_n 0, 1) := by decide +kernel
theorem dX2_init_1 : decode cX2_init 1 = .ok (.invokespecial 3, 3) := by decide +kernel
theorem dX2_init_4 : decode cX2_init 4 = .ok (.aload_n 0, 1) := by decide +kernel
theorem dX2_init_5 : decode cX2_init 5 = .ok (.bipush 61, 2) := by decide +kernel
theorem dX2_init_7 : decode cX2_init 7 = .ok (.newarray .int, 2) := by decide +kernel
theorem dX2_init_9 : decode cX2_init 9 = .ok (.putfield 9, 3) := by decide +kernel
theorem dX2_init_12 : decode cX2_init 12 = .ok (.aload_n 0, 1) := by decide +kernel
theorem dX2_init_13 : decode cX2_init 13 = .ok (.aload_n 1, 1) := by decide +kernel
theorem dX2_init_14 : decode cX2_init 14 = .ok (.putfield 15, 3) := by decide +kernel
theorem dX2_init_17 : decode cX2_init 17 = .ok (.aload_n 0, 1) := by decide +kernel
theorem dX2_init_18 : decode cX2_init 18 = .ok (.aload_n 2, 1) := by decide +kernel
theorem dX2_init_19 : decode cX2_init 19 = .ok (.putfield 19, 3) := by decide +kernel
theorem dX2_init_22 : decode cX2_init 22 = .ok (.aload_n 0, 1) := by decide +kernel
theorem dX2_init_23 : decode cX2_init 23 = .ok (.aload_n 3, 1) := by decide +kernel
theorem dX2_init_24 : decode cX2_init 24 = .ok (.putfield 23, 3) := by decide +kernel
theorem dX2_init_27 : decode cX2_init 27 = .ok (.return_, 1) := by decide +kernel
theorem dX2_noteBehind_0 : decode cX2_noteBehind 0 = .ok (.aload_n 0, 1) := by decide +kernel
theorem dX2_noteBehind_1 : decode cX2_noteBehind 1 = .ok (.getfield 23, 3) := by decide +kernel
theorem dX2_noteBehind_4 : decode cX2_noteBehind 4 = .ok (.aload_n 0, 1) := by decide +kernel
theorem dX2_noteBehind_5 : decode cX2_noteBehind 5 = .ok (.getfield 19, 3) := by decide +kernel
theorem dX2_noteBehind_8 : decode cX2_noteBehind 8 = .ok (.invokevirtual 26, 3) := by decide +kernel
theorem dX2_noteBehind_11 : decode cX2_noteBehind 11 = .ok (.aload_n 0, 1) := by decide +kernel
theorem dX2_noteBehind_12 : decode cX2_noteBehind 12 = .ok (.getfield 23, 3) := by decide +kernel
theorem dX2_noteBehind_15 : decode cX2_noteBehind 15 = .ok (.iload_n 2, 1) := by decide +kernel
theorem dX2_noteBehind_16 : decode cX2_noteBehind 16 = .ok (.invokevirtual 32, 3) := by decide +kernel
theorem dX2_noteBehind_19 : decode cX2_noteBehind 19 = .ok (.aload_n 0, 1) := by decide +kernel
theorem dX2_noteBehind_20 : decode cX2_noteBehind 20 = .ok (.getfield 23, 3) := by decide +kernel
theorem dX2_noteBehind_23 : decode cX2_noteBehind 23 = .ok (.getfield 36, 3) := by decide +kernel
theorem dX2_noteBehind_26 : decode cX2_noteBehind 26 = .ok (.iload_n 1, 1) := by decide +kernel
theorem dX2_noteBehind_27 : decode cX2_noteBehind 27 = .ok (.iaload, 1) := by decide +kernel
theorem dX2_noteBehind_28 : decode cX2_noteBehind 28 = .ok (.ireturn, 1) := by decide +kernel
theorem dX2_richnessBehind_0 : decode cX2_richnessBehind 0 = .ok (.aload_n 0, 1) := by decide +kernel
theorem dX2_richnessBehind_1 : decode cX2_richnessBehind 1 = .ok (.getfield 23, 3) := by decide +kernel
theorem dX2_richnessBehind_4 : decode cX2_richnessBehind 4 = .ok (.aload_n 0, 1) := by decide +kernel
theorem dX2_richnessBehind_5 : decode cX2_richnessBehind 5 = .ok (.getfield 19, 3) := by decide +kernel
theorem dX2_richnessBehind_8 : decode cX2_richnessBehind 8 = .ok (.invokevirtual 26, 3) := by decide +kernel
theorem dX2_richnessBehind_11 : decode cX2_richnessBehind 11 = .ok (.aload_n 0, 1) := by decide +kernel
theorem dX2_richnessBehind_12 : decode cX2_richnessBehind 12 = .ok (.getfield 23, 3) := by decide +kernel
theorem dX2_richnessBehind_15 : decode cX2_richnessBehind 15 = .ok (.iload_n 1, 1) := by decide +kernel
theorem dX2_richnessBehind_16 : decode cX2_richnessBehind 16 = .ok (.invokevirtual 32, 3) := by decide +kernel
theorem dX2_richnessBehind_19 : decode cX2_richnessBehind 19 = .ok (.aload_n 0, 1) := by decide +kernel
theorem dX2_richnessBehind_20 : decode cX2_richnessBehind 20 = .ok (.getfield 23, 3) := by decide +kernel
theorem dX2_richnessBehind_23 : decode cX2_richnessBehind 23 = .ok (.invokevirtual 39, 3) := by decide +kernel
theorem dX2_richnessBehind_26 : decode cX2_richnessBehind 26 = .ok (.ireturn, 1) := by decide +kernel
theorem dX2_firstReturn_0 : decode cX2_firstReturn 0 = .ok (.aload_n 0, 1) := by decide +kernel
theorem dX2_firstReturn_1 : decode cX2_firstReturn 1 = .ok (.getfield 23, 3) := by decide +kernel
theorem dX2_firstReturn_4 : decode cX2_firstReturn 4 = .ok (.aload_n 0, 1) := by decide +kernel
theorem dX2_firstReturn_5 : decode cX2_firstReturn 5 = .ok (.getfield 19, 3) := by decide +kernel
theorem dX2_firstReturn_8 : decode cX2_firstReturn 8 = .ok (.invokevirtual 26, 3) := by decide +kernel
theorem dX2_firstReturn_11 : decode cX2_firstReturn 11 = .ok (.iconst 0, 1) := by decide +kernel
theorem dX2_firstReturn_12 : decode cX2_firstReturn 12 = .ok (.istore_n 2, 1) := by decide +kernel
theorem dX2_firstReturn_13 : decode cX2_firstReturn 13 = .ok (.iload_n 2, 1) := by decide +kernel
theorem dX2_firstReturn_14 : decode cX2_firstReturn 14 = .ok (.bipush 60, 2) := by decide +kernel
theorem dX2_firstReturn_16 : decode cX2_firstReturn 16 = .ok (.if_icmp .gt 30, 3) := by decide +kernel
theorem dX2_firstReturn_19 : decode cX2_firstReturn 19 = .ok (.aload_n 0, 1) := by decide +kernel
theorem dX2_firstReturn_20 : decode cX2_firstReturn 20 = .ok (.getfield 9, 3) := by decide +kernel
theorem dX2_firstReturn_23 : decode cX2_firstReturn 23 = .ok (.iload_n 2, 1) := by decide +kernel
theorem dX2_firstReturn_24 : decode cX2_firstReturn 24 = .ok (.aload_n 0, 1) := by decide +kernel
theorem dX2_firstReturn_25 : decode cX2_firstReturn 25 = .ok (.getfield 23, 3) := by decide +kernel
theorem dX2_firstReturn_28 : decode cX2_firstReturn 28 = .ok (.invokevirtual 43, 3) := by decide +kernel
theorem dX2_firstReturn_31 : decode cX2_firstReturn 31 = .ok (.iastore, 1) := by decide +kernel
theorem dX2_firstReturn_32 : decode cX2_firstReturn 32 = .ok (.aload_n 0, 1) := by decide +kernel
theorem dX2_firstReturn_33 : decode cX2_firstReturn 33 = .ok (.getfield 23, 3) := by decide +kernel
theorem dX2_firstReturn_36 : decode cX2_firstReturn 36 = .ok (.iconst 1, 1) := by decide +kernel
theorem dX2_firstReturn_37 : decode cX2_firstReturn 37 = .ok (.invokevirtual 32, 3) := by decide +kernel
theorem dX2_firstReturn_40 : decode cX2_firstReturn 40 = .ok (.iinc 2 1, 3) := by decide +kernel
theorem dX2_firstReturn_43 : decode cX2_firstReturn 43 = .ok (.goto (-30), 3) := by decide +kernel
theorem dX2_firstReturn_46 : decode cX2_firstReturn 46 = .ok (.iconst 0, 1) := by decide +kernel
theorem dX2_firstReturn_47 : decode cX2_firstReturn 47 = .ok (.istore_n 2, 1) := by decide +kernel
theorem dX2_firstReturn_48 : decode cX2_firstReturn 48 = .ok (.iload_n 2, 1) := by decide +kernel
theorem dX2_firstReturn_49 : decode cX2_firstReturn 49 = .ok (.bipush 60, 2) := by decide +kernel
theorem dX2_firstReturn_51 : decode cX2_firstReturn 51 = .ok (.if_icmp .ge 52, 3) := by decide +kernel
theorem dX2_firstReturn_54 : decode cX2_firstReturn 54 = .ok (.iload_n 2, 1) := by decide +kernel
theorem dX2_firstReturn_55 : decode cX2_firstReturn 55 = .ok (.iconst 1, 1) := by decide +kernel
theorem dX2_firstReturn_56 : decode cX2_firstReturn 56 = .ok (.iadd, 1) := by decide +kernel
theorem dX2_firstReturn_57 : decode cX2_firstReturn 57 = .ok (.istore_n 3, 1) := by decide +kernel
theorem dX2_firstReturn_58 : decode cX2_firstReturn 58 = .ok (.iload_n 3, 1) := by decide +kernel
theorem dX2_firstReturn_59 : decode cX2_firstReturn 59 = .ok (.bipush 60, 2) := by decide +kernel
theorem dX2_firstReturn_61 : decode cX2_firstReturn 61 = .ok (.if_icmp .gt 36, 3) := by decide +kernel
theorem dX2_firstReturn_64 : decode cX2_firstReturn 64 = .ok (.aload_n 0, 1) := by decide +kernel
theorem dX2_firstReturn_65 : decode cX2_firstReturn 65 = .ok (.getfield 9, 3) := by decide +kernel
theorem dX2_firstReturn_68 : decode cX2_firstReturn 68 = .ok (.iload_n 2, 1) := by decide +kernel
theorem dX2_firstReturn_69 : decode cX2_firstReturn 69 = .ok (.iaload, 1) := by decide +kernel
theorem dX2_firstReturn_70 : decode cX2_firstReturn 70 = .ok (.aload_n 0, 1) := by decide +kernel
theorem dX2_firstReturn_71 : decode cX2_firstReturn 71 = .ok (.getfield 9, 3) := by decide +kernel
theorem dX2_firstReturn_74 : decode cX2_firstReturn 74 = .ok (.iload_n 3, 1) := by decide +kernel
theorem dX2_firstReturn_75 : decode cX2_firstReturn 75 = .ok (.iaload, 1) := by decide +kernel
theorem dX2_firstReturn_76 : decode cX2_firstReturn 76 = .ok (.if_icmp .ne 15, 3) := by decide +kernel
theorem dX2_firstReturn_79 : decode cX2_firstReturn 79 = .ok (.iload_n 1, 1) := by decide +kernel
theorem dX2_firstReturn_80 : decode cX2_firstReturn 80 = .ok (.ifCond .eq 9, 3) := by decide +kernel
theorem dX2_firstReturn_83 : decode cX2_firstReturn 83 = .ok (.iload_n 3, 1) := by decide +kernel
theorem dX2_firstReturn_84 : decode cX2_firstReturn 84 = .ok (.iload_n 2, 1) := by decide +kernel
theorem dX2_firstReturn_85 : decode cX2_firstReturn 85 = .ok (.isub, 1) := by decide +kernel
theorem dX2_firstReturn_86 : decode cX2_firstReturn 86 = .ok (.goto 4, 3) := by decide +kernel
theorem dX2_firstReturn_89 : decode cX2_firstReturn 89 = .ok (.iload_n 2, 1) := by decide +kernel
theorem dX2_firstReturn_90 : decode cX2_firstReturn 90 = .ok (.ireturn, 1) := by decide +kernel
theorem dX2_firstReturn_91 : decode cX2_firstReturn 91 = .ok (.iinc 3 1, 3) := by decide +kernel
theorem dX2_firstReturn_94 : decode cX2_firstReturn 94 = .ok (.goto (-36), 3) := by decide +kernel
theorem dX2_firstReturn_97 : decode cX2_firstReturn 97 = .ok (.iinc 2 1, 3) := by decide +kernel
theorem dX2_firstReturn_100 : decode cX2_firstReturn 100 = .ok (.goto (-52), 3) := by decide +kernel
theorem dX2_firstReturn_103 : decode cX2_firstReturn 103 = .ok (.bipush (-9), 2) := by decide +kernel
theorem dX2_firstReturn_105 : decode cX2_firstReturn 105 = .ok (.ireturn, 1) := by decide +kernel
theorem dX2_firstOneNote_0 : decode cX2_firstOneNote 0 = .ok (.aload_n 0, 1) := by decide +kernel
theorem dX2_firstOneNote_1 : decode cX2_firstOneNote 1 = .ok (.getfield 23, 3) := by decide +kernel
theorem dX2_firstOneNote_4 : decode cX2_firstOneNote 4 = .ok (.aload_n 0, 1) := by decide +kernel
theorem dX2_firstOneNote_5 : decode cX2_firstOneNote 5 = .ok (.getfield 19, 3) := by decide +kernel
theorem dX2_firstOneNote_8 : decode cX2_firstOneNote 8 = .ok (.invokevirtual 26, 3) := by decide +kernel
theorem dX2_firstOneNote_11 : decode cX2_firstOneNote 11 = .ok (.iconst 0, 1) := by decide +kernel
theorem dX2_firstOneNote_12 : decode cX2_firstOneNote 12 = .ok (.istore_n 1, 1) := by decide +kernel
theorem dX2_firstOneNote_13 : decode cX2_firstOneNote 13 = .ok (.iload_n 1, 1) := by decide +kernel
theorem dX2_firstOneNote_14 : decode cX2_firstOneNote 14 = .ok (.bipush 60, 2) := by decide +kernel
theorem dX2_firstOneNote_16 : decode cX2_firstOneNote 16 = .ok (.if_icmp .gt 30, 3) := by decide +kernel
theorem dX2_firstOneNote_19 : decode cX2_firstOneNote 19 = .ok (.aload_n 0, 1) := by decide +kernel
theorem dX2_firstOneNote_20 : decode cX2_firstOneNote 20 = .ok (.getfield 23, 3) := by decide +kernel
theorem dX2_firstOneNote_23 : decode cX2_firstOneNote 23 = .ok (.invokevirtual 39, 3) := by decide +kernel
theorem dX2_firstOneNote_26 : decode cX2_firstOneNote 26 = .ok (.iconst 1, 1) := by decide +kernel
theorem dX2_firstOneNote_27 : decode cX2_firstOneNote 27 = .ok (.if_icmp .gt 5, 3) := by decide +kernel
theorem dX2_firstOneNote_30 : decode cX2_firstOneNote 30 = .ok (.iload_n 1, 1) := by decide +kernel
theorem dX2_firstOneNote_31 : decode cX2_firstOneNote 31 = .ok (.ireturn, 1) := by decide +kernel
theorem dX2_firstOneNote_32 : decode cX2_firstOneNote 32 = .ok (.aload_n 0, 1) := by decide +kernel
theorem dX2_firstOneNote_33 : decode cX2_firstOneNote 33 = .ok (.getfield 23, 3) := by decide +kernel
theorem dX2_firstOneNote_36 : decode cX2_firstOneNote 36 = .ok (.iconst 1, 1) := by decide +kernel
theorem dX2_firstOneNote_37 : decode cX2_firstOneNote 37 = .ok (.invokevirtual 32, 3) := by decide +kernel
theorem dX2_firstOneNote_40 : decode cX2_firstOneNote 40 = .ok (.iinc 1 1, 3) := by decide +kernel
theorem dX2_firstOneNote_43 : decode cX2_firstOneNote 43 = .ok (.goto (-30), 3) := by decide +kernel
theorem dX2_firstOneNote_46 : decode cX2_firstOneNote 46 = .ok (.bipush (-9), 2) := by decide +kernel
theorem dX2_firstOneNote_48 : decode cX2_firstOneNote 48 = .ok (.ireturn, 1) := by decide +kernel
theorem dX2_leastGift_0 : decode cX2_leastGift 0 = .ok (.aload_n 0, 1) := by decide +kernel
theorem dX2_leastGift_1 : decode cX2_leastGift 1 = .ok (.iload_n 1, 1) := by decide +kernel
theorem dX2_leastGift_2 : decode cX2_leastGift 2 = .ok (.iload_n 3, 1) := by decide +kernel
theorem dX2_leastGift_3 : decode cX2_leastGift 3 = .ok (.invokevirtual 46, 3) := by decide +kernel
theorem dX2_leastGift_6 : decode cX2_leastGift 6 = .ok (.iload_n 2, 1) := by decide +kernel
theorem dX2_leastGift_7 : decode cX2_leastGift 7 = .ok (.if_icmp .ne 15, 3) := by decide +kernel
theorem dX2_leastGift_10 : decode cX2_leastGift 10 = .ok (.iload 4, 2) := by decide +kernel
theorem dX2_leastGift_12 : decode cX2_leastGift 12 = .ok (.ifCond .eq 8, 3) := by decide +kernel
theorem dX2_leastGift_15 : decode cX2_leastGift 15 = .ok (.bipush (-9), 2) := by decide +kernel
theorem dX2_leastGift_17 : decode cX2_leastGift 17 = .ok (.goto 4, 3) := by decide +kernel
theorem dX2_leastGift_20 : decode cX2_leastGift 20 = .ok (.iconst 0, 1) := by decide +kernel
theorem dX2_leastGift_21 : decode cX2_leastGift 21 = .ok (.ireturn, 1) := by decide +kernel
theorem dX2_leastGift_22 : decode cX2_leastGift 22 = .ok (.iconst 1, 1) := by decide +kernel
theorem dX2_leastGift_23 : decode cX2_leastGift 23 = .ok (.istore 5, 2) := by decide +kernel
theorem dX2_leastGift_25 : decode cX2_leastGift 25 = .ok (.iload 5, 2) := by decide +kernel
theorem dX2_leastGift_27 : decode cX2_leastGift 27 = .ok (.bipush 9, 2) := by decide +kernel
theorem dX2_leastGift_29 : decode cX2_leastGift 29 = .ok (.if_icmp .gt 86, 3) := by decide +kernel
theorem dX2_leastGift_32 : decode cX2_leastGift 32 = .ok (.iconst 0, 1) := by decide +kernel
theorem dX2_leastGift_33 : decode cX2_leastGift 33 = .ok (.istore 6, 2) := by decide +kernel
theorem dX2_leastGift_35 : decode cX2_leastGift 35 = .ok (.iload 6, 2) := by decide +kernel
theorem dX2_leastGift_37 : decode cX2_leastGift 37 = .ok (.aload_n 0, 1) := by decide +kernel
theorem dX2_leastGift_38 : decode cX2_leastGift 38 = .ok (.getfield 15, 3) := by decide +kernel
theorem dX2_leastGift_41 : decode cX2_leastGift 41 = .ok (.getfield 50, 3) := by decide +kernel
theorem dX2_leastGift_44 : decode cX2_leastGift 44 = .ok (.if_icmp .ge 65, 3) := by decide +kernel
theorem dX2_leastGift_47 : decode cX2_leastGift 47 = .ok (.aload_n 0, 1) := by decide +kernel
theorem dX2_leastGift_48 : decode cX2_leastGift 48 = .ok (.getfield 23, 3) := by decide +kernel
theorem dX2_leastGift_51 : decode cX2_leastGift 51 = .ok (.aload_n 0, 1) := by decide +kernel
theorem dX2_leastGift_52 : decode cX2_leastGift 52 = .ok (.getfield 19, 3) := by decide +kernel
theorem dX2_leastGift_55 : decode cX2_leastGift 55 = .ok (.invokevirtual 26, 3) := by decide +kernel
theorem dX2_leastGift_58 : decode cX2_leastGift 58 = .ok (.aload_n 0, 1) := by decide +kernel
theorem dX2_leastGift_59 : decode cX2_leastGift 59 = .ok (.getfield 23, 3) := by decide +kernel
theorem dX2_leastGift_62 : decode cX2_leastGift 62 = .ok (.iload 6, 2) := by decide +kernel
theorem dX2_leastGift_64 : decode cX2_leastGift 64 = .ok (.iload 5, 2) := by decide +kernel
theorem dX2_leastGift_66 : decode cX2_leastGift 66 = .ok (.invokevirtual 56, 3) := by decide +kernel
theorem dX2_leastGift_69 : decode cX2_leastGift 69 = .ok (.aload_n 0, 1) := by decide +kernel
theorem dX2_leastGift_70 : decode cX2_leastGift 70 = .ok (.getfield 23, 3) := by decide +kernel
theorem dX2_leastGift_73 : decode cX2_leastGift 73 = .ok (.iload_n 3, 1) := by decide +kernel
theorem dX2_leastGift_74 : decode cX2_leastGift 74 = .ok (.invokevirtual 32, 3) := by decide +kernel
theorem dX2_leastGift_77 : decode cX2_leastGift 77 = .ok (.aload_n 0, 1) := by decide +kernel
theorem dX2_leastGift_78 : decode cX2_leastGift 78 = .ok (.getfield 23, 3) := by decide +kernel
theorem dX2_leastGift_81 : decode cX2_leastGift 81 = .ok (.getfield 36, 3) := by decide +kernel
theorem dX2_leastGift_84 : decode cX2_leastGift 84 = .ok (.iload_n 1, 1) := by decide +kernel
theorem dX2_leastGift_85 : decode cX2_leastGift 85 = .ok (.iaload, 1) := by decide +kernel
theorem dX2_leastGift_86 : decode cX2_leastGift 86 = .ok (.iload_n 2, 1) := by decide +kernel
theorem dX2_leastGift_87 : decode cX2_leastGift 87 = .ok (.if_icmp .ne 16, 3) := by decide +kernel
theorem dX2_leastGift_90 : decode cX2_leastGift 90 = .ok (.iload 4, 2) := by decide +kernel
theorem dX2_leastGift_92 : decode cX2_leastGift 92 = .ok (.ifCond .eq 8, 3) := by decide +kernel
theorem dX2_leastGift_95 : decode cX2_leastGift 95 = .ok (.iload 6, 2) := by decide +kernel
theorem dX2_leastGift_97 : decode cX2_leastGift 97 = .ok (.goto 5, 3) := by decide +kernel
theorem dX2_leastGift_100 : decode cX2_leastGift 100 = .ok (.iload 5, 2) := by decide +kernel
theorem dX2_leastGift_102 : decode cX2_leastGift 102 = .ok (.ireturn, 1) := by decide +kernel
theorem dX2_leastGift_103 : decode cX2_leastGift 103 = .ok (.iinc 6 1, 3) := by decide +kernel
theorem dX2_leastGift_106 : decode cX2_leastGift 106 = .ok (.goto (-71), 3) := by decide +kernel
theorem dX2_leastGift_109 : decode cX2_leastGift 109 = .ok (.iinc 5 1, 3) := by decide +kernel
theorem dX2_leastGift_112 : decode cX2_leastGift 112 = .ok (.goto (-87), 3) := by decide +kernel
theorem dX2_leastGift_115 : decode cX2_leastGift 115 = .ok (.bipush (-9), 2) := by decide +kernel
theorem dX2_leastGift_117 : decode cX2_leastGift 117 = .ok (.ireturn, 1) := by decide +kernel
theorem dX2_richestChange_0 : decode cX2_richestChange 0 = .ok (.aload_n 0, 1) := by decide +kernel
theorem dX2_richestChange_1 : decode cX2_richestChange 1 = .ok (.iload_n 1, 1) := by decide +kernel
theorem dX2_richestChange_2 : decode cX2_richestChange 2 = .ok (.invokevirtual 60, 3) := by decide +kernel
theorem dX2_richestChange_5 : decode cX2_richestChange 5 = .ok (.istore_n 3, 1) := by decide +kernel
theorem dX2_richestChange_6 : decode cX2_richestChange 6 = .ok (.bipush 99, 2) := by decide +kernel
theorem dX2_richestChange_8 : decode cX2_richestChange 8 = .ok (.istore 4, 2) := by decide +kernel
theorem dX2_richestChange_10 : decode cX2_richestChange 10 = .ok (.iconst 0, 1) := by decide +kernel
theorem dX2_richestChange_11 : decode cX2_richestChange 11 = .ok (.istore 5, 2) := by decide +kernel
theorem dX2_richestChange_13 : decode cX2_richestChange 13 = .ok (.iload 5, 2) := by decide +kernel
theorem dX2_richestChange_15 : decode cX2_richestChange 15 = .ok (.aload_n 0, 1) := by decide +kernel
theorem dX2_richestChange_16 : decode cX2_richestChange 16 = .ok (.getfield 15, 3) := by decide +kernel
theorem dX2_richestChange_19 : decode cX2_richestChange 19 = .ok (.getfield 50, 3) := by decide +kernel
theorem dX2_richestChange_22 : decode cX2_richestChange 22 = .ok (.if_icmp .ge 91, 3) := by decide +kernel
theorem dX2_richestChange_25 : decode cX2_richestChange 25 = .ok (.iload 5, 2) := by decide +kernel
theorem dX2_richestChange_27 : decode cX2_richestChange 27 = .ok (.iconst 1, 1) := by decide +kernel
theorem dX2_richestChange_28 : decode cX2_richestChange 28 = .ok (.iadd, 1) := by decide +kernel
theorem dX2_richestChange_29 : decode cX2_richestChange 29 = .ok (.istore 6, 2) := by decide +kernel
theorem dX2_richestChange_31 : decode cX2_richestChange 31 = .ok (.iload 6, 2) := by decide +kernel
theorem dX2_richestChange_33 : decode cX2_richestChange 33 = .ok (.aload_n 0, 1) := by decide +kernel
theorem dX2_richestChange_34 : decode cX2_richestChange 34 = .ok (.getfield 15, 3) := by decide +kernel
theorem dX2_richestChange_37 : decode cX2_richestChange 37 = .ok (.getfield 50, 3) := by decide +kernel
theorem dX2_richestChange_40 : decode cX2_richestChange 40 = .ok (.if_icmp .ge 67, 3) := by decide +kernel
theorem dX2_richestChange_43 : decode cX2_richestChange 43 = .ok (.aload_n 0, 1) := by decide +kernel
theorem dX2_richestChange_44 : decode cX2_richestChange 44 = .ok (.getfield 23, 3) := by decide +kernel
theorem dX2_richestChange_47 : decode cX2_richestChange 47 = .ok (.aload_n 0, 1) := by decide +kernel
theorem dX2_richestChange_48 : decode cX2_richestChange 48 = .ok (.getfield 19, 3) := by decide +kernel
theorem dX2_richestChange_51 : decode cX2_richestChange 51 = .ok (.invokevirtual 26, 3) := by decide +kernel
theorem dX2_richestChange_54 : decode cX2_richestChange 54 = .ok (.aload_n 0, 1) := by decide +kernel
theorem dX2_richestChange_55 : decode cX2_richestChange 55 = .ok (.getfield 23, 3) := by decide +kernel
theorem dX2_richestChange_58 : decode cX2_richestChange 58 = .ok (.iload 5, 2) := by decide +kernel
theorem dX2_richestChange_60 : decode cX2_richestChange 60 = .ok (.iload 6, 2) := by decide +kernel
theorem dX2_richestChange_62 : decode cX2_richestChange 62 = .ok (.invokevirtual 64, 3) := by decide +kernel
theorem dX2_richestChange_65 : decode cX2_richestChange 65 = .ok (.aload_n 0, 1) := by decide +kernel
theorem dX2_richestChange_66 : decode cX2_richestChange 66 = .ok (.getfield 23, 3) := by decide +kernel
theorem dX2_richestChange_69 : decode cX2_richestChange 69 = .ok (.iload_n 1, 1) := by decide +kernel
theorem dX2_richestChange_70 : decode cX2_richestChange 70 = .ok (.invokevirtual 32, 3) := by decide +kernel
theorem dX2_richestChange_73 : decode cX2_richestChange 73 = .ok (.aload_n 0, 1) := by decide +kernel
theorem dX2_richestChange_74 : decode cX2_richestChange 74 = .ok (.getfield 23, 3) := by decide +kernel
theorem dX2_richestChange_77 : decode cX2_richestChange 77 = .ok (.invokevirtual 39, 3) := by decide +kernel
theorem dX2_richestChange_80 : decode cX2_richestChange 80 = .ok (.istore 7, 2) := by decide +kernel
theorem dX2_richestChange_82 : decode cX2_richestChange 82 = .ok (.iload 7, 2) := by decide +kernel
theorem dX2_richestChange_84 : decode cX2_richestChange 84 = .ok (.iload_n 3, 1) := by decide +kernel
theorem dX2_richestChange_85 : decode cX2_richestChange 85 = .ok (.if_icmp .le 16, 3) := by decide +kernel
theorem dX2_richestChange_88 : decode cX2_richestChange 88 = .ok (.iload 7, 2) := by decide +kernel
theorem dX2_richestChange_90 : decode cX2_richestChange 90 = .ok (.istore_n 3, 1) := by decide +kernel
theorem dX2_richestChange_91 : decode cX2_richestChange 91 = .ok (.bipush 10, 2) := by decide +kernel
theorem dX2_richestChange_93 : decode cX2_richestChange 93 = .ok (.iload 5, 2) := by decide +kernel
theorem dX2_richestChange_95 : decode cX2_richestChange 95 = .ok (.imul, 1) := by decide +kernel
theorem dX2_richestChange_96 : decode cX2_richestChange 96 = .ok (.iload 6, 2) := by decide +kernel
theorem dX2_richestChange_98 : decode cX2_richestChange 98 = .ok (.iadd, 1) := by decide +kernel
theorem dX2_richestChange_99 : decode cX2_richestChange 99 = .ok (.istore 4, 2) := by decide +kernel
theorem dX2_richestChange_101 : decode cX2_richestChange 101 = .ok (.iinc 6 1, 3) := by decide +kernel
theorem dX2_richestChange_104 : decode cX2_richestChange 104 = .ok (.goto (-73), 3) := by decide +kernel
theorem dX2_richestChange_107 : decode cX2_richestChange 107 = .ok (.iinc 5 1, 3) := by decide +kernel
theorem dX2_richestChange_110 : decode cX2_richestChange 110 = .ok (.goto (-97), 3) := by decide +kernel
theorem dX2_richestChange_113 : decode cX2_richestChange 113 = .ok (.iload_n 2, 1) := by decide +kernel
theorem dX2_richestChange_114 : decode cX2_richestChange 114 = .ok (.ifCond .eq 8, 3) := by decide +kernel
theorem dX2_richestChange_117 : decode cX2_richestChange 117 = .ok (.iload 4, 2) := by decide +kernel
theorem dX2_richestChange_119 : decode cX2_richestChange 119 = .ok (.goto 4, 3) := by decide +kernel
theorem dX2_richestChange_122 : decode cX2_richestChange 122 = .ok (.iload_n 3, 1) := by decide +kernel
theorem dX2_richestChange_123 : decode cX2_richestChange 123 = .ok (.ireturn, 1) := by decide +kernel
theorem dX2_firstWrongDoing_0 : decode cX2_firstWrongDoing 0 = .ok (.aload_n 0, 1) := by decide +kernel
theorem dX2_firstWrongDoing_1 : decode cX2_firstWrongDoing 1 = .ok (.getfield 23, 3) := by decide +kernel
theorem dX2_firstWrongDoing_4 : decode cX2_firstWrongDoing 4 = .ok (.aload_n 0, 1) := by decide +kernel
theorem dX2_firstWrongDoing_5 : decode cX2_firstWrongDoing 5 = .ok (.getfield 19, 3) := by decide +kernel
theorem dX2_firstWrongDoing_8 : decode cX2_firstWrongDoing 8 = .ok (.invokevirtual 26, 3) := by decide +kernel
theorem dX2_firstWrongDoing_11 : decode cX2_firstWrongDoing 11 = .ok (.iconst 0, 1) := by decide +kernel
theorem dX2_firstWrongDoing_12 : decode cX2_firstWrongDoing 12 = .ok (.istore 4, 2) := by decide +kernel
theorem dX2_firstWrongDoing_14 : decode cX2_firstWrongDoing 14 = .ok (.iload 4, 2) := by decide +kernel
theorem dX2_firstWrongDoing_16 : decode cX2_firstWrongDoing 16 = .ok (.iload_n 1, 1) := by decide +kernel
theorem dX2_firstWrongDoing_17 : decode cX2_firstWrongDoing 17 = .ok (.if_icmp .ge 76, 3) := by decide +kernel
theorem dX2_firstWrongDoing_20 : decode cX2_firstWrongDoing 20 = .ok (.lload_n 2, 1) := by decide +kernel
theorem dX2_firstWrongDoing_21 : decode cX2_firstWrongDoing 21 = .ok (.iload_n 1, 1) := by decide +kernel
theorem dX2_firstWrongDoing_22 : decode cX2_firstWrongDoing 22 = .ok (.iconst 1, 1) := by decide +kernel
theorem dX2_firstWrongDoing_23 : decode cX2_firstWrongDoing 23 = .ok (.isub, 1) := by decide +kernel
theorem dX2_firstWrongDoing_24 : decode cX2_firstWrongDoing 24 = .ok (.iload 4, 2) := by decide +kernel
theorem dX2_firstWrongDoing_26 : decode cX2_firstWrongDoing 26 = .ok (.isub, 1) := by decide +kernel
theorem dX2_firstWrongDoing_27 : decode cX2_firstWrongDoing 27 = .ok (.invokestatic 67, 3) := by decide +kernel
theorem dX2_firstWrongDoing_30 : decode cX2_firstWrongDoing 30 = .ok (.ldc2_w 71, 3) := by decide +kernel
theorem dX2_firstWrongDoing_33 : decode cX2_firstWrongDoing 33 = .ok (.lrem, 1) := by decide +kernel
theorem dX2_firstWrongDoing_34 : decode cX2_firstWrongDoing 34 = .ok (.l2i, 1) := by decide +kernel
theorem dX2_firstWrongDoing_35 : decode cX2_firstWrongDoing 35 = .ok (.istore 5, 2) := by decide +kernel
theorem dX2_firstWrongDoing_37 : decode cX2_firstWrongDoing 37 = .ok (.iload 5, 2) := by decide +kernel
theorem dX2_firstWrongDoing_39 : decode cX2_firstWrongDoing 39 = .ok (.bipush 100, 2) := by decide +kernel
theorem dX2_firstWrongDoing_41 : decode cX2_firstWrongDoing 41 = .ok (.idiv, 1) := by decide +kernel
theorem dX2_firstWrongDoing_42 : decode cX2_firstWrongDoing 42 = .ok (.istore 6, 2) := by decide +kernel
theorem dX2_firstWrongDoing_44 : decode cX2_firstWrongDoing 44 = .ok (.iload 5, 2) := by decide +kernel
theorem dX2_firstWrongDoing_46 : decode cX2_firstWrongDoing 46 = .ok (.bipush 10, 2) := by decide +kernel
theorem dX2_firstWrongDoing_48 : decode cX2_firstWrongDoing 48 = .ok (.idiv, 1) := by decide +kernel
theorem dX2_firstWrongDoing_49 : decode cX2_firstWrongDoing 49 = .ok (.bipush 10, 2) := by decide +kernel
theorem dX2_firstWrongDoing_51 : decode cX2_firstWrongDoing 51 = .ok (.irem, 1) := by decide +kernel
theorem dX2_firstWrongDoing_52 : decode cX2_firstWrongDoing 52 = .ok (.istore 7, 2) := by decide +kernel
theorem dX2_firstWrongDoing_54 : decode cX2_firstWrongDoing 54 = .ok (.iload 5, 2) := by decide +kernel
theorem dX2_firstWrongDoing_56 : decode cX2_firstWrongDoing 56 = .ok (.bipush 10, 2) := by decide +kernel
theorem dX2_firstWrongDoing_58 : decode cX2_firstWrongDoing 58 = .ok (.irem, 1) := by decide +kernel
theorem dX2_firstWrongDoing_59 : decode cX2_firstWrongDoing 59 = .ok (.istore 8, 2) := by decide +kernel
theorem dX2_firstWrongDoing_61 : decode cX2_firstWrongDoing 61 = .ok (.aload_n 0, 1) := by decide +kernel
theorem dX2_firstWrongDoing_62 : decode cX2_firstWrongDoing 62 = .ok (.iload 6, 2) := by decide +kernel
theorem dX2_firstWrongDoing_64 : decode cX2_firstWrongDoing 64 = .ok (.iload 7, 2) := by decide +kernel
theorem dX2_firstWrongDoing_66 : decode cX2_firstWrongDoing 66 = .ok (.iload 8, 2) := by decide +kernel
theorem dX2_firstWrongDoing_68 : decode cX2_firstWrongDoing 68 = .ok (.invokevirtual 73, 3) := by decide +kernel
theorem dX2_firstWrongDoing_71 : decode cX2_firstWrongDoing 71 = .ok (.ifCond .ne 6, 3) := by decide +kernel
theorem dX2_firstWrongDoing_74 : decode cX2_firstWrongDoing 74 = .ok (.iload 4, 2) := by decide +kernel
theorem dX2_firstWrongDoing_76 : decode cX2_firstWrongDoing 76 = .ok (.ireturn, 1) := by decide +kernel
theorem dX2_firstWrongDoing_77 : decode cX2_firstWrongDoing 77 = .ok (.aload_n 0, 1) := by decide +kernel
theorem dX2_firstWrongDoing_78 : decode cX2_firstWrongDoing 78 = .ok (.iload 6, 2) := by decide +kernel
theorem dX2_firstWrongDoing_80 : decode cX2_firstWrongDoing 80 = .ok (.iload 7, 2) := by decide +kernel
theorem dX2_firstWrongDoing_82 : decode cX2_firstWrongDoing 82 = .ok (.iload 8, 2) := by decide +kernel
theorem dX2_firstWrongDoing_84 : decode cX2_firstWrongDoing 84 = .ok (.invokevirtual 77, 3) := by decide +kernel
theorem dX2_firstWrongDoing_87 : decode cX2_firstWrongDoing 87 = .ok (.iinc 4 1, 3) := by decide +kernel
theorem dX2_firstWrongDoing_90 : decode cX2_firstWrongDoing 90 = .ok (.goto (-76), 3) := by decide +kernel
theorem dX2_firstWrongDoing_93 : decode cX2_firstWrongDoing 93 = .ok (.bipush (-9), 2) := by decide +kernel
theorem dX2_firstWrongDoing_95 : decode cX2_firstWrongDoing 95 = .ok (.ireturn, 1) := by decide +kernel
theorem dX2_canBe_0 : decode cX2_canBe 0 = .ok (.iload_n 1, 1) := by decide +kernel
theorem dX2_canBe_1 : decode cX2_canBe 1 = .ok (.tableswitch 166 0 5 #[39, 53, 74, 39, 107, 137], 39) := by decide +kernel
theorem dX2_canBe_40 : decode cX2_canBe 40 = .ok (.iload_n 2, 1) := by decide +kernel
theorem dX2_canBe_41 : decode cX2_canBe 41 = .ok (.ifCond .ne 11, 3) := by decide +kernel
theorem dX2_canBe_44 : decode cX2_canBe 44 = .ok (.iload_n 3, 1) := by decide +kernel
theorem dX2_canBe_45 : decode cX2_canBe 45 = .ok (.ifCond .ne 7, 3) := by decide +kernel
theorem dX2_canBe_48 : decode cX2_canBe 48 = .ok (.iconst 1, 1) := by decide +kernel
theorem dX2_canBe_49 : decode cX2_canBe 49 = .ok (.goto 4, 3) := by decide +kernel
theorem dX2_canBe_52 : decode cX2_canBe 52 = .ok (.iconst 0, 1) := by decide +kernel
theorem dX2_canBe_53 : decode cX2_canBe 53 = .ok (.ireturn, 1) := by decide +kernel
theorem dX2_canBe_54 : decode cX2_canBe 54 = .ok (.aload_n 0, 1) := by decide +kernel
theorem dX2_canBe_55 : decode cX2_canBe 55 = .ok (.getfield 23, 3) := by decide +kernel
theorem dX2_canBe_58 : decode cX2_canBe 58 = .ok (.iload_n 2, 1) := by decide +kernel
theorem dX2_canBe_59 : decode cX2_canBe 59 = .ok (.invokevirtual 81, 3) := by decide +kernel
theorem dX2_canBe_62 : decode cX2_canBe 62 = .ok (.ifCond .eq 11, 3) := by decide +kernel
theorem dX2_canBe_65 : decode cX2_canBe 65 = .ok (.iload_n 3, 1) := by decide +kernel
theorem dX2_canBe_66 : decode cX2_canBe 66 = .ok (.ifCond .le 7, 3) := by decide +kernel
theorem dX2_canBe_69 : decode cX2_canBe 69 = .ok (.iconst 1, 1) := by decide +kernel
theorem dX2_canBe_70 : decode cX2_canBe 70 = .ok (.goto 4, 3) := by decide +kernel
theorem dX2_canBe_73 : decode cX2_canBe 73 = .ok (.iconst 0, 1) := by decide +kernel
theorem dX2_canBe_74 : decode cX2_canBe 74 = .ok (.ireturn, 1) := by decide +kernel
theorem dX2_canBe_75 : decode cX2_canBe 75 = .ok (.aload_n 0, 1) := by decide +kernel
theorem dX2_canBe_76 : decode cX2_canBe 76 = .ok (.getfield 23, 3) := by decide +kernel
theorem dX2_canBe_79 : decode cX2_canBe 79 = .ok (.iload_n 2, 1) := by decide +kernel
theorem dX2_canBe_80 : decode cX2_canBe 80 = .ok (.invokevirtual 81, 3) := by decide +kernel
theorem dX2_canBe_83 : decode cX2_canBe 83 = .ok (.ifCond .eq 23, 3) := by decide +kernel
theorem dX2_canBe_86 : decode cX2_canBe 86 = .ok (.aload_n 0, 1) := by decide +kernel
theorem dX2_canBe_87 : decode cX2_canBe 87 = .ok (.getfield 23, 3) := by decide +kernel
theorem dX2_canBe_90 : decode cX2_canBe 90 = .ok (.iload_n 3, 1) := by decide +kernel
theorem dX2_canBe_91 : decode cX2_canBe 91 = .ok (.invokevirtual 81, 3) := by decide +kernel
theorem dX2_canBe_94 : decode cX2_canBe 94 = .ok (.ifCond .eq 12, 3) := by decide +kernel
theorem dX2_canBe_97 : decode cX2_canBe 97 = .ok (.iload_n 2, 1) := by decide +kernel
theorem dX2_canBe_98 : decode cX2_canBe 98 = .ok (.iload_n 3, 1) := by decide +kernel
theorem dX2_canBe_99 : decode cX2_canBe 99 = .ok (.if_icmp .eq 7, 3) := by decide +kernel
theorem dX2_canBe_102 : decode cX2_canBe 102 = .ok (.iconst 1, 1) := by decide +kernel
theorem dX2_canBe_103 : decode cX2_canBe 103 = .ok (.goto 4, 3) := by decide +kernel
theorem dX2_canBe_106 : decode cX2_canBe 106 = .ok (.iconst 0, 1) := by decide +kernel
theorem dX2_canBe_107 : decode cX2_canBe 107 = .ok (.ireturn, 1) := by decide +kernel
theorem dX2_canBe_108 : decode cX2_canBe 108 = .ok (.aload_n 0, 1) := by decide +kernel
theorem dX2_canBe_109 : decode cX2_canBe 109 = .ok (.getfield 23, 3) := by decide +kernel
theorem dX2_canBe_112 : decode cX2_canBe 112 = .ok (.iload_n 2, 1) := by decide +kernel
theorem dX2_canBe_113 : decode cX2_canBe 113 = .ok (.invokevirtual 81, 3) := by decide +kernel
theorem dX2_canBe_116 : decode cX2_canBe 116 = .ok (.ifCond .eq 20, 3) := by decide +kernel
theorem dX2_canBe_119 : decode cX2_canBe 119 = .ok (.aload_n 0, 1) := by decide +kernel
theorem dX2_canBe_120 : decode cX2_canBe 120 = .ok (.getfield 23, 3) := by decide +kernel
theorem dX2_canBe_123 : decode cX2_canBe 123 = .ok (.getfield 36, 3) := by decide +kernel
theorem dX2_canBe_126 : decode cX2_canBe 126 = .ok (.iload_n 2, 1) := by decide +kernel
theorem dX2_canBe_127 : decode cX2_canBe 127 = .ok (.iaload, 1) := by decide +kernel
theorem dX2_canBe_128 : decode cX2_canBe 128 = .ok (.iload_n 3, 1) := by decide +kernel
theorem dX2_canBe_129 : decode cX2_canBe 129 = .ok (.if_icmp .ne 7, 3) := by decide +kernel
theorem dX2_canBe_132 : decode cX2_canBe 132 = .ok (.iconst 1, 1) := by decide +kernel
theorem dX2_canBe_133 : decode cX2_canBe 133 = .ok (.goto 4, 3) := by decide +kernel
theorem dX2_canBe_136 : decode cX2_canBe 136 = .ok (.iconst 0, 1) := by decide +kernel
theorem dX2_canBe_137 : decode cX2_canBe 137 = .ok (.ireturn, 1) := by decide +kernel
theorem dX2_canBe_138 : decode cX2_canBe 138 = .ok (.aload_n 0, 1) := by decide +kernel
theorem dX2_canBe_139 : decode cX2_canBe 139 = .ok (.getfield 23, 3) := by decide +kernel
theorem dX2_canBe_142 : decode cX2_canBe 142 = .ok (.iload_n 2, 1) := by decide +kernel
theorem dX2_canBe_143 : decode cX2_canBe 143 = .ok (.invokevirtual 81, 3) := by decide +kernel
theorem dX2_canBe_146 : decode cX2_canBe 146 = .ok (.ifCond .eq 19, 3) := by decide +kernel
theorem dX2_canBe_149 : decode cX2_canBe 149 = .ok (.aload_n 0, 1) := by decide +kernel
theorem dX2_canBe_150 : decode cX2_canBe 150 = .ok (.getfield 23, 3) := by decide +kernel
theorem dX2_canBe_153 : decode cX2_canBe 153 = .ok (.iload_n 2, 1) := by decide +kernel
theorem dX2_canBe_154 : decode cX2_canBe 154 = .ok (.invokevirtual 85, 3) := by decide +kernel
theorem dX2_canBe_157 : decode cX2_canBe 157 = .ok (.iload_n 3, 1) := by decide +kernel
theorem dX2_canBe_158 : decode cX2_canBe 158 = .ok (.if_icmp .ne 7, 3) := by decide +kernel
theorem dX2_canBe_161 : decode cX2_canBe 161 = .ok (.iconst 1, 1) := by decide +kernel
theorem dX2_canBe_162 : decode cX2_canBe 162 = .ok (.goto 4, 3) := by decide +kernel
theorem dX2_canBe_165 : decode cX2_canBe 165 = .ok (.iconst 0, 1) := by decide +kernel
theorem dX2_canBe_166 : decode cX2_canBe 166 = .ok (.ireturn, 1) := by decide +kernel
theorem dX2_canBe_167 : decode cX2_canBe 167 = .ok (.iconst 0, 1) := by decide +kernel
theorem dX2_canBe_168 : decode cX2_canBe 168 = .ok (.ireturn, 1) := by decide +kernel
theorem dX2_happen_0 : decode cX2_happen 0 = .ok (.iload_n 1, 1) := by decide +kernel
theorem dX2_happen_1 : decode cX2_happen 1 = .ok (.tableswitch 76 0 3 #[31, 42, 54, 66], 31) := by decide +kernel
theorem dX2_happen_32 : decode cX2_happen 32 = .ok (.aload_n 0, 1) := by decide +kernel
theorem dX2_happen_33 : decode cX2_happen 33 = .ok (.getfield 23, 3) := by decide +kernel
theorem dX2_happen_36 : decode cX2_happen 36 = .ok (.iconst 1, 1) := by decide +kernel
theorem dX2_happen_37 : decode cX2_happen 37 = .ok (.invokevirtual 32, 3) := by decide +kernel
theorem dX2_happen_40 : decode cX2_happen 40 = .ok (.goto 37, 3) := by decide +kernel
theorem dX2_happen_43 : decode cX2_happen 43 = .ok (.aload_n 0, 1) := by decide +kernel
theorem dX2_happen_44 : decode cX2_happen 44 = .ok (.getfield 23, 3) := by decide +kernel
theorem dX2_happen_47 : decode cX2_happen 47 = .ok (.iload_n 2, 1) := by decide +kernel
theorem dX2_happen_48 : decode cX2_happen 48 = .ok (.iload_n 3, 1) := by decide +kernel
theorem dX2_happen_49 : decode cX2_happen 49 = .ok (.invokevirtual 56, 3) := by decide +kernel
theorem dX2_happen_52 : decode cX2_happen 52 = .ok (.goto 25, 3) := by decide +kernel
theorem dX2_happen_55 : decode cX2_happen 55 = .ok (.aload_n 0, 1) := by decide +kernel
theorem dX2_happen_56 : decode cX2_happen 56 = .ok (.getfield 23, 3) := by decide +kernel
theorem dX2_happen_59 : decode cX2_happen 59 = .ok (.iload_n 2, 1) := by decide +kernel
theorem dX2_happen_60 : decode cX2_happen 60 = .ok (.iload_n 3, 1) := by decide +kernel
theorem dX2_happen_61 : decode cX2_happen 61 = .ok (.invokevirtual 64, 3) := by decide +kernel
theorem dX2_happen_64 : decode cX2_happen 64 = .ok (.goto 13, 3) := by decide +kernel
theorem dX2_happen_67 : decode cX2_happen 67 = .ok (.aload_n 0, 1) := by decide +kernel
theorem dX2_happen_68 : decode cX2_happen 68 = .ok (.getfield 23, 3) := by decide +kernel
theorem dX2_happen_71 : decode cX2_happen 71 = .ok (.invokevirtual 88, 3) := by decide +kernel
theorem dX2_happen_74 : decode cX2_happen 74 = .ok (.goto 3, 3) := by decide +kernel
theorem dX2_happen_77 : decode cX2_happen 77 = .ok (.return_, 1) := by decide +kernel
theorem dX2_goodsThatFit_0 : decode cX2_goodsThatFit 0 = .ok (.iconst 0, 1) := by decide +kernel
theorem dX2_goodsThatFit_1 : decode cX2_goodsThatFit 1 = .ok (.istore_n 3, 1) := by decide +kernel
theorem dX2_goodsThatFit_2 : decode cX2_goodsThatFit 2 = .ok (.iconst 0, 1) := by decide +kernel
theorem dX2_goodsThatFit_3 : decode cX2_goodsThatFit 3 = .ok (.istore 4, 2) := by decide +kernel
theorem dX2_goodsThatFit_5 : decode cX2_goodsThatFit 5 = .ok (.iload 4, 2) := by decide +kernel
theorem dX2_goodsThatFit_7 : decode cX2_goodsThatFit 7 = .ok (.bipush 9, 2) := by decide +kernel
theorem dX2_goodsThatFit_9 : decode cX2_goodsThatFit 9 = .ok (.if_icmp .gt 46, 3) := by decide +kernel
theorem dX2_goodsThatFit_12 : decode cX2_goodsThatFit 12 = .ok (.aload_n 0, 1) := by decide +kernel
theorem dX2_goodsThatFit_13 : decode cX2_goodsThatFit 13 = .ok (.getfield 23, 3) := by decide +kernel
theorem dX2_goodsThatFit_16 : decode cX2_goodsThatFit 16 = .ok (.aload_n 0, 1) := by decide +kernel
theorem dX2_goodsThatFit_17 : decode cX2_goodsThatFit 17 = .ok (.getfield 19, 3) := by decide +kernel
theorem dX2_goodsThatFit_20 : decode cX2_goodsThatFit 20 = .ok (.invokevirtual 26, 3) := by decide +kernel
theorem dX2_goodsThatFit_23 : decode cX2_goodsThatFit 23 = .ok (.aload_n 0, 1) := by decide +kernel
theorem dX2_goodsThatFit_24 : decode cX2_goodsThatFit 24 = .ok (.getfield 23, 3) := by decide +kernel
theorem dX2_goodsThatFit_27 : decode cX2_goodsThatFit 27 = .ok (.getfield 91, 3) := by decide +kernel
theorem dX2_goodsThatFit_30 : decode cX2_goodsThatFit 30 = .ok (.iload_n 1, 1) := by decide +kernel
theorem dX2_goodsThatFit_31 : decode cX2_goodsThatFit 31 = .ok (.iload 4, 2) := by decide +kernel
theorem dX2_goodsThatFit_33 : decode cX2_goodsThatFit 33 = .ok (.iastore, 1) := by decide +kernel
theorem dX2_goodsThatFit_34 : decode cX2_goodsThatFit 34 = .ok (.aload_n 0, 1) := by decide +kernel
theorem dX2_goodsThatFit_35 : decode cX2_goodsThatFit 35 = .ok (.aload_n 2, 1) := by decide +kernel
theorem dX2_goodsThatFit_36 : decode cX2_goodsThatFit 36 = .ok (.invokevirtual 94, 3) := by decide +kernel
theorem dX2_goodsThatFit_39 : decode cX2_goodsThatFit 39 = .ok (.ifCond .eq 10, 3) := by decide +kernel
theorem dX2_goodsThatFit_42 : decode cX2_goodsThatFit 42 = .ok (.iload_n 3, 1) := by decide +kernel
theorem dX2_goodsThatFit_43 : decode cX2_goodsThatFit 43 = .ok (.iconst 1, 1) := by decide +kernel
theorem dX2_goodsThatFit_44 : decode cX2_goodsThatFit 44 = .ok (.iload 4, 2) := by decide +kernel
theorem dX2_goodsThatFit_46 : decode cX2_goodsThatFit 46 = .ok (.ishl, 1) := by decide +kernel
theorem dX2_goodsThatFit_47 : decode cX2_goodsThatFit 47 = .ok (.ior, 1) := by decide +kernel
theorem dX2_goodsThatFit_48 : decode cX2_goodsThatFit 48 = .ok (.istore_n 3, 1) := by decide +kernel
theorem dX2_goodsThatFit_49 : decode cX2_goodsThatFit 49 = .ok (.iinc 4 1, 3) := by decide +kernel
theorem dX2_goodsThatFit_52 : decode cX2_goodsThatFit 52 = .ok (.goto (-47), 3) := by decide +kernel
theorem dX2_goodsThatFit_55 : decode cX2_goodsThatFit 55 = .ok (.iload_n 3, 1) := by decide +kernel
theorem dX2_goodsThatFit_56 : decode cX2_goodsThatFit 56 = .ok (.ireturn, 1) := by decide +kernel
theorem dX2_isAllHeard_0 : decode cX2_isAllHeard 0 = .ok (.iconst 0, 1) := by decide +kernel
theorem dX2_isAllHeard_1 : decode cX2_isAllHeard 1 = .ok (.istore_n 2, 1) := by decide +kernel
theorem dX2_isAllHeard_2 : decode cX2_isAllHeard 2 = .ok (.iload_n 2, 1) := by decide +kernel
theorem dX2_isAllHeard_3 : decode cX2_isAllHeard 3 = .ok (.bipush 9, 2) := by decide +kernel
theorem dX2_isAllHeard_5 : decode cX2_isAllHeard 5 = .ok (.if_icmp .gt 31, 3) := by decide +kernel
theorem dX2_isAllHeard_8 : decode cX2_isAllHeard 8 = .ok (.aload_n 1, 1) := by decide +kernel
theorem dX2_isAllHeard_9 : decode cX2_isAllHeard 9 = .ok (.iload_n 2, 1) := by decide +kernel
theorem dX2_isAllHeard_10 : decode cX2_isAllHeard 10 = .ok (.aload_n 0, 1) := by decide +kernel
theorem dX2_isAllHeard_11 : decode cX2_isAllHeard 11 = .ok (.getfield 23, 3) := by decide +kernel
theorem dX2_isAllHeard_14 : decode cX2_isAllHeard 14 = .ok (.invokevirtual 98, 3) := by decide +kernel
theorem dX2_isAllHeard_17 : decode cX2_isAllHeard 17 = .ok (.ifCond .ne 5, 3) := by decide +kernel
theorem dX2_isAllHeard_20 : decode cX2_isAllHeard 20 = .ok (.iconst 0, 1) := by decide +kernel
theorem dX2_isAllHeard_21 : decode cX2_isAllHeard 21 = .ok (.ireturn, 1) := by decide +kernel
theorem dX2_isAllHeard_22 : decode cX2_isAllHeard 22 = .ok (.aload_n 0, 1) := by decide +kernel
theorem dX2_isAllHeard_23 : decode cX2_isAllHeard 23 = .ok (.getfield 23, 3) := by decide +kernel
theorem dX2_isAllHeard_26 : decode cX2_isAllHeard 26 = .ok (.iconst 1, 1) := by decide +kernel
theorem dX2_isAllHeard_27 : decode cX2_isAllHeard 27 = .ok (.invokevirtual 32, 3) := by decide +kernel
theorem dX2_isAllHeard_30 : decode cX2_isAllHeard 30 = .ok (.iinc 2 1, 3) := by decide +kernel
theorem dX2_isAllHeard_33 : decode cX2_isAllHeard 33 = .ok (.goto (-31), 3) := by decide +kernel
theorem dX2_isAllHeard_36 : decode cX2_isAllHeard 36 = .ok (.iconst 1, 1) := by decide +kernel
theorem dX2_isAllHeard_37 : decode cX2_isAllHeard 37 = .ok (.ireturn, 1) := by decide +kernel
theorem dX3_init_0 : decode cX3_init 0 = .ok (.aload_n 0, 1) := by decide +kernel
theorem dX3_init_1 : decode cX3_init 1 = .ok (.invokespecial 3, 3) := by decide +kernel
theorem dX3_init_4 : decode cX3_init 4 = .ok (.aload_n 0, 1) := by decide +kernel
theorem dX3_init_5 : decode cX3_init 5 = .ok (.bipush 6, 2) := by decide +kernel
theorem dX3_init_7 : decode cX3_init 7 = .ok (.newarray .int, 2) := by decide +kernel
theorem dX3_init_9 : decode cX3_init 9 = .ok (.putfield 9, 3) := by decide +kernel
theorem dX3_init_12 : decode cX3_init 12 = .ok (.aload_n 0, 1) := by decide +kernel
theorem dX3_init_13 : decode cX3_init 13 = .ok (.bipush 6, 2) := by decide +kernel
theorem dX3_init_15 : decode cX3_init 15 = .ok (.newarray .int, 2) := by decide +kernel
theorem dX3_init_17 : decode cX3_init 17 = .ok (.putfield 15, 3) := by decide +kernel
theorem dX3_init_20 : decode cX3_init 20 = .ok (.aload_n 0, 1) := by decide +kernel
theorem dX3_init_21 : decode cX3_init 21 = .ok (.bipush 6, 2) := by decide +kernel
theorem dX3_init_23 : decode cX3_init 23 = .ok (.newarray .int, 2) := by decide +kernel
theorem dX3_init_25 : decode cX3_init 25 = .ok (.putfield 18, 3) := by decide +kernel
theorem dX3_init_28 : decode cX3_init 28 = .ok (.aload_n 0, 1) := by decide +kernel
theorem dX3_init_29 : decode cX3_init 29 = .ok (.iconst 0, 1) := by decide +kernel
theorem dX3_init_30 : decode cX3_init 30 = .ok (.putfield 21, 3) := by decide +kernel
theorem dX3_init_33 : decode cX3_init 33 = .ok (.return_, 1) := by decide +kernel
theorem dX3_put_0 : decode cX3_put 0 = .ok (.aload_n 0, 1) := by decide +kernel
theorem dX3_put_1 : decode cX3_put 1 = .ok (.getfield 21, 3) := by decide +kernel
theorem dX3_put_4 : decode cX3_put 4 = .ok (.ifCond .lt 12, 3) := by decide +kernel
theorem dX3_put_7 : decode cX3_put 7 = .ok (.aload_n 0, 1) := by decide +kernel
theorem dX3_put_8 : decode cX3_put 8 = .ok (.getfield 21, 3) := by decide +kernel
theorem dX3_put_11 : decode cX3_put 11 = .ok (.bipush 6, 2) := by decide +kernel
theorem dX3_put_13 : decode cX3_put 13 = .ok (.if_icmp .lt 5, 3) := by decide +kernel
theorem dX3_put_16 : decode cX3_put 16 = .ok (.iconst 0, 1) := by decide +kernel
theorem dX3_put_17 : decode cX3_put 17 = .ok (.ireturn, 1) := by decide +kernel
theorem dX3_put_18 : decode cX3_put 18 = .ok (.aload_n 0, 1) := by decide +kernel
theorem dX3_put_19 : decode cX3_put 19 = .ok (.getfield 9, 3) := by decide +kernel
theorem dX3_put_22 : decode cX3_put 22 = .ok (.aload_n 0, 1) := by decide +kernel
theorem dX3_put_23 : decode cX3_put 23 = .ok (.getfield 21, 3) := by decide +kernel
theorem dX3_put_26 : decode cX3_put 26 = .ok (.iload_n 1, 1) := by decide +kernel
theorem dX3_put_27 : decode cX3_put 27 = .ok (.iastore, 1) := by decide +kernel
theorem dX3_put_28 : decode cX3_put 28 = .ok (.aload_n 0, 1) := by decide +kernel
theorem dX3_put_29 : decode cX3_put 29 = .ok (.getfield 15, 3) := by decide +kernel
theorem dX3_put_32 : decode cX3_put 32 = .ok (.aload_n 0, 1) := by decide +kernel
theorem dX3_put_33 : decode cX3_put 33 = .ok (.getfield 21, 3) := by decide +kernel
theorem dX3_put_36 : decode cX3_put 36 = .ok (.iload_n 2, 1) := by decide +kernel
theorem dX3_put_37 : decode cX3_put 37 = .ok (.iastore, 1) := by decide +kernel
theorem dX3_put_38 : decode cX3_put 38 = .ok (.aload_n 0, 1) := by decide +kernel
theorem dX3_put_39 : decode cX3_put 39 = .ok (.getfield 18, 3) := by decide +kernel
theorem dX3_put_42 : decode cX3_put 42 = .ok (.aload_n 0, 1) := by decide +kernel
theorem dX3_put_43 : decode cX3_put 43 = .ok (.getfield 21, 3) := by decide +kernel
theorem dX3_put_46 : decode cX3_put 46 = .ok (.iload_n 3, 1) := by decide +kernel
theorem dX3_put_47 : decode cX3_put 47 = .ok (.iastore, 1) := by decide +kernel
theorem dX3_put_48 : decode cX3_put 48 = .ok (.aload_n 0, 1) := by decide +kernel
theorem dX3_put_49 : decode cX3_put 49 = .ok (.dup, 1) := by decide +kernel
theorem dX3_put_50 : decode cX3_put 50 = .ok (.getfield 21, 3) := by decide +kernel
theorem dX3_put_53 : decode cX3_put 53 = .ok (.iconst 1, 1) := by decide +kernel
theorem dX3_put_54 : decode cX3_put 54 = .ok (.iadd, 1) := by decide +kernel
theorem dX3_put_55 : decode cX3_put 55 = .ok (.putfield 21, 3) := by decide +kernel
theorem dX3_put_58 : decode cX3_put 58 = .ok (.iconst 1, 1) := by decide +kernel
theorem dX3_put_59 : decode cX3_put 59 = .ok (.ireturn, 1) := by decide +kernel
theorem dX3_allowsAt_0 : decode cX3_allowsAt 0 = .ok (.iconst 0, 1) := by decide +kernel
theorem dX3_allowsAt_1 : decode cX3_allowsAt 1 = .ok (.istore_n 3, 1) := by decide +kernel
theorem dX3_allowsAt_2 : decode cX3_allowsAt 2 = .ok (.iload_n 3, 1) := by decide +kernel
theorem dX3_allowsAt_3 : decode cX3_allowsAt 3 = .ok (.aload_n 0, 1) := by decide +kernel
theorem dX3_allowsAt_4 : decode cX3_allowsAt 4 = .ok (.getfield 21, 3) := by decide +kernel
theorem dX3_allowsAt_7 : decode cX3_allowsAt 7 = .ok (.if_icmp .ge 60, 3) := by decide +kernel
theorem dX3_allowsAt_10 : decode cX3_allowsAt 10 = .ok (.iload_n 3, 1) := by decide +kernel
theorem dX3_allowsAt_11 : decode cX3_allowsAt 11 = .ok (.bipush 6, 2) := by decide +kernel
theorem dX3_allowsAt_13 : decode cX3_allowsAt 13 = .ok (.if_icmp .ge 54, 3) := by decide +kernel
theorem dX3_allowsAt_16 : decode cX3_allowsAt 16 = .ok (.aload_n 0, 1) := by decide +kernel
theorem dX3_allowsAt_17 : decode cX3_allowsAt 17 = .ok (.getfield 9, 3) := by decide +kernel
theorem dX3_allowsAt_20 : decode cX3_allowsAt 20 = .ok (.iload_n 3, 1) := by decide +kernel
theorem dX3_allowsAt_21 : decode cX3_allowsAt 21 = .ok (.iaload, 1) := by decide +kernel
theorem dX3_allowsAt_22 : decode cX3_allowsAt 22 = .ok (.istore 4, 2) := by decide +kernel
theorem dX3_allowsAt_24 : decode cX3_allowsAt 24 = .ok (.aload_n 0, 1) := by decide +kernel
theorem dX3_allowsAt_25 : decode cX3_allowsAt 25 = .ok (.getfield 15, 3) := by decide +kernel
theorem dX3_allowsAt_28 : decode cX3_allowsAt 28 = .ok (.iload_n 3, 1) := by decide +kernel
theorem dX3_allowsAt_29 : decode cX3_allowsAt 29 = .ok (.iaload, 1) := by decide +kernel
theorem dX3_allowsAt_30 : decode cX3_allowsAt 30 = .ok (.iload_n 1, 1) := by decide +kernel
theorem dX3_allowsAt_31 : decode cX3_allowsAt 31 = .ok (.if_icmp .ne 30, 3) := by decide +kernel
theorem dX3_allowsAt_34 : decode cX3_allowsAt 34 = .ok (.aload_n 2, 1) := by decide +kernel
theorem dX3_allowsAt_35 : decode cX3_allowsAt 35 = .ok (.iload 4, 2) := by decide +kernel
theorem dX3_allowsAt_37 : decode cX3_allowsAt 37 = .ok (.invokevirtual 25, 3) := by decide +kernel
theorem dX3_allowsAt_40 : decode cX3_allowsAt 40 = .ok (.ifCond .eq 21, 3) := by decide +kernel
theorem dX3_allowsAt_43 : decode cX3_allowsAt 43 = .ok (.aload_n 2, 1) := by decide +kernel
theorem dX3_allowsAt_44 : decode cX3_allowsAt 44 = .ok (.getfield 31, 3) := by decide +kernel
theorem dX3_allowsAt_47 : decode cX3_allowsAt 47 = .ok (.iload 4, 2) := by decide +kernel
theorem dX3_allowsAt_49 : decode cX3_allowsAt 49 = .ok (.iaload, 1) := by decide +kernel
theorem dX3_allowsAt_50 : decode cX3_allowsAt 50 = .ok (.aload_n 0, 1) := by decide +kernel
theorem dX3_allowsAt_51 : decode cX3_allowsAt 51 = .ok (.getfield 18, 3) := by decide +kernel
theorem dX3_allowsAt_54 : decode cX3_allowsAt 54 = .ok (.iload_n 3, 1) := by decide +kernel
theorem dX3_allowsAt_55 : decode cX3_allowsAt 55 = .ok (.iaload, 1) := by decide +kernel
theorem dX3_allowsAt_56 : decode cX3_allowsAt 56 = .ok (.if_icmp .eq 5, 3) := by decide +kernel
theorem dX3_allowsAt_59 : decode cX3_allowsAt 59 = .ok (.iconst 0, 1) := by decide +kernel
theorem dX3_allowsAt_60 : decode cX3_allowsAt 60 = .ok (.ireturn, 1) := by decide +kernel
theorem dX3_allowsAt_61 : decode cX3_allowsAt 61 = .ok (.iinc 3 1, 3) := by decide +kernel
theorem dX3_allowsAt_64 : decode cX3_allowsAt 64 = .ok (.goto (-62), 3) := by decide +kernel
theorem dX3_allowsAt_67 : decode cX3_allowsAt 67 = .ok (.iconst 1, 1) := by decide +kernel
theorem dX3_allowsAt_68 : decode cX3_allowsAt 68 = .ok (.ireturn, 1) := by decide +kernel
theorem dX4_init_0 : decode cX4_init 0 = .ok (.aload_n 0, 1) := by decide +kernel
theorem dX4_init_1 : decode cX4_init 1 = .ok (.invokespecial 3, 3) := by decide +kernel
theorem dX4_init_4 : decode cX4_init 4 = .ok (.aload_n 0, 1) := by decide +kernel
theorem dX4_init_5 : decode cX4_init 5 = .ok (.bipush 6, 2) := by decide +kernel
theorem dX4_init_7 : decode cX4_init 7 = .ok (.newarray .int, 2) := by decide +kernel
theorem dX4_init_9 : decode cX4_init 9 = .ok (.putfield 9, 3) := by decide +kernel
theorem dX4_init_12 : decode cX4_init 12 = .ok (.aload_n 0, 1) := by decide +kernel
theorem dX4_init_13 : decode cX4_init 13 = .ok (.bipush 6, 2) := by decide +kernel
theorem dX4_init_15 : decode cX4_init 15 = .ok (.newarray .int, 2) := by decide +kernel
theorem dX4_init_17 : decode cX4_init 17 = .ok (.putfield 15, 3) := by decide +kernel
theorem dX4_init_20 : decode cX4_init 20 = .ok (.aload_n 0, 1) := by decide +kernel
theorem dX4_init_21 : decode cX4_init 21 = .ok (.bipush 6, 2) := by decide +kernel
theorem dX4_init_23 : decode cX4_init 23 = .ok (.newarray .int, 2) := by decide +kernel
theorem dX4_init_25 : decode cX4_init 25 = .ok (.putfield 18, 3) := by decide +kernel
theorem dX4_init_28 : decode cX4_init 28 = .ok (.aload_n 0, 1) := by decide +kernel
theorem dX4_init_29 : decode cX4_init 29 = .ok (.iconst 0, 1) := by decide +kernel
theorem dX4_init_30 : decode cX4_init 30 = .ok (.putfield 21, 3) := by decide +kernel
theorem dX4_init_33 : decode cX4_init 33 = .ok (.return_, 1) := by decide +kernel
theorem dX4_everybody_0 : decode cX4_everybody 0 = .ok (.iconst 1, 1) := by decide +kernel
theorem dX4_everybody_1 : decode cX4_everybody 1 = .ok (.aload_n 0, 1) := by decide +kernel
theorem dX4_everybody_2 : decode cX4_everybody 2 = .ok (.getfield 21, 3) := by decide +kernel
theorem dX4_everybody_5 : decode cX4_everybody 5 = .ok (.ishl, 1) := by decide +kernel
theorem dX4_everybody_6 : decode cX4_everybody 6 = .ok (.iconst 1, 1) := by decide +kernel
theorem dX4_everybody_7 : decode cX4_everybody 7 = .ok (.isub, 1) := by decide +kernel
theorem dX4_everybody_8 : decode cX4_everybody 8 = .ok (.ireturn, 1) := by decide +kernel
theorem dX5_init_0 : decode cX5_init 0 = .ok (.aload_n 0, 1) := by decide +kernel
theorem dX5_init_1 : decode cX5_init 1 = .ok (.invokespecial 3, 3) := by decide +kernel
theorem dX5_init_4 : decode cX5_init 4 = .ok (.aload_n 0, 1) := by decide +kernel
theorem dX5_init_5 : decode cX5_init 5 = .ok (.bipush 48, 2) := by decide +kernel
theorem dX5_init_7 : decode cX5_init 7 = .ok (.newarray .int, 2) := by decide +kernel
theorem dX5_init_9 : decode cX5_init 9 = .ok (.putfield 9, 3) := by decide +kernel
theorem dX5_init_12 : decode cX5_init 12 = .ok (.aload_n 0, 1) := by decide +kernel
theorem dX5_init_13 : decode cX5_init 13 = .ok (.iconst 0, 1) := by decide +kernel
theorem dX5_init_14 : decode cX5_init 14 = .ok (.putfield 15, 3) := by decide +kernel
theorem dX5_init_17 : decode cX5_init 17 = .ok (.return_, 1) := by decide +kernel
theorem dX5_put_0 : decode cX5_put 0 = .ok (.aload_n 0, 1) := by decide +kernel
theorem dX5_put_1 : decode cX5_put 1 = .ok (.getfield 15, 3) := by decide +kernel
theorem dX5_put_4 : decode cX5_put 4 = .ok (.ifCond .lt 15, 3) := by decide +kernel
theorem dX5_put_7 : decode cX5_put 7 = .ok (.aload_n 0, 1) := by decide +kernel
theorem dX5_put_8 : decode cX5_put 8 = .ok (.getfield 15, 3) := by decide +kernel
theorem dX5_put_11 : decode cX5_put 11 = .ok (.aload_n 0, 1) := by decide +kernel
theorem dX5_put_12 : decode cX5_put 12 = .ok (.getfield 9, 3) := by decide +kernel
theorem dX5_put_15 : decode cX5_put 15 = .ok (.arraylength, 1) := by decide +kernel
theorem dX5_put_16 : decode cX5_put 16 = .ok (.if_icmp .lt 5, 3) := by decide +kernel
theorem dX5_put_19 : decode cX5_put 19 = .ok (.iconst 0, 1) := by decide +kernel
theorem dX5_put_20 : decode cX5_put 20 = .ok (.ireturn, 1) := by decide +kernel
theorem dX5_put_21 : decode cX5_put 21 = .ok (.aload_n 0, 1) := by decide +kernel
theorem dX5_put_22 : decode cX5_put 22 = .ok (.getfield 9, 3) := by decide +kernel
theorem dX5_put_25 : decode cX5_put 25 = .ok (.aload_n 0, 1) := by decide +kernel
theorem dX5_put_26 : decode cX5_put 26 = .ok (.getfield 15, 3) := by decide +kernel
theorem dX5_put_29 : decode cX5_put 29 = .ok (.iload_n 1, 1) := by decide +kernel
theorem dX5_put_30 : decode cX5_put 30 = .ok (.iastore, 1) := by decide +kernel
theorem dX5_put_31 : decode cX5_put 31 = .ok (.aload_n 0, 1) := by decide +kernel
theorem dX5_put_32 : decode cX5_put 32 = .ok (.dup, 1) := by decide +kernel
theorem dX5_put_33 : decode cX5_put 33 = .ok (.getfield 15, 3) := by decide +kernel
theorem dX5_put_36 : decode cX5_put 36 = .ok (.iconst 1, 1) := by decide +kernel
theorem dX5_put_37 : decode cX5_put 37 = .ok (.iadd, 1) := by decide +kernel
theorem dX5_put_38 : decode cX5_put 38 = .ok (.putfield 15, 3) := by decide +kernel
theorem dX5_put_41 : decode cX5_put 41 = .ok (.iconst 1, 1) := by decide +kernel
theorem dX5_put_42 : decode cX5_put 42 = .ok (.ireturn, 1) := by decide +kernel
theorem dX5_firstFault_0 : decode cX5_firstFault 0 = .ok (.iconst 0, 1) := by decide +kernel
theorem dX5_firstFault_1 : decode cX5_firstFault 1 = .ok (.istore_n 1, 1) := by decide +kernel
theorem dX5_firstFault_2 : decode cX5_firstFault 2 = .ok (.iconst 0, 1) := by decide +kernel
theorem dX5_firstFault_3 : decode cX5_firstFault 3 = .ok (.istore_n 2, 1) := by decide +kernel
theorem dX5_firstFault_4 : decode cX5_firstFault 4 = .ok (.iload_n 2, 1) := by decide +kernel
theorem dX5_firstFault_5 : decode cX5_firstFault 5 = .ok (.aload_n 0, 1) := by decide +kernel
theorem dX5_firstFault_6 : decode cX5_firstFault 6 = .ok (.getfield 15, 3) := by decide +kernel
theorem dX5_firstFault_9 : decode cX5_firstFault 9 = .ok (.if_icmp .ge 56, 3) := by decide +kernel
theorem dX5_firstFault_12 : decode cX5_firstFault 12 = .ok (.iload_n 2, 1) := by decide +kernel
theorem dX5_firstFault_13 : decode cX5_firstFault 13 = .ok (.aload_n 0, 1) := by decide +kernel
theorem dX5_firstFault_14 : decode cX5_firstFault 14 = .ok (.getfield 9, 3) := by decide +kernel
theorem dX5_firstFault_17 : decode cX5_firstFault 17 = .ok (.arraylength, 1) := by decide +kernel
theorem dX5_firstFault_18 : decode cX5_firstFault 18 = .ok (.if_icmp .ge 47, 3) := by decide +kernel
theorem dX5_firstFault_21 : decode cX5_firstFault 21 = .ok (.iload_n 2, 1) := by decide +kernel
theorem dX5_firstFault_22 : decode cX5_firstFault 22 = .ok (.aload_n 0, 1) := by decide +kernel
theorem dX5_firstFault_23 : decode cX5_firstFault 23 = .ok (.getfield 9, 3) := by decide +kernel
theorem dX5_firstFault_26 : decode cX5_firstFault 26 = .ok (.iload_n 2, 1) := by decide +kernel
theorem dX5_firstFault_27 : decode cX5_firstFault 27 = .ok (.iaload, 1) := by decide +kernel
theorem dX5_firstFault_28 : decode cX5_firstFault 28 = .ok (.iload_n 1, 1) := by decide +kernel
theorem dX5_firstFault_29 : decode cX5_firstFault 29 = .ok (.invokestatic 19, 3) := by decide +kernel
theorem dX5_firstFault_32 : decode cX5_firstFault 32 = .ok (.ifCond .ne 5, 3) := by decide +kernel
theorem dX5_firstFault_35 : decode cX5_firstFault 35 = .ok (.iload_n 2, 1) := by decide +kernel
theorem dX5_firstFault_36 : decode cX5_firstFault 36 = .ok (.ireturn, 1) := by decide +kernel
theorem dX5_firstFault_37 : decode cX5_firstFault 37 = .ok (.iload_n 2, 1) := by decide +kernel
theorem dX5_firstFault_38 : decode cX5_firstFault 38 = .ok (.invokestatic 23, 3) := by decide +kernel
theorem dX5_firstFault_41 : decode cX5_firstFault 41 = .ok (.iconst 1, 1) := by decide +kernel
theorem dX5_firstFault_42 : decode cX5_firstFault 42 = .ok (.if_icmp .ne 17, 3) := by decide +kernel
theorem dX5_firstFault_45 : decode cX5_firstFault 45 = .ok (.iload_n 1, 1) := by decide +kernel
theorem dX5_firstFault_46 : decode cX5_firstFault 46 = .ok (.iconst 1, 1) := by decide +kernel
theorem dX5_firstFault_47 : decode cX5_firstFault 47 = .ok (.aload_n 0, 1) := by decide +kernel
theorem dX5_firstFault_48 : decode cX5_firstFault 48 = .ok (.getfield 9, 3) := by decide +kernel
theorem dX5_firstFault_51 : decode cX5_firstFault 51 = .ok (.iload_n 2, 1) := by decide +kernel
theorem dX5_firstFault_52 : decode cX5_firstFault 52 = .ok (.iaload, 1) := by decide +kernel
theorem dX5_firstFault_53 : decode cX5_firstFault 53 = .ok (.bipush 48, 2) := by decide +kernel
theorem dX5_firstFault_55 : decode cX5_firstFault 55 = .ok (.isub, 1) := by decide +kernel
theorem dX5_firstFault_56 : decode cX5_firstFault 56 = .ok (.ishl, 1) := by decide +kernel
theorem dX5_firstFault_57 : decode cX5_firstFault 57 = .ok (.ior, 1) := by decide +kernel
theorem dX5_firstFault_58 : decode cX5_firstFault 58 = .ok (.istore_n 1, 1) := by decide +kernel
theorem dX5_firstFault_59 : decode cX5_firstFault 59 = .ok (.iinc 2 1, 3) := by decide +kernel
theorem dX5_firstFault_62 : decode cX5_firstFault 62 = .ok (.goto (-58), 3) := by decide +kernel
theorem dX5_firstFault_65 : decode cX5_firstFault 65 = .ok (.aload_n 0, 1) := by decide +kernel
theorem dX5_firstFault_66 : decode cX5_firstFault 66 = .ok (.getfield 15, 3) := by decide +kernel
theorem dX5_firstFault_69 : decode cX5_firstFault 69 = .ok (.ifCond .le 17, 3) := by decide +kernel
theorem dX5_firstFault_72 : decode cX5_firstFault 72 = .ok (.aload_n 0, 1) := by decide +kernel
theorem dX5_firstFault_73 : decode cX5_firstFault 73 = .ok (.getfield 15, 3) := by decide +kernel
theorem dX5_firstFault_76 : decode cX5_firstFault 76 = .ok (.invokestatic 23, 3) := by decide +kernel
theorem dX5_firstFault_79 : decode cX5_firstFault 79 = .ok (.ifCond .ne 7, 3) := by decide +kernel
theorem dX5_firstFault_82 : decode cX5_firstFault 82 = .ok (.iconst 1, 1) := by decide +kernel
theorem dX5_firstFault_83 : decode cX5_firstFault 83 = .ok (.goto 4, 3) := by decide +kernel
theorem dX5_firstFault_86 : decode cX5_firstFault 86 = .ok (.iconst 0, 1) := by decide +kernel
theorem dX5_firstFault_87 : decode cX5_firstFault 87 = .ok (.istore_n 2, 1) := by decide +kernel
theorem dX5_firstFault_88 : decode cX5_firstFault 88 = .ok (.iload_n 2, 1) := by decide +kernel
theorem dX5_firstFault_89 : decode cX5_firstFault 89 = .ok (.ifCond .eq 8, 3) := by decide +kernel
theorem dX5_firstFault_92 : decode cX5_firstFault 92 = .ok (.bipush (-9), 2) := by decide +kernel
theorem dX5_firstFault_94 : decode cX5_firstFault 94 = .ok (.goto 7, 3) := by decide +kernel
theorem dX5_firstFault_97 : decode cX5_firstFault 97 = .ok (.aload_n 0, 1) := by decide +kernel
theorem dX5_firstFault_98 : decode cX5_firstFault 98 = .ok (.getfield 15, 3) := by decide +kernel
theorem dX5_firstFault_101 : decode cX5_firstFault 101 = .ok (.ireturn, 1) := by decide +kernel
theorem dX5_part_0 : decode cX5_part 0 = .ok (.iload_n 0, 1) := by decide +kernel
theorem dX5_part_1 : decode cX5_part 1 = .ok (.iconst 1, 1) := by decide +kernel
theorem dX5_part_2 : decode cX5_part 2 = .ok (.if_icmp .ge 8, 3) := by decide +kernel
theorem dX5_part_5 : decode cX5_part 5 = .ok (.bipush (-9), 2) := by decide +kernel
theorem dX5_part_7 : decode cX5_part 7 = .ok (.goto 9, 3) := by decide +kernel
theorem dX5_part_10 : decode cX5_part 10 = .ok (.iload_n 0, 1) := by decide +kernel
theorem dX5_part_11 : decode cX5_part 11 = .ok (.iconst 1, 1) := by decide +kernel
theorem dX5_part_12 : decode cX5_part 12 = .ok (.isub, 1) := by decide +kernel
theorem dX5_part_13 : decode cX5_part 13 = .ok (.bipush 6, 2) := by decide +kernel
theorem dX5_part_15 : decode cX5_part 15 = .ok (.irem, 1) := by decide +kernel
theorem dX5_part_16 : decode cX5_part 16 = .ok (.ireturn, 1) := by decide +kernel
theorem dX5_canStand_0 : decode cX5_canStand 0 = .ok (.iload_n 0, 1) := by decide +kernel
theorem dX5_canStand_1 : decode cX5_canStand 1 = .ok (.ifCond .ne 15, 3) := by decide +kernel
theorem dX5_canStand_4 : decode cX5_canStand 4 = .ok (.iload_n 1, 1) := by decide +kernel
theorem dX5_canStand_5 : decode cX5_canStand 5 = .ok (.bipush 67, 2) := by decide +kernel
theorem dX5_canStand_7 : decode cX5_canStand 7 = .ok (.if_icmp .ne 7, 3) := by decide +kernel
theorem dX5_canStand_10 : decode cX5_canStand 10 = .ok (.iconst 1, 1) := by decide +kernel
theorem dX5_canStand_11 : decode cX5_canStand 11 = .ok (.goto 4, 3) := by decide +kernel
theorem dX5_canStand_14 : decode cX5_canStand 14 = .ok (.iconst 0, 1) := by decide +kernel
theorem dX5_canStand_15 : decode cX5_canStand 15 = .ok (.ireturn, 1) := by decide +kernel
theorem dX5_canStand_16 : decode cX5_canStand 16 = .ok (.iload_n 0, 1) := by decide +kernel
theorem dX5_canStand_17 : decode cX5_canStand 17 = .ok (.bipush 36, 2) := by decide +kernel
theorem dX5_canStand_19 : decode cX5_canStand 19 = .ok (.if_icmp .le 5, 3) := by decide +kernel
theorem dX5_canStand_22 : decode cX5_canStand 22 = .ok (.iconst 0, 1) := by decide +kernel
theorem dX5_canStand_23 : decode cX5_canStand 23 = .ok (.ireturn, 1) := by decide +kernel
theorem dX5_canStand_24 : decode cX5_canStand 24 = .ok (.iload_n 1, 1) := by decide +kernel
theorem dX5_canStand_25 : decode cX5_canStand 25 = .ok (.bipush 48, 2) := by decide +kernel
theorem dX5_canStand_27 : decode cX5_canStand 27 = .ok (.isub, 1) := by decide +kernel
theorem dX5_canStand_28 : decode cX5_canStand 28 = .ok (.istore_n 3, 1) := by decide +kernel
theorem dX5_canStand_29 : decode cX5_canStand 29 = .ok (.iload_n 0, 1) := by decide +kernel
theorem dX5_canStand_30 : decode cX5_canStand 30 = .ok (.invokestatic 23, 3) := by decide +kernel
theorem dX5_canStand_33 : decode cX5_canStand 33 = .ok (.lookupswitch 78 #[(0, 35), (1, 47), (5, 71)], 35) := by decide +kernel
theorem dX5_canStand_68 : decode cX5_canStand 68 = .ok (.iload_n 1, 1) := by decide +kernel
theorem dX5_canStand_69 : decode cX5_canStand 69 = .ok (.bipush 83, 2) := by decide +kernel
theorem dX5_canStand_71 : decode cX5_canStand 71 = .ok (.if_icmp .ne 7, 3) := by decide +kernel
theorem dX5_canStand_74 : decode cX5_canStand 74 = .ok (.iconst 1, 1) := by decide +kernel
theorem dX5_canStand_75 : decode cX5_canStand 75 = .ok (.goto 4, 3) := by decide +kernel
theorem dX5_canStand_78 : decode cX5_canStand 78 = .ok (.iconst 0, 1) := by decide +kernel
theorem dX5_canStand_79 : decode cX5_canStand 79 = .ok (.ireturn, 1) := by decide +kernel
theorem dX5_canStand_80 : decode cX5_canStand 80 = .ok (.iload_n 3, 1) := by decide +kernel
theorem dX5_canStand_81 : decode cX5_canStand 81 = .ok (.iconst 0, 1) := by decide +kernel
theorem dX5_canStand_82 : decode cX5_canStand 82 = .ok (.bipush 7, 2) := by decide +kernel
theorem dX5_canStand_84 : decode cX5_canStand 84 = .ok (.invokestatic 27, 3) := by decide +kernel
theorem dX5_canStand_87 : decode cX5_canStand 87 = .ok (.ifCond .eq 15, 3) := by decide +kernel
theorem dX5_canStand_90 : decode cX5_canStand 90 = .ok (.iload_n 2, 1) := by decide +kernel
theorem dX5_canStand_91 : decode cX5_canStand 91 = .ok (.iload_n 3, 1) := by decide +kernel
theorem dX5_canStand_92 : decode cX5_canStand 92 = .ok (.ishr, 1) := by decide +kernel
theorem dX5_canStand_93 : decode cX5_canStand 93 = .ok (.iconst 1, 1) := by decide +kernel
theorem dX5_canStand_94 : decode cX5_canStand 94 = .ok (.iand, 1) := by decide +kernel
theorem dX5_canStand_95 : decode cX5_canStand 95 = .ok (.ifCond .ne 7, 3) := by decide +kernel
theorem dX5_canStand_98 : decode cX5_canStand 98 = .ok (.iconst 1, 1) := by decide +kernel
theorem dX5_canStand_99 : decode cX5_canStand 99 = .ok (.goto 4, 3) := by decide +kernel
theorem dX5_canStand_102 : decode cX5_canStand 102 = .ok (.iconst 0, 1) := by decide +kernel
theorem dX5_canStand_103 : decode cX5_canStand 103 = .ok (.ireturn, 1) := by decide +kernel
theorem dX5_canStand_104 : decode cX5_canStand 104 = .ok (.iload_n 3, 1) := by decide +kernel
theorem dX5_canStand_105 : decode cX5_canStand 105 = .ok (.iconst 0, 1) := by decide +kernel
theorem dX5_canStand_106 : decode cX5_canStand 106 = .ok (.iconst 3, 1) := by decide +kernel
theorem dX5_canStand_107 : decode cX5_canStand 107 = .ok (.invokestatic 27, 3) := by decide +kernel
theorem dX5_canStand_110 : decode cX5_canStand 110 = .ok (.ireturn, 1) := by decide +kernel
theorem dX5_canStand_111 : decode cX5_canStand 111 = .ok (.iload_n 3, 1) := by decide +kernel
theorem dX5_canStand_112 : decode cX5_canStand 112 = .ok (.iconst 0, 1) := by decide +kernel
theorem dX5_canStand_113 : decode cX5_canStand 113 = .ok (.bipush 9, 2) := by decide +kernel
theorem dX5_canStand_115 : decode cX5_canStand 115 = .ok (.invokestatic 27, 3) := by decide +kernel
theorem dX5_canStand_118 : decode cX5_canStand 118 = .ok (.ireturn, 1) := by decide +kernel
theorem dX5_tellTo_0 : decode cX5_tellTo 0 = .ok (.aload_n 1, 1) := by decide +kernel
theorem dX5_tellTo_1 : decode cX5_tellTo 1 = .ok (.aload_n 0, 1) := by decide +kernel
theorem dX5_tellTo_2 : decode cX5_tellTo 2 = .ok (.getfield 15, 3) := by decide +kernel
theorem dX5_tellTo_5 : decode cX5_tellTo 5 = .ok (.iconst 1, 1) := by decide +kernel
theorem dX5_tellTo_6 : decode cX5_tellTo 6 = .ok (.isub, 1) := by decide +kernel
theorem dX5_tellTo_7 : decode cX5_tellTo 7 = .ok (.bipush 6, 2) := by decide +kernel
theorem dX5_tellTo_9 : decode cX5_tellTo 9 = .ok (.idiv, 1) := by decide +kernel
theorem dX5_tellTo_10 : decode cX5_tellTo 10 = .ok (.bipush 6, 2) := by decide +kernel
theorem dX5_tellTo_12 : decode cX5_tellTo 12 = .ok (.invokestatic 30, 3) := by decide +kernel
theorem dX5_tellTo_15 : decode cX5_tellTo 15 = .ok (.putfield 36, 3) := by decide +kernel
theorem dX5_tellTo_18 : decode cX5_tellTo 18 = .ok (.iconst 0, 1) := by decide +kernel
theorem dX5_tellTo_19 : decode cX5_tellTo 19 = .ok (.istore_n 3, 1) := by decide +kernel
theorem dX5_tellTo_20 : decode cX5_tellTo 20 = .ok (.iload_n 3, 1) := by decide +kernel
theorem dX5_tellTo_21 : decode cX5_tellTo 21 = .ok (.aload_n 1, 1) := by decide +kernel
theorem dX5_tellTo_22 : decode cX5_tellTo 22 = .ok (.getfield 36, 3) := by decide +kernel
theorem dX5_tellTo_25 : decode cX5_tellTo 25 = .ok (.if_icmp .ge 113, 3) := by decide +kernel
theorem dX5_tellTo_28 : decode cX5_tellTo 28 = .ok (.iload_n 3, 1) := by decide +kernel
theorem dX5_tellTo_29 : decode cX5_tellTo 29 = .ok (.bipush 6, 2) := by decide +kernel
theorem dX5_tellTo_31 : decode cX5_tellTo 31 = .ok (.if_icmp .ge 107, 3) := by decide +kernel
theorem dX5_tellTo_34 : decode cX5_tellTo 34 = .ok (.iconst 1, 1) := by decide +kernel
theorem dX5_tellTo_35 : decode cX5_tellTo 35 = .ok (.iload_n 3, 1) := by decide +kernel
theorem dX5_tellTo_36 : decode cX5_tellTo 36 = .ok (.bipush 6, 2) := by decide +kernel
theorem dX5_tellTo_38 : decode cX5_tellTo 38 = .ok (.imul, 1) := by decide +kernel
theorem dX5_tellTo_39 : decode cX5_tellTo 39 = .ok (.iadd, 1) := by decide +kernel
theorem dX5_tellTo_40 : decode cX5_tellTo 40 = .ok (.istore 4, 2) := by decide +kernel
theorem dX5_tellTo_42 : decode cX5_tellTo 42 = .ok (.aload_n 2, 1) := by decide +kernel
theorem dX5_tellTo_43 : decode cX5_tellTo 43 = .ok (.getfield 41, 3) := by decide +kernel
theorem dX5_tellTo_46 : decode cX5_tellTo 46 = .ok (.iload_n 3, 1) := by decide +kernel
theorem dX5_tellTo_47 : decode cX5_tellTo 47 = .ok (.aload_n 0, 1) := by decide +kernel
theorem dX5_tellTo_48 : decode cX5_tellTo 48 = .ok (.getfield 9, 3) := by decide +kernel
theorem dX5_tellTo_51 : decode cX5_tellTo 51 = .ok (.iload 4, 2) := by decide +kernel
theorem dX5_tellTo_53 : decode cX5_tellTo 53 = .ok (.iconst 1, 1) := by decide +kernel
theorem dX5_tellTo_54 : decode cX5_tellTo 54 = .ok (.iadd, 1) := by decide +kernel
theorem dX5_tellTo_55 : decode cX5_tellTo 55 = .ok (.iaload, 1) := by decide +kernel
theorem dX5_tellTo_56 : decode cX5_tellTo 56 = .ok (.bipush 48, 2) := by decide +kernel
theorem dX5_tellTo_58 : decode cX5_tellTo 58 = .ok (.isub, 1) := by decide +kernel
theorem dX5_tellTo_59 : decode cX5_tellTo 59 = .ok (.iastore, 1) := by decide +kernel
theorem dX5_tellTo_60 : decode cX5_tellTo 60 = .ok (.aload_n 1, 1) := by decide +kernel
theorem dX5_tellTo_61 : decode cX5_tellTo 61 = .ok (.getfield 46, 3) := by decide +kernel
theorem dX5_tellTo_64 : decode cX5_tellTo 64 = .ok (.iload_n 3, 1) := by decide +kernel
theorem dX5_tellTo_65 : decode cX5_tellTo 65 = .ok (.aload_n 0, 1) := by decide +kernel
theorem dX5_tellTo_66 : decode cX5_tellTo 66 = .ok (.getfield 9, 3) := by decide +kernel
theorem dX5_tellTo_69 : decode cX5_tellTo 69 = .ok (.iload 4, 2) := by decide +kernel
theorem dX5_tellTo_71 : decode cX5_tellTo 71 = .ok (.iconst 2, 1) := by decide +kernel
theorem dX5_tellTo_72 : decode cX5_tellTo 72 = .ok (.iadd, 1) := by decide +kernel
theorem dX5_tellTo_73 : decode cX5_tellTo 73 = .ok (.iaload, 1) := by decide +kernel
theorem dX5_tellTo_74 : decode cX5_tellTo 74 = .ok (.bipush 48, 2) := by decide +kernel
theorem dX5_tellTo_76 : decode cX5_tellTo 76 = .ok (.isub, 1) := by decide +kernel
theorem dX5_tellTo_77 : decode cX5_tellTo 77 = .ok (.iastore, 1) := by decide +kernel
theorem dX5_tellTo_78 : decode cX5_tellTo 78 = .ok (.aload_n 1, 1) := by decide +kernel
theorem dX5_tellTo_79 : decode cX5_tellTo 79 = .ok (.getfield 49, 3) := by decide +kernel
theorem dX5_tellTo_82 : decode cX5_tellTo 82 = .ok (.iload_n 3, 1) := by decide +kernel
theorem dX5_tellTo_83 : decode cX5_tellTo 83 = .ok (.aload_n 0, 1) := by decide +kernel
theorem dX5_tellTo_84 : decode cX5_tellTo 84 = .ok (.getfield 9, 3) := by decide +kernel
theorem dX5_tellTo_87 : decode cX5_tellTo 87 = .ok (.iload 4, 2) := by decide +kernel
theorem dX5_tellTo_89 : decode cX5_tellTo 89 = .ok (.iconst 3, 1) := by decide +kernel
theorem dX5_tellTo_90 : decode cX5_tellTo 90 = .ok (.iadd, 1) := by decide +kernel
theorem dX5_tellTo_91 : decode cX5_tellTo 91 = .ok (.iaload, 1) := by decide +kernel
theorem dX5_tellTo_92 : decode cX5_tellTo 92 = .ok (.bipush 48, 2) := by decide +kernel
theorem dX5_tellTo_94 : decode cX5_tellTo 94 = .ok (.isub, 1) := by decide +kernel
theorem dX5_tellTo_95 : decode cX5_tellTo 95 = .ok (.iastore, 1) := by decide +kernel
theorem dX5_tellTo_96 : decode cX5_tellTo 96 = .ok (.aload_n 2, 1) := by decide +kernel
theorem dX5_tellTo_97 : decode cX5_tellTo 97 = .ok (.getfield 52, 3) := by decide +kernel
theorem dX5_tellTo_100 : decode cX5_tellTo 100 = .ok (.iload_n 3, 1) := by decide +kernel
theorem dX5_tellTo_101 : decode cX5_tellTo 101 = .ok (.aload_n 0, 1) := by decide +kernel
theorem dX5_tellTo_102 : decode cX5_tellTo 102 = .ok (.getfield 9, 3) := by decide +kernel
theorem dX5_tellTo_105 : decode cX5_tellTo 105 = .ok (.iload 4, 2) := by decide +kernel
theorem dX5_tellTo_107 : decode cX5_tellTo 107 = .ok (.iconst 4, 1) := by decide +kernel
theorem dX5_tellTo_108 : decode cX5_tellTo 108 = .ok (.iadd, 1) := by decide +kernel
theorem dX5_tellTo_109 : decode cX5_tellTo 109 = .ok (.iaload, 1) := by decide +kernel
theorem dX5_tellTo_110 : decode cX5_tellTo 110 = .ok (.bipush 48, 2) := by decide +kernel
theorem dX5_tellTo_112 : decode cX5_tellTo 112 = .ok (.isub, 1) := by decide +kernel
theorem dX5_tellTo_113 : decode cX5_tellTo 113 = .ok (.iastore, 1) := by decide +kernel
theorem dX5_tellTo_114 : decode cX5_tellTo 114 = .ok (.aload_n 1, 1) := by decide +kernel
theorem dX5_tellTo_115 : decode cX5_tellTo 115 = .ok (.getfield 55, 3) := by decide +kernel
theorem dX5_tellTo_118 : decode cX5_tellTo 118 = .ok (.iload_n 3, 1) := by decide +kernel
theorem dX5_tellTo_119 : decode cX5_tellTo 119 = .ok (.aload_n 0, 1) := by decide +kernel
theorem dX5_tellTo_120 : decode cX5_tellTo 120 = .ok (.getfield 9, 3) := by decide +kernel
theorem dX5_tellTo_123 : decode cX5_tellTo 123 = .ok (.iload 4, 2) := by decide +kernel
theorem dX5_tellTo_125 : decode cX5_tellTo 125 = .ok (.iconst 5, 1) := by decide +kernel
theorem dX5_tellTo_126 : decode cX5_tellTo 126 = .ok (.iadd, 1) := by decide +kernel
theorem dX5_tellTo_127 : decode cX5_tellTo 127 = .ok (.iaload, 1) := by decide +kernel
theorem dX5_tellTo_128 : decode cX5_tellTo 128 = .ok (.bipush 48, 2) := by decide +kernel
theorem dX5_tellTo_130 : decode cX5_tellTo 130 = .ok (.isub, 1) := by decide +kernel
theorem dX5_tellTo_131 : decode cX5_tellTo 131 = .ok (.iastore, 1) := by decide +kernel
theorem dX5_tellTo_132 : decode cX5_tellTo 132 = .ok (.iinc 3 1, 3) := by decide +kernel
theorem dX5_tellTo_135 : decode cX5_tellTo 135 = .ok (.goto (-115), 3) := by decide +kernel
theorem dX5_tellTo_138 : decode cX5_tellTo 138 = .ok (.aload_n 2, 1) := by decide +kernel
theorem dX5_tellTo_139 : decode cX5_tellTo 139 = .ok (.aload_n 1, 1) := by decide +kernel
theorem dX5_tellTo_140 : decode cX5_tellTo 140 = .ok (.invokevirtual 58, 3) := by decide +kernel
theorem dX5_tellTo_143 : decode cX5_tellTo 143 = .ok (.putfield 62, 3) := by decide +kernel
theorem dX5_tellTo_146 : decode cX5_tellTo 146 = .ok (.aload_n 2, 1) := by decide +kernel
theorem dX5_tellTo_147 : decode cX5_tellTo 147 = .ok (.iconst 0, 1) := by decide +kernel
theorem dX5_tellTo_148 : decode cX5_tellTo 148 = .ok (.putfield 65, 3) := by decide +kernel
theorem dX5_tellTo_151 : decode cX5_tellTo 151 = .ok (.aload_n 2, 1) := by decide +kernel
theorem dX5_tellTo_152 : decode cX5_tellTo 152 = .ok (.iconst 0, 1) := by decide +kernel
theorem dX5_tellTo_153 : decode cX5_tellTo 153 = .ok (.putfield 68, 3) := by decide +kernel
theorem dX5_tellTo_156 : decode cX5_tellTo 156 = .ok (.aload_n 2, 1) := by decide +kernel
theorem dX5_tellTo_157 : decode cX5_tellTo 157 = .ok (.invokevirtual 71, 3) := by decide +kernel
theorem dX5_tellTo_160 : decode cX5_tellTo 160 = .ok (.return_, 1) := by decide +kernel
theorem dX6_init_0 : decode cX6_init 0 = .ok (.aload_n 0, 1) := by decide +kernel
theorem dX6_init_1 : decode cX6_init 1 = .ok (.invokespecial 3, 3) := by decide +kernel
theorem dX6_init_4 : decode cX6_init 4 = .ok (.aload_n 0, 1) := by decide +kernel
theorem dX6_init_5 : decode cX6_init 5 = .ok (.iconst 2, 1) := by decide +kernel
theorem dX6_init_6 : decode cX6_init 6 = .ok (.anewarray 9, 3) := by decide +kernel
theorem dX6_init_9 : decode cX6_init 9 = .ok (.putfield 11, 3) := by decide +kernel
theorem dX6_init_12 : decode cX6_init 12 = .ok (.aload_n 0, 1) := by decide +kernel
theorem dX6_init_13 : decode cX6_init 13 = .ok (.iconst 0, 1) := by decide +kernel
theorem dX6_init_14 : decode cX6_init 14 = .ok (.putfield 17, 3) := by decide +kernel
theorem dX6_init_17 : decode cX6_init 17 = .ok (.iconst 0, 1) := by decide +kernel
theorem dX6_init_18 : decode cX6_init 18 = .ok (.istore_n 2, 1) := by decide +kernel
theorem dX6_init_19 : decode cX6_init 19 = .ok (.iload_n 2, 1) := by decide +kernel
theorem dX6_init_20 : decode cX6_init 20 = .ok (.aload_n 0, 1) := by decide +kernel
theorem dX6_init_21 : decode cX6_init 21 = .ok (.getfield 11, 3) := by decide +kernel
theorem dX6_init_24 : decode cX6_init 24 = .ok (.arraylength, 1) := by decide +kernel
theorem dX6_init_25 : decode cX6_init 25 = .ok (.if_icmp .ge 23, 3) := by decide +kernel
theorem dX6_init_28 : decode cX6_init 28 = .ok (.aload_n 0, 1) := by decide +kernel
theorem dX6_init_29 : decode cX6_init 29 = .ok (.getfield 11, 3) := by decide +kernel
theorem dX6_init_32 : decode cX6_init 32 = .ok (.iload_n 2, 1) := by decide +kernel
theorem dX6_init_33 : decode cX6_init 33 = .ok (.new 9, 3) := by decide +kernel
theorem dX6_init_36 : decode cX6_init 36 = .ok (.dup, 1) := by decide +kernel
theorem dX6_init_37 : decode cX6_init 37 = .ok (.aload_n 1, 1) := by decide +kernel
theorem dX6_init_38 : decode cX6_init 38 = .ok (.invokespecial 21, 3) := by decide +kernel
theorem dX6_init_41 : decode cX6_init 41 = .ok (.aastore, 1) := by decide +kernel
theorem dX6_init_42 : decode cX6_init 42 = .ok (.iinc 2 1, 3) := by decide +kernel
theorem dX6_init_45 : decode cX6_init 45 = .ok (.goto (-26), 3) := by decide +kernel
theorem dX6_init_48 : decode cX6_init 48 = .ok (.return_, 1) := by decide +kernel
theorem dX6_forgetAll_0 : decode cX6_forgetAll 0 = .ok (.aload_n 0, 1) := by decide +kernel
theorem dX6_forgetAll_1 : decode cX6_forgetAll 1 = .ok (.iconst 0, 1) := by decide +kernel
theorem dX6_forgetAll_2 : decode cX6_forgetAll 2 = .ok (.putfield 17, 3) := by decide +kernel
theorem dX6_forgetAll_5 : decode cX6_forgetAll 5 = .ok (.return_, 1) := by decide +kernel
theorem dX6_put_0 : decode cX6_put 0 = .ok (.iload_n 1, 1) := by decide +kernel
theorem dX6_put_1 : decode cX6_put 1 = .ok (.iconst 0, 1) := by decide +kernel
theorem dX6_put_2 : decode cX6_put 2 = .ok (.iconst 1, 1) := by decide +kernel
theorem dX6_put_3 : decode cX6_put 3 = .ok (.invokestatic 24, 3) := by decide +kernel
theorem dX6_put_6 : decode cX6_put 6 = .ok (.ifCond .ne 5, 3) := by decide +kernel
theorem dX6_put_9 : decode cX6_put 9 = .ok (.iconst 0, 1) := by decide +kernel
theorem dX6_put_10 : decode cX6_put 10 = .ok (.ireturn, 1) := by decide +kernel
theorem dX6_put_11 : decode cX6_put 11 = .ok (.aload_n 0, 1) := by decide +kernel
theorem dX6_put_12 : decode cX6_put 12 = .ok (.getfield 11, 3) := by decide +kernel
theorem dX6_put_15 : decode cX6_put 15 = .ok (.iload_n 1, 1) := by decide +kernel
theorem dX6_put_16 : decode cX6_put 16 = .ok (.aaload, 1) := by decide +kernel
theorem dX6_put_17 : decode cX6_put 17 = .ok (.aload_n 2, 1) := by decide +kernel
theorem dX6_put_18 : decode cX6_put 18 = .ok (.invokevirtual 28, 3) := by decide +kernel
theorem dX6_put_21 : decode cX6_put 21 = .ok (.aload_n 0, 1) := by decide +kernel
theorem dX6_put_22 : decode cX6_put 22 = .ok (.dup, 1) := by decide +kernel
theorem dX6_put_23 : decode cX6_put 23 = .ok (.getfield 17, 3) := by decide +kernel
theorem dX6_put_26 : decode cX6_put 26 = .ok (.iconst 1, 1) := by decide +kernel
theorem dX6_put_27 : decode cX6_put 27 = .ok (.iload_n 1, 1) := by decide +kernel
theorem dX6_put_28 : decode cX6_put 28 = .ok (.ishl, 1) := by decide +kernel
theorem dX6_put_29 : decode cX6_put 29 = .ok (.ior, 1) := by decide +kernel
theorem dX6_put_30 : decode cX6_put 30 = .ok (.putfield 17, 3) := by decide +kernel
theorem dX6_put_33 : decode cX6_put 33 = .ok (.iconst 1, 1) := by decide +kernel
theorem dX6_put_34 : decode cX6_put 34 = .ok (.ireturn, 1) := by decide +kernel
theorem dX6_giveBack_0 : decode cX6_giveBack 0 = .ok (.iload_n 1, 1) := by decide +kernel
theorem dX6_giveBack_1 : decode cX6_giveBack 1 = .ok (.iconst 0, 1) := by decide +kernel
theorem dX6_giveBack_2 : decode cX6_giveBack 2 = .ok (.iconst 1, 1) := by decide +kernel
theorem dX6_giveBack_3 : decode cX6_giveBack 3 = .ok (.invokestatic 24, 3) := by decide +kernel
theorem dX6_giveBack_6 : decode cX6_giveBack 6 = .ok (.ifCond .eq 14, 3) := by decide +kernel
theorem dX6_giveBack_9 : decode cX6_giveBack 9 = .ok (.aload_n 0, 1) := by decide +kernel
theorem dX6_giveBack_10 : decode cX6_giveBack 10 = .ok (.getfield 17, 3) := by decide +kernel
theorem dX6_giveBack_13 : decode cX6_giveBack 13 = .ok (.iload_n 1, 1) := by decide +kernel
theorem dX6_giveBack_14 : decode cX6_giveBack 14 = .ok (.ishr, 1) := by decide +kernel
theorem dX6_giveBack_15 : decode cX6_giveBack 15 = .ok (.iconst 1, 1) := by decide +kernel
theorem dX6_giveBack_16 : decode cX6_giveBack 16 = .ok (.iand, 1) := by decide +kernel
theorem dX6_giveBack_17 : decode cX6_giveBack 17 = .ok (.ifCond .ne 5, 3) := by decide +kernel
theorem dX6_giveBack_20 : decode cX6_giveBack 20 = .ok (.iconst 0, 1) := by decide +kernel
theorem dX6_giveBack_21 : decode cX6_giveBack 21 = .ok (.ireturn, 1) := by decide +kernel
theorem dX6_giveBack_22 : decode cX6_giveBack 22 = .ok (.aload_n 2, 1) := by decide +kernel
theorem dX6_giveBack_23 : decode cX6_giveBack 23 = .ok (.aload_n 0, 1) := by decide +kernel
theorem dX6_giveBack_24 : decode cX6_giveBack 24 = .ok (.getfield 11, 3) := by decide +kernel
theorem dX6_giveBack_27 : decode cX6_giveBack 27 = .ok (.iload_n 1, 1) := by decide +kernel
theorem dX6_giveBack_28 : decode cX6_giveBack 28 = .ok (.aaload, 1) := by decide +kernel
theorem dX6_giveBack_29 : decode cX6_giveBack 29 = .ok (.invokevirtual 28, 3) := by decide +kernel
theorem dX6_giveBack_32 : decode cX6_giveBack 32 = .ok (.iconst 1, 1) := by decide +kernel
theorem dX6_giveBack_33 : decode cX6_giveBack 33 = .ok (.ireturn, 1) := by decide +kernel
theorem dX7_init_0 : decode cX7_init 0 = .ok (.aload_n 0, 1) := by decide +kernel
theorem dX7_init_1 : decode cX7_init 1 = .ok (.invokespecial 3, 3) := by decide +kernel
theorem dX7_init_4 : decode cX7_init 4 = .ok (.aload_n 0, 1) := by decide +kernel
theorem dX7_init_5 : decode cX7_init 5 = .ok (.bipush 6, 2) := by decide +kernel
theorem dX7_init_7 : decode cX7_init 7 = .ok (.newarray .int, 2) := by decide +kernel
theorem dX7_init_9 : decode cX7_init 9 = .ok (.putfield 9, 3) := by decide +kernel
theorem dX7_init_12 : decode cX7_init 12 = .ok (.aload_n 0, 1) := by decide +kernel
theorem dX7_init_13 : decode cX7_init 13 = .ok (.bipush 6, 2) := by decide +kernel
theorem dX7_init_15 : decode cX7_init 15 = .ok (.newarray .int, 2) := by decide +kernel
theorem dX7_init_17 : decode cX7_init 17 = .ok (.putfield 15, 3) := by decide +kernel
theorem dX7_init_20 : decode cX7_init 20 = .ok (.aload_n 0, 1) := by decide +kernel
theorem dX7_init_21 : decode cX7_init 21 = .ok (.bipush 6, 2) := by decide +kernel
theorem dX7_init_23 : decode cX7_init 23 = .ok (.newarray .int, 2) := by decide +kernel
theorem dX7_init_25 : decode cX7_init 25 = .ok (.putfield 18, 3) := by decide +kernel
theorem dX7_init_28 : decode cX7_init 28 = .ok (.aload_n 0, 1) := by decide +kernel
theorem dX7_init_29 : decode cX7_init 29 = .ok (.bipush 6, 2) := by decide +kernel
theorem dX7_init_31 : decode cX7_init 31 = .ok (.newarray .int, 2) := by decide +kernel
theorem dX7_init_33 : decode cX7_init 33 = .ok (.putfield 21, 3) := by decide +kernel
theorem dX7_init_36 : decode cX7_init 36 = .ok (.aload_n 0, 1) := by decide +kernel
theorem dX7_init_37 : decode cX7_init 37 = .ok (.iconst 0, 1) := by decide +kernel
theorem dX7_init_38 : decode cX7_init 38 = .ok (.putfield 24, 3) := by decide +kernel
theorem dX7_init_41 : decode cX7_init 41 = .ok (.aload_n 0, 1) := by decide +kernel
theorem dX7_init_42 : decode cX7_init 42 = .ok (.iconst 0, 1) := by decide +kernel
theorem dX7_init_43 : decode cX7_init 43 = .ok (.putfield 28, 3) := by decide +kernel
theorem dX7_init_46 : decode cX7_init 46 = .ok (.aload_n 0, 1) := by decide +kernel
theorem dX7_init_47 : decode cX7_init 47 = .ok (.iconst 0, 1) := by decide +kernel
theorem dX7_init_48 : decode cX7_init 48 = .ok (.putfield 31, 3) := by decide +kernel
theorem dX7_init_51 : decode cX7_init 51 = .ok (.aload_n 0, 1) := by decide +kernel
theorem dX7_init_52 : decode cX7_init 52 = .ok (.aload_n 1, 1) := by decide +kernel
theorem dX7_init_53 : decode cX7_init 53 = .ok (.putfield 34, 3) := by decide +kernel
theorem dX7_init_56 : decode cX7_init 56 = .ok (.return_, 1) := by decide +kernel
theorem dX7_copyFrom_0 : decode cX7_copyFrom 0 = .ok (.aload_n 1, 1) := by decide +kernel
theorem dX7_copyFrom_1 : decode cX7_copyFrom 1 = .ok (.getfield 9, 3) := by decide +kernel
theorem dX7_copyFrom_4 : decode cX7_copyFrom 4 = .ok (.iconst 0, 1) := by decide +kernel
theorem dX7_copyFrom_5 : decode cX7_copyFrom 5 = .ok (.aload_n 0, 1) := by decide +kernel
theorem dX7_copyFrom_6 : decode cX7_copyFrom 6 = .ok (.getfield 9, 3) := by decide +kernel
theorem dX7_copyFrom_9 : decode cX7_copyFrom 9 = .ok (.iconst 0, 1) := by decide +kernel
theorem dX7_copyFrom_10 : decode cX7_copyFrom 10 = .ok (.bipush 6, 2) := by decide +kernel
theorem dX7_copyFrom_12 : decode cX7_copyFrom 12 = .ok (.invokestatic 38, 3) := by decide +kernel
theorem dX7_copyFrom_15 : decode cX7_copyFrom 15 = .ok (.aload_n 1, 1) := by decide +kernel
theorem dX7_copyFrom_16 : decode cX7_copyFrom 16 = .ok (.getfield 15, 3) := by decide +kernel
theorem dX7_copyFrom_19 : decode cX7_copyFrom 19 = .ok (.iconst 0, 1) := by decide +kernel
theorem dX7_copyFrom_20 : decode cX7_copyFrom 20 = .ok (.aload_n 0, 1) := by decide +kernel
theorem dX7_copyFrom_21 : decode cX7_copyFrom 21 = .ok (.getfield 15, 3) := by decide +kernel
theorem dX7_copyFrom_24 : decode cX7_copyFrom 24 = .ok (.iconst 0, 1) := by decide +kernel
theorem dX7_copyFrom_25 : decode cX7_copyFrom 25 = .ok (.bipush 6, 2) := by decide +kernel
theorem dX7_copyFrom_27 : decode cX7_copyFrom 27 = .ok (.invokestatic 38, 3) := by decide +kernel
theorem dX7_copyFrom_30 : decode cX7_copyFrom 30 = .ok (.aload_n 1, 1) := by decide +kernel
theorem dX7_copyFrom_31 : decode cX7_copyFrom 31 = .ok (.getfield 18, 3) := by decide +kernel
theorem dX7_copyFrom_34 : decode cX7_copyFrom 34 = .ok (.iconst 0, 1) := by decide +kernel
theorem dX7_copyFrom_35 : decode cX7_copyFrom 35 = .ok (.aload_n 0, 1) := by decide +kernel
theorem dX7_copyFrom_36 : decode cX7_copyFrom 36 = .ok (.getfield 18, 3) := by decide +kernel
theorem dX7_copyFrom_39 : decode cX7_copyFrom 39 = .ok (.iconst 0, 1) := by decide +kernel
theorem dX7_copyFrom_40 : decode cX7_copyFrom 40 = .ok (.bipush 6, 2) := by decide +kernel
theorem dX7_copyFrom_42 : decode cX7_copyFrom 42 = .ok (.invokestatic 38, 3) := by decide +kernel
theorem dX7_copyFrom_45 : decode cX7_copyFrom 45 = .ok (.aload_n 0, 1) := by decide +kernel
theorem dX7_copyFrom_46 : decode cX7_copyFrom 46 = .ok (.aload_n 1, 1) := by decide +kernel
theorem dX7_copyFrom_47 : decode cX7_copyFrom 47 = .ok (.getfield 24, 3) := by decide +kernel
theorem dX7_copyFrom_50 : decode cX7_copyFrom 50 = .ok (.putfield 24, 3) := by decide +kernel
theorem dX7_copyFrom_53 : decode cX7_copyFrom 53 = .ok (.aload_n 0, 1) := by decide +kernel
theorem dX7_copyFrom_54 : decode cX7_copyFrom 54 = .ok (.aload_n 1, 1) := by decide +kernel
theorem dX7_copyFrom_55 : decode cX7_copyFrom 55 = .ok (.getfield 28, 3) := by decide +kernel
theorem dX7_copyFrom_58 : decode cX7_copyFrom 58 = .ok (.putfield 28, 3) := by decide +kernel
theorem dX7_copyFrom_61 : decode cX7_copyFrom 61 = .ok (.aload_n 0, 1) := by decide +kernel
theorem dX7_copyFrom_62 : decode cX7_copyFrom 62 = .ok (.aload_n 1, 1) := by decide +kernel
theorem dX7_copyFrom_63 : decode cX7_copyFrom 63 = .ok (.getfield 31, 3) := by decide +kernel
theorem dX7_copyFrom_66 : decode cX7_copyFrom 66 = .ok (.putfield 31, 3) := by decide +kernel
theorem dX7_copyFrom_69 : decode cX7_copyFrom 69 = .ok (.return_, 1) := by decide +kernel
theorem dX7_isThere_0 : decode cX7_isThere 0 = .ok (.iload_n 1, 1) := by decide +kernel
theorem dX7_isThere_1 : decode cX7_isThere 1 = .ok (.ifCond .lt 25, 3) := by decide +kernel
theorem dX7_isThere_4 : decode cX7_isThere 4 = .ok (.iload_n 1, 1) := by decide +kernel
theorem dX7_isThere_5 : decode cX7_isThere 5 = .ok (.bipush 6, 2) := by decide +kernel
theorem dX7_isThere_7 : decode cX7_isThere 7 = .ok (.if_icmp .ge 19, 3) := by decide +kernel
theorem dX7_isThere_10 : decode cX7_isThere 10 = .ok (.aload_n 0, 1) := by decide +kernel
theorem dX7_isThere_11 : decode cX7_isThere 11 = .ok (.getfield 24, 3) := by decide +kernel
theorem dX7_isThere_14 : decode cX7_isThere 14 = .ok (.iload_n 1, 1) := by decide +kernel
theorem dX7_isThere_15 : decode cX7_isThere 15 = .ok (.ishr, 1) := by decide +kernel
theorem dX7_isThere_16 : decode cX7_isThere 16 = .ok (.iconst 1, 1) := by decide +kernel
theorem dX7_isThere_17 : decode cX7_isThere 17 = .ok (.iand, 1) := by decide +kernel
theorem dX7_isThere_18 : decode cX7_isThere 18 = .ok (.iconst 1, 1) := by decide +kernel
theorem dX7_isThere_19 : decode cX7_isThere 19 = .ok (.if_icmp .ne 7, 3) := by decide +kernel
theorem dX7_isThere_22 : decode cX7_isThere 22 = .ok (.iconst 1, 1) := by decide +kernel
theorem dX7_isThere_23 : decode cX7_isThere 23 = .ok (.goto 4, 3) := by decide +kernel
theorem dX7_isThere_26 : decode cX7_isThere 26 = .ok (.iconst 0, 1) := by decide +kernel
theorem dX7_isThere_27 : decode cX7_isThere 27 = .ok (.ireturn, 1) := by decide +kernel
theorem dX7_isHeldOn_0 : decode cX7_isHeldOn 0 = .ok (.aload_n 0, 1) := by decide +kernel
theorem dX7_isHeldOn_1 : decode cX7_isHeldOn 1 = .ok (.getfield 28, 3) := by decide +kernel
theorem dX7_isHeldOn_4 : decode cX7_isHeldOn 4 = .ok (.iload_n 1, 1) := by decide +kernel
theorem dX7_isHeldOn_5 : decode cX7_isHeldOn 5 = .ok (.ishr, 1) := by decide +kernel
theorem dX7_isHeldOn_6 : decode cX7_isHeldOn 6 = .ok (.iconst 1, 1) := by decide +kernel
theorem dX7_isHeldOn_7 : decode cX7_isHeldOn 7 = .ok (.iand, 1) := by decide +kernel
theorem dX7_isHeldOn_8 : decode cX7_isHeldOn 8 = .ok (.iconst 1, 1) := by decide +kernel
theorem dX7_isHeldOn_9 : decode cX7_isHeldOn 9 = .ok (.if_icmp .ne 7, 3) := by decide +kernel
theorem dX7_isHeldOn_12 : decode cX7_isHeldOn 12 = .ok (.iconst 1, 1) := by decide +kernel
theorem dX7_isHeldOn_13 : decode cX7_isHeldOn 13 = .ok (.goto 4, 3) := by decide +kernel
theorem dX7_isHeldOn_16 : decode cX7_isHeldOn 16 = .ok (.iconst 0, 1) := by decide +kernel
theorem dX7_isHeldOn_17 : decode cX7_isHeldOn 17 = .ok (.ireturn, 1) := by decide +kernel
theorem dX7_isHeld_0 : decode cX7_isHeld 0 = .ok (.aload_n 0, 1) := by decide +kernel
theorem dX7_isHeld_1 : decode cX7_isHeld 1 = .ok (.getfield 34, 3) := by decide +kernel
theorem dX7_isHeld_4 : decode cX7_isHeld 4 = .ok (.getfield 44, 3) := by decide +kernel
theorem dX7_isHeld_7 : decode cX7_isHeld 7 = .ok (.iload_n 1, 1) := by decide +kernel
theorem dX7_isHeld_8 : decode cX7_isHeld 8 = .ok (.iaload, 1) := by decide +kernel
theorem dX7_isHeld_9 : decode cX7_isHeld 9 = .ok (.iconst 1, 1) := by decide +kernel
theorem dX7_isHeld_10 : decode cX7_isHeld 10 = .ok (.if_icmp .eq 15, 3) := by decide +kernel
theorem dX7_isHeld_13 : decode cX7_isHeld 13 = .ok (.aload_n 0, 1) := by decide +kernel
theorem dX7_isHeld_14 : decode cX7_isHeld 14 = .ok (.getfield 28, 3) := by decide +kernel
theorem dX7_isHeld_17 : decode cX7_isHeld 17 = .ok (.iload_n 1, 1) := by decide +kernel
theorem dX7_isHeld_18 : decode cX7_isHeld 18 = .ok (.ishr, 1) := by decide +kernel
theorem dX7_isHeld_19 : decode cX7_isHeld 19 = .ok (.iconst 1, 1) := by decide +kernel
theorem dX7_isHeld_20 : decode cX7_isHeld 20 = .ok (.iand, 1) := by decide +kernel
theorem dX7_isHeld_21 : decode cX7_isHeld 21 = .ok (.iconst 1, 1) := by decide +kernel
theorem dX7_isHeld_22 : decode cX7_isHeld 22 = .ok (.if_icmp .ne 7, 3) := by decide +kernel
theorem dX7_isHeld_25 : decode cX7_isHeld 25 = .ok (.iconst 1, 1) := by decide +kernel
theorem dX7_isHeld_26 : decode cX7_isHeld 26 = .ok (.goto 4, 3) := by decide +kernel
theorem dX7_isHeld_29 : decode cX7_isHeld 29 = .ok (.iconst 0, 1) := by decide +kernel
theorem dX7_isHeld_30 : decode cX7_isHeld 30 = .ok (.ireturn, 1) := by decide +kernel
theorem dX7_isSeen_0 : decode cX7_isSeen 0 = .ok (.aload_n 0, 1) := by decide +kernel
theorem dX7_isSeen_1 : decode cX7_isSeen 1 = .ok (.getfield 9, 3) := by decide +kernel
theorem dX7_isSeen_4 : decode cX7_isSeen 4 = .ok (.iload_n 1, 1) := by decide +kernel
theorem dX7_isSeen_5 : decode cX7_isSeen 5 = .ok (.iaload, 1) := by decide +kernel
theorem dX7_isSeen_6 : decode cX7_isSeen 6 = .ok (.aload_n 0, 1) := by decide +kernel
theorem dX7_isSeen_7 : decode cX7_isSeen 7 = .ok (.getfield 9, 3) := by decide +kernel
theorem dX7_isSeen_10 : decode cX7_isSeen 10 = .ok (.iload_n 2, 1) := by decide +kernel
theorem dX7_isSeen_11 : decode cX7_isSeen 11 = .ok (.iaload, 1) := by decide +kernel
theorem dX7_isSeen_12 : decode cX7_isSeen 12 = .ok (.isub, 1) := by decide +kernel
theorem dX7_isSeen_13 : decode cX7_isSeen 13 = .ok (.istore_n 3, 1) := by decide +kernel
theorem dX7_isSeen_14 : decode cX7_isSeen 14 = .ok (.iload_n 1, 1) := by decide +kernel
theorem dX7_isSeen_15 : decode cX7_isSeen 15 = .ok (.iload_n 2, 1) := by decide +kernel
theorem dX7_isSeen_16 : decode cX7_isSeen 16 = .ok (.if_icmp .eq 30, 3) := by decide +kernel
theorem dX7_isSeen_19 : decode cX7_isSeen 19 = .ok (.aload_n 0, 1) := by decide +kernel
theorem dX7_isSeen_20 : decode cX7_isSeen 20 = .ok (.getfield 24, 3) := by decide +kernel
theorem dX7_isSeen_23 : decode cX7_isSeen 23 = .ok (.iload_n 2, 1) := by decide +kernel
theorem dX7_isSeen_24 : decode cX7_isSeen 24 = .ok (.ishr, 1) := by decide +kernel
theorem dX7_isSeen_25 : decode cX7_isSeen 25 = .ok (.iconst 1, 1) := by decide +kernel
theorem dX7_isSeen_26 : decode cX7_isSeen 26 = .ok (.iand, 1) := by decide +kernel
theorem dX7_isSeen_27 : decode cX7_isSeen 27 = .ok (.iconst 1, 1) := by decide +kernel
theorem dX7_isSeen_28 : decode cX7_isSeen 28 = .ok (.if_icmp .ne 18, 3) := by decide +kernel
theorem dX7_isSeen_31 : decode cX7_isSeen 31 = .ok (.iload_n 3, 1) := by decide +kernel
theorem dX7_isSeen_32 : decode cX7_isSeen 32 = .ok (.iconst 3, 1) := by decide +kernel
theorem dX7_isSeen_33 : decode cX7_isSeen 33 = .ok (.if_icmp .gt 13, 3) := by decide +kernel
theorem dX7_isSeen_36 : decode cX7_isSeen 36 = .ok (.iload_n 3, 1) := by decide +kernel
theorem dX7_isSeen_37 : decode cX7_isSeen 37 = .ok (.bipush (-3), 2) := by decide +kernel
theorem dX7_isSeen_39 : decode cX7_isSeen 39 = .ok (.if_icmp .lt 7, 3) := by decide +kernel
theorem dX7_isSeen_42 : decode cX7_isSeen 42 = .ok (.iconst 1, 1) := by decide +kernel
theorem dX7_isSeen_43 : decode cX7_isSeen 43 = .ok (.goto 4, 3) := by decide +kernel
theorem dX7_isSeen_46 : decode cX7_isSeen 46 = .ok (.iconst 0, 1) := by decide +kernel
theorem dX7_isSeen_47 : decode cX7_isSeen 47 = .ok (.ireturn, 1) := by decide +kernel
theorem dX7_seenBy_0 : decode cX7_seenBy 0 = .ok (.iconst 0, 1) := by decide +kernel
theorem dX7_seenBy_1 : decode cX7_seenBy 1 = .ok (.istore_n 2, 1) := by decide +kernel
theorem dX7_seenBy_2 : decode cX7_seenBy 2 = .ok (.iconst 0, 1) := by decide +kernel
theorem dX7_seenBy_3 : decode cX7_seenBy 3 = .ok (.istore_n 3, 1) := by decide +kernel
theorem dX7_seenBy_4 : decode cX7_seenBy 4 = .ok (.iload_n 3, 1) := by decide +kernel
theorem dX7_seenBy_5 : decode cX7_seenBy 5 = .ok (.bipush 6, 2) := by decide +kernel
theorem dX7_seenBy_7 : decode cX7_seenBy 7 = .ok (.if_icmp .ge 24, 3) := by decide +kernel
theorem dX7_seenBy_10 : decode cX7_seenBy 10 = .ok (.aload_n 0, 1) := by decide +kernel
theorem dX7_seenBy_11 : decode cX7_seenBy 11 = .ok (.iload_n 1, 1) := by decide +kernel
theorem dX7_seenBy_12 : decode cX7_seenBy 12 = .ok (.iload_n 3, 1) := by decide +kernel
theorem dX7_seenBy_13 : decode cX7_seenBy 13 = .ok (.invokevirtual 49, 3) := by decide +kernel
theorem dX7_seenBy_16 : decode cX7_seenBy 16 = .ok (.ifCond .eq 9, 3) := by decide +kernel
theorem dX7_seenBy_19 : decode cX7_seenBy 19 = .ok (.iload_n 2, 1) := by decide +kernel
theorem dX7_seenBy_20 : decode cX7_seenBy 20 = .ok (.iconst 1, 1) := by decide +kernel
theorem dX7_seenBy_21 : decode cX7_seenBy 21 = .ok (.iload_n 3, 1) := by decide +kernel
theorem dX7_seenBy_22 : decode cX7_seenBy 22 = .ok (.ishl, 1) := by decide +kernel
theorem dX7_seenBy_23 : decode cX7_seenBy 23 = .ok (.ior, 1) := by decide +kernel
theorem dX7_seenBy_24 : decode cX7_seenBy 24 = .ok (.istore_n 2, 1) := by decide +kernel
theorem dX7_seenBy_25 : decode cX7_seenBy 25 = .ok (.iinc 3 1, 3) := by decide +kernel
theorem dX7_seenBy_28 : decode cX7_seenBy 28 = .ok (.goto (-24), 3) := by decide +kernel
theorem dX7_seenBy_31 : decode cX7_seenBy 31 = .ok (.iload_n 2, 1) := by decide +kernel
theorem dX7_seenBy_32 : decode cX7_seenBy 32 = .ok (.ireturn, 1) := by decide +kernel
theorem dX7_enviedBy_0 : decode cX7_enviedBy 0 = .ok (.aload_n 0, 1) := by decide +kernel
theorem dX7_enviedBy_1 : decode cX7_enviedBy 1 = .ok (.getfield 34, 3) := by decide +kernel
theorem dX7_enviedBy_4 : decode cX7_enviedBy 4 = .ok (.getfield 44, 3) := by decide +kernel
theorem dX7_enviedBy_7 : decode cX7_enviedBy 7 = .ok (.iload_n 1, 1) := by decide +kernel
theorem dX7_enviedBy_8 : decode cX7_enviedBy 8 = .ok (.iaload, 1) := by decide +kernel
theorem dX7_enviedBy_9 : decode cX7_enviedBy 9 = .ok (.istore_n 2, 1) := by decide +kernel
theorem dX7_enviedBy_10 : decode cX7_enviedBy 10 = .ok (.aload_n 0, 1) := by decide +kernel
theorem dX7_enviedBy_11 : decode cX7_enviedBy 11 = .ok (.iload_n 1, 1) := by decide +kernel
theorem dX7_enviedBy_12 : decode cX7_enviedBy 12 = .ok (.invokevirtual 53, 3) := by decide +kernel
theorem dX7_enviedBy_15 : decode cX7_enviedBy 15 = .ok (.ifCond .ne 12, 3) := by decide +kernel
theorem dX7_enviedBy_18 : decode cX7_enviedBy 18 = .ok (.iload_n 2, 1) := by decide +kernel
theorem dX7_enviedBy_19 : decode cX7_enviedBy 19 = .ok (.ifCond .eq 11, 3) := by decide +kernel
theorem dX7_enviedBy_22 : decode cX7_enviedBy 22 = .ok (.iload_n 2, 1) := by decide +kernel
theorem dX7_enviedBy_23 : decode cX7_enviedBy 23 = .ok (.iconst 3, 1) := by decide +kernel
theorem dX7_enviedBy_24 : decode cX7_enviedBy 24 = .ok (.if_icmp .eq 6, 3) := by decide +kernel
theorem dX7_enviedBy_27 : decode cX7_enviedBy 27 = .ok (.bipush (-9), 2) := by decide +kernel
theorem dX7_enviedBy_29 : decode cX7_enviedBy 29 = .ok (.ireturn, 1) := by decide +kernel
theorem dX7_enviedBy_30 : decode cX7_enviedBy 30 = .ok (.iload_n 2, 1) := by decide +kernel
theorem dX7_enviedBy_31 : decode cX7_enviedBy 31 = .ok (.ifCond .ne 10, 3) := by decide +kernel
theorem dX7_enviedBy_34 : decode cX7_enviedBy 34 = .ok (.aload_n 0, 1) := by decide +kernel
theorem dX7_enviedBy_35 : decode cX7_enviedBy 35 = .ok (.getfield 15, 3) := by decide +kernel
theorem dX7_enviedBy_38 : decode cX7_enviedBy 38 = .ok (.goto 7, 3) := by decide +kernel
theorem dX7_enviedBy_41 : decode cX7_enviedBy 41 = .ok (.aload_n 0, 1) := by decide +kernel
theorem dX7_enviedBy_42 : decode cX7_enviedBy 42 = .ok (.getfield 18, 3) := by decide +kernel
theorem dX7_enviedBy_45 : decode cX7_enviedBy 45 = .ok (.astore_n 3, 1) := by decide +kernel
theorem dX7_enviedBy_46 : decode cX7_enviedBy 46 = .ok (.aload_n 3, 1) := by decide +kernel
theorem dX7_enviedBy_47 : decode cX7_enviedBy 47 = .ok (.iload_n 1, 1) := by decide +kernel
theorem dX7_enviedBy_48 : decode cX7_enviedBy 48 = .ok (.iaload, 1) := by decide +kernel
theorem dX7_enviedBy_49 : decode cX7_enviedBy 49 = .ok (.istore 4, 2) := by decide +kernel
theorem dX7_enviedBy_51 : decode cX7_enviedBy 51 = .ok (.bipush (-9), 2) := by decide +kernel
theorem dX7_enviedBy_53 : decode cX7_enviedBy 53 = .ok (.istore 5, 2) := by decide +kernel
theorem dX7_enviedBy_55 : decode cX7_enviedBy 55 = .ok (.iconst 0, 1) := by decide +kernel
theorem dX7_enviedBy_56 : decode cX7_enviedBy 56 = .ok (.istore 6, 2) := by decide +kernel
theorem dX7_enviedBy_58 : decode cX7_enviedBy 58 = .ok (.iload 6, 2) := by decide +kernel
theorem dX7_enviedBy_60 : decode cX7_enviedBy 60 = .ok (.bipush 6, 2) := by decide +kernel
theorem dX7_enviedBy_62 : decode cX7_enviedBy 62 = .ok (.if_icmp .ge 38, 3) := by decide +kernel
theorem dX7_enviedBy_65 : decode cX7_enviedBy 65 = .ok (.aload_n 3, 1) := by decide +kernel
theorem dX7_enviedBy_66 : decode cX7_enviedBy 66 = .ok (.iload 6, 2) := by decide +kernel
theorem dX7_enviedBy_68 : decode cX7_enviedBy 68 = .ok (.iaload, 1) := by decide +kernel
theorem dX7_enviedBy_69 : decode cX7_enviedBy 69 = .ok (.iload 4, 2) := by decide +kernel
theorem dX7_enviedBy_71 : decode cX7_enviedBy 71 = .ok (.if_icmp .le 23, 3) := by decide +kernel
theorem dX7_enviedBy_74 : decode cX7_enviedBy 74 = .ok (.aload_n 0, 1) := by decide +kernel
theorem dX7_enviedBy_75 : decode cX7_enviedBy 75 = .ok (.iload_n 1, 1) := by decide +kernel
theorem dX7_enviedBy_76 : decode cX7_enviedBy 76 = .ok (.iload 6, 2) := by decide +kernel
theorem dX7_enviedBy_78 : decode cX7_enviedBy 78 = .ok (.invokevirtual 49, 3) := by decide +kernel
theorem dX7_enviedBy_81 : decode cX7_enviedBy 81 = .ok (.ifCond .eq 13, 3) := by decide +kernel
theorem dX7_enviedBy_84 : decode cX7_enviedBy 84 = .ok (.aload_n 3, 1) := by decide +kernel
theorem dX7_enviedBy_85 : decode cX7_enviedBy 85 = .ok (.iload 6, 2) := by decide +kernel
theorem dX7_enviedBy_87 : decode cX7_enviedBy 87 = .ok (.iaload, 1) := by decide +kernel
theorem dX7_enviedBy_88 : decode cX7_enviedBy 88 = .ok (.istore 4, 2) := by decide +kernel
theorem dX7_enviedBy_90 : decode cX7_enviedBy 90 = .ok (.iload 6, 2) := by decide +kernel
theorem dX7_enviedBy_92 : decode cX7_enviedBy 92 = .ok (.istore 5, 2) := by decide +kernel
theorem dX7_enviedBy_94 : decode cX7_enviedBy 94 = .ok (.iinc 6 1, 3) := by decide +kernel
theorem dX7_enviedBy_97 : decode cX7_enviedBy 97 = .ok (.goto (-39), 3) := by decide +kernel
theorem dX7_enviedBy_100 : decode cX7_enviedBy 100 = .ok (.iload 5, 2) := by decide +kernel
theorem dX7_enviedBy_102 : decode cX7_enviedBy 102 = .ok (.ireturn, 1) := by decide +kernel
theorem dX7_nextNoteOf_0 : decode cX7_nextNoteOf 0 = .ok (.aload_n 0, 1) := by decide +kernel
theorem dX7_nextNoteOf_1 : decode cX7_nextNoteOf 1 = .ok (.iload_n 1, 1) := by decide +kernel
theorem dX7_nextNoteOf_2 : decode cX7_nextNoteOf 2 = .ok (.invokevirtual 53, 3) := by decide +kernel
theorem dX7_nextNoteOf_5 : decode cX7_nextNoteOf 5 = .ok (.ifCond .eq 10, 3) := by decide +kernel
theorem dX7_nextNoteOf_8 : decode cX7_nextNoteOf 8 = .ok (.aload_n 0, 1) := by decide +kernel
theorem dX7_nextNoteOf_9 : decode cX7_nextNoteOf 9 = .ok (.getfield 18, 3) := by decide +kernel
theorem dX7_nextNoteOf_12 : decode cX7_nextNoteOf 12 = .ok (.iload_n 1, 1) := by decide +kernel
theorem dX7_nextNoteOf_13 : decode cX7_nextNoteOf 13 = .ok (.iaload, 1) := by decide +kernel
theorem dX7_nextNoteOf_14 : decode cX7_nextNoteOf 14 = .ok (.ireturn, 1) := by decide +kernel
theorem dX7_nextNoteOf_15 : decode cX7_nextNoteOf 15 = .ok (.aload_n 0, 1) := by decide +kernel
theorem dX7_nextNoteOf_16 : decode cX7_nextNoteOf 16 = .ok (.iload_n 1, 1) := by decide +kernel
theorem dX7_nextNoteOf_17 : decode cX7_nextNoteOf 17 = .ok (.invokevirtual 57, 3) := by decide +kernel
theorem dX7_nextNoteOf_20 : decode cX7_nextNoteOf 20 = .ok (.istore_n 2, 1) := by decide +kernel
theorem dX7_nextNoteOf_21 : decode cX7_nextNoteOf 21 = .ok (.aload_n 0, 1) := by decide +kernel
theorem dX7_nextNoteOf_22 : decode cX7_nextNoteOf 22 = .ok (.getfield 34, 3) := by decide +kernel
theorem dX7_nextNoteOf_25 : decode cX7_nextNoteOf 25 = .ok (.getfield 61, 3) := by decide +kernel
theorem dX7_nextNoteOf_28 : decode cX7_nextNoteOf 28 = .ok (.iload_n 1, 1) := by decide +kernel
theorem dX7_nextNoteOf_29 : decode cX7_nextNoteOf 29 = .ok (.iaload, 1) := by decide +kernel
theorem dX7_nextNoteOf_30 : decode cX7_nextNoteOf 30 = .ok (.istore_n 3, 1) := by decide +kernel
theorem dX7_nextNoteOf_31 : decode cX7_nextNoteOf 31 = .ok (.iload_n 2, 1) := by decide +kernel
theorem dX7_nextNoteOf_32 : decode cX7_nextNoteOf 32 = .ok (.ifCond .lt 9, 3) := by decide +kernel
theorem dX7_nextNoteOf_35 : decode cX7_nextNoteOf 35 = .ok (.iload_n 2, 1) := by decide +kernel
theorem dX7_nextNoteOf_36 : decode cX7_nextNoteOf 36 = .ok (.bipush 6, 2) := by decide +kernel
theorem dX7_nextNoteOf_38 : decode cX7_nextNoteOf 38 = .ok (.if_icmp .lt 5, 3) := by decide +kernel
theorem dX7_nextNoteOf_41 : decode cX7_nextNoteOf 41 = .ok (.iload_n 3, 1) := by decide +kernel
theorem dX7_nextNoteOf_42 : decode cX7_nextNoteOf 42 = .ok (.ireturn, 1) := by decide +kernel
theorem dX7_nextNoteOf_43 : decode cX7_nextNoteOf 43 = .ok (.aload_n 0, 1) := by decide +kernel
theorem dX7_nextNoteOf_44 : decode cX7_nextNoteOf 44 = .ok (.getfield 34, 3) := by decide +kernel
theorem dX7_nextNoteOf_47 : decode cX7_nextNoteOf 47 = .ok (.getfield 64, 3) := by decide +kernel
theorem dX7_nextNoteOf_50 : decode cX7_nextNoteOf 50 = .ok (.iload_n 1, 1) := by decide +kernel
theorem dX7_nextNoteOf_51 : decode cX7_nextNoteOf 51 = .ok (.iaload, 1) := by decide +kernel
theorem dX7_nextNoteOf_52 : decode cX7_nextNoteOf 52 = .ok (.istore 4, 2) := by decide +kernel
theorem dX7_nextNoteOf_54 : decode cX7_nextNoteOf 54 = .ok (.aload_n 0, 1) := by decide +kernel
theorem dX7_nextNoteOf_55 : decode cX7_nextNoteOf 55 = .ok (.getfield 18, 3) := by decide +kernel
theorem dX7_nextNoteOf_58 : decode cX7_nextNoteOf 58 = .ok (.iload_n 2, 1) := by decide +kernel
theorem dX7_nextNoteOf_59 : decode cX7_nextNoteOf 59 = .ok (.iaload, 1) := by decide +kernel
theorem dX7_nextNoteOf_60 : decode cX7_nextNoteOf 60 = .ok (.iload_n 3, 1) := by decide +kernel
theorem dX7_nextNoteOf_61 : decode cX7_nextNoteOf 61 = .ok (.iload 4, 2) := by decide +kernel
theorem dX7_nextNoteOf_63 : decode cX7_nextNoteOf 63 = .ok (.iadd, 1) := by decide +kernel
theorem dX7_nextNoteOf_64 : decode cX7_nextNoteOf 64 = .ok (.invokestatic 67, 3) := by decide +kernel
theorem dX7_nextNoteOf_67 : decode cX7_nextNoteOf 67 = .ok (.iload_n 3, 1) := by decide +kernel
theorem dX7_nextNoteOf_68 : decode cX7_nextNoteOf 68 = .ok (.iload 4, 2) := by decide +kernel
theorem dX7_nextNoteOf_70 : decode cX7_nextNoteOf 70 = .ok (.isub, 1) := by decide +kernel
theorem dX7_nextNoteOf_71 : decode cX7_nextNoteOf 71 = .ok (.invokestatic 73, 3) := by decide +kernel
theorem dX7_nextNoteOf_74 : decode cX7_nextNoteOf 74 = .ok (.ireturn, 1) := by decide +kernel
theorem dX7_goOn_0 : decode cX7_goOn 0 = .ok (.iconst 0, 1) := by decide +kernel
theorem dX7_goOn_1 : decode cX7_goOn 1 = .ok (.istore_n 2, 1) := by decide +kernel
theorem dX7_goOn_2 : decode cX7_goOn 2 = .ok (.iload_n 2, 1) := by decide +kernel
theorem dX7_goOn_3 : decode cX7_goOn 3 = .ok (.iload_n 1, 1) := by decide +kernel
theorem dX7_goOn_4 : decode cX7_goOn 4 = .ok (.if_icmp .ge 108, 3) := by decide +kernel
theorem dX7_goOn_7 : decode cX7_goOn 7 = .ok (.iconst 0, 1) := by decide +kernel
theorem dX7_goOn_8 : decode cX7_goOn 8 = .ok (.istore_n 3, 1) := by decide +kernel
theorem dX7_goOn_9 : decode cX7_goOn 9 = .ok (.iconst 0, 1) := by decide +kernel
theorem dX7_goOn_10 : decode cX7_goOn 10 = .ok (.istore 4, 2) := by decide +kernel
theorem dX7_goOn_12 : decode cX7_goOn 12 = .ok (.iload 4, 2) := by decide +kernel
theorem dX7_goOn_14 : decode cX7_goOn 14 = .ok (.bipush 6, 2) := by decide +kernel
theorem dX7_goOn_16 : decode cX7_goOn 16 = .ok (.if_icmp .ge 68, 3) := by decide +kernel
theorem dX7_goOn_19 : decode cX7_goOn 19 = .ok (.aload_n 0, 1) := by decide +kernel
theorem dX7_goOn_20 : decode cX7_goOn 20 = .ok (.getfield 21, 3) := by decide +kernel
theorem dX7_goOn_23 : decode cX7_goOn 23 = .ok (.iload 4, 2) := by decide +kernel
theorem dX7_goOn_25 : decode cX7_goOn 25 = .ok (.aload_n 0, 1) := by decide +kernel
theorem dX7_goOn_26 : decode cX7_goOn 26 = .ok (.iload 4, 2) := by decide +kernel
theorem dX7_goOn_28 : decode cX7_goOn 28 = .ok (.invokevirtual 76, 3) := by decide +kernel
theorem dX7_goOn_31 : decode cX7_goOn 31 = .ok (.ifCond .eq 12, 3) := by decide +kernel
theorem dX7_goOn_34 : decode cX7_goOn 34 = .ok (.aload_n 0, 1) := by decide +kernel
theorem dX7_goOn_35 : decode cX7_goOn 35 = .ok (.iload 4, 2) := by decide +kernel
theorem dX7_goOn_37 : decode cX7_goOn 37 = .ok (.invokevirtual 79, 3) := by decide +kernel
theorem dX7_goOn_40 : decode cX7_goOn 40 = .ok (.goto 10, 3) := by decide +kernel
theorem dX7_goOn_43 : decode cX7_goOn 43 = .ok (.aload_n 0, 1) := by decide +kernel
theorem dX7_goOn_44 : decode cX7_goOn 44 = .ok (.getfield 18, 3) := by decide +kernel
theorem dX7_goOn_47 : decode cX7_goOn 47 = .ok (.iload 4, 2) := by decide +kernel
theorem dX7_goOn_49 : decode cX7_goOn 49 = .ok (.iaload, 1) := by decide +kernel
theorem dX7_goOn_50 : decode cX7_goOn 50 = .ok (.iastore, 1) := by decide +kernel
theorem dX7_goOn_51 : decode cX7_goOn 51 = .ok (.iload_n 3, 1) := by decide +kernel
theorem dX7_goOn_52 : decode cX7_goOn 52 = .ok (.ifCond .ne 20, 3) := by decide +kernel
theorem dX7_goOn_55 : decode cX7_goOn 55 = .ok (.aload_n 0, 1) := by decide +kernel
theorem dX7_goOn_56 : decode cX7_goOn 56 = .ok (.getfield 21, 3) := by decide +kernel
theorem dX7_goOn_59 : decode cX7_goOn 59 = .ok (.iload 4, 2) := by decide +kernel
theorem dX7_goOn_61 : decode cX7_goOn 61 = .ok (.iaload, 1) := by decide +kernel
theorem dX7_goOn_62 : decode cX7_goOn 62 = .ok (.aload_n 0, 1) := by decide +kernel
theorem dX7_goOn_63 : decode cX7_goOn 63 = .ok (.getfield 18, 3) := by decide +kernel
theorem dX7_goOn_66 : decode cX7_goOn 66 = .ok (.iload 4, 2) := by decide +kernel
theorem dX7_goOn_68 : decode cX7_goOn 68 = .ok (.iaload, 1) := by decide +kernel
theorem dX7_goOn_69 : decode cX7_goOn 69 = .ok (.if_icmp .eq 7, 3) := by decide +kernel
theorem dX7_goOn_72 : decode cX7_goOn 72 = .ok (.iconst 1, 1) := by decide +kernel
theorem dX7_goOn_73 : decode cX7_goOn 73 = .ok (.goto 4, 3) := by decide +kernel
theorem dX7_goOn_76 : decode cX7_goOn 76 = .ok (.iconst 0, 1) := by decide +kernel
theorem dX7_goOn_77 : decode cX7_goOn 77 = .ok (.istore_n 3, 1) := by decide +kernel
theorem dX7_goOn_78 : decode cX7_goOn 78 = .ok (.iinc 4 1, 3) := by decide +kernel
theorem dX7_goOn_81 : decode cX7_goOn 81 = .ok (.goto (-69), 3) := by decide +kernel
theorem dX7_goOn_84 : decode cX7_goOn 84 = .ok (.iload_n 3, 1) := by decide +kernel
theorem dX7_goOn_85 : decode cX7_goOn 85 = .ok (.ifCond .ne 6, 3) := by decide +kernel
theorem dX7_goOn_88 : decode cX7_goOn 88 = .ok (.goto 24, 3) := by decide +kernel
theorem dX7_goOn_91 : decode cX7_goOn 91 = .ok (.aload_n 0, 1) := by decide +kernel
theorem dX7_goOn_92 : decode cX7_goOn 92 = .ok (.getfield 21, 3) := by decide +kernel
theorem dX7_goOn_95 : decode cX7_goOn 95 = .ok (.iconst 0, 1) := by decide +kernel
theorem dX7_goOn_96 : decode cX7_goOn 96 = .ok (.aload_n 0, 1) := by decide +kernel
theorem dX7_goOn_97 : decode cX7_goOn 97 = .ok (.getfield 18, 3) := by decide +kernel
theorem dX7_goOn_100 : decode cX7_goOn 100 = .ok (.iconst 0, 1) := by decide +kernel
theorem dX7_goOn_101 : decode cX7_goOn 101 = .ok (.bipush 6, 2) := by decide +kernel
theorem dX7_goOn_103 : decode cX7_goOn 103 = .ok (.invokestatic 38, 3) := by decide +kernel
theorem dX7_goOn_106 : decode cX7_goOn 106 = .ok (.iinc 2 1, 3) := by decide +kernel
theorem dX7_goOn_109 : decode cX7_goOn 109 = .ok (.goto (-107), 3) := by decide +kernel
theorem dX7_goOn_112 : decode cX7_goOn 112 = .ok (.return_, 1) := by decide +kernel
theorem dX7_give_0 : decode cX7_give 0 = .ok (.aload_n 0, 1) := by decide +kernel
theorem dX7_give_1 : decode cX7_give 1 = .ok (.getfield 15, 3) := by decide +kernel
theorem dX7_give_4 : decode cX7_give 4 = .ok (.iload_n 1, 1) := by decide +kernel
theorem dX7_give_5 : decode cX7_give 5 = .ok (.aload_n 0, 1) := by decide +kernel
theorem dX7_give_6 : decode cX7_give 6 = .ok (.getfield 15, 3) := by decide +kernel
theorem dX7_give_9 : decode cX7_give 9 = .ok (.iload_n 1, 1) := by decide +kernel
theorem dX7_give_10 : decode cX7_give 10 = .ok (.iaload, 1) := by decide +kernel
theorem dX7_give_11 : decode cX7_give 11 = .ok (.iload_n 2, 1) := by decide +kernel
theorem dX7_give_12 : decode cX7_give 12 = .ok (.iadd, 1) := by decide +kernel
theorem dX7_give_13 : decode cX7_give 13 = .ok (.bipush 99, 2) := by decide +kernel
theorem dX7_give_15 : decode cX7_give 15 = .ok (.invokestatic 67, 3) := by decide +kernel
theorem dX7_give_18 : decode cX7_give 18 = .ok (.iastore, 1) := by decide +kernel
theorem dX7_give_19 : decode cX7_give 19 = .ok (.return_, 1) := by decide +kernel
theorem dX7_swapSeats_0 : decode cX7_swapSeats 0 = .ok (.aload_n 0, 1) := by decide +kernel
theorem dX7_swapSeats_1 : decode cX7_swapSeats 1 = .ok (.getfield 9, 3) := by decide +kernel
theorem dX7_swapSeats_4 : decode cX7_swapSeats 4 = .ok (.iload_n 1, 1) := by decide +kernel
theorem dX7_swapSeats_5 : decode cX7_swapSeats 5 = .ok (.iaload, 1) := by decide +kernel
theorem dX7_swapSeats_6 : decode cX7_swapSeats 6 = .ok (.istore_n 3, 1) := by decide +kernel
theorem dX7_swapSeats_7 : decode cX7_swapSeats 7 = .ok (.aload_n 0, 1) := by decide +kernel
theorem dX7_swapSeats_8 : decode cX7_swapSeats 8 = .ok (.getfield 9, 3) := by decide +kernel
theorem dX7_swapSeats_11 : decode cX7_swapSeats 11 = .ok (.iload_n 1, 1) := by decide +kernel
theorem dX7_swapSeats_12 : decode cX7_swapSeats 12 = .ok (.aload_n 0, 1) := by decide +kernel
theorem dX7_swapSeats_13 : decode cX7_swapSeats 13 = .ok (.getfield 9, 3) := by decide +kernel
theorem dX7_swapSeats_16 : decode cX7_swapSeats 16 = .ok (.iload_n 2, 1) := by decide +kernel
theorem dX7_swapSeats_17 : decode cX7_swapSeats 17 = .ok (.iaload, 1) := by decide +kernel
theorem dX7_swapSeats_18 : decode cX7_swapSeats 18 = .ok (.iastore, 1) := by decide +kernel
theorem dX7_swapSeats_19 : decode cX7_swapSeats 19 = .ok (.aload_n 0, 1) := by decide +kernel
theorem dX7_swapSeats_20 : decode cX7_swapSeats 20 = .ok (.getfield 9, 3) := by decide +kernel
theorem dX7_swapSeats_23 : decode cX7_swapSeats 23 = .ok (.iload_n 2, 1) := by decide +kernel
theorem dX7_swapSeats_24 : decode cX7_swapSeats 24 = .ok (.iload_n 3, 1) := by decide +kernel
theorem dX7_swapSeats_25 : decode cX7_swapSeats 25 = .ok (.iastore, 1) := by decide +kernel
theorem dX7_swapSeats_26 : decode cX7_swapSeats 26 = .ok (.return_, 1) := by decide +kernel
theorem dX7_takeVoices_0 : decode cX7_takeVoices 0 = .ok (.aload_n 0, 1) := by decide +kernel
theorem dX7_takeVoices_1 : decode cX7_takeVoices 1 = .ok (.getfield 34, 3) := by decide +kernel
theorem dX7_takeVoices_4 : decode cX7_takeVoices 4 = .ok (.getfield 61, 3) := by decide +kernel
theorem dX7_takeVoices_7 : decode cX7_takeVoices 7 = .ok (.iconst 0, 1) := by decide +kernel
theorem dX7_takeVoices_8 : decode cX7_takeVoices 8 = .ok (.aload_n 0, 1) := by decide +kernel
theorem dX7_takeVoices_9 : decode cX7_takeVoices 9 = .ok (.getfield 18, 3) := by decide +kernel
theorem dX7_takeVoices_12 : decode cX7_takeVoices 12 = .ok (.iconst 0, 1) := by decide +kernel
theorem dX7_takeVoices_13 : decode cX7_takeVoices 13 = .ok (.bipush 6, 2) := by decide +kernel
theorem dX7_takeVoices_15 : decode cX7_takeVoices 15 = .ok (.invokestatic 38, 3) := by decide +kernel
theorem dX7_takeVoices_18 : decode cX7_takeVoices 18 = .ok (.return_, 1) := by decide +kernel
theorem dX7_turnHeldOn_0 : decode cX7_turnHeldOn 0 = .ok (.aload_n 0, 1) := by decide +kernel
theorem dX7_turnHeldOn_1 : decode cX7_turnHeldOn 1 = .ok (.dup, 1) := by decide +kernel
theorem dX7_turnHeldOn_2 : decode cX7_turnHeldOn 2 = .ok (.getfield 28, 3) := by decide +kernel
theorem dX7_turnHeldOn_5 : decode cX7_turnHeldOn 5 = .ok (.iconst 1, 1) := by decide +kernel
theorem dX7_turnHeldOn_6 : decode cX7_turnHeldOn 6 = .ok (.iload_n 1, 1) := by decide +kernel
theorem dX7_turnHeldOn_7 : decode cX7_turnHeldOn 7 = .ok (.ishl, 1) := by decide +kernel
theorem dX7_turnHeldOn_8 : decode cX7_turnHeldOn 8 = .ok (.ixor, 1) := by decide +kernel
theorem dX7_turnHeldOn_9 : decode cX7_turnHeldOn 9 = .ok (.putfield 28, 3) := by decide +kernel
theorem dX7_turnHeldOn_12 : decode cX7_turnHeldOn 12 = .ok (.return_, 1) := by decide +kernel
theorem dX7_whoIsAt_0 : decode cX7_whoIsAt 0 = .ok (.iconst 0, 1) := by decide +kernel
theorem dX7_whoIsAt_1 : decode cX7_whoIsAt 1 = .ok (.istore_n 2, 1) := by decide +kernel
theorem dX7_whoIsAt_2 : decode cX7_whoIsAt 2 = .ok (.iload_n 2, 1) := by decide +kernel
theorem dX7_whoIsAt_3 : decode cX7_whoIsAt 3 = .ok (.bipush 6, 2) := by decide +kernel
theorem dX7_whoIsAt_5 : decode cX7_whoIsAt 5 = .ok (.if_icmp .ge 29, 3) := by decide +kernel
theorem dX7_whoIsAt_8 : decode cX7_whoIsAt 8 = .ok (.aload_n 0, 1) := by decide +kernel
theorem dX7_whoIsAt_9 : decode cX7_whoIsAt 9 = .ok (.iload_n 2, 1) := by decide +kernel
theorem dX7_whoIsAt_10 : decode cX7_whoIsAt 10 = .ok (.invokevirtual 76, 3) := by decide +kernel
theorem dX7_whoIsAt_13 : decode cX7_whoIsAt 13 = .ok (.ifCond .eq 15, 3) := by decide +kernel
theorem dX7_whoIsAt_16 : decode cX7_whoIsAt 16 = .ok (.aload_n 0, 1) := by decide +kernel
theorem dX7_whoIsAt_17 : decode cX7_whoIsAt 17 = .ok (.getfield 9, 3) := by decide +kernel
theorem dX7_whoIsAt_20 : decode cX7_whoIsAt 20 = .ok (.iload_n 2, 1) := by decide +kernel
theorem dX7_whoIsAt_21 : decode cX7_whoIsAt 21 = .ok (.iaload, 1) := by decide +kernel
theorem dX7_whoIsAt_22 : decode cX7_whoIsAt 22 = .ok (.iload_n 1, 1) := by decide +kernel
theorem dX7_whoIsAt_23 : decode cX7_whoIsAt 23 = .ok (.if_icmp .ne 5, 3) := by decide +kernel
theorem dX7_whoIsAt_26 : decode cX7_whoIsAt 26 = .ok (.iload_n 2, 1) := by decide +kernel
theorem dX7_whoIsAt_27 : decode cX7_whoIsAt 27 = .ok (.ireturn, 1) := by decide +kernel
theorem dX7_whoIsAt_28 : decode cX7_whoIsAt 28 = .ok (.iinc 2 1, 3) := by decide +kernel
theorem dX7_whoIsAt_31 : decode cX7_whoIsAt 31 = .ok (.goto (-29), 3) := by decide +kernel
theorem dX7_whoIsAt_34 : decode cX7_whoIsAt 34 = .ok (.bipush (-9), 2) := by decide +kernel
theorem dX7_whoIsAt_36 : decode cX7_whoIsAt 36 = .ok (.ireturn, 1) := by decide +kernel
theorem dX7_seatsTaken_0 : decode cX7_seatsTaken 0 = .ok (.aload_n 0, 1) := by decide +kernel
theorem dX7_seatsTaken_1 : decode cX7_seatsTaken 1 = .ok (.aload_n 0, 1) := by decide +kernel
theorem dX7_seatsTaken_2 : decode cX7_seatsTaken 2 = .ok (.getfield 9, 3) := by decide +kernel
theorem dX7_seatsTaken_5 : decode cX7_seatsTaken 5 = .ok (.invokevirtual 82, 3) := by decide +kernel
theorem dX7_seatsTaken_8 : decode cX7_seatsTaken 8 = .ok (.ireturn, 1) := by decide +kernel
theorem dX7_notesSung_0 : decode cX7_notesSung 0 = .ok (.aload_n 0, 1) := by decide +kernel
theorem dX7_notesSung_1 : decode cX7_notesSung 1 = .ok (.aload_n 0, 1) := by decide +kernel
theorem dX7_notesSung_2 : decode cX7_notesSung 2 = .ok (.getfield 18, 3) := by decide +kernel
theorem dX7_notesSung_5 : decode cX7_notesSung 5 = .ok (.invokevirtual 82, 3) := by decide +kernel
theorem dX7_notesSung_8 : decode cX7_notesSung 8 = .ok (.ireturn, 1) := by decide +kernel
theorem dX7_bitsOf_0 : decode cX7_bitsOf 0 = .ok (.iconst 0, 1) := by decide +kernel
theorem dX7_bitsOf_1 : decode cX7_bitsOf 1 = .ok (.istore_n 2, 1) := by decide +kernel
theorem dX7_bitsOf_2 : decode cX7_bitsOf 2 = .ok (.iconst 0, 1) := by decide +kernel
theorem dX7_bitsOf_3 : decode cX7_bitsOf 3 = .ok (.istore_n 3, 1) := by decide +kernel
theorem dX7_bitsOf_4 : decode cX7_bitsOf 4 = .ok (.iload_n 3, 1) := by decide +kernel
theorem dX7_bitsOf_5 : decode cX7_bitsOf 5 = .ok (.bipush 6, 2) := by decide +kernel
theorem dX7_bitsOf_7 : decode cX7_bitsOf 7 = .ok (.if_icmp .ge 25, 3) := by decide +kernel
theorem dX7_bitsOf_10 : decode cX7_bitsOf 10 = .ok (.aload_n 0, 1) := by decide +kernel
theorem dX7_bitsOf_11 : decode cX7_bitsOf 11 = .ok (.iload_n 3, 1) := by decide +kernel
theorem dX7_bitsOf_12 : decode cX7_bitsOf 12 = .ok (.invokevirtual 76, 3) := by decide +kernel
theorem dX7_bitsOf_15 : decode cX7_bitsOf 15 = .ok (.ifCond .eq 11, 3) := by decide +kernel
theorem dX7_bitsOf_18 : decode cX7_bitsOf 18 = .ok (.iload_n 2, 1) := by decide +kernel
theorem dX7_bitsOf_19 : decode cX7_bitsOf 19 = .ok (.iconst 1, 1) := by decide +kernel
theorem dX7_bitsOf_20 : decode cX7_bitsOf 20 = .ok (.aload_n 1, 1) := by decide +kernel
theorem dX7_bitsOf_21 : decode cX7_bitsOf 21 = .ok (.iload_n 3, 1) := by decide +kernel
theorem dX7_bitsOf_22 : decode cX7_bitsOf 22 = .ok (.iaload, 1) := by decide +kernel
theorem dX7_bitsOf_23 : decode cX7_bitsOf 23 = .ok (.ishl, 1) := by decide +kernel
theorem dX7_bitsOf_24 : decode cX7_bitsOf 24 = .ok (.ior, 1) := by decide +kernel
theorem dX7_bitsOf_25 : decode cX7_bitsOf 25 = .ok (.istore_n 2, 1) := by decide +kernel
theorem dX7_bitsOf_26 : decode cX7_bitsOf 26 = .ok (.iinc 3 1, 3) := by decide +kernel
theorem dX7_bitsOf_29 : decode cX7_bitsOf 29 = .ok (.goto (-25), 3) := by decide +kernel
theorem dX7_bitsOf_32 : decode cX7_bitsOf 32 = .ok (.iload_n 2, 1) := by decide +kernel
theorem dX7_bitsOf_33 : decode cX7_bitsOf 33 = .ok (.ireturn, 1) := by decide +kernel
theorem dX7_richness_0 : decode cX7_richness 0 = .ok (.aload_n 0, 1) := by decide +kernel
theorem dX7_richness_1 : decode cX7_richness 1 = .ok (.invokevirtual 86, 3) := by decide +kernel
theorem dX7_richness_4 : decode cX7_richness 4 = .ok (.invokestatic 90, 3) := by decide +kernel
theorem dX7_richness_7 : decode cX7_richness 7 = .ok (.ireturn, 1) := by decide +kernel
theorem dX7_howManySing_0 : decode cX7_howManySing 0 = .ok (.iconst 0, 1) := by decide +kernel
theorem dX7_howManySing_1 : decode cX7_howManySing 1 = .ok (.istore_n 2, 1) := by decide +kernel
theorem dX7_howManySing_2 : decode cX7_howManySing 2 = .ok (.iconst 0, 1) := by decide +kernel
theorem dX7_howManySing_3 : decode cX7_howManySing 3 = .ok (.istore_n 3, 1) := by decide +kernel
theorem dX7_howManySing_4 : decode cX7_howManySing 4 = .ok (.iload_n 3, 1) := by decide +kernel
theorem dX7_howManySing_5 : decode cX7_howManySing 5 = .ok (.bipush 6, 2) := by decide +kernel
theorem dX7_howManySing_7 : decode cX7_howManySing 7 = .ok (.if_icmp .ge 30, 3) := by decide +kernel
theorem dX7_howManySing_10 : decode cX7_howManySing 10 = .ok (.aload_n 0, 1) := by decide +kernel
theorem dX7_howManySing_11 : decode cX7_howManySing 11 = .ok (.iload_n 3, 1) := by decide +kernel
theorem dX7_howManySing_12 : decode cX7_howManySing 12 = .ok (.invokevirtual 76, 3) := by decide +kernel
theorem dX7_howManySing_15 : decode cX7_howManySing 15 = .ok (.ifCond .eq 16, 3) := by decide +kernel
theorem dX7_howManySing_18 : decode cX7_howManySing 18 = .ok (.aload_n 0, 1) := by decide +kernel
theorem dX7_howManySing_19 : decode cX7_howManySing 19 = .ok (.getfield 18, 3) := by decide +kernel
theorem dX7_howManySing_22 : decode cX7_howManySing 22 = .ok (.iload_n 3, 1) := by decide +kernel
theorem dX7_howManySing_23 : decode cX7_howManySing 23 = .ok (.iaload, 1) := by decide +kernel
theorem dX7_howManySing_24 : decode cX7_howManySing 24 = .ok (.iload_n 1, 1) := by decide +kernel
theorem dX7_howManySing_25 : decode cX7_howManySing 25 = .ok (.if_icmp .ne 6, 3) := by decide +kernel
theorem dX7_howManySing_28 : decode cX7_howManySing 28 = .ok (.iinc 2 1, 3) := by decide +kernel
theorem dX7_howManySing_31 : decode cX7_howManySing 31 = .ok (.iinc 3 1, 3) := by decide +kernel
theorem dX7_howManySing_34 : decode cX7_howManySing 34 = .ok (.goto (-30), 3) := by decide +kernel
theorem dX7_howManySing_37 : decode cX7_howManySing 37 = .ok (.iload_n 2, 1) := by decide +kernel
theorem dX7_howManySing_38 : decode cX7_howManySing 38 = .ok (.ireturn, 1) := by decide +kernel
theorem dX7_goodsOfAll_0 : decode cX7_goodsOfAll 0 = .ok (.iconst 0, 1) := by decide +kernel
theorem dX7_goodsOfAll_1 : decode cX7_goodsOfAll 1 = .ok (.istore_n 1, 1) := by decide +kernel
theorem dX7_goodsOfAll_2 : decode cX7_goodsOfAll 2 = .ok (.iconst 0, 1) := by decide +kernel
theorem dX7_goodsOfAll_3 : decode cX7_goodsOfAll 3 = .ok (.istore_n 2, 1) := by decide +kernel
theorem dX7_goodsOfAll_4 : decode cX7_goodsOfAll 4 = .ok (.iload_n 2, 1) := by decide +kernel
theorem dX7_goodsOfAll_5 : decode cX7_goodsOfAll 5 = .ok (.bipush 6, 2) := by decide +kernel
theorem dX7_goodsOfAll_7 : decode cX7_goodsOfAll 7 = .ok (.if_icmp .ge 26, 3) := by decide +kernel
theorem dX7_goodsOfAll_10 : decode cX7_goodsOfAll 10 = .ok (.aload_n 0, 1) := by decide +kernel
theorem dX7_goodsOfAll_11 : decode cX7_goodsOfAll 11 = .ok (.iload_n 2, 1) := by decide +kernel
theorem dX7_goodsOfAll_12 : decode cX7_goodsOfAll 12 = .ok (.invokevirtual 76, 3) := by decide +kernel
theorem dX7_goodsOfAll_15 : decode cX7_goodsOfAll 15 = .ok (.ifCond .eq 12, 3) := by decide +kernel
theorem dX7_goodsOfAll_18 : decode cX7_goodsOfAll 18 = .ok (.iload_n 1, 1) := by decide +kernel
theorem dX7_goodsOfAll_19 : decode cX7_goodsOfAll 19 = .ok (.aload_n 0, 1) := by decide +kernel
theorem dX7_goodsOfAll_20 : decode cX7_goodsOfAll 20 = .ok (.getfield 15, 3) := by decide +kernel
theorem dX7_goodsOfAll_23 : decode cX7_goodsOfAll 23 = .ok (.iload_n 2, 1) := by decide +kernel
theorem dX7_goodsOfAll_24 : decode cX7_goodsOfAll 24 = .ok (.iaload, 1) := by decide +kernel
theorem dX7_goodsOfAll_25 : decode cX7_goodsOfAll 25 = .ok (.iadd, 1) := by decide +kernel
theorem dX7_goodsOfAll_26 : decode cX7_goodsOfAll 26 = .ok (.istore_n 1, 1) := by decide +kernel
theorem dX7_goodsOfAll_27 : decode cX7_goodsOfAll 27 = .ok (.iinc 2 1, 3) := by decide +kernel
theorem dX7_goodsOfAll_30 : decode cX7_goodsOfAll 30 = .ok (.goto (-26), 3) := by decide +kernel
theorem dX7_goodsOfAll_33 : decode cX7_goodsOfAll 33 = .ok (.iload_n 1, 1) := by decide +kernel
theorem dX7_goodsOfAll_34 : decode cX7_goodsOfAll 34 = .ok (.ireturn, 1) := by decide +kernel
theorem dX7_envious_0 : decode cX7_envious 0 = .ok (.iconst 0, 1) := by decide +kernel
theorem dX7_envious_1 : decode cX7_envious 1 = .ok (.istore_n 1, 1) := by decide +kernel
theorem dX7_envious_2 : decode cX7_envious 2 = .ok (.iconst 0, 1) := by decide +kernel
theorem dX7_envious_3 : decode cX7_envious 3 = .ok (.istore_n 2, 1) := by decide +kernel
theorem dX7_envious_4 : decode cX7_envious 4 = .ok (.iload_n 2, 1) := by decide +kernel
theorem dX7_envious_5 : decode cX7_envious 5 = .ok (.bipush 6, 2) := by decide +kernel
theorem dX7_envious_7 : decode cX7_envious 7 = .ok (.if_icmp .ge 33, 3) := by decide +kernel
theorem dX7_envious_10 : decode cX7_envious 10 = .ok (.aload_n 0, 1) := by decide +kernel
theorem dX7_envious_11 : decode cX7_envious 11 = .ok (.iload_n 2, 1) := by decide +kernel
theorem dX7_envious_12 : decode cX7_envious 12 = .ok (.invokevirtual 76, 3) := by decide +kernel
theorem dX7_envious_15 : decode cX7_envious 15 = .ok (.ifCond .eq 19, 3) := by decide +kernel
theorem dX7_envious_18 : decode cX7_envious 18 = .ok (.aload_n 0, 1) := by decide +kernel
theorem dX7_envious_19 : decode cX7_envious 19 = .ok (.iload_n 2, 1) := by decide +kernel
theorem dX7_envious_20 : decode cX7_envious 20 = .ok (.invokevirtual 57, 3) := by decide +kernel
theorem dX7_envious_23 : decode cX7_envious 23 = .ok (.bipush (-9), 2) := by decide +kernel
theorem dX7_envious_25 : decode cX7_envious 25 = .ok (.if_icmp .eq 9, 3) := by decide +kernel
theorem dX7_envious_28 : decode cX7_envious 28 = .ok (.iload_n 1, 1) := by decide +kernel
theorem dX7_envious_29 : decode cX7_envious 29 = .ok (.iconst 1, 1) := by decide +kernel
theorem dX7_envious_30 : decode cX7_envious 30 = .ok (.iload_n 2, 1) := by decide +kernel
theorem dX7_envious_31 : decode cX7_envious 31 = .ok (.ishl, 1) := by decide +kernel
theorem dX7_envious_32 : decode cX7_envious 32 = .ok (.ior, 1) := by decide +kernel
theorem dX7_envious_33 : decode cX7_envious 33 = .ok (.istore_n 1, 1) := by decide +kernel
theorem dX7_envious_34 : decode cX7_envious 34 = .ok (.iinc 2 1, 3) := by decide +kernel
theorem dX7_envious_37 : decode cX7_envious 37 = .ok (.goto (-33), 3) := by decide +kernel
theorem dX7_envious_40 : decode cX7_envious 40 = .ok (.iload_n 1, 1) := by decide +kernel
theorem dX7_envious_41 : decode cX7_envious 41 = .ok (.ireturn, 1) := by decide +kernel
theorem dX7_notesAsNumber_0 : decode cX7_notesAsNumber 0 = .ok (.iconst 0, 1) := by decide +kernel
theorem dX7_notesAsNumber_1 : decode cX7_notesAsNumber 1 = .ok (.istore_n 1, 1) := by decide +kernel
theorem dX7_notesAsNumber_2 : decode cX7_notesAsNumber 2 = .ok (.iconst 0, 1) := by decide +kernel
theorem dX7_notesAsNumber_3 : decode cX7_notesAsNumber 3 = .ok (.istore_n 2, 1) := by decide +kernel
theorem dX7_notesAsNumber_4 : decode cX7_notesAsNumber 4 = .ok (.iload_n 2, 1) := by decide +kernel
theorem dX7_notesAsNumber_5 : decode cX7_notesAsNumber 5 = .ok (.bipush 6, 2) := by decide +kernel
theorem dX7_notesAsNumber_7 : decode cX7_notesAsNumber 7 = .ok (.if_icmp .ge 33, 3) := by decide +kernel
theorem dX7_notesAsNumber_10 : decode cX7_notesAsNumber 10 = .ok (.iload_n 1, 1) := by decide +kernel
theorem dX7_notesAsNumber_11 : decode cX7_notesAsNumber 11 = .ok (.bipush 10, 2) := by decide +kernel
theorem dX7_notesAsNumber_13 : decode cX7_notesAsNumber 13 = .ok (.imul, 1) := by decide +kernel
theorem dX7_notesAsNumber_14 : decode cX7_notesAsNumber 14 = .ok (.aload_n 0, 1) := by decide +kernel
theorem dX7_notesAsNumber_15 : decode cX7_notesAsNumber 15 = .ok (.iload_n 2, 1) := by decide +kernel
theorem dX7_notesAsNumber_16 : decode cX7_notesAsNumber 16 = .ok (.invokevirtual 76, 3) := by decide +kernel
theorem dX7_notesAsNumber_19 : decode cX7_notesAsNumber 19 = .ok (.ifCond .eq 12, 3) := by decide +kernel
theorem dX7_notesAsNumber_22 : decode cX7_notesAsNumber 22 = .ok (.aload_n 0, 1) := by decide +kernel
theorem dX7_notesAsNumber_23 : decode cX7_notesAsNumber 23 = .ok (.getfield 18, 3) := by decide +kernel
theorem dX7_notesAsNumber_26 : decode cX7_notesAsNumber 26 = .ok (.iload_n 2, 1) := by decide +kernel
theorem dX7_notesAsNumber_27 : decode cX7_notesAsNumber 27 = .ok (.iaload, 1) := by decide +kernel
theorem dX7_notesAsNumber_28 : decode cX7_notesAsNumber 28 = .ok (.goto 4, 3) := by decide +kernel
theorem dX7_notesAsNumber_31 : decode cX7_notesAsNumber 31 = .ok (.iconst 0, 1) := by decide +kernel
theorem dX7_notesAsNumber_32 : decode cX7_notesAsNumber 32 = .ok (.iadd, 1) := by decide +kernel
theorem dX7_notesAsNumber_33 : decode cX7_notesAsNumber 33 = .ok (.istore_n 1, 1) := by decide +kernel
theorem dX7_notesAsNumber_34 : decode cX7_notesAsNumber 34 = .ok (.iinc 2 1, 3) := by decide +kernel
theorem dX7_notesAsNumber_37 : decode cX7_notesAsNumber 37 = .ok (.goto (-33), 3) := by decide +kernel
theorem dX7_notesAsNumber_40 : decode cX7_notesAsNumber 40 = .ok (.iload_n 1, 1) := by decide +kernel
theorem dX7_notesAsNumber_41 : decode cX7_notesAsNumber 41 = .ok (.ireturn, 1) := by decide +kernel
theorem dX8_init_0 : decode cX8_init 0 = .ok (.aload_n 0, 1) := by decide +kernel
theorem dX8_init_1 : decode cX8_init 1 = .ok (.invokespecial 1, 3) := by decide +kernel
theorem dX8_init_4 : decode cX8_init 4 = .ok (.aload_n 0, 1) := by decide +kernel
theorem dX8_init_5 : decode cX8_init 5 = .ok (.lconst 0, 1) := by decide +kernel
theorem dX8_init_6 : decode cX8_init 6 = .ok (.putfield 7, 3) := by decide +kernel
theorem dX8_init_9 : decode cX8_init 9 = .ok (.aload_n 0, 1) := by decide +kernel
theorem dX8_init_10 : decode cX8_init 10 = .ok (.aload_n 1, 1) := by decide +kernel
theorem dX8_init_11 : decode cX8_init 11 = .ok (.putfield 13, 3) := by decide +kernel
theorem dX8_init_14 : decode cX8_init 14 = .ok (.aload_n 0, 1) := by decide +kernel
theorem dX8_init_15 : decode cX8_init 15 = .ok (.aload_n 2, 1) := by decide +kernel
theorem dX8_init_16 : decode cX8_init 16 = .ok (.putfield 17, 3) := by decide +kernel
theorem dX8_init_19 : decode cX8_init 19 = .ok (.return_, 1) := by decide +kernel
theorem dX8_goThrough_0 : decode cX8_goThrough 0 = .ok (.aload_n 0, 1) := by decide +kernel
theorem dX8_goThrough_1 : decode cX8_goThrough 1 = .ok (.getfield 17, 3) := by decide +kernel
theorem dX8_goThrough_4 : decode cX8_goThrough 4 = .ok (.aload_n 0, 1) := by decide +kernel
theorem dX8_goThrough_5 : decode cX8_goThrough 5 = .ok (.getfield 13, 3) := by decide +kernel
theorem dX8_goThrough_8 : decode cX8_goThrough 8 = .ok (.invokevirtual 20, 3) := by decide +kernel
theorem dX8_goThrough_11 : decode cX8_goThrough 11 = .ok (.iconst 0, 1) := by decide +kernel
theorem dX8_goThrough_12 : decode cX8_goThrough 12 = .ok (.istore_n 2, 1) := by decide +kernel
theorem dX8_goThrough_13 : decode cX8_goThrough 13 = .ok (.iconst 0, 1) := by decide +kernel
theorem dX8_goThrough_14 : decode cX8_goThrough 14 = .ok (.istore_n 3, 1) := by decide +kernel
theorem dX8_goThrough_15 : decode cX8_goThrough 15 = .ok (.iload_n 3, 1) := by decide +kernel
theorem dX8_goThrough_16 : decode cX8_goThrough 16 = .ok (.iload_n 1, 1) := by decide +kernel
theorem dX8_goThrough_17 : decode cX8_goThrough 17 = .ok (.if_icmp .ge 51, 3) := by decide +kernel
theorem dX8_goThrough_20 : decode cX8_goThrough 20 = .ok (.aload_n 0, 1) := by decide +kernel
theorem dX8_goThrough_21 : decode cX8_goThrough 21 = .ok (.aload_n 0, 1) := by decide +kernel
theorem dX8_goThrough_22 : decode cX8_goThrough 22 = .ok (.getfield 7, 3) := by decide +kernel
theorem dX8_goThrough_25 : decode cX8_goThrough 25 = .ok (.ldc2_w 26, 3) := by decide +kernel
theorem dX8_goThrough_28 : decode cX8_goThrough 28 = .ok (.lmul, 1) := by decide +kernel
theorem dX8_goThrough_29 : decode cX8_goThrough 29 = .ok (.ldc2_w 28, 3) := by decide +kernel
theorem dX8_goThrough_32 : decode cX8_goThrough 32 = .ok (.ladd, 1) := by decide +kernel
theorem dX8_goThrough_33 : decode cX8_goThrough 33 = .ok (.putfield 7, 3) := by decide +kernel
theorem dX8_goThrough_36 : decode cX8_goThrough 36 = .ok (.aload_n 0, 1) := by decide +kernel
theorem dX8_goThrough_37 : decode cX8_goThrough 37 = .ok (.aload_n 0, 1) := by decide +kernel
theorem dX8_goThrough_38 : decode cX8_goThrough 38 = .ok (.getfield 7, 3) := by decide +kernel
theorem dX8_goThrough_41 : decode cX8_goThrough 41 = .ok (.bipush 33, 2) := by decide +kernel
theorem dX8_goThrough_43 : decode cX8_goThrough 43 = .ok (.lushr, 1) := by decide +kernel
theorem dX8_goThrough_44 : decode cX8_goThrough 44 = .ok (.ldc2_w 30, 3) := by decide +kernel
theorem dX8_goThrough_47 : decode cX8_goThrough 47 = .ok (.lrem, 1) := by decide +kernel
theorem dX8_goThrough_48 : decode cX8_goThrough 48 = .ok (.l2i, 1) := by decide +kernel
theorem dX8_goThrough_49 : decode cX8_goThrough 49 = .ok (.invokevirtual 32, 3) := by decide +kernel
theorem dX8_goThrough_52 : decode cX8_goThrough 52 = .ok (.iload_n 2, 1) := by decide +kernel
theorem dX8_goThrough_53 : decode cX8_goThrough 53 = .ok (.aload_n 0, 1) := by decide +kernel
theorem dX8_goThrough_54 : decode cX8_goThrough 54 = .ok (.getfield 17, 3) := by decide +kernel
theorem dX8_goThrough_57 : decode cX8_goThrough 57 = .ok (.invokevirtual 36, 3) := by decide +kernel
theorem dX8_goThrough_60 : decode cX8_goThrough 60 = .ok (.iadd, 1) := by decide +kernel
theorem dX8_goThrough_61 : decode cX8_goThrough 61 = .ok (.istore_n 2, 1) := by decide +kernel
theorem dX8_goThrough_62 : decode cX8_goThrough 62 = .ok (.iinc 3 1, 3) := by decide +kernel
theorem dX8_goThrough_65 : decode cX8_goThrough 65 = .ok (.goto (-50), 3) := by decide +kernel
theorem dX8_goThrough_68 : decode cX8_goThrough 68 = .ok (.iload_n 2, 1) := by decide +kernel
theorem dX8_goThrough_69 : decode cX8_goThrough 69 = .ok (.ireturn, 1) := by decide +kernel
theorem dX8_happen_0 : decode cX8_happen 0 = .ok (.iload_n 1, 1) := by decide +kernel
theorem dX8_happen_1 : decode cX8_happen 1 = .ok (.bipush 6, 2) := by decide +kernel
theorem dX8_happen_3 : decode cX8_happen 3 = .ok (.if_icmp .ge 26, 3) := by decide +kernel
theorem dX8_happen_6 : decode cX8_happen 6 = .ok (.aload_n 0, 1) := by decide +kernel
theorem dX8_happen_7 : decode cX8_happen 7 = .ok (.getfield 17, 3) := by decide +kernel
theorem dX8_happen_10 : decode cX8_happen 10 = .ok (.iload_n 1, 1) := by decide +kernel
theorem dX8_happen_11 : decode cX8_happen 11 = .ok (.invokevirtual 40, 3) := by decide +kernel
theorem dX8_happen_14 : decode cX8_happen 14 = .ok (.ifCond .eq 125, 3) := by decide +kernel
theorem dX8_happen_17 : decode cX8_happen 17 = .ok (.aload_n 0, 1) := by decide +kernel
theorem dX8_happen_18 : decode cX8_happen 18 = .ok (.getfield 17, 3) := by decide +kernel
theorem dX8_happen_21 : decode cX8_happen 21 = .ok (.iload_n 1, 1) := by decide +kernel
theorem dX8_happen_22 : decode cX8_happen 22 = .ok (.iconst 1, 1) := by decide +kernel
theorem dX8_happen_23 : decode cX8_happen 23 = .ok (.invokevirtual 44, 3) := by decide +kernel
theorem dX8_happen_26 : decode cX8_happen 26 = .ok (.goto 113, 3) := by decide +kernel
theorem dX8_happen_29 : decode cX8_happen 29 = .ok (.iload_n 1, 1) := by decide +kernel
theorem dX8_happen_30 : decode cX8_happen 30 = .ok (.bipush 12, 2) := by decide +kernel
theorem dX8_happen_32 : decode cX8_happen 32 = .ok (.if_icmp .ge 31, 3) := by decide +kernel
theorem dX8_happen_35 : decode cX8_happen 35 = .ok (.aload_n 0, 1) := by decide +kernel
theorem dX8_happen_36 : decode cX8_happen 36 = .ok (.getfield 17, 3) := by decide +kernel
theorem dX8_happen_39 : decode cX8_happen 39 = .ok (.iload_n 1, 1) := by decide +kernel
theorem dX8_happen_40 : decode cX8_happen 40 = .ok (.bipush 6, 2) := by decide +kernel
theorem dX8_happen_42 : decode cX8_happen 42 = .ok (.isub, 1) := by decide +kernel
theorem dX8_happen_43 : decode cX8_happen 43 = .ok (.invokevirtual 40, 3) := by decide +kernel
theorem dX8_happen_46 : decode cX8_happen 46 = .ok (.ifCond .eq 93, 3) := by decide +kernel
theorem dX8_happen_49 : decode cX8_happen 49 = .ok (.aload_n 0, 1) := by decide +kernel
theorem dX8_happen_50 : decode cX8_happen 50 = .ok (.getfield 17, 3) := by decide +kernel
theorem dX8_happen_53 : decode cX8_happen 53 = .ok (.iload_n 1, 1) := by decide +kernel
theorem dX8_happen_54 : decode cX8_happen 54 = .ok (.bipush 6, 2) := by decide +kernel
theorem dX8_happen_56 : decode cX8_happen 56 = .ok (.isub, 1) := by decide +kernel
theorem dX8_happen_57 : decode cX8_happen 57 = .ok (.invokevirtual 48, 3) := by decide +kernel
theorem dX8_happen_60 : decode cX8_happen 60 = .ok (.goto 79, 3) := by decide +kernel
theorem dX8_happen_63 : decode cX8_happen 63 = .ok (.iload_n 1, 1) := by decide +kernel
theorem dX8_happen_64 : decode cX8_happen 64 = .ok (.bipush 17, 2) := by decide +kernel
theorem dX8_happen_66 : decode cX8_happen 66 = .ok (.if_icmp .ge 49, 3) := by decide +kernel
theorem dX8_happen_69 : decode cX8_happen 69 = .ok (.aload_n 0, 1) := by decide +kernel
theorem dX8_happen_70 : decode cX8_happen 70 = .ok (.getfield 17, 3) := by decide +kernel
theorem dX8_happen_73 : decode cX8_happen 73 = .ok (.iload_n 1, 1) := by decide +kernel
theorem dX8_happen_74 : decode cX8_happen 74 = .ok (.bipush 12, 2) := by decide +kernel
theorem dX8_happen_76 : decode cX8_happen 76 = .ok (.isub, 1) := by decide +kernel
theorem dX8_happen_77 : decode cX8_happen 77 = .ok (.invokevirtual 40, 3) := by decide +kernel
theorem dX8_happen_80 : decode cX8_happen 80 = .ok (.ifCond .eq 59, 3) := by decide +kernel
theorem dX8_happen_83 : decode cX8_happen 83 = .ok (.aload_n 0, 1) := by decide +kernel
theorem dX8_happen_84 : decode cX8_happen 84 = .ok (.getfield 17, 3) := by decide +kernel
theorem dX8_happen_87 : decode cX8_happen 87 = .ok (.iload_n 1, 1) := by decide +kernel
theorem dX8_happen_88 : decode cX8_happen 88 = .ok (.bipush 11, 2) := by decide +kernel
theorem dX8_happen_90 : decode cX8_happen 90 = .ok (.isub, 1) := by decide +kernel
theorem dX8_happen_91 : decode cX8_happen 91 = .ok (.invokevirtual 40, 3) := by decide +kernel
theorem dX8_happen_94 : decode cX8_happen 94 = .ok (.ifCond .eq 45, 3) := by decide +kernel
theorem dX8_happen_97 : decode cX8_happen 97 = .ok (.aload_n 0, 1) := by decide +kernel
theorem dX8_happen_98 : decode cX8_happen 98 = .ok (.getfield 17, 3) := by decide +kernel
theorem dX8_happen_101 : decode cX8_happen 101 = .ok (.iload_n 1, 1) := by decide +kernel
theorem dX8_happen_102 : decode cX8_happen 102 = .ok (.bipush 12, 2) := by decide +kernel
theorem dX8_happen_104 : decode cX8_happen 104 = .ok (.isub, 1) := by decide +kernel
theorem dX8_happen_105 : decode cX8_happen 105 = .ok (.iload_n 1, 1) := by decide +kernel
theorem dX8_happen_106 : decode cX8_happen 106 = .ok (.bipush 11, 2) := by decide +kernel
theorem dX8_happen_108 : decode cX8_happen 108 = .ok (.isub, 1) := by decide +kernel
theorem dX8_happen_109 : decode cX8_happen 109 = .ok (.invokevirtual 51, 3) := by decide +kernel
theorem dX8_happen_112 : decode cX8_happen 112 = .ok (.goto 27, 3) := by decide +kernel
theorem dX8_happen_115 : decode cX8_happen 115 = .ok (.iload_n 1, 1) := by decide +kernel
theorem dX8_happen_116 : decode cX8_happen 116 = .ok (.bipush 17, 2) := by decide +kernel
theorem dX8_happen_118 : decode cX8_happen 118 = .ok (.if_icmp .ne 13, 3) := by decide +kernel
theorem dX8_happen_121 : decode cX8_happen 121 = .ok (.aload_n 0, 1) := by decide +kernel
theorem dX8_happen_122 : decode cX8_happen 122 = .ok (.getfield 17, 3) := by decide +kernel
theorem dX8_happen_125 : decode cX8_happen 125 = .ok (.invokevirtual 54, 3) := by decide +kernel
theorem dX8_happen_128 : decode cX8_happen 128 = .ok (.goto 11, 3) := by decide +kernel
theorem dX8_happen_131 : decode cX8_happen 131 = .ok (.aload_n 0, 1) := by decide +kernel
theorem dX8_happen_132 : decode cX8_happen 132 = .ok (.getfield 17, 3) := by decide +kernel
theorem dX8_happen_135 : decode cX8_happen 135 = .ok (.iconst 1, 1) := by decide +kernel
theorem dX8_happen_136 : decode cX8_happen 136 = .ok (.invokevirtual 57, 3) := by decide +kernel
theorem dX8_happen_139 : decode cX8_happen 139 = .ok (.return_, 1) := by decide +kernel
theorem dX9_init_0 : decode cX9_init 0 = .ok (.aload_n 0, 1) := by decide +kernel
theorem dX9_init_1 : decode cX9_init 1 = .ok (.invokespecial 1, 3) := by decide +kernel
theorem dX9_init_4 : decode cX9_init 4 = .ok (.aload_n 0, 1) := by decide +kernel
theorem dX9_init_5 : decode cX9_init 5 = .ok (.new 7, 3) := by decide +kernel
theorem dX9_init_8 : decode cX9_init 8 = .ok (.dup, 1) := by decide +kernel
theorem dX9_init_9 : decode cX9_init 9 = .ok (.invokespecial 9, 3) := by decide +kernel
theorem dX9_init_12 : decode cX9_init 12 = .ok (.putfield 10, 3) := by decide +kernel
theorem dX9_init_15 : decode cX9_init 15 = .ok (.aload_n 0, 1) := by decide +kernel
theorem dX9_init_16 : decode cX9_init 16 = .ok (.new 16, 3) := by decide +kernel
theorem dX9_init_19 : decode cX9_init 19 = .ok (.dup, 1) := by decide +kernel
theorem dX9_init_20 : decode cX9_init 20 = .ok (.invokespecial 18, 3) := by decide +kernel
theorem dX9_init_23 : decode cX9_init 23 = .ok (.putfield 19, 3) := by decide +kernel
theorem dX9_init_26 : decode cX9_init 26 = .ok (.aload_n 0, 1) := by decide +kernel
theorem dX9_init_27 : decode cX9_init 27 = .ok (.new 23, 3) := by decide +kernel
theorem dX9_init_30 : decode cX9_init 30 = .ok (.dup, 1) := by decide +kernel
theorem dX9_init_31 : decode cX9_init 31 = .ok (.aload_n 0, 1) := by decide +kernel
theorem dX9_init_32 : decode cX9_init 32 = .ok (.getfield 19, 3) := by decide +kernel
theorem dX9_init_35 : decode cX9_init 35 = .ok (.invokespecial 25, 3) := by decide +kernel
theorem dX9_init_38 : decode cX9_init 38 = .ok (.putfield 28, 3) := by decide +kernel
theorem dX9_init_41 : decode cX9_init 41 = .ok (.aload_n 0, 1) := by decide +kernel
theorem dX9_init_42 : decode cX9_init 42 = .ok (.new 23, 3) := by decide +kernel
theorem dX9_init_45 : decode cX9_init 45 = .ok (.dup, 1) := by decide +kernel
theorem dX9_init_46 : decode cX9_init 46 = .ok (.aload_n 0, 1) := by decide +kernel
theorem dX9_init_47 : decode cX9_init 47 = .ok (.getfield 19, 3) := by decide +kernel
theorem dX9_init_50 : decode cX9_init 50 = .ok (.invokespecial 25, 3) := by decide +kernel
theorem dX9_init_53 : decode cX9_init 53 = .ok (.putfield 32, 3) := by decide +kernel
theorem dX9_init_56 : decode cX9_init 56 = .ok (.aload_n 0, 1) := by decide +kernel
theorem dX9_init_57 : decode cX9_init 57 = .ok (.new 35, 3) := by decide +kernel
theorem dX9_init_60 : decode cX9_init 60 = .ok (.dup, 1) := by decide +kernel
theorem dX9_init_61 : decode cX9_init 61 = .ok (.aload_n 0, 1) := by decide +kernel
theorem dX9_init_62 : decode cX9_init 62 = .ok (.getfield 19, 3) := by decide +kernel
theorem dX9_init_65 : decode cX9_init 65 = .ok (.invokespecial 37, 3) := by decide +kernel
theorem dX9_init_68 : decode cX9_init 68 = .ok (.putfield 38, 3) := by decide +kernel
theorem dX9_init_71 : decode cX9_init 71 = .ok (.aload_n 0, 1) := by decide +kernel
theorem dX9_init_72 : decode cX9_init 72 = .ok (.new 42, 3) := by decide +kernel
theorem dX9_init_75 : decode cX9_init 75 = .ok (.dup, 1) := by decide +kernel
theorem dX9_init_76 : decode cX9_init 76 = .ok (.aload_n 0, 1) := by decide +kernel
theorem dX9_init_77 : decode cX9_init 77 = .ok (.getfield 19, 3) := by decide +kernel
theorem dX9_init_80 : decode cX9_init 80 = .ok (.invokespecial 44, 3) := by decide +kernel
theorem dX9_init_83 : decode cX9_init 83 = .ok (.putfield 45, 3) := by decide +kernel
theorem dX9_init_86 : decode cX9_init 86 = .ok (.aload_n 0, 1) := by decide +kernel
theorem dX9_init_87 : decode cX9_init 87 = .ok (.new 49, 3) := by decide +kernel
theorem dX9_init_90 : decode cX9_init 90 = .ok (.dup, 1) := by decide +kernel
theorem dX9_init_91 : decode cX9_init 91 = .ok (.invokespecial 51, 3) := by decide +kernel
theorem dX9_init_94 : decode cX9_init 94 = .ok (.putfield 52, 3) := by decide +kernel
theorem dX9_init_97 : decode cX9_init 97 = .ok (.aload_n 0, 1) := by decide +kernel
theorem dX9_init_98 : decode cX9_init 98 = .ok (.new 56, 3) := by decide +kernel
theorem dX9_init_101 : decode cX9_init 101 = .ok (.dup, 1) := by decide +kernel
theorem dX9_init_102 : decode cX9_init 102 = .ok (.aload_n 0, 1) := by decide +kernel
theorem dX9_init_103 : decode cX9_init 103 = .ok (.getfield 19, 3) := by decide +kernel
theorem dX9_init_106 : decode cX9_init 106 = .ok (.aload_n 0, 1) := by decide +kernel
theorem dX9_init_107 : decode cX9_init 107 = .ok (.getfield 28, 3) := by decide +kernel
theorem dX9_init_110 : decode cX9_init 110 = .ok (.aload_n 0, 1) := by decide +kernel
theorem dX9_init_111 : decode cX9_init 111 = .ok (.getfield 32, 3) := by decide +kernel
theorem dX9_init_114 : decode cX9_init 114 = .ok (.invokespecial 58, 3) := by decide +kernel
theorem dX9_init_117 : decode cX9_init 117 = .ok (.putfield 61, 3) := by decide +kernel
theorem dX9_init_120 : decode cX9_init 120 = .ok (.aload_n 0, 1) := by decide +kernel
theorem dX9_init_121 : decode cX9_init 121 = .ok (.new 65, 3) := by decide +kernel
theorem dX9_init_124 : decode cX9_init 124 = .ok (.dup, 1) := by decide +kernel
theorem dX9_init_125 : decode cX9_init 125 = .ok (.aload_n 0, 1) := by decide +kernel
theorem dX9_init_126 : decode cX9_init 126 = .ok (.getfield 19, 3) := by decide +kernel
theorem dX9_init_129 : decode cX9_init 129 = .ok (.aload_n 0, 1) := by decide +kernel
theorem dX9_init_130 : decode cX9_init 130 = .ok (.getfield 28, 3) := by decide +kernel
theorem dX9_init_133 : decode cX9_init 133 = .ok (.aload_n 0, 1) := by decide +kernel
theorem dX9_init_134 : decode cX9_init 134 = .ok (.getfield 32, 3) := by decide +kernel
theorem dX9_init_137 : decode cX9_init 137 = .ok (.invokespecial 67, 3) := by decide +kernel
theorem dX9_init_140 : decode cX9_init 140 = .ok (.putfield 68, 3) := by decide +kernel
theorem dX9_init_143 : decode cX9_init 143 = .ok (.aload_n 0, 1) := by decide +kernel
theorem dX9_init_144 : decode cX9_init 144 = .ok (.new 72, 3) := by decide +kernel
theorem dX9_init_147 : decode cX9_init 147 = .ok (.dup, 1) := by decide +kernel
theorem dX9_init_148 : decode cX9_init 148 = .ok (.aload_n 0, 1) := by decide +kernel
theorem dX9_init_149 : decode cX9_init 149 = .ok (.getfield 28, 3) := by decide +kernel
theorem dX9_init_152 : decode cX9_init 152 = .ok (.aload_n 0, 1) := by decide +kernel
theorem dX9_init_153 : decode cX9_init 153 = .ok (.getfield 32, 3) := by decide +kernel
theorem dX9_init_156 : decode cX9_init 156 = .ok (.invokespecial 74, 3) := by decide +kernel
theorem dX9_init_159 : decode cX9_init 159 = .ok (.putfield 77, 3) := by decide +kernel
theorem dX9_init_162 : decode cX9_init 162 = .ok (.return_, 1) := by decide +kernel
theorem dX9_write_0 : decode cX9_write 0 = .ok (.iload_n 1, 1) := by decide +kernel
theorem dX9_write_1 : decode cX9_write 1 = .ok (.ifCond .lt 10, 3) := by decide +kernel
theorem dX9_write_4 : decode cX9_write 4 = .ok (.iload_n 1, 1) := by decide +kernel
theorem dX9_write_5 : decode cX9_write 5 = .ok (.sipush 255, 3) := by decide +kernel
theorem dX9_write_8 : decode cX9_write 8 = .ok (.if_icmp .le 6, 3) := by decide +kernel
theorem dX9_write_11 : decode cX9_write 11 = .ok (.bipush (-2), 2) := by decide +kernel
theorem dX9_write_13 : decode cX9_write 13 = .ok (.ireturn, 1) := by decide +kernel
theorem dX9_write_14 : decode cX9_write 14 = .ok (.aload_n 0, 1) := by decide +kernel
theorem dX9_write_15 : decode cX9_write 15 = .ok (.getfield 10, 3) := by decide +kernel
theorem dX9_write_18 : decode cX9_write 18 = .ok (.iload_n 1, 1) := by decide +kernel
theorem dX9_write_19 : decode cX9_write 19 = .ok (.invokevirtual 81, 3) := by decide +kernel
theorem dX9_write_22 : decode cX9_write 22 = .ok (.ifCond .eq 13, 3) := by decide +kernel
theorem dX9_write_25 : decode cX9_write 25 = .ok (.aload_n 0, 1) := by decide +kernel
theorem dX9_write_26 : decode cX9_write 26 = .ok (.getfield 10, 3) := by decide +kernel
theorem dX9_write_29 : decode cX9_write 29 = .ok (.getfield 85, 3) := by decide +kernel
theorem dX9_write_32 : decode cX9_write 32 = .ok (.goto 5, 3) := by decide +kernel
theorem dX9_write_35 : decode cX9_write 35 = .ok (.bipush (-4), 2) := by decide +kernel
theorem dX9_write_37 : decode cX9_write 37 = .ok (.ireturn, 1) := by decide +kernel
theorem dX9_wipe_0 : decode cX9_wipe 0 = .ok (.aload_n 0, 1) := by decide +kernel
theorem dX9_wipe_1 : decode cX9_wipe 1 = .ok (.getfield 10, 3) := by decide +kernel
theorem dX9_wipe_4 : decode cX9_wipe 4 = .ok (.getfield 85, 3) := by decide +kernel
theorem dX9_wipe_7 : decode cX9_wipe 7 = .ok (.istore_n 1, 1) := by decide +kernel
theorem dX9_wipe_8 : decode cX9_wipe 8 = .ok (.aload_n 0, 1) := by decide +kernel
theorem dX9_wipe_9 : decode cX9_wipe 9 = .ok (.getfield 10, 3) := by decide +kernel
theorem dX9_wipe_12 : decode cX9_wipe 12 = .ok (.iconst 0, 1) := by decide +kernel
theorem dX9_wipe_13 : decode cX9_wipe 13 = .ok (.putfield 85, 3) := by decide +kernel
theorem dX9_wipe_16 : decode cX9_wipe 16 = .ok (.iload_n 1, 1) := by decide +kernel
theorem dX9_wipe_17 : decode cX9_wipe 17 = .ok (.ireturn, 1) := by decide +kernel
theorem dX9_fault_0 : decode cX9_fault 0 = .ok (.aload_n 0, 1) := by decide +kernel
theorem dX9_fault_1 : decode cX9_fault 1 = .ok (.getfield 10, 3) := by decide +kernel
theorem dX9_fault_4 : decode cX9_fault 4 = .ok (.invokevirtual 89, 3) := by decide +kernel
theorem dX9_fault_7 : decode cX9_fault 7 = .ok (.ireturn, 1) := by decide +kernel
theorem dX9_choir_0 : decode cX9_choir 0 = .ok (.aload_n 0, 1) := by decide +kernel
theorem dX9_choir_1 : decode cX9_choir 1 = .ok (.getfield 10, 3) := by decide +kernel
theorem dX9_choir_4 : decode cX9_choir 4 = .ok (.invokevirtual 89, 3) := by decide +kernel
theorem dX9_choir_7 : decode cX9_choir 7 = .ok (.bipush (-9), 2) := by decide +kernel
theorem dX9_choir_9 : decode cX9_choir 9 = .ok (.if_icmp .eq 6, 3) := by decide +kernel
theorem dX9_choir_12 : decode cX9_choir 12 = .ok (.bipush (-3), 2) := by decide +kernel
theorem dX9_choir_14 : decode cX9_choir 14 = .ok (.ireturn, 1) := by decide +kernel
theorem dX9_choir_15 : decode cX9_choir 15 = .ok (.aload_n 0, 1) := by decide +kernel
theorem dX9_choir_16 : decode cX9_choir 16 = .ok (.getfield 10, 3) := by decide +kernel
theorem dX9_choir_19 : decode cX9_choir 19 = .ok (.aload_n 0, 1) := by decide +kernel
theorem dX9_choir_20 : decode cX9_choir 20 = .ok (.getfield 19, 3) := by decide +kernel
theorem dX9_choir_23 : decode cX9_choir 23 = .ok (.aload_n 0, 1) := by decide +kernel
theorem dX9_choir_24 : decode cX9_choir 24 = .ok (.getfield 28, 3) := by decide +kernel
theorem dX9_choir_27 : decode cX9_choir 27 = .ok (.invokevirtual 93, 3) := by decide +kernel
theorem dX9_choir_30 : decode cX9_choir 30 = .ok (.aload_n 0, 1) := by decide +kernel
theorem dX9_choir_31 : decode cX9_choir 31 = .ok (.getfield 38, 3) := by decide +kernel
theorem dX9_choir_34 : decode cX9_choir 34 = .ok (.invokevirtual 97, 3) := by decide +kernel
theorem dX9_choir_37 : decode cX9_choir 37 = .ok (.aload_n 0, 1) := by decide +kernel
theorem dX9_choir_38 : decode cX9_choir 38 = .ok (.getfield 45, 3) := by decide +kernel
theorem dX9_choir_41 : decode cX9_choir 41 = .ok (.invokevirtual 100, 3) := by decide +kernel
theorem dX9_choir_44 : decode cX9_choir 44 = .ok (.aload_n 0, 1) := by decide +kernel
theorem dX9_choir_45 : decode cX9_choir 45 = .ok (.getfield 19, 3) := by decide +kernel
theorem dX9_choir_48 : decode cX9_choir 48 = .ok (.getfield 101, 3) := by decide +kernel
theorem dX9_choir_51 : decode cX9_choir 51 = .ok (.ireturn, 1) := by decide +kernel
theorem dX9_singer_0 : decode cX9_singer 0 = .ok (.aload_n 0, 1) := by decide +kernel
theorem dX9_singer_1 : decode cX9_singer 1 = .ok (.getfield 28, 3) := by decide +kernel
theorem dX9_singer_4 : decode cX9_singer 4 = .ok (.iload_n 1, 1) := by decide +kernel
theorem dX9_singer_5 : decode cX9_singer 5 = .ok (.invokevirtual 104, 3) := by decide +kernel
theorem dX9_singer_8 : decode cX9_singer 8 = .ok (.ifCond .ne 5, 3) := by decide +kernel
theorem dX9_singer_11 : decode cX9_singer 11 = .ok (.iconst (-1), 1) := by decide +kernel
theorem dX9_singer_12 : decode cX9_singer 12 = .ok (.ireturn, 1) := by decide +kernel
theorem dX9_singer_13 : decode cX9_singer 13 = .ok (.iload_n 2, 1) := by decide +kernel
theorem dX9_singer_14 : decode cX9_singer 14 = .ok (.tableswitch 145 0 8 #[50, 60, 70, 80, 90, 100, 110, 119, 128], 50) := by decide +kernel
theorem dX9_singer_64 : decode cX9_singer 64 = .ok (.aload_n 0, 1) := by decide +kernel
theorem dX9_singer_65 : decode cX9_singer 65 = .ok (.getfield 28, 3) := by decide +kernel
theorem dX9_singer_68 : decode cX9_singer 68 = .ok (.getfield 107, 3) := by decide +kernel
theorem dX9_singer_71 : decode cX9_singer 71 = .ok (.iload_n 1, 1) := by decide +kernel
theorem dX9_singer_72 : decode cX9_singer 72 = .ok (.iaload, 1) := by decide +kernel
theorem dX9_singer_73 : decode cX9_singer 73 = .ok (.ireturn, 1) := by decide +kernel
theorem dX9_singer_74 : decode cX9_singer 74 = .ok (.aload_n 0, 1) := by decide +kernel
theorem dX9_singer_75 : decode cX9_singer 75 = .ok (.getfield 19, 3) := by decide +kernel
theorem dX9_singer_78 : decode cX9_singer 78 = .ok (.getfield 111, 3) := by decide +kernel
theorem dX9_singer_81 : decode cX9_singer 81 = .ok (.iload_n 1, 1) := by decide +kernel
theorem dX9_singer_82 : decode cX9_singer 82 = .ok (.iaload, 1) := by decide +kernel
theorem dX9_singer_83 : decode cX9_singer 83 = .ok (.ireturn, 1) := by decide +kernel
theorem dX9_singer_84 : decode cX9_singer 84 = .ok (.aload_n 0, 1) := by decide +kernel
theorem dX9_singer_85 : decode cX9_singer 85 = .ok (.getfield 19, 3) := by decide +kernel
theorem dX9_singer_88 : decode cX9_singer 88 = .ok (.getfield 114, 3) := by decide +kernel
theorem dX9_singer_91 : decode cX9_singer 91 = .ok (.iload_n 1, 1) := by decide +kernel
theorem dX9_singer_92 : decode cX9_singer 92 = .ok (.iaload, 1) := by decide +kernel
theorem dX9_singer_93 : decode cX9_singer 93 = .ok (.ireturn, 1) := by decide +kernel
theorem dX9_singer_94 : decode cX9_singer 94 = .ok (.aload_n 0, 1) := by decide +kernel
theorem dX9_singer_95 : decode cX9_singer 95 = .ok (.getfield 28, 3) := by decide +kernel
theorem dX9_singer_98 : decode cX9_singer 98 = .ok (.getfield 117, 3) := by decide +kernel
theorem dX9_singer_101 : decode cX9_singer 101 = .ok (.iload_n 1, 1) := by decide +kernel
theorem dX9_singer_102 : decode cX9_singer 102 = .ok (.iaload, 1) := by decide +kernel
theorem dX9_singer_103 : decode cX9_singer 103 = .ok (.ireturn, 1) := by decide +kernel
theorem dX9_singer_104 : decode cX9_singer 104 = .ok (.aload_n 0, 1) := by decide +kernel
theorem dX9_singer_105 : decode cX9_singer 105 = .ok (.getfield 19, 3) := by decide +kernel
theorem dX9_singer_108 : decode cX9_singer 108 = .ok (.getfield 120, 3) := by decide +kernel
theorem dX9_singer_111 : decode cX9_singer 111 = .ok (.iload_n 1, 1) := by decide +kernel
theorem dX9_singer_112 : decode cX9_singer 112 = .ok (.iaload, 1) := by decide +kernel
theorem dX9_singer_113 : decode cX9_singer 113 = .ok (.ireturn, 1) := by decide +kernel
theorem dX9_singer_114 : decode cX9_singer 114 = .ok (.aload_n 0, 1) := by decide +kernel
theorem dX9_singer_115 : decode cX9_singer 115 = .ok (.getfield 28, 3) := by decide +kernel
theorem dX9_singer_118 : decode cX9_singer 118 = .ok (.getfield 123, 3) := by decide +kernel
theorem dX9_singer_121 : decode cX9_singer 121 = .ok (.iload_n 1, 1) := by decide +kernel
theorem dX9_singer_122 : decode cX9_singer 122 = .ok (.iaload, 1) := by decide +kernel
theorem dX9_singer_123 : decode cX9_singer 123 = .ok (.ireturn, 1) := by decide +kernel
theorem dX9_singer_124 : decode cX9_singer 124 = .ok (.aload_n 0, 1) := by decide +kernel
theorem dX9_singer_125 : decode cX9_singer 125 = .ok (.getfield 28, 3) := by decide +kernel
theorem dX9_singer_128 : decode cX9_singer 128 = .ok (.iload_n 1, 1) := by decide +kernel
theorem dX9_singer_129 : decode cX9_singer 129 = .ok (.invokevirtual 126, 3) := by decide +kernel
theorem dX9_singer_132 : decode cX9_singer 132 = .ok (.ireturn, 1) := by decide +kernel
theorem dX9_singer_133 : decode cX9_singer 133 = .ok (.aload_n 0, 1) := by decide +kernel
theorem dX9_singer_134 : decode cX9_singer 134 = .ok (.getfield 28, 3) := by decide +kernel
theorem dX9_singer_137 : decode cX9_singer 137 = .ok (.iload_n 1, 1) := by decide +kernel
theorem dX9_singer_138 : decode cX9_singer 138 = .ok (.invokevirtual 130, 3) := by decide +kernel
theorem dX9_singer_141 : decode cX9_singer 141 = .ok (.ireturn, 1) := by decide +kernel
theorem dX9_singer_142 : decode cX9_singer 142 = .ok (.aload_n 0, 1) := by decide +kernel
theorem dX9_singer_143 : decode cX9_singer 143 = .ok (.getfield 28, 3) := by decide +kernel
theorem dX9_singer_146 : decode cX9_singer 146 = .ok (.iload_n 1, 1) := by decide +kernel
theorem dX9_singer_147 : decode cX9_singer 147 = .ok (.invokevirtual 133, 3) := by decide +kernel
theorem dX9_singer_150 : decode cX9_singer 150 = .ok (.ifCond .eq 7, 3) := by decide +kernel
theorem dX9_singer_153 : decode cX9_singer 153 = .ok (.iconst 1, 1) := by decide +kernel
theorem dX9_singer_154 : decode cX9_singer 154 = .ok (.goto 4, 3) := by decide +kernel
theorem dX9_singer_157 : decode cX9_singer 157 = .ok (.iconst 0, 1) := by decide +kernel
theorem dX9_singer_158 : decode cX9_singer 158 = .ok (.ireturn, 1) := by decide +kernel
theorem dX9_singer_159 : decode cX9_singer 159 = .ok (.bipush (-2), 2) := by decide +kernel
theorem dX9_singer_161 : decode cX9_singer 161 = .ok (.ireturn, 1) := by decide +kernel
theorem dX9_seat_0 : decode cX9_seat 0 = .ok (.iload_n 1, 1) := by decide +kernel
theorem dX9_seat_1 : decode cX9_seat 1 = .ok (.iconst 0, 1) := by decide +kernel
theorem dX9_seat_2 : decode cX9_seat 2 = .ok (.bipush 7, 2) := by decide +kernel
theorem dX9_seat_4 : decode cX9_seat 4 = .ok (.invokestatic 136, 3) := by decide +kernel
theorem dX9_seat_7 : decode cX9_seat 7 = .ok (.ifCond .eq 14, 3) := by decide +kernel
theorem dX9_seat_10 : decode cX9_seat 10 = .ok (.aload_n 0, 1) := by decide +kernel
theorem dX9_seat_11 : decode cX9_seat 11 = .ok (.getfield 28, 3) := by decide +kernel
theorem dX9_seat_14 : decode cX9_seat 14 = .ok (.iload_n 1, 1) := by decide +kernel
theorem dX9_seat_15 : decode cX9_seat 15 = .ok (.invokevirtual 140, 3) := by decide +kernel
theorem dX9_seat_18 : decode cX9_seat 18 = .ok (.goto 4, 3) := by decide +kernel
theorem dX9_seat_21 : decode cX9_seat 21 = .ok (.iconst (-1), 1) := by decide +kernel
theorem dX9_seat_22 : decode cX9_seat 22 = .ok (.ireturn, 1) := by decide +kernel
theorem dX9_bar_0 : decode cX9_bar 0 = .ok (.aload_n 0, 1) := by decide +kernel
theorem dX9_bar_1 : decode cX9_bar 1 = .ok (.getfield 38, 3) := by decide +kernel
theorem dX9_bar_4 : decode cX9_bar 4 = .ok (.aload_n 0, 1) := by decide +kernel
theorem dX9_bar_5 : decode cX9_bar 5 = .ok (.getfield 28, 3) := by decide +kernel
theorem dX9_bar_8 : decode cX9_bar 8 = .ok (.invokevirtual 143, 3) := by decide +kernel
theorem dX9_bar_11 : decode cX9_bar 11 = .ok (.aload_n 0, 1) := by decide +kernel
theorem dX9_bar_12 : decode cX9_bar 12 = .ok (.getfield 28, 3) := by decide +kernel
theorem dX9_bar_15 : decode cX9_bar 15 = .ok (.iconst 1, 1) := by decide +kernel
theorem dX9_bar_16 : decode cX9_bar 16 = .ok (.invokevirtual 147, 3) := by decide +kernel
theorem dX9_bar_19 : decode cX9_bar 19 = .ok (.aload_n 0, 1) := by decide +kernel
theorem dX9_bar_20 : decode cX9_bar 20 = .ok (.getfield 28, 3) := by decide +kernel
theorem dX9_bar_23 : decode cX9_bar 23 = .ok (.dup, 1) := by decide +kernel
theorem dX9_bar_24 : decode cX9_bar 24 = .ok (.getfield 151, 3) := by decide +kernel
theorem dX9_bar_27 : decode cX9_bar 27 = .ok (.iconst 1, 1) := by decide +kernel
theorem dX9_bar_28 : decode cX9_bar 28 = .ok (.iadd, 1) := by decide +kernel
theorem dX9_bar_29 : decode cX9_bar 29 = .ok (.putfield 151, 3) := by decide +kernel
theorem dX9_bar_32 : decode cX9_bar 32 = .ok (.aload_n 0, 1) := by decide +kernel
theorem dX9_bar_33 : decode cX9_bar 33 = .ok (.getfield 28, 3) := by decide +kernel
theorem dX9_bar_36 : decode cX9_bar 36 = .ok (.invokevirtual 154, 3) := by decide +kernel
theorem dX9_bar_39 : decode cX9_bar 39 = .ok (.ireturn, 1) := by decide +kernel
theorem dX9_gift_0 : decode cX9_gift 0 = .ok (.aload_n 0, 1) := by decide +kernel
theorem dX9_gift_1 : decode cX9_gift 1 = .ok (.getfield 28, 3) := by decide +kernel
theorem dX9_gift_4 : decode cX9_gift 4 = .ok (.iload_n 1, 1) := by decide +kernel
theorem dX9_gift_5 : decode cX9_gift 5 = .ok (.invokevirtual 104, 3) := by decide +kernel
theorem dX9_gift_8 : decode cX9_gift 8 = .ok (.ifCond .ne 5, 3) := by decide +kernel
theorem dX9_gift_11 : decode cX9_gift 11 = .ok (.iconst (-1), 1) := by decide +kernel
theorem dX9_gift_12 : decode cX9_gift 12 = .ok (.ireturn, 1) := by decide +kernel
theorem dX9_gift_13 : decode cX9_gift 13 = .ok (.iload_n 2, 1) := by decide +kernel
theorem dX9_gift_14 : decode cX9_gift 14 = .ok (.iconst 1, 1) := by decide +kernel
theorem dX9_gift_15 : decode cX9_gift 15 = .ok (.bipush 9, 2) := by decide +kernel
theorem dX9_gift_17 : decode cX9_gift 17 = .ok (.invokestatic 136, 3) := by decide +kernel
theorem dX9_gift_20 : decode cX9_gift 20 = .ok (.ifCond .ne 6, 3) := by decide +kernel
theorem dX9_gift_23 : decode cX9_gift 23 = .ok (.bipush (-2), 2) := by decide +kernel
theorem dX9_gift_25 : decode cX9_gift 25 = .ok (.ireturn, 1) := by decide +kernel
theorem dX9_gift_26 : decode cX9_gift 26 = .ok (.aload_n 0, 1) := by decide +kernel
theorem dX9_gift_27 : decode cX9_gift 27 = .ok (.getfield 38, 3) := by decide +kernel
theorem dX9_gift_30 : decode cX9_gift 30 = .ok (.aload_n 0, 1) := by decide +kernel
theorem dX9_gift_31 : decode cX9_gift 31 = .ok (.getfield 28, 3) := by decide +kernel
theorem dX9_gift_34 : decode cX9_gift 34 = .ok (.invokevirtual 143, 3) := by decide +kernel
theorem dX9_gift_37 : decode cX9_gift 37 = .ok (.aload_n 0, 1) := by decide +kernel
theorem dX9_gift_38 : decode cX9_gift 38 = .ok (.getfield 28, 3) := by decide +kernel
theorem dX9_gift_41 : decode cX9_gift 41 = .ok (.iload_n 1, 1) := by decide +kernel
theorem dX9_gift_42 : decode cX9_gift 42 = .ok (.iload_n 2, 1) := by decide +kernel
theorem dX9_gift_43 : decode cX9_gift 43 = .ok (.invokevirtual 157, 3) := by decide +kernel
theorem dX9_gift_46 : decode cX9_gift 46 = .ok (.aload_n 0, 1) := by decide +kernel
theorem dX9_gift_47 : decode cX9_gift 47 = .ok (.getfield 28, 3) := by decide +kernel
theorem dX9_gift_50 : decode cX9_gift 50 = .ok (.getfield 117, 3) := by decide +kernel
theorem dX9_gift_53 : decode cX9_gift 53 = .ok (.iload_n 1, 1) := by decide +kernel
theorem dX9_gift_54 : decode cX9_gift 54 = .ok (.iaload, 1) := by decide +kernel
theorem dX9_gift_55 : decode cX9_gift 55 = .ok (.ireturn, 1) := by decide +kernel
theorem dX9_change_0 : decode cX9_change 0 = .ok (.aload_n 0, 1) := by decide +kernel
theorem dX9_change_1 : decode cX9_change 1 = .ok (.getfield 28, 3) := by decide +kernel
theorem dX9_change_4 : decode cX9_change 4 = .ok (.iload_n 1, 1) := by decide +kernel
theorem dX9_change_5 : decode cX9_change 5 = .ok (.invokevirtual 104, 3) := by decide +kernel
theorem dX9_change_8 : decode cX9_change 8 = .ok (.ifCond .eq 14, 3) := by decide +kernel
theorem dX9_change_11 : decode cX9_change 11 = .ok (.aload_n 0, 1) := by decide +kernel
theorem dX9_change_12 : decode cX9_change 12 = .ok (.getfield 28, 3) := by decide +kernel
theorem dX9_change_15 : decode cX9_change 15 = .ok (.iload_n 2, 1) := by decide +kernel
theorem dX9_change_16 : decode cX9_change 16 = .ok (.invokevirtual 104, 3) := by decide +kernel
theorem dX9_change_19 : decode cX9_change 19 = .ok (.ifCond .ne 5, 3) := by decide +kernel
theorem dX9_change_22 : decode cX9_change 22 = .ok (.iconst (-1), 1) := by decide +kernel
theorem dX9_change_23 : decode cX9_change 23 = .ok (.ireturn, 1) := by decide +kernel
theorem dX9_change_24 : decode cX9_change 24 = .ok (.iload_n 1, 1) := by decide +kernel
theorem dX9_change_25 : decode cX9_change 25 = .ok (.iload_n 2, 1) := by decide +kernel
theorem dX9_change_26 : decode cX9_change 26 = .ok (.if_icmp .ne 6, 3) := by decide +kernel
theorem dX9_change_29 : decode cX9_change 29 = .ok (.bipush (-2), 2) := by decide +kernel
theorem dX9_change_31 : decode cX9_change 31 = .ok (.ireturn, 1) := by decide +kernel
theorem dX9_change_32 : decode cX9_change 32 = .ok (.aload_n 0, 1) := by decide +kernel
theorem dX9_change_33 : decode cX9_change 33 = .ok (.getfield 38, 3) := by decide +kernel
theorem dX9_change_36 : decode cX9_change 36 = .ok (.aload_n 0, 1) := by decide +kernel
theorem dX9_change_37 : decode cX9_change 37 = .ok (.getfield 28, 3) := by decide +kernel
theorem dX9_change_40 : decode cX9_change 40 = .ok (.invokevirtual 143, 3) := by decide +kernel
theorem dX9_change_43 : decode cX9_change 43 = .ok (.aload_n 0, 1) := by decide +kernel
theorem dX9_change_44 : decode cX9_change 44 = .ok (.getfield 28, 3) := by decide +kernel
theorem dX9_change_47 : decode cX9_change 47 = .ok (.iload_n 1, 1) := by decide +kernel
theorem dX9_change_48 : decode cX9_change 48 = .ok (.iload_n 2, 1) := by decide +kernel
theorem dX9_change_49 : decode cX9_change 49 = .ok (.invokevirtual 161, 3) := by decide +kernel
theorem dX9_change_52 : decode cX9_change 52 = .ok (.aload_n 0, 1) := by decide +kernel
theorem dX9_change_53 : decode cX9_change 53 = .ok (.getfield 28, 3) := by decide +kernel
theorem dX9_change_56 : decode cX9_change 56 = .ok (.getfield 107, 3) := by decide +kernel
theorem dX9_change_59 : decode cX9_change 59 = .ok (.iload_n 1, 1) := by decide +kernel
theorem dX9_change_60 : decode cX9_change 60 = .ok (.iaload, 1) := by decide +kernel
theorem dX9_change_61 : decode cX9_change 61 = .ok (.ireturn, 1) := by decide +kernel
theorem dX9_pitch_0 : decode cX9_pitch 0 = .ok (.aload_n 0, 1) := by decide +kernel
theorem dX9_pitch_1 : decode cX9_pitch 1 = .ok (.getfield 38, 3) := by decide +kernel
theorem dX9_pitch_4 : decode cX9_pitch 4 = .ok (.aload_n 0, 1) := by decide +kernel
theorem dX9_pitch_5 : decode cX9_pitch 5 = .ok (.getfield 28, 3) := by decide +kernel
theorem dX9_pitch_8 : decode cX9_pitch 8 = .ok (.invokevirtual 143, 3) := by decide +kernel
theorem dX9_pitch_11 : decode cX9_pitch 11 = .ok (.aload_n 0, 1) := by decide +kernel
theorem dX9_pitch_12 : decode cX9_pitch 12 = .ok (.getfield 28, 3) := by decide +kernel
theorem dX9_pitch_15 : decode cX9_pitch 15 = .ok (.invokevirtual 164, 3) := by decide +kernel
theorem dX9_pitch_18 : decode cX9_pitch 18 = .ok (.aload_n 0, 1) := by decide +kernel
theorem dX9_pitch_19 : decode cX9_pitch 19 = .ok (.getfield 28, 3) := by decide +kernel
theorem dX9_pitch_22 : decode cX9_pitch 22 = .ok (.invokevirtual 154, 3) := by decide +kernel
theorem dX9_pitch_25 : decode cX9_pitch 25 = .ok (.ireturn, 1) := by decide +kernel
theorem dX9_hold_0 : decode cX9_hold 0 = .ok (.aload_n 0, 1) := by decide +kernel
theorem dX9_hold_1 : decode cX9_hold 1 = .ok (.getfield 28, 3) := by decide +kernel
theorem dX9_hold_4 : decode cX9_hold 4 = .ok (.iload_n 1, 1) := by decide +kernel
theorem dX9_hold_5 : decode cX9_hold 5 = .ok (.invokevirtual 104, 3) := by decide +kernel
theorem dX9_hold_8 : decode cX9_hold 8 = .ok (.ifCond .ne 5, 3) := by decide +kernel
theorem dX9_hold_11 : decode cX9_hold 11 = .ok (.iconst (-1), 1) := by decide +kernel
theorem dX9_hold_12 : decode cX9_hold 12 = .ok (.ireturn, 1) := by decide +kernel
theorem dX9_hold_13 : decode cX9_hold 13 = .ok (.aload_n 0, 1) := by decide +kernel
theorem dX9_hold_14 : decode cX9_hold 14 = .ok (.getfield 38, 3) := by decide +kernel
theorem dX9_hold_17 : decode cX9_hold 17 = .ok (.aload_n 0, 1) := by decide +kernel
theorem dX9_hold_18 : decode cX9_hold 18 = .ok (.getfield 28, 3) := by decide +kernel
theorem dX9_hold_21 : decode cX9_hold 21 = .ok (.invokevirtual 143, 3) := by decide +kernel
theorem dX9_hold_24 : decode cX9_hold 24 = .ok (.aload_n 0, 1) := by decide +kernel
theorem dX9_hold_25 : decode cX9_hold 25 = .ok (.getfield 28, 3) := by decide +kernel
theorem dX9_hold_28 : decode cX9_hold 28 = .ok (.iload_n 1, 1) := by decide +kernel
theorem dX9_hold_29 : decode cX9_hold 29 = .ok (.invokevirtual 167, 3) := by decide +kernel
theorem dX9_hold_32 : decode cX9_hold 32 = .ok (.aload_n 0, 1) := by decide +kernel
theorem dX9_hold_33 : decode cX9_hold 33 = .ok (.getfield 28, 3) := by decide +kernel
theorem dX9_hold_36 : decode cX9_hold 36 = .ok (.iload_n 1, 1) := by decide +kernel
theorem dX9_hold_37 : decode cX9_hold 37 = .ok (.invokevirtual 133, 3) := by decide +kernel
theorem dX9_hold_40 : decode cX9_hold 40 = .ok (.ifCond .eq 7, 3) := by decide +kernel
theorem dX9_hold_43 : decode cX9_hold 43 = .ok (.iconst 1, 1) := by decide +kernel
theorem dX9_hold_44 : decode cX9_hold 44 = .ok (.goto 4, 3) := by decide +kernel
theorem dX9_hold_47 : decode cX9_hold 47 = .ok (.iconst 0, 1) := by decide +kernel
theorem dX9_hold_48 : decode cX9_hold 48 = .ok (.ireturn, 1) := by decide +kernel
theorem dX9_undo_0 : decode cX9_undo 0 = .ok (.aload_n 0, 1) := by decide +kernel
theorem dX9_undo_1 : decode cX9_undo 1 = .ok (.getfield 38, 3) := by decide +kernel
theorem dX9_undo_4 : decode cX9_undo 4 = .ok (.aload_n 0, 1) := by decide +kernel
theorem dX9_undo_5 : decode cX9_undo 5 = .ok (.getfield 28, 3) := by decide +kernel
theorem dX9_undo_8 : decode cX9_undo 8 = .ok (.invokevirtual 170, 3) := by decide +kernel
theorem dX9_undo_11 : decode cX9_undo 11 = .ok (.ifCond .eq 13, 3) := by decide +kernel
theorem dX9_undo_14 : decode cX9_undo 14 = .ok (.aload_n 0, 1) := by decide +kernel
theorem dX9_undo_15 : decode cX9_undo 15 = .ok (.getfield 38, 3) := by decide +kernel
theorem dX9_undo_18 : decode cX9_undo 18 = .ok (.getfield 174, 3) := by decide +kernel
theorem dX9_undo_21 : decode cX9_undo 21 = .ok (.goto 5, 3) := by decide +kernel
theorem dX9_undo_24 : decode cX9_undo 24 = .ok (.bipush (-3), 2) := by decide +kernel
theorem dX9_undo_26 : decode cX9_undo 26 = .ok (.ireturn, 1) := by decide +kernel
theorem dX9_sings_0 : decode cX9_sings 0 = .ok (.aload_n 0, 1) := by decide +kernel
theorem dX9_sings_1 : decode cX9_sings 1 = .ok (.getfield 28, 3) := by decide +kernel
theorem dX9_sings_4 : decode cX9_sings 4 = .ok (.iload_n 1, 1) := by decide +kernel
theorem dX9_sings_5 : decode cX9_sings 5 = .ok (.invokevirtual 104, 3) := by decide +kernel
theorem dX9_sings_8 : decode cX9_sings 8 = .ok (.ifCond .ne 5, 3) := by decide +kernel
theorem dX9_sings_11 : decode cX9_sings 11 = .ok (.iconst (-1), 1) := by decide +kernel
theorem dX9_sings_12 : decode cX9_sings 12 = .ok (.ireturn, 1) := by decide +kernel
theorem dX9_sings_13 : decode cX9_sings 13 = .ok (.iload_n 2, 1) := by decide +kernel
theorem dX9_sings_14 : decode cX9_sings 14 = .ok (.iconst 0, 1) := by decide +kernel
theorem dX9_sings_15 : decode cX9_sings 15 = .ok (.bipush 60, 2) := by decide +kernel
theorem dX9_sings_17 : decode cX9_sings 17 = .ok (.invokestatic 136, 3) := by decide +kernel
theorem dX9_sings_20 : decode cX9_sings 20 = .ok (.ifCond .eq 15, 3) := by decide +kernel
theorem dX9_sings_23 : decode cX9_sings 23 = .ok (.aload_n 0, 1) := by decide +kernel
theorem dX9_sings_24 : decode cX9_sings 24 = .ok (.getfield 61, 3) := by decide +kernel
theorem dX9_sings_27 : decode cX9_sings 27 = .ok (.iload_n 1, 1) := by decide +kernel
theorem dX9_sings_28 : decode cX9_sings 28 = .ok (.iload_n 2, 1) := by decide +kernel
theorem dX9_sings_29 : decode cX9_sings 29 = .ok (.invokevirtual 175, 3) := by decide +kernel
theorem dX9_sings_32 : decode cX9_sings 32 = .ok (.goto 5, 3) := by decide +kernel
theorem dX9_sings_35 : decode cX9_sings 35 = .ok (.bipush (-2), 2) := by decide +kernel
theorem dX9_sings_37 : decode cX9_sings 37 = .ok (.ireturn, 1) := by decide +kernel
theorem dX9_notes_0 : decode cX9_notes 0 = .ok (.iload_n 1, 1) := by decide +kernel
theorem dX9_notes_1 : decode cX9_notes 1 = .ok (.iconst 0, 1) := by decide +kernel
theorem dX9_notes_2 : decode cX9_notes 2 = .ok (.bipush 60, 2) := by decide +kernel
theorem dX9_notes_4 : decode cX9_notes 4 = .ok (.invokestatic 136, 3) := by decide +kernel
theorem dX9_notes_7 : decode cX9_notes 7 = .ok (.ifCond .eq 14, 3) := by decide +kernel
theorem dX9_notes_10 : decode cX9_notes 10 = .ok (.aload_n 0, 1) := by decide +kernel
theorem dX9_notes_11 : decode cX9_notes 11 = .ok (.getfield 61, 3) := by decide +kernel
theorem dX9_notes_14 : decode cX9_notes 14 = .ok (.iload_n 1, 1) := by decide +kernel
theorem dX9_notes_15 : decode cX9_notes 15 = .ok (.invokevirtual 179, 3) := by decide +kernel
theorem dX9_notes_18 : decode cX9_notes 18 = .ok (.goto 5, 3) := by decide +kernel
theorem dX9_notes_21 : decode cX9_notes 21 = .ok (.bipush (-2), 2) := by decide +kernel
theorem dX9_notes_23 : decode cX9_notes 23 = .ok (.ireturn, 1) := by decide +kernel
theorem dX9_round_0 : decode cX9_round 0 = .ok (.iload_n 1, 1) := by decide +kernel
theorem dX9_round_1 : decode cX9_round 1 = .ok (.iconst 0, 1) := by decide +kernel
theorem dX9_round_2 : decode cX9_round 2 = .ok (.iconst 1, 1) := by decide +kernel
theorem dX9_round_3 : decode cX9_round 3 = .ok (.invokestatic 136, 3) := by decide +kernel
theorem dX9_round_6 : decode cX9_round 6 = .ok (.ifCond .eq 23, 3) := by decide +kernel
theorem dX9_round_9 : decode cX9_round 9 = .ok (.aload_n 0, 1) := by decide +kernel
theorem dX9_round_10 : decode cX9_round 10 = .ok (.getfield 61, 3) := by decide +kernel
theorem dX9_round_13 : decode cX9_round 13 = .ok (.iload_n 1, 1) := by decide +kernel
theorem dX9_round_14 : decode cX9_round 14 = .ok (.iconst 1, 1) := by decide +kernel
theorem dX9_round_15 : decode cX9_round 15 = .ok (.if_icmp .ne 7, 3) := by decide +kernel
theorem dX9_round_18 : decode cX9_round 18 = .ok (.iconst 1, 1) := by decide +kernel
theorem dX9_round_19 : decode cX9_round 19 = .ok (.goto 4, 3) := by decide +kernel
theorem dX9_round_22 : decode cX9_round 22 = .ok (.iconst 0, 1) := by decide +kernel
theorem dX9_round_23 : decode cX9_round 23 = .ok (.invokevirtual 182, 3) := by decide +kernel
theorem dX9_round_26 : decode cX9_round 26 = .ok (.goto 5, 3) := by decide +kernel
theorem dX9_round_29 : decode cX9_round 29 = .ok (.bipush (-2), 2) := by decide +kernel
theorem dX9_round_31 : decode cX9_round 31 = .ok (.ireturn, 1) := by decide +kernel
theorem dX9_unison_0 : decode cX9_unison 0 = .ok (.aload_n 0, 1) := by decide +kernel
theorem dX9_unison_1 : decode cX9_unison 1 = .ok (.getfield 61, 3) := by decide +kernel
theorem dX9_unison_4 : decode cX9_unison 4 = .ok (.invokevirtual 186, 3) := by decide +kernel
theorem dX9_unison_7 : decode cX9_unison 7 = .ok (.ireturn, 1) := by decide +kernel
theorem dX9_gets_0 : decode cX9_gets 0 = .ok (.aload_n 0, 1) := by decide +kernel
theorem dX9_gets_1 : decode cX9_gets 1 = .ok (.getfield 28, 3) := by decide +kernel
theorem dX9_gets_4 : decode cX9_gets 4 = .ok (.iload_n 1, 1) := by decide +kernel
theorem dX9_gets_5 : decode cX9_gets 5 = .ok (.invokevirtual 104, 3) := by decide +kernel
theorem dX9_gets_8 : decode cX9_gets 8 = .ok (.ifCond .ne 5, 3) := by decide +kernel
theorem dX9_gets_11 : decode cX9_gets 11 = .ok (.iconst (-1), 1) := by decide +kernel
theorem dX9_gets_12 : decode cX9_gets 12 = .ok (.ireturn, 1) := by decide +kernel
theorem dX9_gets_13 : decode cX9_gets 13 = .ok (.iload_n 2, 1) := by decide +kernel
theorem dX9_gets_14 : decode cX9_gets 14 = .ok (.iconst 0, 1) := by decide +kernel
theorem dX9_gets_15 : decode cX9_gets 15 = .ok (.bipush 9, 2) := by decide +kernel
theorem dX9_gets_17 : decode cX9_gets 17 = .ok (.invokestatic 136, 3) := by decide +kernel
theorem dX9_gets_20 : decode cX9_gets 20 = .ok (.ifCond .eq 23, 3) := by decide +kernel
theorem dX9_gets_23 : decode cX9_gets 23 = .ok (.iload_n 3, 1) := by decide +kernel
theorem dX9_gets_24 : decode cX9_gets 24 = .ok (.iconst 1, 1) := by decide +kernel
theorem dX9_gets_25 : decode cX9_gets 25 = .ok (.bipush 9, 2) := by decide +kernel
theorem dX9_gets_27 : decode cX9_gets 27 = .ok (.invokestatic 136, 3) := by decide +kernel
theorem dX9_gets_30 : decode cX9_gets 30 = .ok (.ifCond .eq 13, 3) := by decide +kernel
theorem dX9_gets_33 : decode cX9_gets 33 = .ok (.iload 4, 2) := by decide +kernel
theorem dX9_gets_35 : decode cX9_gets 35 = .ok (.iconst 0, 1) := by decide +kernel
theorem dX9_gets_36 : decode cX9_gets 36 = .ok (.iconst 1, 1) := by decide +kernel
theorem dX9_gets_37 : decode cX9_gets 37 = .ok (.invokestatic 136, 3) := by decide +kernel
theorem dX9_gets_40 : decode cX9_gets 40 = .ok (.ifCond .ne 6, 3) := by decide +kernel
theorem dX9_gets_43 : decode cX9_gets 43 = .ok (.bipush (-2), 2) := by decide +kernel
theorem dX9_gets_45 : decode cX9_gets 45 = .ok (.ireturn, 1) := by decide +kernel
theorem dX9_gets_46 : decode cX9_gets 46 = .ok (.aload_n 0, 1) := by decide +kernel
theorem dX9_gets_47 : decode cX9_gets 47 = .ok (.getfield 61, 3) := by decide +kernel
theorem dX9_gets_50 : decode cX9_gets 50 = .ok (.iload_n 1, 1) := by decide +kernel
theorem dX9_gets_51 : decode cX9_gets 51 = .ok (.iload_n 2, 1) := by decide +kernel
theorem dX9_gets_52 : decode cX9_gets 52 = .ok (.iload_n 3, 1) := by decide +kernel
theorem dX9_gets_53 : decode cX9_gets 53 = .ok (.iload 4, 2) := by decide +kernel
theorem dX9_gets_55 : decode cX9_gets 55 = .ok (.iconst 1, 1) := by decide +kernel
theorem dX9_gets_56 : decode cX9_gets 56 = .ok (.if_icmp .ne 7, 3) := by decide +kernel
theorem dX9_gets_59 : decode cX9_gets 59 = .ok (.iconst 1, 1) := by decide +kernel
theorem dX9_gets_60 : decode cX9_gets 60 = .ok (.goto 4, 3) := by decide +kernel
theorem dX9_gets_63 : decode cX9_gets 63 = .ok (.iconst 0, 1) := by decide +kernel
theorem dX9_gets_64 : decode cX9_gets 64 = .ok (.invokevirtual 189, 3) := by decide +kernel
theorem dX9_gets_67 : decode cX9_gets 67 = .ok (.ireturn, 1) := by decide +kernel
theorem dX9_best_0 : decode cX9_best 0 = .ok (.iload_n 1, 1) := by decide +kernel
theorem dX9_best_1 : decode cX9_best 1 = .ok (.iconst 1, 1) := by decide +kernel
theorem dX9_best_2 : decode cX9_best 2 = .ok (.bipush 9, 2) := by decide +kernel
theorem dX9_best_4 : decode cX9_best 4 = .ok (.invokestatic 136, 3) := by decide +kernel
theorem dX9_best_7 : decode cX9_best 7 = .ok (.ifCond .eq 12, 3) := by decide +kernel
theorem dX9_best_10 : decode cX9_best 10 = .ok (.iload_n 2, 1) := by decide +kernel
theorem dX9_best_11 : decode cX9_best 11 = .ok (.iconst 0, 1) := by decide +kernel
theorem dX9_best_12 : decode cX9_best 12 = .ok (.iconst 1, 1) := by decide +kernel
theorem dX9_best_13 : decode cX9_best 13 = .ok (.invokestatic 136, 3) := by decide +kernel
theorem dX9_best_16 : decode cX9_best 16 = .ok (.ifCond .ne 6, 3) := by decide +kernel
theorem dX9_best_19 : decode cX9_best 19 = .ok (.bipush (-2), 2) := by decide +kernel
theorem dX9_best_21 : decode cX9_best 21 = .ok (.ireturn, 1) := by decide +kernel
theorem dX9_best_22 : decode cX9_best 22 = .ok (.aload_n 0, 1) := by decide +kernel
theorem dX9_best_23 : decode cX9_best 23 = .ok (.getfield 61, 3) := by decide +kernel
theorem dX9_best_26 : decode cX9_best 26 = .ok (.iload_n 1, 1) := by decide +kernel
theorem dX9_best_27 : decode cX9_best 27 = .ok (.iload_n 2, 1) := by decide +kernel
theorem dX9_best_28 : decode cX9_best 28 = .ok (.iconst 1, 1) := by decide +kernel
theorem dX9_best_29 : decode cX9_best 29 = .ok (.if_icmp .ne 7, 3) := by decide +kernel
theorem dX9_best_32 : decode cX9_best 32 = .ok (.iconst 1, 1) := by decide +kernel
theorem dX9_best_33 : decode cX9_best 33 = .ok (.goto 4, 3) := by decide +kernel
theorem dX9_best_36 : decode cX9_best 36 = .ok (.iconst 0, 1) := by decide +kernel
theorem dX9_best_37 : decode cX9_best 37 = .ok (.invokevirtual 193, 3) := by decide +kernel
theorem dX9_best_40 : decode cX9_best 40 = .ok (.ireturn, 1) := by decide +kernel
theorem dX9_judge_0 : decode cX9_judge 0 = .ok (.iload_n 1, 1) := by decide +kernel
theorem dX9_judge_1 : decode cX9_judge 1 = .ok (.iconst 1, 1) := by decide +kernel
theorem dX9_judge_2 : decode cX9_judge 2 = .ok (.iconst 4, 1) := by decide +kernel
theorem dX9_judge_3 : decode cX9_judge 3 = .ok (.invokestatic 136, 3) := by decide +kernel
theorem dX9_judge_6 : decode cX9_judge 6 = .ok (.ifCond .eq 19, 3) := by decide +kernel
theorem dX9_judge_9 : decode cX9_judge 9 = .ok (.lload_n 2, 1) := by decide +kernel
theorem dX9_judge_10 : decode cX9_judge 10 = .ok (.lconst 0, 1) := by decide +kernel
theorem dX9_judge_11 : decode cX9_judge 11 = .ok (.lcmp, 1) := by decide +kernel
theorem dX9_judge_12 : decode cX9_judge 12 = .ok (.ifCond .lt 13, 3) := by decide +kernel
theorem dX9_judge_15 : decode cX9_judge 15 = .ok (.lload_n 2, 1) := by decide +kernel
theorem dX9_judge_16 : decode cX9_judge 16 = .ok (.iload_n 1, 1) := by decide +kernel
theorem dX9_judge_17 : decode cX9_judge 17 = .ok (.invokestatic 197, 3) := by decide +kernel
theorem dX9_judge_20 : decode cX9_judge 20 = .ok (.lconst 0, 1) := by decide +kernel
theorem dX9_judge_21 : decode cX9_judge 21 = .ok (.lcmp, 1) := by decide +kernel
theorem dX9_judge_22 : decode cX9_judge 22 = .ok (.ifCond .eq 6, 3) := by decide +kernel
theorem dX9_judge_25 : decode cX9_judge 25 = .ok (.bipush (-2), 2) := by decide +kernel
theorem dX9_judge_27 : decode cX9_judge 27 = .ok (.ireturn, 1) := by decide +kernel
theorem dX9_judge_28 : decode cX9_judge 28 = .ok (.aload_n 0, 1) := by decide +kernel
theorem dX9_judge_29 : decode cX9_judge 29 = .ok (.getfield 61, 3) := by decide +kernel
theorem dX9_judge_32 : decode cX9_judge 32 = .ok (.iload_n 1, 1) := by decide +kernel
theorem dX9_judge_33 : decode cX9_judge 33 = .ok (.lload_n 2, 1) := by decide +kernel
theorem dX9_judge_34 : decode cX9_judge 34 = .ok (.invokevirtual 201, 3) := by decide +kernel
theorem dX9_judge_37 : decode cX9_judge 37 = .ok (.ireturn, 1) := by decide +kernel
theorem dX9_hear_0 : decode cX9_hear 0 = .ok (.aload_n 0, 1) := by decide +kernel
theorem dX9_hear_1 : decode cX9_hear 1 = .ok (.getfield 28, 3) := by decide +kernel
theorem dX9_hear_4 : decode cX9_hear 4 = .ok (.iload_n 1, 1) := by decide +kernel
theorem dX9_hear_5 : decode cX9_hear 5 = .ok (.invokevirtual 104, 3) := by decide +kernel
theorem dX9_hear_8 : decode cX9_hear 8 = .ok (.ifCond .ne 5, 3) := by decide +kernel
theorem dX9_hear_11 : decode cX9_hear 11 = .ok (.iconst (-1), 1) := by decide +kernel
theorem dX9_hear_12 : decode cX9_hear 12 = .ok (.ireturn, 1) := by decide +kernel
theorem dX9_hear_13 : decode cX9_hear 13 = .ok (.iload_n 2, 1) := by decide +kernel
theorem dX9_hear_14 : decode cX9_hear 14 = .ok (.iconst 0, 1) := by decide +kernel
theorem dX9_hear_15 : decode cX9_hear 15 = .ok (.bipush 9, 2) := by decide +kernel
theorem dX9_hear_17 : decode cX9_hear 17 = .ok (.invokestatic 136, 3) := by decide +kernel
theorem dX9_hear_20 : decode cX9_hear 20 = .ok (.ifCond .eq 13, 3) := by decide +kernel
theorem dX9_hear_23 : decode cX9_hear 23 = .ok (.iload_n 3, 1) := by decide +kernel
theorem dX9_hear_24 : decode cX9_hear 24 = .ok (.iconst 0, 1) := by decide +kernel
theorem dX9_hear_25 : decode cX9_hear 25 = .ok (.bipush 9, 2) := by decide +kernel
theorem dX9_hear_27 : decode cX9_hear 27 = .ok (.invokestatic 136, 3) := by decide +kernel
theorem dX9_hear_30 : decode cX9_hear 30 = .ok (.ifCond .ne 6, 3) := by decide +kernel
theorem dX9_hear_33 : decode cX9_hear 33 = .ok (.bipush (-2), 2) := by decide +kernel
theorem dX9_hear_35 : decode cX9_hear 35 = .ok (.ireturn, 1) := by decide +kernel
theorem dX9_hear_36 : decode cX9_hear 36 = .ok (.aload_n 0, 1) := by decide +kernel
theorem dX9_hear_37 : decode cX9_hear 37 = .ok (.getfield 52, 3) := by decide +kernel
theorem dX9_hear_40 : decode cX9_hear 40 = .ok (.iload_n 1, 1) := by decide +kernel
theorem dX9_hear_41 : decode cX9_hear 41 = .ok (.iload_n 2, 1) := by decide +kernel
theorem dX9_hear_42 : decode cX9_hear 42 = .ok (.iload_n 3, 1) := by decide +kernel
theorem dX9_hear_43 : decode cX9_hear 43 = .ok (.invokevirtual 205, 3) := by decide +kernel
theorem dX9_hear_46 : decode cX9_hear 46 = .ok (.ifCond .eq 13, 3) := by decide +kernel
theorem dX9_hear_49 : decode cX9_hear 49 = .ok (.aload_n 0, 1) := by decide +kernel
theorem dX9_hear_50 : decode cX9_hear 50 = .ok (.getfield 52, 3) := by decide +kernel
theorem dX9_hear_53 : decode cX9_hear 53 = .ok (.getfield 207, 3) := by decide +kernel
theorem dX9_hear_56 : decode cX9_hear 56 = .ok (.goto 5, 3) := by decide +kernel
theorem dX9_hear_59 : decode cX9_hear 59 = .ok (.bipush (-4), 2) := by decide +kernel
theorem dX9_hear_61 : decode cX9_hear 61 = .ok (.ireturn, 1) := by decide +kernel
theorem dX9_unhear_0 : decode cX9_unhear 0 = .ok (.aload_n 0, 1) := by decide +kernel
theorem dX9_unhear_1 : decode cX9_unhear 1 = .ok (.getfield 52, 3) := by decide +kernel
theorem dX9_unhear_4 : decode cX9_unhear 4 = .ok (.getfield 207, 3) := by decide +kernel
theorem dX9_unhear_7 : decode cX9_unhear 7 = .ok (.istore_n 1, 1) := by decide +kernel
theorem dX9_unhear_8 : decode cX9_unhear 8 = .ok (.aload_n 0, 1) := by decide +kernel
theorem dX9_unhear_9 : decode cX9_unhear 9 = .ok (.getfield 52, 3) := by decide +kernel
theorem dX9_unhear_12 : decode cX9_unhear 12 = .ok (.iconst 0, 1) := by decide +kernel
theorem dX9_unhear_13 : decode cX9_unhear 13 = .ok (.putfield 207, 3) := by decide +kernel
theorem dX9_unhear_16 : decode cX9_unhear 16 = .ok (.iload_n 1, 1) := by decide +kernel
theorem dX9_unhear_17 : decode cX9_unhear 17 = .ok (.ireturn, 1) := by decide +kernel
theorem dX9_had_0 : decode cX9_had 0 = .ok (.aload_n 0, 1) := by decide +kernel
theorem dX9_had_1 : decode cX9_had 1 = .ok (.getfield 28, 3) := by decide +kernel
theorem dX9_had_4 : decode cX9_had 4 = .ok (.iload_n 1, 1) := by decide +kernel
theorem dX9_had_5 : decode cX9_had 5 = .ok (.invokevirtual 104, 3) := by decide +kernel
theorem dX9_had_8 : decode cX9_had 8 = .ok (.ifCond .eq 18, 3) := by decide +kernel
theorem dX9_had_11 : decode cX9_had 11 = .ok (.aload_n 0, 1) := by decide +kernel
theorem dX9_had_12 : decode cX9_had 12 = .ok (.getfield 61, 3) := by decide +kernel
theorem dX9_had_15 : decode cX9_had 15 = .ok (.iload_n 1, 1) := by decide +kernel
theorem dX9_had_16 : decode cX9_had 16 = .ok (.aload_n 0, 1) := by decide +kernel
theorem dX9_had_17 : decode cX9_had 17 = .ok (.getfield 52, 3) := by decide +kernel
theorem dX9_had_20 : decode cX9_had 20 = .ok (.invokevirtual 208, 3) := by decide +kernel
theorem dX9_had_23 : decode cX9_had 23 = .ok (.goto 4, 3) := by decide +kernel
theorem dX9_had_26 : decode cX9_had 26 = .ok (.iconst (-1), 1) := by decide +kernel
theorem dX9_had_27 : decode cX9_had 27 = .ok (.ireturn, 1) := by decide +kernel
theorem dX9_share_0 : decode cX9_share 0 = .ok (.aload_n 0, 1) := by decide +kernel
theorem dX9_share_1 : decode cX9_share 1 = .ok (.getfield 28, 3) := by decide +kernel
theorem dX9_share_4 : decode cX9_share 4 = .ok (.iload_n 1, 1) := by decide +kernel
theorem dX9_share_5 : decode cX9_share 5 = .ok (.invokevirtual 104, 3) := by decide +kernel
theorem dX9_share_8 : decode cX9_share 8 = .ok (.ifCond .eq 15, 3) := by decide +kernel
theorem dX9_share_11 : decode cX9_share 11 = .ok (.aload_n 0, 1) := by decide +kernel
theorem dX9_share_12 : decode cX9_share 12 = .ok (.getfield 68, 3) := by decide +kernel
theorem dX9_share_15 : decode cX9_share 15 = .ok (.iload_n 1, 1) := by decide +kernel
theorem dX9_share_16 : decode cX9_share 16 = .ok (.iload_n 2, 1) := by decide +kernel
theorem dX9_share_17 : decode cX9_share 17 = .ok (.invokevirtual 212, 3) := by decide +kernel
theorem dX9_share_20 : decode cX9_share 20 = .ok (.goto 4, 3) := by decide +kernel
theorem dX9_share_23 : decode cX9_share 23 = .ok (.iconst (-1), 1) := by decide +kernel
theorem dX9_share_24 : decode cX9_share 24 = .ok (.ireturn, 1) := by decide +kernel
theorem dX9_rests_0 : decode cX9_rests 0 = .ok (.aload_n 0, 1) := by decide +kernel
theorem dX9_rests_1 : decode cX9_rests 1 = .ok (.getfield 28, 3) := by decide +kernel
theorem dX9_rests_4 : decode cX9_rests 4 = .ok (.iload_n 1, 1) := by decide +kernel
theorem dX9_rests_5 : decode cX9_rests 5 = .ok (.invokevirtual 104, 3) := by decide +kernel
theorem dX9_rests_8 : decode cX9_rests 8 = .ok (.ifCond .eq 14, 3) := by decide +kernel
theorem dX9_rests_11 : decode cX9_rests 11 = .ok (.aload_n 0, 1) := by decide +kernel
theorem dX9_rests_12 : decode cX9_rests 12 = .ok (.getfield 28, 3) := by decide +kernel
theorem dX9_rests_15 : decode cX9_rests 15 = .ok (.iload_n 2, 1) := by decide +kernel
theorem dX9_rests_16 : decode cX9_rests 16 = .ok (.invokevirtual 104, 3) := by decide +kernel
theorem dX9_rests_19 : decode cX9_rests 19 = .ok (.ifCond .ne 5, 3) := by decide +kernel
theorem dX9_rests_22 : decode cX9_rests 22 = .ok (.iconst (-1), 1) := by decide +kernel
theorem dX9_rests_23 : decode cX9_rests 23 = .ok (.ireturn, 1) := by decide +kernel
theorem dX9_rests_24 : decode cX9_rests 24 = .ok (.iload_n 1, 1) := by decide +kernel
theorem dX9_rests_25 : decode cX9_rests 25 = .ok (.iload_n 2, 1) := by decide +kernel
theorem dX9_rests_26 : decode cX9_rests 26 = .ok (.if_icmp .eq 12, 3) := by decide +kernel
theorem dX9_rests_29 : decode cX9_rests 29 = .ok (.iload_n 3, 1) := by decide +kernel
theorem dX9_rests_30 : decode cX9_rests 30 = .ok (.iconst 0, 1) := by decide +kernel
theorem dX9_rests_31 : decode cX9_rests 31 = .ok (.iconst 1, 1) := by decide +kernel
theorem dX9_rests_32 : decode cX9_rests 32 = .ok (.invokestatic 136, 3) := by decide +kernel
theorem dX9_rests_35 : decode cX9_rests 35 = .ok (.ifCond .ne 6, 3) := by decide +kernel
theorem dX9_rests_38 : decode cX9_rests 38 = .ok (.bipush (-2), 2) := by decide +kernel
theorem dX9_rests_40 : decode cX9_rests 40 = .ok (.ireturn, 1) := by decide +kernel
theorem dX9_rests_41 : decode cX9_rests 41 = .ok (.aload_n 0, 1) := by decide +kernel
theorem dX9_rests_42 : decode cX9_rests 42 = .ok (.getfield 68, 3) := by decide +kernel
theorem dX9_rests_45 : decode cX9_rests 45 = .ok (.iload_n 1, 1) := by decide +kernel
theorem dX9_rests_46 : decode cX9_rests 46 = .ok (.iload_n 2, 1) := by decide +kernel
theorem dX9_rests_47 : decode cX9_rests 47 = .ok (.iload_n 3, 1) := by decide +kernel
theorem dX9_rests_48 : decode cX9_rests 48 = .ok (.iconst 1, 1) := by decide +kernel
theorem dX9_rests_49 : decode cX9_rests 49 = .ok (.if_icmp .ne 7, 3) := by decide +kernel
theorem dX9_rests_52 : decode cX9_rests 52 = .ok (.iconst 1, 1) := by decide +kernel
theorem dX9_rests_53 : decode cX9_rests 53 = .ok (.goto 4, 3) := by decide +kernel
theorem dX9_rests_56 : decode cX9_rests 56 = .ok (.iconst 0, 1) := by decide +kernel
theorem dX9_rests_57 : decode cX9_rests 57 = .ok (.invokevirtual 215, 3) := by decide +kernel
theorem dX9_rests_60 : decode cX9_rests 60 = .ok (.ireturn, 1) := by decide +kernel
theorem dX9_hoarse_0 : decode cX9_hoarse 0 = .ok (.iload_n 1, 1) := by decide +kernel
theorem dX9_hoarse_1 : decode cX9_hoarse 1 = .ok (.iconst 0, 1) := by decide +kernel
theorem dX9_hoarse_2 : decode cX9_hoarse 2 = .ok (.bipush 9, 2) := by decide +kernel
theorem dX9_hoarse_4 : decode cX9_hoarse 4 = .ok (.invokestatic 136, 3) := by decide +kernel
theorem dX9_hoarse_7 : decode cX9_hoarse 7 = .ok (.ifCond .eq 13, 3) := by decide +kernel
theorem dX9_hoarse_10 : decode cX9_hoarse 10 = .ok (.iload_n 2, 1) := by decide +kernel
theorem dX9_hoarse_11 : decode cX9_hoarse 11 = .ok (.iconst 0, 1) := by decide +kernel
theorem dX9_hoarse_12 : decode cX9_hoarse 12 = .ok (.bipush 10, 2) := by decide +kernel
theorem dX9_hoarse_14 : decode cX9_hoarse 14 = .ok (.invokestatic 136, 3) := by decide +kernel
theorem dX9_hoarse_17 : decode cX9_hoarse 17 = .ok (.ifCond .ne 6, 3) := by decide +kernel
theorem dX9_hoarse_20 : decode cX9_hoarse 20 = .ok (.bipush (-2), 2) := by decide +kernel
theorem dX9_hoarse_22 : decode cX9_hoarse 22 = .ok (.ireturn, 1) := by decide +kernel
theorem dX9_hoarse_23 : decode cX9_hoarse 23 = .ok (.aload_n 0, 1) := by decide +kernel
theorem dX9_hoarse_24 : decode cX9_hoarse 24 = .ok (.getfield 68, 3) := by decide +kernel
theorem dX9_hoarse_27 : decode cX9_hoarse 27 = .ok (.iload_n 1, 1) := by decide +kernel
theorem dX9_hoarse_28 : decode cX9_hoarse 28 = .ok (.iload_n 2, 1) := by decide +kernel
theorem dX9_hoarse_29 : decode cX9_hoarse 29 = .ok (.iload_n 3, 1) := by decide +kernel
theorem dX9_hoarse_30 : decode cX9_hoarse 30 = .ok (.invokevirtual 219, 3) := by decide +kernel
theorem dX9_hoarse_33 : decode cX9_hoarse 33 = .ok (.ireturn, 1) := by decide +kernel
theorem dX9_seed_0 : decode cX9_seed 0 = .ok (.aload_n 0, 1) := by decide +kernel
theorem dX9_seed_1 : decode cX9_seed 1 = .ok (.getfield 77, 3) := by decide +kernel
theorem dX9_seed_4 : decode cX9_seed 4 = .ok (.getfield 222, 3) := by decide +kernel
theorem dX9_seed_7 : decode cX9_seed 7 = .ok (.lstore_n 3, 1) := by decide +kernel
theorem dX9_seed_8 : decode cX9_seed 8 = .ok (.aload_n 0, 1) := by decide +kernel
theorem dX9_seed_9 : decode cX9_seed 9 = .ok (.getfield 77, 3) := by decide +kernel
theorem dX9_seed_12 : decode cX9_seed 12 = .ok (.lload_n 1, 1) := by decide +kernel
theorem dX9_seed_13 : decode cX9_seed 13 = .ok (.putfield 222, 3) := by decide +kernel
theorem dX9_seed_16 : decode cX9_seed 16 = .ok (.lload_n 3, 1) := by decide +kernel
theorem dX9_seed_17 : decode cX9_seed 17 = .ok (.lreturn, 1) := by decide +kernel
theorem dX9_years_0 : decode cX9_years 0 = .ok (.iload_n 1, 1) := by decide +kernel
theorem dX9_years_1 : decode cX9_years 1 = .ok (.iconst 1, 1) := by decide +kernel
theorem dX9_years_2 : decode cX9_years 2 = .ok (.bipush 30, 2) := by decide +kernel
theorem dX9_years_4 : decode cX9_years 4 = .ok (.invokestatic 136, 3) := by decide +kernel
theorem dX9_years_7 : decode cX9_years 7 = .ok (.ifCond .eq 14, 3) := by decide +kernel
theorem dX9_years_10 : decode cX9_years 10 = .ok (.aload_n 0, 1) := by decide +kernel
theorem dX9_years_11 : decode cX9_years 11 = .ok (.getfield 77, 3) := by decide +kernel
theorem dX9_years_14 : decode cX9_years 14 = .ok (.iload_n 1, 1) := by decide +kernel
theorem dX9_years_15 : decode cX9_years 15 = .ok (.invokevirtual 226, 3) := by decide +kernel
theorem dX9_years_18 : decode cX9_years 18 = .ok (.goto 5, 3) := by decide +kernel
theorem dX9_years_21 : decode cX9_years 21 = .ok (.bipush (-2), 2) := by decide +kernel
theorem dX9_years_23 : decode cX9_years 23 = .ok (.ireturn, 1) := by decide +kernel
theorem dX9_keep_0 : decode cX9_keep 0 = .ok (.aload_n 0, 1) := by decide +kernel
theorem dX9_keep_1 : decode cX9_keep 1 = .ok (.getfield 45, 3) := by decide +kernel
theorem dX9_keep_4 : decode cX9_keep 4 = .ok (.iload_n 1, 1) := by decide +kernel
theorem dX9_keep_5 : decode cX9_keep 5 = .ok (.aload_n 0, 1) := by decide +kernel
theorem dX9_keep_6 : decode cX9_keep 6 = .ok (.getfield 28, 3) := by decide +kernel
theorem dX9_keep_9 : decode cX9_keep 9 = .ok (.invokevirtual 229, 3) := by decide +kernel
theorem dX9_keep_12 : decode cX9_keep 12 = .ok (.ifCond .eq 13, 3) := by decide +kernel
theorem dX9_keep_15 : decode cX9_keep 15 = .ok (.aload_n 0, 1) := by decide +kernel
theorem dX9_keep_16 : decode cX9_keep 16 = .ok (.getfield 28, 3) := by decide +kernel
theorem dX9_keep_19 : decode cX9_keep 19 = .ok (.getfield 151, 3) := by decide +kernel
theorem dX9_keep_22 : decode cX9_keep 22 = .ok (.goto 4, 3) := by decide +kernel
theorem dX9_keep_25 : decode cX9_keep 25 = .ok (.iconst (-1), 1) := by decide +kernel
theorem dX9_keep_26 : decode cX9_keep 26 = .ok (.ireturn, 1) := by decide +kernel
theorem dX9_again_0 : decode cX9_again 0 = .ok (.iload_n 1, 1) := by decide +kernel
theorem dX9_again_1 : decode cX9_again 1 = .ok (.iconst 0, 1) := by decide +kernel
theorem dX9_again_2 : decode cX9_again 2 = .ok (.iconst 1, 1) := by decide +kernel
theorem dX9_again_3 : decode cX9_again 3 = .ok (.invokestatic 136, 3) := by decide +kernel
theorem dX9_again_6 : decode cX9_again 6 = .ok (.ifCond .ne 5, 3) := by decide +kernel
theorem dX9_again_9 : decode cX9_again 9 = .ok (.iconst (-1), 1) := by decide +kernel
theorem dX9_again_10 : decode cX9_again 10 = .ok (.ireturn, 1) := by decide +kernel
theorem dX9_again_11 : decode cX9_again 11 = .ok (.aload_n 0, 1) := by decide +kernel
theorem dX9_again_12 : decode cX9_again 12 = .ok (.getfield 45, 3) := by decide +kernel
theorem dX9_again_15 : decode cX9_again 15 = .ok (.iload_n 1, 1) := by decide +kernel
theorem dX9_again_16 : decode cX9_again 16 = .ok (.aload_n 0, 1) := by decide +kernel
theorem dX9_again_17 : decode cX9_again 17 = .ok (.getfield 28, 3) := by decide +kernel
theorem dX9_again_20 : decode cX9_again 20 = .ok (.invokevirtual 232, 3) := by decide +kernel
theorem dX9_again_23 : decode cX9_again 23 = .ok (.ifCond .ne 6, 3) := by decide +kernel
theorem dX9_again_26 : decode cX9_again 26 = .ok (.bipush (-3), 2) := by decide +kernel
theorem dX9_again_28 : decode cX9_again 28 = .ok (.ireturn, 1) := by decide +kernel
theorem dX9_again_29 : decode cX9_again 29 = .ok (.aload_n 0, 1) := by decide +kernel
theorem dX9_again_30 : decode cX9_again 30 = .ok (.getfield 38, 3) := by decide +kernel
theorem dX9_again_33 : decode cX9_again 33 = .ok (.invokevirtual 97, 3) := by decide +kernel
theorem dX9_again_36 : decode cX9_again 36 = .ok (.aload_n 0, 1) := by decide +kernel
theorem dX9_again_37 : decode cX9_again 37 = .ok (.getfield 28, 3) := by decide +kernel
theorem dX9_again_40 : decode cX9_again 40 = .ok (.getfield 151, 3) := by decide +kernel
theorem dX9_again_43 : decode cX9_again 43 = .ok (.ireturn, 1) := by decide +kernel
theorem dX9_count_0 : decode cX9_count 0 = .ok (.iload_n 1, 1) := by decide +kernel
theorem dX9_count_1 : decode cX9_count 1 = .ok (.tableswitch 135 0 9 #[55, 63, 71, 79, 87, 95, 103, 111, 119, 127], 55) := by decide +kernel
theorem dX9_count_56 : decode cX9_count 56 = .ok (.aload_n 0, 1) := by decide +kernel
theorem dX9_count_57 : decode cX9_count 57 = .ok (.getfield 10, 3) := by decide +kernel
theorem dX9_count_60 : decode cX9_count 60 = .ok (.getfield 85, 3) := by decide +kernel
theorem dX9_count_63 : decode cX9_count 63 = .ok (.ireturn, 1) := by decide +kernel
theorem dX9_count_64 : decode cX9_count 64 = .ok (.aload_n 0, 1) := by decide +kernel
theorem dX9_count_65 : decode cX9_count 65 = .ok (.getfield 19, 3) := by decide +kernel
theorem dX9_count_68 : decode cX9_count 68 = .ok (.getfield 101, 3) := by decide +kernel
theorem dX9_count_71 : decode cX9_count 71 = .ok (.ireturn, 1) := by decide +kernel
theorem dX9_count_72 : decode cX9_count 72 = .ok (.aload_n 0, 1) := by decide +kernel
theorem dX9_count_73 : decode cX9_count 73 = .ok (.getfield 28, 3) := by decide +kernel
theorem dX9_count_76 : decode cX9_count 76 = .ok (.getfield 151, 3) := by decide +kernel
theorem dX9_count_79 : decode cX9_count 79 = .ok (.ireturn, 1) := by decide +kernel
theorem dX9_count_80 : decode cX9_count 80 = .ok (.aload_n 0, 1) := by decide +kernel
theorem dX9_count_81 : decode cX9_count 81 = .ok (.getfield 28, 3) := by decide +kernel
theorem dX9_count_84 : decode cX9_count 84 = .ok (.invokevirtual 234, 3) := by decide +kernel
theorem dX9_count_87 : decode cX9_count 87 = .ok (.ireturn, 1) := by decide +kernel
theorem dX9_count_88 : decode cX9_count 88 = .ok (.aload_n 0, 1) := by decide +kernel
theorem dX9_count_89 : decode cX9_count 89 = .ok (.getfield 28, 3) := by decide +kernel
theorem dX9_count_92 : decode cX9_count 92 = .ok (.invokevirtual 237, 3) := by decide +kernel
theorem dX9_count_95 : decode cX9_count 95 = .ok (.ireturn, 1) := by decide +kernel
theorem dX9_count_96 : decode cX9_count 96 = .ok (.aload_n 0, 1) := by decide +kernel
theorem dX9_count_97 : decode cX9_count 97 = .ok (.getfield 28, 3) := by decide +kernel
theorem dX9_count_100 : decode cX9_count 100 = .ok (.invokevirtual 240, 3) := by decide +kernel
theorem dX9_count_103 : decode cX9_count 103 = .ok (.ireturn, 1) := by decide +kernel
theorem dX9_count_104 : decode cX9_count 104 = .ok (.aload_n 0, 1) := by decide +kernel
theorem dX9_count_105 : decode cX9_count 105 = .ok (.getfield 28, 3) := by decide +kernel
theorem dX9_count_108 : decode cX9_count 108 = .ok (.invokevirtual 243, 3) := by decide +kernel
theorem dX9_count_111 : decode cX9_count 111 = .ok (.ireturn, 1) := by decide +kernel
theorem dX9_count_112 : decode cX9_count 112 = .ok (.aload_n 0, 1) := by decide +kernel
theorem dX9_count_113 : decode cX9_count 113 = .ok (.getfield 28, 3) := by decide +kernel
theorem dX9_count_116 : decode cX9_count 116 = .ok (.getfield 246, 3) := by decide +kernel
theorem dX9_count_119 : decode cX9_count 119 = .ok (.ireturn, 1) := by decide +kernel
theorem dX9_count_120 : decode cX9_count 120 = .ok (.aload_n 0, 1) := by decide +kernel
theorem dX9_count_121 : decode cX9_count 121 = .ok (.getfield 38, 3) := by decide +kernel
theorem dX9_count_124 : decode cX9_count 124 = .ok (.getfield 174, 3) := by decide +kernel
theorem dX9_count_127 : decode cX9_count 127 = .ok (.ireturn, 1) := by decide +kernel
theorem dX9_count_128 : decode cX9_count 128 = .ok (.aload_n 0, 1) := by decide +kernel
theorem dX9_count_129 : decode cX9_count 129 = .ok (.getfield 52, 3) := by decide +kernel
theorem dX9_count_132 : decode cX9_count 132 = .ok (.getfield 207, 3) := by decide +kernel
theorem dX9_count_135 : decode cX9_count 135 = .ok (.ireturn, 1) := by decide +kernel
theorem dX9_count_136 : decode cX9_count 136 = .ok (.bipush (-2), 2) := by decide +kernel
theorem dX9_count_138 : decode cX9_count 138 = .ok (.ireturn, 1) := by decide +kernel
theorem dX9_isWithin_0 : decode cX9_isWithin 0 = .ok (.iload_n 0, 1) := by decide +kernel
theorem dX9_isWithin_1 : decode cX9_isWithin 1 = .ok (.iload_n 1, 1) := by decide +kernel
theorem dX9_isWithin_2 : decode cX9_isWithin 2 = .ok (.if_icmp .lt 12, 3) := by decide +kernel
theorem dX9_isWithin_5 : decode cX9_isWithin 5 = .ok (.iload_n 0, 1) := by decide +kernel
theorem dX9_isWithin_6 : decode cX9_isWithin 6 = .ok (.iload_n 2, 1) := by decide +kernel
theorem dX9_isWithin_7 : decode cX9_isWithin 7 = .ok (.if_icmp .gt 7, 3) := by decide +kernel
theorem dX9_isWithin_10 : decode cX9_isWithin 10 = .ok (.iconst 1, 1) := by decide +kernel
theorem dX9_isWithin_11 : decode cX9_isWithin 11 = .ok (.goto 4, 3) := by decide +kernel
theorem dX9_isWithin_14 : decode cX9_isWithin 14 = .ok (.iconst 0, 1) := by decide +kernel
theorem dX9_isWithin_15 : decode cX9_isWithin 15 = .ok (.ireturn, 1) := by decide +kernel
theorem dX9_withoutDoings_0 : decode cX9_withoutDoings 0 = .ok (.lload_n 0, 1) := by decide +kernel
theorem dX9_withoutDoings_1 : decode cX9_withoutDoings 1 = .ok (.lstore_n 3, 1) := by decide +kernel
theorem dX9_withoutDoings_2 : decode cX9_withoutDoings 2 = .ok (.iconst 0, 1) := by decide +kernel
theorem dX9_withoutDoings_3 : decode cX9_withoutDoings 3 = .ok (.istore 5, 2) := by decide +kernel
theorem dX9_withoutDoings_5 : decode cX9_withoutDoings 5 = .ok (.iload 5, 2) := by decide +kernel
theorem dX9_withoutDoings_7 : decode cX9_withoutDoings 7 = .ok (.iload_n 2, 1) := by decide +kernel
theorem dX9_withoutDoings_8 : decode cX9_withoutDoings 8 = .ok (.if_icmp .ge 15, 3) := by decide +kernel
theorem dX9_withoutDoings_11 : decode cX9_withoutDoings 11 = .ok (.lload_n 3, 1) := by decide +kernel
theorem dX9_withoutDoings_12 : decode cX9_withoutDoings 12 = .ok (.ldc2_w 249, 3) := by decide +kernel
theorem dX9_withoutDoings_15 : decode cX9_withoutDoings 15 = .ok (.ldiv, 1) := by decide +kernel
theorem dX9_withoutDoings_16 : decode cX9_withoutDoings 16 = .ok (.lstore_n 3, 1) := by decide +kernel
theorem dX9_withoutDoings_17 : decode cX9_withoutDoings 17 = .ok (.iinc 5 1, 3) := by decide +kernel
theorem dX9_withoutDoings_20 : decode cX9_withoutDoings 20 = .ok (.goto (-15), 3) := by decide +kernel
theorem dX9_withoutDoings_23 : decode cX9_withoutDoings 23 = .ok (.lload_n 3, 1) := by decide +kernel
theorem dX9_withoutDoings_24 : decode cX9_withoutDoings 24 = .ok (.lreturn, 1) := by decide +kernel
theorem dX9_sideOfFraction_0 : decode cX9_sideOfFraction 0 = .ok (.iload_n 0, 1) := by decide +kernel
theorem dX9_sideOfFraction_1 : decode cX9_sideOfFraction 1 = .ok (.invokestatic 251, 3) := by decide +kernel
theorem dX9_sideOfFraction_4 : decode cX9_sideOfFraction 4 = .ok (.iload_n 1, 1) := by decide +kernel
theorem dX9_sideOfFraction_5 : decode cX9_sideOfFraction 5 = .ok (.invokestatic 256, 3) := by decide +kernel
theorem dX9_sideOfFraction_8 : decode cX9_sideOfFraction 8 = .ok (.istore_n 3, 1) := by decide +kernel
theorem dX9_sideOfFraction_9 : decode cX9_sideOfFraction 9 = .ok (.iload_n 3, 1) := by decide +kernel
theorem dX9_sideOfFraction_10 : decode cX9_sideOfFraction 10 = .ok (.ifCond .ne 5, 3) := by decide +kernel
theorem dX9_sideOfFraction_13 : decode cX9_sideOfFraction 13 = .ok (.iconst 0, 1) := by decide +kernel
theorem dX9_sideOfFraction_14 : decode cX9_sideOfFraction 14 = .ok (.ireturn, 1) := by decide +kernel
theorem dX9_sideOfFraction_15 : decode cX9_sideOfFraction 15 = .ok (.iload_n 2, 1) := by decide +kernel
theorem dX9_sideOfFraction_16 : decode cX9_sideOfFraction 16 = .ok (.ifCond .eq 9, 3) := by decide +kernel
theorem dX9_sideOfFraction_19 : decode cX9_sideOfFraction 19 = .ok (.iload_n 0, 1) := by decide +kernel
theorem dX9_sideOfFraction_20 : decode cX9_sideOfFraction 20 = .ok (.iload_n 3, 1) := by decide +kernel
theorem dX9_sideOfFraction_21 : decode cX9_sideOfFraction 21 = .ok (.idiv, 1) := by decide +kernel
theorem dX9_sideOfFraction_22 : decode cX9_sideOfFraction 22 = .ok (.goto 6, 3) := by decide +kernel
theorem dX9_sideOfFraction_25 : decode cX9_sideOfFraction 25 = .ok (.iload_n 1, 1) := by decide +kernel
theorem dX9_sideOfFraction_26 : decode cX9_sideOfFraction 26 = .ok (.iload_n 3, 1) := by decide +kernel
theorem dX9_sideOfFraction_27 : decode cX9_sideOfFraction 27 = .ok (.idiv, 1) := by decide +kernel
theorem dX9_sideOfFraction_28 : decode cX9_sideOfFraction 28 = .ok (.ireturn, 1) := by decide +kernel
theorem dX9_greatestDivisor_0 : decode cX9_greatestDivisor 0 = .ok (.iload_n 0, 1) := by decide +kernel
theorem dX9_greatestDivisor_1 : decode cX9_greatestDivisor 1 = .ok (.istore_n 2, 1) := by decide +kernel
theorem dX9_greatestDivisor_2 : decode cX9_greatestDivisor 2 = .ok (.iload_n 1, 1) := by decide +kernel
theorem dX9_greatestDivisor_3 : decode cX9_greatestDivisor 3 = .ok (.istore_n 3, 1) := by decide +kernel
theorem dX9_greatestDivisor_4 : decode cX9_greatestDivisor 4 = .ok (.iconst 0, 1) := by decide +kernel
theorem dX9_greatestDivisor_5 : decode cX9_greatestDivisor 5 = .ok (.istore 4, 2) := by decide +kernel
theorem dX9_greatestDivisor_7 : decode cX9_greatestDivisor 7 = .ok (.iload 4, 2) := by decide +kernel
theorem dX9_greatestDivisor_9 : decode cX9_greatestDivisor 9 = .ok (.bipush 64, 2) := by decide +kernel
theorem dX9_greatestDivisor_11 : decode cX9_greatestDivisor 11 = .ok (.if_icmp .ge 23, 3) := by decide +kernel
theorem dX9_greatestDivisor_14 : decode cX9_greatestDivisor 14 = .ok (.iload_n 3, 1) := by decide +kernel
theorem dX9_greatestDivisor_15 : decode cX9_greatestDivisor 15 = .ok (.ifCond .eq 19, 3) := by decide +kernel
theorem dX9_greatestDivisor_18 : decode cX9_greatestDivisor 18 = .ok (.iload_n 2, 1) := by decide +kernel
theorem dX9_greatestDivisor_19 : decode cX9_greatestDivisor 19 = .ok (.iload_n 3, 1) := by decide +kernel
theorem dX9_greatestDivisor_20 : decode cX9_greatestDivisor 20 = .ok (.irem, 1) := by decide +kernel
theorem dX9_greatestDivisor_21 : decode cX9_greatestDivisor 21 = .ok (.istore 5, 2) := by decide +kernel
theorem dX9_greatestDivisor_23 : decode cX9_greatestDivisor 23 = .ok (.iload_n 3, 1) := by decide +kernel
theorem dX9_greatestDivisor_24 : decode cX9_greatestDivisor 24 = .ok (.istore_n 2, 1) := by decide +kernel
theorem dX9_greatestDivisor_25 : decode cX9_greatestDivisor 25 = .ok (.iload 5, 2) := by decide +kernel
theorem dX9_greatestDivisor_27 : decode cX9_greatestDivisor 27 = .ok (.istore_n 3, 1) := by decide +kernel
theorem dX9_greatestDivisor_28 : decode cX9_greatestDivisor 28 = .ok (.iinc 4 1, 3) := by decide +kernel
theorem dX9_greatestDivisor_31 : decode cX9_greatestDivisor 31 = .ok (.goto (-24), 3) := by decide +kernel
theorem dX9_greatestDivisor_34 : decode cX9_greatestDivisor 34 = .ok (.iload_n 2, 1) := by decide +kernel
theorem dX9_greatestDivisor_35 : decode cX9_greatestDivisor 35 = .ok (.ireturn, 1) := by decide +kernel
theorem dX9_power_0 : decode cX9_power 0 = .ok (.iconst 1, 1) := by decide +kernel
theorem dX9_power_1 : decode cX9_power 1 = .ok (.istore_n 2, 1) := by decide +kernel
theorem dX9_power_2 : decode cX9_power 2 = .ok (.iconst 0, 1) := by decide +kernel
theorem dX9_power_3 : decode cX9_power 3 = .ok (.istore_n 3, 1) := by decide +kernel
theorem dX9_power_4 : decode cX9_power 4 = .ok (.iload_n 3, 1) := by decide +kernel
theorem dX9_power_5 : decode cX9_power 5 = .ok (.iload_n 1, 1) := by decide +kernel
theorem dX9_power_6 : decode cX9_power 6 = .ok (.if_icmp .ge 13, 3) := by decide +kernel
theorem dX9_power_9 : decode cX9_power 9 = .ok (.iload_n 2, 1) := by decide +kernel
theorem dX9_power_10 : decode cX9_power 10 = .ok (.iload_n 0, 1) := by decide +kernel
theorem dX9_power_11 : decode cX9_power 11 = .ok (.imul, 1) := by decide +kernel
theorem dX9_power_12 : decode cX9_power 12 = .ok (.istore_n 2, 1) := by decide +kernel
theorem dX9_power_13 : decode cX9_power 13 = .ok (.iinc 3 1, 3) := by decide +kernel
theorem dX9_power_16 : decode cX9_power 16 = .ok (.goto (-12), 3) := by decide +kernel
theorem dX9_power_19 : decode cX9_power 19 = .ok (.iload_n 2, 1) := by decide +kernel
theorem dX9_power_20 : decode cX9_power 20 = .ok (.ireturn, 1) := by decide +kernel
theorem dJ6_bitCount_0f7a4_0 : decode cJ6_bitCount_0f7a4 0 = .ok (.iload_n 0, 1) := by decide +kernel
theorem dJ6_bitCount_0f7a4_1 : decode cJ6_bitCount_0f7a4 1 = .ok (.iload_n 0, 1) := by decide +kernel
theorem dJ6_bitCount_0f7a4_2 : decode cJ6_bitCount_0f7a4 2 = .ok (.iconst 1, 1) := by decide +kernel
theorem dJ6_bitCount_0f7a4_3 : decode cJ6_bitCount_0f7a4 3 = .ok (.iushr, 1) := by decide +kernel
theorem dJ6_bitCount_0f7a4_4 : decode cJ6_bitCount_0f7a4 4 = .ok (.ldc_w 265, 3) := by decide +kernel
theorem dJ6_bitCount_0f7a4_7 : decode cJ6_bitCount_0f7a4 7 = .ok (.iand, 1) := by decide +kernel
theorem dJ6_bitCount_0f7a4_8 : decode cJ6_bitCount_0f7a4 8 = .ok (.isub, 1) := by decide +kernel
theorem dJ6_bitCount_0f7a4_9 : decode cJ6_bitCount_0f7a4 9 = .ok (.istore_n 0, 1) := by decide +kernel
theorem dJ6_bitCount_0f7a4_10 : decode cJ6_bitCount_0f7a4 10 = .ok (.iload_n 0, 1) := by decide +kernel
theorem dJ6_bitCount_0f7a4_11 : decode cJ6_bitCount_0f7a4 11 = .ok (.ldc_w 266, 3) := by decide +kernel
theorem dJ6_bitCount_0f7a4_14 : decode cJ6_bitCount_0f7a4 14 = .ok (.iand, 1) := by decide +kernel
theorem dJ6_bitCount_0f7a4_15 : decode cJ6_bitCount_0f7a4 15 = .ok (.iload_n 0, 1) := by decide +kernel
theorem dJ6_bitCount_0f7a4_16 : decode cJ6_bitCount_0f7a4 16 = .ok (.iconst 2, 1) := by decide +kernel
theorem dJ6_bitCount_0f7a4_17 : decode cJ6_bitCount_0f7a4 17 = .ok (.iushr, 1) := by decide +kernel
theorem dJ6_bitCount_0f7a4_18 : decode cJ6_bitCount_0f7a4 18 = .ok (.ldc_w 266, 3) := by decide +kernel
theorem dJ6_bitCount_0f7a4_21 : decode cJ6_bitCount_0f7a4 21 = .ok (.iand, 1) := by decide +kernel
theorem dJ6_bitCount_0f7a4_22 : decode cJ6_bitCount_0f7a4 22 = .ok (.iadd, 1) := by decide +kernel
theorem dJ6_bitCount_0f7a4_23 : decode cJ6_bitCount_0f7a4 23 = .ok (.istore_n 0, 1) := by decide +kernel
theorem dJ6_bitCount_0f7a4_24 : decode cJ6_bitCount_0f7a4 24 = .ok (.iload_n 0, 1) := by decide +kernel
theorem dJ6_bitCount_0f7a4_25 : decode cJ6_bitCount_0f7a4 25 = .ok (.iload_n 0, 1) := by decide +kernel
theorem dJ6_bitCount_0f7a4_26 : decode cJ6_bitCount_0f7a4 26 = .ok (.iconst 4, 1) := by decide +kernel
theorem dJ6_bitCount_0f7a4_27 : decode cJ6_bitCount_0f7a4 27 = .ok (.iushr, 1) := by decide +kernel
theorem dJ6_bitCount_0f7a4_28 : decode cJ6_bitCount_0f7a4 28 = .ok (.iadd, 1) := by decide +kernel
theorem dJ6_bitCount_0f7a4_29 : decode cJ6_bitCount_0f7a4 29 = .ok (.ldc_w 267, 3) := by decide +kernel
theorem dJ6_bitCount_0f7a4_32 : decode cJ6_bitCount_0f7a4 32 = .ok (.iand, 1) := by decide +kernel
theorem dJ6_bitCount_0f7a4_33 : decode cJ6_bitCount_0f7a4 33 = .ok (.istore_n 0, 1) := by decide +kernel
theorem dJ6_bitCount_0f7a4_34 : decode cJ6_bitCount_0f7a4 34 = .ok (.iload_n 0, 1) := by decide +kernel
theorem dJ6_bitCount_0f7a4_35 : decode cJ6_bitCount_0f7a4 35 = .ok (.iload_n 0, 1) := by decide +kernel
theorem dJ6_bitCount_0f7a4_36 : decode cJ6_bitCount_0f7a4 36 = .ok (.bipush 8, 2) := by decide +kernel
theorem dJ6_bitCount_0f7a4_38 : decode cJ6_bitCount_0f7a4 38 = .ok (.iushr, 1) := by decide +kernel
theorem dJ6_bitCount_0f7a4_39 : decode cJ6_bitCount_0f7a4 39 = .ok (.iadd, 1) := by decide +kernel
theorem dJ6_bitCount_0f7a4_40 : decode cJ6_bitCount_0f7a4 40 = .ok (.istore_n 0, 1) := by decide +kernel
theorem dJ6_bitCount_0f7a4_41 : decode cJ6_bitCount_0f7a4 41 = .ok (.iload_n 0, 1) := by decide +kernel
theorem dJ6_bitCount_0f7a4_42 : decode cJ6_bitCount_0f7a4 42 = .ok (.iload_n 0, 1) := by decide +kernel
theorem dJ6_bitCount_0f7a4_43 : decode cJ6_bitCount_0f7a4 43 = .ok (.bipush 16, 2) := by decide +kernel
theorem dJ6_bitCount_0f7a4_45 : decode cJ6_bitCount_0f7a4 45 = .ok (.iushr, 1) := by decide +kernel
theorem dJ6_bitCount_0f7a4_46 : decode cJ6_bitCount_0f7a4 46 = .ok (.iadd, 1) := by decide +kernel
theorem dJ6_bitCount_0f7a4_47 : decode cJ6_bitCount_0f7a4 47 = .ok (.istore_n 0, 1) := by decide +kernel
theorem dJ6_bitCount_0f7a4_48 : decode cJ6_bitCount_0f7a4 48 = .ok (.iload_n 0, 1) := by decide +kernel
theorem dJ6_bitCount_0f7a4_49 : decode cJ6_bitCount_0f7a4 49 = .ok (.bipush 63, 2) := by decide +kernel
theorem dJ6_bitCount_0f7a4_51 : decode cJ6_bitCount_0f7a4 51 = .ok (.iand, 1) := by decide +kernel
theorem dJ6_bitCount_0f7a4_52 : decode cJ6_bitCount_0f7a4 52 = .ok (.ireturn, 1) := by decide +kernel
theorem dJ9_abs_0f7a4_0 : decode cJ9_abs_0f7a4 0 = .ok (.iload_n 0, 1) := by decide +kernel
theorem dJ9_abs_0f7a4_1 : decode cJ9_abs_0f7a4 1 = .ok (.ifCond .ge 8, 3) := by decide +kernel
theorem dJ9_abs_0f7a4_4 : decode cJ9_abs_0f7a4 4 = .ok (.iload_n 0, 1) := by decide +kernel
theorem dJ9_abs_0f7a4_5 : decode cJ9_abs_0f7a4 5 = .ok (.ineg, 1) := by decide +kernel
theorem dJ9_abs_0f7a4_6 : decode cJ9_abs_0f7a4 6 = .ok (.goto 4, 3) := by decide +kernel
theorem dJ9_abs_0f7a4_9 : decode cJ9_abs_0f7a4 9 = .ok (.iload_n 0, 1) := by decide +kernel
theorem dJ9_abs_0f7a4_10 : decode cJ9_abs_0f7a4 10 = .ok (.ireturn, 1) := by decide +kernel
theorem dJ9_max_7cf53_0 : decode cJ9_max_7cf53 0 = .ok (.iload_n 0, 1) := by decide +kernel
theorem dJ9_max_7cf53_1 : decode cJ9_max_7cf53 1 = .ok (.iload_n 1, 1) := by decide +kernel
theorem dJ9_max_7cf53_2 : decode cJ9_max_7cf53 2 = .ok (.if_icmp .lt 7, 3) := by decide +kernel
theorem dJ9_max_7cf53_5 : decode cJ9_max_7cf53 5 = .ok (.iload_n 0, 1) := by decide +kernel
theorem dJ9_max_7cf53_6 : decode cJ9_max_7cf53 6 = .ok (.goto 4, 3) := by decide +kernel
theorem dJ9_max_7cf53_9 : decode cJ9_max_7cf53 9 = .ok (.iload_n 1, 1) := by decide +kernel
theorem dJ9_max_7cf53_10 : decode cJ9_max_7cf53 10 = .ok (.ireturn, 1) := by decide +kernel
theorem dJ9_min_7cf53_0 : decode cJ9_min_7cf53 0 = .ok (.iload_n 0, 1) := by decide +kernel
theorem dJ9_min_7cf53_1 : decode cJ9_min_7cf53 1 = .ok (.iload_n 1, 1) := by decide +kernel
theorem dJ9_min_7cf53_2 : decode cJ9_min_7cf53 2 = .ok (.if_icmp .gt 7, 3) := by decide +kernel
theorem dJ9_min_7cf53_5 : decode cJ9_min_7cf53 5 = .ok (.iload_n 0, 1) := by decide +kernel
theorem dJ9_min_7cf53_6 : decode cJ9_min_7cf53 6 = .ok (.goto 4, 3) := by decide +kernel
theorem dJ9_min_7cf53_9 : decode cJ9_min_7cf53 9 = .ok (.iload_n 1, 1) := by decide +kernel
theorem dJ9_min_7cf53_10 : decode cJ9_min_7cf53 10 = .ok (.ireturn, 1) := by decide +kernel

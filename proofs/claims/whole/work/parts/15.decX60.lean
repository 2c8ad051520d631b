theorem dX6_init_0 : decode cX6_init 0 = .ok (.aload_n 0, 1) := by decide +kernel
theorem dX6_init_1 : decode cX6_init 1 = .ok (.invokespecial 1, 3) := by decide +kernel
theorem dX6_init_4 : decode cX6_init 4 = .ok (.aload_n 0, 1) := by decide +kernel
theorem dX6_init_5 : decode cX6_init 5 = .ok (.bipush 25, 2) := by decide +kernel
theorem dX6_init_7 : decode cX6_init 7 = .ok (.newarray .int, 2) := by decide +kernel
theorem dX6_init_9 : decode cX6_init 9 = .ok (.putfield 7, 3) := by decide +kernel
theorem dX6_init_12 : decode cX6_init 12 = .ok (.aload_n 0, 1) := by decide +kernel
theorem dX6_init_13 : decode cX6_init 13 = .ok (.bipush 50, 2) := by decide +kernel
theorem dX6_init_15 : decode cX6_init 15 = .ok (.newarray .int, 2) := by decide +kernel
theorem dX6_init_17 : decode cX6_init 17 = .ok (.putfield 13, 3) := by decide +kernel
theorem dX6_init_20 : decode cX6_init 20 = .ok (.aload_n 0, 1) := by decide +kernel
theorem dX6_init_21 : decode cX6_init 21 = .ok (.iconst 2, 1) := by decide +kernel
theorem dX6_init_22 : decode cX6_init 22 = .ok (.newarray .boolean, 2) := by decide +kernel
theorem dX6_init_24 : decode cX6_init 24 = .ok (.putfield 16, 3) := by decide +kernel
theorem dX6_init_27 : decode cX6_init 27 = .ok (.aload_n 0, 1) := by decide +kernel
theorem dX6_init_28 : decode cX6_init 28 = .ok (.bipush 8, 2) := by decide +kernel
theorem dX6_init_30 : decode cX6_init 30 = .ok (.newarray .int, 2) := by decide +kernel
theorem dX6_init_32 : decode cX6_init 32 = .ok (.putfield 20, 3) := by decide +kernel
theorem dX6_init_35 : decode cX6_init 35 = .ok (.aload_n 0, 1) := by decide +kernel
theorem dX6_init_36 : decode cX6_init 36 = .ok (.bipush 8, 2) := by decide +kernel
theorem dX6_init_38 : decode cX6_init 38 = .ok (.newarray .int, 2) := by decide +kernel
theorem dX6_init_40 : decode cX6_init 40 = .ok (.putfield 23, 3) := by decide +kernel
theorem dX6_init_43 : decode cX6_init 43 = .ok (.aload_n 0, 1) := by decide +kernel
theorem dX6_init_44 : decode cX6_init 44 = .ok (.bipush 64, 2) := by decide +kernel
theorem dX6_init_46 : decode cX6_init 46 = .ok (.newarray .int, 2) := by decide +kernel
theorem dX6_init_48 : decode cX6_init 48 = .ok (.putfield 26, 3) := by decide +kernel
theorem dX6_init_51 : decode cX6_init 51 = .ok (.aload_n 0, 1) := by decide +kernel
theorem dX6_init_52 : decode cX6_init 52 = .ok (.bipush 64, 2) := by decide +kernel
theorem dX6_init_54 : decode cX6_init 54 = .ok (.newarray .int, 2) := by decide +kernel
theorem dX6_init_56 : decode cX6_init 56 = .ok (.putfield 29, 3) := by decide +kernel
theorem dX6_init_59 : decode cX6_init 59 = .ok (.aload_n 0, 1) := by decide +kernel
theorem dX6_init_60 : decode cX6_init 60 = .ok (.bipush 8, 2) := by decide +kernel
theorem dX6_init_62 : decode cX6_init 62 = .ok (.newarray .int, 2) := by decide +kernel
theorem dX6_init_64 : decode cX6_init 64 = .ok (.putfield 32, 3) := by decide +kernel
theorem dX6_init_67 : decode cX6_init 67 = .ok (.aload_n 0, 1) := by decide +kernel
theorem dX6_init_68 : decode cX6_init 68 = .ok (.bipush 8, 2) := by decide +kernel
theorem dX6_init_70 : decode cX6_init 70 = .ok (.newarray .int, 2) := by decide +kernel
theorem dX6_init_72 : decode cX6_init 72 = .ok (.putfield 35, 3) := by decide +kernel
theorem dX6_init_75 : decode cX6_init 75 = .ok (.aload_n 0, 1) := by decide +kernel
theorem dX6_init_76 : decode cX6_init 76 = .ok (.bipush 10, 2) := by decide +kernel
theorem dX6_init_78 : decode cX6_init 78 = .ok (.newarray .int, 2) := by decide +kernel
theorem dX6_init_80 : decode cX6_init 80 = .ok (.putfield 38, 3) := by decide +kernel
theorem dX6_init_83 : decode cX6_init 83 = .ok (.aload_n 0, 1) := by decide +kernel
theorem dX6_init_84 : decode cX6_init 84 = .ok (.sipush 256, 3) := by decide +kernel
theorem dX6_init_87 : decode cX6_init 87 = .ok (.newarray .boolean, 2) := by decide +kernel
theorem dX6_init_89 : decode cX6_init 89 = .ok (.putfield 41, 3) := by decide +kernel
theorem dX6_init_92 : decode cX6_init 92 = .ok (.aload_n 0, 1) := by decide +kernel
theorem dX6_init_93 : decode cX6_init 93 = .ok (.bipush 8, 2) := by decide +kernel
theorem dX6_init_95 : decode cX6_init 95 = .ok (.newarray .int, 2) := by decide +kernel
theorem dX6_init_97 : decode cX6_init 97 = .ok (.putfield 44, 3) := by decide +kernel
theorem dX6_init_100 : decode cX6_init 100 = .ok (.aload_n 0, 1) := by decide +kernel
theorem dX6_init_101 : decode cX6_init 101 = .ok (.getfield 7, 3) := by decide +kernel
theorem dX6_init_104 : decode cX6_init 104 = .ok (.iconst 0, 1) := by decide +kernel
theorem dX6_init_105 : decode cX6_init 105 = .ok (.iconst 4, 1) := by decide +kernel
theorem dX6_init_106 : decode cX6_init 106 = .ok (.iastore, 1) := by decide +kernel
theorem dX6_init_107 : decode cX6_init 107 = .ok (.aload_n 0, 1) := by decide +kernel
theorem dX6_init_108 : decode cX6_init 108 = .ok (.invokevirtual 47, 3) := by decide +kernel
theorem dX6_init_111 : decode cX6_init 111 = .ok (.return_, 1) := by decide +kernel
theorem dX6_resetRow_0 : decode cX6_resetRow 0 = .ok (.iconst 0, 1) := by decide +kernel
theorem dX6_resetRow_1 : decode cX6_resetRow 1 = .ok (.istore_n 1, 1) := by decide +kernel
theorem dX6_resetRow_2 : decode cX6_resetRow 2 = .ok (.iload_n 1, 1) := by decide +kernel
theorem dX6_resetRow_3 : decode cX6_resetRow 3 = .ok (.bipush 8, 2) := by decide +kernel
theorem dX6_resetRow_5 : decode cX6_resetRow 5 = .ok (.if_icmp .ge 19, 3) := by decide +kernel
theorem dX6_resetRow_8 : decode cX6_resetRow 8 = .ok (.aload_n 0, 1) := by decide +kernel
theorem dX6_resetRow_9 : decode cX6_resetRow 9 = .ok (.getfield 7, 3) := by decide +kernel
theorem dX6_resetRow_12 : decode cX6_resetRow 12 = .ok (.bipush 17, 2) := by decide +kernel
theorem dX6_resetRow_14 : decode cX6_resetRow 14 = .ok (.iload_n 1, 1) := by decide +kernel
theorem dX6_resetRow_15 : decode cX6_resetRow 15 = .ok (.iadd, 1) := by decide +kernel
theorem dX6_resetRow_16 : decode cX6_resetRow 16 = .ok (.iload_n 1, 1) := by decide +kernel
theorem dX6_resetRow_17 : decode cX6_resetRow 17 = .ok (.iastore, 1) := by decide +kernel
theorem dX6_resetRow_18 : decode cX6_resetRow 18 = .ok (.iinc 1 1, 3) := by decide +kernel
theorem dX6_resetRow_21 : decode cX6_resetRow 21 = .ok (.goto (-19), 3) := by decide +kernel
theorem dX6_resetRow_24 : decode cX6_resetRow 24 = .ok (.return_, 1) := by decide +kernel
theorem dX6_in_0 : decode cX6_in 0 = .ok (.iload_n 0, 1) := by decide +kernel
theorem dX6_in_1 : decode cX6_in 1 = .ok (.iload_n 1, 1) := by decide +kernel
theorem dX6_in_2 : decode cX6_in 2 = .ok (.if_icmp .lt 12, 3) := by decide +kernel
theorem dX6_in_5 : decode cX6_in 5 = .ok (.iload_n 0, 1) := by decide +kernel
theorem dX6_in_6 : decode cX6_in 6 = .ok (.iload_n 2, 1) := by decide +kernel
theorem dX6_in_7 : decode cX6_in 7 = .ok (.if_icmp .gt 7, 3) := by decide +kernel
theorem dX6_in_10 : decode cX6_in 10 = .ok (.iconst 1, 1) := by decide +kernel
theorem dX6_in_11 : decode cX6_in 11 = .ok (.goto 4, 3) := by decide +kernel
theorem dX6_in_14 : decode cX6_in 14 = .ok (.iconst 0, 1) := by decide +kernel
theorem dX6_in_15 : decode cX6_in 15 = .ok (.ireturn, 1) := by decide +kernel
theorem dX6_isGrave_0 : decode cX6_isGrave 0 = .ok (.iload_n 1, 1) := by decide +kernel
theorem dX6_isGrave_1 : decode cX6_isGrave 1 = .ok (.iconst 0, 1) := by decide +kernel
theorem dX6_isGrave_2 : decode cX6_isGrave 2 = .ok (.aload_n 0, 1) := by decide +kernel
theorem dX6_isGrave_3 : decode cX6_isGrave 3 = .ok (.getfield 7, 3) := by decide +kernel
theorem dX6_isGrave_6 : decode cX6_isGrave 6 = .ok (.iconst 0, 1) := by decide +kernel
theorem dX6_isGrave_7 : decode cX6_isGrave 7 = .ok (.iaload, 1) := by decide +kernel
theorem dX6_isGrave_8 : decode cX6_isGrave 8 = .ok (.iconst 1, 1) := by decide +kernel
theorem dX6_isGrave_9 : decode cX6_isGrave 9 = .ok (.isub, 1) := by decide +kernel
theorem dX6_isGrave_10 : decode cX6_isGrave 10 = .ok (.invokestatic 50, 3) := by decide +kernel
theorem dX6_isGrave_13 : decode cX6_isGrave 13 = .ok (.ireturn, 1) := by decide +kernel
theorem dX6_isSort_0 : decode cX6_isSort 0 = .ok (.iload_n 0, 1) := by decide +kernel
theorem dX6_isSort_1 : decode cX6_isSort 1 = .ok (.iconst 0, 1) := by decide +kernel
theorem dX6_isSort_2 : decode cX6_isSort 2 = .ok (.bipush 9, 2) := by decide +kernel
theorem dX6_isSort_4 : decode cX6_isSort 4 = .ok (.invokestatic 50, 3) := by decide +kernel
theorem dX6_isSort_7 : decode cX6_isSort 7 = .ok (.ireturn, 1) := by decide +kernel
theorem dX6_has_0 : decode cX6_has 0 = .ok (.iload_n 0, 1) := by decide +kernel
theorem dX6_has_1 : decode cX6_has 1 = .ok (.iload_n 1, 1) := by decide +kernel
theorem dX6_has_2 : decode cX6_has 2 = .ok (.ishr, 1) := by decide +kernel
theorem dX6_has_3 : decode cX6_has 3 = .ok (.iconst 1, 1) := by decide +kernel
theorem dX6_has_4 : decode cX6_has 4 = .ok (.iand, 1) := by decide +kernel
theorem dX6_has_5 : decode cX6_has 5 = .ok (.iconst 1, 1) := by decide +kernel
theorem dX6_has_6 : decode cX6_has 6 = .ok (.if_icmp .ne 7, 3) := by decide +kernel
theorem dX6_has_9 : decode cX6_has 9 = .ok (.iconst 1, 1) := by decide +kernel
theorem dX6_has_10 : decode cX6_has 10 = .ok (.goto 4, 3) := by decide +kernel
theorem dX6_has_13 : decode cX6_has 13 = .ok (.iconst 0, 1) := by decide +kernel
theorem dX6_has_14 : decode cX6_has 14 = .ok (.ireturn, 1) := by decide +kernel
theorem dX6_bits_0 : decode cX6_bits 0 = .ok (.iconst 0, 1) := by decide +kernel
theorem dX6_bits_1 : decode cX6_bits 1 = .ok (.istore_n 1, 1) := by decide +kernel
theorem dX6_bits_2 : decode cX6_bits 2 = .ok (.iconst 0, 1) := by decide +kernel
theorem dX6_bits_3 : decode cX6_bits 3 = .ok (.istore_n 2, 1) := by decide +kernel
theorem dX6_bits_4 : decode cX6_bits 4 = .ok (.iload_n 2, 1) := by decide +kernel
theorem dX6_bits_5 : decode cX6_bits 5 = .ok (.bipush 10, 2) := by decide +kernel
theorem dX6_bits_7 : decode cX6_bits 7 = .ok (.if_icmp .ge 17, 3) := by decide +kernel
theorem dX6_bits_10 : decode cX6_bits 10 = .ok (.iload_n 1, 1) := by decide +kernel
theorem dX6_bits_11 : decode cX6_bits 11 = .ok (.iload_n 0, 1) := by decide +kernel
theorem dX6_bits_12 : decode cX6_bits 12 = .ok (.iload_n 2, 1) := by decide +kernel
theorem dX6_bits_13 : decode cX6_bits 13 = .ok (.ishr, 1) := by decide +kernel
theorem dX6_bits_14 : decode cX6_bits 14 = .ok (.iconst 1, 1) := by decide +kernel
theorem dX6_bits_15 : decode cX6_bits 15 = .ok (.iand, 1) := by decide +kernel
theorem dX6_bits_16 : decode cX6_bits 16 = .ok (.iadd, 1) := by decide +kernel
theorem dX6_bits_17 : decode cX6_bits 17 = .ok (.istore_n 1, 1) := by decide +kernel
theorem dX6_bits_18 : decode cX6_bits 18 = .ok (.iinc 2 1, 3) := by decide +kernel
theorem dX6_bits_21 : decode cX6_bits 21 = .ok (.goto (-17), 3) := by decide +kernel
theorem dX6_bits_24 : decode cX6_bits 24 = .ok (.iload_n 1, 1) := by decide +kernel
theorem dX6_bits_25 : decode cX6_bits 25 = .ok (.ireturn, 1) := by decide +kernel
theorem dX6_many_0 : decode cX6_many 0 = .ok (.iload_n 1, 1) := by decide +kernel
theorem dX6_many_1 : decode cX6_many 1 = .ok (.iconst 1, 1) := by decide +kernel
theorem dX6_many_2 : decode cX6_many 2 = .ok (.bipush 8, 2) := by decide +kernel
theorem dX6_many_4 : decode cX6_many 4 = .ok (.invokestatic 50, 3) := by decide +kernel
theorem dX6_many_7 : decode cX6_many 7 = .ok (.ifCond .ne 6, 3) := by decide +kernel
theorem dX6_many_10 : decode cX6_many 10 = .ok (.bipush (-2), 2) := by decide +kernel
theorem dX6_many_12 : decode cX6_many 12 = .ok (.ireturn, 1) := by decide +kernel
theorem dX6_many_13 : decode cX6_many 13 = .ok (.aload_n 0, 1) := by decide +kernel
theorem dX6_many_14 : decode cX6_many 14 = .ok (.getfield 7, 3) := by decide +kernel
theorem dX6_many_17 : decode cX6_many 17 = .ok (.iconst 0, 1) := by decide +kernel
theorem dX6_many_18 : decode cX6_many 18 = .ok (.iaload, 1) := by decide +kernel
theorem dX6_many_19 : decode cX6_many 19 = .ok (.istore_n 2, 1) := by decide +kernel
theorem dX6_many_20 : decode cX6_many 20 = .ok (.aload_n 0, 1) := by decide +kernel
theorem dX6_many_21 : decode cX6_many 21 = .ok (.getfield 7, 3) := by decide +kernel
theorem dX6_many_24 : decode cX6_many 24 = .ok (.iconst 0, 1) := by decide +kernel
theorem dX6_many_25 : decode cX6_many 25 = .ok (.iload_n 1, 1) := by decide +kernel
theorem dX6_many_26 : decode cX6_many 26 = .ok (.iastore, 1) := by decide +kernel
theorem dX6_many_27 : decode cX6_many 27 = .ok (.iconst 0, 1) := by decide +kernel
theorem dX6_many_28 : decode cX6_many 28 = .ok (.istore_n 3, 1) := by decide +kernel
theorem dX6_many_29 : decode cX6_many 29 = .ok (.iload_n 3, 1) := by decide +kernel
theorem dX6_many_30 : decode cX6_many 30 = .ok (.bipush 8, 2) := by decide +kernel
theorem dX6_many_32 : decode cX6_many 32 = .ok (.if_icmp .ge 67, 3) := by decide +kernel
theorem dX6_many_35 : decode cX6_many 35 = .ok (.aload_n 0, 1) := by decide +kernel
theorem dX6_many_36 : decode cX6_many 36 = .ok (.getfield 7, 3) := by decide +kernel
theorem dX6_many_39 : decode cX6_many 39 = .ok (.iconst 1, 1) := by decide +kernel
theorem dX6_many_40 : decode cX6_many 40 = .ok (.iload_n 3, 1) := by decide +kernel
theorem dX6_many_41 : decode cX6_many 41 = .ok (.iadd, 1) := by decide +kernel
theorem dX6_many_42 : decode cX6_many 42 = .ok (.iload_n 3, 1) := by decide +kernel
theorem dX6_many_43 : decode cX6_many 43 = .ok (.iload_n 1, 1) := by decide +kernel
theorem dX6_many_44 : decode cX6_many 44 = .ok (.if_icmp .ge 14, 3) := by decide +kernel
theorem dX6_many_47 : decode cX6_many 47 = .ok (.aload_n 0, 1) := by decide +kernel
theorem dX6_many_48 : decode cX6_many 48 = .ok (.getfield 7, 3) := by decide +kernel
theorem dX6_many_51 : decode cX6_many 51 = .ok (.iconst 1, 1) := by decide +kernel
theorem dX6_many_52 : decode cX6_many 52 = .ok (.iload_n 3, 1) := by decide +kernel
theorem dX6_many_53 : decode cX6_many 53 = .ok (.iadd, 1) := by decide +kernel
theorem dX6_many_54 : decode cX6_many 54 = .ok (.iaload, 1) := by decide +kernel
theorem dX6_many_55 : decode cX6_many 55 = .ok (.goto 4, 3) := by decide +kernel
theorem dX6_many_58 : decode cX6_many 58 = .ok (.iconst 0, 1) := by decide +kernel
theorem dX6_many_59 : decode cX6_many 59 = .ok (.iastore, 1) := by decide +kernel
theorem dX6_many_60 : decode cX6_many 60 = .ok (.aload_n 0, 1) := by decide +kernel
theorem dX6_many_61 : decode cX6_many 61 = .ok (.getfield 7, 3) := by decide +kernel
theorem dX6_many_64 : decode cX6_many 64 = .ok (.bipush 9, 2) := by decide +kernel
theorem dX6_many_66 : decode cX6_many 66 = .ok (.iload_n 3, 1) := by decide +kernel
theorem dX6_many_67 : decode cX6_many 67 = .ok (.iadd, 1) := by decide +kernel
theorem dX6_many_68 : decode cX6_many 68 = .ok (.iload_n 3, 1) := by decide +kernel
theorem dX6_many_69 : decode cX6_many 69 = .ok (.iload_n 1, 1) := by decide +kernel
theorem dX6_many_70 : decode cX6_many 70 = .ok (.if_icmp .ge 21, 3) := by decide +kernel
theorem dX6_many_73 : decode cX6_many 73 = .ok (.aload_n 0, 1) := by decide +kernel
theorem dX6_many_74 : decode cX6_many 74 = .ok (.getfield 7, 3) := by decide +kernel
theorem dX6_many_77 : decode cX6_many 77 = .ok (.bipush 9, 2) := by decide +kernel
theorem dX6_many_79 : decode cX6_many 79 = .ok (.iload_n 3, 1) := by decide +kernel
theorem dX6_many_80 : decode cX6_many 80 = .ok (.iadd, 1) := by decide +kernel
theorem dX6_many_81 : decode cX6_many 81 = .ok (.iaload, 1) := by decide +kernel
theorem dX6_many_82 : decode cX6_many 82 = .ok (.iconst 1, 1) := by decide +kernel
theorem dX6_many_83 : decode cX6_many 83 = .ok (.iload_n 1, 1) := by decide +kernel
theorem dX6_many_84 : decode cX6_many 84 = .ok (.ishl, 1) := by decide +kernel
theorem dX6_many_85 : decode cX6_many 85 = .ok (.iconst 1, 1) := by decide +kernel
theorem dX6_many_86 : decode cX6_many 86 = .ok (.isub, 1) := by decide +kernel
theorem dX6_many_87 : decode cX6_many 87 = .ok (.iand, 1) := by decide +kernel
theorem dX6_many_88 : decode cX6_many 88 = .ok (.goto 4, 3) := by decide +kernel
theorem dX6_many_91 : decode cX6_many 91 = .ok (.iconst 0, 1) := by decide +kernel
theorem dX6_many_92 : decode cX6_many 92 = .ok (.iastore, 1) := by decide +kernel
theorem dX6_many_93 : decode cX6_many 93 = .ok (.iinc 3 1, 3) := by decide +kernel
theorem dX6_many_96 : decode cX6_many 96 = .ok (.goto (-67), 3) := by decide +kernel
theorem dX6_many_99 : decode cX6_many 99 = .ok (.aload_n 0, 1) := by decide +kernel
theorem dX6_many_100 : decode cX6_many 100 = .ok (.invokevirtual 47, 3) := by decide +kernel
theorem dX6_many_103 : decode cX6_many 103 = .ok (.aload_n 0, 1) := by decide +kernel
theorem dX6_many_104 : decode cX6_many 104 = .ok (.iconst 0, 1) := by decide +kernel
theorem dX6_many_105 : decode cX6_many 105 = .ok (.putfield 54, 3) := by decide +kernel
theorem dX6_many_108 : decode cX6_many 108 = .ok (.iload_n 2, 1) := by decide +kernel
theorem dX6_many_109 : decode cX6_many 109 = .ok (.ireturn, 1) := by decide +kernel
theorem dX6_find_0 : decode cX6_find 0 = .ok (.aload_n 0, 1) := by decide +kernel
theorem dX6_find_1 : decode cX6_find 1 = .ok (.iload_n 1, 1) := by decide +kernel
theorem dX6_find_2 : decode cX6_find 2 = .ok (.invokevirtual 58, 3) := by decide +kernel
theorem dX6_find_5 : decode cX6_find 5 = .ok (.ifCond .eq 10, 3) := by decide +kernel
theorem dX6_find_8 : decode cX6_find 8 = .ok (.iload_n 2, 1) := by decide +kernel
theorem dX6_find_9 : decode cX6_find 9 = .ok (.invokestatic 62, 3) := by decide +kernel
theorem dX6_find_12 : decode cX6_find 12 = .ok (.ifCond .ne 5, 3) := by decide +kernel
theorem dX6_find_15 : decode cX6_find 15 = .ok (.iconst (-1), 1) := by decide +kernel
theorem dX6_find_16 : decode cX6_find 16 = .ok (.ireturn, 1) := by decide +kernel
theorem dX6_find_17 : decode cX6_find 17 = .ok (.iload_n 3, 1) := by decide +kernel
theorem dX6_find_18 : decode cX6_find 18 = .ok (.iconst 0, 1) := by decide +kernel
theorem dX6_find_19 : decode cX6_find 19 = .ok (.iconst 1, 1) := by decide +kernel
theorem dX6_find_20 : decode cX6_find 20 = .ok (.invokestatic 50, 3) := by decide +kernel
theorem dX6_find_23 : decode cX6_find 23 = .ok (.ifCond .ne 6, 3) := by decide +kernel
theorem dX6_find_26 : decode cX6_find 26 = .ok (.bipush (-2), 2) := by decide +kernel
theorem dX6_find_28 : decode cX6_find 28 = .ok (.ireturn, 1) := by decide +kernel
theorem dX6_find_29 : decode cX6_find 29 = .ok (.aload_n 0, 1) := by decide +kernel
theorem dX6_find_30 : decode cX6_find 30 = .ok (.getfield 7, 3) := by decide +kernel
theorem dX6_find_33 : decode cX6_find 33 = .ok (.iconst 1, 1) := by decide +kernel
theorem dX6_find_34 : decode cX6_find 34 = .ok (.iload_n 1, 1) := by decide +kernel
theorem dX6_find_35 : decode cX6_find 35 = .ok (.iadd, 1) := by decide +kernel
theorem dX6_find_36 : decode cX6_find 36 = .ok (.iload_n 3, 1) := by decide +kernel
theorem dX6_find_37 : decode cX6_find 37 = .ok (.iconst 1, 1) := by decide +kernel
theorem dX6_find_38 : decode cX6_find 38 = .ok (.if_icmp .ne 18, 3) := by decide +kernel
theorem dX6_find_41 : decode cX6_find 41 = .ok (.aload_n 0, 1) := by decide +kernel
theorem dX6_find_42 : decode cX6_find 42 = .ok (.getfield 7, 3) := by decide +kernel
theorem dX6_find_45 : decode cX6_find 45 = .ok (.iconst 1, 1) := by decide +kernel
theorem dX6_find_46 : decode cX6_find 46 = .ok (.iload_n 1, 1) := by decide +kernel
theorem dX6_find_47 : decode cX6_find 47 = .ok (.iadd, 1) := by decide +kernel
theorem dX6_find_48 : decode cX6_find 48 = .ok (.iaload, 1) := by decide +kernel
theorem dX6_find_49 : decode cX6_find 49 = .ok (.iconst 1, 1) := by decide +kernel
theorem dX6_find_50 : decode cX6_find 50 = .ok (.iload_n 2, 1) := by decide +kernel
theorem dX6_find_51 : decode cX6_find 51 = .ok (.ishl, 1) := by decide +kernel
theorem dX6_find_52 : decode cX6_find 52 = .ok (.ior, 1) := by decide +kernel
theorem dX6_find_53 : decode cX6_find 53 = .ok (.goto 17, 3) := by decide +kernel
theorem dX6_find_56 : decode cX6_find 56 = .ok (.aload_n 0, 1) := by decide +kernel
theorem dX6_find_57 : decode cX6_find 57 = .ok (.getfield 7, 3) := by decide +kernel
theorem dX6_find_60 : decode cX6_find 60 = .ok (.iconst 1, 1) := by decide +kernel
theorem dX6_find_61 : decode cX6_find 61 = .ok (.iload_n 1, 1) := by decide +kernel
theorem dX6_find_62 : decode cX6_find 62 = .ok (.iadd, 1) := by decide +kernel
theorem dX6_find_63 : decode cX6_find 63 = .ok (.iaload, 1) := by decide +kernel
theorem dX6_find_64 : decode cX6_find 64 = .ok (.iconst 1, 1) := by decide +kernel
theorem dX6_find_65 : decode cX6_find 65 = .ok (.iload_n 2, 1) := by decide +kernel
theorem dX6_find_66 : decode cX6_find 66 = .ok (.ishl, 1) := by decide +kernel
theorem dX6_find_67 : decode cX6_find 67 = .ok (.iconst (-1), 1) := by decide +kernel
theorem dX6_find_68 : decode cX6_find 68 = .ok (.ixor, 1) := by decide +kernel
theorem dX6_find_69 : decode cX6_find 69 = .ok (.iand, 1) := by decide +kernel
theorem dX6_find_70 : decode cX6_find 70 = .ok (.iastore, 1) := by decide +kernel
theorem dX6_find_71 : decode cX6_find 71 = .ok (.aload_n 0, 1) := by decide +kernel
theorem dX6_find_72 : decode cX6_find 72 = .ok (.iconst 0, 1) := by decide +kernel
theorem dX6_find_73 : decode cX6_find 73 = .ok (.putfield 54, 3) := by decide +kernel
theorem dX6_find_76 : decode cX6_find 76 = .ok (.aload_n 0, 1) := by decide +kernel
theorem dX6_find_77 : decode cX6_find 77 = .ok (.getfield 7, 3) := by decide +kernel
theorem dX6_find_80 : decode cX6_find 80 = .ok (.iconst 1, 1) := by decide +kernel
theorem dX6_find_81 : decode cX6_find 81 = .ok (.iload_n 1, 1) := by decide +kernel
theorem dX6_find_82 : decode cX6_find 82 = .ok (.iadd, 1) := by decide +kernel
theorem dX6_find_83 : decode cX6_find 83 = .ok (.iaload, 1) := by decide +kernel
theorem dX6_find_84 : decode cX6_find 84 = .ok (.invokestatic 65, 3) := by decide +kernel
theorem dX6_find_87 : decode cX6_find 87 = .ok (.ireturn, 1) := by decide +kernel
theorem dX6_knownPairs_0 : decode cX6_knownPairs 0 = .ok (.iconst 0, 1) := by decide +kernel
theorem dX6_knownPairs_1 : decode cX6_knownPairs 1 = .ok (.istore_n 1, 1) := by decide +kernel
theorem dX6_knownPairs_2 : decode cX6_knownPairs 2 = .ok (.iconst 0, 1) := by decide +kernel
theorem dX6_knownPairs_3 : decode cX6_knownPairs 3 = .ok (.istore_n 2, 1) := by decide +kernel
theorem dX6_knownPairs_4 : decode cX6_knownPairs 4 = .ok (.iload_n 2, 1) := by decide +kernel
theorem dX6_knownPairs_5 : decode cX6_knownPairs 5 = .ok (.bipush 8, 2) := by decide +kernel
theorem dX6_knownPairs_7 : decode cX6_knownPairs 7 = .ok (.if_icmp .ge 24, 3) := by decide +kernel
theorem dX6_knownPairs_10 : decode cX6_knownPairs 10 = .ok (.iload_n 1, 1) := by decide +kernel
theorem dX6_knownPairs_11 : decode cX6_knownPairs 11 = .ok (.aload_n 0, 1) := by decide +kernel
theorem dX6_knownPairs_12 : decode cX6_knownPairs 12 = .ok (.getfield 7, 3) := by decide +kernel
theorem dX6_knownPairs_15 : decode cX6_knownPairs 15 = .ok (.bipush 9, 2) := by decide +kernel
theorem dX6_knownPairs_17 : decode cX6_knownPairs 17 = .ok (.iload_n 2, 1) := by decide +kernel
theorem dX6_knownPairs_18 : decode cX6_knownPairs 18 = .ok (.iadd, 1) := by decide +kernel
theorem dX6_knownPairs_19 : decode cX6_knownPairs 19 = .ok (.iaload, 1) := by decide +kernel
theorem dX6_knownPairs_20 : decode cX6_knownPairs 20 = .ok (.invokestatic 65, 3) := by decide +kernel
theorem dX6_knownPairs_23 : decode cX6_knownPairs 23 = .ok (.iadd, 1) := by decide +kernel
theorem dX6_knownPairs_24 : decode cX6_knownPairs 24 = .ok (.istore_n 1, 1) := by decide +kernel
theorem dX6_knownPairs_25 : decode cX6_knownPairs 25 = .ok (.iinc 2 1, 3) := by decide +kernel
theorem dX6_knownPairs_28 : decode cX6_knownPairs 28 = .ok (.goto (-24), 3) := by decide +kernel
theorem dX6_knownPairs_31 : decode cX6_knownPairs 31 = .ok (.iload_n 1, 1) := by decide +kernel
theorem dX6_knownPairs_32 : decode cX6_knownPairs 32 = .ok (.ireturn, 1) := by decide +kernel
theorem dX6_ahead_0 : decode cX6_ahead 0 = .ok (.aload_n 0, 1) := by decide +kernel
theorem dX6_ahead_1 : decode cX6_ahead 1 = .ok (.iload_n 1, 1) := by decide +kernel
theorem dX6_ahead_2 : decode cX6_ahead 2 = .ok (.invokevirtual 58, 3) := by decide +kernel
theorem dX6_ahead_5 : decode cX6_ahead 5 = .ok (.ifCond .eq 11, 3) := by decide +kernel
theorem dX6_ahead_8 : decode cX6_ahead 8 = .ok (.aload_n 0, 1) := by decide +kernel
theorem dX6_ahead_9 : decode cX6_ahead 9 = .ok (.iload_n 2, 1) := by decide +kernel
theorem dX6_ahead_10 : decode cX6_ahead 10 = .ok (.invokevirtual 58, 3) := by decide +kernel
theorem dX6_ahead_13 : decode cX6_ahead 13 = .ok (.ifCond .ne 5, 3) := by decide +kernel
theorem dX6_ahead_16 : decode cX6_ahead 16 = .ok (.iconst (-1), 1) := by decide +kernel
theorem dX6_ahead_17 : decode cX6_ahead 17 = .ok (.ireturn, 1) := by decide +kernel
theorem dX6_ahead_18 : decode cX6_ahead 18 = .ok (.iload_n 3, 1) := by decide +kernel
theorem dX6_ahead_19 : decode cX6_ahead 19 = .ok (.iconst 0, 1) := by decide +kernel
theorem dX6_ahead_20 : decode cX6_ahead 20 = .ok (.iconst 1, 1) := by decide +kernel
theorem dX6_ahead_21 : decode cX6_ahead 21 = .ok (.invokestatic 50, 3) := by decide +kernel
theorem dX6_ahead_24 : decode cX6_ahead 24 = .ok (.ifCond .eq 8, 3) := by decide +kernel
theorem dX6_ahead_27 : decode cX6_ahead 27 = .ok (.iload_n 1, 1) := by decide +kernel
theorem dX6_ahead_28 : decode cX6_ahead 28 = .ok (.iload_n 2, 1) := by decide +kernel
theorem dX6_ahead_29 : decode cX6_ahead 29 = .ok (.if_icmp .ne 6, 3) := by decide +kernel
theorem dX6_ahead_32 : decode cX6_ahead 32 = .ok (.bipush (-2), 2) := by decide +kernel
theorem dX6_ahead_34 : decode cX6_ahead 34 = .ok (.ireturn, 1) := by decide +kernel
theorem dX6_ahead_35 : decode cX6_ahead 35 = .ok (.aload_n 0, 1) := by decide +kernel
theorem dX6_ahead_36 : decode cX6_ahead 36 = .ok (.getfield 7, 3) := by decide +kernel
theorem dX6_ahead_39 : decode cX6_ahead 39 = .ok (.bipush 9, 2) := by decide +kernel
theorem dX6_ahead_41 : decode cX6_ahead 41 = .ok (.iload_n 1, 1) := by decide +kernel
theorem dX6_ahead_42 : decode cX6_ahead 42 = .ok (.iadd, 1) := by decide +kernel
theorem dX6_ahead_43 : decode cX6_ahead 43 = .ok (.iload_n 3, 1) := by decide +kernel
theorem dX6_ahead_44 : decode cX6_ahead 44 = .ok (.iconst 1, 1) := by decide +kernel
theorem dX6_ahead_45 : decode cX6_ahead 45 = .ok (.if_icmp .ne 19, 3) := by decide +kernel
theorem dX6_ahead_48 : decode cX6_ahead 48 = .ok (.aload_n 0, 1) := by decide +kernel
theorem dX6_ahead_49 : decode cX6_ahead 49 = .ok (.getfield 7, 3) := by decide +kernel
theorem dX6_ahead_52 : decode cX6_ahead 52 = .ok (.bipush 9, 2) := by decide +kernel
theorem dX6_ahead_54 : decode cX6_ahead 54 = .ok (.iload_n 1, 1) := by decide +kernel
theorem dX6_ahead_55 : decode cX6_ahead 55 = .ok (.iadd, 1) := by decide +kernel
theorem dX6_ahead_56 : decode cX6_ahead 56 = .ok (.iaload, 1) := by decide +kernel
theorem dX6_ahead_57 : decode cX6_ahead 57 = .ok (.iconst 1, 1) := by decide +kernel
theorem dX6_ahead_58 : decode cX6_ahead 58 = .ok (.iload_n 2, 1) := by decide +kernel
theorem dX6_ahead_59 : decode cX6_ahead 59 = .ok (.ishl, 1) := by decide +kernel
theorem dX6_ahead_60 : decode cX6_ahead 60 = .ok (.ior, 1) := by decide +kernel
theorem dX6_ahead_61 : decode cX6_ahead 61 = .ok (.goto 18, 3) := by decide +kernel
theorem dX6_ahead_64 : decode cX6_ahead 64 = .ok (.aload_n 0, 1) := by decide +kernel
theorem dX6_ahead_65 : decode cX6_ahead 65 = .ok (.getfield 7, 3) := by decide +kernel
theorem dX6_ahead_68 : decode cX6_ahead 68 = .ok (.bipush 9, 2) := by decide +kernel
theorem dX6_ahead_70 : decode cX6_ahead 70 = .ok (.iload_n 1, 1) := by decide +kernel
theorem dX6_ahead_71 : decode cX6_ahead 71 = .ok (.iadd, 1) := by decide +kernel
theorem dX6_ahead_72 : decode cX6_ahead 72 = .ok (.iaload, 1) := by decide +kernel
theorem dX6_ahead_73 : decode cX6_ahead 73 = .ok (.iconst 1, 1) := by decide +kernel
theorem dX6_ahead_74 : decode cX6_ahead 74 = .ok (.iload_n 2, 1) := by decide +kernel
theorem dX6_ahead_75 : decode cX6_ahead 75 = .ok (.ishl, 1) := by decide +kernel
theorem dX6_ahead_76 : decode cX6_ahead 76 = .ok (.iconst (-1), 1) := by decide +kernel
theorem dX6_ahead_77 : decode cX6_ahead 77 = .ok (.ixor, 1) := by decide +kernel
theorem dX6_ahead_78 : decode cX6_ahead 78 = .ok (.iand, 1) := by decide +kernel
theorem dX6_ahead_79 : decode cX6_ahead 79 = .ok (.iastore, 1) := by decide +kernel
theorem dX6_ahead_80 : decode cX6_ahead 80 = .ok (.aload_n 0, 1) := by decide +kernel
theorem dX6_ahead_81 : decode cX6_ahead 81 = .ok (.iconst 0, 1) := by decide +kernel
theorem dX6_ahead_82 : decode cX6_ahead 82 = .ok (.putfield 54, 3) := by decide +kernel
theorem dX6_ahead_85 : decode cX6_ahead 85 = .ok (.aload_n 0, 1) := by decide +kernel
theorem dX6_ahead_86 : decode cX6_ahead 86 = .ok (.invokevirtual 69, 3) := by decide +kernel
theorem dX6_ahead_89 : decode cX6_ahead 89 = .ok (.ireturn, 1) := by decide +kernel
theorem dX6_placeInRow_0 : decode cX6_placeInRow 0 = .ok (.bipush (-6), 2) := by decide +kernel
theorem dX6_placeInRow_2 : decode cX6_placeInRow 2 = .ok (.istore_n 2, 1) := by decide +kernel
theorem dX6_placeInRow_3 : decode cX6_placeInRow 3 = .ok (.iconst 0, 1) := by decide +kernel
theorem dX6_placeInRow_4 : decode cX6_placeInRow 4 = .ok (.istore_n 3, 1) := by decide +kernel
theorem dX6_placeInRow_5 : decode cX6_placeInRow 5 = .ok (.iload_n 3, 1) := by decide +kernel
theorem dX6_placeInRow_6 : decode cX6_placeInRow 6 = .ok (.aload_n 0, 1) := by decide +kernel
theorem dX6_placeInRow_7 : decode cX6_placeInRow 7 = .ok (.getfield 7, 3) := by decide +kernel
theorem dX6_placeInRow_10 : decode cX6_placeInRow 10 = .ok (.iconst 0, 1) := by decide +kernel
theorem dX6_placeInRow_11 : decode cX6_placeInRow 11 = .ok (.iaload, 1) := by decide +kernel
theorem dX6_placeInRow_12 : decode cX6_placeInRow 12 = .ok (.if_icmp .ge 28, 3) := by decide +kernel
theorem dX6_placeInRow_15 : decode cX6_placeInRow 15 = .ok (.aload_n 0, 1) := by decide +kernel
theorem dX6_placeInRow_16 : decode cX6_placeInRow 16 = .ok (.getfield 7, 3) := by decide +kernel
theorem dX6_placeInRow_19 : decode cX6_placeInRow 19 = .ok (.bipush 17, 2) := by decide +kernel
theorem dX6_placeInRow_21 : decode cX6_placeInRow 21 = .ok (.iload_n 3, 1) := by decide +kernel
theorem dX6_placeInRow_22 : decode cX6_placeInRow 22 = .ok (.iadd, 1) := by decide +kernel
theorem dX6_placeInRow_23 : decode cX6_placeInRow 23 = .ok (.iaload, 1) := by decide +kernel
theorem dX6_placeInRow_24 : decode cX6_placeInRow 24 = .ok (.iload_n 1, 1) := by decide +kernel
theorem dX6_placeInRow_25 : decode cX6_placeInRow 25 = .ok (.if_icmp .ne 7, 3) := by decide +kernel
theorem dX6_placeInRow_28 : decode cX6_placeInRow 28 = .ok (.iload_n 3, 1) := by decide +kernel
theorem dX6_placeInRow_29 : decode cX6_placeInRow 29 = .ok (.goto 4, 3) := by decide +kernel
theorem dX6_placeInRow_32 : decode cX6_placeInRow 32 = .ok (.iload_n 2, 1) := by decide +kernel
theorem dX6_placeInRow_33 : decode cX6_placeInRow 33 = .ok (.istore_n 2, 1) := by decide +kernel
theorem dX6_placeInRow_34 : decode cX6_placeInRow 34 = .ok (.iinc 3 1, 3) := by decide +kernel
theorem dX6_placeInRow_37 : decode cX6_placeInRow 37 = .ok (.goto (-32), 3) := by decide +kernel
theorem dX6_placeInRow_40 : decode cX6_placeInRow 40 = .ok (.iload_n 2, 1) := by decide +kernel
theorem dX6_placeInRow_41 : decode cX6_placeInRow 41 = .ok (.ireturn, 1) := by decide +kernel
theorem dX6_grave_0 : decode cX6_grave 0 = .ok (.aload_n 0, 1) := by decide +kernel
theorem dX6_grave_1 : decode cX6_grave 1 = .ok (.iload_n 1, 1) := by decide +kernel
theorem dX6_grave_2 : decode cX6_grave 2 = .ok (.invokevirtual 58, 3) := by decide +kernel
theorem dX6_grave_5 : decode cX6_grave 5 = .ok (.ifCond .ne 5, 3) := by decide +kernel
theorem dX6_grave_8 : decode cX6_grave 8 = .ok (.iconst (-1), 1) := by decide +kernel
theorem dX6_grave_9 : decode cX6_grave 9 = .ok (.ireturn, 1) := by decide +kernel
theorem dX6_grave_10 : decode cX6_grave 10 = .ok (.iload_n 2, 1) := by decide +kernel
theorem dX6_grave_11 : decode cX6_grave 11 = .ok (.iconst 0, 1) := by decide +kernel
theorem dX6_grave_12 : decode cX6_grave 12 = .ok (.iconst 3, 1) := by decide +kernel
theorem dX6_grave_13 : decode cX6_grave 13 = .ok (.invokestatic 50, 3) := by decide +kernel
theorem dX6_grave_16 : decode cX6_grave 16 = .ok (.ifCond .ne 6, 3) := by decide +kernel
theorem dX6_grave_19 : decode cX6_grave 19 = .ok (.bipush (-2), 2) := by decide +kernel
theorem dX6_grave_21 : decode cX6_grave 21 = .ok (.ireturn, 1) := by decide +kernel
theorem dX6_grave_22 : decode cX6_grave 22 = .ok (.iconst 0, 1) := by decide +kernel
theorem dX6_grave_23 : decode cX6_grave 23 = .ok (.istore_n 3, 1) := by decide +kernel
theorem dX6_grave_24 : decode cX6_grave 24 = .ok (.iconst 0, 1) := by decide +kernel
theorem dX6_grave_25 : decode cX6_grave 25 = .ok (.istore 4, 2) := by decide +kernel
theorem dX6_grave_27 : decode cX6_grave 27 = .ok (.iload 4, 2) := by decide +kernel
theorem dX6_grave_29 : decode cX6_grave 29 = .ok (.aload_n 0, 1) := by decide +kernel
theorem dX6_grave_30 : decode cX6_grave 30 = .ok (.getfield 7, 3) := by decide +kernel
theorem dX6_grave_33 : decode cX6_grave 33 = .ok (.iconst 0, 1) := by decide +kernel
theorem dX6_grave_34 : decode cX6_grave 34 = .ok (.iaload, 1) := by decide +kernel
theorem dX6_grave_35 : decode cX6_grave 35 = .ok (.if_icmp .ge 37, 3) := by decide +kernel
theorem dX6_grave_38 : decode cX6_grave 38 = .ok (.iload_n 3, 1) := by decide +kernel
theorem dX6_grave_39 : decode cX6_grave 39 = .ok (.aload_n 0, 1) := by decide +kernel
theorem dX6_grave_40 : decode cX6_grave 40 = .ok (.getfield 7, 3) := by decide +kernel
theorem dX6_grave_43 : decode cX6_grave 43 = .ok (.bipush 9, 2) := by decide +kernel
theorem dX6_grave_45 : decode cX6_grave 45 = .ok (.iload 4, 2) := by decide +kernel
theorem dX6_grave_47 : decode cX6_grave 47 = .ok (.iadd, 1) := by decide +kernel
theorem dX6_grave_48 : decode cX6_grave 48 = .ok (.iaload, 1) := by decide +kernel
theorem dX6_grave_49 : decode cX6_grave 49 = .ok (.iload_n 1, 1) := by decide +kernel
theorem dX6_grave_50 : decode cX6_grave 50 = .ok (.invokestatic 73, 3) := by decide +kernel
theorem dX6_grave_53 : decode cX6_grave 53 = .ok (.ifCond .eq 10, 3) := by decide +kernel
theorem dX6_grave_56 : decode cX6_grave 56 = .ok (.iconst 1, 1) := by decide +kernel
theorem dX6_grave_57 : decode cX6_grave 57 = .ok (.iload 4, 2) := by decide +kernel
theorem dX6_grave_59 : decode cX6_grave 59 = .ok (.ishl, 1) := by decide +kernel
theorem dX6_grave_60 : decode cX6_grave 60 = .ok (.goto 4, 3) := by decide +kernel
theorem dX6_grave_63 : decode cX6_grave 63 = .ok (.iconst 0, 1) := by decide +kernel
theorem dX6_grave_64 : decode cX6_grave 64 = .ok (.ior, 1) := by decide +kernel
theorem dX6_grave_65 : decode cX6_grave 65 = .ok (.istore_n 3, 1) := by decide +kernel
theorem dX6_grave_66 : decode cX6_grave 66 = .ok (.iinc 4 1, 3) := by decide +kernel
theorem dX6_grave_69 : decode cX6_grave 69 = .ok (.goto (-42), 3) := by decide +kernel
theorem dX6_grave_72 : decode cX6_grave 72 = .ok (.iload_n 2, 1) := by decide +kernel
theorem dX6_grave_73 : decode cX6_grave 73 = .ok (.ifCond .ne 14, 3) := by decide +kernel
theorem dX6_grave_76 : decode cX6_grave 76 = .ok (.aload_n 0, 1) := by decide +kernel
theorem dX6_grave_77 : decode cX6_grave 77 = .ok (.getfield 7, 3) := by decide +kernel
theorem dX6_grave_80 : decode cX6_grave 80 = .ok (.iconst 1, 1) := by decide +kernel
theorem dX6_grave_81 : decode cX6_grave 81 = .ok (.iload_n 1, 1) := by decide +kernel
theorem dX6_grave_82 : decode cX6_grave 82 = .ok (.iadd, 1) := by decide +kernel
theorem dX6_grave_83 : decode cX6_grave 83 = .ok (.iaload, 1) := by decide +kernel
theorem dX6_grave_84 : decode cX6_grave 84 = .ok (.goto 34, 3) := by decide +kernel
theorem dX6_grave_87 : decode cX6_grave 87 = .ok (.iload_n 2, 1) := by decide +kernel
theorem dX6_grave_88 : decode cX6_grave 88 = .ok (.iconst 1, 1) := by decide +kernel
theorem dX6_grave_89 : decode cX6_grave 89 = .ok (.if_icmp .ne 15, 3) := by decide +kernel
theorem dX6_grave_92 : decode cX6_grave 92 = .ok (.aload_n 0, 1) := by decide +kernel
theorem dX6_grave_93 : decode cX6_grave 93 = .ok (.getfield 7, 3) := by decide +kernel
theorem dX6_grave_96 : decode cX6_grave 96 = .ok (.bipush 9, 2) := by decide +kernel
theorem dX6_grave_98 : decode cX6_grave 98 = .ok (.iload_n 1, 1) := by decide +kernel
theorem dX6_grave_99 : decode cX6_grave 99 = .ok (.iadd, 1) := by decide +kernel
theorem dX6_grave_100 : decode cX6_grave 100 = .ok (.iaload, 1) := by decide +kernel
theorem dX6_grave_101 : decode cX6_grave 101 = .ok (.goto 17, 3) := by decide +kernel
theorem dX6_grave_104 : decode cX6_grave 104 = .ok (.iload_n 2, 1) := by decide +kernel
theorem dX6_grave_105 : decode cX6_grave 105 = .ok (.iconst 2, 1) := by decide +kernel
theorem dX6_grave_106 : decode cX6_grave 106 = .ok (.if_icmp .ne 7, 3) := by decide +kernel
theorem dX6_grave_109 : decode cX6_grave 109 = .ok (.iload_n 3, 1) := by decide +kernel
theorem dX6_grave_110 : decode cX6_grave 110 = .ok (.goto 8, 3) := by decide +kernel
theorem dX6_grave_113 : decode cX6_grave 113 = .ok (.aload_n 0, 1) := by decide +kernel
theorem dX6_grave_114 : decode cX6_grave 114 = .ok (.iload_n 1, 1) := by decide +kernel
theorem dX6_grave_115 : decode cX6_grave 115 = .ok (.invokevirtual 77, 3) := by decide +kernel
theorem dX6_grave_118 : decode cX6_grave 118 = .ok (.ireturn, 1) := by decide +kernel
theorem dX6_alike_0 : decode cX6_alike 0 = .ok (.aload_n 0, 1) := by decide +kernel
theorem dX6_alike_1 : decode cX6_alike 1 = .ok (.iload_n 1, 1) := by decide +kernel
theorem dX6_alike_2 : decode cX6_alike 2 = .ok (.invokevirtual 58, 3) := by decide +kernel
theorem dX6_alike_5 : decode cX6_alike 5 = .ok (.ifCond .eq 34, 3) := by decide +kernel
theorem dX6_alike_8 : decode cX6_alike 8 = .ok (.aload_n 0, 1) := by decide +kernel
theorem dX6_alike_9 : decode cX6_alike 9 = .ok (.iload_n 2, 1) := by decide +kernel
theorem dX6_alike_10 : decode cX6_alike 10 = .ok (.invokevirtual 58, 3) := by decide +kernel
theorem dX6_alike_13 : decode cX6_alike 13 = .ok (.ifCond .eq 26, 3) := by decide +kernel
theorem dX6_alike_16 : decode cX6_alike 16 = .ok (.aload_n 0, 1) := by decide +kernel
theorem dX6_alike_17 : decode cX6_alike 17 = .ok (.getfield 7, 3) := by decide +kernel
theorem dX6_alike_20 : decode cX6_alike 20 = .ok (.iconst 1, 1) := by decide +kernel
theorem dX6_alike_21 : decode cX6_alike 21 = .ok (.iload_n 1, 1) := by decide +kernel
theorem dX6_alike_22 : decode cX6_alike 22 = .ok (.iadd, 1) := by decide +kernel
theorem dX6_alike_23 : decode cX6_alike 23 = .ok (.iaload, 1) := by decide +kernel
theorem dX6_alike_24 : decode cX6_alike 24 = .ok (.aload_n 0, 1) := by decide +kernel
theorem dX6_alike_25 : decode cX6_alike 25 = .ok (.getfield 7, 3) := by decide +kernel
theorem dX6_alike_28 : decode cX6_alike 28 = .ok (.iconst 1, 1) := by decide +kernel
theorem dX6_alike_29 : decode cX6_alike 29 = .ok (.iload_n 2, 1) := by decide +kernel
theorem dX6_alike_30 : decode cX6_alike 30 = .ok (.iadd, 1) := by decide +kernel
theorem dX6_alike_31 : decode cX6_alike 31 = .ok (.iaload, 1) := by decide +kernel
theorem dX6_alike_32 : decode cX6_alike 32 = .ok (.iand, 1) := by decide +kernel
theorem dX6_alike_33 : decode cX6_alike 33 = .ok (.invokestatic 65, 3) := by decide +kernel
theorem dX6_alike_36 : decode cX6_alike 36 = .ok (.goto 4, 3) := by decide +kernel
theorem dX6_alike_39 : decode cX6_alike 39 = .ok (.iconst (-1), 1) := by decide +kernel
theorem dX6_alike_40 : decode cX6_alike 40 = .ok (.ireturn, 1) := by decide +kernel
theorem dX6_breaksOf_0 : decode cX6_breaksOf 0 = .ok (.iconst 0, 1) := by decide +kernel
theorem dX6_breaksOf_1 : decode cX6_breaksOf 1 = .ok (.istore_n 2, 1) := by decide +kernel
theorem dX6_breaksOf_2 : decode cX6_breaksOf 2 = .ok (.iconst 0, 1) := by decide +kernel
theorem dX6_breaksOf_3 : decode cX6_breaksOf 3 = .ok (.istore_n 3, 1) := by decide +kernel
theorem dX6_breaksOf_4 : decode cX6_breaksOf 4 = .ok (.iconst 0, 1) := by decide +kernel
theorem dX6_breaksOf_5 : decode cX6_breaksOf 5 = .ok (.istore 4, 2) := by decide +kernel
theorem dX6_breaksOf_7 : decode cX6_breaksOf 7 = .ok (.iload 4, 2) := by decide +kernel
theorem dX6_breaksOf_9 : decode cX6_breaksOf 9 = .ok (.aload_n 0, 1) := by decide +kernel
theorem dX6_breaksOf_10 : decode cX6_breaksOf 10 = .ok (.getfield 7, 3) := by decide +kernel
theorem dX6_breaksOf_13 : decode cX6_breaksOf 13 = .ok (.iconst 0, 1) := by decide +kernel
theorem dX6_breaksOf_14 : decode cX6_breaksOf 14 = .ok (.iaload, 1) := by decide +kernel
theorem dX6_breaksOf_15 : decode cX6_breaksOf 15 = .ok (.if_icmp .ge 49, 3) := by decide +kernel
theorem dX6_breaksOf_18 : decode cX6_breaksOf 18 = .ok (.aload_n 0, 1) := by decide +kernel
theorem dX6_breaksOf_19 : decode cX6_breaksOf 19 = .ok (.getfield 7, 3) := by decide +kernel
theorem dX6_breaksOf_22 : decode cX6_breaksOf 22 = .ok (.iconst 1, 1) := by decide +kernel
theorem dX6_breaksOf_23 : decode cX6_breaksOf 23 = .ok (.aload_n 0, 1) := by decide +kernel
theorem dX6_breaksOf_24 : decode cX6_breaksOf 24 = .ok (.getfield 20, 3) := by decide +kernel
theorem dX6_breaksOf_27 : decode cX6_breaksOf 27 = .ok (.iload 4, 2) := by decide +kernel
theorem dX6_breaksOf_29 : decode cX6_breaksOf 29 = .ok (.iaload, 1) := by decide +kernel
theorem dX6_breaksOf_30 : decode cX6_breaksOf 30 = .ok (.iadd, 1) := by decide +kernel
theorem dX6_breaksOf_31 : decode cX6_breaksOf 31 = .ok (.iaload, 1) := by decide +kernel
theorem dX6_breaksOf_32 : decode cX6_breaksOf 32 = .ok (.iload_n 1, 1) := by decide +kernel
theorem dX6_breaksOf_33 : decode cX6_breaksOf 33 = .ok (.invokestatic 73, 3) := by decide +kernel
theorem dX6_breaksOf_36 : decode cX6_breaksOf 36 = .ok (.istore 5, 2) := by decide +kernel
theorem dX6_breaksOf_38 : decode cX6_breaksOf 38 = .ok (.iload_n 2, 1) := by decide +kernel
theorem dX6_breaksOf_39 : decode cX6_breaksOf 39 = .ok (.iload 5, 2) := by decide +kernel
theorem dX6_breaksOf_41 : decode cX6_breaksOf 41 = .ok (.ifCond .eq 11, 3) := by decide +kernel
theorem dX6_breaksOf_44 : decode cX6_breaksOf 44 = .ok (.iload_n 3, 1) := by decide +kernel
theorem dX6_breaksOf_45 : decode cX6_breaksOf 45 = .ok (.ifCond .ne 7, 3) := by decide +kernel
theorem dX6_breaksOf_48 : decode cX6_breaksOf 48 = .ok (.iconst 1, 1) := by decide +kernel
theorem dX6_breaksOf_49 : decode cX6_breaksOf 49 = .ok (.goto 4, 3) := by decide +kernel
theorem dX6_breaksOf_52 : decode cX6_breaksOf 52 = .ok (.iconst 0, 1) := by decide +kernel
theorem dX6_breaksOf_53 : decode cX6_breaksOf 53 = .ok (.iadd, 1) := by decide +kernel
theorem dX6_breaksOf_54 : decode cX6_breaksOf 54 = .ok (.istore_n 2, 1) := by decide +kernel
theorem dX6_breaksOf_55 : decode cX6_breaksOf 55 = .ok (.iload 5, 2) := by decide +kernel
theorem dX6_breaksOf_57 : decode cX6_breaksOf 57 = .ok (.istore_n 3, 1) := by decide +kernel
theorem dX6_breaksOf_58 : decode cX6_breaksOf 58 = .ok (.iinc 4 1, 3) := by decide +kernel
theorem dX6_breaksOf_61 : decode cX6_breaksOf 61 = .ok (.goto (-54), 3) := by decide +kernel
theorem dX6_breaksOf_64 : decode cX6_breaksOf 64 = .ok (.iload_n 2, 1) := by decide +kernel
theorem dX6_breaksOf_65 : decode cX6_breaksOf 65 = .ok (.ifCond .ne 7, 3) := by decide +kernel
theorem dX6_breaksOf_68 : decode cX6_breaksOf 68 = .ok (.iconst 0, 1) := by decide +kernel
theorem dX6_breaksOf_69 : decode cX6_breaksOf 69 = .ok (.goto 6, 3) := by decide +kernel
theorem dX6_breaksOf_72 : decode cX6_breaksOf 72 = .ok (.iload_n 2, 1) := by decide +kernel
theorem dX6_breaksOf_73 : decode cX6_breaksOf 73 = .ok (.iconst 1, 1) := by decide +kernel
theorem dX6_breaksOf_74 : decode cX6_breaksOf 74 = .ok (.isub, 1) := by decide +kernel
theorem dX6_breaksOf_75 : decode cX6_breaksOf 75 = .ok (.ireturn, 1) := by decide +kernel
theorem dX6_breaksNow_0 : decode cX6_breaksNow 0 = .ok (.iconst 0, 1) := by decide +kernel
theorem dX6_breaksNow_1 : decode cX6_breaksNow 1 = .ok (.istore_n 1, 1) := by decide +kernel
theorem dX6_breaksNow_2 : decode cX6_breaksNow 2 = .ok (.iconst 0, 1) := by decide +kernel
theorem dX6_breaksNow_3 : decode cX6_breaksNow 3 = .ok (.istore_n 2, 1) := by decide +kernel
theorem dX6_breaksNow_4 : decode cX6_breaksNow 4 = .ok (.iload_n 2, 1) := by decide +kernel
theorem dX6_breaksNow_5 : decode cX6_breaksNow 5 = .ok (.bipush 10, 2) := by decide +kernel
theorem dX6_breaksNow_7 : decode cX6_breaksNow 7 = .ok (.if_icmp .ge 17, 3) := by decide +kernel
theorem dX6_breaksNow_10 : decode cX6_breaksNow 10 = .ok (.iload_n 1, 1) := by decide +kernel
theorem dX6_breaksNow_11 : decode cX6_breaksNow 11 = .ok (.aload_n 0, 1) := by decide +kernel
theorem dX6_breaksNow_12 : decode cX6_breaksNow 12 = .ok (.iload_n 2, 1) := by decide +kernel
theorem dX6_breaksNow_13 : decode cX6_breaksNow 13 = .ok (.invokevirtual 80, 3) := by decide +kernel
theorem dX6_breaksNow_16 : decode cX6_breaksNow 16 = .ok (.iadd, 1) := by decide +kernel
theorem dX6_breaksNow_17 : decode cX6_breaksNow 17 = .ok (.istore_n 1, 1) := by decide +kernel
theorem dX6_breaksNow_18 : decode cX6_breaksNow 18 = .ok (.iinc 2 1, 3) := by decide +kernel
theorem dX6_breaksNow_21 : decode cX6_breaksNow 21 = .ok (.goto (-17), 3) := by decide +kernel
theorem dX6_breaksNow_24 : decode cX6_breaksNow 24 = .ok (.iload_n 1, 1) := by decide +kernel
theorem dX6_breaksNow_25 : decode cX6_breaksNow 25 = .ok (.ireturn, 1) := by decide +kernel
theorem dX6_isAllowed_0 : decode cX6_isAllowed 0 = .ok (.iconst 0, 1) := by decide +kernel
theorem dX6_isAllowed_1 : decode cX6_isAllowed 1 = .ok (.istore_n 1, 1) := by decide +kernel
theorem dX6_isAllowed_2 : decode cX6_isAllowed 2 = .ok (.iconst 0, 1) := by decide +kernel
theorem dX6_isAllowed_3 : decode cX6_isAllowed 3 = .ok (.istore_n 2, 1) := by decide +kernel
theorem dX6_isAllowed_4 : decode cX6_isAllowed 4 = .ok (.iload_n 2, 1) := by decide +kernel
theorem dX6_isAllowed_5 : decode cX6_isAllowed 5 = .ok (.aload_n 0, 1) := by decide +kernel
theorem dX6_isAllowed_6 : decode cX6_isAllowed 6 = .ok (.getfield 7, 3) := by decide +kernel
theorem dX6_isAllowed_9 : decode cX6_isAllowed 9 = .ok (.iconst 0, 1) := by decide +kernel
theorem dX6_isAllowed_10 : decode cX6_isAllowed 10 = .ok (.iaload, 1) := by decide +kernel
theorem dX6_isAllowed_11 : decode cX6_isAllowed 11 = .ok (.if_icmp .ge 41, 3) := by decide +kernel
theorem dX6_isAllowed_14 : decode cX6_isAllowed 14 = .ok (.aload_n 0, 1) := by decide +kernel
theorem dX6_isAllowed_15 : decode cX6_isAllowed 15 = .ok (.getfield 7, 3) := by decide +kernel
theorem dX6_isAllowed_18 : decode cX6_isAllowed 18 = .ok (.bipush 9, 2) := by decide +kernel
theorem dX6_isAllowed_20 : decode cX6_isAllowed 20 = .ok (.aload_n 0, 1) := by decide +kernel
theorem dX6_isAllowed_21 : decode cX6_isAllowed 21 = .ok (.getfield 20, 3) := by decide +kernel
theorem dX6_isAllowed_24 : decode cX6_isAllowed 24 = .ok (.iload_n 2, 1) := by decide +kernel
theorem dX6_isAllowed_25 : decode cX6_isAllowed 25 = .ok (.iaload, 1) := by decide +kernel
theorem dX6_isAllowed_26 : decode cX6_isAllowed 26 = .ok (.iadd, 1) := by decide +kernel
theorem dX6_isAllowed_27 : decode cX6_isAllowed 27 = .ok (.iaload, 1) := by decide +kernel
theorem dX6_isAllowed_28 : decode cX6_isAllowed 28 = .ok (.iload_n 1, 1) := by decide +kernel
theorem dX6_isAllowed_29 : decode cX6_isAllowed 29 = .ok (.iand, 1) := by decide +kernel
theorem dX6_isAllowed_30 : decode cX6_isAllowed 30 = .ok (.ifCond .eq 5, 3) := by decide +kernel
theorem dX6_isAllowed_33 : decode cX6_isAllowed 33 = .ok (.iconst 0, 1) := by decide +kernel
theorem dX6_isAllowed_34 : decode cX6_isAllowed 34 = .ok (.ireturn, 1) := by decide +kernel
theorem dX6_isAllowed_35 : decode cX6_isAllowed 35 = .ok (.iload_n 1, 1) := by decide +kernel
theorem dX6_isAllowed_36 : decode cX6_isAllowed 36 = .ok (.iconst 1, 1) := by decide +kernel
theorem dX6_isAllowed_37 : decode cX6_isAllowed 37 = .ok (.aload_n 0, 1) := by decide +kernel
theorem dX6_isAllowed_38 : decode cX6_isAllowed 38 = .ok (.getfield 20, 3) := by decide +kernel
theorem dX6_isAllowed_41 : decode cX6_isAllowed 41 = .ok (.iload_n 2, 1) := by decide +kernel
theorem dX6_isAllowed_42 : decode cX6_isAllowed 42 = .ok (.iaload, 1) := by decide +kernel
theorem dX6_isAllowed_43 : decode cX6_isAllowed 43 = .ok (.ishl, 1) := by decide +kernel
theorem dX6_isAllowed_44 : decode cX6_isAllowed 44 = .ok (.ior, 1) := by decide +kernel
theorem dX6_isAllowed_45 : decode cX6_isAllowed 45 = .ok (.istore_n 1, 1) := by decide +kernel
theorem dX6_isAllowed_46 : decode cX6_isAllowed 46 = .ok (.iinc 2 1, 3) := by decide +kernel
theorem dX6_isAllowed_49 : decode cX6_isAllowed 49 = .ok (.goto (-45), 3) := by decide +kernel
theorem dX6_isAllowed_52 : decode cX6_isAllowed 52 = .ok (.iconst 1, 1) := by decide +kernel
theorem dX6_isAllowed_53 : decode cX6_isAllowed 53 = .ok (.ireturn, 1) := by decide +kernel
theorem dX6_takeRow_0 : decode cX6_takeRow 0 = .ok (.iconst 0, 1) := by decide +kernel
theorem dX6_takeRow_1 : decode cX6_takeRow 1 = .ok (.istore_n 1, 1) := by decide +kernel
theorem dX6_takeRow_2 : decode cX6_takeRow 2 = .ok (.iload_n 1, 1) := by decide +kernel
theorem dX6_takeRow_3 : decode cX6_takeRow 3 = .ok (.bipush 8, 2) := by decide +kernel
theorem dX6_takeRow_5 : decode cX6_takeRow 5 = .ok (.if_icmp .ge 24, 3) := by decide +kernel
theorem dX6_takeRow_8 : decode cX6_takeRow 8 = .ok (.aload_n 0, 1) := by decide +kernel
theorem dX6_takeRow_9 : decode cX6_takeRow 9 = .ok (.getfield 20, 3) := by decide +kernel
theorem dX6_takeRow_12 : decode cX6_takeRow 12 = .ok (.iload_n 1, 1) := by decide +kernel
theorem dX6_takeRow_13 : decode cX6_takeRow 13 = .ok (.aload_n 0, 1) := by decide +kernel
theorem dX6_takeRow_14 : decode cX6_takeRow 14 = .ok (.getfield 7, 3) := by decide +kernel
theorem dX6_takeRow_17 : decode cX6_takeRow 17 = .ok (.bipush 17, 2) := by decide +kernel
theorem dX6_takeRow_19 : decode cX6_takeRow 19 = .ok (.iload_n 1, 1) := by decide +kernel
theorem dX6_takeRow_20 : decode cX6_takeRow 20 = .ok (.iadd, 1) := by decide +kernel
theorem dX6_takeRow_21 : decode cX6_takeRow 21 = .ok (.iaload, 1) := by decide +kernel
theorem dX6_takeRow_22 : decode cX6_takeRow 22 = .ok (.iastore, 1) := by decide +kernel
theorem dX6_takeRow_23 : decode cX6_takeRow 23 = .ok (.iinc 1 1, 3) := by decide +kernel
theorem dX6_takeRow_26 : decode cX6_takeRow 26 = .ok (.goto (-24), 3) := by decide +kernel
theorem dX6_takeRow_29 : decode cX6_takeRow 29 = .ok (.return_, 1) := by decide +kernel
theorem dX6_begin_0 : decode cX6_begin 0 = .ok (.iconst 0, 1) := by decide +kernel
theorem dX6_begin_1 : decode cX6_begin 1 = .ok (.istore_n 1, 1) := by decide +kernel
theorem dX6_begin_2 : decode cX6_begin 2 = .ok (.iload_n 1, 1) := by decide +kernel
theorem dX6_begin_3 : decode cX6_begin 3 = .ok (.bipush 8, 2) := by decide +kernel
theorem dX6_begin_5 : decode cX6_begin 5 = .ok (.if_icmp .ge 16, 3) := by decide +kernel
theorem dX6_begin_8 : decode cX6_begin 8 = .ok (.aload_n 0, 1) := by decide +kernel
theorem dX6_begin_9 : decode cX6_begin 9 = .ok (.getfield 20, 3) := by decide +kernel
theorem dX6_begin_12 : decode cX6_begin 12 = .ok (.iload_n 1, 1) := by decide +kernel
theorem dX6_begin_13 : decode cX6_begin 13 = .ok (.iload_n 1, 1) := by decide +kernel
theorem dX6_begin_14 : decode cX6_begin 14 = .ok (.iastore, 1) := by decide +kernel
theorem dX6_begin_15 : decode cX6_begin 15 = .ok (.iinc 1 1, 3) := by decide +kernel
theorem dX6_begin_18 : decode cX6_begin 18 = .ok (.goto (-16), 3) := by decide +kernel
theorem dX6_begin_21 : decode cX6_begin 21 = .ok (.return_, 1) := by decide +kernel
theorem dX6_change_0 : decode cX6_change 0 = .ok (.aload_n 0, 1) := by decide +kernel
theorem dX6_change_1 : decode cX6_change 1 = .ok (.getfield 20, 3) := by decide +kernel
theorem dX6_change_4 : decode cX6_change 4 = .ok (.iload_n 1, 1) := by decide +kernel
theorem dX6_change_5 : decode cX6_change 5 = .ok (.iaload, 1) := by decide +kernel
theorem dX6_change_6 : decode cX6_change 6 = .ok (.istore_n 3, 1) := by decide +kernel
theorem dX6_change_7 : decode cX6_change 7 = .ok (.aload_n 0, 1) := by decide +kernel
theorem dX6_change_8 : decode cX6_change 8 = .ok (.getfield 20, 3) := by decide +kernel
theorem dX6_change_11 : decode cX6_change 11 = .ok (.iload_n 1, 1) := by decide +kernel
theorem dX6_change_12 : decode cX6_change 12 = .ok (.aload_n 0, 1) := by decide +kernel
theorem dX6_change_13 : decode cX6_change 13 = .ok (.getfield 20, 3) := by decide +kernel
theorem dX6_change_16 : decode cX6_change 16 = .ok (.iload_n 2, 1) := by decide +kernel
theorem dX6_change_17 : decode cX6_change 17 = .ok (.iaload, 1) := by decide +kernel
theorem dX6_change_18 : decode cX6_change 18 = .ok (.iastore, 1) := by decide +kernel
theorem dX6_change_19 : decode cX6_change 19 = .ok (.aload_n 0, 1) := by decide +kernel
theorem dX6_change_20 : decode cX6_change 20 = .ok (.getfield 20, 3) := by decide +kernel
theorem dX6_change_23 : decode cX6_change 23 = .ok (.iload_n 2, 1) := by decide +kernel
theorem dX6_change_24 : decode cX6_change 24 = .ok (.iload_n 3, 1) := by decide +kernel
theorem dX6_change_25 : decode cX6_change 25 = .ok (.iastore, 1) := by decide +kernel
theorem dX6_change_26 : decode cX6_change 26 = .ok (.return_, 1) := by decide +kernel
theorem dX6_goOn_0 : decode cX6_goOn 0 = .ok (.aload_n 0, 1) := by decide +kernel
theorem dX6_goOn_1 : decode cX6_goOn 1 = .ok (.getfield 7, 3) := by decide +kernel
theorem dX6_goOn_4 : decode cX6_goOn 4 = .ok (.iconst 0, 1) := by decide +kernel
theorem dX6_goOn_5 : decode cX6_goOn 5 = .ok (.iaload, 1) := by decide +kernel
theorem dX6_goOn_6 : decode cX6_goOn 6 = .ok (.iconst 1, 1) := by decide +kernel
theorem dX6_goOn_7 : decode cX6_goOn 7 = .ok (.isub, 1) := by decide +kernel
theorem dX6_goOn_8 : decode cX6_goOn 8 = .ok (.istore_n 1, 1) := by decide +kernel
theorem dX6_goOn_9 : decode cX6_goOn 9 = .ok (.iload_n 1, 1) := by decide +kernel
theorem dX6_goOn_10 : decode cX6_goOn 10 = .ok (.iconst 1, 1) := by decide +kernel
theorem dX6_goOn_11 : decode cX6_goOn 11 = .ok (.isub, 1) := by decide +kernel
theorem dX6_goOn_12 : decode cX6_goOn 12 = .ok (.istore_n 2, 1) := by decide +kernel
theorem dX6_goOn_13 : decode cX6_goOn 13 = .ok (.iload_n 2, 1) := by decide +kernel
theorem dX6_goOn_14 : decode cX6_goOn 14 = .ok (.ifCond .lt 26, 3) := by decide +kernel
theorem dX6_goOn_17 : decode cX6_goOn 17 = .ok (.aload_n 0, 1) := by decide +kernel
theorem dX6_goOn_18 : decode cX6_goOn 18 = .ok (.getfield 20, 3) := by decide +kernel
theorem dX6_goOn_21 : decode cX6_goOn 21 = .ok (.iload_n 2, 1) := by decide +kernel
theorem dX6_goOn_22 : decode cX6_goOn 22 = .ok (.iaload, 1) := by decide +kernel
theorem dX6_goOn_23 : decode cX6_goOn 23 = .ok (.aload_n 0, 1) := by decide +kernel
theorem dX6_goOn_24 : decode cX6_goOn 24 = .ok (.getfield 20, 3) := by decide +kernel
theorem dX6_goOn_27 : decode cX6_goOn 27 = .ok (.iload_n 2, 1) := by decide +kernel
theorem dX6_goOn_28 : decode cX6_goOn 28 = .ok (.iconst 1, 1) := by decide +kernel
theorem dX6_goOn_29 : decode cX6_goOn 29 = .ok (.iadd, 1) := by decide +kernel
theorem dX6_goOn_30 : decode cX6_goOn 30 = .ok (.iaload, 1) := by decide +kernel
theorem dX6_goOn_31 : decode cX6_goOn 31 = .ok (.if_icmp .le 9, 3) := by decide +kernel
theorem dX6_goOn_34 : decode cX6_goOn 34 = .ok (.iinc 2 (-1), 3) := by decide +kernel
theorem dX6_goOn_37 : decode cX6_goOn 37 = .ok (.goto (-24), 3) := by decide +kernel
theorem dX6_goOn_40 : decode cX6_goOn 40 = .ok (.iload_n 2, 1) := by decide +kernel
theorem dX6_goOn_41 : decode cX6_goOn 41 = .ok (.ifCond .ge 5, 3) := by decide +kernel
theorem dX6_goOn_44 : decode cX6_goOn 44 = .ok (.iconst 0, 1) := by decide +kernel
theorem dX6_goOn_45 : decode cX6_goOn 45 = .ok (.ireturn, 1) := by decide +kernel
theorem dX6_goOn_46 : decode cX6_goOn 46 = .ok (.iload_n 1, 1) := by decide +kernel
theorem dX6_goOn_47 : decode cX6_goOn 47 = .ok (.istore_n 3, 1) := by decide +kernel
theorem dX6_goOn_48 : decode cX6_goOn 48 = .ok (.aload_n 0, 1) := by decide +kernel
theorem dX6_goOn_49 : decode cX6_goOn 49 = .ok (.getfield 20, 3) := by decide +kernel
theorem dX6_goOn_52 : decode cX6_goOn 52 = .ok (.iload_n 3, 1) := by decide +kernel
theorem dX6_goOn_53 : decode cX6_goOn 53 = .ok (.iaload, 1) := by decide +kernel
theorem dX6_goOn_54 : decode cX6_goOn 54 = .ok (.aload_n 0, 1) := by decide +kernel
theorem dX6_goOn_55 : decode cX6_goOn 55 = .ok (.getfield 20, 3) := by decide +kernel
theorem dX6_goOn_58 : decode cX6_goOn 58 = .ok (.iload_n 2, 1) := by decide +kernel
theorem dX6_goOn_59 : decode cX6_goOn 59 = .ok (.iaload, 1) := by decide +kernel
theorem dX6_goOn_60 : decode cX6_goOn 60 = .ok (.if_icmp .ge 9, 3) := by decide +kernel
theorem dX6_goOn_63 : decode cX6_goOn 63 = .ok (.iinc 3 (-1), 3) := by decide +kernel
theorem dX6_goOn_66 : decode cX6_goOn 66 = .ok (.goto (-18), 3) := by decide +kernel
theorem dX6_goOn_69 : decode cX6_goOn 69 = .ok (.aload_n 0, 1) := by decide +kernel
theorem dX6_goOn_70 : decode cX6_goOn 70 = .ok (.iload_n 2, 1) := by decide +kernel
theorem dX6_goOn_71 : decode cX6_goOn 71 = .ok (.iload_n 3, 1) := by decide +kernel
theorem dX6_goOn_72 : decode cX6_goOn 72 = .ok (.invokevirtual 83, 3) := by decide +kernel
theorem dX6_goOn_75 : decode cX6_goOn 75 = .ok (.iload_n 2, 1) := by decide +kernel
theorem dX6_goOn_76 : decode cX6_goOn 76 = .ok (.iconst 1, 1) := by decide +kernel
theorem dX6_goOn_77 : decode cX6_goOn 77 = .ok (.iadd, 1) := by decide +kernel
theorem dX6_goOn_78 : decode cX6_goOn 78 = .ok (.istore 4, 2) := by decide +kernel
theorem dX6_goOn_80 : decode cX6_goOn 80 = .ok (.iload_n 1, 1) := by decide +kernel
theorem dX6_goOn_81 : decode cX6_goOn 81 = .ok (.istore 5, 2) := by decide +kernel
theorem dX6_goOn_83 : decode cX6_goOn 83 = .ok (.iload 4, 2) := by decide +kernel
theorem dX6_goOn_85 : decode cX6_goOn 85 = .ok (.iload 5, 2) := by decide +kernel
theorem dX6_goOn_87 : decode cX6_goOn 87 = .ok (.if_icmp .ge 20, 3) := by decide +kernel
theorem dX6_goOn_90 : decode cX6_goOn 90 = .ok (.aload_n 0, 1) := by decide +kernel
theorem dX6_goOn_91 : decode cX6_goOn 91 = .ok (.iload 4, 2) := by decide +kernel
theorem dX6_goOn_93 : decode cX6_goOn 93 = .ok (.iload 5, 2) := by decide +kernel
theorem dX6_goOn_95 : decode cX6_goOn 95 = .ok (.invokevirtual 83, 3) := by decide +kernel
theorem dX6_goOn_98 : decode cX6_goOn 98 = .ok (.iinc 4 1, 3) := by decide +kernel
theorem dX6_goOn_101 : decode cX6_goOn 101 = .ok (.iinc 5 (-1), 3) := by decide +kernel
theorem dX6_goOn_104 : decode cX6_goOn 104 = .ok (.goto (-21), 3) := by decide +kernel
theorem dX6_goOn_107 : decode cX6_goOn 107 = .ok (.iconst 1, 1) := by decide +kernel
theorem dX6_goOn_108 : decode cX6_goOn 108 = .ok (.ireturn, 1) := by decide +kernel
theorem dX6_layFewest_0 : decode cX6_layFewest 0 = .ok (.aload_n 0, 1) := by decide +kernel
theorem dX6_layFewest_1 : decode cX6_layFewest 1 = .ok (.getfield 54, 3) := by decide +kernel
theorem dX6_layFewest_4 : decode cX6_layFewest 4 = .ok (.ifCond .eq 4, 3) := by decide +kernel
theorem dX6_layFewest_7 : decode cX6_layFewest 7 = .ok (.return_, 1) := by decide +kernel
theorem dX6_layFewest_8 : decode cX6_layFewest 8 = .ok (.aload_n 0, 1) := by decide +kernel
theorem dX6_layFewest_9 : decode cX6_layFewest 9 = .ok (.iconst 1, 1) := by decide +kernel
theorem dX6_layFewest_10 : decode cX6_layFewest 10 = .ok (.putfield 54, 3) := by decide +kernel
theorem dX6_layFewest_13 : decode cX6_layFewest 13 = .ok (.aload_n 0, 1) := by decide +kernel
theorem dX6_layFewest_14 : decode cX6_layFewest 14 = .ok (.bipush (-6), 2) := by decide +kernel
theorem dX6_layFewest_16 : decode cX6_layFewest 16 = .ok (.putfield 87, 3) := by decide +kernel
theorem dX6_layFewest_19 : decode cX6_layFewest 19 = .ok (.aload_n 0, 1) := by decide +kernel
theorem dX6_layFewest_20 : decode cX6_layFewest 20 = .ok (.invokevirtual 91, 3) := by decide +kernel
theorem dX6_layFewest_23 : decode cX6_layFewest 23 = .ok (.iconst 1, 1) := by decide +kernel
theorem dX6_layFewest_24 : decode cX6_layFewest 24 = .ok (.istore_n 1, 1) := by decide +kernel
theorem dX6_layFewest_25 : decode cX6_layFewest 25 = .ok (.iload_n 1, 1) := by decide +kernel
theorem dX6_layFewest_26 : decode cX6_layFewest 26 = .ok (.ifCond .eq 50, 3) := by decide +kernel
theorem dX6_layFewest_29 : decode cX6_layFewest 29 = .ok (.aload_n 0, 1) := by decide +kernel
theorem dX6_layFewest_30 : decode cX6_layFewest 30 = .ok (.invokevirtual 94, 3) := by decide +kernel
theorem dX6_layFewest_33 : decode cX6_layFewest 33 = .ok (.ifCond .eq 35, 3) := by decide +kernel
theorem dX6_layFewest_36 : decode cX6_layFewest 36 = .ok (.aload_n 0, 1) := by decide +kernel
theorem dX6_layFewest_37 : decode cX6_layFewest 37 = .ok (.invokevirtual 98, 3) := by decide +kernel
theorem dX6_layFewest_40 : decode cX6_layFewest 40 = .ok (.istore_n 2, 1) := by decide +kernel
theorem dX6_layFewest_41 : decode cX6_layFewest 41 = .ok (.aload_n 0, 1) := by decide +kernel
theorem dX6_layFewest_42 : decode cX6_layFewest 42 = .ok (.aload_n 0, 1) := by decide +kernel
theorem dX6_layFewest_43 : decode cX6_layFewest 43 = .ok (.getfield 87, 3) := by decide +kernel
theorem dX6_layFewest_46 : decode cX6_layFewest 46 = .ok (.ifCond .lt 11, 3) := by decide +kernel
theorem dX6_layFewest_49 : decode cX6_layFewest 49 = .ok (.iload_n 2, 1) := by decide +kernel
theorem dX6_layFewest_50 : decode cX6_layFewest 50 = .ok (.aload_n 0, 1) := by decide +kernel
theorem dX6_layFewest_51 : decode cX6_layFewest 51 = .ok (.getfield 87, 3) := by decide +kernel
theorem dX6_layFewest_54 : decode cX6_layFewest 54 = .ok (.if_icmp .ge 7, 3) := by decide +kernel
theorem dX6_layFewest_57 : decode cX6_layFewest 57 = .ok (.iload_n 2, 1) := by decide +kernel
theorem dX6_layFewest_58 : decode cX6_layFewest 58 = .ok (.goto 7, 3) := by decide +kernel
theorem dX6_layFewest_61 : decode cX6_layFewest 61 = .ok (.aload_n 0, 1) := by decide +kernel
theorem dX6_layFewest_62 : decode cX6_layFewest 62 = .ok (.getfield 87, 3) := by decide +kernel
theorem dX6_layFewest_65 : decode cX6_layFewest 65 = .ok (.putfield 87, 3) := by decide +kernel
theorem dX6_layFewest_68 : decode cX6_layFewest 68 = .ok (.aload_n 0, 1) := by decide +kernel
theorem dX6_layFewest_69 : decode cX6_layFewest 69 = .ok (.invokevirtual 101, 3) := by decide +kernel
theorem dX6_layFewest_72 : decode cX6_layFewest 72 = .ok (.istore_n 1, 1) := by decide +kernel
theorem dX6_layFewest_73 : decode cX6_layFewest 73 = .ok (.goto (-48), 3) := by decide +kernel
theorem dX6_layFewest_76 : decode cX6_layFewest 76 = .ok (.return_, 1) := by decide +kernel
theorem dX6_isBest_0 : decode cX6_isBest 0 = .ok (.aload_n 0, 1) := by decide +kernel
theorem dX6_isBest_1 : decode cX6_isBest 1 = .ok (.getfield 87, 3) := by decide +kernel
theorem dX6_isBest_4 : decode cX6_isBest 4 = .ok (.ifCond .lt 25, 3) := by decide +kernel
theorem dX6_isBest_7 : decode cX6_isBest 7 = .ok (.aload_n 0, 1) := by decide +kernel
theorem dX6_isBest_8 : decode cX6_isBest 8 = .ok (.invokevirtual 94, 3) := by decide +kernel
theorem dX6_isBest_11 : decode cX6_isBest 11 = .ok (.ifCond .eq 18, 3) := by decide +kernel
theorem dX6_isBest_14 : decode cX6_isBest 14 = .ok (.aload_n 0, 1) := by decide +kernel
theorem dX6_isBest_15 : decode cX6_isBest 15 = .ok (.invokevirtual 98, 3) := by decide +kernel
theorem dX6_isBest_18 : decode cX6_isBest 18 = .ok (.aload_n 0, 1) := by decide +kernel
theorem dX6_isBest_19 : decode cX6_isBest 19 = .ok (.getfield 87, 3) := by decide +kernel
theorem dX6_isBest_22 : decode cX6_isBest 22 = .ok (.if_icmp .ne 7, 3) := by decide +kernel
theorem dX6_isBest_25 : decode cX6_isBest 25 = .ok (.iconst 1, 1) := by decide +kernel
theorem dX6_isBest_26 : decode cX6_isBest 26 = .ok (.goto 4, 3) := by decide +kernel
theorem dX6_isBest_29 : decode cX6_isBest 29 = .ok (.iconst 0, 1) := by decide +kernel
theorem dX6_isBest_30 : decode cX6_isBest 30 = .ok (.ireturn, 1) := by decide +kernel
theorem dX6_least_0 : decode cX6_least 0 = .ok (.aload_n 0, 1) := by decide +kernel
theorem dX6_least_1 : decode cX6_least 1 = .ok (.invokevirtual 104, 3) := by decide +kernel
theorem dX6_least_4 : decode cX6_least 4 = .ok (.aload_n 0, 1) := by decide +kernel
theorem dX6_least_5 : decode cX6_least 5 = .ok (.getfield 87, 3) := by decide +kernel
theorem dX6_least_8 : decode cX6_least 8 = .ok (.ireturn, 1) := by decide +kernel
theorem dX6_placeOf_0 : decode cX6_placeOf 0 = .ok (.iconst 0, 1) := by decide +kernel
theorem dX6_placeOf_1 : decode cX6_placeOf 1 = .ok (.istore_n 2, 1) := by decide +kernel
theorem dX6_placeOf_2 : decode cX6_placeOf 2 = .ok (.aload_n 0, 1) := by decide +kernel
theorem dX6_placeOf_3 : decode cX6_placeOf 3 = .ok (.getfield 20, 3) := by decide +kernel
theorem dX6_placeOf_6 : decode cX6_placeOf 6 = .ok (.iload_n 2, 1) := by decide +kernel
theorem dX6_placeOf_7 : decode cX6_placeOf 7 = .ok (.iaload, 1) := by decide +kernel
theorem dX6_placeOf_8 : decode cX6_placeOf 8 = .ok (.iload_n 1, 1) := by decide +kernel
theorem dX6_placeOf_9 : decode cX6_placeOf 9 = .ok (.if_icmp .eq 9, 3) := by decide +kernel
theorem dX6_placeOf_12 : decode cX6_placeOf 12 = .ok (.iinc 2 1, 3) := by decide +kernel
theorem dX6_placeOf_15 : decode cX6_placeOf 15 = .ok (.goto (-13), 3) := by decide +kernel
theorem dX6_placeOf_18 : decode cX6_placeOf 18 = .ok (.iload_n 2, 1) := by decide +kernel
theorem dX6_placeOf_19 : decode cX6_placeOf 19 = .ok (.ireturn, 1) := by decide +kernel
theorem dX6_isTogether_0 : decode cX6_isTogether 0 = .ok (.bipush (-6), 2) := by decide +kernel
theorem dX6_isTogether_2 : decode cX6_isTogether 2 = .ok (.istore_n 2, 1) := by decide +kernel
theorem dX6_isTogether_3 : decode cX6_isTogether 3 = .ok (.bipush (-6), 2) := by decide +kernel
theorem dX6_isTogether_5 : decode cX6_isTogether 5 = .ok (.istore_n 3, 1) := by decide +kernel
theorem dX6_isTogether_6 : decode cX6_isTogether 6 = .ok (.iconst 0, 1) := by decide +kernel
theorem dX6_isTogether_7 : decode cX6_isTogether 7 = .ok (.istore 4, 2) := by decide +kernel
theorem dX6_isTogether_9 : decode cX6_isTogether 9 = .ok (.iload 4, 2) := by decide +kernel
theorem dX6_isTogether_11 : decode cX6_isTogether 11 = .ok (.aload_n 0, 1) := by decide +kernel
theorem dX6_isTogether_12 : decode cX6_isTogether 12 = .ok (.getfield 7, 3) := by decide +kernel
theorem dX6_isTogether_15 : decode cX6_isTogether 15 = .ok (.iconst 0, 1) := by decide +kernel
theorem dX6_isTogether_16 : decode cX6_isTogether 16 = .ok (.iaload, 1) := by decide +kernel
theorem dX6_isTogether_17 : decode cX6_isTogether 17 = .ok (.if_icmp .ge 37, 3) := by decide +kernel
theorem dX6_isTogether_20 : decode cX6_isTogether 20 = .ok (.iload_n 1, 1) := by decide +kernel
theorem dX6_isTogether_21 : decode cX6_isTogether 21 = .ok (.aload_n 0, 1) := by decide +kernel
theorem dX6_isTogether_22 : decode cX6_isTogether 22 = .ok (.getfield 20, 3) := by decide +kernel
theorem dX6_isTogether_25 : decode cX6_isTogether 25 = .ok (.iload 4, 2) := by decide +kernel
theorem dX6_isTogether_27 : decode cX6_isTogether 27 = .ok (.iaload, 1) := by decide +kernel
theorem dX6_isTogether_28 : decode cX6_isTogether 28 = .ok (.invokestatic 73, 3) := by decide +kernel
theorem dX6_isTogether_31 : decode cX6_isTogether 31 = .ok (.ifCond .eq 17, 3) := by decide +kernel
theorem dX6_isTogether_34 : decode cX6_isTogether 34 = .ok (.iload_n 2, 1) := by decide +kernel
theorem dX6_isTogether_35 : decode cX6_isTogether 35 = .ok (.ifCond .ge 8, 3) := by decide +kernel
theorem dX6_isTogether_38 : decode cX6_isTogether 38 = .ok (.iload 4, 2) := by decide +kernel
theorem dX6_isTogether_40 : decode cX6_isTogether 40 = .ok (.goto 4, 3) := by decide +kernel
theorem dX6_isTogether_43 : decode cX6_isTogether 43 = .ok (.iload_n 2, 1) := by decide +kernel
theorem dX6_isTogether_44 : decode cX6_isTogether 44 = .ok (.istore_n 2, 1) := by decide +kernel
theorem dX6_isTogether_45 : decode cX6_isTogether 45 = .ok (.iload 4, 2) := by decide +kernel
theorem dX6_isTogether_47 : decode cX6_isTogether 47 = .ok (.istore_n 3, 1) := by decide +kernel
theorem dX6_isTogether_48 : decode cX6_isTogether 48 = .ok (.iinc 4 1, 3) := by decide +kernel
theorem dX6_isTogether_51 : decode cX6_isTogether 51 = .ok (.goto (-42), 3) := by decide +kernel
theorem dX6_isTogether_54 : decode cX6_isTogether 54 = .ok (.iload_n 3, 1) := by decide +kernel
theorem dX6_isTogether_55 : decode cX6_isTogether 55 = .ok (.iload_n 2, 1) := by decide +kernel
theorem dX6_isTogether_56 : decode cX6_isTogether 56 = .ok (.isub, 1) := by decide +kernel
theorem dX6_isTogether_57 : decode cX6_isTogether 57 = .ok (.iconst 1, 1) := by decide +kernel
theorem dX6_isTogether_58 : decode cX6_isTogether 58 = .ok (.iadd, 1) := by decide +kernel
theorem dX6_isTogether_59 : decode cX6_isTogether 59 = .ok (.iload_n 1, 1) := by decide +kernel
theorem dX6_isTogether_60 : decode cX6_isTogether 60 = .ok (.invokestatic 65, 3) := by decide +kernel
theorem dX6_isTogether_63 : decode cX6_isTogether 63 = .ok (.if_icmp .ne 7, 3) := by decide +kernel
theorem dX6_isTogether_66 : decode cX6_isTogether 66 = .ok (.iconst 1, 1) := by decide +kernel
theorem dX6_isTogether_67 : decode cX6_isTogether 67 = .ok (.goto 4, 3) := by decide +kernel
theorem dX6_isTogether_70 : decode cX6_isTogether 70 = .ok (.iconst 0, 1) := by decide +kernel
theorem dX6_isTogether_71 : decode cX6_isTogether 71 = .ok (.ireturn, 1) := by decide +kernel
theorem dX6_look_0 : decode cX6_look 0 = .ok (.aload_n 0, 1) := by decide +kernel
theorem dX6_look_1 : decode cX6_look 1 = .ok (.getfield 7, 3) := by decide +kernel
theorem dX6_look_4 : decode cX6_look 4 = .ok (.iconst 0, 1) := by decide +kernel
theorem dX6_look_5 : decode cX6_look 5 = .ok (.iaload, 1) := by decide +kernel
theorem dX6_look_6 : decode cX6_look 6 = .ok (.istore_n 1, 1) := by decide +kernel
theorem dX6_look_7 : decode cX6_look 7 = .ok (.iconst 0, 1) := by decide +kernel
theorem dX6_look_8 : decode cX6_look 8 = .ok (.istore_n 2, 1) := by decide +kernel
theorem dX6_look_9 : decode cX6_look 9 = .ok (.iload_n 2, 1) := by decide +kernel
theorem dX6_look_10 : decode cX6_look 10 = .ok (.iload_n 1, 1) := by decide +kernel
theorem dX6_look_11 : decode cX6_look 11 = .ok (.if_icmp .ge 149, 3) := by decide +kernel
theorem dX6_look_14 : decode cX6_look 14 = .ok (.aload_n 0, 1) := by decide +kernel
theorem dX6_look_15 : decode cX6_look 15 = .ok (.getfield 20, 3) := by decide +kernel
theorem dX6_look_18 : decode cX6_look 18 = .ok (.iload_n 2, 1) := by decide +kernel
theorem dX6_look_19 : decode cX6_look 19 = .ok (.iaload, 1) := by decide +kernel
theorem dX6_look_20 : decode cX6_look 20 = .ok (.istore_n 3, 1) := by decide +kernel
theorem dX6_look_21 : decode cX6_look 21 = .ok (.iload_n 2, 1) := by decide +kernel
theorem dX6_look_22 : decode cX6_look 22 = .ok (.ifCond .le 16, 3) := by decide +kernel
theorem dX6_look_25 : decode cX6_look 25 = .ok (.iconst 1, 1) := by decide +kernel
theorem dX6_look_26 : decode cX6_look 26 = .ok (.aload_n 0, 1) := by decide +kernel
theorem dX6_look_27 : decode cX6_look 27 = .ok (.getfield 20, 3) := by decide +kernel
theorem dX6_look_30 : decode cX6_look 30 = .ok (.iload_n 2, 1) := by decide +kernel
theorem dX6_look_31 : decode cX6_look 31 = .ok (.iconst 1, 1) := by decide +kernel
theorem dX6_look_32 : decode cX6_look 32 = .ok (.isub, 1) := by decide +kernel
theorem dX6_look_33 : decode cX6_look 33 = .ok (.iaload, 1) := by decide +kernel
theorem dX6_look_34 : decode cX6_look 34 = .ok (.ishl, 1) := by decide +kernel
theorem dX6_look_35 : decode cX6_look 35 = .ok (.goto 4, 3) := by decide +kernel
theorem dX6_look_38 : decode cX6_look 38 = .ok (.iconst 0, 1) := by decide +kernel
theorem dX6_look_39 : decode cX6_look 39 = .ok (.iload_n 2, 1) := by decide +kernel
theorem dX6_look_40 : decode cX6_look 40 = .ok (.iload_n 1, 1) := by decide +kernel
theorem dX6_look_41 : decode cX6_look 41 = .ok (.iconst 1, 1) := by decide +kernel
theorem dX6_look_42 : decode cX6_look 42 = .ok (.isub, 1) := by decide +kernel
theorem dX6_look_43 : decode cX6_look 43 = .ok (.if_icmp .ge 16, 3) := by decide +kernel
theorem dX6_look_46 : decode cX6_look 46 = .ok (.iconst 1, 1) := by decide +kernel
theorem dX6_look_47 : decode cX6_look 47 = .ok (.aload_n 0, 1) := by decide +kernel
theorem dX6_look_48 : decode cX6_look 48 = .ok (.getfield 20, 3) := by decide +kernel
theorem dX6_look_51 : decode cX6_look 51 = .ok (.iload_n 2, 1) := by decide +kernel
theorem dX6_look_52 : decode cX6_look 52 = .ok (.iconst 1, 1) := by decide +kernel
theorem dX6_look_53 : decode cX6_look 53 = .ok (.iadd, 1) := by decide +kernel
theorem dX6_look_54 : decode cX6_look 54 = .ok (.iaload, 1) := by decide +kernel
theorem dX6_look_55 : decode cX6_look 55 = .ok (.ishl, 1) := by decide +kernel
theorem dX6_look_56 : decode cX6_look 56 = .ok (.goto 4, 3) := by decide +kernel
theorem dX6_look_59 : decode cX6_look 59 = .ok (.iconst 0, 1) := by decide +kernel
theorem dX6_look_60 : decode cX6_look 60 = .ok (.ior, 1) := by decide +kernel
theorem dX6_look_61 : decode cX6_look 61 = .ok (.istore 4, 2) := by decide +kernel
theorem dX6_look_63 : decode cX6_look 63 = .ok (.aload_n 0, 1) := by decide +kernel
theorem dX6_look_64 : decode cX6_look 64 = .ok (.getfield 32, 3) := by decide +kernel
theorem dX6_look_67 : decode cX6_look 67 = .ok (.iload_n 3, 1) := by decide +kernel
theorem dX6_look_68 : decode cX6_look 68 = .ok (.aload_n 0, 1) := by decide +kernel
theorem dX6_look_69 : decode cX6_look 69 = .ok (.getfield 107, 3) := by decide +kernel
theorem dX6_look_72 : decode cX6_look 72 = .ok (.ifCond .ne 8, 3) := by decide +kernel
theorem dX6_look_75 : decode cX6_look 75 = .ok (.iload 4, 2) := by decide +kernel
theorem dX6_look_77 : decode cX6_look 77 = .ok (.goto 12, 3) := by decide +kernel
theorem dX6_look_80 : decode cX6_look 80 = .ok (.aload_n 0, 1) := by decide +kernel
theorem dX6_look_81 : decode cX6_look 81 = .ok (.getfield 32, 3) := by decide +kernel
theorem dX6_look_84 : decode cX6_look 84 = .ok (.iload_n 3, 1) := by decide +kernel
theorem dX6_look_85 : decode cX6_look 85 = .ok (.iaload, 1) := by decide +kernel
theorem dX6_look_86 : decode cX6_look 86 = .ok (.iload 4, 2) := by decide +kernel
theorem dX6_look_88 : decode cX6_look 88 = .ok (.iand, 1) := by decide +kernel
theorem dX6_look_89 : decode cX6_look 89 = .ok (.iastore, 1) := by decide +kernel
theorem dX6_look_90 : decode cX6_look 90 = .ok (.aload_n 0, 1) := by decide +kernel
theorem dX6_look_91 : decode cX6_look 91 = .ok (.getfield 35, 3) := by decide +kernel
theorem dX6_look_94 : decode cX6_look 94 = .ok (.iload_n 3, 1) := by decide +kernel
theorem dX6_look_95 : decode cX6_look 95 = .ok (.dup2, 1) := by decide +kernel
theorem dX6_look_96 : decode cX6_look 96 = .ok (.iaload, 1) := by decide +kernel
theorem dX6_look_97 : decode cX6_look 97 = .ok (.iload 4, 2) := by decide +kernel
theorem dX6_look_99 : decode cX6_look 99 = .ok (.ior, 1) := by decide +kernel
theorem dX6_look_100 : decode cX6_look 100 = .ok (.iastore, 1) := by decide +kernel
theorem dX6_look_101 : decode cX6_look 101 = .ok (.aload_n 0, 1) := by decide +kernel
theorem dX6_look_102 : decode cX6_look 102 = .ok (.getfield 26, 3) := by decide +kernel
theorem dX6_look_105 : decode cX6_look 105 = .ok (.bipush 8, 2) := by decide +kernel
theorem dX6_look_107 : decode cX6_look 107 = .ok (.iload_n 3, 1) := by decide +kernel
theorem dX6_look_108 : decode cX6_look 108 = .ok (.imul, 1) := by decide +kernel
theorem dX6_look_109 : decode cX6_look 109 = .ok (.iload_n 2, 1) := by decide +kernel
theorem dX6_look_110 : decode cX6_look 110 = .ok (.iadd, 1) := by decide +kernel
theorem dX6_look_111 : decode cX6_look 111 = .ok (.dup2, 1) := by decide +kernel
theorem dX6_look_112 : decode cX6_look 112 = .ok (.iaload, 1) := by decide +kernel
theorem dX6_look_113 : decode cX6_look 113 = .ok (.iconst 1, 1) := by decide +kernel
theorem dX6_look_114 : decode cX6_look 114 = .ok (.iadd, 1) := by decide +kernel
theorem dX6_look_115 : decode cX6_look 115 = .ok (.iastore, 1) := by decide +kernel
theorem dX6_look_116 : decode cX6_look 116 = .ok (.iload_n 2, 1) := by decide +kernel
theorem dX6_look_117 : decode cX6_look 117 = .ok (.iconst 1, 1) := by decide +kernel
theorem dX6_look_118 : decode cX6_look 118 = .ok (.iadd, 1) := by decide +kernel
theorem dX6_look_119 : decode cX6_look 119 = .ok (.istore 5, 2) := by decide +kernel
theorem dX6_look_121 : decode cX6_look 121 = .ok (.iload 5, 2) := by decide +kernel
theorem dX6_look_123 : decode cX6_look 123 = .ok (.iload_n 1, 1) := by decide +kernel
theorem dX6_look_124 : decode cX6_look 124 = .ok (.if_icmp .ge 30, 3) := by decide +kernel
theorem dX6_look_127 : decode cX6_look 127 = .ok (.aload_n 0, 1) := by decide +kernel
theorem dX6_look_128 : decode cX6_look 128 = .ok (.getfield 29, 3) := by decide +kernel
theorem dX6_look_131 : decode cX6_look 131 = .ok (.bipush 8, 2) := by decide +kernel
theorem dX6_look_133 : decode cX6_look 133 = .ok (.iload_n 3, 1) := by decide +kernel
theorem dX6_look_134 : decode cX6_look 134 = .ok (.imul, 1) := by decide +kernel
theorem dX6_look_135 : decode cX6_look 135 = .ok (.aload_n 0, 1) := by decide +kernel
theorem dX6_look_136 : decode cX6_look 136 = .ok (.getfield 20, 3) := by decide +kernel
theorem dX6_look_139 : decode cX6_look 139 = .ok (.iload 5, 2) := by decide +kernel
theorem dX6_look_141 : decode cX6_look 141 = .ok (.iaload, 1) := by decide +kernel
theorem dX6_look_142 : decode cX6_look 142 = .ok (.iadd, 1) := by decide +kernel
theorem dX6_look_143 : decode cX6_look 143 = .ok (.dup2, 1) := by decide +kernel
theorem dX6_look_144 : decode cX6_look 144 = .ok (.iaload, 1) := by decide +kernel
theorem dX6_look_145 : decode cX6_look 145 = .ok (.iconst 1, 1) := by decide +kernel
theorem dX6_look_146 : decode cX6_look 146 = .ok (.iadd, 1) := by decide +kernel
theorem dX6_look_147 : decode cX6_look 147 = .ok (.iastore, 1) := by decide +kernel
theorem dX6_look_148 : decode cX6_look 148 = .ok (.iinc 5 1, 3) := by decide +kernel
theorem dX6_look_151 : decode cX6_look 151 = .ok (.goto (-30), 3) := by decide +kernel
theorem dX6_look_154 : decode cX6_look 154 = .ok (.iinc 2 1, 3) := by decide +kernel
theorem dX6_look_157 : decode cX6_look 157 = .ok (.goto (-148), 3) := by decide +kernel
theorem dX6_look_160 : decode cX6_look 160 = .ok (.iconst 0, 1) := by decide +kernel
theorem dX6_look_161 : decode cX6_look 161 = .ok (.istore_n 2, 1) := by decide +kernel
theorem dX6_look_162 : decode cX6_look 162 = .ok (.iload_n 2, 1) := by decide +kernel
theorem dX6_look_163 : decode cX6_look 163 = .ok (.bipush 10, 2) := by decide +kernel
theorem dX6_look_165 : decode cX6_look 165 = .ok (.if_icmp .ge 50, 3) := by decide +kernel
theorem dX6_look_168 : decode cX6_look 168 = .ok (.aload_n 0, 1) := by decide +kernel
theorem dX6_look_169 : decode cX6_look 169 = .ok (.iload_n 2, 1) := by decide +kernel
theorem dX6_look_170 : decode cX6_look 170 = .ok (.invokevirtual 80, 3) := by decide +kernel
theorem dX6_look_173 : decode cX6_look 173 = .ok (.istore_n 3, 1) := by decide +kernel
theorem dX6_look_174 : decode cX6_look 174 = .ok (.aload_n 0, 1) := by decide +kernel
theorem dX6_look_175 : decode cX6_look 175 = .ok (.getfield 38, 3) := by decide +kernel
theorem dX6_look_178 : decode cX6_look 178 = .ok (.iload_n 2, 1) := by decide +kernel
theorem dX6_look_179 : decode cX6_look 179 = .ok (.aload_n 0, 1) := by decide +kernel
theorem dX6_look_180 : decode cX6_look 180 = .ok (.getfield 38, 3) := by decide +kernel
theorem dX6_look_183 : decode cX6_look 183 = .ok (.iload_n 2, 1) := by decide +kernel
theorem dX6_look_184 : decode cX6_look 184 = .ok (.iaload, 1) := by decide +kernel
theorem dX6_look_185 : decode cX6_look 185 = .ok (.ifCond .lt 13, 3) := by decide +kernel
theorem dX6_look_188 : decode cX6_look 188 = .ok (.iload_n 3, 1) := by decide +kernel
theorem dX6_look_189 : decode cX6_look 189 = .ok (.aload_n 0, 1) := by decide +kernel
theorem dX6_look_190 : decode cX6_look 190 = .ok (.getfield 38, 3) := by decide +kernel
theorem dX6_look_193 : decode cX6_look 193 = .ok (.iload_n 2, 1) := by decide +kernel
theorem dX6_look_194 : decode cX6_look 194 = .ok (.iaload, 1) := by decide +kernel
theorem dX6_look_195 : decode cX6_look 195 = .ok (.if_icmp .ge 7, 3) := by decide +kernel
theorem dX6_look_198 : decode cX6_look 198 = .ok (.iload_n 3, 1) := by decide +kernel
theorem dX6_look_199 : decode cX6_look 199 = .ok (.goto 9, 3) := by decide +kernel
theorem dX6_look_202 : decode cX6_look 202 = .ok (.aload_n 0, 1) := by decide +kernel
theorem dX6_look_203 : decode cX6_look 203 = .ok (.getfield 38, 3) := by decide +kernel
theorem dX6_look_206 : decode cX6_look 206 = .ok (.iload_n 2, 1) := by decide +kernel
theorem dX6_look_207 : decode cX6_look 207 = .ok (.iaload, 1) := by decide +kernel
theorem dX6_look_208 : decode cX6_look 208 = .ok (.iastore, 1) := by decide +kernel
theorem dX6_look_209 : decode cX6_look 209 = .ok (.iinc 2 1, 3) := by decide +kernel
theorem dX6_look_212 : decode cX6_look 212 = .ok (.goto (-50), 3) := by decide +kernel
theorem dX6_look_215 : decode cX6_look 215 = .ok (.aload_n 0, 1) := by decide +kernel
theorem dX6_look_216 : decode cX6_look 216 = .ok (.invokevirtual 110, 3) := by decide +kernel
theorem dX6_look_219 : decode cX6_look 219 = .ok (.aload_n 0, 1) := by decide +kernel
theorem dX6_look_220 : decode cX6_look 220 = .ok (.getfield 107, 3) := by decide +kernel
theorem dX6_look_223 : decode cX6_look 223 = .ok (.aload_n 0, 1) := by decide +kernel
theorem dX6_look_224 : decode cX6_look 224 = .ok (.getfield 113, 3) := by decide +kernel
theorem dX6_look_227 : decode cX6_look 227 = .ok (.if_icmp .ne 11, 3) := by decide +kernel
theorem dX6_look_230 : decode cX6_look 230 = .ok (.aload_n 0, 1) := by decide +kernel
theorem dX6_look_231 : decode cX6_look 231 = .ok (.aload_n 0, 1) := by decide +kernel
theorem dX6_look_232 : decode cX6_look 232 = .ok (.getfield 23, 3) := by decide +kernel
theorem dX6_look_235 : decode cX6_look 235 = .ok (.invokevirtual 116, 3) := by decide +kernel
theorem dX6_look_238 : decode cX6_look 238 = .ok (.aload_n 0, 1) := by decide +kernel
theorem dX6_look_239 : decode cX6_look 239 = .ok (.dup, 1) := by decide +kernel
theorem dX6_look_240 : decode cX6_look 240 = .ok (.getfield 107, 3) := by decide +kernel
theorem dX6_look_243 : decode cX6_look 243 = .ok (.iconst 1, 1) := by decide +kernel
theorem dX6_look_244 : decode cX6_look 244 = .ok (.iadd, 1) := by decide +kernel
theorem dX6_look_245 : decode cX6_look 245 = .ok (.putfield 107, 3) := by decide +kernel
theorem dX6_look_248 : decode cX6_look 248 = .ok (.return_, 1) := by decide +kernel
theorem dX6_keep_0 : decode cX6_keep 0 = .ok (.iconst 0, 1) := by decide +kernel
theorem dX6_keep_1 : decode cX6_keep 1 = .ok (.istore_n 2, 1) := by decide +kernel
theorem dX6_keep_2 : decode cX6_keep 2 = .ok (.iload_n 2, 1) := by decide +kernel
theorem dX6_keep_3 : decode cX6_keep 3 = .ok (.bipush 8, 2) := by decide +kernel
theorem dX6_keep_5 : decode cX6_keep 5 = .ok (.if_icmp .ge 18, 3) := by decide +kernel
theorem dX6_keep_8 : decode cX6_keep 8 = .ok (.aload_n 1, 1) := by decide +kernel
theorem dX6_keep_9 : decode cX6_keep 9 = .ok (.iload_n 2, 1) := by decide +kernel
theorem dX6_keep_10 : decode cX6_keep 10 = .ok (.aload_n 0, 1) := by decide +kernel
theorem dX6_keep_11 : decode cX6_keep 11 = .ok (.getfield 20, 3) := by decide +kernel
theorem dX6_keep_14 : decode cX6_keep 14 = .ok (.iload_n 2, 1) := by decide +kernel
theorem dX6_keep_15 : decode cX6_keep 15 = .ok (.iaload, 1) := by decide +kernel
theorem dX6_keep_16 : decode cX6_keep 16 = .ok (.iastore, 1) := by decide +kernel
theorem dX6_keep_17 : decode cX6_keep 17 = .ok (.iinc 2 1, 3) := by decide +kernel
theorem dX6_keep_20 : decode cX6_keep 20 = .ok (.goto (-18), 3) := by decide +kernel
theorem dX6_keep_23 : decode cX6_keep 23 = .ok (.return_, 1) := by decide +kernel
theorem dX6_lookAtSteps_0 : decode cX6_lookAtSteps 0 = .ok (.iconst 0, 1) := by decide +kernel
theorem dX6_lookAtSteps_1 : decode cX6_lookAtSteps 1 = .ok (.istore_n 1, 1) := by decide +kernel
theorem dX6_lookAtSteps_2 : decode cX6_lookAtSteps 2 = .ok (.iconst 0, 1) := by decide +kernel
theorem dX6_lookAtSteps_3 : decode cX6_lookAtSteps 3 = .ok (.istore_n 2, 1) := by decide +kernel
theorem dX6_lookAtSteps_4 : decode cX6_lookAtSteps 4 = .ok (.iload_n 2, 1) := by decide +kernel
theorem dX6_lookAtSteps_5 : decode cX6_lookAtSteps 5 = .ok (.aload_n 0, 1) := by decide +kernel
theorem dX6_lookAtSteps_6 : decode cX6_lookAtSteps 6 = .ok (.getfield 7, 3) := by decide +kernel
theorem dX6_lookAtSteps_9 : decode cX6_lookAtSteps 9 = .ok (.iconst 0, 1) := by decide +kernel
theorem dX6_lookAtSteps_10 : decode cX6_lookAtSteps 10 = .ok (.iaload, 1) := by decide +kernel
theorem dX6_lookAtSteps_11 : decode cX6_lookAtSteps 11 = .ok (.if_icmp .ge 66, 3) := by decide +kernel
theorem dX6_lookAtSteps_14 : decode cX6_lookAtSteps 14 = .ok (.iload_n 2, 1) := by decide +kernel
theorem dX6_lookAtSteps_15 : decode cX6_lookAtSteps 15 = .ok (.iconst 1, 1) := by decide +kernel
theorem dX6_lookAtSteps_16 : decode cX6_lookAtSteps 16 = .ok (.iadd, 1) := by decide +kernel
theorem dX6_lookAtSteps_17 : decode cX6_lookAtSteps 17 = .ok (.istore_n 3, 1) := by decide +kernel
theorem dX6_lookAtSteps_18 : decode cX6_lookAtSteps 18 = .ok (.iload_n 3, 1) := by decide +kernel
theorem dX6_lookAtSteps_19 : decode cX6_lookAtSteps 19 = .ok (.aload_n 0, 1) := by decide +kernel
theorem dX6_lookAtSteps_20 : decode cX6_lookAtSteps 20 = .ok (.getfield 7, 3) := by decide +kernel
theorem dX6_lookAtSteps_23 : decode cX6_lookAtSteps 23 = .ok (.iconst 0, 1) := by decide +kernel
theorem dX6_lookAtSteps_24 : decode cX6_lookAtSteps 24 = .ok (.iaload, 1) := by decide +kernel
theorem dX6_lookAtSteps_25 : decode cX6_lookAtSteps 25 = .ok (.if_icmp .ge 46, 3) := by decide +kernel
theorem dX6_lookAtSteps_28 : decode cX6_lookAtSteps 28 = .ok (.iload_n 1, 1) := by decide +kernel
theorem dX6_lookAtSteps_29 : decode cX6_lookAtSteps 29 = .ok (.aload_n 0, 1) := by decide +kernel
theorem dX6_lookAtSteps_30 : decode cX6_lookAtSteps 30 = .ok (.aload_n 0, 1) := by decide +kernel
theorem dX6_lookAtSteps_31 : decode cX6_lookAtSteps 31 = .ok (.getfield 7, 3) := by decide +kernel
theorem dX6_lookAtSteps_34 : decode cX6_lookAtSteps 34 = .ok (.bipush 17, 2) := by decide +kernel
theorem dX6_lookAtSteps_36 : decode cX6_lookAtSteps 36 = .ok (.iload_n 2, 1) := by decide +kernel
theorem dX6_lookAtSteps_37 : decode cX6_lookAtSteps 37 = .ok (.iadd, 1) := by decide +kernel
theorem dX6_lookAtSteps_38 : decode cX6_lookAtSteps 38 = .ok (.iaload, 1) := by decide +kernel
theorem dX6_lookAtSteps_39 : decode cX6_lookAtSteps 39 = .ok (.invokevirtual 120, 3) := by decide +kernel
theorem dX6_lookAtSteps_42 : decode cX6_lookAtSteps 42 = .ok (.aload_n 0, 1) := by decide +kernel
theorem dX6_lookAtSteps_43 : decode cX6_lookAtSteps 43 = .ok (.aload_n 0, 1) := by decide +kernel
theorem dX6_lookAtSteps_44 : decode cX6_lookAtSteps 44 = .ok (.getfield 7, 3) := by decide +kernel
theorem dX6_lookAtSteps_47 : decode cX6_lookAtSteps 47 = .ok (.bipush 17, 2) := by decide +kernel
theorem dX6_lookAtSteps_49 : decode cX6_lookAtSteps 49 = .ok (.iload_n 3, 1) := by decide +kernel
theorem dX6_lookAtSteps_50 : decode cX6_lookAtSteps 50 = .ok (.iadd, 1) := by decide +kernel
theorem dX6_lookAtSteps_51 : decode cX6_lookAtSteps 51 = .ok (.iaload, 1) := by decide +kernel
theorem dX6_lookAtSteps_52 : decode cX6_lookAtSteps 52 = .ok (.invokevirtual 120, 3) := by decide +kernel
theorem dX6_lookAtSteps_55 : decode cX6_lookAtSteps 55 = .ok (.if_icmp .le 7, 3) := by decide +kernel
theorem dX6_lookAtSteps_58 : decode cX6_lookAtSteps 58 = .ok (.iconst 1, 1) := by decide +kernel
theorem dX6_lookAtSteps_59 : decode cX6_lookAtSteps 59 = .ok (.goto 4, 3) := by decide +kernel
theorem dX6_lookAtSteps_62 : decode cX6_lookAtSteps 62 = .ok (.iconst 0, 1) := by decide +kernel
theorem dX6_lookAtSteps_63 : decode cX6_lookAtSteps 63 = .ok (.iadd, 1) := by decide +kernel
theorem dX6_lookAtSteps_64 : decode cX6_lookAtSteps 64 = .ok (.istore_n 1, 1) := by decide +kernel
theorem dX6_lookAtSteps_65 : decode cX6_lookAtSteps 65 = .ok (.iinc 3 1, 3) := by decide +kernel

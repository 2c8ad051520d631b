theorem dX6_lookAtSteps_68 : decode cX6_lookAtSteps 68 = .ok (.goto (-50), 3) := by decide +kernel
theorem dX6_lookAtSteps_71 : decode cX6_lookAtSteps 71 = .ok (.iinc 2 1, 3) := by decide +kernel
theorem dX6_lookAtSteps_74 : decode cX6_lookAtSteps 74 = .ok (.goto (-70), 3) := by decide +kernel
theorem dX6_lookAtSteps_77 : decode cX6_lookAtSteps 77 = .ok (.aload_n 0, 1) := by decide +kernel
theorem dX6_lookAtSteps_78 : decode cX6_lookAtSteps 78 = .ok (.getfield 123, 3) := by decide +kernel
theorem dX6_lookAtSteps_81 : decode cX6_lookAtSteps 81 = .ok (.ifCond .lt 11, 3) := by decide +kernel
theorem dX6_lookAtSteps_84 : decode cX6_lookAtSteps 84 = .ok (.iload_n 1, 1) := by decide +kernel
theorem dX6_lookAtSteps_85 : decode cX6_lookAtSteps 85 = .ok (.aload_n 0, 1) := by decide +kernel
theorem dX6_lookAtSteps_86 : decode cX6_lookAtSteps 86 = .ok (.getfield 123, 3) := by decide +kernel
theorem dX6_lookAtSteps_89 : decode cX6_lookAtSteps 89 = .ok (.if_icmp .ge 16, 3) := by decide +kernel
theorem dX6_lookAtSteps_92 : decode cX6_lookAtSteps 92 = .ok (.aload_n 0, 1) := by decide +kernel
theorem dX6_lookAtSteps_93 : decode cX6_lookAtSteps 93 = .ok (.iload_n 1, 1) := by decide +kernel
theorem dX6_lookAtSteps_94 : decode cX6_lookAtSteps 94 = .ok (.putfield 123, 3) := by decide +kernel
theorem dX6_lookAtSteps_97 : decode cX6_lookAtSteps 97 = .ok (.aload_n 0, 1) := by decide +kernel
theorem dX6_lookAtSteps_98 : decode cX6_lookAtSteps 98 = .ok (.aload_n 0, 1) := by decide +kernel
theorem dX6_lookAtSteps_99 : decode cX6_lookAtSteps 99 = .ok (.getfield 44, 3) := by decide +kernel
theorem dX6_lookAtSteps_102 : decode cX6_lookAtSteps 102 = .ok (.invokevirtual 116, 3) := by decide +kernel
theorem dX6_lookAtSteps_105 : decode cX6_lookAtSteps 105 = .ok (.return_, 1) := by decide +kernel
theorem dX6_lookAtAll_0 : decode cX6_lookAtAll 0 = .ok (.aload_n 0, 1) := by decide +kernel
theorem dX6_lookAtAll_1 : decode cX6_lookAtAll 1 = .ok (.invokevirtual 104, 3) := by decide +kernel
theorem dX6_lookAtAll_4 : decode cX6_lookAtAll 4 = .ok (.aload_n 0, 1) := by decide +kernel
theorem dX6_lookAtAll_5 : decode cX6_lookAtAll 5 = .ok (.iconst 0, 1) := by decide +kernel
theorem dX6_lookAtAll_6 : decode cX6_lookAtAll 6 = .ok (.putfield 107, 3) := by decide +kernel
theorem dX6_lookAtAll_9 : decode cX6_lookAtAll 9 = .ok (.aload_n 0, 1) := by decide +kernel
theorem dX6_lookAtAll_10 : decode cX6_lookAtAll 10 = .ok (.iload_n 1, 1) := by decide +kernel
theorem dX6_lookAtAll_11 : decode cX6_lookAtAll 11 = .ok (.putfield 113, 3) := by decide +kernel
theorem dX6_lookAtAll_14 : decode cX6_lookAtAll 14 = .ok (.aload_n 0, 1) := by decide +kernel
theorem dX6_lookAtAll_15 : decode cX6_lookAtAll 15 = .ok (.bipush (-6), 2) := by decide +kernel
theorem dX6_lookAtAll_17 : decode cX6_lookAtAll 17 = .ok (.putfield 123, 3) := by decide +kernel
theorem dX6_lookAtAll_20 : decode cX6_lookAtAll 20 = .ok (.iconst 0, 1) := by decide +kernel
theorem dX6_lookAtAll_21 : decode cX6_lookAtAll 21 = .ok (.istore_n 2, 1) := by decide +kernel
theorem dX6_lookAtAll_22 : decode cX6_lookAtAll 22 = .ok (.iload_n 2, 1) := by decide +kernel
theorem dX6_lookAtAll_23 : decode cX6_lookAtAll 23 = .ok (.bipush 64, 2) := by decide +kernel
theorem dX6_lookAtAll_25 : decode cX6_lookAtAll 25 = .ok (.if_icmp .ge 23, 3) := by decide +kernel
theorem dX6_lookAtAll_28 : decode cX6_lookAtAll 28 = .ok (.aload_n 0, 1) := by decide +kernel
theorem dX6_lookAtAll_29 : decode cX6_lookAtAll 29 = .ok (.getfield 26, 3) := by decide +kernel
theorem dX6_lookAtAll_32 : decode cX6_lookAtAll 32 = .ok (.iload_n 2, 1) := by decide +kernel
theorem dX6_lookAtAll_33 : decode cX6_lookAtAll 33 = .ok (.iconst 0, 1) := by decide +kernel
theorem dX6_lookAtAll_34 : decode cX6_lookAtAll 34 = .ok (.iastore, 1) := by decide +kernel
theorem dX6_lookAtAll_35 : decode cX6_lookAtAll 35 = .ok (.aload_n 0, 1) := by decide +kernel
theorem dX6_lookAtAll_36 : decode cX6_lookAtAll 36 = .ok (.getfield 29, 3) := by decide +kernel
theorem dX6_lookAtAll_39 : decode cX6_lookAtAll 39 = .ok (.iload_n 2, 1) := by decide +kernel
theorem dX6_lookAtAll_40 : decode cX6_lookAtAll 40 = .ok (.iconst 0, 1) := by decide +kernel
theorem dX6_lookAtAll_41 : decode cX6_lookAtAll 41 = .ok (.iastore, 1) := by decide +kernel
theorem dX6_lookAtAll_42 : decode cX6_lookAtAll 42 = .ok (.iinc 2 1, 3) := by decide +kernel
theorem dX6_lookAtAll_45 : decode cX6_lookAtAll 45 = .ok (.goto (-23), 3) := by decide +kernel
theorem dX6_lookAtAll_48 : decode cX6_lookAtAll 48 = .ok (.iconst 0, 1) := by decide +kernel
theorem dX6_lookAtAll_49 : decode cX6_lookAtAll 49 = .ok (.istore_n 2, 1) := by decide +kernel
theorem dX6_lookAtAll_50 : decode cX6_lookAtAll 50 = .ok (.iload_n 2, 1) := by decide +kernel
theorem dX6_lookAtAll_51 : decode cX6_lookAtAll 51 = .ok (.bipush 8, 2) := by decide +kernel
theorem dX6_lookAtAll_53 : decode cX6_lookAtAll 53 = .ok (.if_icmp .ge 23, 3) := by decide +kernel
theorem dX6_lookAtAll_56 : decode cX6_lookAtAll 56 = .ok (.aload_n 0, 1) := by decide +kernel
theorem dX6_lookAtAll_57 : decode cX6_lookAtAll 57 = .ok (.getfield 32, 3) := by decide +kernel
theorem dX6_lookAtAll_60 : decode cX6_lookAtAll 60 = .ok (.iload_n 2, 1) := by decide +kernel
theorem dX6_lookAtAll_61 : decode cX6_lookAtAll 61 = .ok (.iconst 0, 1) := by decide +kernel
theorem dX6_lookAtAll_62 : decode cX6_lookAtAll 62 = .ok (.iastore, 1) := by decide +kernel
theorem dX6_lookAtAll_63 : decode cX6_lookAtAll 63 = .ok (.aload_n 0, 1) := by decide +kernel
theorem dX6_lookAtAll_64 : decode cX6_lookAtAll 64 = .ok (.getfield 35, 3) := by decide +kernel
theorem dX6_lookAtAll_67 : decode cX6_lookAtAll 67 = .ok (.iload_n 2, 1) := by decide +kernel
theorem dX6_lookAtAll_68 : decode cX6_lookAtAll 68 = .ok (.iconst 0, 1) := by decide +kernel
theorem dX6_lookAtAll_69 : decode cX6_lookAtAll 69 = .ok (.iastore, 1) := by decide +kernel
theorem dX6_lookAtAll_70 : decode cX6_lookAtAll 70 = .ok (.iinc 2 1, 3) := by decide +kernel
theorem dX6_lookAtAll_73 : decode cX6_lookAtAll 73 = .ok (.goto (-23), 3) := by decide +kernel
theorem dX6_lookAtAll_76 : decode cX6_lookAtAll 76 = .ok (.iconst 0, 1) := by decide +kernel
theorem dX6_lookAtAll_77 : decode cX6_lookAtAll 77 = .ok (.istore_n 2, 1) := by decide +kernel
theorem dX6_lookAtAll_78 : decode cX6_lookAtAll 78 = .ok (.iload_n 2, 1) := by decide +kernel
theorem dX6_lookAtAll_79 : decode cX6_lookAtAll 79 = .ok (.bipush 10, 2) := by decide +kernel
theorem dX6_lookAtAll_81 : decode cX6_lookAtAll 81 = .ok (.if_icmp .ge 17, 3) := by decide +kernel
theorem dX6_lookAtAll_84 : decode cX6_lookAtAll 84 = .ok (.aload_n 0, 1) := by decide +kernel
theorem dX6_lookAtAll_85 : decode cX6_lookAtAll 85 = .ok (.getfield 38, 3) := by decide +kernel
theorem dX6_lookAtAll_88 : decode cX6_lookAtAll 88 = .ok (.iload_n 2, 1) := by decide +kernel
theorem dX6_lookAtAll_89 : decode cX6_lookAtAll 89 = .ok (.bipush (-6), 2) := by decide +kernel
theorem dX6_lookAtAll_91 : decode cX6_lookAtAll 91 = .ok (.iastore, 1) := by decide +kernel
theorem dX6_lookAtAll_92 : decode cX6_lookAtAll 92 = .ok (.iinc 2 1, 3) := by decide +kernel
theorem dX6_lookAtAll_95 : decode cX6_lookAtAll 95 = .ok (.goto (-17), 3) := by decide +kernel
theorem dX6_lookAtAll_98 : decode cX6_lookAtAll 98 = .ok (.aload_n 0, 1) := by decide +kernel
theorem dX6_lookAtAll_99 : decode cX6_lookAtAll 99 = .ok (.invokevirtual 91, 3) := by decide +kernel
theorem dX6_lookAtAll_102 : decode cX6_lookAtAll 102 = .ok (.iconst 1, 1) := by decide +kernel
theorem dX6_lookAtAll_103 : decode cX6_lookAtAll 103 = .ok (.istore_n 2, 1) := by decide +kernel
theorem dX6_lookAtAll_104 : decode cX6_lookAtAll 104 = .ok (.iload_n 2, 1) := by decide +kernel
theorem dX6_lookAtAll_105 : decode cX6_lookAtAll 105 = .ok (.ifCond .eq 22, 3) := by decide +kernel
theorem dX6_lookAtAll_108 : decode cX6_lookAtAll 108 = .ok (.aload_n 0, 1) := by decide +kernel
theorem dX6_lookAtAll_109 : decode cX6_lookAtAll 109 = .ok (.invokevirtual 126, 3) := by decide +kernel
theorem dX6_lookAtAll_112 : decode cX6_lookAtAll 112 = .ok (.ifCond .eq 7, 3) := by decide +kernel
theorem dX6_lookAtAll_115 : decode cX6_lookAtAll 115 = .ok (.aload_n 0, 1) := by decide +kernel
theorem dX6_lookAtAll_116 : decode cX6_lookAtAll 116 = .ok (.invokevirtual 129, 3) := by decide +kernel
theorem dX6_lookAtAll_119 : decode cX6_lookAtAll 119 = .ok (.aload_n 0, 1) := by decide +kernel
theorem dX6_lookAtAll_120 : decode cX6_lookAtAll 120 = .ok (.invokevirtual 101, 3) := by decide +kernel
theorem dX6_lookAtAll_123 : decode cX6_lookAtAll 123 = .ok (.istore_n 2, 1) := by decide +kernel
theorem dX6_lookAtAll_124 : decode cX6_lookAtAll 124 = .ok (.goto (-20), 3) := by decide +kernel
theorem dX6_lookAtAll_127 : decode cX6_lookAtAll 127 = .ok (.return_, 1) := by decide +kernel
theorem dX6_best_0 : decode cX6_best 0 = .ok (.aload_n 0, 1) := by decide +kernel
theorem dX6_best_1 : decode cX6_best 1 = .ok (.iconst 0, 1) := by decide +kernel
theorem dX6_best_2 : decode cX6_best 2 = .ok (.invokevirtual 132, 3) := by decide +kernel
theorem dX6_best_5 : decode cX6_best 5 = .ok (.aload_n 0, 1) := by decide +kernel
theorem dX6_best_6 : decode cX6_best 6 = .ok (.getfield 107, 3) := by decide +kernel
theorem dX6_best_9 : decode cX6_best 9 = .ok (.ireturn, 1) := by decide +kernel
theorem dX6_order_0 : decode cX6_order 0 = .ok (.iload_n 1, 1) := by decide +kernel
theorem dX6_order_1 : decode cX6_order 1 = .ok (.ifCond .lt 19, 3) := by decide +kernel
theorem dX6_order_4 : decode cX6_order 4 = .ok (.iload_n 2, 1) := by decide +kernel
theorem dX6_order_5 : decode cX6_order 5 = .ok (.iconst 0, 1) := by decide +kernel
theorem dX6_order_6 : decode cX6_order 6 = .ok (.aload_n 0, 1) := by decide +kernel
theorem dX6_order_7 : decode cX6_order 7 = .ok (.getfield 7, 3) := by decide +kernel
theorem dX6_order_10 : decode cX6_order 10 = .ok (.iconst 0, 1) := by decide +kernel
theorem dX6_order_11 : decode cX6_order 11 = .ok (.iaload, 1) := by decide +kernel
theorem dX6_order_12 : decode cX6_order 12 = .ok (.iconst 1, 1) := by decide +kernel
theorem dX6_order_13 : decode cX6_order 13 = .ok (.isub, 1) := by decide +kernel
theorem dX6_order_14 : decode cX6_order 14 = .ok (.invokestatic 50, 3) := by decide +kernel
theorem dX6_order_17 : decode cX6_order 17 = .ok (.ifCond .ne 6, 3) := by decide +kernel
theorem dX6_order_20 : decode cX6_order 20 = .ok (.bipush (-2), 2) := by decide +kernel
theorem dX6_order_22 : decode cX6_order 22 = .ok (.ireturn, 1) := by decide +kernel
theorem dX6_order_23 : decode cX6_order 23 = .ok (.aload_n 0, 1) := by decide +kernel
theorem dX6_order_24 : decode cX6_order 24 = .ok (.iload_n 1, 1) := by decide +kernel
theorem dX6_order_25 : decode cX6_order 25 = .ok (.invokevirtual 132, 3) := by decide +kernel
theorem dX6_order_28 : decode cX6_order 28 = .ok (.iload_n 1, 1) := by decide +kernel
theorem dX6_order_29 : decode cX6_order 29 = .ok (.aload_n 0, 1) := by decide +kernel
theorem dX6_order_30 : decode cX6_order 30 = .ok (.getfield 107, 3) := by decide +kernel
theorem dX6_order_33 : decode cX6_order 33 = .ok (.if_icmp .ge 12, 3) := by decide +kernel
theorem dX6_order_36 : decode cX6_order 36 = .ok (.aload_n 0, 1) := by decide +kernel
theorem dX6_order_37 : decode cX6_order 37 = .ok (.getfield 23, 3) := by decide +kernel
theorem dX6_order_40 : decode cX6_order 40 = .ok (.iload_n 2, 1) := by decide +kernel
theorem dX6_order_41 : decode cX6_order 41 = .ok (.iaload, 1) := by decide +kernel
theorem dX6_order_42 : decode cX6_order 42 = .ok (.goto 5, 3) := by decide +kernel
theorem dX6_order_45 : decode cX6_order 45 = .ok (.bipush (-6), 2) := by decide +kernel
theorem dX6_order_47 : decode cX6_order 47 = .ok (.ireturn, 1) := by decide +kernel
theorem dX6_beside_0 : decode cX6_beside 0 = .ok (.aload_n 0, 1) := by decide +kernel
theorem dX6_beside_1 : decode cX6_beside 1 = .ok (.iload_n 1, 1) := by decide +kernel
theorem dX6_beside_2 : decode cX6_beside 2 = .ok (.invokevirtual 58, 3) := by decide +kernel
theorem dX6_beside_5 : decode cX6_beside 5 = .ok (.ifCond .ne 5, 3) := by decide +kernel
theorem dX6_beside_8 : decode cX6_beside 8 = .ok (.iconst (-1), 1) := by decide +kernel
theorem dX6_beside_9 : decode cX6_beside 9 = .ok (.ireturn, 1) := by decide +kernel
theorem dX6_beside_10 : decode cX6_beside 10 = .ok (.iload_n 2, 1) := by decide +kernel
theorem dX6_beside_11 : decode cX6_beside 11 = .ok (.iconst 0, 1) := by decide +kernel
theorem dX6_beside_12 : decode cX6_beside 12 = .ok (.iconst 1, 1) := by decide +kernel
theorem dX6_beside_13 : decode cX6_beside 13 = .ok (.invokestatic 50, 3) := by decide +kernel
theorem dX6_beside_16 : decode cX6_beside 16 = .ok (.ifCond .ne 6, 3) := by decide +kernel
theorem dX6_beside_19 : decode cX6_beside 19 = .ok (.bipush (-2), 2) := by decide +kernel
theorem dX6_beside_21 : decode cX6_beside 21 = .ok (.ireturn, 1) := by decide +kernel
theorem dX6_beside_22 : decode cX6_beside 22 = .ok (.aload_n 0, 1) := by decide +kernel
theorem dX6_beside_23 : decode cX6_beside 23 = .ok (.iconst 0, 1) := by decide +kernel
theorem dX6_beside_24 : decode cX6_beside 24 = .ok (.invokevirtual 132, 3) := by decide +kernel
theorem dX6_beside_27 : decode cX6_beside 27 = .ok (.iload_n 2, 1) := by decide +kernel
theorem dX6_beside_28 : decode cX6_beside 28 = .ok (.ifCond .ne 12, 3) := by decide +kernel
theorem dX6_beside_31 : decode cX6_beside 31 = .ok (.aload_n 0, 1) := by decide +kernel
theorem dX6_beside_32 : decode cX6_beside 32 = .ok (.getfield 32, 3) := by decide +kernel
theorem dX6_beside_35 : decode cX6_beside 35 = .ok (.iload_n 1, 1) := by decide +kernel
theorem dX6_beside_36 : decode cX6_beside 36 = .ok (.iaload, 1) := by decide +kernel
theorem dX6_beside_37 : decode cX6_beside 37 = .ok (.goto 9, 3) := by decide +kernel
theorem dX6_beside_40 : decode cX6_beside 40 = .ok (.aload_n 0, 1) := by decide +kernel
theorem dX6_beside_41 : decode cX6_beside 41 = .ok (.getfield 35, 3) := by decide +kernel
theorem dX6_beside_44 : decode cX6_beside 44 = .ok (.iload_n 1, 1) := by decide +kernel
theorem dX6_beside_45 : decode cX6_beside 45 = .ok (.iaload, 1) := by decide +kernel
theorem dX6_beside_46 : decode cX6_beside 46 = .ok (.ireturn, 1) := by decide +kernel
theorem dX6_place_0 : decode cX6_place 0 = .ok (.aload_n 0, 1) := by decide +kernel
theorem dX6_place_1 : decode cX6_place 1 = .ok (.iload_n 1, 1) := by decide +kernel
theorem dX6_place_2 : decode cX6_place 2 = .ok (.invokevirtual 58, 3) := by decide +kernel
theorem dX6_place_5 : decode cX6_place 5 = .ok (.ifCond .ne 5, 3) := by decide +kernel
theorem dX6_place_8 : decode cX6_place 8 = .ok (.iconst (-1), 1) := by decide +kernel
theorem dX6_place_9 : decode cX6_place 9 = .ok (.ireturn, 1) := by decide +kernel
theorem dX6_place_10 : decode cX6_place 10 = .ok (.iload_n 2, 1) := by decide +kernel
theorem dX6_place_11 : decode cX6_place 11 = .ok (.iconst 0, 1) := by decide +kernel
theorem dX6_place_12 : decode cX6_place 12 = .ok (.iconst 1, 1) := by decide +kernel
theorem dX6_place_13 : decode cX6_place 13 = .ok (.invokestatic 50, 3) := by decide +kernel
theorem dX6_place_16 : decode cX6_place 16 = .ok (.ifCond .ne 24, 3) := by decide +kernel
theorem dX6_place_19 : decode cX6_place 19 = .ok (.iload_n 2, 1) := by decide +kernel
theorem dX6_place_20 : decode cX6_place 20 = .ok (.bipush 10, 2) := by decide +kernel
theorem dX6_place_22 : decode cX6_place 22 = .ok (.bipush 9, 2) := by decide +kernel
theorem dX6_place_24 : decode cX6_place 24 = .ok (.aload_n 0, 1) := by decide +kernel
theorem dX6_place_25 : decode cX6_place 25 = .ok (.getfield 7, 3) := by decide +kernel
theorem dX6_place_28 : decode cX6_place 28 = .ok (.iconst 0, 1) := by decide +kernel
theorem dX6_place_29 : decode cX6_place 29 = .ok (.iaload, 1) := by decide +kernel
theorem dX6_place_30 : decode cX6_place 30 = .ok (.iadd, 1) := by decide +kernel
theorem dX6_place_31 : decode cX6_place 31 = .ok (.invokestatic 50, 3) := by decide +kernel
theorem dX6_place_34 : decode cX6_place 34 = .ok (.ifCond .ne 6, 3) := by decide +kernel
theorem dX6_place_37 : decode cX6_place 37 = .ok (.bipush (-2), 2) := by decide +kernel
theorem dX6_place_39 : decode cX6_place 39 = .ok (.ireturn, 1) := by decide +kernel
theorem dX6_place_40 : decode cX6_place 40 = .ok (.aload_n 0, 1) := by decide +kernel
theorem dX6_place_41 : decode cX6_place 41 = .ok (.iconst 0, 1) := by decide +kernel
theorem dX6_place_42 : decode cX6_place 42 = .ok (.invokevirtual 132, 3) := by decide +kernel
theorem dX6_place_45 : decode cX6_place 45 = .ok (.iload_n 2, 1) := by decide +kernel
theorem dX6_place_46 : decode cX6_place 46 = .ok (.bipush 9, 2) := by decide +kernel
theorem dX6_place_48 : decode cX6_place 48 = .ok (.if_icmp .le 18, 3) := by decide +kernel
theorem dX6_place_51 : decode cX6_place 51 = .ok (.aload_n 0, 1) := by decide +kernel
theorem dX6_place_52 : decode cX6_place 52 = .ok (.getfield 26, 3) := by decide +kernel
theorem dX6_place_55 : decode cX6_place 55 = .ok (.bipush 8, 2) := by decide +kernel
theorem dX6_place_57 : decode cX6_place 57 = .ok (.iload_n 1, 1) := by decide +kernel
theorem dX6_place_58 : decode cX6_place 58 = .ok (.imul, 1) := by decide +kernel
theorem dX6_place_59 : decode cX6_place 59 = .ok (.iload_n 2, 1) := by decide +kernel
theorem dX6_place_60 : decode cX6_place 60 = .ok (.iadd, 1) := by decide +kernel
theorem dX6_place_61 : decode cX6_place 61 = .ok (.bipush 10, 2) := by decide +kernel
theorem dX6_place_63 : decode cX6_place 63 = .ok (.isub, 1) := by decide +kernel
theorem dX6_place_64 : decode cX6_place 64 = .ok (.iaload, 1) := by decide +kernel
theorem dX6_place_65 : decode cX6_place 65 = .ok (.ireturn, 1) := by decide +kernel
theorem dX6_place_66 : decode cX6_place 66 = .ok (.bipush (-6), 2) := by decide +kernel
theorem dX6_place_68 : decode cX6_place 68 = .ok (.istore_n 3, 1) := by decide +kernel
theorem dX6_place_69 : decode cX6_place 69 = .ok (.bipush (-6), 2) := by decide +kernel
theorem dX6_place_71 : decode cX6_place 71 = .ok (.istore 4, 2) := by decide +kernel
theorem dX6_place_73 : decode cX6_place 73 = .ok (.iconst 0, 1) := by decide +kernel
theorem dX6_place_74 : decode cX6_place 74 = .ok (.istore 5, 2) := by decide +kernel
theorem dX6_place_76 : decode cX6_place 76 = .ok (.iload 5, 2) := by decide +kernel
theorem dX6_place_78 : decode cX6_place 78 = .ok (.bipush 8, 2) := by decide +kernel
theorem dX6_place_80 : decode cX6_place 80 = .ok (.if_icmp .ge 39, 3) := by decide +kernel
theorem dX6_place_83 : decode cX6_place 83 = .ok (.aload_n 0, 1) := by decide +kernel
theorem dX6_place_84 : decode cX6_place 84 = .ok (.getfield 26, 3) := by decide +kernel
theorem dX6_place_87 : decode cX6_place 87 = .ok (.bipush 8, 2) := by decide +kernel
theorem dX6_place_89 : decode cX6_place 89 = .ok (.iload_n 1, 1) := by decide +kernel
theorem dX6_place_90 : decode cX6_place 90 = .ok (.imul, 1) := by decide +kernel
theorem dX6_place_91 : decode cX6_place 91 = .ok (.iload 5, 2) := by decide +kernel
theorem dX6_place_93 : decode cX6_place 93 = .ok (.iadd, 1) := by decide +kernel
theorem dX6_place_94 : decode cX6_place 94 = .ok (.iaload, 1) := by decide +kernel
theorem dX6_place_95 : decode cX6_place 95 = .ok (.ifCond .le 18, 3) := by decide +kernel
theorem dX6_place_98 : decode cX6_place 98 = .ok (.iload_n 3, 1) := by decide +kernel
theorem dX6_place_99 : decode cX6_place 99 = .ok (.ifCond .ge 8, 3) := by decide +kernel
theorem dX6_place_102 : decode cX6_place 102 = .ok (.iload 5, 2) := by decide +kernel
theorem dX6_place_104 : decode cX6_place 104 = .ok (.goto 4, 3) := by decide +kernel
theorem dX6_place_107 : decode cX6_place 107 = .ok (.iload_n 3, 1) := by decide +kernel
theorem dX6_place_108 : decode cX6_place 108 = .ok (.istore_n 3, 1) := by decide +kernel
theorem dX6_place_109 : decode cX6_place 109 = .ok (.iload 5, 2) := by decide +kernel
theorem dX6_place_111 : decode cX6_place 111 = .ok (.istore 4, 2) := by decide +kernel
theorem dX6_place_113 : decode cX6_place 113 = .ok (.iinc 5 1, 3) := by decide +kernel
theorem dX6_place_116 : decode cX6_place 116 = .ok (.goto (-40), 3) := by decide +kernel
theorem dX6_place_119 : decode cX6_place 119 = .ok (.iload_n 2, 1) := by decide +kernel
theorem dX6_place_120 : decode cX6_place 120 = .ok (.ifCond .ne 7, 3) := by decide +kernel
theorem dX6_place_123 : decode cX6_place 123 = .ok (.iload_n 3, 1) := by decide +kernel
theorem dX6_place_124 : decode cX6_place 124 = .ok (.goto 5, 3) := by decide +kernel
theorem dX6_place_127 : decode cX6_place 127 = .ok (.iload 4, 2) := by decide +kernel
theorem dX6_place_129 : decode cX6_place 129 = .ok (.ireturn, 1) := by decide +kernel
theorem dX6_before_0 : decode cX6_before 0 = .ok (.aload_n 0, 1) := by decide +kernel
theorem dX6_before_1 : decode cX6_before 1 = .ok (.iload_n 1, 1) := by decide +kernel
theorem dX6_before_2 : decode cX6_before 2 = .ok (.invokevirtual 58, 3) := by decide +kernel
theorem dX6_before_5 : decode cX6_before 5 = .ok (.ifCond .eq 11, 3) := by decide +kernel
theorem dX6_before_8 : decode cX6_before 8 = .ok (.aload_n 0, 1) := by decide +kernel
theorem dX6_before_9 : decode cX6_before 9 = .ok (.iload_n 2, 1) := by decide +kernel
theorem dX6_before_10 : decode cX6_before 10 = .ok (.invokevirtual 58, 3) := by decide +kernel
theorem dX6_before_13 : decode cX6_before 13 = .ok (.ifCond .ne 5, 3) := by decide +kernel
theorem dX6_before_16 : decode cX6_before 16 = .ok (.iconst (-1), 1) := by decide +kernel
theorem dX6_before_17 : decode cX6_before 17 = .ok (.ireturn, 1) := by decide +kernel
theorem dX6_before_18 : decode cX6_before 18 = .ok (.iload_n 1, 1) := by decide +kernel
theorem dX6_before_19 : decode cX6_before 19 = .ok (.iload_n 2, 1) := by decide +kernel
theorem dX6_before_20 : decode cX6_before 20 = .ok (.if_icmp .ne 6, 3) := by decide +kernel
theorem dX6_before_23 : decode cX6_before 23 = .ok (.bipush (-2), 2) := by decide +kernel
theorem dX6_before_25 : decode cX6_before 25 = .ok (.ireturn, 1) := by decide +kernel
theorem dX6_before_26 : decode cX6_before 26 = .ok (.aload_n 0, 1) := by decide +kernel
theorem dX6_before_27 : decode cX6_before 27 = .ok (.iconst 0, 1) := by decide +kernel
theorem dX6_before_28 : decode cX6_before 28 = .ok (.invokevirtual 132, 3) := by decide +kernel
theorem dX6_before_31 : decode cX6_before 31 = .ok (.aload_n 0, 1) := by decide +kernel
theorem dX6_before_32 : decode cX6_before 32 = .ok (.getfield 29, 3) := by decide +kernel
theorem dX6_before_35 : decode cX6_before 35 = .ok (.bipush 8, 2) := by decide +kernel
theorem dX6_before_37 : decode cX6_before 37 = .ok (.iload_n 1, 1) := by decide +kernel
theorem dX6_before_38 : decode cX6_before 38 = .ok (.imul, 1) := by decide +kernel
theorem dX6_before_39 : decode cX6_before 39 = .ok (.iload_n 2, 1) := by decide +kernel
theorem dX6_before_40 : decode cX6_before 40 = .ok (.iadd, 1) := by decide +kernel
theorem dX6_before_41 : decode cX6_before 41 = .ok (.iaload, 1) := by decide +kernel
theorem dX6_before_42 : decode cX6_before 42 = .ok (.ireturn, 1) := by decide +kernel
theorem dX6_together_0 : decode cX6_together 0 = .ok (.iload_n 1, 1) := by decide +kernel
theorem dX6_together_1 : decode cX6_together 1 = .ok (.iconst 1, 1) := by decide +kernel
theorem dX6_together_2 : decode cX6_together 2 = .ok (.iconst 1, 1) := by decide +kernel
theorem dX6_together_3 : decode cX6_together 3 = .ok (.aload_n 0, 1) := by decide +kernel
theorem dX6_together_4 : decode cX6_together 4 = .ok (.getfield 7, 3) := by decide +kernel
theorem dX6_together_7 : decode cX6_together 7 = .ok (.iconst 0, 1) := by decide +kernel
theorem dX6_together_8 : decode cX6_together 8 = .ok (.iaload, 1) := by decide +kernel
theorem dX6_together_9 : decode cX6_together 9 = .ok (.ishl, 1) := by decide +kernel
theorem dX6_together_10 : decode cX6_together 10 = .ok (.iconst 1, 1) := by decide +kernel
theorem dX6_together_11 : decode cX6_together 11 = .ok (.isub, 1) := by decide +kernel
theorem dX6_together_12 : decode cX6_together 12 = .ok (.invokestatic 50, 3) := by decide +kernel
theorem dX6_together_15 : decode cX6_together 15 = .ok (.ifCond .ne 6, 3) := by decide +kernel
theorem dX6_together_18 : decode cX6_together 18 = .ok (.bipush (-2), 2) := by decide +kernel
theorem dX6_together_20 : decode cX6_together 20 = .ok (.ireturn, 1) := by decide +kernel
theorem dX6_together_21 : decode cX6_together 21 = .ok (.aload_n 0, 1) := by decide +kernel
theorem dX6_together_22 : decode cX6_together 22 = .ok (.invokevirtual 104, 3) := by decide +kernel
theorem dX6_together_25 : decode cX6_together 25 = .ok (.aload_n 0, 1) := by decide +kernel
theorem dX6_together_26 : decode cX6_together 26 = .ok (.invokevirtual 91, 3) := by decide +kernel
theorem dX6_together_29 : decode cX6_together 29 = .ok (.iconst 0, 1) := by decide +kernel
theorem dX6_together_30 : decode cX6_together 30 = .ok (.istore_n 2, 1) := by decide +kernel
theorem dX6_together_31 : decode cX6_together 31 = .ok (.iconst 1, 1) := by decide +kernel
theorem dX6_together_32 : decode cX6_together 32 = .ok (.istore_n 3, 1) := by decide +kernel
theorem dX6_together_33 : decode cX6_together 33 = .ok (.iload_n 3, 1) := by decide +kernel
theorem dX6_together_34 : decode cX6_together 34 = .ok (.ifCond .eq 34, 3) := by decide +kernel
theorem dX6_together_37 : decode cX6_together 37 = .ok (.iload_n 2, 1) := by decide +kernel
theorem dX6_together_38 : decode cX6_together 38 = .ok (.aload_n 0, 1) := by decide +kernel
theorem dX6_together_39 : decode cX6_together 39 = .ok (.invokevirtual 126, 3) := by decide +kernel
theorem dX6_together_42 : decode cX6_together 42 = .ok (.ifCond .eq 15, 3) := by decide +kernel
theorem dX6_together_45 : decode cX6_together 45 = .ok (.aload_n 0, 1) := by decide +kernel
theorem dX6_together_46 : decode cX6_together 46 = .ok (.iload_n 1, 1) := by decide +kernel
theorem dX6_together_47 : decode cX6_together 47 = .ok (.invokevirtual 136, 3) := by decide +kernel
theorem dX6_together_50 : decode cX6_together 50 = .ok (.ifCond .eq 7, 3) := by decide +kernel
theorem dX6_together_53 : decode cX6_together 53 = .ok (.iconst 1, 1) := by decide +kernel
theorem dX6_together_54 : decode cX6_together 54 = .ok (.goto 4, 3) := by decide +kernel
theorem dX6_together_57 : decode cX6_together 57 = .ok (.iconst 0, 1) := by decide +kernel
theorem dX6_together_58 : decode cX6_together 58 = .ok (.iadd, 1) := by decide +kernel
theorem dX6_together_59 : decode cX6_together 59 = .ok (.istore_n 2, 1) := by decide +kernel
theorem dX6_together_60 : decode cX6_together 60 = .ok (.aload_n 0, 1) := by decide +kernel
theorem dX6_together_61 : decode cX6_together 61 = .ok (.invokevirtual 101, 3) := by decide +kernel
theorem dX6_together_64 : decode cX6_together 64 = .ok (.istore_n 3, 1) := by decide +kernel
theorem dX6_together_65 : decode cX6_together 65 = .ok (.goto (-32), 3) := by decide +kernel
theorem dX6_together_68 : decode cX6_together 68 = .ok (.iload_n 2, 1) := by decide +kernel
theorem dX6_together_69 : decode cX6_together 69 = .ok (.ireturn, 1) := by decide +kernel
theorem dX6_layClumps_0 : decode cX6_layClumps 0 = .ok (.aload_n 0, 1) := by decide +kernel
theorem dX6_layClumps_1 : decode cX6_layClumps 1 = .ok (.invokevirtual 104, 3) := by decide +kernel
theorem dX6_layClumps_4 : decode cX6_layClumps 4 = .ok (.iconst 0, 1) := by decide +kernel
theorem dX6_layClumps_5 : decode cX6_layClumps 5 = .ok (.istore_n 1, 1) := by decide +kernel
theorem dX6_layClumps_6 : decode cX6_layClumps 6 = .ok (.iload_n 1, 1) := by decide +kernel
theorem dX6_layClumps_7 : decode cX6_layClumps 7 = .ok (.sipush 256, 3) := by decide +kernel
theorem dX6_layClumps_10 : decode cX6_layClumps 10 = .ok (.if_icmp .ge 47, 3) := by decide +kernel
theorem dX6_layClumps_13 : decode cX6_layClumps 13 = .ok (.aload_n 0, 1) := by decide +kernel
theorem dX6_layClumps_14 : decode cX6_layClumps 14 = .ok (.getfield 41, 3) := by decide +kernel
theorem dX6_layClumps_17 : decode cX6_layClumps 17 = .ok (.iload_n 1, 1) := by decide +kernel
theorem dX6_layClumps_18 : decode cX6_layClumps 18 = .ok (.aload_n 0, 1) := by decide +kernel
theorem dX6_layClumps_19 : decode cX6_layClumps 19 = .ok (.getfield 87, 3) := by decide +kernel
theorem dX6_layClumps_22 : decode cX6_layClumps 22 = .ok (.ifCond .lt 27, 3) := by decide +kernel
theorem dX6_layClumps_25 : decode cX6_layClumps 25 = .ok (.iload_n 1, 1) := by decide +kernel
theorem dX6_layClumps_26 : decode cX6_layClumps 26 = .ok (.iconst 1, 1) := by decide +kernel
theorem dX6_layClumps_27 : decode cX6_layClumps 27 = .ok (.aload_n 0, 1) := by decide +kernel
theorem dX6_layClumps_28 : decode cX6_layClumps 28 = .ok (.getfield 7, 3) := by decide +kernel
theorem dX6_layClumps_31 : decode cX6_layClumps 31 = .ok (.iconst 0, 1) := by decide +kernel
theorem dX6_layClumps_32 : decode cX6_layClumps 32 = .ok (.iaload, 1) := by decide +kernel
theorem dX6_layClumps_33 : decode cX6_layClumps 33 = .ok (.ishl, 1) := by decide +kernel
theorem dX6_layClumps_34 : decode cX6_layClumps 34 = .ok (.if_icmp .ge 15, 3) := by decide +kernel
theorem dX6_layClumps_37 : decode cX6_layClumps 37 = .ok (.iload_n 1, 1) := by decide +kernel
theorem dX6_layClumps_38 : decode cX6_layClumps 38 = .ok (.invokestatic 65, 3) := by decide +kernel
theorem dX6_layClumps_41 : decode cX6_layClumps 41 = .ok (.iconst 1, 1) := by decide +kernel
theorem dX6_layClumps_42 : decode cX6_layClumps 42 = .ok (.if_icmp .le 7, 3) := by decide +kernel
theorem dX6_layClumps_45 : decode cX6_layClumps 45 = .ok (.iconst 1, 1) := by decide +kernel
theorem dX6_layClumps_46 : decode cX6_layClumps 46 = .ok (.goto 4, 3) := by decide +kernel
theorem dX6_layClumps_49 : decode cX6_layClumps 49 = .ok (.iconst 0, 1) := by decide +kernel
theorem dX6_layClumps_50 : decode cX6_layClumps 50 = .ok (.bastore, 1) := by decide +kernel
theorem dX6_layClumps_51 : decode cX6_layClumps 51 = .ok (.iinc 1 1, 3) := by decide +kernel
theorem dX6_layClumps_54 : decode cX6_layClumps 54 = .ok (.goto (-48), 3) := by decide +kernel
theorem dX6_layClumps_57 : decode cX6_layClumps 57 = .ok (.aload_n 0, 1) := by decide +kernel
theorem dX6_layClumps_58 : decode cX6_layClumps 58 = .ok (.invokevirtual 91, 3) := by decide +kernel
theorem dX6_layClumps_61 : decode cX6_layClumps 61 = .ok (.iconst 1, 1) := by decide +kernel
theorem dX6_layClumps_62 : decode cX6_layClumps 62 = .ok (.istore_n 1, 1) := by decide +kernel
theorem dX6_layClumps_63 : decode cX6_layClumps 63 = .ok (.iload_n 1, 1) := by decide +kernel
theorem dX6_layClumps_64 : decode cX6_layClumps 64 = .ok (.ifCond .eq 61, 3) := by decide +kernel
theorem dX6_layClumps_67 : decode cX6_layClumps 67 = .ok (.aload_n 0, 1) := by decide +kernel
theorem dX6_layClumps_68 : decode cX6_layClumps 68 = .ok (.invokevirtual 126, 3) := by decide +kernel
theorem dX6_layClumps_71 : decode cX6_layClumps 71 = .ok (.ifCond .eq 46, 3) := by decide +kernel
theorem dX6_layClumps_74 : decode cX6_layClumps 74 = .ok (.iconst 0, 1) := by decide +kernel
theorem dX6_layClumps_75 : decode cX6_layClumps 75 = .ok (.istore_n 2, 1) := by decide +kernel
theorem dX6_layClumps_76 : decode cX6_layClumps 76 = .ok (.iload_n 2, 1) := by decide +kernel
theorem dX6_layClumps_77 : decode cX6_layClumps 77 = .ok (.sipush 256, 3) := by decide +kernel
theorem dX6_layClumps_80 : decode cX6_layClumps 80 = .ok (.if_icmp .ge 37, 3) := by decide +kernel
theorem dX6_layClumps_83 : decode cX6_layClumps 83 = .ok (.aload_n 0, 1) := by decide +kernel
theorem dX6_layClumps_84 : decode cX6_layClumps 84 = .ok (.getfield 41, 3) := by decide +kernel
theorem dX6_layClumps_87 : decode cX6_layClumps 87 = .ok (.iload_n 2, 1) := by decide +kernel
theorem dX6_layClumps_88 : decode cX6_layClumps 88 = .ok (.aload_n 0, 1) := by decide +kernel
theorem dX6_layClumps_89 : decode cX6_layClumps 89 = .ok (.getfield 41, 3) := by decide +kernel
theorem dX6_layClumps_92 : decode cX6_layClumps 92 = .ok (.iload_n 2, 1) := by decide +kernel
theorem dX6_layClumps_93 : decode cX6_layClumps 93 = .ok (.baload, 1) := by decide +kernel
theorem dX6_layClumps_94 : decode cX6_layClumps 94 = .ok (.ifCond .eq 15, 3) := by decide +kernel
theorem dX6_layClumps_97 : decode cX6_layClumps 97 = .ok (.aload_n 0, 1) := by decide +kernel
theorem dX6_layClumps_98 : decode cX6_layClumps 98 = .ok (.iload_n 2, 1) := by decide +kernel
theorem dX6_layClumps_99 : decode cX6_layClumps 99 = .ok (.invokevirtual 136, 3) := by decide +kernel
theorem dX6_layClumps_102 : decode cX6_layClumps 102 = .ok (.ifCond .eq 7, 3) := by decide +kernel
theorem dX6_layClumps_105 : decode cX6_layClumps 105 = .ok (.iconst 1, 1) := by decide +kernel
theorem dX6_layClumps_106 : decode cX6_layClumps 106 = .ok (.goto 4, 3) := by decide +kernel
theorem dX6_layClumps_109 : decode cX6_layClumps 109 = .ok (.iconst 0, 1) := by decide +kernel
theorem dX6_layClumps_110 : decode cX6_layClumps 110 = .ok (.bastore, 1) := by decide +kernel
theorem dX6_layClumps_111 : decode cX6_layClumps 111 = .ok (.iinc 2 1, 3) := by decide +kernel
theorem dX6_layClumps_114 : decode cX6_layClumps 114 = .ok (.goto (-38), 3) := by decide +kernel
theorem dX6_layClumps_117 : decode cX6_layClumps 117 = .ok (.aload_n 0, 1) := by decide +kernel
theorem dX6_layClumps_118 : decode cX6_layClumps 118 = .ok (.invokevirtual 101, 3) := by decide +kernel
theorem dX6_layClumps_121 : decode cX6_layClumps 121 = .ok (.istore_n 1, 1) := by decide +kernel
theorem dX6_layClumps_122 : decode cX6_layClumps 122 = .ok (.goto (-59), 3) := by decide +kernel
theorem dX6_layClumps_125 : decode cX6_layClumps 125 = .ok (.return_, 1) := by decide +kernel
theorem dX6_clump_0 : decode cX6_clump 0 = .ok (.iload_n 1, 1) := by decide +kernel
theorem dX6_clump_1 : decode cX6_clump 1 = .ok (.iconst (-1), 1) := by decide +kernel
theorem dX6_clump_2 : decode cX6_clump 2 = .ok (.if_icmp .ge 6, 3) := by decide +kernel
theorem dX6_clump_5 : decode cX6_clump 5 = .ok (.bipush (-2), 2) := by decide +kernel
theorem dX6_clump_7 : decode cX6_clump 7 = .ok (.ireturn, 1) := by decide +kernel
theorem dX6_clump_8 : decode cX6_clump 8 = .ok (.aload_n 0, 1) := by decide +kernel
theorem dX6_clump_9 : decode cX6_clump 9 = .ok (.invokevirtual 139, 3) := by decide +kernel
theorem dX6_clump_12 : decode cX6_clump 12 = .ok (.iconst 0, 1) := by decide +kernel
theorem dX6_clump_13 : decode cX6_clump 13 = .ok (.istore_n 2, 1) := by decide +kernel
theorem dX6_clump_14 : decode cX6_clump 14 = .ok (.iconst 0, 1) := by decide +kernel
theorem dX6_clump_15 : decode cX6_clump 15 = .ok (.istore_n 3, 1) := by decide +kernel
theorem dX6_clump_16 : decode cX6_clump 16 = .ok (.iload_n 3, 1) := by decide +kernel
theorem dX6_clump_17 : decode cX6_clump 17 = .ok (.sipush 256, 3) := by decide +kernel
theorem dX6_clump_20 : decode cX6_clump 20 = .ok (.if_icmp .ge 28, 3) := by decide +kernel
theorem dX6_clump_23 : decode cX6_clump 23 = .ok (.aload_n 0, 1) := by decide +kernel
theorem dX6_clump_24 : decode cX6_clump 24 = .ok (.getfield 41, 3) := by decide +kernel
theorem dX6_clump_27 : decode cX6_clump 27 = .ok (.iload_n 3, 1) := by decide +kernel
theorem dX6_clump_28 : decode cX6_clump 28 = .ok (.baload, 1) := by decide +kernel
theorem dX6_clump_29 : decode cX6_clump 29 = .ok (.ifCond .eq 13, 3) := by decide +kernel
theorem dX6_clump_32 : decode cX6_clump 32 = .ok (.iload_n 2, 1) := by decide +kernel
theorem dX6_clump_33 : decode cX6_clump 33 = .ok (.iload_n 1, 1) := by decide +kernel
theorem dX6_clump_34 : decode cX6_clump 34 = .ok (.if_icmp .ne 5, 3) := by decide +kernel
theorem dX6_clump_37 : decode cX6_clump 37 = .ok (.iload_n 3, 1) := by decide +kernel
theorem dX6_clump_38 : decode cX6_clump 38 = .ok (.ireturn, 1) := by decide +kernel
theorem dX6_clump_39 : decode cX6_clump 39 = .ok (.iinc 2 1, 3) := by decide +kernel
theorem dX6_clump_42 : decode cX6_clump 42 = .ok (.iinc 3 1, 3) := by decide +kernel
theorem dX6_clump_45 : decode cX6_clump 45 = .ok (.goto (-29), 3) := by decide +kernel
theorem dX6_clump_48 : decode cX6_clump 48 = .ok (.iload_n 1, 1) := by decide +kernel
theorem dX6_clump_49 : decode cX6_clump 49 = .ok (.iconst (-1), 1) := by decide +kernel
theorem dX6_clump_50 : decode cX6_clump 50 = .ok (.if_icmp .ne 7, 3) := by decide +kernel
theorem dX6_clump_53 : decode cX6_clump 53 = .ok (.iload_n 2, 1) := by decide +kernel
theorem dX6_clump_54 : decode cX6_clump 54 = .ok (.goto 5, 3) := by decide +kernel
theorem dX6_clump_57 : decode cX6_clump 57 = .ok (.bipush (-6), 2) := by decide +kernel
theorem dX6_clump_59 : decode cX6_clump 59 = .ok (.ireturn, 1) := by decide +kernel
theorem dX6_sort_0 : decode cX6_sort 0 = .ok (.iload_n 1, 1) := by decide +kernel
theorem dX6_sort_1 : decode cX6_sort 1 = .ok (.invokestatic 62, 3) := by decide +kernel
theorem dX6_sort_4 : decode cX6_sort 4 = .ok (.ifCond .ne 5, 3) := by decide +kernel
theorem dX6_sort_7 : decode cX6_sort 7 = .ok (.iconst (-1), 1) := by decide +kernel
theorem dX6_sort_8 : decode cX6_sort 8 = .ok (.ireturn, 1) := by decide +kernel
theorem dX6_sort_9 : decode cX6_sort 9 = .ok (.iload_n 2, 1) := by decide +kernel
theorem dX6_sort_10 : decode cX6_sort 10 = .ok (.iconst 0, 1) := by decide +kernel
theorem dX6_sort_11 : decode cX6_sort 11 = .ok (.iconst 2, 1) := by decide +kernel
theorem dX6_sort_12 : decode cX6_sort 12 = .ok (.invokestatic 50, 3) := by decide +kernel
theorem dX6_sort_15 : decode cX6_sort 15 = .ok (.ifCond .ne 6, 3) := by decide +kernel
theorem dX6_sort_18 : decode cX6_sort 18 = .ok (.bipush (-2), 2) := by decide +kernel
theorem dX6_sort_20 : decode cX6_sort 20 = .ok (.ireturn, 1) := by decide +kernel
theorem dX6_sort_21 : decode cX6_sort 21 = .ok (.iconst 0, 1) := by decide +kernel
theorem dX6_sort_22 : decode cX6_sort 22 = .ok (.istore_n 3, 1) := by decide +kernel
theorem dX6_sort_23 : decode cX6_sort 23 = .ok (.iconst 0, 1) := by decide +kernel
theorem dX6_sort_24 : decode cX6_sort 24 = .ok (.istore 4, 2) := by decide +kernel
theorem dX6_sort_26 : decode cX6_sort 26 = .ok (.iload 4, 2) := by decide +kernel
theorem dX6_sort_28 : decode cX6_sort 28 = .ok (.aload_n 0, 1) := by decide +kernel
theorem dX6_sort_29 : decode cX6_sort 29 = .ok (.getfield 7, 3) := by decide +kernel
theorem dX6_sort_32 : decode cX6_sort 32 = .ok (.iconst 0, 1) := by decide +kernel
theorem dX6_sort_33 : decode cX6_sort 33 = .ok (.iaload, 1) := by decide +kernel
theorem dX6_sort_34 : decode cX6_sort 34 = .ok (.if_icmp .ge 33, 3) := by decide +kernel
theorem dX6_sort_37 : decode cX6_sort 37 = .ok (.iload_n 3, 1) := by decide +kernel
theorem dX6_sort_38 : decode cX6_sort 38 = .ok (.aload_n 0, 1) := by decide +kernel
theorem dX6_sort_39 : decode cX6_sort 39 = .ok (.getfield 7, 3) := by decide +kernel
theorem dX6_sort_42 : decode cX6_sort 42 = .ok (.iconst 1, 1) := by decide +kernel
theorem dX6_sort_43 : decode cX6_sort 43 = .ok (.iload 4, 2) := by decide +kernel
theorem dX6_sort_45 : decode cX6_sort 45 = .ok (.iadd, 1) := by decide +kernel
theorem dX6_sort_46 : decode cX6_sort 46 = .ok (.iaload, 1) := by decide +kernel
theorem dX6_sort_47 : decode cX6_sort 47 = .ok (.iload_n 1, 1) := by decide +kernel
theorem dX6_sort_48 : decode cX6_sort 48 = .ok (.invokestatic 73, 3) := by decide +kernel
theorem dX6_sort_51 : decode cX6_sort 51 = .ok (.ifCond .eq 7, 3) := by decide +kernel
theorem dX6_sort_54 : decode cX6_sort 54 = .ok (.iconst 1, 1) := by decide +kernel
theorem dX6_sort_55 : decode cX6_sort 55 = .ok (.goto 4, 3) := by decide +kernel
theorem dX6_sort_58 : decode cX6_sort 58 = .ok (.iconst 0, 1) := by decide +kernel
theorem dX6_sort_59 : decode cX6_sort 59 = .ok (.iadd, 1) := by decide +kernel
theorem dX6_sort_60 : decode cX6_sort 60 = .ok (.istore_n 3, 1) := by decide +kernel
theorem dX6_sort_61 : decode cX6_sort 61 = .ok (.iinc 4 1, 3) := by decide +kernel
theorem dX6_sort_64 : decode cX6_sort 64 = .ok (.goto (-38), 3) := by decide +kernel
theorem dX6_sort_67 : decode cX6_sort 67 = .ok (.iload_n 2, 1) := by decide +kernel
theorem dX6_sort_68 : decode cX6_sort 68 = .ok (.ifCond .ne 5, 3) := by decide +kernel
theorem dX6_sort_71 : decode cX6_sort 71 = .ok (.iload_n 3, 1) := by decide +kernel
theorem dX6_sort_72 : decode cX6_sort 72 = .ok (.ireturn, 1) := by decide +kernel
theorem dX6_sort_73 : decode cX6_sort 73 = .ok (.iload_n 2, 1) := by decide +kernel
theorem dX6_sort_74 : decode cX6_sort 74 = .ok (.iconst 1, 1) := by decide +kernel
theorem dX6_sort_75 : decode cX6_sort 75 = .ok (.if_icmp .ne 13, 3) := by decide +kernel
theorem dX6_sort_78 : decode cX6_sort 78 = .ok (.aload_n 0, 1) := by decide +kernel
theorem dX6_sort_79 : decode cX6_sort 79 = .ok (.invokevirtual 142, 3) := by decide +kernel
theorem dX6_sort_82 : decode cX6_sort 82 = .ok (.aload_n 0, 1) := by decide +kernel
theorem dX6_sort_83 : decode cX6_sort 83 = .ok (.iload_n 1, 1) := by decide +kernel
theorem dX6_sort_84 : decode cX6_sort 84 = .ok (.invokevirtual 80, 3) := by decide +kernel
theorem dX6_sort_87 : decode cX6_sort 87 = .ok (.ireturn, 1) := by decide +kernel
theorem dX6_sort_88 : decode cX6_sort 88 = .ok (.aload_n 0, 1) := by decide +kernel
theorem dX6_sort_89 : decode cX6_sort 89 = .ok (.iconst 0, 1) := by decide +kernel
theorem dX6_sort_90 : decode cX6_sort 90 = .ok (.invokevirtual 132, 3) := by decide +kernel
theorem dX6_sort_93 : decode cX6_sort 93 = .ok (.aload_n 0, 1) := by decide +kernel
theorem dX6_sort_94 : decode cX6_sort 94 = .ok (.getfield 38, 3) := by decide +kernel
theorem dX6_sort_97 : decode cX6_sort 97 = .ok (.iload_n 1, 1) := by decide +kernel
theorem dX6_sort_98 : decode cX6_sort 98 = .ok (.iaload, 1) := by decide +kernel
theorem dX6_sort_99 : decode cX6_sort 99 = .ok (.ireturn, 1) := by decide +kernel
theorem dX6_row_0 : decode cX6_row 0 = .ok (.iload_n 1, 1) := by decide +kernel
theorem dX6_row_1 : decode cX6_row 1 = .ok (.iconst 0, 1) := by decide +kernel
theorem dX6_row_2 : decode cX6_row 2 = .ok (.aload_n 0, 1) := by decide +kernel
theorem dX6_row_3 : decode cX6_row 3 = .ok (.getfield 7, 3) := by decide +kernel
theorem dX6_row_6 : decode cX6_row 6 = .ok (.iconst 0, 1) := by decide +kernel
theorem dX6_row_7 : decode cX6_row 7 = .ok (.iaload, 1) := by decide +kernel
theorem dX6_row_8 : decode cX6_row 8 = .ok (.iconst 1, 1) := by decide +kernel
theorem dX6_row_9 : decode cX6_row 9 = .ok (.isub, 1) := by decide +kernel
theorem dX6_row_10 : decode cX6_row 10 = .ok (.invokestatic 50, 3) := by decide +kernel
theorem dX6_row_13 : decode cX6_row 13 = .ok (.ifCond .eq 15, 3) := by decide +kernel
theorem dX6_row_16 : decode cX6_row 16 = .ok (.aload_n 0, 1) := by decide +kernel
theorem dX6_row_17 : decode cX6_row 17 = .ok (.getfield 7, 3) := by decide +kernel
theorem dX6_row_20 : decode cX6_row 20 = .ok (.bipush 17, 2) := by decide +kernel
theorem dX6_row_22 : decode cX6_row 22 = .ok (.iload_n 1, 1) := by decide +kernel
theorem dX6_row_23 : decode cX6_row 23 = .ok (.iadd, 1) := by decide +kernel
theorem dX6_row_24 : decode cX6_row 24 = .ok (.iaload, 1) := by decide +kernel
theorem dX6_row_25 : decode cX6_row 25 = .ok (.goto 5, 3) := by decide +kernel
theorem dX6_row_28 : decode cX6_row 28 = .ok (.bipush (-2), 2) := by decide +kernel
theorem dX6_row_30 : decode cX6_row 30 = .ok (.ireturn, 1) := by decide +kernel
theorem dX6_breaks_0 : decode cX6_breaks 0 = .ok (.iload_n 1, 1) := by decide +kernel
theorem dX6_breaks_1 : decode cX6_breaks 1 = .ok (.iconst 0, 1) := by decide +kernel
theorem dX6_breaks_2 : decode cX6_breaks 2 = .ok (.iconst 2, 1) := by decide +kernel
theorem dX6_breaks_3 : decode cX6_breaks 3 = .ok (.invokestatic 50, 3) := by decide +kernel
theorem dX6_breaks_6 : decode cX6_breaks 6 = .ok (.ifCond .ne 6, 3) := by decide +kernel
theorem dX6_breaks_9 : decode cX6_breaks 9 = .ok (.bipush (-2), 2) := by decide +kernel
theorem dX6_breaks_11 : decode cX6_breaks 11 = .ok (.ireturn, 1) := by decide +kernel
theorem dX6_breaks_12 : decode cX6_breaks 12 = .ok (.aload_n 0, 1) := by decide +kernel
theorem dX6_breaks_13 : decode cX6_breaks 13 = .ok (.invokevirtual 104, 3) := by decide +kernel
theorem dX6_breaks_16 : decode cX6_breaks 16 = .ok (.aload_n 0, 1) := by decide +kernel
theorem dX6_breaks_17 : decode cX6_breaks 17 = .ok (.invokevirtual 142, 3) := by decide +kernel
theorem dX6_breaks_20 : decode cX6_breaks 20 = .ok (.iload_n 1, 1) := by decide +kernel
theorem dX6_breaks_21 : decode cX6_breaks 21 = .ok (.ifCond .ne 10, 3) := by decide +kernel
theorem dX6_breaks_24 : decode cX6_breaks 24 = .ok (.aload_n 0, 1) := by decide +kernel
theorem dX6_breaks_25 : decode cX6_breaks 25 = .ok (.invokevirtual 98, 3) := by decide +kernel
theorem dX6_breaks_28 : decode cX6_breaks 28 = .ok (.goto 35, 3) := by decide +kernel
theorem dX6_breaks_31 : decode cX6_breaks 31 = .ok (.iload_n 1, 1) := by decide +kernel
theorem dX6_breaks_32 : decode cX6_breaks 32 = .ok (.iconst 1, 1) := by decide +kernel
theorem dX6_breaks_33 : decode cX6_breaks 33 = .ok (.if_icmp .ne 18, 3) := by decide +kernel
theorem dX6_breaks_36 : decode cX6_breaks 36 = .ok (.aload_n 0, 1) := by decide +kernel
theorem dX6_breaks_37 : decode cX6_breaks 37 = .ok (.invokevirtual 94, 3) := by decide +kernel
theorem dX6_breaks_40 : decode cX6_breaks 40 = .ok (.ifCond .eq 7, 3) := by decide +kernel
theorem dX6_breaks_43 : decode cX6_breaks 43 = .ok (.iconst 1, 1) := by decide +kernel
theorem dX6_breaks_44 : decode cX6_breaks 44 = .ok (.goto 19, 3) := by decide +kernel
theorem dX6_breaks_47 : decode cX6_breaks 47 = .ok (.iconst 0, 1) := by decide +kernel
theorem dX6_breaks_48 : decode cX6_breaks 48 = .ok (.goto 15, 3) := by decide +kernel
theorem dX6_breaks_51 : decode cX6_breaks 51 = .ok (.aload_n 0, 1) := by decide +kernel
theorem dX6_breaks_52 : decode cX6_breaks 52 = .ok (.invokevirtual 126, 3) := by decide +kernel
theorem dX6_breaks_55 : decode cX6_breaks 55 = .ok (.ifCond .eq 7, 3) := by decide +kernel
theorem dX6_breaks_58 : decode cX6_breaks 58 = .ok (.iconst 1, 1) := by decide +kernel
theorem dX6_breaks_59 : decode cX6_breaks 59 = .ok (.goto 4, 3) := by decide +kernel
theorem dX6_breaks_62 : decode cX6_breaks 62 = .ok (.iconst 0, 1) := by decide +kernel
theorem dX6_breaks_63 : decode cX6_breaks 63 = .ok (.ireturn, 1) := by decide +kernel
theorem dX6_swapRow_0 : decode cX6_swapRow 0 = .ok (.aload_n 0, 1) := by decide +kernel
theorem dX6_swapRow_1 : decode cX6_swapRow 1 = .ok (.getfield 7, 3) := by decide +kernel
theorem dX6_swapRow_4 : decode cX6_swapRow 4 = .ok (.bipush 17, 2) := by decide +kernel
theorem dX6_swapRow_6 : decode cX6_swapRow 6 = .ok (.iload_n 1, 1) := by decide +kernel
theorem dX6_swapRow_7 : decode cX6_swapRow 7 = .ok (.iadd, 1) := by decide +kernel
theorem dX6_swapRow_8 : decode cX6_swapRow 8 = .ok (.iaload, 1) := by decide +kernel
theorem dX6_swapRow_9 : decode cX6_swapRow 9 = .ok (.istore_n 2, 1) := by decide +kernel
theorem dX6_swapRow_10 : decode cX6_swapRow 10 = .ok (.aload_n 0, 1) := by decide +kernel
theorem dX6_swapRow_11 : decode cX6_swapRow 11 = .ok (.getfield 7, 3) := by decide +kernel
theorem dX6_swapRow_14 : decode cX6_swapRow 14 = .ok (.bipush 17, 2) := by decide +kernel
theorem dX6_swapRow_16 : decode cX6_swapRow 16 = .ok (.iload_n 1, 1) := by decide +kernel
theorem dX6_swapRow_17 : decode cX6_swapRow 17 = .ok (.iadd, 1) := by decide +kernel
theorem dX6_swapRow_18 : decode cX6_swapRow 18 = .ok (.aload_n 0, 1) := by decide +kernel
theorem dX6_swapRow_19 : decode cX6_swapRow 19 = .ok (.getfield 7, 3) := by decide +kernel
theorem dX6_swapRow_22 : decode cX6_swapRow 22 = .ok (.bipush 17, 2) := by decide +kernel
theorem dX6_swapRow_24 : decode cX6_swapRow 24 = .ok (.iload_n 1, 1) := by decide +kernel
theorem dX6_swapRow_25 : decode cX6_swapRow 25 = .ok (.iadd, 1) := by decide +kernel
theorem dX6_swapRow_26 : decode cX6_swapRow 26 = .ok (.iconst 1, 1) := by decide +kernel
theorem dX6_swapRow_27 : decode cX6_swapRow 27 = .ok (.iadd, 1) := by decide +kernel
theorem dX6_swapRow_28 : decode cX6_swapRow 28 = .ok (.iaload, 1) := by decide +kernel
theorem dX6_swapRow_29 : decode cX6_swapRow 29 = .ok (.iastore, 1) := by decide +kernel
theorem dX6_swapRow_30 : decode cX6_swapRow 30 = .ok (.aload_n 0, 1) := by decide +kernel
theorem dX6_swapRow_31 : decode cX6_swapRow 31 = .ok (.getfield 7, 3) := by decide +kernel
theorem dX6_swapRow_34 : decode cX6_swapRow 34 = .ok (.bipush 17, 2) := by decide +kernel
theorem dX6_swapRow_36 : decode cX6_swapRow 36 = .ok (.iload_n 1, 1) := by decide +kernel
theorem dX6_swapRow_37 : decode cX6_swapRow 37 = .ok (.iadd, 1) := by decide +kernel
theorem dX6_swapRow_38 : decode cX6_swapRow 38 = .ok (.iconst 1, 1) := by decide +kernel
theorem dX6_swapRow_39 : decode cX6_swapRow 39 = .ok (.iadd, 1) := by decide +kernel
theorem dX6_swapRow_40 : decode cX6_swapRow 40 = .ok (.iload_n 2, 1) := by decide +kernel
theorem dX6_swapRow_41 : decode cX6_swapRow 41 = .ok (.iastore, 1) := by decide +kernel
theorem dX6_swapRow_42 : decode cX6_swapRow 42 = .ok (.return_, 1) := by decide +kernel
theorem dX6_rowBreaks_0 : decode cX6_rowBreaks 0 = .ok (.aload_n 0, 1) := by decide +kernel
theorem dX6_rowBreaks_1 : decode cX6_rowBreaks 1 = .ok (.invokevirtual 142, 3) := by decide +kernel
theorem dX6_rowBreaks_4 : decode cX6_rowBreaks 4 = .ok (.aload_n 0, 1) := by decide +kernel
theorem dX6_rowBreaks_5 : decode cX6_rowBreaks 5 = .ok (.invokevirtual 98, 3) := by decide +kernel
theorem dX6_rowBreaks_8 : decode cX6_rowBreaks 8 = .ok (.ireturn, 1) := by decide +kernel
theorem dX6_swap_0 : decode cX6_swap 0 = .ok (.iload_n 1, 1) := by decide +kernel
theorem dX6_swap_1 : decode cX6_swap 1 = .ok (.iconst 0, 1) := by decide +kernel
theorem dX6_swap_2 : decode cX6_swap 2 = .ok (.aload_n 0, 1) := by decide +kernel
theorem dX6_swap_3 : decode cX6_swap 3 = .ok (.getfield 7, 3) := by decide +kernel
theorem dX6_swap_6 : decode cX6_swap 6 = .ok (.iconst 0, 1) := by decide +kernel
theorem dX6_swap_7 : decode cX6_swap 7 = .ok (.iaload, 1) := by decide +kernel
theorem dX6_swap_8 : decode cX6_swap 8 = .ok (.iconst 2, 1) := by decide +kernel
theorem dX6_swap_9 : decode cX6_swap 9 = .ok (.isub, 1) := by decide +kernel
theorem dX6_swap_10 : decode cX6_swap 10 = .ok (.invokestatic 50, 3) := by decide +kernel
theorem dX6_swap_13 : decode cX6_swap 13 = .ok (.ifCond .ne 6, 3) := by decide +kernel
theorem dX6_swap_16 : decode cX6_swap 16 = .ok (.bipush (-2), 2) := by decide +kernel
theorem dX6_swap_18 : decode cX6_swap 18 = .ok (.ireturn, 1) := by decide +kernel
theorem dX6_swap_19 : decode cX6_swap 19 = .ok (.aload_n 0, 1) := by decide +kernel
theorem dX6_swap_20 : decode cX6_swap 20 = .ok (.iload_n 1, 1) := by decide +kernel
theorem dX6_swap_21 : decode cX6_swap 21 = .ok (.invokevirtual 145, 3) := by decide +kernel
theorem dX6_swap_24 : decode cX6_swap 24 = .ok (.aload_n 0, 1) := by decide +kernel
theorem dX6_swap_25 : decode cX6_swap 25 = .ok (.invokevirtual 148, 3) := by decide +kernel
theorem dX6_swap_28 : decode cX6_swap 28 = .ok (.ireturn, 1) := by decide +kernel
theorem dX6_makeBest_0 : decode cX6_makeBest 0 = .ok (.aload_n 0, 1) := by decide +kernel
theorem dX6_makeBest_1 : decode cX6_makeBest 1 = .ok (.invokevirtual 148, 3) := by decide +kernel
theorem dX6_makeBest_4 : decode cX6_makeBest 4 = .ok (.istore_n 1, 1) := by decide +kernel
theorem dX6_makeBest_5 : decode cX6_makeBest 5 = .ok (.bipush (-6), 2) := by decide +kernel
theorem dX6_makeBest_7 : decode cX6_makeBest 7 = .ok (.istore_n 2, 1) := by decide +kernel
theorem dX6_makeBest_8 : decode cX6_makeBest 8 = .ok (.iconst 0, 1) := by decide +kernel
theorem dX6_makeBest_9 : decode cX6_makeBest 9 = .ok (.istore_n 3, 1) := by decide +kernel
theorem dX6_makeBest_10 : decode cX6_makeBest 10 = .ok (.iload_n 3, 1) := by decide +kernel
theorem dX6_makeBest_11 : decode cX6_makeBest 11 = .ok (.aload_n 0, 1) := by decide +kernel
theorem dX6_makeBest_12 : decode cX6_makeBest 12 = .ok (.getfield 7, 3) := by decide +kernel
theorem dX6_makeBest_15 : decode cX6_makeBest 15 = .ok (.iconst 0, 1) := by decide +kernel
theorem dX6_makeBest_16 : decode cX6_makeBest 16 = .ok (.iaload, 1) := by decide +kernel
theorem dX6_makeBest_17 : decode cX6_makeBest 17 = .ok (.iconst 1, 1) := by decide +kernel
theorem dX6_makeBest_18 : decode cX6_makeBest 18 = .ok (.isub, 1) := by decide +kernel
theorem dX6_makeBest_19 : decode cX6_makeBest 19 = .ok (.if_icmp .ge 50, 3) := by decide +kernel
theorem dX6_makeBest_22 : decode cX6_makeBest 22 = .ok (.aload_n 0, 1) := by decide +kernel
theorem dX6_makeBest_23 : decode cX6_makeBest 23 = .ok (.iload_n 3, 1) := by decide +kernel
theorem dX6_makeBest_24 : decode cX6_makeBest 24 = .ok (.invokevirtual 145, 3) := by decide +kernel
theorem dX6_makeBest_27 : decode cX6_makeBest 27 = .ok (.aload_n 0, 1) := by decide +kernel
theorem dX6_makeBest_28 : decode cX6_makeBest 28 = .ok (.invokevirtual 148, 3) := by decide +kernel
theorem dX6_makeBest_31 : decode cX6_makeBest 31 = .ok (.istore 4, 2) := by decide +kernel
theorem dX6_makeBest_33 : decode cX6_makeBest 33 = .ok (.aload_n 0, 1) := by decide +kernel
theorem dX6_makeBest_34 : decode cX6_makeBest 34 = .ok (.iload_n 3, 1) := by decide +kernel
theorem dX6_makeBest_35 : decode cX6_makeBest 35 = .ok (.invokevirtual 145, 3) := by decide +kernel
theorem dX6_makeBest_38 : decode cX6_makeBest 38 = .ok (.iload 4, 2) := by decide +kernel
theorem dX6_makeBest_40 : decode cX6_makeBest 40 = .ok (.iload_n 1, 1) := by decide +kernel
theorem dX6_makeBest_41 : decode cX6_makeBest 41 = .ok (.if_icmp .ge 7, 3) := by decide +kernel
theorem dX6_makeBest_44 : decode cX6_makeBest 44 = .ok (.iload_n 3, 1) := by decide +kernel
theorem dX6_makeBest_45 : decode cX6_makeBest 45 = .ok (.goto 4, 3) := by decide +kernel
theorem dX6_makeBest_48 : decode cX6_makeBest 48 = .ok (.iload_n 2, 1) := by decide +kernel
theorem dX6_makeBest_49 : decode cX6_makeBest 49 = .ok (.istore_n 2, 1) := by decide +kernel
theorem dX6_makeBest_50 : decode cX6_makeBest 50 = .ok (.iload 4, 2) := by decide +kernel
theorem dX6_makeBest_52 : decode cX6_makeBest 52 = .ok (.iload_n 1, 1) := by decide +kernel
theorem dX6_makeBest_53 : decode cX6_makeBest 53 = .ok (.if_icmp .ge 8, 3) := by decide +kernel
theorem dX6_makeBest_56 : decode cX6_makeBest 56 = .ok (.iload 4, 2) := by decide +kernel
theorem dX6_makeBest_58 : decode cX6_makeBest 58 = .ok (.goto 4, 3) := by decide +kernel
theorem dX6_makeBest_61 : decode cX6_makeBest 61 = .ok (.iload_n 1, 1) := by decide +kernel
theorem dX6_makeBest_62 : decode cX6_makeBest 62 = .ok (.istore_n 1, 1) := by decide +kernel
theorem dX6_makeBest_63 : decode cX6_makeBest 63 = .ok (.iinc 3 1, 3) := by decide +kernel
theorem dX6_makeBest_66 : decode cX6_makeBest 66 = .ok (.goto (-56), 3) := by decide +kernel
theorem dX6_makeBest_69 : decode cX6_makeBest 69 = .ok (.iload_n 2, 1) := by decide +kernel
theorem dX6_makeBest_70 : decode cX6_makeBest 70 = .ok (.ifCond .lt 8, 3) := by decide +kernel
theorem dX6_makeBest_73 : decode cX6_makeBest 73 = .ok (.aload_n 0, 1) := by decide +kernel
theorem dX6_makeBest_74 : decode cX6_makeBest 74 = .ok (.iload_n 2, 1) := by decide +kernel
theorem dX6_makeBest_75 : decode cX6_makeBest 75 = .ok (.invokevirtual 145, 3) := by decide +kernel
theorem dX6_makeBest_78 : decode cX6_makeBest 78 = .ok (.iload_n 2, 1) := by decide +kernel
theorem dX6_makeBest_79 : decode cX6_makeBest 79 = .ok (.ireturn, 1) := by decide +kernel
theorem dX6_better_0 : decode cX6_better 0 = .ok (.aload_n 0, 1) := by decide +kernel
theorem dX6_better_1 : decode cX6_better 1 = .ok (.invokevirtual 151, 3) := by decide +kernel
theorem dX6_better_4 : decode cX6_better 4 = .ok (.ireturn, 1) := by decide +kernel
theorem dX6_climb_0 : decode cX6_climb 0 = .ok (.iconst 0, 1) := by decide +kernel
theorem dX6_climb_1 : decode cX6_climb 1 = .ok (.istore_n 1, 1) := by decide +kernel
theorem dX6_climb_2 : decode cX6_climb 2 = .ok (.aload_n 0, 1) := by decide +kernel
theorem dX6_climb_3 : decode cX6_climb 3 = .ok (.invokevirtual 151, 3) := by decide +kernel
theorem dX6_climb_6 : decode cX6_climb 6 = .ok (.ifCond .lt 9, 3) := by decide +kernel
theorem dX6_climb_9 : decode cX6_climb 9 = .ok (.iinc 1 1, 3) := by decide +kernel
theorem dX6_climb_12 : decode cX6_climb 12 = .ok (.goto (-10), 3) := by decide +kernel
theorem dX6_climb_15 : decode cX6_climb 15 = .ok (.iload_n 1, 1) := by decide +kernel
theorem dX6_climb_16 : decode cX6_climb 16 = .ok (.ireturn, 1) := by decide +kernel
theorem dX6_nearest_0 : decode cX6_nearest 0 = .ok (.iload_n 1, 1) := by decide +kernel
theorem dX6_nearest_1 : decode cX6_nearest 1 = .ok (.iconst (-1), 1) := by decide +kernel
theorem dX6_nearest_2 : decode cX6_nearest 2 = .ok (.aload_n 0, 1) := by decide +kernel
theorem dX6_nearest_3 : decode cX6_nearest 3 = .ok (.getfield 7, 3) := by decide +kernel
theorem dX6_nearest_6 : decode cX6_nearest 6 = .ok (.iconst 0, 1) := by decide +kernel
theorem dX6_nearest_7 : decode cX6_nearest 7 = .ok (.iaload, 1) := by decide +kernel
theorem dX6_nearest_8 : decode cX6_nearest 8 = .ok (.iconst 1, 1) := by decide +kernel
theorem dX6_nearest_9 : decode cX6_nearest 9 = .ok (.isub, 1) := by decide +kernel
theorem dX6_nearest_10 : decode cX6_nearest 10 = .ok (.invokestatic 50, 3) := by decide +kernel
theorem dX6_nearest_13 : decode cX6_nearest 13 = .ok (.ifCond .ne 6, 3) := by decide +kernel
theorem dX6_nearest_16 : decode cX6_nearest 16 = .ok (.bipush (-2), 2) := by decide +kernel
theorem dX6_nearest_18 : decode cX6_nearest 18 = .ok (.ireturn, 1) := by decide +kernel
theorem dX6_nearest_19 : decode cX6_nearest 19 = .ok (.aload_n 0, 1) := by decide +kernel
theorem dX6_nearest_20 : decode cX6_nearest 20 = .ok (.iconst 0, 1) := by decide +kernel
theorem dX6_nearest_21 : decode cX6_nearest 21 = .ok (.invokevirtual 132, 3) := by decide +kernel
theorem dX6_nearest_24 : decode cX6_nearest 24 = .ok (.aload_n 0, 1) := by decide +kernel
theorem dX6_nearest_25 : decode cX6_nearest 25 = .ok (.getfield 107, 3) := by decide +kernel
theorem dX6_nearest_28 : decode cX6_nearest 28 = .ok (.ifCond .ne 8, 3) := by decide +kernel
theorem dX6_nearest_31 : decode cX6_nearest 31 = .ok (.bipush (-6), 2) := by decide +kernel
theorem dX6_nearest_33 : decode cX6_nearest 33 = .ok (.goto 21, 3) := by decide +kernel
theorem dX6_nearest_36 : decode cX6_nearest 36 = .ok (.iload_n 1, 1) := by decide +kernel
theorem dX6_nearest_37 : decode cX6_nearest 37 = .ok (.iconst (-1), 1) := by decide +kernel
theorem dX6_nearest_38 : decode cX6_nearest 38 = .ok (.if_icmp .ne 10, 3) := by decide +kernel
theorem dX6_nearest_41 : decode cX6_nearest 41 = .ok (.aload_n 0, 1) := by decide +kernel
theorem dX6_nearest_42 : decode cX6_nearest 42 = .ok (.getfield 123, 3) := by decide +kernel
theorem dX6_nearest_45 : decode cX6_nearest 45 = .ok (.goto 9, 3) := by decide +kernel
theorem dX6_nearest_48 : decode cX6_nearest 48 = .ok (.aload_n 0, 1) := by decide +kernel
theorem dX6_nearest_49 : decode cX6_nearest 49 = .ok (.getfield 44, 3) := by decide +kernel
theorem dX6_nearest_52 : decode cX6_nearest 52 = .ok (.iload_n 1, 1) := by decide +kernel
theorem dX6_nearest_53 : decode cX6_nearest 53 = .ok (.iaload, 1) := by decide +kernel
theorem dX6_nearest_54 : decode cX6_nearest 54 = .ok (.ireturn, 1) := by decide +kernel
theorem dX6_settle_0 : decode cX6_settle 0 = .ok (.aload_n 0, 1) := by decide +kernel
theorem dX6_settle_1 : decode cX6_settle 1 = .ok (.iconst 0, 1) := by decide +kernel
theorem dX6_settle_2 : decode cX6_settle 2 = .ok (.invokevirtual 132, 3) := by decide +kernel
theorem dX6_settle_5 : decode cX6_settle 5 = .ok (.aload_n 0, 1) := by decide +kernel
theorem dX6_settle_6 : decode cX6_settle 6 = .ok (.getfield 107, 3) := by decide +kernel
theorem dX6_settle_9 : decode cX6_settle 9 = .ok (.ifCond .ne 6, 3) := by decide +kernel
theorem dX6_settle_12 : decode cX6_settle 12 = .ok (.bipush (-3), 2) := by decide +kernel
theorem dX6_settle_14 : decode cX6_settle 14 = .ok (.ireturn, 1) := by decide +kernel
theorem dX6_settle_15 : decode cX6_settle 15 = .ok (.iconst 0, 1) := by decide +kernel
theorem dX6_settle_16 : decode cX6_settle 16 = .ok (.istore_n 1, 1) := by decide +kernel
theorem dX6_settle_17 : decode cX6_settle 17 = .ok (.iload_n 1, 1) := by decide +kernel
theorem dX6_settle_18 : decode cX6_settle 18 = .ok (.aload_n 0, 1) := by decide +kernel
theorem dX6_settle_19 : decode cX6_settle 19 = .ok (.getfield 7, 3) := by decide +kernel
theorem dX6_settle_22 : decode cX6_settle 22 = .ok (.iconst 0, 1) := by decide +kernel
theorem dX6_settle_23 : decode cX6_settle 23 = .ok (.iaload, 1) := by decide +kernel
theorem dX6_settle_24 : decode cX6_settle 24 = .ok (.if_icmp .ge 24, 3) := by decide +kernel
theorem dX6_settle_27 : decode cX6_settle 27 = .ok (.aload_n 0, 1) := by decide +kernel
theorem dX6_settle_28 : decode cX6_settle 28 = .ok (.getfield 7, 3) := by decide +kernel
theorem dX6_settle_31 : decode cX6_settle 31 = .ok (.bipush 17, 2) := by decide +kernel
theorem dX6_settle_33 : decode cX6_settle 33 = .ok (.iload_n 1, 1) := by decide +kernel
theorem dX6_settle_34 : decode cX6_settle 34 = .ok (.iadd, 1) := by decide +kernel
theorem dX6_settle_35 : decode cX6_settle 35 = .ok (.aload_n 0, 1) := by decide +kernel
theorem dX6_settle_36 : decode cX6_settle 36 = .ok (.getfield 44, 3) := by decide +kernel
theorem dX6_settle_39 : decode cX6_settle 39 = .ok (.iload_n 1, 1) := by decide +kernel
theorem dX6_settle_40 : decode cX6_settle 40 = .ok (.iaload, 1) := by decide +kernel
theorem dX6_settle_41 : decode cX6_settle 41 = .ok (.iastore, 1) := by decide +kernel
theorem dX6_settle_42 : decode cX6_settle 42 = .ok (.iinc 1 1, 3) := by decide +kernel
theorem dX6_settle_45 : decode cX6_settle 45 = .ok (.goto (-28), 3) := by decide +kernel
theorem dX6_settle_48 : decode cX6_settle 48 = .ok (.aload_n 0, 1) := by decide +kernel
theorem dX6_settle_49 : decode cX6_settle 49 = .ok (.getfield 123, 3) := by decide +kernel
theorem dX6_settle_52 : decode cX6_settle 52 = .ok (.ireturn, 1) := by decide +kernel
theorem dX6_count_0 : decode cX6_count 0 = .ok (.iconst 0, 1) := by decide +kernel
theorem dX6_count_1 : decode cX6_count 1 = .ok (.istore_n 2, 1) := by decide +kernel
theorem dX6_count_2 : decode cX6_count 2 = .ok (.iconst 0, 1) := by decide +kernel
theorem dX6_count_3 : decode cX6_count 3 = .ok (.istore_n 3, 1) := by decide +kernel
theorem dX6_count_4 : decode cX6_count 4 = .ok (.iload_n 3, 1) := by decide +kernel
theorem dX6_count_5 : decode cX6_count 5 = .ok (.bipush 8, 2) := by decide +kernel
theorem dX6_count_7 : decode cX6_count 7 = .ok (.if_icmp .ge 23, 3) := by decide +kernel
theorem dX6_count_10 : decode cX6_count 10 = .ok (.iload_n 2, 1) := by decide +kernel
theorem dX6_count_11 : decode cX6_count 11 = .ok (.aload_n 0, 1) := by decide +kernel
theorem dX6_count_12 : decode cX6_count 12 = .ok (.getfield 7, 3) := by decide +kernel
theorem dX6_count_15 : decode cX6_count 15 = .ok (.iconst 1, 1) := by decide +kernel
theorem dX6_count_16 : decode cX6_count 16 = .ok (.iload_n 3, 1) := by decide +kernel
theorem dX6_count_17 : decode cX6_count 17 = .ok (.iadd, 1) := by decide +kernel
theorem dX6_count_18 : decode cX6_count 18 = .ok (.iaload, 1) := by decide +kernel
theorem dX6_count_19 : decode cX6_count 19 = .ok (.invokestatic 65, 3) := by decide +kernel
theorem dX6_count_22 : decode cX6_count 22 = .ok (.iadd, 1) := by decide +kernel
theorem dX6_count_23 : decode cX6_count 23 = .ok (.istore_n 2, 1) := by decide +kernel
theorem dX6_count_24 : decode cX6_count 24 = .ok (.iinc 3 1, 3) := by decide +kernel
theorem dX6_count_27 : decode cX6_count 27 = .ok (.goto (-23), 3) := by decide +kernel
theorem dX6_count_30 : decode cX6_count 30 = .ok (.iload_n 1, 1) := by decide +kernel
theorem dX6_count_31 : decode cX6_count 31 = .ok (.tableswitch 73 0 3 #[29, 36, 38, 43], 29) := by decide +kernel
theorem dX6_count_60 : decode cX6_count 60 = .ok (.aload_n 0, 1) := by decide +kernel
theorem dX6_count_61 : decode cX6_count 61 = .ok (.getfield 7, 3) := by decide +kernel
theorem dX6_count_64 : decode cX6_count 64 = .ok (.iconst 0, 1) := by decide +kernel
theorem dX6_count_65 : decode cX6_count 65 = .ok (.iaload, 1) := by decide +kernel
theorem dX6_count_66 : decode cX6_count 66 = .ok (.ireturn, 1) := by decide +kernel
theorem dX6_count_67 : decode cX6_count 67 = .ok (.iload_n 2, 1) := by decide +kernel
theorem dX6_count_68 : decode cX6_count 68 = .ok (.ireturn, 1) := by decide +kernel
theorem dX6_count_69 : decode cX6_count 69 = .ok (.aload_n 0, 1) := by decide +kernel
theorem dX6_count_70 : decode cX6_count 70 = .ok (.invokevirtual 69, 3) := by decide +kernel
theorem dX6_count_73 : decode cX6_count 73 = .ok (.ireturn, 1) := by decide +kernel
theorem dX6_count_74 : decode cX6_count 74 = .ok (.aload_n 0, 1) := by decide +kernel
theorem dX6_count_75 : decode cX6_count 75 = .ok (.getfield 16, 3) := by decide +kernel
theorem dX6_count_78 : decode cX6_count 78 = .ok (.iconst 0, 1) := by decide +kernel
theorem dX6_count_79 : decode cX6_count 79 = .ok (.baload, 1) := by decide +kernel
theorem dX6_count_80 : decode cX6_count 80 = .ok (.ifCond .eq 7, 3) := by decide +kernel
theorem dX6_count_83 : decode cX6_count 83 = .ok (.iconst 1, 1) := by decide +kernel
theorem dX6_count_84 : decode cX6_count 84 = .ok (.goto 4, 3) := by decide +kernel
theorem dX6_count_87 : decode cX6_count 87 = .ok (.iconst 0, 1) := by decide +kernel
theorem dX6_count_88 : decode cX6_count 88 = .ok (.aload_n 0, 1) := by decide +kernel
theorem dX6_count_89 : decode cX6_count 89 = .ok (.getfield 16, 3) := by decide +kernel
theorem dX6_count_92 : decode cX6_count 92 = .ok (.iconst 1, 1) := by decide +kernel
theorem dX6_count_93 : decode cX6_count 93 = .ok (.baload, 1) := by decide +kernel
theorem dX6_count_94 : decode cX6_count 94 = .ok (.ifCond .eq 7, 3) := by decide +kernel
theorem dX6_count_97 : decode cX6_count 97 = .ok (.iconst 2, 1) := by decide +kernel
theorem dX6_count_98 : decode cX6_count 98 = .ok (.goto 4, 3) := by decide +kernel
theorem dX6_count_101 : decode cX6_count 101 = .ok (.iconst 0, 1) := by decide +kernel
theorem dX6_count_102 : decode cX6_count 102 = .ok (.iadd, 1) := by decide +kernel
theorem dX6_count_103 : decode cX6_count 103 = .ok (.ireturn, 1) := by decide +kernel
theorem dX6_count_104 : decode cX6_count 104 = .ok (.bipush (-2), 2) := by decide +kernel
theorem dX6_count_106 : decode cX6_count 106 = .ok (.ireturn, 1) := by decide +kernel
theorem dX6_image_0 : decode cX6_image 0 = .ok (.iload_n 1, 1) := by decide +kernel
theorem dX6_image_1 : decode cX6_image 1 = .ok (.iconst 0, 1) := by decide +kernel
theorem dX6_image_2 : decode cX6_image 2 = .ok (.iconst 1, 1) := by decide +kernel
theorem dX6_image_3 : decode cX6_image 3 = .ok (.invokestatic 50, 3) := by decide +kernel
theorem dX6_image_6 : decode cX6_image 6 = .ok (.ifCond .ne 6, 3) := by decide +kernel
theorem dX6_image_9 : decode cX6_image 9 = .ok (.bipush (-2), 2) := by decide +kernel
theorem dX6_image_11 : decode cX6_image 11 = .ok (.ireturn, 1) := by decide +kernel
theorem dX6_image_12 : decode cX6_image 12 = .ok (.iconst 0, 1) := by decide +kernel
theorem dX6_image_13 : decode cX6_image 13 = .ok (.istore_n 2, 1) := by decide +kernel
theorem dX6_image_14 : decode cX6_image 14 = .ok (.iload_n 2, 1) := by decide +kernel
theorem dX6_image_15 : decode cX6_image 15 = .ok (.bipush 25, 2) := by decide +kernel
theorem dX6_image_17 : decode cX6_image 17 = .ok (.if_icmp .ge 26, 3) := by decide +kernel
theorem dX6_image_20 : decode cX6_image 20 = .ok (.aload_n 0, 1) := by decide +kernel
theorem dX6_image_21 : decode cX6_image 21 = .ok (.getfield 13, 3) := by decide +kernel
theorem dX6_image_24 : decode cX6_image 24 = .ok (.bipush 25, 2) := by decide +kernel
theorem dX6_image_26 : decode cX6_image 26 = .ok (.iload_n 1, 1) := by decide +kernel
theorem dX6_image_27 : decode cX6_image 27 = .ok (.imul, 1) := by decide +kernel
theorem dX6_image_28 : decode cX6_image 28 = .ok (.iload_n 2, 1) := by decide +kernel
theorem dX6_image_29 : decode cX6_image 29 = .ok (.iadd, 1) := by decide +kernel
theorem dX6_image_30 : decode cX6_image 30 = .ok (.aload_n 0, 1) := by decide +kernel
theorem dX6_image_31 : decode cX6_image 31 = .ok (.getfield 7, 3) := by decide +kernel
theorem dX6_image_34 : decode cX6_image 34 = .ok (.iload_n 2, 1) := by decide +kernel
theorem dX6_image_35 : decode cX6_image 35 = .ok (.iaload, 1) := by decide +kernel
theorem dX6_image_36 : decode cX6_image 36 = .ok (.iastore, 1) := by decide +kernel
theorem dX6_image_37 : decode cX6_image 37 = .ok (.iinc 2 1, 3) := by decide +kernel
theorem dX6_image_40 : decode cX6_image 40 = .ok (.goto (-26), 3) := by decide +kernel
theorem dX6_image_43 : decode cX6_image 43 = .ok (.aload_n 0, 1) := by decide +kernel
theorem dX6_image_44 : decode cX6_image 44 = .ok (.getfield 16, 3) := by decide +kernel
theorem dX6_image_47 : decode cX6_image 47 = .ok (.iload_n 1, 1) := by decide +kernel
theorem dX6_image_48 : decode cX6_image 48 = .ok (.iconst 1, 1) := by decide +kernel
theorem dX6_image_49 : decode cX6_image 49 = .ok (.bastore, 1) := by decide +kernel
theorem dX6_image_50 : decode cX6_image 50 = .ok (.iconst 1, 1) := by decide +kernel
theorem dX6_image_51 : decode cX6_image 51 = .ok (.ireturn, 1) := by decide +kernel
theorem dX6_restore_0 : decode cX6_restore 0 = .ok (.iload_n 1, 1) := by decide +kernel
theorem dX6_restore_1 : decode cX6_restore 1 = .ok (.iconst 0, 1) := by decide +kernel
theorem dX6_restore_2 : decode cX6_restore 2 = .ok (.iconst 1, 1) := by decide +kernel
theorem dX6_restore_3 : decode cX6_restore 3 = .ok (.invokestatic 50, 3) := by decide +kernel
theorem dX6_restore_6 : decode cX6_restore 6 = .ok (.ifCond .ne 6, 3) := by decide +kernel
theorem dX6_restore_9 : decode cX6_restore 9 = .ok (.bipush (-2), 2) := by decide +kernel
theorem dX6_restore_11 : decode cX6_restore 11 = .ok (.ireturn, 1) := by decide +kernel
theorem dX6_restore_12 : decode cX6_restore 12 = .ok (.aload_n 0, 1) := by decide +kernel
theorem dX6_restore_13 : decode cX6_restore 13 = .ok (.getfield 16, 3) := by decide +kernel
theorem dX6_restore_16 : decode cX6_restore 16 = .ok (.iload_n 1, 1) := by decide +kernel
theorem dX6_restore_17 : decode cX6_restore 17 = .ok (.baload, 1) := by decide +kernel
theorem dX6_restore_18 : decode cX6_restore 18 = .ok (.ifCond .ne 6, 3) := by decide +kernel
theorem dX6_restore_21 : decode cX6_restore 21 = .ok (.bipush (-3), 2) := by decide +kernel
theorem dX6_restore_23 : decode cX6_restore 23 = .ok (.ireturn, 1) := by decide +kernel
theorem dX6_restore_24 : decode cX6_restore 24 = .ok (.iconst 0, 1) := by decide +kernel
theorem dX6_restore_25 : decode cX6_restore 25 = .ok (.istore_n 2, 1) := by decide +kernel
theorem dX6_restore_26 : decode cX6_restore 26 = .ok (.iload_n 2, 1) := by decide +kernel
theorem dX6_restore_27 : decode cX6_restore 27 = .ok (.bipush 25, 2) := by decide +kernel
theorem dX6_restore_29 : decode cX6_restore 29 = .ok (.if_icmp .ge 26, 3) := by decide +kernel
theorem dX6_restore_32 : decode cX6_restore 32 = .ok (.aload_n 0, 1) := by decide +kernel
theorem dX6_restore_33 : decode cX6_restore 33 = .ok (.getfield 7, 3) := by decide +kernel
theorem dX6_restore_36 : decode cX6_restore 36 = .ok (.iload_n 2, 1) := by decide +kernel
theorem dX6_restore_37 : decode cX6_restore 37 = .ok (.aload_n 0, 1) := by decide +kernel
theorem dX6_restore_38 : decode cX6_restore 38 = .ok (.getfield 13, 3) := by decide +kernel
theorem dX6_restore_41 : decode cX6_restore 41 = .ok (.bipush 25, 2) := by decide +kernel
theorem dX6_restore_43 : decode cX6_restore 43 = .ok (.iload_n 1, 1) := by decide +kernel
theorem dX6_restore_44 : decode cX6_restore 44 = .ok (.imul, 1) := by decide +kernel
theorem dX6_restore_45 : decode cX6_restore 45 = .ok (.iload_n 2, 1) := by decide +kernel
theorem dX6_restore_46 : decode cX6_restore 46 = .ok (.iadd, 1) := by decide +kernel
theorem dX6_restore_47 : decode cX6_restore 47 = .ok (.iaload, 1) := by decide +kernel
theorem dX6_restore_48 : decode cX6_restore 48 = .ok (.iastore, 1) := by decide +kernel
theorem dX6_restore_49 : decode cX6_restore 49 = .ok (.iinc 2 1, 3) := by decide +kernel
theorem dX6_restore_52 : decode cX6_restore 52 = .ok (.goto (-26), 3) := by decide +kernel
theorem dX6_restore_55 : decode cX6_restore 55 = .ok (.aload_n 0, 1) := by decide +kernel
theorem dX6_restore_56 : decode cX6_restore 56 = .ok (.iconst 0, 1) := by decide +kernel
theorem dX6_restore_57 : decode cX6_restore 57 = .ok (.putfield 54, 3) := by decide +kernel
theorem dX6_restore_60 : decode cX6_restore 60 = .ok (.iconst 1, 1) := by decide +kernel
theorem dX6_restore_61 : decode cX6_restore 61 = .ok (.ireturn, 1) := by decide +kernel

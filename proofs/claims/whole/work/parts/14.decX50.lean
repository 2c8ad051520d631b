theorem dX5_init_0 : decode cX5_init 0 = .ok (.aload_n 0, 1) := by decide +kernel
theorem dX5_init_1 : decode cX5_init 1 = .ok (.invokespecial 3, 3) := by decide +kernel
theorem dX5_init_4 : decode cX5_init 4 = .ok (.aload_n 0, 1) := by decide +kernel
theorem dX5_init_5 : decode cX5_init 5 = .ok (.new 9, 3) := by decide +kernel
theorem dX5_init_8 : decode cX5_init 8 = .ok (.dup, 1) := by decide +kernel
theorem dX5_init_9 : decode cX5_init 9 = .ok (.invokespecial 11, 3) := by decide +kernel
theorem dX5_init_12 : decode cX5_init 12 = .ok (.putfield 12, 3) := by decide +kernel
theorem dX5_init_15 : decode cX5_init 15 = .ok (.aload_n 0, 1) := by decide +kernel
theorem dX5_init_16 : decode cX5_init 16 = .ok (.iconst 2, 1) := by decide +kernel
theorem dX5_init_17 : decode cX5_init 17 = .ok (.anewarray 9, 3) := by decide +kernel
theorem dX5_init_20 : decode cX5_init 20 = .ok (.putfield 16, 3) := by decide +kernel
theorem dX5_init_23 : decode cX5_init 23 = .ok (.iconst 0, 1) := by decide +kernel
theorem dX5_init_24 : decode cX5_init 24 = .ok (.istore_n 1, 1) := by decide +kernel
theorem dX5_init_25 : decode cX5_init 25 = .ok (.iload_n 1, 1) := by decide +kernel
theorem dX5_init_26 : decode cX5_init 26 = .ok (.iconst 2, 1) := by decide +kernel
theorem dX5_init_27 : decode cX5_init 27 = .ok (.if_icmp .ge 22, 3) := by decide +kernel
theorem dX5_init_30 : decode cX5_init 30 = .ok (.aload_n 0, 1) := by decide +kernel
theorem dX5_init_31 : decode cX5_init 31 = .ok (.getfield 16, 3) := by decide +kernel
theorem dX5_init_34 : decode cX5_init 34 = .ok (.iload_n 1, 1) := by decide +kernel
theorem dX5_init_35 : decode cX5_init 35 = .ok (.new 9, 3) := by decide +kernel
theorem dX5_init_38 : decode cX5_init 38 = .ok (.dup, 1) := by decide +kernel
theorem dX5_init_39 : decode cX5_init 39 = .ok (.invokespecial 11, 3) := by decide +kernel
theorem dX5_init_42 : decode cX5_init 42 = .ok (.aastore, 1) := by decide +kernel
theorem dX5_init_43 : decode cX5_init 43 = .ok (.iinc 1 1, 3) := by decide +kernel
theorem dX5_init_46 : decode cX5_init 46 = .ok (.goto (-21), 3) := by decide +kernel
theorem dX5_init_49 : decode cX5_init 49 = .ok (.aload_n 0, 1) := by decide +kernel
theorem dX5_init_50 : decode cX5_init 50 = .ok (.iconst 0, 1) := by decide +kernel
theorem dX5_init_51 : decode cX5_init 51 = .ok (.putfield 20, 3) := by decide +kernel
theorem dX5_init_54 : decode cX5_init 54 = .ok (.aload_n 0, 1) := by decide +kernel
theorem dX5_init_55 : decode cX5_init 55 = .ok (.new 24, 3) := by decide +kernel
theorem dX5_init_58 : decode cX5_init 58 = .ok (.dup, 1) := by decide +kernel
theorem dX5_init_59 : decode cX5_init 59 = .ok (.invokespecial 26, 3) := by decide +kernel
theorem dX5_init_62 : decode cX5_init 62 = .ok (.putfield 27, 3) := by decide +kernel
theorem dX5_init_65 : decode cX5_init 65 = .ok (.aload_n 0, 1) := by decide +kernel
theorem dX5_init_66 : decode cX5_init 66 = .ok (.iconst 0, 1) := by decide +kernel
theorem dX5_init_67 : decode cX5_init 67 = .ok (.putfield 31, 3) := by decide +kernel
theorem dX5_init_70 : decode cX5_init 70 = .ok (.aload_n 0, 1) := by decide +kernel
theorem dX5_init_71 : decode cX5_init 71 = .ok (.iconst 0, 1) := by decide +kernel
theorem dX5_init_72 : decode cX5_init 72 = .ok (.putfield 35, 3) := by decide +kernel
theorem dX5_init_75 : decode cX5_init 75 = .ok (.return_, 1) := by decide +kernel
theorem dX5_many_0 : decode cX5_many 0 = .ok (.iload_n 1, 1) := by decide +kernel
theorem dX5_many_1 : decode cX5_many 1 = .ok (.iconst 1, 1) := by decide +kernel
theorem dX5_many_2 : decode cX5_many 2 = .ok (.if_icmp .lt 9, 3) := by decide +kernel
theorem dX5_many_5 : decode cX5_many 5 = .ok (.iload_n 1, 1) := by decide +kernel
theorem dX5_many_6 : decode cX5_many 6 = .ok (.bipush 8, 2) := by decide +kernel
theorem dX5_many_8 : decode cX5_many 8 = .ok (.if_icmp .le 6, 3) := by decide +kernel
theorem dX5_many_11 : decode cX5_many 11 = .ok (.bipush (-2), 2) := by decide +kernel
theorem dX5_many_13 : decode cX5_many 13 = .ok (.ireturn, 1) := by decide +kernel
theorem dX5_many_14 : decode cX5_many 14 = .ok (.aload_n 0, 1) := by decide +kernel
theorem dX5_many_15 : decode cX5_many 15 = .ok (.getfield 12, 3) := by decide +kernel
theorem dX5_many_18 : decode cX5_many 18 = .ok (.getfield 38, 3) := by decide +kernel
theorem dX5_many_21 : decode cX5_many 21 = .ok (.istore_n 2, 1) := by decide +kernel
theorem dX5_many_22 : decode cX5_many 22 = .ok (.aload_n 0, 1) := by decide +kernel
theorem dX5_many_23 : decode cX5_many 23 = .ok (.getfield 12, 3) := by decide +kernel
theorem dX5_many_26 : decode cX5_many 26 = .ok (.iload_n 1, 1) := by decide +kernel
theorem dX5_many_27 : decode cX5_many 27 = .ok (.invokevirtual 41, 3) := by decide +kernel
theorem dX5_many_30 : decode cX5_many 30 = .ok (.aload_n 0, 1) := by decide +kernel
theorem dX5_many_31 : decode cX5_many 31 = .ok (.invokevirtual 45, 3) := by decide +kernel
theorem dX5_many_34 : decode cX5_many 34 = .ok (.iload_n 2, 1) := by decide +kernel
theorem dX5_many_35 : decode cX5_many 35 = .ok (.ireturn, 1) := by decide +kernel
theorem dX5_find_0 : decode cX5_find 0 = .ok (.aload_n 0, 1) := by decide +kernel
theorem dX5_find_1 : decode cX5_find 1 = .ok (.iload_n 1, 1) := by decide +kernel
theorem dX5_find_2 : decode cX5_find 2 = .ok (.invokevirtual 48, 3) := by decide +kernel
theorem dX5_find_5 : decode cX5_find 5 = .ok (.ifCond .eq 10, 3) := by decide +kernel
theorem dX5_find_8 : decode cX5_find 8 = .ok (.iload_n 2, 1) := by decide +kernel
theorem dX5_find_9 : decode cX5_find 9 = .ok (.invokestatic 52, 3) := by decide +kernel
theorem dX5_find_12 : decode cX5_find 12 = .ok (.ifCond .ne 5, 3) := by decide +kernel
theorem dX5_find_15 : decode cX5_find 15 = .ok (.iconst (-1), 1) := by decide +kernel
theorem dX5_find_16 : decode cX5_find 16 = .ok (.ireturn, 1) := by decide +kernel
theorem dX5_find_17 : decode cX5_find 17 = .ok (.iload_n 3, 1) := by decide +kernel
theorem dX5_find_18 : decode cX5_find 18 = .ok (.invokestatic 55, 3) := by decide +kernel
theorem dX5_find_21 : decode cX5_find 21 = .ok (.ifCond .ne 6, 3) := by decide +kernel
theorem dX5_find_24 : decode cX5_find 24 = .ok (.bipush (-2), 2) := by decide +kernel
theorem dX5_find_26 : decode cX5_find 26 = .ok (.ireturn, 1) := by decide +kernel
theorem dX5_find_27 : decode cX5_find 27 = .ok (.aload_n 0, 1) := by decide +kernel
theorem dX5_find_28 : decode cX5_find 28 = .ok (.getfield 12, 3) := by decide +kernel
theorem dX5_find_31 : decode cX5_find 31 = .ok (.getfield 58, 3) := by decide +kernel
theorem dX5_find_34 : decode cX5_find 34 = .ok (.iload_n 1, 1) := by decide +kernel
theorem dX5_find_35 : decode cX5_find 35 = .ok (.aload_n 0, 1) := by decide +kernel
theorem dX5_find_36 : decode cX5_find 36 = .ok (.getfield 12, 3) := by decide +kernel
theorem dX5_find_39 : decode cX5_find 39 = .ok (.getfield 58, 3) := by decide +kernel
theorem dX5_find_42 : decode cX5_find 42 = .ok (.iload_n 1, 1) := by decide +kernel
theorem dX5_find_43 : decode cX5_find 43 = .ok (.iaload, 1) := by decide +kernel
theorem dX5_find_44 : decode cX5_find 44 = .ok (.iload_n 2, 1) := by decide +kernel
theorem dX5_find_45 : decode cX5_find 45 = .ok (.iload_n 3, 1) := by decide +kernel
theorem dX5_find_46 : decode cX5_find 46 = .ok (.invokestatic 62, 3) := by decide +kernel
theorem dX5_find_49 : decode cX5_find 49 = .ok (.iastore, 1) := by decide +kernel
theorem dX5_find_50 : decode cX5_find 50 = .ok (.aload_n 0, 1) := by decide +kernel
theorem dX5_find_51 : decode cX5_find 51 = .ok (.invokevirtual 45, 3) := by decide +kernel
theorem dX5_find_54 : decode cX5_find 54 = .ok (.aload_n 0, 1) := by decide +kernel
theorem dX5_find_55 : decode cX5_find 55 = .ok (.getfield 12, 3) := by decide +kernel
theorem dX5_find_58 : decode cX5_find 58 = .ok (.getfield 58, 3) := by decide +kernel
theorem dX5_find_61 : decode cX5_find 61 = .ok (.iload_n 1, 1) := by decide +kernel
theorem dX5_find_62 : decode cX5_find 62 = .ok (.iaload, 1) := by decide +kernel
theorem dX5_find_63 : decode cX5_find 63 = .ok (.invokestatic 66, 3) := by decide +kernel
theorem dX5_find_66 : decode cX5_find 66 = .ok (.ireturn, 1) := by decide +kernel
theorem dX5_ahead_0 : decode cX5_ahead 0 = .ok (.aload_n 0, 1) := by decide +kernel
theorem dX5_ahead_1 : decode cX5_ahead 1 = .ok (.iload_n 1, 1) := by decide +kernel
theorem dX5_ahead_2 : decode cX5_ahead 2 = .ok (.invokevirtual 48, 3) := by decide +kernel
theorem dX5_ahead_5 : decode cX5_ahead 5 = .ok (.ifCond .eq 11, 3) := by decide +kernel
theorem dX5_ahead_8 : decode cX5_ahead 8 = .ok (.aload_n 0, 1) := by decide +kernel
theorem dX5_ahead_9 : decode cX5_ahead 9 = .ok (.iload_n 2, 1) := by decide +kernel
theorem dX5_ahead_10 : decode cX5_ahead 10 = .ok (.invokevirtual 48, 3) := by decide +kernel
theorem dX5_ahead_13 : decode cX5_ahead 13 = .ok (.ifCond .ne 5, 3) := by decide +kernel
theorem dX5_ahead_16 : decode cX5_ahead 16 = .ok (.iconst (-1), 1) := by decide +kernel
theorem dX5_ahead_17 : decode cX5_ahead 17 = .ok (.ireturn, 1) := by decide +kernel
theorem dX5_ahead_18 : decode cX5_ahead 18 = .ok (.iload_n 3, 1) := by decide +kernel
theorem dX5_ahead_19 : decode cX5_ahead 19 = .ok (.invokestatic 55, 3) := by decide +kernel
theorem dX5_ahead_22 : decode cX5_ahead 22 = .ok (.ifCond .eq 8, 3) := by decide +kernel
theorem dX5_ahead_25 : decode cX5_ahead 25 = .ok (.iload_n 1, 1) := by decide +kernel
theorem dX5_ahead_26 : decode cX5_ahead 26 = .ok (.iload_n 2, 1) := by decide +kernel
theorem dX5_ahead_27 : decode cX5_ahead 27 = .ok (.if_icmp .ne 6, 3) := by decide +kernel
theorem dX5_ahead_30 : decode cX5_ahead 30 = .ok (.bipush (-2), 2) := by decide +kernel
theorem dX5_ahead_32 : decode cX5_ahead 32 = .ok (.ireturn, 1) := by decide +kernel
theorem dX5_ahead_33 : decode cX5_ahead 33 = .ok (.aload_n 0, 1) := by decide +kernel
theorem dX5_ahead_34 : decode cX5_ahead 34 = .ok (.getfield 12, 3) := by decide +kernel
theorem dX5_ahead_37 : decode cX5_ahead 37 = .ok (.getfield 72, 3) := by decide +kernel
theorem dX5_ahead_40 : decode cX5_ahead 40 = .ok (.iload_n 1, 1) := by decide +kernel
theorem dX5_ahead_41 : decode cX5_ahead 41 = .ok (.aload_n 0, 1) := by decide +kernel
theorem dX5_ahead_42 : decode cX5_ahead 42 = .ok (.getfield 12, 3) := by decide +kernel
theorem dX5_ahead_45 : decode cX5_ahead 45 = .ok (.getfield 72, 3) := by decide +kernel
theorem dX5_ahead_48 : decode cX5_ahead 48 = .ok (.iload_n 1, 1) := by decide +kernel
theorem dX5_ahead_49 : decode cX5_ahead 49 = .ok (.iaload, 1) := by decide +kernel
theorem dX5_ahead_50 : decode cX5_ahead 50 = .ok (.iload_n 2, 1) := by decide +kernel
theorem dX5_ahead_51 : decode cX5_ahead 51 = .ok (.iload_n 3, 1) := by decide +kernel
theorem dX5_ahead_52 : decode cX5_ahead 52 = .ok (.invokestatic 62, 3) := by decide +kernel
theorem dX5_ahead_55 : decode cX5_ahead 55 = .ok (.iastore, 1) := by decide +kernel
theorem dX5_ahead_56 : decode cX5_ahead 56 = .ok (.aload_n 0, 1) := by decide +kernel
theorem dX5_ahead_57 : decode cX5_ahead 57 = .ok (.invokevirtual 45, 3) := by decide +kernel
theorem dX5_ahead_60 : decode cX5_ahead 60 = .ok (.aload_n 0, 1) := by decide +kernel
theorem dX5_ahead_61 : decode cX5_ahead 61 = .ok (.getfield 12, 3) := by decide +kernel
theorem dX5_ahead_64 : decode cX5_ahead 64 = .ok (.getfield 72, 3) := by decide +kernel
theorem dX5_ahead_67 : decode cX5_ahead 67 = .ok (.invokestatic 75, 3) := by decide +kernel
theorem dX5_ahead_70 : decode cX5_ahead 70 = .ok (.ireturn, 1) := by decide +kernel
theorem dX5_grave_0 : decode cX5_grave 0 = .ok (.aload_n 0, 1) := by decide +kernel
theorem dX5_grave_1 : decode cX5_grave 1 = .ok (.iload_n 1, 1) := by decide +kernel
theorem dX5_grave_2 : decode cX5_grave 2 = .ok (.invokevirtual 48, 3) := by decide +kernel
theorem dX5_grave_5 : decode cX5_grave 5 = .ok (.ifCond .ne 5, 3) := by decide +kernel
theorem dX5_grave_8 : decode cX5_grave 8 = .ok (.iconst (-1), 1) := by decide +kernel
theorem dX5_grave_9 : decode cX5_grave 9 = .ok (.ireturn, 1) := by decide +kernel
theorem dX5_grave_10 : decode cX5_grave 10 = .ok (.iload_n 2, 1) := by decide +kernel
theorem dX5_grave_11 : decode cX5_grave 11 = .ok (.tableswitch 67 0 3 #[29, 39, 49, 58], 29) := by decide +kernel
theorem dX5_grave_40 : decode cX5_grave 40 = .ok (.aload_n 0, 1) := by decide +kernel
theorem dX5_grave_41 : decode cX5_grave 41 = .ok (.getfield 12, 3) := by decide +kernel
theorem dX5_grave_44 : decode cX5_grave 44 = .ok (.getfield 58, 3) := by decide +kernel
theorem dX5_grave_47 : decode cX5_grave 47 = .ok (.iload_n 1, 1) := by decide +kernel
theorem dX5_grave_48 : decode cX5_grave 48 = .ok (.iaload, 1) := by decide +kernel
theorem dX5_grave_49 : decode cX5_grave 49 = .ok (.ireturn, 1) := by decide +kernel
theorem dX5_grave_50 : decode cX5_grave 50 = .ok (.aload_n 0, 1) := by decide +kernel
theorem dX5_grave_51 : decode cX5_grave 51 = .ok (.getfield 12, 3) := by decide +kernel
theorem dX5_grave_54 : decode cX5_grave 54 = .ok (.getfield 72, 3) := by decide +kernel
theorem dX5_grave_57 : decode cX5_grave 57 = .ok (.iload_n 1, 1) := by decide +kernel
theorem dX5_grave_58 : decode cX5_grave 58 = .ok (.iaload, 1) := by decide +kernel
theorem dX5_grave_59 : decode cX5_grave 59 = .ok (.ireturn, 1) := by decide +kernel
theorem dX5_grave_60 : decode cX5_grave 60 = .ok (.aload_n 0, 1) := by decide +kernel
theorem dX5_grave_61 : decode cX5_grave 61 = .ok (.getfield 12, 3) := by decide +kernel
theorem dX5_grave_64 : decode cX5_grave 64 = .ok (.iload_n 1, 1) := by decide +kernel
theorem dX5_grave_65 : decode cX5_grave 65 = .ok (.invokevirtual 79, 3) := by decide +kernel
theorem dX5_grave_68 : decode cX5_grave 68 = .ok (.ireturn, 1) := by decide +kernel
theorem dX5_grave_69 : decode cX5_grave 69 = .ok (.aload_n 0, 1) := by decide +kernel
theorem dX5_grave_70 : decode cX5_grave 70 = .ok (.getfield 12, 3) := by decide +kernel
theorem dX5_grave_73 : decode cX5_grave 73 = .ok (.iload_n 1, 1) := by decide +kernel
theorem dX5_grave_74 : decode cX5_grave 74 = .ok (.invokevirtual 82, 3) := by decide +kernel
theorem dX5_grave_77 : decode cX5_grave 77 = .ok (.ireturn, 1) := by decide +kernel
theorem dX5_grave_78 : decode cX5_grave 78 = .ok (.bipush (-2), 2) := by decide +kernel
theorem dX5_grave_80 : decode cX5_grave 80 = .ok (.ireturn, 1) := by decide +kernel
theorem dX5_sort_0 : decode cX5_sort 0 = .ok (.iload_n 1, 1) := by decide +kernel
theorem dX5_sort_1 : decode cX5_sort 1 = .ok (.invokestatic 52, 3) := by decide +kernel
theorem dX5_sort_4 : decode cX5_sort 4 = .ok (.ifCond .ne 5, 3) := by decide +kernel
theorem dX5_sort_7 : decode cX5_sort 7 = .ok (.iconst (-1), 1) := by decide +kernel
theorem dX5_sort_8 : decode cX5_sort 8 = .ok (.ireturn, 1) := by decide +kernel
theorem dX5_sort_9 : decode cX5_sort 9 = .ok (.iload_n 2, 1) := by decide +kernel
theorem dX5_sort_10 : decode cX5_sort 10 = .ok (.tableswitch 59 0 2 #[26, 35, 46], 26) := by decide +kernel
theorem dX5_sort_36 : decode cX5_sort 36 = .ok (.aload_n 0, 1) := by decide +kernel
theorem dX5_sort_37 : decode cX5_sort 37 = .ok (.getfield 12, 3) := by decide +kernel
theorem dX5_sort_40 : decode cX5_sort 40 = .ok (.iload_n 1, 1) := by decide +kernel
theorem dX5_sort_41 : decode cX5_sort 41 = .ok (.invokevirtual 85, 3) := by decide +kernel
theorem dX5_sort_44 : decode cX5_sort 44 = .ok (.ireturn, 1) := by decide +kernel
theorem dX5_sort_45 : decode cX5_sort 45 = .ok (.aload_n 0, 1) := by decide +kernel
theorem dX5_sort_46 : decode cX5_sort 46 = .ok (.getfield 12, 3) := by decide +kernel
theorem dX5_sort_49 : decode cX5_sort 49 = .ok (.iconst 1, 1) := by decide +kernel
theorem dX5_sort_50 : decode cX5_sort 50 = .ok (.iload_n 1, 1) := by decide +kernel
theorem dX5_sort_51 : decode cX5_sort 51 = .ok (.ishl, 1) := by decide +kernel
theorem dX5_sort_52 : decode cX5_sort 52 = .ok (.invokevirtual 88, 3) := by decide +kernel
theorem dX5_sort_55 : decode cX5_sort 55 = .ok (.ireturn, 1) := by decide +kernel
theorem dX5_sort_56 : decode cX5_sort 56 = .ok (.aload_n 0, 1) := by decide +kernel
theorem dX5_sort_57 : decode cX5_sort 57 = .ok (.invokevirtual 91, 3) := by decide +kernel
theorem dX5_sort_60 : decode cX5_sort 60 = .ok (.iload_n 1, 1) := by decide +kernel
theorem dX5_sort_61 : decode cX5_sort 61 = .ok (.aload_n 0, 1) := by decide +kernel
theorem dX5_sort_62 : decode cX5_sort 62 = .ok (.getfield 12, 3) := by decide +kernel
theorem dX5_sort_65 : decode cX5_sort 65 = .ok (.invokevirtual 95, 3) := by decide +kernel
theorem dX5_sort_68 : decode cX5_sort 68 = .ok (.ireturn, 1) := by decide +kernel
theorem dX5_sort_69 : decode cX5_sort 69 = .ok (.bipush (-2), 2) := by decide +kernel
theorem dX5_sort_71 : decode cX5_sort 71 = .ok (.ireturn, 1) := by decide +kernel
theorem dX5_alike_0 : decode cX5_alike 0 = .ok (.aload_n 0, 1) := by decide +kernel
theorem dX5_alike_1 : decode cX5_alike 1 = .ok (.iload_n 1, 1) := by decide +kernel
theorem dX5_alike_2 : decode cX5_alike 2 = .ok (.invokevirtual 48, 3) := by decide +kernel
theorem dX5_alike_5 : decode cX5_alike 5 = .ok (.ifCond .eq 11, 3) := by decide +kernel
theorem dX5_alike_8 : decode cX5_alike 8 = .ok (.aload_n 0, 1) := by decide +kernel
theorem dX5_alike_9 : decode cX5_alike 9 = .ok (.iload_n 2, 1) := by decide +kernel
theorem dX5_alike_10 : decode cX5_alike 10 = .ok (.invokevirtual 48, 3) := by decide +kernel
theorem dX5_alike_13 : decode cX5_alike 13 = .ok (.ifCond .ne 5, 3) := by decide +kernel
theorem dX5_alike_16 : decode cX5_alike 16 = .ok (.iconst (-1), 1) := by decide +kernel
theorem dX5_alike_17 : decode cX5_alike 17 = .ok (.ireturn, 1) := by decide +kernel
theorem dX5_alike_18 : decode cX5_alike 18 = .ok (.aload_n 0, 1) := by decide +kernel
theorem dX5_alike_19 : decode cX5_alike 19 = .ok (.getfield 12, 3) := by decide +kernel
theorem dX5_alike_22 : decode cX5_alike 22 = .ok (.getfield 58, 3) := by decide +kernel
theorem dX5_alike_25 : decode cX5_alike 25 = .ok (.iload_n 1, 1) := by decide +kernel
theorem dX5_alike_26 : decode cX5_alike 26 = .ok (.iaload, 1) := by decide +kernel
theorem dX5_alike_27 : decode cX5_alike 27 = .ok (.aload_n 0, 1) := by decide +kernel
theorem dX5_alike_28 : decode cX5_alike 28 = .ok (.getfield 12, 3) := by decide +kernel
theorem dX5_alike_31 : decode cX5_alike 31 = .ok (.getfield 58, 3) := by decide +kernel
theorem dX5_alike_34 : decode cX5_alike 34 = .ok (.iload_n 2, 1) := by decide +kernel
theorem dX5_alike_35 : decode cX5_alike 35 = .ok (.iaload, 1) := by decide +kernel
theorem dX5_alike_36 : decode cX5_alike 36 = .ok (.iand, 1) := by decide +kernel
theorem dX5_alike_37 : decode cX5_alike 37 = .ok (.invokestatic 66, 3) := by decide +kernel
theorem dX5_alike_40 : decode cX5_alike 40 = .ok (.ireturn, 1) := by decide +kernel
theorem dX5_least_0 : decode cX5_least 0 = .ok (.aload_n 0, 1) := by decide +kernel
theorem dX5_least_1 : decode cX5_least 1 = .ok (.invokevirtual 91, 3) := by decide +kernel
theorem dX5_least_4 : decode cX5_least 4 = .ok (.astore_n 1, 1) := by decide +kernel
theorem dX5_least_5 : decode cX5_least 5 = .ok (.aload_n 1, 1) := by decide +kernel
theorem dX5_least_6 : decode cX5_least 6 = .ok (.invokevirtual 99, 3) := by decide +kernel
theorem dX5_least_9 : decode cX5_least 9 = .ok (.ifCond .ne 8, 3) := by decide +kernel
theorem dX5_least_12 : decode cX5_least 12 = .ok (.bipush (-6), 2) := by decide +kernel
theorem dX5_least_14 : decode cX5_least 14 = .ok (.goto 7, 3) := by decide +kernel
theorem dX5_least_17 : decode cX5_least 17 = .ok (.aload_n 1, 1) := by decide +kernel
theorem dX5_least_18 : decode cX5_least 18 = .ok (.getfield 103, 3) := by decide +kernel
theorem dX5_least_21 : decode cX5_least 21 = .ok (.ireturn, 1) := by decide +kernel
theorem dX5_best_0 : decode cX5_best 0 = .ok (.aload_n 0, 1) := by decide +kernel
theorem dX5_best_1 : decode cX5_best 1 = .ok (.invokevirtual 91, 3) := by decide +kernel
theorem dX5_best_4 : decode cX5_best 4 = .ok (.invokevirtual 99, 3) := by decide +kernel
theorem dX5_best_7 : decode cX5_best 7 = .ok (.ireturn, 1) := by decide +kernel
theorem dX5_order_0 : decode cX5_order 0 = .ok (.iload_n 1, 1) := by decide +kernel
theorem dX5_order_1 : decode cX5_order 1 = .ok (.ifCond .lt 11, 3) := by decide +kernel
theorem dX5_order_4 : decode cX5_order 4 = .ok (.aload_n 0, 1) := by decide +kernel
theorem dX5_order_5 : decode cX5_order 5 = .ok (.iload_n 2, 1) := by decide +kernel
theorem dX5_order_6 : decode cX5_order 6 = .ok (.invokevirtual 106, 3) := by decide +kernel
theorem dX5_order_9 : decode cX5_order 9 = .ok (.ifCond .ne 6, 3) := by decide +kernel
theorem dX5_order_12 : decode cX5_order 12 = .ok (.bipush (-2), 2) := by decide +kernel
theorem dX5_order_14 : decode cX5_order 14 = .ok (.ireturn, 1) := by decide +kernel
theorem dX5_order_15 : decode cX5_order 15 = .ok (.aload_n 0, 1) := by decide +kernel
theorem dX5_order_16 : decode cX5_order 16 = .ok (.invokevirtual 91, 3) := by decide +kernel
theorem dX5_order_19 : decode cX5_order 19 = .ok (.astore_n 3, 1) := by decide +kernel
theorem dX5_order_20 : decode cX5_order 20 = .ok (.iload_n 1, 1) := by decide +kernel
theorem dX5_order_21 : decode cX5_order 21 = .ok (.aload_n 3, 1) := by decide +kernel
theorem dX5_order_22 : decode cX5_order 22 = .ok (.invokevirtual 99, 3) := by decide +kernel
theorem dX5_order_25 : decode cX5_order 25 = .ok (.if_icmp .lt 8, 3) := by decide +kernel
theorem dX5_order_28 : decode cX5_order 28 = .ok (.bipush (-6), 2) := by decide +kernel
theorem dX5_order_30 : decode cX5_order 30 = .ok (.goto 9, 3) := by decide +kernel
theorem dX5_order_33 : decode cX5_order 33 = .ok (.aload_n 3, 1) := by decide +kernel
theorem dX5_order_34 : decode cX5_order 34 = .ok (.iload_n 1, 1) := by decide +kernel
theorem dX5_order_35 : decode cX5_order 35 = .ok (.iload_n 2, 1) := by decide +kernel
theorem dX5_order_36 : decode cX5_order 36 = .ok (.invokevirtual 109, 3) := by decide +kernel
theorem dX5_order_39 : decode cX5_order 39 = .ok (.ireturn, 1) := by decide +kernel
theorem dX5_beside_0 : decode cX5_beside 0 = .ok (.aload_n 0, 1) := by decide +kernel
theorem dX5_beside_1 : decode cX5_beside 1 = .ok (.iload_n 1, 1) := by decide +kernel
theorem dX5_beside_2 : decode cX5_beside 2 = .ok (.invokevirtual 48, 3) := by decide +kernel
theorem dX5_beside_5 : decode cX5_beside 5 = .ok (.ifCond .ne 5, 3) := by decide +kernel
theorem dX5_beside_8 : decode cX5_beside 8 = .ok (.iconst (-1), 1) := by decide +kernel
theorem dX5_beside_9 : decode cX5_beside 9 = .ok (.ireturn, 1) := by decide +kernel
theorem dX5_beside_10 : decode cX5_beside 10 = .ok (.iload_n 2, 1) := by decide +kernel
theorem dX5_beside_11 : decode cX5_beside 11 = .ok (.ifCond .eq 11, 3) := by decide +kernel
theorem dX5_beside_14 : decode cX5_beside 14 = .ok (.iload_n 2, 1) := by decide +kernel
theorem dX5_beside_15 : decode cX5_beside 15 = .ok (.iconst 1, 1) := by decide +kernel
theorem dX5_beside_16 : decode cX5_beside 16 = .ok (.if_icmp .eq 6, 3) := by decide +kernel
theorem dX5_beside_19 : decode cX5_beside 19 = .ok (.bipush (-2), 2) := by decide +kernel
theorem dX5_beside_21 : decode cX5_beside 21 = .ok (.ireturn, 1) := by decide +kernel
theorem dX5_beside_22 : decode cX5_beside 22 = .ok (.aload_n 0, 1) := by decide +kernel
theorem dX5_beside_23 : decode cX5_beside 23 = .ok (.invokevirtual 91, 3) := by decide +kernel
theorem dX5_beside_26 : decode cX5_beside 26 = .ok (.astore_n 3, 1) := by decide +kernel
theorem dX5_beside_27 : decode cX5_beside 27 = .ok (.aload_n 3, 1) := by decide +kernel
theorem dX5_beside_28 : decode cX5_beside 28 = .ok (.invokevirtual 99, 3) := by decide +kernel
theorem dX5_beside_31 : decode cX5_beside 31 = .ok (.ifCond .ne 5, 3) := by decide +kernel
theorem dX5_beside_34 : decode cX5_beside 34 = .ok (.iconst 0, 1) := by decide +kernel
theorem dX5_beside_35 : decode cX5_beside 35 = .ok (.ireturn, 1) := by decide +kernel
theorem dX5_beside_36 : decode cX5_beside 36 = .ok (.aload_n 3, 1) := by decide +kernel
theorem dX5_beside_37 : decode cX5_beside 37 = .ok (.iload_n 1, 1) := by decide +kernel
theorem dX5_beside_38 : decode cX5_beside 38 = .ok (.iload_n 2, 1) := by decide +kernel
theorem dX5_beside_39 : decode cX5_beside 39 = .ok (.ifCond .ne 10, 3) := by decide +kernel
theorem dX5_beside_42 : decode cX5_beside 42 = .ok (.aload_n 3, 1) := by decide +kernel
theorem dX5_beside_43 : decode cX5_beside 43 = .ok (.invokevirtual 99, 3) := by decide +kernel
theorem dX5_beside_46 : decode cX5_beside 46 = .ok (.goto 4, 3) := by decide +kernel
theorem dX5_beside_49 : decode cX5_beside 49 = .ok (.iconst 1, 1) := by decide +kernel
theorem dX5_beside_50 : decode cX5_beside 50 = .ok (.invokevirtual 113, 3) := by decide +kernel
theorem dX5_beside_53 : decode cX5_beside 53 = .ok (.ireturn, 1) := by decide +kernel
theorem dX5_place_0 : decode cX5_place 0 = .ok (.aload_n 0, 1) := by decide +kernel
theorem dX5_place_1 : decode cX5_place 1 = .ok (.iload_n 1, 1) := by decide +kernel
theorem dX5_place_2 : decode cX5_place 2 = .ok (.invokevirtual 48, 3) := by decide +kernel
theorem dX5_place_5 : decode cX5_place 5 = .ok (.ifCond .ne 5, 3) := by decide +kernel
theorem dX5_place_8 : decode cX5_place 8 = .ok (.iconst (-1), 1) := by decide +kernel
theorem dX5_place_9 : decode cX5_place 9 = .ok (.ireturn, 1) := by decide +kernel
theorem dX5_place_10 : decode cX5_place 10 = .ok (.iload_n 2, 1) := by decide +kernel
theorem dX5_place_11 : decode cX5_place 11 = .ok (.ifCond .ne 12, 3) := by decide +kernel
theorem dX5_place_14 : decode cX5_place 14 = .ok (.aload_n 0, 1) := by decide +kernel
theorem dX5_place_15 : decode cX5_place 15 = .ok (.invokevirtual 91, 3) := by decide +kernel
theorem dX5_place_18 : decode cX5_place 18 = .ok (.iload_n 1, 1) := by decide +kernel
theorem dX5_place_19 : decode cX5_place 19 = .ok (.invokevirtual 116, 3) := by decide +kernel
theorem dX5_place_22 : decode cX5_place 22 = .ok (.ireturn, 1) := by decide +kernel
theorem dX5_place_23 : decode cX5_place 23 = .ok (.iload_n 2, 1) := by decide +kernel
theorem dX5_place_24 : decode cX5_place 24 = .ok (.iconst 1, 1) := by decide +kernel
theorem dX5_place_25 : decode cX5_place 25 = .ok (.if_icmp .ne 12, 3) := by decide +kernel
theorem dX5_place_28 : decode cX5_place 28 = .ok (.aload_n 0, 1) := by decide +kernel
theorem dX5_place_29 : decode cX5_place 29 = .ok (.invokevirtual 91, 3) := by decide +kernel
theorem dX5_place_32 : decode cX5_place 32 = .ok (.iload_n 1, 1) := by decide +kernel
theorem dX5_place_33 : decode cX5_place 33 = .ok (.invokevirtual 119, 3) := by decide +kernel
theorem dX5_place_36 : decode cX5_place 36 = .ok (.ireturn, 1) := by decide +kernel
theorem dX5_place_37 : decode cX5_place 37 = .ok (.iload_n 2, 1) := by decide +kernel
theorem dX5_place_38 : decode cX5_place 38 = .ok (.bipush 10, 2) := by decide +kernel
theorem dX5_place_40 : decode cX5_place 40 = .ok (.if_icmp .lt 14, 3) := by decide +kernel
theorem dX5_place_43 : decode cX5_place 43 = .ok (.aload_n 0, 1) := by decide +kernel
theorem dX5_place_44 : decode cX5_place 44 = .ok (.iload_n 2, 1) := by decide +kernel
theorem dX5_place_45 : decode cX5_place 45 = .ok (.bipush 10, 2) := by decide +kernel
theorem dX5_place_47 : decode cX5_place 47 = .ok (.isub, 1) := by decide +kernel
theorem dX5_place_48 : decode cX5_place 48 = .ok (.invokevirtual 106, 3) := by decide +kernel
theorem dX5_place_51 : decode cX5_place 51 = .ok (.ifCond .ne 6, 3) := by decide +kernel
theorem dX5_place_54 : decode cX5_place 54 = .ok (.bipush (-2), 2) := by decide +kernel
theorem dX5_place_56 : decode cX5_place 56 = .ok (.ireturn, 1) := by decide +kernel
theorem dX5_place_57 : decode cX5_place 57 = .ok (.aload_n 0, 1) := by decide +kernel
theorem dX5_place_58 : decode cX5_place 58 = .ok (.invokevirtual 91, 3) := by decide +kernel
theorem dX5_place_61 : decode cX5_place 61 = .ok (.iload_n 1, 1) := by decide +kernel
theorem dX5_place_62 : decode cX5_place 62 = .ok (.iload_n 2, 1) := by decide +kernel
theorem dX5_place_63 : decode cX5_place 63 = .ok (.bipush 10, 2) := by decide +kernel
theorem dX5_place_65 : decode cX5_place 65 = .ok (.isub, 1) := by decide +kernel
theorem dX5_place_66 : decode cX5_place 66 = .ok (.invokevirtual 122, 3) := by decide +kernel
theorem dX5_place_69 : decode cX5_place 69 = .ok (.ireturn, 1) := by decide +kernel
theorem dX5_before_0 : decode cX5_before 0 = .ok (.aload_n 0, 1) := by decide +kernel
theorem dX5_before_1 : decode cX5_before 1 = .ok (.iload_n 1, 1) := by decide +kernel
theorem dX5_before_2 : decode cX5_before 2 = .ok (.invokevirtual 48, 3) := by decide +kernel
theorem dX5_before_5 : decode cX5_before 5 = .ok (.ifCond .eq 11, 3) := by decide +kernel
theorem dX5_before_8 : decode cX5_before 8 = .ok (.aload_n 0, 1) := by decide +kernel
theorem dX5_before_9 : decode cX5_before 9 = .ok (.iload_n 2, 1) := by decide +kernel
theorem dX5_before_10 : decode cX5_before 10 = .ok (.invokevirtual 48, 3) := by decide +kernel
theorem dX5_before_13 : decode cX5_before 13 = .ok (.ifCond .ne 5, 3) := by decide +kernel
theorem dX5_before_16 : decode cX5_before 16 = .ok (.iconst (-1), 1) := by decide +kernel
theorem dX5_before_17 : decode cX5_before 17 = .ok (.ireturn, 1) := by decide +kernel
theorem dX5_before_18 : decode cX5_before 18 = .ok (.iload_n 1, 1) := by decide +kernel
theorem dX5_before_19 : decode cX5_before 19 = .ok (.iload_n 2, 1) := by decide +kernel
theorem dX5_before_20 : decode cX5_before 20 = .ok (.if_icmp .ne 6, 3) := by decide +kernel
theorem dX5_before_23 : decode cX5_before 23 = .ok (.bipush (-2), 2) := by decide +kernel
theorem dX5_before_25 : decode cX5_before 25 = .ok (.ireturn, 1) := by decide +kernel
theorem dX5_before_26 : decode cX5_before 26 = .ok (.aload_n 0, 1) := by decide +kernel
theorem dX5_before_27 : decode cX5_before 27 = .ok (.invokevirtual 91, 3) := by decide +kernel
theorem dX5_before_30 : decode cX5_before 30 = .ok (.iload_n 1, 1) := by decide +kernel
theorem dX5_before_31 : decode cX5_before 31 = .ok (.iload_n 2, 1) := by decide +kernel
theorem dX5_before_32 : decode cX5_before 32 = .ok (.invokevirtual 125, 3) := by decide +kernel
theorem dX5_before_35 : decode cX5_before 35 = .ok (.ireturn, 1) := by decide +kernel
theorem dX5_together_0 : decode cX5_together 0 = .ok (.iload_n 1, 1) := by decide +kernel
theorem dX5_together_1 : decode cX5_together 1 = .ok (.iconst 1, 1) := by decide +kernel
theorem dX5_together_2 : decode cX5_together 2 = .ok (.if_icmp .lt 16, 3) := by decide +kernel
theorem dX5_together_5 : decode cX5_together 5 = .ok (.iload_n 1, 1) := by decide +kernel
theorem dX5_together_6 : decode cX5_together 6 = .ok (.iconst 1, 1) := by decide +kernel
theorem dX5_together_7 : decode cX5_together 7 = .ok (.aload_n 0, 1) := by decide +kernel
theorem dX5_together_8 : decode cX5_together 8 = .ok (.getfield 12, 3) := by decide +kernel
theorem dX5_together_11 : decode cX5_together 11 = .ok (.getfield 38, 3) := by decide +kernel
theorem dX5_together_14 : decode cX5_together 14 = .ok (.ishl, 1) := by decide +kernel
theorem dX5_together_15 : decode cX5_together 15 = .ok (.if_icmp .lt 6, 3) := by decide +kernel
theorem dX5_together_18 : decode cX5_together 18 = .ok (.bipush (-2), 2) := by decide +kernel
theorem dX5_together_20 : decode cX5_together 20 = .ok (.ireturn, 1) := by decide +kernel
theorem dX5_together_21 : decode cX5_together 21 = .ok (.aload_n 0, 1) := by decide +kernel
theorem dX5_together_22 : decode cX5_together 22 = .ok (.invokevirtual 91, 3) := by decide +kernel
theorem dX5_together_25 : decode cX5_together 25 = .ok (.iload_n 1, 1) := by decide +kernel
theorem dX5_together_26 : decode cX5_together 26 = .ok (.invokevirtual 128, 3) := by decide +kernel
theorem dX5_together_29 : decode cX5_together 29 = .ok (.ireturn, 1) := by decide +kernel
theorem dX5_clump_0 : decode cX5_clump 0 = .ok (.iload_n 1, 1) := by decide +kernel
theorem dX5_clump_1 : decode cX5_clump 1 = .ok (.iconst (-1), 1) := by decide +kernel
theorem dX5_clump_2 : decode cX5_clump 2 = .ok (.if_icmp .ge 6, 3) := by decide +kernel
theorem dX5_clump_5 : decode cX5_clump 5 = .ok (.bipush (-2), 2) := by decide +kernel
theorem dX5_clump_7 : decode cX5_clump 7 = .ok (.ireturn, 1) := by decide +kernel
theorem dX5_clump_8 : decode cX5_clump 8 = .ok (.aload_n 0, 1) := by decide +kernel
theorem dX5_clump_9 : decode cX5_clump 9 = .ok (.invokevirtual 91, 3) := by decide +kernel
theorem dX5_clump_12 : decode cX5_clump 12 = .ok (.astore_n 2, 1) := by decide +kernel
theorem dX5_clump_13 : decode cX5_clump 13 = .ok (.aload_n 2, 1) := by decide +kernel
theorem dX5_clump_14 : decode cX5_clump 14 = .ok (.invokevirtual 131, 3) := by decide +kernel
theorem dX5_clump_17 : decode cX5_clump 17 = .ok (.iload_n 1, 1) := by decide +kernel
theorem dX5_clump_18 : decode cX5_clump 18 = .ok (.iconst (-1), 1) := by decide +kernel
theorem dX5_clump_19 : decode cX5_clump 19 = .ok (.if_icmp .ne 8, 3) := by decide +kernel
theorem dX5_clump_22 : decode cX5_clump 22 = .ok (.aload_n 2, 1) := by decide +kernel
theorem dX5_clump_23 : decode cX5_clump 23 = .ok (.getfield 134, 3) := by decide +kernel
theorem dX5_clump_26 : decode cX5_clump 26 = .ok (.ireturn, 1) := by decide +kernel
theorem dX5_clump_27 : decode cX5_clump 27 = .ok (.iload_n 1, 1) := by decide +kernel
theorem dX5_clump_28 : decode cX5_clump 28 = .ok (.aload_n 2, 1) := by decide +kernel
theorem dX5_clump_29 : decode cX5_clump 29 = .ok (.getfield 134, 3) := by decide +kernel
theorem dX5_clump_32 : decode cX5_clump 32 = .ok (.if_icmp .ge 12, 3) := by decide +kernel
theorem dX5_clump_35 : decode cX5_clump 35 = .ok (.aload_n 2, 1) := by decide +kernel
theorem dX5_clump_36 : decode cX5_clump 36 = .ok (.getfield 137, 3) := by decide +kernel
theorem dX5_clump_39 : decode cX5_clump 39 = .ok (.iload_n 1, 1) := by decide +kernel
theorem dX5_clump_40 : decode cX5_clump 40 = .ok (.iaload, 1) := by decide +kernel
theorem dX5_clump_41 : decode cX5_clump 41 = .ok (.goto 5, 3) := by decide +kernel
theorem dX5_clump_44 : decode cX5_clump 44 = .ok (.bipush (-6), 2) := by decide +kernel
theorem dX5_clump_46 : decode cX5_clump 46 = .ok (.ireturn, 1) := by decide +kernel
theorem dX5_row_0 : decode cX5_row 0 = .ok (.aload_n 0, 1) := by decide +kernel
theorem dX5_row_1 : decode cX5_row 1 = .ok (.iload_n 1, 1) := by decide +kernel
theorem dX5_row_2 : decode cX5_row 2 = .ok (.invokevirtual 106, 3) := by decide +kernel
theorem dX5_row_5 : decode cX5_row 5 = .ok (.ifCond .eq 15, 3) := by decide +kernel
theorem dX5_row_8 : decode cX5_row 8 = .ok (.aload_n 0, 1) := by decide +kernel
theorem dX5_row_9 : decode cX5_row 9 = .ok (.getfield 12, 3) := by decide +kernel
theorem dX5_row_12 : decode cX5_row 12 = .ok (.getfield 140, 3) := by decide +kernel
theorem dX5_row_15 : decode cX5_row 15 = .ok (.iload_n 1, 1) := by decide +kernel
theorem dX5_row_16 : decode cX5_row 16 = .ok (.iaload, 1) := by decide +kernel
theorem dX5_row_17 : decode cX5_row 17 = .ok (.goto 5, 3) := by decide +kernel
theorem dX5_row_20 : decode cX5_row 20 = .ok (.bipush (-2), 2) := by decide +kernel
theorem dX5_row_22 : decode cX5_row 22 = .ok (.ireturn, 1) := by decide +kernel
theorem dX5_breaks_0 : decode cX5_breaks 0 = .ok (.iload_n 1, 1) := by decide +kernel
theorem dX5_breaks_1 : decode cX5_breaks 1 = .ok (.tableswitch 67 0 2 #[27, 38, 54], 27) := by decide +kernel
theorem dX5_breaks_28 : decode cX5_breaks 28 = .ok (.aload_n 0, 1) := by decide +kernel
theorem dX5_breaks_29 : decode cX5_breaks 29 = .ok (.getfield 12, 3) := by decide +kernel
theorem dX5_breaks_32 : decode cX5_breaks 32 = .ok (.sipush 1023, 3) := by decide +kernel
theorem dX5_breaks_35 : decode cX5_breaks 35 = .ok (.invokevirtual 88, 3) := by decide +kernel
theorem dX5_breaks_38 : decode cX5_breaks 38 = .ok (.ireturn, 1) := by decide +kernel
theorem dX5_breaks_39 : decode cX5_breaks 39 = .ok (.aload_n 0, 1) := by decide +kernel
theorem dX5_breaks_40 : decode cX5_breaks 40 = .ok (.getfield 12, 3) := by decide +kernel
theorem dX5_breaks_43 : decode cX5_breaks 43 = .ok (.invokevirtual 143, 3) := by decide +kernel
theorem dX5_breaks_46 : decode cX5_breaks 46 = .ok (.ifCond .eq 7, 3) := by decide +kernel
theorem dX5_breaks_49 : decode cX5_breaks 49 = .ok (.iconst 1, 1) := by decide +kernel
theorem dX5_breaks_50 : decode cX5_breaks 50 = .ok (.goto 4, 3) := by decide +kernel
theorem dX5_breaks_53 : decode cX5_breaks 53 = .ok (.iconst 0, 1) := by decide +kernel
theorem dX5_breaks_54 : decode cX5_breaks 54 = .ok (.ireturn, 1) := by decide +kernel
theorem dX5_breaks_55 : decode cX5_breaks 55 = .ok (.aload_n 0, 1) := by decide +kernel
theorem dX5_breaks_56 : decode cX5_breaks 56 = .ok (.invokevirtual 147, 3) := by decide +kernel
theorem dX5_breaks_59 : decode cX5_breaks 59 = .ok (.ifCond .eq 7, 3) := by decide +kernel
theorem dX5_breaks_62 : decode cX5_breaks 62 = .ok (.iconst 1, 1) := by decide +kernel
theorem dX5_breaks_63 : decode cX5_breaks 63 = .ok (.goto 4, 3) := by decide +kernel
theorem dX5_breaks_66 : decode cX5_breaks 66 = .ok (.iconst 0, 1) := by decide +kernel
theorem dX5_breaks_67 : decode cX5_breaks 67 = .ok (.ireturn, 1) := by decide +kernel
theorem dX5_breaks_68 : decode cX5_breaks 68 = .ok (.bipush (-2), 2) := by decide +kernel
theorem dX5_breaks_70 : decode cX5_breaks 70 = .ok (.ireturn, 1) := by decide +kernel
theorem dX5_swap_0 : decode cX5_swap 0 = .ok (.iload_n 1, 1) := by decide +kernel
theorem dX5_swap_1 : decode cX5_swap 1 = .ok (.ifCond .lt 16, 3) := by decide +kernel
theorem dX5_swap_4 : decode cX5_swap 4 = .ok (.iload_n 1, 1) := by decide +kernel
theorem dX5_swap_5 : decode cX5_swap 5 = .ok (.aload_n 0, 1) := by decide +kernel
theorem dX5_swap_6 : decode cX5_swap 6 = .ok (.getfield 12, 3) := by decide +kernel
theorem dX5_swap_9 : decode cX5_swap 9 = .ok (.getfield 38, 3) := by decide +kernel
theorem dX5_swap_12 : decode cX5_swap 12 = .ok (.iconst 1, 1) := by decide +kernel
theorem dX5_swap_13 : decode cX5_swap 13 = .ok (.isub, 1) := by decide +kernel
theorem dX5_swap_14 : decode cX5_swap 14 = .ok (.if_icmp .lt 6, 3) := by decide +kernel
theorem dX5_swap_17 : decode cX5_swap 17 = .ok (.bipush (-2), 2) := by decide +kernel
theorem dX5_swap_19 : decode cX5_swap 19 = .ok (.ireturn, 1) := by decide +kernel
theorem dX5_swap_20 : decode cX5_swap 20 = .ok (.aload_n 0, 1) := by decide +kernel
theorem dX5_swap_21 : decode cX5_swap 21 = .ok (.getfield 12, 3) := by decide +kernel
theorem dX5_swap_24 : decode cX5_swap 24 = .ok (.iload_n 1, 1) := by decide +kernel
theorem dX5_swap_25 : decode cX5_swap 25 = .ok (.invokevirtual 150, 3) := by decide +kernel
theorem dX5_swap_28 : decode cX5_swap 28 = .ok (.aload_n 0, 1) := by decide +kernel
theorem dX5_swap_29 : decode cX5_swap 29 = .ok (.iconst 0, 1) := by decide +kernel
theorem dX5_swap_30 : decode cX5_swap 30 = .ok (.putfield 35, 3) := by decide +kernel
theorem dX5_swap_33 : decode cX5_swap 33 = .ok (.aload_n 0, 1) := by decide +kernel
theorem dX5_swap_34 : decode cX5_swap 34 = .ok (.getfield 12, 3) := by decide +kernel
theorem dX5_swap_37 : decode cX5_swap 37 = .ok (.sipush 1023, 3) := by decide +kernel
theorem dX5_swap_40 : decode cX5_swap 40 = .ok (.invokevirtual 88, 3) := by decide +kernel
theorem dX5_swap_43 : decode cX5_swap 43 = .ok (.ireturn, 1) := by decide +kernel
theorem dX5_better_0 : decode cX5_better 0 = .ok (.aload_n 0, 1) := by decide +kernel
theorem dX5_better_1 : decode cX5_better 1 = .ok (.invokevirtual 153, 3) := by decide +kernel
theorem dX5_better_4 : decode cX5_better 4 = .ok (.ireturn, 1) := by decide +kernel
theorem dX5_climb_0 : decode cX5_climb 0 = .ok (.iconst 0, 1) := by decide +kernel
theorem dX5_climb_1 : decode cX5_climb 1 = .ok (.istore_n 1, 1) := by decide +kernel
theorem dX5_climb_2 : decode cX5_climb 2 = .ok (.iload_n 1, 1) := by decide +kernel
theorem dX5_climb_3 : decode cX5_climb 3 = .ok (.sipush 1000, 3) := by decide +kernel
theorem dX5_climb_6 : decode cX5_climb 6 = .ok (.if_icmp .ge 18, 3) := by decide +kernel
theorem dX5_climb_9 : decode cX5_climb 9 = .ok (.aload_n 0, 1) := by decide +kernel
theorem dX5_climb_10 : decode cX5_climb 10 = .ok (.invokevirtual 153, 3) := by decide +kernel
theorem dX5_climb_13 : decode cX5_climb 13 = .ok (.bipush (-6), 2) := by decide +kernel
theorem dX5_climb_15 : decode cX5_climb 15 = .ok (.if_icmp .eq 9, 3) := by decide +kernel
theorem dX5_climb_18 : decode cX5_climb 18 = .ok (.iinc 1 1, 3) := by decide +kernel
theorem dX5_climb_21 : decode cX5_climb 21 = .ok (.goto (-19), 3) := by decide +kernel
theorem dX5_climb_24 : decode cX5_climb 24 = .ok (.iload_n 1, 1) := by decide +kernel
theorem dX5_climb_25 : decode cX5_climb 25 = .ok (.ireturn, 1) := by decide +kernel
theorem dX5_nearest_0 : decode cX5_nearest 0 = .ok (.iload_n 1, 1) := by decide +kernel
theorem dX5_nearest_1 : decode cX5_nearest 1 = .ok (.iconst (-1), 1) := by decide +kernel
theorem dX5_nearest_2 : decode cX5_nearest 2 = .ok (.if_icmp .eq 14, 3) := by decide +kernel
theorem dX5_nearest_5 : decode cX5_nearest 5 = .ok (.aload_n 0, 1) := by decide +kernel
theorem dX5_nearest_6 : decode cX5_nearest 6 = .ok (.iload_n 1, 1) := by decide +kernel
theorem dX5_nearest_7 : decode cX5_nearest 7 = .ok (.invokevirtual 106, 3) := by decide +kernel
theorem dX5_nearest_10 : decode cX5_nearest 10 = .ok (.ifCond .ne 6, 3) := by decide +kernel
theorem dX5_nearest_13 : decode cX5_nearest 13 = .ok (.bipush (-2), 2) := by decide +kernel
theorem dX5_nearest_15 : decode cX5_nearest 15 = .ok (.ireturn, 1) := by decide +kernel
theorem dX5_nearest_16 : decode cX5_nearest 16 = .ok (.aload_n 0, 1) := by decide +kernel
theorem dX5_nearest_17 : decode cX5_nearest 17 = .ok (.invokevirtual 91, 3) := by decide +kernel
theorem dX5_nearest_20 : decode cX5_nearest 20 = .ok (.astore_n 2, 1) := by decide +kernel
theorem dX5_nearest_21 : decode cX5_nearest 21 = .ok (.aload_n 2, 1) := by decide +kernel
theorem dX5_nearest_22 : decode cX5_nearest 22 = .ok (.invokevirtual 99, 3) := by decide +kernel
theorem dX5_nearest_25 : decode cX5_nearest 25 = .ok (.ifCond .ne 6, 3) := by decide +kernel
theorem dX5_nearest_28 : decode cX5_nearest 28 = .ok (.bipush (-6), 2) := by decide +kernel
theorem dX5_nearest_30 : decode cX5_nearest 30 = .ok (.ireturn, 1) := by decide +kernel
theorem dX5_nearest_31 : decode cX5_nearest 31 = .ok (.aload_n 0, 1) := by decide +kernel
theorem dX5_nearest_32 : decode cX5_nearest 32 = .ok (.aload_n 2, 1) := by decide +kernel
theorem dX5_nearest_33 : decode cX5_nearest 33 = .ok (.invokevirtual 156, 3) := by decide +kernel
theorem dX5_nearest_36 : decode cX5_nearest 36 = .ok (.iload_n 1, 1) := by decide +kernel
theorem dX5_nearest_37 : decode cX5_nearest 37 = .ok (.iconst (-1), 1) := by decide +kernel
theorem dX5_nearest_38 : decode cX5_nearest 38 = .ok (.if_icmp .ne 10, 3) := by decide +kernel
theorem dX5_nearest_41 : decode cX5_nearest 41 = .ok (.aload_n 2, 1) := by decide +kernel
theorem dX5_nearest_42 : decode cX5_nearest 42 = .ok (.getfield 160, 3) := by decide +kernel
theorem dX5_nearest_45 : decode cX5_nearest 45 = .ok (.goto 9, 3) := by decide +kernel
theorem dX5_nearest_48 : decode cX5_nearest 48 = .ok (.aload_n 2, 1) := by decide +kernel
theorem dX5_nearest_49 : decode cX5_nearest 49 = .ok (.getfield 163, 3) := by decide +kernel
theorem dX5_nearest_52 : decode cX5_nearest 52 = .ok (.iload_n 1, 1) := by decide +kernel
theorem dX5_nearest_53 : decode cX5_nearest 53 = .ok (.iaload, 1) := by decide +kernel
theorem dX5_nearest_54 : decode cX5_nearest 54 = .ok (.ireturn, 1) := by decide +kernel
theorem dX5_settle_0 : decode cX5_settle 0 = .ok (.aload_n 0, 1) := by decide +kernel
theorem dX5_settle_1 : decode cX5_settle 1 = .ok (.invokevirtual 91, 3) := by decide +kernel
theorem dX5_settle_4 : decode cX5_settle 4 = .ok (.astore_n 1, 1) := by decide +kernel
theorem dX5_settle_5 : decode cX5_settle 5 = .ok (.aload_n 1, 1) := by decide +kernel
theorem dX5_settle_6 : decode cX5_settle 6 = .ok (.invokevirtual 99, 3) := by decide +kernel
theorem dX5_settle_9 : decode cX5_settle 9 = .ok (.ifCond .ne 6, 3) := by decide +kernel
theorem dX5_settle_12 : decode cX5_settle 12 = .ok (.bipush (-3), 2) := by decide +kernel
theorem dX5_settle_14 : decode cX5_settle 14 = .ok (.ireturn, 1) := by decide +kernel
theorem dX5_settle_15 : decode cX5_settle 15 = .ok (.aload_n 0, 1) := by decide +kernel
theorem dX5_settle_16 : decode cX5_settle 16 = .ok (.aload_n 1, 1) := by decide +kernel
theorem dX5_settle_17 : decode cX5_settle 17 = .ok (.invokevirtual 156, 3) := by decide +kernel
theorem dX5_settle_20 : decode cX5_settle 20 = .ok (.aload_n 1, 1) := by decide +kernel
theorem dX5_settle_21 : decode cX5_settle 21 = .ok (.getfield 160, 3) := by decide +kernel
theorem dX5_settle_24 : decode cX5_settle 24 = .ok (.istore_n 2, 1) := by decide +kernel
theorem dX5_settle_25 : decode cX5_settle 25 = .ok (.aload_n 1, 1) := by decide +kernel
theorem dX5_settle_26 : decode cX5_settle 26 = .ok (.getfield 163, 3) := by decide +kernel
theorem dX5_settle_29 : decode cX5_settle 29 = .ok (.iconst 0, 1) := by decide +kernel
theorem dX5_settle_30 : decode cX5_settle 30 = .ok (.aload_n 0, 1) := by decide +kernel
theorem dX5_settle_31 : decode cX5_settle 31 = .ok (.getfield 12, 3) := by decide +kernel
theorem dX5_settle_34 : decode cX5_settle 34 = .ok (.getfield 140, 3) := by decide +kernel
theorem dX5_settle_37 : decode cX5_settle 37 = .ok (.iconst 0, 1) := by decide +kernel
theorem dX5_settle_38 : decode cX5_settle 38 = .ok (.aload_n 0, 1) := by decide +kernel
theorem dX5_settle_39 : decode cX5_settle 39 = .ok (.getfield 12, 3) := by decide +kernel
theorem dX5_settle_42 : decode cX5_settle 42 = .ok (.getfield 38, 3) := by decide +kernel
theorem dX5_settle_45 : decode cX5_settle 45 = .ok (.invokestatic 166, 3) := by decide +kernel
theorem dX5_settle_48 : decode cX5_settle 48 = .ok (.aload_n 0, 1) := by decide +kernel
theorem dX5_settle_49 : decode cX5_settle 49 = .ok (.iconst 0, 1) := by decide +kernel
theorem dX5_settle_50 : decode cX5_settle 50 = .ok (.putfield 35, 3) := by decide +kernel
theorem dX5_settle_53 : decode cX5_settle 53 = .ok (.iload_n 2, 1) := by decide +kernel
theorem dX5_settle_54 : decode cX5_settle 54 = .ok (.ireturn, 1) := by decide +kernel
theorem dX5_count_0 : decode cX5_count 0 = .ok (.iload_n 1, 1) := by decide +kernel
theorem dX5_count_1 : decode cX5_count 1 = .ok (.tableswitch 66 0 3 #[31, 39, 50, 61], 31) := by decide +kernel
theorem dX5_count_32 : decode cX5_count 32 = .ok (.aload_n 0, 1) := by decide +kernel
theorem dX5_count_33 : decode cX5_count 33 = .ok (.getfield 12, 3) := by decide +kernel
theorem dX5_count_36 : decode cX5_count 36 = .ok (.getfield 38, 3) := by decide +kernel
theorem dX5_count_39 : decode cX5_count 39 = .ok (.ireturn, 1) := by decide +kernel
theorem dX5_count_40 : decode cX5_count 40 = .ok (.aload_n 0, 1) := by decide +kernel
theorem dX5_count_41 : decode cX5_count 41 = .ok (.getfield 12, 3) := by decide +kernel
theorem dX5_count_44 : decode cX5_count 44 = .ok (.getfield 58, 3) := by decide +kernel
theorem dX5_count_47 : decode cX5_count 47 = .ok (.invokestatic 75, 3) := by decide +kernel
theorem dX5_count_50 : decode cX5_count 50 = .ok (.ireturn, 1) := by decide +kernel
theorem dX5_count_51 : decode cX5_count 51 = .ok (.aload_n 0, 1) := by decide +kernel
theorem dX5_count_52 : decode cX5_count 52 = .ok (.getfield 12, 3) := by decide +kernel
theorem dX5_count_55 : decode cX5_count 55 = .ok (.getfield 72, 3) := by decide +kernel
theorem dX5_count_58 : decode cX5_count 58 = .ok (.invokestatic 75, 3) := by decide +kernel
theorem dX5_count_61 : decode cX5_count 61 = .ok (.ireturn, 1) := by decide +kernel
theorem dX5_count_62 : decode cX5_count 62 = .ok (.aload_n 0, 1) := by decide +kernel
theorem dX5_count_63 : decode cX5_count 63 = .ok (.getfield 20, 3) := by decide +kernel
theorem dX5_count_66 : decode cX5_count 66 = .ok (.ireturn, 1) := by decide +kernel
theorem dX5_count_67 : decode cX5_count 67 = .ok (.bipush (-2), 2) := by decide +kernel
theorem dX5_count_69 : decode cX5_count 69 = .ok (.ireturn, 1) := by decide +kernel
theorem dX5_image_0 : decode cX5_image 0 = .ok (.iload_n 1, 1) := by decide +kernel
theorem dX5_image_1 : decode cX5_image 1 = .ok (.invokestatic 172, 3) := by decide +kernel
theorem dX5_image_4 : decode cX5_image 4 = .ok (.ifCond .ne 6, 3) := by decide +kernel
theorem dX5_image_7 : decode cX5_image 7 = .ok (.bipush (-2), 2) := by decide +kernel
theorem dX5_image_9 : decode cX5_image 9 = .ok (.ireturn, 1) := by decide +kernel
theorem dX5_image_10 : decode cX5_image 10 = .ok (.aload_n 0, 1) := by decide +kernel
theorem dX5_image_11 : decode cX5_image 11 = .ok (.getfield 16, 3) := by decide +kernel
theorem dX5_image_14 : decode cX5_image 14 = .ok (.iload_n 1, 1) := by decide +kernel
theorem dX5_image_15 : decode cX5_image 15 = .ok (.aaload, 1) := by decide +kernel
theorem dX5_image_16 : decode cX5_image 16 = .ok (.aload_n 0, 1) := by decide +kernel
theorem dX5_image_17 : decode cX5_image 17 = .ok (.getfield 12, 3) := by decide +kernel
theorem dX5_image_20 : decode cX5_image 20 = .ok (.invokevirtual 175, 3) := by decide +kernel
theorem dX5_image_23 : decode cX5_image 23 = .ok (.aload_n 0, 1) := by decide +kernel
theorem dX5_image_24 : decode cX5_image 24 = .ok (.aload_n 0, 1) := by decide +kernel
theorem dX5_image_25 : decode cX5_image 25 = .ok (.getfield 20, 3) := by decide +kernel
theorem dX5_image_28 : decode cX5_image 28 = .ok (.iload_n 1, 1) := by decide +kernel
theorem dX5_image_29 : decode cX5_image 29 = .ok (.iconst 1, 1) := by decide +kernel
theorem dX5_image_30 : decode cX5_image 30 = .ok (.invokestatic 62, 3) := by decide +kernel
theorem dX5_image_33 : decode cX5_image 33 = .ok (.putfield 20, 3) := by decide +kernel
theorem dX5_image_36 : decode cX5_image 36 = .ok (.iconst 1, 1) := by decide +kernel
theorem dX5_image_37 : decode cX5_image 37 = .ok (.ireturn, 1) := by decide +kernel
theorem dX5_restore_0 : decode cX5_restore 0 = .ok (.iload_n 1, 1) := by decide +kernel
theorem dX5_restore_1 : decode cX5_restore 1 = .ok (.invokestatic 172, 3) := by decide +kernel
theorem dX5_restore_4 : decode cX5_restore 4 = .ok (.ifCond .ne 6, 3) := by decide +kernel
theorem dX5_restore_7 : decode cX5_restore 7 = .ok (.bipush (-2), 2) := by decide +kernel
theorem dX5_restore_9 : decode cX5_restore 9 = .ok (.ireturn, 1) := by decide +kernel
theorem dX5_restore_10 : decode cX5_restore 10 = .ok (.aload_n 0, 1) := by decide +kernel
theorem dX5_restore_11 : decode cX5_restore 11 = .ok (.getfield 20, 3) := by decide +kernel
theorem dX5_restore_14 : decode cX5_restore 14 = .ok (.iload_n 1, 1) := by decide +kernel
theorem dX5_restore_15 : decode cX5_restore 15 = .ok (.invokestatic 179, 3) := by decide +kernel
theorem dX5_restore_18 : decode cX5_restore 18 = .ok (.ifCond .ne 6, 3) := by decide +kernel
theorem dX5_restore_21 : decode cX5_restore 21 = .ok (.bipush (-3), 2) := by decide +kernel
theorem dX5_restore_23 : decode cX5_restore 23 = .ok (.ireturn, 1) := by decide +kernel
theorem dX5_restore_24 : decode cX5_restore 24 = .ok (.aload_n 0, 1) := by decide +kernel
theorem dX5_restore_25 : decode cX5_restore 25 = .ok (.getfield 12, 3) := by decide +kernel
theorem dX5_restore_28 : decode cX5_restore 28 = .ok (.aload_n 0, 1) := by decide +kernel
theorem dX5_restore_29 : decode cX5_restore 29 = .ok (.getfield 16, 3) := by decide +kernel
theorem dX5_restore_32 : decode cX5_restore 32 = .ok (.iload_n 1, 1) := by decide +kernel
theorem dX5_restore_33 : decode cX5_restore 33 = .ok (.aaload, 1) := by decide +kernel
theorem dX5_restore_34 : decode cX5_restore 34 = .ok (.invokevirtual 175, 3) := by decide +kernel
theorem dX5_restore_37 : decode cX5_restore 37 = .ok (.aload_n 0, 1) := by decide +kernel
theorem dX5_restore_38 : decode cX5_restore 38 = .ok (.invokevirtual 45, 3) := by decide +kernel
theorem dX5_restore_41 : decode cX5_restore 41 = .ok (.iconst 1, 1) := by decide +kernel
theorem dX5_restore_42 : decode cX5_restore 42 = .ok (.ireturn, 1) := by decide +kernel
theorem dX5_isGrave_0 : decode cX5_isGrave 0 = .ok (.iload_n 1, 1) := by decide +kernel
theorem dX5_isGrave_1 : decode cX5_isGrave 1 = .ok (.ifCond .lt 18, 3) := by decide +kernel
theorem dX5_isGrave_4 : decode cX5_isGrave 4 = .ok (.iload_n 1, 1) := by decide +kernel
theorem dX5_isGrave_5 : decode cX5_isGrave 5 = .ok (.aload_n 0, 1) := by decide +kernel
theorem dX5_isGrave_6 : decode cX5_isGrave 6 = .ok (.getfield 12, 3) := by decide +kernel
theorem dX5_isGrave_9 : decode cX5_isGrave 9 = .ok (.getfield 38, 3) := by decide +kernel
theorem dX5_isGrave_12 : decode cX5_isGrave 12 = .ok (.if_icmp .ge 7, 3) := by decide +kernel
theorem dX5_isGrave_15 : decode cX5_isGrave 15 = .ok (.iconst 1, 1) := by decide +kernel
theorem dX5_isGrave_16 : decode cX5_isGrave 16 = .ok (.goto 4, 3) := by decide +kernel
theorem dX5_isGrave_19 : decode cX5_isGrave 19 = .ok (.iconst 0, 1) := by decide +kernel
theorem dX5_isGrave_20 : decode cX5_isGrave 20 = .ok (.ireturn, 1) := by decide +kernel
theorem dX5_isPlace_0 : decode cX5_isPlace 0 = .ok (.iload_n 1, 1) := by decide +kernel
theorem dX5_isPlace_1 : decode cX5_isPlace 1 = .ok (.ifCond .lt 18, 3) := by decide +kernel
theorem dX5_isPlace_4 : decode cX5_isPlace 4 = .ok (.iload_n 1, 1) := by decide +kernel
theorem dX5_isPlace_5 : decode cX5_isPlace 5 = .ok (.aload_n 0, 1) := by decide +kernel
theorem dX5_isPlace_6 : decode cX5_isPlace 6 = .ok (.getfield 12, 3) := by decide +kernel
theorem dX5_isPlace_9 : decode cX5_isPlace 9 = .ok (.getfield 38, 3) := by decide +kernel
theorem dX5_isPlace_12 : decode cX5_isPlace 12 = .ok (.if_icmp .ge 7, 3) := by decide +kernel
theorem dX5_isPlace_15 : decode cX5_isPlace 15 = .ok (.iconst 1, 1) := by decide +kernel
theorem dX5_isPlace_16 : decode cX5_isPlace 16 = .ok (.goto 4, 3) := by decide +kernel
theorem dX5_isPlace_19 : decode cX5_isPlace 19 = .ok (.iconst 0, 1) := by decide +kernel
theorem dX5_isPlace_20 : decode cX5_isPlace 20 = .ok (.ireturn, 1) := by decide +kernel
theorem dX5_isSort_0 : decode cX5_isSort 0 = .ok (.iload_n 0, 1) := by decide +kernel
theorem dX5_isSort_1 : decode cX5_isSort 1 = .ok (.ifCond .lt 13, 3) := by decide +kernel
theorem dX5_isSort_4 : decode cX5_isSort 4 = .ok (.iload_n 0, 1) := by decide +kernel
theorem dX5_isSort_5 : decode cX5_isSort 5 = .ok (.bipush 10, 2) := by decide +kernel
theorem dX5_isSort_7 : decode cX5_isSort 7 = .ok (.if_icmp .ge 7, 3) := by decide +kernel
theorem dX5_isSort_10 : decode cX5_isSort 10 = .ok (.iconst 1, 1) := by decide +kernel
theorem dX5_isSort_11 : decode cX5_isSort 11 = .ok (.goto 4, 3) := by decide +kernel
theorem dX5_isSort_14 : decode cX5_isSort 14 = .ok (.iconst 0, 1) := by decide +kernel
theorem dX5_isSort_15 : decode cX5_isSort 15 = .ok (.ireturn, 1) := by decide +kernel
theorem dX5_isOnOrOff_0 : decode cX5_isOnOrOff 0 = .ok (.iload_n 0, 1) := by decide +kernel
theorem dX5_isOnOrOff_1 : decode cX5_isOnOrOff 1 = .ok (.ifCond .eq 8, 3) := by decide +kernel
theorem dX5_isOnOrOff_4 : decode cX5_isOnOrOff 4 = .ok (.iload_n 0, 1) := by decide +kernel
theorem dX5_isOnOrOff_5 : decode cX5_isOnOrOff 5 = .ok (.iconst 1, 1) := by decide +kernel
theorem dX5_isOnOrOff_6 : decode cX5_isOnOrOff 6 = .ok (.if_icmp .ne 7, 3) := by decide +kernel
theorem dX5_isOnOrOff_9 : decode cX5_isOnOrOff 9 = .ok (.iconst 1, 1) := by decide +kernel
theorem dX5_isOnOrOff_10 : decode cX5_isOnOrOff 10 = .ok (.goto 4, 3) := by decide +kernel
theorem dX5_isOnOrOff_13 : decode cX5_isOnOrOff 13 = .ok (.iconst 0, 1) := by decide +kernel
theorem dX5_isOnOrOff_14 : decode cX5_isOnOrOff 14 = .ok (.ireturn, 1) := by decide +kernel
theorem dX5_isImage_0 : decode cX5_isImage 0 = .ok (.iload_n 0, 1) := by decide +kernel
theorem dX5_isImage_1 : decode cX5_isImage 1 = .ok (.ifCond .lt 12, 3) := by decide +kernel
theorem dX5_isImage_4 : decode cX5_isImage 4 = .ok (.iload_n 0, 1) := by decide +kernel
theorem dX5_isImage_5 : decode cX5_isImage 5 = .ok (.iconst 2, 1) := by decide +kernel
theorem dX5_isImage_6 : decode cX5_isImage 6 = .ok (.if_icmp .ge 7, 3) := by decide +kernel
theorem dX5_isImage_9 : decode cX5_isImage 9 = .ok (.iconst 1, 1) := by decide +kernel
theorem dX5_isImage_10 : decode cX5_isImage 10 = .ok (.goto 4, 3) := by decide +kernel
theorem dX5_isImage_13 : decode cX5_isImage 13 = .ok (.iconst 0, 1) := by decide +kernel
theorem dX5_isImage_14 : decode cX5_isImage 14 = .ok (.ireturn, 1) := by decide +kernel
theorem dX5_isMember_0 : decode cX5_isMember 0 = .ok (.iload_n 0, 1) := by decide +kernel
theorem dX5_isMember_1 : decode cX5_isMember 1 = .ok (.iload_n 1, 1) := by decide +kernel
theorem dX5_isMember_2 : decode cX5_isMember 2 = .ok (.ishr, 1) := by decide +kernel
theorem dX5_isMember_3 : decode cX5_isMember 3 = .ok (.iconst 1, 1) := by decide +kernel
theorem dX5_isMember_4 : decode cX5_isMember 4 = .ok (.iand, 1) := by decide +kernel
theorem dX5_isMember_5 : decode cX5_isMember 5 = .ok (.ifCond .eq 7, 3) := by decide +kernel
theorem dX5_isMember_8 : decode cX5_isMember 8 = .ok (.iconst 1, 1) := by decide +kernel
theorem dX5_isMember_9 : decode cX5_isMember 9 = .ok (.goto 4, 3) := by decide +kernel
theorem dX5_isMember_12 : decode cX5_isMember 12 = .ok (.iconst 0, 1) := by decide +kernel
theorem dX5_isMember_13 : decode cX5_isMember 13 = .ok (.ireturn, 1) := by decide +kernel
theorem dX5_withMember_0 : decode cX5_withMember 0 = .ok (.iload_n 0, 1) := by decide +kernel
theorem dX5_withMember_1 : decode cX5_withMember 1 = .ok (.iconst 1, 1) := by decide +kernel
theorem dX5_withMember_2 : decode cX5_withMember 2 = .ok (.iload_n 1, 1) := by decide +kernel
theorem dX5_withMember_3 : decode cX5_withMember 3 = .ok (.ishl, 1) := by decide +kernel
theorem dX5_withMember_4 : decode cX5_withMember 4 = .ok (.iconst (-1), 1) := by decide +kernel
theorem dX5_withMember_5 : decode cX5_withMember 5 = .ok (.ixor, 1) := by decide +kernel
theorem dX5_withMember_6 : decode cX5_withMember 6 = .ok (.iand, 1) := by decide +kernel
theorem dX5_withMember_7 : decode cX5_withMember 7 = .ok (.iload_n 2, 1) := by decide +kernel
theorem dX5_withMember_8 : decode cX5_withMember 8 = .ok (.iload_n 1, 1) := by decide +kernel
theorem dX5_withMember_9 : decode cX5_withMember 9 = .ok (.ishl, 1) := by decide +kernel
theorem dX5_withMember_10 : decode cX5_withMember 10 = .ok (.ior, 1) := by decide +kernel
theorem dX5_withMember_11 : decode cX5_withMember 11 = .ok (.ireturn, 1) := by decide +kernel
theorem dX5_membersOfAll_0 : decode cX5_membersOfAll 0 = .ok (.iconst 0, 1) := by decide +kernel
theorem dX5_membersOfAll_1 : decode cX5_membersOfAll 1 = .ok (.istore_n 1, 1) := by decide +kernel
theorem dX5_membersOfAll_2 : decode cX5_membersOfAll 2 = .ok (.aload_n 0, 1) := by decide +kernel
theorem dX5_membersOfAll_3 : decode cX5_membersOfAll 3 = .ok (.astore_n 2, 1) := by decide +kernel
theorem dX5_membersOfAll_4 : decode cX5_membersOfAll 4 = .ok (.aload_n 2, 1) := by decide +kernel
theorem dX5_membersOfAll_5 : decode cX5_membersOfAll 5 = .ok (.arraylength, 1) := by decide +kernel
theorem dX5_membersOfAll_6 : decode cX5_membersOfAll 6 = .ok (.istore_n 3, 1) := by decide +kernel
theorem dX5_membersOfAll_7 : decode cX5_membersOfAll 7 = .ok (.iconst 0, 1) := by decide +kernel
theorem dX5_membersOfAll_8 : decode cX5_membersOfAll 8 = .ok (.istore 4, 2) := by decide +kernel
theorem dX5_membersOfAll_10 : decode cX5_membersOfAll 10 = .ok (.iload 4, 2) := by decide +kernel
theorem dX5_membersOfAll_12 : decode cX5_membersOfAll 12 = .ok (.iload_n 3, 1) := by decide +kernel
theorem dX5_membersOfAll_13 : decode cX5_membersOfAll 13 = .ok (.if_icmp .ge 23, 3) := by decide +kernel
theorem dX5_membersOfAll_16 : decode cX5_membersOfAll 16 = .ok (.aload_n 2, 1) := by decide +kernel
theorem dX5_membersOfAll_17 : decode cX5_membersOfAll 17 = .ok (.iload 4, 2) := by decide +kernel
theorem dX5_membersOfAll_19 : decode cX5_membersOfAll 19 = .ok (.iaload, 1) := by decide +kernel
theorem dX5_membersOfAll_20 : decode cX5_membersOfAll 20 = .ok (.istore 5, 2) := by decide +kernel
theorem dX5_membersOfAll_22 : decode cX5_membersOfAll 22 = .ok (.iload_n 1, 1) := by decide +kernel
theorem dX5_membersOfAll_23 : decode cX5_membersOfAll 23 = .ok (.iload 5, 2) := by decide +kernel
theorem dX5_membersOfAll_25 : decode cX5_membersOfAll 25 = .ok (.invokestatic 66, 3) := by decide +kernel
theorem dX5_membersOfAll_28 : decode cX5_membersOfAll 28 = .ok (.iadd, 1) := by decide +kernel
theorem dX5_membersOfAll_29 : decode cX5_membersOfAll 29 = .ok (.istore_n 1, 1) := by decide +kernel
theorem dX5_membersOfAll_30 : decode cX5_membersOfAll 30 = .ok (.iinc 4 1, 3) := by decide +kernel
theorem dX5_membersOfAll_33 : decode cX5_membersOfAll 33 = .ok (.goto (-23), 3) := by decide +kernel
theorem dX5_membersOfAll_36 : decode cX5_membersOfAll 36 = .ok (.iload_n 1, 1) := by decide +kernel
theorem dX5_membersOfAll_37 : decode cX5_membersOfAll 37 = .ok (.ireturn, 1) := by decide +kernel
theorem dX5_forgetBest_0 : decode cX5_forgetBest 0 = .ok (.aload_n 0, 1) := by decide +kernel
theorem dX5_forgetBest_1 : decode cX5_forgetBest 1 = .ok (.iconst 0, 1) := by decide +kernel
theorem dX5_forgetBest_2 : decode cX5_forgetBest 2 = .ok (.putfield 31, 3) := by decide +kernel
theorem dX5_forgetBest_5 : decode cX5_forgetBest 5 = .ok (.aload_n 0, 1) := by decide +kernel
theorem dX5_forgetBest_6 : decode cX5_forgetBest 6 = .ok (.iconst 0, 1) := by decide +kernel
theorem dX5_forgetBest_7 : decode cX5_forgetBest 7 = .ok (.putfield 35, 3) := by decide +kernel
theorem dX5_forgetBest_10 : decode cX5_forgetBest 10 = .ok (.return_, 1) := by decide +kernel
theorem dX5_knownBest_0 : decode cX5_knownBest 0 = .ok (.aload_n 0, 1) := by decide +kernel
theorem dX5_knownBest_1 : decode cX5_knownBest 1 = .ok (.getfield 31, 3) := by decide +kernel
theorem dX5_knownBest_4 : decode cX5_knownBest 4 = .ok (.ifCond .ne 19, 3) := by decide +kernel
theorem dX5_knownBest_7 : decode cX5_knownBest 7 = .ok (.aload_n 0, 1) := by decide +kernel
theorem dX5_knownBest_8 : decode cX5_knownBest 8 = .ok (.getfield 27, 3) := by decide +kernel
theorem dX5_knownBest_11 : decode cX5_knownBest 11 = .ok (.aload_n 0, 1) := by decide +kernel
theorem dX5_knownBest_12 : decode cX5_knownBest 12 = .ok (.getfield 12, 3) := by decide +kernel
theorem dX5_knownBest_15 : decode cX5_knownBest 15 = .ok (.invokevirtual 183, 3) := by decide +kernel
theorem dX5_knownBest_18 : decode cX5_knownBest 18 = .ok (.aload_n 0, 1) := by decide +kernel
theorem dX5_knownBest_19 : decode cX5_knownBest 19 = .ok (.iconst 1, 1) := by decide +kernel
theorem dX5_knownBest_20 : decode cX5_knownBest 20 = .ok (.putfield 31, 3) := by decide +kernel
theorem dX5_knownBest_23 : decode cX5_knownBest 23 = .ok (.aload_n 0, 1) := by decide +kernel
theorem dX5_knownBest_24 : decode cX5_knownBest 24 = .ok (.getfield 27, 3) := by decide +kernel
theorem dX5_knownBest_27 : decode cX5_knownBest 27 = .ok (.areturn, 1) := by decide +kernel
theorem dX5_knowWay_0 : decode cX5_knowWay 0 = .ok (.aload_n 0, 1) := by decide +kernel
theorem dX5_knowWay_1 : decode cX5_knowWay 1 = .ok (.getfield 35, 3) := by decide +kernel
theorem dX5_knowWay_4 : decode cX5_knowWay 4 = .ok (.ifCond .ne 16, 3) := by decide +kernel
theorem dX5_knowWay_7 : decode cX5_knowWay 7 = .ok (.aload_n 1, 1) := by decide +kernel
theorem dX5_knowWay_8 : decode cX5_knowWay 8 = .ok (.aload_n 0, 1) := by decide +kernel
theorem dX5_knowWay_9 : decode cX5_knowWay 9 = .ok (.getfield 12, 3) := by decide +kernel
theorem dX5_knowWay_12 : decode cX5_knowWay 12 = .ok (.invokevirtual 186, 3) := by decide +kernel
theorem dX5_knowWay_15 : decode cX5_knowWay 15 = .ok (.aload_n 0, 1) := by decide +kernel
theorem dX5_knowWay_16 : decode cX5_knowWay 16 = .ok (.iconst 1, 1) := by decide +kernel
theorem dX5_knowWay_17 : decode cX5_knowWay 17 = .ok (.putfield 35, 3) := by decide +kernel
theorem dX5_knowWay_20 : decode cX5_knowWay 20 = .ok (.return_, 1) := by decide +kernel
theorem dX5_lineIsBest_0 : decode cX5_lineIsBest 0 = .ok (.aload_n 0, 1) := by decide +kernel
theorem dX5_lineIsBest_1 : decode cX5_lineIsBest 1 = .ok (.invokevirtual 91, 3) := by decide +kernel
theorem dX5_lineIsBest_4 : decode cX5_lineIsBest 4 = .ok (.astore_n 1, 1) := by decide +kernel
theorem dX5_lineIsBest_5 : decode cX5_lineIsBest 5 = .ok (.aload_n 1, 1) := by decide +kernel
theorem dX5_lineIsBest_6 : decode cX5_lineIsBest 6 = .ok (.invokevirtual 99, 3) := by decide +kernel
theorem dX5_lineIsBest_9 : decode cX5_lineIsBest 9 = .ok (.ifCond .le 34, 3) := by decide +kernel
theorem dX5_lineIsBest_12 : decode cX5_lineIsBest 12 = .ok (.aload_n 0, 1) := by decide +kernel
theorem dX5_lineIsBest_13 : decode cX5_lineIsBest 13 = .ok (.getfield 12, 3) := by decide +kernel
theorem dX5_lineIsBest_16 : decode cX5_lineIsBest 16 = .ok (.invokevirtual 143, 3) := by decide +kernel
theorem dX5_lineIsBest_19 : decode cX5_lineIsBest 19 = .ok (.ifCond .eq 24, 3) := by decide +kernel
theorem dX5_lineIsBest_22 : decode cX5_lineIsBest 22 = .ok (.aload_n 0, 1) := by decide +kernel
theorem dX5_lineIsBest_23 : decode cX5_lineIsBest 23 = .ok (.getfield 12, 3) := by decide +kernel
theorem dX5_lineIsBest_26 : decode cX5_lineIsBest 26 = .ok (.sipush 1023, 3) := by decide +kernel
theorem dX5_lineIsBest_29 : decode cX5_lineIsBest 29 = .ok (.invokevirtual 88, 3) := by decide +kernel
theorem dX5_lineIsBest_32 : decode cX5_lineIsBest 32 = .ok (.aload_n 1, 1) := by decide +kernel
theorem dX5_lineIsBest_33 : decode cX5_lineIsBest 33 = .ok (.getfield 103, 3) := by decide +kernel
theorem dX5_lineIsBest_36 : decode cX5_lineIsBest 36 = .ok (.if_icmp .ne 7, 3) := by decide +kernel
theorem dX5_lineIsBest_39 : decode cX5_lineIsBest 39 = .ok (.iconst 1, 1) := by decide +kernel
theorem dX5_lineIsBest_40 : decode cX5_lineIsBest 40 = .ok (.goto 4, 3) := by decide +kernel
theorem dX5_lineIsBest_43 : decode cX5_lineIsBest 43 = .ok (.iconst 0, 1) := by decide +kernel
theorem dX5_lineIsBest_44 : decode cX5_lineIsBest 44 = .ok (.ireturn, 1) := by decide +kernel
theorem dX5_makeBestSwap_0 : decode cX5_makeBestSwap 0 = .ok (.aload_n 0, 1) := by decide +kernel
theorem dX5_makeBestSwap_1 : decode cX5_makeBestSwap 1 = .ok (.getfield 12, 3) := by decide +kernel
theorem dX5_makeBestSwap_4 : decode cX5_makeBestSwap 4 = .ok (.invokevirtual 189, 3) := by decide +kernel
theorem dX5_makeBestSwap_7 : decode cX5_makeBestSwap 7 = .ok (.istore_n 1, 1) := by decide +kernel
theorem dX5_makeBestSwap_8 : decode cX5_makeBestSwap 8 = .ok (.iload_n 1, 1) := by decide +kernel
theorem dX5_makeBestSwap_9 : decode cX5_makeBestSwap 9 = .ok (.bipush (-6), 2) := by decide +kernel
theorem dX5_makeBestSwap_11 : decode cX5_makeBestSwap 11 = .ok (.if_icmp .eq 16, 3) := by decide +kernel
theorem dX5_makeBestSwap_14 : decode cX5_makeBestSwap 14 = .ok (.aload_n 0, 1) := by decide +kernel
theorem dX5_makeBestSwap_15 : decode cX5_makeBestSwap 15 = .ok (.getfield 12, 3) := by decide +kernel
theorem dX5_makeBestSwap_18 : decode cX5_makeBestSwap 18 = .ok (.iload_n 1, 1) := by decide +kernel
theorem dX5_makeBestSwap_19 : decode cX5_makeBestSwap 19 = .ok (.invokevirtual 150, 3) := by decide +kernel
theorem dX5_makeBestSwap_22 : decode cX5_makeBestSwap 22 = .ok (.aload_n 0, 1) := by decide +kernel
theorem dX5_makeBestSwap_23 : decode cX5_makeBestSwap 23 = .ok (.iconst 0, 1) := by decide +kernel
theorem dX5_makeBestSwap_24 : decode cX5_makeBestSwap 24 = .ok (.putfield 35, 3) := by decide +kernel
theorem dX5_makeBestSwap_27 : decode cX5_makeBestSwap 27 = .ok (.iload_n 1, 1) := by decide +kernel
theorem dX5_makeBestSwap_28 : decode cX5_makeBestSwap 28 = .ok (.ireturn, 1) := by decide +kernel
